/-! the reference's small methods and its day -/
def wrN (v lo hi : Int32) : Int32 := if v < lo then -4 else if hi < v then -6 else 0
def wrB (w v m : Int32) : Int32 := if w = 0 ∧ ¬ (0 ≤ v ∧ v ≤ m) then -2 else w
theorem AF0 {x : PW} {k : Nat} {has : Int32} (e : kd x k = 0) : afterF x k has = (has &&& (tbI (wa x k) ^^^ (-1))) ||| tbI (gi x k) := if_pos e
theorem AF1 {x : PW} {k : Nat} {has : Int32} (e : kd x k = 1) : afterF x k has = has ||| tbI (gi x k) := by unfold afterF; rw [e]; rfl
theorem AF2 {x : PW} {k : Nat} {has : Int32} (e : kd x k = 2) : afterF x k has = eitherF has (tbI (wa x k)) (tbI (gi x k)) := by unfold afterF; rw [e]; rfl
theorem AF3 {x : PW} {k : Nat} {has : Int32} (e : kd x k = 3) : afterF x k has = has ||| tbI (gi x k) := by unfold afterF; rw [e]; rfl
theorem AF4 {x : PW} {k : Nat} {has : Int32} (e : kd x k = 4) : afterF x k has = (has ||| tbI (gi x k)) &&& (tbI (fg x k) ^^^ (-1)) := by unfold afterF; rw [e]; rfl
theorem AF5 {x : PW} {k : Nat} {has : Int32} (e : kd x k = 5) : afterF x k has = has ||| x.2.2.2.2.1 := by unfold afterF; rw [e]; rfl
theorem dLaw_neg {x : PW} {nv s : Int32} {i : Nat} (c : dLaw x nv s i < 0) (hx : x.2.2.1 ≤ 10 := by assumption) : dLaw x nv s i = -9 := by
  rcases firstF_or x (nI i) (dayS x nv s i).2 (nv ||| (dayS x nv s i).1) with h | ⟨j, hj, h⟩
  · exact h
  · have h2 : dLaw x nv s i = nI j := h
    rw [h2] at c
    exact absurd c (nI_pos (by omega))
theorem dLaw_pos {x : PW} {nv s : Int32} {i : Nat} (c : ¬ dLaw x nv s i < 0) : ∃ k, k < x.2.2.1 ∧ dLaw x nv s i = nI k := by
  rcases firstF_or x (nI i) (dayS x nv s i).2 (nv ||| (dayS x nv s i).1) with h | h
  · have h2 : dLaw x nv s i = -9 := h
    rw [h2] at c
    exact absurd (by decide) c
  · exact h
set_option maxHeartbeats 4000000 in
set_option maxRecDepth 100000 in
theorem S_X10_in (X : En) (l : Launch) {h : Hp} {v lo hi : Int64} : Ct X l mX10_in [aL v, aL lo, aL hi] h (QI (PI0 (bI (inI v lo hi)) h)) := by
  refine Ct.intro [some (aL v), none, some (aL lo), none, some (aL hi), none] (by decide +kernel) rfl (Nat.le_of_ble_eq_true rfl) ?_
  refine A_lload_n 1 dX10_in_0 rfl rfl rfl ?_
  refine A_lload_n 2 dX10_in_1 rfl rfl rfl ?_
  refine A_lcmp 3 dX10_in_2 rfl ?_
  refine A_if_lt 17 6 dX10_in_3 (by decide) rfl (fun c3 => ?_) (fun c3 => ?_)
  · skip
    try simp only [bI_0, bI_n0, Classical.not_not, Bool.not_eq_false, Bool.true_and, Bool.and_true, decide_eq_true_eq, decide_eq_false_iff_not, dayC_1, dayC_21, dayC_221, dayC_222] at c3
    have n3 := Int32.not_le.mpr c3
    replace c3 := Int64.not_le.mpr (lcmp_lt.mp c3)
    refine A_iconst 18 (0) dX10_in_17 rfl (by decide) ?_
    refine A_zret dX10_in_18 rfl (by first | with_reducible exact bI01 _ | with_reducible exact Or.inl rfl | with_reducible exact Or.inr rfl | assumption) ⟨_, rfl, (by simp [inI, bI, *]), rfl⟩
  · skip
    try simp only [bI_0, bI_n0, Classical.not_not, Bool.not_eq_false, Bool.true_and, Bool.and_true, decide_eq_true_eq, decide_eq_false_iff_not, dayC_1, dayC_21, dayC_221, dayC_222] at c3
    have n3 := Int32.not_lt.mp c3
    replace c3 := Int64.not_lt.mp (mt lcmp_lt.mpr c3)
    refine A_lload_n 7 dX10_in_6 rfl rfl rfl ?_
    refine A_lload 9 dX10_in_7 rfl rfl ?_
    refine A_lcmp 10 dX10_in_9 rfl ?_
    refine A_if_gt 17 13 dX10_in_10 (by decide) rfl (fun c10 => ?_) (fun c10 => ?_)
    · skip
      try simp only [bI_0, bI_n0, Classical.not_not, Bool.not_eq_false, Bool.true_and, Bool.and_true, decide_eq_true_eq, decide_eq_false_iff_not, dayC_1, dayC_21, dayC_221, dayC_222] at c10
      have n10 := Int32.not_le.mpr c10
      replace c10 := Int64.not_le.mpr (lcmp_gt.mp c10)
      refine A_iconst 18 (0) dX10_in_17 rfl (by decide) ?_
      refine A_zret dX10_in_18 rfl (by first | with_reducible exact bI01 _ | with_reducible exact Or.inl rfl | with_reducible exact Or.inr rfl | assumption) ⟨_, rfl, (by simp [inI, bI, *]), rfl⟩
    · skip
      try simp only [bI_0, bI_n0, Classical.not_not, Bool.not_eq_false, Bool.true_and, Bool.and_true, decide_eq_true_eq, decide_eq_false_iff_not, dayC_1, dayC_21, dayC_221, dayC_222] at c10
      have n10 := Int32.not_lt.mp c10
      replace c10 := Int64.not_lt.mp (mt lcmp_gt.mpr c10)
      refine A_iconst 14 (1) dX10_in_13 rfl (by decide) ?_
      refine A_goto 18 dX10_in_14 (by decide) ?_
      refine A_zret dX10_in_18 rfl (by first | with_reducible exact bI01 _ | with_reducible exact Or.inl rfl | with_reducible exact Or.inr rfl | assumption) ⟨_, rfl, (by simp [inI, bI, *]), rfl⟩
set_option maxHeartbeats 4000000 in
set_option maxRecDepth 100000 in
theorem S_X10_refuse (X : En) (l : Launch) {h : Hp} {x : PW} {nv : Int32} {c : RC} {z : RZ} (O28 : h 28 = some (rB x nv c z)) {k : Nat} (hk : k < 7) {v : Int32} (hv : -v = nI k) : Ct X l mX10_refuse [aR 28 0, aI v] h (QI (PI1 (v) h (28) (rB x nv (va_up c.1 k (c.1 k + 1), c.2) z))) := by
  have hf : ∀ i, i ≠ 28 → h i = h i := fun _ _ => rfl
  refine Ct.intro [some (aR 28 0), some (aI v)] (by decide +kernel) rfl (Nat.le_of_ble_eq_true rfl) ?_
  refine A_aload_n 1 dX10_refuse_0 rfl rfl rfl ?_
  refine A_getfield 4 dX10_refuse_1 rfl f_X10_25 O28 rfl ?_
  refine A_iload_n 5 dX10_refuse_4 rfl rfl rfl ?_
  refine A_ineg 6 dX10_refuse_5 rfl ?_
  rw [hv]
  refine A_dup2 7 dX10_refuse_6 rfl rfl rfl ?_
  refine A_iaload 8 dX10_refuse_7 rfl O28 rfl (by first | assumption | exact ix_nI (by omega) (by decide) | exact ix_lit _ rfl (by omega) (by decide) | exact ix_lit _ rfl (by decide) (by decide)) ?_
  try dsimp only
  refine A_iconst 9 (1) dX10_refuse_8 rfl (by decide) ?_
  refine A_iadd 10 dX10_refuse_9 rfl ?_
  refine T_X10_5 11 dX10_refuse_10 rfl O28 (by first | assumption | exact ix_nI (by omega) (by decide) | exact ix_lit _ rfl (by omega) (by decide) | exact ix_lit _ rfl (by decide) (by decide)) (fun h_1 nh_1 eh_1 => ?_)
  replace O28 := nh_1
  replace hf : ∀ i, i ≠ 28 → h_1 i = h i := fun i g0 => (eh_1 i g0).trans (hf i g0)
  try dsimp only at O28
  refine A_iload_n 12 dX10_refuse_11 rfl rfl rfl ?_
  refine A_iret dX10_refuse_12 rfl ⟨_, rfl, (by first | with_reducible rfl | (simp only [if_true, if_false, ite_true, ite_false, and_true, true_and, and_false, false_and, and_self, or_true, true_or, or_false, false_or, or_self, not_true_eq_false, not_false_eq_true, decide_true, decide_false, Bool.and_true, Bool.true_and, Bool.and_false, Bool.false_and, Bool.and_self, Bool.or_true, Bool.true_or, Bool.or_false, Bool.false_or, Bool.not_true, Bool.not_false, cond_true, cond_false, bI_t, bI_f, Bool.false_eq_true, Bool.true_eq_false, dayC_1, dayC_21, dayC_221, dayC_222]; done) | (simp only [*]; done) | (simp [bI, *]; done) | with_reducible_and_instances rfl), O28, hf⟩
set_option maxHeartbeats 4000000 in
set_option maxRecDepth 100000 in
theorem S_X10_isOne (X : En) (l : Launch) {h : Hp} {x : PW} {nv : Int32} {c : RC} {z : RZ} (O28 : h 28 = some (rB x nv c z)) (hp : x.2.2.2.1 ≤ 6) {i : Int32} : Ct X l mX10_isOne [aR 28 0, aI i] h (QI (PI0 (bI (inN i x.2.2.2.1)) h)) := by
  refine Ct.intro [some (aR 28 0), some (aI i)] (by decide +kernel) rfl (Nat.le_of_ble_eq_true rfl) ?_
  refine A_iload_n 1 dX10_isOne_0 rfl rfl rfl ?_
  refine A_i2l 2 dX10_isOne_1 rfl ?_
  refine A_lconst 3 (0) dX10_isOne_2 rfl (by decide) ?_
  refine A_aload_n 4 dX10_isOne_3 rfl rfl rfl ?_
  refine A_getfield 7 dX10_isOne_4 rfl f_X10_81 O28 rfl ?_
  try dsimp only
  refine A_iconst 8 (1) dX10_isOne_7 rfl (by decide) ?_
  refine A_isub 9 dX10_isOne_8 rfl ?_
  refine A_i2l 10 dX10_isOne_9 rfl ?_
  refine A_callSI 13 (S_X10_in X l) dX10_isOne_10 rfl kX10_in lk_X10_84 rfl (by decide) rfl (Nat.le_of_ble_eq_true rfl) (fun v_1 h_1 qh_1 => ?_)
  obtain ⟨rfl, rfl⟩ := qh_1
  refine A_zret dX10_isOne_13 rfl (by first | with_reducible exact bI01 _ | with_reducible exact Or.inl rfl | with_reducible exact Or.inr rfl | assumption) ⟨_, rfl, (by rw [inI_one (by omega)]), rfl⟩
set_option maxHeartbeats 4000000 in
set_option maxRecDepth 100000 in
theorem S_X10_isLaw (X : En) (l : Launch) {h : Hp} {x : PW} {nv : Int32} {c : RC} {z : RZ} (O28 : h 28 = some (rB x nv c z)) (hp : x.2.2.1 ≤ 10) {i : Int32} : Ct X l mX10_isLaw [aR 28 0, aI i] h (QI (PI0 (bI (inN i x.2.2.1)) h)) := by
  refine Ct.intro [some (aR 28 0), some (aI i)] (by decide +kernel) rfl (Nat.le_of_ble_eq_true rfl) ?_
  refine A_iload_n 1 dX10_isLaw_0 rfl rfl rfl ?_
  refine A_i2l 2 dX10_isLaw_1 rfl ?_
  refine A_lconst 3 (0) dX10_isLaw_2 rfl (by decide) ?_
  refine A_aload_n 4 dX10_isLaw_3 rfl rfl rfl ?_
  refine A_getfield 7 dX10_isLaw_4 rfl f_X10_88 O28 rfl ?_
  try dsimp only
  refine A_iconst 8 (1) dX10_isLaw_7 rfl (by decide) ?_
  refine A_isub 9 dX10_isLaw_8 rfl ?_
  refine A_i2l 10 dX10_isLaw_9 rfl ?_
  refine A_callSI 13 (S_X10_in X l) dX10_isLaw_10 rfl kX10_in lk_X10_84 rfl (by decide) rfl (Nat.le_of_ble_eq_true rfl) (fun v_1 h_1 qh_1 => ?_)
  obtain ⟨rfl, rfl⟩ := qh_1
  refine A_zret dX10_isLaw_13 rfl (by first | with_reducible exact bI01 _ | with_reducible exact Or.inl rfl | with_reducible exact Or.inr rfl | assumption) ⟨_, rfl, (by rw [inI_one (by omega)]), rfl⟩
set_option maxHeartbeats 4000000 in
set_option maxRecDepth 100000 in
theorem S_X10_isThing (X : En) (l : Launch) {h : Hp} {i : Int32} : Ct X l mX10_isThing [aI i] h (QI (PI0 (bI (inT i)) h)) := by
  refine Ct.intro [some (aI i)] (by decide +kernel) rfl (Nat.le_of_ble_eq_true rfl) ?_
  refine A_iload_n 1 dX10_isThing_0 rfl rfl rfl ?_
  refine A_i2l 2 dX10_isThing_1 rfl ?_
  refine A_lconst 3 (0) dX10_isThing_2 rfl (by decide) ?_
  refine A_ldc2_w 6 _ dX10_isThing_3 rfl cn_X10_91 ?_
  refine A_callSI 9 (S_X10_in X l) dX10_isThing_6 rfl kX10_in lk_X10_84 rfl (by decide) rfl (Nat.le_of_ble_eq_true rfl) (fun v_1 h_1 qh_1 => ?_)
  obtain ⟨rfl, rfl⟩ := qh_1
  refine A_zret dX10_isThing_9 rfl (by first | with_reducible exact bI01 _ | with_reducible exact Or.inl rfl | with_reducible exact Or.inr rfl | assumption) ⟨_, rfl, (by rw [← inI_thing]), rfl⟩
set_option maxHeartbeats 4000000 in
set_option maxRecDepth 100000 in
theorem S_X10_wrongNumber (X : En) (l : Launch) {h : Hp} {v lo hi : Int32} : Ct X l mX10_wrongNumber [aI v, aI lo, aI hi] h (QI (PI0 (wrN v lo hi) h)) := by
  refine Ct.intro [some (aI v), some (aI lo), some (aI hi)] (by decide +kernel) rfl (Nat.le_of_ble_eq_true rfl) ?_
  refine A_iload_n 1 dX10_wrongNumber_0 rfl rfl rfl ?_
  refine A_iload_n 2 dX10_wrongNumber_1 rfl rfl rfl ?_
  refine A_icmp_ge 10 5 dX10_wrongNumber_2 (by decide) rfl (fun c2 => ?_) (fun c2 => ?_)
  · skip
    try simp only [bI_0, bI_n0, Classical.not_not, Bool.not_eq_false, Bool.true_and, Bool.and_true, decide_eq_true_eq, decide_eq_false_iff_not, dayC_1, dayC_21, dayC_221, dayC_222] at c2
    have n2 := c2
    replace c2 := Int32.not_lt.mpr c2
    refine A_iload_n 11 dX10_wrongNumber_10 rfl rfl rfl ?_
    refine A_iload_n 12 dX10_wrongNumber_11 rfl rfl rfl ?_
    refine A_icmp_le 20 15 dX10_wrongNumber_12 (by decide) rfl (fun c12 => ?_) (fun c12 => ?_)
    · skip
      try simp only [bI_0, bI_n0, Classical.not_not, Bool.not_eq_false, Bool.true_and, Bool.and_true, decide_eq_true_eq, decide_eq_false_iff_not, dayC_1, dayC_21, dayC_221, dayC_222] at c12
      have n12 := c12
      replace c12 := Int32.not_lt.mpr c12
      refine A_iconst 21 (0) dX10_wrongNumber_20 rfl (by decide) ?_
      refine A_iret dX10_wrongNumber_21 rfl ⟨_, rfl, (by first | with_reducible rfl | (simp only [c2, n2, c12, n12, if_true, if_false, ite_true, ite_false, and_true, true_and, and_false, false_and, and_self, or_true, true_or, or_false, false_or, or_self, not_true_eq_false, not_false_eq_true, decide_true, decide_false, Bool.and_true, Bool.true_and, Bool.and_false, Bool.false_and, Bool.and_self, Bool.or_true, Bool.true_or, Bool.or_false, Bool.false_or, Bool.not_true, Bool.not_false, cond_true, cond_false, bI_t, bI_f, Bool.false_eq_true, Bool.true_eq_false, dayC_1, dayC_21, dayC_221, dayC_222, wrN]; done) | (simp only [*]; done) | (simp [bI, *, wrN]; done) | with_reducible_and_instances rfl), rfl⟩
    · skip
      try simp only [bI_0, bI_n0, Classical.not_not, Bool.not_eq_false, Bool.true_and, Bool.and_true, decide_eq_true_eq, decide_eq_false_iff_not, dayC_1, dayC_21, dayC_221, dayC_222] at c12
      have n12 := c12
      replace c12 := Int32.not_le.mp c12
      refine A_bipush 17 (-6) dX10_wrongNumber_15 rfl (by decide) ?_
      refine A_goto 21 dX10_wrongNumber_17 (by decide) ?_
      refine A_iret dX10_wrongNumber_21 rfl ⟨_, rfl, (by first | with_reducible rfl | (simp only [c2, n2, c12, n12, if_true, if_false, ite_true, ite_false, and_true, true_and, and_false, false_and, and_self, or_true, true_or, or_false, false_or, or_self, not_true_eq_false, not_false_eq_true, decide_true, decide_false, Bool.and_true, Bool.true_and, Bool.and_false, Bool.false_and, Bool.and_self, Bool.or_true, Bool.true_or, Bool.or_false, Bool.false_or, Bool.not_true, Bool.not_false, cond_true, cond_false, bI_t, bI_f, Bool.false_eq_true, Bool.true_eq_false, dayC_1, dayC_21, dayC_221, dayC_222, wrN]; done) | (simp only [*]; done) | (simp [bI, *, wrN]; done) | with_reducible_and_instances rfl), rfl⟩
  · skip
    try simp only [bI_0, bI_n0, Classical.not_not, Bool.not_eq_false, Bool.true_and, Bool.and_true, decide_eq_true_eq, decide_eq_false_iff_not, dayC_1, dayC_21, dayC_221, dayC_222] at c2
    have n2 := c2
    replace c2 := Int32.not_le.mp c2
    refine A_bipush 7 (-4) dX10_wrongNumber_5 rfl (by decide) ?_
    refine A_goto 21 dX10_wrongNumber_7 (by decide) ?_
    refine A_iret dX10_wrongNumber_21 rfl ⟨_, rfl, (by first | with_reducible rfl | (simp only [c2, n2, if_true, if_false, ite_true, ite_false, and_true, true_and, and_false, false_and, and_self, or_true, true_or, or_false, false_or, or_self, not_true_eq_false, not_false_eq_true, decide_true, decide_false, Bool.and_true, Bool.true_and, Bool.and_false, Bool.false_and, Bool.and_self, Bool.or_true, Bool.true_or, Bool.or_false, Bool.false_or, Bool.not_true, Bool.not_false, cond_true, cond_false, bI_t, bI_f, Bool.false_eq_true, Bool.true_eq_false, dayC_1, dayC_21, dayC_221, dayC_222, wrN]; done) | (simp only [*]; done) | (simp [bI, *, wrN]; done) | with_reducible_and_instances rfl), rfl⟩
set_option maxHeartbeats 4000000 in
set_option maxRecDepth 100000 in
theorem S_X10_wrongBit (X : En) (l : Launch) {h : Hp} {w v m : Int32} : Ct X l mX10_wrongBit [aI w, aI v, aI m] h (QI (PI0 (wrB w v m) h)) := by
  refine Ct.intro [some (aI w), some (aI v), some (aI m)] (by decide +kernel) rfl (Nat.le_of_ble_eq_true rfl) ?_
  refine A_iload_n 1 dX10_wrongBit_0 rfl rfl rfl ?_
  refine A_if_ne 20 4 dX10_wrongBit_1 (by decide) rfl (fun c1 => ?_) (fun c1 => ?_)
  · skip
    try simp only [bI_0, bI_n0, Classical.not_not, Bool.not_eq_false, Bool.true_and, Bool.and_true, decide_eq_true_eq, decide_eq_false_iff_not, dayC_1, dayC_21, dayC_221, dayC_222] at c1
    refine A_iload_n 21 dX10_wrongBit_20 rfl rfl rfl ?_
    refine A_iret dX10_wrongBit_21 rfl ⟨_, rfl, (by simp_all [wrB]), rfl⟩
  · skip
    try simp only [bI_0, bI_n0, Classical.not_not, Bool.not_eq_false, Bool.true_and, Bool.and_true, decide_eq_true_eq, decide_eq_false_iff_not, dayC_1, dayC_21, dayC_221, dayC_222] at c1
    refine A_iload_n 5 dX10_wrongBit_4 rfl rfl rfl ?_
    refine A_i2l 6 dX10_wrongBit_5 rfl ?_
    refine A_lconst 7 (0) dX10_wrongBit_6 rfl (by decide) ?_
    refine A_iload_n 8 dX10_wrongBit_7 rfl rfl rfl ?_
    refine A_i2l 9 dX10_wrongBit_8 rfl ?_
    refine A_callSI 12 (S_X10_in X l) dX10_wrongBit_9 rfl kX10_in lk_X10_84 rfl (by decide) rfl (Nat.le_of_ble_eq_true rfl) (fun v_1 h_1 qh_1 => ?_)
    obtain ⟨rfl, rfl⟩ := qh_1
    refine A_if_ne 20 15 dX10_wrongBit_12 (by decide) rfl (fun c12 => ?_) (fun c12 => ?_)
    · skip
      try simp only [bI_0, bI_n0, Classical.not_not, Bool.not_eq_false, Bool.true_and, Bool.and_true, decide_eq_true_eq, decide_eq_false_iff_not, dayC_1, dayC_21, dayC_221, dayC_222] at c12
      rw [i64_0, inI_le] at c12
      refine A_iload_n 21 dX10_wrongBit_20 rfl rfl rfl ?_
      refine A_iret dX10_wrongBit_21 rfl ⟨_, rfl, (by simp_all [wrB]), rfl⟩
    · skip
      try simp only [bI_0, bI_n0, Classical.not_not, Bool.not_eq_false, Bool.true_and, Bool.and_true, decide_eq_true_eq, decide_eq_false_iff_not, dayC_1, dayC_21, dayC_221, dayC_222] at c12
      rw [i64_0, inI_le] at c12
      refine A_bipush 17 (-2) dX10_wrongBit_15 rfl (by decide) ?_
      refine A_goto 21 dX10_wrongBit_17 (by decide) ?_
      refine A_iret dX10_wrongBit_21 rfl ⟨_, rfl, (by simp_all [wrB]), rfl⟩
set_option maxHeartbeats 4000000 in
set_option maxRecDepth 100000 in
theorem S_X10_hasBit (X : En) (l : Launch) {h : Hp} {b k : Int32} : Ct X l mX10_hasBit [aI b, aI k] h (QI (PI0 (bI (btI b k)) h)) := by
  refine Ct.intro [some (aI b), some (aI k)] (by decide +kernel) rfl (Nat.le_of_ble_eq_true rfl) ?_
  refine A_iload_n 1 dX10_hasBit_0 rfl rfl rfl ?_
  refine A_iload_n 2 dX10_hasBit_1 rfl rfl rfl ?_
  refine A_ishr 3 dX10_hasBit_2 rfl ?_
  refine A_iconst 4 (1) dX10_hasBit_3 rfl (by decide) ?_
  refine A_iand 5 dX10_hasBit_4 rfl ?_
  refine A_iconst 6 (1) dX10_hasBit_5 rfl (by decide) ?_
  refine A_icmp_ne 13 9 dX10_hasBit_6 (by decide) rfl (fun c6 => ?_) (fun c6 => ?_)
  · skip
    try simp only [bI_0, bI_n0, Classical.not_not, Bool.not_eq_false, Bool.true_and, Bool.and_true, decide_eq_true_eq, decide_eq_false_iff_not, dayC_1, dayC_21, dayC_221, dayC_222] at c6
    refine A_iconst 14 (0) dX10_hasBit_13 rfl (by decide) ?_
    refine A_zret dX10_hasBit_14 rfl (by first | with_reducible exact bI01 _ | with_reducible exact Or.inl rfl | with_reducible exact Or.inr rfl | assumption) ⟨_, rfl, (by rw [← hasBit_at]; simp [bI, *]), rfl⟩
  · skip
    try simp only [bI_0, bI_n0, Classical.not_not, Bool.not_eq_false, Bool.true_and, Bool.and_true, decide_eq_true_eq, decide_eq_false_iff_not, dayC_1, dayC_21, dayC_221, dayC_222] at c6
    refine A_iconst 10 (1) dX10_hasBit_9 rfl (by decide) ?_
    refine A_goto 14 dX10_hasBit_10 (by decide) ?_
    refine A_zret dX10_hasBit_14 rfl (by first | with_reducible exact bI01 _ | with_reducible exact Or.inl rfl | with_reducible exact Or.inr rfl | assumption) ⟨_, rfl, (by rw [← hasBit_at]; simp [bI, *]), rfl⟩
set_option maxHeartbeats 4000000 in
set_option maxRecDepth 100000 in
theorem S_X10_onesOf (X : En) (l : Launch) {h : Hp} {m : Nat} (hm : m < 1024) : Ct X l mX10_onesOf [aI (nI m)] h (QI (PI0 (bitC (nI m)) h)) := by
  refine Ct.intro [some (aI (nI m)), none, none] (by decide +kernel) rfl (Nat.le_of_ble_eq_true rfl) ?_
  refine A_iconst 1 (0) dX10_onesOf_0 rfl (by decide) ?_
  refine A_istore_n 2 dX10_onesOf_1 rfl rfl (by decide) (by first | exact (ast_1 rfl) | exact ast_k) ?_
  refine A_iload_n 3 dX10_onesOf_2 rfl rfl rfl ?_
  refine A_istore_n 4 dX10_onesOf_3 rfl rfl (by decide) (by first | exact (ast_s (ast_1 rfl)) | exact (ast_s ast_k)) ?_
  have L4 : ∀ (k : Nat) (u : Int32) , (k ≤ m) → (u + bitC (nI k) = bitC (nI m)) → Av X l mX10_onesOf 4 [some (aI (nI m)), some (aI (u)), some (aI (nI (k)))] [] h (QI (PI0 (bitC (nI m)) h)) := by
    intro k
    induction k using Nat.strongRecOn with
    | _ k ih =>
    intro u en ee
    refine A_iload_n 5 dX10_onesOf_4 rfl rfl rfl ?_
    refine A_if_eq 20 8 dX10_onesOf_5 (by decide) rfl (fun c5 => ?_) (fun c5 => ?_)
    · skip
      try simp only [bI_0, bI_n0, Classical.not_not, Bool.not_eq_false, Bool.true_and, Bool.and_true, decide_eq_true_eq, decide_eq_false_iff_not, dayC_1, dayC_21, dayC_221, dayC_222] at c5
      have e0 : k = 0 := by
        by_cases q : k = 0
        · exact q
        · exact absurd ((ninj (b := 0) (by omega) (by decide)).mp c5) q
      subst e0
      refine A_iload_n 21 dX10_onesOf_20 rfl rfl rfl ?_
      refine A_iret dX10_onesOf_21 rfl ⟨_, rfl, (by rw [← ee, bitC_0]; simp), rfl⟩
    · skip
      try simp only [bI_0, bI_n0, Classical.not_not, Bool.not_eq_false, Bool.true_and, Bool.and_true, decide_eq_true_eq, decide_eq_false_iff_not, dayC_1, dayC_21, dayC_221, dayC_222] at c5
      have k0 : k ≠ 0 := fun q => c5 (by rw [q]; rfl)
      obtain ⟨s1, s2, s3⟩ := ones_step k (by omega) k0
      first | refine A_iincN 11 dX10_onesOf_8 rfl rfl (by decide) (by first | exact (ast_1 rfl) | exact ast_k) ?_ | refine A_iinc 11 (1) dX10_onesOf_8 rfl rfl (by decide) (by decide) (by first | exact (ast_1 rfl) | exact ast_k) ?_
      refine A_iload_n 12 dX10_onesOf_11 rfl rfl rfl ?_
      refine A_iload_n 13 dX10_onesOf_12 rfl rfl rfl ?_
      refine A_iconst 14 (1) dX10_onesOf_13 rfl (by decide) ?_
      refine A_isub 15 dX10_onesOf_14 rfl ?_
      refine A_iand 16 dX10_onesOf_15 rfl ?_
      rw [s1]
      refine A_istore_n 17 dX10_onesOf_16 rfl rfl (by decide) (by first | exact (ast_s (ast_1 rfl)) | exact (ast_s ast_k)) ?_
      refine A_goto 4 dX10_onesOf_17 (by decide) ?_
      exact ih (k &&& (k - 1)) s3 _  (by omega) (by rw [s2] at ee; rw [← ee, Int32.add_assoc, Int32.add_comm 1]) 
  exact L4 (m) (_)  (by omega) (Int32.zero_add _) 
set_option maxHeartbeats 4000000 in
set_option maxRecDepth 100000 in
theorem S_X10_holdsIn (X : En) (l : Launch) {h : Hp} {x : PW} {nv : Int32} {c : RC} {z : RZ} (O28 : h 28 = some (rB x nv c z)) {k : Nat} (hk : k < 10) {hour has : Int32} (hx : LOK x) : Ct X l mX10_holdsIn [aR 28 0, aI (nI k), aI hour, aI has] h (QI (PI0 (bI (holdsF x k hour has && !decide (nI k = nv))) h)) := by
  refine Ct.intro [some (aR 28 0), some (aI (nI k)), some (aI hour), some (aI has), none] (by decide +kernel) rfl (Nat.le_of_ble_eq_true rfl) ?_
  refine A_iload_n 1 dX10_holdsIn_0 rfl rfl rfl ?_
  refine A_aload_n 2 dX10_holdsIn_1 rfl rfl rfl ?_
  refine A_getfield 5 dX10_holdsIn_2 rfl f_X10_16 O28 rfl ?_
  refine A_iload_n 6 dX10_holdsIn_5 rfl rfl rfl ?_
  refine A_iaload 7 dX10_holdsIn_6 rfl O28 rfl (by first | assumption | exact ix_nI (by omega) (by decide) | exact ix_lit _ rfl (by omega) (by decide) | exact ix_lit _ rfl (by decide) (by decide)) ?_
  try dsimp only
  refine A_callSI 10 (S_X10_hasBit X l) dX10_holdsIn_7 rfl kX10_hasBit lk_X10_93 rfl (by decide) rfl (Nat.le_of_ble_eq_true rfl) (fun v_1 h_1 qh_1 => ?_)
  obtain ⟨rfl, rfl⟩ := qh_1
  refine A_istore 12 dX10_holdsIn_10 rfl (by decide) (by first | exact (ast_s (ast_s (ast_s (ast_1 rfl)))) | exact (ast_s (ast_s (ast_s ast_k)))) ?_
  refine A_iload_n 13 dX10_holdsIn_12 rfl rfl rfl ?_
  refine A_aload_n 14 dX10_holdsIn_13 rfl rfl rfl ?_
  refine A_getfield 17 dX10_holdsIn_14 rfl f_X10_13 O28 rfl ?_
  refine A_iload_n 18 dX10_holdsIn_17 rfl rfl rfl ?_
  refine A_iaload 19 dX10_holdsIn_18 rfl O28 rfl (by first | assumption | exact ix_nI (by omega) (by decide) | exact ix_lit _ rfl (by omega) (by decide) | exact ix_lit _ rfl (by decide) (by decide)) ?_
  try dsimp only
  refine A_icmp_lt 30 22 dX10_holdsIn_19 (by decide) rfl (fun c19 => ?_) (fun c19 => ?_)
  · skip
    try simp only [bI_0, bI_n0, Classical.not_not, Bool.not_eq_false, Bool.true_and, Bool.and_true, decide_eq_true_eq, decide_eq_false_iff_not, dayC_1, dayC_21, dayC_221, dayC_222] at c19
    have n19 := Int32.not_le.mpr c19
    refine A_iconst 31 (0) dX10_holdsIn_30 rfl (by decide) ?_
    refine A_zret dX10_holdsIn_31 rfl (by first | with_reducible exact bI01 _ | with_reducible exact Or.inl rfl | with_reducible exact Or.inr rfl | assumption) ⟨_, rfl, (by simp [holdsF, kd, fg, wa, gi, bI, *]), rfl⟩
  · skip
    try simp only [bI_0, bI_n0, Classical.not_not, Bool.not_eq_false, Bool.true_and, Bool.and_true, decide_eq_true_eq, decide_eq_false_iff_not, dayC_1, dayC_21, dayC_221, dayC_222] at c19
    have n19 := Int32.not_lt.mp c19
    refine A_iload_n 23 dX10_holdsIn_22 rfl rfl rfl ?_
    refine A_aload_n 24 dX10_holdsIn_23 rfl rfl rfl ?_
    refine A_getfield 27 dX10_holdsIn_24 rfl f_X10_28 O28 rfl ?_
    try dsimp only
    refine A_icmp_ne 32 30 dX10_holdsIn_27 (by decide) rfl (fun c27 => ?_) (fun c27 => ?_)
    · skip
      try simp only [bI_0, bI_n0, Classical.not_not, Bool.not_eq_false, Bool.true_and, Bool.and_true, decide_eq_true_eq, decide_eq_false_iff_not, dayC_1, dayC_21, dayC_221, dayC_222] at c27
      refine A_aload_n 33 dX10_holdsIn_32 rfl rfl rfl ?_
      refine A_getfield 36 dX10_holdsIn_33 rfl f_X10_7 O28 rfl ?_
      refine A_iload_n 37 dX10_holdsIn_36 rfl rfl rfl ?_
      refine A_iaload 38 dX10_holdsIn_37 rfl O28 rfl (by first | assumption | exact ix_nI (by omega) (by decide) | exact ix_lit _ rfl (by omega) (by decide) | exact ix_lit _ rfl (by decide) (by decide)) ?_
      try dsimp only
      refine A_case (2) (fun e38_2 => ?_) (fun e38_2 => ?_)
      · skip
        refine A_switch 68 dX10_holdsIn_38 (by rw [e38_2]; decide) (by rw [e38_2]; rfl) (by decide) ?_
        refine A_iload 70 dX10_holdsIn_68 rfl rfl ?_
        refine A_if_ne 86 73 dX10_holdsIn_70 (by decide) rfl (fun c70 => ?_) (fun c70 => ?_)
        · skip
          try simp only [bI_0, bI_n0, Classical.not_not, Bool.not_eq_false, Bool.true_and, Bool.and_true, decide_eq_true_eq, decide_eq_false_iff_not, dayC_1, dayC_21, dayC_221, dayC_222] at c70
          refine A_iconst 87 (1) dX10_holdsIn_86 rfl (by decide) ?_
          refine A_goto 91 dX10_holdsIn_87 (by decide) ?_
          refine A_zret dX10_holdsIn_91 rfl (by first | with_reducible exact bI01 _ | with_reducible exact Or.inl rfl | with_reducible exact Or.inr rfl | assumption) ⟨_, rfl, (by simp [holdsF, kd, fg, wa, gi, bI, *]), rfl⟩
        · skip
          try simp only [bI_0, bI_n0, Classical.not_not, Bool.not_eq_false, Bool.true_and, Bool.and_true, decide_eq_true_eq, decide_eq_false_iff_not, dayC_1, dayC_21, dayC_221, dayC_222] at c70
          refine A_iload_n 74 dX10_holdsIn_73 rfl rfl rfl ?_
          refine A_aload_n 75 dX10_holdsIn_74 rfl rfl rfl ?_
          refine A_getfield 78 dX10_holdsIn_75 rfl f_X10_19 O28 rfl ?_
          refine A_iload_n 79 dX10_holdsIn_78 rfl rfl rfl ?_
          refine A_iaload 80 dX10_holdsIn_79 rfl O28 rfl (by first | assumption | exact ix_nI (by omega) (by decide) | exact ix_lit _ rfl (by omega) (by decide) | exact ix_lit _ rfl (by decide) (by decide)) ?_
          try dsimp only
          refine A_callSI 83 (S_X10_hasBit X l) dX10_holdsIn_80 rfl kX10_hasBit lk_X10_93 rfl (by decide) rfl (Nat.le_of_ble_eq_true rfl) (fun v_2 h_2 qh_2 => ?_)
          obtain ⟨rfl, rfl⟩ := qh_2
          refine A_if_eq 90 86 dX10_holdsIn_83 (by decide) rfl (fun c83 => ?_) (fun c83 => ?_)
          · skip
            try simp only [bI_0, bI_n0, Classical.not_not, Bool.not_eq_false, Bool.true_and, Bool.and_true, decide_eq_true_eq, decide_eq_false_iff_not, dayC_1, dayC_21, dayC_221, dayC_222] at c83
            refine A_iconst 91 (0) dX10_holdsIn_90 rfl (by decide) ?_
            refine A_zret dX10_holdsIn_91 rfl (by first | with_reducible exact bI01 _ | with_reducible exact Or.inl rfl | with_reducible exact Or.inr rfl | assumption) ⟨_, rfl, (by simp [holdsF, kd, fg, wa, gi, bI, *]), rfl⟩
          · skip
            try simp only [bI_0, bI_n0, Classical.not_not, Bool.not_eq_false, Bool.true_and, Bool.and_true, decide_eq_true_eq, decide_eq_false_iff_not, dayC_1, dayC_21, dayC_221, dayC_222] at c83
            refine A_iconst 87 (1) dX10_holdsIn_86 rfl (by decide) ?_
            refine A_goto 91 dX10_holdsIn_87 (by decide) ?_
            refine A_zret dX10_holdsIn_91 rfl (by first | with_reducible exact bI01 _ | with_reducible exact Or.inl rfl | with_reducible exact Or.inr rfl | assumption) ⟨_, rfl, (by simp [holdsF, kd, fg, wa, gi, bI, *]), rfl⟩
      refine A_case (3) (fun e38_3 => ?_) (fun e38_3 => ?_)
      · skip
        refine A_switch 92 dX10_holdsIn_38 (by rw [e38_3]; decide) (by rw [e38_3]; rfl) (by decide) ?_
        refine A_iload 94 dX10_holdsIn_92 rfl rfl ?_
        refine A_if_ne 101 97 dX10_holdsIn_94 (by decide) rfl (fun c94 => ?_) (fun c94 => ?_)
        · skip
          try simp only [bI_0, bI_n0, Classical.not_not, Bool.not_eq_false, Bool.true_and, Bool.and_true, decide_eq_true_eq, decide_eq_false_iff_not, dayC_1, dayC_21, dayC_221, dayC_222] at c94
          refine A_iconst 102 (0) dX10_holdsIn_101 rfl (by decide) ?_
          refine A_zret dX10_holdsIn_102 rfl (by first | with_reducible exact bI01 _ | with_reducible exact Or.inl rfl | with_reducible exact Or.inr rfl | assumption) ⟨_, rfl, (by simp [holdsF, kd, fg, wa, gi, bI, *]), rfl⟩
        · skip
          try simp only [bI_0, bI_n0, Classical.not_not, Bool.not_eq_false, Bool.true_and, Bool.and_true, decide_eq_true_eq, decide_eq_false_iff_not, dayC_1, dayC_21, dayC_221, dayC_222] at c94
          refine A_iconst 98 (1) dX10_holdsIn_97 rfl (by decide) ?_
          refine A_goto 102 dX10_holdsIn_98 (by decide) ?_
          refine A_zret dX10_holdsIn_102 rfl (by first | with_reducible exact bI01 _ | with_reducible exact Or.inl rfl | with_reducible exact Or.inr rfl | assumption) ⟨_, rfl, (by simp [holdsF, kd, fg, wa, gi, bI, *]), rfl⟩
      refine A_case (4) (fun e38_4 => ?_) (fun e38_4 => ?_)
      · skip
        refine A_switch 103 dX10_holdsIn_38 (by rw [e38_4]; decide) (by rw [e38_4]; rfl) (by decide) ?_
        refine A_iload 105 dX10_holdsIn_103 rfl rfl ?_
        refine A_if_eq 118 108 dX10_holdsIn_105 (by decide) rfl (fun c105 => ?_) (fun c105 => ?_)
        · skip
          try simp only [bI_0, bI_n0, Classical.not_not, Bool.not_eq_false, Bool.true_and, Bool.and_true, decide_eq_true_eq, decide_eq_false_iff_not, dayC_1, dayC_21, dayC_221, dayC_222] at c105
          refine A_iconst 119 (0) dX10_holdsIn_118 rfl (by decide) ?_
          refine A_zret dX10_holdsIn_119 rfl (by first | with_reducible exact bI01 _ | with_reducible exact Or.inl rfl | with_reducible exact Or.inr rfl | assumption) ⟨_, rfl, (by simp [holdsF, kd, fg, wa, gi, bI, *]), rfl⟩
        · skip
          try simp only [bI_0, bI_n0, Classical.not_not, Bool.not_eq_false, Bool.true_and, Bool.and_true, decide_eq_true_eq, decide_eq_false_iff_not, dayC_1, dayC_21, dayC_221, dayC_222] at c105
          refine A_iload_n 109 dX10_holdsIn_108 rfl rfl rfl ?_
          refine A_iconst 110 (2) dX10_holdsIn_109 rfl (by decide) ?_
          refine A_irem 111 dX10_holdsIn_110 rfl (by decide) ?_
          refine A_if_ne 118 114 dX10_holdsIn_111 (by decide) rfl (fun c111 => ?_) (fun c111 => ?_)
          · skip
            try simp only [bI_0, bI_n0, Classical.not_not, Bool.not_eq_false, Bool.true_and, Bool.and_true, decide_eq_true_eq, decide_eq_false_iff_not, dayC_1, dayC_21, dayC_221, dayC_222] at c111
            refine A_iconst 119 (0) dX10_holdsIn_118 rfl (by decide) ?_
            refine A_zret dX10_holdsIn_119 rfl (by first | with_reducible exact bI01 _ | with_reducible exact Or.inl rfl | with_reducible exact Or.inr rfl | assumption) ⟨_, rfl, (by simp [holdsF, kd, fg, wa, gi, bI, *]), rfl⟩
          · skip
            try simp only [bI_0, bI_n0, Classical.not_not, Bool.not_eq_false, Bool.true_and, Bool.and_true, decide_eq_true_eq, decide_eq_false_iff_not, dayC_1, dayC_21, dayC_221, dayC_222] at c111
            refine A_iconst 115 (1) dX10_holdsIn_114 rfl (by decide) ?_
            refine A_goto 119 dX10_holdsIn_115 (by decide) ?_
            refine A_zret dX10_holdsIn_119 rfl (by first | with_reducible exact bI01 _ | with_reducible exact Or.inl rfl | with_reducible exact Or.inr rfl | assumption) ⟨_, rfl, (by simp [holdsF, kd, fg, wa, gi, bI, *]), rfl⟩
      refine A_case (5) (fun e38_5 => ?_) (fun e38_5 => ?_)
      · skip
        refine A_switch 120 dX10_holdsIn_38 (by rw [e38_5]; decide) (by rw [e38_5]; rfl) (by decide) ?_
        refine A_iload 122 dX10_holdsIn_120 rfl rfl ?_
        refine A_if_ne 138 125 dX10_holdsIn_122 (by decide) rfl (fun c122 => ?_) (fun c122 => ?_)
        · skip
          try simp only [bI_0, bI_n0, Classical.not_not, Bool.not_eq_false, Bool.true_and, Bool.and_true, decide_eq_true_eq, decide_eq_false_iff_not, dayC_1, dayC_21, dayC_221, dayC_222] at c122
          refine A_aload_n 139 dX10_holdsIn_138 rfl rfl rfl ?_
          refine A_getfield 142 dX10_holdsIn_139 rfl f_X10_97 O28 rfl ?_
          try dsimp only
          refine A_if_eq 149 145 dX10_holdsIn_142 (by decide) rfl (fun c142 => ?_) (fun c142 => ?_)
          · skip
            try simp only [bI_0, bI_n0, Classical.not_not, Bool.not_eq_false, Bool.true_and, Bool.and_true, decide_eq_true_eq, decide_eq_false_iff_not, dayC_1, dayC_21, dayC_221, dayC_222] at c142
            refine A_iconst 150 (0) dX10_holdsIn_149 rfl (by decide) ?_
            refine A_zret dX10_holdsIn_150 rfl (by first | with_reducible exact bI01 _ | with_reducible exact Or.inl rfl | with_reducible exact Or.inr rfl | assumption) ⟨_, rfl, (by simp [holdsF, kd, fg, wa, gi, bI, *]), rfl⟩
          · skip
            try simp only [bI_0, bI_n0, Classical.not_not, Bool.not_eq_false, Bool.true_and, Bool.and_true, decide_eq_true_eq, decide_eq_false_iff_not, dayC_1, dayC_21, dayC_221, dayC_222] at c142
            refine A_iconst 146 (1) dX10_holdsIn_145 rfl (by decide) ?_
            refine A_goto 150 dX10_holdsIn_146 (by decide) ?_
            refine A_zret dX10_holdsIn_150 rfl (by first | with_reducible exact bI01 _ | with_reducible exact Or.inl rfl | with_reducible exact Or.inr rfl | assumption) ⟨_, rfl, (by simp [holdsF, kd, fg, wa, gi, bI, *]), rfl⟩
        · skip
          try simp only [bI_0, bI_n0, Classical.not_not, Bool.not_eq_false, Bool.true_and, Bool.and_true, decide_eq_true_eq, decide_eq_false_iff_not, dayC_1, dayC_21, dayC_221, dayC_222] at c122
          refine A_iload_n 126 dX10_holdsIn_125 rfl rfl rfl ?_
          refine A_aload_n 127 dX10_holdsIn_126 rfl rfl rfl ?_
          refine A_getfield 130 dX10_holdsIn_127 rfl f_X10_19 O28 rfl ?_
          refine A_iload_n 131 dX10_holdsIn_130 rfl rfl rfl ?_
          refine A_iaload 132 dX10_holdsIn_131 rfl O28 rfl (by first | assumption | exact ix_nI (by omega) (by decide) | exact ix_lit _ rfl (by omega) (by decide) | exact ix_lit _ rfl (by decide) (by decide)) ?_
          try dsimp only
          refine A_callSI 135 (S_X10_hasBit X l) dX10_holdsIn_132 rfl kX10_hasBit lk_X10_93 rfl (by decide) rfl (Nat.le_of_ble_eq_true rfl) (fun v_3 h_3 qh_3 => ?_)
          obtain ⟨rfl, rfl⟩ := qh_3
          refine A_if_eq 149 138 dX10_holdsIn_135 (by decide) rfl (fun c135 => ?_) (fun c135 => ?_)
          · skip
            try simp only [bI_0, bI_n0, Classical.not_not, Bool.not_eq_false, Bool.true_and, Bool.and_true, decide_eq_true_eq, decide_eq_false_iff_not, dayC_1, dayC_21, dayC_221, dayC_222] at c135
            refine A_iconst 150 (0) dX10_holdsIn_149 rfl (by decide) ?_
            refine A_zret dX10_holdsIn_150 rfl (by first | with_reducible exact bI01 _ | with_reducible exact Or.inl rfl | with_reducible exact Or.inr rfl | assumption) ⟨_, rfl, (by simp [holdsF, kd, fg, wa, gi, bI, *]), rfl⟩
          · skip
            try simp only [bI_0, bI_n0, Classical.not_not, Bool.not_eq_false, Bool.true_and, Bool.and_true, decide_eq_true_eq, decide_eq_false_iff_not, dayC_1, dayC_21, dayC_221, dayC_222] at c135
            refine A_aload_n 139 dX10_holdsIn_138 rfl rfl rfl ?_
            refine A_getfield 142 dX10_holdsIn_139 rfl f_X10_97 O28 rfl ?_
            try dsimp only
            refine A_if_eq 149 145 dX10_holdsIn_142 (by decide) rfl (fun c142 => ?_) (fun c142 => ?_)
            · skip
              try simp only [bI_0, bI_n0, Classical.not_not, Bool.not_eq_false, Bool.true_and, Bool.and_true, decide_eq_true_eq, decide_eq_false_iff_not, dayC_1, dayC_21, dayC_221, dayC_222] at c142
              refine A_iconst 150 (0) dX10_holdsIn_149 rfl (by decide) ?_
              refine A_zret dX10_holdsIn_150 rfl (by first | with_reducible exact bI01 _ | with_reducible exact Or.inl rfl | with_reducible exact Or.inr rfl | assumption) ⟨_, rfl, (by simp [holdsF, kd, fg, wa, gi, bI, *]), rfl⟩
            · skip
              try simp only [bI_0, bI_n0, Classical.not_not, Bool.not_eq_false, Bool.true_and, Bool.and_true, decide_eq_true_eq, decide_eq_false_iff_not, dayC_1, dayC_21, dayC_221, dayC_222] at c142
              refine A_iconst 146 (1) dX10_holdsIn_145 rfl (by decide) ?_
              refine A_goto 150 dX10_holdsIn_146 (by decide) ?_
              refine A_zret dX10_holdsIn_150 rfl (by first | with_reducible exact bI01 _ | with_reducible exact Or.inl rfl | with_reducible exact Or.inr rfl | assumption) ⟨_, rfl, (by simp [holdsF, kd, fg, wa, gi, bI, *]), rfl⟩
      rcases hx.kd6 hk with e | e | e | e | e | e
      · skip
        replace e : x.1 (k * 4) = 0 := e
        refine A_switchD 151 dX10_holdsIn_38 (by rw [show x.1 (k * 4) = _ from e]; decide) (by decide) ?_
        refine A_iload 153 dX10_holdsIn_151 rfl rfl ?_
        refine A_zret dX10_holdsIn_153 rfl (by first | with_reducible exact bI01 _ | with_reducible exact Or.inl rfl | with_reducible exact Or.inr rfl | assumption) ⟨_, rfl, (by simp [holdsF, kd, fg, wa, gi, bI, *]), rfl⟩
      · skip
        replace e : x.1 (k * 4) = 1 := e
        refine A_switchD 151 dX10_holdsIn_38 (by rw [show x.1 (k * 4) = _ from e]; decide) (by decide) ?_
        refine A_iload 153 dX10_holdsIn_151 rfl rfl ?_
        refine A_zret dX10_holdsIn_153 rfl (by first | with_reducible exact bI01 _ | with_reducible exact Or.inl rfl | with_reducible exact Or.inr rfl | assumption) ⟨_, rfl, (by simp [holdsF, kd, fg, wa, gi, bI, *]), rfl⟩
      · skip
        replace e : x.1 (k * 4) = 2 := e
        exact absurd e e38_2
      · skip
        replace e : x.1 (k * 4) = 3 := e
        exact absurd e e38_3
      · skip
        replace e : x.1 (k * 4) = 4 := e
        exact absurd e e38_4
      · skip
        replace e : x.1 (k * 4) = 5 := e
        exact absurd e e38_5
    · skip
      try simp only [bI_0, bI_n0, Classical.not_not, Bool.not_eq_false, Bool.true_and, Bool.and_true, decide_eq_true_eq, decide_eq_false_iff_not, dayC_1, dayC_21, dayC_221, dayC_222] at c27
      refine A_iconst 31 (0) dX10_holdsIn_30 rfl (by decide) ?_
      refine A_zret dX10_holdsIn_31 rfl (by first | with_reducible exact bI01 _ | with_reducible exact Or.inl rfl | with_reducible exact Or.inr rfl | assumption) ⟨_, rfl, (by simp [holdsF, kd, fg, wa, gi, bI, *]), rfl⟩
set_option maxHeartbeats 4000000 in
set_option maxRecDepth 100000 in
theorem S_X10_behindLaw (X : En) (l : Launch) {h : Hp} {x : PW} {nv : Int32} {c : RC} {z : RZ} (O28 : h 28 = some (rB x nv c z)) {k : Nat} (hk : k < 10) {has : Int32} (hx : LOK x) (hh : kd x k = 2 → btI has (wa x k) = true ∨ btI has (gi x k) = true) : Ct X l mX10_behindLaw [aR 28 0, aI (nI k), aI has] h (QI (PI0 (afterF x k has) h)) := by
  obtain ⟨-, ⟨f, hf, ef⟩, ⟨a, ha, ea⟩, ⟨b, hb, eb⟩⟩ := hx.2 k hk
  refine Ct.intro [some (aR 28 0), some (aI (nI k)), some (aI has), none, none] (by decide +kernel) rfl (Nat.le_of_ble_eq_true rfl) ?_
  refine A_iconst 1 (1) dX10_behindLaw_0 rfl (by decide) ?_
  refine A_aload_n 2 dX10_behindLaw_1 rfl rfl rfl ?_
  refine A_getfield 5 dX10_behindLaw_2 rfl f_X10_16 O28 rfl ?_
  refine A_iload_n 6 dX10_behindLaw_5 rfl rfl rfl ?_
  refine A_iaload 7 dX10_behindLaw_6 rfl O28 rfl (by first | assumption | exact ix_nI (by omega) (by decide) | exact ix_lit _ rfl (by omega) (by decide) | exact ix_lit _ rfl (by decide) (by decide)) ?_
  try dsimp only
  rw [show x.1 (k * 4 + 2) = nI a from ea]
  refine A_ishl 8 dX10_behindLaw_7 rfl ?_
  refine A_istore_n 9 dX10_behindLaw_8 rfl rfl (by decide) (by first | exact (ast_s (ast_s (ast_1 rfl))) | exact (ast_s (ast_s ast_k))) ?_
  refine A_iconst 10 (1) dX10_behindLaw_9 rfl (by decide) ?_
  refine A_aload_n 11 dX10_behindLaw_10 rfl rfl rfl ?_
  refine A_getfield 14 dX10_behindLaw_11 rfl f_X10_19 O28 rfl ?_
  refine A_iload_n 15 dX10_behindLaw_14 rfl rfl rfl ?_
  refine A_iaload 16 dX10_behindLaw_15 rfl O28 rfl (by first | assumption | exact ix_nI (by omega) (by decide) | exact ix_lit _ rfl (by omega) (by decide) | exact ix_lit _ rfl (by decide) (by decide)) ?_
  try dsimp only
  rw [show x.1 (k * 4 + 3) = nI b from eb]
  refine A_ishl 17 dX10_behindLaw_16 rfl ?_
  refine A_istore 19 dX10_behindLaw_17 rfl (by decide) (by first | exact (ast_s (ast_s (ast_s (ast_1 rfl)))) | exact (ast_s (ast_s (ast_s ast_k)))) ?_
  refine A_aload_n 20 dX10_behindLaw_19 rfl rfl rfl ?_
  refine A_getfield 23 dX10_behindLaw_20 rfl f_X10_7 O28 rfl ?_
  refine A_iload_n 24 dX10_behindLaw_23 rfl rfl rfl ?_
  refine A_iaload 25 dX10_behindLaw_24 rfl O28 rfl (by first | assumption | exact ix_nI (by omega) (by decide) | exact ix_lit _ rfl (by omega) (by decide) | exact ix_lit _ rfl (by decide) (by decide)) ?_
  try dsimp only
  refine A_case (0) (fun e25_0 => ?_) (fun e25_0 => ?_)
  · skip
    refine A_switch 64 dX10_behindLaw_25 (by rw [e25_0]; decide) (by rw [e25_0]; rfl) (by decide) ?_
    refine A_iload_n 65 dX10_behindLaw_64 rfl rfl rfl ?_
    refine A_iload_n 66 dX10_behindLaw_65 rfl rfl rfl ?_
    refine A_iconst 67 (-1) dX10_behindLaw_66 rfl (by decide) ?_
    refine A_ixor 68 dX10_behindLaw_67 rfl ?_
    refine A_iand 69 dX10_behindLaw_68 rfl ?_
    refine A_iload 71 dX10_behindLaw_69 rfl rfl ?_
    refine A_ior 72 dX10_behindLaw_71 rfl ?_
    refine A_iret dX10_behindLaw_72 rfl ⟨_, rfl, (by exact (AF0 e25_0).trans (by rw [ea, eb, tbI_nI ha, tbI_nI hb]; rfl)), rfl⟩
  refine A_case (1) (fun e25_1 => ?_) (fun e25_1 => ?_)
  · skip
    refine A_switch 151 dX10_behindLaw_25 (by rw [e25_1]; decide) (by rw [e25_1]; rfl) (by decide) ?_
    refine A_iload_n 152 dX10_behindLaw_151 rfl rfl rfl ?_
    refine A_iload 154 dX10_behindLaw_152 rfl rfl ?_
    refine A_ior 155 dX10_behindLaw_154 rfl ?_
    refine A_iret dX10_behindLaw_155 rfl ⟨_, rfl, (by first | exact (AF1 e25_1).trans (by rw [eb, tbI_nI hb]; rfl) | exact (AF3 e25_3).trans (by rw [eb, tbI_nI hb]; rfl)), rfl⟩
  refine A_case (2) (fun e25_2 => ?_) (fun e25_2 => ?_)
  · skip
    refine A_switch 73 dX10_behindLaw_25 (by rw [e25_2]; decide) (by rw [e25_2]; rfl) (by decide) ?_
    refine A_iload_n 74 dX10_behindLaw_73 rfl rfl rfl ?_
    refine A_iload_n 75 dX10_behindLaw_74 rfl rfl rfl ?_
    refine A_iand 76 dX10_behindLaw_75 rfl ?_
    refine A_if_ne 88 79 dX10_behindLaw_76 (by decide) rfl (fun c76 => ?_) (fun c76 => ?_)
    · skip
      try simp only [bI_0, bI_n0, Classical.not_not, Bool.not_eq_false, Bool.true_and, Bool.and_true, decide_eq_true_eq, decide_eq_false_iff_not, dayC_1, dayC_21, dayC_221, dayC_222] at c76
      refine A_iload_n 89 dX10_behindLaw_88 rfl rfl rfl ?_
      refine A_iload 91 dX10_behindLaw_89 rfl rfl ?_
      refine A_iand 92 dX10_behindLaw_91 rfl ?_
      refine A_if_ne 106 95 dX10_behindLaw_92 (by decide) rfl (fun c92 => ?_) (fun c92 => ?_)
      · skip
        try simp only [bI_0, bI_n0, Classical.not_not, Bool.not_eq_false, Bool.true_and, Bool.and_true, decide_eq_true_eq, decide_eq_false_iff_not, dayC_1, dayC_21, dayC_221, dayC_222] at c92
        refine A_iload_n 107 dX10_behindLaw_106 rfl rfl rfl ?_
        refine A_iload 109 dX10_behindLaw_107 rfl rfl ?_
        refine A_iconst 110 (-1) dX10_behindLaw_109 rfl (by decide) ?_
        refine A_ixor 111 dX10_behindLaw_110 rfl ?_
        refine A_iand 112 dX10_behindLaw_111 rfl ?_
        refine A_iret dX10_behindLaw_112 rfl ⟨_, rfl, (by first | exact (AF2 e25_2).trans ((by rw [ea, eb, tbI_nI ha, tbI_nI hb] : eitherF has (tbI (wa x k)) (tbI (gi x k)) = eitherF has (oneB (nI a)) (oneB (nI b))).trans (either_2 ha hb c76 c92).symm) | exact (AF2 e25_2).trans ((by rw [ea, eb, tbI_nI ha, tbI_nI hb] : eitherF has (tbI (wa x k)) (tbI (gi x k)) = eitherF has (oneB (nI a)) (oneB (nI b))).trans (either_3 c76 c92).symm)), rfl⟩
      · skip
        try simp only [bI_0, bI_n0, Classical.not_not, Bool.not_eq_false, Bool.true_and, Bool.and_true, decide_eq_true_eq, decide_eq_false_iff_not, dayC_1, dayC_21, dayC_221, dayC_222] at c92
        refine A_iload_n 96 dX10_behindLaw_95 rfl rfl rfl ?_
        refine A_iload_n 97 dX10_behindLaw_96 rfl rfl rfl ?_
        refine A_iconst 98 (-1) dX10_behindLaw_97 rfl (by decide) ?_
        refine A_ixor 99 dX10_behindLaw_98 rfl ?_
        refine A_iand 100 dX10_behindLaw_99 rfl ?_
        refine A_iload 102 dX10_behindLaw_100 rfl rfl ?_
        refine A_ior 103 dX10_behindLaw_102 rfl ?_
        refine A_goto 112 dX10_behindLaw_103 (by decide) ?_
        refine A_iret dX10_behindLaw_112 rfl ⟨_, rfl, (by first | exact (AF2 e25_2).trans ((by rw [ea, eb, tbI_nI ha, tbI_nI hb] : eitherF has (tbI (wa x k)) (tbI (gi x k)) = eitherF has (oneB (nI a)) (oneB (nI b))).trans (either_2 ha hb c76 c92).symm) | exact (AF2 e25_2).trans ((by rw [ea, eb, tbI_nI ha, tbI_nI hb] : eitherF has (tbI (wa x k)) (tbI (gi x k)) = eitherF has (oneB (nI a)) (oneB (nI b))).trans (either_3 c76 c92).symm)), rfl⟩
    · skip
      try simp only [bI_0, bI_n0, Classical.not_not, Bool.not_eq_false, Bool.true_and, Bool.and_true, decide_eq_true_eq, decide_eq_false_iff_not, dayC_1, dayC_21, dayC_221, dayC_222] at c76
      have h2 : btI has (nI b) = true := by
        have q := hh e25_2
        rw [ea, eb] at q
        exact q.resolve_left (fun z => (of_decide_eq_true z) c76)
      refine A_iload_n 80 dX10_behindLaw_79 rfl rfl rfl ?_
      refine A_iload 82 dX10_behindLaw_80 rfl rfl ?_
      refine A_iconst 83 (-1) dX10_behindLaw_82 rfl (by decide) ?_
      refine A_ixor 84 dX10_behindLaw_83 rfl ?_
      refine A_iand 85 dX10_behindLaw_84 rfl ?_
      refine A_iload_n 86 dX10_behindLaw_85 rfl rfl rfl ?_
      refine A_ior 87 dX10_behindLaw_86 rfl ?_
      refine A_iret dX10_behindLaw_87 rfl ⟨_, rfl, (by exact (AF2 e25_2).trans ((by rw [ea, eb, tbI_nI ha, tbI_nI hb] : eitherF has (tbI (wa x k)) (tbI (gi x k)) = eitherF has (oneB (nI a)) (oneB (nI b))).trans (either_1 ha hb c76 h2).symm)), rfl⟩
  refine A_case (3) (fun e25_3 => ?_) (fun e25_3 => ?_)
  · skip
    refine A_switch 151 dX10_behindLaw_25 (by rw [e25_3]; decide) (by rw [e25_3]; rfl) (by decide) ?_
    refine A_iload_n 152 dX10_behindLaw_151 rfl rfl rfl ?_
    refine A_iload 154 dX10_behindLaw_152 rfl rfl ?_
    refine A_ior 155 dX10_behindLaw_154 rfl ?_
    refine A_iret dX10_behindLaw_155 rfl ⟨_, rfl, (by first | exact (AF1 e25_1).trans (by rw [eb, tbI_nI hb]; rfl) | exact (AF3 e25_3).trans (by rw [eb, tbI_nI hb]; rfl)), rfl⟩
  refine A_case (4) (fun e25_4 => ?_) (fun e25_4 => ?_)
  · skip
    refine A_switch 113 dX10_behindLaw_25 (by rw [e25_4]; decide) (by rw [e25_4]; rfl) (by decide) ?_
    refine A_iload_n 114 dX10_behindLaw_113 rfl rfl rfl ?_
    refine A_iload 116 dX10_behindLaw_114 rfl rfl ?_
    refine A_ior 117 dX10_behindLaw_116 rfl ?_
    refine A_aload_n 118 dX10_behindLaw_117 rfl rfl rfl ?_
    refine A_getfield 121 dX10_behindLaw_118 rfl f_X10_13 O28 rfl ?_
    refine A_iload_n 122 dX10_behindLaw_121 rfl rfl rfl ?_
    refine A_iaload 123 dX10_behindLaw_122 rfl O28 rfl (by first | assumption | exact ix_nI (by omega) (by decide) | exact ix_lit _ rfl (by omega) (by decide) | exact ix_lit _ rfl (by decide) (by decide)) ?_
    try dsimp only
    rw [show x.1 (k * 4 + 1) = nI f from ef]
    refine A_bipush 125 (8) dX10_behindLaw_123 rfl (by decide) ?_
    refine A_icmp_ge 139 128 dX10_behindLaw_125 (by decide) rfl (fun c125 => ?_) (fun c125 => ?_)
    · skip
      try simp only [bI_0, bI_n0, Classical.not_not, Bool.not_eq_false, Bool.true_and, Bool.and_true, decide_eq_true_eq, decide_eq_false_iff_not, dayC_1, dayC_21, dayC_221, dayC_222] at c125
      have n125 := c125
      replace c125 := Int32.not_lt.mpr c125
      refine A_iconst 140 (0) dX10_behindLaw_139 rfl (by decide) ?_
      refine A_iconst 141 (-1) dX10_behindLaw_140 rfl (by decide) ?_
      refine A_ixor 142 dX10_behindLaw_141 rfl ?_
      refine A_iand 143 dX10_behindLaw_142 rfl ?_
      refine A_iret dX10_behindLaw_143 rfl ⟨_, rfl, (by refine (AF4 e25_4).trans ?_; rw [eb, ef, tbI_nI hb]; first | rw [tbI_big hf c125]; rfl | rw [tbI_nI (by have q := (nlt_iff (b := 8) (by omega) (by decide)).mp c125; omega)]; rfl), rfl⟩
    · skip
      try simp only [bI_0, bI_n0, Classical.not_not, Bool.not_eq_false, Bool.true_and, Bool.and_true, decide_eq_true_eq, decide_eq_false_iff_not, dayC_1, dayC_21, dayC_221, dayC_222] at c125
      have n125 := c125
      replace c125 := Int32.not_le.mp c125
      refine A_iconst 129 (1) dX10_behindLaw_128 rfl (by decide) ?_
      refine A_aload_n 130 dX10_behindLaw_129 rfl rfl rfl ?_
      refine A_getfield 133 dX10_behindLaw_130 rfl f_X10_13 O28 rfl ?_
      refine A_iload_n 134 dX10_behindLaw_133 rfl rfl rfl ?_
      refine A_iaload 135 dX10_behindLaw_134 rfl O28 rfl (by first | assumption | exact ix_nI (by omega) (by decide) | exact ix_lit _ rfl (by omega) (by decide) | exact ix_lit _ rfl (by decide) (by decide)) ?_
      try dsimp only
      rw [show x.1 (k * 4 + 1) = nI f from ef]
      refine A_ishl 136 dX10_behindLaw_135 rfl ?_
      refine A_goto 140 dX10_behindLaw_136 (by decide) ?_
      refine A_iconst 141 (-1) dX10_behindLaw_140 rfl (by decide) ?_
      refine A_ixor 142 dX10_behindLaw_141 rfl ?_
      refine A_iand 143 dX10_behindLaw_142 rfl ?_
      refine A_iret dX10_behindLaw_143 rfl ⟨_, rfl, (by refine (AF4 e25_4).trans ?_; rw [eb, ef, tbI_nI hb]; first | rw [tbI_big hf c125]; rfl | rw [tbI_nI (by have q := (nlt_iff (b := 8) (by omega) (by decide)).mp c125; omega)]; rfl), rfl⟩
  refine A_case (5) (fun e25_5 => ?_) (fun e25_5 => ?_)
  · skip
    refine A_switch 144 dX10_behindLaw_25 (by rw [e25_5]; decide) (by rw [e25_5]; rfl) (by decide) ?_
    refine A_iload_n 145 dX10_behindLaw_144 rfl rfl rfl ?_
    refine A_aload_n 146 dX10_behindLaw_145 rfl rfl rfl ?_
    refine A_getfield 149 dX10_behindLaw_146 rfl f_X10_97 O28 rfl ?_
    try dsimp only
    refine A_ior 150 dX10_behindLaw_149 rfl ?_
    refine A_iret dX10_behindLaw_150 rfl ⟨_, rfl, (by exact AF5 e25_5), rfl⟩
  rcases hx.kd6 hk with e | e | e | e | e | e
  · exact absurd e e25_0
  · exact absurd e e25_1
  · exact absurd e e25_2
  · exact absurd e e25_3
  · exact absurd e e25_4
  · exact absurd e e25_5
set_option maxHeartbeats 4000000 in
set_option maxRecDepth 100000 in
theorem S_X10_goDay (X : En) (l : Launch) {h : Hp} {x : PW} {nv : Int32} {c : RC} {z : RZ} (O28 : h 28 = some (rB x nv c z)) (hx : LOK x) (hn : NVok nv) {s : Int32} : Ct X l mX10_goDay [aR 28 0, aI s] h (QI (PI1 (dDone x (nvB nv) s) h (28) (rB x nv c ((dLaw x (nvB nv) s, dHas x (nvB nv) s), z.2)))) := by
  have h10 := hx.1
  have hf : ∀ i, i ≠ 28 → h i = h i := fun _ _ => rfl
  refine Ct.intro [some (aR 28 0), some (aI s), none, none, none, none, none] (by decide +kernel) rfl (Nat.le_of_ble_eq_true rfl) ?_
  refine A_iload_n 1 dX10_goDay_0 rfl rfl rfl ?_
  refine A_istore_n 2 dX10_goDay_1 rfl rfl (by decide) (by first | exact (ast_s (ast_1 rfl)) | exact (ast_s ast_k)) ?_
  refine A_iconst 3 (0) dX10_goDay_2 rfl (by decide) ?_
  refine A_istore_n 4 dX10_goDay_3 rfl rfl (by decide) (by first | exact (ast_s (ast_s (ast_1 rfl))) | exact (ast_s (ast_s ast_k))) ?_
  refine A_iconst 5 (0) dX10_goDay_4 rfl (by decide) ?_
  refine A_istore 7 dX10_goDay_5 rfl (by decide) (by first | exact (ast_s (ast_s (ast_s (ast_1 rfl)))) | exact (ast_s (ast_s (ast_s ast_k)))) ?_
  have L7 : ∀ (nq i : Nat)  (g7 : Hp) (f g : FI), (nq + i = 12) → ((∀ j, j < i → f j = dLaw x (nvB nv) s j) ∧ (∀ j, j < i → g j = dHas x (nvB nv) s j)) → (g7 28 = some (rB x nv c ((f, g), z.2))) → (∀ i, i ≠ 28 → g7 i = h i) → Av X l mX10_goDay 7 [some (aR 28 0), some (aI (s)), some (aI ((dayS x (nvB nv) s i).2)), some (aI ((dayS x (nvB nv) s i).1)), some (aI (nI (i))), none, none] [] g7 (QI (PI1 (dDone x (nvB nv) s) h (28) (rB x nv c ((dLaw x (nvB nv) s, dHas x (nvB nv) s), z.2)))) := by
    intro nq
    induction nq using Nat.strongRecOn with
    | _ nq ih =>
    intro i g7 f g en hy O28 hf
    refine A_iload 9 dX10_goDay_7 rfl rfl ?_
    refine A_bipush 11 (12) dX10_goDay_9 rfl (by decide) ?_
    refine A_icmp_ge 110 14 dX10_goDay_11 (by decide) rfl (fun c11 => ?_) (fun c11 => ?_)
    · skip
      obtain rfl := (up_ge_T (N := 12) c11 rfl (by omega) (by omega)).symm
      refine Av.extZ O28 hy.1 hy.2 (fun h_1 nh_1 eh_1 => ?_)
      replace O28 := nh_1
      replace hf : ∀ i, i ≠ 28 → h_1 i = h i := fun i g0 => (eh_1 i g0).trans (hf i g0)
      refine A_iload_n 111 dX10_goDay_110 rfl rfl rfl ?_
      refine A_iret dX10_goDay_111 rfl ⟨_, rfl, (by rfl), O28, hf⟩
    · skip
      have hi := up_ge_F (N := 12) c11 rfl (by omega) (by omega)
      obtain ⟨n0, rfl⟩ : ∃ q, nq = q + 1 := ⟨nq - 1, by omega⟩
      refine A_bipush 16 (-9) dX10_goDay_14 rfl (by decide) ?_
      refine A_istore 18 dX10_goDay_16 rfl (by decide) (by first | exact (ast_s (ast_s (ast_s (ast_s (ast_1 rfl))))) | exact (ast_s (ast_s (ast_s (ast_s ast_k))))) ?_
      refine A_aload_n 19 dX10_goDay_18 rfl rfl rfl ?_
      refine A_getfield 22 dX10_goDay_19 rfl f_X10_88 O28 rfl ?_
      try dsimp only
      refine A_iconst 23 (1) dX10_goDay_22 rfl (by decide) ?_
      refine A_isub 24 dX10_goDay_23 rfl ?_
      refine A_istore 26 dX10_goDay_24 rfl (by decide) (by first | exact (ast_s (ast_s (ast_s (ast_s (ast_s (ast_1 rfl)))))) | exact (ast_s (ast_s (ast_s (ast_s (ast_s ast_k)))))) ?_
      have L26 : ∀ (k : Nat) (u : Int32) , (k ≤ x.2.2.1) → (downF (dnF x nv (nI i) (dayS x (nvB nv) s i).2 (dayS x (nvB nv) s i).1) k (u) = downF (dnF x nv (nI i) (dayS x (nvB nv) s i).2 (dayS x (nvB nv) s i).1) (x.2.2.1) (-9)) → Av X l mX10_goDay 26 [some (aR 28 0), some (aI (s)), some (aI ((dayS x (nvB nv) s i).2)), some (aI ((dayS x (nvB nv) s i).1)), some (aI (nI (i))), some (aI (u)), some (aI (nI (k) - 1))] [] g7 (QI (PI1 (dDone x (nvB nv) s) h (28) (rB x nv c ((dLaw x (nvB nv) s, dHas x (nvB nv) s), z.2)))) := by
        intro k
        induction k using Nat.strongRecOn with
        | _ k ihb =>
        intro u enb eeb
        refine A_iload 28 dX10_goDay_26 rfl rfl ?_
        refine A_if_lt 67 31 dX10_goDay_28 (by decide) rfl (fun c28 => ?_) (fun c28 => ?_)
        · skip
          obtain rfl := dn_T c28 (by omega)
          have eu : u = dLaw x (nvB nv) s i := eeb.trans (dnF_firstF hn hx)
          subst eu
          refine A_iload 69 dX10_goDay_67 rfl rfl ?_
          refine A_if_lt 87 72 dX10_goDay_69 (by decide) rfl (fun c69 => ?_) (fun c69 => ?_)
          · skip
            try simp only [bI_0, bI_n0, Classical.not_not, Bool.not_eq_false, Bool.true_and, Bool.and_true, decide_eq_true_eq, decide_eq_false_iff_not, dayC_1, dayC_21, dayC_221, dayC_222] at c69
            have n69 := Int32.not_le.mpr c69
            have c42 := dLaw_neg c69
            have eD : dayS x (nvB nv) s (i + 1) = dayS x (nvB nv) s i := by rw [dayS_s, if_pos c42]
            rw [← eD]
            refine A_aload_n 88 dX10_goDay_87 rfl rfl rfl ?_
            refine A_getfield 91 dX10_goDay_88 rfl f_X10_32 O28 rfl ?_
            refine A_iload 93 dX10_goDay_91 rfl rfl ?_
            refine A_iload 95 dX10_goDay_93 rfl rfl ?_
            refine T_X10_6 96 dX10_goDay_95 rfl O28 (by first | assumption | exact ix_nI (by omega) (by decide) | exact ix_lit _ rfl (by omega) (by decide) | exact ix_lit _ rfl (by decide) (by decide)) (fun h_2 nh_2 eh_2 => ?_)
            replace O28 := nh_2
            replace hf : ∀ i, i ≠ 28 → h_2 i = h i := fun i g0 => (eh_2 i g0).trans (hf i g0)
            try dsimp only at O28
            refine A_aload_n 97 dX10_goDay_96 rfl rfl rfl ?_
            refine A_getfield 100 dX10_goDay_97 rfl f_X10_35 O28 rfl ?_
            refine A_iload 102 dX10_goDay_100 rfl rfl ?_
            refine A_iload_n 103 dX10_goDay_102 rfl rfl rfl ?_
            refine T_X10_7 104 dX10_goDay_103 rfl O28 (by first | assumption | exact ix_nI (by omega) (by decide) | exact ix_lit _ rfl (by omega) (by decide) | exact ix_lit _ rfl (by decide) (by decide)) (fun h_3 nh_3 eh_3 => ?_)
            replace O28 := nh_3
            replace hf : ∀ i, i ≠ 28 → h_3 i = h i := fun i g0 => (eh_3 i g0).trans (hf i g0)
            try dsimp only at O28
            first | refine A_iincN 107 dX10_goDay_104 rfl rfl (by decide) (by first | exact (ast_s (ast_s (ast_s (ast_1 rfl)))) | exact (ast_s (ast_s (ast_s ast_k)))) ?_ | refine A_iinc 107 (1) dX10_goDay_104 rfl rfl (by decide) (by decide) (by first | exact (ast_s (ast_s (ast_s (ast_1 rfl)))) | exact (ast_s (ast_s (ast_s ast_k)))) ?_
            refine A_goto 7 dX10_goDay_107 (by decide) ?_
            exact A_weak (ih n0 (Nat.lt_succ_self n0) (i + 1)  h_3 _ _ (by omega)  (⟨up_eq hy.1 rfl, up_eq hy.2 rfl⟩) O28 hf) (sub_s (sub_s (sub_s (sub_s (sub_s (sub_n (sub_n sub_nil)))))))
          · skip
            try simp only [bI_0, bI_n0, Classical.not_not, Bool.not_eq_false, Bool.true_and, Bool.and_true, decide_eq_true_eq, decide_eq_false_iff_not, dayC_1, dayC_21, dayC_221, dayC_222] at c69
            have n69 := Int32.not_lt.mp c69
            obtain ⟨k, hk, ek⟩ := dLaw_pos c69
            have c42 : ¬ dLaw x (nvB nv) s i = -9 := by rw [ek]; exact nI_ne9 (by omega)
            have eD : dayS x (nvB nv) s (i + 1) = ((dayS x (nvB nv) s i).1 ||| 1 <<< (nI k &&& 31), afterF x k (dayS x (nvB nv) s i).2) := by
              rw [dayS_s, if_neg c42, ek, nI_clamp (by omega)]; rfl
            have eh := firstF_holds hx (show k < 10 by omega) ek
            rw [ek]
            refine A_aload_n 73 dX10_goDay_72 rfl rfl rfl ?_
            refine A_iload 75 dX10_goDay_73 rfl rfl ?_
            refine A_iload_n 76 dX10_goDay_75 rfl rfl rfl ?_
            refine A_callVI 79 (S_X10_behindLaw X l O28 (show k < 10 by omega) hx (fun q => holds_either eh q)) dX10_goDay_76 rfl kX10_behindLaw lk_X10_104 rfl O28 (by decide) rfl (Nat.le_of_ble_eq_true rfl) (fun v_4 h_4 qh_4 => ?_)
            obtain ⟨rfl, rfl⟩ := qh_4
            refine A_istore_n 80 dX10_goDay_79 rfl rfl (by decide) (by first | exact (ast_s (ast_1 rfl)) | exact (ast_s ast_k)) ?_
            refine A_iload_n 81 dX10_goDay_80 rfl rfl rfl ?_
            refine A_iconst 82 (1) dX10_goDay_81 rfl (by decide) ?_
            refine A_iload 84 dX10_goDay_82 rfl rfl ?_
            refine A_ishl 85 dX10_goDay_84 rfl ?_
            refine A_ior 86 dX10_goDay_85 rfl ?_
            refine A_istore_n 87 dX10_goDay_86 rfl rfl (by decide) (by first | exact (ast_s (ast_s (ast_1 rfl))) | exact (ast_s (ast_s ast_k))) ?_
            rw [show afterF x k (dayS x (nvB nv) s i).2 = (dayS x (nvB nv) s (i + 1)).2 by rw [eD], show (dayS x (nvB nv) s i).1 ||| 1 <<< (nI k &&& 31) = (dayS x (nvB nv) s (i + 1)).1 by rw [eD], ← ek]
            refine A_aload_n 88 dX10_goDay_87 rfl rfl rfl ?_
            refine A_getfield 91 dX10_goDay_88 rfl f_X10_32 O28 rfl ?_
            refine A_iload 93 dX10_goDay_91 rfl rfl ?_
            refine A_iload 95 dX10_goDay_93 rfl rfl ?_
            refine T_X10_6 96 dX10_goDay_95 rfl O28 (by first | assumption | exact ix_nI (by omega) (by decide) | exact ix_lit _ rfl (by omega) (by decide) | exact ix_lit _ rfl (by decide) (by decide)) (fun h_5 nh_5 eh_5 => ?_)
            replace O28 := nh_5
            replace hf : ∀ i, i ≠ 28 → h_5 i = h i := fun i g0 => (eh_5 i g0).trans (hf i g0)
            try dsimp only at O28
            refine A_aload_n 97 dX10_goDay_96 rfl rfl rfl ?_
            refine A_getfield 100 dX10_goDay_97 rfl f_X10_35 O28 rfl ?_
            refine A_iload 102 dX10_goDay_100 rfl rfl ?_
            refine A_iload_n 103 dX10_goDay_102 rfl rfl rfl ?_
            refine T_X10_7 104 dX10_goDay_103 rfl O28 (by first | assumption | exact ix_nI (by omega) (by decide) | exact ix_lit _ rfl (by omega) (by decide) | exact ix_lit _ rfl (by decide) (by decide)) (fun h_6 nh_6 eh_6 => ?_)
            replace O28 := nh_6
            replace hf : ∀ i, i ≠ 28 → h_6 i = h i := fun i g0 => (eh_6 i g0).trans (hf i g0)
            try dsimp only at O28
            first | refine A_iincN 107 dX10_goDay_104 rfl rfl (by decide) (by first | exact (ast_s (ast_s (ast_s (ast_1 rfl)))) | exact (ast_s (ast_s (ast_s ast_k)))) ?_ | refine A_iinc 107 (1) dX10_goDay_104 rfl rfl (by decide) (by decide) (by first | exact (ast_s (ast_s (ast_s (ast_1 rfl)))) | exact (ast_s (ast_s (ast_s ast_k)))) ?_
            refine A_goto 7 dX10_goDay_107 (by decide) ?_
            exact A_weak (ih n0 (Nat.lt_succ_self n0) (i + 1)  h_6 _ _ (by omega)  (⟨up_eq hy.1 rfl, up_eq hy.2 rfl⟩) O28 hf) (sub_s (sub_s (sub_s (sub_s (sub_s (sub_n (sub_n sub_nil)))))))
        · skip
          obtain ⟨k0, rfl⟩ := dn_F c28
          have hib : k0 < x.2.2.1 := by omega
          rw [dn_s]
          refine A_iload_n 32 dX10_goDay_31 rfl rfl rfl ?_
          refine A_iload 34 dX10_goDay_32 rfl rfl ?_
          refine A_callSI 37 (S_X10_hasBit X l) dX10_goDay_34 rfl kX10_hasBit lk_X10_93 rfl (by decide) rfl (Nat.le_of_ble_eq_true rfl) (fun v_7 h_7 qh_7 => ?_)
          obtain ⟨rfl, rfl⟩ := qh_7
          refine A_if_ne 57 40 dX10_goDay_37 (by decide) rfl (fun c37 => ?_) (fun c37 => ?_)
          · skip
            try simp only [bI_0, bI_n0, Classical.not_not, Bool.not_eq_false, Bool.true_and, Bool.and_true, decide_eq_true_eq, decide_eq_false_iff_not, dayC_1, dayC_21, dayC_221, dayC_222] at c37
            refine A_iload 59 dX10_goDay_57 rfl rfl ?_
            refine A_istore 61 dX10_goDay_59 rfl (by decide) (by first | exact (ast_s (ast_s (ast_s (ast_s (ast_1 rfl))))) | exact (ast_s (ast_s (ast_s (ast_s ast_k))))) ?_
            first | refine A_idecN 64 dX10_goDay_61 rfl rfl (by decide) (by first | exact (ast_s (ast_s (ast_s (ast_s (ast_s (ast_1 rfl)))))) | exact (ast_s (ast_s (ast_s (ast_s (ast_s ast_k)))))) ?_ | refine A_iinc 64 (-1) dX10_goDay_61 rfl rfl (by decide) (by decide) (by first | exact (ast_s (ast_s (ast_s (ast_s (ast_s (ast_1 rfl)))))) | exact (ast_s (ast_s (ast_s (ast_s (ast_s ast_k)))))) ?_
            refine A_goto 26 dX10_goDay_64 (by decide) ?_
            exact ihb k0 (Nat.lt_succ_self k0) _  (by omega) (((congrArg (downF (dnF x nv (nI i) (dayS x (nvB nv) s i).2 (dayS x (nvB nv) s i).1) k0) (by first | (unfold dnF; rw [if_pos (by simp only [Bool.and_eq_true, Bool.not_eq_true', decide_eq_false_iff_not] at c49; exact ⟨c37, c49.1, c49.2⟩)]) | (unfold dnF; rw [if_neg (fun z => by simp [z.1, z.2.1, z.2.2] at c49)]) | (unfold dnF; rw [if_neg (fun z => by simp [z.1] at c37)]))).trans (downF_s _ _ _).symm).trans eeb) 
          · skip
            try simp only [bI_0, bI_n0, Classical.not_not, Bool.not_eq_false, Bool.true_and, Bool.and_true, decide_eq_true_eq, decide_eq_false_iff_not, dayC_1, dayC_21, dayC_221, dayC_222] at c37
            refine A_aload_n 41 dX10_goDay_40 rfl rfl rfl ?_
            refine A_iload 43 dX10_goDay_41 rfl rfl ?_
            refine A_iload 45 dX10_goDay_43 rfl rfl ?_
            refine A_iload_n 46 dX10_goDay_45 rfl rfl rfl ?_
            refine A_callVI 49 (S_X10_holdsIn X l (by first | assumption | decide | omega | exact Ne.symm (by assumption)) (by first | assumption | decide | omega | exact Ne.symm (by assumption)) (by first | assumption | decide | omega | exact Ne.symm (by assumption))) dX10_goDay_46 rfl kX10_holdsIn lk_X10_100 rfl O28 (by decide) rfl (Nat.le_of_ble_eq_true rfl) (fun v_8 h_8 qh_8 => ?_)
            obtain ⟨rfl, rfl⟩ := qh_8
            refine A_if_eq 57 52 dX10_goDay_49 (by decide) rfl (fun c49 => ?_) (fun c49 => ?_)
            · skip
              try simp only [bI_0, bI_n0, Classical.not_not, Bool.not_eq_false, Bool.true_and, Bool.and_true, decide_eq_true_eq, decide_eq_false_iff_not, dayC_1, dayC_21, dayC_221, dayC_222] at c49
              refine A_iload 59 dX10_goDay_57 rfl rfl ?_
              refine A_istore 61 dX10_goDay_59 rfl (by decide) (by first | exact (ast_s (ast_s (ast_s (ast_s (ast_1 rfl))))) | exact (ast_s (ast_s (ast_s (ast_s ast_k))))) ?_
              first | refine A_idecN 64 dX10_goDay_61 rfl rfl (by decide) (by first | exact (ast_s (ast_s (ast_s (ast_s (ast_s (ast_1 rfl)))))) | exact (ast_s (ast_s (ast_s (ast_s (ast_s ast_k)))))) ?_ | refine A_iinc 64 (-1) dX10_goDay_61 rfl rfl (by decide) (by decide) (by first | exact (ast_s (ast_s (ast_s (ast_s (ast_s (ast_1 rfl)))))) | exact (ast_s (ast_s (ast_s (ast_s (ast_s ast_k)))))) ?_
              refine A_goto 26 dX10_goDay_64 (by decide) ?_
              exact ihb k0 (Nat.lt_succ_self k0) _  (by omega) (((congrArg (downF (dnF x nv (nI i) (dayS x (nvB nv) s i).2 (dayS x (nvB nv) s i).1) k0) (by first | (unfold dnF; rw [if_pos (by simp only [Bool.and_eq_true, Bool.not_eq_true', decide_eq_false_iff_not] at c49; exact ⟨c37, c49.1, c49.2⟩)]) | (unfold dnF; rw [if_neg (fun z => by simp [z.1, z.2.1, z.2.2] at c49)]) | (unfold dnF; rw [if_neg (fun z => by simp [z.1] at c37)]))).trans (downF_s _ _ _).symm).trans eeb) 
            · skip
              try simp only [bI_0, bI_n0, Classical.not_not, Bool.not_eq_false, Bool.true_and, Bool.and_true, decide_eq_true_eq, decide_eq_false_iff_not, dayC_1, dayC_21, dayC_221, dayC_222] at c49
              refine A_iload 54 dX10_goDay_52 rfl rfl ?_
              refine A_goto 59 dX10_goDay_54 (by decide) ?_
              refine A_istore 61 dX10_goDay_59 rfl (by decide) (by first | exact (ast_s (ast_s (ast_s (ast_s (ast_1 rfl))))) | exact (ast_s (ast_s (ast_s (ast_s ast_k))))) ?_
              first | refine A_idecN 64 dX10_goDay_61 rfl rfl (by decide) (by first | exact (ast_s (ast_s (ast_s (ast_s (ast_s (ast_1 rfl)))))) | exact (ast_s (ast_s (ast_s (ast_s (ast_s ast_k)))))) ?_ | refine A_iinc 64 (-1) dX10_goDay_61 rfl rfl (by decide) (by decide) (by first | exact (ast_s (ast_s (ast_s (ast_s (ast_s (ast_1 rfl)))))) | exact (ast_s (ast_s (ast_s (ast_s (ast_s ast_k)))))) ?_
              refine A_goto 26 dX10_goDay_64 (by decide) ?_
              exact ihb k0 (Nat.lt_succ_self k0) _  (by omega) (((congrArg (downF (dnF x nv (nI i) (dayS x (nvB nv) s i).2 (dayS x (nvB nv) s i).1) k0) (by first | (unfold dnF; rw [if_pos (by simp only [Bool.and_eq_true, Bool.not_eq_true', decide_eq_false_iff_not] at c49; exact ⟨c37, c49.1, c49.2⟩)]) | (unfold dnF; rw [if_neg (fun z => by simp [z.1, z.2.1, z.2.2] at c49)]) | (unfold dnF; rw [if_neg (fun z => by simp [z.1] at c37)]))).trans (downF_s _ _ _).symm).trans eeb) 
      exact L26 (x.2.2.1) (_)  (by omega) (rfl) 
  exact A_weak (L7 (12) (0)  h (z.1.1) (z.1.2) (by omega)  (⟨fun j hj => absurd hj (Nat.not_lt_zero j), fun j hj => absurd hj (Nat.not_lt_zero j)⟩) O28 hf) (sub_s (sub_s (sub_s (sub_s (sub_s (sub_n (sub_n sub_nil)))))))
set_option maxHeartbeats 4000000 in
set_option maxRecDepth 100000 in
theorem S_X10_doneBy (X : En) (l : Launch) {h : Hp} {x : PW} {nv : Int32} {c : RC} {z : RZ} (O28 : h 28 = some (rB x nv c z)) (hx : LOK x) (hn : NVok nv) {p : Nat} (hp : p < 6) : Ct X l mX10_doneBy [aR 28 0, aI (nI p)] h (QI (PI1 (dDone x (nvB nv) (x.2.1 p)) h (28) (rB x nv c ((dLaw x (nvB nv) (x.2.1 p), dHas x (nvB nv) (x.2.1 p)), z.2)))) := by
  have hf : ∀ i, i ≠ 28 → h i = h i := fun _ _ => rfl
  refine Ct.intro [some (aR 28 0), some (aI (nI p))] (by decide +kernel) rfl (Nat.le_of_ble_eq_true rfl) ?_
  refine A_aload_n 1 dX10_doneBy_0 rfl rfl rfl ?_
  refine A_aload_n 2 dX10_doneBy_1 rfl rfl rfl ?_
  refine A_getfield 5 dX10_doneBy_2 rfl f_X10_22 O28 rfl ?_
  refine A_iload_n 6 dX10_doneBy_5 rfl rfl rfl ?_
  refine A_iaload 7 dX10_doneBy_6 rfl O28 rfl (by first | assumption | exact ix_nI (by omega) (by decide) | exact ix_lit _ rfl (by omega) (by decide) | exact ix_lit _ rfl (by decide) (by decide)) ?_
  try dsimp only
  refine A_callVI 10 (S_X10_goDay X l (by first | assumption | decide | omega | exact Ne.symm (by assumption)) (by first | assumption | decide | omega | exact Ne.symm (by assumption)) (by first | assumption | decide | omega | exact Ne.symm (by assumption))) dX10_doneBy_7 rfl kX10_goDay lk_X10_108 rfl O28 (by decide) rfl (Nat.le_of_ble_eq_true rfl) (fun v_1 h_1 qh_1 => ?_)
  obtain ⟨rfl, n0h_1, eh_1⟩ := qh_1
  replace O28 := n0h_1
  replace hf : ∀ i, i ≠ 28 → h_1 i = h i := fun i g0 => (eh_1 i g0).trans (hf i g0)
  refine A_iret dX10_doneBy_10 rfl ⟨_, rfl, (by first | with_reducible rfl | (simp only [if_true, if_false, ite_true, ite_false, and_true, true_and, and_false, false_and, and_self, or_true, true_or, or_false, false_or, or_self, not_true_eq_false, not_false_eq_true, decide_true, decide_false, Bool.and_true, Bool.true_and, Bool.and_false, Bool.false_and, Bool.and_self, Bool.or_true, Bool.true_or, Bool.or_false, Bool.false_or, Bool.not_true, Bool.not_false, cond_true, cond_false, bI_t, bI_f, Bool.false_eq_true, Bool.true_eq_false, dayC_1, dayC_21, dayC_221, dayC_222]; done) | (simp only [*]; done) | (simp [bI, *]; done) | with_reducible_and_instances rfl), O28, hf⟩
set_option maxHeartbeats 4000000 in
set_option maxRecDepth 100000 in
theorem S_X10_manyBy (X : En) (l : Launch) {h : Hp} {x : PW} {nv : Int32} {c : RC} {z : RZ} (O28 : h 28 = some (rB x nv c z)) (hx : LOK x) (hn : NVok nv) {s : Int32} : Ct X l mX10_manyBy [aR 28 0, aI s] h (QI (PI1 (bitC (dDone x (nvB nv) s)) h (28) (rB x nv c ((dLaw x (nvB nv) s, dHas x (nvB nv) s), z.2)))) := by
  have hf : ∀ i, i ≠ 28 → h i = h i := fun _ _ => rfl
  refine Ct.intro [some (aR 28 0), some (aI s)] (by decide +kernel) rfl (Nat.le_of_ble_eq_true rfl) ?_
  refine A_aload_n 1 dX10_manyBy_0 rfl rfl rfl ?_
  refine A_iload_n 2 dX10_manyBy_1 rfl rfl rfl ?_
  refine A_callVI 5 (S_X10_goDay X l (by first | assumption | decide | omega | exact Ne.symm (by assumption)) (by first | assumption | decide | omega | exact Ne.symm (by assumption)) (by first | assumption | decide | omega | exact Ne.symm (by assumption))) dX10_manyBy_2 rfl kX10_goDay lk_X10_108 rfl O28 (by decide) rfl (Nat.le_of_ble_eq_true rfl) (fun v_1 h_1 qh_1 => ?_)
  obtain ⟨rfl, n0h_1, eh_1⟩ := qh_1
  replace O28 := n0h_1
  replace hf : ∀ i, i ≠ 28 → h_1 i = h i := fun i g0 => (eh_1 i g0).trans (hf i g0)
  obtain ⟨m, hm, em⟩ := dDone_R hx (nvB nv) s
  rw [em]
  refine A_callSI 8 (S_X10_onesOf X l (by first | assumption | decide | omega | exact Ne.symm (by assumption))) dX10_manyBy_5 rfl kX10_onesOf lk_X10_112 rfl (by decide) rfl (Nat.le_of_ble_eq_true rfl) (fun v_2 h_2 qh_2 => ?_)
  obtain ⟨rfl, rfl⟩ := qh_2
  refine A_iret dX10_manyBy_8 rfl ⟨_, rfl, (by first | with_reducible rfl | (simp only [if_true, if_false, ite_true, ite_false, and_true, true_and, and_false, false_and, and_self, or_true, true_or, or_false, false_or, or_self, not_true_eq_false, not_false_eq_true, decide_true, decide_false, Bool.and_true, Bool.true_and, Bool.and_false, Bool.false_and, Bool.and_self, Bool.or_true, Bool.true_or, Bool.or_false, Bool.false_or, Bool.not_true, Bool.not_false, cond_true, cond_false, bI_t, bI_f, Bool.false_eq_true, Bool.true_eq_false, dayC_1, dayC_21, dayC_221, dayC_222]; done) | (simp only [*]; done) | (simp [bI, *]; done) | with_reducible_and_instances rfl), O28, hf⟩
set_option maxHeartbeats 4000000 in
set_option maxRecDepth 100000 in
theorem S_X10_takeOut (X : En) (l : Launch) {h : Hp} {x : PW} {nv : Int32} {c : RC} {z : RZ} (O28 : h 28 = some (rB x nv c z)) {p : Nat} {t : Int32} (hp : p < 6) (ht : inT t = true) : Ct X l mX10_takeOut [aR 28 0, aI (nI p), aI t] h (QV (PV1 h (28) (rB (takeF x p t) nv c z))) := by
  have hf : ∀ i, i ≠ 28 → h i = h i := fun _ _ => rfl
  refine Ct.intro [some (aR 28 0), some (aI (nI p)), some (aI t)] (by decide +kernel) rfl (Nat.le_of_ble_eq_true rfl) ?_
  refine A_aload_n 1 dX10_takeOut_0 rfl rfl rfl ?_
  refine A_getfield 4 dX10_takeOut_1 rfl f_X10_22 O28 rfl ?_
  refine A_iload_n 5 dX10_takeOut_4 rfl rfl rfl ?_
  refine A_dup2 6 dX10_takeOut_5 rfl rfl rfl ?_
  refine A_iaload 7 dX10_takeOut_6 rfl O28 rfl (by first | assumption | exact ix_nI (by omega) (by decide) | exact ix_lit _ rfl (by omega) (by decide) | exact ix_lit _ rfl (by decide) (by decide)) ?_
  try dsimp only
  refine A_iconst 8 (1) dX10_takeOut_7 rfl (by decide) ?_
  refine A_iload_n 9 dX10_takeOut_8 rfl rfl rfl ?_
  refine A_ishl 10 dX10_takeOut_9 rfl ?_
  refine A_iconst 11 (-1) dX10_takeOut_10 rfl (by decide) ?_
  refine A_ixor 12 dX10_takeOut_11 rfl ?_
  refine A_iand 13 dX10_takeOut_12 rfl ?_
  refine T_X10_4 14 dX10_takeOut_13 rfl O28 (by first | assumption | exact ix_nI (by omega) (by decide) | exact ix_lit _ rfl (by omega) (by decide) | exact ix_lit _ rfl (by decide) (by decide)) (fun h_1 nh_1 eh_1 => ?_)
  replace O28 := nh_1
  replace hf : ∀ i, i ≠ 28 → h_1 i = h i := fun i g0 => (eh_1 i g0).trans (hf i g0)
  try dsimp only at O28
  refine A_aload_n 15 dX10_takeOut_14 rfl rfl rfl ?_
  refine A_dup 16 dX10_takeOut_15 rfl rfl ?_
  refine A_getfield 19 dX10_takeOut_16 rfl f_X10_97 O28 rfl ?_
  try dsimp only
  refine A_iconst 20 (1) dX10_takeOut_19 rfl (by decide) ?_
  refine A_iload_n 21 dX10_takeOut_20 rfl rfl rfl ?_
  refine A_ishl 22 dX10_takeOut_21 rfl ?_
  refine A_ior 23 dX10_takeOut_22 rfl ?_
  refine P_X10_7 26 dX10_takeOut_23 rfl fw_X10_97 O28 (fun h_2 nh_2 eh_2 => ?_)
  replace O28 := nh_2
  replace hf : ∀ i, i ≠ 28 → h_2 i = h i := fun i g0 => (eh_2 i g0).trans (hf i g0)
  try dsimp only at O28
  refine A_vret dX10_takeOut_26 rfl ⟨rfl, (by unfold takeF tbI; rw [if_pos ht]; exact O28), hf⟩
set_option maxHeartbeats 4000000 in
set_option maxRecDepth 100000 in
theorem S_X10_bringIn (X : En) (l : Launch) {h : Hp} {x : PW} {nv : Int32} {c : RC} {z : RZ} (O28 : h 28 = some (rB x nv c z)) {p : Nat} {t : Int32} (hp : p < 6) (ht : inT t = true) : Ct X l mX10_bringIn [aR 28 0, aI (nI p), aI t] h (QV (PV1 h (28) (rB (bringF x p t) nv c z))) := by
  have hf : ∀ i, i ≠ 28 → h i = h i := fun _ _ => rfl
  refine Ct.intro [some (aR 28 0), some (aI (nI p)), some (aI t)] (by decide +kernel) rfl (Nat.le_of_ble_eq_true rfl) ?_
  refine A_aload_n 1 dX10_bringIn_0 rfl rfl rfl ?_
  refine A_getfield 4 dX10_bringIn_1 rfl f_X10_22 O28 rfl ?_
  refine A_iload_n 5 dX10_bringIn_4 rfl rfl rfl ?_
  refine A_dup2 6 dX10_bringIn_5 rfl rfl rfl ?_
  refine A_iaload 7 dX10_bringIn_6 rfl O28 rfl (by first | assumption | exact ix_nI (by omega) (by decide) | exact ix_lit _ rfl (by omega) (by decide) | exact ix_lit _ rfl (by decide) (by decide)) ?_
  try dsimp only
  refine A_iconst 8 (1) dX10_bringIn_7 rfl (by decide) ?_
  refine A_iload_n 9 dX10_bringIn_8 rfl rfl rfl ?_
  refine A_ishl 10 dX10_bringIn_9 rfl ?_
  refine A_ior 11 dX10_bringIn_10 rfl ?_
  refine T_X10_4 12 dX10_bringIn_11 rfl O28 (by first | assumption | exact ix_nI (by omega) (by decide) | exact ix_lit _ rfl (by omega) (by decide) | exact ix_lit _ rfl (by decide) (by decide)) (fun h_1 nh_1 eh_1 => ?_)
  replace O28 := nh_1
  replace hf : ∀ i, i ≠ 28 → h_1 i = h i := fun i g0 => (eh_1 i g0).trans (hf i g0)
  try dsimp only at O28
  refine A_aload_n 13 dX10_bringIn_12 rfl rfl rfl ?_
  refine A_dup 14 dX10_bringIn_13 rfl rfl ?_
  refine A_getfield 17 dX10_bringIn_14 rfl f_X10_97 O28 rfl ?_
  try dsimp only
  refine A_iconst 18 (1) dX10_bringIn_17 rfl (by decide) ?_
  refine A_iload_n 19 dX10_bringIn_18 rfl rfl rfl ?_
  refine A_ishl 20 dX10_bringIn_19 rfl ?_
  refine A_iconst 21 (-1) dX10_bringIn_20 rfl (by decide) ?_
  refine A_ixor 22 dX10_bringIn_21 rfl ?_
  refine A_iand 23 dX10_bringIn_22 rfl ?_
  refine P_X10_7 26 dX10_bringIn_23 rfl fw_X10_97 O28 (fun h_2 nh_2 eh_2 => ?_)
  replace O28 := nh_2
  replace hf : ∀ i, i ≠ 28 → h_2 i = h i := fun i g0 => (eh_2 i g0).trans (hf i g0)
  try dsimp only at O28
  refine A_vret dX10_bringIn_26 rfl ⟨rfl, (by unfold bringF tbI; rw [if_pos ht]; exact O28), hf⟩
set_option maxHeartbeats 4000000 in
set_option maxRecDepth 100000 in
theorem S_X10_allDone (X : En) (l : Launch) {h : Hp} {x : PW} {nv : Int32} {c : RC} {z : RZ} (O28 : h 28 = some (rB x nv c z)) (hx : LOK x) (hn : nv = -1) (hp : x.2.2.2.1 ≤ 6) : Ct X l mX10_allDone [aR 28 0] h (QI (fun vr h2 => (foldN (fun p t => t + bitC (dDone x 0 (x.2.1 p))) 0 x.2.2.2.1) = vr ∧ ∃ (d : RD), h2 (28) = some (rB x nv c (d, z.2)) ∧ ∀ i, i ≠ 28 → h2 i = h i)) := by
  have hn2 : NVok nv := Or.inl hn
  have hn3 : nvB nv = 0 := by rw [hn]; rfl
  have hf : ∀ i, i ≠ 28 → h i = h i := fun _ _ => rfl
  refine Ct.intro [some (aR 28 0), none, none] (by decide +kernel) rfl (Nat.le_of_ble_eq_true rfl) ?_
  refine A_iconst 1 (0) dX10_allDone_0 rfl (by decide) ?_
  refine A_istore_n 2 dX10_allDone_1 rfl rfl (by decide) (by first | exact (ast_1 rfl) | exact ast_k) ?_
  refine A_iconst 3 (0) dX10_allDone_2 rfl (by decide) ?_
  refine A_istore_n 4 dX10_allDone_3 rfl rfl (by decide) (by first | exact (ast_s (ast_1 rfl)) | exact (ast_s ast_k)) ?_
  have L4 : ∀ (nq i : Nat) (u : Int32) (g4 : Hp) (d : RD), (nq + i = x.2.2.2.1) → (foldN (fun p t => t + bitC (dDone x 0 (x.2.1 p))) (0) i = (u)) → (g4 28 = some (rB x nv c (d, z.2))) → (∀ i, i ≠ 28 → g4 i = h i) → Av X l mX10_allDone 4 [some (aR 28 0), some (aI (u)), some (aI (nI (i)))] [] g4 (QI (fun vr h2 => (foldN (fun p t => t + bitC (dDone x 0 (x.2.1 p))) 0 x.2.2.2.1) = vr ∧ ∃ (d : RD), h2 (28) = some (rB x nv c (d, z.2)) ∧ ∀ i, i ≠ 28 → h2 i = h i)) := by
    intro nq
    induction nq using Nat.strongRecOn with
    | _ nq ih =>
    intro i u g4 d en ee O28 hf
    refine A_iload_n 5 dX10_allDone_4 rfl rfl rfl ?_
    refine A_aload_n 6 dX10_allDone_5 rfl rfl rfl ?_
    refine A_getfield 9 dX10_allDone_6 rfl f_X10_81 O28 rfl ?_
    try dsimp only
    refine A_icmp_ge 29 12 dX10_allDone_9 (by decide) rfl (fun c9 => ?_) (fun c9 => ?_)
    · skip
      obtain rfl := (up_ge_T (N := x.2.2.2.1) c9 rfl (by omega) (by omega)).symm
      refine A_iload_n 30 dX10_allDone_29 rfl rfl rfl ?_
      refine A_iret dX10_allDone_30 rfl ⟨_, rfl, (by first | with_reducible rfl | (simp only [if_true, if_false, ite_true, ite_false, and_true, true_and, and_false, false_and, and_self, or_true, true_or, or_false, false_or, or_self, not_true_eq_false, not_false_eq_true, decide_true, decide_false, Bool.and_true, Bool.true_and, Bool.and_false, Bool.false_and, Bool.and_self, Bool.or_true, Bool.true_or, Bool.or_false, Bool.false_or, Bool.not_true, Bool.not_false, cond_true, cond_false, bI_t, bI_f, Bool.false_eq_true, Bool.true_eq_false, dayC_1, dayC_21, dayC_221, dayC_222]; done) | (simp only [*]; done) | (simp [bI, *]; done) | with_reducible_and_instances rfl), _, O28, hf⟩
    · skip
      have hi := up_ge_F (N := x.2.2.2.1) c9 rfl (by omega) (by omega)
      obtain ⟨n0, rfl⟩ : ∃ q, nq = q + 1 := ⟨nq - 1, by omega⟩
      refine A_iload_n 13 dX10_allDone_12 rfl rfl rfl ?_
      refine A_aload_n 14 dX10_allDone_13 rfl rfl rfl ?_
      refine A_iload_n 15 dX10_allDone_14 rfl rfl rfl ?_
      refine A_callVI 18 (S_X10_doneBy X l (by first | assumption | decide | omega | exact Ne.symm (by assumption)) (by first | assumption | decide | omega | exact Ne.symm (by assumption)) (by first | assumption | decide | omega | exact Ne.symm (by assumption)) (by first | assumption | decide | omega | exact Ne.symm (by assumption))) dX10_allDone_15 rfl kX10_doneBy lk_X10_115 rfl O28 (by decide) rfl (Nat.le_of_ble_eq_true rfl) (fun v_1 h_1 qh_1 => ?_)
      obtain ⟨rfl, n0h_1, eh_1⟩ := qh_1
      replace O28 := n0h_1
      replace hf : ∀ i, i ≠ 28 → h_1 i = h i := fun i g0 => (eh_1 i g0).trans (hf i g0)
      obtain ⟨m, hm, em⟩ := dDone_R hx (nvB nv) (x.2.1 i)
      rw [em]
      refine A_callSI 21 (S_X10_onesOf X l (by first | assumption | decide | omega | exact Ne.symm (by assumption))) dX10_allDone_18 rfl kX10_onesOf lk_X10_112 rfl (by decide) rfl (Nat.le_of_ble_eq_true rfl) (fun v_2 h_2 qh_2 => ?_)
      obtain ⟨rfl, rfl⟩ := qh_2
      refine A_iadd 22 dX10_allDone_21 rfl ?_
      refine A_istore_n 23 dX10_allDone_22 rfl rfl (by decide) (by first | exact (ast_1 rfl) | exact ast_k) ?_
      first | refine A_iincN 26 dX10_allDone_23 rfl rfl (by decide) (by first | exact (ast_s (ast_1 rfl)) | exact (ast_s ast_k)) ?_ | refine A_iinc 26 (1) dX10_allDone_23 rfl rfl (by decide) (by decide) (by first | exact (ast_s (ast_1 rfl)) | exact (ast_s ast_k)) ?_
      refine A_goto 4 dX10_allDone_26 (by decide) ?_
      exact ih n0 (Nat.lt_succ_self n0) (i + 1) _ h_1 _ (by omega) ((foldN_s (fun p t => t + bitC (dDone x 0 (x.2.1 p))) (0) i).trans ((congrArg ((fun p t => t + bitC (dDone x 0 (x.2.1 p))) i) ee).trans (by show _ + _ = _; rw [← em, hn3]))) O28 hf
  exact L4 (x.2.2.2.1) (0) (_) h (z.1) (by omega) (rfl) O28 hf
