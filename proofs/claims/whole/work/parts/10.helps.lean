set_option maxHeartbeats 4000000 in
set_option maxRecDepth 100000 in
theorem S_J6_bitCount_0f7a4 (X : En) (l : Launch) {h : Hp} {v : Int32} : Ct X l mJ6_bitCount_0f7a4 [aI v] h (QI (PI0 (bitC v) h)) := by
  refine Ct.intro [some (aI v)] (by decide +kernel) rfl (Nat.le_of_ble_eq_true rfl) ?_
  refine A_iload_n 1 dJ6_bitCount_0f7a4_0 rfl rfl rfl ?_
  refine A_iload_n 2 dJ6_bitCount_0f7a4_1 rfl rfl rfl ?_
  refine A_iconst 3 (1) dJ6_bitCount_0f7a4_2 rfl (by decide) ?_
  refine A_iushr 4 dJ6_bitCount_0f7a4_3 rfl ?_
  refine A_ldc_w 7 _ dJ6_bitCount_0f7a4_4 rfl cn_J6_265 ?_
  refine A_iand 8 dJ6_bitCount_0f7a4_7 rfl ?_
  refine A_isub 9 dJ6_bitCount_0f7a4_8 rfl ?_
  refine A_istore_n 10 dJ6_bitCount_0f7a4_9 rfl rfl (by decide) ast_0 ?_
  show Av X l mJ6_bitCount_0f7a4 10 [some (aI (b1 v))] [] h _
  refine A_iload_n 11 dJ6_bitCount_0f7a4_10 rfl rfl rfl ?_
  refine A_ldc_w 14 _ dJ6_bitCount_0f7a4_11 rfl cn_J6_266 ?_
  refine A_iand 15 dJ6_bitCount_0f7a4_14 rfl ?_
  refine A_iload_n 16 dJ6_bitCount_0f7a4_15 rfl rfl rfl ?_
  refine A_iconst 17 (2) dJ6_bitCount_0f7a4_16 rfl (by decide) ?_
  refine A_iushr 18 dJ6_bitCount_0f7a4_17 rfl ?_
  refine A_ldc_w 21 _ dJ6_bitCount_0f7a4_18 rfl cn_J6_266 ?_
  refine A_iand 22 dJ6_bitCount_0f7a4_21 rfl ?_
  refine A_iadd 23 dJ6_bitCount_0f7a4_22 rfl ?_
  refine A_istore_n 24 dJ6_bitCount_0f7a4_23 rfl rfl (by decide) ast_0 ?_
  show Av X l mJ6_bitCount_0f7a4 24 [some (aI (b2 (b1 v)))] [] h _
  refine A_iload_n 25 dJ6_bitCount_0f7a4_24 rfl rfl rfl ?_
  refine A_iload_n 26 dJ6_bitCount_0f7a4_25 rfl rfl rfl ?_
  refine A_iconst 27 (4) dJ6_bitCount_0f7a4_26 rfl (by decide) ?_
  refine A_iushr 28 dJ6_bitCount_0f7a4_27 rfl ?_
  refine A_iadd 29 dJ6_bitCount_0f7a4_28 rfl ?_
  refine A_ldc_w 32 _ dJ6_bitCount_0f7a4_29 rfl cn_J6_267 ?_
  refine A_iand 33 dJ6_bitCount_0f7a4_32 rfl ?_
  refine A_istore_n 34 dJ6_bitCount_0f7a4_33 rfl rfl (by decide) ast_0 ?_
  show Av X l mJ6_bitCount_0f7a4 34 [some (aI (b3 (b2 (b1 v))))] [] h _
  refine A_iload_n 35 dJ6_bitCount_0f7a4_34 rfl rfl rfl ?_
  refine A_iload_n 36 dJ6_bitCount_0f7a4_35 rfl rfl rfl ?_
  refine A_bipush 38 (8) dJ6_bitCount_0f7a4_36 rfl (by decide) ?_
  refine A_iushr 39 dJ6_bitCount_0f7a4_38 rfl ?_
  refine A_iadd 40 dJ6_bitCount_0f7a4_39 rfl ?_
  refine A_istore_n 41 dJ6_bitCount_0f7a4_40 rfl rfl (by decide) ast_0 ?_
  show Av X l mJ6_bitCount_0f7a4 41 [some (aI (b4 (b3 (b2 (b1 v)))))] [] h _
  refine A_iload_n 42 dJ6_bitCount_0f7a4_41 rfl rfl rfl ?_
  refine A_iload_n 43 dJ6_bitCount_0f7a4_42 rfl rfl rfl ?_
  refine A_bipush 45 (16) dJ6_bitCount_0f7a4_43 rfl (by decide) ?_
  refine A_iushr 46 dJ6_bitCount_0f7a4_45 rfl ?_
  refine A_iadd 47 dJ6_bitCount_0f7a4_46 rfl ?_
  refine A_istore_n 48 dJ6_bitCount_0f7a4_47 rfl rfl (by decide) ast_0 ?_
  show Av X l mJ6_bitCount_0f7a4 48 [some (aI (b5 (b4 (b3 (b2 (b1 v))))))] [] h _
  refine A_iload_n 49 dJ6_bitCount_0f7a4_48 rfl rfl rfl ?_
  refine A_bipush 51 (63) dJ6_bitCount_0f7a4_49 rfl (by decide) ?_
  refine A_iand 52 dJ6_bitCount_0f7a4_51 rfl ?_
  refine A_iret dJ6_bitCount_0f7a4_52 rfl ⟨_, rfl, (by rfl), rfl⟩
set_option maxHeartbeats 4000000 in
set_option maxRecDepth 100000 in
theorem S_X9_isNot0or1 (X : En) (l : Launch) {h : Hp} {v : Int32} : Ct X l mX9_isNot0or1 [aI v] h (QI (PI0 (bI (decide (v < 0 ∨ 1 < v))) h)) := by
  refine Ct.intro [some (aI v)] (by decide +kernel) rfl (Nat.le_of_ble_eq_true rfl) ?_
  refine A_iload_n 1 dX9_isNot0or1_0 rfl rfl rfl ?_
  refine A_if_lt 9 4 dX9_isNot0or1_1 (by decide) rfl (fun c1 => ?_) (fun c1 => ?_)
  · skip
    try simp only [bI_0, bI_n0, Classical.not_not, Bool.not_eq_false, Bool.true_and, Bool.and_true, decide_eq_true_eq, decide_eq_false_iff_not, dayC_1, dayC_21, dayC_221, dayC_222] at c1
    have n1 := Int32.not_le.mpr c1
    refine A_iconst 10 (1) dX9_isNot0or1_9 rfl (by decide) ?_
    refine A_goto 14 dX9_isNot0or1_10 (by decide) ?_
    refine A_zret dX9_isNot0or1_14 rfl (by first | with_reducible exact bI01 _ | with_reducible exact Or.inl rfl | with_reducible exact Or.inr rfl | assumption) ⟨_, rfl, (by first | with_reducible rfl | (simp only [c1, n1, if_true, if_false, ite_true, ite_false, and_true, true_and, and_false, false_and, and_self, or_true, true_or, or_false, false_or, or_self, not_true_eq_false, not_false_eq_true, decide_true, decide_false, Bool.and_true, Bool.true_and, Bool.and_false, Bool.false_and, Bool.and_self, Bool.or_true, Bool.true_or, Bool.or_false, Bool.false_or, Bool.not_true, Bool.not_false, cond_true, cond_false, bI_t, bI_f, Bool.false_eq_true, Bool.true_eq_false, dayC_1, dayC_21, dayC_221, dayC_222]; done) | (simp only [*]; done) | (simp [bI, *]; done) | with_reducible_and_instances rfl), rfl⟩
  · skip
    try simp only [bI_0, bI_n0, Classical.not_not, Bool.not_eq_false, Bool.true_and, Bool.and_true, decide_eq_true_eq, decide_eq_false_iff_not, dayC_1, dayC_21, dayC_221, dayC_222] at c1
    have n1 := Int32.not_lt.mp c1
    refine A_iload_n 5 dX9_isNot0or1_4 rfl rfl rfl ?_
    refine A_iconst 6 (1) dX9_isNot0or1_5 rfl (by decide) ?_
    refine A_icmp_le 13 9 dX9_isNot0or1_6 (by decide) rfl (fun c6 => ?_) (fun c6 => ?_)
    · skip
      try simp only [bI_0, bI_n0, Classical.not_not, Bool.not_eq_false, Bool.true_and, Bool.and_true, decide_eq_true_eq, decide_eq_false_iff_not, dayC_1, dayC_21, dayC_221, dayC_222] at c6
      have n6 := c6
      replace c6 := Int32.not_lt.mpr c6
      refine A_iconst 14 (0) dX9_isNot0or1_13 rfl (by decide) ?_
      refine A_zret dX9_isNot0or1_14 rfl (by first | with_reducible exact bI01 _ | with_reducible exact Or.inl rfl | with_reducible exact Or.inr rfl | assumption) ⟨_, rfl, (by first | with_reducible rfl | (simp only [c1, n1, c6, n6, if_true, if_false, ite_true, ite_false, and_true, true_and, and_false, false_and, and_self, or_true, true_or, or_false, false_or, or_self, not_true_eq_false, not_false_eq_true, decide_true, decide_false, Bool.and_true, Bool.true_and, Bool.and_false, Bool.false_and, Bool.and_self, Bool.or_true, Bool.true_or, Bool.or_false, Bool.false_or, Bool.not_true, Bool.not_false, cond_true, cond_false, bI_t, bI_f, Bool.false_eq_true, Bool.true_eq_false, dayC_1, dayC_21, dayC_221, dayC_222]; done) | (simp only [*]; done) | (simp [bI, *]; done) | with_reducible_and_instances rfl), rfl⟩
    · skip
      try simp only [bI_0, bI_n0, Classical.not_not, Bool.not_eq_false, Bool.true_and, Bool.and_true, decide_eq_true_eq, decide_eq_false_iff_not, dayC_1, dayC_21, dayC_221, dayC_222] at c6
      have n6 := c6
      replace c6 := Int32.not_le.mp c6
      refine A_iconst 10 (1) dX9_isNot0or1_9 rfl (by decide) ?_
      refine A_goto 14 dX9_isNot0or1_10 (by decide) ?_
      refine A_zret dX9_isNot0or1_14 rfl (by first | with_reducible exact bI01 _ | with_reducible exact Or.inl rfl | with_reducible exact Or.inr rfl | assumption) ⟨_, rfl, (by first | with_reducible rfl | (simp only [c1, n1, c6, n6, if_true, if_false, ite_true, ite_false, and_true, true_and, and_false, false_and, and_self, or_true, true_or, or_false, false_or, or_self, not_true_eq_false, not_false_eq_true, decide_true, decide_false, Bool.and_true, Bool.true_and, Bool.and_false, Bool.false_and, Bool.and_self, Bool.or_true, Bool.true_or, Bool.or_false, Bool.false_or, Bool.not_true, Bool.not_false, cond_true, cond_false, bI_t, bI_f, Bool.false_eq_true, Bool.true_eq_false, dayC_1, dayC_21, dayC_221, dayC_222]; done) | (simp only [*]; done) | (simp [bI, *]; done) | with_reducible_and_instances rfl), rfl⟩
set_option maxHeartbeats 4000000 in
set_option maxRecDepth 100000 in
theorem S_X9_isThing (X : En) (l : Launch) {h : Hp} {t : Int32} : Ct X l mX9_isThing [aI t] h (QI (PI0 (bI (inT t)) h)) := by
  refine Ct.intro [some (aI t)] (by decide +kernel) rfl (Nat.le_of_ble_eq_true rfl) ?_
  refine A_iload_n 1 dX9_isThing_0 rfl rfl rfl ?_
  refine A_if_lt 14 4 dX9_isThing_1 (by decide) rfl (fun c1 => ?_) (fun c1 => ?_)
  · skip
    try simp only [bI_0, bI_n0, Classical.not_not, Bool.not_eq_false, Bool.true_and, Bool.and_true, decide_eq_true_eq, decide_eq_false_iff_not, dayC_1, dayC_21, dayC_221, dayC_222] at c1
    have n1 := Int32.not_le.mpr c1
    refine A_iconst 15 (0) dX9_isThing_14 rfl (by decide) ?_
    refine A_zret dX9_isThing_15 rfl (by first | with_reducible exact bI01 _ | with_reducible exact Or.inl rfl | with_reducible exact Or.inr rfl | assumption) ⟨_, rfl, (by first | with_reducible rfl | (simp only [c1, n1, if_true, if_false, ite_true, ite_false, and_true, true_and, and_false, false_and, and_self, or_true, true_or, or_false, false_or, or_self, not_true_eq_false, not_false_eq_true, decide_true, decide_false, Bool.and_true, Bool.true_and, Bool.and_false, Bool.false_and, Bool.and_self, Bool.or_true, Bool.true_or, Bool.or_false, Bool.false_or, Bool.not_true, Bool.not_false, cond_true, cond_false, bI_t, bI_f, Bool.false_eq_true, Bool.true_eq_false, dayC_1, dayC_21, dayC_221, dayC_222, inT]; done) | (simp only [*]; done) | (simp [bI, *, inT]; done) | with_reducible_and_instances rfl), rfl⟩
  · skip
    try simp only [bI_0, bI_n0, Classical.not_not, Bool.not_eq_false, Bool.true_and, Bool.and_true, decide_eq_true_eq, decide_eq_false_iff_not, dayC_1, dayC_21, dayC_221, dayC_222] at c1
    have n1 := Int32.not_lt.mp c1
    refine A_iload_n 5 dX9_isThing_4 rfl rfl rfl ?_
    refine A_bipush 7 (8) dX9_isThing_5 rfl (by decide) ?_
    refine A_icmp_ge 14 10 dX9_isThing_7 (by decide) rfl (fun c7 => ?_) (fun c7 => ?_)
    · skip
      try simp only [bI_0, bI_n0, Classical.not_not, Bool.not_eq_false, Bool.true_and, Bool.and_true, decide_eq_true_eq, decide_eq_false_iff_not, dayC_1, dayC_21, dayC_221, dayC_222] at c7
      have n7 := c7
      replace c7 := Int32.not_lt.mpr c7
      refine A_iconst 15 (0) dX9_isThing_14 rfl (by decide) ?_
      refine A_zret dX9_isThing_15 rfl (by first | with_reducible exact bI01 _ | with_reducible exact Or.inl rfl | with_reducible exact Or.inr rfl | assumption) ⟨_, rfl, (by first | with_reducible rfl | (simp only [c1, n1, c7, n7, if_true, if_false, ite_true, ite_false, and_true, true_and, and_false, false_and, and_self, or_true, true_or, or_false, false_or, or_self, not_true_eq_false, not_false_eq_true, decide_true, decide_false, Bool.and_true, Bool.true_and, Bool.and_false, Bool.false_and, Bool.and_self, Bool.or_true, Bool.true_or, Bool.or_false, Bool.false_or, Bool.not_true, Bool.not_false, cond_true, cond_false, bI_t, bI_f, Bool.false_eq_true, Bool.true_eq_false, dayC_1, dayC_21, dayC_221, dayC_222, inT]; done) | (simp only [*]; done) | (simp [bI, *, inT]; done) | with_reducible_and_instances rfl), rfl⟩
    · skip
      try simp only [bI_0, bI_n0, Classical.not_not, Bool.not_eq_false, Bool.true_and, Bool.and_true, decide_eq_true_eq, decide_eq_false_iff_not, dayC_1, dayC_21, dayC_221, dayC_222] at c7
      have n7 := c7
      replace c7 := Int32.not_le.mp c7
      refine A_iconst 11 (1) dX9_isThing_10 rfl (by decide) ?_
      refine A_goto 15 dX9_isThing_11 (by decide) ?_
      refine A_zret dX9_isThing_15 rfl (by first | with_reducible exact bI01 _ | with_reducible exact Or.inl rfl | with_reducible exact Or.inr rfl | assumption) ⟨_, rfl, (by first | with_reducible rfl | (simp only [c1, n1, c7, n7, if_true, if_false, ite_true, ite_false, and_true, true_and, and_false, false_and, and_self, or_true, true_or, or_false, false_or, or_self, not_true_eq_false, not_false_eq_true, decide_true, decide_false, Bool.and_true, Bool.true_and, Bool.and_false, Bool.false_and, Bool.and_self, Bool.or_true, Bool.true_or, Bool.or_false, Bool.false_or, Bool.not_true, Bool.not_false, cond_true, cond_false, bI_t, bI_f, Bool.false_eq_true, Bool.true_eq_false, dayC_1, dayC_21, dayC_221, dayC_222, inT]; done) | (simp only [*]; done) | (simp [bI, *, inT]; done) | with_reducible_and_instances rfl), rfl⟩
set_option maxHeartbeats 4000000 in
set_option maxRecDepth 100000 in
theorem S_X9_thingBit (X : En) (l : Launch) {h : Hp} {t : Int32} : Ct X l mX9_thingBit [aI t] h (QI (PI0 (tbI t) h)) := by
  refine Ct.intro [some (aI t)] (by decide +kernel) rfl (Nat.le_of_ble_eq_true rfl) ?_
  refine A_iload_n 1 dX9_thingBit_0 rfl rfl rfl ?_
  refine A_if_lt 16 4 dX9_thingBit_1 (by decide) rfl (fun c1 => ?_) (fun c1 => ?_)
  · skip
    try simp only [bI_0, bI_n0, Classical.not_not, Bool.not_eq_false, Bool.true_and, Bool.and_true, decide_eq_true_eq, decide_eq_false_iff_not, dayC_1, dayC_21, dayC_221, dayC_222] at c1
    have n1 := Int32.not_le.mpr c1
    refine A_iconst 17 (0) dX9_thingBit_16 rfl (by decide) ?_
    refine A_iret dX9_thingBit_17 rfl ⟨_, rfl, (by first | with_reducible rfl | (simp only [c1, n1, if_true, if_false, ite_true, ite_false, and_true, true_and, and_false, false_and, and_self, or_true, true_or, or_false, false_or, or_self, not_true_eq_false, not_false_eq_true, decide_true, decide_false, Bool.and_true, Bool.true_and, Bool.and_false, Bool.false_and, Bool.and_self, Bool.or_true, Bool.true_or, Bool.or_false, Bool.false_or, Bool.not_true, Bool.not_false, cond_true, cond_false, bI_t, bI_f, Bool.false_eq_true, Bool.true_eq_false, dayC_1, dayC_21, dayC_221, dayC_222, tbI, inT, oneB]; done) | (simp only [*]; done) | (simp [bI, *, tbI, inT, oneB]; done) | with_reducible_and_instances rfl), rfl⟩
  · skip
    try simp only [bI_0, bI_n0, Classical.not_not, Bool.not_eq_false, Bool.true_and, Bool.and_true, decide_eq_true_eq, decide_eq_false_iff_not, dayC_1, dayC_21, dayC_221, dayC_222] at c1
    have n1 := Int32.not_lt.mp c1
    refine A_iload_n 5 dX9_thingBit_4 rfl rfl rfl ?_
    refine A_bipush 7 (8) dX9_thingBit_5 rfl (by decide) ?_
    refine A_icmp_ge 16 10 dX9_thingBit_7 (by decide) rfl (fun c7 => ?_) (fun c7 => ?_)
    · skip
      try simp only [bI_0, bI_n0, Classical.not_not, Bool.not_eq_false, Bool.true_and, Bool.and_true, decide_eq_true_eq, decide_eq_false_iff_not, dayC_1, dayC_21, dayC_221, dayC_222] at c7
      have n7 := c7
      replace c7 := Int32.not_lt.mpr c7
      refine A_iconst 17 (0) dX9_thingBit_16 rfl (by decide) ?_
      refine A_iret dX9_thingBit_17 rfl ⟨_, rfl, (by first | with_reducible rfl | (simp only [c1, n1, c7, n7, if_true, if_false, ite_true, ite_false, and_true, true_and, and_false, false_and, and_self, or_true, true_or, or_false, false_or, or_self, not_true_eq_false, not_false_eq_true, decide_true, decide_false, Bool.and_true, Bool.true_and, Bool.and_false, Bool.false_and, Bool.and_self, Bool.or_true, Bool.true_or, Bool.or_false, Bool.false_or, Bool.not_true, Bool.not_false, cond_true, cond_false, bI_t, bI_f, Bool.false_eq_true, Bool.true_eq_false, dayC_1, dayC_21, dayC_221, dayC_222, tbI, inT, oneB]; done) | (simp only [*]; done) | (simp [bI, *, tbI, inT, oneB]; done) | with_reducible_and_instances rfl), rfl⟩
    · skip
      try simp only [bI_0, bI_n0, Classical.not_not, Bool.not_eq_false, Bool.true_and, Bool.and_true, decide_eq_true_eq, decide_eq_false_iff_not, dayC_1, dayC_21, dayC_221, dayC_222] at c7
      have n7 := c7
      replace c7 := Int32.not_le.mp c7
      refine A_iconst 11 (1) dX9_thingBit_10 rfl (by decide) ?_
      refine A_iload_n 12 dX9_thingBit_11 rfl rfl rfl ?_
      refine A_ishl 13 dX9_thingBit_12 rfl ?_
      refine A_goto 17 dX9_thingBit_13 (by decide) ?_
      refine A_iret dX9_thingBit_17 rfl ⟨_, rfl, (by first | with_reducible rfl | (simp only [c1, n1, c7, n7, if_true, if_false, ite_true, ite_false, and_true, true_and, and_false, false_and, and_self, or_true, true_or, or_false, false_or, or_self, not_true_eq_false, not_false_eq_true, decide_true, decide_false, Bool.and_true, Bool.true_and, Bool.and_false, Bool.false_and, Bool.and_self, Bool.or_true, Bool.true_or, Bool.or_false, Bool.false_or, Bool.not_true, Bool.not_false, cond_true, cond_false, bI_t, bI_f, Bool.false_eq_true, Bool.true_eq_false, dayC_1, dayC_21, dayC_221, dayC_222, tbI, inT, oneB]; done) | (simp only [*]; done) | (simp [bI, *, tbI, inT, oneB]; done) | with_reducible_and_instances rfl), rfl⟩
set_option maxHeartbeats 4000000 in
set_option maxRecDepth 100000 in
theorem S_X9_hasThing (X : En) (l : Launch) {h : Hp} {p t : Int32} : Ct X l mX9_hasThing [aI p, aI t] h (QI (PI0 (bI (inT t && btI p t)) h)) := by
  refine Ct.intro [some (aI p), some (aI t)] (by decide +kernel) rfl (Nat.le_of_ble_eq_true rfl) ?_
  refine A_iload_n 1 dX9_hasThing_0 rfl rfl rfl ?_
  refine A_if_lt 22 4 dX9_hasThing_1 (by decide) rfl (fun c1 => ?_) (fun c1 => ?_)
  · skip
    try simp only [bI_0, bI_n0, Classical.not_not, Bool.not_eq_false, Bool.true_and, Bool.and_true, decide_eq_true_eq, decide_eq_false_iff_not, dayC_1, dayC_21, dayC_221, dayC_222] at c1
    have n1 := Int32.not_le.mpr c1
    refine A_iconst 23 (0) dX9_hasThing_22 rfl (by decide) ?_
    refine A_zret dX9_hasThing_23 rfl (by first | with_reducible exact bI01 _ | with_reducible exact Or.inl rfl | with_reducible exact Or.inr rfl | assumption) ⟨_, rfl, (by first | with_reducible rfl | (simp only [c1, n1, if_true, if_false, ite_true, ite_false, and_true, true_and, and_false, false_and, and_self, or_true, true_or, or_false, false_or, or_self, not_true_eq_false, not_false_eq_true, decide_true, decide_false, Bool.and_true, Bool.true_and, Bool.and_false, Bool.false_and, Bool.and_self, Bool.or_true, Bool.true_or, Bool.or_false, Bool.false_or, Bool.not_true, Bool.not_false, cond_true, cond_false, bI_t, bI_f, Bool.false_eq_true, Bool.true_eq_false, dayC_1, dayC_21, dayC_221, dayC_222, inT, btI]; done) | (simp only [*]; done) | (simp [bI, *, inT, btI]; done) | with_reducible_and_instances rfl), rfl⟩
  · skip
    try simp only [bI_0, bI_n0, Classical.not_not, Bool.not_eq_false, Bool.true_and, Bool.and_true, decide_eq_true_eq, decide_eq_false_iff_not, dayC_1, dayC_21, dayC_221, dayC_222] at c1
    have n1 := Int32.not_lt.mp c1
    refine A_iload_n 5 dX9_hasThing_4 rfl rfl rfl ?_
    refine A_bipush 7 (8) dX9_hasThing_5 rfl (by decide) ?_
    refine A_icmp_ge 22 10 dX9_hasThing_7 (by decide) rfl (fun c7 => ?_) (fun c7 => ?_)
    · skip
      try simp only [bI_0, bI_n0, Classical.not_not, Bool.not_eq_false, Bool.true_and, Bool.and_true, decide_eq_true_eq, decide_eq_false_iff_not, dayC_1, dayC_21, dayC_221, dayC_222] at c7
      have n7 := c7
      replace c7 := Int32.not_lt.mpr c7
      refine A_iconst 23 (0) dX9_hasThing_22 rfl (by decide) ?_
      refine A_zret dX9_hasThing_23 rfl (by first | with_reducible exact bI01 _ | with_reducible exact Or.inl rfl | with_reducible exact Or.inr rfl | assumption) ⟨_, rfl, (by first | with_reducible rfl | (simp only [c1, n1, c7, n7, if_true, if_false, ite_true, ite_false, and_true, true_and, and_false, false_and, and_self, or_true, true_or, or_false, false_or, or_self, not_true_eq_false, not_false_eq_true, decide_true, decide_false, Bool.and_true, Bool.true_and, Bool.and_false, Bool.false_and, Bool.and_self, Bool.or_true, Bool.true_or, Bool.or_false, Bool.false_or, Bool.not_true, Bool.not_false, cond_true, cond_false, bI_t, bI_f, Bool.false_eq_true, Bool.true_eq_false, dayC_1, dayC_21, dayC_221, dayC_222, inT, btI]; done) | (simp only [*]; done) | (simp [bI, *, inT, btI]; done) | with_reducible_and_instances rfl), rfl⟩
    · skip
      try simp only [bI_0, bI_n0, Classical.not_not, Bool.not_eq_false, Bool.true_and, Bool.and_true, decide_eq_true_eq, decide_eq_false_iff_not, dayC_1, dayC_21, dayC_221, dayC_222] at c7
      have n7 := c7
      replace c7 := Int32.not_le.mp c7
      refine A_iload_n 11 dX9_hasThing_10 rfl rfl rfl ?_
      refine A_iconst 12 (1) dX9_hasThing_11 rfl (by decide) ?_
      refine A_iload_n 13 dX9_hasThing_12 rfl rfl rfl ?_
      refine A_ishl 14 dX9_hasThing_13 rfl ?_
      refine A_iand 15 dX9_hasThing_14 rfl ?_
      refine A_if_eq 22 18 dX9_hasThing_15 (by decide) rfl (fun c15 => ?_) (fun c15 => ?_)
      · skip
        try simp only [bI_0, bI_n0, Classical.not_not, Bool.not_eq_false, Bool.true_and, Bool.and_true, decide_eq_true_eq, decide_eq_false_iff_not, dayC_1, dayC_21, dayC_221, dayC_222] at c15
        refine A_iconst 23 (0) dX9_hasThing_22 rfl (by decide) ?_
        refine A_zret dX9_hasThing_23 rfl (by first | with_reducible exact bI01 _ | with_reducible exact Or.inl rfl | with_reducible exact Or.inr rfl | assumption) ⟨_, rfl, (by first | with_reducible rfl | (simp only [c1, n1, c7, n7, c15, if_true, if_false, ite_true, ite_false, and_true, true_and, and_false, false_and, and_self, or_true, true_or, or_false, false_or, or_self, not_true_eq_false, not_false_eq_true, decide_true, decide_false, Bool.and_true, Bool.true_and, Bool.and_false, Bool.false_and, Bool.and_self, Bool.or_true, Bool.true_or, Bool.or_false, Bool.false_or, Bool.not_true, Bool.not_false, cond_true, cond_false, bI_t, bI_f, Bool.false_eq_true, Bool.true_eq_false, dayC_1, dayC_21, dayC_221, dayC_222, inT, btI]; done) | (simp only [c1, n1, c7, n7, eq_true c15, if_true, if_false, ite_true, ite_false, and_true, true_and, and_false, false_and, and_self, or_true, true_or, or_false, false_or, or_self, not_true_eq_false, not_false_eq_true, decide_true, decide_false, Bool.and_true, Bool.true_and, Bool.and_false, Bool.false_and, Bool.and_self, Bool.or_true, Bool.true_or, Bool.or_false, Bool.false_or, Bool.not_true, Bool.not_false, cond_true, cond_false, bI_t, bI_f, Bool.false_eq_true, Bool.true_eq_false, dayC_1, dayC_21, dayC_221, dayC_222, inT, btI]; done) | (simp only [*]; done) | (simp [bI, *, inT, btI]; done) | with_reducible_and_instances rfl), rfl⟩
      · skip
        try simp only [bI_0, bI_n0, Classical.not_not, Bool.not_eq_false, Bool.true_and, Bool.and_true, decide_eq_true_eq, decide_eq_false_iff_not, dayC_1, dayC_21, dayC_221, dayC_222] at c15
        refine A_iconst 19 (1) dX9_hasThing_18 rfl (by decide) ?_
        refine A_goto 23 dX9_hasThing_19 (by decide) ?_
        refine A_zret dX9_hasThing_23 rfl (by first | with_reducible exact bI01 _ | with_reducible exact Or.inl rfl | with_reducible exact Or.inr rfl | assumption) ⟨_, rfl, (by first | with_reducible rfl | (simp only [c1, n1, c7, n7, c15, if_true, if_false, ite_true, ite_false, and_true, true_and, and_false, false_and, and_self, or_true, true_or, or_false, false_or, or_self, not_true_eq_false, not_false_eq_true, decide_true, decide_false, Bool.and_true, Bool.true_and, Bool.and_false, Bool.false_and, Bool.and_self, Bool.or_true, Bool.true_or, Bool.or_false, Bool.false_or, Bool.not_true, Bool.not_false, cond_true, cond_false, bI_t, bI_f, Bool.false_eq_true, Bool.true_eq_false, dayC_1, dayC_21, dayC_221, dayC_222, inT, btI]; done) | (simp only [*]; done) | (simp [bI, *, inT, btI]; done) | with_reducible_and_instances rfl), rfl⟩
set_option maxHeartbeats 4000000 in
set_option maxRecDepth 100000 in
theorem S_X9_isFewer (X : En) (l : Launch) {h : Hp} {v b : Int32} : Ct X l mX9_isFewer [aI v, aI b] h (QI (PI0 (bI (decide (b = -9 ∨ bitC v < bitC b))) h)) := by
  refine Ct.intro [some (aI v), some (aI b)] (by decide +kernel) rfl (Nat.le_of_ble_eq_true rfl) ?_
  refine A_iload_n 1 dX9_isFewer_0 rfl rfl rfl ?_
  refine A_bipush 3 (-9) dX9_isFewer_1 rfl (by decide) ?_
  refine A_icmp_eq 17 6 dX9_isFewer_3 (by decide) rfl (fun c3 => ?_) (fun c3 => ?_)
  · skip
    try simp only [bI_0, bI_n0, Classical.not_not, Bool.not_eq_false, Bool.true_and, Bool.and_true, decide_eq_true_eq, decide_eq_false_iff_not, dayC_1, dayC_21, dayC_221, dayC_222] at c3
    refine A_iconst 18 (1) dX9_isFewer_17 rfl (by decide) ?_
    refine A_goto 22 dX9_isFewer_18 (by decide) ?_
    refine A_zret dX9_isFewer_22 rfl (by first | with_reducible exact bI01 _ | with_reducible exact Or.inl rfl | with_reducible exact Or.inr rfl | assumption) ⟨_, rfl, (by first | with_reducible rfl | (simp only [c3, if_true, if_false, ite_true, ite_false, and_true, true_and, and_false, false_and, and_self, or_true, true_or, or_false, false_or, or_self, not_true_eq_false, not_false_eq_true, decide_true, decide_false, Bool.and_true, Bool.true_and, Bool.and_false, Bool.false_and, Bool.and_self, Bool.or_true, Bool.true_or, Bool.or_false, Bool.false_or, Bool.not_true, Bool.not_false, cond_true, cond_false, bI_t, bI_f, Bool.false_eq_true, Bool.true_eq_false, dayC_1, dayC_21, dayC_221, dayC_222]; done) | (simp only [eq_true c3, if_true, if_false, ite_true, ite_false, and_true, true_and, and_false, false_and, and_self, or_true, true_or, or_false, false_or, or_self, not_true_eq_false, not_false_eq_true, decide_true, decide_false, Bool.and_true, Bool.true_and, Bool.and_false, Bool.false_and, Bool.and_self, Bool.or_true, Bool.true_or, Bool.or_false, Bool.false_or, Bool.not_true, Bool.not_false, cond_true, cond_false, bI_t, bI_f, Bool.false_eq_true, Bool.true_eq_false, dayC_1, dayC_21, dayC_221, dayC_222]; done) | (simp only [*]; done) | (simp [bI, *]; done) | with_reducible_and_instances rfl), rfl⟩
  · skip
    try simp only [bI_0, bI_n0, Classical.not_not, Bool.not_eq_false, Bool.true_and, Bool.and_true, decide_eq_true_eq, decide_eq_false_iff_not, dayC_1, dayC_21, dayC_221, dayC_222] at c3
    refine A_iload_n 7 dX9_isFewer_6 rfl rfl rfl ?_
    refine A_callSI 10 (S_J6_bitCount_0f7a4 X l) dX9_isFewer_7 rfl kJ6_bitCount_0f7a4 lk_X9_190 rfl (by decide) rfl (Nat.le_of_ble_eq_true rfl) (fun v_1 h_1 qh_1 => ?_)
    obtain ⟨rfl, rfl⟩ := qh_1
    refine A_iload_n 11 dX9_isFewer_10 rfl rfl rfl ?_
    refine A_callSI 14 (S_J6_bitCount_0f7a4 X l) dX9_isFewer_11 rfl kJ6_bitCount_0f7a4 lk_X9_190 rfl (by decide) rfl (Nat.le_of_ble_eq_true rfl) (fun v_2 h_2 qh_2 => ?_)
    obtain ⟨rfl, rfl⟩ := qh_2
    refine A_icmp_ge 21 17 dX9_isFewer_14 (by decide) rfl (fun c14 => ?_) (fun c14 => ?_)
    · skip
      try simp only [bI_0, bI_n0, Classical.not_not, Bool.not_eq_false, Bool.true_and, Bool.and_true, decide_eq_true_eq, decide_eq_false_iff_not, dayC_1, dayC_21, dayC_221, dayC_222] at c14
      have n14 := c14
      replace c14 := Int32.not_lt.mpr c14
      refine A_iconst 22 (0) dX9_isFewer_21 rfl (by decide) ?_
      refine A_zret dX9_isFewer_22 rfl (by first | with_reducible exact bI01 _ | with_reducible exact Or.inl rfl | with_reducible exact Or.inr rfl | assumption) ⟨_, rfl, (by first | with_reducible rfl | (simp only [c3, c14, n14, if_true, if_false, ite_true, ite_false, and_true, true_and, and_false, false_and, and_self, or_true, true_or, or_false, false_or, or_self, not_true_eq_false, not_false_eq_true, decide_true, decide_false, Bool.and_true, Bool.true_and, Bool.and_false, Bool.false_and, Bool.and_self, Bool.or_true, Bool.true_or, Bool.or_false, Bool.false_or, Bool.not_true, Bool.not_false, cond_true, cond_false, bI_t, bI_f, Bool.false_eq_true, Bool.true_eq_false, dayC_1, dayC_21, dayC_221, dayC_222]; done) | (simp only [*]; done) | (simp [bI, *]; done) | with_reducible_and_instances rfl), rfl⟩
    · skip
      try simp only [bI_0, bI_n0, Classical.not_not, Bool.not_eq_false, Bool.true_and, Bool.and_true, decide_eq_true_eq, decide_eq_false_iff_not, dayC_1, dayC_21, dayC_221, dayC_222] at c14
      have n14 := c14
      replace c14 := Int32.not_le.mp c14
      refine A_iconst 18 (1) dX9_isFewer_17 rfl (by decide) ?_
      refine A_goto 22 dX9_isFewer_18 (by decide) ?_
      refine A_zret dX9_isFewer_22 rfl (by first | with_reducible exact bI01 _ | with_reducible exact Or.inl rfl | with_reducible exact Or.inr rfl | assumption) ⟨_, rfl, (by first | with_reducible rfl | (simp only [c3, c14, n14, if_true, if_false, ite_true, ite_false, and_true, true_and, and_false, false_and, and_self, or_true, true_or, or_false, false_or, or_self, not_true_eq_false, not_false_eq_true, decide_true, decide_false, Bool.and_true, Bool.true_and, Bool.and_false, Bool.false_and, Bool.and_self, Bool.or_true, Bool.true_or, Bool.or_false, Bool.false_or, Bool.not_true, Bool.not_false, cond_true, cond_false, bI_t, bI_f, Bool.false_eq_true, Bool.true_eq_false, dayC_1, dayC_21, dayC_221, dayC_222]; done) | (simp only [*]; done) | (simp [bI, *]; done) | with_reducible_and_instances rfl), rfl⟩
set_option maxHeartbeats 4000000 in
set_option maxRecDepth 100000 in
theorem S_X9_cell_X8_1 (X : En) (l : Launch) {h : Hp} {w : Nat} {x : PW} (Ow : h w = some (wB w x)) {j : Nat} {i : Int32} (hi : ix i 6 j) : Ct X l mX9_cell [aR w 2, aI i] h (QI (PI0 (x.2.1 j) h)) := by
  refine Ct.intro [some (aR w 2), some (aI i)] (by decide +kernel) rfl (Nat.le_of_ble_eq_true rfl) ?_
  refine A_aload_n 1 dX9_cell_0 rfl rfl rfl ?_
  refine A_ifnull 20 4 dX9_cell_1 (by decide) rfl (fun c1 => ?_) (fun c1 => ?_)
  · skip
    exact absurd c1 (by simp)
  · skip
    refine A_iload_n 5 dX9_cell_4 rfl rfl rfl ?_
    refine A_if_lt 20 8 dX9_cell_5 (by decide) rfl (fun c5 => ?_) (fun c5 => ?_)
    · skip
      exact absurd c5 hi.2.2
    · skip
      try simp only [bI_0, bI_n0, Classical.not_not, Bool.not_eq_false, Bool.true_and, Bool.and_true, decide_eq_true_eq, decide_eq_false_iff_not, dayC_1, dayC_21, dayC_221, dayC_222] at c5
      have n5 := Int32.not_lt.mp c5
      refine A_iload_n 9 dX9_cell_8 rfl rfl rfl ?_
      refine A_aload_n 10 dX9_cell_9 rfl rfl rfl ?_
      refine A_arraylength 11 dX9_cell_10 rfl Ow rfl (Nat.le_of_ble_eq_true rfl) rfl ?_
      refine A_icmp_ge 20 14 dX9_cell_11 (by decide) rfl (fun c11 => ?_) (fun c11 => ?_)
      · skip
        exact absurd c11 (hi.lt (by decide))
      · skip
        try simp only [bI_0, bI_n0, Classical.not_not, Bool.not_eq_false, Bool.true_and, Bool.and_true, decide_eq_true_eq, decide_eq_false_iff_not, dayC_1, dayC_21, dayC_221, dayC_222] at c11
        have n11 := c11
        replace c11 := Int32.not_le.mp c11
        refine A_aload_n 15 dX9_cell_14 rfl rfl rfl ?_
        refine A_iload_n 16 dX9_cell_15 rfl rfl rfl ?_
        refine A_iaload 17 dX9_cell_16 rfl Ow rfl (by first | assumption | exact ix_nI (by omega) (by decide) | exact ix_lit _ rfl (by omega) (by decide) | exact ix_lit _ rfl (by decide) (by decide)) ?_
        refine A_goto 21 dX9_cell_17 (by decide) ?_
        refine A_iret dX9_cell_21 rfl ⟨_, rfl, (by first | with_reducible rfl | (simp only [c5, n5, c11, n11, if_true, if_false, ite_true, ite_false, and_true, true_and, and_false, false_and, and_self, or_true, true_or, or_false, false_or, or_self, not_true_eq_false, not_false_eq_true, decide_true, decide_false, Bool.and_true, Bool.true_and, Bool.and_false, Bool.false_and, Bool.and_self, Bool.or_true, Bool.true_or, Bool.or_false, Bool.false_or, Bool.not_true, Bool.not_false, cond_true, cond_false, bI_t, bI_f, Bool.false_eq_true, Bool.true_eq_false, dayC_1, dayC_21, dayC_221, dayC_222]; done) | (simp only [*]; done) | (simp [bI, *]; done) | with_reducible_and_instances rfl), rfl⟩
set_option maxHeartbeats 4000000 in
set_option maxRecDepth 100000 in
theorem S_X9_put_X8_1 (X : En) (l : Launch) {h : Hp} {w : Nat} {x : PW} (Ow : h w = some (wB w x)) {j : Nat} {i : Int32} (hi : ix i 6 j) {v : Int32} : Ct X l mX9_put [aR w 2, aI i, aI v] h (QV (PV1 h (w) (wB w (x.1, va_up x.2.1 j v, x.2.2)))) := by
  have hf : ∀ i, i ≠ w → h i = h i := fun _ _ => rfl
  refine Ct.intro [some (aR w 2), some (aI i), some (aI v)] (by decide +kernel) rfl (Nat.le_of_ble_eq_true rfl) ?_
  refine A_aload_n 1 dX9_put_0 rfl rfl rfl ?_
  refine A_ifnull 18 4 dX9_put_1 (by decide) rfl (fun c1 => ?_) (fun c1 => ?_)
  · skip
    exact absurd c1 (by simp)
  · skip
    refine A_iload_n 5 dX9_put_4 rfl rfl rfl ?_
    refine A_if_lt 18 8 dX9_put_5 (by decide) rfl (fun c5 => ?_) (fun c5 => ?_)
    · skip
      exact absurd c5 hi.2.2
    · skip
      try simp only [bI_0, bI_n0, Classical.not_not, Bool.not_eq_false, Bool.true_and, Bool.and_true, decide_eq_true_eq, decide_eq_false_iff_not, dayC_1, dayC_21, dayC_221, dayC_222] at c5
      have n5 := Int32.not_lt.mp c5
      refine A_iload_n 9 dX9_put_8 rfl rfl rfl ?_
      refine A_aload_n 10 dX9_put_9 rfl rfl rfl ?_
      refine A_arraylength 11 dX9_put_10 rfl Ow rfl (Nat.le_of_ble_eq_true rfl) rfl ?_
      refine A_icmp_ge 18 14 dX9_put_11 (by decide) rfl (fun c11 => ?_) (fun c11 => ?_)
      · skip
        exact absurd c11 (hi.lt (by decide))
      · skip
        try simp only [bI_0, bI_n0, Classical.not_not, Bool.not_eq_false, Bool.true_and, Bool.and_true, decide_eq_true_eq, decide_eq_false_iff_not, dayC_1, dayC_21, dayC_221, dayC_222] at c11
        have n11 := c11
        replace c11 := Int32.not_le.mp c11
        refine A_aload_n 15 dX9_put_14 rfl rfl rfl ?_
        refine A_iload_n 16 dX9_put_15 rfl rfl rfl ?_
        refine A_iload_n 17 dX9_put_16 rfl rfl rfl ?_
        refine T_X8_1 18 dX9_put_17 rfl Ow (by first | assumption | exact ix_nI (by omega) (by decide) | exact ix_lit _ rfl (by omega) (by decide) | exact ix_lit _ rfl (by decide) (by decide)) (fun h_1 nh_1 eh_1 => ?_)
        replace Ow := nh_1
        replace hf : ∀ i, i ≠ w → h_1 i = h i := fun i g0 => (eh_1 i g0).trans (hf i g0)
        refine A_vret dX9_put_18 rfl ⟨rfl, Ow, hf⟩
set_option maxHeartbeats 4000000 in
set_option maxRecDepth 100000 in
theorem S_X9_put_X8_0 (X : En) (l : Launch) {h : Hp} {w : Nat} {x : PW} (Ow : h w = some (wB w x)) {j : Nat} {i : Int32} (hi : ix i 40 j) {v : Int32} : Ct X l mX9_put [aR w 1, aI i, aI v] h (QV (PV1 h (w) (wB w (va_up x.1 j v, x.2)))) := by
  have hf : ∀ i, i ≠ w → h i = h i := fun _ _ => rfl
  refine Ct.intro [some (aR w 1), some (aI i), some (aI v)] (by decide +kernel) rfl (Nat.le_of_ble_eq_true rfl) ?_
  refine A_aload_n 1 dX9_put_0 rfl rfl rfl ?_
  refine A_ifnull 18 4 dX9_put_1 (by decide) rfl (fun c1 => ?_) (fun c1 => ?_)
  · skip
    exact absurd c1 (by simp)
  · skip
    refine A_iload_n 5 dX9_put_4 rfl rfl rfl ?_
    refine A_if_lt 18 8 dX9_put_5 (by decide) rfl (fun c5 => ?_) (fun c5 => ?_)
    · skip
      exact absurd c5 hi.2.2
    · skip
      try simp only [bI_0, bI_n0, Classical.not_not, Bool.not_eq_false, Bool.true_and, Bool.and_true, decide_eq_true_eq, decide_eq_false_iff_not, dayC_1, dayC_21, dayC_221, dayC_222] at c5
      have n5 := Int32.not_lt.mp c5
      refine A_iload_n 9 dX9_put_8 rfl rfl rfl ?_
      refine A_aload_n 10 dX9_put_9 rfl rfl rfl ?_
      refine A_arraylength 11 dX9_put_10 rfl Ow rfl (Nat.le_of_ble_eq_true rfl) rfl ?_
      refine A_icmp_ge 18 14 dX9_put_11 (by decide) rfl (fun c11 => ?_) (fun c11 => ?_)
      · skip
        exact absurd c11 (hi.lt (by decide))
      · skip
        try simp only [bI_0, bI_n0, Classical.not_not, Bool.not_eq_false, Bool.true_and, Bool.and_true, decide_eq_true_eq, decide_eq_false_iff_not, dayC_1, dayC_21, dayC_221, dayC_222] at c11
        have n11 := c11
        replace c11 := Int32.not_le.mp c11
        refine A_aload_n 15 dX9_put_14 rfl rfl rfl ?_
        refine A_iload_n 16 dX9_put_15 rfl rfl rfl ?_
        refine A_iload_n 17 dX9_put_16 rfl rfl rfl ?_
        refine T_X8_0 18 dX9_put_17 rfl Ow (by first | assumption | exact ix_nI (by omega) (by decide) | exact ix_lit _ rfl (by omega) (by decide) | exact ix_lit _ rfl (by decide) (by decide)) (fun h_1 nh_1 eh_1 => ?_)
        replace Ow := nh_1
        replace hf : ∀ i, i ≠ w → h_1 i = h i := fun i g0 => (eh_1 i g0).trans (hf i g0)
        refine A_vret dX9_put_18 rfl ⟨rfl, Ow, hf⟩
set_option maxHeartbeats 4000000 in
set_option maxRecDepth 100000 in
theorem S_X9_cell_X1_0 (X : En) (l : Launch) {h : Hp} {c : Nat} {y : PC} (Oc : h c = some (cB c y)) {j : Nat} {i : Int32} (hi : ix i 12 j) : Ct X l mX9_cell [aR c 1, aI i] h (QI (PI0 (y.1 j) h)) := by
  refine Ct.intro [some (aR c 1), some (aI i)] (by decide +kernel) rfl (Nat.le_of_ble_eq_true rfl) ?_
  refine A_aload_n 1 dX9_cell_0 rfl rfl rfl ?_
  refine A_ifnull 20 4 dX9_cell_1 (by decide) rfl (fun c1 => ?_) (fun c1 => ?_)
  · skip
    exact absurd c1 (by simp)
  · skip
    refine A_iload_n 5 dX9_cell_4 rfl rfl rfl ?_
    refine A_if_lt 20 8 dX9_cell_5 (by decide) rfl (fun c5 => ?_) (fun c5 => ?_)
    · skip
      exact absurd c5 hi.2.2
    · skip
      try simp only [bI_0, bI_n0, Classical.not_not, Bool.not_eq_false, Bool.true_and, Bool.and_true, decide_eq_true_eq, decide_eq_false_iff_not, dayC_1, dayC_21, dayC_221, dayC_222] at c5
      have n5 := Int32.not_lt.mp c5
      refine A_iload_n 9 dX9_cell_8 rfl rfl rfl ?_
      refine A_aload_n 10 dX9_cell_9 rfl rfl rfl ?_
      refine A_arraylength 11 dX9_cell_10 rfl Oc rfl (Nat.le_of_ble_eq_true rfl) rfl ?_
      refine A_icmp_ge 20 14 dX9_cell_11 (by decide) rfl (fun c11 => ?_) (fun c11 => ?_)
      · skip
        exact absurd c11 (hi.lt (by decide))
      · skip
        try simp only [bI_0, bI_n0, Classical.not_not, Bool.not_eq_false, Bool.true_and, Bool.and_true, decide_eq_true_eq, decide_eq_false_iff_not, dayC_1, dayC_21, dayC_221, dayC_222] at c11
        have n11 := c11
        replace c11 := Int32.not_le.mp c11
        refine A_aload_n 15 dX9_cell_14 rfl rfl rfl ?_
        refine A_iload_n 16 dX9_cell_15 rfl rfl rfl ?_
        refine A_iaload 17 dX9_cell_16 rfl Oc rfl (by first | assumption | exact ix_nI (by omega) (by decide) | exact ix_lit _ rfl (by omega) (by decide) | exact ix_lit _ rfl (by decide) (by decide)) ?_
        refine A_goto 21 dX9_cell_17 (by decide) ?_
        refine A_iret dX9_cell_21 rfl ⟨_, rfl, (by first | with_reducible rfl | (simp only [c5, n5, c11, n11, if_true, if_false, ite_true, ite_false, and_true, true_and, and_false, false_and, and_self, or_true, true_or, or_false, false_or, or_self, not_true_eq_false, not_false_eq_true, decide_true, decide_false, Bool.and_true, Bool.true_and, Bool.and_false, Bool.false_and, Bool.and_self, Bool.or_true, Bool.true_or, Bool.or_false, Bool.false_or, Bool.not_true, Bool.not_false, cond_true, cond_false, bI_t, bI_f, Bool.false_eq_true, Bool.true_eq_false, dayC_1, dayC_21, dayC_221, dayC_222]; done) | (simp only [*]; done) | (simp [bI, *]; done) | with_reducible_and_instances rfl), rfl⟩
set_option maxHeartbeats 4000000 in
set_option maxRecDepth 100000 in
theorem S_X9_put_X1_0 (X : En) (l : Launch) {h : Hp} {c : Nat} {y : PC} (Oc : h c = some (cB c y)) {j : Nat} {i : Int32} (hi : ix i 12 j) {v : Int32} : Ct X l mX9_put [aR c 1, aI i, aI v] h (QV (PV1 h (c) (cB c (va_up y.1 j v, y.2)))) := by
  have hf : ∀ i, i ≠ c → h i = h i := fun _ _ => rfl
  refine Ct.intro [some (aR c 1), some (aI i), some (aI v)] (by decide +kernel) rfl (Nat.le_of_ble_eq_true rfl) ?_
  refine A_aload_n 1 dX9_put_0 rfl rfl rfl ?_
  refine A_ifnull 18 4 dX9_put_1 (by decide) rfl (fun c1 => ?_) (fun c1 => ?_)
  · skip
    exact absurd c1 (by simp)
  · skip
    refine A_iload_n 5 dX9_put_4 rfl rfl rfl ?_
    refine A_if_lt 18 8 dX9_put_5 (by decide) rfl (fun c5 => ?_) (fun c5 => ?_)
    · skip
      exact absurd c5 hi.2.2
    · skip
      try simp only [bI_0, bI_n0, Classical.not_not, Bool.not_eq_false, Bool.true_and, Bool.and_true, decide_eq_true_eq, decide_eq_false_iff_not, dayC_1, dayC_21, dayC_221, dayC_222] at c5
      have n5 := Int32.not_lt.mp c5
      refine A_iload_n 9 dX9_put_8 rfl rfl rfl ?_
      refine A_aload_n 10 dX9_put_9 rfl rfl rfl ?_
      refine A_arraylength 11 dX9_put_10 rfl Oc rfl (Nat.le_of_ble_eq_true rfl) rfl ?_
      refine A_icmp_ge 18 14 dX9_put_11 (by decide) rfl (fun c11 => ?_) (fun c11 => ?_)
      · skip
        exact absurd c11 (hi.lt (by decide))
      · skip
        try simp only [bI_0, bI_n0, Classical.not_not, Bool.not_eq_false, Bool.true_and, Bool.and_true, decide_eq_true_eq, decide_eq_false_iff_not, dayC_1, dayC_21, dayC_221, dayC_222] at c11
        have n11 := c11
        replace c11 := Int32.not_le.mp c11
        refine A_aload_n 15 dX9_put_14 rfl rfl rfl ?_
        refine A_iload_n 16 dX9_put_15 rfl rfl rfl ?_
        refine A_iload_n 17 dX9_put_16 rfl rfl rfl ?_
        refine T_X1_0 18 dX9_put_17 rfl Oc (by first | assumption | exact ix_nI (by omega) (by decide) | exact ix_lit _ rfl (by omega) (by decide) | exact ix_lit _ rfl (by decide) (by decide)) (fun h_1 nh_1 eh_1 => ?_)
        replace Oc := nh_1
        replace hf : ∀ i, i ≠ c → h_1 i = h i := fun i g0 => (eh_1 i g0).trans (hf i g0)
        refine A_vret dX9_put_18 rfl ⟨rfl, Oc, hf⟩
set_option maxHeartbeats 4000000 in
set_option maxRecDepth 100000 in
theorem S_X9_cell_X1_1 (X : En) (l : Launch) {h : Hp} {c : Nat} {y : PC} (Oc : h c = some (cB c y)) {j : Nat} {i : Int32} (hi : ix i 12 j) : Ct X l mX9_cell [aR c 2, aI i] h (QI (PI0 (y.2.1 j) h)) := by
  refine Ct.intro [some (aR c 2), some (aI i)] (by decide +kernel) rfl (Nat.le_of_ble_eq_true rfl) ?_
  refine A_aload_n 1 dX9_cell_0 rfl rfl rfl ?_
  refine A_ifnull 20 4 dX9_cell_1 (by decide) rfl (fun c1 => ?_) (fun c1 => ?_)
  · skip
    exact absurd c1 (by simp)
  · skip
    refine A_iload_n 5 dX9_cell_4 rfl rfl rfl ?_
    refine A_if_lt 20 8 dX9_cell_5 (by decide) rfl (fun c5 => ?_) (fun c5 => ?_)
    · skip
      exact absurd c5 hi.2.2
    · skip
      try simp only [bI_0, bI_n0, Classical.not_not, Bool.not_eq_false, Bool.true_and, Bool.and_true, decide_eq_true_eq, decide_eq_false_iff_not, dayC_1, dayC_21, dayC_221, dayC_222] at c5
      have n5 := Int32.not_lt.mp c5
      refine A_iload_n 9 dX9_cell_8 rfl rfl rfl ?_
      refine A_aload_n 10 dX9_cell_9 rfl rfl rfl ?_
      refine A_arraylength 11 dX9_cell_10 rfl Oc rfl (Nat.le_of_ble_eq_true rfl) rfl ?_
      refine A_icmp_ge 20 14 dX9_cell_11 (by decide) rfl (fun c11 => ?_) (fun c11 => ?_)
      · skip
        exact absurd c11 (hi.lt (by decide))
      · skip
        try simp only [bI_0, bI_n0, Classical.not_not, Bool.not_eq_false, Bool.true_and, Bool.and_true, decide_eq_true_eq, decide_eq_false_iff_not, dayC_1, dayC_21, dayC_221, dayC_222] at c11
        have n11 := c11
        replace c11 := Int32.not_le.mp c11
        refine A_aload_n 15 dX9_cell_14 rfl rfl rfl ?_
        refine A_iload_n 16 dX9_cell_15 rfl rfl rfl ?_
        refine A_iaload 17 dX9_cell_16 rfl Oc rfl (by first | assumption | exact ix_nI (by omega) (by decide) | exact ix_lit _ rfl (by omega) (by decide) | exact ix_lit _ rfl (by decide) (by decide)) ?_
        refine A_goto 21 dX9_cell_17 (by decide) ?_
        refine A_iret dX9_cell_21 rfl ⟨_, rfl, (by first | with_reducible rfl | (simp only [c5, n5, c11, n11, if_true, if_false, ite_true, ite_false, and_true, true_and, and_false, false_and, and_self, or_true, true_or, or_false, false_or, or_self, not_true_eq_false, not_false_eq_true, decide_true, decide_false, Bool.and_true, Bool.true_and, Bool.and_false, Bool.false_and, Bool.and_self, Bool.or_true, Bool.true_or, Bool.or_false, Bool.false_or, Bool.not_true, Bool.not_false, cond_true, cond_false, bI_t, bI_f, Bool.false_eq_true, Bool.true_eq_false, dayC_1, dayC_21, dayC_221, dayC_222]; done) | (simp only [*]; done) | (simp [bI, *]; done) | with_reducible_and_instances rfl), rfl⟩
set_option maxHeartbeats 4000000 in
set_option maxRecDepth 100000 in
theorem S_X9_put_X1_1 (X : En) (l : Launch) {h : Hp} {c : Nat} {y : PC} (Oc : h c = some (cB c y)) {j : Nat} {i : Int32} (hi : ix i 12 j) {v : Int32} : Ct X l mX9_put [aR c 2, aI i, aI v] h (QV (PV1 h (c) (cB c (y.1, va_up y.2.1 j v, y.2.2)))) := by
  have hf : ∀ i, i ≠ c → h i = h i := fun _ _ => rfl
  refine Ct.intro [some (aR c 2), some (aI i), some (aI v)] (by decide +kernel) rfl (Nat.le_of_ble_eq_true rfl) ?_
  refine A_aload_n 1 dX9_put_0 rfl rfl rfl ?_
  refine A_ifnull 18 4 dX9_put_1 (by decide) rfl (fun c1 => ?_) (fun c1 => ?_)
  · skip
    exact absurd c1 (by simp)
  · skip
    refine A_iload_n 5 dX9_put_4 rfl rfl rfl ?_
    refine A_if_lt 18 8 dX9_put_5 (by decide) rfl (fun c5 => ?_) (fun c5 => ?_)
    · skip
      exact absurd c5 hi.2.2
    · skip
      try simp only [bI_0, bI_n0, Classical.not_not, Bool.not_eq_false, Bool.true_and, Bool.and_true, decide_eq_true_eq, decide_eq_false_iff_not, dayC_1, dayC_21, dayC_221, dayC_222] at c5
      have n5 := Int32.not_lt.mp c5
      refine A_iload_n 9 dX9_put_8 rfl rfl rfl ?_
      refine A_aload_n 10 dX9_put_9 rfl rfl rfl ?_
      refine A_arraylength 11 dX9_put_10 rfl Oc rfl (Nat.le_of_ble_eq_true rfl) rfl ?_
      refine A_icmp_ge 18 14 dX9_put_11 (by decide) rfl (fun c11 => ?_) (fun c11 => ?_)
      · skip
        exact absurd c11 (hi.lt (by decide))
      · skip
        try simp only [bI_0, bI_n0, Classical.not_not, Bool.not_eq_false, Bool.true_and, Bool.and_true, decide_eq_true_eq, decide_eq_false_iff_not, dayC_1, dayC_21, dayC_221, dayC_222] at c11
        have n11 := c11
        replace c11 := Int32.not_le.mp c11
        refine A_aload_n 15 dX9_put_14 rfl rfl rfl ?_
        refine A_iload_n 16 dX9_put_15 rfl rfl rfl ?_
        refine A_iload_n 17 dX9_put_16 rfl rfl rfl ?_
        refine T_X1_1 18 dX9_put_17 rfl Oc (by first | assumption | exact ix_nI (by omega) (by decide) | exact ix_lit _ rfl (by omega) (by decide) | exact ix_lit _ rfl (by decide) (by decide)) (fun h_1 nh_1 eh_1 => ?_)
        replace Oc := nh_1
        replace hf : ∀ i, i ≠ c → h_1 i = h i := fun i g0 => (eh_1 i g0).trans (hf i g0)
        refine A_vret dX9_put_18 rfl ⟨rfl, Oc, hf⟩
set_option maxHeartbeats 4000000 in
set_option maxRecDepth 100000 in
theorem S_X9_cell_X4_0 (X : En) (l : Launch) {h : Hp} {t : FI} {n k : Nat} (O12 : h 12 = some (leB t n k)) {j : Nat} {i : Int32} (hi : ix i 96 j) : Ct X l mX9_cell [aR 12 1, aI i] h (QI (PI0 (t j) h)) := by
  refine Ct.intro [some (aR 12 1), some (aI i)] (by decide +kernel) rfl (Nat.le_of_ble_eq_true rfl) ?_
  refine A_aload_n 1 dX9_cell_0 rfl rfl rfl ?_
  refine A_ifnull 20 4 dX9_cell_1 (by decide) rfl (fun c1 => ?_) (fun c1 => ?_)
  · skip
    exact absurd c1 (by simp)
  · skip
    refine A_iload_n 5 dX9_cell_4 rfl rfl rfl ?_
    refine A_if_lt 20 8 dX9_cell_5 (by decide) rfl (fun c5 => ?_) (fun c5 => ?_)
    · skip
      exact absurd c5 hi.2.2
    · skip
      try simp only [bI_0, bI_n0, Classical.not_not, Bool.not_eq_false, Bool.true_and, Bool.and_true, decide_eq_true_eq, decide_eq_false_iff_not, dayC_1, dayC_21, dayC_221, dayC_222] at c5
      have n5 := Int32.not_lt.mp c5
      refine A_iload_n 9 dX9_cell_8 rfl rfl rfl ?_
      refine A_aload_n 10 dX9_cell_9 rfl rfl rfl ?_
      refine A_arraylength 11 dX9_cell_10 rfl O12 rfl (Nat.le_of_ble_eq_true rfl) rfl ?_
      refine A_icmp_ge 20 14 dX9_cell_11 (by decide) rfl (fun c11 => ?_) (fun c11 => ?_)
      · skip
        exact absurd c11 (hi.lt (by decide))
      · skip
        try simp only [bI_0, bI_n0, Classical.not_not, Bool.not_eq_false, Bool.true_and, Bool.and_true, decide_eq_true_eq, decide_eq_false_iff_not, dayC_1, dayC_21, dayC_221, dayC_222] at c11
        have n11 := c11
        replace c11 := Int32.not_le.mp c11
        refine A_aload_n 15 dX9_cell_14 rfl rfl rfl ?_
        refine A_iload_n 16 dX9_cell_15 rfl rfl rfl ?_
        refine A_iaload 17 dX9_cell_16 rfl O12 rfl (by first | assumption | exact ix_nI (by omega) (by decide) | exact ix_lit _ rfl (by omega) (by decide) | exact ix_lit _ rfl (by decide) (by decide)) ?_
        refine A_goto 21 dX9_cell_17 (by decide) ?_
        refine A_iret dX9_cell_21 rfl ⟨_, rfl, (by first | with_reducible rfl | (simp only [c5, n5, c11, n11, if_true, if_false, ite_true, ite_false, and_true, true_and, and_false, false_and, and_self, or_true, true_or, or_false, false_or, or_self, not_true_eq_false, not_false_eq_true, decide_true, decide_false, Bool.and_true, Bool.true_and, Bool.and_false, Bool.false_and, Bool.and_self, Bool.or_true, Bool.true_or, Bool.or_false, Bool.false_or, Bool.not_true, Bool.not_false, cond_true, cond_false, bI_t, bI_f, Bool.false_eq_true, Bool.true_eq_false, dayC_1, dayC_21, dayC_221, dayC_222]; done) | (simp only [*]; done) | (simp [bI, *]; done) | with_reducible_and_instances rfl), rfl⟩
set_option maxHeartbeats 4000000 in
set_option maxRecDepth 100000 in
theorem S_X9_put_X4_0 (X : En) (l : Launch) {h : Hp} {t : FI} {n k : Nat} (O12 : h 12 = some (leB t n k)) {j : Nat} {i : Int32} (hi : ix i 96 j) {v : Int32} : Ct X l mX9_put [aR 12 1, aI i, aI v] h (QV (PV1 h (12) (leB (va_up t j v) n k))) := by
  have hf : ∀ i, i ≠ 12 → h i = h i := fun _ _ => rfl
  refine Ct.intro [some (aR 12 1), some (aI i), some (aI v)] (by decide +kernel) rfl (Nat.le_of_ble_eq_true rfl) ?_
  refine A_aload_n 1 dX9_put_0 rfl rfl rfl ?_
  refine A_ifnull 18 4 dX9_put_1 (by decide) rfl (fun c1 => ?_) (fun c1 => ?_)
  · skip
    exact absurd c1 (by simp)
  · skip
    refine A_iload_n 5 dX9_put_4 rfl rfl rfl ?_
    refine A_if_lt 18 8 dX9_put_5 (by decide) rfl (fun c5 => ?_) (fun c5 => ?_)
    · skip
      exact absurd c5 hi.2.2
    · skip
      try simp only [bI_0, bI_n0, Classical.not_not, Bool.not_eq_false, Bool.true_and, Bool.and_true, decide_eq_true_eq, decide_eq_false_iff_not, dayC_1, dayC_21, dayC_221, dayC_222] at c5
      have n5 := Int32.not_lt.mp c5
      refine A_iload_n 9 dX9_put_8 rfl rfl rfl ?_
      refine A_aload_n 10 dX9_put_9 rfl rfl rfl ?_
      refine A_arraylength 11 dX9_put_10 rfl O12 rfl (Nat.le_of_ble_eq_true rfl) rfl ?_
      refine A_icmp_ge 18 14 dX9_put_11 (by decide) rfl (fun c11 => ?_) (fun c11 => ?_)
      · skip
        exact absurd c11 (hi.lt (by decide))
      · skip
        try simp only [bI_0, bI_n0, Classical.not_not, Bool.not_eq_false, Bool.true_and, Bool.and_true, decide_eq_true_eq, decide_eq_false_iff_not, dayC_1, dayC_21, dayC_221, dayC_222] at c11
        have n11 := c11
        replace c11 := Int32.not_le.mp c11
        refine A_aload_n 15 dX9_put_14 rfl rfl rfl ?_
        refine A_iload_n 16 dX9_put_15 rfl rfl rfl ?_
        refine A_iload_n 17 dX9_put_16 rfl rfl rfl ?_
        refine T_X4_0 18 dX9_put_17 rfl O12 (by first | assumption | exact ix_nI (by omega) (by decide) | exact ix_lit _ rfl (by omega) (by decide) | exact ix_lit _ rfl (by decide) (by decide)) (fun h_1 nh_1 eh_1 => ?_)
        replace O12 := nh_1
        replace hf : ∀ i, i ≠ 12 → h_1 i = h i := fun i g0 => (eh_1 i g0).trans (hf i g0)
        refine A_vret dX9_put_18 rfl ⟨rfl, O12, hf⟩
set_option maxHeartbeats 4000000 in
set_option maxRecDepth 100000 in
theorem S_X9_cell_X7_0 (X : En) (l : Launch) {h : Hp} {t : FI} {n : Nat} (O15 : h 15 = some (toB t n)) {j : Nat} {i : Int32} (hi : ix i 16 j) : Ct X l mX9_cell [aR 15 1, aI i] h (QI (PI0 (t j) h)) := by
  refine Ct.intro [some (aR 15 1), some (aI i)] (by decide +kernel) rfl (Nat.le_of_ble_eq_true rfl) ?_
  refine A_aload_n 1 dX9_cell_0 rfl rfl rfl ?_
  refine A_ifnull 20 4 dX9_cell_1 (by decide) rfl (fun c1 => ?_) (fun c1 => ?_)
  · skip
    exact absurd c1 (by simp)
  · skip
    refine A_iload_n 5 dX9_cell_4 rfl rfl rfl ?_
    refine A_if_lt 20 8 dX9_cell_5 (by decide) rfl (fun c5 => ?_) (fun c5 => ?_)
    · skip
      exact absurd c5 hi.2.2
    · skip
      try simp only [bI_0, bI_n0, Classical.not_not, Bool.not_eq_false, Bool.true_and, Bool.and_true, decide_eq_true_eq, decide_eq_false_iff_not, dayC_1, dayC_21, dayC_221, dayC_222] at c5
      have n5 := Int32.not_lt.mp c5
      refine A_iload_n 9 dX9_cell_8 rfl rfl rfl ?_
      refine A_aload_n 10 dX9_cell_9 rfl rfl rfl ?_
      refine A_arraylength 11 dX9_cell_10 rfl O15 rfl (Nat.le_of_ble_eq_true rfl) rfl ?_
      refine A_icmp_ge 20 14 dX9_cell_11 (by decide) rfl (fun c11 => ?_) (fun c11 => ?_)
      · skip
        exact absurd c11 (hi.lt (by decide))
      · skip
        try simp only [bI_0, bI_n0, Classical.not_not, Bool.not_eq_false, Bool.true_and, Bool.and_true, decide_eq_true_eq, decide_eq_false_iff_not, dayC_1, dayC_21, dayC_221, dayC_222] at c11
        have n11 := c11
        replace c11 := Int32.not_le.mp c11
        refine A_aload_n 15 dX9_cell_14 rfl rfl rfl ?_
        refine A_iload_n 16 dX9_cell_15 rfl rfl rfl ?_
        refine A_iaload 17 dX9_cell_16 rfl O15 rfl (by first | assumption | exact ix_nI (by omega) (by decide) | exact ix_lit _ rfl (by omega) (by decide) | exact ix_lit _ rfl (by decide) (by decide)) ?_
        refine A_goto 21 dX9_cell_17 (by decide) ?_
        refine A_iret dX9_cell_21 rfl ⟨_, rfl, (by first | with_reducible rfl | (simp only [c5, n5, c11, n11, if_true, if_false, ite_true, ite_false, and_true, true_and, and_false, false_and, and_self, or_true, true_or, or_false, false_or, or_self, not_true_eq_false, not_false_eq_true, decide_true, decide_false, Bool.and_true, Bool.true_and, Bool.and_false, Bool.false_and, Bool.and_self, Bool.or_true, Bool.true_or, Bool.or_false, Bool.false_or, Bool.not_true, Bool.not_false, cond_true, cond_false, bI_t, bI_f, Bool.false_eq_true, Bool.true_eq_false, dayC_1, dayC_21, dayC_221, dayC_222]; done) | (simp only [*]; done) | (simp [bI, *]; done) | with_reducible_and_instances rfl), rfl⟩
set_option maxHeartbeats 4000000 in
set_option maxRecDepth 100000 in
theorem S_X9_put_X7_0 (X : En) (l : Launch) {h : Hp} {t : FI} {n : Nat} (O15 : h 15 = some (toB t n)) {j : Nat} {i : Int32} (hi : ix i 16 j) {v : Int32} : Ct X l mX9_put [aR 15 1, aI i, aI v] h (QV (PV1 h (15) (toB (va_up t j v) n))) := by
  have hf : ∀ i, i ≠ 15 → h i = h i := fun _ _ => rfl
  refine Ct.intro [some (aR 15 1), some (aI i), some (aI v)] (by decide +kernel) rfl (Nat.le_of_ble_eq_true rfl) ?_
  refine A_aload_n 1 dX9_put_0 rfl rfl rfl ?_
  refine A_ifnull 18 4 dX9_put_1 (by decide) rfl (fun c1 => ?_) (fun c1 => ?_)
  · skip
    exact absurd c1 (by simp)
  · skip
    refine A_iload_n 5 dX9_put_4 rfl rfl rfl ?_
    refine A_if_lt 18 8 dX9_put_5 (by decide) rfl (fun c5 => ?_) (fun c5 => ?_)
    · skip
      exact absurd c5 hi.2.2
    · skip
      try simp only [bI_0, bI_n0, Classical.not_not, Bool.not_eq_false, Bool.true_and, Bool.and_true, decide_eq_true_eq, decide_eq_false_iff_not, dayC_1, dayC_21, dayC_221, dayC_222] at c5
      have n5 := Int32.not_lt.mp c5
      refine A_iload_n 9 dX9_put_8 rfl rfl rfl ?_
      refine A_aload_n 10 dX9_put_9 rfl rfl rfl ?_
      refine A_arraylength 11 dX9_put_10 rfl O15 rfl (Nat.le_of_ble_eq_true rfl) rfl ?_
      refine A_icmp_ge 18 14 dX9_put_11 (by decide) rfl (fun c11 => ?_) (fun c11 => ?_)
      · skip
        exact absurd c11 (hi.lt (by decide))
      · skip
        try simp only [bI_0, bI_n0, Classical.not_not, Bool.not_eq_false, Bool.true_and, Bool.and_true, decide_eq_true_eq, decide_eq_false_iff_not, dayC_1, dayC_21, dayC_221, dayC_222] at c11
        have n11 := c11
        replace c11 := Int32.not_le.mp c11
        refine A_aload_n 15 dX9_put_14 rfl rfl rfl ?_
        refine A_iload_n 16 dX9_put_15 rfl rfl rfl ?_
        refine A_iload_n 17 dX9_put_16 rfl rfl rfl ?_
        refine T_X7_0 18 dX9_put_17 rfl O15 (by first | assumption | exact ix_nI (by omega) (by decide) | exact ix_lit _ rfl (by omega) (by decide) | exact ix_lit _ rfl (by decide) (by decide)) (fun h_1 nh_1 eh_1 => ?_)
        replace O15 := nh_1
        replace hf : ∀ i, i ≠ 15 → h_1 i = h i := fun i g0 => (eh_1 i g0).trans (hf i g0)
        refine A_vret dX9_put_18 rfl ⟨rfl, O15, hf⟩
set_option maxHeartbeats 4000000 in
set_option maxRecDepth 100000 in
theorem S_X9_cell_X3_0 (X : En) (l : Launch) {h : Hp} {t : FI} {n : Nat} (O17 : h 17 = some (guB t n)) {j : Nat} {i : Int32} (hi : ix i 256 j) : Ct X l mX9_cell [aR 17 1, aI i] h (QI (PI0 (t j) h)) := by
  refine Ct.intro [some (aR 17 1), some (aI i)] (by decide +kernel) rfl (Nat.le_of_ble_eq_true rfl) ?_
  refine A_aload_n 1 dX9_cell_0 rfl rfl rfl ?_
  refine A_ifnull 20 4 dX9_cell_1 (by decide) rfl (fun c1 => ?_) (fun c1 => ?_)
  · skip
    exact absurd c1 (by simp)
  · skip
    refine A_iload_n 5 dX9_cell_4 rfl rfl rfl ?_
    refine A_if_lt 20 8 dX9_cell_5 (by decide) rfl (fun c5 => ?_) (fun c5 => ?_)
    · skip
      exact absurd c5 hi.2.2
    · skip
      try simp only [bI_0, bI_n0, Classical.not_not, Bool.not_eq_false, Bool.true_and, Bool.and_true, decide_eq_true_eq, decide_eq_false_iff_not, dayC_1, dayC_21, dayC_221, dayC_222] at c5
      have n5 := Int32.not_lt.mp c5
      refine A_iload_n 9 dX9_cell_8 rfl rfl rfl ?_
      refine A_aload_n 10 dX9_cell_9 rfl rfl rfl ?_
      refine A_arraylength 11 dX9_cell_10 rfl O17 rfl (Nat.le_of_ble_eq_true rfl) rfl ?_
      refine A_icmp_ge 20 14 dX9_cell_11 (by decide) rfl (fun c11 => ?_) (fun c11 => ?_)
      · skip
        exact absurd c11 (hi.lt (by decide))
      · skip
        try simp only [bI_0, bI_n0, Classical.not_not, Bool.not_eq_false, Bool.true_and, Bool.and_true, decide_eq_true_eq, decide_eq_false_iff_not, dayC_1, dayC_21, dayC_221, dayC_222] at c11
        have n11 := c11
        replace c11 := Int32.not_le.mp c11
        refine A_aload_n 15 dX9_cell_14 rfl rfl rfl ?_
        refine A_iload_n 16 dX9_cell_15 rfl rfl rfl ?_
        refine A_iaload 17 dX9_cell_16 rfl O17 rfl (by first | assumption | exact ix_nI (by omega) (by decide) | exact ix_lit _ rfl (by omega) (by decide) | exact ix_lit _ rfl (by decide) (by decide)) ?_
        refine A_goto 21 dX9_cell_17 (by decide) ?_
        refine A_iret dX9_cell_21 rfl ⟨_, rfl, (by first | with_reducible rfl | (simp only [c5, n5, c11, n11, if_true, if_false, ite_true, ite_false, and_true, true_and, and_false, false_and, and_self, or_true, true_or, or_false, false_or, or_self, not_true_eq_false, not_false_eq_true, decide_true, decide_false, Bool.and_true, Bool.true_and, Bool.and_false, Bool.false_and, Bool.and_self, Bool.or_true, Bool.true_or, Bool.or_false, Bool.false_or, Bool.not_true, Bool.not_false, cond_true, cond_false, bI_t, bI_f, Bool.false_eq_true, Bool.true_eq_false, dayC_1, dayC_21, dayC_221, dayC_222]; done) | (simp only [*]; done) | (simp [bI, *]; done) | with_reducible_and_instances rfl), rfl⟩
set_option maxHeartbeats 4000000 in
set_option maxRecDepth 100000 in
theorem S_X9_put_X3_0 (X : En) (l : Launch) {h : Hp} {t : FI} {n : Nat} (O17 : h 17 = some (guB t n)) {j : Nat} {i : Int32} (hi : ix i 256 j) {v : Int32} : Ct X l mX9_put [aR 17 1, aI i, aI v] h (QV (PV1 h (17) (guB (va_up t j v) n))) := by
  have hf : ∀ i, i ≠ 17 → h i = h i := fun _ _ => rfl
  refine Ct.intro [some (aR 17 1), some (aI i), some (aI v)] (by decide +kernel) rfl (Nat.le_of_ble_eq_true rfl) ?_
  refine A_aload_n 1 dX9_put_0 rfl rfl rfl ?_
  refine A_ifnull 18 4 dX9_put_1 (by decide) rfl (fun c1 => ?_) (fun c1 => ?_)
  · skip
    exact absurd c1 (by simp)
  · skip
    refine A_iload_n 5 dX9_put_4 rfl rfl rfl ?_
    refine A_if_lt 18 8 dX9_put_5 (by decide) rfl (fun c5 => ?_) (fun c5 => ?_)
    · skip
      exact absurd c5 hi.2.2
    · skip
      try simp only [bI_0, bI_n0, Classical.not_not, Bool.not_eq_false, Bool.true_and, Bool.and_true, decide_eq_true_eq, decide_eq_false_iff_not, dayC_1, dayC_21, dayC_221, dayC_222] at c5
      have n5 := Int32.not_lt.mp c5
      refine A_iload_n 9 dX9_put_8 rfl rfl rfl ?_
      refine A_aload_n 10 dX9_put_9 rfl rfl rfl ?_
      refine A_arraylength 11 dX9_put_10 rfl O17 rfl (Nat.le_of_ble_eq_true rfl) rfl ?_
      refine A_icmp_ge 18 14 dX9_put_11 (by decide) rfl (fun c11 => ?_) (fun c11 => ?_)
      · skip
        exact absurd c11 (hi.lt (by decide))
      · skip
        try simp only [bI_0, bI_n0, Classical.not_not, Bool.not_eq_false, Bool.true_and, Bool.and_true, decide_eq_true_eq, decide_eq_false_iff_not, dayC_1, dayC_21, dayC_221, dayC_222] at c11
        have n11 := c11
        replace c11 := Int32.not_le.mp c11
        refine A_aload_n 15 dX9_put_14 rfl rfl rfl ?_
        refine A_iload_n 16 dX9_put_15 rfl rfl rfl ?_
        refine A_iload_n 17 dX9_put_16 rfl rfl rfl ?_
        refine T_X3_0 18 dX9_put_17 rfl O17 (by first | assumption | exact ix_nI (by omega) (by decide) | exact ix_lit _ rfl (by omega) (by decide) | exact ix_lit _ rfl (by decide) (by decide)) (fun h_1 nh_1 eh_1 => ?_)
        replace O17 := nh_1
        replace hf : ∀ i, i ≠ 17 → h_1 i = h i := fun i g0 => (eh_1 i g0).trans (hf i g0)
        refine A_vret dX9_put_18 rfl ⟨rfl, O17, hf⟩
set_option maxHeartbeats 4000000 in
set_option maxRecDepth 100000 in
theorem S_X9_cell_X2_1 (X : En) (l : Launch) {h : Hp} {s : Nat → Int64} {t : FI} (O25 : h 25 = some (foB s t)) {j : Nat} {i : Int32} (hi : ix i 256 j) : Ct X l mX9_cell [aR 25 2, aI i] h (QI (PI0 (t j) h)) := by
  refine Ct.intro [some (aR 25 2), some (aI i)] (by decide +kernel) rfl (Nat.le_of_ble_eq_true rfl) ?_
  refine A_aload_n 1 dX9_cell_0 rfl rfl rfl ?_
  refine A_ifnull 20 4 dX9_cell_1 (by decide) rfl (fun c1 => ?_) (fun c1 => ?_)
  · skip
    exact absurd c1 (by simp)
  · skip
    refine A_iload_n 5 dX9_cell_4 rfl rfl rfl ?_
    refine A_if_lt 20 8 dX9_cell_5 (by decide) rfl (fun c5 => ?_) (fun c5 => ?_)
    · skip
      exact absurd c5 hi.2.2
    · skip
      try simp only [bI_0, bI_n0, Classical.not_not, Bool.not_eq_false, Bool.true_and, Bool.and_true, decide_eq_true_eq, decide_eq_false_iff_not, dayC_1, dayC_21, dayC_221, dayC_222] at c5
      have n5 := Int32.not_lt.mp c5
      refine A_iload_n 9 dX9_cell_8 rfl rfl rfl ?_
      refine A_aload_n 10 dX9_cell_9 rfl rfl rfl ?_
      refine A_arraylength 11 dX9_cell_10 rfl O25 rfl (Nat.le_of_ble_eq_true rfl) rfl ?_
      refine A_icmp_ge 20 14 dX9_cell_11 (by decide) rfl (fun c11 => ?_) (fun c11 => ?_)
      · skip
        exact absurd c11 (hi.lt (by decide))
      · skip
        try simp only [bI_0, bI_n0, Classical.not_not, Bool.not_eq_false, Bool.true_and, Bool.and_true, decide_eq_true_eq, decide_eq_false_iff_not, dayC_1, dayC_21, dayC_221, dayC_222] at c11
        have n11 := c11
        replace c11 := Int32.not_le.mp c11
        refine A_aload_n 15 dX9_cell_14 rfl rfl rfl ?_
        refine A_iload_n 16 dX9_cell_15 rfl rfl rfl ?_
        refine A_iaload 17 dX9_cell_16 rfl O25 rfl (by first | assumption | exact ix_nI (by omega) (by decide) | exact ix_lit _ rfl (by omega) (by decide) | exact ix_lit _ rfl (by decide) (by decide)) ?_
        refine A_goto 21 dX9_cell_17 (by decide) ?_
        refine A_iret dX9_cell_21 rfl ⟨_, rfl, (by first | with_reducible rfl | (simp only [c5, n5, c11, n11, if_true, if_false, ite_true, ite_false, and_true, true_and, and_false, false_and, and_self, or_true, true_or, or_false, false_or, or_self, not_true_eq_false, not_false_eq_true, decide_true, decide_false, Bool.and_true, Bool.true_and, Bool.and_false, Bool.false_and, Bool.and_self, Bool.or_true, Bool.true_or, Bool.or_false, Bool.false_or, Bool.not_true, Bool.not_false, cond_true, cond_false, bI_t, bI_f, Bool.false_eq_true, Bool.true_eq_false, dayC_1, dayC_21, dayC_221, dayC_222]; done) | (simp only [*]; done) | (simp [bI, *]; done) | with_reducible_and_instances rfl), rfl⟩
set_option maxHeartbeats 4000000 in
set_option maxRecDepth 100000 in
theorem S_X9_put_X2_1 (X : En) (l : Launch) {h : Hp} {s : Nat → Int64} {t : FI} (O25 : h 25 = some (foB s t)) {j : Nat} {i : Int32} (hi : ix i 256 j) {v : Int32} : Ct X l mX9_put [aR 25 2, aI i, aI v] h (QV (PV1 h (25) (foB s (va_up t j v)))) := by
  have hf : ∀ i, i ≠ 25 → h i = h i := fun _ _ => rfl
  refine Ct.intro [some (aR 25 2), some (aI i), some (aI v)] (by decide +kernel) rfl (Nat.le_of_ble_eq_true rfl) ?_
  refine A_aload_n 1 dX9_put_0 rfl rfl rfl ?_
  refine A_ifnull 18 4 dX9_put_1 (by decide) rfl (fun c1 => ?_) (fun c1 => ?_)
  · skip
    exact absurd c1 (by simp)
  · skip
    refine A_iload_n 5 dX9_put_4 rfl rfl rfl ?_
    refine A_if_lt 18 8 dX9_put_5 (by decide) rfl (fun c5 => ?_) (fun c5 => ?_)
    · skip
      exact absurd c5 hi.2.2
    · skip
      try simp only [bI_0, bI_n0, Classical.not_not, Bool.not_eq_false, Bool.true_and, Bool.and_true, decide_eq_true_eq, decide_eq_false_iff_not, dayC_1, dayC_21, dayC_221, dayC_222] at c5
      have n5 := Int32.not_lt.mp c5
      refine A_iload_n 9 dX9_put_8 rfl rfl rfl ?_
      refine A_aload_n 10 dX9_put_9 rfl rfl rfl ?_
      refine A_arraylength 11 dX9_put_10 rfl O25 rfl (Nat.le_of_ble_eq_true rfl) rfl ?_
      refine A_icmp_ge 18 14 dX9_put_11 (by decide) rfl (fun c11 => ?_) (fun c11 => ?_)
      · skip
        exact absurd c11 (hi.lt (by decide))
      · skip
        try simp only [bI_0, bI_n0, Classical.not_not, Bool.not_eq_false, Bool.true_and, Bool.and_true, decide_eq_true_eq, decide_eq_false_iff_not, dayC_1, dayC_21, dayC_221, dayC_222] at c11
        have n11 := c11
        replace c11 := Int32.not_le.mp c11
        refine A_aload_n 15 dX9_put_14 rfl rfl rfl ?_
        refine A_iload_n 16 dX9_put_15 rfl rfl rfl ?_
        refine A_iload_n 17 dX9_put_16 rfl rfl rfl ?_
        refine T_X2_1 18 dX9_put_17 rfl O25 (by first | assumption | exact ix_nI (by omega) (by decide) | exact ix_lit _ rfl (by omega) (by decide) | exact ix_lit _ rfl (by decide) (by decide)) (fun h_1 nh_1 eh_1 => ?_)
        replace O25 := nh_1
        replace hf : ∀ i, i ≠ 25 → h_1 i = h i := fun i g0 => (eh_1 i g0).trans (hf i g0)
        refine A_vret dX9_put_18 rfl ⟨rfl, O25, hf⟩
set_option maxHeartbeats 4000000 in
set_option maxRecDepth 100000 in
theorem S_X9_cell_X9_0 (X : En) (l : Launch) {h : Hp} {g : Int32} {r : FI} (O0 : h 0 = some (maB g r)) {j : Nat} {i : Int32} (hi : ix i 7 j) : Ct X l mX9_cell [aR 0 1, aI i] h (QI (PI0 (r j) h)) := by
  refine Ct.intro [some (aR 0 1), some (aI i)] (by decide +kernel) rfl (Nat.le_of_ble_eq_true rfl) ?_
  refine A_aload_n 1 dX9_cell_0 rfl rfl rfl ?_
  refine A_ifnull 20 4 dX9_cell_1 (by decide) rfl (fun c1 => ?_) (fun c1 => ?_)
  · skip
    exact absurd c1 (by simp)
  · skip
    refine A_iload_n 5 dX9_cell_4 rfl rfl rfl ?_
    refine A_if_lt 20 8 dX9_cell_5 (by decide) rfl (fun c5 => ?_) (fun c5 => ?_)
    · skip
      exact absurd c5 hi.2.2
    · skip
      try simp only [bI_0, bI_n0, Classical.not_not, Bool.not_eq_false, Bool.true_and, Bool.and_true, decide_eq_true_eq, decide_eq_false_iff_not, dayC_1, dayC_21, dayC_221, dayC_222] at c5
      have n5 := Int32.not_lt.mp c5
      refine A_iload_n 9 dX9_cell_8 rfl rfl rfl ?_
      refine A_aload_n 10 dX9_cell_9 rfl rfl rfl ?_
      refine A_arraylength 11 dX9_cell_10 rfl O0 rfl (Nat.le_of_ble_eq_true rfl) rfl ?_
      refine A_icmp_ge 20 14 dX9_cell_11 (by decide) rfl (fun c11 => ?_) (fun c11 => ?_)
      · skip
        exact absurd c11 (hi.lt (by decide))
      · skip
        try simp only [bI_0, bI_n0, Classical.not_not, Bool.not_eq_false, Bool.true_and, Bool.and_true, decide_eq_true_eq, decide_eq_false_iff_not, dayC_1, dayC_21, dayC_221, dayC_222] at c11
        have n11 := c11
        replace c11 := Int32.not_le.mp c11
        refine A_aload_n 15 dX9_cell_14 rfl rfl rfl ?_
        refine A_iload_n 16 dX9_cell_15 rfl rfl rfl ?_
        refine A_iaload 17 dX9_cell_16 rfl O0 rfl (by first | assumption | exact ix_nI (by omega) (by decide) | exact ix_lit _ rfl (by omega) (by decide) | exact ix_lit _ rfl (by decide) (by decide)) ?_
        refine A_goto 21 dX9_cell_17 (by decide) ?_
        refine A_iret dX9_cell_21 rfl ⟨_, rfl, (by first | with_reducible rfl | (simp only [c5, n5, c11, n11, if_true, if_false, ite_true, ite_false, and_true, true_and, and_false, false_and, and_self, or_true, true_or, or_false, false_or, or_self, not_true_eq_false, not_false_eq_true, decide_true, decide_false, Bool.and_true, Bool.true_and, Bool.and_false, Bool.false_and, Bool.and_self, Bool.or_true, Bool.true_or, Bool.or_false, Bool.false_or, Bool.not_true, Bool.not_false, cond_true, cond_false, bI_t, bI_f, Bool.false_eq_true, Bool.true_eq_false, dayC_1, dayC_21, dayC_221, dayC_222]; done) | (simp only [*]; done) | (simp [bI, *]; done) | with_reducible_and_instances rfl), rfl⟩
set_option maxHeartbeats 4000000 in
set_option maxRecDepth 100000 in
theorem S_X9_put_X9_0 (X : En) (l : Launch) {h : Hp} {g : Int32} {r : FI} (O0 : h 0 = some (maB g r)) {j : Nat} {i : Int32} (hi : ix i 7 j) {v : Int32} : Ct X l mX9_put [aR 0 1, aI i, aI v] h (QV (PV1 h (0) (maB g (va_up r j v)))) := by
  have hf : ∀ i, i ≠ 0 → h i = h i := fun _ _ => rfl
  refine Ct.intro [some (aR 0 1), some (aI i), some (aI v)] (by decide +kernel) rfl (Nat.le_of_ble_eq_true rfl) ?_
  refine A_aload_n 1 dX9_put_0 rfl rfl rfl ?_
  refine A_ifnull 18 4 dX9_put_1 (by decide) rfl (fun c1 => ?_) (fun c1 => ?_)
  · skip
    exact absurd c1 (by simp)
  · skip
    refine A_iload_n 5 dX9_put_4 rfl rfl rfl ?_
    refine A_if_lt 18 8 dX9_put_5 (by decide) rfl (fun c5 => ?_) (fun c5 => ?_)
    · skip
      exact absurd c5 hi.2.2
    · skip
      try simp only [bI_0, bI_n0, Classical.not_not, Bool.not_eq_false, Bool.true_and, Bool.and_true, decide_eq_true_eq, decide_eq_false_iff_not, dayC_1, dayC_21, dayC_221, dayC_222] at c5
      have n5 := Int32.not_lt.mp c5
      refine A_iload_n 9 dX9_put_8 rfl rfl rfl ?_
      refine A_aload_n 10 dX9_put_9 rfl rfl rfl ?_
      refine A_arraylength 11 dX9_put_10 rfl O0 rfl (Nat.le_of_ble_eq_true rfl) rfl ?_
      refine A_icmp_ge 18 14 dX9_put_11 (by decide) rfl (fun c11 => ?_) (fun c11 => ?_)
      · skip
        exact absurd c11 (hi.lt (by decide))
      · skip
        try simp only [bI_0, bI_n0, Classical.not_not, Bool.not_eq_false, Bool.true_and, Bool.and_true, decide_eq_true_eq, decide_eq_false_iff_not, dayC_1, dayC_21, dayC_221, dayC_222] at c11
        have n11 := c11
        replace c11 := Int32.not_le.mp c11
        refine A_aload_n 15 dX9_put_14 rfl rfl rfl ?_
        refine A_iload_n 16 dX9_put_15 rfl rfl rfl ?_
        refine A_iload_n 17 dX9_put_16 rfl rfl rfl ?_
        refine T_X9_0 18 dX9_put_17 rfl O0 (by first | assumption | exact ix_nI (by omega) (by decide) | exact ix_lit _ rfl (by omega) (by decide) | exact ix_lit _ rfl (by decide) (by decide)) (fun h_1 nh_1 eh_1 => ?_)
        replace O0 := nh_1
        replace hf : ∀ i, i ≠ 0 → h_1 i = h i := fun i g0 => (eh_1 i g0).trans (hf i g0)
        refine A_vret dX9_put_18 rfl ⟨rfl, O0, hf⟩
