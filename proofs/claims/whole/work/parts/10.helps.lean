/-! small helps of the class -/
def btI (p w : Int32) : Bool := decide (p &&& (1 <<< (w &&& 31)) ≠ 0)
def oneB (w : Int32) : Int32 := 1 <<< (w &&& 31)
def inT (t : Int32) : Bool := decide (0 ≤ t ∧ t < 8)
def bitC (x0 : Int32) : Int32 :=
  let s (x : Int32) (k : Int32) : Int32 := (x.toUInt32 >>> (k.toUInt32 &&& Int32.toUInt32 31)).toInt32
  let x1 := x0 - (s x0 1 &&& 1431655765)
  let x2 := (x1 &&& 858993459) + (s x1 2 &&& 858993459)
  let x3 := (x2 + s x2 4) &&& 252645135
  let x4 := x3 + s x3 8
  let x5 := x4 + s x4 16
  x5 &&& 63
theorem le_nl {a b : Int32} : a ≤ b ↔ ¬ b < a := Int32.not_lt.symm
theorem ix.lt {i : Int32} {n j : Nat} (hi : ix i n j) (hn : n < 2 ^ 31) : ¬ nI n ≤ i := by
  rw [nI_self hi.2.2, hi.1, nle_iff hn (by have := hi.2.1; omega)]
  have := hi.2.1
  omega
set_option maxHeartbeats 4000000 in
set_option maxRecDepth 100000 in
theorem S_J6_bitCount_0f7a4 (X : En) (l : Launch) {h : Hp} {v : Int32} : Ct X l mJ6_bitCount_0f7a4 [aI v] h (QI (PI0 (bitC v) h)) := by
  refine Ct.intro [some (aI v)] (by decide +kernel) rfl (Nat.le_of_ble_eq_true rfl) ?_
  refine A_iload_n 1 dJ6_bitCount_0f7a4_0 rfl rfl rfl ?_
  refine A_iload_n 2 dJ6_bitCount_0f7a4_1 rfl rfl rfl ?_
  refine A_iconst 3 (1) dJ6_bitCount_0f7a4_2 rfl (by decide) ?_
  refine A_iushr 4 dJ6_bitCount_0f7a4_3 rfl ?_
  refine A_ldc_w 7 _ dJ6_bitCount_0f7a4_4 rfl cn_J6_265 ?_
  refine A_iand 8 dJ6_bitCount_0f7a4_7 rfl ?_
  refine A_isub 9 dJ6_bitCount_0f7a4_8 rfl ?_
  refine A_istore_n 10 dJ6_bitCount_0f7a4_9 rfl rfl (by decide) ast_0 ?_
  refine A_iload_n 11 dJ6_bitCount_0f7a4_10 rfl rfl rfl ?_
  refine A_ldc_w 14 _ dJ6_bitCount_0f7a4_11 rfl cn_J6_266 ?_
  refine A_iand 15 dJ6_bitCount_0f7a4_14 rfl ?_
  refine A_iload_n 16 dJ6_bitCount_0f7a4_15 rfl rfl rfl ?_
  refine A_iconst 17 (2) dJ6_bitCount_0f7a4_16 rfl (by decide) ?_
  refine A_iushr 18 dJ6_bitCount_0f7a4_17 rfl ?_
  refine A_ldc_w 21 _ dJ6_bitCount_0f7a4_18 rfl cn_J6_266 ?_
  refine A_iand 22 dJ6_bitCount_0f7a4_21 rfl ?_
  refine A_iadd 23 dJ6_bitCount_0f7a4_22 rfl ?_
  refine A_istore_n 24 dJ6_bitCount_0f7a4_23 rfl rfl (by decide) ast_0 ?_
  refine A_iload_n 25 dJ6_bitCount_0f7a4_24 rfl rfl rfl ?_
  refine A_iload_n 26 dJ6_bitCount_0f7a4_25 rfl rfl rfl ?_
  refine A_iconst 27 (4) dJ6_bitCount_0f7a4_26 rfl (by decide) ?_
  refine A_iushr 28 dJ6_bitCount_0f7a4_27 rfl ?_
  refine A_iadd 29 dJ6_bitCount_0f7a4_28 rfl ?_
  refine A_ldc_w 32 _ dJ6_bitCount_0f7a4_29 rfl cn_J6_267 ?_
  refine A_iand 33 dJ6_bitCount_0f7a4_32 rfl ?_
  refine A_istore_n 34 dJ6_bitCount_0f7a4_33 rfl rfl (by decide) ast_0 ?_
  refine A_iload_n 35 dJ6_bitCount_0f7a4_34 rfl rfl rfl ?_
  refine A_iload_n 36 dJ6_bitCount_0f7a4_35 rfl rfl rfl ?_
  refine A_bipush 38 (8) dJ6_bitCount_0f7a4_36 rfl (by decide) ?_
  refine A_iushr 39 dJ6_bitCount_0f7a4_38 rfl ?_
  refine A_iadd 40 dJ6_bitCount_0f7a4_39 rfl ?_
  refine A_istore_n 41 dJ6_bitCount_0f7a4_40 rfl rfl (by decide) ast_0 ?_
  refine A_iload_n 42 dJ6_bitCount_0f7a4_41 rfl rfl rfl ?_
  refine A_iload_n 43 dJ6_bitCount_0f7a4_42 rfl rfl rfl ?_
  refine A_bipush 45 (16) dJ6_bitCount_0f7a4_43 rfl (by decide) ?_
  refine A_iushr 46 dJ6_bitCount_0f7a4_45 rfl ?_
  refine A_iadd 47 dJ6_bitCount_0f7a4_46 rfl ?_
  refine A_istore_n 48 dJ6_bitCount_0f7a4_47 rfl rfl (by decide) ast_0 ?_
  refine A_iload_n 49 dJ6_bitCount_0f7a4_48 rfl rfl rfl ?_
  refine A_bipush 51 (63) dJ6_bitCount_0f7a4_49 rfl (by decide) ?_
  refine A_iand 52 dJ6_bitCount_0f7a4_51 rfl ?_
  refine A_iret dJ6_bitCount_0f7a4_52 rfl ⟨_, rfl, (by first | rfl | ((try simp only [le_nl, Classical.not_not] at *); simp [bI, le_nl, *]; done) | ((try simp only [le_nl, Classical.not_not] at *); simp_all [bI, le_nl]; done)), rfl⟩
set_option maxHeartbeats 4000000 in
set_option maxRecDepth 100000 in
theorem S_X9_isNot0or1 (X : En) (l : Launch) {h : Hp} {v : Int32} : Ct X l mX9_isNot0or1 [aI v] h (QI (PI0 (bI (decide (v < 0 ∨ 1 < v))) h)) := by
  refine Ct.intro [some (aI v)] (by decide +kernel) rfl (Nat.le_of_ble_eq_true rfl) ?_
  refine A_iload_n 1 dX9_isNot0or1_0 rfl rfl rfl ?_
  refine A_if_lt 9 4 dX9_isNot0or1_1 (by decide) rfl (fun c1 => ?_) (fun c1 => ?_)
  · skip
    refine A_iconst 10 (1) dX9_isNot0or1_9 rfl (by decide) ?_
    refine A_goto 14 dX9_isNot0or1_10 (by decide) ?_
    refine A_zret dX9_isNot0or1_14 rfl (by first | exact Or.inl rfl | exact Or.inr rfl | exact bI01 _ | (subst_vars; exact bI01 _)) ⟨_, rfl, (by first | rfl | ((try simp only [le_nl, Classical.not_not] at *); simp [bI, le_nl, *]; done) | ((try simp only [le_nl, Classical.not_not] at *); simp_all [bI, le_nl]; done)), rfl⟩
  · skip
    refine A_iload_n 5 dX9_isNot0or1_4 rfl rfl rfl ?_
    refine A_iconst 6 (1) dX9_isNot0or1_5 rfl (by decide) ?_
    refine A_icmp_le 13 9 dX9_isNot0or1_6 (by decide) rfl (fun c6 => ?_) (fun c6 => ?_)
    · skip
      refine A_iconst 14 (0) dX9_isNot0or1_13 rfl (by decide) ?_
      refine A_zret dX9_isNot0or1_14 rfl (by first | exact Or.inl rfl | exact Or.inr rfl | exact bI01 _ | (subst_vars; exact bI01 _)) ⟨_, rfl, (by first | rfl | ((try simp only [le_nl, Classical.not_not] at *); simp [bI, le_nl, *]; done) | ((try simp only [le_nl, Classical.not_not] at *); simp_all [bI, le_nl]; done)), rfl⟩
    · skip
      refine A_iconst 10 (1) dX9_isNot0or1_9 rfl (by decide) ?_
      refine A_goto 14 dX9_isNot0or1_10 (by decide) ?_
      refine A_zret dX9_isNot0or1_14 rfl (by first | exact Or.inl rfl | exact Or.inr rfl | exact bI01 _ | (subst_vars; exact bI01 _)) ⟨_, rfl, (by first | rfl | ((try simp only [le_nl, Classical.not_not] at *); simp [bI, le_nl, *]; done) | ((try simp only [le_nl, Classical.not_not] at *); simp_all [bI, le_nl]; done)), rfl⟩
set_option maxHeartbeats 4000000 in
set_option maxRecDepth 100000 in
theorem S_X9_isThing (X : En) (l : Launch) {h : Hp} {t : Int32} : Ct X l mX9_isThing [aI t] h (QI (PI0 (bI (inT t)) h)) := by
  refine Ct.intro [some (aI t)] (by decide +kernel) rfl (Nat.le_of_ble_eq_true rfl) ?_
  refine A_iload_n 1 dX9_isThing_0 rfl rfl rfl ?_
  refine A_if_lt 14 4 dX9_isThing_1 (by decide) rfl (fun c1 => ?_) (fun c1 => ?_)
  · skip
    refine A_iconst 15 (0) dX9_isThing_14 rfl (by decide) ?_
    refine A_zret dX9_isThing_15 rfl (by first | exact Or.inl rfl | exact Or.inr rfl | exact bI01 _ | (subst_vars; exact bI01 _)) ⟨_, rfl, (by first | rfl | ((try simp only [le_nl, Classical.not_not] at *); simp [bI, le_nl, *, inT]; done) | ((try simp only [le_nl, Classical.not_not] at *); simp_all [bI, le_nl, inT]; done)), rfl⟩
  · skip
    refine A_iload_n 5 dX9_isThing_4 rfl rfl rfl ?_
    refine A_bipush 7 (8) dX9_isThing_5 rfl (by decide) ?_
    refine A_icmp_ge 14 10 dX9_isThing_7 (by decide) rfl (fun c7 => ?_) (fun c7 => ?_)
    · skip
      refine A_iconst 15 (0) dX9_isThing_14 rfl (by decide) ?_
      refine A_zret dX9_isThing_15 rfl (by first | exact Or.inl rfl | exact Or.inr rfl | exact bI01 _ | (subst_vars; exact bI01 _)) ⟨_, rfl, (by first | rfl | ((try simp only [le_nl, Classical.not_not] at *); simp [bI, le_nl, *, inT]; done) | ((try simp only [le_nl, Classical.not_not] at *); simp_all [bI, le_nl, inT]; done)), rfl⟩
    · skip
      refine A_iconst 11 (1) dX9_isThing_10 rfl (by decide) ?_
      refine A_goto 15 dX9_isThing_11 (by decide) ?_
      refine A_zret dX9_isThing_15 rfl (by first | exact Or.inl rfl | exact Or.inr rfl | exact bI01 _ | (subst_vars; exact bI01 _)) ⟨_, rfl, (by first | rfl | ((try simp only [le_nl, Classical.not_not] at *); simp [bI, le_nl, *, inT]; done) | ((try simp only [le_nl, Classical.not_not] at *); simp_all [bI, le_nl, inT]; done)), rfl⟩
set_option maxHeartbeats 4000000 in
set_option maxRecDepth 100000 in
theorem S_X9_thingBit (X : En) (l : Launch) {h : Hp} {t : Int32} : Ct X l mX9_thingBit [aI t] h (QI (PI0 (if inT t then oneB t else 0) h)) := by
  refine Ct.intro [some (aI t)] (by decide +kernel) rfl (Nat.le_of_ble_eq_true rfl) ?_
  refine A_iload_n 1 dX9_thingBit_0 rfl rfl rfl ?_
  refine A_if_lt 16 4 dX9_thingBit_1 (by decide) rfl (fun c1 => ?_) (fun c1 => ?_)
  · skip
    refine A_iconst 17 (0) dX9_thingBit_16 rfl (by decide) ?_
    refine A_iret dX9_thingBit_17 rfl ⟨_, rfl, (by first | rfl | ((try simp only [le_nl, Classical.not_not] at *); simp [bI, le_nl, *, inT, oneB]; done) | ((try simp only [le_nl, Classical.not_not] at *); simp_all [bI, le_nl, inT, oneB]; done)), rfl⟩
  · skip
    refine A_iload_n 5 dX9_thingBit_4 rfl rfl rfl ?_
    refine A_bipush 7 (8) dX9_thingBit_5 rfl (by decide) ?_
    refine A_icmp_ge 16 10 dX9_thingBit_7 (by decide) rfl (fun c7 => ?_) (fun c7 => ?_)
    · skip
      refine A_iconst 17 (0) dX9_thingBit_16 rfl (by decide) ?_
      refine A_iret dX9_thingBit_17 rfl ⟨_, rfl, (by first | rfl | ((try simp only [le_nl, Classical.not_not] at *); simp [bI, le_nl, *, inT, oneB]; done) | ((try simp only [le_nl, Classical.not_not] at *); simp_all [bI, le_nl, inT, oneB]; done)), rfl⟩
    · skip
      refine A_iconst 11 (1) dX9_thingBit_10 rfl (by decide) ?_
      refine A_iload_n 12 dX9_thingBit_11 rfl rfl rfl ?_
      refine A_ishl 13 dX9_thingBit_12 rfl ?_
      refine A_goto 17 dX9_thingBit_13 (by decide) ?_
      refine A_iret dX9_thingBit_17 rfl ⟨_, rfl, (by first | rfl | ((try simp only [le_nl, Classical.not_not] at *); simp [bI, le_nl, *, inT, oneB]; done) | ((try simp only [le_nl, Classical.not_not] at *); simp_all [bI, le_nl, inT, oneB]; done)), rfl⟩
set_option maxHeartbeats 4000000 in
set_option maxRecDepth 100000 in
theorem S_X9_hasThing (X : En) (l : Launch) {h : Hp} {p t : Int32} : Ct X l mX9_hasThing [aI p, aI t] h (QI (PI0 (bI (inT t && btI p t)) h)) := by
  refine Ct.intro [some (aI p), some (aI t)] (by decide +kernel) rfl (Nat.le_of_ble_eq_true rfl) ?_
  refine A_iload_n 1 dX9_hasThing_0 rfl rfl rfl ?_
  refine A_if_lt 22 4 dX9_hasThing_1 (by decide) rfl (fun c1 => ?_) (fun c1 => ?_)
  · skip
    refine A_iconst 23 (0) dX9_hasThing_22 rfl (by decide) ?_
    refine A_zret dX9_hasThing_23 rfl (by first | exact Or.inl rfl | exact Or.inr rfl | exact bI01 _ | (subst_vars; exact bI01 _)) ⟨_, rfl, (by first | rfl | ((try simp only [le_nl, Classical.not_not] at *); simp [bI, le_nl, *, inT, btI]; done) | ((try simp only [le_nl, Classical.not_not] at *); simp_all [bI, le_nl, inT, btI]; done)), rfl⟩
  · skip
    refine A_iload_n 5 dX9_hasThing_4 rfl rfl rfl ?_
    refine A_bipush 7 (8) dX9_hasThing_5 rfl (by decide) ?_
    refine A_icmp_ge 22 10 dX9_hasThing_7 (by decide) rfl (fun c7 => ?_) (fun c7 => ?_)
    · skip
      refine A_iconst 23 (0) dX9_hasThing_22 rfl (by decide) ?_
      refine A_zret dX9_hasThing_23 rfl (by first | exact Or.inl rfl | exact Or.inr rfl | exact bI01 _ | (subst_vars; exact bI01 _)) ⟨_, rfl, (by first | rfl | ((try simp only [le_nl, Classical.not_not] at *); simp [bI, le_nl, *, inT, btI]; done) | ((try simp only [le_nl, Classical.not_not] at *); simp_all [bI, le_nl, inT, btI]; done)), rfl⟩
    · skip
      refine A_iload_n 11 dX9_hasThing_10 rfl rfl rfl ?_
      refine A_iconst 12 (1) dX9_hasThing_11 rfl (by decide) ?_
      refine A_iload_n 13 dX9_hasThing_12 rfl rfl rfl ?_
      refine A_ishl 14 dX9_hasThing_13 rfl ?_
      refine A_iand 15 dX9_hasThing_14 rfl ?_
      refine A_if_eq 22 18 dX9_hasThing_15 (by decide) rfl (fun c15 => ?_) (fun c15 => ?_)
      · skip
        refine A_iconst 23 (0) dX9_hasThing_22 rfl (by decide) ?_
        refine A_zret dX9_hasThing_23 rfl (by first | exact Or.inl rfl | exact Or.inr rfl | exact bI01 _ | (subst_vars; exact bI01 _)) ⟨_, rfl, (by first | rfl | ((try simp only [le_nl, Classical.not_not] at *); simp [bI, le_nl, *, inT, btI]; done) | ((try simp only [le_nl, Classical.not_not] at *); simp_all [bI, le_nl, inT, btI]; done)), rfl⟩
      · skip
        refine A_iconst 19 (1) dX9_hasThing_18 rfl (by decide) ?_
        refine A_goto 23 dX9_hasThing_19 (by decide) ?_
        refine A_zret dX9_hasThing_23 rfl (by first | exact Or.inl rfl | exact Or.inr rfl | exact bI01 _ | (subst_vars; exact bI01 _)) ⟨_, rfl, (by first | rfl | ((try simp only [le_nl, Classical.not_not] at *); simp [bI, le_nl, *, inT, btI]; done) | ((try simp only [le_nl, Classical.not_not] at *); simp_all [bI, le_nl, inT, btI]; done)), rfl⟩
set_option maxHeartbeats 4000000 in
set_option maxRecDepth 100000 in
theorem S_X9_isFewer (X : En) (l : Launch) {h : Hp} {v b : Int32} : Ct X l mX9_isFewer [aI v, aI b] h (QI (PI0 (bI (decide (b = -9 ∨ bitC v < bitC b))) h)) := by
  refine Ct.intro [some (aI v), some (aI b)] (by decide +kernel) rfl (Nat.le_of_ble_eq_true rfl) ?_
  refine A_iload_n 1 dX9_isFewer_0 rfl rfl rfl ?_
  refine A_bipush 3 (-9) dX9_isFewer_1 rfl (by decide) ?_
  refine A_icmp_eq 17 6 dX9_isFewer_3 (by decide) rfl (fun c3 => ?_) (fun c3 => ?_)
  · skip
    refine A_iconst 18 (1) dX9_isFewer_17 rfl (by decide) ?_
    refine A_goto 22 dX9_isFewer_18 (by decide) ?_
    refine A_zret dX9_isFewer_22 rfl (by first | exact Or.inl rfl | exact Or.inr rfl | exact bI01 _ | (subst_vars; exact bI01 _)) ⟨_, rfl, (by first | rfl | ((try simp only [le_nl, Classical.not_not] at *); simp [bI, le_nl, *]; done) | ((try simp only [le_nl, Classical.not_not] at *); simp_all [bI, le_nl]; done)), rfl⟩
  · skip
    refine A_iload_n 7 dX9_isFewer_6 rfl rfl rfl ?_
    refine A_callSI 10 (S_J6_bitCount_0f7a4 X l) dX9_isFewer_7 rfl kJ6_bitCount_0f7a4 lk_X9_190 rfl (by decide) (by rfl) (Nat.le_of_ble_eq_true rfl) (fun v_1 h_1 qh_1 => ?_)
    obtain ⟨rfl, rfl⟩ := qh_1
    refine A_iload_n 11 dX9_isFewer_10 rfl rfl rfl ?_
    refine A_callSI 14 (S_J6_bitCount_0f7a4 X l) dX9_isFewer_11 rfl kJ6_bitCount_0f7a4 lk_X9_190 rfl (by decide) (by rfl) (Nat.le_of_ble_eq_true rfl) (fun v_2 h_2 qh_2 => ?_)
    obtain ⟨rfl, rfl⟩ := qh_2
    refine A_icmp_ge 21 17 dX9_isFewer_14 (by decide) rfl (fun c14 => ?_) (fun c14 => ?_)
    · skip
      refine A_iconst 22 (0) dX9_isFewer_21 rfl (by decide) ?_
      refine A_zret dX9_isFewer_22 rfl (by first | exact Or.inl rfl | exact Or.inr rfl | exact bI01 _ | (subst_vars; exact bI01 _)) ⟨_, rfl, (by first | rfl | ((try simp only [le_nl, Classical.not_not] at *); simp [bI, le_nl, *]; done) | ((try simp only [le_nl, Classical.not_not] at *); simp_all [bI, le_nl]; done)), rfl⟩
    · skip
      refine A_iconst 18 (1) dX9_isFewer_17 rfl (by decide) ?_
      refine A_goto 22 dX9_isFewer_18 (by decide) ?_
      refine A_zret dX9_isFewer_22 rfl (by first | exact Or.inl rfl | exact Or.inr rfl | exact bI01 _ | (subst_vars; exact bI01 _)) ⟨_, rfl, (by first | rfl | ((try simp only [le_nl, Classical.not_not] at *); simp [bI, le_nl, *]; done) | ((try simp only [le_nl, Classical.not_not] at *); simp_all [bI, le_nl]; done)), rfl⟩
set_option maxHeartbeats 4000000 in
set_option maxRecDepth 100000 in
theorem S_X9_cell (X : En) (l : Launch) {h : Hp} {o k n j : Nat} {b : Blk} {f : Nat → Int32} {i : Int32} (ho : h o = some b) (ha : b.2.2[k]? = some (kI n f)) (hi : ix i n j) (hn : n < 2 ^ 31) : Ct X l mX9_cell [aR o (k + 1), aI i] h (QI (PI0 (f j) h)) := by
  refine Ct.intro [some (aR o (k + 1)), some (aI i)] (by decide +kernel) rfl (Nat.le_of_ble_eq_true rfl) ?_
  refine A_aload_n 1 dX9_cell_0 rfl rfl rfl ?_
  refine A_ifnull 20 4 dX9_cell_1 (by decide) rfl (fun c1 => ?_) (fun c1 => ?_)
  · skip
    exact absurd c1 (by simp)
  · skip
    refine A_iload_n 5 dX9_cell_4 rfl rfl rfl ?_
    refine A_if_lt 20 8 dX9_cell_5 (by decide) rfl (fun c5 => ?_) (fun c5 => ?_)
    · skip
      exact absurd c5 hi.2.2
    · skip
      refine A_iload_n 9 dX9_cell_8 rfl rfl rfl ?_
      refine A_aload_n 10 dX9_cell_9 rfl rfl rfl ?_
      refine A_arraylength 11 dX9_cell_10 rfl (by assumption) (by first | rfl | assumption) (by first | decide | exact Nat.le_of_ble_eq_true rfl) rfl ?_
      refine A_icmp_ge 20 14 dX9_cell_11 (by decide) rfl (fun c11 => ?_) (fun c11 => ?_)
      · skip
        exact absurd c11 (hi.lt hn)
      · skip
        refine A_aload_n 15 dX9_cell_14 rfl rfl rfl ?_
        refine A_iload_n 16 dX9_cell_15 rfl rfl rfl ?_
        refine A_iaload 17 dX9_cell_16 rfl (by assumption) (by first | rfl | assumption) (by first | assumption | exact ix_nI (by omega) (by decide) | exact ix_lit (by decide)) ?_
        refine A_goto 21 dX9_cell_17 (by decide) ?_
        refine A_iret dX9_cell_21 rfl ⟨_, rfl, (by first | rfl | ((try simp only [le_nl, Classical.not_not] at *); simp [bI, le_nl, *]; done) | ((try simp only [le_nl, Classical.not_not] at *); simp_all [bI, le_nl]; done)), rfl⟩
set_option maxHeartbeats 4000000 in
set_option maxRecDepth 100000 in
theorem S_X9_put (X : En) (l : Launch) {h : Hp} {o k n j : Nat} {b : Blk} {f : Nat → Int32} {i v : Int32} (ho : h o = some b) (ha : b.2.2[k]? = some (kI n f)) (hi : ix i n j) (hn : n < 2 ^ 31) : Ct X l mX9_put [aR o (k + 1), aI i, aI v] h (QV (PV1 h (o) ((b.1, b.2.1, b.2.2.set k (kI n (va_up f j v)))))) := by
  have hf : ∀ i, i ≠ o → h i = h i := fun _ _ => rfl
  refine Ct.intro [some (aR o (k + 1)), some (aI i), some (aI v)] (by decide +kernel) rfl (Nat.le_of_ble_eq_true rfl) ?_
  refine A_aload_n 1 dX9_put_0 rfl rfl rfl ?_
  refine A_ifnull 18 4 dX9_put_1 (by decide) rfl (fun c1 => ?_) (fun c1 => ?_)
  · skip
    exact absurd c1 (by simp)
  · skip
    refine A_iload_n 5 dX9_put_4 rfl rfl rfl ?_
    refine A_if_lt 18 8 dX9_put_5 (by decide) rfl (fun c5 => ?_) (fun c5 => ?_)
    · skip
      exact absurd c5 hi.2.2
    · skip
      refine A_iload_n 9 dX9_put_8 rfl rfl rfl ?_
      refine A_aload_n 10 dX9_put_9 rfl rfl rfl ?_
      refine A_arraylength 11 dX9_put_10 rfl (by assumption) (by first | rfl | assumption) (by first | decide | exact Nat.le_of_ble_eq_true rfl) rfl ?_
      refine A_icmp_ge 18 14 dX9_put_11 (by decide) rfl (fun c11 => ?_) (fun c11 => ?_)
      · skip
        exact absurd c11 (hi.lt hn)
      · skip
        refine A_aload_n 15 dX9_put_14 rfl rfl rfl ?_
        refine A_iload_n 16 dX9_put_15 rfl rfl rfl ?_
        refine A_iload_n 17 dX9_put_16 rfl rfl rfl ?_
        refine A_iastore 18 dX9_put_17 rfl (by assumption) (by first | rfl | assumption) (by first | assumption | exact ix_nI (by omega) (by decide) | exact ix_lit (by decide)) (fun h_1 nh_1 eh_1 => ?_)
        first | replace ho := (show h_1 (o) = some _ from nh_1) | replace ho := (eh_1 _ (by assumption)).trans ho
        replace hf : ∀ i, i ≠ o → h_1 i = h i := fun i g0 => (eh_1 i (by assumption)).trans (hf i g0)
        refine A_vret dX9_put_18 rfl ⟨rfl, (by assumption), hf⟩
