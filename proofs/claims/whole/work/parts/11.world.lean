/-! World and Course -/
def inN (i : Int32) (n : Nat) : Bool := decide (0 ≤ i ∧ i < nI n)
theorem inN_ex {i : Int32} {n : Nat} (h : inN i n = true) (hn : n < 2 ^ 31) : ∃ k, i = nI k ∧ k < n := by
  have := of_decide_eq_true h
  exact nI_exi (Int32.not_lt.mpr this.1) this.2 hn
theorem inN_nI {k n : Nat} (hn : n < 2 ^ 31) (hk : k < n) : inN (nI k) n = true := decide_eq_true ⟨nI_pos' (by omega), (nlt_iff (by omega) hn).mpr hk⟩
def addL (x : PW) (a b c d : Int32) : PW := (va_up (va_up (va_up (va_up x.1 (x.2.2.1 * 4 + 0) a) (x.2.2.1 * 4 + 1) b) (x.2.2.1 * 4 + 2) c) (x.2.2.1 * 4 + 3) d, x.2.1, x.2.2.1 + 1, x.2.2.2)
def addP (x : PW) (a : Int32) : PW := (x.1, va_up x.2.1 x.2.2.2.1 a, x.2.2.1, x.2.2.2.1 + 1, x.2.2.2.2)
def takeF (x : PW) (p : Nat) (t : Int32) : PW := (x.1, va_up x.2.1 p (x.2.1 p &&& (tbI t ^^^ (-1))), x.2.2.1, x.2.2.2.1, x.2.2.2.2.1 ||| tbI t, x.2.2.2.2.2)
def bringF (x : PW) (p : Nat) (t : Int32) : PW := (x.1, va_up x.2.1 p (x.2.1 p ||| tbI t), x.2.2.1, x.2.2.2.1, x.2.2.2.2.1 &&& (tbI t ^^^ (-1)), x.2.2.2.2.2)
def clearF (x : PW) : PW := (x.1, x.2.1, x.2.2.1, x.2.2.2.1, 0, x.2.2.2.2.2)
theorem firstN_s (x : PW) (hour has but : Int32) (n k : Nat) : firstN x hour has but (n + 1) k = if btI but (nI k) = false ∧ holdsF x k hour has = true then nI k else firstN x hour has but n (k + 1) := rfl
def hourN (f : FI) (i : Int32) : Nat → Nat → Int32
  | 0, _ => -9
  | n + 1, k => if f k = i then nI k else hourN f i n (k + 1)
def hourF (f : FI) (i : Int32) : Int32 := hourN f i 12 0
theorem hourN_s (f : FI) (i : Int32) (n k : Nat) : hourN f i (n + 1) k = if f k = i then nI k else hourN f i n (k + 1) := rfl
def sameN (f g : FI) : Nat → Bool
  | 0 => true
  | k + 1 => sameN f g k && decide (f k = g k)
theorem sameN_no {f g : FI} {k n : Nat} (hk : k < n) (h : ¬ f k = g k) : sameN f g n = false := by
  induction n with
  | zero => omega
  | succ n ih =>
    by_cases e : k = n
    · subst e; simp [sameN, h]
    · simp [sameN, ih (by omega)]
theorem up_eq {f D : FI} {i : Nat} {v : Int32} (h : ∀ j, j < i → f j = D j) (hv : v = D i) : ∀ j, j < i + 1 → va_up f i v j = D j := by
  intro j hj
  unfold va_up
  by_cases e : j = i
  · rw [if_pos e, e]; exact hv
  · rw [if_neg e]; exact h j (by omega)
def DN (x : PW) (s : Int32) : Int32 := bitC (dDone x 0 s)
set_option maxHeartbeats 4000000 in
set_option maxRecDepth 100000 in
theorem S_X8_isLaw (X : En) (l : Launch) {h : Hp} {w : Nat} {x : PW} (Ow : h w = some (wB w x)) {i : Int32} : Ct X l mX8_isLaw [aR w 0, aI i] h (QI (PI0 (bI (inN i x.2.2.1)) h)) := by
  refine Ct.intro [some (aR w 0), some (aI i)] (by decide +kernel) rfl (Nat.le_of_ble_eq_true rfl) ?_
  refine A_iload_n 1 dX8_isLaw_0 rfl rfl rfl ?_
  refine A_if_lt 16 4 dX8_isLaw_1 (by decide) rfl (fun c1 => ?_) (fun c1 => ?_)
  · skip
    try simp only [bI_0, bI_n0, Classical.not_not, Bool.not_eq_false, Bool.true_and, Bool.and_true, decide_eq_true_eq, decide_eq_false_iff_not, dayC_1, dayC_21, dayC_221, dayC_222] at c1
    have n1 := Int32.not_le.mpr c1
    refine A_iconst 17 (0) dX8_isLaw_16 rfl (by decide) ?_
    refine A_zret dX8_isLaw_17 rfl (by first | with_reducible exact bI01 _ | with_reducible exact Or.inl rfl | with_reducible exact Or.inr rfl | assumption) ⟨_, rfl, (by first | with_reducible rfl | (simp only [c1, n1, if_true, if_false, ite_true, ite_false, and_true, true_and, and_false, false_and, and_self, or_true, true_or, or_false, false_or, or_self, not_true_eq_false, not_false_eq_true, decide_true, decide_false, Bool.and_true, Bool.true_and, Bool.and_false, Bool.false_and, Bool.and_self, Bool.or_true, Bool.true_or, Bool.or_false, Bool.false_or, Bool.not_true, Bool.not_false, cond_true, cond_false, bI_t, bI_f, Bool.false_eq_true, Bool.true_eq_false, dayC_1, dayC_21, dayC_221, dayC_222, inN]; done) | (simp only [*]; done) | (simp [bI, *, inN]; done) | with_reducible_and_instances rfl), rfl⟩
  · skip
    try simp only [bI_0, bI_n0, Classical.not_not, Bool.not_eq_false, Bool.true_and, Bool.and_true, decide_eq_true_eq, decide_eq_false_iff_not, dayC_1, dayC_21, dayC_221, dayC_222] at c1
    have n1 := Int32.not_lt.mp c1
    refine A_iload_n 5 dX8_isLaw_4 rfl rfl rfl ?_
    refine A_aload_n 6 dX8_isLaw_5 rfl rfl rfl ?_
    refine A_getfield 9 dX8_isLaw_6 rfl f_X8_22 Ow rfl ?_
    refine A_icmp_ge 16 12 dX8_isLaw_9 (by decide) rfl (fun c9 => ?_) (fun c9 => ?_)
    · skip
      try simp only [bI_0, bI_n0, Classical.not_not, Bool.not_eq_false, Bool.true_and, Bool.and_true, decide_eq_true_eq, decide_eq_false_iff_not, dayC_1, dayC_21, dayC_221, dayC_222] at c9
      have n9 := c9
      replace c9 := Int32.not_lt.mpr c9
      refine A_iconst 17 (0) dX8_isLaw_16 rfl (by decide) ?_
      refine A_zret dX8_isLaw_17 rfl (by first | with_reducible exact bI01 _ | with_reducible exact Or.inl rfl | with_reducible exact Or.inr rfl | assumption) ⟨_, rfl, (by first | with_reducible rfl | (simp only [c1, n1, c9, n9, if_true, if_false, ite_true, ite_false, and_true, true_and, and_false, false_and, and_self, or_true, true_or, or_false, false_or, or_self, not_true_eq_false, not_false_eq_true, decide_true, decide_false, Bool.and_true, Bool.true_and, Bool.and_false, Bool.false_and, Bool.and_self, Bool.or_true, Bool.true_or, Bool.or_false, Bool.false_or, Bool.not_true, Bool.not_false, cond_true, cond_false, bI_t, bI_f, Bool.false_eq_true, Bool.true_eq_false, dayC_1, dayC_21, dayC_221, dayC_222, inN]; done) | (simp only [*]; done) | (simp [bI, *, inN]; done) | with_reducible_and_instances rfl), rfl⟩
    · skip
      try simp only [bI_0, bI_n0, Classical.not_not, Bool.not_eq_false, Bool.true_and, Bool.and_true, decide_eq_true_eq, decide_eq_false_iff_not, dayC_1, dayC_21, dayC_221, dayC_222] at c9
      have n9 := c9
      replace c9 := Int32.not_le.mp c9
      refine A_iconst 13 (1) dX8_isLaw_12 rfl (by decide) ?_
      refine A_goto 17 dX8_isLaw_13 (by decide) ?_
      refine A_zret dX8_isLaw_17 rfl (by first | with_reducible exact bI01 _ | with_reducible exact Or.inl rfl | with_reducible exact Or.inr rfl | assumption) ⟨_, rfl, (by first | with_reducible rfl | (simp only [c1, n1, c9, n9, if_true, if_false, ite_true, ite_false, and_true, true_and, and_false, false_and, and_self, or_true, true_or, or_false, false_or, or_self, not_true_eq_false, not_false_eq_true, decide_true, decide_false, Bool.and_true, Bool.true_and, Bool.and_false, Bool.false_and, Bool.and_self, Bool.or_true, Bool.true_or, Bool.or_false, Bool.false_or, Bool.not_true, Bool.not_false, cond_true, cond_false, bI_t, bI_f, Bool.false_eq_true, Bool.true_eq_false, dayC_1, dayC_21, dayC_221, dayC_222, inN]; done) | (simp only [*]; done) | (simp [bI, *, inN]; done) | with_reducible_and_instances rfl), rfl⟩
set_option maxHeartbeats 4000000 in
set_option maxRecDepth 100000 in
theorem S_X8_isPerson (X : En) (l : Launch) {h : Hp} {w : Nat} {x : PW} (Ow : h w = some (wB w x)) {i : Int32} : Ct X l mX8_isPerson [aR w 0, aI i] h (QI (PI0 (bI (inN i x.2.2.2.1)) h)) := by
  refine Ct.intro [some (aR w 0), some (aI i)] (by decide +kernel) rfl (Nat.le_of_ble_eq_true rfl) ?_
  refine A_iload_n 1 dX8_isPerson_0 rfl rfl rfl ?_
  refine A_if_lt 16 4 dX8_isPerson_1 (by decide) rfl (fun c1 => ?_) (fun c1 => ?_)
  · skip
    try simp only [bI_0, bI_n0, Classical.not_not, Bool.not_eq_false, Bool.true_and, Bool.and_true, decide_eq_true_eq, decide_eq_false_iff_not, dayC_1, dayC_21, dayC_221, dayC_222] at c1
    have n1 := Int32.not_le.mpr c1
    refine A_iconst 17 (0) dX8_isPerson_16 rfl (by decide) ?_
    refine A_zret dX8_isPerson_17 rfl (by first | with_reducible exact bI01 _ | with_reducible exact Or.inl rfl | with_reducible exact Or.inr rfl | assumption) ⟨_, rfl, (by first | with_reducible rfl | (simp only [c1, n1, if_true, if_false, ite_true, ite_false, and_true, true_and, and_false, false_and, and_self, or_true, true_or, or_false, false_or, or_self, not_true_eq_false, not_false_eq_true, decide_true, decide_false, Bool.and_true, Bool.true_and, Bool.and_false, Bool.false_and, Bool.and_self, Bool.or_true, Bool.true_or, Bool.or_false, Bool.false_or, Bool.not_true, Bool.not_false, cond_true, cond_false, bI_t, bI_f, Bool.false_eq_true, Bool.true_eq_false, dayC_1, dayC_21, dayC_221, dayC_222, inN]; done) | (simp only [*]; done) | (simp [bI, *, inN]; done) | with_reducible_and_instances rfl), rfl⟩
  · skip
    try simp only [bI_0, bI_n0, Classical.not_not, Bool.not_eq_false, Bool.true_and, Bool.and_true, decide_eq_true_eq, decide_eq_false_iff_not, dayC_1, dayC_21, dayC_221, dayC_222] at c1
    have n1 := Int32.not_lt.mp c1
    refine A_iload_n 5 dX8_isPerson_4 rfl rfl rfl ?_
    refine A_aload_n 6 dX8_isPerson_5 rfl rfl rfl ?_
    refine A_getfield 9 dX8_isPerson_6 rfl f_X8_26 Ow rfl ?_
    refine A_icmp_ge 16 12 dX8_isPerson_9 (by decide) rfl (fun c9 => ?_) (fun c9 => ?_)
    · skip
      try simp only [bI_0, bI_n0, Classical.not_not, Bool.not_eq_false, Bool.true_and, Bool.and_true, decide_eq_true_eq, decide_eq_false_iff_not, dayC_1, dayC_21, dayC_221, dayC_222] at c9
      have n9 := c9
      replace c9 := Int32.not_lt.mpr c9
      refine A_iconst 17 (0) dX8_isPerson_16 rfl (by decide) ?_
      refine A_zret dX8_isPerson_17 rfl (by first | with_reducible exact bI01 _ | with_reducible exact Or.inl rfl | with_reducible exact Or.inr rfl | assumption) ⟨_, rfl, (by first | with_reducible rfl | (simp only [c1, n1, c9, n9, if_true, if_false, ite_true, ite_false, and_true, true_and, and_false, false_and, and_self, or_true, true_or, or_false, false_or, or_self, not_true_eq_false, not_false_eq_true, decide_true, decide_false, Bool.and_true, Bool.true_and, Bool.and_false, Bool.false_and, Bool.and_self, Bool.or_true, Bool.true_or, Bool.or_false, Bool.false_or, Bool.not_true, Bool.not_false, cond_true, cond_false, bI_t, bI_f, Bool.false_eq_true, Bool.true_eq_false, dayC_1, dayC_21, dayC_221, dayC_222, inN]; done) | (simp only [*]; done) | (simp [bI, *, inN]; done) | with_reducible_and_instances rfl), rfl⟩
    · skip
      try simp only [bI_0, bI_n0, Classical.not_not, Bool.not_eq_false, Bool.true_and, Bool.and_true, decide_eq_true_eq, decide_eq_false_iff_not, dayC_1, dayC_21, dayC_221, dayC_222] at c9
      have n9 := c9
      replace c9 := Int32.not_le.mp c9
      refine A_iconst 13 (1) dX8_isPerson_12 rfl (by decide) ?_
      refine A_goto 17 dX8_isPerson_13 (by decide) ?_
      refine A_zret dX8_isPerson_17 rfl (by first | with_reducible exact bI01 _ | with_reducible exact Or.inl rfl | with_reducible exact Or.inr rfl | assumption) ⟨_, rfl, (by first | with_reducible rfl | (simp only [c1, n1, c9, n9, if_true, if_false, ite_true, ite_false, and_true, true_and, and_false, false_and, and_self, or_true, true_or, or_false, false_or, or_self, not_true_eq_false, not_false_eq_true, decide_true, decide_false, Bool.and_true, Bool.true_and, Bool.and_false, Bool.false_and, Bool.and_self, Bool.or_true, Bool.true_or, Bool.or_false, Bool.false_or, Bool.not_true, Bool.not_false, cond_true, cond_false, bI_t, bI_f, Bool.false_eq_true, Bool.true_eq_false, dayC_1, dayC_21, dayC_221, dayC_222, inN]; done) | (simp only [*]; done) | (simp [bI, *, inN]; done) | with_reducible_and_instances rfl), rfl⟩
set_option maxHeartbeats 4000000 in
set_option maxRecDepth 100000 in
theorem S_X8_hasLawRoom (X : En) (l : Launch) {h : Hp} {w : Nat} {x : PW} (Ow : h w = some (wB w x)) (hl : x.2.2.1 ≤ 10) : Ct X l mX8_hasLawRoom [aR w 0] h (QI (PI0 (bI (decide (x.2.2.1 < 10))) h)) := by
  refine Ct.intro [some (aR w 0)] (by decide +kernel) rfl (Nat.le_of_ble_eq_true rfl) ?_
  refine A_aload_n 1 dX8_hasLawRoom_0 rfl rfl rfl ?_
  refine A_getfield 4 dX8_hasLawRoom_1 rfl f_X8_22 Ow rfl ?_
  refine A_bipush 6 (10) dX8_hasLawRoom_4 rfl (by decide) ?_
  refine A_icmp_ge 13 9 dX8_hasLawRoom_6 (by decide) rfl (fun c6 => ?_) (fun c6 => ?_)
  · skip
    try simp only [bI_0, bI_n0, Classical.not_not, Bool.not_eq_false, Bool.true_and, Bool.and_true, decide_eq_true_eq, decide_eq_false_iff_not, dayC_1, dayC_21, dayC_221, dayC_222] at c6
    have n6 := c6
    replace c6 := Int32.not_lt.mpr c6
    refine A_iconst 14 (0) dX8_hasLawRoom_13 rfl (by decide) ?_
    refine A_zret dX8_hasLawRoom_14 rfl (by first | with_reducible exact bI01 _ | with_reducible exact Or.inl rfl | with_reducible exact Or.inr rfl | assumption) ⟨_, rfl, (by have q := @nlt_iff x.2.2.1 10 (by omega) (by decide); rw [show nI 10 = 10 from rfl] at q; simp [bI, ← q, *]), rfl⟩
  · skip
    try simp only [bI_0, bI_n0, Classical.not_not, Bool.not_eq_false, Bool.true_and, Bool.and_true, decide_eq_true_eq, decide_eq_false_iff_not, dayC_1, dayC_21, dayC_221, dayC_222] at c6
    have n6 := c6
    replace c6 := Int32.not_le.mp c6
    refine A_iconst 10 (1) dX8_hasLawRoom_9 rfl (by decide) ?_
    refine A_goto 14 dX8_hasLawRoom_10 (by decide) ?_
    refine A_zret dX8_hasLawRoom_14 rfl (by first | with_reducible exact bI01 _ | with_reducible exact Or.inl rfl | with_reducible exact Or.inr rfl | assumption) ⟨_, rfl, (by have q := @nlt_iff x.2.2.1 10 (by omega) (by decide); rw [show nI 10 = 10 from rfl] at q; simp [bI, ← q, *]), rfl⟩
set_option maxHeartbeats 4000000 in
set_option maxRecDepth 100000 in
theorem S_X8_hasPersonRoom (X : En) (l : Launch) {h : Hp} {w : Nat} {x : PW} (Ow : h w = some (wB w x)) (hl : x.2.2.2.1 ≤ 6) : Ct X l mX8_hasPersonRoom [aR w 0] h (QI (PI0 (bI (decide (x.2.2.2.1 < 6))) h)) := by
  refine Ct.intro [some (aR w 0)] (by decide +kernel) rfl (Nat.le_of_ble_eq_true rfl) ?_
  refine A_aload_n 1 dX8_hasPersonRoom_0 rfl rfl rfl ?_
  refine A_getfield 4 dX8_hasPersonRoom_1 rfl f_X8_26 Ow rfl ?_
  refine A_bipush 6 (6) dX8_hasPersonRoom_4 rfl (by decide) ?_
  refine A_icmp_ge 13 9 dX8_hasPersonRoom_6 (by decide) rfl (fun c6 => ?_) (fun c6 => ?_)
  · skip
    try simp only [bI_0, bI_n0, Classical.not_not, Bool.not_eq_false, Bool.true_and, Bool.and_true, decide_eq_true_eq, decide_eq_false_iff_not, dayC_1, dayC_21, dayC_221, dayC_222] at c6
    have n6 := c6
    replace c6 := Int32.not_lt.mpr c6
    refine A_iconst 14 (0) dX8_hasPersonRoom_13 rfl (by decide) ?_
    refine A_zret dX8_hasPersonRoom_14 rfl (by first | with_reducible exact bI01 _ | with_reducible exact Or.inl rfl | with_reducible exact Or.inr rfl | assumption) ⟨_, rfl, (by have q := @nlt_iff x.2.2.2.1 6 (by omega) (by decide); rw [show nI 6 = 6 from rfl] at q; simp [bI, ← q, *]), rfl⟩
  · skip
    try simp only [bI_0, bI_n0, Classical.not_not, Bool.not_eq_false, Bool.true_and, Bool.and_true, decide_eq_true_eq, decide_eq_false_iff_not, dayC_1, dayC_21, dayC_221, dayC_222] at c6
    have n6 := c6
    replace c6 := Int32.not_le.mp c6
    refine A_iconst 10 (1) dX8_hasPersonRoom_9 rfl (by decide) ?_
    refine A_goto 14 dX8_hasPersonRoom_10 (by decide) ?_
    refine A_zret dX8_hasPersonRoom_14 rfl (by first | with_reducible exact bI01 _ | with_reducible exact Or.inl rfl | with_reducible exact Or.inr rfl | assumption) ⟨_, rfl, (by have q := @nlt_iff x.2.2.2.1 6 (by omega) (by decide); rw [show nI 6 = 6 from rfl] at q; simp [bI, ← q, *]), rfl⟩
set_option maxHeartbeats 4000000 in
set_option maxRecDepth 100000 in
theorem S_X8_lawCount (X : En) (l : Launch) {h : Hp} {w : Nat} {x : PW} (Ow : h w = some (wB w x)) : Ct X l mX8_lawCount [aR w 0] h (QI (PI0 (nI x.2.2.1) h)) := by
  refine Ct.intro [some (aR w 0)] (by decide +kernel) rfl (Nat.le_of_ble_eq_true rfl) ?_
  refine A_aload_n 1 dX8_lawCount_0 rfl rfl rfl ?_
  refine A_getfield 4 dX8_lawCount_1 rfl f_X8_22 Ow rfl ?_
  refine A_iret dX8_lawCount_4 rfl ⟨_, rfl, (by first | with_reducible rfl | (simp only [if_true, if_false, ite_true, ite_false, and_true, true_and, and_false, false_and, and_self, or_true, true_or, or_false, false_or, or_self, not_true_eq_false, not_false_eq_true, decide_true, decide_false, Bool.and_true, Bool.true_and, Bool.and_false, Bool.false_and, Bool.and_self, Bool.or_true, Bool.true_or, Bool.or_false, Bool.false_or, Bool.not_true, Bool.not_false, cond_true, cond_false, bI_t, bI_f, Bool.false_eq_true, Bool.true_eq_false, dayC_1, dayC_21, dayC_221, dayC_222]; done) | (simp only [*]; done) | (simp [bI, *]; done) | with_reducible_and_instances rfl), rfl⟩
set_option maxHeartbeats 4000000 in
set_option maxRecDepth 100000 in
theorem S_X8_allLaws (X : En) (l : Launch) {h : Hp} {w : Nat} {x : PW} (Ow : h w = some (wB w x)) : Ct X l mX8_allLaws [aR w 0] h (QI (PI0 ((1 <<< (nI x.2.2.1 &&& 31)) - 1) h)) := by
  refine Ct.intro [some (aR w 0)] (by decide +kernel) rfl (Nat.le_of_ble_eq_true rfl) ?_
  refine A_iconst 1 (1) dX8_allLaws_0 rfl (by decide) ?_
  refine A_aload_n 2 dX8_allLaws_1 rfl rfl rfl ?_
  refine A_getfield 5 dX8_allLaws_2 rfl f_X8_22 Ow rfl ?_
  refine A_ishl 6 dX8_allLaws_5 rfl ?_
  refine A_iconst 7 (1) dX8_allLaws_6 rfl (by decide) ?_
  refine A_isub 8 dX8_allLaws_7 rfl ?_
  refine A_iret dX8_allLaws_8 rfl ⟨_, rfl, (by first | with_reducible rfl | (simp only [if_true, if_false, ite_true, ite_false, and_true, true_and, and_false, false_and, and_self, or_true, true_or, or_false, false_or, or_self, not_true_eq_false, not_false_eq_true, decide_true, decide_false, Bool.and_true, Bool.true_and, Bool.and_false, Bool.false_and, Bool.and_self, Bool.or_true, Bool.true_or, Bool.or_false, Bool.false_or, Bool.not_true, Bool.not_false, cond_true, cond_false, bI_t, bI_f, Bool.false_eq_true, Bool.true_eq_false, dayC_1, dayC_21, dayC_221, dayC_222]; done) | (simp only [*]; done) | (simp [bI, *]; done) | with_reducible_and_instances rfl), rfl⟩
set_option maxHeartbeats 4000000 in
set_option maxRecDepth 100000 in
theorem S_X8_peopleCount (X : En) (l : Launch) {h : Hp} {w : Nat} {x : PW} (Ow : h w = some (wB w x)) : Ct X l mX8_peopleCount [aR w 0] h (QI (PI0 (nI x.2.2.2.1) h)) := by
  refine Ct.intro [some (aR w 0)] (by decide +kernel) rfl (Nat.le_of_ble_eq_true rfl) ?_
  refine A_aload_n 1 dX8_peopleCount_0 rfl rfl rfl ?_
  refine A_getfield 4 dX8_peopleCount_1 rfl f_X8_26 Ow rfl ?_
  refine A_iret dX8_peopleCount_4 rfl ⟨_, rfl, (by first | with_reducible rfl | (simp only [if_true, if_false, ite_true, ite_false, and_true, true_and, and_false, false_and, and_self, or_true, true_or, or_false, false_or, or_self, not_true_eq_false, not_false_eq_true, decide_true, decide_false, Bool.and_true, Bool.true_and, Bool.and_false, Bool.false_and, Bool.and_self, Bool.or_true, Bool.true_or, Bool.or_false, Bool.false_or, Bool.not_true, Bool.not_false, cond_true, cond_false, bI_t, bI_f, Bool.false_eq_true, Bool.true_eq_false, dayC_1, dayC_21, dayC_221, dayC_222]; done) | (simp only [*]; done) | (simp [bI, *]; done) | with_reducible_and_instances rfl), rfl⟩
set_option maxHeartbeats 4000000 in
set_option maxRecDepth 100000 in
theorem S_X8_dayNumber (X : En) (l : Launch) {h : Hp} {w : Nat} {x : PW} (Ow : h w = some (wB w x)) : Ct X l mX8_dayNumber [aR w 0] h (QI (PI0 (x.2.2.2.2.2) h)) := by
  refine Ct.intro [some (aR w 0)] (by decide +kernel) rfl (Nat.le_of_ble_eq_true rfl) ?_
  refine A_aload_n 1 dX8_dayNumber_0 rfl rfl rfl ?_
  refine A_getfield 4 dX8_dayNumber_1 rfl f_X8_32 Ow rfl ?_
  refine A_iret dX8_dayNumber_4 rfl ⟨_, rfl, (by first | with_reducible rfl | (simp only [if_true, if_false, ite_true, ite_false, and_true, true_and, and_false, false_and, and_self, or_true, true_or, or_false, false_or, or_self, not_true_eq_false, not_false_eq_true, decide_true, decide_false, Bool.and_true, Bool.true_and, Bool.and_false, Bool.false_and, Bool.and_self, Bool.or_true, Bool.true_or, Bool.or_false, Bool.false_or, Bool.not_true, Bool.not_false, cond_true, cond_false, bI_t, bI_f, Bool.false_eq_true, Bool.true_eq_false, dayC_1, dayC_21, dayC_221, dayC_222]; done) | (simp only [*]; done) | (simp [bI, *]; done) | with_reducible_and_instances rfl), rfl⟩
set_option maxHeartbeats 4000000 in
set_option maxRecDepth 100000 in
theorem S_X8_onTheTray (X : En) (l : Launch) {h : Hp} {w : Nat} {x : PW} (Ow : h w = some (wB w x)) : Ct X l mX8_onTheTray [aR w 0] h (QI (PI0 (x.2.2.2.2.1) h)) := by
  refine Ct.intro [some (aR w 0)] (by decide +kernel) rfl (Nat.le_of_ble_eq_true rfl) ?_
  refine A_aload_n 1 dX8_onTheTray_0 rfl rfl rfl ?_
  refine A_getfield 4 dX8_onTheTray_1 rfl f_X8_29 Ow rfl ?_
  refine A_iret dX8_onTheTray_4 rfl ⟨_, rfl, (by first | with_reducible rfl | (simp only [if_true, if_false, ite_true, ite_false, and_true, true_and, and_false, false_and, and_self, or_true, true_or, or_false, false_or, or_self, not_true_eq_false, not_false_eq_true, decide_true, decide_false, Bool.and_true, Bool.true_and, Bool.and_false, Bool.false_and, Bool.and_self, Bool.or_true, Bool.true_or, Bool.or_false, Bool.false_or, Bool.not_true, Bool.not_false, cond_true, cond_false, bI_t, bI_f, Bool.false_eq_true, Bool.true_eq_false, dayC_1, dayC_21, dayC_221, dayC_222]; done) | (simp only [*]; done) | (simp [bI, *]; done) | with_reducible_and_instances rfl), rfl⟩
set_option maxHeartbeats 4000000 in
set_option maxRecDepth 100000 in
theorem S_X8_lawPart (X : En) (l : Launch) {h : Hp} {w : Nat} {x : PW} (Ow : h w = some (wB w x)) {k j : Nat} (hk : k < 10) (hj : j < 4) {p : Int32} (hp : p = nI j) : Ct X l mX8_lawPart [aR w 0, aI (nI k), aI p] h (QI (PI0 (x.1 (k * 4 + j)) h)) := by
  refine Ct.intro [some (aR w 0), some (aI (nI k)), some (aI p), none] (by decide +kernel) rfl (Nat.le_of_ble_eq_true rfl) ?_
  refine A_iload_n 1 dX8_lawPart_0 rfl rfl rfl ?_
  refine A_iconst 2 (4) dX8_lawPart_1 rfl (by decide) ?_
  refine A_imul 3 dX8_lawPart_2 rfl ?_
  refine A_iload_n 4 dX8_lawPart_3 rfl rfl rfl ?_
  refine A_iadd 5 dX8_lawPart_4 rfl ?_
  rw [hp, n4]
  refine A_istore_n 6 dX8_lawPart_5 rfl rfl (by decide) (by first | exact (ast_s (ast_s (ast_1 rfl))) | exact (ast_s (ast_s ast_k))) ?_
  refine A_iload_n 7 dX8_lawPart_6 rfl rfl rfl ?_
  refine A_if_lt 28 10 dX8_lawPart_7 (by decide) rfl (fun c7 => ?_) (fun c7 => ?_)
  · skip
    exact absurd c7 (nI_pos (by omega))
  · skip
    try simp only [bI_0, bI_n0, Classical.not_not, Bool.not_eq_false, Bool.true_and, Bool.and_true, decide_eq_true_eq, decide_eq_false_iff_not, dayC_1, dayC_21, dayC_221, dayC_222] at c7
    have n7 := Int32.not_lt.mp c7
    refine A_iload_n 11 dX8_lawPart_10 rfl rfl rfl ?_
    refine A_aload_n 12 dX8_lawPart_11 rfl rfl rfl ?_
    refine A_getfield 15 dX8_lawPart_12 rfl f_X8_9 Ow rfl ?_
    refine A_arraylength 16 dX8_lawPart_15 rfl Ow rfl (Nat.le_of_ble_eq_true rfl) rfl ?_
    refine A_icmp_ge 28 19 dX8_lawPart_16 (by decide) rfl (fun c16 => ?_) (fun c16 => ?_)
    · skip
      exact absurd ((nle_iff (a := 40) (by decide) (by omega)).mp c16) (by omega)
    · skip
      try simp only [bI_0, bI_n0, Classical.not_not, Bool.not_eq_false, Bool.true_and, Bool.and_true, decide_eq_true_eq, decide_eq_false_iff_not, dayC_1, dayC_21, dayC_221, dayC_222] at c16
      have n16 := c16
      replace c16 := Int32.not_le.mp c16
      refine A_aload_n 20 dX8_lawPart_19 rfl rfl rfl ?_
      refine A_getfield 23 dX8_lawPart_20 rfl f_X8_9 Ow rfl ?_
      refine A_iload_n 24 dX8_lawPart_23 rfl rfl rfl ?_
      refine A_iaload 25 dX8_lawPart_24 rfl Ow rfl (by first | assumption | exact ix_nI (by omega) (by decide) | exact ix_lit _ rfl (by omega) (by decide) | exact ix_lit _ rfl (by decide) (by decide)) ?_
      refine A_goto 29 dX8_lawPart_25 (by decide) ?_
      refine A_iret dX8_lawPart_29 rfl ⟨_, rfl, (by first | with_reducible rfl | (simp only [c7, n7, c16, n16, if_true, if_false, ite_true, ite_false, and_true, true_and, and_false, false_and, and_self, or_true, true_or, or_false, false_or, or_self, not_true_eq_false, not_false_eq_true, decide_true, decide_false, Bool.and_true, Bool.true_and, Bool.and_false, Bool.false_and, Bool.and_self, Bool.or_true, Bool.true_or, Bool.or_false, Bool.false_or, Bool.not_true, Bool.not_false, cond_true, cond_false, bI_t, bI_f, Bool.false_eq_true, Bool.true_eq_false, dayC_1, dayC_21, dayC_221, dayC_222]; done) | (simp only [*]; done) | (simp [bI, *]; done) | with_reducible_and_instances rfl), rfl⟩
set_option maxHeartbeats 4000000 in
set_option maxRecDepth 100000 in
theorem S_X8_setLawPart (X : En) (l : Launch) {h : Hp} {w : Nat} {x : PW} (Ow : h w = some (wB w x)) {k j : Nat} (hk : k < 10) (hj : j < 4) {p : Int32} (hp : p = nI j) {v : Int32} : Ct X l mX8_setLawPart [aR w 0, aI (nI k), aI p, aI v] h (QV (PV1 h (w) (wB w (va_up x.1 (k * 4 + j) v, x.2)))) := by
  have hf : ∀ i, i ≠ w → h i = h i := fun _ _ => rfl
  refine Ct.intro [some (aR w 0), some (aI (nI k)), some (aI p), some (aI v)] (by decide +kernel) rfl (Nat.le_of_ble_eq_true rfl) ?_
  refine A_aload_n 1 dX8_setLawPart_0 rfl rfl rfl ?_
  refine A_getfield 4 dX8_setLawPart_1 rfl f_X8_9 Ow rfl ?_
  refine A_iload_n 5 dX8_setLawPart_4 rfl rfl rfl ?_
  refine A_iconst 6 (4) dX8_setLawPart_5 rfl (by decide) ?_
  refine A_imul 7 dX8_setLawPart_6 rfl ?_
  refine A_iload_n 8 dX8_setLawPart_7 rfl rfl rfl ?_
  refine A_iadd 9 dX8_setLawPart_8 rfl ?_
  rw [hp, n4]
  refine A_iload_n 10 dX8_setLawPart_9 rfl rfl rfl ?_
  refine A_callNV 13 (S_X9_put_X8_0 X l (by first | assumption | decide | omega | exact Ne.symm (by assumption)) (by first | assumption | exact ix_nI (by omega) (by decide) | exact ix_lit _ rfl (by omega) (by decide) | exact ix_lit _ rfl (by decide) (by decide))) dX8_setLawPart_10 rfl kX9_put nk_X8_35 rfl (by decide) rfl (Nat.le_of_ble_eq_true rfl) (fun h_1 qh_1 => ?_)
  obtain ⟨n0h_1, eh_1⟩ := qh_1
  replace Ow := n0h_1
  replace hf : ∀ i, i ≠ w → h_1 i = h i := fun i g0 => (eh_1 i g0).trans (hf i g0)
  refine A_vret dX8_setLawPart_13 rfl ⟨rfl, Ow, hf⟩
set_option maxHeartbeats 4000000 in
set_option maxRecDepth 100000 in
theorem S_X8_pocketsOf (X : En) (l : Launch) {h : Hp} {w : Nat} {x : PW} (Ow : h w = some (wB w x)) {p : Nat} (hp : p < 6) : Ct X l mX8_pocketsOf [aR w 0, aI (nI p)] h (QI (PI0 (x.2.1 p) h)) := by
  refine Ct.intro [some (aR w 0), some (aI (nI p))] (by decide +kernel) rfl (Nat.le_of_ble_eq_true rfl) ?_
  refine A_aload_n 1 dX8_pocketsOf_0 rfl rfl rfl ?_
  refine A_getfield 4 dX8_pocketsOf_1 rfl f_X8_15 Ow rfl ?_
  refine A_iload_n 5 dX8_pocketsOf_4 rfl rfl rfl ?_
  refine A_callNI 8 (S_X9_cell_X8_1 X l (by first | assumption | decide | omega | exact Ne.symm (by assumption)) (by first | assumption | exact ix_nI (by omega) (by decide) | exact ix_lit _ rfl (by omega) (by decide) | exact ix_lit _ rfl (by decide) (by decide))) dX8_pocketsOf_5 rfl kX9_cell nk_X8_39 rfl (by decide) rfl (Nat.le_of_ble_eq_true rfl) (fun v_1 h_1 qh_1 => ?_)
  obtain ⟨rfl, rfl⟩ := qh_1
  refine A_iret dX8_pocketsOf_8 rfl ⟨_, rfl, (by first | with_reducible rfl | (simp only [if_true, if_false, ite_true, ite_false, and_true, true_and, and_false, false_and, and_self, or_true, true_or, or_false, false_or, or_self, not_true_eq_false, not_false_eq_true, decide_true, decide_false, Bool.and_true, Bool.true_and, Bool.and_false, Bool.false_and, Bool.and_self, Bool.or_true, Bool.true_or, Bool.or_false, Bool.false_or, Bool.not_true, Bool.not_false, cond_true, cond_false, bI_t, bI_f, Bool.false_eq_true, Bool.true_eq_false, dayC_1, dayC_21, dayC_221, dayC_222]; done) | (simp only [*]; done) | (simp [bI, *]; done) | with_reducible_and_instances rfl), rfl⟩
set_option maxHeartbeats 4000000 in
set_option maxRecDepth 100000 in
theorem S_X8_addLaw (X : En) (l : Launch) {h : Hp} {w : Nat} {x : PW} (Ow : h w = some (wB w x)) {a b c d : Int32} (hn : x.2.2.1 < 10) : Ct X l mX8_addLaw [aR w 0, aI a, aI b, aI c, aI d] h (QI (PI1 (nI x.2.2.1) h (w) (wB w (addL x a b c d)))) := by
  have hf : ∀ i, i ≠ w → h i = h i := fun _ _ => rfl
  refine Ct.intro [some (aR w 0), some (aI a), some (aI b), some (aI c), some (aI d), none] (by decide +kernel) rfl (Nat.le_of_ble_eq_true rfl) ?_
  refine A_aload_n 1 dX8_addLaw_0 rfl rfl rfl ?_
  refine A_dup 2 dX8_addLaw_1 rfl rfl ?_
  refine A_getfield 5 dX8_addLaw_2 rfl f_X8_22 Ow rfl ?_
  refine A_dup_x1 6 dX8_addLaw_5 rfl rfl rfl ?_
  refine A_iconst 7 (1) dX8_addLaw_6 rfl (by decide) ?_
  refine A_iadd 8 dX8_addLaw_7 rfl ?_
  rw [n41]
  refine P_X8_2 11 dX8_addLaw_8 rfl fw_X8_22 Ow (fun h_1 nh_1 eh_1 => ?_)
  replace Ow := nh_1
  replace hf : ∀ i, i ≠ w → h_1 i = h i := fun i g0 => (eh_1 i g0).trans (hf i g0)
  refine A_istore 13 dX8_addLaw_11 rfl (by decide) (by first | exact (ast_s (ast_s (ast_s (ast_s (ast_1 rfl))))) | exact (ast_s (ast_s (ast_s (ast_s ast_k))))) ?_
  refine A_aload_n 14 dX8_addLaw_13 rfl rfl rfl ?_
  refine A_iload 16 dX8_addLaw_14 rfl rfl ?_
  refine A_iconst 17 (0) dX8_addLaw_16 rfl (by decide) ?_
  refine A_iload_n 18 dX8_addLaw_17 rfl rfl rfl ?_
  refine A_callVV 21 (S_X8_setLawPart X l Ow hn (p := 0) (j := 0) (by decide) (by decide)) dX8_addLaw_18 rfl kX8_setLawPart lk_X8_52 rfl Ow (by decide) rfl (Nat.le_of_ble_eq_true rfl) (fun h_2 qh_2 => ?_)
  obtain ⟨n0h_2, eh_2⟩ := qh_2
  replace Ow := n0h_2
  replace hf : ∀ i, i ≠ w → h_2 i = h i := fun i g0 => (eh_2 i g0).trans (hf i g0)
  refine A_aload_n 22 dX8_addLaw_21 rfl rfl rfl ?_
  refine A_iload 24 dX8_addLaw_22 rfl rfl ?_
  refine A_iconst 25 (1) dX8_addLaw_24 rfl (by decide) ?_
  refine A_iload_n 26 dX8_addLaw_25 rfl rfl rfl ?_
  refine A_callVV 29 (S_X8_setLawPart X l Ow hn (p := 1) (j := 1) (by decide) (by decide)) dX8_addLaw_26 rfl kX8_setLawPart lk_X8_52 rfl Ow (by decide) rfl (Nat.le_of_ble_eq_true rfl) (fun h_3 qh_3 => ?_)
  obtain ⟨n0h_3, eh_3⟩ := qh_3
  replace Ow := n0h_3
  replace hf : ∀ i, i ≠ w → h_3 i = h i := fun i g0 => (eh_3 i g0).trans (hf i g0)
  refine A_aload_n 30 dX8_addLaw_29 rfl rfl rfl ?_
  refine A_iload 32 dX8_addLaw_30 rfl rfl ?_
  refine A_iconst 33 (2) dX8_addLaw_32 rfl (by decide) ?_
  refine A_iload_n 34 dX8_addLaw_33 rfl rfl rfl ?_
  refine A_callVV 37 (S_X8_setLawPart X l Ow hn (p := 2) (j := 2) (by decide) (by decide)) dX8_addLaw_34 rfl kX8_setLawPart lk_X8_52 rfl Ow (by decide) rfl (Nat.le_of_ble_eq_true rfl) (fun h_4 qh_4 => ?_)
  obtain ⟨n0h_4, eh_4⟩ := qh_4
  replace Ow := n0h_4
  replace hf : ∀ i, i ≠ w → h_4 i = h i := fun i g0 => (eh_4 i g0).trans (hf i g0)
  refine A_aload_n 38 dX8_addLaw_37 rfl rfl rfl ?_
  refine A_iload 40 dX8_addLaw_38 rfl rfl ?_
  refine A_iconst 41 (3) dX8_addLaw_40 rfl (by decide) ?_
  refine A_iload 43 dX8_addLaw_41 rfl rfl ?_
  refine A_callVV 46 (S_X8_setLawPart X l Ow hn (p := 3) (j := 3) (by decide) (by decide)) dX8_addLaw_43 rfl kX8_setLawPart lk_X8_52 rfl Ow (by decide) rfl (Nat.le_of_ble_eq_true rfl) (fun h_5 qh_5 => ?_)
  obtain ⟨n0h_5, eh_5⟩ := qh_5
  replace Ow := n0h_5
  replace hf : ∀ i, i ≠ w → h_5 i = h i := fun i g0 => (eh_5 i g0).trans (hf i g0)
  refine A_iload 48 dX8_addLaw_46 rfl rfl ?_
  refine A_iret dX8_addLaw_48 rfl ⟨_, rfl, (by first | with_reducible rfl | (simp only [if_true, if_false, ite_true, ite_false, and_true, true_and, and_false, false_and, and_self, or_true, true_or, or_false, false_or, or_self, not_true_eq_false, not_false_eq_true, decide_true, decide_false, Bool.and_true, Bool.true_and, Bool.and_false, Bool.false_and, Bool.and_self, Bool.or_true, Bool.true_or, Bool.or_false, Bool.false_or, Bool.not_true, Bool.not_false, cond_true, cond_false, bI_t, bI_f, Bool.false_eq_true, Bool.true_eq_false, dayC_1, dayC_21, dayC_221, dayC_222]; done) | (simp only [*]; done) | (simp [bI, *]; done) | with_reducible_and_instances rfl), Ow, hf⟩
set_option maxHeartbeats 4000000 in
set_option maxRecDepth 100000 in
theorem S_X8_addPerson (X : En) (l : Launch) {h : Hp} {w : Nat} {x : PW} (Ow : h w = some (wB w x)) {a : Int32} (hn : x.2.2.2.1 < 6) : Ct X l mX8_addPerson [aR w 0, aI a] h (QI (PI1 (nI x.2.2.2.1) h (w) (wB w (addP x a)))) := by
  have hf : ∀ i, i ≠ w → h i = h i := fun _ _ => rfl
  refine Ct.intro [some (aR w 0), some (aI a), none] (by decide +kernel) rfl (Nat.le_of_ble_eq_true rfl) ?_
  refine A_aload_n 1 dX8_addPerson_0 rfl rfl rfl ?_
  refine A_dup 2 dX8_addPerson_1 rfl rfl ?_
  refine A_getfield 5 dX8_addPerson_2 rfl f_X8_26 Ow rfl ?_
  refine A_dup_x1 6 dX8_addPerson_5 rfl rfl rfl ?_
  refine A_iconst 7 (1) dX8_addPerson_6 rfl (by decide) ?_
  refine A_iadd 8 dX8_addPerson_7 rfl ?_
  rw [n41]
  refine P_X8_3 11 dX8_addPerson_8 rfl fw_X8_26 Ow (fun h_1 nh_1 eh_1 => ?_)
  replace Ow := nh_1
  replace hf : ∀ i, i ≠ w → h_1 i = h i := fun i g0 => (eh_1 i g0).trans (hf i g0)
  refine A_istore_n 12 dX8_addPerson_11 rfl rfl (by decide) (by first | exact (ast_s (ast_1 rfl)) | exact (ast_s ast_k)) ?_
  refine A_aload_n 13 dX8_addPerson_12 rfl rfl rfl ?_
  refine A_getfield 16 dX8_addPerson_13 rfl f_X8_15 Ow rfl ?_
  refine A_iload_n 17 dX8_addPerson_16 rfl rfl rfl ?_
  refine A_iload_n 18 dX8_addPerson_17 rfl rfl rfl ?_
  refine A_callNV 21 (S_X9_put_X8_1 X l (by first | assumption | decide | omega | exact Ne.symm (by assumption)) (by first | assumption | exact ix_nI (by omega) (by decide) | exact ix_lit _ rfl (by omega) (by decide) | exact ix_lit _ rfl (by decide) (by decide))) dX8_addPerson_18 rfl kX9_put nk_X8_35 rfl (by decide) rfl (Nat.le_of_ble_eq_true rfl) (fun h_2 qh_2 => ?_)
  obtain ⟨n0h_2, eh_2⟩ := qh_2
  replace Ow := n0h_2
  replace hf : ∀ i, i ≠ w → h_2 i = h i := fun i g0 => (eh_2 i g0).trans (hf i g0)
  refine A_iload_n 22 dX8_addPerson_21 rfl rfl rfl ?_
  refine A_iret dX8_addPerson_22 rfl ⟨_, rfl, (by first | with_reducible rfl | (simp only [if_true, if_false, ite_true, ite_false, and_true, true_and, and_false, false_and, and_self, or_true, true_or, or_false, false_or, or_self, not_true_eq_false, not_false_eq_true, decide_true, decide_false, Bool.and_true, Bool.true_and, Bool.and_false, Bool.false_and, Bool.and_self, Bool.or_true, Bool.true_or, Bool.or_false, Bool.false_or, Bool.not_true, Bool.not_false, cond_true, cond_false, bI_t, bI_f, Bool.false_eq_true, Bool.true_eq_false, dayC_1, dayC_21, dayC_221, dayC_222]; done) | (simp only [*]; done) | (simp [bI, *]; done) | with_reducible_and_instances rfl), Ow, hf⟩
set_option maxHeartbeats 4000000 in
set_option maxRecDepth 100000 in
theorem S_X8_takeOut (X : En) (l : Launch) {h : Hp} {w : Nat} {x : PW} (Ow : h w = some (wB w x)) {p : Nat} {t : Int32} (hp : p < 6) : Ct X l mX8_takeOut [aR w 0, aI (nI p), aI t] h (QI (PI1 (x.2.1 p &&& (tbI t ^^^ (-1))) h (w) (wB w (takeF x p t)))) := by
  have hf : ∀ i, i ≠ w → h i = h i := fun _ _ => rfl
  refine Ct.intro [some (aR w 0), some (aI (nI p)), some (aI t), none] (by decide +kernel) rfl (Nat.le_of_ble_eq_true rfl) ?_
  refine A_aload_n 1 dX8_takeOut_0 rfl rfl rfl ?_
  refine A_iload_n 2 dX8_takeOut_1 rfl rfl rfl ?_
  refine A_callVI 5 (S_X8_pocketsOf X l (by first | assumption | decide | omega | exact Ne.symm (by assumption)) (by first | assumption | decide | omega | exact Ne.symm (by assumption))) dX8_takeOut_2 rfl kX8_pocketsOf lk_X8_43 rfl Ow (by decide) rfl (Nat.le_of_ble_eq_true rfl) (fun v_1 h_1 qh_1 => ?_)
  obtain ⟨rfl, rfl⟩ := qh_1
  refine A_iload_n 6 dX8_takeOut_5 rfl rfl rfl ?_
  refine A_callNI 9 (S_X9_thingBit X l) dX8_takeOut_6 rfl kX9_thingBit nk_X8_56 rfl (by decide) rfl (Nat.le_of_ble_eq_true rfl) (fun v_2 h_2 qh_2 => ?_)
  obtain ⟨rfl, rfl⟩ := qh_2
  refine A_iconst 10 (-1) dX8_takeOut_9 rfl (by decide) ?_
  refine A_ixor 11 dX8_takeOut_10 rfl ?_
  refine A_iand 12 dX8_takeOut_11 rfl ?_
  refine A_istore_n 13 dX8_takeOut_12 rfl rfl (by decide) (by first | exact (ast_s (ast_s (ast_1 rfl))) | exact (ast_s (ast_s ast_k))) ?_
  refine A_aload_n 14 dX8_takeOut_13 rfl rfl rfl ?_
  refine A_getfield 17 dX8_takeOut_14 rfl f_X8_15 Ow rfl ?_
  refine A_iload_n 18 dX8_takeOut_17 rfl rfl rfl ?_
  refine A_iload_n 19 dX8_takeOut_18 rfl rfl rfl ?_
  refine A_callNV 22 (S_X9_put_X8_1 X l (by first | assumption | decide | omega | exact Ne.symm (by assumption)) (by first | assumption | exact ix_nI (by omega) (by decide) | exact ix_lit _ rfl (by omega) (by decide) | exact ix_lit _ rfl (by decide) (by decide))) dX8_takeOut_19 rfl kX9_put nk_X8_35 rfl (by decide) rfl (Nat.le_of_ble_eq_true rfl) (fun h_3 qh_3 => ?_)
  obtain ⟨n0h_3, eh_3⟩ := qh_3
  replace Ow := n0h_3
  replace hf : ∀ i, i ≠ w → h_3 i = h i := fun i g0 => (eh_3 i g0).trans (hf i g0)
  refine A_aload_n 23 dX8_takeOut_22 rfl rfl rfl ?_
  refine A_dup 24 dX8_takeOut_23 rfl rfl ?_
  refine A_getfield 27 dX8_takeOut_24 rfl f_X8_29 Ow rfl ?_
  refine A_iload_n 28 dX8_takeOut_27 rfl rfl rfl ?_
  refine A_callNI 31 (S_X9_thingBit X l) dX8_takeOut_28 rfl kX9_thingBit nk_X8_56 rfl (by decide) rfl (Nat.le_of_ble_eq_true rfl) (fun v_4 h_4 qh_4 => ?_)
  obtain ⟨rfl, rfl⟩ := qh_4
  refine A_ior 32 dX8_takeOut_31 rfl ?_
  refine P_X8_4 35 dX8_takeOut_32 rfl fw_X8_29 Ow (fun h_5 nh_5 eh_5 => ?_)
  replace Ow := nh_5
  replace hf : ∀ i, i ≠ w → h_5 i = h i := fun i g0 => (eh_5 i g0).trans (hf i g0)
  refine A_iload_n 36 dX8_takeOut_35 rfl rfl rfl ?_
  refine A_iret dX8_takeOut_36 rfl ⟨_, rfl, (by first | with_reducible rfl | (simp only [if_true, if_false, ite_true, ite_false, and_true, true_and, and_false, false_and, and_self, or_true, true_or, or_false, false_or, or_self, not_true_eq_false, not_false_eq_true, decide_true, decide_false, Bool.and_true, Bool.true_and, Bool.and_false, Bool.false_and, Bool.and_self, Bool.or_true, Bool.true_or, Bool.or_false, Bool.false_or, Bool.not_true, Bool.not_false, cond_true, cond_false, bI_t, bI_f, Bool.false_eq_true, Bool.true_eq_false, dayC_1, dayC_21, dayC_221, dayC_222]; done) | (simp only [*]; done) | (simp [bI, *]; done) | with_reducible_and_instances rfl), Ow, hf⟩
set_option maxHeartbeats 4000000 in
set_option maxRecDepth 100000 in
theorem S_X8_bringIn (X : En) (l : Launch) {h : Hp} {w : Nat} {x : PW} (Ow : h w = some (wB w x)) {p : Nat} {t : Int32} (hp : p < 6) : Ct X l mX8_bringIn [aR w 0, aI (nI p), aI t] h (QI (PI1 (x.2.1 p ||| tbI t) h (w) (wB w (bringF x p t)))) := by
  have hf : ∀ i, i ≠ w → h i = h i := fun _ _ => rfl
  refine Ct.intro [some (aR w 0), some (aI (nI p)), some (aI t), none] (by decide +kernel) rfl (Nat.le_of_ble_eq_true rfl) ?_
  refine A_aload_n 1 dX8_bringIn_0 rfl rfl rfl ?_
  refine A_iload_n 2 dX8_bringIn_1 rfl rfl rfl ?_
  refine A_callVI 5 (S_X8_pocketsOf X l (by first | assumption | decide | omega | exact Ne.symm (by assumption)) (by first | assumption | decide | omega | exact Ne.symm (by assumption))) dX8_bringIn_2 rfl kX8_pocketsOf lk_X8_43 rfl Ow (by decide) rfl (Nat.le_of_ble_eq_true rfl) (fun v_1 h_1 qh_1 => ?_)
  obtain ⟨rfl, rfl⟩ := qh_1
  refine A_iload_n 6 dX8_bringIn_5 rfl rfl rfl ?_
  refine A_callNI 9 (S_X9_thingBit X l) dX8_bringIn_6 rfl kX9_thingBit nk_X8_56 rfl (by decide) rfl (Nat.le_of_ble_eq_true rfl) (fun v_2 h_2 qh_2 => ?_)
  obtain ⟨rfl, rfl⟩ := qh_2
  refine A_ior 10 dX8_bringIn_9 rfl ?_
  refine A_istore_n 11 dX8_bringIn_10 rfl rfl (by decide) (by first | exact (ast_s (ast_s (ast_1 rfl))) | exact (ast_s (ast_s ast_k))) ?_
  refine A_aload_n 12 dX8_bringIn_11 rfl rfl rfl ?_
  refine A_getfield 15 dX8_bringIn_12 rfl f_X8_15 Ow rfl ?_
  refine A_iload_n 16 dX8_bringIn_15 rfl rfl rfl ?_
  refine A_iload_n 17 dX8_bringIn_16 rfl rfl rfl ?_
  refine A_callNV 20 (S_X9_put_X8_1 X l (by first | assumption | decide | omega | exact Ne.symm (by assumption)) (by first | assumption | exact ix_nI (by omega) (by decide) | exact ix_lit _ rfl (by omega) (by decide) | exact ix_lit _ rfl (by decide) (by decide))) dX8_bringIn_17 rfl kX9_put nk_X8_35 rfl (by decide) rfl (Nat.le_of_ble_eq_true rfl) (fun h_3 qh_3 => ?_)
  obtain ⟨n0h_3, eh_3⟩ := qh_3
  replace Ow := n0h_3
  replace hf : ∀ i, i ≠ w → h_3 i = h i := fun i g0 => (eh_3 i g0).trans (hf i g0)
  refine A_aload_n 21 dX8_bringIn_20 rfl rfl rfl ?_
  refine A_dup 22 dX8_bringIn_21 rfl rfl ?_
  refine A_getfield 25 dX8_bringIn_22 rfl f_X8_29 Ow rfl ?_
  refine A_iload_n 26 dX8_bringIn_25 rfl rfl rfl ?_
  refine A_callNI 29 (S_X9_thingBit X l) dX8_bringIn_26 rfl kX9_thingBit nk_X8_56 rfl (by decide) rfl (Nat.le_of_ble_eq_true rfl) (fun v_4 h_4 qh_4 => ?_)
  obtain ⟨rfl, rfl⟩ := qh_4
  refine A_iconst 30 (-1) dX8_bringIn_29 rfl (by decide) ?_
  refine A_ixor 31 dX8_bringIn_30 rfl ?_
  refine A_iand 32 dX8_bringIn_31 rfl ?_
  refine P_X8_4 35 dX8_bringIn_32 rfl fw_X8_29 Ow (fun h_5 nh_5 eh_5 => ?_)
  replace Ow := nh_5
  replace hf : ∀ i, i ≠ w → h_5 i = h i := fun i g0 => (eh_5 i g0).trans (hf i g0)
  refine A_iload_n 36 dX8_bringIn_35 rfl rfl rfl ?_
  refine A_iret dX8_bringIn_36 rfl ⟨_, rfl, (by first | with_reducible rfl | (simp only [if_true, if_false, ite_true, ite_false, and_true, true_and, and_false, false_and, and_self, or_true, true_or, or_false, false_or, or_self, not_true_eq_false, not_false_eq_true, decide_true, decide_false, Bool.and_true, Bool.true_and, Bool.and_false, Bool.false_and, Bool.and_self, Bool.or_true, Bool.true_or, Bool.or_false, Bool.false_or, Bool.not_true, Bool.not_false, cond_true, cond_false, bI_t, bI_f, Bool.false_eq_true, Bool.true_eq_false, dayC_1, dayC_21, dayC_221, dayC_222]; done) | (simp only [*]; done) | (simp [bI, *]; done) | with_reducible_and_instances rfl), Ow, hf⟩
set_option maxHeartbeats 4000000 in
set_option maxRecDepth 100000 in
theorem S_X8_emptyTray (X : En) (l : Launch) {h : Hp} {w : Nat} {x : PW} (Ow : h w = some (wB w x)) : Ct X l mX8_emptyTray [aR w 0] h (QI (PI1 (x.2.2.2.2.1) h (w) (wB w (clearF x)))) := by
  have hf : ∀ i, i ≠ w → h i = h i := fun _ _ => rfl
  refine Ct.intro [some (aR w 0), none] (by decide +kernel) rfl (Nat.le_of_ble_eq_true rfl) ?_
  refine A_aload_n 1 dX8_emptyTray_0 rfl rfl rfl ?_
  refine A_getfield 4 dX8_emptyTray_1 rfl f_X8_29 Ow rfl ?_
  refine A_istore_n 5 dX8_emptyTray_4 rfl rfl (by decide) (by first | exact (ast_1 rfl) | exact ast_k) ?_
  refine A_aload_n 6 dX8_emptyTray_5 rfl rfl rfl ?_
  refine A_iconst 7 (0) dX8_emptyTray_6 rfl (by decide) ?_
  refine P_X8_4 10 dX8_emptyTray_7 rfl fw_X8_29 Ow (fun h_1 nh_1 eh_1 => ?_)
  replace Ow := nh_1
  replace hf : ∀ i, i ≠ w → h_1 i = h i := fun i g0 => (eh_1 i g0).trans (hf i g0)
  refine A_iload_n 11 dX8_emptyTray_10 rfl rfl rfl ?_
  refine A_iret dX8_emptyTray_11 rfl ⟨_, rfl, (by first | with_reducible rfl | (simp only [if_true, if_false, ite_true, ite_false, and_true, true_and, and_false, false_and, and_self, or_true, true_or, or_false, false_or, or_self, not_true_eq_false, not_false_eq_true, decide_true, decide_false, Bool.and_true, Bool.true_and, Bool.and_false, Bool.false_and, Bool.and_self, Bool.or_true, Bool.true_or, Bool.or_false, Bool.false_or, Bool.not_true, Bool.not_false, cond_true, cond_false, bI_t, bI_f, Bool.false_eq_true, Bool.true_eq_false, dayC_1, dayC_21, dayC_221, dayC_222]; done) | (simp only [*]; done) | (simp [bI, *]; done) | with_reducible_and_instances rfl), Ow, hf⟩
set_option maxHeartbeats 4000000 in
set_option maxRecDepth 100000 in
theorem S_X8_holds (X : En) (l : Launch) {h : Hp} {w : Nat} {x : PW} (Ow : h w = some (wB w x)) (hx : LOK x) {k : Nat} (hk : k < 10) {hour has : Int32} : Ct X l mX8_holds [aR w 0, aI (nI k), aI hour, aI has] h (QI (PI0 (bI (holdsF x k hour has)) h)) := by
  refine Ct.intro [some (aR w 0), some (aI (nI k)), some (aI hour), some (aI has), none, none, none] (by decide +kernel) rfl (Nat.le_of_ble_eq_true rfl) ?_
  refine A_iload_n 1 dX8_holds_0 rfl rfl rfl ?_
  refine A_iconst 2 (4) dX8_holds_1 rfl (by decide) ?_
  refine A_imul 3 dX8_holds_2 rfl ?_
  rw [n40]
  refine A_istore 5 dX8_holds_3 rfl (by decide) (by first | exact (ast_s (ast_s (ast_s (ast_1 rfl)))) | exact (ast_s (ast_s (ast_s ast_k)))) ?_
  refine A_iload 7 dX8_holds_5 rfl rfl ?_
  refine A_if_lt 35 10 dX8_holds_7 (by decide) rfl (fun c7 => ?_) (fun c7 => ?_)
  · skip
    exact absurd c7 (nI_pos (by omega))
  · skip
    try simp only [bI_0, bI_n0, Classical.not_not, Bool.not_eq_false, Bool.true_and, Bool.and_true, decide_eq_true_eq, decide_eq_false_iff_not, dayC_1, dayC_21, dayC_221, dayC_222] at c7
    have n7 := Int32.not_lt.mp c7
    refine A_iload 12 dX8_holds_10 rfl rfl ?_
    refine A_iconst 13 (3) dX8_holds_12 rfl (by decide) ?_
    refine A_iadd 14 dX8_holds_13 rfl ?_
    refine A_aload_n 15 dX8_holds_14 rfl rfl rfl ?_
    refine A_getfield 18 dX8_holds_15 rfl f_X8_9 Ow rfl ?_
    refine A_arraylength 19 dX8_holds_18 rfl Ow rfl (Nat.le_of_ble_eq_true rfl) rfl ?_
    refine A_icmp_ge 35 22 dX8_holds_19 (by decide) rfl (fun c19 => ?_) (fun c19 => ?_)
    · skip
      exact absurd ((nle_iff (a := 40) (b := k * 4 + 3) (by decide) (by omega)).mp (by have q := c19; rw [n43] at q; exact q)) (by omega)
    · skip
      try simp only [bI_0, bI_n0, Classical.not_not, Bool.not_eq_false, Bool.true_and, Bool.and_true, decide_eq_true_eq, decide_eq_false_iff_not, dayC_1, dayC_21, dayC_221, dayC_222] at c19
      have n19 := c19
      replace c19 := Int32.not_le.mp c19
      refine A_iload_n 23 dX8_holds_22 rfl rfl rfl ?_
      refine A_aload_n 24 dX8_holds_23 rfl rfl rfl ?_
      refine A_getfield 27 dX8_holds_24 rfl f_X8_9 Ow rfl ?_
      refine A_iload 29 dX8_holds_27 rfl rfl ?_
      refine A_iconst 30 (1) dX8_holds_29 rfl (by decide) ?_
      refine A_iadd 31 dX8_holds_30 rfl ?_
      refine A_iaload 32 dX8_holds_31 rfl Ow rfl ((ix_of (j := k * 4 + 1) (n41 _) (by omega) (by decide))) ?_
      refine A_icmp_ge 37 35 dX8_holds_32 (by decide) rfl (fun c32 => ?_) (fun c32 => ?_)
      · skip
        try simp only [bI_0, bI_n0, Classical.not_not, Bool.not_eq_false, Bool.true_and, Bool.and_true, decide_eq_true_eq, decide_eq_false_iff_not, dayC_1, dayC_21, dayC_221, dayC_222] at c32
        have n32 := c32
        replace c32 := Int32.not_lt.mpr c32
        refine A_joinI 58 (fun v => v = bI (btI has (wa x k))) (fun j58 => ?_) (fun v58 e58 => ?_)
        · skip
          refine A_iload_n 38 dX8_holds_37 rfl rfl rfl ?_
          refine A_iconst 39 (1) dX8_holds_38 rfl (by decide) ?_
          refine A_aload_n 40 dX8_holds_39 rfl rfl rfl ?_
          refine A_getfield 43 dX8_holds_40 rfl f_X8_9 Ow rfl ?_
          refine A_iload 45 dX8_holds_43 rfl rfl ?_
          refine A_iconst 46 (2) dX8_holds_45 rfl (by decide) ?_
          refine A_iadd 47 dX8_holds_46 rfl ?_
          refine A_iaload 48 dX8_holds_47 rfl Ow rfl ((ix_of (j := k * 4 + 2) (n42 _) (by omega) (by decide))) ?_
          refine A_ishl 49 dX8_holds_48 rfl ?_
          refine A_iand 50 dX8_holds_49 rfl ?_
          refine A_if_eq 57 53 dX8_holds_50 (by decide) rfl (fun c50 => ?_) (fun c50 => ?_)
          · skip
            try simp only [bI_0, bI_n0, Classical.not_not, Bool.not_eq_false, Bool.true_and, Bool.and_true, decide_eq_true_eq, decide_eq_false_iff_not, dayC_1, dayC_21, dayC_221, dayC_222] at c50
            refine A_iconst 58 (0) dX8_holds_57 rfl (by decide) ?_
            exact j58 _ (by simp [bI, btI, wa, gi, *])
          · skip
            try simp only [bI_0, bI_n0, Classical.not_not, Bool.not_eq_false, Bool.true_and, Bool.and_true, decide_eq_true_eq, decide_eq_false_iff_not, dayC_1, dayC_21, dayC_221, dayC_222] at c50
            refine A_iconst 54 (1) dX8_holds_53 rfl (by decide) ?_
            refine A_goto 58 dX8_holds_54 (by decide) ?_
            exact j58 _ (by simp [bI, btI, wa, gi, *])
        subst e58
        refine A_istore 60 dX8_holds_58 rfl (by decide) (by first | exact (ast_s (ast_s (ast_s (ast_s (ast_1 rfl))))) | exact (ast_s (ast_s (ast_s (ast_s ast_k))))) ?_
        refine A_joinI 81 (fun v => v = bI (btI has (gi x k))) (fun j81 => ?_) (fun v81 e81 => ?_)
        · skip
          refine A_iload_n 61 dX8_holds_60 rfl rfl rfl ?_
          refine A_iconst 62 (1) dX8_holds_61 rfl (by decide) ?_
          refine A_aload_n 63 dX8_holds_62 rfl rfl rfl ?_
          refine A_getfield 66 dX8_holds_63 rfl f_X8_9 Ow rfl ?_
          refine A_iload 68 dX8_holds_66 rfl rfl ?_
          refine A_iconst 69 (3) dX8_holds_68 rfl (by decide) ?_
          refine A_iadd 70 dX8_holds_69 rfl ?_
          refine A_iaload 71 dX8_holds_70 rfl Ow rfl ((ix_of (j := k * 4 + 3) (n43 _) (by omega) (by decide))) ?_
          refine A_ishl 72 dX8_holds_71 rfl ?_
          refine A_iand 73 dX8_holds_72 rfl ?_
          refine A_if_eq 80 76 dX8_holds_73 (by decide) rfl (fun c73 => ?_) (fun c73 => ?_)
          · skip
            try simp only [bI_0, bI_n0, Classical.not_not, Bool.not_eq_false, Bool.true_and, Bool.and_true, decide_eq_true_eq, decide_eq_false_iff_not, dayC_1, dayC_21, dayC_221, dayC_222] at c73
            refine A_iconst 81 (0) dX8_holds_80 rfl (by decide) ?_
            exact j81 _ (by simp [bI, btI, wa, gi, *])
          · skip
            try simp only [bI_0, bI_n0, Classical.not_not, Bool.not_eq_false, Bool.true_and, Bool.and_true, decide_eq_true_eq, decide_eq_false_iff_not, dayC_1, dayC_21, dayC_221, dayC_222] at c73
            refine A_iconst 77 (1) dX8_holds_76 rfl (by decide) ?_
            refine A_goto 81 dX8_holds_77 (by decide) ?_
            exact j81 _ (by simp [bI, btI, wa, gi, *])
        subst e81
        refine A_istore 83 dX8_holds_81 rfl (by decide) (by first | exact (ast_s (ast_s (ast_s (ast_s (ast_s (ast_1 rfl)))))) | exact (ast_s (ast_s (ast_s (ast_s (ast_s ast_k)))))) ?_
        refine A_aload_n 84 dX8_holds_83 rfl rfl rfl ?_
        refine A_getfield 87 dX8_holds_84 rfl f_X8_9 Ow rfl ?_
        refine A_iload 89 dX8_holds_87 rfl rfl ?_
        refine A_iconst 90 (0) dX8_holds_89 rfl (by decide) ?_
        refine A_iadd 91 dX8_holds_90 rfl ?_
        refine A_iaload 92 dX8_holds_91 rfl Ow rfl ((ix_of (j := k * 4) (n4z _) (by omega) (by decide))) ?_
        refine A_case (0) (fun e92_0 => ?_) (fun e92_0 => ?_)
        · skip
          refine A_switch 132 dX8_holds_92 (by rw [e92_0]; decide) (by rw [e92_0]; rfl) (by decide) ?_
          refine A_iload 134 dX8_holds_132 rfl rfl ?_
          refine A_zret dX8_holds_134 rfl (by first | with_reducible exact bI01 _ | with_reducible exact Or.inl rfl | with_reducible exact Or.inr rfl | assumption) ⟨_, rfl, (by simp [holdsF, kd, fg, bI, *]), rfl⟩
        refine A_case (1) (fun e92_1 => ?_) (fun e92_1 => ?_)
        · skip
          refine A_switch 132 dX8_holds_92 (by rw [e92_1]; decide) (by rw [e92_1]; rfl) (by decide) ?_
          refine A_iload 134 dX8_holds_132 rfl rfl ?_
          refine A_zret dX8_holds_134 rfl (by first | with_reducible exact bI01 _ | with_reducible exact Or.inl rfl | with_reducible exact Or.inr rfl | assumption) ⟨_, rfl, (by simp [holdsF, kd, fg, bI, *]), rfl⟩
        refine A_case (2) (fun e92_2 => ?_) (fun e92_2 => ?_)
        · skip
          refine A_switch 135 dX8_holds_92 (by rw [e92_2]; decide) (by rw [e92_2]; rfl) (by decide) ?_
          refine A_iload 137 dX8_holds_135 rfl rfl ?_
          refine A_if_ne 145 140 dX8_holds_137 (by decide) rfl (fun c137 => ?_) (fun c137 => ?_)
          · skip
            try simp only [bI_0, bI_n0, Classical.not_not, Bool.not_eq_false, Bool.true_and, Bool.and_true, decide_eq_true_eq, decide_eq_false_iff_not, dayC_1, dayC_21, dayC_221, dayC_222] at c137
            refine A_iconst 146 (1) dX8_holds_145 rfl (by decide) ?_
            refine A_goto 150 dX8_holds_146 (by decide) ?_
            refine A_zret dX8_holds_150 rfl (by first | with_reducible exact bI01 _ | with_reducible exact Or.inl rfl | with_reducible exact Or.inr rfl | assumption) ⟨_, rfl, (by simp [holdsF, kd, fg, bI, *]), rfl⟩
          · skip
            try simp only [bI_0, bI_n0, Classical.not_not, Bool.not_eq_false, Bool.true_and, Bool.and_true, decide_eq_true_eq, decide_eq_false_iff_not, dayC_1, dayC_21, dayC_221, dayC_222] at c137
            refine A_iload 142 dX8_holds_140 rfl rfl ?_
            refine A_if_eq 149 145 dX8_holds_142 (by decide) rfl (fun c142 => ?_) (fun c142 => ?_)
            · skip
              try simp only [bI_0, bI_n0, Classical.not_not, Bool.not_eq_false, Bool.true_and, Bool.and_true, decide_eq_true_eq, decide_eq_false_iff_not, dayC_1, dayC_21, dayC_221, dayC_222] at c142
              refine A_iconst 150 (0) dX8_holds_149 rfl (by decide) ?_
              refine A_zret dX8_holds_150 rfl (by first | with_reducible exact bI01 _ | with_reducible exact Or.inl rfl | with_reducible exact Or.inr rfl | assumption) ⟨_, rfl, (by simp [holdsF, kd, fg, bI, *]), rfl⟩
            · skip
              try simp only [bI_0, bI_n0, Classical.not_not, Bool.not_eq_false, Bool.true_and, Bool.and_true, decide_eq_true_eq, decide_eq_false_iff_not, dayC_1, dayC_21, dayC_221, dayC_222] at c142
              refine A_iconst 146 (1) dX8_holds_145 rfl (by decide) ?_
              refine A_goto 150 dX8_holds_146 (by decide) ?_
              refine A_zret dX8_holds_150 rfl (by first | with_reducible exact bI01 _ | with_reducible exact Or.inl rfl | with_reducible exact Or.inr rfl | assumption) ⟨_, rfl, (by simp [holdsF, kd, fg, bI, *]), rfl⟩
        refine A_case (3) (fun e92_3 => ?_) (fun e92_3 => ?_)
        · skip
          refine A_switch 151 dX8_holds_92 (by rw [e92_3]; decide) (by rw [e92_3]; rfl) (by decide) ?_
          refine A_iload 153 dX8_holds_151 rfl rfl ?_
          refine A_if_ne 160 156 dX8_holds_153 (by decide) rfl (fun c153 => ?_) (fun c153 => ?_)
          · skip
            try simp only [bI_0, bI_n0, Classical.not_not, Bool.not_eq_false, Bool.true_and, Bool.and_true, decide_eq_true_eq, decide_eq_false_iff_not, dayC_1, dayC_21, dayC_221, dayC_222] at c153
            refine A_iconst 161 (0) dX8_holds_160 rfl (by decide) ?_
            refine A_zret dX8_holds_161 rfl (by first | with_reducible exact bI01 _ | with_reducible exact Or.inl rfl | with_reducible exact Or.inr rfl | assumption) ⟨_, rfl, (by simp [holdsF, kd, fg, bI, *]), rfl⟩
          · skip
            try simp only [bI_0, bI_n0, Classical.not_not, Bool.not_eq_false, Bool.true_and, Bool.and_true, decide_eq_true_eq, decide_eq_false_iff_not, dayC_1, dayC_21, dayC_221, dayC_222] at c153
            refine A_iconst 157 (1) dX8_holds_156 rfl (by decide) ?_
            refine A_goto 161 dX8_holds_157 (by decide) ?_
            refine A_zret dX8_holds_161 rfl (by first | with_reducible exact bI01 _ | with_reducible exact Or.inl rfl | with_reducible exact Or.inr rfl | assumption) ⟨_, rfl, (by simp [holdsF, kd, fg, bI, *]), rfl⟩
        refine A_case (4) (fun e92_4 => ?_) (fun e92_4 => ?_)
        · skip
          refine A_switch 162 dX8_holds_92 (by rw [e92_4]; decide) (by rw [e92_4]; rfl) (by decide) ?_
          refine A_iload 164 dX8_holds_162 rfl rfl ?_
          refine A_if_eq 177 167 dX8_holds_164 (by decide) rfl (fun c164 => ?_) (fun c164 => ?_)
          · skip
            try simp only [bI_0, bI_n0, Classical.not_not, Bool.not_eq_false, Bool.true_and, Bool.and_true, decide_eq_true_eq, decide_eq_false_iff_not, dayC_1, dayC_21, dayC_221, dayC_222] at c164
            refine A_iconst 178 (0) dX8_holds_177 rfl (by decide) ?_
            refine A_zret dX8_holds_178 rfl (by first | with_reducible exact bI01 _ | with_reducible exact Or.inl rfl | with_reducible exact Or.inr rfl | assumption) ⟨_, rfl, (by simp [holdsF, kd, fg, bI, *]), rfl⟩
          · skip
            try simp only [bI_0, bI_n0, Classical.not_not, Bool.not_eq_false, Bool.true_and, Bool.and_true, decide_eq_true_eq, decide_eq_false_iff_not, dayC_1, dayC_21, dayC_221, dayC_222] at c164
            refine A_iload_n 168 dX8_holds_167 rfl rfl rfl ?_
            refine A_iconst 169 (2) dX8_holds_168 rfl (by decide) ?_
            refine A_irem 170 dX8_holds_169 rfl (by decide) ?_
            refine A_if_ne 177 173 dX8_holds_170 (by decide) rfl (fun c170 => ?_) (fun c170 => ?_)
            · skip
              try simp only [bI_0, bI_n0, Classical.not_not, Bool.not_eq_false, Bool.true_and, Bool.and_true, decide_eq_true_eq, decide_eq_false_iff_not, dayC_1, dayC_21, dayC_221, dayC_222] at c170
              refine A_iconst 178 (0) dX8_holds_177 rfl (by decide) ?_
              refine A_zret dX8_holds_178 rfl (by first | with_reducible exact bI01 _ | with_reducible exact Or.inl rfl | with_reducible exact Or.inr rfl | assumption) ⟨_, rfl, (by simp [holdsF, kd, fg, bI, *]), rfl⟩
            · skip
              try simp only [bI_0, bI_n0, Classical.not_not, Bool.not_eq_false, Bool.true_and, Bool.and_true, decide_eq_true_eq, decide_eq_false_iff_not, dayC_1, dayC_21, dayC_221, dayC_222] at c170
              refine A_iconst 174 (1) dX8_holds_173 rfl (by decide) ?_
              refine A_goto 178 dX8_holds_174 (by decide) ?_
              refine A_zret dX8_holds_178 rfl (by first | with_reducible exact bI01 _ | with_reducible exact Or.inl rfl | with_reducible exact Or.inr rfl | assumption) ⟨_, rfl, (by simp [holdsF, kd, fg, bI, *]), rfl⟩
        refine A_case (5) (fun e92_5 => ?_) (fun e92_5 => ?_)
        · skip
          refine A_switch 179 dX8_holds_92 (by rw [e92_5]; decide) (by rw [e92_5]; rfl) (by decide) ?_
          refine A_iload 181 dX8_holds_179 rfl rfl ?_
          refine A_if_ne 189 184 dX8_holds_181 (by decide) rfl (fun c181 => ?_) (fun c181 => ?_)
          · skip
            try simp only [bI_0, bI_n0, Classical.not_not, Bool.not_eq_false, Bool.true_and, Bool.and_true, decide_eq_true_eq, decide_eq_false_iff_not, dayC_1, dayC_21, dayC_221, dayC_222] at c181
            refine A_aload_n 190 dX8_holds_189 rfl rfl rfl ?_
            refine A_getfield 193 dX8_holds_190 rfl f_X8_29 Ow rfl ?_
            refine A_if_eq 200 196 dX8_holds_193 (by decide) rfl (fun c193 => ?_) (fun c193 => ?_)
            · skip
              try simp only [bI_0, bI_n0, Classical.not_not, Bool.not_eq_false, Bool.true_and, Bool.and_true, decide_eq_true_eq, decide_eq_false_iff_not, dayC_1, dayC_21, dayC_221, dayC_222] at c193
              refine A_iconst 201 (0) dX8_holds_200 rfl (by decide) ?_
              refine A_zret dX8_holds_201 rfl (by first | with_reducible exact bI01 _ | with_reducible exact Or.inl rfl | with_reducible exact Or.inr rfl | assumption) ⟨_, rfl, (by simp [holdsF, kd, fg, bI, *]), rfl⟩
            · skip
              try simp only [bI_0, bI_n0, Classical.not_not, Bool.not_eq_false, Bool.true_and, Bool.and_true, decide_eq_true_eq, decide_eq_false_iff_not, dayC_1, dayC_21, dayC_221, dayC_222] at c193
              refine A_iconst 197 (1) dX8_holds_196 rfl (by decide) ?_
              refine A_goto 201 dX8_holds_197 (by decide) ?_
              refine A_zret dX8_holds_201 rfl (by first | with_reducible exact bI01 _ | with_reducible exact Or.inl rfl | with_reducible exact Or.inr rfl | assumption) ⟨_, rfl, (by simp [holdsF, kd, fg, bI, *]), rfl⟩
          · skip
            try simp only [bI_0, bI_n0, Classical.not_not, Bool.not_eq_false, Bool.true_and, Bool.and_true, decide_eq_true_eq, decide_eq_false_iff_not, dayC_1, dayC_21, dayC_221, dayC_222] at c181
            refine A_iload 186 dX8_holds_184 rfl rfl ?_
            refine A_if_eq 200 189 dX8_holds_186 (by decide) rfl (fun c186 => ?_) (fun c186 => ?_)
            · skip
              try simp only [bI_0, bI_n0, Classical.not_not, Bool.not_eq_false, Bool.true_and, Bool.and_true, decide_eq_true_eq, decide_eq_false_iff_not, dayC_1, dayC_21, dayC_221, dayC_222] at c186
              refine A_iconst 201 (0) dX8_holds_200 rfl (by decide) ?_
              refine A_zret dX8_holds_201 rfl (by first | with_reducible exact bI01 _ | with_reducible exact Or.inl rfl | with_reducible exact Or.inr rfl | assumption) ⟨_, rfl, (by simp [holdsF, kd, fg, bI, *]), rfl⟩
            · skip
              try simp only [bI_0, bI_n0, Classical.not_not, Bool.not_eq_false, Bool.true_and, Bool.and_true, decide_eq_true_eq, decide_eq_false_iff_not, dayC_1, dayC_21, dayC_221, dayC_222] at c186
              refine A_aload_n 190 dX8_holds_189 rfl rfl rfl ?_
              refine A_getfield 193 dX8_holds_190 rfl f_X8_29 Ow rfl ?_
              refine A_if_eq 200 196 dX8_holds_193 (by decide) rfl (fun c193 => ?_) (fun c193 => ?_)
              · skip
                try simp only [bI_0, bI_n0, Classical.not_not, Bool.not_eq_false, Bool.true_and, Bool.and_true, decide_eq_true_eq, decide_eq_false_iff_not, dayC_1, dayC_21, dayC_221, dayC_222] at c193
                refine A_iconst 201 (0) dX8_holds_200 rfl (by decide) ?_
                refine A_zret dX8_holds_201 rfl (by first | with_reducible exact bI01 _ | with_reducible exact Or.inl rfl | with_reducible exact Or.inr rfl | assumption) ⟨_, rfl, (by simp [holdsF, kd, fg, bI, *]), rfl⟩
              · skip
                try simp only [bI_0, bI_n0, Classical.not_not, Bool.not_eq_false, Bool.true_and, Bool.and_true, decide_eq_true_eq, decide_eq_false_iff_not, dayC_1, dayC_21, dayC_221, dayC_222] at c193
                refine A_iconst 197 (1) dX8_holds_196 rfl (by decide) ?_
                refine A_goto 201 dX8_holds_197 (by decide) ?_
                refine A_zret dX8_holds_201 rfl (by first | with_reducible exact bI01 _ | with_reducible exact Or.inl rfl | with_reducible exact Or.inr rfl | assumption) ⟨_, rfl, (by simp [holdsF, kd, fg, bI, *]), rfl⟩
        rcases hx.kd6 hk with e | e | e | e | e | e
        · exact absurd e e92_0
        · exact absurd e e92_1
        · exact absurd e e92_2
        · exact absurd e e92_3
        · exact absurd e e92_4
        · exact absurd e e92_5
      · skip
        try simp only [bI_0, bI_n0, Classical.not_not, Bool.not_eq_false, Bool.true_and, Bool.and_true, decide_eq_true_eq, decide_eq_false_iff_not, dayC_1, dayC_21, dayC_221, dayC_222] at c32
        have n32 := c32
        replace c32 := Int32.not_le.mp c32
        refine A_iconst 36 (0) dX8_holds_35 rfl (by decide) ?_
        refine A_zret dX8_holds_36 rfl (by first | with_reducible exact bI01 _ | with_reducible exact Or.inl rfl | with_reducible exact Or.inr rfl | assumption) ⟨_, rfl, (by simp [holdsF, kd, fg, bI, *]), rfl⟩
set_option maxHeartbeats 4000000 in
set_option maxRecDepth 100000 in
theorem S_X8_eitherWay (X : En) (l : Launch) {h : Hp} {has a b : Int32} : Ct X l mX8_eitherWay [aI has, aI a, aI b] h (QI (PI0 (eitherF has a b) h)) := by
  refine Ct.intro [some (aI has), some (aI a), some (aI b), none] (by decide +kernel) rfl (Nat.le_of_ble_eq_true rfl) ?_
  refine A_joinI 17 (fun v => v = bI (decide (has &&& a ≠ 0 ∧ has &&& b ≠ 0))) (fun j17 => ?_) (fun v17 e17 => ?_)
  · skip
    refine A_iload_n 1 dX8_eitherWay_0 rfl rfl rfl ?_
    refine A_iload_n 2 dX8_eitherWay_1 rfl rfl rfl ?_
    refine A_iand 3 dX8_eitherWay_2 rfl ?_
    refine A_if_eq 16 6 dX8_eitherWay_3 (by decide) rfl (fun c3 => ?_) (fun c3 => ?_)
    · skip
      try simp only [bI_0, bI_n0, Classical.not_not, Bool.not_eq_false, Bool.true_and, Bool.and_true, decide_eq_true_eq, decide_eq_false_iff_not, dayC_1, dayC_21, dayC_221, dayC_222] at c3
      refine A_iconst 17 (0) dX8_eitherWay_16 rfl (by decide) ?_
      exact j17 _ (by first | with_reducible rfl | (simp only [c3, if_true, if_false, ite_true, ite_false, and_true, true_and, and_false, false_and, and_self, or_true, true_or, or_false, false_or, or_self, not_true_eq_false, not_false_eq_true, decide_true, decide_false, Bool.and_true, Bool.true_and, Bool.and_false, Bool.false_and, Bool.and_self, Bool.or_true, Bool.true_or, Bool.or_false, Bool.false_or, Bool.not_true, Bool.not_false, cond_true, cond_false, bI_t, bI_f, Bool.false_eq_true, Bool.true_eq_false, dayC_1, dayC_21, dayC_221, dayC_222, eitherF]; done) | (simp only [eq_true c3, if_true, if_false, ite_true, ite_false, and_true, true_and, and_false, false_and, and_self, or_true, true_or, or_false, false_or, or_self, not_true_eq_false, not_false_eq_true, decide_true, decide_false, Bool.and_true, Bool.true_and, Bool.and_false, Bool.false_and, Bool.and_self, Bool.or_true, Bool.true_or, Bool.or_false, Bool.false_or, Bool.not_true, Bool.not_false, cond_true, cond_false, bI_t, bI_f, Bool.false_eq_true, Bool.true_eq_false, dayC_1, dayC_21, dayC_221, dayC_222, eitherF]; done) | (simp [bI, *, eitherF]; done))
    · skip
      try simp only [bI_0, bI_n0, Classical.not_not, Bool.not_eq_false, Bool.true_and, Bool.and_true, decide_eq_true_eq, decide_eq_false_iff_not, dayC_1, dayC_21, dayC_221, dayC_222] at c3
      refine A_iload_n 7 dX8_eitherWay_6 rfl rfl rfl ?_
      refine A_iload_n 8 dX8_eitherWay_7 rfl rfl rfl ?_
      refine A_iand 9 dX8_eitherWay_8 rfl ?_
      refine A_if_eq 16 12 dX8_eitherWay_9 (by decide) rfl (fun c9 => ?_) (fun c9 => ?_)
      · skip
        try simp only [bI_0, bI_n0, Classical.not_not, Bool.not_eq_false, Bool.true_and, Bool.and_true, decide_eq_true_eq, decide_eq_false_iff_not, dayC_1, dayC_21, dayC_221, dayC_222] at c9
        refine A_iconst 17 (0) dX8_eitherWay_16 rfl (by decide) ?_
        exact j17 _ (by first | with_reducible rfl | (simp only [c3, c9, if_true, if_false, ite_true, ite_false, and_true, true_and, and_false, false_and, and_self, or_true, true_or, or_false, false_or, or_self, not_true_eq_false, not_false_eq_true, decide_true, decide_false, Bool.and_true, Bool.true_and, Bool.and_false, Bool.false_and, Bool.and_self, Bool.or_true, Bool.true_or, Bool.or_false, Bool.false_or, Bool.not_true, Bool.not_false, cond_true, cond_false, bI_t, bI_f, Bool.false_eq_true, Bool.true_eq_false, dayC_1, dayC_21, dayC_221, dayC_222, eitherF]; done) | (simp only [c3, eq_true c9, if_true, if_false, ite_true, ite_false, and_true, true_and, and_false, false_and, and_self, or_true, true_or, or_false, false_or, or_self, not_true_eq_false, not_false_eq_true, decide_true, decide_false, Bool.and_true, Bool.true_and, Bool.and_false, Bool.false_and, Bool.and_self, Bool.or_true, Bool.true_or, Bool.or_false, Bool.false_or, Bool.not_true, Bool.not_false, cond_true, cond_false, bI_t, bI_f, Bool.false_eq_true, Bool.true_eq_false, dayC_1, dayC_21, dayC_221, dayC_222, eitherF]; done) | (simp [bI, *, eitherF]; done))
      · skip
        try simp only [bI_0, bI_n0, Classical.not_not, Bool.not_eq_false, Bool.true_and, Bool.and_true, decide_eq_true_eq, decide_eq_false_iff_not, dayC_1, dayC_21, dayC_221, dayC_222] at c9
        refine A_iconst 13 (1) dX8_eitherWay_12 rfl (by decide) ?_
        refine A_goto 17 dX8_eitherWay_13 (by decide) ?_
        exact j17 _ (by first | with_reducible rfl | (simp only [c3, c9, if_true, if_false, ite_true, ite_false, and_true, true_and, and_false, false_and, and_self, or_true, true_or, or_false, false_or, or_self, not_true_eq_false, not_false_eq_true, decide_true, decide_false, Bool.and_true, Bool.true_and, Bool.and_false, Bool.false_and, Bool.and_self, Bool.or_true, Bool.true_or, Bool.or_false, Bool.false_or, Bool.not_true, Bool.not_false, cond_true, cond_false, bI_t, bI_f, Bool.false_eq_true, Bool.true_eq_false, dayC_1, dayC_21, dayC_221, dayC_222, eitherF]; done) | (simp [bI, *, eitherF]; done))
  subst e17
  refine A_istore_n 18 dX8_eitherWay_17 rfl rfl (by decide) (by first | exact (ast_s (ast_s (ast_1 rfl))) | exact (ast_s (ast_s ast_k))) ?_
  refine A_iload_n 19 dX8_eitherWay_18 rfl rfl rfl ?_
  refine A_if_eq 30 22 dX8_eitherWay_19 (by decide) rfl (fun c19 => ?_) (fun c19 => ?_)
  · skip
    try simp only [bI_0, bI_n0, Classical.not_not, Bool.not_eq_false, Bool.true_and, Bool.and_true, decide_eq_true_eq, decide_eq_false_iff_not, dayC_1, dayC_21, dayC_221, dayC_222] at c19
    refine A_iload_n 31 dX8_eitherWay_30 rfl rfl rfl ?_
    refine A_iload_n 32 dX8_eitherWay_31 rfl rfl rfl ?_
    refine A_iload_n 33 dX8_eitherWay_32 rfl rfl rfl ?_
    refine A_ior 34 dX8_eitherWay_33 rfl ?_
    refine A_ixor 35 dX8_eitherWay_34 rfl ?_
    refine A_iret dX8_eitherWay_35 rfl ⟨_, rfl, (by simp_all [eitherF]), rfl⟩
  · skip
    try simp only [bI_0, bI_n0, Classical.not_not, Bool.not_eq_false, Bool.true_and, Bool.and_true, decide_eq_true_eq, decide_eq_false_iff_not, dayC_1, dayC_21, dayC_221, dayC_222] at c19
    refine A_iload_n 23 dX8_eitherWay_22 rfl rfl rfl ?_
    refine A_iload_n 24 dX8_eitherWay_23 rfl rfl rfl ?_
    refine A_iconst 25 (-1) dX8_eitherWay_24 rfl (by decide) ?_
    refine A_ixor 26 dX8_eitherWay_25 rfl ?_
    refine A_iand 27 dX8_eitherWay_26 rfl ?_
    refine A_goto 35 dX8_eitherWay_27 (by decide) ?_
    refine A_iret dX8_eitherWay_35 rfl ⟨_, rfl, (by simp_all [eitherF]), rfl⟩
set_option maxHeartbeats 4000000 in
set_option maxRecDepth 100000 in
theorem S_X8_pocketsAfter (X : En) (l : Launch) {h : Hp} {w : Nat} {x : PW} (Ow : h w = some (wB w x)) (hx : LOK x) {k : Nat} (hk : k < 10) {has : Int32} : Ct X l mX8_pocketsAfter [aR w 0, aI (nI k), aI has] h (QI (PI0 (afterF x k has) h)) := by
  refine Ct.intro [some (aR w 0), some (aI (nI k)), some (aI has), none, none] (by decide +kernel) rfl (Nat.le_of_ble_eq_true rfl) ?_
  refine A_aload_n 1 dX8_pocketsAfter_0 rfl rfl rfl ?_
  refine A_iload_n 2 dX8_pocketsAfter_1 rfl rfl rfl ?_
  refine A_iconst 3 (2) dX8_pocketsAfter_2 rfl (by decide) ?_
  refine A_callVI 6 (S_X8_lawPart X l Ow hk (p := 2) (j := 2) (by decide) (by decide)) dX8_pocketsAfter_3 rfl kX8_lawPart lk_X8_73 rfl Ow (by decide) rfl (Nat.le_of_ble_eq_true rfl) (fun v_1 h_1 qh_1 => ?_)
  obtain ⟨rfl, rfl⟩ := qh_1
  rw [show x.1 (k * 4 + 2) = wa x k from rfl]
  refine A_callNI 9 (S_X9_thingBit X l) dX8_pocketsAfter_6 rfl kX9_thingBit nk_X8_56 rfl (by decide) rfl (Nat.le_of_ble_eq_true rfl) (fun v_2 h_2 qh_2 => ?_)
  obtain ⟨rfl, rfl⟩ := qh_2
  refine A_istore_n 10 dX8_pocketsAfter_9 rfl rfl (by decide) (by first | exact (ast_s (ast_s (ast_1 rfl))) | exact (ast_s (ast_s ast_k))) ?_
  refine A_aload_n 11 dX8_pocketsAfter_10 rfl rfl rfl ?_
  refine A_iload_n 12 dX8_pocketsAfter_11 rfl rfl rfl ?_
  refine A_iconst 13 (3) dX8_pocketsAfter_12 rfl (by decide) ?_
  refine A_callVI 16 (S_X8_lawPart X l Ow hk (p := 3) (j := 3) (by decide) (by decide)) dX8_pocketsAfter_13 rfl kX8_lawPart lk_X8_73 rfl Ow (by decide) rfl (Nat.le_of_ble_eq_true rfl) (fun v_3 h_3 qh_3 => ?_)
  obtain ⟨rfl, rfl⟩ := qh_3
  rw [show x.1 (k * 4 + 3) = gi x k from rfl]
  refine A_callNI 19 (S_X9_thingBit X l) dX8_pocketsAfter_16 rfl kX9_thingBit nk_X8_56 rfl (by decide) rfl (Nat.le_of_ble_eq_true rfl) (fun v_4 h_4 qh_4 => ?_)
  obtain ⟨rfl, rfl⟩ := qh_4
  refine A_istore 21 dX8_pocketsAfter_19 rfl (by decide) (by first | exact (ast_s (ast_s (ast_s (ast_1 rfl)))) | exact (ast_s (ast_s (ast_s ast_k)))) ?_
  refine A_aload_n 22 dX8_pocketsAfter_21 rfl rfl rfl ?_
  refine A_iload_n 23 dX8_pocketsAfter_22 rfl rfl rfl ?_
  refine A_iconst 24 (0) dX8_pocketsAfter_23 rfl (by decide) ?_
  refine A_callVI 27 (S_X8_lawPart X l Ow hk (p := 0) (j := 0) (by decide) (by decide)) dX8_pocketsAfter_24 rfl kX8_lawPart lk_X8_73 rfl Ow (by decide) rfl (Nat.le_of_ble_eq_true rfl) (fun v_5 h_5 qh_5 => ?_)
  obtain ⟨rfl, rfl⟩ := qh_5
  rw [show x.1 (k * 4 + 0) = kd x k from rfl]
  refine A_case (0) (fun e27_0 => ?_) (fun e27_0 => ?_)
  · skip
    refine A_switch 64 dX8_pocketsAfter_27 (by rw [e27_0]; decide) (by rw [e27_0]; rfl) (by decide) ?_
    refine A_iload_n 65 dX8_pocketsAfter_64 rfl rfl rfl ?_
    refine A_iload_n 66 dX8_pocketsAfter_65 rfl rfl rfl ?_
    refine A_iconst 67 (-1) dX8_pocketsAfter_66 rfl (by decide) ?_
    refine A_ixor 68 dX8_pocketsAfter_67 rfl ?_
    refine A_iand 69 dX8_pocketsAfter_68 rfl ?_
    refine A_iload 71 dX8_pocketsAfter_69 rfl rfl ?_
    refine A_ior 72 dX8_pocketsAfter_71 rfl ?_
    refine A_iret dX8_pocketsAfter_72 rfl ⟨_, rfl, (by simp [afterF, *]), rfl⟩
  refine A_case (1) (fun e27_1 => ?_) (fun e27_1 => ?_)
  · skip
    refine A_switch 73 dX8_pocketsAfter_27 (by rw [e27_1]; decide) (by rw [e27_1]; rfl) (by decide) ?_
    refine A_iload_n 74 dX8_pocketsAfter_73 rfl rfl rfl ?_
    refine A_iload 76 dX8_pocketsAfter_74 rfl rfl ?_
    refine A_ior 77 dX8_pocketsAfter_76 rfl ?_
    refine A_iret dX8_pocketsAfter_77 rfl ⟨_, rfl, (by simp [afterF, *]), rfl⟩
  refine A_case (2) (fun e27_2 => ?_) (fun e27_2 => ?_)
  · skip
    refine A_switch 78 dX8_pocketsAfter_27 (by rw [e27_2]; decide) (by rw [e27_2]; rfl) (by decide) ?_
    refine A_iload_n 79 dX8_pocketsAfter_78 rfl rfl rfl ?_
    refine A_iload_n 80 dX8_pocketsAfter_79 rfl rfl rfl ?_
    refine A_iload 82 dX8_pocketsAfter_80 rfl rfl ?_
    refine A_callSI 85 (S_X8_eitherWay X l) dX8_pocketsAfter_82 rfl kX8_eitherWay lk_X8_77 rfl (by decide) rfl (Nat.le_of_ble_eq_true rfl) (fun v_6 h_6 qh_6 => ?_)
    obtain ⟨rfl, rfl⟩ := qh_6
    refine A_iret dX8_pocketsAfter_85 rfl ⟨_, rfl, (by simp [afterF, *]), rfl⟩
  refine A_case (3) (fun e27_3 => ?_) (fun e27_3 => ?_)
  · skip
    refine A_switch 73 dX8_pocketsAfter_27 (by rw [e27_3]; decide) (by rw [e27_3]; rfl) (by decide) ?_
    refine A_iload_n 74 dX8_pocketsAfter_73 rfl rfl rfl ?_
    refine A_iload 76 dX8_pocketsAfter_74 rfl rfl ?_
    refine A_ior 77 dX8_pocketsAfter_76 rfl ?_
    refine A_iret dX8_pocketsAfter_77 rfl ⟨_, rfl, (by simp [afterF, *]), rfl⟩
  refine A_case (4) (fun e27_4 => ?_) (fun e27_4 => ?_)
  · skip
    refine A_switch 86 dX8_pocketsAfter_27 (by rw [e27_4]; decide) (by rw [e27_4]; rfl) (by decide) ?_
    refine A_iload_n 87 dX8_pocketsAfter_86 rfl rfl rfl ?_
    refine A_iload 89 dX8_pocketsAfter_87 rfl rfl ?_
    refine A_ior 90 dX8_pocketsAfter_89 rfl ?_
    refine A_aload_n 91 dX8_pocketsAfter_90 rfl rfl rfl ?_
    refine A_iload_n 92 dX8_pocketsAfter_91 rfl rfl rfl ?_
    refine A_iconst 93 (1) dX8_pocketsAfter_92 rfl (by decide) ?_
    refine A_callVI 96 (S_X8_lawPart X l Ow hk (p := 1) (j := 1) (by decide) (by decide)) dX8_pocketsAfter_93 rfl kX8_lawPart lk_X8_73 rfl Ow (by decide) rfl (Nat.le_of_ble_eq_true rfl) (fun v_7 h_7 qh_7 => ?_)
    obtain ⟨rfl, rfl⟩ := qh_7
    rw [show x.1 (k * 4 + 1) = fg x k from rfl]
    refine A_callNI 99 (S_X9_thingBit X l) dX8_pocketsAfter_96 rfl kX9_thingBit nk_X8_56 rfl (by decide) rfl (Nat.le_of_ble_eq_true rfl) (fun v_8 h_8 qh_8 => ?_)
    obtain ⟨rfl, rfl⟩ := qh_8
    refine A_iconst 100 (-1) dX8_pocketsAfter_99 rfl (by decide) ?_
    refine A_ixor 101 dX8_pocketsAfter_100 rfl ?_
    refine A_iand 102 dX8_pocketsAfter_101 rfl ?_
    refine A_iret dX8_pocketsAfter_102 rfl ⟨_, rfl, (by simp [afterF, *]), rfl⟩
  refine A_case (5) (fun e27_5 => ?_) (fun e27_5 => ?_)
  · skip
    refine A_switch 103 dX8_pocketsAfter_27 (by rw [e27_5]; decide) (by rw [e27_5]; rfl) (by decide) ?_
    refine A_iload_n 104 dX8_pocketsAfter_103 rfl rfl rfl ?_
    refine A_aload_n 105 dX8_pocketsAfter_104 rfl rfl rfl ?_
    refine A_getfield 108 dX8_pocketsAfter_105 rfl f_X8_29 Ow rfl ?_
    refine A_ior 109 dX8_pocketsAfter_108 rfl ?_
    refine A_iret dX8_pocketsAfter_109 rfl ⟨_, rfl, (by simp [afterF, *]), rfl⟩
  rcases hx.kd6 hk with e | e | e | e | e | e
  · exact absurd e e27_0
  · exact absurd e e27_1
  · exact absurd e e27_2
  · exact absurd e e27_3
  · exact absurd e e27_4
  · exact absurd e e27_5
set_option maxHeartbeats 4000000 in
set_option maxRecDepth 100000 in
theorem S_X8_firstHolding (X : En) (l : Launch) {h : Hp} {w : Nat} {x : PW} (Ow : h w = some (wB w x)) (hx : LOK x) {hour has but : Int32} : Ct X l mX8_firstHolding [aR w 0, aI hour, aI has, aI but] h (QI (PI0 (firstF x hour has but) h)) := by
  have h10 := hx.1
  refine Ct.intro [some (aR w 0), some (aI hour), some (aI has), some (aI but), none] (by decide +kernel) rfl (Nat.le_of_ble_eq_true rfl) ?_
  refine A_iconst 1 (0) dX8_firstHolding_0 rfl (by decide) ?_
  refine A_istore 3 dX8_firstHolding_1 rfl (by decide) (by first | exact (ast_s (ast_s (ast_s (ast_1 rfl)))) | exact (ast_s (ast_s (ast_s ast_k)))) ?_
  have L3 : ∀ (nq i : Nat)  , (nq + i = x.2.2.1) → (firstN x hour has but nq i = firstF x hour has but) → Av X l mX8_firstHolding 3 [some (aR w 0), some (aI (hour)), some (aI (has)), some (aI (but)), some (aI (nI (i)))] [] h (QI (PI0 (firstF x hour has but) h)) := by
    intro nq
    induction nq using Nat.strongRecOn with
    | _ nq ih =>
    intro i en ee
    refine A_iload 5 dX8_firstHolding_3 rfl rfl ?_
    refine A_aload_n 6 dX8_firstHolding_5 rfl rfl rfl ?_
    refine A_getfield 9 dX8_firstHolding_6 rfl f_X8_22 Ow rfl ?_
    refine A_icmp_ge 41 12 dX8_firstHolding_9 (by decide) rfl (fun c9 => ?_) (fun c9 => ?_)
    · skip
      obtain rfl := (up_ge_T (N := x.2.2.1) c9 rfl (by omega) (by omega)).symm
      refine A_bipush 43 (-9) dX8_firstHolding_41 rfl (by decide) ?_
      refine A_iret dX8_firstHolding_43 rfl ⟨_, rfl, (by rw [← ee, show nq = 0 by omega]; rfl), rfl⟩
    · skip
      have hi := up_ge_F (N := x.2.2.1) c9 rfl (by omega) (by omega)
      obtain ⟨n0, rfl⟩ : ∃ q, nq = q + 1 := ⟨nq - 1, by omega⟩
      refine A_iload_n 13 dX8_firstHolding_12 rfl rfl rfl ?_
      refine A_iconst 14 (1) dX8_firstHolding_13 rfl (by decide) ?_
      refine A_iload 16 dX8_firstHolding_14 rfl rfl ?_
      refine A_ishl 17 dX8_firstHolding_16 rfl ?_
      refine A_iand 18 dX8_firstHolding_17 rfl ?_
      refine A_if_ne 35 21 dX8_firstHolding_18 (by decide) rfl (fun c18 => ?_) (fun c18 => ?_)
      · skip
        try simp only [bI_0, bI_n0, Classical.not_not, Bool.not_eq_false, Bool.true_and, Bool.and_true, decide_eq_true_eq, decide_eq_false_iff_not, dayC_1, dayC_21, dayC_221, dayC_222] at c18
        first | refine A_iincN 38 dX8_firstHolding_35 rfl rfl (by decide) (by first | exact (ast_s (ast_s (ast_s (ast_1 rfl)))) | exact (ast_s (ast_s (ast_s ast_k)))) ?_ | refine A_iinc 38 (1) dX8_firstHolding_35 rfl rfl (by decide) (by decide) (by first | exact (ast_s (ast_s (ast_s (ast_1 rfl)))) | exact (ast_s (ast_s (ast_s ast_k)))) ?_
        refine A_goto 3 dX8_firstHolding_38 (by decide) ?_
        exact ih n0 (Nat.lt_succ_self n0) (i + 1)   (by omega) (Eq.trans (by rw [firstN_s, if_neg (by simp_all [btI])]) ee) 
      · skip
        try simp only [bI_0, bI_n0, Classical.not_not, Bool.not_eq_false, Bool.true_and, Bool.and_true, decide_eq_true_eq, decide_eq_false_iff_not, dayC_1, dayC_21, dayC_221, dayC_222] at c18
        refine A_aload_n 22 dX8_firstHolding_21 rfl rfl rfl ?_
        refine A_iload 24 dX8_firstHolding_22 rfl rfl ?_
        refine A_iload_n 25 dX8_firstHolding_24 rfl rfl rfl ?_
        refine A_iload_n 26 dX8_firstHolding_25 rfl rfl rfl ?_
        refine A_callVI 29 (S_X8_holds X l (by first | assumption | decide | omega | exact Ne.symm (by assumption)) (by first | assumption | decide | omega | exact Ne.symm (by assumption)) (by first | assumption | decide | omega | exact Ne.symm (by assumption))) dX8_firstHolding_26 rfl kX8_holds lk_X8_69 rfl Ow (by decide) rfl (Nat.le_of_ble_eq_true rfl) (fun v_1 h_1 qh_1 => ?_)
        obtain ⟨rfl, rfl⟩ := qh_1
        refine A_if_eq 35 32 dX8_firstHolding_29 (by decide) rfl (fun c29 => ?_) (fun c29 => ?_)
        · skip
          try simp only [bI_0, bI_n0, Classical.not_not, Bool.not_eq_false, Bool.true_and, Bool.and_true, decide_eq_true_eq, decide_eq_false_iff_not, dayC_1, dayC_21, dayC_221, dayC_222] at c29
          first | refine A_iincN 38 dX8_firstHolding_35 rfl rfl (by decide) (by first | exact (ast_s (ast_s (ast_s (ast_1 rfl)))) | exact (ast_s (ast_s (ast_s ast_k)))) ?_ | refine A_iinc 38 (1) dX8_firstHolding_35 rfl rfl (by decide) (by decide) (by first | exact (ast_s (ast_s (ast_s (ast_1 rfl)))) | exact (ast_s (ast_s (ast_s ast_k)))) ?_
          refine A_goto 3 dX8_firstHolding_38 (by decide) ?_
          exact ih n0 (Nat.lt_succ_self n0) (i + 1)   (by omega) (Eq.trans (by rw [firstN_s, if_neg (by simp_all [btI])]) ee) 
        · skip
          try simp only [bI_0, bI_n0, Classical.not_not, Bool.not_eq_false, Bool.true_and, Bool.and_true, decide_eq_true_eq, decide_eq_false_iff_not, dayC_1, dayC_21, dayC_221, dayC_222] at c29
          refine A_iload 34 dX8_firstHolding_32 rfl rfl ?_
          refine A_iret dX8_firstHolding_34 rfl ⟨_, rfl, (by rw [← ee, firstN_s, if_pos (by simp_all [btI])]), rfl⟩
  exact L3 (x.2.2.1) (0)   (by omega) (rfl) 
set_option maxHeartbeats 4000000 in
set_option maxRecDepth 100000 in
theorem S_X1_lawsDone (X : En) (l : Launch) {h : Hp} {c : Nat} {y : PC} (Oc : h c = some (cB c y)) : Ct X l mX1_lawsDone [aR c 0] h (QI (PI0 (y.2.2.1) h)) := by
  refine Ct.intro [some (aR c 0)] (by decide +kernel) rfl (Nat.le_of_ble_eq_true rfl) ?_
  refine A_aload_n 1 dX1_lawsDone_0 rfl rfl rfl ?_
  refine A_getfield 4 dX1_lawsDone_1 rfl f_X1_18 Oc rfl ?_
  refine A_iret dX1_lawsDone_4 rfl ⟨_, rfl, (by first | with_reducible rfl | (simp only [if_true, if_false, ite_true, ite_false, and_true, true_and, and_false, false_and, and_self, or_true, true_or, or_false, false_or, or_self, not_true_eq_false, not_false_eq_true, decide_true, decide_false, Bool.and_true, Bool.true_and, Bool.and_false, Bool.false_and, Bool.and_self, Bool.or_true, Bool.true_or, Bool.or_false, Bool.false_or, Bool.not_true, Bool.not_false, cond_true, cond_false, bI_t, bI_f, Bool.false_eq_true, Bool.true_eq_false, dayC_1, dayC_21, dayC_221, dayC_222]; done) | (simp only [*]; done) | (simp [bI, *]; done) | with_reducible_and_instances rfl), rfl⟩
set_option maxHeartbeats 4000000 in
set_option maxRecDepth 100000 in
theorem S_X1_pocketsAtEnd (X : En) (l : Launch) {h : Hp} {c : Nat} {y : PC} (Oc : h c = some (cB c y)) : Ct X l mX1_pocketsAtEnd [aR c 0] h (QI (PI0 (y.2.2.2) h)) := by
  refine Ct.intro [some (aR c 0)] (by decide +kernel) rfl (Nat.le_of_ble_eq_true rfl) ?_
  refine A_aload_n 1 dX1_pocketsAtEnd_0 rfl rfl rfl ?_
  refine A_getfield 4 dX1_pocketsAtEnd_1 rfl f_X1_22 Oc rfl ?_
  refine A_iret dX1_pocketsAtEnd_4 rfl ⟨_, rfl, (by first | with_reducible rfl | (simp only [if_true, if_false, ite_true, ite_false, and_true, true_and, and_false, false_and, and_self, or_true, true_or, or_false, false_or, or_self, not_true_eq_false, not_false_eq_true, decide_true, decide_false, Bool.and_true, Bool.true_and, Bool.and_false, Bool.false_and, Bool.and_self, Bool.or_true, Bool.true_or, Bool.or_false, Bool.false_or, Bool.not_true, Bool.not_false, cond_true, cond_false, bI_t, bI_f, Bool.false_eq_true, Bool.true_eq_false, dayC_1, dayC_21, dayC_221, dayC_222]; done) | (simp only [*]; done) | (simp [bI, *]; done) | with_reducible_and_instances rfl), rfl⟩
set_option maxHeartbeats 4000000 in
set_option maxRecDepth 100000 in
theorem S_X1_lawIn (X : En) (l : Launch) {h : Hp} {c : Nat} {y : PC} (Oc : h c = some (cB c y)) {j : Nat} (hj : j < 12) : Ct X l mX1_lawIn [aR c 0, aI (nI j)] h (QI (PI0 (y.1 j) h)) := by
  refine Ct.intro [some (aR c 0), some (aI (nI j))] (by decide +kernel) rfl (Nat.le_of_ble_eq_true rfl) ?_
  refine A_aload_n 1 dX1_lawIn_0 rfl rfl rfl ?_
  refine A_getfield 4 dX1_lawIn_1 rfl f_X1_9 Oc rfl ?_
  refine A_iload_n 5 dX1_lawIn_4 rfl rfl rfl ?_
  refine A_callNI 8 (S_X9_cell_X1_0 X l (by first | assumption | decide | omega | exact Ne.symm (by assumption)) (by first | assumption | exact ix_nI (by omega) (by decide) | exact ix_lit _ rfl (by omega) (by decide) | exact ix_lit _ rfl (by decide) (by decide))) dX1_lawIn_5 rfl kX9_cell nk_X1_49 rfl (by decide) rfl (Nat.le_of_ble_eq_true rfl) (fun v_1 h_1 qh_1 => ?_)
  obtain ⟨rfl, rfl⟩ := qh_1
  refine A_iret dX1_lawIn_8 rfl ⟨_, rfl, (by first | with_reducible rfl | (simp only [if_true, if_false, ite_true, ite_false, and_true, true_and, and_false, false_and, and_self, or_true, true_or, or_false, false_or, or_self, not_true_eq_false, not_false_eq_true, decide_true, decide_false, Bool.and_true, Bool.true_and, Bool.and_false, Bool.false_and, Bool.and_self, Bool.or_true, Bool.true_or, Bool.or_false, Bool.false_or, Bool.not_true, Bool.not_false, cond_true, cond_false, bI_t, bI_f, Bool.false_eq_true, Bool.true_eq_false, dayC_1, dayC_21, dayC_221, dayC_222]; done) | (simp only [*]; done) | (simp [bI, *]; done) | with_reducible_and_instances rfl), rfl⟩
set_option maxHeartbeats 4000000 in
set_option maxRecDepth 100000 in
theorem S_X1_pocketsBehind (X : En) (l : Launch) {h : Hp} {c : Nat} {y : PC} (Oc : h c = some (cB c y)) {j : Nat} (hj : j < 12) : Ct X l mX1_pocketsBehind [aR c 0, aI (nI j)] h (QI (PI0 (y.2.1 j) h)) := by
  refine Ct.intro [some (aR c 0), some (aI (nI j))] (by decide +kernel) rfl (Nat.le_of_ble_eq_true rfl) ?_
  refine A_aload_n 1 dX1_pocketsBehind_0 rfl rfl rfl ?_
  refine A_getfield 4 dX1_pocketsBehind_1 rfl f_X1_15 Oc rfl ?_
  refine A_iload_n 5 dX1_pocketsBehind_4 rfl rfl rfl ?_
  refine A_callNI 8 (S_X9_cell_X1_1 X l (by first | assumption | decide | omega | exact Ne.symm (by assumption)) (by first | assumption | exact ix_nI (by omega) (by decide) | exact ix_lit _ rfl (by omega) (by decide) | exact ix_lit _ rfl (by decide) (by decide))) dX1_pocketsBehind_5 rfl kX9_cell nk_X1_49 rfl (by decide) rfl (Nat.le_of_ble_eq_true rfl) (fun v_1 h_1 qh_1 => ?_)
  obtain ⟨rfl, rfl⟩ := qh_1
  refine A_iret dX1_pocketsBehind_8 rfl ⟨_, rfl, (by first | with_reducible rfl | (simp only [if_true, if_false, ite_true, ite_false, and_true, true_and, and_false, false_and, and_self, or_true, true_or, or_false, false_or, or_self, not_true_eq_false, not_false_eq_true, decide_true, decide_false, Bool.and_true, Bool.true_and, Bool.and_false, Bool.false_and, Bool.and_self, Bool.or_true, Bool.true_or, Bool.or_false, Bool.false_or, Bool.not_true, Bool.not_false, cond_true, cond_false, bI_t, bI_f, Bool.false_eq_true, Bool.true_eq_false, dayC_1, dayC_21, dayC_221, dayC_222]; done) | (simp only [*]; done) | (simp [bI, *]; done) | with_reducible_and_instances rfl), rfl⟩
set_option maxHeartbeats 4000000 in
set_option maxRecDepth 100000 in
theorem S_X1_does (X : En) (l : Launch) {h : Hp} {c : Nat} {y : PC} (Oc : h c = some (cB c y)) {i : Int32} : Ct X l mX1_does [aR c 0, aI i] h (QI (PI0 (bI (btI y.2.2.1 i)) h)) := by
  refine Ct.intro [some (aR c 0), some (aI i)] (by decide +kernel) rfl (Nat.le_of_ble_eq_true rfl) ?_
  refine A_aload_n 1 dX1_does_0 rfl rfl rfl ?_
  refine A_getfield 4 dX1_does_1 rfl f_X1_18 Oc rfl ?_
  refine A_iconst 5 (1) dX1_does_4 rfl (by decide) ?_
  refine A_iload_n 6 dX1_does_5 rfl rfl rfl ?_
  refine A_ishl 7 dX1_does_6 rfl ?_
  refine A_iand 8 dX1_does_7 rfl ?_
  refine A_if_eq 15 11 dX1_does_8 (by decide) rfl (fun c8 => ?_) (fun c8 => ?_)
  · skip
    try simp only [bI_0, bI_n0, Classical.not_not, Bool.not_eq_false, Bool.true_and, Bool.and_true, decide_eq_true_eq, decide_eq_false_iff_not, dayC_1, dayC_21, dayC_221, dayC_222] at c8
    refine A_iconst 16 (0) dX1_does_15 rfl (by decide) ?_
    refine A_zret dX1_does_16 rfl (by first | with_reducible exact bI01 _ | with_reducible exact Or.inl rfl | with_reducible exact Or.inr rfl | assumption) ⟨_, rfl, (by first | with_reducible rfl | (simp only [c8, if_true, if_false, ite_true, ite_false, and_true, true_and, and_false, false_and, and_self, or_true, true_or, or_false, false_or, or_self, not_true_eq_false, not_false_eq_true, decide_true, decide_false, Bool.and_true, Bool.true_and, Bool.and_false, Bool.false_and, Bool.and_self, Bool.or_true, Bool.true_or, Bool.or_false, Bool.false_or, Bool.not_true, Bool.not_false, cond_true, cond_false, bI_t, bI_f, Bool.false_eq_true, Bool.true_eq_false, dayC_1, dayC_21, dayC_221, dayC_222, btI]; done) | (simp only [eq_true c8, if_true, if_false, ite_true, ite_false, and_true, true_and, and_false, false_and, and_self, or_true, true_or, or_false, false_or, or_self, not_true_eq_false, not_false_eq_true, decide_true, decide_false, Bool.and_true, Bool.true_and, Bool.and_false, Bool.false_and, Bool.and_self, Bool.or_true, Bool.true_or, Bool.or_false, Bool.false_or, Bool.not_true, Bool.not_false, cond_true, cond_false, bI_t, bI_f, Bool.false_eq_true, Bool.true_eq_false, dayC_1, dayC_21, dayC_221, dayC_222, btI]; done) | (simp only [*]; done) | (simp [bI, *, btI]; done) | with_reducible_and_instances rfl), rfl⟩
  · skip
    try simp only [bI_0, bI_n0, Classical.not_not, Bool.not_eq_false, Bool.true_and, Bool.and_true, decide_eq_true_eq, decide_eq_false_iff_not, dayC_1, dayC_21, dayC_221, dayC_222] at c8
    refine A_iconst 12 (1) dX1_does_11 rfl (by decide) ?_
    refine A_goto 16 dX1_does_12 (by decide) ?_
    refine A_zret dX1_does_16 rfl (by first | with_reducible exact bI01 _ | with_reducible exact Or.inl rfl | with_reducible exact Or.inr rfl | assumption) ⟨_, rfl, (by first | with_reducible rfl | (simp only [c8, if_true, if_false, ite_true, ite_false, and_true, true_and, and_false, false_and, and_self, or_true, true_or, or_false, false_or, or_self, not_true_eq_false, not_false_eq_true, decide_true, decide_false, Bool.and_true, Bool.true_and, Bool.and_false, Bool.false_and, Bool.and_self, Bool.or_true, Bool.true_or, Bool.or_false, Bool.false_or, Bool.not_true, Bool.not_false, cond_true, cond_false, bI_t, bI_f, Bool.false_eq_true, Bool.true_eq_false, dayC_1, dayC_21, dayC_221, dayC_222, btI]; done) | (simp only [*]; done) | (simp [bI, *, btI]; done) | with_reducible_and_instances rfl), rfl⟩
set_option maxHeartbeats 4000000 in
set_option maxRecDepth 100000 in
theorem S_X1_run (X : En) (l : Launch) {h : Hp} {c w : Nat} {x : PW} {y : PC} (Oc : h c = some (cB c y)) (Ow : h w = some (wB w x)) (hx : LOK x) (hc : c ≠ w) {st nv : Int32} : Ct X l mX1_run [aR c 0, aR w 0, aI st, aI nv] h (QI (PI1 (dDone x nv st) h (c) (cB c (dayC x nv st)))) := by
  have h10 := hx.1
  have hf : ∀ i, i ≠ c → h i = h i := fun _ _ => rfl
  refine Ct.intro [some (aR c 0), some (aR w 0), some (aI st), some (aI nv), none, none] (by decide +kernel) rfl (Nat.le_of_ble_eq_true rfl) ?_
  refine A_aload_n 1 dX1_run_0 rfl rfl rfl ?_
  refine A_iconst 2 (0) dX1_run_1 rfl (by decide) ?_
  refine P_X1_2 5 dX1_run_2 rfl fw_X1_18 Oc (fun h_1 nh_1 eh_1 => ?_)
  replace Oc := nh_1
  replace Ow := (eh_1 _ (by first | assumption | exact Ne.symm (by assumption) | omega)).trans Ow
  replace hf : ∀ i, i ≠ c → h_1 i = h i := fun i g0 => (eh_1 i g0).trans (hf i g0)
  refine A_aload_n 6 dX1_run_5 rfl rfl rfl ?_
  refine A_iload_n 7 dX1_run_6 rfl rfl rfl ?_
  refine P_X1_3 10 dX1_run_7 rfl fw_X1_22 Oc (fun h_2 nh_2 eh_2 => ?_)
  replace Oc := nh_2
  replace Ow := (eh_2 _ (by first | assumption | exact Ne.symm (by assumption) | omega)).trans Ow
  replace hf : ∀ i, i ≠ c → h_2 i = h i := fun i g0 => (eh_2 i g0).trans (hf i g0)
  refine A_iconst 11 (0) dX1_run_10 rfl (by decide) ?_
  refine A_istore 13 dX1_run_11 rfl (by decide) (by first | exact (ast_s (ast_s (ast_s (ast_1 rfl)))) | exact (ast_s (ast_s (ast_s ast_k)))) ?_
  have L13 : ∀ (nq i : Nat)  (g13 : Hp) (f g : FI), (nq + i = 12) → ((∀ j, j < i → f j = dLaw x nv st j) ∧ (∀ j, j < i → g j = dHas x nv st j)) → (g13 c = some (cB c (f, g, (dayS x nv st i).1, (dayS x nv st i).2))) → (g13 w = some (wB w x)) → (∀ i, i ≠ c → g13 i = h i) → Av X l mX1_run 13 [some (aR c 0), some (aR w 0), some (aI (st)), some (aI (nv)), some (aI (nI (i))), none] [] g13 (QI (PI1 (dDone x nv st) h (c) (cB c (dayC x nv st)))) := by
    intro nq
    induction nq using Nat.strongRecOn with
    | _ nq ih =>
    intro i g13 f g en hy Oc Ow hf
    refine A_iload 15 dX1_run_13 rfl rfl ?_
    refine A_bipush 17 (12) dX1_run_15 rfl (by decide) ?_
    refine A_icmp_ge 102 20 dX1_run_17 (by decide) rfl (fun c17 => ?_) (fun c17 => ?_)
    · skip
      obtain rfl := (up_ge_T (N := 12) c17 rfl (by omega) (by omega)).symm
      refine Av.extC Oc hy.1 hy.2 (fun h_3 nh_3 eh_3 => ?_)
      replace Oc := nh_3
      replace Ow := (eh_3 _ (by first | assumption | exact Ne.symm (by assumption) | omega)).trans Ow
      replace hf : ∀ i, i ≠ c → h_3 i = h i := fun i g0 => (eh_3 i g0).trans (hf i g0)
      refine A_aload_n 103 dX1_run_102 rfl rfl rfl ?_
      refine A_getfield 106 dX1_run_103 rfl f_X1_18 Oc rfl ?_
      refine A_iret dX1_run_106 rfl ⟨_, rfl, (by rfl), Oc, hf⟩
    · skip
      have hi := up_ge_F (N := 12) c17 rfl (by omega) (by omega)
      obtain ⟨n0, rfl⟩ : ∃ q, nq = q + 1 := ⟨nq - 1, by omega⟩
      refine A_aload_n 21 dX1_run_20 rfl rfl rfl ?_
      refine A_iload 23 dX1_run_21 rfl rfl ?_
      refine A_aload_n 24 dX1_run_23 rfl rfl rfl ?_
      refine A_getfield 27 dX1_run_24 rfl f_X1_22 Oc rfl ?_
      refine A_iload_n 28 dX1_run_27 rfl rfl rfl ?_
      refine A_aload_n 29 dX1_run_28 rfl rfl rfl ?_
      refine A_getfield 32 dX1_run_29 rfl f_X1_18 Oc rfl ?_
      refine A_ior 33 dX1_run_32 rfl ?_
      refine A_callVI 36 (S_X8_firstHolding X l (by first | assumption | decide | omega | exact Ne.symm (by assumption)) (by first | assumption | decide | omega | exact Ne.symm (by assumption))) dX1_run_33 rfl kX8_firstHolding lk_X1_25 rfl Ow (by decide) rfl (Nat.le_of_ble_eq_true rfl) (fun v_4 h_4 qh_4 => ?_)
      obtain ⟨rfl, rfl⟩ := qh_4
      rw [show firstF x (nI i) (dayS x nv st i).2 (nv ||| (dayS x nv st i).1) = dLaw x nv st i from rfl]
      refine A_istore 38 dX1_run_36 rfl (by decide) (by first | exact (ast_s (ast_s (ast_s (ast_s (ast_1 rfl))))) | exact (ast_s (ast_s (ast_s (ast_s ast_k))))) ?_
      refine A_iload 40 dX1_run_38 rfl rfl ?_
      refine A_bipush 42 (-9) dX1_run_40 rfl (by decide) ?_
      refine A_icmp_eq 72 45 dX1_run_42 (by decide) rfl (fun c42 => ?_) (fun c42 => ?_)
      · skip
        try simp only [bI_0, bI_n0, Classical.not_not, Bool.not_eq_false, Bool.true_and, Bool.and_true, decide_eq_true_eq, decide_eq_false_iff_not, dayC_1, dayC_21, dayC_221, dayC_222] at c42
        have eD : dayS x nv st (i + 1) = dayS x nv st i := by rw [dayS_s, if_pos c42]
        replace Oc : g13 c = some (cB c (f, g, (dayS x nv st (i + 1)).1, (dayS x nv st (i + 1)).2)) := by rw [eD]; exact Oc
        refine A_aload_n 73 dX1_run_72 rfl rfl rfl ?_
        refine A_getfield 76 dX1_run_73 rfl f_X1_9 Oc rfl ?_
        refine A_iload 78 dX1_run_76 rfl rfl ?_
        refine A_iload 80 dX1_run_78 rfl rfl ?_
        refine A_callNV 83 (S_X9_put_X1_0 X l (by first | assumption | decide | omega | exact Ne.symm (by assumption)) (by first | assumption | exact ix_nI (by omega) (by decide) | exact ix_lit _ rfl (by omega) (by decide) | exact ix_lit _ rfl (by decide) (by decide))) dX1_run_80 rfl kX9_put nk_X1_35 rfl (by decide) rfl (Nat.le_of_ble_eq_true rfl) (fun h_5 qh_5 => ?_)
        obtain ⟨n0h_5, eh_5⟩ := qh_5
        replace Oc := n0h_5
        replace Ow := (eh_5 _ (by first | assumption | exact Ne.symm (by assumption) | omega)).trans Ow
        replace hf : ∀ i, i ≠ c → h_5 i = h i := fun i g0 => (eh_5 i g0).trans (hf i g0)
        refine A_aload_n 84 dX1_run_83 rfl rfl rfl ?_
        refine A_getfield 87 dX1_run_84 rfl f_X1_15 Oc rfl ?_
        refine A_iload 89 dX1_run_87 rfl rfl ?_
        refine A_aload_n 90 dX1_run_89 rfl rfl rfl ?_
        refine A_getfield 93 dX1_run_90 rfl f_X1_22 Oc rfl ?_
        refine A_callNV 96 (S_X9_put_X1_1 X l (by first | assumption | decide | omega | exact Ne.symm (by assumption)) (by first | assumption | exact ix_nI (by omega) (by decide) | exact ix_lit _ rfl (by omega) (by decide) | exact ix_lit _ rfl (by decide) (by decide))) dX1_run_93 rfl kX9_put nk_X1_35 rfl (by decide) rfl (Nat.le_of_ble_eq_true rfl) (fun h_6 qh_6 => ?_)
        obtain ⟨n0h_6, eh_6⟩ := qh_6
        replace Oc := n0h_6
        replace Ow := (eh_6 _ (by first | assumption | exact Ne.symm (by assumption) | omega)).trans Ow
        replace hf : ∀ i, i ≠ c → h_6 i = h i := fun i g0 => (eh_6 i g0).trans (hf i g0)
        first | refine A_iincN 99 dX1_run_96 rfl rfl (by decide) (by first | exact (ast_s (ast_s (ast_s (ast_1 rfl)))) | exact (ast_s (ast_s (ast_s ast_k)))) ?_ | refine A_iinc 99 (1) dX1_run_96 rfl rfl (by decide) (by decide) (by first | exact (ast_s (ast_s (ast_s (ast_1 rfl)))) | exact (ast_s (ast_s (ast_s ast_k)))) ?_
        refine A_goto 13 dX1_run_99 (by decide) ?_
        exact A_weak (ih n0 (Nat.lt_succ_self n0) (i + 1)  h_6 _ _ (by omega)  (⟨up_eq hy.1 rfl, up_eq hy.2 rfl⟩) Oc Ow hf) (sub_s (sub_s (sub_s (sub_s (sub_s (sub_n sub_nil))))))
      · skip
        try simp only [bI_0, bI_n0, Classical.not_not, Bool.not_eq_false, Bool.true_and, Bool.and_true, decide_eq_true_eq, decide_eq_false_iff_not, dayC_1, dayC_21, dayC_221, dayC_222] at c42
        obtain ⟨k, hk, ek0⟩ := (firstF_or x (nI i) (dayS x nv st i).2 (nv ||| (dayS x nv st i).1)).resolve_left c42
        have ek : dLaw x nv st i = nI k := ek0
        rw [ek]
        refine A_aload_n 46 dX1_run_45 rfl rfl rfl ?_
        refine A_aload_n 47 dX1_run_46 rfl rfl rfl ?_
        refine A_iload 49 dX1_run_47 rfl rfl ?_
        refine A_aload_n 50 dX1_run_49 rfl rfl rfl ?_
        refine A_getfield 53 dX1_run_50 rfl f_X1_22 Oc rfl ?_
        refine A_callVI 56 (S_X8_pocketsAfter X l (by first | assumption | decide | omega | exact Ne.symm (by assumption)) (by first | assumption | decide | omega | exact Ne.symm (by assumption)) (by first | assumption | decide | omega | exact Ne.symm (by assumption))) dX1_run_53 rfl kX8_pocketsAfter lk_X1_31 rfl Ow (by decide) rfl (Nat.le_of_ble_eq_true rfl) (fun v_7 h_7 qh_7 => ?_)
        obtain ⟨rfl, rfl⟩ := qh_7
        refine P_X1_3 59 dX1_run_56 rfl fw_X1_22 Oc (fun h_8 nh_8 eh_8 => ?_)
        replace Oc := nh_8
        replace Ow := (eh_8 _ (by first | assumption | exact Ne.symm (by assumption) | omega)).trans Ow
        replace hf : ∀ i, i ≠ c → h_8 i = h i := fun i g0 => (eh_8 i g0).trans (hf i g0)
        refine A_aload_n 60 dX1_run_59 rfl rfl rfl ?_
        refine A_dup 61 dX1_run_60 rfl rfl ?_
        refine A_getfield 64 dX1_run_61 rfl f_X1_18 Oc rfl ?_
        refine A_iconst 65 (1) dX1_run_64 rfl (by decide) ?_
        refine A_iload 67 dX1_run_65 rfl rfl ?_
        refine A_ishl 68 dX1_run_67 rfl ?_
        refine A_ior 69 dX1_run_68 rfl ?_
        refine P_X1_2 72 dX1_run_69 rfl fw_X1_18 Oc (fun h_9 nh_9 eh_9 => ?_)
        replace Oc := nh_9
        replace Ow := (eh_9 _ (by first | assumption | exact Ne.symm (by assumption) | omega)).trans Ow
        replace hf : ∀ i, i ≠ c → h_9 i = h i := fun i g0 => (eh_9 i g0).trans (hf i g0)
        have eD : dayS x nv st (i + 1) = ((dayS x nv st i).1 ||| 1 <<< (nI k &&& 31), afterF x k (dayS x nv st i).2) := by
          rw [dayS_s, if_neg c42, ek, nI_clamp (by omega)]; rfl
        replace Oc : h_9 c = some (cB c (f, g, (dayS x nv st (i + 1)).1, (dayS x nv st (i + 1)).2)) := by rw [eD]; exact Oc
        rw [← ek]
        refine A_aload_n 73 dX1_run_72 rfl rfl rfl ?_
        refine A_getfield 76 dX1_run_73 rfl f_X1_9 Oc rfl ?_
        refine A_iload 78 dX1_run_76 rfl rfl ?_
        refine A_iload 80 dX1_run_78 rfl rfl ?_
        refine A_callNV 83 (S_X9_put_X1_0 X l (by first | assumption | decide | omega | exact Ne.symm (by assumption)) (by first | assumption | exact ix_nI (by omega) (by decide) | exact ix_lit _ rfl (by omega) (by decide) | exact ix_lit _ rfl (by decide) (by decide))) dX1_run_80 rfl kX9_put nk_X1_35 rfl (by decide) rfl (Nat.le_of_ble_eq_true rfl) (fun h_10 qh_10 => ?_)
        obtain ⟨n0h_10, eh_10⟩ := qh_10
        replace Oc := n0h_10
        replace Ow := (eh_10 _ (by first | assumption | exact Ne.symm (by assumption) | omega)).trans Ow
        replace hf : ∀ i, i ≠ c → h_10 i = h i := fun i g0 => (eh_10 i g0).trans (hf i g0)
        refine A_aload_n 84 dX1_run_83 rfl rfl rfl ?_
        refine A_getfield 87 dX1_run_84 rfl f_X1_15 Oc rfl ?_
        refine A_iload 89 dX1_run_87 rfl rfl ?_
        refine A_aload_n 90 dX1_run_89 rfl rfl rfl ?_
        refine A_getfield 93 dX1_run_90 rfl f_X1_22 Oc rfl ?_
        refine A_callNV 96 (S_X9_put_X1_1 X l (by first | assumption | decide | omega | exact Ne.symm (by assumption)) (by first | assumption | exact ix_nI (by omega) (by decide) | exact ix_lit _ rfl (by omega) (by decide) | exact ix_lit _ rfl (by decide) (by decide))) dX1_run_93 rfl kX9_put nk_X1_35 rfl (by decide) rfl (Nat.le_of_ble_eq_true rfl) (fun h_11 qh_11 => ?_)
        obtain ⟨n0h_11, eh_11⟩ := qh_11
        replace Oc := n0h_11
        replace Ow := (eh_11 _ (by first | assumption | exact Ne.symm (by assumption) | omega)).trans Ow
        replace hf : ∀ i, i ≠ c → h_11 i = h i := fun i g0 => (eh_11 i g0).trans (hf i g0)
        first | refine A_iincN 99 dX1_run_96 rfl rfl (by decide) (by first | exact (ast_s (ast_s (ast_s (ast_1 rfl)))) | exact (ast_s (ast_s (ast_s ast_k)))) ?_ | refine A_iinc 99 (1) dX1_run_96 rfl rfl (by decide) (by decide) (by first | exact (ast_s (ast_s (ast_s (ast_1 rfl)))) | exact (ast_s (ast_s (ast_s ast_k)))) ?_
        refine A_goto 13 dX1_run_99 (by decide) ?_
        exact A_weak (ih n0 (Nat.lt_succ_self n0) (i + 1)  h_11 _ _ (by omega)  (⟨up_eq hy.1 rfl, up_eq hy.2 rfl⟩) Oc Ow hf) (sub_s (sub_s (sub_s (sub_s (sub_s (sub_n sub_nil))))))
  exact A_weak (L13 (12) (0)  h_2 (_) (_) (by omega)  (⟨fun j hj => absurd hj (Nat.not_lt_zero j), fun j hj => absurd hj (Nat.not_lt_zero j)⟩) Oc Ow hf) (sub_s (sub_s (sub_s (sub_s (sub_s (sub_n sub_nil))))))
set_option maxHeartbeats 4000000 in
set_option maxRecDepth 100000 in
theorem S_X1_countDone (X : En) (l : Launch) {h : Hp} {c w : Nat} {x : PW} {y : PC} (Oc : h c = some (cB c y)) (Ow : h w = some (wB w x)) (hx : LOK x) (hc : c ≠ w) {st : Int32} : Ct X l mX1_countDone [aR c 0, aR w 0, aI st] h (QI (PI1 (DN x st) h (c) (cB c (dayC x 0 st)))) := by
  have hf : ∀ i, i ≠ c → h i = h i := fun _ _ => rfl
  refine Ct.intro [some (aR c 0), some (aR w 0), some (aI st)] (by decide +kernel) rfl (Nat.le_of_ble_eq_true rfl) ?_
  refine A_aload_n 1 dX1_countDone_0 rfl rfl rfl ?_
  refine A_aload_n 2 dX1_countDone_1 rfl rfl rfl ?_
  refine A_iload_n 3 dX1_countDone_2 rfl rfl rfl ?_
  refine A_iconst 4 (0) dX1_countDone_3 rfl (by decide) ?_
  refine A_callVI 7 (S_X1_run X l (by first | assumption | decide | omega | exact Ne.symm (by assumption)) (by first | assumption | decide | omega | exact Ne.symm (by assumption)) (by first | assumption | decide | omega | exact Ne.symm (by assumption)) (by first | assumption | decide | omega | exact Ne.symm (by assumption))) dX1_countDone_4 rfl kX1_run lk_X1_39 rfl Oc (by decide) rfl (Nat.le_of_ble_eq_true rfl) (fun v_1 h_1 qh_1 => ?_)
  obtain ⟨rfl, n0h_1, eh_1⟩ := qh_1
  replace Oc := n0h_1
  replace Ow := (eh_1 _ (by first | assumption | exact Ne.symm (by assumption) | omega)).trans Ow
  replace hf : ∀ i, i ≠ c → h_1 i = h i := fun i g0 => (eh_1 i g0).trans (hf i g0)
  refine A_callSI 10 (S_J6_bitCount_0f7a4 X l) dX1_countDone_7 rfl kJ6_bitCount_0f7a4 lk_X1_43 rfl (by decide) rfl (Nat.le_of_ble_eq_true rfl) (fun v_2 h_2 qh_2 => ?_)
  obtain ⟨rfl, rfl⟩ := qh_2
  refine A_iret dX1_countDone_10 rfl ⟨_, rfl, (by rfl), Oc, hf⟩
set_option maxHeartbeats 4000000 in
set_option maxRecDepth 100000 in
theorem S_X1_hourOf (X : En) (l : Launch) {h : Hp} {c : Nat} {y : PC} (Oc : h c = some (cB c y)) {i : Int32} : Ct X l mX1_hourOf [aR c 0, aI i] h (QI (PI0 (hourF y.1 i) h)) := by
  refine Ct.intro [some (aR c 0), some (aI i), none] (by decide +kernel) rfl (Nat.le_of_ble_eq_true rfl) ?_
  refine A_iconst 1 (0) dX1_hourOf_0 rfl (by decide) ?_
  refine A_istore_n 2 dX1_hourOf_1 rfl rfl (by decide) (by first | exact (ast_s (ast_1 rfl)) | exact (ast_s ast_k)) ?_
  have L2 : ∀ (nq k : Nat)  , (nq + k = 12) → (hourN y.1 i nq k = hourF y.1 i) → Av X l mX1_hourOf 2 [some (aR c 0), some (aI (i)), some (aI (nI (k)))] [] h (QI (PI0 (hourF y.1 i) h)) := by
    intro nq
    induction nq using Nat.strongRecOn with
    | _ nq ih =>
    intro k en ee
    refine A_iload_n 3 dX1_hourOf_2 rfl rfl rfl ?_
    refine A_bipush 5 (12) dX1_hourOf_3 rfl (by decide) ?_
    refine A_icmp_ge 25 8 dX1_hourOf_5 (by decide) rfl (fun c5 => ?_) (fun c5 => ?_)
    · skip
      obtain rfl := (up_ge_T (N := 12) c5 rfl (by omega) (by omega)).symm
      refine A_bipush 27 (-9) dX1_hourOf_25 rfl (by decide) ?_
      refine A_iret dX1_hourOf_27 rfl ⟨_, rfl, (by rw [← ee, show nq = 0 by omega]; rfl), rfl⟩
    · skip
      have hi := up_ge_F (N := 12) c5 rfl (by omega) (by omega)
      obtain ⟨n0, rfl⟩ : ∃ q, nq = q + 1 := ⟨nq - 1, by omega⟩
      refine A_aload_n 9 dX1_hourOf_8 rfl rfl rfl ?_
      refine A_iload_n 10 dX1_hourOf_9 rfl rfl rfl ?_
      refine A_callVI 13 (S_X1_lawIn X l (by first | assumption | decide | omega | exact Ne.symm (by assumption)) (by first | assumption | decide | omega | exact Ne.symm (by assumption))) dX1_hourOf_10 rfl kX1_lawIn lk_X1_53 rfl Oc (by decide) rfl (Nat.le_of_ble_eq_true rfl) (fun v_1 h_1 qh_1 => ?_)
      obtain ⟨rfl, rfl⟩ := qh_1
      refine A_iload_n 14 dX1_hourOf_13 rfl rfl rfl ?_
      refine A_icmp_ne 19 17 dX1_hourOf_14 (by decide) rfl (fun c14 => ?_) (fun c14 => ?_)
      · skip
        try simp only [bI_0, bI_n0, Classical.not_not, Bool.not_eq_false, Bool.true_and, Bool.and_true, decide_eq_true_eq, decide_eq_false_iff_not, dayC_1, dayC_21, dayC_221, dayC_222] at c14
        first | refine A_iincN 22 dX1_hourOf_19 rfl rfl (by decide) (by first | exact (ast_s (ast_1 rfl)) | exact (ast_s ast_k)) ?_ | refine A_iinc 22 (1) dX1_hourOf_19 rfl rfl (by decide) (by decide) (by first | exact (ast_s (ast_1 rfl)) | exact (ast_s ast_k)) ?_
        refine A_goto 2 dX1_hourOf_22 (by decide) ?_
        exact ih n0 (Nat.lt_succ_self n0) (k + 1)   (by omega) (Eq.trans (by rw [hourN_s, if_neg (by assumption)]) ee) 
      · skip
        try simp only [bI_0, bI_n0, Classical.not_not, Bool.not_eq_false, Bool.true_and, Bool.and_true, decide_eq_true_eq, decide_eq_false_iff_not, dayC_1, dayC_21, dayC_221, dayC_222] at c14
        refine A_iload_n 18 dX1_hourOf_17 rfl rfl rfl ?_
        refine A_iret dX1_hourOf_18 rfl ⟨_, rfl, (by rw [← ee, hourN_s, if_pos (by assumption)]), rfl⟩
  exact L2 (12) (0)   (by omega) (rfl) 
set_option maxHeartbeats 4000000 in
set_option maxRecDepth 100000 in
theorem S_X1_firstIdle (X : En) (l : Launch) {h : Hp} {c : Nat} {y : PC} (Oc : h c = some (cB c y)) : Ct X l mX1_firstIdle [aR c 0] h (QI (PI0 (hourF y.1 (-9)) h)) := by
  refine Ct.intro [some (aR c 0)] (by decide +kernel) rfl (Nat.le_of_ble_eq_true rfl) ?_
  refine A_aload_n 1 dX1_firstIdle_0 rfl rfl rfl ?_
  refine A_bipush 3 (-9) dX1_firstIdle_1 rfl (by decide) ?_
  refine A_callVI 6 (S_X1_hourOf X l (by first | assumption | decide | omega | exact Ne.symm (by assumption))) dX1_firstIdle_3 rfl kX1_hourOf lk_X1_56 rfl Oc (by decide) rfl (Nat.le_of_ble_eq_true rfl) (fun v_1 h_1 qh_1 => ?_)
  obtain ⟨rfl, rfl⟩ := qh_1
  refine A_iret dX1_firstIdle_6 rfl ⟨_, rfl, (by first | with_reducible rfl | (simp only [if_true, if_false, ite_true, ite_false, and_true, true_and, and_false, false_and, and_self, or_true, true_or, or_false, false_or, or_self, not_true_eq_false, not_false_eq_true, decide_true, decide_false, Bool.and_true, Bool.true_and, Bool.and_false, Bool.false_and, Bool.and_self, Bool.or_true, Bool.true_or, Bool.or_false, Bool.false_or, Bool.not_true, Bool.not_false, cond_true, cond_false, bI_t, bI_f, Bool.false_eq_true, Bool.true_eq_false, dayC_1, dayC_21, dayC_221, dayC_222]; done) | (simp only [*]; done) | (simp [bI, *]; done) | with_reducible_and_instances rfl), rfl⟩
set_option maxHeartbeats 4000000 in
set_option maxRecDepth 100000 in
theorem S_X1_isHourForHourAs (X : En) (l : Launch) {h : Hp} {c c2 : Nat} {y y2 : PC} (Oc : h c = some (cB c y)) (Oc2 : h c2 = some (cB c2 y2)) : Ct X l mX1_isHourForHourAs [aR c 0, aR c2 0] h (QI (PI0 (bI (sameN y.1 y2.1 12)) h)) := by
  refine Ct.intro [some (aR c 0), some (aR c2 0), none] (by decide +kernel) rfl (Nat.le_of_ble_eq_true rfl) ?_
  refine A_iconst 1 (0) dX1_isHourForHourAs_0 rfl (by decide) ?_
  refine A_istore_n 2 dX1_isHourForHourAs_1 rfl rfl (by decide) (by first | exact (ast_s (ast_1 rfl)) | exact (ast_s ast_k)) ?_
  have L2 : ∀ (nq k : Nat)  , (nq + k = 12) → (sameN y.1 y2.1 k = true) → Av X l mX1_isHourForHourAs 2 [some (aR c 0), some (aR c2 0), some (aI (nI (k)))] [] h (QI (PI0 (bI (sameN y.1 y2.1 12)) h)) := by
    intro nq
    induction nq using Nat.strongRecOn with
    | _ nq ih =>
    intro k en ee
    refine A_iload_n 3 dX1_isHourForHourAs_2 rfl rfl rfl ?_
    refine A_bipush 5 (12) dX1_isHourForHourAs_3 rfl (by decide) ?_
    refine A_icmp_ge 29 8 dX1_isHourForHourAs_5 (by decide) rfl (fun c5 => ?_) (fun c5 => ?_)
    · skip
      obtain rfl := (up_ge_T (N := 12) c5 rfl (by omega) (by omega)).symm
      refine A_iconst 30 (1) dX1_isHourForHourAs_29 rfl (by decide) ?_
      refine A_zret dX1_isHourForHourAs_30 rfl (by first | with_reducible exact bI01 _ | with_reducible exact Or.inl rfl | with_reducible exact Or.inr rfl | assumption) ⟨_, rfl, (by rw [ee]; rfl), rfl⟩
    · skip
      have hi := up_ge_F (N := 12) c5 rfl (by omega) (by omega)
      obtain ⟨n0, rfl⟩ : ∃ q, nq = q + 1 := ⟨nq - 1, by omega⟩
      refine A_aload_n 9 dX1_isHourForHourAs_8 rfl rfl rfl ?_
      refine A_iload_n 10 dX1_isHourForHourAs_9 rfl rfl rfl ?_
      refine A_callVI 13 (S_X1_lawIn X l (by first | assumption | decide | omega | exact Ne.symm (by assumption)) (by first | assumption | decide | omega | exact Ne.symm (by assumption))) dX1_isHourForHourAs_10 rfl kX1_lawIn lk_X1_53 rfl Oc (by decide) rfl (Nat.le_of_ble_eq_true rfl) (fun v_1 h_1 qh_1 => ?_)
      obtain ⟨rfl, rfl⟩ := qh_1
      refine A_aload_n 14 dX1_isHourForHourAs_13 rfl rfl rfl ?_
      refine A_iload_n 15 dX1_isHourForHourAs_14 rfl rfl rfl ?_
      refine A_callVI 18 (S_X1_lawIn X l (by first | assumption | decide | omega | exact Ne.symm (by assumption)) (by first | assumption | decide | omega | exact Ne.symm (by assumption))) dX1_isHourForHourAs_15 rfl kX1_lawIn lk_X1_53 rfl Oc2 (by decide) rfl (Nat.le_of_ble_eq_true rfl) (fun v_2 h_2 qh_2 => ?_)
      obtain ⟨rfl, rfl⟩ := qh_2
      refine A_icmp_eq 23 21 dX1_isHourForHourAs_18 (by decide) rfl (fun c18 => ?_) (fun c18 => ?_)
      · skip
        try simp only [bI_0, bI_n0, Classical.not_not, Bool.not_eq_false, Bool.true_and, Bool.and_true, decide_eq_true_eq, decide_eq_false_iff_not, dayC_1, dayC_21, dayC_221, dayC_222] at c18
        first | refine A_iincN 26 dX1_isHourForHourAs_23 rfl rfl (by decide) (by first | exact (ast_s (ast_1 rfl)) | exact (ast_s ast_k)) ?_ | refine A_iinc 26 (1) dX1_isHourForHourAs_23 rfl rfl (by decide) (by decide) (by first | exact (ast_s (ast_1 rfl)) | exact (ast_s ast_k)) ?_
        refine A_goto 2 dX1_isHourForHourAs_26 (by decide) ?_
        exact ih n0 (Nat.lt_succ_self n0) (k + 1)   (by omega) (by simp_all [sameN]) 
      · skip
        try simp only [bI_0, bI_n0, Classical.not_not, Bool.not_eq_false, Bool.true_and, Bool.and_true, decide_eq_true_eq, decide_eq_false_iff_not, dayC_1, dayC_21, dayC_221, dayC_222] at c18
        refine A_iconst 22 (0) dX1_isHourForHourAs_21 rfl (by decide) ?_
        refine A_zret dX1_isHourForHourAs_22 rfl (by first | with_reducible exact bI01 _ | with_reducible exact Or.inl rfl | with_reducible exact Or.inr rfl | assumption) ⟨_, rfl, (by rw [sameN_no hi c18]; rfl), rfl⟩
  exact L2 (12) (0)   (by omega) (rfl) 
set_option maxHeartbeats 4000000 in
set_option maxRecDepth 100000 in
theorem S_X8_thingsInPockets (X : En) (l : Launch) {h : Hp} {w : Nat} {x : PW} (Ow : h w = some (wB w x)) (hp : x.2.2.2.1 ≤ 6) : Ct X l mX8_thingsInPockets [aR w 0] h (QI (PI0 (foldN (fun p t => t + bitC (x.2.1 p)) 0 x.2.2.2.1) h)) := by
  refine Ct.intro [some (aR w 0), none, none] (by decide +kernel) rfl (Nat.le_of_ble_eq_true rfl) ?_
  refine A_iconst 1 (0) dX8_thingsInPockets_0 rfl (by decide) ?_
  refine A_istore_n 2 dX8_thingsInPockets_1 rfl rfl (by decide) (by first | exact (ast_1 rfl) | exact ast_k) ?_
  refine A_iconst 3 (0) dX8_thingsInPockets_2 rfl (by decide) ?_
  refine A_istore_n 4 dX8_thingsInPockets_3 rfl rfl (by decide) (by first | exact (ast_s (ast_1 rfl)) | exact (ast_s ast_k)) ?_
  have L4 : ∀ (nq i : Nat) (u : Int32) , (nq + i = x.2.2.2.1) → (foldN (fun p t => t + bitC (x.2.1 p)) (0) i = (u)) → Av X l mX8_thingsInPockets 4 [some (aR w 0), some (aI (u)), some (aI (nI (i)))] [] h (QI (PI0 (foldN (fun p t => t + bitC (x.2.1 p)) 0 x.2.2.2.1) h)) := by
    intro nq
    induction nq using Nat.strongRecOn with
    | _ nq ih =>
    intro i u en ee
    refine A_iload_n 5 dX8_thingsInPockets_4 rfl rfl rfl ?_
    refine A_aload_n 6 dX8_thingsInPockets_5 rfl rfl rfl ?_
    refine A_getfield 9 dX8_thingsInPockets_6 rfl f_X8_26 Ow rfl ?_
    refine A_icmp_ge 29 12 dX8_thingsInPockets_9 (by decide) rfl (fun c9 => ?_) (fun c9 => ?_)
    · skip
      obtain rfl := (up_ge_T (N := x.2.2.2.1) c9 rfl (by omega) (by omega)).symm
      refine A_iload_n 30 dX8_thingsInPockets_29 rfl rfl rfl ?_
      refine A_iret dX8_thingsInPockets_30 rfl ⟨_, rfl, (by first | with_reducible rfl | (simp only [if_true, if_false, ite_true, ite_false, and_true, true_and, and_false, false_and, and_self, or_true, true_or, or_false, false_or, or_self, not_true_eq_false, not_false_eq_true, decide_true, decide_false, Bool.and_true, Bool.true_and, Bool.and_false, Bool.false_and, Bool.and_self, Bool.or_true, Bool.true_or, Bool.or_false, Bool.false_or, Bool.not_true, Bool.not_false, cond_true, cond_false, bI_t, bI_f, Bool.false_eq_true, Bool.true_eq_false, dayC_1, dayC_21, dayC_221, dayC_222]; done) | (simp only [*]; done) | (simp [bI, *]; done) | with_reducible_and_instances rfl), rfl⟩
    · skip
      have hi := up_ge_F (N := x.2.2.2.1) c9 rfl (by omega) (by omega)
      obtain ⟨n0, rfl⟩ : ∃ q, nq = q + 1 := ⟨nq - 1, by omega⟩
      refine A_iload_n 13 dX8_thingsInPockets_12 rfl rfl rfl ?_
      refine A_aload_n 14 dX8_thingsInPockets_13 rfl rfl rfl ?_
      refine A_iload_n 15 dX8_thingsInPockets_14 rfl rfl rfl ?_
      refine A_callVI 18 (S_X8_pocketsOf X l (by first | assumption | decide | omega | exact Ne.symm (by assumption)) (by first | assumption | decide | omega | exact Ne.symm (by assumption))) dX8_thingsInPockets_15 rfl kX8_pocketsOf lk_X8_43 rfl Ow (by decide) rfl (Nat.le_of_ble_eq_true rfl) (fun v_1 h_1 qh_1 => ?_)
      obtain ⟨rfl, rfl⟩ := qh_1
      refine A_callSI 21 (S_J6_bitCount_0f7a4 X l) dX8_thingsInPockets_18 rfl kJ6_bitCount_0f7a4 lk_X8_47 rfl (by decide) rfl (Nat.le_of_ble_eq_true rfl) (fun v_2 h_2 qh_2 => ?_)
      obtain ⟨rfl, rfl⟩ := qh_2
      refine A_iadd 22 dX8_thingsInPockets_21 rfl ?_
      refine A_istore_n 23 dX8_thingsInPockets_22 rfl rfl (by decide) (by first | exact (ast_1 rfl) | exact ast_k) ?_
      first | refine A_iincN 26 dX8_thingsInPockets_23 rfl rfl (by decide) (by first | exact (ast_s (ast_1 rfl)) | exact (ast_s ast_k)) ?_ | refine A_iinc 26 (1) dX8_thingsInPockets_23 rfl rfl (by decide) (by decide) (by first | exact (ast_s (ast_1 rfl)) | exact (ast_s ast_k)) ?_
      refine A_goto 4 dX8_thingsInPockets_26 (by decide) ?_
      exact ih n0 (Nat.lt_succ_self n0) (i + 1) _  (by omega) ((foldN_s (fun p t => t + bitC (x.2.1 p)) (0) i).trans ((congrArg ((fun p t => t + bitC (x.2.1 p)) i) ee).trans (by first | with_reducible rfl | (simp only [if_true, if_false, ite_true, ite_false, and_true, true_and, and_false, false_and, and_self, or_true, true_or, or_false, false_or, or_self, not_true_eq_false, not_false_eq_true, decide_true, decide_false, Bool.and_true, Bool.true_and, Bool.and_false, Bool.false_and, Bool.and_self, Bool.or_true, Bool.true_or, Bool.or_false, Bool.false_or, Bool.not_true, Bool.not_false, cond_true, cond_false, bI_t, bI_f, Bool.false_eq_true, Bool.true_eq_false, dayC_1, dayC_21, dayC_221, dayC_222]; done) | (simp [*]; done) | with_reducible_and_instances rfl))) 
  exact L4 (x.2.2.2.1) (0) (_)  (by omega) (rfl) 
set_option maxHeartbeats 4000000 in
set_option maxRecDepth 100000 in
theorem S_X9_copyCells_0 (X : En) (l : Launch) {h : Hp} {w w2 : Nat} {x x2 : PW} (Ow : h w = some (wB w x)) (Ow2 : h w2 = some (wB w2 x2)) (hw : w2 ≠ w) : Ct X l mX9_copyCells [aR w2 1, aR w 1] h (QV (PV1 h (w) (wB w (x2.1, x.2)))) := by
  have hf : ∀ i, i ≠ w → h i = h i := fun _ _ => rfl
  refine Ct.intro [some (aR w2 1), some (aR w 1)] (by decide +kernel) rfl (Nat.le_of_ble_eq_true rfl) ?_
  refine A_aload_n 1 dX9_copyCells_0 rfl rfl rfl ?_
  refine A_ifnull 8 4 dX9_copyCells_1 (by decide) rfl (fun c1 => ?_) (fun c1 => ?_)
  · skip
    exact absurd c1 (by simp)
  · skip
    refine A_aload_n 5 dX9_copyCells_4 rfl rfl rfl ?_
    refine A_ifnonnull 9 8 dX9_copyCells_5 (by decide) rfl (fun c5 => ?_) (fun c5 => ?_)
    · skip
      refine A_aload_n 10 dX9_copyCells_9 rfl rfl rfl ?_
      refine A_iconst 11 (0) dX9_copyCells_10 rfl (by decide) ?_
      refine A_aload_n 12 dX9_copyCells_11 rfl rfl rfl ?_
      refine A_iconst 13 (0) dX9_copyCells_12 rfl (by decide) ?_
      refine A_aload_n 14 dX9_copyCells_13 rfl rfl rfl ?_
      refine A_arraylength 15 dX9_copyCells_14 rfl Ow2 rfl (Nat.le_of_ble_eq_true rfl) rfl ?_
      refine A_aload_n 16 dX9_copyCells_15 rfl rfl rfl ?_
      refine A_arraylength 17 dX9_copyCells_16 rfl Ow rfl (Nat.le_of_ble_eq_true rfl) rfl ?_
      refine A_min 20 dX9_copyCells_17 rfl lk_X9_375 mm_min_s mm_i mm_min_c ⟨by decide, Nat.le_of_ble_eq_true rfl⟩ ?_
      refine A_copy 23 dX9_copyCells_20 rfl lk_X9_380 ac_n ac_s ac_i Ow2 rfl Ow rfl rfl rfl (by first | rfl | decide) (by decide) ⟨by decide, Nat.le_of_ble_eq_true rfl⟩ (fun h_1 nh_1 eh_1 => ?_)
      replace Ow := nh_1
      replace Ow2 := (eh_1 _ (by first | assumption | exact Ne.symm (by assumption) | omega)).trans Ow2
      replace hf : ∀ i, i ≠ w → h_1 i = h i := fun i g0 => (eh_1 i g0).trans (hf i g0)
      refine A_vret dX9_copyCells_23 rfl ⟨rfl, Ow, hf⟩
    · skip
      exact absurd c5 (by simp)
set_option maxHeartbeats 4000000 in
set_option maxRecDepth 100000 in
theorem S_X9_copyCells_1 (X : En) (l : Launch) {h : Hp} {w w2 : Nat} {x x2 : PW} (Ow : h w = some (wB w x)) (Ow2 : h w2 = some (wB w2 x2)) (hw : w2 ≠ w) : Ct X l mX9_copyCells [aR w2 2, aR w 2] h (QV (PV1 h (w) (wB w (x.1, x2.2.1, x.2.2)))) := by
  have hf : ∀ i, i ≠ w → h i = h i := fun _ _ => rfl
  refine Ct.intro [some (aR w2 2), some (aR w 2)] (by decide +kernel) rfl (Nat.le_of_ble_eq_true rfl) ?_
  refine A_aload_n 1 dX9_copyCells_0 rfl rfl rfl ?_
  refine A_ifnull 8 4 dX9_copyCells_1 (by decide) rfl (fun c1 => ?_) (fun c1 => ?_)
  · skip
    exact absurd c1 (by simp)
  · skip
    refine A_aload_n 5 dX9_copyCells_4 rfl rfl rfl ?_
    refine A_ifnonnull 9 8 dX9_copyCells_5 (by decide) rfl (fun c5 => ?_) (fun c5 => ?_)
    · skip
      refine A_aload_n 10 dX9_copyCells_9 rfl rfl rfl ?_
      refine A_iconst 11 (0) dX9_copyCells_10 rfl (by decide) ?_
      refine A_aload_n 12 dX9_copyCells_11 rfl rfl rfl ?_
      refine A_iconst 13 (0) dX9_copyCells_12 rfl (by decide) ?_
      refine A_aload_n 14 dX9_copyCells_13 rfl rfl rfl ?_
      refine A_arraylength 15 dX9_copyCells_14 rfl Ow2 rfl (Nat.le_of_ble_eq_true rfl) rfl ?_
      refine A_aload_n 16 dX9_copyCells_15 rfl rfl rfl ?_
      refine A_arraylength 17 dX9_copyCells_16 rfl Ow rfl (Nat.le_of_ble_eq_true rfl) rfl ?_
      refine A_min 20 dX9_copyCells_17 rfl lk_X9_375 mm_min_s mm_i mm_min_c ⟨by decide, Nat.le_of_ble_eq_true rfl⟩ ?_
      refine A_copy 23 dX9_copyCells_20 rfl lk_X9_380 ac_n ac_s ac_i Ow2 rfl Ow rfl rfl rfl (by first | rfl | decide) (by decide) ⟨by decide, Nat.le_of_ble_eq_true rfl⟩ (fun h_1 nh_1 eh_1 => ?_)
      replace Ow := nh_1
      replace Ow2 := (eh_1 _ (by first | assumption | exact Ne.symm (by assumption) | omega)).trans Ow2
      replace hf : ∀ i, i ≠ w → h_1 i = h i := fun i g0 => (eh_1 i g0).trans (hf i g0)
      refine A_vret dX9_copyCells_23 rfl ⟨rfl, Ow, hf⟩
    · skip
      exact absurd c5 (by simp)
set_option maxHeartbeats 4000000 in
set_option maxRecDepth 100000 in
theorem S_X8_copyFrom (X : En) (l : Launch) {h : Hp} {w w2 : Nat} {x x2 : PW} (Ow : h w = some (wB w x)) (Ow2 : h w2 = some (wB w2 x2)) (hw : w2 ≠ w) : Ct X l mX8_copyFrom [aR w 0, aR w2 0] h (QV (PV1 h (w) (wB w x2))) := by
  have hf : ∀ i, i ≠ w → h i = h i := fun _ _ => rfl
  refine Ct.intro [some (aR w 0), some (aR w2 0)] (by decide +kernel) rfl (Nat.le_of_ble_eq_true rfl) ?_
  refine A_aload_n 1 dX8_copyFrom_0 rfl rfl rfl ?_
  refine A_getfield 4 dX8_copyFrom_1 rfl f_X8_9 Ow2 rfl ?_
  refine A_aload_n 5 dX8_copyFrom_4 rfl rfl rfl ?_
  refine A_getfield 8 dX8_copyFrom_5 rfl f_X8_9 Ow rfl ?_
  refine A_callNV 11 (S_X9_copyCells_0 X l (by first | assumption | decide | omega | exact Ne.symm (by assumption)) (by first | assumption | decide | omega | exact Ne.symm (by assumption)) (by first | assumption | decide | omega | exact Ne.symm (by assumption))) dX8_copyFrom_8 rfl kX9_copyCells nk_X8_18 rfl (by decide) rfl (Nat.le_of_ble_eq_true rfl) (fun h_1 qh_1 => ?_)
  obtain ⟨n0h_1, eh_1⟩ := qh_1
  replace Ow := n0h_1
  replace Ow2 := (eh_1 _ (by first | assumption | exact Ne.symm (by assumption) | omega)).trans Ow2
  replace hf : ∀ i, i ≠ w → h_1 i = h i := fun i g0 => (eh_1 i g0).trans (hf i g0)
  refine A_aload_n 12 dX8_copyFrom_11 rfl rfl rfl ?_
  refine A_getfield 15 dX8_copyFrom_12 rfl f_X8_15 Ow2 rfl ?_
  refine A_aload_n 16 dX8_copyFrom_15 rfl rfl rfl ?_
  refine A_getfield 19 dX8_copyFrom_16 rfl f_X8_15 Ow rfl ?_
  refine A_callNV 22 (S_X9_copyCells_1 X l (by first | assumption | decide | omega | exact Ne.symm (by assumption)) (by first | assumption | decide | omega | exact Ne.symm (by assumption)) (by first | assumption | decide | omega | exact Ne.symm (by assumption))) dX8_copyFrom_19 rfl kX9_copyCells nk_X8_18 rfl (by decide) rfl (Nat.le_of_ble_eq_true rfl) (fun h_2 qh_2 => ?_)
  obtain ⟨n0h_2, eh_2⟩ := qh_2
  replace Ow := n0h_2
  replace Ow2 := (eh_2 _ (by first | assumption | exact Ne.symm (by assumption) | omega)).trans Ow2
  replace hf : ∀ i, i ≠ w → h_2 i = h i := fun i g0 => (eh_2 i g0).trans (hf i g0)
  refine A_aload_n 23 dX8_copyFrom_22 rfl rfl rfl ?_
  refine A_aload_n 24 dX8_copyFrom_23 rfl rfl rfl ?_
  refine A_getfield 27 dX8_copyFrom_24 rfl f_X8_22 Ow2 rfl ?_
  refine P_X8_2 30 dX8_copyFrom_27 rfl fw_X8_22 Ow (fun h_3 nh_3 eh_3 => ?_)
  replace Ow := nh_3
  replace Ow2 := (eh_3 _ (by first | assumption | exact Ne.symm (by assumption) | omega)).trans Ow2
  replace hf : ∀ i, i ≠ w → h_3 i = h i := fun i g0 => (eh_3 i g0).trans (hf i g0)
  refine A_aload_n 31 dX8_copyFrom_30 rfl rfl rfl ?_
  refine A_aload_n 32 dX8_copyFrom_31 rfl rfl rfl ?_
  refine A_getfield 35 dX8_copyFrom_32 rfl f_X8_26 Ow2 rfl ?_
  refine P_X8_3 38 dX8_copyFrom_35 rfl fw_X8_26 Ow (fun h_4 nh_4 eh_4 => ?_)
  replace Ow := nh_4
  replace Ow2 := (eh_4 _ (by first | assumption | exact Ne.symm (by assumption) | omega)).trans Ow2
  replace hf : ∀ i, i ≠ w → h_4 i = h i := fun i g0 => (eh_4 i g0).trans (hf i g0)
  refine A_aload_n 39 dX8_copyFrom_38 rfl rfl rfl ?_
  refine A_aload_n 40 dX8_copyFrom_39 rfl rfl rfl ?_
  refine A_getfield 43 dX8_copyFrom_40 rfl f_X8_29 Ow2 rfl ?_
  refine P_X8_4 46 dX8_copyFrom_43 rfl fw_X8_29 Ow (fun h_5 nh_5 eh_5 => ?_)
  replace Ow := nh_5
  replace Ow2 := (eh_5 _ (by first | assumption | exact Ne.symm (by assumption) | omega)).trans Ow2
  replace hf : ∀ i, i ≠ w → h_5 i = h i := fun i g0 => (eh_5 i g0).trans (hf i g0)
  refine A_aload_n 47 dX8_copyFrom_46 rfl rfl rfl ?_
  refine A_aload_n 48 dX8_copyFrom_47 rfl rfl rfl ?_
  refine A_getfield 51 dX8_copyFrom_48 rfl f_X8_32 Ow2 rfl ?_
  refine P_X8_5 54 dX8_copyFrom_51 rfl fw_X8_32 Ow (fun h_6 nh_6 eh_6 => ?_)
  replace Ow := nh_6
  replace Ow2 := (eh_6 _ (by first | assumption | exact Ne.symm (by assumption) | omega)).trans Ow2
  replace hf : ∀ i, i ≠ w → h_6 i = h i := fun i g0 => (eh_6 i g0).trans (hf i g0)
  refine A_vret dX8_copyFrom_54 rfl ⟨rfl, Ow, hf⟩
set_option maxHeartbeats 4000000 in
set_option maxRecDepth 100000 in
theorem S_X8_passDay (X : En) (l : Launch) {h : Hp} {w c : Nat} {x : PW} {y : PC} (Ow : h w = some (wB w x)) (Oc : h c = some (cB c y)) (hx : LOK x) (hp : x.2.2.2.1 ≤ 6) (hc : c ≠ w) : Ct X l mX8_passDay [aR w 0, aR c 0] h (QI (fun vr h2 => ((passS x).2) = vr ∧ ∃ (y1 : PC), h2 (w) = some (wB w (passX x)) ∧ h2 (c) = some (cB c y1) ∧ ∀ i, i ≠ w → i ≠ c → h2 i = h i)) := by
  have hf : ∀ i, i ≠ w → i ≠ c → h i = h i := fun _ _ _ => rfl
  refine Ct.intro [some (aR w 0), some (aR c 0), none, none] (by decide +kernel) rfl (Nat.le_of_ble_eq_true rfl) ?_
  refine A_iconst 1 (0) dX8_passDay_0 rfl (by decide) ?_
  refine A_istore_n 2 dX8_passDay_1 rfl rfl (by decide) (by first | exact (ast_s (ast_1 rfl)) | exact (ast_s ast_k)) ?_
  refine A_iconst 3 (0) dX8_passDay_2 rfl (by decide) ?_
  refine A_istore_n 4 dX8_passDay_3 rfl rfl (by decide) (by first | exact (ast_s (ast_s (ast_1 rfl))) | exact (ast_s (ast_s ast_k))) ?_
  have L4 : ∀ (nq i : Nat) (u : FI) (v : Int32) (g4 : Hp) (y0 : PC), (nq + i = x.2.2.2.1) → (foldN (passF x) ((x.2.1, 0)) i = (u, v)) → (g4 w = some (wB w (x.1, u, x.2.2))) → (g4 c = some (cB c y0)) → (∀ i, i ≠ w → i ≠ c → g4 i = h i) → Av X l mX8_passDay 4 [some (aR w 0), some (aR c 0), some (aI (v)), some (aI (nI (i)))] [] g4 (QI (fun vr h2 => ((passS x).2) = vr ∧ ∃ (y1 : PC), h2 (w) = some (wB w (passX x)) ∧ h2 (c) = some (cB c y1) ∧ ∀ i, i ≠ w → i ≠ c → h2 i = h i)) := by
    intro nq
    induction nq using Nat.strongRecOn with
    | _ nq ih =>
    intro i u v g4 y0 en ee Ow Oc hf
    refine A_iload_n 5 dX8_passDay_4 rfl rfl rfl ?_
    refine A_aload_n 6 dX8_passDay_5 rfl rfl rfl ?_
    refine A_getfield 9 dX8_passDay_6 rfl f_X8_26 Ow rfl ?_
    refine A_icmp_ge 47 12 dX8_passDay_9 (by decide) rfl (fun c9 => ?_) (fun c9 => ?_)
    · skip
      obtain rfl := (up_ge_T (N := x.2.2.2.1) c9 rfl (by omega) (by omega)).symm
      refine A_aload_n 48 dX8_passDay_47 rfl rfl rfl ?_
      refine A_dup 49 dX8_passDay_48 rfl rfl ?_
      refine A_getfield 52 dX8_passDay_49 rfl f_X8_32 Ow rfl ?_
      refine A_iconst 53 (1) dX8_passDay_52 rfl (by decide) ?_
      refine A_iadd 54 dX8_passDay_53 rfl ?_
      refine P_X8_5 57 dX8_passDay_54 rfl fw_X8_32 Ow (fun h_1 nh_1 eh_1 => ?_)
      replace Ow := nh_1
      replace Oc := (eh_1 _ (by first | assumption | exact Ne.symm (by assumption) | omega)).trans Oc
      replace hf : ∀ i, i ≠ w → i ≠ c → h_1 i = h i := fun i g0 g1 => (eh_1 i g0).trans (hf i g0 g1)
      refine A_iload_n 58 dX8_passDay_57 rfl rfl rfl ?_
      refine A_iret dX8_passDay_58 rfl ⟨_, rfl, (by unfold passS; rw [ee]), _, (by unfold passX passS; rw [ee]; exact Ow), Oc, hf⟩
    · skip
      have hi := up_ge_F (N := x.2.2.2.1) c9 rfl (by omega) (by omega)
      obtain ⟨n0, rfl⟩ : ∃ q, nq = q + 1 := ⟨nq - 1, by omega⟩
      refine A_iload_n 13 dX8_passDay_12 rfl rfl rfl ?_
      refine A_aload_n 14 dX8_passDay_13 rfl rfl rfl ?_
      refine A_aload_n 15 dX8_passDay_14 rfl rfl rfl ?_
      refine A_aload_n 16 dX8_passDay_15 rfl rfl rfl ?_
      refine A_iload_n 17 dX8_passDay_16 rfl rfl rfl ?_
      refine A_callVI 20 (S_X8_pocketsOf X l (by first | assumption | decide | omega | exact Ne.symm (by assumption)) (by first | assumption | decide | omega | exact Ne.symm (by assumption))) dX8_passDay_17 rfl kX8_pocketsOf lk_X8_43 rfl Ow (by decide) rfl (Nat.le_of_ble_eq_true rfl) (fun v_2 h_2 qh_2 => ?_)
      obtain ⟨rfl, rfl⟩ := qh_2
      refine A_iconst 21 (0) dX8_passDay_20 rfl (by decide) ?_
      refine A_callVI 24 (S_X1_run X l (by first | assumption | decide | omega | exact Ne.symm (by assumption)) (by first | assumption | decide | omega | exact Ne.symm (by assumption)) (by first | assumption | decide | omega | exact Ne.symm (by assumption)) (by first | assumption | decide | omega | exact Ne.symm (by assumption))) dX8_passDay_21 rfl kX1_run lk_X8_59 rfl Oc (by decide) rfl (Nat.le_of_ble_eq_true rfl) (fun v_3 h_3 qh_3 => ?_)
      obtain ⟨rfl, n0h_3, eh_3⟩ := qh_3
      replace Ow := (eh_3 _ (by first | assumption | exact Ne.symm (by assumption) | omega)).trans Ow
      replace Oc := n0h_3
      replace hf : ∀ i, i ≠ w → i ≠ c → h_3 i = h i := fun i g0 g1 => (eh_3 i g1).trans (hf i g0 g1)
      refine A_callSI 27 (S_J6_bitCount_0f7a4 X l) dX8_passDay_24 rfl kJ6_bitCount_0f7a4 lk_X8_47 rfl (by decide) rfl (Nat.le_of_ble_eq_true rfl) (fun v_4 h_4 qh_4 => ?_)
      obtain ⟨rfl, rfl⟩ := qh_4
      refine A_iadd 28 dX8_passDay_27 rfl ?_
      refine A_istore_n 29 dX8_passDay_28 rfl rfl (by decide) (by first | exact (ast_s (ast_1 rfl)) | exact (ast_s ast_k)) ?_
      refine A_aload_n 30 dX8_passDay_29 rfl rfl rfl ?_
      refine A_getfield 33 dX8_passDay_30 rfl f_X8_15 Ow rfl ?_
      refine A_iload_n 34 dX8_passDay_33 rfl rfl rfl ?_
      refine A_aload_n 35 dX8_passDay_34 rfl rfl rfl ?_
      refine A_callVI 38 (S_X1_pocketsAtEnd X l (by first | assumption | decide | omega | exact Ne.symm (by assumption))) dX8_passDay_35 rfl kX1_pocketsAtEnd lk_X8_65 rfl Oc (by decide) rfl (Nat.le_of_ble_eq_true rfl) (fun v_5 h_5 qh_5 => ?_)
      obtain ⟨rfl, rfl⟩ := qh_5
      refine A_callNV 41 (S_X9_put_X8_1 X l (by first | assumption | decide | omega | exact Ne.symm (by assumption)) (by first | assumption | exact ix_nI (by omega) (by decide) | exact ix_lit _ rfl (by omega) (by decide) | exact ix_lit _ rfl (by decide) (by decide))) dX8_passDay_38 rfl kX9_put nk_X8_35 rfl (by decide) rfl (Nat.le_of_ble_eq_true rfl) (fun h_6 qh_6 => ?_)
      obtain ⟨n0h_6, eh_6⟩ := qh_6
      replace Ow := n0h_6
      replace Oc := (eh_6 _ (by first | assumption | exact Ne.symm (by assumption) | omega)).trans Oc
      replace hf : ∀ i, i ≠ w → i ≠ c → h_6 i = h i := fun i g0 g1 => (eh_6 i g0).trans (hf i g0 g1)
      first | refine A_iincN 44 dX8_passDay_41 rfl rfl (by decide) (by first | exact (ast_s (ast_s (ast_1 rfl))) | exact (ast_s (ast_s ast_k))) ?_ | refine A_iinc 44 (1) dX8_passDay_41 rfl rfl (by decide) (by decide) (by first | exact (ast_s (ast_s (ast_1 rfl))) | exact (ast_s (ast_s ast_k))) ?_
      refine A_goto 4 dX8_passDay_44 (by decide) ?_
      exact ih n0 (Nat.lt_succ_self n0) (i + 1) _ _ h_6 _ (by omega) ((foldN_s (passF x) ((x.2.1, 0)) i).trans ((congrArg ((passF x) i) ee).trans (by first | (simp only [passF, dDone_u, dayC_u]; done) | (simp only [passF, dDone_u, dayC_u]; rfl)))) Ow Oc hf
  exact L4 (x.2.2.2.1) (0) (x.2.1) (_) h (_) (by omega) (rfl) Ow Oc hf
