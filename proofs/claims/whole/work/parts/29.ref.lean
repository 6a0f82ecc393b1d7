/-! the reference: rows, fractions -/
def rwG (t : FI) (n L : Nat) (i : Nat) : Bool := decide (n ≤ 12) && allN (lawQ t L) i
theorem rwG_s (t : FI) (n L i : Nat) : rwG t n L (i + 1) = (rwG t n L i && lawQ t L i) := (Bool.and_assoc _ _ _).symm
theorem lawQ_99 {t : FI} {L i : Nat} (h : t i = 99) : lawQ t L i = true := by unfold lawQ; rw [decide_eq_true h]; rfl
theorem lawQ_n {t : FI} {L i : Nat} (h : ¬ t i = 99) (h0 : ¬ t i < 0) : lawQ t L i = decide (t i < nI L) := by
  unfold lawQ inN
  rw [decide_eq_false h, Bool.false_or]
  apply decide_eq_decide.mpr
  exact ⟨fun z => z.2, fun z => ⟨Int32.not_lt.mp h0, z⟩⟩
theorem rowOK_12 {t : FI} {n L : Nat} (h : rowOK t n L = true) : n ≤ 12 := by
  unfold rowOK at h
  rw [Bool.and_eq_true] at h
  exact of_decide_eq_true h.1
theorem w01R_eq (x : PW) (t : FI) (n : Nat) (v : Int32) : w01R x t n v = if wrB 0 v 1 = 0 then wRow x t n else wrB 0 v 1 := by
  rw [wrB_0]
  unfold w01R
  by_cases h : v < 0 ∨ 1 < v
  · rw [if_pos h, if_pos h, if_neg (by decide)]
  · rw [if_neg h, if_neg h, if_pos rfl]
def rwQ (t f : FI) (k : Nat) : Bool := decide (t k = tell (f k))
theorem rwQ_99 {x : PW} {nv s : Int32} {t : FI} {i : Nat} (hx : x.2.2.1 ≤ 10) (h : t i = 99) : rwQ t (dLaw x nv s) i = decide (dLaw x nv s i = -9) := by
  unfold rwQ tell
  apply decide_eq_decide.mpr
  rw [h]
  by_cases e : dLaw x nv s i = -9
  · rw [if_pos e]; exact ⟨fun _ => e, fun _ => rfl⟩
  · rw [if_neg e]
    refine ⟨fun z => ?_, fun z => absurd z e⟩
    obtain ⟨k, hk, e2⟩ := dLaw_pos (x := x) (nv := nv) (s := s) (i := i) (fun z => e (dLaw_neg z hx))
    rw [e2] at z
    have := (ninj (a := 99) (by decide) (by omega)).mp z
    omega
theorem rwQ_n {x : PW} {nv s : Int32} {t : FI} {i : Nat} (h : ¬ t i = 99) (h0 : ¬ t i < 0) : rwQ t (dLaw x nv s) i = decide (dLaw x nv s i = t i) := by
  unfold rwQ tell
  apply decide_eq_decide.mpr
  by_cases e : dLaw x nv s i = -9
  · rw [if_pos e, e]
    exact ⟨fun z => absurd z h, fun z => absurd (by rw [← z]; decide) h0⟩
  · rw [if_neg e]
    exact ⟨fun z => z.symm, fun z => z.symm⟩
theorem fw_all {t f : FI} : ∀ m k, k + m ≤ 12 → (∀ j, k ≤ j → j < k + m → rwQ t f j = true) → fwN t f m k = -9 := by
  intro m
  induction m with
  | zero => intro k _ _; rfl
  | succ m ih =>
    intro k hk h
    rw [fwN_s, if_neg (fun z => z.elim (fun q => by omega) (fun q => q (of_decide_eq_true (h k (Nat.le_refl k) (by omega)))))]
    exact ih (k + 1) (by omega) (fun j h1 h2 => h j (by omega) (by omega))
theorem fw_some {t f : FI} : ∀ m k j, k ≤ j → j < k + m → k + m < 1000 → rwQ t f j = false → ¬ fwN t f m k = -9 := by
  intro m
  induction m with
  | zero => intro k j h1 h2 _ _; omega
  | succ m ih =>
    intro k j h1 h2 h4 h3
    rw [fwN_s]
    by_cases c : 12 ≤ k ∨ ¬ t k = tell (f k)
    · rw [if_pos c]; exact nI_ne9 (by omega)
    · rw [if_neg c]
      by_cases e : j = k
      · subst e
        exact absurd (Or.inr (of_decide_eq_false h3)) c
      · exact ih (k + 1) j (by omega) (by omega) (by omega) h3
theorem FW_all {t f : FI} {n : Nat} (hn : n ≤ 12) : decide (FW t n f = -9) = allN (rwQ t f) n := by
  cases h : allN (rwQ t f) n with
  | true => exact decide_eq_true (fw_all n 0 (by omega) (fun j _ hj => allN_iff.mp h j (by omega)))
  | false =>
    refine decide_eq_false ?_
    rcases first_or (fun j => !rwQ t f j) n with q | ⟨j, hj, q, _⟩
    · have : allN (rwQ t f) n = true := allN_iff.mpr (fun j hj => by simpa using q j hj)
      rw [this] at h; cases h
    · exact fw_some n 0 j (Nat.zero_le j) (by omega) (by omega) (by simpa using q)
theorem min_c (a b : Int32) : (if a < b then a else b) = if b < a then b else a := by
  by_cases h : a < b
  · rw [if_pos h, if_neg (fun z => by
      have h1 := Int32.lt_iff_toInt_lt.mp h
      have h2 := Int32.lt_iff_toInt_lt.mp z
      omega)]
  · rw [if_neg h]
    by_cases h2 : b < a
    · rw [if_pos h2]
    · rw [if_neg h2]
      have h3 := Int32.le_iff_toInt_le.mp (Int32.not_lt.mp h)
      have h4 := Int32.le_iff_toInt_le.mp (Int32.not_lt.mp h2)
      exact Int32.toInt_inj.mp (by omega)
def feF (x : PW) (t : FI) (n : Nat) (i : Nat) (u : Int32 × Int32) : Int32 × Int32 := if u.2 < lpN x t n (nI i) then (nI i, lpN x t n (nI i)) else u
theorem cdN_n (x : PW) (t : FI) (n : Nat) : ∃ m, m ≤ 256 ∧ cdN x t n = nI m := ⟨_, (lrn_c0 x t n (fun _ => 0) 256).1, (lrn_c x t n (fun _ => 0)).symm⟩
theorem cw_le (x : PW) (t : FI) (n : Nat) (c : Int32) : ∀ m, ∃ a b, a ≤ b ∧ b ≤ m ∧ foldN (cwF x t n c) 0 m = nI a ∧ foldN (cdF x t n) 0 m = nI b := by
  intro m
  induction m with
  | zero => exact ⟨0, 0, Nat.le_refl 0, Nat.le_refl 0, rfl, rfl⟩
  | succ m ih =>
    obtain ⟨a, b, h1, h2, h3, h4⟩ := ih
    rw [foldN_s, foldN_s, h3, h4]
    unfold cwF cdF
    by_cases e : fitQ x t n m = true
    · rw [if_pos e]
      by_cases e2 : btI (nI m) c = true
      · rw [if_pos ⟨e, e2⟩]; exact ⟨a + 1, b + 1, by omega, by omega, n41 a, n41 b⟩
      · rw [if_neg (fun z => e2 z.2)]; exact ⟨a, b + 1, by omega, by omega, rfl, n41 b⟩
    · rw [if_neg e, if_neg (fun z => e z.1)]; exact ⟨a, b, h1, by omega, rfl, rfl⟩
theorem lpN_nn (x : PW) (t : FI) (n : Nat) (c : Int32) : ¬ lpN x t n c < 0 := by
  obtain ⟨a, b, h1, h2, h3, h4⟩ := cw_le x t n c 256
  unfold lpN cwN cdN
  rw [h3, h4]
  have e : nI b - nI a = nI (b - a) := by
    obtain ⟨d, rfl⟩ : ∃ d, b = d + a := ⟨b - a, by omega⟩
    rw [nadd, Nat.add_sub_cancel]
    exact Int32.add_sub_cancel _ _
  rw [e]
  split
  · exact nI_pos (by omega)
  · exact nI_pos (by omega)
/-- feeling: the other way of going through the things -/
theorem fe_eq (x : PW) (t : FI) (n : Nat) (h : ¬ cdN x t n = 0) : foldN (feF x t n) (-9, -9) 8 = (evS x t n, lpN x t n (evS x t n)) := by
  rw [evS_1 h, foldN_front]
  have e0 : feF x t n 0 (-9, -9) = (0, lpN x t n 0) := by
    refine if_pos ?_
    show -9 < lpN x t n (nI 0)
    exact Int32.lt_of_lt_of_le (by decide : (-9 : Int32) < 0) (Int32.not_lt.mp (lpN_nn x t n _))
  rw [e0]
  have key : ∀ m, foldN (fun i => feF x t n (i + 1)) (0, lpN x t n 0) m = (foldN (evG x t n) 0 m, lpN x t n (foldN (evG x t n) 0 m)) := by
    intro m
    induction m with
    | zero => rfl
    | succ m ih =>
      rw [foldN_s, ih, foldN_s]
      unfold feF
      generalize foldN (evG x t n) 0 m = u
      by_cases c : lpN x t n u < lpN x t n (nI (m + 1))
      · rw [if_pos c, show evG x t n m u = nI (m + 1) from if_pos c]
      · rw [if_neg c, show evG x t n m u = u from if_neg c]
  exact key 7
/-! Euclid's steps -/
def euT : Nat → Int64 → Int64 → Prop
  | 0, _, y => y = 0
  | n + 1, x, y => y = 0 ∨ euT n y (x - x / y * y)
theorem euL_y0 {x y : Int64} (h : y = 0) (n : Nat) : euL n x y = x := by
  cases n with
  | zero => rfl
  | succ n => rw [euL_s, if_pos h]
theorem euL_nz {x : Int64} : ∀ n (y : Int64), ¬ x = 0 → ¬ euL n x y = 0 := by
  intro n
  induction n generalizing x with
  | zero => intro y h; exact h
  | succ n ih =>
    intro y h
    rw [euL_s]
    by_cases e : y = 0
    · rw [if_pos e]; exact h
    · rw [if_neg e]; exact ih _ e
theorem i64_mod (x y : Int64) : (x - x / y * y).toInt = x.toInt.tmod y.toInt := by
  rw [Int64.toInt_sub, Int64.toInt_mul, Int64.toInt_div]
  have e : (x.toInt - ((x.toInt.tdiv y.toInt).bmod (2 ^ 64) * y.toInt).bmod (2 ^ 64)).bmod (2 ^ 64) = (x.toInt.tmod y.toInt).bmod (2 ^ 64) := by
    rw [Int.bmod_mul_bmod, Int.sub_bmod_bmod, Int.tmod_def, Int.mul_comm]
  rw [e]
  have h1 := x.le_toInt
  have h2 := x.toInt_lt
  have h3 : (x.toInt.tmod y.toInt).natAbs ≤ x.toInt.natAbs := by
    rw [Int.natAbs_tmod]
    exact Nat.mod_le _ _
  have h4 := y.le_toInt
  have h5 := y.toInt_lt
  by_cases hy : y.toInt = 0
  · rw [hy, Int.tmod_zero]
    exact Int.bmod_eq_of_le (by omega) (by omega)
  · have h6 : (x.toInt.tmod y.toInt).natAbs < y.toInt.natAbs := by
      rw [Int.natAbs_tmod]
      exact Nat.mod_lt _ (by omega)
    exact Int.bmod_eq_of_le (by omega) (by omega)
theorem eu_abs (x y : Int64) : (x - x / y * y).toInt.natAbs = x.toInt.natAbs % y.toInt.natAbs := by rw [i64_mod, Int.natAbs_tmod]
theorem i64_0n {y : Int64} (h : y.toInt.natAbs = 0) : y = 0 := by
  apply Int64.toInt_inj.mp
  have : ((0 : Int64)).toInt = 0 := by decide
  omega
theorem euT_of : ∀ m n (x y : Int64), y.toInt.natAbs < 2 ^ m → 2 * m + 1 ≤ n → euT n x y := by
  intro m
  induction m with
  | zero =>
    intro n x y h hn
    obtain ⟨k, rfl⟩ : ∃ k, n = k + 1 := ⟨n - 1, by omega⟩
    exact Or.inl (i64_0n (by omega))
  | succ m ih =>
    intro n x y h hn
    obtain ⟨k, rfl⟩ : ∃ k, n = k + 2 := ⟨n - 2, by omega⟩
    by_cases hy : y = 0
    · exact Or.inl hy
    refine Or.inr ?_
    by_cases hr : x - x / y * y = 0
    · exact Or.inl hr
    refine Or.inr (ih k _ _ ?_ (by omega))
    rw [eu_abs]
    have h1 : 0 < y.toInt.natAbs := Nat.pos_of_ne_zero (fun z => hy (i64_0n z))
    have h2 : (x - x / y * y).toInt.natAbs < y.toInt.natAbs := by rw [eu_abs]; exact Nat.mod_lt _ h1
    have h3 : 0 < (x - x / y * y).toInt.natAbs := Nat.pos_of_ne_zero (fun z => hr (i64_0n z))
    generalize (x - x / y * y).toInt.natAbs = r at *
    generalize y.toInt.natAbs = w at *
    rw [Nat.pow_succ] at h
    by_cases c : r ≤ 2 ^ m
    · exact Nat.lt_of_lt_of_le (Nat.mod_lt _ h3) c
    · have h4 : w % r = w - r := by
        rw [Nat.mod_eq_sub_mod (by omega), Nat.mod_eq_of_lt (by omega)]
      omega
theorem p01 {p : Int32} (h : ¬ (p < 0 ∨ 1 < p)) : p = 0 ∨ p = 1 := by
  obtain ⟨k, rfl, hk⟩ := nI_exg (n := 1) (fun z => h (Or.inl z)) (fun z => h (Or.inr z)) (by decide)
  rcases (show k = 0 ∨ k = 1 by omega) with rfl | rfl
  · exact Or.inl rfl
  · exact Or.inr rfl
theorem p01L {p : Int32} (h : p = 0 ∨ p = 1) : p.toInt64 = if p = 0 then 0 else 1 := by
  rcases h with rfl | rfl <;> decide
theorem absL_p {a : Int64} (h : 0 < a) : absL a = a := if_pos h
theorem aFeel_0 {x : PW} {t : FI} {n : Nat} {v : Int32} (h : cdN x t n = 0) : aFeel x t n v = -9 := if_pos (evS_0 h)
theorem aFeel_1 {x : PW} {t : FI} {n : Nat} {v : Int32} (h : ¬ cdN x t n = 0) : aFeel x t n v = if v = 0 then evS x t n else lpN x t n (evS x t n) := by
  refine if_neg ?_
  rw [evS_1 h]
  obtain ⟨k, hk, e⟩ := evG_T x t n 7 (by decide)
  rw [e]
  exact nI_ne9 (by omega)
theorem cd_0 {x : PW} {t : FI} {n : Nat} (h : ¬ 0 < cdN x t n) : cdN x t n = 0 := by
  obtain ⟨m, hm, e⟩ := cdN_n x t n
  rw [e] at h ⊢
  have := mt (pos_nI (d := m) (by omega)).mpr h
  rw [show m = 0 by omega]
  rfl
set_option maxHeartbeats 4000000 in
set_option maxRecDepth 100000 in
theorem S_X10_wrongRow (X : En) (l : Launch) {h : Hp} {x : PW} {c : RC} {z : RZ} (O28 : h 28 = some (rB x (-1) c z)) (hW : WOK x) (hn : c.2.2.2.2.2.2.2.2 ≤ 16) (hr : ∀ k, k < c.2.2.2.2.2.2.2.2 → ¬ c.2.2.2.2.2.2.2.1 k < 0) : Ct X l mX10_wrongRow [aR 28 0] h (QI (PI0 (wRow x c.2.2.2.2.2.2.2.1 c.2.2.2.2.2.2.2.2) h)) := by
  have hx := hW.1
  have hp := hW.2.1
  have h10 := hx.1
  refine Ct.intro [some (aR 28 0), none, none] (by decide +kernel) rfl (Nat.le_of_ble_eq_true rfl) ?_
  refine A_aload_n 1 dX10_wrongRow_0 rfl rfl rfl ?_
  refine A_getfield 4 dX10_wrongRow_1 rfl f_X10_236 O28 rfl ?_
  try dsimp only
  refine A_bipush 6 (12) dX10_wrongRow_4 rfl (by decide) ?_
  refine A_icmp_gt 13 9 dX10_wrongRow_6 (by decide) rfl (fun c6 => ?_) (fun c6 => ?_)
  · skip
    try simp only [bI_0, bI_n0, Classical.not_not, Bool.not_eq_false, Bool.true_and, Bool.and_true, decide_eq_true_eq, decide_eq_false_iff_not, dayC_1, dayC_21, dayC_221, dayC_222, inI_1, inI_2, inI_3, inI_5, inI_11, inI_16] at c6
    have n6 := Int32.not_le.mpr c6
    have cl_12 : decide (c.2.2.2.2.2.2.2.2 ≤ 12) = false := decide_eq_false (by
      have q := (nlt_iff (a := 12) (b := c.2.2.2.2.2.2.2.2) (by decide) (by omega)).mp c6
      omega)
    refine A_iconst 14 (0) dX10_wrongRow_13 rfl (by decide) ?_
    refine A_istore_n 15 dX10_wrongRow_14 rfl rfl (by decide) (by first | exact (ast_1 rfl) | exact ast_k) ?_
    refine A_iconst 16 (0) dX10_wrongRow_15 rfl (by decide) ?_
    refine A_istore_n 17 dX10_wrongRow_16 rfl rfl (by decide) (by first | exact (ast_s (ast_1 rfl)) | exact (ast_s ast_k)) ?_
    have L17 : ∀ (nq i : Nat) (g : Int32) , (nq + i = c.2.2.2.2.2.2.2.2) → (g = bI (rwG c.2.2.2.2.2.2.2.1 c.2.2.2.2.2.2.2.2 x.2.2.1 i)) → Av X l mX10_wrongRow 17 [some (aR 28 0), some (aI (g)), some (aI (nI (i)))] [] h (QI (PI0 (wRow x c.2.2.2.2.2.2.2.1 c.2.2.2.2.2.2.2.2) h)) := by
      intro nq
      induction nq using Nat.strongRecOn with
      | _ nq ih =>
      intro i g en ee
      subst ee
      refine A_iload_n 18 dX10_wrongRow_17 rfl rfl rfl ?_
      refine A_aload_n 19 dX10_wrongRow_18 rfl rfl rfl ?_
      refine A_getfield 22 dX10_wrongRow_19 rfl f_X10_236 O28 rfl ?_
      try dsimp only
      refine A_icmp_ge 65 25 dX10_wrongRow_22 (by decide) rfl (fun c22 => ?_) (fun c22 => ?_)
      · skip
        obtain rfl := (up_ge_T (N := c.2.2.2.2.2.2.2.2) c22 rfl (by omega) (by omega)).symm
        refine A_iload_n 66 dX10_wrongRow_65 rfl rfl rfl ?_
        refine A_if_eq 73 69 dX10_wrongRow_66 (by decide) rfl (fun c66 => ?_) (fun c66 => ?_)
        · skip
          try simp only [bI_0, bI_n0, Classical.not_not, Bool.not_eq_false, Bool.true_and, Bool.and_true, decide_eq_true_eq, decide_eq_false_iff_not, dayC_1, dayC_21, dayC_221, dayC_222, inI_1, inI_2, inI_3, inI_5, inI_11, inI_16] at c66
          refine A_bipush 75 (-3) dX10_wrongRow_73 rfl (by decide) ?_
          refine A_iret dX10_wrongRow_75 rfl ⟨_, rfl, (by unfold wRow; rw [show rowOK c.2.2.2.2.2.2.2.1 c.2.2.2.2.2.2.2.2 x.2.2.1 = rwG c.2.2.2.2.2.2.2.1 c.2.2.2.2.2.2.2.2 x.2.2.1 c.2.2.2.2.2.2.2.2 from rfl]; first | (simp only [c6, n6, cl_12, c66, if_true, if_false, ite_true, ite_false, and_true, true_and, and_false, false_and, and_self, or_true, true_or, or_false, false_or, or_self, not_true_eq_false, not_false_eq_true, decide_true, decide_false, Bool.and_true, Bool.true_and, Bool.and_false, Bool.false_and, Bool.and_self, Bool.or_true, Bool.true_or, Bool.or_false, Bool.false_or, Bool.not_true, Bool.not_false, cond_true, cond_false, bI_t, bI_f, Bool.false_eq_true, Bool.true_eq_false, dayC_1, dayC_21, dayC_221, dayC_222]; done) | (simp only [c6, n6, cl_12, eq_true c66, if_true, if_false, ite_true, ite_false, and_true, true_and, and_false, false_and, and_self, or_true, true_or, or_false, false_or, or_self, not_true_eq_false, not_false_eq_true, decide_true, decide_false, Bool.and_true, Bool.true_and, Bool.and_false, Bool.false_and, Bool.and_self, Bool.or_true, Bool.true_or, Bool.or_false, Bool.false_or, Bool.not_true, Bool.not_false, cond_true, cond_false, bI_t, bI_f, Bool.false_eq_true, Bool.true_eq_false, dayC_1, dayC_21, dayC_221, dayC_222]; done)), rfl⟩
        · skip
          try simp only [bI_0, bI_n0, Classical.not_not, Bool.not_eq_false, Bool.true_and, Bool.and_true, decide_eq_true_eq, decide_eq_false_iff_not, dayC_1, dayC_21, dayC_221, dayC_222, inI_1, inI_2, inI_3, inI_5, inI_11, inI_16] at c66
          refine A_iconst 70 (0) dX10_wrongRow_69 rfl (by decide) ?_
          refine A_goto 75 dX10_wrongRow_70 (by decide) ?_
          refine A_iret dX10_wrongRow_75 rfl ⟨_, rfl, (by unfold wRow; rw [show rowOK c.2.2.2.2.2.2.2.1 c.2.2.2.2.2.2.2.2 x.2.2.1 = rwG c.2.2.2.2.2.2.2.1 c.2.2.2.2.2.2.2.2 x.2.2.1 c.2.2.2.2.2.2.2.2 from rfl]; first | (simp only [c6, n6, cl_12, c66, if_true, if_false, ite_true, ite_false, and_true, true_and, and_false, false_and, and_self, or_true, true_or, or_false, false_or, or_self, not_true_eq_false, not_false_eq_true, decide_true, decide_false, Bool.and_true, Bool.true_and, Bool.and_false, Bool.false_and, Bool.and_self, Bool.or_true, Bool.true_or, Bool.or_false, Bool.false_or, Bool.not_true, Bool.not_false, cond_true, cond_false, bI_t, bI_f, Bool.false_eq_true, Bool.true_eq_false, dayC_1, dayC_21, dayC_221, dayC_222]; done)), rfl⟩
      · skip
        have hi := up_ge_F (N := c.2.2.2.2.2.2.2.2) c22 rfl (by omega) (by omega)
        obtain ⟨n0, rfl⟩ : ∃ q, nq = q + 1 := ⟨nq - 1, by omega⟩
        refine A_iload_n 26 dX10_wrongRow_25 rfl rfl rfl ?_
        refine A_if_eq 57 29 dX10_wrongRow_26 (by decide) rfl (fun c26 => ?_) (fun c26 => ?_)
        · skip
          try simp only [bI_0, bI_n0, Classical.not_not, Bool.not_eq_false, Bool.true_and, Bool.and_true, decide_eq_true_eq, decide_eq_false_iff_not, dayC_1, dayC_21, dayC_221, dayC_222, inI_1, inI_2, inI_3, inI_5, inI_11, inI_16] at c26
          refine A_iconst 58 (0) dX10_wrongRow_57 rfl (by decide) ?_
          refine A_istore_n 59 dX10_wrongRow_58 rfl rfl (by decide) (by first | exact (ast_1 rfl) | exact ast_k) ?_
          first | refine A_iincN 62 dX10_wrongRow_59 rfl rfl (by decide) (by first | exact (ast_s (ast_1 rfl)) | exact (ast_s ast_k)) ?_ | refine A_iinc 62 (1) dX10_wrongRow_59 rfl rfl (by decide) (by decide) (by first | exact (ast_s (ast_1 rfl)) | exact (ast_s ast_k)) ?_
          refine A_goto 17 dX10_wrongRow_62 (by decide) ?_
          exact ih n0 (Nat.lt_succ_self n0) (i + 1) _  (by omega) ((by first | (simp only [c6, n6, cl_12, c26, if_true, if_false, ite_true, ite_false, and_true, true_and, and_false, false_and, and_self, or_true, true_or, or_false, false_or, or_self, not_true_eq_false, not_false_eq_true, decide_true, decide_false, Bool.and_true, Bool.true_and, Bool.and_false, Bool.false_and, Bool.and_self, Bool.or_true, Bool.true_or, Bool.or_false, Bool.false_or, Bool.not_true, Bool.not_false, cond_true, cond_false, bI_t, bI_f, Bool.false_eq_true, Bool.true_eq_false, dayC_1, dayC_21, dayC_221, dayC_222, rwG_s]; done) | (simp only [c6, n6, cl_12, eq_true c26, if_true, if_false, ite_true, ite_false, and_true, true_and, and_false, false_and, and_self, or_true, true_or, or_false, false_or, or_self, not_true_eq_false, not_false_eq_true, decide_true, decide_false, Bool.and_true, Bool.true_and, Bool.and_false, Bool.false_and, Bool.and_self, Bool.or_true, Bool.true_or, Bool.or_false, Bool.false_or, Bool.not_true, Bool.not_false, cond_true, cond_false, bI_t, bI_f, Bool.false_eq_true, Bool.true_eq_false, dayC_1, dayC_21, dayC_221, dayC_222, rwG_s]; done))) 
        · skip
          try simp only [bI_0, bI_n0, Classical.not_not, Bool.not_eq_false, Bool.true_and, Bool.and_true, decide_eq_true_eq, decide_eq_false_iff_not, dayC_1, dayC_21, dayC_221, dayC_222, inI_1, inI_2, inI_3, inI_5, inI_11, inI_16] at c26
          refine A_aload_n 30 dX10_wrongRow_29 rfl rfl rfl ?_
          refine A_getfield 33 dX10_wrongRow_30 rfl f_X10_62 O28 rfl ?_
          refine A_iload_n 34 dX10_wrongRow_33 rfl rfl rfl ?_
          refine A_iaload 35 dX10_wrongRow_34 rfl O28 rfl (by first | assumption | exact ix_nI (by omega) (by decide) | exact ix_lit _ rfl (by omega) (by decide) | exact ix_lit _ rfl (by decide) (by decide)) ?_
          try dsimp only
          refine A_bipush 37 (99) dX10_wrongRow_35 rfl (by decide) ?_
          refine A_icmp_eq 53 40 dX10_wrongRow_37 (by decide) rfl (fun c37 => ?_) (fun c37 => ?_)
          · skip
            try simp only [bI_0, bI_n0, Classical.not_not, Bool.not_eq_false, Bool.true_and, Bool.and_true, decide_eq_true_eq, decide_eq_false_iff_not, dayC_1, dayC_21, dayC_221, dayC_222, inI_1, inI_2, inI_3, inI_5, inI_11, inI_16] at c37
            have cl_q : lawQ c.2.2.2.2.2.2.2.1 x.2.2.1 i = true := lawQ_99 c37
            refine A_iconst 54 (1) dX10_wrongRow_53 rfl (by decide) ?_
            refine A_goto 58 dX10_wrongRow_54 (by decide) ?_
            refine A_istore_n 59 dX10_wrongRow_58 rfl rfl (by decide) (by first | exact (ast_1 rfl) | exact ast_k) ?_
            first | refine A_iincN 62 dX10_wrongRow_59 rfl rfl (by decide) (by first | exact (ast_s (ast_1 rfl)) | exact (ast_s ast_k)) ?_ | refine A_iinc 62 (1) dX10_wrongRow_59 rfl rfl (by decide) (by decide) (by first | exact (ast_s (ast_1 rfl)) | exact (ast_s ast_k)) ?_
            refine A_goto 17 dX10_wrongRow_62 (by decide) ?_
            exact ih n0 (Nat.lt_succ_self n0) (i + 1) _  (by omega) ((by first | (simp only [c6, n6, cl_12, c26, c37, cl_q, if_true, if_false, ite_true, ite_false, and_true, true_and, and_false, false_and, and_self, or_true, true_or, or_false, false_or, or_self, not_true_eq_false, not_false_eq_true, decide_true, decide_false, Bool.and_true, Bool.true_and, Bool.and_false, Bool.false_and, Bool.and_self, Bool.or_true, Bool.true_or, Bool.or_false, Bool.false_or, Bool.not_true, Bool.not_false, cond_true, cond_false, bI_t, bI_f, Bool.false_eq_true, Bool.true_eq_false, dayC_1, dayC_21, dayC_221, dayC_222, rwG_s]; done) | (simp only [c6, n6, cl_12, c26, eq_true c37, cl_q, if_true, if_false, ite_true, ite_false, and_true, true_and, and_false, false_and, and_self, or_true, true_or, or_false, false_or, or_self, not_true_eq_false, not_false_eq_true, decide_true, decide_false, Bool.and_true, Bool.true_and, Bool.and_false, Bool.false_and, Bool.and_self, Bool.or_true, Bool.true_or, Bool.or_false, Bool.false_or, Bool.not_true, Bool.not_false, cond_true, cond_false, bI_t, bI_f, Bool.false_eq_true, Bool.true_eq_false, dayC_1, dayC_21, dayC_221, dayC_222, rwG_s]; done))) 
          · skip
            try simp only [bI_0, bI_n0, Classical.not_not, Bool.not_eq_false, Bool.true_and, Bool.and_true, decide_eq_true_eq, decide_eq_false_iff_not, dayC_1, dayC_21, dayC_221, dayC_222, inI_1, inI_2, inI_3, inI_5, inI_11, inI_16] at c37
            have cl_q := lawQ_n (L := x.2.2.1) c37 (hr i (by omega))
            refine A_aload_n 41 dX10_wrongRow_40 rfl rfl rfl ?_
            refine A_getfield 44 dX10_wrongRow_41 rfl f_X10_62 O28 rfl ?_
            refine A_iload_n 45 dX10_wrongRow_44 rfl rfl rfl ?_
            refine A_iaload 46 dX10_wrongRow_45 rfl O28 rfl (by first | assumption | exact ix_nI (by omega) (by decide) | exact ix_lit _ rfl (by omega) (by decide) | exact ix_lit _ rfl (by decide) (by decide)) ?_
            try dsimp only
            refine A_aload_n 47 dX10_wrongRow_46 rfl rfl rfl ?_
            refine A_getfield 50 dX10_wrongRow_47 rfl f_X10_88 O28 rfl ?_
            try dsimp only
            refine A_icmp_ge 57 53 dX10_wrongRow_50 (by decide) rfl (fun c50 => ?_) (fun c50 => ?_)
            · skip
              try simp only [bI_0, bI_n0, Classical.not_not, Bool.not_eq_false, Bool.true_and, Bool.and_true, decide_eq_true_eq, decide_eq_false_iff_not, dayC_1, dayC_21, dayC_221, dayC_222, inI_1, inI_2, inI_3, inI_5, inI_11, inI_16] at c50
              have n50 := c50
              replace c50 := Int32.not_lt.mpr c50
              refine A_iconst 58 (0) dX10_wrongRow_57 rfl (by decide) ?_
              refine A_istore_n 59 dX10_wrongRow_58 rfl rfl (by decide) (by first | exact (ast_1 rfl) | exact ast_k) ?_
              first | refine A_iincN 62 dX10_wrongRow_59 rfl rfl (by decide) (by first | exact (ast_s (ast_1 rfl)) | exact (ast_s ast_k)) ?_ | refine A_iinc 62 (1) dX10_wrongRow_59 rfl rfl (by decide) (by decide) (by first | exact (ast_s (ast_1 rfl)) | exact (ast_s ast_k)) ?_
              refine A_goto 17 dX10_wrongRow_62 (by decide) ?_
              exact ih n0 (Nat.lt_succ_self n0) (i + 1) _  (by omega) ((by first | (simp only [c6, n6, cl_12, c26, c37, cl_q, c50, n50, if_true, if_false, ite_true, ite_false, and_true, true_and, and_false, false_and, and_self, or_true, true_or, or_false, false_or, or_self, not_true_eq_false, not_false_eq_true, decide_true, decide_false, Bool.and_true, Bool.true_and, Bool.and_false, Bool.false_and, Bool.and_self, Bool.or_true, Bool.true_or, Bool.or_false, Bool.false_or, Bool.not_true, Bool.not_false, cond_true, cond_false, bI_t, bI_f, Bool.false_eq_true, Bool.true_eq_false, dayC_1, dayC_21, dayC_221, dayC_222, rwG_s]; done))) 
            · skip
              try simp only [bI_0, bI_n0, Classical.not_not, Bool.not_eq_false, Bool.true_and, Bool.and_true, decide_eq_true_eq, decide_eq_false_iff_not, dayC_1, dayC_21, dayC_221, dayC_222, inI_1, inI_2, inI_3, inI_5, inI_11, inI_16] at c50
              have n50 := c50
              replace c50 := Int32.not_le.mp c50
              refine A_iconst 54 (1) dX10_wrongRow_53 rfl (by decide) ?_
              refine A_goto 58 dX10_wrongRow_54 (by decide) ?_
              refine A_istore_n 59 dX10_wrongRow_58 rfl rfl (by decide) (by first | exact (ast_1 rfl) | exact ast_k) ?_
              first | refine A_iincN 62 dX10_wrongRow_59 rfl rfl (by decide) (by first | exact (ast_s (ast_1 rfl)) | exact (ast_s ast_k)) ?_ | refine A_iinc 62 (1) dX10_wrongRow_59 rfl rfl (by decide) (by decide) (by first | exact (ast_s (ast_1 rfl)) | exact (ast_s ast_k)) ?_
              refine A_goto 17 dX10_wrongRow_62 (by decide) ?_
              exact ih n0 (Nat.lt_succ_self n0) (i + 1) _  (by omega) ((by first | (simp only [c6, n6, cl_12, c26, c37, cl_q, c50, n50, if_true, if_false, ite_true, ite_false, and_true, true_and, and_false, false_and, and_self, or_true, true_or, or_false, false_or, or_self, not_true_eq_false, not_false_eq_true, decide_true, decide_false, Bool.and_true, Bool.true_and, Bool.and_false, Bool.false_and, Bool.and_self, Bool.or_true, Bool.true_or, Bool.or_false, Bool.false_or, Bool.not_true, Bool.not_false, cond_true, cond_false, bI_t, bI_f, Bool.false_eq_true, Bool.true_eq_false, dayC_1, dayC_21, dayC_221, dayC_222, rwG_s]; done))) 
    exact L17 (c.2.2.2.2.2.2.2.2) (0) (_)  (by omega) (by unfold rwG; rw [cl_12]; rfl) 
  · skip
    try simp only [bI_0, bI_n0, Classical.not_not, Bool.not_eq_false, Bool.true_and, Bool.and_true, decide_eq_true_eq, decide_eq_false_iff_not, dayC_1, dayC_21, dayC_221, dayC_222, inI_1, inI_2, inI_3, inI_5, inI_11, inI_16] at c6
    have n6 := Int32.not_lt.mp c6
    have cl_12 : decide (c.2.2.2.2.2.2.2.2 ≤ 12) = true := decide_eq_true (by
      have q := mt (nlt_iff (a := 12) (b := c.2.2.2.2.2.2.2.2) (by decide) (by omega)).mpr c6
      omega)
    refine A_iconst 10 (1) dX10_wrongRow_9 rfl (by decide) ?_
    refine A_goto 14 dX10_wrongRow_10 (by decide) ?_
    refine A_istore_n 15 dX10_wrongRow_14 rfl rfl (by decide) (by first | exact (ast_1 rfl) | exact ast_k) ?_
    refine A_iconst 16 (0) dX10_wrongRow_15 rfl (by decide) ?_
    refine A_istore_n 17 dX10_wrongRow_16 rfl rfl (by decide) (by first | exact (ast_s (ast_1 rfl)) | exact (ast_s ast_k)) ?_
    have L17 : ∀ (nq i : Nat) (g : Int32) , (nq + i = c.2.2.2.2.2.2.2.2) → (g = bI (rwG c.2.2.2.2.2.2.2.1 c.2.2.2.2.2.2.2.2 x.2.2.1 i)) → Av X l mX10_wrongRow 17 [some (aR 28 0), some (aI (g)), some (aI (nI (i)))] [] h (QI (PI0 (wRow x c.2.2.2.2.2.2.2.1 c.2.2.2.2.2.2.2.2) h)) := by
      intro nq
      induction nq using Nat.strongRecOn with
      | _ nq ih =>
      intro i g en ee
      subst ee
      refine A_iload_n 18 dX10_wrongRow_17 rfl rfl rfl ?_
      refine A_aload_n 19 dX10_wrongRow_18 rfl rfl rfl ?_
      refine A_getfield 22 dX10_wrongRow_19 rfl f_X10_236 O28 rfl ?_
      try dsimp only
      refine A_icmp_ge 65 25 dX10_wrongRow_22 (by decide) rfl (fun c22 => ?_) (fun c22 => ?_)
      · skip
        obtain rfl := (up_ge_T (N := c.2.2.2.2.2.2.2.2) c22 rfl (by omega) (by omega)).symm
        refine A_iload_n 66 dX10_wrongRow_65 rfl rfl rfl ?_
        refine A_if_eq 73 69 dX10_wrongRow_66 (by decide) rfl (fun c66 => ?_) (fun c66 => ?_)
        · skip
          try simp only [bI_0, bI_n0, Classical.not_not, Bool.not_eq_false, Bool.true_and, Bool.and_true, decide_eq_true_eq, decide_eq_false_iff_not, dayC_1, dayC_21, dayC_221, dayC_222, inI_1, inI_2, inI_3, inI_5, inI_11, inI_16] at c66
          refine A_bipush 75 (-3) dX10_wrongRow_73 rfl (by decide) ?_
          refine A_iret dX10_wrongRow_75 rfl ⟨_, rfl, (by unfold wRow; rw [show rowOK c.2.2.2.2.2.2.2.1 c.2.2.2.2.2.2.2.2 x.2.2.1 = rwG c.2.2.2.2.2.2.2.1 c.2.2.2.2.2.2.2.2 x.2.2.1 c.2.2.2.2.2.2.2.2 from rfl]; first | (simp only [c6, n6, cl_12, c66, if_true, if_false, ite_true, ite_false, and_true, true_and, and_false, false_and, and_self, or_true, true_or, or_false, false_or, or_self, not_true_eq_false, not_false_eq_true, decide_true, decide_false, Bool.and_true, Bool.true_and, Bool.and_false, Bool.false_and, Bool.and_self, Bool.or_true, Bool.true_or, Bool.or_false, Bool.false_or, Bool.not_true, Bool.not_false, cond_true, cond_false, bI_t, bI_f, Bool.false_eq_true, Bool.true_eq_false, dayC_1, dayC_21, dayC_221, dayC_222]; done) | (simp only [c6, n6, cl_12, eq_true c66, if_true, if_false, ite_true, ite_false, and_true, true_and, and_false, false_and, and_self, or_true, true_or, or_false, false_or, or_self, not_true_eq_false, not_false_eq_true, decide_true, decide_false, Bool.and_true, Bool.true_and, Bool.and_false, Bool.false_and, Bool.and_self, Bool.or_true, Bool.true_or, Bool.or_false, Bool.false_or, Bool.not_true, Bool.not_false, cond_true, cond_false, bI_t, bI_f, Bool.false_eq_true, Bool.true_eq_false, dayC_1, dayC_21, dayC_221, dayC_222]; done)), rfl⟩
        · skip
          try simp only [bI_0, bI_n0, Classical.not_not, Bool.not_eq_false, Bool.true_and, Bool.and_true, decide_eq_true_eq, decide_eq_false_iff_not, dayC_1, dayC_21, dayC_221, dayC_222, inI_1, inI_2, inI_3, inI_5, inI_11, inI_16] at c66
          refine A_iconst 70 (0) dX10_wrongRow_69 rfl (by decide) ?_
          refine A_goto 75 dX10_wrongRow_70 (by decide) ?_
          refine A_iret dX10_wrongRow_75 rfl ⟨_, rfl, (by unfold wRow; rw [show rowOK c.2.2.2.2.2.2.2.1 c.2.2.2.2.2.2.2.2 x.2.2.1 = rwG c.2.2.2.2.2.2.2.1 c.2.2.2.2.2.2.2.2 x.2.2.1 c.2.2.2.2.2.2.2.2 from rfl]; first | (simp only [c6, n6, cl_12, c66, if_true, if_false, ite_true, ite_false, and_true, true_and, and_false, false_and, and_self, or_true, true_or, or_false, false_or, or_self, not_true_eq_false, not_false_eq_true, decide_true, decide_false, Bool.and_true, Bool.true_and, Bool.and_false, Bool.false_and, Bool.and_self, Bool.or_true, Bool.true_or, Bool.or_false, Bool.false_or, Bool.not_true, Bool.not_false, cond_true, cond_false, bI_t, bI_f, Bool.false_eq_true, Bool.true_eq_false, dayC_1, dayC_21, dayC_221, dayC_222]; done)), rfl⟩
      · skip
        have hi := up_ge_F (N := c.2.2.2.2.2.2.2.2) c22 rfl (by omega) (by omega)
        obtain ⟨n0, rfl⟩ : ∃ q, nq = q + 1 := ⟨nq - 1, by omega⟩
        refine A_iload_n 26 dX10_wrongRow_25 rfl rfl rfl ?_
        refine A_if_eq 57 29 dX10_wrongRow_26 (by decide) rfl (fun c26 => ?_) (fun c26 => ?_)
        · skip
          try simp only [bI_0, bI_n0, Classical.not_not, Bool.not_eq_false, Bool.true_and, Bool.and_true, decide_eq_true_eq, decide_eq_false_iff_not, dayC_1, dayC_21, dayC_221, dayC_222, inI_1, inI_2, inI_3, inI_5, inI_11, inI_16] at c26
          refine A_iconst 58 (0) dX10_wrongRow_57 rfl (by decide) ?_
          refine A_istore_n 59 dX10_wrongRow_58 rfl rfl (by decide) (by first | exact (ast_1 rfl) | exact ast_k) ?_
          first | refine A_iincN 62 dX10_wrongRow_59 rfl rfl (by decide) (by first | exact (ast_s (ast_1 rfl)) | exact (ast_s ast_k)) ?_ | refine A_iinc 62 (1) dX10_wrongRow_59 rfl rfl (by decide) (by decide) (by first | exact (ast_s (ast_1 rfl)) | exact (ast_s ast_k)) ?_
          refine A_goto 17 dX10_wrongRow_62 (by decide) ?_
          exact ih n0 (Nat.lt_succ_self n0) (i + 1) _  (by omega) ((by first | (simp only [c6, n6, cl_12, c26, if_true, if_false, ite_true, ite_false, and_true, true_and, and_false, false_and, and_self, or_true, true_or, or_false, false_or, or_self, not_true_eq_false, not_false_eq_true, decide_true, decide_false, Bool.and_true, Bool.true_and, Bool.and_false, Bool.false_and, Bool.and_self, Bool.or_true, Bool.true_or, Bool.or_false, Bool.false_or, Bool.not_true, Bool.not_false, cond_true, cond_false, bI_t, bI_f, Bool.false_eq_true, Bool.true_eq_false, dayC_1, dayC_21, dayC_221, dayC_222, rwG_s]; done) | (simp only [c6, n6, cl_12, eq_true c26, if_true, if_false, ite_true, ite_false, and_true, true_and, and_false, false_and, and_self, or_true, true_or, or_false, false_or, or_self, not_true_eq_false, not_false_eq_true, decide_true, decide_false, Bool.and_true, Bool.true_and, Bool.and_false, Bool.false_and, Bool.and_self, Bool.or_true, Bool.true_or, Bool.or_false, Bool.false_or, Bool.not_true, Bool.not_false, cond_true, cond_false, bI_t, bI_f, Bool.false_eq_true, Bool.true_eq_false, dayC_1, dayC_21, dayC_221, dayC_222, rwG_s]; done))) 
        · skip
          try simp only [bI_0, bI_n0, Classical.not_not, Bool.not_eq_false, Bool.true_and, Bool.and_true, decide_eq_true_eq, decide_eq_false_iff_not, dayC_1, dayC_21, dayC_221, dayC_222, inI_1, inI_2, inI_3, inI_5, inI_11, inI_16] at c26
          refine A_aload_n 30 dX10_wrongRow_29 rfl rfl rfl ?_
          refine A_getfield 33 dX10_wrongRow_30 rfl f_X10_62 O28 rfl ?_
          refine A_iload_n 34 dX10_wrongRow_33 rfl rfl rfl ?_
          refine A_iaload 35 dX10_wrongRow_34 rfl O28 rfl (by first | assumption | exact ix_nI (by omega) (by decide) | exact ix_lit _ rfl (by omega) (by decide) | exact ix_lit _ rfl (by decide) (by decide)) ?_
          try dsimp only
          refine A_bipush 37 (99) dX10_wrongRow_35 rfl (by decide) ?_
          refine A_icmp_eq 53 40 dX10_wrongRow_37 (by decide) rfl (fun c37 => ?_) (fun c37 => ?_)
          · skip
            try simp only [bI_0, bI_n0, Classical.not_not, Bool.not_eq_false, Bool.true_and, Bool.and_true, decide_eq_true_eq, decide_eq_false_iff_not, dayC_1, dayC_21, dayC_221, dayC_222, inI_1, inI_2, inI_3, inI_5, inI_11, inI_16] at c37
            have cl_q : lawQ c.2.2.2.2.2.2.2.1 x.2.2.1 i = true := lawQ_99 c37
            refine A_iconst 54 (1) dX10_wrongRow_53 rfl (by decide) ?_
            refine A_goto 58 dX10_wrongRow_54 (by decide) ?_
            refine A_istore_n 59 dX10_wrongRow_58 rfl rfl (by decide) (by first | exact (ast_1 rfl) | exact ast_k) ?_
            first | refine A_iincN 62 dX10_wrongRow_59 rfl rfl (by decide) (by first | exact (ast_s (ast_1 rfl)) | exact (ast_s ast_k)) ?_ | refine A_iinc 62 (1) dX10_wrongRow_59 rfl rfl (by decide) (by decide) (by first | exact (ast_s (ast_1 rfl)) | exact (ast_s ast_k)) ?_
            refine A_goto 17 dX10_wrongRow_62 (by decide) ?_
            exact ih n0 (Nat.lt_succ_self n0) (i + 1) _  (by omega) ((by first | (simp only [c6, n6, cl_12, c26, c37, cl_q, if_true, if_false, ite_true, ite_false, and_true, true_and, and_false, false_and, and_self, or_true, true_or, or_false, false_or, or_self, not_true_eq_false, not_false_eq_true, decide_true, decide_false, Bool.and_true, Bool.true_and, Bool.and_false, Bool.false_and, Bool.and_self, Bool.or_true, Bool.true_or, Bool.or_false, Bool.false_or, Bool.not_true, Bool.not_false, cond_true, cond_false, bI_t, bI_f, Bool.false_eq_true, Bool.true_eq_false, dayC_1, dayC_21, dayC_221, dayC_222, rwG_s]; done) | (simp only [c6, n6, cl_12, c26, eq_true c37, cl_q, if_true, if_false, ite_true, ite_false, and_true, true_and, and_false, false_and, and_self, or_true, true_or, or_false, false_or, or_self, not_true_eq_false, not_false_eq_true, decide_true, decide_false, Bool.and_true, Bool.true_and, Bool.and_false, Bool.false_and, Bool.and_self, Bool.or_true, Bool.true_or, Bool.or_false, Bool.false_or, Bool.not_true, Bool.not_false, cond_true, cond_false, bI_t, bI_f, Bool.false_eq_true, Bool.true_eq_false, dayC_1, dayC_21, dayC_221, dayC_222, rwG_s]; done))) 
          · skip
            try simp only [bI_0, bI_n0, Classical.not_not, Bool.not_eq_false, Bool.true_and, Bool.and_true, decide_eq_true_eq, decide_eq_false_iff_not, dayC_1, dayC_21, dayC_221, dayC_222, inI_1, inI_2, inI_3, inI_5, inI_11, inI_16] at c37
            have cl_q := lawQ_n (L := x.2.2.1) c37 (hr i (by omega))
            refine A_aload_n 41 dX10_wrongRow_40 rfl rfl rfl ?_
            refine A_getfield 44 dX10_wrongRow_41 rfl f_X10_62 O28 rfl ?_
            refine A_iload_n 45 dX10_wrongRow_44 rfl rfl rfl ?_
            refine A_iaload 46 dX10_wrongRow_45 rfl O28 rfl (by first | assumption | exact ix_nI (by omega) (by decide) | exact ix_lit _ rfl (by omega) (by decide) | exact ix_lit _ rfl (by decide) (by decide)) ?_
            try dsimp only
            refine A_aload_n 47 dX10_wrongRow_46 rfl rfl rfl ?_
            refine A_getfield 50 dX10_wrongRow_47 rfl f_X10_88 O28 rfl ?_
            try dsimp only
            refine A_icmp_ge 57 53 dX10_wrongRow_50 (by decide) rfl (fun c50 => ?_) (fun c50 => ?_)
            · skip
              try simp only [bI_0, bI_n0, Classical.not_not, Bool.not_eq_false, Bool.true_and, Bool.and_true, decide_eq_true_eq, decide_eq_false_iff_not, dayC_1, dayC_21, dayC_221, dayC_222, inI_1, inI_2, inI_3, inI_5, inI_11, inI_16] at c50
              have n50 := c50
              replace c50 := Int32.not_lt.mpr c50
              refine A_iconst 58 (0) dX10_wrongRow_57 rfl (by decide) ?_
              refine A_istore_n 59 dX10_wrongRow_58 rfl rfl (by decide) (by first | exact (ast_1 rfl) | exact ast_k) ?_
              first | refine A_iincN 62 dX10_wrongRow_59 rfl rfl (by decide) (by first | exact (ast_s (ast_1 rfl)) | exact (ast_s ast_k)) ?_ | refine A_iinc 62 (1) dX10_wrongRow_59 rfl rfl (by decide) (by decide) (by first | exact (ast_s (ast_1 rfl)) | exact (ast_s ast_k)) ?_
              refine A_goto 17 dX10_wrongRow_62 (by decide) ?_
              exact ih n0 (Nat.lt_succ_self n0) (i + 1) _  (by omega) ((by first | (simp only [c6, n6, cl_12, c26, c37, cl_q, c50, n50, if_true, if_false, ite_true, ite_false, and_true, true_and, and_false, false_and, and_self, or_true, true_or, or_false, false_or, or_self, not_true_eq_false, not_false_eq_true, decide_true, decide_false, Bool.and_true, Bool.true_and, Bool.and_false, Bool.false_and, Bool.and_self, Bool.or_true, Bool.true_or, Bool.or_false, Bool.false_or, Bool.not_true, Bool.not_false, cond_true, cond_false, bI_t, bI_f, Bool.false_eq_true, Bool.true_eq_false, dayC_1, dayC_21, dayC_221, dayC_222, rwG_s]; done))) 
            · skip
              try simp only [bI_0, bI_n0, Classical.not_not, Bool.not_eq_false, Bool.true_and, Bool.and_true, decide_eq_true_eq, decide_eq_false_iff_not, dayC_1, dayC_21, dayC_221, dayC_222, inI_1, inI_2, inI_3, inI_5, inI_11, inI_16] at c50
              have n50 := c50
              replace c50 := Int32.not_le.mp c50
              refine A_iconst 54 (1) dX10_wrongRow_53 rfl (by decide) ?_
              refine A_goto 58 dX10_wrongRow_54 (by decide) ?_
              refine A_istore_n 59 dX10_wrongRow_58 rfl rfl (by decide) (by first | exact (ast_1 rfl) | exact ast_k) ?_
              first | refine A_iincN 62 dX10_wrongRow_59 rfl rfl (by decide) (by first | exact (ast_s (ast_1 rfl)) | exact (ast_s ast_k)) ?_ | refine A_iinc 62 (1) dX10_wrongRow_59 rfl rfl (by decide) (by decide) (by first | exact (ast_s (ast_1 rfl)) | exact (ast_s ast_k)) ?_
              refine A_goto 17 dX10_wrongRow_62 (by decide) ?_
              exact ih n0 (Nat.lt_succ_self n0) (i + 1) _  (by omega) ((by first | (simp only [c6, n6, cl_12, c26, c37, cl_q, c50, n50, if_true, if_false, ite_true, ite_false, and_true, true_and, and_false, false_and, and_self, or_true, true_or, or_false, false_or, or_self, not_true_eq_false, not_false_eq_true, decide_true, decide_false, Bool.and_true, Bool.true_and, Bool.and_false, Bool.false_and, Bool.and_self, Bool.or_true, Bool.true_or, Bool.or_false, Bool.false_or, Bool.not_true, Bool.not_false, cond_true, cond_false, bI_t, bI_f, Bool.false_eq_true, Bool.true_eq_false, dayC_1, dayC_21, dayC_221, dayC_222, rwG_s]; done))) 
    exact L17 (c.2.2.2.2.2.2.2.2) (0) (_)  (by omega) (by unfold rwG; rw [cl_12]; rfl) 
set_option maxHeartbeats 4000000 in
set_option maxRecDepth 100000 in
theorem S_X10_isRow (X : En) (l : Launch) {h : Hp} {x : PW} {c : RC} {z : RZ} (O28 : h 28 = some (rB x (-1) c z)) (hW : WOK x) (hn : c.2.2.2.2.2.2.2.2 ≤ 12) (hr : ∀ k, k < c.2.2.2.2.2.2.2.2 → ¬ c.2.2.2.2.2.2.2.1 k < 0) {s : Int32} : Ct X l mX10_isRow [aR 28 0, aI s] h (QI (PI1 (bI (decide (FW c.2.2.2.2.2.2.2.1 c.2.2.2.2.2.2.2.2 (dLaw x 0 s) = -9))) h (28) (rB x (-1) c ((dLaw x 0 s, dHas x 0 s), z.2)))) := by
  have hx := hW.1
  have hp := hW.2.1
  have h10 := hx.1
  have hf : ∀ i, i ≠ 28 → h i = h i := fun _ _ => rfl
  refine Ct.intro [some (aR 28 0), some (aI s), none, none] (by decide +kernel) rfl (Nat.le_of_ble_eq_true rfl) ?_
  refine A_aload_n 1 dX10_isRow_0 rfl rfl rfl ?_
  refine A_iload_n 2 dX10_isRow_1 rfl rfl rfl ?_
  refine A_callVI 5 (S_X10_goDay_n X l (by first | assumption | decide | omega | exact Ne.symm (by assumption)) (by first | assumption | decide | omega | exact Ne.symm (by assumption))) dX10_isRow_2 rfl kX10_goDay lk_X10_108 rfl O28 (by decide) rfl (Nat.le_of_ble_eq_true rfl) (fun v_1 h_1 qh_1 => ?_)
  obtain ⟨rfl, n0h_1, eh_1⟩ := qh_1
  replace O28 := n0h_1
  replace hf : ∀ i, i ≠ 28 → h_1 i = h i := fun i g0 => (eh_1 i g0).trans (hf i g0)
  refine A_pop 6 dX10_isRow_5 rfl rfl ?_
  refine A_iconst 7 (1) dX10_isRow_6 rfl (by decide) ?_
  refine A_istore_n 8 dX10_isRow_7 rfl rfl (by decide) (by first | exact (ast_s (ast_1 rfl)) | exact (ast_s ast_k)) ?_
  refine A_iconst 9 (0) dX10_isRow_8 rfl (by decide) ?_
  refine A_istore_n 10 dX10_isRow_9 rfl rfl (by decide) (by first | exact (ast_s (ast_s (ast_1 rfl))) | exact (ast_s (ast_s ast_k))) ?_
  have L10 : ∀ (nq k : Nat) (g : Int32) , (nq + k = c.2.2.2.2.2.2.2.2) → (g = bI (allN (rwQ c.2.2.2.2.2.2.2.1 (dLaw x 0 s)) k)) → Av X l mX10_isRow 10 [some (aR 28 0), some (aI (s)), some (aI (g)), some (aI (nI (k)))] [] h_1 (QI (PI1 (bI (decide (FW c.2.2.2.2.2.2.2.1 c.2.2.2.2.2.2.2.2 (dLaw x 0 s) = -9))) h (28) (rB x (-1) c ((dLaw x 0 s, dHas x 0 s), z.2)))) := by
    intro nq
    induction nq using Nat.strongRecOn with
    | _ nq ih =>
    intro k g en ee
    subst ee
    refine A_iload_n 11 dX10_isRow_10 rfl rfl rfl ?_
    refine A_aload_n 12 dX10_isRow_11 rfl rfl rfl ?_
    refine A_getfield 15 dX10_isRow_12 rfl f_X10_236 O28 rfl ?_
    try dsimp only
    refine A_icmp_ge 65 18 dX10_isRow_15 (by decide) rfl (fun c15 => ?_) (fun c15 => ?_)
    · skip
      obtain rfl := (up_ge_T (N := c.2.2.2.2.2.2.2.2) c15 rfl (by omega) (by omega)).symm
      refine A_iload_n 66 dX10_isRow_65 rfl rfl rfl ?_
      refine A_zret dX10_isRow_66 rfl (by exact bI01 _) ⟨_, rfl, (by rw [FW_all hn]), O28, hf⟩
    · skip
      have hi := up_ge_F (N := c.2.2.2.2.2.2.2.2) c15 rfl (by omega) (by omega)
      obtain ⟨n0, rfl⟩ : ∃ q, nq = q + 1 := ⟨nq - 1, by omega⟩
      refine A_iload_n 19 dX10_isRow_18 rfl rfl rfl ?_
      refine A_if_eq 57 22 dX10_isRow_19 (by decide) rfl (fun c19 => ?_) (fun c19 => ?_)
      · skip
        try simp only [bI_0, bI_n0, Classical.not_not, Bool.not_eq_false, Bool.true_and, Bool.and_true, decide_eq_true_eq, decide_eq_false_iff_not, dayC_1, dayC_21, dayC_221, dayC_222, inI_1, inI_2, inI_3, inI_5, inI_11, inI_16] at c19
        refine A_iconst 58 (0) dX10_isRow_57 rfl (by decide) ?_
        refine A_istore_n 59 dX10_isRow_58 rfl rfl (by decide) (by first | exact (ast_s (ast_1 rfl)) | exact (ast_s ast_k)) ?_
        first | refine A_iincN 62 dX10_isRow_59 rfl rfl (by decide) (by first | exact (ast_s (ast_s (ast_1 rfl))) | exact (ast_s (ast_s ast_k))) ?_ | refine A_iinc 62 (1) dX10_isRow_59 rfl rfl (by decide) (by decide) (by first | exact (ast_s (ast_s (ast_1 rfl))) | exact (ast_s (ast_s ast_k))) ?_
        refine A_goto 10 dX10_isRow_62 (by decide) ?_
        exact ih n0 (Nat.lt_succ_self n0) (k + 1) _  (by omega) ((by first | (simp only [c19, if_true, if_false, ite_true, ite_false, and_true, true_and, and_false, false_and, and_self, or_true, true_or, or_false, false_or, or_self, not_true_eq_false, not_false_eq_true, decide_true, decide_false, Bool.and_true, Bool.true_and, Bool.and_false, Bool.false_and, Bool.and_self, Bool.or_true, Bool.true_or, Bool.or_false, Bool.false_or, Bool.not_true, Bool.not_false, cond_true, cond_false, bI_t, bI_f, Bool.false_eq_true, Bool.true_eq_false, dayC_1, dayC_21, dayC_221, dayC_222, allN]; done) | (simp only [eq_true c19, if_true, if_false, ite_true, ite_false, and_true, true_and, and_false, false_and, and_self, or_true, true_or, or_false, false_or, or_self, not_true_eq_false, not_false_eq_true, decide_true, decide_false, Bool.and_true, Bool.true_and, Bool.and_false, Bool.false_and, Bool.and_self, Bool.or_true, Bool.true_or, Bool.or_false, Bool.false_or, Bool.not_true, Bool.not_false, cond_true, cond_false, bI_t, bI_f, Bool.false_eq_true, Bool.true_eq_false, dayC_1, dayC_21, dayC_221, dayC_222, allN]; done))) 
      · skip
        try simp only [bI_0, bI_n0, Classical.not_not, Bool.not_eq_false, Bool.true_and, Bool.and_true, decide_eq_true_eq, decide_eq_false_iff_not, dayC_1, dayC_21, dayC_221, dayC_222, inI_1, inI_2, inI_3, inI_5, inI_11, inI_16] at c19
        refine A_aload_n 23 dX10_isRow_22 rfl rfl rfl ?_
        refine A_getfield 26 dX10_isRow_23 rfl f_X10_32 O28 rfl ?_
        refine A_iload_n 27 dX10_isRow_26 rfl rfl rfl ?_
        refine A_iaload 28 dX10_isRow_27 rfl O28 rfl (by first | assumption | exact ix_nI (by omega) (by decide) | exact ix_lit _ rfl (by omega) (by decide) | exact ix_lit _ rfl (by decide) (by decide)) ?_
        try dsimp only
        refine A_aload_n 29 dX10_isRow_28 rfl rfl rfl ?_
        refine A_getfield 32 dX10_isRow_29 rfl f_X10_62 O28 rfl ?_
        refine A_iload_n 33 dX10_isRow_32 rfl rfl rfl ?_
        refine A_iaload 34 dX10_isRow_33 rfl O28 rfl (by first | assumption | exact ix_nI (by omega) (by decide) | exact ix_lit _ rfl (by omega) (by decide) | exact ix_lit _ rfl (by decide) (by decide)) ?_
        try dsimp only
        refine A_bipush 36 (99) dX10_isRow_34 rfl (by decide) ?_
        refine A_icmp_ne 44 39 dX10_isRow_36 (by decide) rfl (fun c36 => ?_) (fun c36 => ?_)
        · skip
          try simp only [bI_0, bI_n0, Classical.not_not, Bool.not_eq_false, Bool.true_and, Bool.and_true, decide_eq_true_eq, decide_eq_false_iff_not, dayC_1, dayC_21, dayC_221, dayC_222, inI_1, inI_2, inI_3, inI_5, inI_11, inI_16] at c36
          have cl_q := rwQ_n (x := x) (nv := 0) (s := s) c36 (hr k (by omega))
          refine A_aload_n 45 dX10_isRow_44 rfl rfl rfl ?_
          refine A_getfield 48 dX10_isRow_45 rfl f_X10_62 O28 rfl ?_
          refine A_iload_n 49 dX10_isRow_48 rfl rfl rfl ?_
          refine A_iaload 50 dX10_isRow_49 rfl O28 rfl (by first | assumption | exact ix_nI (by omega) (by decide) | exact ix_lit _ rfl (by omega) (by decide) | exact ix_lit _ rfl (by decide) (by decide)) ?_
          try dsimp only
          refine A_icmp_ne 57 53 dX10_isRow_50 (by decide) rfl (fun c50 => ?_) (fun c50 => ?_)
          · skip
            try simp only [bI_0, bI_n0, Classical.not_not, Bool.not_eq_false, Bool.true_and, Bool.and_true, decide_eq_true_eq, decide_eq_false_iff_not, dayC_1, dayC_21, dayC_221, dayC_222, inI_1, inI_2, inI_3, inI_5, inI_11, inI_16] at c50
            refine A_iconst 58 (0) dX10_isRow_57 rfl (by decide) ?_
            refine A_istore_n 59 dX10_isRow_58 rfl rfl (by decide) (by first | exact (ast_s (ast_1 rfl)) | exact (ast_s ast_k)) ?_
            first | refine A_iincN 62 dX10_isRow_59 rfl rfl (by decide) (by first | exact (ast_s (ast_s (ast_1 rfl))) | exact (ast_s (ast_s ast_k))) ?_ | refine A_iinc 62 (1) dX10_isRow_59 rfl rfl (by decide) (by decide) (by first | exact (ast_s (ast_s (ast_1 rfl))) | exact (ast_s (ast_s ast_k))) ?_
            refine A_goto 10 dX10_isRow_62 (by decide) ?_
            exact ih n0 (Nat.lt_succ_self n0) (k + 1) _  (by omega) ((by first | (simp only [c19, c36, cl_q, c50, if_true, if_false, ite_true, ite_false, and_true, true_and, and_false, false_and, and_self, or_true, true_or, or_false, false_or, or_self, not_true_eq_false, not_false_eq_true, decide_true, decide_false, Bool.and_true, Bool.true_and, Bool.and_false, Bool.false_and, Bool.and_self, Bool.or_true, Bool.true_or, Bool.or_false, Bool.false_or, Bool.not_true, Bool.not_false, cond_true, cond_false, bI_t, bI_f, Bool.false_eq_true, Bool.true_eq_false, dayC_1, dayC_21, dayC_221, dayC_222, allN]; done))) 
          · skip
            try simp only [bI_0, bI_n0, Classical.not_not, Bool.not_eq_false, Bool.true_and, Bool.and_true, decide_eq_true_eq, decide_eq_false_iff_not, dayC_1, dayC_21, dayC_221, dayC_222, inI_1, inI_2, inI_3, inI_5, inI_11, inI_16] at c50
            refine A_iconst 54 (1) dX10_isRow_53 rfl (by decide) ?_
            refine A_goto 58 dX10_isRow_54 (by decide) ?_
            refine A_istore_n 59 dX10_isRow_58 rfl rfl (by decide) (by first | exact (ast_s (ast_1 rfl)) | exact (ast_s ast_k)) ?_
            first | refine A_iincN 62 dX10_isRow_59 rfl rfl (by decide) (by first | exact (ast_s (ast_s (ast_1 rfl))) | exact (ast_s (ast_s ast_k))) ?_ | refine A_iinc 62 (1) dX10_isRow_59 rfl rfl (by decide) (by decide) (by first | exact (ast_s (ast_s (ast_1 rfl))) | exact (ast_s (ast_s ast_k))) ?_
            refine A_goto 10 dX10_isRow_62 (by decide) ?_
            exact ih n0 (Nat.lt_succ_self n0) (k + 1) _  (by omega) ((by first | (simp only [c19, c36, cl_q, c50, if_true, if_false, ite_true, ite_false, and_true, true_and, and_false, false_and, and_self, or_true, true_or, or_false, false_or, or_self, not_true_eq_false, not_false_eq_true, decide_true, decide_false, Bool.and_true, Bool.true_and, Bool.and_false, Bool.false_and, Bool.and_self, Bool.or_true, Bool.true_or, Bool.or_false, Bool.false_or, Bool.not_true, Bool.not_false, cond_true, cond_false, bI_t, bI_f, Bool.false_eq_true, Bool.true_eq_false, dayC_1, dayC_21, dayC_221, dayC_222, allN]; done) | (simp only [c19, c36, cl_q, eq_true c50, if_true, if_false, ite_true, ite_false, and_true, true_and, and_false, false_and, and_self, or_true, true_or, or_false, false_or, or_self, not_true_eq_false, not_false_eq_true, decide_true, decide_false, Bool.and_true, Bool.true_and, Bool.and_false, Bool.false_and, Bool.and_self, Bool.or_true, Bool.true_or, Bool.or_false, Bool.false_or, Bool.not_true, Bool.not_false, cond_true, cond_false, bI_t, bI_f, Bool.false_eq_true, Bool.true_eq_false, dayC_1, dayC_21, dayC_221, dayC_222, allN]; done))) 
        · skip
          try simp only [bI_0, bI_n0, Classical.not_not, Bool.not_eq_false, Bool.true_and, Bool.and_true, decide_eq_true_eq, decide_eq_false_iff_not, dayC_1, dayC_21, dayC_221, dayC_222, inI_1, inI_2, inI_3, inI_5, inI_11, inI_16] at c36
          have cl_q := rwQ_99 (nv := 0) (s := s) h10 c36
          refine A_bipush 41 (-9) dX10_isRow_39 rfl (by decide) ?_
          refine A_goto 50 dX10_isRow_41 (by decide) ?_
          refine A_icmp_ne 57 53 dX10_isRow_50 (by decide) rfl (fun c50 => ?_) (fun c50 => ?_)
          · skip
            try simp only [bI_0, bI_n0, Classical.not_not, Bool.not_eq_false, Bool.true_and, Bool.and_true, decide_eq_true_eq, decide_eq_false_iff_not, dayC_1, dayC_21, dayC_221, dayC_222, inI_1, inI_2, inI_3, inI_5, inI_11, inI_16] at c50
            refine A_iconst 58 (0) dX10_isRow_57 rfl (by decide) ?_
            refine A_istore_n 59 dX10_isRow_58 rfl rfl (by decide) (by first | exact (ast_s (ast_1 rfl)) | exact (ast_s ast_k)) ?_
            first | refine A_iincN 62 dX10_isRow_59 rfl rfl (by decide) (by first | exact (ast_s (ast_s (ast_1 rfl))) | exact (ast_s (ast_s ast_k))) ?_ | refine A_iinc 62 (1) dX10_isRow_59 rfl rfl (by decide) (by decide) (by first | exact (ast_s (ast_s (ast_1 rfl))) | exact (ast_s (ast_s ast_k))) ?_
            refine A_goto 10 dX10_isRow_62 (by decide) ?_
            exact ih n0 (Nat.lt_succ_self n0) (k + 1) _  (by omega) ((by first | (simp only [c19, c36, cl_q, c50, if_true, if_false, ite_true, ite_false, and_true, true_and, and_false, false_and, and_self, or_true, true_or, or_false, false_or, or_self, not_true_eq_false, not_false_eq_true, decide_true, decide_false, Bool.and_true, Bool.true_and, Bool.and_false, Bool.false_and, Bool.and_self, Bool.or_true, Bool.true_or, Bool.or_false, Bool.false_or, Bool.not_true, Bool.not_false, cond_true, cond_false, bI_t, bI_f, Bool.false_eq_true, Bool.true_eq_false, dayC_1, dayC_21, dayC_221, dayC_222, allN]; done) | (simp only [c19, eq_true c36, cl_q, c50, if_true, if_false, ite_true, ite_false, and_true, true_and, and_false, false_and, and_self, or_true, true_or, or_false, false_or, or_self, not_true_eq_false, not_false_eq_true, decide_true, decide_false, Bool.and_true, Bool.true_and, Bool.and_false, Bool.false_and, Bool.and_self, Bool.or_true, Bool.true_or, Bool.or_false, Bool.false_or, Bool.not_true, Bool.not_false, cond_true, cond_false, bI_t, bI_f, Bool.false_eq_true, Bool.true_eq_false, dayC_1, dayC_21, dayC_221, dayC_222, allN]; done))) 
          · skip
            try simp only [bI_0, bI_n0, Classical.not_not, Bool.not_eq_false, Bool.true_and, Bool.and_true, decide_eq_true_eq, decide_eq_false_iff_not, dayC_1, dayC_21, dayC_221, dayC_222, inI_1, inI_2, inI_3, inI_5, inI_11, inI_16] at c50
            refine A_iconst 54 (1) dX10_isRow_53 rfl (by decide) ?_
            refine A_goto 58 dX10_isRow_54 (by decide) ?_
            refine A_istore_n 59 dX10_isRow_58 rfl rfl (by decide) (by first | exact (ast_s (ast_1 rfl)) | exact (ast_s ast_k)) ?_
            first | refine A_iincN 62 dX10_isRow_59 rfl rfl (by decide) (by first | exact (ast_s (ast_s (ast_1 rfl))) | exact (ast_s (ast_s ast_k))) ?_ | refine A_iinc 62 (1) dX10_isRow_59 rfl rfl (by decide) (by decide) (by first | exact (ast_s (ast_s (ast_1 rfl))) | exact (ast_s (ast_s ast_k))) ?_
            refine A_goto 10 dX10_isRow_62 (by decide) ?_
            exact ih n0 (Nat.lt_succ_self n0) (k + 1) _  (by omega) ((by first | (simp only [c19, c36, cl_q, c50, if_true, if_false, ite_true, ite_false, and_true, true_and, and_false, false_and, and_self, or_true, true_or, or_false, false_or, or_self, not_true_eq_false, not_false_eq_true, decide_true, decide_false, Bool.and_true, Bool.true_and, Bool.and_false, Bool.false_and, Bool.and_self, Bool.or_true, Bool.true_or, Bool.or_false, Bool.false_or, Bool.not_true, Bool.not_false, cond_true, cond_false, bI_t, bI_f, Bool.false_eq_true, Bool.true_eq_false, dayC_1, dayC_21, dayC_221, dayC_222, allN]; done) | (simp only [c19, eq_true c36, cl_q, eq_true c50, if_true, if_false, ite_true, ite_false, and_true, true_and, and_false, false_and, and_self, or_true, true_or, or_false, false_or, or_self, not_true_eq_false, not_false_eq_true, decide_true, decide_false, Bool.and_true, Bool.true_and, Bool.and_false, Bool.false_and, Bool.and_self, Bool.or_true, Bool.true_or, Bool.or_false, Bool.false_or, Bool.not_true, Bool.not_false, cond_true, cond_false, bI_t, bI_f, Bool.false_eq_true, Bool.true_eq_false, dayC_1, dayC_21, dayC_221, dayC_222, allN]; done))) 
  exact L10 (c.2.2.2.2.2.2.2.2) (0) (_)  (by omega) (rfl) 
set_option maxHeartbeats 4000000 in
set_option maxRecDepth 100000 in
theorem S_X10_layCould (X : En) (l : Launch) {h : Hp} {x : PW} {c : RC} {z : RZ} (O28 : h 28 = some (rB x (-1) c z)) (hW : WOK x) (hn : c.2.2.2.2.2.2.2.2 ≤ 12) (hr : ∀ k, k < c.2.2.2.2.2.2.2.2 → ¬ c.2.2.2.2.2.2.2.1 k < 0) : Ct X l mX10_layCould [aR 28 0] h (QI (fun vr h2 => (cdN x c.2.2.2.2.2.2.2.1 c.2.2.2.2.2.2.2.2) = vr ∧ ∃ (z1 : RZ), h2 (28) = some (rB x (-1) c z1) ∧ (∀ j, j < 256 → z1.2.2.2.1 j = bI (fitQ x c.2.2.2.2.2.2.2.1 c.2.2.2.2.2.2.2.2 j)) ∧ ∀ i, i ≠ 28 → h2 i = h i)) := by
  have hx := hW.1
  have hp := hW.2.1
  have h10 := hx.1
  have hf : ∀ i, i ≠ 28 → h i = h i := fun _ _ => rfl
  refine Ct.intro [some (aR 28 0), none, none] (by decide +kernel) rfl (Nat.le_of_ble_eq_true rfl) ?_
  refine A_iconst 1 (0) dX10_layCould_0 rfl (by decide) ?_
  refine A_istore_n 2 dX10_layCould_1 rfl rfl (by decide) (by first | exact (ast_1 rfl) | exact ast_k) ?_
  refine A_iconst 3 (0) dX10_layCould_2 rfl (by decide) ?_
  refine A_istore_n 4 dX10_layCould_3 rfl rfl (by decide) (by first | exact (ast_s (ast_1 rfl)) | exact (ast_s ast_k)) ?_
  have L4 : ∀ (nq i : Nat) (u : Int32) (g4 : Hp) (z2 : RZ), (nq + i = 256) → (foldN (cdF x c.2.2.2.2.2.2.2.1 c.2.2.2.2.2.2.2.2) (0) i = (u)) → (∀ j, j < i → z2.2.2.2.1 j = bI (fitQ x c.2.2.2.2.2.2.2.1 c.2.2.2.2.2.2.2.2 j)) → (g4 28 = some (rB x (-1) c z2)) → (∀ i, i ≠ 28 → g4 i = h i) → Av X l mX10_layCould 4 [some (aR 28 0), some (aI (u)), some (aI (nI (i)))] [] g4 (QI (fun vr h2 => (cdN x c.2.2.2.2.2.2.2.1 c.2.2.2.2.2.2.2.2) = vr ∧ ∃ (z1 : RZ), h2 (28) = some (rB x (-1) c z1) ∧ (∀ j, j < 256 → z1.2.2.2.1 j = bI (fitQ x c.2.2.2.2.2.2.2.1 c.2.2.2.2.2.2.2.2 j)) ∧ ∀ i, i ≠ 28 → h2 i = h i)) := by
    intro nq
    induction nq using Nat.strongRecOn with
    | _ nq ih =>
    intro i u g4 z2 en ee hy O28 hf
    refine A_iload_n 5 dX10_layCould_4 rfl rfl rfl ?_
    refine A_sipush 8 (256) dX10_layCould_5 rfl (by decide) ?_
    refine A_icmp_ge 45 11 dX10_layCould_8 (by decide) rfl (fun c8 => ?_) (fun c8 => ?_)
    · skip
      obtain rfl := (up_ge_T (N := 256) c8 rfl (by omega) (by omega)).symm
      refine A_iload_n 46 dX10_layCould_45 rfl rfl rfl ?_
      refine A_iret dX10_layCould_46 rfl ⟨_, rfl, (by unfold cdN; rw [ee]), _, O28, (hy), hf⟩
    · skip
      have hi := up_ge_F (N := 256) c8 rfl (by omega) (by omega)
      obtain ⟨n0, rfl⟩ : ∃ q, nq = q + 1 := ⟨nq - 1, by omega⟩
      refine A_aload_n 12 dX10_layCould_11 rfl rfl rfl ?_
      refine A_getfield 15 dX10_layCould_12 rfl f_X10_65 O28 rfl ?_
      refine A_iload_n 16 dX10_layCould_15 rfl rfl rfl ?_
      refine A_aload_n 17 dX10_layCould_16 rfl rfl rfl ?_
      refine A_iload_n 18 dX10_layCould_17 rfl rfl rfl ?_
      refine A_callVI 21 (S_X10_isRow X l (by first | assumption | decide | omega | exact Ne.symm (by assumption)) (by first | assumption | decide | omega | exact Ne.symm (by assumption)) (by first | assumption | decide | omega | exact Ne.symm (by assumption)) (by first | assumption | decide | omega | exact Ne.symm (by assumption))) dX10_layCould_18 rfl kX10_isRow lk_X10_239 rfl O28 (by decide) rfl (Nat.le_of_ble_eq_true rfl) (fun v_1 h_1 qh_1 => ?_)
      obtain ⟨rfl, n0h_1, eh_1⟩ := qh_1
      replace O28 := n0h_1
      replace hf : ∀ i, i ≠ 28 → h_1 i = h i := fun i g0 => (eh_1 i g0).trans (hf i g0)
      rw [show decide (FW c.2.2.2.2.2.2.2.1 c.2.2.2.2.2.2.2.2 (dLaw x 0 (nI i)) = -9) = fitQ x c.2.2.2.2.2.2.2.1 c.2.2.2.2.2.2.2.2 i from rfl]
      refine T_X10_17 22 dX10_layCould_21 rfl O28 (by first | assumption | exact ix_nI (by omega) (by decide) | exact ix_lit _ rfl (by omega) (by decide) | exact ix_lit _ rfl (by decide) (by decide)) (by first | with_reducible exact bI01 _ | with_reducible exact Or.inl rfl | with_reducible exact Or.inr rfl | assumption) (fun h_2 nh_2 eh_2 => ?_)
      replace O28 := nh_2
      replace hf : ∀ i, i ≠ 28 → h_2 i = h i := fun i g0 => (eh_2 i g0).trans (hf i g0)
      try dsimp only at O28
      refine A_iload_n 23 dX10_layCould_22 rfl rfl rfl ?_
      refine A_aload_n 24 dX10_layCould_23 rfl rfl rfl ?_
      refine A_getfield 27 dX10_layCould_24 rfl f_X10_65 O28 rfl ?_
      refine A_iload_n 28 dX10_layCould_27 rfl rfl rfl ?_
      refine A_baload 29 dX10_layCould_28 rfl O28 rfl (by first | assumption | exact ix_nI (by omega) (by decide) | exact ix_lit _ rfl (by omega) (by decide) | exact ix_lit _ rfl (by decide) (by decide)) ?_
      try dsimp only
      rw [up_self]
      refine A_if_eq 36 32 dX10_layCould_29 (by decide) rfl (fun c29 => ?_) (fun c29 => ?_)
      · skip
        try simp only [bI_0, bI_n0, Classical.not_not, Bool.not_eq_false, Bool.true_and, Bool.and_true, decide_eq_true_eq, decide_eq_false_iff_not, dayC_1, dayC_21, dayC_221, dayC_222, inI_1, inI_2, inI_3, inI_5, inI_11, inI_16] at c29
        refine A_iconst 37 (0) dX10_layCould_36 rfl (by decide) ?_
        refine A_iadd 38 dX10_layCould_37 rfl ?_
        refine A_istore_n 39 dX10_layCould_38 rfl rfl (by decide) (by first | exact (ast_1 rfl) | exact ast_k) ?_
        first | refine A_iincN 42 dX10_layCould_39 rfl rfl (by decide) (by first | exact (ast_s (ast_1 rfl)) | exact (ast_s ast_k)) ?_ | refine A_iinc 42 (1) dX10_layCould_39 rfl rfl (by decide) (by decide) (by first | exact (ast_s (ast_1 rfl)) | exact (ast_s ast_k)) ?_
        refine A_goto 4 dX10_layCould_42 (by decide) ?_
        exact ih n0 (Nat.lt_succ_self n0) (i + 1) _ h_2 _ (by omega) ((foldN_s (cdF x c.2.2.2.2.2.2.2.1 c.2.2.2.2.2.2.2.2) (0) i).trans ((congrArg ((cdF x c.2.2.2.2.2.2.2.1 c.2.2.2.2.2.2.2.2) i) ee).trans (by first | with_reducible rfl | (simp only [c29, if_true, if_false, ite_true, ite_false, and_true, true_and, and_false, false_and, and_self, or_true, true_or, or_false, false_or, or_self, not_true_eq_false, not_false_eq_true, decide_true, decide_false, Bool.and_true, Bool.true_and, Bool.and_false, Bool.false_and, Bool.and_self, Bool.or_true, Bool.true_or, Bool.or_false, Bool.false_or, Bool.not_true, Bool.not_false, cond_true, cond_false, bI_t, bI_f, Bool.false_eq_true, Bool.true_eq_false, dayC_1, dayC_21, dayC_221, dayC_222, cdF, Int32.add_zero]; done) | (simp only [eq_true c29, if_true, if_false, ite_true, ite_false, and_true, true_and, and_false, false_and, and_self, or_true, true_or, or_false, false_or, or_self, not_true_eq_false, not_false_eq_true, decide_true, decide_false, Bool.and_true, Bool.true_and, Bool.and_false, Bool.false_and, Bool.and_self, Bool.or_true, Bool.true_or, Bool.or_false, Bool.false_or, Bool.not_true, Bool.not_false, cond_true, cond_false, bI_t, bI_f, Bool.false_eq_true, Bool.true_eq_false, dayC_1, dayC_21, dayC_221, dayC_222, cdF, Int32.add_zero]; done) | (simp [*, cdF, Int32.add_zero]; done) | with_reducible_and_instances rfl))) (by exact up_eq (D := fun j => bI (fitQ x c.2.2.2.2.2.2.2.1 c.2.2.2.2.2.2.2.2 j)) hy rfl) O28 hf
      · skip
        try simp only [bI_0, bI_n0, Classical.not_not, Bool.not_eq_false, Bool.true_and, Bool.and_true, decide_eq_true_eq, decide_eq_false_iff_not, dayC_1, dayC_21, dayC_221, dayC_222, inI_1, inI_2, inI_3, inI_5, inI_11, inI_16] at c29
        refine A_iconst 33 (1) dX10_layCould_32 rfl (by decide) ?_
        refine A_goto 37 dX10_layCould_33 (by decide) ?_
        refine A_iadd 38 dX10_layCould_37 rfl ?_
        refine A_istore_n 39 dX10_layCould_38 rfl rfl (by decide) (by first | exact (ast_1 rfl) | exact ast_k) ?_
        first | refine A_iincN 42 dX10_layCould_39 rfl rfl (by decide) (by first | exact (ast_s (ast_1 rfl)) | exact (ast_s ast_k)) ?_ | refine A_iinc 42 (1) dX10_layCould_39 rfl rfl (by decide) (by decide) (by first | exact (ast_s (ast_1 rfl)) | exact (ast_s ast_k)) ?_
        refine A_goto 4 dX10_layCould_42 (by decide) ?_
        exact ih n0 (Nat.lt_succ_self n0) (i + 1) _ h_2 _ (by omega) ((foldN_s (cdF x c.2.2.2.2.2.2.2.1 c.2.2.2.2.2.2.2.2) (0) i).trans ((congrArg ((cdF x c.2.2.2.2.2.2.2.1 c.2.2.2.2.2.2.2.2) i) ee).trans (by first | with_reducible rfl | (simp only [c29, if_true, if_false, ite_true, ite_false, and_true, true_and, and_false, false_and, and_self, or_true, true_or, or_false, false_or, or_self, not_true_eq_false, not_false_eq_true, decide_true, decide_false, Bool.and_true, Bool.true_and, Bool.and_false, Bool.false_and, Bool.and_self, Bool.or_true, Bool.true_or, Bool.or_false, Bool.false_or, Bool.not_true, Bool.not_false, cond_true, cond_false, bI_t, bI_f, Bool.false_eq_true, Bool.true_eq_false, dayC_1, dayC_21, dayC_221, dayC_222, cdF, Int32.add_zero]; done) | (simp [*, cdF, Int32.add_zero]; done) | with_reducible_and_instances rfl))) (by exact up_eq (D := fun j => bI (fitQ x c.2.2.2.2.2.2.2.1 c.2.2.2.2.2.2.2.2 j)) hy rfl) O28 hf
  exact L4 (256) (0) (_) h (_) (by omega) (rfl) (fun j hj => absurd hj (Nat.not_lt_zero j)) O28 hf
set_option maxHeartbeats 4000000 in
set_option maxRecDepth 100000 in
theorem S_X10_had (X : En) (l : Launch) {h : Hp} {x : PW} {c : RC} {z : RZ} (O28 : h 28 = some (rB x (-1) c z)) (hW : WOK x) (hn : c.2.2.2.2.2.2.2.2 ≤ 16) (hr : ∀ k, k < c.2.2.2.2.2.2.2.2 → ¬ c.2.2.2.2.2.2.2.1 k < 0) {v : Int32} : Ct X l mX10_had [aR 28 0, aI v] h (QI (fun vr h2 => (rV (w01R x c.2.2.2.2.2.2.2.1 c.2.2.2.2.2.2.2.2 v) (aHad x c.2.2.2.2.2.2.2.1 c.2.2.2.2.2.2.2.2 v)) = vr ∧ ∃ (z1 : RZ), h2 (28) = some (rB x (-1) (rS (w01R x c.2.2.2.2.2.2.2.1 c.2.2.2.2.2.2.2.2 v) c.1, c.2) z1) ∧ ∀ i, i ≠ 28 → h2 i = h i)) := by
  have hx := hW.1
  have hp := hW.2.1
  have h10 := hx.1
  have hf : ∀ i, i ≠ 28 → h i = h i := fun _ _ => rfl
  refine Ct.intro [some (aR 28 0), some (aI v), none, none, none, none] (by decide +kernel) rfl (Nat.le_of_ble_eq_true rfl) ?_
  refine A_aload_n 1 dX10_had_0 rfl rfl rfl ?_
  refine A_iconst 2 (0) dX10_had_1 rfl (by decide) ?_
  refine P_X10_9 5 dX10_had_2 rfl fw_X10_78 O28 (fun h_1 nh_1 eh_1 => ?_)
  replace O28 := nh_1
  replace hf : ∀ i, i ≠ 28 → h_1 i = h i := fun i g0 => (eh_1 i g0).trans (hf i g0)
  try dsimp only at O28
  refine A_iconst 6 (0) dX10_had_5 rfl (by decide) ?_
  refine A_iload_n 7 dX10_had_6 rfl rfl rfl ?_
  refine A_iconst 8 (1) dX10_had_7 rfl (by decide) ?_
  refine A_callSI 11 (S_X10_wrongBit X l) dX10_had_8 rfl kX10_wrongBit lk_X10_225 rfl (by decide) rfl (Nat.le_of_ble_eq_true rfl) (fun v_2 h_2 qh_2 => ?_)
  obtain ⟨rfl, rfl⟩ := qh_2
  refine A_istore_n 12 dX10_had_11 rfl rfl (by decide) (by first | exact (ast_s (ast_1 rfl)) | exact (ast_s ast_k)) ?_
  refine A_joinI 24 (fun vj => vj = w01R x c.2.2.2.2.2.2.2.1 c.2.2.2.2.2.2.2.2 v) (fun j24 => ?_) (fun v24 e24 => ?_)
  · skip
    refine A_iload_n 13 dX10_had_12 rfl rfl rfl ?_
    refine A_if_ne 23 16 dX10_had_13 (by decide) rfl (fun c13 => ?_) (fun c13 => ?_)
    · skip
      try simp only [bI_0, bI_n0, Classical.not_not, Bool.not_eq_false, Bool.true_and, Bool.and_true, decide_eq_true_eq, decide_eq_false_iff_not, dayC_1, dayC_21, dayC_221, dayC_222, inI_1, inI_2, inI_3, inI_5, inI_11, inI_16] at c13
      refine A_iload_n 24 dX10_had_23 rfl rfl rfl ?_
      exact j24 _ (by rw [w01R_eq]; first | (simp only [c13, if_true, if_false, ite_true, ite_false, and_true, true_and, and_false, false_and, and_self, or_true, true_or, or_false, false_or, or_self, not_true_eq_false, not_false_eq_true, decide_true, decide_false, Bool.and_true, Bool.true_and, Bool.and_false, Bool.false_and, Bool.and_self, Bool.or_true, Bool.true_or, Bool.or_false, Bool.false_or, Bool.not_true, Bool.not_false, cond_true, cond_false, bI_t, bI_f, Bool.false_eq_true, Bool.true_eq_false, dayC_1, dayC_21, dayC_221, dayC_222]; done))
    · skip
      try simp only [bI_0, bI_n0, Classical.not_not, Bool.not_eq_false, Bool.true_and, Bool.and_true, decide_eq_true_eq, decide_eq_false_iff_not, dayC_1, dayC_21, dayC_221, dayC_222, inI_1, inI_2, inI_3, inI_5, inI_11, inI_16] at c13
      refine A_aload_n 17 dX10_had_16 rfl rfl rfl ?_
      refine A_callVI 20 (S_X10_wrongRow X l (by first | assumption | decide | omega | exact Ne.symm (by assumption)) (by first | assumption | decide | omega | exact Ne.symm (by assumption)) (by first | assumption | decide | omega | exact Ne.symm (by assumption)) (by first | assumption | decide | omega | exact Ne.symm (by assumption))) dX10_had_17 rfl kX10_wrongRow lk_X10_242 rfl O28 (by decide) rfl (Nat.le_of_ble_eq_true rfl) (fun v_3 h_3 qh_3 => ?_)
      obtain ⟨rfl, rfl⟩ := qh_3
      refine A_goto 24 dX10_had_20 (by decide) ?_
      exact j24 _ (by rw [w01R_eq]; first | (simp only [c13, if_true, if_false, ite_true, ite_false, and_true, true_and, and_false, false_and, and_self, or_true, true_or, or_false, false_or, or_self, not_true_eq_false, not_false_eq_true, decide_true, decide_false, Bool.and_true, Bool.true_and, Bool.and_false, Bool.false_and, Bool.and_self, Bool.or_true, Bool.true_or, Bool.or_false, Bool.false_or, Bool.not_true, Bool.not_false, cond_true, cond_false, bI_t, bI_f, Bool.false_eq_true, Bool.true_eq_false, dayC_1, dayC_21, dayC_221, dayC_222]; done) | (simp only [eq_true c13, if_true, if_false, ite_true, ite_false, and_true, true_and, and_false, false_and, and_self, or_true, true_or, or_false, false_or, or_self, not_true_eq_false, not_false_eq_true, decide_true, decide_false, Bool.and_true, Bool.true_and, Bool.and_false, Bool.false_and, Bool.and_self, Bool.or_true, Bool.true_or, Bool.or_false, Bool.false_or, Bool.not_true, Bool.not_false, cond_true, cond_false, bI_t, bI_f, Bool.false_eq_true, Bool.true_eq_false, dayC_1, dayC_21, dayC_221, dayC_222]; done))
  subst e24
  refine A_istore_n 25 dX10_had_24 rfl rfl (by decide) (by first | exact (ast_s (ast_1 rfl)) | exact (ast_s ast_k)) ?_
  refine A_iload_n 26 dX10_had_25 rfl rfl rfl ?_
  refine A_if_ge 35 29 dX10_had_26 (by decide) rfl (fun c26 => ?_) (fun c26 => ?_)
  · skip
    try simp only [bI_0, bI_n0, Classical.not_not, Bool.not_eq_false, Bool.true_and, Bool.and_true, decide_eq_true_eq, decide_eq_false_iff_not, dayC_1, dayC_21, dayC_221, dayC_222, inI_1, inI_2, inI_3, inI_5, inI_11, inI_16] at c26
    have n26 := c26
    replace c26 := Int32.not_lt.mpr c26
    have hw0 : w01R x c.2.2.2.2.2.2.2.1 c.2.2.2.2.2.2.2.2 v = 0 := cz_pos w01R_cz c26
    obtain ⟨f1, f2⟩ := w01R_0 hw0
    have h12 := rowOK_12 f2
    refine A_aload_n 36 dX10_had_35 rfl rfl rfl ?_
    refine A_callVI 39 (S_X10_layCould X l O28 hW (by omega) hr) dX10_had_36 rfl kX10_layCould lk_X10_245 rfl O28 (by decide) rfl (Nat.le_of_ble_eq_true rfl) (fun v_4 h_4 qh_4 => ?_)
    obtain ⟨rfl, z1_4, n0h_4, ph_4, eh_4⟩ := qh_4
    replace O28 := n0h_4
    replace hf : ∀ i, i ≠ 28 → h_4 i = h i := fun i g0 => (eh_4 i g0).trans (hf i g0)
    have hcd_ := ph_4
    refine A_istore_n 40 dX10_had_39 rfl rfl (by decide) (by first | exact (ast_s (ast_s (ast_1 rfl))) | exact (ast_s (ast_s ast_k))) ?_
    refine A_bipush 42 (-9) dX10_had_40 rfl (by decide) ?_
    refine A_istore 44 dX10_had_42 rfl (by decide) (by first | exact (ast_s (ast_s (ast_s (ast_1 rfl)))) | exact (ast_s (ast_s (ast_s ast_k)))) ?_
    refine A_sipush 47 (255) dX10_had_44 rfl (by decide) ?_
    refine A_istore 49 dX10_had_47 rfl (by decide) (by first | exact (ast_s (ast_s (ast_s (ast_s (ast_1 rfl))))) | exact (ast_s (ast_s (ast_s (ast_s ast_k))))) ?_
    have L49 : ∀ (i : Nat) (u : Int32) , (i ≤ 256) → (downF (lsF x c.2.2.2.2.2.2.2.1 c.2.2.2.2.2.2.2.2) i (u) = downF (lsF x c.2.2.2.2.2.2.2.1 c.2.2.2.2.2.2.2.2) (256) (-9)) → Av X l mX10_had 49 [some (aR 28 0), some (aI (v)), none, some (aI (cdN x c.2.2.2.2.2.2.2.1 c.2.2.2.2.2.2.2.2)), some (aI (u)), some (aI (nI (i) - 1))] [] h_4 (QI (fun vr h2 => (rV (w01R x c.2.2.2.2.2.2.2.1 c.2.2.2.2.2.2.2.2 v) (aHad x c.2.2.2.2.2.2.2.1 c.2.2.2.2.2.2.2.2 v)) = vr ∧ ∃ (z1 : RZ), h2 (28) = some (rB x (-1) (rS (w01R x c.2.2.2.2.2.2.2.1 c.2.2.2.2.2.2.2.2 v) c.1, c.2) z1) ∧ ∀ i, i ≠ 28 → h2 i = h i)) := by
      intro i
      induction i using Nat.strongRecOn with
      | _ i ih =>
      intro u en ee
      refine A_iload 51 dX10_had_49 rfl rfl ?_
      refine A_if_lt 79 54 dX10_had_51 (by decide) rfl (fun c51 => ?_) (fun c51 => ?_)
      · skip
        obtain rfl := dn_T c51 (by omega)
        refine A_iload_n 80 dX10_had_79 rfl rfl rfl ?_
        refine A_if_ne 87 83 dX10_had_80 (by decide) rfl (fun c80 => ?_) (fun c80 => ?_)
        · skip
          try simp only [bI_0, bI_n0, Classical.not_not, Bool.not_eq_false, Bool.true_and, Bool.and_true, decide_eq_true_eq, decide_eq_false_iff_not, dayC_1, dayC_21, dayC_221, dayC_222, inI_1, inI_2, inI_3, inI_5, inI_11, inI_16] at c80
          refine A_iload 89 dX10_had_87 rfl rfl ?_
          refine A_iret dX10_had_89 rfl ⟨_, rfl, (by rw [hw0, rV_0]; unfold aHad; first | rw [if_pos c80] | (rw [if_neg c80]; exact ee.symm)), _, (by rw [hw0, rS_0]; exact O28), hf⟩
        · skip
          try simp only [bI_0, bI_n0, Classical.not_not, Bool.not_eq_false, Bool.true_and, Bool.and_true, decide_eq_true_eq, decide_eq_false_iff_not, dayC_1, dayC_21, dayC_221, dayC_222, inI_1, inI_2, inI_3, inI_5, inI_11, inI_16] at c80
          refine A_iload_n 84 dX10_had_83 rfl rfl rfl ?_
          refine A_goto 89 dX10_had_84 (by decide) ?_
          refine A_iret dX10_had_89 rfl ⟨_, rfl, (by rw [hw0, rV_0]; unfold aHad; first | rw [if_pos c80] | (rw [if_neg c80]; exact ee.symm)), _, (by rw [hw0, rS_0]; exact O28), hf⟩
      · skip
        obtain ⟨i0, rfl⟩ := dn_F c51
        have hi : i0 < 256 := by omega
        rw [dn_s]
        refine A_aload_n 55 dX10_had_54 rfl rfl rfl ?_
        refine A_getfield 58 dX10_had_55 rfl f_X10_65 O28 rfl ?_
        refine A_iload 60 dX10_had_58 rfl rfl ?_
        refine A_baload 61 dX10_had_60 rfl O28 rfl (by first | assumption | exact ix_nI (by omega) (by decide) | exact ix_lit _ rfl (by omega) (by decide) | exact ix_lit _ rfl (by decide) (by decide)) ?_
        try dsimp only
        rw [hcd_ i0 (by omega)]
        refine A_if_eq 69 64 dX10_had_61 (by decide) rfl (fun c61 => ?_) (fun c61 => ?_)
        · skip
          try simp only [bI_0, bI_n0, Classical.not_not, Bool.not_eq_false, Bool.true_and, Bool.and_true, decide_eq_true_eq, decide_eq_false_iff_not, dayC_1, dayC_21, dayC_221, dayC_222, inI_1, inI_2, inI_3, inI_5, inI_11, inI_16] at c61
          refine A_iload 71 dX10_had_69 rfl rfl ?_
          refine A_istore 73 dX10_had_71 rfl (by decide) (by first | exact (ast_s (ast_s (ast_s (ast_1 rfl)))) | exact (ast_s (ast_s (ast_s ast_k)))) ?_
          first | refine A_idecN 76 dX10_had_73 rfl rfl (by decide) (by first | exact (ast_s (ast_s (ast_s (ast_s (ast_1 rfl))))) | exact (ast_s (ast_s (ast_s (ast_s ast_k))))) ?_ | refine A_iinc 76 (-1) dX10_had_73 rfl rfl (by decide) (by decide) (by first | exact (ast_s (ast_s (ast_s (ast_s (ast_1 rfl))))) | exact (ast_s (ast_s (ast_s (ast_s ast_k))))) ?_
          refine A_goto 49 dX10_had_76 (by decide) ?_
          exact A_weak (ih i0 (Nat.lt_succ_self i0) _  (by omega) (((congrArg (downF (lsF x c.2.2.2.2.2.2.2.1 c.2.2.2.2.2.2.2.2) i0) (by first | with_reducible rfl | (simp only [c26, n26, c61, if_true, if_false, ite_true, ite_false, and_true, true_and, and_false, false_and, and_self, or_true, true_or, or_false, false_or, or_self, not_true_eq_false, not_false_eq_true, decide_true, decide_false, Bool.and_true, Bool.true_and, Bool.and_false, Bool.false_and, Bool.and_self, Bool.or_true, Bool.true_or, Bool.or_false, Bool.false_or, Bool.not_true, Bool.not_false, cond_true, cond_false, bI_t, bI_f, Bool.false_eq_true, Bool.true_eq_false, dayC_1, dayC_21, dayC_221, dayC_222, lsF]; done) | (simp only [c26, n26, eq_true c61, if_true, if_false, ite_true, ite_false, and_true, true_and, and_false, false_and, and_self, or_true, true_or, or_false, false_or, or_self, not_true_eq_false, not_false_eq_true, decide_true, decide_false, Bool.and_true, Bool.true_and, Bool.and_false, Bool.false_and, Bool.and_self, Bool.or_true, Bool.true_or, Bool.or_false, Bool.false_or, Bool.not_true, Bool.not_false, cond_true, cond_false, bI_t, bI_f, Bool.false_eq_true, Bool.true_eq_false, dayC_1, dayC_21, dayC_221, dayC_222, lsF]; done) | (simp [*, lsF]; done) | with_reducible_and_instances rfl)).trans (downF_s _ _ _).symm).trans ee) ) (sub_s (sub_s (sub_n (sub_s (sub_s (sub_s sub_nil))))))
        · skip
          try simp only [bI_0, bI_n0, Classical.not_not, Bool.not_eq_false, Bool.true_and, Bool.and_true, decide_eq_true_eq, decide_eq_false_iff_not, dayC_1, dayC_21, dayC_221, dayC_222, inI_1, inI_2, inI_3, inI_5, inI_11, inI_16] at c61
          refine A_iload 66 dX10_had_64 rfl rfl ?_
          refine A_goto 71 dX10_had_66 (by decide) ?_
          refine A_istore 73 dX10_had_71 rfl (by decide) (by first | exact (ast_s (ast_s (ast_s (ast_1 rfl)))) | exact (ast_s (ast_s (ast_s ast_k)))) ?_
          first | refine A_idecN 76 dX10_had_73 rfl rfl (by decide) (by first | exact (ast_s (ast_s (ast_s (ast_s (ast_1 rfl))))) | exact (ast_s (ast_s (ast_s (ast_s ast_k))))) ?_ | refine A_iinc 76 (-1) dX10_had_73 rfl rfl (by decide) (by decide) (by first | exact (ast_s (ast_s (ast_s (ast_s (ast_1 rfl))))) | exact (ast_s (ast_s (ast_s (ast_s ast_k))))) ?_
          refine A_goto 49 dX10_had_76 (by decide) ?_
          exact A_weak (ih i0 (Nat.lt_succ_self i0) _  (by omega) (((congrArg (downF (lsF x c.2.2.2.2.2.2.2.1 c.2.2.2.2.2.2.2.2) i0) (by first | with_reducible rfl | (simp only [c26, n26, c61, if_true, if_false, ite_true, ite_false, and_true, true_and, and_false, false_and, and_self, or_true, true_or, or_false, false_or, or_self, not_true_eq_false, not_false_eq_true, decide_true, decide_false, Bool.and_true, Bool.true_and, Bool.and_false, Bool.false_and, Bool.and_self, Bool.or_true, Bool.true_or, Bool.or_false, Bool.false_or, Bool.not_true, Bool.not_false, cond_true, cond_false, bI_t, bI_f, Bool.false_eq_true, Bool.true_eq_false, dayC_1, dayC_21, dayC_221, dayC_222, lsF]; done) | (simp [*, lsF]; done) | with_reducible_and_instances rfl)).trans (downF_s _ _ _).symm).trans ee) ) (sub_s (sub_s (sub_n (sub_s (sub_s (sub_s sub_nil))))))
    rw [show (255 : Int32) = nI 256 - 1 from rfl]
    exact A_weak (L49 (256) (_)  (by omega) (rfl) ) (sub_s (sub_s (sub_n (sub_s (sub_s (sub_s sub_nil))))))
  · skip
    try simp only [bI_0, bI_n0, Classical.not_not, Bool.not_eq_false, Bool.true_and, Bool.and_true, decide_eq_true_eq, decide_eq_false_iff_not, dayC_1, dayC_21, dayC_221, dayC_222, inI_1, inI_2, inI_3, inI_5, inI_11, inI_16] at c26
    have n26 := c26
    replace c26 := Int32.not_le.mp c26
    have hcd : CD (w01R x c.2.2.2.2.2.2.2.1 c.2.2.2.2.2.2.2.2 v) := cz_neg w01R_cz c26
    refine A_aload_n 30 dX10_had_29 rfl rfl rfl ?_
    refine A_iload_n 31 dX10_had_30 rfl rfl rfl ?_
    refine A_callVI 34 (S_X10_refuse_c X l (by first | assumption | decide | omega | exact Ne.symm (by assumption)) (by first | assumption | (unfold CD; decide))) dX10_had_31 rfl kX10_refuse lk_X10_121 rfl O28 (by decide) rfl (Nat.le_of_ble_eq_true rfl) (fun v_5 h_5 qh_5 => ?_)
    obtain ⟨rfl, n0h_5, eh_5⟩ := qh_5
    replace O28 := n0h_5
    replace hf : ∀ i, i ≠ 28 → h_5 i = h i := fun i g0 => (eh_5 i g0).trans (hf i g0)
    refine A_iret dX10_had_34 rfl ⟨_, rfl, (by exact rV_n hcd.ne), _, O28, hf⟩
set_option maxHeartbeats 4000000 in
set_option maxRecDepth 100000 in
theorem S_X10_withThing (X : En) (l : Launch) {h : Hp} {x : PW} {c : RC} {z : RZ} (O28 : h 28 = some (rB x (-1) c z)) (hW : WOK x) {t : Int32} (hcd : ∀ j, j < 256 → z.2.2.2.1 j = bI (fitQ x c.2.2.2.2.2.2.2.1 c.2.2.2.2.2.2.2.2 j)) : Ct X l mX10_withThing [aR 28 0, aI t] h (QI (PI0 (cwN x c.2.2.2.2.2.2.2.1 c.2.2.2.2.2.2.2.2 t) h)) := by
  have hx := hW.1
  have hp := hW.2.1
  have h10 := hx.1
  refine Ct.intro [some (aR 28 0), some (aI t), none, none] (by decide +kernel) rfl (Nat.le_of_ble_eq_true rfl) ?_
  refine A_iconst 1 (0) dX10_withThing_0 rfl (by decide) ?_
  refine A_istore_n 2 dX10_withThing_1 rfl rfl (by decide) (by first | exact (ast_s (ast_1 rfl)) | exact (ast_s ast_k)) ?_
  refine A_iconst 3 (0) dX10_withThing_2 rfl (by decide) ?_
  refine A_istore_n 4 dX10_withThing_3 rfl rfl (by decide) (by first | exact (ast_s (ast_s (ast_1 rfl))) | exact (ast_s (ast_s ast_k))) ?_
  have L4 : ∀ (nq i : Nat) (u : Int32) , (nq + i = 256) → (foldN (cwF x c.2.2.2.2.2.2.2.1 c.2.2.2.2.2.2.2.2 t) (0) i = (u)) → Av X l mX10_withThing 4 [some (aR 28 0), some (aI (t)), some (aI (u)), some (aI (nI (i)))] [] h (QI (PI0 (cwN x c.2.2.2.2.2.2.2.1 c.2.2.2.2.2.2.2.2 t) h)) := by
    intro nq
    induction nq using Nat.strongRecOn with
    | _ nq ih =>
    intro i u en ee
    refine A_iload_n 5 dX10_withThing_4 rfl rfl rfl ?_
    refine A_sipush 8 (256) dX10_withThing_5 rfl (by decide) ?_
    refine A_icmp_ge 42 11 dX10_withThing_8 (by decide) rfl (fun c8 => ?_) (fun c8 => ?_)
    · skip
      obtain rfl := (up_ge_T (N := 256) c8 rfl (by omega) (by omega)).symm
      refine A_iload_n 43 dX10_withThing_42 rfl rfl rfl ?_
      refine A_iret dX10_withThing_43 rfl ⟨_, rfl, (by unfold cwN; rw [ee]), rfl⟩
    · skip
      have hi := up_ge_F (N := 256) c8 rfl (by omega) (by omega)
      obtain ⟨n0, rfl⟩ : ∃ q, nq = q + 1 := ⟨nq - 1, by omega⟩
      refine A_iload_n 12 dX10_withThing_11 rfl rfl rfl ?_
      refine A_aload_n 13 dX10_withThing_12 rfl rfl rfl ?_
      refine A_getfield 16 dX10_withThing_13 rfl f_X10_65 O28 rfl ?_
      refine A_iload_n 17 dX10_withThing_16 rfl rfl rfl ?_
      refine A_baload 18 dX10_withThing_17 rfl O28 rfl (by first | assumption | exact ix_nI (by omega) (by decide) | exact ix_lit _ rfl (by omega) (by decide) | exact ix_lit _ rfl (by decide) (by decide)) ?_
      try dsimp only
      rw [hcd i (by omega)]
      refine A_if_eq 33 21 dX10_withThing_18 (by decide) rfl (fun c18 => ?_) (fun c18 => ?_)
      · skip
        try simp only [bI_0, bI_n0, Classical.not_not, Bool.not_eq_false, Bool.true_and, Bool.and_true, decide_eq_true_eq, decide_eq_false_iff_not, dayC_1, dayC_21, dayC_221, dayC_222, inI_1, inI_2, inI_3, inI_5, inI_11, inI_16] at c18
        refine A_iconst 34 (0) dX10_withThing_33 rfl (by decide) ?_
        refine A_iadd 35 dX10_withThing_34 rfl ?_
        refine A_istore_n 36 dX10_withThing_35 rfl rfl (by decide) (by first | exact (ast_s (ast_1 rfl)) | exact (ast_s ast_k)) ?_
        first | refine A_iincN 39 dX10_withThing_36 rfl rfl (by decide) (by first | exact (ast_s (ast_s (ast_1 rfl))) | exact (ast_s (ast_s ast_k))) ?_ | refine A_iinc 39 (1) dX10_withThing_36 rfl rfl (by decide) (by decide) (by first | exact (ast_s (ast_s (ast_1 rfl))) | exact (ast_s (ast_s ast_k))) ?_
        refine A_goto 4 dX10_withThing_39 (by decide) ?_
        exact ih n0 (Nat.lt_succ_self n0) (i + 1) _  (by omega) ((foldN_s (cwF x c.2.2.2.2.2.2.2.1 c.2.2.2.2.2.2.2.2 t) (0) i).trans ((congrArg ((cwF x c.2.2.2.2.2.2.2.1 c.2.2.2.2.2.2.2.2 t) i) ee).trans (by first | with_reducible rfl | (simp only [c18, if_true, if_false, ite_true, ite_false, and_true, true_and, and_false, false_and, and_self, or_true, true_or, or_false, false_or, or_self, not_true_eq_false, not_false_eq_true, decide_true, decide_false, Bool.and_true, Bool.true_and, Bool.and_false, Bool.false_and, Bool.and_self, Bool.or_true, Bool.true_or, Bool.or_false, Bool.false_or, Bool.not_true, Bool.not_false, cond_true, cond_false, bI_t, bI_f, Bool.false_eq_true, Bool.true_eq_false, dayC_1, dayC_21, dayC_221, dayC_222, cwF, Int32.add_zero]; done) | (simp only [eq_true c18, if_true, if_false, ite_true, ite_false, and_true, true_and, and_false, false_and, and_self, or_true, true_or, or_false, false_or, or_self, not_true_eq_false, not_false_eq_true, decide_true, decide_false, Bool.and_true, Bool.true_and, Bool.and_false, Bool.false_and, Bool.and_self, Bool.or_true, Bool.true_or, Bool.or_false, Bool.false_or, Bool.not_true, Bool.not_false, cond_true, cond_false, bI_t, bI_f, Bool.false_eq_true, Bool.true_eq_false, dayC_1, dayC_21, dayC_221, dayC_222, cwF, Int32.add_zero]; done) | (simp [*, cwF, Int32.add_zero]; done) | with_reducible_and_instances rfl))) 
      · skip
        try simp only [bI_0, bI_n0, Classical.not_not, Bool.not_eq_false, Bool.true_and, Bool.and_true, decide_eq_true_eq, decide_eq_false_iff_not, dayC_1, dayC_21, dayC_221, dayC_222, inI_1, inI_2, inI_3, inI_5, inI_11, inI_16] at c18
        refine A_iload_n 22 dX10_withThing_21 rfl rfl rfl ?_
        refine A_iload_n 23 dX10_withThing_22 rfl rfl rfl ?_
        refine A_callSI 26 (S_X10_hasBit X l) dX10_withThing_23 rfl kX10_hasBit lk_X10_93 rfl (by decide) rfl (Nat.le_of_ble_eq_true rfl) (fun v_1 h_1 qh_1 => ?_)
        obtain ⟨rfl, rfl⟩ := qh_1
        refine A_if_eq 33 29 dX10_withThing_26 (by decide) rfl (fun c26 => ?_) (fun c26 => ?_)
        · skip
          try simp only [bI_0, bI_n0, Classical.not_not, Bool.not_eq_false, Bool.true_and, Bool.and_true, decide_eq_true_eq, decide_eq_false_iff_not, dayC_1, dayC_21, dayC_221, dayC_222, inI_1, inI_2, inI_3, inI_5, inI_11, inI_16] at c26
          refine A_iconst 34 (0) dX10_withThing_33 rfl (by decide) ?_
          refine A_iadd 35 dX10_withThing_34 rfl ?_
          refine A_istore_n 36 dX10_withThing_35 rfl rfl (by decide) (by first | exact (ast_s (ast_1 rfl)) | exact (ast_s ast_k)) ?_
          first | refine A_iincN 39 dX10_withThing_36 rfl rfl (by decide) (by first | exact (ast_s (ast_s (ast_1 rfl))) | exact (ast_s (ast_s ast_k))) ?_ | refine A_iinc 39 (1) dX10_withThing_36 rfl rfl (by decide) (by decide) (by first | exact (ast_s (ast_s (ast_1 rfl))) | exact (ast_s (ast_s ast_k))) ?_
          refine A_goto 4 dX10_withThing_39 (by decide) ?_
          exact ih n0 (Nat.lt_succ_self n0) (i + 1) _  (by omega) ((foldN_s (cwF x c.2.2.2.2.2.2.2.1 c.2.2.2.2.2.2.2.2 t) (0) i).trans ((congrArg ((cwF x c.2.2.2.2.2.2.2.1 c.2.2.2.2.2.2.2.2 t) i) ee).trans (by first | with_reducible rfl | (simp only [c18, c26, if_true, if_false, ite_true, ite_false, and_true, true_and, and_false, false_and, and_self, or_true, true_or, or_false, false_or, or_self, not_true_eq_false, not_false_eq_true, decide_true, decide_false, Bool.and_true, Bool.true_and, Bool.and_false, Bool.false_and, Bool.and_self, Bool.or_true, Bool.true_or, Bool.or_false, Bool.false_or, Bool.not_true, Bool.not_false, cond_true, cond_false, bI_t, bI_f, Bool.false_eq_true, Bool.true_eq_false, dayC_1, dayC_21, dayC_221, dayC_222, cwF, Int32.add_zero]; done) | (simp [*, cwF, Int32.add_zero]; done) | with_reducible_and_instances rfl))) 
        · skip
          try simp only [bI_0, bI_n0, Classical.not_not, Bool.not_eq_false, Bool.true_and, Bool.and_true, decide_eq_true_eq, decide_eq_false_iff_not, dayC_1, dayC_21, dayC_221, dayC_222, inI_1, inI_2, inI_3, inI_5, inI_11, inI_16] at c26
          refine A_iconst 30 (1) dX10_withThing_29 rfl (by decide) ?_
          refine A_goto 34 dX10_withThing_30 (by decide) ?_
          refine A_iadd 35 dX10_withThing_34 rfl ?_
          refine A_istore_n 36 dX10_withThing_35 rfl rfl (by decide) (by first | exact (ast_s (ast_1 rfl)) | exact (ast_s ast_k)) ?_
          first | refine A_iincN 39 dX10_withThing_36 rfl rfl (by decide) (by first | exact (ast_s (ast_s (ast_1 rfl))) | exact (ast_s (ast_s ast_k))) ?_ | refine A_iinc 39 (1) dX10_withThing_36 rfl rfl (by decide) (by decide) (by first | exact (ast_s (ast_s (ast_1 rfl))) | exact (ast_s (ast_s ast_k))) ?_
          refine A_goto 4 dX10_withThing_39 (by decide) ?_
          exact ih n0 (Nat.lt_succ_self n0) (i + 1) _  (by omega) ((foldN_s (cwF x c.2.2.2.2.2.2.2.1 c.2.2.2.2.2.2.2.2 t) (0) i).trans ((congrArg ((cwF x c.2.2.2.2.2.2.2.1 c.2.2.2.2.2.2.2.2 t) i) ee).trans (by first | with_reducible rfl | (simp only [c18, c26, if_true, if_false, ite_true, ite_false, and_true, true_and, and_false, false_and, and_self, or_true, true_or, or_false, false_or, or_self, not_true_eq_false, not_false_eq_true, decide_true, decide_false, Bool.and_true, Bool.true_and, Bool.and_false, Bool.false_and, Bool.and_self, Bool.or_true, Bool.true_or, Bool.or_false, Bool.false_or, Bool.not_true, Bool.not_false, cond_true, cond_false, bI_t, bI_f, Bool.false_eq_true, Bool.true_eq_false, dayC_1, dayC_21, dayC_221, dayC_222, cwF, Int32.add_zero]; done) | (simp [*, cwF, Int32.add_zero]; done) | with_reducible_and_instances rfl))) 
  exact L4 (256) (0) (_)  (by omega) (rfl) 
set_option maxHeartbeats 4000000 in
set_option maxRecDepth 100000 in
theorem S_X10_feel (X : En) (l : Launch) {h : Hp} {x : PW} {c : RC} {z : RZ} (O28 : h 28 = some (rB x (-1) c z)) (hW : WOK x) (hn : c.2.2.2.2.2.2.2.2 ≤ 16) (hr : ∀ k, k < c.2.2.2.2.2.2.2.2 → ¬ c.2.2.2.2.2.2.2.1 k < 0) {v : Int32} : Ct X l mX10_feel [aR 28 0, aI v] h (QI (fun vr h2 => (rV (w01R x c.2.2.2.2.2.2.2.1 c.2.2.2.2.2.2.2.2 v) (aFeel x c.2.2.2.2.2.2.2.1 c.2.2.2.2.2.2.2.2 v)) = vr ∧ ∃ (z1 : RZ), h2 (28) = some (rB x (-1) (rS (w01R x c.2.2.2.2.2.2.2.1 c.2.2.2.2.2.2.2.2 v) c.1, c.2) z1) ∧ ∀ i, i ≠ 28 → h2 i = h i)) := by
  have hx := hW.1
  have hp := hW.2.1
  have h10 := hx.1
  have hf : ∀ i, i ≠ 28 → h i = h i := fun _ _ => rfl
  refine Ct.intro [some (aR 28 0), some (aI v), none, none, none, none, none, none, none] (by decide +kernel) rfl (Nat.le_of_ble_eq_true rfl) ?_
  refine A_aload_n 1 dX10_feel_0 rfl rfl rfl ?_
  refine A_iconst 2 (0) dX10_feel_1 rfl (by decide) ?_
  refine P_X10_9 5 dX10_feel_2 rfl fw_X10_78 O28 (fun h_1 nh_1 eh_1 => ?_)
  replace O28 := nh_1
  replace hf : ∀ i, i ≠ 28 → h_1 i = h i := fun i g0 => (eh_1 i g0).trans (hf i g0)
  try dsimp only at O28
  refine A_iconst 6 (0) dX10_feel_5 rfl (by decide) ?_
  refine A_iload_n 7 dX10_feel_6 rfl rfl rfl ?_
  refine A_iconst 8 (1) dX10_feel_7 rfl (by decide) ?_
  refine A_callSI 11 (S_X10_wrongBit X l) dX10_feel_8 rfl kX10_wrongBit lk_X10_225 rfl (by decide) rfl (Nat.le_of_ble_eq_true rfl) (fun v_2 h_2 qh_2 => ?_)
  obtain ⟨rfl, rfl⟩ := qh_2
  refine A_istore_n 12 dX10_feel_11 rfl rfl (by decide) (by first | exact (ast_s (ast_1 rfl)) | exact (ast_s ast_k)) ?_
  refine A_joinI 24 (fun vj => vj = w01R x c.2.2.2.2.2.2.2.1 c.2.2.2.2.2.2.2.2 v) (fun j24 => ?_) (fun v24 e24 => ?_)
  · skip
    refine A_iload_n 13 dX10_feel_12 rfl rfl rfl ?_
    refine A_if_ne 23 16 dX10_feel_13 (by decide) rfl (fun c13 => ?_) (fun c13 => ?_)
    · skip
      try simp only [bI_0, bI_n0, Classical.not_not, Bool.not_eq_false, Bool.true_and, Bool.and_true, decide_eq_true_eq, decide_eq_false_iff_not, dayC_1, dayC_21, dayC_221, dayC_222, inI_1, inI_2, inI_3, inI_5, inI_11, inI_16] at c13
      refine A_iload_n 24 dX10_feel_23 rfl rfl rfl ?_
      exact j24 _ (by rw [w01R_eq]; first | (simp only [c13, if_true, if_false, ite_true, ite_false, and_true, true_and, and_false, false_and, and_self, or_true, true_or, or_false, false_or, or_self, not_true_eq_false, not_false_eq_true, decide_true, decide_false, Bool.and_true, Bool.true_and, Bool.and_false, Bool.false_and, Bool.and_self, Bool.or_true, Bool.true_or, Bool.or_false, Bool.false_or, Bool.not_true, Bool.not_false, cond_true, cond_false, bI_t, bI_f, Bool.false_eq_true, Bool.true_eq_false, dayC_1, dayC_21, dayC_221, dayC_222]; done))
    · skip
      try simp only [bI_0, bI_n0, Classical.not_not, Bool.not_eq_false, Bool.true_and, Bool.and_true, decide_eq_true_eq, decide_eq_false_iff_not, dayC_1, dayC_21, dayC_221, dayC_222, inI_1, inI_2, inI_3, inI_5, inI_11, inI_16] at c13
      refine A_aload_n 17 dX10_feel_16 rfl rfl rfl ?_
      refine A_callVI 20 (S_X10_wrongRow X l (by first | assumption | decide | omega | exact Ne.symm (by assumption)) (by first | assumption | decide | omega | exact Ne.symm (by assumption)) (by first | assumption | decide | omega | exact Ne.symm (by assumption)) (by first | assumption | decide | omega | exact Ne.symm (by assumption))) dX10_feel_17 rfl kX10_wrongRow lk_X10_242 rfl O28 (by decide) rfl (Nat.le_of_ble_eq_true rfl) (fun v_3 h_3 qh_3 => ?_)
      obtain ⟨rfl, rfl⟩ := qh_3
      refine A_goto 24 dX10_feel_20 (by decide) ?_
      exact j24 _ (by rw [w01R_eq]; first | (simp only [c13, if_true, if_false, ite_true, ite_false, and_true, true_and, and_false, false_and, and_self, or_true, true_or, or_false, false_or, or_self, not_true_eq_false, not_false_eq_true, decide_true, decide_false, Bool.and_true, Bool.true_and, Bool.and_false, Bool.false_and, Bool.and_self, Bool.or_true, Bool.true_or, Bool.or_false, Bool.false_or, Bool.not_true, Bool.not_false, cond_true, cond_false, bI_t, bI_f, Bool.false_eq_true, Bool.true_eq_false, dayC_1, dayC_21, dayC_221, dayC_222]; done) | (simp only [eq_true c13, if_true, if_false, ite_true, ite_false, and_true, true_and, and_false, false_and, and_self, or_true, true_or, or_false, false_or, or_self, not_true_eq_false, not_false_eq_true, decide_true, decide_false, Bool.and_true, Bool.true_and, Bool.and_false, Bool.false_and, Bool.and_self, Bool.or_true, Bool.true_or, Bool.or_false, Bool.false_or, Bool.not_true, Bool.not_false, cond_true, cond_false, bI_t, bI_f, Bool.false_eq_true, Bool.true_eq_false, dayC_1, dayC_21, dayC_221, dayC_222]; done))
  subst e24
  refine A_istore_n 25 dX10_feel_24 rfl rfl (by decide) (by first | exact (ast_s (ast_1 rfl)) | exact (ast_s ast_k)) ?_
  refine A_iload_n 26 dX10_feel_25 rfl rfl rfl ?_
  refine A_if_ge 35 29 dX10_feel_26 (by decide) rfl (fun c26 => ?_) (fun c26 => ?_)
  · skip
    try simp only [bI_0, bI_n0, Classical.not_not, Bool.not_eq_false, Bool.true_and, Bool.and_true, decide_eq_true_eq, decide_eq_false_iff_not, dayC_1, dayC_21, dayC_221, dayC_222, inI_1, inI_2, inI_3, inI_5, inI_11, inI_16] at c26
    have n26 := c26
    replace c26 := Int32.not_lt.mpr c26
    have hw0 : w01R x c.2.2.2.2.2.2.2.1 c.2.2.2.2.2.2.2.2 v = 0 := cz_pos w01R_cz c26
    obtain ⟨f1, f2⟩ := w01R_0 hw0
    have h12 := rowOK_12 f2
    obtain ⟨cm, hcm, ecm⟩ := cdN_n x c.2.2.2.2.2.2.2.1 c.2.2.2.2.2.2.2.2
    refine A_aload_n 36 dX10_feel_35 rfl rfl rfl ?_
    refine A_callVI 39 (S_X10_layCould X l O28 hW (by omega) hr) dX10_feel_36 rfl kX10_layCould lk_X10_245 rfl O28 (by decide) rfl (Nat.le_of_ble_eq_true rfl) (fun v_4 h_4 qh_4 => ?_)
    obtain ⟨rfl, z1_4, n0h_4, ph_4, eh_4⟩ := qh_4
    replace O28 := n0h_4
    replace hf : ∀ i, i ≠ 28 → h_4 i = h i := fun i g0 => (eh_4 i g0).trans (hf i g0)
    have hcd_ := ph_4
    refine A_istore_n 40 dX10_feel_39 rfl rfl (by decide) (by first | exact (ast_s (ast_s (ast_1 rfl))) | exact (ast_s (ast_s ast_k))) ?_
    refine A_bipush 42 (-9) dX10_feel_40 rfl (by decide) ?_
    refine A_istore 44 dX10_feel_42 rfl (by decide) (by first | exact (ast_s (ast_s (ast_s (ast_1 rfl)))) | exact (ast_s (ast_s (ast_s ast_k)))) ?_
    refine A_bipush 46 (-9) dX10_feel_44 rfl (by decide) ?_
    refine A_istore 48 dX10_feel_46 rfl (by decide) (by first | exact (ast_s (ast_s (ast_s (ast_s (ast_1 rfl))))) | exact (ast_s (ast_s (ast_s (ast_s ast_k))))) ?_
    refine A_iconst 49 (0) dX10_feel_48 rfl (by decide) ?_
    refine A_istore 51 dX10_feel_49 rfl (by decide) (by first | exact (ast_s (ast_s (ast_s (ast_s (ast_s (ast_1 rfl)))))) | exact (ast_s (ast_s (ast_s (ast_s (ast_s ast_k)))))) ?_
    have L51 : ∀ (nq i : Nat) (u m : Int32) , (nq + i = 8) → (foldN (feF x c.2.2.2.2.2.2.2.1 c.2.2.2.2.2.2.2.2) ((-9, -9)) i = (u, m)) → (i = 0 ∨ 0 < cdN x c.2.2.2.2.2.2.2.1 c.2.2.2.2.2.2.2.2) → Av X l mX10_feel 51 [some (aR 28 0), some (aI (v)), none, some (aI (cdN x c.2.2.2.2.2.2.2.1 c.2.2.2.2.2.2.2.2)), some (aI (u)), some (aI (m)), some (aI (nI (i))), none, none] [] h_4 (QI (fun vr h2 => (rV (w01R x c.2.2.2.2.2.2.2.1 c.2.2.2.2.2.2.2.2 v) (aFeel x c.2.2.2.2.2.2.2.1 c.2.2.2.2.2.2.2.2 v)) = vr ∧ ∃ (z1 : RZ), h2 (28) = some (rB x (-1) (rS (w01R x c.2.2.2.2.2.2.2.1 c.2.2.2.2.2.2.2.2 v) c.1, c.2) z1) ∧ ∀ i, i ≠ 28 → h2 i = h i)) := by
      intro nq
      induction nq using Nat.strongRecOn with
      | _ nq ih =>
      intro i u m en ee hy
      refine A_iload 53 dX10_feel_51 rfl rfl ?_
      refine A_bipush 55 (8) dX10_feel_53 rfl (by decide) ?_
      refine A_icmp_ge 128 58 dX10_feel_55 (by decide) rfl (fun c55 => ?_) (fun c55 => ?_)
      · skip
        obtain rfl := (up_ge_T (N := 8) c55 rfl (by omega) (by omega)).symm
        have hpos : ¬ cdN x c.2.2.2.2.2.2.2.1 c.2.2.2.2.2.2.2.2 = 0 := fun q => by rw [q] at hy; exact absurd (hy.resolve_left (by decide)) (by decide)
        obtain ⟨e1, e2⟩ := Prod.mk.inj ((fe_eq x c.2.2.2.2.2.2.2.1 c.2.2.2.2.2.2.2.2 hpos).symm.trans ee)
        refine A_iload_n 129 dX10_feel_128 rfl rfl rfl ?_
        refine A_if_ne 137 132 dX10_feel_129 (by decide) rfl (fun c129 => ?_) (fun c129 => ?_)
        · skip
          try simp only [bI_0, bI_n0, Classical.not_not, Bool.not_eq_false, Bool.true_and, Bool.and_true, decide_eq_true_eq, decide_eq_false_iff_not, dayC_1, dayC_21, dayC_221, dayC_222, inI_1, inI_2, inI_3, inI_5, inI_11, inI_16] at c129
          refine A_iload 139 dX10_feel_137 rfl rfl ?_
          refine A_iret dX10_feel_139 rfl ⟨_, rfl, (by rw [hw0, rV_0]; first | (rw [aFeel_1 hpos, if_pos c129, e1]; done) | (rw [aFeel_1 hpos, if_neg c129, e2]; done) | (rw [aFeel_0 hz]; first | exact e1 | exact e2)), _, (by rw [hw0, rS_0]; exact O28), hf⟩
        · skip
          try simp only [bI_0, bI_n0, Classical.not_not, Bool.not_eq_false, Bool.true_and, Bool.and_true, decide_eq_true_eq, decide_eq_false_iff_not, dayC_1, dayC_21, dayC_221, dayC_222, inI_1, inI_2, inI_3, inI_5, inI_11, inI_16] at c129
          refine A_iload 134 dX10_feel_132 rfl rfl ?_
          refine A_goto 139 dX10_feel_134 (by decide) ?_
          refine A_iret dX10_feel_139 rfl ⟨_, rfl, (by rw [hw0, rV_0]; first | (rw [aFeel_1 hpos, if_pos c129, e1]; done) | (rw [aFeel_1 hpos, if_neg c129, e2]; done) | (rw [aFeel_0 hz]; first | exact e1 | exact e2)), _, (by rw [hw0, rS_0]; exact O28), hf⟩
      · skip
        have hi := up_ge_F (N := 8) c55 rfl (by omega) (by omega)
        obtain ⟨n0, rfl⟩ : ∃ q, nq = q + 1 := ⟨nq - 1, by omega⟩
        refine A_iload_n 59 dX10_feel_58 rfl rfl rfl ?_
        refine A_if_le 128 62 dX10_feel_59 (by decide) rfl (fun c59 => ?_) (fun c59 => ?_)
        · skip
          try simp only [bI_0, bI_n0, Classical.not_not, Bool.not_eq_false, Bool.true_and, Bool.and_true, decide_eq_true_eq, decide_eq_false_iff_not, dayC_1, dayC_21, dayC_221, dayC_222, inI_1, inI_2, inI_3, inI_5, inI_11, inI_16] at c59
          have n59 := c59
          replace c59 := Int32.not_lt.mpr c59
          have i0 : i = 0 := hy.resolve_right c59
          subst i0
          have hz := cd_0 c59
          obtain ⟨e1, e2⟩ := Prod.mk.inj (show ((-9 : Int32), (-9 : Int32)) = (u, m) from ee)
          refine A_iload_n 129 dX10_feel_128 rfl rfl rfl ?_
          refine A_if_ne 137 132 dX10_feel_129 (by decide) rfl (fun c129 => ?_) (fun c129 => ?_)
          · skip
            try simp only [bI_0, bI_n0, Classical.not_not, Bool.not_eq_false, Bool.true_and, Bool.and_true, decide_eq_true_eq, decide_eq_false_iff_not, dayC_1, dayC_21, dayC_221, dayC_222, inI_1, inI_2, inI_3, inI_5, inI_11, inI_16] at c129
            refine A_iload 139 dX10_feel_137 rfl rfl ?_
            refine A_iret dX10_feel_139 rfl ⟨_, rfl, (by rw [hw0, rV_0]; first | (rw [aFeel_1 hpos, if_pos c129, e1]; done) | (rw [aFeel_1 hpos, if_neg c129, e2]; done) | (rw [aFeel_0 hz]; first | exact e1 | exact e2)), _, (by rw [hw0, rS_0]; exact O28), hf⟩
          · skip
            try simp only [bI_0, bI_n0, Classical.not_not, Bool.not_eq_false, Bool.true_and, Bool.and_true, decide_eq_true_eq, decide_eq_false_iff_not, dayC_1, dayC_21, dayC_221, dayC_222, inI_1, inI_2, inI_3, inI_5, inI_11, inI_16] at c129
            refine A_iload 134 dX10_feel_132 rfl rfl ?_
            refine A_goto 139 dX10_feel_134 (by decide) ?_
            refine A_iret dX10_feel_139 rfl ⟨_, rfl, (by rw [hw0, rV_0]; first | (rw [aFeel_1 hpos, if_pos c129, e1]; done) | (rw [aFeel_1 hpos, if_neg c129, e2]; done) | (rw [aFeel_0 hz]; first | exact e1 | exact e2)), _, (by rw [hw0, rS_0]; exact O28), hf⟩
        · skip
          try simp only [bI_0, bI_n0, Classical.not_not, Bool.not_eq_false, Bool.true_and, Bool.and_true, decide_eq_true_eq, decide_eq_false_iff_not, dayC_1, dayC_21, dayC_221, dayC_222, inI_1, inI_2, inI_3, inI_5, inI_11, inI_16] at c59
          have n59 := c59
          replace c59 := Int32.not_le.mp c59
          refine A_aload_n 63 dX10_feel_62 rfl rfl rfl ?_
          refine A_iload 65 dX10_feel_63 rfl rfl ?_
          refine A_callVI 68 (S_X10_withThing X l O28 hW hcd_) dX10_feel_65 rfl kX10_withThing lk_X10_254 rfl O28 (by decide) rfl (Nat.le_of_ble_eq_true rfl) (fun v_5 h_5 qh_5 => ?_)
          obtain ⟨rfl, rfl⟩ := qh_5
          refine A_istore 70 dX10_feel_68 rfl (by decide) (by first | exact (ast_s (ast_s (ast_s (ast_s (ast_s (ast_s (ast_1 rfl))))))) | exact (ast_s (ast_s (ast_s (ast_s (ast_s (ast_s ast_k))))))) ?_
          refine A_iload 72 dX10_feel_70 rfl rfl ?_
          refine A_iload_n 73 dX10_feel_72 rfl rfl rfl ?_
          refine A_iload 75 dX10_feel_73 rfl rfl ?_
          refine A_isub 76 dX10_feel_75 rfl ?_
          refine A_icmp_ge 84 79 dX10_feel_76 (by decide) rfl (fun c76 => ?_) (fun c76 => ?_)
          · skip
            try simp only [bI_0, bI_n0, Classical.not_not, Bool.not_eq_false, Bool.true_and, Bool.and_true, decide_eq_true_eq, decide_eq_false_iff_not, dayC_1, dayC_21, dayC_221, dayC_222, inI_1, inI_2, inI_3, inI_5, inI_11, inI_16] at c76
            have n76 := c76
            replace c76 := Int32.not_lt.mpr c76
            have cl_m := (min_c (cwN x c.2.2.2.2.2.2.2.1 c.2.2.2.2.2.2.2.2 (nI i)) (cdN x c.2.2.2.2.2.2.2.1 c.2.2.2.2.2.2.2.2 - cwN x c.2.2.2.2.2.2.2.1 c.2.2.2.2.2.2.2.2 (nI i))).symm
            refine A_iload_n 85 dX10_feel_84 rfl rfl rfl ?_
            refine A_iload 87 dX10_feel_85 rfl rfl ?_
            refine A_isub 88 dX10_feel_87 rfl ?_
            refine A_istore 90 dX10_feel_88 rfl (by decide) (by first | exact (ast_s (ast_s (ast_s (ast_s (ast_s (ast_s (ast_s (ast_1 rfl)))))))) | exact (ast_s (ast_s (ast_s (ast_s (ast_s (ast_s (ast_s ast_k)))))))) ?_
            refine A_iload 92 dX10_feel_90 rfl rfl ?_
            refine A_iload 94 dX10_feel_92 rfl rfl ?_
            refine A_icmp_le 102 97 dX10_feel_94 (by decide) rfl (fun c94 => ?_) (fun c94 => ?_)
            · skip
              try simp only [bI_0, bI_n0, Classical.not_not, Bool.not_eq_false, Bool.true_and, Bool.and_true, decide_eq_true_eq, decide_eq_false_iff_not, dayC_1, dayC_21, dayC_221, dayC_222, inI_1, inI_2, inI_3, inI_5, inI_11, inI_16] at c94
              have n94 := c94
              replace c94 := Int32.not_lt.mpr c94
              refine A_iload 104 dX10_feel_102 rfl rfl ?_
              refine A_istore 106 dX10_feel_104 rfl (by decide) (by first | exact (ast_s (ast_s (ast_s (ast_1 rfl)))) | exact (ast_s (ast_s (ast_s ast_k)))) ?_
              refine A_iload 108 dX10_feel_106 rfl rfl ?_
              refine A_iload 110 dX10_feel_108 rfl rfl ?_
              refine A_icmp_le 118 113 dX10_feel_110 (by decide) rfl (fun c110 => ?_) (fun c110 => ?_)
              · skip
                try simp only [bI_0, bI_n0, Classical.not_not, Bool.not_eq_false, Bool.true_and, Bool.and_true, decide_eq_true_eq, decide_eq_false_iff_not, dayC_1, dayC_21, dayC_221, dayC_222, inI_1, inI_2, inI_3, inI_5, inI_11, inI_16] at c110
                have n110 := c110
                replace c110 := Int32.not_lt.mpr c110
                refine A_iload 120 dX10_feel_118 rfl rfl ?_
                refine A_istore 122 dX10_feel_120 rfl (by decide) (by first | exact (ast_s (ast_s (ast_s (ast_s (ast_1 rfl))))) | exact (ast_s (ast_s (ast_s (ast_s ast_k))))) ?_
                first | refine A_iincN 125 dX10_feel_122 rfl rfl (by decide) (by first | exact (ast_s (ast_s (ast_s (ast_s (ast_s (ast_1 rfl)))))) | exact (ast_s (ast_s (ast_s (ast_s (ast_s ast_k)))))) ?_ | refine A_iinc 125 (1) dX10_feel_122 rfl rfl (by decide) (by decide) (by first | exact (ast_s (ast_s (ast_s (ast_s (ast_s (ast_1 rfl)))))) | exact (ast_s (ast_s (ast_s (ast_s (ast_s ast_k)))))) ?_
                refine A_goto 51 dX10_feel_125 (by decide) ?_
                exact A_weak (ih n0 (Nat.lt_succ_self n0) (i + 1) _ _  (by omega) ((foldN_s (feF x c.2.2.2.2.2.2.2.1 c.2.2.2.2.2.2.2.2) ((-9, -9)) i).trans ((congrArg ((feF x c.2.2.2.2.2.2.2.1 c.2.2.2.2.2.2.2.2) i) ee).trans (by first | with_reducible rfl | (simp only [c26, n26, c59, n59, c76, n76, cl_m, c94, n94, c110, n110, if_true, if_false, ite_true, ite_false, and_true, true_and, and_false, false_and, and_self, or_true, true_or, or_false, false_or, or_self, not_true_eq_false, not_false_eq_true, decide_true, decide_false, Bool.and_true, Bool.true_and, Bool.and_false, Bool.false_and, Bool.and_self, Bool.or_true, Bool.true_or, Bool.or_false, Bool.false_or, Bool.not_true, Bool.not_false, cond_true, cond_false, bI_t, bI_f, Bool.false_eq_true, Bool.true_eq_false, dayC_1, dayC_21, dayC_221, dayC_222, feF, lpN]; done) | (with_reducible first | exact absurd c26 c59 | exact absurd c26 c76 | exact absurd c26 c94 | exact absurd c26 c110 | exact absurd c26 hy | exact absurd c26 hyb | exact absurd c59 c26 | exact absurd c59 c76 | exact absurd c59 c94 | exact absurd c59 c110 | exact absurd c59 hy | exact absurd c59 hyb | exact absurd c76 c26 | exact absurd c76 c59 | exact absurd c76 c94 | exact absurd c76 c110 | exact absurd c76 hy | exact absurd c76 hyb | exact absurd c94 c26 | exact absurd c94 c59 | exact absurd c94 c76 | exact absurd c94 c110 | exact absurd c94 hy | exact absurd c94 hyb | exact absurd c110 c26 | exact absurd c110 c59 | exact absurd c110 c76 | exact absurd c110 c94 | exact absurd c110 hy | exact absurd c110 hyb | exact absurd hy c26 | exact absurd hy c59 | exact absurd hy c76 | exact absurd hy c94 | exact absurd hy c110 | exact absurd hy hyb | exact absurd hyb c26 | exact absurd hyb c59 | exact absurd hyb c76 | exact absurd hyb c94 | exact absurd hyb c110 | exact absurd hyb hy | (rw [c26] at c59; cases c59) | (rw [c26] at c76; cases c76) | (rw [c26] at c94; cases c94) | (rw [c26] at c110; cases c110) | (rw [c59] at c26; cases c26) | (rw [c59] at c76; cases c76) | (rw [c59] at c94; cases c94) | (rw [c59] at c110; cases c110) | (rw [c76] at c26; cases c26) | (rw [c76] at c59; cases c59) | (rw [c76] at c94; cases c94) | (rw [c76] at c110; cases c110) | (rw [c94] at c26; cases c26) | (rw [c94] at c59; cases c59) | (rw [c94] at c76; cases c76) | (rw [c94] at c110; cases c110) | (rw [c110] at c26; cases c26) | (rw [c110] at c59; cases c59) | (rw [c110] at c76; cases c76) | (rw [c110] at c94; cases c94)) | (simp [*, feF, lpN]; done) | with_reducible_and_instances rfl))) (Or.inr c59) ) (sub_s (sub_s (sub_n (sub_s (sub_s (sub_s (sub_s (sub_n (sub_n sub_nil)))))))))
              · skip
                try simp only [bI_0, bI_n0, Classical.not_not, Bool.not_eq_false, Bool.true_and, Bool.and_true, decide_eq_true_eq, decide_eq_false_iff_not, dayC_1, dayC_21, dayC_221, dayC_222, inI_1, inI_2, inI_3, inI_5, inI_11, inI_16] at c110
                have n110 := c110
                replace c110 := Int32.not_le.mp c110
                refine A_iload 115 dX10_feel_113 rfl rfl ?_
                refine A_goto 120 dX10_feel_115 (by decide) ?_
                refine A_istore 122 dX10_feel_120 rfl (by decide) (by first | exact (ast_s (ast_s (ast_s (ast_s (ast_1 rfl))))) | exact (ast_s (ast_s (ast_s (ast_s ast_k))))) ?_
                first | refine A_iincN 125 dX10_feel_122 rfl rfl (by decide) (by first | exact (ast_s (ast_s (ast_s (ast_s (ast_s (ast_1 rfl)))))) | exact (ast_s (ast_s (ast_s (ast_s (ast_s ast_k)))))) ?_ | refine A_iinc 125 (1) dX10_feel_122 rfl rfl (by decide) (by decide) (by first | exact (ast_s (ast_s (ast_s (ast_s (ast_s (ast_1 rfl)))))) | exact (ast_s (ast_s (ast_s (ast_s (ast_s ast_k)))))) ?_
                refine A_goto 51 dX10_feel_125 (by decide) ?_
                exact A_weak (ih n0 (Nat.lt_succ_self n0) (i + 1) _ _  (by omega) ((foldN_s (feF x c.2.2.2.2.2.2.2.1 c.2.2.2.2.2.2.2.2) ((-9, -9)) i).trans ((congrArg ((feF x c.2.2.2.2.2.2.2.1 c.2.2.2.2.2.2.2.2) i) ee).trans (by first | with_reducible rfl | (simp only [c26, n26, c59, n59, c76, n76, cl_m, c94, n94, c110, n110, if_true, if_false, ite_true, ite_false, and_true, true_and, and_false, false_and, and_self, or_true, true_or, or_false, false_or, or_self, not_true_eq_false, not_false_eq_true, decide_true, decide_false, Bool.and_true, Bool.true_and, Bool.and_false, Bool.false_and, Bool.and_self, Bool.or_true, Bool.true_or, Bool.or_false, Bool.false_or, Bool.not_true, Bool.not_false, cond_true, cond_false, bI_t, bI_f, Bool.false_eq_true, Bool.true_eq_false, dayC_1, dayC_21, dayC_221, dayC_222, feF, lpN]; done) | (with_reducible first | exact absurd c26 c59 | exact absurd c26 c76 | exact absurd c26 c94 | exact absurd c26 c110 | exact absurd c26 hy | exact absurd c26 hyb | exact absurd c59 c26 | exact absurd c59 c76 | exact absurd c59 c94 | exact absurd c59 c110 | exact absurd c59 hy | exact absurd c59 hyb | exact absurd c76 c26 | exact absurd c76 c59 | exact absurd c76 c94 | exact absurd c76 c110 | exact absurd c76 hy | exact absurd c76 hyb | exact absurd c94 c26 | exact absurd c94 c59 | exact absurd c94 c76 | exact absurd c94 c110 | exact absurd c94 hy | exact absurd c94 hyb | exact absurd c110 c26 | exact absurd c110 c59 | exact absurd c110 c76 | exact absurd c110 c94 | exact absurd c110 hy | exact absurd c110 hyb | exact absurd hy c26 | exact absurd hy c59 | exact absurd hy c76 | exact absurd hy c94 | exact absurd hy c110 | exact absurd hy hyb | exact absurd hyb c26 | exact absurd hyb c59 | exact absurd hyb c76 | exact absurd hyb c94 | exact absurd hyb c110 | exact absurd hyb hy | (rw [c26] at c59; cases c59) | (rw [c26] at c76; cases c76) | (rw [c26] at c94; cases c94) | (rw [c26] at c110; cases c110) | (rw [c59] at c26; cases c26) | (rw [c59] at c76; cases c76) | (rw [c59] at c94; cases c94) | (rw [c59] at c110; cases c110) | (rw [c76] at c26; cases c26) | (rw [c76] at c59; cases c59) | (rw [c76] at c94; cases c94) | (rw [c76] at c110; cases c110) | (rw [c94] at c26; cases c26) | (rw [c94] at c59; cases c59) | (rw [c94] at c76; cases c76) | (rw [c94] at c110; cases c110) | (rw [c110] at c26; cases c26) | (rw [c110] at c59; cases c59) | (rw [c110] at c76; cases c76) | (rw [c110] at c94; cases c94)) | (simp [*, feF, lpN]; done) | with_reducible_and_instances rfl))) (Or.inr c59) ) (sub_s (sub_s (sub_n (sub_s (sub_s (sub_s (sub_s (sub_n (sub_n sub_nil)))))))))
            · skip
              try simp only [bI_0, bI_n0, Classical.not_not, Bool.not_eq_false, Bool.true_and, Bool.and_true, decide_eq_true_eq, decide_eq_false_iff_not, dayC_1, dayC_21, dayC_221, dayC_222, inI_1, inI_2, inI_3, inI_5, inI_11, inI_16] at c94
              have n94 := c94
              replace c94 := Int32.not_le.mp c94
              refine A_iload 99 dX10_feel_97 rfl rfl ?_
              refine A_goto 104 dX10_feel_99 (by decide) ?_
              refine A_istore 106 dX10_feel_104 rfl (by decide) (by first | exact (ast_s (ast_s (ast_s (ast_1 rfl)))) | exact (ast_s (ast_s (ast_s ast_k)))) ?_
              refine A_iload 108 dX10_feel_106 rfl rfl ?_
              refine A_iload 110 dX10_feel_108 rfl rfl ?_
              refine A_icmp_le 118 113 dX10_feel_110 (by decide) rfl (fun c110 => ?_) (fun c110 => ?_)
              · skip
                try simp only [bI_0, bI_n0, Classical.not_not, Bool.not_eq_false, Bool.true_and, Bool.and_true, decide_eq_true_eq, decide_eq_false_iff_not, dayC_1, dayC_21, dayC_221, dayC_222, inI_1, inI_2, inI_3, inI_5, inI_11, inI_16] at c110
                have n110 := c110
                replace c110 := Int32.not_lt.mpr c110
                refine A_iload 120 dX10_feel_118 rfl rfl ?_
                refine A_istore 122 dX10_feel_120 rfl (by decide) (by first | exact (ast_s (ast_s (ast_s (ast_s (ast_1 rfl))))) | exact (ast_s (ast_s (ast_s (ast_s ast_k))))) ?_
                first | refine A_iincN 125 dX10_feel_122 rfl rfl (by decide) (by first | exact (ast_s (ast_s (ast_s (ast_s (ast_s (ast_1 rfl)))))) | exact (ast_s (ast_s (ast_s (ast_s (ast_s ast_k)))))) ?_ | refine A_iinc 125 (1) dX10_feel_122 rfl rfl (by decide) (by decide) (by first | exact (ast_s (ast_s (ast_s (ast_s (ast_s (ast_1 rfl)))))) | exact (ast_s (ast_s (ast_s (ast_s (ast_s ast_k)))))) ?_
                refine A_goto 51 dX10_feel_125 (by decide) ?_
                exact A_weak (ih n0 (Nat.lt_succ_self n0) (i + 1) _ _  (by omega) ((foldN_s (feF x c.2.2.2.2.2.2.2.1 c.2.2.2.2.2.2.2.2) ((-9, -9)) i).trans ((congrArg ((feF x c.2.2.2.2.2.2.2.1 c.2.2.2.2.2.2.2.2) i) ee).trans (by first | with_reducible rfl | (simp only [c26, n26, c59, n59, c76, n76, cl_m, c94, n94, c110, n110, if_true, if_false, ite_true, ite_false, and_true, true_and, and_false, false_and, and_self, or_true, true_or, or_false, false_or, or_self, not_true_eq_false, not_false_eq_true, decide_true, decide_false, Bool.and_true, Bool.true_and, Bool.and_false, Bool.false_and, Bool.and_self, Bool.or_true, Bool.true_or, Bool.or_false, Bool.false_or, Bool.not_true, Bool.not_false, cond_true, cond_false, bI_t, bI_f, Bool.false_eq_true, Bool.true_eq_false, dayC_1, dayC_21, dayC_221, dayC_222, feF, lpN]; done) | (with_reducible first | exact absurd c26 c59 | exact absurd c26 c76 | exact absurd c26 c94 | exact absurd c26 c110 | exact absurd c26 hy | exact absurd c26 hyb | exact absurd c59 c26 | exact absurd c59 c76 | exact absurd c59 c94 | exact absurd c59 c110 | exact absurd c59 hy | exact absurd c59 hyb | exact absurd c76 c26 | exact absurd c76 c59 | exact absurd c76 c94 | exact absurd c76 c110 | exact absurd c76 hy | exact absurd c76 hyb | exact absurd c94 c26 | exact absurd c94 c59 | exact absurd c94 c76 | exact absurd c94 c110 | exact absurd c94 hy | exact absurd c94 hyb | exact absurd c110 c26 | exact absurd c110 c59 | exact absurd c110 c76 | exact absurd c110 c94 | exact absurd c110 hy | exact absurd c110 hyb | exact absurd hy c26 | exact absurd hy c59 | exact absurd hy c76 | exact absurd hy c94 | exact absurd hy c110 | exact absurd hy hyb | exact absurd hyb c26 | exact absurd hyb c59 | exact absurd hyb c76 | exact absurd hyb c94 | exact absurd hyb c110 | exact absurd hyb hy | (rw [c26] at c59; cases c59) | (rw [c26] at c76; cases c76) | (rw [c26] at c94; cases c94) | (rw [c26] at c110; cases c110) | (rw [c59] at c26; cases c26) | (rw [c59] at c76; cases c76) | (rw [c59] at c94; cases c94) | (rw [c59] at c110; cases c110) | (rw [c76] at c26; cases c26) | (rw [c76] at c59; cases c59) | (rw [c76] at c94; cases c94) | (rw [c76] at c110; cases c110) | (rw [c94] at c26; cases c26) | (rw [c94] at c59; cases c59) | (rw [c94] at c76; cases c76) | (rw [c94] at c110; cases c110) | (rw [c110] at c26; cases c26) | (rw [c110] at c59; cases c59) | (rw [c110] at c76; cases c76) | (rw [c110] at c94; cases c94)) | (simp [*, feF, lpN]; done) | with_reducible_and_instances rfl))) (Or.inr c59) ) (sub_s (sub_s (sub_n (sub_s (sub_s (sub_s (sub_s (sub_n (sub_n sub_nil)))))))))
              · skip
                try simp only [bI_0, bI_n0, Classical.not_not, Bool.not_eq_false, Bool.true_and, Bool.and_true, decide_eq_true_eq, decide_eq_false_iff_not, dayC_1, dayC_21, dayC_221, dayC_222, inI_1, inI_2, inI_3, inI_5, inI_11, inI_16] at c110
                have n110 := c110
                replace c110 := Int32.not_le.mp c110
                refine A_iload 115 dX10_feel_113 rfl rfl ?_
                refine A_goto 120 dX10_feel_115 (by decide) ?_
                refine A_istore 122 dX10_feel_120 rfl (by decide) (by first | exact (ast_s (ast_s (ast_s (ast_s (ast_1 rfl))))) | exact (ast_s (ast_s (ast_s (ast_s ast_k))))) ?_
                first | refine A_iincN 125 dX10_feel_122 rfl rfl (by decide) (by first | exact (ast_s (ast_s (ast_s (ast_s (ast_s (ast_1 rfl)))))) | exact (ast_s (ast_s (ast_s (ast_s (ast_s ast_k)))))) ?_ | refine A_iinc 125 (1) dX10_feel_122 rfl rfl (by decide) (by decide) (by first | exact (ast_s (ast_s (ast_s (ast_s (ast_s (ast_1 rfl)))))) | exact (ast_s (ast_s (ast_s (ast_s (ast_s ast_k)))))) ?_
                refine A_goto 51 dX10_feel_125 (by decide) ?_
                exact A_weak (ih n0 (Nat.lt_succ_self n0) (i + 1) _ _  (by omega) ((foldN_s (feF x c.2.2.2.2.2.2.2.1 c.2.2.2.2.2.2.2.2) ((-9, -9)) i).trans ((congrArg ((feF x c.2.2.2.2.2.2.2.1 c.2.2.2.2.2.2.2.2) i) ee).trans (by first | with_reducible rfl | (simp only [c26, n26, c59, n59, c76, n76, cl_m, c94, n94, c110, n110, if_true, if_false, ite_true, ite_false, and_true, true_and, and_false, false_and, and_self, or_true, true_or, or_false, false_or, or_self, not_true_eq_false, not_false_eq_true, decide_true, decide_false, Bool.and_true, Bool.true_and, Bool.and_false, Bool.false_and, Bool.and_self, Bool.or_true, Bool.true_or, Bool.or_false, Bool.false_or, Bool.not_true, Bool.not_false, cond_true, cond_false, bI_t, bI_f, Bool.false_eq_true, Bool.true_eq_false, dayC_1, dayC_21, dayC_221, dayC_222, feF, lpN]; done) | (with_reducible first | exact absurd c26 c59 | exact absurd c26 c76 | exact absurd c26 c94 | exact absurd c26 c110 | exact absurd c26 hy | exact absurd c26 hyb | exact absurd c59 c26 | exact absurd c59 c76 | exact absurd c59 c94 | exact absurd c59 c110 | exact absurd c59 hy | exact absurd c59 hyb | exact absurd c76 c26 | exact absurd c76 c59 | exact absurd c76 c94 | exact absurd c76 c110 | exact absurd c76 hy | exact absurd c76 hyb | exact absurd c94 c26 | exact absurd c94 c59 | exact absurd c94 c76 | exact absurd c94 c110 | exact absurd c94 hy | exact absurd c94 hyb | exact absurd c110 c26 | exact absurd c110 c59 | exact absurd c110 c76 | exact absurd c110 c94 | exact absurd c110 hy | exact absurd c110 hyb | exact absurd hy c26 | exact absurd hy c59 | exact absurd hy c76 | exact absurd hy c94 | exact absurd hy c110 | exact absurd hy hyb | exact absurd hyb c26 | exact absurd hyb c59 | exact absurd hyb c76 | exact absurd hyb c94 | exact absurd hyb c110 | exact absurd hyb hy | (rw [c26] at c59; cases c59) | (rw [c26] at c76; cases c76) | (rw [c26] at c94; cases c94) | (rw [c26] at c110; cases c110) | (rw [c59] at c26; cases c26) | (rw [c59] at c76; cases c76) | (rw [c59] at c94; cases c94) | (rw [c59] at c110; cases c110) | (rw [c76] at c26; cases c26) | (rw [c76] at c59; cases c59) | (rw [c76] at c94; cases c94) | (rw [c76] at c110; cases c110) | (rw [c94] at c26; cases c26) | (rw [c94] at c59; cases c59) | (rw [c94] at c76; cases c76) | (rw [c94] at c110; cases c110) | (rw [c110] at c26; cases c26) | (rw [c110] at c59; cases c59) | (rw [c110] at c76; cases c76) | (rw [c110] at c94; cases c94)) | (simp [*, feF, lpN]; done) | with_reducible_and_instances rfl))) (Or.inr c59) ) (sub_s (sub_s (sub_n (sub_s (sub_s (sub_s (sub_s (sub_n (sub_n sub_nil)))))))))
          · skip
            try simp only [bI_0, bI_n0, Classical.not_not, Bool.not_eq_false, Bool.true_and, Bool.and_true, decide_eq_true_eq, decide_eq_false_iff_not, dayC_1, dayC_21, dayC_221, dayC_222, inI_1, inI_2, inI_3, inI_5, inI_11, inI_16] at c76
            have n76 := c76
            replace c76 := Int32.not_le.mp c76
            have cl_m := (min_c (cwN x c.2.2.2.2.2.2.2.1 c.2.2.2.2.2.2.2.2 (nI i)) (cdN x c.2.2.2.2.2.2.2.1 c.2.2.2.2.2.2.2.2 - cwN x c.2.2.2.2.2.2.2.1 c.2.2.2.2.2.2.2.2 (nI i))).symm
            refine A_iload 81 dX10_feel_79 rfl rfl ?_
            refine A_goto 88 dX10_feel_81 (by decide) ?_
            refine A_istore 90 dX10_feel_88 rfl (by decide) (by first | exact (ast_s (ast_s (ast_s (ast_s (ast_s (ast_s (ast_s (ast_1 rfl)))))))) | exact (ast_s (ast_s (ast_s (ast_s (ast_s (ast_s (ast_s ast_k)))))))) ?_
            refine A_iload 92 dX10_feel_90 rfl rfl ?_
            refine A_iload 94 dX10_feel_92 rfl rfl ?_
            refine A_icmp_le 102 97 dX10_feel_94 (by decide) rfl (fun c94 => ?_) (fun c94 => ?_)
            · skip
              try simp only [bI_0, bI_n0, Classical.not_not, Bool.not_eq_false, Bool.true_and, Bool.and_true, decide_eq_true_eq, decide_eq_false_iff_not, dayC_1, dayC_21, dayC_221, dayC_222, inI_1, inI_2, inI_3, inI_5, inI_11, inI_16] at c94
              have n94 := c94
              replace c94 := Int32.not_lt.mpr c94
              refine A_iload 104 dX10_feel_102 rfl rfl ?_
              refine A_istore 106 dX10_feel_104 rfl (by decide) (by first | exact (ast_s (ast_s (ast_s (ast_1 rfl)))) | exact (ast_s (ast_s (ast_s ast_k)))) ?_
              refine A_iload 108 dX10_feel_106 rfl rfl ?_
              refine A_iload 110 dX10_feel_108 rfl rfl ?_
              refine A_icmp_le 118 113 dX10_feel_110 (by decide) rfl (fun c110 => ?_) (fun c110 => ?_)
              · skip
                try simp only [bI_0, bI_n0, Classical.not_not, Bool.not_eq_false, Bool.true_and, Bool.and_true, decide_eq_true_eq, decide_eq_false_iff_not, dayC_1, dayC_21, dayC_221, dayC_222, inI_1, inI_2, inI_3, inI_5, inI_11, inI_16] at c110
                have n110 := c110
                replace c110 := Int32.not_lt.mpr c110
                refine A_iload 120 dX10_feel_118 rfl rfl ?_
                refine A_istore 122 dX10_feel_120 rfl (by decide) (by first | exact (ast_s (ast_s (ast_s (ast_s (ast_1 rfl))))) | exact (ast_s (ast_s (ast_s (ast_s ast_k))))) ?_
                first | refine A_iincN 125 dX10_feel_122 rfl rfl (by decide) (by first | exact (ast_s (ast_s (ast_s (ast_s (ast_s (ast_1 rfl)))))) | exact (ast_s (ast_s (ast_s (ast_s (ast_s ast_k)))))) ?_ | refine A_iinc 125 (1) dX10_feel_122 rfl rfl (by decide) (by decide) (by first | exact (ast_s (ast_s (ast_s (ast_s (ast_s (ast_1 rfl)))))) | exact (ast_s (ast_s (ast_s (ast_s (ast_s ast_k)))))) ?_
                refine A_goto 51 dX10_feel_125 (by decide) ?_
                exact A_weak (ih n0 (Nat.lt_succ_self n0) (i + 1) _ _  (by omega) ((foldN_s (feF x c.2.2.2.2.2.2.2.1 c.2.2.2.2.2.2.2.2) ((-9, -9)) i).trans ((congrArg ((feF x c.2.2.2.2.2.2.2.1 c.2.2.2.2.2.2.2.2) i) ee).trans (by first | with_reducible rfl | (simp only [c26, n26, c59, n59, c76, n76, cl_m, c94, n94, c110, n110, if_true, if_false, ite_true, ite_false, and_true, true_and, and_false, false_and, and_self, or_true, true_or, or_false, false_or, or_self, not_true_eq_false, not_false_eq_true, decide_true, decide_false, Bool.and_true, Bool.true_and, Bool.and_false, Bool.false_and, Bool.and_self, Bool.or_true, Bool.true_or, Bool.or_false, Bool.false_or, Bool.not_true, Bool.not_false, cond_true, cond_false, bI_t, bI_f, Bool.false_eq_true, Bool.true_eq_false, dayC_1, dayC_21, dayC_221, dayC_222, feF, lpN]; done) | (with_reducible first | exact absurd c26 c59 | exact absurd c26 c76 | exact absurd c26 c94 | exact absurd c26 c110 | exact absurd c26 hy | exact absurd c26 hyb | exact absurd c59 c26 | exact absurd c59 c76 | exact absurd c59 c94 | exact absurd c59 c110 | exact absurd c59 hy | exact absurd c59 hyb | exact absurd c76 c26 | exact absurd c76 c59 | exact absurd c76 c94 | exact absurd c76 c110 | exact absurd c76 hy | exact absurd c76 hyb | exact absurd c94 c26 | exact absurd c94 c59 | exact absurd c94 c76 | exact absurd c94 c110 | exact absurd c94 hy | exact absurd c94 hyb | exact absurd c110 c26 | exact absurd c110 c59 | exact absurd c110 c76 | exact absurd c110 c94 | exact absurd c110 hy | exact absurd c110 hyb | exact absurd hy c26 | exact absurd hy c59 | exact absurd hy c76 | exact absurd hy c94 | exact absurd hy c110 | exact absurd hy hyb | exact absurd hyb c26 | exact absurd hyb c59 | exact absurd hyb c76 | exact absurd hyb c94 | exact absurd hyb c110 | exact absurd hyb hy | (rw [c26] at c59; cases c59) | (rw [c26] at c76; cases c76) | (rw [c26] at c94; cases c94) | (rw [c26] at c110; cases c110) | (rw [c59] at c26; cases c26) | (rw [c59] at c76; cases c76) | (rw [c59] at c94; cases c94) | (rw [c59] at c110; cases c110) | (rw [c76] at c26; cases c26) | (rw [c76] at c59; cases c59) | (rw [c76] at c94; cases c94) | (rw [c76] at c110; cases c110) | (rw [c94] at c26; cases c26) | (rw [c94] at c59; cases c59) | (rw [c94] at c76; cases c76) | (rw [c94] at c110; cases c110) | (rw [c110] at c26; cases c26) | (rw [c110] at c59; cases c59) | (rw [c110] at c76; cases c76) | (rw [c110] at c94; cases c94)) | (simp [*, feF, lpN]; done) | with_reducible_and_instances rfl))) (Or.inr c59) ) (sub_s (sub_s (sub_n (sub_s (sub_s (sub_s (sub_s (sub_n (sub_n sub_nil)))))))))
              · skip
                try simp only [bI_0, bI_n0, Classical.not_not, Bool.not_eq_false, Bool.true_and, Bool.and_true, decide_eq_true_eq, decide_eq_false_iff_not, dayC_1, dayC_21, dayC_221, dayC_222, inI_1, inI_2, inI_3, inI_5, inI_11, inI_16] at c110
                have n110 := c110
                replace c110 := Int32.not_le.mp c110
                refine A_iload 115 dX10_feel_113 rfl rfl ?_
                refine A_goto 120 dX10_feel_115 (by decide) ?_
                refine A_istore 122 dX10_feel_120 rfl (by decide) (by first | exact (ast_s (ast_s (ast_s (ast_s (ast_1 rfl))))) | exact (ast_s (ast_s (ast_s (ast_s ast_k))))) ?_
                first | refine A_iincN 125 dX10_feel_122 rfl rfl (by decide) (by first | exact (ast_s (ast_s (ast_s (ast_s (ast_s (ast_1 rfl)))))) | exact (ast_s (ast_s (ast_s (ast_s (ast_s ast_k)))))) ?_ | refine A_iinc 125 (1) dX10_feel_122 rfl rfl (by decide) (by decide) (by first | exact (ast_s (ast_s (ast_s (ast_s (ast_s (ast_1 rfl)))))) | exact (ast_s (ast_s (ast_s (ast_s (ast_s ast_k)))))) ?_
                refine A_goto 51 dX10_feel_125 (by decide) ?_
                exact A_weak (ih n0 (Nat.lt_succ_self n0) (i + 1) _ _  (by omega) ((foldN_s (feF x c.2.2.2.2.2.2.2.1 c.2.2.2.2.2.2.2.2) ((-9, -9)) i).trans ((congrArg ((feF x c.2.2.2.2.2.2.2.1 c.2.2.2.2.2.2.2.2) i) ee).trans (by first | with_reducible rfl | (simp only [c26, n26, c59, n59, c76, n76, cl_m, c94, n94, c110, n110, if_true, if_false, ite_true, ite_false, and_true, true_and, and_false, false_and, and_self, or_true, true_or, or_false, false_or, or_self, not_true_eq_false, not_false_eq_true, decide_true, decide_false, Bool.and_true, Bool.true_and, Bool.and_false, Bool.false_and, Bool.and_self, Bool.or_true, Bool.true_or, Bool.or_false, Bool.false_or, Bool.not_true, Bool.not_false, cond_true, cond_false, bI_t, bI_f, Bool.false_eq_true, Bool.true_eq_false, dayC_1, dayC_21, dayC_221, dayC_222, feF, lpN]; done) | (with_reducible first | exact absurd c26 c59 | exact absurd c26 c76 | exact absurd c26 c94 | exact absurd c26 c110 | exact absurd c26 hy | exact absurd c26 hyb | exact absurd c59 c26 | exact absurd c59 c76 | exact absurd c59 c94 | exact absurd c59 c110 | exact absurd c59 hy | exact absurd c59 hyb | exact absurd c76 c26 | exact absurd c76 c59 | exact absurd c76 c94 | exact absurd c76 c110 | exact absurd c76 hy | exact absurd c76 hyb | exact absurd c94 c26 | exact absurd c94 c59 | exact absurd c94 c76 | exact absurd c94 c110 | exact absurd c94 hy | exact absurd c94 hyb | exact absurd c110 c26 | exact absurd c110 c59 | exact absurd c110 c76 | exact absurd c110 c94 | exact absurd c110 hy | exact absurd c110 hyb | exact absurd hy c26 | exact absurd hy c59 | exact absurd hy c76 | exact absurd hy c94 | exact absurd hy c110 | exact absurd hy hyb | exact absurd hyb c26 | exact absurd hyb c59 | exact absurd hyb c76 | exact absurd hyb c94 | exact absurd hyb c110 | exact absurd hyb hy | (rw [c26] at c59; cases c59) | (rw [c26] at c76; cases c76) | (rw [c26] at c94; cases c94) | (rw [c26] at c110; cases c110) | (rw [c59] at c26; cases c26) | (rw [c59] at c76; cases c76) | (rw [c59] at c94; cases c94) | (rw [c59] at c110; cases c110) | (rw [c76] at c26; cases c26) | (rw [c76] at c59; cases c59) | (rw [c76] at c94; cases c94) | (rw [c76] at c110; cases c110) | (rw [c94] at c26; cases c26) | (rw [c94] at c59; cases c59) | (rw [c94] at c76; cases c76) | (rw [c94] at c110; cases c110) | (rw [c110] at c26; cases c26) | (rw [c110] at c59; cases c59) | (rw [c110] at c76; cases c76) | (rw [c110] at c94; cases c94)) | (simp [*, feF, lpN]; done) | with_reducible_and_instances rfl))) (Or.inr c59) ) (sub_s (sub_s (sub_n (sub_s (sub_s (sub_s (sub_s (sub_n (sub_n sub_nil)))))))))
            · skip
              try simp only [bI_0, bI_n0, Classical.not_not, Bool.not_eq_false, Bool.true_and, Bool.and_true, decide_eq_true_eq, decide_eq_false_iff_not, dayC_1, dayC_21, dayC_221, dayC_222, inI_1, inI_2, inI_3, inI_5, inI_11, inI_16] at c94
              have n94 := c94
              replace c94 := Int32.not_le.mp c94
              refine A_iload 99 dX10_feel_97 rfl rfl ?_
              refine A_goto 104 dX10_feel_99 (by decide) ?_
              refine A_istore 106 dX10_feel_104 rfl (by decide) (by first | exact (ast_s (ast_s (ast_s (ast_1 rfl)))) | exact (ast_s (ast_s (ast_s ast_k)))) ?_
              refine A_iload 108 dX10_feel_106 rfl rfl ?_
              refine A_iload 110 dX10_feel_108 rfl rfl ?_
              refine A_icmp_le 118 113 dX10_feel_110 (by decide) rfl (fun c110 => ?_) (fun c110 => ?_)
              · skip
                try simp only [bI_0, bI_n0, Classical.not_not, Bool.not_eq_false, Bool.true_and, Bool.and_true, decide_eq_true_eq, decide_eq_false_iff_not, dayC_1, dayC_21, dayC_221, dayC_222, inI_1, inI_2, inI_3, inI_5, inI_11, inI_16] at c110
                have n110 := c110
                replace c110 := Int32.not_lt.mpr c110
                refine A_iload 120 dX10_feel_118 rfl rfl ?_
                refine A_istore 122 dX10_feel_120 rfl (by decide) (by first | exact (ast_s (ast_s (ast_s (ast_s (ast_1 rfl))))) | exact (ast_s (ast_s (ast_s (ast_s ast_k))))) ?_
                first | refine A_iincN 125 dX10_feel_122 rfl rfl (by decide) (by first | exact (ast_s (ast_s (ast_s (ast_s (ast_s (ast_1 rfl)))))) | exact (ast_s (ast_s (ast_s (ast_s (ast_s ast_k)))))) ?_ | refine A_iinc 125 (1) dX10_feel_122 rfl rfl (by decide) (by decide) (by first | exact (ast_s (ast_s (ast_s (ast_s (ast_s (ast_1 rfl)))))) | exact (ast_s (ast_s (ast_s (ast_s (ast_s ast_k)))))) ?_
                refine A_goto 51 dX10_feel_125 (by decide) ?_
                exact A_weak (ih n0 (Nat.lt_succ_self n0) (i + 1) _ _  (by omega) ((foldN_s (feF x c.2.2.2.2.2.2.2.1 c.2.2.2.2.2.2.2.2) ((-9, -9)) i).trans ((congrArg ((feF x c.2.2.2.2.2.2.2.1 c.2.2.2.2.2.2.2.2) i) ee).trans (by first | with_reducible rfl | (simp only [c26, n26, c59, n59, c76, n76, cl_m, c94, n94, c110, n110, if_true, if_false, ite_true, ite_false, and_true, true_and, and_false, false_and, and_self, or_true, true_or, or_false, false_or, or_self, not_true_eq_false, not_false_eq_true, decide_true, decide_false, Bool.and_true, Bool.true_and, Bool.and_false, Bool.false_and, Bool.and_self, Bool.or_true, Bool.true_or, Bool.or_false, Bool.false_or, Bool.not_true, Bool.not_false, cond_true, cond_false, bI_t, bI_f, Bool.false_eq_true, Bool.true_eq_false, dayC_1, dayC_21, dayC_221, dayC_222, feF, lpN]; done) | (with_reducible first | exact absurd c26 c59 | exact absurd c26 c76 | exact absurd c26 c94 | exact absurd c26 c110 | exact absurd c26 hy | exact absurd c26 hyb | exact absurd c59 c26 | exact absurd c59 c76 | exact absurd c59 c94 | exact absurd c59 c110 | exact absurd c59 hy | exact absurd c59 hyb | exact absurd c76 c26 | exact absurd c76 c59 | exact absurd c76 c94 | exact absurd c76 c110 | exact absurd c76 hy | exact absurd c76 hyb | exact absurd c94 c26 | exact absurd c94 c59 | exact absurd c94 c76 | exact absurd c94 c110 | exact absurd c94 hy | exact absurd c94 hyb | exact absurd c110 c26 | exact absurd c110 c59 | exact absurd c110 c76 | exact absurd c110 c94 | exact absurd c110 hy | exact absurd c110 hyb | exact absurd hy c26 | exact absurd hy c59 | exact absurd hy c76 | exact absurd hy c94 | exact absurd hy c110 | exact absurd hy hyb | exact absurd hyb c26 | exact absurd hyb c59 | exact absurd hyb c76 | exact absurd hyb c94 | exact absurd hyb c110 | exact absurd hyb hy | (rw [c26] at c59; cases c59) | (rw [c26] at c76; cases c76) | (rw [c26] at c94; cases c94) | (rw [c26] at c110; cases c110) | (rw [c59] at c26; cases c26) | (rw [c59] at c76; cases c76) | (rw [c59] at c94; cases c94) | (rw [c59] at c110; cases c110) | (rw [c76] at c26; cases c26) | (rw [c76] at c59; cases c59) | (rw [c76] at c94; cases c94) | (rw [c76] at c110; cases c110) | (rw [c94] at c26; cases c26) | (rw [c94] at c59; cases c59) | (rw [c94] at c76; cases c76) | (rw [c94] at c110; cases c110) | (rw [c110] at c26; cases c26) | (rw [c110] at c59; cases c59) | (rw [c110] at c76; cases c76) | (rw [c110] at c94; cases c94)) | (simp [*, feF, lpN]; done) | with_reducible_and_instances rfl))) (Or.inr c59) ) (sub_s (sub_s (sub_n (sub_s (sub_s (sub_s (sub_s (sub_n (sub_n sub_nil)))))))))
              · skip
                try simp only [bI_0, bI_n0, Classical.not_not, Bool.not_eq_false, Bool.true_and, Bool.and_true, decide_eq_true_eq, decide_eq_false_iff_not, dayC_1, dayC_21, dayC_221, dayC_222, inI_1, inI_2, inI_3, inI_5, inI_11, inI_16] at c110
                have n110 := c110
                replace c110 := Int32.not_le.mp c110
                refine A_iload 115 dX10_feel_113 rfl rfl ?_
                refine A_goto 120 dX10_feel_115 (by decide) ?_
                refine A_istore 122 dX10_feel_120 rfl (by decide) (by first | exact (ast_s (ast_s (ast_s (ast_s (ast_1 rfl))))) | exact (ast_s (ast_s (ast_s (ast_s ast_k))))) ?_
                first | refine A_iincN 125 dX10_feel_122 rfl rfl (by decide) (by first | exact (ast_s (ast_s (ast_s (ast_s (ast_s (ast_1 rfl)))))) | exact (ast_s (ast_s (ast_s (ast_s (ast_s ast_k)))))) ?_ | refine A_iinc 125 (1) dX10_feel_122 rfl rfl (by decide) (by decide) (by first | exact (ast_s (ast_s (ast_s (ast_s (ast_s (ast_1 rfl)))))) | exact (ast_s (ast_s (ast_s (ast_s (ast_s ast_k)))))) ?_
                refine A_goto 51 dX10_feel_125 (by decide) ?_
                exact A_weak (ih n0 (Nat.lt_succ_self n0) (i + 1) _ _  (by omega) ((foldN_s (feF x c.2.2.2.2.2.2.2.1 c.2.2.2.2.2.2.2.2) ((-9, -9)) i).trans ((congrArg ((feF x c.2.2.2.2.2.2.2.1 c.2.2.2.2.2.2.2.2) i) ee).trans (by first | with_reducible rfl | (simp only [c26, n26, c59, n59, c76, n76, cl_m, c94, n94, c110, n110, if_true, if_false, ite_true, ite_false, and_true, true_and, and_false, false_and, and_self, or_true, true_or, or_false, false_or, or_self, not_true_eq_false, not_false_eq_true, decide_true, decide_false, Bool.and_true, Bool.true_and, Bool.and_false, Bool.false_and, Bool.and_self, Bool.or_true, Bool.true_or, Bool.or_false, Bool.false_or, Bool.not_true, Bool.not_false, cond_true, cond_false, bI_t, bI_f, Bool.false_eq_true, Bool.true_eq_false, dayC_1, dayC_21, dayC_221, dayC_222, feF, lpN]; done) | (with_reducible first | exact absurd c26 c59 | exact absurd c26 c76 | exact absurd c26 c94 | exact absurd c26 c110 | exact absurd c26 hy | exact absurd c26 hyb | exact absurd c59 c26 | exact absurd c59 c76 | exact absurd c59 c94 | exact absurd c59 c110 | exact absurd c59 hy | exact absurd c59 hyb | exact absurd c76 c26 | exact absurd c76 c59 | exact absurd c76 c94 | exact absurd c76 c110 | exact absurd c76 hy | exact absurd c76 hyb | exact absurd c94 c26 | exact absurd c94 c59 | exact absurd c94 c76 | exact absurd c94 c110 | exact absurd c94 hy | exact absurd c94 hyb | exact absurd c110 c26 | exact absurd c110 c59 | exact absurd c110 c76 | exact absurd c110 c94 | exact absurd c110 hy | exact absurd c110 hyb | exact absurd hy c26 | exact absurd hy c59 | exact absurd hy c76 | exact absurd hy c94 | exact absurd hy c110 | exact absurd hy hyb | exact absurd hyb c26 | exact absurd hyb c59 | exact absurd hyb c76 | exact absurd hyb c94 | exact absurd hyb c110 | exact absurd hyb hy | (rw [c26] at c59; cases c59) | (rw [c26] at c76; cases c76) | (rw [c26] at c94; cases c94) | (rw [c26] at c110; cases c110) | (rw [c59] at c26; cases c26) | (rw [c59] at c76; cases c76) | (rw [c59] at c94; cases c94) | (rw [c59] at c110; cases c110) | (rw [c76] at c26; cases c26) | (rw [c76] at c59; cases c59) | (rw [c76] at c94; cases c94) | (rw [c76] at c110; cases c110) | (rw [c94] at c26; cases c26) | (rw [c94] at c59; cases c59) | (rw [c94] at c76; cases c76) | (rw [c94] at c110; cases c110) | (rw [c110] at c26; cases c26) | (rw [c110] at c59; cases c59) | (rw [c110] at c76; cases c76) | (rw [c110] at c94; cases c94)) | (simp [*, feF, lpN]; done) | with_reducible_and_instances rfl))) (Or.inr c59) ) (sub_s (sub_s (sub_n (sub_s (sub_s (sub_s (sub_s (sub_n (sub_n sub_nil)))))))))
    exact A_weak (L51 (8) (0) (_) (_)  (by omega) (rfl) (Or.inl rfl) ) (sub_s (sub_s (sub_n (sub_s (sub_s (sub_s (sub_s (sub_n (sub_n sub_nil)))))))))
  · skip
    try simp only [bI_0, bI_n0, Classical.not_not, Bool.not_eq_false, Bool.true_and, Bool.and_true, decide_eq_true_eq, decide_eq_false_iff_not, dayC_1, dayC_21, dayC_221, dayC_222, inI_1, inI_2, inI_3, inI_5, inI_11, inI_16] at c26
    have n26 := c26
    replace c26 := Int32.not_le.mp c26
    have hcd : CD (w01R x c.2.2.2.2.2.2.2.1 c.2.2.2.2.2.2.2.2 v) := cz_neg w01R_cz c26
    refine A_aload_n 30 dX10_feel_29 rfl rfl rfl ?_
    refine A_iload_n 31 dX10_feel_30 rfl rfl rfl ?_
    refine A_callVI 34 (S_X10_refuse_c X l (by first | assumption | decide | omega | exact Ne.symm (by assumption)) (by first | assumption | (unfold CD; decide))) dX10_feel_31 rfl kX10_refuse lk_X10_121 rfl O28 (by decide) rfl (Nat.le_of_ble_eq_true rfl) (fun v_6 h_6 qh_6 => ?_)
    obtain ⟨rfl, n0h_6, eh_6⟩ := qh_6
    replace O28 := n0h_6
    replace hf : ∀ i, i ≠ 28 → h_6 i = h i := fun i g0 => (eh_6 i g0).trans (hf i g0)
    refine A_iret dX10_feel_34 rfl ⟨_, rfl, (by exact rV_n hcd.ne), _, O28, hf⟩
set_option maxHeartbeats 4000000 in
set_option maxRecDepth 100000 in
theorem S_X10_divisor (X : En) (l : Launch) {h : Hp} {a b : Int64} (ht : euT 100 a b) : Ct X l mX10_divisor [aL a, aL b] h (QL (PL0 (euL 100 a b) h)) := by
  refine Ct.intro [some (aL a), none, some (aL b), none, none, none, none, none, none, none] (by decide +kernel) rfl (Nat.le_of_ble_eq_true rfl) ?_
  refine A_lload_n 1 dX10_divisor_0 rfl rfl rfl ?_
  refine A_lstore 3 dX10_divisor_1 rfl (by decide) (by first | exact (astL_s (astL_s (astL_s (astL_1 rfl)))) | exact (astL_s (astL_s (astL_s astL_k)))) ?_
  refine A_lload_n 4 dX10_divisor_3 rfl rfl rfl ?_
  refine A_lstore 6 dX10_divisor_4 rfl (by decide) (by first | exact (astL_s (astL_s (astL_s (astL_s (astL_s (astL_1 rfl)))))) | exact (astL_s (astL_s (astL_s (astL_s (astL_s astL_k)))))) ?_
  have L6 : ∀ (nq i : Nat) (u w : Int64) , (nq + i = 100) → (euL nq u w = euL 100 a b) → (euT nq u w) → Av X l mX10_divisor 6 [some (aL (a)), none, some (aL (b)), none, some (aL (u)), none, some (aL (w)), none, none, none] [] h (QL (PL0 (euL 100 a b) h)) := by
    intro nq
    induction nq using Nat.strongRecOn with
    | _ nq ih =>
    intro i u w en ee hy
    refine A_lload 8 dX10_divisor_6 rfl rfl ?_
    refine A_lconst 9 (0) dX10_divisor_8 rfl (by decide) ?_
    refine A_lcmp 10 dX10_divisor_9 rfl ?_
    refine A_if_eq 31 13 dX10_divisor_10 (by decide) rfl (fun c10 => ?_) (fun c10 => ?_)
    · skip
      have q10 := lcmp_eq.mp c10
      refine A_lload 33 dX10_divisor_31 rfl rfl ?_
      refine A_lret dX10_divisor_33 rfl ⟨_, rfl, (by rw [← ee, euL_y0 q10]), rfl⟩
    · skip
      have q10 := mt lcmp_eq.mpr c10
      obtain ⟨n0, rfl⟩ : ∃ q, nq = q + 1 := by
        cases nq with
        | zero => exact absurd hy q10
        | succ q => exact ⟨q, rfl⟩
      refine A_lload 15 dX10_divisor_13 rfl rfl ?_
      refine A_lload 17 dX10_divisor_15 rfl rfl ?_
      refine A_lrem 18 dX10_divisor_17 rfl (q10) ?_
      refine A_lstore 20 dX10_divisor_18 rfl (by decide) (by first | exact (astL_s (astL_s (astL_s (astL_s (astL_s (astL_s (astL_s (astL_1 rfl)))))))) | exact (astL_s (astL_s (astL_s (astL_s (astL_s (astL_s (astL_s astL_k)))))))) ?_
      refine A_lload 22 dX10_divisor_20 rfl rfl ?_
      refine A_lstore 24 dX10_divisor_22 rfl (by decide) (by first | exact (astL_s (astL_s (astL_s (astL_1 rfl)))) | exact (astL_s (astL_s (astL_s astL_k)))) ?_
      refine A_lload 26 dX10_divisor_24 rfl rfl ?_
      refine A_lstore 28 dX10_divisor_26 rfl (by decide) (by first | exact (astL_s (astL_s (astL_s (astL_s (astL_s (astL_1 rfl)))))) | exact (astL_s (astL_s (astL_s (astL_s (astL_s astL_k)))))) ?_
      refine A_goto 6 dX10_divisor_28 (by decide) ?_
      exact A_weak (ih n0 (Nat.lt_succ_self n0) (i + 1) _ _  (by omega) ((by rw [euL_s, if_neg q10] : euL (n0 + 1) u w = euL n0 w (u - u / w * w)).symm.trans ee) (hy.resolve_left q10) ) (sub_s (sub_n (sub_s (sub_n (sub_s (sub_n (sub_s (sub_n (sub_n (sub_n sub_nil))))))))))
  exact A_weak (L6 (100) (0) (_) (_)  (by omega) (rfl) (ht) ) (sub_s (sub_n (sub_s (sub_n (sub_s (sub_n (sub_s (sub_n (sub_n (sub_n sub_nil))))))))))
set_option maxHeartbeats 4000000 in
set_option maxRecDepth 100000 in
theorem S_X10_partOf (X : En) (l : Launch) {h : Hp} {a b : Int64} {p : Int32} (hp : p = 0 ∨ p = 1) (ha : a = 0 ∨ 0 < a) (ht : euT 100 a b) : Ct X l mX10_partOf [aL a, aL b, aI p] h (QL (PL0 (loF a b p) h)) := by
  refine Ct.intro [some (aL a), none, some (aL b), none, some (aI p), none, none] (by decide +kernel) rfl (Nat.le_of_ble_eq_true rfl) ?_
  refine A_lload_n 1 dX10_partOf_0 rfl rfl rfl ?_
  refine A_lconst 2 (0) dX10_partOf_1 rfl (by decide) ?_
  refine A_lcmp 3 dX10_partOf_2 rfl ?_
  refine A_if_ne 10 6 dX10_partOf_3 (by decide) rfl (fun c3 => ?_) (fun c3 => ?_)
  · skip
    have q3 := mt lcmp_eq.mpr c3
    have qa := absL_p (ha.resolve_left q3)
    have qn := euL_nz 100 b q3
    refine A_lload_n 11 dX10_partOf_10 rfl rfl rfl ?_
    refine A_lload_n 12 dX10_partOf_11 rfl rfl rfl ?_
    refine A_callSL 15 (S_X10_divisor X l (by first | assumption | decide | omega | exact Ne.symm (by assumption))) dX10_partOf_12 rfl kX10_divisor lk_X10_248 rfl (by decide) rfl (Nat.le_of_ble_eq_true rfl) (fun v_1 h_1 qh_1 => ?_)
    obtain ⟨rfl, rfl⟩ := qh_1
    refine A_lstore 17 dX10_partOf_15 rfl (by decide) (by first | exact (astL_s (astL_s (astL_s (astL_s (astL_1 rfl))))) | exact (astL_s (astL_s (astL_s (astL_s astL_k))))) ?_
    refine A_iload 19 dX10_partOf_17 rfl rfl ?_
    refine A_if_ne 29 22 dX10_partOf_19 (by decide) rfl (fun c19 => ?_) (fun c19 => ?_)
    · skip
      try simp only [bI_0, bI_n0, Classical.not_not, Bool.not_eq_false, Bool.true_and, Bool.and_true, decide_eq_true_eq, decide_eq_false_iff_not, dayC_1, dayC_21, dayC_221, dayC_222, inI_1, inI_2, inI_3, inI_5, inI_11, inI_16] at c19
      refine A_lload_n 30 dX10_partOf_29 rfl rfl rfl ?_
      refine A_lload 32 dX10_partOf_30 rfl rfl ?_
      refine A_ldiv 33 dX10_partOf_32 rfl (qn) ?_
      refine A_lret dX10_partOf_33 rfl ⟨_, rfl, (by unfold loF; rw [if_neg q3, qa, if_neg qn]; first | rw [if_pos c19] | rw [if_neg c19]), rfl⟩
    · skip
      try simp only [bI_0, bI_n0, Classical.not_not, Bool.not_eq_false, Bool.true_and, Bool.and_true, decide_eq_true_eq, decide_eq_false_iff_not, dayC_1, dayC_21, dayC_221, dayC_222, inI_1, inI_2, inI_3, inI_5, inI_11, inI_16] at c19
      refine A_lload_n 23 dX10_partOf_22 rfl rfl rfl ?_
      refine A_lload 25 dX10_partOf_23 rfl rfl ?_
      refine A_ldiv 26 dX10_partOf_25 rfl (qn) ?_
      refine A_goto 33 dX10_partOf_26 (by decide) ?_
      refine A_lret dX10_partOf_33 rfl ⟨_, rfl, (by unfold loF; rw [if_neg q3, qa, if_neg qn]; first | rw [if_pos c19] | rw [if_neg c19]), rfl⟩
  · skip
    have q3 := lcmp_eq.mp c3
    refine A_iload 8 dX10_partOf_6 rfl rfl ?_
    refine A_i2l 9 dX10_partOf_8 rfl ?_
    refine A_lret dX10_partOf_9 rfl ⟨_, rfl, (by unfold loF; rw [if_pos q3]; exact (p01L hp).symm), rfl⟩
