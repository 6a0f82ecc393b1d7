/-! orders and odds; the rest of Folk; Past -/
def facF (n : Nat) : Int64 := foldN (fun k t => t * (nI (k + 2)).toInt64) 1 (n - 1)
def facI (v : Int32) : Int64 := facF v.toNatClampNeg
def popN (i : Nat) : Nat := i % 2 + i / 2 % 2 + i / 4 % 2 + i / 8 % 2 + i / 16 % 2 + i / 32 % 2 + i / 64 % 2 + i / 128 % 2 + i / 256 % 2 + i / 512 % 2
theorem bitC_pop : ∀ m, m < 1024 → bitC (nI m) = nI (popN m) ∧ popN m ≤ 10 := by decide +kernel
theorem pop_8 : ∀ m, m < 256 → popN m ≤ 8 := by decide +kernel
theorem sub_lt : ∀ a, a < 11 → ∀ b, b < 11 → nI a - nI b < 1000 := by decide +kernel
theorem R10.lt {v : Int32} (h : R10 v) : bitC v < 1000 := by
  obtain ⟨m, hm, rfl⟩ := h
  obtain ⟨e, q⟩ := bitC_pop m hm
  rw [e]
  exact (nlt_iff (b := 1000) (by omega) (by decide)).mpr (by omega)
theorem R10.sub {v w : Int32} (h : R10 v) (h2 : R10 w) : bitC v - bitC w < 1000 := by
  obtain ⟨m, hm, rfl⟩ := h
  obtain ⟨n, hn, rfl⟩ := h2
  rw [(bitC_pop m hm).1, (bitC_pop n hn).1]
  exact sub_lt _ (by have := (bitC_pop m hm).2; omega) _ (by have := (bitC_pop n hn).2; omega)
theorem R10.nI {m : Nat} (h : m < 1024) : R10 (nI m) := ⟨m, h, rfl⟩
def euL : Nat → Int64 → Int64 → Int64
  | 0, x, _ => x
  | n + 1, x, y => if y = 0 then x else euL n y (x - x / y * y)
theorem euL_s (n : Nat) (x y : Int64) : euL (n + 1) x y = if y = 0 then x else euL n y (x - x / y * y) := rfl
def absL (x : Int64) : Int64 := if 0 < x then x else -x
def loF (a b : Int64) (p : Int32) : Int64 := if a = 0 then (if p = 0 then 0 else 1) else if euL 100 (absL a) b = 0 then 0 else if p = 0 then a / euL 100 (absL a) b else b / euL 100 (absL a) b
def lcF (x : PW) (p l t : Int32) (i : Nat) (u : Int64) : Int64 := if nI i &&& (p ^^^ (-1)) = 0 ∧ btI (dDone x 0 (nI i)) l = true then u + powF (t - 1).toInt64 (popN i) else u
def aoF (x : PW) (oth tb : Int32) (i : Nat) (u : Int64) : Int64 := if nI i &&& (oth ^^^ (-1)) = 0 then u + facI (bitC (nI i)) * facI (bitC oth - bitC (nI i)) * (DN x (nI i ||| tb) - DN x (nI i)).toInt64 else u
def svI (w : Int32) (set j : Nat) (t : FI) : FI := if (inT (nI j) && btI (w &&& (nI set ^^^ (-1))) (nI j)) = true then va_up t (set ||| 2 ^ j) 1 else t
def svO (w : Int32) (set : Nat) (t : FI) : FI := if t set = 0 then t else foldN (svI w set) t 8
def svP (x : PW) (p : Nat) (t : FI) : FI := downF (svO (SP x (x.2.1 p))) 256 t
def own0 : FI := fun j => if j = 0 then 1 else 0
def svA (x : PW) : FI := foldN (svP x) own0 x.2.2.2.1
def mwF (t : FI) (i : Nat) (u : Int32) : Int32 := if ¬ t i = 0 ∧ u < bitC (nI i) then bitC (nI i) else u
def MOW (x : PW) : Int32 := foldN (mwF (svA x)) 0 256
theorem own0_eq {g : FI} (h : ∀ j, j < 256 → g j = 0) : ∀ j, j < 256 → va_up g 0 1 j = own0 j := by
  intro j hj
  unfold va_up own0
  by_cases e : j = 0
  · rw [if_pos e, if_pos e]
  · rw [if_neg e, if_neg e, h j hj]
theorem upA_eq {α : Type} {f D : Nat → α} {i : Nat} {v : α} (h : ∀ j, j < i → f j = D j) (hv : v = D i) : ∀ j, j < i + 1 → va_up f i v j = D j := by
  intro j hj
  unfold va_up
  by_cases e : j = i
  · rw [if_pos e, e]; exact hv
  · rw [if_neg e]; exact h j (by omega)
theorem anyN_congr {p q : Nat → Bool} : ∀ {n : Nat}, (∀ k, k < n → p k = q k) → anyN p n = anyN q n := by
  intro n
  induction n with
  | zero => intro _; rfl
  | succ n ih => intro h; unfold anyN; rw [ih (fun k hk => h k (by omega)), h n (by omega)]
theorem seen_eq {x : PW} {k : Nat} {s : Nat → Int64} (h : ∀ j, j < k + 1 + 1 → s j = PK (dyN x j)) : anyN (fun q => decide (s q = s (k + 1))) (k + 1) = anyN (fun q => seenB x q (k + 1)) (k + 1) :=
  anyN_congr (fun q hq => by unfold seenB; rw [h q (by omega), h (k + 1) (by omega)])
section EXO
variable {X : En} {l : Launch} {M : MI} {pc : Nat} {ls : List (Option AV)} {st : List AV} {h : Hp} {Q : Option AV → Hp → Prop}
theorem Av.extO {s : Nat → Int64} {f f' : FI} (ho : h 25 = some (foB s f)) (hf : ∀ j, j < 256 → f j = f' j) (k : ∀ h' : Hp, h' 25 = some (foB s f') → (∀ i, i ≠ 25 → h' i = h i) → Av X l M pc ls st h' Q) : Av X l M pc ls st h Q := by
  refine Av.ext (b' := foB s f') ho rfl (fun q H hq => ?_) k
  rcases q with _ | _ | _ | q
  · exact hq
  · exact hq
  · exact kI_same hf hq
  · exact hq
end EXO
def nxP (n : Nat) : Nat := if n = 7 then 0 else n + 1
def moP (k : Nat) : Nat := if k < 8 then k + 1 else k
set_option maxHeartbeats 4000000 in
set_option maxRecDepth 100000 in
theorem S_X9_factorial_n (X : En) (l : Launch) {h : Hp} {n : Nat} (hn : n < 1000) : Ct X l mX9_factorial [aI (nI n)] h (QL (PL0 (facF n) h)) := by
  refine Ct.intro [some (aI (nI n)), none, none, none] (by decide +kernel) rfl (Nat.le_of_ble_eq_true rfl) ?_
  refine A_lconst 1 (1) dX9_factorial_0 rfl (by decide) ?_
  refine A_lstore_n 2 dX9_factorial_1 rfl rfl (by decide) (by first | exact (astL_1 rfl) | exact astL_k) ?_
  refine A_iconst 3 (2) dX9_factorial_2 rfl (by decide) ?_
  refine A_istore_n 4 dX9_factorial_3 rfl rfl (by decide) (by first | exact (ast_s (ast_s (ast_1 rfl))) | exact (ast_s (ast_s ast_k))) ?_
  have L4 : ∀ (nq k : Nat) (u : Int64) , (nq + k = n - 1) → (foldN (fun k t => t * (nI (k + 2)).toInt64) (1) k = (u)) → Av X l mX9_factorial 4 [some (aI (nI (n))), some (aL (u)), none, some (aI (nI (k + 2)))] [] h (QL (PL0 (facF n) h)) := by
    intro nq
    induction nq using Nat.strongRecOn with
    | _ nq ih =>
    intro k u en ee
    refine A_iload_n 5 dX9_factorial_4 rfl rfl rfl ?_
    refine A_iload_n 6 dX9_factorial_5 rfl rfl rfl ?_
    refine A_icmp_gt 20 9 dX9_factorial_6 (by decide) rfl (fun c6 => ?_) (fun c6 => ?_)
    · skip
      have q6 := (nlt_iff (a := n) (b := k + 2) (by omega) (by omega)).mp c6
      obtain rfl : nq = 0 := by omega
      obtain rfl : k = n - 1 := by omega
      refine A_lload_n 21 dX9_factorial_20 rfl rfl rfl ?_
      refine A_lret dX9_factorial_21 rfl ⟨_, rfl, (by unfold facF; rw [ee]), rfl⟩
    · skip
      have q6 := mt (nlt_iff (a := n) (b := k + 2) (by omega) (by omega)).mpr c6
      obtain ⟨n0, rfl⟩ : ∃ q, nq = q + 1 := ⟨nq - 1, by omega⟩
      refine A_lload_n 10 dX9_factorial_9 rfl rfl rfl ?_
      refine A_iload_n 11 dX9_factorial_10 rfl rfl rfl ?_
      refine A_i2l 12 dX9_factorial_11 rfl ?_
      refine A_lmul 13 dX9_factorial_12 rfl ?_
      refine A_lstore_n 14 dX9_factorial_13 rfl rfl (by decide) (by first | exact (astL_1 rfl) | exact astL_k) ?_
      first | refine A_iincN 17 dX9_factorial_14 rfl rfl (by decide) (by first | exact (ast_s (ast_s (ast_1 rfl))) | exact (ast_s (ast_s ast_k))) ?_ | refine A_iinc 17 (1) dX9_factorial_14 rfl rfl (by decide) (by decide) (by first | exact (ast_s (ast_s (ast_1 rfl))) | exact (ast_s (ast_s ast_k))) ?_
      refine A_goto 4 dX9_factorial_17 (by decide) ?_
      exact A_weak (ih n0 (Nat.lt_succ_self n0) (k + 1) _  (by omega) ((foldN_s (fun k t => t * (nI (k + 2)).toInt64) (1) k).trans ((congrArg ((fun k t => t * (nI (k + 2)).toInt64) k) ee).trans (by rfl))) ) (sub_s (sub_s (sub_n (sub_s sub_nil))))
  exact A_weak (L4 (n - 1) (0) (_)  (by omega) (rfl) ) (sub_s (sub_s (sub_n (sub_s sub_nil))))
set_option maxHeartbeats 4000000 in
set_option maxRecDepth 100000 in
theorem S_X9_factorial_neg (X : En) (l : Launch) {h : Hp} {v : Int32} (hv : v < 0) : Ct X l mX9_factorial [aI v] h (QL (PL0 (1) h)) := by
  refine Ct.intro [some (aI v), none, none, none] (by decide +kernel) rfl (Nat.le_of_ble_eq_true rfl) ?_
  refine A_lconst 1 (1) dX9_factorial_0 rfl (by decide) ?_
  refine A_lstore_n 2 dX9_factorial_1 rfl rfl (by decide) (by first | exact (astL_1 rfl) | exact astL_k) ?_
  refine A_iconst 3 (2) dX9_factorial_2 rfl (by decide) ?_
  refine A_istore_n 4 dX9_factorial_3 rfl rfl (by decide) (by first | exact (ast_s (ast_s (ast_1 rfl))) | exact (ast_s (ast_s ast_k))) ?_
  refine A_iload_n 5 dX9_factorial_4 rfl rfl rfl ?_
  refine A_iload_n 6 dX9_factorial_5 rfl rfl rfl ?_
  refine A_icmp_gt 20 9 dX9_factorial_6 (by decide) rfl (fun c6 => ?_) (fun c6 => ?_)
  · skip
    try simp only [bI_0, bI_n0, Classical.not_not, Bool.not_eq_false, Bool.true_and, Bool.and_true, decide_eq_true_eq, decide_eq_false_iff_not, dayC_1, dayC_21, dayC_221, dayC_222] at c6
    have n6 := Int32.not_le.mpr c6
    refine A_lload_n 21 dX9_factorial_20 rfl rfl rfl ?_
    refine A_lret dX9_factorial_21 rfl ⟨_, rfl, (by first | with_reducible rfl | (simp only [c6, n6, if_true, if_false, ite_true, ite_false, and_true, true_and, and_false, false_and, and_self, or_true, true_or, or_false, false_or, or_self, not_true_eq_false, not_false_eq_true, decide_true, decide_false, Bool.and_true, Bool.true_and, Bool.and_false, Bool.false_and, Bool.and_self, Bool.or_true, Bool.true_or, Bool.or_false, Bool.false_or, Bool.not_true, Bool.not_false, cond_true, cond_false, bI_t, bI_f, Bool.false_eq_true, Bool.true_eq_false, dayC_1, dayC_21, dayC_221, dayC_222]; done) | (simp only [*]; done) | (simp [bI, *]; done) | with_reducible_and_instances rfl), rfl⟩
  · skip
    exact absurd (Int32.lt_trans hv (by decide)) c6
theorem S_X9_factorial (X : En) (l : Launch) {h : Hp} {v : Int32} (hv : v < 1000) : Ct X l mX9_factorial [aI v] h (QL (PL0 (facI v) h)) := by
  by_cases h0 : v < 0
  · have e : v.toNatClampNeg = 0 := by
      have h1 := Int32.lt_iff_toInt_lt.mp h0
      have h2 : v.toNatClampNeg = v.toInt.toNat := rfl
      have h3 : ((0 : Int32)).toInt = 0 := by decide
      omega
    unfold facI
    rw [e]
    exact S_X9_factorial_neg X l h0
  · obtain ⟨n, rfl, hn⟩ := nI_exi (n := 1000) h0 hv (by decide)
    unfold facI
    rw [nI_clamp (by omega)]
    exact S_X9_factorial_n X l hn
set_option maxHeartbeats 4000000 in
set_option maxRecDepth 100000 in
theorem S_X9_commonDivisor (X : En) (l : Launch) {h : Hp} {a b : Int64} : Ct X l mX9_commonDivisor [aL a, aL b] h (QL (PL0 (euL 100 a b) h)) := by
  refine Ct.intro [some (aL a), none, some (aL b), none, none, none, none, none, none, none, none] (by decide +kernel) rfl (Nat.le_of_ble_eq_true rfl) ?_
  refine A_lload_n 1 dX9_commonDivisor_0 rfl rfl rfl ?_
  refine A_lstore 3 dX9_commonDivisor_1 rfl (by decide) (by first | exact (astL_s (astL_s (astL_s (astL_1 rfl)))) | exact (astL_s (astL_s (astL_s astL_k)))) ?_
  refine A_lload_n 4 dX9_commonDivisor_3 rfl rfl rfl ?_
  refine A_lstore 6 dX9_commonDivisor_4 rfl (by decide) (by first | exact (astL_s (astL_s (astL_s (astL_s (astL_s (astL_1 rfl)))))) | exact (astL_s (astL_s (astL_s (astL_s (astL_s astL_k)))))) ?_
  refine A_iconst 7 (0) dX9_commonDivisor_6 rfl (by decide) ?_
  refine A_istore 9 dX9_commonDivisor_7 rfl (by decide) (by first | exact (ast_s (ast_s (ast_s (ast_s (ast_s (ast_s (ast_s (ast_1 rfl)))))))) | exact (ast_s (ast_s (ast_s (ast_s (ast_s (ast_s (ast_s ast_k)))))))) ?_
  have L9 : ∀ (nq i : Nat) (u v : Int64) , (nq + i = 100) → (euL nq u v = euL 100 a b) → Av X l mX9_commonDivisor 9 [some (aL (a)), none, some (aL (b)), none, some (aL (u)), none, some (aL (v)), none, some (aI (nI (i))), none, none] [] h (QL (PL0 (euL 100 a b) h)) := by
    intro nq
    induction nq using Nat.strongRecOn with
    | _ nq ih =>
    intro i u v en ee
    refine A_iload 11 dX9_commonDivisor_9 rfl rfl ?_
    refine A_bipush 13 (100) dX9_commonDivisor_11 rfl (by decide) ?_
    refine A_icmp_ge 44 16 dX9_commonDivisor_13 (by decide) rfl (fun c13 => ?_) (fun c13 => ?_)
    · skip
      obtain rfl := (up_ge_T (N := 100) c13 rfl (by omega) (by omega)).symm
      refine A_lload 46 dX9_commonDivisor_44 rfl rfl ?_
      refine A_lret dX9_commonDivisor_46 rfl ⟨_, rfl, (by first | (rw [← ee, euL_s, if_pos (lcmp_eq.mp c20)]; done) | (rw [← ee, show nq = 0 by omega]; rfl)), rfl⟩
    · skip
      have hi := up_ge_F (N := 100) c13 rfl (by omega) (by omega)
      obtain ⟨n0, rfl⟩ : ∃ q, nq = q + 1 := ⟨nq - 1, by omega⟩
      refine A_lload 18 dX9_commonDivisor_16 rfl rfl ?_
      refine A_lconst 19 (0) dX9_commonDivisor_18 rfl (by decide) ?_
      refine A_lcmp 20 dX9_commonDivisor_19 rfl ?_
      refine A_if_eq 44 23 dX9_commonDivisor_20 (by decide) rfl (fun c20 => ?_) (fun c20 => ?_)
      · skip
        try simp only [bI_0, bI_n0, Classical.not_not, Bool.not_eq_false, Bool.true_and, Bool.and_true, decide_eq_true_eq, decide_eq_false_iff_not, dayC_1, dayC_21, dayC_221, dayC_222] at c20
        refine A_lload 46 dX9_commonDivisor_44 rfl rfl ?_
        refine A_lret dX9_commonDivisor_46 rfl ⟨_, rfl, (by first | (rw [← ee, euL_s, if_pos (lcmp_eq.mp c20)]; done) | (rw [← ee, show nq = 0 by omega]; rfl)), rfl⟩
      · skip
        try simp only [bI_0, bI_n0, Classical.not_not, Bool.not_eq_false, Bool.true_and, Bool.and_true, decide_eq_true_eq, decide_eq_false_iff_not, dayC_1, dayC_21, dayC_221, dayC_222] at c20
        refine A_lload 25 dX9_commonDivisor_23 rfl rfl ?_
        refine A_lload 27 dX9_commonDivisor_25 rfl rfl ?_
        refine A_lrem 28 dX9_commonDivisor_27 rfl (fun z => c20 (lcmp_eq.mpr z)) ?_
        refine A_lstore 30 dX9_commonDivisor_28 rfl (by decide) (by first | exact (astL_s (astL_s (astL_s (astL_s (astL_s (astL_s (astL_s (astL_s (astL_1 rfl))))))))) | exact (astL_s (astL_s (astL_s (astL_s (astL_s (astL_s (astL_s (astL_s astL_k))))))))) ?_
        refine A_lload 32 dX9_commonDivisor_30 rfl rfl ?_
        refine A_lstore 34 dX9_commonDivisor_32 rfl (by decide) (by first | exact (astL_s (astL_s (astL_s (astL_1 rfl)))) | exact (astL_s (astL_s (astL_s astL_k)))) ?_
        refine A_lload 36 dX9_commonDivisor_34 rfl rfl ?_
        refine A_lstore 38 dX9_commonDivisor_36 rfl (by decide) (by first | exact (astL_s (astL_s (astL_s (astL_s (astL_s (astL_1 rfl)))))) | exact (astL_s (astL_s (astL_s (astL_s (astL_s astL_k)))))) ?_
        first | refine A_iincN 41 dX9_commonDivisor_38 rfl rfl (by decide) (by first | exact (ast_s (ast_s (ast_s (ast_s (ast_s (ast_s (ast_s (ast_1 rfl)))))))) | exact (ast_s (ast_s (ast_s (ast_s (ast_s (ast_s (ast_s ast_k)))))))) ?_ | refine A_iinc 41 (1) dX9_commonDivisor_38 rfl rfl (by decide) (by decide) (by first | exact (ast_s (ast_s (ast_s (ast_s (ast_s (ast_s (ast_s (ast_1 rfl)))))))) | exact (ast_s (ast_s (ast_s (ast_s (ast_s (ast_s (ast_s ast_k)))))))) ?_
        refine A_goto 9 dX9_commonDivisor_41 (by decide) ?_
        exact A_weak (ih n0 (Nat.lt_succ_self n0) (i + 1) _ _  (by omega) ((by rw [euL_s, if_neg (mt lcmp_eq.mpr c20)] : euL (n0 + 1) u v = euL n0 v (u - u / v * v)).symm.trans ee) ) (sub_s (sub_n (sub_s (sub_n (sub_s (sub_n (sub_s (sub_n (sub_s (sub_n (sub_n sub_nil)))))))))))
  exact A_weak (L9 (100) (0) (_) (_)  (by omega) (rfl) ) (sub_s (sub_n (sub_s (sub_n (sub_s (sub_n (sub_s (sub_n (sub_s (sub_n (sub_n sub_nil)))))))))))
set_option maxHeartbeats 4000000 in
set_option maxRecDepth 100000 in
theorem S_X9_lowest (X : En) (l : Launch) {h : Hp} {a b : Int64} {p : Int32} : Ct X l mX9_lowest [aL a, aL b, aI p] h (QL (PL0 (loF a b p) h)) := by
  refine Ct.intro [some (aL a), none, some (aL b), none, some (aI p), none, none] (by decide +kernel) rfl (Nat.le_of_ble_eq_true rfl) ?_
  refine A_lload_n 1 dX9_lowest_0 rfl rfl rfl ?_
  refine A_lconst 2 (0) dX9_lowest_1 rfl (by decide) ?_
  refine A_lcmp 3 dX9_lowest_2 rfl ?_
  refine A_if_ne 17 6 dX9_lowest_3 (by decide) rfl (fun c3 => ?_) (fun c3 => ?_)
  · skip
    have q3 := mt lcmp_eq.mpr c3
    refine A_lload_n 18 dX9_lowest_17 rfl rfl rfl ?_
    refine A_absL 21 dX9_lowest_18 rfl lk_X9_386 mm_abs_s mm_i mm_abs_c ⟨by decide, Nat.le_of_ble_eq_true rfl⟩ ?_
    rw [show (if 0 < a then a else -a) = absL a from rfl]
    refine A_lload_n 22 dX9_lowest_21 rfl rfl rfl ?_
    refine A_callSL 25 (S_X9_commonDivisor X l) dX9_lowest_22 rfl kX9_commonDivisor lk_X9_390 rfl (by decide) rfl (Nat.le_of_ble_eq_true rfl) (fun v_1 h_1 qh_1 => ?_)
    obtain ⟨rfl, rfl⟩ := qh_1
    refine A_lstore 27 dX9_lowest_25 rfl (by decide) (by first | exact (astL_s (astL_s (astL_s (astL_s (astL_1 rfl))))) | exact (astL_s (astL_s (astL_s (astL_s astL_k))))) ?_
    refine A_lload 29 dX9_lowest_27 rfl rfl ?_
    refine A_lconst 30 (0) dX9_lowest_29 rfl (by decide) ?_
    refine A_lcmp 31 dX9_lowest_30 rfl ?_
    refine A_if_ne 36 34 dX9_lowest_31 (by decide) rfl (fun c31 => ?_) (fun c31 => ?_)
    · skip
      have q31 := mt lcmp_eq.mpr c31
      refine A_iload 38 dX9_lowest_36 rfl rfl ?_
      refine A_if_ne 48 41 dX9_lowest_38 (by decide) rfl (fun c38 => ?_) (fun c38 => ?_)
      · skip
        try simp only [bI_0, bI_n0, Classical.not_not, Bool.not_eq_false, Bool.true_and, Bool.and_true, decide_eq_true_eq, decide_eq_false_iff_not, dayC_1, dayC_21, dayC_221, dayC_222] at c38
        refine A_lload_n 49 dX9_lowest_48 rfl rfl rfl ?_
        refine A_lload 51 dX9_lowest_49 rfl rfl ?_
        refine A_ldiv 52 dX9_lowest_51 rfl (fun z => c31 (lcmp_eq.mpr z)) ?_
        refine A_lret dX9_lowest_52 rfl ⟨_, rfl, (by unfold loF; rw [if_neg q3, if_neg q31]; first | rw [if_pos c38] | rw [if_neg c38]), rfl⟩
      · skip
        try simp only [bI_0, bI_n0, Classical.not_not, Bool.not_eq_false, Bool.true_and, Bool.and_true, decide_eq_true_eq, decide_eq_false_iff_not, dayC_1, dayC_21, dayC_221, dayC_222] at c38
        refine A_lload_n 42 dX9_lowest_41 rfl rfl rfl ?_
        refine A_lload 44 dX9_lowest_42 rfl rfl ?_
        refine A_ldiv 45 dX9_lowest_44 rfl (fun z => c31 (lcmp_eq.mpr z)) ?_
        refine A_goto 52 dX9_lowest_45 (by decide) ?_
        refine A_lret dX9_lowest_52 rfl ⟨_, rfl, (by unfold loF; rw [if_neg q3, if_neg q31]; first | rw [if_pos c38] | rw [if_neg c38]), rfl⟩
    · skip
      have q31 := lcmp_eq.mp c31
      refine A_lconst 35 (0) dX9_lowest_34 rfl (by decide) ?_
      refine A_lret dX9_lowest_35 rfl ⟨_, rfl, (by unfold loF; rw [if_neg q3, if_pos q31]), rfl⟩
  · skip
    have q3 := lcmp_eq.mp c3
    refine A_iload 8 dX9_lowest_6 rfl rfl ?_
    refine A_if_ne 15 11 dX9_lowest_8 (by decide) rfl (fun c8 => ?_) (fun c8 => ?_)
    · skip
      try simp only [bI_0, bI_n0, Classical.not_not, Bool.not_eq_false, Bool.true_and, Bool.and_true, decide_eq_true_eq, decide_eq_false_iff_not, dayC_1, dayC_21, dayC_221, dayC_222] at c8
      refine A_lconst 16 (1) dX9_lowest_15 rfl (by decide) ?_
      refine A_lret dX9_lowest_16 rfl ⟨_, rfl, (by unfold loF; rw [if_pos q3]; first | rw [if_pos c8] | rw [if_neg c8]), rfl⟩
    · skip
      try simp only [bI_0, bI_n0, Classical.not_not, Bool.not_eq_false, Bool.true_and, Bool.and_true, decide_eq_true_eq, decide_eq_false_iff_not, dayC_1, dayC_21, dayC_221, dayC_222] at c8
      refine A_lconst 12 (0) dX9_lowest_11 rfl (by decide) ?_
      refine A_goto 16 dX9_lowest_12 (by decide) ?_
      refine A_lret dX9_lowest_16 rfl ⟨_, rfl, (by unfold loF; rw [if_pos q3]; first | rw [if_pos c8] | rw [if_neg c8]), rfl⟩
set_option maxHeartbeats 4000000 in
set_option maxRecDepth 100000 in
theorem S_X6_luckyCases (X : En) (l : Launch) {h : Hp} {x : PW} {y : PC} (O19 : h 19 = some (seB)) (O20 : h 20 = some (cB 20 y)) (O1 : h 1 = some (wB 1 x)) (hx : LOK x) {p ls t : Int32} : Ct X l mX6_luckyCases [aR 19 0, aR 1 0, aI p, aI ls, aI t] h (QL (fun vr h2 => (foldN (lcF x p ls t) 0 256) = vr ∧ ∃ (y1 : PC), h2 (20) = some (cB 20 y1) ∧ ∀ i, i ≠ 20 → h2 i = h i)) := by
  have hf : ∀ i, i ≠ 20 → h i = h i := fun _ _ => rfl
  refine Ct.intro [some (aR 19 0), some (aR 1 0), some (aI p), some (aI ls), some (aI t), none, none, none] (by decide +kernel) rfl (Nat.le_of_ble_eq_true rfl) ?_
  refine A_lconst 1 (0) dX6_luckyCases_0 rfl (by decide) ?_
  refine A_lstore 3 dX6_luckyCases_1 rfl (by decide) (by first | exact (astL_s (astL_s (astL_s (astL_s (astL_1 rfl))))) | exact (astL_s (astL_s (astL_s (astL_s astL_k))))) ?_
  refine A_iconst 4 (0) dX6_luckyCases_3 rfl (by decide) ?_
  refine A_istore 6 dX6_luckyCases_4 rfl (by decide) (by first | exact (ast_s (ast_s (ast_s (ast_s (ast_s (ast_s (ast_1 rfl))))))) | exact (ast_s (ast_s (ast_s (ast_s (ast_s (ast_s ast_k))))))) ?_
  have L6 : ∀ (nq i : Nat) (u : Int64) (g6 : Hp) (y0 : PC), (nq + i = 256) → (foldN (lcF x p ls t) (0) i = (u)) → (g6 19 = some (seB)) → (g6 20 = some (cB 20 y0)) → (g6 1 = some (wB 1 x)) → (∀ i, i ≠ 20 → g6 i = h i) → Av X l mX6_luckyCases 6 [some (aR 19 0), some (aR 1 0), some (aI (p)), some (aI (ls)), some (aI (t)), some (aL (u)), none, some (aI (nI (i)))] [] g6 (QL (fun vr h2 => (foldN (lcF x p ls t) 0 256) = vr ∧ ∃ (y1 : PC), h2 (20) = some (cB 20 y1) ∧ ∀ i, i ≠ 20 → h2 i = h i)) := by
    intro nq
    induction nq using Nat.strongRecOn with
    | _ nq ih =>
    intro i u g6 y0 en ee O19 O20 O1 hf
    refine A_iload 8 dX6_luckyCases_6 rfl rfl ?_
    refine A_sipush 11 (255) dX6_luckyCases_8 rfl (by decide) ?_
    refine A_icmp_gt 73 14 dX6_luckyCases_11 (by decide) rfl (fun c11 => ?_) (fun c11 => ?_)
    · skip
      obtain rfl := (up_gt_T (N := 256) c11 rfl (by omega) (by omega) (by omega)).symm
      refine A_lload 75 dX6_luckyCases_73 rfl rfl ?_
      refine A_lret dX6_luckyCases_75 rfl ⟨_, rfl, (by first | with_reducible rfl | (simp only [if_true, if_false, ite_true, ite_false, and_true, true_and, and_false, false_and, and_self, or_true, true_or, or_false, false_or, or_self, not_true_eq_false, not_false_eq_true, decide_true, decide_false, Bool.and_true, Bool.true_and, Bool.and_false, Bool.false_and, Bool.and_self, Bool.or_true, Bool.true_or, Bool.or_false, Bool.false_or, Bool.not_true, Bool.not_false, cond_true, cond_false, bI_t, bI_f, Bool.false_eq_true, Bool.true_eq_false, dayC_1, dayC_21, dayC_221, dayC_222]; done) | (simp only [*]; done) | (simp [bI, *]; done) | with_reducible_and_instances rfl), _, O20, hf⟩
    · skip
      have hi := up_gt_F (N := 256) c11 rfl (by omega) (by omega) (by omega)
      obtain ⟨n0, rfl⟩ : ∃ q, nq = q + 1 := ⟨nq - 1, by omega⟩
      refine A_iload 16 dX6_luckyCases_14 rfl rfl ?_
      refine A_iload_n 17 dX6_luckyCases_16 rfl rfl rfl ?_
      refine A_iconst 18 (-1) dX6_luckyCases_17 rfl (by decide) ?_
      refine A_ixor 19 dX6_luckyCases_18 rfl ?_
      refine A_iand 20 dX6_luckyCases_19 rfl ?_
      refine A_if_eq 26 23 dX6_luckyCases_20 (by decide) rfl (fun c20 => ?_) (fun c20 => ?_)
      · skip
        try simp only [bI_0, bI_n0, Classical.not_not, Bool.not_eq_false, Bool.true_and, Bool.and_true, decide_eq_true_eq, decide_eq_false_iff_not, dayC_1, dayC_21, dayC_221, dayC_222] at c20
        refine A_aload_n 27 dX6_luckyCases_26 rfl rfl rfl ?_
        refine A_getfield 30 dX6_luckyCases_27 rfl f_X6_12 O19 rfl ?_
        refine A_aload_n 31 dX6_luckyCases_30 rfl rfl rfl ?_
        refine A_iload 33 dX6_luckyCases_31 rfl rfl ?_
        refine A_iconst 34 (0) dX6_luckyCases_33 rfl (by decide) ?_
        refine A_callVI 37 (S_X1_run X l (by first | assumption | decide | omega | exact Ne.symm (by assumption)) (by first | assumption | decide | omega | exact Ne.symm (by assumption)) (by first | assumption | decide | omega | exact Ne.symm (by assumption)) (by first | assumption | decide | omega | exact Ne.symm (by assumption))) dX6_luckyCases_34 rfl kX1_run lk_X6_22 rfl O20 (by decide) rfl (Nat.le_of_ble_eq_true rfl) (fun v_1 h_1 qh_1 => ?_)
        obtain ⟨rfl, n0h_1, eh_1⟩ := qh_1
        replace O19 := (eh_1 _ (by decide)).trans O19
        replace O20 := n0h_1
        replace O1 := (eh_1 _ (by decide)).trans O1
        replace hf : ∀ i, i ≠ 20 → h_1 i = h i := fun i g0 => (eh_1 i g0).trans (hf i g0)
        refine A_pop 38 dX6_luckyCases_37 rfl rfl ?_
        refine A_aload_n 39 dX6_luckyCases_38 rfl rfl rfl ?_
        refine A_getfield 42 dX6_luckyCases_39 rfl f_X6_12 O19 rfl ?_
        refine A_iload_n 43 dX6_luckyCases_42 rfl rfl rfl ?_
        refine A_callVI 46 (S_X1_does X l (by first | assumption | decide | omega | exact Ne.symm (by assumption))) dX6_luckyCases_43 rfl kX1_does lk_X6_30 rfl O20 (by decide) rfl (Nat.le_of_ble_eq_true rfl) (fun v_2 h_2 qh_2 => ?_)
        obtain ⟨rfl, rfl⟩ := qh_2
        refine A_if_eq 67 49 dX6_luckyCases_46 (by decide) rfl (fun c46 => ?_) (fun c46 => ?_)
        · skip
          try simp only [bI_0, bI_n0, Classical.not_not, Bool.not_eq_false, Bool.true_and, Bool.and_true, decide_eq_true_eq, decide_eq_false_iff_not, dayC_1, dayC_21, dayC_221, dayC_222] at c46
          first | refine A_iincN 70 dX6_luckyCases_67 rfl rfl (by decide) (by first | exact (ast_s (ast_s (ast_s (ast_s (ast_s (ast_s (ast_1 rfl))))))) | exact (ast_s (ast_s (ast_s (ast_s (ast_s (ast_s ast_k))))))) ?_ | refine A_iinc 70 (1) dX6_luckyCases_67 rfl rfl (by decide) (by decide) (by first | exact (ast_s (ast_s (ast_s (ast_s (ast_s (ast_s (ast_1 rfl))))))) | exact (ast_s (ast_s (ast_s (ast_s (ast_s (ast_s ast_k))))))) ?_
          refine A_goto 6 dX6_luckyCases_70 (by decide) ?_
          exact A_weak (ih n0 (Nat.lt_succ_self n0) (i + 1) _ h_1 _ (by omega) ((foldN_s (lcF x p ls t) (0) i).trans ((congrArg ((lcF x p ls t) i) ee).trans (by first | with_reducible rfl | (simp only [c20, c46, if_true, if_false, ite_true, ite_false, and_true, true_and, and_false, false_and, and_self, or_true, true_or, or_false, false_or, or_self, not_true_eq_false, not_false_eq_true, decide_true, decide_false, Bool.and_true, Bool.true_and, Bool.and_false, Bool.false_and, Bool.and_self, Bool.or_true, Bool.true_or, Bool.or_false, Bool.false_or, Bool.not_true, Bool.not_false, cond_true, cond_false, bI_t, bI_f, Bool.false_eq_true, Bool.true_eq_false, dayC_1, dayC_21, dayC_221, dayC_222, lcF]; done) | (simp only [eq_true c20, c46, if_true, if_false, ite_true, ite_false, and_true, true_and, and_false, false_and, and_self, or_true, true_or, or_false, false_or, or_self, not_true_eq_false, not_false_eq_true, decide_true, decide_false, Bool.and_true, Bool.true_and, Bool.and_false, Bool.false_and, Bool.and_self, Bool.or_true, Bool.true_or, Bool.or_false, Bool.false_or, Bool.not_true, Bool.not_false, cond_true, cond_false, bI_t, bI_f, Bool.false_eq_true, Bool.true_eq_false, dayC_1, dayC_21, dayC_221, dayC_222, lcF]; done) | (simp [*, lcF]; done) | with_reducible_and_instances rfl))) O19 O20 O1 hf) (sub_s (sub_s (sub_s (sub_s (sub_s (sub_s (sub_n (sub_s sub_nil))))))))
        · skip
          try simp only [bI_0, bI_n0, Classical.not_not, Bool.not_eq_false, Bool.true_and, Bool.and_true, decide_eq_true_eq, decide_eq_false_iff_not, dayC_1, dayC_21, dayC_221, dayC_222] at c46
          refine A_lload 51 dX6_luckyCases_49 rfl rfl ?_
          refine A_iload 53 dX6_luckyCases_51 rfl rfl ?_
          refine A_iconst 54 (1) dX6_luckyCases_53 rfl (by decide) ?_
          refine A_isub 55 dX6_luckyCases_54 rfl ?_
          refine A_i2l 56 dX6_luckyCases_55 rfl ?_
          refine A_iload 58 dX6_luckyCases_56 rfl rfl ?_
          refine A_callSI 61 (S_J6_bitCount_0f7a4 X l) dX6_luckyCases_58 rfl kJ6_bitCount_0f7a4 lk_X6_42 rfl (by decide) rfl (Nat.le_of_ble_eq_true rfl) (fun v_3 h_3 qh_3 => ?_)
          obtain ⟨rfl, rfl⟩ := qh_3
          rw [(bitC_pop i (by omega)).1]
          have hpo := (bitC_pop i (by omega)).2
          refine A_callNL 64 (S_X9_power X l (by first | assumption | decide | omega | exact Ne.symm (by assumption))) dX6_luckyCases_61 rfl kX9_power nk_X6_47 rfl (by decide) rfl (Nat.le_of_ble_eq_true rfl) (fun v_4 h_4 qh_4 => ?_)
          obtain ⟨rfl, rfl⟩ := qh_4
          refine A_ladd 65 dX6_luckyCases_64 rfl ?_
          refine A_lstore 67 dX6_luckyCases_65 rfl (by decide) (by first | exact (astL_s (astL_s (astL_s (astL_s (astL_1 rfl))))) | exact (astL_s (astL_s (astL_s (astL_s astL_k))))) ?_
          first | refine A_iincN 70 dX6_luckyCases_67 rfl rfl (by decide) (by first | exact (ast_s (ast_s (ast_s (ast_s (ast_s (ast_s (ast_1 rfl))))))) | exact (ast_s (ast_s (ast_s (ast_s (ast_s (ast_s ast_k))))))) ?_ | refine A_iinc 70 (1) dX6_luckyCases_67 rfl rfl (by decide) (by decide) (by first | exact (ast_s (ast_s (ast_s (ast_s (ast_s (ast_s (ast_1 rfl))))))) | exact (ast_s (ast_s (ast_s (ast_s (ast_s (ast_s ast_k))))))) ?_
          refine A_goto 6 dX6_luckyCases_70 (by decide) ?_
          exact A_weak (ih n0 (Nat.lt_succ_self n0) (i + 1) _ h_1 _ (by omega) ((foldN_s (lcF x p ls t) (0) i).trans ((congrArg ((lcF x p ls t) i) ee).trans (by first | with_reducible rfl | (simp only [c20, c46, if_true, if_false, ite_true, ite_false, and_true, true_and, and_false, false_and, and_self, or_true, true_or, or_false, false_or, or_self, not_true_eq_false, not_false_eq_true, decide_true, decide_false, Bool.and_true, Bool.true_and, Bool.and_false, Bool.false_and, Bool.and_self, Bool.or_true, Bool.true_or, Bool.or_false, Bool.false_or, Bool.not_true, Bool.not_false, cond_true, cond_false, bI_t, bI_f, Bool.false_eq_true, Bool.true_eq_false, dayC_1, dayC_21, dayC_221, dayC_222, lcF]; done) | (simp only [eq_true c20, c46, if_true, if_false, ite_true, ite_false, and_true, true_and, and_false, false_and, and_self, or_true, true_or, or_false, false_or, or_self, not_true_eq_false, not_false_eq_true, decide_true, decide_false, Bool.and_true, Bool.true_and, Bool.and_false, Bool.false_and, Bool.and_self, Bool.or_true, Bool.true_or, Bool.or_false, Bool.false_or, Bool.not_true, Bool.not_false, cond_true, cond_false, bI_t, bI_f, Bool.false_eq_true, Bool.true_eq_false, dayC_1, dayC_21, dayC_221, dayC_222, lcF]; done) | (simp [*, lcF]; done) | with_reducible_and_instances rfl))) O19 O20 O1 hf) (sub_s (sub_s (sub_s (sub_s (sub_s (sub_s (sub_n (sub_s sub_nil))))))))
      · skip
        try simp only [bI_0, bI_n0, Classical.not_not, Bool.not_eq_false, Bool.true_and, Bool.and_true, decide_eq_true_eq, decide_eq_false_iff_not, dayC_1, dayC_21, dayC_221, dayC_222] at c20
        refine A_goto 67 dX6_luckyCases_23 (by decide) ?_
        first | refine A_iincN 70 dX6_luckyCases_67 rfl rfl (by decide) (by first | exact (ast_s (ast_s (ast_s (ast_s (ast_s (ast_s (ast_1 rfl))))))) | exact (ast_s (ast_s (ast_s (ast_s (ast_s (ast_s ast_k))))))) ?_ | refine A_iinc 70 (1) dX6_luckyCases_67 rfl rfl (by decide) (by decide) (by first | exact (ast_s (ast_s (ast_s (ast_s (ast_s (ast_s (ast_1 rfl))))))) | exact (ast_s (ast_s (ast_s (ast_s (ast_s (ast_s ast_k))))))) ?_
        refine A_goto 6 dX6_luckyCases_70 (by decide) ?_
        exact A_weak (ih n0 (Nat.lt_succ_self n0) (i + 1) _ g6 _ (by omega) ((foldN_s (lcF x p ls t) (0) i).trans ((congrArg ((lcF x p ls t) i) ee).trans (by first | with_reducible rfl | (simp only [c20, if_true, if_false, ite_true, ite_false, and_true, true_and, and_false, false_and, and_self, or_true, true_or, or_false, false_or, or_self, not_true_eq_false, not_false_eq_true, decide_true, decide_false, Bool.and_true, Bool.true_and, Bool.and_false, Bool.false_and, Bool.and_self, Bool.or_true, Bool.true_or, Bool.or_false, Bool.false_or, Bool.not_true, Bool.not_false, cond_true, cond_false, bI_t, bI_f, Bool.false_eq_true, Bool.true_eq_false, dayC_1, dayC_21, dayC_221, dayC_222, lcF]; done) | (simp [*, lcF]; done) | with_reducible_and_instances rfl))) O19 O20 O1 hf) (sub_s (sub_s (sub_s (sub_s (sub_s (sub_s (sub_n (sub_s sub_nil))))))))
  exact A_weak (L6 (256) (0) (_) h (_) (by omega) (rfl) O19 O20 O1 hf) (sub_s (sub_s (sub_s (sub_s (sub_s (sub_s (sub_n (sub_s sub_nil))))))))
set_option maxHeartbeats 4000000 in
set_option maxRecDepth 100000 in
theorem S_X6_addedInOrders (X : En) (l : Launch) {h : Hp} {x : PW} {y : PC} (O19 : h 19 = some (seB)) (O20 : h 20 = some (cB 20 y)) (O1 : h 1 = some (wB 1 x)) (hx : LOK x) {p th : Int32} (hR : R8 p) : Ct X l mX6_addedInOrders [aR 19 0, aR 1 0, aI p, aI th] h (QL (fun vr h2 => (foldN (aoF x (p &&& (tbI th ^^^ (-1))) (tbI th)) 0 256) = vr ∧ ∃ (y1 : PC), h2 (20) = some (cB 20 y1) ∧ ∀ i, i ≠ 20 → h2 i = h i)) := by
  have ho := (R8.and (b := tbI th ^^^ (-1)) hR).r10
  have hf : ∀ i, i ≠ 20 → h i = h i := fun _ _ => rfl
  refine Ct.intro [some (aR 19 0), some (aR 1 0), some (aI p), some (aI th), none, none, none, none, none, none, none, none, none, none] (by decide +kernel) rfl (Nat.le_of_ble_eq_true rfl) ?_
  refine A_iload_n 1 dX6_addedInOrders_0 rfl rfl rfl ?_
  refine A_iload_n 2 dX6_addedInOrders_1 rfl rfl rfl ?_
  refine A_callNI 5 (S_X9_thingBit X l) dX6_addedInOrders_2 rfl kX9_thingBit nk_X6_51 rfl (by decide) rfl (Nat.le_of_ble_eq_true rfl) (fun v_1 h_1 qh_1 => ?_)
  obtain ⟨rfl, rfl⟩ := qh_1
  refine A_iconst 6 (-1) dX6_addedInOrders_5 rfl (by decide) ?_
  refine A_ixor 7 dX6_addedInOrders_6 rfl ?_
  refine A_iand 8 dX6_addedInOrders_7 rfl ?_
  refine A_istore 10 dX6_addedInOrders_8 rfl (by decide) (by first | exact (ast_s (ast_s (ast_s (ast_1 rfl)))) | exact (ast_s (ast_s (ast_s ast_k)))) ?_
  refine A_iload 12 dX6_addedInOrders_10 rfl rfl ?_
  refine A_callSI 15 (S_J6_bitCount_0f7a4 X l) dX6_addedInOrders_12 rfl kJ6_bitCount_0f7a4 lk_X6_42 rfl (by decide) rfl (Nat.le_of_ble_eq_true rfl) (fun v_2 h_2 qh_2 => ?_)
  obtain ⟨rfl, rfl⟩ := qh_2
  refine A_istore 17 dX6_addedInOrders_15 rfl (by decide) (by first | exact (ast_s (ast_s (ast_s (ast_s (ast_1 rfl))))) | exact (ast_s (ast_s (ast_s (ast_s ast_k))))) ?_
  refine A_lconst 18 (0) dX6_addedInOrders_17 rfl (by decide) ?_
  refine A_lstore 20 dX6_addedInOrders_18 rfl (by decide) (by first | exact (astL_s (astL_s (astL_s (astL_s (astL_s (astL_1 rfl)))))) | exact (astL_s (astL_s (astL_s (astL_s (astL_s astL_k)))))) ?_
  refine A_iconst 21 (0) dX6_addedInOrders_20 rfl (by decide) ?_
  refine A_istore 23 dX6_addedInOrders_21 rfl (by decide) (by first | exact (ast_s (ast_s (ast_s (ast_s (ast_s (ast_s (ast_s (ast_1 rfl)))))))) | exact (ast_s (ast_s (ast_s (ast_s (ast_s (ast_s (ast_s ast_k)))))))) ?_
  have L23 : ∀ (nq i : Nat) (u : Int64) (g23 : Hp) (y0 : PC), (nq + i = 256) → (foldN (aoF x (p &&& (tbI th ^^^ (-1))) (tbI th)) (0) i = (u)) → (g23 19 = some (seB)) → (g23 20 = some (cB 20 y0)) → (g23 1 = some (wB 1 x)) → (∀ i, i ≠ 20 → g23 i = h i) → Av X l mX6_addedInOrders 23 [some (aR 19 0), some (aR 1 0), some (aI (p)), some (aI (th)), some (aI (p &&& (tbI th ^^^ (-1)))), some (aI (bitC (p &&& (tbI th ^^^ (-1))))), some (aL (u)), none, some (aI (nI (i))), none, none, none, none, none] [] g23 (QL (fun vr h2 => (foldN (aoF x (p &&& (tbI th ^^^ (-1))) (tbI th)) 0 256) = vr ∧ ∃ (y1 : PC), h2 (20) = some (cB 20 y1) ∧ ∀ i, i ≠ 20 → h2 i = h i)) := by
    intro nq
    induction nq using Nat.strongRecOn with
    | _ nq ih =>
    intro i u g23 y0 en ee O19 O20 O1 hf
    refine A_iload 25 dX6_addedInOrders_23 rfl rfl ?_
    refine A_sipush 28 (255) dX6_addedInOrders_25 rfl (by decide) ?_
    refine A_icmp_gt 116 31 dX6_addedInOrders_28 (by decide) rfl (fun c28 => ?_) (fun c28 => ?_)
    · skip
      obtain rfl := (up_gt_T (N := 256) c28 rfl (by omega) (by omega) (by omega)).symm
      refine A_lload 118 dX6_addedInOrders_116 rfl rfl ?_
      refine A_lret dX6_addedInOrders_118 rfl ⟨_, rfl, (by first | with_reducible rfl | (simp only [if_true, if_false, ite_true, ite_false, and_true, true_and, and_false, false_and, and_self, or_true, true_or, or_false, false_or, or_self, not_true_eq_false, not_false_eq_true, decide_true, decide_false, Bool.and_true, Bool.true_and, Bool.and_false, Bool.false_and, Bool.and_self, Bool.or_true, Bool.true_or, Bool.or_false, Bool.false_or, Bool.not_true, Bool.not_false, cond_true, cond_false, bI_t, bI_f, Bool.false_eq_true, Bool.true_eq_false, dayC_1, dayC_21, dayC_221, dayC_222]; done) | (simp only [*]; done) | (simp [bI, *]; done) | with_reducible_and_instances rfl), _, O20, hf⟩
    · skip
      have hi := up_gt_F (N := 256) c28 rfl (by omega) (by omega) (by omega)
      obtain ⟨n0, rfl⟩ : ∃ q, nq = q + 1 := ⟨nq - 1, by omega⟩
      have hr := R10.nI (m := i) (by omega)
      refine A_iload 33 dX6_addedInOrders_31 rfl rfl ?_
      refine A_iload 35 dX6_addedInOrders_33 rfl rfl ?_
      refine A_iconst 36 (-1) dX6_addedInOrders_35 rfl (by decide) ?_
      refine A_ixor 37 dX6_addedInOrders_36 rfl ?_
      refine A_iand 38 dX6_addedInOrders_37 rfl ?_
      refine A_if_eq 44 41 dX6_addedInOrders_38 (by decide) rfl (fun c38 => ?_) (fun c38 => ?_)
      · skip
        try simp only [bI_0, bI_n0, Classical.not_not, Bool.not_eq_false, Bool.true_and, Bool.and_true, decide_eq_true_eq, decide_eq_false_iff_not, dayC_1, dayC_21, dayC_221, dayC_222] at c38
        refine A_iload 46 dX6_addedInOrders_44 rfl rfl ?_
        refine A_callSI 49 (S_J6_bitCount_0f7a4 X l) dX6_addedInOrders_46 rfl kJ6_bitCount_0f7a4 lk_X6_42 rfl (by decide) rfl (Nat.le_of_ble_eq_true rfl) (fun v_3 h_3 qh_3 => ?_)
        obtain ⟨rfl, rfl⟩ := qh_3
        refine A_istore 51 dX6_addedInOrders_49 rfl (by decide) (by first | exact (ast_s (ast_s (ast_s (ast_s (ast_s (ast_s (ast_s (ast_s (ast_1 rfl))))))))) | exact (ast_s (ast_s (ast_s (ast_s (ast_s (ast_s (ast_s (ast_s ast_k))))))))) ?_
        refine A_iload 53 dX6_addedInOrders_51 rfl rfl ?_
        refine A_callNL 56 (S_X9_factorial X l hr.lt) dX6_addedInOrders_53 rfl kX9_factorial nk_X6_54 rfl (by decide) rfl (Nat.le_of_ble_eq_true rfl) (fun v_4 h_4 qh_4 => ?_)
        obtain ⟨rfl, rfl⟩ := qh_4
        refine A_iload 58 dX6_addedInOrders_56 rfl rfl ?_
        refine A_iload 60 dX6_addedInOrders_58 rfl rfl ?_
        refine A_isub 61 dX6_addedInOrders_60 rfl ?_
        refine A_callNL 64 (S_X9_factorial X l (ho.sub hr)) dX6_addedInOrders_61 rfl kX9_factorial nk_X6_54 rfl (by decide) rfl (Nat.le_of_ble_eq_true rfl) (fun v_5 h_5 qh_5 => ?_)
        obtain ⟨rfl, rfl⟩ := qh_5
        refine A_lmul 65 dX6_addedInOrders_64 rfl ?_
        refine A_lstore 67 dX6_addedInOrders_65 rfl (by decide) (by first | exact (astL_s (astL_s (astL_s (astL_s (astL_s (astL_s (astL_s (astL_s (astL_s (astL_1 rfl)))))))))) | exact (astL_s (astL_s (astL_s (astL_s (astL_s (astL_s (astL_s (astL_s (astL_s astL_k)))))))))) ?_
        refine A_aload_n 68 dX6_addedInOrders_67 rfl rfl rfl ?_
        refine A_getfield 71 dX6_addedInOrders_68 rfl f_X6_12 O19 rfl ?_
        refine A_aload_n 72 dX6_addedInOrders_71 rfl rfl rfl ?_
        refine A_iload 74 dX6_addedInOrders_72 rfl rfl ?_
        refine A_callVI 77 (S_X1_countDone X l (by first | assumption | decide | omega | exact Ne.symm (by assumption)) (by first | assumption | decide | omega | exact Ne.symm (by assumption)) (by first | assumption | decide | omega | exact Ne.symm (by assumption)) (by first | assumption | decide | omega | exact Ne.symm (by assumption))) dX6_addedInOrders_74 rfl kX1_countDone lk_X6_34 rfl O20 (by decide) rfl (Nat.le_of_ble_eq_true rfl) (fun v_6 h_6 qh_6 => ?_)
        obtain ⟨rfl, n0h_6, eh_6⟩ := qh_6
        replace O19 := (eh_6 _ (by decide)).trans O19
        replace O20 := n0h_6
        replace O1 := (eh_6 _ (by decide)).trans O1
        replace hf : ∀ i, i ≠ 20 → h_6 i = h i := fun i g0 => (eh_6 i g0).trans (hf i g0)
        refine A_istore 79 dX6_addedInOrders_77 rfl (by decide) (by first | exact (ast_s (ast_s (ast_s (ast_s (ast_s (ast_s (ast_s (ast_s (ast_s (ast_s (ast_s (ast_1 rfl)))))))))))) | exact (ast_s (ast_s (ast_s (ast_s (ast_s (ast_s (ast_s (ast_s (ast_s (ast_s (ast_s ast_k)))))))))))) ?_
        refine A_aload_n 80 dX6_addedInOrders_79 rfl rfl rfl ?_
        refine A_getfield 83 dX6_addedInOrders_80 rfl f_X6_12 O19 rfl ?_
        refine A_aload_n 84 dX6_addedInOrders_83 rfl rfl rfl ?_
        refine A_iload 86 dX6_addedInOrders_84 rfl rfl ?_
        refine A_iload_n 87 dX6_addedInOrders_86 rfl rfl rfl ?_
        refine A_callNI 90 (S_X9_thingBit X l) dX6_addedInOrders_87 rfl kX9_thingBit nk_X6_51 rfl (by decide) rfl (Nat.le_of_ble_eq_true rfl) (fun v_7 h_7 qh_7 => ?_)
        obtain ⟨rfl, rfl⟩ := qh_7
        refine A_ior 91 dX6_addedInOrders_90 rfl ?_
        refine A_callVI 94 (S_X1_countDone X l (by first | assumption | decide | omega | exact Ne.symm (by assumption)) (by first | assumption | decide | omega | exact Ne.symm (by assumption)) (by first | assumption | decide | omega | exact Ne.symm (by assumption)) (by first | assumption | decide | omega | exact Ne.symm (by assumption))) dX6_addedInOrders_91 rfl kX1_countDone lk_X6_34 rfl O20 (by decide) rfl (Nat.le_of_ble_eq_true rfl) (fun v_8 h_8 qh_8 => ?_)
        obtain ⟨rfl, n0h_8, eh_8⟩ := qh_8
        replace O19 := (eh_8 _ (by decide)).trans O19
        replace O20 := n0h_8
        replace O1 := (eh_8 _ (by decide)).trans O1
        replace hf : ∀ i, i ≠ 20 → h_8 i = h i := fun i g0 => (eh_8 i g0).trans (hf i g0)
        refine A_istore 96 dX6_addedInOrders_94 rfl (by decide) (by first | exact (ast_s (ast_s (ast_s (ast_s (ast_s (ast_s (ast_s (ast_s (ast_s (ast_s (ast_s (ast_s (ast_1 rfl))))))))))))) | exact (ast_s (ast_s (ast_s (ast_s (ast_s (ast_s (ast_s (ast_s (ast_s (ast_s (ast_s (ast_s ast_k))))))))))))) ?_
        refine A_lload 98 dX6_addedInOrders_96 rfl rfl ?_
        refine A_lload 100 dX6_addedInOrders_98 rfl rfl ?_
        refine A_iload 102 dX6_addedInOrders_100 rfl rfl ?_
        refine A_iload 104 dX6_addedInOrders_102 rfl rfl ?_
        refine A_isub 105 dX6_addedInOrders_104 rfl ?_
        refine A_i2l 106 dX6_addedInOrders_105 rfl ?_
        refine A_lmul 107 dX6_addedInOrders_106 rfl ?_
        refine A_ladd 108 dX6_addedInOrders_107 rfl ?_
        refine A_lstore 110 dX6_addedInOrders_108 rfl (by decide) (by first | exact (astL_s (astL_s (astL_s (astL_s (astL_s (astL_1 rfl)))))) | exact (astL_s (astL_s (astL_s (astL_s (astL_s astL_k)))))) ?_
        first | refine A_iincN 113 dX6_addedInOrders_110 rfl rfl (by decide) (by first | exact (ast_s (ast_s (ast_s (ast_s (ast_s (ast_s (ast_s (ast_1 rfl)))))))) | exact (ast_s (ast_s (ast_s (ast_s (ast_s (ast_s (ast_s ast_k)))))))) ?_ | refine A_iinc 113 (1) dX6_addedInOrders_110 rfl rfl (by decide) (by decide) (by first | exact (ast_s (ast_s (ast_s (ast_s (ast_s (ast_s (ast_s (ast_1 rfl)))))))) | exact (ast_s (ast_s (ast_s (ast_s (ast_s (ast_s (ast_s ast_k)))))))) ?_
        refine A_goto 23 dX6_addedInOrders_113 (by decide) ?_
        exact A_weak (ih n0 (Nat.lt_succ_self n0) (i + 1) _ h_8 _ (by omega) ((foldN_s (aoF x (p &&& (tbI th ^^^ (-1))) (tbI th)) (0) i).trans ((congrArg ((aoF x (p &&& (tbI th ^^^ (-1))) (tbI th)) i) ee).trans (by first | with_reducible rfl | (simp only [c38, if_true, if_false, ite_true, ite_false, and_true, true_and, and_false, false_and, and_self, or_true, true_or, or_false, false_or, or_self, not_true_eq_false, not_false_eq_true, decide_true, decide_false, Bool.and_true, Bool.true_and, Bool.and_false, Bool.false_and, Bool.and_self, Bool.or_true, Bool.true_or, Bool.or_false, Bool.false_or, Bool.not_true, Bool.not_false, cond_true, cond_false, bI_t, bI_f, Bool.false_eq_true, Bool.true_eq_false, dayC_1, dayC_21, dayC_221, dayC_222, aoF]; done) | (simp only [eq_true c38, if_true, if_false, ite_true, ite_false, and_true, true_and, and_false, false_and, and_self, or_true, true_or, or_false, false_or, or_self, not_true_eq_false, not_false_eq_true, decide_true, decide_false, Bool.and_true, Bool.true_and, Bool.and_false, Bool.false_and, Bool.and_self, Bool.or_true, Bool.true_or, Bool.or_false, Bool.false_or, Bool.not_true, Bool.not_false, cond_true, cond_false, bI_t, bI_f, Bool.false_eq_true, Bool.true_eq_false, dayC_1, dayC_21, dayC_221, dayC_222, aoF]; done) | (simp [*, aoF]; done) | with_reducible_and_instances rfl))) O19 O20 O1 hf) (sub_s (sub_s (sub_s (sub_s (sub_s (sub_s (sub_s (sub_n (sub_s (sub_n (sub_n (sub_n (sub_n (sub_n sub_nil))))))))))))))
      · skip
        try simp only [bI_0, bI_n0, Classical.not_not, Bool.not_eq_false, Bool.true_and, Bool.and_true, decide_eq_true_eq, decide_eq_false_iff_not, dayC_1, dayC_21, dayC_221, dayC_222] at c38
        refine A_goto 110 dX6_addedInOrders_41 (by decide) ?_
        first | refine A_iincN 113 dX6_addedInOrders_110 rfl rfl (by decide) (by first | exact (ast_s (ast_s (ast_s (ast_s (ast_s (ast_s (ast_s (ast_1 rfl)))))))) | exact (ast_s (ast_s (ast_s (ast_s (ast_s (ast_s (ast_s ast_k)))))))) ?_ | refine A_iinc 113 (1) dX6_addedInOrders_110 rfl rfl (by decide) (by decide) (by first | exact (ast_s (ast_s (ast_s (ast_s (ast_s (ast_s (ast_s (ast_1 rfl)))))))) | exact (ast_s (ast_s (ast_s (ast_s (ast_s (ast_s (ast_s ast_k)))))))) ?_
        refine A_goto 23 dX6_addedInOrders_113 (by decide) ?_
        exact A_weak (ih n0 (Nat.lt_succ_self n0) (i + 1) _ g23 _ (by omega) ((foldN_s (aoF x (p &&& (tbI th ^^^ (-1))) (tbI th)) (0) i).trans ((congrArg ((aoF x (p &&& (tbI th ^^^ (-1))) (tbI th)) i) ee).trans (by first | with_reducible rfl | (simp only [c38, if_true, if_false, ite_true, ite_false, and_true, true_and, and_false, false_and, and_self, or_true, true_or, or_false, false_or, or_self, not_true_eq_false, not_false_eq_true, decide_true, decide_false, Bool.and_true, Bool.true_and, Bool.and_false, Bool.false_and, Bool.and_self, Bool.or_true, Bool.true_or, Bool.or_false, Bool.false_or, Bool.not_true, Bool.not_false, cond_true, cond_false, bI_t, bI_f, Bool.false_eq_true, Bool.true_eq_false, dayC_1, dayC_21, dayC_221, dayC_222, aoF]; done) | (simp [*, aoF]; done) | with_reducible_and_instances rfl))) O19 O20 O1 hf) (sub_s (sub_s (sub_s (sub_s (sub_s (sub_s (sub_s (sub_n (sub_s (sub_n (sub_n (sub_n (sub_n (sub_n sub_nil))))))))))))))
  exact A_weak (L23 (256) (0) (_) h (_) (by omega) (rfl) O19 O20 O1 hf) (sub_s (sub_s (sub_s (sub_s (sub_s (sub_s (sub_s (sub_n (sub_s (sub_n (sub_n (sub_n (sub_n (sub_n sub_nil))))))))))))))
set_option maxHeartbeats 4000000 in
set_option maxRecDepth 100000 in
theorem S_J7_fill_53178 (X : En) (l : Launch) {h : Hp} {s : Nat → Int64} {g : FI} (O25 : h 25 = some (foB s g)) {v : Int32} : Ct X l mJ7_fill_53178 [aR 25 2, aI v] h (QV (fun h2 => ∃ (g2 : FI), h2 (25) = some (foB s g2) ∧ (∀ j, j < 256 → g2 j = v) ∧ ∀ i, i ≠ 25 → h2 i = h i)) := by
  have hf : ∀ i, i ≠ 25 → h i = h i := fun _ _ => rfl
  refine Ct.intro [some (aR 25 2), some (aI v), none, none] (by decide +kernel) rfl (Nat.le_of_ble_eq_true rfl) ?_
  refine A_iconst 1 (0) dJ7_fill_53178_0 rfl (by decide) ?_
  refine A_istore_n 2 dJ7_fill_53178_1 rfl rfl (by decide) (by first | exact (ast_s (ast_1 rfl)) | exact (ast_s ast_k)) ?_
  refine A_aload_n 3 dJ7_fill_53178_2 rfl rfl rfl ?_
  refine A_arraylength 4 dJ7_fill_53178_3 rfl O25 rfl (Nat.le_of_ble_eq_true rfl) rfl ?_
  refine A_istore_n 5 dJ7_fill_53178_4 rfl rfl (by decide) (by first | exact (ast_s (ast_s (ast_1 rfl))) | exact (ast_s (ast_s ast_k))) ?_
  have L5 : ∀ (nq i : Nat)  (g5 : Hp) (f : FI), (nq + i = 256) → (∀ j, j < i → f j = v) → (g5 25 = some (foB s f)) → (∀ i, i ≠ 25 → g5 i = h i) → Av X l mJ7_fill_53178 5 [some ((aR 25 2)), some (aI (v)), some (aI (nI (i))), some (aI (nI (256)))] [] g5 (QV (fun h2 => ∃ (g2 : FI), h2 (25) = some (foB s g2) ∧ (∀ j, j < 256 → g2 j = v) ∧ ∀ i, i ≠ 25 → h2 i = h i)) := by
    intro nq
    induction nq using Nat.strongRecOn with
    | _ nq ih =>
    intro i g5 f en hy O25 hf
    refine A_iload_n 6 dJ7_fill_53178_5 rfl rfl rfl ?_
    refine A_iload_n 7 dJ7_fill_53178_6 rfl rfl rfl ?_
    refine A_icmp_ge 20 10 dJ7_fill_53178_7 (by decide) rfl (fun c7 => ?_) (fun c7 => ?_)
    · skip
      obtain rfl := (up_ge_T (N := 256) c7 rfl (by omega) (by omega)).symm
      refine A_vret dJ7_fill_53178_20 rfl ⟨rfl, _, O25, (hy), hf⟩
    · skip
      have hi := up_ge_F (N := 256) c7 rfl (by omega) (by omega)
      obtain ⟨n0, rfl⟩ : ∃ q, nq = q + 1 := ⟨nq - 1, by omega⟩
      refine A_aload_n 11 dJ7_fill_53178_10 rfl rfl rfl ?_
      refine A_iload_n 12 dJ7_fill_53178_11 rfl rfl rfl ?_
      refine A_iload_n 13 dJ7_fill_53178_12 rfl rfl rfl ?_
      refine T_X2_1 14 dJ7_fill_53178_13 rfl O25 (by first | assumption | exact ix_nI (by omega) (by decide) | exact ix_lit _ rfl (by omega) (by decide) | exact ix_lit _ rfl (by decide) (by decide)) (fun h_1 nh_1 eh_1 => ?_)
      replace O25 := nh_1
      replace hf : ∀ i, i ≠ 25 → h_1 i = h i := fun i g0 => (eh_1 i g0).trans (hf i g0)
      first | refine A_iincN 17 dJ7_fill_53178_14 rfl rfl (by decide) (by first | exact (ast_s (ast_1 rfl)) | exact (ast_s ast_k)) ?_ | refine A_iinc 17 (1) dJ7_fill_53178_14 rfl rfl (by decide) (by decide) (by first | exact (ast_s (ast_1 rfl)) | exact (ast_s ast_k)) ?_
      refine A_goto 5 dJ7_fill_53178_17 (by decide) ?_
      exact ih n0 (Nat.lt_succ_self n0) (i + 1)  h_1 _ (by omega)  (up_eq (D := fun _ => v) hy rfl) O25 hf
  exact L5 (256) (0)  h (_) (by omega)  (fun j hj => absurd hj (Nat.not_lt_zero j)) O25 hf
set_option maxHeartbeats 4000000 in
set_option maxRecDepth 100000 in
theorem S_X2_serve (X : En) (l : Launch) {h : Hp} {s : Nat → Int64} {g : FI} (O25 : h 25 = some (foB s g)) {w : Int32} : Ct X l mX2_serve [aR 25 0, aI w] h (QV (PV1 h (25) (foB s (downF (svO w) 256 g)))) := by
  have hf : ∀ i, i ≠ 25 → h i = h i := fun _ _ => rfl
  refine Ct.intro [some (aR 25 0), some (aI w), none, none] (by decide +kernel) rfl (Nat.le_of_ble_eq_true rfl) ?_
  refine A_sipush 3 (255) dX2_serve_0 rfl (by decide) ?_
  refine A_istore_n 4 dX2_serve_3 rfl rfl (by decide) (by first | exact (ast_s (ast_1 rfl)) | exact (ast_s ast_k)) ?_
  have L4 : ∀ (i : Nat) (t : FI) (g4 : Hp) , (i ≤ 256) → (downF (svO w) i (t) = downF (svO w) (256) (g)) → (g4 25 = some (foB s t)) → (∀ i, i ≠ 25 → g4 i = h i) → Av X l mX2_serve 4 [some (aR 25 0), some (aI (w)), some (aI (nI (i) - 1)), none] [] g4 (QV (PV1 h (25) (foB s (downF (svO w) 256 g)))) := by
    intro i
    induction i using Nat.strongRecOn with
    | _ i ih =>
    intro t g4 en ee O25 hf
    refine A_iload_n 5 dX2_serve_4 rfl rfl rfl ?_
    refine A_if_lt 68 8 dX2_serve_5 (by decide) rfl (fun c5 => ?_) (fun c5 => ?_)
    · skip
      obtain rfl := dn_T c5 (by omega)
      refine A_vret dX2_serve_68 rfl ⟨rfl, (by rw [← ee]; exact O25), hf⟩
    · skip
      obtain ⟨i0, rfl⟩ := dn_F c5
      have hi : i0 < 256 := by omega
      rw [dn_s]
      refine A_aload_n 9 dX2_serve_8 rfl rfl rfl ?_
      refine A_getfield 12 dX2_serve_9 rfl f_X2_29 O25 rfl ?_
      refine A_iload_n 13 dX2_serve_12 rfl rfl rfl ?_
      refine A_callNI 16 (S_X9_cell_X2_1 X l (by first | assumption | decide | omega | exact Ne.symm (by assumption)) (by first | assumption | exact ix_nI (by omega) (by decide) | exact ix_lit _ rfl (by omega) (by decide) | exact ix_lit _ rfl (by decide) (by decide))) dX2_serve_13 rfl kX9_cell nk_X2_87 rfl (by decide) rfl (Nat.le_of_ble_eq_true rfl) (fun v_1 h_1 qh_1 => ?_)
      obtain ⟨rfl, rfl⟩ := qh_1
      refine A_if_ne 22 19 dX2_serve_16 (by decide) rfl (fun c16 => ?_) (fun c16 => ?_)
      · skip
        try simp only [bI_0, bI_n0, Classical.not_not, Bool.not_eq_false, Bool.true_and, Bool.and_true, decide_eq_true_eq, decide_eq_false_iff_not, dayC_1, dayC_21, dayC_221, dayC_222] at c16
        refine A_iconst 23 (0) dX2_serve_22 rfl (by decide) ?_
        refine A_istore_n 24 dX2_serve_23 rfl rfl (by decide) (by first | exact (ast_s (ast_s (ast_1 rfl))) | exact (ast_s (ast_s ast_k))) ?_
        have L24 : ∀ (nqb j : Nat) (t2 : FI) (g24 : Hp) , (nqb + j = 8) → (foldN (svI w i0) (t) j = (t2)) → (g24 25 = some (foB s t2)) → (∀ i, i ≠ 25 → g24 i = h i) → Av X l mX2_serve 24 [some (aR 25 0), some (aI (w)), some (aI (nI (i0))), some (aI (nI (j)))] [] g24 (QV (PV1 h (25) (foB s (downF (svO w) 256 g)))) := by
          intro nqb
          induction nqb using Nat.strongRecOn with
          | _ nqb ihb =>
          intro j t2 g24 enb eeb O25 hf
          refine A_iload_n 25 dX2_serve_24 rfl rfl rfl ?_
          refine A_bipush 27 (8) dX2_serve_25 rfl (by decide) ?_
          refine A_icmp_ge 62 30 dX2_serve_27 (by decide) rfl (fun c27 => ?_) (fun c27 => ?_)
          · skip
            obtain rfl := (up_ge_T (N := 8) c27 rfl (by omega) (by omega)).symm
            first | refine A_idecN 65 dX2_serve_62 rfl rfl (by decide) (by first | exact (ast_s (ast_1 rfl)) | exact (ast_s ast_k)) ?_ | refine A_iinc 65 (-1) dX2_serve_62 rfl rfl (by decide) (by decide) (by first | exact (ast_s (ast_1 rfl)) | exact (ast_s ast_k)) ?_
            refine A_goto 4 dX2_serve_65 (by decide) ?_
            exact A_weak (ih i0 (Nat.lt_succ_self i0) _ g24  (by omega) (((congrArg (downF (svO w) i0) (by first | (unfold svO; rw [if_neg c16]; exact eeb.symm) | (unfold svO; rw [if_pos c16]))).trans (downF_s _ _ _).symm).trans ee) O25 hf) (sub_s (sub_s (sub_s (sub_n sub_nil))))
          · skip
            have hib := up_ge_F (N := 8) c27 rfl (by omega) (by omega)
            obtain ⟨n0b, rfl⟩ : ∃ q, nqb = q + 1 := ⟨nqb - 1, by omega⟩
            refine A_iload_n 31 dX2_serve_30 rfl rfl rfl ?_
            refine A_iload_n 32 dX2_serve_31 rfl rfl rfl ?_
            refine A_iconst 33 (-1) dX2_serve_32 rfl (by decide) ?_
            refine A_ixor 34 dX2_serve_33 rfl ?_
            refine A_iand 35 dX2_serve_34 rfl ?_
            refine A_iload_n 36 dX2_serve_35 rfl rfl rfl ?_
            refine A_callNI 39 (S_X9_hasThing X l) dX2_serve_36 rfl kX9_hasThing nk_X2_66 rfl (by decide) rfl (Nat.le_of_ble_eq_true rfl) (fun v_2 h_2 qh_2 => ?_)
            obtain ⟨rfl, rfl⟩ := qh_2
            refine A_if_eq 56 42 dX2_serve_39 (by decide) rfl (fun c39 => ?_) (fun c39 => ?_)
            · skip
              try simp only [bI_0, bI_n0, Classical.not_not, Bool.not_eq_false, Bool.true_and, Bool.and_true, decide_eq_true_eq, decide_eq_false_iff_not, dayC_1, dayC_21, dayC_221, dayC_222] at c39
              first | refine A_iincN 59 dX2_serve_56 rfl rfl (by decide) (by first | exact (ast_s (ast_s (ast_1 rfl))) | exact (ast_s (ast_s ast_k))) ?_ | refine A_iinc 59 (1) dX2_serve_56 rfl rfl (by decide) (by decide) (by first | exact (ast_s (ast_s (ast_1 rfl))) | exact (ast_s (ast_s ast_k))) ?_
              refine A_goto 24 dX2_serve_59 (by decide) ?_
              exact ihb n0b (Nat.lt_succ_self n0b) (j + 1) _ g24  (by omega) ((foldN_s (svI w i0) (t) j).trans ((congrArg ((svI w i0) j) eeb).trans (by first | with_reducible rfl | (simp only [c16, c39, if_true, if_false, ite_true, ite_false, and_true, true_and, and_false, false_and, and_self, or_true, true_or, or_false, false_or, or_self, not_true_eq_false, not_false_eq_true, decide_true, decide_false, Bool.and_true, Bool.true_and, Bool.and_false, Bool.false_and, Bool.and_self, Bool.or_true, Bool.true_or, Bool.or_false, Bool.false_or, Bool.not_true, Bool.not_false, cond_true, cond_false, bI_t, bI_f, Bool.false_eq_true, Bool.true_eq_false, dayC_1, dayC_21, dayC_221, dayC_222, svI]; done) | (simp [*, svI]; done) | with_reducible_and_instances rfl))) O25 hf
            · skip
              try simp only [bI_0, bI_n0, Classical.not_not, Bool.not_eq_false, Bool.true_and, Bool.and_true, decide_eq_true_eq, decide_eq_false_iff_not, dayC_1, dayC_21, dayC_221, dayC_222] at c39
              refine A_aload_n 43 dX2_serve_42 rfl rfl rfl ?_
              refine A_getfield 46 dX2_serve_43 rfl f_X2_29 O25 rfl ?_
              refine A_iload_n 47 dX2_serve_46 rfl rfl rfl ?_
              refine A_iload_n 48 dX2_serve_47 rfl rfl rfl ?_
              refine A_callNI 51 (S_X9_thingBit X l) dX2_serve_48 rfl kX9_thingBit nk_X2_57 rfl (by decide) rfl (Nat.le_of_ble_eq_true rfl) (fun v_3 h_3 qh_3 => ?_)
              obtain ⟨rfl, rfl⟩ := qh_3
              refine A_ior 52 dX2_serve_51 rfl ?_
              refine A_iconst 53 (1) dX2_serve_52 rfl (by decide) ?_
              rw [tbI_nI hib, oneB_pow j (by omega), nI_or]
              have hor : i0 ||| 2 ^ j < 256 := Nat.or_lt_two_pow (n := 8) (by omega) (Nat.pow_lt_pow_right (by decide) hib)
              refine A_callNV 56 (S_X9_put_X2_1 X l (by first | assumption | decide | omega | exact Ne.symm (by assumption)) (by first | assumption | exact ix_nI (by omega) (by decide) | exact ix_lit _ rfl (by omega) (by decide) | exact ix_lit _ rfl (by decide) (by decide))) dX2_serve_53 rfl kX9_put nk_X2_76 rfl (by decide) rfl (Nat.le_of_ble_eq_true rfl) (fun h_4 qh_4 => ?_)
              obtain ⟨n0h_4, eh_4⟩ := qh_4
              replace O25 := n0h_4
              replace hf : ∀ i, i ≠ 25 → h_4 i = h i := fun i g0 => (eh_4 i g0).trans (hf i g0)
              first | refine A_iincN 59 dX2_serve_56 rfl rfl (by decide) (by first | exact (ast_s (ast_s (ast_1 rfl))) | exact (ast_s (ast_s ast_k))) ?_ | refine A_iinc 59 (1) dX2_serve_56 rfl rfl (by decide) (by decide) (by first | exact (ast_s (ast_s (ast_1 rfl))) | exact (ast_s (ast_s ast_k))) ?_
              refine A_goto 24 dX2_serve_59 (by decide) ?_
              exact ihb n0b (Nat.lt_succ_self n0b) (j + 1) _ h_4  (by omega) ((foldN_s (svI w i0) (t) j).trans ((congrArg ((svI w i0) j) eeb).trans (by first | with_reducible rfl | (simp only [c16, c39, if_true, if_false, ite_true, ite_false, and_true, true_and, and_false, false_and, and_self, or_true, true_or, or_false, false_or, or_self, not_true_eq_false, not_false_eq_true, decide_true, decide_false, Bool.and_true, Bool.true_and, Bool.and_false, Bool.false_and, Bool.and_self, Bool.or_true, Bool.true_or, Bool.or_false, Bool.false_or, Bool.not_true, Bool.not_false, cond_true, cond_false, bI_t, bI_f, Bool.false_eq_true, Bool.true_eq_false, dayC_1, dayC_21, dayC_221, dayC_222, svI]; done) | (simp [*, svI]; done) | with_reducible_and_instances rfl))) O25 hf
        exact L24 (8) (0) (_) g4  (by omega) (rfl) O25 hf
      · skip
        try simp only [bI_0, bI_n0, Classical.not_not, Bool.not_eq_false, Bool.true_and, Bool.and_true, decide_eq_true_eq, decide_eq_false_iff_not, dayC_1, dayC_21, dayC_221, dayC_222] at c16
        refine A_goto 62 dX2_serve_19 (by decide) ?_
        first | refine A_idecN 65 dX2_serve_62 rfl rfl (by decide) (by first | exact (ast_s (ast_1 rfl)) | exact (ast_s ast_k)) ?_ | refine A_iinc 65 (-1) dX2_serve_62 rfl rfl (by decide) (by decide) (by first | exact (ast_s (ast_1 rfl)) | exact (ast_s ast_k)) ?_
        refine A_goto 4 dX2_serve_65 (by decide) ?_
        exact A_weak (ih i0 (Nat.lt_succ_self i0) _ g4  (by omega) (((congrArg (downF (svO w) i0) (by first | (unfold svO; rw [if_neg c16]; exact eeb.symm) | (unfold svO; rw [if_pos c16]))).trans (downF_s _ _ _).symm).trans ee) O25 hf) (sub_s (sub_s (sub_s (sub_n sub_nil))))
  rw [show (255 : Int32) = nI 256 - 1 from rfl]
  exact A_weak (L4 (256) (_) h  (by omega) (rfl) O25 hf) (sub_s (sub_s (sub_s (sub_n sub_nil))))
set_option maxHeartbeats 4000000 in
set_option maxRecDepth 100000 in
theorem S_X2_mostOwners (X : En) (l : Launch) {h : Hp} {x : PW} {y : PC} {s : Nat → Int64} {g : FI} (O25 : h 25 = some (foB s g)) (O26 : h 26 = some (cB 26 y)) (O1 : h 1 = some (wB 1 x)) (hx : LOK x) (hp : x.2.2.2.1 ≤ 6) : Ct X l mX2_mostOwners [aR 25 0, aR 1 0] h (QI (fun vr h2 => (MOW x) = vr ∧ ∃ (g3 : FI) (y1 : PC), h2 (25) = some (foB s g3) ∧ h2 (26) = some (cB 26 y1) ∧ ∀ i, i ≠ 25 → i ≠ 26 → h2 i = h i)) := by
  have hf : ∀ i, i ≠ 25 → i ≠ 26 → h i = h i := fun _ _ _ => rfl
  refine Ct.intro [some (aR 25 0), some (aR 1 0), none, none] (by decide +kernel) rfl (Nat.le_of_ble_eq_true rfl) ?_
  refine A_aload_n 1 dX2_mostOwners_0 rfl rfl rfl ?_
  refine A_getfield 4 dX2_mostOwners_1 rfl f_X2_29 O25 rfl ?_
  refine A_iconst 5 (0) dX2_mostOwners_4 rfl (by decide) ?_
  refine A_callSV 8 (S_J7_fill_53178 X l (by first | assumption | decide | omega | exact Ne.symm (by assumption))) dX2_mostOwners_5 rfl kJ7_fill_53178 lk_X2_70 rfl (by decide) rfl (Nat.le_of_ble_eq_true rfl) (fun h_1 qh_1 => ?_)
  obtain ⟨g2_1, n0h_1, ph_1, eh_1⟩ := qh_1
  replace O25 := n0h_1
  replace O26 := (eh_1 _ (by decide)).trans O26
  replace O1 := (eh_1 _ (by decide)).trans O1
  replace hf : ∀ i, i ≠ 25 → i ≠ 26 → h_1 i = h i := fun i g0 g1 => (eh_1 i g0).trans (hf i g0 g1)
  have phx := ph_1
  refine A_aload_n 9 dX2_mostOwners_8 rfl rfl rfl ?_
  refine A_getfield 12 dX2_mostOwners_9 rfl f_X2_29 O25 rfl ?_
  refine A_iconst 13 (0) dX2_mostOwners_12 rfl (by decide) ?_
  refine A_iconst 14 (1) dX2_mostOwners_13 rfl (by decide) ?_
  refine A_callNV 17 (S_X9_put_X2_1 X l (by first | assumption | decide | omega | exact Ne.symm (by assumption)) (by first | assumption | exact ix_nI (by omega) (by decide) | exact ix_lit _ rfl (by omega) (by decide) | exact ix_lit _ rfl (by decide) (by decide))) dX2_mostOwners_14 rfl kX9_put nk_X2_76 rfl (by decide) rfl (Nat.le_of_ble_eq_true rfl) (fun h_2 qh_2 => ?_)
  obtain ⟨n0h_2, eh_2⟩ := qh_2
  replace O25 := n0h_2
  replace O26 := (eh_2 _ (by decide)).trans O26
  replace O1 := (eh_2 _ (by decide)).trans O1
  replace hf : ∀ i, i ≠ 25 → i ≠ 26 → h_2 i = h i := fun i g0 g1 => (eh_2 i g0).trans (hf i g0 g1)
  refine Av.extO O25 (own0_eq phx) (fun h_3 nh_3 eh_3 => ?_)
  replace O25 := nh_3
  replace O26 := (eh_3 _ (by decide)).trans O26
  replace O1 := (eh_3 _ (by decide)).trans O1
  replace hf : ∀ i, i ≠ 25 → i ≠ 26 → h_3 i = h i := fun i g0 g1 => (eh_3 i g0).trans (hf i g0 g1)
  refine A_iconst 18 (0) dX2_mostOwners_17 rfl (by decide) ?_
  refine A_istore_n 19 dX2_mostOwners_18 rfl rfl (by decide) (by first | exact (ast_s (ast_1 rfl)) | exact (ast_s ast_k)) ?_
  have L19 : ∀ (nq i : Nat) (t : FI) (g19 : Hp) (y0 : PC), (nq + i = x.2.2.2.1) → (foldN (svP x) (own0) i = (t)) → (g19 25 = some (foB s t)) → (g19 26 = some (cB 26 y0)) → (g19 1 = some (wB 1 x)) → (∀ i, i ≠ 25 → i ≠ 26 → g19 i = h i) → Av X l mX2_mostOwners 19 [some (aR 25 0), some (aR 1 0), some (aI (nI (i))), none] [] g19 (QI (fun vr h2 => (MOW x) = vr ∧ ∃ (g3 : FI) (y1 : PC), h2 (25) = some (foB s g3) ∧ h2 (26) = some (cB 26 y1) ∧ ∀ i, i ≠ 25 → i ≠ 26 → h2 i = h i)) := by
    intro nq
    induction nq using Nat.strongRecOn with
    | _ nq ih =>
    intro i t g19 y0 en ee O25 O26 O1 hf
    refine A_iload_n 20 dX2_mostOwners_19 rfl rfl rfl ?_
    refine A_aload_n 21 dX2_mostOwners_20 rfl rfl rfl ?_
    refine A_callVI 24 (S_X8_peopleCount X l (by first | assumption | decide | omega | exact Ne.symm (by assumption))) dX2_mostOwners_21 rfl kX8_peopleCount lk_X2_33 rfl O1 (by decide) rfl (Nat.le_of_ble_eq_true rfl) (fun v_4 h_4 qh_4 => ?_)
    obtain ⟨rfl, rfl⟩ := qh_4
    refine A_icmp_ge 47 27 dX2_mostOwners_24 (by decide) rfl (fun c24 => ?_) (fun c24 => ?_)
    · skip
      obtain rfl := (up_ge_T (N := x.2.2.2.1) c24 rfl (by omega) (by omega)).symm
      have et : svA x = t := ee
      subst et
      refine A_iconst 48 (0) dX2_mostOwners_47 rfl (by decide) ?_
      refine A_istore_n 49 dX2_mostOwners_48 rfl rfl (by decide) (by first | exact (ast_s (ast_1 rfl)) | exact (ast_s ast_k)) ?_
      refine A_iconst 50 (0) dX2_mostOwners_49 rfl (by decide) ?_
      refine A_istore_n 51 dX2_mostOwners_50 rfl rfl (by decide) (by first | exact (ast_s (ast_s (ast_1 rfl))) | exact (ast_s (ast_s ast_k))) ?_
      have L51 : ∀ (nqb i : Nat) (u : Int32) (g51 : Hp) (y0 : PC), (nqb + i = 256) → (foldN (mwF (svA x)) (0) i = (u)) → (g51 25 = some (foB s (svA x))) → (g51 26 = some (cB 26 y0)) → (g51 1 = some (wB 1 x)) → (∀ i, i ≠ 25 → i ≠ 26 → g51 i = h i) → Av X l mX2_mostOwners 51 [some (aR 25 0), some (aR 1 0), some (aI (u)), some (aI (nI (i)))] [] g51 (QI (fun vr h2 => (MOW x) = vr ∧ ∃ (g3 : FI) (y1 : PC), h2 (25) = some (foB s g3) ∧ h2 (26) = some (cB 26 y1) ∧ ∀ i, i ≠ 25 → i ≠ 26 → h2 i = h i)) := by
        intro nqb
        induction nqb using Nat.strongRecOn with
        | _ nqb ihb =>
        intro i u g51 y0 enb eeb O25 O26 O1 hf
        refine A_iload_n 52 dX2_mostOwners_51 rfl rfl rfl ?_
        refine A_sipush 55 (255) dX2_mostOwners_52 rfl (by decide) ?_
        refine A_icmp_gt 84 58 dX2_mostOwners_55 (by decide) rfl (fun c55 => ?_) (fun c55 => ?_)
        · skip
          obtain rfl := (up_gt_T (N := 256) c55 rfl (by omega) (by omega) (by omega)).symm
          refine A_iload_n 85 dX2_mostOwners_84 rfl rfl rfl ?_
          refine A_iret dX2_mostOwners_85 rfl ⟨_, rfl, (by unfold MOW; rw [eeb]), _, _, O25, O26, hf⟩
        · skip
          have hib := up_gt_F (N := 256) c55 rfl (by omega) (by omega) (by omega)
          obtain ⟨n0b, rfl⟩ : ∃ q, nqb = q + 1 := ⟨nqb - 1, by omega⟩
          refine A_aload_n 59 dX2_mostOwners_58 rfl rfl rfl ?_
          refine A_getfield 62 dX2_mostOwners_59 rfl f_X2_29 O25 rfl ?_
          refine A_iload_n 63 dX2_mostOwners_62 rfl rfl rfl ?_
          refine A_callNI 66 (S_X9_cell_X2_1 X l (by first | assumption | decide | omega | exact Ne.symm (by assumption)) (by first | assumption | exact ix_nI (by omega) (by decide) | exact ix_lit _ rfl (by omega) (by decide) | exact ix_lit _ rfl (by decide) (by decide))) dX2_mostOwners_63 rfl kX9_cell nk_X2_87 rfl (by decide) rfl (Nat.le_of_ble_eq_true rfl) (fun v_5 h_5 qh_5 => ?_)
          obtain ⟨rfl, rfl⟩ := qh_5
          refine A_if_eq 78 69 dX2_mostOwners_66 (by decide) rfl (fun c66 => ?_) (fun c66 => ?_)
          · skip
            try simp only [bI_0, bI_n0, Classical.not_not, Bool.not_eq_false, Bool.true_and, Bool.and_true, decide_eq_true_eq, decide_eq_false_iff_not, dayC_1, dayC_21, dayC_221, dayC_222] at c66
            first | refine A_iincN 81 dX2_mostOwners_78 rfl rfl (by decide) (by first | exact (ast_s (ast_s (ast_1 rfl))) | exact (ast_s (ast_s ast_k))) ?_ | refine A_iinc 81 (1) dX2_mostOwners_78 rfl rfl (by decide) (by decide) (by first | exact (ast_s (ast_s (ast_1 rfl))) | exact (ast_s (ast_s ast_k))) ?_
            refine A_goto 51 dX2_mostOwners_81 (by decide) ?_
            exact ihb n0b (Nat.lt_succ_self n0b) (i + 1) _ g51 _ (by omega) ((foldN_s (mwF (svA x)) (0) i).trans ((congrArg ((mwF (svA x)) i) eeb).trans (by first | with_reducible rfl | (simp only [c66, if_true, if_false, ite_true, ite_false, and_true, true_and, and_false, false_and, and_self, or_true, true_or, or_false, false_or, or_self, not_true_eq_false, not_false_eq_true, decide_true, decide_false, Bool.and_true, Bool.true_and, Bool.and_false, Bool.false_and, Bool.and_self, Bool.or_true, Bool.true_or, Bool.or_false, Bool.false_or, Bool.not_true, Bool.not_false, cond_true, cond_false, bI_t, bI_f, Bool.false_eq_true, Bool.true_eq_false, dayC_1, dayC_21, dayC_221, dayC_222, mwF]; done) | (simp only [eq_true c66, if_true, if_false, ite_true, ite_false, and_true, true_and, and_false, false_and, and_self, or_true, true_or, or_false, false_or, or_self, not_true_eq_false, not_false_eq_true, decide_true, decide_false, Bool.and_true, Bool.true_and, Bool.and_false, Bool.false_and, Bool.and_self, Bool.or_true, Bool.true_or, Bool.or_false, Bool.false_or, Bool.not_true, Bool.not_false, cond_true, cond_false, bI_t, bI_f, Bool.false_eq_true, Bool.true_eq_false, dayC_1, dayC_21, dayC_221, dayC_222, mwF]; done) | (simp [*, mwF]; done) | with_reducible_and_instances rfl))) O25 O26 O1 hf
          · skip
            try simp only [bI_0, bI_n0, Classical.not_not, Bool.not_eq_false, Bool.true_and, Bool.and_true, decide_eq_true_eq, decide_eq_false_iff_not, dayC_1, dayC_21, dayC_221, dayC_222] at c66
            refine A_iload_n 70 dX2_mostOwners_69 rfl rfl rfl ?_
            refine A_iload_n 71 dX2_mostOwners_70 rfl rfl rfl ?_
            refine A_callSI 74 (S_J6_bitCount_0f7a4 X l) dX2_mostOwners_71 rfl kJ6_bitCount_0f7a4 lk_X2_52 rfl (by decide) rfl (Nat.le_of_ble_eq_true rfl) (fun v_6 h_6 qh_6 => ?_)
            obtain ⟨rfl, rfl⟩ := qh_6
            refine A_max 77 dX2_mostOwners_74 rfl lk_X2_91 mm_max_s mm_i mm_max_c ⟨by decide, Nat.le_of_ble_eq_true rfl⟩ ?_
            refine A_istore_n 78 dX2_mostOwners_77 rfl rfl (by decide) (by first | exact (ast_s (ast_1 rfl)) | exact (ast_s ast_k)) ?_
            first | refine A_iincN 81 dX2_mostOwners_78 rfl rfl (by decide) (by first | exact (ast_s (ast_s (ast_1 rfl))) | exact (ast_s (ast_s ast_k))) ?_ | refine A_iinc 81 (1) dX2_mostOwners_78 rfl rfl (by decide) (by decide) (by first | exact (ast_s (ast_s (ast_1 rfl))) | exact (ast_s (ast_s ast_k))) ?_
            refine A_goto 51 dX2_mostOwners_81 (by decide) ?_
            exact ihb n0b (Nat.lt_succ_self n0b) (i + 1) _ g51 _ (by omega) ((foldN_s (mwF (svA x)) (0) i).trans ((congrArg ((mwF (svA x)) i) eeb).trans (by first | with_reducible rfl | (simp only [c66, if_true, if_false, ite_true, ite_false, and_true, true_and, and_false, false_and, and_self, or_true, true_or, or_false, false_or, or_self, not_true_eq_false, not_false_eq_true, decide_true, decide_false, Bool.and_true, Bool.true_and, Bool.and_false, Bool.false_and, Bool.and_self, Bool.or_true, Bool.true_or, Bool.or_false, Bool.false_or, Bool.not_true, Bool.not_false, cond_true, cond_false, bI_t, bI_f, Bool.false_eq_true, Bool.true_eq_false, dayC_1, dayC_21, dayC_221, dayC_222, mwF]; done) | (simp [*, mwF]; done) | with_reducible_and_instances rfl))) O25 O26 O1 hf
      exact L51 (256) (0) (_) g19 (_) (by omega) (rfl) O25 O26 O1 hf
    · skip
      have hi := up_ge_F (N := x.2.2.2.1) c24 rfl (by omega) (by omega)
      obtain ⟨n0, rfl⟩ : ∃ q, nq = q + 1 := ⟨nq - 1, by omega⟩
      refine A_aload_n 28 dX2_mostOwners_27 rfl rfl rfl ?_
      refine A_aload_n 29 dX2_mostOwners_28 rfl rfl rfl ?_
      refine A_aload_n 30 dX2_mostOwners_29 rfl rfl rfl ?_
      refine A_aload_n 31 dX2_mostOwners_30 rfl rfl rfl ?_
      refine A_iload_n 32 dX2_mostOwners_31 rfl rfl rfl ?_
      refine A_callVI 35 (S_X8_pocketsOf X l (by first | assumption | decide | omega | exact Ne.symm (by assumption)) (by first | assumption | decide | omega | exact Ne.symm (by assumption))) dX2_mostOwners_32 rfl kX8_pocketsOf lk_X2_37 rfl O1 (by decide) rfl (Nat.le_of_ble_eq_true rfl) (fun v_7 h_7 qh_7 => ?_)
      obtain ⟨rfl, rfl⟩ := qh_7
      refine A_callVI 38 (S_X2_spurs X l (by first | assumption | decide | omega | exact Ne.symm (by assumption)) (by first | assumption | decide | omega | exact Ne.symm (by assumption)) (by first | assumption | decide | omega | exact Ne.symm (by assumption)) (by first | assumption | decide | omega | exact Ne.symm (by assumption)) (by first | assumption | decide | omega | exact Ne.symm (by assumption))) dX2_mostOwners_35 rfl kX2_spurs lk_X2_80 rfl O25 (by decide) rfl (Nat.le_of_ble_eq_true rfl) (fun v_8 h_8 qh_8 => ?_)
      obtain ⟨rfl, y1_8, n0h_8, eh_8⟩ := qh_8
      replace O25 := (eh_8 _ (by decide)).trans O25
      replace O26 := n0h_8
      replace O1 := (eh_8 _ (by decide)).trans O1
      replace hf : ∀ i, i ≠ 25 → i ≠ 26 → h_8 i = h i := fun i g0 g1 => (eh_8 i g1).trans (hf i g0 g1)
      refine A_callVV 41 (S_X2_serve X l (by first | assumption | decide | omega | exact Ne.symm (by assumption))) dX2_mostOwners_38 rfl kX2_serve lk_X2_83 rfl O25 (by decide) rfl (Nat.le_of_ble_eq_true rfl) (fun h_9 qh_9 => ?_)
      obtain ⟨n0h_9, eh_9⟩ := qh_9
      replace O25 := n0h_9
      replace O26 := (eh_9 _ (by decide)).trans O26
      replace O1 := (eh_9 _ (by decide)).trans O1
      replace hf : ∀ i, i ≠ 25 → i ≠ 26 → h_9 i = h i := fun i g0 g1 => (eh_9 i g0).trans (hf i g0 g1)
      first | refine A_iincN 44 dX2_mostOwners_41 rfl rfl (by decide) (by first | exact (ast_s (ast_1 rfl)) | exact (ast_s ast_k)) ?_ | refine A_iinc 44 (1) dX2_mostOwners_41 rfl rfl (by decide) (by decide) (by first | exact (ast_s (ast_1 rfl)) | exact (ast_s ast_k)) ?_
      refine A_goto 19 dX2_mostOwners_44 (by decide) ?_
      exact A_weak (ih n0 (Nat.lt_succ_self n0) (i + 1) _ h_9 _ (by omega) ((foldN_s (svP x) (own0) i).trans ((congrArg ((svP x) i) ee).trans (by unfold svP; with_reducible rfl))) O25 O26 O1 hf) (sub_s (sub_s (sub_s (sub_n sub_nil))))
  exact A_weak (L19 (x.2.2.2.1) (0) (_) h_3 (_) (by omega) (rfl) O25 O26 O1 hf) (sub_s (sub_s (sub_s (sub_n sub_nil))))
set_option maxHeartbeats 4000000 in
set_option maxRecDepth 100000 in
theorem S_X2_firstReturn (X : En) (l : Launch) {h : Hp} {x x2 : PW} {y : PC} {s : Nat → Int64} {g : FI} (O25 : h 25 = some (foB s g)) (O26 : h 26 = some (cB 26 y)) (O27 : h 27 = some (wB 27 x2)) (O1 : h 1 = some (wB 1 x)) (hx : LOK x) (hp : x.2.2.2.1 ≤ 6) : Ct X l mX2_firstReturn [aR 25 0, aR 1 0] h (QI (fun vr h2 => (FR x) = vr ∧ ∃ (s1 : Nat → Int64) (y1 : PC) (x3 : PW), h2 (25) = some (foB s1 g) ∧ h2 (26) = some (cB 26 y1) ∧ h2 (27) = some (wB 27 x3) ∧ ∀ i, i ≠ 25 → i ≠ 26 → i ≠ 27 → h2 i = h i)) := by
  have hf : ∀ i, i ≠ 25 → i ≠ 26 → i ≠ 27 → h i = h i := fun _ _ _ _ => rfl
  refine Ct.intro [some (aR 25 0), some (aR 1 0), none] (by decide +kernel) rfl (Nat.le_of_ble_eq_true rfl) ?_
  refine A_aload_n 1 dX2_firstReturn_0 rfl rfl rfl ?_
  refine A_getfield 4 dX2_firstReturn_1 rfl f_X2_21 O25 rfl ?_
  refine A_aload_n 5 dX2_firstReturn_4 rfl rfl rfl ?_
  refine A_callVV 8 (S_X8_copyFrom X l (by first | assumption | decide | omega | exact Ne.symm (by assumption)) (by first | assumption | decide | omega | exact Ne.symm (by assumption)) (by first | assumption | decide | omega | exact Ne.symm (by assumption))) dX2_firstReturn_5 rfl kX8_copyFrom lk_X2_97 rfl O27 (by decide) rfl (Nat.le_of_ble_eq_true rfl) (fun h_1 qh_1 => ?_)
  obtain ⟨n0h_1, eh_1⟩ := qh_1
  replace O25 := (eh_1 _ (by decide)).trans O25
  replace O26 := (eh_1 _ (by decide)).trans O26
  replace O27 := n0h_1
  replace O1 := (eh_1 _ (by decide)).trans O1
  replace hf : ∀ i, i ≠ 25 → i ≠ 26 → i ≠ 27 → h_1 i = h i := fun i g0 g1 g2 => (eh_1 i g2).trans (hf i g0 g1 g2)
  refine A_aload_n 9 dX2_firstReturn_8 rfl rfl rfl ?_
  refine A_iconst 10 (0) dX2_firstReturn_9 rfl (by decide) ?_
  refine A_callVV 13 (S_X2_keepState X l (by first | assumption | decide | omega | exact Ne.symm (by assumption)) (by first | assumption | decide | omega | exact Ne.symm (by assumption)) (by first | assumption | decide | omega | exact Ne.symm (by assumption)) (by first | assumption | decide | omega | exact Ne.symm (by assumption))) dX2_firstReturn_10 rfl kX2_keepState lk_X2_101 rfl O25 (by decide) rfl (Nat.le_of_ble_eq_true rfl) (fun h_2 qh_2 => ?_)
  obtain ⟨n0h_2, eh_2⟩ := qh_2
  replace O25 := n0h_2
  replace O26 := (eh_2 _ (by decide)).trans O26
  replace O27 := (eh_2 _ (by decide)).trans O27
  replace O1 := (eh_2 _ (by decide)).trans O1
  replace hf : ∀ i, i ≠ 25 → i ≠ 26 → i ≠ 27 → h_2 i = h i := fun i g0 g1 g2 => (eh_2 i g0).trans (hf i g0 g1 g2)
  refine A_iconst 14 (1) dX2_firstReturn_13 rfl (by decide) ?_
  refine A_istore_n 15 dX2_firstReturn_14 rfl rfl (by decide) (by first | exact (ast_s (ast_1 rfl)) | exact (ast_s ast_k)) ?_
  have L15 : ∀ (nq k : Nat)  (g15 : Hp) (s0 : Nat → Int64) (y0 : PC), (nq + k = 60) → (frN x nq k = FR x) → (∀ j, j < k + 1 → s0 j = PK (dyN x j)) → (g15 25 = some (foB s0 g)) → (g15 26 = some (cB 26 y0)) → (g15 27 = some (wB 27 (dyN x k))) → (g15 1 = some (wB 1 x)) → (∀ i, i ≠ 25 → i ≠ 26 → i ≠ 27 → g15 i = h i) → Av X l mX2_firstReturn 15 [some (aR 25 0), some (aR 1 0), some (aI (nI (k + 1)))] [] g15 (QI (fun vr h2 => (FR x) = vr ∧ ∃ (s1 : Nat → Int64) (y1 : PC) (x3 : PW), h2 (25) = some (foB s1 g) ∧ h2 (26) = some (cB 26 y1) ∧ h2 (27) = some (wB 27 x3) ∧ ∀ i, i ≠ 25 → i ≠ 26 → i ≠ 27 → h2 i = h i)) := by
    intro nq
    induction nq using Nat.strongRecOn with
    | _ nq ih =>
    intro k g15 s0 y0 en ee hy O25 O26 O27 O1 hf
    have hL := dyN_L hx k
    have hP := dyN_p x k
    refine A_iload_n 16 dX2_firstReturn_15 rfl rfl rfl ?_
    refine A_bipush 18 (60) dX2_firstReturn_16 rfl (by decide) ?_
    refine A_icmp_gt 54 21 dX2_firstReturn_18 (by decide) rfl (fun c18 => ?_) (fun c18 => ?_)
    · skip
      have q18 := (nlt_iff (a := 60) (b := k + 1) (by decide) (by omega)).mp c18
      obtain rfl : nq = 0 := by omega
      refine A_bipush 56 (-9) dX2_firstReturn_54 rfl (by decide) ?_
      refine A_iret dX2_firstReturn_56 rfl ⟨_, rfl, (by rw [← ee]; rfl), _, _, _, O25, O26, O27, hf⟩
    · skip
      have q18 := mt (nlt_iff (a := 60) (b := k + 1) (by decide) (by omega)).mpr c18
      obtain ⟨n0, rfl⟩ : ∃ q, nq = q + 1 := ⟨nq - 1, by omega⟩
      refine A_aload_n 22 dX2_firstReturn_21 rfl rfl rfl ?_
      refine A_getfield 25 dX2_firstReturn_22 rfl f_X2_21 O25 rfl ?_
      refine A_aload_n 26 dX2_firstReturn_25 rfl rfl rfl ?_
      refine A_getfield 29 dX2_firstReturn_26 rfl f_X2_12 O25 rfl ?_
      refine A_callVI 32 (S_X8_passDay X l O27 O26 hL (by omega) (by decide)) dX2_firstReturn_29 rfl kX8_passDay lk_X2_104 rfl O27 (by decide) rfl (Nat.le_of_ble_eq_true rfl) (fun v_3 h_3 qh_3 => ?_)
      obtain ⟨rfl, y1_3, n0h_3, n1h_3, eh_3⟩ := qh_3
      replace O25 := (eh_3 _ (by decide) (by decide)).trans O25
      replace O26 := n1h_3
      replace O27 := n0h_3
      replace O1 := (eh_3 _ (by decide) (by decide)).trans O1
      replace hf : ∀ i, i ≠ 25 → i ≠ 26 → i ≠ 27 → h_3 i = h i := fun i g0 g1 g2 => (eh_3 i g2 g1).trans (hf i g0 g1 g2)
      refine A_pop 33 dX2_firstReturn_32 rfl rfl ?_
      refine A_aload_n 34 dX2_firstReturn_33 rfl rfl rfl ?_
      refine A_iload_n 35 dX2_firstReturn_34 rfl rfl rfl ?_
      refine A_callVV 38 (S_X2_keepState X l (n := k + 1) O25 O27 (show (passX (dyN x k)).2.2.2.1 ≤ 6 by show (dyN x k).2.2.2.1 ≤ 6; omega) (by omega)) dX2_firstReturn_35 rfl kX2_keepState lk_X2_101 rfl O25 (by decide) rfl (Nat.le_of_ble_eq_true rfl) (fun h_4 qh_4 => ?_)
      obtain ⟨n0h_4, eh_4⟩ := qh_4
      replace O25 := n0h_4
      replace O26 := (eh_4 _ (by decide)).trans O26
      replace O27 := (eh_4 _ (by decide)).trans O27
      replace O1 := (eh_4 _ (by decide)).trans O1
      replace hf : ∀ i, i ≠ 25 → i ≠ 26 → i ≠ 27 → h_4 i = h i := fun i g0 g1 g2 => (eh_4 i g0).trans (hf i g0 g1 g2)
      have hs2 := upA_eq (D := fun j => PK (dyN x j)) (v := PK (passX (dyN x k))) hy rfl
      refine A_aload_n 39 dX2_firstReturn_38 rfl rfl rfl ?_
      refine A_iload_n 40 dX2_firstReturn_39 rfl rfl rfl ?_
      refine A_callVI 43 (S_X2_isSeenAhead X l (by first | assumption | decide | omega | exact Ne.symm (by assumption)) (by first | assumption | decide | omega | exact Ne.symm (by assumption))) dX2_firstReturn_40 rfl kX2_isSeenAhead lk_X2_108 rfl O25 (by decide) rfl (Nat.le_of_ble_eq_true rfl) (fun v_5 h_5 qh_5 => ?_)
      obtain ⟨rfl, rfl⟩ := qh_5
      rw [seen_eq hs2]
      refine A_if_eq 48 46 dX2_firstReturn_43 (by decide) rfl (fun c43 => ?_) (fun c43 => ?_)
      · skip
        try simp only [bI_0, bI_n0, Classical.not_not, Bool.not_eq_false, Bool.true_and, Bool.and_true, decide_eq_true_eq, decide_eq_false_iff_not, dayC_1, dayC_21, dayC_221, dayC_222] at c43
        first | refine A_iincN 51 dX2_firstReturn_48 rfl rfl (by decide) (by first | exact (ast_s (ast_1 rfl)) | exact (ast_s ast_k)) ?_ | refine A_iinc 51 (1) dX2_firstReturn_48 rfl rfl (by decide) (by decide) (by first | exact (ast_s (ast_1 rfl)) | exact (ast_s ast_k)) ?_
        refine A_goto 15 dX2_firstReturn_51 (by decide) ?_
        exact ih n0 (Nat.lt_succ_self n0) (k + 1)  h_4 _ _ (by omega) ((by rw [frN_s, if_neg (by rw [c43]; decide)] : frN x (n0 + 1) k = frN x n0 (k + 1)).symm.trans ee) (hs2) O25 O26 O27 O1 hf
      · skip
        try simp only [bI_0, bI_n0, Classical.not_not, Bool.not_eq_false, Bool.true_and, Bool.and_true, decide_eq_true_eq, decide_eq_false_iff_not, dayC_1, dayC_21, dayC_221, dayC_222] at c43
        refine A_iload_n 47 dX2_firstReturn_46 rfl rfl rfl ?_
        refine A_iret dX2_firstReturn_47 rfl ⟨_, rfl, (by rw [← ee, frN_s, if_pos c43]), _, _, _, O25, O26, O27, hf⟩
  exact L15 (60) (0)  h_2 (_) (_) (by omega) (rfl) (fun j hj => by rw [show j = 0 by omega]; rfl) O25 O26 O27 O1 hf
set_option maxHeartbeats 4000000 in
set_option maxRecDepth 100000 in
theorem S_X5_size (X : En) (l : Launch) {h : Hp} {n k : Nat} (O3 : h 3 = some (paB n k)) : Ct X l mX5_size [aR 3 0] h (QI (PI0 (nI k) h)) := by
  refine Ct.intro [some (aR 3 0)] (by decide +kernel) rfl (Nat.le_of_ble_eq_true rfl) ?_
  refine A_aload_n 1 dX5_size_0 rfl rfl rfl ?_
  refine A_getfield 4 dX5_size_1 rfl f_X5_16 O3 rfl ?_
  refine A_iret dX5_size_4 rfl ⟨_, rfl, (by first | with_reducible rfl | (simp only [if_true, if_false, ite_true, ite_false, and_true, true_and, and_false, false_and, and_self, or_true, true_or, or_false, false_or, or_self, not_true_eq_false, not_false_eq_true, decide_true, decide_false, Bool.and_true, Bool.true_and, Bool.and_false, Bool.false_and, Bool.and_self, Bool.or_true, Bool.true_or, Bool.or_false, Bool.false_or, Bool.not_true, Bool.not_false, cond_true, cond_false, bI_t, bI_f, Bool.false_eq_true, Bool.true_eq_false, dayC_1, dayC_21, dayC_221, dayC_222]; done) | (simp only [*]; done) | (simp [bI, *]; done) | with_reducible_and_instances rfl), rfl⟩
set_option maxHeartbeats 4000000 in
set_option maxRecDepth 100000 in
theorem S_X5_forget (X : En) (l : Launch) {h : Hp} {n k : Nat} (O3 : h 3 = some (paB n k)) : Ct X l mX5_forget [aR 3 0] h (QV (PV1 h (3) (paB n 0))) := by
  have hf : ∀ i, i ≠ 3 → h i = h i := fun _ _ => rfl
  refine Ct.intro [some (aR 3 0)] (by decide +kernel) rfl (Nat.le_of_ble_eq_true rfl) ?_
  refine A_aload_n 1 dX5_forget_0 rfl rfl rfl ?_
  refine A_iconst 2 (0) dX5_forget_1 rfl (by decide) ?_
  refine P_X5_2 5 dX5_forget_2 rfl fw_X5_16 O3 (fun h_1 nh_1 eh_1 => ?_)
  replace O3 := nh_1
  replace hf : ∀ i, i ≠ 3 → h_1 i = h i := fun i g0 => (eh_1 i g0).trans (hf i g0)
  refine A_vret dX5_forget_5 rfl ⟨rfl, O3, hf⟩
set_option maxHeartbeats 4000000 in
set_option maxRecDepth 100000 in
theorem S_X5_worldAt (X : En) (l : Launch) {h : Hp} {n k : Nat} (O3 : h 3 = some (paB n k)) {m : Nat} (hm : m < 8) : Ct X l mX5_worldAt [aR 3 0, aI (nI m)] h (QR (PR0 (aR (m + 4) 0) h)) := by
  refine Ct.intro [some (aR 3 0), some (aI (nI m))] (by decide +kernel) rfl (Nat.le_of_ble_eq_true rfl) ?_
  refine A_iload_n 1 dX5_worldAt_0 rfl rfl rfl ?_
  refine A_if_lt 22 4 dX5_worldAt_1 (by decide) rfl (fun c1 => ?_) (fun c1 => ?_)
  · skip
    exact absurd c1 (nI_pos (by omega))
  · skip
    try simp only [bI_0, bI_n0, Classical.not_not, Bool.not_eq_false, Bool.true_and, Bool.and_true, decide_eq_true_eq, decide_eq_false_iff_not, dayC_1, dayC_21, dayC_221, dayC_222] at c1
    have n1 := Int32.not_lt.mp c1
    refine A_iload_n 5 dX5_worldAt_4 rfl rfl rfl ?_
    refine A_aload_n 6 dX5_worldAt_5 rfl rfl rfl ?_
    refine A_getfield 9 dX5_worldAt_6 rfl f_X5_11 O3 rfl ?_
    refine A_arraylength 10 dX5_worldAt_9 rfl O3 rfl (Nat.le_of_ble_eq_true rfl) rfl ?_
    refine A_icmp_ge 22 13 dX5_worldAt_10 (by decide) rfl (fun c10 => ?_) (fun c10 => ?_)
    · skip
      exact absurd ((nle_iff (a := 8) (b := m) (by decide) (by omega)).mp c10) (by omega)
    · skip
      try simp only [bI_0, bI_n0, Classical.not_not, Bool.not_eq_false, Bool.true_and, Bool.and_true, decide_eq_true_eq, decide_eq_false_iff_not, dayC_1, dayC_21, dayC_221, dayC_222] at c10
      have n10 := c10
      replace c10 := Int32.not_le.mp c10
      refine A_aload_n 14 dX5_worldAt_13 rfl rfl rfl ?_
      refine A_getfield 17 dX5_worldAt_14 rfl f_X5_11 O3 rfl ?_
      refine A_iload_n 18 dX5_worldAt_17 rfl rfl rfl ?_
      refine A_aaload 19 dX5_worldAt_18 rfl O3 rfl (by first | assumption | exact ix_nI (by omega) (by decide) | exact ix_lit _ rfl (by omega) (by decide) | exact ix_lit _ rfl (by decide) (by decide)) ?_
      refine A_goto 23 dX5_worldAt_19 (by decide) ?_
      refine A_aret dX5_worldAt_23 rfl ⟨_, rfl, (by first | with_reducible rfl | (simp only [c1, n1, c10, n10, if_true, if_false, ite_true, ite_false, and_true, true_and, and_false, false_and, and_self, or_true, true_or, or_false, false_or, or_self, not_true_eq_false, not_false_eq_true, decide_true, decide_false, Bool.and_true, Bool.true_and, Bool.and_false, Bool.false_and, Bool.and_self, Bool.or_true, Bool.true_or, Bool.or_false, Bool.false_or, Bool.not_true, Bool.not_false, cond_true, cond_false, bI_t, bI_f, Bool.false_eq_true, Bool.true_eq_false, dayC_1, dayC_21, dayC_221, dayC_222]; done) | (simp only [*]; done) | (simp [bI, *]; done) | with_reducible_and_instances rfl), rfl⟩
