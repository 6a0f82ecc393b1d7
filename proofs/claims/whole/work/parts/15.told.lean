/-! Told, Guess, Alone -/
def allN (p : Nat → Bool) : Nat → Bool
  | 0 => true
  | k + 1 => allN p k && p k
theorem allN_no {p : Nat → Bool} {k n : Nat} (hk : k < n) (h : p k = false) : allN p n = false := by
  induction n with
  | zero => omega
  | succ n ih =>
    by_cases e : k = n
    · subst e; simp [allN, h]
    · simp [allN, ih (by omega)]
theorem allN_iff {p : Nat → Bool} {n : Nat} : allN p n = true ↔ ∀ k, k < n → p k = true := by
  induction n with
  | zero => simp [allN]
  | succ n ih =>
    simp only [allN, Bool.and_eq_true, ih]
    constructor
    · rintro ⟨a, b⟩ k hk
      by_cases e : k = n
      · subst e; exact b
      · exact a k (by omega)
    · intro h; exact ⟨fun k hk => h k (by omega), h n (by omega)⟩
def lawQ (t : FI) (L : Nat) (k : Nat) : Bool := decide (t k = 99) || inN (t k) L
def rowOK (t : FI) (n L : Nat) : Bool := decide (n ≤ 12) && allN (lawQ t L) n
def tell (v : Int32) : Int32 := if v = -9 then 99 else v
def fwN (t f : FI) : Nat → Nat → Int32
  | 0, _ => -9
  | m + 1, k => if 12 ≤ k ∨ ¬ t k = tell (f k) then nI k else fwN t f m (k + 1)
def FW (t : FI) (n : Nat) (f : FI) : Int32 := fwN t f n 0
theorem fwN_s (t f : FI) (m k : Nat) : fwN t f (m + 1) k = if 12 ≤ k ∨ ¬ t k = tell (f k) then nI k else fwN t f m (k + 1) := rfl
def leF (x : PW) (t : FI) (n : Nat) (i : Nat) (s : FI × Nat) : FI × Nat := if FW t n (dLaw x 0 (nI i)) = -9 then (va_up s.1 s.2 (nI i), s.2 + 1) else s
def hwF (t : FI) (c : Int32) (i : Nat) (u : Int32) : Int32 := if (inT c && btI (t i) c) = true then u + 1 else u
def HW (t : FI) (n : Nat) (c : Int32) : Int32 := foldN (hwF t c) 0 n
def LpV (t : FI) (n : Nat) (c : Int32) : Int32 := if nI n - HW t n c < HW t n c then nI n - HW t n c else HW t n c
def evF (t : FI) (n : Nat) (i : Nat) (u : Int32) : Int32 := if LpV t n u < LpV t n (nI (i + 1)) then nI (i + 1) else u
def evT (t : FI) (n : Nat) : Int32 := if n = 0 then -9 else foldN (evF t n) 0 7
def setP (x : PW) (k j : Nat) (v : Int32) : PW := (va_up x.1 (k * 4 + j) v, x.2)
theorem setP_setP (x : PW) (k j : Nat) (u v : Int32) : setP (setP x k j u) k j v = setP x k j v := by
  unfold setP
  congr 1
  funext q
  unfold va_up
  by_cases e : q = k * 4 + j <;> simp [e]
def valsN (j : Nat) : Nat := if j = 0 then 6 else if j = 1 then 10 else 8
theorem LOK.sP {x : PW} (hx : LOK x) {k j i : Nat} (hj : j < 3) (hi : i < valsN j) : LOK (setP x k j (nI i)) := by
  refine ⟨hx.1, fun q hq => ?_⟩
  obtain ⟨a, b, c, d⟩ := hx.2 q hq
  have key : ∀ e, e < 4 → (setP x k j (nI i)).1 (q * 4 + e) = x.1 (q * 4 + e) ∨ (e = j ∧ (setP x k j (nI i)).1 (q * 4 + e) = nI i) := by
    intro e he
    show va_up x.1 (k * 4 + j) (nI i) (q * 4 + e) = _ ∨ _ ∧ va_up x.1 (k * 4 + j) (nI i) (q * 4 + e) = _
    unfold va_up
    by_cases z : q * 4 + e = k * 4 + j
    · rw [if_pos z]; exact Or.inr ⟨by omega, rfl⟩
    · rw [if_neg z]; exact Or.inl rfl
  refine ⟨?_, ?_, ?_, ?_⟩
  · rcases key 0 (by decide) with z | ⟨z1, z2⟩
    · obtain ⟨m, hm, e⟩ := a; exact ⟨m, hm, z.trans e⟩
    · subst z1; exact ⟨i, hi, z2⟩
  · rcases key 1 (by decide) with z | ⟨z1, z2⟩
    · obtain ⟨m, hm, e⟩ := b; exact ⟨m, hm, z.trans e⟩
    · subst z1; exact ⟨i, hi, z2⟩
  · rcases key 2 (by decide) with z | ⟨z1, z2⟩
    · obtain ⟨m, hm, e⟩ := c; exact ⟨m, hm, z.trans e⟩
    · subst z1; exact ⟨i, hi, z2⟩
  · rcases key 3 (by decide) with z | ⟨z1, z2⟩
    · obtain ⟨m, hm, e⟩ := d; exact ⟨m, hm, z.trans e⟩
    · omega
def fpF (x : PW) (t : FI) (n : Nat) (p : Int32) (k j : Nat) (i : Nat) (u : Int32) : Int32 := if FW t n (dLaw (setP x k j (nI i)) 0 p) = -9 then u ||| oneB (nI i) else u
def msF (x : PW) (p tk : Int32) (i : Nat) (u : Int32) : Int32 := if nI i = tk then u else if u < DN x ((p &&& (tbI tk ^^^ (-1))) ||| tbI (nI i)) then DN x ((p &&& (tbI tk ^^^ (-1))) ||| tbI (nI i)) else u
def MS (x : PW) (p tk : Int32) : Int32 := foldN (msF x p tk) (DN x (p &&& (tbI tk ^^^ (-1)))) 8
def gdF (x : PW) (p : Int32) (i : Nat) (t : Int32 × Int32) : Int32 × Int32 := if (i < 8 ∧ ¬ btI p (nI i) = true) ∨ ¬ MS x p (nI i) < t.1 then t else (MS x p (nI i), nI i)
def drF (x : PW) (p : Int32) (i : Nat) (t : Int32 × Int32) : Int32 × Int32 := if btI (dDone x 0 p) (nI i) = true ∧ bitC (dDone x (oneB (nI i)) p) < t.2 then (nI i, bitC (dDone x (oneB (nI i)) p)) else t
def latN (x : PW) (p : Int32) (k : Nat) : Nat → Int32
  | 0 => -9
  | f + 1 => if btI (dDone (setP x k 1 (nI f)) 0 p) (nI k) = true then nI f else latN x p k f
theorem latN_s (x : PW) (p : Int32) (k f : Nat) : latN x p k (f + 1) = if btI (dDone (setP x k 1 (nI f)) 0 p) (nI k) = true then nI f else latN x p k f := rfl
def neF (x : PW) (p l : Int32) (i : Nat) (u : Int32) : Int32 := if ¬ nI i = l ∧ inN (nI i) x.2.2.1 = true ∧ btI (dDone x (oneB (nI i)) p) l = false then u ||| oneB (nI i) else u
def neV (x : PW) (p l : Int32) : Int32 := if btI (dDone x 0 p) l = true then foldN (neF x p l) 0 10 else 0
def itF (x : PW) (p : Int32) (i : Nat) (u : Int32) : Int32 := if btI p (nI i) = true ∧ sameN (dLaw x 0 (p &&& (tbI (nI i) ^^^ (-1)))) (dLaw x 0 p) 12 = true then u ||| tbI (nI i) else u
def pdF (x : PW) (_ : Nat) (u : Int32) : Int32 := dEnd x 0 u
def ldF (x : PW) (_ : Nat) (t : Int32 × Int32) : Int32 × Int32 := (dEnd x 0 t.1, t.2 ||| dDone x 0 t.1)
theorem inT_nI {i : Nat} (hi : i < 8) : inT (nI i) = true := by
  have : ∀ i, i < 8 → inT (nI i) = true := by decide
  exact this i hi
theorem inT_8 : inT (nI 8) = false := by decide
set_option maxHeartbeats 4000000 in
set_option maxRecDepth 100000 in
theorem S_X7_size (X : En) (l : Launch) {h : Hp} {t : FI} {n : Nat} (O15 : h 15 = some (toB t n)) : Ct X l mX7_size [aR 15 0] h (QI (PI0 (nI n) h)) := by
  refine Ct.intro [some (aR 15 0)] (by decide +kernel) rfl (Nat.le_of_ble_eq_true rfl) ?_
  refine A_aload_n 1 dX7_size_0 rfl rfl rfl ?_
  refine A_getfield 4 dX7_size_1 rfl f_X7_15 O15 rfl ?_
  refine A_iret dX7_size_4 rfl ⟨_, rfl, (by first | with_reducible rfl | (simp only [if_true, if_false, ite_true, ite_false, and_true, true_and, and_false, false_and, and_self, or_true, true_or, or_false, false_or, or_self, not_true_eq_false, not_false_eq_true, decide_true, decide_false, Bool.and_true, Bool.true_and, Bool.and_false, Bool.false_and, Bool.and_self, Bool.or_true, Bool.true_or, Bool.or_false, Bool.false_or, Bool.not_true, Bool.not_false, cond_true, cond_false, bI_t, bI_f, Bool.false_eq_true, Bool.true_eq_false, dayC_1, dayC_21, dayC_221, dayC_222]; done) | (simp only [*]; done) | (simp [bI, *]; done) | with_reducible_and_instances rfl), rfl⟩
set_option maxHeartbeats 4000000 in
set_option maxRecDepth 100000 in
theorem S_X7_isFull (X : En) (l : Launch) {h : Hp} {t : FI} {n : Nat} (O15 : h 15 = some (toB t n)) (hn : n ≤ 16) : Ct X l mX7_isFull [aR 15 0] h (QI (PI0 (bI (decide (n = 16))) h)) := by
  refine Ct.intro [some (aR 15 0)] (by decide +kernel) rfl (Nat.le_of_ble_eq_true rfl) ?_
  refine A_aload_n 1 dX7_isFull_0 rfl rfl rfl ?_
  refine A_getfield 4 dX7_isFull_1 rfl f_X7_15 O15 rfl ?_
  refine A_bipush 6 (16) dX7_isFull_4 rfl (by decide) ?_
  refine A_icmp_lt 13 9 dX7_isFull_6 (by decide) rfl (fun c6 => ?_) (fun c6 => ?_)
  · skip
    try simp only [bI_0, bI_n0, Classical.not_not, Bool.not_eq_false, Bool.true_and, Bool.and_true, decide_eq_true_eq, decide_eq_false_iff_not, dayC_1, dayC_21, dayC_221, dayC_222] at c6
    have n6 := Int32.not_le.mpr c6
    refine A_iconst 14 (0) dX7_isFull_13 rfl (by decide) ?_
    refine A_zret dX7_isFull_14 rfl (by first | with_reducible exact bI01 _ | with_reducible exact Or.inl rfl | with_reducible exact Or.inr rfl | assumption) ⟨_, rfl, (by first | (rw [decide_eq_true (show n = 16 by have := mt (nlt_iff (a := n) (b := 16) (by omega) (by decide)).mpr c6; omega)]; rfl) | (rw [decide_eq_false (show ¬ n = 16 by have := (nlt_iff (a := n) (b := 16) (by omega) (by decide)).mp c6; omega)]; rfl)), rfl⟩
  · skip
    try simp only [bI_0, bI_n0, Classical.not_not, Bool.not_eq_false, Bool.true_and, Bool.and_true, decide_eq_true_eq, decide_eq_false_iff_not, dayC_1, dayC_21, dayC_221, dayC_222] at c6
    have n6 := Int32.not_lt.mp c6
    refine A_iconst 10 (1) dX7_isFull_9 rfl (by decide) ?_
    refine A_goto 14 dX7_isFull_10 (by decide) ?_
    refine A_zret dX7_isFull_14 rfl (by first | with_reducible exact bI01 _ | with_reducible exact Or.inl rfl | with_reducible exact Or.inr rfl | assumption) ⟨_, rfl, (by first | (rw [decide_eq_true (show n = 16 by have := mt (nlt_iff (a := n) (b := 16) (by omega) (by decide)).mpr c6; omega)]; rfl) | (rw [decide_eq_false (show ¬ n = 16 by have := (nlt_iff (a := n) (b := 16) (by omega) (by decide)).mp c6; omega)]; rfl)), rfl⟩
set_option maxHeartbeats 4000000 in
set_option maxRecDepth 100000 in
theorem S_X7_put (X : En) (l : Launch) {h : Hp} {t : FI} {n : Nat} (O15 : h 15 = some (toB t n)) (hn : n < 16) {v : Int32} : Ct X l mX7_put [aR 15 0, aI v] h (QI (PI1 (nI (n + 1)) h (15) (toB (va_up t n v) (n + 1)))) := by
  have hf : ∀ i, i ≠ 15 → h i = h i := fun _ _ => rfl
  refine Ct.intro [some (aR 15 0), some (aI v)] (by decide +kernel) rfl (Nat.le_of_ble_eq_true rfl) ?_
  refine A_aload_n 1 dX7_put_0 rfl rfl rfl ?_
  refine A_getfield 4 dX7_put_1 rfl f_X7_11 O15 rfl ?_
  refine A_aload_n 5 dX7_put_4 rfl rfl rfl ?_
  refine A_getfield 8 dX7_put_5 rfl f_X7_15 O15 rfl ?_
  refine A_iload_n 9 dX7_put_8 rfl rfl rfl ?_
  refine A_callNV 12 (S_X9_put_X7_0 X l (by first | assumption | decide | omega | exact Ne.symm (by assumption)) (by first | assumption | exact ix_nI (by omega) (by decide) | exact ix_lit _ rfl (by omega) (by decide) | exact ix_lit _ rfl (by decide) (by decide))) dX7_put_9 rfl kX9_put nk_X7_19 rfl (by decide) rfl (Nat.le_of_ble_eq_true rfl) (fun h_1 qh_1 => ?_)
  obtain ⟨n0h_1, eh_1⟩ := qh_1
  replace O15 := n0h_1
  replace hf : ∀ i, i ≠ 15 → h_1 i = h i := fun i g0 => (eh_1 i g0).trans (hf i g0)
  refine A_aload_n 13 dX7_put_12 rfl rfl rfl ?_
  refine A_dup 14 dX7_put_13 rfl rfl ?_
  refine A_getfield 17 dX7_put_14 rfl f_X7_15 O15 rfl ?_
  refine A_iconst 18 (1) dX7_put_17 rfl (by decide) ?_
  refine A_iadd 19 dX7_put_18 rfl ?_
  rw [n41]
  refine P_X7_1 22 dX7_put_19 rfl fw_X7_15 O15 (fun h_2 nh_2 eh_2 => ?_)
  replace O15 := nh_2
  replace hf : ∀ i, i ≠ 15 → h_2 i = h i := fun i g0 => (eh_2 i g0).trans (hf i g0)
  refine A_aload_n 23 dX7_put_22 rfl rfl rfl ?_
  refine A_getfield 26 dX7_put_23 rfl f_X7_15 O15 rfl ?_
  refine A_iret dX7_put_26 rfl ⟨_, rfl, (by first | with_reducible rfl | (simp only [if_true, if_false, ite_true, ite_false, and_true, true_and, and_false, false_and, and_self, or_true, true_or, or_false, false_or, or_self, not_true_eq_false, not_false_eq_true, decide_true, decide_false, Bool.and_true, Bool.true_and, Bool.and_false, Bool.false_and, Bool.and_self, Bool.or_true, Bool.true_or, Bool.or_false, Bool.false_or, Bool.not_true, Bool.not_false, cond_true, cond_false, bI_t, bI_f, Bool.false_eq_true, Bool.true_eq_false, dayC_1, dayC_21, dayC_221, dayC_222]; done) | (simp only [*]; done) | (simp [bI, *]; done) | with_reducible_and_instances rfl), O15, hf⟩
set_option maxHeartbeats 4000000 in
set_option maxRecDepth 100000 in
theorem S_X7_wipe (X : En) (l : Launch) {h : Hp} {t : FI} {n : Nat} (O15 : h 15 = some (toB t n)) : Ct X l mX7_wipe [aR 15 0] h (QI (PI1 (nI n) h (15) (toB t 0))) := by
  have hf : ∀ i, i ≠ 15 → h i = h i := fun _ _ => rfl
  refine Ct.intro [some (aR 15 0), none] (by decide +kernel) rfl (Nat.le_of_ble_eq_true rfl) ?_
  refine A_aload_n 1 dX7_wipe_0 rfl rfl rfl ?_
  refine A_getfield 4 dX7_wipe_1 rfl f_X7_15 O15 rfl ?_
  refine A_istore_n 5 dX7_wipe_4 rfl rfl (by decide) (by first | exact (ast_1 rfl) | exact ast_k) ?_
  refine A_aload_n 6 dX7_wipe_5 rfl rfl rfl ?_
  refine A_iconst 7 (0) dX7_wipe_6 rfl (by decide) ?_
  refine P_X7_1 10 dX7_wipe_7 rfl fw_X7_15 O15 (fun h_1 nh_1 eh_1 => ?_)
  replace O15 := nh_1
  replace hf : ∀ i, i ≠ 15 → h_1 i = h i := fun i g0 => (eh_1 i g0).trans (hf i g0)
  refine A_iload_n 11 dX7_wipe_10 rfl rfl rfl ?_
  refine A_iret dX7_wipe_11 rfl ⟨_, rfl, (by first | with_reducible rfl | (simp only [if_true, if_false, ite_true, ite_false, and_true, true_and, and_false, false_and, and_self, or_true, true_or, or_false, false_or, or_self, not_true_eq_false, not_false_eq_true, decide_true, decide_false, Bool.and_true, Bool.true_and, Bool.and_false, Bool.false_and, Bool.and_self, Bool.or_true, Bool.true_or, Bool.or_false, Bool.false_or, Bool.not_true, Bool.not_false, cond_true, cond_false, bI_t, bI_f, Bool.false_eq_true, Bool.true_eq_false, dayC_1, dayC_21, dayC_221, dayC_222]; done) | (simp only [*]; done) | (simp [bI, *]; done) | with_reducible_and_instances rfl), O15, hf⟩
set_option maxHeartbeats 4000000 in
set_option maxRecDepth 100000 in
theorem S_X7_isOfLaws (X : En) (l : Launch) {h : Hp} {t : FI} {n : Nat} (O15 : h 15 = some (toB t n)) {w : Nat} {x : PW} (Ow : h w = some (wB w x)) (hn : n ≤ 16) (hl : x.2.2.1 ≤ 10) : Ct X l mX7_isOfLaws [aR 15 0, aR w 0] h (QI (PI0 (bI (rowOK t n x.2.2.1)) h)) := by
  refine Ct.intro [some (aR 15 0), some (aR w 0), none, none] (by decide +kernel) rfl (Nat.le_of_ble_eq_true rfl) ?_
  refine A_aload_n 1 dX7_isOfLaws_0 rfl rfl rfl ?_
  refine A_getfield 4 dX7_isOfLaws_1 rfl f_X7_15 O15 rfl ?_
  refine A_bipush 6 (12) dX7_isOfLaws_4 rfl (by decide) ?_
  refine A_icmp_le 11 9 dX7_isOfLaws_6 (by decide) rfl (fun c6 => ?_) (fun c6 => ?_)
  · skip
    try simp only [bI_0, bI_n0, Classical.not_not, Bool.not_eq_false, Bool.true_and, Bool.and_true, decide_eq_true_eq, decide_eq_false_iff_not, dayC_1, dayC_21, dayC_221, dayC_222] at c6
    have n6 := c6
    replace c6 := Int32.not_lt.mpr c6
    have q12 : n ≤ 12 := by
      have q := mt (nlt_iff (a := 12) (b := n) (by decide) (by omega)).mpr c6
      omega
    refine A_iconst 12 (0) dX7_isOfLaws_11 rfl (by decide) ?_
    refine A_istore_n 13 dX7_isOfLaws_12 rfl rfl (by decide) (by first | exact (ast_s (ast_1 rfl)) | exact (ast_s ast_k)) ?_
    have L13 : ∀ (nq k : Nat)  , (nq + k = n) → (allN (lawQ t x.2.2.1) k = true) → Av X l mX7_isOfLaws 13 [some (aR 15 0), some (aR w 0), some (aI (nI (k))), none] [] h (QI (PI0 (bI (rowOK t n x.2.2.1)) h)) := by
      intro nq
      induction nq using Nat.strongRecOn with
      | _ nq ih =>
      intro k en ee
      refine A_iload_n 14 dX7_isOfLaws_13 rfl rfl rfl ?_
      refine A_aload_n 15 dX7_isOfLaws_14 rfl rfl rfl ?_
      refine A_getfield 18 dX7_isOfLaws_15 rfl f_X7_15 O15 rfl ?_
      refine A_icmp_ge 52 21 dX7_isOfLaws_18 (by decide) rfl (fun c18 => ?_) (fun c18 => ?_)
      · skip
        obtain rfl := (up_ge_T (N := n) c18 rfl (by omega) (by omega)).symm
        refine A_iconst 53 (1) dX7_isOfLaws_52 rfl (by decide) ?_
        refine A_zret dX7_isOfLaws_53 rfl (by first | with_reducible exact bI01 _ | with_reducible exact Or.inl rfl | with_reducible exact Or.inr rfl | assumption) ⟨_, rfl, (by rw [show rowOK t n x.2.2.1 = true from by simp [rowOK, q12, ee]]; rfl), rfl⟩
      · skip
        have hi := up_ge_F (N := n) c18 rfl (by omega) (by omega)
        obtain ⟨n0, rfl⟩ : ∃ q, nq = q + 1 := ⟨nq - 1, by omega⟩
        refine A_aload_n 22 dX7_isOfLaws_21 rfl rfl rfl ?_
        refine A_getfield 25 dX7_isOfLaws_22 rfl f_X7_11 O15 rfl ?_
        refine A_iload_n 26 dX7_isOfLaws_25 rfl rfl rfl ?_
        refine A_callNI 29 (S_X9_cell_X7_0 X l (by first | assumption | decide | omega | exact Ne.symm (by assumption)) (by first | assumption | exact ix_nI (by omega) (by decide) | exact ix_lit _ rfl (by omega) (by decide) | exact ix_lit _ rfl (by decide) (by decide))) dX7_isOfLaws_26 rfl kX9_cell nk_X7_23 rfl (by decide) rfl (Nat.le_of_ble_eq_true rfl) (fun v_1 h_1 qh_1 => ?_)
        obtain ⟨rfl, rfl⟩ := qh_1
        refine A_istore_n 30 dX7_isOfLaws_29 rfl rfl (by decide) (by first | exact (ast_s (ast_s (ast_1 rfl))) | exact (ast_s (ast_s ast_k))) ?_
        refine A_iload_n 31 dX7_isOfLaws_30 rfl rfl rfl ?_
        refine A_bipush 33 (99) dX7_isOfLaws_31 rfl (by decide) ?_
        refine A_icmp_eq 46 36 dX7_isOfLaws_33 (by decide) rfl (fun c33 => ?_) (fun c33 => ?_)
        · skip
          try simp only [bI_0, bI_n0, Classical.not_not, Bool.not_eq_false, Bool.true_and, Bool.and_true, decide_eq_true_eq, decide_eq_false_iff_not, dayC_1, dayC_21, dayC_221, dayC_222] at c33
          first | refine A_iincN 49 dX7_isOfLaws_46 rfl rfl (by decide) (by first | exact (ast_s (ast_1 rfl)) | exact (ast_s ast_k)) ?_ | refine A_iinc 49 (1) dX7_isOfLaws_46 rfl rfl (by decide) (by decide) (by first | exact (ast_s (ast_1 rfl)) | exact (ast_s ast_k)) ?_
          refine A_goto 13 dX7_isOfLaws_49 (by decide) ?_
          exact A_weak (ih n0 (Nat.lt_succ_self n0) (k + 1)   (by omega) (by simp_all [allN, lawQ]) ) (sub_s (sub_s (sub_s (sub_n sub_nil))))
        · skip
          try simp only [bI_0, bI_n0, Classical.not_not, Bool.not_eq_false, Bool.true_and, Bool.and_true, decide_eq_true_eq, decide_eq_false_iff_not, dayC_1, dayC_21, dayC_221, dayC_222] at c33
          refine A_aload_n 37 dX7_isOfLaws_36 rfl rfl rfl ?_
          refine A_iload_n 38 dX7_isOfLaws_37 rfl rfl rfl ?_
          refine A_callVI 41 (S_X8_isLaw X l (by first | assumption | decide | omega | exact Ne.symm (by assumption))) dX7_isOfLaws_38 rfl kX8_isLaw lk_X7_27 rfl Ow (by decide) rfl (Nat.le_of_ble_eq_true rfl) (fun v_2 h_2 qh_2 => ?_)
          obtain ⟨rfl, rfl⟩ := qh_2
          refine A_if_ne 46 44 dX7_isOfLaws_41 (by decide) rfl (fun c41 => ?_) (fun c41 => ?_)
          · skip
            try simp only [bI_0, bI_n0, Classical.not_not, Bool.not_eq_false, Bool.true_and, Bool.and_true, decide_eq_true_eq, decide_eq_false_iff_not, dayC_1, dayC_21, dayC_221, dayC_222] at c41
            first | refine A_iincN 49 dX7_isOfLaws_46 rfl rfl (by decide) (by first | exact (ast_s (ast_1 rfl)) | exact (ast_s ast_k)) ?_ | refine A_iinc 49 (1) dX7_isOfLaws_46 rfl rfl (by decide) (by decide) (by first | exact (ast_s (ast_1 rfl)) | exact (ast_s ast_k)) ?_
            refine A_goto 13 dX7_isOfLaws_49 (by decide) ?_
            exact A_weak (ih n0 (Nat.lt_succ_self n0) (k + 1)   (by omega) (by simp_all [allN, lawQ]) ) (sub_s (sub_s (sub_s (sub_n sub_nil))))
          · skip
            try simp only [bI_0, bI_n0, Classical.not_not, Bool.not_eq_false, Bool.true_and, Bool.and_true, decide_eq_true_eq, decide_eq_false_iff_not, dayC_1, dayC_21, dayC_221, dayC_222] at c41
            refine A_iconst 45 (0) dX7_isOfLaws_44 rfl (by decide) ?_
            refine A_zret dX7_isOfLaws_45 rfl (by first | with_reducible exact bI01 _ | with_reducible exact Or.inl rfl | with_reducible exact Or.inr rfl | assumption) ⟨_, rfl, (by rw [show rowOK t n x.2.2.1 = false from by rw [rowOK, allN_no hi (by simp_all [lawQ]), Bool.and_false]]; rfl), rfl⟩
    exact A_weak (L13 (n) (0)   (by omega) (rfl) ) (sub_s (sub_s (sub_s (sub_n sub_nil))))
  · skip
    try simp only [bI_0, bI_n0, Classical.not_not, Bool.not_eq_false, Bool.true_and, Bool.and_true, decide_eq_true_eq, decide_eq_false_iff_not, dayC_1, dayC_21, dayC_221, dayC_222] at c6
    have n6 := c6
    replace c6 := Int32.not_le.mp c6
    have q12 : ¬ n ≤ 12 := by
      have q := (nlt_iff (a := 12) (b := n) (by decide) (by omega)).mp c6
      omega
    refine A_iconst 10 (0) dX7_isOfLaws_9 rfl (by decide) ?_
    refine A_zret dX7_isOfLaws_10 rfl (by first | with_reducible exact bI01 _ | with_reducible exact Or.inl rfl | with_reducible exact Or.inr rfl | assumption) ⟨_, rfl, (by simp [rowOK, q12]; rfl), rfl⟩
set_option maxHeartbeats 4000000 in
set_option maxRecDepth 100000 in
theorem S_X7_firstWrong (X : En) (l : Launch) {h : Hp} {t : FI} {n : Nat} (O15 : h 15 = some (toB t n)) {c : Nat} {y : PC} (Oc : h c = some (cB c y)) (hn : n ≤ 16) : Ct X l mX7_firstWrong [aR 15 0, aR c 0] h (QI (PI0 (FW t n y.1) h)) := by
  refine Ct.intro [some (aR 15 0), some (aR c 0), none, none] (by decide +kernel) rfl (Nat.le_of_ble_eq_true rfl) ?_
  refine A_iconst 1 (0) dX7_firstWrong_0 rfl (by decide) ?_
  refine A_istore_n 2 dX7_firstWrong_1 rfl rfl (by decide) (by first | exact (ast_s (ast_1 rfl)) | exact (ast_s ast_k)) ?_
  have L2 : ∀ (nq k : Nat)  , (nq + k = n) → (fwN t y.1 nq k = FW t n y.1) → Av X l mX7_firstWrong 2 [some (aR 15 0), some (aR c 0), some (aI (nI (k))), none] [] h (QI (PI0 (FW t n y.1) h)) := by
    intro nq
    induction nq using Nat.strongRecOn with
    | _ nq ih =>
    intro k en ee
    refine A_iload_n 3 dX7_firstWrong_2 rfl rfl rfl ?_
    refine A_aload_n 4 dX7_firstWrong_3 rfl rfl rfl ?_
    refine A_getfield 7 dX7_firstWrong_4 rfl f_X7_15 O15 rfl ?_
    refine A_icmp_ge 55 10 dX7_firstWrong_7 (by decide) rfl (fun c7 => ?_) (fun c7 => ?_)
    · skip
      obtain rfl := (up_ge_T (N := n) c7 rfl (by omega) (by omega)).symm
      refine A_bipush 57 (-9) dX7_firstWrong_55 rfl (by decide) ?_
      refine A_iret dX7_firstWrong_57 rfl ⟨_, rfl, (by rw [← ee, show nq = 0 by omega]; rfl), rfl⟩
    · skip
      have hi := up_ge_F (N := n) c7 rfl (by omega) (by omega)
      obtain ⟨n0, rfl⟩ : ∃ q, nq = q + 1 := ⟨nq - 1, by omega⟩
      refine A_iload_n 11 dX7_firstWrong_10 rfl rfl rfl ?_
      refine A_bipush 13 (12) dX7_firstWrong_11 rfl (by decide) ?_
      refine A_icmp_lt 18 16 dX7_firstWrong_13 (by decide) rfl (fun c13 => ?_) (fun c13 => ?_)
      · skip
        try simp only [bI_0, bI_n0, Classical.not_not, Bool.not_eq_false, Bool.true_and, Bool.and_true, decide_eq_true_eq, decide_eq_false_iff_not, dayC_1, dayC_21, dayC_221, dayC_222] at c13
        have n13 := Int32.not_le.mpr c13
        have k12 : ¬ 12 ≤ k := by
          have q := (nlt_iff (b := 12) (by omega) (by decide)).mp c13
          omega
        refine A_aload_n 19 dX7_firstWrong_18 rfl rfl rfl ?_
        refine A_iload_n 20 dX7_firstWrong_19 rfl rfl rfl ?_
        refine A_callVI 23 (S_X1_lawIn X l (by first | assumption | decide | omega | exact Ne.symm (by assumption)) (by first | assumption | decide | omega | exact Ne.symm (by assumption))) dX7_firstWrong_20 rfl kX1_lawIn lk_X7_33 rfl Oc (by decide) rfl (Nat.le_of_ble_eq_true rfl) (fun v_1 h_1 qh_1 => ?_)
        obtain ⟨rfl, rfl⟩ := qh_1
        refine A_istore_n 24 dX7_firstWrong_23 rfl rfl (by decide) (by first | exact (ast_s (ast_s (ast_1 rfl))) | exact (ast_s (ast_s ast_k))) ?_
        refine A_aload_n 25 dX7_firstWrong_24 rfl rfl rfl ?_
        refine A_getfield 28 dX7_firstWrong_25 rfl f_X7_11 O15 rfl ?_
        refine A_iload_n 29 dX7_firstWrong_28 rfl rfl rfl ?_
        refine A_callNI 32 (S_X9_cell_X7_0 X l (by first | assumption | decide | omega | exact Ne.symm (by assumption)) (by first | assumption | exact ix_nI (by omega) (by decide) | exact ix_lit _ rfl (by omega) (by decide) | exact ix_lit _ rfl (by decide) (by decide))) dX7_firstWrong_29 rfl kX9_cell nk_X7_23 rfl (by decide) rfl (Nat.le_of_ble_eq_true rfl) (fun v_2 h_2 qh_2 => ?_)
        obtain ⟨rfl, rfl⟩ := qh_2
        refine A_iload_n 33 dX7_firstWrong_32 rfl rfl rfl ?_
        refine A_bipush 35 (-9) dX7_firstWrong_33 rfl (by decide) ?_
        refine A_icmp_ne 43 38 dX7_firstWrong_35 (by decide) rfl (fun c35 => ?_) (fun c35 => ?_)
        · skip
          try simp only [bI_0, bI_n0, Classical.not_not, Bool.not_eq_false, Bool.true_and, Bool.and_true, decide_eq_true_eq, decide_eq_false_iff_not, dayC_1, dayC_21, dayC_221, dayC_222] at c35
          refine A_iload_n 44 dX7_firstWrong_43 rfl rfl rfl ?_
          refine A_icmp_eq 49 47 dX7_firstWrong_44 (by decide) rfl (fun c44 => ?_) (fun c44 => ?_)
          · skip
            try simp only [bI_0, bI_n0, Classical.not_not, Bool.not_eq_false, Bool.true_and, Bool.and_true, decide_eq_true_eq, decide_eq_false_iff_not, dayC_1, dayC_21, dayC_221, dayC_222] at c44
            first | refine A_iincN 52 dX7_firstWrong_49 rfl rfl (by decide) (by first | exact (ast_s (ast_1 rfl)) | exact (ast_s ast_k)) ?_ | refine A_iinc 52 (1) dX7_firstWrong_49 rfl rfl (by decide) (by decide) (by first | exact (ast_s (ast_1 rfl)) | exact (ast_s ast_k)) ?_
            refine A_goto 2 dX7_firstWrong_52 (by decide) ?_
            exact A_weak (ih n0 (Nat.lt_succ_self n0) (k + 1)   (by omega) ((by rw [fwN_s, if_neg (not_or.mpr ⟨k12, fun z => z (by simp_all [tell])⟩)] : fwN t y.1 (n0 + 1) k = fwN t y.1 n0 (k + 1)).symm.trans ee) ) (sub_s (sub_s (sub_s (sub_n sub_nil))))
          · skip
            try simp only [bI_0, bI_n0, Classical.not_not, Bool.not_eq_false, Bool.true_and, Bool.and_true, decide_eq_true_eq, decide_eq_false_iff_not, dayC_1, dayC_21, dayC_221, dayC_222] at c44
            refine A_iload_n 48 dX7_firstWrong_47 rfl rfl rfl ?_
            refine A_iret dX7_firstWrong_48 rfl ⟨_, rfl, (by rw [← ee, fwN_s, if_pos (Or.inr (by simp_all [tell]))]), rfl⟩
        · skip
          try simp only [bI_0, bI_n0, Classical.not_not, Bool.not_eq_false, Bool.true_and, Bool.and_true, decide_eq_true_eq, decide_eq_false_iff_not, dayC_1, dayC_21, dayC_221, dayC_222] at c35
          refine A_bipush 40 (99) dX7_firstWrong_38 rfl (by decide) ?_
          refine A_goto 44 dX7_firstWrong_40 (by decide) ?_
          refine A_icmp_eq 49 47 dX7_firstWrong_44 (by decide) rfl (fun c44 => ?_) (fun c44 => ?_)
          · skip
            try simp only [bI_0, bI_n0, Classical.not_not, Bool.not_eq_false, Bool.true_and, Bool.and_true, decide_eq_true_eq, decide_eq_false_iff_not, dayC_1, dayC_21, dayC_221, dayC_222] at c44
            first | refine A_iincN 52 dX7_firstWrong_49 rfl rfl (by decide) (by first | exact (ast_s (ast_1 rfl)) | exact (ast_s ast_k)) ?_ | refine A_iinc 52 (1) dX7_firstWrong_49 rfl rfl (by decide) (by decide) (by first | exact (ast_s (ast_1 rfl)) | exact (ast_s ast_k)) ?_
            refine A_goto 2 dX7_firstWrong_52 (by decide) ?_
            exact A_weak (ih n0 (Nat.lt_succ_self n0) (k + 1)   (by omega) ((by rw [fwN_s, if_neg (not_or.mpr ⟨k12, fun z => z (by simp_all [tell])⟩)] : fwN t y.1 (n0 + 1) k = fwN t y.1 n0 (k + 1)).symm.trans ee) ) (sub_s (sub_s (sub_s (sub_n sub_nil))))
          · skip
            try simp only [bI_0, bI_n0, Classical.not_not, Bool.not_eq_false, Bool.true_and, Bool.and_true, decide_eq_true_eq, decide_eq_false_iff_not, dayC_1, dayC_21, dayC_221, dayC_222] at c44
            refine A_iload_n 48 dX7_firstWrong_47 rfl rfl rfl ?_
            refine A_iret dX7_firstWrong_48 rfl ⟨_, rfl, (by rw [← ee, fwN_s, if_pos (Or.inr (by simp_all [tell]))]), rfl⟩
      · skip
        try simp only [bI_0, bI_n0, Classical.not_not, Bool.not_eq_false, Bool.true_and, Bool.and_true, decide_eq_true_eq, decide_eq_false_iff_not, dayC_1, dayC_21, dayC_221, dayC_222] at c13
        have n13 := Int32.not_lt.mp c13
        have k12 : 12 ≤ k := by
          have q := mt (nlt_iff (b := 12) (by omega) (by decide)).mpr c13
          omega
        refine A_iload_n 17 dX7_firstWrong_16 rfl rfl rfl ?_
        refine A_iret dX7_firstWrong_17 rfl ⟨_, rfl, (by rw [← ee, fwN_s, if_pos (Or.inl k12)]), rfl⟩
  exact A_weak (L2 (n) (0)   (by omega) (rfl) ) (sub_s (sub_s (sub_s (sub_n sub_nil))))
set_option maxHeartbeats 4000000 in
set_option maxRecDepth 100000 in
theorem S_X3_howMany (X : En) (l : Launch) {h : Hp} {g : FI} {q : Nat} (O17 : h 17 = some (guB g q)) : Ct X l mX3_howMany [aR 17 0] h (QI (PI0 (nI q) h)) := by
  refine Ct.intro [some (aR 17 0)] (by decide +kernel) rfl (Nat.le_of_ble_eq_true rfl) ?_
  refine A_aload_n 1 dX3_howMany_0 rfl rfl rfl ?_
  refine A_getfield 4 dX3_howMany_1 rfl f_X3_22 O17 rfl ?_
  refine A_iret dX3_howMany_4 rfl ⟨_, rfl, (by first | with_reducible rfl | (simp only [if_true, if_false, ite_true, ite_false, and_true, true_and, and_false, false_and, and_self, or_true, true_or, or_false, false_or, or_self, not_true_eq_false, not_false_eq_true, decide_true, decide_false, Bool.and_true, Bool.true_and, Bool.and_false, Bool.false_and, Bool.and_self, Bool.or_true, Bool.true_or, Bool.or_false, Bool.false_or, Bool.not_true, Bool.not_false, cond_true, cond_false, bI_t, bI_f, Bool.false_eq_true, Bool.true_eq_false, dayC_1, dayC_21, dayC_221, dayC_222]; done) | (simp only [*]; done) | (simp [bI, *]; done) | with_reducible_and_instances rfl), rfl⟩
set_option maxHeartbeats 4000000 in
set_option maxRecDepth 100000 in
theorem S_X3_least (X : En) (l : Launch) {h : Hp} {g : FI} {q : Nat} (O17 : h 17 = some (guB g q)) (hq : q ≤ 256) : Ct X l mX3_least [aR 17 0] h (QI (PI0 (if q = 0 then -9 else g 0) h)) := by
  refine Ct.intro [some (aR 17 0)] (by decide +kernel) rfl (Nat.le_of_ble_eq_true rfl) ?_
  refine A_aload_n 1 dX3_least_0 rfl rfl rfl ?_
  refine A_getfield 4 dX3_least_1 rfl f_X3_22 O17 rfl ?_
  refine A_if_ne 12 7 dX3_least_4 (by decide) rfl (fun c4 => ?_) (fun c4 => ?_)
  · skip
    try simp only [bI_0, bI_n0, Classical.not_not, Bool.not_eq_false, Bool.true_and, Bool.and_true, decide_eq_true_eq, decide_eq_false_iff_not, dayC_1, dayC_21, dayC_221, dayC_222] at c4
    have q0 : ¬ q = 0 := fun z => c4 (by rw [z]; rfl)
    refine A_aload_n 13 dX3_least_12 rfl rfl rfl ?_
    refine A_getfield 16 dX3_least_13 rfl f_X3_9 O17 rfl ?_
    refine A_iconst 17 (0) dX3_least_16 rfl (by decide) ?_
    refine A_callNI 20 (S_X9_cell_X3_0 X l (by first | assumption | decide | omega | exact Ne.symm (by assumption)) (by first | assumption | exact ix_nI (by omega) (by decide) | exact ix_lit _ rfl (by omega) (by decide) | exact ix_lit _ rfl (by decide) (by decide))) dX3_least_17 rfl kX9_cell nk_X3_40 rfl (by decide) rfl (Nat.le_of_ble_eq_true rfl) (fun v_1 h_1 qh_1 => ?_)
    obtain ⟨rfl, rfl⟩ := qh_1
    refine A_iret dX3_least_20 rfl ⟨_, rfl, (by first | with_reducible rfl | (simp only [c4, if_true, if_false, ite_true, ite_false, and_true, true_and, and_false, false_and, and_self, or_true, true_or, or_false, false_or, or_self, not_true_eq_false, not_false_eq_true, decide_true, decide_false, Bool.and_true, Bool.true_and, Bool.and_false, Bool.false_and, Bool.and_self, Bool.or_true, Bool.true_or, Bool.or_false, Bool.false_or, Bool.not_true, Bool.not_false, cond_true, cond_false, bI_t, bI_f, Bool.false_eq_true, Bool.true_eq_false, dayC_1, dayC_21, dayC_221, dayC_222]; done) | (simp only [*]; done) | (simp [bI, *]; done) | with_reducible_and_instances rfl), rfl⟩
  · skip
    try simp only [bI_0, bI_n0, Classical.not_not, Bool.not_eq_false, Bool.true_and, Bool.and_true, decide_eq_true_eq, decide_eq_false_iff_not, dayC_1, dayC_21, dayC_221, dayC_222] at c4
    have q0 : q = 0 := by
      by_cases z : q = 0
      · exact z
      · exact absurd ((ninj (b := 0) (by omega) (by decide)).mp c4) z
    refine A_bipush 9 (-9) dX3_least_7 rfl (by decide) ?_
    refine A_goto 20 dX3_least_9 (by decide) ?_
    refine A_iret dX3_least_20 rfl ⟨_, rfl, (by first | with_reducible rfl | (simp only [c4, if_true, if_false, ite_true, ite_false, and_true, true_and, and_false, false_and, and_self, or_true, true_or, or_false, false_or, or_self, not_true_eq_false, not_false_eq_true, decide_true, decide_false, Bool.and_true, Bool.true_and, Bool.and_false, Bool.false_and, Bool.and_self, Bool.or_true, Bool.true_or, Bool.or_false, Bool.false_or, Bool.not_true, Bool.not_false, cond_true, cond_false, bI_t, bI_f, Bool.false_eq_true, Bool.true_eq_false, dayC_1, dayC_21, dayC_221, dayC_222]; done) | (simp only [eq_true c4, if_true, if_false, ite_true, ite_false, and_true, true_and, and_false, false_and, and_self, or_true, true_or, or_false, false_or, or_self, not_true_eq_false, not_false_eq_true, decide_true, decide_false, Bool.and_true, Bool.true_and, Bool.and_false, Bool.false_and, Bool.and_self, Bool.or_true, Bool.true_or, Bool.or_false, Bool.false_or, Bool.not_true, Bool.not_false, cond_true, cond_false, bI_t, bI_f, Bool.false_eq_true, Bool.true_eq_false, dayC_1, dayC_21, dayC_221, dayC_222]; done) | (simp only [*]; done) | (simp [bI, *]; done) | with_reducible_and_instances rfl), rfl⟩
set_option maxHeartbeats 4000000 in
set_option maxRecDepth 100000 in
theorem S_X3_howManyWith (X : En) (l : Launch) {h : Hp} {g : FI} {q : Nat} (O17 : h 17 = some (guB g q)) (hq : q ≤ 256) {c : Int32} : Ct X l mX3_howManyWith [aR 17 0, aI c] h (QI (PI0 (HW g q c) h)) := by
  refine Ct.intro [some (aR 17 0), some (aI c), none, none] (by decide +kernel) rfl (Nat.le_of_ble_eq_true rfl) ?_
  refine A_iconst 1 (0) dX3_howManyWith_0 rfl (by decide) ?_
  refine A_istore_n 2 dX3_howManyWith_1 rfl rfl (by decide) (by first | exact (ast_s (ast_1 rfl)) | exact (ast_s ast_k)) ?_
  refine A_iconst 3 (0) dX3_howManyWith_2 rfl (by decide) ?_
  refine A_istore_n 4 dX3_howManyWith_3 rfl rfl (by decide) (by first | exact (ast_s (ast_s (ast_1 rfl))) | exact (ast_s (ast_s ast_k))) ?_
  have L4 : ∀ (nq i : Nat) (u : Int32) , (nq + i = q) → (foldN (hwF g c) (0) i = (u)) → Av X l mX3_howManyWith 4 [some (aR 17 0), some (aI (c)), some (aI (u)), some (aI (nI (i)))] [] h (QI (PI0 (HW g q c) h)) := by
    intro nq
    induction nq using Nat.strongRecOn with
    | _ nq ih =>
    intro i u en ee
    refine A_iload_n 5 dX3_howManyWith_4 rfl rfl rfl ?_
    refine A_aload_n 6 dX3_howManyWith_5 rfl rfl rfl ?_
    refine A_getfield 9 dX3_howManyWith_6 rfl f_X3_22 O17 rfl ?_
    refine A_icmp_ge 36 12 dX3_howManyWith_9 (by decide) rfl (fun c9 => ?_) (fun c9 => ?_)
    · skip
      obtain rfl := (up_ge_T (N := q) c9 rfl (by omega) (by omega)).symm
      refine A_iload_n 37 dX3_howManyWith_36 rfl rfl rfl ?_
      refine A_iret dX3_howManyWith_37 rfl ⟨_, rfl, (by unfold HW; rw [ee]), rfl⟩
    · skip
      have hi := up_ge_F (N := q) c9 rfl (by omega) (by omega)
      obtain ⟨n0, rfl⟩ : ∃ q, nq = q + 1 := ⟨nq - 1, by omega⟩
      refine A_aload_n 13 dX3_howManyWith_12 rfl rfl rfl ?_
      refine A_getfield 16 dX3_howManyWith_13 rfl f_X3_9 O17 rfl ?_
      refine A_iload_n 17 dX3_howManyWith_16 rfl rfl rfl ?_
      refine A_callNI 20 (S_X9_cell_X3_0 X l (by first | assumption | decide | omega | exact Ne.symm (by assumption)) (by first | assumption | exact ix_nI (by omega) (by decide) | exact ix_lit _ rfl (by omega) (by decide) | exact ix_lit _ rfl (by decide) (by decide))) dX3_howManyWith_17 rfl kX9_cell nk_X3_40 rfl (by decide) rfl (Nat.le_of_ble_eq_true rfl) (fun v_1 h_1 qh_1 => ?_)
      obtain ⟨rfl, rfl⟩ := qh_1
      refine A_iload_n 21 dX3_howManyWith_20 rfl rfl rfl ?_
      refine A_callNI 24 (S_X9_hasThing X l) dX3_howManyWith_21 rfl kX9_hasThing nk_X3_44 rfl (by decide) rfl (Nat.le_of_ble_eq_true rfl) (fun v_2 h_2 qh_2 => ?_)
      obtain ⟨rfl, rfl⟩ := qh_2
      refine A_if_eq 30 27 dX3_howManyWith_24 (by decide) rfl (fun c24 => ?_) (fun c24 => ?_)
      · skip
        try simp only [bI_0, bI_n0, Classical.not_not, Bool.not_eq_false, Bool.true_and, Bool.and_true, decide_eq_true_eq, decide_eq_false_iff_not, dayC_1, dayC_21, dayC_221, dayC_222] at c24
        first | refine A_iincN 33 dX3_howManyWith_30 rfl rfl (by decide) (by first | exact (ast_s (ast_s (ast_1 rfl))) | exact (ast_s (ast_s ast_k))) ?_ | refine A_iinc 33 (1) dX3_howManyWith_30 rfl rfl (by decide) (by decide) (by first | exact (ast_s (ast_s (ast_1 rfl))) | exact (ast_s (ast_s ast_k))) ?_
        refine A_goto 4 dX3_howManyWith_33 (by decide) ?_
        exact ih n0 (Nat.lt_succ_self n0) (i + 1) _  (by omega) ((foldN_s (hwF g c) (0) i).trans ((congrArg ((hwF g c) i) ee).trans (by first | with_reducible rfl | (simp only [c24, if_true, if_false, ite_true, ite_false, and_true, true_and, and_false, false_and, and_self, or_true, true_or, or_false, false_or, or_self, not_true_eq_false, not_false_eq_true, decide_true, decide_false, Bool.and_true, Bool.true_and, Bool.and_false, Bool.false_and, Bool.and_self, Bool.or_true, Bool.true_or, Bool.or_false, Bool.false_or, Bool.not_true, Bool.not_false, cond_true, cond_false, bI_t, bI_f, Bool.false_eq_true, Bool.true_eq_false, dayC_1, dayC_21, dayC_221, dayC_222, hwF]; done) | (simp [*, hwF]; done) | with_reducible_and_instances rfl))) 
      · skip
        try simp only [bI_0, bI_n0, Classical.not_not, Bool.not_eq_false, Bool.true_and, Bool.and_true, decide_eq_true_eq, decide_eq_false_iff_not, dayC_1, dayC_21, dayC_221, dayC_222] at c24
        first | refine A_iincN 30 dX3_howManyWith_27 rfl rfl (by decide) (by first | exact (ast_s (ast_1 rfl)) | exact (ast_s ast_k)) ?_ | refine A_iinc 30 (1) dX3_howManyWith_27 rfl rfl (by decide) (by decide) (by first | exact (ast_s (ast_1 rfl)) | exact (ast_s ast_k)) ?_
        first | refine A_iincN 33 dX3_howManyWith_30 rfl rfl (by decide) (by first | exact (ast_s (ast_s (ast_1 rfl))) | exact (ast_s (ast_s ast_k))) ?_ | refine A_iinc 33 (1) dX3_howManyWith_30 rfl rfl (by decide) (by decide) (by first | exact (ast_s (ast_s (ast_1 rfl))) | exact (ast_s (ast_s ast_k))) ?_
        refine A_goto 4 dX3_howManyWith_33 (by decide) ?_
        exact ih n0 (Nat.lt_succ_self n0) (i + 1) _  (by omega) ((foldN_s (hwF g c) (0) i).trans ((congrArg ((hwF g c) i) ee).trans (by first | with_reducible rfl | (simp only [c24, if_true, if_false, ite_true, ite_false, and_true, true_and, and_false, false_and, and_self, or_true, true_or, or_false, false_or, or_self, not_true_eq_false, not_false_eq_true, decide_true, decide_false, Bool.and_true, Bool.true_and, Bool.and_false, Bool.false_and, Bool.and_self, Bool.or_true, Bool.true_or, Bool.or_false, Bool.false_or, Bool.not_true, Bool.not_false, cond_true, cond_false, bI_t, bI_f, Bool.false_eq_true, Bool.true_eq_false, dayC_1, dayC_21, dayC_221, dayC_222, hwF]; done) | (simp [*, hwF]; done) | with_reducible_and_instances rfl))) 
  exact L4 (q) (0) (_)  (by omega) (rfl) 
set_option maxHeartbeats 4000000 in
set_option maxRecDepth 100000 in
theorem S_X3_lesserPart (X : En) (l : Launch) {h : Hp} {g : FI} {q : Nat} (O17 : h 17 = some (guB g q)) (hq : q ≤ 256) {c : Int32} : Ct X l mX3_lesserPart [aR 17 0, aI c] h (QI (PI0 (LpV g q c) h)) := by
  refine Ct.intro [some (aR 17 0), some (aI c), none] (by decide +kernel) rfl (Nat.le_of_ble_eq_true rfl) ?_
  refine A_aload_n 1 dX3_lesserPart_0 rfl rfl rfl ?_
  refine A_iload_n 2 dX3_lesserPart_1 rfl rfl rfl ?_
  refine A_callVI 5 (S_X3_howManyWith X l (by first | assumption | decide | omega | exact Ne.symm (by assumption)) (by first | assumption | decide | omega | exact Ne.symm (by assumption))) dX3_lesserPart_2 rfl kX3_howManyWith lk_X3_48 rfl O17 (by decide) rfl (Nat.le_of_ble_eq_true rfl) (fun v_1 h_1 qh_1 => ?_)
  obtain ⟨rfl, rfl⟩ := qh_1
  refine A_istore_n 6 dX3_lesserPart_5 rfl rfl (by decide) (by first | exact (ast_s (ast_1 rfl)) | exact (ast_s ast_k)) ?_
  refine A_iload_n 7 dX3_lesserPart_6 rfl rfl rfl ?_
  refine A_aload_n 8 dX3_lesserPart_7 rfl rfl rfl ?_
  refine A_getfield 11 dX3_lesserPart_8 rfl f_X3_22 O17 rfl ?_
  refine A_iload_n 12 dX3_lesserPart_11 rfl rfl rfl ?_
  refine A_isub 13 dX3_lesserPart_12 rfl ?_
  refine A_min 16 dX3_lesserPart_13 rfl lk_X3_52 mm_min_s mm_i mm_min_c ⟨by decide, Nat.le_of_ble_eq_true rfl⟩ ?_
  refine A_iret dX3_lesserPart_16 rfl ⟨_, rfl, (by rfl), rfl⟩
set_option maxHeartbeats 4000000 in
set_option maxRecDepth 100000 in
theorem S_X3_evenestThing (X : En) (l : Launch) {h : Hp} {g : FI} {q : Nat} (O17 : h 17 = some (guB g q)) (hq : q ≤ 256) : Ct X l mX3_evenestThing [aR 17 0] h (QI (PI0 (evT g q) h)) := by
  refine Ct.intro [some (aR 17 0), none, none] (by decide +kernel) rfl (Nat.le_of_ble_eq_true rfl) ?_
  refine A_aload_n 1 dX3_evenestThing_0 rfl rfl rfl ?_
  refine A_getfield 4 dX3_evenestThing_1 rfl f_X3_22 O17 rfl ?_
  refine A_if_ne 10 7 dX3_evenestThing_4 (by decide) rfl (fun c4 => ?_) (fun c4 => ?_)
  · skip
    try simp only [bI_0, bI_n0, Classical.not_not, Bool.not_eq_false, Bool.true_and, Bool.and_true, decide_eq_true_eq, decide_eq_false_iff_not, dayC_1, dayC_21, dayC_221, dayC_222] at c4
    have q0 : ¬ q = 0 := fun z => c4 (by rw [z]; rfl)
    refine A_iconst 11 (0) dX3_evenestThing_10 rfl (by decide) ?_
    refine A_istore_n 12 dX3_evenestThing_11 rfl rfl (by decide) (by first | exact (ast_1 rfl) | exact ast_k) ?_
    refine A_iconst 13 (1) dX3_evenestThing_12 rfl (by decide) ?_
    refine A_istore_n 14 dX3_evenestThing_13 rfl rfl (by decide) (by first | exact (ast_s (ast_1 rfl)) | exact (ast_s ast_k)) ?_
    have L14 : ∀ (nq i : Nat) (u : Int32) , (nq + i = 7) → (foldN (evF g q) (0) i = (u)) → Av X l mX3_evenestThing 14 [some (aR 17 0), some (aI (u)), some (aI (nI (i + 1)))] [] h (QI (PI0 (evT g q) h)) := by
      intro nq
      induction nq using Nat.strongRecOn with
      | _ nq ih =>
      intro i u en ee
      refine A_iload_n 15 dX3_evenestThing_14 rfl rfl rfl ?_
      refine A_bipush 17 (8) dX3_evenestThing_15 rfl (by decide) ?_
      refine A_icmp_ge 41 20 dX3_evenestThing_17 (by decide) rfl (fun c17 => ?_) (fun c17 => ?_)
      · skip
        have hi : i = 7 := by
          have q := (nle_iff (a := 8) (b := i + 1) (by decide) (by omega)).mp c17
          omega
        subst hi
        refine A_iload_n 42 dX3_evenestThing_41 rfl rfl rfl ?_
        refine A_iret dX3_evenestThing_42 rfl ⟨_, rfl, (by unfold evT; rw [if_neg q0, ee]), rfl⟩
      · skip
        have hi : i < 7 := by
          have q := mt (nle_iff (a := 8) (b := i + 1) (by decide) (by omega)).mpr c17
          omega
        obtain ⟨n0, rfl⟩ : ∃ q, nq = q + 1 := ⟨nq - 1, by omega⟩
        refine A_aload_n 21 dX3_evenestThing_20 rfl rfl rfl ?_
        refine A_iload_n 22 dX3_evenestThing_21 rfl rfl rfl ?_
        refine A_callVI 25 (S_X3_lesserPart X l (by first | assumption | decide | omega | exact Ne.symm (by assumption)) (by first | assumption | decide | omega | exact Ne.symm (by assumption))) dX3_evenestThing_22 rfl kX3_lesserPart lk_X3_58 rfl O17 (by decide) rfl (Nat.le_of_ble_eq_true rfl) (fun v_1 h_1 qh_1 => ?_)
        obtain ⟨rfl, rfl⟩ := qh_1
        refine A_aload_n 26 dX3_evenestThing_25 rfl rfl rfl ?_
        refine A_iload_n 27 dX3_evenestThing_26 rfl rfl rfl ?_
        refine A_callVI 30 (S_X3_lesserPart X l (by first | assumption | decide | omega | exact Ne.symm (by assumption)) (by first | assumption | decide | omega | exact Ne.symm (by assumption))) dX3_evenestThing_27 rfl kX3_lesserPart lk_X3_58 rfl O17 (by decide) rfl (Nat.le_of_ble_eq_true rfl) (fun v_2 h_2 qh_2 => ?_)
        obtain ⟨rfl, rfl⟩ := qh_2
        refine A_icmp_le 35 33 dX3_evenestThing_30 (by decide) rfl (fun c30 => ?_) (fun c30 => ?_)
        · skip
          try simp only [bI_0, bI_n0, Classical.not_not, Bool.not_eq_false, Bool.true_and, Bool.and_true, decide_eq_true_eq, decide_eq_false_iff_not, dayC_1, dayC_21, dayC_221, dayC_222] at c30
          have n30 := c30
          replace c30 := Int32.not_lt.mpr c30
          first | refine A_iincN 38 dX3_evenestThing_35 rfl rfl (by decide) (by first | exact (ast_s (ast_1 rfl)) | exact (ast_s ast_k)) ?_ | refine A_iinc 38 (1) dX3_evenestThing_35 rfl rfl (by decide) (by decide) (by first | exact (ast_s (ast_1 rfl)) | exact (ast_s ast_k)) ?_
          refine A_goto 14 dX3_evenestThing_38 (by decide) ?_
          exact ih n0 (Nat.lt_succ_self n0) (i + 1) _  (by omega) ((foldN_s (evF g q) (0) i).trans ((congrArg ((evF g q) i) ee).trans (by first | with_reducible rfl | (simp only [c4, c30, n30, if_true, if_false, ite_true, ite_false, and_true, true_and, and_false, false_and, and_self, or_true, true_or, or_false, false_or, or_self, not_true_eq_false, not_false_eq_true, decide_true, decide_false, Bool.and_true, Bool.true_and, Bool.and_false, Bool.false_and, Bool.and_self, Bool.or_true, Bool.true_or, Bool.or_false, Bool.false_or, Bool.not_true, Bool.not_false, cond_true, cond_false, bI_t, bI_f, Bool.false_eq_true, Bool.true_eq_false, dayC_1, dayC_21, dayC_221, dayC_222, evF]; done) | (simp [*, evF]; done) | with_reducible_and_instances rfl))) 
        · skip
          try simp only [bI_0, bI_n0, Classical.not_not, Bool.not_eq_false, Bool.true_and, Bool.and_true, decide_eq_true_eq, decide_eq_false_iff_not, dayC_1, dayC_21, dayC_221, dayC_222] at c30
          have n30 := c30
          replace c30 := Int32.not_le.mp c30
          refine A_iload_n 34 dX3_evenestThing_33 rfl rfl rfl ?_
          refine A_istore_n 35 dX3_evenestThing_34 rfl rfl (by decide) (by first | exact (ast_1 rfl) | exact ast_k) ?_
          first | refine A_iincN 38 dX3_evenestThing_35 rfl rfl (by decide) (by first | exact (ast_s (ast_1 rfl)) | exact (ast_s ast_k)) ?_ | refine A_iinc 38 (1) dX3_evenestThing_35 rfl rfl (by decide) (by decide) (by first | exact (ast_s (ast_1 rfl)) | exact (ast_s ast_k)) ?_
          refine A_goto 14 dX3_evenestThing_38 (by decide) ?_
          exact ih n0 (Nat.lt_succ_self n0) (i + 1) _  (by omega) ((foldN_s (evF g q) (0) i).trans ((congrArg ((evF g q) i) ee).trans (by first | with_reducible rfl | (simp only [c4, c30, n30, if_true, if_false, ite_true, ite_false, and_true, true_and, and_false, false_and, and_self, or_true, true_or, or_false, false_or, or_self, not_true_eq_false, not_false_eq_true, decide_true, decide_false, Bool.and_true, Bool.true_and, Bool.and_false, Bool.false_and, Bool.and_self, Bool.or_true, Bool.true_or, Bool.or_false, Bool.false_or, Bool.not_true, Bool.not_false, cond_true, cond_false, bI_t, bI_f, Bool.false_eq_true, Bool.true_eq_false, dayC_1, dayC_21, dayC_221, dayC_222, evF]; done) | (simp [*, evF]; done) | with_reducible_and_instances rfl))) 
    exact L14 (7) (0) (_)  (by omega) (rfl) 
  · skip
    try simp only [bI_0, bI_n0, Classical.not_not, Bool.not_eq_false, Bool.true_and, Bool.and_true, decide_eq_true_eq, decide_eq_false_iff_not, dayC_1, dayC_21, dayC_221, dayC_222] at c4
    have q0 : q = 0 := by
      by_cases z : q = 0
      · exact z
      · exact absurd ((ninj (b := 0) (by omega) (by decide)).mp c4) z
    refine A_bipush 9 (-9) dX3_evenestThing_7 rfl (by decide) ?_
    refine A_iret dX3_evenestThing_9 rfl ⟨_, rfl, (by unfold evT; rw [if_pos q0]), rfl⟩
set_option maxHeartbeats 4000000 in
set_option maxRecDepth 100000 in
theorem S_X0_mostStruck (X : En) (l : Launch) {h : Hp} {x : PW} {y : PC} (O21 : h 21 = some (alB)) (O22 : h 22 = some (cB 22 y)) (O1 : h 1 = some (wB 1 x)) (hx : LOK x) {p tk : Int32} : Ct X l mX0_mostStruck [aR 21 0, aR 1 0, aI p, aI tk] h (QI (fun vr h2 => (MS x p tk) = vr ∧ ∃ (y1 : PC), h2 (22) = some (cB 22 y1) ∧ ∀ i, i ≠ 22 → h2 i = h i)) := by
  have hf : ∀ i, i ≠ 22 → h i = h i := fun _ _ => rfl
  refine Ct.intro [some (aR 21 0), some (aR 1 0), some (aI p), some (aI tk), none, none, none] (by decide +kernel) rfl (Nat.le_of_ble_eq_true rfl) ?_
  refine A_iload_n 1 dX0_mostStruck_0 rfl rfl rfl ?_
  refine A_iload_n 2 dX0_mostStruck_1 rfl rfl rfl ?_
  refine A_callNI 5 (S_X9_thingBit X l) dX0_mostStruck_2 rfl kX9_thingBit nk_X0_53 rfl (by decide) rfl (Nat.le_of_ble_eq_true rfl) (fun v_1 h_1 qh_1 => ?_)
  obtain ⟨rfl, rfl⟩ := qh_1
  refine A_iconst 6 (-1) dX0_mostStruck_5 rfl (by decide) ?_
  refine A_ixor 7 dX0_mostStruck_6 rfl ?_
  refine A_iand 8 dX0_mostStruck_7 rfl ?_
  refine A_istore 10 dX0_mostStruck_8 rfl (by decide) (by first | exact (ast_s (ast_s (ast_s (ast_1 rfl)))) | exact (ast_s (ast_s (ast_s ast_k)))) ?_
  refine A_aload_n 11 dX0_mostStruck_10 rfl rfl rfl ?_
  refine A_getfield 14 dX0_mostStruck_11 rfl f_X0_12 O21 rfl ?_
  refine A_aload_n 15 dX0_mostStruck_14 rfl rfl rfl ?_
  refine A_iload 17 dX0_mostStruck_15 rfl rfl ?_
  refine A_callVI 20 (S_X1_countDone X l (by first | assumption | decide | omega | exact Ne.symm (by assumption)) (by first | assumption | decide | omega | exact Ne.symm (by assumption)) (by first | assumption | decide | omega | exact Ne.symm (by assumption)) (by first | assumption | decide | omega | exact Ne.symm (by assumption))) dX0_mostStruck_17 rfl kX1_countDone lk_X0_57 rfl O22 (by decide) rfl (Nat.le_of_ble_eq_true rfl) (fun v_2 h_2 qh_2 => ?_)
  obtain ⟨rfl, n0h_2, eh_2⟩ := qh_2
  replace O21 := (eh_2 _ (by decide)).trans O21
  replace O22 := n0h_2
  replace O1 := (eh_2 _ (by decide)).trans O1
  replace hf : ∀ i, i ≠ 22 → h_2 i = h i := fun i g0 => (eh_2 i g0).trans (hf i g0)
  refine A_istore 22 dX0_mostStruck_20 rfl (by decide) (by first | exact (ast_s (ast_s (ast_s (ast_s (ast_1 rfl))))) | exact (ast_s (ast_s (ast_s (ast_s ast_k))))) ?_
  refine A_iconst 23 (0) dX0_mostStruck_22 rfl (by decide) ?_
  refine A_istore 25 dX0_mostStruck_23 rfl (by decide) (by first | exact (ast_s (ast_s (ast_s (ast_s (ast_s (ast_1 rfl)))))) | exact (ast_s (ast_s (ast_s (ast_s (ast_s ast_k)))))) ?_
  have L25 : ∀ (nq i : Nat) (u : Int32) (g25 : Hp) (y0 : PC), (nq + i = 8) → (foldN (msF x p tk) (DN x (p &&& (tbI tk ^^^ (-1)))) i = (u)) → (g25 21 = some (alB)) → (g25 22 = some (cB 22 y0)) → (g25 1 = some (wB 1 x)) → (∀ i, i ≠ 22 → g25 i = h i) → Av X l mX0_mostStruck 25 [some (aR 21 0), some (aR 1 0), some (aI (p)), some (aI (tk)), some (aI (p &&& (tbI tk ^^^ (-1)))), some (aI (u)), some (aI (nI (i)))] [] g25 (QI (fun vr h2 => (MS x p tk) = vr ∧ ∃ (y1 : PC), h2 (22) = some (cB 22 y1) ∧ ∀ i, i ≠ 22 → h2 i = h i)) := by
    intro nq
    induction nq using Nat.strongRecOn with
    | _ nq ih =>
    intro i u g25 y0 en ee O21 O22 O1 hf
    refine A_iload 27 dX0_mostStruck_25 rfl rfl ?_
    refine A_bipush 29 (8) dX0_mostStruck_27 rfl (by decide) ?_
    refine A_icmp_ge 70 32 dX0_mostStruck_29 (by decide) rfl (fun c29 => ?_) (fun c29 => ?_)
    · skip
      obtain rfl := (up_ge_T (N := 8) c29 rfl (by omega) (by omega)).symm
      refine A_iload 72 dX0_mostStruck_70 rfl rfl ?_
      refine A_iret dX0_mostStruck_72 rfl ⟨_, rfl, (by unfold MS; rw [ee]), _, O22, hf⟩
    · skip
      have hi := up_ge_F (N := 8) c29 rfl (by omega) (by omega)
      obtain ⟨n0, rfl⟩ : ∃ q, nq = q + 1 := ⟨nq - 1, by omega⟩
      refine A_iload 34 dX0_mostStruck_32 rfl rfl ?_
      refine A_iload_n 35 dX0_mostStruck_34 rfl rfl rfl ?_
      refine A_icmp_ne 41 38 dX0_mostStruck_35 (by decide) rfl (fun c35 => ?_) (fun c35 => ?_)
      · skip
        try simp only [bI_0, bI_n0, Classical.not_not, Bool.not_eq_false, Bool.true_and, Bool.and_true, decide_eq_true_eq, decide_eq_false_iff_not, dayC_1, dayC_21, dayC_221, dayC_222] at c35
        refine A_iload 43 dX0_mostStruck_41 rfl rfl ?_
        refine A_aload_n 44 dX0_mostStruck_43 rfl rfl rfl ?_
        refine A_getfield 47 dX0_mostStruck_44 rfl f_X0_12 O21 rfl ?_
        refine A_aload_n 48 dX0_mostStruck_47 rfl rfl rfl ?_
        refine A_iload 50 dX0_mostStruck_48 rfl rfl ?_
        refine A_iload 52 dX0_mostStruck_50 rfl rfl ?_
        refine A_callNI 55 (S_X9_thingBit X l) dX0_mostStruck_52 rfl kX9_thingBit nk_X0_53 rfl (by decide) rfl (Nat.le_of_ble_eq_true rfl) (fun v_3 h_3 qh_3 => ?_)
        obtain ⟨rfl, rfl⟩ := qh_3
        refine A_ior 56 dX0_mostStruck_55 rfl ?_
        refine A_callVI 59 (S_X1_countDone X l (by first | assumption | decide | omega | exact Ne.symm (by assumption)) (by first | assumption | decide | omega | exact Ne.symm (by assumption)) (by first | assumption | decide | omega | exact Ne.symm (by assumption)) (by first | assumption | decide | omega | exact Ne.symm (by assumption))) dX0_mostStruck_56 rfl kX1_countDone lk_X0_57 rfl O22 (by decide) rfl (Nat.le_of_ble_eq_true rfl) (fun v_4 h_4 qh_4 => ?_)
        obtain ⟨rfl, n0h_4, eh_4⟩ := qh_4
        replace O21 := (eh_4 _ (by decide)).trans O21
        replace O22 := n0h_4
        replace O1 := (eh_4 _ (by decide)).trans O1
        replace hf : ∀ i, i ≠ 22 → h_4 i = h i := fun i g0 => (eh_4 i g0).trans (hf i g0)
        refine A_max 62 dX0_mostStruck_59 rfl lk_X0_61 mm_max_s mm_i mm_max_c ⟨by decide, Nat.le_of_ble_eq_true rfl⟩ ?_
        refine A_istore 64 dX0_mostStruck_62 rfl (by decide) (by first | exact (ast_s (ast_s (ast_s (ast_s (ast_1 rfl))))) | exact (ast_s (ast_s (ast_s (ast_s ast_k))))) ?_
        first | refine A_iincN 67 dX0_mostStruck_64 rfl rfl (by decide) (by first | exact (ast_s (ast_s (ast_s (ast_s (ast_s (ast_1 rfl)))))) | exact (ast_s (ast_s (ast_s (ast_s (ast_s ast_k)))))) ?_ | refine A_iinc 67 (1) dX0_mostStruck_64 rfl rfl (by decide) (by decide) (by first | exact (ast_s (ast_s (ast_s (ast_s (ast_s (ast_1 rfl)))))) | exact (ast_s (ast_s (ast_s (ast_s (ast_s ast_k)))))) ?_
        refine A_goto 25 dX0_mostStruck_67 (by decide) ?_
        exact ih n0 (Nat.lt_succ_self n0) (i + 1) _ h_4 _ (by omega) ((foldN_s (msF x p tk) (DN x (p &&& (tbI tk ^^^ (-1)))) i).trans ((congrArg ((msF x p tk) i) ee).trans (by first | with_reducible rfl | (simp only [c35, if_true, if_false, ite_true, ite_false, and_true, true_and, and_false, false_and, and_self, or_true, true_or, or_false, false_or, or_self, not_true_eq_false, not_false_eq_true, decide_true, decide_false, Bool.and_true, Bool.true_and, Bool.and_false, Bool.false_and, Bool.and_self, Bool.or_true, Bool.true_or, Bool.or_false, Bool.false_or, Bool.not_true, Bool.not_false, cond_true, cond_false, bI_t, bI_f, Bool.false_eq_true, Bool.true_eq_false, dayC_1, dayC_21, dayC_221, dayC_222, msF]; done) | (simp [*, msF]; done) | with_reducible_and_instances rfl))) O21 O22 O1 hf
      · skip
        try simp only [bI_0, bI_n0, Classical.not_not, Bool.not_eq_false, Bool.true_and, Bool.and_true, decide_eq_true_eq, decide_eq_false_iff_not, dayC_1, dayC_21, dayC_221, dayC_222] at c35
        refine A_goto 64 dX0_mostStruck_38 (by decide) ?_
        first | refine A_iincN 67 dX0_mostStruck_64 rfl rfl (by decide) (by first | exact (ast_s (ast_s (ast_s (ast_s (ast_s (ast_1 rfl)))))) | exact (ast_s (ast_s (ast_s (ast_s (ast_s ast_k)))))) ?_ | refine A_iinc 67 (1) dX0_mostStruck_64 rfl rfl (by decide) (by decide) (by first | exact (ast_s (ast_s (ast_s (ast_s (ast_s (ast_1 rfl)))))) | exact (ast_s (ast_s (ast_s (ast_s (ast_s ast_k)))))) ?_
        refine A_goto 25 dX0_mostStruck_67 (by decide) ?_
        exact ih n0 (Nat.lt_succ_self n0) (i + 1) _ g25 _ (by omega) ((foldN_s (msF x p tk) (DN x (p &&& (tbI tk ^^^ (-1)))) i).trans ((congrArg ((msF x p tk) i) ee).trans (by first | with_reducible rfl | (simp only [c35, if_true, if_false, ite_true, ite_false, and_true, true_and, and_false, false_and, and_self, or_true, true_or, or_false, false_or, or_self, not_true_eq_false, not_false_eq_true, decide_true, decide_false, Bool.and_true, Bool.true_and, Bool.and_false, Bool.false_and, Bool.and_self, Bool.or_true, Bool.true_or, Bool.or_false, Bool.false_or, Bool.not_true, Bool.not_false, cond_true, cond_false, bI_t, bI_f, Bool.false_eq_true, Bool.true_eq_false, dayC_1, dayC_21, dayC_221, dayC_222, msF]; done) | (simp only [eq_true c35, if_true, if_false, ite_true, ite_false, and_true, true_and, and_false, false_and, and_self, or_true, true_or, or_false, false_or, or_self, not_true_eq_false, not_false_eq_true, decide_true, decide_false, Bool.and_true, Bool.true_and, Bool.and_false, Bool.false_and, Bool.and_self, Bool.or_true, Bool.true_or, Bool.or_false, Bool.false_or, Bool.not_true, Bool.not_false, cond_true, cond_false, bI_t, bI_f, Bool.false_eq_true, Bool.true_eq_false, dayC_1, dayC_21, dayC_221, dayC_222, msF]; done) | (simp [*, msF]; done) | with_reducible_and_instances rfl))) O21 O22 O1 hf
  exact L25 (8) (0) (_) h_2 (_) (by omega) (rfl) O21 O22 O1 hf
set_option maxHeartbeats 4000000 in
set_option maxRecDepth 100000 in
theorem S_X0_guarded (X : En) (l : Launch) {h : Hp} {x : PW} {y : PC} (O21 : h 21 = some (alB)) (O22 : h 22 = some (cB 22 y)) (O1 : h 1 = some (wB 1 x)) (hx : LOK x) {p wh : Int32} : Ct X l mX0_guarded [aR 21 0, aR 1 0, aI p, aI wh] h (QI (fun vr h2 => (if wh = 0 then (foldN (gdF x p) (11, 8) 9).1 else (foldN (gdF x p) (11, 8) 9).2) = vr ∧ ∃ (y1 : PC), h2 (22) = some (cB 22 y1) ∧ ∀ i, i ≠ 22 → h2 i = h i)) := by
  have hf : ∀ i, i ≠ 22 → h i = h i := fun _ _ => rfl
  refine Ct.intro [some (aR 21 0), some (aR 1 0), some (aI p), some (aI wh), none, none, none, none] (by decide +kernel) rfl (Nat.le_of_ble_eq_true rfl) ?_
  refine A_bipush 2 (11) dX0_guarded_0 rfl (by decide) ?_
  refine A_istore 4 dX0_guarded_2 rfl (by decide) (by first | exact (ast_s (ast_s (ast_s (ast_1 rfl)))) | exact (ast_s (ast_s (ast_s ast_k)))) ?_
  refine A_bipush 6 (8) dX0_guarded_4 rfl (by decide) ?_
  refine A_istore 8 dX0_guarded_6 rfl (by decide) (by first | exact (ast_s (ast_s (ast_s (ast_s (ast_1 rfl))))) | exact (ast_s (ast_s (ast_s (ast_s ast_k))))) ?_
  refine A_iconst 9 (0) dX0_guarded_8 rfl (by decide) ?_
  refine A_istore 11 dX0_guarded_9 rfl (by decide) (by first | exact (ast_s (ast_s (ast_s (ast_s (ast_s (ast_1 rfl)))))) | exact (ast_s (ast_s (ast_s (ast_s (ast_s ast_k)))))) ?_
  have L11 : ∀ (nq i : Nat) (u v : Int32) (g11 : Hp) (y0 : PC), (nq + i = 9) → (foldN (gdF x p) ((11, 8)) i = (u, v)) → (g11 21 = some (alB)) → (g11 22 = some (cB 22 y0)) → (g11 1 = some (wB 1 x)) → (∀ i, i ≠ 22 → g11 i = h i) → Av X l mX0_guarded 11 [some (aR 21 0), some (aR 1 0), some (aI (p)), some (aI (wh)), some (aI (u)), some (aI (v)), some (aI (nI (i))), none] [] g11 (QI (fun vr h2 => (if wh = 0 then (foldN (gdF x p) (11, 8) 9).1 else (foldN (gdF x p) (11, 8) 9).2) = vr ∧ ∃ (y1 : PC), h2 (22) = some (cB 22 y1) ∧ ∀ i, i ≠ 22 → h2 i = h i)) := by
    intro nq
    induction nq using Nat.strongRecOn with
    | _ nq ih =>
    intro i u v g11 y0 en ee O21 O22 O1 hf
    refine A_iload 13 dX0_guarded_11 rfl rfl ?_
    refine A_bipush 15 (8) dX0_guarded_13 rfl (by decide) ?_
    refine A_icmp_gt 68 18 dX0_guarded_15 (by decide) rfl (fun c15 => ?_) (fun c15 => ?_)
    · skip
      obtain rfl := (up_gt_T (N := 9) c15 rfl (by omega) (by omega) (by omega)).symm
      refine A_iload_n 69 dX0_guarded_68 rfl rfl rfl ?_
      refine A_if_ne 77 72 dX0_guarded_69 (by decide) rfl (fun c69 => ?_) (fun c69 => ?_)
      · skip
        try simp only [bI_0, bI_n0, Classical.not_not, Bool.not_eq_false, Bool.true_and, Bool.and_true, decide_eq_true_eq, decide_eq_false_iff_not, dayC_1, dayC_21, dayC_221, dayC_222] at c69
        refine A_iload 79 dX0_guarded_77 rfl rfl ?_
        refine A_iret dX0_guarded_79 rfl ⟨_, rfl, (by rw [ee]; simp [*]), _, O22, hf⟩
      · skip
        try simp only [bI_0, bI_n0, Classical.not_not, Bool.not_eq_false, Bool.true_and, Bool.and_true, decide_eq_true_eq, decide_eq_false_iff_not, dayC_1, dayC_21, dayC_221, dayC_222] at c69
        refine A_iload 74 dX0_guarded_72 rfl rfl ?_
        refine A_goto 79 dX0_guarded_74 (by decide) ?_
        refine A_iret dX0_guarded_79 rfl ⟨_, rfl, (by rw [ee]; simp [*]), _, O22, hf⟩
    · skip
      have hi := up_gt_F (N := 9) c15 rfl (by omega) (by omega) (by omega)
      obtain ⟨n0, rfl⟩ : ∃ q, nq = q + 1 := ⟨nq - 1, by omega⟩
      refine A_iload 20 dX0_guarded_18 rfl rfl ?_
      refine A_bipush 22 (8) dX0_guarded_20 rfl (by decide) ?_
      refine A_icmp_ge 37 25 dX0_guarded_22 (by decide) rfl (fun c22 => ?_) (fun c22 => ?_)
      · skip
        try simp only [bI_0, bI_n0, Classical.not_not, Bool.not_eq_false, Bool.true_and, Bool.and_true, decide_eq_true_eq, decide_eq_false_iff_not, dayC_1, dayC_21, dayC_221, dayC_222] at c22
        have n22 := c22
        replace c22 := Int32.not_lt.mpr c22
        have i8 : ¬ i < 8 := fun z => c22 ((nlt_iff (by omega) (by decide)).mpr z)
        refine A_aload_n 38 dX0_guarded_37 rfl rfl rfl ?_
        refine A_aload_n 39 dX0_guarded_38 rfl rfl rfl ?_
        refine A_iload_n 40 dX0_guarded_39 rfl rfl rfl ?_
        refine A_iload 42 dX0_guarded_40 rfl rfl ?_
        refine A_callVI 45 (S_X0_mostStruck X l (by first | assumption | decide | omega | exact Ne.symm (by assumption)) (by first | assumption | decide | omega | exact Ne.symm (by assumption)) (by first | assumption | decide | omega | exact Ne.symm (by assumption)) (by first | assumption | decide | omega | exact Ne.symm (by assumption))) dX0_guarded_42 rfl kX0_mostStruck lk_X0_50 rfl O21 (by decide) rfl (Nat.le_of_ble_eq_true rfl) (fun v_1 h_1 qh_1 => ?_)
        obtain ⟨rfl, y1_1, n0h_1, eh_1⟩ := qh_1
        replace O21 := (eh_1 _ (by decide)).trans O21
        replace O22 := n0h_1
        replace O1 := (eh_1 _ (by decide)).trans O1
        replace hf : ∀ i, i ≠ 22 → h_1 i = h i := fun i g0 => (eh_1 i g0).trans (hf i g0)
        refine A_istore 47 dX0_guarded_45 rfl (by decide) (by first | exact (ast_s (ast_s (ast_s (ast_s (ast_s (ast_s (ast_1 rfl))))))) | exact (ast_s (ast_s (ast_s (ast_s (ast_s (ast_s ast_k))))))) ?_
        refine A_iload 49 dX0_guarded_47 rfl rfl ?_
        refine A_iload 51 dX0_guarded_49 rfl rfl ?_
        refine A_icmp_ge 62 54 dX0_guarded_51 (by decide) rfl (fun c51 => ?_) (fun c51 => ?_)
        · skip
          try simp only [bI_0, bI_n0, Classical.not_not, Bool.not_eq_false, Bool.true_and, Bool.and_true, decide_eq_true_eq, decide_eq_false_iff_not, dayC_1, dayC_21, dayC_221, dayC_222] at c51
          have n51 := c51
          replace c51 := Int32.not_lt.mpr c51
          first | refine A_iincN 65 dX0_guarded_62 rfl rfl (by decide) (by first | exact (ast_s (ast_s (ast_s (ast_s (ast_s (ast_1 rfl)))))) | exact (ast_s (ast_s (ast_s (ast_s (ast_s ast_k)))))) ?_ | refine A_iinc 65 (1) dX0_guarded_62 rfl rfl (by decide) (by decide) (by first | exact (ast_s (ast_s (ast_s (ast_s (ast_s (ast_1 rfl)))))) | exact (ast_s (ast_s (ast_s (ast_s (ast_s ast_k)))))) ?_
          refine A_goto 11 dX0_guarded_65 (by decide) ?_
          exact A_weak (ih n0 (Nat.lt_succ_self n0) (i + 1) _ _ h_1 _ (by omega) ((foldN_s (gdF x p) ((11, 8)) i).trans ((congrArg ((gdF x p) i) ee).trans (by first | with_reducible rfl | (simp only [c22, n22, c51, n51, if_true, if_false, ite_true, ite_false, and_true, true_and, and_false, false_and, and_self, or_true, true_or, or_false, false_or, or_self, not_true_eq_false, not_false_eq_true, decide_true, decide_false, Bool.and_true, Bool.true_and, Bool.and_false, Bool.false_and, Bool.and_self, Bool.or_true, Bool.true_or, Bool.or_false, Bool.false_or, Bool.not_true, Bool.not_false, cond_true, cond_false, bI_t, bI_f, Bool.false_eq_true, Bool.true_eq_false, dayC_1, dayC_21, dayC_221, dayC_222, gdF, i8]; done) | (simp [*, gdF, i8]; done) | with_reducible_and_instances rfl))) O21 O22 O1 hf) (sub_s (sub_s (sub_s (sub_s (sub_s (sub_s (sub_s (sub_n sub_nil))))))))
        · skip
          try simp only [bI_0, bI_n0, Classical.not_not, Bool.not_eq_false, Bool.true_and, Bool.and_true, decide_eq_true_eq, decide_eq_false_iff_not, dayC_1, dayC_21, dayC_221, dayC_222] at c51
          have n51 := c51
          replace c51 := Int32.not_le.mp c51
          refine A_iload 56 dX0_guarded_54 rfl rfl ?_
          refine A_istore 58 dX0_guarded_56 rfl (by decide) (by first | exact (ast_s (ast_s (ast_s (ast_1 rfl)))) | exact (ast_s (ast_s (ast_s ast_k)))) ?_
          refine A_iload 60 dX0_guarded_58 rfl rfl ?_
          refine A_istore 62 dX0_guarded_60 rfl (by decide) (by first | exact (ast_s (ast_s (ast_s (ast_s (ast_1 rfl))))) | exact (ast_s (ast_s (ast_s (ast_s ast_k))))) ?_
          first | refine A_iincN 65 dX0_guarded_62 rfl rfl (by decide) (by first | exact (ast_s (ast_s (ast_s (ast_s (ast_s (ast_1 rfl)))))) | exact (ast_s (ast_s (ast_s (ast_s (ast_s ast_k)))))) ?_ | refine A_iinc 65 (1) dX0_guarded_62 rfl rfl (by decide) (by decide) (by first | exact (ast_s (ast_s (ast_s (ast_s (ast_s (ast_1 rfl)))))) | exact (ast_s (ast_s (ast_s (ast_s (ast_s ast_k)))))) ?_
          refine A_goto 11 dX0_guarded_65 (by decide) ?_
          exact A_weak (ih n0 (Nat.lt_succ_self n0) (i + 1) _ _ h_1 _ (by omega) ((foldN_s (gdF x p) ((11, 8)) i).trans ((congrArg ((gdF x p) i) ee).trans (by first | with_reducible rfl | (simp only [c22, n22, c51, n51, if_true, if_false, ite_true, ite_false, and_true, true_and, and_false, false_and, and_self, or_true, true_or, or_false, false_or, or_self, not_true_eq_false, not_false_eq_true, decide_true, decide_false, Bool.and_true, Bool.true_and, Bool.and_false, Bool.false_and, Bool.and_self, Bool.or_true, Bool.true_or, Bool.or_false, Bool.false_or, Bool.not_true, Bool.not_false, cond_true, cond_false, bI_t, bI_f, Bool.false_eq_true, Bool.true_eq_false, dayC_1, dayC_21, dayC_221, dayC_222, gdF, i8]; done) | (simp [*, gdF, i8]; done) | with_reducible_and_instances rfl))) O21 O22 O1 hf) (sub_s (sub_s (sub_s (sub_s (sub_s (sub_s (sub_s (sub_n sub_nil))))))))
      · skip
        try simp only [bI_0, bI_n0, Classical.not_not, Bool.not_eq_false, Bool.true_and, Bool.and_true, decide_eq_true_eq, decide_eq_false_iff_not, dayC_1, dayC_21, dayC_221, dayC_222] at c22
        have n22 := c22
        replace c22 := Int32.not_le.mp c22
        have i8 : i < 8 := (nlt_iff (b := 8) (by omega) (by decide)).mp c22
        have t8 := inT_nI i8
        refine A_iload_n 26 dX0_guarded_25 rfl rfl rfl ?_
        refine A_iload 28 dX0_guarded_26 rfl rfl ?_
        refine A_callNI 31 (S_X9_hasThing X l) dX0_guarded_28 rfl kX9_hasThing nk_X0_46 rfl (by decide) rfl (Nat.le_of_ble_eq_true rfl) (fun v_2 h_2 qh_2 => ?_)
        obtain ⟨rfl, rfl⟩ := qh_2
        refine A_if_ne 37 34 dX0_guarded_31 (by decide) rfl (fun c31 => ?_) (fun c31 => ?_)
        · skip
          try simp only [bI_0, bI_n0, Classical.not_not, Bool.not_eq_false, Bool.true_and, Bool.and_true, decide_eq_true_eq, decide_eq_false_iff_not, dayC_1, dayC_21, dayC_221, dayC_222] at c31
          rw [t8, Bool.true_and] at c31
          refine A_aload_n 38 dX0_guarded_37 rfl rfl rfl ?_
          refine A_aload_n 39 dX0_guarded_38 rfl rfl rfl ?_
          refine A_iload_n 40 dX0_guarded_39 rfl rfl rfl ?_
          refine A_iload 42 dX0_guarded_40 rfl rfl ?_
          refine A_callVI 45 (S_X0_mostStruck X l (by first | assumption | decide | omega | exact Ne.symm (by assumption)) (by first | assumption | decide | omega | exact Ne.symm (by assumption)) (by first | assumption | decide | omega | exact Ne.symm (by assumption)) (by first | assumption | decide | omega | exact Ne.symm (by assumption))) dX0_guarded_42 rfl kX0_mostStruck lk_X0_50 rfl O21 (by decide) rfl (Nat.le_of_ble_eq_true rfl) (fun v_3 h_3 qh_3 => ?_)
          obtain ⟨rfl, y1_3, n0h_3, eh_3⟩ := qh_3
          replace O21 := (eh_3 _ (by decide)).trans O21
          replace O22 := n0h_3
          replace O1 := (eh_3 _ (by decide)).trans O1
          replace hf : ∀ i, i ≠ 22 → h_3 i = h i := fun i g0 => (eh_3 i g0).trans (hf i g0)
          refine A_istore 47 dX0_guarded_45 rfl (by decide) (by first | exact (ast_s (ast_s (ast_s (ast_s (ast_s (ast_s (ast_1 rfl))))))) | exact (ast_s (ast_s (ast_s (ast_s (ast_s (ast_s ast_k))))))) ?_
          refine A_iload 49 dX0_guarded_47 rfl rfl ?_
          refine A_iload 51 dX0_guarded_49 rfl rfl ?_
          refine A_icmp_ge 62 54 dX0_guarded_51 (by decide) rfl (fun c51 => ?_) (fun c51 => ?_)
          · skip
            try simp only [bI_0, bI_n0, Classical.not_not, Bool.not_eq_false, Bool.true_and, Bool.and_true, decide_eq_true_eq, decide_eq_false_iff_not, dayC_1, dayC_21, dayC_221, dayC_222] at c51
            have n51 := c51
            replace c51 := Int32.not_lt.mpr c51
            first | refine A_iincN 65 dX0_guarded_62 rfl rfl (by decide) (by first | exact (ast_s (ast_s (ast_s (ast_s (ast_s (ast_1 rfl)))))) | exact (ast_s (ast_s (ast_s (ast_s (ast_s ast_k)))))) ?_ | refine A_iinc 65 (1) dX0_guarded_62 rfl rfl (by decide) (by decide) (by first | exact (ast_s (ast_s (ast_s (ast_s (ast_s (ast_1 rfl)))))) | exact (ast_s (ast_s (ast_s (ast_s (ast_s ast_k)))))) ?_
            refine A_goto 11 dX0_guarded_65 (by decide) ?_
            exact A_weak (ih n0 (Nat.lt_succ_self n0) (i + 1) _ _ h_3 _ (by omega) ((foldN_s (gdF x p) ((11, 8)) i).trans ((congrArg ((gdF x p) i) ee).trans (by first | with_reducible rfl | (simp only [c22, n22, c31, c51, n51, if_true, if_false, ite_true, ite_false, and_true, true_and, and_false, false_and, and_self, or_true, true_or, or_false, false_or, or_self, not_true_eq_false, not_false_eq_true, decide_true, decide_false, Bool.and_true, Bool.true_and, Bool.and_false, Bool.false_and, Bool.and_self, Bool.or_true, Bool.true_or, Bool.or_false, Bool.false_or, Bool.not_true, Bool.not_false, cond_true, cond_false, bI_t, bI_f, Bool.false_eq_true, Bool.true_eq_false, dayC_1, dayC_21, dayC_221, dayC_222, gdF, i8]; done) | (simp [*, gdF, i8]; done) | with_reducible_and_instances rfl))) O21 O22 O1 hf) (sub_s (sub_s (sub_s (sub_s (sub_s (sub_s (sub_s (sub_n sub_nil))))))))
          · skip
            try simp only [bI_0, bI_n0, Classical.not_not, Bool.not_eq_false, Bool.true_and, Bool.and_true, decide_eq_true_eq, decide_eq_false_iff_not, dayC_1, dayC_21, dayC_221, dayC_222] at c51
            have n51 := c51
            replace c51 := Int32.not_le.mp c51
            refine A_iload 56 dX0_guarded_54 rfl rfl ?_
            refine A_istore 58 dX0_guarded_56 rfl (by decide) (by first | exact (ast_s (ast_s (ast_s (ast_1 rfl)))) | exact (ast_s (ast_s (ast_s ast_k)))) ?_
            refine A_iload 60 dX0_guarded_58 rfl rfl ?_
            refine A_istore 62 dX0_guarded_60 rfl (by decide) (by first | exact (ast_s (ast_s (ast_s (ast_s (ast_1 rfl))))) | exact (ast_s (ast_s (ast_s (ast_s ast_k))))) ?_
            first | refine A_iincN 65 dX0_guarded_62 rfl rfl (by decide) (by first | exact (ast_s (ast_s (ast_s (ast_s (ast_s (ast_1 rfl)))))) | exact (ast_s (ast_s (ast_s (ast_s (ast_s ast_k)))))) ?_ | refine A_iinc 65 (1) dX0_guarded_62 rfl rfl (by decide) (by decide) (by first | exact (ast_s (ast_s (ast_s (ast_s (ast_s (ast_1 rfl)))))) | exact (ast_s (ast_s (ast_s (ast_s (ast_s ast_k)))))) ?_
            refine A_goto 11 dX0_guarded_65 (by decide) ?_
            exact A_weak (ih n0 (Nat.lt_succ_self n0) (i + 1) _ _ h_3 _ (by omega) ((foldN_s (gdF x p) ((11, 8)) i).trans ((congrArg ((gdF x p) i) ee).trans (by first | with_reducible rfl | (simp only [c22, n22, c31, c51, n51, if_true, if_false, ite_true, ite_false, and_true, true_and, and_false, false_and, and_self, or_true, true_or, or_false, false_or, or_self, not_true_eq_false, not_false_eq_true, decide_true, decide_false, Bool.and_true, Bool.true_and, Bool.and_false, Bool.false_and, Bool.and_self, Bool.or_true, Bool.true_or, Bool.or_false, Bool.false_or, Bool.not_true, Bool.not_false, cond_true, cond_false, bI_t, bI_f, Bool.false_eq_true, Bool.true_eq_false, dayC_1, dayC_21, dayC_221, dayC_222, gdF, i8]; done) | (simp [*, gdF, i8]; done) | with_reducible_and_instances rfl))) O21 O22 O1 hf) (sub_s (sub_s (sub_s (sub_s (sub_s (sub_s (sub_s (sub_n sub_nil))))))))
        · skip
          try simp only [bI_0, bI_n0, Classical.not_not, Bool.not_eq_false, Bool.true_and, Bool.and_true, decide_eq_true_eq, decide_eq_false_iff_not, dayC_1, dayC_21, dayC_221, dayC_222] at c31
          rw [t8, Bool.true_and] at c31
          refine A_goto 62 dX0_guarded_34 (by decide) ?_
          first | refine A_iincN 65 dX0_guarded_62 rfl rfl (by decide) (by first | exact (ast_s (ast_s (ast_s (ast_s (ast_s (ast_1 rfl)))))) | exact (ast_s (ast_s (ast_s (ast_s (ast_s ast_k)))))) ?_ | refine A_iinc 65 (1) dX0_guarded_62 rfl rfl (by decide) (by decide) (by first | exact (ast_s (ast_s (ast_s (ast_s (ast_s (ast_1 rfl)))))) | exact (ast_s (ast_s (ast_s (ast_s (ast_s ast_k)))))) ?_
          refine A_goto 11 dX0_guarded_65 (by decide) ?_
          exact A_weak (ih n0 (Nat.lt_succ_self n0) (i + 1) _ _ g11 _ (by omega) ((foldN_s (gdF x p) ((11, 8)) i).trans ((congrArg ((gdF x p) i) ee).trans (by first | with_reducible rfl | (simp only [c22, n22, c31, if_true, if_false, ite_true, ite_false, and_true, true_and, and_false, false_and, and_self, or_true, true_or, or_false, false_or, or_self, not_true_eq_false, not_false_eq_true, decide_true, decide_false, Bool.and_true, Bool.true_and, Bool.and_false, Bool.false_and, Bool.and_self, Bool.or_true, Bool.true_or, Bool.or_false, Bool.false_or, Bool.not_true, Bool.not_false, cond_true, cond_false, bI_t, bI_f, Bool.false_eq_true, Bool.true_eq_false, dayC_1, dayC_21, dayC_221, dayC_222, gdF, i8]; done) | (simp [*, gdF, i8]; done) | with_reducible_and_instances rfl))) O21 O22 O1 hf) (sub_s (sub_s (sub_s (sub_s (sub_s (sub_s (sub_s (sub_n sub_nil))))))))
  exact A_weak (L11 (9) (0) (_) (_) h (_) (by omega) (rfl) O21 O22 O1 hf) (sub_s (sub_s (sub_s (sub_s (sub_s (sub_s (sub_s (sub_n sub_nil))))))))
set_option maxHeartbeats 4000000 in
set_option maxRecDepth 100000 in
theorem S_X0_dearestLaw (X : En) (l : Launch) {h : Hp} {x : PW} {y : PC} (O21 : h 21 = some (alB)) (O22 : h 22 = some (cB 22 y)) (O1 : h 1 = some (wB 1 x)) (hx : LOK x) {p : Int32} : Ct X l mX0_dearestLaw [aR 21 0, aR 1 0, aI p] h (QI (fun vr h2 => ((foldN (drF x p) (-9, 11) 10).1) = vr ∧ ∃ (y1 : PC), h2 (22) = some (cB 22 y1) ∧ ∀ i, i ≠ 22 → h2 i = h i)) := by
  have hf : ∀ i, i ≠ 22 → h i = h i := fun _ _ => rfl
  refine Ct.intro [some (aR 21 0), some (aR 1 0), some (aI p), none, none, none, none, none] (by decide +kernel) rfl (Nat.le_of_ble_eq_true rfl) ?_
  refine A_aload_n 1 dX0_dearestLaw_0 rfl rfl rfl ?_
  refine A_getfield 4 dX0_dearestLaw_1 rfl f_X0_12 O21 rfl ?_
  refine A_aload_n 5 dX0_dearestLaw_4 rfl rfl rfl ?_
  refine A_iload_n 6 dX0_dearestLaw_5 rfl rfl rfl ?_
  refine A_iconst 7 (0) dX0_dearestLaw_6 rfl (by decide) ?_
  refine A_callVI 10 (S_X1_run X l (by first | assumption | decide | omega | exact Ne.symm (by assumption)) (by first | assumption | decide | omega | exact Ne.symm (by assumption)) (by first | assumption | decide | omega | exact Ne.symm (by assumption)) (by first | assumption | decide | omega | exact Ne.symm (by assumption))) dX0_dearestLaw_7 rfl kX1_run lk_X0_36 rfl O22 (by decide) rfl (Nat.le_of_ble_eq_true rfl) (fun v_1 h_1 qh_1 => ?_)
  obtain ⟨rfl, n0h_1, eh_1⟩ := qh_1
  replace O21 := (eh_1 _ (by decide)).trans O21
  replace O22 := n0h_1
  replace O1 := (eh_1 _ (by decide)).trans O1
  replace hf : ∀ i, i ≠ 22 → h_1 i = h i := fun i g0 => (eh_1 i g0).trans (hf i g0)
  refine A_istore_n 11 dX0_dearestLaw_10 rfl rfl (by decide) (by first | exact (ast_s (ast_s (ast_1 rfl))) | exact (ast_s (ast_s ast_k))) ?_
  refine A_bipush 13 (-9) dX0_dearestLaw_11 rfl (by decide) ?_
  refine A_istore 15 dX0_dearestLaw_13 rfl (by decide) (by first | exact (ast_s (ast_s (ast_s (ast_1 rfl)))) | exact (ast_s (ast_s (ast_s ast_k)))) ?_
  refine A_bipush 17 (11) dX0_dearestLaw_15 rfl (by decide) ?_
  refine A_istore 19 dX0_dearestLaw_17 rfl (by decide) (by first | exact (ast_s (ast_s (ast_s (ast_s (ast_1 rfl))))) | exact (ast_s (ast_s (ast_s (ast_s ast_k))))) ?_
  refine A_iconst 20 (0) dX0_dearestLaw_19 rfl (by decide) ?_
  refine A_istore 22 dX0_dearestLaw_20 rfl (by decide) (by first | exact (ast_s (ast_s (ast_s (ast_s (ast_s (ast_1 rfl)))))) | exact (ast_s (ast_s (ast_s (ast_s (ast_s ast_k)))))) ?_
  have L22 : ∀ (nq i : Nat) (u v : Int32) (g22 : Hp) (y0 : PC), (nq + i = 10) → (foldN (drF x p) ((-9, 11)) i = (u, v)) → (g22 21 = some (alB)) → (g22 22 = some (cB 22 y0)) → (g22 1 = some (wB 1 x)) → (∀ i, i ≠ 22 → g22 i = h i) → Av X l mX0_dearestLaw 22 [some (aR 21 0), some (aR 1 0), some (aI (p)), some (aI (dDone x 0 p)), some (aI (u)), some (aI (v)), some (aI (nI (i))), none] [] g22 (QI (fun vr h2 => ((foldN (drF x p) (-9, 11) 10).1) = vr ∧ ∃ (y1 : PC), h2 (22) = some (cB 22 y1) ∧ ∀ i, i ≠ 22 → h2 i = h i)) := by
    intro nq
    induction nq using Nat.strongRecOn with
    | _ nq ih =>
    intro i u v g22 y0 en ee O21 O22 O1 hf
    refine A_iload 24 dX0_dearestLaw_22 rfl rfl ?_
    refine A_bipush 26 (10) dX0_dearestLaw_24 rfl (by decide) ?_
    refine A_icmp_ge 80 29 dX0_dearestLaw_26 (by decide) rfl (fun c26 => ?_) (fun c26 => ?_)
    · skip
      obtain rfl := (up_ge_T (N := 10) c26 rfl (by omega) (by omega)).symm
      refine A_iload 82 dX0_dearestLaw_80 rfl rfl ?_
      refine A_iret dX0_dearestLaw_82 rfl ⟨_, rfl, (by rw [ee]), _, O22, hf⟩
    · skip
      have hi := up_ge_F (N := 10) c26 rfl (by omega) (by omega)
      obtain ⟨n0, rfl⟩ : ∃ q, nq = q + 1 := ⟨nq - 1, by omega⟩
      refine A_iload_n 30 dX0_dearestLaw_29 rfl rfl rfl ?_
      refine A_iconst 31 (1) dX0_dearestLaw_30 rfl (by decide) ?_
      refine A_iload 33 dX0_dearestLaw_31 rfl rfl ?_
      refine A_ishl 34 dX0_dearestLaw_33 rfl ?_
      refine A_iand 35 dX0_dearestLaw_34 rfl ?_
      refine A_if_ne 41 38 dX0_dearestLaw_35 (by decide) rfl (fun c35 => ?_) (fun c35 => ?_)
      · skip
        try simp only [bI_0, bI_n0, Classical.not_not, Bool.not_eq_false, Bool.true_and, Bool.and_true, decide_eq_true_eq, decide_eq_false_iff_not, dayC_1, dayC_21, dayC_221, dayC_222] at c35
        refine A_aload_n 42 dX0_dearestLaw_41 rfl rfl rfl ?_
        refine A_getfield 45 dX0_dearestLaw_42 rfl f_X0_12 O21 rfl ?_
        refine A_aload_n 46 dX0_dearestLaw_45 rfl rfl rfl ?_
        refine A_iload_n 47 dX0_dearestLaw_46 rfl rfl rfl ?_
        refine A_iconst 48 (1) dX0_dearestLaw_47 rfl (by decide) ?_
        refine A_iload 50 dX0_dearestLaw_48 rfl rfl ?_
        refine A_ishl 51 dX0_dearestLaw_50 rfl ?_
        refine A_callVI 54 (S_X1_run X l (by first | assumption | decide | omega | exact Ne.symm (by assumption)) (by first | assumption | decide | omega | exact Ne.symm (by assumption)) (by first | assumption | decide | omega | exact Ne.symm (by assumption)) (by first | assumption | decide | omega | exact Ne.symm (by assumption))) dX0_dearestLaw_51 rfl kX1_run lk_X0_36 rfl O22 (by decide) rfl (Nat.le_of_ble_eq_true rfl) (fun v_2 h_2 qh_2 => ?_)
        obtain ⟨rfl, n0h_2, eh_2⟩ := qh_2
        replace O21 := (eh_2 _ (by decide)).trans O21
        replace O22 := n0h_2
        replace O1 := (eh_2 _ (by decide)).trans O1
        replace hf : ∀ i, i ≠ 22 → h_2 i = h i := fun i g0 => (eh_2 i g0).trans (hf i g0)
        refine A_callSI 57 (S_J6_bitCount_0f7a4 X l) dX0_dearestLaw_54 rfl kJ6_bitCount_0f7a4 lk_X0_67 rfl (by decide) rfl (Nat.le_of_ble_eq_true rfl) (fun v_3 h_3 qh_3 => ?_)
        obtain ⟨rfl, rfl⟩ := qh_3
        refine A_istore 59 dX0_dearestLaw_57 rfl (by decide) (by first | exact (ast_s (ast_s (ast_s (ast_s (ast_s (ast_s (ast_1 rfl))))))) | exact (ast_s (ast_s (ast_s (ast_s (ast_s (ast_s ast_k))))))) ?_
        refine A_iload 61 dX0_dearestLaw_59 rfl rfl ?_
        refine A_iload 63 dX0_dearestLaw_61 rfl rfl ?_
        refine A_icmp_ge 74 66 dX0_dearestLaw_63 (by decide) rfl (fun c63 => ?_) (fun c63 => ?_)
        · skip
          try simp only [bI_0, bI_n0, Classical.not_not, Bool.not_eq_false, Bool.true_and, Bool.and_true, decide_eq_true_eq, decide_eq_false_iff_not, dayC_1, dayC_21, dayC_221, dayC_222] at c63
          have n63 := c63
          replace c63 := Int32.not_lt.mpr c63
          first | refine A_iincN 77 dX0_dearestLaw_74 rfl rfl (by decide) (by first | exact (ast_s (ast_s (ast_s (ast_s (ast_s (ast_1 rfl)))))) | exact (ast_s (ast_s (ast_s (ast_s (ast_s ast_k)))))) ?_ | refine A_iinc 77 (1) dX0_dearestLaw_74 rfl rfl (by decide) (by decide) (by first | exact (ast_s (ast_s (ast_s (ast_s (ast_s (ast_1 rfl)))))) | exact (ast_s (ast_s (ast_s (ast_s (ast_s ast_k)))))) ?_
          refine A_goto 22 dX0_dearestLaw_77 (by decide) ?_
          exact A_weak (ih n0 (Nat.lt_succ_self n0) (i + 1) _ _ h_2 _ (by omega) ((foldN_s (drF x p) ((-9, 11)) i).trans ((congrArg ((drF x p) i) ee).trans (by first | with_reducible rfl | (simp only [c35, c63, n63, if_true, if_false, ite_true, ite_false, and_true, true_and, and_false, false_and, and_self, or_true, true_or, or_false, false_or, or_self, not_true_eq_false, not_false_eq_true, decide_true, decide_false, Bool.and_true, Bool.true_and, Bool.and_false, Bool.false_and, Bool.and_self, Bool.or_true, Bool.true_or, Bool.or_false, Bool.false_or, Bool.not_true, Bool.not_false, cond_true, cond_false, bI_t, bI_f, Bool.false_eq_true, Bool.true_eq_false, dayC_1, dayC_21, dayC_221, dayC_222, drF, btI, oneB]; done) | (simp [*, drF, btI, oneB]; done) | with_reducible_and_instances rfl))) O21 O22 O1 hf) (sub_s (sub_s (sub_s (sub_s (sub_s (sub_s (sub_s (sub_n sub_nil))))))))
        · skip
          try simp only [bI_0, bI_n0, Classical.not_not, Bool.not_eq_false, Bool.true_and, Bool.and_true, decide_eq_true_eq, decide_eq_false_iff_not, dayC_1, dayC_21, dayC_221, dayC_222] at c63
          have n63 := c63
          replace c63 := Int32.not_le.mp c63
          refine A_iload 68 dX0_dearestLaw_66 rfl rfl ?_
          refine A_istore 70 dX0_dearestLaw_68 rfl (by decide) (by first | exact (ast_s (ast_s (ast_s (ast_s (ast_1 rfl))))) | exact (ast_s (ast_s (ast_s (ast_s ast_k))))) ?_
          refine A_iload 72 dX0_dearestLaw_70 rfl rfl ?_
          refine A_istore 74 dX0_dearestLaw_72 rfl (by decide) (by first | exact (ast_s (ast_s (ast_s (ast_1 rfl)))) | exact (ast_s (ast_s (ast_s ast_k)))) ?_
          first | refine A_iincN 77 dX0_dearestLaw_74 rfl rfl (by decide) (by first | exact (ast_s (ast_s (ast_s (ast_s (ast_s (ast_1 rfl)))))) | exact (ast_s (ast_s (ast_s (ast_s (ast_s ast_k)))))) ?_ | refine A_iinc 77 (1) dX0_dearestLaw_74 rfl rfl (by decide) (by decide) (by first | exact (ast_s (ast_s (ast_s (ast_s (ast_s (ast_1 rfl)))))) | exact (ast_s (ast_s (ast_s (ast_s (ast_s ast_k)))))) ?_
          refine A_goto 22 dX0_dearestLaw_77 (by decide) ?_
          exact A_weak (ih n0 (Nat.lt_succ_self n0) (i + 1) _ _ h_2 _ (by omega) ((foldN_s (drF x p) ((-9, 11)) i).trans ((congrArg ((drF x p) i) ee).trans (by first | with_reducible rfl | (simp only [c35, c63, n63, if_true, if_false, ite_true, ite_false, and_true, true_and, and_false, false_and, and_self, or_true, true_or, or_false, false_or, or_self, not_true_eq_false, not_false_eq_true, decide_true, decide_false, Bool.and_true, Bool.true_and, Bool.and_false, Bool.false_and, Bool.and_self, Bool.or_true, Bool.true_or, Bool.or_false, Bool.false_or, Bool.not_true, Bool.not_false, cond_true, cond_false, bI_t, bI_f, Bool.false_eq_true, Bool.true_eq_false, dayC_1, dayC_21, dayC_221, dayC_222, drF, btI, oneB]; done) | (simp [*, drF, btI, oneB]; done) | with_reducible_and_instances rfl))) O21 O22 O1 hf) (sub_s (sub_s (sub_s (sub_s (sub_s (sub_s (sub_s (sub_n sub_nil))))))))
      · skip
        try simp only [bI_0, bI_n0, Classical.not_not, Bool.not_eq_false, Bool.true_and, Bool.and_true, decide_eq_true_eq, decide_eq_false_iff_not, dayC_1, dayC_21, dayC_221, dayC_222] at c35
        refine A_goto 74 dX0_dearestLaw_38 (by decide) ?_
        first | refine A_iincN 77 dX0_dearestLaw_74 rfl rfl (by decide) (by first | exact (ast_s (ast_s (ast_s (ast_s (ast_s (ast_1 rfl)))))) | exact (ast_s (ast_s (ast_s (ast_s (ast_s ast_k)))))) ?_ | refine A_iinc 77 (1) dX0_dearestLaw_74 rfl rfl (by decide) (by decide) (by first | exact (ast_s (ast_s (ast_s (ast_s (ast_s (ast_1 rfl)))))) | exact (ast_s (ast_s (ast_s (ast_s (ast_s ast_k)))))) ?_
        refine A_goto 22 dX0_dearestLaw_77 (by decide) ?_
        exact A_weak (ih n0 (Nat.lt_succ_self n0) (i + 1) _ _ g22 _ (by omega) ((foldN_s (drF x p) ((-9, 11)) i).trans ((congrArg ((drF x p) i) ee).trans (by first | with_reducible rfl | (simp only [c35, if_true, if_false, ite_true, ite_false, and_true, true_and, and_false, false_and, and_self, or_true, true_or, or_false, false_or, or_self, not_true_eq_false, not_false_eq_true, decide_true, decide_false, Bool.and_true, Bool.true_and, Bool.and_false, Bool.false_and, Bool.and_self, Bool.or_true, Bool.true_or, Bool.or_false, Bool.false_or, Bool.not_true, Bool.not_false, cond_true, cond_false, bI_t, bI_f, Bool.false_eq_true, Bool.true_eq_false, dayC_1, dayC_21, dayC_221, dayC_222, drF, btI, oneB]; done) | (simp only [eq_true c35, if_true, if_false, ite_true, ite_false, and_true, true_and, and_false, false_and, and_self, or_true, true_or, or_false, false_or, or_self, not_true_eq_false, not_false_eq_true, decide_true, decide_false, Bool.and_true, Bool.true_and, Bool.and_false, Bool.false_and, Bool.and_self, Bool.or_true, Bool.true_or, Bool.or_false, Bool.false_or, Bool.not_true, Bool.not_false, cond_true, cond_false, bI_t, bI_f, Bool.false_eq_true, Bool.true_eq_false, dayC_1, dayC_21, dayC_221, dayC_222, drF, btI, oneB]; done) | (simp [*, drF, btI, oneB]; done) | with_reducible_and_instances rfl))) O21 O22 O1 hf) (sub_s (sub_s (sub_s (sub_s (sub_s (sub_s (sub_s (sub_n sub_nil))))))))
  exact A_weak (L22 (10) (0) (_) (_) h_1 (_) (by omega) (rfl) O21 O22 O1 hf) (sub_s (sub_s (sub_s (sub_s (sub_s (sub_s (sub_s (sub_n sub_nil))))))))
set_option maxHeartbeats 4000000 in
set_option maxRecDepth 100000 in
theorem S_X0_lawsNeeded (X : En) (l : Launch) {h : Hp} {x : PW} {y : PC} (O21 : h 21 = some (alB)) (O22 : h 22 = some (cB 22 y)) (O1 : h 1 = some (wB 1 x)) (hx : LOK x) {p ls : Int32} (hl : x.2.2.1 ≤ 10) : Ct X l mX0_lawsNeeded [aR 21 0, aR 1 0, aI p, aI ls] h (QI (fun vr h2 => (neV x p ls) = vr ∧ ∃ (y1 : PC), h2 (22) = some (cB 22 y1) ∧ ∀ i, i ≠ 22 → h2 i = h i)) := by
  have hf : ∀ i, i ≠ 22 → h i = h i := fun _ _ => rfl
  refine Ct.intro [some (aR 21 0), some (aR 1 0), some (aI p), some (aI ls), none, none] (by decide +kernel) rfl (Nat.le_of_ble_eq_true rfl) ?_
  refine A_aload_n 1 dX0_lawsNeeded_0 rfl rfl rfl ?_
  refine A_getfield 4 dX0_lawsNeeded_1 rfl f_X0_12 O21 rfl ?_
  refine A_aload_n 5 dX0_lawsNeeded_4 rfl rfl rfl ?_
  refine A_iload_n 6 dX0_lawsNeeded_5 rfl rfl rfl ?_
  refine A_iconst 7 (0) dX0_lawsNeeded_6 rfl (by decide) ?_
  refine A_callVI 10 (S_X1_run X l (by first | assumption | decide | omega | exact Ne.symm (by assumption)) (by first | assumption | decide | omega | exact Ne.symm (by assumption)) (by first | assumption | decide | omega | exact Ne.symm (by assumption)) (by first | assumption | decide | omega | exact Ne.symm (by assumption))) dX0_lawsNeeded_7 rfl kX1_run lk_X0_36 rfl O22 (by decide) rfl (Nat.le_of_ble_eq_true rfl) (fun v_1 h_1 qh_1 => ?_)
  obtain ⟨rfl, n0h_1, eh_1⟩ := qh_1
  replace O21 := (eh_1 _ (by decide)).trans O21
  replace O22 := n0h_1
  replace O1 := (eh_1 _ (by decide)).trans O1
  replace hf : ∀ i, i ≠ 22 → h_1 i = h i := fun i g0 => (eh_1 i g0).trans (hf i g0)
  refine A_pop 11 dX0_lawsNeeded_10 rfl rfl ?_
  refine A_aload_n 12 dX0_lawsNeeded_11 rfl rfl rfl ?_
  refine A_getfield 15 dX0_lawsNeeded_12 rfl f_X0_12 O21 rfl ?_
  refine A_iload_n 16 dX0_lawsNeeded_15 rfl rfl rfl ?_
  refine A_callVI 19 (S_X1_does X l (by first | assumption | decide | omega | exact Ne.symm (by assumption))) dX0_lawsNeeded_16 rfl kX1_does lk_X0_72 rfl O22 (by decide) rfl (Nat.le_of_ble_eq_true rfl) (fun v_2 h_2 qh_2 => ?_)
  obtain ⟨rfl, rfl⟩ := qh_2
  refine A_if_ne 24 22 dX0_lawsNeeded_19 (by decide) rfl (fun c19 => ?_) (fun c19 => ?_)
  · skip
    try simp only [bI_0, bI_n0, Classical.not_not, Bool.not_eq_false, Bool.true_and, Bool.and_true, decide_eq_true_eq, decide_eq_false_iff_not, dayC_1, dayC_21, dayC_221, dayC_222] at c19
    refine A_iconst 25 (0) dX0_lawsNeeded_24 rfl (by decide) ?_
    refine A_istore 27 dX0_lawsNeeded_25 rfl (by decide) (by first | exact (ast_s (ast_s (ast_s (ast_1 rfl)))) | exact (ast_s (ast_s (ast_s ast_k)))) ?_
    refine A_iconst 28 (0) dX0_lawsNeeded_27 rfl (by decide) ?_
    refine A_istore 30 dX0_lawsNeeded_28 rfl (by decide) (by first | exact (ast_s (ast_s (ast_s (ast_s (ast_1 rfl))))) | exact (ast_s (ast_s (ast_s (ast_s ast_k))))) ?_
    have L30 : ∀ (nq i : Nat) (u : Int32) (g30 : Hp) (y0 : PC), (nq + i = 10) → (foldN (neF x p ls) (0) i = (u)) → (g30 21 = some (alB)) → (g30 22 = some (cB 22 y0)) → (g30 1 = some (wB 1 x)) → (∀ i, i ≠ 22 → g30 i = h i) → Av X l mX0_lawsNeeded 30 [some (aR 21 0), some (aR 1 0), some (aI (p)), some (aI (ls)), some (aI (u)), some (aI (nI (i)))] [] g30 (QI (fun vr h2 => (neV x p ls) = vr ∧ ∃ (y1 : PC), h2 (22) = some (cB 22 y1) ∧ ∀ i, i ≠ 22 → h2 i = h i)) := by
      intro nq
      induction nq using Nat.strongRecOn with
      | _ nq ih =>
      intro i u g30 y0 en ee O21 O22 O1 hf
      refine A_iload 32 dX0_lawsNeeded_30 rfl rfl ?_
      refine A_bipush 34 (10) dX0_lawsNeeded_32 rfl (by decide) ?_
      refine A_icmp_ge 95 37 dX0_lawsNeeded_34 (by decide) rfl (fun c34 => ?_) (fun c34 => ?_)
      · skip
        obtain rfl := (up_ge_T (N := 10) c34 rfl (by omega) (by omega)).symm
        refine A_iload 97 dX0_lawsNeeded_95 rfl rfl ?_
        refine A_iret dX0_lawsNeeded_97 rfl ⟨_, rfl, (by unfold neV; rw [if_pos (by simp_all [dayC]), ee]), _, O22, hf⟩
      · skip
        have hi := up_ge_F (N := 10) c34 rfl (by omega) (by omega)
        obtain ⟨n0, rfl⟩ : ∃ q, nq = q + 1 := ⟨nq - 1, by omega⟩
        refine A_iload 39 dX0_lawsNeeded_37 rfl rfl ?_
        refine A_iload_n 40 dX0_lawsNeeded_39 rfl rfl rfl ?_
        refine A_icmp_eq 89 43 dX0_lawsNeeded_40 (by decide) rfl (fun c40 => ?_) (fun c40 => ?_)
        · skip
          try simp only [bI_0, bI_n0, Classical.not_not, Bool.not_eq_false, Bool.true_and, Bool.and_true, decide_eq_true_eq, decide_eq_false_iff_not, dayC_1, dayC_21, dayC_221, dayC_222] at c40
          first | refine A_iincN 92 dX0_lawsNeeded_89 rfl rfl (by decide) (by first | exact (ast_s (ast_s (ast_s (ast_s (ast_1 rfl))))) | exact (ast_s (ast_s (ast_s (ast_s ast_k))))) ?_ | refine A_iinc 92 (1) dX0_lawsNeeded_89 rfl rfl (by decide) (by decide) (by first | exact (ast_s (ast_s (ast_s (ast_s (ast_1 rfl))))) | exact (ast_s (ast_s (ast_s (ast_s ast_k))))) ?_
          refine A_goto 30 dX0_lawsNeeded_92 (by decide) ?_
          exact ih n0 (Nat.lt_succ_self n0) (i + 1) _ g30 _ (by omega) ((foldN_s (neF x p ls) (0) i).trans ((congrArg ((neF x p ls) i) ee).trans (by first | with_reducible rfl | (simp only [c19, c40, if_true, if_false, ite_true, ite_false, and_true, true_and, and_false, false_and, and_self, or_true, true_or, or_false, false_or, or_self, not_true_eq_false, not_false_eq_true, decide_true, decide_false, Bool.and_true, Bool.true_and, Bool.and_false, Bool.false_and, Bool.and_self, Bool.or_true, Bool.true_or, Bool.or_false, Bool.false_or, Bool.not_true, Bool.not_false, cond_true, cond_false, bI_t, bI_f, Bool.false_eq_true, Bool.true_eq_false, dayC_1, dayC_21, dayC_221, dayC_222, neF, dayC, oneB]; done) | (simp only [c19, eq_true c40, if_true, if_false, ite_true, ite_false, and_true, true_and, and_false, false_and, and_self, or_true, true_or, or_false, false_or, or_self, not_true_eq_false, not_false_eq_true, decide_true, decide_false, Bool.and_true, Bool.true_and, Bool.and_false, Bool.false_and, Bool.and_self, Bool.or_true, Bool.true_or, Bool.or_false, Bool.false_or, Bool.not_true, Bool.not_false, cond_true, cond_false, bI_t, bI_f, Bool.false_eq_true, Bool.true_eq_false, dayC_1, dayC_21, dayC_221, dayC_222, neF, dayC, oneB]; done) | (simp [*, neF, dayC, oneB]; done) | with_reducible_and_instances rfl))) O21 O22 O1 hf
        · skip
          try simp only [bI_0, bI_n0, Classical.not_not, Bool.not_eq_false, Bool.true_and, Bool.and_true, decide_eq_true_eq, decide_eq_false_iff_not, dayC_1, dayC_21, dayC_221, dayC_222] at c40
          refine A_aload_n 44 dX0_lawsNeeded_43 rfl rfl rfl ?_
          refine A_iload 46 dX0_lawsNeeded_44 rfl rfl ?_
          refine A_callVI 49 (S_X8_isLaw X l (by first | assumption | decide | omega | exact Ne.symm (by assumption))) dX0_lawsNeeded_46 rfl kX8_isLaw lk_X0_76 rfl O1 (by decide) rfl (Nat.le_of_ble_eq_true rfl) (fun v_3 h_3 qh_3 => ?_)
          obtain ⟨rfl, rfl⟩ := qh_3
          refine A_if_ne 55 52 dX0_lawsNeeded_49 (by decide) rfl (fun c49 => ?_) (fun c49 => ?_)
          · skip
            try simp only [bI_0, bI_n0, Classical.not_not, Bool.not_eq_false, Bool.true_and, Bool.and_true, decide_eq_true_eq, decide_eq_false_iff_not, dayC_1, dayC_21, dayC_221, dayC_222] at c49
            refine A_aload_n 56 dX0_lawsNeeded_55 rfl rfl rfl ?_
            refine A_getfield 59 dX0_lawsNeeded_56 rfl f_X0_12 O21 rfl ?_
            refine A_aload_n 60 dX0_lawsNeeded_59 rfl rfl rfl ?_
            refine A_iload_n 61 dX0_lawsNeeded_60 rfl rfl rfl ?_
            refine A_iconst 62 (1) dX0_lawsNeeded_61 rfl (by decide) ?_
            refine A_iload 64 dX0_lawsNeeded_62 rfl rfl ?_
            refine A_ishl 65 dX0_lawsNeeded_64 rfl ?_
            refine A_callVI 68 (S_X1_run X l (by first | assumption | decide | omega | exact Ne.symm (by assumption)) (by first | assumption | decide | omega | exact Ne.symm (by assumption)) (by first | assumption | decide | omega | exact Ne.symm (by assumption)) (by first | assumption | decide | omega | exact Ne.symm (by assumption))) dX0_lawsNeeded_65 rfl kX1_run lk_X0_36 rfl O22 (by decide) rfl (Nat.le_of_ble_eq_true rfl) (fun v_4 h_4 qh_4 => ?_)
            obtain ⟨rfl, n0h_4, eh_4⟩ := qh_4
            replace O21 := (eh_4 _ (by decide)).trans O21
            replace O22 := n0h_4
            replace O1 := (eh_4 _ (by decide)).trans O1
            replace hf : ∀ i, i ≠ 22 → h_4 i = h i := fun i g0 => (eh_4 i g0).trans (hf i g0)
            refine A_pop 69 dX0_lawsNeeded_68 rfl rfl ?_
            refine A_aload_n 70 dX0_lawsNeeded_69 rfl rfl rfl ?_
            refine A_getfield 73 dX0_lawsNeeded_70 rfl f_X0_12 O21 rfl ?_
            refine A_iload_n 74 dX0_lawsNeeded_73 rfl rfl rfl ?_
            refine A_callVI 77 (S_X1_does X l (by first | assumption | decide | omega | exact Ne.symm (by assumption))) dX0_lawsNeeded_74 rfl kX1_does lk_X0_72 rfl O22 (by decide) rfl (Nat.le_of_ble_eq_true rfl) (fun v_5 h_5 qh_5 => ?_)
            obtain ⟨rfl, rfl⟩ := qh_5
            refine A_if_ne 89 80 dX0_lawsNeeded_77 (by decide) rfl (fun c77 => ?_) (fun c77 => ?_)
            · skip
              try simp only [bI_0, bI_n0, Classical.not_not, Bool.not_eq_false, Bool.true_and, Bool.and_true, decide_eq_true_eq, decide_eq_false_iff_not, dayC_1, dayC_21, dayC_221, dayC_222] at c77
              first | refine A_iincN 92 dX0_lawsNeeded_89 rfl rfl (by decide) (by first | exact (ast_s (ast_s (ast_s (ast_s (ast_1 rfl))))) | exact (ast_s (ast_s (ast_s (ast_s ast_k))))) ?_ | refine A_iinc 92 (1) dX0_lawsNeeded_89 rfl rfl (by decide) (by decide) (by first | exact (ast_s (ast_s (ast_s (ast_s (ast_1 rfl))))) | exact (ast_s (ast_s (ast_s (ast_s ast_k))))) ?_
              refine A_goto 30 dX0_lawsNeeded_92 (by decide) ?_
              exact ih n0 (Nat.lt_succ_self n0) (i + 1) _ h_4 _ (by omega) ((foldN_s (neF x p ls) (0) i).trans ((congrArg ((neF x p ls) i) ee).trans (by first | with_reducible rfl | (simp only [c19, c40, c49, c77, if_true, if_false, ite_true, ite_false, and_true, true_and, and_false, false_and, and_self, or_true, true_or, or_false, false_or, or_self, not_true_eq_false, not_false_eq_true, decide_true, decide_false, Bool.and_true, Bool.true_and, Bool.and_false, Bool.false_and, Bool.and_self, Bool.or_true, Bool.true_or, Bool.or_false, Bool.false_or, Bool.not_true, Bool.not_false, cond_true, cond_false, bI_t, bI_f, Bool.false_eq_true, Bool.true_eq_false, dayC_1, dayC_21, dayC_221, dayC_222, neF, dayC, oneB]; done) | (simp [*, neF, dayC, oneB]; done) | with_reducible_and_instances rfl))) O21 O22 O1 hf
            · skip
              try simp only [bI_0, bI_n0, Classical.not_not, Bool.not_eq_false, Bool.true_and, Bool.and_true, decide_eq_true_eq, decide_eq_false_iff_not, dayC_1, dayC_21, dayC_221, dayC_222] at c77
              refine A_iload 82 dX0_lawsNeeded_80 rfl rfl ?_
              refine A_iconst 83 (1) dX0_lawsNeeded_82 rfl (by decide) ?_
              refine A_iload 85 dX0_lawsNeeded_83 rfl rfl ?_
              refine A_ishl 86 dX0_lawsNeeded_85 rfl ?_
              refine A_ior 87 dX0_lawsNeeded_86 rfl ?_
              refine A_istore 89 dX0_lawsNeeded_87 rfl (by decide) (by first | exact (ast_s (ast_s (ast_s (ast_1 rfl)))) | exact (ast_s (ast_s (ast_s ast_k)))) ?_
              first | refine A_iincN 92 dX0_lawsNeeded_89 rfl rfl (by decide) (by first | exact (ast_s (ast_s (ast_s (ast_s (ast_1 rfl))))) | exact (ast_s (ast_s (ast_s (ast_s ast_k))))) ?_ | refine A_iinc 92 (1) dX0_lawsNeeded_89 rfl rfl (by decide) (by decide) (by first | exact (ast_s (ast_s (ast_s (ast_s (ast_1 rfl))))) | exact (ast_s (ast_s (ast_s (ast_s ast_k))))) ?_
              refine A_goto 30 dX0_lawsNeeded_92 (by decide) ?_
              exact ih n0 (Nat.lt_succ_self n0) (i + 1) _ h_4 _ (by omega) ((foldN_s (neF x p ls) (0) i).trans ((congrArg ((neF x p ls) i) ee).trans (by first | with_reducible rfl | (simp only [c19, c40, c49, c77, if_true, if_false, ite_true, ite_false, and_true, true_and, and_false, false_and, and_self, or_true, true_or, or_false, false_or, or_self, not_true_eq_false, not_false_eq_true, decide_true, decide_false, Bool.and_true, Bool.true_and, Bool.and_false, Bool.false_and, Bool.and_self, Bool.or_true, Bool.true_or, Bool.or_false, Bool.false_or, Bool.not_true, Bool.not_false, cond_true, cond_false, bI_t, bI_f, Bool.false_eq_true, Bool.true_eq_false, dayC_1, dayC_21, dayC_221, dayC_222, neF, dayC, oneB]; done) | (simp [*, neF, dayC, oneB]; done) | with_reducible_and_instances rfl))) O21 O22 O1 hf
          · skip
            try simp only [bI_0, bI_n0, Classical.not_not, Bool.not_eq_false, Bool.true_and, Bool.and_true, decide_eq_true_eq, decide_eq_false_iff_not, dayC_1, dayC_21, dayC_221, dayC_222] at c49
            refine A_goto 89 dX0_lawsNeeded_52 (by decide) ?_
            first | refine A_iincN 92 dX0_lawsNeeded_89 rfl rfl (by decide) (by first | exact (ast_s (ast_s (ast_s (ast_s (ast_1 rfl))))) | exact (ast_s (ast_s (ast_s (ast_s ast_k))))) ?_ | refine A_iinc 92 (1) dX0_lawsNeeded_89 rfl rfl (by decide) (by decide) (by first | exact (ast_s (ast_s (ast_s (ast_s (ast_1 rfl))))) | exact (ast_s (ast_s (ast_s (ast_s ast_k))))) ?_
            refine A_goto 30 dX0_lawsNeeded_92 (by decide) ?_
            exact ih n0 (Nat.lt_succ_self n0) (i + 1) _ g30 _ (by omega) ((foldN_s (neF x p ls) (0) i).trans ((congrArg ((neF x p ls) i) ee).trans (by first | with_reducible rfl | (simp only [c19, c40, c49, if_true, if_false, ite_true, ite_false, and_true, true_and, and_false, false_and, and_self, or_true, true_or, or_false, false_or, or_self, not_true_eq_false, not_false_eq_true, decide_true, decide_false, Bool.and_true, Bool.true_and, Bool.and_false, Bool.false_and, Bool.and_self, Bool.or_true, Bool.true_or, Bool.or_false, Bool.false_or, Bool.not_true, Bool.not_false, cond_true, cond_false, bI_t, bI_f, Bool.false_eq_true, Bool.true_eq_false, dayC_1, dayC_21, dayC_221, dayC_222, neF, dayC, oneB]; done) | (simp [*, neF, dayC, oneB]; done) | with_reducible_and_instances rfl))) O21 O22 O1 hf
    exact L30 (10) (0) (_) h_1 (_) (by omega) (rfl) O21 O22 O1 hf
  · skip
    try simp only [bI_0, bI_n0, Classical.not_not, Bool.not_eq_false, Bool.true_and, Bool.and_true, decide_eq_true_eq, decide_eq_false_iff_not, dayC_1, dayC_21, dayC_221, dayC_222] at c19
    refine A_iconst 23 (0) dX0_lawsNeeded_22 rfl (by decide) ?_
    refine A_iret dX0_lawsNeeded_23 rfl ⟨_, rfl, (by unfold neV; rw [if_neg (by simp_all [dayC])]), _, O22, hf⟩
set_option maxHeartbeats 4000000 in
set_option maxRecDepth 100000 in
theorem S_X0_pocketsInDays (X : En) (l : Launch) {h : Hp} {x : PW} {y : PC} (O21 : h 21 = some (alB)) (O22 : h 22 = some (cB 22 y)) (O1 : h 1 = some (wB 1 x)) (hx : LOK x) {p : Int32} {n : Nat} (hn : n ≤ 60) : Ct X l mX0_pocketsInDays [aR 21 0, aR 1 0, aI p, aI (nI n)] h (QI (fun vr h2 => (foldN (pdF x) p n) = vr ∧ ∃ (y1 : PC), h2 (22) = some (cB 22 y1) ∧ ∀ i, i ≠ 22 → h2 i = h i)) := by
  have hf : ∀ i, i ≠ 22 → h i = h i := fun _ _ => rfl
  refine Ct.intro [some (aR 21 0), some (aR 1 0), some (aI p), some (aI (nI n)), none, none] (by decide +kernel) rfl (Nat.le_of_ble_eq_true rfl) ?_
  refine A_iload_n 1 dX0_pocketsInDays_0 rfl rfl rfl ?_
  refine A_istore 3 dX0_pocketsInDays_1 rfl (by decide) (by first | exact (ast_s (ast_s (ast_s (ast_1 rfl)))) | exact (ast_s (ast_s (ast_s ast_k)))) ?_
  refine A_iconst 4 (0) dX0_pocketsInDays_3 rfl (by decide) ?_
  refine A_istore 6 dX0_pocketsInDays_4 rfl (by decide) (by first | exact (ast_s (ast_s (ast_s (ast_s (ast_1 rfl))))) | exact (ast_s (ast_s (ast_s (ast_s ast_k))))) ?_
  have L6 : ∀ (nq i : Nat) (u : Int32) (g6 : Hp) (y0 : PC), (nq + i = n) → (foldN (pdF x) (p) i = (u)) → (g6 21 = some (alB)) → (g6 22 = some (cB 22 y0)) → (g6 1 = some (wB 1 x)) → (∀ i, i ≠ 22 → g6 i = h i) → Av X l mX0_pocketsInDays 6 [some (aR 21 0), some (aR 1 0), some (aI (p)), some (aI (nI (n))), some (aI (u)), some (aI (nI (i)))] [] g6 (QI (fun vr h2 => (foldN (pdF x) p n) = vr ∧ ∃ (y1 : PC), h2 (22) = some (cB 22 y1) ∧ ∀ i, i ≠ 22 → h2 i = h i)) := by
    intro nq
    induction nq using Nat.strongRecOn with
    | _ nq ih =>
    intro i u g6 y0 en ee O21 O22 O1 hf
    refine A_iload 8 dX0_pocketsInDays_6 rfl rfl ?_
    refine A_iload_n 9 dX0_pocketsInDays_8 rfl rfl rfl ?_
    refine A_icmp_ge 39 12 dX0_pocketsInDays_9 (by decide) rfl (fun c9 => ?_) (fun c9 => ?_)
    · skip
      obtain rfl := (up_ge_T (N := n) c9 rfl (by omega) (by omega)).symm
      refine A_iload 41 dX0_pocketsInDays_39 rfl rfl ?_
      refine A_iret dX0_pocketsInDays_41 rfl ⟨_, rfl, (by first | with_reducible rfl | (simp only [if_true, if_false, ite_true, ite_false, and_true, true_and, and_false, false_and, and_self, or_true, true_or, or_false, false_or, or_self, not_true_eq_false, not_false_eq_true, decide_true, decide_false, Bool.and_true, Bool.true_and, Bool.and_false, Bool.false_and, Bool.and_self, Bool.or_true, Bool.true_or, Bool.or_false, Bool.false_or, Bool.not_true, Bool.not_false, cond_true, cond_false, bI_t, bI_f, Bool.false_eq_true, Bool.true_eq_false, dayC_1, dayC_21, dayC_221, dayC_222]; done) | (simp only [*]; done) | (simp [bI, *]; done) | with_reducible_and_instances rfl), _, O22, hf⟩
    · skip
      have hi := up_ge_F (N := n) c9 rfl (by omega) (by omega)
      obtain ⟨n0, rfl⟩ : ∃ q, nq = q + 1 := ⟨nq - 1, by omega⟩
      refine A_aload_n 13 dX0_pocketsInDays_12 rfl rfl rfl ?_
      refine A_getfield 16 dX0_pocketsInDays_13 rfl f_X0_12 O21 rfl ?_
      refine A_aload_n 17 dX0_pocketsInDays_16 rfl rfl rfl ?_
      refine A_iload 19 dX0_pocketsInDays_17 rfl rfl ?_
      refine A_iconst 20 (0) dX0_pocketsInDays_19 rfl (by decide) ?_
      refine A_callVI 23 (S_X1_run X l (by first | assumption | decide | omega | exact Ne.symm (by assumption)) (by first | assumption | decide | omega | exact Ne.symm (by assumption)) (by first | assumption | decide | omega | exact Ne.symm (by assumption)) (by first | assumption | decide | omega | exact Ne.symm (by assumption))) dX0_pocketsInDays_20 rfl kX1_run lk_X0_36 rfl O22 (by decide) rfl (Nat.le_of_ble_eq_true rfl) (fun v_1 h_1 qh_1 => ?_)
      obtain ⟨rfl, n0h_1, eh_1⟩ := qh_1
      replace O21 := (eh_1 _ (by decide)).trans O21
      replace O22 := n0h_1
      replace O1 := (eh_1 _ (by decide)).trans O1
      replace hf : ∀ i, i ≠ 22 → h_1 i = h i := fun i g0 => (eh_1 i g0).trans (hf i g0)
      refine A_pop 24 dX0_pocketsInDays_23 rfl rfl ?_
      refine A_aload_n 25 dX0_pocketsInDays_24 rfl rfl rfl ?_
      refine A_getfield 28 dX0_pocketsInDays_25 rfl f_X0_12 O21 rfl ?_
      refine A_callVI 31 (S_X1_pocketsAtEnd X l (by first | assumption | decide | omega | exact Ne.symm (by assumption))) dX0_pocketsInDays_28 rfl kX1_pocketsAtEnd lk_X0_83 rfl O22 (by decide) rfl (Nat.le_of_ble_eq_true rfl) (fun v_2 h_2 qh_2 => ?_)
      obtain ⟨rfl, rfl⟩ := qh_2
      refine A_istore 33 dX0_pocketsInDays_31 rfl (by decide) (by first | exact (ast_s (ast_s (ast_s (ast_1 rfl)))) | exact (ast_s (ast_s (ast_s ast_k)))) ?_
      first | refine A_iincN 36 dX0_pocketsInDays_33 rfl rfl (by decide) (by first | exact (ast_s (ast_s (ast_s (ast_s (ast_1 rfl))))) | exact (ast_s (ast_s (ast_s (ast_s ast_k))))) ?_ | refine A_iinc 36 (1) dX0_pocketsInDays_33 rfl rfl (by decide) (by decide) (by first | exact (ast_s (ast_s (ast_s (ast_s (ast_1 rfl))))) | exact (ast_s (ast_s (ast_s (ast_s ast_k))))) ?_
      refine A_goto 6 dX0_pocketsInDays_36 (by decide) ?_
      exact ih n0 (Nat.lt_succ_self n0) (i + 1) _ h_1 _ (by omega) ((foldN_s (pdF x) (p) i).trans ((congrArg ((pdF x) i) ee).trans (by first | with_reducible rfl | (simp only [if_true, if_false, ite_true, ite_false, and_true, true_and, and_false, false_and, and_self, or_true, true_or, or_false, false_or, or_self, not_true_eq_false, not_false_eq_true, decide_true, decide_false, Bool.and_true, Bool.true_and, Bool.and_false, Bool.false_and, Bool.and_self, Bool.or_true, Bool.true_or, Bool.or_false, Bool.false_or, Bool.not_true, Bool.not_false, cond_true, cond_false, bI_t, bI_f, Bool.false_eq_true, Bool.true_eq_false, dayC_1, dayC_21, dayC_221, dayC_222, pdF, dayC]; done) | (simp [*, pdF, dayC]; done) | with_reducible_and_instances rfl))) O21 O22 O1 hf
  exact L6 (n) (0) (_) h (_) (by omega) (rfl) O21 O22 O1 hf
set_option maxHeartbeats 4000000 in
set_option maxRecDepth 100000 in
theorem S_X0_lawsInDays (X : En) (l : Launch) {h : Hp} {x : PW} {y : PC} (O21 : h 21 = some (alB)) (O22 : h 22 = some (cB 22 y)) (O1 : h 1 = some (wB 1 x)) (hx : LOK x) {p : Int32} {n : Nat} (hn : n ≤ 60) : Ct X l mX0_lawsInDays [aR 21 0, aR 1 0, aI p, aI (nI n)] h (QI (fun vr h2 => ((foldN (ldF x) (p, 0) n).2) = vr ∧ ∃ (y1 : PC), h2 (22) = some (cB 22 y1) ∧ ∀ i, i ≠ 22 → h2 i = h i)) := by
  have hf : ∀ i, i ≠ 22 → h i = h i := fun _ _ => rfl
  refine Ct.intro [some (aR 21 0), some (aR 1 0), some (aI p), some (aI (nI n)), none, none, none] (by decide +kernel) rfl (Nat.le_of_ble_eq_true rfl) ?_
  refine A_iload_n 1 dX0_lawsInDays_0 rfl rfl rfl ?_
  refine A_istore 3 dX0_lawsInDays_1 rfl (by decide) (by first | exact (ast_s (ast_s (ast_s (ast_1 rfl)))) | exact (ast_s (ast_s (ast_s ast_k)))) ?_
  refine A_iconst 4 (0) dX0_lawsInDays_3 rfl (by decide) ?_
  refine A_istore 6 dX0_lawsInDays_4 rfl (by decide) (by first | exact (ast_s (ast_s (ast_s (ast_s (ast_1 rfl))))) | exact (ast_s (ast_s (ast_s (ast_s ast_k))))) ?_
  refine A_iconst 7 (0) dX0_lawsInDays_6 rfl (by decide) ?_
  refine A_istore 9 dX0_lawsInDays_7 rfl (by decide) (by first | exact (ast_s (ast_s (ast_s (ast_s (ast_s (ast_1 rfl)))))) | exact (ast_s (ast_s (ast_s (ast_s (ast_s ast_k)))))) ?_
  have L9 : ∀ (nq i : Nat) (u v : Int32) (g9 : Hp) (y0 : PC), (nq + i = n) → (foldN (ldF x) ((p, 0)) i = (u, v)) → (g9 21 = some (alB)) → (g9 22 = some (cB 22 y0)) → (g9 1 = some (wB 1 x)) → (∀ i, i ≠ 22 → g9 i = h i) → Av X l mX0_lawsInDays 9 [some (aR 21 0), some (aR 1 0), some (aI (p)), some (aI (nI (n))), some (aI (u)), some (aI (v)), some (aI (nI (i)))] [] g9 (QI (fun vr h2 => ((foldN (ldF x) (p, 0) n).2) = vr ∧ ∃ (y1 : PC), h2 (22) = some (cB 22 y1) ∧ ∀ i, i ≠ 22 → h2 i = h i)) := by
    intro nq
    induction nq using Nat.strongRecOn with
    | _ nq ih =>
    intro i u v g9 y0 en ee O21 O22 O1 hf
    refine A_iload 11 dX0_lawsInDays_9 rfl rfl ?_
    refine A_iload_n 12 dX0_lawsInDays_11 rfl rfl rfl ?_
    refine A_icmp_ge 46 15 dX0_lawsInDays_12 (by decide) rfl (fun c12 => ?_) (fun c12 => ?_)
    · skip
      obtain rfl := (up_ge_T (N := n) c12 rfl (by omega) (by omega)).symm
      refine A_iload 48 dX0_lawsInDays_46 rfl rfl ?_
      refine A_iret dX0_lawsInDays_48 rfl ⟨_, rfl, (by rw [ee]), _, O22, hf⟩
    · skip
      have hi := up_ge_F (N := n) c12 rfl (by omega) (by omega)
      obtain ⟨n0, rfl⟩ : ∃ q, nq = q + 1 := ⟨nq - 1, by omega⟩
      refine A_iload 17 dX0_lawsInDays_15 rfl rfl ?_
      refine A_aload_n 18 dX0_lawsInDays_17 rfl rfl rfl ?_
      refine A_getfield 21 dX0_lawsInDays_18 rfl f_X0_12 O21 rfl ?_
      refine A_aload_n 22 dX0_lawsInDays_21 rfl rfl rfl ?_
      refine A_iload 24 dX0_lawsInDays_22 rfl rfl ?_
      refine A_iconst 25 (0) dX0_lawsInDays_24 rfl (by decide) ?_
      refine A_callVI 28 (S_X1_run X l (by first | assumption | decide | omega | exact Ne.symm (by assumption)) (by first | assumption | decide | omega | exact Ne.symm (by assumption)) (by first | assumption | decide | omega | exact Ne.symm (by assumption)) (by first | assumption | decide | omega | exact Ne.symm (by assumption))) dX0_lawsInDays_25 rfl kX1_run lk_X0_36 rfl O22 (by decide) rfl (Nat.le_of_ble_eq_true rfl) (fun v_1 h_1 qh_1 => ?_)
      obtain ⟨rfl, n0h_1, eh_1⟩ := qh_1
      replace O21 := (eh_1 _ (by decide)).trans O21
      replace O22 := n0h_1
      replace O1 := (eh_1 _ (by decide)).trans O1
      replace hf : ∀ i, i ≠ 22 → h_1 i = h i := fun i g0 => (eh_1 i g0).trans (hf i g0)
      refine A_ior 29 dX0_lawsInDays_28 rfl ?_
      refine A_istore 31 dX0_lawsInDays_29 rfl (by decide) (by first | exact (ast_s (ast_s (ast_s (ast_s (ast_1 rfl))))) | exact (ast_s (ast_s (ast_s (ast_s ast_k))))) ?_
      refine A_aload_n 32 dX0_lawsInDays_31 rfl rfl rfl ?_
      refine A_getfield 35 dX0_lawsInDays_32 rfl f_X0_12 O21 rfl ?_
      refine A_callVI 38 (S_X1_pocketsAtEnd X l (by first | assumption | decide | omega | exact Ne.symm (by assumption))) dX0_lawsInDays_35 rfl kX1_pocketsAtEnd lk_X0_83 rfl O22 (by decide) rfl (Nat.le_of_ble_eq_true rfl) (fun v_2 h_2 qh_2 => ?_)
      obtain ⟨rfl, rfl⟩ := qh_2
      refine A_istore 40 dX0_lawsInDays_38 rfl (by decide) (by first | exact (ast_s (ast_s (ast_s (ast_1 rfl)))) | exact (ast_s (ast_s (ast_s ast_k)))) ?_
      first | refine A_iincN 43 dX0_lawsInDays_40 rfl rfl (by decide) (by first | exact (ast_s (ast_s (ast_s (ast_s (ast_s (ast_1 rfl)))))) | exact (ast_s (ast_s (ast_s (ast_s (ast_s ast_k)))))) ?_ | refine A_iinc 43 (1) dX0_lawsInDays_40 rfl rfl (by decide) (by decide) (by first | exact (ast_s (ast_s (ast_s (ast_s (ast_s (ast_1 rfl)))))) | exact (ast_s (ast_s (ast_s (ast_s (ast_s ast_k)))))) ?_
      refine A_goto 9 dX0_lawsInDays_43 (by decide) ?_
      exact ih n0 (Nat.lt_succ_self n0) (i + 1) _ _ h_1 _ (by omega) ((foldN_s (ldF x) ((p, 0)) i).trans ((congrArg ((ldF x) i) ee).trans (by first | with_reducible rfl | (simp only [if_true, if_false, ite_true, ite_false, and_true, true_and, and_false, false_and, and_self, or_true, true_or, or_false, false_or, or_self, not_true_eq_false, not_false_eq_true, decide_true, decide_false, Bool.and_true, Bool.true_and, Bool.and_false, Bool.false_and, Bool.and_self, Bool.or_true, Bool.true_or, Bool.or_false, Bool.false_or, Bool.not_true, Bool.not_false, cond_true, cond_false, bI_t, bI_f, Bool.false_eq_true, Bool.true_eq_false, dayC_1, dayC_21, dayC_221, dayC_222, ldF, dayC]; done) | (simp [*, ldF, dayC]; done) | with_reducible_and_instances rfl))) O21 O22 O1 hf
  exact L9 (n) (0) (_) (_) h (_) (by omega) (rfl) O21 O22 O1 hf
set_option maxHeartbeats 4000000 in
set_option maxRecDepth 100000 in
theorem S_X3_learn (X : En) (l : Launch) {h : Hp} {g : FI} {q : Nat} (O17 : h 17 = some (guB g q)) {y : PC} {x : PW} {t : FI} {n : Nat} (O18 : h 18 = some (cB 18 y)) (O1 : h 1 = some (wB 1 x)) (O15 : h 15 = some (toB t n)) (hx : LOK x) (hn : n ≤ 16) : Ct X l mX3_learn [aR 17 0, aR 1 0, aR 15 0] h (QV (fun h2 => ∃ (y1 : PC), h2 (17) = some (guB (foldN (leF x t n) (g, 0) 256).1 (foldN (leF x t n) (g, 0) 256).2) ∧ h2 (18) = some (cB 18 y1) ∧ ∀ i, i ≠ 17 → i ≠ 18 → h2 i = h i)) := by
  have hf : ∀ i, i ≠ 17 → i ≠ 18 → h i = h i := fun _ _ _ => rfl
  refine Ct.intro [some (aR 17 0), some (aR 1 0), some (aR 15 0), none] (by decide +kernel) rfl (Nat.le_of_ble_eq_true rfl) ?_
  refine A_aload_n 1 dX3_learn_0 rfl rfl rfl ?_
  refine A_iconst 2 (0) dX3_learn_1 rfl (by decide) ?_
  refine P_X3_2 5 dX3_learn_2 rfl fw_X3_22 O17 (fun h_1 nh_1 eh_1 => ?_)
  replace O17 := nh_1
  replace O18 := (eh_1 _ (by decide)).trans O18
  replace O1 := (eh_1 _ (by decide)).trans O1
  replace O15 := (eh_1 _ (by decide)).trans O15
  replace hf : ∀ i, i ≠ 17 → i ≠ 18 → h_1 i = h i := fun i g0 g1 => (eh_1 i g0).trans (hf i g0 g1)
  refine A_iconst 6 (0) dX3_learn_5 rfl (by decide) ?_
  refine A_istore_n 7 dX3_learn_6 rfl rfl (by decide) (by first | exact (ast_s (ast_s (ast_1 rfl))) | exact (ast_s (ast_s ast_k))) ?_
  have L7 : ∀ (nq i : Nat) (u : FI) (v : Nat) (g7 : Hp) (y0 : PC), (nq + i = 256) → (foldN (leF x t n) ((g, 0)) i = (u, v)) → (v ≤ i) → (g7 17 = some (guB u v)) → (g7 18 = some (cB 18 y0)) → (g7 1 = some (wB 1 x)) → (g7 15 = some (toB t n)) → (∀ i, i ≠ 17 → i ≠ 18 → g7 i = h i) → Av X l mX3_learn 7 [some (aR 17 0), some (aR 1 0), some (aR 15 0), some (aI (nI (i)))] [] g7 (QV (fun h2 => ∃ (y1 : PC), h2 (17) = some (guB (foldN (leF x t n) (g, 0) 256).1 (foldN (leF x t n) (g, 0) 256).2) ∧ h2 (18) = some (cB 18 y1) ∧ ∀ i, i ≠ 17 → i ≠ 18 → h2 i = h i)) := by
    intro nq
    induction nq using Nat.strongRecOn with
    | _ nq ih =>
    intro i u v g7 y0 en ee hy O17 O18 O1 O15 hf
    refine A_iload_n 8 dX3_learn_7 rfl rfl rfl ?_
    refine A_sipush 11 (255) dX3_learn_8 rfl (by decide) ?_
    refine A_icmp_gt 66 14 dX3_learn_11 (by decide) rfl (fun c11 => ?_) (fun c11 => ?_)
    · skip
      obtain rfl := (up_gt_T (N := 256) c11 rfl (by omega) (by omega) (by omega)).symm
      refine A_vret dX3_learn_66 rfl ⟨rfl, _, (by rw [ee]; exact O17), O18, hf⟩
    · skip
      have hi := up_gt_F (N := 256) c11 rfl (by omega) (by omega) (by omega)
      obtain ⟨n0, rfl⟩ : ∃ q, nq = q + 1 := ⟨nq - 1, by omega⟩
      refine A_aload_n 15 dX3_learn_14 rfl rfl rfl ?_
      refine A_getfield 18 dX3_learn_15 rfl f_X3_18 O17 rfl ?_
      refine A_aload_n 19 dX3_learn_18 rfl rfl rfl ?_
      refine A_iload_n 20 dX3_learn_19 rfl rfl rfl ?_
      refine A_iconst 21 (0) dX3_learn_20 rfl (by decide) ?_
      refine A_callVI 24 (S_X1_run X l (by first | assumption | decide | omega | exact Ne.symm (by assumption)) (by first | assumption | decide | omega | exact Ne.symm (by assumption)) (by first | assumption | decide | omega | exact Ne.symm (by assumption)) (by first | assumption | decide | omega | exact Ne.symm (by assumption))) dX3_learn_21 rfl kX1_run lk_X3_26 rfl O18 (by decide) rfl (Nat.le_of_ble_eq_true rfl) (fun v_2 h_2 qh_2 => ?_)
      obtain ⟨rfl, n0h_2, eh_2⟩ := qh_2
      replace O17 := (eh_2 _ (by decide)).trans O17
      replace O18 := n0h_2
      replace O1 := (eh_2 _ (by decide)).trans O1
      replace O15 := (eh_2 _ (by decide)).trans O15
      replace hf : ∀ i, i ≠ 17 → i ≠ 18 → h_2 i = h i := fun i g0 g1 => (eh_2 i g1).trans (hf i g0 g1)
      refine A_pop 25 dX3_learn_24 rfl rfl ?_
      refine A_aload_n 26 dX3_learn_25 rfl rfl rfl ?_
      refine A_aload_n 27 dX3_learn_26 rfl rfl rfl ?_
      refine A_getfield 30 dX3_learn_27 rfl f_X3_18 O17 rfl ?_
      refine A_callVI 33 (S_X7_firstWrong X l (by first | assumption | decide | omega | exact Ne.symm (by assumption)) (by first | assumption | decide | omega | exact Ne.symm (by assumption)) (by first | assumption | decide | omega | exact Ne.symm (by assumption))) dX3_learn_30 rfl kX7_firstWrong lk_X3_30 rfl O15 (by decide) rfl (Nat.le_of_ble_eq_true rfl) (fun v_3 h_3 qh_3 => ?_)
      obtain ⟨rfl, rfl⟩ := qh_3
      refine A_bipush 35 (-9) dX3_learn_33 rfl (by decide) ?_
      refine A_icmp_ne 60 38 dX3_learn_35 (by decide) rfl (fun c35 => ?_) (fun c35 => ?_)
      · skip
        try simp only [bI_0, bI_n0, Classical.not_not, Bool.not_eq_false, Bool.true_and, Bool.and_true, decide_eq_true_eq, decide_eq_false_iff_not, dayC_1, dayC_21, dayC_221, dayC_222] at c35
        first | refine A_iincN 63 dX3_learn_60 rfl rfl (by decide) (by first | exact (ast_s (ast_s (ast_1 rfl))) | exact (ast_s (ast_s ast_k))) ?_ | refine A_iinc 63 (1) dX3_learn_60 rfl rfl (by decide) (by decide) (by first | exact (ast_s (ast_s (ast_1 rfl))) | exact (ast_s (ast_s ast_k))) ?_
        refine A_goto 7 dX3_learn_63 (by decide) ?_
        exact ih n0 (Nat.lt_succ_self n0) (i + 1) _ _ h_2 _ (by omega) ((foldN_s (leF x t n) ((g, 0)) i).trans ((congrArg ((leF x t n) i) ee).trans (by first | with_reducible rfl | (simp only [c35, if_true, if_false, ite_true, ite_false, and_true, true_and, and_false, false_and, and_self, or_true, true_or, or_false, false_or, or_self, not_true_eq_false, not_false_eq_true, decide_true, decide_false, Bool.and_true, Bool.true_and, Bool.and_false, Bool.false_and, Bool.and_self, Bool.or_true, Bool.true_or, Bool.or_false, Bool.false_or, Bool.not_true, Bool.not_false, cond_true, cond_false, bI_t, bI_f, Bool.false_eq_true, Bool.true_eq_false, dayC_1, dayC_21, dayC_221, dayC_222, leF]; done) | (simp [*, leF]; done) | with_reducible_and_instances rfl))) (by omega) O17 O18 O1 O15 hf
      · skip
        try simp only [bI_0, bI_n0, Classical.not_not, Bool.not_eq_false, Bool.true_and, Bool.and_true, decide_eq_true_eq, decide_eq_false_iff_not, dayC_1, dayC_21, dayC_221, dayC_222] at c35
        refine A_aload_n 39 dX3_learn_38 rfl rfl rfl ?_
        refine A_getfield 42 dX3_learn_39 rfl f_X3_9 O17 rfl ?_
        refine A_aload_n 43 dX3_learn_42 rfl rfl rfl ?_
        refine A_getfield 46 dX3_learn_43 rfl f_X3_22 O17 rfl ?_
        refine A_iload_n 47 dX3_learn_46 rfl rfl rfl ?_
        refine A_callNV 50 (S_X9_put_X3_0 X l (by first | assumption | decide | omega | exact Ne.symm (by assumption)) (by first | assumption | exact ix_nI (by omega) (by decide) | exact ix_lit _ rfl (by omega) (by decide) | exact ix_lit _ rfl (by decide) (by decide))) dX3_learn_47 rfl kX9_put nk_X3_36 rfl (by decide) rfl (Nat.le_of_ble_eq_true rfl) (fun h_4 qh_4 => ?_)
        obtain ⟨n0h_4, eh_4⟩ := qh_4
        replace O17 := n0h_4
        replace O18 := (eh_4 _ (by decide)).trans O18
        replace O1 := (eh_4 _ (by decide)).trans O1
        replace O15 := (eh_4 _ (by decide)).trans O15
        replace hf : ∀ i, i ≠ 17 → i ≠ 18 → h_4 i = h i := fun i g0 g1 => (eh_4 i g0).trans (hf i g0 g1)
        refine A_aload_n 51 dX3_learn_50 rfl rfl rfl ?_
        refine A_dup 52 dX3_learn_51 rfl rfl ?_
        refine A_getfield 55 dX3_learn_52 rfl f_X3_22 O17 rfl ?_
        refine A_iconst 56 (1) dX3_learn_55 rfl (by decide) ?_
        refine A_iadd 57 dX3_learn_56 rfl ?_
        rw [n41]
        refine P_X3_2 60 dX3_learn_57 rfl fw_X3_22 O17 (fun h_5 nh_5 eh_5 => ?_)
        replace O17 := nh_5
        replace O18 := (eh_5 _ (by decide)).trans O18
        replace O1 := (eh_5 _ (by decide)).trans O1
        replace O15 := (eh_5 _ (by decide)).trans O15
        replace hf : ∀ i, i ≠ 17 → i ≠ 18 → h_5 i = h i := fun i g0 g1 => (eh_5 i g0).trans (hf i g0 g1)
        first | refine A_iincN 63 dX3_learn_60 rfl rfl (by decide) (by first | exact (ast_s (ast_s (ast_1 rfl))) | exact (ast_s (ast_s ast_k))) ?_ | refine A_iinc 63 (1) dX3_learn_60 rfl rfl (by decide) (by decide) (by first | exact (ast_s (ast_s (ast_1 rfl))) | exact (ast_s (ast_s ast_k))) ?_
        refine A_goto 7 dX3_learn_63 (by decide) ?_
        exact ih n0 (Nat.lt_succ_self n0) (i + 1) _ _ h_5 _ (by omega) ((foldN_s (leF x t n) ((g, 0)) i).trans ((congrArg ((leF x t n) i) ee).trans (by first | with_reducible rfl | (simp only [c35, if_true, if_false, ite_true, ite_false, and_true, true_and, and_false, false_and, and_self, or_true, true_or, or_false, false_or, or_self, not_true_eq_false, not_false_eq_true, decide_true, decide_false, Bool.and_true, Bool.true_and, Bool.and_false, Bool.false_and, Bool.and_self, Bool.or_true, Bool.true_or, Bool.or_false, Bool.false_or, Bool.not_true, Bool.not_false, cond_true, cond_false, bI_t, bI_f, Bool.false_eq_true, Bool.true_eq_false, dayC_1, dayC_21, dayC_221, dayC_222, leF]; done) | (simp only [eq_true c35, if_true, if_false, ite_true, ite_false, and_true, true_and, and_false, false_and, and_self, or_true, true_or, or_false, false_or, or_self, not_true_eq_false, not_false_eq_true, decide_true, decide_false, Bool.and_true, Bool.true_and, Bool.and_false, Bool.false_and, Bool.and_self, Bool.or_true, Bool.true_or, Bool.or_false, Bool.false_or, Bool.not_true, Bool.not_false, cond_true, cond_false, bI_t, bI_f, Bool.false_eq_true, Bool.true_eq_false, dayC_1, dayC_21, dayC_221, dayC_222, leF]; done) | (simp [*, leF]; done) | with_reducible_and_instances rfl))) (by omega) O17 O18 O1 O15 hf
  exact L7 (256) (0) (g) (0) h_1 (_) (by omega) (rfl) (Nat.le_refl 0) O17 O18 O1 O15 hf
set_option maxHeartbeats 4000000 in
set_option maxRecDepth 100000 in
theorem S_X0_fittingParts (X : En) (l : Launch) {h : Hp} {x x2 : PW} {y : PC} {t : FI} {n : Nat} (O21 : h 21 = some (alB)) (O22 : h 22 = some (cB 22 y)) (O24 : h 24 = some (wB 24 x2)) (O1 : h 1 = some (wB 1 x)) (O15 : h 15 = some (toB t n)) (hx : LOK x) (hn : n ≤ 16) {p : Int32} {k j : Nat} (hk : k < 10) (hj : j < 3) : Ct X l mX0_fittingParts [aR 21 0, aR 1 0, aI p, aI (nI k), aI (nI j), aR 15 0] h (QI (fun vr h2 => (foldN (fpF x t n p k j) 0 (valsN j)) = vr ∧ ∃ (y1 : PC) (x3 : PW), h2 (22) = some (cB 22 y1) ∧ h2 (24) = some (wB 24 x3) ∧ ∀ i, i ≠ 22 → i ≠ 24 → h2 i = h i)) := by
  have hv10 : valsN j ≤ 10 := by rcases (show j = 0 ∨ j = 1 ∨ j = 2 by omega) with rfl | rfl | rfl <;> decide
  have hf : ∀ i, i ≠ 22 → i ≠ 24 → h i = h i := fun _ _ _ => rfl
  refine Ct.intro [some (aR 21 0), some (aR 1 0), some (aI p), some (aI (nI k)), some (aI (nI j)), some (aR 15 0), none, none, none] (by decide +kernel) rfl (Nat.le_of_ble_eq_true rfl) ?_
  refine A_joinI 23 (fun v => v = nI (valsN j)) (fun j23 => ?_) (fun v23 e23 => ?_)
  · skip
    refine A_iload 2 dX0_fittingParts_0 rfl rfl ?_
    refine A_if_ne 10 5 dX0_fittingParts_2 (by decide) rfl (fun c2 => ?_) (fun c2 => ?_)
    · skip
      try simp only [bI_0, bI_n0, Classical.not_not, Bool.not_eq_false, Bool.true_and, Bool.and_true, decide_eq_true_eq, decide_eq_false_iff_not, dayC_1, dayC_21, dayC_221, dayC_222] at c2
      refine A_iload 12 dX0_fittingParts_10 rfl rfl ?_
      refine A_iconst 13 (1) dX0_fittingParts_12 rfl (by decide) ?_
      refine A_icmp_ne 21 16 dX0_fittingParts_13 (by decide) rfl (fun c13 => ?_) (fun c13 => ?_)
      · skip
        try simp only [bI_0, bI_n0, Classical.not_not, Bool.not_eq_false, Bool.true_and, Bool.and_true, decide_eq_true_eq, decide_eq_false_iff_not, dayC_1, dayC_21, dayC_221, dayC_222] at c13
        refine A_bipush 23 (8) dX0_fittingParts_21 rfl (by decide) ?_
        exact j23 _ (by rcases (show j = 0 ∨ j = 1 ∨ j = 2 by omega) with rfl | rfl | rfl <;> first | rfl | exact absurd (by decide) c2 | exact absurd c2 (by decide) | exact absurd (by decide) c13 | exact absurd c13 (by decide))
      · skip
        try simp only [bI_0, bI_n0, Classical.not_not, Bool.not_eq_false, Bool.true_and, Bool.and_true, decide_eq_true_eq, decide_eq_false_iff_not, dayC_1, dayC_21, dayC_221, dayC_222] at c13
        refine A_bipush 18 (10) dX0_fittingParts_16 rfl (by decide) ?_
        refine A_goto 23 dX0_fittingParts_18 (by decide) ?_
        exact j23 _ (by rcases (show j = 0 ∨ j = 1 ∨ j = 2 by omega) with rfl | rfl | rfl <;> first | rfl | exact absurd (by decide) c2 | exact absurd c2 (by decide) | exact absurd (by decide) c13 | exact absurd c13 (by decide))
    · skip
      try simp only [bI_0, bI_n0, Classical.not_not, Bool.not_eq_false, Bool.true_and, Bool.and_true, decide_eq_true_eq, decide_eq_false_iff_not, dayC_1, dayC_21, dayC_221, dayC_222] at c2
      refine A_bipush 7 (6) dX0_fittingParts_5 rfl (by decide) ?_
      refine A_goto 23 dX0_fittingParts_7 (by decide) ?_
      exact j23 _ (by rcases (show j = 0 ∨ j = 1 ∨ j = 2 by omega) with rfl | rfl | rfl <;> first | rfl | exact absurd (by decide) c2 | exact absurd c2 (by decide) | exact absurd (by decide) c13 | exact absurd c13 (by decide))
  subst e23
  refine A_istore 25 dX0_fittingParts_23 rfl (by decide) (by first | exact (ast_s (ast_s (ast_s (ast_s (ast_s (ast_1 rfl)))))) | exact (ast_s (ast_s (ast_s (ast_s (ast_s ast_k)))))) ?_
  refine A_iconst 26 (0) dX0_fittingParts_25 rfl (by decide) ?_
  refine A_istore 28 dX0_fittingParts_26 rfl (by decide) (by first | exact (ast_s (ast_s (ast_s (ast_s (ast_s (ast_s (ast_1 rfl))))))) | exact (ast_s (ast_s (ast_s (ast_s (ast_s (ast_s ast_k))))))) ?_
  refine A_aload_n 29 dX0_fittingParts_28 rfl rfl rfl ?_
  refine A_getfield 32 dX0_fittingParts_29 rfl f_X0_24 O21 rfl ?_
  refine A_aload_n 33 dX0_fittingParts_32 rfl rfl rfl ?_
  refine A_callVV 36 (S_X8_copyFrom X l (by first | assumption | decide | omega | exact Ne.symm (by assumption)) (by first | assumption | decide | omega | exact Ne.symm (by assumption)) (by first | assumption | decide | omega | exact Ne.symm (by assumption))) dX0_fittingParts_33 rfl kX8_copyFrom lk_X0_28 rfl O24 (by decide) rfl (Nat.le_of_ble_eq_true rfl) (fun h_1 qh_1 => ?_)
  obtain ⟨n0h_1, eh_1⟩ := qh_1
  replace O21 := (eh_1 _ (by decide)).trans O21
  replace O22 := (eh_1 _ (by decide)).trans O22
  replace O24 := n0h_1
  replace O1 := (eh_1 _ (by decide)).trans O1
  replace O15 := (eh_1 _ (by decide)).trans O15
  replace hf : ∀ i, i ≠ 22 → i ≠ 24 → h_1 i = h i := fun i g0 g1 => (eh_1 i g1).trans (hf i g0 g1)
  refine A_iconst 37 (0) dX0_fittingParts_36 rfl (by decide) ?_
  refine A_istore 39 dX0_fittingParts_37 rfl (by decide) (by first | exact (ast_s (ast_s (ast_s (ast_s (ast_s (ast_s (ast_s (ast_1 rfl)))))))) | exact (ast_s (ast_s (ast_s (ast_s (ast_s (ast_s (ast_s ast_k)))))))) ?_
  have L39 : ∀ (nq i : Nat) (u : Int32) (g39 : Hp) (y0 : PC) (x0 : PW), (nq + i = valsN j) → (foldN (fpF x t n p k j) (0) i = (u)) → (∀ v, setP x0 k j v = setP x k j v) → (g39 21 = some (alB)) → (g39 22 = some (cB 22 y0)) → (g39 24 = some (wB 24 x0)) → (g39 1 = some (wB 1 x)) → (g39 15 = some (toB t n)) → (∀ i, i ≠ 22 → i ≠ 24 → g39 i = h i) → Av X l mX0_fittingParts 39 [some (aR 21 0), some (aR 1 0), some (aI (p)), some (aI (nI (k))), some (aI (nI (j))), some (aR 15 0), some (aI (nI ((valsN j)))), some (aI (u)), some (aI (nI (i)))] [] g39 (QI (fun vr h2 => (foldN (fpF x t n p k j) 0 (valsN j)) = vr ∧ ∃ (y1 : PC) (x3 : PW), h2 (22) = some (cB 22 y1) ∧ h2 (24) = some (wB 24 x3) ∧ ∀ i, i ≠ 22 → i ≠ 24 → h2 i = h i)) := by
    intro nq
    induction nq using Nat.strongRecOn with
    | _ nq ih =>
    intro i u g39 y0 x0 en ee hy O21 O22 O24 O1 O15 hf
    refine A_iload 41 dX0_fittingParts_39 rfl rfl ?_
    refine A_iload 43 dX0_fittingParts_41 rfl rfl ?_
    refine A_icmp_ge 101 46 dX0_fittingParts_43 (by decide) rfl (fun c43 => ?_) (fun c43 => ?_)
    · skip
      obtain rfl := (up_ge_T (N := valsN j) c43 rfl (by omega) (by omega)).symm
      refine A_iload 103 dX0_fittingParts_101 rfl rfl ?_
      refine A_iret dX0_fittingParts_103 rfl ⟨_, rfl, (by first | with_reducible rfl | (simp only [if_true, if_false, ite_true, ite_false, and_true, true_and, and_false, false_and, and_self, or_true, true_or, or_false, false_or, or_self, not_true_eq_false, not_false_eq_true, decide_true, decide_false, Bool.and_true, Bool.true_and, Bool.and_false, Bool.false_and, Bool.and_self, Bool.or_true, Bool.true_or, Bool.or_false, Bool.false_or, Bool.not_true, Bool.not_false, cond_true, cond_false, bI_t, bI_f, Bool.false_eq_true, Bool.true_eq_false, dayC_1, dayC_21, dayC_221, dayC_222]; done) | (simp only [*]; done) | (simp [bI, *]; done) | with_reducible_and_instances rfl), _, _, O22, O24, hf⟩
    · skip
      have hi := up_ge_F (N := valsN j) c43 rfl (by omega) (by omega)
      obtain ⟨n0, rfl⟩ : ∃ q, nq = q + 1 := ⟨nq - 1, by omega⟩
      refine A_aload_n 47 dX0_fittingParts_46 rfl rfl rfl ?_
      refine A_getfield 50 dX0_fittingParts_47 rfl f_X0_24 O21 rfl ?_
      refine A_iload_n 51 dX0_fittingParts_50 rfl rfl rfl ?_
      refine A_iload 53 dX0_fittingParts_51 rfl rfl ?_
      refine A_iload 55 dX0_fittingParts_53 rfl rfl ?_
      refine A_callVV 58 (S_X8_setLawPart X l O24 hk (show j < 4 by omega) rfl) dX0_fittingParts_55 rfl kX8_setLawPart lk_X0_32 rfl O24 (by decide) rfl (Nat.le_of_ble_eq_true rfl) (fun h_2 qh_2 => ?_)
      obtain ⟨n0h_2, eh_2⟩ := qh_2
      replace O21 := (eh_2 _ (by decide)).trans O21
      replace O22 := (eh_2 _ (by decide)).trans O22
      replace O24 := n0h_2
      replace O1 := (eh_2 _ (by decide)).trans O1
      replace O15 := (eh_2 _ (by decide)).trans O15
      replace hf : ∀ i, i ≠ 22 → i ≠ 24 → h_2 i = h i := fun i g0 g1 => (eh_2 i g1).trans (hf i g0 g1)
      replace O24 : h_2 24 = some (wB 24 (setP x k j (nI i))) := by rw [← hy]; exact O24
      have hL := hx.sP (k := k) hj hi
      refine A_aload_n 59 dX0_fittingParts_58 rfl rfl rfl ?_
      refine A_getfield 62 dX0_fittingParts_59 rfl f_X0_12 O21 rfl ?_
      refine A_aload_n 63 dX0_fittingParts_62 rfl rfl rfl ?_
      refine A_getfield 66 dX0_fittingParts_63 rfl f_X0_24 O21 rfl ?_
      refine A_iload_n 67 dX0_fittingParts_66 rfl rfl rfl ?_
      refine A_iconst 68 (0) dX0_fittingParts_67 rfl (by decide) ?_
      refine A_callVI 71 (S_X1_run X l (by first | assumption | decide | omega | exact Ne.symm (by assumption)) (by first | assumption | decide | omega | exact Ne.symm (by assumption)) (by first | assumption | decide | omega | exact Ne.symm (by assumption)) (by first | assumption | decide | omega | exact Ne.symm (by assumption))) dX0_fittingParts_68 rfl kX1_run lk_X0_36 rfl O22 (by decide) rfl (Nat.le_of_ble_eq_true rfl) (fun v_3 h_3 qh_3 => ?_)
      obtain ⟨rfl, n0h_3, eh_3⟩ := qh_3
      replace O21 := (eh_3 _ (by decide)).trans O21
      replace O22 := n0h_3
      replace O24 := (eh_3 _ (by decide)).trans O24
      replace O1 := (eh_3 _ (by decide)).trans O1
      replace O15 := (eh_3 _ (by decide)).trans O15
      replace hf : ∀ i, i ≠ 22 → i ≠ 24 → h_3 i = h i := fun i g0 g1 => (eh_3 i g0).trans (hf i g0 g1)
      refine A_pop 72 dX0_fittingParts_71 rfl rfl ?_
      refine A_aload 74 dX0_fittingParts_72 rfl rfl ?_
      refine A_aload_n 75 dX0_fittingParts_74 rfl rfl rfl ?_
      refine A_getfield 78 dX0_fittingParts_75 rfl f_X0_12 O21 rfl ?_
      refine A_callVI 81 (S_X7_firstWrong X l (by first | assumption | decide | omega | exact Ne.symm (by assumption)) (by first | assumption | decide | omega | exact Ne.symm (by assumption)) (by first | assumption | decide | omega | exact Ne.symm (by assumption))) dX0_fittingParts_78 rfl kX7_firstWrong lk_X0_40 rfl O15 (by decide) rfl (Nat.le_of_ble_eq_true rfl) (fun v_4 h_4 qh_4 => ?_)
      obtain ⟨rfl, rfl⟩ := qh_4
      refine A_bipush 83 (-9) dX0_fittingParts_81 rfl (by decide) ?_
      refine A_icmp_ne 95 86 dX0_fittingParts_83 (by decide) rfl (fun c83 => ?_) (fun c83 => ?_)
      · skip
        try simp only [bI_0, bI_n0, Classical.not_not, Bool.not_eq_false, Bool.true_and, Bool.and_true, decide_eq_true_eq, decide_eq_false_iff_not, dayC_1, dayC_21, dayC_221, dayC_222] at c83
        first | refine A_iincN 98 dX0_fittingParts_95 rfl rfl (by decide) (by first | exact (ast_s (ast_s (ast_s (ast_s (ast_s (ast_s (ast_s (ast_1 rfl)))))))) | exact (ast_s (ast_s (ast_s (ast_s (ast_s (ast_s (ast_s ast_k)))))))) ?_ | refine A_iinc 98 (1) dX0_fittingParts_95 rfl rfl (by decide) (by decide) (by first | exact (ast_s (ast_s (ast_s (ast_s (ast_s (ast_s (ast_s (ast_1 rfl)))))))) | exact (ast_s (ast_s (ast_s (ast_s (ast_s (ast_s (ast_s ast_k)))))))) ?_
        refine A_goto 39 dX0_fittingParts_98 (by decide) ?_
        exact ih n0 (Nat.lt_succ_self n0) (i + 1) _ h_3 _ _ (by omega) ((foldN_s (fpF x t n p k j) (0) i).trans ((congrArg ((fpF x t n p k j) i) ee).trans (by first | with_reducible rfl | (simp only [c83, if_true, if_false, ite_true, ite_false, and_true, true_and, and_false, false_and, and_self, or_true, true_or, or_false, false_or, or_self, not_true_eq_false, not_false_eq_true, decide_true, decide_false, Bool.and_true, Bool.true_and, Bool.and_false, Bool.false_and, Bool.and_self, Bool.or_true, Bool.true_or, Bool.or_false, Bool.false_or, Bool.not_true, Bool.not_false, cond_true, cond_false, bI_t, bI_f, Bool.false_eq_true, Bool.true_eq_false, dayC_1, dayC_21, dayC_221, dayC_222, fpF, dayC, oneB]; done) | (simp [*, fpF, dayC, oneB]; done) | with_reducible_and_instances rfl))) (fun v => setP_setP x k j (nI i) v) O21 O22 O24 O1 O15 hf
      · skip
        try simp only [bI_0, bI_n0, Classical.not_not, Bool.not_eq_false, Bool.true_and, Bool.and_true, decide_eq_true_eq, decide_eq_false_iff_not, dayC_1, dayC_21, dayC_221, dayC_222] at c83
        refine A_iload 88 dX0_fittingParts_86 rfl rfl ?_
        refine A_iconst 89 (1) dX0_fittingParts_88 rfl (by decide) ?_
        refine A_iload 91 dX0_fittingParts_89 rfl rfl ?_
        refine A_ishl 92 dX0_fittingParts_91 rfl ?_
        refine A_ior 93 dX0_fittingParts_92 rfl ?_
        refine A_istore 95 dX0_fittingParts_93 rfl (by decide) (by first | exact (ast_s (ast_s (ast_s (ast_s (ast_s (ast_s (ast_1 rfl))))))) | exact (ast_s (ast_s (ast_s (ast_s (ast_s (ast_s ast_k))))))) ?_
        first | refine A_iincN 98 dX0_fittingParts_95 rfl rfl (by decide) (by first | exact (ast_s (ast_s (ast_s (ast_s (ast_s (ast_s (ast_s (ast_1 rfl)))))))) | exact (ast_s (ast_s (ast_s (ast_s (ast_s (ast_s (ast_s ast_k)))))))) ?_ | refine A_iinc 98 (1) dX0_fittingParts_95 rfl rfl (by decide) (by decide) (by first | exact (ast_s (ast_s (ast_s (ast_s (ast_s (ast_s (ast_s (ast_1 rfl)))))))) | exact (ast_s (ast_s (ast_s (ast_s (ast_s (ast_s (ast_s ast_k)))))))) ?_
        refine A_goto 39 dX0_fittingParts_98 (by decide) ?_
        exact ih n0 (Nat.lt_succ_self n0) (i + 1) _ h_3 _ _ (by omega) ((foldN_s (fpF x t n p k j) (0) i).trans ((congrArg ((fpF x t n p k j) i) ee).trans (by first | with_reducible rfl | (simp only [c83, if_true, if_false, ite_true, ite_false, and_true, true_and, and_false, false_and, and_self, or_true, true_or, or_false, false_or, or_self, not_true_eq_false, not_false_eq_true, decide_true, decide_false, Bool.and_true, Bool.true_and, Bool.and_false, Bool.false_and, Bool.and_self, Bool.or_true, Bool.true_or, Bool.or_false, Bool.false_or, Bool.not_true, Bool.not_false, cond_true, cond_false, bI_t, bI_f, Bool.false_eq_true, Bool.true_eq_false, dayC_1, dayC_21, dayC_221, dayC_222, fpF, dayC, oneB]; done) | (simp only [eq_true c83, if_true, if_false, ite_true, ite_false, and_true, true_and, and_false, false_and, and_self, or_true, true_or, or_false, false_or, or_self, not_true_eq_false, not_false_eq_true, decide_true, decide_false, Bool.and_true, Bool.true_and, Bool.and_false, Bool.false_and, Bool.and_self, Bool.or_true, Bool.true_or, Bool.or_false, Bool.false_or, Bool.not_true, Bool.not_false, cond_true, cond_false, bI_t, bI_f, Bool.false_eq_true, Bool.true_eq_false, dayC_1, dayC_21, dayC_221, dayC_222, fpF, dayC, oneB]; done) | (simp [*, fpF, dayC, oneB]; done) | with_reducible_and_instances rfl))) (fun v => setP_setP x k j (nI i) v) O21 O22 O24 O1 O15 hf
  exact L39 (valsN j) (0) (_) h_1 (_) (_) (by omega) (rfl) (fun _ => rfl) O21 O22 O24 O1 O15 hf
set_option maxHeartbeats 4000000 in
set_option maxRecDepth 100000 in
theorem S_X0_latestFigure (X : En) (l : Launch) {h : Hp} {x x2 : PW} {y : PC} (O21 : h 21 = some (alB)) (O22 : h 22 = some (cB 22 y)) (O24 : h 24 = some (wB 24 x2)) (O1 : h 1 = some (wB 1 x)) (hx : LOK x) {p : Int32} {k : Nat} (hk : k < 10) : Ct X l mX0_latestFigure [aR 21 0, aR 1 0, aI p, aI (nI k)] h (QI (fun vr h2 => (latN x p k 10) = vr ∧ ∃ (y1 : PC) (x3 : PW), h2 (22) = some (cB 22 y1) ∧ h2 (24) = some (wB 24 x3) ∧ ∀ i, i ≠ 22 → i ≠ 24 → h2 i = h i)) := by
  have hf : ∀ i, i ≠ 22 → i ≠ 24 → h i = h i := fun _ _ _ => rfl
  refine Ct.intro [some (aR 21 0), some (aR 1 0), some (aI p), some (aI (nI k)), none] (by decide +kernel) rfl (Nat.le_of_ble_eq_true rfl) ?_
  refine A_aload_n 1 dX0_latestFigure_0 rfl rfl rfl ?_
  refine A_getfield 4 dX0_latestFigure_1 rfl f_X0_24 O21 rfl ?_
  refine A_aload_n 5 dX0_latestFigure_4 rfl rfl rfl ?_
  refine A_callVV 8 (S_X8_copyFrom X l (by first | assumption | decide | omega | exact Ne.symm (by assumption)) (by first | assumption | decide | omega | exact Ne.symm (by assumption)) (by first | assumption | decide | omega | exact Ne.symm (by assumption))) dX0_latestFigure_5 rfl kX8_copyFrom lk_X0_28 rfl O24 (by decide) rfl (Nat.le_of_ble_eq_true rfl) (fun h_1 qh_1 => ?_)
  obtain ⟨n0h_1, eh_1⟩ := qh_1
  replace O21 := (eh_1 _ (by decide)).trans O21
  replace O22 := (eh_1 _ (by decide)).trans O22
  replace O24 := n0h_1
  replace O1 := (eh_1 _ (by decide)).trans O1
  replace hf : ∀ i, i ≠ 22 → i ≠ 24 → h_1 i = h i := fun i g0 g1 => (eh_1 i g1).trans (hf i g0 g1)
  refine A_bipush 10 (9) dX0_latestFigure_8 rfl (by decide) ?_
  refine A_istore 12 dX0_latestFigure_10 rfl (by decide) (by first | exact (ast_s (ast_s (ast_s (ast_1 rfl)))) | exact (ast_s (ast_s (ast_s ast_k)))) ?_
  have L12 : ∀ (i : Nat)  (g12 : Hp) (y0 : PC) (x0 : PW), (i ≤ 10) → (latN x p k i = latN x p k 10) → (∀ v, setP x0 k 1 v = setP x k 1 v) → (g12 21 = some (alB)) → (g12 22 = some (cB 22 y0)) → (g12 24 = some (wB 24 x0)) → (g12 1 = some (wB 1 x)) → (∀ i, i ≠ 22 → i ≠ 24 → g12 i = h i) → Av X l mX0_latestFigure 12 [some (aR 21 0), some (aR 1 0), some (aI (p)), some (aI (nI (k))), some (aI (nI (i) - 1))] [] g12 (QI (fun vr h2 => (latN x p k 10) = vr ∧ ∃ (y1 : PC) (x3 : PW), h2 (22) = some (cB 22 y1) ∧ h2 (24) = some (wB 24 x3) ∧ ∀ i, i ≠ 22 → i ≠ 24 → h2 i = h i)) := by
    intro i
    induction i using Nat.strongRecOn with
    | _ i ih =>
    intro g12 y0 x0 en ee hy O21 O22 O24 O1 hf
    refine A_iload 14 dX0_latestFigure_12 rfl rfl ?_
    refine A_if_lt 62 17 dX0_latestFigure_14 (by decide) rfl (fun c14 => ?_) (fun c14 => ?_)
    · skip
      obtain rfl := dn_T c14 (by omega)
      refine A_bipush 64 (-9) dX0_latestFigure_62 rfl (by decide) ?_
      refine A_iret dX0_latestFigure_64 rfl ⟨_, rfl, (by rw [← ee]; rfl), _, _, O22, O24, hf⟩
    · skip
      obtain ⟨i0, rfl⟩ := dn_F c14
      have hi : i0 < 10 := by omega
      rw [dn_s]
      refine A_aload_n 18 dX0_latestFigure_17 rfl rfl rfl ?_
      refine A_getfield 21 dX0_latestFigure_18 rfl f_X0_24 O21 rfl ?_
      refine A_iload_n 22 dX0_latestFigure_21 rfl rfl rfl ?_
      refine A_iconst 23 (1) dX0_latestFigure_22 rfl (by decide) ?_
      refine A_iload 25 dX0_latestFigure_23 rfl rfl ?_
      refine A_callVV 28 (S_X8_setLawPart X l O24 hk (show 1 < 4 by decide) rfl) dX0_latestFigure_25 rfl kX8_setLawPart lk_X0_32 rfl O24 (by decide) rfl (Nat.le_of_ble_eq_true rfl) (fun h_2 qh_2 => ?_)
      obtain ⟨n0h_2, eh_2⟩ := qh_2
      replace O21 := (eh_2 _ (by decide)).trans O21
      replace O22 := (eh_2 _ (by decide)).trans O22
      replace O24 := n0h_2
      replace O1 := (eh_2 _ (by decide)).trans O1
      replace hf : ∀ i, i ≠ 22 → i ≠ 24 → h_2 i = h i := fun i g0 g1 => (eh_2 i g1).trans (hf i g0 g1)
      replace O24 : h_2 24 = some (wB 24 (setP x k 1 (nI i0))) := by rw [← hy]; exact O24
      have hL := hx.sP (k := k) (j := 1) (i := i0) (by decide) (by show i0 < 10; omega)
      refine A_aload_n 29 dX0_latestFigure_28 rfl rfl rfl ?_
      refine A_getfield 32 dX0_latestFigure_29 rfl f_X0_12 O21 rfl ?_
      refine A_aload_n 33 dX0_latestFigure_32 rfl rfl rfl ?_
      refine A_getfield 36 dX0_latestFigure_33 rfl f_X0_24 O21 rfl ?_
      refine A_iload_n 37 dX0_latestFigure_36 rfl rfl rfl ?_
      refine A_iconst 38 (0) dX0_latestFigure_37 rfl (by decide) ?_
      refine A_callVI 41 (S_X1_run X l (by first | assumption | decide | omega | exact Ne.symm (by assumption)) (by first | assumption | decide | omega | exact Ne.symm (by assumption)) (by first | assumption | decide | omega | exact Ne.symm (by assumption)) (by first | assumption | decide | omega | exact Ne.symm (by assumption))) dX0_latestFigure_38 rfl kX1_run lk_X0_36 rfl O22 (by decide) rfl (Nat.le_of_ble_eq_true rfl) (fun v_3 h_3 qh_3 => ?_)
      obtain ⟨rfl, n0h_3, eh_3⟩ := qh_3
      replace O21 := (eh_3 _ (by decide)).trans O21
      replace O22 := n0h_3
      replace O24 := (eh_3 _ (by decide)).trans O24
      replace O1 := (eh_3 _ (by decide)).trans O1
      replace hf : ∀ i, i ≠ 22 → i ≠ 24 → h_3 i = h i := fun i g0 g1 => (eh_3 i g0).trans (hf i g0 g1)
      refine A_pop 42 dX0_latestFigure_41 rfl rfl ?_
      refine A_aload_n 43 dX0_latestFigure_42 rfl rfl rfl ?_
      refine A_getfield 46 dX0_latestFigure_43 rfl f_X0_12 O21 rfl ?_
      refine A_iload_n 47 dX0_latestFigure_46 rfl rfl rfl ?_
      refine A_callVI 50 (S_X1_does X l (by first | assumption | decide | omega | exact Ne.symm (by assumption))) dX0_latestFigure_47 rfl kX1_does lk_X0_72 rfl O22 (by decide) rfl (Nat.le_of_ble_eq_true rfl) (fun v_4 h_4 qh_4 => ?_)
      obtain ⟨rfl, rfl⟩ := qh_4
      refine A_if_eq 56 53 dX0_latestFigure_50 (by decide) rfl (fun c50 => ?_) (fun c50 => ?_)
      · skip
        try simp only [bI_0, bI_n0, Classical.not_not, Bool.not_eq_false, Bool.true_and, Bool.and_true, decide_eq_true_eq, decide_eq_false_iff_not, dayC_1, dayC_21, dayC_221, dayC_222] at c50
        first | refine A_idecN 59 dX0_latestFigure_56 rfl rfl (by decide) (by first | exact (ast_s (ast_s (ast_s (ast_1 rfl)))) | exact (ast_s (ast_s (ast_s ast_k)))) ?_ | refine A_iinc 59 (-1) dX0_latestFigure_56 rfl rfl (by decide) (by decide) (by first | exact (ast_s (ast_s (ast_s (ast_1 rfl)))) | exact (ast_s (ast_s (ast_s ast_k)))) ?_
        refine A_goto 12 dX0_latestFigure_59 (by decide) ?_
        exact ih i0 (Nat.lt_succ_self i0)  h_3 _ _ (by omega) (Eq.trans (by rw [latN_s, if_neg (by simp_all [dayC])]) ee) (fun v => setP_setP x k 1 (nI i0) v) O21 O22 O24 O1 hf
      · skip
        try simp only [bI_0, bI_n0, Classical.not_not, Bool.not_eq_false, Bool.true_and, Bool.and_true, decide_eq_true_eq, decide_eq_false_iff_not, dayC_1, dayC_21, dayC_221, dayC_222] at c50
        refine A_iload 55 dX0_latestFigure_53 rfl rfl ?_
        refine A_iret dX0_latestFigure_55 rfl ⟨_, rfl, (by rw [← ee, latN_s, if_pos (by simp_all [dayC])]), _, _, O22, O24, hf⟩
  rw [show (9 : Int32) = nI 10 - 1 from rfl]
  exact L12 (10)  h_1 (_) (_) (by omega) (rfl) (fun _ => rfl) O21 O22 O24 O1 hf
set_option maxHeartbeats 4000000 in
set_option maxRecDepth 100000 in
theorem S_X0_idleThings (X : En) (l : Launch) {h : Hp} {x : PW} {y z : PC} (O21 : h 21 = some (alB)) (O22 : h 22 = some (cB 22 y)) (O23 : h 23 = some (cB 23 z)) (O1 : h 1 = some (wB 1 x)) (hx : LOK x) {p : Int32} : Ct X l mX0_idleThings [aR 21 0, aR 1 0, aI p] h (QI (fun vr h2 => (foldN (itF x p) 0 8) = vr ∧ ∃ (y1 : PC) (z1 : PC), h2 (22) = some (cB 22 y1) ∧ h2 (23) = some (cB 23 z1) ∧ ∀ i, i ≠ 22 → i ≠ 23 → h2 i = h i)) := by
  have hf : ∀ i, i ≠ 22 → i ≠ 23 → h i = h i := fun _ _ _ => rfl
  refine Ct.intro [some (aR 21 0), some (aR 1 0), some (aI p), none, none] (by decide +kernel) rfl (Nat.le_of_ble_eq_true rfl) ?_
  refine A_aload_n 1 dX0_idleThings_0 rfl rfl rfl ?_
  refine A_getfield 4 dX0_idleThings_1 rfl f_X0_12 O21 rfl ?_
  refine A_aload_n 5 dX0_idleThings_4 rfl rfl rfl ?_
  refine A_iload_n 6 dX0_idleThings_5 rfl rfl rfl ?_
  refine A_iconst 7 (0) dX0_idleThings_6 rfl (by decide) ?_
  refine A_callVI 10 (S_X1_run X l (by first | assumption | decide | omega | exact Ne.symm (by assumption)) (by first | assumption | decide | omega | exact Ne.symm (by assumption)) (by first | assumption | decide | omega | exact Ne.symm (by assumption)) (by first | assumption | decide | omega | exact Ne.symm (by assumption))) dX0_idleThings_7 rfl kX1_run lk_X0_36 rfl O22 (by decide) rfl (Nat.le_of_ble_eq_true rfl) (fun v_1 h_1 qh_1 => ?_)
  obtain ⟨rfl, n0h_1, eh_1⟩ := qh_1
  replace O21 := (eh_1 _ (by decide)).trans O21
  replace O22 := n0h_1
  replace O23 := (eh_1 _ (by decide)).trans O23
  replace O1 := (eh_1 _ (by decide)).trans O1
  replace hf : ∀ i, i ≠ 22 → i ≠ 23 → h_1 i = h i := fun i g0 g1 => (eh_1 i g0).trans (hf i g0 g1)
  refine A_pop 11 dX0_idleThings_10 rfl rfl ?_
  refine A_iconst 12 (0) dX0_idleThings_11 rfl (by decide) ?_
  refine A_istore_n 13 dX0_idleThings_12 rfl rfl (by decide) (by first | exact (ast_s (ast_s (ast_1 rfl))) | exact (ast_s (ast_s ast_k))) ?_
  refine A_iconst 14 (0) dX0_idleThings_13 rfl (by decide) ?_
  refine A_istore 16 dX0_idleThings_14 rfl (by decide) (by first | exact (ast_s (ast_s (ast_s (ast_1 rfl)))) | exact (ast_s (ast_s (ast_s ast_k)))) ?_
  have L16 : ∀ (nq i : Nat) (u : Int32) (g16 : Hp) (z0 : PC), (nq + i = 8) → (foldN (itF x p) (0) i = (u)) → (g16 21 = some (alB)) → (g16 22 = some (cB 22 (dayC x 0 p))) → (g16 23 = some (cB 23 z0)) → (g16 1 = some (wB 1 x)) → (∀ i, i ≠ 22 → i ≠ 23 → g16 i = h i) → Av X l mX0_idleThings 16 [some (aR 21 0), some (aR 1 0), some (aI (p)), some (aI (u)), some (aI (nI (i)))] [] g16 (QI (fun vr h2 => (foldN (itF x p) 0 8) = vr ∧ ∃ (y1 : PC) (z1 : PC), h2 (22) = some (cB 22 y1) ∧ h2 (23) = some (cB 23 z1) ∧ ∀ i, i ≠ 22 → i ≠ 23 → h2 i = h i)) := by
    intro nq
    induction nq using Nat.strongRecOn with
    | _ nq ih =>
    intro i u g16 z0 en ee O21 O22 O23 O1 hf
    refine A_iload 18 dX0_idleThings_16 rfl rfl ?_
    refine A_bipush 20 (8) dX0_idleThings_18 rfl (by decide) ?_
    refine A_icmp_ge 82 23 dX0_idleThings_20 (by decide) rfl (fun c20 => ?_) (fun c20 => ?_)
    · skip
      obtain rfl := (up_ge_T (N := 8) c20 rfl (by omega) (by omega)).symm
      refine A_iload_n 83 dX0_idleThings_82 rfl rfl rfl ?_
      refine A_iret dX0_idleThings_83 rfl ⟨_, rfl, (by first | with_reducible rfl | (simp only [if_true, if_false, ite_true, ite_false, and_true, true_and, and_false, false_and, and_self, or_true, true_or, or_false, false_or, or_self, not_true_eq_false, not_false_eq_true, decide_true, decide_false, Bool.and_true, Bool.true_and, Bool.and_false, Bool.false_and, Bool.and_self, Bool.or_true, Bool.true_or, Bool.or_false, Bool.false_or, Bool.not_true, Bool.not_false, cond_true, cond_false, bI_t, bI_f, Bool.false_eq_true, Bool.true_eq_false, dayC_1, dayC_21, dayC_221, dayC_222]; done) | (simp only [*]; done) | (simp [bI, *]; done) | with_reducible_and_instances rfl), _, _, O22, O23, hf⟩
    · skip
      have hi := up_ge_F (N := 8) c20 rfl (by omega) (by omega)
      obtain ⟨n0, rfl⟩ : ∃ q, nq = q + 1 := ⟨nq - 1, by omega⟩
      have t8 := inT_nI hi
      refine A_iload_n 24 dX0_idleThings_23 rfl rfl rfl ?_
      refine A_iload 26 dX0_idleThings_24 rfl rfl ?_
      refine A_callNI 29 (S_X9_hasThing X l) dX0_idleThings_26 rfl kX9_hasThing nk_X0_46 rfl (by decide) rfl (Nat.le_of_ble_eq_true rfl) (fun v_2 h_2 qh_2 => ?_)
      obtain ⟨rfl, rfl⟩ := qh_2
      refine A_if_ne 35 32 dX0_idleThings_29 (by decide) rfl (fun c29 => ?_) (fun c29 => ?_)
      · skip
        try simp only [bI_0, bI_n0, Classical.not_not, Bool.not_eq_false, Bool.true_and, Bool.and_true, decide_eq_true_eq, decide_eq_false_iff_not, dayC_1, dayC_21, dayC_221, dayC_222, t8] at c29
        refine A_aload_n 36 dX0_idleThings_35 rfl rfl rfl ?_
        refine A_getfield 39 dX0_idleThings_36 rfl f_X0_18 O21 rfl ?_
        refine A_aload_n 40 dX0_idleThings_39 rfl rfl rfl ?_
        refine A_iload_n 41 dX0_idleThings_40 rfl rfl rfl ?_
        refine A_iload 43 dX0_idleThings_41 rfl rfl ?_
        refine A_callNI 46 (S_X9_thingBit X l) dX0_idleThings_43 rfl kX9_thingBit nk_X0_53 rfl (by decide) rfl (Nat.le_of_ble_eq_true rfl) (fun v_3 h_3 qh_3 => ?_)
        obtain ⟨rfl, rfl⟩ := qh_3
        refine A_iconst 47 (-1) dX0_idleThings_46 rfl (by decide) ?_
        refine A_ixor 48 dX0_idleThings_47 rfl ?_
        refine A_iand 49 dX0_idleThings_48 rfl ?_
        refine A_iconst 50 (0) dX0_idleThings_49 rfl (by decide) ?_
        refine A_callVI 53 (S_X1_run X l (by first | assumption | decide | omega | exact Ne.symm (by assumption)) (by first | assumption | decide | omega | exact Ne.symm (by assumption)) (by first | assumption | decide | omega | exact Ne.symm (by assumption)) (by first | assumption | decide | omega | exact Ne.symm (by assumption))) dX0_idleThings_50 rfl kX1_run lk_X0_36 rfl O23 (by decide) rfl (Nat.le_of_ble_eq_true rfl) (fun v_4 h_4 qh_4 => ?_)
        obtain ⟨rfl, n0h_4, eh_4⟩ := qh_4
        replace O21 := (eh_4 _ (by decide)).trans O21
        replace O22 := (eh_4 _ (by decide)).trans O22
        replace O23 := n0h_4
        replace O1 := (eh_4 _ (by decide)).trans O1
        replace hf : ∀ i, i ≠ 22 → i ≠ 23 → h_4 i = h i := fun i g0 g1 => (eh_4 i g1).trans (hf i g0 g1)
        refine A_pop 54 dX0_idleThings_53 rfl rfl ?_
        refine A_aload_n 55 dX0_idleThings_54 rfl rfl rfl ?_
        refine A_getfield 58 dX0_idleThings_55 rfl f_X0_18 O21 rfl ?_
        refine A_aload_n 59 dX0_idleThings_58 rfl rfl rfl ?_
        refine A_getfield 62 dX0_idleThings_59 rfl f_X0_12 O21 rfl ?_
        refine A_callVI 65 (S_X1_isHourForHourAs X l (by first | assumption | decide | omega | exact Ne.symm (by assumption)) (by first | assumption | decide | omega | exact Ne.symm (by assumption))) dX0_idleThings_62 rfl kX1_isHourForHourAs lk_X0_79 rfl O23 (by decide) rfl (Nat.le_of_ble_eq_true rfl) (fun v_5 h_5 qh_5 => ?_)
        obtain ⟨rfl, rfl⟩ := qh_5
        refine A_if_eq 76 68 dX0_idleThings_65 (by decide) rfl (fun c65 => ?_) (fun c65 => ?_)
        · skip
          try simp only [bI_0, bI_n0, Classical.not_not, Bool.not_eq_false, Bool.true_and, Bool.and_true, decide_eq_true_eq, decide_eq_false_iff_not, dayC_1, dayC_21, dayC_221, dayC_222, t8] at c65
          first | refine A_iincN 79 dX0_idleThings_76 rfl rfl (by decide) (by first | exact (ast_s (ast_s (ast_s (ast_1 rfl)))) | exact (ast_s (ast_s (ast_s ast_k)))) ?_ | refine A_iinc 79 (1) dX0_idleThings_76 rfl rfl (by decide) (by decide) (by first | exact (ast_s (ast_s (ast_s (ast_1 rfl)))) | exact (ast_s (ast_s (ast_s ast_k)))) ?_
          refine A_goto 16 dX0_idleThings_79 (by decide) ?_
          exact ih n0 (Nat.lt_succ_self n0) (i + 1) _ h_4 _ (by omega) ((foldN_s (itF x p) (0) i).trans ((congrArg ((itF x p) i) ee).trans (by first | with_reducible rfl | (simp only [c29, c65, if_true, if_false, ite_true, ite_false, and_true, true_and, and_false, false_and, and_self, or_true, true_or, or_false, false_or, or_self, not_true_eq_false, not_false_eq_true, decide_true, decide_false, Bool.and_true, Bool.true_and, Bool.and_false, Bool.false_and, Bool.and_self, Bool.or_true, Bool.true_or, Bool.or_false, Bool.false_or, Bool.not_true, Bool.not_false, cond_true, cond_false, bI_t, bI_f, Bool.false_eq_true, Bool.true_eq_false, dayC_1, dayC_21, dayC_221, dayC_222, itF, dayC]; done) | (simp [*, itF, dayC]; done) | with_reducible_and_instances rfl))) O21 O22 O23 O1 hf
        · skip
          try simp only [bI_0, bI_n0, Classical.not_not, Bool.not_eq_false, Bool.true_and, Bool.and_true, decide_eq_true_eq, decide_eq_false_iff_not, dayC_1, dayC_21, dayC_221, dayC_222, t8] at c65
          refine A_iload_n 69 dX0_idleThings_68 rfl rfl rfl ?_
          refine A_iload 71 dX0_idleThings_69 rfl rfl ?_
          refine A_callNI 74 (S_X9_thingBit X l) dX0_idleThings_71 rfl kX9_thingBit nk_X0_53 rfl (by decide) rfl (Nat.le_of_ble_eq_true rfl) (fun v_6 h_6 qh_6 => ?_)
          obtain ⟨rfl, rfl⟩ := qh_6
          refine A_ior 75 dX0_idleThings_74 rfl ?_
          refine A_istore_n 76 dX0_idleThings_75 rfl rfl (by decide) (by first | exact (ast_s (ast_s (ast_1 rfl))) | exact (ast_s (ast_s ast_k))) ?_
          first | refine A_iincN 79 dX0_idleThings_76 rfl rfl (by decide) (by first | exact (ast_s (ast_s (ast_s (ast_1 rfl)))) | exact (ast_s (ast_s (ast_s ast_k)))) ?_ | refine A_iinc 79 (1) dX0_idleThings_76 rfl rfl (by decide) (by decide) (by first | exact (ast_s (ast_s (ast_s (ast_1 rfl)))) | exact (ast_s (ast_s (ast_s ast_k)))) ?_
          refine A_goto 16 dX0_idleThings_79 (by decide) ?_
          exact ih n0 (Nat.lt_succ_self n0) (i + 1) _ h_4 _ (by omega) ((foldN_s (itF x p) (0) i).trans ((congrArg ((itF x p) i) ee).trans (by first | with_reducible rfl | (simp only [c29, c65, if_true, if_false, ite_true, ite_false, and_true, true_and, and_false, false_and, and_self, or_true, true_or, or_false, false_or, or_self, not_true_eq_false, not_false_eq_true, decide_true, decide_false, Bool.and_true, Bool.true_and, Bool.and_false, Bool.false_and, Bool.and_self, Bool.or_true, Bool.true_or, Bool.or_false, Bool.false_or, Bool.not_true, Bool.not_false, cond_true, cond_false, bI_t, bI_f, Bool.false_eq_true, Bool.true_eq_false, dayC_1, dayC_21, dayC_221, dayC_222, itF, dayC]; done) | (simp [*, itF, dayC]; done) | with_reducible_and_instances rfl))) O21 O22 O23 O1 hf
      · skip
        try simp only [bI_0, bI_n0, Classical.not_not, Bool.not_eq_false, Bool.true_and, Bool.and_true, decide_eq_true_eq, decide_eq_false_iff_not, dayC_1, dayC_21, dayC_221, dayC_222, t8] at c29
        refine A_goto 76 dX0_idleThings_32 (by decide) ?_
        first | refine A_iincN 79 dX0_idleThings_76 rfl rfl (by decide) (by first | exact (ast_s (ast_s (ast_s (ast_1 rfl)))) | exact (ast_s (ast_s (ast_s ast_k)))) ?_ | refine A_iinc 79 (1) dX0_idleThings_76 rfl rfl (by decide) (by decide) (by first | exact (ast_s (ast_s (ast_s (ast_1 rfl)))) | exact (ast_s (ast_s (ast_s ast_k)))) ?_
        refine A_goto 16 dX0_idleThings_79 (by decide) ?_
        exact ih n0 (Nat.lt_succ_self n0) (i + 1) _ g16 _ (by omega) ((foldN_s (itF x p) (0) i).trans ((congrArg ((itF x p) i) ee).trans (by first | with_reducible rfl | (simp only [c29, if_true, if_false, ite_true, ite_false, and_true, true_and, and_false, false_and, and_self, or_true, true_or, or_false, false_or, or_self, not_true_eq_false, not_false_eq_true, decide_true, decide_false, Bool.and_true, Bool.true_and, Bool.and_false, Bool.false_and, Bool.and_self, Bool.or_true, Bool.true_or, Bool.or_false, Bool.false_or, Bool.not_true, Bool.not_false, cond_true, cond_false, bI_t, bI_f, Bool.false_eq_true, Bool.true_eq_false, dayC_1, dayC_21, dayC_221, dayC_222, itF, dayC]; done) | (simp [*, itF, dayC]; done) | with_reducible_and_instances rfl))) O21 O22 O23 O1 hf
  exact L16 (8) (0) (_) h_1 (_) (by omega) (rfl) O21 O22 O23 O1 hf
