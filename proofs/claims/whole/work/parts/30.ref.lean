/-! orders and odds: the other way of adding up -/
theorem cw_nI (x : PW) (t : FI) (n : Nat) (c : Int32) : ∃ a, a ≤ 256 ∧ cwN x t n c = nI a := by
  obtain ⟨a, b, h1, h2, h3, _⟩ := cw_le x t n c 256
  exact ⟨a, by omega, h3⟩
theorem nIL_0 {a : Nat} (h : a < 1000) : (nI a).toInt64 = 0 ∨ 0 < (nI a).toInt64 := by
  rw [nI_l (by omega)]
  by_cases e : a = 0
  · left; rw [e]; rfl
  · right
    exact (lN_lt (a := 0) (by decide) (by omega)).mpr (by omega)
theorem nIL_eu {a : Nat} (h : a < 1000) (x : Int64) : euT 100 x (nI a).toInt64 := by
  refine euT_of 10 100 _ _ ?_ (by decide)
  rw [nI_l (by omega), lN_toInt (by omega)]
  omega
theorem wW_eq (x : PW) (t : FI) (n : Nat) (c v : Int32) : wInIt x t n c v = if (if inT c = true then wrB 0 v 1 else -1) = 0 then wRow x t n else (if inT c = true then wrB 0 v 1 else -1) := by
  unfold wInIt
  by_cases h : inT c = true
  · rw [if_pos h, if_pos h, wrB_0]
    by_cases h2 : v < 0 ∨ 1 < v
    · rw [if_pos h2, if_pos h2, if_neg (by decide)]
    · rw [if_neg h2, if_neg h2, if_pos rfl]
  · rw [if_neg h, if_neg h, if_neg (by decide)]
def w1I (c v : Int32) : Int32 := if inT c = true then wrB 0 v 1 else -1
/-! adds -/
theorem sub1_lt : ∀ a, a < 11 → ∀ b, b < 11 → nI a - 1 - nI b < 1000 := by decide +kernel
theorem R10.sub1 {v w : Int32} (h : R10 v) (h2 : R10 w) : bitC v - 1 - bitC w < 1000 := by
  obtain ⟨e1, q1⟩ := R10_pop h
  obtain ⟨e2, q2⟩ := R10_pop h2
  rw [e1, e2]
  exact sub1_lt _ (by omega) _ (by omega)
theorem oth_pop : ∀ m, m < 256 → ∀ k, k < 8 → btI (nI m) (nI k) = true → bitC (nI m &&& (tbI (nI k) ^^^ (-1))) = bitC (nI m) - 1 := by decide +kernel
theorem and_or_l (a b c : Int32) : a &&& (b ||| c) = (a &&& b) ||| (a &&& c) := by
  rw [Int32.and_comm, and_or_r, Int32.and_comm b, Int32.and_comm c]
theorem oth_not (m b : Int32) : (m &&& (b ^^^ (-1))) ^^^ (-1) = (m ^^^ (-1)) ||| b := by
  apply i32_ext
  intro i hi
  have h1 : (-1 : Int32).toBitVec.getLsbD i = true := by
    show (BitVec.allOnes 32).getLsbD i = true
    rw [BitVec.getLsbD_allOnes]
    exact decide_eq_true hi
  simp only [Int32.toBitVec_and, Int32.toBitVec_or, Int32.toBitVec_xor, BitVec.getLsbD_and, BitVec.getLsbD_or, BitVec.getLsbD_xor, h1]
  cases m.toBitVec.getLsbD i <;> cases b.toBitVec.getLsbD i <;> rfl
theorem oth_sub {k : Nat} (hk : k < 8) (i m : Int32) : i &&& ((m &&& (tbI (nI k) ^^^ (-1))) ^^^ (-1)) = 0 ↔ i &&& (m ^^^ (-1)) = 0 ∧ btI i (nI k) = false := by
  rw [oth_not, and_or_l, Int32.or_eq_zero_iff, tbI_nI hk]
  unfold btI oneB
  constructor
  · rintro ⟨a, b⟩
    exact ⟨a, decide_eq_false (fun q => q b)⟩
  · rintro ⟨a, b⟩
    exact ⟨a, Classical.not_not.mp (of_decide_eq_false b)⟩
def aoR (x : PW) (P t : Int32) (i : Nat) (u : Int64) : Int64 := if nI i &&& (P ^^^ (-1)) = 0 ∧ btI (nI i) t = false then u + facI (bitC (nI i)) * facI (bitC P - 1 - bitC (nI i)) * (DN x (nI i ||| tbI t) - DN x (nI i)).toInt64 else u
theorem ao_eq (x : PW) {P : Int32} (hP : R8 P) {k : Nat} (hk : k < 8) (hb : btI P (nI k) = true) : foldN (aoR x P (nI k)) 0 256 = foldN (aoF x (P &&& (tbI (nI k) ^^^ (-1))) (tbI (nI k))) 0 256 := by
  obtain ⟨m, hm, rfl⟩ := hP
  refine foldN_congr _ _ 0 256 (fun i _ u => ?_)
  unfold aoR aoF
  by_cases h : nI i &&& (nI m ^^^ (-1)) = 0 ∧ btI (nI i) (nI k) = false
  · rw [if_pos h, if_pos ((oth_sub hk _ _).mpr h), oth_pop m hm k hk hb]
  · rw [if_neg h, if_neg (fun z => h ((oth_sub hk _ _).mp z))]
theorem facI_n : ∀ k, k < 9 → (facI (nI k)).toInt.natAbs < 2 ^ 20 := by decide +kernel
theorem facI_eu {P : Int32} (hP : R8 P) (x : Int64) : euT 100 x (facI (bitC P)) := by
  refine euT_of 20 100 _ _ ?_ (by decide)
  rw [(R10_pop hP.r10).1]
  exact facI_n _ (by have := R8_pop hP; omega)
/-! chance -/
theorem foldN_add {f g : Nat → Int64} : ∀ n, foldN (fun i (u : Int64) => u + (f i + g i)) 0 n = foldN (fun i u => u + f i) 0 n + foldN (fun i u => u + g i) 0 n := by
  intro n
  induction n with
  | zero => rfl
  | succ n ih =>
    rw [foldN_s, foldN_s, foldN_s, ih]
    rw [Int64.add_assoc, Int64.add_assoc]
    congr 1
    rw [← Int64.add_assoc, ← Int64.add_assoc, Int64.add_comm (f n)]
def sumL (f : Nat → Int64) (n : Nat) : Int64 := foldN (fun i u => u + f i) 0 n
theorem sumL_s (f : Nat → Int64) (n : Nat) : sumL f (n + 1) = sumL f n + f n := rfl
theorem sumL_congr {f g : Nat → Int64} : ∀ n, (∀ i, i < n → f i = g i) → sumL f n = sumL g n := by
  intro n
  induction n with
  | zero => intro _; rfl
  | succ n ih => intro h; rw [sumL_s, sumL_s, ih (fun i hi => h i (by omega)), h n (by omega)]
theorem sumL_add (f : Nat → Int64) (a : Nat) : ∀ b, sumL f (a + b) = sumL f a + sumL (fun i => f (a + i)) b := by
  intro b
  induction b with
  | zero => show sumL f a = sumL f a + 0; rw [Int64.add_zero]
  | succ b ih => rw [← Nat.add_assoc, sumL_s, ih, sumL_s, Int64.add_assoc]
theorem xor_top {n i : Nat} (h : i < 2 ^ n) : 2 ^ n + i = i ^^^ 2 ^ n := by
  apply Nat.eq_of_testBit_eq
  intro j
  rw [Nat.testBit_xor, Nat.testBit_two_pow]
  rcases Nat.lt_trichotomy j n with q | q | q
  · rw [Nat.testBit_two_pow_add_gt q, decide_eq_false (by omega), Bool.xor_false]
  · subst q
    rw [Nat.testBit_two_pow_add_eq, decide_eq_true rfl, Bool.xor_true]
  · rw [Nat.testBit_lt_two_pow (show 2 ^ n + i < 2 ^ j from Nat.lt_of_lt_of_le (show 2 ^ n + i < 2 ^ (n + 1) by rw [Nat.pow_succ]; omega) (Nat.pow_le_pow_right (by decide) q)), Nat.testBit_lt_two_pow (show i < 2 ^ j from Nat.lt_of_lt_of_le h (Nat.pow_le_pow_right (by decide) (by omega))), decide_eq_false (by omega)]
    rfl
theorem sum_xor : ∀ (n : Nat) (f : Nat → Int64) (p : Nat), p < 2 ^ n → sumL (fun i => f (i ^^^ p)) (2 ^ n) = sumL f (2 ^ n) := by
  intro n
  induction n with
  | zero =>
    intro f p hp
    have e : p = 0 := by omega
    rw [e]
    exact sumL_congr _ (fun i hi => by rw [Nat.xor_zero])
  | succ n ih =>
    intro f p hp
    rw [Nat.pow_succ, Nat.mul_two] at *
    rw [sumL_add, sumL_add]
    by_cases c : p < 2 ^ n
    · rw [ih f p c, ← ih (fun j => f (2 ^ n + j)) p c]
      congr 1
      refine sumL_congr _ (fun i hi => ?_)
      have h2 : i ^^^ p < 2 ^ n := Nat.xor_lt_two_pow hi c
      rw [xor_top hi, xor_top h2, Nat.xor_assoc, Nat.xor_comm (2 ^ n) p, ← Nat.xor_assoc]
    · obtain ⟨q, rfl⟩ : ∃ q, p = 2 ^ n + q := ⟨p - 2 ^ n, by omega⟩
      have hq : q < 2 ^ n := by omega
      rw [Int64.add_comm, ← ih f q hq, ← ih (fun j => f (2 ^ n + j)) q hq]
      congr 1
      · refine sumL_congr _ (fun i hi => ?_)
        rw [xor_top hi, xor_top hq, Nat.xor_assoc, ← Nat.xor_assoc (2 ^ n), Nat.xor_comm (2 ^ n) q, Nat.xor_assoc q, Nat.xor_self, Nat.xor_zero]
      · refine sumL_congr _ (fun i hi => ?_)
        have h2 : i ^^^ q < 2 ^ n := Nat.xor_lt_two_pow hi hq
        rw [xor_top hq, xor_top h2, Nat.xor_assoc]
/-- things told one by one: how many odds -/
def odF (L t : Int32) (k : Nat) (o : Int64) : Int64 := o * (if btI L (nI k) = true then (t - 1).toInt64 else 1)
theorem od_pow (t : Int32) : ∀ m, m < 256 → foldN (odF (nI m) t) 1 8 = powF (t - 1).toInt64 (popN m) := by
  intro m hm
  have key : ∀ m, m < 256 → ∃ b : Nat → Bool, (∀ k, k < 8 → btI (nI m) (nI k) = b k) ∧ popN m = (b 0).toNat + (b 1).toNat + (b 2).toNat + (b 3).toNat + (b 4).toNat + (b 5).toNat + (b 6).toNat + (b 7).toNat := by
    intro m hm
    refine ⟨fun k => btI (nI m) (nI k), fun _ _ => rfl, ?_⟩
    have : ∀ m, m < 256 → popN m = (btI (nI m) (nI 0)).toNat + (btI (nI m) (nI 1)).toNat + (btI (nI m) (nI 2)).toNat + (btI (nI m) (nI 3)).toNat + (btI (nI m) (nI 4)).toNat + (btI (nI m) (nI 5)).toNat + (btI (nI m) (nI 6)).toNat + (btI (nI m) (nI 7)).toNat := by decide +kernel
    exact this m hm
  obtain ⟨b, h1, h2⟩ := key m hm
  rw [h2]
  have h3 : foldN (odF (nI m) t) 1 8 = foldN (fun k (o : Int64) => o * (if b k = true then (t - 1).toInt64 else 1)) 1 8 :=
    foldN_congr _ _ 1 8 (fun k hk o => by unfold odF; rw [h1 k hk])
  rw [h3]
  have gen : ∀ n, foldN (fun k (o : Int64) => o * (if b k = true then (t - 1).toInt64 else 1)) 1 n = powF (t - 1).toInt64 (foldN (fun k (c : Nat) => c + (b k).toNat) 0 n) := by
    intro n
    induction n with
    | zero => rfl
    | succ n ih =>
      rw [foldN_s, ih, foldN_s]
      cases b n with
      | true => rw [if_pos rfl]; rfl
      | false => rw [if_neg (by decide), Int64.mul_one]; rfl
  rw [gen 8]
  congr 1
  simp [foldN]
def chF (x : PW) (P l t : Int32) (i : Nat) (u : Int64) : Int64 := if nI i &&& (P ^^^ (-1)) = 0 then u + (if btI (dDone x 0 (P &&& (nI i ^^^ (-1)))) l = true then foldN (odF (P &&& (nI i ^^^ (-1))) t) 1 8 else 0) else u
theorem nI_xor (a b : Nat) : nI a ^^^ nI b = nI (a ^^^ b) := by
  rw [← Int32.toBitVec_inj]
  show BitVec.ofNat 32 a ^^^ BitVec.ofNat 32 b = BitVec.ofNat 32 (a ^^^ b)
  exact BitVec.ofNat_xor.symm
/-- a set within another: what is left is the other without it, and they change places -/
theorem sub_x (a b : Int32) (h : a &&& (b ^^^ (-1)) = 0) : b &&& (a ^^^ (-1)) = b ^^^ a ∧ (b ^^^ a) &&& (b ^^^ (-1)) = 0 := by
  have hb : ∀ i, i < 32 → (a.toBitVec.getLsbD i && !b.toBitVec.getLsbD i) = false := by
    intro i hi
    have h1 : (-1 : Int32).toBitVec.getLsbD i = true := by
      show (BitVec.allOnes 32).getLsbD i = true
      rw [BitVec.getLsbD_allOnes]
      exact decide_eq_true hi
    have h2 := congrArg (fun q => q.toBitVec.getLsbD i) h
    simp only [Int32.toBitVec_and, Int32.toBitVec_xor, BitVec.getLsbD_and, BitVec.getLsbD_xor, h1, Bool.xor_true] at h2
    rw [h2]
    show (0#32).getLsbD i = false
    exact BitVec.getLsbD_zero
  constructor
  · apply i32_ext
    intro i hi
    have h1 : (-1 : Int32).toBitVec.getLsbD i = true := by
      show (BitVec.allOnes 32).getLsbD i = true
      rw [BitVec.getLsbD_allOnes]
      exact decide_eq_true hi
    have h2 := hb i hi
    simp only [Int32.toBitVec_and, Int32.toBitVec_xor, BitVec.getLsbD_and, BitVec.getLsbD_xor, h1]
    revert h2
    cases a.toBitVec.getLsbD i <;> cases b.toBitVec.getLsbD i <;> decide
  · apply i32_ext
    intro i hi
    have h1 : (-1 : Int32).toBitVec.getLsbD i = true := by
      show (BitVec.allOnes 32).getLsbD i = true
      rw [BitVec.getLsbD_allOnes]
      exact decide_eq_true hi
    have h2 := hb i hi
    have h0 : (0 : Int32).toBitVec.getLsbD i = false := by
      show (0#32).getLsbD i = false
      exact BitVec.getLsbD_zero
    simp only [Int32.toBitVec_and, Int32.toBitVec_xor, BitVec.getLsbD_and, BitVec.getLsbD_xor, h1, h0]
    revert h2
    cases a.toBitVec.getLsbD i <;> cases b.toBitVec.getLsbD i <;> decide
theorem ch_eq (x : PW) {P : Int32} (hP : R8 P) (l t : Int32) : foldN (chF x P l t) 0 256 = foldN (lcF x P l t) 0 256 := by
  obtain ⟨m, hm, rfl⟩ := hP
  have e1 : foldN (chF x (nI m) l t) 0 256 = sumL (fun i => if nI i &&& (nI m ^^^ (-1)) = 0 then (if btI (dDone x 0 (nI (i ^^^ m))) l = true then powF (t - 1).toInt64 (popN (i ^^^ m)) else 0) else 0) 256 := by
    refine foldN_congr _ _ 0 256 (fun i hi u => ?_)
    show chF x (nI m) l t i u = u + (if nI i &&& (nI m ^^^ (-1)) = 0 then (if btI (dDone x 0 (nI (i ^^^ m))) l = true then powF (t - 1).toInt64 (popN (i ^^^ m)) else 0) else 0)
    unfold chF
    by_cases h : nI i &&& (nI m ^^^ (-1)) = 0
    · rw [if_pos h, if_pos h, (sub_x _ _ h).1, nI_xor, Nat.xor_comm m i, od_pow t (i ^^^ m) (Nat.xor_lt_two_pow (n := 8) hi hm)]
    · rw [if_neg h, if_neg h, Int64.add_zero]
  have e2 : foldN (lcF x (nI m) l t) 0 256 = sumL (fun i => if nI i &&& (nI m ^^^ (-1)) = 0 then (if btI (dDone x 0 (nI i)) l = true then powF (t - 1).toInt64 (popN i) else 0) else 0) 256 := by
    refine foldN_congr _ _ 0 256 (fun i hi u => ?_)
    show lcF x (nI m) l t i u = u + (if nI i &&& (nI m ^^^ (-1)) = 0 then (if btI (dDone x 0 (nI i)) l = true then powF (t - 1).toInt64 (popN i) else 0) else 0)
    unfold lcF
    by_cases h : nI i &&& (nI m ^^^ (-1)) = 0
    · rw [if_pos h]
      by_cases h2 : btI (dDone x 0 (nI i)) l = true
      · rw [if_pos ⟨h, h2⟩, if_pos h2]
      · rw [if_neg (fun z => h2 z.2), if_neg h2, Int64.add_zero]
    · rw [if_neg (fun z => h z.1), if_neg h, Int64.add_zero]
  rw [e1, e2]
  refine (sumL_congr 256 (fun i hi => ?_)).trans (sum_xor 8 (fun i => if nI i &&& (nI m ^^^ (-1)) = 0 then (if btI (dDone x 0 (nI i)) l = true then powF (t - 1).toInt64 (popN i) else 0) else 0) m hm)
  show (if nI i &&& (nI m ^^^ (-1)) = 0 then (if btI (dDone x 0 (nI (i ^^^ m))) l = true then powF (t - 1).toInt64 (popN (i ^^^ m)) else 0) else 0) = (if nI (i ^^^ m) &&& (nI m ^^^ (-1)) = 0 then (if btI (dDone x 0 (nI (i ^^^ m))) l = true then powF (t - 1).toInt64 (popN (i ^^^ m)) else 0) else 0)
  by_cases h : nI i &&& (nI m ^^^ (-1)) = 0
  · have h2 : nI (i ^^^ m) &&& (nI m ^^^ (-1)) = 0 := by rw [Nat.xor_comm, ← nI_xor]; exact (sub_x _ _ h).2
    rw [if_pos h, if_pos h2]
  · rw [if_neg h, if_neg (fun z => h (by
      have q := (sub_x _ _ z).2
      rw [nI_xor, Nat.xor_comm i m, ← Nat.xor_assoc, Nat.xor_self, Nat.zero_xor] at q
      exact q))]
/-- the odds stay in their range -/
theorem pow_nn {t : Int32} (h2 : ¬ t < 2) (h20 : ¬ 20 < t) : ∃ k, k < 20 ∧ (t - 1).toInt64 = lN k ∧ t.toInt64 = lN (k + 1) := by
  obtain ⟨j, rfl, hj⟩ := nI_exg (n := 20) (fun z => h2 (Int32.lt_trans z (by decide))) h20 (by decide)
  have h3 : 2 ≤ j := by
    have := mt (nlt_iff (a := j) (b := 2) (by omega) (by decide)).mpr h2
    omega
  obtain ⟨k, rfl⟩ : ∃ k, j = k + 1 := ⟨j - 1, by omega⟩
  refine ⟨k, by omega, ?_, nI_l (by omega)⟩
  rw [nI_pred, nI_l (by omega)]
theorem powF_nn (b : Nat) : ∀ n, powF (lN b) n = lN (b ^ n) := by
  intro n
  induction n with
  | zero => rfl
  | succ n ih =>
    show powF (lN b) n * lN b = lN (b ^ (n + 1))
    rw [ih, lN_mul, Nat.pow_succ]
theorem pw_le : ∀ k, k < 21 → ∀ n, n ≤ 8 → k ^ n ≤ 25600000000 := by
  intro k hk n hn
  exact Nat.le_trans (Nat.pow_le_pow_left (show k ≤ 20 by omega) n) (Nat.le_trans (Nat.pow_le_pow_right (by decide) hn) (by decide))
theorem lc_nn (x : PW) (P l : Int32) {t : Int32} (h2 : ¬ t < 2) (h20 : ¬ 20 < t) : foldN (lcF x P l t) 0 256 = 0 ∨ 0 < foldN (lcF x P l t) 0 256 := by
  obtain ⟨k, hk, e, _⟩ := pow_nn h2 h20
  have h := foldN_inv (lcF x P l t) 0 (fun i u => i ≤ 256 → ∃ U, U ≤ i * 25600000000 ∧ u = lN U) (fun _ => ⟨0, by omega, rfl⟩) 256 (fun i u hi hu hi2 => by
    obtain ⟨U, hU, rfl⟩ := hu (by omega)
    unfold lcF
    split
    · rw [e, powF_nn, lN_add]
      have := pw_le k (by omega) (popN i) (pop_8 i hi)
      exact ⟨_, by omega, rfl⟩
    · exact ⟨U, Nat.le_trans hU (Nat.mul_le_mul_right _ (Nat.le_succ i)), rfl⟩)
  obtain ⟨U, hU, e2⟩ := h (Nat.le_refl _)
  rw [e2]
  by_cases c : U = 0
  · left; rw [c]; rfl
  · right
    exact (pk_lLT (a := 0) (by decide) (by omega)).mpr (by omega)
theorem pw_eu {t : Int32} (h2 : ¬ t < 2) (h20 : ¬ 20 < t) {n : Nat} (hn : n ≤ 8) (x : Int64) : euT 100 x (powF t.toInt64 n) := by
  obtain ⟨k, hk, _, e⟩ := pow_nn h2 h20
  refine euT_of 40 100 _ _ ?_ (by decide)
  have := pw_le (k + 1) (by omega) n hn
  rw [e, powF_nn, pk_lT (by omega)]
  omega

def w1A (x : PW) (p t v : Int32) : Int32 := if isP x p = true ∧ inT t = true then wrB 0 v 1 else -1
theorem wA_eq (x : PW) (p t v : Int32) : wAdds x p t v = if w1A x p t v = 0 then (if btI (pk x p) t = true then 0 else -3) else w1A x p t v := by
  unfold wAdds w1A
  by_cases h : isP x p = true ∧ inT t = true
  · rw [if_pos h, if_pos h, wrB_0]
    by_cases h2 : v < 0 ∨ 1 < v
    · rw [if_pos h2, if_pos h2, if_neg (by decide)]
    · rw [if_neg h2, if_neg h2, if_pos rfl]
  · rw [if_neg h, if_neg h, if_neg (by decide)]
theorem w1A_0 {x : PW} {p t v : Int32} (h : w1A x p t v = 0) : isP x p = true ∧ inT t = true := by
  unfold w1A at h
  by_cases c : isP x p = true ∧ inT t = true
  · exact c
  · rw [if_neg c] at h; exact absurd h (by decide)
theorem inT_ex {t : Int32} (h : inT t = true) : ∃ k, t = nI k ∧ k < 8 := inN_ex (i := t) (n := 8) h (by decide)
theorem absL_ne {u : Int64} (h : ¬ u = 0) : ¬ absL u = 0 := by
  unfold absL
  split
  · exact h
  · intro z
    refine h ?_
    have := congrArg (fun q => -q) z
    simpa using this
theorem lpos_of {u : Int64} (h : ¬ lg_cmp u 0 < 0) (q : ¬ u = 0) : 0 < u := by
  have h1 : ¬ u < 0 := fun z => h (lcmp_lt.mpr z)
  have h2 := Int64.not_lt.mp h1
  rw [Int64.le_iff_toInt_le] at h2
  rw [Int64.lt_iff_toInt_lt]
  have h3 : ¬ u.toInt = (0 : Int64).toInt := fun z => q (Int64.toInt_inj.mp z)
  omega
theorem lneg_of {u : Int64} (h : lg_cmp u 0 < 0) : ¬ 0 < u := by
  have h1 := lcmp_lt.mp h
  rw [Int64.lt_iff_toInt_lt] at h1 ⊢
  omega
set_option maxHeartbeats 4000000 in
set_option maxRecDepth 100000 in
theorem S_X10_ordersOf_n (X : En) (l : Launch) {h : Hp} {n : Nat} (hn : n < 1000) : Ct X l mX10_ordersOf [aI (nI n)] h (QL (PL0 (facF n) h)) := by
  refine Ct.intro [some (aI (nI n)), none, none, none] (by decide +kernel) rfl (Nat.le_of_ble_eq_true rfl) ?_
  refine A_lconst 1 (1) dX10_ordersOf_0 rfl (by decide) ?_
  refine A_lstore_n 2 dX10_ordersOf_1 rfl rfl (by decide) (by first | exact (astL_1 rfl) | exact astL_k) ?_
  refine A_iconst 3 (2) dX10_ordersOf_2 rfl (by decide) ?_
  refine A_istore_n 4 dX10_ordersOf_3 rfl rfl (by decide) (by first | exact (ast_s (ast_s (ast_1 rfl))) | exact (ast_s (ast_s ast_k))) ?_
  have L4 : ∀ (nq k : Nat) (u : Int64) , (nq + k = n - 1) → (foldN (fun k t => t * (nI (k + 2)).toInt64) (1) k = (u)) → Av X l mX10_ordersOf 4 [some (aI (nI (n))), some (aL (u)), none, some (aI (nI (k + 2)))] [] h (QL (PL0 (facF n) h)) := by
    intro nq
    induction nq using Nat.strongRecOn with
    | _ nq ih =>
    intro k u en ee
    refine A_iload_n 5 dX10_ordersOf_4 rfl rfl rfl ?_
    refine A_iload_n 6 dX10_ordersOf_5 rfl rfl rfl ?_
    refine A_icmp_gt 20 9 dX10_ordersOf_6 (by decide) rfl (fun c6 => ?_) (fun c6 => ?_)
    · skip
      have q6 := (nlt_iff (a := n) (b := k + 2) (by omega) (by omega)).mp c6
      obtain rfl : nq = 0 := by omega
      obtain rfl : k = n - 1 := by omega
      refine A_lload_n 21 dX10_ordersOf_20 rfl rfl rfl ?_
      refine A_lret dX10_ordersOf_21 rfl ⟨_, rfl, (by unfold facF; rw [ee]), rfl⟩
    · skip
      have q6 := mt (nlt_iff (a := n) (b := k + 2) (by omega) (by omega)).mpr c6
      obtain ⟨n0, rfl⟩ : ∃ q, nq = q + 1 := ⟨nq - 1, by omega⟩
      refine A_lload_n 10 dX10_ordersOf_9 rfl rfl rfl ?_
      refine A_iload_n 11 dX10_ordersOf_10 rfl rfl rfl ?_
      refine A_i2l 12 dX10_ordersOf_11 rfl ?_
      refine A_lmul 13 dX10_ordersOf_12 rfl ?_
      refine A_lstore_n 14 dX10_ordersOf_13 rfl rfl (by decide) (by first | exact (astL_1 rfl) | exact astL_k) ?_
      first | refine A_iincN 17 dX10_ordersOf_14 rfl rfl (by decide) (by first | exact (ast_s (ast_s (ast_1 rfl))) | exact (ast_s (ast_s ast_k))) ?_ | refine A_iinc 17 (1) dX10_ordersOf_14 rfl rfl (by decide) (by decide) (by first | exact (ast_s (ast_s (ast_1 rfl))) | exact (ast_s (ast_s ast_k))) ?_
      refine A_goto 4 dX10_ordersOf_17 (by decide) ?_
      exact A_weak (ih n0 (Nat.lt_succ_self n0) (k + 1) _  (by omega) ((foldN_s (fun k t => t * (nI (k + 2)).toInt64) (1) k).trans ((congrArg ((fun k t => t * (nI (k + 2)).toInt64) k) ee).trans (by rfl))) ) (sub_s (sub_s (sub_n (sub_s sub_nil))))
  exact A_weak (L4 (n - 1) (0) (_)  (by omega) (rfl) ) (sub_s (sub_s (sub_n (sub_s sub_nil))))
set_option maxHeartbeats 4000000 in
set_option maxRecDepth 100000 in
theorem S_X10_ordersOf_neg (X : En) (l : Launch) {h : Hp} {v : Int32} (hv : v < 0) : Ct X l mX10_ordersOf [aI v] h (QL (PL0 (1) h)) := by
  refine Ct.intro [some (aI v), none, none, none] (by decide +kernel) rfl (Nat.le_of_ble_eq_true rfl) ?_
  refine A_lconst 1 (1) dX10_ordersOf_0 rfl (by decide) ?_
  refine A_lstore_n 2 dX10_ordersOf_1 rfl rfl (by decide) (by first | exact (astL_1 rfl) | exact astL_k) ?_
  refine A_iconst 3 (2) dX10_ordersOf_2 rfl (by decide) ?_
  refine A_istore_n 4 dX10_ordersOf_3 rfl rfl (by decide) (by first | exact (ast_s (ast_s (ast_1 rfl))) | exact (ast_s (ast_s ast_k))) ?_
  refine A_iload_n 5 dX10_ordersOf_4 rfl rfl rfl ?_
  refine A_iload_n 6 dX10_ordersOf_5 rfl rfl rfl ?_
  refine A_icmp_gt 20 9 dX10_ordersOf_6 (by decide) rfl (fun c6 => ?_) (fun c6 => ?_)
  · skip
    try simp only [bI_0, bI_n0, Classical.not_not, Bool.not_eq_false, Bool.true_and, Bool.and_true, decide_eq_true_eq, decide_eq_false_iff_not, dayC_1, dayC_21, dayC_221, dayC_222, inI_1, inI_2, inI_3, inI_5, inI_11, inI_16] at c6
    have n6 := Int32.not_le.mpr c6
    refine A_lload_n 21 dX10_ordersOf_20 rfl rfl rfl ?_
    refine A_lret dX10_ordersOf_21 rfl ⟨_, rfl, (by first | with_reducible rfl | (simp only [c6, n6, if_true, if_false, ite_true, ite_false, and_true, true_and, and_false, false_and, and_self, or_true, true_or, or_false, false_or, or_self, not_true_eq_false, not_false_eq_true, decide_true, decide_false, Bool.and_true, Bool.true_and, Bool.and_false, Bool.false_and, Bool.and_self, Bool.or_true, Bool.true_or, Bool.or_false, Bool.false_or, Bool.not_true, Bool.not_false, cond_true, cond_false, bI_t, bI_f, Bool.false_eq_true, Bool.true_eq_false, dayC_1, dayC_21, dayC_221, dayC_222]; done) | (simp only [*]; done) | (simp [bI, *]; done) | with_reducible_and_instances rfl), rfl⟩
  · skip
    exact absurd (Int32.lt_trans hv (by decide)) c6
theorem S_X10_ordersOf (X : En) (l : Launch) {h : Hp} {v : Int32} (hv : v < 1000) : Ct X l mX10_ordersOf [aI v] h (QL (PL0 (facI v) h)) := by
  by_cases h0 : v < 0
  · have e : v.toNatClampNeg = 0 := by
      have h1 := Int32.lt_iff_toInt_lt.mp h0
      have h2 : v.toNatClampNeg = v.toInt.toNat := rfl
      have h3 : ((0 : Int32)).toInt = 0 := by decide
      omega
    unfold facI
    rw [e]
    exact S_X10_ordersOf_neg X l h0
  · obtain ⟨n, rfl, hn⟩ := nI_exi (n := 1000) h0 hv (by decide)
    unfold facI
    rw [nI_clamp (by omega)]
    exact S_X10_ordersOf_n X l hn
set_option maxHeartbeats 4000000 in
set_option maxRecDepth 100000 in
theorem S_X10_inIt (X : En) (l : Launch) {h : Hp} {x : PW} {c : RC} {z : RZ} (O28 : h 28 = some (rB x (-1) c z)) (hW : WOK x) (hn : c.2.2.2.2.2.2.2.2 ≤ 16) (hr : ∀ k, k < c.2.2.2.2.2.2.2.2 → ¬ c.2.2.2.2.2.2.2.1 k < 0) {t v : Int32} : Ct X l mX10_inIt [aR 28 0, aI t, aI v] h (QL (fun vr h2 => (rVL (wInIt x c.2.2.2.2.2.2.2.1 c.2.2.2.2.2.2.2.2 t v) (aInIt x c.2.2.2.2.2.2.2.1 c.2.2.2.2.2.2.2.2 t v)) = vr ∧ ∃ (z1 : RZ), h2 (28) = some (rB x (-1) (rS (wInIt x c.2.2.2.2.2.2.2.1 c.2.2.2.2.2.2.2.2 t v) c.1, c.2) z1) ∧ ∀ i, i ≠ 28 → h2 i = h i)) := by
  have hx := hW.1
  have hp := hW.2.1
  have h10 := hx.1
  have hf : ∀ i, i ≠ 28 → h i = h i := fun _ _ => rfl
  refine Ct.intro [some (aR 28 0), some (aI t), some (aI v), none, none] (by decide +kernel) rfl (Nat.le_of_ble_eq_true rfl) ?_
  refine A_aload_n 1 dX10_inIt_0 rfl rfl rfl ?_
  refine A_iconst 2 (0) dX10_inIt_1 rfl (by decide) ?_
  refine P_X10_9 5 dX10_inIt_2 rfl fw_X10_78 O28 (fun h_1 nh_1 eh_1 => ?_)
  replace O28 := nh_1
  replace hf : ∀ i, i ≠ 28 → h_1 i = h i := fun i g0 => (eh_1 i g0).trans (hf i g0)
  try dsimp only at O28
  refine A_joinI 22 (fun vj => vj = w1I t v) (fun j22 => ?_) (fun v22 e22 => ?_)
  · skip
    refine A_iload_n 6 dX10_inIt_5 rfl rfl rfl ?_
    refine A_callSI 9 (S_X10_isThing X l) dX10_inIt_6 rfl kX10_isThing lk_X10_217 rfl (by decide) rfl (Nat.le_of_ble_eq_true rfl) (fun v_2 h_2 qh_2 => ?_)
    obtain ⟨rfl, rfl⟩ := qh_2
    refine A_if_eq 21 12 dX10_inIt_9 (by decide) rfl (fun c9 => ?_) (fun c9 => ?_)
    · skip
      try simp only [bI_0, bI_n0, Classical.not_not, Bool.not_eq_false, Bool.true_and, Bool.and_true, decide_eq_true_eq, decide_eq_false_iff_not, dayC_1, dayC_21, dayC_221, dayC_222, inI_1, inI_2, inI_3, inI_5, inI_11, inI_16] at c9
      refine A_iconst 22 (-1) dX10_inIt_21 rfl (by decide) ?_
      exact j22 _ (by first | (simp only [c9, if_true, if_false, ite_true, ite_false, and_true, true_and, and_false, false_and, and_self, or_true, true_or, or_false, false_or, or_self, not_true_eq_false, not_false_eq_true, decide_true, decide_false, Bool.and_true, Bool.true_and, Bool.and_false, Bool.false_and, Bool.and_self, Bool.or_true, Bool.true_or, Bool.or_false, Bool.false_or, Bool.not_true, Bool.not_false, cond_true, cond_false, bI_t, bI_f, Bool.false_eq_true, Bool.true_eq_false, dayC_1, dayC_21, dayC_221, dayC_222, w1I, wrB_N, wrB_0, wrB_1, w01, wP, wPL, wP01, wL01, wRow, w01R, wAB, wNum, isP, isL]; done) | (simp only [c9, if_true, if_false, ite_true, ite_false, and_true, true_and, and_false, false_and, and_self, or_true, true_or, or_false, false_or, or_self, not_true_eq_false, not_false_eq_true, decide_true, decide_false, Bool.and_true, Bool.true_and, Bool.and_false, Bool.false_and, Bool.and_self, Bool.or_true, Bool.true_or, Bool.or_false, Bool.false_or, Bool.not_true, Bool.not_false, cond_true, cond_false, bI_t, bI_f, Bool.false_eq_true, Bool.true_eq_false, dayC_1, dayC_21, dayC_221, dayC_222, w1I, wrN, wrB_N, wrB_0, wrB_1, w01, wP, wPL, wP01, wL01, wRow, w01R, wAB, wNum, isP, isL]; done))
    · skip
      try simp only [bI_0, bI_n0, Classical.not_not, Bool.not_eq_false, Bool.true_and, Bool.and_true, decide_eq_true_eq, decide_eq_false_iff_not, dayC_1, dayC_21, dayC_221, dayC_222, inI_1, inI_2, inI_3, inI_5, inI_11, inI_16] at c9
      refine A_iconst 13 (0) dX10_inIt_12 rfl (by decide) ?_
      refine A_iload_n 14 dX10_inIt_13 rfl rfl rfl ?_
      refine A_iconst 15 (1) dX10_inIt_14 rfl (by decide) ?_
      refine A_callSI 18 (S_X10_wrongBit X l) dX10_inIt_15 rfl kX10_wrongBit lk_X10_225 rfl (by decide) rfl (Nat.le_of_ble_eq_true rfl) (fun v_3 h_3 qh_3 => ?_)
      obtain ⟨rfl, rfl⟩ := qh_3
      refine A_goto 22 dX10_inIt_18 (by decide) ?_
      exact j22 _ (by first | (simp only [c9, if_true, if_false, ite_true, ite_false, and_true, true_and, and_false, false_and, and_self, or_true, true_or, or_false, false_or, or_self, not_true_eq_false, not_false_eq_true, decide_true, decide_false, Bool.and_true, Bool.true_and, Bool.and_false, Bool.false_and, Bool.and_self, Bool.or_true, Bool.true_or, Bool.or_false, Bool.false_or, Bool.not_true, Bool.not_false, cond_true, cond_false, bI_t, bI_f, Bool.false_eq_true, Bool.true_eq_false, dayC_1, dayC_21, dayC_221, dayC_222, w1I, wrB_N, wrB_0, wrB_1, w01, wP, wPL, wP01, wL01, wRow, w01R, wAB, wNum, isP, isL]; done) | (simp only [c9, if_true, if_false, ite_true, ite_false, and_true, true_and, and_false, false_and, and_self, or_true, true_or, or_false, false_or, or_self, not_true_eq_false, not_false_eq_true, decide_true, decide_false, Bool.and_true, Bool.true_and, Bool.and_false, Bool.false_and, Bool.and_self, Bool.or_true, Bool.true_or, Bool.or_false, Bool.false_or, Bool.not_true, Bool.not_false, cond_true, cond_false, bI_t, bI_f, Bool.false_eq_true, Bool.true_eq_false, dayC_1, dayC_21, dayC_221, dayC_222, w1I, wrN, wrB_N, wrB_0, wrB_1, w01, wP, wPL, wP01, wL01, wRow, w01R, wAB, wNum, isP, isL]; done))
  subst e22
  refine A_istore_n 23 dX10_inIt_22 rfl rfl (by decide) (by first | exact (ast_s (ast_s (ast_1 rfl))) | exact (ast_s (ast_s ast_k))) ?_
  refine A_joinI 35 (fun vj => vj = wInIt x c.2.2.2.2.2.2.2.1 c.2.2.2.2.2.2.2.2 t v) (fun j35 => ?_) (fun v35 e35 => ?_)
  · skip
    refine A_iload_n 24 dX10_inIt_23 rfl rfl rfl ?_
    refine A_if_ne 34 27 dX10_inIt_24 (by decide) rfl (fun c24 => ?_) (fun c24 => ?_)
    · skip
      try simp only [bI_0, bI_n0, Classical.not_not, Bool.not_eq_false, Bool.true_and, Bool.and_true, decide_eq_true_eq, decide_eq_false_iff_not, dayC_1, dayC_21, dayC_221, dayC_222, inI_1, inI_2, inI_3, inI_5, inI_11, inI_16] at c24
      refine A_iload_n 35 dX10_inIt_34 rfl rfl rfl ?_
      exact j35 _ (by rw [show wInIt x c.2.2.2.2.2.2.2.1 c.2.2.2.2.2.2.2.2 t v = if w1I t v = 0 then wRow x c.2.2.2.2.2.2.2.1 c.2.2.2.2.2.2.2.2 else w1I t v from wW_eq x c.2.2.2.2.2.2.2.1 c.2.2.2.2.2.2.2.2 t v]; first | (simp only [c24, if_true, if_false, ite_true, ite_false, and_true, true_and, and_false, false_and, and_self, or_true, true_or, or_false, false_or, or_self, not_true_eq_false, not_false_eq_true, decide_true, decide_false, Bool.and_true, Bool.true_and, Bool.and_false, Bool.false_and, Bool.and_self, Bool.or_true, Bool.true_or, Bool.or_false, Bool.false_or, Bool.not_true, Bool.not_false, cond_true, cond_false, bI_t, bI_f, Bool.false_eq_true, Bool.true_eq_false, dayC_1, dayC_21, dayC_221, dayC_222]; done))
    · skip
      try simp only [bI_0, bI_n0, Classical.not_not, Bool.not_eq_false, Bool.true_and, Bool.and_true, decide_eq_true_eq, decide_eq_false_iff_not, dayC_1, dayC_21, dayC_221, dayC_222, inI_1, inI_2, inI_3, inI_5, inI_11, inI_16] at c24
      refine A_aload_n 28 dX10_inIt_27 rfl rfl rfl ?_
      refine A_callVI 31 (S_X10_wrongRow X l (by first | assumption | decide | omega | exact Ne.symm (by assumption)) (by first | assumption | decide | omega | exact Ne.symm (by assumption)) (by first | assumption | decide | omega | exact Ne.symm (by assumption)) (by first | assumption | decide | omega | exact Ne.symm (by assumption))) dX10_inIt_28 rfl kX10_wrongRow lk_X10_242 rfl O28 (by decide) rfl (Nat.le_of_ble_eq_true rfl) (fun v_4 h_4 qh_4 => ?_)
      obtain ⟨rfl, rfl⟩ := qh_4
      refine A_goto 35 dX10_inIt_31 (by decide) ?_
      exact j35 _ (by rw [show wInIt x c.2.2.2.2.2.2.2.1 c.2.2.2.2.2.2.2.2 t v = if w1I t v = 0 then wRow x c.2.2.2.2.2.2.2.1 c.2.2.2.2.2.2.2.2 else w1I t v from wW_eq x c.2.2.2.2.2.2.2.1 c.2.2.2.2.2.2.2.2 t v]; first | (simp only [c24, if_true, if_false, ite_true, ite_false, and_true, true_and, and_false, false_and, and_self, or_true, true_or, or_false, false_or, or_self, not_true_eq_false, not_false_eq_true, decide_true, decide_false, Bool.and_true, Bool.true_and, Bool.and_false, Bool.false_and, Bool.and_self, Bool.or_true, Bool.true_or, Bool.or_false, Bool.false_or, Bool.not_true, Bool.not_false, cond_true, cond_false, bI_t, bI_f, Bool.false_eq_true, Bool.true_eq_false, dayC_1, dayC_21, dayC_221, dayC_222]; done) | (simp only [eq_true c24, if_true, if_false, ite_true, ite_false, and_true, true_and, and_false, false_and, and_self, or_true, true_or, or_false, false_or, or_self, not_true_eq_false, not_false_eq_true, decide_true, decide_false, Bool.and_true, Bool.true_and, Bool.and_false, Bool.false_and, Bool.and_self, Bool.or_true, Bool.true_or, Bool.or_false, Bool.false_or, Bool.not_true, Bool.not_false, cond_true, cond_false, bI_t, bI_f, Bool.false_eq_true, Bool.true_eq_false, dayC_1, dayC_21, dayC_221, dayC_222]; done))
  subst e35
  refine A_istore_n 36 dX10_inIt_35 rfl rfl (by decide) (by first | exact (ast_s (ast_s (ast_1 rfl))) | exact (ast_s (ast_s ast_k))) ?_
  refine A_iload_n 37 dX10_inIt_36 rfl rfl rfl ?_
  refine A_if_ge 51 40 dX10_inIt_37 (by decide) rfl (fun c37 => ?_) (fun c37 => ?_)
  · skip
    try simp only [bI_0, bI_n0, Classical.not_not, Bool.not_eq_false, Bool.true_and, Bool.and_true, decide_eq_true_eq, decide_eq_false_iff_not, dayC_1, dayC_21, dayC_221, dayC_222, inI_1, inI_2, inI_3, inI_5, inI_11, inI_16] at c37
    have n37 := c37
    replace c37 := Int32.not_lt.mpr c37
    have hw0 : wInIt x c.2.2.2.2.2.2.2.1 c.2.2.2.2.2.2.2.2 t v = 0 := cz_pos wInIt_cz c37
    obtain ⟨f1, f2, f3⟩ := wInIt_0 hw0
    have h12 := rowOK_12 f3
    obtain ⟨cm, hcm, ecm⟩ := cdN_n x c.2.2.2.2.2.2.2.1 c.2.2.2.2.2.2.2.2
    obtain ⟨ca, hca, eca⟩ := cw_nI x c.2.2.2.2.2.2.2.1 c.2.2.2.2.2.2.2.2 t
    refine A_aload_n 52 dX10_inIt_51 rfl rfl rfl ?_
    refine A_callVI 55 (S_X10_layCould X l O28 hW (by omega) hr) dX10_inIt_52 rfl kX10_layCould lk_X10_245 rfl O28 (by decide) rfl (Nat.le_of_ble_eq_true rfl) (fun v_5 h_5 qh_5 => ?_)
    obtain ⟨rfl, z1_5, n0h_5, ph_5, eh_5⟩ := qh_5
    replace O28 := n0h_5
    replace hf : ∀ i, i ≠ 28 → h_5 i = h i := fun i g0 => (eh_5 i g0).trans (hf i g0)
    have hcd_ := ph_5
    refine A_istore 57 dX10_inIt_55 rfl (by decide) (by first | exact (ast_s (ast_s (ast_s (ast_1 rfl)))) | exact (ast_s (ast_s (ast_s ast_k)))) ?_
    refine A_aload_n 58 dX10_inIt_57 rfl rfl rfl ?_
    refine A_iload_n 59 dX10_inIt_58 rfl rfl rfl ?_
    refine A_callVI 62 (S_X10_withThing X l O28 hW hcd_) dX10_inIt_59 rfl kX10_withThing lk_X10_254 rfl O28 (by decide) rfl (Nat.le_of_ble_eq_true rfl) (fun v_6 h_6 qh_6 => ?_)
    obtain ⟨rfl, rfl⟩ := qh_6
    refine A_i2l 63 dX10_inIt_62 rfl ?_
    refine A_iload 65 dX10_inIt_63 rfl rfl ?_
    refine A_i2l 66 dX10_inIt_65 rfl ?_
    refine A_iload_n 67 dX10_inIt_66 rfl rfl rfl ?_
    refine A_callSL 70 (S_X10_partOf X l (p01 f2) (by rw [eca]; exact nIL_0 (by omega)) (by rw [ecm]; exact nIL_eu (by omega) _)) dX10_inIt_67 rfl kX10_partOf lk_X10_257 rfl (by decide) rfl (Nat.le_of_ble_eq_true rfl) (fun v_7 h_7 qh_7 => ?_)
    obtain ⟨rfl, rfl⟩ := qh_7
    refine A_lret dX10_inIt_70 rfl ⟨_, rfl, (by rw [hw0, rVL_0]; rfl), _, (by rw [hw0, rS_0]; exact O28), hf⟩
  · skip
    try simp only [bI_0, bI_n0, Classical.not_not, Bool.not_eq_false, Bool.true_and, Bool.and_true, decide_eq_true_eq, decide_eq_false_iff_not, dayC_1, dayC_21, dayC_221, dayC_222, inI_1, inI_2, inI_3, inI_5, inI_11, inI_16] at c37
    have n37 := c37
    replace c37 := Int32.not_le.mp c37
    have hcd : CD (wInIt x c.2.2.2.2.2.2.2.1 c.2.2.2.2.2.2.2.2 t v) := cz_neg wInIt_cz c37
    refine A_ldc2_w 43 _ dX10_inIt_40 rfl cn_X10_252 ?_
    refine A_aload_n 44 dX10_inIt_43 rfl rfl rfl ?_
    refine A_iload_n 45 dX10_inIt_44 rfl rfl rfl ?_
    refine A_callVI 48 (S_X10_refuse_c X l (by first | assumption | decide | omega | exact Ne.symm (by assumption)) (by first | assumption | (unfold CD; decide))) dX10_inIt_45 rfl kX10_refuse lk_X10_121 rfl O28 (by decide) rfl (Nat.le_of_ble_eq_true rfl) (fun v_8 h_8 qh_8 => ?_)
    obtain ⟨rfl, n0h_8, eh_8⟩ := qh_8
    replace O28 := n0h_8
    replace hf : ∀ i, i ≠ 28 → h_8 i = h i := fun i g0 => (eh_8 i g0).trans (hf i g0)
    refine A_i2l 49 dX10_inIt_48 rfl ?_
    refine A_lsub 50 dX10_inIt_49 rfl ?_
    refine A_lret dX10_inIt_50 rfl ⟨_, rfl, (by exact rVL_n hcd.ne), _, O28, hf⟩
set_option maxHeartbeats 4000000 in
set_option maxRecDepth 100000 in
theorem S_X10_adds (X : En) (l : Launch) {h : Hp} {x : PW} {c : RC} {z : RZ} (O28 : h 28 = some (rB x (-1) c z)) (hW : WOK x)  {p t v : Int32} : Ct X l mX10_adds [aR 28 0, aI p, aI t, aI v] h (QL (fun vr h2 => (rVL (wAdds x p t v) (aAdds x p t v)) = vr ∧ ∃ (z1 : RZ), h2 (28) = some (rB x (-1) (rS (wAdds x p t v) c.1, c.2) z1) ∧ ∀ i, i ≠ 28 → h2 i = h i)) := by
  have hx := hW.1
  have hp := hW.2.1
  have h10 := hx.1
  have hf : ∀ i, i ≠ 28 → h i = h i := fun _ _ => rfl
  refine Ct.intro [some (aR 28 0), some (aI p), some (aI t), some (aI v), none, none, none, none, none, none, none, none] (by decide +kernel) rfl (Nat.le_of_ble_eq_true rfl) ?_
  refine A_aload_n 1 dX10_adds_0 rfl rfl rfl ?_
  refine A_iconst 2 (0) dX10_adds_1 rfl (by decide) ?_
  refine P_X10_9 5 dX10_adds_2 rfl fw_X10_78 O28 (fun h_1 nh_1 eh_1 => ?_)
  replace O28 := nh_1
  replace hf : ∀ i, i ≠ 28 → h_1 i = h i := fun i g0 => (eh_1 i g0).trans (hf i g0)
  try dsimp only at O28
  refine A_joinI 30 (fun vj => vj = w1A x p t v) (fun j30 => ?_) (fun v30 e30 => ?_)
  · skip
    refine A_aload_n 6 dX10_adds_5 rfl rfl rfl ?_
    refine A_iload_n 7 dX10_adds_6 rfl rfl rfl ?_
    refine A_callVI 10 (S_X10_isOne X l (by first | assumption | decide | omega | exact Ne.symm (by assumption)) (by first | assumption | decide | omega | exact Ne.symm (by assumption))) dX10_adds_7 rfl kX10_isOne lk_X10_160 rfl O28 (by decide) rfl (Nat.le_of_ble_eq_true rfl) (fun v_2 h_2 qh_2 => ?_)
    obtain ⟨rfl, rfl⟩ := qh_2
    refine A_if_eq 29 13 dX10_adds_10 (by decide) rfl (fun c10 => ?_) (fun c10 => ?_)
    · skip
      try simp only [bI_0, bI_n0, Classical.not_not, Bool.not_eq_false, Bool.true_and, Bool.and_true, decide_eq_true_eq, decide_eq_false_iff_not, dayC_1, dayC_21, dayC_221, dayC_222, inI_1, inI_2, inI_3, inI_5, inI_11, inI_16] at c10
      refine A_iconst 30 (-1) dX10_adds_29 rfl (by decide) ?_
      exact j30 _ (by first | (simp only [c10, if_true, if_false, ite_true, ite_false, and_true, true_and, and_false, false_and, and_self, or_true, true_or, or_false, false_or, or_self, not_true_eq_false, not_false_eq_true, decide_true, decide_false, Bool.and_true, Bool.true_and, Bool.and_false, Bool.false_and, Bool.and_self, Bool.or_true, Bool.true_or, Bool.or_false, Bool.false_or, Bool.not_true, Bool.not_false, cond_true, cond_false, bI_t, bI_f, Bool.false_eq_true, Bool.true_eq_false, dayC_1, dayC_21, dayC_221, dayC_222, w1A, wrB_N, wrB_0, wrB_1, w01, wP, wPL, wP01, wL01, wRow, w01R, wAB, wNum, isP, isL]; done) | (simp only [c10, if_true, if_false, ite_true, ite_false, and_true, true_and, and_false, false_and, and_self, or_true, true_or, or_false, false_or, or_self, not_true_eq_false, not_false_eq_true, decide_true, decide_false, Bool.and_true, Bool.true_and, Bool.and_false, Bool.false_and, Bool.and_self, Bool.or_true, Bool.true_or, Bool.or_false, Bool.false_or, Bool.not_true, Bool.not_false, cond_true, cond_false, bI_t, bI_f, Bool.false_eq_true, Bool.true_eq_false, dayC_1, dayC_21, dayC_221, dayC_222, w1A, wrN, wrB_N, wrB_0, wrB_1, w01, wP, wPL, wP01, wL01, wRow, w01R, wAB, wNum, isP, isL]; done))
    · skip
      try simp only [bI_0, bI_n0, Classical.not_not, Bool.not_eq_false, Bool.true_and, Bool.and_true, decide_eq_true_eq, decide_eq_false_iff_not, dayC_1, dayC_21, dayC_221, dayC_222, inI_1, inI_2, inI_3, inI_5, inI_11, inI_16] at c10
      refine A_iload_n 14 dX10_adds_13 rfl rfl rfl ?_
      refine A_callSI 17 (S_X10_isThing X l) dX10_adds_14 rfl kX10_isThing lk_X10_217 rfl (by decide) rfl (Nat.le_of_ble_eq_true rfl) (fun v_3 h_3 qh_3 => ?_)
      obtain ⟨rfl, rfl⟩ := qh_3
      refine A_if_eq 29 20 dX10_adds_17 (by decide) rfl (fun c17 => ?_) (fun c17 => ?_)
      · skip
        try simp only [bI_0, bI_n0, Classical.not_not, Bool.not_eq_false, Bool.true_and, Bool.and_true, decide_eq_true_eq, decide_eq_false_iff_not, dayC_1, dayC_21, dayC_221, dayC_222, inI_1, inI_2, inI_3, inI_5, inI_11, inI_16] at c17
        refine A_iconst 30 (-1) dX10_adds_29 rfl (by decide) ?_
        exact j30 _ (by first | (simp only [c10, c17, if_true, if_false, ite_true, ite_false, and_true, true_and, and_false, false_and, and_self, or_true, true_or, or_false, false_or, or_self, not_true_eq_false, not_false_eq_true, decide_true, decide_false, Bool.and_true, Bool.true_and, Bool.and_false, Bool.false_and, Bool.and_self, Bool.or_true, Bool.true_or, Bool.or_false, Bool.false_or, Bool.not_true, Bool.not_false, cond_true, cond_false, bI_t, bI_f, Bool.false_eq_true, Bool.true_eq_false, dayC_1, dayC_21, dayC_221, dayC_222, w1A, wrB_N, wrB_0, wrB_1, w01, wP, wPL, wP01, wL01, wRow, w01R, wAB, wNum, isP, isL]; done) | (simp only [c10, c17, if_true, if_false, ite_true, ite_false, and_true, true_and, and_false, false_and, and_self, or_true, true_or, or_false, false_or, or_self, not_true_eq_false, not_false_eq_true, decide_true, decide_false, Bool.and_true, Bool.true_and, Bool.and_false, Bool.false_and, Bool.and_self, Bool.or_true, Bool.true_or, Bool.or_false, Bool.false_or, Bool.not_true, Bool.not_false, cond_true, cond_false, bI_t, bI_f, Bool.false_eq_true, Bool.true_eq_false, dayC_1, dayC_21, dayC_221, dayC_222, w1A, wrN, wrB_N, wrB_0, wrB_1, w01, wP, wPL, wP01, wL01, wRow, w01R, wAB, wNum, isP, isL]; done))
      · skip
        try simp only [bI_0, bI_n0, Classical.not_not, Bool.not_eq_false, Bool.true_and, Bool.and_true, decide_eq_true_eq, decide_eq_false_iff_not, dayC_1, dayC_21, dayC_221, dayC_222, inI_1, inI_2, inI_3, inI_5, inI_11, inI_16] at c17
        refine A_iconst 21 (0) dX10_adds_20 rfl (by decide) ?_
        refine A_iload_n 22 dX10_adds_21 rfl rfl rfl ?_
        refine A_iconst 23 (1) dX10_adds_22 rfl (by decide) ?_
        refine A_callSI 26 (S_X10_wrongBit X l) dX10_adds_23 rfl kX10_wrongBit lk_X10_225 rfl (by decide) rfl (Nat.le_of_ble_eq_true rfl) (fun v_4 h_4 qh_4 => ?_)
        obtain ⟨rfl, rfl⟩ := qh_4
        refine A_goto 30 dX10_adds_26 (by decide) ?_
        exact j30 _ (by first | (simp only [c10, c17, if_true, if_false, ite_true, ite_false, and_true, true_and, and_false, false_and, and_self, or_true, true_or, or_false, false_or, or_self, not_true_eq_false, not_false_eq_true, decide_true, decide_false, Bool.and_true, Bool.true_and, Bool.and_false, Bool.false_and, Bool.and_self, Bool.or_true, Bool.true_or, Bool.or_false, Bool.false_or, Bool.not_true, Bool.not_false, cond_true, cond_false, bI_t, bI_f, Bool.false_eq_true, Bool.true_eq_false, dayC_1, dayC_21, dayC_221, dayC_222, w1A, wrB_N, wrB_0, wrB_1, w01, wP, wPL, wP01, wL01, wRow, w01R, wAB, wNum, isP, isL]; done) | (simp only [c10, c17, if_true, if_false, ite_true, ite_false, and_true, true_and, and_false, false_and, and_self, or_true, true_or, or_false, false_or, or_self, not_true_eq_false, not_false_eq_true, decide_true, decide_false, Bool.and_true, Bool.true_and, Bool.and_false, Bool.false_and, Bool.and_self, Bool.or_true, Bool.true_or, Bool.or_false, Bool.false_or, Bool.not_true, Bool.not_false, cond_true, cond_false, bI_t, bI_f, Bool.false_eq_true, Bool.true_eq_false, dayC_1, dayC_21, dayC_221, dayC_222, w1A, wrN, wrB_N, wrB_0, wrB_1, w01, wP, wPL, wP01, wL01, wRow, w01R, wAB, wNum, isP, isL]; done))
  subst e30
  refine A_istore 32 dX10_adds_30 rfl (by decide) (by first | exact (ast_s (ast_s (ast_s (ast_1 rfl)))) | exact (ast_s (ast_s (ast_s ast_k)))) ?_
  refine A_joinI 57 (fun vj => vj = wAdds x p t v) (fun j57 => ?_) (fun v57 e57 => ?_)
  · skip
    refine A_iload 34 dX10_adds_32 rfl rfl ?_
    refine A_if_ne 55 37 dX10_adds_34 (by decide) rfl (fun c34 => ?_) (fun c34 => ?_)
    · skip
      try simp only [bI_0, bI_n0, Classical.not_not, Bool.not_eq_false, Bool.true_and, Bool.and_true, decide_eq_true_eq, decide_eq_false_iff_not, dayC_1, dayC_21, dayC_221, dayC_222, inI_1, inI_2, inI_3, inI_5, inI_11, inI_16] at c34
      refine A_iload 57 dX10_adds_55 rfl rfl ?_
      exact j57 _ (by rw [wA_eq]; first | (simp only [c34, if_true, if_false, ite_true, ite_false, and_true, true_and, and_false, false_and, and_self, or_true, true_or, or_false, false_or, or_self, not_true_eq_false, not_false_eq_true, decide_true, decide_false, Bool.and_true, Bool.true_and, Bool.and_false, Bool.false_and, Bool.and_self, Bool.or_true, Bool.true_or, Bool.or_false, Bool.false_or, Bool.not_true, Bool.not_false, cond_true, cond_false, bI_t, bI_f, Bool.false_eq_true, Bool.true_eq_false, dayC_1, dayC_21, dayC_221, dayC_222, pk]; done))
    · skip
      try simp only [bI_0, bI_n0, Classical.not_not, Bool.not_eq_false, Bool.true_and, Bool.and_true, decide_eq_true_eq, decide_eq_false_iff_not, dayC_1, dayC_21, dayC_221, dayC_222, inI_1, inI_2, inI_3, inI_5, inI_11, inI_16] at c34
      obtain ⟨f0, _⟩ := w1A_0 c34
      obtain ⟨k_p, rfl, hk_p⟩ := inN_ex f0 (by omega)
      have cl_p : (nI k_p).toNatClampNeg = k_p := nI_clamp (by omega)
      have hk6_p : k_p < 6 := by omega
      refine A_aload_n 38 dX10_adds_37 rfl rfl rfl ?_
      refine A_getfield 41 dX10_adds_38 rfl f_X10_22 O28 rfl ?_
      refine A_iload_n 42 dX10_adds_41 rfl rfl rfl ?_
      refine A_iaload 43 dX10_adds_42 rfl O28 rfl (by first | assumption | exact ix_nI (by omega) (by decide) | exact ix_lit _ rfl (by omega) (by decide) | exact ix_lit _ rfl (by decide) (by decide)) ?_
      try dsimp only
      refine A_iload_n 44 dX10_adds_43 rfl rfl rfl ?_
      refine A_callSI 47 (S_X10_hasBit X l) dX10_adds_44 rfl kX10_hasBit lk_X10_93 rfl (by decide) rfl (Nat.le_of_ble_eq_true rfl) (fun v_5 h_5 qh_5 => ?_)
      obtain ⟨rfl, rfl⟩ := qh_5
      refine A_if_ne 55 50 dX10_adds_47 (by decide) rfl (fun c47 => ?_) (fun c47 => ?_)
      · skip
        try simp only [bI_0, bI_n0, Classical.not_not, Bool.not_eq_false, Bool.true_and, Bool.and_true, decide_eq_true_eq, decide_eq_false_iff_not, dayC_1, dayC_21, dayC_221, dayC_222, inI_1, inI_2, inI_3, inI_5, inI_11, inI_16] at c47
        refine A_iload 57 dX10_adds_55 rfl rfl ?_
        exact j57 _ (by rw [wA_eq]; first | (simp only [c34, cl_p, c47, if_true, if_false, ite_true, ite_false, and_true, true_and, and_false, false_and, and_self, or_true, true_or, or_false, false_or, or_self, not_true_eq_false, not_false_eq_true, decide_true, decide_false, Bool.and_true, Bool.true_and, Bool.and_false, Bool.false_and, Bool.and_self, Bool.or_true, Bool.true_or, Bool.or_false, Bool.false_or, Bool.not_true, Bool.not_false, cond_true, cond_false, bI_t, bI_f, Bool.false_eq_true, Bool.true_eq_false, dayC_1, dayC_21, dayC_221, dayC_222, pk]; done) | (simp only [eq_true c34, cl_p, c47, if_true, if_false, ite_true, ite_false, and_true, true_and, and_false, false_and, and_self, or_true, true_or, or_false, false_or, or_self, not_true_eq_false, not_false_eq_true, decide_true, decide_false, Bool.and_true, Bool.true_and, Bool.and_false, Bool.false_and, Bool.and_self, Bool.or_true, Bool.true_or, Bool.or_false, Bool.false_or, Bool.not_true, Bool.not_false, cond_true, cond_false, bI_t, bI_f, Bool.false_eq_true, Bool.true_eq_false, dayC_1, dayC_21, dayC_221, dayC_222, pk]; done))
      · skip
        try simp only [bI_0, bI_n0, Classical.not_not, Bool.not_eq_false, Bool.true_and, Bool.and_true, decide_eq_true_eq, decide_eq_false_iff_not, dayC_1, dayC_21, dayC_221, dayC_222, inI_1, inI_2, inI_3, inI_5, inI_11, inI_16] at c47
        refine A_bipush 52 (-3) dX10_adds_50 rfl (by decide) ?_
        refine A_goto 57 dX10_adds_52 (by decide) ?_
        exact j57 _ (by rw [wA_eq]; first | (simp only [c34, cl_p, c47, if_true, if_false, ite_true, ite_false, and_true, true_and, and_false, false_and, and_self, or_true, true_or, or_false, false_or, or_self, not_true_eq_false, not_false_eq_true, decide_true, decide_false, Bool.and_true, Bool.true_and, Bool.and_false, Bool.false_and, Bool.and_self, Bool.or_true, Bool.true_or, Bool.or_false, Bool.false_or, Bool.not_true, Bool.not_false, cond_true, cond_false, bI_t, bI_f, Bool.false_eq_true, Bool.true_eq_false, dayC_1, dayC_21, dayC_221, dayC_222, pk]; done) | (simp only [eq_true c34, cl_p, c47, if_true, if_false, ite_true, ite_false, and_true, true_and, and_false, false_and, and_self, or_true, true_or, or_false, false_or, or_self, not_true_eq_false, not_false_eq_true, decide_true, decide_false, Bool.and_true, Bool.true_and, Bool.and_false, Bool.false_and, Bool.and_self, Bool.or_true, Bool.true_or, Bool.or_false, Bool.false_or, Bool.not_true, Bool.not_false, cond_true, cond_false, bI_t, bI_f, Bool.false_eq_true, Bool.true_eq_false, dayC_1, dayC_21, dayC_221, dayC_222, pk]; done))
  subst e57
  refine A_istore 59 dX10_adds_57 rfl (by decide) (by first | exact (ast_s (ast_s (ast_s (ast_1 rfl)))) | exact (ast_s (ast_s (ast_s ast_k)))) ?_
  refine A_iload 61 dX10_adds_59 rfl rfl ?_
  refine A_if_ge 76 64 dX10_adds_61 (by decide) rfl (fun c61 => ?_) (fun c61 => ?_)
  · skip
    try simp only [bI_0, bI_n0, Classical.not_not, Bool.not_eq_false, Bool.true_and, Bool.and_true, decide_eq_true_eq, decide_eq_false_iff_not, dayC_1, dayC_21, dayC_221, dayC_222, inI_1, inI_2, inI_3, inI_5, inI_11, inI_16] at c61
    have n61 := c61
    replace c61 := Int32.not_lt.mpr c61
    have hw0 : wAdds x p t v = 0 := cz_pos wAdds_cz c61
    obtain ⟨⟨f1, f1t⟩, f2, f3⟩ := wAdds_0 hw0
    obtain ⟨k_p, rfl, hk_p⟩ := inN_ex f1 (by omega)
    have cl_p : (nI k_p).toNatClampNeg = k_p := nI_clamp (by omega)
    have hk6_p : k_p < 6 := by omega
    obtain ⟨k_t, rfl, hk_t⟩ := inT_ex f1t
    have cl_t : (nI k_t).toNatClampNeg = k_t := nI_clamp (by omega)
    have hR := WOK_pk hW (p := k_p) (by omega)
    have hb : btI (x.2.1 k_p) (nI k_t) = true := by
      have q := f3
      unfold pk at q
      rw [cl_p] at q
      exact q
    refine A_aload_n 77 dX10_adds_76 rfl rfl rfl ?_
    refine A_getfield 80 dX10_adds_77 rfl f_X10_22 O28 rfl ?_
    refine A_iload_n 81 dX10_adds_80 rfl rfl rfl ?_
    refine A_iaload 82 dX10_adds_81 rfl O28 rfl (by first | assumption | exact ix_nI (by omega) (by decide) | exact ix_lit _ rfl (by omega) (by decide) | exact ix_lit _ rfl (by decide) (by decide)) ?_
    try dsimp only
    refine A_istore 84 dX10_adds_82 rfl (by decide) (by first | exact (ast_s (ast_s (ast_s (ast_s (ast_1 rfl))))) | exact (ast_s (ast_s (ast_s (ast_s ast_k))))) ?_
    refine A_iload 86 dX10_adds_84 rfl rfl ?_
    refine A_callSI 89 (S_X10_onesOf_r X l (by first | assumption | exact R10.nI (by omega) | exact dDone_R (by assumption) _ _ | exact R8.r10 (by assumption) | exact (WOK_pk (by assumption) (by omega)).r10 | exact (WOK_tr (by assumption)).r10 | exact R10_and _ (dDone_R (by assumption) _ _))) dX10_adds_86 rfl kX10_onesOf lk_X10_112 rfl (by decide) rfl (Nat.le_of_ble_eq_true rfl) (fun v_6 h_6 qh_6 => ?_)
    obtain ⟨rfl, rfl⟩ := qh_6
    refine A_istore 91 dX10_adds_89 rfl (by decide) (by first | exact (ast_s (ast_s (ast_s (ast_s (ast_s (ast_1 rfl)))))) | exact (ast_s (ast_s (ast_s (ast_s (ast_s ast_k)))))) ?_
    refine A_lconst 92 (0) dX10_adds_91 rfl (by decide) ?_
    refine A_lstore 94 dX10_adds_92 rfl (by decide) (by first | exact (astL_s (astL_s (astL_s (astL_s (astL_s (astL_s (astL_1 rfl))))))) | exact (astL_s (astL_s (astL_s (astL_s (astL_s (astL_s astL_k))))))) ?_
    refine A_iconst 95 (0) dX10_adds_94 rfl (by decide) ?_
    refine A_istore 97 dX10_adds_95 rfl (by decide) (by first | exact (ast_s (ast_s (ast_s (ast_s (ast_s (ast_s (ast_s (ast_s (ast_1 rfl))))))))) | exact (ast_s (ast_s (ast_s (ast_s (ast_s (ast_s (ast_s (ast_s ast_k))))))))) ?_
    have L97 : ∀ (nq i : Nat) (u : Int64) (g97 : Hp) (z2 : RZ), (nq + i = 256) → (foldN (aoR x (x.2.1 k_p) (nI k_t)) (0) i = (u)) → (g97 28 = some (rB x (-1) c z2)) → (∀ i, i ≠ 28 → g97 i = h i) → Av X l mX10_adds 97 [some (aR 28 0), some (aI (nI (k_p))), some (aI (nI (k_t))), some (aI (v)), none, some (aI (x.2.1 k_p)), some (aI (bitC (x.2.1 k_p))), some (aL (u)), none, some (aI (nI (i))), none, none] [] g97 (QL (fun vr h2 => (rVL (wAdds x (nI k_p) (nI k_t) v) (aAdds x (nI k_p) (nI k_t) v)) = vr ∧ ∃ (z1 : RZ), h2 (28) = some (rB x (-1) (rS (wAdds x (nI k_p) (nI k_t) v) c.1, c.2) z1) ∧ ∀ i, i ≠ 28 → h2 i = h i)) := by
      intro nq
      induction nq using Nat.strongRecOn with
      | _ nq ih =>
      intro i u g97 z2 en ee O28 hf
      have hr := R10.nI (m := i) (by omega)
      refine A_iload 99 dX10_adds_97 rfl rfl ?_
      refine A_sipush 102 (256) dX10_adds_99 rfl (by decide) ?_
      refine A_icmp_ge 180 105 dX10_adds_102 (by decide) rfl (fun c102 => ?_) (fun c102 => ?_)
      · skip
        obtain rfl := (up_ge_T (N := 256) c102 rfl (by omega) (by omega)).symm
        have ez := (ao_eq x hR hk_t hb).symm.trans ee
        refine A_lload 182 dX10_adds_180 rfl rfl ?_
        refine A_lconst 183 (0) dX10_adds_182 rfl (by decide) ?_
        refine A_lcmp 184 dX10_adds_183 rfl ?_
        refine A_if_ne 190 187 dX10_adds_184 (by decide) rfl (fun c184 => ?_) (fun c184 => ?_)
        · skip
          have q3 := mt lcmp_eq.mpr c184
          refine A_lload 192 dX10_adds_190 rfl rfl ?_
          refine A_lconst 193 (0) dX10_adds_192 rfl (by decide) ?_
          refine A_lcmp 194 dX10_adds_193 rfl ?_
          refine A_if_ge 203 197 dX10_adds_194 (by decide) rfl (fun c194 => ?_) (fun c194 => ?_)
          · skip
            try simp only [bI_0, bI_n0, Classical.not_not, Bool.not_eq_false, Bool.true_and, Bool.and_true, decide_eq_true_eq, decide_eq_false_iff_not, dayC_1, dayC_21, dayC_221, dayC_222, inI_1, inI_2, inI_3, inI_5, inI_11, inI_16] at c194
            have n194 := c194
            replace c194 := Int32.not_lt.mpr c194
            have cl_a : absL u = u := if_pos (lpos_of c194 q3)
            refine A_lload 205 dX10_adds_203 rfl rfl ?_
            refine A_iload 207 dX10_adds_205 rfl rfl ?_
            refine A_callSL 210 (S_X10_ordersOf X l hR.r10.lt) dX10_adds_207 rfl kX10_ordersOf lk_X10_273 rfl (by decide) rfl (Nat.le_of_ble_eq_true rfl) (fun v_7 h_7 qh_7 => ?_)
            obtain ⟨rfl, rfl⟩ := qh_7
            refine A_callSL 213 (S_X10_divisor X l (facI_eu hR _)) dX10_adds_210 rfl kX10_divisor lk_X10_248 rfl (by decide) rfl (Nat.le_of_ble_eq_true rfl) (fun v_8 h_8 qh_8 => ?_)
            obtain ⟨rfl, rfl⟩ := qh_8
            refine A_lstore 215 dX10_adds_213 rfl (by decide) (by first | exact (astL_s (astL_s (astL_s (astL_s (astL_s (astL_s (astL_s (astL_s (astL_1 rfl))))))))) | exact (astL_s (astL_s (astL_s (astL_s (astL_s (astL_s (astL_s (astL_s astL_k))))))))) ?_
            refine A_iload_n 216 dX10_adds_215 rfl rfl rfl ?_
            refine A_if_ne 227 219 dX10_adds_216 (by decide) rfl (fun c216 => ?_) (fun c216 => ?_)
            · skip
              try simp only [bI_0, bI_n0, Classical.not_not, Bool.not_eq_false, Bool.true_and, Bool.and_true, decide_eq_true_eq, decide_eq_false_iff_not, dayC_1, dayC_21, dayC_221, dayC_222, inI_1, inI_2, inI_3, inI_5, inI_11, inI_16] at c216
              refine A_iload 229 dX10_adds_227 rfl rfl ?_
              refine A_callSL 232 (S_X10_ordersOf X l hR.r10.lt) dX10_adds_229 rfl kX10_ordersOf lk_X10_273 rfl (by decide) rfl (Nat.le_of_ble_eq_true rfl) (fun v_9 h_9 qh_9 => ?_)
              obtain ⟨rfl, rfl⟩ := qh_9
              refine A_lload 234 dX10_adds_232 rfl rfl ?_
              refine A_ldiv 235 dX10_adds_234 rfl (by rw [← cl_a]; exact euL_nz 100 _ (absL_ne q3)) ?_
              refine A_lret dX10_adds_235 rfl ⟨_, rfl, (by rw [hw0, rVL_0]; unfold aAdds pk; rw [cl_p, ez]; unfold loF; rw [if_neg q3, if_neg (euL_nz 100 _ (absL_ne q3)), cl_a]; first | rw [if_pos c216] | rw [if_neg c216]), _, (by rw [hw0, rS_0]; exact O28), hf⟩
            · skip
              try simp only [bI_0, bI_n0, Classical.not_not, Bool.not_eq_false, Bool.true_and, Bool.and_true, decide_eq_true_eq, decide_eq_false_iff_not, dayC_1, dayC_21, dayC_221, dayC_222, inI_1, inI_2, inI_3, inI_5, inI_11, inI_16] at c216
              refine A_lload 221 dX10_adds_219 rfl rfl ?_
              refine A_lload 223 dX10_adds_221 rfl rfl ?_
              refine A_ldiv 224 dX10_adds_223 rfl (by rw [← cl_a]; exact euL_nz 100 _ (absL_ne q3)) ?_
              refine A_goto 235 dX10_adds_224 (by decide) ?_
              refine A_lret dX10_adds_235 rfl ⟨_, rfl, (by rw [hw0, rVL_0]; unfold aAdds pk; rw [cl_p, ez]; unfold loF; rw [if_neg q3, if_neg (euL_nz 100 _ (absL_ne q3)), cl_a]; first | rw [if_pos c216] | rw [if_neg c216]), _, (by rw [hw0, rS_0]; exact O28), hf⟩
          · skip
            try simp only [bI_0, bI_n0, Classical.not_not, Bool.not_eq_false, Bool.true_and, Bool.and_true, decide_eq_true_eq, decide_eq_false_iff_not, dayC_1, dayC_21, dayC_221, dayC_222, inI_1, inI_2, inI_3, inI_5, inI_11, inI_16] at c194
            have n194 := c194
            replace c194 := Int32.not_le.mp c194
            have cl_a : absL u = -u := if_neg (lneg_of c194)
            refine A_lload 199 dX10_adds_197 rfl rfl ?_
            refine A_lneg 200 dX10_adds_199 rfl ?_
            refine A_goto 205 dX10_adds_200 (by decide) ?_
            refine A_iload 207 dX10_adds_205 rfl rfl ?_
            refine A_callSL 210 (S_X10_ordersOf X l hR.r10.lt) dX10_adds_207 rfl kX10_ordersOf lk_X10_273 rfl (by decide) rfl (Nat.le_of_ble_eq_true rfl) (fun v_10 h_10 qh_10 => ?_)
            obtain ⟨rfl, rfl⟩ := qh_10
            refine A_callSL 213 (S_X10_divisor X l (facI_eu hR _)) dX10_adds_210 rfl kX10_divisor lk_X10_248 rfl (by decide) rfl (Nat.le_of_ble_eq_true rfl) (fun v_11 h_11 qh_11 => ?_)
            obtain ⟨rfl, rfl⟩ := qh_11
            refine A_lstore 215 dX10_adds_213 rfl (by decide) (by first | exact (astL_s (astL_s (astL_s (astL_s (astL_s (astL_s (astL_s (astL_s (astL_1 rfl))))))))) | exact (astL_s (astL_s (astL_s (astL_s (astL_s (astL_s (astL_s (astL_s astL_k))))))))) ?_
            refine A_iload_n 216 dX10_adds_215 rfl rfl rfl ?_
            refine A_if_ne 227 219 dX10_adds_216 (by decide) rfl (fun c216 => ?_) (fun c216 => ?_)
            · skip
              try simp only [bI_0, bI_n0, Classical.not_not, Bool.not_eq_false, Bool.true_and, Bool.and_true, decide_eq_true_eq, decide_eq_false_iff_not, dayC_1, dayC_21, dayC_221, dayC_222, inI_1, inI_2, inI_3, inI_5, inI_11, inI_16] at c216
              refine A_iload 229 dX10_adds_227 rfl rfl ?_
              refine A_callSL 232 (S_X10_ordersOf X l hR.r10.lt) dX10_adds_229 rfl kX10_ordersOf lk_X10_273 rfl (by decide) rfl (Nat.le_of_ble_eq_true rfl) (fun v_12 h_12 qh_12 => ?_)
              obtain ⟨rfl, rfl⟩ := qh_12
              refine A_lload 234 dX10_adds_232 rfl rfl ?_
              refine A_ldiv 235 dX10_adds_234 rfl (by rw [← cl_a]; exact euL_nz 100 _ (absL_ne q3)) ?_
              refine A_lret dX10_adds_235 rfl ⟨_, rfl, (by rw [hw0, rVL_0]; unfold aAdds pk; rw [cl_p, ez]; unfold loF; rw [if_neg q3, if_neg (euL_nz 100 _ (absL_ne q3)), cl_a]; first | rw [if_pos c216] | rw [if_neg c216]), _, (by rw [hw0, rS_0]; exact O28), hf⟩
            · skip
              try simp only [bI_0, bI_n0, Classical.not_not, Bool.not_eq_false, Bool.true_and, Bool.and_true, decide_eq_true_eq, decide_eq_false_iff_not, dayC_1, dayC_21, dayC_221, dayC_222, inI_1, inI_2, inI_3, inI_5, inI_11, inI_16] at c216
              refine A_lload 221 dX10_adds_219 rfl rfl ?_
              refine A_lload 223 dX10_adds_221 rfl rfl ?_
              refine A_ldiv 224 dX10_adds_223 rfl (by rw [← cl_a]; exact euL_nz 100 _ (absL_ne q3)) ?_
              refine A_goto 235 dX10_adds_224 (by decide) ?_
              refine A_lret dX10_adds_235 rfl ⟨_, rfl, (by rw [hw0, rVL_0]; unfold aAdds pk; rw [cl_p, ez]; unfold loF; rw [if_neg q3, if_neg (euL_nz 100 _ (absL_ne q3)), cl_a]; first | rw [if_pos c216] | rw [if_neg c216]), _, (by rw [hw0, rS_0]; exact O28), hf⟩
        · skip
          have q3 := lcmp_eq.mp c184
          refine A_iload_n 188 dX10_adds_187 rfl rfl rfl ?_
          refine A_i2l 189 dX10_adds_188 rfl ?_
          refine A_lret dX10_adds_189 rfl ⟨_, rfl, (by rw [hw0, rVL_0]; unfold aAdds pk; rw [cl_p, ez]; unfold loF; rw [if_pos q3]; exact (p01L (p01 f2)).symm), _, (by rw [hw0, rS_0]; exact O28), hf⟩
      · skip
        have hi := up_ge_F (N := 256) c102 rfl (by omega) (by omega)
        obtain ⟨n0, rfl⟩ : ∃ q, nq = q + 1 := ⟨nq - 1, by omega⟩
        refine A_iload 107 dX10_adds_105 rfl rfl ?_
        refine A_iload 109 dX10_adds_107 rfl rfl ?_
        refine A_iconst 110 (-1) dX10_adds_109 rfl (by decide) ?_
        refine A_ixor 111 dX10_adds_110 rfl ?_
        refine A_iand 112 dX10_adds_111 rfl ?_
        refine A_if_ne 174 115 dX10_adds_112 (by decide) rfl (fun c112 => ?_) (fun c112 => ?_)
        · skip
          try simp only [bI_0, bI_n0, Classical.not_not, Bool.not_eq_false, Bool.true_and, Bool.and_true, decide_eq_true_eq, decide_eq_false_iff_not, dayC_1, dayC_21, dayC_221, dayC_222, inI_1, inI_2, inI_3, inI_5, inI_11, inI_16] at c112
          first | refine A_iincN 177 dX10_adds_174 rfl rfl (by decide) (by first | exact (ast_s (ast_s (ast_s (ast_s (ast_s (ast_s (ast_s (ast_s (ast_1 rfl))))))))) | exact (ast_s (ast_s (ast_s (ast_s (ast_s (ast_s (ast_s (ast_s ast_k))))))))) ?_ | refine A_iinc 177 (1) dX10_adds_174 rfl rfl (by decide) (by decide) (by first | exact (ast_s (ast_s (ast_s (ast_s (ast_s (ast_s (ast_s (ast_s (ast_1 rfl))))))))) | exact (ast_s (ast_s (ast_s (ast_s (ast_s (ast_s (ast_s (ast_s ast_k))))))))) ?_
          refine A_goto 97 dX10_adds_177 (by decide) ?_
          exact A_weak (ih n0 (Nat.lt_succ_self n0) (i + 1) _ g97 _ (by omega) ((foldN_s (aoR x (x.2.1 k_p) (nI k_t)) (0) i).trans ((congrArg ((aoR x (x.2.1 k_p) (nI k_t)) i) ee).trans (by first | with_reducible rfl | (simp only [c61, n61, cl_p, cl_t, c112, if_true, if_false, ite_true, ite_false, and_true, true_and, and_false, false_and, and_self, or_true, true_or, or_false, false_or, or_self, not_true_eq_false, not_false_eq_true, decide_true, decide_false, Bool.and_true, Bool.true_and, Bool.and_false, Bool.false_and, Bool.and_self, Bool.or_true, Bool.true_or, Bool.or_false, Bool.false_or, Bool.not_true, Bool.not_false, cond_true, cond_false, bI_t, bI_f, Bool.false_eq_true, Bool.true_eq_false, dayC_1, dayC_21, dayC_221, dayC_222, aoR]; done) | (simp [*, aoR]; done) | with_reducible_and_instances rfl))) O28 hf) (sub_s (sub_s (sub_s (sub_s (sub_n (sub_s (sub_s (sub_s (sub_n (sub_s (sub_n (sub_n sub_nil))))))))))))
        · skip
          try simp only [bI_0, bI_n0, Classical.not_not, Bool.not_eq_false, Bool.true_and, Bool.and_true, decide_eq_true_eq, decide_eq_false_iff_not, dayC_1, dayC_21, dayC_221, dayC_222, inI_1, inI_2, inI_3, inI_5, inI_11, inI_16] at c112
          refine A_iload 117 dX10_adds_115 rfl rfl ?_
          refine A_iload_n 118 dX10_adds_117 rfl rfl rfl ?_
          refine A_callSI 121 (S_X10_hasBit X l) dX10_adds_118 rfl kX10_hasBit lk_X10_93 rfl (by decide) rfl (Nat.le_of_ble_eq_true rfl) (fun v_13 h_13 qh_13 => ?_)
          obtain ⟨rfl, rfl⟩ := qh_13
          refine A_if_ne 174 124 dX10_adds_121 (by decide) rfl (fun c121 => ?_) (fun c121 => ?_)
          · skip
            try simp only [bI_0, bI_n0, Classical.not_not, Bool.not_eq_false, Bool.true_and, Bool.and_true, decide_eq_true_eq, decide_eq_false_iff_not, dayC_1, dayC_21, dayC_221, dayC_222, inI_1, inI_2, inI_3, inI_5, inI_11, inI_16] at c121
            first | refine A_iincN 177 dX10_adds_174 rfl rfl (by decide) (by first | exact (ast_s (ast_s (ast_s (ast_s (ast_s (ast_s (ast_s (ast_s (ast_1 rfl))))))))) | exact (ast_s (ast_s (ast_s (ast_s (ast_s (ast_s (ast_s (ast_s ast_k))))))))) ?_ | refine A_iinc 177 (1) dX10_adds_174 rfl rfl (by decide) (by decide) (by first | exact (ast_s (ast_s (ast_s (ast_s (ast_s (ast_s (ast_s (ast_s (ast_1 rfl))))))))) | exact (ast_s (ast_s (ast_s (ast_s (ast_s (ast_s (ast_s (ast_s ast_k))))))))) ?_
            refine A_goto 97 dX10_adds_177 (by decide) ?_
            exact A_weak (ih n0 (Nat.lt_succ_self n0) (i + 1) _ g97 _ (by omega) ((foldN_s (aoR x (x.2.1 k_p) (nI k_t)) (0) i).trans ((congrArg ((aoR x (x.2.1 k_p) (nI k_t)) i) ee).trans (by first | with_reducible rfl | (simp only [c61, n61, cl_p, cl_t, c112, c121, if_true, if_false, ite_true, ite_false, and_true, true_and, and_false, false_and, and_self, or_true, true_or, or_false, false_or, or_self, not_true_eq_false, not_false_eq_true, decide_true, decide_false, Bool.and_true, Bool.true_and, Bool.and_false, Bool.false_and, Bool.and_self, Bool.or_true, Bool.true_or, Bool.or_false, Bool.false_or, Bool.not_true, Bool.not_false, cond_true, cond_false, bI_t, bI_f, Bool.false_eq_true, Bool.true_eq_false, dayC_1, dayC_21, dayC_221, dayC_222, aoR]; done) | (simp only [c61, n61, cl_p, cl_t, eq_true c112, c121, if_true, if_false, ite_true, ite_false, and_true, true_and, and_false, false_and, and_self, or_true, true_or, or_false, false_or, or_self, not_true_eq_false, not_false_eq_true, decide_true, decide_false, Bool.and_true, Bool.true_and, Bool.and_false, Bool.false_and, Bool.and_self, Bool.or_true, Bool.true_or, Bool.or_false, Bool.false_or, Bool.not_true, Bool.not_false, cond_true, cond_false, bI_t, bI_f, Bool.false_eq_true, Bool.true_eq_false, dayC_1, dayC_21, dayC_221, dayC_222, aoR]; done) | (simp [*, aoR]; done) | with_reducible_and_instances rfl))) O28 hf) (sub_s (sub_s (sub_s (sub_s (sub_n (sub_s (sub_s (sub_s (sub_n (sub_s (sub_n (sub_n sub_nil))))))))))))
          · skip
            try simp only [bI_0, bI_n0, Classical.not_not, Bool.not_eq_false, Bool.true_and, Bool.and_true, decide_eq_true_eq, decide_eq_false_iff_not, dayC_1, dayC_21, dayC_221, dayC_222, inI_1, inI_2, inI_3, inI_5, inI_11, inI_16] at c121
            refine A_iload 126 dX10_adds_124 rfl rfl ?_
            refine A_callSI 129 (S_X10_onesOf_r X l (by first | assumption | exact R10.nI (by omega) | exact dDone_R (by assumption) _ _ | exact R8.r10 (by assumption) | exact (WOK_pk (by assumption) (by omega)).r10 | exact (WOK_tr (by assumption)).r10 | exact R10_and _ (dDone_R (by assumption) _ _))) dX10_adds_126 rfl kX10_onesOf lk_X10_112 rfl (by decide) rfl (Nat.le_of_ble_eq_true rfl) (fun v_14 h_14 qh_14 => ?_)
            obtain ⟨rfl, rfl⟩ := qh_14
            refine A_callSL 132 (S_X10_ordersOf X l (R10.nI (m := i) (by omega)).lt) dX10_adds_129 rfl kX10_ordersOf lk_X10_273 rfl (by decide) rfl (Nat.le_of_ble_eq_true rfl) (fun v_15 h_15 qh_15 => ?_)
            obtain ⟨rfl, rfl⟩ := qh_15
            refine A_iload 134 dX10_adds_132 rfl rfl ?_
            refine A_iconst 135 (1) dX10_adds_134 rfl (by decide) ?_
            refine A_isub 136 dX10_adds_135 rfl ?_
            refine A_iload 138 dX10_adds_136 rfl rfl ?_
            refine A_callSI 141 (S_X10_onesOf_r X l (by first | assumption | exact R10.nI (by omega) | exact dDone_R (by assumption) _ _ | exact R8.r10 (by assumption) | exact (WOK_pk (by assumption) (by omega)).r10 | exact (WOK_tr (by assumption)).r10 | exact R10_and _ (dDone_R (by assumption) _ _))) dX10_adds_138 rfl kX10_onesOf lk_X10_112 rfl (by decide) rfl (Nat.le_of_ble_eq_true rfl) (fun v_16 h_16 qh_16 => ?_)
            obtain ⟨rfl, rfl⟩ := qh_16
            refine A_isub 142 dX10_adds_141 rfl ?_
            refine A_callSL 145 (S_X10_ordersOf X l (R10.sub1 hR.r10 (R10.nI (m := i) (by omega)))) dX10_adds_142 rfl kX10_ordersOf lk_X10_273 rfl (by decide) rfl (Nat.le_of_ble_eq_true rfl) (fun v_17 h_17 qh_17 => ?_)
            obtain ⟨rfl, rfl⟩ := qh_17
            refine A_lmul 146 dX10_adds_145 rfl ?_
            refine A_lstore 148 dX10_adds_146 rfl (by decide) (by first | exact (astL_s (astL_s (astL_s (astL_s (astL_s (astL_s (astL_s (astL_s (astL_s (astL_1 rfl)))))))))) | exact (astL_s (astL_s (astL_s (astL_s (astL_s (astL_s (astL_s (astL_s (astL_s astL_k)))))))))) ?_
            refine A_lload 150 dX10_adds_148 rfl rfl ?_
            refine A_lload 152 dX10_adds_150 rfl rfl ?_
            refine A_aload_n 153 dX10_adds_152 rfl rfl rfl ?_
            refine A_iload 155 dX10_adds_153 rfl rfl ?_
            refine A_iconst 156 (1) dX10_adds_155 rfl (by decide) ?_
            refine A_iload_n 157 dX10_adds_156 rfl rfl rfl ?_
            refine A_ishl 158 dX10_adds_157 rfl ?_
            rw [sh_one, ← tbI_nI hk_t]
            refine A_ior 159 dX10_adds_158 rfl ?_
            refine A_callVI 162 (S_X10_manyBy_n X l (by first | assumption | decide | omega | exact Ne.symm (by assumption)) (by first | assumption | decide | omega | exact Ne.symm (by assumption))) dX10_adds_159 rfl kX10_manyBy lk_X10_233 rfl O28 (by decide) rfl (Nat.le_of_ble_eq_true rfl) (fun v_18 h_18 qh_18 => ?_)
            obtain ⟨rfl, n0h_18, eh_18⟩ := qh_18
            replace O28 := n0h_18
            replace hf : ∀ i, i ≠ 28 → h_18 i = h i := fun i g0 => (eh_18 i g0).trans (hf i g0)
            refine A_aload_n 163 dX10_adds_162 rfl rfl rfl ?_
            refine A_iload 165 dX10_adds_163 rfl rfl ?_
            refine A_callVI 168 (S_X10_manyBy_n X l (by first | assumption | decide | omega | exact Ne.symm (by assumption)) (by first | assumption | decide | omega | exact Ne.symm (by assumption))) dX10_adds_165 rfl kX10_manyBy lk_X10_233 rfl O28 (by decide) rfl (Nat.le_of_ble_eq_true rfl) (fun v_19 h_19 qh_19 => ?_)
            obtain ⟨rfl, n0h_19, eh_19⟩ := qh_19
            replace O28 := n0h_19
            replace hf : ∀ i, i ≠ 28 → h_19 i = h i := fun i g0 => (eh_19 i g0).trans (hf i g0)
            refine A_isub 169 dX10_adds_168 rfl ?_
            refine A_i2l 170 dX10_adds_169 rfl ?_
            refine A_lmul 171 dX10_adds_170 rfl ?_
            refine A_ladd 172 dX10_adds_171 rfl ?_
            refine A_lstore 174 dX10_adds_172 rfl (by decide) (by first | exact (astL_s (astL_s (astL_s (astL_s (astL_s (astL_s (astL_1 rfl))))))) | exact (astL_s (astL_s (astL_s (astL_s (astL_s (astL_s astL_k))))))) ?_
            first | refine A_iincN 177 dX10_adds_174 rfl rfl (by decide) (by first | exact (ast_s (ast_s (ast_s (ast_s (ast_s (ast_s (ast_s (ast_s (ast_1 rfl))))))))) | exact (ast_s (ast_s (ast_s (ast_s (ast_s (ast_s (ast_s (ast_s ast_k))))))))) ?_ | refine A_iinc 177 (1) dX10_adds_174 rfl rfl (by decide) (by decide) (by first | exact (ast_s (ast_s (ast_s (ast_s (ast_s (ast_s (ast_s (ast_s (ast_1 rfl))))))))) | exact (ast_s (ast_s (ast_s (ast_s (ast_s (ast_s (ast_s (ast_s ast_k))))))))) ?_
            refine A_goto 97 dX10_adds_177 (by decide) ?_
            exact A_weak (ih n0 (Nat.lt_succ_self n0) (i + 1) _ h_19 _ (by omega) ((foldN_s (aoR x (x.2.1 k_p) (nI k_t)) (0) i).trans ((congrArg ((aoR x (x.2.1 k_p) (nI k_t)) i) ee).trans (by first | with_reducible rfl | (simp only [c61, n61, cl_p, cl_t, c112, c121, if_true, if_false, ite_true, ite_false, and_true, true_and, and_false, false_and, and_self, or_true, true_or, or_false, false_or, or_self, not_true_eq_false, not_false_eq_true, decide_true, decide_false, Bool.and_true, Bool.true_and, Bool.and_false, Bool.false_and, Bool.and_self, Bool.or_true, Bool.true_or, Bool.or_false, Bool.false_or, Bool.not_true, Bool.not_false, cond_true, cond_false, bI_t, bI_f, Bool.false_eq_true, Bool.true_eq_false, dayC_1, dayC_21, dayC_221, dayC_222, aoR]; done) | (simp only [c61, n61, cl_p, cl_t, eq_true c112, c121, if_true, if_false, ite_true, ite_false, and_true, true_and, and_false, false_and, and_self, or_true, true_or, or_false, false_or, or_self, not_true_eq_false, not_false_eq_true, decide_true, decide_false, Bool.and_true, Bool.true_and, Bool.and_false, Bool.false_and, Bool.and_self, Bool.or_true, Bool.true_or, Bool.or_false, Bool.false_or, Bool.not_true, Bool.not_false, cond_true, cond_false, bI_t, bI_f, Bool.false_eq_true, Bool.true_eq_false, dayC_1, dayC_21, dayC_221, dayC_222, aoR]; done) | (simp [*, aoR]; done) | with_reducible_and_instances rfl))) O28 hf) (sub_s (sub_s (sub_s (sub_s (sub_n (sub_s (sub_s (sub_s (sub_n (sub_s (sub_n (sub_n sub_nil))))))))))))
    exact A_weak (L97 (256) (0) (_) h_1 (_) (by omega) (rfl) O28 hf) (sub_s (sub_s (sub_s (sub_s (sub_n (sub_s (sub_s (sub_s (sub_n (sub_s (sub_n (sub_n sub_nil))))))))))))
  · skip
    try simp only [bI_0, bI_n0, Classical.not_not, Bool.not_eq_false, Bool.true_and, Bool.and_true, decide_eq_true_eq, decide_eq_false_iff_not, dayC_1, dayC_21, dayC_221, dayC_222, inI_1, inI_2, inI_3, inI_5, inI_11, inI_16] at c61
    have n61 := c61
    replace c61 := Int32.not_le.mp c61
    have hcd : CD (wAdds x p t v) := cz_neg wAdds_cz c61
    refine A_ldc2_w 67 _ dX10_adds_64 rfl cn_X10_252 ?_
    refine A_aload_n 68 dX10_adds_67 rfl rfl rfl ?_
    refine A_iload 70 dX10_adds_68 rfl rfl ?_
    refine A_callVI 73 (S_X10_refuse_c X l (by first | assumption | decide | omega | exact Ne.symm (by assumption)) (by first | assumption | (unfold CD; decide))) dX10_adds_70 rfl kX10_refuse lk_X10_121 rfl O28 (by decide) rfl (Nat.le_of_ble_eq_true rfl) (fun v_20 h_20 qh_20 => ?_)
    obtain ⟨rfl, n0h_20, eh_20⟩ := qh_20
    replace O28 := n0h_20
    replace hf : ∀ i, i ≠ 28 → h_20 i = h i := fun i g0 => (eh_20 i g0).trans (hf i g0)
    refine A_i2l 74 dX10_adds_73 rfl ?_
    refine A_lsub 75 dX10_adds_74 rfl ?_
    refine A_lret dX10_adds_75 rfl ⟨_, rfl, (by exact rVL_n hcd.ne), _, O28, hf⟩
set_option maxHeartbeats 4000000 in
set_option maxRecDepth 100000 in
theorem S_X10_chance (X : En) (l : Launch) {h : Hp} {x : PW} {c : RC} {z : RZ} (O28 : h 28 = some (rB x (-1) c z)) (hW : WOK x)  {p l0 t v : Int32} : Ct X l mX10_chance [aR 28 0, aI p, aI l0, aI t, aI v] h (QL (fun vr h2 => (rVL (wCh x p l0 t v) (aCh x p l0 t v)) = vr ∧ ∃ (z1 : RZ), h2 (28) = some (rB x (-1) (rS (wCh x p l0 t v) c.1, c.2) z1) ∧ ∀ i, i ≠ 28 → h2 i = h i)) := by
  have hx := hW.1
  have hp := hW.2.1
  have h10 := hx.1
  have hf : ∀ i, i ≠ 28 → h i = h i := fun _ _ => rfl
  refine Ct.intro [some (aR 28 0), some (aI p), some (aI l0), some (aI t), some (aI v), none, none, none, none, none, none, none, none, none] (by decide +kernel) rfl (Nat.le_of_ble_eq_true rfl) ?_
  refine A_aload_n 1 dX10_chance_0 rfl rfl rfl ?_
  refine A_iconst 2 (0) dX10_chance_1 rfl (by decide) ?_
  refine P_X10_9 5 dX10_chance_2 rfl fw_X10_78 O28 (fun h_1 nh_1 eh_1 => ?_)
  replace O28 := nh_1
  replace hf : ∀ i, i ≠ 28 → h_1 i = h i := fun i g0 => (eh_1 i g0).trans (hf i g0)
  try dsimp only at O28
  refine A_joinI 38 (fun vj => vj = wCh x p l0 t v) (fun j38 => ?_) (fun v38 e38 => ?_)
  · skip
    refine A_aload_n 6 dX10_chance_5 rfl rfl rfl ?_
    refine A_iload_n 7 dX10_chance_6 rfl rfl rfl ?_
    refine A_callVI 10 (S_X10_isOne X l (by first | assumption | decide | omega | exact Ne.symm (by assumption)) (by first | assumption | decide | omega | exact Ne.symm (by assumption))) dX10_chance_7 rfl kX10_isOne lk_X10_160 rfl O28 (by decide) rfl (Nat.le_of_ble_eq_true rfl) (fun v_2 h_2 qh_2 => ?_)
    obtain ⟨rfl, rfl⟩ := qh_2
    refine A_if_eq 31 13 dX10_chance_10 (by decide) rfl (fun c10 => ?_) (fun c10 => ?_)
    · skip
      try simp only [bI_0, bI_n0, Classical.not_not, Bool.not_eq_false, Bool.true_and, Bool.and_true, decide_eq_true_eq, decide_eq_false_iff_not, dayC_1, dayC_21, dayC_221, dayC_222, inI_1, inI_2, inI_3, inI_5, inI_11, inI_16] at c10
      refine A_iconst 32 (-1) dX10_chance_31 rfl (by decide) ?_
      refine A_iload 34 dX10_chance_32 rfl rfl ?_
      refine A_iconst 35 (1) dX10_chance_34 rfl (by decide) ?_
      refine A_callSI 38 (S_X10_wrongBit X l) dX10_chance_35 rfl kX10_wrongBit lk_X10_225 rfl (by decide) rfl (Nat.le_of_ble_eq_true rfl) (fun v_3 h_3 qh_3 => ?_)
      obtain ⟨rfl, rfl⟩ := qh_3
      exact j38 _ (by first | (simp only [c10, if_true, if_false, ite_true, ite_false, and_true, true_and, and_false, false_and, and_self, or_true, true_or, or_false, false_or, or_self, not_true_eq_false, not_false_eq_true, decide_true, decide_false, Bool.and_true, Bool.true_and, Bool.and_false, Bool.false_and, Bool.and_self, Bool.or_true, Bool.true_or, Bool.or_false, Bool.false_or, Bool.not_true, Bool.not_false, cond_true, cond_false, bI_t, bI_f, Bool.false_eq_true, Bool.true_eq_false, dayC_1, dayC_21, dayC_221, dayC_222, wCh, w01, wP, wPL, wP01, wL01, wRow, w01R, wAB, wNum, isP, isL, wrB_N, wrB_0, wrB_1]; done) | (simp only [c10, if_true, if_false, ite_true, ite_false, and_true, true_and, and_false, false_and, and_self, or_true, true_or, or_false, false_or, or_self, not_true_eq_false, not_false_eq_true, decide_true, decide_false, Bool.and_true, Bool.true_and, Bool.and_false, Bool.false_and, Bool.and_self, Bool.or_true, Bool.true_or, Bool.or_false, Bool.false_or, Bool.not_true, Bool.not_false, cond_true, cond_false, bI_t, bI_f, Bool.false_eq_true, Bool.true_eq_false, dayC_1, dayC_21, dayC_221, dayC_222, wrN, wCh, w01, wP, wPL, wP01, wL01, wRow, w01R, wAB, wNum, isP, isL, wrB_N, wrB_0, wrB_1]; done) | (simp only [c10, if_true, if_false, ite_true, ite_false, and_true, true_and, and_false, false_and, and_self, or_true, true_or, or_false, false_or, or_self, not_true_eq_false, not_false_eq_true, decide_true, decide_false, Bool.and_true, Bool.true_and, Bool.and_false, Bool.false_and, Bool.and_self, Bool.or_true, Bool.true_or, Bool.or_false, Bool.false_or, Bool.not_true, Bool.not_false, cond_true, cond_false, bI_t, bI_f, Bool.false_eq_true, Bool.true_eq_false, dayC_1, dayC_21, dayC_221, dayC_222, wrN, wCh, w01, wP, wPL, wP01, wL01, wRow, w01R, wAB, wNum, isP, isL, wrB_N, wrB_0, wrB_1]; rfl))
    · skip
      try simp only [bI_0, bI_n0, Classical.not_not, Bool.not_eq_false, Bool.true_and, Bool.and_true, decide_eq_true_eq, decide_eq_false_iff_not, dayC_1, dayC_21, dayC_221, dayC_222, inI_1, inI_2, inI_3, inI_5, inI_11, inI_16] at c10
      refine A_aload_n 14 dX10_chance_13 rfl rfl rfl ?_
      refine A_iload_n 15 dX10_chance_14 rfl rfl rfl ?_
      refine A_callVI 18 (S_X10_isLaw X l (by first | assumption | decide | omega | exact Ne.symm (by assumption)) (by first | assumption | decide | omega | exact Ne.symm (by assumption))) dX10_chance_15 rfl kX10_isLaw lk_X10_206 rfl O28 (by decide) rfl (Nat.le_of_ble_eq_true rfl) (fun v_4 h_4 qh_4 => ?_)
      obtain ⟨rfl, rfl⟩ := qh_4
      refine A_if_eq 31 21 dX10_chance_18 (by decide) rfl (fun c18 => ?_) (fun c18 => ?_)
      · skip
        try simp only [bI_0, bI_n0, Classical.not_not, Bool.not_eq_false, Bool.true_and, Bool.and_true, decide_eq_true_eq, decide_eq_false_iff_not, dayC_1, dayC_21, dayC_221, dayC_222, inI_1, inI_2, inI_3, inI_5, inI_11, inI_16] at c18
        refine A_iconst 32 (-1) dX10_chance_31 rfl (by decide) ?_
        refine A_iload 34 dX10_chance_32 rfl rfl ?_
        refine A_iconst 35 (1) dX10_chance_34 rfl (by decide) ?_
        refine A_callSI 38 (S_X10_wrongBit X l) dX10_chance_35 rfl kX10_wrongBit lk_X10_225 rfl (by decide) rfl (Nat.le_of_ble_eq_true rfl) (fun v_5 h_5 qh_5 => ?_)
        obtain ⟨rfl, rfl⟩ := qh_5
        exact j38 _ (by first | (simp only [c10, c18, if_true, if_false, ite_true, ite_false, and_true, true_and, and_false, false_and, and_self, or_true, true_or, or_false, false_or, or_self, not_true_eq_false, not_false_eq_true, decide_true, decide_false, Bool.and_true, Bool.true_and, Bool.and_false, Bool.false_and, Bool.and_self, Bool.or_true, Bool.true_or, Bool.or_false, Bool.false_or, Bool.not_true, Bool.not_false, cond_true, cond_false, bI_t, bI_f, Bool.false_eq_true, Bool.true_eq_false, dayC_1, dayC_21, dayC_221, dayC_222, wCh, w01, wP, wPL, wP01, wL01, wRow, w01R, wAB, wNum, isP, isL, wrB_N, wrB_0, wrB_1]; done) | (simp only [c10, c18, if_true, if_false, ite_true, ite_false, and_true, true_and, and_false, false_and, and_self, or_true, true_or, or_false, false_or, or_self, not_true_eq_false, not_false_eq_true, decide_true, decide_false, Bool.and_true, Bool.true_and, Bool.and_false, Bool.false_and, Bool.and_self, Bool.or_true, Bool.true_or, Bool.or_false, Bool.false_or, Bool.not_true, Bool.not_false, cond_true, cond_false, bI_t, bI_f, Bool.false_eq_true, Bool.true_eq_false, dayC_1, dayC_21, dayC_221, dayC_222, wrN, wCh, w01, wP, wPL, wP01, wL01, wRow, w01R, wAB, wNum, isP, isL, wrB_N, wrB_0, wrB_1]; done) | (simp only [c10, c18, if_true, if_false, ite_true, ite_false, and_true, true_and, and_false, false_and, and_self, or_true, true_or, or_false, false_or, or_self, not_true_eq_false, not_false_eq_true, decide_true, decide_false, Bool.and_true, Bool.true_and, Bool.and_false, Bool.false_and, Bool.and_self, Bool.or_true, Bool.true_or, Bool.or_false, Bool.false_or, Bool.not_true, Bool.not_false, cond_true, cond_false, bI_t, bI_f, Bool.false_eq_true, Bool.true_eq_false, dayC_1, dayC_21, dayC_221, dayC_222, wrN, wCh, w01, wP, wPL, wP01, wL01, wRow, w01R, wAB, wNum, isP, isL, wrB_N, wrB_0, wrB_1]; rfl))
      · skip
        try simp only [bI_0, bI_n0, Classical.not_not, Bool.not_eq_false, Bool.true_and, Bool.and_true, decide_eq_true_eq, decide_eq_false_iff_not, dayC_1, dayC_21, dayC_221, dayC_222, inI_1, inI_2, inI_3, inI_5, inI_11, inI_16] at c18
        refine A_iload_n 22 dX10_chance_21 rfl rfl rfl ?_
        refine A_iconst 23 (2) dX10_chance_22 rfl (by decide) ?_
        refine A_bipush 25 (20) dX10_chance_23 rfl (by decide) ?_
        refine A_callSI 28 (S_X10_wrongNumber X l) dX10_chance_25 rfl kX10_wrongNumber lk_X10_213 rfl (by decide) rfl (Nat.le_of_ble_eq_true rfl) (fun v_6 h_6 qh_6 => ?_)
        obtain ⟨rfl, rfl⟩ := qh_6
        refine A_goto 32 dX10_chance_28 (by decide) ?_
        refine A_iload 34 dX10_chance_32 rfl rfl ?_
        refine A_iconst 35 (1) dX10_chance_34 rfl (by decide) ?_
        refine A_callSI 38 (S_X10_wrongBit X l) dX10_chance_35 rfl kX10_wrongBit lk_X10_225 rfl (by decide) rfl (Nat.le_of_ble_eq_true rfl) (fun v_7 h_7 qh_7 => ?_)
        obtain ⟨rfl, rfl⟩ := qh_7
        exact j38 _ (by first | (simp only [c10, c18, if_true, if_false, ite_true, ite_false, and_true, true_and, and_false, false_and, and_self, or_true, true_or, or_false, false_or, or_self, not_true_eq_false, not_false_eq_true, decide_true, decide_false, Bool.and_true, Bool.true_and, Bool.and_false, Bool.false_and, Bool.and_self, Bool.or_true, Bool.true_or, Bool.or_false, Bool.false_or, Bool.not_true, Bool.not_false, cond_true, cond_false, bI_t, bI_f, Bool.false_eq_true, Bool.true_eq_false, dayC_1, dayC_21, dayC_221, dayC_222, wCh, w01, wP, wPL, wP01, wL01, wRow, w01R, wAB, wNum, isP, isL, wrB_N, wrB_0, wrB_1]; done) | (simp only [c10, c18, if_true, if_false, ite_true, ite_false, and_true, true_and, and_false, false_and, and_self, or_true, true_or, or_false, false_or, or_self, not_true_eq_false, not_false_eq_true, decide_true, decide_false, Bool.and_true, Bool.true_and, Bool.and_false, Bool.false_and, Bool.and_self, Bool.or_true, Bool.true_or, Bool.or_false, Bool.false_or, Bool.not_true, Bool.not_false, cond_true, cond_false, bI_t, bI_f, Bool.false_eq_true, Bool.true_eq_false, dayC_1, dayC_21, dayC_221, dayC_222, wrN, wCh, w01, wP, wPL, wP01, wL01, wRow, w01R, wAB, wNum, isP, isL, wrB_N, wrB_0, wrB_1]; done) | (simp only [c10, c18, if_true, if_false, ite_true, ite_false, and_true, true_and, and_false, false_and, and_self, or_true, true_or, or_false, false_or, or_self, not_true_eq_false, not_false_eq_true, decide_true, decide_false, Bool.and_true, Bool.true_and, Bool.and_false, Bool.false_and, Bool.and_self, Bool.or_true, Bool.true_or, Bool.or_false, Bool.false_or, Bool.not_true, Bool.not_false, cond_true, cond_false, bI_t, bI_f, Bool.false_eq_true, Bool.true_eq_false, dayC_1, dayC_21, dayC_221, dayC_222, wrN, wCh, w01, wP, wPL, wP01, wL01, wRow, w01R, wAB, wNum, isP, isL, wrB_N, wrB_0, wrB_1]; rfl))
  subst e38
  refine A_istore 40 dX10_chance_38 rfl (by decide) (by first | exact (ast_s (ast_s (ast_s (ast_s (ast_1 rfl))))) | exact (ast_s (ast_s (ast_s (ast_s ast_k))))) ?_
  refine A_iload 42 dX10_chance_40 rfl rfl ?_
  refine A_if_ge 57 45 dX10_chance_42 (by decide) rfl (fun c42 => ?_) (fun c42 => ?_)
  · skip
    try simp only [bI_0, bI_n0, Classical.not_not, Bool.not_eq_false, Bool.true_and, Bool.and_true, decide_eq_true_eq, decide_eq_false_iff_not, dayC_1, dayC_21, dayC_221, dayC_222, inI_1, inI_2, inI_3, inI_5, inI_11, inI_16] at c42
    have n42 := c42
    replace c42 := Int32.not_lt.mpr c42
    have hw0 : wCh x p l0 t v = 0 := cz_pos wCh_cz c42
    obtain ⟨⟨f1, f1l⟩, f2, f3, f4⟩ := wCh_0 hw0
    obtain ⟨k_p, rfl, hk_p⟩ := inN_ex f1 (by omega)
    have cl_p : (nI k_p).toNatClampNeg = k_p := nI_clamp (by omega)
    have hk6_p : k_p < 6 := by omega
    have hR := WOK_pk hW (p := k_p) (by omega)
    have hpo := R8_pop hR
    refine A_lconst 58 (0) dX10_chance_57 rfl (by decide) ?_
    refine A_lstore 60 dX10_chance_58 rfl (by decide) (by first | exact (astL_s (astL_s (astL_s (astL_s (astL_s (astL_1 rfl)))))) | exact (astL_s (astL_s (astL_s (astL_s (astL_s astL_k)))))) ?_
    refine A_lconst 61 (1) dX10_chance_60 rfl (by decide) ?_
    refine A_lstore 63 dX10_chance_61 rfl (by decide) (by first | exact (astL_s (astL_s (astL_s (astL_s (astL_s (astL_s (astL_s (astL_1 rfl)))))))) | exact (astL_s (astL_s (astL_s (astL_s (astL_s (astL_s (astL_s astL_k)))))))) ?_
    refine A_iconst 64 (0) dX10_chance_63 rfl (by decide) ?_
    refine A_istore 66 dX10_chance_64 rfl (by decide) (by first | exact (ast_s (ast_s (ast_s (ast_s (ast_s (ast_s (ast_s (ast_s (ast_s (ast_1 rfl)))))))))) | exact (ast_s (ast_s (ast_s (ast_s (ast_s (ast_s (ast_s (ast_s (ast_s ast_k)))))))))) ?_
    have L66 : ∀ (nq i : Nat) (u : Int64) , (nq + i = opN (x.2.1 k_p)) → (foldN (fun _ w => w * t.toInt64) (1) i = (u)) → Av X l mX10_chance 66 [some (aR 28 0), some (aI (nI (k_p))), some (aI (l0)), some (aI (t)), some (aI (v)), none, some (aL (0)), none, some (aL (u)), none, some (aI (nI (i))), none, none, none] [] h_1 (QL (fun vr h2 => (rVL (wCh x (nI k_p) l0 t v) (aCh x (nI k_p) l0 t v)) = vr ∧ ∃ (z1 : RZ), h2 (28) = some (rB x (-1) (rS (wCh x (nI k_p) l0 t v) c.1, c.2) z1) ∧ ∀ i, i ≠ 28 → h2 i = h i)) := by
      intro nq
      induction nq using Nat.strongRecOn with
      | _ nq ih =>
      intro i u en ee
      refine A_iload 68 dX10_chance_66 rfl rfl ?_
      refine A_aload_n 69 dX10_chance_68 rfl rfl rfl ?_
      refine A_getfield 72 dX10_chance_69 rfl f_X10_22 O28 rfl ?_
      refine A_iload_n 73 dX10_chance_72 rfl rfl rfl ?_
      refine A_iaload 74 dX10_chance_73 rfl O28 rfl (by first | assumption | exact ix_nI (by omega) (by decide) | exact ix_lit _ rfl (by omega) (by decide) | exact ix_lit _ rfl (by decide) (by decide)) ?_
      try dsimp only
      refine A_callSI 77 (S_X10_onesOf_r X l (by first | assumption | exact R10.nI (by omega) | exact dDone_R (by assumption) _ _ | exact R8.r10 (by assumption) | exact (WOK_pk (by assumption) (by omega)).r10 | exact (WOK_tr (by assumption)).r10 | exact R10_and _ (dDone_R (by assumption) _ _))) dX10_chance_74 rfl kX10_onesOf lk_X10_112 rfl (by decide) rfl (Nat.le_of_ble_eq_true rfl) (fun v_8 h_8 qh_8 => ?_)
      obtain ⟨rfl, rfl⟩ := qh_8
      rw [(R10_pop hR.r10).1]
      refine A_icmp_ge 93 80 dX10_chance_77 (by decide) rfl (fun c77 => ?_) (fun c77 => ?_)
      · skip
        obtain rfl := (up_ge_T (N := opN (x.2.1 k_p)) c77 rfl (by omega) (by omega)).symm
        have et : powF t.toInt64 (opN (x.2.1 k_p)) = u := ee
        subst et
        refine A_iconst 94 (0) dX10_chance_93 rfl (by decide) ?_
        refine A_istore 96 dX10_chance_94 rfl (by decide) (by first | exact (ast_s (ast_s (ast_s (ast_s (ast_s (ast_s (ast_s (ast_s (ast_s (ast_1 rfl)))))))))) | exact (ast_s (ast_s (ast_s (ast_s (ast_s (ast_s (ast_s (ast_s (ast_s ast_k)))))))))) ?_
        have L96 : ∀ (nqb i : Nat) (u : Int64) (g96 : Hp) (z2 : RZ), (nqb + i = 256) → (foldN (chF x (x.2.1 k_p) l0 t) (0) i = (u)) → (g96 28 = some (rB x (-1) c z2)) → (∀ i, i ≠ 28 → g96 i = h i) → Av X l mX10_chance 96 [some (aR 28 0), some (aI (nI (k_p))), some (aI (l0)), some (aI (t)), some (aI (v)), none, some (aL (u)), none, some (aL (powF t.toInt64 (opN (x.2.1 k_p)))), none, some (aI (nI (i))), none, none, none] [] g96 (QL (fun vr h2 => (rVL (wCh x (nI k_p) l0 t v) (aCh x (nI k_p) l0 t v)) = vr ∧ ∃ (z1 : RZ), h2 (28) = some (rB x (-1) (rS (wCh x (nI k_p) l0 t v) c.1, c.2) z1) ∧ ∀ i, i ≠ 28 → h2 i = h i)) := by
          intro nqb
          induction nqb using Nat.strongRecOn with
          | _ nqb ihb =>
          intro i u g96 z2 enb eeb O28 hf
          refine A_iload 98 dX10_chance_96 rfl rfl ?_
          refine A_sipush 101 (256) dX10_chance_98 rfl (by decide) ?_
          refine A_icmp_ge 208 104 dX10_chance_101 (by decide) rfl (fun c101 => ?_) (fun c101 => ?_)
          · skip
            obtain rfl := (up_ge_T (N := 256) c101 rfl (by omega) (by omega)).symm
            have ez := (ch_eq x hR l0 t).symm.trans eeb
            subst ez
            refine A_lload 210 dX10_chance_208 rfl rfl ?_
            refine A_lload 212 dX10_chance_210 rfl rfl ?_
            refine A_iload 214 dX10_chance_212 rfl rfl ?_
            refine A_callSL 217 (S_X10_partOf X l (p01 f4) (lc_nn x _ l0 f2 f3) (pw_eu f2 f3 hpo _)) dX10_chance_214 rfl kX10_partOf lk_X10_257 rfl (by decide) rfl (Nat.le_of_ble_eq_true rfl) (fun v_9 h_9 qh_9 => ?_)
            obtain ⟨rfl, rfl⟩ := qh_9
            refine A_lret dX10_chance_217 rfl ⟨_, rfl, (by rw [hw0, rVL_0]; unfold aCh pk; rw [cl_p]), _, (by rw [hw0, rS_0]; exact O28), hf⟩
          · skip
            have hib := up_ge_F (N := 256) c101 rfl (by omega) (by omega)
            obtain ⟨n0b, rfl⟩ : ∃ q, nqb = q + 1 := ⟨nqb - 1, by omega⟩
            refine A_iload 106 dX10_chance_104 rfl rfl ?_
            refine A_aload_n 107 dX10_chance_106 rfl rfl rfl ?_
            refine A_getfield 110 dX10_chance_107 rfl f_X10_22 O28 rfl ?_
            refine A_iload_n 111 dX10_chance_110 rfl rfl rfl ?_
            refine A_iaload 112 dX10_chance_111 rfl O28 rfl (by first | assumption | exact ix_nI (by omega) (by decide) | exact ix_lit _ rfl (by omega) (by decide) | exact ix_lit _ rfl (by decide) (by decide)) ?_
            try dsimp only
            refine A_iconst 113 (-1) dX10_chance_112 rfl (by decide) ?_
            refine A_ixor 114 dX10_chance_113 rfl ?_
            refine A_iand 115 dX10_chance_114 rfl ?_
            refine A_if_ne 202 118 dX10_chance_115 (by decide) rfl (fun c115 => ?_) (fun c115 => ?_)
            · skip
              try simp only [bI_0, bI_n0, Classical.not_not, Bool.not_eq_false, Bool.true_and, Bool.and_true, decide_eq_true_eq, decide_eq_false_iff_not, dayC_1, dayC_21, dayC_221, dayC_222, inI_1, inI_2, inI_3, inI_5, inI_11, inI_16] at c115
              first | refine A_iincN 205 dX10_chance_202 rfl rfl (by decide) (by first | exact (ast_s (ast_s (ast_s (ast_s (ast_s (ast_s (ast_s (ast_s (ast_s (ast_1 rfl)))))))))) | exact (ast_s (ast_s (ast_s (ast_s (ast_s (ast_s (ast_s (ast_s (ast_s ast_k)))))))))) ?_ | refine A_iinc 205 (1) dX10_chance_202 rfl rfl (by decide) (by decide) (by first | exact (ast_s (ast_s (ast_s (ast_s (ast_s (ast_s (ast_s (ast_s (ast_s (ast_1 rfl)))))))))) | exact (ast_s (ast_s (ast_s (ast_s (ast_s (ast_s (ast_s (ast_s (ast_s ast_k)))))))))) ?_
              refine A_goto 96 dX10_chance_205 (by decide) ?_
              exact A_weak (ihb n0b (Nat.lt_succ_self n0b) (i + 1) _ g96 _ (by omega) ((foldN_s (chF x (x.2.1 k_p) l0 t) (0) i).trans ((congrArg ((chF x (x.2.1 k_p) l0 t) i) eeb).trans (by first | (unfold chF; rw [if_neg c115]; done) | (unfold chF; rw [if_pos c115, if_pos c190, eec]; done) | (unfold chF; rw [if_pos c115, if_neg (by rw [c190]; decide)]; done)))) O28 hf) (sub_s (sub_s (sub_s (sub_s (sub_s (sub_n (sub_s (sub_n (sub_s (sub_n (sub_s (sub_n (sub_n (sub_n sub_nil))))))))))))))
            · skip
              try simp only [bI_0, bI_n0, Classical.not_not, Bool.not_eq_false, Bool.true_and, Bool.and_true, decide_eq_true_eq, decide_eq_false_iff_not, dayC_1, dayC_21, dayC_221, dayC_222, inI_1, inI_2, inI_3, inI_5, inI_11, inI_16] at c115
              refine A_lconst 119 (1) dX10_chance_118 rfl (by decide) ?_
              refine A_lstore 121 dX10_chance_119 rfl (by decide) (by first | exact (astL_s (astL_s (astL_s (astL_s (astL_s (astL_s (astL_s (astL_s (astL_s (astL_s (astL_1 rfl))))))))))) | exact (astL_s (astL_s (astL_s (astL_s (astL_s (astL_s (astL_s (astL_s (astL_s (astL_s astL_k))))))))))) ?_
              refine A_iconst 122 (0) dX10_chance_121 rfl (by decide) ?_
              refine A_istore 124 dX10_chance_122 rfl (by decide) (by first | exact (ast_s (ast_s (ast_s (ast_s (ast_s (ast_s (ast_s (ast_s (ast_s (ast_s (ast_s (ast_s (ast_1 rfl))))))))))))) | exact (ast_s (ast_s (ast_s (ast_s (ast_s (ast_s (ast_s (ast_s (ast_s (ast_s (ast_s (ast_s ast_k))))))))))))) ?_
              have L124 : ∀ (nqc k : Nat) (o : Int64) , (nqc + k = 8) → (foldN (odF ((x.2.1 k_p) &&& (nI i ^^^ (-1))) t) (1) k = (o)) → Av X l mX10_chance 124 [some (aR 28 0), some (aI (nI (k_p))), some (aI (l0)), some (aI (t)), some (aI (v)), none, some (aL (u)), none, some (aL (powF t.toInt64 (opN (x.2.1 k_p)))), none, some (aI (nI (i))), some (aL (o)), none, some (aI (nI (k)))] [] g96 (QL (fun vr h2 => (rVL (wCh x (nI k_p) l0 t v) (aCh x (nI k_p) l0 t v)) = vr ∧ ∃ (z1 : RZ), h2 (28) = some (rB x (-1) (rS (wCh x (nI k_p) l0 t v) c.1, c.2) z1) ∧ ∀ i, i ≠ 28 → h2 i = h i)) := by
                intro nqc
                induction nqc using Nat.strongRecOn with
                | _ nqc ihc =>
                intro k o enc eec
                refine A_iload 126 dX10_chance_124 rfl rfl ?_
                refine A_bipush 128 (8) dX10_chance_126 rfl (by decide) ?_
                refine A_icmp_ge 169 131 dX10_chance_128 (by decide) rfl (fun c128 => ?_) (fun c128 => ?_)
                · skip
                  obtain rfl := (up_ge_T (N := 8) c128 rfl (by omega) (by omega)).symm
                  refine A_lload 171 dX10_chance_169 rfl rfl ?_
                  refine A_aload_n 172 dX10_chance_171 rfl rfl rfl ?_
                  refine A_aload_n 173 dX10_chance_172 rfl rfl rfl ?_
                  refine A_getfield 176 dX10_chance_173 rfl f_X10_22 O28 rfl ?_
                  refine A_iload_n 177 dX10_chance_176 rfl rfl rfl ?_
                  refine A_iaload 178 dX10_chance_177 rfl O28 rfl (by first | assumption | exact ix_nI (by omega) (by decide) | exact ix_lit _ rfl (by omega) (by decide) | exact ix_lit _ rfl (by decide) (by decide)) ?_
                  try dsimp only
                  refine A_iload 180 dX10_chance_178 rfl rfl ?_
                  refine A_iconst 181 (-1) dX10_chance_180 rfl (by decide) ?_
                  refine A_ixor 182 dX10_chance_181 rfl ?_
                  refine A_iand 183 dX10_chance_182 rfl ?_
                  refine A_callVI 186 (S_X10_goDay_n X l (by first | assumption | decide | omega | exact Ne.symm (by assumption)) (by first | assumption | decide | omega | exact Ne.symm (by assumption))) dX10_chance_183 rfl kX10_goDay lk_X10_108 rfl O28 (by decide) rfl (Nat.le_of_ble_eq_true rfl) (fun v_10 h_10 qh_10 => ?_)
                  obtain ⟨rfl, n0h_10, eh_10⟩ := qh_10
                  replace O28 := n0h_10
                  replace hf : ∀ i, i ≠ 28 → h_10 i = h i := fun i g0 => (eh_10 i g0).trans (hf i g0)
                  refine A_iload_n 187 dX10_chance_186 rfl rfl rfl ?_
                  refine A_callSI 190 (S_X10_hasBit X l) dX10_chance_187 rfl kX10_hasBit lk_X10_93 rfl (by decide) rfl (Nat.le_of_ble_eq_true rfl) (fun v_11 h_11 qh_11 => ?_)
                  obtain ⟨rfl, rfl⟩ := qh_11
                  refine A_if_eq 198 193 dX10_chance_190 (by decide) rfl (fun c190 => ?_) (fun c190 => ?_)
                  · skip
                    try simp only [bI_0, bI_n0, Classical.not_not, Bool.not_eq_false, Bool.true_and, Bool.and_true, decide_eq_true_eq, decide_eq_false_iff_not, dayC_1, dayC_21, dayC_221, dayC_222, inI_1, inI_2, inI_3, inI_5, inI_11, inI_16] at c190
                    refine A_lconst 199 (0) dX10_chance_198 rfl (by decide) ?_
                    refine A_ladd 200 dX10_chance_199 rfl ?_
                    refine A_lstore 202 dX10_chance_200 rfl (by decide) (by first | exact (astL_s (astL_s (astL_s (astL_s (astL_s (astL_1 rfl)))))) | exact (astL_s (astL_s (astL_s (astL_s (astL_s astL_k)))))) ?_
                    first | refine A_iincN 205 dX10_chance_202 rfl rfl (by decide) (by first | exact (ast_s (ast_s (ast_s (ast_s (ast_s (ast_s (ast_s (ast_s (ast_s (ast_1 rfl)))))))))) | exact (ast_s (ast_s (ast_s (ast_s (ast_s (ast_s (ast_s (ast_s (ast_s ast_k)))))))))) ?_ | refine A_iinc 205 (1) dX10_chance_202 rfl rfl (by decide) (by decide) (by first | exact (ast_s (ast_s (ast_s (ast_s (ast_s (ast_s (ast_s (ast_s (ast_s (ast_1 rfl)))))))))) | exact (ast_s (ast_s (ast_s (ast_s (ast_s (ast_s (ast_s (ast_s (ast_s ast_k)))))))))) ?_
                    refine A_goto 96 dX10_chance_205 (by decide) ?_
                    exact A_weak (ihb n0b (Nat.lt_succ_self n0b) (i + 1) _ h_10 _ (by omega) ((foldN_s (chF x (x.2.1 k_p) l0 t) (0) i).trans ((congrArg ((chF x (x.2.1 k_p) l0 t) i) eeb).trans (by first | (unfold chF; rw [if_neg c115]; done) | (unfold chF; rw [if_pos c115, if_pos c190, eec]; done) | (unfold chF; rw [if_pos c115, if_neg (by rw [c190]; decide)]; done)))) O28 hf) (sub_s (sub_s (sub_s (sub_s (sub_s (sub_n (sub_s (sub_n (sub_s (sub_n (sub_s (sub_n (sub_n (sub_n sub_nil))))))))))))))
                  · skip
                    try simp only [bI_0, bI_n0, Classical.not_not, Bool.not_eq_false, Bool.true_and, Bool.and_true, decide_eq_true_eq, decide_eq_false_iff_not, dayC_1, dayC_21, dayC_221, dayC_222, inI_1, inI_2, inI_3, inI_5, inI_11, inI_16] at c190
                    refine A_lload 195 dX10_chance_193 rfl rfl ?_
                    refine A_goto 199 dX10_chance_195 (by decide) ?_
                    refine A_ladd 200 dX10_chance_199 rfl ?_
                    refine A_lstore 202 dX10_chance_200 rfl (by decide) (by first | exact (astL_s (astL_s (astL_s (astL_s (astL_s (astL_1 rfl)))))) | exact (astL_s (astL_s (astL_s (astL_s (astL_s astL_k)))))) ?_
                    first | refine A_iincN 205 dX10_chance_202 rfl rfl (by decide) (by first | exact (ast_s (ast_s (ast_s (ast_s (ast_s (ast_s (ast_s (ast_s (ast_s (ast_1 rfl)))))))))) | exact (ast_s (ast_s (ast_s (ast_s (ast_s (ast_s (ast_s (ast_s (ast_s ast_k)))))))))) ?_ | refine A_iinc 205 (1) dX10_chance_202 rfl rfl (by decide) (by decide) (by first | exact (ast_s (ast_s (ast_s (ast_s (ast_s (ast_s (ast_s (ast_s (ast_s (ast_1 rfl)))))))))) | exact (ast_s (ast_s (ast_s (ast_s (ast_s (ast_s (ast_s (ast_s (ast_s ast_k)))))))))) ?_
                    refine A_goto 96 dX10_chance_205 (by decide) ?_
                    exact A_weak (ihb n0b (Nat.lt_succ_self n0b) (i + 1) _ h_10 _ (by omega) ((foldN_s (chF x (x.2.1 k_p) l0 t) (0) i).trans ((congrArg ((chF x (x.2.1 k_p) l0 t) i) eeb).trans (by first | (unfold chF; rw [if_neg c115]; done) | (unfold chF; rw [if_pos c115, if_pos c190, eec]; done) | (unfold chF; rw [if_pos c115, if_neg (by rw [c190]; decide)]; done)))) O28 hf) (sub_s (sub_s (sub_s (sub_s (sub_s (sub_n (sub_s (sub_n (sub_s (sub_n (sub_s (sub_n (sub_n (sub_n sub_nil))))))))))))))
                · skip
                  have hic := up_ge_F (N := 8) c128 rfl (by omega) (by omega)
                  obtain ⟨n0c, rfl⟩ : ∃ q, nqc = q + 1 := ⟨nqc - 1, by omega⟩
                  refine A_lload 133 dX10_chance_131 rfl rfl ?_
                  refine A_aload_n 134 dX10_chance_133 rfl rfl rfl ?_
                  refine A_getfield 137 dX10_chance_134 rfl f_X10_22 O28 rfl ?_
                  refine A_iload_n 138 dX10_chance_137 rfl rfl rfl ?_
                  refine A_iaload 139 dX10_chance_138 rfl O28 rfl (by first | assumption | exact ix_nI (by omega) (by decide) | exact ix_lit _ rfl (by omega) (by decide) | exact ix_lit _ rfl (by decide) (by decide)) ?_
                  try dsimp only
                  refine A_iload 141 dX10_chance_139 rfl rfl ?_
                  refine A_iconst 142 (-1) dX10_chance_141 rfl (by decide) ?_
                  refine A_ixor 143 dX10_chance_142 rfl ?_
                  refine A_iand 144 dX10_chance_143 rfl ?_
                  refine A_iload 146 dX10_chance_144 rfl rfl ?_
                  refine A_callSI 149 (S_X10_hasBit X l) dX10_chance_146 rfl kX10_hasBit lk_X10_93 rfl (by decide) rfl (Nat.le_of_ble_eq_true rfl) (fun v_12 h_12 qh_12 => ?_)
                  obtain ⟨rfl, rfl⟩ := qh_12
                  refine A_if_eq 159 152 dX10_chance_149 (by decide) rfl (fun c149 => ?_) (fun c149 => ?_)
                  · skip
                    try simp only [bI_0, bI_n0, Classical.not_not, Bool.not_eq_false, Bool.true_and, Bool.and_true, decide_eq_true_eq, decide_eq_false_iff_not, dayC_1, dayC_21, dayC_221, dayC_222, inI_1, inI_2, inI_3, inI_5, inI_11, inI_16] at c149
                    refine A_lconst 160 (1) dX10_chance_159 rfl (by decide) ?_
                    refine A_lmul 161 dX10_chance_160 rfl ?_
                    refine A_lstore 163 dX10_chance_161 rfl (by decide) (by first | exact (astL_s (astL_s (astL_s (astL_s (astL_s (astL_s (astL_s (astL_s (astL_s (astL_s (astL_1 rfl))))))))))) | exact (astL_s (astL_s (astL_s (astL_s (astL_s (astL_s (astL_s (astL_s (astL_s (astL_s astL_k))))))))))) ?_
                    first | refine A_iincN 166 dX10_chance_163 rfl rfl (by decide) (by first | exact (ast_s (ast_s (ast_s (ast_s (ast_s (ast_s (ast_s (ast_s (ast_s (ast_s (ast_s (ast_s (ast_1 rfl))))))))))))) | exact (ast_s (ast_s (ast_s (ast_s (ast_s (ast_s (ast_s (ast_s (ast_s (ast_s (ast_s (ast_s ast_k))))))))))))) ?_ | refine A_iinc 166 (1) dX10_chance_163 rfl rfl (by decide) (by decide) (by first | exact (ast_s (ast_s (ast_s (ast_s (ast_s (ast_s (ast_s (ast_s (ast_s (ast_s (ast_s (ast_s (ast_1 rfl))))))))))))) | exact (ast_s (ast_s (ast_s (ast_s (ast_s (ast_s (ast_s (ast_s (ast_s (ast_s (ast_s (ast_s ast_k))))))))))))) ?_
                    refine A_goto 124 dX10_chance_166 (by decide) ?_
                    exact A_weak (ihc n0c (Nat.lt_succ_self n0c) (k + 1) _  (by omega) ((foldN_s (odF ((x.2.1 k_p) &&& (nI i ^^^ (-1))) t) (1) k).trans ((congrArg ((odF ((x.2.1 k_p) &&& (nI i ^^^ (-1))) t) k) eec).trans (by first | with_reducible rfl | (simp only [c42, n42, cl_p, c115, c149, if_true, if_false, ite_true, ite_false, and_true, true_and, and_false, false_and, and_self, or_true, true_or, or_false, false_or, or_self, not_true_eq_false, not_false_eq_true, decide_true, decide_false, Bool.and_true, Bool.true_and, Bool.and_false, Bool.false_and, Bool.and_self, Bool.or_true, Bool.true_or, Bool.or_false, Bool.false_or, Bool.not_true, Bool.not_false, cond_true, cond_false, bI_t, bI_f, Bool.false_eq_true, Bool.true_eq_false, dayC_1, dayC_21, dayC_221, dayC_222, odF]; done) | (simp only [c42, n42, cl_p, eq_true c115, c149, if_true, if_false, ite_true, ite_false, and_true, true_and, and_false, false_and, and_self, or_true, true_or, or_false, false_or, or_self, not_true_eq_false, not_false_eq_true, decide_true, decide_false, Bool.and_true, Bool.true_and, Bool.and_false, Bool.false_and, Bool.and_self, Bool.or_true, Bool.true_or, Bool.or_false, Bool.false_or, Bool.not_true, Bool.not_false, cond_true, cond_false, bI_t, bI_f, Bool.false_eq_true, Bool.true_eq_false, dayC_1, dayC_21, dayC_221, dayC_222, odF]; done) | (simp [*, odF]; done) | with_reducible_and_instances rfl))) ) (sub_s (sub_s (sub_s (sub_s (sub_s (sub_n (sub_s (sub_n (sub_s (sub_n (sub_s (sub_s (sub_n (sub_s sub_nil))))))))))))))
                  · skip
                    try simp only [bI_0, bI_n0, Classical.not_not, Bool.not_eq_false, Bool.true_and, Bool.and_true, decide_eq_true_eq, decide_eq_false_iff_not, dayC_1, dayC_21, dayC_221, dayC_222, inI_1, inI_2, inI_3, inI_5, inI_11, inI_16] at c149
                    refine A_iload_n 153 dX10_chance_152 rfl rfl rfl ?_
                    refine A_iconst 154 (1) dX10_chance_153 rfl (by decide) ?_
                    refine A_isub 155 dX10_chance_154 rfl ?_
                    refine A_i2l 156 dX10_chance_155 rfl ?_
                    refine A_goto 160 dX10_chance_156 (by decide) ?_
                    refine A_lmul 161 dX10_chance_160 rfl ?_
                    refine A_lstore 163 dX10_chance_161 rfl (by decide) (by first | exact (astL_s (astL_s (astL_s (astL_s (astL_s (astL_s (astL_s (astL_s (astL_s (astL_s (astL_1 rfl))))))))))) | exact (astL_s (astL_s (astL_s (astL_s (astL_s (astL_s (astL_s (astL_s (astL_s (astL_s astL_k))))))))))) ?_
                    first | refine A_iincN 166 dX10_chance_163 rfl rfl (by decide) (by first | exact (ast_s (ast_s (ast_s (ast_s (ast_s (ast_s (ast_s (ast_s (ast_s (ast_s (ast_s (ast_s (ast_1 rfl))))))))))))) | exact (ast_s (ast_s (ast_s (ast_s (ast_s (ast_s (ast_s (ast_s (ast_s (ast_s (ast_s (ast_s ast_k))))))))))))) ?_ | refine A_iinc 166 (1) dX10_chance_163 rfl rfl (by decide) (by decide) (by first | exact (ast_s (ast_s (ast_s (ast_s (ast_s (ast_s (ast_s (ast_s (ast_s (ast_s (ast_s (ast_s (ast_1 rfl))))))))))))) | exact (ast_s (ast_s (ast_s (ast_s (ast_s (ast_s (ast_s (ast_s (ast_s (ast_s (ast_s (ast_s ast_k))))))))))))) ?_
                    refine A_goto 124 dX10_chance_166 (by decide) ?_
                    exact A_weak (ihc n0c (Nat.lt_succ_self n0c) (k + 1) _  (by omega) ((foldN_s (odF ((x.2.1 k_p) &&& (nI i ^^^ (-1))) t) (1) k).trans ((congrArg ((odF ((x.2.1 k_p) &&& (nI i ^^^ (-1))) t) k) eec).trans (by first | with_reducible rfl | (simp only [c42, n42, cl_p, c115, c149, if_true, if_false, ite_true, ite_false, and_true, true_and, and_false, false_and, and_self, or_true, true_or, or_false, false_or, or_self, not_true_eq_false, not_false_eq_true, decide_true, decide_false, Bool.and_true, Bool.true_and, Bool.and_false, Bool.false_and, Bool.and_self, Bool.or_true, Bool.true_or, Bool.or_false, Bool.false_or, Bool.not_true, Bool.not_false, cond_true, cond_false, bI_t, bI_f, Bool.false_eq_true, Bool.true_eq_false, dayC_1, dayC_21, dayC_221, dayC_222, odF]; done) | (simp only [c42, n42, cl_p, eq_true c115, c149, if_true, if_false, ite_true, ite_false, and_true, true_and, and_false, false_and, and_self, or_true, true_or, or_false, false_or, or_self, not_true_eq_false, not_false_eq_true, decide_true, decide_false, Bool.and_true, Bool.true_and, Bool.and_false, Bool.false_and, Bool.and_self, Bool.or_true, Bool.true_or, Bool.or_false, Bool.false_or, Bool.not_true, Bool.not_false, cond_true, cond_false, bI_t, bI_f, Bool.false_eq_true, Bool.true_eq_false, dayC_1, dayC_21, dayC_221, dayC_222, odF]; done) | (simp [*, odF]; done) | with_reducible_and_instances rfl))) ) (sub_s (sub_s (sub_s (sub_s (sub_s (sub_n (sub_s (sub_n (sub_s (sub_n (sub_s (sub_s (sub_n (sub_s sub_nil))))))))))))))
              exact A_weak (L124 (8) (0) (_)  (by omega) (rfl) ) (sub_s (sub_s (sub_s (sub_s (sub_s (sub_n (sub_s (sub_n (sub_s (sub_n (sub_s (sub_s (sub_n (sub_s sub_nil))))))))))))))
        exact A_weak (L96 (256) (0) (_) h_1 (_) (by omega) (rfl) O28 hf) (sub_s (sub_s (sub_s (sub_s (sub_s (sub_n (sub_s (sub_n (sub_s (sub_n (sub_s (sub_n (sub_n (sub_n sub_nil))))))))))))))
      · skip
        have hi := up_ge_F (N := opN (x.2.1 k_p)) c77 rfl (by omega) (by omega)
        obtain ⟨n0, rfl⟩ : ∃ q, nq = q + 1 := ⟨nq - 1, by omega⟩
        refine A_lload 82 dX10_chance_80 rfl rfl ?_
        refine A_iload_n 83 dX10_chance_82 rfl rfl rfl ?_
        refine A_i2l 84 dX10_chance_83 rfl ?_
        refine A_lmul 85 dX10_chance_84 rfl ?_
        refine A_lstore 87 dX10_chance_85 rfl (by decide) (by first | exact (astL_s (astL_s (astL_s (astL_s (astL_s (astL_s (astL_s (astL_1 rfl)))))))) | exact (astL_s (astL_s (astL_s (astL_s (astL_s (astL_s (astL_s astL_k)))))))) ?_
        first | refine A_iincN 90 dX10_chance_87 rfl rfl (by decide) (by first | exact (ast_s (ast_s (ast_s (ast_s (ast_s (ast_s (ast_s (ast_s (ast_s (ast_1 rfl)))))))))) | exact (ast_s (ast_s (ast_s (ast_s (ast_s (ast_s (ast_s (ast_s (ast_s ast_k)))))))))) ?_ | refine A_iinc 90 (1) dX10_chance_87 rfl rfl (by decide) (by decide) (by first | exact (ast_s (ast_s (ast_s (ast_s (ast_s (ast_s (ast_s (ast_s (ast_s (ast_1 rfl)))))))))) | exact (ast_s (ast_s (ast_s (ast_s (ast_s (ast_s (ast_s (ast_s (ast_s ast_k)))))))))) ?_
        refine A_goto 66 dX10_chance_90 (by decide) ?_
        exact A_weak (ih n0 (Nat.lt_succ_self n0) (i + 1) _  (by omega) ((foldN_s (fun _ w => w * t.toInt64) (1) i).trans ((congrArg ((fun _ w => w * t.toInt64) i) ee).trans (by rfl))) ) (sub_s (sub_s (sub_s (sub_s (sub_s (sub_n (sub_s (sub_n (sub_s (sub_n (sub_s (sub_n (sub_n (sub_n sub_nil))))))))))))))
    exact A_weak (L66 (opN (x.2.1 k_p)) (0) (_)  (by omega) (rfl) ) (sub_s (sub_s (sub_s (sub_s (sub_s (sub_n (sub_s (sub_n (sub_s (sub_n (sub_s (sub_n (sub_n (sub_n sub_nil))))))))))))))
  · skip
    try simp only [bI_0, bI_n0, Classical.not_not, Bool.not_eq_false, Bool.true_and, Bool.and_true, decide_eq_true_eq, decide_eq_false_iff_not, dayC_1, dayC_21, dayC_221, dayC_222, inI_1, inI_2, inI_3, inI_5, inI_11, inI_16] at c42
    have n42 := c42
    replace c42 := Int32.not_le.mp c42
    have hcd : CD (wCh x p l0 t v) := cz_neg wCh_cz c42
    refine A_ldc2_w 48 _ dX10_chance_45 rfl cn_X10_252 ?_
    refine A_aload_n 49 dX10_chance_48 rfl rfl rfl ?_
    refine A_iload 51 dX10_chance_49 rfl rfl ?_
    refine A_callVI 54 (S_X10_refuse_c X l (by first | assumption | decide | omega | exact Ne.symm (by assumption)) (by first | assumption | (unfold CD; decide))) dX10_chance_51 rfl kX10_refuse lk_X10_121 rfl O28 (by decide) rfl (Nat.le_of_ble_eq_true rfl) (fun v_13 h_13 qh_13 => ?_)
    obtain ⟨rfl, n0h_13, eh_13⟩ := qh_13
    replace O28 := n0h_13
    replace hf : ∀ i, i ≠ 28 → h_13 i = h i := fun i g0 => (eh_13 i g0).trans (hf i g0)
    refine A_i2l 55 dX10_chance_54 rfl ?_
    refine A_lsub 56 dX10_chance_55 rfl ?_
    refine A_lret dX10_chance_56 rfl ⟨_, rfl, (by exact rVL_n hcd.ne), _, O28, hf⟩
