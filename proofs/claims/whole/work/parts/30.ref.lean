/-! orders and odds: the other way of adding up -/
theorem cw_nI (x : PW) (t : FI) (n : Nat) (c : Int32) : ∃ a, a ≤ 256 ∧ cwN x t n c = nI a := by
  obtain ⟨a, b, h1, h2, h3, _⟩ := cw_le x t n c 256
  exact ⟨a, by omega, h3⟩
theorem nIL_0 {a : Nat} (h : a < 1000) : (nI a).toInt64 = 0 ∨ 0 < (nI a).toInt64 := by
  rw [nI_l (by omega)]
  by_cases e : a = 0
  · left; rw [e]; rfl
  · right
    exact (lN_lt (a := 0) (by decide) (by omega)).mpr (by omega)
theorem nIL_eu {a : Nat} (h : a < 1000) (x : Int64) : euT 100 x (nI a).toInt64 := by
  refine euT_of 10 100 _ _ ?_ (by decide)
  rw [nI_l (by omega), lN_toInt (by omega)]
  omega
theorem wW_eq (x : PW) (t : FI) (n : Nat) (c v : Int32) : wInIt x t n c v = if (if inT c = true then wrB 0 v 1 else -1) = 0 then wRow x t n else (if inT c = true then wrB 0 v 1 else -1) := by
  unfold wInIt
  by_cases h : inT c = true
  · rw [if_pos h, if_pos h, wrB_0]
    by_cases h2 : v < 0 ∨ 1 < v
    · rw [if_pos h2, if_pos h2, if_neg (by decide)]
    · rw [if_neg h2, if_neg h2, if_pos rfl]
  · rw [if_neg h, if_neg h, if_neg (by decide)]
def w1I (c v : Int32) : Int32 := if inT c = true then wrB 0 v 1 else -1
/-! adds -/
theorem sub1_lt : ∀ a, a < 11 → ∀ b, b < 11 → nI a - 1 - nI b < 1000 := by decide +kernel
theorem R10.sub1 {v w : Int32} (h : R10 v) (h2 : R10 w) : bitC v - 1 - bitC w < 1000 := by
  obtain ⟨e1, q1⟩ := R10_pop h
  obtain ⟨e2, q2⟩ := R10_pop h2
  rw [e1, e2]
  exact sub1_lt _ (by omega) _ (by omega)
theorem oth_pop : ∀ m, m < 256 → ∀ k, k < 8 → btI (nI m) (nI k) = true → bitC (nI m &&& (tbI (nI k) ^^^ (-1))) = bitC (nI m) - 1 := by decide +kernel
theorem and_or_l (a b c : Int32) : a &&& (b ||| c) = (a &&& b) ||| (a &&& c) := by
  rw [Int32.and_comm, and_or_r, Int32.and_comm b, Int32.and_comm c]
theorem oth_not (m b : Int32) : (m &&& (b ^^^ (-1))) ^^^ (-1) = (m ^^^ (-1)) ||| b := by
  apply i32_ext
  intro i hi
  have h1 : (-1 : Int32).toBitVec.getLsbD i = true := by
    show (BitVec.allOnes 32).getLsbD i = true
    rw [BitVec.getLsbD_allOnes]
    exact decide_eq_true hi
  simp only [Int32.toBitVec_and, Int32.toBitVec_or, Int32.toBitVec_xor, BitVec.getLsbD_and, BitVec.getLsbD_or, BitVec.getLsbD_xor, h1]
  cases m.toBitVec.getLsbD i <;> cases b.toBitVec.getLsbD i <;> rfl
theorem oth_sub {k : Nat} (hk : k < 8) (i m : Int32) : i &&& ((m &&& (tbI (nI k) ^^^ (-1))) ^^^ (-1)) = 0 ↔ i &&& (m ^^^ (-1)) = 0 ∧ btI i (nI k) = false := by
  rw [oth_not, and_or_l, Int32.or_eq_zero_iff, tbI_nI hk]
  unfold btI oneB
  constructor
  · rintro ⟨a, b⟩
    exact ⟨a, decide_eq_false (fun q => q b)⟩
  · rintro ⟨a, b⟩
    exact ⟨a, Classical.not_not.mp (of_decide_eq_false b)⟩
def aoR (x : PW) (P t : Int32) (i : Nat) (u : Int64) : Int64 := if nI i &&& (P ^^^ (-1)) = 0 ∧ btI (nI i) t = false then u + facI (bitC (nI i)) * facI (bitC P - 1 - bitC (nI i)) * (DN x (nI i ||| tbI t) - DN x (nI i)).toInt64 else u
theorem ao_eq (x : PW) {P : Int32} (hP : R8 P) {k : Nat} (hk : k < 8) (hb : btI P (nI k) = true) : foldN (aoR x P (nI k)) 0 256 = foldN (aoF x (P &&& (tbI (nI k) ^^^ (-1))) (tbI (nI k))) 0 256 := by
  obtain ⟨m, hm, rfl⟩ := hP
  refine foldN_congr _ _ 0 256 (fun i _ u => ?_)
  unfold aoR aoF
  by_cases h : nI i &&& (nI m ^^^ (-1)) = 0 ∧ btI (nI i) (nI k) = false
  · rw [if_pos h, if_pos ((oth_sub hk _ _).mpr h), oth_pop m hm k hk hb]
  · rw [if_neg h, if_neg (fun z => h ((oth_sub hk _ _).mp z))]
theorem facI_n : ∀ k, k < 9 → (facI (nI k)).toInt.natAbs < 2 ^ 20 := by decide +kernel
theorem facI_eu {P : Int32} (hP : R8 P) (x : Int64) : euT 100 x (facI (bitC P)) := by
  refine euT_of 20 100 _ _ ?_ (by decide)
  rw [(R10_pop hP.r10).1]
  exact facI_n _ (by have := R8_pop hP; omega)
/-! chance -/
theorem foldN_add {f g : Nat → Int64} : ∀ n, foldN (fun i (u : Int64) => u + (f i + g i)) 0 n = foldN (fun i u => u + f i) 0 n + foldN (fun i u => u + g i) 0 n := by
  intro n
  induction n with
  | zero => rfl
  | succ n ih =>
    rw [foldN_s, foldN_s, foldN_s, ih]
    rw [Int64.add_assoc, Int64.add_assoc]
    congr 1
    rw [← Int64.add_assoc, ← Int64.add_assoc, Int64.add_comm (f n)]
def sumL (f : Nat → Int64) (n : Nat) : Int64 := foldN (fun i u => u + f i) 0 n
theorem sumL_s (f : Nat → Int64) (n : Nat) : sumL f (n + 1) = sumL f n + f n := rfl
theorem sumL_congr {f g : Nat → Int64} : ∀ n, (∀ i, i < n → f i = g i) → sumL f n = sumL g n := by
  intro n
  induction n with
  | zero => intro _; rfl
  | succ n ih => intro h; rw [sumL_s, sumL_s, ih (fun i hi => h i (by omega)), h n (by omega)]
theorem sumL_add (f : Nat → Int64) (a : Nat) : ∀ b, sumL f (a + b) = sumL f a + sumL (fun i => f (a + i)) b := by
  intro b
  induction b with
  | zero => show sumL f a = sumL f a + 0; rw [Int64.add_zero]
  | succ b ih => rw [← Nat.add_assoc, sumL_s, ih, sumL_s, Int64.add_assoc]
theorem xor_top {n i : Nat} (h : i < 2 ^ n) : 2 ^ n + i = i ^^^ 2 ^ n := by
  apply Nat.eq_of_testBit_eq
  intro j
  rw [Nat.testBit_xor, Nat.testBit_two_pow]
  rcases Nat.lt_trichotomy j n with q | q | q
  · rw [Nat.testBit_two_pow_add_gt q, decide_eq_false (by omega), Bool.xor_false]
  · subst q
    rw [Nat.testBit_two_pow_add_eq, decide_eq_true rfl, Bool.xor_true]
  · rw [Nat.testBit_lt_two_pow (show 2 ^ n + i < 2 ^ j from Nat.lt_of_lt_of_le (show 2 ^ n + i < 2 ^ (n + 1) by rw [Nat.pow_succ]; omega) (Nat.pow_le_pow_right (by decide) q)), Nat.testBit_lt_two_pow (show i < 2 ^ j from Nat.lt_of_lt_of_le h (Nat.pow_le_pow_right (by decide) (by omega))), decide_eq_false (by omega)]
    rfl
theorem sum_xor : ∀ (n : Nat) (f : Nat → Int64) (p : Nat), p < 2 ^ n → sumL (fun i => f (i ^^^ p)) (2 ^ n) = sumL f (2 ^ n) := by
  intro n
  induction n with
  | zero =>
    intro f p hp
    have e : p = 0 := by omega
    rw [e]
    exact sumL_congr _ (fun i hi => by rw [Nat.xor_zero])
  | succ n ih =>
    intro f p hp
    rw [Nat.pow_succ, Nat.mul_two] at *
    rw [sumL_add, sumL_add]
    by_cases c : p < 2 ^ n
    · rw [ih f p c, ← ih (fun j => f (2 ^ n + j)) p c]
      congr 1
      refine sumL_congr _ (fun i hi => ?_)
      have h2 : i ^^^ p < 2 ^ n := Nat.xor_lt_two_pow hi c
      rw [xor_top hi, xor_top h2, Nat.xor_assoc, Nat.xor_comm (2 ^ n) p, ← Nat.xor_assoc]
    · obtain ⟨q, rfl⟩ : ∃ q, p = 2 ^ n + q := ⟨p - 2 ^ n, by omega⟩
      have hq : q < 2 ^ n := by omega
      rw [Int64.add_comm, ← ih f q hq, ← ih (fun j => f (2 ^ n + j)) q hq]
      congr 1
      · refine sumL_congr _ (fun i hi => ?_)
        rw [xor_top hi, xor_top hq, Nat.xor_assoc, ← Nat.xor_assoc (2 ^ n), Nat.xor_comm (2 ^ n) q, Nat.xor_assoc q, Nat.xor_self, Nat.xor_zero]
      · refine sumL_congr _ (fun i hi => ?_)
        have h2 : i ^^^ q < 2 ^ n := Nat.xor_lt_two_pow hi hq
        rw [xor_top hq, xor_top h2, Nat.xor_assoc]
/-- things told one by one: how many odds -/
def odF (L t : Int32) (k : Nat) (o : Int64) : Int64 := o * (if btI L (nI k) = true then (t - 1).toInt64 else 1)
theorem od_pow (t : Int32) : ∀ m, m < 256 → foldN (odF (nI m) t) 1 8 = powF (t - 1).toInt64 (popN m) := by
  intro m hm
  have key : ∀ m, m < 256 → ∃ b : Nat → Bool, (∀ k, k < 8 → btI (nI m) (nI k) = b k) ∧ popN m = (b 0).toNat + (b 1).toNat + (b 2).toNat + (b 3).toNat + (b 4).toNat + (b 5).toNat + (b 6).toNat + (b 7).toNat := by
    intro m hm
    refine ⟨fun k => btI (nI m) (nI k), fun _ _ => rfl, ?_⟩
    have : ∀ m, m < 256 → popN m = (btI (nI m) (nI 0)).toNat + (btI (nI m) (nI 1)).toNat + (btI (nI m) (nI 2)).toNat + (btI (nI m) (nI 3)).toNat + (btI (nI m) (nI 4)).toNat + (btI (nI m) (nI 5)).toNat + (btI (nI m) (nI 6)).toNat + (btI (nI m) (nI 7)).toNat := by decide +kernel
    exact this m hm
  obtain ⟨b, h1, h2⟩ := key m hm
  rw [h2]
  have h3 : foldN (odF (nI m) t) 1 8 = foldN (fun k (o : Int64) => o * (if b k = true then (t - 1).toInt64 else 1)) 1 8 :=
    foldN_congr _ _ 1 8 (fun k hk o => by unfold odF; rw [h1 k hk])
  rw [h3]
  have gen : ∀ n, foldN (fun k (o : Int64) => o * (if b k = true then (t - 1).toInt64 else 1)) 1 n = powF (t - 1).toInt64 (foldN (fun k (c : Nat) => c + (b k).toNat) 0 n) := by
    intro n
    induction n with
    | zero => rfl
    | succ n ih =>
      rw [foldN_s, ih, foldN_s]
      cases b n with
      | true => rw [if_pos rfl]; rfl
      | false => rw [if_neg (by decide), Int64.mul_one]; rfl
  rw [gen 8]
  congr 1
  simp [foldN]
def chF (x : PW) (P l t : Int32) (i : Nat) (u : Int64) : Int64 := if nI i &&& (P ^^^ (-1)) = 0 then u + (if btI (dDone x 0 (P &&& (nI i ^^^ (-1)))) l = true then foldN (odF (P &&& (nI i ^^^ (-1))) t) 1 8 else 0) else u
theorem nI_xor (a b : Nat) : nI a ^^^ nI b = nI (a ^^^ b) := by
  rw [← Int32.toBitVec_inj]
  show BitVec.ofNat 32 a ^^^ BitVec.ofNat 32 b = BitVec.ofNat 32 (a ^^^ b)
  exact BitVec.ofNat_xor.symm
/-- a set within another: what is left is the other without it, and they change places -/
theorem sub_x (a b : Int32) (h : a &&& (b ^^^ (-1)) = 0) : b &&& (a ^^^ (-1)) = b ^^^ a ∧ (b ^^^ a) &&& (b ^^^ (-1)) = 0 := by
  have hb : ∀ i, i < 32 → (a.toBitVec.getLsbD i && !b.toBitVec.getLsbD i) = false := by
    intro i hi
    have h1 : (-1 : Int32).toBitVec.getLsbD i = true := by
      show (BitVec.allOnes 32).getLsbD i = true
      rw [BitVec.getLsbD_allOnes]
      exact decide_eq_true hi
    have h2 := congrArg (fun q => q.toBitVec.getLsbD i) h
    simp only [Int32.toBitVec_and, Int32.toBitVec_xor, BitVec.getLsbD_and, BitVec.getLsbD_xor, h1, Bool.xor_true] at h2
    rw [h2]
    show (0#32).getLsbD i = false
    exact BitVec.getLsbD_zero
  constructor
  · apply i32_ext
    intro i hi
    have h1 : (-1 : Int32).toBitVec.getLsbD i = true := by
      show (BitVec.allOnes 32).getLsbD i = true
      rw [BitVec.getLsbD_allOnes]
      exact decide_eq_true hi
    have h2 := hb i hi
    simp only [Int32.toBitVec_and, Int32.toBitVec_xor, BitVec.getLsbD_and, BitVec.getLsbD_xor, h1]
    revert h2
    cases a.toBitVec.getLsbD i <;> cases b.toBitVec.getLsbD i <;> decide
  · apply i32_ext
    intro i hi
    have h1 : (-1 : Int32).toBitVec.getLsbD i = true := by
      show (BitVec.allOnes 32).getLsbD i = true
      rw [BitVec.getLsbD_allOnes]
      exact decide_eq_true hi
    have h2 := hb i hi
    have h0 : (0 : Int32).toBitVec.getLsbD i = false := by
      show (0#32).getLsbD i = false
      exact BitVec.getLsbD_zero
    simp only [Int32.toBitVec_and, Int32.toBitVec_xor, BitVec.getLsbD_and, BitVec.getLsbD_xor, h1, h0]
    revert h2
    cases a.toBitVec.getLsbD i <;> cases b.toBitVec.getLsbD i <;> decide
theorem ch_eq (x : PW) {P : Int32} (hP : R8 P) (l t : Int32) : foldN (chF x P l t) 0 256 = foldN (lcF x P l t) 0 256 := by
  obtain ⟨m, hm, rfl⟩ := hP
  have e1 : foldN (chF x (nI m) l t) 0 256 = sumL (fun i => if nI i &&& (nI m ^^^ (-1)) = 0 then (if btI (dDone x 0 (nI (i ^^^ m))) l = true then powF (t - 1).toInt64 (popN (i ^^^ m)) else 0) else 0) 256 := by
    refine foldN_congr _ _ 0 256 (fun i hi u => ?_)
    unfold chF
    by_cases h : nI i &&& (nI m ^^^ (-1)) = 0
    · rw [if_pos h, if_pos h, (sub_x _ _ h).1, nI_xor, Nat.xor_comm m i, od_pow t (i ^^^ m) (Nat.xor_lt_two_pow (n := 8) hi hm)]
    · rw [if_neg h, if_neg h, Int64.add_zero]
  have e2 : foldN (lcF x (nI m) l t) 0 256 = sumL (fun i => if nI i &&& (nI m ^^^ (-1)) = 0 then (if btI (dDone x 0 (nI i)) l = true then powF (t - 1).toInt64 (popN i) else 0) else 0) 256 := by
    refine foldN_congr _ _ 0 256 (fun i hi u => ?_)
    unfold lcF
    by_cases h : nI i &&& (nI m ^^^ (-1)) = 0
    · rw [if_pos h]
      by_cases h2 : btI (dDone x 0 (nI i)) l = true
      · rw [if_pos ⟨h, h2⟩, if_pos h2]
      · rw [if_neg (fun z => h2 z.2), if_neg h2, Int64.add_zero]
    · rw [if_neg (fun z => h z.1), if_neg h, Int64.add_zero]
  rw [e1, e2]
  refine (sumL_congr 256 (fun i hi => ?_)).trans (sum_xor 8 (fun i => if nI i &&& (nI m ^^^ (-1)) = 0 then (if btI (dDone x 0 (nI i)) l = true then powF (t - 1).toInt64 (popN i) else 0) else 0) m hm)
  show _ = if nI (i ^^^ m) &&& (nI m ^^^ (-1)) = 0 then _ else _
  by_cases h : nI i &&& (nI m ^^^ (-1)) = 0
  · rw [if_pos h, if_pos (by rw [Nat.xor_comm, ← nI_xor]; exact (sub_x _ _ h).2)]
  · rw [if_neg h, if_neg (fun z => h (by
      have q := (sub_x _ _ z).2
      rw [nI_xor, Nat.xor_comm i m, ← Nat.xor_assoc, Nat.xor_self, Nat.zero_xor] at q
      exact q))]
/-- the odds stay in their range -/
theorem pow_nn {t : Int32} (h2 : ¬ t < 2) (h20 : ¬ 20 < t) : ∃ k, k < 20 ∧ (t - 1).toInt64 = lN k ∧ t.toInt64 = lN (k + 1) := by
  obtain ⟨j, rfl, hj⟩ := nI_exg (n := 20) (fun z => h2 (Int32.lt_trans z (by decide))) h20 (by decide)
  have h3 : 2 ≤ j := by
    have := mt (nlt_iff (a := j) (b := 2) (by omega) (by decide)).mpr h2
    omega
  obtain ⟨k, rfl⟩ : ∃ k, j = k + 1 := ⟨j - 1, by omega⟩
  refine ⟨k, by omega, ?_, nI_l (by omega)⟩
  rw [nI_pred, nI_l (by omega)]
theorem powF_nn (b : Nat) : ∀ n, powF (lN b) n = lN (b ^ n) := by
  intro n
  induction n with
  | zero => rfl
  | succ n ih =>
    show powF (lN b) n * lN b = lN (b ^ (n + 1))
    rw [ih, lN_mul, Nat.pow_succ]
theorem pw_le : ∀ k, k < 21 → ∀ n, n ≤ 8 → k ^ n ≤ 25600000000 := by
  intro k hk n hn
  exact Nat.le_trans (Nat.pow_le_pow_left (show k ≤ 20 by omega) n) (Nat.le_trans (Nat.pow_le_pow_right (by decide) hn) (by decide))
theorem lc_nn (x : PW) (P l : Int32) {t : Int32} (h2 : ¬ t < 2) (h20 : ¬ 20 < t) : foldN (lcF x P l t) 0 256 = 0 ∨ 0 < foldN (lcF x P l t) 0 256 := by
  obtain ⟨k, hk, e, _⟩ := pow_nn h2 h20
  have h := foldN_inv (lcF x P l t) 0 (fun i u => i ≤ 256 → ∃ U, U ≤ i * 25600000000 ∧ u = lN U) (fun _ => ⟨0, by omega, rfl⟩) 256 (fun i u hi hu hi2 => by
    obtain ⟨U, hU, rfl⟩ := hu (by omega)
    unfold lcF
    split
    · rw [e, powF_nn, lN_add]
      have := pw_le k (by omega) (popN i) (pop_8 i hi)
      exact ⟨_, by omega, rfl⟩
    · exact ⟨U, by omega, rfl⟩)
  obtain ⟨U, hU, e2⟩ := h (Nat.le_refl _)
  rw [e2]
  by_cases c : U = 0
  · left; rw [c]; rfl
  · right
    exact (pk_lLT (a := 0) (by decide) (by omega)).mpr (by omega)
theorem pw_eu {t : Int32} (h2 : ¬ t < 2) (h20 : ¬ 20 < t) {n : Nat} (hn : n ≤ 8) (x : Int64) : euT 100 x (powF t.toInt64 n) := by
  obtain ⟨k, hk, _, e⟩ := pow_nn h2 h20
  refine euT_of 40 100 _ _ ?_ (by decide)
  have := pw_le (k + 1) (by omega) n hn
  rw [e, powF_nn, lN_ti (by omega), if_pos (by omega)]
  omega
