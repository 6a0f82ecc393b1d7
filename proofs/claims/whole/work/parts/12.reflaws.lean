/-! words over numbers for the reference's own ways -/
theorem lcmp_lt {x y : Int64} : lg_cmp x y < 0 ↔ x < y := by
  unfold lg_cmp
  by_cases h : y < x
  · have h2 : ¬ x < y := Int64.not_lt.mpr (Int64.le_of_lt h)
    simp [h, h2]
  · by_cases e : x = y
    · subst e; simp [h]
    · have h3 : x < y := by
        rcases Int64.lt_or_eq_of_le (Int64.not_lt.mp h) with q | q
        · exact q
        · exact absurd q e
      simp [h, e, h3]
theorem lcmp_gt {x y : Int64} : 0 < lg_cmp x y ↔ y < x := by
  unfold lg_cmp
  by_cases h : y < x
  · simp [h]
  · by_cases e : x = y
    · subst e; simp [h]
    · simp [h, e]
theorem i64_le {a b : Int32} : a.toInt64 ≤ b.toInt64 ↔ a ≤ b := by
  rw [Int64.le_iff_toInt_le, Int32.le_iff_toInt_le, Int32.toInt_toInt64, Int32.toInt_toInt64]
theorem i64_lt {a b : Int32} : a.toInt64 < b.toInt64 ↔ a < b := by
  rw [Int64.lt_iff_toInt_lt, Int32.lt_iff_toInt_lt, Int32.toInt_toInt64, Int32.toInt_toInt64]
theorem i64_0 : (0 : Int64) = (0 : Int32).toInt64 := rfl
def inI (v lo hi : Int64) : Bool := decide (lo ≤ v ∧ v ≤ hi)
theorem inI_le {v lo hi : Int32} : inI v.toInt64 lo.toInt64 hi.toInt64 = decide (lo ≤ v ∧ v ≤ hi) := by
  unfold inI
  simp only [i64_le]
theorem le_pred {i : Int32} {n : Nat} (hn : n < 2 ^ 31) : i ≤ nI n - 1 ↔ i < nI n := by
  cases n with
  | zero =>
    constructor
    · intro h
      have h1 : i ≤ -1 := h
      have h2 := Int32.le_iff_toInt_le.mp h1
      have h3 : ((-1 : Int32)).toInt = -1 := by decide
      rw [Int32.lt_iff_toInt_lt, nI_toInt hn]
      omega
    · intro h
      have h2 := Int32.lt_iff_toInt_lt.mp h
      rw [nI_toInt hn] at h2
      show i ≤ -1
      rw [Int32.le_iff_toInt_le]
      have h3 : ((-1 : Int32)).toInt = -1 := by decide
      omega
  | succ n =>
    rw [dn_s, Int32.le_iff_toInt_le, Int32.lt_iff_toInt_lt, nI_toInt hn, nI_toInt (by omega)]
    omega
theorem inI_one {i : Int32} {n : Nat} (hn : n < 2 ^ 31) : inI i.toInt64 0 (nI n - 1).toInt64 = inN i n := by
  rw [i64_0, inI_le]
  unfold inN
  simp only [le_pred hn]
theorem inI_lit {i lo hi : Int32} {a b : Int64} (ha : a = lo.toInt64) (hb : b = hi.toInt64) : inI i.toInt64 a b = decide (lo ≤ i ∧ i ≤ hi) := by rw [ha, hb, inI_le]
theorem inI_thing {i : Int32} : inI i.toInt64 0 7 = inT i := by
  rw [inI_lit (a := 0) (b := 7) (lo := 0) (hi := 7) rfl rfl]
  unfold inT
  have : i ≤ 7 ↔ i < 8 := by
    rw [Int32.le_iff_toInt_le, Int32.lt_iff_toInt_lt]
    have h3 : ((7 : Int32)).toInt = 7 := by decide
    have h4 : ((8 : Int32)).toInt = 8 := by decide
    omega
  simp only [this]
/-! bits -/
theorem sh31 (k : Int32) : ((k &&& 31).toBitVec.smod 32#32).toNat < 32 := by
  have h : ∀ b : BitVec 32, b.toNat < 32 → (b.smod 32#32).toNat < 32 := by
    intro b hb
    have e : b = BitVec.ofNat 32 b.toNat := by simp
    rw [e]
    generalize b.toNat = n at hb
    revert n
    decide +kernel
  apply h
  rw [Int32.toBitVec_and]
  have : (31 : Int32).toBitVec = 31#32 := rfl
  rw [this, BitVec.toNat_and]
  exact Nat.lt_of_le_of_lt Nat.and_le_right (by decide)
theorem one_bit (j i : Nat) (hj : j < 32) : (1#32 <<< j).getLsbD i = decide (i = j) := by
  by_cases hi : i < 32
  · rw [BitVec.getLsbD_shiftLeft]
    by_cases e : i = j
    · subst e; simp [hi]
    · by_cases hlt : i < j
      · simp [hi, hlt, e]
      · have : i - j ≠ 0 := by omega
        simp [hi, hlt, e, this]
  · have : i ≠ j := by omega
    rw [BitVec.getLsbD_of_ge _ _ (by omega)]
    simp [this]
theorem and_bit0 (b : BitVec 32) (j : Nat) (hj : j < 32) : b &&& (1#32 <<< j) = 0#32 ↔ b.getLsbD j = false := by
  constructor
  · intro h
    have := congrArg (fun q => q.getLsbD j) h
    simpa [one_bit j j hj] using this
  · intro h
    apply BitVec.eq_of_getLsbD_eq
    intro i hi
    rw [BitVec.getLsbD_and, one_bit j i hj]
    by_cases e : i = j
    · subst e; simp [h]
    · simp [e]
def bitAt (b k : Int32) : Bool := b.toBitVec.getLsbD ((k &&& 31).toBitVec.smod 32#32).toNat
theorem shl1 (k : Int32) : ((1 : Int32) <<< (k &&& 31)).toBitVec = 1#32 <<< ((k &&& 31).toBitVec.smod 32#32).toNat := rfl
theorem btI_at (b k : Int32) : btI b k = bitAt b k := by
  unfold btI bitAt
  have h : (b &&& (1 <<< (k &&& 31)) = 0) ↔ b.toBitVec.getLsbD ((k &&& 31).toBitVec.smod 32#32).toNat = false := by
    rw [← Int32.toBitVec_inj, Int32.toBitVec_and, shl1]
    exact and_bit0 _ _ (sh31 k)
  cases hb : b.toBitVec.getLsbD ((k &&& 31).toBitVec.smod 32#32).toNat with
  | true => exact decide_eq_true (fun z => by rw [h.mp z] at hb; cases hb)
  | false => exact decide_eq_false (fun z => z (h.mpr hb))
theorem hasBit_at (b k : Int32) : decide ((b >>> (k &&& 31)) &&& 1 = 1) = btI b k := by
  rw [btI_at]
  unfold bitAt
  have hj := sh31 k
  have e : (b >>> (k &&& 31) &&& 1 = 1) ↔ b.toBitVec.getLsbD ((k &&& 31).toBitVec.smod 32#32).toNat = true := by
    have e0 : (b >>> (k &&& 31)).toBitVec = b.toBitVec.sshiftRight' ((k &&& 31).toBitVec.smod 32#32) := rfl
    have e1 : (1 : Int32).toBitVec = 1#32 := rfl
    rw [← Int32.toBitVec_inj, Int32.toBitVec_and, e0, e1]
    generalize hs : (k &&& 31).toBitVec.smod 32#32 = s at hj ⊢
    have e2 : (b.toBitVec.sshiftRight' s).getLsbD 0 = b.toBitVec.getLsbD s.toNat := by
      rw [BitVec.getLsbD_sshiftRight']
      simp [hj]
    constructor
    · intro h
      have := congrArg (fun q => q.getLsbD 0) h
      rw [← e2]
      simpa using this
    · intro h
      apply BitVec.eq_of_getLsbD_eq
      intro i hi
      rw [BitVec.getLsbD_and]
      by_cases e : i = 0
      · subst e; rw [e2, h]; rfl
      · have : (1#32).getLsbD i = false := by
          have := one_bit 0 i (by decide)
          simpa [e] using this
        rw [this]; simp
  cases hb : b.toBitVec.getLsbD ((k &&& 31).toBitVec.smod 32#32).toNat with
  | true => exact decide_eq_true (e.mpr hb)
  | false => exact decide_eq_false (fun z => by rw [e.mp z] at hb; cases hb)
theorem btI_or (a b k : Int32) : btI (a ||| b) k = (btI a k || btI b k) := by
  rw [btI_at, btI_at, btI_at]
  unfold bitAt
  rw [Int32.toBitVec_or, BitVec.getLsbD_or]
theorem btI_and (a b k : Int32) : btI (a &&& b) k = (btI a k && btI b k) := by
  rw [btI_at, btI_at, btI_at]
  unfold bitAt
  rw [Int32.toBitVec_and, BitVec.getLsbD_and]
theorem sm32 : ∀ n, n < 32 → ((nI n &&& 31).toBitVec.smod 32#32).toNat = n := by decide +kernel
theorem btI_nI (b : Int32) {n : Nat} (hn : n < 32) : btI b (nI n) = b.toBitVec.getLsbD n := by
  rw [btI_at]
  unfold bitAt
  rw [sm32 n hn]
theorem oneB_nI {n : Nat} (hn : n < 32) : (oneB (nI n)).toBitVec = 1#32 <<< n := by
  unfold oneB
  rw [shl1, sm32 n hn]
theorem btI_one {a n : Nat} (ha : a < 32) (hn : n < 32) : btI (oneB (nI a)) (nI n) = decide (n = a) := by
  rw [btI_nI _ hn, oneB_nI ha, one_bit a n ha]
theorem btI_0 (k : Int32) : btI 0 k = false := by
  unfold btI; simp
/-- both ways of 'either' where it holds -/
theorem i32_ext {a b : Int32} (h : ∀ i, i < 32 → a.toBitVec.getLsbD i = b.toBitVec.getLsbD i) : a = b := by
  rw [← Int32.toBitVec_inj]
  exact BitVec.eq_of_getLsbD_eq (fun i hi => h i hi)
theorem not_bit (a : Int32) {i : Nat} (hi : i < 32) : (a ^^^ (-1)).toBitVec.getLsbD i = !a.toBitVec.getLsbD i := by
  rw [Int32.toBitVec_xor, BitVec.getLsbD_xor]
  have e : ((-1 : Int32)).toBitVec = BitVec.allOnes 32 := by decide
  rw [e, BitVec.getLsbD_allOnes]
  simp [hi]
theorem either_1 {has : Int32} {a b : Nat} (ha : a < 8) (hb : b < 8) (h1 : has &&& oneB (nI a) = 0) (h2 : btI has (nI b) = true) : (has &&& (oneB (nI b) ^^^ (-1))) ||| oneB (nI a) = eitherF has (oneB (nI a)) (oneB (nI b)) := by
  have q1 : has.toBitVec.getLsbD a = false := by
    rw [← btI_nI has (by omega)]
    unfold btI
    have : has &&& (1 <<< (nI a &&& 31)) = 0 := h1
    simp [this]
  have q2 : has.toBitVec.getLsbD b = true := by rw [← btI_nI has (by omega)]; exact h2
  unfold eitherF
  rw [if_neg (fun z => z.1 h1)]
  apply i32_ext
  intro i hi
  simp only [Int32.toBitVec_or, Int32.toBitVec_and, Int32.toBitVec_xor, BitVec.getLsbD_or, BitVec.getLsbD_and, BitVec.getLsbD_xor, oneB_nI (show a < 32 by omega), oneB_nI (show b < 32 by omega), one_bit a i (by omega), one_bit b i (by omega)]
  have e : ((-1 : Int32)).toBitVec.getLsbD i = true := by
    have : ((-1 : Int32)).toBitVec = BitVec.allOnes 32 := by decide
    rw [this, BitVec.getLsbD_allOnes]; simp [hi]
  rw [e]
  by_cases e1 : i = a
  · subst e1
    rw [q1]
    by_cases e2 : i = b
    · subst e2; rw [q1] at q2; cases q2
    · simp [e2]
  · by_cases e2 : i = b
    · subst e2; rw [q2]; simp [e1]
    · simp [e1, e2]
theorem either_2 {has : Int32} {a b : Nat} (ha : a < 8) (hb : b < 8) (h1 : ¬ has &&& oneB (nI a) = 0) (h2 : has &&& oneB (nI b) = 0) : (has &&& (oneB (nI a) ^^^ (-1))) ||| oneB (nI b) = eitherF has (oneB (nI a)) (oneB (nI b)) := by
  have q1 : has.toBitVec.getLsbD a = true := by
    rw [← btI_nI has (by omega)]
    unfold btI
    exact decide_eq_true h1
  have q2 : has.toBitVec.getLsbD b = false := by
    rw [← btI_nI has (by omega)]
    unfold btI
    have : has &&& (1 <<< (nI b &&& 31)) = 0 := h2
    simp [this]
  unfold eitherF
  rw [if_neg (fun z => z.2 h2)]
  apply i32_ext
  intro i hi
  simp only [Int32.toBitVec_or, Int32.toBitVec_and, Int32.toBitVec_xor, BitVec.getLsbD_or, BitVec.getLsbD_and, BitVec.getLsbD_xor, oneB_nI (show a < 32 by omega), oneB_nI (show b < 32 by omega), one_bit a i (by omega), one_bit b i (by omega)]
  have e : ((-1 : Int32)).toBitVec.getLsbD i = true := by
    have : ((-1 : Int32)).toBitVec = BitVec.allOnes 32 := by decide
    rw [this, BitVec.getLsbD_allOnes]; simp [hi]
  rw [e]
  by_cases e1 : i = a
  · subst e1
    rw [q1]
    by_cases e2 : i = b
    · subst e2; rw [q1] at q2; cases q2
    · simp [e2]
  · by_cases e2 : i = b
    · subst e2; rw [q2]; simp [e1]
    · simp [e1, e2]
theorem either_3 {has w g : Int32} (h1 : ¬ has &&& w = 0) (h2 : ¬ has &&& g = 0) : has &&& (g ^^^ (-1)) = eitherF has w g := by
  unfold eitherF
  rw [if_pos ⟨h1, h2⟩]
theorem tbI_nI {n : Nat} (hn : n < 8) : tbI (nI n) = oneB (nI n) := by
  have : ∀ n, n < 8 → inT (nI n) = true := by decide
  unfold tbI
  rw [if_pos (this n hn)]
theorem tbI_big {n : Nat} (hn : n < 10) (h : ¬ nI n < 8) : tbI (nI n) = 0 := by
  have : ∀ n, n < 10 → ¬ nI n < 8 → tbI (nI n) = 0 := by decide
  exact this n hn h
/-! how many ones -/
theorem ones_step : ∀ m, m < 1024 → m ≠ 0 → nI m &&& (nI m - 1) = nI (m &&& (m - 1)) ∧ bitC (nI m) = bitC (nI (m &&& (m - 1))) + 1 ∧ m &&& (m - 1) < m := by decide +kernel
theorem bitC_0 : bitC (nI 0) = 0 := by decide +kernel
def R10 (v : Int32) : Prop := ∃ m, m < 1024 ∧ v = nI m
def R8 (v : Int32) : Prop := ∃ m, m < 256 ∧ v = nI m
theorem R8.r10 {v : Int32} (h : R8 v) : R10 v := by obtain ⟨m, h1, h2⟩ := h; exact ⟨m, by omega, h2⟩
theorem nI_or (a b : Nat) : nI a ||| nI b = nI (a ||| b) := by
  rw [← Int32.toBitVec_inj]
  show BitVec.ofNat 32 a ||| BitVec.ofNat 32 b = BitVec.ofNat 32 (a ||| b)
  exact BitVec.ofNat_or.symm
theorem nI_and (a b : Nat) : nI a &&& nI b = nI (a &&& b) := by
  rw [← Int32.toBitVec_inj]
  show BitVec.ofNat 32 a &&& BitVec.ofNat 32 b = BitVec.ofNat 32 (a &&& b)
  exact BitVec.ofNat_and.symm
theorem oneB_pow : ∀ k, k < 10 → oneB (nI k) = nI (2 ^ k) := by decide +kernel
theorem R10.or {a b : Int32} (ha : R10 a) (hb : R10 b) : R10 (a ||| b) := by
  obtain ⟨m, h1, rfl⟩ := ha
  obtain ⟨n, h2, rfl⟩ := hb
  exact ⟨m ||| n, Nat.or_lt_two_pow (n := 10) h1 h2, nI_or m n⟩
theorem R8.or {a b : Int32} (ha : R8 a) (hb : R8 b) : R8 (a ||| b) := by
  obtain ⟨m, h1, rfl⟩ := ha
  obtain ⟨n, h2, rfl⟩ := hb
  exact ⟨m ||| n, Nat.or_lt_two_pow (n := 8) h1 h2, nI_or m n⟩
theorem R10.one {k : Nat} (hk : k < 10) : R10 (oneB (nI k)) := ⟨2 ^ k, by have := Nat.pow_lt_pow_right (a := 2) (by decide) hk; omega, oneB_pow k hk⟩
theorem R8.one {k : Nat} (hk : k < 8) : R8 (oneB (nI k)) := ⟨2 ^ k, by have := Nat.pow_lt_pow_right (a := 2) (by decide) hk; omega, oneB_pow k (by omega)⟩
theorem R8.iff {v : Int32} : R8 v ↔ v &&& 255 = v := by
  constructor
  · rintro ⟨m, h, rfl⟩
    have : ∀ m, m < 256 → nI m &&& 255 = nI m := by decide +kernel
    exact this m h
  · intro h
    have e : v = nI (v.toBitVec.toNat &&& 255) := by
      rw [← Int32.toBitVec_inj]
      show v.toBitVec = BitVec.ofNat 32 (v.toBitVec.toNat &&& 255)
      have h2 := congrArg Int32.toBitVec h
      rw [Int32.toBitVec_and] at h2
      apply BitVec.eq_of_toNat_eq
      rw [BitVec.toNat_ofNat]
      have h3 := congrArg BitVec.toNat h2
      rw [BitVec.toNat_and] at h3
      have h4 : (255 : Int32).toBitVec.toNat = 255 := rfl
      rw [h4] at h3
      rw [h3, Nat.mod_eq_of_lt v.toBitVec.isLt]
    exact ⟨v.toBitVec.toNat &&& 255, Nat.lt_of_le_of_lt Nat.and_le_right (by decide), e⟩
theorem R8.and {a b : Int32} (ha : R8 a) : R8 (a &&& b) := by
  rw [R8.iff] at *
  rw [Int32.and_assoc, Int32.and_comm b, ← Int32.and_assoc, ha]
theorem R8.xor {a b : Int32} (ha : R8 a) (hb : R8 b) : R8 (a ^^^ b) := by
  rw [R8.iff] at *
  apply i32_ext
  intro i hi
  have h1 := congrArg (fun q => q.toBitVec.getLsbD i) ha
  have h2 := congrArg (fun q => q.toBitVec.getLsbD i) hb
  simp only [Int32.toBitVec_and, Int32.toBitVec_xor, BitVec.getLsbD_and, BitVec.getLsbD_xor] at *
  revert h1 h2
  cases a.toBitVec.getLsbD i <;> cases b.toBitVec.getLsbD i <;> cases (255 : Int32).toBitVec.getLsbD i <;> simp
theorem R8.tb (t : Int32) : R8 (tbI t) := by
  unfold tbI
  by_cases h : inT t = true
  · rw [if_pos h]
    have h2 := of_decide_eq_true h
    obtain ⟨k, rfl, hk⟩ := nI_exi (n := 8) (Int32.not_lt.mpr h2.1) h2.2 (by decide)
    exact R8.one hk
  · rw [if_neg h]
    exact ⟨0, by decide, rfl⟩
theorem R8.after {x : PW} {k : Nat} {has : Int32} (hh : R8 has) (ht : R8 x.2.2.2.2.1) : R8 (afterF x k has) := by
  unfold afterF eitherF
  repeat' split
  all_goals first | exact R8.or (R8.and hh) (R8.tb _) | exact R8.or hh (R8.tb _) | exact R8.and hh | exact R8.xor hh (R8.or (R8.tb _) (R8.tb _)) | exact R8.and (R8.or hh (R8.tb _)) | exact R8.or hh ht
theorem dayS_R {x : PW} (hx : LOK x) (ht : R8 x.2.2.2.2.1) (nv : Int32) {s : Int32} (hs : R8 s) : ∀ n, R10 (dayS x nv s n).1 ∧ R8 (dayS x nv s n).2 := by
  intro n
  induction n with
  | zero => exact ⟨⟨0, by decide, rfl⟩, hs⟩
  | succ n ih =>
    rw [dayS_s]
    split
    · exact ih
    · rename_i h
      obtain ⟨k, hk, e⟩ := (firstF_or x (nI n) (dayS x nv s n).2 (nv ||| (dayS x nv s n).1)).resolve_left h
      have e2 : dLaw x nv s n = nI k := e
      rw [e2]
      exact ⟨R10.or ih.1 (R10.one (Nat.lt_of_lt_of_le hk hx.1)), R8.after ih.2 ht⟩
theorem dayS_R10 {x : PW} (hx : LOK x) (nv s : Int32) : ∀ n, R10 (dayS x nv s n).1 := by
  intro n
  induction n with
  | zero => exact ⟨0, by decide, rfl⟩
  | succ n ih =>
    rw [dayS_s]
    split
    · exact ih
    · rename_i h
      obtain ⟨k, hk, e⟩ := (firstF_or x (nI n) (dayS x nv s n).2 (nv ||| (dayS x nv s n).1)).resolve_left h
      have e2 : dLaw x nv s n = nI k := e
      rw [e2]
      exact R10.or ih (R10.one (Nat.lt_of_lt_of_le hk hx.1))
theorem dDone_R {x : PW} (hx : LOK x) (nv s : Int32) : R10 (dDone x nv s) := dayS_R10 hx nv s 12
theorem dEnd_R {x : PW} (hx : LOK x) (ht : R8 x.2.2.2.2.1) (nv : Int32) {s : Int32} (hs : R8 s) : R8 (dEnd x nv s) := (dayS_R hx ht nv hs 12).2
/-! the first law: found from behind -/
theorem nI_ne9 {k : Nat} (hk : k < 2 ^ 31) : ¬ nI k = -9 := by
  intro h
  have := congrArg Int32.toInt h
  rw [nI_toInt hk] at this
  have h3 : ((-9 : Int32)).toInt = -9 := by decide
  omega
theorem firstN_snoc (x : PW) (hour has but : Int32) : ∀ n k, k + n < 2 ^ 31 → firstN x hour has but (n + 1) k = if firstN x hour has but n k = -9 then (if btI but (nI (k + n)) = false ∧ holdsF x (k + n) hour has = true then nI (k + n) else -9) else firstN x hour has but n k := by
  intro n
  induction n with
  | zero =>
    intro k hk
    rw [firstN_s]
    show _ = if (-9 : Int32) = -9 then _ else _
    rw [if_pos rfl]
    rfl
  | succ n ih =>
    intro k hk
    rw [firstN_s x hour has but (n + 1) k, ih (k + 1) (by omega), firstN_s x hour has but n k]
    by_cases h : btI but (nI k) = false ∧ holdsF x k hour has = true
    · rw [if_pos h, if_pos h, if_neg (nI_ne9 (by omega))]
    · rw [if_neg h, if_neg h, show k + 1 + n = k + (n + 1) by omega]
/-- never done: as the reference keeps it, and as bits -/
def nvB (nv : Int32) : Int32 := if nv = -1 then 0 else oneB nv
def NVok (nv : Int32) : Prop := nv = -1 ∨ ∃ k, k < 10 ∧ nv = nI k
theorem nvB_bit {nv : Int32} (h : NVok nv) {k : Nat} (hk : k < 10) : btI (nvB nv) (nI k) = decide (nI k = nv) := by
  rcases h with rfl | ⟨j, hj, rfl⟩
  · unfold nvB
    rw [if_pos rfl, btI_0]
    have : ∀ k, k < 10 → ¬ nI k = -1 := by decide
    simp [this k hk]
  · unfold nvB
    have : ∀ k, k < 10 → ¬ nI k = -1 := by decide
    rw [if_neg (this j hj), btI_one (by omega) (by omega)]
    have h2 := @ninj k j (by omega) (by omega)
    simp only [h2]
def dnF (x : PW) (nv hour has dn : Int32) (k : Nat) (u : Int32) : Int32 := if btI dn (nI k) = false ∧ holdsF x k hour has = true ∧ ¬ nI k = nv then nI k else u
theorem dnF_first {x : PW} {nv hour has dn : Int32} (hv : NVok nv) : ∀ n u, n ≤ 10 → downF (dnF x nv hour has dn) n u = if firstN x hour has (nvB nv ||| dn) n 0 = -9 then u else firstN x hour has (nvB nv ||| dn) n 0 := by
  intro n
  induction n with
  | zero => intro u _; exact (if_pos rfl).symm
  | succ n ih =>
    intro u hn
    rw [downF_s, ih _ (by omega), firstN_snoc x hour has _ n 0 (by omega), Nat.zero_add]
    by_cases h : firstN x hour has (nvB nv ||| dn) n 0 = -9
    · rw [if_pos h, if_pos h]
      unfold dnF
      have e : (btI dn (nI n) = false ∧ holdsF x n hour has = true ∧ ¬ nI n = nv) ↔ (btI (nvB nv ||| dn) (nI n) = false ∧ holdsF x n hour has = true) := by
        rw [btI_or, nvB_bit hv (by omega), Bool.or_eq_false_iff, decide_eq_false_iff_not]
        constructor
        · rintro ⟨a, b, c⟩; exact ⟨⟨c, a⟩, b⟩
        · rintro ⟨⟨c, a⟩, b⟩; exact ⟨a, b, c⟩
      by_cases hh : btI (nvB nv ||| dn) (nI n) = false ∧ holdsF x n hour has = true
      · rw [if_pos (e.mpr hh), if_pos hh, if_neg (nI_ne9 (by omega))]
      · rw [if_neg (fun z => hh (e.mp z)), if_neg hh, if_pos rfl]
    · rw [if_neg h, if_neg h, if_neg h]
theorem dnF_firstF {x : PW} {nv hour has dn : Int32} (hv : NVok nv) (hx : LOK x) : downF (dnF x nv hour has dn) x.2.2.1 (-9) = firstF x hour has (nvB nv ||| dn) := by
  rw [dnF_first hv _ _ hx.1]
  unfold firstF
  split
  · rename_i h; exact h.symm
  · rfl
theorem firstN_holds (x : PW) (hour has but : Int32) : ∀ n k j, k + n < 2 ^ 31 → j < 2 ^ 31 → firstN x hour has but n k = nI j → holdsF x j hour has = true := by
  intro n
  induction n with
  | zero => intro k j _ hj h; exact absurd h.symm (nI_ne9 hj)
  | succ n ih =>
    intro k j hk hj h
    rw [firstN_s] at h
    by_cases c : btI but (nI k) = false ∧ holdsF x k hour has = true
    · rw [if_pos c, ninj (by omega) hj] at h
      rw [← h]
      exact c.2
    · rw [if_neg c] at h
      exact ih (k + 1) j (by omega) hj h
theorem firstF_holds {x : PW} {hour has but : Int32} (hx : LOK x) {j : Nat} (hj : j < 10) (h : firstF x hour has but = nI j) : holdsF x j hour has = true := firstN_holds x hour has but x.2.2.1 0 j (by have := hx.1; omega) (by omega) h
theorem holds_either {x : PW} {k : Nat} {hour has : Int32} (h : holdsF x k hour has = true) (e : kd x k = 2) : btI has (wa x k) = true ∨ btI has (gi x k) = true := by
  unfold holdsF at h
  rw [e] at h
  by_cases c : hour < fg x k
  · rw [if_pos c] at h; cases h
  · rw [if_neg c] at h
    simpa using h
theorem lcmp_eq {x y : Int64} : lg_cmp x y = 0 ↔ x = y := by
  unfold lg_cmp
  by_cases h : y < x
  · have : ¬ x = y := fun e => by subst e; exact Int64.lt_irrefl h
    simp [h, this]
  · by_cases e : x = y
    · subst e; simp [h]
    · simp [h, e]
