/-! the reference's ways of asking, second lot -/
theorem ifW_n {α : Type} {w : Int32} (h : ¬ w = 0) (a b : α) : ifW w a b = b := if_neg h
theorem v3_of {v : Int32} (h : ¬ (v < 0 ∨ 3 < v)) (h0 : ¬ v = 0) (h1 : ¬ v = 1) (h2 : ¬ v = 2) : v = 3 := by
  obtain ⟨k, rfl, hk⟩ := nI_exg (n := 3) (fun z => h (Or.inl z)) (fun z => h (Or.inr z)) (by decide)
  rcases (show k = 0 ∨ k = 1 ∨ k = 2 ∨ k = 3 by omega) with rfl | rfl | rfl | rfl
  · exact absurd rfl h0
  · exact absurd rfl h1
  · exact absurd rfl h2
  · rfl
theorem i32_tdiv {a : Int32} (n : Nat) (hn : 0 < n) (hn2 : n < 2 ^ 31) (h : ¬ a < 0) : ∃ m, m < 2 ^ 31 ∧ a = nI m ∧ a / nI n = nI (m / n) ∧ a - a / nI n * nI n = nI (m % n) := by
  obtain ⟨m, hm, e⟩ := nI_of h
  have h1 : m / n ≤ m := Nat.div_le_self m n
  have e2 : a / nI n = nI (m / n) := by
    rw [e]
    apply Int32.toInt_inj.mp
    rw [Int32.toInt_div_of_ne_right _ _ (by
      intro z
      have z2 := congrArg Int32.toInt z
      rw [nI_toInt hn2] at z2
      have : (-1 : Int32).toInt = -1 := by decide
      omega), nI_toInt hm, nI_toInt hn2, nI_toInt (by omega)]
    exact Int.ofNat_tdiv m n
  refine ⟨m, hm, e, e2, ?_⟩
  rw [e2, e, ← nmul]
  have h3 : m / n * n + m % n = m := by rw [Nat.mul_comm]; exact Nat.div_add_mod m n
  have h4 : nI m = nI (m % n) + nI (m / n * n) := by rw [← nadd]; congr 1; omega
  rw [h4]
  exact Int32.add_sub_cancel _ _
theorem t10a {th : Int32} (h : ¬ th < 0) : inT (th / 10) = decide (¬ 7 < th / 10) := by
  obtain ⟨m, hm, _, e, _⟩ := i32_tdiv 10 (by decide) (by decide) h
  rw [show (10 : Int32) = nI 10 from rfl, e]
  unfold inT
  apply decide_eq_decide.mpr
  constructor
  · intro q z
    have := (nlt_iff (a := 7) (by decide) (by omega)).mp z
    have := (nlt_iff (b := 8) (by omega) (by decide)).mp q.2
    omega
  · intro q
    refine ⟨nI_pos' (by omega), (nlt_iff (b := 8) (by omega) (by decide)).mpr ?_⟩
    have := mt (nlt_iff (a := 7) (b := m / 10) (by decide) (by omega)).mpr q
    omega
theorem t10b {th : Int32} (h : ¬ th < 0) : inT (th - th / 10 * 10) = decide (¬ 7 < th - th / 10 * 10) := by
  obtain ⟨m, hm, _, _, e⟩ := i32_tdiv 10 (by decide) (by decide) h
  rw [show (10 : Int32) = nI 10 from rfl, e]
  have := Nat.mod_lt m (show 10 > 0 by decide)
  unfold inT
  apply decide_eq_decide.mpr
  constructor
  · intro q z
    have := (nlt_iff (a := 7) (by decide) (by omega)).mp z
    have := (nlt_iff (b := 8) (by omega) (by decide)).mp q.2
    omega
  · intro q
    refine ⟨nI_pos' (by omega), (nlt_iff (b := 8) (by omega) (by decide)).mpr ?_⟩
    have := mt (nlt_iff (a := 7) (b := m % 10) (by decide) (by omega)).mpr q
    omega
theorem wPers_eq (x : PW) (v : Int32) : wPers x v = if wrN v 0 255 = 0 then (if x.2.2.2.1 < 6 then 0 else -6) else wrN v 0 255 := by
  unfold wPers wrN
  by_cases h1 : v < 0
  · rw [if_pos h1, if_pos h1, if_neg (by decide)]
  · rw [if_neg h1, if_neg h1]
    by_cases h2 : 255 < v
    · rw [if_pos (Or.inl h2), if_pos h2, if_neg (by decide)]
    · rw [if_neg h2, if_pos rfl]
      by_cases h3 : x.2.2.2.1 < 6
      · rw [if_neg (fun z => z.elim h2 (fun q => q h3)), if_pos h3]
      · rw [if_pos (Or.inr h3), if_neg h3]
theorem day_lt {x : PW} (hW : WOK x) (h : ¬ x.2.2.2.2.2 = 999) : x.2.2.2.2.2 < 999 := by
  obtain ⟨d, hd, e⟩ := hW.2.2.2.2
  rw [e] at h ⊢
  exact (nlt_iff (b := 999) (by omega) (by decide)).mpr (by
    have := mt (ninj (a := d) (b := 999) (by omega) (by decide)).mpr h
    omega)
theorem tell_neg {x : PW} {nv s : Int32} {i : Nat} (hx : x.2.2.1 ≤ 10) (c : dLaw x nv s i < 0) : tell (dLaw x nv s i) = 99 := if_pos (dLaw_neg c hx)
theorem tell_pos {v : Int32} (c : ¬ v < 0) : tell v = v := if_neg (fun e => c (by rw [e]; decide))
theorem foldN_pair {α β : Type} (f : Nat → α → α) (g : Nat → β → β) (a : α) (b : β) : ∀ n, foldN (fun i (t : α × β) => (f i t.1, g i t.2)) (a, b) n = (foldN f a n, foldN g b n) := by
  intro n
  induction n with
  | zero => rfl
  | succ n ih => rw [foldN_s, ih]; rfl
theorem downF_pair {α β : Type} (f : Nat → α → α) (g : Nat → β → β) : ∀ n (a : α) (b : β), downF (fun i (t : α × β) => (f i t.1, g i t.2)) n (a, b) = (downF f n a, downF g n b) := by
  intro n
  induction n with
  | zero => intro a b; rfl
  | succ n ih => intro a b; rw [downF_s]; exact ih _ _
theorem foldN_more {α : Type} {f : Nat → α → α} {a : α} {m : Nat} : ∀ n, m ≤ n → (∀ j t, m ≤ j → j < n → f j t = t) → foldN f a n = foldN f a m := by
  intro n
  induction n with
  | zero => intro h _; rw [show m = 0 by omega]
  | succ n ih =>
    intro h hf
    by_cases e : m = n + 1
    · rw [e]
    · rw [foldN_s, hf n _ (by omega) (by omega)]
      exact ih (by omega) (fun j t h1 h2 => hf j t h1 (by omega))
theorem R10_and {a : Int32} (b : Int32) (ha : R10 a) : R10 (a &&& b) := by
  obtain ⟨m, hm, rfl⟩ := ha
  have e : nI m &&& b = nI (m &&& b.toBitVec.toNat) := by
    rw [← Int32.toBitVec_inj]
    show BitVec.ofNat 32 m &&& b.toBitVec = BitVec.ofNat 32 (m &&& b.toBitVec.toNat)
    rw [BitVec.ofNat_and]
    congr 1
    simp
  exact ⟨_, Nat.lt_of_le_of_lt Nat.and_le_left hm, e⟩
theorem and_or_r (a b c : Int32) : (a ||| b) &&& c = (a &&& c) ||| (b &&& c) := by
  apply i32_ext
  intro i hi
  simp only [Int32.toBitVec_and, Int32.toBitVec_or, BitVec.getLsbD_and, BitVec.getLsbD_or]
  cases a.toBitVec.getLsbD i <;> cases b.toBitVec.getLsbD i <;> cases c.toBitVec.getLsbD i <;> rfl
theorem firstN_new (x : PW) (hour has but : Int32) : ∀ n k j, k + n ≤ 10 → j < 10 → firstN x hour has but n k = nI j → btI but (nI j) = false := by
  intro n
  induction n with
  | zero =>
    intro k j _ hj h
    exact absurd h.symm (nI_ne9 (by omega))
  | succ n ih =>
    intro k j hk hj h
    rw [firstN_s] at h
    by_cases e : btI but (nI k) = false ∧ holdsF x k hour has = true
    · rw [if_pos e] at h
      rw [← h]
      exact e.1
    · rw [if_neg e] at h
      exact ih (k + 1) j (by omega) hj h
theorem firstF_new {x : PW} {hour has but : Int32} (hx : LOK x) {j : Nat} (hj : j < 10) (h : firstF x hour has but = nI j) : btI but (nI j) = false := firstN_new x hour has but x.2.2.1 0 j (by have := hx.1; omega) hj h
/-- hours in which nothing is done -/
def idF (f : FI) (k : Nat) (t : Int32 × Int32) : Int32 × Int32 := (if f k < 0 then t.1 + 1 else t.1, if f k < 0 then nI k else t.2)
theorem pop_bit : ∀ m, m < 1024 → ∀ k, k < 10 → btI (nI m) (nI k) = false → popN (m ||| 2 ^ k) = popN m + 1 := by decide +kernel
theorem btI_of_or {a b c : Int32} (h : btI (a ||| b) c = false) : btI a c = false ∧ btI b c = false := by
  unfold btI at *
  have h1 := of_decide_eq_false h
  have h2 : (a ||| b) &&& (1 <<< (c &&& 31)) = 0 := Classical.not_not.mp h1
  have h3 : a &&& (1 <<< (c &&& 31)) ||| b &&& (1 <<< (c &&& 31)) = 0 := by rw [← h2]; exact (and_or_r a b _).symm
  have h4 := Int32.or_eq_zero_iff.mp h3
  exact ⟨decide_eq_false (fun q => q h4.1), decide_eq_false (fun q => q h4.2)⟩
/-- laws done: how many, by the hours; none at or beyond the number of laws -/
theorem dayS_cnt {x : PW} (hx : LOK x) (nv s : Int32) : ∀ n, ∃ m k, m < 1024 ∧ k ≤ n ∧ (dayS x nv s n).1 = nI m ∧ popN m = k ∧ foldN (fun i (c : Nat) => if dLaw x nv s i < 0 then c else c + 1) 0 n = k ∧ ∀ j, x.2.2.1 ≤ j → j < 10 → btI (nI m) (nI j) = false := by
  intro n
  induction n with
  | zero => exact ⟨0, 0, by decide, Nat.le_refl 0, rfl, rfl, rfl, fun j _ hj => by
      have : ∀ j, j < 10 → btI (nI 0) (nI j) = false := by decide
      exact this j hj⟩
  | succ n ih =>
    obtain ⟨m, k, h1, h2, h3, h4, h5, h6⟩ := ih
    rw [dayS_s, foldN_s, h5]
    rcases firstF_or x (nI n) (dayS x nv s n).2 (nv ||| (dayS x nv s n).1) with e | ⟨j, hj, e⟩
    · have e2 : dLaw x nv s n = -9 := e
      rw [if_pos e2, if_pos (by rw [e2]; decide)]
      exact ⟨m, k, h1, by omega, h3, h4, rfl, h6⟩
    · have e2 : dLaw x nv s n = nI j := e
      have hj10 : j < 10 := by have := hx.1; omega
      have hb := (firstF_holds hx hj10 e)
      rw [e2, if_neg (nI_ne9 (by omega)), if_neg (nI_pos (by omega))]
      refine ⟨m ||| 2 ^ j, k + 1, Nat.or_lt_two_pow (n := 10) h1 (Nat.pow_lt_pow_right (by decide) hj10), by omega, ?_, ?_, rfl, ?_⟩
      · show (dayS x nv s n).1 ||| oneB (nI j) = _
        rw [h3, oneB_pow j hj10, nI_or]
      · rw [pop_bit m h1 j hj10 ?_, h4]
        have := firstF_new hx hj10 e
        rw [h3] at this
        exact (btI_of_or this).2
      · intro i hi1 hi2
        rw [← nI_or, ← oneB_pow j hj10]
        have q : ∀ a, a < 10 → ∀ b, b < 10 → ¬ a = b → btI (oneB (nI a)) (nI b) = false := by decide
        have q1 := q j hj10 i hi2 (by omega)
        have q2 := h6 i hi1 hi2
        unfold btI at *
        have q3 := Classical.not_not.mp (of_decide_eq_false q1)
        have q4 := Classical.not_not.mp (of_decide_eq_false q2)
        apply decide_eq_false
        intro z
        apply z
        rw [and_or_r, q3, q4]
        rfl
theorem id_cnt (f : FI) : ∀ n, ∀ c, foldN (fun i (c : Nat) => if f i < 0 then c else c + 1) 0 n = c → c ≤ n := by
  intro n
  induction n with
  | zero => intro c h; exact Nat.le_of_eq h.symm
  | succ n ih =>
    intro c h
    rw [foldN_s] at h
    have := ih _ rfl
    split at h <;> omega
theorem id_dn (f : FI) : ∀ n (a b : Int32), (downF (idF f) n (a, b)).1 = a + nI (n - foldN (fun i (c : Nat) => if f i < 0 then c else c + 1) 0 n) := by
  intro n
  induction n with
  | zero => intro a b; show a = a + nI 0; rw [nI_0, Int32.add_zero]
  | succ n ih =>
    intro a b
    rw [downF_s]
    unfold idF
    rw [show (fun k (t : Int32 × Int32) => (if f k < 0 then t.1 + 1 else t.1, if f k < 0 then nI k else t.2)) = idF f from rfl, ih, foldN_s]
    have h := id_cnt f n _ rfl
    by_cases e : f n < 0
    · rw [if_pos e, if_pos e, show n + 1 - foldN (fun i (c : Nat) => if f i < 0 then c else c + 1) 0 n = (n - foldN (fun i (c : Nat) => if f i < 0 then c else c + 1) 0 n) + 1 by omega, nI_succ, Int32.add_assoc, Int32.add_comm 1]
    · rw [if_neg e, if_neg e, Nat.add_sub_add_right]
theorem id_2 {f : FI} : ∀ n (a b : Int32), (downF (idF f) n (a, b)).2 = downF (fun k u => if f k < 0 then nI k else u) n b := by
  intro n
  induction n with
  | zero => intro a b; rfl
  | succ n ih => intro a b; rw [downF_s, downF_s]; exact ih _ _
theorem dn_congr {F G : Nat → Int32 → Int32} : ∀ n, (∀ k u, k < n → F k u = G k u) → ∀ a, downF F n a = downF G n a := by
  intro n
  induction n with
  | zero => intro _ a; rfl
  | succ n ih => intro h a; rw [downF_s, downF_s, h n a (by omega)]; exact ih (fun k u hk => h k u (by omega)) _
theorem idle_1 {x : PW} (hx : LOK x) (s : Int32) : (downF (idF (dLaw x 0 s)) 12 (0, -9)).1 = 12 - bitC (dDone x 0 s) := by
  obtain ⟨m, k, h1, h2, h3, h4, h5, _⟩ := dayS_cnt hx 0 s 12
  rw [id_dn, h5]
  show 0 + nI (12 - k) = 12 - bitC (dayS x 0 s 12).1
  rw [h3, (bitC_pop m h1).1, h4, Int32.zero_add]
  have : ∀ k, k < 13 → nI (12 - k) = 12 - nI k := by decide
  exact this k (by omega)
theorem idle_2 {x : PW} (hx : LOK x) (s : Int32) : (downF (idF (dLaw x 0 s)) 12 (0, -9)).2 = hourF (dLaw x 0 s) (-9) := by
  rw [id_2, ← hour_dn]
  refine dn_congr 12 (fun k u _ => ?_) (-9)
  unfold whF
  by_cases e : dLaw x 0 s k < 0
  · rw [if_pos e, if_pos (dLaw_neg e hx.1)]
  · rw [if_neg e, if_neg (fun q => e (by rw [q]; decide))]
/-- never, always -/
def evE (x : PW) : Int32 := if nI x.2.2.2.1 = 0 then 0 else allL x
def nvF (x : PW) (p : Nat) (t : Int32 × Int32) : Int32 × Int32 := (t.1 ||| dDone x 0 (x.2.1 p), t.2 &&& dDone x 0 (x.2.1 p))
theorem nv_12 (x : PW) (a b : Int32) (n : Nat) : foldN (nvF x) (a, b) n = (foldN (dsF x) a n, foldN (daF x) b n) := foldN_pair (dsF x) (daF x) a b n
theorem nv_DA {x : PW} (hp : x.2.2.2.1 ≤ 6) : foldN (daF x) (evE x) x.2.2.2.1 = DA x := by
  unfold DA evE
  by_cases e : x.2.2.2.1 = 0
  · rw [if_pos e, if_pos (by rw [e]; rfl), e]; rfl
  · rw [if_neg e, if_neg (nI_ne0 (by omega) (by omega))]
/-- the dearest law: either start -/
theorem dr_eq {x : PW} (hx : LOK x) (p : Int32) : (foldN (drF x p) (-9, 99) x.2.2.1).1 = (foldN (drF x p) (-9, 11) 10).1 := by
  have h1 : foldN (drF x p) (-9, 11) 10 = foldN (drF x p) (-9, 11) x.2.2.1 := foldN_more 10 hx.1 (fun j t h1 h2 => by
    unfold drF
    obtain ⟨m, k, q1, q2, q3, q4, q5, q6⟩ := dayS_cnt hx 0 p 12
    refine if_neg (fun z => ?_)
    have := q6 j h1 h2
    rw [show dDone x 0 p = nI m from q3, this] at z
    exact absurd z.1 (by decide))
  rw [h1]
  have key : ∀ n, (foldN (drF x p) (-9, 99) n = (-9, 99) ∧ foldN (drF x p) (-9, 11) n = (-9, 11)) ∨ foldN (drF x p) (-9, 99) n = foldN (drF x p) (-9, 11) n := by
    intro n
    induction n with
    | zero => exact Or.inl ⟨rfl, rfl⟩
    | succ n ih =>
      rw [foldN_s, foldN_s]
      rcases ih with ⟨a, b⟩ | a
      · rw [a, b]
        obtain ⟨e, hb⟩ := R10_pop (dDone_R hx (oneB (nI n)) p)
        have c1 : bitC (dDone x (oneB (nI n)) p) < 99 := by rw [e]; exact (nlt_iff (b := 99) (by omega) (by decide)).mpr (by omega)
        have c2 : bitC (dDone x (oneB (nI n)) p) < 11 := by rw [e]; exact (nlt_iff (b := 11) (by omega) (by decide)).mpr (by omega)
        unfold drF
        by_cases z : btI (dDone x 0 p) (nI n) = true
        · right
          rw [if_pos ⟨z, c1⟩, if_pos ⟨z, c2⟩]
        · left
          rw [if_neg (fun q => z q.1), if_neg (fun q => z q.1)]
          exact ⟨rfl, rfl⟩
      · right; rw [a]
  rcases key x.2.2.1 with ⟨a, b⟩ | a
  · rw [a, b]
  · rw [a]
theorem nvB_i {k : Nat} (hk : k < 10) : nvB (nI k) = oneB (nI k) := by
  have : ∀ k, k < 10 → nvB (nI k) = oneB (nI k) := by decide
  exact this k hk
def kyG (x : PW) (i : Nat) (t : Int32 × Int32) : Int32 × Int32 := if DT x (tbI (nI i)) < t.2 then (nI i, DT x (tbI (nI i))) else t
theorem foldN_front {α : Type} (F : Nat → α → α) (a : α) : ∀ n, foldN F a (n + 1) = foldN (fun i => F (i + 1)) (F 0 a) n := by
  intro n
  induction n with
  | zero => rfl
  | succ n ih => rw [foldN_s, ih, foldN_s]
theorem DT_lt {x : PW} (hx : LOK x) (hp : x.2.2.2.1 ≤ 6) (tk : Int32) : DT x tk < 999 := by
  have h := foldN_inv (dtF x tk) 0 (fun i u => ∃ m, m ≤ 10 * i ∧ u = nI m) ⟨0, by omega, rfl⟩ x.2.2.2.1 (fun i u _ hu => by
    obtain ⟨m, hm, rfl⟩ := hu
    obtain ⟨e, hb⟩ := R10_pop (dDone_R hx 0 (x.2.1 i &&& (tk ^^^ (-1))))
    refine ⟨m + opN (dDone x 0 (x.2.1 i &&& (tk ^^^ (-1)))), by omega, ?_⟩
    unfold dtF DN
    rw [e, nadd])
  obtain ⟨m, hm, e⟩ := h
  show foldN (dtF x tk) 0 x.2.2.2.1 < 999
  rw [e]
  exact (nlt_iff (b := 999) (by omega) (by decide)).mpr (by omega)
theorem ky_eq {x : PW} (hx : LOK x) (hp : x.2.2.2.1 ≤ 6) : foldN (kyG x) (0, 999) 8 = KY x := by
  rw [foldN_front]
  unfold KY
  have e : kyG x 0 (0, 999) = (0, DT x (tbI 0)) := if_pos (DT_lt hx hp _)
  rw [e]
  rfl
def ltF (x : PW) (p : Int32) (k : Nat) (f : Nat) (u : Int32) : Int32 := if btI (dDone (setP x k 1 (nI f)) 0 p) (nI k) = true then nI f else u
theorem lt_eq (x : PW) (p : Int32) (k : Nat) : ∀ n, foldN (ltF x p k) (-9) n = latN x p k n := by
  intro n
  induction n with
  | zero => rfl
  | succ n ih => rw [foldN_s, latN_s, ih]; rfl
theorem setP_back (x : PW) (k j : Nat) : setP x k j (x.1 (k * 4 + j)) = x := by
  unfold setP
  rw [up_same]
theorem ne_eq {x : PW} (hx : LOK x) (p l : Int32) : foldN (neF x p l) 0 10 = foldN (neF x p l) 0 x.2.2.1 :=
  foldN_more 10 hx.1 (fun j t h1 h2 => by
    unfold neF
    refine if_neg (fun z => ?_)
    have := of_decide_eq_true z.2.1
    have := (nlt_iff (by omega) (by have := hx.1; omega)).mp this.2
    omega)
def wwF (x : PW) (l : Int32) (i : Nat) (t : Int32 × Int32) : Int32 × Int32 := (wyF x l i t.1, fbF x 0 l i t.2)
theorem ww_eq (x : PW) (l a b : Int32) (n : Nat) : foldN (wwF x l) (a, b) n = (foldN (wyF x l) a n, foldN (fbF x 0 l) b n) := foldN_pair (wyF x l) (fbF x 0 l) a b n
def ehF (f : FI) (l : Int32) (i : Nat) (h : Nat) (t : Int32 × Int32) : Int32 × Int32 := if f h = l ∧ (t.1 < 0 ∨ nI h < t.1) then (nI h, nI i) else t
/-- the hours of one: the first that fits is what the other way finds -/
theorem eh_eq {x : PW} {l : Int32} {i : Nat} {t : Int32 × Int32} (ht : t.1 = -9 ∨ ∃ k, k < 12 ∧ t.1 = nI k) : foldN (ehF (dLaw x 0 (nI i)) l i) t 12 = eaF x l i t := by
  unfold eaF
  rcases first_or (fun h => decide (dLaw x 0 (nI i) h = l)) 12 with h | ⟨j, hj, h1, h2⟩
  · have h3 : ∀ j, j < 12 → ¬ dLaw x 0 (nI i) j = l := fun j hj => of_decide_eq_false (h j hj)
    rw [if_neg (fun z => z.1 (by unfold hourF; exact hourN_none 12 0 (fun q _ hq => h3 q (by omega))))]
    exact foldN_id (fun q hq => if_neg (fun z => h3 q hq z.1))
  · have h3 : ∀ q, q < j → ¬ dLaw x 0 (nI i) q = l := fun q hq => of_decide_eq_false (h2 q hq)
    have h4 : hourF (dLaw x 0 (nI i)) l = nI j := hourN_first (of_decide_eq_true h1) 12 0 (Nat.zero_le j) (by omega) (fun q _ hq => h3 q hq)
    rw [h4]
    have t9 : t.1 < 0 ↔ t.1 = -9 := by
      rcases ht with e | ⟨k, hk, e⟩
      · rw [e]; exact ⟨fun _ => rfl, fun _ => by decide⟩
      · rw [e]; exact ⟨fun z => absurd z (nI_pos (by omega)), fun z => absurd z (nI_ne9 (by omega))⟩
    have a1 : foldN (ehF (dLaw x 0 (nI i)) l i) t j = t := foldN_id (fun q hq => if_neg (fun z => h3 q hq z.1))
    have a2 : foldN (ehF (dLaw x 0 (nI i)) l i) t (j + 1) = if ¬ nI j = -9 ∧ (t.1 = -9 ∨ nI j < t.1) then (nI j, nI i) else t := by
      rw [foldN_s, a1]
      unfold ehF
      by_cases c : t.1 = -9 ∨ nI j < t.1
      · rw [if_pos ⟨of_decide_eq_true h1, c.imp t9.mpr id⟩, if_pos ⟨nI_ne9 (by omega), c⟩]
      · rw [if_neg (fun z => c (z.2.imp t9.mp id)), if_neg (fun z => c z.2)]
    have a3 : ∀ d, j + 1 + d ≤ 12 → foldN (ehF (dLaw x 0 (nI i)) l i) t (j + 1 + d) = foldN (ehF (dLaw x 0 (nI i)) l i) t (j + 1) := by
      intro d
      induction d with
      | zero => intro _; rfl
      | succ d ih =>
        intro hd
        rw [show j + 1 + (d + 1) = (j + 1 + d) + 1 by omega, foldN_s, ih (by omega), a2]
        unfold ehF
        by_cases c : ¬ nI j = -9 ∧ (t.1 = -9 ∨ nI j < t.1)
        · rw [if_pos c]
          refine if_neg (fun z => ?_)
          rcases z.2 with q | q
          · exact nI_pos (by omega) q
          · have := (nlt_iff (by omega) (by omega)).mp q
            omega
        · rw [if_neg c]
          refine if_neg (fun z => c ⟨nI_ne9 (by omega), ?_⟩)
          rcases z.2 with q | q
          · exact Or.inl (t9.mp q)
          · rcases ht with e | ⟨k, hk, e⟩
            · exact Or.inl e
            · right
              rw [e] at q ⊢
              have := (nlt_iff (by omega) (by omega)).mp q
              exact (nlt_iff (by omega) (by omega)).mpr (by omega)
    have := a3 (12 - (j + 1)) (by omega)
    rw [show j + 1 + (12 - (j + 1)) = 12 by omega] at this
    rw [this, a2]
set_option maxHeartbeats 4000000 in
set_option maxRecDepth 100000 in
theorem S_X10_lawOf (X : En) (l : Launch) {h : Hp} {x : PW} {c : RC} {z : RZ} (O28 : h 28 = some (rB x (-1) c z)) (hW : WOK x)  {l0 v : Int32} : Ct X l mX10_lawOf [aR 28 0, aI l0, aI v] h (QI (fun vr h2 => (rV (wLawOf x l0 v) (aLawOf x l0 v)) = vr ∧ ∃ (z1 : RZ), h2 (28) = some (rB x (-1) (rS (wLawOf x l0 v) c.1, c.2) z1) ∧ ∀ i, i ≠ 28 → h2 i = h i)) := by
  have hx := hW.1
  have hp := hW.2.1
  have h10 := hx.1
  have hf : ∀ i, i ≠ 28 → h i = h i := fun _ _ => rfl
  refine Ct.intro [some (aR 28 0), some (aI l0), some (aI v)] (by decide +kernel) rfl (Nat.le_of_ble_eq_true rfl) ?_
  refine A_aload_n 1 dX10_lawOf_0 rfl rfl rfl ?_
  refine A_iconst 2 (0) dX10_lawOf_1 rfl (by decide) ?_
  refine P_X10_9 5 dX10_lawOf_2 rfl fw_X10_78 O28 (fun h_1 nh_1 eh_1 => ?_)
  replace O28 := nh_1
  replace hf : ∀ i, i ≠ 28 → h_1 i = h i := fun i g0 => (eh_1 i g0).trans (hf i g0)
  try dsimp only at O28
  refine A_aload_n 6 dX10_lawOf_5 rfl rfl rfl ?_
  refine A_iload_n 7 dX10_lawOf_6 rfl rfl rfl ?_
  refine A_callVI 10 (S_X10_isLaw X l (by first | assumption | decide | omega | exact Ne.symm (by assumption)) (by first | assumption | decide | omega | exact Ne.symm (by assumption))) dX10_lawOf_7 rfl kX10_isLaw lk_X10_206 rfl O28 (by decide) rfl (Nat.le_of_ble_eq_true rfl) (fun v_2 h_2 qh_2 => ?_)
  obtain ⟨rfl, rfl⟩ := qh_2
  refine A_if_eq 25 13 dX10_lawOf_10 (by decide) rfl (fun c10 => ?_) (fun c10 => ?_)
  · skip
    try simp only [bI_0, bI_n0, Classical.not_not, Bool.not_eq_false, Bool.true_and, Bool.and_true, decide_eq_true_eq, decide_eq_false_iff_not, dayC_1, dayC_21, dayC_221, dayC_222, inI_1, inI_2, inI_3, inI_5, inI_11, inI_16] at c10
    refine A_aload_n 26 dX10_lawOf_25 rfl rfl rfl ?_
    refine A_aload_n 27 dX10_lawOf_26 rfl rfl rfl ?_
    refine A_iload_n 28 dX10_lawOf_27 rfl rfl rfl ?_
    refine A_callVI 31 (S_X10_isLaw X l (by first | assumption | decide | omega | exact Ne.symm (by assumption)) (by first | assumption | decide | omega | exact Ne.symm (by assumption))) dX10_lawOf_28 rfl kX10_isLaw lk_X10_206 rfl O28 (by decide) rfl (Nat.le_of_ble_eq_true rfl) (fun v_3 h_3 qh_3 => ?_)
    obtain ⟨rfl, rfl⟩ := qh_3
    refine A_if_eq 39 34 dX10_lawOf_31 (by decide) rfl (fun c31 => ?_) (fun c31 => ?_)
    · skip
      try simp only [bI_0, bI_n0, Classical.not_not, Bool.not_eq_false, Bool.true_and, Bool.and_true, decide_eq_true_eq, decide_eq_false_iff_not, dayC_1, dayC_21, dayC_221, dayC_222, inI_1, inI_2, inI_3, inI_5, inI_11, inI_16] at c31
      refine A_iconst 40 (-1) dX10_lawOf_39 rfl (by decide) ?_
      refine A_callVI 43 (S_X10_refuse_c X l (by first | assumption | decide | omega | exact Ne.symm (by assumption)) (by first | assumption | (unfold CD; decide))) dX10_lawOf_40 rfl kX10_refuse lk_X10_121 rfl O28 (by decide) rfl (Nat.le_of_ble_eq_true rfl) (fun v_4 h_4 qh_4 => ?_)
      obtain ⟨rfl, n0h_4, eh_4⟩ := qh_4
      replace O28 := n0h_4
      replace hf : ∀ i, i ≠ 28 → h_4 i = h i := fun i g0 => (eh_4 i g0).trans (hf i g0)
      have ew : wLawOf x l0 v = -1 := by
        first | (simp only [c10, c31, if_true, if_false, ite_true, ite_false, and_true, true_and, and_false, false_and, and_self, or_true, true_or, or_false, false_or, or_self, not_true_eq_false, not_false_eq_true, decide_true, decide_false, Bool.and_true, Bool.true_and, Bool.and_false, Bool.false_and, Bool.and_self, Bool.or_true, Bool.true_or, Bool.or_false, Bool.false_or, Bool.not_true, Bool.not_false, cond_true, cond_false, bI_t, bI_f, Bool.false_eq_true, Bool.true_eq_false, dayC_1, dayC_21, dayC_221, dayC_222, wLawOf, w01, wP, wPL, wP01, wL01, wRow, w01R, wAB, wNum, isP, isL]; done)
      refine A_iret dX10_lawOf_43 rfl ⟨_, rfl, (by rw [ew]; exact rV_n (by decide)), _, (by rw [ew]; first | (rw [rS_0]; exact O28) | exact O28), hf⟩
    · skip
      exact absurd (by rw [c10]; rfl) c31
  · skip
    try simp only [bI_0, bI_n0, Classical.not_not, Bool.not_eq_false, Bool.true_and, Bool.and_true, decide_eq_true_eq, decide_eq_false_iff_not, dayC_1, dayC_21, dayC_221, dayC_222, inI_1, inI_2, inI_3, inI_5, inI_11, inI_16] at c10
    obtain ⟨k_l0, rfl, hk_l0⟩ := inN_ex c10 (by omega)
    have cl_l0 : (nI k_l0).toNatClampNeg = k_l0 := nI_clamp (by omega)
    refine A_iload_n 14 dX10_lawOf_13 rfl rfl rfl ?_
    refine A_i2l 15 dX10_lawOf_14 rfl ?_
    refine A_lconst 16 (0) dX10_lawOf_15 rfl (by decide) ?_
    refine A_ldc2_w 19 _ dX10_lawOf_16 rfl cn_X10_209 ?_
    refine A_callSI 22 (S_X10_in X l) dX10_lawOf_19 rfl kX10_in lk_X10_84 rfl (by decide) rfl (Nat.le_of_ble_eq_true rfl) (fun v_5 h_5 qh_5 => ?_)
    obtain ⟨rfl, rfl⟩ := qh_5
    refine A_if_ne 44 25 dX10_lawOf_22 (by decide) rfl (fun c22 => ?_) (fun c22 => ?_)
    · skip
      try simp only [bI_0, bI_n0, Classical.not_not, Bool.not_eq_false, Bool.true_and, Bool.and_true, decide_eq_true_eq, decide_eq_false_iff_not, dayC_1, dayC_21, dayC_221, dayC_222, inI_1, inI_2, inI_3, inI_5, inI_11, inI_16] at c22
      refine A_iload_n 45 dX10_lawOf_44 rfl rfl rfl ?_
      refine A_if_ne 57 48 dX10_lawOf_45 (by decide) rfl (fun c45 => ?_) (fun c45 => ?_)
      · skip
        try simp only [bI_0, bI_n0, Classical.not_not, Bool.not_eq_false, Bool.true_and, Bool.and_true, decide_eq_true_eq, decide_eq_false_iff_not, dayC_1, dayC_21, dayC_221, dayC_222, inI_1, inI_2, inI_3, inI_5, inI_11, inI_16] at c45
        refine A_iload_n 58 dX10_lawOf_57 rfl rfl rfl ?_
        refine A_iconst 59 (1) dX10_lawOf_58 rfl (by decide) ?_
        refine A_icmp_ne 71 62 dX10_lawOf_59 (by decide) rfl (fun c59 => ?_) (fun c59 => ?_)
        · skip
          try simp only [bI_0, bI_n0, Classical.not_not, Bool.not_eq_false, Bool.true_and, Bool.and_true, decide_eq_true_eq, decide_eq_false_iff_not, dayC_1, dayC_21, dayC_221, dayC_222, inI_1, inI_2, inI_3, inI_5, inI_11, inI_16] at c59
          refine A_iload_n 72 dX10_lawOf_71 rfl rfl rfl ?_
          refine A_iconst 73 (2) dX10_lawOf_72 rfl (by decide) ?_
          refine A_icmp_ne 85 76 dX10_lawOf_73 (by decide) rfl (fun c73 => ?_) (fun c73 => ?_)
          · skip
            try simp only [bI_0, bI_n0, Classical.not_not, Bool.not_eq_false, Bool.true_and, Bool.and_true, decide_eq_true_eq, decide_eq_false_iff_not, dayC_1, dayC_21, dayC_221, dayC_222, inI_1, inI_2, inI_3, inI_5, inI_11, inI_16] at c73
            refine A_aload_n 86 dX10_lawOf_85 rfl rfl rfl ?_
            refine A_getfield 89 dX10_lawOf_86 rfl f_X10_19 O28 rfl ?_
            refine A_iload_n 90 dX10_lawOf_89 rfl rfl rfl ?_
            refine A_iaload 91 dX10_lawOf_90 rfl O28 rfl (by first | assumption | exact ix_nI (by omega) (by decide) | exact ix_lit _ rfl (by omega) (by decide) | exact ix_lit _ rfl (by decide) (by decide)) ?_
            try dsimp only
            have ew : wLawOf x (nI k_l0) v = 0 := by
              first | (simp only [c10, cl_l0, c22, c45, c59, c73, if_true, if_false, ite_true, ite_false, and_true, true_and, and_false, false_and, and_self, or_true, true_or, or_false, false_or, or_self, not_true_eq_false, not_false_eq_true, decide_true, decide_false, Bool.and_true, Bool.true_and, Bool.and_false, Bool.false_and, Bool.and_self, Bool.or_true, Bool.true_or, Bool.or_false, Bool.false_or, Bool.not_true, Bool.not_false, cond_true, cond_false, bI_t, bI_f, Bool.false_eq_true, Bool.true_eq_false, dayC_1, dayC_21, dayC_221, dayC_222, wLawOf, w01, wP, wPL, wP01, wL01, wRow, w01R, wAB, wNum, isP, isL]; done)
            refine A_iret dX10_lawOf_91 rfl ⟨_, rfl, (by rw [ew, rV_0]; unfold aLawOf; rw [cl_l0]; first | (rw [c45]; rfl) | (rw [c59]; rfl) | (rw [c73]; rfl) | (rw [v3_of c22 c45 c59 c73]; rfl)), _, (by rw [ew]; first | (rw [rS_0]; exact O28) | exact O28), hf⟩
          · skip
            try simp only [bI_0, bI_n0, Classical.not_not, Bool.not_eq_false, Bool.true_and, Bool.and_true, decide_eq_true_eq, decide_eq_false_iff_not, dayC_1, dayC_21, dayC_221, dayC_222, inI_1, inI_2, inI_3, inI_5, inI_11, inI_16] at c73
            refine A_aload_n 77 dX10_lawOf_76 rfl rfl rfl ?_
            refine A_getfield 80 dX10_lawOf_77 rfl f_X10_16 O28 rfl ?_
            refine A_iload_n 81 dX10_lawOf_80 rfl rfl rfl ?_
            refine A_iaload 82 dX10_lawOf_81 rfl O28 rfl (by first | assumption | exact ix_nI (by omega) (by decide) | exact ix_lit _ rfl (by omega) (by decide) | exact ix_lit _ rfl (by decide) (by decide)) ?_
            try dsimp only
            refine A_goto 91 dX10_lawOf_82 (by decide) ?_
            have ew : wLawOf x (nI k_l0) v = 0 := by
              first | (simp only [c10, cl_l0, c22, c45, c59, c73, if_true, if_false, ite_true, ite_false, and_true, true_and, and_false, false_and, and_self, or_true, true_or, or_false, false_or, or_self, not_true_eq_false, not_false_eq_true, decide_true, decide_false, Bool.and_true, Bool.true_and, Bool.and_false, Bool.false_and, Bool.and_self, Bool.or_true, Bool.true_or, Bool.or_false, Bool.false_or, Bool.not_true, Bool.not_false, cond_true, cond_false, bI_t, bI_f, Bool.false_eq_true, Bool.true_eq_false, dayC_1, dayC_21, dayC_221, dayC_222, wLawOf, w01, wP, wPL, wP01, wL01, wRow, w01R, wAB, wNum, isP, isL]; done) | (simp only [c10, cl_l0, c22, c45, c59, eq_true c73, if_true, if_false, ite_true, ite_false, and_true, true_and, and_false, false_and, and_self, or_true, true_or, or_false, false_or, or_self, not_true_eq_false, not_false_eq_true, decide_true, decide_false, Bool.and_true, Bool.true_and, Bool.and_false, Bool.false_and, Bool.and_self, Bool.or_true, Bool.true_or, Bool.or_false, Bool.false_or, Bool.not_true, Bool.not_false, cond_true, cond_false, bI_t, bI_f, Bool.false_eq_true, Bool.true_eq_false, dayC_1, dayC_21, dayC_221, dayC_222, wLawOf, w01, wP, wPL, wP01, wL01, wRow, w01R, wAB, wNum, isP, isL]; done)
            refine A_iret dX10_lawOf_91 rfl ⟨_, rfl, (by rw [ew, rV_0]; unfold aLawOf; rw [cl_l0]; first | (rw [c45]; rfl) | (rw [c59]; rfl) | (rw [c73]; rfl) | (rw [v3_of c22 c45 c59 c73]; rfl)), _, (by rw [ew]; first | (rw [rS_0]; exact O28) | exact O28), hf⟩
        · skip
          try simp only [bI_0, bI_n0, Classical.not_not, Bool.not_eq_false, Bool.true_and, Bool.and_true, decide_eq_true_eq, decide_eq_false_iff_not, dayC_1, dayC_21, dayC_221, dayC_222, inI_1, inI_2, inI_3, inI_5, inI_11, inI_16] at c59
          refine A_aload_n 63 dX10_lawOf_62 rfl rfl rfl ?_
          refine A_getfield 66 dX10_lawOf_63 rfl f_X10_13 O28 rfl ?_
          refine A_iload_n 67 dX10_lawOf_66 rfl rfl rfl ?_
          refine A_iaload 68 dX10_lawOf_67 rfl O28 rfl (by first | assumption | exact ix_nI (by omega) (by decide) | exact ix_lit _ rfl (by omega) (by decide) | exact ix_lit _ rfl (by decide) (by decide)) ?_
          try dsimp only
          refine A_goto 91 dX10_lawOf_68 (by decide) ?_
          have ew : wLawOf x (nI k_l0) v = 0 := by
            first | (simp only [c10, cl_l0, c22, c45, c59, if_true, if_false, ite_true, ite_false, and_true, true_and, and_false, false_and, and_self, or_true, true_or, or_false, false_or, or_self, not_true_eq_false, not_false_eq_true, decide_true, decide_false, Bool.and_true, Bool.true_and, Bool.and_false, Bool.false_and, Bool.and_self, Bool.or_true, Bool.true_or, Bool.or_false, Bool.false_or, Bool.not_true, Bool.not_false, cond_true, cond_false, bI_t, bI_f, Bool.false_eq_true, Bool.true_eq_false, dayC_1, dayC_21, dayC_221, dayC_222, wLawOf, w01, wP, wPL, wP01, wL01, wRow, w01R, wAB, wNum, isP, isL]; done) | (simp only [c10, cl_l0, c22, c45, eq_true c59, if_true, if_false, ite_true, ite_false, and_true, true_and, and_false, false_and, and_self, or_true, true_or, or_false, false_or, or_self, not_true_eq_false, not_false_eq_true, decide_true, decide_false, Bool.and_true, Bool.true_and, Bool.and_false, Bool.false_and, Bool.and_self, Bool.or_true, Bool.true_or, Bool.or_false, Bool.false_or, Bool.not_true, Bool.not_false, cond_true, cond_false, bI_t, bI_f, Bool.false_eq_true, Bool.true_eq_false, dayC_1, dayC_21, dayC_221, dayC_222, wLawOf, w01, wP, wPL, wP01, wL01, wRow, w01R, wAB, wNum, isP, isL]; done)
          refine A_iret dX10_lawOf_91 rfl ⟨_, rfl, (by rw [ew, rV_0]; unfold aLawOf; rw [cl_l0]; first | (rw [c45]; rfl) | (rw [c59]; rfl) | (rw [c73]; rfl) | (rw [v3_of c22 c45 c59 c73]; rfl)), _, (by rw [ew]; first | (rw [rS_0]; exact O28) | exact O28), hf⟩
      · skip
        try simp only [bI_0, bI_n0, Classical.not_not, Bool.not_eq_false, Bool.true_and, Bool.and_true, decide_eq_true_eq, decide_eq_false_iff_not, dayC_1, dayC_21, dayC_221, dayC_222, inI_1, inI_2, inI_3, inI_5, inI_11, inI_16] at c45
        refine A_aload_n 49 dX10_lawOf_48 rfl rfl rfl ?_
        refine A_getfield 52 dX10_lawOf_49 rfl f_X10_7 O28 rfl ?_
        refine A_iload_n 53 dX10_lawOf_52 rfl rfl rfl ?_
        refine A_iaload 54 dX10_lawOf_53 rfl O28 rfl (by first | assumption | exact ix_nI (by omega) (by decide) | exact ix_lit _ rfl (by omega) (by decide) | exact ix_lit _ rfl (by decide) (by decide)) ?_
        try dsimp only
        refine A_goto 91 dX10_lawOf_54 (by decide) ?_
        have ew : wLawOf x (nI k_l0) v = 0 := by
          first | (simp only [c10, cl_l0, c22, c45, if_true, if_false, ite_true, ite_false, and_true, true_and, and_false, false_and, and_self, or_true, true_or, or_false, false_or, or_self, not_true_eq_false, not_false_eq_true, decide_true, decide_false, Bool.and_true, Bool.true_and, Bool.and_false, Bool.false_and, Bool.and_self, Bool.or_true, Bool.true_or, Bool.or_false, Bool.false_or, Bool.not_true, Bool.not_false, cond_true, cond_false, bI_t, bI_f, Bool.false_eq_true, Bool.true_eq_false, dayC_1, dayC_21, dayC_221, dayC_222, wLawOf, w01, wP, wPL, wP01, wL01, wRow, w01R, wAB, wNum, isP, isL]; done) | (simp only [c10, cl_l0, c22, eq_true c45, if_true, if_false, ite_true, ite_false, and_true, true_and, and_false, false_and, and_self, or_true, true_or, or_false, false_or, or_self, not_true_eq_false, not_false_eq_true, decide_true, decide_false, Bool.and_true, Bool.true_and, Bool.and_false, Bool.false_and, Bool.and_self, Bool.or_true, Bool.true_or, Bool.or_false, Bool.false_or, Bool.not_true, Bool.not_false, cond_true, cond_false, bI_t, bI_f, Bool.false_eq_true, Bool.true_eq_false, dayC_1, dayC_21, dayC_221, dayC_222, wLawOf, w01, wP, wPL, wP01, wL01, wRow, w01R, wAB, wNum, isP, isL]; done)
        refine A_iret dX10_lawOf_91 rfl ⟨_, rfl, (by rw [ew, rV_0]; unfold aLawOf; rw [cl_l0]; first | (rw [c45]; rfl) | (rw [c59]; rfl) | (rw [c73]; rfl) | (rw [v3_of c22 c45 c59 c73]; rfl)), _, (by rw [ew]; first | (rw [rS_0]; exact O28) | exact O28), hf⟩
    · skip
      try simp only [bI_0, bI_n0, Classical.not_not, Bool.not_eq_false, Bool.true_and, Bool.and_true, decide_eq_true_eq, decide_eq_false_iff_not, dayC_1, dayC_21, dayC_221, dayC_222, inI_1, inI_2, inI_3, inI_5, inI_11, inI_16] at c22
      refine A_aload_n 26 dX10_lawOf_25 rfl rfl rfl ?_
      refine A_aload_n 27 dX10_lawOf_26 rfl rfl rfl ?_
      refine A_iload_n 28 dX10_lawOf_27 rfl rfl rfl ?_
      refine A_callVI 31 (S_X10_isLaw X l (by first | assumption | decide | omega | exact Ne.symm (by assumption)) (by first | assumption | decide | omega | exact Ne.symm (by assumption))) dX10_lawOf_28 rfl kX10_isLaw lk_X10_206 rfl O28 (by decide) rfl (Nat.le_of_ble_eq_true rfl) (fun v_6 h_6 qh_6 => ?_)
      obtain ⟨rfl, rfl⟩ := qh_6
      refine A_if_eq 39 34 dX10_lawOf_31 (by decide) rfl (fun c31 => ?_) (fun c31 => ?_)
      · skip
        rw [c10] at c31
        exact absurd c31 (by decide)
      · skip
        try simp only [bI_0, bI_n0, Classical.not_not, Bool.not_eq_false, Bool.true_and, Bool.and_true, decide_eq_true_eq, decide_eq_false_iff_not, dayC_1, dayC_21, dayC_221, dayC_222, inI_1, inI_2, inI_3, inI_5, inI_11, inI_16] at c31
        refine A_bipush 36 (-2) dX10_lawOf_34 rfl (by decide) ?_
        refine A_goto 40 dX10_lawOf_36 (by decide) ?_
        refine A_callVI 43 (S_X10_refuse_c X l (by first | assumption | decide | omega | exact Ne.symm (by assumption)) (by first | assumption | (unfold CD; decide))) dX10_lawOf_40 rfl kX10_refuse lk_X10_121 rfl O28 (by decide) rfl (Nat.le_of_ble_eq_true rfl) (fun v_7 h_7 qh_7 => ?_)
        obtain ⟨rfl, n0h_7, eh_7⟩ := qh_7
        replace O28 := n0h_7
        replace hf : ∀ i, i ≠ 28 → h_7 i = h i := fun i g0 => (eh_7 i g0).trans (hf i g0)
        have ew : wLawOf x (nI k_l0) v = -2 := by
          first | (simp only [c10, cl_l0, c22, c31, if_true, if_false, ite_true, ite_false, and_true, true_and, and_false, false_and, and_self, or_true, true_or, or_false, false_or, or_self, not_true_eq_false, not_false_eq_true, decide_true, decide_false, Bool.and_true, Bool.true_and, Bool.and_false, Bool.false_and, Bool.and_self, Bool.or_true, Bool.true_or, Bool.or_false, Bool.false_or, Bool.not_true, Bool.not_false, cond_true, cond_false, bI_t, bI_f, Bool.false_eq_true, Bool.true_eq_false, dayC_1, dayC_21, dayC_221, dayC_222, wLawOf, w01, wP, wPL, wP01, wL01, wRow, w01R, wAB, wNum, isP, isL]; done)
        refine A_iret dX10_lawOf_43 rfl ⟨_, rfl, (by rw [ew]; exact rV_n (by decide)), _, (by rw [ew]; first | (rw [rS_0]; exact O28) | exact O28), hf⟩
set_option maxHeartbeats 4000000 in
set_option maxRecDepth 100000 in
theorem S_X10_law (X : En) (l : Launch) {h : Hp} {x : PW} {c : RC} {z : RZ} (O28 : h 28 = some (rB x (-1) c z)) (hW : WOK x)  {k f th : Int32} : Ct X l mX10_law [aR 28 0, aI k, aI f, aI th] h (QI (fun vr h2 => (rV (wLaw x k f th) (nI x.2.2.1)) = vr ∧ ∃ (z1 : RZ), h2 (28) = some (rB (ifW (wLaw x k f th) (addL x k f (th / 10) (th - th / 10 * 10)) x) (-1) (rS (wLaw x k f th) c.1, c.2.1, c.2.2.1, c.2.2.2.1, c.2.2.2.2.1, c.2.2.2.2.2.1, ifW (wLaw x k f th) 0 c.2.2.2.2.2.2.1, c.2.2.2.2.2.2.2) z1) ∧ ∀ i, i ≠ 28 → h2 i = h i)) := by
  have hx := hW.1
  have hp := hW.2.1
  have h10 := hx.1
  have hf : ∀ i, i ≠ 28 → h i = h i := fun _ _ => rfl
  refine Ct.intro [some (aR 28 0), some (aI k), some (aI f), some (aI th), none] (by decide +kernel) rfl (Nat.le_of_ble_eq_true rfl) ?_
  refine A_aload_n 1 dX10_law_0 rfl rfl rfl ?_
  refine A_iconst 2 (0) dX10_law_1 rfl (by decide) ?_
  refine P_X10_9 5 dX10_law_2 rfl fw_X10_78 O28 (fun h_1 nh_1 eh_1 => ?_)
  replace O28 := nh_1
  replace hf : ∀ i, i ≠ 28 → h_1 i = h i := fun i g0 => (eh_1 i g0).trans (hf i g0)
  try dsimp only at O28
  refine A_iconst 6 (0) dX10_law_5 rfl (by decide) ?_
  refine A_istore 8 dX10_law_6 rfl (by decide) (by first | exact (ast_s (ast_s (ast_s (ast_1 rfl)))) | exact (ast_s (ast_s (ast_s ast_k)))) ?_
  refine A_iload_n 9 dX10_law_8 rfl rfl rfl ?_
  refine A_i2l 10 dX10_law_9 rfl ?_
  refine A_lconst 11 (0) dX10_law_10 rfl (by decide) ?_
  refine A_ldc2_w 14 _ dX10_law_11 rfl cn_X10_211 ?_
  refine A_callSI 17 (S_X10_in X l) dX10_law_14 rfl kX10_in lk_X10_84 rfl (by decide) rfl (Nat.le_of_ble_eq_true rfl) (fun v_2 h_2 qh_2 => ?_)
  obtain ⟨rfl, rfl⟩ := qh_2
  refine A_if_ne 27 20 dX10_law_17 (by decide) rfl (fun c17 => ?_) (fun c17 => ?_)
  · skip
    try simp only [bI_0, bI_n0, Classical.not_not, Bool.not_eq_false, Bool.true_and, Bool.and_true, decide_eq_true_eq, decide_eq_false_iff_not, dayC_1, dayC_21, dayC_221, dayC_222, inI_1, inI_2, inI_3, inI_5, inI_11, inI_16] at c17
    refine A_iload_n 28 dX10_law_27 rfl rfl rfl ?_
    refine A_if_lt 35 31 dX10_law_28 (by decide) rfl (fun c28 => ?_) (fun c28 => ?_)
    · skip
      try simp only [bI_0, bI_n0, Classical.not_not, Bool.not_eq_false, Bool.true_and, Bool.and_true, decide_eq_true_eq, decide_eq_false_iff_not, dayC_1, dayC_21, dayC_221, dayC_222, inI_1, inI_2, inI_3, inI_5, inI_11, inI_16] at c28
      have n28 := Int32.not_le.mpr c28
      refine A_bipush 37 (-4) dX10_law_35 rfl (by decide) ?_
      refine A_istore 39 dX10_law_37 rfl (by decide) (by first | exact (ast_s (ast_s (ast_s (ast_1 rfl)))) | exact (ast_s (ast_s (ast_s ast_k)))) ?_
      refine A_goto 79 dX10_law_39 (by decide) ?_
      refine A_iload 81 dX10_law_79 rfl rfl ?_
      refine A_if_ge 91 84 dX10_law_81 (by decide) rfl (fun c81 => ?_) (fun c81 => ?_)
      · skip
        exact absurd c81 (by decide)
      · skip
        refine A_aload_n 85 dX10_law_84 rfl rfl rfl ?_
        refine A_iload 87 dX10_law_85 rfl rfl ?_
        refine A_callVI 90 (S_X10_refuse_c X l (by first | assumption | decide | omega | exact Ne.symm (by assumption)) (by first | assumption | (unfold CD; decide))) dX10_law_87 rfl kX10_refuse lk_X10_121 rfl O28 (by decide) rfl (Nat.le_of_ble_eq_true rfl) (fun v_3 h_3 qh_3 => ?_)
        obtain ⟨rfl, n0h_3, eh_3⟩ := qh_3
        replace O28 := n0h_3
        replace hf : ∀ i, i ≠ 28 → h_3 i = h i := fun i g0 => (eh_3 i g0).trans (hf i g0)
        have ew : wLaw x k f th = -4 := by
          first | (simp only [c17, c28, n28, if_true, if_false, ite_true, ite_false, and_true, true_and, and_false, false_and, and_self, or_true, true_or, or_false, false_or, or_self, not_true_eq_false, not_false_eq_true, decide_true, decide_false, Bool.and_true, Bool.true_and, Bool.and_false, Bool.false_and, Bool.and_self, Bool.or_true, Bool.true_or, Bool.or_false, Bool.false_or, Bool.not_true, Bool.not_false, cond_true, cond_false, bI_t, bI_f, Bool.false_eq_true, Bool.true_eq_false, dayC_1, dayC_21, dayC_221, dayC_222, wLaw, w01, wP, wPL, wP01, wL01, wRow, w01R, wAB, wNum, isP, isL]; done)
        refine A_iret dX10_law_90 rfl ⟨_, rfl, (by rw [ew]; exact rV_n (by decide)), _, (by rw [ew]; simp only [ifW_0, ifW_1, ifW_2, ifW_3, ifW_4, ifW_6]; first | (rw [rS_0]; exact O28) | exact O28), hf⟩
    · skip
      try simp only [bI_0, bI_n0, Classical.not_not, Bool.not_eq_false, Bool.true_and, Bool.and_true, decide_eq_true_eq, decide_eq_false_iff_not, dayC_1, dayC_21, dayC_221, dayC_222, inI_1, inI_2, inI_3, inI_5, inI_11, inI_16] at c28
      have n28 := Int32.not_lt.mp c28
      refine A_iload_n 32 dX10_law_31 rfl rfl rfl ?_
      refine A_if_ge 42 35 dX10_law_32 (by decide) rfl (fun c32 => ?_) (fun c32 => ?_)
      · skip
        try simp only [bI_0, bI_n0, Classical.not_not, Bool.not_eq_false, Bool.true_and, Bool.and_true, decide_eq_true_eq, decide_eq_false_iff_not, dayC_1, dayC_21, dayC_221, dayC_222, inI_1, inI_2, inI_3, inI_5, inI_11, inI_16] at c32
        have n32 := c32
        replace c32 := Int32.not_lt.mpr c32
        have cl_a := t10a c32
        have cl_b := t10b c32
        refine A_iload_n 43 dX10_law_42 rfl rfl rfl ?_
        refine A_bipush 45 (9) dX10_law_43 rfl (by decide) ?_
        refine A_icmp_gt 75 48 dX10_law_45 (by decide) rfl (fun c45 => ?_) (fun c45 => ?_)
        · skip
          try simp only [bI_0, bI_n0, Classical.not_not, Bool.not_eq_false, Bool.true_and, Bool.and_true, decide_eq_true_eq, decide_eq_false_iff_not, dayC_1, dayC_21, dayC_221, dayC_222, inI_1, inI_2, inI_3, inI_5, inI_11, inI_16] at c45
          have n45 := Int32.not_le.mpr c45
          refine A_bipush 77 (-6) dX10_law_75 rfl (by decide) ?_
          refine A_istore 79 dX10_law_77 rfl (by decide) (by first | exact (ast_s (ast_s (ast_s (ast_1 rfl)))) | exact (ast_s (ast_s (ast_s ast_k)))) ?_
          refine A_iload 81 dX10_law_79 rfl rfl ?_
          refine A_if_ge 91 84 dX10_law_81 (by decide) rfl (fun c81 => ?_) (fun c81 => ?_)
          · skip
            exact absurd c81 (by decide)
          · skip
            refine A_aload_n 85 dX10_law_84 rfl rfl rfl ?_
            refine A_iload 87 dX10_law_85 rfl rfl ?_
            refine A_callVI 90 (S_X10_refuse_c X l (by first | assumption | decide | omega | exact Ne.symm (by assumption)) (by first | assumption | (unfold CD; decide))) dX10_law_87 rfl kX10_refuse lk_X10_121 rfl O28 (by decide) rfl (Nat.le_of_ble_eq_true rfl) (fun v_4 h_4 qh_4 => ?_)
            obtain ⟨rfl, n0h_4, eh_4⟩ := qh_4
            replace O28 := n0h_4
            replace hf : ∀ i, i ≠ 28 → h_4 i = h i := fun i g0 => (eh_4 i g0).trans (hf i g0)
            have ew : wLaw x k f th = -6 := by
              first | (simp only [c17, c28, n28, c32, n32, cl_a, cl_b, c45, n45, if_true, if_false, ite_true, ite_false, and_true, true_and, and_false, false_and, and_self, or_true, true_or, or_false, false_or, or_self, not_true_eq_false, not_false_eq_true, decide_true, decide_false, Bool.and_true, Bool.true_and, Bool.and_false, Bool.false_and, Bool.and_self, Bool.or_true, Bool.true_or, Bool.or_false, Bool.false_or, Bool.not_true, Bool.not_false, cond_true, cond_false, bI_t, bI_f, Bool.false_eq_true, Bool.true_eq_false, dayC_1, dayC_21, dayC_221, dayC_222, wLaw, w01, wP, wPL, wP01, wL01, wRow, w01R, wAB, wNum, isP, isL]; done)
            refine A_iret dX10_law_90 rfl ⟨_, rfl, (by rw [ew]; exact rV_n (by decide)), _, (by rw [ew]; simp only [ifW_0, ifW_1, ifW_2, ifW_3, ifW_4, ifW_6]; first | (rw [rS_0]; exact O28) | exact O28), hf⟩
        · skip
          try simp only [bI_0, bI_n0, Classical.not_not, Bool.not_eq_false, Bool.true_and, Bool.and_true, decide_eq_true_eq, decide_eq_false_iff_not, dayC_1, dayC_21, dayC_221, dayC_222, inI_1, inI_2, inI_3, inI_5, inI_11, inI_16] at c45
          have n45 := Int32.not_lt.mp c45
          refine A_iload_n 49 dX10_law_48 rfl rfl rfl ?_
          refine A_bipush 51 (10) dX10_law_49 rfl (by decide) ?_
          refine A_idiv 52 dX10_law_51 rfl (by decide) ?_
          refine A_bipush 54 (7) dX10_law_52 rfl (by decide) ?_
          refine A_icmp_gt 75 57 dX10_law_54 (by decide) rfl (fun c54 => ?_) (fun c54 => ?_)
          · skip
            try simp only [bI_0, bI_n0, Classical.not_not, Bool.not_eq_false, Bool.true_and, Bool.and_true, decide_eq_true_eq, decide_eq_false_iff_not, dayC_1, dayC_21, dayC_221, dayC_222, inI_1, inI_2, inI_3, inI_5, inI_11, inI_16] at c54
            have n54 := Int32.not_le.mpr c54
            refine A_bipush 77 (-6) dX10_law_75 rfl (by decide) ?_
            refine A_istore 79 dX10_law_77 rfl (by decide) (by first | exact (ast_s (ast_s (ast_s (ast_1 rfl)))) | exact (ast_s (ast_s (ast_s ast_k)))) ?_
            refine A_iload 81 dX10_law_79 rfl rfl ?_
            refine A_if_ge 91 84 dX10_law_81 (by decide) rfl (fun c81 => ?_) (fun c81 => ?_)
            · skip
              exact absurd c81 (by decide)
            · skip
              refine A_aload_n 85 dX10_law_84 rfl rfl rfl ?_
              refine A_iload 87 dX10_law_85 rfl rfl ?_
              refine A_callVI 90 (S_X10_refuse_c X l (by first | assumption | decide | omega | exact Ne.symm (by assumption)) (by first | assumption | (unfold CD; decide))) dX10_law_87 rfl kX10_refuse lk_X10_121 rfl O28 (by decide) rfl (Nat.le_of_ble_eq_true rfl) (fun v_5 h_5 qh_5 => ?_)
              obtain ⟨rfl, n0h_5, eh_5⟩ := qh_5
              replace O28 := n0h_5
              replace hf : ∀ i, i ≠ 28 → h_5 i = h i := fun i g0 => (eh_5 i g0).trans (hf i g0)
              have ew : wLaw x k f th = -6 := by
                first | (simp only [c17, c28, n28, c32, n32, cl_a, cl_b, c45, n45, c54, n54, if_true, if_false, ite_true, ite_false, and_true, true_and, and_false, false_and, and_self, or_true, true_or, or_false, false_or, or_self, not_true_eq_false, not_false_eq_true, decide_true, decide_false, Bool.and_true, Bool.true_and, Bool.and_false, Bool.false_and, Bool.and_self, Bool.or_true, Bool.true_or, Bool.or_false, Bool.false_or, Bool.not_true, Bool.not_false, cond_true, cond_false, bI_t, bI_f, Bool.false_eq_true, Bool.true_eq_false, dayC_1, dayC_21, dayC_221, dayC_222, wLaw, w01, wP, wPL, wP01, wL01, wRow, w01R, wAB, wNum, isP, isL]; done)
              refine A_iret dX10_law_90 rfl ⟨_, rfl, (by rw [ew]; exact rV_n (by decide)), _, (by rw [ew]; simp only [ifW_0, ifW_1, ifW_2, ifW_3, ifW_4, ifW_6]; first | (rw [rS_0]; exact O28) | exact O28), hf⟩
          · skip
            try simp only [bI_0, bI_n0, Classical.not_not, Bool.not_eq_false, Bool.true_and, Bool.and_true, decide_eq_true_eq, decide_eq_false_iff_not, dayC_1, dayC_21, dayC_221, dayC_222, inI_1, inI_2, inI_3, inI_5, inI_11, inI_16] at c54
            have n54 := Int32.not_lt.mp c54
            refine A_iload_n 58 dX10_law_57 rfl rfl rfl ?_
            refine A_bipush 60 (10) dX10_law_58 rfl (by decide) ?_
            refine A_irem 61 dX10_law_60 rfl (by decide) ?_
            refine A_bipush 63 (7) dX10_law_61 rfl (by decide) ?_
            refine A_icmp_gt 75 66 dX10_law_63 (by decide) rfl (fun c63 => ?_) (fun c63 => ?_)
            · skip
              try simp only [bI_0, bI_n0, Classical.not_not, Bool.not_eq_false, Bool.true_and, Bool.and_true, decide_eq_true_eq, decide_eq_false_iff_not, dayC_1, dayC_21, dayC_221, dayC_222, inI_1, inI_2, inI_3, inI_5, inI_11, inI_16] at c63
              have n63 := Int32.not_le.mpr c63
              refine A_bipush 77 (-6) dX10_law_75 rfl (by decide) ?_
              refine A_istore 79 dX10_law_77 rfl (by decide) (by first | exact (ast_s (ast_s (ast_s (ast_1 rfl)))) | exact (ast_s (ast_s (ast_s ast_k)))) ?_
              refine A_iload 81 dX10_law_79 rfl rfl ?_
              refine A_if_ge 91 84 dX10_law_81 (by decide) rfl (fun c81 => ?_) (fun c81 => ?_)
              · skip
                exact absurd c81 (by decide)
              · skip
                refine A_aload_n 85 dX10_law_84 rfl rfl rfl ?_
                refine A_iload 87 dX10_law_85 rfl rfl ?_
                refine A_callVI 90 (S_X10_refuse_c X l (by first | assumption | decide | omega | exact Ne.symm (by assumption)) (by first | assumption | (unfold CD; decide))) dX10_law_87 rfl kX10_refuse lk_X10_121 rfl O28 (by decide) rfl (Nat.le_of_ble_eq_true rfl) (fun v_6 h_6 qh_6 => ?_)
                obtain ⟨rfl, n0h_6, eh_6⟩ := qh_6
                replace O28 := n0h_6
                replace hf : ∀ i, i ≠ 28 → h_6 i = h i := fun i g0 => (eh_6 i g0).trans (hf i g0)
                have ew : wLaw x k f th = -6 := by
                  first | (simp only [c17, c28, n28, c32, n32, cl_a, cl_b, c45, n45, c54, n54, c63, n63, if_true, if_false, ite_true, ite_false, and_true, true_and, and_false, false_and, and_self, or_true, true_or, or_false, false_or, or_self, not_true_eq_false, not_false_eq_true, decide_true, decide_false, Bool.and_true, Bool.true_and, Bool.and_false, Bool.false_and, Bool.and_self, Bool.or_true, Bool.true_or, Bool.or_false, Bool.false_or, Bool.not_true, Bool.not_false, cond_true, cond_false, bI_t, bI_f, Bool.false_eq_true, Bool.true_eq_false, dayC_1, dayC_21, dayC_221, dayC_222, wLaw, w01, wP, wPL, wP01, wL01, wRow, w01R, wAB, wNum, isP, isL]; done)
                refine A_iret dX10_law_90 rfl ⟨_, rfl, (by rw [ew]; exact rV_n (by decide)), _, (by rw [ew]; simp only [ifW_0, ifW_1, ifW_2, ifW_3, ifW_4, ifW_6]; first | (rw [rS_0]; exact O28) | exact O28), hf⟩
            · skip
              try simp only [bI_0, bI_n0, Classical.not_not, Bool.not_eq_false, Bool.true_and, Bool.and_true, decide_eq_true_eq, decide_eq_false_iff_not, dayC_1, dayC_21, dayC_221, dayC_222, inI_1, inI_2, inI_3, inI_5, inI_11, inI_16] at c63
              have n63 := Int32.not_lt.mp c63
              refine A_aload_n 67 dX10_law_66 rfl rfl rfl ?_
              refine A_getfield 70 dX10_law_67 rfl f_X10_88 O28 rfl ?_
              try dsimp only
              refine A_bipush 72 (10) dX10_law_70 rfl (by decide) ?_
              refine A_icmp_ne 79 75 dX10_law_72 (by decide) rfl (fun c72 => ?_) (fun c72 => ?_)
              · skip
                try simp only [bI_0, bI_n0, Classical.not_not, Bool.not_eq_false, Bool.true_and, Bool.and_true, decide_eq_true_eq, decide_eq_false_iff_not, dayC_1, dayC_21, dayC_221, dayC_222, inI_1, inI_2, inI_3, inI_5, inI_11, inI_16] at c72
                have cl_l : x.2.2.1 < 10 := by
                  have q := mt (ninj (a := x.2.2.1) (b := 10) (by omega) (by decide)).mpr c72
                  omega
                refine A_iload 81 dX10_law_79 rfl rfl ?_
                refine A_if_ge 91 84 dX10_law_81 (by decide) rfl (fun c81 => ?_) (fun c81 => ?_)
                · skip
                  refine A_aload_n 92 dX10_law_91 rfl rfl rfl ?_
                  refine A_iload_n 93 dX10_law_92 rfl rfl rfl ?_
                  refine A_iload_n 94 dX10_law_93 rfl rfl rfl ?_
                  refine A_iload_n 95 dX10_law_94 rfl rfl rfl ?_
                  refine A_bipush 97 (10) dX10_law_95 rfl (by decide) ?_
                  refine A_idiv 98 dX10_law_97 rfl (by decide) ?_
                  refine A_iload_n 99 dX10_law_98 rfl rfl rfl ?_
                  refine A_bipush 101 (10) dX10_law_99 rfl (by decide) ?_
                  refine A_irem 102 dX10_law_101 rfl (by decide) ?_
                  refine A_callVV 105 (S_X10_lawComes X l (by first | assumption | decide | omega | exact Ne.symm (by assumption)) (by first | assumption | decide | omega | exact Ne.symm (by assumption))) dX10_law_102 rfl kX10_lawComes lk_X10_156 rfl O28 (by decide) rfl (Nat.le_of_ble_eq_true rfl) (fun h_7 qh_7 => ?_)
                  obtain ⟨n0h_7, eh_7⟩ := qh_7
                  replace O28 := n0h_7
                  replace hf : ∀ i, i ≠ 28 → h_7 i = h i := fun i g0 => (eh_7 i g0).trans (hf i g0)
                  refine A_aload_n 106 dX10_law_105 rfl rfl rfl ?_
                  refine A_iconst 107 (0) dX10_law_106 rfl (by decide) ?_
                  refine P_X10_30 110 dX10_law_107 rfl fw_X10_184 O28 (fun h_8 nh_8 eh_8 => ?_)
                  replace O28 := nh_8
                  replace hf : ∀ i, i ≠ 28 → h_8 i = h i := fun i g0 => (eh_8 i g0).trans (hf i g0)
                  try dsimp only at O28
                  refine A_aload_n 111 dX10_law_110 rfl rfl rfl ?_
                  refine A_getfield 114 dX10_law_111 rfl f_X10_88 O28 rfl ?_
                  try dsimp only
                  refine A_iconst 115 (1) dX10_law_114 rfl (by decide) ?_
                  refine A_isub 116 dX10_law_115 rfl ?_
                  first | rw [nI_pred] | skip
                  have ew : wLaw x k f th = 0 := by
                    first | (simp only [c17, c28, n28, c32, n32, cl_a, cl_b, c45, n45, c54, n54, c63, n63, c72, cl_l, if_true, if_false, ite_true, ite_false, and_true, true_and, and_false, false_and, and_self, or_true, true_or, or_false, false_or, or_self, not_true_eq_false, not_false_eq_true, decide_true, decide_false, Bool.and_true, Bool.true_and, Bool.and_false, Bool.false_and, Bool.and_self, Bool.or_true, Bool.true_or, Bool.or_false, Bool.false_or, Bool.not_true, Bool.not_false, cond_true, cond_false, bI_t, bI_f, Bool.false_eq_true, Bool.true_eq_false, dayC_1, dayC_21, dayC_221, dayC_222, wLaw, w01, wP, wPL, wP01, wL01, wRow, w01R, wAB, wNum, isP, isL]; done)
                  refine A_iret dX10_law_116 rfl ⟨_, rfl, (by rw [ew, rV_0]; first | done | rfl | exact (nI_pred _).symm), _, (by rw [ew]; simp only [ifW_0, ifW_1, ifW_2, ifW_3, ifW_4, ifW_6]; first | (rw [rS_0]; exact O28) | exact O28), hf⟩
                · skip
                  exact absurd c81 (by decide)
              · skip
                try simp only [bI_0, bI_n0, Classical.not_not, Bool.not_eq_false, Bool.true_and, Bool.and_true, decide_eq_true_eq, decide_eq_false_iff_not, dayC_1, dayC_21, dayC_221, dayC_222, inI_1, inI_2, inI_3, inI_5, inI_11, inI_16] at c72
                have cl_l : ¬ x.2.2.1 < 10 := by
                  have q := (ninj (a := x.2.2.1) (b := 10) (by omega) (by decide)).mp c72
                  omega
                refine A_bipush 77 (-6) dX10_law_75 rfl (by decide) ?_
                refine A_istore 79 dX10_law_77 rfl (by decide) (by first | exact (ast_s (ast_s (ast_s (ast_1 rfl)))) | exact (ast_s (ast_s (ast_s ast_k)))) ?_
                refine A_iload 81 dX10_law_79 rfl rfl ?_
                refine A_if_ge 91 84 dX10_law_81 (by decide) rfl (fun c81 => ?_) (fun c81 => ?_)
                · skip
                  exact absurd c81 (by decide)
                · skip
                  refine A_aload_n 85 dX10_law_84 rfl rfl rfl ?_
                  refine A_iload 87 dX10_law_85 rfl rfl ?_
                  refine A_callVI 90 (S_X10_refuse_c X l (by first | assumption | decide | omega | exact Ne.symm (by assumption)) (by first | assumption | (unfold CD; decide))) dX10_law_87 rfl kX10_refuse lk_X10_121 rfl O28 (by decide) rfl (Nat.le_of_ble_eq_true rfl) (fun v_9 h_9 qh_9 => ?_)
                  obtain ⟨rfl, n0h_9, eh_9⟩ := qh_9
                  replace O28 := n0h_9
                  replace hf : ∀ i, i ≠ 28 → h_9 i = h i := fun i g0 => (eh_9 i g0).trans (hf i g0)
                  have ew : wLaw x k f th = -6 := by
                    first | (simp only [c17, c28, n28, c32, n32, cl_a, cl_b, c45, n45, c54, n54, c63, n63, c72, cl_l, if_true, if_false, ite_true, ite_false, and_true, true_and, and_false, false_and, and_self, or_true, true_or, or_false, false_or, or_self, not_true_eq_false, not_false_eq_true, decide_true, decide_false, Bool.and_true, Bool.true_and, Bool.and_false, Bool.false_and, Bool.and_self, Bool.or_true, Bool.true_or, Bool.or_false, Bool.false_or, Bool.not_true, Bool.not_false, cond_true, cond_false, bI_t, bI_f, Bool.false_eq_true, Bool.true_eq_false, dayC_1, dayC_21, dayC_221, dayC_222, wLaw, w01, wP, wPL, wP01, wL01, wRow, w01R, wAB, wNum, isP, isL]; done) | (simp only [c17, c28, n28, c32, n32, cl_a, cl_b, c45, n45, c54, n54, c63, n63, eq_true c72, cl_l, if_true, if_false, ite_true, ite_false, and_true, true_and, and_false, false_and, and_self, or_true, true_or, or_false, false_or, or_self, not_true_eq_false, not_false_eq_true, decide_true, decide_false, Bool.and_true, Bool.true_and, Bool.and_false, Bool.false_and, Bool.and_self, Bool.or_true, Bool.true_or, Bool.or_false, Bool.false_or, Bool.not_true, Bool.not_false, cond_true, cond_false, bI_t, bI_f, Bool.false_eq_true, Bool.true_eq_false, dayC_1, dayC_21, dayC_221, dayC_222, wLaw, w01, wP, wPL, wP01, wL01, wRow, w01R, wAB, wNum, isP, isL]; done)
                  refine A_iret dX10_law_90 rfl ⟨_, rfl, (by rw [ew]; exact rV_n (by decide)), _, (by rw [ew]; simp only [ifW_0, ifW_1, ifW_2, ifW_3, ifW_4, ifW_6]; first | (rw [rS_0]; exact O28) | exact O28), hf⟩
      · skip
        try simp only [bI_0, bI_n0, Classical.not_not, Bool.not_eq_false, Bool.true_and, Bool.and_true, decide_eq_true_eq, decide_eq_false_iff_not, dayC_1, dayC_21, dayC_221, dayC_222, inI_1, inI_2, inI_3, inI_5, inI_11, inI_16] at c32
        have n32 := c32
        replace c32 := Int32.not_le.mp c32
        refine A_bipush 37 (-4) dX10_law_35 rfl (by decide) ?_
        refine A_istore 39 dX10_law_37 rfl (by decide) (by first | exact (ast_s (ast_s (ast_s (ast_1 rfl)))) | exact (ast_s (ast_s (ast_s ast_k)))) ?_
        refine A_goto 79 dX10_law_39 (by decide) ?_
        refine A_iload 81 dX10_law_79 rfl rfl ?_
        refine A_if_ge 91 84 dX10_law_81 (by decide) rfl (fun c81 => ?_) (fun c81 => ?_)
        · skip
          exact absurd c81 (by decide)
        · skip
          refine A_aload_n 85 dX10_law_84 rfl rfl rfl ?_
          refine A_iload 87 dX10_law_85 rfl rfl ?_
          refine A_callVI 90 (S_X10_refuse_c X l (by first | assumption | decide | omega | exact Ne.symm (by assumption)) (by first | assumption | (unfold CD; decide))) dX10_law_87 rfl kX10_refuse lk_X10_121 rfl O28 (by decide) rfl (Nat.le_of_ble_eq_true rfl) (fun v_10 h_10 qh_10 => ?_)
          obtain ⟨rfl, n0h_10, eh_10⟩ := qh_10
          replace O28 := n0h_10
          replace hf : ∀ i, i ≠ 28 → h_10 i = h i := fun i g0 => (eh_10 i g0).trans (hf i g0)
          have ew : wLaw x k f th = -4 := by
            first | (simp only [c17, c28, n28, c32, n32, if_true, if_false, ite_true, ite_false, and_true, true_and, and_false, false_and, and_self, or_true, true_or, or_false, false_or, or_self, not_true_eq_false, not_false_eq_true, decide_true, decide_false, Bool.and_true, Bool.true_and, Bool.and_false, Bool.false_and, Bool.and_self, Bool.or_true, Bool.true_or, Bool.or_false, Bool.false_or, Bool.not_true, Bool.not_false, cond_true, cond_false, bI_t, bI_f, Bool.false_eq_true, Bool.true_eq_false, dayC_1, dayC_21, dayC_221, dayC_222, wLaw, w01, wP, wPL, wP01, wL01, wRow, w01R, wAB, wNum, isP, isL]; done)
          refine A_iret dX10_law_90 rfl ⟨_, rfl, (by rw [ew]; exact rV_n (by decide)), _, (by rw [ew]; simp only [ifW_0, ifW_1, ifW_2, ifW_3, ifW_4, ifW_6]; first | (rw [rS_0]; exact O28) | exact O28), hf⟩
  · skip
    try simp only [bI_0, bI_n0, Classical.not_not, Bool.not_eq_false, Bool.true_and, Bool.and_true, decide_eq_true_eq, decide_eq_false_iff_not, dayC_1, dayC_21, dayC_221, dayC_222, inI_1, inI_2, inI_3, inI_5, inI_11, inI_16] at c17
    refine A_bipush 22 (-2) dX10_law_20 rfl (by decide) ?_
    refine A_istore 24 dX10_law_22 rfl (by decide) (by first | exact (ast_s (ast_s (ast_s (ast_1 rfl)))) | exact (ast_s (ast_s (ast_s ast_k)))) ?_
    refine A_goto 79 dX10_law_24 (by decide) ?_
    refine A_iload 81 dX10_law_79 rfl rfl ?_
    refine A_if_ge 91 84 dX10_law_81 (by decide) rfl (fun c81 => ?_) (fun c81 => ?_)
    · skip
      exact absurd c81 (by decide)
    · skip
      refine A_aload_n 85 dX10_law_84 rfl rfl rfl ?_
      refine A_iload 87 dX10_law_85 rfl rfl ?_
      refine A_callVI 90 (S_X10_refuse_c X l (by first | assumption | decide | omega | exact Ne.symm (by assumption)) (by first | assumption | (unfold CD; decide))) dX10_law_87 rfl kX10_refuse lk_X10_121 rfl O28 (by decide) rfl (Nat.le_of_ble_eq_true rfl) (fun v_11 h_11 qh_11 => ?_)
      obtain ⟨rfl, n0h_11, eh_11⟩ := qh_11
      replace O28 := n0h_11
      replace hf : ∀ i, i ≠ 28 → h_11 i = h i := fun i g0 => (eh_11 i g0).trans (hf i g0)
      have ew : wLaw x k f th = -2 := by
        first | (simp only [c17, if_true, if_false, ite_true, ite_false, and_true, true_and, and_false, false_and, and_self, or_true, true_or, or_false, false_or, or_self, not_true_eq_false, not_false_eq_true, decide_true, decide_false, Bool.and_true, Bool.true_and, Bool.and_false, Bool.false_and, Bool.and_self, Bool.or_true, Bool.true_or, Bool.or_false, Bool.false_or, Bool.not_true, Bool.not_false, cond_true, cond_false, bI_t, bI_f, Bool.false_eq_true, Bool.true_eq_false, dayC_1, dayC_21, dayC_221, dayC_222, wLaw, w01, wP, wPL, wP01, wL01, wRow, w01R, wAB, wNum, isP, isL]; done)
      refine A_iret dX10_law_90 rfl ⟨_, rfl, (by rw [ew]; exact rV_n (by decide)), _, (by rw [ew]; simp only [ifW_0, ifW_1, ifW_2, ifW_3, ifW_4, ifW_6]; first | (rw [rS_0]; exact O28) | exact O28), hf⟩
set_option maxHeartbeats 4000000 in
set_option maxRecDepth 100000 in
theorem S_X10_person (X : En) (l : Launch) {h : Hp} {x : PW} {c : RC} {z : RZ} (O28 : h 28 = some (rB x (-1) c z)) (hW : WOK x)  {v : Int32} : Ct X l mX10_person [aR 28 0, aI v] h (QI (fun vr h2 => (rV (wPers x v) (nI x.2.2.2.1)) = vr ∧ ∃ (z1 : RZ), h2 (28) = some (rB (ifW (wPers x v) (addP x v) x) (-1) (rS (wPers x v) c.1, c.2.1, c.2.2.1, c.2.2.2.1, c.2.2.2.2.1, c.2.2.2.2.2.1, ifW (wPers x v) 0 c.2.2.2.2.2.2.1, c.2.2.2.2.2.2.2) z1) ∧ ∀ i, i ≠ 28 → h2 i = h i)) := by
  have hx := hW.1
  have hp := hW.2.1
  have h10 := hx.1
  have hf : ∀ i, i ≠ 28 → h i = h i := fun _ _ => rfl
  refine Ct.intro [some (aR 28 0), some (aI v), none] (by decide +kernel) rfl (Nat.le_of_ble_eq_true rfl) ?_
  refine A_aload_n 1 dX10_person_0 rfl rfl rfl ?_
  refine A_iconst 2 (0) dX10_person_1 rfl (by decide) ?_
  refine P_X10_9 5 dX10_person_2 rfl fw_X10_78 O28 (fun h_1 nh_1 eh_1 => ?_)
  replace O28 := nh_1
  replace hf : ∀ i, i ≠ 28 → h_1 i = h i := fun i g0 => (eh_1 i g0).trans (hf i g0)
  try dsimp only at O28
  refine A_iload_n 6 dX10_person_5 rfl rfl rfl ?_
  refine A_iconst 7 (0) dX10_person_6 rfl (by decide) ?_
  refine A_sipush 10 (255) dX10_person_7 rfl (by decide) ?_
  refine A_callSI 13 (S_X10_wrongNumber X l) dX10_person_10 rfl kX10_wrongNumber lk_X10_213 rfl (by decide) rfl (Nat.le_of_ble_eq_true rfl) (fun v_2 h_2 qh_2 => ?_)
  obtain ⟨rfl, rfl⟩ := qh_2
  refine A_istore_n 14 dX10_person_13 rfl rfl (by decide) (by first | exact (ast_s (ast_1 rfl)) | exact (ast_s ast_k)) ?_
  refine A_joinI 33 (fun vj => vj = wPers x v) (fun j33 => ?_) (fun v33 e33 => ?_)
  · skip
    refine A_iload_n 15 dX10_person_14 rfl rfl rfl ?_
    refine A_if_ne 32 18 dX10_person_15 (by decide) rfl (fun c15 => ?_) (fun c15 => ?_)
    · skip
      try simp only [bI_0, bI_n0, Classical.not_not, Bool.not_eq_false, Bool.true_and, Bool.and_true, decide_eq_true_eq, decide_eq_false_iff_not, dayC_1, dayC_21, dayC_221, dayC_222, inI_1, inI_2, inI_3, inI_5, inI_11, inI_16] at c15
      refine A_iload_n 33 dX10_person_32 rfl rfl rfl ?_
      exact j33 _ (by rw [wPers_eq]; first | (simp only [c15, if_true, if_false, ite_true, ite_false, and_true, true_and, and_false, false_and, and_self, or_true, true_or, or_false, false_or, or_self, not_true_eq_false, not_false_eq_true, decide_true, decide_false, Bool.and_true, Bool.true_and, Bool.and_false, Bool.false_and, Bool.and_self, Bool.or_true, Bool.true_or, Bool.or_false, Bool.false_or, Bool.not_true, Bool.not_false, cond_true, cond_false, bI_t, bI_f, Bool.false_eq_true, Bool.true_eq_false, dayC_1, dayC_21, dayC_221, dayC_222]; done))
    · skip
      try simp only [bI_0, bI_n0, Classical.not_not, Bool.not_eq_false, Bool.true_and, Bool.and_true, decide_eq_true_eq, decide_eq_false_iff_not, dayC_1, dayC_21, dayC_221, dayC_222, inI_1, inI_2, inI_3, inI_5, inI_11, inI_16] at c15
      refine A_aload_n 19 dX10_person_18 rfl rfl rfl ?_
      refine A_getfield 22 dX10_person_19 rfl f_X10_81 O28 rfl ?_
      try dsimp only
      refine A_bipush 24 (6) dX10_person_22 rfl (by decide) ?_
      refine A_icmp_ne 32 27 dX10_person_24 (by decide) rfl (fun c24 => ?_) (fun c24 => ?_)
      · skip
        try simp only [bI_0, bI_n0, Classical.not_not, Bool.not_eq_false, Bool.true_and, Bool.and_true, decide_eq_true_eq, decide_eq_false_iff_not, dayC_1, dayC_21, dayC_221, dayC_222, inI_1, inI_2, inI_3, inI_5, inI_11, inI_16] at c24
        have cl_l : x.2.2.2.1 < 6 := by
          have q := mt (ninj (a := x.2.2.2.1) (b := 6) (by omega) (by decide)).mpr c24
          omega
        refine A_iload_n 33 dX10_person_32 rfl rfl rfl ?_
        exact j33 _ (by rw [wPers_eq]; first | (simp only [c15, c24, cl_l, if_true, if_false, ite_true, ite_false, and_true, true_and, and_false, false_and, and_self, or_true, true_or, or_false, false_or, or_self, not_true_eq_false, not_false_eq_true, decide_true, decide_false, Bool.and_true, Bool.true_and, Bool.and_false, Bool.false_and, Bool.and_self, Bool.or_true, Bool.true_or, Bool.or_false, Bool.false_or, Bool.not_true, Bool.not_false, cond_true, cond_false, bI_t, bI_f, Bool.false_eq_true, Bool.true_eq_false, dayC_1, dayC_21, dayC_221, dayC_222]; done) | (simp only [eq_true c15, c24, cl_l, if_true, if_false, ite_true, ite_false, and_true, true_and, and_false, false_and, and_self, or_true, true_or, or_false, false_or, or_self, not_true_eq_false, not_false_eq_true, decide_true, decide_false, Bool.and_true, Bool.true_and, Bool.and_false, Bool.false_and, Bool.and_self, Bool.or_true, Bool.true_or, Bool.or_false, Bool.false_or, Bool.not_true, Bool.not_false, cond_true, cond_false, bI_t, bI_f, Bool.false_eq_true, Bool.true_eq_false, dayC_1, dayC_21, dayC_221, dayC_222]; done))
      · skip
        try simp only [bI_0, bI_n0, Classical.not_not, Bool.not_eq_false, Bool.true_and, Bool.and_true, decide_eq_true_eq, decide_eq_false_iff_not, dayC_1, dayC_21, dayC_221, dayC_222, inI_1, inI_2, inI_3, inI_5, inI_11, inI_16] at c24
        have cl_l : ¬ x.2.2.2.1 < 6 := by
          have q := (ninj (a := x.2.2.2.1) (b := 6) (by omega) (by decide)).mp c24
          omega
        refine A_bipush 29 (-6) dX10_person_27 rfl (by decide) ?_
        refine A_goto 33 dX10_person_29 (by decide) ?_
        exact j33 _ (by rw [wPers_eq]; first | (simp only [c15, c24, cl_l, if_true, if_false, ite_true, ite_false, and_true, true_and, and_false, false_and, and_self, or_true, true_or, or_false, false_or, or_self, not_true_eq_false, not_false_eq_true, decide_true, decide_false, Bool.and_true, Bool.true_and, Bool.and_false, Bool.false_and, Bool.and_self, Bool.or_true, Bool.true_or, Bool.or_false, Bool.false_or, Bool.not_true, Bool.not_false, cond_true, cond_false, bI_t, bI_f, Bool.false_eq_true, Bool.true_eq_false, dayC_1, dayC_21, dayC_221, dayC_222]; done) | (simp only [eq_true c15, eq_true c24, cl_l, if_true, if_false, ite_true, ite_false, and_true, true_and, and_false, false_and, and_self, or_true, true_or, or_false, false_or, or_self, not_true_eq_false, not_false_eq_true, decide_true, decide_false, Bool.and_true, Bool.true_and, Bool.and_false, Bool.false_and, Bool.and_self, Bool.or_true, Bool.true_or, Bool.or_false, Bool.false_or, Bool.not_true, Bool.not_false, cond_true, cond_false, bI_t, bI_f, Bool.false_eq_true, Bool.true_eq_false, dayC_1, dayC_21, dayC_221, dayC_222]; done))
  subst e33
  refine A_istore_n 34 dX10_person_33 rfl rfl (by decide) (by first | exact (ast_s (ast_1 rfl)) | exact (ast_s ast_k)) ?_
  refine A_iload_n 35 dX10_person_34 rfl rfl rfl ?_
  refine A_if_ge 44 38 dX10_person_35 (by decide) rfl (fun c35 => ?_) (fun c35 => ?_)
  · skip
    try simp only [bI_0, bI_n0, Classical.not_not, Bool.not_eq_false, Bool.true_and, Bool.and_true, decide_eq_true_eq, decide_eq_false_iff_not, dayC_1, dayC_21, dayC_221, dayC_222, inI_1, inI_2, inI_3, inI_5, inI_11, inI_16] at c35
    have n35 := c35
    replace c35 := Int32.not_lt.mpr c35
    have hw0 : wPers x v = 0 := cz_pos wPers_cz c35
    obtain ⟨f1, f2⟩ := wPers_0 hw0
    have f3 : x.2.2.2.1 < 6 := Classical.not_not.mp (fun z => f2 (Or.inr z))
    refine A_aload_n 45 dX10_person_44 rfl rfl rfl ?_
    refine A_getfield 48 dX10_person_45 rfl f_X10_22 O28 rfl ?_
    refine A_aload_n 49 dX10_person_48 rfl rfl rfl ?_
    refine A_getfield 52 dX10_person_49 rfl f_X10_81 O28 rfl ?_
    try dsimp only
    refine A_iload_n 53 dX10_person_52 rfl rfl rfl ?_
    refine T_X10_4 54 dX10_person_53 rfl O28 (by first | assumption | exact ix_nI (by omega) (by decide) | exact ix_lit _ rfl (by omega) (by decide) | exact ix_lit _ rfl (by decide) (by decide)) (fun h_3 nh_3 eh_3 => ?_)
    replace O28 := nh_3
    replace hf : ∀ i, i ≠ 28 → h_3 i = h i := fun i g0 => (eh_3 i g0).trans (hf i g0)
    try dsimp only at O28
    refine A_aload_n 55 dX10_person_54 rfl rfl rfl ?_
    refine A_dup 56 dX10_person_55 rfl rfl ?_
    refine A_getfield 59 dX10_person_56 rfl f_X10_81 O28 rfl ?_
    try dsimp only
    refine A_iconst 60 (1) dX10_person_59 rfl (by decide) ?_
    refine A_iadd 61 dX10_person_60 rfl ?_
    rw [n41]
    refine P_X10_5 64 dX10_person_61 rfl fw_X10_81 O28 (fun h_4 nh_4 eh_4 => ?_)
    replace O28 := nh_4
    replace hf : ∀ i, i ≠ 28 → h_4 i = h i := fun i g0 => (eh_4 i g0).trans (hf i g0)
    try dsimp only at O28
    refine A_aload_n 65 dX10_person_64 rfl rfl rfl ?_
    refine A_iconst 66 (0) dX10_person_65 rfl (by decide) ?_
    refine P_X10_30 69 dX10_person_66 rfl fw_X10_184 O28 (fun h_5 nh_5 eh_5 => ?_)
    replace O28 := nh_5
    replace hf : ∀ i, i ≠ 28 → h_5 i = h i := fun i g0 => (eh_5 i g0).trans (hf i g0)
    try dsimp only at O28
    refine A_aload_n 70 dX10_person_69 rfl rfl rfl ?_
    refine A_getfield 73 dX10_person_70 rfl f_X10_81 O28 rfl ?_
    try dsimp only
    refine A_iconst 74 (1) dX10_person_73 rfl (by decide) ?_
    refine A_isub 75 dX10_person_74 rfl ?_
    rw [nI_pred]
    refine A_iret dX10_person_75 rfl ⟨_, rfl, (by rw [hw0, rV_0]; first | done | rfl), _, (by rw [hw0, rS_0]; simp only [ifW_0, ifW_1, ifW_2, ifW_3, ifW_4, ifW_6]; exact O28), hf⟩
  · skip
    try simp only [bI_0, bI_n0, Classical.not_not, Bool.not_eq_false, Bool.true_and, Bool.and_true, decide_eq_true_eq, decide_eq_false_iff_not, dayC_1, dayC_21, dayC_221, dayC_222, inI_1, inI_2, inI_3, inI_5, inI_11, inI_16] at c35
    have n35 := c35
    replace c35 := Int32.not_le.mp c35
    have hcd : CD (wPers x v) := cz_neg wPers_cz c35
    refine A_aload_n 39 dX10_person_38 rfl rfl rfl ?_
    refine A_iload_n 40 dX10_person_39 rfl rfl rfl ?_
    refine A_callVI 43 (S_X10_refuse_c X l (by first | assumption | decide | omega | exact Ne.symm (by assumption)) (by first | assumption | (unfold CD; decide))) dX10_person_40 rfl kX10_refuse lk_X10_121 rfl O28 (by decide) rfl (Nat.le_of_ble_eq_true rfl) (fun v_6 h_6 qh_6 => ?_)
    obtain ⟨rfl, n0h_6, eh_6⟩ := qh_6
    replace O28 := n0h_6
    replace hf : ∀ i, i ≠ 28 → h_6 i = h i := fun i g0 => (eh_6 i g0).trans (hf i g0)
    refine A_iret dX10_person_43 rfl ⟨_, rfl, (by exact rV_n hcd.ne), _, (by simp only [ifW_n hcd.ne]; exact O28), hf⟩
set_option maxHeartbeats 4000000 in
set_option maxRecDepth 100000 in
theorem S_X10_takes (X : En) (l : Launch) {h : Hp} {x : PW} {c : RC} {z : RZ} (O28 : h 28 = some (rB x (-1) c z)) (hW : WOK x) {W : Nat → PW} (hT : TRs c.2.2.2.2.2.1 c.2.2.2.2.2.2.1 W) (ht : c.2.2.2.2.2.2.1 ≤ 8) {p t : Int32} : Ct X l mX10_takes [aR 28 0, aI p, aI t] h (QI (fun vr h2 => (rV (wTake x p t) (pk x p &&& (tbI t ^^^ (-1)))) = vr ∧ ∃ (T2 : FI) (z1 : RZ), h2 (28) = some (rB (ifW (wTake x p t) (takeF x p.toNatClampNeg t) x) (-1) (rS (wTake x p t) c.1, c.2.1, c.2.2.1, c.2.2.2.1, c.2.2.2.2.1, T2, ifW (wTake x p t) (moP c.2.2.2.2.2.2.1) c.2.2.2.2.2.2.1, c.2.2.2.2.2.2.2) z1) ∧ (TRs T2 (ifW (wTake x p t) (moP c.2.2.2.2.2.2.1) c.2.2.2.2.2.2.1) (ifW (wTake x p t) (kpW c.2.2.2.2.2.2.1 W x) W)) ∧ ∀ i, i ≠ 28 → h2 i = h i)) := by
  have hx := hW.1
  have hp := hW.2.1
  have h10 := hx.1
  have hf : ∀ i, i ≠ 28 → h i = h i := fun _ _ => rfl
  refine Ct.intro [some (aR 28 0), some (aI p), some (aI t), none] (by decide +kernel) rfl (Nat.le_of_ble_eq_true rfl) ?_
  refine A_aload_n 1 dX10_takes_0 rfl rfl rfl ?_
  refine A_iconst 2 (0) dX10_takes_1 rfl (by decide) ?_
  refine P_X10_9 5 dX10_takes_2 rfl fw_X10_78 O28 (fun h_1 nh_1 eh_1 => ?_)
  replace O28 := nh_1
  replace hf : ∀ i, i ≠ 28 → h_1 i = h i := fun i g0 => (eh_1 i g0).trans (hf i g0)
  try dsimp only at O28
  refine A_joinI 43 (fun vj => vj = wTake x p t) (fun j43 => ?_) (fun v43 e43 => ?_)
  · skip
    refine A_aload_n 6 dX10_takes_5 rfl rfl rfl ?_
    refine A_iload_n 7 dX10_takes_6 rfl rfl rfl ?_
    refine A_callVI 10 (S_X10_isOne X l (by first | assumption | decide | omega | exact Ne.symm (by assumption)) (by first | assumption | decide | omega | exact Ne.symm (by assumption))) dX10_takes_7 rfl kX10_isOne lk_X10_160 rfl O28 (by decide) rfl (Nat.le_of_ble_eq_true rfl) (fun v_2 h_2 qh_2 => ?_)
    obtain ⟨rfl, rfl⟩ := qh_2
    refine A_if_eq 20 13 dX10_takes_10 (by decide) rfl (fun c10 => ?_) (fun c10 => ?_)
    · skip
      try simp only [bI_0, bI_n0, Classical.not_not, Bool.not_eq_false, Bool.true_and, Bool.and_true, decide_eq_true_eq, decide_eq_false_iff_not, dayC_1, dayC_21, dayC_221, dayC_222, inI_1, inI_2, inI_3, inI_5, inI_11, inI_16] at c10
      refine A_iconst 21 (-1) dX10_takes_20 rfl (by decide) ?_
      refine A_goto 43 dX10_takes_21 (by decide) ?_
      exact j43 _ (by first | (simp only [c10, if_true, if_false, ite_true, ite_false, and_true, true_and, and_false, false_and, and_self, or_true, true_or, or_false, false_or, or_self, not_true_eq_false, not_false_eq_true, decide_true, decide_false, Bool.and_true, Bool.true_and, Bool.and_false, Bool.false_and, Bool.and_self, Bool.or_true, Bool.true_or, Bool.or_false, Bool.false_or, Bool.not_true, Bool.not_false, cond_true, cond_false, bI_t, bI_f, Bool.false_eq_true, Bool.true_eq_false, dayC_1, dayC_21, dayC_221, dayC_222, wTake, pk, w01, wP, wPL, wP01, wL01, wRow, w01R, wAB, wNum, isP, isL, wrB_N, wrB_0, wrB_1]; done) | (simp only [c10, if_true, if_false, ite_true, ite_false, and_true, true_and, and_false, false_and, and_self, or_true, true_or, or_false, false_or, or_self, not_true_eq_false, not_false_eq_true, decide_true, decide_false, Bool.and_true, Bool.true_and, Bool.and_false, Bool.false_and, Bool.and_self, Bool.or_true, Bool.true_or, Bool.or_false, Bool.false_or, Bool.not_true, Bool.not_false, cond_true, cond_false, bI_t, bI_f, Bool.false_eq_true, Bool.true_eq_false, dayC_1, dayC_21, dayC_221, dayC_222, wrN, wTake, pk, w01, wP, wPL, wP01, wL01, wRow, w01R, wAB, wNum, isP, isL, wrB_N, wrB_0, wrB_1]; done) | (simp only [c10, if_true, if_false, ite_true, ite_false, and_true, true_and, and_false, false_and, and_self, or_true, true_or, or_false, false_or, or_self, not_true_eq_false, not_false_eq_true, decide_true, decide_false, Bool.and_true, Bool.true_and, Bool.and_false, Bool.false_and, Bool.and_self, Bool.or_true, Bool.true_or, Bool.or_false, Bool.false_or, Bool.not_true, Bool.not_false, cond_true, cond_false, bI_t, bI_f, Bool.false_eq_true, Bool.true_eq_false, dayC_1, dayC_21, dayC_221, dayC_222, wrN, wTake, pk, w01, wP, wPL, wP01, wL01, wRow, w01R, wAB, wNum, isP, isL, wrB_N, wrB_0, wrB_1]; rfl))
    · skip
      try simp only [bI_0, bI_n0, Classical.not_not, Bool.not_eq_false, Bool.true_and, Bool.and_true, decide_eq_true_eq, decide_eq_false_iff_not, dayC_1, dayC_21, dayC_221, dayC_222, inI_1, inI_2, inI_3, inI_5, inI_11, inI_16] at c10
      obtain ⟨k_p, rfl, hk_p⟩ := inN_ex c10 (by omega)
      have cl_p : (nI k_p).toNatClampNeg = k_p := nI_clamp (by omega)
      refine A_iload_n 14 dX10_takes_13 rfl rfl rfl ?_
      refine A_callSI 17 (S_X10_isThing X l) dX10_takes_14 rfl kX10_isThing lk_X10_217 rfl (by decide) rfl (Nat.le_of_ble_eq_true rfl) (fun v_3 h_3 qh_3 => ?_)
      obtain ⟨rfl, rfl⟩ := qh_3
      refine A_if_ne 24 20 dX10_takes_17 (by decide) rfl (fun c17 => ?_) (fun c17 => ?_)
      · skip
        try simp only [bI_0, bI_n0, Classical.not_not, Bool.not_eq_false, Bool.true_and, Bool.and_true, decide_eq_true_eq, decide_eq_false_iff_not, dayC_1, dayC_21, dayC_221, dayC_222, inI_1, inI_2, inI_3, inI_5, inI_11, inI_16] at c17
        refine A_aload_n 25 dX10_takes_24 rfl rfl rfl ?_
        refine A_getfield 28 dX10_takes_25 rfl f_X10_22 O28 rfl ?_
        refine A_iload_n 29 dX10_takes_28 rfl rfl rfl ?_
        refine A_iaload 30 dX10_takes_29 rfl O28 rfl (by first | assumption | exact ix_nI (by omega) (by decide) | exact ix_lit _ rfl (by omega) (by decide) | exact ix_lit _ rfl (by decide) (by decide)) ?_
        try dsimp only
        refine A_iload_n 31 dX10_takes_30 rfl rfl rfl ?_
        refine A_callSI 34 (S_X10_hasBit X l) dX10_takes_31 rfl kX10_hasBit lk_X10_93 rfl (by decide) rfl (Nat.le_of_ble_eq_true rfl) (fun v_4 h_4 qh_4 => ?_)
        obtain ⟨rfl, rfl⟩ := qh_4
        refine A_if_eq 41 37 dX10_takes_34 (by decide) rfl (fun c34 => ?_) (fun c34 => ?_)
        · skip
          try simp only [bI_0, bI_n0, Classical.not_not, Bool.not_eq_false, Bool.true_and, Bool.and_true, decide_eq_true_eq, decide_eq_false_iff_not, dayC_1, dayC_21, dayC_221, dayC_222, inI_1, inI_2, inI_3, inI_5, inI_11, inI_16] at c34
          refine A_bipush 43 (-3) dX10_takes_41 rfl (by decide) ?_
          exact j43 _ (by first | (simp only [c10, cl_p, c17, c34, if_true, if_false, ite_true, ite_false, and_true, true_and, and_false, false_and, and_self, or_true, true_or, or_false, false_or, or_self, not_true_eq_false, not_false_eq_true, decide_true, decide_false, Bool.and_true, Bool.true_and, Bool.and_false, Bool.false_and, Bool.and_self, Bool.or_true, Bool.true_or, Bool.or_false, Bool.false_or, Bool.not_true, Bool.not_false, cond_true, cond_false, bI_t, bI_f, Bool.false_eq_true, Bool.true_eq_false, dayC_1, dayC_21, dayC_221, dayC_222, wTake, pk, w01, wP, wPL, wP01, wL01, wRow, w01R, wAB, wNum, isP, isL, wrB_N, wrB_0, wrB_1]; done) | (simp only [c10, cl_p, c17, c34, if_true, if_false, ite_true, ite_false, and_true, true_and, and_false, false_and, and_self, or_true, true_or, or_false, false_or, or_self, not_true_eq_false, not_false_eq_true, decide_true, decide_false, Bool.and_true, Bool.true_and, Bool.and_false, Bool.false_and, Bool.and_self, Bool.or_true, Bool.true_or, Bool.or_false, Bool.false_or, Bool.not_true, Bool.not_false, cond_true, cond_false, bI_t, bI_f, Bool.false_eq_true, Bool.true_eq_false, dayC_1, dayC_21, dayC_221, dayC_222, wrN, wTake, pk, w01, wP, wPL, wP01, wL01, wRow, w01R, wAB, wNum, isP, isL, wrB_N, wrB_0, wrB_1]; done) | (simp only [c10, cl_p, c17, c34, if_true, if_false, ite_true, ite_false, and_true, true_and, and_false, false_and, and_self, or_true, true_or, or_false, false_or, or_self, not_true_eq_false, not_false_eq_true, decide_true, decide_false, Bool.and_true, Bool.true_and, Bool.and_false, Bool.false_and, Bool.and_self, Bool.or_true, Bool.true_or, Bool.or_false, Bool.false_or, Bool.not_true, Bool.not_false, cond_true, cond_false, bI_t, bI_f, Bool.false_eq_true, Bool.true_eq_false, dayC_1, dayC_21, dayC_221, dayC_222, wrN, wTake, pk, w01, wP, wPL, wP01, wL01, wRow, w01R, wAB, wNum, isP, isL, wrB_N, wrB_0, wrB_1]; rfl))
        · skip
          try simp only [bI_0, bI_n0, Classical.not_not, Bool.not_eq_false, Bool.true_and, Bool.and_true, decide_eq_true_eq, decide_eq_false_iff_not, dayC_1, dayC_21, dayC_221, dayC_222, inI_1, inI_2, inI_3, inI_5, inI_11, inI_16] at c34
          refine A_iconst 38 (0) dX10_takes_37 rfl (by decide) ?_
          refine A_goto 43 dX10_takes_38 (by decide) ?_
          exact j43 _ (by first | (simp only [c10, cl_p, c17, c34, if_true, if_false, ite_true, ite_false, and_true, true_and, and_false, false_and, and_self, or_true, true_or, or_false, false_or, or_self, not_true_eq_false, not_false_eq_true, decide_true, decide_false, Bool.and_true, Bool.true_and, Bool.and_false, Bool.false_and, Bool.and_self, Bool.or_true, Bool.true_or, Bool.or_false, Bool.false_or, Bool.not_true, Bool.not_false, cond_true, cond_false, bI_t, bI_f, Bool.false_eq_true, Bool.true_eq_false, dayC_1, dayC_21, dayC_221, dayC_222, wTake, pk, w01, wP, wPL, wP01, wL01, wRow, w01R, wAB, wNum, isP, isL, wrB_N, wrB_0, wrB_1]; done) | (simp only [c10, cl_p, c17, c34, if_true, if_false, ite_true, ite_false, and_true, true_and, and_false, false_and, and_self, or_true, true_or, or_false, false_or, or_self, not_true_eq_false, not_false_eq_true, decide_true, decide_false, Bool.and_true, Bool.true_and, Bool.and_false, Bool.false_and, Bool.and_self, Bool.or_true, Bool.true_or, Bool.or_false, Bool.false_or, Bool.not_true, Bool.not_false, cond_true, cond_false, bI_t, bI_f, Bool.false_eq_true, Bool.true_eq_false, dayC_1, dayC_21, dayC_221, dayC_222, wrN, wTake, pk, w01, wP, wPL, wP01, wL01, wRow, w01R, wAB, wNum, isP, isL, wrB_N, wrB_0, wrB_1]; done) | (simp only [c10, cl_p, c17, c34, if_true, if_false, ite_true, ite_false, and_true, true_and, and_false, false_and, and_self, or_true, true_or, or_false, false_or, or_self, not_true_eq_false, not_false_eq_true, decide_true, decide_false, Bool.and_true, Bool.true_and, Bool.and_false, Bool.false_and, Bool.and_self, Bool.or_true, Bool.true_or, Bool.or_false, Bool.false_or, Bool.not_true, Bool.not_false, cond_true, cond_false, bI_t, bI_f, Bool.false_eq_true, Bool.true_eq_false, dayC_1, dayC_21, dayC_221, dayC_222, wrN, wTake, pk, w01, wP, wPL, wP01, wL01, wRow, w01R, wAB, wNum, isP, isL, wrB_N, wrB_0, wrB_1]; rfl))
      · skip
        try simp only [bI_0, bI_n0, Classical.not_not, Bool.not_eq_false, Bool.true_and, Bool.and_true, decide_eq_true_eq, decide_eq_false_iff_not, dayC_1, dayC_21, dayC_221, dayC_222, inI_1, inI_2, inI_3, inI_5, inI_11, inI_16] at c17
        refine A_iconst 21 (-1) dX10_takes_20 rfl (by decide) ?_
        refine A_goto 43 dX10_takes_21 (by decide) ?_
        exact j43 _ (by first | (simp only [c10, cl_p, c17, if_true, if_false, ite_true, ite_false, and_true, true_and, and_false, false_and, and_self, or_true, true_or, or_false, false_or, or_self, not_true_eq_false, not_false_eq_true, decide_true, decide_false, Bool.and_true, Bool.true_and, Bool.and_false, Bool.false_and, Bool.and_self, Bool.or_true, Bool.true_or, Bool.or_false, Bool.false_or, Bool.not_true, Bool.not_false, cond_true, cond_false, bI_t, bI_f, Bool.false_eq_true, Bool.true_eq_false, dayC_1, dayC_21, dayC_221, dayC_222, wTake, pk, w01, wP, wPL, wP01, wL01, wRow, w01R, wAB, wNum, isP, isL, wrB_N, wrB_0, wrB_1]; done) | (simp only [c10, cl_p, c17, if_true, if_false, ite_true, ite_false, and_true, true_and, and_false, false_and, and_self, or_true, true_or, or_false, false_or, or_self, not_true_eq_false, not_false_eq_true, decide_true, decide_false, Bool.and_true, Bool.true_and, Bool.and_false, Bool.false_and, Bool.and_self, Bool.or_true, Bool.true_or, Bool.or_false, Bool.false_or, Bool.not_true, Bool.not_false, cond_true, cond_false, bI_t, bI_f, Bool.false_eq_true, Bool.true_eq_false, dayC_1, dayC_21, dayC_221, dayC_222, wrN, wTake, pk, w01, wP, wPL, wP01, wL01, wRow, w01R, wAB, wNum, isP, isL, wrB_N, wrB_0, wrB_1]; done) | (simp only [c10, cl_p, c17, if_true, if_false, ite_true, ite_false, and_true, true_and, and_false, false_and, and_self, or_true, true_or, or_false, false_or, or_self, not_true_eq_false, not_false_eq_true, decide_true, decide_false, Bool.and_true, Bool.true_and, Bool.and_false, Bool.false_and, Bool.and_self, Bool.or_true, Bool.true_or, Bool.or_false, Bool.false_or, Bool.not_true, Bool.not_false, cond_true, cond_false, bI_t, bI_f, Bool.false_eq_true, Bool.true_eq_false, dayC_1, dayC_21, dayC_221, dayC_222, wrN, wTake, pk, w01, wP, wPL, wP01, wL01, wRow, w01R, wAB, wNum, isP, isL, wrB_N, wrB_0, wrB_1]; rfl))
  subst e43
  refine A_istore_n 44 dX10_takes_43 rfl rfl (by decide) (by first | exact (ast_s (ast_s (ast_1 rfl))) | exact (ast_s (ast_s ast_k))) ?_
  refine A_iload_n 45 dX10_takes_44 rfl rfl rfl ?_
  refine A_if_ge 54 48 dX10_takes_45 (by decide) rfl (fun c45 => ?_) (fun c45 => ?_)
  · skip
    try simp only [bI_0, bI_n0, Classical.not_not, Bool.not_eq_false, Bool.true_and, Bool.and_true, decide_eq_true_eq, decide_eq_false_iff_not, dayC_1, dayC_21, dayC_221, dayC_222, inI_1, inI_2, inI_3, inI_5, inI_11, inI_16] at c45
    have n45 := c45
    replace c45 := Int32.not_lt.mpr c45
    have hw0 : wTake x p t = 0 := cz_pos wTake_cz c45
    obtain ⟨⟨f1, f2⟩, f3⟩ := wTake_0 hw0
    obtain ⟨k_p, rfl, hk_p⟩ := inN_ex f1 (by omega)
    have cl_p : (nI k_p).toNatClampNeg = k_p := nI_clamp (by omega)
    have hk6_p : k_p < 6 := by omega
    refine A_aload_n 55 dX10_takes_54 rfl rfl rfl ?_
    refine A_callVV 58 (S_X10_keepTurn X l (by first | assumption | decide | omega | exact Ne.symm (by assumption)) (by first | assumption | decide | omega | exact Ne.symm (by assumption)) (by first | assumption | decide | omega | exact Ne.symm (by assumption))) dX10_takes_55 rfl kX10_keepTurn lk_X10_220 rfl O28 (by decide) rfl (Nat.le_of_ble_eq_true rfl) (fun h_5 qh_5 => ?_)
    obtain ⟨T3_5, z1_5, n0h_5, ph_5, eh_5⟩ := qh_5
    replace O28 := n0h_5
    replace hf : ∀ i, i ≠ 28 → h_5 i = h i := fun i g0 => (eh_5 i g0).trans (hf i g0)
    have pk_ := ph_5
    refine A_aload_n 59 dX10_takes_58 rfl rfl rfl ?_
    refine A_iload_n 60 dX10_takes_59 rfl rfl rfl ?_
    refine A_iload_n 61 dX10_takes_60 rfl rfl rfl ?_
    refine A_callVV 64 (S_X10_takeOut X l (by first | assumption | decide | omega | exact Ne.symm (by assumption)) (by first | assumption | decide | omega | exact Ne.symm (by assumption)) (by first | assumption | decide | omega | exact Ne.symm (by assumption))) dX10_takes_61 rfl kX10_takeOut lk_X10_163 rfl O28 (by decide) rfl (Nat.le_of_ble_eq_true rfl) (fun h_6 qh_6 => ?_)
    obtain ⟨n0h_6, eh_6⟩ := qh_6
    replace O28 := n0h_6
    replace hf : ∀ i, i ≠ 28 → h_6 i = h i := fun i g0 => (eh_6 i g0).trans (hf i g0)
    refine A_aload_n 65 dX10_takes_64 rfl rfl rfl ?_
    refine A_getfield 68 dX10_takes_65 rfl f_X10_22 O28 rfl ?_
    refine A_iload_n 69 dX10_takes_68 rfl rfl rfl ?_
    refine A_iaload 70 dX10_takes_69 rfl O28 rfl (by first | assumption | exact ix_nI (by omega) (by decide) | exact ix_lit _ rfl (by omega) (by decide) | exact ix_lit _ rfl (by decide) (by decide)) ?_
    try dsimp only
    refine A_iret dX10_takes_70 rfl ⟨_, rfl, (by rw [hw0, rV_0]; unfold pk; rw [cl_p]; exact (up_self _ _ _).symm), _, _, (by rw [hw0, rS_0]; simp only [ifW_0, ifW_1, ifW_2, ifW_3, ifW_4, ifW_6]; rw [cl_p]; exact O28), ((by rw [hw0]; simp only [ifW_0, ifW_1, ifW_2, ifW_3, ifW_4, ifW_6]; exact pk_)), hf⟩
  · skip
    try simp only [bI_0, bI_n0, Classical.not_not, Bool.not_eq_false, Bool.true_and, Bool.and_true, decide_eq_true_eq, decide_eq_false_iff_not, dayC_1, dayC_21, dayC_221, dayC_222, inI_1, inI_2, inI_3, inI_5, inI_11, inI_16] at c45
    have n45 := c45
    replace c45 := Int32.not_le.mp c45
    have hcd : CD (wTake x p t) := cz_neg wTake_cz c45
    refine A_aload_n 49 dX10_takes_48 rfl rfl rfl ?_
    refine A_iload_n 50 dX10_takes_49 rfl rfl rfl ?_
    refine A_callVI 53 (S_X10_refuse_c X l (by first | assumption | decide | omega | exact Ne.symm (by assumption)) (by first | assumption | (unfold CD; decide))) dX10_takes_50 rfl kX10_refuse lk_X10_121 rfl O28 (by decide) rfl (Nat.le_of_ble_eq_true rfl) (fun v_7 h_7 qh_7 => ?_)
    obtain ⟨rfl, n0h_7, eh_7⟩ := qh_7
    replace O28 := n0h_7
    replace hf : ∀ i, i ≠ 28 → h_7 i = h i := fun i g0 => (eh_7 i g0).trans (hf i g0)
    refine A_iret dX10_takes_53 rfl ⟨_, rfl, (by exact rV_n hcd.ne), _, _, (by simp only [ifW_n hcd.ne]; exact O28), ((by simp only [ifW_n hcd.ne]; exact hT)), hf⟩
set_option maxHeartbeats 4000000 in
set_option maxRecDepth 100000 in
theorem S_X10_brings (X : En) (l : Launch) {h : Hp} {x : PW} {c : RC} {z : RZ} (O28 : h 28 = some (rB x (-1) c z)) (hW : WOK x) {W : Nat → PW} (hT : TRs c.2.2.2.2.2.1 c.2.2.2.2.2.2.1 W) (ht : c.2.2.2.2.2.2.1 ≤ 8) {p t : Int32} : Ct X l mX10_brings [aR 28 0, aI p, aI t] h (QI (fun vr h2 => (rV (wBrg x p t) (pk x p ||| tbI t)) = vr ∧ ∃ (T2 : FI) (z1 : RZ), h2 (28) = some (rB (ifW (wBrg x p t) (bringF x p.toNatClampNeg t) x) (-1) (rS (wBrg x p t) c.1, c.2.1, c.2.2.1, c.2.2.2.1, c.2.2.2.2.1, T2, ifW (wBrg x p t) (moP c.2.2.2.2.2.2.1) c.2.2.2.2.2.2.1, c.2.2.2.2.2.2.2) z1) ∧ (TRs T2 (ifW (wBrg x p t) (moP c.2.2.2.2.2.2.1) c.2.2.2.2.2.2.1) (ifW (wBrg x p t) (kpW c.2.2.2.2.2.2.1 W x) W)) ∧ ∀ i, i ≠ 28 → h2 i = h i)) := by
  have hx := hW.1
  have hp := hW.2.1
  have h10 := hx.1
  have hf : ∀ i, i ≠ 28 → h i = h i := fun _ _ => rfl
  refine Ct.intro [some (aR 28 0), some (aI p), some (aI t)] (by decide +kernel) rfl (Nat.le_of_ble_eq_true rfl) ?_
  refine A_aload_n 1 dX10_brings_0 rfl rfl rfl ?_
  refine A_iconst 2 (0) dX10_brings_1 rfl (by decide) ?_
  refine P_X10_9 5 dX10_brings_2 rfl fw_X10_78 O28 (fun h_1 nh_1 eh_1 => ?_)
  replace O28 := nh_1
  replace hf : ∀ i, i ≠ 28 → h_1 i = h i := fun i g0 => (eh_1 i g0).trans (hf i g0)
  try dsimp only at O28
  refine A_aload_n 6 dX10_brings_5 rfl rfl rfl ?_
  refine A_iload_n 7 dX10_brings_6 rfl rfl rfl ?_
  refine A_callVI 10 (S_X10_isOne X l (by first | assumption | decide | omega | exact Ne.symm (by assumption)) (by first | assumption | decide | omega | exact Ne.symm (by assumption))) dX10_brings_7 rfl kX10_isOne lk_X10_160 rfl O28 (by decide) rfl (Nat.le_of_ble_eq_true rfl) (fun v_2 h_2 qh_2 => ?_)
  obtain ⟨rfl, rfl⟩ := qh_2
  refine A_if_eq 20 13 dX10_brings_10 (by decide) rfl (fun c10 => ?_) (fun c10 => ?_)
  · skip
    try simp only [bI_0, bI_n0, Classical.not_not, Bool.not_eq_false, Bool.true_and, Bool.and_true, decide_eq_true_eq, decide_eq_false_iff_not, dayC_1, dayC_21, dayC_221, dayC_222, inI_1, inI_2, inI_3, inI_5, inI_11, inI_16] at c10
    refine A_aload_n 21 dX10_brings_20 rfl rfl rfl ?_
    refine A_iconst 22 (-1) dX10_brings_21 rfl (by decide) ?_
    refine A_callVI 25 (S_X10_refuse_c X l (by first | assumption | decide | omega | exact Ne.symm (by assumption)) (by first | assumption | (unfold CD; decide))) dX10_brings_22 rfl kX10_refuse lk_X10_121 rfl O28 (by decide) rfl (Nat.le_of_ble_eq_true rfl) (fun v_3 h_3 qh_3 => ?_)
    obtain ⟨rfl, n0h_3, eh_3⟩ := qh_3
    replace O28 := n0h_3
    replace hf : ∀ i, i ≠ 28 → h_3 i = h i := fun i g0 => (eh_3 i g0).trans (hf i g0)
    have ew : wBrg x p t = -1 := by
      first | (simp only [c10, if_true, if_false, ite_true, ite_false, and_true, true_and, and_false, false_and, and_self, or_true, true_or, or_false, false_or, or_self, not_true_eq_false, not_false_eq_true, decide_true, decide_false, Bool.and_true, Bool.true_and, Bool.and_false, Bool.false_and, Bool.and_self, Bool.or_true, Bool.true_or, Bool.or_false, Bool.false_or, Bool.not_true, Bool.not_false, cond_true, cond_false, bI_t, bI_f, Bool.false_eq_true, Bool.true_eq_false, dayC_1, dayC_21, dayC_221, dayC_222, wBrg, w01, wP, wPL, wP01, wL01, wRow, w01R, wAB, wNum, isP, isL]; done)
    refine A_iret dX10_brings_25 rfl ⟨_, rfl, (by rw [ew]; exact rV_n (by decide)), _, _, (by rw [ew]; simp only [ifW_0, ifW_1, ifW_2, ifW_3, ifW_4, ifW_6]; first | (rw [rS_0]; rw [cl_p]; exact O28) | exact O28), ((by rw [ew]; simp only [ifW_0, ifW_1, ifW_2, ifW_3, ifW_4, ifW_6]; first | exact hT | exact pk_)), hf⟩
  · skip
    try simp only [bI_0, bI_n0, Classical.not_not, Bool.not_eq_false, Bool.true_and, Bool.and_true, decide_eq_true_eq, decide_eq_false_iff_not, dayC_1, dayC_21, dayC_221, dayC_222, inI_1, inI_2, inI_3, inI_5, inI_11, inI_16] at c10
    obtain ⟨k_p, rfl, hk_p⟩ := inN_ex c10 (by omega)
    have cl_p : (nI k_p).toNatClampNeg = k_p := nI_clamp (by omega)
    refine A_iload_n 14 dX10_brings_13 rfl rfl rfl ?_
    refine A_callSI 17 (S_X10_isThing X l) dX10_brings_14 rfl kX10_isThing lk_X10_217 rfl (by decide) rfl (Nat.le_of_ble_eq_true rfl) (fun v_4 h_4 qh_4 => ?_)
    obtain ⟨rfl, rfl⟩ := qh_4
    refine A_if_ne 26 20 dX10_brings_17 (by decide) rfl (fun c17 => ?_) (fun c17 => ?_)
    · skip
      try simp only [bI_0, bI_n0, Classical.not_not, Bool.not_eq_false, Bool.true_and, Bool.and_true, decide_eq_true_eq, decide_eq_false_iff_not, dayC_1, dayC_21, dayC_221, dayC_222, inI_1, inI_2, inI_3, inI_5, inI_11, inI_16] at c17
      refine A_aload_n 27 dX10_brings_26 rfl rfl rfl ?_
      refine A_callVV 30 (S_X10_keepTurn X l (by first | assumption | decide | omega | exact Ne.symm (by assumption)) (by first | assumption | decide | omega | exact Ne.symm (by assumption)) (by first | assumption | decide | omega | exact Ne.symm (by assumption))) dX10_brings_27 rfl kX10_keepTurn lk_X10_220 rfl O28 (by decide) rfl (Nat.le_of_ble_eq_true rfl) (fun h_5 qh_5 => ?_)
      obtain ⟨T3_5, z1_5, n0h_5, ph_5, eh_5⟩ := qh_5
      replace O28 := n0h_5
      replace hf : ∀ i, i ≠ 28 → h_5 i = h i := fun i g0 => (eh_5 i g0).trans (hf i g0)
      have pk_ := ph_5
      refine A_aload_n 31 dX10_brings_30 rfl rfl rfl ?_
      refine A_iload_n 32 dX10_brings_31 rfl rfl rfl ?_
      refine A_iload_n 33 dX10_brings_32 rfl rfl rfl ?_
      refine A_callVV 36 (S_X10_bringIn X l (by first | assumption | decide | omega | exact Ne.symm (by assumption)) (by first | assumption | decide | omega | exact Ne.symm (by assumption)) (by first | assumption | decide | omega | exact Ne.symm (by assumption))) dX10_brings_33 rfl kX10_bringIn lk_X10_166 rfl O28 (by decide) rfl (Nat.le_of_ble_eq_true rfl) (fun h_6 qh_6 => ?_)
      obtain ⟨n0h_6, eh_6⟩ := qh_6
      replace O28 := n0h_6
      replace hf : ∀ i, i ≠ 28 → h_6 i = h i := fun i g0 => (eh_6 i g0).trans (hf i g0)
      refine A_aload_n 37 dX10_brings_36 rfl rfl rfl ?_
      refine A_getfield 40 dX10_brings_37 rfl f_X10_22 O28 rfl ?_
      refine A_iload_n 41 dX10_brings_40 rfl rfl rfl ?_
      refine A_iaload 42 dX10_brings_41 rfl O28 rfl (by first | assumption | exact ix_nI (by omega) (by decide) | exact ix_lit _ rfl (by omega) (by decide) | exact ix_lit _ rfl (by decide) (by decide)) ?_
      try dsimp only
      have ew : wBrg x (nI k_p) t = 0 := by
        first | (simp only [c10, cl_p, c17, if_true, if_false, ite_true, ite_false, and_true, true_and, and_false, false_and, and_self, or_true, true_or, or_false, false_or, or_self, not_true_eq_false, not_false_eq_true, decide_true, decide_false, Bool.and_true, Bool.true_and, Bool.and_false, Bool.false_and, Bool.and_self, Bool.or_true, Bool.true_or, Bool.or_false, Bool.false_or, Bool.not_true, Bool.not_false, cond_true, cond_false, bI_t, bI_f, Bool.false_eq_true, Bool.true_eq_false, dayC_1, dayC_21, dayC_221, dayC_222, wBrg, w01, wP, wPL, wP01, wL01, wRow, w01R, wAB, wNum, isP, isL]; done)
      refine A_iret dX10_brings_42 rfl ⟨_, rfl, (by rw [ew, rV_0]; unfold pk; rw [cl_p]; exact (up_self _ _ _).symm), _, _, (by rw [ew]; simp only [ifW_0, ifW_1, ifW_2, ifW_3, ifW_4, ifW_6]; first | (rw [rS_0]; rw [cl_p]; exact O28) | exact O28), ((by rw [ew]; simp only [ifW_0, ifW_1, ifW_2, ifW_3, ifW_4, ifW_6]; first | exact hT | exact pk_)), hf⟩
    · skip
      try simp only [bI_0, bI_n0, Classical.not_not, Bool.not_eq_false, Bool.true_and, Bool.and_true, decide_eq_true_eq, decide_eq_false_iff_not, dayC_1, dayC_21, dayC_221, dayC_222, inI_1, inI_2, inI_3, inI_5, inI_11, inI_16] at c17
      refine A_aload_n 21 dX10_brings_20 rfl rfl rfl ?_
      refine A_iconst 22 (-1) dX10_brings_21 rfl (by decide) ?_
      refine A_callVI 25 (S_X10_refuse_c X l (by first | assumption | decide | omega | exact Ne.symm (by assumption)) (by first | assumption | (unfold CD; decide))) dX10_brings_22 rfl kX10_refuse lk_X10_121 rfl O28 (by decide) rfl (Nat.le_of_ble_eq_true rfl) (fun v_7 h_7 qh_7 => ?_)
      obtain ⟨rfl, n0h_7, eh_7⟩ := qh_7
      replace O28 := n0h_7
      replace hf : ∀ i, i ≠ 28 → h_7 i = h i := fun i g0 => (eh_7 i g0).trans (hf i g0)
      have ew : wBrg x (nI k_p) t = -1 := by
        first | (simp only [c10, cl_p, c17, if_true, if_false, ite_true, ite_false, and_true, true_and, and_false, false_and, and_self, or_true, true_or, or_false, false_or, or_self, not_true_eq_false, not_false_eq_true, decide_true, decide_false, Bool.and_true, Bool.true_and, Bool.and_false, Bool.false_and, Bool.and_self, Bool.or_true, Bool.true_or, Bool.or_false, Bool.false_or, Bool.not_true, Bool.not_false, cond_true, cond_false, bI_t, bI_f, Bool.false_eq_true, Bool.true_eq_false, dayC_1, dayC_21, dayC_221, dayC_222, wBrg, w01, wP, wPL, wP01, wL01, wRow, w01R, wAB, wNum, isP, isL]; done)
      refine A_iret dX10_brings_25 rfl ⟨_, rfl, (by rw [ew]; exact rV_n (by decide)), _, _, (by rw [ew]; simp only [ifW_0, ifW_1, ifW_2, ifW_3, ifW_4, ifW_6]; first | (rw [rS_0]; rw [cl_p]; exact O28) | exact O28), ((by rw [ew]; simp only [ifW_0, ifW_1, ifW_2, ifW_3, ifW_4, ifW_6]; first | exact hT | exact pk_)), hf⟩
set_option maxHeartbeats 4000000 in
set_option maxRecDepth 100000 in
theorem S_X10_turn (X : En) (l : Launch) {h : Hp} {x : PW} {c : RC} {z : RZ} (O28 : h 28 = some (rB x (-1) c z)) (hW : WOK x) {W : Nat → PW} (hT : TRs c.2.2.2.2.2.1 c.2.2.2.2.2.2.1 W) (ht : c.2.2.2.2.2.2.1 ≤ 8) {l0 k f : Int32} : Ct X l mX10_turn [aR 28 0, aI l0, aI k, aI f] h (QI (fun vr h2 => (rV (wTurn x l0 k f) (aTurn x l0)) = vr ∧ ∃ (T2 : FI) (z1 : RZ), h2 (28) = some (rB (ifW (wTurn x l0 k f) (turnX x l0 k f) x) (-1) (rS (wTurn x l0 k f) c.1, c.2.1, c.2.2.1, c.2.2.2.1, c.2.2.2.2.1, T2, ifW (wTurn x l0 k f) (moP c.2.2.2.2.2.2.1) c.2.2.2.2.2.2.1, c.2.2.2.2.2.2.2) z1) ∧ (TRs T2 (ifW (wTurn x l0 k f) (moP c.2.2.2.2.2.2.1) c.2.2.2.2.2.2.1) (ifW (wTurn x l0 k f) (kpW c.2.2.2.2.2.2.1 W x) W)) ∧ ∀ i, i ≠ 28 → h2 i = h i)) := by
  have hx := hW.1
  have hp := hW.2.1
  have h10 := hx.1
  have hf : ∀ i, i ≠ 28 → h i = h i := fun _ _ => rfl
  refine Ct.intro [some (aR 28 0), some (aI l0), some (aI k), some (aI f), none, none] (by decide +kernel) rfl (Nat.le_of_ble_eq_true rfl) ?_
  refine A_aload_n 1 dX10_turn_0 rfl rfl rfl ?_
  refine A_iconst 2 (0) dX10_turn_1 rfl (by decide) ?_
  refine P_X10_9 5 dX10_turn_2 rfl fw_X10_78 O28 (fun h_1 nh_1 eh_1 => ?_)
  replace O28 := nh_1
  replace hf : ∀ i, i ≠ 28 → h_1 i = h i := fun i g0 => (eh_1 i g0).trans (hf i g0)
  try dsimp only at O28
  refine A_joinI 41 (fun vj => vj = wTurn x l0 k f) (fun j41 => ?_) (fun v41 e41 => ?_)
  · skip
    refine A_aload_n 6 dX10_turn_5 rfl rfl rfl ?_
    refine A_iload_n 7 dX10_turn_6 rfl rfl rfl ?_
    refine A_callVI 10 (S_X10_isLaw X l (by first | assumption | decide | omega | exact Ne.symm (by assumption)) (by first | assumption | decide | omega | exact Ne.symm (by assumption))) dX10_turn_7 rfl kX10_isLaw lk_X10_206 rfl O28 (by decide) rfl (Nat.le_of_ble_eq_true rfl) (fun v_2 h_2 qh_2 => ?_)
    obtain ⟨rfl, rfl⟩ := qh_2
    refine A_if_ne 17 13 dX10_turn_10 (by decide) rfl (fun c10 => ?_) (fun c10 => ?_)
    · skip
      try simp only [bI_0, bI_n0, Classical.not_not, Bool.not_eq_false, Bool.true_and, Bool.and_true, decide_eq_true_eq, decide_eq_false_iff_not, dayC_1, dayC_21, dayC_221, dayC_222, inI_1, inI_2, inI_3, inI_5, inI_11, inI_16] at c10
      obtain ⟨k_l0, rfl, hk_l0⟩ := inN_ex c10 (by omega)
      have cl_l0 : (nI k_l0).toNatClampNeg = k_l0 := nI_clamp (by omega)
      refine A_iload_n 18 dX10_turn_17 rfl rfl rfl ?_
      refine A_i2l 19 dX10_turn_18 rfl ?_
      refine A_lconst 20 (0) dX10_turn_19 rfl (by decide) ?_
      refine A_ldc2_w 23 _ dX10_turn_20 rfl cn_X10_211 ?_
      refine A_callSI 26 (S_X10_in X l) dX10_turn_23 rfl kX10_in lk_X10_84 rfl (by decide) rfl (Nat.le_of_ble_eq_true rfl) (fun v_3 h_3 qh_3 => ?_)
      obtain ⟨rfl, rfl⟩ := qh_3
      refine A_if_ne 34 29 dX10_turn_26 (by decide) rfl (fun c26 => ?_) (fun c26 => ?_)
      · skip
        try simp only [bI_0, bI_n0, Classical.not_not, Bool.not_eq_false, Bool.true_and, Bool.and_true, decide_eq_true_eq, decide_eq_false_iff_not, dayC_1, dayC_21, dayC_221, dayC_222, inI_1, inI_2, inI_3, inI_5, inI_11, inI_16] at c26
        refine A_iload_n 35 dX10_turn_34 rfl rfl rfl ?_
        refine A_iconst 36 (0) dX10_turn_35 rfl (by decide) ?_
        refine A_bipush 38 (9) dX10_turn_36 rfl (by decide) ?_
        refine A_callSI 41 (S_X10_wrongNumber X l) dX10_turn_38 rfl kX10_wrongNumber lk_X10_213 rfl (by decide) rfl (Nat.le_of_ble_eq_true rfl) (fun v_4 h_4 qh_4 => ?_)
        obtain ⟨rfl, rfl⟩ := qh_4
        exact j41 _ (by first | (simp only [c10, cl_l0, c26, if_true, if_false, ite_true, ite_false, and_true, true_and, and_false, false_and, and_self, or_true, true_or, or_false, false_or, or_self, not_true_eq_false, not_false_eq_true, decide_true, decide_false, Bool.and_true, Bool.true_and, Bool.and_false, Bool.false_and, Bool.and_self, Bool.or_true, Bool.true_or, Bool.or_false, Bool.false_or, Bool.not_true, Bool.not_false, cond_true, cond_false, bI_t, bI_f, Bool.false_eq_true, Bool.true_eq_false, dayC_1, dayC_21, dayC_221, dayC_222, wTurn, w01, wP, wPL, wP01, wL01, wRow, w01R, wAB, wNum, isP, isL, wrB_N, wrB_0, wrB_1]; done) | (simp only [c10, cl_l0, c26, if_true, if_false, ite_true, ite_false, and_true, true_and, and_false, false_and, and_self, or_true, true_or, or_false, false_or, or_self, not_true_eq_false, not_false_eq_true, decide_true, decide_false, Bool.and_true, Bool.true_and, Bool.and_false, Bool.false_and, Bool.and_self, Bool.or_true, Bool.true_or, Bool.or_false, Bool.false_or, Bool.not_true, Bool.not_false, cond_true, cond_false, bI_t, bI_f, Bool.false_eq_true, Bool.true_eq_false, dayC_1, dayC_21, dayC_221, dayC_222, wrN, wTurn, w01, wP, wPL, wP01, wL01, wRow, w01R, wAB, wNum, isP, isL, wrB_N, wrB_0, wrB_1]; done) | (simp only [c10, cl_l0, c26, if_true, if_false, ite_true, ite_false, and_true, true_and, and_false, false_and, and_self, or_true, true_or, or_false, false_or, or_self, not_true_eq_false, not_false_eq_true, decide_true, decide_false, Bool.and_true, Bool.true_and, Bool.and_false, Bool.false_and, Bool.and_self, Bool.or_true, Bool.true_or, Bool.or_false, Bool.false_or, Bool.not_true, Bool.not_false, cond_true, cond_false, bI_t, bI_f, Bool.false_eq_true, Bool.true_eq_false, dayC_1, dayC_21, dayC_221, dayC_222, wrN, wTurn, w01, wP, wPL, wP01, wL01, wRow, w01R, wAB, wNum, isP, isL, wrB_N, wrB_0, wrB_1]; rfl))
      · skip
        try simp only [bI_0, bI_n0, Classical.not_not, Bool.not_eq_false, Bool.true_and, Bool.and_true, decide_eq_true_eq, decide_eq_false_iff_not, dayC_1, dayC_21, dayC_221, dayC_222, inI_1, inI_2, inI_3, inI_5, inI_11, inI_16] at c26
        refine A_bipush 31 (-2) dX10_turn_29 rfl (by decide) ?_
        refine A_goto 41 dX10_turn_31 (by decide) ?_
        exact j41 _ (by first | (simp only [c10, cl_l0, c26, if_true, if_false, ite_true, ite_false, and_true, true_and, and_false, false_and, and_self, or_true, true_or, or_false, false_or, or_self, not_true_eq_false, not_false_eq_true, decide_true, decide_false, Bool.and_true, Bool.true_and, Bool.and_false, Bool.false_and, Bool.and_self, Bool.or_true, Bool.true_or, Bool.or_false, Bool.false_or, Bool.not_true, Bool.not_false, cond_true, cond_false, bI_t, bI_f, Bool.false_eq_true, Bool.true_eq_false, dayC_1, dayC_21, dayC_221, dayC_222, wTurn, w01, wP, wPL, wP01, wL01, wRow, w01R, wAB, wNum, isP, isL, wrB_N, wrB_0, wrB_1]; done) | (simp only [c10, cl_l0, c26, if_true, if_false, ite_true, ite_false, and_true, true_and, and_false, false_and, and_self, or_true, true_or, or_false, false_or, or_self, not_true_eq_false, not_false_eq_true, decide_true, decide_false, Bool.and_true, Bool.true_and, Bool.and_false, Bool.false_and, Bool.and_self, Bool.or_true, Bool.true_or, Bool.or_false, Bool.false_or, Bool.not_true, Bool.not_false, cond_true, cond_false, bI_t, bI_f, Bool.false_eq_true, Bool.true_eq_false, dayC_1, dayC_21, dayC_221, dayC_222, wrN, wTurn, w01, wP, wPL, wP01, wL01, wRow, w01R, wAB, wNum, isP, isL, wrB_N, wrB_0, wrB_1]; done) | (simp only [c10, cl_l0, c26, if_true, if_false, ite_true, ite_false, and_true, true_and, and_false, false_and, and_self, or_true, true_or, or_false, false_or, or_self, not_true_eq_false, not_false_eq_true, decide_true, decide_false, Bool.and_true, Bool.true_and, Bool.and_false, Bool.false_and, Bool.and_self, Bool.or_true, Bool.true_or, Bool.or_false, Bool.false_or, Bool.not_true, Bool.not_false, cond_true, cond_false, bI_t, bI_f, Bool.false_eq_true, Bool.true_eq_false, dayC_1, dayC_21, dayC_221, dayC_222, wrN, wTurn, w01, wP, wPL, wP01, wL01, wRow, w01R, wAB, wNum, isP, isL, wrB_N, wrB_0, wrB_1]; rfl))
    · skip
      try simp only [bI_0, bI_n0, Classical.not_not, Bool.not_eq_false, Bool.true_and, Bool.and_true, decide_eq_true_eq, decide_eq_false_iff_not, dayC_1, dayC_21, dayC_221, dayC_222, inI_1, inI_2, inI_3, inI_5, inI_11, inI_16] at c10
      refine A_iconst 14 (-1) dX10_turn_13 rfl (by decide) ?_
      refine A_goto 41 dX10_turn_14 (by decide) ?_
      exact j41 _ (by first | (simp only [c10, if_true, if_false, ite_true, ite_false, and_true, true_and, and_false, false_and, and_self, or_true, true_or, or_false, false_or, or_self, not_true_eq_false, not_false_eq_true, decide_true, decide_false, Bool.and_true, Bool.true_and, Bool.and_false, Bool.false_and, Bool.and_self, Bool.or_true, Bool.true_or, Bool.or_false, Bool.false_or, Bool.not_true, Bool.not_false, cond_true, cond_false, bI_t, bI_f, Bool.false_eq_true, Bool.true_eq_false, dayC_1, dayC_21, dayC_221, dayC_222, wTurn, w01, wP, wPL, wP01, wL01, wRow, w01R, wAB, wNum, isP, isL, wrB_N, wrB_0, wrB_1]; done) | (simp only [c10, if_true, if_false, ite_true, ite_false, and_true, true_and, and_false, false_and, and_self, or_true, true_or, or_false, false_or, or_self, not_true_eq_false, not_false_eq_true, decide_true, decide_false, Bool.and_true, Bool.true_and, Bool.and_false, Bool.false_and, Bool.and_self, Bool.or_true, Bool.true_or, Bool.or_false, Bool.false_or, Bool.not_true, Bool.not_false, cond_true, cond_false, bI_t, bI_f, Bool.false_eq_true, Bool.true_eq_false, dayC_1, dayC_21, dayC_221, dayC_222, wrN, wTurn, w01, wP, wPL, wP01, wL01, wRow, w01R, wAB, wNum, isP, isL, wrB_N, wrB_0, wrB_1]; done) | (simp only [c10, if_true, if_false, ite_true, ite_false, and_true, true_and, and_false, false_and, and_self, or_true, true_or, or_false, false_or, or_self, not_true_eq_false, not_false_eq_true, decide_true, decide_false, Bool.and_true, Bool.true_and, Bool.and_false, Bool.false_and, Bool.and_self, Bool.or_true, Bool.true_or, Bool.or_false, Bool.false_or, Bool.not_true, Bool.not_false, cond_true, cond_false, bI_t, bI_f, Bool.false_eq_true, Bool.true_eq_false, dayC_1, dayC_21, dayC_221, dayC_222, wrN, wTurn, w01, wP, wPL, wP01, wL01, wRow, w01R, wAB, wNum, isP, isL, wrB_N, wrB_0, wrB_1]; rfl))
  subst e41
  refine A_istore 43 dX10_turn_41 rfl (by decide) (by first | exact (ast_s (ast_s (ast_s (ast_1 rfl)))) | exact (ast_s (ast_s (ast_s ast_k)))) ?_
  refine A_iload 45 dX10_turn_43 rfl rfl ?_
  refine A_if_ge 55 48 dX10_turn_45 (by decide) rfl (fun c45 => ?_) (fun c45 => ?_)
  · skip
    try simp only [bI_0, bI_n0, Classical.not_not, Bool.not_eq_false, Bool.true_and, Bool.and_true, decide_eq_true_eq, decide_eq_false_iff_not, dayC_1, dayC_21, dayC_221, dayC_222, inI_1, inI_2, inI_3, inI_5, inI_11, inI_16] at c45
    have n45 := c45
    replace c45 := Int32.not_lt.mpr c45
    have hw0 : wTurn x l0 k f = 0 := cz_pos wTurn_cz c45
    obtain ⟨f1, f2, f3, f4⟩ := wTurn_0 hw0
    obtain ⟨k_l0, rfl, hk_l0⟩ := inN_ex f1 (by omega)
    have cl_l0 : (nI k_l0).toNatClampNeg = k_l0 := nI_clamp (by omega)
    have hk6_l0 : k_l0 < 10 := by omega
    refine A_aload_n 56 dX10_turn_55 rfl rfl rfl ?_
    refine A_callVV 59 (S_X10_keepTurn X l (by first | assumption | decide | omega | exact Ne.symm (by assumption)) (by first | assumption | decide | omega | exact Ne.symm (by assumption)) (by first | assumption | decide | omega | exact Ne.symm (by assumption))) dX10_turn_56 rfl kX10_keepTurn lk_X10_220 rfl O28 (by decide) rfl (Nat.le_of_ble_eq_true rfl) (fun h_5 qh_5 => ?_)
    obtain ⟨T3_5, z1_5, n0h_5, ph_5, eh_5⟩ := qh_5
    replace O28 := n0h_5
    replace hf : ∀ i, i ≠ 28 → h_5 i = h i := fun i g0 => (eh_5 i g0).trans (hf i g0)
    have pk_ := ph_5
    refine A_bipush 61 (10) dX10_turn_59 rfl (by decide) ?_
    refine A_aload_n 62 dX10_turn_61 rfl rfl rfl ?_
    refine A_getfield 65 dX10_turn_62 rfl f_X10_7 O28 rfl ?_
    refine A_iload_n 66 dX10_turn_65 rfl rfl rfl ?_
    refine A_iaload 67 dX10_turn_66 rfl O28 rfl (by first | assumption | exact ix_nI (by omega) (by decide) | exact ix_lit _ rfl (by omega) (by decide) | exact ix_lit _ rfl (by decide) (by decide)) ?_
    try dsimp only
    refine A_imul 68 dX10_turn_67 rfl ?_
    refine A_aload_n 69 dX10_turn_68 rfl rfl rfl ?_
    refine A_getfield 72 dX10_turn_69 rfl f_X10_13 O28 rfl ?_
    refine A_iload_n 73 dX10_turn_72 rfl rfl rfl ?_
    refine A_iaload 74 dX10_turn_73 rfl O28 rfl (by first | assumption | exact ix_nI (by omega) (by decide) | exact ix_lit _ rfl (by omega) (by decide) | exact ix_lit _ rfl (by decide) (by decide)) ?_
    try dsimp only
    refine A_iadd 75 dX10_turn_74 rfl ?_
    refine A_istore 77 dX10_turn_75 rfl (by decide) (by first | exact (ast_s (ast_s (ast_s (ast_s (ast_1 rfl))))) | exact (ast_s (ast_s (ast_s (ast_s ast_k))))) ?_
    refine A_aload_n 78 dX10_turn_77 rfl rfl rfl ?_
    refine A_getfield 81 dX10_turn_78 rfl f_X10_7 O28 rfl ?_
    refine A_iload_n 82 dX10_turn_81 rfl rfl rfl ?_
    refine A_iload_n 83 dX10_turn_82 rfl rfl rfl ?_
    refine T_X10_0 84 dX10_turn_83 rfl O28 (by first | assumption | exact ix_nI (by omega) (by decide) | exact ix_lit _ rfl (by omega) (by decide) | exact ix_lit _ rfl (by decide) (by decide)) (fun h_6 nh_6 eh_6 => ?_)
    replace O28 := nh_6
    replace hf : ∀ i, i ≠ 28 → h_6 i = h i := fun i g0 => (eh_6 i g0).trans (hf i g0)
    try dsimp only at O28
    refine A_aload_n 85 dX10_turn_84 rfl rfl rfl ?_
    refine A_getfield 88 dX10_turn_85 rfl f_X10_13 O28 rfl ?_
    refine A_iload_n 89 dX10_turn_88 rfl rfl rfl ?_
    refine A_iload_n 90 dX10_turn_89 rfl rfl rfl ?_
    refine T_X10_1 91 dX10_turn_90 rfl O28 (by first | assumption | exact ix_nI (by omega) (by decide) | exact ix_lit _ rfl (by omega) (by decide) | exact ix_lit _ rfl (by decide) (by decide)) (fun h_7 nh_7 eh_7 => ?_)
    replace O28 := nh_7
    replace hf : ∀ i, i ≠ 28 → h_7 i = h i := fun i g0 => (eh_7 i g0).trans (hf i g0)
    try dsimp only at O28
    refine A_iload 93 dX10_turn_91 rfl rfl ?_
    refine A_iret dX10_turn_93 rfl ⟨_, rfl, (by rw [hw0, rV_0]; unfold aTurn; rw [cl_l0]; rfl), _, _, (by rw [hw0, rS_0]; simp only [ifW_0, ifW_1, ifW_2, ifW_3, ifW_4, ifW_6]; unfold turnX; rw [cl_l0]; exact O28), ((by rw [hw0]; simp only [ifW_0, ifW_1, ifW_2, ifW_3, ifW_4, ifW_6]; exact pk_)), hf⟩
  · skip
    try simp only [bI_0, bI_n0, Classical.not_not, Bool.not_eq_false, Bool.true_and, Bool.and_true, decide_eq_true_eq, decide_eq_false_iff_not, dayC_1, dayC_21, dayC_221, dayC_222, inI_1, inI_2, inI_3, inI_5, inI_11, inI_16] at c45
    have n45 := c45
    replace c45 := Int32.not_le.mp c45
    have hcd : CD (wTurn x l0 k f) := cz_neg wTurn_cz c45
    refine A_aload_n 49 dX10_turn_48 rfl rfl rfl ?_
    refine A_iload 51 dX10_turn_49 rfl rfl ?_
    refine A_callVI 54 (S_X10_refuse_c X l (by first | assumption | decide | omega | exact Ne.symm (by assumption)) (by first | assumption | (unfold CD; decide))) dX10_turn_51 rfl kX10_refuse lk_X10_121 rfl O28 (by decide) rfl (Nat.le_of_ble_eq_true rfl) (fun v_8 h_8 qh_8 => ?_)
    obtain ⟨rfl, n0h_8, eh_8⟩ := qh_8
    replace O28 := n0h_8
    replace hf : ∀ i, i ≠ 28 → h_8 i = h i := fun i g0 => (eh_8 i g0).trans (hf i g0)
    refine A_iret dX10_turn_54 rfl ⟨_, rfl, (by exact rV_n hcd.ne), _, _, (by simp only [ifW_n hcd.ne]; exact O28), ((by simp only [ifW_n hcd.ne]; exact hT)), hf⟩
set_option maxHeartbeats 4000000 in
set_option maxRecDepth 100000 in
theorem S_X10_day (X : En) (l : Launch) {h : Hp} {x : PW} {c : RC} {z : RZ} (O28 : h 28 = some (rB x (-1) c z)) (hW : WOK x) {W : Nat → PW} (hT : TRs c.2.2.2.2.2.1 c.2.2.2.2.2.2.1 W) (ht : c.2.2.2.2.2.2.1 ≤ 8) : Ct X l mX10_day [aR 28 0] h (QI (fun vr h2 => (rV (wDay x) ((passS x).2)) = vr ∧ ∃ (T2 : FI) (z1 : RZ), h2 (28) = some (rB (ifW (wDay x) (passX x) x) (-1) (rS (wDay x) c.1, c.2.1, c.2.2.1, c.2.2.2.1, c.2.2.2.2.1, T2, ifW (wDay x) (moP c.2.2.2.2.2.2.1) c.2.2.2.2.2.2.1, c.2.2.2.2.2.2.2) z1) ∧ (TRs T2 (ifW (wDay x) (moP c.2.2.2.2.2.2.1) c.2.2.2.2.2.2.1) (ifW (wDay x) (kpW c.2.2.2.2.2.2.1 W x) W)) ∧ ∀ i, i ≠ 28 → h2 i = h i)) := by
  have hx := hW.1
  have hp := hW.2.1
  have h10 := hx.1
  have hf : ∀ i, i ≠ 28 → h i = h i := fun _ _ => rfl
  refine Ct.intro [some (aR 28 0)] (by decide +kernel) rfl (Nat.le_of_ble_eq_true rfl) ?_
  refine A_aload_n 1 dX10_day_0 rfl rfl rfl ?_
  refine A_iconst 2 (0) dX10_day_1 rfl (by decide) ?_
  refine P_X10_9 5 dX10_day_2 rfl fw_X10_78 O28 (fun h_1 nh_1 eh_1 => ?_)
  replace O28 := nh_1
  replace hf : ∀ i, i ≠ 28 → h_1 i = h i := fun i g0 => (eh_1 i g0).trans (hf i g0)
  try dsimp only at O28
  refine A_aload_n 6 dX10_day_5 rfl rfl rfl ?_
  refine A_getfield 9 dX10_day_6 rfl f_X10_118 O28 rfl ?_
  try dsimp only
  refine A_sipush 12 (999) dX10_day_9 rfl (by decide) ?_
  refine A_icmp_ne 22 15 dX10_day_12 (by decide) rfl (fun c12 => ?_) (fun c12 => ?_)
  · skip
    try simp only [bI_0, bI_n0, Classical.not_not, Bool.not_eq_false, Bool.true_and, Bool.and_true, decide_eq_true_eq, decide_eq_false_iff_not, dayC_1, dayC_21, dayC_221, dayC_222, inI_1, inI_2, inI_3, inI_5, inI_11, inI_16] at c12
    have cl_d := day_lt hW c12
    refine A_aload_n 23 dX10_day_22 rfl rfl rfl ?_
    refine A_callVV 26 (S_X10_keepTurn X l (by first | assumption | decide | omega | exact Ne.symm (by assumption)) (by first | assumption | decide | omega | exact Ne.symm (by assumption)) (by first | assumption | decide | omega | exact Ne.symm (by assumption))) dX10_day_23 rfl kX10_keepTurn lk_X10_220 rfl O28 (by decide) rfl (Nat.le_of_ble_eq_true rfl) (fun h_2 qh_2 => ?_)
    obtain ⟨T3_2, z1_2, n0h_2, ph_2, eh_2⟩ := qh_2
    replace O28 := n0h_2
    replace hf : ∀ i, i ≠ 28 → h_2 i = h i := fun i g0 => (eh_2 i g0).trans (hf i g0)
    have pk_ := ph_2
    refine A_aload_n 27 dX10_day_26 rfl rfl rfl ?_
    refine A_callVI 30 (S_X10_dayPasses X l (by first | assumption | decide | omega | exact Ne.symm (by assumption)) (by first | assumption | decide | omega | exact Ne.symm (by assumption)) (by first | assumption | decide | omega | exact Ne.symm (by assumption))) dX10_day_27 rfl kX10_dayPasses lk_X10_169 rfl O28 (by decide) rfl (Nat.le_of_ble_eq_true rfl) (fun v_3 h_3 qh_3 => ?_)
    obtain ⟨rfl, d_3, n0h_3, eh_3⟩ := qh_3
    replace O28 := n0h_3
    replace hf : ∀ i, i ≠ 28 → h_3 i = h i := fun i g0 => (eh_3 i g0).trans (hf i g0)
    have ew : wDay x = 0 := by
      first | (simp only [c12, cl_d, if_true, if_false, ite_true, ite_false, and_true, true_and, and_false, false_and, and_self, or_true, true_or, or_false, false_or, or_self, not_true_eq_false, not_false_eq_true, decide_true, decide_false, Bool.and_true, Bool.true_and, Bool.and_false, Bool.false_and, Bool.and_self, Bool.or_true, Bool.true_or, Bool.or_false, Bool.false_or, Bool.not_true, Bool.not_false, cond_true, cond_false, bI_t, bI_f, Bool.false_eq_true, Bool.true_eq_false, dayC_1, dayC_21, dayC_221, dayC_222, wDay, w01, wP, wPL, wP01, wL01, wRow, w01R, wAB, wNum, isP, isL]; done)
    refine A_iret dX10_day_30 rfl ⟨_, rfl, (by rw [ew, rV_0]; first | done | rfl), _, _, (by rw [ew]; simp only [ifW_0, ifW_1, ifW_2, ifW_3, ifW_4, ifW_6]; first | (rw [rS_0]; exact O28) | exact O28), ((by rw [ew]; simp only [ifW_0, ifW_1, ifW_2, ifW_3, ifW_4, ifW_6]; first | exact hT | exact pk_)), hf⟩
  · skip
    try simp only [bI_0, bI_n0, Classical.not_not, Bool.not_eq_false, Bool.true_and, Bool.and_true, decide_eq_true_eq, decide_eq_false_iff_not, dayC_1, dayC_21, dayC_221, dayC_222, inI_1, inI_2, inI_3, inI_5, inI_11, inI_16] at c12
    have cl_d : ¬ x.2.2.2.2.2 < 999 := by rw [c12]; decide
    refine A_aload_n 16 dX10_day_15 rfl rfl rfl ?_
    refine A_bipush 18 (-6) dX10_day_16 rfl (by decide) ?_
    refine A_callVI 21 (S_X10_refuse_c X l (by first | assumption | decide | omega | exact Ne.symm (by assumption)) (by first | assumption | (unfold CD; decide))) dX10_day_18 rfl kX10_refuse lk_X10_121 rfl O28 (by decide) rfl (Nat.le_of_ble_eq_true rfl) (fun v_4 h_4 qh_4 => ?_)
    obtain ⟨rfl, n0h_4, eh_4⟩ := qh_4
    replace O28 := n0h_4
    replace hf : ∀ i, i ≠ 28 → h_4 i = h i := fun i g0 => (eh_4 i g0).trans (hf i g0)
    have ew : wDay x = -6 := by
      first | (simp only [c12, cl_d, if_true, if_false, ite_true, ite_false, and_true, true_and, and_false, false_and, and_self, or_true, true_or, or_false, false_or, or_self, not_true_eq_false, not_false_eq_true, decide_true, decide_false, Bool.and_true, Bool.true_and, Bool.and_false, Bool.false_and, Bool.and_self, Bool.or_true, Bool.true_or, Bool.or_false, Bool.false_or, Bool.not_true, Bool.not_false, cond_true, cond_false, bI_t, bI_f, Bool.false_eq_true, Bool.true_eq_false, dayC_1, dayC_21, dayC_221, dayC_222, wDay, w01, wP, wPL, wP01, wL01, wRow, w01R, wAB, wNum, isP, isL]; done) | (simp only [eq_true c12, cl_d, if_true, if_false, ite_true, ite_false, and_true, true_and, and_false, false_and, and_self, or_true, true_or, or_false, false_or, or_self, not_true_eq_false, not_false_eq_true, decide_true, decide_false, Bool.and_true, Bool.true_and, Bool.and_false, Bool.false_and, Bool.and_self, Bool.or_true, Bool.true_or, Bool.or_false, Bool.false_or, Bool.not_true, Bool.not_false, cond_true, cond_false, bI_t, bI_f, Bool.false_eq_true, Bool.true_eq_false, dayC_1, dayC_21, dayC_221, dayC_222, wDay, w01, wP, wPL, wP01, wL01, wRow, w01R, wAB, wNum, isP, isL]; done)
    refine A_iret dX10_day_21 rfl ⟨_, rfl, (by rw [ew]; exact rV_n (by decide)), _, _, (by rw [ew]; simp only [ifW_0, ifW_1, ifW_2, ifW_3, ifW_4, ifW_6]; first | (rw [rS_0]; exact O28) | exact O28), ((by rw [ew]; simp only [ifW_0, ifW_1, ifW_2, ifW_3, ifW_4, ifW_6]; first | exact hT | exact pk_)), hf⟩
set_option maxHeartbeats 4000000 in
set_option maxRecDepth 100000 in
theorem S_X10_judge (X : En) (l : Launch) {h : Hp} {x : PW} {c : RC} {z : RZ} (O28 : h 28 = some (rB x (-1) c z)) (hW : WOK x) (hn : c.2.2.2.2.2.2.2.2 ≤ 16) {p : Int32} : Ct X l mX10_judge [aR 28 0, aI p] h (QI (fun vr h2 => (rV (wP x p) (FW c.2.2.2.2.2.2.2.1 c.2.2.2.2.2.2.2.2 (dLaw x 0 (pk x p)))) = vr ∧ ∃ (z1 : RZ), h2 (28) = some (rB x (-1) (rS (wP x p) c.1, c.2.1, c.2.2.1, c.2.2.2.1, c.2.2.2.2.1, c.2.2.2.2.2.1, c.2.2.2.2.2.2.1, c.2.2.2.2.2.2.2.1, ifW (wP x p) 0 c.2.2.2.2.2.2.2.2) z1) ∧ ∀ i, i ≠ 28 → h2 i = h i)) := by
  have hx := hW.1
  have hp := hW.2.1
  have h10 := hx.1
  have hf : ∀ i, i ≠ 28 → h i = h i := fun _ _ => rfl
  refine Ct.intro [some (aR 28 0), some (aI p), none, none] (by decide +kernel) rfl (Nat.le_of_ble_eq_true rfl) ?_
  refine A_aload_n 1 dX10_judge_0 rfl rfl rfl ?_
  refine A_iconst 2 (0) dX10_judge_1 rfl (by decide) ?_
  refine P_X10_9 5 dX10_judge_2 rfl fw_X10_78 O28 (fun h_1 nh_1 eh_1 => ?_)
  replace O28 := nh_1
  replace hf : ∀ i, i ≠ 28 → h_1 i = h i := fun i g0 => (eh_1 i g0).trans (hf i g0)
  try dsimp only at O28
  refine A_aload_n 6 dX10_judge_5 rfl rfl rfl ?_
  refine A_iload_n 7 dX10_judge_6 rfl rfl rfl ?_
  refine A_callVI 10 (S_X10_isOne X l (by first | assumption | decide | omega | exact Ne.symm (by assumption)) (by first | assumption | decide | omega | exact Ne.symm (by assumption))) dX10_judge_7 rfl kX10_isOne lk_X10_160 rfl O28 (by decide) rfl (Nat.le_of_ble_eq_true rfl) (fun v_2 h_2 qh_2 => ?_)
  obtain ⟨rfl, rfl⟩ := qh_2
  refine A_if_ne 19 13 dX10_judge_10 (by decide) rfl (fun c10 => ?_) (fun c10 => ?_)
  · skip
    try simp only [bI_0, bI_n0, Classical.not_not, Bool.not_eq_false, Bool.true_and, Bool.and_true, decide_eq_true_eq, decide_eq_false_iff_not, dayC_1, dayC_21, dayC_221, dayC_222, inI_1, inI_2, inI_3, inI_5, inI_11, inI_16] at c10
    obtain ⟨k_p, rfl, hk_p⟩ := inN_ex c10 (by omega)
    have cl_p : (nI k_p).toNatClampNeg = k_p := nI_clamp (by omega)
    refine A_aload_n 20 dX10_judge_19 rfl rfl rfl ?_
    refine A_getfield 23 dX10_judge_20 rfl f_X10_236 O28 rfl ?_
    try dsimp only
    refine A_istore_n 24 dX10_judge_23 rfl rfl (by decide) (by first | exact (ast_s (ast_1 rfl)) | exact (ast_s ast_k)) ?_
    refine A_aload_n 25 dX10_judge_24 rfl rfl rfl ?_
    refine A_iconst 26 (0) dX10_judge_25 rfl (by decide) ?_
    refine P_X10_32 29 dX10_judge_26 rfl fw_X10_236 O28 (fun h_3 nh_3 eh_3 => ?_)
    replace O28 := nh_3
    replace hf : ∀ i, i ≠ 28 → h_3 i = h i := fun i g0 => (eh_3 i g0).trans (hf i g0)
    try dsimp only at O28
    refine A_aload_n 30 dX10_judge_29 rfl rfl rfl ?_
    refine A_iload_n 31 dX10_judge_30 rfl rfl rfl ?_
    refine A_callVI 34 (S_X10_doneBy_n X l (by first | assumption | decide | omega | exact Ne.symm (by assumption)) (by first | assumption | decide | omega | exact Ne.symm (by assumption)) (by first | assumption | decide | omega | exact Ne.symm (by assumption))) dX10_judge_31 rfl kX10_doneBy lk_X10_115 rfl O28 (by decide) rfl (Nat.le_of_ble_eq_true rfl) (fun v_4 h_4 qh_4 => ?_)
    obtain ⟨rfl, n0h_4, eh_4⟩ := qh_4
    replace O28 := n0h_4
    replace hf : ∀ i, i ≠ 28 → h_4 i = h i := fun i g0 => (eh_4 i g0).trans (hf i g0)
    refine A_pop 35 dX10_judge_34 rfl rfl ?_
    refine A_iconst 36 (0) dX10_judge_35 rfl (by decide) ?_
    refine A_istore_n 37 dX10_judge_36 rfl rfl (by decide) (by first | exact (ast_s (ast_s (ast_1 rfl))) | exact (ast_s (ast_s ast_k))) ?_
    have L37 : ∀ (nq i : Nat)  , (nq + i = c.2.2.2.2.2.2.2.2) → (fwN c.2.2.2.2.2.2.2.1 (dLaw x 0 (x.2.1 k_p)) nq i = FW c.2.2.2.2.2.2.2.1 c.2.2.2.2.2.2.2.2 (dLaw x 0 (x.2.1 k_p))) → Av X l mX10_judge 37 [some (aR 28 0), some (aI (nI (k_p))), some (aI (nI (c.2.2.2.2.2.2.2.2))), some (aI (nI (i)))] [] h_4 (QI (fun vr h2 => (rV (wP x (nI k_p)) (FW c.2.2.2.2.2.2.2.1 c.2.2.2.2.2.2.2.2 (dLaw x 0 (pk x (nI k_p))))) = vr ∧ ∃ (z1 : RZ), h2 (28) = some (rB x (-1) (rS (wP x (nI k_p)) c.1, c.2.1, c.2.2.1, c.2.2.2.1, c.2.2.2.2.1, c.2.2.2.2.2.1, c.2.2.2.2.2.2.1, c.2.2.2.2.2.2.2.1, ifW (wP x (nI k_p)) 0 c.2.2.2.2.2.2.2.2) z1) ∧ ∀ i, i ≠ 28 → h2 i = h i)) := by
      intro nq
      induction nq using Nat.strongRecOn with
      | _ nq ih =>
      intro i en ee
      refine A_iload_n 38 dX10_judge_37 rfl rfl rfl ?_
      refine A_iload_n 39 dX10_judge_38 rfl rfl rfl ?_
      refine A_icmp_ge 85 42 dX10_judge_39 (by decide) rfl (fun c39 => ?_) (fun c39 => ?_)
      · skip
        obtain rfl := (up_ge_T (N := c.2.2.2.2.2.2.2.2) c39 rfl (by omega) (by omega)).symm
        refine A_bipush 87 (-9) dX10_judge_85 rfl (by decide) ?_
        have ew : wP x (nI k_p) = 0 := by
          first | (simp only [c10, cl_p, if_true, if_false, ite_true, ite_false, and_true, true_and, and_false, false_and, and_self, or_true, true_or, or_false, false_or, or_self, not_true_eq_false, not_false_eq_true, decide_true, decide_false, Bool.and_true, Bool.true_and, Bool.and_false, Bool.false_and, Bool.and_self, Bool.or_true, Bool.true_or, Bool.or_false, Bool.false_or, Bool.not_true, Bool.not_false, cond_true, cond_false, bI_t, bI_f, Bool.false_eq_true, Bool.true_eq_false, dayC_1, dayC_21, dayC_221, dayC_222, w01, wP, wPL, wP01, wL01, wRow, w01R, wAB, wNum, isP, isL]; done)
        refine A_iret dX10_judge_87 rfl ⟨_, rfl, (by rw [ew, rV_0]; unfold pk; rw [cl_p, ← ee, show nq = 0 by omega]; rfl), _, (by rw [ew]; simp only [ifW_0, ifW_1, ifW_2, ifW_3, ifW_4, ifW_6]; first | (rw [rS_0]; exact O28) | exact O28), hf⟩
      · skip
        have hi := up_ge_F (N := c.2.2.2.2.2.2.2.2) c39 rfl (by omega) (by omega)
        obtain ⟨n0, rfl⟩ : ∃ q, nq = q + 1 := ⟨nq - 1, by omega⟩
        refine A_iload_n 43 dX10_judge_42 rfl rfl rfl ?_
        refine A_bipush 45 (11) dX10_judge_43 rfl (by decide) ?_
        refine A_icmp_gt 77 48 dX10_judge_45 (by decide) rfl (fun c45 => ?_) (fun c45 => ?_)
        · skip
          try simp only [bI_0, bI_n0, Classical.not_not, Bool.not_eq_false, Bool.true_and, Bool.and_true, decide_eq_true_eq, decide_eq_false_iff_not, dayC_1, dayC_21, dayC_221, dayC_222, inI_1, inI_2, inI_3, inI_5, inI_11, inI_16] at c45
          have n45 := Int32.not_le.mpr c45
          have k12 : 12 ≤ i := by
            have q := (nlt_iff (a := 11) (b := i) (by decide) (by omega)).mp c45
            omega
          refine A_iload_n 78 dX10_judge_77 rfl rfl rfl ?_
          have ew : wP x (nI k_p) = 0 := by
            first | (simp only [c10, cl_p, c45, n45, if_true, if_false, ite_true, ite_false, and_true, true_and, and_false, false_and, and_self, or_true, true_or, or_false, false_or, or_self, not_true_eq_false, not_false_eq_true, decide_true, decide_false, Bool.and_true, Bool.true_and, Bool.and_false, Bool.false_and, Bool.and_self, Bool.or_true, Bool.true_or, Bool.or_false, Bool.false_or, Bool.not_true, Bool.not_false, cond_true, cond_false, bI_t, bI_f, Bool.false_eq_true, Bool.true_eq_false, dayC_1, dayC_21, dayC_221, dayC_222, w01, wP, wPL, wP01, wL01, wRow, w01R, wAB, wNum, isP, isL]; done)
          refine A_iret dX10_judge_78 rfl ⟨_, rfl, (by rw [ew, rV_0]; unfold pk; rw [cl_p, ← ee, fwN_s]; first | rw [if_pos (Or.inl k12)] | rw [if_pos (Or.inr (by rw [cl_t]; exact c74))]), _, (by rw [ew]; simp only [ifW_0, ifW_1, ifW_2, ifW_3, ifW_4, ifW_6]; first | (rw [rS_0]; exact O28) | exact O28), hf⟩
        · skip
          try simp only [bI_0, bI_n0, Classical.not_not, Bool.not_eq_false, Bool.true_and, Bool.and_true, decide_eq_true_eq, decide_eq_false_iff_not, dayC_1, dayC_21, dayC_221, dayC_222, inI_1, inI_2, inI_3, inI_5, inI_11, inI_16] at c45
          have n45 := Int32.not_lt.mp c45
          have k12 : ¬ 12 ≤ i := by
            have q := mt (nlt_iff (a := 11) (b := i) (by decide) (by omega)).mpr c45
            omega
          refine A_aload_n 49 dX10_judge_48 rfl rfl rfl ?_
          refine A_getfield 52 dX10_judge_49 rfl f_X10_62 O28 rfl ?_
          refine A_iload_n 53 dX10_judge_52 rfl rfl rfl ?_
          refine A_iaload 54 dX10_judge_53 rfl O28 rfl (by first | assumption | exact ix_nI (by omega) (by decide) | exact ix_lit _ rfl (by omega) (by decide) | exact ix_lit _ rfl (by decide) (by decide)) ?_
          try dsimp only
          refine A_aload_n 55 dX10_judge_54 rfl rfl rfl ?_
          refine A_getfield 58 dX10_judge_55 rfl f_X10_32 O28 rfl ?_
          refine A_iload_n 59 dX10_judge_58 rfl rfl rfl ?_
          refine A_iaload 60 dX10_judge_59 rfl O28 rfl (by first | assumption | exact ix_nI (by omega) (by decide) | exact ix_lit _ rfl (by omega) (by decide) | exact ix_lit _ rfl (by decide) (by decide)) ?_
          try dsimp only
          refine A_if_ge 68 63 dX10_judge_60 (by decide) rfl (fun c60 => ?_) (fun c60 => ?_)
          · skip
            try simp only [bI_0, bI_n0, Classical.not_not, Bool.not_eq_false, Bool.true_and, Bool.and_true, decide_eq_true_eq, decide_eq_false_iff_not, dayC_1, dayC_21, dayC_221, dayC_222, inI_1, inI_2, inI_3, inI_5, inI_11, inI_16] at c60
            have n60 := c60
            replace c60 := Int32.not_lt.mpr c60
            have cl_t := tell_pos c60
            refine A_aload_n 69 dX10_judge_68 rfl rfl rfl ?_
            refine A_getfield 72 dX10_judge_69 rfl f_X10_32 O28 rfl ?_
            refine A_iload_n 73 dX10_judge_72 rfl rfl rfl ?_
            refine A_iaload 74 dX10_judge_73 rfl O28 rfl (by first | assumption | exact ix_nI (by omega) (by decide) | exact ix_lit _ rfl (by omega) (by decide) | exact ix_lit _ rfl (by decide) (by decide)) ?_
            try dsimp only
            refine A_icmp_eq 79 77 dX10_judge_74 (by decide) rfl (fun c74 => ?_) (fun c74 => ?_)
            · skip
              try simp only [bI_0, bI_n0, Classical.not_not, Bool.not_eq_false, Bool.true_and, Bool.and_true, decide_eq_true_eq, decide_eq_false_iff_not, dayC_1, dayC_21, dayC_221, dayC_222, inI_1, inI_2, inI_3, inI_5, inI_11, inI_16] at c74
              first | refine A_iincN 82 dX10_judge_79 rfl rfl (by decide) (by first | exact (ast_s (ast_s (ast_1 rfl))) | exact (ast_s (ast_s ast_k))) ?_ | refine A_iinc 82 (1) dX10_judge_79 rfl rfl (by decide) (by decide) (by first | exact (ast_s (ast_s (ast_1 rfl))) | exact (ast_s (ast_s ast_k))) ?_
              refine A_goto 37 dX10_judge_82 (by decide) ?_
              exact ih n0 (Nat.lt_succ_self n0) (i + 1)   (by omega) ((by rw [fwN_s, if_neg (not_or.mpr ⟨k12, fun z => z (by rw [cl_t]; exact c74)⟩)] : fwN c.2.2.2.2.2.2.2.1 (dLaw x 0 (x.2.1 k_p)) (n0 + 1) i = fwN c.2.2.2.2.2.2.2.1 (dLaw x 0 (x.2.1 k_p)) n0 (i + 1)).symm.trans ee) 
            · skip
              try simp only [bI_0, bI_n0, Classical.not_not, Bool.not_eq_false, Bool.true_and, Bool.and_true, decide_eq_true_eq, decide_eq_false_iff_not, dayC_1, dayC_21, dayC_221, dayC_222, inI_1, inI_2, inI_3, inI_5, inI_11, inI_16] at c74
              refine A_iload_n 78 dX10_judge_77 rfl rfl rfl ?_
              have ew : wP x (nI k_p) = 0 := by
                first | (simp only [c10, cl_p, c45, n45, c60, n60, cl_t, c74, if_true, if_false, ite_true, ite_false, and_true, true_and, and_false, false_and, and_self, or_true, true_or, or_false, false_or, or_self, not_true_eq_false, not_false_eq_true, decide_true, decide_false, Bool.and_true, Bool.true_and, Bool.and_false, Bool.false_and, Bool.and_self, Bool.or_true, Bool.true_or, Bool.or_false, Bool.false_or, Bool.not_true, Bool.not_false, cond_true, cond_false, bI_t, bI_f, Bool.false_eq_true, Bool.true_eq_false, dayC_1, dayC_21, dayC_221, dayC_222, w01, wP, wPL, wP01, wL01, wRow, w01R, wAB, wNum, isP, isL]; done)
              refine A_iret dX10_judge_78 rfl ⟨_, rfl, (by rw [ew, rV_0]; unfold pk; rw [cl_p, ← ee, fwN_s]; first | rw [if_pos (Or.inl k12)] | rw [if_pos (Or.inr (by rw [cl_t]; exact c74))]), _, (by rw [ew]; simp only [ifW_0, ifW_1, ifW_2, ifW_3, ifW_4, ifW_6]; first | (rw [rS_0]; exact O28) | exact O28), hf⟩
          · skip
            try simp only [bI_0, bI_n0, Classical.not_not, Bool.not_eq_false, Bool.true_and, Bool.and_true, decide_eq_true_eq, decide_eq_false_iff_not, dayC_1, dayC_21, dayC_221, dayC_222, inI_1, inI_2, inI_3, inI_5, inI_11, inI_16] at c60
            have n60 := c60
            replace c60 := Int32.not_le.mp c60
            have cl_t := tell_neg h10 c60
            refine A_bipush 65 (99) dX10_judge_63 rfl (by decide) ?_
            refine A_goto 74 dX10_judge_65 (by decide) ?_
            refine A_icmp_eq 79 77 dX10_judge_74 (by decide) rfl (fun c74 => ?_) (fun c74 => ?_)
            · skip
              try simp only [bI_0, bI_n0, Classical.not_not, Bool.not_eq_false, Bool.true_and, Bool.and_true, decide_eq_true_eq, decide_eq_false_iff_not, dayC_1, dayC_21, dayC_221, dayC_222, inI_1, inI_2, inI_3, inI_5, inI_11, inI_16] at c74
              first | refine A_iincN 82 dX10_judge_79 rfl rfl (by decide) (by first | exact (ast_s (ast_s (ast_1 rfl))) | exact (ast_s (ast_s ast_k))) ?_ | refine A_iinc 82 (1) dX10_judge_79 rfl rfl (by decide) (by decide) (by first | exact (ast_s (ast_s (ast_1 rfl))) | exact (ast_s (ast_s ast_k))) ?_
              refine A_goto 37 dX10_judge_82 (by decide) ?_
              exact ih n0 (Nat.lt_succ_self n0) (i + 1)   (by omega) ((by rw [fwN_s, if_neg (not_or.mpr ⟨k12, fun z => z (by rw [cl_t]; exact c74)⟩)] : fwN c.2.2.2.2.2.2.2.1 (dLaw x 0 (x.2.1 k_p)) (n0 + 1) i = fwN c.2.2.2.2.2.2.2.1 (dLaw x 0 (x.2.1 k_p)) n0 (i + 1)).symm.trans ee) 
            · skip
              try simp only [bI_0, bI_n0, Classical.not_not, Bool.not_eq_false, Bool.true_and, Bool.and_true, decide_eq_true_eq, decide_eq_false_iff_not, dayC_1, dayC_21, dayC_221, dayC_222, inI_1, inI_2, inI_3, inI_5, inI_11, inI_16] at c74
              refine A_iload_n 78 dX10_judge_77 rfl rfl rfl ?_
              have ew : wP x (nI k_p) = 0 := by
                first | (simp only [c10, cl_p, c45, n45, c60, n60, cl_t, c74, if_true, if_false, ite_true, ite_false, and_true, true_and, and_false, false_and, and_self, or_true, true_or, or_false, false_or, or_self, not_true_eq_false, not_false_eq_true, decide_true, decide_false, Bool.and_true, Bool.true_and, Bool.and_false, Bool.false_and, Bool.and_self, Bool.or_true, Bool.true_or, Bool.or_false, Bool.false_or, Bool.not_true, Bool.not_false, cond_true, cond_false, bI_t, bI_f, Bool.false_eq_true, Bool.true_eq_false, dayC_1, dayC_21, dayC_221, dayC_222, w01, wP, wPL, wP01, wL01, wRow, w01R, wAB, wNum, isP, isL]; done)
              refine A_iret dX10_judge_78 rfl ⟨_, rfl, (by rw [ew, rV_0]; unfold pk; rw [cl_p, ← ee, fwN_s]; first | rw [if_pos (Or.inl k12)] | rw [if_pos (Or.inr (by rw [cl_t]; exact c74))]), _, (by rw [ew]; simp only [ifW_0, ifW_1, ifW_2, ifW_3, ifW_4, ifW_6]; first | (rw [rS_0]; exact O28) | exact O28), hf⟩
    exact L37 (c.2.2.2.2.2.2.2.2) (0)   (by omega) (rfl) 
  · skip
    try simp only [bI_0, bI_n0, Classical.not_not, Bool.not_eq_false, Bool.true_and, Bool.and_true, decide_eq_true_eq, decide_eq_false_iff_not, dayC_1, dayC_21, dayC_221, dayC_222, inI_1, inI_2, inI_3, inI_5, inI_11, inI_16] at c10
    refine A_aload_n 14 dX10_judge_13 rfl rfl rfl ?_
    refine A_iconst 15 (-1) dX10_judge_14 rfl (by decide) ?_
    refine A_callVI 18 (S_X10_refuse_c X l (by first | assumption | decide | omega | exact Ne.symm (by assumption)) (by first | assumption | (unfold CD; decide))) dX10_judge_15 rfl kX10_refuse lk_X10_121 rfl O28 (by decide) rfl (Nat.le_of_ble_eq_true rfl) (fun v_5 h_5 qh_5 => ?_)
    obtain ⟨rfl, n0h_5, eh_5⟩ := qh_5
    replace O28 := n0h_5
    replace hf : ∀ i, i ≠ 28 → h_5 i = h i := fun i g0 => (eh_5 i g0).trans (hf i g0)
    have ew : wP x p = -1 := by
      first | (simp only [c10, if_true, if_false, ite_true, ite_false, and_true, true_and, and_false, false_and, and_self, or_true, true_or, or_false, false_or, or_self, not_true_eq_false, not_false_eq_true, decide_true, decide_false, Bool.and_true, Bool.true_and, Bool.and_false, Bool.false_and, Bool.and_self, Bool.or_true, Bool.true_or, Bool.or_false, Bool.false_or, Bool.not_true, Bool.not_false, cond_true, cond_false, bI_t, bI_f, Bool.false_eq_true, Bool.true_eq_false, dayC_1, dayC_21, dayC_221, dayC_222, w01, wP, wPL, wP01, wL01, wRow, w01R, wAB, wNum, isP, isL]; done)
    refine A_iret dX10_judge_18 rfl ⟨_, rfl, (by rw [ew]; exact rV_n (by decide)), _, (by rw [ew]; simp only [ifW_0, ifW_1, ifW_2, ifW_3, ifW_4, ifW_6]; first | (rw [rS_0]; exact O28) | exact O28), hf⟩
set_option maxHeartbeats 4000000 in
set_option maxRecDepth 100000 in
theorem S_X10_behind (X : En) (l : Launch) {h : Hp} {x : PW} {c : RC} {z : RZ} (O28 : h 28 = some (rB x (-1) c z)) (hW : WOK x)  {p n : Int32} : Ct X l mX10_behind [aR 28 0, aI p, aI n] h (QI (fun vr h2 => (rV (wNP x p n 0) (aBehi x p n)) = vr ∧ ∃ (z1 : RZ), h2 (28) = some (rB x (-1) (rS (wNP x p n 0) c.1, c.2) z1) ∧ ∀ i, i ≠ 28 → h2 i = h i)) := by
  have hx := hW.1
  have hp := hW.2.1
  have h10 := hx.1
  have hf : ∀ i, i ≠ 28 → h i = h i := fun _ _ => rfl
  refine Ct.intro [some (aR 28 0), some (aI p), some (aI n), none, none, none] (by decide +kernel) rfl (Nat.le_of_ble_eq_true rfl) ?_
  refine A_aload_n 1 dX10_behind_0 rfl rfl rfl ?_
  refine A_iconst 2 (0) dX10_behind_1 rfl (by decide) ?_
  refine P_X10_9 5 dX10_behind_2 rfl fw_X10_78 O28 (fun h_1 nh_1 eh_1 => ?_)
  replace O28 := nh_1
  replace hf : ∀ i, i ≠ 28 → h_1 i = h i := fun i g0 => (eh_1 i g0).trans (hf i g0)
  try dsimp only at O28
  refine A_joinI 24 (fun vj => vj = wNP x p n 0) (fun j24 => ?_) (fun v24 e24 => ?_)
  · skip
    refine A_aload_n 6 dX10_behind_5 rfl rfl rfl ?_
    refine A_iload_n 7 dX10_behind_6 rfl rfl rfl ?_
    refine A_callVI 10 (S_X10_isOne X l (by first | assumption | decide | omega | exact Ne.symm (by assumption)) (by first | assumption | decide | omega | exact Ne.symm (by assumption))) dX10_behind_7 rfl kX10_isOne lk_X10_160 rfl O28 (by decide) rfl (Nat.le_of_ble_eq_true rfl) (fun v_2 h_2 qh_2 => ?_)
    obtain ⟨rfl, rfl⟩ := qh_2
    refine A_if_eq 23 13 dX10_behind_10 (by decide) rfl (fun c10 => ?_) (fun c10 => ?_)
    · skip
      try simp only [bI_0, bI_n0, Classical.not_not, Bool.not_eq_false, Bool.true_and, Bool.and_true, decide_eq_true_eq, decide_eq_false_iff_not, dayC_1, dayC_21, dayC_221, dayC_222, inI_1, inI_2, inI_3, inI_5, inI_11, inI_16] at c10
      refine A_iconst 24 (-1) dX10_behind_23 rfl (by decide) ?_
      exact j24 _ (by first | (simp only [c10, if_true, if_false, ite_true, ite_false, and_true, true_and, and_false, false_and, and_self, or_true, true_or, or_false, false_or, or_self, not_true_eq_false, not_false_eq_true, decide_true, decide_false, Bool.and_true, Bool.true_and, Bool.and_false, Bool.false_and, Bool.and_self, Bool.or_true, Bool.true_or, Bool.or_false, Bool.false_or, Bool.not_true, Bool.not_false, cond_true, cond_false, bI_t, bI_f, Bool.false_eq_true, Bool.true_eq_false, dayC_1, dayC_21, dayC_221, dayC_222, wNP, w01, wP, wPL, wP01, wL01, wRow, w01R, wAB, wNum, isP, isL, wrB_N, wrB_0, wrB_1]; done) | (simp only [c10, if_true, if_false, ite_true, ite_false, and_true, true_and, and_false, false_and, and_self, or_true, true_or, or_false, false_or, or_self, not_true_eq_false, not_false_eq_true, decide_true, decide_false, Bool.and_true, Bool.true_and, Bool.and_false, Bool.false_and, Bool.and_self, Bool.or_true, Bool.true_or, Bool.or_false, Bool.false_or, Bool.not_true, Bool.not_false, cond_true, cond_false, bI_t, bI_f, Bool.false_eq_true, Bool.true_eq_false, dayC_1, dayC_21, dayC_221, dayC_222, wrN, wNP, w01, wP, wPL, wP01, wL01, wRow, w01R, wAB, wNum, isP, isL, wrB_N, wrB_0, wrB_1]; done) | (simp only [c10, if_true, if_false, ite_true, ite_false, and_true, true_and, and_false, false_and, and_self, or_true, true_or, or_false, false_or, or_self, not_true_eq_false, not_false_eq_true, decide_true, decide_false, Bool.and_true, Bool.true_and, Bool.and_false, Bool.false_and, Bool.and_self, Bool.or_true, Bool.true_or, Bool.or_false, Bool.false_or, Bool.not_true, Bool.not_false, cond_true, cond_false, bI_t, bI_f, Bool.false_eq_true, Bool.true_eq_false, dayC_1, dayC_21, dayC_221, dayC_222, wrN, wNP, w01, wP, wPL, wP01, wL01, wRow, w01R, wAB, wNum, isP, isL, wrB_N, wrB_0, wrB_1]; rfl))
    · skip
      try simp only [bI_0, bI_n0, Classical.not_not, Bool.not_eq_false, Bool.true_and, Bool.and_true, decide_eq_true_eq, decide_eq_false_iff_not, dayC_1, dayC_21, dayC_221, dayC_222, inI_1, inI_2, inI_3, inI_5, inI_11, inI_16] at c10
      refine A_iload_n 14 dX10_behind_13 rfl rfl rfl ?_
      refine A_iconst 15 (0) dX10_behind_14 rfl (by decide) ?_
      refine A_bipush 17 (60) dX10_behind_15 rfl (by decide) ?_
      refine A_callSI 20 (S_X10_wrongNumber X l) dX10_behind_17 rfl kX10_wrongNumber lk_X10_213 rfl (by decide) rfl (Nat.le_of_ble_eq_true rfl) (fun v_3 h_3 qh_3 => ?_)
      obtain ⟨rfl, rfl⟩ := qh_3
      refine A_goto 24 dX10_behind_20 (by decide) ?_
      exact j24 _ (by first | (simp only [c10, if_true, if_false, ite_true, ite_false, and_true, true_and, and_false, false_and, and_self, or_true, true_or, or_false, false_or, or_self, not_true_eq_false, not_false_eq_true, decide_true, decide_false, Bool.and_true, Bool.true_and, Bool.and_false, Bool.false_and, Bool.and_self, Bool.or_true, Bool.true_or, Bool.or_false, Bool.false_or, Bool.not_true, Bool.not_false, cond_true, cond_false, bI_t, bI_f, Bool.false_eq_true, Bool.true_eq_false, dayC_1, dayC_21, dayC_221, dayC_222, wNP, w01, wP, wPL, wP01, wL01, wRow, w01R, wAB, wNum, isP, isL, wrB_N, wrB_0, wrB_1]; done) | (simp only [c10, if_true, if_false, ite_true, ite_false, and_true, true_and, and_false, false_and, and_self, or_true, true_or, or_false, false_or, or_self, not_true_eq_false, not_false_eq_true, decide_true, decide_false, Bool.and_true, Bool.true_and, Bool.and_false, Bool.false_and, Bool.and_self, Bool.or_true, Bool.true_or, Bool.or_false, Bool.false_or, Bool.not_true, Bool.not_false, cond_true, cond_false, bI_t, bI_f, Bool.false_eq_true, Bool.true_eq_false, dayC_1, dayC_21, dayC_221, dayC_222, wrN, wNP, w01, wP, wPL, wP01, wL01, wRow, w01R, wAB, wNum, isP, isL, wrB_N, wrB_0, wrB_1]; done) | (simp only [c10, if_true, if_false, ite_true, ite_false, and_true, true_and, and_false, false_and, and_self, or_true, true_or, or_false, false_or, or_self, not_true_eq_false, not_false_eq_true, decide_true, decide_false, Bool.and_true, Bool.true_and, Bool.and_false, Bool.false_and, Bool.and_self, Bool.or_true, Bool.true_or, Bool.or_false, Bool.false_or, Bool.not_true, Bool.not_false, cond_true, cond_false, bI_t, bI_f, Bool.false_eq_true, Bool.true_eq_false, dayC_1, dayC_21, dayC_221, dayC_222, wrN, wNP, w01, wP, wPL, wP01, wL01, wRow, w01R, wAB, wNum, isP, isL, wrB_N, wrB_0, wrB_1]; rfl))
  subst e24
  refine A_istore_n 25 dX10_behind_24 rfl rfl (by decide) (by first | exact (ast_s (ast_s (ast_1 rfl))) | exact (ast_s (ast_s ast_k))) ?_
  refine A_iload_n 26 dX10_behind_25 rfl rfl rfl ?_
  refine A_if_ge 35 29 dX10_behind_26 (by decide) rfl (fun c26 => ?_) (fun c26 => ?_)
  · skip
    try simp only [bI_0, bI_n0, Classical.not_not, Bool.not_eq_false, Bool.true_and, Bool.and_true, decide_eq_true_eq, decide_eq_false_iff_not, dayC_1, dayC_21, dayC_221, dayC_222, inI_1, inI_2, inI_3, inI_5, inI_11, inI_16] at c26
    have n26 := c26
    replace c26 := Int32.not_lt.mpr c26
    have hw0 : wNP x p n 0 = 0 := cz_pos wNP_cz c26
    obtain ⟨f1, f2, f3⟩ := wNP_0 hw0
    obtain ⟨k_p, rfl, hk_p⟩ := inN_ex f1 (by omega)
    have cl_p : (nI k_p).toNatClampNeg = k_p := nI_clamp (by omega)
    have hk6_p : k_p < 6 := by omega
    obtain ⟨k_n, rfl, hk_n⟩ := nI_exg (n := 60) f2 f3 (by decide)
    have cl_n : (nI k_n).toNatClampNeg = k_n := nI_clamp (by omega)
    refine A_aload_n 36 dX10_behind_35 rfl rfl rfl ?_
    refine A_getfield 39 dX10_behind_36 rfl f_X10_22 O28 rfl ?_
    refine A_iload_n 40 dX10_behind_39 rfl rfl rfl ?_
    refine A_iaload 41 dX10_behind_40 rfl O28 rfl (by first | assumption | exact ix_nI (by omega) (by decide) | exact ix_lit _ rfl (by omega) (by decide) | exact ix_lit _ rfl (by decide) (by decide)) ?_
    try dsimp only
    refine A_istore 43 dX10_behind_41 rfl (by decide) (by first | exact (ast_s (ast_s (ast_s (ast_1 rfl)))) | exact (ast_s (ast_s (ast_s ast_k)))) ?_
    refine A_iconst 44 (0) dX10_behind_43 rfl (by decide) ?_
    refine A_istore 46 dX10_behind_44 rfl (by decide) (by first | exact (ast_s (ast_s (ast_s (ast_s (ast_1 rfl))))) | exact (ast_s (ast_s (ast_s (ast_s ast_k))))) ?_
    have L46 : ∀ (nq i : Nat) (u : Int32) (g46 : Hp) (z2 : RZ), (nq + i = k_n) → (foldN (pdF x) (x.2.1 k_p) i = (u)) → (g46 28 = some (rB x (-1) c z2)) → (∀ i, i ≠ 28 → g46 i = h i) → Av X l mX10_behind 46 [some (aR 28 0), some (aI (nI (k_p))), some (aI (nI (k_n))), none, some (aI (u)), some (aI (nI (i)))] [] g46 (QI (fun vr h2 => (rV (wNP x (nI k_p) (nI k_n) 0) (aBehi x (nI k_p) (nI k_n))) = vr ∧ ∃ (z1 : RZ), h2 (28) = some (rB x (-1) (rS (wNP x (nI k_p) (nI k_n) 0) c.1, c.2) z1) ∧ ∀ i, i ≠ 28 → h2 i = h i)) := by
      intro nq
      induction nq using Nat.strongRecOn with
      | _ nq ih =>
      intro i u g46 z2 en ee O28 hf
      refine A_iload 48 dX10_behind_46 rfl rfl ?_
      refine A_iload_n 49 dX10_behind_48 rfl rfl rfl ?_
      refine A_icmp_ge 74 52 dX10_behind_49 (by decide) rfl (fun c49 => ?_) (fun c49 => ?_)
      · skip
        obtain rfl := (up_ge_T (N := k_n) c49 rfl (by omega) (by omega)).symm
        refine A_iload 76 dX10_behind_74 rfl rfl ?_
        refine A_iret dX10_behind_76 rfl ⟨_, rfl, (by rw [hw0, rV_0]; unfold aBehi pk; rw [cl_p, cl_n, ee]), _, (by rw [hw0, rS_0]; exact O28), hf⟩
      · skip
        have hi := up_ge_F (N := k_n) c49 rfl (by omega) (by omega)
        obtain ⟨n0, rfl⟩ : ∃ q, nq = q + 1 := ⟨nq - 1, by omega⟩
        refine A_aload_n 53 dX10_behind_52 rfl rfl rfl ?_
        refine A_iload 55 dX10_behind_53 rfl rfl ?_
        refine A_callVI 58 (S_X10_goDay_n X l (by first | assumption | decide | omega | exact Ne.symm (by assumption)) (by first | assumption | decide | omega | exact Ne.symm (by assumption))) dX10_behind_55 rfl kX10_goDay lk_X10_108 rfl O28 (by decide) rfl (Nat.le_of_ble_eq_true rfl) (fun v_4 h_4 qh_4 => ?_)
        obtain ⟨rfl, n0h_4, eh_4⟩ := qh_4
        replace O28 := n0h_4
        replace hf : ∀ i, i ≠ 28 → h_4 i = h i := fun i g0 => (eh_4 i g0).trans (hf i g0)
        refine A_pop 59 dX10_behind_58 rfl rfl ?_
        refine A_aload_n 60 dX10_behind_59 rfl rfl rfl ?_
        refine A_getfield 63 dX10_behind_60 rfl f_X10_35 O28 rfl ?_
        refine A_bipush 65 (11) dX10_behind_63 rfl (by decide) ?_
        refine A_iaload 66 dX10_behind_65 rfl O28 rfl (by first | assumption | exact ix_nI (by omega) (by decide) | exact ix_lit _ rfl (by omega) (by decide) | exact ix_lit _ rfl (by decide) (by decide)) ?_
        try dsimp only
        rw [dHas_11]
        refine A_istore 68 dX10_behind_66 rfl (by decide) (by first | exact (ast_s (ast_s (ast_s (ast_1 rfl)))) | exact (ast_s (ast_s (ast_s ast_k)))) ?_
        first | refine A_iincN 71 dX10_behind_68 rfl rfl (by decide) (by first | exact (ast_s (ast_s (ast_s (ast_s (ast_1 rfl))))) | exact (ast_s (ast_s (ast_s (ast_s ast_k))))) ?_ | refine A_iinc 71 (1) dX10_behind_68 rfl rfl (by decide) (by decide) (by first | exact (ast_s (ast_s (ast_s (ast_s (ast_1 rfl))))) | exact (ast_s (ast_s (ast_s (ast_s ast_k))))) ?_
        refine A_goto 46 dX10_behind_71 (by decide) ?_
        exact A_weak (ih n0 (Nat.lt_succ_self n0) (i + 1) _ h_4 _ (by omega) ((foldN_s (pdF x) (x.2.1 k_p) i).trans ((congrArg ((pdF x) i) ee).trans (by first | with_reducible rfl | (simp only [c26, n26, cl_p, cl_n, if_true, if_false, ite_true, ite_false, and_true, true_and, and_false, false_and, and_self, or_true, true_or, or_false, false_or, or_self, not_true_eq_false, not_false_eq_true, decide_true, decide_false, Bool.and_true, Bool.true_and, Bool.and_false, Bool.false_and, Bool.and_self, Bool.or_true, Bool.true_or, Bool.or_false, Bool.false_or, Bool.not_true, Bool.not_false, cond_true, cond_false, bI_t, bI_f, Bool.false_eq_true, Bool.true_eq_false, dayC_1, dayC_21, dayC_221, dayC_222, pdF]; done) | (simp [*, pdF]; done) | with_reducible_and_instances rfl))) O28 hf) (sub_s (sub_s (sub_s (sub_n (sub_s (sub_s sub_nil))))))
    exact A_weak (L46 (k_n) (0) (_) h_1 (_) (by omega) (rfl) O28 hf) (sub_s (sub_s (sub_s (sub_n (sub_s (sub_s sub_nil))))))
  · skip
    try simp only [bI_0, bI_n0, Classical.not_not, Bool.not_eq_false, Bool.true_and, Bool.and_true, decide_eq_true_eq, decide_eq_false_iff_not, dayC_1, dayC_21, dayC_221, dayC_222, inI_1, inI_2, inI_3, inI_5, inI_11, inI_16] at c26
    have n26 := c26
    replace c26 := Int32.not_le.mp c26
    have hcd : CD (wNP x p n 0) := cz_neg wNP_cz c26
    refine A_aload_n 30 dX10_behind_29 rfl rfl rfl ?_
    refine A_iload_n 31 dX10_behind_30 rfl rfl rfl ?_
    refine A_callVI 34 (S_X10_refuse_c X l (by first | assumption | decide | omega | exact Ne.symm (by assumption)) (by first | assumption | (unfold CD; decide))) dX10_behind_31 rfl kX10_refuse lk_X10_121 rfl O28 (by decide) rfl (Nat.le_of_ble_eq_true rfl) (fun v_5 h_5 qh_5 => ?_)
    obtain ⟨rfl, n0h_5, eh_5⟩ := qh_5
    replace O28 := n0h_5
    replace hf : ∀ i, i ≠ 28 → h_5 i = h i := fun i g0 => (eh_5 i g0).trans (hf i g0)
    refine A_iret dX10_behind_34 rfl ⟨_, rfl, (by exact rV_n hcd.ne), _, O28, hf⟩
set_option maxHeartbeats 4000000 in
set_option maxRecDepth 100000 in
theorem S_X10_ever (X : En) (l : Launch) {h : Hp} {x : PW} {c : RC} {z : RZ} (O28 : h 28 = some (rB x (-1) c z)) (hW : WOK x)  {p n : Int32} : Ct X l mX10_ever [aR 28 0, aI p, aI n] h (QI (fun vr h2 => (rV (wNP x p n 1) (aEver x p n)) = vr ∧ ∃ (z1 : RZ), h2 (28) = some (rB x (-1) (rS (wNP x p n 1) c.1, c.2) z1) ∧ ∀ i, i ≠ 28 → h2 i = h i)) := by
  have hx := hW.1
  have hp := hW.2.1
  have h10 := hx.1
  have hf : ∀ i, i ≠ 28 → h i = h i := fun _ _ => rfl
  refine Ct.intro [some (aR 28 0), some (aI p), some (aI n), none, none, none, none] (by decide +kernel) rfl (Nat.le_of_ble_eq_true rfl) ?_
  refine A_aload_n 1 dX10_ever_0 rfl rfl rfl ?_
  refine A_iconst 2 (0) dX10_ever_1 rfl (by decide) ?_
  refine P_X10_9 5 dX10_ever_2 rfl fw_X10_78 O28 (fun h_1 nh_1 eh_1 => ?_)
  replace O28 := nh_1
  replace hf : ∀ i, i ≠ 28 → h_1 i = h i := fun i g0 => (eh_1 i g0).trans (hf i g0)
  try dsimp only at O28
  refine A_joinI 24 (fun vj => vj = wNP x p n 1) (fun j24 => ?_) (fun v24 e24 => ?_)
  · skip
    refine A_aload_n 6 dX10_ever_5 rfl rfl rfl ?_
    refine A_iload_n 7 dX10_ever_6 rfl rfl rfl ?_
    refine A_callVI 10 (S_X10_isOne X l (by first | assumption | decide | omega | exact Ne.symm (by assumption)) (by first | assumption | decide | omega | exact Ne.symm (by assumption))) dX10_ever_7 rfl kX10_isOne lk_X10_160 rfl O28 (by decide) rfl (Nat.le_of_ble_eq_true rfl) (fun v_2 h_2 qh_2 => ?_)
    obtain ⟨rfl, rfl⟩ := qh_2
    refine A_if_eq 23 13 dX10_ever_10 (by decide) rfl (fun c10 => ?_) (fun c10 => ?_)
    · skip
      try simp only [bI_0, bI_n0, Classical.not_not, Bool.not_eq_false, Bool.true_and, Bool.and_true, decide_eq_true_eq, decide_eq_false_iff_not, dayC_1, dayC_21, dayC_221, dayC_222, inI_1, inI_2, inI_3, inI_5, inI_11, inI_16] at c10
      refine A_iconst 24 (-1) dX10_ever_23 rfl (by decide) ?_
      exact j24 _ (by first | (simp only [c10, if_true, if_false, ite_true, ite_false, and_true, true_and, and_false, false_and, and_self, or_true, true_or, or_false, false_or, or_self, not_true_eq_false, not_false_eq_true, decide_true, decide_false, Bool.and_true, Bool.true_and, Bool.and_false, Bool.false_and, Bool.and_self, Bool.or_true, Bool.true_or, Bool.or_false, Bool.false_or, Bool.not_true, Bool.not_false, cond_true, cond_false, bI_t, bI_f, Bool.false_eq_true, Bool.true_eq_false, dayC_1, dayC_21, dayC_221, dayC_222, wNP, w01, wP, wPL, wP01, wL01, wRow, w01R, wAB, wNum, isP, isL, wrB_N, wrB_0, wrB_1]; done) | (simp only [c10, if_true, if_false, ite_true, ite_false, and_true, true_and, and_false, false_and, and_self, or_true, true_or, or_false, false_or, or_self, not_true_eq_false, not_false_eq_true, decide_true, decide_false, Bool.and_true, Bool.true_and, Bool.and_false, Bool.false_and, Bool.and_self, Bool.or_true, Bool.true_or, Bool.or_false, Bool.false_or, Bool.not_true, Bool.not_false, cond_true, cond_false, bI_t, bI_f, Bool.false_eq_true, Bool.true_eq_false, dayC_1, dayC_21, dayC_221, dayC_222, wrN, wNP, w01, wP, wPL, wP01, wL01, wRow, w01R, wAB, wNum, isP, isL, wrB_N, wrB_0, wrB_1]; done) | (simp only [c10, if_true, if_false, ite_true, ite_false, and_true, true_and, and_false, false_and, and_self, or_true, true_or, or_false, false_or, or_self, not_true_eq_false, not_false_eq_true, decide_true, decide_false, Bool.and_true, Bool.true_and, Bool.and_false, Bool.false_and, Bool.and_self, Bool.or_true, Bool.true_or, Bool.or_false, Bool.false_or, Bool.not_true, Bool.not_false, cond_true, cond_false, bI_t, bI_f, Bool.false_eq_true, Bool.true_eq_false, dayC_1, dayC_21, dayC_221, dayC_222, wrN, wNP, w01, wP, wPL, wP01, wL01, wRow, w01R, wAB, wNum, isP, isL, wrB_N, wrB_0, wrB_1]; rfl))
    · skip
      try simp only [bI_0, bI_n0, Classical.not_not, Bool.not_eq_false, Bool.true_and, Bool.and_true, decide_eq_true_eq, decide_eq_false_iff_not, dayC_1, dayC_21, dayC_221, dayC_222, inI_1, inI_2, inI_3, inI_5, inI_11, inI_16] at c10
      refine A_iload_n 14 dX10_ever_13 rfl rfl rfl ?_
      refine A_iconst 15 (1) dX10_ever_14 rfl (by decide) ?_
      refine A_bipush 17 (60) dX10_ever_15 rfl (by decide) ?_
      refine A_callSI 20 (S_X10_wrongNumber X l) dX10_ever_17 rfl kX10_wrongNumber lk_X10_213 rfl (by decide) rfl (Nat.le_of_ble_eq_true rfl) (fun v_3 h_3 qh_3 => ?_)
      obtain ⟨rfl, rfl⟩ := qh_3
      refine A_goto 24 dX10_ever_20 (by decide) ?_
      exact j24 _ (by first | (simp only [c10, if_true, if_false, ite_true, ite_false, and_true, true_and, and_false, false_and, and_self, or_true, true_or, or_false, false_or, or_self, not_true_eq_false, not_false_eq_true, decide_true, decide_false, Bool.and_true, Bool.true_and, Bool.and_false, Bool.false_and, Bool.and_self, Bool.or_true, Bool.true_or, Bool.or_false, Bool.false_or, Bool.not_true, Bool.not_false, cond_true, cond_false, bI_t, bI_f, Bool.false_eq_true, Bool.true_eq_false, dayC_1, dayC_21, dayC_221, dayC_222, wNP, w01, wP, wPL, wP01, wL01, wRow, w01R, wAB, wNum, isP, isL, wrB_N, wrB_0, wrB_1]; done) | (simp only [c10, if_true, if_false, ite_true, ite_false, and_true, true_and, and_false, false_and, and_self, or_true, true_or, or_false, false_or, or_self, not_true_eq_false, not_false_eq_true, decide_true, decide_false, Bool.and_true, Bool.true_and, Bool.and_false, Bool.false_and, Bool.and_self, Bool.or_true, Bool.true_or, Bool.or_false, Bool.false_or, Bool.not_true, Bool.not_false, cond_true, cond_false, bI_t, bI_f, Bool.false_eq_true, Bool.true_eq_false, dayC_1, dayC_21, dayC_221, dayC_222, wrN, wNP, w01, wP, wPL, wP01, wL01, wRow, w01R, wAB, wNum, isP, isL, wrB_N, wrB_0, wrB_1]; done) | (simp only [c10, if_true, if_false, ite_true, ite_false, and_true, true_and, and_false, false_and, and_self, or_true, true_or, or_false, false_or, or_self, not_true_eq_false, not_false_eq_true, decide_true, decide_false, Bool.and_true, Bool.true_and, Bool.and_false, Bool.false_and, Bool.and_self, Bool.or_true, Bool.true_or, Bool.or_false, Bool.false_or, Bool.not_true, Bool.not_false, cond_true, cond_false, bI_t, bI_f, Bool.false_eq_true, Bool.true_eq_false, dayC_1, dayC_21, dayC_221, dayC_222, wrN, wNP, w01, wP, wPL, wP01, wL01, wRow, w01R, wAB, wNum, isP, isL, wrB_N, wrB_0, wrB_1]; rfl))
  subst e24
  refine A_istore_n 25 dX10_ever_24 rfl rfl (by decide) (by first | exact (ast_s (ast_s (ast_1 rfl))) | exact (ast_s (ast_s ast_k))) ?_
  refine A_iload_n 26 dX10_ever_25 rfl rfl rfl ?_
  refine A_if_ge 35 29 dX10_ever_26 (by decide) rfl (fun c26 => ?_) (fun c26 => ?_)
  · skip
    try simp only [bI_0, bI_n0, Classical.not_not, Bool.not_eq_false, Bool.true_and, Bool.and_true, decide_eq_true_eq, decide_eq_false_iff_not, dayC_1, dayC_21, dayC_221, dayC_222, inI_1, inI_2, inI_3, inI_5, inI_11, inI_16] at c26
    have n26 := c26
    replace c26 := Int32.not_lt.mpr c26
    have hw0 : wNP x p n 1 = 0 := cz_pos wNP_cz c26
    obtain ⟨f1, f2, f3⟩ := wNP_0 hw0
    obtain ⟨k_p, rfl, hk_p⟩ := inN_ex f1 (by omega)
    have cl_p : (nI k_p).toNatClampNeg = k_p := nI_clamp (by omega)
    have hk6_p : k_p < 6 := by omega
    obtain ⟨k_n, rfl, hk_n⟩ := nI_exg (n := 60) (fun z => f2 (Int32.lt_trans z (by decide))) f3 (by decide)
    have cl_n : (nI k_n).toNatClampNeg = k_n := nI_clamp (by omega)
    refine A_aload_n 36 dX10_ever_35 rfl rfl rfl ?_
    refine A_getfield 39 dX10_ever_36 rfl f_X10_22 O28 rfl ?_
    refine A_iload_n 40 dX10_ever_39 rfl rfl rfl ?_
    refine A_iaload 41 dX10_ever_40 rfl O28 rfl (by first | assumption | exact ix_nI (by omega) (by decide) | exact ix_lit _ rfl (by omega) (by decide) | exact ix_lit _ rfl (by decide) (by decide)) ?_
    try dsimp only
    refine A_istore 43 dX10_ever_41 rfl (by decide) (by first | exact (ast_s (ast_s (ast_s (ast_1 rfl)))) | exact (ast_s (ast_s (ast_s ast_k)))) ?_
    refine A_iconst 44 (0) dX10_ever_43 rfl (by decide) ?_
    refine A_istore 46 dX10_ever_44 rfl (by decide) (by first | exact (ast_s (ast_s (ast_s (ast_s (ast_1 rfl))))) | exact (ast_s (ast_s (ast_s (ast_s ast_k))))) ?_
    refine A_iconst 47 (0) dX10_ever_46 rfl (by decide) ?_
    refine A_istore 49 dX10_ever_47 rfl (by decide) (by first | exact (ast_s (ast_s (ast_s (ast_s (ast_s (ast_1 rfl)))))) | exact (ast_s (ast_s (ast_s (ast_s (ast_s ast_k)))))) ?_
    have L49 : ∀ (nq i : Nat) (u b : Int32) (g49 : Hp) (z2 : RZ), (nq + i = k_n) → (foldN (ldF x) ((x.2.1 k_p, 0)) i = (u, b)) → (g49 28 = some (rB x (-1) c z2)) → (∀ i, i ≠ 28 → g49 i = h i) → Av X l mX10_ever 49 [some (aR 28 0), some (aI (nI (k_p))), some (aI (nI (k_n))), none, some (aI (u)), some (aI (b)), some (aI (nI (i)))] [] g49 (QI (fun vr h2 => (rV (wNP x (nI k_p) (nI k_n) 1) (aEver x (nI k_p) (nI k_n))) = vr ∧ ∃ (z1 : RZ), h2 (28) = some (rB x (-1) (rS (wNP x (nI k_p) (nI k_n) 1) c.1, c.2) z1) ∧ ∀ i, i ≠ 28 → h2 i = h i)) := by
      intro nq
      induction nq using Nat.strongRecOn with
      | _ nq ih =>
      intro i u b g49 z2 en ee O28 hf
      refine A_iload 51 dX10_ever_49 rfl rfl ?_
      refine A_iload_n 52 dX10_ever_51 rfl rfl rfl ?_
      refine A_icmp_ge 81 55 dX10_ever_52 (by decide) rfl (fun c52 => ?_) (fun c52 => ?_)
      · skip
        obtain rfl := (up_ge_T (N := k_n) c52 rfl (by omega) (by omega)).symm
        refine A_iload 83 dX10_ever_81 rfl rfl ?_
        refine A_iret dX10_ever_83 rfl ⟨_, rfl, (by rw [hw0, rV_0]; unfold aEver pk; rw [cl_p, cl_n, ee]), _, (by rw [hw0, rS_0]; exact O28), hf⟩
      · skip
        have hi := up_ge_F (N := k_n) c52 rfl (by omega) (by omega)
        obtain ⟨n0, rfl⟩ : ∃ q, nq = q + 1 := ⟨nq - 1, by omega⟩
        refine A_iload 57 dX10_ever_55 rfl rfl ?_
        refine A_aload_n 58 dX10_ever_57 rfl rfl rfl ?_
        refine A_iload 60 dX10_ever_58 rfl rfl ?_
        refine A_callVI 63 (S_X10_goDay_n X l (by first | assumption | decide | omega | exact Ne.symm (by assumption)) (by first | assumption | decide | omega | exact Ne.symm (by assumption))) dX10_ever_60 rfl kX10_goDay lk_X10_108 rfl O28 (by decide) rfl (Nat.le_of_ble_eq_true rfl) (fun v_4 h_4 qh_4 => ?_)
        obtain ⟨rfl, n0h_4, eh_4⟩ := qh_4
        replace O28 := n0h_4
        replace hf : ∀ i, i ≠ 28 → h_4 i = h i := fun i g0 => (eh_4 i g0).trans (hf i g0)
        refine A_ior 64 dX10_ever_63 rfl ?_
        refine A_istore 66 dX10_ever_64 rfl (by decide) (by first | exact (ast_s (ast_s (ast_s (ast_s (ast_1 rfl))))) | exact (ast_s (ast_s (ast_s (ast_s ast_k))))) ?_
        refine A_aload_n 67 dX10_ever_66 rfl rfl rfl ?_
        refine A_getfield 70 dX10_ever_67 rfl f_X10_35 O28 rfl ?_
        refine A_bipush 72 (11) dX10_ever_70 rfl (by decide) ?_
        refine A_iaload 73 dX10_ever_72 rfl O28 rfl (by first | assumption | exact ix_nI (by omega) (by decide) | exact ix_lit _ rfl (by omega) (by decide) | exact ix_lit _ rfl (by decide) (by decide)) ?_
        try dsimp only
        rw [dHas_11]
        refine A_istore 75 dX10_ever_73 rfl (by decide) (by first | exact (ast_s (ast_s (ast_s (ast_1 rfl)))) | exact (ast_s (ast_s (ast_s ast_k)))) ?_
        first | refine A_iincN 78 dX10_ever_75 rfl rfl (by decide) (by first | exact (ast_s (ast_s (ast_s (ast_s (ast_s (ast_1 rfl)))))) | exact (ast_s (ast_s (ast_s (ast_s (ast_s ast_k)))))) ?_ | refine A_iinc 78 (1) dX10_ever_75 rfl rfl (by decide) (by decide) (by first | exact (ast_s (ast_s (ast_s (ast_s (ast_s (ast_1 rfl)))))) | exact (ast_s (ast_s (ast_s (ast_s (ast_s ast_k)))))) ?_
        refine A_goto 49 dX10_ever_78 (by decide) ?_
        exact A_weak (ih n0 (Nat.lt_succ_self n0) (i + 1) _ _ h_4 _ (by omega) ((foldN_s (ldF x) ((x.2.1 k_p, 0)) i).trans ((congrArg ((ldF x) i) ee).trans (by first | with_reducible rfl | (simp only [c26, n26, cl_p, cl_n, if_true, if_false, ite_true, ite_false, and_true, true_and, and_false, false_and, and_self, or_true, true_or, or_false, false_or, or_self, not_true_eq_false, not_false_eq_true, decide_true, decide_false, Bool.and_true, Bool.true_and, Bool.and_false, Bool.false_and, Bool.and_self, Bool.or_true, Bool.true_or, Bool.or_false, Bool.false_or, Bool.not_true, Bool.not_false, cond_true, cond_false, bI_t, bI_f, Bool.false_eq_true, Bool.true_eq_false, dayC_1, dayC_21, dayC_221, dayC_222, ldF]; done) | (simp [*, ldF]; done) | with_reducible_and_instances rfl))) O28 hf) (sub_s (sub_s (sub_s (sub_n (sub_s (sub_s (sub_s sub_nil)))))))
    exact A_weak (L49 (k_n) (0) (_) (_) h_1 (_) (by omega) (rfl) O28 hf) (sub_s (sub_s (sub_s (sub_n (sub_s (sub_s (sub_s sub_nil)))))))
  · skip
    try simp only [bI_0, bI_n0, Classical.not_not, Bool.not_eq_false, Bool.true_and, Bool.and_true, decide_eq_true_eq, decide_eq_false_iff_not, dayC_1, dayC_21, dayC_221, dayC_222, inI_1, inI_2, inI_3, inI_5, inI_11, inI_16] at c26
    have n26 := c26
    replace c26 := Int32.not_le.mp c26
    have hcd : CD (wNP x p n 1) := cz_neg wNP_cz c26
    refine A_aload_n 30 dX10_ever_29 rfl rfl rfl ?_
    refine A_iload_n 31 dX10_ever_30 rfl rfl rfl ?_
    refine A_callVI 34 (S_X10_refuse_c X l (by first | assumption | decide | omega | exact Ne.symm (by assumption)) (by first | assumption | (unfold CD; decide))) dX10_ever_31 rfl kX10_refuse lk_X10_121 rfl O28 (by decide) rfl (Nat.le_of_ble_eq_true rfl) (fun v_5 h_5 qh_5 => ?_)
    obtain ⟨rfl, n0h_5, eh_5⟩ := qh_5
    replace O28 := n0h_5
    replace hf : ∀ i, i ≠ 28 → h_5 i = h i := fun i g0 => (eh_5 i g0).trans (hf i g0)
    refine A_iret dX10_ever_34 rfl ⟨_, rfl, (by exact rV_n hcd.ne), _, O28, hf⟩
set_option maxHeartbeats 4000000 in
set_option maxRecDepth 100000 in
theorem S_X10_idle (X : En) (l : Launch) {h : Hp} {x : PW} {c : RC} {z : RZ} (O28 : h 28 = some (rB x (-1) c z)) (hW : WOK x)  {p v : Int32} : Ct X l mX10_idle [aR 28 0, aI p, aI v] h (QI (fun vr h2 => (rV (wP01 x p v) (aIdle x p v)) = vr ∧ ∃ (z1 : RZ), h2 (28) = some (rB x (-1) (rS (wP01 x p v) c.1, c.2) z1) ∧ ∀ i, i ≠ 28 → h2 i = h i)) := by
  have hx := hW.1
  have hp := hW.2.1
  have h10 := hx.1
  have hf : ∀ i, i ≠ 28 → h i = h i := fun _ _ => rfl
  refine Ct.intro [some (aR 28 0), some (aI p), some (aI v), none, none, none, none] (by decide +kernel) rfl (Nat.le_of_ble_eq_true rfl) ?_
  refine A_aload_n 1 dX10_idle_0 rfl rfl rfl ?_
  refine A_iconst 2 (0) dX10_idle_1 rfl (by decide) ?_
  refine P_X10_9 5 dX10_idle_2 rfl fw_X10_78 O28 (fun h_1 nh_1 eh_1 => ?_)
  replace O28 := nh_1
  replace hf : ∀ i, i ≠ 28 → h_1 i = h i := fun i g0 => (eh_1 i g0).trans (hf i g0)
  try dsimp only at O28
  refine A_joinI 23 (fun vj => vj = wP01 x p v) (fun j23 => ?_) (fun v23 e23 => ?_)
  · skip
    refine A_aload_n 6 dX10_idle_5 rfl rfl rfl ?_
    refine A_iload_n 7 dX10_idle_6 rfl rfl rfl ?_
    refine A_callVI 10 (S_X10_isOne X l (by first | assumption | decide | omega | exact Ne.symm (by assumption)) (by first | assumption | decide | omega | exact Ne.symm (by assumption))) dX10_idle_7 rfl kX10_isOne lk_X10_160 rfl O28 (by decide) rfl (Nat.le_of_ble_eq_true rfl) (fun v_2 h_2 qh_2 => ?_)
    obtain ⟨rfl, rfl⟩ := qh_2
    refine A_if_eq 22 13 dX10_idle_10 (by decide) rfl (fun c10 => ?_) (fun c10 => ?_)
    · skip
      try simp only [bI_0, bI_n0, Classical.not_not, Bool.not_eq_false, Bool.true_and, Bool.and_true, decide_eq_true_eq, decide_eq_false_iff_not, dayC_1, dayC_21, dayC_221, dayC_222, inI_1, inI_2, inI_3, inI_5, inI_11, inI_16] at c10
      refine A_iconst 23 (-1) dX10_idle_22 rfl (by decide) ?_
      exact j23 _ (by first | (simp only [c10, if_true, if_false, ite_true, ite_false, and_true, true_and, and_false, false_and, and_self, or_true, true_or, or_false, false_or, or_self, not_true_eq_false, not_false_eq_true, decide_true, decide_false, Bool.and_true, Bool.true_and, Bool.and_false, Bool.false_and, Bool.and_self, Bool.or_true, Bool.true_or, Bool.or_false, Bool.false_or, Bool.not_true, Bool.not_false, cond_true, cond_false, bI_t, bI_f, Bool.false_eq_true, Bool.true_eq_false, dayC_1, dayC_21, dayC_221, dayC_222, w01, wP, wPL, wP01, wL01, wRow, w01R, wAB, wNum, isP, isL, wrB_N, wrB_0, wrB_1]; done) | (simp only [c10, if_true, if_false, ite_true, ite_false, and_true, true_and, and_false, false_and, and_self, or_true, true_or, or_false, false_or, or_self, not_true_eq_false, not_false_eq_true, decide_true, decide_false, Bool.and_true, Bool.true_and, Bool.and_false, Bool.false_and, Bool.and_self, Bool.or_true, Bool.true_or, Bool.or_false, Bool.false_or, Bool.not_true, Bool.not_false, cond_true, cond_false, bI_t, bI_f, Bool.false_eq_true, Bool.true_eq_false, dayC_1, dayC_21, dayC_221, dayC_222, wrN, w01, wP, wPL, wP01, wL01, wRow, w01R, wAB, wNum, isP, isL, wrB_N, wrB_0, wrB_1]; done) | (simp only [c10, if_true, if_false, ite_true, ite_false, and_true, true_and, and_false, false_and, and_self, or_true, true_or, or_false, false_or, or_self, not_true_eq_false, not_false_eq_true, decide_true, decide_false, Bool.and_true, Bool.true_and, Bool.and_false, Bool.false_and, Bool.and_self, Bool.or_true, Bool.true_or, Bool.or_false, Bool.false_or, Bool.not_true, Bool.not_false, cond_true, cond_false, bI_t, bI_f, Bool.false_eq_true, Bool.true_eq_false, dayC_1, dayC_21, dayC_221, dayC_222, wrN, w01, wP, wPL, wP01, wL01, wRow, w01R, wAB, wNum, isP, isL, wrB_N, wrB_0, wrB_1]; rfl))
    · skip
      try simp only [bI_0, bI_n0, Classical.not_not, Bool.not_eq_false, Bool.true_and, Bool.and_true, decide_eq_true_eq, decide_eq_false_iff_not, dayC_1, dayC_21, dayC_221, dayC_222, inI_1, inI_2, inI_3, inI_5, inI_11, inI_16] at c10
      refine A_iconst 14 (0) dX10_idle_13 rfl (by decide) ?_
      refine A_iload_n 15 dX10_idle_14 rfl rfl rfl ?_
      refine A_iconst 16 (1) dX10_idle_15 rfl (by decide) ?_
      refine A_callSI 19 (S_X10_wrongBit X l) dX10_idle_16 rfl kX10_wrongBit lk_X10_225 rfl (by decide) rfl (Nat.le_of_ble_eq_true rfl) (fun v_3 h_3 qh_3 => ?_)
      obtain ⟨rfl, rfl⟩ := qh_3
      refine A_goto 23 dX10_idle_19 (by decide) ?_
      exact j23 _ (by first | (simp only [c10, if_true, if_false, ite_true, ite_false, and_true, true_and, and_false, false_and, and_self, or_true, true_or, or_false, false_or, or_self, not_true_eq_false, not_false_eq_true, decide_true, decide_false, Bool.and_true, Bool.true_and, Bool.and_false, Bool.false_and, Bool.and_self, Bool.or_true, Bool.true_or, Bool.or_false, Bool.false_or, Bool.not_true, Bool.not_false, cond_true, cond_false, bI_t, bI_f, Bool.false_eq_true, Bool.true_eq_false, dayC_1, dayC_21, dayC_221, dayC_222, w01, wP, wPL, wP01, wL01, wRow, w01R, wAB, wNum, isP, isL, wrB_N, wrB_0, wrB_1]; done) | (simp only [c10, if_true, if_false, ite_true, ite_false, and_true, true_and, and_false, false_and, and_self, or_true, true_or, or_false, false_or, or_self, not_true_eq_false, not_false_eq_true, decide_true, decide_false, Bool.and_true, Bool.true_and, Bool.and_false, Bool.false_and, Bool.and_self, Bool.or_true, Bool.true_or, Bool.or_false, Bool.false_or, Bool.not_true, Bool.not_false, cond_true, cond_false, bI_t, bI_f, Bool.false_eq_true, Bool.true_eq_false, dayC_1, dayC_21, dayC_221, dayC_222, wrN, w01, wP, wPL, wP01, wL01, wRow, w01R, wAB, wNum, isP, isL, wrB_N, wrB_0, wrB_1]; done) | (simp only [c10, if_true, if_false, ite_true, ite_false, and_true, true_and, and_false, false_and, and_self, or_true, true_or, or_false, false_or, or_self, not_true_eq_false, not_false_eq_true, decide_true, decide_false, Bool.and_true, Bool.true_and, Bool.and_false, Bool.false_and, Bool.and_self, Bool.or_true, Bool.true_or, Bool.or_false, Bool.false_or, Bool.not_true, Bool.not_false, cond_true, cond_false, bI_t, bI_f, Bool.false_eq_true, Bool.true_eq_false, dayC_1, dayC_21, dayC_221, dayC_222, wrN, w01, wP, wPL, wP01, wL01, wRow, w01R, wAB, wNum, isP, isL, wrB_N, wrB_0, wrB_1]; rfl))
  subst e23
  refine A_istore_n 24 dX10_idle_23 rfl rfl (by decide) (by first | exact (ast_s (ast_s (ast_1 rfl))) | exact (ast_s (ast_s ast_k))) ?_
  refine A_iload_n 25 dX10_idle_24 rfl rfl rfl ?_
  refine A_if_ge 34 28 dX10_idle_25 (by decide) rfl (fun c25 => ?_) (fun c25 => ?_)
  · skip
    try simp only [bI_0, bI_n0, Classical.not_not, Bool.not_eq_false, Bool.true_and, Bool.and_true, decide_eq_true_eq, decide_eq_false_iff_not, dayC_1, dayC_21, dayC_221, dayC_222, inI_1, inI_2, inI_3, inI_5, inI_11, inI_16] at c25
    have n25 := c25
    replace c25 := Int32.not_lt.mpr c25
    have hw0 : wP01 x p v = 0 := cz_pos wP01_cz c25
    obtain ⟨f1, f2⟩ := wP01_0 hw0
    obtain ⟨k_p, rfl, hk_p⟩ := inN_ex f1 (by omega)
    have cl_p : (nI k_p).toNatClampNeg = k_p := nI_clamp (by omega)
    have hk6_p : k_p < 6 := by omega
    refine A_aload_n 35 dX10_idle_34 rfl rfl rfl ?_
    refine A_iload_n 36 dX10_idle_35 rfl rfl rfl ?_
    refine A_callVI 39 (S_X10_doneBy_n X l (by first | assumption | decide | omega | exact Ne.symm (by assumption)) (by first | assumption | decide | omega | exact Ne.symm (by assumption)) (by first | assumption | decide | omega | exact Ne.symm (by assumption))) dX10_idle_36 rfl kX10_doneBy lk_X10_115 rfl O28 (by decide) rfl (Nat.le_of_ble_eq_true rfl) (fun v_4 h_4 qh_4 => ?_)
    obtain ⟨rfl, n0h_4, eh_4⟩ := qh_4
    replace O28 := n0h_4
    replace hf : ∀ i, i ≠ 28 → h_4 i = h i := fun i g0 => (eh_4 i g0).trans (hf i g0)
    refine A_pop 40 dX10_idle_39 rfl rfl ?_
    refine A_iconst 41 (0) dX10_idle_40 rfl (by decide) ?_
    refine A_istore 43 dX10_idle_41 rfl (by decide) (by first | exact (ast_s (ast_s (ast_s (ast_1 rfl)))) | exact (ast_s (ast_s (ast_s ast_k)))) ?_
    refine A_bipush 45 (-9) dX10_idle_43 rfl (by decide) ?_
    refine A_istore 47 dX10_idle_45 rfl (by decide) (by first | exact (ast_s (ast_s (ast_s (ast_s (ast_1 rfl))))) | exact (ast_s (ast_s (ast_s (ast_s ast_k))))) ?_
    refine A_bipush 49 (11) dX10_idle_47 rfl (by decide) ?_
    refine A_istore 51 dX10_idle_49 rfl (by decide) (by first | exact (ast_s (ast_s (ast_s (ast_s (ast_s (ast_1 rfl)))))) | exact (ast_s (ast_s (ast_s (ast_s (ast_s ast_k)))))) ?_
    have L51 : ∀ (i : Nat) (u b : Int32) , (i ≤ 12) → (downF (idF (dLaw x 0 (x.2.1 k_p))) i (u, b) = downF (idF (dLaw x 0 (x.2.1 k_p))) (12) ((0, -9))) → Av X l mX10_idle 51 [some (aR 28 0), some (aI (nI (k_p))), some (aI (v)), none, some (aI (u)), some (aI (b)), some (aI (nI (i) - 1))] [] h_4 (QI (fun vr h2 => (rV (wP01 x (nI k_p) v) (aIdle x (nI k_p) v)) = vr ∧ ∃ (z1 : RZ), h2 (28) = some (rB x (-1) (rS (wP01 x (nI k_p) v) c.1, c.2) z1) ∧ ∀ i, i ≠ 28 → h2 i = h i)) := by
      intro i
      induction i using Nat.strongRecOn with
      | _ i ih =>
      intro u b en ee
      refine A_iload 53 dX10_idle_51 rfl rfl ?_
      refine A_if_lt 101 56 dX10_idle_53 (by decide) rfl (fun c53 => ?_) (fun c53 => ?_)
      · skip
        obtain rfl := dn_T c53 (by omega)
        refine A_iload_n 102 dX10_idle_101 rfl rfl rfl ?_
        refine A_if_ne 110 105 dX10_idle_102 (by decide) rfl (fun c102 => ?_) (fun c102 => ?_)
        · skip
          try simp only [bI_0, bI_n0, Classical.not_not, Bool.not_eq_false, Bool.true_and, Bool.and_true, decide_eq_true_eq, decide_eq_false_iff_not, dayC_1, dayC_21, dayC_221, dayC_222, inI_1, inI_2, inI_3, inI_5, inI_11, inI_16] at c102
          refine A_iload 112 dX10_idle_110 rfl rfl ?_
          refine A_iret dX10_idle_112 rfl ⟨_, rfl, (by rw [hw0, rV_0]; unfold aIdle pk; rw [cl_p, ← idle_1 hx, ← idle_2 hx, ← ee]; first | (rw [if_pos c102]; done) | (rw [if_neg c102]; done) | (rw [if_pos c102]; rfl) | (rw [if_neg c102]; rfl)), _, (by rw [hw0, rS_0]; exact O28), hf⟩
        · skip
          try simp only [bI_0, bI_n0, Classical.not_not, Bool.not_eq_false, Bool.true_and, Bool.and_true, decide_eq_true_eq, decide_eq_false_iff_not, dayC_1, dayC_21, dayC_221, dayC_222, inI_1, inI_2, inI_3, inI_5, inI_11, inI_16] at c102
          refine A_iload 107 dX10_idle_105 rfl rfl ?_
          refine A_goto 112 dX10_idle_107 (by decide) ?_
          refine A_iret dX10_idle_112 rfl ⟨_, rfl, (by rw [hw0, rV_0]; unfold aIdle pk; rw [cl_p, ← idle_1 hx, ← idle_2 hx, ← ee]; first | (rw [if_pos c102]; done) | (rw [if_neg c102]; done) | (rw [if_pos c102]; rfl) | (rw [if_neg c102]; rfl)), _, (by rw [hw0, rS_0]; exact O28), hf⟩
      · skip
        obtain ⟨i0, rfl⟩ := dn_F c53
        have hi : i0 < 12 := by omega
        rw [dn_s]
        refine A_iload 58 dX10_idle_56 rfl rfl ?_
        refine A_aload_n 59 dX10_idle_58 rfl rfl rfl ?_
        refine A_getfield 62 dX10_idle_59 rfl f_X10_32 O28 rfl ?_
        refine A_iload 64 dX10_idle_62 rfl rfl ?_
        refine A_iaload 65 dX10_idle_64 rfl O28 rfl (by first | assumption | exact ix_nI (by omega) (by decide) | exact ix_lit _ rfl (by omega) (by decide) | exact ix_lit _ rfl (by decide) (by decide)) ?_
        try dsimp only
        refine A_if_ge 72 68 dX10_idle_65 (by decide) rfl (fun c65 => ?_) (fun c65 => ?_)
        · skip
          try simp only [bI_0, bI_n0, Classical.not_not, Bool.not_eq_false, Bool.true_and, Bool.and_true, decide_eq_true_eq, decide_eq_false_iff_not, dayC_1, dayC_21, dayC_221, dayC_222, inI_1, inI_2, inI_3, inI_5, inI_11, inI_16] at c65
          have n65 := c65
          replace c65 := Int32.not_lt.mpr c65
          refine A_iconst 73 (0) dX10_idle_72 rfl (by decide) ?_
          refine A_iadd 74 dX10_idle_73 rfl ?_
          refine A_istore 76 dX10_idle_74 rfl (by decide) (by first | exact (ast_s (ast_s (ast_s (ast_1 rfl)))) | exact (ast_s (ast_s (ast_s ast_k)))) ?_
          refine A_aload_n 77 dX10_idle_76 rfl rfl rfl ?_
          refine A_getfield 80 dX10_idle_77 rfl f_X10_32 O28 rfl ?_
          refine A_iload 82 dX10_idle_80 rfl rfl ?_
          refine A_iaload 83 dX10_idle_82 rfl O28 rfl (by first | assumption | exact ix_nI (by omega) (by decide) | exact ix_lit _ rfl (by omega) (by decide) | exact ix_lit _ rfl (by decide) (by decide)) ?_
          try dsimp only
          refine A_if_ge 91 86 dX10_idle_83 (by decide) rfl (fun c83 => ?_) (fun c83 => ?_)
          · skip
            try simp only [bI_0, bI_n0, Classical.not_not, Bool.not_eq_false, Bool.true_and, Bool.and_true, decide_eq_true_eq, decide_eq_false_iff_not, dayC_1, dayC_21, dayC_221, dayC_222, inI_1, inI_2, inI_3, inI_5, inI_11, inI_16] at c83
            have n83 := c83
            replace c83 := Int32.not_lt.mpr c83
            refine A_iload 93 dX10_idle_91 rfl rfl ?_
            refine A_istore 95 dX10_idle_93 rfl (by decide) (by first | exact (ast_s (ast_s (ast_s (ast_s (ast_1 rfl))))) | exact (ast_s (ast_s (ast_s (ast_s ast_k))))) ?_
            first | refine A_idecN 98 dX10_idle_95 rfl rfl (by decide) (by first | exact (ast_s (ast_s (ast_s (ast_s (ast_s (ast_1 rfl)))))) | exact (ast_s (ast_s (ast_s (ast_s (ast_s ast_k)))))) ?_ | refine A_iinc 98 (-1) dX10_idle_95 rfl rfl (by decide) (by decide) (by first | exact (ast_s (ast_s (ast_s (ast_s (ast_s (ast_1 rfl)))))) | exact (ast_s (ast_s (ast_s (ast_s (ast_s ast_k)))))) ?_
            refine A_goto 51 dX10_idle_98 (by decide) ?_
            exact A_weak (ih i0 (Nat.lt_succ_self i0) _ _  (by omega) (((congrArg (downF (idF (dLaw x 0 (x.2.1 k_p))) i0) (by first | with_reducible rfl | (simp only [c25, n25, cl_p, c65, n65, c83, n83, if_true, if_false, ite_true, ite_false, and_true, true_and, and_false, false_and, and_self, or_true, true_or, or_false, false_or, or_self, not_true_eq_false, not_false_eq_true, decide_true, decide_false, Bool.and_true, Bool.true_and, Bool.and_false, Bool.false_and, Bool.and_self, Bool.or_true, Bool.true_or, Bool.or_false, Bool.false_or, Bool.not_true, Bool.not_false, cond_true, cond_false, bI_t, bI_f, Bool.false_eq_true, Bool.true_eq_false, dayC_1, dayC_21, dayC_221, dayC_222, idF, Int32.add_zero]; done) | (with_reducible first | exact absurd c25 c65 | exact absurd c25 c83 | exact absurd c65 c25 | exact absurd c65 c83 | exact absurd c83 c25 | exact absurd c83 c65) | (simp [*, idF, Int32.add_zero]; done) | with_reducible_and_instances rfl)).trans (downF_s _ _ _).symm).trans ee) ) (sub_s (sub_s (sub_s (sub_n (sub_s (sub_s (sub_s sub_nil)))))))
          · skip
            try simp only [bI_0, bI_n0, Classical.not_not, Bool.not_eq_false, Bool.true_and, Bool.and_true, decide_eq_true_eq, decide_eq_false_iff_not, dayC_1, dayC_21, dayC_221, dayC_222, inI_1, inI_2, inI_3, inI_5, inI_11, inI_16] at c83
            have n83 := c83
            replace c83 := Int32.not_le.mp c83
            refine A_iload 88 dX10_idle_86 rfl rfl ?_
            refine A_goto 93 dX10_idle_88 (by decide) ?_
            refine A_istore 95 dX10_idle_93 rfl (by decide) (by first | exact (ast_s (ast_s (ast_s (ast_s (ast_1 rfl))))) | exact (ast_s (ast_s (ast_s (ast_s ast_k))))) ?_
            first | refine A_idecN 98 dX10_idle_95 rfl rfl (by decide) (by first | exact (ast_s (ast_s (ast_s (ast_s (ast_s (ast_1 rfl)))))) | exact (ast_s (ast_s (ast_s (ast_s (ast_s ast_k)))))) ?_ | refine A_iinc 98 (-1) dX10_idle_95 rfl rfl (by decide) (by decide) (by first | exact (ast_s (ast_s (ast_s (ast_s (ast_s (ast_1 rfl)))))) | exact (ast_s (ast_s (ast_s (ast_s (ast_s ast_k)))))) ?_
            refine A_goto 51 dX10_idle_98 (by decide) ?_
            exact A_weak (ih i0 (Nat.lt_succ_self i0) _ _  (by omega) (((congrArg (downF (idF (dLaw x 0 (x.2.1 k_p))) i0) (by first | with_reducible rfl | (simp only [c25, n25, cl_p, c65, n65, c83, n83, if_true, if_false, ite_true, ite_false, and_true, true_and, and_false, false_and, and_self, or_true, true_or, or_false, false_or, or_self, not_true_eq_false, not_false_eq_true, decide_true, decide_false, Bool.and_true, Bool.true_and, Bool.and_false, Bool.false_and, Bool.and_self, Bool.or_true, Bool.true_or, Bool.or_false, Bool.false_or, Bool.not_true, Bool.not_false, cond_true, cond_false, bI_t, bI_f, Bool.false_eq_true, Bool.true_eq_false, dayC_1, dayC_21, dayC_221, dayC_222, idF, Int32.add_zero]; done) | (with_reducible first | exact absurd c25 c65 | exact absurd c25 c83 | exact absurd c65 c25 | exact absurd c65 c83 | exact absurd c83 c25 | exact absurd c83 c65) | (simp [*, idF, Int32.add_zero]; done) | with_reducible_and_instances rfl)).trans (downF_s _ _ _).symm).trans ee) ) (sub_s (sub_s (sub_s (sub_n (sub_s (sub_s (sub_s sub_nil)))))))
        · skip
          try simp only [bI_0, bI_n0, Classical.not_not, Bool.not_eq_false, Bool.true_and, Bool.and_true, decide_eq_true_eq, decide_eq_false_iff_not, dayC_1, dayC_21, dayC_221, dayC_222, inI_1, inI_2, inI_3, inI_5, inI_11, inI_16] at c65
          have n65 := c65
          replace c65 := Int32.not_le.mp c65
          refine A_iconst 69 (1) dX10_idle_68 rfl (by decide) ?_
          refine A_goto 73 dX10_idle_69 (by decide) ?_
          refine A_iadd 74 dX10_idle_73 rfl ?_
          refine A_istore 76 dX10_idle_74 rfl (by decide) (by first | exact (ast_s (ast_s (ast_s (ast_1 rfl)))) | exact (ast_s (ast_s (ast_s ast_k)))) ?_
          refine A_aload_n 77 dX10_idle_76 rfl rfl rfl ?_
          refine A_getfield 80 dX10_idle_77 rfl f_X10_32 O28 rfl ?_
          refine A_iload 82 dX10_idle_80 rfl rfl ?_
          refine A_iaload 83 dX10_idle_82 rfl O28 rfl (by first | assumption | exact ix_nI (by omega) (by decide) | exact ix_lit _ rfl (by omega) (by decide) | exact ix_lit _ rfl (by decide) (by decide)) ?_
          try dsimp only
          refine A_if_ge 91 86 dX10_idle_83 (by decide) rfl (fun c83 => ?_) (fun c83 => ?_)
          · skip
            try simp only [bI_0, bI_n0, Classical.not_not, Bool.not_eq_false, Bool.true_and, Bool.and_true, decide_eq_true_eq, decide_eq_false_iff_not, dayC_1, dayC_21, dayC_221, dayC_222, inI_1, inI_2, inI_3, inI_5, inI_11, inI_16] at c83
            have n83 := c83
            replace c83 := Int32.not_lt.mpr c83
            refine A_iload 93 dX10_idle_91 rfl rfl ?_
            refine A_istore 95 dX10_idle_93 rfl (by decide) (by first | exact (ast_s (ast_s (ast_s (ast_s (ast_1 rfl))))) | exact (ast_s (ast_s (ast_s (ast_s ast_k))))) ?_
            first | refine A_idecN 98 dX10_idle_95 rfl rfl (by decide) (by first | exact (ast_s (ast_s (ast_s (ast_s (ast_s (ast_1 rfl)))))) | exact (ast_s (ast_s (ast_s (ast_s (ast_s ast_k)))))) ?_ | refine A_iinc 98 (-1) dX10_idle_95 rfl rfl (by decide) (by decide) (by first | exact (ast_s (ast_s (ast_s (ast_s (ast_s (ast_1 rfl)))))) | exact (ast_s (ast_s (ast_s (ast_s (ast_s ast_k)))))) ?_
            refine A_goto 51 dX10_idle_98 (by decide) ?_
            exact A_weak (ih i0 (Nat.lt_succ_self i0) _ _  (by omega) (((congrArg (downF (idF (dLaw x 0 (x.2.1 k_p))) i0) (by first | with_reducible rfl | (simp only [c25, n25, cl_p, c65, n65, c83, n83, if_true, if_false, ite_true, ite_false, and_true, true_and, and_false, false_and, and_self, or_true, true_or, or_false, false_or, or_self, not_true_eq_false, not_false_eq_true, decide_true, decide_false, Bool.and_true, Bool.true_and, Bool.and_false, Bool.false_and, Bool.and_self, Bool.or_true, Bool.true_or, Bool.or_false, Bool.false_or, Bool.not_true, Bool.not_false, cond_true, cond_false, bI_t, bI_f, Bool.false_eq_true, Bool.true_eq_false, dayC_1, dayC_21, dayC_221, dayC_222, idF, Int32.add_zero]; done) | (with_reducible first | exact absurd c25 c65 | exact absurd c25 c83 | exact absurd c65 c25 | exact absurd c65 c83 | exact absurd c83 c25 | exact absurd c83 c65) | (simp [*, idF, Int32.add_zero]; done) | with_reducible_and_instances rfl)).trans (downF_s _ _ _).symm).trans ee) ) (sub_s (sub_s (sub_s (sub_n (sub_s (sub_s (sub_s sub_nil)))))))
          · skip
            try simp only [bI_0, bI_n0, Classical.not_not, Bool.not_eq_false, Bool.true_and, Bool.and_true, decide_eq_true_eq, decide_eq_false_iff_not, dayC_1, dayC_21, dayC_221, dayC_222, inI_1, inI_2, inI_3, inI_5, inI_11, inI_16] at c83
            have n83 := c83
            replace c83 := Int32.not_le.mp c83
            refine A_iload 88 dX10_idle_86 rfl rfl ?_
            refine A_goto 93 dX10_idle_88 (by decide) ?_
            refine A_istore 95 dX10_idle_93 rfl (by decide) (by first | exact (ast_s (ast_s (ast_s (ast_s (ast_1 rfl))))) | exact (ast_s (ast_s (ast_s (ast_s ast_k))))) ?_
            first | refine A_idecN 98 dX10_idle_95 rfl rfl (by decide) (by first | exact (ast_s (ast_s (ast_s (ast_s (ast_s (ast_1 rfl)))))) | exact (ast_s (ast_s (ast_s (ast_s (ast_s ast_k)))))) ?_ | refine A_iinc 98 (-1) dX10_idle_95 rfl rfl (by decide) (by decide) (by first | exact (ast_s (ast_s (ast_s (ast_s (ast_s (ast_1 rfl)))))) | exact (ast_s (ast_s (ast_s (ast_s (ast_s ast_k)))))) ?_
            refine A_goto 51 dX10_idle_98 (by decide) ?_
            exact A_weak (ih i0 (Nat.lt_succ_self i0) _ _  (by omega) (((congrArg (downF (idF (dLaw x 0 (x.2.1 k_p))) i0) (by first | with_reducible rfl | (simp only [c25, n25, cl_p, c65, n65, c83, n83, if_true, if_false, ite_true, ite_false, and_true, true_and, and_false, false_and, and_self, or_true, true_or, or_false, false_or, or_self, not_true_eq_false, not_false_eq_true, decide_true, decide_false, Bool.and_true, Bool.true_and, Bool.and_false, Bool.false_and, Bool.and_self, Bool.or_true, Bool.true_or, Bool.or_false, Bool.false_or, Bool.not_true, Bool.not_false, cond_true, cond_false, bI_t, bI_f, Bool.false_eq_true, Bool.true_eq_false, dayC_1, dayC_21, dayC_221, dayC_222, idF, Int32.add_zero]; done) | (with_reducible first | exact absurd c25 c65 | exact absurd c25 c83 | exact absurd c65 c25 | exact absurd c65 c83 | exact absurd c83 c25 | exact absurd c83 c65) | (simp [*, idF, Int32.add_zero]; done) | with_reducible_and_instances rfl)).trans (downF_s _ _ _).symm).trans ee) ) (sub_s (sub_s (sub_s (sub_n (sub_s (sub_s (sub_s sub_nil)))))))
    rw [show (11 : Int32) = nI 12 - 1 from rfl]
    exact A_weak (L51 (12) (_) (_)  (by omega) (rfl) ) (sub_s (sub_s (sub_s (sub_n (sub_s (sub_s (sub_s sub_nil)))))))
  · skip
    try simp only [bI_0, bI_n0, Classical.not_not, Bool.not_eq_false, Bool.true_and, Bool.and_true, decide_eq_true_eq, decide_eq_false_iff_not, dayC_1, dayC_21, dayC_221, dayC_222, inI_1, inI_2, inI_3, inI_5, inI_11, inI_16] at c25
    have n25 := c25
    replace c25 := Int32.not_le.mp c25
    have hcd : CD (wP01 x p v) := cz_neg wP01_cz c25
    refine A_aload_n 29 dX10_idle_28 rfl rfl rfl ?_
    refine A_iload_n 30 dX10_idle_29 rfl rfl rfl ?_
    refine A_callVI 33 (S_X10_refuse_c X l (by first | assumption | decide | omega | exact Ne.symm (by assumption)) (by first | assumption | (unfold CD; decide))) dX10_idle_30 rfl kX10_refuse lk_X10_121 rfl O28 (by decide) rfl (Nat.le_of_ble_eq_true rfl) (fun v_5 h_5 qh_5 => ?_)
    obtain ⟨rfl, n0h_5, eh_5⟩ := qh_5
    replace O28 := n0h_5
    replace hf : ∀ i, i ≠ 28 → h_5 i = h i := fun i g0 => (eh_5 i g0).trans (hf i g0)
    refine A_iret dX10_idle_33 rfl ⟨_, rfl, (by exact rV_n hcd.ne), _, O28, hf⟩
set_option maxHeartbeats 4000000 in
set_option maxRecDepth 100000 in
theorem S_X10_never (X : En) (l : Launch) {h : Hp} {x : PW} {c : RC} {z : RZ} (O28 : h 28 = some (rB x (-1) c z)) (hW : WOK x)  {v : Int32} : Ct X l mX10_never [aR 28 0, aI v] h (QI (fun vr h2 => (rV (w01 v) (aNever x v)) = vr ∧ ∃ (z1 : RZ), h2 (28) = some (rB x (-1) (rS (w01 v) c.1, c.2) z1) ∧ ∀ i, i ≠ 28 → h2 i = h i)) := by
  have hx := hW.1
  have hp := hW.2.1
  have h10 := hx.1
  have hf : ∀ i, i ≠ 28 → h i = h i := fun _ _ => rfl
  refine Ct.intro [some (aR 28 0), some (aI v), none, none, none, none] (by decide +kernel) rfl (Nat.le_of_ble_eq_true rfl) ?_
  refine A_aload_n 1 dX10_never_0 rfl rfl rfl ?_
  refine A_iconst 2 (0) dX10_never_1 rfl (by decide) ?_
  refine P_X10_9 5 dX10_never_2 rfl fw_X10_78 O28 (fun h_1 nh_1 eh_1 => ?_)
  replace O28 := nh_1
  replace hf : ∀ i, i ≠ 28 → h_1 i = h i := fun i g0 => (eh_1 i g0).trans (hf i g0)
  try dsimp only at O28
  refine A_iload_n 6 dX10_never_5 rfl rfl rfl ?_
  refine A_i2l 7 dX10_never_6 rfl ?_
  refine A_lconst 8 (0) dX10_never_7 rfl (by decide) ?_
  refine A_lconst 9 (1) dX10_never_8 rfl (by decide) ?_
  refine A_callSI 12 (S_X10_in X l) dX10_never_9 rfl kX10_in lk_X10_84 rfl (by decide) rfl (Nat.le_of_ble_eq_true rfl) (fun v_2 h_2 qh_2 => ?_)
  obtain ⟨rfl, rfl⟩ := qh_2
  refine A_if_ne 22 15 dX10_never_12 (by decide) rfl (fun c12 => ?_) (fun c12 => ?_)
  · skip
    try simp only [bI_0, bI_n0, Classical.not_not, Bool.not_eq_false, Bool.true_and, Bool.and_true, decide_eq_true_eq, decide_eq_false_iff_not, dayC_1, dayC_21, dayC_221, dayC_222, inI_1, inI_2, inI_3, inI_5, inI_11, inI_16] at c12
    refine A_iconst 23 (0) dX10_never_22 rfl (by decide) ?_
    refine A_istore_n 24 dX10_never_23 rfl rfl (by decide) (by first | exact (ast_s (ast_1 rfl)) | exact (ast_s ast_k)) ?_
    refine A_joinI 43 (fun vj => vj = evE x) (fun j43 => ?_) (fun v43 e43 => ?_)
    · skip
      refine A_aload_n 25 dX10_never_24 rfl rfl rfl ?_
      refine A_getfield 28 dX10_never_25 rfl f_X10_81 O28 rfl ?_
      try dsimp only
      refine A_if_ne 35 31 dX10_never_28 (by decide) rfl (fun c28 => ?_) (fun c28 => ?_)
      · skip
        try simp only [bI_0, bI_n0, Classical.not_not, Bool.not_eq_false, Bool.true_and, Bool.and_true, decide_eq_true_eq, decide_eq_false_iff_not, dayC_1, dayC_21, dayC_221, dayC_222, inI_1, inI_2, inI_3, inI_5, inI_11, inI_16] at c28
        refine A_iconst 36 (1) dX10_never_35 rfl (by decide) ?_
        refine A_aload_n 37 dX10_never_36 rfl rfl rfl ?_
        refine A_getfield 40 dX10_never_37 rfl f_X10_88 O28 rfl ?_
        try dsimp only
        refine A_ishl 41 dX10_never_40 rfl ?_
        refine A_iconst 42 (1) dX10_never_41 rfl (by decide) ?_
        refine A_isub 43 dX10_never_42 rfl ?_
        exact j43 _ (by first | (simp only [c12, c28, if_true, if_false, ite_true, ite_false, and_true, true_and, and_false, false_and, and_self, or_true, true_or, or_false, false_or, or_self, not_true_eq_false, not_false_eq_true, decide_true, decide_false, Bool.and_true, Bool.true_and, Bool.and_false, Bool.false_and, Bool.and_self, Bool.or_true, Bool.true_or, Bool.or_false, Bool.false_or, Bool.not_true, Bool.not_false, cond_true, cond_false, bI_t, bI_f, Bool.false_eq_true, Bool.true_eq_false, dayC_1, dayC_21, dayC_221, dayC_222, evE, allL]; done))
      · skip
        try simp only [bI_0, bI_n0, Classical.not_not, Bool.not_eq_false, Bool.true_and, Bool.and_true, decide_eq_true_eq, decide_eq_false_iff_not, dayC_1, dayC_21, dayC_221, dayC_222, inI_1, inI_2, inI_3, inI_5, inI_11, inI_16] at c28
        refine A_iconst 32 (0) dX10_never_31 rfl (by decide) ?_
        refine A_goto 43 dX10_never_32 (by decide) ?_
        exact j43 _ (by first | (simp only [c12, c28, if_true, if_false, ite_true, ite_false, and_true, true_and, and_false, false_and, and_self, or_true, true_or, or_false, false_or, or_self, not_true_eq_false, not_false_eq_true, decide_true, decide_false, Bool.and_true, Bool.true_and, Bool.and_false, Bool.false_and, Bool.and_self, Bool.or_true, Bool.true_or, Bool.or_false, Bool.false_or, Bool.not_true, Bool.not_false, cond_true, cond_false, bI_t, bI_f, Bool.false_eq_true, Bool.true_eq_false, dayC_1, dayC_21, dayC_221, dayC_222, evE, allL]; done) | (simp only [c12, eq_true c28, if_true, if_false, ite_true, ite_false, and_true, true_and, and_false, false_and, and_self, or_true, true_or, or_false, false_or, or_self, not_true_eq_false, not_false_eq_true, decide_true, decide_false, Bool.and_true, Bool.true_and, Bool.and_false, Bool.false_and, Bool.and_self, Bool.or_true, Bool.true_or, Bool.or_false, Bool.false_or, Bool.not_true, Bool.not_false, cond_true, cond_false, bI_t, bI_f, Bool.false_eq_true, Bool.true_eq_false, dayC_1, dayC_21, dayC_221, dayC_222, evE, allL]; done))
    subst e43
    refine A_istore_n 44 dX10_never_43 rfl rfl (by decide) (by first | exact (ast_s (ast_s (ast_1 rfl))) | exact (ast_s (ast_s ast_k))) ?_
    refine A_iconst 45 (0) dX10_never_44 rfl (by decide) ?_
    refine A_istore 47 dX10_never_45 rfl (by decide) (by first | exact (ast_s (ast_s (ast_s (ast_1 rfl)))) | exact (ast_s (ast_s (ast_s ast_k)))) ?_
    have L47 : ∀ (nq i : Nat) (u w : Int32) (g47 : Hp) (z2 : RZ), (nq + i = x.2.2.2.1) → (foldN (nvF x) ((0, evE x)) i = (u, w)) → (g47 28 = some (rB x (-1) c z2)) → (∀ i, i ≠ 28 → g47 i = h i) → Av X l mX10_never 47 [some (aR 28 0), some (aI (v)), some (aI (u)), some (aI (w)), some (aI (nI (i))), none] [] g47 (QI (fun vr h2 => (rV (w01 v) (aNever x v)) = vr ∧ ∃ (z1 : RZ), h2 (28) = some (rB x (-1) (rS (w01 v) c.1, c.2) z1) ∧ ∀ i, i ≠ 28 → h2 i = h i)) := by
      intro nq
      induction nq using Nat.strongRecOn with
      | _ nq ih =>
      intro i u w g47 z2 en ee O28 hf
      refine A_iload 49 dX10_never_47 rfl rfl ?_
      refine A_aload_n 50 dX10_never_49 rfl rfl rfl ?_
      refine A_getfield 53 dX10_never_50 rfl f_X10_81 O28 rfl ?_
      try dsimp only
      refine A_icmp_ge 80 56 dX10_never_53 (by decide) rfl (fun c53 => ?_) (fun c53 => ?_)
      · skip
        obtain rfl := (up_ge_T (N := x.2.2.2.1) c53 rfl (by omega) (by omega)).symm
        refine A_iload_n 81 dX10_never_80 rfl rfl rfl ?_
        refine A_if_ne 99 84 dX10_never_81 (by decide) rfl (fun c81 => ?_) (fun c81 => ?_)
        · skip
          try simp only [bI_0, bI_n0, Classical.not_not, Bool.not_eq_false, Bool.true_and, Bool.and_true, decide_eq_true_eq, decide_eq_false_iff_not, dayC_1, dayC_21, dayC_221, dayC_222, inI_1, inI_2, inI_3, inI_5, inI_11, inI_16] at c81
          refine A_iload_n 100 dX10_never_99 rfl rfl rfl ?_
          have ew : w01 v = 0 := by
            first | (simp only [c12, c81, if_true, if_false, ite_true, ite_false, and_true, true_and, and_false, false_and, and_self, or_true, true_or, or_false, false_or, or_self, not_true_eq_false, not_false_eq_true, decide_true, decide_false, Bool.and_true, Bool.true_and, Bool.and_false, Bool.false_and, Bool.and_self, Bool.or_true, Bool.true_or, Bool.or_false, Bool.false_or, Bool.not_true, Bool.not_false, cond_true, cond_false, bI_t, bI_f, Bool.false_eq_true, Bool.true_eq_false, dayC_1, dayC_21, dayC_221, dayC_222, w01, wP, wPL, wP01, wL01, wRow, w01R, wAB, wNum, isP, isL]; done)
          refine A_iret dX10_never_100 rfl ⟨_, rfl, (by rw [ew, rV_0]; rw [nv_12] at ee; unfold aNever; first | (rw [if_pos c81, show foldN (dsF x) 0 x.2.2.2.1 = u from congrArg Prod.fst ee]; rfl) | (rw [if_neg c81, ← nv_DA hp]; exact congrArg Prod.snd ee)), _, (by rw [ew]; first | (rw [rS_0]; exact O28) | exact O28), hf⟩
        · skip
          try simp only [bI_0, bI_n0, Classical.not_not, Bool.not_eq_false, Bool.true_and, Bool.and_true, decide_eq_true_eq, decide_eq_false_iff_not, dayC_1, dayC_21, dayC_221, dayC_222, inI_1, inI_2, inI_3, inI_5, inI_11, inI_16] at c81
          refine A_iconst 85 (1) dX10_never_84 rfl (by decide) ?_
          refine A_aload_n 86 dX10_never_85 rfl rfl rfl ?_
          refine A_getfield 89 dX10_never_86 rfl f_X10_88 O28 rfl ?_
          try dsimp only
          refine A_ishl 90 dX10_never_89 rfl ?_
          refine A_iconst 91 (1) dX10_never_90 rfl (by decide) ?_
          refine A_isub 92 dX10_never_91 rfl ?_
          refine A_iload_n 93 dX10_never_92 rfl rfl rfl ?_
          refine A_iconst 94 (-1) dX10_never_93 rfl (by decide) ?_
          refine A_ixor 95 dX10_never_94 rfl ?_
          refine A_iand 96 dX10_never_95 rfl ?_
          refine A_goto 100 dX10_never_96 (by decide) ?_
          have ew : w01 v = 0 := by
            first | (simp only [c12, c81, if_true, if_false, ite_true, ite_false, and_true, true_and, and_false, false_and, and_self, or_true, true_or, or_false, false_or, or_self, not_true_eq_false, not_false_eq_true, decide_true, decide_false, Bool.and_true, Bool.true_and, Bool.and_false, Bool.false_and, Bool.and_self, Bool.or_true, Bool.true_or, Bool.or_false, Bool.false_or, Bool.not_true, Bool.not_false, cond_true, cond_false, bI_t, bI_f, Bool.false_eq_true, Bool.true_eq_false, dayC_1, dayC_21, dayC_221, dayC_222, w01, wP, wPL, wP01, wL01, wRow, w01R, wAB, wNum, isP, isL]; done) | (simp only [c12, eq_true c81, if_true, if_false, ite_true, ite_false, and_true, true_and, and_false, false_and, and_self, or_true, true_or, or_false, false_or, or_self, not_true_eq_false, not_false_eq_true, decide_true, decide_false, Bool.and_true, Bool.true_and, Bool.and_false, Bool.false_and, Bool.and_self, Bool.or_true, Bool.true_or, Bool.or_false, Bool.false_or, Bool.not_true, Bool.not_false, cond_true, cond_false, bI_t, bI_f, Bool.false_eq_true, Bool.true_eq_false, dayC_1, dayC_21, dayC_221, dayC_222, w01, wP, wPL, wP01, wL01, wRow, w01R, wAB, wNum, isP, isL]; done)
          refine A_iret dX10_never_100 rfl ⟨_, rfl, (by rw [ew, rV_0]; rw [nv_12] at ee; unfold aNever; first | (rw [if_pos c81, show foldN (dsF x) 0 x.2.2.2.1 = u from congrArg Prod.fst ee]; rfl) | (rw [if_neg c81, ← nv_DA hp]; exact congrArg Prod.snd ee)), _, (by rw [ew]; first | (rw [rS_0]; exact O28) | exact O28), hf⟩
      · skip
        have hi := up_ge_F (N := x.2.2.2.1) c53 rfl (by omega) (by omega)
        obtain ⟨n0, rfl⟩ : ∃ q, nq = q + 1 := ⟨nq - 1, by omega⟩
        refine A_aload_n 57 dX10_never_56 rfl rfl rfl ?_
        refine A_iload 59 dX10_never_57 rfl rfl ?_
        refine A_callVI 62 (S_X10_doneBy_n X l (by first | assumption | decide | omega | exact Ne.symm (by assumption)) (by first | assumption | decide | omega | exact Ne.symm (by assumption)) (by first | assumption | decide | omega | exact Ne.symm (by assumption))) dX10_never_59 rfl kX10_doneBy lk_X10_115 rfl O28 (by decide) rfl (Nat.le_of_ble_eq_true rfl) (fun v_3 h_3 qh_3 => ?_)
        obtain ⟨rfl, n0h_3, eh_3⟩ := qh_3
        replace O28 := n0h_3
        replace hf : ∀ i, i ≠ 28 → h_3 i = h i := fun i g0 => (eh_3 i g0).trans (hf i g0)
        refine A_istore 64 dX10_never_62 rfl (by decide) (by first | exact (ast_s (ast_s (ast_s (ast_s (ast_1 rfl))))) | exact (ast_s (ast_s (ast_s (ast_s ast_k))))) ?_
        refine A_iload_n 65 dX10_never_64 rfl rfl rfl ?_
        refine A_iload 67 dX10_never_65 rfl rfl ?_
        refine A_ior 68 dX10_never_67 rfl ?_
        refine A_istore_n 69 dX10_never_68 rfl rfl (by decide) (by first | exact (ast_s (ast_1 rfl)) | exact (ast_s ast_k)) ?_
        refine A_iload_n 70 dX10_never_69 rfl rfl rfl ?_
        refine A_iload 72 dX10_never_70 rfl rfl ?_
        refine A_iand 73 dX10_never_72 rfl ?_
        refine A_istore_n 74 dX10_never_73 rfl rfl (by decide) (by first | exact (ast_s (ast_s (ast_1 rfl))) | exact (ast_s (ast_s ast_k))) ?_
        first | refine A_iincN 77 dX10_never_74 rfl rfl (by decide) (by first | exact (ast_s (ast_s (ast_s (ast_1 rfl)))) | exact (ast_s (ast_s (ast_s ast_k)))) ?_ | refine A_iinc 77 (1) dX10_never_74 rfl rfl (by decide) (by decide) (by first | exact (ast_s (ast_s (ast_s (ast_1 rfl)))) | exact (ast_s (ast_s (ast_s ast_k)))) ?_
        refine A_goto 47 dX10_never_77 (by decide) ?_
        exact A_weak (ih n0 (Nat.lt_succ_self n0) (i + 1) _ _ h_3 _ (by omega) ((foldN_s (nvF x) ((0, evE x)) i).trans ((congrArg ((nvF x) i) ee).trans (by first | with_reducible rfl | (simp only [c12, if_true, if_false, ite_true, ite_false, and_true, true_and, and_false, false_and, and_self, or_true, true_or, or_false, false_or, or_self, not_true_eq_false, not_false_eq_true, decide_true, decide_false, Bool.and_true, Bool.true_and, Bool.and_false, Bool.false_and, Bool.and_self, Bool.or_true, Bool.true_or, Bool.or_false, Bool.false_or, Bool.not_true, Bool.not_false, cond_true, cond_false, bI_t, bI_f, Bool.false_eq_true, Bool.true_eq_false, dayC_1, dayC_21, dayC_221, dayC_222, nvF]; done) | (simp [*, nvF]; done) | with_reducible_and_instances rfl))) O28 hf) (sub_s (sub_s (sub_s (sub_s (sub_s (sub_n sub_nil))))))
    exact A_weak (L47 (x.2.2.2.1) (0) (_) (_) h_1 (_) (by omega) (rfl) O28 hf) (sub_s (sub_s (sub_s (sub_s (sub_s (sub_n sub_nil))))))
  · skip
    try simp only [bI_0, bI_n0, Classical.not_not, Bool.not_eq_false, Bool.true_and, Bool.and_true, decide_eq_true_eq, decide_eq_false_iff_not, dayC_1, dayC_21, dayC_221, dayC_222, inI_1, inI_2, inI_3, inI_5, inI_11, inI_16] at c12
    refine A_aload_n 16 dX10_never_15 rfl rfl rfl ?_
    refine A_bipush 18 (-2) dX10_never_16 rfl (by decide) ?_
    refine A_callVI 21 (S_X10_refuse_c X l (by first | assumption | decide | omega | exact Ne.symm (by assumption)) (by first | assumption | (unfold CD; decide))) dX10_never_18 rfl kX10_refuse lk_X10_121 rfl O28 (by decide) rfl (Nat.le_of_ble_eq_true rfl) (fun v_4 h_4 qh_4 => ?_)
    obtain ⟨rfl, n0h_4, eh_4⟩ := qh_4
    replace O28 := n0h_4
    replace hf : ∀ i, i ≠ 28 → h_4 i = h i := fun i g0 => (eh_4 i g0).trans (hf i g0)
    have ew : w01 v = -2 := by
      first | (simp only [c12, if_true, if_false, ite_true, ite_false, and_true, true_and, and_false, false_and, and_self, or_true, true_or, or_false, false_or, or_self, not_true_eq_false, not_false_eq_true, decide_true, decide_false, Bool.and_true, Bool.true_and, Bool.and_false, Bool.false_and, Bool.and_self, Bool.or_true, Bool.true_or, Bool.or_false, Bool.false_or, Bool.not_true, Bool.not_false, cond_true, cond_false, bI_t, bI_f, Bool.false_eq_true, Bool.true_eq_false, dayC_1, dayC_21, dayC_221, dayC_222, w01, wP, wPL, wP01, wL01, wRow, w01R, wAB, wNum, isP, isL]; done)
    refine A_iret dX10_never_21 rfl ⟨_, rfl, (by rw [ew]; exact rV_n (by decide)), _, (by rw [ew]; first | (rw [rS_0]; exact O28) | exact O28), hf⟩
