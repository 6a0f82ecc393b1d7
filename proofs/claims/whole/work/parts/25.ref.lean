/-! the reference: refusals, and what its ways of asking come to -/
def CZ (w : Int32) : Prop := w = 0 ∨ CD w
theorem cz_0 : CZ 0 := Or.inl rfl
theorem cz_1 : CZ (-1) := Or.inr (Or.inl rfl)
theorem cz_2 : CZ (-2) := Or.inr (Or.inr (Or.inl rfl))
theorem cz_3 : CZ (-3) := Or.inr (Or.inr (Or.inr (Or.inl rfl)))
theorem cz_4 : CZ (-4) := Or.inr (Or.inr (Or.inr (Or.inr (Or.inl rfl))))
theorem cz_6 : CZ (-6) := Or.inr (Or.inr (Or.inr (Or.inr (Or.inr rfl))))
theorem cz_ite {p : Prop} {d : Decidable p} {a b : Int32} (ha : CZ a) (hb : CZ b) : CZ (@ite Int32 p d a b) := by
  by_cases h : p
  · rw [if_pos h]; exact ha
  · rw [if_neg h]; exact hb
theorem cz_pos {w : Int32} (h : CZ w) (c : ¬ w < 0) : w = 0 := by
  rcases h with rfl | rfl | rfl | rfl | rfl | rfl
  · rfl
  all_goals exact absurd (by decide) c
theorem cz_neg {w : Int32} (h : CZ w) (c : w < 0) : CD w := by
  rcases h with rfl | h
  · exact absurd c (by decide)
  · exact h
theorem wrB_0 (v m : Int32) : wrB 0 v m = if v < 0 ∨ m < v then -2 else 0 := by
  unfold wrB
  by_cases h : v < 0 ∨ m < v
  · rw [if_pos h, if_pos ⟨rfl, fun z => h.elim (Int32.not_lt.mpr z.1) (Int32.not_lt.mpr z.2)⟩]
  · rw [if_neg h, if_neg (fun z => z.2 ⟨Int32.not_lt.mp (fun q => h (Or.inl q)), Int32.not_lt.mp (fun q => h (Or.inr q))⟩)]
theorem wrB_n {w : Int32} (v m : Int32) (h : ¬ w = 0) : wrB w v m = w := if_neg (fun z => h z.1)
theorem wrB_1 (v m : Int32) : wrB (-1) v m = -1 := wrB_n v m (by decide)
theorem wrB_N (s lo hi v m : Int32) : wrB (wrN s lo hi) v m = if s < lo then -4 else if hi < s then -6 else if v < 0 ∨ m < v then -2 else 0 := by
  unfold wrN
  by_cases h : s < lo
  · rw [if_pos h, if_pos h]; exact wrB_n v m (by decide)
  · rw [if_neg h, if_neg h]
    by_cases h2 : hi < s
    · rw [if_pos h2, if_pos h2]; exact wrB_n v m (by decide)
    · rw [if_neg h2, if_neg h2]; exact wrB_0 v m
theorem inI_w {v m : Int32} {b : Int64} (hb : b = m.toInt64) : inI v.toInt64 0 b = decide (¬ (v < 0 ∨ m < v)) := by
  rw [inI_lit (a := 0) (lo := 0) (hi := m) (b := b) rfl hb]
  apply decide_eq_decide.mpr
  constructor
  · rintro ⟨a, c⟩ (q | q)
    · exact Int32.not_lt.mpr a q
    · exact Int32.not_lt.mpr c q
  · intro h
    exact ⟨Int32.not_lt.mp (fun q => h (Or.inl q)), Int32.not_lt.mp (fun q => h (Or.inr q))⟩
theorem inI_1 (v : Int32) : inI v.toInt64 0 1 = decide (¬ (v < 0 ∨ 1 < v)) := inI_w rfl
theorem inI_2 (v : Int32) : inI v.toInt64 0 2 = decide (¬ (v < 0 ∨ 2 < v)) := inI_w rfl
theorem inI_3 (v : Int32) : inI v.toInt64 0 3 = decide (¬ (v < 0 ∨ 3 < v)) := inI_w rfl
theorem inI_5 (v : Int32) : inI v.toInt64 0 5 = decide (¬ (v < 0 ∨ 5 < v)) := inI_w rfl
theorem inI_11 (v : Int32) : inI v.toInt64 0 11 = decide (¬ v < 0 ∧ v < 12) := by
  rw [inI_w (m := 11) (b := 11) rfl]
  apply decide_eq_decide.mpr
  have e : 11 < v ↔ ¬ v < 12 := by
    rw [Int32.lt_iff_toInt_lt, Int32.lt_iff_toInt_lt]
    have h1 : ((11 : Int32)).toInt = 11 := by decide
    have h2 : ((12 : Int32)).toInt = 12 := by decide
    omega
  rw [e]
  constructor
  · intro h
    exact ⟨fun q => h (Or.inl q), Classical.not_not.mp (fun q => h (Or.inr q))⟩
  · rintro ⟨a, b⟩ (q | q)
    · exact a q
    · exact q b
theorem inI_16 (v : Int32) : inI v.toInt64 11 16 = decide (¬ v < 11 ∧ ¬ 16 < v) := by
  rw [inI_lit (lo := 11) (hi := 16) (a := 11) (b := 16) rfl rfl]
  apply decide_eq_decide.mpr
  rw [Int32.not_lt, Int32.not_lt]
theorem sh_tb {i : Nat} (hi : i < 8) : (1 : Int32) <<< (nI i &&& 31) = tbI (nI i) := (tbI_nI hi).symm
theorem sh_one (v : Int32) : (1 : Int32) <<< (v &&& 31) = oneB v := rfl
/-- down through the numbers: what is met last is the least -/
theorem dn_none {p : Nat → Prop} {F : Nat → Int32 → Int32} (hn : ∀ i u, ¬ p i → F i u = u) : ∀ m a, (∀ i, i < m → ¬ p i) → downF F m a = a := by
  intro m
  induction m with
  | zero => intro a _; rfl
  | succ m ih =>
    intro a h
    rw [downF_s, ih _ (fun i hi => h i (by omega)), hn m a (h m (by omega))]
theorem dn_first {p : Nat → Prop} {F : Nat → Int32 → Int32} (hn : ∀ i u, ¬ p i → F i u = u) (hp : ∀ i u, p i → F i u = nI i) {i : Nat} (h1 : p i) (h2 : ∀ j, j < i → ¬ p j) : ∀ m a, i < m → downF F m a = nI i := by
  intro m
  induction m with
  | zero => intro a h; exact absurd h (Nat.not_lt_zero i)
  | succ m ih =>
    intro a h
    rw [downF_s]
    by_cases e : i = m
    · subst e
      rw [dn_none hn _ _ h2, hp i a h1]
    · exact ih _ (by omega)
def whF (f : FI) (l : Int32) (k : Nat) (u : Int32) : Int32 := if f k = l then nI k else u
theorem hourN_none {f : FI} {l : Int32} : ∀ n k, (∀ j, k ≤ j → j < k + n → ¬ f j = l) → hourN f l n k = -9 := by
  intro n
  induction n with
  | zero => intro k _; rfl
  | succ n ih =>
    intro k h
    rw [hourN_s, if_neg (h k (Nat.le_refl k) (by omega))]
    exact ih (k + 1) (fun j h1 h2 => h j (by omega) (by omega))
theorem hourN_first {f : FI} {l : Int32} {i : Nat} (h1 : f i = l) : ∀ n k, k ≤ i → i < k + n → (∀ j, k ≤ j → j < i → ¬ f j = l) → hourN f l n k = nI i := by
  intro n
  induction n with
  | zero => intro k h2 h3 _; omega
  | succ n ih =>
    intro k h2 h3 h4
    rw [hourN_s]
    by_cases e : k = i
    · subst e; rw [if_pos h1]
    · rw [if_neg (h4 k (Nat.le_refl k) (by omega))]
      exact ih (k + 1) (by omega) (by omega) (fun j h5 h6 => h4 j (by omega) h6)
theorem hour_dn (f : FI) (l : Int32) : downF (whF f l) 12 (-9) = hourF f l := by
  have hn : ∀ i u, ¬ f i = l → whF f l i u = u := fun i u h => if_neg h
  have hp : ∀ i u, f i = l → whF f l i u = nI i := fun i u h => if_pos h
  unfold hourF
  rcases first_or (fun i => decide (f i = l)) 12 with h | ⟨i, hi, h1, h2⟩
  · have h3 : ∀ i, i < 12 → ¬ f i = l := fun i hi => of_decide_eq_false (h i hi)
    rw [dn_none (p := fun i => f i = l) hn _ _ h3, hourN_none 12 0 (fun j _ hj => h3 j (by omega))]
  · have h3 : ∀ j, j < i → ¬ f j = l := fun j hj => of_decide_eq_false (h2 j hj)
    rw [dn_first (p := fun i => f i = l) hn hp (of_decide_eq_true h1) h3 _ _ hi, hourN_first (of_decide_eq_true h1) 12 0 (Nat.zero_le i) (by omega) (fun j _ hj => h3 j hj)]
theorem neg9 {b : Int32} (h : b = -9 ∨ R8 b) (c : b < 0) : b = -9 := by
  rcases h with h | ⟨m, hm, e⟩
  · exact h
  · rw [e] at c; exact absurd c (nI_pos (by omega))
theorem pos9 {b : Int32} (h : b = -9 ∨ R8 b) (c : ¬ b < 0) : ¬ b = -9 ∧ R8 b := by
  rcases h with h | h
  · rw [h] at c; exact absurd (by decide) c
  · exact ⟨fun e => c (by rw [e]; decide), h⟩
theorem DN_nn (x : PW) (hx : LOK x) (s : Int32) : ∃ m, m < 1000 ∧ DN x s = nI m := by
  obtain ⟨e, h⟩ := (R10_pop (dDone_R hx 0 s))
  exact ⟨_, by omega, e⟩
theorem bu_most {x : PW} (hx : LOK x) : (foldN (buF x) (0, -1) 256).2 = DN x (foldN (buF x) (0, -1) 256).1 := by
  have h := foldN_inv (buF x) (0, -1) (fun i t => (i = 0 ∧ t = (0, -1)) ∨ t.2 = DN x t.1) (Or.inl ⟨rfl, rfl⟩) 256 (fun i t _ ht => by
    unfold buF
    rcases ht with ⟨h0, rfl⟩ | ht
    · obtain ⟨m, hm, e⟩ := DN_nn x hx (nI i)
      rw [if_pos (by show -1 < DN x (nI i); rw [e]; exact Int32.lt_of_lt_of_le (by decide : (-1 : Int32) < 0) (nI_pos' (by omega)))]
      exact Or.inr rfl
    · split
      · exact Or.inr rfl
      · exact Or.inr ht)
  rcases h with ⟨h, _⟩ | h
  · exact absurd h (by decide)
  · exact h
theorem wP_cz {x : PW} {p : Int32} : CZ (wP x p) := by
  unfold wP
  repeat' first | exact cz_0 | exact cz_1 | exact cz_2 | exact cz_3 | exact cz_4 | exact cz_6 | refine cz_ite ?_ ?_
theorem wP_0 {x : PW} {p : Int32} (h : wP x p = 0) : (isP x p = true) := by
  unfold wP at h
  by_cases h0 : isP x p = true
  case neg => rw [if_neg h0] at h; exact absurd h (by decide)
  exact h0
theorem wPL_cz {x : PW} {p l : Int32} : CZ (wPL x p l) := by
  unfold wPL
  repeat' first | exact cz_0 | exact cz_1 | exact cz_2 | exact cz_3 | exact cz_4 | exact cz_6 | refine cz_ite ?_ ?_
theorem wPL_0 {x : PW} {p l : Int32} (h : wPL x p l = 0) : (isP x p = true ∧ isL x l = true) := by
  unfold wPL at h
  by_cases h0 : isP x p = true ∧ isL x l = true
  case neg => rw [if_neg h0] at h; exact absurd h (by decide)
  exact h0
theorem w01_cz {v : Int32} : CZ (w01 v) := by
  unfold w01
  repeat' first | exact cz_0 | exact cz_1 | exact cz_2 | exact cz_3 | exact cz_4 | exact cz_6 | refine cz_ite ?_ ?_
theorem w01_0 {v : Int32} (h : w01 v = 0) : ¬ (v < 0 ∨ 1 < v) := by
  unfold w01 at h
  by_cases h0 : v < 0 ∨ 1 < v
  case pos => rw [if_pos h0] at h; exact absurd h (by decide)
  exact h0
theorem wP01_cz {x : PW} {p v : Int32} : CZ (wP01 x p v) := by
  unfold wP01 w01
  repeat' first | exact cz_0 | exact cz_1 | exact cz_2 | exact cz_3 | exact cz_4 | exact cz_6 | refine cz_ite ?_ ?_
theorem wP01_0 {x : PW} {p v : Int32} (h : wP01 x p v = 0) : (isP x p = true) ∧ ¬ (v < 0 ∨ 1 < v) := by
  unfold wP01 w01 at h
  by_cases h0 : isP x p = true
  case neg => rw [if_neg h0] at h; exact absurd h (by decide)
  rw [if_pos h0] at h
  by_cases h1 : v < 0 ∨ 1 < v
  case pos => rw [if_pos h1] at h; exact absurd h (by decide)
  exact ⟨h0, h1⟩
theorem wL01_cz {x : PW} {l v : Int32} : CZ (wL01 x l v) := by
  unfold wL01 w01
  repeat' first | exact cz_0 | exact cz_1 | exact cz_2 | exact cz_3 | exact cz_4 | exact cz_6 | refine cz_ite ?_ ?_
theorem wL01_0 {x : PW} {l v : Int32} (h : wL01 x l v = 0) : (isL x l = true) ∧ ¬ (v < 0 ∨ 1 < v) := by
  unfold wL01 w01 at h
  by_cases h0 : isL x l = true
  case neg => rw [if_neg h0] at h; exact absurd h (by decide)
  rw [if_pos h0] at h
  by_cases h1 : v < 0 ∨ 1 < v
  case pos => rw [if_pos h1] at h; exact absurd h (by decide)
  exact ⟨h0, h1⟩
theorem wAt_cz {x : PW} {p hr v : Int32} : CZ (wAt x p hr v) := by
  unfold wAt w01
  repeat' first | exact cz_0 | exact cz_1 | exact cz_2 | exact cz_3 | exact cz_4 | exact cz_6 | refine cz_ite ?_ ?_
theorem wAt_0 {x : PW} {p hr v : Int32} (h : wAt x p hr v = 0) : (isP x p = true ∧ ¬ hr < 0 ∧ hr < 12) ∧ ¬ (v < 0 ∨ 1 < v) := by
  unfold wAt w01 at h
  by_cases h0 : isP x p = true ∧ ¬ hr < 0 ∧ hr < 12
  case neg => rw [if_neg h0] at h; exact absurd h (by decide)
  rw [if_pos h0] at h
  by_cases h1 : v < 0 ∨ 1 < v
  case pos => rw [if_pos h1] at h; exact absurd h (by decide)
  exact ⟨h0, h1⟩
theorem wDone_cz {x : PW} {p v : Int32} : CZ (wDone x p v) := by
  unfold wDone
  repeat' first | exact cz_0 | exact cz_1 | exact cz_2 | exact cz_3 | exact cz_4 | exact cz_6 | refine cz_ite ?_ ?_
theorem wDone_0 {x : PW} {p v : Int32} (h : wDone x p v = 0) : (isP x p = true) ∧ ¬ (v < 0 ∨ 3 < v) := by
  unfold wDone at h
  by_cases h0 : isP x p = true
  case neg => rw [if_neg h0] at h; exact absurd h (by decide)
  rw [if_pos h0] at h
  by_cases h1 : v < 0 ∨ 3 < v
  case pos => rw [if_pos h1] at h; exact absurd h (by decide)
  exact ⟨h0, h1⟩
theorem wInst_cz {x : PW} {p s v : Int32} : CZ (wInst x p s v) := by
  unfold wInst w01
  repeat' first | exact cz_0 | exact cz_1 | exact cz_2 | exact cz_3 | exact cz_4 | exact cz_6 | refine cz_ite ?_ ?_
theorem wInst_0 {x : PW} {p s v : Int32} (h : wInst x p s v = 0) : (isP x p = true) ∧ ¬ (s < 0) ∧ ¬ (255 < s) ∧ ¬ (v < 0 ∨ 1 < v) := by
  unfold wInst w01 at h
  by_cases h0 : isP x p = true
  case neg => rw [if_neg h0] at h; exact absurd h (by decide)
  rw [if_pos h0] at h
  by_cases h1 : s < 0
  case pos => rw [if_pos h1] at h; exact absurd h (by decide)
  rw [if_neg h1] at h
  by_cases h2 : 255 < s
  case pos => rw [if_pos h2] at h; exact absurd h (by decide)
  rw [if_neg h2] at h
  by_cases h3 : v < 0 ∨ 1 < v
  case pos => rw [if_pos h3] at h; exact absurd h (by decide)
  exact ⟨h0, h1, h2, h3⟩
theorem wAllS_cz {x : PW} {p s : Int32} : CZ (wAllS x p s) := by
  unfold wAllS
  repeat' first | exact cz_0 | exact cz_1 | exact cz_2 | exact cz_3 | exact cz_4 | exact cz_6 | refine cz_ite ?_ ?_
theorem wAllS_0 {x : PW} {p s : Int32} (h : wAllS x p s = 0) : (isP x p = true) ∧ ¬ (s < 0) ∧ ¬ (allL x < s) := by
  unfold wAllS at h
  by_cases h0 : isP x p = true
  case neg => rw [if_neg h0] at h; exact absurd h (by decide)
  rw [if_pos h0] at h
  by_cases h1 : s < 0
  case pos => rw [if_pos h1] at h; exact absurd h (by decide)
  rw [if_neg h1] at h
  by_cases h2 : allL x < s
  case pos => rw [if_pos h2] at h; exact absurd h (by decide)
  exact ⟨h0, h1, h2⟩
theorem w01R_cz {x : PW} {t : FI} {n : Nat} {v : Int32} : CZ (w01R x t n v) := by
  unfold w01R wRow
  repeat' first | exact cz_0 | exact cz_1 | exact cz_2 | exact cz_3 | exact cz_4 | exact cz_6 | refine cz_ite ?_ ?_
theorem w01R_0 {x : PW} {t : FI} {n : Nat} {v : Int32} (h : w01R x t n v = 0) : ¬ (v < 0 ∨ 1 < v) ∧ (rowOK t n x.2.2.1 = true) := by
  unfold w01R wRow at h
  by_cases h0 : v < 0 ∨ 1 < v
  case pos => rw [if_pos h0] at h; exact absurd h (by decide)
  rw [if_neg h0] at h
  by_cases h1 : rowOK t n x.2.2.1 = true
  case neg => rw [if_neg h1] at h; exact absurd h (by decide)
  exact ⟨h0, h1⟩
theorem wInIt_cz {x : PW} {t : FI} {n : Nat} {c v : Int32} : CZ (wInIt x t n c v) := by
  unfold wInIt wRow
  repeat' first | exact cz_0 | exact cz_1 | exact cz_2 | exact cz_3 | exact cz_4 | exact cz_6 | refine cz_ite ?_ ?_
theorem wInIt_0 {x : PW} {t : FI} {n : Nat} {c v : Int32} (h : wInIt x t n c v = 0) : (inT c = true) ∧ ¬ (v < 0 ∨ 1 < v) ∧ (rowOK t n x.2.2.1 = true) := by
  unfold wInIt wRow at h
  by_cases h0 : inT c = true
  case neg => rw [if_neg h0] at h; exact absurd h (by decide)
  rw [if_pos h0] at h
  by_cases h1 : v < 0 ∨ 1 < v
  case pos => rw [if_pos h1] at h; exact absurd h (by decide)
  rw [if_neg h1] at h
  by_cases h2 : rowOK t n x.2.2.1 = true
  case neg => rw [if_neg h2] at h; exact absurd h (by decide)
  exact ⟨h0, h1, h2⟩
theorem wWhich_cz {x : PW} {t : FI} {n : Nat} {p l v : Int32} : CZ (wWhich x t n p l v) := by
  unfold wWhich wRow
  repeat' first | exact cz_0 | exact cz_1 | exact cz_2 | exact cz_3 | exact cz_4 | exact cz_6 | refine cz_ite ?_ ?_
theorem wWhich_0 {x : PW} {t : FI} {n : Nat} {p l v : Int32} (h : wWhich x t n p l v = 0) : (isP x p = true ∧ isL x l = true) ∧ ¬ (v < 0 ∨ 2 < v) ∧ (rowOK t n x.2.2.1 = true) := by
  unfold wWhich wRow at h
  by_cases h0 : isP x p = true ∧ isL x l = true
  case neg => rw [if_neg h0] at h; exact absurd h (by decide)
  rw [if_pos h0] at h
  by_cases h1 : v < 0 ∨ 2 < v
  case pos => rw [if_pos h1] at h; exact absurd h (by decide)
  rw [if_neg h1] at h
  by_cases h2 : rowOK t n x.2.2.1 = true
  case neg => rw [if_neg h2] at h; exact absurd h (by decide)
  exact ⟨h0, h1, h2⟩
theorem wCh_cz {x : PW} {p l t v : Int32} : CZ (wCh x p l t v) := by
  unfold wCh w01
  repeat' first | exact cz_0 | exact cz_1 | exact cz_2 | exact cz_3 | exact cz_4 | exact cz_6 | refine cz_ite ?_ ?_
theorem wCh_0 {x : PW} {p l t v : Int32} (h : wCh x p l t v = 0) : (isP x p = true ∧ isL x l = true) ∧ ¬ (t < 2) ∧ ¬ (20 < t) ∧ ¬ (v < 0 ∨ 1 < v) := by
  unfold wCh w01 at h
  by_cases h0 : isP x p = true ∧ isL x l = true
  case neg => rw [if_neg h0] at h; exact absurd h (by decide)
  rw [if_pos h0] at h
  by_cases h1 : t < 2
  case pos => rw [if_pos h1] at h; exact absurd h (by decide)
  rw [if_neg h1] at h
  by_cases h2 : 20 < t
  case pos => rw [if_pos h2] at h; exact absurd h (by decide)
  rw [if_neg h2] at h
  by_cases h3 : v < 0 ∨ 1 < v
  case pos => rw [if_pos h3] at h; exact absurd h (by decide)
  exact ⟨h0, h1, h2, h3⟩
theorem wTrade_cz {x : PW} {a b v : Int32} : CZ (wTrade x a b v) := by
  unfold wTrade w01
  repeat' first | exact cz_0 | exact cz_1 | exact cz_2 | exact cz_3 | exact cz_4 | exact cz_6 | refine cz_ite ?_ ?_
theorem wTrade_0 {x : PW} {a b v : Int32} (h : wTrade x a b v = 0) : (isP x a = true ∧ isP x b = true ∧ ¬ a = b) ∧ ¬ (v < 0 ∨ 1 < v) := by
  unfold wTrade w01 at h
  by_cases h0 : isP x a = true ∧ isP x b = true ∧ ¬ a = b
  case neg => rw [if_neg h0] at h; exact absurd h (by decide)
  rw [if_pos h0] at h
  by_cases h1 : v < 0 ∨ 1 < v
  case pos => rw [if_pos h1] at h; exact absurd h (by decide)
  exact ⟨h0, h1⟩
theorem wAB_cz {x : PW} {a b : Int32} : CZ (wAB x a b) := by
  unfold wAB
  repeat' first | exact cz_0 | exact cz_1 | exact cz_2 | exact cz_3 | exact cz_4 | exact cz_6 | refine cz_ite ?_ ?_
theorem wAB_0 {x : PW} {a b : Int32} (h : wAB x a b = 0) : (isP x a = true ∧ isP x b = true ∧ ¬ a = b) := by
  unfold wAB at h
  by_cases h0 : isP x a = true ∧ isP x b = true ∧ ¬ a = b
  case neg => rw [if_neg h0] at h; exact absurd h (by decide)
  exact h0
theorem wAdds_cz {x : PW} {p t v : Int32} : CZ (wAdds x p t v) := by
  unfold wAdds
  repeat' first | exact cz_0 | exact cz_1 | exact cz_2 | exact cz_3 | exact cz_4 | exact cz_6 | refine cz_ite ?_ ?_
theorem wAdds_0 {x : PW} {p t v : Int32} (h : wAdds x p t v = 0) : (isP x p = true ∧ inT t = true) ∧ ¬ (v < 0 ∨ 1 < v) ∧ (btI (pk x p) t = true) := by
  unfold wAdds at h
  by_cases h0 : isP x p = true ∧ inT t = true
  case neg => rw [if_neg h0] at h; exact absurd h (by decide)
  rw [if_pos h0] at h
  by_cases h1 : v < 0 ∨ 1 < v
  case pos => rw [if_pos h1] at h; exact absurd h (by decide)
  rw [if_neg h1] at h
  by_cases h2 : btI (pk x p) t = true
  case neg => rw [if_neg h2] at h; exact absurd h (by decide)
  exact ⟨h0, h1, h2⟩
theorem wNP_cz {x : PW} {p n lo : Int32} : CZ (wNP x p n lo) := by
  unfold wNP
  repeat' first | exact cz_0 | exact cz_1 | exact cz_2 | exact cz_3 | exact cz_4 | exact cz_6 | refine cz_ite ?_ ?_
theorem wNP_0 {x : PW} {p n lo : Int32} (h : wNP x p n lo = 0) : (isP x p = true) ∧ ¬ (n < lo) ∧ ¬ (60 < n) := by
  unfold wNP at h
  by_cases h0 : isP x p = true
  case neg => rw [if_neg h0] at h; exact absurd h (by decide)
  rw [if_pos h0] at h
  by_cases h1 : n < lo
  case pos => rw [if_pos h1] at h; exact absurd h (by decide)
  rw [if_neg h1] at h
  by_cases h2 : 60 < n
  case pos => rw [if_pos h2] at h; exact absurd h (by decide)
  exact ⟨h0, h1, h2⟩
theorem wLots_cz {n v : Int32} : CZ (wLots n v) := by
  unfold wLots w01
  repeat' first | exact cz_0 | exact cz_1 | exact cz_2 | exact cz_3 | exact cz_4 | exact cz_6 | refine cz_ite ?_ ?_
theorem wLots_0 {n v : Int32} (h : wLots n v = 0) : ¬ (n < 1) ∧ ¬ (20 < n) ∧ ¬ (v < 0 ∨ 1 < v) := by
  unfold wLots w01 at h
  by_cases h0 : n < 1
  case pos => rw [if_pos h0] at h; exact absurd h (by decide)
  rw [if_neg h0] at h
  by_cases h1 : 20 < n
  case pos => rw [if_pos h1] at h; exact absurd h (by decide)
  rw [if_neg h1] at h
  by_cases h2 : v < 0 ∨ 1 < v
  case pos => rw [if_pos h2] at h; exact absurd h (by decide)
  exact ⟨h0, h1, h2⟩
theorem wTake_cz {x : PW} {p t : Int32} : CZ (wTake x p t) := by
  unfold wTake
  repeat' first | exact cz_0 | exact cz_1 | exact cz_2 | exact cz_3 | exact cz_4 | exact cz_6 | refine cz_ite ?_ ?_
theorem wTake_0 {x : PW} {p t : Int32} (h : wTake x p t = 0) : (isP x p = true ∧ inT t = true) ∧ (btI (pk x p) t = true) := by
  unfold wTake at h
  by_cases h0 : isP x p = true ∧ inT t = true
  case neg => rw [if_neg h0] at h; exact absurd h (by decide)
  rw [if_pos h0] at h
  by_cases h1 : btI (pk x p) t = true
  case neg => rw [if_neg h1] at h; exact absurd h (by decide)
  exact ⟨h0, h1⟩
theorem wTurn_cz {x : PW} {l k f : Int32} : CZ (wTurn x l k f) := by
  unfold wTurn
  repeat' first | exact cz_0 | exact cz_1 | exact cz_2 | exact cz_3 | exact cz_4 | exact cz_6 | refine cz_ite ?_ ?_
theorem wTurn_0 {x : PW} {l k f : Int32} (h : wTurn x l k f = 0) : (isL x l = true) ∧ ¬ (k < 0 ∨ 5 < k) ∧ ¬ (f < 0) ∧ ¬ (9 < f) := by
  unfold wTurn at h
  by_cases h0 : isL x l = true
  case neg => rw [if_neg h0] at h; exact absurd h (by decide)
  rw [if_pos h0] at h
  by_cases h1 : k < 0 ∨ 5 < k
  case pos => rw [if_pos h1] at h; exact absurd h (by decide)
  rw [if_neg h1] at h
  by_cases h2 : f < 0
  case pos => rw [if_pos h2] at h; exact absurd h (by decide)
  rw [if_neg h2] at h
  by_cases h3 : 9 < f
  case pos => rw [if_pos h3] at h; exact absurd h (by decide)
  exact ⟨h0, h1, h2, h3⟩
theorem wLaw_cz {x : PW} {k f t : Int32} : CZ (wLaw x k f t) := by
  unfold wLaw
  repeat' first | exact cz_0 | exact cz_1 | exact cz_2 | exact cz_3 | exact cz_4 | exact cz_6 | refine cz_ite ?_ ?_
theorem wLaw_0 {x : PW} {k f t : Int32} (h : wLaw x k f t = 0) : ¬ (k < 0 ∨ 5 < k) ∧ ¬ (f < 0 ∨ t < 0) ∧ ¬ (9 < f ∨ ¬ inT (t / 10) = true ∨ ¬ inT (t - t / 10 * 10) = true) ∧ (x.2.2.1 < 10) := by
  unfold wLaw at h
  by_cases h0 : k < 0 ∨ 5 < k
  case pos => rw [if_pos h0] at h; exact absurd h (by decide)
  rw [if_neg h0] at h
  by_cases h1 : f < 0 ∨ t < 0
  case pos => rw [if_pos h1] at h; exact absurd h (by decide)
  rw [if_neg h1] at h
  by_cases h2 : 9 < f ∨ ¬ inT (t / 10) = true ∨ ¬ inT (t - t / 10 * 10) = true
  case pos => rw [if_pos h2] at h; exact absurd h (by decide)
  rw [if_neg h2] at h
  by_cases h3 : x.2.2.1 < 10
  case neg => rw [if_neg h3] at h; exact absurd h (by decide)
  exact ⟨h0, h1, h2, h3⟩
theorem wPers_cz {x : PW} {v : Int32} : CZ (wPers x v) := by
  unfold wPers
  repeat' first | exact cz_0 | exact cz_1 | exact cz_2 | exact cz_3 | exact cz_4 | exact cz_6 | refine cz_ite ?_ ?_
theorem wPers_0 {x : PW} {v : Int32} (h : wPers x v = 0) : ¬ (v < 0) ∧ ¬ (255 < v ∨ ¬ x.2.2.2.1 < 6) := by
  unfold wPers at h
  by_cases h0 : v < 0
  case pos => rw [if_pos h0] at h; exact absurd h (by decide)
  rw [if_neg h0] at h
  by_cases h1 : 255 < v ∨ ¬ x.2.2.2.1 < 6
  case pos => rw [if_pos h1] at h; exact absurd h (by decide)
  exact ⟨h0, h1⟩
set_option maxHeartbeats 4000000 in
set_option maxRecDepth 100000 in
theorem S_X10_feed (X : En) (l : Launch) {h : Hp} {x : PW} {c : RC} {z : RZ} (O28 : h 28 = some (rB x (-1) c z)) (hW : WOK x) (hn : c.2.2.1 ≤ 96) {v : Int32} : Ct X l mX10_feed [aR 28 0, aI v] h (QI (fun vr h2 => (rV (wFeed c.2.2.1 v) (nI (c.2.2.1 + 1))) = vr ∧ ∃ (z1 : RZ), h2 (28) = some (rB x (-1) (rS (wFeed c.2.2.1 v) c.1, ifW (wFeed c.2.2.1 v) (va_up c.2.1 c.2.2.1 v) c.2.1, ifW (wFeed c.2.2.1 v) (c.2.2.1 + 1) c.2.2.1, c.2.2.2) z1) ∧ ∀ i, i ≠ 28 → h2 i = h i)) := by
  have hx := hW.1
  have hp := hW.2.1
  have h10 := hx.1
  have hf : ∀ i, i ≠ 28 → h i = h i := fun _ _ => rfl
  refine Ct.intro [some (aR 28 0), some (aI v)] (by decide +kernel) rfl (Nat.le_of_ble_eq_true rfl) ?_
  refine A_aload_n 1 dX10_feed_0 rfl rfl rfl ?_
  refine A_iconst 2 (0) dX10_feed_1 rfl (by decide) ?_
  refine P_X10_9 5 dX10_feed_2 rfl fw_X10_78 O28 (fun h_1 nh_1 eh_1 => ?_)
  replace O28 := nh_1
  replace hf : ∀ i, i ≠ 28 → h_1 i = h i := fun i g0 => (eh_1 i g0).trans (hf i g0)
  try dsimp only at O28
  refine A_iload_n 6 dX10_feed_5 rfl rfl rfl ?_
  refine A_if_ge 16 9 dX10_feed_6 (by decide) rfl (fun c6 => ?_) (fun c6 => ?_)
  · skip
    try simp only [bI_0, bI_n0, Classical.not_not, Bool.not_eq_false, Bool.true_and, Bool.and_true, decide_eq_true_eq, decide_eq_false_iff_not, dayC_1, dayC_21, dayC_221, dayC_222, inI_1, inI_2, inI_3, inI_5, inI_11, inI_16] at c6
    have n6 := c6
    replace c6 := Int32.not_lt.mpr c6
    refine A_iload_n 17 dX10_feed_16 rfl rfl rfl ?_
    refine A_sipush 20 (255) dX10_feed_17 rfl (by decide) ?_
    refine A_icmp_gt 32 23 dX10_feed_20 (by decide) rfl (fun c20 => ?_) (fun c20 => ?_)
    · skip
      try simp only [bI_0, bI_n0, Classical.not_not, Bool.not_eq_false, Bool.true_and, Bool.and_true, decide_eq_true_eq, decide_eq_false_iff_not, dayC_1, dayC_21, dayC_221, dayC_222, inI_1, inI_2, inI_3, inI_5, inI_11, inI_16] at c20
      have n20 := Int32.not_le.mpr c20
      refine A_aload_n 33 dX10_feed_32 rfl rfl rfl ?_
      refine A_bipush 35 (-6) dX10_feed_33 rfl (by decide) ?_
      refine A_callVI 38 (S_X10_refuse_c X l (by first | assumption | decide | omega | exact Ne.symm (by assumption)) (by first | assumption | (unfold CD; decide))) dX10_feed_35 rfl kX10_refuse lk_X10_121 rfl O28 (by decide) rfl (Nat.le_of_ble_eq_true rfl) (fun v_2 h_2 qh_2 => ?_)
      obtain ⟨rfl, n0h_2, eh_2⟩ := qh_2
      replace O28 := n0h_2
      replace hf : ∀ i, i ≠ 28 → h_2 i = h i := fun i g0 => (eh_2 i g0).trans (hf i g0)
      have ew : wFeed c.2.2.1 v = -6 := by
        first | (simp only [c6, n6, c20, n20, if_true, if_false, ite_true, ite_false, and_true, true_and, and_false, false_and, and_self, or_true, true_or, or_false, false_or, or_self, not_true_eq_false, not_false_eq_true, decide_true, decide_false, Bool.and_true, Bool.true_and, Bool.and_false, Bool.false_and, Bool.and_self, Bool.or_true, Bool.true_or, Bool.or_false, Bool.false_or, Bool.not_true, Bool.not_false, cond_true, cond_false, bI_t, bI_f, Bool.false_eq_true, Bool.true_eq_false, dayC_1, dayC_21, dayC_221, dayC_222, wFeed, w01, wP, wPL, wP01, wL01, wRow, w01R, wAB, wNum, isP, isL]; done)
      refine A_iret dX10_feed_38 rfl ⟨_, rfl, (by rw [ew]; exact rV_n (by decide)), _, (by rw [ew]; simp only [ifW_0, ifW_1, ifW_2, ifW_3, ifW_4, ifW_6]; first | (rw [rS_0]; exact O28) | exact O28), hf⟩
    · skip
      try simp only [bI_0, bI_n0, Classical.not_not, Bool.not_eq_false, Bool.true_and, Bool.and_true, decide_eq_true_eq, decide_eq_false_iff_not, dayC_1, dayC_21, dayC_221, dayC_222, inI_1, inI_2, inI_3, inI_5, inI_11, inI_16] at c20
      have n20 := Int32.not_lt.mp c20
      refine A_aload_n 24 dX10_feed_23 rfl rfl rfl ?_
      refine A_getfield 27 dX10_feed_24 rfl f_X10_124 O28 rfl ?_
      try dsimp only
      refine A_bipush 29 (96) dX10_feed_27 rfl (by decide) ?_
      refine A_icmp_ne 39 32 dX10_feed_29 (by decide) rfl (fun c29 => ?_) (fun c29 => ?_)
      · skip
        try simp only [bI_0, bI_n0, Classical.not_not, Bool.not_eq_false, Bool.true_and, Bool.and_true, decide_eq_true_eq, decide_eq_false_iff_not, dayC_1, dayC_21, dayC_221, dayC_222, inI_1, inI_2, inI_3, inI_5, inI_11, inI_16] at c29
        have cl_n : ¬ c.2.2.1 = 96 := fun e => c29 (by rw [e]; rfl)
        refine A_aload_n 40 dX10_feed_39 rfl rfl rfl ?_
        refine A_getfield 43 dX10_feed_40 rfl f_X10_38 O28 rfl ?_
        refine A_aload_n 44 dX10_feed_43 rfl rfl rfl ?_
        refine A_getfield 47 dX10_feed_44 rfl f_X10_124 O28 rfl ?_
        try dsimp only
        refine A_iload_n 48 dX10_feed_47 rfl rfl rfl ?_
        refine T_X10_8 49 dX10_feed_48 rfl O28 (by first | assumption | exact ix_nI (by omega) (by decide) | exact ix_lit _ rfl (by omega) (by decide) | exact ix_lit _ rfl (by decide) (by decide)) (fun h_3 nh_3 eh_3 => ?_)
        replace O28 := nh_3
        replace hf : ∀ i, i ≠ 28 → h_3 i = h i := fun i g0 => (eh_3 i g0).trans (hf i g0)
        try dsimp only at O28
        refine A_aload_n 50 dX10_feed_49 rfl rfl rfl ?_
        refine A_dup 51 dX10_feed_50 rfl rfl ?_
        refine A_getfield 54 dX10_feed_51 rfl f_X10_124 O28 rfl ?_
        try dsimp only
        refine A_iconst 55 (1) dX10_feed_54 rfl (by decide) ?_
        refine A_iadd 56 dX10_feed_55 rfl ?_
        rw [n41]
        refine P_X10_15 59 dX10_feed_56 rfl fw_X10_124 O28 (fun h_4 nh_4 eh_4 => ?_)
        replace O28 := nh_4
        replace hf : ∀ i, i ≠ 28 → h_4 i = h i := fun i g0 => (eh_4 i g0).trans (hf i g0)
        try dsimp only at O28
        refine A_aload_n 60 dX10_feed_59 rfl rfl rfl ?_
        refine A_getfield 63 dX10_feed_60 rfl f_X10_124 O28 rfl ?_
        try dsimp only
        have ew : wFeed c.2.2.1 v = 0 := by
          first | (simp only [c6, n6, c20, n20, c29, cl_n, if_true, if_false, ite_true, ite_false, and_true, true_and, and_false, false_and, and_self, or_true, true_or, or_false, false_or, or_self, not_true_eq_false, not_false_eq_true, decide_true, decide_false, Bool.and_true, Bool.true_and, Bool.and_false, Bool.false_and, Bool.and_self, Bool.or_true, Bool.true_or, Bool.or_false, Bool.false_or, Bool.not_true, Bool.not_false, cond_true, cond_false, bI_t, bI_f, Bool.false_eq_true, Bool.true_eq_false, dayC_1, dayC_21, dayC_221, dayC_222, wFeed, w01, wP, wPL, wP01, wL01, wRow, w01R, wAB, wNum, isP, isL]; done)
        refine A_iret dX10_feed_63 rfl ⟨_, rfl, (by rw [ew, rV_0]; skip), _, (by rw [ew]; simp only [ifW_0, ifW_1, ifW_2, ifW_3, ifW_4, ifW_6]; first | (rw [rS_0]; exact O28) | exact O28), hf⟩
      · skip
        try simp only [bI_0, bI_n0, Classical.not_not, Bool.not_eq_false, Bool.true_and, Bool.and_true, decide_eq_true_eq, decide_eq_false_iff_not, dayC_1, dayC_21, dayC_221, dayC_222, inI_1, inI_2, inI_3, inI_5, inI_11, inI_16] at c29
        have cl_n : c.2.2.1 = 96 := (ninj (a := c.2.2.1) (b := 96) (by omega) (by decide)).mp c29
        refine A_aload_n 33 dX10_feed_32 rfl rfl rfl ?_
        refine A_bipush 35 (-6) dX10_feed_33 rfl (by decide) ?_
        refine A_callVI 38 (S_X10_refuse_c X l (by first | assumption | decide | omega | exact Ne.symm (by assumption)) (by first | assumption | (unfold CD; decide))) dX10_feed_35 rfl kX10_refuse lk_X10_121 rfl O28 (by decide) rfl (Nat.le_of_ble_eq_true rfl) (fun v_5 h_5 qh_5 => ?_)
        obtain ⟨rfl, n0h_5, eh_5⟩ := qh_5
        replace O28 := n0h_5
        replace hf : ∀ i, i ≠ 28 → h_5 i = h i := fun i g0 => (eh_5 i g0).trans (hf i g0)
        have ew : wFeed c.2.2.1 v = -6 := by
          first | (simp only [c6, n6, c20, n20, c29, cl_n, if_true, if_false, ite_true, ite_false, and_true, true_and, and_false, false_and, and_self, or_true, true_or, or_false, false_or, or_self, not_true_eq_false, not_false_eq_true, decide_true, decide_false, Bool.and_true, Bool.true_and, Bool.and_false, Bool.false_and, Bool.and_self, Bool.or_true, Bool.true_or, Bool.or_false, Bool.false_or, Bool.not_true, Bool.not_false, cond_true, cond_false, bI_t, bI_f, Bool.false_eq_true, Bool.true_eq_false, dayC_1, dayC_21, dayC_221, dayC_222, wFeed, w01, wP, wPL, wP01, wL01, wRow, w01R, wAB, wNum, isP, isL]; done) | (simp only [c6, n6, c20, n20, eq_true c29, cl_n, if_true, if_false, ite_true, ite_false, and_true, true_and, and_false, false_and, and_self, or_true, true_or, or_false, false_or, or_self, not_true_eq_false, not_false_eq_true, decide_true, decide_false, Bool.and_true, Bool.true_and, Bool.and_false, Bool.false_and, Bool.and_self, Bool.or_true, Bool.true_or, Bool.or_false, Bool.false_or, Bool.not_true, Bool.not_false, cond_true, cond_false, bI_t, bI_f, Bool.false_eq_true, Bool.true_eq_false, dayC_1, dayC_21, dayC_221, dayC_222, wFeed, w01, wP, wPL, wP01, wL01, wRow, w01R, wAB, wNum, isP, isL]; done)
        refine A_iret dX10_feed_38 rfl ⟨_, rfl, (by rw [ew]; exact rV_n (by decide)), _, (by rw [ew]; simp only [ifW_0, ifW_1, ifW_2, ifW_3, ifW_4, ifW_6]; first | (rw [rS_0]; exact O28) | exact O28), hf⟩
  · skip
    try simp only [bI_0, bI_n0, Classical.not_not, Bool.not_eq_false, Bool.true_and, Bool.and_true, decide_eq_true_eq, decide_eq_false_iff_not, dayC_1, dayC_21, dayC_221, dayC_222, inI_1, inI_2, inI_3, inI_5, inI_11, inI_16] at c6
    have n6 := c6
    replace c6 := Int32.not_le.mp c6
    refine A_aload_n 10 dX10_feed_9 rfl rfl rfl ?_
    refine A_bipush 12 (-4) dX10_feed_10 rfl (by decide) ?_
    refine A_callVI 15 (S_X10_refuse_c X l (by first | assumption | decide | omega | exact Ne.symm (by assumption)) (by first | assumption | (unfold CD; decide))) dX10_feed_12 rfl kX10_refuse lk_X10_121 rfl O28 (by decide) rfl (Nat.le_of_ble_eq_true rfl) (fun v_6 h_6 qh_6 => ?_)
    obtain ⟨rfl, n0h_6, eh_6⟩ := qh_6
    replace O28 := n0h_6
    replace hf : ∀ i, i ≠ 28 → h_6 i = h i := fun i g0 => (eh_6 i g0).trans (hf i g0)
    have ew : wFeed c.2.2.1 v = -4 := by
      first | (simp only [c6, n6, if_true, if_false, ite_true, ite_false, and_true, true_and, and_false, false_and, and_self, or_true, true_or, or_false, false_or, or_self, not_true_eq_false, not_false_eq_true, decide_true, decide_false, Bool.and_true, Bool.true_and, Bool.and_false, Bool.false_and, Bool.and_self, Bool.or_true, Bool.true_or, Bool.or_false, Bool.false_or, Bool.not_true, Bool.not_false, cond_true, cond_false, bI_t, bI_f, Bool.false_eq_true, Bool.true_eq_false, dayC_1, dayC_21, dayC_221, dayC_222, wFeed, w01, wP, wPL, wP01, wL01, wRow, w01R, wAB, wNum, isP, isL]; done)
    refine A_iret dX10_feed_15 rfl ⟨_, rfl, (by rw [ew]; exact rV_n (by decide)), _, (by rw [ew]; simp only [ifW_0, ifW_1, ifW_2, ifW_3, ifW_4, ifW_6]; first | (rw [rS_0]; exact O28) | exact O28), hf⟩
set_option maxHeartbeats 4000000 in
set_option maxRecDepth 100000 in
theorem S_X10_row (X : En) (l : Launch) {h : Hp} {x : PW} {c : RC} {z : RZ} (O28 : h 28 = some (rB x (-1) c z)) (hW : WOK x) (hn : c.2.2.2.2.2.2.2.2 ≤ 16) {v : Int32} : Ct X l mX10_row [aR 28 0, aI v] h (QI (fun vr h2 => (rV (wRowF c.2.2.2.2.2.2.2.2 v) (nI (c.2.2.2.2.2.2.2.2 + 1))) = vr ∧ ∃ (z1 : RZ), h2 (28) = some (rB x (-1) (rS (wRowF c.2.2.2.2.2.2.2.2 v) c.1, c.2.1, c.2.2.1, c.2.2.2.1, c.2.2.2.2.1, c.2.2.2.2.2.1, c.2.2.2.2.2.2.1, ifW (wRowF c.2.2.2.2.2.2.2.2 v) (va_up c.2.2.2.2.2.2.2.1 c.2.2.2.2.2.2.2.2 v) c.2.2.2.2.2.2.2.1, ifW (wRowF c.2.2.2.2.2.2.2.2 v) (c.2.2.2.2.2.2.2.2 + 1) c.2.2.2.2.2.2.2.2) z1) ∧ ∀ i, i ≠ 28 → h2 i = h i)) := by
  have hx := hW.1
  have hp := hW.2.1
  have h10 := hx.1
  have hf : ∀ i, i ≠ 28 → h i = h i := fun _ _ => rfl
  refine Ct.intro [some (aR 28 0), some (aI v)] (by decide +kernel) rfl (Nat.le_of_ble_eq_true rfl) ?_
  refine A_aload_n 1 dX10_row_0 rfl rfl rfl ?_
  refine A_iconst 2 (0) dX10_row_1 rfl (by decide) ?_
  refine P_X10_9 5 dX10_row_2 rfl fw_X10_78 O28 (fun h_1 nh_1 eh_1 => ?_)
  replace O28 := nh_1
  replace hf : ∀ i, i ≠ 28 → h_1 i = h i := fun i g0 => (eh_1 i g0).trans (hf i g0)
  try dsimp only at O28
  refine A_iload_n 6 dX10_row_5 rfl rfl rfl ?_
  refine A_if_ge 16 9 dX10_row_6 (by decide) rfl (fun c6 => ?_) (fun c6 => ?_)
  · skip
    try simp only [bI_0, bI_n0, Classical.not_not, Bool.not_eq_false, Bool.true_and, Bool.and_true, decide_eq_true_eq, decide_eq_false_iff_not, dayC_1, dayC_21, dayC_221, dayC_222, inI_1, inI_2, inI_3, inI_5, inI_11, inI_16] at c6
    have n6 := c6
    replace c6 := Int32.not_lt.mpr c6
    refine A_iload_n 17 dX10_row_16 rfl rfl rfl ?_
    refine A_bipush 19 (99) dX10_row_17 rfl (by decide) ?_
    refine A_icmp_gt 31 22 dX10_row_19 (by decide) rfl (fun c19 => ?_) (fun c19 => ?_)
    · skip
      try simp only [bI_0, bI_n0, Classical.not_not, Bool.not_eq_false, Bool.true_and, Bool.and_true, decide_eq_true_eq, decide_eq_false_iff_not, dayC_1, dayC_21, dayC_221, dayC_222, inI_1, inI_2, inI_3, inI_5, inI_11, inI_16] at c19
      have n19 := Int32.not_le.mpr c19
      refine A_aload_n 32 dX10_row_31 rfl rfl rfl ?_
      refine A_bipush 34 (-6) dX10_row_32 rfl (by decide) ?_
      refine A_callVI 37 (S_X10_refuse_c X l (by first | assumption | decide | omega | exact Ne.symm (by assumption)) (by first | assumption | (unfold CD; decide))) dX10_row_34 rfl kX10_refuse lk_X10_121 rfl O28 (by decide) rfl (Nat.le_of_ble_eq_true rfl) (fun v_2 h_2 qh_2 => ?_)
      obtain ⟨rfl, n0h_2, eh_2⟩ := qh_2
      replace O28 := n0h_2
      replace hf : ∀ i, i ≠ 28 → h_2 i = h i := fun i g0 => (eh_2 i g0).trans (hf i g0)
      have ew : wRowF c.2.2.2.2.2.2.2.2 v = -6 := by
        first | (simp only [c6, n6, c19, n19, if_true, if_false, ite_true, ite_false, and_true, true_and, and_false, false_and, and_self, or_true, true_or, or_false, false_or, or_self, not_true_eq_false, not_false_eq_true, decide_true, decide_false, Bool.and_true, Bool.true_and, Bool.and_false, Bool.false_and, Bool.and_self, Bool.or_true, Bool.true_or, Bool.or_false, Bool.false_or, Bool.not_true, Bool.not_false, cond_true, cond_false, bI_t, bI_f, Bool.false_eq_true, Bool.true_eq_false, dayC_1, dayC_21, dayC_221, dayC_222, wRowF, w01, wP, wPL, wP01, wL01, wRow, w01R, wAB, wNum, isP, isL]; done)
      refine A_iret dX10_row_37 rfl ⟨_, rfl, (by rw [ew]; exact rV_n (by decide)), _, (by rw [ew]; simp only [ifW_0, ifW_1, ifW_2, ifW_3, ifW_4, ifW_6]; first | (rw [rS_0]; exact O28) | exact O28), hf⟩
    · skip
      try simp only [bI_0, bI_n0, Classical.not_not, Bool.not_eq_false, Bool.true_and, Bool.and_true, decide_eq_true_eq, decide_eq_false_iff_not, dayC_1, dayC_21, dayC_221, dayC_222, inI_1, inI_2, inI_3, inI_5, inI_11, inI_16] at c19
      have n19 := Int32.not_lt.mp c19
      refine A_aload_n 23 dX10_row_22 rfl rfl rfl ?_
      refine A_getfield 26 dX10_row_23 rfl f_X10_236 O28 rfl ?_
      try dsimp only
      refine A_bipush 28 (16) dX10_row_26 rfl (by decide) ?_
      refine A_icmp_ne 38 31 dX10_row_28 (by decide) rfl (fun c28 => ?_) (fun c28 => ?_)
      · skip
        try simp only [bI_0, bI_n0, Classical.not_not, Bool.not_eq_false, Bool.true_and, Bool.and_true, decide_eq_true_eq, decide_eq_false_iff_not, dayC_1, dayC_21, dayC_221, dayC_222, inI_1, inI_2, inI_3, inI_5, inI_11, inI_16] at c28
        have cl_n : ¬ c.2.2.2.2.2.2.2.2 = 16 := fun e => c28 (by rw [e]; rfl)
        refine A_aload_n 39 dX10_row_38 rfl rfl rfl ?_
        refine A_getfield 42 dX10_row_39 rfl f_X10_62 O28 rfl ?_
        refine A_aload_n 43 dX10_row_42 rfl rfl rfl ?_
        refine A_getfield 46 dX10_row_43 rfl f_X10_236 O28 rfl ?_
        try dsimp only
        refine A_iload_n 47 dX10_row_46 rfl rfl rfl ?_
        refine T_X10_16 48 dX10_row_47 rfl O28 (by first | assumption | exact ix_nI (by omega) (by decide) | exact ix_lit _ rfl (by omega) (by decide) | exact ix_lit _ rfl (by decide) (by decide)) (fun h_3 nh_3 eh_3 => ?_)
        replace O28 := nh_3
        replace hf : ∀ i, i ≠ 28 → h_3 i = h i := fun i g0 => (eh_3 i g0).trans (hf i g0)
        try dsimp only at O28
        refine A_aload_n 49 dX10_row_48 rfl rfl rfl ?_
        refine A_dup 50 dX10_row_49 rfl rfl ?_
        refine A_getfield 53 dX10_row_50 rfl f_X10_236 O28 rfl ?_
        try dsimp only
        refine A_iconst 54 (1) dX10_row_53 rfl (by decide) ?_
        refine A_iadd 55 dX10_row_54 rfl ?_
        rw [n41]
        refine P_X10_32 58 dX10_row_55 rfl fw_X10_236 O28 (fun h_4 nh_4 eh_4 => ?_)
        replace O28 := nh_4
        replace hf : ∀ i, i ≠ 28 → h_4 i = h i := fun i g0 => (eh_4 i g0).trans (hf i g0)
        try dsimp only at O28
        refine A_aload_n 59 dX10_row_58 rfl rfl rfl ?_
        refine A_getfield 62 dX10_row_59 rfl f_X10_236 O28 rfl ?_
        try dsimp only
        have ew : wRowF c.2.2.2.2.2.2.2.2 v = 0 := by
          first | (simp only [c6, n6, c19, n19, c28, cl_n, if_true, if_false, ite_true, ite_false, and_true, true_and, and_false, false_and, and_self, or_true, true_or, or_false, false_or, or_self, not_true_eq_false, not_false_eq_true, decide_true, decide_false, Bool.and_true, Bool.true_and, Bool.and_false, Bool.false_and, Bool.and_self, Bool.or_true, Bool.true_or, Bool.or_false, Bool.false_or, Bool.not_true, Bool.not_false, cond_true, cond_false, bI_t, bI_f, Bool.false_eq_true, Bool.true_eq_false, dayC_1, dayC_21, dayC_221, dayC_222, wRowF, w01, wP, wPL, wP01, wL01, wRow, w01R, wAB, wNum, isP, isL]; done)
        refine A_iret dX10_row_62 rfl ⟨_, rfl, (by rw [ew, rV_0]; skip), _, (by rw [ew]; simp only [ifW_0, ifW_1, ifW_2, ifW_3, ifW_4, ifW_6]; first | (rw [rS_0]; exact O28) | exact O28), hf⟩
      · skip
        try simp only [bI_0, bI_n0, Classical.not_not, Bool.not_eq_false, Bool.true_and, Bool.and_true, decide_eq_true_eq, decide_eq_false_iff_not, dayC_1, dayC_21, dayC_221, dayC_222, inI_1, inI_2, inI_3, inI_5, inI_11, inI_16] at c28
        have cl_n : c.2.2.2.2.2.2.2.2 = 16 := (ninj (a := c.2.2.2.2.2.2.2.2) (b := 16) (by omega) (by decide)).mp c28
        refine A_aload_n 32 dX10_row_31 rfl rfl rfl ?_
        refine A_bipush 34 (-6) dX10_row_32 rfl (by decide) ?_
        refine A_callVI 37 (S_X10_refuse_c X l (by first | assumption | decide | omega | exact Ne.symm (by assumption)) (by first | assumption | (unfold CD; decide))) dX10_row_34 rfl kX10_refuse lk_X10_121 rfl O28 (by decide) rfl (Nat.le_of_ble_eq_true rfl) (fun v_5 h_5 qh_5 => ?_)
        obtain ⟨rfl, n0h_5, eh_5⟩ := qh_5
        replace O28 := n0h_5
        replace hf : ∀ i, i ≠ 28 → h_5 i = h i := fun i g0 => (eh_5 i g0).trans (hf i g0)
        have ew : wRowF c.2.2.2.2.2.2.2.2 v = -6 := by
          first | (simp only [c6, n6, c19, n19, c28, cl_n, if_true, if_false, ite_true, ite_false, and_true, true_and, and_false, false_and, and_self, or_true, true_or, or_false, false_or, or_self, not_true_eq_false, not_false_eq_true, decide_true, decide_false, Bool.and_true, Bool.true_and, Bool.and_false, Bool.false_and, Bool.and_self, Bool.or_true, Bool.true_or, Bool.or_false, Bool.false_or, Bool.not_true, Bool.not_false, cond_true, cond_false, bI_t, bI_f, Bool.false_eq_true, Bool.true_eq_false, dayC_1, dayC_21, dayC_221, dayC_222, wRowF, w01, wP, wPL, wP01, wL01, wRow, w01R, wAB, wNum, isP, isL]; done) | (simp only [c6, n6, c19, n19, eq_true c28, cl_n, if_true, if_false, ite_true, ite_false, and_true, true_and, and_false, false_and, and_self, or_true, true_or, or_false, false_or, or_self, not_true_eq_false, not_false_eq_true, decide_true, decide_false, Bool.and_true, Bool.true_and, Bool.and_false, Bool.false_and, Bool.and_self, Bool.or_true, Bool.true_or, Bool.or_false, Bool.false_or, Bool.not_true, Bool.not_false, cond_true, cond_false, bI_t, bI_f, Bool.false_eq_true, Bool.true_eq_false, dayC_1, dayC_21, dayC_221, dayC_222, wRowF, w01, wP, wPL, wP01, wL01, wRow, w01R, wAB, wNum, isP, isL]; done)
        refine A_iret dX10_row_37 rfl ⟨_, rfl, (by rw [ew]; exact rV_n (by decide)), _, (by rw [ew]; simp only [ifW_0, ifW_1, ifW_2, ifW_3, ifW_4, ifW_6]; first | (rw [rS_0]; exact O28) | exact O28), hf⟩
  · skip
    try simp only [bI_0, bI_n0, Classical.not_not, Bool.not_eq_false, Bool.true_and, Bool.and_true, decide_eq_true_eq, decide_eq_false_iff_not, dayC_1, dayC_21, dayC_221, dayC_222, inI_1, inI_2, inI_3, inI_5, inI_11, inI_16] at c6
    have n6 := c6
    replace c6 := Int32.not_le.mp c6
    refine A_aload_n 10 dX10_row_9 rfl rfl rfl ?_
    refine A_bipush 12 (-4) dX10_row_10 rfl (by decide) ?_
    refine A_callVI 15 (S_X10_refuse_c X l (by first | assumption | decide | omega | exact Ne.symm (by assumption)) (by first | assumption | (unfold CD; decide))) dX10_row_12 rfl kX10_refuse lk_X10_121 rfl O28 (by decide) rfl (Nat.le_of_ble_eq_true rfl) (fun v_6 h_6 qh_6 => ?_)
    obtain ⟨rfl, n0h_6, eh_6⟩ := qh_6
    replace O28 := n0h_6
    replace hf : ∀ i, i ≠ 28 → h_6 i = h i := fun i g0 => (eh_6 i g0).trans (hf i g0)
    have ew : wRowF c.2.2.2.2.2.2.2.2 v = -4 := by
      first | (simp only [c6, n6, if_true, if_false, ite_true, ite_false, and_true, true_and, and_false, false_and, and_self, or_true, true_or, or_false, false_or, or_self, not_true_eq_false, not_false_eq_true, decide_true, decide_false, Bool.and_true, Bool.true_and, Bool.and_false, Bool.false_and, Bool.and_self, Bool.or_true, Bool.true_or, Bool.or_false, Bool.false_or, Bool.not_true, Bool.not_false, cond_true, cond_false, bI_t, bI_f, Bool.false_eq_true, Bool.true_eq_false, dayC_1, dayC_21, dayC_221, dayC_222, wRowF, w01, wP, wPL, wP01, wL01, wRow, w01R, wAB, wNum, isP, isL]; done)
    refine A_iret dX10_row_15 rfl ⟨_, rfl, (by rw [ew]; exact rV_n (by decide)), _, (by rw [ew]; simp only [ifW_0, ifW_1, ifW_2, ifW_3, ifW_4, ifW_6]; first | (rw [rS_0]; exact O28) | exact O28), hf⟩
set_option maxHeartbeats 4000000 in
set_option maxRecDepth 100000 in
theorem S_X10_clear (X : En) (l : Launch) {h : Hp} {x : PW} {c : RC} {z : RZ} (O28 : h 28 = some (rB x (-1) c z)) : Ct X l mX10_clear [aR 28 0] h (QI (fun vr h2 => (nI c.2.2.2.2.2.2.2.2) = vr ∧ ∃ (z1 : RZ), h2 (28) = some (rB x (-1) (c.1, c.2.1, c.2.2.1, c.2.2.2.1, c.2.2.2.2.1, c.2.2.2.2.2.1, c.2.2.2.2.2.2.1, c.2.2.2.2.2.2.2.1, 0) z1) ∧ ∀ i, i ≠ 28 → h2 i = h i)) := by
  have hf : ∀ i, i ≠ 28 → h i = h i := fun _ _ => rfl
  refine Ct.intro [some (aR 28 0), none] (by decide +kernel) rfl (Nat.le_of_ble_eq_true rfl) ?_
  refine A_aload_n 1 dX10_clear_0 rfl rfl rfl ?_
  refine A_iconst 2 (0) dX10_clear_1 rfl (by decide) ?_
  refine P_X10_9 5 dX10_clear_2 rfl fw_X10_78 O28 (fun h_1 nh_1 eh_1 => ?_)
  replace O28 := nh_1
  replace hf : ∀ i, i ≠ 28 → h_1 i = h i := fun i g0 => (eh_1 i g0).trans (hf i g0)
  try dsimp only at O28
  refine A_aload_n 6 dX10_clear_5 rfl rfl rfl ?_
  refine A_getfield 9 dX10_clear_6 rfl f_X10_236 O28 rfl ?_
  try dsimp only
  refine A_istore_n 10 dX10_clear_9 rfl rfl (by decide) (by first | exact (ast_1 rfl) | exact ast_k) ?_
  refine A_aload_n 11 dX10_clear_10 rfl rfl rfl ?_
  refine A_iconst 12 (0) dX10_clear_11 rfl (by decide) ?_
  refine P_X10_32 15 dX10_clear_12 rfl fw_X10_236 O28 (fun h_2 nh_2 eh_2 => ?_)
  replace O28 := nh_2
  replace hf : ∀ i, i ≠ 28 → h_2 i = h i := fun i g0 => (eh_2 i g0).trans (hf i g0)
  try dsimp only at O28
  refine A_iload_n 16 dX10_clear_15 rfl rfl rfl ?_
  refine A_iret dX10_clear_16 rfl ⟨_, rfl, (by first | with_reducible rfl | (simp only [if_true, if_false, ite_true, ite_false, and_true, true_and, and_false, false_and, and_self, or_true, true_or, or_false, false_or, or_self, not_true_eq_false, not_false_eq_true, decide_true, decide_false, Bool.and_true, Bool.true_and, Bool.and_false, Bool.false_and, Bool.and_self, Bool.or_true, Bool.true_or, Bool.or_false, Bool.false_or, Bool.not_true, Bool.not_false, cond_true, cond_false, bI_t, bI_f, Bool.false_eq_true, Bool.true_eq_false, dayC_1, dayC_21, dayC_221, dayC_222]; done) | (simp only [*]; done) | (simp [bI, *]; done) | with_reducible_and_instances rfl), _, O28, hf⟩
set_option maxHeartbeats 4000000 in
set_option maxRecDepth 100000 in
theorem S_X10_pockets (X : En) (l : Launch) {h : Hp} {x : PW} {c : RC} {z : RZ} (O28 : h 28 = some (rB x (-1) c z)) (hW : WOK x)  {p : Int32} : Ct X l mX10_pockets [aR 28 0, aI p] h (QI (fun vr h2 => (rV (wP x p) (pk x p)) = vr ∧ ∃ (z1 : RZ), h2 (28) = some (rB x (-1) (rS (wP x p) c.1, c.2) z1) ∧ ∀ i, i ≠ 28 → h2 i = h i)) := by
  have hx := hW.1
  have hp := hW.2.1
  have h10 := hx.1
  have hf : ∀ i, i ≠ 28 → h i = h i := fun _ _ => rfl
  refine Ct.intro [some (aR 28 0), some (aI p)] (by decide +kernel) rfl (Nat.le_of_ble_eq_true rfl) ?_
  refine A_aload_n 1 dX10_pockets_0 rfl rfl rfl ?_
  refine A_iconst 2 (0) dX10_pockets_1 rfl (by decide) ?_
  refine P_X10_9 5 dX10_pockets_2 rfl fw_X10_78 O28 (fun h_1 nh_1 eh_1 => ?_)
  replace O28 := nh_1
  replace hf : ∀ i, i ≠ 28 → h_1 i = h i := fun i g0 => (eh_1 i g0).trans (hf i g0)
  try dsimp only at O28
  refine A_aload_n 6 dX10_pockets_5 rfl rfl rfl ?_
  refine A_iload_n 7 dX10_pockets_6 rfl rfl rfl ?_
  refine A_callVI 10 (S_X10_isOne X l (by first | assumption | decide | omega | exact Ne.symm (by assumption)) (by first | assumption | decide | omega | exact Ne.symm (by assumption))) dX10_pockets_7 rfl kX10_isOne lk_X10_160 rfl O28 (by decide) rfl (Nat.le_of_ble_eq_true rfl) (fun v_2 h_2 qh_2 => ?_)
  obtain ⟨rfl, rfl⟩ := qh_2
  refine A_if_eq 22 13 dX10_pockets_10 (by decide) rfl (fun c10 => ?_) (fun c10 => ?_)
  · skip
    try simp only [bI_0, bI_n0, Classical.not_not, Bool.not_eq_false, Bool.true_and, Bool.and_true, decide_eq_true_eq, decide_eq_false_iff_not, dayC_1, dayC_21, dayC_221, dayC_222, inI_1, inI_2, inI_3, inI_5, inI_11, inI_16] at c10
    refine A_aload_n 23 dX10_pockets_22 rfl rfl rfl ?_
    refine A_iconst 24 (-1) dX10_pockets_23 rfl (by decide) ?_
    refine A_callVI 27 (S_X10_refuse_c X l (by first | assumption | decide | omega | exact Ne.symm (by assumption)) (by first | assumption | (unfold CD; decide))) dX10_pockets_24 rfl kX10_refuse lk_X10_121 rfl O28 (by decide) rfl (Nat.le_of_ble_eq_true rfl) (fun v_3 h_3 qh_3 => ?_)
    obtain ⟨rfl, n0h_3, eh_3⟩ := qh_3
    replace O28 := n0h_3
    replace hf : ∀ i, i ≠ 28 → h_3 i = h i := fun i g0 => (eh_3 i g0).trans (hf i g0)
    have ew : wP x p = -1 := by
      first | (simp only [c10, if_true, if_false, ite_true, ite_false, and_true, true_and, and_false, false_and, and_self, or_true, true_or, or_false, false_or, or_self, not_true_eq_false, not_false_eq_true, decide_true, decide_false, Bool.and_true, Bool.true_and, Bool.and_false, Bool.false_and, Bool.and_self, Bool.or_true, Bool.true_or, Bool.or_false, Bool.false_or, Bool.not_true, Bool.not_false, cond_true, cond_false, bI_t, bI_f, Bool.false_eq_true, Bool.true_eq_false, dayC_1, dayC_21, dayC_221, dayC_222, w01, wP, wPL, wP01, wL01, wRow, w01R, wAB, wNum, isP, isL]; done)
    refine A_iret dX10_pockets_27 rfl ⟨_, rfl, (by rw [ew]; exact rV_n (by decide)), _, (by rw [ew]; first | (rw [rS_0]; exact O28) | exact O28), hf⟩
  · skip
    try simp only [bI_0, bI_n0, Classical.not_not, Bool.not_eq_false, Bool.true_and, Bool.and_true, decide_eq_true_eq, decide_eq_false_iff_not, dayC_1, dayC_21, dayC_221, dayC_222, inI_1, inI_2, inI_3, inI_5, inI_11, inI_16] at c10
    obtain ⟨k_p, rfl, hk_p⟩ := inN_ex c10 (by omega)
    have cl_p : (nI k_p).toNatClampNeg = k_p := nI_clamp (by omega)
    refine A_aload_n 14 dX10_pockets_13 rfl rfl rfl ?_
    refine A_getfield 17 dX10_pockets_14 rfl f_X10_22 O28 rfl ?_
    refine A_iload_n 18 dX10_pockets_17 rfl rfl rfl ?_
    refine A_iaload 19 dX10_pockets_18 rfl O28 rfl (by first | assumption | exact ix_nI (by omega) (by decide) | exact ix_lit _ rfl (by omega) (by decide) | exact ix_lit _ rfl (by decide) (by decide)) ?_
    try dsimp only
    refine A_goto 27 dX10_pockets_19 (by decide) ?_
    have ew : wP x (nI k_p) = 0 := by
      first | (simp only [c10, cl_p, if_true, if_false, ite_true, ite_false, and_true, true_and, and_false, false_and, and_self, or_true, true_or, or_false, false_or, or_self, not_true_eq_false, not_false_eq_true, decide_true, decide_false, Bool.and_true, Bool.true_and, Bool.and_false, Bool.false_and, Bool.and_self, Bool.or_true, Bool.true_or, Bool.or_false, Bool.false_or, Bool.not_true, Bool.not_false, cond_true, cond_false, bI_t, bI_f, Bool.false_eq_true, Bool.true_eq_false, dayC_1, dayC_21, dayC_221, dayC_222, w01, wP, wPL, wP01, wL01, wRow, w01R, wAB, wNum, isP, isL]; done)
    refine A_iret dX10_pockets_27 rfl ⟨_, rfl, (by rw [ew, rV_0]; first | (simp only [c10, cl_p, if_true, if_false, ite_true, ite_false, and_true, true_and, and_false, false_and, and_self, or_true, true_or, or_false, false_or, or_self, not_true_eq_false, not_false_eq_true, decide_true, decide_false, Bool.and_true, Bool.true_and, Bool.and_false, Bool.false_and, Bool.and_self, Bool.or_true, Bool.true_or, Bool.or_false, Bool.false_or, Bool.not_true, Bool.not_false, cond_true, cond_false, bI_t, bI_f, Bool.false_eq_true, Bool.true_eq_false, dayC_1, dayC_21, dayC_221, dayC_222, pk]; done) | (simp [pk, *]; done)), _, (by rw [ew]; first | (rw [rS_0]; exact O28) | exact O28), hf⟩
set_option maxHeartbeats 4000000 in
set_option maxRecDepth 100000 in
theorem S_X10_at (X : En) (l : Launch) {h : Hp} {x : PW} {c : RC} {z : RZ} (O28 : h 28 = some (rB x (-1) c z)) (hW : WOK x)  {p hr v : Int32} : Ct X l mX10_at [aR 28 0, aI p, aI hr, aI v] h (QI (fun vr h2 => (rV (wAt x p hr v) (aAt x p hr v)) = vr ∧ ∃ (z1 : RZ), h2 (28) = some (rB x (-1) (rS (wAt x p hr v) c.1, c.2) z1) ∧ ∀ i, i ≠ 28 → h2 i = h i)) := by
  have hx := hW.1
  have hp := hW.2.1
  have h10 := hx.1
  have hf : ∀ i, i ≠ 28 → h i = h i := fun _ _ => rfl
  refine Ct.intro [some (aR 28 0), some (aI p), some (aI hr), some (aI v), none] (by decide +kernel) rfl (Nat.le_of_ble_eq_true rfl) ?_
  refine A_aload_n 1 dX10_at_0 rfl rfl rfl ?_
  refine A_iconst 2 (0) dX10_at_1 rfl (by decide) ?_
  refine P_X10_9 5 dX10_at_2 rfl fw_X10_78 O28 (fun h_1 nh_1 eh_1 => ?_)
  replace O28 := nh_1
  replace hf : ∀ i, i ≠ 28 → h_1 i = h i := fun i g0 => (eh_1 i g0).trans (hf i g0)
  try dsimp only at O28
  refine A_joinI 35 (fun vj => vj = wAt x p hr v) (fun j35 => ?_) (fun v35 e35 => ?_)
  · skip
    refine A_aload_n 6 dX10_at_5 rfl rfl rfl ?_
    refine A_iload_n 7 dX10_at_6 rfl rfl rfl ?_
    refine A_callVI 10 (S_X10_isOne X l (by first | assumption | decide | omega | exact Ne.symm (by assumption)) (by first | assumption | decide | omega | exact Ne.symm (by assumption))) dX10_at_7 rfl kX10_isOne lk_X10_160 rfl O28 (by decide) rfl (Nat.le_of_ble_eq_true rfl) (fun v_2 h_2 qh_2 => ?_)
    obtain ⟨rfl, rfl⟩ := qh_2
    refine A_if_eq 34 13 dX10_at_10 (by decide) rfl (fun c10 => ?_) (fun c10 => ?_)
    · skip
      try simp only [bI_0, bI_n0, Classical.not_not, Bool.not_eq_false, Bool.true_and, Bool.and_true, decide_eq_true_eq, decide_eq_false_iff_not, dayC_1, dayC_21, dayC_221, dayC_222, inI_1, inI_2, inI_3, inI_5, inI_11, inI_16] at c10
      refine A_iconst 35 (-1) dX10_at_34 rfl (by decide) ?_
      exact j35 _ (by first | (simp only [c10, if_true, if_false, ite_true, ite_false, and_true, true_and, and_false, false_and, and_self, or_true, true_or, or_false, false_or, or_self, not_true_eq_false, not_false_eq_true, decide_true, decide_false, Bool.and_true, Bool.true_and, Bool.and_false, Bool.false_and, Bool.and_self, Bool.or_true, Bool.true_or, Bool.or_false, Bool.false_or, Bool.not_true, Bool.not_false, cond_true, cond_false, bI_t, bI_f, Bool.false_eq_true, Bool.true_eq_false, dayC_1, dayC_21, dayC_221, dayC_222, wAt, w01, wP, wPL, wP01, wL01, wRow, w01R, wAB, wNum, isP, isL, wrB_N, wrB_0, wrB_1]; done) | (simp only [c10, if_true, if_false, ite_true, ite_false, and_true, true_and, and_false, false_and, and_self, or_true, true_or, or_false, false_or, or_self, not_true_eq_false, not_false_eq_true, decide_true, decide_false, Bool.and_true, Bool.true_and, Bool.and_false, Bool.false_and, Bool.and_self, Bool.or_true, Bool.true_or, Bool.or_false, Bool.false_or, Bool.not_true, Bool.not_false, cond_true, cond_false, bI_t, bI_f, Bool.false_eq_true, Bool.true_eq_false, dayC_1, dayC_21, dayC_221, dayC_222, wrN, wAt, w01, wP, wPL, wP01, wL01, wRow, w01R, wAB, wNum, isP, isL, wrB_N, wrB_0, wrB_1]; done) | (simp only [c10, if_true, if_false, ite_true, ite_false, and_true, true_and, and_false, false_and, and_self, or_true, true_or, or_false, false_or, or_self, not_true_eq_false, not_false_eq_true, decide_true, decide_false, Bool.and_true, Bool.true_and, Bool.and_false, Bool.false_and, Bool.and_self, Bool.or_true, Bool.true_or, Bool.or_false, Bool.false_or, Bool.not_true, Bool.not_false, cond_true, cond_false, bI_t, bI_f, Bool.false_eq_true, Bool.true_eq_false, dayC_1, dayC_21, dayC_221, dayC_222, wrN, wAt, w01, wP, wPL, wP01, wL01, wRow, w01R, wAB, wNum, isP, isL, wrB_N, wrB_0, wrB_1]; rfl))
    · skip
      try simp only [bI_0, bI_n0, Classical.not_not, Bool.not_eq_false, Bool.true_and, Bool.and_true, decide_eq_true_eq, decide_eq_false_iff_not, dayC_1, dayC_21, dayC_221, dayC_222, inI_1, inI_2, inI_3, inI_5, inI_11, inI_16] at c10
      refine A_iload_n 14 dX10_at_13 rfl rfl rfl ?_
      refine A_i2l 15 dX10_at_14 rfl ?_
      refine A_lconst 16 (0) dX10_at_15 rfl (by decide) ?_
      refine A_ldc2_w 19 _ dX10_at_16 rfl cn_X10_223 ?_
      refine A_callSI 22 (S_X10_in X l) dX10_at_19 rfl kX10_in lk_X10_84 rfl (by decide) rfl (Nat.le_of_ble_eq_true rfl) (fun v_3 h_3 qh_3 => ?_)
      obtain ⟨rfl, rfl⟩ := qh_3
      refine A_if_eq 34 25 dX10_at_22 (by decide) rfl (fun c22 => ?_) (fun c22 => ?_)
      · skip
        try simp only [bI_0, bI_n0, Classical.not_not, Bool.not_eq_false, Bool.true_and, Bool.and_true, decide_eq_true_eq, decide_eq_false_iff_not, dayC_1, dayC_21, dayC_221, dayC_222, inI_1, inI_2, inI_3, inI_5, inI_11, inI_16] at c22
        refine A_iconst 35 (-1) dX10_at_34 rfl (by decide) ?_
        exact j35 _ (by first | (simp only [c10, c22, if_true, if_false, ite_true, ite_false, and_true, true_and, and_false, false_and, and_self, or_true, true_or, or_false, false_or, or_self, not_true_eq_false, not_false_eq_true, decide_true, decide_false, Bool.and_true, Bool.true_and, Bool.and_false, Bool.false_and, Bool.and_self, Bool.or_true, Bool.true_or, Bool.or_false, Bool.false_or, Bool.not_true, Bool.not_false, cond_true, cond_false, bI_t, bI_f, Bool.false_eq_true, Bool.true_eq_false, dayC_1, dayC_21, dayC_221, dayC_222, wAt, w01, wP, wPL, wP01, wL01, wRow, w01R, wAB, wNum, isP, isL, wrB_N, wrB_0, wrB_1]; done) | (simp only [c10, c22, if_true, if_false, ite_true, ite_false, and_true, true_and, and_false, false_and, and_self, or_true, true_or, or_false, false_or, or_self, not_true_eq_false, not_false_eq_true, decide_true, decide_false, Bool.and_true, Bool.true_and, Bool.and_false, Bool.false_and, Bool.and_self, Bool.or_true, Bool.true_or, Bool.or_false, Bool.false_or, Bool.not_true, Bool.not_false, cond_true, cond_false, bI_t, bI_f, Bool.false_eq_true, Bool.true_eq_false, dayC_1, dayC_21, dayC_221, dayC_222, wrN, wAt, w01, wP, wPL, wP01, wL01, wRow, w01R, wAB, wNum, isP, isL, wrB_N, wrB_0, wrB_1]; done) | (simp only [c10, c22, if_true, if_false, ite_true, ite_false, and_true, true_and, and_false, false_and, and_self, or_true, true_or, or_false, false_or, or_self, not_true_eq_false, not_false_eq_true, decide_true, decide_false, Bool.and_true, Bool.true_and, Bool.and_false, Bool.false_and, Bool.and_self, Bool.or_true, Bool.true_or, Bool.or_false, Bool.false_or, Bool.not_true, Bool.not_false, cond_true, cond_false, bI_t, bI_f, Bool.false_eq_true, Bool.true_eq_false, dayC_1, dayC_21, dayC_221, dayC_222, wrN, wAt, w01, wP, wPL, wP01, wL01, wRow, w01R, wAB, wNum, isP, isL, wrB_N, wrB_0, wrB_1]; rfl))
      · skip
        try simp only [bI_0, bI_n0, Classical.not_not, Bool.not_eq_false, Bool.true_and, Bool.and_true, decide_eq_true_eq, decide_eq_false_iff_not, dayC_1, dayC_21, dayC_221, dayC_222, inI_1, inI_2, inI_3, inI_5, inI_11, inI_16] at c22
        refine A_iconst 26 (0) dX10_at_25 rfl (by decide) ?_
        refine A_iload_n 27 dX10_at_26 rfl rfl rfl ?_
        refine A_iconst 28 (1) dX10_at_27 rfl (by decide) ?_
        refine A_callSI 31 (S_X10_wrongBit X l) dX10_at_28 rfl kX10_wrongBit lk_X10_225 rfl (by decide) rfl (Nat.le_of_ble_eq_true rfl) (fun v_4 h_4 qh_4 => ?_)
        obtain ⟨rfl, rfl⟩ := qh_4
        refine A_goto 35 dX10_at_31 (by decide) ?_
        exact j35 _ (by first | (simp only [c10, c22, if_true, if_false, ite_true, ite_false, and_true, true_and, and_false, false_and, and_self, or_true, true_or, or_false, false_or, or_self, not_true_eq_false, not_false_eq_true, decide_true, decide_false, Bool.and_true, Bool.true_and, Bool.and_false, Bool.false_and, Bool.and_self, Bool.or_true, Bool.true_or, Bool.or_false, Bool.false_or, Bool.not_true, Bool.not_false, cond_true, cond_false, bI_t, bI_f, Bool.false_eq_true, Bool.true_eq_false, dayC_1, dayC_21, dayC_221, dayC_222, wAt, w01, wP, wPL, wP01, wL01, wRow, w01R, wAB, wNum, isP, isL, wrB_N, wrB_0, wrB_1]; done) | (simp only [c10, c22, if_true, if_false, ite_true, ite_false, and_true, true_and, and_false, false_and, and_self, or_true, true_or, or_false, false_or, or_self, not_true_eq_false, not_false_eq_true, decide_true, decide_false, Bool.and_true, Bool.true_and, Bool.and_false, Bool.false_and, Bool.and_self, Bool.or_true, Bool.true_or, Bool.or_false, Bool.false_or, Bool.not_true, Bool.not_false, cond_true, cond_false, bI_t, bI_f, Bool.false_eq_true, Bool.true_eq_false, dayC_1, dayC_21, dayC_221, dayC_222, wrN, wAt, w01, wP, wPL, wP01, wL01, wRow, w01R, wAB, wNum, isP, isL, wrB_N, wrB_0, wrB_1]; done) | (simp only [c10, c22, if_true, if_false, ite_true, ite_false, and_true, true_and, and_false, false_and, and_self, or_true, true_or, or_false, false_or, or_self, not_true_eq_false, not_false_eq_true, decide_true, decide_false, Bool.and_true, Bool.true_and, Bool.and_false, Bool.false_and, Bool.and_self, Bool.or_true, Bool.true_or, Bool.or_false, Bool.false_or, Bool.not_true, Bool.not_false, cond_true, cond_false, bI_t, bI_f, Bool.false_eq_true, Bool.true_eq_false, dayC_1, dayC_21, dayC_221, dayC_222, wrN, wAt, w01, wP, wPL, wP01, wL01, wRow, w01R, wAB, wNum, isP, isL, wrB_N, wrB_0, wrB_1]; rfl))
  subst e35
  refine A_istore 37 dX10_at_35 rfl (by decide) (by first | exact (ast_s (ast_s (ast_s (ast_1 rfl)))) | exact (ast_s (ast_s (ast_s ast_k)))) ?_
  refine A_iload 39 dX10_at_37 rfl rfl ?_
  refine A_if_ge 49 42 dX10_at_39 (by decide) rfl (fun c39 => ?_) (fun c39 => ?_)
  · skip
    try simp only [bI_0, bI_n0, Classical.not_not, Bool.not_eq_false, Bool.true_and, Bool.and_true, decide_eq_true_eq, decide_eq_false_iff_not, dayC_1, dayC_21, dayC_221, dayC_222, inI_1, inI_2, inI_3, inI_5, inI_11, inI_16] at c39
    have n39 := c39
    replace c39 := Int32.not_lt.mpr c39
    have hw0 : wAt x p hr v = 0 := cz_pos wAt_cz c39
    obtain ⟨⟨f1, f2, f3⟩, f4⟩ := wAt_0 hw0
    obtain ⟨k_p, rfl, hk_p⟩ := inN_ex f1 (by omega)
    have cl_p : (nI k_p).toNatClampNeg = k_p := nI_clamp (by omega)
    have hk6_p : k_p < 6 := by omega
    obtain ⟨k_hr, rfl, hk_hr⟩ := nI_exi (n := 12) f2 f3 (by decide)
    have cl_hr : (nI k_hr).toNatClampNeg = k_hr := nI_clamp (by omega)
    refine A_aload_n 50 dX10_at_49 rfl rfl rfl ?_
    refine A_iload_n 51 dX10_at_50 rfl rfl rfl ?_
    refine A_callVI 54 (S_X10_doneBy_n X l (by first | assumption | decide | omega | exact Ne.symm (by assumption)) (by first | assumption | decide | omega | exact Ne.symm (by assumption)) (by first | assumption | decide | omega | exact Ne.symm (by assumption))) dX10_at_51 rfl kX10_doneBy lk_X10_115 rfl O28 (by decide) rfl (Nat.le_of_ble_eq_true rfl) (fun v_5 h_5 qh_5 => ?_)
    obtain ⟨rfl, n0h_5, eh_5⟩ := qh_5
    replace O28 := n0h_5
    replace hf : ∀ i, i ≠ 28 → h_5 i = h i := fun i g0 => (eh_5 i g0).trans (hf i g0)
    refine A_pop 55 dX10_at_54 rfl rfl ?_
    refine A_iload_n 56 dX10_at_55 rfl rfl rfl ?_
    refine A_if_ne 68 59 dX10_at_56 (by decide) rfl (fun c56 => ?_) (fun c56 => ?_)
    · skip
      try simp only [bI_0, bI_n0, Classical.not_not, Bool.not_eq_false, Bool.true_and, Bool.and_true, decide_eq_true_eq, decide_eq_false_iff_not, dayC_1, dayC_21, dayC_221, dayC_222, inI_1, inI_2, inI_3, inI_5, inI_11, inI_16] at c56
      refine A_aload_n 69 dX10_at_68 rfl rfl rfl ?_
      refine A_getfield 72 dX10_at_69 rfl f_X10_35 O28 rfl ?_
      refine A_iload_n 73 dX10_at_72 rfl rfl rfl ?_
      refine A_iaload 74 dX10_at_73 rfl O28 rfl (by first | assumption | exact ix_nI (by omega) (by decide) | exact ix_lit _ rfl (by omega) (by decide) | exact ix_lit _ rfl (by decide) (by decide)) ?_
      try dsimp only
      refine A_iret dX10_at_74 rfl ⟨_, rfl, (by rw [hw0, rV_0]; first | (simp only [c39, n39, cl_p, cl_hr, c56, if_true, if_false, ite_true, ite_false, and_true, true_and, and_false, false_and, and_self, or_true, true_or, or_false, false_or, or_self, not_true_eq_false, not_false_eq_true, decide_true, decide_false, Bool.and_true, Bool.true_and, Bool.and_false, Bool.false_and, Bool.and_self, Bool.or_true, Bool.true_or, Bool.or_false, Bool.false_or, Bool.not_true, Bool.not_false, cond_true, cond_false, bI_t, bI_f, Bool.false_eq_true, Bool.true_eq_false, dayC_1, dayC_21, dayC_221, dayC_222, aAt, pk]; done) | (simp [aAt, pk, *]; done)), _, (by rw [hw0, rS_0]; exact O28), hf⟩
    · skip
      try simp only [bI_0, bI_n0, Classical.not_not, Bool.not_eq_false, Bool.true_and, Bool.and_true, decide_eq_true_eq, decide_eq_false_iff_not, dayC_1, dayC_21, dayC_221, dayC_222, inI_1, inI_2, inI_3, inI_5, inI_11, inI_16] at c56
      refine A_aload_n 60 dX10_at_59 rfl rfl rfl ?_
      refine A_getfield 63 dX10_at_60 rfl f_X10_32 O28 rfl ?_
      refine A_iload_n 64 dX10_at_63 rfl rfl rfl ?_
      refine A_iaload 65 dX10_at_64 rfl O28 rfl (by first | assumption | exact ix_nI (by omega) (by decide) | exact ix_lit _ rfl (by omega) (by decide) | exact ix_lit _ rfl (by decide) (by decide)) ?_
      try dsimp only
      refine A_goto 74 dX10_at_65 (by decide) ?_
      refine A_iret dX10_at_74 rfl ⟨_, rfl, (by rw [hw0, rV_0]; first | (simp only [c39, n39, cl_p, cl_hr, c56, if_true, if_false, ite_true, ite_false, and_true, true_and, and_false, false_and, and_self, or_true, true_or, or_false, false_or, or_self, not_true_eq_false, not_false_eq_true, decide_true, decide_false, Bool.and_true, Bool.true_and, Bool.and_false, Bool.false_and, Bool.and_self, Bool.or_true, Bool.true_or, Bool.or_false, Bool.false_or, Bool.not_true, Bool.not_false, cond_true, cond_false, bI_t, bI_f, Bool.false_eq_true, Bool.true_eq_false, dayC_1, dayC_21, dayC_221, dayC_222, aAt, pk]; done) | (simp only [c39, n39, cl_p, cl_hr, eq_true c56, if_true, if_false, ite_true, ite_false, and_true, true_and, and_false, false_and, and_self, or_true, true_or, or_false, false_or, or_self, not_true_eq_false, not_false_eq_true, decide_true, decide_false, Bool.and_true, Bool.true_and, Bool.and_false, Bool.false_and, Bool.and_self, Bool.or_true, Bool.true_or, Bool.or_false, Bool.false_or, Bool.not_true, Bool.not_false, cond_true, cond_false, bI_t, bI_f, Bool.false_eq_true, Bool.true_eq_false, dayC_1, dayC_21, dayC_221, dayC_222, aAt, pk]; done) | (simp [aAt, pk, *]; done)), _, (by rw [hw0, rS_0]; exact O28), hf⟩
  · skip
    try simp only [bI_0, bI_n0, Classical.not_not, Bool.not_eq_false, Bool.true_and, Bool.and_true, decide_eq_true_eq, decide_eq_false_iff_not, dayC_1, dayC_21, dayC_221, dayC_222, inI_1, inI_2, inI_3, inI_5, inI_11, inI_16] at c39
    have n39 := c39
    replace c39 := Int32.not_le.mp c39
    have hcd : CD (wAt x p hr v) := cz_neg wAt_cz c39
    refine A_aload_n 43 dX10_at_42 rfl rfl rfl ?_
    refine A_iload 45 dX10_at_43 rfl rfl ?_
    refine A_callVI 48 (S_X10_refuse_c X l (by first | assumption | decide | omega | exact Ne.symm (by assumption)) (by first | assumption | (unfold CD; decide))) dX10_at_45 rfl kX10_refuse lk_X10_121 rfl O28 (by decide) rfl (Nat.le_of_ble_eq_true rfl) (fun v_6 h_6 qh_6 => ?_)
    obtain ⟨rfl, n0h_6, eh_6⟩ := qh_6
    replace O28 := n0h_6
    replace hf : ∀ i, i ≠ 28 → h_6 i = h i := fun i g0 => (eh_6 i g0).trans (hf i g0)
    refine A_iret dX10_at_48 rfl ⟨_, rfl, (by exact rV_n hcd.ne), _, O28, hf⟩
set_option maxHeartbeats 4000000 in
set_option maxRecDepth 100000 in
theorem S_X10_done (X : En) (l : Launch) {h : Hp} {x : PW} {c : RC} {z : RZ} (O28 : h 28 = some (rB x (-1) c z)) (hW : WOK x)  {p v : Int32} : Ct X l mX10_done [aR 28 0, aI p, aI v] h (QI (fun vr h2 => (rV (wDone x p v) (aDone x p v)) = vr ∧ ∃ (z1 : RZ), h2 (28) = some (rB x (-1) (rS (wDone x p v) c.1, c.2) z1) ∧ ∀ i, i ≠ 28 → h2 i = h i)) := by
  have hx := hW.1
  have hp := hW.2.1
  have h10 := hx.1
  have hf : ∀ i, i ≠ 28 → h i = h i := fun _ _ => rfl
  refine Ct.intro [some (aR 28 0), some (aI p), some (aI v), none, none, none] (by decide +kernel) rfl (Nat.le_of_ble_eq_true rfl) ?_
  refine A_aload_n 1 dX10_done_0 rfl rfl rfl ?_
  refine A_iconst 2 (0) dX10_done_1 rfl (by decide) ?_
  refine P_X10_9 5 dX10_done_2 rfl fw_X10_78 O28 (fun h_1 nh_1 eh_1 => ?_)
  replace O28 := nh_1
  replace hf : ∀ i, i ≠ 28 → h_1 i = h i := fun i g0 => (eh_1 i g0).trans (hf i g0)
  try dsimp only at O28
  refine A_joinI 23 (fun vj => vj = wDone x p v) (fun j23 => ?_) (fun v23 e23 => ?_)
  · skip
    refine A_aload_n 6 dX10_done_5 rfl rfl rfl ?_
    refine A_iload_n 7 dX10_done_6 rfl rfl rfl ?_
    refine A_callVI 10 (S_X10_isOne X l (by first | assumption | decide | omega | exact Ne.symm (by assumption)) (by first | assumption | decide | omega | exact Ne.symm (by assumption))) dX10_done_7 rfl kX10_isOne lk_X10_160 rfl O28 (by decide) rfl (Nat.le_of_ble_eq_true rfl) (fun v_2 h_2 qh_2 => ?_)
    obtain ⟨rfl, rfl⟩ := qh_2
    refine A_if_eq 22 13 dX10_done_10 (by decide) rfl (fun c10 => ?_) (fun c10 => ?_)
    · skip
      try simp only [bI_0, bI_n0, Classical.not_not, Bool.not_eq_false, Bool.true_and, Bool.and_true, decide_eq_true_eq, decide_eq_false_iff_not, dayC_1, dayC_21, dayC_221, dayC_222, inI_1, inI_2, inI_3, inI_5, inI_11, inI_16] at c10
      refine A_iconst 23 (-1) dX10_done_22 rfl (by decide) ?_
      exact j23 _ (by first | (simp only [c10, if_true, if_false, ite_true, ite_false, and_true, true_and, and_false, false_and, and_self, or_true, true_or, or_false, false_or, or_self, not_true_eq_false, not_false_eq_true, decide_true, decide_false, Bool.and_true, Bool.true_and, Bool.and_false, Bool.false_and, Bool.and_self, Bool.or_true, Bool.true_or, Bool.or_false, Bool.false_or, Bool.not_true, Bool.not_false, cond_true, cond_false, bI_t, bI_f, Bool.false_eq_true, Bool.true_eq_false, dayC_1, dayC_21, dayC_221, dayC_222, wDone, w01, wP, wPL, wP01, wL01, wRow, w01R, wAB, wNum, isP, isL, wrB_N, wrB_0, wrB_1]; done) | (simp only [c10, if_true, if_false, ite_true, ite_false, and_true, true_and, and_false, false_and, and_self, or_true, true_or, or_false, false_or, or_self, not_true_eq_false, not_false_eq_true, decide_true, decide_false, Bool.and_true, Bool.true_and, Bool.and_false, Bool.false_and, Bool.and_self, Bool.or_true, Bool.true_or, Bool.or_false, Bool.false_or, Bool.not_true, Bool.not_false, cond_true, cond_false, bI_t, bI_f, Bool.false_eq_true, Bool.true_eq_false, dayC_1, dayC_21, dayC_221, dayC_222, wrN, wDone, w01, wP, wPL, wP01, wL01, wRow, w01R, wAB, wNum, isP, isL, wrB_N, wrB_0, wrB_1]; done) | (simp only [c10, if_true, if_false, ite_true, ite_false, and_true, true_and, and_false, false_and, and_self, or_true, true_or, or_false, false_or, or_self, not_true_eq_false, not_false_eq_true, decide_true, decide_false, Bool.and_true, Bool.true_and, Bool.and_false, Bool.false_and, Bool.and_self, Bool.or_true, Bool.true_or, Bool.or_false, Bool.false_or, Bool.not_true, Bool.not_false, cond_true, cond_false, bI_t, bI_f, Bool.false_eq_true, Bool.true_eq_false, dayC_1, dayC_21, dayC_221, dayC_222, wrN, wDone, w01, wP, wPL, wP01, wL01, wRow, w01R, wAB, wNum, isP, isL, wrB_N, wrB_0, wrB_1]; rfl))
    · skip
      try simp only [bI_0, bI_n0, Classical.not_not, Bool.not_eq_false, Bool.true_and, Bool.and_true, decide_eq_true_eq, decide_eq_false_iff_not, dayC_1, dayC_21, dayC_221, dayC_222, inI_1, inI_2, inI_3, inI_5, inI_11, inI_16] at c10
      refine A_iconst 14 (0) dX10_done_13 rfl (by decide) ?_
      refine A_iload_n 15 dX10_done_14 rfl rfl rfl ?_
      refine A_iconst 16 (3) dX10_done_15 rfl (by decide) ?_
      refine A_callSI 19 (S_X10_wrongBit X l) dX10_done_16 rfl kX10_wrongBit lk_X10_225 rfl (by decide) rfl (Nat.le_of_ble_eq_true rfl) (fun v_3 h_3 qh_3 => ?_)
      obtain ⟨rfl, rfl⟩ := qh_3
      refine A_goto 23 dX10_done_19 (by decide) ?_
      exact j23 _ (by first | (simp only [c10, if_true, if_false, ite_true, ite_false, and_true, true_and, and_false, false_and, and_self, or_true, true_or, or_false, false_or, or_self, not_true_eq_false, not_false_eq_true, decide_true, decide_false, Bool.and_true, Bool.true_and, Bool.and_false, Bool.false_and, Bool.and_self, Bool.or_true, Bool.true_or, Bool.or_false, Bool.false_or, Bool.not_true, Bool.not_false, cond_true, cond_false, bI_t, bI_f, Bool.false_eq_true, Bool.true_eq_false, dayC_1, dayC_21, dayC_221, dayC_222, wDone, w01, wP, wPL, wP01, wL01, wRow, w01R, wAB, wNum, isP, isL, wrB_N, wrB_0, wrB_1]; done) | (simp only [c10, if_true, if_false, ite_true, ite_false, and_true, true_and, and_false, false_and, and_self, or_true, true_or, or_false, false_or, or_self, not_true_eq_false, not_false_eq_true, decide_true, decide_false, Bool.and_true, Bool.true_and, Bool.and_false, Bool.false_and, Bool.and_self, Bool.or_true, Bool.true_or, Bool.or_false, Bool.false_or, Bool.not_true, Bool.not_false, cond_true, cond_false, bI_t, bI_f, Bool.false_eq_true, Bool.true_eq_false, dayC_1, dayC_21, dayC_221, dayC_222, wrN, wDone, w01, wP, wPL, wP01, wL01, wRow, w01R, wAB, wNum, isP, isL, wrB_N, wrB_0, wrB_1]; done) | (simp only [c10, if_true, if_false, ite_true, ite_false, and_true, true_and, and_false, false_and, and_self, or_true, true_or, or_false, false_or, or_self, not_true_eq_false, not_false_eq_true, decide_true, decide_false, Bool.and_true, Bool.true_and, Bool.and_false, Bool.false_and, Bool.and_self, Bool.or_true, Bool.true_or, Bool.or_false, Bool.false_or, Bool.not_true, Bool.not_false, cond_true, cond_false, bI_t, bI_f, Bool.false_eq_true, Bool.true_eq_false, dayC_1, dayC_21, dayC_221, dayC_222, wrN, wDone, w01, wP, wPL, wP01, wL01, wRow, w01R, wAB, wNum, isP, isL, wrB_N, wrB_0, wrB_1]; rfl))
  subst e23
  refine A_istore_n 24 dX10_done_23 rfl rfl (by decide) (by first | exact (ast_s (ast_s (ast_1 rfl))) | exact (ast_s (ast_s ast_k))) ?_
  refine A_iload_n 25 dX10_done_24 rfl rfl rfl ?_
  refine A_if_ge 34 28 dX10_done_25 (by decide) rfl (fun c25 => ?_) (fun c25 => ?_)
  · skip
    try simp only [bI_0, bI_n0, Classical.not_not, Bool.not_eq_false, Bool.true_and, Bool.and_true, decide_eq_true_eq, decide_eq_false_iff_not, dayC_1, dayC_21, dayC_221, dayC_222, inI_1, inI_2, inI_3, inI_5, inI_11, inI_16] at c25
    have n25 := c25
    replace c25 := Int32.not_lt.mpr c25
    have hw0 : wDone x p v = 0 := cz_pos wDone_cz c25
    obtain ⟨f1, f2⟩ := wDone_0 hw0
    obtain ⟨k_p, rfl, hk_p⟩ := inN_ex f1 (by omega)
    have cl_p : (nI k_p).toNatClampNeg = k_p := nI_clamp (by omega)
    have hk6_p : k_p < 6 := by omega
    refine A_aload_n 35 dX10_done_34 rfl rfl rfl ?_
    refine A_iload_n 36 dX10_done_35 rfl rfl rfl ?_
    refine A_callVI 39 (S_X10_doneBy_n X l (by first | assumption | decide | omega | exact Ne.symm (by assumption)) (by first | assumption | decide | omega | exact Ne.symm (by assumption)) (by first | assumption | decide | omega | exact Ne.symm (by assumption))) dX10_done_36 rfl kX10_doneBy lk_X10_115 rfl O28 (by decide) rfl (Nat.le_of_ble_eq_true rfl) (fun v_4 h_4 qh_4 => ?_)
    obtain ⟨rfl, n0h_4, eh_4⟩ := qh_4
    replace O28 := n0h_4
    replace hf : ∀ i, i ≠ 28 → h_4 i = h i := fun i g0 => (eh_4 i g0).trans (hf i g0)
    refine A_istore 41 dX10_done_39 rfl (by decide) (by first | exact (ast_s (ast_s (ast_s (ast_1 rfl)))) | exact (ast_s (ast_s (ast_s ast_k)))) ?_
    refine A_aload_n 42 dX10_done_41 rfl rfl rfl ?_
    refine A_getfield 45 dX10_done_42 rfl f_X10_22 O28 rfl ?_
    refine A_iload_n 46 dX10_done_45 rfl rfl rfl ?_
    refine A_iaload 47 dX10_done_46 rfl O28 rfl (by first | assumption | exact ix_nI (by omega) (by decide) | exact ix_lit _ rfl (by omega) (by decide) | exact ix_lit _ rfl (by decide) (by decide)) ?_
    try dsimp only
    refine A_istore 49 dX10_done_47 rfl (by decide) (by first | exact (ast_s (ast_s (ast_s (ast_s (ast_1 rfl))))) | exact (ast_s (ast_s (ast_s (ast_s ast_k))))) ?_
    refine A_iload_n 50 dX10_done_49 rfl rfl rfl ?_
    refine A_if_ne 58 53 dX10_done_50 (by decide) rfl (fun c50 => ?_) (fun c50 => ?_)
    · skip
      try simp only [bI_0, bI_n0, Classical.not_not, Bool.not_eq_false, Bool.true_and, Bool.and_true, decide_eq_true_eq, decide_eq_false_iff_not, dayC_1, dayC_21, dayC_221, dayC_222, inI_1, inI_2, inI_3, inI_5, inI_11, inI_16] at c50
      refine A_iload_n 59 dX10_done_58 rfl rfl rfl ?_
      refine A_iconst 60 (1) dX10_done_59 rfl (by decide) ?_
      refine A_icmp_ne 71 63 dX10_done_60 (by decide) rfl (fun c60 => ?_) (fun c60 => ?_)
      · skip
        try simp only [bI_0, bI_n0, Classical.not_not, Bool.not_eq_false, Bool.true_and, Bool.and_true, decide_eq_true_eq, decide_eq_false_iff_not, dayC_1, dayC_21, dayC_221, dayC_222, inI_1, inI_2, inI_3, inI_5, inI_11, inI_16] at c60
        refine A_iload_n 72 dX10_done_71 rfl rfl rfl ?_
        refine A_iconst 73 (2) dX10_done_72 rfl (by decide) ?_
        refine A_icmp_ne 91 76 dX10_done_73 (by decide) rfl (fun c73 => ?_) (fun c73 => ?_)
        · skip
          try simp only [bI_0, bI_n0, Classical.not_not, Bool.not_eq_false, Bool.true_and, Bool.and_true, decide_eq_true_eq, decide_eq_false_iff_not, dayC_1, dayC_21, dayC_221, dayC_222, inI_1, inI_2, inI_3, inI_5, inI_11, inI_16] at c73
          refine A_aload_n 92 dX10_done_91 rfl rfl rfl ?_
          refine A_getfield 95 dX10_done_92 rfl f_X10_35 O28 rfl ?_
          refine A_bipush 97 (11) dX10_done_95 rfl (by decide) ?_
          refine A_iaload 98 dX10_done_97 rfl O28 rfl (by first | assumption | exact ix_nI (by omega) (by decide) | exact ix_lit _ rfl (by omega) (by decide) | exact ix_lit _ rfl (by decide) (by decide)) ?_
          try dsimp only
          rw [dHas_11]
          refine A_iload 100 dX10_done_98 rfl rfl ?_
          refine A_iconst 101 (-1) dX10_done_100 rfl (by decide) ?_
          refine A_ixor 102 dX10_done_101 rfl ?_
          refine A_iand 103 dX10_done_102 rfl ?_
          refine A_iret dX10_done_103 rfl ⟨_, rfl, (by rw [hw0, rV_0]; first | (simp only [c25, n25, cl_p, c50, c60, c73, if_true, if_false, ite_true, ite_false, and_true, true_and, and_false, false_and, and_self, or_true, true_or, or_false, false_or, or_self, not_true_eq_false, not_false_eq_true, decide_true, decide_false, Bool.and_true, Bool.true_and, Bool.and_false, Bool.false_and, Bool.and_self, Bool.or_true, Bool.true_or, Bool.or_false, Bool.false_or, Bool.not_true, Bool.not_false, cond_true, cond_false, bI_t, bI_f, Bool.false_eq_true, Bool.true_eq_false, dayC_1, dayC_21, dayC_221, dayC_222, aDone, pk]; done) | (simp [aDone, pk, *]; done)), _, (by rw [hw0, rS_0]; exact O28), hf⟩
        · skip
          try simp only [bI_0, bI_n0, Classical.not_not, Bool.not_eq_false, Bool.true_and, Bool.and_true, decide_eq_true_eq, decide_eq_false_iff_not, dayC_1, dayC_21, dayC_221, dayC_222, inI_1, inI_2, inI_3, inI_5, inI_11, inI_16] at c73
          refine A_iload 78 dX10_done_76 rfl rfl ?_
          refine A_aload_n 79 dX10_done_78 rfl rfl rfl ?_
          refine A_getfield 82 dX10_done_79 rfl f_X10_35 O28 rfl ?_
          refine A_bipush 84 (11) dX10_done_82 rfl (by decide) ?_
          refine A_iaload 85 dX10_done_84 rfl O28 rfl (by first | assumption | exact ix_nI (by omega) (by decide) | exact ix_lit _ rfl (by omega) (by decide) | exact ix_lit _ rfl (by decide) (by decide)) ?_
          try dsimp only
          rw [dHas_11]
          refine A_iconst 86 (-1) dX10_done_85 rfl (by decide) ?_
          refine A_ixor 87 dX10_done_86 rfl ?_
          refine A_iand 88 dX10_done_87 rfl ?_
          refine A_goto 103 dX10_done_88 (by decide) ?_
          refine A_iret dX10_done_103 rfl ⟨_, rfl, (by rw [hw0, rV_0]; first | (simp only [c25, n25, cl_p, c50, c60, c73, if_true, if_false, ite_true, ite_false, and_true, true_and, and_false, false_and, and_self, or_true, true_or, or_false, false_or, or_self, not_true_eq_false, not_false_eq_true, decide_true, decide_false, Bool.and_true, Bool.true_and, Bool.and_false, Bool.false_and, Bool.and_self, Bool.or_true, Bool.true_or, Bool.or_false, Bool.false_or, Bool.not_true, Bool.not_false, cond_true, cond_false, bI_t, bI_f, Bool.false_eq_true, Bool.true_eq_false, dayC_1, dayC_21, dayC_221, dayC_222, aDone, pk]; done) | (simp only [c25, n25, cl_p, c50, c60, eq_true c73, if_true, if_false, ite_true, ite_false, and_true, true_and, and_false, false_and, and_self, or_true, true_or, or_false, false_or, or_self, not_true_eq_false, not_false_eq_true, decide_true, decide_false, Bool.and_true, Bool.true_and, Bool.and_false, Bool.false_and, Bool.and_self, Bool.or_true, Bool.true_or, Bool.or_false, Bool.false_or, Bool.not_true, Bool.not_false, cond_true, cond_false, bI_t, bI_f, Bool.false_eq_true, Bool.true_eq_false, dayC_1, dayC_21, dayC_221, dayC_222, aDone, pk]; done) | (simp [aDone, pk, *]; done)), _, (by rw [hw0, rS_0]; exact O28), hf⟩
      · skip
        try simp only [bI_0, bI_n0, Classical.not_not, Bool.not_eq_false, Bool.true_and, Bool.and_true, decide_eq_true_eq, decide_eq_false_iff_not, dayC_1, dayC_21, dayC_221, dayC_222, inI_1, inI_2, inI_3, inI_5, inI_11, inI_16] at c60
        refine A_iload 65 dX10_done_63 rfl rfl ?_
        refine A_callSI 68 (S_X10_onesOf_r X l (by first | assumption | exact R10.nI (by omega) | exact dDone_R (by assumption) _ _ | exact R8.r10 (by assumption))) dX10_done_65 rfl kX10_onesOf lk_X10_112 rfl (by decide) rfl (Nat.le_of_ble_eq_true rfl) (fun v_5 h_5 qh_5 => ?_)
        obtain ⟨rfl, rfl⟩ := qh_5
        refine A_goto 103 dX10_done_68 (by decide) ?_
        refine A_iret dX10_done_103 rfl ⟨_, rfl, (by rw [hw0, rV_0]; first | (simp only [c25, n25, cl_p, c50, c60, if_true, if_false, ite_true, ite_false, and_true, true_and, and_false, false_and, and_self, or_true, true_or, or_false, false_or, or_self, not_true_eq_false, not_false_eq_true, decide_true, decide_false, Bool.and_true, Bool.true_and, Bool.and_false, Bool.false_and, Bool.and_self, Bool.or_true, Bool.true_or, Bool.or_false, Bool.false_or, Bool.not_true, Bool.not_false, cond_true, cond_false, bI_t, bI_f, Bool.false_eq_true, Bool.true_eq_false, dayC_1, dayC_21, dayC_221, dayC_222, aDone, pk]; done) | (simp only [c25, n25, cl_p, c50, eq_true c60, if_true, if_false, ite_true, ite_false, and_true, true_and, and_false, false_and, and_self, or_true, true_or, or_false, false_or, or_self, not_true_eq_false, not_false_eq_true, decide_true, decide_false, Bool.and_true, Bool.true_and, Bool.and_false, Bool.false_and, Bool.and_self, Bool.or_true, Bool.true_or, Bool.or_false, Bool.false_or, Bool.not_true, Bool.not_false, cond_true, cond_false, bI_t, bI_f, Bool.false_eq_true, Bool.true_eq_false, dayC_1, dayC_21, dayC_221, dayC_222, aDone, pk]; done) | (simp [aDone, pk, *]; done)), _, (by rw [hw0, rS_0]; exact O28), hf⟩
    · skip
      try simp only [bI_0, bI_n0, Classical.not_not, Bool.not_eq_false, Bool.true_and, Bool.and_true, decide_eq_true_eq, decide_eq_false_iff_not, dayC_1, dayC_21, dayC_221, dayC_222, inI_1, inI_2, inI_3, inI_5, inI_11, inI_16] at c50
      refine A_iload 55 dX10_done_53 rfl rfl ?_
      refine A_goto 103 dX10_done_55 (by decide) ?_
      refine A_iret dX10_done_103 rfl ⟨_, rfl, (by rw [hw0, rV_0]; first | (simp only [c25, n25, cl_p, c50, if_true, if_false, ite_true, ite_false, and_true, true_and, and_false, false_and, and_self, or_true, true_or, or_false, false_or, or_self, not_true_eq_false, not_false_eq_true, decide_true, decide_false, Bool.and_true, Bool.true_and, Bool.and_false, Bool.false_and, Bool.and_self, Bool.or_true, Bool.true_or, Bool.or_false, Bool.false_or, Bool.not_true, Bool.not_false, cond_true, cond_false, bI_t, bI_f, Bool.false_eq_true, Bool.true_eq_false, dayC_1, dayC_21, dayC_221, dayC_222, aDone, pk]; done) | (simp only [c25, n25, cl_p, eq_true c50, if_true, if_false, ite_true, ite_false, and_true, true_and, and_false, false_and, and_self, or_true, true_or, or_false, false_or, or_self, not_true_eq_false, not_false_eq_true, decide_true, decide_false, Bool.and_true, Bool.true_and, Bool.and_false, Bool.false_and, Bool.and_self, Bool.or_true, Bool.true_or, Bool.or_false, Bool.false_or, Bool.not_true, Bool.not_false, cond_true, cond_false, bI_t, bI_f, Bool.false_eq_true, Bool.true_eq_false, dayC_1, dayC_21, dayC_221, dayC_222, aDone, pk]; done) | (simp [aDone, pk, *]; done)), _, (by rw [hw0, rS_0]; exact O28), hf⟩
  · skip
    try simp only [bI_0, bI_n0, Classical.not_not, Bool.not_eq_false, Bool.true_and, Bool.and_true, decide_eq_true_eq, decide_eq_false_iff_not, dayC_1, dayC_21, dayC_221, dayC_222, inI_1, inI_2, inI_3, inI_5, inI_11, inI_16] at c25
    have n25 := c25
    replace c25 := Int32.not_le.mp c25
    have hcd : CD (wDone x p v) := cz_neg wDone_cz c25
    refine A_aload_n 29 dX10_done_28 rfl rfl rfl ?_
    refine A_iload_n 30 dX10_done_29 rfl rfl rfl ?_
    refine A_callVI 33 (S_X10_refuse_c X l (by first | assumption | decide | omega | exact Ne.symm (by assumption)) (by first | assumption | (unfold CD; decide))) dX10_done_30 rfl kX10_refuse lk_X10_121 rfl O28 (by decide) rfl (Nat.le_of_ble_eq_true rfl) (fun v_6 h_6 qh_6 => ?_)
    obtain ⟨rfl, n0h_6, eh_6⟩ := qh_6
    replace O28 := n0h_6
    replace hf : ∀ i, i ≠ 28 → h_6 i = h i := fun i g0 => (eh_6 i g0).trans (hf i g0)
    refine A_iret dX10_done_33 rfl ⟨_, rfl, (by exact rV_n hcd.ne), _, O28, hf⟩
set_option maxHeartbeats 4000000 in
set_option maxRecDepth 100000 in
theorem S_X10_when (X : En) (l : Launch) {h : Hp} {x : PW} {c : RC} {z : RZ} (O28 : h 28 = some (rB x (-1) c z)) (hW : WOK x)  {p l0 : Int32} : Ct X l mX10_when [aR 28 0, aI p, aI l0] h (QI (fun vr h2 => (rV (wPL x p l0) (aWhen x p l0)) = vr ∧ ∃ (z1 : RZ), h2 (28) = some (rB x (-1) (rS (wPL x p l0) c.1, c.2) z1) ∧ ∀ i, i ≠ 28 → h2 i = h i)) := by
  have hx := hW.1
  have hp := hW.2.1
  have h10 := hx.1
  have hf : ∀ i, i ≠ 28 → h i = h i := fun _ _ => rfl
  refine Ct.intro [some (aR 28 0), some (aI p), some (aI l0), none, none] (by decide +kernel) rfl (Nat.le_of_ble_eq_true rfl) ?_
  refine A_aload_n 1 dX10_when_0 rfl rfl rfl ?_
  refine A_iconst 2 (0) dX10_when_1 rfl (by decide) ?_
  refine P_X10_9 5 dX10_when_2 rfl fw_X10_78 O28 (fun h_1 nh_1 eh_1 => ?_)
  replace O28 := nh_1
  replace hf : ∀ i, i ≠ 28 → h_1 i = h i := fun i g0 => (eh_1 i g0).trans (hf i g0)
  try dsimp only at O28
  refine A_aload_n 6 dX10_when_5 rfl rfl rfl ?_
  refine A_iload_n 7 dX10_when_6 rfl rfl rfl ?_
  refine A_callVI 10 (S_X10_isOne X l (by first | assumption | decide | omega | exact Ne.symm (by assumption)) (by first | assumption | decide | omega | exact Ne.symm (by assumption))) dX10_when_7 rfl kX10_isOne lk_X10_160 rfl O28 (by decide) rfl (Nat.le_of_ble_eq_true rfl) (fun v_2 h_2 qh_2 => ?_)
  obtain ⟨rfl, rfl⟩ := qh_2
  refine A_if_eq 21 13 dX10_when_10 (by decide) rfl (fun c10 => ?_) (fun c10 => ?_)
  · skip
    try simp only [bI_0, bI_n0, Classical.not_not, Bool.not_eq_false, Bool.true_and, Bool.and_true, decide_eq_true_eq, decide_eq_false_iff_not, dayC_1, dayC_21, dayC_221, dayC_222, inI_1, inI_2, inI_3, inI_5, inI_11, inI_16] at c10
    refine A_aload_n 22 dX10_when_21 rfl rfl rfl ?_
    refine A_iconst 23 (-1) dX10_when_22 rfl (by decide) ?_
    refine A_callVI 26 (S_X10_refuse_c X l (by first | assumption | decide | omega | exact Ne.symm (by assumption)) (by first | assumption | (unfold CD; decide))) dX10_when_23 rfl kX10_refuse lk_X10_121 rfl O28 (by decide) rfl (Nat.le_of_ble_eq_true rfl) (fun v_3 h_3 qh_3 => ?_)
    obtain ⟨rfl, n0h_3, eh_3⟩ := qh_3
    replace O28 := n0h_3
    replace hf : ∀ i, i ≠ 28 → h_3 i = h i := fun i g0 => (eh_3 i g0).trans (hf i g0)
    have ew : wPL x p l0 = -1 := by
      first | (simp only [c10, if_true, if_false, ite_true, ite_false, and_true, true_and, and_false, false_and, and_self, or_true, true_or, or_false, false_or, or_self, not_true_eq_false, not_false_eq_true, decide_true, decide_false, Bool.and_true, Bool.true_and, Bool.and_false, Bool.false_and, Bool.and_self, Bool.or_true, Bool.true_or, Bool.or_false, Bool.false_or, Bool.not_true, Bool.not_false, cond_true, cond_false, bI_t, bI_f, Bool.false_eq_true, Bool.true_eq_false, dayC_1, dayC_21, dayC_221, dayC_222, w01, wP, wPL, wP01, wL01, wRow, w01R, wAB, wNum, isP, isL]; done)
    refine A_iret dX10_when_26 rfl ⟨_, rfl, (by rw [ew]; exact rV_n (by decide)), _, (by rw [ew]; first | (rw [rS_0]; exact O28) | exact O28), hf⟩
  · skip
    try simp only [bI_0, bI_n0, Classical.not_not, Bool.not_eq_false, Bool.true_and, Bool.and_true, decide_eq_true_eq, decide_eq_false_iff_not, dayC_1, dayC_21, dayC_221, dayC_222, inI_1, inI_2, inI_3, inI_5, inI_11, inI_16] at c10
    obtain ⟨k_p, rfl, hk_p⟩ := inN_ex c10 (by omega)
    have cl_p : (nI k_p).toNatClampNeg = k_p := nI_clamp (by omega)
    refine A_aload_n 14 dX10_when_13 rfl rfl rfl ?_
    refine A_iload_n 15 dX10_when_14 rfl rfl rfl ?_
    refine A_callVI 18 (S_X10_isLaw X l (by first | assumption | decide | omega | exact Ne.symm (by assumption)) (by first | assumption | decide | omega | exact Ne.symm (by assumption))) dX10_when_15 rfl kX10_isLaw lk_X10_206 rfl O28 (by decide) rfl (Nat.le_of_ble_eq_true rfl) (fun v_4 h_4 qh_4 => ?_)
    obtain ⟨rfl, rfl⟩ := qh_4
    refine A_if_ne 27 21 dX10_when_18 (by decide) rfl (fun c18 => ?_) (fun c18 => ?_)
    · skip
      try simp only [bI_0, bI_n0, Classical.not_not, Bool.not_eq_false, Bool.true_and, Bool.and_true, decide_eq_true_eq, decide_eq_false_iff_not, dayC_1, dayC_21, dayC_221, dayC_222, inI_1, inI_2, inI_3, inI_5, inI_11, inI_16] at c18
      obtain ⟨k_l0, rfl, hk_l0⟩ := inN_ex c18 (by omega)
      have cl_l0 : (nI k_l0).toNatClampNeg = k_l0 := nI_clamp (by omega)
      refine A_aload_n 28 dX10_when_27 rfl rfl rfl ?_
      refine A_iload_n 29 dX10_when_28 rfl rfl rfl ?_
      refine A_callVI 32 (S_X10_doneBy_n X l (by first | assumption | decide | omega | exact Ne.symm (by assumption)) (by first | assumption | decide | omega | exact Ne.symm (by assumption)) (by first | assumption | decide | omega | exact Ne.symm (by assumption))) dX10_when_29 rfl kX10_doneBy lk_X10_115 rfl O28 (by decide) rfl (Nat.le_of_ble_eq_true rfl) (fun v_5 h_5 qh_5 => ?_)
      obtain ⟨rfl, n0h_5, eh_5⟩ := qh_5
      replace O28 := n0h_5
      replace hf : ∀ i, i ≠ 28 → h_5 i = h i := fun i g0 => (eh_5 i g0).trans (hf i g0)
      refine A_pop 33 dX10_when_32 rfl rfl ?_
      refine A_bipush 35 (-9) dX10_when_33 rfl (by decide) ?_
      refine A_istore_n 36 dX10_when_35 rfl rfl (by decide) (by first | exact (ast_s (ast_s (ast_1 rfl))) | exact (ast_s (ast_s ast_k))) ?_
      refine A_bipush 38 (11) dX10_when_36 rfl (by decide) ?_
      refine A_istore 40 dX10_when_38 rfl (by decide) (by first | exact (ast_s (ast_s (ast_s (ast_1 rfl)))) | exact (ast_s (ast_s (ast_s ast_k)))) ?_
      have L40 : ∀ (i : Nat) (u : Int32) , (i ≤ 12) → (downF (whF (dLaw x 0 (x.2.1 k_p)) (nI k_l0)) i (u) = downF (whF (dLaw x 0 (x.2.1 k_p)) (nI k_l0)) (12) (-9)) → Av X l mX10_when 40 [some (aR 28 0), some (aI (nI (k_p))), some (aI (nI (k_l0))), some (aI (u)), some (aI (nI (i) - 1))] [] h_5 (QI (fun vr h2 => (rV (wPL x (nI k_p) (nI k_l0)) (aWhen x (nI k_p) (nI k_l0))) = vr ∧ ∃ (z1 : RZ), h2 (28) = some (rB x (-1) (rS (wPL x (nI k_p) (nI k_l0)) c.1, c.2) z1) ∧ ∀ i, i ≠ 28 → h2 i = h i)) := by
        intro i
        induction i using Nat.strongRecOn with
        | _ i ih =>
        intro u en ee
        refine A_iload 42 dX10_when_40 rfl rfl ?_
        refine A_if_lt 69 45 dX10_when_42 (by decide) rfl (fun c42 => ?_) (fun c42 => ?_)
        · skip
          obtain rfl := dn_T c42 (by omega)
          refine A_iload_n 70 dX10_when_69 rfl rfl rfl ?_
          have ew : wPL x (nI k_p) (nI k_l0) = 0 := by
            first | (simp only [c10, cl_p, c18, cl_l0, if_true, if_false, ite_true, ite_false, and_true, true_and, and_false, false_and, and_self, or_true, true_or, or_false, false_or, or_self, not_true_eq_false, not_false_eq_true, decide_true, decide_false, Bool.and_true, Bool.true_and, Bool.and_false, Bool.false_and, Bool.and_self, Bool.or_true, Bool.true_or, Bool.or_false, Bool.false_or, Bool.not_true, Bool.not_false, cond_true, cond_false, bI_t, bI_f, Bool.false_eq_true, Bool.true_eq_false, dayC_1, dayC_21, dayC_221, dayC_222, w01, wP, wPL, wP01, wL01, wRow, w01R, wAB, wNum, isP, isL]; done)
          refine A_iret dX10_when_70 rfl ⟨_, rfl, (by rw [ew, rV_0]; unfold aWhen pk; rw [cl_p, ← hour_dn]; exact ee.symm), _, (by rw [ew]; first | (rw [rS_0]; exact O28) | exact O28), hf⟩
        · skip
          obtain ⟨i0, rfl⟩ := dn_F c42
          have hi : i0 < 12 := by omega
          rw [dn_s]
          refine A_aload_n 46 dX10_when_45 rfl rfl rfl ?_
          refine A_getfield 49 dX10_when_46 rfl f_X10_32 O28 rfl ?_
          refine A_iload 51 dX10_when_49 rfl rfl ?_
          refine A_iaload 52 dX10_when_51 rfl O28 rfl (by first | assumption | exact ix_nI (by omega) (by decide) | exact ix_lit _ rfl (by omega) (by decide) | exact ix_lit _ rfl (by decide) (by decide)) ?_
          try dsimp only
          refine A_iload_n 53 dX10_when_52 rfl rfl rfl ?_
          refine A_icmp_ne 61 56 dX10_when_53 (by decide) rfl (fun c53 => ?_) (fun c53 => ?_)
          · skip
            try simp only [bI_0, bI_n0, Classical.not_not, Bool.not_eq_false, Bool.true_and, Bool.and_true, decide_eq_true_eq, decide_eq_false_iff_not, dayC_1, dayC_21, dayC_221, dayC_222, inI_1, inI_2, inI_3, inI_5, inI_11, inI_16] at c53
            refine A_iload_n 62 dX10_when_61 rfl rfl rfl ?_
            refine A_istore_n 63 dX10_when_62 rfl rfl (by decide) (by first | exact (ast_s (ast_s (ast_1 rfl))) | exact (ast_s (ast_s ast_k))) ?_
            first | refine A_idecN 66 dX10_when_63 rfl rfl (by decide) (by first | exact (ast_s (ast_s (ast_s (ast_1 rfl)))) | exact (ast_s (ast_s (ast_s ast_k)))) ?_ | refine A_iinc 66 (-1) dX10_when_63 rfl rfl (by decide) (by decide) (by first | exact (ast_s (ast_s (ast_s (ast_1 rfl)))) | exact (ast_s (ast_s (ast_s ast_k)))) ?_
            refine A_goto 40 dX10_when_66 (by decide) ?_
            exact ih i0 (Nat.lt_succ_self i0) _  (by omega) (((congrArg (downF (whF (dLaw x 0 (x.2.1 k_p)) (nI k_l0)) i0) (by first | with_reducible rfl | (simp only [c10, cl_p, c18, cl_l0, c53, if_true, if_false, ite_true, ite_false, and_true, true_and, and_false, false_and, and_self, or_true, true_or, or_false, false_or, or_self, not_true_eq_false, not_false_eq_true, decide_true, decide_false, Bool.and_true, Bool.true_and, Bool.and_false, Bool.false_and, Bool.and_self, Bool.or_true, Bool.true_or, Bool.or_false, Bool.false_or, Bool.not_true, Bool.not_false, cond_true, cond_false, bI_t, bI_f, Bool.false_eq_true, Bool.true_eq_false, dayC_1, dayC_21, dayC_221, dayC_222, whF]; done) | (simp [*, whF]; done) | with_reducible_and_instances rfl)).trans (downF_s _ _ _).symm).trans ee) 
          · skip
            try simp only [bI_0, bI_n0, Classical.not_not, Bool.not_eq_false, Bool.true_and, Bool.and_true, decide_eq_true_eq, decide_eq_false_iff_not, dayC_1, dayC_21, dayC_221, dayC_222, inI_1, inI_2, inI_3, inI_5, inI_11, inI_16] at c53
            refine A_iload 58 dX10_when_56 rfl rfl ?_
            refine A_goto 62 dX10_when_58 (by decide) ?_
            refine A_istore_n 63 dX10_when_62 rfl rfl (by decide) (by first | exact (ast_s (ast_s (ast_1 rfl))) | exact (ast_s (ast_s ast_k))) ?_
            first | refine A_idecN 66 dX10_when_63 rfl rfl (by decide) (by first | exact (ast_s (ast_s (ast_s (ast_1 rfl)))) | exact (ast_s (ast_s (ast_s ast_k)))) ?_ | refine A_iinc 66 (-1) dX10_when_63 rfl rfl (by decide) (by decide) (by first | exact (ast_s (ast_s (ast_s (ast_1 rfl)))) | exact (ast_s (ast_s (ast_s ast_k)))) ?_
            refine A_goto 40 dX10_when_66 (by decide) ?_
            exact ih i0 (Nat.lt_succ_self i0) _  (by omega) (((congrArg (downF (whF (dLaw x 0 (x.2.1 k_p)) (nI k_l0)) i0) (by first | with_reducible rfl | (simp only [c10, cl_p, c18, cl_l0, c53, if_true, if_false, ite_true, ite_false, and_true, true_and, and_false, false_and, and_self, or_true, true_or, or_false, false_or, or_self, not_true_eq_false, not_false_eq_true, decide_true, decide_false, Bool.and_true, Bool.true_and, Bool.and_false, Bool.false_and, Bool.and_self, Bool.or_true, Bool.true_or, Bool.or_false, Bool.false_or, Bool.not_true, Bool.not_false, cond_true, cond_false, bI_t, bI_f, Bool.false_eq_true, Bool.true_eq_false, dayC_1, dayC_21, dayC_221, dayC_222, whF]; done) | (simp only [c10, cl_p, c18, cl_l0, eq_true c53, if_true, if_false, ite_true, ite_false, and_true, true_and, and_false, false_and, and_self, or_true, true_or, or_false, false_or, or_self, not_true_eq_false, not_false_eq_true, decide_true, decide_false, Bool.and_true, Bool.true_and, Bool.and_false, Bool.false_and, Bool.and_self, Bool.or_true, Bool.true_or, Bool.or_false, Bool.false_or, Bool.not_true, Bool.not_false, cond_true, cond_false, bI_t, bI_f, Bool.false_eq_true, Bool.true_eq_false, dayC_1, dayC_21, dayC_221, dayC_222, whF]; done) | (simp [*, whF]; done) | with_reducible_and_instances rfl)).trans (downF_s _ _ _).symm).trans ee) 
      rw [show (11 : Int32) = nI 12 - 1 from rfl]
      exact L40 (12) (_)  (by omega) (rfl) 
    · skip
      try simp only [bI_0, bI_n0, Classical.not_not, Bool.not_eq_false, Bool.true_and, Bool.and_true, decide_eq_true_eq, decide_eq_false_iff_not, dayC_1, dayC_21, dayC_221, dayC_222, inI_1, inI_2, inI_3, inI_5, inI_11, inI_16] at c18
      refine A_aload_n 22 dX10_when_21 rfl rfl rfl ?_
      refine A_iconst 23 (-1) dX10_when_22 rfl (by decide) ?_
      refine A_callVI 26 (S_X10_refuse_c X l (by first | assumption | decide | omega | exact Ne.symm (by assumption)) (by first | assumption | (unfold CD; decide))) dX10_when_23 rfl kX10_refuse lk_X10_121 rfl O28 (by decide) rfl (Nat.le_of_ble_eq_true rfl) (fun v_6 h_6 qh_6 => ?_)
      obtain ⟨rfl, n0h_6, eh_6⟩ := qh_6
      replace O28 := n0h_6
      replace hf : ∀ i, i ≠ 28 → h_6 i = h i := fun i g0 => (eh_6 i g0).trans (hf i g0)
      have ew : wPL x (nI k_p) l0 = -1 := by
        first | (simp only [c10, cl_p, c18, if_true, if_false, ite_true, ite_false, and_true, true_and, and_false, false_and, and_self, or_true, true_or, or_false, false_or, or_self, not_true_eq_false, not_false_eq_true, decide_true, decide_false, Bool.and_true, Bool.true_and, Bool.and_false, Bool.false_and, Bool.and_self, Bool.or_true, Bool.true_or, Bool.or_false, Bool.false_or, Bool.not_true, Bool.not_false, cond_true, cond_false, bI_t, bI_f, Bool.false_eq_true, Bool.true_eq_false, dayC_1, dayC_21, dayC_221, dayC_222, w01, wP, wPL, wP01, wL01, wRow, w01R, wAB, wNum, isP, isL]; done)
      refine A_iret dX10_when_26 rfl ⟨_, rfl, (by rw [ew]; exact rV_n (by decide)), _, (by rw [ew]; first | (rw [rS_0]; exact O28) | exact O28), hf⟩
set_option maxHeartbeats 4000000 in
set_option maxRecDepth 100000 in
theorem S_X10_instead (X : En) (l : Launch) {h : Hp} {x : PW} {c : RC} {z : RZ} (O28 : h 28 = some (rB x (-1) c z)) (hW : WOK x)  {p s0 v : Int32} : Ct X l mX10_instead [aR 28 0, aI p, aI s0, aI v] h (QI (fun vr h2 => (rV (wInst x p s0 v) (aInst x p s0 v)) = vr ∧ ∃ (z1 : RZ), h2 (28) = some (rB x (-1) (rS (wInst x p s0 v) c.1, c.2) z1) ∧ ∀ i, i ≠ 28 → h2 i = h i)) := by
  have hx := hW.1
  have hp := hW.2.1
  have h10 := hx.1
  have hf : ∀ i, i ≠ 28 → h i = h i := fun _ _ => rfl
  refine Ct.intro [some (aR 28 0), some (aI p), some (aI s0), some (aI v), none, none, none] (by decide +kernel) rfl (Nat.le_of_ble_eq_true rfl) ?_
  refine A_aload_n 1 dX10_instead_0 rfl rfl rfl ?_
  refine A_iconst 2 (0) dX10_instead_1 rfl (by decide) ?_
  refine P_X10_9 5 dX10_instead_2 rfl fw_X10_78 O28 (fun h_1 nh_1 eh_1 => ?_)
  replace O28 := nh_1
  replace hf : ∀ i, i ≠ 28 → h_1 i = h i := fun i g0 => (eh_1 i g0).trans (hf i g0)
  try dsimp only at O28
  refine A_joinI 30 (fun vj => vj = wInst x p s0 v) (fun j30 => ?_) (fun v30 e30 => ?_)
  · skip
    refine A_aload_n 6 dX10_instead_5 rfl rfl rfl ?_
    refine A_iload_n 7 dX10_instead_6 rfl rfl rfl ?_
    refine A_callVI 10 (S_X10_isOne X l (by first | assumption | decide | omega | exact Ne.symm (by assumption)) (by first | assumption | decide | omega | exact Ne.symm (by assumption))) dX10_instead_7 rfl kX10_isOne lk_X10_160 rfl O28 (by decide) rfl (Nat.le_of_ble_eq_true rfl) (fun v_2 h_2 qh_2 => ?_)
    obtain ⟨rfl, rfl⟩ := qh_2
    refine A_if_eq 24 13 dX10_instead_10 (by decide) rfl (fun c10 => ?_) (fun c10 => ?_)
    · skip
      try simp only [bI_0, bI_n0, Classical.not_not, Bool.not_eq_false, Bool.true_and, Bool.and_true, decide_eq_true_eq, decide_eq_false_iff_not, dayC_1, dayC_21, dayC_221, dayC_222, inI_1, inI_2, inI_3, inI_5, inI_11, inI_16] at c10
      refine A_iconst 25 (-1) dX10_instead_24 rfl (by decide) ?_
      refine A_iload_n 26 dX10_instead_25 rfl rfl rfl ?_
      refine A_iconst 27 (1) dX10_instead_26 rfl (by decide) ?_
      refine A_callSI 30 (S_X10_wrongBit X l) dX10_instead_27 rfl kX10_wrongBit lk_X10_225 rfl (by decide) rfl (Nat.le_of_ble_eq_true rfl) (fun v_3 h_3 qh_3 => ?_)
      obtain ⟨rfl, rfl⟩ := qh_3
      exact j30 _ (by first | (simp only [c10, if_true, if_false, ite_true, ite_false, and_true, true_and, and_false, false_and, and_self, or_true, true_or, or_false, false_or, or_self, not_true_eq_false, not_false_eq_true, decide_true, decide_false, Bool.and_true, Bool.true_and, Bool.and_false, Bool.false_and, Bool.and_self, Bool.or_true, Bool.true_or, Bool.or_false, Bool.false_or, Bool.not_true, Bool.not_false, cond_true, cond_false, bI_t, bI_f, Bool.false_eq_true, Bool.true_eq_false, dayC_1, dayC_21, dayC_221, dayC_222, wInst, w01, wP, wPL, wP01, wL01, wRow, w01R, wAB, wNum, isP, isL, wrB_N, wrB_0, wrB_1]; done) | (simp only [c10, if_true, if_false, ite_true, ite_false, and_true, true_and, and_false, false_and, and_self, or_true, true_or, or_false, false_or, or_self, not_true_eq_false, not_false_eq_true, decide_true, decide_false, Bool.and_true, Bool.true_and, Bool.and_false, Bool.false_and, Bool.and_self, Bool.or_true, Bool.true_or, Bool.or_false, Bool.false_or, Bool.not_true, Bool.not_false, cond_true, cond_false, bI_t, bI_f, Bool.false_eq_true, Bool.true_eq_false, dayC_1, dayC_21, dayC_221, dayC_222, wrN, wInst, w01, wP, wPL, wP01, wL01, wRow, w01R, wAB, wNum, isP, isL, wrB_N, wrB_0, wrB_1]; done) | (simp only [c10, if_true, if_false, ite_true, ite_false, and_true, true_and, and_false, false_and, and_self, or_true, true_or, or_false, false_or, or_self, not_true_eq_false, not_false_eq_true, decide_true, decide_false, Bool.and_true, Bool.true_and, Bool.and_false, Bool.false_and, Bool.and_self, Bool.or_true, Bool.true_or, Bool.or_false, Bool.false_or, Bool.not_true, Bool.not_false, cond_true, cond_false, bI_t, bI_f, Bool.false_eq_true, Bool.true_eq_false, dayC_1, dayC_21, dayC_221, dayC_222, wrN, wInst, w01, wP, wPL, wP01, wL01, wRow, w01R, wAB, wNum, isP, isL, wrB_N, wrB_0, wrB_1]; rfl))
    · skip
      try simp only [bI_0, bI_n0, Classical.not_not, Bool.not_eq_false, Bool.true_and, Bool.and_true, decide_eq_true_eq, decide_eq_false_iff_not, dayC_1, dayC_21, dayC_221, dayC_222, inI_1, inI_2, inI_3, inI_5, inI_11, inI_16] at c10
      refine A_iload_n 14 dX10_instead_13 rfl rfl rfl ?_
      refine A_iconst 15 (0) dX10_instead_14 rfl (by decide) ?_
      refine A_sipush 18 (255) dX10_instead_15 rfl (by decide) ?_
      refine A_callSI 21 (S_X10_wrongNumber X l) dX10_instead_18 rfl kX10_wrongNumber lk_X10_213 rfl (by decide) rfl (Nat.le_of_ble_eq_true rfl) (fun v_4 h_4 qh_4 => ?_)
      obtain ⟨rfl, rfl⟩ := qh_4
      refine A_goto 25 dX10_instead_21 (by decide) ?_
      refine A_iload_n 26 dX10_instead_25 rfl rfl rfl ?_
      refine A_iconst 27 (1) dX10_instead_26 rfl (by decide) ?_
      refine A_callSI 30 (S_X10_wrongBit X l) dX10_instead_27 rfl kX10_wrongBit lk_X10_225 rfl (by decide) rfl (Nat.le_of_ble_eq_true rfl) (fun v_5 h_5 qh_5 => ?_)
      obtain ⟨rfl, rfl⟩ := qh_5
      exact j30 _ (by first | (simp only [c10, if_true, if_false, ite_true, ite_false, and_true, true_and, and_false, false_and, and_self, or_true, true_or, or_false, false_or, or_self, not_true_eq_false, not_false_eq_true, decide_true, decide_false, Bool.and_true, Bool.true_and, Bool.and_false, Bool.false_and, Bool.and_self, Bool.or_true, Bool.true_or, Bool.or_false, Bool.false_or, Bool.not_true, Bool.not_false, cond_true, cond_false, bI_t, bI_f, Bool.false_eq_true, Bool.true_eq_false, dayC_1, dayC_21, dayC_221, dayC_222, wInst, w01, wP, wPL, wP01, wL01, wRow, w01R, wAB, wNum, isP, isL, wrB_N, wrB_0, wrB_1]; done) | (simp only [c10, if_true, if_false, ite_true, ite_false, and_true, true_and, and_false, false_and, and_self, or_true, true_or, or_false, false_or, or_self, not_true_eq_false, not_false_eq_true, decide_true, decide_false, Bool.and_true, Bool.true_and, Bool.and_false, Bool.false_and, Bool.and_self, Bool.or_true, Bool.true_or, Bool.or_false, Bool.false_or, Bool.not_true, Bool.not_false, cond_true, cond_false, bI_t, bI_f, Bool.false_eq_true, Bool.true_eq_false, dayC_1, dayC_21, dayC_221, dayC_222, wrN, wInst, w01, wP, wPL, wP01, wL01, wRow, w01R, wAB, wNum, isP, isL, wrB_N, wrB_0, wrB_1]; done) | (simp only [c10, if_true, if_false, ite_true, ite_false, and_true, true_and, and_false, false_and, and_self, or_true, true_or, or_false, false_or, or_self, not_true_eq_false, not_false_eq_true, decide_true, decide_false, Bool.and_true, Bool.true_and, Bool.and_false, Bool.false_and, Bool.and_self, Bool.or_true, Bool.true_or, Bool.or_false, Bool.false_or, Bool.not_true, Bool.not_false, cond_true, cond_false, bI_t, bI_f, Bool.false_eq_true, Bool.true_eq_false, dayC_1, dayC_21, dayC_221, dayC_222, wrN, wInst, w01, wP, wPL, wP01, wL01, wRow, w01R, wAB, wNum, isP, isL, wrB_N, wrB_0, wrB_1]; rfl))
  subst e30
  refine A_istore 32 dX10_instead_30 rfl (by decide) (by first | exact (ast_s (ast_s (ast_s (ast_1 rfl)))) | exact (ast_s (ast_s (ast_s ast_k)))) ?_
  refine A_iload 34 dX10_instead_32 rfl rfl ?_
  refine A_if_ge 44 37 dX10_instead_34 (by decide) rfl (fun c34 => ?_) (fun c34 => ?_)
  · skip
    try simp only [bI_0, bI_n0, Classical.not_not, Bool.not_eq_false, Bool.true_and, Bool.and_true, decide_eq_true_eq, decide_eq_false_iff_not, dayC_1, dayC_21, dayC_221, dayC_222, inI_1, inI_2, inI_3, inI_5, inI_11, inI_16] at c34
    have n34 := c34
    replace c34 := Int32.not_lt.mpr c34
    have hw0 : wInst x p s0 v = 0 := cz_pos wInst_cz c34
    obtain ⟨f1, f2⟩ := wInst_0 hw0
    obtain ⟨k_p, rfl, hk_p⟩ := inN_ex f1 (by omega)
    have cl_p : (nI k_p).toNatClampNeg = k_p := nI_clamp (by omega)
    have hk6_p : k_p < 6 := by omega
    refine A_aload_n 45 dX10_instead_44 rfl rfl rfl ?_
    refine A_iload_n 46 dX10_instead_45 rfl rfl rfl ?_
    refine A_callVI 49 (S_X10_doneBy_n X l (by first | assumption | decide | omega | exact Ne.symm (by assumption)) (by first | assumption | decide | omega | exact Ne.symm (by assumption)) (by first | assumption | decide | omega | exact Ne.symm (by assumption))) dX10_instead_46 rfl kX10_doneBy lk_X10_115 rfl O28 (by decide) rfl (Nat.le_of_ble_eq_true rfl) (fun v_6 h_6 qh_6 => ?_)
    obtain ⟨rfl, n0h_6, eh_6⟩ := qh_6
    replace O28 := n0h_6
    replace hf : ∀ i, i ≠ 28 → h_6 i = h i := fun i g0 => (eh_6 i g0).trans (hf i g0)
    refine A_istore 51 dX10_instead_49 rfl (by decide) (by first | exact (ast_s (ast_s (ast_s (ast_s (ast_1 rfl))))) | exact (ast_s (ast_s (ast_s (ast_s ast_k))))) ?_
    refine A_aload_n 52 dX10_instead_51 rfl rfl rfl ?_
    refine A_aload_n 53 dX10_instead_52 rfl rfl rfl ?_
    refine A_getfield 56 dX10_instead_53 rfl f_X10_22 O28 rfl ?_
    refine A_iload_n 57 dX10_instead_56 rfl rfl rfl ?_
    refine A_iaload 58 dX10_instead_57 rfl O28 rfl (by first | assumption | exact ix_nI (by omega) (by decide) | exact ix_lit _ rfl (by omega) (by decide) | exact ix_lit _ rfl (by decide) (by decide)) ?_
    try dsimp only
    refine A_iload_n 59 dX10_instead_58 rfl rfl rfl ?_
    refine A_iconst 60 (-1) dX10_instead_59 rfl (by decide) ?_
    refine A_ixor 61 dX10_instead_60 rfl ?_
    refine A_iand 62 dX10_instead_61 rfl ?_
    refine A_callVI 65 (S_X10_goDay_n X l (by first | assumption | decide | omega | exact Ne.symm (by assumption)) (by first | assumption | decide | omega | exact Ne.symm (by assumption))) dX10_instead_62 rfl kX10_goDay lk_X10_108 rfl O28 (by decide) rfl (Nat.le_of_ble_eq_true rfl) (fun v_7 h_7 qh_7 => ?_)
    obtain ⟨rfl, n0h_7, eh_7⟩ := qh_7
    replace O28 := n0h_7
    replace hf : ∀ i, i ≠ 28 → h_7 i = h i := fun i g0 => (eh_7 i g0).trans (hf i g0)
    refine A_istore 67 dX10_instead_65 rfl (by decide) (by first | exact (ast_s (ast_s (ast_s (ast_s (ast_s (ast_1 rfl)))))) | exact (ast_s (ast_s (ast_s (ast_s (ast_s ast_k)))))) ?_
    refine A_iload_n 68 dX10_instead_67 rfl rfl rfl ?_
    refine A_if_ne 76 71 dX10_instead_68 (by decide) rfl (fun c68 => ?_) (fun c68 => ?_)
    · skip
      try simp only [bI_0, bI_n0, Classical.not_not, Bool.not_eq_false, Bool.true_and, Bool.and_true, decide_eq_true_eq, decide_eq_false_iff_not, dayC_1, dayC_21, dayC_221, dayC_222, inI_1, inI_2, inI_3, inI_5, inI_11, inI_16] at c68
      refine A_iload 78 dX10_instead_76 rfl rfl ?_
      refine A_iload 80 dX10_instead_78 rfl rfl ?_
      refine A_iconst 81 (-1) dX10_instead_80 rfl (by decide) ?_
      refine A_ixor 82 dX10_instead_81 rfl ?_
      refine A_iand 83 dX10_instead_82 rfl ?_
      refine A_iret dX10_instead_83 rfl ⟨_, rfl, (by rw [hw0, rV_0]; first | (simp only [c34, n34, cl_p, c68, if_true, if_false, ite_true, ite_false, and_true, true_and, and_false, false_and, and_self, or_true, true_or, or_false, false_or, or_self, not_true_eq_false, not_false_eq_true, decide_true, decide_false, Bool.and_true, Bool.true_and, Bool.and_false, Bool.false_and, Bool.and_self, Bool.or_true, Bool.true_or, Bool.or_false, Bool.false_or, Bool.not_true, Bool.not_false, cond_true, cond_false, bI_t, bI_f, Bool.false_eq_true, Bool.true_eq_false, dayC_1, dayC_21, dayC_221, dayC_222, aInst, pk]; done) | (simp [aInst, pk, *]; done)), _, (by rw [hw0, rS_0]; exact O28), hf⟩
    · skip
      try simp only [bI_0, bI_n0, Classical.not_not, Bool.not_eq_false, Bool.true_and, Bool.and_true, decide_eq_true_eq, decide_eq_false_iff_not, dayC_1, dayC_21, dayC_221, dayC_222, inI_1, inI_2, inI_3, inI_5, inI_11, inI_16] at c68
      refine A_iload 73 dX10_instead_71 rfl rfl ?_
      refine A_goto 83 dX10_instead_73 (by decide) ?_
      refine A_iret dX10_instead_83 rfl ⟨_, rfl, (by rw [hw0, rV_0]; first | (simp only [c34, n34, cl_p, c68, if_true, if_false, ite_true, ite_false, and_true, true_and, and_false, false_and, and_self, or_true, true_or, or_false, false_or, or_self, not_true_eq_false, not_false_eq_true, decide_true, decide_false, Bool.and_true, Bool.true_and, Bool.and_false, Bool.false_and, Bool.and_self, Bool.or_true, Bool.true_or, Bool.or_false, Bool.false_or, Bool.not_true, Bool.not_false, cond_true, cond_false, bI_t, bI_f, Bool.false_eq_true, Bool.true_eq_false, dayC_1, dayC_21, dayC_221, dayC_222, aInst, pk]; done) | (simp only [c34, n34, cl_p, eq_true c68, if_true, if_false, ite_true, ite_false, and_true, true_and, and_false, false_and, and_self, or_true, true_or, or_false, false_or, or_self, not_true_eq_false, not_false_eq_true, decide_true, decide_false, Bool.and_true, Bool.true_and, Bool.and_false, Bool.false_and, Bool.and_self, Bool.or_true, Bool.true_or, Bool.or_false, Bool.false_or, Bool.not_true, Bool.not_false, cond_true, cond_false, bI_t, bI_f, Bool.false_eq_true, Bool.true_eq_false, dayC_1, dayC_21, dayC_221, dayC_222, aInst, pk]; done) | (simp [aInst, pk, *]; done)), _, (by rw [hw0, rS_0]; exact O28), hf⟩
  · skip
    try simp only [bI_0, bI_n0, Classical.not_not, Bool.not_eq_false, Bool.true_and, Bool.and_true, decide_eq_true_eq, decide_eq_false_iff_not, dayC_1, dayC_21, dayC_221, dayC_222, inI_1, inI_2, inI_3, inI_5, inI_11, inI_16] at c34
    have n34 := c34
    replace c34 := Int32.not_le.mp c34
    have hcd : CD (wInst x p s0 v) := cz_neg wInst_cz c34
    refine A_aload_n 38 dX10_instead_37 rfl rfl rfl ?_
    refine A_iload 40 dX10_instead_38 rfl rfl ?_
    refine A_callVI 43 (S_X10_refuse_c X l (by first | assumption | decide | omega | exact Ne.symm (by assumption)) (by first | assumption | (unfold CD; decide))) dX10_instead_40 rfl kX10_refuse lk_X10_121 rfl O28 (by decide) rfl (Nat.le_of_ble_eq_true rfl) (fun v_8 h_8 qh_8 => ?_)
    obtain ⟨rfl, n0h_8, eh_8⟩ := qh_8
    replace O28 := n0h_8
    replace hf : ∀ i, i ≠ 28 → h_8 i = h i := fun i g0 => (eh_8 i g0).trans (hf i g0)
    refine A_iret dX10_instead_43 rfl ⟨_, rfl, (by exact rV_n hcd.ne), _, O28, hf⟩
set_option maxHeartbeats 4000000 in
set_option maxRecDepth 100000 in
theorem S_X10_fewestFor (X : En) (l : Launch) {h : Hp} {x : PW} {c : RC} {z : RZ} (O28 : h 28 = some (rB x (-1) c z)) (hW : WOK x) {p ls : Int32} : Ct X l mX10_fewestFor [aR 28 0, aI p, aI ls] h (QI (fun vr h2 => (foldN (ftF x p ls) (-9) 256) = vr ∧ ∃ (z1 : RZ), h2 (28) = some (rB x (-1) c z1) ∧ ∀ i, i ≠ 28 → h2 i = h i)) := by
  have hx := hW.1
  have hp := hW.2.1
  have h10 := hx.1
  have hf : ∀ i, i ≠ 28 → h i = h i := fun _ _ => rfl
  refine Ct.intro [some (aR 28 0), some (aI p), some (aI ls), none, none] (by decide +kernel) rfl (Nat.le_of_ble_eq_true rfl) ?_
  refine A_bipush 2 (-9) dX10_fewestFor_0 rfl (by decide) ?_
  refine A_istore_n 3 dX10_fewestFor_2 rfl rfl (by decide) (by first | exact (ast_s (ast_s (ast_1 rfl))) | exact (ast_s (ast_s ast_k))) ?_
  refine A_iconst 4 (0) dX10_fewestFor_3 rfl (by decide) ?_
  refine A_istore 6 dX10_fewestFor_4 rfl (by decide) (by first | exact (ast_s (ast_s (ast_s (ast_1 rfl)))) | exact (ast_s (ast_s (ast_s ast_k)))) ?_
  have L6 : ∀ (nq i : Nat) (u : Int32) (g6 : Hp) (z2 : RZ), (nq + i = 256) → (foldN (ftF x p ls) (-9) i = (u)) → (u = -9 ∨ R8 u) → (g6 28 = some (rB x (-1) c z2)) → (∀ i, i ≠ 28 → g6 i = h i) → Av X l mX10_fewestFor 6 [some (aR 28 0), some (aI (p)), some (aI (ls)), some (aI (u)), some (aI (nI (i)))] [] g6 (QI (fun vr h2 => (foldN (ftF x p ls) (-9) 256) = vr ∧ ∃ (z1 : RZ), h2 (28) = some (rB x (-1) c z1) ∧ ∀ i, i ≠ 28 → h2 i = h i)) := by
    intro nq
    induction nq using Nat.strongRecOn with
    | _ nq ih =>
    intro i u g6 z2 en ee hy O28 hf
    refine A_iload 8 dX10_fewestFor_6 rfl rfl ?_
    refine A_sipush 11 (256) dX10_fewestFor_8 rfl (by decide) ?_
    refine A_icmp_ge 67 14 dX10_fewestFor_11 (by decide) rfl (fun c11 => ?_) (fun c11 => ?_)
    · skip
      obtain rfl := (up_ge_T (N := 256) c11 rfl (by omega) (by omega)).symm
      refine A_iload_n 68 dX10_fewestFor_67 rfl rfl rfl ?_
      refine A_iret dX10_fewestFor_68 rfl ⟨_, rfl, (by first | with_reducible rfl | (simp only [if_true, if_false, ite_true, ite_false, and_true, true_and, and_false, false_and, and_self, or_true, true_or, or_false, false_or, or_self, not_true_eq_false, not_false_eq_true, decide_true, decide_false, Bool.and_true, Bool.true_and, Bool.and_false, Bool.false_and, Bool.and_self, Bool.or_true, Bool.true_or, Bool.or_false, Bool.false_or, Bool.not_true, Bool.not_false, cond_true, cond_false, bI_t, bI_f, Bool.false_eq_true, Bool.true_eq_false, dayC_1, dayC_21, dayC_221, dayC_222]; done) | (simp only [*]; done) | (simp [bI, *]; done) | with_reducible_and_instances rfl), _, O28, hf⟩
    · skip
      have hi := up_ge_F (N := 256) c11 rfl (by omega) (by omega)
      obtain ⟨n0, rfl⟩ : ∃ q, nq = q + 1 := ⟨nq - 1, by omega⟩
      refine A_iload 16 dX10_fewestFor_14 rfl rfl ?_
      refine A_iload_n 17 dX10_fewestFor_16 rfl rfl rfl ?_
      refine A_iconst 18 (-1) dX10_fewestFor_17 rfl (by decide) ?_
      refine A_ixor 19 dX10_fewestFor_18 rfl ?_
      refine A_iand 20 dX10_fewestFor_19 rfl ?_
      refine A_if_ne 61 23 dX10_fewestFor_20 (by decide) rfl (fun c20 => ?_) (fun c20 => ?_)
      · skip
        try simp only [bI_0, bI_n0, Classical.not_not, Bool.not_eq_false, Bool.true_and, Bool.and_true, decide_eq_true_eq, decide_eq_false_iff_not, dayC_1, dayC_21, dayC_221, dayC_222, inI_1, inI_2, inI_3, inI_5, inI_11, inI_16] at c20
        first | refine A_iincN 64 dX10_fewestFor_61 rfl rfl (by decide) (by first | exact (ast_s (ast_s (ast_s (ast_1 rfl)))) | exact (ast_s (ast_s (ast_s ast_k)))) ?_ | refine A_iinc 64 (1) dX10_fewestFor_61 rfl rfl (by decide) (by decide) (by first | exact (ast_s (ast_s (ast_s (ast_1 rfl)))) | exact (ast_s (ast_s (ast_s ast_k)))) ?_
        refine A_goto 6 dX10_fewestFor_64 (by decide) ?_
        exact ih n0 (Nat.lt_succ_self n0) (i + 1) _ g6 _ (by omega) ((foldN_s (ftF x p ls) (-9) i).trans ((congrArg ((ftF x p ls) i) ee).trans (by first | with_reducible rfl | (simp only [c20, if_true, if_false, ite_true, ite_false, and_true, true_and, and_false, false_and, and_self, or_true, true_or, or_false, false_or, or_self, not_true_eq_false, not_false_eq_true, decide_true, decide_false, Bool.and_true, Bool.true_and, Bool.and_false, Bool.false_and, Bool.and_self, Bool.or_true, Bool.true_or, Bool.or_false, Bool.false_or, Bool.not_true, Bool.not_false, cond_true, cond_false, bI_t, bI_f, Bool.false_eq_true, Bool.true_eq_false, dayC_1, dayC_21, dayC_221, dayC_222, ftF]; done) | (simp [*, ftF]; done) | with_reducible_and_instances rfl))) (by first | exact hy | exact Or.inr ⟨i, hi, rfl⟩) O28 hf
      · skip
        try simp only [bI_0, bI_n0, Classical.not_not, Bool.not_eq_false, Bool.true_and, Bool.and_true, decide_eq_true_eq, decide_eq_false_iff_not, dayC_1, dayC_21, dayC_221, dayC_222, inI_1, inI_2, inI_3, inI_5, inI_11, inI_16] at c20
        refine A_iload_n 24 dX10_fewestFor_23 rfl rfl rfl ?_
        refine A_if_lt 39 27 dX10_fewestFor_24 (by decide) rfl (fun c24 => ?_) (fun c24 => ?_)
        · skip
          try simp only [bI_0, bI_n0, Classical.not_not, Bool.not_eq_false, Bool.true_and, Bool.and_true, decide_eq_true_eq, decide_eq_false_iff_not, dayC_1, dayC_21, dayC_221, dayC_222, inI_1, inI_2, inI_3, inI_5, inI_11, inI_16] at c24
          have n24 := Int32.not_le.mpr c24
          have cl_9 : u = -9 := neg9 hy c24
          refine A_aload_n 40 dX10_fewestFor_39 rfl rfl rfl ?_
          refine A_iload_n 41 dX10_fewestFor_40 rfl rfl rfl ?_
          refine A_iload 43 dX10_fewestFor_41 rfl rfl ?_
          refine A_iconst 44 (-1) dX10_fewestFor_43 rfl (by decide) ?_
          refine A_ixor 45 dX10_fewestFor_44 rfl ?_
          refine A_iand 46 dX10_fewestFor_45 rfl ?_
          refine A_callVI 49 (S_X10_goDay_n X l (by first | assumption | decide | omega | exact Ne.symm (by assumption)) (by first | assumption | decide | omega | exact Ne.symm (by assumption))) dX10_fewestFor_46 rfl kX10_goDay lk_X10_108 rfl O28 (by decide) rfl (Nat.le_of_ble_eq_true rfl) (fun v_1 h_1 qh_1 => ?_)
          obtain ⟨rfl, n0h_1, eh_1⟩ := qh_1
          replace O28 := n0h_1
          replace hf : ∀ i, i ≠ 28 → h_1 i = h i := fun i g0 => (eh_1 i g0).trans (hf i g0)
          refine A_iload_n 50 dX10_fewestFor_49 rfl rfl rfl ?_
          refine A_iand 51 dX10_fewestFor_50 rfl ?_
          refine A_if_ne 59 54 dX10_fewestFor_51 (by decide) rfl (fun c51 => ?_) (fun c51 => ?_)
          · skip
            try simp only [bI_0, bI_n0, Classical.not_not, Bool.not_eq_false, Bool.true_and, Bool.and_true, decide_eq_true_eq, decide_eq_false_iff_not, dayC_1, dayC_21, dayC_221, dayC_222, inI_1, inI_2, inI_3, inI_5, inI_11, inI_16] at c51
            refine A_iload_n 60 dX10_fewestFor_59 rfl rfl rfl ?_
            refine A_istore_n 61 dX10_fewestFor_60 rfl rfl (by decide) (by first | exact (ast_s (ast_s (ast_1 rfl))) | exact (ast_s (ast_s ast_k))) ?_
            first | refine A_iincN 64 dX10_fewestFor_61 rfl rfl (by decide) (by first | exact (ast_s (ast_s (ast_s (ast_1 rfl)))) | exact (ast_s (ast_s (ast_s ast_k)))) ?_ | refine A_iinc 64 (1) dX10_fewestFor_61 rfl rfl (by decide) (by decide) (by first | exact (ast_s (ast_s (ast_s (ast_1 rfl)))) | exact (ast_s (ast_s (ast_s ast_k)))) ?_
            refine A_goto 6 dX10_fewestFor_64 (by decide) ?_
            exact ih n0 (Nat.lt_succ_self n0) (i + 1) _ h_1 _ (by omega) ((foldN_s (ftF x p ls) (-9) i).trans ((congrArg ((ftF x p ls) i) ee).trans (by first | with_reducible rfl | (simp only [c20, c24, n24, cl_9, c51, if_true, if_false, ite_true, ite_false, and_true, true_and, and_false, false_and, and_self, or_true, true_or, or_false, false_or, or_self, not_true_eq_false, not_false_eq_true, decide_true, decide_false, Bool.and_true, Bool.true_and, Bool.and_false, Bool.false_and, Bool.and_self, Bool.or_true, Bool.true_or, Bool.or_false, Bool.false_or, Bool.not_true, Bool.not_false, cond_true, cond_false, bI_t, bI_f, Bool.false_eq_true, Bool.true_eq_false, dayC_1, dayC_21, dayC_221, dayC_222, ftF]; done) | (simp only [eq_true c20, c24, n24, cl_9, c51, if_true, if_false, ite_true, ite_false, and_true, true_and, and_false, false_and, and_self, or_true, true_or, or_false, false_or, or_self, not_true_eq_false, not_false_eq_true, decide_true, decide_false, Bool.and_true, Bool.true_and, Bool.and_false, Bool.false_and, Bool.and_self, Bool.or_true, Bool.true_or, Bool.or_false, Bool.false_or, Bool.not_true, Bool.not_false, cond_true, cond_false, bI_t, bI_f, Bool.false_eq_true, Bool.true_eq_false, dayC_1, dayC_21, dayC_221, dayC_222, ftF]; done) | (with_reducible first | exact absurd c20 c24 | exact absurd c20 c51 | exact absurd c24 c20 | exact absurd c24 c51 | exact absurd c51 c20 | exact absurd c51 c24) | (simp [*, ftF]; done) | with_reducible_and_instances rfl))) (by first | exact hy | exact Or.inr ⟨i, hi, rfl⟩) O28 hf
          · skip
            try simp only [bI_0, bI_n0, Classical.not_not, Bool.not_eq_false, Bool.true_and, Bool.and_true, decide_eq_true_eq, decide_eq_false_iff_not, dayC_1, dayC_21, dayC_221, dayC_222, inI_1, inI_2, inI_3, inI_5, inI_11, inI_16] at c51
            refine A_iload 56 dX10_fewestFor_54 rfl rfl ?_
            refine A_goto 60 dX10_fewestFor_56 (by decide) ?_
            refine A_istore_n 61 dX10_fewestFor_60 rfl rfl (by decide) (by first | exact (ast_s (ast_s (ast_1 rfl))) | exact (ast_s (ast_s ast_k))) ?_
            first | refine A_iincN 64 dX10_fewestFor_61 rfl rfl (by decide) (by first | exact (ast_s (ast_s (ast_s (ast_1 rfl)))) | exact (ast_s (ast_s (ast_s ast_k)))) ?_ | refine A_iinc 64 (1) dX10_fewestFor_61 rfl rfl (by decide) (by decide) (by first | exact (ast_s (ast_s (ast_s (ast_1 rfl)))) | exact (ast_s (ast_s (ast_s ast_k)))) ?_
            refine A_goto 6 dX10_fewestFor_64 (by decide) ?_
            exact ih n0 (Nat.lt_succ_self n0) (i + 1) _ h_1 _ (by omega) ((foldN_s (ftF x p ls) (-9) i).trans ((congrArg ((ftF x p ls) i) ee).trans (by first | with_reducible rfl | (simp only [c20, c24, n24, cl_9, c51, if_true, if_false, ite_true, ite_false, and_true, true_and, and_false, false_and, and_self, or_true, true_or, or_false, false_or, or_self, not_true_eq_false, not_false_eq_true, decide_true, decide_false, Bool.and_true, Bool.true_and, Bool.and_false, Bool.false_and, Bool.and_self, Bool.or_true, Bool.true_or, Bool.or_false, Bool.false_or, Bool.not_true, Bool.not_false, cond_true, cond_false, bI_t, bI_f, Bool.false_eq_true, Bool.true_eq_false, dayC_1, dayC_21, dayC_221, dayC_222, ftF]; done) | (simp only [eq_true c20, c24, n24, cl_9, eq_true c51, if_true, if_false, ite_true, ite_false, and_true, true_and, and_false, false_and, and_self, or_true, true_or, or_false, false_or, or_self, not_true_eq_false, not_false_eq_true, decide_true, decide_false, Bool.and_true, Bool.true_and, Bool.and_false, Bool.false_and, Bool.and_self, Bool.or_true, Bool.true_or, Bool.or_false, Bool.false_or, Bool.not_true, Bool.not_false, cond_true, cond_false, bI_t, bI_f, Bool.false_eq_true, Bool.true_eq_false, dayC_1, dayC_21, dayC_221, dayC_222, ftF]; done) | (with_reducible first | exact absurd c20 c24 | exact absurd c20 c51 | exact absurd c24 c20 | exact absurd c24 c51 | exact absurd c51 c20 | exact absurd c51 c24) | (simp [*, ftF]; done) | with_reducible_and_instances rfl))) (by first | exact hy | exact Or.inr ⟨i, hi, rfl⟩) O28 hf
        · skip
          try simp only [bI_0, bI_n0, Classical.not_not, Bool.not_eq_false, Bool.true_and, Bool.and_true, decide_eq_true_eq, decide_eq_false_iff_not, dayC_1, dayC_21, dayC_221, dayC_222, inI_1, inI_2, inI_3, inI_5, inI_11, inI_16] at c24
          have n24 := Int32.not_lt.mp c24
          have cl_9 : ¬ u = -9 := (pos9 hy c24).1
          have hR9 := (pos9 hy c24).2
          refine A_iload 29 dX10_fewestFor_27 rfl rfl ?_
          refine A_callSI 32 (S_X10_onesOf_r X l (by first | assumption | exact R10.nI (by omega) | exact dDone_R (by assumption) _ _ | exact R8.r10 (by assumption))) dX10_fewestFor_29 rfl kX10_onesOf lk_X10_112 rfl (by decide) rfl (Nat.le_of_ble_eq_true rfl) (fun v_2 h_2 qh_2 => ?_)
          obtain ⟨rfl, rfl⟩ := qh_2
          refine A_iload_n 33 dX10_fewestFor_32 rfl rfl rfl ?_
          refine A_callSI 36 (S_X10_onesOf_r X l (by first | assumption | exact R10.nI (by omega) | exact dDone_R (by assumption) _ _ | exact R8.r10 (by assumption))) dX10_fewestFor_33 rfl kX10_onesOf lk_X10_112 rfl (by decide) rfl (Nat.le_of_ble_eq_true rfl) (fun v_3 h_3 qh_3 => ?_)
          obtain ⟨rfl, rfl⟩ := qh_3
          refine A_icmp_ge 61 39 dX10_fewestFor_36 (by decide) rfl (fun c36 => ?_) (fun c36 => ?_)
          · skip
            try simp only [bI_0, bI_n0, Classical.not_not, Bool.not_eq_false, Bool.true_and, Bool.and_true, decide_eq_true_eq, decide_eq_false_iff_not, dayC_1, dayC_21, dayC_221, dayC_222, inI_1, inI_2, inI_3, inI_5, inI_11, inI_16] at c36
            have n36 := c36
            replace c36 := Int32.not_lt.mpr c36
            first | refine A_iincN 64 dX10_fewestFor_61 rfl rfl (by decide) (by first | exact (ast_s (ast_s (ast_s (ast_1 rfl)))) | exact (ast_s (ast_s (ast_s ast_k)))) ?_ | refine A_iinc 64 (1) dX10_fewestFor_61 rfl rfl (by decide) (by decide) (by first | exact (ast_s (ast_s (ast_s (ast_1 rfl)))) | exact (ast_s (ast_s (ast_s ast_k)))) ?_
            refine A_goto 6 dX10_fewestFor_64 (by decide) ?_
            exact ih n0 (Nat.lt_succ_self n0) (i + 1) _ g6 _ (by omega) ((foldN_s (ftF x p ls) (-9) i).trans ((congrArg ((ftF x p ls) i) ee).trans (by first | with_reducible rfl | (simp only [c20, c24, n24, cl_9, c36, n36, if_true, if_false, ite_true, ite_false, and_true, true_and, and_false, false_and, and_self, or_true, true_or, or_false, false_or, or_self, not_true_eq_false, not_false_eq_true, decide_true, decide_false, Bool.and_true, Bool.true_and, Bool.and_false, Bool.false_and, Bool.and_self, Bool.or_true, Bool.true_or, Bool.or_false, Bool.false_or, Bool.not_true, Bool.not_false, cond_true, cond_false, bI_t, bI_f, Bool.false_eq_true, Bool.true_eq_false, dayC_1, dayC_21, dayC_221, dayC_222, ftF]; done) | (simp only [eq_true c20, c24, n24, cl_9, c36, n36, if_true, if_false, ite_true, ite_false, and_true, true_and, and_false, false_and, and_self, or_true, true_or, or_false, false_or, or_self, not_true_eq_false, not_false_eq_true, decide_true, decide_false, Bool.and_true, Bool.true_and, Bool.and_false, Bool.false_and, Bool.and_self, Bool.or_true, Bool.true_or, Bool.or_false, Bool.false_or, Bool.not_true, Bool.not_false, cond_true, cond_false, bI_t, bI_f, Bool.false_eq_true, Bool.true_eq_false, dayC_1, dayC_21, dayC_221, dayC_222, ftF]; done) | (with_reducible first | exact absurd c20 c24 | exact absurd c20 c36 | exact absurd c24 c20 | exact absurd c24 c36 | exact absurd c36 c20 | exact absurd c36 c24) | (simp [*, ftF]; done) | with_reducible_and_instances rfl))) (by first | exact hy | exact Or.inr ⟨i, hi, rfl⟩) O28 hf
          · skip
            try simp only [bI_0, bI_n0, Classical.not_not, Bool.not_eq_false, Bool.true_and, Bool.and_true, decide_eq_true_eq, decide_eq_false_iff_not, dayC_1, dayC_21, dayC_221, dayC_222, inI_1, inI_2, inI_3, inI_5, inI_11, inI_16] at c36
            have n36 := c36
            replace c36 := Int32.not_le.mp c36
            refine A_aload_n 40 dX10_fewestFor_39 rfl rfl rfl ?_
            refine A_iload_n 41 dX10_fewestFor_40 rfl rfl rfl ?_
            refine A_iload 43 dX10_fewestFor_41 rfl rfl ?_
            refine A_iconst 44 (-1) dX10_fewestFor_43 rfl (by decide) ?_
            refine A_ixor 45 dX10_fewestFor_44 rfl ?_
            refine A_iand 46 dX10_fewestFor_45 rfl ?_
            refine A_callVI 49 (S_X10_goDay_n X l (by first | assumption | decide | omega | exact Ne.symm (by assumption)) (by first | assumption | decide | omega | exact Ne.symm (by assumption))) dX10_fewestFor_46 rfl kX10_goDay lk_X10_108 rfl O28 (by decide) rfl (Nat.le_of_ble_eq_true rfl) (fun v_4 h_4 qh_4 => ?_)
            obtain ⟨rfl, n0h_4, eh_4⟩ := qh_4
            replace O28 := n0h_4
            replace hf : ∀ i, i ≠ 28 → h_4 i = h i := fun i g0 => (eh_4 i g0).trans (hf i g0)
            refine A_iload_n 50 dX10_fewestFor_49 rfl rfl rfl ?_
            refine A_iand 51 dX10_fewestFor_50 rfl ?_
            refine A_if_ne 59 54 dX10_fewestFor_51 (by decide) rfl (fun c51 => ?_) (fun c51 => ?_)
            · skip
              try simp only [bI_0, bI_n0, Classical.not_not, Bool.not_eq_false, Bool.true_and, Bool.and_true, decide_eq_true_eq, decide_eq_false_iff_not, dayC_1, dayC_21, dayC_221, dayC_222, inI_1, inI_2, inI_3, inI_5, inI_11, inI_16] at c51
              refine A_iload_n 60 dX10_fewestFor_59 rfl rfl rfl ?_
              refine A_istore_n 61 dX10_fewestFor_60 rfl rfl (by decide) (by first | exact (ast_s (ast_s (ast_1 rfl))) | exact (ast_s (ast_s ast_k))) ?_
              first | refine A_iincN 64 dX10_fewestFor_61 rfl rfl (by decide) (by first | exact (ast_s (ast_s (ast_s (ast_1 rfl)))) | exact (ast_s (ast_s (ast_s ast_k)))) ?_ | refine A_iinc 64 (1) dX10_fewestFor_61 rfl rfl (by decide) (by decide) (by first | exact (ast_s (ast_s (ast_s (ast_1 rfl)))) | exact (ast_s (ast_s (ast_s ast_k)))) ?_
              refine A_goto 6 dX10_fewestFor_64 (by decide) ?_
              exact ih n0 (Nat.lt_succ_self n0) (i + 1) _ h_4 _ (by omega) ((foldN_s (ftF x p ls) (-9) i).trans ((congrArg ((ftF x p ls) i) ee).trans (by first | with_reducible rfl | (simp only [c20, c24, n24, cl_9, c36, n36, c51, if_true, if_false, ite_true, ite_false, and_true, true_and, and_false, false_and, and_self, or_true, true_or, or_false, false_or, or_self, not_true_eq_false, not_false_eq_true, decide_true, decide_false, Bool.and_true, Bool.true_and, Bool.and_false, Bool.false_and, Bool.and_self, Bool.or_true, Bool.true_or, Bool.or_false, Bool.false_or, Bool.not_true, Bool.not_false, cond_true, cond_false, bI_t, bI_f, Bool.false_eq_true, Bool.true_eq_false, dayC_1, dayC_21, dayC_221, dayC_222, ftF]; done) | (simp only [eq_true c20, c24, n24, cl_9, c36, n36, c51, if_true, if_false, ite_true, ite_false, and_true, true_and, and_false, false_and, and_self, or_true, true_or, or_false, false_or, or_self, not_true_eq_false, not_false_eq_true, decide_true, decide_false, Bool.and_true, Bool.true_and, Bool.and_false, Bool.false_and, Bool.and_self, Bool.or_true, Bool.true_or, Bool.or_false, Bool.false_or, Bool.not_true, Bool.not_false, cond_true, cond_false, bI_t, bI_f, Bool.false_eq_true, Bool.true_eq_false, dayC_1, dayC_21, dayC_221, dayC_222, ftF]; done) | (with_reducible first | exact absurd c20 c24 | exact absurd c20 c36 | exact absurd c20 c51 | exact absurd c24 c20 | exact absurd c24 c36 | exact absurd c24 c51 | exact absurd c36 c20 | exact absurd c36 c24 | exact absurd c36 c51 | exact absurd c51 c20 | exact absurd c51 c24 | exact absurd c51 c36) | (simp [*, ftF]; done) | with_reducible_and_instances rfl))) (by first | exact hy | exact Or.inr ⟨i, hi, rfl⟩) O28 hf
            · skip
              try simp only [bI_0, bI_n0, Classical.not_not, Bool.not_eq_false, Bool.true_and, Bool.and_true, decide_eq_true_eq, decide_eq_false_iff_not, dayC_1, dayC_21, dayC_221, dayC_222, inI_1, inI_2, inI_3, inI_5, inI_11, inI_16] at c51
              refine A_iload 56 dX10_fewestFor_54 rfl rfl ?_
              refine A_goto 60 dX10_fewestFor_56 (by decide) ?_
              refine A_istore_n 61 dX10_fewestFor_60 rfl rfl (by decide) (by first | exact (ast_s (ast_s (ast_1 rfl))) | exact (ast_s (ast_s ast_k))) ?_
              first | refine A_iincN 64 dX10_fewestFor_61 rfl rfl (by decide) (by first | exact (ast_s (ast_s (ast_s (ast_1 rfl)))) | exact (ast_s (ast_s (ast_s ast_k)))) ?_ | refine A_iinc 64 (1) dX10_fewestFor_61 rfl rfl (by decide) (by decide) (by first | exact (ast_s (ast_s (ast_s (ast_1 rfl)))) | exact (ast_s (ast_s (ast_s ast_k)))) ?_
              refine A_goto 6 dX10_fewestFor_64 (by decide) ?_
              exact ih n0 (Nat.lt_succ_self n0) (i + 1) _ h_4 _ (by omega) ((foldN_s (ftF x p ls) (-9) i).trans ((congrArg ((ftF x p ls) i) ee).trans (by first | with_reducible rfl | (simp only [c20, c24, n24, cl_9, c36, n36, c51, if_true, if_false, ite_true, ite_false, and_true, true_and, and_false, false_and, and_self, or_true, true_or, or_false, false_or, or_self, not_true_eq_false, not_false_eq_true, decide_true, decide_false, Bool.and_true, Bool.true_and, Bool.and_false, Bool.false_and, Bool.and_self, Bool.or_true, Bool.true_or, Bool.or_false, Bool.false_or, Bool.not_true, Bool.not_false, cond_true, cond_false, bI_t, bI_f, Bool.false_eq_true, Bool.true_eq_false, dayC_1, dayC_21, dayC_221, dayC_222, ftF]; done) | (simp only [eq_true c20, c24, n24, cl_9, c36, n36, eq_true c51, if_true, if_false, ite_true, ite_false, and_true, true_and, and_false, false_and, and_self, or_true, true_or, or_false, false_or, or_self, not_true_eq_false, not_false_eq_true, decide_true, decide_false, Bool.and_true, Bool.true_and, Bool.and_false, Bool.false_and, Bool.and_self, Bool.or_true, Bool.true_or, Bool.or_false, Bool.false_or, Bool.not_true, Bool.not_false, cond_true, cond_false, bI_t, bI_f, Bool.false_eq_true, Bool.true_eq_false, dayC_1, dayC_21, dayC_221, dayC_222, ftF]; done) | (with_reducible first | exact absurd c20 c24 | exact absurd c20 c36 | exact absurd c20 c51 | exact absurd c24 c20 | exact absurd c24 c36 | exact absurd c24 c51 | exact absurd c36 c20 | exact absurd c36 c24 | exact absurd c36 c51 | exact absurd c51 c20 | exact absurd c51 c24 | exact absurd c51 c36) | (simp [*, ftF]; done) | with_reducible_and_instances rfl))) (by first | exact hy | exact Or.inr ⟨i, hi, rfl⟩) O28 hf
  exact L6 (256) (0) (_) h (_) (by omega) (rfl) (Or.inl rfl) O28 hf
set_option maxHeartbeats 4000000 in
set_option maxRecDepth 100000 in
theorem S_X10_stopped (X : En) (l : Launch) {h : Hp} {x : PW} {c : RC} {z : RZ} (O28 : h 28 = some (rB x (-1) c z)) (hW : WOK x)  {p l0 : Int32} : Ct X l mX10_stopped [aR 28 0, aI p, aI l0] h (QI (fun vr h2 => (rV (wPL x p l0) (aStop x p l0)) = vr ∧ ∃ (z1 : RZ), h2 (28) = some (rB x (-1) (rS (wPL x p l0) c.1, c.2) z1) ∧ ∀ i, i ≠ 28 → h2 i = h i)) := by
  have hx := hW.1
  have hp := hW.2.1
  have h10 := hx.1
  have hf : ∀ i, i ≠ 28 → h i = h i := fun _ _ => rfl
  refine Ct.intro [some (aR 28 0), some (aI p), some (aI l0)] (by decide +kernel) rfl (Nat.le_of_ble_eq_true rfl) ?_
  refine A_aload_n 1 dX10_stopped_0 rfl rfl rfl ?_
  refine A_iconst 2 (0) dX10_stopped_1 rfl (by decide) ?_
  refine P_X10_9 5 dX10_stopped_2 rfl fw_X10_78 O28 (fun h_1 nh_1 eh_1 => ?_)
  replace O28 := nh_1
  replace hf : ∀ i, i ≠ 28 → h_1 i = h i := fun i g0 => (eh_1 i g0).trans (hf i g0)
  try dsimp only at O28
  refine A_aload_n 6 dX10_stopped_5 rfl rfl rfl ?_
  refine A_iload_n 7 dX10_stopped_6 rfl rfl rfl ?_
  refine A_callVI 10 (S_X10_isOne X l (by first | assumption | decide | omega | exact Ne.symm (by assumption)) (by first | assumption | decide | omega | exact Ne.symm (by assumption))) dX10_stopped_7 rfl kX10_isOne lk_X10_160 rfl O28 (by decide) rfl (Nat.le_of_ble_eq_true rfl) (fun v_2 h_2 qh_2 => ?_)
  obtain ⟨rfl, rfl⟩ := qh_2
  refine A_if_eq 37 13 dX10_stopped_10 (by decide) rfl (fun c10 => ?_) (fun c10 => ?_)
  · skip
    try simp only [bI_0, bI_n0, Classical.not_not, Bool.not_eq_false, Bool.true_and, Bool.and_true, decide_eq_true_eq, decide_eq_false_iff_not, dayC_1, dayC_21, dayC_221, dayC_222, inI_1, inI_2, inI_3, inI_5, inI_11, inI_16] at c10
    refine A_aload_n 38 dX10_stopped_37 rfl rfl rfl ?_
    refine A_iconst 39 (-1) dX10_stopped_38 rfl (by decide) ?_
    refine A_callVI 42 (S_X10_refuse_c X l (by first | assumption | decide | omega | exact Ne.symm (by assumption)) (by first | assumption | (unfold CD; decide))) dX10_stopped_39 rfl kX10_refuse lk_X10_121 rfl O28 (by decide) rfl (Nat.le_of_ble_eq_true rfl) (fun v_3 h_3 qh_3 => ?_)
    obtain ⟨rfl, n0h_3, eh_3⟩ := qh_3
    replace O28 := n0h_3
    replace hf : ∀ i, i ≠ 28 → h_3 i = h i := fun i g0 => (eh_3 i g0).trans (hf i g0)
    have ew : wPL x p l0 = -1 := by
      first | (simp only [c10, if_true, if_false, ite_true, ite_false, and_true, true_and, and_false, false_and, and_self, or_true, true_or, or_false, false_or, or_self, not_true_eq_false, not_false_eq_true, decide_true, decide_false, Bool.and_true, Bool.true_and, Bool.and_false, Bool.false_and, Bool.and_self, Bool.or_true, Bool.true_or, Bool.or_false, Bool.false_or, Bool.not_true, Bool.not_false, cond_true, cond_false, bI_t, bI_f, Bool.false_eq_true, Bool.true_eq_false, dayC_1, dayC_21, dayC_221, dayC_222, w01, wP, wPL, wP01, wL01, wRow, w01R, wAB, wNum, isP, isL]; done)
    refine A_iret dX10_stopped_42 rfl ⟨_, rfl, (by rw [ew]; exact rV_n (by decide)), _, (by rw [ew]; first | (rw [rS_0]; exact O28) | exact O28), hf⟩
  · skip
    try simp only [bI_0, bI_n0, Classical.not_not, Bool.not_eq_false, Bool.true_and, Bool.and_true, decide_eq_true_eq, decide_eq_false_iff_not, dayC_1, dayC_21, dayC_221, dayC_222, inI_1, inI_2, inI_3, inI_5, inI_11, inI_16] at c10
    obtain ⟨k_p, rfl, hk_p⟩ := inN_ex c10 (by omega)
    have cl_p : (nI k_p).toNatClampNeg = k_p := nI_clamp (by omega)
    refine A_aload_n 14 dX10_stopped_13 rfl rfl rfl ?_
    refine A_iload_n 15 dX10_stopped_14 rfl rfl rfl ?_
    refine A_callVI 18 (S_X10_isLaw X l (by first | assumption | decide | omega | exact Ne.symm (by assumption)) (by first | assumption | decide | omega | exact Ne.symm (by assumption))) dX10_stopped_15 rfl kX10_isLaw lk_X10_206 rfl O28 (by decide) rfl (Nat.le_of_ble_eq_true rfl) (fun v_4 h_4 qh_4 => ?_)
    obtain ⟨rfl, rfl⟩ := qh_4
    refine A_if_eq 37 21 dX10_stopped_18 (by decide) rfl (fun c18 => ?_) (fun c18 => ?_)
    · skip
      try simp only [bI_0, bI_n0, Classical.not_not, Bool.not_eq_false, Bool.true_and, Bool.and_true, decide_eq_true_eq, decide_eq_false_iff_not, dayC_1, dayC_21, dayC_221, dayC_222, inI_1, inI_2, inI_3, inI_5, inI_11, inI_16] at c18
      refine A_aload_n 38 dX10_stopped_37 rfl rfl rfl ?_
      refine A_iconst 39 (-1) dX10_stopped_38 rfl (by decide) ?_
      refine A_callVI 42 (S_X10_refuse_c X l (by first | assumption | decide | omega | exact Ne.symm (by assumption)) (by first | assumption | (unfold CD; decide))) dX10_stopped_39 rfl kX10_refuse lk_X10_121 rfl O28 (by decide) rfl (Nat.le_of_ble_eq_true rfl) (fun v_5 h_5 qh_5 => ?_)
      obtain ⟨rfl, n0h_5, eh_5⟩ := qh_5
      replace O28 := n0h_5
      replace hf : ∀ i, i ≠ 28 → h_5 i = h i := fun i g0 => (eh_5 i g0).trans (hf i g0)
      have ew : wPL x (nI k_p) l0 = -1 := by
        first | (simp only [c10, cl_p, c18, if_true, if_false, ite_true, ite_false, and_true, true_and, and_false, false_and, and_self, or_true, true_or, or_false, false_or, or_self, not_true_eq_false, not_false_eq_true, decide_true, decide_false, Bool.and_true, Bool.true_and, Bool.and_false, Bool.false_and, Bool.and_self, Bool.or_true, Bool.true_or, Bool.or_false, Bool.false_or, Bool.not_true, Bool.not_false, cond_true, cond_false, bI_t, bI_f, Bool.false_eq_true, Bool.true_eq_false, dayC_1, dayC_21, dayC_221, dayC_222, w01, wP, wPL, wP01, wL01, wRow, w01R, wAB, wNum, isP, isL]; done)
      refine A_iret dX10_stopped_42 rfl ⟨_, rfl, (by rw [ew]; exact rV_n (by decide)), _, (by rw [ew]; first | (rw [rS_0]; exact O28) | exact O28), hf⟩
    · skip
      try simp only [bI_0, bI_n0, Classical.not_not, Bool.not_eq_false, Bool.true_and, Bool.and_true, decide_eq_true_eq, decide_eq_false_iff_not, dayC_1, dayC_21, dayC_221, dayC_222, inI_1, inI_2, inI_3, inI_5, inI_11, inI_16] at c18
      obtain ⟨k_l0, rfl, hk_l0⟩ := inN_ex c18 (by omega)
      have cl_l0 : (nI k_l0).toNatClampNeg = k_l0 := nI_clamp (by omega)
      refine A_aload_n 22 dX10_stopped_21 rfl rfl rfl ?_
      refine A_aload_n 23 dX10_stopped_22 rfl rfl rfl ?_
      refine A_getfield 26 dX10_stopped_23 rfl f_X10_22 O28 rfl ?_
      refine A_iload_n 27 dX10_stopped_26 rfl rfl rfl ?_
      refine A_iaload 28 dX10_stopped_27 rfl O28 rfl (by first | assumption | exact ix_nI (by omega) (by decide) | exact ix_lit _ rfl (by omega) (by decide) | exact ix_lit _ rfl (by decide) (by decide)) ?_
      try dsimp only
      refine A_iconst 29 (1) dX10_stopped_28 rfl (by decide) ?_
      refine A_iload_n 30 dX10_stopped_29 rfl rfl rfl ?_
      refine A_ishl 31 dX10_stopped_30 rfl ?_
      rw [sh_one]
      refine A_callVI 34 (S_X10_fewestFor X l (by first | assumption | decide | omega | exact Ne.symm (by assumption)) (by first | assumption | decide | omega | exact Ne.symm (by assumption))) dX10_stopped_31 rfl kX10_fewestFor lk_X10_228 rfl O28 (by decide) rfl (Nat.le_of_ble_eq_true rfl) (fun v_6 h_6 qh_6 => ?_)
      obtain ⟨rfl, z1_6, n0h_6, eh_6⟩ := qh_6
      replace O28 := n0h_6
      replace hf : ∀ i, i ≠ 28 → h_6 i = h i := fun i g0 => (eh_6 i g0).trans (hf i g0)
      refine A_goto 42 dX10_stopped_34 (by decide) ?_
      have ew : wPL x (nI k_p) (nI k_l0) = 0 := by
        first | (simp only [c10, cl_p, c18, cl_l0, if_true, if_false, ite_true, ite_false, and_true, true_and, and_false, false_and, and_self, or_true, true_or, or_false, false_or, or_self, not_true_eq_false, not_false_eq_true, decide_true, decide_false, Bool.and_true, Bool.true_and, Bool.and_false, Bool.false_and, Bool.and_self, Bool.or_true, Bool.true_or, Bool.or_false, Bool.false_or, Bool.not_true, Bool.not_false, cond_true, cond_false, bI_t, bI_f, Bool.false_eq_true, Bool.true_eq_false, dayC_1, dayC_21, dayC_221, dayC_222, w01, wP, wPL, wP01, wL01, wRow, w01R, wAB, wNum, isP, isL]; done)
      refine A_iret dX10_stopped_42 rfl ⟨_, rfl, (by rw [ew, rV_0]; first | (simp only [c10, cl_p, c18, cl_l0, if_true, if_false, ite_true, ite_false, and_true, true_and, and_false, false_and, and_self, or_true, true_or, or_false, false_or, or_self, not_true_eq_false, not_false_eq_true, decide_true, decide_false, Bool.and_true, Bool.true_and, Bool.and_false, Bool.false_and, Bool.and_self, Bool.or_true, Bool.true_or, Bool.or_false, Bool.false_or, Bool.not_true, Bool.not_false, cond_true, cond_false, bI_t, bI_f, Bool.false_eq_true, Bool.true_eq_false, dayC_1, dayC_21, dayC_221, dayC_222, aStop, pk]; done) | (simp [aStop, pk, *]; done)), _, (by rw [ew]; first | (rw [rS_0]; exact O28) | exact O28), hf⟩
set_option maxHeartbeats 4000000 in
set_option maxRecDepth 100000 in
theorem S_X10_allStopped (X : En) (l : Launch) {h : Hp} {x : PW} {c : RC} {z : RZ} (O28 : h 28 = some (rB x (-1) c z)) (hW : WOK x)  {p s0 : Int32} : Ct X l mX10_allStopped [aR 28 0, aI p, aI s0] h (QI (fun vr h2 => (rV (wAllS x p s0) (aAllS x p s0)) = vr ∧ ∃ (z1 : RZ), h2 (28) = some (rB x (-1) (rS (wAllS x p s0) c.1, c.2) z1) ∧ ∀ i, i ≠ 28 → h2 i = h i)) := by
  have hx := hW.1
  have hp := hW.2.1
  have h10 := hx.1
  have hf : ∀ i, i ≠ 28 → h i = h i := fun _ _ => rfl
  refine Ct.intro [some (aR 28 0), some (aI p), some (aI s0), none] (by decide +kernel) rfl (Nat.le_of_ble_eq_true rfl) ?_
  refine A_aload_n 1 dX10_allStopped_0 rfl rfl rfl ?_
  refine A_iconst 2 (0) dX10_allStopped_1 rfl (by decide) ?_
  refine P_X10_9 5 dX10_allStopped_2 rfl fw_X10_78 O28 (fun h_1 nh_1 eh_1 => ?_)
  replace O28 := nh_1
  replace hf : ∀ i, i ≠ 28 → h_1 i = h i := fun i g0 => (eh_1 i g0).trans (hf i g0)
  try dsimp only at O28
  refine A_joinI 30 (fun vj => vj = wAllS x p s0) (fun j30 => ?_) (fun v30 e30 => ?_)
  · skip
    refine A_aload_n 6 dX10_allStopped_5 rfl rfl rfl ?_
    refine A_iload_n 7 dX10_allStopped_6 rfl rfl rfl ?_
    refine A_callVI 10 (S_X10_isOne X l (by first | assumption | decide | omega | exact Ne.symm (by assumption)) (by first | assumption | decide | omega | exact Ne.symm (by assumption))) dX10_allStopped_7 rfl kX10_isOne lk_X10_160 rfl O28 (by decide) rfl (Nat.le_of_ble_eq_true rfl) (fun v_2 h_2 qh_2 => ?_)
    obtain ⟨rfl, rfl⟩ := qh_2
    refine A_if_eq 29 13 dX10_allStopped_10 (by decide) rfl (fun c10 => ?_) (fun c10 => ?_)
    · skip
      try simp only [bI_0, bI_n0, Classical.not_not, Bool.not_eq_false, Bool.true_and, Bool.and_true, decide_eq_true_eq, decide_eq_false_iff_not, dayC_1, dayC_21, dayC_221, dayC_222, inI_1, inI_2, inI_3, inI_5, inI_11, inI_16] at c10
      refine A_iconst 30 (-1) dX10_allStopped_29 rfl (by decide) ?_
      exact j30 _ (by first | (simp only [c10, if_true, if_false, ite_true, ite_false, and_true, true_and, and_false, false_and, and_self, or_true, true_or, or_false, false_or, or_self, not_true_eq_false, not_false_eq_true, decide_true, decide_false, Bool.and_true, Bool.true_and, Bool.and_false, Bool.false_and, Bool.and_self, Bool.or_true, Bool.true_or, Bool.or_false, Bool.false_or, Bool.not_true, Bool.not_false, cond_true, cond_false, bI_t, bI_f, Bool.false_eq_true, Bool.true_eq_false, dayC_1, dayC_21, dayC_221, dayC_222, wAllS, allL, w01, wP, wPL, wP01, wL01, wRow, w01R, wAB, wNum, isP, isL, wrB_N, wrB_0, wrB_1]; done) | (simp only [c10, if_true, if_false, ite_true, ite_false, and_true, true_and, and_false, false_and, and_self, or_true, true_or, or_false, false_or, or_self, not_true_eq_false, not_false_eq_true, decide_true, decide_false, Bool.and_true, Bool.true_and, Bool.and_false, Bool.false_and, Bool.and_self, Bool.or_true, Bool.true_or, Bool.or_false, Bool.false_or, Bool.not_true, Bool.not_false, cond_true, cond_false, bI_t, bI_f, Bool.false_eq_true, Bool.true_eq_false, dayC_1, dayC_21, dayC_221, dayC_222, wrN, wAllS, allL, w01, wP, wPL, wP01, wL01, wRow, w01R, wAB, wNum, isP, isL, wrB_N, wrB_0, wrB_1]; done) | (simp only [c10, if_true, if_false, ite_true, ite_false, and_true, true_and, and_false, false_and, and_self, or_true, true_or, or_false, false_or, or_self, not_true_eq_false, not_false_eq_true, decide_true, decide_false, Bool.and_true, Bool.true_and, Bool.and_false, Bool.false_and, Bool.and_self, Bool.or_true, Bool.true_or, Bool.or_false, Bool.false_or, Bool.not_true, Bool.not_false, cond_true, cond_false, bI_t, bI_f, Bool.false_eq_true, Bool.true_eq_false, dayC_1, dayC_21, dayC_221, dayC_222, wrN, wAllS, allL, w01, wP, wPL, wP01, wL01, wRow, w01R, wAB, wNum, isP, isL, wrB_N, wrB_0, wrB_1]; rfl))
    · skip
      try simp only [bI_0, bI_n0, Classical.not_not, Bool.not_eq_false, Bool.true_and, Bool.and_true, decide_eq_true_eq, decide_eq_false_iff_not, dayC_1, dayC_21, dayC_221, dayC_222, inI_1, inI_2, inI_3, inI_5, inI_11, inI_16] at c10
      refine A_iload_n 14 dX10_allStopped_13 rfl rfl rfl ?_
      refine A_iconst 15 (0) dX10_allStopped_14 rfl (by decide) ?_
      refine A_iconst 16 (1) dX10_allStopped_15 rfl (by decide) ?_
      refine A_aload_n 17 dX10_allStopped_16 rfl rfl rfl ?_
      refine A_getfield 20 dX10_allStopped_17 rfl f_X10_88 O28 rfl ?_
      try dsimp only
      refine A_ishl 21 dX10_allStopped_20 rfl ?_
      refine A_iconst 22 (1) dX10_allStopped_21 rfl (by decide) ?_
      refine A_isub 23 dX10_allStopped_22 rfl ?_
      refine A_callSI 26 (S_X10_wrongNumber X l) dX10_allStopped_23 rfl kX10_wrongNumber lk_X10_213 rfl (by decide) rfl (Nat.le_of_ble_eq_true rfl) (fun v_3 h_3 qh_3 => ?_)
      obtain ⟨rfl, rfl⟩ := qh_3
      refine A_goto 30 dX10_allStopped_26 (by decide) ?_
      exact j30 _ (by first | (simp only [c10, if_true, if_false, ite_true, ite_false, and_true, true_and, and_false, false_and, and_self, or_true, true_or, or_false, false_or, or_self, not_true_eq_false, not_false_eq_true, decide_true, decide_false, Bool.and_true, Bool.true_and, Bool.and_false, Bool.false_and, Bool.and_self, Bool.or_true, Bool.true_or, Bool.or_false, Bool.false_or, Bool.not_true, Bool.not_false, cond_true, cond_false, bI_t, bI_f, Bool.false_eq_true, Bool.true_eq_false, dayC_1, dayC_21, dayC_221, dayC_222, wAllS, allL, w01, wP, wPL, wP01, wL01, wRow, w01R, wAB, wNum, isP, isL, wrB_N, wrB_0, wrB_1]; done) | (simp only [c10, if_true, if_false, ite_true, ite_false, and_true, true_and, and_false, false_and, and_self, or_true, true_or, or_false, false_or, or_self, not_true_eq_false, not_false_eq_true, decide_true, decide_false, Bool.and_true, Bool.true_and, Bool.and_false, Bool.false_and, Bool.and_self, Bool.or_true, Bool.true_or, Bool.or_false, Bool.false_or, Bool.not_true, Bool.not_false, cond_true, cond_false, bI_t, bI_f, Bool.false_eq_true, Bool.true_eq_false, dayC_1, dayC_21, dayC_221, dayC_222, wrN, wAllS, allL, w01, wP, wPL, wP01, wL01, wRow, w01R, wAB, wNum, isP, isL, wrB_N, wrB_0, wrB_1]; done) | (simp only [c10, if_true, if_false, ite_true, ite_false, and_true, true_and, and_false, false_and, and_self, or_true, true_or, or_false, false_or, or_self, not_true_eq_false, not_false_eq_true, decide_true, decide_false, Bool.and_true, Bool.true_and, Bool.and_false, Bool.false_and, Bool.and_self, Bool.or_true, Bool.true_or, Bool.or_false, Bool.false_or, Bool.not_true, Bool.not_false, cond_true, cond_false, bI_t, bI_f, Bool.false_eq_true, Bool.true_eq_false, dayC_1, dayC_21, dayC_221, dayC_222, wrN, wAllS, allL, w01, wP, wPL, wP01, wL01, wRow, w01R, wAB, wNum, isP, isL, wrB_N, wrB_0, wrB_1]; rfl))
  subst e30
  refine A_istore_n 31 dX10_allStopped_30 rfl rfl (by decide) (by first | exact (ast_s (ast_s (ast_1 rfl))) | exact (ast_s (ast_s ast_k))) ?_
  refine A_iload_n 32 dX10_allStopped_31 rfl rfl rfl ?_
  refine A_if_ge 43 35 dX10_allStopped_32 (by decide) rfl (fun c32 => ?_) (fun c32 => ?_)
  · skip
    try simp only [bI_0, bI_n0, Classical.not_not, Bool.not_eq_false, Bool.true_and, Bool.and_true, decide_eq_true_eq, decide_eq_false_iff_not, dayC_1, dayC_21, dayC_221, dayC_222, inI_1, inI_2, inI_3, inI_5, inI_11, inI_16] at c32
    have n32 := c32
    replace c32 := Int32.not_lt.mpr c32
    have hw0 : wAllS x p s0 = 0 := cz_pos wAllS_cz c32
    obtain ⟨f1, f2⟩ := wAllS_0 hw0
    obtain ⟨k_p, rfl, hk_p⟩ := inN_ex f1 (by omega)
    have cl_p : (nI k_p).toNatClampNeg = k_p := nI_clamp (by omega)
    have hk6_p : k_p < 6 := by omega
    refine A_aload_n 44 dX10_allStopped_43 rfl rfl rfl ?_
    refine A_aload_n 45 dX10_allStopped_44 rfl rfl rfl ?_
    refine A_getfield 48 dX10_allStopped_45 rfl f_X10_22 O28 rfl ?_
    refine A_iload_n 49 dX10_allStopped_48 rfl rfl rfl ?_
    refine A_iaload 50 dX10_allStopped_49 rfl O28 rfl (by first | assumption | exact ix_nI (by omega) (by decide) | exact ix_lit _ rfl (by omega) (by decide) | exact ix_lit _ rfl (by decide) (by decide)) ?_
    try dsimp only
    refine A_iload_n 51 dX10_allStopped_50 rfl rfl rfl ?_
    refine A_callVI 54 (S_X10_fewestFor X l (by first | assumption | decide | omega | exact Ne.symm (by assumption)) (by first | assumption | decide | omega | exact Ne.symm (by assumption))) dX10_allStopped_51 rfl kX10_fewestFor lk_X10_228 rfl O28 (by decide) rfl (Nat.le_of_ble_eq_true rfl) (fun v_4 h_4 qh_4 => ?_)
    obtain ⟨rfl, z1_4, n0h_4, eh_4⟩ := qh_4
    replace O28 := n0h_4
    replace hf : ∀ i, i ≠ 28 → h_4 i = h i := fun i g0 => (eh_4 i g0).trans (hf i g0)
    refine A_iret dX10_allStopped_54 rfl ⟨_, rfl, (by rw [hw0, rV_0]; first | (simp only [c32, n32, cl_p, if_true, if_false, ite_true, ite_false, and_true, true_and, and_false, false_and, and_self, or_true, true_or, or_false, false_or, or_self, not_true_eq_false, not_false_eq_true, decide_true, decide_false, Bool.and_true, Bool.true_and, Bool.and_false, Bool.false_and, Bool.and_self, Bool.or_true, Bool.true_or, Bool.or_false, Bool.false_or, Bool.not_true, Bool.not_false, cond_true, cond_false, bI_t, bI_f, Bool.false_eq_true, Bool.true_eq_false, dayC_1, dayC_21, dayC_221, dayC_222, aAllS, pk]; done) | (simp [aAllS, pk, *]; done)), _, (by rw [hw0, rS_0]; exact O28), hf⟩
  · skip
    try simp only [bI_0, bI_n0, Classical.not_not, Bool.not_eq_false, Bool.true_and, Bool.and_true, decide_eq_true_eq, decide_eq_false_iff_not, dayC_1, dayC_21, dayC_221, dayC_222, inI_1, inI_2, inI_3, inI_5, inI_11, inI_16] at c32
    have n32 := c32
    replace c32 := Int32.not_le.mp c32
    have hcd : CD (wAllS x p s0) := cz_neg wAllS_cz c32
    refine A_aload_n 36 dX10_allStopped_35 rfl rfl rfl ?_
    refine A_iload_n 37 dX10_allStopped_36 rfl rfl rfl ?_
    refine A_callVI 40 (S_X10_refuse_c X l (by first | assumption | decide | omega | exact Ne.symm (by assumption)) (by first | assumption | (unfold CD; decide))) dX10_allStopped_37 rfl kX10_refuse lk_X10_121 rfl O28 (by decide) rfl (Nat.le_of_ble_eq_true rfl) (fun v_5 h_5 qh_5 => ?_)
    obtain ⟨rfl, n0h_5, eh_5⟩ := qh_5
    replace O28 := n0h_5
    replace hf : ∀ i, i ≠ 28 → h_5 i = h i := fun i g0 => (eh_5 i g0).trans (hf i g0)
    refine A_goto 54 dX10_allStopped_40 (by decide) ?_
    refine A_iret dX10_allStopped_54 rfl ⟨_, rfl, (by exact rV_n hcd.ne), _, O28, hf⟩
set_option maxHeartbeats 4000000 in
set_option maxRecDepth 100000 in
theorem S_X10_agrees (X : En) (l : Launch) {h : Hp} {x : PW} {c : RC} {z : RZ} (O28 : h 28 = some (rB x (-1) c z)) (hW : WOK x)  {p v : Int32} : Ct X l mX10_agrees [aR 28 0, aI p, aI v] h (QI (fun vr h2 => (rV (wP01 x p v) (aAgr x p v)) = vr ∧ ∃ (z1 : RZ), h2 (28) = some (rB x (-1) (rS (wP01 x p v) c.1, c.2) z1) ∧ ∀ i, i ≠ 28 → h2 i = h i)) := by
  have hx := hW.1
  have hp := hW.2.1
  have h10 := hx.1
  have hf : ∀ i, i ≠ 28 → h i = h i := fun _ _ => rfl
  refine Ct.intro [some (aR 28 0), some (aI p), some (aI v), none, none, none, none, none, none] (by decide +kernel) rfl (Nat.le_of_ble_eq_true rfl) ?_
  refine A_aload_n 1 dX10_agrees_0 rfl rfl rfl ?_
  refine A_iconst 2 (0) dX10_agrees_1 rfl (by decide) ?_
  refine P_X10_9 5 dX10_agrees_2 rfl fw_X10_78 O28 (fun h_1 nh_1 eh_1 => ?_)
  replace O28 := nh_1
  replace hf : ∀ i, i ≠ 28 → h_1 i = h i := fun i g0 => (eh_1 i g0).trans (hf i g0)
  try dsimp only at O28
  refine A_joinI 23 (fun vj => vj = wP01 x p v) (fun j23 => ?_) (fun v23 e23 => ?_)
  · skip
    refine A_aload_n 6 dX10_agrees_5 rfl rfl rfl ?_
    refine A_iload_n 7 dX10_agrees_6 rfl rfl rfl ?_
    refine A_callVI 10 (S_X10_isOne X l (by first | assumption | decide | omega | exact Ne.symm (by assumption)) (by first | assumption | decide | omega | exact Ne.symm (by assumption))) dX10_agrees_7 rfl kX10_isOne lk_X10_160 rfl O28 (by decide) rfl (Nat.le_of_ble_eq_true rfl) (fun v_2 h_2 qh_2 => ?_)
    obtain ⟨rfl, rfl⟩ := qh_2
    refine A_if_eq 22 13 dX10_agrees_10 (by decide) rfl (fun c10 => ?_) (fun c10 => ?_)
    · skip
      try simp only [bI_0, bI_n0, Classical.not_not, Bool.not_eq_false, Bool.true_and, Bool.and_true, decide_eq_true_eq, decide_eq_false_iff_not, dayC_1, dayC_21, dayC_221, dayC_222, inI_1, inI_2, inI_3, inI_5, inI_11, inI_16] at c10
      refine A_iconst 23 (-1) dX10_agrees_22 rfl (by decide) ?_
      exact j23 _ (by first | (simp only [c10, if_true, if_false, ite_true, ite_false, and_true, true_and, and_false, false_and, and_self, or_true, true_or, or_false, false_or, or_self, not_true_eq_false, not_false_eq_true, decide_true, decide_false, Bool.and_true, Bool.true_and, Bool.and_false, Bool.false_and, Bool.and_self, Bool.or_true, Bool.true_or, Bool.or_false, Bool.false_or, Bool.not_true, Bool.not_false, cond_true, cond_false, bI_t, bI_f, Bool.false_eq_true, Bool.true_eq_false, dayC_1, dayC_21, dayC_221, dayC_222, w01, wP, wPL, wP01, wL01, wRow, w01R, wAB, wNum, isP, isL, wrB_N, wrB_0, wrB_1]; done) | (simp only [c10, if_true, if_false, ite_true, ite_false, and_true, true_and, and_false, false_and, and_self, or_true, true_or, or_false, false_or, or_self, not_true_eq_false, not_false_eq_true, decide_true, decide_false, Bool.and_true, Bool.true_and, Bool.and_false, Bool.false_and, Bool.and_self, Bool.or_true, Bool.true_or, Bool.or_false, Bool.false_or, Bool.not_true, Bool.not_false, cond_true, cond_false, bI_t, bI_f, Bool.false_eq_true, Bool.true_eq_false, dayC_1, dayC_21, dayC_221, dayC_222, wrN, w01, wP, wPL, wP01, wL01, wRow, w01R, wAB, wNum, isP, isL, wrB_N, wrB_0, wrB_1]; done) | (simp only [c10, if_true, if_false, ite_true, ite_false, and_true, true_and, and_false, false_and, and_self, or_true, true_or, or_false, false_or, or_self, not_true_eq_false, not_false_eq_true, decide_true, decide_false, Bool.and_true, Bool.true_and, Bool.and_false, Bool.false_and, Bool.and_self, Bool.or_true, Bool.true_or, Bool.or_false, Bool.false_or, Bool.not_true, Bool.not_false, cond_true, cond_false, bI_t, bI_f, Bool.false_eq_true, Bool.true_eq_false, dayC_1, dayC_21, dayC_221, dayC_222, wrN, w01, wP, wPL, wP01, wL01, wRow, w01R, wAB, wNum, isP, isL, wrB_N, wrB_0, wrB_1]; rfl))
    · skip
      try simp only [bI_0, bI_n0, Classical.not_not, Bool.not_eq_false, Bool.true_and, Bool.and_true, decide_eq_true_eq, decide_eq_false_iff_not, dayC_1, dayC_21, dayC_221, dayC_222, inI_1, inI_2, inI_3, inI_5, inI_11, inI_16] at c10
      refine A_iconst 14 (0) dX10_agrees_13 rfl (by decide) ?_
      refine A_iload_n 15 dX10_agrees_14 rfl rfl rfl ?_
      refine A_iconst 16 (1) dX10_agrees_15 rfl (by decide) ?_
      refine A_callSI 19 (S_X10_wrongBit X l) dX10_agrees_16 rfl kX10_wrongBit lk_X10_225 rfl (by decide) rfl (Nat.le_of_ble_eq_true rfl) (fun v_3 h_3 qh_3 => ?_)
      obtain ⟨rfl, rfl⟩ := qh_3
      refine A_goto 23 dX10_agrees_19 (by decide) ?_
      exact j23 _ (by first | (simp only [c10, if_true, if_false, ite_true, ite_false, and_true, true_and, and_false, false_and, and_self, or_true, true_or, or_false, false_or, or_self, not_true_eq_false, not_false_eq_true, decide_true, decide_false, Bool.and_true, Bool.true_and, Bool.and_false, Bool.false_and, Bool.and_self, Bool.or_true, Bool.true_or, Bool.or_false, Bool.false_or, Bool.not_true, Bool.not_false, cond_true, cond_false, bI_t, bI_f, Bool.false_eq_true, Bool.true_eq_false, dayC_1, dayC_21, dayC_221, dayC_222, w01, wP, wPL, wP01, wL01, wRow, w01R, wAB, wNum, isP, isL, wrB_N, wrB_0, wrB_1]; done) | (simp only [c10, if_true, if_false, ite_true, ite_false, and_true, true_and, and_false, false_and, and_self, or_true, true_or, or_false, false_or, or_self, not_true_eq_false, not_false_eq_true, decide_true, decide_false, Bool.and_true, Bool.true_and, Bool.and_false, Bool.false_and, Bool.and_self, Bool.or_true, Bool.true_or, Bool.or_false, Bool.false_or, Bool.not_true, Bool.not_false, cond_true, cond_false, bI_t, bI_f, Bool.false_eq_true, Bool.true_eq_false, dayC_1, dayC_21, dayC_221, dayC_222, wrN, w01, wP, wPL, wP01, wL01, wRow, w01R, wAB, wNum, isP, isL, wrB_N, wrB_0, wrB_1]; done) | (simp only [c10, if_true, if_false, ite_true, ite_false, and_true, true_and, and_false, false_and, and_self, or_true, true_or, or_false, false_or, or_self, not_true_eq_false, not_false_eq_true, decide_true, decide_false, Bool.and_true, Bool.true_and, Bool.and_false, Bool.false_and, Bool.and_self, Bool.or_true, Bool.true_or, Bool.or_false, Bool.false_or, Bool.not_true, Bool.not_false, cond_true, cond_false, bI_t, bI_f, Bool.false_eq_true, Bool.true_eq_false, dayC_1, dayC_21, dayC_221, dayC_222, wrN, w01, wP, wPL, wP01, wL01, wRow, w01R, wAB, wNum, isP, isL, wrB_N, wrB_0, wrB_1]; rfl))
  subst e23
  refine A_istore_n 24 dX10_agrees_23 rfl rfl (by decide) (by first | exact (ast_s (ast_s (ast_1 rfl))) | exact (ast_s (ast_s ast_k))) ?_
  refine A_iload_n 25 dX10_agrees_24 rfl rfl rfl ?_
  refine A_if_ge 34 28 dX10_agrees_25 (by decide) rfl (fun c25 => ?_) (fun c25 => ?_)
  · skip
    try simp only [bI_0, bI_n0, Classical.not_not, Bool.not_eq_false, Bool.true_and, Bool.and_true, decide_eq_true_eq, decide_eq_false_iff_not, dayC_1, dayC_21, dayC_221, dayC_222, inI_1, inI_2, inI_3, inI_5, inI_11, inI_16] at c25
    have n25 := c25
    replace c25 := Int32.not_lt.mpr c25
    have hw0 : wP01 x p v = 0 := cz_pos wP01_cz c25
    obtain ⟨f1, f2⟩ := wP01_0 hw0
    obtain ⟨k_p, rfl, hk_p⟩ := inN_ex f1 (by omega)
    have cl_p : (nI k_p).toNatClampNeg = k_p := nI_clamp (by omega)
    have hk6_p : k_p < 6 := by omega
    refine A_iconst 35 (0) dX10_agrees_34 rfl (by decide) ?_
    refine A_istore 37 dX10_agrees_35 rfl (by decide) (by first | exact (ast_s (ast_s (ast_s (ast_1 rfl)))) | exact (ast_s (ast_s (ast_s ast_k)))) ?_
    refine A_bipush 39 (-9) dX10_agrees_37 rfl (by decide) ?_
    refine A_istore 41 dX10_agrees_39 rfl (by decide) (by first | exact (ast_s (ast_s (ast_s (ast_s (ast_1 rfl))))) | exact (ast_s (ast_s (ast_s (ast_s ast_k))))) ?_
    refine A_iconst 42 (0) dX10_agrees_41 rfl (by decide) ?_
    refine A_istore 44 dX10_agrees_42 rfl (by decide) (by first | exact (ast_s (ast_s (ast_s (ast_s (ast_s (ast_1 rfl)))))) | exact (ast_s (ast_s (ast_s (ast_s (ast_s ast_k)))))) ?_
    have L44 : ∀ (nq i : Nat) (u b : Int32) (g44 : Hp) (z2 : RZ), (nq + i = 256) → (foldN (agF x (x.2.1 k_p)) ((0, -9)) i = (u, b)) → (b = -9 ∨ R8 b) → (g44 28 = some (rB x (-1) c z2)) → (∀ i, i ≠ 28 → g44 i = h i) → Av X l mX10_agrees 44 [some (aR 28 0), some (aI (nI (k_p))), some (aI (v)), none, some (aI (u)), some (aI (b)), some (aI (nI (i))), none, none] [] g44 (QI (fun vr h2 => (rV (wP01 x (nI k_p) v) (aAgr x (nI k_p) v)) = vr ∧ ∃ (z1 : RZ), h2 (28) = some (rB x (-1) (rS (wP01 x (nI k_p) v) c.1, c.2) z1) ∧ ∀ i, i ≠ 28 → h2 i = h i)) := by
      intro nq
      induction nq using Nat.strongRecOn with
      | _ nq ih =>
      intro i u b g44 z2 en ee hy O28 hf
      refine A_iload 46 dX10_agrees_44 rfl rfl ?_
      refine A_sipush 49 (256) dX10_agrees_46 rfl (by decide) ?_
      refine A_icmp_ge 161 52 dX10_agrees_49 (by decide) rfl (fun c49 => ?_) (fun c49 => ?_)
      · skip
        obtain rfl := (up_ge_T (N := 256) c49 rfl (by omega) (by omega)).symm
        refine A_iload_n 162 dX10_agrees_161 rfl rfl rfl ?_
        refine A_if_ne 170 165 dX10_agrees_162 (by decide) rfl (fun c162 => ?_) (fun c162 => ?_)
        · skip
          try simp only [bI_0, bI_n0, Classical.not_not, Bool.not_eq_false, Bool.true_and, Bool.and_true, decide_eq_true_eq, decide_eq_false_iff_not, dayC_1, dayC_21, dayC_221, dayC_222, inI_1, inI_2, inI_3, inI_5, inI_11, inI_16] at c162
          refine A_iload 172 dX10_agrees_170 rfl rfl ?_
          refine A_iret dX10_agrees_172 rfl ⟨_, rfl, (by rw [hw0, rV_0]; unfold aAgr pk; rw [cl_p, ee]; first | rw [if_pos c162] | rw [if_neg c162]), _, (by rw [hw0, rS_0]; exact O28), hf⟩
        · skip
          try simp only [bI_0, bI_n0, Classical.not_not, Bool.not_eq_false, Bool.true_and, Bool.and_true, decide_eq_true_eq, decide_eq_false_iff_not, dayC_1, dayC_21, dayC_221, dayC_222, inI_1, inI_2, inI_3, inI_5, inI_11, inI_16] at c162
          refine A_iload 167 dX10_agrees_165 rfl rfl ?_
          refine A_goto 172 dX10_agrees_167 (by decide) ?_
          refine A_iret dX10_agrees_172 rfl ⟨_, rfl, (by rw [hw0, rV_0]; unfold aAgr pk; rw [cl_p, ee]; first | rw [if_pos c162] | rw [if_neg c162]), _, (by rw [hw0, rS_0]; exact O28), hf⟩
      · skip
        have hi := up_ge_F (N := 256) c49 rfl (by omega) (by omega)
        obtain ⟨n0, rfl⟩ : ∃ q, nq = q + 1 := ⟨nq - 1, by omega⟩
        refine A_iload 54 dX10_agrees_52 rfl rfl ?_
        refine A_aload_n 55 dX10_agrees_54 rfl rfl rfl ?_
        refine A_getfield 58 dX10_agrees_55 rfl f_X10_22 O28 rfl ?_
        refine A_iload_n 59 dX10_agrees_58 rfl rfl rfl ?_
        refine A_iaload 60 dX10_agrees_59 rfl O28 rfl (by first | assumption | exact ix_nI (by omega) (by decide) | exact ix_lit _ rfl (by omega) (by decide) | exact ix_lit _ rfl (by decide) (by decide)) ?_
        try dsimp only
        refine A_iconst 61 (-1) dX10_agrees_60 rfl (by decide) ?_
        refine A_ixor 62 dX10_agrees_61 rfl ?_
        refine A_iand 63 dX10_agrees_62 rfl ?_
        refine A_if_ne 155 66 dX10_agrees_63 (by decide) rfl (fun c63 => ?_) (fun c63 => ?_)
        · skip
          try simp only [bI_0, bI_n0, Classical.not_not, Bool.not_eq_false, Bool.true_and, Bool.and_true, decide_eq_true_eq, decide_eq_false_iff_not, dayC_1, dayC_21, dayC_221, dayC_222, inI_1, inI_2, inI_3, inI_5, inI_11, inI_16] at c63
          first | refine A_iincN 158 dX10_agrees_155 rfl rfl (by decide) (by first | exact (ast_s (ast_s (ast_s (ast_s (ast_s (ast_1 rfl)))))) | exact (ast_s (ast_s (ast_s (ast_s (ast_s ast_k)))))) ?_ | refine A_iinc 158 (1) dX10_agrees_155 rfl rfl (by decide) (by decide) (by first | exact (ast_s (ast_s (ast_s (ast_s (ast_s (ast_1 rfl)))))) | exact (ast_s (ast_s (ast_s (ast_s (ast_s ast_k)))))) ?_
          refine A_goto 44 dX10_agrees_158 (by decide) ?_
          exact A_weak (ih n0 (Nat.lt_succ_self n0) (i + 1) _ _ g44 _ (by omega) ((foldN_s (agF x (x.2.1 k_p)) ((0, -9)) i).trans ((congrArg ((agF x (x.2.1 k_p)) i) ee).trans (by first | with_reducible rfl | (simp only [c25, n25, cl_p, c63, if_true, if_false, ite_true, ite_false, and_true, true_and, and_false, false_and, and_self, or_true, true_or, or_false, false_or, or_self, not_true_eq_false, not_false_eq_true, decide_true, decide_false, Bool.and_true, Bool.true_and, Bool.and_false, Bool.false_and, Bool.and_self, Bool.or_true, Bool.true_or, Bool.or_false, Bool.false_or, Bool.not_true, Bool.not_false, cond_true, cond_false, bI_t, bI_f, Bool.false_eq_true, Bool.true_eq_false, dayC_1, dayC_21, dayC_221, dayC_222, agF, Int32.add_zero]; done) | (with_reducible first | exact absurd c25 c63 | exact absurd c63 c25) | (simp [*, agF, Int32.add_zero]; done) | with_reducible_and_instances rfl))) (by first | exact hy | exact Or.inr ⟨i, hi, rfl⟩) O28 hf) (sub_s (sub_s (sub_s (sub_n (sub_s (sub_s (sub_s (sub_n (sub_n sub_nil)))))))))
        · skip
          try simp only [bI_0, bI_n0, Classical.not_not, Bool.not_eq_false, Bool.true_and, Bool.and_true, decide_eq_true_eq, decide_eq_false_iff_not, dayC_1, dayC_21, dayC_221, dayC_222, inI_1, inI_2, inI_3, inI_5, inI_11, inI_16] at c63
          refine A_aload_n 67 dX10_agrees_66 rfl rfl rfl ?_
          refine A_getfield 70 dX10_agrees_67 rfl f_X10_22 O28 rfl ?_
          refine A_iload_n 71 dX10_agrees_70 rfl rfl rfl ?_
          refine A_iaload 72 dX10_agrees_71 rfl O28 rfl (by first | assumption | exact ix_nI (by omega) (by decide) | exact ix_lit _ rfl (by omega) (by decide) | exact ix_lit _ rfl (by decide) (by decide)) ?_
          try dsimp only
          refine A_iload 74 dX10_agrees_72 rfl rfl ?_
          refine A_iconst 75 (-1) dX10_agrees_74 rfl (by decide) ?_
          refine A_ixor 76 dX10_agrees_75 rfl ?_
          refine A_iand 77 dX10_agrees_76 rfl ?_
          refine A_istore 79 dX10_agrees_77 rfl (by decide) (by first | exact (ast_s (ast_s (ast_s (ast_s (ast_s (ast_s (ast_1 rfl))))))) | exact (ast_s (ast_s (ast_s (ast_s (ast_s (ast_s ast_k))))))) ?_
          refine A_aload_n 80 dX10_agrees_79 rfl rfl rfl ?_
          refine A_iload 82 dX10_agrees_80 rfl rfl ?_
          refine A_callVI 85 (S_X10_goDay_n X l (by first | assumption | decide | omega | exact Ne.symm (by assumption)) (by first | assumption | decide | omega | exact Ne.symm (by assumption))) dX10_agrees_82 rfl kX10_goDay lk_X10_108 rfl O28 (by decide) rfl (Nat.le_of_ble_eq_true rfl) (fun v_4 h_4 qh_4 => ?_)
          obtain ⟨rfl, n0h_4, eh_4⟩ := qh_4
          replace O28 := n0h_4
          replace hf : ∀ i, i ≠ 28 → h_4 i = h i := fun i g0 => (eh_4 i g0).trans (hf i g0)
          refine A_pop 86 dX10_agrees_85 rfl rfl ?_
          refine A_iload 88 dX10_agrees_86 rfl rfl ?_
          refine A_aload_n 89 dX10_agrees_88 rfl rfl rfl ?_
          refine A_getfield 92 dX10_agrees_89 rfl f_X10_35 O28 rfl ?_
          refine A_bipush 94 (11) dX10_agrees_92 rfl (by decide) ?_
          refine A_iaload 95 dX10_agrees_94 rfl O28 rfl (by first | assumption | exact ix_nI (by omega) (by decide) | exact ix_lit _ rfl (by omega) (by decide) | exact ix_lit _ rfl (by decide) (by decide)) ?_
          try dsimp only
          rw [dHas_11]
          refine A_iconst 96 (-1) dX10_agrees_95 rfl (by decide) ?_
          refine A_ixor 97 dX10_agrees_96 rfl ?_
          refine A_iand 98 dX10_agrees_97 rfl ?_
          refine A_if_ne 105 101 dX10_agrees_98 (by decide) rfl (fun c98 => ?_) (fun c98 => ?_)
          · skip
            try simp only [bI_0, bI_n0, Classical.not_not, Bool.not_eq_false, Bool.true_and, Bool.and_true, decide_eq_true_eq, decide_eq_false_iff_not, dayC_1, dayC_21, dayC_221, dayC_222, inI_1, inI_2, inI_3, inI_5, inI_11, inI_16] at c98
            refine A_iconst 106 (0) dX10_agrees_105 rfl (by decide) ?_
            refine A_istore 108 dX10_agrees_106 rfl (by decide) (by first | exact (ast_s (ast_s (ast_s (ast_s (ast_s (ast_s (ast_s (ast_1 rfl)))))))) | exact (ast_s (ast_s (ast_s (ast_s (ast_s (ast_s (ast_s ast_k)))))))) ?_
            refine A_iload 110 dX10_agrees_108 rfl rfl ?_
            refine A_iload 112 dX10_agrees_110 rfl rfl ?_
            refine A_if_eq 119 115 dX10_agrees_112 (by decide) rfl (fun c112 => ?_) (fun c112 => ?_)
            · skip
              refine A_iconst 120 (0) dX10_agrees_119 rfl (by decide) ?_
              refine A_iadd 121 dX10_agrees_120 rfl ?_
              refine A_istore 123 dX10_agrees_121 rfl (by decide) (by first | exact (ast_s (ast_s (ast_s (ast_1 rfl)))) | exact (ast_s (ast_s (ast_s ast_k)))) ?_
              refine A_iload 125 dX10_agrees_123 rfl rfl ?_
              refine A_if_eq 151 128 dX10_agrees_125 (by decide) rfl (fun c125 => ?_) (fun c125 => ?_)
              · skip
                refine A_iload 153 dX10_agrees_151 rfl rfl ?_
                refine A_istore 155 dX10_agrees_153 rfl (by decide) (by first | exact (ast_s (ast_s (ast_s (ast_s (ast_1 rfl))))) | exact (ast_s (ast_s (ast_s (ast_s ast_k))))) ?_
                first | refine A_iincN 158 dX10_agrees_155 rfl rfl (by decide) (by first | exact (ast_s (ast_s (ast_s (ast_s (ast_s (ast_1 rfl)))))) | exact (ast_s (ast_s (ast_s (ast_s (ast_s ast_k)))))) ?_ | refine A_iinc 158 (1) dX10_agrees_155 rfl rfl (by decide) (by decide) (by first | exact (ast_s (ast_s (ast_s (ast_s (ast_s (ast_1 rfl)))))) | exact (ast_s (ast_s (ast_s (ast_s (ast_s ast_k)))))) ?_
                refine A_goto 44 dX10_agrees_158 (by decide) ?_
                exact A_weak (ih n0 (Nat.lt_succ_self n0) (i + 1) _ _ h_4 _ (by omega) ((foldN_s (agF x (x.2.1 k_p)) ((0, -9)) i).trans ((congrArg ((agF x (x.2.1 k_p)) i) ee).trans (by first | with_reducible rfl | (simp only [c25, n25, cl_p, c63, c98, if_true, if_false, ite_true, ite_false, and_true, true_and, and_false, false_and, and_self, or_true, true_or, or_false, false_or, or_self, not_true_eq_false, not_false_eq_true, decide_true, decide_false, Bool.and_true, Bool.true_and, Bool.and_false, Bool.false_and, Bool.and_self, Bool.or_true, Bool.true_or, Bool.or_false, Bool.false_or, Bool.not_true, Bool.not_false, cond_true, cond_false, bI_t, bI_f, Bool.false_eq_true, Bool.true_eq_false, dayC_1, dayC_21, dayC_221, dayC_222, agF, Int32.add_zero]; done) | (simp only [c25, n25, cl_p, eq_true c63, c98, if_true, if_false, ite_true, ite_false, and_true, true_and, and_false, false_and, and_self, or_true, true_or, or_false, false_or, or_self, not_true_eq_false, not_false_eq_true, decide_true, decide_false, Bool.and_true, Bool.true_and, Bool.and_false, Bool.false_and, Bool.and_self, Bool.or_true, Bool.true_or, Bool.or_false, Bool.false_or, Bool.not_true, Bool.not_false, cond_true, cond_false, bI_t, bI_f, Bool.false_eq_true, Bool.true_eq_false, dayC_1, dayC_21, dayC_221, dayC_222, agF, Int32.add_zero]; done) | (with_reducible first | exact absurd c25 c63 | exact absurd c25 c98 | exact absurd c63 c25 | exact absurd c63 c98 | exact absurd c98 c25 | exact absurd c98 c63) | (simp [*, agF, Int32.add_zero]; done) | with_reducible_and_instances rfl))) (by first | exact hy | exact Or.inr ⟨i, hi, rfl⟩) O28 hf) (sub_s (sub_s (sub_s (sub_n (sub_s (sub_s (sub_s (sub_n (sub_n sub_nil)))))))))
              · skip
                exact absurd c125 (by decide)
            · skip
              exact absurd c112 (by decide)
          · skip
            try simp only [bI_0, bI_n0, Classical.not_not, Bool.not_eq_false, Bool.true_and, Bool.and_true, decide_eq_true_eq, decide_eq_false_iff_not, dayC_1, dayC_21, dayC_221, dayC_222, inI_1, inI_2, inI_3, inI_5, inI_11, inI_16] at c98
            refine A_iconst 102 (1) dX10_agrees_101 rfl (by decide) ?_
            refine A_goto 106 dX10_agrees_102 (by decide) ?_
            refine A_istore 108 dX10_agrees_106 rfl (by decide) (by first | exact (ast_s (ast_s (ast_s (ast_s (ast_s (ast_s (ast_s (ast_1 rfl)))))))) | exact (ast_s (ast_s (ast_s (ast_s (ast_s (ast_s (ast_s ast_k)))))))) ?_
            refine A_iload 110 dX10_agrees_108 rfl rfl ?_
            refine A_iload 112 dX10_agrees_110 rfl rfl ?_
            refine A_if_eq 119 115 dX10_agrees_112 (by decide) rfl (fun c112 => ?_) (fun c112 => ?_)
            · skip
              exact absurd c112 (by decide)
            · skip
              refine A_iconst 116 (1) dX10_agrees_115 rfl (by decide) ?_
              refine A_goto 120 dX10_agrees_116 (by decide) ?_
              refine A_iadd 121 dX10_agrees_120 rfl ?_
              refine A_istore 123 dX10_agrees_121 rfl (by decide) (by first | exact (ast_s (ast_s (ast_s (ast_1 rfl)))) | exact (ast_s (ast_s (ast_s ast_k)))) ?_
              refine A_iload 125 dX10_agrees_123 rfl rfl ?_
              refine A_if_eq 151 128 dX10_agrees_125 (by decide) rfl (fun c125 => ?_) (fun c125 => ?_)
              · skip
                exact absurd c125 (by decide)
              · skip
                refine A_iload 130 dX10_agrees_128 rfl rfl ?_
                refine A_if_lt 146 133 dX10_agrees_130 (by decide) rfl (fun c130 => ?_) (fun c130 => ?_)
                · skip
                  try simp only [bI_0, bI_n0, Classical.not_not, Bool.not_eq_false, Bool.true_and, Bool.and_true, decide_eq_true_eq, decide_eq_false_iff_not, dayC_1, dayC_21, dayC_221, dayC_222, inI_1, inI_2, inI_3, inI_5, inI_11, inI_16] at c130
                  have n130 := Int32.not_le.mpr c130
                  have cl_9 : b = -9 := neg9 hy c130
                  refine A_iload 148 dX10_agrees_146 rfl rfl ?_
                  refine A_goto 153 dX10_agrees_148 (by decide) ?_
                  refine A_istore 155 dX10_agrees_153 rfl (by decide) (by first | exact (ast_s (ast_s (ast_s (ast_s (ast_1 rfl))))) | exact (ast_s (ast_s (ast_s (ast_s ast_k))))) ?_
                  first | refine A_iincN 158 dX10_agrees_155 rfl rfl (by decide) (by first | exact (ast_s (ast_s (ast_s (ast_s (ast_s (ast_1 rfl)))))) | exact (ast_s (ast_s (ast_s (ast_s (ast_s ast_k)))))) ?_ | refine A_iinc 158 (1) dX10_agrees_155 rfl rfl (by decide) (by decide) (by first | exact (ast_s (ast_s (ast_s (ast_s (ast_s (ast_1 rfl)))))) | exact (ast_s (ast_s (ast_s (ast_s (ast_s ast_k)))))) ?_
                  refine A_goto 44 dX10_agrees_158 (by decide) ?_
                  exact A_weak (ih n0 (Nat.lt_succ_self n0) (i + 1) _ _ h_4 _ (by omega) ((foldN_s (agF x (x.2.1 k_p)) ((0, -9)) i).trans ((congrArg ((agF x (x.2.1 k_p)) i) ee).trans (by first | with_reducible rfl | (simp only [c25, n25, cl_p, c63, c98, c130, n130, cl_9, if_true, if_false, ite_true, ite_false, and_true, true_and, and_false, false_and, and_self, or_true, true_or, or_false, false_or, or_self, not_true_eq_false, not_false_eq_true, decide_true, decide_false, Bool.and_true, Bool.true_and, Bool.and_false, Bool.false_and, Bool.and_self, Bool.or_true, Bool.true_or, Bool.or_false, Bool.false_or, Bool.not_true, Bool.not_false, cond_true, cond_false, bI_t, bI_f, Bool.false_eq_true, Bool.true_eq_false, dayC_1, dayC_21, dayC_221, dayC_222, agF, Int32.add_zero]; done) | (simp only [c25, n25, cl_p, eq_true c63, eq_true c98, c130, n130, cl_9, if_true, if_false, ite_true, ite_false, and_true, true_and, and_false, false_and, and_self, or_true, true_or, or_false, false_or, or_self, not_true_eq_false, not_false_eq_true, decide_true, decide_false, Bool.and_true, Bool.true_and, Bool.and_false, Bool.false_and, Bool.and_self, Bool.or_true, Bool.true_or, Bool.or_false, Bool.false_or, Bool.not_true, Bool.not_false, cond_true, cond_false, bI_t, bI_f, Bool.false_eq_true, Bool.true_eq_false, dayC_1, dayC_21, dayC_221, dayC_222, agF, Int32.add_zero]; done) | (with_reducible first | exact absurd c25 c63 | exact absurd c25 c98 | exact absurd c25 c130 | exact absurd c63 c25 | exact absurd c63 c98 | exact absurd c63 c130 | exact absurd c98 c25 | exact absurd c98 c63 | exact absurd c98 c130 | exact absurd c130 c25 | exact absurd c130 c63 | exact absurd c130 c98) | (simp [*, agF, Int32.add_zero]; done) | with_reducible_and_instances rfl))) (by first | exact hy | exact Or.inr ⟨i, hi, rfl⟩) O28 hf) (sub_s (sub_s (sub_s (sub_n (sub_s (sub_s (sub_s (sub_n (sub_n sub_nil)))))))))
                · skip
                  try simp only [bI_0, bI_n0, Classical.not_not, Bool.not_eq_false, Bool.true_and, Bool.and_true, decide_eq_true_eq, decide_eq_false_iff_not, dayC_1, dayC_21, dayC_221, dayC_222, inI_1, inI_2, inI_3, inI_5, inI_11, inI_16] at c130
                  have n130 := Int32.not_lt.mp c130
                  have cl_9 : ¬ b = -9 := (pos9 hy c130).1
                  have hR9 := (pos9 hy c130).2
                  refine A_iload 135 dX10_agrees_133 rfl rfl ?_
                  refine A_callSI 138 (S_X10_onesOf_r X l (by first | assumption | exact R10.nI (by omega) | exact dDone_R (by assumption) _ _ | exact R8.r10 (by assumption))) dX10_agrees_135 rfl kX10_onesOf lk_X10_112 rfl (by decide) rfl (Nat.le_of_ble_eq_true rfl) (fun v_5 h_5 qh_5 => ?_)
                  obtain ⟨rfl, rfl⟩ := qh_5
                  refine A_iload 140 dX10_agrees_138 rfl rfl ?_
                  refine A_callSI 143 (S_X10_onesOf_r X l (by first | assumption | exact R10.nI (by omega) | exact dDone_R (by assumption) _ _ | exact R8.r10 (by assumption))) dX10_agrees_140 rfl kX10_onesOf lk_X10_112 rfl (by decide) rfl (Nat.le_of_ble_eq_true rfl) (fun v_6 h_6 qh_6 => ?_)
                  obtain ⟨rfl, rfl⟩ := qh_6
                  refine A_icmp_ge 151 146 dX10_agrees_143 (by decide) rfl (fun c143 => ?_) (fun c143 => ?_)
                  · skip
                    try simp only [bI_0, bI_n0, Classical.not_not, Bool.not_eq_false, Bool.true_and, Bool.and_true, decide_eq_true_eq, decide_eq_false_iff_not, dayC_1, dayC_21, dayC_221, dayC_222, inI_1, inI_2, inI_3, inI_5, inI_11, inI_16] at c143
                    have n143 := c143
                    replace c143 := Int32.not_lt.mpr c143
                    refine A_iload 153 dX10_agrees_151 rfl rfl ?_
                    refine A_istore 155 dX10_agrees_153 rfl (by decide) (by first | exact (ast_s (ast_s (ast_s (ast_s (ast_1 rfl))))) | exact (ast_s (ast_s (ast_s (ast_s ast_k))))) ?_
                    first | refine A_iincN 158 dX10_agrees_155 rfl rfl (by decide) (by first | exact (ast_s (ast_s (ast_s (ast_s (ast_s (ast_1 rfl)))))) | exact (ast_s (ast_s (ast_s (ast_s (ast_s ast_k)))))) ?_ | refine A_iinc 158 (1) dX10_agrees_155 rfl rfl (by decide) (by decide) (by first | exact (ast_s (ast_s (ast_s (ast_s (ast_s (ast_1 rfl)))))) | exact (ast_s (ast_s (ast_s (ast_s (ast_s ast_k)))))) ?_
                    refine A_goto 44 dX10_agrees_158 (by decide) ?_
                    exact A_weak (ih n0 (Nat.lt_succ_self n0) (i + 1) _ _ h_4 _ (by omega) ((foldN_s (agF x (x.2.1 k_p)) ((0, -9)) i).trans ((congrArg ((agF x (x.2.1 k_p)) i) ee).trans (by first | with_reducible rfl | (simp only [c25, n25, cl_p, c63, c98, c130, n130, cl_9, c143, n143, if_true, if_false, ite_true, ite_false, and_true, true_and, and_false, false_and, and_self, or_true, true_or, or_false, false_or, or_self, not_true_eq_false, not_false_eq_true, decide_true, decide_false, Bool.and_true, Bool.true_and, Bool.and_false, Bool.false_and, Bool.and_self, Bool.or_true, Bool.true_or, Bool.or_false, Bool.false_or, Bool.not_true, Bool.not_false, cond_true, cond_false, bI_t, bI_f, Bool.false_eq_true, Bool.true_eq_false, dayC_1, dayC_21, dayC_221, dayC_222, agF, Int32.add_zero]; done) | (simp only [c25, n25, cl_p, eq_true c63, eq_true c98, c130, n130, cl_9, c143, n143, if_true, if_false, ite_true, ite_false, and_true, true_and, and_false, false_and, and_self, or_true, true_or, or_false, false_or, or_self, not_true_eq_false, not_false_eq_true, decide_true, decide_false, Bool.and_true, Bool.true_and, Bool.and_false, Bool.false_and, Bool.and_self, Bool.or_true, Bool.true_or, Bool.or_false, Bool.false_or, Bool.not_true, Bool.not_false, cond_true, cond_false, bI_t, bI_f, Bool.false_eq_true, Bool.true_eq_false, dayC_1, dayC_21, dayC_221, dayC_222, agF, Int32.add_zero]; done) | (with_reducible first | exact absurd c25 c63 | exact absurd c25 c98 | exact absurd c25 c130 | exact absurd c25 c143 | exact absurd c63 c25 | exact absurd c63 c98 | exact absurd c63 c130 | exact absurd c63 c143 | exact absurd c98 c25 | exact absurd c98 c63 | exact absurd c98 c130 | exact absurd c98 c143 | exact absurd c130 c25 | exact absurd c130 c63 | exact absurd c130 c98 | exact absurd c130 c143 | exact absurd c143 c25 | exact absurd c143 c63 | exact absurd c143 c98 | exact absurd c143 c130) | (simp [*, agF, Int32.add_zero]; done) | with_reducible_and_instances rfl))) (by first | exact hy | exact Or.inr ⟨i, hi, rfl⟩) O28 hf) (sub_s (sub_s (sub_s (sub_n (sub_s (sub_s (sub_s (sub_n (sub_n sub_nil)))))))))
                  · skip
                    try simp only [bI_0, bI_n0, Classical.not_not, Bool.not_eq_false, Bool.true_and, Bool.and_true, decide_eq_true_eq, decide_eq_false_iff_not, dayC_1, dayC_21, dayC_221, dayC_222, inI_1, inI_2, inI_3, inI_5, inI_11, inI_16] at c143
                    have n143 := c143
                    replace c143 := Int32.not_le.mp c143
                    refine A_iload 148 dX10_agrees_146 rfl rfl ?_
                    refine A_goto 153 dX10_agrees_148 (by decide) ?_
                    refine A_istore 155 dX10_agrees_153 rfl (by decide) (by first | exact (ast_s (ast_s (ast_s (ast_s (ast_1 rfl))))) | exact (ast_s (ast_s (ast_s (ast_s ast_k))))) ?_
                    first | refine A_iincN 158 dX10_agrees_155 rfl rfl (by decide) (by first | exact (ast_s (ast_s (ast_s (ast_s (ast_s (ast_1 rfl)))))) | exact (ast_s (ast_s (ast_s (ast_s (ast_s ast_k)))))) ?_ | refine A_iinc 158 (1) dX10_agrees_155 rfl rfl (by decide) (by decide) (by first | exact (ast_s (ast_s (ast_s (ast_s (ast_s (ast_1 rfl)))))) | exact (ast_s (ast_s (ast_s (ast_s (ast_s ast_k)))))) ?_
                    refine A_goto 44 dX10_agrees_158 (by decide) ?_
                    exact A_weak (ih n0 (Nat.lt_succ_self n0) (i + 1) _ _ h_4 _ (by omega) ((foldN_s (agF x (x.2.1 k_p)) ((0, -9)) i).trans ((congrArg ((agF x (x.2.1 k_p)) i) ee).trans (by first | with_reducible rfl | (simp only [c25, n25, cl_p, c63, c98, c130, n130, cl_9, c143, n143, if_true, if_false, ite_true, ite_false, and_true, true_and, and_false, false_and, and_self, or_true, true_or, or_false, false_or, or_self, not_true_eq_false, not_false_eq_true, decide_true, decide_false, Bool.and_true, Bool.true_and, Bool.and_false, Bool.false_and, Bool.and_self, Bool.or_true, Bool.true_or, Bool.or_false, Bool.false_or, Bool.not_true, Bool.not_false, cond_true, cond_false, bI_t, bI_f, Bool.false_eq_true, Bool.true_eq_false, dayC_1, dayC_21, dayC_221, dayC_222, agF, Int32.add_zero]; done) | (simp only [c25, n25, cl_p, eq_true c63, eq_true c98, c130, n130, cl_9, c143, n143, if_true, if_false, ite_true, ite_false, and_true, true_and, and_false, false_and, and_self, or_true, true_or, or_false, false_or, or_self, not_true_eq_false, not_false_eq_true, decide_true, decide_false, Bool.and_true, Bool.true_and, Bool.and_false, Bool.false_and, Bool.and_self, Bool.or_true, Bool.true_or, Bool.or_false, Bool.false_or, Bool.not_true, Bool.not_false, cond_true, cond_false, bI_t, bI_f, Bool.false_eq_true, Bool.true_eq_false, dayC_1, dayC_21, dayC_221, dayC_222, agF, Int32.add_zero]; done) | (with_reducible first | exact absurd c25 c63 | exact absurd c25 c98 | exact absurd c25 c130 | exact absurd c25 c143 | exact absurd c63 c25 | exact absurd c63 c98 | exact absurd c63 c130 | exact absurd c63 c143 | exact absurd c98 c25 | exact absurd c98 c63 | exact absurd c98 c130 | exact absurd c98 c143 | exact absurd c130 c25 | exact absurd c130 c63 | exact absurd c130 c98 | exact absurd c130 c143 | exact absurd c143 c25 | exact absurd c143 c63 | exact absurd c143 c98 | exact absurd c143 c130) | (simp [*, agF, Int32.add_zero]; done) | with_reducible_and_instances rfl))) (by first | exact hy | exact Or.inr ⟨i, hi, rfl⟩) O28 hf) (sub_s (sub_s (sub_s (sub_n (sub_s (sub_s (sub_s (sub_n (sub_n sub_nil)))))))))
    exact A_weak (L44 (256) (0) (_) (_) h_1 (_) (by omega) (rfl) (Or.inl rfl) O28 hf) (sub_s (sub_s (sub_s (sub_n (sub_s (sub_s (sub_s (sub_n (sub_n sub_nil)))))))))
  · skip
    try simp only [bI_0, bI_n0, Classical.not_not, Bool.not_eq_false, Bool.true_and, Bool.and_true, decide_eq_true_eq, decide_eq_false_iff_not, dayC_1, dayC_21, dayC_221, dayC_222, inI_1, inI_2, inI_3, inI_5, inI_11, inI_16] at c25
    have n25 := c25
    replace c25 := Int32.not_le.mp c25
    have hcd : CD (wP01 x p v) := cz_neg wP01_cz c25
    refine A_aload_n 29 dX10_agrees_28 rfl rfl rfl ?_
    refine A_iload_n 30 dX10_agrees_29 rfl rfl rfl ?_
    refine A_callVI 33 (S_X10_refuse_c X l (by first | assumption | decide | omega | exact Ne.symm (by assumption)) (by first | assumption | (unfold CD; decide))) dX10_agrees_30 rfl kX10_refuse lk_X10_121 rfl O28 (by decide) rfl (Nat.le_of_ble_eq_true rfl) (fun v_7 h_7 qh_7 => ?_)
    obtain ⟨rfl, n0h_7, eh_7⟩ := qh_7
    replace O28 := n0h_7
    replace hf : ∀ i, i ≠ 28 → h_7 i = h i := fun i g0 => (eh_7 i g0).trans (hf i g0)
    refine A_iret dX10_agrees_33 rfl ⟨_, rfl, (by exact rV_n hcd.ne), _, O28, hf⟩
set_option maxHeartbeats 4000000 in
set_option maxRecDepth 100000 in
theorem S_X10_bring (X : En) (l : Launch) {h : Hp} {x : PW} {c : RC} {z : RZ} (O28 : h 28 = some (rB x (-1) c z)) (hW : WOK x)  {p l0 : Int32} : Ct X l mX10_bring [aR 28 0, aI p, aI l0] h (QI (fun vr h2 => (rV (wPL x p l0) (aBring x p l0)) = vr ∧ ∃ (z1 : RZ), h2 (28) = some (rB x (-1) (rS (wPL x p l0) c.1, c.2) z1) ∧ ∀ i, i ≠ 28 → h2 i = h i)) := by
  have hx := hW.1
  have hp := hW.2.1
  have h10 := hx.1
  have hf : ∀ i, i ≠ 28 → h i = h i := fun _ _ => rfl
  refine Ct.intro [some (aR 28 0), some (aI p), some (aI l0), none, none] (by decide +kernel) rfl (Nat.le_of_ble_eq_true rfl) ?_
  refine A_aload_n 1 dX10_bring_0 rfl rfl rfl ?_
  refine A_iconst 2 (0) dX10_bring_1 rfl (by decide) ?_
  refine P_X10_9 5 dX10_bring_2 rfl fw_X10_78 O28 (fun h_1 nh_1 eh_1 => ?_)
  replace O28 := nh_1
  replace hf : ∀ i, i ≠ 28 → h_1 i = h i := fun i g0 => (eh_1 i g0).trans (hf i g0)
  try dsimp only at O28
  refine A_aload_n 6 dX10_bring_5 rfl rfl rfl ?_
  refine A_iload_n 7 dX10_bring_6 rfl rfl rfl ?_
  refine A_callVI 10 (S_X10_isOne X l (by first | assumption | decide | omega | exact Ne.symm (by assumption)) (by first | assumption | decide | omega | exact Ne.symm (by assumption))) dX10_bring_7 rfl kX10_isOne lk_X10_160 rfl O28 (by decide) rfl (Nat.le_of_ble_eq_true rfl) (fun v_2 h_2 qh_2 => ?_)
  obtain ⟨rfl, rfl⟩ := qh_2
  refine A_if_eq 21 13 dX10_bring_10 (by decide) rfl (fun c10 => ?_) (fun c10 => ?_)
  · skip
    try simp only [bI_0, bI_n0, Classical.not_not, Bool.not_eq_false, Bool.true_and, Bool.and_true, decide_eq_true_eq, decide_eq_false_iff_not, dayC_1, dayC_21, dayC_221, dayC_222, inI_1, inI_2, inI_3, inI_5, inI_11, inI_16] at c10
    refine A_aload_n 22 dX10_bring_21 rfl rfl rfl ?_
    refine A_iconst 23 (-1) dX10_bring_22 rfl (by decide) ?_
    refine A_callVI 26 (S_X10_refuse_c X l (by first | assumption | decide | omega | exact Ne.symm (by assumption)) (by first | assumption | (unfold CD; decide))) dX10_bring_23 rfl kX10_refuse lk_X10_121 rfl O28 (by decide) rfl (Nat.le_of_ble_eq_true rfl) (fun v_3 h_3 qh_3 => ?_)
    obtain ⟨rfl, n0h_3, eh_3⟩ := qh_3
    replace O28 := n0h_3
    replace hf : ∀ i, i ≠ 28 → h_3 i = h i := fun i g0 => (eh_3 i g0).trans (hf i g0)
    have ew : wPL x p l0 = -1 := by
      first | (simp only [c10, if_true, if_false, ite_true, ite_false, and_true, true_and, and_false, false_and, and_self, or_true, true_or, or_false, false_or, or_self, not_true_eq_false, not_false_eq_true, decide_true, decide_false, Bool.and_true, Bool.true_and, Bool.and_false, Bool.false_and, Bool.and_self, Bool.or_true, Bool.true_or, Bool.or_false, Bool.false_or, Bool.not_true, Bool.not_false, cond_true, cond_false, bI_t, bI_f, Bool.false_eq_true, Bool.true_eq_false, dayC_1, dayC_21, dayC_221, dayC_222, w01, wP, wPL, wP01, wL01, wRow, w01R, wAB, wNum, isP, isL]; done)
    refine A_iret dX10_bring_26 rfl ⟨_, rfl, (by rw [ew]; exact rV_n (by decide)), _, (by rw [ew]; first | (rw [rS_0]; exact O28) | exact O28), hf⟩
  · skip
    try simp only [bI_0, bI_n0, Classical.not_not, Bool.not_eq_false, Bool.true_and, Bool.and_true, decide_eq_true_eq, decide_eq_false_iff_not, dayC_1, dayC_21, dayC_221, dayC_222, inI_1, inI_2, inI_3, inI_5, inI_11, inI_16] at c10
    obtain ⟨k_p, rfl, hk_p⟩ := inN_ex c10 (by omega)
    have cl_p : (nI k_p).toNatClampNeg = k_p := nI_clamp (by omega)
    refine A_aload_n 14 dX10_bring_13 rfl rfl rfl ?_
    refine A_iload_n 15 dX10_bring_14 rfl rfl rfl ?_
    refine A_callVI 18 (S_X10_isLaw X l (by first | assumption | decide | omega | exact Ne.symm (by assumption)) (by first | assumption | decide | omega | exact Ne.symm (by assumption))) dX10_bring_15 rfl kX10_isLaw lk_X10_206 rfl O28 (by decide) rfl (Nat.le_of_ble_eq_true rfl) (fun v_4 h_4 qh_4 => ?_)
    obtain ⟨rfl, rfl⟩ := qh_4
    refine A_if_ne 27 21 dX10_bring_18 (by decide) rfl (fun c18 => ?_) (fun c18 => ?_)
    · skip
      try simp only [bI_0, bI_n0, Classical.not_not, Bool.not_eq_false, Bool.true_and, Bool.and_true, decide_eq_true_eq, decide_eq_false_iff_not, dayC_1, dayC_21, dayC_221, dayC_222, inI_1, inI_2, inI_3, inI_5, inI_11, inI_16] at c18
      obtain ⟨k_l0, rfl, hk_l0⟩ := inN_ex c18 (by omega)
      have cl_l0 : (nI k_l0).toNatClampNeg = k_l0 := nI_clamp (by omega)
      refine A_bipush 29 (-9) dX10_bring_27 rfl (by decide) ?_
      refine A_istore_n 30 dX10_bring_29 rfl rfl (by decide) (by first | exact (ast_s (ast_s (ast_1 rfl))) | exact (ast_s (ast_s ast_k))) ?_
      refine A_iconst 31 (0) dX10_bring_30 rfl (by decide) ?_
      refine A_istore 33 dX10_bring_31 rfl (by decide) (by first | exact (ast_s (ast_s (ast_s (ast_1 rfl)))) | exact (ast_s (ast_s (ast_s ast_k)))) ?_
      have L33 : ∀ (nq i : Nat) (u : Int32) (g33 : Hp) (z2 : RZ), (nq + i = 256) → (foldN (fbF x (x.2.1 k_p) (nI k_l0)) (-9) i = (u)) → (u = -9 ∨ R8 u) → (g33 28 = some (rB x (-1) c z2)) → (∀ i, i ≠ 28 → g33 i = h i) → Av X l mX10_bring 33 [some (aR 28 0), some (aI (nI (k_p))), some (aI (nI (k_l0))), some (aI (u)), some (aI (nI (i)))] [] g33 (QI (fun vr h2 => (rV (wPL x (nI k_p) (nI k_l0)) (aBring x (nI k_p) (nI k_l0))) = vr ∧ ∃ (z1 : RZ), h2 (28) = some (rB x (-1) (rS (wPL x (nI k_p) (nI k_l0)) c.1, c.2) z1) ∧ ∀ i, i ≠ 28 → h2 i = h i)) := by
        intro nq
        induction nq using Nat.strongRecOn with
        | _ nq ih =>
        intro i u g33 z2 en ee hy O28 hf
        refine A_iload 35 dX10_bring_33 rfl rfl ?_
        refine A_sipush 38 (256) dX10_bring_35 rfl (by decide) ?_
        refine A_icmp_ge 102 41 dX10_bring_38 (by decide) rfl (fun c38 => ?_) (fun c38 => ?_)
        · skip
          obtain rfl := (up_ge_T (N := 256) c38 rfl (by omega) (by omega)).symm
          refine A_iload_n 103 dX10_bring_102 rfl rfl rfl ?_
          have ew : wPL x (nI k_p) (nI k_l0) = 0 := by
            first | (simp only [c10, cl_p, c18, cl_l0, if_true, if_false, ite_true, ite_false, and_true, true_and, and_false, false_and, and_self, or_true, true_or, or_false, false_or, or_self, not_true_eq_false, not_false_eq_true, decide_true, decide_false, Bool.and_true, Bool.true_and, Bool.and_false, Bool.false_and, Bool.and_self, Bool.or_true, Bool.true_or, Bool.or_false, Bool.false_or, Bool.not_true, Bool.not_false, cond_true, cond_false, bI_t, bI_f, Bool.false_eq_true, Bool.true_eq_false, dayC_1, dayC_21, dayC_221, dayC_222, w01, wP, wPL, wP01, wL01, wRow, w01R, wAB, wNum, isP, isL]; done)
          refine A_iret dX10_bring_103 rfl ⟨_, rfl, (by rw [ew, rV_0]; unfold aBring pk; rw [cl_p, ee]), _, (by rw [ew]; first | (rw [rS_0]; exact O28) | exact O28), hf⟩
        · skip
          have hi := up_ge_F (N := 256) c38 rfl (by omega) (by omega)
          obtain ⟨n0, rfl⟩ : ∃ q, nq = q + 1 := ⟨nq - 1, by omega⟩
          refine A_iload 43 dX10_bring_41 rfl rfl ?_
          refine A_aload_n 44 dX10_bring_43 rfl rfl rfl ?_
          refine A_getfield 47 dX10_bring_44 rfl f_X10_22 O28 rfl ?_
          refine A_iload_n 48 dX10_bring_47 rfl rfl rfl ?_
          refine A_iaload 49 dX10_bring_48 rfl O28 rfl (by first | assumption | exact ix_nI (by omega) (by decide) | exact ix_lit _ rfl (by omega) (by decide) | exact ix_lit _ rfl (by decide) (by decide)) ?_
          try dsimp only
          refine A_iand 50 dX10_bring_49 rfl ?_
          refine A_if_ne 96 53 dX10_bring_50 (by decide) rfl (fun c50 => ?_) (fun c50 => ?_)
          · skip
            try simp only [bI_0, bI_n0, Classical.not_not, Bool.not_eq_false, Bool.true_and, Bool.and_true, decide_eq_true_eq, decide_eq_false_iff_not, dayC_1, dayC_21, dayC_221, dayC_222, inI_1, inI_2, inI_3, inI_5, inI_11, inI_16] at c50
            first | refine A_iincN 99 dX10_bring_96 rfl rfl (by decide) (by first | exact (ast_s (ast_s (ast_s (ast_1 rfl)))) | exact (ast_s (ast_s (ast_s ast_k)))) ?_ | refine A_iinc 99 (1) dX10_bring_96 rfl rfl (by decide) (by decide) (by first | exact (ast_s (ast_s (ast_s (ast_1 rfl)))) | exact (ast_s (ast_s (ast_s ast_k)))) ?_
            refine A_goto 33 dX10_bring_99 (by decide) ?_
            exact ih n0 (Nat.lt_succ_self n0) (i + 1) _ g33 _ (by omega) ((foldN_s (fbF x (x.2.1 k_p) (nI k_l0)) (-9) i).trans ((congrArg ((fbF x (x.2.1 k_p) (nI k_l0)) i) ee).trans (by first | with_reducible rfl | (simp only [c10, cl_p, c18, cl_l0, c50, if_true, if_false, ite_true, ite_false, and_true, true_and, and_false, false_and, and_self, or_true, true_or, or_false, false_or, or_self, not_true_eq_false, not_false_eq_true, decide_true, decide_false, Bool.and_true, Bool.true_and, Bool.and_false, Bool.false_and, Bool.and_self, Bool.or_true, Bool.true_or, Bool.or_false, Bool.false_or, Bool.not_true, Bool.not_false, cond_true, cond_false, bI_t, bI_f, Bool.false_eq_true, Bool.true_eq_false, dayC_1, dayC_21, dayC_221, dayC_222, fbF]; done) | (with_reducible first | exact absurd c10 c18 | exact absurd c10 c50 | exact absurd c18 c10 | exact absurd c18 c50 | exact absurd c50 c10 | exact absurd c50 c18) | (simp [*, fbF]; done) | with_reducible_and_instances rfl))) (by first | exact hy | exact Or.inr ⟨i, hi, rfl⟩) O28 hf
          · skip
            try simp only [bI_0, bI_n0, Classical.not_not, Bool.not_eq_false, Bool.true_and, Bool.and_true, decide_eq_true_eq, decide_eq_false_iff_not, dayC_1, dayC_21, dayC_221, dayC_222, inI_1, inI_2, inI_3, inI_5, inI_11, inI_16] at c50
            refine A_iload_n 54 dX10_bring_53 rfl rfl rfl ?_
            refine A_if_lt 69 57 dX10_bring_54 (by decide) rfl (fun c54 => ?_) (fun c54 => ?_)
            · skip
              try simp only [bI_0, bI_n0, Classical.not_not, Bool.not_eq_false, Bool.true_and, Bool.and_true, decide_eq_true_eq, decide_eq_false_iff_not, dayC_1, dayC_21, dayC_221, dayC_222, inI_1, inI_2, inI_3, inI_5, inI_11, inI_16] at c54
              have n54 := Int32.not_le.mpr c54
              have cl_9 : u = -9 := neg9 hy c54
              refine A_aload_n 70 dX10_bring_69 rfl rfl rfl ?_
              refine A_aload_n 71 dX10_bring_70 rfl rfl rfl ?_
              refine A_getfield 74 dX10_bring_71 rfl f_X10_22 O28 rfl ?_
              refine A_iload_n 75 dX10_bring_74 rfl rfl rfl ?_
              refine A_iaload 76 dX10_bring_75 rfl O28 rfl (by first | assumption | exact ix_nI (by omega) (by decide) | exact ix_lit _ rfl (by omega) (by decide) | exact ix_lit _ rfl (by decide) (by decide)) ?_
              try dsimp only
              refine A_iload 78 dX10_bring_76 rfl rfl ?_
              refine A_ior 79 dX10_bring_78 rfl ?_
              refine A_callVI 82 (S_X10_goDay_n X l (by first | assumption | decide | omega | exact Ne.symm (by assumption)) (by first | assumption | decide | omega | exact Ne.symm (by assumption))) dX10_bring_79 rfl kX10_goDay lk_X10_108 rfl O28 (by decide) rfl (Nat.le_of_ble_eq_true rfl) (fun v_5 h_5 qh_5 => ?_)
              obtain ⟨rfl, n0h_5, eh_5⟩ := qh_5
              replace O28 := n0h_5
              replace hf : ∀ i, i ≠ 28 → h_5 i = h i := fun i g0 => (eh_5 i g0).trans (hf i g0)
              refine A_iload_n 83 dX10_bring_82 rfl rfl rfl ?_
              refine A_callSI 86 (S_X10_hasBit X l) dX10_bring_83 rfl kX10_hasBit lk_X10_93 rfl (by decide) rfl (Nat.le_of_ble_eq_true rfl) (fun v_6 h_6 qh_6 => ?_)
              obtain ⟨rfl, rfl⟩ := qh_6
              refine A_if_eq 94 89 dX10_bring_86 (by decide) rfl (fun c86 => ?_) (fun c86 => ?_)
              · skip
                try simp only [bI_0, bI_n0, Classical.not_not, Bool.not_eq_false, Bool.true_and, Bool.and_true, decide_eq_true_eq, decide_eq_false_iff_not, dayC_1, dayC_21, dayC_221, dayC_222, inI_1, inI_2, inI_3, inI_5, inI_11, inI_16] at c86
                refine A_iload_n 95 dX10_bring_94 rfl rfl rfl ?_
                refine A_istore_n 96 dX10_bring_95 rfl rfl (by decide) (by first | exact (ast_s (ast_s (ast_1 rfl))) | exact (ast_s (ast_s ast_k))) ?_
                first | refine A_iincN 99 dX10_bring_96 rfl rfl (by decide) (by first | exact (ast_s (ast_s (ast_s (ast_1 rfl)))) | exact (ast_s (ast_s (ast_s ast_k)))) ?_ | refine A_iinc 99 (1) dX10_bring_96 rfl rfl (by decide) (by decide) (by first | exact (ast_s (ast_s (ast_s (ast_1 rfl)))) | exact (ast_s (ast_s (ast_s ast_k)))) ?_
                refine A_goto 33 dX10_bring_99 (by decide) ?_
                exact ih n0 (Nat.lt_succ_self n0) (i + 1) _ h_5 _ (by omega) ((foldN_s (fbF x (x.2.1 k_p) (nI k_l0)) (-9) i).trans ((congrArg ((fbF x (x.2.1 k_p) (nI k_l0)) i) ee).trans (by first | with_reducible rfl | (simp only [c10, cl_p, c18, cl_l0, c50, c54, n54, cl_9, c86, if_true, if_false, ite_true, ite_false, and_true, true_and, and_false, false_and, and_self, or_true, true_or, or_false, false_or, or_self, not_true_eq_false, not_false_eq_true, decide_true, decide_false, Bool.and_true, Bool.true_and, Bool.and_false, Bool.false_and, Bool.and_self, Bool.or_true, Bool.true_or, Bool.or_false, Bool.false_or, Bool.not_true, Bool.not_false, cond_true, cond_false, bI_t, bI_f, Bool.false_eq_true, Bool.true_eq_false, dayC_1, dayC_21, dayC_221, dayC_222, fbF]; done) | (simp only [c10, cl_p, c18, cl_l0, eq_true c50, c54, n54, cl_9, c86, if_true, if_false, ite_true, ite_false, and_true, true_and, and_false, false_and, and_self, or_true, true_or, or_false, false_or, or_self, not_true_eq_false, not_false_eq_true, decide_true, decide_false, Bool.and_true, Bool.true_and, Bool.and_false, Bool.false_and, Bool.and_self, Bool.or_true, Bool.true_or, Bool.or_false, Bool.false_or, Bool.not_true, Bool.not_false, cond_true, cond_false, bI_t, bI_f, Bool.false_eq_true, Bool.true_eq_false, dayC_1, dayC_21, dayC_221, dayC_222, fbF]; done) | (with_reducible first | exact absurd c10 c18 | exact absurd c10 c50 | exact absurd c10 c54 | exact absurd c10 c86 | exact absurd c18 c10 | exact absurd c18 c50 | exact absurd c18 c54 | exact absurd c18 c86 | exact absurd c50 c10 | exact absurd c50 c18 | exact absurd c50 c54 | exact absurd c50 c86 | exact absurd c54 c10 | exact absurd c54 c18 | exact absurd c54 c50 | exact absurd c54 c86 | exact absurd c86 c10 | exact absurd c86 c18 | exact absurd c86 c50 | exact absurd c86 c54) | (simp [*, fbF]; done) | with_reducible_and_instances rfl))) (by first | exact hy | exact Or.inr ⟨i, hi, rfl⟩) O28 hf
              · skip
                try simp only [bI_0, bI_n0, Classical.not_not, Bool.not_eq_false, Bool.true_and, Bool.and_true, decide_eq_true_eq, decide_eq_false_iff_not, dayC_1, dayC_21, dayC_221, dayC_222, inI_1, inI_2, inI_3, inI_5, inI_11, inI_16] at c86
                refine A_iload 91 dX10_bring_89 rfl rfl ?_
                refine A_goto 95 dX10_bring_91 (by decide) ?_
                refine A_istore_n 96 dX10_bring_95 rfl rfl (by decide) (by first | exact (ast_s (ast_s (ast_1 rfl))) | exact (ast_s (ast_s ast_k))) ?_
                first | refine A_iincN 99 dX10_bring_96 rfl rfl (by decide) (by first | exact (ast_s (ast_s (ast_s (ast_1 rfl)))) | exact (ast_s (ast_s (ast_s ast_k)))) ?_ | refine A_iinc 99 (1) dX10_bring_96 rfl rfl (by decide) (by decide) (by first | exact (ast_s (ast_s (ast_s (ast_1 rfl)))) | exact (ast_s (ast_s (ast_s ast_k)))) ?_
                refine A_goto 33 dX10_bring_99 (by decide) ?_
                exact ih n0 (Nat.lt_succ_self n0) (i + 1) _ h_5 _ (by omega) ((foldN_s (fbF x (x.2.1 k_p) (nI k_l0)) (-9) i).trans ((congrArg ((fbF x (x.2.1 k_p) (nI k_l0)) i) ee).trans (by first | with_reducible rfl | (simp only [c10, cl_p, c18, cl_l0, c50, c54, n54, cl_9, c86, if_true, if_false, ite_true, ite_false, and_true, true_and, and_false, false_and, and_self, or_true, true_or, or_false, false_or, or_self, not_true_eq_false, not_false_eq_true, decide_true, decide_false, Bool.and_true, Bool.true_and, Bool.and_false, Bool.false_and, Bool.and_self, Bool.or_true, Bool.true_or, Bool.or_false, Bool.false_or, Bool.not_true, Bool.not_false, cond_true, cond_false, bI_t, bI_f, Bool.false_eq_true, Bool.true_eq_false, dayC_1, dayC_21, dayC_221, dayC_222, fbF]; done) | (simp only [c10, cl_p, c18, cl_l0, eq_true c50, c54, n54, cl_9, c86, if_true, if_false, ite_true, ite_false, and_true, true_and, and_false, false_and, and_self, or_true, true_or, or_false, false_or, or_self, not_true_eq_false, not_false_eq_true, decide_true, decide_false, Bool.and_true, Bool.true_and, Bool.and_false, Bool.false_and, Bool.and_self, Bool.or_true, Bool.true_or, Bool.or_false, Bool.false_or, Bool.not_true, Bool.not_false, cond_true, cond_false, bI_t, bI_f, Bool.false_eq_true, Bool.true_eq_false, dayC_1, dayC_21, dayC_221, dayC_222, fbF]; done) | (with_reducible first | exact absurd c10 c18 | exact absurd c10 c50 | exact absurd c10 c54 | exact absurd c10 c86 | exact absurd c18 c10 | exact absurd c18 c50 | exact absurd c18 c54 | exact absurd c18 c86 | exact absurd c50 c10 | exact absurd c50 c18 | exact absurd c50 c54 | exact absurd c50 c86 | exact absurd c54 c10 | exact absurd c54 c18 | exact absurd c54 c50 | exact absurd c54 c86 | exact absurd c86 c10 | exact absurd c86 c18 | exact absurd c86 c50 | exact absurd c86 c54) | (simp [*, fbF]; done) | with_reducible_and_instances rfl))) (by first | exact hy | exact Or.inr ⟨i, hi, rfl⟩) O28 hf
            · skip
              try simp only [bI_0, bI_n0, Classical.not_not, Bool.not_eq_false, Bool.true_and, Bool.and_true, decide_eq_true_eq, decide_eq_false_iff_not, dayC_1, dayC_21, dayC_221, dayC_222, inI_1, inI_2, inI_3, inI_5, inI_11, inI_16] at c54
              have n54 := Int32.not_lt.mp c54
              have cl_9 : ¬ u = -9 := (pos9 hy c54).1
              have hR9 := (pos9 hy c54).2
              refine A_iload 59 dX10_bring_57 rfl rfl ?_
              refine A_callSI 62 (S_X10_onesOf_r X l (by first | assumption | exact R10.nI (by omega) | exact dDone_R (by assumption) _ _ | exact R8.r10 (by assumption))) dX10_bring_59 rfl kX10_onesOf lk_X10_112 rfl (by decide) rfl (Nat.le_of_ble_eq_true rfl) (fun v_7 h_7 qh_7 => ?_)
              obtain ⟨rfl, rfl⟩ := qh_7
              refine A_iload_n 63 dX10_bring_62 rfl rfl rfl ?_
              refine A_callSI 66 (S_X10_onesOf_r X l (by first | assumption | exact R10.nI (by omega) | exact dDone_R (by assumption) _ _ | exact R8.r10 (by assumption))) dX10_bring_63 rfl kX10_onesOf lk_X10_112 rfl (by decide) rfl (Nat.le_of_ble_eq_true rfl) (fun v_8 h_8 qh_8 => ?_)
              obtain ⟨rfl, rfl⟩ := qh_8
              refine A_icmp_ge 96 69 dX10_bring_66 (by decide) rfl (fun c66 => ?_) (fun c66 => ?_)
              · skip
                try simp only [bI_0, bI_n0, Classical.not_not, Bool.not_eq_false, Bool.true_and, Bool.and_true, decide_eq_true_eq, decide_eq_false_iff_not, dayC_1, dayC_21, dayC_221, dayC_222, inI_1, inI_2, inI_3, inI_5, inI_11, inI_16] at c66
                have n66 := c66
                replace c66 := Int32.not_lt.mpr c66
                first | refine A_iincN 99 dX10_bring_96 rfl rfl (by decide) (by first | exact (ast_s (ast_s (ast_s (ast_1 rfl)))) | exact (ast_s (ast_s (ast_s ast_k)))) ?_ | refine A_iinc 99 (1) dX10_bring_96 rfl rfl (by decide) (by decide) (by first | exact (ast_s (ast_s (ast_s (ast_1 rfl)))) | exact (ast_s (ast_s (ast_s ast_k)))) ?_
                refine A_goto 33 dX10_bring_99 (by decide) ?_
                exact ih n0 (Nat.lt_succ_self n0) (i + 1) _ g33 _ (by omega) ((foldN_s (fbF x (x.2.1 k_p) (nI k_l0)) (-9) i).trans ((congrArg ((fbF x (x.2.1 k_p) (nI k_l0)) i) ee).trans (by first | with_reducible rfl | (simp only [c10, cl_p, c18, cl_l0, c50, c54, n54, cl_9, c66, n66, if_true, if_false, ite_true, ite_false, and_true, true_and, and_false, false_and, and_self, or_true, true_or, or_false, false_or, or_self, not_true_eq_false, not_false_eq_true, decide_true, decide_false, Bool.and_true, Bool.true_and, Bool.and_false, Bool.false_and, Bool.and_self, Bool.or_true, Bool.true_or, Bool.or_false, Bool.false_or, Bool.not_true, Bool.not_false, cond_true, cond_false, bI_t, bI_f, Bool.false_eq_true, Bool.true_eq_false, dayC_1, dayC_21, dayC_221, dayC_222, fbF]; done) | (simp only [c10, cl_p, c18, cl_l0, eq_true c50, c54, n54, cl_9, c66, n66, if_true, if_false, ite_true, ite_false, and_true, true_and, and_false, false_and, and_self, or_true, true_or, or_false, false_or, or_self, not_true_eq_false, not_false_eq_true, decide_true, decide_false, Bool.and_true, Bool.true_and, Bool.and_false, Bool.false_and, Bool.and_self, Bool.or_true, Bool.true_or, Bool.or_false, Bool.false_or, Bool.not_true, Bool.not_false, cond_true, cond_false, bI_t, bI_f, Bool.false_eq_true, Bool.true_eq_false, dayC_1, dayC_21, dayC_221, dayC_222, fbF]; done) | (with_reducible first | exact absurd c10 c18 | exact absurd c10 c50 | exact absurd c10 c54 | exact absurd c10 c66 | exact absurd c18 c10 | exact absurd c18 c50 | exact absurd c18 c54 | exact absurd c18 c66 | exact absurd c50 c10 | exact absurd c50 c18 | exact absurd c50 c54 | exact absurd c50 c66 | exact absurd c54 c10 | exact absurd c54 c18 | exact absurd c54 c50 | exact absurd c54 c66 | exact absurd c66 c10 | exact absurd c66 c18 | exact absurd c66 c50 | exact absurd c66 c54) | (simp [*, fbF]; done) | with_reducible_and_instances rfl))) (by first | exact hy | exact Or.inr ⟨i, hi, rfl⟩) O28 hf
              · skip
                try simp only [bI_0, bI_n0, Classical.not_not, Bool.not_eq_false, Bool.true_and, Bool.and_true, decide_eq_true_eq, decide_eq_false_iff_not, dayC_1, dayC_21, dayC_221, dayC_222, inI_1, inI_2, inI_3, inI_5, inI_11, inI_16] at c66
                have n66 := c66
                replace c66 := Int32.not_le.mp c66
                refine A_aload_n 70 dX10_bring_69 rfl rfl rfl ?_
                refine A_aload_n 71 dX10_bring_70 rfl rfl rfl ?_
                refine A_getfield 74 dX10_bring_71 rfl f_X10_22 O28 rfl ?_
                refine A_iload_n 75 dX10_bring_74 rfl rfl rfl ?_
                refine A_iaload 76 dX10_bring_75 rfl O28 rfl (by first | assumption | exact ix_nI (by omega) (by decide) | exact ix_lit _ rfl (by omega) (by decide) | exact ix_lit _ rfl (by decide) (by decide)) ?_
                try dsimp only
                refine A_iload 78 dX10_bring_76 rfl rfl ?_
                refine A_ior 79 dX10_bring_78 rfl ?_
                refine A_callVI 82 (S_X10_goDay_n X l (by first | assumption | decide | omega | exact Ne.symm (by assumption)) (by first | assumption | decide | omega | exact Ne.symm (by assumption))) dX10_bring_79 rfl kX10_goDay lk_X10_108 rfl O28 (by decide) rfl (Nat.le_of_ble_eq_true rfl) (fun v_9 h_9 qh_9 => ?_)
                obtain ⟨rfl, n0h_9, eh_9⟩ := qh_9
                replace O28 := n0h_9
                replace hf : ∀ i, i ≠ 28 → h_9 i = h i := fun i g0 => (eh_9 i g0).trans (hf i g0)
                refine A_iload_n 83 dX10_bring_82 rfl rfl rfl ?_
                refine A_callSI 86 (S_X10_hasBit X l) dX10_bring_83 rfl kX10_hasBit lk_X10_93 rfl (by decide) rfl (Nat.le_of_ble_eq_true rfl) (fun v_10 h_10 qh_10 => ?_)
                obtain ⟨rfl, rfl⟩ := qh_10
                refine A_if_eq 94 89 dX10_bring_86 (by decide) rfl (fun c86 => ?_) (fun c86 => ?_)
                · skip
                  try simp only [bI_0, bI_n0, Classical.not_not, Bool.not_eq_false, Bool.true_and, Bool.and_true, decide_eq_true_eq, decide_eq_false_iff_not, dayC_1, dayC_21, dayC_221, dayC_222, inI_1, inI_2, inI_3, inI_5, inI_11, inI_16] at c86
                  refine A_iload_n 95 dX10_bring_94 rfl rfl rfl ?_
                  refine A_istore_n 96 dX10_bring_95 rfl rfl (by decide) (by first | exact (ast_s (ast_s (ast_1 rfl))) | exact (ast_s (ast_s ast_k))) ?_
                  first | refine A_iincN 99 dX10_bring_96 rfl rfl (by decide) (by first | exact (ast_s (ast_s (ast_s (ast_1 rfl)))) | exact (ast_s (ast_s (ast_s ast_k)))) ?_ | refine A_iinc 99 (1) dX10_bring_96 rfl rfl (by decide) (by decide) (by first | exact (ast_s (ast_s (ast_s (ast_1 rfl)))) | exact (ast_s (ast_s (ast_s ast_k)))) ?_
                  refine A_goto 33 dX10_bring_99 (by decide) ?_
                  exact ih n0 (Nat.lt_succ_self n0) (i + 1) _ h_9 _ (by omega) ((foldN_s (fbF x (x.2.1 k_p) (nI k_l0)) (-9) i).trans ((congrArg ((fbF x (x.2.1 k_p) (nI k_l0)) i) ee).trans (by first | with_reducible rfl | (simp only [c10, cl_p, c18, cl_l0, c50, c54, n54, cl_9, c66, n66, c86, if_true, if_false, ite_true, ite_false, and_true, true_and, and_false, false_and, and_self, or_true, true_or, or_false, false_or, or_self, not_true_eq_false, not_false_eq_true, decide_true, decide_false, Bool.and_true, Bool.true_and, Bool.and_false, Bool.false_and, Bool.and_self, Bool.or_true, Bool.true_or, Bool.or_false, Bool.false_or, Bool.not_true, Bool.not_false, cond_true, cond_false, bI_t, bI_f, Bool.false_eq_true, Bool.true_eq_false, dayC_1, dayC_21, dayC_221, dayC_222, fbF]; done) | (simp only [c10, cl_p, c18, cl_l0, eq_true c50, c54, n54, cl_9, c66, n66, c86, if_true, if_false, ite_true, ite_false, and_true, true_and, and_false, false_and, and_self, or_true, true_or, or_false, false_or, or_self, not_true_eq_false, not_false_eq_true, decide_true, decide_false, Bool.and_true, Bool.true_and, Bool.and_false, Bool.false_and, Bool.and_self, Bool.or_true, Bool.true_or, Bool.or_false, Bool.false_or, Bool.not_true, Bool.not_false, cond_true, cond_false, bI_t, bI_f, Bool.false_eq_true, Bool.true_eq_false, dayC_1, dayC_21, dayC_221, dayC_222, fbF]; done) | (with_reducible first | exact absurd c10 c18 | exact absurd c10 c50 | exact absurd c10 c54 | exact absurd c10 c66 | exact absurd c10 c86 | exact absurd c18 c10 | exact absurd c18 c50 | exact absurd c18 c54 | exact absurd c18 c66 | exact absurd c18 c86 | exact absurd c50 c10 | exact absurd c50 c18 | exact absurd c50 c54 | exact absurd c50 c66 | exact absurd c50 c86 | exact absurd c54 c10 | exact absurd c54 c18 | exact absurd c54 c50 | exact absurd c54 c66 | exact absurd c54 c86 | exact absurd c66 c10 | exact absurd c66 c18 | exact absurd c66 c50 | exact absurd c66 c54 | exact absurd c66 c86 | exact absurd c86 c10 | exact absurd c86 c18 | exact absurd c86 c50 | exact absurd c86 c54 | exact absurd c86 c66) | (simp [*, fbF]; done) | with_reducible_and_instances rfl))) (by first | exact hy | exact Or.inr ⟨i, hi, rfl⟩) O28 hf
                · skip
                  try simp only [bI_0, bI_n0, Classical.not_not, Bool.not_eq_false, Bool.true_and, Bool.and_true, decide_eq_true_eq, decide_eq_false_iff_not, dayC_1, dayC_21, dayC_221, dayC_222, inI_1, inI_2, inI_3, inI_5, inI_11, inI_16] at c86
                  refine A_iload 91 dX10_bring_89 rfl rfl ?_
                  refine A_goto 95 dX10_bring_91 (by decide) ?_
                  refine A_istore_n 96 dX10_bring_95 rfl rfl (by decide) (by first | exact (ast_s (ast_s (ast_1 rfl))) | exact (ast_s (ast_s ast_k))) ?_
                  first | refine A_iincN 99 dX10_bring_96 rfl rfl (by decide) (by first | exact (ast_s (ast_s (ast_s (ast_1 rfl)))) | exact (ast_s (ast_s (ast_s ast_k)))) ?_ | refine A_iinc 99 (1) dX10_bring_96 rfl rfl (by decide) (by decide) (by first | exact (ast_s (ast_s (ast_s (ast_1 rfl)))) | exact (ast_s (ast_s (ast_s ast_k)))) ?_
                  refine A_goto 33 dX10_bring_99 (by decide) ?_
                  exact ih n0 (Nat.lt_succ_self n0) (i + 1) _ h_9 _ (by omega) ((foldN_s (fbF x (x.2.1 k_p) (nI k_l0)) (-9) i).trans ((congrArg ((fbF x (x.2.1 k_p) (nI k_l0)) i) ee).trans (by first | with_reducible rfl | (simp only [c10, cl_p, c18, cl_l0, c50, c54, n54, cl_9, c66, n66, c86, if_true, if_false, ite_true, ite_false, and_true, true_and, and_false, false_and, and_self, or_true, true_or, or_false, false_or, or_self, not_true_eq_false, not_false_eq_true, decide_true, decide_false, Bool.and_true, Bool.true_and, Bool.and_false, Bool.false_and, Bool.and_self, Bool.or_true, Bool.true_or, Bool.or_false, Bool.false_or, Bool.not_true, Bool.not_false, cond_true, cond_false, bI_t, bI_f, Bool.false_eq_true, Bool.true_eq_false, dayC_1, dayC_21, dayC_221, dayC_222, fbF]; done) | (simp only [c10, cl_p, c18, cl_l0, eq_true c50, c54, n54, cl_9, c66, n66, c86, if_true, if_false, ite_true, ite_false, and_true, true_and, and_false, false_and, and_self, or_true, true_or, or_false, false_or, or_self, not_true_eq_false, not_false_eq_true, decide_true, decide_false, Bool.and_true, Bool.true_and, Bool.and_false, Bool.false_and, Bool.and_self, Bool.or_true, Bool.true_or, Bool.or_false, Bool.false_or, Bool.not_true, Bool.not_false, cond_true, cond_false, bI_t, bI_f, Bool.false_eq_true, Bool.true_eq_false, dayC_1, dayC_21, dayC_221, dayC_222, fbF]; done) | (with_reducible first | exact absurd c10 c18 | exact absurd c10 c50 | exact absurd c10 c54 | exact absurd c10 c66 | exact absurd c10 c86 | exact absurd c18 c10 | exact absurd c18 c50 | exact absurd c18 c54 | exact absurd c18 c66 | exact absurd c18 c86 | exact absurd c50 c10 | exact absurd c50 c18 | exact absurd c50 c54 | exact absurd c50 c66 | exact absurd c50 c86 | exact absurd c54 c10 | exact absurd c54 c18 | exact absurd c54 c50 | exact absurd c54 c66 | exact absurd c54 c86 | exact absurd c66 c10 | exact absurd c66 c18 | exact absurd c66 c50 | exact absurd c66 c54 | exact absurd c66 c86 | exact absurd c86 c10 | exact absurd c86 c18 | exact absurd c86 c50 | exact absurd c86 c54 | exact absurd c86 c66) | (simp [*, fbF]; done) | with_reducible_and_instances rfl))) (by first | exact hy | exact Or.inr ⟨i, hi, rfl⟩) O28 hf
      exact L33 (256) (0) (_) h_1 (_) (by omega) (rfl) (Or.inl rfl) O28 hf
    · skip
      try simp only [bI_0, bI_n0, Classical.not_not, Bool.not_eq_false, Bool.true_and, Bool.and_true, decide_eq_true_eq, decide_eq_false_iff_not, dayC_1, dayC_21, dayC_221, dayC_222, inI_1, inI_2, inI_3, inI_5, inI_11, inI_16] at c18
      refine A_aload_n 22 dX10_bring_21 rfl rfl rfl ?_
      refine A_iconst 23 (-1) dX10_bring_22 rfl (by decide) ?_
      refine A_callVI 26 (S_X10_refuse_c X l (by first | assumption | decide | omega | exact Ne.symm (by assumption)) (by first | assumption | (unfold CD; decide))) dX10_bring_23 rfl kX10_refuse lk_X10_121 rfl O28 (by decide) rfl (Nat.le_of_ble_eq_true rfl) (fun v_11 h_11 qh_11 => ?_)
      obtain ⟨rfl, n0h_11, eh_11⟩ := qh_11
      replace O28 := n0h_11
      replace hf : ∀ i, i ≠ 28 → h_11 i = h i := fun i g0 => (eh_11 i g0).trans (hf i g0)
      have ew : wPL x (nI k_p) l0 = -1 := by
        first | (simp only [c10, cl_p, c18, if_true, if_false, ite_true, ite_false, and_true, true_and, and_false, false_and, and_self, or_true, true_or, or_false, false_or, or_self, not_true_eq_false, not_false_eq_true, decide_true, decide_false, Bool.and_true, Bool.true_and, Bool.and_false, Bool.false_and, Bool.and_self, Bool.or_true, Bool.true_or, Bool.or_false, Bool.false_or, Bool.not_true, Bool.not_false, cond_true, cond_false, bI_t, bI_f, Bool.false_eq_true, Bool.true_eq_false, dayC_1, dayC_21, dayC_221, dayC_222, w01, wP, wPL, wP01, wL01, wRow, w01R, wAB, wNum, isP, isL]; done)
      refine A_iret dX10_bring_26 rfl ⟨_, rfl, (by rw [ew]; exact rV_n (by decide)), _, (by rw [ew]; first | (rw [rS_0]; exact O28) | exact O28), hf⟩
set_option maxHeartbeats 4000000 in
set_option maxRecDepth 100000 in
theorem S_X10_empty (X : En) (l : Launch) {h : Hp} {x : PW} {c : RC} {z : RZ} (O28 : h 28 = some (rB x (-1) c z)) (hW : WOK x)  {v : Int32} : Ct X l mX10_empty [aR 28 0, aI v] h (QI (fun vr h2 => (rV (wEmp v) (aEmp x v)) = vr ∧ ∃ (z1 : RZ), h2 (28) = some (rB x (-1) (rS (wEmp v) c.1, c.2) z1) ∧ ∀ i, i ≠ 28 → h2 i = h i)) := by
  have hx := hW.1
  have hp := hW.2.1
  have h10 := hx.1
  have hf : ∀ i, i ≠ 28 → h i = h i := fun _ _ => rfl
  refine Ct.intro [some (aR 28 0), some (aI v), none, none, none, none] (by decide +kernel) rfl (Nat.le_of_ble_eq_true rfl) ?_
  refine A_aload_n 1 dX10_empty_0 rfl rfl rfl ?_
  refine A_iconst 2 (0) dX10_empty_1 rfl (by decide) ?_
  refine P_X10_9 5 dX10_empty_2 rfl fw_X10_78 O28 (fun h_1 nh_1 eh_1 => ?_)
  replace O28 := nh_1
  replace hf : ∀ i, i ≠ 28 → h_1 i = h i := fun i g0 => (eh_1 i g0).trans (hf i g0)
  try dsimp only at O28
  refine A_iload_n 6 dX10_empty_5 rfl rfl rfl ?_
  refine A_i2l 7 dX10_empty_6 rfl ?_
  refine A_lconst 8 (0) dX10_empty_7 rfl (by decide) ?_
  refine A_ldc2_w 11 _ dX10_empty_8 rfl cn_X10_231 ?_
  refine A_callSI 14 (S_X10_in X l) dX10_empty_11 rfl kX10_in lk_X10_84 rfl (by decide) rfl (Nat.le_of_ble_eq_true rfl) (fun v_2 h_2 qh_2 => ?_)
  obtain ⟨rfl, rfl⟩ := qh_2
  refine A_if_ne 24 17 dX10_empty_14 (by decide) rfl (fun c14 => ?_) (fun c14 => ?_)
  · skip
    try simp only [bI_0, bI_n0, Classical.not_not, Bool.not_eq_false, Bool.true_and, Bool.and_true, decide_eq_true_eq, decide_eq_false_iff_not, dayC_1, dayC_21, dayC_221, dayC_222, inI_1, inI_2, inI_3, inI_5, inI_11, inI_16] at c14
    refine A_iload_n 25 dX10_empty_24 rfl rfl rfl ?_
    refine A_if_ne 34 28 dX10_empty_25 (by decide) rfl (fun c25 => ?_) (fun c25 => ?_)
    · skip
      try simp only [bI_0, bI_n0, Classical.not_not, Bool.not_eq_false, Bool.true_and, Bool.and_true, decide_eq_true_eq, decide_eq_false_iff_not, dayC_1, dayC_21, dayC_221, dayC_222, inI_1, inI_2, inI_3, inI_5, inI_11, inI_16] at c25
      refine A_iconst 35 (0) dX10_empty_34 rfl (by decide) ?_
      refine A_istore_n 36 dX10_empty_35 rfl rfl (by decide) (by first | exact (ast_s (ast_1 rfl)) | exact (ast_s ast_k)) ?_
      refine A_iconst 37 (-1) dX10_empty_36 rfl (by decide) ?_
      refine A_istore_n 38 dX10_empty_37 rfl rfl (by decide) (by first | exact (ast_s (ast_s (ast_1 rfl))) | exact (ast_s (ast_s ast_k))) ?_
      refine A_iconst 39 (0) dX10_empty_38 rfl (by decide) ?_
      refine A_istore 41 dX10_empty_39 rfl (by decide) (by first | exact (ast_s (ast_s (ast_s (ast_1 rfl)))) | exact (ast_s (ast_s (ast_s ast_k)))) ?_
      have L41 : ∀ (nq i : Nat) (b m : Int32) (g41 : Hp) (z2 : RZ), (nq + i = 256) → (foldN (buF x) ((0, -1)) i = (b, m)) → (g41 28 = some (rB x (-1) c z2)) → (∀ i, i ≠ 28 → g41 i = h i) → Av X l mX10_empty 41 [some (aR 28 0), some (aI (v)), some (aI (b)), some (aI (m)), some (aI (nI (i))), none] [] g41 (QI (fun vr h2 => (rV (wEmp v) (aEmp x v)) = vr ∧ ∃ (z1 : RZ), h2 (28) = some (rB x (-1) (rS (wEmp v) c.1, c.2) z1) ∧ ∀ i, i ≠ 28 → h2 i = h i)) := by
        intro nq
        induction nq using Nat.strongRecOn with
        | _ nq ih =>
        intro i b m g41 z2 en ee O28 hf
        refine A_iload 43 dX10_empty_41 rfl rfl ?_
        refine A_sipush 46 (256) dX10_empty_43 rfl (by decide) ?_
        refine A_icmp_ge 89 49 dX10_empty_46 (by decide) rfl (fun c46 => ?_) (fun c46 => ?_)
        · skip
          obtain rfl := (up_ge_T (N := 256) c46 rfl (by omega) (by omega)).symm
          refine A_iload_n 90 dX10_empty_89 rfl rfl rfl ?_
          refine A_iconst 91 (1) dX10_empty_90 rfl (by decide) ?_
          refine A_icmp_ne 98 94 dX10_empty_91 (by decide) rfl (fun c91 => ?_) (fun c91 => ?_)
          · skip
            try simp only [bI_0, bI_n0, Classical.not_not, Bool.not_eq_false, Bool.true_and, Bool.and_true, decide_eq_true_eq, decide_eq_false_iff_not, dayC_1, dayC_21, dayC_221, dayC_222, inI_1, inI_2, inI_3, inI_5, inI_11, inI_16] at c91
            refine A_iload_n 99 dX10_empty_98 rfl rfl rfl ?_
            have ew : wEmp v = 0 := by
              first | (simp only [c14, c25, c91, if_true, if_false, ite_true, ite_false, and_true, true_and, and_false, false_and, and_self, or_true, true_or, or_false, false_or, or_self, not_true_eq_false, not_false_eq_true, decide_true, decide_false, Bool.and_true, Bool.true_and, Bool.and_false, Bool.false_and, Bool.and_self, Bool.or_true, Bool.true_or, Bool.or_false, Bool.false_or, Bool.not_true, Bool.not_false, cond_true, cond_false, bI_t, bI_f, Bool.false_eq_true, Bool.true_eq_false, dayC_1, dayC_21, dayC_221, dayC_222, wEmp, w01, wP, wPL, wP01, wL01, wRow, w01R, wAB, wNum, isP, isL]; done)
            refine A_iret dX10_empty_99 rfl ⟨_, rfl, (by rw [ew, rV_0]; unfold aEmp; rw [if_neg c25]; first | (rw [if_pos c91, ee]; done) | (rw [if_neg c91, ← bu_most hx, ee]; done)), _, (by rw [ew]; first | (rw [rS_0]; exact O28) | exact O28), hf⟩
          · skip
            try simp only [bI_0, bI_n0, Classical.not_not, Bool.not_eq_false, Bool.true_and, Bool.and_true, decide_eq_true_eq, decide_eq_false_iff_not, dayC_1, dayC_21, dayC_221, dayC_222, inI_1, inI_2, inI_3, inI_5, inI_11, inI_16] at c91
            refine A_iload_n 95 dX10_empty_94 rfl rfl rfl ?_
            refine A_goto 99 dX10_empty_95 (by decide) ?_
            have ew : wEmp v = 0 := by
              first | (simp only [c14, c25, c91, if_true, if_false, ite_true, ite_false, and_true, true_and, and_false, false_and, and_self, or_true, true_or, or_false, false_or, or_self, not_true_eq_false, not_false_eq_true, decide_true, decide_false, Bool.and_true, Bool.true_and, Bool.and_false, Bool.false_and, Bool.and_self, Bool.or_true, Bool.true_or, Bool.or_false, Bool.false_or, Bool.not_true, Bool.not_false, cond_true, cond_false, bI_t, bI_f, Bool.false_eq_true, Bool.true_eq_false, dayC_1, dayC_21, dayC_221, dayC_222, wEmp, w01, wP, wPL, wP01, wL01, wRow, w01R, wAB, wNum, isP, isL]; done) | (simp only [c14, c25, eq_true c91, if_true, if_false, ite_true, ite_false, and_true, true_and, and_false, false_and, and_self, or_true, true_or, or_false, false_or, or_self, not_true_eq_false, not_false_eq_true, decide_true, decide_false, Bool.and_true, Bool.true_and, Bool.and_false, Bool.false_and, Bool.and_self, Bool.or_true, Bool.true_or, Bool.or_false, Bool.false_or, Bool.not_true, Bool.not_false, cond_true, cond_false, bI_t, bI_f, Bool.false_eq_true, Bool.true_eq_false, dayC_1, dayC_21, dayC_221, dayC_222, wEmp, w01, wP, wPL, wP01, wL01, wRow, w01R, wAB, wNum, isP, isL]; done)
            refine A_iret dX10_empty_99 rfl ⟨_, rfl, (by rw [ew, rV_0]; unfold aEmp; rw [if_neg c25]; first | (rw [if_pos c91, ee]; done) | (rw [if_neg c91, ← bu_most hx, ee]; done)), _, (by rw [ew]; first | (rw [rS_0]; exact O28) | exact O28), hf⟩
        · skip
          have hi := up_ge_F (N := 256) c46 rfl (by omega) (by omega)
          obtain ⟨n0, rfl⟩ : ∃ q, nq = q + 1 := ⟨nq - 1, by omega⟩
          refine A_aload_n 50 dX10_empty_49 rfl rfl rfl ?_
          refine A_iload 52 dX10_empty_50 rfl rfl ?_
          refine A_callVI 55 (S_X10_manyBy_n X l (by first | assumption | decide | omega | exact Ne.symm (by assumption)) (by first | assumption | decide | omega | exact Ne.symm (by assumption))) dX10_empty_52 rfl kX10_manyBy lk_X10_233 rfl O28 (by decide) rfl (Nat.le_of_ble_eq_true rfl) (fun v_3 h_3 qh_3 => ?_)
          obtain ⟨rfl, n0h_3, eh_3⟩ := qh_3
          replace O28 := n0h_3
          replace hf : ∀ i, i ≠ 28 → h_3 i = h i := fun i g0 => (eh_3 i g0).trans (hf i g0)
          refine A_istore 57 dX10_empty_55 rfl (by decide) (by first | exact (ast_s (ast_s (ast_s (ast_s (ast_1 rfl))))) | exact (ast_s (ast_s (ast_s (ast_s ast_k))))) ?_
          refine A_iload 59 dX10_empty_57 rfl rfl ?_
          refine A_iload_n 60 dX10_empty_59 rfl rfl rfl ?_
          refine A_icmp_le 68 63 dX10_empty_60 (by decide) rfl (fun c60 => ?_) (fun c60 => ?_)
          · skip
            try simp only [bI_0, bI_n0, Classical.not_not, Bool.not_eq_false, Bool.true_and, Bool.and_true, decide_eq_true_eq, decide_eq_false_iff_not, dayC_1, dayC_21, dayC_221, dayC_222, inI_1, inI_2, inI_3, inI_5, inI_11, inI_16] at c60
            have n60 := c60
            replace c60 := Int32.not_lt.mpr c60
            refine A_iload_n 69 dX10_empty_68 rfl rfl rfl ?_
            refine A_istore_n 70 dX10_empty_69 rfl rfl (by decide) (by first | exact (ast_s (ast_1 rfl)) | exact (ast_s ast_k)) ?_
            refine A_iload 72 dX10_empty_70 rfl rfl ?_
            refine A_iload_n 73 dX10_empty_72 rfl rfl rfl ?_
            refine A_icmp_le 81 76 dX10_empty_73 (by decide) rfl (fun c73 => ?_) (fun c73 => ?_)
            · skip
              try simp only [bI_0, bI_n0, Classical.not_not, Bool.not_eq_false, Bool.true_and, Bool.and_true, decide_eq_true_eq, decide_eq_false_iff_not, dayC_1, dayC_21, dayC_221, dayC_222, inI_1, inI_2, inI_3, inI_5, inI_11, inI_16] at c73
              have n73 := c73
              replace c73 := Int32.not_lt.mpr c73
              refine A_iload_n 82 dX10_empty_81 rfl rfl rfl ?_
              refine A_istore_n 83 dX10_empty_82 rfl rfl (by decide) (by first | exact (ast_s (ast_s (ast_1 rfl))) | exact (ast_s (ast_s ast_k))) ?_
              first | refine A_iincN 86 dX10_empty_83 rfl rfl (by decide) (by first | exact (ast_s (ast_s (ast_s (ast_1 rfl)))) | exact (ast_s (ast_s (ast_s ast_k)))) ?_ | refine A_iinc 86 (1) dX10_empty_83 rfl rfl (by decide) (by decide) (by first | exact (ast_s (ast_s (ast_s (ast_1 rfl)))) | exact (ast_s (ast_s (ast_s ast_k)))) ?_
              refine A_goto 41 dX10_empty_86 (by decide) ?_
              exact A_weak (ih n0 (Nat.lt_succ_self n0) (i + 1) _ _ h_3 _ (by omega) ((foldN_s (buF x) ((0, -1)) i).trans ((congrArg ((buF x) i) ee).trans (by first | with_reducible rfl | (simp only [c14, c25, c60, n60, c73, n73, if_true, if_false, ite_true, ite_false, and_true, true_and, and_false, false_and, and_self, or_true, true_or, or_false, false_or, or_self, not_true_eq_false, not_false_eq_true, decide_true, decide_false, Bool.and_true, Bool.true_and, Bool.and_false, Bool.false_and, Bool.and_self, Bool.or_true, Bool.true_or, Bool.or_false, Bool.false_or, Bool.not_true, Bool.not_false, cond_true, cond_false, bI_t, bI_f, Bool.false_eq_true, Bool.true_eq_false, dayC_1, dayC_21, dayC_221, dayC_222, buF]; done) | (with_reducible first | exact absurd c14 c25 | exact absurd c14 c60 | exact absurd c14 c73 | exact absurd c25 c14 | exact absurd c25 c60 | exact absurd c25 c73 | exact absurd c60 c14 | exact absurd c60 c25 | exact absurd c60 c73 | exact absurd c73 c14 | exact absurd c73 c25 | exact absurd c73 c60) | (simp [*, buF]; done) | with_reducible_and_instances rfl))) O28 hf) (sub_s (sub_s (sub_s (sub_s (sub_s (sub_n sub_nil))))))
            · skip
              try simp only [bI_0, bI_n0, Classical.not_not, Bool.not_eq_false, Bool.true_and, Bool.and_true, decide_eq_true_eq, decide_eq_false_iff_not, dayC_1, dayC_21, dayC_221, dayC_222, inI_1, inI_2, inI_3, inI_5, inI_11, inI_16] at c73
              have n73 := c73
              replace c73 := Int32.not_le.mp c73
              refine A_iload 78 dX10_empty_76 rfl rfl ?_
              refine A_goto 82 dX10_empty_78 (by decide) ?_
              refine A_istore_n 83 dX10_empty_82 rfl rfl (by decide) (by first | exact (ast_s (ast_s (ast_1 rfl))) | exact (ast_s (ast_s ast_k))) ?_
              first | refine A_iincN 86 dX10_empty_83 rfl rfl (by decide) (by first | exact (ast_s (ast_s (ast_s (ast_1 rfl)))) | exact (ast_s (ast_s (ast_s ast_k)))) ?_ | refine A_iinc 86 (1) dX10_empty_83 rfl rfl (by decide) (by decide) (by first | exact (ast_s (ast_s (ast_s (ast_1 rfl)))) | exact (ast_s (ast_s (ast_s ast_k)))) ?_
              refine A_goto 41 dX10_empty_86 (by decide) ?_
              exact A_weak (ih n0 (Nat.lt_succ_self n0) (i + 1) _ _ h_3 _ (by omega) ((foldN_s (buF x) ((0, -1)) i).trans ((congrArg ((buF x) i) ee).trans (by first | with_reducible rfl | (simp only [c14, c25, c60, n60, c73, n73, if_true, if_false, ite_true, ite_false, and_true, true_and, and_false, false_and, and_self, or_true, true_or, or_false, false_or, or_self, not_true_eq_false, not_false_eq_true, decide_true, decide_false, Bool.and_true, Bool.true_and, Bool.and_false, Bool.false_and, Bool.and_self, Bool.or_true, Bool.true_or, Bool.or_false, Bool.false_or, Bool.not_true, Bool.not_false, cond_true, cond_false, bI_t, bI_f, Bool.false_eq_true, Bool.true_eq_false, dayC_1, dayC_21, dayC_221, dayC_222, buF]; done) | (with_reducible first | exact absurd c14 c25 | exact absurd c14 c60 | exact absurd c14 c73 | exact absurd c25 c14 | exact absurd c25 c60 | exact absurd c25 c73 | exact absurd c60 c14 | exact absurd c60 c25 | exact absurd c60 c73 | exact absurd c73 c14 | exact absurd c73 c25 | exact absurd c73 c60) | (simp [*, buF]; done) | with_reducible_and_instances rfl))) O28 hf) (sub_s (sub_s (sub_s (sub_s (sub_s (sub_n sub_nil))))))
          · skip
            try simp only [bI_0, bI_n0, Classical.not_not, Bool.not_eq_false, Bool.true_and, Bool.and_true, decide_eq_true_eq, decide_eq_false_iff_not, dayC_1, dayC_21, dayC_221, dayC_222, inI_1, inI_2, inI_3, inI_5, inI_11, inI_16] at c60
            have n60 := c60
            replace c60 := Int32.not_le.mp c60
            refine A_iload 65 dX10_empty_63 rfl rfl ?_
            refine A_goto 69 dX10_empty_65 (by decide) ?_
            refine A_istore_n 70 dX10_empty_69 rfl rfl (by decide) (by first | exact (ast_s (ast_1 rfl)) | exact (ast_s ast_k)) ?_
            refine A_iload 72 dX10_empty_70 rfl rfl ?_
            refine A_iload_n 73 dX10_empty_72 rfl rfl rfl ?_
            refine A_icmp_le 81 76 dX10_empty_73 (by decide) rfl (fun c73 => ?_) (fun c73 => ?_)
            · skip
              try simp only [bI_0, bI_n0, Classical.not_not, Bool.not_eq_false, Bool.true_and, Bool.and_true, decide_eq_true_eq, decide_eq_false_iff_not, dayC_1, dayC_21, dayC_221, dayC_222, inI_1, inI_2, inI_3, inI_5, inI_11, inI_16] at c73
              have n73 := c73
              replace c73 := Int32.not_lt.mpr c73
              refine A_iload_n 82 dX10_empty_81 rfl rfl rfl ?_
              refine A_istore_n 83 dX10_empty_82 rfl rfl (by decide) (by first | exact (ast_s (ast_s (ast_1 rfl))) | exact (ast_s (ast_s ast_k))) ?_
              first | refine A_iincN 86 dX10_empty_83 rfl rfl (by decide) (by first | exact (ast_s (ast_s (ast_s (ast_1 rfl)))) | exact (ast_s (ast_s (ast_s ast_k)))) ?_ | refine A_iinc 86 (1) dX10_empty_83 rfl rfl (by decide) (by decide) (by first | exact (ast_s (ast_s (ast_s (ast_1 rfl)))) | exact (ast_s (ast_s (ast_s ast_k)))) ?_
              refine A_goto 41 dX10_empty_86 (by decide) ?_
              exact A_weak (ih n0 (Nat.lt_succ_self n0) (i + 1) _ _ h_3 _ (by omega) ((foldN_s (buF x) ((0, -1)) i).trans ((congrArg ((buF x) i) ee).trans (by first | with_reducible rfl | (simp only [c14, c25, c60, n60, c73, n73, if_true, if_false, ite_true, ite_false, and_true, true_and, and_false, false_and, and_self, or_true, true_or, or_false, false_or, or_self, not_true_eq_false, not_false_eq_true, decide_true, decide_false, Bool.and_true, Bool.true_and, Bool.and_false, Bool.false_and, Bool.and_self, Bool.or_true, Bool.true_or, Bool.or_false, Bool.false_or, Bool.not_true, Bool.not_false, cond_true, cond_false, bI_t, bI_f, Bool.false_eq_true, Bool.true_eq_false, dayC_1, dayC_21, dayC_221, dayC_222, buF]; done) | (with_reducible first | exact absurd c14 c25 | exact absurd c14 c60 | exact absurd c14 c73 | exact absurd c25 c14 | exact absurd c25 c60 | exact absurd c25 c73 | exact absurd c60 c14 | exact absurd c60 c25 | exact absurd c60 c73 | exact absurd c73 c14 | exact absurd c73 c25 | exact absurd c73 c60) | (simp [*, buF]; done) | with_reducible_and_instances rfl))) O28 hf) (sub_s (sub_s (sub_s (sub_s (sub_s (sub_n sub_nil))))))
            · skip
              try simp only [bI_0, bI_n0, Classical.not_not, Bool.not_eq_false, Bool.true_and, Bool.and_true, decide_eq_true_eq, decide_eq_false_iff_not, dayC_1, dayC_21, dayC_221, dayC_222, inI_1, inI_2, inI_3, inI_5, inI_11, inI_16] at c73
              have n73 := c73
              replace c73 := Int32.not_le.mp c73
              refine A_iload 78 dX10_empty_76 rfl rfl ?_
              refine A_goto 82 dX10_empty_78 (by decide) ?_
              refine A_istore_n 83 dX10_empty_82 rfl rfl (by decide) (by first | exact (ast_s (ast_s (ast_1 rfl))) | exact (ast_s (ast_s ast_k))) ?_
              first | refine A_iincN 86 dX10_empty_83 rfl rfl (by decide) (by first | exact (ast_s (ast_s (ast_s (ast_1 rfl)))) | exact (ast_s (ast_s (ast_s ast_k)))) ?_ | refine A_iinc 86 (1) dX10_empty_83 rfl rfl (by decide) (by decide) (by first | exact (ast_s (ast_s (ast_s (ast_1 rfl)))) | exact (ast_s (ast_s (ast_s ast_k)))) ?_
              refine A_goto 41 dX10_empty_86 (by decide) ?_
              exact A_weak (ih n0 (Nat.lt_succ_self n0) (i + 1) _ _ h_3 _ (by omega) ((foldN_s (buF x) ((0, -1)) i).trans ((congrArg ((buF x) i) ee).trans (by first | with_reducible rfl | (simp only [c14, c25, c60, n60, c73, n73, if_true, if_false, ite_true, ite_false, and_true, true_and, and_false, false_and, and_self, or_true, true_or, or_false, false_or, or_self, not_true_eq_false, not_false_eq_true, decide_true, decide_false, Bool.and_true, Bool.true_and, Bool.and_false, Bool.false_and, Bool.and_self, Bool.or_true, Bool.true_or, Bool.or_false, Bool.false_or, Bool.not_true, Bool.not_false, cond_true, cond_false, bI_t, bI_f, Bool.false_eq_true, Bool.true_eq_false, dayC_1, dayC_21, dayC_221, dayC_222, buF]; done) | (with_reducible first | exact absurd c14 c25 | exact absurd c14 c60 | exact absurd c14 c73 | exact absurd c25 c14 | exact absurd c25 c60 | exact absurd c25 c73 | exact absurd c60 c14 | exact absurd c60 c25 | exact absurd c60 c73 | exact absurd c73 c14 | exact absurd c73 c25 | exact absurd c73 c60) | (simp [*, buF]; done) | with_reducible_and_instances rfl))) O28 hf) (sub_s (sub_s (sub_s (sub_s (sub_s (sub_n sub_nil))))))
      exact A_weak (L41 (256) (0) (_) (_) h_1 (_) (by omega) (rfl) O28 hf) (sub_s (sub_s (sub_s (sub_s (sub_s (sub_n sub_nil))))))
    · skip
      try simp only [bI_0, bI_n0, Classical.not_not, Bool.not_eq_false, Bool.true_and, Bool.and_true, decide_eq_true_eq, decide_eq_false_iff_not, dayC_1, dayC_21, dayC_221, dayC_222, inI_1, inI_2, inI_3, inI_5, inI_11, inI_16] at c25
      refine A_aload_n 29 dX10_empty_28 rfl rfl rfl ?_
      refine A_iconst 30 (0) dX10_empty_29 rfl (by decide) ?_
      refine A_callVI 33 (S_X10_goDay_n X l (by first | assumption | decide | omega | exact Ne.symm (by assumption)) (by first | assumption | decide | omega | exact Ne.symm (by assumption))) dX10_empty_30 rfl kX10_goDay lk_X10_108 rfl O28 (by decide) rfl (Nat.le_of_ble_eq_true rfl) (fun v_4 h_4 qh_4 => ?_)
      obtain ⟨rfl, n0h_4, eh_4⟩ := qh_4
      replace O28 := n0h_4
      replace hf : ∀ i, i ≠ 28 → h_4 i = h i := fun i g0 => (eh_4 i g0).trans (hf i g0)
      have ew : wEmp v = 0 := by
        first | (simp only [c14, c25, if_true, if_false, ite_true, ite_false, and_true, true_and, and_false, false_and, and_self, or_true, true_or, or_false, false_or, or_self, not_true_eq_false, not_false_eq_true, decide_true, decide_false, Bool.and_true, Bool.true_and, Bool.and_false, Bool.false_and, Bool.and_self, Bool.or_true, Bool.true_or, Bool.or_false, Bool.false_or, Bool.not_true, Bool.not_false, cond_true, cond_false, bI_t, bI_f, Bool.false_eq_true, Bool.true_eq_false, dayC_1, dayC_21, dayC_221, dayC_222, wEmp, w01, wP, wPL, wP01, wL01, wRow, w01R, wAB, wNum, isP, isL]; done) | (simp only [c14, eq_true c25, if_true, if_false, ite_true, ite_false, and_true, true_and, and_false, false_and, and_self, or_true, true_or, or_false, false_or, or_self, not_true_eq_false, not_false_eq_true, decide_true, decide_false, Bool.and_true, Bool.true_and, Bool.and_false, Bool.false_and, Bool.and_self, Bool.or_true, Bool.true_or, Bool.or_false, Bool.false_or, Bool.not_true, Bool.not_false, cond_true, cond_false, bI_t, bI_f, Bool.false_eq_true, Bool.true_eq_false, dayC_1, dayC_21, dayC_221, dayC_222, wEmp, w01, wP, wPL, wP01, wL01, wRow, w01R, wAB, wNum, isP, isL]; done)
      refine A_iret dX10_empty_33 rfl ⟨_, rfl, (by rw [ew, rV_0]; unfold aEmp; rw [if_pos c25]), _, (by rw [ew]; first | (rw [rS_0]; exact O28) | exact O28), hf⟩
  · skip
    try simp only [bI_0, bI_n0, Classical.not_not, Bool.not_eq_false, Bool.true_and, Bool.and_true, decide_eq_true_eq, decide_eq_false_iff_not, dayC_1, dayC_21, dayC_221, dayC_222, inI_1, inI_2, inI_3, inI_5, inI_11, inI_16] at c14
    refine A_aload_n 18 dX10_empty_17 rfl rfl rfl ?_
    refine A_bipush 20 (-2) dX10_empty_18 rfl (by decide) ?_
    refine A_callVI 23 (S_X10_refuse_c X l (by first | assumption | decide | omega | exact Ne.symm (by assumption)) (by first | assumption | (unfold CD; decide))) dX10_empty_20 rfl kX10_refuse lk_X10_121 rfl O28 (by decide) rfl (Nat.le_of_ble_eq_true rfl) (fun v_5 h_5 qh_5 => ?_)
    obtain ⟨rfl, n0h_5, eh_5⟩ := qh_5
    replace O28 := n0h_5
    replace hf : ∀ i, i ≠ 28 → h_5 i = h i := fun i g0 => (eh_5 i g0).trans (hf i g0)
    have ew : wEmp v = -2 := by
      first | (simp only [c14, if_true, if_false, ite_true, ite_false, and_true, true_and, and_false, false_and, and_self, or_true, true_or, or_false, false_or, or_self, not_true_eq_false, not_false_eq_true, decide_true, decide_false, Bool.and_true, Bool.true_and, Bool.and_false, Bool.false_and, Bool.and_self, Bool.or_true, Bool.true_or, Bool.or_false, Bool.false_or, Bool.not_true, Bool.not_false, cond_true, cond_false, bI_t, bI_f, Bool.false_eq_true, Bool.true_eq_false, dayC_1, dayC_21, dayC_221, dayC_222, wEmp, w01, wP, wPL, wP01, wL01, wRow, w01R, wAB, wNum, isP, isL]; done)
    refine A_iret dX10_empty_23 rfl ⟨_, rfl, (by rw [ew]; exact rV_n (by decide)), _, (by rw [ew]; first | (rw [rS_0]; exact O28) | exact O28), hf⟩
