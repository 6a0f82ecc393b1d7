/-! the letters of a mill -/
def isP (x : PW) (i : Int32) : Bool := inN i x.2.2.2.1
def isL (x : PW) (i : Int32) : Bool := inN i x.2.2.1
def pk (x : PW) (p : Int32) : Int32 := x.2.1 p.toNatClampNeg
def DB (c : Int32) : Int32 := if c = 98 then 2 else if c = 100 then 0 else if c = 108 then 4 else if c = 112 then 3 else if c = 116 then 2 else if c = 120 then 0 else -1
def dbN (c : Int32) : Nat := (DB c).toNatClampNeg
def fmN (t : FI) (n : Nat) : Nat → Nat → Int32 → Int32
  | 0, _, d => if nI n = 0 ∨ ¬ d = -1 then nI n else -1
  | m + 1, k, d => if d = -1 then (if DB (t k) < 0 then nI k else fmN t n m (k + 1) (DB (t k)))
    else if 0 < d then (if t k < 48 ∨ 57 < t k then nI k else fmN t n m (k + 1) (d + -1))
    else (if t k = 59 then fmN t n m (k + 1) (-1) else nI k)
theorem fmN_s (t : FI) (n m k : Nat) (d : Int32) : fmN t n (m + 1) k d = if d = -1 then (if DB (t k) < 0 then nI k else fmN t n m (k + 1) (DB (t k))) else if 0 < d then (if t k < 48 ∨ 57 < t k then nI k else fmN t n m (k + 1) (d + -1)) else (if t k = 59 then fmN t n m (k + 1) (-1) else nI k) := rfl
theorem fmN_0 (t : FI) (n k : Nat) (d : Int32) : fmN t n 0 k d = if nI n = 0 ∨ ¬ d = -1 then nI n else -1 := rfl
def formF (t : FI) (n : Nat) : Int32 := fmN t n n 0 (-1)
/-- a statement that is as it must be told begins at p -/
def stOK (t : FI) (p : Nat) : Prop := (t p = 98 ∨ t p = 100 ∨ t p = 108 ∨ t p = 112 ∨ t p = 116 ∨ t p = 120) ∧ (∀ j, j < dbN (t p) → ∃ d, d < 10 ∧ t (p + (j + 1)) = nI (48 + d)) ∧ t (p + (dbN (t p) + 1)) = 59
theorem DB_cases {c : Int32} (h : ¬ DB c < 0) : c = 98 ∨ c = 100 ∨ c = 108 ∨ c = 112 ∨ c = 116 ∨ c = 120 := by
  unfold DB at h
  by_cases h1 : c = 98
  · exact Or.inl h1
  by_cases h2 : c = 100
  · exact Or.inr (Or.inl h2)
  by_cases h3 : c = 108
  · exact Or.inr (Or.inr (Or.inl h3))
  by_cases h4 : c = 112
  · exact Or.inr (Or.inr (Or.inr (Or.inl h4)))
  by_cases h5 : c = 116
  · exact Or.inr (Or.inr (Or.inr (Or.inr (Or.inl h5))))
  by_cases h6 : c = 120
  · exact Or.inr (Or.inr (Or.inr (Or.inr (Or.inr h6))))
  rw [if_neg h1, if_neg h2, if_neg h3, if_neg h4, if_neg h5, if_neg h6] at h
  exact absurd (by decide) h
theorem DB_n {c : Int32} (h : c = 98 ∨ c = 100 ∨ c = 108 ∨ c = 112 ∨ c = 116 ∨ c = 120) : DB c = nI (dbN c) ∧ dbN c ≤ 4 := by
  rcases h with rfl | rfl | rfl | rfl | rfl | rfl <;> decide
theorem nI_m1 (d : Nat) : nI (d + 1) + -1 = nI d := by rw [show nI (d + 1) + -1 = nI (d + 1) - 1 from (Int32.sub_eq_add_neg _ _).symm, nI_pred]
theorem nIneg (d : Nat) (h : d < 2 ^ 31) : ¬ nI d = -1 := fun e => nI_pos h (by rw [e]; decide)
theorem dgt_of {v : Int32} (h1 : ¬ v < 48) (h2 : ¬ 57 < v) : ∃ d, d < 10 ∧ v = nI (48 + d) := by
  have e1 := Int32.le_iff_toInt_le.mp (Int32.not_lt.mp h1)
  have e2 := Int32.le_iff_toInt_le.mp (Int32.not_lt.mp h2)
  have e3 : ((48 : Int32)).toInt = 48 := by decide
  have e4 : ((57 : Int32)).toInt = 57 := by decide
  refine ⟨v.toInt.toNat - 48, by omega, ?_⟩
  apply Int32.toInt_inj.mp
  rw [nI_toInt (by omega)]
  omega
theorem dgt_in {d : Nat} (h : d < 10) : ¬ nI (48 + d) < 48 ∧ ¬ 57 < nI (48 + d) := by
  have : ∀ d, d < 10 → ¬ nI (48 + d) < 48 ∧ ¬ 57 < nI (48 + d) := by decide
  exact this d h
theorem pos_nI {d : Nat} (h : d < 2 ^ 31) : 0 < nI d ↔ 0 < d := nlt_iff (a := 0) (by decide) h
/-- the digits: from place q on d of them, then the end sign -/
theorem fm_dig {t : FI} {n : Nat} : ∀ (d m q : Nat), d ≤ 4 → m + q = n → n < 1000 → fmN t n m q (nI d) = -1 → (∀ j, j < d → ∃ e, e < 10 ∧ t (q + j) = nI (48 + e)) ∧ t (q + d) = 59 ∧ q + d + 1 ≤ n ∧ fmN t n (n - (q + d + 1)) (q + d + 1) (-1) = -1 := by
  intro d
  induction d with
  | zero =>
    intro m q _ hm hn h
    cases m with
    | zero =>
      rw [fmN_0, if_pos (Or.inr (by decide))] at h
      exact absurd h (nIneg n (by omega))
    | succ m =>
      rw [fmN_s, if_neg (nIneg 0 (by decide)), if_neg (by decide)] at h
      by_cases e : t q = 59
      · rw [if_pos e] at h
        refine ⟨fun j hj => absurd hj (Nat.not_lt_zero j), e, by omega, ?_⟩
        rw [show n - (q + 0 + 1) = m by omega]
        exact h
      · rw [if_neg e] at h
        exact absurd h (nIneg q (by omega))
  | succ d ih =>
    intro m q hd hm hn h
    cases m with
    | zero =>
      rw [fmN_0, if_pos (Or.inr (nIneg _ (by omega)))] at h
      exact absurd h (nIneg n (by omega))
    | succ m =>
      rw [fmN_s, if_neg (nIneg _ (by omega)), if_pos ((pos_nI (by omega)).mpr (by omega))] at h
      by_cases e : t q < 48 ∨ 57 < t q
      · rw [if_pos e] at h
        exact absurd h (nIneg q (by omega))
      · rw [if_neg e, nI_m1] at h
        obtain ⟨a, b, c, f⟩ := ih m (q + 1) (by omega) (by omega) hn h
        refine ⟨fun j hj => ?_, by rw [← b]; congr 1; omega, by omega, by rw [show q + (d + 1) + 1 = q + 1 + d + 1 by omega]; exact f⟩
        cases j with
        | zero => exact dgt_of (fun z => e (Or.inl z)) (fun z => e (Or.inr z))
        | succ j =>
          obtain ⟨x, hx, ex⟩ := a j (by omega)
          exact ⟨x, hx, by rw [← ex]; congr 1; omega⟩
theorem form_step {t : FI} {n p : Nat} (hp : p < n) (hn : n < 1000) (h : fmN t n (n - p) p (-1) = -1) : stOK t p ∧ p + (dbN (t p) + 2) ≤ n ∧ fmN t n (n - (p + (dbN (t p) + 2))) (p + (dbN (t p) + 2)) (-1) = -1 := by
  obtain ⟨m, hm⟩ : ∃ m, n - p = m + 1 := ⟨n - p - 1, by omega⟩
  rw [hm, fmN_s, if_pos rfl] at h
  by_cases e : DB (t p) < 0
  · rw [if_pos e] at h
    exact absurd h (nIneg p (by omega))
  · rw [if_neg e] at h
    have hc := DB_cases e
    obtain ⟨e1, e2⟩ := DB_n hc
    rw [e1] at h
    obtain ⟨a, b, c, f⟩ := fm_dig (dbN (t p)) m (p + 1) e2 (by omega) hn h
    refine ⟨⟨hc, fun j hj => ?_, ?_⟩, by omega, ?_⟩
    · obtain ⟨x, hx, ex⟩ := a j hj
      exact ⟨x, hx, by rw [← ex]; congr 1; omega⟩
    · rw [← b]; congr 1; omega
    · rw [show p + (dbN (t p) + 2) = p + 1 + dbN (t p) + 1 by omega]; exact f
theorem form_0 {t : FI} (h : formF t 0 = -1) : False := by
  unfold formF at h
  rw [fmN_0, if_pos (Or.inl (show nI 0 = 0 from rfl))] at h
  exact absurd h (by decide)
/-! what a statement does -/
def dg (t : FI) (p : Nat) : Int32 := t p - 48
def stL (x : PW) (a b c d : Int32) : Option PW := if a ≤ 5 ∧ inT c = true ∧ inT d = true ∧ x.2.2.1 < 10 then some (addL x a b c d) else none
def stP (x : PW) (v : Int32) : Option PW := if v ≤ 255 ∧ x.2.2.2.1 < 6 then some (addP x v) else none
def stT (x : PW) (a b : Int32) : Option PW := if isP x a = true ∧ (inT b && btI (pk x a) b) = true then some (takeF x a.toNatClampNeg b) else none
def stB (x : PW) (a b : Int32) : Option PW := if isP x a = true ∧ inT b = true then some (bringF x a.toNatClampNeg b) else none
def stD (x : PW) : Option PW := if x.2.2.2.2.2 < 999 then some (passX x) else none
def stF (t : FI) (x : PW) (p : Nat) : Option PW :=
  if t p = 98 then stB x (dg t (p + 1)) (dg t (p + 2))
  else if t p = 108 then stL x (dg t (p + 1)) (dg t (p + 2)) (dg t (p + 3)) (dg t (p + 4))
  else if t p = 112 then stP x (100 * dg t (p + 1) + 10 * dg t (p + 2) + dg t (p + 3))
  else if t p = 116 then stT x (dg t (p + 1)) (dg t (p + 2))
  else if t p = 120 then some (clearF x)
  else stD x
def snN (t : FI) (n : Nat) : Nat → Nat → Nat → PW → Int32 × PW × Nat
  | 0, _, c, x => (-1, x, c)
  | m + 1, p, c, x => if p < n then (if (stF t x p).isSome = true then snN t n m (p + (dbN (t p) + 2)) (c + 1) ((stF t x p).getD x) else (nI p, x, c)) else (-1, x, c)
theorem snN_s (t : FI) (n m p c : Nat) (x : PW) : snN t n (m + 1) p c x = if p < n then (if (stF t x p).isSome = true then snN t n m (p + (dbN (t p) + 2)) (c + 1) ((stF t x p).getD x) else (nI p, x, c)) else (-1, x, c) := rfl
def snF (t : FI) (n : Nat) (x : PW) : Int32 × PW × Nat := snN t n 96 0 0 x
/-! the worlds stay as they must be -/
theorem LOK_addL {x : PW} (hx : LOK x) (hn : x.2.2.1 < 10) {a b c d : Nat} (ha : a < 6) (hb : b < 10) (hc : c < 8) (hd : d < 8) : LOK (addL x (nI a) (nI b) (nI c) (nI d)) := by
  refine ⟨by show x.2.2.1 + 1 ≤ 10; omega, fun q hq => ?_⟩
  obtain ⟨h1, h2, h3, h4⟩ := hx.2 q hq
  have key : ∀ e, e < 4 → (addL x (nI a) (nI b) (nI c) (nI d)).1 (q * 4 + e) = if q = x.2.2.1 then (if e = 0 then nI a else if e = 1 then nI b else if e = 2 then nI c else nI d) else x.1 (q * 4 + e) := by
    intro e he
    show va_up (va_up (va_up (va_up x.1 (x.2.2.1 * 4 + 0) (nI a)) (x.2.2.1 * 4 + 1) (nI b)) (x.2.2.1 * 4 + 2) (nI c)) (x.2.2.1 * 4 + 3) (nI d) (q * 4 + e) = _
    unfold va_up
    by_cases z : q = x.2.2.1
    · rw [if_pos z]
      subst z
      rcases (show e = 0 ∨ e = 1 ∨ e = 2 ∨ e = 3 by omega) with rfl | rfl | rfl | rfl
      · simp
      · simp
      · simp
      · simp
    · rw [if_neg z, if_neg (by omega), if_neg (by omega), if_neg (by omega), if_neg (by omega)]
  by_cases z : q = x.2.2.1
  · refine ⟨⟨a, ha, ?_⟩, ⟨b, hb, ?_⟩, ⟨c, hc, ?_⟩, ⟨d, hd, ?_⟩⟩
    · exact (key 0 (by decide)).trans (by rw [if_pos z]; rfl)
    · exact (key 1 (by decide)).trans (by rw [if_pos z]; rfl)
    · exact (key 2 (by decide)).trans (by rw [if_pos z]; rfl)
    · exact (key 3 (by decide)).trans (by rw [if_pos z]; rfl)
  · refine ⟨?_, ?_, ?_, ?_⟩
    · obtain ⟨m, hm, e⟩ := h1; exact ⟨m, hm, ((key 0 (by decide)).trans (by rw [if_neg z]; rfl)).trans e⟩
    · obtain ⟨m, hm, e⟩ := h2; exact ⟨m, hm, ((key 1 (by decide)).trans (by rw [if_neg z]; rfl)).trans e⟩
    · obtain ⟨m, hm, e⟩ := h3; exact ⟨m, hm, ((key 2 (by decide)).trans (by rw [if_neg z]; rfl)).trans e⟩
    · obtain ⟨m, hm, e⟩ := h4; exact ⟨m, hm, ((key 3 (by decide)).trans (by rw [if_neg z]; rfl)).trans e⟩
theorem WOK_tr {x : PW} (h : WOK x) : R8 x.2.2.2.2.1 := h.2.2.2.1
theorem WOK_pk {x : PW} (h : WOK x) {p : Nat} (hp : p < 6) : R8 (x.2.1 p) := h.2.2.1 p hp
theorem up_R8 {f : FI} {p : Nat} {v : Int32} (h : ∀ q, q < 6 → R8 (f q)) (hv : R8 v) : ∀ q, q < 6 → R8 (va_up f p v q) := by
  intro q hq
  unfold va_up
  by_cases e : q = p
  · rw [if_pos e]; exact hv
  · rw [if_neg e]; exact h q hq
theorem WOK_addL {x : PW} (h : WOK x) (hn : x.2.2.1 < 10) {a b c d : Nat} (ha : a < 6) (hb : b < 10) (hc : c < 8) (hd : d < 8) : WOK (addL x (nI a) (nI b) (nI c) (nI d)) :=
  ⟨LOK_addL h.1 hn ha hb hc hd, h.2⟩
theorem WOK_addP {x : PW} (h : WOK x) (hn : x.2.2.2.1 < 6) {v : Int32} (hv : R8 v) : WOK (addP x v) :=
  ⟨⟨h.1.1, h.1.2⟩, by show x.2.2.2.1 + 1 ≤ 6; omega, up_R8 h.2.2.1 hv, h.2.2.2⟩
theorem WOK_takeF {x : PW} (h : WOK x) {p : Nat} (hp : p < 6) (t : Int32) : WOK (takeF x p t) :=
  ⟨⟨h.1.1, h.1.2⟩, h.2.1, up_R8 h.2.2.1 (R8.and (WOK_pk h hp)), R8.or (WOK_tr h) (R8.tb t), h.2.2.2.2⟩
theorem WOK_bringF {x : PW} (h : WOK x) {p : Nat} (hp : p < 6) (t : Int32) : WOK (bringF x p t) :=
  ⟨⟨h.1.1, h.1.2⟩, h.2.1, up_R8 h.2.2.1 (R8.or (WOK_pk h hp) (R8.tb t)), R8.and (WOK_tr h), h.2.2.2.2⟩
theorem WOK_clearF {x : PW} (h : WOK x) : WOK (clearF x) := ⟨⟨h.1.1, h.1.2⟩, h.2.1, h.2.2.1, ⟨0, by decide, rfl⟩, h.2.2.2.2⟩
theorem passS_R {x : PW} (h : WOK x) (q : Nat) (hq : q < 6) : R8 ((passS x).1 q) :=
  foldN_inv (passF x) (x.2.1, 0) (fun _ s => ∀ q, q < 6 → R8 (s.1 q)) h.2.2.1 x.2.2.2.1 (fun i s hi hs => up_R8 hs (dEnd_R h.1 (WOK_tr h) 0 (hs i (by have := h.2.1; omega)))) q hq
theorem WOK_passX {x : PW} (h : WOK x) (hd : x.2.2.2.2.2 < 999) : WOK (passX x) := by
  refine ⟨⟨h.1.1, h.1.2⟩, h.2.1, passS_R h, (show R8 x.2.2.2.2.1 from WOK_tr h), ?_⟩
  obtain ⟨n, hn, e⟩ := h.2.2.2.2
  rw [e] at hd
  have := (nlt_iff (b := 999) (by omega) (by decide)).mp hd
  exact ⟨n + 1, by omega, by show x.2.2.2.2.2 + 1 = _; rw [e, n41]⟩
theorem R8.of {v : Int32} (h1 : 0 ≤ v) (h2 : v ≤ 255) : R8 v := by
  have h3 : ¬ v < 0 := Int32.not_lt.mpr h1
  have h4 : v < nI 256 := by
    have e1 := Int32.le_iff_toInt_le.mp h2
    have e3 : ((255 : Int32)).toInt = 255 := by decide
    rw [Int32.lt_iff_toInt_lt, nI_toInt (by decide)]
    omega
  obtain ⟨j, e, hj⟩ := nI_exi h3 h4 (by decide)
  exact ⟨j, hj, e⟩
/-- a statement's digits -/
theorem stOK.dig {t : FI} {p : Nat} (h : stOK t p) {j : Nat} (hj : j < dbN (t p)) : ∃ d, d < 10 ∧ dg t (p + (j + 1)) = nI d := by
  obtain ⟨d, hd, e⟩ := h.2.1 j hj
  refine ⟨d, hd, ?_⟩
  unfold dg
  rw [e]
  have : ∀ d, d < 10 → nI (48 + d) - 48 = nI d := by decide
  exact this d hd
theorem num_3 : ∀ a, a < 10 → ∀ b, b < 10 → ∀ c, c < 10 → 100 * nI a + 10 * nI b + nI c = nI (100 * a + 10 * b + c) := by
  intro a _ b _ c _
  rw [nadd, nadd, nmul, nmul]; rfl
theorem le_nI {a b : Nat} (ha : a < 2 ^ 31) (hb : b < 2 ^ 31) {v : Int32} (e : nI b = v) : nI a ≤ v ↔ a ≤ b := by subst e; exact nle_iff ha hb
theorem inT_lt {n : Nat} (hn : n < 1000) : inT (nI n) = true ↔ n < 8 := by
  unfold inT
  rw [decide_eq_true_eq]
  constructor
  · intro h
    exact (nlt_iff (b := 8) (by omega) (by decide)).mp h.2
  · intro h
    exact ⟨nI_pos' (by omega), (nlt_iff (b := 8) (by omega) (by decide)).mpr h⟩
theorem stF_W {t : FI} {x : PW} {p : Nat} (hW : WOK x) (hS : stOK t p) : WOK ((stF t x p).getD x) := by
  have hP : ∀ {i : Int32}, isP x i = true → i.toNatClampNeg < 6 := by
    intro i hi
    obtain ⟨k, e, hk⟩ := inN_ex hi (by have := hW.2.1; omega)
    rw [e, nI_clamp (by have := hW.2.1; omega)]
    have := hW.2.1
    omega
  unfold stF
  by_cases h1 : t p = 98
  · rw [if_pos h1]
    unfold stB
    split
    · rename_i h
      exact WOK_bringF hW (hP h.1) _
    · exact hW
  rw [if_neg h1]
  by_cases h2 : t p = 108
  · rw [if_pos h2]
    have hd : dbN (t p) = 4 := by rw [h2]; rfl
    obtain ⟨a, ha, ea⟩ := hS.dig (j := 0) (by omega)
    obtain ⟨b, hb, eb⟩ := hS.dig (j := 1) (by omega)
    obtain ⟨c, hc, ec⟩ := hS.dig (j := 2) (by omega)
    obtain ⟨d, hdd, ed⟩ := hS.dig (j := 3) (by omega)
    rw [show p + 1 = p + (0 + 1) from rfl, show p + 2 = p + (1 + 1) from rfl, show p + 3 = p + (2 + 1) from rfl, show p + 4 = p + (3 + 1) from rfl, ea, eb, ec, ed]
    unfold stL
    split
    · rename_i h
      exact WOK_addL hW h.2.2.2 (by have := (le_nI (b := 5) (by omega) (by decide) rfl).mp h.1; omega) hb ((inT_lt (by omega)).mp h.2.1) ((inT_lt (by omega)).mp h.2.2.1)
    · exact hW
  rw [if_neg h2]
  by_cases h3 : t p = 112
  · rw [if_pos h3]
    have hd : dbN (t p) = 3 := by rw [h3]; rfl
    obtain ⟨a, ha, ea⟩ := hS.dig (j := 0) (by omega)
    obtain ⟨b, hb, eb⟩ := hS.dig (j := 1) (by omega)
    obtain ⟨c, hc, ec⟩ := hS.dig (j := 2) (by omega)
    rw [show p + 1 = p + (0 + 1) from rfl, show p + 2 = p + (1 + 1) from rfl, show p + 3 = p + (2 + 1) from rfl, ea, eb, ec, num_3 a ha b hb c hc]
    unfold stP
    split
    · rename_i h
      exact WOK_addP hW h.2 ⟨_, by have := (le_nI (b := 255) (by omega) (by decide) rfl).mp h.1; omega, rfl⟩
    · exact hW
  rw [if_neg h3]
  by_cases h4 : t p = 116
  · rw [if_pos h4]
    unfold stT
    split
    · rename_i h
      exact WOK_takeF hW (hP h.1) _
    · exact hW
  rw [if_neg h4]
  by_cases h5 : t p = 120
  · rw [if_pos h5]
    exact WOK_clearF hW
  rw [if_neg h5]
  unfold stD
  split
  · rename_i h
    exact WOK_passX hW h
  · exact hW
theorem max_DB {c : Int32} (h : c = 98 ∨ c = 100 ∨ c = 108 ∨ c = 112 ∨ c = 116 ∨ c = 120) : (if 0 < DB c then DB c else 0) = nI (dbN c) := by
  rcases h with rfl | rfl | rfl | rfl | rfl | rfl <;> decide
set_option maxHeartbeats 4000000 in
set_option maxRecDepth 100000 in
theorem S_X5_keep (X : En) (l : Launch) {h : Hp} {n k : Nat} (O3 : h 3 = some (paB n k)) (hn : n < 8) (hk : k ≤ 8) {w : Nat} {x x2 : PW} (Ow : h w = some (wB w x)) (On : h (n + 4) = some (wB (n + 4) x2)) (h3 : w ≠ 3) (hw : w ≠ n + 4) : Ct X l mX5_keep [aR 3 0, aR w 0] h (QV (PV2 h ((n + 4)) (wB (n + 4) x) (3) (paB (nxP n) (moP k)))) := by
  have hf : ∀ i, i ≠ (n + 4) → i ≠ 3 → h i = h i := fun _ _ _ => rfl
  refine Ct.intro [some (aR 3 0), some (aR w 0), none] (by decide +kernel) rfl (Nat.le_of_ble_eq_true rfl) ?_
  refine A_aload_n 1 dX5_keep_0 rfl rfl rfl ?_
  refine A_aload_n 2 dX5_keep_1 rfl rfl rfl ?_
  refine A_getfield 5 dX5_keep_2 rfl f_X5_20 O3 rfl ?_
  refine A_callVR 8 (S_X5_worldAt X l (by first | assumption | decide | omega | exact Ne.symm (by assumption)) (by first | assumption | decide | omega | exact Ne.symm (by assumption))) dX5_keep_5 rfl kX5_worldAt lk_X5_23 rfl O3 (by decide) rfl (Nat.le_of_ble_eq_true rfl) (fun v_1 h_1 qh_1 => ?_)
  obtain ⟨rfl, rfl⟩ := qh_1
  refine A_astore_n 9 dX5_keep_8 rfl rfl (by decide) (by first | exact (ast_s (ast_1 rfl)) | exact (ast_s ast_k)) ?_
  refine A_aload_n 10 dX5_keep_9 rfl rfl rfl ?_
  refine A_ifnull 18 13 dX5_keep_10 (by decide) rfl (fun c10 => ?_) (fun c10 => ?_)
  · skip
    exact absurd c10 (by simp)
  · skip
    refine A_aload_n 14 dX5_keep_13 rfl rfl rfl ?_
    refine A_aload_n 15 dX5_keep_14 rfl rfl rfl ?_
    refine A_callVV 18 (S_X8_copyFrom X l (by first | assumption | decide | omega | exact Ne.symm (by assumption)) (by first | assumption | decide | omega | exact Ne.symm (by assumption)) (by first | assumption | decide | omega | exact Ne.symm (by assumption))) dX5_keep_15 rfl kX8_copyFrom lk_X5_27 rfl On (by decide) rfl (Nat.le_of_ble_eq_true rfl) (fun h_2 qh_2 => ?_)
    obtain ⟨n0h_2, eh_2⟩ := qh_2
    replace O3 := (eh_2 _ (by first | assumption | exact Ne.symm (by assumption) | omega)).trans O3
    replace Ow := (eh_2 _ (by first | assumption | exact Ne.symm (by assumption) | omega)).trans Ow
    replace On := n0h_2
    replace hf : ∀ i, i ≠ (n + 4) → i ≠ 3 → h_2 i = h i := fun i g0 g1 => (eh_2 i g0).trans (hf i g0 g1)
    refine A_aload_n 19 dX5_keep_18 rfl rfl rfl ?_
    refine A_joinI 38 (fun v => v = nI (nxP n)) (fun j38 => ?_) (fun v38 e38 => ?_)
    · skip
      refine A_aload_n 20 dX5_keep_19 rfl rfl rfl ?_
      refine A_getfield 23 dX5_keep_20 rfl f_X5_20 O3 rfl ?_
      refine A_bipush 25 (7) dX5_keep_23 rfl (by decide) ?_
      refine A_icmp_ne 32 28 dX5_keep_25 (by decide) rfl (fun c25 => ?_) (fun c25 => ?_)
      · skip
        try simp only [bI_0, bI_n0, Classical.not_not, Bool.not_eq_false, Bool.true_and, Bool.and_true, decide_eq_true_eq, decide_eq_false_iff_not, dayC_1, dayC_21, dayC_221, dayC_222] at c25
        refine A_aload_n 33 dX5_keep_32 rfl rfl rfl ?_
        refine A_getfield 36 dX5_keep_33 rfl f_X5_20 O3 rfl ?_
        refine A_iconst 37 (1) dX5_keep_36 rfl (by decide) ?_
        refine A_iadd 38 dX5_keep_37 rfl ?_
        exact j38 _ (by first | (rw [show nxP n = n + 1 from if_neg (mt (ninj (a := n) (b := 7) (by omega) (by decide)).mpr c25)]; exact n41 n) | (rw [show nxP n = 0 from if_pos ((ninj (a := n) (b := 7) (by omega) (by decide)).mp c25)]; rfl))
      · skip
        try simp only [bI_0, bI_n0, Classical.not_not, Bool.not_eq_false, Bool.true_and, Bool.and_true, decide_eq_true_eq, decide_eq_false_iff_not, dayC_1, dayC_21, dayC_221, dayC_222] at c25
        refine A_iconst 29 (0) dX5_keep_28 rfl (by decide) ?_
        refine A_goto 38 dX5_keep_29 (by decide) ?_
        exact j38 _ (by first | (rw [show nxP n = n + 1 from if_neg (mt (ninj (a := n) (b := 7) (by omega) (by decide)).mpr c25)]; exact n41 n) | (rw [show nxP n = 0 from if_pos ((ninj (a := n) (b := 7) (by omega) (by decide)).mp c25)]; rfl))
    subst e38
    refine P_X5_1 41 dX5_keep_38 rfl fw_X5_20 O3 (fun h_3 nh_3 eh_3 => ?_)
    replace O3 := nh_3
    replace Ow := (eh_3 _ (by first | assumption | exact Ne.symm (by assumption) | omega)).trans Ow
    replace On := (eh_3 _ (by first | assumption | exact Ne.symm (by assumption) | omega)).trans On
    replace hf : ∀ i, i ≠ (n + 4) → i ≠ 3 → h_3 i = h i := fun i g0 g1 => (eh_3 i g1).trans (hf i g0 g1)
    refine A_aload_n 42 dX5_keep_41 rfl rfl rfl ?_
    refine A_getfield 45 dX5_keep_42 rfl f_X5_16 O3 rfl ?_
    refine A_bipush 47 (8) dX5_keep_45 rfl (by decide) ?_
    refine A_icmp_ge 60 50 dX5_keep_47 (by decide) rfl (fun c47 => ?_) (fun c47 => ?_)
    · skip
      try simp only [bI_0, bI_n0, Classical.not_not, Bool.not_eq_false, Bool.true_and, Bool.and_true, decide_eq_true_eq, decide_eq_false_iff_not, dayC_1, dayC_21, dayC_221, dayC_222] at c47
      have n47 := c47
      replace c47 := Int32.not_lt.mpr c47
      have q47 : ¬ k < 8 := mt (nlt_iff (a := k) (b := 8) (by omega) (by decide)).mpr c47
      refine A_vret dX5_keep_60 rfl ⟨rfl, On, (by first | (rw [show moP k = k from if_neg q47]; exact O3) | (rw [show moP k = k + 1 from if_pos q47]; exact O3)), hf⟩
    · skip
      try simp only [bI_0, bI_n0, Classical.not_not, Bool.not_eq_false, Bool.true_and, Bool.and_true, decide_eq_true_eq, decide_eq_false_iff_not, dayC_1, dayC_21, dayC_221, dayC_222] at c47
      have n47 := c47
      replace c47 := Int32.not_le.mp c47
      have q47 : k < 8 := (nlt_iff (a := k) (b := 8) (by omega) (by decide)).mp c47
      refine A_aload_n 51 dX5_keep_50 rfl rfl rfl ?_
      refine A_dup 52 dX5_keep_51 rfl rfl ?_
      refine A_getfield 55 dX5_keep_52 rfl f_X5_16 O3 rfl ?_
      refine A_iconst 56 (1) dX5_keep_55 rfl (by decide) ?_
      refine A_iadd 57 dX5_keep_56 rfl ?_
      rw [n41]
      refine P_X5_2 60 dX5_keep_57 rfl fw_X5_16 O3 (fun h_4 nh_4 eh_4 => ?_)
      replace O3 := nh_4
      replace Ow := (eh_4 _ (by first | assumption | exact Ne.symm (by assumption) | omega)).trans Ow
      replace On := (eh_4 _ (by first | assumption | exact Ne.symm (by assumption) | omega)).trans On
      replace hf : ∀ i, i ≠ (n + 4) → i ≠ 3 → h_4 i = h i := fun i g0 g1 => (eh_4 i g1).trans (hf i g0 g1)
      refine A_vret dX5_keep_60 rfl ⟨rfl, On, (by first | (rw [show moP k = k from if_neg q47]; exact O3) | (rw [show moP k = k + 1 from if_pos q47]; exact O3)), hf⟩
set_option maxHeartbeats 4000000 in
set_option maxRecDepth 100000 in
theorem S_X5_undo (X : En) (l : Launch) {h : Hp} {m k : Nat} (hm : m < 8) (O3 : h 3 = some (paB (nxP m) (k + 1))) (hk : k < 8) {w : Nat} {x x2 : PW} (Ow : h w = some (wB w x)) (On : h (m + 4) = some (wB (m + 4) x2)) (h3 : w ≠ 3) (hw : m + 4 ≠ w) : Ct X l mX5_undo [aR 3 0, aR w 0] h (QI (PI2 (nI k) h (w) (wB w x2) (3) (paB m k))) := by
  have hf : ∀ i, i ≠ w → i ≠ 3 → h i = h i := fun _ _ _ => rfl
  refine Ct.intro [some (aR 3 0), some (aR w 0), none] (by decide +kernel) rfl (Nat.le_of_ble_eq_true rfl) ?_
  refine A_aload_n 1 dX5_undo_0 rfl rfl rfl ?_
  refine A_joinI 19 (fun v => v = nI m) (fun j19 => ?_) (fun v19 e19 => ?_)
  · skip
    refine A_aload_n 2 dX5_undo_1 rfl rfl rfl ?_
    refine A_getfield 5 dX5_undo_2 rfl f_X5_20 O3 rfl ?_
    refine A_if_ne 13 8 dX5_undo_5 (by decide) rfl (fun c5 => ?_) (fun c5 => ?_)
    · skip
      try simp only [bI_0, bI_n0, Classical.not_not, Bool.not_eq_false, Bool.true_and, Bool.and_true, decide_eq_true_eq, decide_eq_false_iff_not, dayC_1, dayC_21, dayC_221, dayC_222] at c5
      have eN : nxP m = m + 1 := by
        by_cases e : m = 7
        · exact absurd (by rw [e]; rfl) c5
        · exact if_neg e
      refine A_aload_n 14 dX5_undo_13 rfl rfl rfl ?_
      refine A_getfield 17 dX5_undo_14 rfl f_X5_20 O3 rfl ?_
      refine A_iconst 18 (1) dX5_undo_17 rfl (by decide) ?_
      refine A_isub 19 dX5_undo_18 rfl ?_
      exact j19 _ (by first | (rw [eN]; exact nI_pred m) | (rw [eN]; rfl))
    · skip
      try simp only [bI_0, bI_n0, Classical.not_not, Bool.not_eq_false, Bool.true_and, Bool.and_true, decide_eq_true_eq, decide_eq_false_iff_not, dayC_1, dayC_21, dayC_221, dayC_222] at c5
      have eN : m = 7 := by
        by_cases e : m = 7
        · exact e
        · exact absurd ((ninj (a := nxP m) (b := 0) (by unfold nxP; split <;> omega) (by decide)).mp c5) (by rw [show nxP m = m + 1 from if_neg e]; omega)
      refine A_bipush 10 (7) dX5_undo_8 rfl (by decide) ?_
      refine A_goto 19 dX5_undo_10 (by decide) ?_
      exact j19 _ (by first | (rw [eN]; exact nI_pred m) | (rw [eN]; rfl))
  subst e19
  refine P_X5_1 22 dX5_undo_19 rfl fw_X5_20 O3 (fun h_1 nh_1 eh_1 => ?_)
  replace O3 := nh_1
  replace Ow := (eh_1 _ (by first | assumption | exact Ne.symm (by assumption) | omega)).trans Ow
  replace On := (eh_1 _ (by first | assumption | exact Ne.symm (by assumption) | omega)).trans On
  replace hf : ∀ i, i ≠ w → i ≠ 3 → h_1 i = h i := fun i g0 g1 => (eh_1 i g1).trans (hf i g0 g1)
  refine A_aload_n 23 dX5_undo_22 rfl rfl rfl ?_
  refine A_aload_n 24 dX5_undo_23 rfl rfl rfl ?_
  refine A_getfield 27 dX5_undo_24 rfl f_X5_20 O3 rfl ?_
  refine A_callVR 30 (S_X5_worldAt X l (by first | assumption | decide | omega | exact Ne.symm (by assumption)) (by first | assumption | decide | omega | exact Ne.symm (by assumption))) dX5_undo_27 rfl kX5_worldAt lk_X5_23 rfl O3 (by decide) rfl (Nat.le_of_ble_eq_true rfl) (fun v_2 h_2 qh_2 => ?_)
  obtain ⟨rfl, rfl⟩ := qh_2
  refine A_astore_n 31 dX5_undo_30 rfl rfl (by decide) (by first | exact (ast_s (ast_1 rfl)) | exact (ast_s ast_k)) ?_
  refine A_aload_n 32 dX5_undo_31 rfl rfl rfl ?_
  refine A_ifnull 40 35 dX5_undo_32 (by decide) rfl (fun c32 => ?_) (fun c32 => ?_)
  · skip
    exact absurd c32 (by simp)
  · skip
    refine A_aload_n 36 dX5_undo_35 rfl rfl rfl ?_
    refine A_aload_n 37 dX5_undo_36 rfl rfl rfl ?_
    refine A_callVV 40 (S_X8_copyFrom X l (by first | assumption | decide | omega | exact Ne.symm (by assumption)) (by first | assumption | decide | omega | exact Ne.symm (by assumption)) (by first | assumption | decide | omega | exact Ne.symm (by assumption))) dX5_undo_37 rfl kX8_copyFrom lk_X5_27 rfl Ow (by decide) rfl (Nat.le_of_ble_eq_true rfl) (fun h_3 qh_3 => ?_)
    obtain ⟨n0h_3, eh_3⟩ := qh_3
    replace O3 := (eh_3 _ (by first | assumption | exact Ne.symm (by assumption) | omega)).trans O3
    replace Ow := n0h_3
    replace On := (eh_3 _ (by first | assumption | exact Ne.symm (by assumption) | omega)).trans On
    replace hf : ∀ i, i ≠ w → i ≠ 3 → h_3 i = h i := fun i g0 g1 => (eh_3 i g0).trans (hf i g0 g1)
    refine A_aload_n 41 dX5_undo_40 rfl rfl rfl ?_
    refine A_dup 42 dX5_undo_41 rfl rfl ?_
    refine A_getfield 45 dX5_undo_42 rfl f_X5_16 O3 rfl ?_
    refine A_iconst 46 (1) dX5_undo_45 rfl (by decide) ?_
    refine A_isub 47 dX5_undo_46 rfl ?_
    rw [nI_pred]
    refine P_X5_2 50 dX5_undo_47 rfl fw_X5_16 O3 (fun h_4 nh_4 eh_4 => ?_)
    replace O3 := nh_4
    replace Ow := (eh_4 _ (by first | assumption | exact Ne.symm (by assumption) | omega)).trans Ow
    replace On := (eh_4 _ (by first | assumption | exact Ne.symm (by assumption) | omega)).trans On
    replace hf : ∀ i, i ≠ w → i ≠ 3 → h_4 i = h i := fun i g0 g1 => (eh_4 i g1).trans (hf i g0 g1)
    refine A_aload_n 51 dX5_undo_50 rfl rfl rfl ?_
    refine A_getfield 54 dX5_undo_51 rfl f_X5_16 O3 rfl ?_
    refine A_iret dX5_undo_54 rfl ⟨_, rfl, (by first | with_reducible rfl | (simp only [if_true, if_false, ite_true, ite_false, and_true, true_and, and_false, false_and, and_self, or_true, true_or, or_false, false_or, or_self, not_true_eq_false, not_false_eq_true, decide_true, decide_false, Bool.and_true, Bool.true_and, Bool.and_false, Bool.false_and, Bool.and_self, Bool.or_true, Bool.true_or, Bool.or_false, Bool.false_or, Bool.not_true, Bool.not_false, cond_true, cond_false, bI_t, bI_f, Bool.false_eq_true, Bool.true_eq_false, dayC_1, dayC_21, dayC_221, dayC_222]; done) | (simp only [*]; done) | (simp [bI, *]; done) | with_reducible_and_instances rfl), Ow, O3, hf⟩
set_option maxHeartbeats 4000000 in
set_option maxRecDepth 100000 in
theorem S_X4_size (X : En) (l : Launch) {h : Hp} {t : FI} {n k : Nat} (O12 : h 12 = some (leB t n k)) : Ct X l mX4_size [aR 12 0] h (QI (PI0 (nI n) h)) := by
  refine Ct.intro [some (aR 12 0)] (by decide +kernel) rfl (Nat.le_of_ble_eq_true rfl) ?_
  refine A_aload_n 1 dX4_size_0 rfl rfl rfl ?_
  refine A_getfield 4 dX4_size_1 rfl f_X4_29 O12 rfl ?_
  refine A_iret dX4_size_4 rfl ⟨_, rfl, (by first | with_reducible rfl | (simp only [if_true, if_false, ite_true, ite_false, and_true, true_and, and_false, false_and, and_self, or_true, true_or, or_false, false_or, or_self, not_true_eq_false, not_false_eq_true, decide_true, decide_false, Bool.and_true, Bool.true_and, Bool.and_false, Bool.false_and, Bool.and_self, Bool.or_true, Bool.true_or, Bool.or_false, Bool.false_or, Bool.not_true, Bool.not_false, cond_true, cond_false, bI_t, bI_f, Bool.false_eq_true, Bool.true_eq_false, dayC_1, dayC_21, dayC_221, dayC_222]; done) | (simp only [*]; done) | (simp [bI, *]; done) | with_reducible_and_instances rfl), rfl⟩
set_option maxHeartbeats 4000000 in
set_option maxRecDepth 100000 in
theorem S_X4_isFull (X : En) (l : Launch) {h : Hp} {t : FI} {n k : Nat} (O12 : h 12 = some (leB t n k)) (hn : n ≤ 96) : Ct X l mX4_isFull [aR 12 0] h (QI (PI0 (bI (decide (n = 96))) h)) := by
  refine Ct.intro [some (aR 12 0)] (by decide +kernel) rfl (Nat.le_of_ble_eq_true rfl) ?_
  refine A_aload_n 1 dX4_isFull_0 rfl rfl rfl ?_
  refine A_getfield 4 dX4_isFull_1 rfl f_X4_29 O12 rfl ?_
  refine A_bipush 6 (96) dX4_isFull_4 rfl (by decide) ?_
  refine A_icmp_lt 13 9 dX4_isFull_6 (by decide) rfl (fun c6 => ?_) (fun c6 => ?_)
  · skip
    try simp only [bI_0, bI_n0, Classical.not_not, Bool.not_eq_false, Bool.true_and, Bool.and_true, decide_eq_true_eq, decide_eq_false_iff_not, dayC_1, dayC_21, dayC_221, dayC_222] at c6
    have n6 := Int32.not_le.mpr c6
    refine A_iconst 14 (0) dX4_isFull_13 rfl (by decide) ?_
    refine A_zret dX4_isFull_14 rfl (by first | with_reducible exact bI01 _ | with_reducible exact Or.inl rfl | with_reducible exact Or.inr rfl | assumption) ⟨_, rfl, (by first | (rw [decide_eq_true (show n = 96 by have := mt (nlt_iff (a := n) (b := 96) (by omega) (by decide)).mpr c6; omega)]; rfl) | (rw [decide_eq_false (show ¬ n = 96 by have := (nlt_iff (a := n) (b := 96) (by omega) (by decide)).mp c6; omega)]; rfl)), rfl⟩
  · skip
    try simp only [bI_0, bI_n0, Classical.not_not, Bool.not_eq_false, Bool.true_and, Bool.and_true, decide_eq_true_eq, decide_eq_false_iff_not, dayC_1, dayC_21, dayC_221, dayC_222] at c6
    have n6 := Int32.not_lt.mp c6
    refine A_iconst 10 (1) dX4_isFull_9 rfl (by decide) ?_
    refine A_goto 14 dX4_isFull_10 (by decide) ?_
    refine A_zret dX4_isFull_14 rfl (by first | with_reducible exact bI01 _ | with_reducible exact Or.inl rfl | with_reducible exact Or.inr rfl | assumption) ⟨_, rfl, (by first | (rw [decide_eq_true (show n = 96 by have := mt (nlt_iff (a := n) (b := 96) (by omega) (by decide)).mpr c6; omega)]; rfl) | (rw [decide_eq_false (show ¬ n = 96 by have := (nlt_iff (a := n) (b := 96) (by omega) (by decide)).mp c6; omega)]; rfl)), rfl⟩
set_option maxHeartbeats 4000000 in
set_option maxRecDepth 100000 in
theorem S_X4_put (X : En) (l : Launch) {h : Hp} {t : FI} {n k : Nat} (O12 : h 12 = some (leB t n k)) (hn : n < 96) {v : Int32} : Ct X l mX4_put [aR 12 0, aI v] h (QI (PI1 (nI (n + 1)) h (12) (leB (va_up t n v) (n + 1) k))) := by
  have hf : ∀ i, i ≠ 12 → h i = h i := fun _ _ => rfl
  refine Ct.intro [some (aR 12 0), some (aI v)] (by decide +kernel) rfl (Nat.le_of_ble_eq_true rfl) ?_
  refine A_aload_n 1 dX4_put_0 rfl rfl rfl ?_
  refine A_getfield 4 dX4_put_1 rfl f_X4_11 O12 rfl ?_
  refine A_aload_n 5 dX4_put_4 rfl rfl rfl ?_
  refine A_getfield 8 dX4_put_5 rfl f_X4_29 O12 rfl ?_
  refine A_iload_n 9 dX4_put_8 rfl rfl rfl ?_
  refine A_callNV 12 (S_X9_put_X4_0 X l (by first | assumption | decide | omega | exact Ne.symm (by assumption)) (by first | assumption | exact ix_nI (by omega) (by decide) | exact ix_lit _ rfl (by omega) (by decide) | exact ix_lit _ rfl (by decide) (by decide))) dX4_put_9 rfl kX9_put nk_X4_33 rfl (by decide) rfl (Nat.le_of_ble_eq_true rfl) (fun h_1 qh_1 => ?_)
  obtain ⟨n0h_1, eh_1⟩ := qh_1
  replace O12 := n0h_1
  replace hf : ∀ i, i ≠ 12 → h_1 i = h i := fun i g0 => (eh_1 i g0).trans (hf i g0)
  refine A_aload_n 13 dX4_put_12 rfl rfl rfl ?_
  refine A_dup 14 dX4_put_13 rfl rfl ?_
  refine A_getfield 17 dX4_put_14 rfl f_X4_29 O12 rfl ?_
  refine A_iconst 18 (1) dX4_put_17 rfl (by decide) ?_
  refine A_iadd 19 dX4_put_18 rfl ?_
  rw [n41]
  refine P_X4_3 22 dX4_put_19 rfl fw_X4_29 O12 (fun h_2 nh_2 eh_2 => ?_)
  replace O12 := nh_2
  replace hf : ∀ i, i ≠ 12 → h_2 i = h i := fun i g0 => (eh_2 i g0).trans (hf i g0)
  refine A_aload_n 23 dX4_put_22 rfl rfl rfl ?_
  refine A_getfield 26 dX4_put_23 rfl f_X4_29 O12 rfl ?_
  refine A_iret dX4_put_26 rfl ⟨_, rfl, (by first | with_reducible rfl | (simp only [if_true, if_false, ite_true, ite_false, and_true, true_and, and_false, false_and, and_self, or_true, true_or, or_false, false_or, or_self, not_true_eq_false, not_false_eq_true, decide_true, decide_false, Bool.and_true, Bool.true_and, Bool.and_false, Bool.false_and, Bool.and_self, Bool.or_true, Bool.true_or, Bool.or_false, Bool.false_or, Bool.not_true, Bool.not_false, cond_true, cond_false, bI_t, bI_f, Bool.false_eq_true, Bool.true_eq_false, dayC_1, dayC_21, dayC_221, dayC_222]; done) | (simp only [*]; done) | (simp [bI, *]; done) | with_reducible_and_instances rfl), O12, hf⟩
set_option maxHeartbeats 4000000 in
set_option maxRecDepth 100000 in
theorem S_X4_wipe (X : En) (l : Launch) {h : Hp} {t : FI} {n k : Nat} (O12 : h 12 = some (leB t n k)) : Ct X l mX4_wipe [aR 12 0] h (QV (PV1 h (12) (leB t 0 k))) := by
  have hf : ∀ i, i ≠ 12 → h i = h i := fun _ _ => rfl
  refine Ct.intro [some (aR 12 0)] (by decide +kernel) rfl (Nat.le_of_ble_eq_true rfl) ?_
  refine A_aload_n 1 dX4_wipe_0 rfl rfl rfl ?_
  refine A_iconst 2 (0) dX4_wipe_1 rfl (by decide) ?_
  refine P_X4_3 5 dX4_wipe_2 rfl fw_X4_29 O12 (fun h_1 nh_1 eh_1 => ?_)
  replace O12 := nh_1
  replace hf : ∀ i, i ≠ 12 → h_1 i = h i := fun i g0 => (eh_1 i g0).trans (hf i g0)
  refine A_vret dX4_wipe_5 rfl ⟨rfl, O12, hf⟩
set_option maxHeartbeats 4000000 in
set_option maxRecDepth 100000 in
theorem S_X4_statementsTold (X : En) (l : Launch) {h : Hp} {t : FI} {n k : Nat} (O12 : h 12 = some (leB t n k)) : Ct X l mX4_statementsTold [aR 12 0] h (QI (PI0 (nI k) h)) := by
  refine Ct.intro [some (aR 12 0)] (by decide +kernel) rfl (Nat.le_of_ble_eq_true rfl) ?_
  refine A_aload_n 1 dX4_statementsTold_0 rfl rfl rfl ?_
  refine A_getfield 4 dX4_statementsTold_1 rfl f_X4_37 O12 rfl ?_
  refine A_iret dX4_statementsTold_4 rfl ⟨_, rfl, (by first | with_reducible rfl | (simp only [if_true, if_false, ite_true, ite_false, and_true, true_and, and_false, false_and, and_self, or_true, true_or, or_false, false_or, or_self, not_true_eq_false, not_false_eq_true, decide_true, decide_false, Bool.and_true, Bool.true_and, Bool.and_false, Bool.false_and, Bool.and_self, Bool.or_true, Bool.true_or, Bool.or_false, Bool.false_or, Bool.not_true, Bool.not_false, cond_true, cond_false, bI_t, bI_f, Bool.false_eq_true, Bool.true_eq_false, dayC_1, dayC_21, dayC_221, dayC_222]; done) | (simp only [*]; done) | (simp [bI, *]; done) | with_reducible_and_instances rfl), rfl⟩
set_option maxHeartbeats 4000000 in
set_option maxRecDepth 100000 in
theorem S_X4_handOver (X : En) (l : Launch) {h : Hp} {t : FI} {n k : Nat} (O12 : h 12 = some (leB t n k)) {x x13 : PW} (O1 : h 1 = some (wB 1 x)) (O13 : h 13 = some (wB 13 x13)) : Ct X l mX4_handOver [aR 12 0, aR 1 0] h (QV (PV1 h (1) (wB 1 x13))) := by
  have hf : ∀ i, i ≠ 1 → h i = h i := fun _ _ => rfl
  refine Ct.intro [some (aR 12 0), some (aR 1 0)] (by decide +kernel) rfl (Nat.le_of_ble_eq_true rfl) ?_
  refine A_aload_n 1 dX4_handOver_0 rfl rfl rfl ?_
  refine A_aload_n 2 dX4_handOver_1 rfl rfl rfl ?_
  refine A_getfield 5 dX4_handOver_2 rfl f_X4_18 O12 rfl ?_
  refine A_callVV 8 (S_X8_copyFrom X l (by first | assumption | decide | omega | exact Ne.symm (by assumption)) (by first | assumption | decide | omega | exact Ne.symm (by assumption)) (by first | assumption | decide | omega | exact Ne.symm (by assumption))) dX4_handOver_5 rfl kX8_copyFrom lk_X4_40 rfl O1 (by decide) rfl (Nat.le_of_ble_eq_true rfl) (fun h_1 qh_1 => ?_)
  obtain ⟨n0h_1, eh_1⟩ := qh_1
  replace O12 := (eh_1 _ (by decide)).trans O12
  replace O1 := n0h_1
  replace O13 := (eh_1 _ (by decide)).trans O13
  replace hf : ∀ i, i ≠ 1 → h_1 i = h i := fun i g0 => (eh_1 i g0).trans (hf i g0)
  refine A_vret dX4_handOver_8 rfl ⟨rfl, O1, hf⟩
set_option maxHeartbeats 4000000 in
set_option maxRecDepth 100000 in
theorem S_X4_digitsBehind (X : En) (l : Launch) {h : Hp} {c : Int32} : Ct X l mX4_digitsBehind [aI c] h (QI (PI0 (DB c) h)) := by
  refine Ct.intro [some (aI c)] (by decide +kernel) rfl (Nat.le_of_ble_eq_true rfl) ?_
  refine A_iload_n 1 dX4_digitsBehind_0 rfl rfl rfl ?_
  refine A_case (98) (fun e1_98 => ?_) (fun e1_98 => ?_)
  · skip
    refine A_lookup 64 dX4_digitsBehind_1 (off := 63) (by decide) (by rw [e1_98]; decide) (by decide) ?_
    refine A_iconst 65 (2) dX4_digitsBehind_64 rfl (by decide) ?_
    have es : DB c = 2 := by
      unfold DB
      rw [if_pos e1_98]
    refine A_iret dX4_digitsBehind_65 rfl ⟨_, rfl, (by rw [es]), rfl⟩
  refine A_case (100) (fun e1_100 => ?_) (fun e1_100 => ?_)
  · skip
    refine A_lookup 66 dX4_digitsBehind_1 (off := 65) (by decide) (by rw [e1_100]; decide) (by decide) ?_
    refine A_iconst 67 (0) dX4_digitsBehind_66 rfl (by decide) ?_
    have es : DB c = 0 := by
      unfold DB
      rw [if_neg e1_98, if_pos e1_100]
    refine A_iret dX4_digitsBehind_67 rfl ⟨_, rfl, (by rw [es]), rfl⟩
  refine A_case (108) (fun e1_108 => ?_) (fun e1_108 => ?_)
  · skip
    refine A_lookup 60 dX4_digitsBehind_1 (off := 59) (by decide) (by rw [e1_108]; decide) (by decide) ?_
    refine A_iconst 61 (4) dX4_digitsBehind_60 rfl (by decide) ?_
    have es : DB c = 4 := by
      unfold DB
      rw [if_neg e1_98, if_neg e1_100, if_pos e1_108]
    refine A_iret dX4_digitsBehind_61 rfl ⟨_, rfl, (by rw [es]), rfl⟩
  refine A_case (112) (fun e1_112 => ?_) (fun e1_112 => ?_)
  · skip
    refine A_lookup 62 dX4_digitsBehind_1 (off := 61) (by decide) (by rw [e1_112]; decide) (by decide) ?_
    refine A_iconst 63 (3) dX4_digitsBehind_62 rfl (by decide) ?_
    have es : DB c = 3 := by
      unfold DB
      rw [if_neg e1_98, if_neg e1_100, if_neg e1_108, if_pos e1_112]
    refine A_iret dX4_digitsBehind_63 rfl ⟨_, rfl, (by rw [es]), rfl⟩
  refine A_case (116) (fun e1_116 => ?_) (fun e1_116 => ?_)
  · skip
    refine A_lookup 64 dX4_digitsBehind_1 (off := 63) (by decide) (by rw [e1_116]; decide) (by decide) ?_
    refine A_iconst 65 (2) dX4_digitsBehind_64 rfl (by decide) ?_
    have es : DB c = 2 := by
      unfold DB
      rw [if_neg e1_98, if_neg e1_100, if_neg e1_108, if_neg e1_112, if_pos e1_116]
    refine A_iret dX4_digitsBehind_65 rfl ⟨_, rfl, (by rw [es]), rfl⟩
  refine A_case (120) (fun e1_120 => ?_) (fun e1_120 => ?_)
  · skip
    refine A_lookup 66 dX4_digitsBehind_1 (off := 65) (by decide) (by rw [e1_120]; decide) (by decide) ?_
    refine A_iconst 67 (0) dX4_digitsBehind_66 rfl (by decide) ?_
    have es : DB c = 0 := by
      unfold DB
      rw [if_neg e1_98, if_neg e1_100, if_neg e1_108, if_neg e1_112, if_neg e1_116, if_pos e1_120]
    refine A_iret dX4_digitsBehind_67 rfl ⟨_, rfl, (by rw [es]), rfl⟩
  refine A_lookup 68 dX4_digitsBehind_1 (off := 67) (by decide) (by have q0 := Ne.symm (ne_toInt (k := 98) (z := 98) e1_98 (by decide)); have q1 := Ne.symm (ne_toInt (k := 100) (z := 100) e1_100 (by decide)); have q2 := Ne.symm (ne_toInt (k := 108) (z := 108) e1_108 (by decide)); have q3 := Ne.symm (ne_toInt (k := 112) (z := 112) e1_112 (by decide)); have q4 := Ne.symm (ne_toInt (k := 116) (z := 116) e1_116 (by decide)); have q5 := Ne.symm (ne_toInt (k := 120) (z := 120) e1_120 (by decide)); show (if _ then _ else _) = _; simp [Op.lookupswitch.offset, *]) (by decide) ?_
  refine A_iconst 69 (-1) dX4_digitsBehind_68 rfl (by decide) ?_
  have es : DB c = -1 := by
    unfold DB
    rw [if_neg e1_98, if_neg e1_100, if_neg e1_108, if_neg e1_112, if_neg e1_116, if_neg e1_120]
  refine A_iret dX4_digitsBehind_69 rfl ⟨_, rfl, (by rw [es]), rfl⟩
set_option maxHeartbeats 4000000 in
set_option maxRecDepth 100000 in
theorem S_X4_faultOfForm (X : En) (l : Launch) {h : Hp} {t : FI} {n k : Nat} (O12 : h 12 = some (leB t n k)) (hn : n ≤ 96) : Ct X l mX4_faultOfForm [aR 12 0] h (QI (PI0 (formF t n) h)) := by
  refine Ct.intro [some (aR 12 0), none, none, none] (by decide +kernel) rfl (Nat.le_of_ble_eq_true rfl) ?_
  refine A_iconst 1 (-1) dX4_faultOfForm_0 rfl (by decide) ?_
  refine A_istore_n 2 dX4_faultOfForm_1 rfl rfl (by decide) (by first | exact (ast_1 rfl) | exact ast_k) ?_
  refine A_iconst 3 (0) dX4_faultOfForm_2 rfl (by decide) ?_
  refine A_istore_n 4 dX4_faultOfForm_3 rfl rfl (by decide) (by first | exact (ast_s (ast_1 rfl)) | exact (ast_s ast_k)) ?_
  have L4 : ∀ (nq i : Nat) (d : Int32) , (nq + i = n) → (fmN t n nq i d = formF t n) → Av X l mX4_faultOfForm 4 [some (aR 12 0), some (aI (d)), some (aI (nI (i))), none] [] h (QI (PI0 (formF t n) h)) := by
    intro nq
    induction nq using Nat.strongRecOn with
    | _ nq ih =>
    intro i d en ee
    refine A_iload_n 5 dX4_faultOfForm_4 rfl rfl rfl ?_
    refine A_aload_n 6 dX4_faultOfForm_5 rfl rfl rfl ?_
    refine A_getfield 9 dX4_faultOfForm_6 rfl f_X4_29 O12 rfl ?_
    refine A_icmp_ge 77 12 dX4_faultOfForm_9 (by decide) rfl (fun c9 => ?_) (fun c9 => ?_)
    · skip
      obtain rfl := (up_ge_T (N := n) c9 rfl (by omega) (by omega)).symm
      refine A_aload_n 78 dX4_faultOfForm_77 rfl rfl rfl ?_
      refine A_getfield 81 dX4_faultOfForm_78 rfl f_X4_29 O12 rfl ?_
      refine A_if_eq 89 84 dX4_faultOfForm_81 (by decide) rfl (fun c81 => ?_) (fun c81 => ?_)
      · skip
        try simp only [bI_0, bI_n0, Classical.not_not, Bool.not_eq_false, Bool.true_and, Bool.and_true, decide_eq_true_eq, decide_eq_false_iff_not, dayC_1, dayC_21, dayC_221, dayC_222] at c81
        refine A_aload_n 90 dX4_faultOfForm_89 rfl rfl rfl ?_
        refine A_getfield 93 dX4_faultOfForm_90 rfl f_X4_29 O12 rfl ?_
        refine A_goto 97 dX4_faultOfForm_93 (by decide) ?_
        refine A_iret dX4_faultOfForm_97 rfl ⟨_, rfl, (by rw [← ee, show nq = 0 by omega, fmN_0]; simp only [c81, if_true, if_false, ite_true, ite_false, and_true, true_and, and_false, false_and, and_self, or_true, true_or, or_false, false_or, or_self, not_true_eq_false, not_false_eq_true, decide_true, decide_false, Bool.and_true, Bool.true_and, Bool.and_false, Bool.false_and, Bool.and_self, Bool.or_true, Bool.true_or, Bool.or_false, Bool.false_or, Bool.not_true, Bool.not_false, cond_true, cond_false, bI_t, bI_f, Bool.false_eq_true, Bool.true_eq_false, dayC_1, dayC_21, dayC_221, dayC_222]), rfl⟩
      · skip
        try simp only [bI_0, bI_n0, Classical.not_not, Bool.not_eq_false, Bool.true_and, Bool.and_true, decide_eq_true_eq, decide_eq_false_iff_not, dayC_1, dayC_21, dayC_221, dayC_222] at c81
        refine A_iload_n 85 dX4_faultOfForm_84 rfl rfl rfl ?_
        refine A_iconst 86 (-1) dX4_faultOfForm_85 rfl (by decide) ?_
        refine A_icmp_eq 96 89 dX4_faultOfForm_86 (by decide) rfl (fun c86 => ?_) (fun c86 => ?_)
        · skip
          try simp only [bI_0, bI_n0, Classical.not_not, Bool.not_eq_false, Bool.true_and, Bool.and_true, decide_eq_true_eq, decide_eq_false_iff_not, dayC_1, dayC_21, dayC_221, dayC_222] at c86
          refine A_iconst 97 (-1) dX4_faultOfForm_96 rfl (by decide) ?_
          refine A_iret dX4_faultOfForm_97 rfl ⟨_, rfl, (by rw [← ee, show nq = 0 by omega, fmN_0]; simp only [c81, c86, if_true, if_false, ite_true, ite_false, and_true, true_and, and_false, false_and, and_self, or_true, true_or, or_false, false_or, or_self, not_true_eq_false, not_false_eq_true, decide_true, decide_false, Bool.and_true, Bool.true_and, Bool.and_false, Bool.false_and, Bool.and_self, Bool.or_true, Bool.true_or, Bool.or_false, Bool.false_or, Bool.not_true, Bool.not_false, cond_true, cond_false, bI_t, bI_f, Bool.false_eq_true, Bool.true_eq_false, dayC_1, dayC_21, dayC_221, dayC_222]), rfl⟩
        · skip
          try simp only [bI_0, bI_n0, Classical.not_not, Bool.not_eq_false, Bool.true_and, Bool.and_true, decide_eq_true_eq, decide_eq_false_iff_not, dayC_1, dayC_21, dayC_221, dayC_222] at c86
          refine A_aload_n 90 dX4_faultOfForm_89 rfl rfl rfl ?_
          refine A_getfield 93 dX4_faultOfForm_90 rfl f_X4_29 O12 rfl ?_
          refine A_goto 97 dX4_faultOfForm_93 (by decide) ?_
          refine A_iret dX4_faultOfForm_97 rfl ⟨_, rfl, (by rw [← ee, show nq = 0 by omega, fmN_0]; simp only [c81, c86, if_true, if_false, ite_true, ite_false, and_true, true_and, and_false, false_and, and_self, or_true, true_or, or_false, false_or, or_self, not_true_eq_false, not_false_eq_true, decide_true, decide_false, Bool.and_true, Bool.true_and, Bool.and_false, Bool.false_and, Bool.and_self, Bool.or_true, Bool.true_or, Bool.or_false, Bool.false_or, Bool.not_true, Bool.not_false, cond_true, cond_false, bI_t, bI_f, Bool.false_eq_true, Bool.true_eq_false, dayC_1, dayC_21, dayC_221, dayC_222]), rfl⟩
    · skip
      have hi := up_ge_F (N := n) c9 rfl (by omega) (by omega)
      obtain ⟨n0, rfl⟩ : ∃ q, nq = q + 1 := ⟨nq - 1, by omega⟩
      refine A_aload_n 13 dX4_faultOfForm_12 rfl rfl rfl ?_
      refine A_getfield 16 dX4_faultOfForm_13 rfl f_X4_11 O12 rfl ?_
      refine A_iload_n 17 dX4_faultOfForm_16 rfl rfl rfl ?_
      refine A_callNI 20 (S_X9_cell_X4_0 X l (by first | assumption | decide | omega | exact Ne.symm (by assumption)) (by first | assumption | exact ix_nI (by omega) (by decide) | exact ix_lit _ rfl (by omega) (by decide) | exact ix_lit _ rfl (by decide) (by decide))) dX4_faultOfForm_17 rfl kX9_cell nk_X4_44 rfl (by decide) rfl (Nat.le_of_ble_eq_true rfl) (fun v_1 h_1 qh_1 => ?_)
      obtain ⟨rfl, rfl⟩ := qh_1
      refine A_istore_n 21 dX4_faultOfForm_20 rfl rfl (by decide) (by first | exact (ast_s (ast_s (ast_1 rfl))) | exact (ast_s (ast_s ast_k))) ?_
      refine A_iload_n 22 dX4_faultOfForm_21 rfl rfl rfl ?_
      refine A_iconst 23 (-1) dX4_faultOfForm_22 rfl (by decide) ?_
      refine A_icmp_ne 37 26 dX4_faultOfForm_23 (by decide) rfl (fun c23 => ?_) (fun c23 => ?_)
      · skip
        try simp only [bI_0, bI_n0, Classical.not_not, Bool.not_eq_false, Bool.true_and, Bool.and_true, decide_eq_true_eq, decide_eq_false_iff_not, dayC_1, dayC_21, dayC_221, dayC_222] at c23
        refine A_iload_n 38 dX4_faultOfForm_37 rfl rfl rfl ?_
        refine A_if_le 61 41 dX4_faultOfForm_38 (by decide) rfl (fun c38 => ?_) (fun c38 => ?_)
        · skip
          try simp only [bI_0, bI_n0, Classical.not_not, Bool.not_eq_false, Bool.true_and, Bool.and_true, decide_eq_true_eq, decide_eq_false_iff_not, dayC_1, dayC_21, dayC_221, dayC_222] at c38
          have n38 := c38
          replace c38 := Int32.not_lt.mpr c38
          refine A_iload_n 62 dX4_faultOfForm_61 rfl rfl rfl ?_
          refine A_bipush 64 (59) dX4_faultOfForm_62 rfl (by decide) ?_
          refine A_icmp_eq 69 67 dX4_faultOfForm_64 (by decide) rfl (fun c64 => ?_) (fun c64 => ?_)
          · skip
            try simp only [bI_0, bI_n0, Classical.not_not, Bool.not_eq_false, Bool.true_and, Bool.and_true, decide_eq_true_eq, decide_eq_false_iff_not, dayC_1, dayC_21, dayC_221, dayC_222] at c64
            refine A_iconst 70 (-1) dX4_faultOfForm_69 rfl (by decide) ?_
            refine A_istore_n 71 dX4_faultOfForm_70 rfl rfl (by decide) (by first | exact (ast_1 rfl) | exact ast_k) ?_
            first | refine A_iincN 74 dX4_faultOfForm_71 rfl rfl (by decide) (by first | exact (ast_s (ast_1 rfl)) | exact (ast_s ast_k)) ?_ | refine A_iinc 74 (1) dX4_faultOfForm_71 rfl rfl (by decide) (by decide) (by first | exact (ast_s (ast_1 rfl)) | exact (ast_s ast_k)) ?_
            refine A_goto 4 dX4_faultOfForm_74 (by decide) ?_
            exact A_weak (ih n0 (Nat.lt_succ_self n0) (i + 1) _  (by omega) ((by rw [fmN_s]; simp only [c23, c38, n38, c64, if_true, if_false, ite_true, ite_false, and_true, true_and, and_false, false_and, and_self, or_true, true_or, or_false, false_or, or_self, not_true_eq_false, not_false_eq_true, decide_true, decide_false, Bool.and_true, Bool.true_and, Bool.and_false, Bool.false_and, Bool.and_self, Bool.or_true, Bool.true_or, Bool.or_false, Bool.false_or, Bool.not_true, Bool.not_false, cond_true, cond_false, bI_t, bI_f, Bool.false_eq_true, Bool.true_eq_false, dayC_1, dayC_21, dayC_221, dayC_222] : fmN t n (n0 + 1) i d = fmN t n n0 (i + 1) _).symm.trans ee) ) (sub_s (sub_s (sub_s (sub_n sub_nil))))
          · skip
            try simp only [bI_0, bI_n0, Classical.not_not, Bool.not_eq_false, Bool.true_and, Bool.and_true, decide_eq_true_eq, decide_eq_false_iff_not, dayC_1, dayC_21, dayC_221, dayC_222] at c64
            refine A_iload_n 68 dX4_faultOfForm_67 rfl rfl rfl ?_
            refine A_iret dX4_faultOfForm_68 rfl ⟨_, rfl, (by rw [← ee, fmN_s]; simp only [c23, c38, n38, c64, if_true, if_false, ite_true, ite_false, and_true, true_and, and_false, false_and, and_self, or_true, true_or, or_false, false_or, or_self, not_true_eq_false, not_false_eq_true, decide_true, decide_false, Bool.and_true, Bool.true_and, Bool.and_false, Bool.false_and, Bool.and_self, Bool.or_true, Bool.true_or, Bool.or_false, Bool.false_or, Bool.not_true, Bool.not_false, cond_true, cond_false, bI_t, bI_f, Bool.false_eq_true, Bool.true_eq_false, dayC_1, dayC_21, dayC_221, dayC_222]), rfl⟩
        · skip
          try simp only [bI_0, bI_n0, Classical.not_not, Bool.not_eq_false, Bool.true_and, Bool.and_true, decide_eq_true_eq, decide_eq_false_iff_not, dayC_1, dayC_21, dayC_221, dayC_222] at c38
          have n38 := c38
          replace c38 := Int32.not_le.mp c38
          refine A_iload_n 42 dX4_faultOfForm_41 rfl rfl rfl ?_
          refine A_bipush 44 (48) dX4_faultOfForm_42 rfl (by decide) ?_
          refine A_icmp_lt 53 47 dX4_faultOfForm_44 (by decide) rfl (fun c44 => ?_) (fun c44 => ?_)
          · skip
            try simp only [bI_0, bI_n0, Classical.not_not, Bool.not_eq_false, Bool.true_and, Bool.and_true, decide_eq_true_eq, decide_eq_false_iff_not, dayC_1, dayC_21, dayC_221, dayC_222] at c44
            have n44 := Int32.not_le.mpr c44
            refine A_iload_n 54 dX4_faultOfForm_53 rfl rfl rfl ?_
            refine A_iret dX4_faultOfForm_54 rfl ⟨_, rfl, (by rw [← ee, fmN_s]; simp only [c23, c38, n38, c44, n44, if_true, if_false, ite_true, ite_false, and_true, true_and, and_false, false_and, and_self, or_true, true_or, or_false, false_or, or_self, not_true_eq_false, not_false_eq_true, decide_true, decide_false, Bool.and_true, Bool.true_and, Bool.and_false, Bool.false_and, Bool.and_self, Bool.or_true, Bool.true_or, Bool.or_false, Bool.false_or, Bool.not_true, Bool.not_false, cond_true, cond_false, bI_t, bI_f, Bool.false_eq_true, Bool.true_eq_false, dayC_1, dayC_21, dayC_221, dayC_222]), rfl⟩
          · skip
            try simp only [bI_0, bI_n0, Classical.not_not, Bool.not_eq_false, Bool.true_and, Bool.and_true, decide_eq_true_eq, decide_eq_false_iff_not, dayC_1, dayC_21, dayC_221, dayC_222] at c44
            have n44 := Int32.not_lt.mp c44
            refine A_iload_n 48 dX4_faultOfForm_47 rfl rfl rfl ?_
            refine A_bipush 50 (57) dX4_faultOfForm_48 rfl (by decide) ?_
            refine A_icmp_le 55 53 dX4_faultOfForm_50 (by decide) rfl (fun c50 => ?_) (fun c50 => ?_)
            · skip
              try simp only [bI_0, bI_n0, Classical.not_not, Bool.not_eq_false, Bool.true_and, Bool.and_true, decide_eq_true_eq, decide_eq_false_iff_not, dayC_1, dayC_21, dayC_221, dayC_222] at c50
              have n50 := c50
              replace c50 := Int32.not_lt.mpr c50
              first | refine A_idecN 58 dX4_faultOfForm_55 rfl rfl (by decide) (by first | exact (ast_1 rfl) | exact ast_k) ?_ | refine A_iinc 58 (-1) dX4_faultOfForm_55 rfl rfl (by decide) (by decide) (by first | exact (ast_1 rfl) | exact ast_k) ?_
              refine A_goto 71 dX4_faultOfForm_58 (by decide) ?_
              first | refine A_iincN 74 dX4_faultOfForm_71 rfl rfl (by decide) (by first | exact (ast_s (ast_1 rfl)) | exact (ast_s ast_k)) ?_ | refine A_iinc 74 (1) dX4_faultOfForm_71 rfl rfl (by decide) (by decide) (by first | exact (ast_s (ast_1 rfl)) | exact (ast_s ast_k)) ?_
              refine A_goto 4 dX4_faultOfForm_74 (by decide) ?_
              exact A_weak (ih n0 (Nat.lt_succ_self n0) (i + 1) _  (by omega) ((by rw [fmN_s]; simp only [c23, c38, n38, c44, n44, c50, n50, if_true, if_false, ite_true, ite_false, and_true, true_and, and_false, false_and, and_self, or_true, true_or, or_false, false_or, or_self, not_true_eq_false, not_false_eq_true, decide_true, decide_false, Bool.and_true, Bool.true_and, Bool.and_false, Bool.false_and, Bool.and_self, Bool.or_true, Bool.true_or, Bool.or_false, Bool.false_or, Bool.not_true, Bool.not_false, cond_true, cond_false, bI_t, bI_f, Bool.false_eq_true, Bool.true_eq_false, dayC_1, dayC_21, dayC_221, dayC_222] : fmN t n (n0 + 1) i d = fmN t n n0 (i + 1) _).symm.trans ee) ) (sub_s (sub_s (sub_s (sub_n sub_nil))))
            · skip
              try simp only [bI_0, bI_n0, Classical.not_not, Bool.not_eq_false, Bool.true_and, Bool.and_true, decide_eq_true_eq, decide_eq_false_iff_not, dayC_1, dayC_21, dayC_221, dayC_222] at c50
              have n50 := c50
              replace c50 := Int32.not_le.mp c50
              refine A_iload_n 54 dX4_faultOfForm_53 rfl rfl rfl ?_
              refine A_iret dX4_faultOfForm_54 rfl ⟨_, rfl, (by rw [← ee, fmN_s]; simp only [c23, c38, n38, c44, n44, c50, n50, if_true, if_false, ite_true, ite_false, and_true, true_and, and_false, false_and, and_self, or_true, true_or, or_false, false_or, or_self, not_true_eq_false, not_false_eq_true, decide_true, decide_false, Bool.and_true, Bool.true_and, Bool.and_false, Bool.false_and, Bool.and_self, Bool.or_true, Bool.true_or, Bool.or_false, Bool.false_or, Bool.not_true, Bool.not_false, cond_true, cond_false, bI_t, bI_f, Bool.false_eq_true, Bool.true_eq_false, dayC_1, dayC_21, dayC_221, dayC_222]), rfl⟩
      · skip
        try simp only [bI_0, bI_n0, Classical.not_not, Bool.not_eq_false, Bool.true_and, Bool.and_true, decide_eq_true_eq, decide_eq_false_iff_not, dayC_1, dayC_21, dayC_221, dayC_222] at c23
        refine A_iload_n 27 dX4_faultOfForm_26 rfl rfl rfl ?_
        refine A_callSI 30 (S_X4_digitsBehind X l) dX4_faultOfForm_27 rfl kX4_digitsBehind lk_X4_48 rfl (by decide) rfl (Nat.le_of_ble_eq_true rfl) (fun v_2 h_2 qh_2 => ?_)
        obtain ⟨rfl, rfl⟩ := qh_2
        refine A_istore_n 31 dX4_faultOfForm_30 rfl rfl (by decide) (by first | exact (ast_1 rfl) | exact ast_k) ?_
        refine A_iload_n 32 dX4_faultOfForm_31 rfl rfl rfl ?_
        refine A_if_ge 71 35 dX4_faultOfForm_32 (by decide) rfl (fun c32 => ?_) (fun c32 => ?_)
        · skip
          try simp only [bI_0, bI_n0, Classical.not_not, Bool.not_eq_false, Bool.true_and, Bool.and_true, decide_eq_true_eq, decide_eq_false_iff_not, dayC_1, dayC_21, dayC_221, dayC_222] at c32
          have n32 := c32
          replace c32 := Int32.not_lt.mpr c32
          first | refine A_iincN 74 dX4_faultOfForm_71 rfl rfl (by decide) (by first | exact (ast_s (ast_1 rfl)) | exact (ast_s ast_k)) ?_ | refine A_iinc 74 (1) dX4_faultOfForm_71 rfl rfl (by decide) (by decide) (by first | exact (ast_s (ast_1 rfl)) | exact (ast_s ast_k)) ?_
          refine A_goto 4 dX4_faultOfForm_74 (by decide) ?_
          exact A_weak (ih n0 (Nat.lt_succ_self n0) (i + 1) _  (by omega) ((by rw [fmN_s]; simp only [c23, c32, n32, if_true, if_false, ite_true, ite_false, and_true, true_and, and_false, false_and, and_self, or_true, true_or, or_false, false_or, or_self, not_true_eq_false, not_false_eq_true, decide_true, decide_false, Bool.and_true, Bool.true_and, Bool.and_false, Bool.false_and, Bool.and_self, Bool.or_true, Bool.true_or, Bool.or_false, Bool.false_or, Bool.not_true, Bool.not_false, cond_true, cond_false, bI_t, bI_f, Bool.false_eq_true, Bool.true_eq_false, dayC_1, dayC_21, dayC_221, dayC_222] : fmN t n (n0 + 1) i d = fmN t n n0 (i + 1) _).symm.trans ee) ) (sub_s (sub_s (sub_s (sub_n sub_nil))))
        · skip
          try simp only [bI_0, bI_n0, Classical.not_not, Bool.not_eq_false, Bool.true_and, Bool.and_true, decide_eq_true_eq, decide_eq_false_iff_not, dayC_1, dayC_21, dayC_221, dayC_222] at c32
          have n32 := c32
          replace c32 := Int32.not_le.mp c32
          refine A_iload_n 36 dX4_faultOfForm_35 rfl rfl rfl ?_
          refine A_iret dX4_faultOfForm_36 rfl ⟨_, rfl, (by rw [← ee, fmN_s]; simp only [c23, c32, n32, if_true, if_false, ite_true, ite_false, and_true, true_and, and_false, false_and, and_self, or_true, true_or, or_false, false_or, or_self, not_true_eq_false, not_false_eq_true, decide_true, decide_false, Bool.and_true, Bool.true_and, Bool.and_false, Bool.false_and, Bool.and_self, Bool.or_true, Bool.true_or, Bool.or_false, Bool.false_or, Bool.not_true, Bool.not_false, cond_true, cond_false, bI_t, bI_f, Bool.false_eq_true, Bool.true_eq_false, dayC_1, dayC_21, dayC_221, dayC_222]), rfl⟩
  exact A_weak (L4 (n) (0) (_)  (by omega) (rfl) ) (sub_s (sub_s (sub_s (sub_n sub_nil))))
set_option maxHeartbeats 4000000 in
set_option maxRecDepth 100000 in
theorem S_X4_digit (X : En) (l : Launch) {h : Hp} {t : FI} {n k : Nat} (O12 : h 12 = some (leB t n k)) {j : Nat} (hj : j < 96) : Ct X l mX4_digit [aR 12 0, aI (nI j)] h (QI (PI0 (dg t j) h)) := by
  refine Ct.intro [some (aR 12 0), some (aI (nI j))] (by decide +kernel) rfl (Nat.le_of_ble_eq_true rfl) ?_
  refine A_aload_n 1 dX4_digit_0 rfl rfl rfl ?_
  refine A_getfield 4 dX4_digit_1 rfl f_X4_11 O12 rfl ?_
  refine A_iload_n 5 dX4_digit_4 rfl rfl rfl ?_
  refine A_callNI 8 (S_X9_cell_X4_0 X l (by first | assumption | decide | omega | exact Ne.symm (by assumption)) (by first | assumption | exact ix_nI (by omega) (by decide) | exact ix_lit _ rfl (by omega) (by decide) | exact ix_lit _ rfl (by decide) (by decide))) dX4_digit_5 rfl kX9_cell nk_X4_44 rfl (by decide) rfl (Nat.le_of_ble_eq_true rfl) (fun v_1 h_1 qh_1 => ?_)
  obtain ⟨rfl, rfl⟩ := qh_1
  refine A_bipush 10 (48) dX4_digit_8 rfl (by decide) ?_
  refine A_isub 11 dX4_digit_10 rfl ?_
  refine A_iret dX4_digit_11 rfl ⟨_, rfl, (by rfl), rfl⟩
set_option maxHeartbeats 4000000 in
set_option maxRecDepth 100000 in
theorem S_X4_lawComes (X : En) (l : Launch) {h : Hp} {t : FI} {n k : Nat} (O12 : h 12 = some (leB t n k)) {x : PW} (O13 : h 13 = some (wB 13 x)) {a b c d : Int32} (hl : x.2.2.1 ≤ 10) : Ct X l mX4_lawComes [aR 12 0, aI a, aI b, aI c, aI d] h (QI (PI1 (bI (stL x a b c d).isSome) h (13) (wB 13 ((stL x a b c d).getD x)))) := by
  have hf : ∀ i, i ≠ 13 → h i = h i := fun _ _ => rfl
  refine Ct.intro [some (aR 12 0), some (aI a), some (aI b), some (aI c), some (aI d)] (by decide +kernel) rfl (Nat.le_of_ble_eq_true rfl) ?_
  refine A_iload_n 1 dX4_lawComes_0 rfl rfl rfl ?_
  refine A_iconst 2 (5) dX4_lawComes_1 rfl (by decide) ?_
  refine A_icmp_gt 30 5 dX4_lawComes_2 (by decide) rfl (fun c2 => ?_) (fun c2 => ?_)
  · skip
    try simp only [bI_0, bI_n0, Classical.not_not, Bool.not_eq_false, Bool.true_and, Bool.and_true, decide_eq_true_eq, decide_eq_false_iff_not, dayC_1, dayC_21, dayC_221, dayC_222] at c2
    have n2 := Int32.not_le.mpr c2
    refine A_iconst 31 (0) dX4_lawComes_30 rfl (by decide) ?_
    have es : stL x a b c d = none := by
      simp only [c2, n2, if_true, if_false, ite_true, ite_false, and_true, true_and, and_false, false_and, and_self, or_true, true_or, or_false, false_or, or_self, not_true_eq_false, not_false_eq_true, decide_true, decide_false, Bool.and_true, Bool.true_and, Bool.and_false, Bool.false_and, Bool.and_self, Bool.or_true, Bool.true_or, Bool.or_false, Bool.false_or, Bool.not_true, Bool.not_false, cond_true, cond_false, bI_t, bI_f, Bool.false_eq_true, Bool.true_eq_false, dayC_1, dayC_21, dayC_221, dayC_222, stL, stP, stT, stB, isP, isL, pk]
    refine A_zret dX4_lawComes_31 rfl (by first | with_reducible exact bI01 _ | with_reducible exact Or.inl rfl | with_reducible exact Or.inr rfl | assumption) ⟨_, rfl, (by rw [es]; rfl), (by rw [es]; exact O13), hf⟩
  · skip
    try simp only [bI_0, bI_n0, Classical.not_not, Bool.not_eq_false, Bool.true_and, Bool.and_true, decide_eq_true_eq, decide_eq_false_iff_not, dayC_1, dayC_21, dayC_221, dayC_222] at c2
    have n2 := Int32.not_lt.mp c2
    refine A_iload_n 6 dX4_lawComes_5 rfl rfl rfl ?_
    refine A_callNI 9 (S_X9_isThing X l) dX4_lawComes_6 rfl kX9_isThing nk_X4_90 rfl (by decide) rfl (Nat.le_of_ble_eq_true rfl) (fun v_1 h_1 qh_1 => ?_)
    obtain ⟨rfl, rfl⟩ := qh_1
    refine A_if_eq 30 12 dX4_lawComes_9 (by decide) rfl (fun c9 => ?_) (fun c9 => ?_)
    · skip
      try simp only [bI_0, bI_n0, Classical.not_not, Bool.not_eq_false, Bool.true_and, Bool.and_true, decide_eq_true_eq, decide_eq_false_iff_not, dayC_1, dayC_21, dayC_221, dayC_222] at c9
      refine A_iconst 31 (0) dX4_lawComes_30 rfl (by decide) ?_
      have es : stL x a b c d = none := by
        simp only [c2, n2, c9, if_true, if_false, ite_true, ite_false, and_true, true_and, and_false, false_and, and_self, or_true, true_or, or_false, false_or, or_self, not_true_eq_false, not_false_eq_true, decide_true, decide_false, Bool.and_true, Bool.true_and, Bool.and_false, Bool.false_and, Bool.and_self, Bool.or_true, Bool.true_or, Bool.or_false, Bool.false_or, Bool.not_true, Bool.not_false, cond_true, cond_false, bI_t, bI_f, Bool.false_eq_true, Bool.true_eq_false, dayC_1, dayC_21, dayC_221, dayC_222, stL, stP, stT, stB, isP, isL, pk]
      refine A_zret dX4_lawComes_31 rfl (by first | with_reducible exact bI01 _ | with_reducible exact Or.inl rfl | with_reducible exact Or.inr rfl | assumption) ⟨_, rfl, (by rw [es]; rfl), (by rw [es]; exact O13), hf⟩
    · skip
      try simp only [bI_0, bI_n0, Classical.not_not, Bool.not_eq_false, Bool.true_and, Bool.and_true, decide_eq_true_eq, decide_eq_false_iff_not, dayC_1, dayC_21, dayC_221, dayC_222] at c9
      refine A_iload 14 dX4_lawComes_12 rfl rfl ?_
      refine A_callNI 17 (S_X9_isThing X l) dX4_lawComes_14 rfl kX9_isThing nk_X4_90 rfl (by decide) rfl (Nat.le_of_ble_eq_true rfl) (fun v_2 h_2 qh_2 => ?_)
      obtain ⟨rfl, rfl⟩ := qh_2
      refine A_if_eq 30 20 dX4_lawComes_17 (by decide) rfl (fun c17 => ?_) (fun c17 => ?_)
      · skip
        try simp only [bI_0, bI_n0, Classical.not_not, Bool.not_eq_false, Bool.true_and, Bool.and_true, decide_eq_true_eq, decide_eq_false_iff_not, dayC_1, dayC_21, dayC_221, dayC_222] at c17
        refine A_iconst 31 (0) dX4_lawComes_30 rfl (by decide) ?_
        have es : stL x a b c d = none := by
          simp only [c2, n2, c9, c17, if_true, if_false, ite_true, ite_false, and_true, true_and, and_false, false_and, and_self, or_true, true_or, or_false, false_or, or_self, not_true_eq_false, not_false_eq_true, decide_true, decide_false, Bool.and_true, Bool.true_and, Bool.and_false, Bool.false_and, Bool.and_self, Bool.or_true, Bool.true_or, Bool.or_false, Bool.false_or, Bool.not_true, Bool.not_false, cond_true, cond_false, bI_t, bI_f, Bool.false_eq_true, Bool.true_eq_false, dayC_1, dayC_21, dayC_221, dayC_222, stL, stP, stT, stB, isP, isL, pk]
        refine A_zret dX4_lawComes_31 rfl (by first | with_reducible exact bI01 _ | with_reducible exact Or.inl rfl | with_reducible exact Or.inr rfl | assumption) ⟨_, rfl, (by rw [es]; rfl), (by rw [es]; exact O13), hf⟩
      · skip
        try simp only [bI_0, bI_n0, Classical.not_not, Bool.not_eq_false, Bool.true_and, Bool.and_true, decide_eq_true_eq, decide_eq_false_iff_not, dayC_1, dayC_21, dayC_221, dayC_222] at c17
        refine A_aload_n 21 dX4_lawComes_20 rfl rfl rfl ?_
        refine A_getfield 24 dX4_lawComes_21 rfl f_X4_18 O12 rfl ?_
        refine A_callVI 27 (S_X8_hasLawRoom X l (by first | assumption | decide | omega | exact Ne.symm (by assumption)) (by first | assumption | decide | omega | exact Ne.symm (by assumption))) dX4_lawComes_24 rfl kX8_hasLawRoom lk_X4_93 rfl O13 (by decide) rfl (Nat.le_of_ble_eq_true rfl) (fun v_3 h_3 qh_3 => ?_)
        obtain ⟨rfl, rfl⟩ := qh_3
        refine A_if_ne 32 30 dX4_lawComes_27 (by decide) rfl (fun c27 => ?_) (fun c27 => ?_)
        · skip
          try simp only [bI_0, bI_n0, Classical.not_not, Bool.not_eq_false, Bool.true_and, Bool.and_true, decide_eq_true_eq, decide_eq_false_iff_not, dayC_1, dayC_21, dayC_221, dayC_222] at c27
          refine A_aload_n 33 dX4_lawComes_32 rfl rfl rfl ?_
          refine A_getfield 36 dX4_lawComes_33 rfl f_X4_18 O12 rfl ?_
          refine A_iload_n 37 dX4_lawComes_36 rfl rfl rfl ?_
          refine A_iload_n 38 dX4_lawComes_37 rfl rfl rfl ?_
          refine A_iload_n 39 dX4_lawComes_38 rfl rfl rfl ?_
          refine A_iload 41 dX4_lawComes_39 rfl rfl ?_
          refine A_callVI 44 (S_X8_addLaw X l (by first | assumption | decide | omega | exact Ne.symm (by assumption)) (by first | assumption | decide | omega | exact Ne.symm (by assumption))) dX4_lawComes_41 rfl kX8_addLaw lk_X4_97 rfl O13 (by decide) rfl (Nat.le_of_ble_eq_true rfl) (fun v_4 h_4 qh_4 => ?_)
          obtain ⟨rfl, n0h_4, eh_4⟩ := qh_4
          replace O12 := (eh_4 _ (by decide)).trans O12
          replace O13 := n0h_4
          replace hf : ∀ i, i ≠ 13 → h_4 i = h i := fun i g0 => (eh_4 i g0).trans (hf i g0)
          refine A_pop 45 dX4_lawComes_44 rfl rfl ?_
          refine A_iconst 46 (1) dX4_lawComes_45 rfl (by decide) ?_
          have es : stL x a b c d = some (addL x a b c d) := by
            simp only [c2, n2, c9, c17, c27, if_true, if_false, ite_true, ite_false, and_true, true_and, and_false, false_and, and_self, or_true, true_or, or_false, false_or, or_self, not_true_eq_false, not_false_eq_true, decide_true, decide_false, Bool.and_true, Bool.true_and, Bool.and_false, Bool.false_and, Bool.and_self, Bool.or_true, Bool.true_or, Bool.or_false, Bool.false_or, Bool.not_true, Bool.not_false, cond_true, cond_false, bI_t, bI_f, Bool.false_eq_true, Bool.true_eq_false, dayC_1, dayC_21, dayC_221, dayC_222, stL, stP, stT, stB, isP, isL, pk]
          refine A_zret dX4_lawComes_46 rfl (by first | with_reducible exact bI01 _ | with_reducible exact Or.inl rfl | with_reducible exact Or.inr rfl | assumption) ⟨_, rfl, (by rw [es]; rfl), (by rw [es]; exact O13), hf⟩
        · skip
          try simp only [bI_0, bI_n0, Classical.not_not, Bool.not_eq_false, Bool.true_and, Bool.and_true, decide_eq_true_eq, decide_eq_false_iff_not, dayC_1, dayC_21, dayC_221, dayC_222] at c27
          refine A_iconst 31 (0) dX4_lawComes_30 rfl (by decide) ?_
          have es : stL x a b c d = none := by
            simp only [c2, n2, c9, c17, c27, if_true, if_false, ite_true, ite_false, and_true, true_and, and_false, false_and, and_self, or_true, true_or, or_false, false_or, or_self, not_true_eq_false, not_false_eq_true, decide_true, decide_false, Bool.and_true, Bool.true_and, Bool.and_false, Bool.false_and, Bool.and_self, Bool.or_true, Bool.true_or, Bool.or_false, Bool.false_or, Bool.not_true, Bool.not_false, cond_true, cond_false, bI_t, bI_f, Bool.false_eq_true, Bool.true_eq_false, dayC_1, dayC_21, dayC_221, dayC_222, stL, stP, stT, stB, isP, isL, pk]
          refine A_zret dX4_lawComes_31 rfl (by first | with_reducible exact bI01 _ | with_reducible exact Or.inl rfl | with_reducible exact Or.inr rfl | assumption) ⟨_, rfl, (by rw [es]; rfl), (by rw [es]; exact O13), hf⟩
set_option maxHeartbeats 4000000 in
set_option maxRecDepth 100000 in
theorem S_X4_personComes (X : En) (l : Launch) {h : Hp} {t : FI} {n k : Nat} (O12 : h 12 = some (leB t n k)) {x : PW} (O13 : h 13 = some (wB 13 x)) {v : Int32} (hp : x.2.2.2.1 ≤ 6) : Ct X l mX4_personComes [aR 12 0, aI v] h (QI (PI1 (bI (stP x v).isSome) h (13) (wB 13 ((stP x v).getD x)))) := by
  have hf : ∀ i, i ≠ 13 → h i = h i := fun _ _ => rfl
  refine Ct.intro [some (aR 12 0), some (aI v)] (by decide +kernel) rfl (Nat.le_of_ble_eq_true rfl) ?_
  refine A_iload_n 1 dX4_personComes_0 rfl rfl rfl ?_
  refine A_sipush 4 (255) dX4_personComes_1 rfl (by decide) ?_
  refine A_icmp_gt 17 7 dX4_personComes_4 (by decide) rfl (fun c4 => ?_) (fun c4 => ?_)
  · skip
    try simp only [bI_0, bI_n0, Classical.not_not, Bool.not_eq_false, Bool.true_and, Bool.and_true, decide_eq_true_eq, decide_eq_false_iff_not, dayC_1, dayC_21, dayC_221, dayC_222] at c4
    have n4 := Int32.not_le.mpr c4
    refine A_iconst 18 (0) dX4_personComes_17 rfl (by decide) ?_
    have es : stP x v = none := by
      simp only [c4, n4, if_true, if_false, ite_true, ite_false, and_true, true_and, and_false, false_and, and_self, or_true, true_or, or_false, false_or, or_self, not_true_eq_false, not_false_eq_true, decide_true, decide_false, Bool.and_true, Bool.true_and, Bool.and_false, Bool.false_and, Bool.and_self, Bool.or_true, Bool.true_or, Bool.or_false, Bool.false_or, Bool.not_true, Bool.not_false, cond_true, cond_false, bI_t, bI_f, Bool.false_eq_true, Bool.true_eq_false, dayC_1, dayC_21, dayC_221, dayC_222, stL, stP, stT, stB, isP, isL, pk]
    refine A_zret dX4_personComes_18 rfl (by first | with_reducible exact bI01 _ | with_reducible exact Or.inl rfl | with_reducible exact Or.inr rfl | assumption) ⟨_, rfl, (by rw [es]; rfl), (by rw [es]; exact O13), hf⟩
  · skip
    try simp only [bI_0, bI_n0, Classical.not_not, Bool.not_eq_false, Bool.true_and, Bool.and_true, decide_eq_true_eq, decide_eq_false_iff_not, dayC_1, dayC_21, dayC_221, dayC_222] at c4
    have n4 := Int32.not_lt.mp c4
    refine A_aload_n 8 dX4_personComes_7 rfl rfl rfl ?_
    refine A_getfield 11 dX4_personComes_8 rfl f_X4_18 O12 rfl ?_
    refine A_callVI 14 (S_X8_hasPersonRoom X l (by first | assumption | decide | omega | exact Ne.symm (by assumption)) (by first | assumption | decide | omega | exact Ne.symm (by assumption))) dX4_personComes_11 rfl kX8_hasPersonRoom lk_X4_101 rfl O13 (by decide) rfl (Nat.le_of_ble_eq_true rfl) (fun v_1 h_1 qh_1 => ?_)
    obtain ⟨rfl, rfl⟩ := qh_1
    refine A_if_ne 19 17 dX4_personComes_14 (by decide) rfl (fun c14 => ?_) (fun c14 => ?_)
    · skip
      try simp only [bI_0, bI_n0, Classical.not_not, Bool.not_eq_false, Bool.true_and, Bool.and_true, decide_eq_true_eq, decide_eq_false_iff_not, dayC_1, dayC_21, dayC_221, dayC_222] at c14
      refine A_aload_n 20 dX4_personComes_19 rfl rfl rfl ?_
      refine A_getfield 23 dX4_personComes_20 rfl f_X4_18 O12 rfl ?_
      refine A_iload_n 24 dX4_personComes_23 rfl rfl rfl ?_
      refine A_callVI 27 (S_X8_addPerson X l (by first | assumption | decide | omega | exact Ne.symm (by assumption)) (by first | assumption | decide | omega | exact Ne.symm (by assumption))) dX4_personComes_24 rfl kX8_addPerson lk_X4_104 rfl O13 (by decide) rfl (Nat.le_of_ble_eq_true rfl) (fun v_2 h_2 qh_2 => ?_)
      obtain ⟨rfl, n0h_2, eh_2⟩ := qh_2
      replace O12 := (eh_2 _ (by decide)).trans O12
      replace O13 := n0h_2
      replace hf : ∀ i, i ≠ 13 → h_2 i = h i := fun i g0 => (eh_2 i g0).trans (hf i g0)
      refine A_pop 28 dX4_personComes_27 rfl rfl ?_
      refine A_iconst 29 (1) dX4_personComes_28 rfl (by decide) ?_
      have es : stP x v = some (addP x v) := by
        simp only [c4, n4, c14, if_true, if_false, ite_true, ite_false, and_true, true_and, and_false, false_and, and_self, or_true, true_or, or_false, false_or, or_self, not_true_eq_false, not_false_eq_true, decide_true, decide_false, Bool.and_true, Bool.true_and, Bool.and_false, Bool.false_and, Bool.and_self, Bool.or_true, Bool.true_or, Bool.or_false, Bool.false_or, Bool.not_true, Bool.not_false, cond_true, cond_false, bI_t, bI_f, Bool.false_eq_true, Bool.true_eq_false, dayC_1, dayC_21, dayC_221, dayC_222, stL, stP, stT, stB, isP, isL, pk]
      refine A_zret dX4_personComes_29 rfl (by first | with_reducible exact bI01 _ | with_reducible exact Or.inl rfl | with_reducible exact Or.inr rfl | assumption) ⟨_, rfl, (by rw [es]; rfl), (by rw [es]; exact O13), hf⟩
    · skip
      try simp only [bI_0, bI_n0, Classical.not_not, Bool.not_eq_false, Bool.true_and, Bool.and_true, decide_eq_true_eq, decide_eq_false_iff_not, dayC_1, dayC_21, dayC_221, dayC_222] at c14
      refine A_iconst 18 (0) dX4_personComes_17 rfl (by decide) ?_
      have es : stP x v = none := by
        simp only [c4, n4, c14, if_true, if_false, ite_true, ite_false, and_true, true_and, and_false, false_and, and_self, or_true, true_or, or_false, false_or, or_self, not_true_eq_false, not_false_eq_true, decide_true, decide_false, Bool.and_true, Bool.true_and, Bool.and_false, Bool.false_and, Bool.and_self, Bool.or_true, Bool.true_or, Bool.or_false, Bool.false_or, Bool.not_true, Bool.not_false, cond_true, cond_false, bI_t, bI_f, Bool.false_eq_true, Bool.true_eq_false, dayC_1, dayC_21, dayC_221, dayC_222, stL, stP, stT, stB, isP, isL, pk]
      refine A_zret dX4_personComes_18 rfl (by first | with_reducible exact bI01 _ | with_reducible exact Or.inl rfl | with_reducible exact Or.inr rfl | assumption) ⟨_, rfl, (by rw [es]; rfl), (by rw [es]; exact O13), hf⟩
set_option maxHeartbeats 4000000 in
set_option maxRecDepth 100000 in
theorem S_X4_isTaken (X : En) (l : Launch) {h : Hp} {t : FI} {n k : Nat} (O12 : h 12 = some (leB t n k)) {x : PW} (O13 : h 13 = some (wB 13 x)) {a b : Int32} (hp : x.2.2.2.1 ≤ 6) : Ct X l mX4_isTaken [aR 12 0, aI a, aI b] h (QI (PI1 (bI (stT x a b).isSome) h (13) (wB 13 ((stT x a b).getD x)))) := by
  have hf : ∀ i, i ≠ 13 → h i = h i := fun _ _ => rfl
  refine Ct.intro [some (aR 12 0), some (aI a), some (aI b)] (by decide +kernel) rfl (Nat.le_of_ble_eq_true rfl) ?_
  refine A_aload_n 1 dX4_isTaken_0 rfl rfl rfl ?_
  refine A_getfield 4 dX4_isTaken_1 rfl f_X4_18 O12 rfl ?_
  refine A_iload_n 5 dX4_isTaken_4 rfl rfl rfl ?_
  refine A_callVI 8 (S_X8_isPerson X l (by first | assumption | decide | omega | exact Ne.symm (by assumption))) dX4_isTaken_5 rfl kX8_isPerson lk_X4_107 rfl O13 (by decide) rfl (Nat.le_of_ble_eq_true rfl) (fun v_1 h_1 qh_1 => ?_)
  obtain ⟨rfl, rfl⟩ := qh_1
  refine A_if_eq 26 11 dX4_isTaken_8 (by decide) rfl (fun c8 => ?_) (fun c8 => ?_)
  · skip
    try simp only [bI_0, bI_n0, Classical.not_not, Bool.not_eq_false, Bool.true_and, Bool.and_true, decide_eq_true_eq, decide_eq_false_iff_not, dayC_1, dayC_21, dayC_221, dayC_222] at c8
    refine A_iconst 27 (0) dX4_isTaken_26 rfl (by decide) ?_
    have es : stT x a b = none := by
      simp only [c8, if_true, if_false, ite_true, ite_false, and_true, true_and, and_false, false_and, and_self, or_true, true_or, or_false, false_or, or_self, not_true_eq_false, not_false_eq_true, decide_true, decide_false, Bool.and_true, Bool.true_and, Bool.and_false, Bool.false_and, Bool.and_self, Bool.or_true, Bool.true_or, Bool.or_false, Bool.false_or, Bool.not_true, Bool.not_false, cond_true, cond_false, bI_t, bI_f, Bool.false_eq_true, Bool.true_eq_false, dayC_1, dayC_21, dayC_221, dayC_222, stL, stP, stT, stB, isP, isL, pk]
    refine A_zret dX4_isTaken_27 rfl (by first | with_reducible exact bI01 _ | with_reducible exact Or.inl rfl | with_reducible exact Or.inr rfl | assumption) ⟨_, rfl, (by rw [es]; rfl), (by rw [es]; exact O13), hf⟩
  · skip
    try simp only [bI_0, bI_n0, Classical.not_not, Bool.not_eq_false, Bool.true_and, Bool.and_true, decide_eq_true_eq, decide_eq_false_iff_not, dayC_1, dayC_21, dayC_221, dayC_222] at c8
    obtain ⟨k_a, rfl, hk_a⟩ := inN_ex c8 (by omega)
    have cl_a : (nI k_a).toNatClampNeg = k_a := nI_clamp (by omega)
    refine A_aload_n 12 dX4_isTaken_11 rfl rfl rfl ?_
    refine A_getfield 15 dX4_isTaken_12 rfl f_X4_18 O12 rfl ?_
    refine A_iload_n 16 dX4_isTaken_15 rfl rfl rfl ?_
    refine A_callVI 19 (S_X8_pocketsOf X l (by first | assumption | decide | omega | exact Ne.symm (by assumption)) (by first | assumption | decide | omega | exact Ne.symm (by assumption))) dX4_isTaken_16 rfl kX8_pocketsOf lk_X4_110 rfl O13 (by decide) rfl (Nat.le_of_ble_eq_true rfl) (fun v_2 h_2 qh_2 => ?_)
    obtain ⟨rfl, rfl⟩ := qh_2
    refine A_iload_n 20 dX4_isTaken_19 rfl rfl rfl ?_
    refine A_callNI 23 (S_X9_hasThing X l) dX4_isTaken_20 rfl kX9_hasThing nk_X4_113 rfl (by decide) rfl (Nat.le_of_ble_eq_true rfl) (fun v_3 h_3 qh_3 => ?_)
    obtain ⟨rfl, rfl⟩ := qh_3
    refine A_if_ne 28 26 dX4_isTaken_23 (by decide) rfl (fun c23 => ?_) (fun c23 => ?_)
    · skip
      try simp only [bI_0, bI_n0, Classical.not_not, Bool.not_eq_false, Bool.true_and, Bool.and_true, decide_eq_true_eq, decide_eq_false_iff_not, dayC_1, dayC_21, dayC_221, dayC_222] at c23
      refine A_aload_n 29 dX4_isTaken_28 rfl rfl rfl ?_
      refine A_getfield 32 dX4_isTaken_29 rfl f_X4_18 O12 rfl ?_
      refine A_iload_n 33 dX4_isTaken_32 rfl rfl rfl ?_
      refine A_iload_n 34 dX4_isTaken_33 rfl rfl rfl ?_
      refine A_callVI 37 (S_X8_takeOut X l (by first | assumption | decide | omega | exact Ne.symm (by assumption)) (by first | assumption | decide | omega | exact Ne.symm (by assumption))) dX4_isTaken_34 rfl kX8_takeOut lk_X4_116 rfl O13 (by decide) rfl (Nat.le_of_ble_eq_true rfl) (fun v_4 h_4 qh_4 => ?_)
      obtain ⟨rfl, n0h_4, eh_4⟩ := qh_4
      replace O12 := (eh_4 _ (by decide)).trans O12
      replace O13 := n0h_4
      replace hf : ∀ i, i ≠ 13 → h_4 i = h i := fun i g0 => (eh_4 i g0).trans (hf i g0)
      refine A_pop 38 dX4_isTaken_37 rfl rfl ?_
      refine A_iconst 39 (1) dX4_isTaken_38 rfl (by decide) ?_
      have es : stT x (nI k_a) b = some (takeF x k_a b) := by
        simp only [c8, cl_a, c23, if_true, if_false, ite_true, ite_false, and_true, true_and, and_false, false_and, and_self, or_true, true_or, or_false, false_or, or_self, not_true_eq_false, not_false_eq_true, decide_true, decide_false, Bool.and_true, Bool.true_and, Bool.and_false, Bool.false_and, Bool.and_self, Bool.or_true, Bool.true_or, Bool.or_false, Bool.false_or, Bool.not_true, Bool.not_false, cond_true, cond_false, bI_t, bI_f, Bool.false_eq_true, Bool.true_eq_false, dayC_1, dayC_21, dayC_221, dayC_222, stL, stP, stT, stB, isP, isL, pk]
      refine A_zret dX4_isTaken_39 rfl (by first | with_reducible exact bI01 _ | with_reducible exact Or.inl rfl | with_reducible exact Or.inr rfl | assumption) ⟨_, rfl, (by rw [es]; rfl), (by rw [es]; exact O13), hf⟩
    · skip
      try simp only [bI_0, bI_n0, Classical.not_not, Bool.not_eq_false, Bool.true_and, Bool.and_true, decide_eq_true_eq, decide_eq_false_iff_not, dayC_1, dayC_21, dayC_221, dayC_222] at c23
      refine A_iconst 27 (0) dX4_isTaken_26 rfl (by decide) ?_
      have es : stT x (nI k_a) b = none := by
        simp only [c8, cl_a, c23, if_true, if_false, ite_true, ite_false, and_true, true_and, and_false, false_and, and_self, or_true, true_or, or_false, false_or, or_self, not_true_eq_false, not_false_eq_true, decide_true, decide_false, Bool.and_true, Bool.true_and, Bool.and_false, Bool.false_and, Bool.and_self, Bool.or_true, Bool.true_or, Bool.or_false, Bool.false_or, Bool.not_true, Bool.not_false, cond_true, cond_false, bI_t, bI_f, Bool.false_eq_true, Bool.true_eq_false, dayC_1, dayC_21, dayC_221, dayC_222, stL, stP, stT, stB, isP, isL, pk]
      refine A_zret dX4_isTaken_27 rfl (by first | with_reducible exact bI01 _ | with_reducible exact Or.inl rfl | with_reducible exact Or.inr rfl | assumption) ⟨_, rfl, (by rw [es]; rfl), (by rw [es]; exact O13), hf⟩
set_option maxHeartbeats 4000000 in
set_option maxRecDepth 100000 in
theorem S_X4_isBrought (X : En) (l : Launch) {h : Hp} {t : FI} {n k : Nat} (O12 : h 12 = some (leB t n k)) {x : PW} (O13 : h 13 = some (wB 13 x)) {a b : Int32} (hp : x.2.2.2.1 ≤ 6) : Ct X l mX4_isBrought [aR 12 0, aI a, aI b] h (QI (PI1 (bI (stB x a b).isSome) h (13) (wB 13 ((stB x a b).getD x)))) := by
  have hf : ∀ i, i ≠ 13 → h i = h i := fun _ _ => rfl
  refine Ct.intro [some (aR 12 0), some (aI a), some (aI b)] (by decide +kernel) rfl (Nat.le_of_ble_eq_true rfl) ?_
  refine A_aload_n 1 dX4_isBrought_0 rfl rfl rfl ?_
  refine A_getfield 4 dX4_isBrought_1 rfl f_X4_18 O12 rfl ?_
  refine A_iload_n 5 dX4_isBrought_4 rfl rfl rfl ?_
  refine A_callVI 8 (S_X8_isPerson X l (by first | assumption | decide | omega | exact Ne.symm (by assumption))) dX4_isBrought_5 rfl kX8_isPerson lk_X4_107 rfl O13 (by decide) rfl (Nat.le_of_ble_eq_true rfl) (fun v_1 h_1 qh_1 => ?_)
  obtain ⟨rfl, rfl⟩ := qh_1
  refine A_if_eq 18 11 dX4_isBrought_8 (by decide) rfl (fun c8 => ?_) (fun c8 => ?_)
  · skip
    try simp only [bI_0, bI_n0, Classical.not_not, Bool.not_eq_false, Bool.true_and, Bool.and_true, decide_eq_true_eq, decide_eq_false_iff_not, dayC_1, dayC_21, dayC_221, dayC_222] at c8
    refine A_iconst 19 (0) dX4_isBrought_18 rfl (by decide) ?_
    have es : stB x a b = none := by
      simp only [c8, if_true, if_false, ite_true, ite_false, and_true, true_and, and_false, false_and, and_self, or_true, true_or, or_false, false_or, or_self, not_true_eq_false, not_false_eq_true, decide_true, decide_false, Bool.and_true, Bool.true_and, Bool.and_false, Bool.false_and, Bool.and_self, Bool.or_true, Bool.true_or, Bool.or_false, Bool.false_or, Bool.not_true, Bool.not_false, cond_true, cond_false, bI_t, bI_f, Bool.false_eq_true, Bool.true_eq_false, dayC_1, dayC_21, dayC_221, dayC_222, stL, stP, stT, stB, isP, isL, pk]
    refine A_zret dX4_isBrought_19 rfl (by first | with_reducible exact bI01 _ | with_reducible exact Or.inl rfl | with_reducible exact Or.inr rfl | assumption) ⟨_, rfl, (by rw [es]; rfl), (by rw [es]; exact O13), hf⟩
  · skip
    try simp only [bI_0, bI_n0, Classical.not_not, Bool.not_eq_false, Bool.true_and, Bool.and_true, decide_eq_true_eq, decide_eq_false_iff_not, dayC_1, dayC_21, dayC_221, dayC_222] at c8
    obtain ⟨k_a, rfl, hk_a⟩ := inN_ex c8 (by omega)
    have cl_a : (nI k_a).toNatClampNeg = k_a := nI_clamp (by omega)
    refine A_iload_n 12 dX4_isBrought_11 rfl rfl rfl ?_
    refine A_callNI 15 (S_X9_isThing X l) dX4_isBrought_12 rfl kX9_isThing nk_X4_90 rfl (by decide) rfl (Nat.le_of_ble_eq_true rfl) (fun v_2 h_2 qh_2 => ?_)
    obtain ⟨rfl, rfl⟩ := qh_2
    refine A_if_ne 20 18 dX4_isBrought_15 (by decide) rfl (fun c15 => ?_) (fun c15 => ?_)
    · skip
      try simp only [bI_0, bI_n0, Classical.not_not, Bool.not_eq_false, Bool.true_and, Bool.and_true, decide_eq_true_eq, decide_eq_false_iff_not, dayC_1, dayC_21, dayC_221, dayC_222] at c15
      refine A_aload_n 21 dX4_isBrought_20 rfl rfl rfl ?_
      refine A_getfield 24 dX4_isBrought_21 rfl f_X4_18 O12 rfl ?_
      refine A_iload_n 25 dX4_isBrought_24 rfl rfl rfl ?_
      refine A_iload_n 26 dX4_isBrought_25 rfl rfl rfl ?_
      refine A_callVI 29 (S_X8_bringIn X l (by first | assumption | decide | omega | exact Ne.symm (by assumption)) (by first | assumption | decide | omega | exact Ne.symm (by assumption))) dX4_isBrought_26 rfl kX8_bringIn lk_X4_119 rfl O13 (by decide) rfl (Nat.le_of_ble_eq_true rfl) (fun v_3 h_3 qh_3 => ?_)
      obtain ⟨rfl, n0h_3, eh_3⟩ := qh_3
      replace O12 := (eh_3 _ (by decide)).trans O12
      replace O13 := n0h_3
      replace hf : ∀ i, i ≠ 13 → h_3 i = h i := fun i g0 => (eh_3 i g0).trans (hf i g0)
      refine A_pop 30 dX4_isBrought_29 rfl rfl ?_
      refine A_iconst 31 (1) dX4_isBrought_30 rfl (by decide) ?_
      have es : stB x (nI k_a) b = some (bringF x k_a b) := by
        simp only [c8, cl_a, c15, if_true, if_false, ite_true, ite_false, and_true, true_and, and_false, false_and, and_self, or_true, true_or, or_false, false_or, or_self, not_true_eq_false, not_false_eq_true, decide_true, decide_false, Bool.and_true, Bool.true_and, Bool.and_false, Bool.false_and, Bool.and_self, Bool.or_true, Bool.true_or, Bool.or_false, Bool.false_or, Bool.not_true, Bool.not_false, cond_true, cond_false, bI_t, bI_f, Bool.false_eq_true, Bool.true_eq_false, dayC_1, dayC_21, dayC_221, dayC_222, stL, stP, stT, stB, isP, isL, pk]
      refine A_zret dX4_isBrought_31 rfl (by first | with_reducible exact bI01 _ | with_reducible exact Or.inl rfl | with_reducible exact Or.inr rfl | assumption) ⟨_, rfl, (by rw [es]; rfl), (by rw [es]; exact O13), hf⟩
    · skip
      try simp only [bI_0, bI_n0, Classical.not_not, Bool.not_eq_false, Bool.true_and, Bool.and_true, decide_eq_true_eq, decide_eq_false_iff_not, dayC_1, dayC_21, dayC_221, dayC_222] at c15
      refine A_iconst 19 (0) dX4_isBrought_18 rfl (by decide) ?_
      have es : stB x (nI k_a) b = none := by
        simp only [c8, cl_a, c15, if_true, if_false, ite_true, ite_false, and_true, true_and, and_false, false_and, and_self, or_true, true_or, or_false, false_or, or_self, not_true_eq_false, not_false_eq_true, decide_true, decide_false, Bool.and_true, Bool.true_and, Bool.and_false, Bool.false_and, Bool.and_self, Bool.or_true, Bool.true_or, Bool.or_false, Bool.false_or, Bool.not_true, Bool.not_false, cond_true, cond_false, bI_t, bI_f, Bool.false_eq_true, Bool.true_eq_false, dayC_1, dayC_21, dayC_221, dayC_222, stL, stP, stT, stB, isP, isL, pk]
      refine A_zret dX4_isBrought_19 rfl (by first | with_reducible exact bI01 _ | with_reducible exact Or.inl rfl | with_reducible exact Or.inr rfl | assumption) ⟨_, rfl, (by rw [es]; rfl), (by rw [es]; exact O13), hf⟩
set_option maxHeartbeats 4000000 in
set_option maxRecDepth 100000 in
theorem S_X4_comes (X : En) (l : Launch) {h : Hp} {t : FI} {n k : Nat} (O12 : h 12 = some (leB t n k)) {x : PW} (O13 : h 13 = some (wB 13 x)) {y : PC} (O14 : h 14 = some (cB 14 y)) (hW : WOK x) {p : Nat} (hp : p + (dbN (t p) + 1) < 96) : Ct X l mX4_comes [aR 12 0, aI (nI p)] h (QI (fun vr h2 => (bI (stF t x p).isSome) = vr ∧ ∃ (y1 : PC), h2 (13) = some (wB 13 ((stF t x p).getD x)) ∧ h2 (14) = some (cB 14 y1) ∧ ∀ i, i ≠ 13 → i ≠ 14 → h2 i = h i)) := by
  have hx := hW.1
  have hpe := hW.2.1
  have h10 := hx.1
  have hf : ∀ i, i ≠ 13 → i ≠ 14 → h i = h i := fun _ _ _ => rfl
  refine Ct.intro [some (aR 12 0), some (aI (nI p))] (by decide +kernel) rfl (Nat.le_of_ble_eq_true rfl) ?_
  refine A_aload_n 1 dX4_comes_0 rfl rfl rfl ?_
  refine A_getfield 4 dX4_comes_1 rfl f_X4_11 O12 rfl ?_
  refine A_iload_n 5 dX4_comes_4 rfl rfl rfl ?_
  refine A_callNI 8 (S_X9_cell_X4_0 X l (by first | assumption | decide | omega | exact Ne.symm (by assumption)) (by first | assumption | exact ix_nI (by omega) (by decide) | exact ix_lit _ rfl (by omega) (by decide) | exact ix_lit _ rfl (by decide) (by decide))) dX4_comes_5 rfl kX9_cell nk_X4_44 rfl (by decide) rfl (Nat.le_of_ble_eq_true rfl) (fun v_1 h_1 qh_1 => ?_)
  obtain ⟨rfl, rfl⟩ := qh_1
  refine A_case (98) (fun e8_98 => ?_) (fun e8_98 => ?_)
  · skip
    refine A_lookup 146 dX4_comes_8 (off := 138) (by decide) (by rw [e8_98]; decide) (by decide) ?_
    have hd : dbN (t p) = 2 := by rw [e8_98]; rfl
    refine A_aload_n 147 dX4_comes_146 rfl rfl rfl ?_
    refine A_aload_n 148 dX4_comes_147 rfl rfl rfl ?_
    refine A_iload_n 149 dX4_comes_148 rfl rfl rfl ?_
    refine A_iconst 150 (1) dX4_comes_149 rfl (by decide) ?_
    refine A_iadd 151 dX4_comes_150 rfl ?_
    rw [n41]
    refine A_callVI 154 (S_X4_digit X l O12 (j := p + 1) (by omega)) dX4_comes_151 rfl kX4_digit lk_X4_62 rfl O12 (by decide) rfl (Nat.le_of_ble_eq_true rfl) (fun v_2 h_2 qh_2 => ?_)
    obtain ⟨rfl, rfl⟩ := qh_2
    refine A_aload_n 155 dX4_comes_154 rfl rfl rfl ?_
    refine A_iload_n 156 dX4_comes_155 rfl rfl rfl ?_
    refine A_iconst 157 (2) dX4_comes_156 rfl (by decide) ?_
    refine A_iadd 158 dX4_comes_157 rfl ?_
    rw [n42]
    refine A_callVI 161 (S_X4_digit X l O12 (j := p + 2) (by omega)) dX4_comes_158 rfl kX4_digit lk_X4_62 rfl O12 (by decide) rfl (Nat.le_of_ble_eq_true rfl) (fun v_3 h_3 qh_3 => ?_)
    obtain ⟨rfl, rfl⟩ := qh_3
    refine A_callVI 164 (S_X4_isBrought X l (by first | assumption | decide | omega | exact Ne.symm (by assumption)) (by first | assumption | decide | omega | exact Ne.symm (by assumption)) (by first | assumption | decide | omega | exact Ne.symm (by assumption))) dX4_comes_161 rfl kX4_isBrought lk_X4_76 rfl O12 (by decide) rfl (Nat.le_of_ble_eq_true rfl) (fun v_4 h_4 qh_4 => ?_)
    obtain ⟨rfl, n0h_4, eh_4⟩ := qh_4
    replace O12 := (eh_4 _ (by decide)).trans O12
    replace O13 := n0h_4
    replace O14 := (eh_4 _ (by decide)).trans O14
    replace hf : ∀ i, i ≠ 13 → i ≠ 14 → h_4 i = h i := fun i g0 g1 => (eh_4 i g0).trans (hf i g0 g1)
    have es : stF t x p = stB x (dg t (p + 1)) (dg t (p + 2)) := by
      unfold stF
      rw [if_pos e8_98]
    refine A_zret dX4_comes_164 rfl (by first | with_reducible exact bI01 _ | decide) ⟨_, rfl, (by first | (rw [es]; done) | (rw [es]; rfl)), _, (by rw [es]; exact O13), O14, hf⟩
  refine A_case (108) (fun e8_108 => ?_) (fun e8_108 => ?_)
  · skip
    refine A_lookup 60 dX4_comes_8 (off := 52) (by decide) (by rw [e8_108]; decide) (by decide) ?_
    have hd : dbN (t p) = 4 := by rw [e8_108]; rfl
    refine A_aload_n 61 dX4_comes_60 rfl rfl rfl ?_
    refine A_aload_n 62 dX4_comes_61 rfl rfl rfl ?_
    refine A_iload_n 63 dX4_comes_62 rfl rfl rfl ?_
    refine A_iconst 64 (1) dX4_comes_63 rfl (by decide) ?_
    refine A_iadd 65 dX4_comes_64 rfl ?_
    rw [n41]
    refine A_callVI 68 (S_X4_digit X l O12 (j := p + 1) (by omega)) dX4_comes_65 rfl kX4_digit lk_X4_62 rfl O12 (by decide) rfl (Nat.le_of_ble_eq_true rfl) (fun v_5 h_5 qh_5 => ?_)
    obtain ⟨rfl, rfl⟩ := qh_5
    refine A_aload_n 69 dX4_comes_68 rfl rfl rfl ?_
    refine A_iload_n 70 dX4_comes_69 rfl rfl rfl ?_
    refine A_iconst 71 (2) dX4_comes_70 rfl (by decide) ?_
    refine A_iadd 72 dX4_comes_71 rfl ?_
    rw [n42]
    refine A_callVI 75 (S_X4_digit X l O12 (j := p + 2) (by omega)) dX4_comes_72 rfl kX4_digit lk_X4_62 rfl O12 (by decide) rfl (Nat.le_of_ble_eq_true rfl) (fun v_6 h_6 qh_6 => ?_)
    obtain ⟨rfl, rfl⟩ := qh_6
    refine A_aload_n 76 dX4_comes_75 rfl rfl rfl ?_
    refine A_iload_n 77 dX4_comes_76 rfl rfl rfl ?_
    refine A_iconst 78 (3) dX4_comes_77 rfl (by decide) ?_
    refine A_iadd 79 dX4_comes_78 rfl ?_
    rw [n43]
    refine A_callVI 82 (S_X4_digit X l O12 (j := p + 3) (by omega)) dX4_comes_79 rfl kX4_digit lk_X4_62 rfl O12 (by decide) rfl (Nat.le_of_ble_eq_true rfl) (fun v_7 h_7 qh_7 => ?_)
    obtain ⟨rfl, rfl⟩ := qh_7
    refine A_aload_n 83 dX4_comes_82 rfl rfl rfl ?_
    refine A_iload_n 84 dX4_comes_83 rfl rfl rfl ?_
    refine A_iconst 85 (4) dX4_comes_84 rfl (by decide) ?_
    refine A_iadd 86 dX4_comes_85 rfl ?_
    rw [show nI p + 4 = nI (p + 4) from (nadd p 4).symm]
    refine A_callVI 89 (S_X4_digit X l O12 (j := p + 4) (by omega)) dX4_comes_86 rfl kX4_digit lk_X4_62 rfl O12 (by decide) rfl (Nat.le_of_ble_eq_true rfl) (fun v_8 h_8 qh_8 => ?_)
    obtain ⟨rfl, rfl⟩ := qh_8
    refine A_callVI 92 (S_X4_lawComes X l (by first | assumption | decide | omega | exact Ne.symm (by assumption)) (by first | assumption | decide | omega | exact Ne.symm (by assumption)) (by first | assumption | decide | omega | exact Ne.symm (by assumption))) dX4_comes_89 rfl kX4_lawComes lk_X4_65 rfl O12 (by decide) rfl (Nat.le_of_ble_eq_true rfl) (fun v_9 h_9 qh_9 => ?_)
    obtain ⟨rfl, n0h_9, eh_9⟩ := qh_9
    replace O12 := (eh_9 _ (by decide)).trans O12
    replace O13 := n0h_9
    replace O14 := (eh_9 _ (by decide)).trans O14
    replace hf : ∀ i, i ≠ 13 → i ≠ 14 → h_9 i = h i := fun i g0 g1 => (eh_9 i g0).trans (hf i g0 g1)
    have es : stF t x p = stL x (dg t (p + 1)) (dg t (p + 2)) (dg t (p + 3)) (dg t (p + 4)) := by
      unfold stF
      rw [if_neg e8_98, if_pos e8_108]
    refine A_zret dX4_comes_92 rfl (by first | with_reducible exact bI01 _ | decide) ⟨_, rfl, (by first | (rw [es]; done) | (rw [es]; rfl)), _, (by rw [es]; exact O13), O14, hf⟩
  refine A_case (112) (fun e8_112 => ?_) (fun e8_112 => ?_)
  · skip
    refine A_lookup 93 dX4_comes_8 (off := 85) (by decide) (by rw [e8_112]; decide) (by decide) ?_
    have hd : dbN (t p) = 3 := by rw [e8_112]; rfl
    refine A_aload_n 94 dX4_comes_93 rfl rfl rfl ?_
    refine A_bipush 96 (100) dX4_comes_94 rfl (by decide) ?_
    refine A_aload_n 97 dX4_comes_96 rfl rfl rfl ?_
    refine A_iload_n 98 dX4_comes_97 rfl rfl rfl ?_
    refine A_iconst 99 (1) dX4_comes_98 rfl (by decide) ?_
    refine A_iadd 100 dX4_comes_99 rfl ?_
    rw [n41]
    refine A_callVI 103 (S_X4_digit X l O12 (j := p + 1) (by omega)) dX4_comes_100 rfl kX4_digit lk_X4_62 rfl O12 (by decide) rfl (Nat.le_of_ble_eq_true rfl) (fun v_10 h_10 qh_10 => ?_)
    obtain ⟨rfl, rfl⟩ := qh_10
    refine A_imul 104 dX4_comes_103 rfl ?_
    refine A_bipush 106 (10) dX4_comes_104 rfl (by decide) ?_
    refine A_aload_n 107 dX4_comes_106 rfl rfl rfl ?_
    refine A_iload_n 108 dX4_comes_107 rfl rfl rfl ?_
    refine A_iconst 109 (2) dX4_comes_108 rfl (by decide) ?_
    refine A_iadd 110 dX4_comes_109 rfl ?_
    rw [n42]
    refine A_callVI 113 (S_X4_digit X l (by first | assumption | decide | omega | exact Ne.symm (by assumption)) (by first | assumption | decide | omega | exact Ne.symm (by assumption))) dX4_comes_110 rfl kX4_digit lk_X4_62 rfl O12 (by decide) rfl (Nat.le_of_ble_eq_true rfl) (fun v_11 h_11 qh_11 => ?_)
    obtain ⟨rfl, rfl⟩ := qh_11
    refine A_imul 114 dX4_comes_113 rfl ?_
    refine A_iadd 115 dX4_comes_114 rfl ?_
    refine A_aload_n 116 dX4_comes_115 rfl rfl rfl ?_
    refine A_iload_n 117 dX4_comes_116 rfl rfl rfl ?_
    refine A_iconst 118 (3) dX4_comes_117 rfl (by decide) ?_
    refine A_iadd 119 dX4_comes_118 rfl ?_
    rw [n43]
    refine A_callVI 122 (S_X4_digit X l O12 (j := p + 3) (by omega)) dX4_comes_119 rfl kX4_digit lk_X4_62 rfl O12 (by decide) rfl (Nat.le_of_ble_eq_true rfl) (fun v_12 h_12 qh_12 => ?_)
    obtain ⟨rfl, rfl⟩ := qh_12
    refine A_iadd 123 dX4_comes_122 rfl ?_
    refine A_callVI 126 (S_X4_personComes X l (by first | assumption | decide | omega | exact Ne.symm (by assumption)) (by first | assumption | decide | omega | exact Ne.symm (by assumption)) (by first | assumption | decide | omega | exact Ne.symm (by assumption))) dX4_comes_123 rfl kX4_personComes lk_X4_69 rfl O12 (by decide) rfl (Nat.le_of_ble_eq_true rfl) (fun v_13 h_13 qh_13 => ?_)
    obtain ⟨rfl, n0h_13, eh_13⟩ := qh_13
    replace O12 := (eh_13 _ (by decide)).trans O12
    replace O13 := n0h_13
    replace O14 := (eh_13 _ (by decide)).trans O14
    replace hf : ∀ i, i ≠ 13 → i ≠ 14 → h_13 i = h i := fun i g0 g1 => (eh_13 i g0).trans (hf i g0 g1)
    have es : stF t x p = stP x (100 * dg t (p + 1) + 10 * dg t (p + 2) + dg t (p + 3)) := by
      unfold stF
      rw [if_neg e8_98, if_neg e8_108, if_pos e8_112]
    refine A_zret dX4_comes_126 rfl (by first | with_reducible exact bI01 _ | decide) ⟨_, rfl, (by first | (rw [es]; done) | (rw [es]; rfl)), _, (by rw [es]; exact O13), O14, hf⟩
  refine A_case (116) (fun e8_116 => ?_) (fun e8_116 => ?_)
  · skip
    refine A_lookup 127 dX4_comes_8 (off := 119) (by decide) (by rw [e8_116]; decide) (by decide) ?_
    have hd : dbN (t p) = 2 := by rw [e8_116]; rfl
    refine A_aload_n 128 dX4_comes_127 rfl rfl rfl ?_
    refine A_aload_n 129 dX4_comes_128 rfl rfl rfl ?_
    refine A_iload_n 130 dX4_comes_129 rfl rfl rfl ?_
    refine A_iconst 131 (1) dX4_comes_130 rfl (by decide) ?_
    refine A_iadd 132 dX4_comes_131 rfl ?_
    rw [n41]
    refine A_callVI 135 (S_X4_digit X l O12 (j := p + 1) (by omega)) dX4_comes_132 rfl kX4_digit lk_X4_62 rfl O12 (by decide) rfl (Nat.le_of_ble_eq_true rfl) (fun v_14 h_14 qh_14 => ?_)
    obtain ⟨rfl, rfl⟩ := qh_14
    refine A_aload_n 136 dX4_comes_135 rfl rfl rfl ?_
    refine A_iload_n 137 dX4_comes_136 rfl rfl rfl ?_
    refine A_iconst 138 (2) dX4_comes_137 rfl (by decide) ?_
    refine A_iadd 139 dX4_comes_138 rfl ?_
    rw [n42]
    refine A_callVI 142 (S_X4_digit X l O12 (j := p + 2) (by omega)) dX4_comes_139 rfl kX4_digit lk_X4_62 rfl O12 (by decide) rfl (Nat.le_of_ble_eq_true rfl) (fun v_15 h_15 qh_15 => ?_)
    obtain ⟨rfl, rfl⟩ := qh_15
    refine A_callVI 145 (S_X4_isTaken X l (by first | assumption | decide | omega | exact Ne.symm (by assumption)) (by first | assumption | decide | omega | exact Ne.symm (by assumption)) (by first | assumption | decide | omega | exact Ne.symm (by assumption))) dX4_comes_142 rfl kX4_isTaken lk_X4_72 rfl O12 (by decide) rfl (Nat.le_of_ble_eq_true rfl) (fun v_16 h_16 qh_16 => ?_)
    obtain ⟨rfl, n0h_16, eh_16⟩ := qh_16
    replace O12 := (eh_16 _ (by decide)).trans O12
    replace O13 := n0h_16
    replace O14 := (eh_16 _ (by decide)).trans O14
    replace hf : ∀ i, i ≠ 13 → i ≠ 14 → h_16 i = h i := fun i g0 g1 => (eh_16 i g0).trans (hf i g0 g1)
    have es : stF t x p = stT x (dg t (p + 1)) (dg t (p + 2)) := by
      unfold stF
      rw [if_neg e8_98, if_neg e8_108, if_neg e8_112, if_pos e8_116]
    refine A_zret dX4_comes_145 rfl (by first | with_reducible exact bI01 _ | decide) ⟨_, rfl, (by first | (rw [es]; done) | (rw [es]; rfl)), _, (by rw [es]; exact O13), O14, hf⟩
  refine A_case (120) (fun e8_120 => ?_) (fun e8_120 => ?_)
  · skip
    refine A_lookup 165 dX4_comes_8 (off := 157) (by decide) (by rw [e8_120]; decide) (by decide) ?_
    refine A_aload_n 166 dX4_comes_165 rfl rfl rfl ?_
    refine A_getfield 169 dX4_comes_166 rfl f_X4_18 O12 rfl ?_
    refine A_callVI 172 (S_X8_emptyTray X l (by first | assumption | decide | omega | exact Ne.symm (by assumption))) dX4_comes_169 rfl kX8_emptyTray lk_X4_79 rfl O13 (by decide) rfl (Nat.le_of_ble_eq_true rfl) (fun v_17 h_17 qh_17 => ?_)
    obtain ⟨rfl, n0h_17, eh_17⟩ := qh_17
    replace O12 := (eh_17 _ (by decide)).trans O12
    replace O13 := n0h_17
    replace O14 := (eh_17 _ (by decide)).trans O14
    replace hf : ∀ i, i ≠ 13 → i ≠ 14 → h_17 i = h i := fun i g0 g1 => (eh_17 i g0).trans (hf i g0 g1)
    refine A_pop 173 dX4_comes_172 rfl rfl ?_
    refine A_iconst 174 (1) dX4_comes_173 rfl (by decide) ?_
    have es : stF t x p = some (clearF x) := by
      unfold stF
      rw [if_neg e8_98, if_neg e8_108, if_neg e8_112, if_neg e8_116, if_pos e8_120]
    refine A_zret dX4_comes_174 rfl (by first | with_reducible exact bI01 _ | decide) ⟨_, rfl, (by first | (rw [es]; done) | (rw [es]; rfl)), _, (by rw [es]; exact O13), O14, hf⟩
  refine A_lookup 175 dX4_comes_8 (off := 167) (by decide) (by have q0 := Ne.symm (ne_toInt (k := 98) (z := 98) e8_98 (by decide)); have q1 := Ne.symm (ne_toInt (k := 108) (z := 108) e8_108 (by decide)); have q2 := Ne.symm (ne_toInt (k := 112) (z := 112) e8_112 (by decide)); have q3 := Ne.symm (ne_toInt (k := 116) (z := 116) e8_116 (by decide)); have q4 := Ne.symm (ne_toInt (k := 120) (z := 120) e8_120 (by decide)); show (if _ then _ else _) = _; simp [Op.lookupswitch.offset, *]) (by decide) ?_
  refine A_aload_n 176 dX4_comes_175 rfl rfl rfl ?_
  refine A_getfield 179 dX4_comes_176 rfl f_X4_18 O12 rfl ?_
  refine A_callVI 182 (S_X8_dayNumber X l (by first | assumption | decide | omega | exact Ne.symm (by assumption))) dX4_comes_179 rfl kX8_dayNumber lk_X4_83 rfl O13 (by decide) rfl (Nat.le_of_ble_eq_true rfl) (fun v_18 h_18 qh_18 => ?_)
  obtain ⟨rfl, rfl⟩ := qh_18
  refine A_sipush 185 (999) dX4_comes_182 rfl (by decide) ?_
  refine A_icmp_lt 190 188 dX4_comes_185 (by decide) rfl (fun c185 => ?_) (fun c185 => ?_)
  · skip
    try simp only [bI_0, bI_n0, Classical.not_not, Bool.not_eq_false, Bool.true_and, Bool.and_true, decide_eq_true_eq, decide_eq_false_iff_not, dayC_1, dayC_21, dayC_221, dayC_222] at c185
    have n185 := Int32.not_le.mpr c185
    refine A_aload_n 191 dX4_comes_190 rfl rfl rfl ?_
    refine A_getfield 194 dX4_comes_191 rfl f_X4_18 O12 rfl ?_
    refine A_aload_n 195 dX4_comes_194 rfl rfl rfl ?_
    refine A_getfield 198 dX4_comes_195 rfl f_X4_25 O12 rfl ?_
    refine A_callVI 201 (S_X8_passDay X l (by first | assumption | decide | omega | exact Ne.symm (by assumption)) (by first | assumption | decide | omega | exact Ne.symm (by assumption)) (by first | assumption | decide | omega | exact Ne.symm (by assumption)) (by first | assumption | decide | omega | exact Ne.symm (by assumption)) (by first | assumption | decide | omega | exact Ne.symm (by assumption))) dX4_comes_198 rfl kX8_passDay lk_X4_86 rfl O13 (by decide) rfl (Nat.le_of_ble_eq_true rfl) (fun v_19 h_19 qh_19 => ?_)
    obtain ⟨rfl, y1_19, n0h_19, n1h_19, eh_19⟩ := qh_19
    replace O12 := (eh_19 _ (by decide) (by decide)).trans O12
    replace O13 := n0h_19
    replace O14 := n1h_19
    replace hf : ∀ i, i ≠ 13 → i ≠ 14 → h_19 i = h i := fun i g0 g1 => (eh_19 i g0 g1).trans (hf i g0 g1)
    refine A_pop 202 dX4_comes_201 rfl rfl ?_
    refine A_iconst 203 (1) dX4_comes_202 rfl (by decide) ?_
    have es : stF t x p = some (passX x) := by
      unfold stF
      rw [if_neg e8_98, if_neg e8_108, if_neg e8_112, if_neg e8_116, if_neg e8_120]
      unfold stD
      rw [if_pos c185]
    refine A_zret dX4_comes_203 rfl (by first | with_reducible exact bI01 _ | decide) ⟨_, rfl, (by first | (rw [es]; done) | (rw [es]; rfl)), _, (by rw [es]; exact O13), O14, hf⟩
  · skip
    try simp only [bI_0, bI_n0, Classical.not_not, Bool.not_eq_false, Bool.true_and, Bool.and_true, decide_eq_true_eq, decide_eq_false_iff_not, dayC_1, dayC_21, dayC_221, dayC_222] at c185
    have n185 := Int32.not_lt.mp c185
    refine A_iconst 189 (0) dX4_comes_188 rfl (by decide) ?_
    have es : stF t x p = none := by
      unfold stF
      rw [if_neg e8_98, if_neg e8_108, if_neg e8_112, if_neg e8_116, if_neg e8_120]
      unfold stD
      rw [if_neg c185]
    refine A_zret dX4_comes_189 rfl (by first | with_reducible exact bI01 _ | decide) ⟨_, rfl, (by first | (rw [es]; done) | (rw [es]; rfl)), _, (by rw [es]; exact O13), O14, hf⟩
set_option maxHeartbeats 4000000 in
set_option maxRecDepth 100000 in
theorem S_X4_faultOfSense (X : En) (l : Launch) {h : Hp} {t : FI} {n k0 : Nat} (O12 : h 12 = some (leB t n k0)) {x x13 : PW} (O1 : h 1 = some (wB 1 x)) (O13 : h 13 = some (wB 13 x13)) {y : PC} (O14 : h 14 = some (cB 14 y)) (hW : WOK x) (hn : n ≤ 96) (hF : formF t n = -1) : Ct X l mX4_faultOfSense [aR 12 0, aR 1 0] h (QI (fun vr h2 => ((snF t n x).1) = vr ∧ ∃ (y1 : PC), h2 (12) = some (leB t n (snF t n x).2.2) ∧ h2 (13) = some (wB 13 (snF t n x).2.1) ∧ h2 (14) = some (cB 14 y1) ∧ ∀ i, i ≠ 12 → i ≠ 13 → i ≠ 14 → h2 i = h i)) := by
  have hf : ∀ i, i ≠ 12 → i ≠ 13 → i ≠ 14 → h i = h i := fun _ _ _ _ => rfl
  refine Ct.intro [some (aR 12 0), some (aR 1 0), none, none] (by decide +kernel) rfl (Nat.le_of_ble_eq_true rfl) ?_
  refine A_aload_n 1 dX4_faultOfSense_0 rfl rfl rfl ?_
  refine A_getfield 4 dX4_faultOfSense_1 rfl f_X4_18 O12 rfl ?_
  refine A_aload_n 5 dX4_faultOfSense_4 rfl rfl rfl ?_
  refine A_callVV 8 (S_X8_copyFrom X l (by first | assumption | decide | omega | exact Ne.symm (by assumption)) (by first | assumption | decide | omega | exact Ne.symm (by assumption)) (by first | assumption | decide | omega | exact Ne.symm (by assumption))) dX4_faultOfSense_5 rfl kX8_copyFrom lk_X4_40 rfl O13 (by decide) rfl (Nat.le_of_ble_eq_true rfl) (fun h_1 qh_1 => ?_)
  obtain ⟨n0h_1, eh_1⟩ := qh_1
  replace O12 := (eh_1 _ (by decide)).trans O12
  replace O1 := (eh_1 _ (by decide)).trans O1
  replace O13 := n0h_1
  replace O14 := (eh_1 _ (by decide)).trans O14
  replace hf : ∀ i, i ≠ 12 → i ≠ 13 → i ≠ 14 → h_1 i = h i := fun i g0 g1 g2 => (eh_1 i g1).trans (hf i g0 g1 g2)
  refine A_aload_n 9 dX4_faultOfSense_8 rfl rfl rfl ?_
  refine A_iconst 10 (0) dX4_faultOfSense_9 rfl (by decide) ?_
  refine P_X4_4 13 dX4_faultOfSense_10 rfl fw_X4_37 O12 (fun h_2 nh_2 eh_2 => ?_)
  replace O12 := nh_2
  replace O1 := (eh_2 _ (by decide)).trans O1
  replace O13 := (eh_2 _ (by decide)).trans O13
  replace O14 := (eh_2 _ (by decide)).trans O14
  replace hf : ∀ i, i ≠ 12 → i ≠ 13 → i ≠ 14 → h_2 i = h i := fun i g0 g1 g2 => (eh_2 i g0).trans (hf i g0 g1 g2)
  refine A_iconst 14 (0) dX4_faultOfSense_13 rfl (by decide) ?_
  refine A_istore_n 15 dX4_faultOfSense_14 rfl rfl (by decide) (by first | exact (ast_s (ast_1 rfl)) | exact (ast_s ast_k)) ?_
  refine A_iconst 16 (0) dX4_faultOfSense_15 rfl (by decide) ?_
  refine A_istore_n 17 dX4_faultOfSense_16 rfl rfl (by decide) (by first | exact (ast_s (ast_s (ast_1 rfl))) | exact (ast_s (ast_s ast_k))) ?_
  have L17 : ∀ (nq i : Nat) (p k : Nat) (z : PW) (g17 : Hp) (y0 : PC), (nq + i = 96) → (snN t n nq p k z = snF t n x) → (WOK z ∧ p ≤ n ∧ fmN t n (n - p) p (-1) = -1) → (g17 12 = some (leB t n k)) → (g17 1 = some (wB 1 x)) → (g17 13 = some (wB 13 z)) → (g17 14 = some (cB 14 y0)) → (∀ i, i ≠ 12 → i ≠ 13 → i ≠ 14 → g17 i = h i) → Av X l mX4_faultOfSense 17 [some (aR 12 0), some (aR 1 0), some (aI (nI (p))), some (aI (nI (i)))] [] g17 (QI (fun vr h2 => ((snF t n x).1) = vr ∧ ∃ (y1 : PC), h2 (12) = some (leB t n (snF t n x).2.2) ∧ h2 (13) = some (wB 13 (snF t n x).2.1) ∧ h2 (14) = some (cB 14 y1) ∧ ∀ i, i ≠ 12 → i ≠ 13 → i ≠ 14 → h2 i = h i)) := by
    intro nq
    induction nq using Nat.strongRecOn with
    | _ nq ih =>
    intro i p k z g17 y0 en ee hy O12 O1 O13 O14 hf
    refine A_iload_n 18 dX4_faultOfSense_17 rfl rfl rfl ?_
    refine A_bipush 20 (96) dX4_faultOfSense_18 rfl (by decide) ?_
    refine A_icmp_ge 77 23 dX4_faultOfSense_20 (by decide) rfl (fun c20 => ?_) (fun c20 => ?_)
    · skip
      obtain rfl := (up_ge_T (N := 96) c20 rfl (by omega) (by omega)).symm
      have es : snF t n x = (-1, z, k) := by rw [← ee, show nq = 0 by omega]; rfl
      refine A_iconst 78 (-1) dX4_faultOfSense_77 rfl (by decide) ?_
      refine A_iret dX4_faultOfSense_78 rfl ⟨_, rfl, (by rw [es]), _, (by rw [es]; exact O12), (by rw [es]; exact O13), O14, hf⟩
    · skip
      have hi := up_ge_F (N := 96) c20 rfl (by omega) (by omega)
      obtain ⟨n0, rfl⟩ : ∃ q, nq = q + 1 := ⟨nq - 1, by omega⟩
      refine A_iload_n 24 dX4_faultOfSense_23 rfl rfl rfl ?_
      refine A_aload_n 25 dX4_faultOfSense_24 rfl rfl rfl ?_
      refine A_getfield 28 dX4_faultOfSense_25 rfl f_X4_29 O12 rfl ?_
      refine A_icmp_ge 77 31 dX4_faultOfSense_28 (by decide) rfl (fun c28 => ?_) (fun c28 => ?_)
      · skip
        try simp only [bI_0, bI_n0, Classical.not_not, Bool.not_eq_false, Bool.true_and, Bool.and_true, decide_eq_true_eq, decide_eq_false_iff_not, dayC_1, dayC_21, dayC_221, dayC_222] at c28
        have n28 := c28
        replace c28 := Int32.not_lt.mpr c28
        have hpn : ¬ p < n := mt (nlt_iff (a := p) (b := n) (by omega) (by omega)).mpr c28
        have es : snF t n x = (-1, z, k) := by rw [← ee, snN_s, if_neg hpn]
        refine A_iconst 78 (-1) dX4_faultOfSense_77 rfl (by decide) ?_
        refine A_iret dX4_faultOfSense_78 rfl ⟨_, rfl, (by rw [es]), _, (by rw [es]; exact O12), (by rw [es]; exact O13), O14, hf⟩
      · skip
        try simp only [bI_0, bI_n0, Classical.not_not, Bool.not_eq_false, Bool.true_and, Bool.and_true, decide_eq_true_eq, decide_eq_false_iff_not, dayC_1, dayC_21, dayC_221, dayC_222] at c28
        have n28 := c28
        replace c28 := Int32.not_le.mp c28
        have hpn : p < n := (nlt_iff (a := p) (b := n) (by omega) (by omega)).mp c28
        have hst := form_step hpn (by omega) hy.2.2
        have hWz := hy.1
        refine A_aload_n 32 dX4_faultOfSense_31 rfl rfl rfl ?_
        refine A_iload_n 33 dX4_faultOfSense_32 rfl rfl rfl ?_
        refine A_callVI 36 (S_X4_comes X l O12 O13 O14 hWz (p := p) (by omega)) dX4_faultOfSense_33 rfl kX4_comes lk_X4_52 rfl O12 (by decide) rfl (Nat.le_of_ble_eq_true rfl) (fun v_3 h_3 qh_3 => ?_)
        obtain ⟨rfl, y1_3, n0h_3, n1h_3, eh_3⟩ := qh_3
        replace O12 := (eh_3 _ (by decide) (by decide)).trans O12
        replace O1 := (eh_3 _ (by decide) (by decide)).trans O1
        replace O13 := n0h_3
        replace O14 := n1h_3
        replace hf : ∀ i, i ≠ 12 → i ≠ 13 → i ≠ 14 → h_3 i = h i := fun i g0 g1 g2 => (eh_3 i g1 g2).trans (hf i g0 g1 g2)
        refine A_if_ne 41 39 dX4_faultOfSense_36 (by decide) rfl (fun c36 => ?_) (fun c36 => ?_)
        · skip
          try simp only [bI_0, bI_n0, Classical.not_not, Bool.not_eq_false, Bool.true_and, Bool.and_true, decide_eq_true_eq, decide_eq_false_iff_not, dayC_1, dayC_21, dayC_221, dayC_222] at c36
          refine A_aload_n 42 dX4_faultOfSense_41 rfl rfl rfl ?_
          refine A_dup 43 dX4_faultOfSense_42 rfl rfl ?_
          refine A_getfield 46 dX4_faultOfSense_43 rfl f_X4_37 O12 rfl ?_
          refine A_iconst 47 (1) dX4_faultOfSense_46 rfl (by decide) ?_
          refine A_iadd 48 dX4_faultOfSense_47 rfl ?_
          rw [n41]
          refine P_X4_4 51 dX4_faultOfSense_48 rfl fw_X4_37 O12 (fun h_4 nh_4 eh_4 => ?_)
          replace O12 := nh_4
          replace O1 := (eh_4 _ (by decide)).trans O1
          replace O13 := (eh_4 _ (by decide)).trans O13
          replace O14 := (eh_4 _ (by decide)).trans O14
          replace hf : ∀ i, i ≠ 12 → i ≠ 13 → i ≠ 14 → h_4 i = h i := fun i g0 g1 g2 => (eh_4 i g0).trans (hf i g0 g1 g2)
          refine A_iload_n 52 dX4_faultOfSense_51 rfl rfl rfl ?_
          refine A_iconst 53 (0) dX4_faultOfSense_52 rfl (by decide) ?_
          refine A_aload_n 54 dX4_faultOfSense_53 rfl rfl rfl ?_
          refine A_getfield 57 dX4_faultOfSense_54 rfl f_X4_11 O12 rfl ?_
          refine A_iload_n 58 dX4_faultOfSense_57 rfl rfl rfl ?_
          refine A_callNI 61 (S_X9_cell_X4_0 X l (by first | assumption | decide | omega | exact Ne.symm (by assumption)) (by first | assumption | exact ix_nI (by omega) (by decide) | exact ix_lit _ rfl (by omega) (by decide) | exact ix_lit _ rfl (by decide) (by decide))) dX4_faultOfSense_58 rfl kX9_cell nk_X4_44 rfl (by decide) rfl (Nat.le_of_ble_eq_true rfl) (fun v_5 h_5 qh_5 => ?_)
          obtain ⟨rfl, rfl⟩ := qh_5
          refine A_callSI 64 (S_X4_digitsBehind X l) dX4_faultOfSense_61 rfl kX4_digitsBehind lk_X4_48 rfl (by decide) rfl (Nat.le_of_ble_eq_true rfl) (fun v_6 h_6 qh_6 => ?_)
          obtain ⟨rfl, rfl⟩ := qh_6
          refine A_max 67 dX4_faultOfSense_64 rfl lk_X4_56 mm_max_s mm_i mm_max_c ⟨by decide, Nat.le_of_ble_eq_true rfl⟩ ?_
          rw [max_DB hst.1.1]
          refine A_iconst 68 (2) dX4_faultOfSense_67 rfl (by decide) ?_
          refine A_iadd 69 dX4_faultOfSense_68 rfl ?_
          refine A_iadd 70 dX4_faultOfSense_69 rfl ?_
          rw [n42, ← nadd]
          refine A_istore_n 71 dX4_faultOfSense_70 rfl rfl (by decide) (by first | exact (ast_s (ast_1 rfl)) | exact (ast_s ast_k)) ?_
          first | refine A_iincN 74 dX4_faultOfSense_71 rfl rfl (by decide) (by first | exact (ast_s (ast_s (ast_1 rfl))) | exact (ast_s (ast_s ast_k))) ?_ | refine A_iinc 74 (1) dX4_faultOfSense_71 rfl rfl (by decide) (by decide) (by first | exact (ast_s (ast_s (ast_1 rfl))) | exact (ast_s (ast_s ast_k))) ?_
          refine A_goto 17 dX4_faultOfSense_74 (by decide) ?_
          exact ih n0 (Nat.lt_succ_self n0) (i + 1) _ _ _ h_4 _ (by omega) ((by rw [snN_s, if_pos hpn, if_pos c36] : snN t n (n0 + 1) p k z = snN t n n0 (p + (dbN (t p) + 2)) (k + 1) ((stF t z p).getD z)).symm.trans ee) (⟨stF_W hy.1 hst.1, hst.2.1, hst.2.2⟩) O12 O1 O13 O14 hf
        · skip
          try simp only [bI_0, bI_n0, Classical.not_not, Bool.not_eq_false, Bool.true_and, Bool.and_true, decide_eq_true_eq, decide_eq_false_iff_not, dayC_1, dayC_21, dayC_221, dayC_222] at c36
          have es : snF t n x = (nI p, z, k) := by rw [← ee, snN_s, if_pos hpn, if_neg (by rw [c36]; decide)]
          replace O13 : h_3 13 = some (wB 13 z) := by
            have q : (stF t z p).getD z = z := by
              cases e : stF t z p with
              | none => rfl
              | some v => rw [e] at c36; cases c36
            rw [q] at O13
            exact O13
          refine A_iload_n 40 dX4_faultOfSense_39 rfl rfl rfl ?_
          refine A_iret dX4_faultOfSense_40 rfl ⟨_, rfl, (by rw [es]), _, (by rw [es]; exact O12), (by rw [es]; exact O13), O14, hf⟩
  exact L17 (96) (0) (0) (0) (x) h_2 (_) (by omega) (rfl) (⟨hW, Nat.zero_le n, hF⟩) O12 O1 O13 O14 hf
