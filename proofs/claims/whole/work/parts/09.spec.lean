/-! small helps of the class -/
def btI (p w : Int32) : Bool := decide (p &&& (1 <<< (w &&& 31)) ≠ 0)
def oneB (w : Int32) : Int32 := 1 <<< (w &&& 31)
def inT (t : Int32) : Bool := decide (0 ≤ t ∧ t < 8)
def sruN (x : Int32) (k : Int32) : Int32 := (x.toUInt32 >>> (k.toUInt32 &&& Int32.toUInt32 31)).toInt32
def b1 (x : Int32) : Int32 := x - (sruN x 1 &&& 1431655765)
def b2 (x : Int32) : Int32 := (x &&& 858993459) + (sruN x 2 &&& 858993459)
def b3 (x : Int32) : Int32 := (x + sruN x 4) &&& 252645135
def b4 (x : Int32) : Int32 := x + sruN x 8
def b5 (x : Int32) : Int32 := x + sruN x 16
def bitC (x : Int32) : Int32 := b5 (b4 (b3 (b2 (b1 x)))) &&& 63
theorem le_nl {a b : Int32} : a ≤ b ↔ ¬ b < a := Int32.not_lt.symm
theorem ix.lt {i : Int32} {n j : Nat} (hi : ix i n j) (hn : n < 2 ^ 31) : ¬ nI n ≤ i := by
  rw [nI_self hi.2.2, hi.1, nle_iff hn (by have := hi.2.1; omega)]
  have := hi.2.1
  omega
def kd (x : PW) (k : Nat) : Int32 := x.1 (k * 4)
def fg (x : PW) (k : Nat) : Int32 := x.1 (k * 4 + 1)
def wa (x : PW) (k : Nat) : Int32 := x.1 (k * 4 + 2)
def gi (x : PW) (k : Nat) : Int32 := x.1 (k * 4 + 3)
/-- the laws in their ranges; the whole world -/
def LOK (x : PW) : Prop := x.2.2.1 ≤ 10 ∧ ∀ k, k < 10 → (∃ n, n < 6 ∧ kd x k = nI n) ∧ (∃ n, n < 10 ∧ fg x k = nI n) ∧ (∃ n, n < 8 ∧ wa x k = nI n) ∧ (∃ n, n < 8 ∧ gi x k = nI n)
def WOK (x : PW) : Prop := LOK x ∧ x.2.2.2.1 ≤ 6 ∧ (∀ p, p < 6 → ∃ n, n < 256 ∧ x.2.1 p = nI n) ∧ (∃ n, n < 256 ∧ x.2.2.2.2.1 = nI n) ∧ (∃ n, n < 1000 ∧ x.2.2.2.2.2 = nI n)
theorem LOK.kd6 {x : PW} (hx : LOK x) {k : Nat} (hk : k < 10) : kd x k = 0 ∨ kd x k = 1 ∨ kd x k = 2 ∨ kd x k = 3 ∨ kd x k = 4 ∨ kd x k = 5 := by
  obtain ⟨n, hn, e⟩ := (hx.2 k hk).1
  rw [e]
  rcases (show n = 0 ∨ n = 1 ∨ n = 2 ∨ n = 3 ∨ n = 4 ∨ n = 5 by omega) with rfl | rfl | rfl | rfl | rfl | rfl <;> decide
def tbI (t : Int32) : Int32 := if inT t then oneB t else 0
def holdsF (x : PW) (k : Nat) (hour has : Int32) : Bool :=
  if hour < fg x k then false
  else if kd x k = 0 then btI has (wa x k)
  else if kd x k = 1 then btI has (wa x k)
  else if kd x k = 2 then btI has (wa x k) || btI has (gi x k)
  else if kd x k = 3 then !btI has (wa x k)
  else if kd x k = 4 then btI has (wa x k) && decide (hour - hour / 2 * 2 = 0)
  else (btI has (wa x k) || btI has (gi x k)) && decide (x.2.2.2.2.1 ≠ 0)
def eitherF (has w g : Int32) : Int32 := if has &&& w ≠ 0 ∧ has &&& g ≠ 0 then has &&& (g ^^^ (-1)) else has ^^^ (w ||| g)
def afterF (x : PW) (k : Nat) (has : Int32) : Int32 :=
  if kd x k = 0 then (has &&& (tbI (wa x k) ^^^ (-1))) ||| tbI (gi x k)
  else if kd x k = 1 then has ||| tbI (gi x k)
  else if kd x k = 2 then eitherF has (tbI (wa x k)) (tbI (gi x k))
  else if kd x k = 3 then has ||| tbI (gi x k)
  else if kd x k = 4 then (has ||| tbI (gi x k)) &&& (tbI (fg x k) ^^^ (-1))
  else has ||| x.2.2.2.2.1
/-- the first law from k on (n of them) that holds and isn't of 'but' -/
def firstN (x : PW) (hour has but : Int32) : Nat → Nat → Int32
  | 0, _ => -9
  | n + 1, k => if btI but (nI k) = false ∧ holdsF x k hour has = true then nI k else firstN x hour has but n (k + 1)
def firstF (x : PW) (hour has but : Int32) : Int32 := firstN x hour has but x.2.2.1 0
theorem firstN_or (x : PW) (hour has but : Int32) : ∀ n k, firstN x hour has but n k = -9 ∨ ∃ j, j < k + n ∧ k ≤ j ∧ firstN x hour has but n k = nI j := by
  intro n
  induction n with
  | zero => intro k; exact Or.inl rfl
  | succ n ih =>
    intro k
    unfold firstN
    split
    · exact Or.inr ⟨k, by omega, by omega, rfl⟩
    · rcases ih (k + 1) with h | ⟨j, h1, h2, h3⟩
      · exact Or.inl h
      · exact Or.inr ⟨j, by omega, by omega, h3⟩
theorem firstF_or (x : PW) (hour has but : Int32) : firstF x hour has but = -9 ∨ ∃ j, j < x.2.2.1 ∧ firstF x hour has but = nI j := by
  rcases firstN_or x hour has but x.2.2.1 0 with h | ⟨j, h1, _, h3⟩
  · exact Or.inl h
  · exact Or.inr ⟨j, by omega, h3⟩
/-- a day: (laws done, pockets) behind n hours; nv: never done -/
def dayS (x : PW) (nv s : Int32) : Nat → Int32 × Int32
  | 0 => (0, s)
  | n + 1 => if firstF x (nI n) (dayS x nv s n).2 (nv ||| (dayS x nv s n).1) = -9 then dayS x nv s n
    else ((dayS x nv s n).1 ||| oneB (firstF x (nI n) (dayS x nv s n).2 (nv ||| (dayS x nv s n).1)), afterF x (firstF x (nI n) (dayS x nv s n).2 (nv ||| (dayS x nv s n).1)).toNatClampNeg (dayS x nv s n).2)
def dLaw (x : PW) (nv s : Int32) (n : Nat) : Int32 := firstF x (nI n) (dayS x nv s n).2 (nv ||| (dayS x nv s n).1)
def dHas (x : PW) (nv s : Int32) (n : Nat) : Int32 := (dayS x nv s (n + 1)).2
def dDone (x : PW) (nv s : Int32) : Int32 := (dayS x nv s 12).1
def dEnd (x : PW) (nv s : Int32) : Int32 := (dayS x nv s 12).2
def dayC (x : PW) (nv s : Int32) : PC := (dLaw x nv s, dHas x nv s, dDone x nv s, dEnd x nv s)
theorem dayS_s (x : PW) (nv s : Int32) (n : Nat) : dayS x nv s (n + 1) = if dLaw x nv s n = -9 then dayS x nv s n else ((dayS x nv s n).1 ||| oneB (dLaw x nv s n), afterF x (dLaw x nv s n).toNatClampNeg (dayS x nv s n).2) := rfl
theorem n4 (k j : Nat) : nI k * 4 + nI j = nI (k * 4 + j) := by rw [nadd, nmul]; rfl
theorem n40 (k : Nat) : nI k * 4 = nI (k * 4) := by rw [nmul]; rfl
theorem n41 (k : Nat) : nI k + 1 = nI (k + 1) := (nI_succ k).symm
theorem n42 (k : Nat) : nI k + 2 = nI (k + 2) := by rw [nadd]; rfl
theorem n43 (k : Nat) : nI k + 3 = nI (k + 3) := by rw [nadd]; rfl
theorem n4z (k : Nat) : nI k + 0 = nI k := by simp
theorem bt_ne {p w : Int32} : ¬ p &&& (1 <<< (w &&& 31)) = 0 ↔ btI p w = true := by simp [btI]
theorem bt_eq {p w : Int32} : p &&& (1 <<< (w &&& 31)) = 0 ↔ btI p w = false := by simp [btI]
theorem up_all {P : Nat → Int32 → Prop} {f : FI} {i : Nat} {v : Int32} (h : ∀ j, j < i → P j (f j)) (hv : P i v) : ∀ j, j < i + 1 → P j (va_up f i v j) := by
  intro j hj
  unfold va_up
  by_cases e : j = i
  · rw [if_pos e, e]; exact hv
  · rw [if_neg e]; exact h j (by omega)
theorem holdsF_u (x : PW) (u : FI) (k : Nat) (hour has : Int32) : holdsF (x.1, u, x.2.2) k hour has = holdsF x k hour has := rfl
theorem afterF_u (x : PW) (u : FI) (k : Nat) (has : Int32) : afterF (x.1, u, x.2.2) k has = afterF x k has := rfl
theorem firstN_u (x : PW) (u : FI) (hour has but : Int32) : ∀ n k, firstN (x.1, u, x.2.2) hour has but n k = firstN x hour has but n k := by
  intro n
  induction n with
  | zero => intro k; rfl
  | succ n ih =>
    intro k
    unfold firstN
    rw [holdsF_u, ih]
theorem dayS_u (x : PW) (u : FI) (nv s : Int32) : ∀ n, dayS (x.1, u, x.2.2) nv s n = dayS x nv s n := by
  intro n
  induction n with
  | zero => rfl
  | succ n ih =>
    unfold dayS
    rw [ih]
    unfold firstF
    rw [firstN_u]
    rfl
theorem dayC_u (x : PW) (u : FI) (nv s : Int32) : dayC (x.1, u, x.2.2) nv s = dayC x nv s := by
  have e1 : dLaw (x.1, u, x.2.2) nv s = dLaw x nv s := by
    funext n
    unfold dLaw firstF
    rw [dayS_u, firstN_u]
  have e2 : dHas (x.1, u, x.2.2) nv s = dHas x nv s := by
    funext n
    unfold dHas
    rw [dayS_u]
  unfold dayC dDone dEnd
  rw [e1, e2, dayS_u]
theorem dDone_u (x : PW) (u : FI) (nv s : Int32) : dDone (x.1, u, x.2.2) nv s = dDone x nv s := by unfold dDone; rw [dayS_u]
/-- the folk's day: pockets and how many laws, behind n of them -/
def passF (x : PW) (p : Nat) (t : FI × Int32) : FI × Int32 := (va_up t.1 p (dEnd x 0 (t.1 p)), t.2 + bitC (dDone x 0 (t.1 p)))
def passS (x : PW) : FI × Int32 := foldN (passF x) (x.2.1, 0) x.2.2.2.1
def passX (x : PW) : PW := (x.1, (passS x).1, x.2.2.1, x.2.2.2.1, x.2.2.2.2.1, x.2.2.2.2.2 + 1)
theorem dayC_1 (x : PW) (nv s : Int32) : (dayC x nv s).1 = dLaw x nv s := rfl
theorem dayC_21 (x : PW) (nv s : Int32) : (dayC x nv s).2.1 = dHas x nv s := rfl
theorem dayC_221 (x : PW) (nv s : Int32) : (dayC x nv s).2.2.1 = dDone x nv s := rfl
theorem dayC_222 (x : PW) (nv s : Int32) : (dayC x nv s).2.2.2 = dEnd x nv s := rfl
theorem bI_t : bI true = 1 := rfl
theorem bI_f : bI false = 0 := rfl
