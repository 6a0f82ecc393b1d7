/-! what each method of the face answers: w the refusal (0 none), a the answer -/
def rV (w a : Int32) : Int32 := if w = 0 then a else w
def rVL (w : Int32) (a : Int64) : Int64 := if w = 0 then a else 4000000000000000000 - w.toInt64
def rS (w : Int32) (f : FI) : FI := if w = 0 then f else va_up f (-w).toNatClampNeg (f (-w).toNatClampNeg + 1)
def CD (w : Int32) : Prop := w = -1 ∨ w = -2 ∨ w = -3 ∨ w = -4 ∨ w = -6
theorem CD.ix {w : Int32} (h : CD w) : ix (-w) 7 (-w).toNatClampNeg := by
  rcases h with rfl | rfl | rfl | rfl | rfl <;> exact ⟨rfl, by decide, by decide⟩
theorem CD.ne {w : Int32} (h : CD w) : ¬ w = 0 := by
  rcases h with rfl | rfl | rfl | rfl | rfl <;> decide
def w01 (v : Int32) : Int32 := if v < 0 ∨ 1 < v then -2 else 0
def wP (x : PW) (p : Int32) : Int32 := if isP x p = true then 0 else -1
def wPL (x : PW) (p l : Int32) : Int32 := if isP x p = true ∧ isL x l = true then 0 else -1
def wP01 (x : PW) (p v : Int32) : Int32 := if isP x p = true then w01 v else -1
def wL01 (x : PW) (l v : Int32) : Int32 := if isL x l = true then w01 v else -1
def wRow (x : PW) (t : FI) (n : Nat) : Int32 := if rowOK t n x.2.2.1 = true then 0 else -3
def w01R (x : PW) (t : FI) (n : Nat) (v : Int32) : Int32 := if v < 0 ∨ 1 < v then -2 else wRow x t n
def wAB (x : PW) (a b : Int32) : Int32 := if isP x a = true ∧ isP x b = true ∧ ¬ a = b then 0 else -1
def wNum (v lo hi : Int32) : Int32 := if v < lo then -4 else if hi < v then -6 else 0
def wLawOf (x : PW) (l v : Int32) : Int32 := if isL x l = true then (if v < 0 ∨ 3 < v then -2 else 0) else -1
def aLawOf (x : PW) (l v : Int32) : Int32 := x.1 (l.toNatClampNeg * 4 + v.toNatClampNeg)
def wAt (x : PW) (p hr v : Int32) : Int32 := if isP x p = true ∧ ¬ hr < 0 ∧ hr < 12 then w01 v else -1
def aAt (x : PW) (p hr v : Int32) : Int32 := if v = 0 then dLaw x 0 (pk x p) hr.toNatClampNeg else dHas x 0 (pk x p) hr.toNatClampNeg
def wDone (x : PW) (p v : Int32) : Int32 := if isP x p = true then (if v < 0 ∨ 3 < v then -2 else 0) else -1
def aDone (x : PW) (p v : Int32) : Int32 := if v = 0 then dDone x 0 (pk x p) else if v = 1 then bitC (dDone x 0 (pk x p)) else if v = 2 then pk x p &&& (dEnd x 0 (pk x p) ^^^ (-1)) else dEnd x 0 (pk x p) &&& (pk x p ^^^ (-1))
def aWhen (x : PW) (p l : Int32) : Int32 := hourF (dLaw x 0 (pk x p)) l
def wInst (x : PW) (p s v : Int32) : Int32 := if isP x p = true then (if s < 0 then -4 else if 255 < s then -6 else w01 v) else -1
def aInst (x : PW) (p s v : Int32) : Int32 := if v = 0 then dDone x 0 (pk x p &&& (s ^^^ (-1))) else dDone x 0 (pk x p &&& (s ^^^ (-1))) &&& (dDone x 0 (pk x p) ^^^ (-1))
def aStop (x : PW) (p l : Int32) : Int32 := foldN (ftF x (pk x p) (oneB l)) (-9) 256
def wAllS (x : PW) (p s : Int32) : Int32 := if isP x p = true then (if s < 0 then -4 else if allL x < s then -6 else 0) else -1
def aAllS (x : PW) (p s : Int32) : Int32 := foldN (ftF x (pk x p) s) (-9) 256
def aAgr (x : PW) (p v : Int32) : Int32 := if v = 0 then (foldN (agF x (pk x p)) (0, -9) 256).1 else (foldN (agF x (pk x p)) (0, -9) 256).2
def aBring (x : PW) (p l : Int32) : Int32 := foldN (fbF x (pk x p) l) (-9) 256
def wEmp (v : Int32) : Int32 := if v < 0 ∨ 2 < v then -2 else 0
def aEmp (x : PW) (v : Int32) : Int32 := if v = 0 then dDone x 0 0 else if v = 1 then (foldN (buF x) (0, -1) 256).1 else DN x (foldN (buF x) (0, -1) 256).1
def fitQ (x : PW) (t : FI) (n i : Nat) : Bool := decide (FW t n (dLaw x 0 (nI i)) = -9)
def cdF (x : PW) (t : FI) (n : Nat) (i : Nat) (u : Int32) : Int32 := if fitQ x t n i = true then u + 1 else u
def cdN (x : PW) (t : FI) (n : Nat) : Int32 := foldN (cdF x t n) 0 256
def lsF (x : PW) (t : FI) (n : Nat) (i : Nat) (u : Int32) : Int32 := if fitQ x t n i = true then nI i else u
def aHad (x : PW) (t : FI) (n : Nat) (v : Int32) : Int32 := if v = 0 then cdN x t n else downF (lsF x t n) 256 (-9)
def cwF (x : PW) (t : FI) (n : Nat) (c : Int32) (i : Nat) (u : Int32) : Int32 := if fitQ x t n i = true ∧ btI (nI i) c = true then u + 1 else u
def cwN (x : PW) (t : FI) (n : Nat) (c : Int32) : Int32 := foldN (cwF x t n c) 0 256
def aTray (x : PW) (v : Int32) (mo : Int32) : Int32 := if v = 0 then x.2.2.2.2.1 else mo
def aGuard (x : PW) (p v : Int32) : Int32 := if v = 0 then (foldN (gdF x (pk x p)) (11, 8) 9).1 else (foldN (gdF x (pk x p)) (11, 8) 9).2
def wWhich (x : PW) (t : FI) (n : Nat) (p l v : Int32) : Int32 := if isP x p = true ∧ isL x l = true then (if v < 0 ∨ 2 < v then -2 else wRow x t n) else -1
def aWhich (x : PW) (t : FI) (n : Nat) (p l v : Int32) : Int32 := foldN (fpF x t n (pk x p) l.toNatClampNeg v.toNatClampNeg) 0 (valsN v.toNatClampNeg)
def aIdle (x : PW) (p v : Int32) : Int32 := if v = 0 then 12 - bitC (dDone x 0 (pk x p)) else hourF (dLaw x 0 (pk x p)) (-9)
def aNever (x : PW) (v : Int32) : Int32 := if v = 0 then allL x &&& (foldN (dsF x) 0 x.2.2.2.1 ^^^ (-1)) else DA x
def aAlike (x : PW) (v : Int32) : Int32 := if v = 0 then (foldN (alO x) (-9, -9) x.2.2.2.1).1 else (foldN (alO x) (-9, -9) x.2.2.2.1).2
def aDrop (x : PW) (p : Int32) : Int32 := (foldN (drF x (pk x p)) (-9, 11) 10).1
def aKey (x : PW) (v : Int32) : Int32 := if v = 0 then (KY x).1 else (KY x).2
def aLate (x : PW) (p l : Int32) : Int32 := latN x (pk x p) l.toNatClampNeg 10
def aNeed (x : PW) (p l : Int32) : Int32 := neV x (pk x p) l
def wTrade (x : PW) (a b v : Int32) : Int32 := if isP x a = true ∧ isP x b = true ∧ ¬ a = b then w01 v else -1
def aTrade (x : PW) (a b v : Int32) : Int32 := if v = 0 then (TR x (pk x a) (pk x b)).1 else (TR x (pk x a) (pk x b)).2
def aEarl (x : PW) (l v : Int32) : Int32 := if v = 0 then (foldN (eaF x l) (-9, -9) 256).1 else (foldN (eaF x l) (-9, -9) 256).2
def aSafe (x : PW) (p : Int32) : Int32 := foldN (itF x (pk x p)) 0 8
def aWays (x : PW) (l v : Int32) : Int32 := if v = 0 then foldN (wyF x l) 0 256 else foldN (fbF x 0 l) (-9) 256
def wNP (x : PW) (p n lo : Int32) : Int32 := if isP x p = true then (if n < lo then -4 else if 60 < n then -6 else 0) else -1
def aBehi (x : PW) (p n : Int32) : Int32 := foldN (pdF x) (pk x p) n.toNatClampNeg
def aGive (x : PW) (a b : Int32) : Int32 := (GI x (pk x a) (pk x b)).2
def aEver (x : PW) (p n : Int32) : Int32 := (foldN (ldF x) (pk x p, 0) n.toNatClampNeg).2
def wLots (n v : Int32) : Int32 := if n < 1 then -4 else if 20 < n then -6 else w01 v
def aLots (x : PW) (n z v : Int32) : Int32 := if v = 0 then (foldN (ltO x) (z, 0, 0) n.toNatClampNeg).2.1 else (foldN (ltO x) (z, 0, 0) n.toNatClampNeg).2.2
abbrev PI4 (v0 : Int32) (h : Hp) (o : Nat) (b : Blk) (o2 : Nat) (b2 : Blk) (o3 : Nat) (b3 : Blk) (o4 : Nat) (b4 : Blk) : Int32 → Hp → Prop := fun v h' => v0 = v ∧ h' o = some b ∧ h' o2 = some b2 ∧ h' o3 = some b3 ∧ h' o4 = some b4 ∧ ∀ i, i ≠ o → i ≠ o2 → i ≠ o3 → i ≠ o4 → h' i = h i
def ifW {α : Type} (w : Int32) (a b : α) : α := if w = 0 then a else b
theorem ifW_0 {α : Type} (a b : α) : ifW 0 a b = a := if_pos rfl
theorem ifW_1 {α : Type} (a b : α) : ifW (-1) a b = b := if_neg (by decide)
theorem ifW_2 {α : Type} (a b : α) : ifW (-2) a b = b := if_neg (by decide)
theorem ifW_3 {α : Type} (a b : α) : ifW (-3) a b = b := if_neg (by decide)
theorem ifW_4 {α : Type} (a b : α) : ifW (-4) a b = b := if_neg (by decide)
theorem ifW_6 {α : Type} (a b : α) : ifW (-6) a b = b := if_neg (by decide)
theorem rS_0 (r : FI) : rS 0 r = r := if_pos rfl
theorem rV_0 (a : Int32) : rV 0 a = a := if_pos rfl
theorem rVL_0 (a : Int64) : rVL 0 a = a := if_pos rfl
theorem rV_n {w a : Int32} (h : ¬ w = 0) : rV w a = w := if_neg h
theorem rVL_n {w : Int32} {a : Int64} (h : ¬ w = 0) : rVL w a = 4000000000000000000 - w.toInt64 := if_neg h
