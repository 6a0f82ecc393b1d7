/-! the faces that are left: what they answer -/
def ifW {α : Type} (w : Int32) (a b : α) : α := if w = 0 then a else b
theorem nI_exg {i : Int32} {n : Nat} (h : ¬ i < 0) (h2 : ¬ nI n < i) (hn : n + 1 < 2 ^ 31) : ∃ j, i = nI j ∧ j < n + 1 := by
  refine nI_exi h ?_ hn
  rw [Int32.lt_iff_toInt_lt, nI_toInt hn]
  have := mt Int32.lt_iff_toInt_lt.mpr h2
  rw [nI_toInt (by omega)] at this
  omega
def opN (v : Int32) : Nat := popN v.toNatClampNeg
theorem R10_pop {v : Int32} (h : R10 v) : bitC v = nI (opN v) ∧ opN v ≤ 10 := by
  obtain ⟨m, hm, rfl⟩ := h
  unfold opN
  rw [nI_clamp (by omega)]
  exact bitC_pop m hm
theorem R8_pop {v : Int32} (h : R8 v) : opN v ≤ 8 := by
  obtain ⟨m, hm, rfl⟩ := h
  unfold opN
  rw [nI_clamp (by omega)]
  exact pop_8 m hm
/-! the pockets by which the row is so, in the order of their numbers -/
def lrn (x : PW) (t : FI) (n : Nat) (g : FI) (m : Nat) : FI × Nat := foldN (leF x t n) (g, 0) m
theorem lrn_s (x : PW) (t : FI) (n : Nat) (g : FI) (m : Nat) : lrn x t n g (m + 1) = if fitQ x t n m = true then (va_up (lrn x t n g m).1 (lrn x t n g m).2 (nI m), (lrn x t n g m).2 + 1) else lrn x t n g m := by
  show leF x t n m (lrn x t n g m) = _
  unfold leF fitQ
  by_cases e : FW t n (dLaw x 0 (nI m)) = -9
  · rw [if_pos e, if_pos (decide_eq_true e)]
  · rw [if_neg e, if_neg (by rw [decide_eq_false e]; decide)]
theorem lrn_c0 (x : PW) (t : FI) (n : Nat) (g : FI) : ∀ m, (lrn x t n g m).2 ≤ m ∧ nI (lrn x t n g m).2 = foldN (cdF x t n) 0 m := by
  intro m
  induction m with
  | zero => exact ⟨Nat.le_refl 0, rfl⟩
  | succ m ih =>
    rw [lrn_s, foldN_s]
    unfold cdF
    by_cases e : fitQ x t n m = true
    · rw [if_pos e, if_pos e]
      exact ⟨by show (lrn x t n g m).2 + 1 ≤ m + 1; omega, by show nI ((lrn x t n g m).2 + 1) = _; rw [← n41, ih.2]; rfl⟩
    · rw [if_neg e, if_neg e]
      exact ⟨by omega, ih.2⟩
theorem lrn_w0 (x : PW) (t : FI) (n : Nat) (g : FI) {c : Int32} (hc : inT c = true) : ∀ m, foldN (hwF (lrn x t n g m).1 c) 0 (lrn x t n g m).2 = foldN (cwF x t n c) 0 m := by
  intro m
  induction m with
  | zero => rfl
  | succ m ih =>
    rw [lrn_s, foldN_s]
    unfold cwF
    by_cases e : fitQ x t n m = true
    · rw [if_pos e]
      show foldN (hwF (va_up (lrn x t n g m).1 (lrn x t n g m).2 (nI m)) c) 0 ((lrn x t n g m).2 + 1) = _
      rw [foldN_s, foldN_congr (hwF (va_up (lrn x t n g m).1 (lrn x t n g m).2 (nI m)) c) (hwF (lrn x t n g m).1 c) 0 (lrn x t n g m).2 (fun i hi u => by unfold hwF; rw [show va_up (lrn x t n g m).1 (lrn x t n g m).2 (nI m) i = (lrn x t n g m).1 i from if_neg (by omega)])]
      rw [ih]
      unfold hwF
      rw [show va_up (lrn x t n g m).1 (lrn x t n g m).2 (nI m) (lrn x t n g m).2 = nI m from if_pos rfl, hc, Bool.true_and]
      by_cases e2 : btI (nI m) c = true
      · rw [if_pos e2, if_pos ⟨e, e2⟩]; rfl
      · rw [if_neg e2, if_neg (fun z => e2 z.2)]; rfl
    · rw [if_neg e, if_neg (fun z => e z.1)]
      exact ih
theorem first_or (p : Nat → Bool) : ∀ n, (∀ i, i < n → p i = false) ∨ ∃ i, i < n ∧ p i = true ∧ ∀ j, j < i → p j = false := by
  intro n
  induction n with
  | zero => exact Or.inl (fun i hi => absurd hi (Nat.not_lt_zero i))
  | succ n ih =>
    rcases ih with h | ⟨i, h1, h2, h3⟩
    · cases e : p n with
      | true => exact Or.inr ⟨n, Nat.lt_succ_self n, e, h⟩
      | false => exact Or.inl (fun i hi => by
          by_cases q : i = n
          · rw [q]; exact e
          · exact h i (by omega))
    · exact Or.inr ⟨i, by omega, h2, h3⟩
theorem ls_none {x : PW} {t : FI} {n : Nat} : ∀ m a, (∀ i, i < m → fitQ x t n i = false) → downF (lsF x t n) m a = a := by
  intro m
  induction m with
  | zero => intro a _; rfl
  | succ m ih =>
    intro a h
    rw [downF_s, ih _ (fun i hi => h i (by omega))]
    unfold lsF
    rw [if_neg (by rw [h m (by omega)]; decide)]
theorem ls_first {x : PW} {t : FI} {n i : Nat} (h1 : fitQ x t n i = true) (h2 : ∀ j, j < i → fitQ x t n j = false) : ∀ m a, i < m → downF (lsF x t n) m a = nI i := by
  intro m
  induction m with
  | zero => intro a h; exact absurd h (Nat.not_lt_zero i)
  | succ m ih =>
    intro a h
    rw [downF_s]
    by_cases e : i = m
    · subst e
      rw [ls_none _ _ h2]
      unfold lsF
      rw [if_pos h1]
    · exact ih _ (by omega)
theorem lrn_none {x : PW} {t : FI} {n : Nat} {g : FI} : ∀ m, (∀ i, i < m → fitQ x t n i = false) → (lrn x t n g m).2 = 0 := by
  intro m
  induction m with
  | zero => intro _; rfl
  | succ m ih =>
    intro h
    rw [lrn_s, if_neg (by rw [h m (by omega)]; decide)]
    exact ih (fun i hi => h i (by omega))
theorem lrn_first {x : PW} {t : FI} {n i : Nat} {g : FI} (h1 : fitQ x t n i = true) (h2 : ∀ j, j < i → fitQ x t n j = false) : ∀ m, i < m → 0 < (lrn x t n g m).2 ∧ (lrn x t n g m).1 0 = nI i := by
  intro m
  induction m with
  | zero => intro h; exact absurd h (Nat.not_lt_zero i)
  | succ m ih =>
    intro h
    rw [lrn_s]
    by_cases e : i = m
    · subst e
      rw [if_pos h1, lrn_none _ h2]
      exact ⟨Nat.zero_lt_one, by show va_up (lrn x t n g i).1 0 (nI i) 0 = nI i; exact if_pos rfl⟩
    · obtain ⟨a, b⟩ := ih (by omega)
      by_cases q : fitQ x t n m = true
      · rw [if_pos q]
        refine ⟨Nat.succ_pos _, ?_⟩
        show va_up (lrn x t n g m).1 (lrn x t n g m).2 (nI m) 0 = nI i
        unfold va_up
        rw [if_neg (by omega)]
        exact b
      · rw [if_neg q]
        exact ⟨a, b⟩
theorem lrn_c (x : PW) (t : FI) (n : Nat) (g : FI) : nI (lrn x t n g 256).2 = cdN x t n := (lrn_c0 x t n g 256).2
theorem lrn_w (x : PW) (t : FI) (n : Nat) (g : FI) {c : Int32} (hc : inT c = true) : HW (lrn x t n g 256).1 (lrn x t n g 256).2 c = cwN x t n c := lrn_w0 x t n g hc 256
theorem lrn_l (x : PW) (t : FI) (n : Nat) (g : FI) : (if (lrn x t n g 256).2 = 0 then -9 else (lrn x t n g 256).1 0) = downF (lsF x t n) 256 (-9) := by
  rcases first_or (fitQ x t n) 256 with h | ⟨i, hi, h1, h2⟩
  · rw [if_pos (lrn_none _ h), ls_none _ _ h]
  · obtain ⟨a, b⟩ := lrn_first (g := g) h1 h2 256 hi
    rw [if_neg (by omega), b, ls_first h1 h2 _ _ hi]
def aInIt (x : PW) (t : FI) (n : Nat) (c v : Int32) : Int64 := loF (cwN x t n c).toInt64 (cdN x t n).toInt64 v
def lpN (x : PW) (t : FI) (n : Nat) (c : Int32) : Int32 := if cdN x t n - cwN x t n c < cwN x t n c then cdN x t n - cwN x t n c else cwN x t n c
def evG (x : PW) (t : FI) (n : Nat) (i : Nat) (u : Int32) : Int32 := if lpN x t n u < lpN x t n (nI (i + 1)) then nI (i + 1) else u
def evS (x : PW) (t : FI) (n : Nat) : Int32 := if cdN x t n = 0 then -9 else foldN (evG x t n) 0 7
def aFeel (x : PW) (t : FI) (n : Nat) (v : Int32) : Int32 := if evS x t n = -9 then -9 else if v = 0 then evS x t n else lpN x t n (evS x t n)
theorem lrn_p (x : PW) (t : FI) (n : Nat) (g : FI) {c : Int32} (hc : inT c = true) : LpV (lrn x t n g 256).1 (lrn x t n g 256).2 c = lpN x t n c := by
  unfold LpV lpN
  rw [lrn_w x t n g hc, lrn_c]
theorem evG_T (x : PW) (t : FI) (n : Nat) : ∀ m, m < 8 → ∃ k, k < 8 ∧ foldN (evG x t n) 0 m = nI k := by
  intro m
  induction m with
  | zero => intro _; exact ⟨0, by decide, rfl⟩
  | succ m ih =>
    intro hm
    obtain ⟨k, hk, e⟩ := ih (by omega)
    rw [foldN_s]
    unfold evG
    split
    · exact ⟨m + 1, hm, rfl⟩
    · exact ⟨k, hk, e⟩
theorem evX_congr {L K : Int32 → Int32} {m : Nat} {u : Int32} (h1 : L u = K u) (h2 : L (nI (m + 1)) = K (nI (m + 1))) : (if L u < L (nI (m + 1)) then nI (m + 1) else u) = (if K u < K (nI (m + 1)) then nI (m + 1) else u) := by rw [h1, h2]
theorem evF_key {x : PW} {t f : FI} {n q : Nat} (hp : ∀ c, inT c = true → LpV f q c = lpN x t n c) : ∀ m, m < 8 → foldN (evF f q) 0 m = foldN (evG x t n) 0 m := by
  intro m
  induction m with
  | zero => intro _; exact Eq.trans (b := (0 : Int32)) rfl rfl
  | succ m ih =>
    intro hm
    obtain ⟨k, hk, e⟩ := evG_T x t n m (by omega)
    rw [foldN_s, foldN_s, ih (by omega), e]
    exact evX_congr (L := LpV f q) (K := lpN x t n) (hp _ (inT_nI hk)) (hp _ (inT_nI hm))
theorem evT_0 {f : FI} {q : Nat} (e : q = 0) : evT f q = -9 := if_pos e
theorem evT_1 {f : FI} {q : Nat} (e : ¬ q = 0) : evT f q = foldN (evF f q) 0 7 := if_neg e
theorem evS_0 {x : PW} {t : FI} {n : Nat} (e : cdN x t n = 0) : evS x t n = -9 := if_pos e
theorem evS_1 {x : PW} {t : FI} {n : Nat} (e : ¬ cdN x t n = 0) : evS x t n = foldN (evG x t n) 0 7 := if_neg e
theorem evT_of {x : PW} {t f : FI} {n q : Nat} (hp : ∀ c, inT c = true → LpV f q c = lpN x t n c) (h : nI q = cdN x t n) (hb : q ≤ 256) : evT f q = evS x t n := by
  by_cases e : q = 0
  · rw [evT_0 e, evS_0 (by rw [← h, e]; exact nI_0)]
  · rw [evT_1 e, evS_1 (by rw [← h]; exact nI_ne0 (by omega) (by omega))]
    exact evF_key hp 7 (by decide)
theorem lrn_e (x : PW) (t : FI) (n : Nat) (g : FI) : evT (lrn x t n g 256).1 (lrn x t n g 256).2 = evS x t n :=
  evT_of (fun _ hc => lrn_p x t n g hc) (lrn_c x t n g) (lrn_c0 x t n g 256).1
theorem evS_T {x : PW} {t : FI} {n : Nat} (h : ¬ evS x t n = -9) : inT (evS x t n) = true := by
  unfold evS at *
  by_cases e : cdN x t n = 0
  · rw [if_pos e] at h; exact absurd rfl h
  · rw [if_neg e]
    obtain ⟨k, hk, e2⟩ := evG_T x t n 7 (by decide)
    rw [e2]
    exact inT_nI hk
/-! refusals and worlds of what changes -/
def wFeed (n : Nat) (v : Int32) : Int32 := if v < 0 then -4 else if 255 < v ∨ n = 96 then -6 else 0
def wLaw (x : PW) (k f th : Int32) : Int32 := if k < 0 ∨ 5 < k then -2 else if f < 0 ∨ th < 0 then -4 else if 9 < f ∨ ¬ inT (th / 10) = true ∨ ¬ inT (th - th / 10 * 10) = true then -6 else if x.2.2.1 < 10 then 0 else -6
def wPers (x : PW) (v : Int32) : Int32 := if v < 0 then -4 else if 255 < v ∨ ¬ x.2.2.2.1 < 6 then -6 else 0
def wTake (x : PW) (p t : Int32) : Int32 := if isP x p = true ∧ inT t = true then (if btI (pk x p) t = true then 0 else -3) else -1
def wBrg (x : PW) (p t : Int32) : Int32 := if isP x p = true ∧ inT t = true then 0 else -1
def wTurn (x : PW) (l k f : Int32) : Int32 := if isL x l = true then (if k < 0 ∨ 5 < k then -2 else if f < 0 then -4 else if 9 < f then -6 else 0) else -1
def wDay (x : PW) : Int32 := if x.2.2.2.2.2 < 999 then 0 else -6
def wCh (x : PW) (p l t v : Int32) : Int32 := if isP x p = true ∧ isL x l = true then (if t < 2 then -4 else if 20 < t then -6 else w01 v) else -1
def wAdds (x : PW) (p t v : Int32) : Int32 := if isP x p = true ∧ inT t = true then (if v < 0 ∨ 1 < v then -2 else if btI (pk x p) t = true then 0 else -3) else -1
def wInIt (x : PW) (t : FI) (n : Nat) (c v : Int32) : Int32 := if inT c = true then (if v < 0 ∨ 1 < v then -2 else wRow x t n) else -1
def wRowF (n : Nat) (v : Int32) : Int32 := if v < 0 then -4 else if 99 < v ∨ n = 16 then -6 else 0
def wRest (g : Int32) : Int32 := if g = 0 then -3 else 0
def aCh (x : PW) (p l t v : Int32) : Int64 := loF (foldN (lcF x (pk x p) l t) 0 256) (powF t.toInt64 (opN (pk x p))) v
def aAdds (x : PW) (p t v : Int32) : Int64 := loF (foldN (aoF x (pk x p &&& (tbI t ^^^ (-1))) (tbI t)) 0 256) (facI (bitC (pk x p))) v
def turnX (x : PW) (l k f : Int32) : PW := setP (setP x l.toNatClampNeg 0 k) l.toNatClampNeg 1 f
def aTurn (x : PW) (l : Int32) : Int32 := 10 * kd x l.toNatClampNeg + fg x l.toNatClampNeg
def miQ (t : FI) (n : Nat) (x : PW) : Prop := formF t n = -1 ∧ (snF t n x).1 = -1
def miV (t : FI) (n : Nat) (x : PW) : Int32 := if formF t n = -1 then (if (snF t n x).1 = -1 then nI (snF t n x).2.2 else -2000 - (snF t n x).1) else -1000 - formF t n
def miX (t : FI) (n : Nat) (x : PW) : PW := if formF t n = -1 then (if (snF t n x).1 = -1 then (snF t n x).2.1 else x) else x
def miK (t : FI) (n : Nat) (x : PW) (k : Nat) : Nat := if formF t n = -1 then (if (snF t n x).1 = -1 then 0 else k) else k
def thF (x : PW) : Int32 := foldN (fun p t => t + bitC (x.2.1 p)) 0 x.2.2.2.1
def aCount (x : PW) (n12 n15 kp : Nat) (r : FI) (v : Int32) : Int32 := if v = 0 then nI x.2.2.1 else if v = 1 then nI x.2.2.2.1 else if v = 2 then x.2.2.2.2.2 else if v = 3 then bitC x.2.2.2.2.1 else if v = 4 then thF x else if v = 5 then DT x 0 else if v = 6 then nI n12 else if v = 7 then nI n15 else if v = 8 then nI kp else if ¬ v < 11 ∧ ¬ 16 < v then r (v - 10).toNatClampNeg else -9
theorem sub_10 {k : Nat} (h : 11 ≤ k) : nI k - 10 = nI (k - 10) := by
  obtain ⟨j, rfl⟩ : ∃ j, k = j + 10 := ⟨k - 10, by omega⟩
  rw [nadd, Nat.add_sub_cancel]
  exact Int32.add_sub_cancel _ _
