/-! loops' small laws -/
theorem up_ge_T {N i : Nat} {m : Int32} (c : m ≤ nI i) (e : nI N = m) (hi : i ≤ N) (hN : N < 2 ^ 31) : i = N := by
  subst e
  have := (nle_iff hN (by omega)).mp c
  omega
theorem up_ge_F {N i : Nat} {m : Int32} (c : ¬ m ≤ nI i) (e : nI N = m) (hi : i ≤ N) (hN : N < 2 ^ 31) : i < N := by
  subst e
  have := mt (nle_iff hN (by omega)).mpr c
  omega
theorem up_gt_T {N i : Nat} {m : Int32} (c : m < nI i) (e : nI (N - 1) = m) (hi : i ≤ N) (hN : N < 2 ^ 31) (h0 : 0 < N) : i = N := by
  subst e
  have := (nlt_iff (by omega) (by omega)).mp c
  omega
theorem up_gt_F {N i : Nat} {m : Int32} (c : ¬ m < nI i) (e : nI (N - 1) = m) (hi : i ≤ N) (hN : N < 2 ^ 31) (h0 : 0 < N) : i < N := by
  subst e
  have := mt (nlt_iff (by omega) (by omega)).mpr c
  omega
theorem dn_s (k : Nat) : nI (k + 1) - 1 = nI k := by rw [nI_succ, Int32.add_sub_cancel]
theorem dn_T {k : Nat} (c : nI k - 1 < 0) (hk : k < 2 ^ 31) : k = 0 := by
  cases k with
  | zero => rfl
  | succ k => rw [dn_s] at c; exact absurd c (nI_pos (by omega))
theorem dn_F {k : Nat} (c : ¬ nI k - 1 < 0) : ∃ j, k = j + 1 := by
  cases k with
  | zero => exact absurd (by decide) c
  | succ k => exact ⟨k, rfl⟩
def foldN {α : Type} (f : Nat → α → α) (a : α) : Nat → α
  | 0 => a
  | n + 1 => f n (foldN f a n)
def downF {α : Type} (f : Nat → α → α) : Nat → α → α
  | 0, a => a
  | k + 1, a => downF f k (f k a)
theorem foldN_s {α : Type} (f : Nat → α → α) (a : α) (n : Nat) : foldN f a (n + 1) = f n (foldN f a n) := rfl
theorem downF_s {α : Type} (f : Nat → α → α) (a : α) (k : Nat) : downF f (k + 1) a = downF f k (f k a) := rfl
theorem foldN_congr {α : Type} (f g : Nat → α → α) (a : α) : ∀ N, (∀ i, i < N → ∀ x, f i x = g i x) → foldN f a N = foldN g a N := by
  intro N
  induction N with
  | zero => intro _; rfl
  | succ n ih =>
    intro h
    rw [foldN_s, foldN_s, ih (fun i hi x => h i (by omega) x), h n (by omega)]
/-- an invariant of a fold -/
theorem foldN_inv {α : Type} (f : Nat → α → α) (a : α) (P : Nat → α → Prop) (h0 : P 0 a) : ∀ N, (∀ i x, i < N → P i x → P (i + 1) (f i x)) → P N (foldN f a N) := by
  intro N
  induction N with
  | zero => intro _; exact h0
  | succ n ih => intro h; exact h n _ (by omega) (ih (fun i x hi hp => h i x (by omega) hp))
theorem ne_toInt {x k : Int32} {z : Int} (h : ¬ x = k) (e : k.toInt = z) : x.toInt ≠ z := fun q => h (Int32.toInt_inj.mp (q.trans e.symm))
section CASES
variable {X : En} {l : Launch} {M : MI} {pc : Nat} {ls : List (Option AV)} {st : List AV} {h : Hp} {Q : Option AV → Hp → Prop}
theorem A_case {x : Int32} (n : Int32) (kt : x = n → Av X l M pc ls (aI x :: st) h Q) (kf : ¬ x = n → Av X l M pc ls (aI x :: st) h Q) : Av X l M pc ls (aI x :: st) h Q := by
  by_cases e : x = n
  · exact kt e
  · exact kf e
/-- a block whose rows are the same as far as they go may stand in its place -/
theorem Av.ext {o : Nat} {b b' : Blk} (ho : h o = some b) (hl : b'.2.2.length = b.2.2.length) (hs : ∀ k H, va_at X.1 vwCl (X.2.2.1 o k, clB X b k) H → va_at X.1 vwCl (X.2.2.1 o k, clB X b' k) H) (k : ∀ h' : Hp, h' o = some b' → (∀ i, i ≠ o → h' i = h i) → Av X l M pc ls st h' Q) : Av X l M pc ls st h Q := by
  intro p e s m args below meth c H locs LS C hh hS hl0
  refine k _ hset_self (fun i hi => hset_ne hi) p e s m args below meth c H locs LS C ⟨?_, hh.2.set ho hl⟩ hS hl0
  intro j q hq
  simp only [wsO, List.getElem?_map, Option.map_eq_some_iff] at hq
  obtain ⟨a, ha, rfl⟩ := hq
  obtain ⟨ao, ak⟩ := a
  have h1 := hh.1 j (X.2.2.1 ao ak, clO X h (ao, ak)) (by simp [wsO, ha])
  by_cases hao : ao = o
  · subst hao
    simp only [clO, ho] at h1
    simp only [clO, hset_self]
    exact hs ak H h1
  · simp only [clO, hset_ne hao]
    exact h1
theorem kI_same {n a : Nat} {f g : Nat → Int32} {H : Heap} (hfg : ∀ j, j < n → f j = g j) (h : va_at X.1 vwCl (a, .inl (X.2.1 0, aaV X (kI n f))) H) : va_at X.1 vwCl (a, .inl (X.2.1 0, aaV X (kI n g))) H := by
  have e : vp_cell (X.2.1 0) (n, .inl f) = vp_cell (X.2.1 0) (n, .inl g) := by
    rw [vp_cell_i, vp_cell_i]
    unfold arrV
    congr 1
    apply congrArg
    funext j
    exact congrArg Value.int (hfg j.1 j.2)
  show H[a]? = some (vp_cell (X.2.1 0) (n, .inl g))
  rw [← e]
  exact h
/-- the course's rows as they were asked for -/
theorem Av.extC {o : Nat} {f g f' g' : FI} {d e : Int32} (ho : h o = some (cB o (f, g, d, e))) (hf : ∀ j, j < 12 → f j = f' j) (hg : ∀ j, j < 12 → g j = g' j) (k : ∀ h' : Hp, h' o = some (cB o (f', g', d, e)) → (∀ i, i ≠ o → h' i = h i) → Av X l M pc ls st h' Q) : Av X l M pc ls st h Q := by
  refine Av.ext (b' := cB o (f', g', d, e)) ho rfl (fun q H hq => ?_) k
  rcases q with _ | _ | _ | q
  · exact hq
  · exact kI_same hf hq
  · exact kI_same hg hq
  · exact hq
theorem Av.extZ {x : PW} {nv : Int32} {c : RC} {f g f' g' : FI} {z : RM × RY × RS} (ho : h 28 = some (rB x nv c ((f, g), z))) (hf : ∀ j, j < 12 → f j = f' j) (hg : ∀ j, j < 12 → g j = g' j) (k : ∀ h' : Hp, h' 28 = some (rB x nv c ((f', g'), z)) → (∀ i, i ≠ 28 → h' i = h i) → Av X l M pc ls st h' Q) : Av X l M pc ls st h Q := by
  refine Av.ext (b' := rB x nv c ((f', g'), z)) ho rfl (fun q H hq => ?_) k
  rcases q with _ | _ | _ | _ | _ | _ | _ | _ | _ | q
  · exact hq
  · exact hq
  · exact hq
  · exact hq
  · exact hq
  · exact hq
  · exact hq
  · exact kI_same hf hq
  · exact kI_same hg hq
  · exact hq
end CASES
theorem sub_nil : subP [] [] := trivial
theorem sub_n {y : Option AV} {t t' : List (Option AV)} (h : subP t t') : subP (none :: t) (y :: t') := h
theorem sub_s {a : AV} {t t' : List (Option AV)} (h : subP t t') : subP (some a :: t) (some a :: t') := ⟨rfl, h⟩
