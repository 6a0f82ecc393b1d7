/-! the faces that are left: what they answer -/
theorem nI_exg {i : Int32} {n : Nat} (h : ¬ i < 0) (h2 : ¬ nI n < i) (hn : n + 1 < 2 ^ 31) : ∃ j, i = nI j ∧ j < n + 1 := by
  refine nI_exi h ?_ hn
  rw [Int32.lt_iff_toInt_lt, nI_toInt hn]
  have := mt Int32.lt_iff_toInt_lt.mpr h2
  rw [nI_toInt (by omega)] at this
  omega
def opN (v : Int32) : Nat := popN v.toNatClampNeg
theorem R10_pop {v : Int32} (h : R10 v) : bitC v = nI (opN v) ∧ opN v ≤ 10 := by
  obtain ⟨m, hm, rfl⟩ := h
  unfold opN
  rw [nI_clamp (by omega)]
  exact bitC_pop m hm
theorem R8_pop {v : Int32} (h : R8 v) : opN v ≤ 8 := by
  obtain ⟨m, hm, rfl⟩ := h
  unfold opN
  rw [nI_clamp (by omega)]
  exact pop_8 m hm
/-! the pockets by which the row is so, in the order of their numbers -/
def lrn (x : PW) (t : FI) (n : Nat) (g : FI) (m : Nat) : FI × Nat := foldN (leF x t n) (g, 0) m
theorem lrn_s (x : PW) (t : FI) (n : Nat) (g : FI) (m : Nat) : lrn x t n g (m + 1) = if fitQ x t n m = true then (va_up (lrn x t n g m).1 (lrn x t n g m).2 (nI m), (lrn x t n g m).2 + 1) else lrn x t n g m := by
  show leF x t n m (lrn x t n g m) = _
  unfold leF fitQ
  by_cases e : FW t n (dLaw x 0 (nI m)) = -9
  · rw [if_pos e, if_pos (decide_eq_true e)]
  · rw [if_neg e, if_neg (by rw [decide_eq_false e]; decide)]
theorem lrn_c0 (x : PW) (t : FI) (n : Nat) (g : FI) : ∀ m, (lrn x t n g m).2 ≤ m ∧ nI (lrn x t n g m).2 = foldN (cdF x t n) 0 m := by
  intro m
  induction m with
  | zero => exact ⟨Nat.le_refl 0, rfl⟩
  | succ m ih =>
    rw [lrn_s, foldN_s]
    unfold cdF
    by_cases e : fitQ x t n m = true
    · rw [if_pos e, if_pos e]
      exact ⟨by show (lrn x t n g m).2 + 1 ≤ m + 1; omega, by show nI ((lrn x t n g m).2 + 1) = _; rw [← n41, ih.2]; rfl⟩
    · rw [if_neg e, if_neg e]
      exact ⟨by omega, ih.2⟩
theorem lrn_w0 (x : PW) (t : FI) (n : Nat) (g : FI) {c : Int32} (hc : inT c = true) : ∀ m, foldN (hwF (lrn x t n g m).1 c) 0 (lrn x t n g m).2 = foldN (cwF x t n c) 0 m := by
  intro m
  induction m with
  | zero => rfl
  | succ m ih =>
    rw [lrn_s, foldN_s]
    unfold cwF
    by_cases e : fitQ x t n m = true
    · rw [if_pos e]
      show foldN (hwF (va_up (lrn x t n g m).1 (lrn x t n g m).2 (nI m)) c) 0 ((lrn x t n g m).2 + 1) = _
      rw [foldN_s, foldN_congr (hwF (va_up (lrn x t n g m).1 (lrn x t n g m).2 (nI m)) c) (hwF (lrn x t n g m).1 c) 0 (lrn x t n g m).2 (fun i hi u => by unfold hwF; rw [show va_up (lrn x t n g m).1 (lrn x t n g m).2 (nI m) i = (lrn x t n g m).1 i from if_neg (by omega)])]
      rw [ih]
      unfold hwF
      rw [show va_up (lrn x t n g m).1 (lrn x t n g m).2 (nI m) (lrn x t n g m).2 = nI m from if_pos rfl, hc, Bool.true_and]
      by_cases e2 : btI (nI m) c = true
      · rw [if_pos e2, if_pos ⟨e, e2⟩]; rfl
      · rw [if_neg e2, if_neg (fun z => e2 z.2)]; rfl
    · rw [if_neg e, if_neg (fun z => e z.1)]
      exact ih
theorem first_or (p : Nat → Bool) : ∀ n, (∀ i, i < n → p i = false) ∨ ∃ i, i < n ∧ p i = true ∧ ∀ j, j < i → p j = false := by
  intro n
  induction n with
  | zero => exact Or.inl (fun i hi => absurd hi (Nat.not_lt_zero i))
  | succ n ih =>
    rcases ih with h | ⟨i, h1, h2, h3⟩
    · cases e : p n with
      | true => exact Or.inr ⟨n, Nat.lt_succ_self n, e, h⟩
      | false => exact Or.inl (fun i hi => by
          by_cases q : i = n
          · rw [q]; exact e
          · exact h i (by omega))
    · exact Or.inr ⟨i, by omega, h2, h3⟩
theorem ls_none {x : PW} {t : FI} {n : Nat} : ∀ m a, (∀ i, i < m → fitQ x t n i = false) → downF (lsF x t n) m a = a := by
  intro m
  induction m with
  | zero => intro a _; rfl
  | succ m ih =>
    intro a h
    rw [downF_s, ih _ (fun i hi => h i (by omega))]
    unfold lsF
    rw [if_neg (by rw [h m (by omega)]; decide)]
theorem ls_first {x : PW} {t : FI} {n i : Nat} (h1 : fitQ x t n i = true) (h2 : ∀ j, j < i → fitQ x t n j = false) : ∀ m a, i < m → downF (lsF x t n) m a = nI i := by
  intro m
  induction m with
  | zero => intro a h; exact absurd h (Nat.not_lt_zero i)
  | succ m ih =>
    intro a h
    rw [downF_s]
    by_cases e : i = m
    · subst e
      rw [ls_none _ _ h2]
      unfold lsF
      rw [if_pos h1]
    · exact ih _ (by omega)
theorem lrn_none {x : PW} {t : FI} {n : Nat} {g : FI} : ∀ m, (∀ i, i < m → fitQ x t n i = false) → (lrn x t n g m).2 = 0 := by
  intro m
  induction m with
  | zero => intro _; rfl
  | succ m ih =>
    intro h
    rw [lrn_s, if_neg (by rw [h m (by omega)]; decide)]
    exact ih (fun i hi => h i (by omega))
theorem lrn_first {x : PW} {t : FI} {n i : Nat} {g : FI} (h1 : fitQ x t n i = true) (h2 : ∀ j, j < i → fitQ x t n j = false) : ∀ m, i < m → 0 < (lrn x t n g m).2 ∧ (lrn x t n g m).1 0 = nI i := by
  intro m
  induction m with
  | zero => intro h; exact absurd h (Nat.not_lt_zero i)
  | succ m ih =>
    intro h
    rw [lrn_s]
    by_cases e : i = m
    · subst e
      rw [if_pos h1, lrn_none _ h2]
      exact ⟨Nat.zero_lt_one, by show va_up (lrn x t n g i).1 0 (nI i) 0 = nI i; exact if_pos rfl⟩
    · obtain ⟨a, b⟩ := ih (by omega)
      by_cases q : fitQ x t n m = true
      · rw [if_pos q]
        refine ⟨Nat.succ_pos _, ?_⟩
        show va_up (lrn x t n g m).1 (lrn x t n g m).2 (nI m) 0 = nI i
        unfold va_up
        rw [if_neg (by omega)]
        exact b
      · rw [if_neg q]
        exact ⟨a, b⟩
theorem lrn_c (x : PW) (t : FI) (n : Nat) (g : FI) : nI (lrn x t n g 256).2 = cdN x t n := (lrn_c0 x t n g 256).2
theorem lrn_w (x : PW) (t : FI) (n : Nat) (g : FI) {c : Int32} (hc : inT c = true) : HW (lrn x t n g 256).1 (lrn x t n g 256).2 c = cwN x t n c := lrn_w0 x t n g hc 256
theorem lrn_l (x : PW) (t : FI) (n : Nat) (g : FI) : (if (lrn x t n g 256).2 = 0 then -9 else (lrn x t n g 256).1 0) = downF (lsF x t n) 256 (-9) := by
  rcases first_or (fitQ x t n) 256 with h | ⟨i, hi, h1, h2⟩
  · rw [if_pos (lrn_none _ h), ls_none _ _ h]
  · obtain ⟨a, b⟩ := lrn_first (g := g) h1 h2 256 hi
    rw [if_neg (by omega), b, ls_first h1 h2 _ _ hi]
def aInIt (x : PW) (t : FI) (n : Nat) (c v : Int32) : Int64 := loF (cwN x t n c).toInt64 (cdN x t n).toInt64 v
def lpN (x : PW) (t : FI) (n : Nat) (c : Int32) : Int32 := if cdN x t n - cwN x t n c < cwN x t n c then cdN x t n - cwN x t n c else cwN x t n c
def evG (x : PW) (t : FI) (n : Nat) (i : Nat) (u : Int32) : Int32 := if lpN x t n u < lpN x t n (nI (i + 1)) then nI (i + 1) else u
def evS (x : PW) (t : FI) (n : Nat) : Int32 := if cdN x t n = 0 then -9 else foldN (evG x t n) 0 7
def aFeel (x : PW) (t : FI) (n : Nat) (v : Int32) : Int32 := if evS x t n = -9 then -9 else if v = 0 then evS x t n else lpN x t n (evS x t n)
theorem lrn_p (x : PW) (t : FI) (n : Nat) (g : FI) {c : Int32} (hc : inT c = true) : LpV (lrn x t n g 256).1 (lrn x t n g 256).2 c = lpN x t n c := by
  unfold LpV lpN
  rw [lrn_w x t n g hc, lrn_c]
theorem evG_T (x : PW) (t : FI) (n : Nat) : ∀ m, m < 8 → ∃ k, k < 8 ∧ foldN (evG x t n) 0 m = nI k := by
  intro m
  induction m with
  | zero => intro _; exact ⟨0, by decide, rfl⟩
  | succ m ih =>
    intro hm
    obtain ⟨k, hk, e⟩ := ih (by omega)
    rw [foldN_s]
    unfold evG
    split
    · exact ⟨m + 1, hm, rfl⟩
    · exact ⟨k, hk, e⟩
theorem evX_congr {L K : Int32 → Int32} {m : Nat} {u : Int32} (h1 : L u = K u) (h2 : L (nI (m + 1)) = K (nI (m + 1))) : (if L u < L (nI (m + 1)) then nI (m + 1) else u) = (if K u < K (nI (m + 1)) then nI (m + 1) else u) := by rw [h1, h2]
theorem evF_key {x : PW} {t f : FI} {n q : Nat} (hp : ∀ c, inT c = true → LpV f q c = lpN x t n c) : ∀ m, m < 8 → foldN (evF f q) 0 m = foldN (evG x t n) 0 m := by
  intro m
  induction m with
  | zero => intro _; exact Eq.trans (b := (0 : Int32)) rfl rfl
  | succ m ih =>
    intro hm
    obtain ⟨k, hk, e⟩ := evG_T x t n m (by omega)
    rw [foldN_s, foldN_s, ih (by omega), e]
    exact evX_congr (L := LpV f q) (K := lpN x t n) (hp _ (inT_nI hk)) (hp _ (inT_nI hm))
theorem evT_0 {f : FI} {q : Nat} (e : q = 0) : evT f q = -9 := if_pos e
theorem evT_1 {f : FI} {q : Nat} (e : ¬ q = 0) : evT f q = foldN (evF f q) 0 7 := if_neg e
theorem evS_0 {x : PW} {t : FI} {n : Nat} (e : cdN x t n = 0) : evS x t n = -9 := if_pos e
theorem evS_1 {x : PW} {t : FI} {n : Nat} (e : ¬ cdN x t n = 0) : evS x t n = foldN (evG x t n) 0 7 := if_neg e
theorem evT_of {x : PW} {t f : FI} {n q : Nat} (hp : ∀ c, inT c = true → LpV f q c = lpN x t n c) (h : nI q = cdN x t n) (hb : q ≤ 256) : evT f q = evS x t n := by
  by_cases e : q = 0
  · rw [evT_0 e, evS_0 (by rw [← h, e]; exact nI_0)]
  · rw [evT_1 e, evS_1 (by rw [← h]; exact nI_ne0 (by omega) (by omega))]
    exact evF_key hp 7 (by decide)
theorem lrn_e (x : PW) (t : FI) (n : Nat) (g : FI) : evT (lrn x t n g 256).1 (lrn x t n g 256).2 = evS x t n :=
  evT_of (fun _ hc => lrn_p x t n g hc) (lrn_c x t n g) (lrn_c0 x t n g 256).1
theorem evS_T {x : PW} {t : FI} {n : Nat} (h : ¬ evS x t n = -9) : inT (evS x t n) = true := by
  unfold evS at *
  by_cases e : cdN x t n = 0
  · rw [if_pos e] at h; exact absurd rfl h
  · rw [if_neg e]
    obtain ⟨k, hk, e2⟩ := evG_T x t n 7 (by decide)
    rw [e2]
    exact inT_nI hk
/-! refusals and worlds of what changes -/
def wFeed (n : Nat) (v : Int32) : Int32 := if v < 0 then -4 else if 255 < v ∨ n = 96 then -6 else 0
def wLaw (x : PW) (k f th : Int32) : Int32 := if k < 0 ∨ 5 < k then -2 else if f < 0 ∨ th < 0 then -4 else if 9 < f ∨ ¬ inT (th / 10) = true ∨ ¬ inT (th - th / 10 * 10) = true then -6 else if x.2.2.1 < 10 then 0 else -6
def wPers (x : PW) (v : Int32) : Int32 := if v < 0 then -4 else if 255 < v ∨ ¬ x.2.2.2.1 < 6 then -6 else 0
def wTake (x : PW) (p t : Int32) : Int32 := if isP x p = true ∧ inT t = true then (if btI (pk x p) t = true then 0 else -3) else -1
def wBrg (x : PW) (p t : Int32) : Int32 := if isP x p = true ∧ inT t = true then 0 else -1
def wTurn (x : PW) (l k f : Int32) : Int32 := if isL x l = true then (if k < 0 ∨ 5 < k then -2 else if f < 0 then -4 else if 9 < f then -6 else 0) else -1
def wDay (x : PW) : Int32 := if x.2.2.2.2.2 < 999 then 0 else -6
def wCh (x : PW) (p l t v : Int32) : Int32 := if isP x p = true ∧ isL x l = true then (if t < 2 then -4 else if 20 < t then -6 else w01 v) else -1
def wAdds (x : PW) (p t v : Int32) : Int32 := if isP x p = true ∧ inT t = true then (if v < 0 ∨ 1 < v then -2 else if btI (pk x p) t = true then 0 else -3) else -1
def wInIt (x : PW) (t : FI) (n : Nat) (c v : Int32) : Int32 := if inT c = true then (if v < 0 ∨ 1 < v then -2 else wRow x t n) else -1
def wRowF (n : Nat) (v : Int32) : Int32 := if v < 0 then -4 else if 99 < v ∨ n = 16 then -6 else 0
def wRest (g : Int32) : Int32 := if g = 0 then -3 else 0
def aCh (x : PW) (p l t v : Int32) : Int64 := loF (foldN (lcF x (pk x p) l t) 0 256) (powF t.toInt64 (opN (pk x p))) v
def aAdds (x : PW) (p t v : Int32) : Int64 := loF (foldN (aoF x (pk x p &&& (tbI t ^^^ (-1))) (tbI t)) 0 256) (facI (bitC (pk x p))) v
def turnX (x : PW) (l k f : Int32) : PW := setP (setP x l.toNatClampNeg 0 k) l.toNatClampNeg 1 f
def aTurn (x : PW) (l : Int32) : Int32 := 10 * kd x l.toNatClampNeg + fg x l.toNatClampNeg
def miQ (t : FI) (n : Nat) (x : PW) : Prop := formF t n = -1 ∧ (snF t n x).1 = -1
def miV (t : FI) (n : Nat) (x : PW) : Int32 := if formF t n = -1 then (if (snF t n x).1 = -1 then nI (snF t n x).2.2 else -2000 - (snF t n x).1) else -1000 - formF t n
def miX (t : FI) (n : Nat) (x : PW) : PW := if formF t n = -1 then (if (snF t n x).1 = -1 then (snF t n x).2.1 else x) else x
def miK (t : FI) (n : Nat) (x : PW) (k : Nat) : Nat := if formF t n = -1 then (if (snF t n x).1 = -1 then 0 else k) else k
def thF (x : PW) : Int32 := foldN (fun p t => t + bitC (x.2.1 p)) 0 x.2.2.2.1
def aCount (x : PW) (n12 n15 kp : Nat) (r : FI) (v : Int32) : Int32 := if v = 0 then nI x.2.2.1 else if v = 1 then nI x.2.2.2.1 else if v = 2 then x.2.2.2.2.2 else if v = 3 then bitC x.2.2.2.2.1 else if v = 4 then thF x else if v = 5 then DT x 0 else if v = 6 then nI n12 else if v = 7 then nI n15 else if v = 8 then nI kp else if ¬ v < 11 ∧ ¬ 16 < v then r (v - 10).toNatClampNeg else -9
theorem sub_10 {k : Nat} (h : 11 ≤ k) : nI k - 10 = nI (k - 10) := by
  obtain ⟨j, rfl⟩ : ∃ j, k = j + 10 := ⟨k - 10, by omega⟩
  rw [nadd, Nat.add_sub_cancel]
  exact Int32.add_sub_cancel _ _
set_option maxHeartbeats 4000000 in
set_option maxRecDepth 100000 in
theorem S_X9_feed (X : En) (l : Launch) {h : Hp} {x : PW} {g : Int32} {r : FI} (O0 : h 0 = some (maB g r)) (O1 : h 1 = some (wB 1 x)) (hW : WOK x) {t : FI} {n k12 : Nat} (O12 : h 12 = some (leB t n k12)) (hn : n ≤ 96) {v : Int32} : Ct X l mX9_feed [aR 0 0, aI v] h (QI (PI2 (rV (wFeed n v) (nI (n + 1))) h (0) (maB g (rS (wFeed n v) r)) (12) (leB (ifW (wFeed n v) (va_up t n v) t) (ifW (wFeed n v) (n + 1) n) k12))) := by
  have hx := hW.1
  have hp := hW.2.1
  have h10 := hx.1
  have hf : ∀ i, i ≠ 0 → i ≠ 12 → h i = h i := fun _ _ _ => rfl
  refine Ct.intro [some (aR 0 0), some (aI v)] (by decide +kernel) rfl (Nat.le_of_ble_eq_true rfl) ?_
  refine A_iload_n 1 dX9_feed_0 rfl rfl rfl ?_
  refine A_if_ge 11 4 dX9_feed_1 (by decide) rfl (fun c1 => ?_) (fun c1 => ?_)
  · skip
    try simp only [bI_0, bI_n0, Classical.not_not, Bool.not_eq_false, Bool.true_and, Bool.and_true, decide_eq_true_eq, decide_eq_false_iff_not, dayC_1, dayC_21, dayC_221, dayC_222] at c1
    have n1 := c1
    replace c1 := Int32.not_lt.mpr c1
    refine A_iload_n 12 dX9_feed_11 rfl rfl rfl ?_
    refine A_sipush 15 (255) dX9_feed_12 rfl (by decide) ?_
    refine A_icmp_gt 28 18 dX9_feed_15 (by decide) rfl (fun c15 => ?_) (fun c15 => ?_)
    · skip
      try simp only [bI_0, bI_n0, Classical.not_not, Bool.not_eq_false, Bool.true_and, Bool.and_true, decide_eq_true_eq, decide_eq_false_iff_not, dayC_1, dayC_21, dayC_221, dayC_222] at c15
      have n15 := Int32.not_le.mpr c15
      refine A_aload_n 29 dX9_feed_28 rfl rfl rfl ?_
      refine A_bipush 31 (-6) dX9_feed_29 rfl (by decide) ?_
      refine A_callVI 34 (S_X9_refuse X l (by first | assumption | decide | omega | exact Ne.symm (by assumption)) (by first | assumption | (unfold CD; decide))) dX9_feed_31 rfl kX9_refuse lk_X9_79 rfl O0 (by decide) rfl (Nat.le_of_ble_eq_true rfl) (fun v_1 h_1 qh_1 => ?_)
      obtain ⟨rfl, n0h_1, eh_1⟩ := qh_1
      replace O0 := n0h_1
      replace O1 := (eh_1 _ (by decide)).trans O1
      replace O12 := (eh_1 _ (by decide)).trans O12
      replace hf : ∀ i, i ≠ 0 → i ≠ 12 → h_1 i = h i := fun i g0 g1 => (eh_1 i g0).trans (hf i g0 g1)
      have ew : wFeed n v = -6 := by
        first | (simp only [c1, n1, c15, n15, if_true, if_false, ite_true, ite_false, and_true, true_and, and_false, false_and, and_self, or_true, true_or, or_false, false_or, or_self, not_true_eq_false, not_false_eq_true, decide_true, decide_false, Bool.and_true, Bool.true_and, Bool.and_false, Bool.false_and, Bool.and_self, Bool.or_true, Bool.true_or, Bool.or_false, Bool.false_or, Bool.not_true, Bool.not_false, cond_true, cond_false, bI_t, bI_f, Bool.false_eq_true, Bool.true_eq_false, dayC_1, dayC_21, dayC_221, dayC_222, wFeed, w01, wP, wPL, wP01, wL01, wRow, w01R, wAB, wNum, isP, isL]; done)
      refine A_iret dX9_feed_34 rfl ⟨_, rfl, (by rw [ew]; exact rV_n (by decide)), (by rw [ew]; first | (rw [rS_0]; exact O0) | exact O0), (by rw [ew]; simp only [ifW_0, ifW_1, ifW_2, ifW_3, ifW_4, ifW_6]; exact O12), hf⟩
    · skip
      try simp only [bI_0, bI_n0, Classical.not_not, Bool.not_eq_false, Bool.true_and, Bool.and_true, decide_eq_true_eq, decide_eq_false_iff_not, dayC_1, dayC_21, dayC_221, dayC_222] at c15
      have n15 := Int32.not_lt.mp c15
      refine A_aload_n 19 dX9_feed_18 rfl rfl rfl ?_
      refine A_getfield 22 dX9_feed_19 rfl f_X9_29 O0 rfl ?_
      refine A_callVI 25 (S_X4_isFull X l (by first | assumption | decide | omega | exact Ne.symm (by assumption)) (by first | assumption | decide | omega | exact Ne.symm (by assumption))) dX9_feed_22 rfl kX4_isFull lk_X9_83 rfl O12 (by decide) rfl (Nat.le_of_ble_eq_true rfl) (fun v_2 h_2 qh_2 => ?_)
      obtain ⟨rfl, rfl⟩ := qh_2
      refine A_if_eq 35 28 dX9_feed_25 (by decide) rfl (fun c25 => ?_) (fun c25 => ?_)
      · skip
        try simp only [bI_0, bI_n0, Classical.not_not, Bool.not_eq_false, Bool.true_and, Bool.and_true, decide_eq_true_eq, decide_eq_false_iff_not, dayC_1, dayC_21, dayC_221, dayC_222] at c25
        refine A_aload_n 36 dX9_feed_35 rfl rfl rfl ?_
        refine A_getfield 39 dX9_feed_36 rfl f_X9_29 O0 rfl ?_
        refine A_iload_n 40 dX9_feed_39 rfl rfl rfl ?_
        refine A_callVI 43 (S_X4_put X l (by first | assumption | decide | omega | exact Ne.symm (by assumption)) (by first | assumption | decide | omega | exact Ne.symm (by assumption))) dX9_feed_40 rfl kX4_put lk_X9_87 rfl O12 (by decide) rfl (Nat.le_of_ble_eq_true rfl) (fun v_3 h_3 qh_3 => ?_)
        obtain ⟨rfl, n0h_3, eh_3⟩ := qh_3
        replace O0 := (eh_3 _ (by decide)).trans O0
        replace O1 := (eh_3 _ (by decide)).trans O1
        replace O12 := n0h_3
        replace hf : ∀ i, i ≠ 0 → i ≠ 12 → h_3 i = h i := fun i g0 g1 => (eh_3 i g1).trans (hf i g0 g1)
        have ew : wFeed n v = 0 := by
          first | (simp only [c1, n1, c15, n15, c25, if_true, if_false, ite_true, ite_false, and_true, true_and, and_false, false_and, and_self, or_true, true_or, or_false, false_or, or_self, not_true_eq_false, not_false_eq_true, decide_true, decide_false, Bool.and_true, Bool.true_and, Bool.and_false, Bool.false_and, Bool.and_self, Bool.or_true, Bool.true_or, Bool.or_false, Bool.false_or, Bool.not_true, Bool.not_false, cond_true, cond_false, bI_t, bI_f, Bool.false_eq_true, Bool.true_eq_false, dayC_1, dayC_21, dayC_221, dayC_222, wFeed, w01, wP, wPL, wP01, wL01, wRow, w01R, wAB, wNum, isP, isL]; done)
        refine A_iret dX9_feed_43 rfl ⟨_, rfl, (by rw [ew, rV_0]; skip), (by rw [ew]; first | (rw [rS_0]; exact O0) | exact O0), (by rw [ew]; simp only [ifW_0, ifW_1, ifW_2, ifW_3, ifW_4, ifW_6]; exact O12), hf⟩
      · skip
        try simp only [bI_0, bI_n0, Classical.not_not, Bool.not_eq_false, Bool.true_and, Bool.and_true, decide_eq_true_eq, decide_eq_false_iff_not, dayC_1, dayC_21, dayC_221, dayC_222] at c25
        refine A_aload_n 29 dX9_feed_28 rfl rfl rfl ?_
        refine A_bipush 31 (-6) dX9_feed_29 rfl (by decide) ?_
        refine A_callVI 34 (S_X9_refuse X l (by first | assumption | decide | omega | exact Ne.symm (by assumption)) (by first | assumption | (unfold CD; decide))) dX9_feed_31 rfl kX9_refuse lk_X9_79 rfl O0 (by decide) rfl (Nat.le_of_ble_eq_true rfl) (fun v_4 h_4 qh_4 => ?_)
        obtain ⟨rfl, n0h_4, eh_4⟩ := qh_4
        replace O0 := n0h_4
        replace O1 := (eh_4 _ (by decide)).trans O1
        replace O12 := (eh_4 _ (by decide)).trans O12
        replace hf : ∀ i, i ≠ 0 → i ≠ 12 → h_4 i = h i := fun i g0 g1 => (eh_4 i g0).trans (hf i g0 g1)
        have ew : wFeed n v = -6 := by
          first | (simp only [c1, n1, c15, n15, c25, if_true, if_false, ite_true, ite_false, and_true, true_and, and_false, false_and, and_self, or_true, true_or, or_false, false_or, or_self, not_true_eq_false, not_false_eq_true, decide_true, decide_false, Bool.and_true, Bool.true_and, Bool.and_false, Bool.false_and, Bool.and_self, Bool.or_true, Bool.true_or, Bool.or_false, Bool.false_or, Bool.not_true, Bool.not_false, cond_true, cond_false, bI_t, bI_f, Bool.false_eq_true, Bool.true_eq_false, dayC_1, dayC_21, dayC_221, dayC_222, wFeed, w01, wP, wPL, wP01, wL01, wRow, w01R, wAB, wNum, isP, isL]; done)
        refine A_iret dX9_feed_34 rfl ⟨_, rfl, (by rw [ew]; exact rV_n (by decide)), (by rw [ew]; first | (rw [rS_0]; exact O0) | exact O0), (by rw [ew]; simp only [ifW_0, ifW_1, ifW_2, ifW_3, ifW_4, ifW_6]; exact O12), hf⟩
  · skip
    try simp only [bI_0, bI_n0, Classical.not_not, Bool.not_eq_false, Bool.true_and, Bool.and_true, decide_eq_true_eq, decide_eq_false_iff_not, dayC_1, dayC_21, dayC_221, dayC_222] at c1
    have n1 := c1
    replace c1 := Int32.not_le.mp c1
    refine A_aload_n 5 dX9_feed_4 rfl rfl rfl ?_
    refine A_bipush 7 (-4) dX9_feed_5 rfl (by decide) ?_
    refine A_callVI 10 (S_X9_refuse X l (by first | assumption | decide | omega | exact Ne.symm (by assumption)) (by first | assumption | (unfold CD; decide))) dX9_feed_7 rfl kX9_refuse lk_X9_79 rfl O0 (by decide) rfl (Nat.le_of_ble_eq_true rfl) (fun v_5 h_5 qh_5 => ?_)
    obtain ⟨rfl, n0h_5, eh_5⟩ := qh_5
    replace O0 := n0h_5
    replace O1 := (eh_5 _ (by decide)).trans O1
    replace O12 := (eh_5 _ (by decide)).trans O12
    replace hf : ∀ i, i ≠ 0 → i ≠ 12 → h_5 i = h i := fun i g0 g1 => (eh_5 i g0).trans (hf i g0 g1)
    have ew : wFeed n v = -4 := by
      first | (simp only [c1, n1, if_true, if_false, ite_true, ite_false, and_true, true_and, and_false, false_and, and_self, or_true, true_or, or_false, false_or, or_self, not_true_eq_false, not_false_eq_true, decide_true, decide_false, Bool.and_true, Bool.true_and, Bool.and_false, Bool.false_and, Bool.and_self, Bool.or_true, Bool.true_or, Bool.or_false, Bool.false_or, Bool.not_true, Bool.not_false, cond_true, cond_false, bI_t, bI_f, Bool.false_eq_true, Bool.true_eq_false, dayC_1, dayC_21, dayC_221, dayC_222, wFeed, w01, wP, wPL, wP01, wL01, wRow, w01R, wAB, wNum, isP, isL]; done)
    refine A_iret dX9_feed_10 rfl ⟨_, rfl, (by rw [ew]; exact rV_n (by decide)), (by rw [ew]; first | (rw [rS_0]; exact O0) | exact O0), (by rw [ew]; simp only [ifW_0, ifW_1, ifW_2, ifW_3, ifW_4, ifW_6]; exact O12), hf⟩
set_option maxHeartbeats 4000000 in
set_option maxRecDepth 100000 in
theorem S_X9_row (X : En) (l : Launch) {h : Hp} {x : PW} {g : Int32} {r : FI} (O0 : h 0 = some (maB g r)) (O1 : h 1 = some (wB 1 x)) (hW : WOK x) {t : FI} {n : Nat} (O15 : h 15 = some (toB t n)) (hn : n ≤ 16) {v : Int32} : Ct X l mX9_row [aR 0 0, aI v] h (QI (PI2 (rV (wRowF n v) (nI (n + 1))) h (0) (maB g (rS (wRowF n v) r)) (15) (toB (ifW (wRowF n v) (va_up t n v) t) (ifW (wRowF n v) (n + 1) n)))) := by
  have hx := hW.1
  have hp := hW.2.1
  have h10 := hx.1
  have hf : ∀ i, i ≠ 0 → i ≠ 15 → h i = h i := fun _ _ _ => rfl
  refine Ct.intro [some (aR 0 0), some (aI v)] (by decide +kernel) rfl (Nat.le_of_ble_eq_true rfl) ?_
  refine A_iload_n 1 dX9_row_0 rfl rfl rfl ?_
  refine A_if_ge 11 4 dX9_row_1 (by decide) rfl (fun c1 => ?_) (fun c1 => ?_)
  · skip
    try simp only [bI_0, bI_n0, Classical.not_not, Bool.not_eq_false, Bool.true_and, Bool.and_true, decide_eq_true_eq, decide_eq_false_iff_not, dayC_1, dayC_21, dayC_221, dayC_222] at c1
    have n1 := c1
    replace c1 := Int32.not_lt.mpr c1
    refine A_iload_n 12 dX9_row_11 rfl rfl rfl ?_
    refine A_bipush 14 (99) dX9_row_12 rfl (by decide) ?_
    refine A_icmp_gt 27 17 dX9_row_14 (by decide) rfl (fun c14 => ?_) (fun c14 => ?_)
    · skip
      try simp only [bI_0, bI_n0, Classical.not_not, Bool.not_eq_false, Bool.true_and, Bool.and_true, decide_eq_true_eq, decide_eq_false_iff_not, dayC_1, dayC_21, dayC_221, dayC_222] at c14
      have n14 := Int32.not_le.mpr c14
      refine A_aload_n 28 dX9_row_27 rfl rfl rfl ?_
      refine A_bipush 30 (-6) dX9_row_28 rfl (by decide) ?_
      refine A_callVI 33 (S_X9_refuse X l (by first | assumption | decide | omega | exact Ne.symm (by assumption)) (by first | assumption | (unfold CD; decide))) dX9_row_30 rfl kX9_refuse lk_X9_79 rfl O0 (by decide) rfl (Nat.le_of_ble_eq_true rfl) (fun v_1 h_1 qh_1 => ?_)
      obtain ⟨rfl, n0h_1, eh_1⟩ := qh_1
      replace O0 := n0h_1
      replace O1 := (eh_1 _ (by decide)).trans O1
      replace O15 := (eh_1 _ (by decide)).trans O15
      replace hf : ∀ i, i ≠ 0 → i ≠ 15 → h_1 i = h i := fun i g0 g1 => (eh_1 i g0).trans (hf i g0 g1)
      have ew : wRowF n v = -6 := by
        first | (simp only [c1, n1, c14, n14, if_true, if_false, ite_true, ite_false, and_true, true_and, and_false, false_and, and_self, or_true, true_or, or_false, false_or, or_self, not_true_eq_false, not_false_eq_true, decide_true, decide_false, Bool.and_true, Bool.true_and, Bool.and_false, Bool.false_and, Bool.and_self, Bool.or_true, Bool.true_or, Bool.or_false, Bool.false_or, Bool.not_true, Bool.not_false, cond_true, cond_false, bI_t, bI_f, Bool.false_eq_true, Bool.true_eq_false, dayC_1, dayC_21, dayC_221, dayC_222, wRowF, w01, wP, wPL, wP01, wL01, wRow, w01R, wAB, wNum, isP, isL]; done)
      refine A_iret dX9_row_33 rfl ⟨_, rfl, (by rw [ew]; exact rV_n (by decide)), (by rw [ew]; first | (rw [rS_0]; exact O0) | exact O0), (by rw [ew]; simp only [ifW_0, ifW_1, ifW_2, ifW_3, ifW_4, ifW_6]; exact O15), hf⟩
    · skip
      try simp only [bI_0, bI_n0, Classical.not_not, Bool.not_eq_false, Bool.true_and, Bool.and_true, decide_eq_true_eq, decide_eq_false_iff_not, dayC_1, dayC_21, dayC_221, dayC_222] at c14
      have n14 := Int32.not_lt.mp c14
      refine A_aload_n 18 dX9_row_17 rfl rfl rfl ?_
      refine A_getfield 21 dX9_row_18 rfl f_X9_36 O0 rfl ?_
      refine A_callVI 24 (S_X7_isFull X l (by first | assumption | decide | omega | exact Ne.symm (by assumption)) (by first | assumption | decide | omega | exact Ne.symm (by assumption))) dX9_row_21 rfl kX7_isFull lk_X9_335 rfl O15 (by decide) rfl (Nat.le_of_ble_eq_true rfl) (fun v_2 h_2 qh_2 => ?_)
      obtain ⟨rfl, rfl⟩ := qh_2
      refine A_if_eq 34 27 dX9_row_24 (by decide) rfl (fun c24 => ?_) (fun c24 => ?_)
      · skip
        try simp only [bI_0, bI_n0, Classical.not_not, Bool.not_eq_false, Bool.true_and, Bool.and_true, decide_eq_true_eq, decide_eq_false_iff_not, dayC_1, dayC_21, dayC_221, dayC_222] at c24
        refine A_aload_n 35 dX9_row_34 rfl rfl rfl ?_
        refine A_getfield 38 dX9_row_35 rfl f_X9_36 O0 rfl ?_
        refine A_iload_n 39 dX9_row_38 rfl rfl rfl ?_
        refine A_callVI 42 (S_X7_put X l (by first | assumption | decide | omega | exact Ne.symm (by assumption)) (by first | assumption | decide | omega | exact Ne.symm (by assumption))) dX9_row_39 rfl kX7_put lk_X9_336 rfl O15 (by decide) rfl (Nat.le_of_ble_eq_true rfl) (fun v_3 h_3 qh_3 => ?_)
        obtain ⟨rfl, n0h_3, eh_3⟩ := qh_3
        replace O0 := (eh_3 _ (by decide)).trans O0
        replace O1 := (eh_3 _ (by decide)).trans O1
        replace O15 := n0h_3
        replace hf : ∀ i, i ≠ 0 → i ≠ 15 → h_3 i = h i := fun i g0 g1 => (eh_3 i g1).trans (hf i g0 g1)
        have ew : wRowF n v = 0 := by
          first | (simp only [c1, n1, c14, n14, c24, if_true, if_false, ite_true, ite_false, and_true, true_and, and_false, false_and, and_self, or_true, true_or, or_false, false_or, or_self, not_true_eq_false, not_false_eq_true, decide_true, decide_false, Bool.and_true, Bool.true_and, Bool.and_false, Bool.false_and, Bool.and_self, Bool.or_true, Bool.true_or, Bool.or_false, Bool.false_or, Bool.not_true, Bool.not_false, cond_true, cond_false, bI_t, bI_f, Bool.false_eq_true, Bool.true_eq_false, dayC_1, dayC_21, dayC_221, dayC_222, wRowF, w01, wP, wPL, wP01, wL01, wRow, w01R, wAB, wNum, isP, isL]; done)
        refine A_iret dX9_row_42 rfl ⟨_, rfl, (by rw [ew, rV_0]; skip), (by rw [ew]; first | (rw [rS_0]; exact O0) | exact O0), (by rw [ew]; simp only [ifW_0, ifW_1, ifW_2, ifW_3, ifW_4, ifW_6]; exact O15), hf⟩
      · skip
        try simp only [bI_0, bI_n0, Classical.not_not, Bool.not_eq_false, Bool.true_and, Bool.and_true, decide_eq_true_eq, decide_eq_false_iff_not, dayC_1, dayC_21, dayC_221, dayC_222] at c24
        refine A_aload_n 28 dX9_row_27 rfl rfl rfl ?_
        refine A_bipush 30 (-6) dX9_row_28 rfl (by decide) ?_
        refine A_callVI 33 (S_X9_refuse X l (by first | assumption | decide | omega | exact Ne.symm (by assumption)) (by first | assumption | (unfold CD; decide))) dX9_row_30 rfl kX9_refuse lk_X9_79 rfl O0 (by decide) rfl (Nat.le_of_ble_eq_true rfl) (fun v_4 h_4 qh_4 => ?_)
        obtain ⟨rfl, n0h_4, eh_4⟩ := qh_4
        replace O0 := n0h_4
        replace O1 := (eh_4 _ (by decide)).trans O1
        replace O15 := (eh_4 _ (by decide)).trans O15
        replace hf : ∀ i, i ≠ 0 → i ≠ 15 → h_4 i = h i := fun i g0 g1 => (eh_4 i g0).trans (hf i g0 g1)
        have ew : wRowF n v = -6 := by
          first | (simp only [c1, n1, c14, n14, c24, if_true, if_false, ite_true, ite_false, and_true, true_and, and_false, false_and, and_self, or_true, true_or, or_false, false_or, or_self, not_true_eq_false, not_false_eq_true, decide_true, decide_false, Bool.and_true, Bool.true_and, Bool.and_false, Bool.false_and, Bool.and_self, Bool.or_true, Bool.true_or, Bool.or_false, Bool.false_or, Bool.not_true, Bool.not_false, cond_true, cond_false, bI_t, bI_f, Bool.false_eq_true, Bool.true_eq_false, dayC_1, dayC_21, dayC_221, dayC_222, wRowF, w01, wP, wPL, wP01, wL01, wRow, w01R, wAB, wNum, isP, isL]; done)
        refine A_iret dX9_row_33 rfl ⟨_, rfl, (by rw [ew]; exact rV_n (by decide)), (by rw [ew]; first | (rw [rS_0]; exact O0) | exact O0), (by rw [ew]; simp only [ifW_0, ifW_1, ifW_2, ifW_3, ifW_4, ifW_6]; exact O15), hf⟩
  · skip
    try simp only [bI_0, bI_n0, Classical.not_not, Bool.not_eq_false, Bool.true_and, Bool.and_true, decide_eq_true_eq, decide_eq_false_iff_not, dayC_1, dayC_21, dayC_221, dayC_222] at c1
    have n1 := c1
    replace c1 := Int32.not_le.mp c1
    refine A_aload_n 5 dX9_row_4 rfl rfl rfl ?_
    refine A_bipush 7 (-4) dX9_row_5 rfl (by decide) ?_
    refine A_callVI 10 (S_X9_refuse X l (by first | assumption | decide | omega | exact Ne.symm (by assumption)) (by first | assumption | (unfold CD; decide))) dX9_row_7 rfl kX9_refuse lk_X9_79 rfl O0 (by decide) rfl (Nat.le_of_ble_eq_true rfl) (fun v_5 h_5 qh_5 => ?_)
    obtain ⟨rfl, n0h_5, eh_5⟩ := qh_5
    replace O0 := n0h_5
    replace O1 := (eh_5 _ (by decide)).trans O1
    replace O15 := (eh_5 _ (by decide)).trans O15
    replace hf : ∀ i, i ≠ 0 → i ≠ 15 → h_5 i = h i := fun i g0 g1 => (eh_5 i g0).trans (hf i g0 g1)
    have ew : wRowF n v = -4 := by
      first | (simp only [c1, n1, if_true, if_false, ite_true, ite_false, and_true, true_and, and_false, false_and, and_self, or_true, true_or, or_false, false_or, or_self, not_true_eq_false, not_false_eq_true, decide_true, decide_false, Bool.and_true, Bool.true_and, Bool.and_false, Bool.false_and, Bool.and_self, Bool.or_true, Bool.true_or, Bool.or_false, Bool.false_or, Bool.not_true, Bool.not_false, cond_true, cond_false, bI_t, bI_f, Bool.false_eq_true, Bool.true_eq_false, dayC_1, dayC_21, dayC_221, dayC_222, wRowF, w01, wP, wPL, wP01, wL01, wRow, w01R, wAB, wNum, isP, isL]; done)
    refine A_iret dX9_row_10 rfl ⟨_, rfl, (by rw [ew]; exact rV_n (by decide)), (by rw [ew]; first | (rw [rS_0]; exact O0) | exact O0), (by rw [ew]; simp only [ifW_0, ifW_1, ifW_2, ifW_3, ifW_4, ifW_6]; exact O15), hf⟩
set_option maxHeartbeats 4000000 in
set_option maxRecDepth 100000 in
theorem S_X9_lawOf (X : En) (l : Launch) {h : Hp} {x : PW} {g : Int32} {r : FI} (O0 : h 0 = some (maB g r)) (O1 : h 1 = some (wB 1 x)) (hW : WOK x)  {l0 v : Int32} : Ct X l mX9_lawOf [aR 0 0, aI l0, aI v] h (QI (PI1 (rV (wLawOf x l0 v) (aLawOf x l0 v)) h (0) (maB g (rS (wLawOf x l0 v) r)))) := by
  have hx := hW.1
  have hp := hW.2.1
  have h10 := hx.1
  have hf : ∀ i, i ≠ 0 → h i = h i := fun _ _ => rfl
  refine Ct.intro [some (aR 0 0), some (aI l0), some (aI v)] (by decide +kernel) rfl (Nat.le_of_ble_eq_true rfl) ?_
  refine A_aload_n 1 dX9_lawOf_0 rfl rfl rfl ?_
  refine A_getfield 4 dX9_lawOf_1 rfl f_X9_10 O0 rfl ?_
  refine A_iload_n 5 dX9_lawOf_4 rfl rfl rfl ?_
  refine A_callVI 8 (S_X8_isLaw X l (by first | assumption | decide | omega | exact Ne.symm (by assumption))) dX9_lawOf_5 rfl kX8_isLaw lk_X9_111 rfl O1 (by decide) rfl (Nat.le_of_ble_eq_true rfl) (fun v_1 h_1 qh_1 => ?_)
  obtain ⟨rfl, rfl⟩ := qh_1
  refine A_if_ne 17 11 dX9_lawOf_8 (by decide) rfl (fun c8 => ?_) (fun c8 => ?_)
  · skip
    try simp only [bI_0, bI_n0, Classical.not_not, Bool.not_eq_false, Bool.true_and, Bool.and_true, decide_eq_true_eq, decide_eq_false_iff_not, dayC_1, dayC_21, dayC_221, dayC_222] at c8
    obtain ⟨k_l0, rfl, hk_l0⟩ := inN_ex c8 (by omega)
    have cl_l0 : (nI k_l0).toNatClampNeg = k_l0 := nI_clamp (by omega)
    refine A_iload_n 18 dX9_lawOf_17 rfl rfl rfl ?_
    refine A_if_lt 26 21 dX9_lawOf_18 (by decide) rfl (fun c18 => ?_) (fun c18 => ?_)
    · skip
      try simp only [bI_0, bI_n0, Classical.not_not, Bool.not_eq_false, Bool.true_and, Bool.and_true, decide_eq_true_eq, decide_eq_false_iff_not, dayC_1, dayC_21, dayC_221, dayC_222] at c18
      have n18 := Int32.not_le.mpr c18
      refine A_aload_n 27 dX9_lawOf_26 rfl rfl rfl ?_
      refine A_bipush 29 (-2) dX9_lawOf_27 rfl (by decide) ?_
      refine A_callVI 32 (S_X9_refuse X l (by first | assumption | decide | omega | exact Ne.symm (by assumption)) (by first | assumption | (unfold CD; decide))) dX9_lawOf_29 rfl kX9_refuse lk_X9_79 rfl O0 (by decide) rfl (Nat.le_of_ble_eq_true rfl) (fun v_2 h_2 qh_2 => ?_)
      obtain ⟨rfl, n0h_2, eh_2⟩ := qh_2
      replace O0 := n0h_2
      replace O1 := (eh_2 _ (by decide)).trans O1
      replace hf : ∀ i, i ≠ 0 → h_2 i = h i := fun i g0 => (eh_2 i g0).trans (hf i g0)
      have ew : wLawOf x (nI k_l0) v = -2 := by
        first | (simp only [c8, cl_l0, c18, n18, if_true, if_false, ite_true, ite_false, and_true, true_and, and_false, false_and, and_self, or_true, true_or, or_false, false_or, or_self, not_true_eq_false, not_false_eq_true, decide_true, decide_false, Bool.and_true, Bool.true_and, Bool.and_false, Bool.false_and, Bool.and_self, Bool.or_true, Bool.true_or, Bool.or_false, Bool.false_or, Bool.not_true, Bool.not_false, cond_true, cond_false, bI_t, bI_f, Bool.false_eq_true, Bool.true_eq_false, dayC_1, dayC_21, dayC_221, dayC_222, wLawOf, w01, wP, wPL, wP01, wL01, wRow, w01R, wAB, wNum, isP, isL]; done)
      refine A_iret dX9_lawOf_32 rfl ⟨_, rfl, (by rw [ew]; exact rV_n (by decide)), (by rw [ew]; first | (rw [rS_0]; exact O0) | exact O0), hf⟩
    · skip
      try simp only [bI_0, bI_n0, Classical.not_not, Bool.not_eq_false, Bool.true_and, Bool.and_true, decide_eq_true_eq, decide_eq_false_iff_not, dayC_1, dayC_21, dayC_221, dayC_222] at c18
      have n18 := Int32.not_lt.mp c18
      refine A_iload_n 22 dX9_lawOf_21 rfl rfl rfl ?_
      refine A_iconst 23 (3) dX9_lawOf_22 rfl (by decide) ?_
      refine A_icmp_le 33 26 dX9_lawOf_23 (by decide) rfl (fun c23 => ?_) (fun c23 => ?_)
      · skip
        try simp only [bI_0, bI_n0, Classical.not_not, Bool.not_eq_false, Bool.true_and, Bool.and_true, decide_eq_true_eq, decide_eq_false_iff_not, dayC_1, dayC_21, dayC_221, dayC_222] at c23
        have n23 := c23
        replace c23 := Int32.not_lt.mpr c23
        obtain ⟨k_v, rfl, hk_v⟩ := nI_exg (n := 3) c18 c23 (by decide)
        have cl_v : (nI k_v).toNatClampNeg = k_v := nI_clamp (by omega)
        refine A_aload_n 34 dX9_lawOf_33 rfl rfl rfl ?_
        refine A_getfield 37 dX9_lawOf_34 rfl f_X9_10 O0 rfl ?_
        refine A_iload_n 38 dX9_lawOf_37 rfl rfl rfl ?_
        refine A_iload_n 39 dX9_lawOf_38 rfl rfl rfl ?_
        refine A_callVI 42 (S_X8_lawPart X l O1 (k := k_l0) (j := k_v) (by omega) (by omega) rfl) dX9_lawOf_39 rfl kX8_lawPart lk_X9_115 rfl O1 (by decide) rfl (Nat.le_of_ble_eq_true rfl) (fun v_3 h_3 qh_3 => ?_)
        obtain ⟨rfl, rfl⟩ := qh_3
        have ew : wLawOf x (nI k_l0) (nI k_v) = 0 := by
          first | (simp only [c8, cl_l0, c18, n18, c23, n23, cl_v, if_true, if_false, ite_true, ite_false, and_true, true_and, and_false, false_and, and_self, or_true, true_or, or_false, false_or, or_self, not_true_eq_false, not_false_eq_true, decide_true, decide_false, Bool.and_true, Bool.true_and, Bool.and_false, Bool.false_and, Bool.and_self, Bool.or_true, Bool.true_or, Bool.or_false, Bool.false_or, Bool.not_true, Bool.not_false, cond_true, cond_false, bI_t, bI_f, Bool.false_eq_true, Bool.true_eq_false, dayC_1, dayC_21, dayC_221, dayC_222, wLawOf, w01, wP, wPL, wP01, wL01, wRow, w01R, wAB, wNum, isP, isL]; done)
        refine A_iret dX9_lawOf_42 rfl ⟨_, rfl, (by rw [ew, rV_0]; unfold aLawOf; rw [cl_l0, cl_v]), (by rw [ew]; first | (rw [rS_0]; exact O0) | exact O0), hf⟩
      · skip
        try simp only [bI_0, bI_n0, Classical.not_not, Bool.not_eq_false, Bool.true_and, Bool.and_true, decide_eq_true_eq, decide_eq_false_iff_not, dayC_1, dayC_21, dayC_221, dayC_222] at c23
        have n23 := c23
        replace c23 := Int32.not_le.mp c23
        refine A_aload_n 27 dX9_lawOf_26 rfl rfl rfl ?_
        refine A_bipush 29 (-2) dX9_lawOf_27 rfl (by decide) ?_
        refine A_callVI 32 (S_X9_refuse X l (by first | assumption | decide | omega | exact Ne.symm (by assumption)) (by first | assumption | (unfold CD; decide))) dX9_lawOf_29 rfl kX9_refuse lk_X9_79 rfl O0 (by decide) rfl (Nat.le_of_ble_eq_true rfl) (fun v_4 h_4 qh_4 => ?_)
        obtain ⟨rfl, n0h_4, eh_4⟩ := qh_4
        replace O0 := n0h_4
        replace O1 := (eh_4 _ (by decide)).trans O1
        replace hf : ∀ i, i ≠ 0 → h_4 i = h i := fun i g0 => (eh_4 i g0).trans (hf i g0)
        have ew : wLawOf x (nI k_l0) v = -2 := by
          first | (simp only [c8, cl_l0, c18, n18, c23, n23, if_true, if_false, ite_true, ite_false, and_true, true_and, and_false, false_and, and_self, or_true, true_or, or_false, false_or, or_self, not_true_eq_false, not_false_eq_true, decide_true, decide_false, Bool.and_true, Bool.true_and, Bool.and_false, Bool.false_and, Bool.and_self, Bool.or_true, Bool.true_or, Bool.or_false, Bool.false_or, Bool.not_true, Bool.not_false, cond_true, cond_false, bI_t, bI_f, Bool.false_eq_true, Bool.true_eq_false, dayC_1, dayC_21, dayC_221, dayC_222, wLawOf, w01, wP, wPL, wP01, wL01, wRow, w01R, wAB, wNum, isP, isL]; done)
        refine A_iret dX9_lawOf_32 rfl ⟨_, rfl, (by rw [ew]; exact rV_n (by decide)), (by rw [ew]; first | (rw [rS_0]; exact O0) | exact O0), hf⟩
  · skip
    try simp only [bI_0, bI_n0, Classical.not_not, Bool.not_eq_false, Bool.true_and, Bool.and_true, decide_eq_true_eq, decide_eq_false_iff_not, dayC_1, dayC_21, dayC_221, dayC_222] at c8
    refine A_aload_n 12 dX9_lawOf_11 rfl rfl rfl ?_
    refine A_iconst 13 (-1) dX9_lawOf_12 rfl (by decide) ?_
    refine A_callVI 16 (S_X9_refuse X l (by first | assumption | decide | omega | exact Ne.symm (by assumption)) (by first | assumption | (unfold CD; decide))) dX9_lawOf_13 rfl kX9_refuse lk_X9_79 rfl O0 (by decide) rfl (Nat.le_of_ble_eq_true rfl) (fun v_5 h_5 qh_5 => ?_)
    obtain ⟨rfl, n0h_5, eh_5⟩ := qh_5
    replace O0 := n0h_5
    replace O1 := (eh_5 _ (by decide)).trans O1
    replace hf : ∀ i, i ≠ 0 → h_5 i = h i := fun i g0 => (eh_5 i g0).trans (hf i g0)
    have ew : wLawOf x l0 v = -1 := by
      first | (simp only [c8, if_true, if_false, ite_true, ite_false, and_true, true_and, and_false, false_and, and_self, or_true, true_or, or_false, false_or, or_self, not_true_eq_false, not_false_eq_true, decide_true, decide_false, Bool.and_true, Bool.true_and, Bool.and_false, Bool.false_and, Bool.and_self, Bool.or_true, Bool.true_or, Bool.or_false, Bool.false_or, Bool.not_true, Bool.not_false, cond_true, cond_false, bI_t, bI_f, Bool.false_eq_true, Bool.true_eq_false, dayC_1, dayC_21, dayC_221, dayC_222, wLawOf, w01, wP, wPL, wP01, wL01, wRow, w01R, wAB, wNum, isP, isL]; done)
    refine A_iret dX9_lawOf_16 rfl ⟨_, rfl, (by rw [ew]; exact rV_n (by decide)), (by rw [ew]; first | (rw [rS_0]; exact O0) | exact O0), hf⟩
set_option maxHeartbeats 4000000 in
set_option maxRecDepth 100000 in
theorem S_X9_law (X : En) (l : Launch) {h : Hp} {x : PW} {g : Int32} {r : FI} (O0 : h 0 = some (maB g r)) (O1 : h 1 = some (wB 1 x)) (hW : WOK x) {np kp : Nat} (O3 : h 3 = some (paB np kp)) (hnp : np < 8) (hkp : kp ≤ 8) {k f th : Int32} : Ct X l mX9_law [aR 0 0, aI k, aI f, aI th] h (QI (PI3 (rV (wLaw x k f th) (nI x.2.2.1)) h (0) (maB g (rS (wLaw x k f th) r)) (1) (wB 1 (ifW (wLaw x k f th) (addL x k f (th / 10) (th - th / 10 * 10)) x)) (3) (paB np (ifW (wLaw x k f th) 0 kp)))) := by
  have hx := hW.1
  have hp := hW.2.1
  have h10 := hx.1
  have hf : ∀ i, i ≠ 0 → i ≠ 1 → i ≠ 3 → h i = h i := fun _ _ _ _ => rfl
  refine Ct.intro [some (aR 0 0), some (aI k), some (aI f), some (aI th), none, none] (by decide +kernel) rfl (Nat.le_of_ble_eq_true rfl) ?_
  refine A_iload_n 1 dX9_law_0 rfl rfl rfl ?_
  refine A_if_lt 9 4 dX9_law_1 (by decide) rfl (fun c1 => ?_) (fun c1 => ?_)
  · skip
    try simp only [bI_0, bI_n0, Classical.not_not, Bool.not_eq_false, Bool.true_and, Bool.and_true, decide_eq_true_eq, decide_eq_false_iff_not, dayC_1, dayC_21, dayC_221, dayC_222] at c1
    have n1 := Int32.not_le.mpr c1
    refine A_aload_n 10 dX9_law_9 rfl rfl rfl ?_
    refine A_bipush 12 (-2) dX9_law_10 rfl (by decide) ?_
    refine A_callVI 15 (S_X9_refuse X l (by first | assumption | decide | omega | exact Ne.symm (by assumption)) (by first | assumption | (unfold CD; decide))) dX9_law_12 rfl kX9_refuse lk_X9_79 rfl O0 (by decide) rfl (Nat.le_of_ble_eq_true rfl) (fun v_1 h_1 qh_1 => ?_)
    obtain ⟨rfl, n0h_1, eh_1⟩ := qh_1
    replace O0 := n0h_1
    replace O1 := (eh_1 _ (by decide)).trans O1
    replace O3 := (eh_1 _ (by decide)).trans O3
    replace hf : ∀ i, i ≠ 0 → i ≠ 1 → i ≠ 3 → h_1 i = h i := fun i g0 g1 g2 => (eh_1 i g0).trans (hf i g0 g1 g2)
    have ew : wLaw x k f th = -2 := by
      first | (simp only [c1, n1, if_true, if_false, ite_true, ite_false, and_true, true_and, and_false, false_and, and_self, or_true, true_or, or_false, false_or, or_self, not_true_eq_false, not_false_eq_true, decide_true, decide_false, Bool.and_true, Bool.true_and, Bool.and_false, Bool.false_and, Bool.and_self, Bool.or_true, Bool.true_or, Bool.or_false, Bool.false_or, Bool.not_true, Bool.not_false, cond_true, cond_false, bI_t, bI_f, Bool.false_eq_true, Bool.true_eq_false, dayC_1, dayC_21, dayC_221, dayC_222, wLaw, w01, wP, wPL, wP01, wL01, wRow, w01R, wAB, wNum, isP, isL]; done)
    refine A_iret dX9_law_15 rfl ⟨_, rfl, (by rw [ew]; exact rV_n (by decide)), (by rw [ew]; first | (rw [rS_0]; exact O0) | exact O0), (by rw [ew]; simp only [ifW_0, ifW_1, ifW_2, ifW_3, ifW_4, ifW_6]; exact O1), (by rw [ew]; simp only [ifW_0, ifW_1, ifW_2, ifW_3, ifW_4, ifW_6]; exact O3), hf⟩
  · skip
    try simp only [bI_0, bI_n0, Classical.not_not, Bool.not_eq_false, Bool.true_and, Bool.and_true, decide_eq_true_eq, decide_eq_false_iff_not, dayC_1, dayC_21, dayC_221, dayC_222] at c1
    have n1 := Int32.not_lt.mp c1
    refine A_iload_n 5 dX9_law_4 rfl rfl rfl ?_
    refine A_iconst 6 (5) dX9_law_5 rfl (by decide) ?_
    refine A_icmp_le 16 9 dX9_law_6 (by decide) rfl (fun c6 => ?_) (fun c6 => ?_)
    · skip
      try simp only [bI_0, bI_n0, Classical.not_not, Bool.not_eq_false, Bool.true_and, Bool.and_true, decide_eq_true_eq, decide_eq_false_iff_not, dayC_1, dayC_21, dayC_221, dayC_222] at c6
      have n6 := c6
      replace c6 := Int32.not_lt.mpr c6
      refine A_iload_n 17 dX9_law_16 rfl rfl rfl ?_
      refine A_if_lt 24 20 dX9_law_17 (by decide) rfl (fun c17 => ?_) (fun c17 => ?_)
      · skip
        try simp only [bI_0, bI_n0, Classical.not_not, Bool.not_eq_false, Bool.true_and, Bool.and_true, decide_eq_true_eq, decide_eq_false_iff_not, dayC_1, dayC_21, dayC_221, dayC_222] at c17
        have n17 := Int32.not_le.mpr c17
        refine A_aload_n 25 dX9_law_24 rfl rfl rfl ?_
        refine A_bipush 27 (-4) dX9_law_25 rfl (by decide) ?_
        refine A_callVI 30 (S_X9_refuse X l (by first | assumption | decide | omega | exact Ne.symm (by assumption)) (by first | assumption | (unfold CD; decide))) dX9_law_27 rfl kX9_refuse lk_X9_79 rfl O0 (by decide) rfl (Nat.le_of_ble_eq_true rfl) (fun v_2 h_2 qh_2 => ?_)
        obtain ⟨rfl, n0h_2, eh_2⟩ := qh_2
        replace O0 := n0h_2
        replace O1 := (eh_2 _ (by decide)).trans O1
        replace O3 := (eh_2 _ (by decide)).trans O3
        replace hf : ∀ i, i ≠ 0 → i ≠ 1 → i ≠ 3 → h_2 i = h i := fun i g0 g1 g2 => (eh_2 i g0).trans (hf i g0 g1 g2)
        have ew : wLaw x k f th = -4 := by
          first | (simp only [c1, n1, c6, n6, c17, n17, if_true, if_false, ite_true, ite_false, and_true, true_and, and_false, false_and, and_self, or_true, true_or, or_false, false_or, or_self, not_true_eq_false, not_false_eq_true, decide_true, decide_false, Bool.and_true, Bool.true_and, Bool.and_false, Bool.false_and, Bool.and_self, Bool.or_true, Bool.true_or, Bool.or_false, Bool.false_or, Bool.not_true, Bool.not_false, cond_true, cond_false, bI_t, bI_f, Bool.false_eq_true, Bool.true_eq_false, dayC_1, dayC_21, dayC_221, dayC_222, wLaw, w01, wP, wPL, wP01, wL01, wRow, w01R, wAB, wNum, isP, isL]; done)
        refine A_iret dX9_law_30 rfl ⟨_, rfl, (by rw [ew]; exact rV_n (by decide)), (by rw [ew]; first | (rw [rS_0]; exact O0) | exact O0), (by rw [ew]; simp only [ifW_0, ifW_1, ifW_2, ifW_3, ifW_4, ifW_6]; exact O1), (by rw [ew]; simp only [ifW_0, ifW_1, ifW_2, ifW_3, ifW_4, ifW_6]; exact O3), hf⟩
      · skip
        try simp only [bI_0, bI_n0, Classical.not_not, Bool.not_eq_false, Bool.true_and, Bool.and_true, decide_eq_true_eq, decide_eq_false_iff_not, dayC_1, dayC_21, dayC_221, dayC_222] at c17
        have n17 := Int32.not_lt.mp c17
        refine A_iload_n 21 dX9_law_20 rfl rfl rfl ?_
        refine A_if_ge 31 24 dX9_law_21 (by decide) rfl (fun c21 => ?_) (fun c21 => ?_)
        · skip
          try simp only [bI_0, bI_n0, Classical.not_not, Bool.not_eq_false, Bool.true_and, Bool.and_true, decide_eq_true_eq, decide_eq_false_iff_not, dayC_1, dayC_21, dayC_221, dayC_222] at c21
          have n21 := c21
          replace c21 := Int32.not_lt.mpr c21
          refine A_iload_n 32 dX9_law_31 rfl rfl rfl ?_
          refine A_bipush 34 (10) dX9_law_32 rfl (by decide) ?_
          refine A_idiv 35 dX9_law_34 rfl (by decide) ?_
          refine A_istore 37 dX9_law_35 rfl (by decide) (by first | exact (ast_s (ast_s (ast_s (ast_1 rfl)))) | exact (ast_s (ast_s (ast_s ast_k)))) ?_
          refine A_iload_n 38 dX9_law_37 rfl rfl rfl ?_
          refine A_bipush 40 (10) dX9_law_38 rfl (by decide) ?_
          refine A_irem 41 dX9_law_40 rfl (by decide) ?_
          refine A_istore 43 dX9_law_41 rfl (by decide) (by first | exact (ast_s (ast_s (ast_s (ast_s (ast_1 rfl))))) | exact (ast_s (ast_s (ast_s (ast_s ast_k))))) ?_
          refine A_iload_n 44 dX9_law_43 rfl rfl rfl ?_
          refine A_bipush 46 (9) dX9_law_44 rfl (by decide) ?_
          refine A_icmp_gt 65 49 dX9_law_46 (by decide) rfl (fun c46 => ?_) (fun c46 => ?_)
          · skip
            try simp only [bI_0, bI_n0, Classical.not_not, Bool.not_eq_false, Bool.true_and, Bool.and_true, decide_eq_true_eq, decide_eq_false_iff_not, dayC_1, dayC_21, dayC_221, dayC_222] at c46
            have n46 := Int32.not_le.mpr c46
            refine A_aload_n 66 dX9_law_65 rfl rfl rfl ?_
            refine A_bipush 68 (-6) dX9_law_66 rfl (by decide) ?_
            refine A_callVI 71 (S_X9_refuse X l (by first | assumption | decide | omega | exact Ne.symm (by assumption)) (by first | assumption | (unfold CD; decide))) dX9_law_68 rfl kX9_refuse lk_X9_79 rfl O0 (by decide) rfl (Nat.le_of_ble_eq_true rfl) (fun v_3 h_3 qh_3 => ?_)
            obtain ⟨rfl, n0h_3, eh_3⟩ := qh_3
            replace O0 := n0h_3
            replace O1 := (eh_3 _ (by decide)).trans O1
            replace O3 := (eh_3 _ (by decide)).trans O3
            replace hf : ∀ i, i ≠ 0 → i ≠ 1 → i ≠ 3 → h_3 i = h i := fun i g0 g1 g2 => (eh_3 i g0).trans (hf i g0 g1 g2)
            have ew : wLaw x k f th = -6 := by
              first | (simp only [c1, n1, c6, n6, c17, n17, c21, n21, c46, n46, if_true, if_false, ite_true, ite_false, and_true, true_and, and_false, false_and, and_self, or_true, true_or, or_false, false_or, or_self, not_true_eq_false, not_false_eq_true, decide_true, decide_false, Bool.and_true, Bool.true_and, Bool.and_false, Bool.false_and, Bool.and_self, Bool.or_true, Bool.true_or, Bool.or_false, Bool.false_or, Bool.not_true, Bool.not_false, cond_true, cond_false, bI_t, bI_f, Bool.false_eq_true, Bool.true_eq_false, dayC_1, dayC_21, dayC_221, dayC_222, wLaw, w01, wP, wPL, wP01, wL01, wRow, w01R, wAB, wNum, isP, isL]; done)
            refine A_iret dX9_law_71 rfl ⟨_, rfl, (by rw [ew]; exact rV_n (by decide)), (by rw [ew]; first | (rw [rS_0]; exact O0) | exact O0), (by rw [ew]; simp only [ifW_0, ifW_1, ifW_2, ifW_3, ifW_4, ifW_6]; exact O1), (by rw [ew]; simp only [ifW_0, ifW_1, ifW_2, ifW_3, ifW_4, ifW_6]; exact O3), hf⟩
          · skip
            try simp only [bI_0, bI_n0, Classical.not_not, Bool.not_eq_false, Bool.true_and, Bool.and_true, decide_eq_true_eq, decide_eq_false_iff_not, dayC_1, dayC_21, dayC_221, dayC_222] at c46
            have n46 := Int32.not_lt.mp c46
            refine A_iload 51 dX9_law_49 rfl rfl ?_
            refine A_callSI 54 (S_X9_isThing X l) dX9_law_51 rfl kX9_isThing lk_X9_125 rfl (by decide) rfl (Nat.le_of_ble_eq_true rfl) (fun v_4 h_4 qh_4 => ?_)
            obtain ⟨rfl, rfl⟩ := qh_4
            refine A_if_eq 65 57 dX9_law_54 (by decide) rfl (fun c54 => ?_) (fun c54 => ?_)
            · skip
              try simp only [bI_0, bI_n0, Classical.not_not, Bool.not_eq_false, Bool.true_and, Bool.and_true, decide_eq_true_eq, decide_eq_false_iff_not, dayC_1, dayC_21, dayC_221, dayC_222] at c54
              refine A_aload_n 66 dX9_law_65 rfl rfl rfl ?_
              refine A_bipush 68 (-6) dX9_law_66 rfl (by decide) ?_
              refine A_callVI 71 (S_X9_refuse X l (by first | assumption | decide | omega | exact Ne.symm (by assumption)) (by first | assumption | (unfold CD; decide))) dX9_law_68 rfl kX9_refuse lk_X9_79 rfl O0 (by decide) rfl (Nat.le_of_ble_eq_true rfl) (fun v_5 h_5 qh_5 => ?_)
              obtain ⟨rfl, n0h_5, eh_5⟩ := qh_5
              replace O0 := n0h_5
              replace O1 := (eh_5 _ (by decide)).trans O1
              replace O3 := (eh_5 _ (by decide)).trans O3
              replace hf : ∀ i, i ≠ 0 → i ≠ 1 → i ≠ 3 → h_5 i = h i := fun i g0 g1 g2 => (eh_5 i g0).trans (hf i g0 g1 g2)
              have ew : wLaw x k f th = -6 := by
                first | (simp only [c1, n1, c6, n6, c17, n17, c21, n21, c46, n46, c54, if_true, if_false, ite_true, ite_false, and_true, true_and, and_false, false_and, and_self, or_true, true_or, or_false, false_or, or_self, not_true_eq_false, not_false_eq_true, decide_true, decide_false, Bool.and_true, Bool.true_and, Bool.and_false, Bool.false_and, Bool.and_self, Bool.or_true, Bool.true_or, Bool.or_false, Bool.false_or, Bool.not_true, Bool.not_false, cond_true, cond_false, bI_t, bI_f, Bool.false_eq_true, Bool.true_eq_false, dayC_1, dayC_21, dayC_221, dayC_222, wLaw, w01, wP, wPL, wP01, wL01, wRow, w01R, wAB, wNum, isP, isL]; done)
              refine A_iret dX9_law_71 rfl ⟨_, rfl, (by rw [ew]; exact rV_n (by decide)), (by rw [ew]; first | (rw [rS_0]; exact O0) | exact O0), (by rw [ew]; simp only [ifW_0, ifW_1, ifW_2, ifW_3, ifW_4, ifW_6]; exact O1), (by rw [ew]; simp only [ifW_0, ifW_1, ifW_2, ifW_3, ifW_4, ifW_6]; exact O3), hf⟩
            · skip
              try simp only [bI_0, bI_n0, Classical.not_not, Bool.not_eq_false, Bool.true_and, Bool.and_true, decide_eq_true_eq, decide_eq_false_iff_not, dayC_1, dayC_21, dayC_221, dayC_222] at c54
              refine A_iload 59 dX9_law_57 rfl rfl ?_
              refine A_callSI 62 (S_X9_isThing X l) dX9_law_59 rfl kX9_isThing lk_X9_125 rfl (by decide) rfl (Nat.le_of_ble_eq_true rfl) (fun v_6 h_6 qh_6 => ?_)
              obtain ⟨rfl, rfl⟩ := qh_6
              refine A_if_ne 72 65 dX9_law_62 (by decide) rfl (fun c62 => ?_) (fun c62 => ?_)
              · skip
                try simp only [bI_0, bI_n0, Classical.not_not, Bool.not_eq_false, Bool.true_and, Bool.and_true, decide_eq_true_eq, decide_eq_false_iff_not, dayC_1, dayC_21, dayC_221, dayC_222] at c62
                refine A_aload_n 73 dX9_law_72 rfl rfl rfl ?_
                refine A_getfield 76 dX9_law_73 rfl f_X9_10 O0 rfl ?_
                refine A_callVI 79 (S_X8_hasLawRoom X l (by first | assumption | decide | omega | exact Ne.symm (by assumption)) (by first | assumption | decide | omega | exact Ne.symm (by assumption))) dX9_law_76 rfl kX8_hasLawRoom lk_X9_128 rfl O1 (by decide) rfl (Nat.le_of_ble_eq_true rfl) (fun v_7 h_7 qh_7 => ?_)
                obtain ⟨rfl, rfl⟩ := qh_7
                refine A_if_ne 89 82 dX9_law_79 (by decide) rfl (fun c79 => ?_) (fun c79 => ?_)
                · skip
                  try simp only [bI_0, bI_n0, Classical.not_not, Bool.not_eq_false, Bool.true_and, Bool.and_true, decide_eq_true_eq, decide_eq_false_iff_not, dayC_1, dayC_21, dayC_221, dayC_222] at c79
                  refine A_aload_n 90 dX9_law_89 rfl rfl rfl ?_
                  refine A_getfield 93 dX9_law_90 rfl f_X9_22 O0 rfl ?_
                  refine A_callVV 96 (S_X5_forget X l (by first | assumption | decide | omega | exact Ne.symm (by assumption))) dX9_law_93 rfl kX5_forget lk_X9_105 rfl O3 (by decide) rfl (Nat.le_of_ble_eq_true rfl) (fun h_8 qh_8 => ?_)
                  obtain ⟨n0h_8, eh_8⟩ := qh_8
                  replace O0 := (eh_8 _ (by decide)).trans O0
                  replace O1 := (eh_8 _ (by decide)).trans O1
                  replace O3 := n0h_8
                  replace hf : ∀ i, i ≠ 0 → i ≠ 1 → i ≠ 3 → h_8 i = h i := fun i g0 g1 g2 => (eh_8 i g2).trans (hf i g0 g1 g2)
                  refine A_aload_n 97 dX9_law_96 rfl rfl rfl ?_
                  refine A_getfield 100 dX9_law_97 rfl f_X9_10 O0 rfl ?_
                  refine A_iload_n 101 dX9_law_100 rfl rfl rfl ?_
                  refine A_iload_n 102 dX9_law_101 rfl rfl rfl ?_
                  refine A_iload 104 dX9_law_102 rfl rfl ?_
                  refine A_iload 106 dX9_law_104 rfl rfl ?_
                  refine A_callVI 109 (S_X8_addLaw X l (by first | assumption | decide | omega | exact Ne.symm (by assumption)) (by first | assumption | decide | omega | exact Ne.symm (by assumption))) dX9_law_106 rfl kX8_addLaw lk_X9_131 rfl O1 (by decide) rfl (Nat.le_of_ble_eq_true rfl) (fun v_9 h_9 qh_9 => ?_)
                  obtain ⟨rfl, n0h_9, eh_9⟩ := qh_9
                  replace O0 := (eh_9 _ (by decide)).trans O0
                  replace O1 := n0h_9
                  replace O3 := (eh_9 _ (by decide)).trans O3
                  replace hf : ∀ i, i ≠ 0 → i ≠ 1 → i ≠ 3 → h_9 i = h i := fun i g0 g1 g2 => (eh_9 i g1).trans (hf i g0 g1 g2)
                  have ew : wLaw x k f th = 0 := by
                    first | (simp only [c1, n1, c6, n6, c17, n17, c21, n21, c46, n46, c54, c62, c79, if_true, if_false, ite_true, ite_false, and_true, true_and, and_false, false_and, and_self, or_true, true_or, or_false, false_or, or_self, not_true_eq_false, not_false_eq_true, decide_true, decide_false, Bool.and_true, Bool.true_and, Bool.and_false, Bool.false_and, Bool.and_self, Bool.or_true, Bool.true_or, Bool.or_false, Bool.false_or, Bool.not_true, Bool.not_false, cond_true, cond_false, bI_t, bI_f, Bool.false_eq_true, Bool.true_eq_false, dayC_1, dayC_21, dayC_221, dayC_222, wLaw, w01, wP, wPL, wP01, wL01, wRow, w01R, wAB, wNum, isP, isL]; done)
                  refine A_iret dX9_law_109 rfl ⟨_, rfl, (by rw [ew, rV_0]; skip), (by rw [ew]; first | (rw [rS_0]; exact O0) | exact O0), (by rw [ew]; simp only [ifW_0, ifW_1, ifW_2, ifW_3, ifW_4, ifW_6]; exact O1), (by rw [ew]; simp only [ifW_0, ifW_1, ifW_2, ifW_3, ifW_4, ifW_6]; exact O3), hf⟩
                · skip
                  try simp only [bI_0, bI_n0, Classical.not_not, Bool.not_eq_false, Bool.true_and, Bool.and_true, decide_eq_true_eq, decide_eq_false_iff_not, dayC_1, dayC_21, dayC_221, dayC_222] at c79
                  refine A_aload_n 83 dX9_law_82 rfl rfl rfl ?_
                  refine A_bipush 85 (-6) dX9_law_83 rfl (by decide) ?_
                  refine A_callVI 88 (S_X9_refuse X l (by first | assumption | decide | omega | exact Ne.symm (by assumption)) (by first | assumption | (unfold CD; decide))) dX9_law_85 rfl kX9_refuse lk_X9_79 rfl O0 (by decide) rfl (Nat.le_of_ble_eq_true rfl) (fun v_10 h_10 qh_10 => ?_)
                  obtain ⟨rfl, n0h_10, eh_10⟩ := qh_10
                  replace O0 := n0h_10
                  replace O1 := (eh_10 _ (by decide)).trans O1
                  replace O3 := (eh_10 _ (by decide)).trans O3
                  replace hf : ∀ i, i ≠ 0 → i ≠ 1 → i ≠ 3 → h_10 i = h i := fun i g0 g1 g2 => (eh_10 i g0).trans (hf i g0 g1 g2)
                  have ew : wLaw x k f th = -6 := by
                    first | (simp only [c1, n1, c6, n6, c17, n17, c21, n21, c46, n46, c54, c62, c79, if_true, if_false, ite_true, ite_false, and_true, true_and, and_false, false_and, and_self, or_true, true_or, or_false, false_or, or_self, not_true_eq_false, not_false_eq_true, decide_true, decide_false, Bool.and_true, Bool.true_and, Bool.and_false, Bool.false_and, Bool.and_self, Bool.or_true, Bool.true_or, Bool.or_false, Bool.false_or, Bool.not_true, Bool.not_false, cond_true, cond_false, bI_t, bI_f, Bool.false_eq_true, Bool.true_eq_false, dayC_1, dayC_21, dayC_221, dayC_222, wLaw, w01, wP, wPL, wP01, wL01, wRow, w01R, wAB, wNum, isP, isL]; done)
                  refine A_iret dX9_law_88 rfl ⟨_, rfl, (by rw [ew]; exact rV_n (by decide)), (by rw [ew]; first | (rw [rS_0]; exact O0) | exact O0), (by rw [ew]; simp only [ifW_0, ifW_1, ifW_2, ifW_3, ifW_4, ifW_6]; exact O1), (by rw [ew]; simp only [ifW_0, ifW_1, ifW_2, ifW_3, ifW_4, ifW_6]; exact O3), hf⟩
              · skip
                try simp only [bI_0, bI_n0, Classical.not_not, Bool.not_eq_false, Bool.true_and, Bool.and_true, decide_eq_true_eq, decide_eq_false_iff_not, dayC_1, dayC_21, dayC_221, dayC_222] at c62
                refine A_aload_n 66 dX9_law_65 rfl rfl rfl ?_
                refine A_bipush 68 (-6) dX9_law_66 rfl (by decide) ?_
                refine A_callVI 71 (S_X9_refuse X l (by first | assumption | decide | omega | exact Ne.symm (by assumption)) (by first | assumption | (unfold CD; decide))) dX9_law_68 rfl kX9_refuse lk_X9_79 rfl O0 (by decide) rfl (Nat.le_of_ble_eq_true rfl) (fun v_11 h_11 qh_11 => ?_)
                obtain ⟨rfl, n0h_11, eh_11⟩ := qh_11
                replace O0 := n0h_11
                replace O1 := (eh_11 _ (by decide)).trans O1
                replace O3 := (eh_11 _ (by decide)).trans O3
                replace hf : ∀ i, i ≠ 0 → i ≠ 1 → i ≠ 3 → h_11 i = h i := fun i g0 g1 g2 => (eh_11 i g0).trans (hf i g0 g1 g2)
                have ew : wLaw x k f th = -6 := by
                  first | (simp only [c1, n1, c6, n6, c17, n17, c21, n21, c46, n46, c54, c62, if_true, if_false, ite_true, ite_false, and_true, true_and, and_false, false_and, and_self, or_true, true_or, or_false, false_or, or_self, not_true_eq_false, not_false_eq_true, decide_true, decide_false, Bool.and_true, Bool.true_and, Bool.and_false, Bool.false_and, Bool.and_self, Bool.or_true, Bool.true_or, Bool.or_false, Bool.false_or, Bool.not_true, Bool.not_false, cond_true, cond_false, bI_t, bI_f, Bool.false_eq_true, Bool.true_eq_false, dayC_1, dayC_21, dayC_221, dayC_222, wLaw, w01, wP, wPL, wP01, wL01, wRow, w01R, wAB, wNum, isP, isL]; done)
                refine A_iret dX9_law_71 rfl ⟨_, rfl, (by rw [ew]; exact rV_n (by decide)), (by rw [ew]; first | (rw [rS_0]; exact O0) | exact O0), (by rw [ew]; simp only [ifW_0, ifW_1, ifW_2, ifW_3, ifW_4, ifW_6]; exact O1), (by rw [ew]; simp only [ifW_0, ifW_1, ifW_2, ifW_3, ifW_4, ifW_6]; exact O3), hf⟩
        · skip
          try simp only [bI_0, bI_n0, Classical.not_not, Bool.not_eq_false, Bool.true_and, Bool.and_true, decide_eq_true_eq, decide_eq_false_iff_not, dayC_1, dayC_21, dayC_221, dayC_222] at c21
          have n21 := c21
          replace c21 := Int32.not_le.mp c21
          refine A_aload_n 25 dX9_law_24 rfl rfl rfl ?_
          refine A_bipush 27 (-4) dX9_law_25 rfl (by decide) ?_
          refine A_callVI 30 (S_X9_refuse X l (by first | assumption | decide | omega | exact Ne.symm (by assumption)) (by first | assumption | (unfold CD; decide))) dX9_law_27 rfl kX9_refuse lk_X9_79 rfl O0 (by decide) rfl (Nat.le_of_ble_eq_true rfl) (fun v_12 h_12 qh_12 => ?_)
          obtain ⟨rfl, n0h_12, eh_12⟩ := qh_12
          replace O0 := n0h_12
          replace O1 := (eh_12 _ (by decide)).trans O1
          replace O3 := (eh_12 _ (by decide)).trans O3
          replace hf : ∀ i, i ≠ 0 → i ≠ 1 → i ≠ 3 → h_12 i = h i := fun i g0 g1 g2 => (eh_12 i g0).trans (hf i g0 g1 g2)
          have ew : wLaw x k f th = -4 := by
            first | (simp only [c1, n1, c6, n6, c17, n17, c21, n21, if_true, if_false, ite_true, ite_false, and_true, true_and, and_false, false_and, and_self, or_true, true_or, or_false, false_or, or_self, not_true_eq_false, not_false_eq_true, decide_true, decide_false, Bool.and_true, Bool.true_and, Bool.and_false, Bool.false_and, Bool.and_self, Bool.or_true, Bool.true_or, Bool.or_false, Bool.false_or, Bool.not_true, Bool.not_false, cond_true, cond_false, bI_t, bI_f, Bool.false_eq_true, Bool.true_eq_false, dayC_1, dayC_21, dayC_221, dayC_222, wLaw, w01, wP, wPL, wP01, wL01, wRow, w01R, wAB, wNum, isP, isL]; done)
          refine A_iret dX9_law_30 rfl ⟨_, rfl, (by rw [ew]; exact rV_n (by decide)), (by rw [ew]; first | (rw [rS_0]; exact O0) | exact O0), (by rw [ew]; simp only [ifW_0, ifW_1, ifW_2, ifW_3, ifW_4, ifW_6]; exact O1), (by rw [ew]; simp only [ifW_0, ifW_1, ifW_2, ifW_3, ifW_4, ifW_6]; exact O3), hf⟩
    · skip
      try simp only [bI_0, bI_n0, Classical.not_not, Bool.not_eq_false, Bool.true_and, Bool.and_true, decide_eq_true_eq, decide_eq_false_iff_not, dayC_1, dayC_21, dayC_221, dayC_222] at c6
      have n6 := c6
      replace c6 := Int32.not_le.mp c6
      refine A_aload_n 10 dX9_law_9 rfl rfl rfl ?_
      refine A_bipush 12 (-2) dX9_law_10 rfl (by decide) ?_
      refine A_callVI 15 (S_X9_refuse X l (by first | assumption | decide | omega | exact Ne.symm (by assumption)) (by first | assumption | (unfold CD; decide))) dX9_law_12 rfl kX9_refuse lk_X9_79 rfl O0 (by decide) rfl (Nat.le_of_ble_eq_true rfl) (fun v_13 h_13 qh_13 => ?_)
      obtain ⟨rfl, n0h_13, eh_13⟩ := qh_13
      replace O0 := n0h_13
      replace O1 := (eh_13 _ (by decide)).trans O1
      replace O3 := (eh_13 _ (by decide)).trans O3
      replace hf : ∀ i, i ≠ 0 → i ≠ 1 → i ≠ 3 → h_13 i = h i := fun i g0 g1 g2 => (eh_13 i g0).trans (hf i g0 g1 g2)
      have ew : wLaw x k f th = -2 := by
        first | (simp only [c1, n1, c6, n6, if_true, if_false, ite_true, ite_false, and_true, true_and, and_false, false_and, and_self, or_true, true_or, or_false, false_or, or_self, not_true_eq_false, not_false_eq_true, decide_true, decide_false, Bool.and_true, Bool.true_and, Bool.and_false, Bool.false_and, Bool.and_self, Bool.or_true, Bool.true_or, Bool.or_false, Bool.false_or, Bool.not_true, Bool.not_false, cond_true, cond_false, bI_t, bI_f, Bool.false_eq_true, Bool.true_eq_false, dayC_1, dayC_21, dayC_221, dayC_222, wLaw, w01, wP, wPL, wP01, wL01, wRow, w01R, wAB, wNum, isP, isL]; done)
      refine A_iret dX9_law_15 rfl ⟨_, rfl, (by rw [ew]; exact rV_n (by decide)), (by rw [ew]; first | (rw [rS_0]; exact O0) | exact O0), (by rw [ew]; simp only [ifW_0, ifW_1, ifW_2, ifW_3, ifW_4, ifW_6]; exact O1), (by rw [ew]; simp only [ifW_0, ifW_1, ifW_2, ifW_3, ifW_4, ifW_6]; exact O3), hf⟩
set_option maxHeartbeats 4000000 in
set_option maxRecDepth 100000 in
theorem S_X9_person (X : En) (l : Launch) {h : Hp} {x : PW} {g : Int32} {r : FI} (O0 : h 0 = some (maB g r)) (O1 : h 1 = some (wB 1 x)) (hW : WOK x) {np kp : Nat} (O3 : h 3 = some (paB np kp)) (hnp : np < 8) (hkp : kp ≤ 8) {v : Int32} : Ct X l mX9_person [aR 0 0, aI v] h (QI (PI3 (rV (wPers x v) (nI x.2.2.2.1)) h (0) (maB g (rS (wPers x v) r)) (1) (wB 1 (ifW (wPers x v) (addP x v) x)) (3) (paB np (ifW (wPers x v) 0 kp)))) := by
  have hx := hW.1
  have hp := hW.2.1
  have h10 := hx.1
  have hf : ∀ i, i ≠ 0 → i ≠ 1 → i ≠ 3 → h i = h i := fun _ _ _ _ => rfl
  refine Ct.intro [some (aR 0 0), some (aI v)] (by decide +kernel) rfl (Nat.le_of_ble_eq_true rfl) ?_
  refine A_iload_n 1 dX9_person_0 rfl rfl rfl ?_
  refine A_if_ge 11 4 dX9_person_1 (by decide) rfl (fun c1 => ?_) (fun c1 => ?_)
  · skip
    try simp only [bI_0, bI_n0, Classical.not_not, Bool.not_eq_false, Bool.true_and, Bool.and_true, decide_eq_true_eq, decide_eq_false_iff_not, dayC_1, dayC_21, dayC_221, dayC_222] at c1
    have n1 := c1
    replace c1 := Int32.not_lt.mpr c1
    refine A_iload_n 12 dX9_person_11 rfl rfl rfl ?_
    refine A_sipush 15 (255) dX9_person_12 rfl (by decide) ?_
    refine A_icmp_gt 28 18 dX9_person_15 (by decide) rfl (fun c15 => ?_) (fun c15 => ?_)
    · skip
      try simp only [bI_0, bI_n0, Classical.not_not, Bool.not_eq_false, Bool.true_and, Bool.and_true, decide_eq_true_eq, decide_eq_false_iff_not, dayC_1, dayC_21, dayC_221, dayC_222] at c15
      have n15 := Int32.not_le.mpr c15
      refine A_aload_n 29 dX9_person_28 rfl rfl rfl ?_
      refine A_bipush 31 (-6) dX9_person_29 rfl (by decide) ?_
      refine A_callVI 34 (S_X9_refuse X l (by first | assumption | decide | omega | exact Ne.symm (by assumption)) (by first | assumption | (unfold CD; decide))) dX9_person_31 rfl kX9_refuse lk_X9_79 rfl O0 (by decide) rfl (Nat.le_of_ble_eq_true rfl) (fun v_1 h_1 qh_1 => ?_)
      obtain ⟨rfl, n0h_1, eh_1⟩ := qh_1
      replace O0 := n0h_1
      replace O1 := (eh_1 _ (by decide)).trans O1
      replace O3 := (eh_1 _ (by decide)).trans O3
      replace hf : ∀ i, i ≠ 0 → i ≠ 1 → i ≠ 3 → h_1 i = h i := fun i g0 g1 g2 => (eh_1 i g0).trans (hf i g0 g1 g2)
      have ew : wPers x v = -6 := by
        first | (simp only [c1, n1, c15, n15, if_true, if_false, ite_true, ite_false, and_true, true_and, and_false, false_and, and_self, or_true, true_or, or_false, false_or, or_self, not_true_eq_false, not_false_eq_true, decide_true, decide_false, Bool.and_true, Bool.true_and, Bool.and_false, Bool.false_and, Bool.and_self, Bool.or_true, Bool.true_or, Bool.or_false, Bool.false_or, Bool.not_true, Bool.not_false, cond_true, cond_false, bI_t, bI_f, Bool.false_eq_true, Bool.true_eq_false, dayC_1, dayC_21, dayC_221, dayC_222, wPers, w01, wP, wPL, wP01, wL01, wRow, w01R, wAB, wNum, isP, isL]; done)
      refine A_iret dX9_person_34 rfl ⟨_, rfl, (by rw [ew]; exact rV_n (by decide)), (by rw [ew]; first | (rw [rS_0]; exact O0) | exact O0), (by rw [ew]; simp only [ifW_0, ifW_1, ifW_2, ifW_3, ifW_4, ifW_6]; exact O1), (by rw [ew]; simp only [ifW_0, ifW_1, ifW_2, ifW_3, ifW_4, ifW_6]; exact O3), hf⟩
    · skip
      try simp only [bI_0, bI_n0, Classical.not_not, Bool.not_eq_false, Bool.true_and, Bool.and_true, decide_eq_true_eq, decide_eq_false_iff_not, dayC_1, dayC_21, dayC_221, dayC_222] at c15
      have n15 := Int32.not_lt.mp c15
      refine A_aload_n 19 dX9_person_18 rfl rfl rfl ?_
      refine A_getfield 22 dX9_person_19 rfl f_X9_10 O0 rfl ?_
      refine A_callVI 25 (S_X8_hasPersonRoom X l (by first | assumption | decide | omega | exact Ne.symm (by assumption)) (by first | assumption | decide | omega | exact Ne.symm (by assumption))) dX9_person_22 rfl kX8_hasPersonRoom lk_X9_135 rfl O1 (by decide) rfl (Nat.le_of_ble_eq_true rfl) (fun v_2 h_2 qh_2 => ?_)
      obtain ⟨rfl, rfl⟩ := qh_2
      refine A_if_ne 35 28 dX9_person_25 (by decide) rfl (fun c25 => ?_) (fun c25 => ?_)
      · skip
        try simp only [bI_0, bI_n0, Classical.not_not, Bool.not_eq_false, Bool.true_and, Bool.and_true, decide_eq_true_eq, decide_eq_false_iff_not, dayC_1, dayC_21, dayC_221, dayC_222] at c25
        refine A_aload_n 36 dX9_person_35 rfl rfl rfl ?_
        refine A_getfield 39 dX9_person_36 rfl f_X9_22 O0 rfl ?_
        refine A_callVV 42 (S_X5_forget X l (by first | assumption | decide | omega | exact Ne.symm (by assumption))) dX9_person_39 rfl kX5_forget lk_X9_105 rfl O3 (by decide) rfl (Nat.le_of_ble_eq_true rfl) (fun h_3 qh_3 => ?_)
        obtain ⟨n0h_3, eh_3⟩ := qh_3
        replace O0 := (eh_3 _ (by decide)).trans O0
        replace O1 := (eh_3 _ (by decide)).trans O1
        replace O3 := n0h_3
        replace hf : ∀ i, i ≠ 0 → i ≠ 1 → i ≠ 3 → h_3 i = h i := fun i g0 g1 g2 => (eh_3 i g2).trans (hf i g0 g1 g2)
        refine A_aload_n 43 dX9_person_42 rfl rfl rfl ?_
        refine A_getfield 46 dX9_person_43 rfl f_X9_10 O0 rfl ?_
        refine A_iload_n 47 dX9_person_46 rfl rfl rfl ?_
        refine A_callVI 50 (S_X8_addPerson X l (by first | assumption | decide | omega | exact Ne.symm (by assumption)) (by first | assumption | decide | omega | exact Ne.symm (by assumption))) dX9_person_47 rfl kX8_addPerson lk_X9_138 rfl O1 (by decide) rfl (Nat.le_of_ble_eq_true rfl) (fun v_4 h_4 qh_4 => ?_)
        obtain ⟨rfl, n0h_4, eh_4⟩ := qh_4
        replace O0 := (eh_4 _ (by decide)).trans O0
        replace O1 := n0h_4
        replace O3 := (eh_4 _ (by decide)).trans O3
        replace hf : ∀ i, i ≠ 0 → i ≠ 1 → i ≠ 3 → h_4 i = h i := fun i g0 g1 g2 => (eh_4 i g1).trans (hf i g0 g1 g2)
        have ew : wPers x v = 0 := by
          first | (simp only [c1, n1, c15, n15, c25, if_true, if_false, ite_true, ite_false, and_true, true_and, and_false, false_and, and_self, or_true, true_or, or_false, false_or, or_self, not_true_eq_false, not_false_eq_true, decide_true, decide_false, Bool.and_true, Bool.true_and, Bool.and_false, Bool.false_and, Bool.and_self, Bool.or_true, Bool.true_or, Bool.or_false, Bool.false_or, Bool.not_true, Bool.not_false, cond_true, cond_false, bI_t, bI_f, Bool.false_eq_true, Bool.true_eq_false, dayC_1, dayC_21, dayC_221, dayC_222, wPers, w01, wP, wPL, wP01, wL01, wRow, w01R, wAB, wNum, isP, isL]; done)
        refine A_iret dX9_person_50 rfl ⟨_, rfl, (by rw [ew, rV_0]; skip), (by rw [ew]; first | (rw [rS_0]; exact O0) | exact O0), (by rw [ew]; simp only [ifW_0, ifW_1, ifW_2, ifW_3, ifW_4, ifW_6]; exact O1), (by rw [ew]; simp only [ifW_0, ifW_1, ifW_2, ifW_3, ifW_4, ifW_6]; exact O3), hf⟩
      · skip
        try simp only [bI_0, bI_n0, Classical.not_not, Bool.not_eq_false, Bool.true_and, Bool.and_true, decide_eq_true_eq, decide_eq_false_iff_not, dayC_1, dayC_21, dayC_221, dayC_222] at c25
        refine A_aload_n 29 dX9_person_28 rfl rfl rfl ?_
        refine A_bipush 31 (-6) dX9_person_29 rfl (by decide) ?_
        refine A_callVI 34 (S_X9_refuse X l (by first | assumption | decide | omega | exact Ne.symm (by assumption)) (by first | assumption | (unfold CD; decide))) dX9_person_31 rfl kX9_refuse lk_X9_79 rfl O0 (by decide) rfl (Nat.le_of_ble_eq_true rfl) (fun v_5 h_5 qh_5 => ?_)
        obtain ⟨rfl, n0h_5, eh_5⟩ := qh_5
        replace O0 := n0h_5
        replace O1 := (eh_5 _ (by decide)).trans O1
        replace O3 := (eh_5 _ (by decide)).trans O3
        replace hf : ∀ i, i ≠ 0 → i ≠ 1 → i ≠ 3 → h_5 i = h i := fun i g0 g1 g2 => (eh_5 i g0).trans (hf i g0 g1 g2)
        have ew : wPers x v = -6 := by
          first | (simp only [c1, n1, c15, n15, c25, if_true, if_false, ite_true, ite_false, and_true, true_and, and_false, false_and, and_self, or_true, true_or, or_false, false_or, or_self, not_true_eq_false, not_false_eq_true, decide_true, decide_false, Bool.and_true, Bool.true_and, Bool.and_false, Bool.false_and, Bool.and_self, Bool.or_true, Bool.true_or, Bool.or_false, Bool.false_or, Bool.not_true, Bool.not_false, cond_true, cond_false, bI_t, bI_f, Bool.false_eq_true, Bool.true_eq_false, dayC_1, dayC_21, dayC_221, dayC_222, wPers, w01, wP, wPL, wP01, wL01, wRow, w01R, wAB, wNum, isP, isL]; done)
        refine A_iret dX9_person_34 rfl ⟨_, rfl, (by rw [ew]; exact rV_n (by decide)), (by rw [ew]; first | (rw [rS_0]; exact O0) | exact O0), (by rw [ew]; simp only [ifW_0, ifW_1, ifW_2, ifW_3, ifW_4, ifW_6]; exact O1), (by rw [ew]; simp only [ifW_0, ifW_1, ifW_2, ifW_3, ifW_4, ifW_6]; exact O3), hf⟩
  · skip
    try simp only [bI_0, bI_n0, Classical.not_not, Bool.not_eq_false, Bool.true_and, Bool.and_true, decide_eq_true_eq, decide_eq_false_iff_not, dayC_1, dayC_21, dayC_221, dayC_222] at c1
    have n1 := c1
    replace c1 := Int32.not_le.mp c1
    refine A_aload_n 5 dX9_person_4 rfl rfl rfl ?_
    refine A_bipush 7 (-4) dX9_person_5 rfl (by decide) ?_
    refine A_callVI 10 (S_X9_refuse X l (by first | assumption | decide | omega | exact Ne.symm (by assumption)) (by first | assumption | (unfold CD; decide))) dX9_person_7 rfl kX9_refuse lk_X9_79 rfl O0 (by decide) rfl (Nat.le_of_ble_eq_true rfl) (fun v_6 h_6 qh_6 => ?_)
    obtain ⟨rfl, n0h_6, eh_6⟩ := qh_6
    replace O0 := n0h_6
    replace O1 := (eh_6 _ (by decide)).trans O1
    replace O3 := (eh_6 _ (by decide)).trans O3
    replace hf : ∀ i, i ≠ 0 → i ≠ 1 → i ≠ 3 → h_6 i = h i := fun i g0 g1 g2 => (eh_6 i g0).trans (hf i g0 g1 g2)
    have ew : wPers x v = -4 := by
      first | (simp only [c1, n1, if_true, if_false, ite_true, ite_false, and_true, true_and, and_false, false_and, and_self, or_true, true_or, or_false, false_or, or_self, not_true_eq_false, not_false_eq_true, decide_true, decide_false, Bool.and_true, Bool.true_and, Bool.and_false, Bool.false_and, Bool.and_self, Bool.or_true, Bool.true_or, Bool.or_false, Bool.false_or, Bool.not_true, Bool.not_false, cond_true, cond_false, bI_t, bI_f, Bool.false_eq_true, Bool.true_eq_false, dayC_1, dayC_21, dayC_221, dayC_222, wPers, w01, wP, wPL, wP01, wL01, wRow, w01R, wAB, wNum, isP, isL]; done)
    refine A_iret dX9_person_10 rfl ⟨_, rfl, (by rw [ew]; exact rV_n (by decide)), (by rw [ew]; first | (rw [rS_0]; exact O0) | exact O0), (by rw [ew]; simp only [ifW_0, ifW_1, ifW_2, ifW_3, ifW_4, ifW_6]; exact O1), (by rw [ew]; simp only [ifW_0, ifW_1, ifW_2, ifW_3, ifW_4, ifW_6]; exact O3), hf⟩
set_option maxHeartbeats 4000000 in
set_option maxRecDepth 100000 in
theorem S_X9_takes (X : En) (l : Launch) {h : Hp} {x : PW} {g : Int32} {r : FI} (O0 : h 0 = some (maB g r)) (O1 : h 1 = some (wB 1 x)) (hW : WOK x) {np kp : Nat} (O3 : h 3 = some (paB np kp)) (hnp : np < 8) (hkp : kp ≤ 8) {x2 : PW} (On : h (np + 4) = some (wB (np + 4) x2)) {p t : Int32} : Ct X l mX9_takes [aR 0 0, aI p, aI t] h (QI (PI4 (rV (wTake x p t) (pk x p &&& (tbI t ^^^ (-1)))) h (0) (maB g (rS (wTake x p t) r)) (1) (wB 1 (ifW (wTake x p t) (takeF x p.toNatClampNeg t) x)) (3) (paB (ifW (wTake x p t) (nxP np) np) (ifW (wTake x p t) (moP kp) kp)) ((np + 4)) (wB (np + 4) (ifW (wTake x p t) x x2)))) := by
  have hx := hW.1
  have hp := hW.2.1
  have h10 := hx.1
  have hf : ∀ i, i ≠ 0 → i ≠ 1 → i ≠ 3 → i ≠ (np + 4) → h i = h i := fun _ _ _ _ _ => rfl
  refine Ct.intro [some (aR 0 0), some (aI p), some (aI t)] (by decide +kernel) rfl (Nat.le_of_ble_eq_true rfl) ?_
  refine A_aload_n 1 dX9_takes_0 rfl rfl rfl ?_
  refine A_getfield 4 dX9_takes_1 rfl f_X9_10 O0 rfl ?_
  refine A_iload_n 5 dX9_takes_4 rfl rfl rfl ?_
  refine A_callVI 8 (S_X8_isPerson X l (by first | assumption | decide | omega | exact Ne.symm (by assumption))) dX9_takes_5 rfl kX8_isPerson lk_X9_119 rfl O1 (by decide) rfl (Nat.le_of_ble_eq_true rfl) (fun v_1 h_1 qh_1 => ?_)
  obtain ⟨rfl, rfl⟩ := qh_1
  refine A_if_eq 18 11 dX9_takes_8 (by decide) rfl (fun c8 => ?_) (fun c8 => ?_)
  · skip
    try simp only [bI_0, bI_n0, Classical.not_not, Bool.not_eq_false, Bool.true_and, Bool.and_true, decide_eq_true_eq, decide_eq_false_iff_not, dayC_1, dayC_21, dayC_221, dayC_222] at c8
    refine A_aload_n 19 dX9_takes_18 rfl rfl rfl ?_
    refine A_iconst 20 (-1) dX9_takes_19 rfl (by decide) ?_
    refine A_callVI 23 (S_X9_refuse X l (by first | assumption | decide | omega | exact Ne.symm (by assumption)) (by first | assumption | (unfold CD; decide))) dX9_takes_20 rfl kX9_refuse lk_X9_79 rfl O0 (by decide) rfl (Nat.le_of_ble_eq_true rfl) (fun v_2 h_2 qh_2 => ?_)
    obtain ⟨rfl, n0h_2, eh_2⟩ := qh_2
    replace O0 := n0h_2
    replace O1 := (eh_2 _ (by decide)).trans O1
    replace O3 := (eh_2 _ (by decide)).trans O3
    replace On := (eh_2 _ (by first | assumption | exact Ne.symm (by assumption) | omega)).trans On
    replace hf : ∀ i, i ≠ 0 → i ≠ 1 → i ≠ 3 → i ≠ (np + 4) → h_2 i = h i := fun i g0 g1 g2 g3 => (eh_2 i g0).trans (hf i g0 g1 g2 g3)
    have ew : wTake x p t = -1 := by
      first | (simp only [c8, if_true, if_false, ite_true, ite_false, and_true, true_and, and_false, false_and, and_self, or_true, true_or, or_false, false_or, or_self, not_true_eq_false, not_false_eq_true, decide_true, decide_false, Bool.and_true, Bool.true_and, Bool.and_false, Bool.false_and, Bool.and_self, Bool.or_true, Bool.true_or, Bool.or_false, Bool.false_or, Bool.not_true, Bool.not_false, cond_true, cond_false, bI_t, bI_f, Bool.false_eq_true, Bool.true_eq_false, dayC_1, dayC_21, dayC_221, dayC_222, wTake, pk, w01, wP, wPL, wP01, wL01, wRow, w01R, wAB, wNum, isP, isL]; done)
    refine A_iret dX9_takes_23 rfl ⟨_, rfl, (by rw [ew]; exact rV_n (by decide)), (by rw [ew]; first | (rw [rS_0]; exact O0) | exact O0), (by rw [ew]; simp only [ifW_0, ifW_1, ifW_2, ifW_3, ifW_4, ifW_6]; exact O1), (by rw [ew]; simp only [ifW_0, ifW_1, ifW_2, ifW_3, ifW_4, ifW_6]; exact O3), (by rw [ew]; simp only [ifW_0, ifW_1, ifW_2, ifW_3, ifW_4, ifW_6]; exact On), hf⟩
  · skip
    try simp only [bI_0, bI_n0, Classical.not_not, Bool.not_eq_false, Bool.true_and, Bool.and_true, decide_eq_true_eq, decide_eq_false_iff_not, dayC_1, dayC_21, dayC_221, dayC_222] at c8
    obtain ⟨k_p, rfl, hk_p⟩ := inN_ex c8 (by omega)
    have cl_p : (nI k_p).toNatClampNeg = k_p := nI_clamp (by omega)
    refine A_iload_n 12 dX9_takes_11 rfl rfl rfl ?_
    refine A_callSI 15 (S_X9_isThing X l) dX9_takes_12 rfl kX9_isThing lk_X9_125 rfl (by decide) rfl (Nat.le_of_ble_eq_true rfl) (fun v_3 h_3 qh_3 => ?_)
    obtain ⟨rfl, rfl⟩ := qh_3
    refine A_if_ne 24 18 dX9_takes_15 (by decide) rfl (fun c15 => ?_) (fun c15 => ?_)
    · skip
      try simp only [bI_0, bI_n0, Classical.not_not, Bool.not_eq_false, Bool.true_and, Bool.and_true, decide_eq_true_eq, decide_eq_false_iff_not, dayC_1, dayC_21, dayC_221, dayC_222] at c15
      refine A_aload_n 25 dX9_takes_24 rfl rfl rfl ?_
      refine A_getfield 28 dX9_takes_25 rfl f_X9_10 O0 rfl ?_
      refine A_iload_n 29 dX9_takes_28 rfl rfl rfl ?_
      refine A_callVI 32 (S_X8_pocketsOf X l (by first | assumption | decide | omega | exact Ne.symm (by assumption)) (by first | assumption | decide | omega | exact Ne.symm (by assumption))) dX9_takes_29 rfl kX8_pocketsOf lk_X9_122 rfl O1 (by decide) rfl (Nat.le_of_ble_eq_true rfl) (fun v_4 h_4 qh_4 => ?_)
      obtain ⟨rfl, rfl⟩ := qh_4
      refine A_iload_n 33 dX9_takes_32 rfl rfl rfl ?_
      refine A_callSI 36 (S_X9_hasThing X l) dX9_takes_33 rfl kX9_hasThing lk_X9_141 rfl (by decide) rfl (Nat.le_of_ble_eq_true rfl) (fun v_5 h_5 qh_5 => ?_)
      obtain ⟨rfl, rfl⟩ := qh_5
      refine A_if_ne 46 39 dX9_takes_36 (by decide) rfl (fun c36 => ?_) (fun c36 => ?_)
      · skip
        try simp only [bI_0, bI_n0, Classical.not_not, Bool.not_eq_false, Bool.true_and, Bool.and_true, decide_eq_true_eq, decide_eq_false_iff_not, dayC_1, dayC_21, dayC_221, dayC_222] at c36
        rw [c15, Bool.true_and] at c36
        refine A_aload_n 47 dX9_takes_46 rfl rfl rfl ?_
        refine A_getfield 50 dX9_takes_47 rfl f_X9_22 O0 rfl ?_
        refine A_aload_n 51 dX9_takes_50 rfl rfl rfl ?_
        refine A_getfield 54 dX9_takes_51 rfl f_X9_10 O0 rfl ?_
        refine A_callVV 57 (S_X5_keep X l (by first | assumption | decide | omega | exact Ne.symm (by assumption)) (by first | assumption | decide | omega | exact Ne.symm (by assumption)) (by first | assumption | decide | omega | exact Ne.symm (by assumption)) (by first | assumption | decide | omega | exact Ne.symm (by assumption)) (by first | assumption | decide | omega | exact Ne.symm (by assumption)) (by first | assumption | decide | omega | exact Ne.symm (by assumption)) (by first | assumption | decide | omega | exact Ne.symm (by assumption))) dX9_takes_54 rfl kX5_keep lk_X9_145 rfl O3 (by decide) rfl (Nat.le_of_ble_eq_true rfl) (fun h_6 qh_6 => ?_)
        obtain ⟨n0h_6, n1h_6, eh_6⟩ := qh_6
        replace O0 := (eh_6 _ (by first | assumption | exact Ne.symm (by assumption) | omega) (by decide)).trans O0
        replace O1 := (eh_6 _ (by first | assumption | exact Ne.symm (by assumption) | omega) (by decide)).trans O1
        replace O3 := n1h_6
        replace On := n0h_6
        replace hf : ∀ i, i ≠ 0 → i ≠ 1 → i ≠ 3 → i ≠ (np + 4) → h_6 i = h i := fun i g0 g1 g2 g3 => (eh_6 i g3 g2).trans (hf i g0 g1 g2 g3)
        refine A_aload_n 58 dX9_takes_57 rfl rfl rfl ?_
        refine A_getfield 61 dX9_takes_58 rfl f_X9_10 O0 rfl ?_
        refine A_iload_n 62 dX9_takes_61 rfl rfl rfl ?_
        refine A_iload_n 63 dX9_takes_62 rfl rfl rfl ?_
        refine A_callVI 66 (S_X8_takeOut X l (by first | assumption | decide | omega | exact Ne.symm (by assumption)) (by first | assumption | decide | omega | exact Ne.symm (by assumption))) dX9_takes_63 rfl kX8_takeOut lk_X9_148 rfl O1 (by decide) rfl (Nat.le_of_ble_eq_true rfl) (fun v_7 h_7 qh_7 => ?_)
        obtain ⟨rfl, n0h_7, eh_7⟩ := qh_7
        replace O0 := (eh_7 _ (by decide)).trans O0
        replace O1 := n0h_7
        replace O3 := (eh_7 _ (by decide)).trans O3
        replace On := (eh_7 _ (by first | assumption | exact Ne.symm (by assumption) | omega)).trans On
        replace hf : ∀ i, i ≠ 0 → i ≠ 1 → i ≠ 3 → i ≠ (np + 4) → h_7 i = h i := fun i g0 g1 g2 g3 => (eh_7 i g1).trans (hf i g0 g1 g2 g3)
        have ew : wTake x (nI k_p) t = 0 := by
          first | (simp only [c8, cl_p, c15, c36, if_true, if_false, ite_true, ite_false, and_true, true_and, and_false, false_and, and_self, or_true, true_or, or_false, false_or, or_self, not_true_eq_false, not_false_eq_true, decide_true, decide_false, Bool.and_true, Bool.true_and, Bool.and_false, Bool.false_and, Bool.and_self, Bool.or_true, Bool.true_or, Bool.or_false, Bool.false_or, Bool.not_true, Bool.not_false, cond_true, cond_false, bI_t, bI_f, Bool.false_eq_true, Bool.true_eq_false, dayC_1, dayC_21, dayC_221, dayC_222, wTake, pk, w01, wP, wPL, wP01, wL01, wRow, w01R, wAB, wNum, isP, isL]; done)
        refine A_iret dX9_takes_66 rfl ⟨_, rfl, (by rw [ew, rV_0]; first | (simp only [c8, cl_p, c15, c36, if_true, if_false, ite_true, ite_false, and_true, true_and, and_false, false_and, and_self, or_true, true_or, or_false, false_or, or_self, not_true_eq_false, not_false_eq_true, decide_true, decide_false, Bool.and_true, Bool.true_and, Bool.and_false, Bool.false_and, Bool.and_self, Bool.or_true, Bool.true_or, Bool.or_false, Bool.false_or, Bool.not_true, Bool.not_false, cond_true, cond_false, bI_t, bI_f, Bool.false_eq_true, Bool.true_eq_false, dayC_1, dayC_21, dayC_221, dayC_222, pk]; done) | (simp [pk, *]; done)), (by rw [ew]; first | (rw [rS_0]; exact O0) | exact O0), (by rw [ew, cl_p]; simp only [ifW_0, ifW_1, ifW_2, ifW_3, ifW_4, ifW_6]; exact O1), (by rw [ew]; simp only [ifW_0, ifW_1, ifW_2, ifW_3, ifW_4, ifW_6]; exact O3), (by rw [ew]; simp only [ifW_0, ifW_1, ifW_2, ifW_3, ifW_4, ifW_6]; exact On), hf⟩
      · skip
        try simp only [bI_0, bI_n0, Classical.not_not, Bool.not_eq_false, Bool.true_and, Bool.and_true, decide_eq_true_eq, decide_eq_false_iff_not, dayC_1, dayC_21, dayC_221, dayC_222] at c36
        rw [c15, Bool.true_and] at c36
        refine A_aload_n 40 dX9_takes_39 rfl rfl rfl ?_
        refine A_bipush 42 (-3) dX9_takes_40 rfl (by decide) ?_
        refine A_callVI 45 (S_X9_refuse X l (by first | assumption | decide | omega | exact Ne.symm (by assumption)) (by first | assumption | (unfold CD; decide))) dX9_takes_42 rfl kX9_refuse lk_X9_79 rfl O0 (by decide) rfl (Nat.le_of_ble_eq_true rfl) (fun v_8 h_8 qh_8 => ?_)
        obtain ⟨rfl, n0h_8, eh_8⟩ := qh_8
        replace O0 := n0h_8
        replace O1 := (eh_8 _ (by decide)).trans O1
        replace O3 := (eh_8 _ (by decide)).trans O3
        replace On := (eh_8 _ (by first | assumption | exact Ne.symm (by assumption) | omega)).trans On
        replace hf : ∀ i, i ≠ 0 → i ≠ 1 → i ≠ 3 → i ≠ (np + 4) → h_8 i = h i := fun i g0 g1 g2 g3 => (eh_8 i g0).trans (hf i g0 g1 g2 g3)
        have ew : wTake x (nI k_p) t = -3 := by
          first | (simp only [c8, cl_p, c15, c36, if_true, if_false, ite_true, ite_false, and_true, true_and, and_false, false_and, and_self, or_true, true_or, or_false, false_or, or_self, not_true_eq_false, not_false_eq_true, decide_true, decide_false, Bool.and_true, Bool.true_and, Bool.and_false, Bool.false_and, Bool.and_self, Bool.or_true, Bool.true_or, Bool.or_false, Bool.false_or, Bool.not_true, Bool.not_false, cond_true, cond_false, bI_t, bI_f, Bool.false_eq_true, Bool.true_eq_false, dayC_1, dayC_21, dayC_221, dayC_222, wTake, pk, w01, wP, wPL, wP01, wL01, wRow, w01R, wAB, wNum, isP, isL]; done)
        refine A_iret dX9_takes_45 rfl ⟨_, rfl, (by rw [ew]; exact rV_n (by decide)), (by rw [ew]; first | (rw [rS_0]; exact O0) | exact O0), (by rw [ew, cl_p]; simp only [ifW_0, ifW_1, ifW_2, ifW_3, ifW_4, ifW_6]; exact O1), (by rw [ew]; simp only [ifW_0, ifW_1, ifW_2, ifW_3, ifW_4, ifW_6]; exact O3), (by rw [ew]; simp only [ifW_0, ifW_1, ifW_2, ifW_3, ifW_4, ifW_6]; exact On), hf⟩
    · skip
      try simp only [bI_0, bI_n0, Classical.not_not, Bool.not_eq_false, Bool.true_and, Bool.and_true, decide_eq_true_eq, decide_eq_false_iff_not, dayC_1, dayC_21, dayC_221, dayC_222] at c15
      refine A_aload_n 19 dX9_takes_18 rfl rfl rfl ?_
      refine A_iconst 20 (-1) dX9_takes_19 rfl (by decide) ?_
      refine A_callVI 23 (S_X9_refuse X l (by first | assumption | decide | omega | exact Ne.symm (by assumption)) (by first | assumption | (unfold CD; decide))) dX9_takes_20 rfl kX9_refuse lk_X9_79 rfl O0 (by decide) rfl (Nat.le_of_ble_eq_true rfl) (fun v_9 h_9 qh_9 => ?_)
      obtain ⟨rfl, n0h_9, eh_9⟩ := qh_9
      replace O0 := n0h_9
      replace O1 := (eh_9 _ (by decide)).trans O1
      replace O3 := (eh_9 _ (by decide)).trans O3
      replace On := (eh_9 _ (by first | assumption | exact Ne.symm (by assumption) | omega)).trans On
      replace hf : ∀ i, i ≠ 0 → i ≠ 1 → i ≠ 3 → i ≠ (np + 4) → h_9 i = h i := fun i g0 g1 g2 g3 => (eh_9 i g0).trans (hf i g0 g1 g2 g3)
      have ew : wTake x (nI k_p) t = -1 := by
        first | (simp only [c8, cl_p, c15, if_true, if_false, ite_true, ite_false, and_true, true_and, and_false, false_and, and_self, or_true, true_or, or_false, false_or, or_self, not_true_eq_false, not_false_eq_true, decide_true, decide_false, Bool.and_true, Bool.true_and, Bool.and_false, Bool.false_and, Bool.and_self, Bool.or_true, Bool.true_or, Bool.or_false, Bool.false_or, Bool.not_true, Bool.not_false, cond_true, cond_false, bI_t, bI_f, Bool.false_eq_true, Bool.true_eq_false, dayC_1, dayC_21, dayC_221, dayC_222, wTake, pk, w01, wP, wPL, wP01, wL01, wRow, w01R, wAB, wNum, isP, isL]; done)
      refine A_iret dX9_takes_23 rfl ⟨_, rfl, (by rw [ew]; exact rV_n (by decide)), (by rw [ew]; first | (rw [rS_0]; exact O0) | exact O0), (by rw [ew, cl_p]; simp only [ifW_0, ifW_1, ifW_2, ifW_3, ifW_4, ifW_6]; exact O1), (by rw [ew]; simp only [ifW_0, ifW_1, ifW_2, ifW_3, ifW_4, ifW_6]; exact O3), (by rw [ew]; simp only [ifW_0, ifW_1, ifW_2, ifW_3, ifW_4, ifW_6]; exact On), hf⟩
set_option maxHeartbeats 4000000 in
set_option maxRecDepth 100000 in
theorem S_X9_brings (X : En) (l : Launch) {h : Hp} {x : PW} {g : Int32} {r : FI} (O0 : h 0 = some (maB g r)) (O1 : h 1 = some (wB 1 x)) (hW : WOK x) {np kp : Nat} (O3 : h 3 = some (paB np kp)) (hnp : np < 8) (hkp : kp ≤ 8) {x2 : PW} (On : h (np + 4) = some (wB (np + 4) x2)) {p t : Int32} : Ct X l mX9_brings [aR 0 0, aI p, aI t] h (QI (PI4 (rV (wBrg x p t) (pk x p ||| tbI t)) h (0) (maB g (rS (wBrg x p t) r)) (1) (wB 1 (ifW (wBrg x p t) (bringF x p.toNatClampNeg t) x)) (3) (paB (ifW (wBrg x p t) (nxP np) np) (ifW (wBrg x p t) (moP kp) kp)) ((np + 4)) (wB (np + 4) (ifW (wBrg x p t) x x2)))) := by
  have hx := hW.1
  have hp := hW.2.1
  have h10 := hx.1
  have hf : ∀ i, i ≠ 0 → i ≠ 1 → i ≠ 3 → i ≠ (np + 4) → h i = h i := fun _ _ _ _ _ => rfl
  refine Ct.intro [some (aR 0 0), some (aI p), some (aI t)] (by decide +kernel) rfl (Nat.le_of_ble_eq_true rfl) ?_
  refine A_aload_n 1 dX9_brings_0 rfl rfl rfl ?_
  refine A_getfield 4 dX9_brings_1 rfl f_X9_10 O0 rfl ?_
  refine A_iload_n 5 dX9_brings_4 rfl rfl rfl ?_
  refine A_callVI 8 (S_X8_isPerson X l (by first | assumption | decide | omega | exact Ne.symm (by assumption))) dX9_brings_5 rfl kX8_isPerson lk_X9_119 rfl O1 (by decide) rfl (Nat.le_of_ble_eq_true rfl) (fun v_1 h_1 qh_1 => ?_)
  obtain ⟨rfl, rfl⟩ := qh_1
  refine A_if_eq 18 11 dX9_brings_8 (by decide) rfl (fun c8 => ?_) (fun c8 => ?_)
  · skip
    try simp only [bI_0, bI_n0, Classical.not_not, Bool.not_eq_false, Bool.true_and, Bool.and_true, decide_eq_true_eq, decide_eq_false_iff_not, dayC_1, dayC_21, dayC_221, dayC_222] at c8
    refine A_aload_n 19 dX9_brings_18 rfl rfl rfl ?_
    refine A_iconst 20 (-1) dX9_brings_19 rfl (by decide) ?_
    refine A_callVI 23 (S_X9_refuse X l (by first | assumption | decide | omega | exact Ne.symm (by assumption)) (by first | assumption | (unfold CD; decide))) dX9_brings_20 rfl kX9_refuse lk_X9_79 rfl O0 (by decide) rfl (Nat.le_of_ble_eq_true rfl) (fun v_2 h_2 qh_2 => ?_)
    obtain ⟨rfl, n0h_2, eh_2⟩ := qh_2
    replace O0 := n0h_2
    replace O1 := (eh_2 _ (by decide)).trans O1
    replace O3 := (eh_2 _ (by decide)).trans O3
    replace On := (eh_2 _ (by first | assumption | exact Ne.symm (by assumption) | omega)).trans On
    replace hf : ∀ i, i ≠ 0 → i ≠ 1 → i ≠ 3 → i ≠ (np + 4) → h_2 i = h i := fun i g0 g1 g2 g3 => (eh_2 i g0).trans (hf i g0 g1 g2 g3)
    have ew : wBrg x p t = -1 := by
      first | (simp only [c8, if_true, if_false, ite_true, ite_false, and_true, true_and, and_false, false_and, and_self, or_true, true_or, or_false, false_or, or_self, not_true_eq_false, not_false_eq_true, decide_true, decide_false, Bool.and_true, Bool.true_and, Bool.and_false, Bool.false_and, Bool.and_self, Bool.or_true, Bool.true_or, Bool.or_false, Bool.false_or, Bool.not_true, Bool.not_false, cond_true, cond_false, bI_t, bI_f, Bool.false_eq_true, Bool.true_eq_false, dayC_1, dayC_21, dayC_221, dayC_222, wBrg, w01, wP, wPL, wP01, wL01, wRow, w01R, wAB, wNum, isP, isL]; done)
    refine A_iret dX9_brings_23 rfl ⟨_, rfl, (by rw [ew]; exact rV_n (by decide)), (by rw [ew]; first | (rw [rS_0]; exact O0) | exact O0), (by rw [ew]; simp only [ifW_0, ifW_1, ifW_2, ifW_3, ifW_4, ifW_6]; exact O1), (by rw [ew]; simp only [ifW_0, ifW_1, ifW_2, ifW_3, ifW_4, ifW_6]; exact O3), (by rw [ew]; simp only [ifW_0, ifW_1, ifW_2, ifW_3, ifW_4, ifW_6]; exact On), hf⟩
  · skip
    try simp only [bI_0, bI_n0, Classical.not_not, Bool.not_eq_false, Bool.true_and, Bool.and_true, decide_eq_true_eq, decide_eq_false_iff_not, dayC_1, dayC_21, dayC_221, dayC_222] at c8
    obtain ⟨k_p, rfl, hk_p⟩ := inN_ex c8 (by omega)
    have cl_p : (nI k_p).toNatClampNeg = k_p := nI_clamp (by omega)
    refine A_iload_n 12 dX9_brings_11 rfl rfl rfl ?_
    refine A_callSI 15 (S_X9_isThing X l) dX9_brings_12 rfl kX9_isThing lk_X9_125 rfl (by decide) rfl (Nat.le_of_ble_eq_true rfl) (fun v_3 h_3 qh_3 => ?_)
    obtain ⟨rfl, rfl⟩ := qh_3
    refine A_if_ne 24 18 dX9_brings_15 (by decide) rfl (fun c15 => ?_) (fun c15 => ?_)
    · skip
      try simp only [bI_0, bI_n0, Classical.not_not, Bool.not_eq_false, Bool.true_and, Bool.and_true, decide_eq_true_eq, decide_eq_false_iff_not, dayC_1, dayC_21, dayC_221, dayC_222] at c15
      refine A_aload_n 25 dX9_brings_24 rfl rfl rfl ?_
      refine A_getfield 28 dX9_brings_25 rfl f_X9_22 O0 rfl ?_
      refine A_aload_n 29 dX9_brings_28 rfl rfl rfl ?_
      refine A_getfield 32 dX9_brings_29 rfl f_X9_10 O0 rfl ?_
      refine A_callVV 35 (S_X5_keep X l (by first | assumption | decide | omega | exact Ne.symm (by assumption)) (by first | assumption | decide | omega | exact Ne.symm (by assumption)) (by first | assumption | decide | omega | exact Ne.symm (by assumption)) (by first | assumption | decide | omega | exact Ne.symm (by assumption)) (by first | assumption | decide | omega | exact Ne.symm (by assumption)) (by first | assumption | decide | omega | exact Ne.symm (by assumption)) (by first | assumption | decide | omega | exact Ne.symm (by assumption))) dX9_brings_32 rfl kX5_keep lk_X9_145 rfl O3 (by decide) rfl (Nat.le_of_ble_eq_true rfl) (fun h_4 qh_4 => ?_)
      obtain ⟨n0h_4, n1h_4, eh_4⟩ := qh_4
      replace O0 := (eh_4 _ (by first | assumption | exact Ne.symm (by assumption) | omega) (by decide)).trans O0
      replace O1 := (eh_4 _ (by first | assumption | exact Ne.symm (by assumption) | omega) (by decide)).trans O1
      replace O3 := n1h_4
      replace On := n0h_4
      replace hf : ∀ i, i ≠ 0 → i ≠ 1 → i ≠ 3 → i ≠ (np + 4) → h_4 i = h i := fun i g0 g1 g2 g3 => (eh_4 i g3 g2).trans (hf i g0 g1 g2 g3)
      refine A_aload_n 36 dX9_brings_35 rfl rfl rfl ?_
      refine A_getfield 39 dX9_brings_36 rfl f_X9_10 O0 rfl ?_
      refine A_iload_n 40 dX9_brings_39 rfl rfl rfl ?_
      refine A_iload_n 41 dX9_brings_40 rfl rfl rfl ?_
      refine A_callVI 44 (S_X8_bringIn X l (by first | assumption | decide | omega | exact Ne.symm (by assumption)) (by first | assumption | decide | omega | exact Ne.symm (by assumption))) dX9_brings_41 rfl kX8_bringIn lk_X9_151 rfl O1 (by decide) rfl (Nat.le_of_ble_eq_true rfl) (fun v_5 h_5 qh_5 => ?_)
      obtain ⟨rfl, n0h_5, eh_5⟩ := qh_5
      replace O0 := (eh_5 _ (by decide)).trans O0
      replace O1 := n0h_5
      replace O3 := (eh_5 _ (by decide)).trans O3
      replace On := (eh_5 _ (by first | assumption | exact Ne.symm (by assumption) | omega)).trans On
      replace hf : ∀ i, i ≠ 0 → i ≠ 1 → i ≠ 3 → i ≠ (np + 4) → h_5 i = h i := fun i g0 g1 g2 g3 => (eh_5 i g1).trans (hf i g0 g1 g2 g3)
      have ew : wBrg x (nI k_p) t = 0 := by
        first | (simp only [c8, cl_p, c15, if_true, if_false, ite_true, ite_false, and_true, true_and, and_false, false_and, and_self, or_true, true_or, or_false, false_or, or_self, not_true_eq_false, not_false_eq_true, decide_true, decide_false, Bool.and_true, Bool.true_and, Bool.and_false, Bool.false_and, Bool.and_self, Bool.or_true, Bool.true_or, Bool.or_false, Bool.false_or, Bool.not_true, Bool.not_false, cond_true, cond_false, bI_t, bI_f, Bool.false_eq_true, Bool.true_eq_false, dayC_1, dayC_21, dayC_221, dayC_222, wBrg, w01, wP, wPL, wP01, wL01, wRow, w01R, wAB, wNum, isP, isL]; done)
      refine A_iret dX9_brings_44 rfl ⟨_, rfl, (by rw [ew, rV_0]; first | (simp only [c8, cl_p, c15, if_true, if_false, ite_true, ite_false, and_true, true_and, and_false, false_and, and_self, or_true, true_or, or_false, false_or, or_self, not_true_eq_false, not_false_eq_true, decide_true, decide_false, Bool.and_true, Bool.true_and, Bool.and_false, Bool.false_and, Bool.and_self, Bool.or_true, Bool.true_or, Bool.or_false, Bool.false_or, Bool.not_true, Bool.not_false, cond_true, cond_false, bI_t, bI_f, Bool.false_eq_true, Bool.true_eq_false, dayC_1, dayC_21, dayC_221, dayC_222, pk]; done) | (simp [pk, *]; done)), (by rw [ew]; first | (rw [rS_0]; exact O0) | exact O0), (by rw [ew, cl_p]; simp only [ifW_0, ifW_1, ifW_2, ifW_3, ifW_4, ifW_6]; exact O1), (by rw [ew]; simp only [ifW_0, ifW_1, ifW_2, ifW_3, ifW_4, ifW_6]; exact O3), (by rw [ew]; simp only [ifW_0, ifW_1, ifW_2, ifW_3, ifW_4, ifW_6]; exact On), hf⟩
    · skip
      try simp only [bI_0, bI_n0, Classical.not_not, Bool.not_eq_false, Bool.true_and, Bool.and_true, decide_eq_true_eq, decide_eq_false_iff_not, dayC_1, dayC_21, dayC_221, dayC_222] at c15
      refine A_aload_n 19 dX9_brings_18 rfl rfl rfl ?_
      refine A_iconst 20 (-1) dX9_brings_19 rfl (by decide) ?_
      refine A_callVI 23 (S_X9_refuse X l (by first | assumption | decide | omega | exact Ne.symm (by assumption)) (by first | assumption | (unfold CD; decide))) dX9_brings_20 rfl kX9_refuse lk_X9_79 rfl O0 (by decide) rfl (Nat.le_of_ble_eq_true rfl) (fun v_6 h_6 qh_6 => ?_)
      obtain ⟨rfl, n0h_6, eh_6⟩ := qh_6
      replace O0 := n0h_6
      replace O1 := (eh_6 _ (by decide)).trans O1
      replace O3 := (eh_6 _ (by decide)).trans O3
      replace On := (eh_6 _ (by first | assumption | exact Ne.symm (by assumption) | omega)).trans On
      replace hf : ∀ i, i ≠ 0 → i ≠ 1 → i ≠ 3 → i ≠ (np + 4) → h_6 i = h i := fun i g0 g1 g2 g3 => (eh_6 i g0).trans (hf i g0 g1 g2 g3)
      have ew : wBrg x (nI k_p) t = -1 := by
        first | (simp only [c8, cl_p, c15, if_true, if_false, ite_true, ite_false, and_true, true_and, and_false, false_and, and_self, or_true, true_or, or_false, false_or, or_self, not_true_eq_false, not_false_eq_true, decide_true, decide_false, Bool.and_true, Bool.true_and, Bool.and_false, Bool.false_and, Bool.and_self, Bool.or_true, Bool.true_or, Bool.or_false, Bool.false_or, Bool.not_true, Bool.not_false, cond_true, cond_false, bI_t, bI_f, Bool.false_eq_true, Bool.true_eq_false, dayC_1, dayC_21, dayC_221, dayC_222, wBrg, w01, wP, wPL, wP01, wL01, wRow, w01R, wAB, wNum, isP, isL]; done)
      refine A_iret dX9_brings_23 rfl ⟨_, rfl, (by rw [ew]; exact rV_n (by decide)), (by rw [ew]; first | (rw [rS_0]; exact O0) | exact O0), (by rw [ew, cl_p]; simp only [ifW_0, ifW_1, ifW_2, ifW_3, ifW_4, ifW_6]; exact O1), (by rw [ew]; simp only [ifW_0, ifW_1, ifW_2, ifW_3, ifW_4, ifW_6]; exact O3), (by rw [ew]; simp only [ifW_0, ifW_1, ifW_2, ifW_3, ifW_4, ifW_6]; exact On), hf⟩
set_option maxHeartbeats 4000000 in
set_option maxRecDepth 100000 in
theorem S_X9_turn (X : En) (l : Launch) {h : Hp} {x : PW} {g : Int32} {r : FI} (O0 : h 0 = some (maB g r)) (O1 : h 1 = some (wB 1 x)) (hW : WOK x) {np kp : Nat} (O3 : h 3 = some (paB np kp)) (hnp : np < 8) (hkp : kp ≤ 8) {x2 : PW} (On : h (np + 4) = some (wB (np + 4) x2)) {l0 k f : Int32} : Ct X l mX9_turn [aR 0 0, aI l0, aI k, aI f] h (QI (PI4 (rV (wTurn x l0 k f) (aTurn x l0)) h (0) (maB g (rS (wTurn x l0 k f) r)) (1) (wB 1 (ifW (wTurn x l0 k f) (turnX x l0 k f) x)) (3) (paB (ifW (wTurn x l0 k f) (nxP np) np) (ifW (wTurn x l0 k f) (moP kp) kp)) ((np + 4)) (wB (np + 4) (ifW (wTurn x l0 k f) x x2)))) := by
  have hx := hW.1
  have hp := hW.2.1
  have h10 := hx.1
  have hf : ∀ i, i ≠ 0 → i ≠ 1 → i ≠ 3 → i ≠ (np + 4) → h i = h i := fun _ _ _ _ _ => rfl
  refine Ct.intro [some (aR 0 0), some (aI l0), some (aI k), some (aI f), none] (by decide +kernel) rfl (Nat.le_of_ble_eq_true rfl) ?_
  refine A_aload_n 1 dX9_turn_0 rfl rfl rfl ?_
  refine A_getfield 4 dX9_turn_1 rfl f_X9_10 O0 rfl ?_
  refine A_iload_n 5 dX9_turn_4 rfl rfl rfl ?_
  refine A_callVI 8 (S_X8_isLaw X l (by first | assumption | decide | omega | exact Ne.symm (by assumption))) dX9_turn_5 rfl kX8_isLaw lk_X9_111 rfl O1 (by decide) rfl (Nat.le_of_ble_eq_true rfl) (fun v_1 h_1 qh_1 => ?_)
  obtain ⟨rfl, rfl⟩ := qh_1
  refine A_if_ne 17 11 dX9_turn_8 (by decide) rfl (fun c8 => ?_) (fun c8 => ?_)
  · skip
    try simp only [bI_0, bI_n0, Classical.not_not, Bool.not_eq_false, Bool.true_and, Bool.and_true, decide_eq_true_eq, decide_eq_false_iff_not, dayC_1, dayC_21, dayC_221, dayC_222] at c8
    obtain ⟨k_l0, rfl, hk_l0⟩ := inN_ex c8 (by omega)
    have cl_l0 : (nI k_l0).toNatClampNeg = k_l0 := nI_clamp (by omega)
    refine A_iload_n 18 dX9_turn_17 rfl rfl rfl ?_
    refine A_if_lt 26 21 dX9_turn_18 (by decide) rfl (fun c18 => ?_) (fun c18 => ?_)
    · skip
      try simp only [bI_0, bI_n0, Classical.not_not, Bool.not_eq_false, Bool.true_and, Bool.and_true, decide_eq_true_eq, decide_eq_false_iff_not, dayC_1, dayC_21, dayC_221, dayC_222] at c18
      have n18 := Int32.not_le.mpr c18
      refine A_aload_n 27 dX9_turn_26 rfl rfl rfl ?_
      refine A_bipush 29 (-2) dX9_turn_27 rfl (by decide) ?_
      refine A_callVI 32 (S_X9_refuse X l (by first | assumption | decide | omega | exact Ne.symm (by assumption)) (by first | assumption | (unfold CD; decide))) dX9_turn_29 rfl kX9_refuse lk_X9_79 rfl O0 (by decide) rfl (Nat.le_of_ble_eq_true rfl) (fun v_2 h_2 qh_2 => ?_)
      obtain ⟨rfl, n0h_2, eh_2⟩ := qh_2
      replace O0 := n0h_2
      replace O1 := (eh_2 _ (by decide)).trans O1
      replace O3 := (eh_2 _ (by decide)).trans O3
      replace On := (eh_2 _ (by first | assumption | exact Ne.symm (by assumption) | omega)).trans On
      replace hf : ∀ i, i ≠ 0 → i ≠ 1 → i ≠ 3 → i ≠ (np + 4) → h_2 i = h i := fun i g0 g1 g2 g3 => (eh_2 i g0).trans (hf i g0 g1 g2 g3)
      have ew : wTurn x (nI k_l0) k f = -2 := by
        first | (simp only [c8, cl_l0, c18, n18, if_true, if_false, ite_true, ite_false, and_true, true_and, and_false, false_and, and_self, or_true, true_or, or_false, false_or, or_self, not_true_eq_false, not_false_eq_true, decide_true, decide_false, Bool.and_true, Bool.true_and, Bool.and_false, Bool.false_and, Bool.and_self, Bool.or_true, Bool.true_or, Bool.or_false, Bool.false_or, Bool.not_true, Bool.not_false, cond_true, cond_false, bI_t, bI_f, Bool.false_eq_true, Bool.true_eq_false, dayC_1, dayC_21, dayC_221, dayC_222, wTurn, w01, wP, wPL, wP01, wL01, wRow, w01R, wAB, wNum, isP, isL]; done)
      refine A_iret dX9_turn_32 rfl ⟨_, rfl, (by rw [ew]; exact rV_n (by decide)), (by rw [ew]; first | (rw [rS_0]; exact O0) | exact O0), (by rw [ew]; simp only [ifW_0, ifW_1, ifW_2, ifW_3, ifW_4, ifW_6]; first | exact O1 | (unfold turnX; rw [cl_l0]; exact O1)), (by rw [ew]; simp only [ifW_0, ifW_1, ifW_2, ifW_3, ifW_4, ifW_6]; exact O3), (by rw [ew]; simp only [ifW_0, ifW_1, ifW_2, ifW_3, ifW_4, ifW_6]; exact On), hf⟩
    · skip
      try simp only [bI_0, bI_n0, Classical.not_not, Bool.not_eq_false, Bool.true_and, Bool.and_true, decide_eq_true_eq, decide_eq_false_iff_not, dayC_1, dayC_21, dayC_221, dayC_222] at c18
      have n18 := Int32.not_lt.mp c18
      refine A_iload_n 22 dX9_turn_21 rfl rfl rfl ?_
      refine A_iconst 23 (5) dX9_turn_22 rfl (by decide) ?_
      refine A_icmp_le 33 26 dX9_turn_23 (by decide) rfl (fun c23 => ?_) (fun c23 => ?_)
      · skip
        try simp only [bI_0, bI_n0, Classical.not_not, Bool.not_eq_false, Bool.true_and, Bool.and_true, decide_eq_true_eq, decide_eq_false_iff_not, dayC_1, dayC_21, dayC_221, dayC_222] at c23
        have n23 := c23
        replace c23 := Int32.not_lt.mpr c23
        refine A_iload_n 34 dX9_turn_33 rfl rfl rfl ?_
        refine A_if_ge 44 37 dX9_turn_34 (by decide) rfl (fun c34 => ?_) (fun c34 => ?_)
        · skip
          try simp only [bI_0, bI_n0, Classical.not_not, Bool.not_eq_false, Bool.true_and, Bool.and_true, decide_eq_true_eq, decide_eq_false_iff_not, dayC_1, dayC_21, dayC_221, dayC_222] at c34
          have n34 := c34
          replace c34 := Int32.not_lt.mpr c34
          refine A_iload_n 45 dX9_turn_44 rfl rfl rfl ?_
          refine A_bipush 47 (9) dX9_turn_45 rfl (by decide) ?_
          refine A_icmp_le 57 50 dX9_turn_47 (by decide) rfl (fun c47 => ?_) (fun c47 => ?_)
          · skip
            try simp only [bI_0, bI_n0, Classical.not_not, Bool.not_eq_false, Bool.true_and, Bool.and_true, decide_eq_true_eq, decide_eq_false_iff_not, dayC_1, dayC_21, dayC_221, dayC_222] at c47
            have n47 := c47
            replace c47 := Int32.not_lt.mpr c47
            refine A_bipush 59 (10) dX9_turn_57 rfl (by decide) ?_
            refine A_aload_n 60 dX9_turn_59 rfl rfl rfl ?_
            refine A_getfield 63 dX9_turn_60 rfl f_X9_10 O0 rfl ?_
            refine A_iload_n 64 dX9_turn_63 rfl rfl rfl ?_
            refine A_iconst 65 (0) dX9_turn_64 rfl (by decide) ?_
            refine A_callVI 68 (S_X8_lawPart X l O1 (k := k_l0) (j := 0) (by omega) (by omega) rfl) dX9_turn_65 rfl kX8_lawPart lk_X9_115 rfl O1 (by decide) rfl (Nat.le_of_ble_eq_true rfl) (fun v_3 h_3 qh_3 => ?_)
            obtain ⟨rfl, rfl⟩ := qh_3
            refine A_imul 69 dX9_turn_68 rfl ?_
            refine A_aload_n 70 dX9_turn_69 rfl rfl rfl ?_
            refine A_getfield 73 dX9_turn_70 rfl f_X9_10 O0 rfl ?_
            refine A_iload_n 74 dX9_turn_73 rfl rfl rfl ?_
            refine A_iconst 75 (1) dX9_turn_74 rfl (by decide) ?_
            refine A_callVI 78 (S_X8_lawPart X l O1 (k := k_l0) (j := 1) (by omega) (by omega) rfl) dX9_turn_75 rfl kX8_lawPart lk_X9_115 rfl O1 (by decide) rfl (Nat.le_of_ble_eq_true rfl) (fun v_4 h_4 qh_4 => ?_)
            obtain ⟨rfl, rfl⟩ := qh_4
            refine A_iadd 79 dX9_turn_78 rfl ?_
            refine A_istore 81 dX9_turn_79 rfl (by decide) (by first | exact (ast_s (ast_s (ast_s (ast_1 rfl)))) | exact (ast_s (ast_s (ast_s ast_k)))) ?_
            refine A_aload_n 82 dX9_turn_81 rfl rfl rfl ?_
            refine A_getfield 85 dX9_turn_82 rfl f_X9_22 O0 rfl ?_
            refine A_aload_n 86 dX9_turn_85 rfl rfl rfl ?_
            refine A_getfield 89 dX9_turn_86 rfl f_X9_10 O0 rfl ?_
            refine A_callVV 92 (S_X5_keep X l (by first | assumption | decide | omega | exact Ne.symm (by assumption)) (by first | assumption | decide | omega | exact Ne.symm (by assumption)) (by first | assumption | decide | omega | exact Ne.symm (by assumption)) (by first | assumption | decide | omega | exact Ne.symm (by assumption)) (by first | assumption | decide | omega | exact Ne.symm (by assumption)) (by first | assumption | decide | omega | exact Ne.symm (by assumption)) (by first | assumption | decide | omega | exact Ne.symm (by assumption))) dX9_turn_89 rfl kX5_keep lk_X9_145 rfl O3 (by decide) rfl (Nat.le_of_ble_eq_true rfl) (fun h_5 qh_5 => ?_)
            obtain ⟨n0h_5, n1h_5, eh_5⟩ := qh_5
            replace O0 := (eh_5 _ (by first | assumption | exact Ne.symm (by assumption) | omega) (by decide)).trans O0
            replace O1 := (eh_5 _ (by first | assumption | exact Ne.symm (by assumption) | omega) (by decide)).trans O1
            replace O3 := n1h_5
            replace On := n0h_5
            replace hf : ∀ i, i ≠ 0 → i ≠ 1 → i ≠ 3 → i ≠ (np + 4) → h_5 i = h i := fun i g0 g1 g2 g3 => (eh_5 i g3 g2).trans (hf i g0 g1 g2 g3)
            refine A_aload_n 93 dX9_turn_92 rfl rfl rfl ?_
            refine A_getfield 96 dX9_turn_93 rfl f_X9_10 O0 rfl ?_
            refine A_iload_n 97 dX9_turn_96 rfl rfl rfl ?_
            refine A_iconst 98 (0) dX9_turn_97 rfl (by decide) ?_
            refine A_iload_n 99 dX9_turn_98 rfl rfl rfl ?_
            refine A_callVV 102 (S_X8_setLawPart X l O1 (k := k_l0) (j := 0) (by omega) (by omega) rfl) dX9_turn_99 rfl kX8_setLawPart lk_X9_154 rfl O1 (by decide) rfl (Nat.le_of_ble_eq_true rfl) (fun h_6 qh_6 => ?_)
            obtain ⟨n0h_6, eh_6⟩ := qh_6
            replace O0 := (eh_6 _ (by decide)).trans O0
            replace O1 := n0h_6
            replace O3 := (eh_6 _ (by decide)).trans O3
            replace On := (eh_6 _ (by first | assumption | exact Ne.symm (by assumption) | omega)).trans On
            replace hf : ∀ i, i ≠ 0 → i ≠ 1 → i ≠ 3 → i ≠ (np + 4) → h_6 i = h i := fun i g0 g1 g2 g3 => (eh_6 i g1).trans (hf i g0 g1 g2 g3)
            refine A_aload_n 103 dX9_turn_102 rfl rfl rfl ?_
            refine A_getfield 106 dX9_turn_103 rfl f_X9_10 O0 rfl ?_
            refine A_iload_n 107 dX9_turn_106 rfl rfl rfl ?_
            refine A_iconst 108 (1) dX9_turn_107 rfl (by decide) ?_
            refine A_iload_n 109 dX9_turn_108 rfl rfl rfl ?_
            refine A_callVV 112 (S_X8_setLawPart X l O1 (k := k_l0) (j := 1) (by omega) (by omega) rfl) dX9_turn_109 rfl kX8_setLawPart lk_X9_154 rfl O1 (by decide) rfl (Nat.le_of_ble_eq_true rfl) (fun h_7 qh_7 => ?_)
            obtain ⟨n0h_7, eh_7⟩ := qh_7
            replace O0 := (eh_7 _ (by decide)).trans O0
            replace O1 := n0h_7
            replace O3 := (eh_7 _ (by decide)).trans O3
            replace On := (eh_7 _ (by first | assumption | exact Ne.symm (by assumption) | omega)).trans On
            replace hf : ∀ i, i ≠ 0 → i ≠ 1 → i ≠ 3 → i ≠ (np + 4) → h_7 i = h i := fun i g0 g1 g2 g3 => (eh_7 i g1).trans (hf i g0 g1 g2 g3)
            refine A_iload 114 dX9_turn_112 rfl rfl ?_
            have ew : wTurn x (nI k_l0) k f = 0 := by
              first | (simp only [c8, cl_l0, c18, n18, c23, n23, c34, n34, c47, n47, if_true, if_false, ite_true, ite_false, and_true, true_and, and_false, false_and, and_self, or_true, true_or, or_false, false_or, or_self, not_true_eq_false, not_false_eq_true, decide_true, decide_false, Bool.and_true, Bool.true_and, Bool.and_false, Bool.false_and, Bool.and_self, Bool.or_true, Bool.true_or, Bool.or_false, Bool.false_or, Bool.not_true, Bool.not_false, cond_true, cond_false, bI_t, bI_f, Bool.false_eq_true, Bool.true_eq_false, dayC_1, dayC_21, dayC_221, dayC_222, wTurn, w01, wP, wPL, wP01, wL01, wRow, w01R, wAB, wNum, isP, isL]; done)
            refine A_iret dX9_turn_114 rfl ⟨_, rfl, (by rw [ew, rV_0]; unfold aTurn; rw [cl_l0]; rfl), (by rw [ew]; first | (rw [rS_0]; exact O0) | exact O0), (by rw [ew]; simp only [ifW_0, ifW_1, ifW_2, ifW_3, ifW_4, ifW_6]; first | exact O1 | (unfold turnX; rw [cl_l0]; exact O1)), (by rw [ew]; simp only [ifW_0, ifW_1, ifW_2, ifW_3, ifW_4, ifW_6]; exact O3), (by rw [ew]; simp only [ifW_0, ifW_1, ifW_2, ifW_3, ifW_4, ifW_6]; exact On), hf⟩
          · skip
            try simp only [bI_0, bI_n0, Classical.not_not, Bool.not_eq_false, Bool.true_and, Bool.and_true, decide_eq_true_eq, decide_eq_false_iff_not, dayC_1, dayC_21, dayC_221, dayC_222] at c47
            have n47 := c47
            replace c47 := Int32.not_le.mp c47
            refine A_aload_n 51 dX9_turn_50 rfl rfl rfl ?_
            refine A_bipush 53 (-6) dX9_turn_51 rfl (by decide) ?_
            refine A_callVI 56 (S_X9_refuse X l (by first | assumption | decide | omega | exact Ne.symm (by assumption)) (by first | assumption | (unfold CD; decide))) dX9_turn_53 rfl kX9_refuse lk_X9_79 rfl O0 (by decide) rfl (Nat.le_of_ble_eq_true rfl) (fun v_8 h_8 qh_8 => ?_)
            obtain ⟨rfl, n0h_8, eh_8⟩ := qh_8
            replace O0 := n0h_8
            replace O1 := (eh_8 _ (by decide)).trans O1
            replace O3 := (eh_8 _ (by decide)).trans O3
            replace On := (eh_8 _ (by first | assumption | exact Ne.symm (by assumption) | omega)).trans On
            replace hf : ∀ i, i ≠ 0 → i ≠ 1 → i ≠ 3 → i ≠ (np + 4) → h_8 i = h i := fun i g0 g1 g2 g3 => (eh_8 i g0).trans (hf i g0 g1 g2 g3)
            have ew : wTurn x (nI k_l0) k f = -6 := by
              first | (simp only [c8, cl_l0, c18, n18, c23, n23, c34, n34, c47, n47, if_true, if_false, ite_true, ite_false, and_true, true_and, and_false, false_and, and_self, or_true, true_or, or_false, false_or, or_self, not_true_eq_false, not_false_eq_true, decide_true, decide_false, Bool.and_true, Bool.true_and, Bool.and_false, Bool.false_and, Bool.and_self, Bool.or_true, Bool.true_or, Bool.or_false, Bool.false_or, Bool.not_true, Bool.not_false, cond_true, cond_false, bI_t, bI_f, Bool.false_eq_true, Bool.true_eq_false, dayC_1, dayC_21, dayC_221, dayC_222, wTurn, w01, wP, wPL, wP01, wL01, wRow, w01R, wAB, wNum, isP, isL]; done)
            refine A_iret dX9_turn_56 rfl ⟨_, rfl, (by rw [ew]; exact rV_n (by decide)), (by rw [ew]; first | (rw [rS_0]; exact O0) | exact O0), (by rw [ew]; simp only [ifW_0, ifW_1, ifW_2, ifW_3, ifW_4, ifW_6]; first | exact O1 | (unfold turnX; rw [cl_l0]; exact O1)), (by rw [ew]; simp only [ifW_0, ifW_1, ifW_2, ifW_3, ifW_4, ifW_6]; exact O3), (by rw [ew]; simp only [ifW_0, ifW_1, ifW_2, ifW_3, ifW_4, ifW_6]; exact On), hf⟩
        · skip
          try simp only [bI_0, bI_n0, Classical.not_not, Bool.not_eq_false, Bool.true_and, Bool.and_true, decide_eq_true_eq, decide_eq_false_iff_not, dayC_1, dayC_21, dayC_221, dayC_222] at c34
          have n34 := c34
          replace c34 := Int32.not_le.mp c34
          refine A_aload_n 38 dX9_turn_37 rfl rfl rfl ?_
          refine A_bipush 40 (-4) dX9_turn_38 rfl (by decide) ?_
          refine A_callVI 43 (S_X9_refuse X l (by first | assumption | decide | omega | exact Ne.symm (by assumption)) (by first | assumption | (unfold CD; decide))) dX9_turn_40 rfl kX9_refuse lk_X9_79 rfl O0 (by decide) rfl (Nat.le_of_ble_eq_true rfl) (fun v_9 h_9 qh_9 => ?_)
          obtain ⟨rfl, n0h_9, eh_9⟩ := qh_9
          replace O0 := n0h_9
          replace O1 := (eh_9 _ (by decide)).trans O1
          replace O3 := (eh_9 _ (by decide)).trans O3
          replace On := (eh_9 _ (by first | assumption | exact Ne.symm (by assumption) | omega)).trans On
          replace hf : ∀ i, i ≠ 0 → i ≠ 1 → i ≠ 3 → i ≠ (np + 4) → h_9 i = h i := fun i g0 g1 g2 g3 => (eh_9 i g0).trans (hf i g0 g1 g2 g3)
          have ew : wTurn x (nI k_l0) k f = -4 := by
            first | (simp only [c8, cl_l0, c18, n18, c23, n23, c34, n34, if_true, if_false, ite_true, ite_false, and_true, true_and, and_false, false_and, and_self, or_true, true_or, or_false, false_or, or_self, not_true_eq_false, not_false_eq_true, decide_true, decide_false, Bool.and_true, Bool.true_and, Bool.and_false, Bool.false_and, Bool.and_self, Bool.or_true, Bool.true_or, Bool.or_false, Bool.false_or, Bool.not_true, Bool.not_false, cond_true, cond_false, bI_t, bI_f, Bool.false_eq_true, Bool.true_eq_false, dayC_1, dayC_21, dayC_221, dayC_222, wTurn, w01, wP, wPL, wP01, wL01, wRow, w01R, wAB, wNum, isP, isL]; done)
          refine A_iret dX9_turn_43 rfl ⟨_, rfl, (by rw [ew]; exact rV_n (by decide)), (by rw [ew]; first | (rw [rS_0]; exact O0) | exact O0), (by rw [ew]; simp only [ifW_0, ifW_1, ifW_2, ifW_3, ifW_4, ifW_6]; first | exact O1 | (unfold turnX; rw [cl_l0]; exact O1)), (by rw [ew]; simp only [ifW_0, ifW_1, ifW_2, ifW_3, ifW_4, ifW_6]; exact O3), (by rw [ew]; simp only [ifW_0, ifW_1, ifW_2, ifW_3, ifW_4, ifW_6]; exact On), hf⟩
      · skip
        try simp only [bI_0, bI_n0, Classical.not_not, Bool.not_eq_false, Bool.true_and, Bool.and_true, decide_eq_true_eq, decide_eq_false_iff_not, dayC_1, dayC_21, dayC_221, dayC_222] at c23
        have n23 := c23
        replace c23 := Int32.not_le.mp c23
        refine A_aload_n 27 dX9_turn_26 rfl rfl rfl ?_
        refine A_bipush 29 (-2) dX9_turn_27 rfl (by decide) ?_
        refine A_callVI 32 (S_X9_refuse X l (by first | assumption | decide | omega | exact Ne.symm (by assumption)) (by first | assumption | (unfold CD; decide))) dX9_turn_29 rfl kX9_refuse lk_X9_79 rfl O0 (by decide) rfl (Nat.le_of_ble_eq_true rfl) (fun v_10 h_10 qh_10 => ?_)
        obtain ⟨rfl, n0h_10, eh_10⟩ := qh_10
        replace O0 := n0h_10
        replace O1 := (eh_10 _ (by decide)).trans O1
        replace O3 := (eh_10 _ (by decide)).trans O3
        replace On := (eh_10 _ (by first | assumption | exact Ne.symm (by assumption) | omega)).trans On
        replace hf : ∀ i, i ≠ 0 → i ≠ 1 → i ≠ 3 → i ≠ (np + 4) → h_10 i = h i := fun i g0 g1 g2 g3 => (eh_10 i g0).trans (hf i g0 g1 g2 g3)
        have ew : wTurn x (nI k_l0) k f = -2 := by
          first | (simp only [c8, cl_l0, c18, n18, c23, n23, if_true, if_false, ite_true, ite_false, and_true, true_and, and_false, false_and, and_self, or_true, true_or, or_false, false_or, or_self, not_true_eq_false, not_false_eq_true, decide_true, decide_false, Bool.and_true, Bool.true_and, Bool.and_false, Bool.false_and, Bool.and_self, Bool.or_true, Bool.true_or, Bool.or_false, Bool.false_or, Bool.not_true, Bool.not_false, cond_true, cond_false, bI_t, bI_f, Bool.false_eq_true, Bool.true_eq_false, dayC_1, dayC_21, dayC_221, dayC_222, wTurn, w01, wP, wPL, wP01, wL01, wRow, w01R, wAB, wNum, isP, isL]; done)
        refine A_iret dX9_turn_32 rfl ⟨_, rfl, (by rw [ew]; exact rV_n (by decide)), (by rw [ew]; first | (rw [rS_0]; exact O0) | exact O0), (by rw [ew]; simp only [ifW_0, ifW_1, ifW_2, ifW_3, ifW_4, ifW_6]; first | exact O1 | (unfold turnX; rw [cl_l0]; exact O1)), (by rw [ew]; simp only [ifW_0, ifW_1, ifW_2, ifW_3, ifW_4, ifW_6]; exact O3), (by rw [ew]; simp only [ifW_0, ifW_1, ifW_2, ifW_3, ifW_4, ifW_6]; exact On), hf⟩
  · skip
    try simp only [bI_0, bI_n0, Classical.not_not, Bool.not_eq_false, Bool.true_and, Bool.and_true, decide_eq_true_eq, decide_eq_false_iff_not, dayC_1, dayC_21, dayC_221, dayC_222] at c8
    refine A_aload_n 12 dX9_turn_11 rfl rfl rfl ?_
    refine A_iconst 13 (-1) dX9_turn_12 rfl (by decide) ?_
    refine A_callVI 16 (S_X9_refuse X l (by first | assumption | decide | omega | exact Ne.symm (by assumption)) (by first | assumption | (unfold CD; decide))) dX9_turn_13 rfl kX9_refuse lk_X9_79 rfl O0 (by decide) rfl (Nat.le_of_ble_eq_true rfl) (fun v_11 h_11 qh_11 => ?_)
    obtain ⟨rfl, n0h_11, eh_11⟩ := qh_11
    replace O0 := n0h_11
    replace O1 := (eh_11 _ (by decide)).trans O1
    replace O3 := (eh_11 _ (by decide)).trans O3
    replace On := (eh_11 _ (by first | assumption | exact Ne.symm (by assumption) | omega)).trans On
    replace hf : ∀ i, i ≠ 0 → i ≠ 1 → i ≠ 3 → i ≠ (np + 4) → h_11 i = h i := fun i g0 g1 g2 g3 => (eh_11 i g0).trans (hf i g0 g1 g2 g3)
    have ew : wTurn x l0 k f = -1 := by
      first | (simp only [c8, if_true, if_false, ite_true, ite_false, and_true, true_and, and_false, false_and, and_self, or_true, true_or, or_false, false_or, or_self, not_true_eq_false, not_false_eq_true, decide_true, decide_false, Bool.and_true, Bool.true_and, Bool.and_false, Bool.false_and, Bool.and_self, Bool.or_true, Bool.true_or, Bool.or_false, Bool.false_or, Bool.not_true, Bool.not_false, cond_true, cond_false, bI_t, bI_f, Bool.false_eq_true, Bool.true_eq_false, dayC_1, dayC_21, dayC_221, dayC_222, wTurn, w01, wP, wPL, wP01, wL01, wRow, w01R, wAB, wNum, isP, isL]; done)
    refine A_iret dX9_turn_16 rfl ⟨_, rfl, (by rw [ew]; exact rV_n (by decide)), (by rw [ew]; first | (rw [rS_0]; exact O0) | exact O0), (by rw [ew]; simp only [ifW_0, ifW_1, ifW_2, ifW_3, ifW_4, ifW_6]; first | exact O1 | (unfold turnX; rw [cl_l0]; exact O1)), (by rw [ew]; simp only [ifW_0, ifW_1, ifW_2, ifW_3, ifW_4, ifW_6]; exact O3), (by rw [ew]; simp only [ifW_0, ifW_1, ifW_2, ifW_3, ifW_4, ifW_6]; exact On), hf⟩
set_option maxHeartbeats 4000000 in
set_option maxRecDepth 100000 in
theorem S_X9_clears (X : En) (l : Launch) {h : Hp} {x : PW} {g : Int32} {r : FI} (O0 : h 0 = some (maB g r)) (O1 : h 1 = some (wB 1 x)) {np kp : Nat} (O3 : h 3 = some (paB np kp)) : Ct X l mX9_clears [aR 0 0] h (QI (PI2 (x.2.2.2.2.1) h (1) (wB 1 (clearF x)) (3) (paB np 0))) := by
  have hf : ∀ i, i ≠ 1 → i ≠ 3 → h i = h i := fun _ _ _ => rfl
  refine Ct.intro [some (aR 0 0)] (by decide +kernel) rfl (Nat.le_of_ble_eq_true rfl) ?_
  refine A_aload_n 1 dX9_clears_0 rfl rfl rfl ?_
  refine A_getfield 4 dX9_clears_1 rfl f_X9_22 O0 rfl ?_
  refine A_callVV 7 (S_X5_forget X l (by first | assumption | decide | omega | exact Ne.symm (by assumption))) dX9_clears_4 rfl kX5_forget lk_X9_105 rfl O3 (by decide) rfl (Nat.le_of_ble_eq_true rfl) (fun h_1 qh_1 => ?_)
  obtain ⟨n0h_1, eh_1⟩ := qh_1
  replace O0 := (eh_1 _ (by decide)).trans O0
  replace O1 := (eh_1 _ (by decide)).trans O1
  replace O3 := n0h_1
  replace hf : ∀ i, i ≠ 1 → i ≠ 3 → h_1 i = h i := fun i g0 g1 => (eh_1 i g1).trans (hf i g0 g1)
  refine A_aload_n 8 dX9_clears_7 rfl rfl rfl ?_
  refine A_getfield 11 dX9_clears_8 rfl f_X9_10 O0 rfl ?_
  refine A_callVI 14 (S_X8_emptyTray X l (by first | assumption | decide | omega | exact Ne.symm (by assumption))) dX9_clears_11 rfl kX8_emptyTray lk_X9_158 rfl O1 (by decide) rfl (Nat.le_of_ble_eq_true rfl) (fun v_2 h_2 qh_2 => ?_)
  obtain ⟨rfl, n0h_2, eh_2⟩ := qh_2
  replace O0 := (eh_2 _ (by decide)).trans O0
  replace O1 := n0h_2
  replace O3 := (eh_2 _ (by decide)).trans O3
  replace hf : ∀ i, i ≠ 1 → i ≠ 3 → h_2 i = h i := fun i g0 g1 => (eh_2 i g0).trans (hf i g0 g1)
  refine A_iret dX9_clears_14 rfl ⟨_, rfl, (by first | with_reducible rfl | (simp only [if_true, if_false, ite_true, ite_false, and_true, true_and, and_false, false_and, and_self, or_true, true_or, or_false, false_or, or_self, not_true_eq_false, not_false_eq_true, decide_true, decide_false, Bool.and_true, Bool.true_and, Bool.and_false, Bool.false_and, Bool.and_self, Bool.or_true, Bool.true_or, Bool.or_false, Bool.false_or, Bool.not_true, Bool.not_false, cond_true, cond_false, bI_t, bI_f, Bool.false_eq_true, Bool.true_eq_false, dayC_1, dayC_21, dayC_221, dayC_222]; done) | (simp only [*]; done) | (simp [bI, *]; done) | with_reducible_and_instances rfl), O1, O3, hf⟩
set_option maxHeartbeats 4000000 in
set_option maxRecDepth 100000 in
theorem S_X9_day (X : En) (l : Launch) {h : Hp} {x : PW} {g : Int32} {r : FI} (O0 : h 0 = some (maB g r)) (O1 : h 1 = some (wB 1 x)) (hW : WOK x) {np kp : Nat} (O3 : h 3 = some (paB np kp)) (hnp : np < 8) (hkp : kp ≤ 8) {x2 : PW} (On : h (np + 4) = some (wB (np + 4) x2)) {y16 : PC} (O16 : h 16 = some (cB 16 y16)) : Ct X l mX9_day [aR 0 0] h (QI (fun vr h2 => (rV (wDay x) ((passS x).2)) = vr ∧ ∃ (z16 : PC), h2 (0) = some (maB g (rS (wDay x) r)) ∧ h2 (1) = some (wB 1 (ifW (wDay x) (passX x) x)) ∧ h2 (3) = some (paB (ifW (wDay x) (nxP np) np) (ifW (wDay x) (moP kp) kp)) ∧ h2 ((np + 4)) = some (wB (np + 4) (ifW (wDay x) x x2)) ∧ h2 (16) = some (cB 16 z16) ∧ ∀ i, i ≠ 0 → i ≠ 1 → i ≠ 3 → i ≠ (np + 4) → i ≠ 16 → h2 i = h i)) := by
  have hx := hW.1
  have hp := hW.2.1
  have h10 := hx.1
  have hf : ∀ i, i ≠ 0 → i ≠ 1 → i ≠ 3 → i ≠ (np + 4) → i ≠ 16 → h i = h i := fun _ _ _ _ _ _ => rfl
  refine Ct.intro [some (aR 0 0)] (by decide +kernel) rfl (Nat.le_of_ble_eq_true rfl) ?_
  refine A_aload_n 1 dX9_day_0 rfl rfl rfl ?_
  refine A_getfield 4 dX9_day_1 rfl f_X9_10 O0 rfl ?_
  refine A_callVI 7 (S_X8_dayNumber X l (by first | assumption | decide | omega | exact Ne.symm (by assumption))) dX9_day_4 rfl kX8_dayNumber lk_X9_161 rfl O1 (by decide) rfl (Nat.le_of_ble_eq_true rfl) (fun v_1 h_1 qh_1 => ?_)
  obtain ⟨rfl, rfl⟩ := qh_1
  refine A_sipush 10 (999) dX9_day_7 rfl (by decide) ?_
  refine A_icmp_lt 20 13 dX9_day_10 (by decide) rfl (fun c10 => ?_) (fun c10 => ?_)
  · skip
    try simp only [bI_0, bI_n0, Classical.not_not, Bool.not_eq_false, Bool.true_and, Bool.and_true, decide_eq_true_eq, decide_eq_false_iff_not, dayC_1, dayC_21, dayC_221, dayC_222] at c10
    have n10 := Int32.not_le.mpr c10
    refine A_aload_n 21 dX9_day_20 rfl rfl rfl ?_
    refine A_getfield 24 dX9_day_21 rfl f_X9_22 O0 rfl ?_
    refine A_aload_n 25 dX9_day_24 rfl rfl rfl ?_
    refine A_getfield 28 dX9_day_25 rfl f_X9_10 O0 rfl ?_
    refine A_callVV 31 (S_X5_keep X l (by first | assumption | decide | omega | exact Ne.symm (by assumption)) (by first | assumption | decide | omega | exact Ne.symm (by assumption)) (by first | assumption | decide | omega | exact Ne.symm (by assumption)) (by first | assumption | decide | omega | exact Ne.symm (by assumption)) (by first | assumption | decide | omega | exact Ne.symm (by assumption)) (by first | assumption | decide | omega | exact Ne.symm (by assumption)) (by first | assumption | decide | omega | exact Ne.symm (by assumption))) dX9_day_28 rfl kX5_keep lk_X9_145 rfl O3 (by decide) rfl (Nat.le_of_ble_eq_true rfl) (fun h_2 qh_2 => ?_)
    obtain ⟨n0h_2, n1h_2, eh_2⟩ := qh_2
    replace O0 := (eh_2 _ (by first | assumption | exact Ne.symm (by assumption) | omega) (by decide)).trans O0
    replace O1 := (eh_2 _ (by first | assumption | exact Ne.symm (by assumption) | omega) (by decide)).trans O1
    replace O3 := n1h_2
    replace On := n0h_2
    replace O16 := (eh_2 _ (by first | assumption | exact Ne.symm (by assumption) | omega) (by decide)).trans O16
    replace hf : ∀ i, i ≠ 0 → i ≠ 1 → i ≠ 3 → i ≠ (np + 4) → i ≠ 16 → h_2 i = h i := fun i g0 g1 g2 g3 g4 => (eh_2 i g3 g2).trans (hf i g0 g1 g2 g3 g4)
    refine A_aload_n 32 dX9_day_31 rfl rfl rfl ?_
    refine A_getfield 35 dX9_day_32 rfl f_X9_10 O0 rfl ?_
    refine A_aload_n 36 dX9_day_35 rfl rfl rfl ?_
    refine A_getfield 39 dX9_day_36 rfl f_X9_47 O0 rfl ?_
    refine A_callVI 42 (S_X8_passDay X l (by first | assumption | decide | omega | exact Ne.symm (by assumption)) (by first | assumption | decide | omega | exact Ne.symm (by assumption)) (by first | assumption | decide | omega | exact Ne.symm (by assumption)) (by first | assumption | decide | omega | exact Ne.symm (by assumption)) (by first | assumption | decide | omega | exact Ne.symm (by assumption))) dX9_day_39 rfl kX8_passDay lk_X9_164 rfl O1 (by decide) rfl (Nat.le_of_ble_eq_true rfl) (fun v_3 h_3 qh_3 => ?_)
    obtain ⟨rfl, y1_3, n0h_3, n1h_3, eh_3⟩ := qh_3
    replace O0 := (eh_3 _ (by decide) (by decide)).trans O0
    replace O1 := n0h_3
    replace O3 := (eh_3 _ (by decide) (by decide)).trans O3
    replace On := (eh_3 _ (by first | assumption | exact Ne.symm (by assumption) | omega) (by first | assumption | exact Ne.symm (by assumption) | omega)).trans On
    replace O16 := n1h_3
    replace hf : ∀ i, i ≠ 0 → i ≠ 1 → i ≠ 3 → i ≠ (np + 4) → i ≠ 16 → h_3 i = h i := fun i g0 g1 g2 g3 g4 => (eh_3 i g1 g4).trans (hf i g0 g1 g2 g3 g4)
    have ew : wDay x = 0 := by
      first | (simp only [c10, n10, if_true, if_false, ite_true, ite_false, and_true, true_and, and_false, false_and, and_self, or_true, true_or, or_false, false_or, or_self, not_true_eq_false, not_false_eq_true, decide_true, decide_false, Bool.and_true, Bool.true_and, Bool.and_false, Bool.false_and, Bool.and_self, Bool.or_true, Bool.true_or, Bool.or_false, Bool.false_or, Bool.not_true, Bool.not_false, cond_true, cond_false, bI_t, bI_f, Bool.false_eq_true, Bool.true_eq_false, dayC_1, dayC_21, dayC_221, dayC_222, wDay, w01, wP, wPL, wP01, wL01, wRow, w01R, wAB, wNum, isP, isL]; done)
    refine A_iret dX9_day_42 rfl ⟨_, rfl, (by rw [ew, rV_0]; skip), _, (by rw [ew]; first | (rw [rS_0]; exact O0) | exact O0), (by rw [ew]; simp only [ifW_0, ifW_1, ifW_2, ifW_3, ifW_4, ifW_6]; exact O1), (by rw [ew]; simp only [ifW_0, ifW_1, ifW_2, ifW_3, ifW_4, ifW_6]; exact O3), (by rw [ew]; simp only [ifW_0, ifW_1, ifW_2, ifW_3, ifW_4, ifW_6]; exact On), O16, hf⟩
  · skip
    try simp only [bI_0, bI_n0, Classical.not_not, Bool.not_eq_false, Bool.true_and, Bool.and_true, decide_eq_true_eq, decide_eq_false_iff_not, dayC_1, dayC_21, dayC_221, dayC_222] at c10
    have n10 := Int32.not_lt.mp c10
    refine A_aload_n 14 dX9_day_13 rfl rfl rfl ?_
    refine A_bipush 16 (-6) dX9_day_14 rfl (by decide) ?_
    refine A_callVI 19 (S_X9_refuse X l (by first | assumption | decide | omega | exact Ne.symm (by assumption)) (by first | assumption | (unfold CD; decide))) dX9_day_16 rfl kX9_refuse lk_X9_79 rfl O0 (by decide) rfl (Nat.le_of_ble_eq_true rfl) (fun v_4 h_4 qh_4 => ?_)
    obtain ⟨rfl, n0h_4, eh_4⟩ := qh_4
    replace O0 := n0h_4
    replace O1 := (eh_4 _ (by decide)).trans O1
    replace O3 := (eh_4 _ (by decide)).trans O3
    replace On := (eh_4 _ (by first | assumption | exact Ne.symm (by assumption) | omega)).trans On
    replace O16 := (eh_4 _ (by decide)).trans O16
    replace hf : ∀ i, i ≠ 0 → i ≠ 1 → i ≠ 3 → i ≠ (np + 4) → i ≠ 16 → h_4 i = h i := fun i g0 g1 g2 g3 g4 => (eh_4 i g0).trans (hf i g0 g1 g2 g3 g4)
    have ew : wDay x = -6 := by
      first | (simp only [c10, n10, if_true, if_false, ite_true, ite_false, and_true, true_and, and_false, false_and, and_self, or_true, true_or, or_false, false_or, or_self, not_true_eq_false, not_false_eq_true, decide_true, decide_false, Bool.and_true, Bool.true_and, Bool.and_false, Bool.false_and, Bool.and_self, Bool.or_true, Bool.true_or, Bool.or_false, Bool.false_or, Bool.not_true, Bool.not_false, cond_true, cond_false, bI_t, bI_f, Bool.false_eq_true, Bool.true_eq_false, dayC_1, dayC_21, dayC_221, dayC_222, wDay, w01, wP, wPL, wP01, wL01, wRow, w01R, wAB, wNum, isP, isL]; done)
    refine A_iret dX9_day_19 rfl ⟨_, rfl, (by rw [ew]; exact rV_n (by decide)), _, (by rw [ew]; first | (rw [rS_0]; exact O0) | exact O0), (by rw [ew]; simp only [ifW_0, ifW_1, ifW_2, ifW_3, ifW_4, ifW_6]; exact O1), (by rw [ew]; simp only [ifW_0, ifW_1, ifW_2, ifW_3, ifW_4, ifW_6]; exact O3), (by rw [ew]; simp only [ifW_0, ifW_1, ifW_2, ifW_3, ifW_4, ifW_6]; exact On), O16, hf⟩
set_option maxHeartbeats 4000000 in
set_option maxRecDepth 100000 in
theorem S_X9_back_0 (X : En) (l : Launch) {h : Hp} {x : PW} {g : Int32} {r : FI} (O0 : h 0 = some (maB g r)) (O1 : h 1 = some (wB 1 x)) {np : Nat} (O3 : h 3 = some (paB np 0)) : Ct X l mX9_back [aR 0 0] h (QI (PI1 (-3) h (0) (maB g (rS (-3) r)))) := by
  have hf : ∀ i, i ≠ 0 → h i = h i := fun _ _ => rfl
  refine Ct.intro [some (aR 0 0)] (by decide +kernel) rfl (Nat.le_of_ble_eq_true rfl) ?_
  refine A_aload_n 1 dX9_back_0 rfl rfl rfl ?_
  refine A_getfield 4 dX9_back_1 rfl f_X9_22 O0 rfl ?_
  refine A_callVI 7 (S_X5_size X l (by first | assumption | decide | omega | exact Ne.symm (by assumption))) dX9_back_4 rfl kX5_size lk_X9_168 rfl O3 (by decide) rfl (Nat.le_of_ble_eq_true rfl) (fun v_1 h_1 qh_1 => ?_)
  obtain ⟨rfl, rfl⟩ := qh_1
  refine A_if_ne 17 10 dX9_back_7 (by decide) rfl (fun c7 => ?_) (fun c7 => ?_)
  · skip
    exact absurd rfl c7
  · skip
    try simp only [bI_0, bI_n0, Classical.not_not, Bool.not_eq_false, Bool.true_and, Bool.and_true, decide_eq_true_eq, decide_eq_false_iff_not, dayC_1, dayC_21, dayC_221, dayC_222] at c7
    refine A_aload_n 11 dX9_back_10 rfl rfl rfl ?_
    refine A_bipush 13 (-3) dX9_back_11 rfl (by decide) ?_
    refine A_callVI 16 (S_X9_refuse X l (by first | assumption | decide | omega | exact Ne.symm (by assumption)) (by first | assumption | (unfold CD; decide))) dX9_back_13 rfl kX9_refuse lk_X9_79 rfl O0 (by decide) rfl (Nat.le_of_ble_eq_true rfl) (fun v_2 h_2 qh_2 => ?_)
    obtain ⟨rfl, n0h_2, eh_2⟩ := qh_2
    replace O0 := n0h_2
    replace O1 := (eh_2 _ (by decide)).trans O1
    replace O3 := (eh_2 _ (by decide)).trans O3
    replace hf : ∀ i, i ≠ 0 → h_2 i = h i := fun i g0 => (eh_2 i g0).trans (hf i g0)
    refine A_iret dX9_back_16 rfl ⟨_, rfl, (by first | with_reducible rfl | (simp only [c7, if_true, if_false, ite_true, ite_false, and_true, true_and, and_false, false_and, and_self, or_true, true_or, or_false, false_or, or_self, not_true_eq_false, not_false_eq_true, decide_true, decide_false, Bool.and_true, Bool.true_and, Bool.and_false, Bool.false_and, Bool.and_self, Bool.or_true, Bool.true_or, Bool.or_false, Bool.false_or, Bool.not_true, Bool.not_false, cond_true, cond_false, bI_t, bI_f, Bool.false_eq_true, Bool.true_eq_false, dayC_1, dayC_21, dayC_221, dayC_222]; done) | (simp only [eq_true c7, if_true, if_false, ite_true, ite_false, and_true, true_and, and_false, false_and, and_self, or_true, true_or, or_false, false_or, or_self, not_true_eq_false, not_false_eq_true, decide_true, decide_false, Bool.and_true, Bool.true_and, Bool.and_false, Bool.false_and, Bool.and_self, Bool.or_true, Bool.true_or, Bool.or_false, Bool.false_or, Bool.not_true, Bool.not_false, cond_true, cond_false, bI_t, bI_f, Bool.false_eq_true, Bool.true_eq_false, dayC_1, dayC_21, dayC_221, dayC_222]; done) | (simp only [*]; done) | (simp [bI, *]; done) | with_reducible_and_instances rfl), O0, hf⟩
set_option maxHeartbeats 4000000 in
set_option maxRecDepth 100000 in
theorem S_X9_back_s (X : En) (l : Launch) {h : Hp} {x : PW} {g : Int32} {r : FI} (O0 : h 0 = some (maB g r)) (O1 : h 1 = some (wB 1 x)) {m kp : Nat} (O3 : h 3 = some (paB (nxP m) (kp + 1))) (hm : m < 8) (hkp : kp < 8) {x2 : PW} (On : h (m + 4) = some (wB (m + 4) x2)) : Ct X l mX9_back [aR 0 0] h (QI (PI2 (nI kp) h (1) (wB 1 x2) (3) (paB m kp))) := by
  have hf : ∀ i, i ≠ 1 → i ≠ 3 → h i = h i := fun _ _ _ => rfl
  refine Ct.intro [some (aR 0 0)] (by decide +kernel) rfl (Nat.le_of_ble_eq_true rfl) ?_
  refine A_aload_n 1 dX9_back_0 rfl rfl rfl ?_
  refine A_getfield 4 dX9_back_1 rfl f_X9_22 O0 rfl ?_
  refine A_callVI 7 (S_X5_size X l (by first | assumption | decide | omega | exact Ne.symm (by assumption))) dX9_back_4 rfl kX5_size lk_X9_168 rfl O3 (by decide) rfl (Nat.le_of_ble_eq_true rfl) (fun v_1 h_1 qh_1 => ?_)
  obtain ⟨rfl, rfl⟩ := qh_1
  refine A_if_ne 17 10 dX9_back_7 (by decide) rfl (fun c7 => ?_) (fun c7 => ?_)
  · skip
    try simp only [bI_0, bI_n0, Classical.not_not, Bool.not_eq_false, Bool.true_and, Bool.and_true, decide_eq_true_eq, decide_eq_false_iff_not, dayC_1, dayC_21, dayC_221, dayC_222] at c7
    refine A_aload_n 18 dX9_back_17 rfl rfl rfl ?_
    refine A_getfield 21 dX9_back_18 rfl f_X9_22 O0 rfl ?_
    refine A_aload_n 22 dX9_back_21 rfl rfl rfl ?_
    refine A_getfield 25 dX9_back_22 rfl f_X9_10 O0 rfl ?_
    refine A_callVI 28 (S_X5_undo X l (m := m) (k := kp) (by assumption) O3 (by assumption) O1 On (by decide) (by omega)) dX9_back_25 rfl kX5_undo lk_X9_171 rfl O3 (by decide) rfl (Nat.le_of_ble_eq_true rfl) (fun v_2 h_2 qh_2 => ?_)
    obtain ⟨rfl, n0h_2, n1h_2, eh_2⟩ := qh_2
    replace O0 := (eh_2 _ (by decide) (by decide)).trans O0
    replace O1 := n0h_2
    replace O3 := n1h_2
    replace On := (eh_2 _ (by first | assumption | exact Ne.symm (by assumption) | omega) (by first | assumption | exact Ne.symm (by assumption) | omega)).trans On
    replace hf : ∀ i, i ≠ 1 → i ≠ 3 → h_2 i = h i := fun i g0 g1 => (eh_2 i g0 g1).trans (hf i g0 g1)
    refine A_iret dX9_back_28 rfl ⟨_, rfl, (by first | with_reducible rfl | (simp only [c7, if_true, if_false, ite_true, ite_false, and_true, true_and, and_false, false_and, and_self, or_true, true_or, or_false, false_or, or_self, not_true_eq_false, not_false_eq_true, decide_true, decide_false, Bool.and_true, Bool.true_and, Bool.and_false, Bool.false_and, Bool.and_self, Bool.or_true, Bool.true_or, Bool.or_false, Bool.false_or, Bool.not_true, Bool.not_false, cond_true, cond_false, bI_t, bI_f, Bool.false_eq_true, Bool.true_eq_false, dayC_1, dayC_21, dayC_221, dayC_222]; done) | (simp only [*]; done) | (simp [bI, *]; done) | with_reducible_and_instances rfl), O1, O3, hf⟩
  · skip
    exact absurd c7 (nI_ne0 (by omega) (by omega))
set_option maxHeartbeats 4000000 in
set_option maxRecDepth 100000 in
theorem S_X9_empty (X : En) (l : Launch) {h : Hp} {x : PW} {g : Int32} {r : FI} (O0 : h 0 = some (maB g r)) (O1 : h 1 = some (wB 1 x)) (hW : WOK x)  {y16 : PC} (O16 : h 16 = some (cB 16 y16)) {y20 : PC} (O19 : h 19 = some (seB)) (O20 : h 20 = some (cB 20 y20)) {v : Int32} : Ct X l mX9_empty [aR 0 0, aI v] h (QI (fun vr h2 => (rV (wEmp v) (aEmp x v)) = vr ∧ ∃ (z16 : PC) (z20 : PC), h2 (0) = some (maB g (rS (wEmp v) r)) ∧ h2 (16) = some (cB 16 z16) ∧ h2 (20) = some (cB 20 z20) ∧ ∀ i, i ≠ 0 → i ≠ 16 → i ≠ 20 → h2 i = h i)) := by
  have hx := hW.1
  have hp := hW.2.1
  have h10 := hx.1
  have hf : ∀ i, i ≠ 0 → i ≠ 16 → i ≠ 20 → h i = h i := fun _ _ _ _ => rfl
  refine Ct.intro [some (aR 0 0), some (aI v), none] (by decide +kernel) rfl (Nat.le_of_ble_eq_true rfl) ?_
  refine A_iload_n 1 dX9_empty_0 rfl rfl rfl ?_
  refine A_if_lt 9 4 dX9_empty_1 (by decide) rfl (fun c1 => ?_) (fun c1 => ?_)
  · skip
    try simp only [bI_0, bI_n0, Classical.not_not, Bool.not_eq_false, Bool.true_and, Bool.and_true, decide_eq_true_eq, decide_eq_false_iff_not, dayC_1, dayC_21, dayC_221, dayC_222] at c1
    have n1 := Int32.not_le.mpr c1
    refine A_aload_n 10 dX9_empty_9 rfl rfl rfl ?_
    refine A_bipush 12 (-2) dX9_empty_10 rfl (by decide) ?_
    refine A_callVI 15 (S_X9_refuse X l (by first | assumption | decide | omega | exact Ne.symm (by assumption)) (by first | assumption | (unfold CD; decide))) dX9_empty_12 rfl kX9_refuse lk_X9_79 rfl O0 (by decide) rfl (Nat.le_of_ble_eq_true rfl) (fun v_1 h_1 qh_1 => ?_)
    obtain ⟨rfl, n0h_1, eh_1⟩ := qh_1
    replace O0 := n0h_1
    replace O1 := (eh_1 _ (by decide)).trans O1
    replace O16 := (eh_1 _ (by decide)).trans O16
    replace O19 := (eh_1 _ (by decide)).trans O19
    replace O20 := (eh_1 _ (by decide)).trans O20
    replace hf : ∀ i, i ≠ 0 → i ≠ 16 → i ≠ 20 → h_1 i = h i := fun i g0 g1 g2 => (eh_1 i g0).trans (hf i g0 g1 g2)
    have ew : wEmp v = -2 := by
      first | (simp only [c1, n1, if_true, if_false, ite_true, ite_false, and_true, true_and, and_false, false_and, and_self, or_true, true_or, or_false, false_or, or_self, not_true_eq_false, not_false_eq_true, decide_true, decide_false, Bool.and_true, Bool.true_and, Bool.and_false, Bool.false_and, Bool.and_self, Bool.or_true, Bool.true_or, Bool.or_false, Bool.false_or, Bool.not_true, Bool.not_false, cond_true, cond_false, bI_t, bI_f, Bool.false_eq_true, Bool.true_eq_false, dayC_1, dayC_21, dayC_221, dayC_222, wEmp, w01, wP, wPL, wP01, wL01, wRow, w01R, wAB, wNum, isP, isL]; done)
    refine A_iret dX9_empty_15 rfl ⟨_, rfl, (by rw [ew]; exact rV_n (by decide)), _, _, (by rw [ew]; first | (rw [rS_0]; exact O0) | exact O0), O16, O20, hf⟩
  · skip
    try simp only [bI_0, bI_n0, Classical.not_not, Bool.not_eq_false, Bool.true_and, Bool.and_true, decide_eq_true_eq, decide_eq_false_iff_not, dayC_1, dayC_21, dayC_221, dayC_222] at c1
    have n1 := Int32.not_lt.mp c1
    refine A_iload_n 5 dX9_empty_4 rfl rfl rfl ?_
    refine A_iconst 6 (2) dX9_empty_5 rfl (by decide) ?_
    refine A_icmp_le 16 9 dX9_empty_6 (by decide) rfl (fun c6 => ?_) (fun c6 => ?_)
    · skip
      try simp only [bI_0, bI_n0, Classical.not_not, Bool.not_eq_false, Bool.true_and, Bool.and_true, decide_eq_true_eq, decide_eq_false_iff_not, dayC_1, dayC_21, dayC_221, dayC_222] at c6
      have n6 := c6
      replace c6 := Int32.not_lt.mpr c6
      refine A_iload_n 17 dX9_empty_16 rfl rfl rfl ?_
      refine A_if_ne 34 20 dX9_empty_17 (by decide) rfl (fun c17 => ?_) (fun c17 => ?_)
      · skip
        try simp only [bI_0, bI_n0, Classical.not_not, Bool.not_eq_false, Bool.true_and, Bool.and_true, decide_eq_true_eq, decide_eq_false_iff_not, dayC_1, dayC_21, dayC_221, dayC_222] at c17
        refine A_aload_n 35 dX9_empty_34 rfl rfl rfl ?_
        refine A_getfield 38 dX9_empty_35 rfl f_X9_61 O0 rfl ?_
        refine A_aload_n 39 dX9_empty_38 rfl rfl rfl ?_
        refine A_getfield 42 dX9_empty_39 rfl f_X9_10 O0 rfl ?_
        refine A_callVI 45 (S_X6_busiestPockets X l (by first | assumption | decide | omega | exact Ne.symm (by assumption)) (by first | assumption | decide | omega | exact Ne.symm (by assumption)) (by first | assumption | decide | omega | exact Ne.symm (by assumption)) (by first | assumption | decide | omega | exact Ne.symm (by assumption))) dX9_empty_42 rfl kX6_busiestPockets lk_X9_217 rfl O19 (by decide) rfl (Nat.le_of_ble_eq_true rfl) (fun v_2 h_2 qh_2 => ?_)
        obtain ⟨rfl, y1_2, n0h_2, eh_2⟩ := qh_2
        replace O0 := (eh_2 _ (by decide)).trans O0
        replace O1 := (eh_2 _ (by decide)).trans O1
        replace O16 := (eh_2 _ (by decide)).trans O16
        replace O19 := (eh_2 _ (by decide)).trans O19
        replace O20 := n0h_2
        replace hf : ∀ i, i ≠ 0 → i ≠ 16 → i ≠ 20 → h_2 i = h i := fun i g0 g1 g2 => (eh_2 i g2).trans (hf i g0 g1 g2)
        refine A_istore_n 46 dX9_empty_45 rfl rfl (by decide) (by first | exact (ast_s (ast_1 rfl)) | exact (ast_s ast_k)) ?_
        refine A_iload_n 47 dX9_empty_46 rfl rfl rfl ?_
        refine A_iconst 48 (1) dX9_empty_47 rfl (by decide) ?_
        refine A_icmp_ne 55 51 dX9_empty_48 (by decide) rfl (fun c48 => ?_) (fun c48 => ?_)
        · skip
          try simp only [bI_0, bI_n0, Classical.not_not, Bool.not_eq_false, Bool.true_and, Bool.and_true, decide_eq_true_eq, decide_eq_false_iff_not, dayC_1, dayC_21, dayC_221, dayC_222] at c48
          refine A_aload_n 56 dX9_empty_55 rfl rfl rfl ?_
          refine A_getfield 59 dX9_empty_56 rfl f_X9_47 O0 rfl ?_
          refine A_aload_n 60 dX9_empty_59 rfl rfl rfl ?_
          refine A_getfield 63 dX9_empty_60 rfl f_X9_10 O0 rfl ?_
          refine A_iload_n 64 dX9_empty_63 rfl rfl rfl ?_
          refine A_callVI 67 (S_X1_countDone X l (by first | assumption | decide | omega | exact Ne.symm (by assumption)) (by first | assumption | decide | omega | exact Ne.symm (by assumption)) (by first | assumption | decide | omega | exact Ne.symm (by assumption)) (by first | assumption | decide | omega | exact Ne.symm (by assumption))) dX9_empty_64 rfl kX1_countDone lk_X9_220 rfl O16 (by decide) rfl (Nat.le_of_ble_eq_true rfl) (fun v_3 h_3 qh_3 => ?_)
          obtain ⟨rfl, n0h_3, eh_3⟩ := qh_3
          replace O0 := (eh_3 _ (by decide)).trans O0
          replace O1 := (eh_3 _ (by decide)).trans O1
          replace O16 := n0h_3
          replace O19 := (eh_3 _ (by decide)).trans O19
          replace O20 := (eh_3 _ (by decide)).trans O20
          replace hf : ∀ i, i ≠ 0 → i ≠ 16 → i ≠ 20 → h_3 i = h i := fun i g0 g1 g2 => (eh_3 i g1).trans (hf i g0 g1 g2)
          have ew : wEmp v = 0 := by
            first | (simp only [c1, n1, c6, n6, c17, c48, if_true, if_false, ite_true, ite_false, and_true, true_and, and_false, false_and, and_self, or_true, true_or, or_false, false_or, or_self, not_true_eq_false, not_false_eq_true, decide_true, decide_false, Bool.and_true, Bool.true_and, Bool.and_false, Bool.false_and, Bool.and_self, Bool.or_true, Bool.true_or, Bool.or_false, Bool.false_or, Bool.not_true, Bool.not_false, cond_true, cond_false, bI_t, bI_f, Bool.false_eq_true, Bool.true_eq_false, dayC_1, dayC_21, dayC_221, dayC_222, wEmp, w01, wP, wPL, wP01, wL01, wRow, w01R, wAB, wNum, isP, isL]; done)
          refine A_iret dX9_empty_67 rfl ⟨_, rfl, (by rw [ew, rV_0]; first | (simp only [c1, n1, c6, n6, c17, c48, if_true, if_false, ite_true, ite_false, and_true, true_and, and_false, false_and, and_self, or_true, true_or, or_false, false_or, or_self, not_true_eq_false, not_false_eq_true, decide_true, decide_false, Bool.and_true, Bool.true_and, Bool.and_false, Bool.false_and, Bool.and_self, Bool.or_true, Bool.true_or, Bool.or_false, Bool.false_or, Bool.not_true, Bool.not_false, cond_true, cond_false, bI_t, bI_f, Bool.false_eq_true, Bool.true_eq_false, dayC_1, dayC_21, dayC_221, dayC_222, aEmp, pk]; done) | (simp [aEmp, pk, *]; done)), _, _, (by rw [ew]; first | (rw [rS_0]; exact O0) | exact O0), O16, O20, hf⟩
        · skip
          try simp only [bI_0, bI_n0, Classical.not_not, Bool.not_eq_false, Bool.true_and, Bool.and_true, decide_eq_true_eq, decide_eq_false_iff_not, dayC_1, dayC_21, dayC_221, dayC_222] at c48
          refine A_iload_n 52 dX9_empty_51 rfl rfl rfl ?_
          refine A_goto 67 dX9_empty_52 (by decide) ?_
          have ew : wEmp v = 0 := by
            first | (simp only [c1, n1, c6, n6, c17, c48, if_true, if_false, ite_true, ite_false, and_true, true_and, and_false, false_and, and_self, or_true, true_or, or_false, false_or, or_self, not_true_eq_false, not_false_eq_true, decide_true, decide_false, Bool.and_true, Bool.true_and, Bool.and_false, Bool.false_and, Bool.and_self, Bool.or_true, Bool.true_or, Bool.or_false, Bool.false_or, Bool.not_true, Bool.not_false, cond_true, cond_false, bI_t, bI_f, Bool.false_eq_true, Bool.true_eq_false, dayC_1, dayC_21, dayC_221, dayC_222, wEmp, w01, wP, wPL, wP01, wL01, wRow, w01R, wAB, wNum, isP, isL]; done) | (simp only [c1, n1, c6, n6, c17, eq_true c48, if_true, if_false, ite_true, ite_false, and_true, true_and, and_false, false_and, and_self, or_true, true_or, or_false, false_or, or_self, not_true_eq_false, not_false_eq_true, decide_true, decide_false, Bool.and_true, Bool.true_and, Bool.and_false, Bool.false_and, Bool.and_self, Bool.or_true, Bool.true_or, Bool.or_false, Bool.false_or, Bool.not_true, Bool.not_false, cond_true, cond_false, bI_t, bI_f, Bool.false_eq_true, Bool.true_eq_false, dayC_1, dayC_21, dayC_221, dayC_222, wEmp, w01, wP, wPL, wP01, wL01, wRow, w01R, wAB, wNum, isP, isL]; done)
          refine A_iret dX9_empty_67 rfl ⟨_, rfl, (by rw [ew, rV_0]; first | (simp only [c1, n1, c6, n6, c17, c48, if_true, if_false, ite_true, ite_false, and_true, true_and, and_false, false_and, and_self, or_true, true_or, or_false, false_or, or_self, not_true_eq_false, not_false_eq_true, decide_true, decide_false, Bool.and_true, Bool.true_and, Bool.and_false, Bool.false_and, Bool.and_self, Bool.or_true, Bool.true_or, Bool.or_false, Bool.false_or, Bool.not_true, Bool.not_false, cond_true, cond_false, bI_t, bI_f, Bool.false_eq_true, Bool.true_eq_false, dayC_1, dayC_21, dayC_221, dayC_222, aEmp, pk]; done) | (simp only [c1, n1, c6, n6, c17, eq_true c48, if_true, if_false, ite_true, ite_false, and_true, true_and, and_false, false_and, and_self, or_true, true_or, or_false, false_or, or_self, not_true_eq_false, not_false_eq_true, decide_true, decide_false, Bool.and_true, Bool.true_and, Bool.and_false, Bool.false_and, Bool.and_self, Bool.or_true, Bool.true_or, Bool.or_false, Bool.false_or, Bool.not_true, Bool.not_false, cond_true, cond_false, bI_t, bI_f, Bool.false_eq_true, Bool.true_eq_false, dayC_1, dayC_21, dayC_221, dayC_222, aEmp, pk]; done) | (simp [aEmp, pk, *]; done)), _, _, (by rw [ew]; first | (rw [rS_0]; exact O0) | exact O0), O16, O20, hf⟩
      · skip
        try simp only [bI_0, bI_n0, Classical.not_not, Bool.not_eq_false, Bool.true_and, Bool.and_true, decide_eq_true_eq, decide_eq_false_iff_not, dayC_1, dayC_21, dayC_221, dayC_222] at c17
        refine A_aload_n 21 dX9_empty_20 rfl rfl rfl ?_
        refine A_getfield 24 dX9_empty_21 rfl f_X9_47 O0 rfl ?_
        refine A_aload_n 25 dX9_empty_24 rfl rfl rfl ?_
        refine A_getfield 28 dX9_empty_25 rfl f_X9_10 O0 rfl ?_
        refine A_iconst 29 (0) dX9_empty_28 rfl (by decide) ?_
        refine A_iconst 30 (0) dX9_empty_29 rfl (by decide) ?_
        refine A_callVI 33 (S_X1_run X l (by first | assumption | decide | omega | exact Ne.symm (by assumption)) (by first | assumption | decide | omega | exact Ne.symm (by assumption)) (by first | assumption | decide | omega | exact Ne.symm (by assumption)) (by first | assumption | decide | omega | exact Ne.symm (by assumption))) dX9_empty_30 rfl kX1_run lk_X9_201 rfl O16 (by decide) rfl (Nat.le_of_ble_eq_true rfl) (fun v_4 h_4 qh_4 => ?_)
        obtain ⟨rfl, n0h_4, eh_4⟩ := qh_4
        replace O0 := (eh_4 _ (by decide)).trans O0
        replace O1 := (eh_4 _ (by decide)).trans O1
        replace O16 := n0h_4
        replace O19 := (eh_4 _ (by decide)).trans O19
        replace O20 := (eh_4 _ (by decide)).trans O20
        replace hf : ∀ i, i ≠ 0 → i ≠ 16 → i ≠ 20 → h_4 i = h i := fun i g0 g1 g2 => (eh_4 i g1).trans (hf i g0 g1 g2)
        have ew : wEmp v = 0 := by
          first | (simp only [c1, n1, c6, n6, c17, if_true, if_false, ite_true, ite_false, and_true, true_and, and_false, false_and, and_self, or_true, true_or, or_false, false_or, or_self, not_true_eq_false, not_false_eq_true, decide_true, decide_false, Bool.and_true, Bool.true_and, Bool.and_false, Bool.false_and, Bool.and_self, Bool.or_true, Bool.true_or, Bool.or_false, Bool.false_or, Bool.not_true, Bool.not_false, cond_true, cond_false, bI_t, bI_f, Bool.false_eq_true, Bool.true_eq_false, dayC_1, dayC_21, dayC_221, dayC_222, wEmp, w01, wP, wPL, wP01, wL01, wRow, w01R, wAB, wNum, isP, isL]; done) | (simp only [c1, n1, c6, n6, eq_true c17, if_true, if_false, ite_true, ite_false, and_true, true_and, and_false, false_and, and_self, or_true, true_or, or_false, false_or, or_self, not_true_eq_false, not_false_eq_true, decide_true, decide_false, Bool.and_true, Bool.true_and, Bool.and_false, Bool.false_and, Bool.and_self, Bool.or_true, Bool.true_or, Bool.or_false, Bool.false_or, Bool.not_true, Bool.not_false, cond_true, cond_false, bI_t, bI_f, Bool.false_eq_true, Bool.true_eq_false, dayC_1, dayC_21, dayC_221, dayC_222, wEmp, w01, wP, wPL, wP01, wL01, wRow, w01R, wAB, wNum, isP, isL]; done)
        refine A_iret dX9_empty_33 rfl ⟨_, rfl, (by rw [ew, rV_0]; first | (simp only [c1, n1, c6, n6, c17, if_true, if_false, ite_true, ite_false, and_true, true_and, and_false, false_and, and_self, or_true, true_or, or_false, false_or, or_self, not_true_eq_false, not_false_eq_true, decide_true, decide_false, Bool.and_true, Bool.true_and, Bool.and_false, Bool.false_and, Bool.and_self, Bool.or_true, Bool.true_or, Bool.or_false, Bool.false_or, Bool.not_true, Bool.not_false, cond_true, cond_false, bI_t, bI_f, Bool.false_eq_true, Bool.true_eq_false, dayC_1, dayC_21, dayC_221, dayC_222, aEmp, pk]; done) | (simp only [c1, n1, c6, n6, eq_true c17, if_true, if_false, ite_true, ite_false, and_true, true_and, and_false, false_and, and_self, or_true, true_or, or_false, false_or, or_self, not_true_eq_false, not_false_eq_true, decide_true, decide_false, Bool.and_true, Bool.true_and, Bool.and_false, Bool.false_and, Bool.and_self, Bool.or_true, Bool.true_or, Bool.or_false, Bool.false_or, Bool.not_true, Bool.not_false, cond_true, cond_false, bI_t, bI_f, Bool.false_eq_true, Bool.true_eq_false, dayC_1, dayC_21, dayC_221, dayC_222, aEmp, pk]; done) | (simp [aEmp, pk, *]; done)), _, _, (by rw [ew]; first | (rw [rS_0]; exact O0) | exact O0), O16, O20, hf⟩
    · skip
      try simp only [bI_0, bI_n0, Classical.not_not, Bool.not_eq_false, Bool.true_and, Bool.and_true, decide_eq_true_eq, decide_eq_false_iff_not, dayC_1, dayC_21, dayC_221, dayC_222] at c6
      have n6 := c6
      replace c6 := Int32.not_le.mp c6
      refine A_aload_n 10 dX9_empty_9 rfl rfl rfl ?_
      refine A_bipush 12 (-2) dX9_empty_10 rfl (by decide) ?_
      refine A_callVI 15 (S_X9_refuse X l (by first | assumption | decide | omega | exact Ne.symm (by assumption)) (by first | assumption | (unfold CD; decide))) dX9_empty_12 rfl kX9_refuse lk_X9_79 rfl O0 (by decide) rfl (Nat.le_of_ble_eq_true rfl) (fun v_5 h_5 qh_5 => ?_)
      obtain ⟨rfl, n0h_5, eh_5⟩ := qh_5
      replace O0 := n0h_5
      replace O1 := (eh_5 _ (by decide)).trans O1
      replace O16 := (eh_5 _ (by decide)).trans O16
      replace O19 := (eh_5 _ (by decide)).trans O19
      replace O20 := (eh_5 _ (by decide)).trans O20
      replace hf : ∀ i, i ≠ 0 → i ≠ 16 → i ≠ 20 → h_5 i = h i := fun i g0 g1 g2 => (eh_5 i g0).trans (hf i g0 g1 g2)
      have ew : wEmp v = -2 := by
        first | (simp only [c1, n1, c6, n6, if_true, if_false, ite_true, ite_false, and_true, true_and, and_false, false_and, and_self, or_true, true_or, or_false, false_or, or_self, not_true_eq_false, not_false_eq_true, decide_true, decide_false, Bool.and_true, Bool.true_and, Bool.and_false, Bool.false_and, Bool.and_self, Bool.or_true, Bool.true_or, Bool.or_false, Bool.false_or, Bool.not_true, Bool.not_false, cond_true, cond_false, bI_t, bI_f, Bool.false_eq_true, Bool.true_eq_false, dayC_1, dayC_21, dayC_221, dayC_222, wEmp, w01, wP, wPL, wP01, wL01, wRow, w01R, wAB, wNum, isP, isL]; done)
      refine A_iret dX9_empty_15 rfl ⟨_, rfl, (by rw [ew]; exact rV_n (by decide)), _, _, (by rw [ew]; first | (rw [rS_0]; exact O0) | exact O0), O16, O20, hf⟩
set_option maxHeartbeats 4000000 in
set_option maxRecDepth 100000 in
theorem S_X9_had (X : En) (l : Launch) {h : Hp} {x : PW} {g : Int32} {r : FI} (O0 : h 0 = some (maB g r)) (O1 : h 1 = some (wB 1 x)) (hW : WOK x) {t : FI} {n : Nat} (O15 : h 15 = some (toB t n)) (hn : n ≤ 16) {gu : FI} {qu : Nat} (O17 : h 17 = some (guB gu qu)) {y18 : PC} (O18 : h 18 = some (cB 18 y18)) {v : Int32} : Ct X l mX9_had [aR 0 0, aI v] h (QI (fun vr h2 => (rV (w01R x t n v) (aHad x t n v)) = vr ∧ ∃ (g17 : FI) (q17 : Nat) (z18 : PC), h2 (0) = some (maB g (rS (w01R x t n v) r)) ∧ h2 (17) = some (guB g17 q17) ∧ h2 (18) = some (cB 18 z18) ∧ ∀ i, i ≠ 0 → i ≠ 17 → i ≠ 18 → h2 i = h i)) := by
  have hx := hW.1
  have hp := hW.2.1
  have h10 := hx.1
  have hf : ∀ i, i ≠ 0 → i ≠ 17 → i ≠ 18 → h i = h i := fun _ _ _ _ => rfl
  refine Ct.intro [some (aR 0 0), some (aI v)] (by decide +kernel) rfl (Nat.le_of_ble_eq_true rfl) ?_
  refine A_iload_n 1 dX9_had_0 rfl rfl rfl ?_
  refine A_callSI 4 (S_X9_isNot0or1 X l) dX9_had_1 rfl kX9_isNot0or1 lk_X9_174 rfl (by decide) rfl (Nat.le_of_ble_eq_true rfl) (fun v_1 h_1 qh_1 => ?_)
  obtain ⟨rfl, rfl⟩ := qh_1
  refine A_if_eq 14 7 dX9_had_4 (by decide) rfl (fun c4 => ?_) (fun c4 => ?_)
  · skip
    try simp only [bI_0, bI_n0, Classical.not_not, Bool.not_eq_false, Bool.true_and, Bool.and_true, decide_eq_true_eq, decide_eq_false_iff_not, dayC_1, dayC_21, dayC_221, dayC_222] at c4
    refine A_aload_n 15 dX9_had_14 rfl rfl rfl ?_
    refine A_getfield 18 dX9_had_15 rfl f_X9_36 O0 rfl ?_
    refine A_aload_n 19 dX9_had_18 rfl rfl rfl ?_
    refine A_getfield 22 dX9_had_19 rfl f_X9_10 O0 rfl ?_
    refine A_callVI 25 (S_X7_isOfLaws X l (by first | assumption | decide | omega | exact Ne.symm (by assumption)) (by first | assumption | decide | omega | exact Ne.symm (by assumption)) (by first | assumption | decide | omega | exact Ne.symm (by assumption)) (by first | assumption | decide | omega | exact Ne.symm (by assumption))) dX9_had_22 rfl kX7_isOfLaws lk_X9_224 rfl O15 (by decide) rfl (Nat.le_of_ble_eq_true rfl) (fun v_2 h_2 qh_2 => ?_)
    obtain ⟨rfl, rfl⟩ := qh_2
    refine A_if_ne 35 28 dX9_had_25 (by decide) rfl (fun c25 => ?_) (fun c25 => ?_)
    · skip
      try simp only [bI_0, bI_n0, Classical.not_not, Bool.not_eq_false, Bool.true_and, Bool.and_true, decide_eq_true_eq, decide_eq_false_iff_not, dayC_1, dayC_21, dayC_221, dayC_222] at c25
      refine A_aload_n 36 dX9_had_35 rfl rfl rfl ?_
      refine A_getfield 39 dX9_had_36 rfl f_X9_54 O0 rfl ?_
      refine A_aload_n 40 dX9_had_39 rfl rfl rfl ?_
      refine A_getfield 43 dX9_had_40 rfl f_X9_10 O0 rfl ?_
      refine A_aload_n 44 dX9_had_43 rfl rfl rfl ?_
      refine A_getfield 47 dX9_had_44 rfl f_X9_36 O0 rfl ?_
      refine A_callVV 50 (S_X3_learn X l (by first | assumption | decide | omega | exact Ne.symm (by assumption)) (by first | assumption | decide | omega | exact Ne.symm (by assumption)) (by first | assumption | decide | omega | exact Ne.symm (by assumption)) (by first | assumption | decide | omega | exact Ne.symm (by assumption)) (by first | assumption | decide | omega | exact Ne.symm (by assumption)) (by first | assumption | decide | omega | exact Ne.symm (by assumption))) dX9_had_47 rfl kX3_learn lk_X9_228 rfl O17 (by decide) rfl (Nat.le_of_ble_eq_true rfl) (fun h_3 qh_3 => ?_)
      obtain ⟨y1_3, n0h_3, n1h_3, eh_3⟩ := qh_3
      replace O0 := (eh_3 _ (by decide) (by decide)).trans O0
      replace O1 := (eh_3 _ (by decide) (by decide)).trans O1
      replace O15 := (eh_3 _ (by decide) (by decide)).trans O15
      replace O17 := n0h_3
      replace O18 := n1h_3
      replace hf : ∀ i, i ≠ 0 → i ≠ 17 → i ≠ 18 → h_3 i = h i := fun i g0 g1 g2 => (eh_3 i g1 g2).trans (hf i g0 g1 g2)
      have hqL := (lrn_c0 x t n gu 256).1
      replace O17 : h_3 17 = some (guB (lrn x t n gu 256).1 (lrn x t n gu 256).2) := O17
      refine A_iload_n 51 dX9_had_50 rfl rfl rfl ?_
      refine A_if_ne 64 54 dX9_had_51 (by decide) rfl (fun c51 => ?_) (fun c51 => ?_)
      · skip
        try simp only [bI_0, bI_n0, Classical.not_not, Bool.not_eq_false, Bool.true_and, Bool.and_true, decide_eq_true_eq, decide_eq_false_iff_not, dayC_1, dayC_21, dayC_221, dayC_222] at c51
        refine A_aload_n 65 dX9_had_64 rfl rfl rfl ?_
        refine A_getfield 68 dX9_had_65 rfl f_X9_54 O0 rfl ?_
        refine A_callVI 71 (S_X3_least X l (by first | assumption | decide | omega | exact Ne.symm (by assumption)) (by first | assumption | decide | omega | exact Ne.symm (by assumption))) dX9_had_68 rfl kX3_least lk_X9_235 rfl O17 (by decide) rfl (Nat.le_of_ble_eq_true rfl) (fun v_4 h_4 qh_4 => ?_)
        obtain ⟨rfl, rfl⟩ := qh_4
        have ew : w01R x t n v = 0 := by
          first | (simp only [c4, c25, c51, if_true, if_false, ite_true, ite_false, and_true, true_and, and_false, false_and, and_self, or_true, true_or, or_false, false_or, or_self, not_true_eq_false, not_false_eq_true, decide_true, decide_false, Bool.and_true, Bool.true_and, Bool.and_false, Bool.false_and, Bool.and_self, Bool.or_true, Bool.true_or, Bool.or_false, Bool.false_or, Bool.not_true, Bool.not_false, cond_true, cond_false, bI_t, bI_f, Bool.false_eq_true, Bool.true_eq_false, dayC_1, dayC_21, dayC_221, dayC_222, w01R, wRow, w01, wP, wPL, wP01, wL01, wRow, w01R, wAB, wNum, isP, isL]; done)
        refine A_iret dX9_had_71 rfl ⟨_, rfl, (by rw [ew, rV_0]; unfold aHad; first | (rw [if_pos c51]; exact (lrn_c x t n gu).symm) | (rw [if_neg c51]; exact (lrn_l x t n gu).symm)), _, _, _, (by rw [ew]; first | (rw [rS_0]; exact O0) | exact O0), O17, O18, hf⟩
      · skip
        try simp only [bI_0, bI_n0, Classical.not_not, Bool.not_eq_false, Bool.true_and, Bool.and_true, decide_eq_true_eq, decide_eq_false_iff_not, dayC_1, dayC_21, dayC_221, dayC_222] at c51
        refine A_aload_n 55 dX9_had_54 rfl rfl rfl ?_
        refine A_getfield 58 dX9_had_55 rfl f_X9_54 O0 rfl ?_
        refine A_callVI 61 (S_X3_howMany X l (by first | assumption | decide | omega | exact Ne.symm (by assumption))) dX9_had_58 rfl kX3_howMany lk_X9_232 rfl O17 (by decide) rfl (Nat.le_of_ble_eq_true rfl) (fun v_5 h_5 qh_5 => ?_)
        obtain ⟨rfl, rfl⟩ := qh_5
        refine A_goto 71 dX9_had_61 (by decide) ?_
        have ew : w01R x t n v = 0 := by
          first | (simp only [c4, c25, c51, if_true, if_false, ite_true, ite_false, and_true, true_and, and_false, false_and, and_self, or_true, true_or, or_false, false_or, or_self, not_true_eq_false, not_false_eq_true, decide_true, decide_false, Bool.and_true, Bool.true_and, Bool.and_false, Bool.false_and, Bool.and_self, Bool.or_true, Bool.true_or, Bool.or_false, Bool.false_or, Bool.not_true, Bool.not_false, cond_true, cond_false, bI_t, bI_f, Bool.false_eq_true, Bool.true_eq_false, dayC_1, dayC_21, dayC_221, dayC_222, w01R, wRow, w01, wP, wPL, wP01, wL01, wRow, w01R, wAB, wNum, isP, isL]; done) | (simp only [c4, c25, eq_true c51, if_true, if_false, ite_true, ite_false, and_true, true_and, and_false, false_and, and_self, or_true, true_or, or_false, false_or, or_self, not_true_eq_false, not_false_eq_true, decide_true, decide_false, Bool.and_true, Bool.true_and, Bool.and_false, Bool.false_and, Bool.and_self, Bool.or_true, Bool.true_or, Bool.or_false, Bool.false_or, Bool.not_true, Bool.not_false, cond_true, cond_false, bI_t, bI_f, Bool.false_eq_true, Bool.true_eq_false, dayC_1, dayC_21, dayC_221, dayC_222, w01R, wRow, w01, wP, wPL, wP01, wL01, wRow, w01R, wAB, wNum, isP, isL]; done)
        refine A_iret dX9_had_71 rfl ⟨_, rfl, (by rw [ew, rV_0]; unfold aHad; first | (rw [if_pos c51]; exact (lrn_c x t n gu).symm) | (rw [if_neg c51]; exact (lrn_l x t n gu).symm)), _, _, _, (by rw [ew]; first | (rw [rS_0]; exact O0) | exact O0), O17, O18, hf⟩
    · skip
      try simp only [bI_0, bI_n0, Classical.not_not, Bool.not_eq_false, Bool.true_and, Bool.and_true, decide_eq_true_eq, decide_eq_false_iff_not, dayC_1, dayC_21, dayC_221, dayC_222] at c25
      refine A_aload_n 29 dX9_had_28 rfl rfl rfl ?_
      refine A_bipush 31 (-3) dX9_had_29 rfl (by decide) ?_
      refine A_callVI 34 (S_X9_refuse X l (by first | assumption | decide | omega | exact Ne.symm (by assumption)) (by first | assumption | (unfold CD; decide))) dX9_had_31 rfl kX9_refuse lk_X9_79 rfl O0 (by decide) rfl (Nat.le_of_ble_eq_true rfl) (fun v_6 h_6 qh_6 => ?_)
      obtain ⟨rfl, n0h_6, eh_6⟩ := qh_6
      replace O0 := n0h_6
      replace O1 := (eh_6 _ (by decide)).trans O1
      replace O15 := (eh_6 _ (by decide)).trans O15
      replace O17 := (eh_6 _ (by decide)).trans O17
      replace O18 := (eh_6 _ (by decide)).trans O18
      replace hf : ∀ i, i ≠ 0 → i ≠ 17 → i ≠ 18 → h_6 i = h i := fun i g0 g1 g2 => (eh_6 i g0).trans (hf i g0 g1 g2)
      have ew : w01R x t n v = -3 := by
        first | (simp only [c4, c25, if_true, if_false, ite_true, ite_false, and_true, true_and, and_false, false_and, and_self, or_true, true_or, or_false, false_or, or_self, not_true_eq_false, not_false_eq_true, decide_true, decide_false, Bool.and_true, Bool.true_and, Bool.and_false, Bool.false_and, Bool.and_self, Bool.or_true, Bool.true_or, Bool.or_false, Bool.false_or, Bool.not_true, Bool.not_false, cond_true, cond_false, bI_t, bI_f, Bool.false_eq_true, Bool.true_eq_false, dayC_1, dayC_21, dayC_221, dayC_222, w01R, wRow, w01, wP, wPL, wP01, wL01, wRow, w01R, wAB, wNum, isP, isL]; done)
      refine A_iret dX9_had_34 rfl ⟨_, rfl, (by rw [ew]; exact rV_n (by decide)), _, _, _, (by rw [ew]; first | (rw [rS_0]; exact O0) | exact O0), O17, O18, hf⟩
  · skip
    try simp only [bI_0, bI_n0, Classical.not_not, Bool.not_eq_false, Bool.true_and, Bool.and_true, decide_eq_true_eq, decide_eq_false_iff_not, dayC_1, dayC_21, dayC_221, dayC_222] at c4
    refine A_aload_n 8 dX9_had_7 rfl rfl rfl ?_
    refine A_bipush 10 (-2) dX9_had_8 rfl (by decide) ?_
    refine A_callVI 13 (S_X9_refuse X l (by first | assumption | decide | omega | exact Ne.symm (by assumption)) (by first | assumption | (unfold CD; decide))) dX9_had_10 rfl kX9_refuse lk_X9_79 rfl O0 (by decide) rfl (Nat.le_of_ble_eq_true rfl) (fun v_7 h_7 qh_7 => ?_)
    obtain ⟨rfl, n0h_7, eh_7⟩ := qh_7
    replace O0 := n0h_7
    replace O1 := (eh_7 _ (by decide)).trans O1
    replace O15 := (eh_7 _ (by decide)).trans O15
    replace O17 := (eh_7 _ (by decide)).trans O17
    replace O18 := (eh_7 _ (by decide)).trans O18
    replace hf : ∀ i, i ≠ 0 → i ≠ 17 → i ≠ 18 → h_7 i = h i := fun i g0 g1 g2 => (eh_7 i g0).trans (hf i g0 g1 g2)
    have ew : w01R x t n v = -2 := by
      first | (simp only [c4, if_true, if_false, ite_true, ite_false, and_true, true_and, and_false, false_and, and_self, or_true, true_or, or_false, false_or, or_self, not_true_eq_false, not_false_eq_true, decide_true, decide_false, Bool.and_true, Bool.true_and, Bool.and_false, Bool.false_and, Bool.and_self, Bool.or_true, Bool.true_or, Bool.or_false, Bool.false_or, Bool.not_true, Bool.not_false, cond_true, cond_false, bI_t, bI_f, Bool.false_eq_true, Bool.true_eq_false, dayC_1, dayC_21, dayC_221, dayC_222, w01R, wRow, w01, wP, wPL, wP01, wL01, wRow, w01R, wAB, wNum, isP, isL]; done)
    refine A_iret dX9_had_13 rfl ⟨_, rfl, (by rw [ew]; exact rV_n (by decide)), _, _, _, (by rw [ew]; first | (rw [rS_0]; exact O0) | exact O0), O17, O18, hf⟩
set_option maxHeartbeats 4000000 in
set_option maxRecDepth 100000 in
theorem S_X9_inIt (X : En) (l : Launch) {h : Hp} {x : PW} {g : Int32} {r : FI} (O0 : h 0 = some (maB g r)) (O1 : h 1 = some (wB 1 x)) (hW : WOK x) {t : FI} {n : Nat} (O15 : h 15 = some (toB t n)) (hn : n ≤ 16) {gu : FI} {qu : Nat} (O17 : h 17 = some (guB gu qu)) {y18 : PC} (O18 : h 18 = some (cB 18 y18)) {c v : Int32} : Ct X l mX9_inIt [aR 0 0, aI c, aI v] h (QL (fun vr h2 => (rVL (wInIt x t n c v) (aInIt x t n c v)) = vr ∧ ∃ (g17 : FI) (q17 : Nat) (z18 : PC), h2 (0) = some (maB g (rS (wInIt x t n c v) r)) ∧ h2 (17) = some (guB g17 q17) ∧ h2 (18) = some (cB 18 z18) ∧ ∀ i, i ≠ 0 → i ≠ 17 → i ≠ 18 → h2 i = h i)) := by
  have hx := hW.1
  have hp := hW.2.1
  have h10 := hx.1
  have hf : ∀ i, i ≠ 0 → i ≠ 17 → i ≠ 18 → h i = h i := fun _ _ _ _ => rfl
  refine Ct.intro [some (aR 0 0), some (aI c), some (aI v)] (by decide +kernel) rfl (Nat.le_of_ble_eq_true rfl) ?_
  refine A_iload_n 1 dX9_inIt_0 rfl rfl rfl ?_
  refine A_callSI 4 (S_X9_isThing X l) dX9_inIt_1 rfl kX9_isThing lk_X9_125 rfl (by decide) rfl (Nat.le_of_ble_eq_true rfl) (fun v_1 h_1 qh_1 => ?_)
  obtain ⟨rfl, rfl⟩ := qh_1
  refine A_if_ne 13 7 dX9_inIt_4 (by decide) rfl (fun c4 => ?_) (fun c4 => ?_)
  · skip
    try simp only [bI_0, bI_n0, Classical.not_not, Bool.not_eq_false, Bool.true_and, Bool.and_true, decide_eq_true_eq, decide_eq_false_iff_not, dayC_1, dayC_21, dayC_221, dayC_222] at c4
    refine A_iload_n 14 dX9_inIt_13 rfl rfl rfl ?_
    refine A_callSI 17 (S_X9_isNot0or1 X l) dX9_inIt_14 rfl kX9_isNot0or1 lk_X9_174 rfl (by decide) rfl (Nat.le_of_ble_eq_true rfl) (fun v_2 h_2 qh_2 => ?_)
    obtain ⟨rfl, rfl⟩ := qh_2
    refine A_if_eq 27 20 dX9_inIt_17 (by decide) rfl (fun c17 => ?_) (fun c17 => ?_)
    · skip
      try simp only [bI_0, bI_n0, Classical.not_not, Bool.not_eq_false, Bool.true_and, Bool.and_true, decide_eq_true_eq, decide_eq_false_iff_not, dayC_1, dayC_21, dayC_221, dayC_222] at c17
      refine A_aload_n 28 dX9_inIt_27 rfl rfl rfl ?_
      refine A_getfield 31 dX9_inIt_28 rfl f_X9_36 O0 rfl ?_
      refine A_aload_n 32 dX9_inIt_31 rfl rfl rfl ?_
      refine A_getfield 35 dX9_inIt_32 rfl f_X9_10 O0 rfl ?_
      refine A_callVI 38 (S_X7_isOfLaws X l (by first | assumption | decide | omega | exact Ne.symm (by assumption)) (by first | assumption | decide | omega | exact Ne.symm (by assumption)) (by first | assumption | decide | omega | exact Ne.symm (by assumption)) (by first | assumption | decide | omega | exact Ne.symm (by assumption))) dX9_inIt_35 rfl kX7_isOfLaws lk_X9_224 rfl O15 (by decide) rfl (Nat.le_of_ble_eq_true rfl) (fun v_3 h_3 qh_3 => ?_)
      obtain ⟨rfl, rfl⟩ := qh_3
      refine A_if_ne 48 41 dX9_inIt_38 (by decide) rfl (fun c38 => ?_) (fun c38 => ?_)
      · skip
        try simp only [bI_0, bI_n0, Classical.not_not, Bool.not_eq_false, Bool.true_and, Bool.and_true, decide_eq_true_eq, decide_eq_false_iff_not, dayC_1, dayC_21, dayC_221, dayC_222] at c38
        refine A_aload_n 49 dX9_inIt_48 rfl rfl rfl ?_
        refine A_getfield 52 dX9_inIt_49 rfl f_X9_54 O0 rfl ?_
        refine A_aload_n 53 dX9_inIt_52 rfl rfl rfl ?_
        refine A_getfield 56 dX9_inIt_53 rfl f_X9_10 O0 rfl ?_
        refine A_aload_n 57 dX9_inIt_56 rfl rfl rfl ?_
        refine A_getfield 60 dX9_inIt_57 rfl f_X9_36 O0 rfl ?_
        refine A_callVV 63 (S_X3_learn X l (by first | assumption | decide | omega | exact Ne.symm (by assumption)) (by first | assumption | decide | omega | exact Ne.symm (by assumption)) (by first | assumption | decide | omega | exact Ne.symm (by assumption)) (by first | assumption | decide | omega | exact Ne.symm (by assumption)) (by first | assumption | decide | omega | exact Ne.symm (by assumption)) (by first | assumption | decide | omega | exact Ne.symm (by assumption))) dX9_inIt_60 rfl kX3_learn lk_X9_228 rfl O17 (by decide) rfl (Nat.le_of_ble_eq_true rfl) (fun h_4 qh_4 => ?_)
        obtain ⟨y1_4, n0h_4, n1h_4, eh_4⟩ := qh_4
        replace O0 := (eh_4 _ (by decide) (by decide)).trans O0
        replace O1 := (eh_4 _ (by decide) (by decide)).trans O1
        replace O15 := (eh_4 _ (by decide) (by decide)).trans O15
        replace O17 := n0h_4
        replace O18 := n1h_4
        replace hf : ∀ i, i ≠ 0 → i ≠ 17 → i ≠ 18 → h_4 i = h i := fun i g0 g1 g2 => (eh_4 i g1 g2).trans (hf i g0 g1 g2)
        have hqL := (lrn_c0 x t n gu 256).1
        replace O17 : h_4 17 = some (guB (lrn x t n gu 256).1 (lrn x t n gu 256).2) := O17
        refine A_aload_n 64 dX9_inIt_63 rfl rfl rfl ?_
        refine A_getfield 67 dX9_inIt_64 rfl f_X9_54 O0 rfl ?_
        refine A_iload_n 68 dX9_inIt_67 rfl rfl rfl ?_
        refine A_callVI 71 (S_X3_howManyWith X l (by first | assumption | decide | omega | exact Ne.symm (by assumption)) (by first | assumption | decide | omega | exact Ne.symm (by assumption))) dX9_inIt_68 rfl kX3_howManyWith lk_X9_242 rfl O17 (by decide) rfl (Nat.le_of_ble_eq_true rfl) (fun v_5 h_5 qh_5 => ?_)
        obtain ⟨rfl, rfl⟩ := qh_5
        refine A_i2l 72 dX9_inIt_71 rfl ?_
        refine A_aload_n 73 dX9_inIt_72 rfl rfl rfl ?_
        refine A_getfield 76 dX9_inIt_73 rfl f_X9_54 O0 rfl ?_
        refine A_callVI 79 (S_X3_howMany X l (by first | assumption | decide | omega | exact Ne.symm (by assumption))) dX9_inIt_76 rfl kX3_howMany lk_X9_232 rfl O17 (by decide) rfl (Nat.le_of_ble_eq_true rfl) (fun v_6 h_6 qh_6 => ?_)
        obtain ⟨rfl, rfl⟩ := qh_6
        refine A_i2l 80 dX9_inIt_79 rfl ?_
        refine A_iload_n 81 dX9_inIt_80 rfl rfl rfl ?_
        refine A_callSL 84 (S_X9_lowest X l) dX9_inIt_81 rfl kX9_lowest lk_X9_245 rfl (by decide) rfl (Nat.le_of_ble_eq_true rfl) (fun v_7 h_7 qh_7 => ?_)
        obtain ⟨rfl, rfl⟩ := qh_7
        have ew : wInIt x t n c v = 0 := by
          first | (simp only [c4, c17, c38, if_true, if_false, ite_true, ite_false, and_true, true_and, and_false, false_and, and_self, or_true, true_or, or_false, false_or, or_self, not_true_eq_false, not_false_eq_true, decide_true, decide_false, Bool.and_true, Bool.true_and, Bool.and_false, Bool.false_and, Bool.and_self, Bool.or_true, Bool.true_or, Bool.or_false, Bool.false_or, Bool.not_true, Bool.not_false, cond_true, cond_false, bI_t, bI_f, Bool.false_eq_true, Bool.true_eq_false, dayC_1, dayC_21, dayC_221, dayC_222, wInIt, wRow, w01, wP, wPL, wP01, wL01, wRow, w01R, wAB, wNum, isP, isL]; done)
        refine A_lret dX9_inIt_84 rfl ⟨_, rfl, (by rw [ew, rVL_0]; unfold aInIt; rw [lrn_w x t n gu c4, lrn_c]), _, _, _, (by rw [ew]; first | (rw [rS_0]; exact O0) | exact O0), O17, O18, hf⟩
      · skip
        try simp only [bI_0, bI_n0, Classical.not_not, Bool.not_eq_false, Bool.true_and, Bool.and_true, decide_eq_true_eq, decide_eq_false_iff_not, dayC_1, dayC_21, dayC_221, dayC_222] at c38
        refine A_aload_n 42 dX9_inIt_41 rfl rfl rfl ?_
        refine A_bipush 44 (-3) dX9_inIt_42 rfl (by decide) ?_
        refine A_callVL 47 (S_X9_refuseLong X l (by first | assumption | decide | omega | exact Ne.symm (by assumption)) (by first | assumption | (unfold CD; decide))) dX9_inIt_44 rfl kX9_refuseLong lk_X9_238 rfl O0 (by decide) rfl (Nat.le_of_ble_eq_true rfl) (fun v_8 h_8 qh_8 => ?_)
        obtain ⟨rfl, n0h_8, eh_8⟩ := qh_8
        replace O0 := n0h_8
        replace O1 := (eh_8 _ (by decide)).trans O1
        replace O15 := (eh_8 _ (by decide)).trans O15
        replace O17 := (eh_8 _ (by decide)).trans O17
        replace O18 := (eh_8 _ (by decide)).trans O18
        replace hf : ∀ i, i ≠ 0 → i ≠ 17 → i ≠ 18 → h_8 i = h i := fun i g0 g1 g2 => (eh_8 i g0).trans (hf i g0 g1 g2)
        have ew : wInIt x t n c v = -3 := by
          first | (simp only [c4, c17, c38, if_true, if_false, ite_true, ite_false, and_true, true_and, and_false, false_and, and_self, or_true, true_or, or_false, false_or, or_self, not_true_eq_false, not_false_eq_true, decide_true, decide_false, Bool.and_true, Bool.true_and, Bool.and_false, Bool.false_and, Bool.and_self, Bool.or_true, Bool.true_or, Bool.or_false, Bool.false_or, Bool.not_true, Bool.not_false, cond_true, cond_false, bI_t, bI_f, Bool.false_eq_true, Bool.true_eq_false, dayC_1, dayC_21, dayC_221, dayC_222, wInIt, wRow, w01, wP, wPL, wP01, wL01, wRow, w01R, wAB, wNum, isP, isL]; done)
        refine A_lret dX9_inIt_47 rfl ⟨_, rfl, (by rw [ew]; exact rVL_n (by decide)), _, _, _, (by rw [ew]; first | (rw [rS_0]; exact O0) | exact O0), O17, O18, hf⟩
    · skip
      try simp only [bI_0, bI_n0, Classical.not_not, Bool.not_eq_false, Bool.true_and, Bool.and_true, decide_eq_true_eq, decide_eq_false_iff_not, dayC_1, dayC_21, dayC_221, dayC_222] at c17
      refine A_aload_n 21 dX9_inIt_20 rfl rfl rfl ?_
      refine A_bipush 23 (-2) dX9_inIt_21 rfl (by decide) ?_
      refine A_callVL 26 (S_X9_refuseLong X l (by first | assumption | decide | omega | exact Ne.symm (by assumption)) (by first | assumption | (unfold CD; decide))) dX9_inIt_23 rfl kX9_refuseLong lk_X9_238 rfl O0 (by decide) rfl (Nat.le_of_ble_eq_true rfl) (fun v_9 h_9 qh_9 => ?_)
      obtain ⟨rfl, n0h_9, eh_9⟩ := qh_9
      replace O0 := n0h_9
      replace O1 := (eh_9 _ (by decide)).trans O1
      replace O15 := (eh_9 _ (by decide)).trans O15
      replace O17 := (eh_9 _ (by decide)).trans O17
      replace O18 := (eh_9 _ (by decide)).trans O18
      replace hf : ∀ i, i ≠ 0 → i ≠ 17 → i ≠ 18 → h_9 i = h i := fun i g0 g1 g2 => (eh_9 i g0).trans (hf i g0 g1 g2)
      have ew : wInIt x t n c v = -2 := by
        first | (simp only [c4, c17, if_true, if_false, ite_true, ite_false, and_true, true_and, and_false, false_and, and_self, or_true, true_or, or_false, false_or, or_self, not_true_eq_false, not_false_eq_true, decide_true, decide_false, Bool.and_true, Bool.true_and, Bool.and_false, Bool.false_and, Bool.and_self, Bool.or_true, Bool.true_or, Bool.or_false, Bool.false_or, Bool.not_true, Bool.not_false, cond_true, cond_false, bI_t, bI_f, Bool.false_eq_true, Bool.true_eq_false, dayC_1, dayC_21, dayC_221, dayC_222, wInIt, wRow, w01, wP, wPL, wP01, wL01, wRow, w01R, wAB, wNum, isP, isL]; done)
      refine A_lret dX9_inIt_26 rfl ⟨_, rfl, (by rw [ew]; exact rVL_n (by decide)), _, _, _, (by rw [ew]; first | (rw [rS_0]; exact O0) | exact O0), O17, O18, hf⟩
  · skip
    try simp only [bI_0, bI_n0, Classical.not_not, Bool.not_eq_false, Bool.true_and, Bool.and_true, decide_eq_true_eq, decide_eq_false_iff_not, dayC_1, dayC_21, dayC_221, dayC_222] at c4
    refine A_aload_n 8 dX9_inIt_7 rfl rfl rfl ?_
    refine A_iconst 9 (-1) dX9_inIt_8 rfl (by decide) ?_
    refine A_callVL 12 (S_X9_refuseLong X l (by first | assumption | decide | omega | exact Ne.symm (by assumption)) (by first | assumption | (unfold CD; decide))) dX9_inIt_9 rfl kX9_refuseLong lk_X9_238 rfl O0 (by decide) rfl (Nat.le_of_ble_eq_true rfl) (fun v_10 h_10 qh_10 => ?_)
    obtain ⟨rfl, n0h_10, eh_10⟩ := qh_10
    replace O0 := n0h_10
    replace O1 := (eh_10 _ (by decide)).trans O1
    replace O15 := (eh_10 _ (by decide)).trans O15
    replace O17 := (eh_10 _ (by decide)).trans O17
    replace O18 := (eh_10 _ (by decide)).trans O18
    replace hf : ∀ i, i ≠ 0 → i ≠ 17 → i ≠ 18 → h_10 i = h i := fun i g0 g1 g2 => (eh_10 i g0).trans (hf i g0 g1 g2)
    have ew : wInIt x t n c v = -1 := by
      first | (simp only [c4, if_true, if_false, ite_true, ite_false, and_true, true_and, and_false, false_and, and_self, or_true, true_or, or_false, false_or, or_self, not_true_eq_false, not_false_eq_true, decide_true, decide_false, Bool.and_true, Bool.true_and, Bool.and_false, Bool.false_and, Bool.and_self, Bool.or_true, Bool.true_or, Bool.or_false, Bool.false_or, Bool.not_true, Bool.not_false, cond_true, cond_false, bI_t, bI_f, Bool.false_eq_true, Bool.true_eq_false, dayC_1, dayC_21, dayC_221, dayC_222, wInIt, wRow, w01, wP, wPL, wP01, wL01, wRow, w01R, wAB, wNum, isP, isL]; done)
    refine A_lret dX9_inIt_12 rfl ⟨_, rfl, (by rw [ew]; exact rVL_n (by decide)), _, _, _, (by rw [ew]; first | (rw [rS_0]; exact O0) | exact O0), O17, O18, hf⟩
set_option maxHeartbeats 4000000 in
set_option maxRecDepth 100000 in
theorem S_X9_feel (X : En) (l : Launch) {h : Hp} {x : PW} {g : Int32} {r : FI} (O0 : h 0 = some (maB g r)) (O1 : h 1 = some (wB 1 x)) (hW : WOK x) {t : FI} {n : Nat} (O15 : h 15 = some (toB t n)) (hn : n ≤ 16) {gu : FI} {qu : Nat} (O17 : h 17 = some (guB gu qu)) {y18 : PC} (O18 : h 18 = some (cB 18 y18)) {v : Int32} : Ct X l mX9_feel [aR 0 0, aI v] h (QI (fun vr h2 => (rV (w01R x t n v) (aFeel x t n v)) = vr ∧ ∃ (g17 : FI) (q17 : Nat) (z18 : PC), h2 (0) = some (maB g (rS (w01R x t n v) r)) ∧ h2 (17) = some (guB g17 q17) ∧ h2 (18) = some (cB 18 z18) ∧ ∀ i, i ≠ 0 → i ≠ 17 → i ≠ 18 → h2 i = h i)) := by
  have hx := hW.1
  have hp := hW.2.1
  have h10 := hx.1
  have hf : ∀ i, i ≠ 0 → i ≠ 17 → i ≠ 18 → h i = h i := fun _ _ _ _ => rfl
  refine Ct.intro [some (aR 0 0), some (aI v), none] (by decide +kernel) rfl (Nat.le_of_ble_eq_true rfl) ?_
  refine A_iload_n 1 dX9_feel_0 rfl rfl rfl ?_
  refine A_callSI 4 (S_X9_isNot0or1 X l) dX9_feel_1 rfl kX9_isNot0or1 lk_X9_174 rfl (by decide) rfl (Nat.le_of_ble_eq_true rfl) (fun v_1 h_1 qh_1 => ?_)
  obtain ⟨rfl, rfl⟩ := qh_1
  refine A_if_eq 14 7 dX9_feel_4 (by decide) rfl (fun c4 => ?_) (fun c4 => ?_)
  · skip
    try simp only [bI_0, bI_n0, Classical.not_not, Bool.not_eq_false, Bool.true_and, Bool.and_true, decide_eq_true_eq, decide_eq_false_iff_not, dayC_1, dayC_21, dayC_221, dayC_222] at c4
    refine A_aload_n 15 dX9_feel_14 rfl rfl rfl ?_
    refine A_getfield 18 dX9_feel_15 rfl f_X9_36 O0 rfl ?_
    refine A_aload_n 19 dX9_feel_18 rfl rfl rfl ?_
    refine A_getfield 22 dX9_feel_19 rfl f_X9_10 O0 rfl ?_
    refine A_callVI 25 (S_X7_isOfLaws X l (by first | assumption | decide | omega | exact Ne.symm (by assumption)) (by first | assumption | decide | omega | exact Ne.symm (by assumption)) (by first | assumption | decide | omega | exact Ne.symm (by assumption)) (by first | assumption | decide | omega | exact Ne.symm (by assumption))) dX9_feel_22 rfl kX7_isOfLaws lk_X9_224 rfl O15 (by decide) rfl (Nat.le_of_ble_eq_true rfl) (fun v_2 h_2 qh_2 => ?_)
    obtain ⟨rfl, rfl⟩ := qh_2
    refine A_if_ne 35 28 dX9_feel_25 (by decide) rfl (fun c25 => ?_) (fun c25 => ?_)
    · skip
      try simp only [bI_0, bI_n0, Classical.not_not, Bool.not_eq_false, Bool.true_and, Bool.and_true, decide_eq_true_eq, decide_eq_false_iff_not, dayC_1, dayC_21, dayC_221, dayC_222] at c25
      refine A_aload_n 36 dX9_feel_35 rfl rfl rfl ?_
      refine A_getfield 39 dX9_feel_36 rfl f_X9_54 O0 rfl ?_
      refine A_aload_n 40 dX9_feel_39 rfl rfl rfl ?_
      refine A_getfield 43 dX9_feel_40 rfl f_X9_10 O0 rfl ?_
      refine A_aload_n 44 dX9_feel_43 rfl rfl rfl ?_
      refine A_getfield 47 dX9_feel_44 rfl f_X9_36 O0 rfl ?_
      refine A_callVV 50 (S_X3_learn X l (by first | assumption | decide | omega | exact Ne.symm (by assumption)) (by first | assumption | decide | omega | exact Ne.symm (by assumption)) (by first | assumption | decide | omega | exact Ne.symm (by assumption)) (by first | assumption | decide | omega | exact Ne.symm (by assumption)) (by first | assumption | decide | omega | exact Ne.symm (by assumption)) (by first | assumption | decide | omega | exact Ne.symm (by assumption))) dX9_feel_47 rfl kX3_learn lk_X9_228 rfl O17 (by decide) rfl (Nat.le_of_ble_eq_true rfl) (fun h_3 qh_3 => ?_)
      obtain ⟨y1_3, n0h_3, n1h_3, eh_3⟩ := qh_3
      replace O0 := (eh_3 _ (by decide) (by decide)).trans O0
      replace O1 := (eh_3 _ (by decide) (by decide)).trans O1
      replace O15 := (eh_3 _ (by decide) (by decide)).trans O15
      replace O17 := n0h_3
      replace O18 := n1h_3
      replace hf : ∀ i, i ≠ 0 → i ≠ 17 → i ≠ 18 → h_3 i = h i := fun i g0 g1 g2 => (eh_3 i g1 g2).trans (hf i g0 g1 g2)
      have hqL := (lrn_c0 x t n gu 256).1
      replace O17 : h_3 17 = some (guB (lrn x t n gu 256).1 (lrn x t n gu 256).2) := O17
      refine A_aload_n 51 dX9_feel_50 rfl rfl rfl ?_
      refine A_getfield 54 dX9_feel_51 rfl f_X9_54 O0 rfl ?_
      refine A_callVI 57 (S_X3_evenestThing X l (by first | assumption | decide | omega | exact Ne.symm (by assumption)) (by first | assumption | decide | omega | exact Ne.symm (by assumption))) dX9_feel_54 rfl kX3_evenestThing lk_X9_249 rfl O17 (by decide) rfl (Nat.le_of_ble_eq_true rfl) (fun v_4 h_4 qh_4 => ?_)
      obtain ⟨rfl, rfl⟩ := qh_4
      rw [lrn_e]
      refine A_istore_n 58 dX9_feel_57 rfl rfl (by decide) (by first | exact (ast_s (ast_1 rfl)) | exact (ast_s ast_k)) ?_
      refine A_iload_n 59 dX9_feel_58 rfl rfl rfl ?_
      refine A_bipush 61 (-9) dX9_feel_59 rfl (by decide) ?_
      refine A_icmp_ne 67 64 dX9_feel_61 (by decide) rfl (fun c61 => ?_) (fun c61 => ?_)
      · skip
        try simp only [bI_0, bI_n0, Classical.not_not, Bool.not_eq_false, Bool.true_and, Bool.and_true, decide_eq_true_eq, decide_eq_false_iff_not, dayC_1, dayC_21, dayC_221, dayC_222] at c61
        refine A_iload_n 68 dX9_feel_67 rfl rfl rfl ?_
        refine A_if_ne 75 71 dX9_feel_68 (by decide) rfl (fun c68 => ?_) (fun c68 => ?_)
        · skip
          try simp only [bI_0, bI_n0, Classical.not_not, Bool.not_eq_false, Bool.true_and, Bool.and_true, decide_eq_true_eq, decide_eq_false_iff_not, dayC_1, dayC_21, dayC_221, dayC_222] at c68
          refine A_aload_n 76 dX9_feel_75 rfl rfl rfl ?_
          refine A_getfield 79 dX9_feel_76 rfl f_X9_54 O0 rfl ?_
          refine A_iload_n 80 dX9_feel_79 rfl rfl rfl ?_
          refine A_callVI 83 (S_X3_lesserPart X l (by first | assumption | decide | omega | exact Ne.symm (by assumption)) (by first | assumption | decide | omega | exact Ne.symm (by assumption))) dX9_feel_80 rfl kX3_lesserPart lk_X9_252 rfl O17 (by decide) rfl (Nat.le_of_ble_eq_true rfl) (fun v_5 h_5 qh_5 => ?_)
          obtain ⟨rfl, rfl⟩ := qh_5
          have ew : w01R x t n v = 0 := by
            first | (simp only [c4, c25, c61, c68, if_true, if_false, ite_true, ite_false, and_true, true_and, and_false, false_and, and_self, or_true, true_or, or_false, false_or, or_self, not_true_eq_false, not_false_eq_true, decide_true, decide_false, Bool.and_true, Bool.true_and, Bool.and_false, Bool.false_and, Bool.and_self, Bool.or_true, Bool.true_or, Bool.or_false, Bool.false_or, Bool.not_true, Bool.not_false, cond_true, cond_false, bI_t, bI_f, Bool.false_eq_true, Bool.true_eq_false, dayC_1, dayC_21, dayC_221, dayC_222, w01R, wRow, w01, wP, wPL, wP01, wL01, wRow, w01R, wAB, wNum, isP, isL]; done)
          refine A_iret dX9_feel_83 rfl ⟨_, rfl, (by rw [ew, rV_0]; unfold aFeel; rw [if_neg c61]; first | rw [if_pos c68] | (rw [if_neg c68]; exact (lrn_p x t n gu (evS_T c61)).symm)), _, _, _, (by rw [ew]; first | (rw [rS_0]; exact O0) | exact O0), O17, O18, hf⟩
        · skip
          try simp only [bI_0, bI_n0, Classical.not_not, Bool.not_eq_false, Bool.true_and, Bool.and_true, decide_eq_true_eq, decide_eq_false_iff_not, dayC_1, dayC_21, dayC_221, dayC_222] at c68
          refine A_iload_n 72 dX9_feel_71 rfl rfl rfl ?_
          refine A_goto 83 dX9_feel_72 (by decide) ?_
          have ew : w01R x t n v = 0 := by
            first | (simp only [c4, c25, c61, c68, if_true, if_false, ite_true, ite_false, and_true, true_and, and_false, false_and, and_self, or_true, true_or, or_false, false_or, or_self, not_true_eq_false, not_false_eq_true, decide_true, decide_false, Bool.and_true, Bool.true_and, Bool.and_false, Bool.false_and, Bool.and_self, Bool.or_true, Bool.true_or, Bool.or_false, Bool.false_or, Bool.not_true, Bool.not_false, cond_true, cond_false, bI_t, bI_f, Bool.false_eq_true, Bool.true_eq_false, dayC_1, dayC_21, dayC_221, dayC_222, w01R, wRow, w01, wP, wPL, wP01, wL01, wRow, w01R, wAB, wNum, isP, isL]; done) | (simp only [c4, c25, c61, eq_true c68, if_true, if_false, ite_true, ite_false, and_true, true_and, and_false, false_and, and_self, or_true, true_or, or_false, false_or, or_self, not_true_eq_false, not_false_eq_true, decide_true, decide_false, Bool.and_true, Bool.true_and, Bool.and_false, Bool.false_and, Bool.and_self, Bool.or_true, Bool.true_or, Bool.or_false, Bool.false_or, Bool.not_true, Bool.not_false, cond_true, cond_false, bI_t, bI_f, Bool.false_eq_true, Bool.true_eq_false, dayC_1, dayC_21, dayC_221, dayC_222, w01R, wRow, w01, wP, wPL, wP01, wL01, wRow, w01R, wAB, wNum, isP, isL]; done)
          refine A_iret dX9_feel_83 rfl ⟨_, rfl, (by rw [ew, rV_0]; unfold aFeel; rw [if_neg c61]; first | rw [if_pos c68] | (rw [if_neg c68]; exact (lrn_p x t n gu (evS_T c61)).symm)), _, _, _, (by rw [ew]; first | (rw [rS_0]; exact O0) | exact O0), O17, O18, hf⟩
      · skip
        try simp only [bI_0, bI_n0, Classical.not_not, Bool.not_eq_false, Bool.true_and, Bool.and_true, decide_eq_true_eq, decide_eq_false_iff_not, dayC_1, dayC_21, dayC_221, dayC_222] at c61
        refine A_bipush 66 (-9) dX9_feel_64 rfl (by decide) ?_
        have ew : w01R x t n v = 0 := by
          first | (simp only [c4, c25, c61, if_true, if_false, ite_true, ite_false, and_true, true_and, and_false, false_and, and_self, or_true, true_or, or_false, false_or, or_self, not_true_eq_false, not_false_eq_true, decide_true, decide_false, Bool.and_true, Bool.true_and, Bool.and_false, Bool.false_and, Bool.and_self, Bool.or_true, Bool.true_or, Bool.or_false, Bool.false_or, Bool.not_true, Bool.not_false, cond_true, cond_false, bI_t, bI_f, Bool.false_eq_true, Bool.true_eq_false, dayC_1, dayC_21, dayC_221, dayC_222, w01R, wRow, w01, wP, wPL, wP01, wL01, wRow, w01R, wAB, wNum, isP, isL]; done) | (simp only [c4, c25, eq_true c61, if_true, if_false, ite_true, ite_false, and_true, true_and, and_false, false_and, and_self, or_true, true_or, or_false, false_or, or_self, not_true_eq_false, not_false_eq_true, decide_true, decide_false, Bool.and_true, Bool.true_and, Bool.and_false, Bool.false_and, Bool.and_self, Bool.or_true, Bool.true_or, Bool.or_false, Bool.false_or, Bool.not_true, Bool.not_false, cond_true, cond_false, bI_t, bI_f, Bool.false_eq_true, Bool.true_eq_false, dayC_1, dayC_21, dayC_221, dayC_222, w01R, wRow, w01, wP, wPL, wP01, wL01, wRow, w01R, wAB, wNum, isP, isL]; done)
        refine A_iret dX9_feel_66 rfl ⟨_, rfl, (by rw [ew, rV_0]; unfold aFeel; rw [if_pos c61]), _, _, _, (by rw [ew]; first | (rw [rS_0]; exact O0) | exact O0), O17, O18, hf⟩
    · skip
      try simp only [bI_0, bI_n0, Classical.not_not, Bool.not_eq_false, Bool.true_and, Bool.and_true, decide_eq_true_eq, decide_eq_false_iff_not, dayC_1, dayC_21, dayC_221, dayC_222] at c25
      refine A_aload_n 29 dX9_feel_28 rfl rfl rfl ?_
      refine A_bipush 31 (-3) dX9_feel_29 rfl (by decide) ?_
      refine A_callVI 34 (S_X9_refuse X l (by first | assumption | decide | omega | exact Ne.symm (by assumption)) (by first | assumption | (unfold CD; decide))) dX9_feel_31 rfl kX9_refuse lk_X9_79 rfl O0 (by decide) rfl (Nat.le_of_ble_eq_true rfl) (fun v_6 h_6 qh_6 => ?_)
      obtain ⟨rfl, n0h_6, eh_6⟩ := qh_6
      replace O0 := n0h_6
      replace O1 := (eh_6 _ (by decide)).trans O1
      replace O15 := (eh_6 _ (by decide)).trans O15
      replace O17 := (eh_6 _ (by decide)).trans O17
      replace O18 := (eh_6 _ (by decide)).trans O18
      replace hf : ∀ i, i ≠ 0 → i ≠ 17 → i ≠ 18 → h_6 i = h i := fun i g0 g1 g2 => (eh_6 i g0).trans (hf i g0 g1 g2)
      have ew : w01R x t n v = -3 := by
        first | (simp only [c4, c25, if_true, if_false, ite_true, ite_false, and_true, true_and, and_false, false_and, and_self, or_true, true_or, or_false, false_or, or_self, not_true_eq_false, not_false_eq_true, decide_true, decide_false, Bool.and_true, Bool.true_and, Bool.and_false, Bool.false_and, Bool.and_self, Bool.or_true, Bool.true_or, Bool.or_false, Bool.false_or, Bool.not_true, Bool.not_false, cond_true, cond_false, bI_t, bI_f, Bool.false_eq_true, Bool.true_eq_false, dayC_1, dayC_21, dayC_221, dayC_222, w01R, wRow, w01, wP, wPL, wP01, wL01, wRow, w01R, wAB, wNum, isP, isL]; done)
      refine A_iret dX9_feel_34 rfl ⟨_, rfl, (by rw [ew]; exact rV_n (by decide)), _, _, _, (by rw [ew]; first | (rw [rS_0]; exact O0) | exact O0), O17, O18, hf⟩
  · skip
    try simp only [bI_0, bI_n0, Classical.not_not, Bool.not_eq_false, Bool.true_and, Bool.and_true, decide_eq_true_eq, decide_eq_false_iff_not, dayC_1, dayC_21, dayC_221, dayC_222] at c4
    refine A_aload_n 8 dX9_feel_7 rfl rfl rfl ?_
    refine A_bipush 10 (-2) dX9_feel_8 rfl (by decide) ?_
    refine A_callVI 13 (S_X9_refuse X l (by first | assumption | decide | omega | exact Ne.symm (by assumption)) (by first | assumption | (unfold CD; decide))) dX9_feel_10 rfl kX9_refuse lk_X9_79 rfl O0 (by decide) rfl (Nat.le_of_ble_eq_true rfl) (fun v_7 h_7 qh_7 => ?_)
    obtain ⟨rfl, n0h_7, eh_7⟩ := qh_7
    replace O0 := n0h_7
    replace O1 := (eh_7 _ (by decide)).trans O1
    replace O15 := (eh_7 _ (by decide)).trans O15
    replace O17 := (eh_7 _ (by decide)).trans O17
    replace O18 := (eh_7 _ (by decide)).trans O18
    replace hf : ∀ i, i ≠ 0 → i ≠ 17 → i ≠ 18 → h_7 i = h i := fun i g0 g1 g2 => (eh_7 i g0).trans (hf i g0 g1 g2)
    have ew : w01R x t n v = -2 := by
      first | (simp only [c4, if_true, if_false, ite_true, ite_false, and_true, true_and, and_false, false_and, and_self, or_true, true_or, or_false, false_or, or_self, not_true_eq_false, not_false_eq_true, decide_true, decide_false, Bool.and_true, Bool.true_and, Bool.and_false, Bool.false_and, Bool.and_self, Bool.or_true, Bool.true_or, Bool.or_false, Bool.false_or, Bool.not_true, Bool.not_false, cond_true, cond_false, bI_t, bI_f, Bool.false_eq_true, Bool.true_eq_false, dayC_1, dayC_21, dayC_221, dayC_222, w01R, wRow, w01, wP, wPL, wP01, wL01, wRow, w01R, wAB, wNum, isP, isL]; done)
    refine A_iret dX9_feel_13 rfl ⟨_, rfl, (by rw [ew]; exact rV_n (by decide)), _, _, _, (by rw [ew]; first | (rw [rS_0]; exact O0) | exact O0), O17, O18, hf⟩
set_option maxHeartbeats 4000000 in
set_option maxRecDepth 100000 in
theorem S_X9_which (X : En) (l : Launch) {h : Hp} {x : PW} {g : Int32} {r : FI} (O0 : h 0 = some (maB g r)) (O1 : h 1 = some (wB 1 x)) (hW : WOK x) {t : FI} {n : Nat} (O15 : h 15 = some (toB t n)) (hn : n ≤ 16) {y22 : PC} (O21 : h 21 = some (alB)) (O22 : h 22 = some (cB 22 y22)) {x24 : PW} (O24 : h 24 = some (wB 24 x24)) {p l0 v : Int32} : Ct X l mX9_which [aR 0 0, aI p, aI l0, aI v] h (QI (fun vr h2 => (rV (wWhich x t n p l0 v) (aWhich x t n p l0 v)) = vr ∧ ∃ (z22 : PC) (z24 : PW), h2 (0) = some (maB g (rS (wWhich x t n p l0 v) r)) ∧ h2 (22) = some (cB 22 z22) ∧ h2 (24) = some (wB 24 z24) ∧ ∀ i, i ≠ 0 → i ≠ 22 → i ≠ 24 → h2 i = h i)) := by
  have hx := hW.1
  have hp := hW.2.1
  have h10 := hx.1
  have hf : ∀ i, i ≠ 0 → i ≠ 22 → i ≠ 24 → h i = h i := fun _ _ _ _ => rfl
  refine Ct.intro [some (aR 0 0), some (aI p), some (aI l0), some (aI v)] (by decide +kernel) rfl (Nat.le_of_ble_eq_true rfl) ?_
  refine A_aload_n 1 dX9_which_0 rfl rfl rfl ?_
  refine A_getfield 4 dX9_which_1 rfl f_X9_10 O0 rfl ?_
  refine A_iload_n 5 dX9_which_4 rfl rfl rfl ?_
  refine A_callVI 8 (S_X8_isPerson X l (by first | assumption | decide | omega | exact Ne.symm (by assumption))) dX9_which_5 rfl kX8_isPerson lk_X9_119 rfl O1 (by decide) rfl (Nat.le_of_ble_eq_true rfl) (fun v_1 h_1 qh_1 => ?_)
  obtain ⟨rfl, rfl⟩ := qh_1
  refine A_if_eq 22 11 dX9_which_8 (by decide) rfl (fun c8 => ?_) (fun c8 => ?_)
  · skip
    try simp only [bI_0, bI_n0, Classical.not_not, Bool.not_eq_false, Bool.true_and, Bool.and_true, decide_eq_true_eq, decide_eq_false_iff_not, dayC_1, dayC_21, dayC_221, dayC_222] at c8
    refine A_aload_n 23 dX9_which_22 rfl rfl rfl ?_
    refine A_iconst 24 (-1) dX9_which_23 rfl (by decide) ?_
    refine A_callVI 27 (S_X9_refuse X l (by first | assumption | decide | omega | exact Ne.symm (by assumption)) (by first | assumption | (unfold CD; decide))) dX9_which_24 rfl kX9_refuse lk_X9_79 rfl O0 (by decide) rfl (Nat.le_of_ble_eq_true rfl) (fun v_2 h_2 qh_2 => ?_)
    obtain ⟨rfl, n0h_2, eh_2⟩ := qh_2
    replace O0 := n0h_2
    replace O1 := (eh_2 _ (by decide)).trans O1
    replace O15 := (eh_2 _ (by decide)).trans O15
    replace O21 := (eh_2 _ (by decide)).trans O21
    replace O22 := (eh_2 _ (by decide)).trans O22
    replace O24 := (eh_2 _ (by decide)).trans O24
    replace hf : ∀ i, i ≠ 0 → i ≠ 22 → i ≠ 24 → h_2 i = h i := fun i g0 g1 g2 => (eh_2 i g0).trans (hf i g0 g1 g2)
    have ew : wWhich x t n p l0 v = -1 := by
      first | (simp only [c8, if_true, if_false, ite_true, ite_false, and_true, true_and, and_false, false_and, and_self, or_true, true_or, or_false, false_or, or_self, not_true_eq_false, not_false_eq_true, decide_true, decide_false, Bool.and_true, Bool.true_and, Bool.and_false, Bool.false_and, Bool.and_self, Bool.or_true, Bool.true_or, Bool.or_false, Bool.false_or, Bool.not_true, Bool.not_false, cond_true, cond_false, bI_t, bI_f, Bool.false_eq_true, Bool.true_eq_false, dayC_1, dayC_21, dayC_221, dayC_222, wWhich, wRow, w01, wP, wPL, wP01, wL01, wRow, w01R, wAB, wNum, isP, isL]; done)
    refine A_iret dX9_which_27 rfl ⟨_, rfl, (by rw [ew]; exact rV_n (by decide)), _, _, (by rw [ew]; first | (rw [rS_0]; exact O0) | exact O0), O22, O24, hf⟩
  · skip
    try simp only [bI_0, bI_n0, Classical.not_not, Bool.not_eq_false, Bool.true_and, Bool.and_true, decide_eq_true_eq, decide_eq_false_iff_not, dayC_1, dayC_21, dayC_221, dayC_222] at c8
    obtain ⟨k_p, rfl, hk_p⟩ := inN_ex c8 (by omega)
    have cl_p : (nI k_p).toNatClampNeg = k_p := nI_clamp (by omega)
    refine A_aload_n 12 dX9_which_11 rfl rfl rfl ?_
    refine A_getfield 15 dX9_which_12 rfl f_X9_10 O0 rfl ?_
    refine A_iload_n 16 dX9_which_15 rfl rfl rfl ?_
    refine A_callVI 19 (S_X8_isLaw X l (by first | assumption | decide | omega | exact Ne.symm (by assumption))) dX9_which_16 rfl kX8_isLaw lk_X9_111 rfl O1 (by decide) rfl (Nat.le_of_ble_eq_true rfl) (fun v_3 h_3 qh_3 => ?_)
    obtain ⟨rfl, rfl⟩ := qh_3
    refine A_if_ne 28 22 dX9_which_19 (by decide) rfl (fun c19 => ?_) (fun c19 => ?_)
    · skip
      try simp only [bI_0, bI_n0, Classical.not_not, Bool.not_eq_false, Bool.true_and, Bool.and_true, decide_eq_true_eq, decide_eq_false_iff_not, dayC_1, dayC_21, dayC_221, dayC_222] at c19
      obtain ⟨k_l0, rfl, hk_l0⟩ := inN_ex c19 (by omega)
      have cl_l0 : (nI k_l0).toNatClampNeg = k_l0 := nI_clamp (by omega)
      refine A_iload_n 29 dX9_which_28 rfl rfl rfl ?_
      refine A_if_lt 37 32 dX9_which_29 (by decide) rfl (fun c29 => ?_) (fun c29 => ?_)
      · skip
        try simp only [bI_0, bI_n0, Classical.not_not, Bool.not_eq_false, Bool.true_and, Bool.and_true, decide_eq_true_eq, decide_eq_false_iff_not, dayC_1, dayC_21, dayC_221, dayC_222] at c29
        have n29 := Int32.not_le.mpr c29
        refine A_aload_n 38 dX9_which_37 rfl rfl rfl ?_
        refine A_bipush 40 (-2) dX9_which_38 rfl (by decide) ?_
        refine A_callVI 43 (S_X9_refuse X l (by first | assumption | decide | omega | exact Ne.symm (by assumption)) (by first | assumption | (unfold CD; decide))) dX9_which_40 rfl kX9_refuse lk_X9_79 rfl O0 (by decide) rfl (Nat.le_of_ble_eq_true rfl) (fun v_4 h_4 qh_4 => ?_)
        obtain ⟨rfl, n0h_4, eh_4⟩ := qh_4
        replace O0 := n0h_4
        replace O1 := (eh_4 _ (by decide)).trans O1
        replace O15 := (eh_4 _ (by decide)).trans O15
        replace O21 := (eh_4 _ (by decide)).trans O21
        replace O22 := (eh_4 _ (by decide)).trans O22
        replace O24 := (eh_4 _ (by decide)).trans O24
        replace hf : ∀ i, i ≠ 0 → i ≠ 22 → i ≠ 24 → h_4 i = h i := fun i g0 g1 g2 => (eh_4 i g0).trans (hf i g0 g1 g2)
        have ew : wWhich x t n (nI k_p) (nI k_l0) v = -2 := by
          first | (simp only [c8, cl_p, c19, cl_l0, c29, n29, if_true, if_false, ite_true, ite_false, and_true, true_and, and_false, false_and, and_self, or_true, true_or, or_false, false_or, or_self, not_true_eq_false, not_false_eq_true, decide_true, decide_false, Bool.and_true, Bool.true_and, Bool.and_false, Bool.false_and, Bool.and_self, Bool.or_true, Bool.true_or, Bool.or_false, Bool.false_or, Bool.not_true, Bool.not_false, cond_true, cond_false, bI_t, bI_f, Bool.false_eq_true, Bool.true_eq_false, dayC_1, dayC_21, dayC_221, dayC_222, wWhich, wRow, w01, wP, wPL, wP01, wL01, wRow, w01R, wAB, wNum, isP, isL]; done)
        refine A_iret dX9_which_43 rfl ⟨_, rfl, (by rw [ew]; exact rV_n (by decide)), _, _, (by rw [ew]; first | (rw [rS_0]; exact O0) | exact O0), O22, O24, hf⟩
      · skip
        try simp only [bI_0, bI_n0, Classical.not_not, Bool.not_eq_false, Bool.true_and, Bool.and_true, decide_eq_true_eq, decide_eq_false_iff_not, dayC_1, dayC_21, dayC_221, dayC_222] at c29
        have n29 := Int32.not_lt.mp c29
        refine A_iload_n 33 dX9_which_32 rfl rfl rfl ?_
        refine A_iconst 34 (2) dX9_which_33 rfl (by decide) ?_
        refine A_icmp_le 44 37 dX9_which_34 (by decide) rfl (fun c34 => ?_) (fun c34 => ?_)
        · skip
          try simp only [bI_0, bI_n0, Classical.not_not, Bool.not_eq_false, Bool.true_and, Bool.and_true, decide_eq_true_eq, decide_eq_false_iff_not, dayC_1, dayC_21, dayC_221, dayC_222] at c34
          have n34 := c34
          replace c34 := Int32.not_lt.mpr c34
          obtain ⟨k_v, rfl, hk_v⟩ := nI_exg (n := 2) c29 c34 (by decide)
          have cl_v : (nI k_v).toNatClampNeg = k_v := nI_clamp (by omega)
          refine A_aload_n 45 dX9_which_44 rfl rfl rfl ?_
          refine A_getfield 48 dX9_which_45 rfl f_X9_36 O0 rfl ?_
          refine A_aload_n 49 dX9_which_48 rfl rfl rfl ?_
          refine A_getfield 52 dX9_which_49 rfl f_X9_10 O0 rfl ?_
          refine A_callVI 55 (S_X7_isOfLaws X l (by first | assumption | decide | omega | exact Ne.symm (by assumption)) (by first | assumption | decide | omega | exact Ne.symm (by assumption)) (by first | assumption | decide | omega | exact Ne.symm (by assumption)) (by first | assumption | decide | omega | exact Ne.symm (by assumption))) dX9_which_52 rfl kX7_isOfLaws lk_X9_224 rfl O15 (by decide) rfl (Nat.le_of_ble_eq_true rfl) (fun v_5 h_5 qh_5 => ?_)
          obtain ⟨rfl, rfl⟩ := qh_5
          refine A_if_ne 65 58 dX9_which_55 (by decide) rfl (fun c55 => ?_) (fun c55 => ?_)
          · skip
            try simp only [bI_0, bI_n0, Classical.not_not, Bool.not_eq_false, Bool.true_and, Bool.and_true, decide_eq_true_eq, decide_eq_false_iff_not, dayC_1, dayC_21, dayC_221, dayC_222] at c55
            refine A_aload_n 66 dX9_which_65 rfl rfl rfl ?_
            refine A_getfield 69 dX9_which_66 rfl f_X9_68 O0 rfl ?_
            refine A_aload_n 70 dX9_which_69 rfl rfl rfl ?_
            refine A_getfield 73 dX9_which_70 rfl f_X9_10 O0 rfl ?_
            refine A_aload_n 74 dX9_which_73 rfl rfl rfl ?_
            refine A_getfield 77 dX9_which_74 rfl f_X9_10 O0 rfl ?_
            refine A_iload_n 78 dX9_which_77 rfl rfl rfl ?_
            refine A_callVI 81 (S_X8_pocketsOf X l (by first | assumption | decide | omega | exact Ne.symm (by assumption)) (by first | assumption | decide | omega | exact Ne.symm (by assumption))) dX9_which_78 rfl kX8_pocketsOf lk_X9_122 rfl O1 (by decide) rfl (Nat.le_of_ble_eq_true rfl) (fun v_6 h_6 qh_6 => ?_)
            obtain ⟨rfl, rfl⟩ := qh_6
            refine A_iload_n 82 dX9_which_81 rfl rfl rfl ?_
            refine A_iload_n 83 dX9_which_82 rfl rfl rfl ?_
            refine A_aload_n 84 dX9_which_83 rfl rfl rfl ?_
            refine A_getfield 87 dX9_which_84 rfl f_X9_36 O0 rfl ?_
            refine A_callVI 90 (S_X0_fittingParts X l (k := k_l0) (j := k_v) O21 O22 O24 O1 O15 hx hn (by omega) (by omega)) dX9_which_87 rfl kX0_fittingParts lk_X9_255 rfl O21 (by decide) rfl (Nat.le_of_ble_eq_true rfl) (fun v_7 h_7 qh_7 => ?_)
            obtain ⟨rfl, y1_7, x3_7, n0h_7, n1h_7, eh_7⟩ := qh_7
            replace O0 := (eh_7 _ (by decide) (by decide)).trans O0
            replace O1 := (eh_7 _ (by decide) (by decide)).trans O1
            replace O15 := (eh_7 _ (by decide) (by decide)).trans O15
            replace O21 := (eh_7 _ (by decide) (by decide)).trans O21
            replace O22 := n0h_7
            replace O24 := n1h_7
            replace hf : ∀ i, i ≠ 0 → i ≠ 22 → i ≠ 24 → h_7 i = h i := fun i g0 g1 g2 => (eh_7 i g1 g2).trans (hf i g0 g1 g2)
            have ew : wWhich x t n (nI k_p) (nI k_l0) (nI k_v) = 0 := by
              first | (simp only [c8, cl_p, c19, cl_l0, c29, n29, c34, n34, cl_v, c55, if_true, if_false, ite_true, ite_false, and_true, true_and, and_false, false_and, and_self, or_true, true_or, or_false, false_or, or_self, not_true_eq_false, not_false_eq_true, decide_true, decide_false, Bool.and_true, Bool.true_and, Bool.and_false, Bool.false_and, Bool.and_self, Bool.or_true, Bool.true_or, Bool.or_false, Bool.false_or, Bool.not_true, Bool.not_false, cond_true, cond_false, bI_t, bI_f, Bool.false_eq_true, Bool.true_eq_false, dayC_1, dayC_21, dayC_221, dayC_222, wWhich, wRow, w01, wP, wPL, wP01, wL01, wRow, w01R, wAB, wNum, isP, isL]; done)
            refine A_iret dX9_which_90 rfl ⟨_, rfl, (by rw [ew, rV_0]; unfold aWhich pk; rw [cl_p, cl_l0, cl_v]), _, _, (by rw [ew]; first | (rw [rS_0]; exact O0) | exact O0), O22, O24, hf⟩
          · skip
            try simp only [bI_0, bI_n0, Classical.not_not, Bool.not_eq_false, Bool.true_and, Bool.and_true, decide_eq_true_eq, decide_eq_false_iff_not, dayC_1, dayC_21, dayC_221, dayC_222] at c55
            refine A_aload_n 59 dX9_which_58 rfl rfl rfl ?_
            refine A_bipush 61 (-3) dX9_which_59 rfl (by decide) ?_
            refine A_callVI 64 (S_X9_refuse X l (by first | assumption | decide | omega | exact Ne.symm (by assumption)) (by first | assumption | (unfold CD; decide))) dX9_which_61 rfl kX9_refuse lk_X9_79 rfl O0 (by decide) rfl (Nat.le_of_ble_eq_true rfl) (fun v_8 h_8 qh_8 => ?_)
            obtain ⟨rfl, n0h_8, eh_8⟩ := qh_8
            replace O0 := n0h_8
            replace O1 := (eh_8 _ (by decide)).trans O1
            replace O15 := (eh_8 _ (by decide)).trans O15
            replace O21 := (eh_8 _ (by decide)).trans O21
            replace O22 := (eh_8 _ (by decide)).trans O22
            replace O24 := (eh_8 _ (by decide)).trans O24
            replace hf : ∀ i, i ≠ 0 → i ≠ 22 → i ≠ 24 → h_8 i = h i := fun i g0 g1 g2 => (eh_8 i g0).trans (hf i g0 g1 g2)
            have ew : wWhich x t n (nI k_p) (nI k_l0) (nI k_v) = -3 := by
              first | (simp only [c8, cl_p, c19, cl_l0, c29, n29, c34, n34, cl_v, c55, if_true, if_false, ite_true, ite_false, and_true, true_and, and_false, false_and, and_self, or_true, true_or, or_false, false_or, or_self, not_true_eq_false, not_false_eq_true, decide_true, decide_false, Bool.and_true, Bool.true_and, Bool.and_false, Bool.false_and, Bool.and_self, Bool.or_true, Bool.true_or, Bool.or_false, Bool.false_or, Bool.not_true, Bool.not_false, cond_true, cond_false, bI_t, bI_f, Bool.false_eq_true, Bool.true_eq_false, dayC_1, dayC_21, dayC_221, dayC_222, wWhich, wRow, w01, wP, wPL, wP01, wL01, wRow, w01R, wAB, wNum, isP, isL]; done)
            refine A_iret dX9_which_64 rfl ⟨_, rfl, (by rw [ew]; exact rV_n (by decide)), _, _, (by rw [ew]; first | (rw [rS_0]; exact O0) | exact O0), O22, O24, hf⟩
        · skip
          try simp only [bI_0, bI_n0, Classical.not_not, Bool.not_eq_false, Bool.true_and, Bool.and_true, decide_eq_true_eq, decide_eq_false_iff_not, dayC_1, dayC_21, dayC_221, dayC_222] at c34
          have n34 := c34
          replace c34 := Int32.not_le.mp c34
          refine A_aload_n 38 dX9_which_37 rfl rfl rfl ?_
          refine A_bipush 40 (-2) dX9_which_38 rfl (by decide) ?_
          refine A_callVI 43 (S_X9_refuse X l (by first | assumption | decide | omega | exact Ne.symm (by assumption)) (by first | assumption | (unfold CD; decide))) dX9_which_40 rfl kX9_refuse lk_X9_79 rfl O0 (by decide) rfl (Nat.le_of_ble_eq_true rfl) (fun v_9 h_9 qh_9 => ?_)
          obtain ⟨rfl, n0h_9, eh_9⟩ := qh_9
          replace O0 := n0h_9
          replace O1 := (eh_9 _ (by decide)).trans O1
          replace O15 := (eh_9 _ (by decide)).trans O15
          replace O21 := (eh_9 _ (by decide)).trans O21
          replace O22 := (eh_9 _ (by decide)).trans O22
          replace O24 := (eh_9 _ (by decide)).trans O24
          replace hf : ∀ i, i ≠ 0 → i ≠ 22 → i ≠ 24 → h_9 i = h i := fun i g0 g1 g2 => (eh_9 i g0).trans (hf i g0 g1 g2)
          have ew : wWhich x t n (nI k_p) (nI k_l0) v = -2 := by
            first | (simp only [c8, cl_p, c19, cl_l0, c29, n29, c34, n34, if_true, if_false, ite_true, ite_false, and_true, true_and, and_false, false_and, and_self, or_true, true_or, or_false, false_or, or_self, not_true_eq_false, not_false_eq_true, decide_true, decide_false, Bool.and_true, Bool.true_and, Bool.and_false, Bool.false_and, Bool.and_self, Bool.or_true, Bool.true_or, Bool.or_false, Bool.false_or, Bool.not_true, Bool.not_false, cond_true, cond_false, bI_t, bI_f, Bool.false_eq_true, Bool.true_eq_false, dayC_1, dayC_21, dayC_221, dayC_222, wWhich, wRow, w01, wP, wPL, wP01, wL01, wRow, w01R, wAB, wNum, isP, isL]; done)
          refine A_iret dX9_which_43 rfl ⟨_, rfl, (by rw [ew]; exact rV_n (by decide)), _, _, (by rw [ew]; first | (rw [rS_0]; exact O0) | exact O0), O22, O24, hf⟩
    · skip
      try simp only [bI_0, bI_n0, Classical.not_not, Bool.not_eq_false, Bool.true_and, Bool.and_true, decide_eq_true_eq, decide_eq_false_iff_not, dayC_1, dayC_21, dayC_221, dayC_222] at c19
      refine A_aload_n 23 dX9_which_22 rfl rfl rfl ?_
      refine A_iconst 24 (-1) dX9_which_23 rfl (by decide) ?_
      refine A_callVI 27 (S_X9_refuse X l (by first | assumption | decide | omega | exact Ne.symm (by assumption)) (by first | assumption | (unfold CD; decide))) dX9_which_24 rfl kX9_refuse lk_X9_79 rfl O0 (by decide) rfl (Nat.le_of_ble_eq_true rfl) (fun v_10 h_10 qh_10 => ?_)
      obtain ⟨rfl, n0h_10, eh_10⟩ := qh_10
      replace O0 := n0h_10
      replace O1 := (eh_10 _ (by decide)).trans O1
      replace O15 := (eh_10 _ (by decide)).trans O15
      replace O21 := (eh_10 _ (by decide)).trans O21
      replace O22 := (eh_10 _ (by decide)).trans O22
      replace O24 := (eh_10 _ (by decide)).trans O24
      replace hf : ∀ i, i ≠ 0 → i ≠ 22 → i ≠ 24 → h_10 i = h i := fun i g0 g1 g2 => (eh_10 i g0).trans (hf i g0 g1 g2)
      have ew : wWhich x t n (nI k_p) l0 v = -1 := by
        first | (simp only [c8, cl_p, c19, if_true, if_false, ite_true, ite_false, and_true, true_and, and_false, false_and, and_self, or_true, true_or, or_false, false_or, or_self, not_true_eq_false, not_false_eq_true, decide_true, decide_false, Bool.and_true, Bool.true_and, Bool.and_false, Bool.false_and, Bool.and_self, Bool.or_true, Bool.true_or, Bool.or_false, Bool.false_or, Bool.not_true, Bool.not_false, cond_true, cond_false, bI_t, bI_f, Bool.false_eq_true, Bool.true_eq_false, dayC_1, dayC_21, dayC_221, dayC_222, wWhich, wRow, w01, wP, wPL, wP01, wL01, wRow, w01R, wAB, wNum, isP, isL]; done)
      refine A_iret dX9_which_27 rfl ⟨_, rfl, (by rw [ew]; exact rV_n (by decide)), _, _, (by rw [ew]; first | (rw [rS_0]; exact O0) | exact O0), O22, O24, hf⟩
set_option maxHeartbeats 4000000 in
set_option maxRecDepth 100000 in
theorem S_X9_tray (X : En) (l : Launch) {h : Hp} {x : PW} {g : Int32} {r : FI} (O0 : h 0 = some (maB g r)) (O1 : h 1 = some (wB 1 x)) (hW : WOK x) {y26 : PC} {s : Nat → Int64} {g25 : FI} (O25 : h 25 = some (foB s g25)) (O26 : h 26 = some (cB 26 y26)) {v : Int32} : Ct X l mX9_tray [aR 0 0, aI v] h (QI (fun vr h2 => (rV (w01 v) (aTray x v (MOW x))) = vr ∧ ∃ (z25 : FI) (z26 : PC), h2 (0) = some (maB g (rS (w01 v) r)) ∧ h2 (25) = some (foB s z25) ∧ h2 (26) = some (cB 26 z26) ∧ ∀ i, i ≠ 0 → i ≠ 25 → i ≠ 26 → h2 i = h i)) := by
  have hx := hW.1
  have hp := hW.2.1
  have h10 := hx.1
  have hf : ∀ i, i ≠ 0 → i ≠ 25 → i ≠ 26 → h i = h i := fun _ _ _ _ => rfl
  refine Ct.intro [some (aR 0 0), some (aI v)] (by decide +kernel) rfl (Nat.le_of_ble_eq_true rfl) ?_
  refine A_iload_n 1 dX9_tray_0 rfl rfl rfl ?_
  refine A_callSI 4 (S_X9_isNot0or1 X l) dX9_tray_1 rfl kX9_isNot0or1 lk_X9_174 rfl (by decide) rfl (Nat.le_of_ble_eq_true rfl) (fun v_1 h_1 qh_1 => ?_)
  obtain ⟨rfl, rfl⟩ := qh_1
  refine A_if_eq 14 7 dX9_tray_4 (by decide) rfl (fun c4 => ?_) (fun c4 => ?_)
  · skip
    try simp only [bI_0, bI_n0, Classical.not_not, Bool.not_eq_false, Bool.true_and, Bool.and_true, decide_eq_true_eq, decide_eq_false_iff_not, dayC_1, dayC_21, dayC_221, dayC_222] at c4
    refine A_iload_n 15 dX9_tray_14 rfl rfl rfl ?_
    refine A_if_ne 28 18 dX9_tray_15 (by decide) rfl (fun c15 => ?_) (fun c15 => ?_)
    · skip
      try simp only [bI_0, bI_n0, Classical.not_not, Bool.not_eq_false, Bool.true_and, Bool.and_true, decide_eq_true_eq, decide_eq_false_iff_not, dayC_1, dayC_21, dayC_221, dayC_222] at c15
      refine A_aload_n 29 dX9_tray_28 rfl rfl rfl ?_
      refine A_getfield 32 dX9_tray_29 rfl f_X9_75 O0 rfl ?_
      refine A_aload_n 33 dX9_tray_32 rfl rfl rfl ?_
      refine A_getfield 36 dX9_tray_33 rfl f_X9_10 O0 rfl ?_
      refine A_callVI 39 (S_X2_mostOwners X l (by first | assumption | decide | omega | exact Ne.symm (by assumption)) (by first | assumption | decide | omega | exact Ne.symm (by assumption)) (by first | assumption | decide | omega | exact Ne.symm (by assumption)) (by first | assumption | decide | omega | exact Ne.symm (by assumption)) (by first | assumption | decide | omega | exact Ne.symm (by assumption))) dX9_tray_36 rfl kX2_mostOwners lk_X9_262 rfl O25 (by decide) rfl (Nat.le_of_ble_eq_true rfl) (fun v_2 h_2 qh_2 => ?_)
      obtain ⟨rfl, g3_2, y1_2, n0h_2, n1h_2, eh_2⟩ := qh_2
      replace O0 := (eh_2 _ (by decide) (by decide)).trans O0
      replace O1 := (eh_2 _ (by decide) (by decide)).trans O1
      replace O25 := n0h_2
      replace O26 := n1h_2
      replace hf : ∀ i, i ≠ 0 → i ≠ 25 → i ≠ 26 → h_2 i = h i := fun i g0 g1 g2 => (eh_2 i g1 g2).trans (hf i g0 g1 g2)
      have ew : w01 v = 0 := by
        first | (simp only [c4, c15, if_true, if_false, ite_true, ite_false, and_true, true_and, and_false, false_and, and_self, or_true, true_or, or_false, false_or, or_self, not_true_eq_false, not_false_eq_true, decide_true, decide_false, Bool.and_true, Bool.true_and, Bool.and_false, Bool.false_and, Bool.and_self, Bool.or_true, Bool.true_or, Bool.or_false, Bool.false_or, Bool.not_true, Bool.not_false, cond_true, cond_false, bI_t, bI_f, Bool.false_eq_true, Bool.true_eq_false, dayC_1, dayC_21, dayC_221, dayC_222, w01, wP, wPL, wP01, wL01, wRow, w01R, wAB, wNum, isP, isL]; done)
      refine A_iret dX9_tray_39 rfl ⟨_, rfl, (by rw [ew, rV_0]; first | (simp only [c4, c15, if_true, if_false, ite_true, ite_false, and_true, true_and, and_false, false_and, and_self, or_true, true_or, or_false, false_or, or_self, not_true_eq_false, not_false_eq_true, decide_true, decide_false, Bool.and_true, Bool.true_and, Bool.and_false, Bool.false_and, Bool.and_self, Bool.or_true, Bool.true_or, Bool.or_false, Bool.false_or, Bool.not_true, Bool.not_false, cond_true, cond_false, bI_t, bI_f, Bool.false_eq_true, Bool.true_eq_false, dayC_1, dayC_21, dayC_221, dayC_222, aTray, pk]; done) | (simp [aTray, pk, *]; done)), _, _, (by rw [ew]; first | (rw [rS_0]; exact O0) | exact O0), O25, O26, hf⟩
    · skip
      try simp only [bI_0, bI_n0, Classical.not_not, Bool.not_eq_false, Bool.true_and, Bool.and_true, decide_eq_true_eq, decide_eq_false_iff_not, dayC_1, dayC_21, dayC_221, dayC_222] at c15
      refine A_aload_n 19 dX9_tray_18 rfl rfl rfl ?_
      refine A_getfield 22 dX9_tray_19 rfl f_X9_10 O0 rfl ?_
      refine A_callVI 25 (S_X8_onTheTray X l (by first | assumption | decide | omega | exact Ne.symm (by assumption))) dX9_tray_22 rfl kX8_onTheTray lk_X9_259 rfl O1 (by decide) rfl (Nat.le_of_ble_eq_true rfl) (fun v_3 h_3 qh_3 => ?_)
      obtain ⟨rfl, rfl⟩ := qh_3
      refine A_goto 39 dX9_tray_25 (by decide) ?_
      have ew : w01 v = 0 := by
        first | (simp only [c4, c15, if_true, if_false, ite_true, ite_false, and_true, true_and, and_false, false_and, and_self, or_true, true_or, or_false, false_or, or_self, not_true_eq_false, not_false_eq_true, decide_true, decide_false, Bool.and_true, Bool.true_and, Bool.and_false, Bool.false_and, Bool.and_self, Bool.or_true, Bool.true_or, Bool.or_false, Bool.false_or, Bool.not_true, Bool.not_false, cond_true, cond_false, bI_t, bI_f, Bool.false_eq_true, Bool.true_eq_false, dayC_1, dayC_21, dayC_221, dayC_222, w01, wP, wPL, wP01, wL01, wRow, w01R, wAB, wNum, isP, isL]; done) | (simp only [c4, eq_true c15, if_true, if_false, ite_true, ite_false, and_true, true_and, and_false, false_and, and_self, or_true, true_or, or_false, false_or, or_self, not_true_eq_false, not_false_eq_true, decide_true, decide_false, Bool.and_true, Bool.true_and, Bool.and_false, Bool.false_and, Bool.and_self, Bool.or_true, Bool.true_or, Bool.or_false, Bool.false_or, Bool.not_true, Bool.not_false, cond_true, cond_false, bI_t, bI_f, Bool.false_eq_true, Bool.true_eq_false, dayC_1, dayC_21, dayC_221, dayC_222, w01, wP, wPL, wP01, wL01, wRow, w01R, wAB, wNum, isP, isL]; done)
      refine A_iret dX9_tray_39 rfl ⟨_, rfl, (by rw [ew, rV_0]; first | (simp only [c4, c15, if_true, if_false, ite_true, ite_false, and_true, true_and, and_false, false_and, and_self, or_true, true_or, or_false, false_or, or_self, not_true_eq_false, not_false_eq_true, decide_true, decide_false, Bool.and_true, Bool.true_and, Bool.and_false, Bool.false_and, Bool.and_self, Bool.or_true, Bool.true_or, Bool.or_false, Bool.false_or, Bool.not_true, Bool.not_false, cond_true, cond_false, bI_t, bI_f, Bool.false_eq_true, Bool.true_eq_false, dayC_1, dayC_21, dayC_221, dayC_222, aTray, pk]; done) | (simp only [c4, eq_true c15, if_true, if_false, ite_true, ite_false, and_true, true_and, and_false, false_and, and_self, or_true, true_or, or_false, false_or, or_self, not_true_eq_false, not_false_eq_true, decide_true, decide_false, Bool.and_true, Bool.true_and, Bool.and_false, Bool.false_and, Bool.and_self, Bool.or_true, Bool.true_or, Bool.or_false, Bool.false_or, Bool.not_true, Bool.not_false, cond_true, cond_false, bI_t, bI_f, Bool.false_eq_true, Bool.true_eq_false, dayC_1, dayC_21, dayC_221, dayC_222, aTray, pk]; done) | (simp [aTray, pk, *]; done)), _, _, (by rw [ew]; first | (rw [rS_0]; exact O0) | exact O0), O25, O26, hf⟩
  · skip
    try simp only [bI_0, bI_n0, Classical.not_not, Bool.not_eq_false, Bool.true_and, Bool.and_true, decide_eq_true_eq, decide_eq_false_iff_not, dayC_1, dayC_21, dayC_221, dayC_222] at c4
    refine A_aload_n 8 dX9_tray_7 rfl rfl rfl ?_
    refine A_bipush 10 (-2) dX9_tray_8 rfl (by decide) ?_
    refine A_callVI 13 (S_X9_refuse X l (by first | assumption | decide | omega | exact Ne.symm (by assumption)) (by first | assumption | (unfold CD; decide))) dX9_tray_10 rfl kX9_refuse lk_X9_79 rfl O0 (by decide) rfl (Nat.le_of_ble_eq_true rfl) (fun v_4 h_4 qh_4 => ?_)
    obtain ⟨rfl, n0h_4, eh_4⟩ := qh_4
    replace O0 := n0h_4
    replace O1 := (eh_4 _ (by decide)).trans O1
    replace O25 := (eh_4 _ (by decide)).trans O25
    replace O26 := (eh_4 _ (by decide)).trans O26
    replace hf : ∀ i, i ≠ 0 → i ≠ 25 → i ≠ 26 → h_4 i = h i := fun i g0 g1 g2 => (eh_4 i g0).trans (hf i g0 g1 g2)
    have ew : w01 v = -2 := by
      first | (simp only [c4, if_true, if_false, ite_true, ite_false, and_true, true_and, and_false, false_and, and_self, or_true, true_or, or_false, false_or, or_self, not_true_eq_false, not_false_eq_true, decide_true, decide_false, Bool.and_true, Bool.true_and, Bool.and_false, Bool.false_and, Bool.and_self, Bool.or_true, Bool.true_or, Bool.or_false, Bool.false_or, Bool.not_true, Bool.not_false, cond_true, cond_false, bI_t, bI_f, Bool.false_eq_true, Bool.true_eq_false, dayC_1, dayC_21, dayC_221, dayC_222, w01, wP, wPL, wP01, wL01, wRow, w01R, wAB, wNum, isP, isL]; done)
    refine A_iret dX9_tray_13 rfl ⟨_, rfl, (by rw [ew]; exact rV_n (by decide)), _, _, (by rw [ew]; first | (rw [rS_0]; exact O0) | exact O0), O25, O26, hf⟩
set_option maxHeartbeats 4000000 in
set_option maxRecDepth 100000 in
theorem S_X9_rounds (X : En) (l : Launch) {h : Hp} {x : PW} {g : Int32} {r : FI} (O0 : h 0 = some (maB g r)) (O1 : h 1 = some (wB 1 x)) (hW : WOK x) {x27 : PW} {y26 : PC} {s : Nat → Int64} {g25 : FI} (O25 : h 25 = some (foB s g25)) (O26 : h 26 = some (cB 26 y26)) (O27 : h 27 = some (wB 27 x27)) : Ct X l mX9_rounds [aR 0 0] h (QI (fun vr h2 => (FR x) = vr ∧ ∃ (s2 : Nat → Int64) (y2 : PC) (x3 : PW), h2 (25) = some (foB s2 g25) ∧ h2 (26) = some (cB 26 y2) ∧ h2 (27) = some (wB 27 x3) ∧ ∀ i, i ≠ 25 → i ≠ 26 → i ≠ 27 → h2 i = h i)) := by
  have hx := hW.1
  have hp := hW.2.1
  have hf : ∀ i, i ≠ 25 → i ≠ 26 → i ≠ 27 → h i = h i := fun _ _ _ _ => rfl
  refine Ct.intro [some (aR 0 0)] (by decide +kernel) rfl (Nat.le_of_ble_eq_true rfl) ?_
  refine A_aload_n 1 dX9_rounds_0 rfl rfl rfl ?_
  refine A_getfield 4 dX9_rounds_1 rfl f_X9_75 O0 rfl ?_
  refine A_aload_n 5 dX9_rounds_4 rfl rfl rfl ?_
  refine A_getfield 8 dX9_rounds_5 rfl f_X9_10 O0 rfl ?_
  refine A_callVI 11 (S_X2_firstReturn X l (by first | assumption | decide | omega | exact Ne.symm (by assumption)) (by first | assumption | decide | omega | exact Ne.symm (by assumption)) (by first | assumption | decide | omega | exact Ne.symm (by assumption)) (by first | assumption | decide | omega | exact Ne.symm (by assumption)) (by first | assumption | decide | omega | exact Ne.symm (by assumption)) (by first | assumption | decide | omega | exact Ne.symm (by assumption))) dX9_rounds_8 rfl kX2_firstReturn lk_X9_271 rfl O25 (by decide) rfl (Nat.le_of_ble_eq_true rfl) (fun v_1 h_1 qh_1 => ?_)
  obtain ⟨rfl, s1_1, y1_1, x3_1, n0h_1, n1h_1, n2h_1, eh_1⟩ := qh_1
  replace O0 := (eh_1 _ (by decide) (by decide) (by decide)).trans O0
  replace O1 := (eh_1 _ (by decide) (by decide) (by decide)).trans O1
  replace O25 := n0h_1
  replace O26 := n1h_1
  replace O27 := n2h_1
  replace hf : ∀ i, i ≠ 25 → i ≠ 26 → i ≠ 27 → h_1 i = h i := fun i g0 g1 g2 => (eh_1 i g0 g1 g2).trans (hf i g0 g1 g2)
  refine A_iret dX9_rounds_11 rfl ⟨_, rfl, (by first | with_reducible rfl | (simp only [if_true, if_false, ite_true, ite_false, and_true, true_and, and_false, false_and, and_self, or_true, true_or, or_false, false_or, or_self, not_true_eq_false, not_false_eq_true, decide_true, decide_false, Bool.and_true, Bool.true_and, Bool.and_false, Bool.false_and, Bool.and_self, Bool.or_true, Bool.true_or, Bool.or_false, Bool.false_or, Bool.not_true, Bool.not_false, cond_true, cond_false, bI_t, bI_f, Bool.false_eq_true, Bool.true_eq_false, dayC_1, dayC_21, dayC_221, dayC_222]; done) | (simp only [*]; done) | (simp [bI, *]; done) | with_reducible_and_instances rfl), _, _, _, O25, O26, O27, hf⟩
set_option maxHeartbeats 4000000 in
set_option maxRecDepth 100000 in
theorem S_X9_chance (X : En) (l : Launch) {h : Hp} {x : PW} {g : Int32} {r : FI} (O0 : h 0 = some (maB g r)) (O1 : h 1 = some (wB 1 x)) (hW : WOK x)  {y20 : PC} (O19 : h 19 = some (seB)) (O20 : h 20 = some (cB 20 y20)) {p l0 t v : Int32} : Ct X l mX9_chance [aR 0 0, aI p, aI l0, aI t, aI v] h (QL (fun vr h2 => (rVL (wCh x p l0 t v) (aCh x p l0 t v)) = vr ∧ ∃ (z20 : PC), h2 (0) = some (maB g (rS (wCh x p l0 t v) r)) ∧ h2 (20) = some (cB 20 z20) ∧ ∀ i, i ≠ 0 → i ≠ 20 → h2 i = h i)) := by
  have hx := hW.1
  have hp := hW.2.1
  have h10 := hx.1
  have hf : ∀ i, i ≠ 0 → i ≠ 20 → h i = h i := fun _ _ _ => rfl
  refine Ct.intro [some (aR 0 0), some (aI p), some (aI l0), some (aI t), some (aI v), none] (by decide +kernel) rfl (Nat.le_of_ble_eq_true rfl) ?_
  refine A_aload_n 1 dX9_chance_0 rfl rfl rfl ?_
  refine A_getfield 4 dX9_chance_1 rfl f_X9_10 O0 rfl ?_
  refine A_iload_n 5 dX9_chance_4 rfl rfl rfl ?_
  refine A_callVI 8 (S_X8_isPerson X l (by first | assumption | decide | omega | exact Ne.symm (by assumption))) dX9_chance_5 rfl kX8_isPerson lk_X9_119 rfl O1 (by decide) rfl (Nat.le_of_ble_eq_true rfl) (fun v_1 h_1 qh_1 => ?_)
  obtain ⟨rfl, rfl⟩ := qh_1
  refine A_if_eq 22 11 dX9_chance_8 (by decide) rfl (fun c8 => ?_) (fun c8 => ?_)
  · skip
    try simp only [bI_0, bI_n0, Classical.not_not, Bool.not_eq_false, Bool.true_and, Bool.and_true, decide_eq_true_eq, decide_eq_false_iff_not, dayC_1, dayC_21, dayC_221, dayC_222] at c8
    refine A_aload_n 23 dX9_chance_22 rfl rfl rfl ?_
    refine A_iconst 24 (-1) dX9_chance_23 rfl (by decide) ?_
    refine A_callVL 27 (S_X9_refuseLong X l (by first | assumption | decide | omega | exact Ne.symm (by assumption)) (by first | assumption | (unfold CD; decide))) dX9_chance_24 rfl kX9_refuseLong lk_X9_238 rfl O0 (by decide) rfl (Nat.le_of_ble_eq_true rfl) (fun v_2 h_2 qh_2 => ?_)
    obtain ⟨rfl, n0h_2, eh_2⟩ := qh_2
    replace O0 := n0h_2
    replace O1 := (eh_2 _ (by decide)).trans O1
    replace O19 := (eh_2 _ (by decide)).trans O19
    replace O20 := (eh_2 _ (by decide)).trans O20
    replace hf : ∀ i, i ≠ 0 → i ≠ 20 → h_2 i = h i := fun i g0 g1 => (eh_2 i g0).trans (hf i g0 g1)
    have ew : wCh x p l0 t v = -1 := by
      first | (simp only [c8, if_true, if_false, ite_true, ite_false, and_true, true_and, and_false, false_and, and_self, or_true, true_or, or_false, false_or, or_self, not_true_eq_false, not_false_eq_true, decide_true, decide_false, Bool.and_true, Bool.true_and, Bool.and_false, Bool.false_and, Bool.and_self, Bool.or_true, Bool.true_or, Bool.or_false, Bool.false_or, Bool.not_true, Bool.not_false, cond_true, cond_false, bI_t, bI_f, Bool.false_eq_true, Bool.true_eq_false, dayC_1, dayC_21, dayC_221, dayC_222, wCh, w01, wP, wPL, wP01, wL01, wRow, w01R, wAB, wNum, isP, isL]; done)
    refine A_lret dX9_chance_27 rfl ⟨_, rfl, (by rw [ew]; exact rVL_n (by decide)), _, (by rw [ew]; first | (rw [rS_0]; exact O0) | exact O0), O20, hf⟩
  · skip
    try simp only [bI_0, bI_n0, Classical.not_not, Bool.not_eq_false, Bool.true_and, Bool.and_true, decide_eq_true_eq, decide_eq_false_iff_not, dayC_1, dayC_21, dayC_221, dayC_222] at c8
    obtain ⟨k_p, rfl, hk_p⟩ := inN_ex c8 (by omega)
    have cl_p : (nI k_p).toNatClampNeg = k_p := nI_clamp (by omega)
    refine A_aload_n 12 dX9_chance_11 rfl rfl rfl ?_
    refine A_getfield 15 dX9_chance_12 rfl f_X9_10 O0 rfl ?_
    refine A_iload_n 16 dX9_chance_15 rfl rfl rfl ?_
    refine A_callVI 19 (S_X8_isLaw X l (by first | assumption | decide | omega | exact Ne.symm (by assumption))) dX9_chance_16 rfl kX8_isLaw lk_X9_111 rfl O1 (by decide) rfl (Nat.le_of_ble_eq_true rfl) (fun v_3 h_3 qh_3 => ?_)
    obtain ⟨rfl, rfl⟩ := qh_3
    refine A_if_ne 28 22 dX9_chance_19 (by decide) rfl (fun c19 => ?_) (fun c19 => ?_)
    · skip
      try simp only [bI_0, bI_n0, Classical.not_not, Bool.not_eq_false, Bool.true_and, Bool.and_true, decide_eq_true_eq, decide_eq_false_iff_not, dayC_1, dayC_21, dayC_221, dayC_222] at c19
      obtain ⟨k_l0, rfl, hk_l0⟩ := inN_ex c19 (by omega)
      have cl_l0 : (nI k_l0).toNatClampNeg = k_l0 := nI_clamp (by omega)
      refine A_iload_n 29 dX9_chance_28 rfl rfl rfl ?_
      refine A_iconst 30 (2) dX9_chance_29 rfl (by decide) ?_
      refine A_icmp_ge 40 33 dX9_chance_30 (by decide) rfl (fun c30 => ?_) (fun c30 => ?_)
      · skip
        try simp only [bI_0, bI_n0, Classical.not_not, Bool.not_eq_false, Bool.true_and, Bool.and_true, decide_eq_true_eq, decide_eq_false_iff_not, dayC_1, dayC_21, dayC_221, dayC_222] at c30
        have n30 := c30
        replace c30 := Int32.not_lt.mpr c30
        refine A_iload_n 41 dX9_chance_40 rfl rfl rfl ?_
        refine A_bipush 43 (20) dX9_chance_41 rfl (by decide) ?_
        refine A_icmp_le 53 46 dX9_chance_43 (by decide) rfl (fun c43 => ?_) (fun c43 => ?_)
        · skip
          try simp only [bI_0, bI_n0, Classical.not_not, Bool.not_eq_false, Bool.true_and, Bool.and_true, decide_eq_true_eq, decide_eq_false_iff_not, dayC_1, dayC_21, dayC_221, dayC_222] at c43
          have n43 := c43
          replace c43 := Int32.not_lt.mpr c43
          refine A_iload 55 dX9_chance_53 rfl rfl ?_
          refine A_callSI 58 (S_X9_isNot0or1 X l) dX9_chance_55 rfl kX9_isNot0or1 lk_X9_174 rfl (by decide) rfl (Nat.le_of_ble_eq_true rfl) (fun v_4 h_4 qh_4 => ?_)
          obtain ⟨rfl, rfl⟩ := qh_4
          refine A_if_eq 68 61 dX9_chance_58 (by decide) rfl (fun c58 => ?_) (fun c58 => ?_)
          · skip
            try simp only [bI_0, bI_n0, Classical.not_not, Bool.not_eq_false, Bool.true_and, Bool.and_true, decide_eq_true_eq, decide_eq_false_iff_not, dayC_1, dayC_21, dayC_221, dayC_222] at c58
            refine A_aload_n 69 dX9_chance_68 rfl rfl rfl ?_
            refine A_getfield 72 dX9_chance_69 rfl f_X9_10 O0 rfl ?_
            refine A_iload_n 73 dX9_chance_72 rfl rfl rfl ?_
            refine A_callVI 76 (S_X8_pocketsOf X l (by first | assumption | decide | omega | exact Ne.symm (by assumption)) (by first | assumption | decide | omega | exact Ne.symm (by assumption))) dX9_chance_73 rfl kX8_pocketsOf lk_X9_122 rfl O1 (by decide) rfl (Nat.le_of_ble_eq_true rfl) (fun v_5 h_5 qh_5 => ?_)
            obtain ⟨rfl, rfl⟩ := qh_5
            refine A_istore 78 dX9_chance_76 rfl (by decide) (by first | exact (ast_s (ast_s (ast_s (ast_s (ast_1 rfl))))) | exact (ast_s (ast_s (ast_s (ast_s ast_k))))) ?_
            refine A_aload_n 79 dX9_chance_78 rfl rfl rfl ?_
            refine A_getfield 82 dX9_chance_79 rfl f_X9_61 O0 rfl ?_
            refine A_aload_n 83 dX9_chance_82 rfl rfl rfl ?_
            refine A_getfield 86 dX9_chance_83 rfl f_X9_10 O0 rfl ?_
            refine A_iload 88 dX9_chance_86 rfl rfl ?_
            refine A_iload_n 89 dX9_chance_88 rfl rfl rfl ?_
            refine A_iload_n 90 dX9_chance_89 rfl rfl rfl ?_
            refine A_callVL 93 (S_X6_luckyCases X l (by first | assumption | decide | omega | exact Ne.symm (by assumption)) (by first | assumption | decide | omega | exact Ne.symm (by assumption)) (by first | assumption | decide | omega | exact Ne.symm (by assumption)) (by first | assumption | decide | omega | exact Ne.symm (by assumption))) dX9_chance_90 rfl kX6_luckyCases lk_X9_274 rfl O19 (by decide) rfl (Nat.le_of_ble_eq_true rfl) (fun v_6 h_6 qh_6 => ?_)
            obtain ⟨rfl, y1_6, n0h_6, eh_6⟩ := qh_6
            replace O0 := (eh_6 _ (by decide)).trans O0
            replace O1 := (eh_6 _ (by decide)).trans O1
            replace O19 := (eh_6 _ (by decide)).trans O19
            replace O20 := n0h_6
            replace hf : ∀ i, i ≠ 0 → i ≠ 20 → h_6 i = h i := fun i g0 g1 => (eh_6 i g1).trans (hf i g0 g1)
            refine A_iload_n 94 dX9_chance_93 rfl rfl rfl ?_
            refine A_i2l 95 dX9_chance_94 rfl ?_
            refine A_iload 97 dX9_chance_95 rfl rfl ?_
            refine A_callSI 100 (S_J6_bitCount_0f7a4 X l) dX9_chance_97 rfl kJ6_bitCount_0f7a4 lk_X9_190 rfl (by decide) rfl (Nat.le_of_ble_eq_true rfl) (fun v_7 h_7 qh_7 => ?_)
            obtain ⟨rfl, rfl⟩ := qh_7
            rw [(R10_pop (WOK_pk hW (p := k_p) (by omega)).r10).1]
            have hpo := (R10_pop (WOK_pk hW (p := k_p) (by omega)).r10).2
            refine A_callSL 103 (S_X9_power X l (by first | assumption | decide | omega | exact Ne.symm (by assumption))) dX9_chance_100 rfl kX9_power lk_X9_278 rfl (by decide) rfl (Nat.le_of_ble_eq_true rfl) (fun v_8 h_8 qh_8 => ?_)
            obtain ⟨rfl, rfl⟩ := qh_8
            refine A_iload 105 dX9_chance_103 rfl rfl ?_
            refine A_callSL 108 (S_X9_lowest X l) dX9_chance_105 rfl kX9_lowest lk_X9_245 rfl (by decide) rfl (Nat.le_of_ble_eq_true rfl) (fun v_9 h_9 qh_9 => ?_)
            obtain ⟨rfl, rfl⟩ := qh_9
            have ew : wCh x (nI k_p) (nI k_l0) t v = 0 := by
              first | (simp only [c8, cl_p, c19, cl_l0, c30, n30, c43, n43, c58, if_true, if_false, ite_true, ite_false, and_true, true_and, and_false, false_and, and_self, or_true, true_or, or_false, false_or, or_self, not_true_eq_false, not_false_eq_true, decide_true, decide_false, Bool.and_true, Bool.true_and, Bool.and_false, Bool.false_and, Bool.and_self, Bool.or_true, Bool.true_or, Bool.or_false, Bool.false_or, Bool.not_true, Bool.not_false, cond_true, cond_false, bI_t, bI_f, Bool.false_eq_true, Bool.true_eq_false, dayC_1, dayC_21, dayC_221, dayC_222, wCh, w01, wP, wPL, wP01, wL01, wRow, w01R, wAB, wNum, isP, isL]; done)
            refine A_lret dX9_chance_108 rfl ⟨_, rfl, (by rw [ew, rVL_0]; unfold aCh pk; rw [cl_p]), _, (by rw [ew]; first | (rw [rS_0]; exact O0) | exact O0), O20, hf⟩
          · skip
            try simp only [bI_0, bI_n0, Classical.not_not, Bool.not_eq_false, Bool.true_and, Bool.and_true, decide_eq_true_eq, decide_eq_false_iff_not, dayC_1, dayC_21, dayC_221, dayC_222] at c58
            refine A_aload_n 62 dX9_chance_61 rfl rfl rfl ?_
            refine A_bipush 64 (-2) dX9_chance_62 rfl (by decide) ?_
            refine A_callVL 67 (S_X9_refuseLong X l (by first | assumption | decide | omega | exact Ne.symm (by assumption)) (by first | assumption | (unfold CD; decide))) dX9_chance_64 rfl kX9_refuseLong lk_X9_238 rfl O0 (by decide) rfl (Nat.le_of_ble_eq_true rfl) (fun v_10 h_10 qh_10 => ?_)
            obtain ⟨rfl, n0h_10, eh_10⟩ := qh_10
            replace O0 := n0h_10
            replace O1 := (eh_10 _ (by decide)).trans O1
            replace O19 := (eh_10 _ (by decide)).trans O19
            replace O20 := (eh_10 _ (by decide)).trans O20
            replace hf : ∀ i, i ≠ 0 → i ≠ 20 → h_10 i = h i := fun i g0 g1 => (eh_10 i g0).trans (hf i g0 g1)
            have ew : wCh x (nI k_p) (nI k_l0) t v = -2 := by
              first | (simp only [c8, cl_p, c19, cl_l0, c30, n30, c43, n43, c58, if_true, if_false, ite_true, ite_false, and_true, true_and, and_false, false_and, and_self, or_true, true_or, or_false, false_or, or_self, not_true_eq_false, not_false_eq_true, decide_true, decide_false, Bool.and_true, Bool.true_and, Bool.and_false, Bool.false_and, Bool.and_self, Bool.or_true, Bool.true_or, Bool.or_false, Bool.false_or, Bool.not_true, Bool.not_false, cond_true, cond_false, bI_t, bI_f, Bool.false_eq_true, Bool.true_eq_false, dayC_1, dayC_21, dayC_221, dayC_222, wCh, w01, wP, wPL, wP01, wL01, wRow, w01R, wAB, wNum, isP, isL]; done)
            refine A_lret dX9_chance_67 rfl ⟨_, rfl, (by rw [ew]; exact rVL_n (by decide)), _, (by rw [ew]; first | (rw [rS_0]; exact O0) | exact O0), O20, hf⟩
        · skip
          try simp only [bI_0, bI_n0, Classical.not_not, Bool.not_eq_false, Bool.true_and, Bool.and_true, decide_eq_true_eq, decide_eq_false_iff_not, dayC_1, dayC_21, dayC_221, dayC_222] at c43
          have n43 := c43
          replace c43 := Int32.not_le.mp c43
          refine A_aload_n 47 dX9_chance_46 rfl rfl rfl ?_
          refine A_bipush 49 (-6) dX9_chance_47 rfl (by decide) ?_
          refine A_callVL 52 (S_X9_refuseLong X l (by first | assumption | decide | omega | exact Ne.symm (by assumption)) (by first | assumption | (unfold CD; decide))) dX9_chance_49 rfl kX9_refuseLong lk_X9_238 rfl O0 (by decide) rfl (Nat.le_of_ble_eq_true rfl) (fun v_11 h_11 qh_11 => ?_)
          obtain ⟨rfl, n0h_11, eh_11⟩ := qh_11
          replace O0 := n0h_11
          replace O1 := (eh_11 _ (by decide)).trans O1
          replace O19 := (eh_11 _ (by decide)).trans O19
          replace O20 := (eh_11 _ (by decide)).trans O20
          replace hf : ∀ i, i ≠ 0 → i ≠ 20 → h_11 i = h i := fun i g0 g1 => (eh_11 i g0).trans (hf i g0 g1)
          have ew : wCh x (nI k_p) (nI k_l0) t v = -6 := by
            first | (simp only [c8, cl_p, c19, cl_l0, c30, n30, c43, n43, if_true, if_false, ite_true, ite_false, and_true, true_and, and_false, false_and, and_self, or_true, true_or, or_false, false_or, or_self, not_true_eq_false, not_false_eq_true, decide_true, decide_false, Bool.and_true, Bool.true_and, Bool.and_false, Bool.false_and, Bool.and_self, Bool.or_true, Bool.true_or, Bool.or_false, Bool.false_or, Bool.not_true, Bool.not_false, cond_true, cond_false, bI_t, bI_f, Bool.false_eq_true, Bool.true_eq_false, dayC_1, dayC_21, dayC_221, dayC_222, wCh, w01, wP, wPL, wP01, wL01, wRow, w01R, wAB, wNum, isP, isL]; done)
          refine A_lret dX9_chance_52 rfl ⟨_, rfl, (by rw [ew]; exact rVL_n (by decide)), _, (by rw [ew]; first | (rw [rS_0]; exact O0) | exact O0), O20, hf⟩
      · skip
        try simp only [bI_0, bI_n0, Classical.not_not, Bool.not_eq_false, Bool.true_and, Bool.and_true, decide_eq_true_eq, decide_eq_false_iff_not, dayC_1, dayC_21, dayC_221, dayC_222] at c30
        have n30 := c30
        replace c30 := Int32.not_le.mp c30
        refine A_aload_n 34 dX9_chance_33 rfl rfl rfl ?_
        refine A_bipush 36 (-4) dX9_chance_34 rfl (by decide) ?_
        refine A_callVL 39 (S_X9_refuseLong X l (by first | assumption | decide | omega | exact Ne.symm (by assumption)) (by first | assumption | (unfold CD; decide))) dX9_chance_36 rfl kX9_refuseLong lk_X9_238 rfl O0 (by decide) rfl (Nat.le_of_ble_eq_true rfl) (fun v_12 h_12 qh_12 => ?_)
        obtain ⟨rfl, n0h_12, eh_12⟩ := qh_12
        replace O0 := n0h_12
        replace O1 := (eh_12 _ (by decide)).trans O1
        replace O19 := (eh_12 _ (by decide)).trans O19
        replace O20 := (eh_12 _ (by decide)).trans O20
        replace hf : ∀ i, i ≠ 0 → i ≠ 20 → h_12 i = h i := fun i g0 g1 => (eh_12 i g0).trans (hf i g0 g1)
        have ew : wCh x (nI k_p) (nI k_l0) t v = -4 := by
          first | (simp only [c8, cl_p, c19, cl_l0, c30, n30, if_true, if_false, ite_true, ite_false, and_true, true_and, and_false, false_and, and_self, or_true, true_or, or_false, false_or, or_self, not_true_eq_false, not_false_eq_true, decide_true, decide_false, Bool.and_true, Bool.true_and, Bool.and_false, Bool.false_and, Bool.and_self, Bool.or_true, Bool.true_or, Bool.or_false, Bool.false_or, Bool.not_true, Bool.not_false, cond_true, cond_false, bI_t, bI_f, Bool.false_eq_true, Bool.true_eq_false, dayC_1, dayC_21, dayC_221, dayC_222, wCh, w01, wP, wPL, wP01, wL01, wRow, w01R, wAB, wNum, isP, isL]; done)
        refine A_lret dX9_chance_39 rfl ⟨_, rfl, (by rw [ew]; exact rVL_n (by decide)), _, (by rw [ew]; first | (rw [rS_0]; exact O0) | exact O0), O20, hf⟩
    · skip
      try simp only [bI_0, bI_n0, Classical.not_not, Bool.not_eq_false, Bool.true_and, Bool.and_true, decide_eq_true_eq, decide_eq_false_iff_not, dayC_1, dayC_21, dayC_221, dayC_222] at c19
      refine A_aload_n 23 dX9_chance_22 rfl rfl rfl ?_
      refine A_iconst 24 (-1) dX9_chance_23 rfl (by decide) ?_
      refine A_callVL 27 (S_X9_refuseLong X l (by first | assumption | decide | omega | exact Ne.symm (by assumption)) (by first | assumption | (unfold CD; decide))) dX9_chance_24 rfl kX9_refuseLong lk_X9_238 rfl O0 (by decide) rfl (Nat.le_of_ble_eq_true rfl) (fun v_13 h_13 qh_13 => ?_)
      obtain ⟨rfl, n0h_13, eh_13⟩ := qh_13
      replace O0 := n0h_13
      replace O1 := (eh_13 _ (by decide)).trans O1
      replace O19 := (eh_13 _ (by decide)).trans O19
      replace O20 := (eh_13 _ (by decide)).trans O20
      replace hf : ∀ i, i ≠ 0 → i ≠ 20 → h_13 i = h i := fun i g0 g1 => (eh_13 i g0).trans (hf i g0 g1)
      have ew : wCh x (nI k_p) l0 t v = -1 := by
        first | (simp only [c8, cl_p, c19, if_true, if_false, ite_true, ite_false, and_true, true_and, and_false, false_and, and_self, or_true, true_or, or_false, false_or, or_self, not_true_eq_false, not_false_eq_true, decide_true, decide_false, Bool.and_true, Bool.true_and, Bool.and_false, Bool.false_and, Bool.and_self, Bool.or_true, Bool.true_or, Bool.or_false, Bool.false_or, Bool.not_true, Bool.not_false, cond_true, cond_false, bI_t, bI_f, Bool.false_eq_true, Bool.true_eq_false, dayC_1, dayC_21, dayC_221, dayC_222, wCh, w01, wP, wPL, wP01, wL01, wRow, w01R, wAB, wNum, isP, isL]; done)
      refine A_lret dX9_chance_27 rfl ⟨_, rfl, (by rw [ew]; exact rVL_n (by decide)), _, (by rw [ew]; first | (rw [rS_0]; exact O0) | exact O0), O20, hf⟩
set_option maxHeartbeats 4000000 in
set_option maxRecDepth 100000 in
theorem S_X9_trade (X : En) (l : Launch) {h : Hp} {x : PW} {g : Int32} {r : FI} (O0 : h 0 = some (maB g r)) (O1 : h 1 = some (wB 1 x)) (hW : WOK x)  {y26 : PC} {s : Nat → Int64} {g25 : FI} (O25 : h 25 = some (foB s g25)) (O26 : h 26 = some (cB 26 y26)) {a b v : Int32} : Ct X l mX9_trade [aR 0 0, aI a, aI b, aI v] h (QI (fun vr h2 => (rV (wTrade x a b v) (aTrade x a b v)) = vr ∧ ∃ (z26 : PC), h2 (0) = some (maB g (rS (wTrade x a b v) r)) ∧ h2 (26) = some (cB 26 z26) ∧ ∀ i, i ≠ 0 → i ≠ 26 → h2 i = h i)) := by
  have hx := hW.1
  have hp := hW.2.1
  have h10 := hx.1
  have hf : ∀ i, i ≠ 0 → i ≠ 26 → h i = h i := fun _ _ _ => rfl
  refine Ct.intro [some (aR 0 0), some (aI a), some (aI b), some (aI v)] (by decide +kernel) rfl (Nat.le_of_ble_eq_true rfl) ?_
  refine A_aload_n 1 dX9_trade_0 rfl rfl rfl ?_
  refine A_getfield 4 dX9_trade_1 rfl f_X9_10 O0 rfl ?_
  refine A_iload_n 5 dX9_trade_4 rfl rfl rfl ?_
  refine A_callVI 8 (S_X8_isPerson X l (by first | assumption | decide | omega | exact Ne.symm (by assumption))) dX9_trade_5 rfl kX8_isPerson lk_X9_119 rfl O1 (by decide) rfl (Nat.le_of_ble_eq_true rfl) (fun v_1 h_1 qh_1 => ?_)
  obtain ⟨rfl, rfl⟩ := qh_1
  refine A_if_eq 27 11 dX9_trade_8 (by decide) rfl (fun c8 => ?_) (fun c8 => ?_)
  · skip
    try simp only [bI_0, bI_n0, Classical.not_not, Bool.not_eq_false, Bool.true_and, Bool.and_true, decide_eq_true_eq, decide_eq_false_iff_not, dayC_1, dayC_21, dayC_221, dayC_222] at c8
    refine A_aload_n 28 dX9_trade_27 rfl rfl rfl ?_
    refine A_iconst 29 (-1) dX9_trade_28 rfl (by decide) ?_
    refine A_callVI 32 (S_X9_refuse X l (by first | assumption | decide | omega | exact Ne.symm (by assumption)) (by first | assumption | (unfold CD; decide))) dX9_trade_29 rfl kX9_refuse lk_X9_79 rfl O0 (by decide) rfl (Nat.le_of_ble_eq_true rfl) (fun v_2 h_2 qh_2 => ?_)
    obtain ⟨rfl, n0h_2, eh_2⟩ := qh_2
    replace O0 := n0h_2
    replace O1 := (eh_2 _ (by decide)).trans O1
    replace O25 := (eh_2 _ (by decide)).trans O25
    replace O26 := (eh_2 _ (by decide)).trans O26
    replace hf : ∀ i, i ≠ 0 → i ≠ 26 → h_2 i = h i := fun i g0 g1 => (eh_2 i g0).trans (hf i g0 g1)
    have ew : wTrade x a b v = -1 := by
      first | (simp only [c8, if_true, if_false, ite_true, ite_false, and_true, true_and, and_false, false_and, and_self, or_true, true_or, or_false, false_or, or_self, not_true_eq_false, not_false_eq_true, decide_true, decide_false, Bool.and_true, Bool.true_and, Bool.and_false, Bool.false_and, Bool.and_self, Bool.or_true, Bool.true_or, Bool.or_false, Bool.false_or, Bool.not_true, Bool.not_false, cond_true, cond_false, bI_t, bI_f, Bool.false_eq_true, Bool.true_eq_false, dayC_1, dayC_21, dayC_221, dayC_222, wTrade, w01, wP, wPL, wP01, wL01, wRow, w01R, wAB, wNum, isP, isL]; done)
    refine A_iret dX9_trade_32 rfl ⟨_, rfl, (by rw [ew]; exact rV_n (by decide)), _, (by rw [ew]; first | (rw [rS_0]; exact O0) | exact O0), O26, hf⟩
  · skip
    try simp only [bI_0, bI_n0, Classical.not_not, Bool.not_eq_false, Bool.true_and, Bool.and_true, decide_eq_true_eq, decide_eq_false_iff_not, dayC_1, dayC_21, dayC_221, dayC_222] at c8
    obtain ⟨k_a, rfl, hk_a⟩ := inN_ex c8 (by omega)
    have cl_a : (nI k_a).toNatClampNeg = k_a := nI_clamp (by omega)
    refine A_aload_n 12 dX9_trade_11 rfl rfl rfl ?_
    refine A_getfield 15 dX9_trade_12 rfl f_X9_10 O0 rfl ?_
    refine A_iload_n 16 dX9_trade_15 rfl rfl rfl ?_
    refine A_callVI 19 (S_X8_isPerson X l (by first | assumption | decide | omega | exact Ne.symm (by assumption))) dX9_trade_16 rfl kX8_isPerson lk_X9_119 rfl O1 (by decide) rfl (Nat.le_of_ble_eq_true rfl) (fun v_3 h_3 qh_3 => ?_)
    obtain ⟨rfl, rfl⟩ := qh_3
    refine A_if_eq 27 22 dX9_trade_19 (by decide) rfl (fun c19 => ?_) (fun c19 => ?_)
    · skip
      try simp only [bI_0, bI_n0, Classical.not_not, Bool.not_eq_false, Bool.true_and, Bool.and_true, decide_eq_true_eq, decide_eq_false_iff_not, dayC_1, dayC_21, dayC_221, dayC_222] at c19
      refine A_aload_n 28 dX9_trade_27 rfl rfl rfl ?_
      refine A_iconst 29 (-1) dX9_trade_28 rfl (by decide) ?_
      refine A_callVI 32 (S_X9_refuse X l (by first | assumption | decide | omega | exact Ne.symm (by assumption)) (by first | assumption | (unfold CD; decide))) dX9_trade_29 rfl kX9_refuse lk_X9_79 rfl O0 (by decide) rfl (Nat.le_of_ble_eq_true rfl) (fun v_4 h_4 qh_4 => ?_)
      obtain ⟨rfl, n0h_4, eh_4⟩ := qh_4
      replace O0 := n0h_4
      replace O1 := (eh_4 _ (by decide)).trans O1
      replace O25 := (eh_4 _ (by decide)).trans O25
      replace O26 := (eh_4 _ (by decide)).trans O26
      replace hf : ∀ i, i ≠ 0 → i ≠ 26 → h_4 i = h i := fun i g0 g1 => (eh_4 i g0).trans (hf i g0 g1)
      have ew : wTrade x (nI k_a) b v = -1 := by
        first | (simp only [c8, cl_a, c19, if_true, if_false, ite_true, ite_false, and_true, true_and, and_false, false_and, and_self, or_true, true_or, or_false, false_or, or_self, not_true_eq_false, not_false_eq_true, decide_true, decide_false, Bool.and_true, Bool.true_and, Bool.and_false, Bool.false_and, Bool.and_self, Bool.or_true, Bool.true_or, Bool.or_false, Bool.false_or, Bool.not_true, Bool.not_false, cond_true, cond_false, bI_t, bI_f, Bool.false_eq_true, Bool.true_eq_false, dayC_1, dayC_21, dayC_221, dayC_222, wTrade, w01, wP, wPL, wP01, wL01, wRow, w01R, wAB, wNum, isP, isL]; done)
      refine A_iret dX9_trade_32 rfl ⟨_, rfl, (by rw [ew]; exact rV_n (by decide)), _, (by rw [ew]; first | (rw [rS_0]; exact O0) | exact O0), O26, hf⟩
    · skip
      try simp only [bI_0, bI_n0, Classical.not_not, Bool.not_eq_false, Bool.true_and, Bool.and_true, decide_eq_true_eq, decide_eq_false_iff_not, dayC_1, dayC_21, dayC_221, dayC_222] at c19
      obtain ⟨k_b, rfl, hk_b⟩ := inN_ex c19 (by omega)
      have cl_b : (nI k_b).toNatClampNeg = k_b := nI_clamp (by omega)
      refine A_iload_n 23 dX9_trade_22 rfl rfl rfl ?_
      refine A_iload_n 24 dX9_trade_23 rfl rfl rfl ?_
      refine A_icmp_ne 33 27 dX9_trade_24 (by decide) rfl (fun c24 => ?_) (fun c24 => ?_)
      · skip
        try simp only [bI_0, bI_n0, Classical.not_not, Bool.not_eq_false, Bool.true_and, Bool.and_true, decide_eq_true_eq, decide_eq_false_iff_not, dayC_1, dayC_21, dayC_221, dayC_222] at c24
        refine A_iload_n 34 dX9_trade_33 rfl rfl rfl ?_
        refine A_callSI 37 (S_X9_isNot0or1 X l) dX9_trade_34 rfl kX9_isNot0or1 lk_X9_174 rfl (by decide) rfl (Nat.le_of_ble_eq_true rfl) (fun v_5 h_5 qh_5 => ?_)
        obtain ⟨rfl, rfl⟩ := qh_5
        refine A_if_eq 47 40 dX9_trade_37 (by decide) rfl (fun c37 => ?_) (fun c37 => ?_)
        · skip
          try simp only [bI_0, bI_n0, Classical.not_not, Bool.not_eq_false, Bool.true_and, Bool.and_true, decide_eq_true_eq, decide_eq_false_iff_not, dayC_1, dayC_21, dayC_221, dayC_222] at c37
          refine A_aload_n 48 dX9_trade_47 rfl rfl rfl ?_
          refine A_getfield 51 dX9_trade_48 rfl f_X9_75 O0 rfl ?_
          refine A_aload_n 52 dX9_trade_51 rfl rfl rfl ?_
          refine A_getfield 55 dX9_trade_52 rfl f_X9_10 O0 rfl ?_
          refine A_aload_n 56 dX9_trade_55 rfl rfl rfl ?_
          refine A_getfield 59 dX9_trade_56 rfl f_X9_10 O0 rfl ?_
          refine A_iload_n 60 dX9_trade_59 rfl rfl rfl ?_
          refine A_callVI 63 (S_X8_pocketsOf X l (by first | assumption | decide | omega | exact Ne.symm (by assumption)) (by first | assumption | decide | omega | exact Ne.symm (by assumption))) dX9_trade_60 rfl kX8_pocketsOf lk_X9_122 rfl O1 (by decide) rfl (Nat.le_of_ble_eq_true rfl) (fun v_6 h_6 qh_6 => ?_)
          obtain ⟨rfl, rfl⟩ := qh_6
          refine A_aload_n 64 dX9_trade_63 rfl rfl rfl ?_
          refine A_getfield 67 dX9_trade_64 rfl f_X9_10 O0 rfl ?_
          refine A_iload_n 68 dX9_trade_67 rfl rfl rfl ?_
          refine A_callVI 71 (S_X8_pocketsOf X l (by first | assumption | decide | omega | exact Ne.symm (by assumption)) (by first | assumption | decide | omega | exact Ne.symm (by assumption))) dX9_trade_68 rfl kX8_pocketsOf lk_X9_122 rfl O1 (by decide) rfl (Nat.le_of_ble_eq_true rfl) (fun v_7 h_7 qh_7 => ?_)
          obtain ⟨rfl, rfl⟩ := qh_7
          refine A_iload_n 72 dX9_trade_71 rfl rfl rfl ?_
          refine A_callVI 75 (S_X2_bestTrade X l (by first | assumption | decide | omega | exact Ne.symm (by assumption)) (by first | assumption | decide | omega | exact Ne.symm (by assumption)) (by first | assumption | decide | omega | exact Ne.symm (by assumption)) (by first | assumption | decide | omega | exact Ne.symm (by assumption)) (by first | assumption | decide | omega | exact Ne.symm (by assumption))) dX9_trade_72 rfl kX2_bestTrade lk_X9_306 rfl O25 (by decide) rfl (Nat.le_of_ble_eq_true rfl) (fun v_8 h_8 qh_8 => ?_)
          obtain ⟨rfl, y1_8, n0h_8, eh_8⟩ := qh_8
          replace O0 := (eh_8 _ (by decide)).trans O0
          replace O1 := (eh_8 _ (by decide)).trans O1
          replace O25 := (eh_8 _ (by decide)).trans O25
          replace O26 := n0h_8
          replace hf : ∀ i, i ≠ 0 → i ≠ 26 → h_8 i = h i := fun i g0 g1 => (eh_8 i g1).trans (hf i g0 g1)
          have ew : wTrade x (nI k_a) (nI k_b) v = 0 := by
            first | (simp only [c8, cl_a, c19, cl_b, c24, c37, if_true, if_false, ite_true, ite_false, and_true, true_and, and_false, false_and, and_self, or_true, true_or, or_false, false_or, or_self, not_true_eq_false, not_false_eq_true, decide_true, decide_false, Bool.and_true, Bool.true_and, Bool.and_false, Bool.false_and, Bool.and_self, Bool.or_true, Bool.true_or, Bool.or_false, Bool.false_or, Bool.not_true, Bool.not_false, cond_true, cond_false, bI_t, bI_f, Bool.false_eq_true, Bool.true_eq_false, dayC_1, dayC_21, dayC_221, dayC_222, wTrade, w01, wP, wPL, wP01, wL01, wRow, w01R, wAB, wNum, isP, isL]; done)
          refine A_iret dX9_trade_75 rfl ⟨_, rfl, (by rw [ew, rV_0]; first | (simp only [c8, cl_a, c19, cl_b, c24, c37, if_true, if_false, ite_true, ite_false, and_true, true_and, and_false, false_and, and_self, or_true, true_or, or_false, false_or, or_self, not_true_eq_false, not_false_eq_true, decide_true, decide_false, Bool.and_true, Bool.true_and, Bool.and_false, Bool.false_and, Bool.and_self, Bool.or_true, Bool.true_or, Bool.or_false, Bool.false_or, Bool.not_true, Bool.not_false, cond_true, cond_false, bI_t, bI_f, Bool.false_eq_true, Bool.true_eq_false, dayC_1, dayC_21, dayC_221, dayC_222, aTrade, pk]; done) | (simp [aTrade, pk, *]; done)), _, (by rw [ew]; first | (rw [rS_0]; exact O0) | exact O0), O26, hf⟩
        · skip
          try simp only [bI_0, bI_n0, Classical.not_not, Bool.not_eq_false, Bool.true_and, Bool.and_true, decide_eq_true_eq, decide_eq_false_iff_not, dayC_1, dayC_21, dayC_221, dayC_222] at c37
          refine A_aload_n 41 dX9_trade_40 rfl rfl rfl ?_
          refine A_bipush 43 (-2) dX9_trade_41 rfl (by decide) ?_
          refine A_callVI 46 (S_X9_refuse X l (by first | assumption | decide | omega | exact Ne.symm (by assumption)) (by first | assumption | (unfold CD; decide))) dX9_trade_43 rfl kX9_refuse lk_X9_79 rfl O0 (by decide) rfl (Nat.le_of_ble_eq_true rfl) (fun v_9 h_9 qh_9 => ?_)
          obtain ⟨rfl, n0h_9, eh_9⟩ := qh_9
          replace O0 := n0h_9
          replace O1 := (eh_9 _ (by decide)).trans O1
          replace O25 := (eh_9 _ (by decide)).trans O25
          replace O26 := (eh_9 _ (by decide)).trans O26
          replace hf : ∀ i, i ≠ 0 → i ≠ 26 → h_9 i = h i := fun i g0 g1 => (eh_9 i g0).trans (hf i g0 g1)
          have ew : wTrade x (nI k_a) (nI k_b) v = -2 := by
            first | (simp only [c8, cl_a, c19, cl_b, c24, c37, if_true, if_false, ite_true, ite_false, and_true, true_and, and_false, false_and, and_self, or_true, true_or, or_false, false_or, or_self, not_true_eq_false, not_false_eq_true, decide_true, decide_false, Bool.and_true, Bool.true_and, Bool.and_false, Bool.false_and, Bool.and_self, Bool.or_true, Bool.true_or, Bool.or_false, Bool.false_or, Bool.not_true, Bool.not_false, cond_true, cond_false, bI_t, bI_f, Bool.false_eq_true, Bool.true_eq_false, dayC_1, dayC_21, dayC_221, dayC_222, wTrade, w01, wP, wPL, wP01, wL01, wRow, w01R, wAB, wNum, isP, isL]; done)
          refine A_iret dX9_trade_46 rfl ⟨_, rfl, (by rw [ew]; exact rV_n (by decide)), _, (by rw [ew]; first | (rw [rS_0]; exact O0) | exact O0), O26, hf⟩
      · skip
        try simp only [bI_0, bI_n0, Classical.not_not, Bool.not_eq_false, Bool.true_and, Bool.and_true, decide_eq_true_eq, decide_eq_false_iff_not, dayC_1, dayC_21, dayC_221, dayC_222] at c24
        refine A_aload_n 28 dX9_trade_27 rfl rfl rfl ?_
        refine A_iconst 29 (-1) dX9_trade_28 rfl (by decide) ?_
        refine A_callVI 32 (S_X9_refuse X l (by first | assumption | decide | omega | exact Ne.symm (by assumption)) (by first | assumption | (unfold CD; decide))) dX9_trade_29 rfl kX9_refuse lk_X9_79 rfl O0 (by decide) rfl (Nat.le_of_ble_eq_true rfl) (fun v_10 h_10 qh_10 => ?_)
        obtain ⟨rfl, n0h_10, eh_10⟩ := qh_10
        replace O0 := n0h_10
        replace O1 := (eh_10 _ (by decide)).trans O1
        replace O25 := (eh_10 _ (by decide)).trans O25
        replace O26 := (eh_10 _ (by decide)).trans O26
        replace hf : ∀ i, i ≠ 0 → i ≠ 26 → h_10 i = h i := fun i g0 g1 => (eh_10 i g0).trans (hf i g0 g1)
        have ew : wTrade x (nI k_a) (nI k_b) v = -1 := by
          first | (simp only [c8, cl_a, c19, cl_b, c24, if_true, if_false, ite_true, ite_false, and_true, true_and, and_false, false_and, and_self, or_true, true_or, or_false, false_or, or_self, not_true_eq_false, not_false_eq_true, decide_true, decide_false, Bool.and_true, Bool.true_and, Bool.and_false, Bool.false_and, Bool.and_self, Bool.or_true, Bool.true_or, Bool.or_false, Bool.false_or, Bool.not_true, Bool.not_false, cond_true, cond_false, bI_t, bI_f, Bool.false_eq_true, Bool.true_eq_false, dayC_1, dayC_21, dayC_221, dayC_222, wTrade, w01, wP, wPL, wP01, wL01, wRow, w01R, wAB, wNum, isP, isL]; done) | (simp only [c8, cl_a, c19, cl_b, eq_true c24, if_true, if_false, ite_true, ite_false, and_true, true_and, and_false, false_and, and_self, or_true, true_or, or_false, false_or, or_self, not_true_eq_false, not_false_eq_true, decide_true, decide_false, Bool.and_true, Bool.true_and, Bool.and_false, Bool.false_and, Bool.and_self, Bool.or_true, Bool.true_or, Bool.or_false, Bool.false_or, Bool.not_true, Bool.not_false, cond_true, cond_false, bI_t, bI_f, Bool.false_eq_true, Bool.true_eq_false, dayC_1, dayC_21, dayC_221, dayC_222, wTrade, w01, wP, wPL, wP01, wL01, wRow, w01R, wAB, wNum, isP, isL]; done)
        refine A_iret dX9_trade_32 rfl ⟨_, rfl, (by rw [ew]; exact rV_n (by decide)), _, (by rw [ew]; first | (rw [rS_0]; exact O0) | exact O0), O26, hf⟩
set_option maxHeartbeats 4000000 in
set_option maxRecDepth 100000 in
theorem S_X9_give (X : En) (l : Launch) {h : Hp} {x : PW} {g : Int32} {r : FI} (O0 : h 0 = some (maB g r)) (O1 : h 1 = some (wB 1 x)) (hW : WOK x)  {y26 : PC} {s : Nat → Int64} {g25 : FI} (O25 : h 25 = some (foB s g25)) (O26 : h 26 = some (cB 26 y26)) {a b : Int32} : Ct X l mX9_give [aR 0 0, aI a, aI b] h (QI (fun vr h2 => (rV (wAB x a b) (aGive x a b)) = vr ∧ ∃ (z26 : PC), h2 (0) = some (maB g (rS (wAB x a b) r)) ∧ h2 (26) = some (cB 26 z26) ∧ ∀ i, i ≠ 0 → i ≠ 26 → h2 i = h i)) := by
  have hx := hW.1
  have hp := hW.2.1
  have h10 := hx.1
  have hf : ∀ i, i ≠ 0 → i ≠ 26 → h i = h i := fun _ _ _ => rfl
  refine Ct.intro [some (aR 0 0), some (aI a), some (aI b)] (by decide +kernel) rfl (Nat.le_of_ble_eq_true rfl) ?_
  refine A_aload_n 1 dX9_give_0 rfl rfl rfl ?_
  refine A_getfield 4 dX9_give_1 rfl f_X9_10 O0 rfl ?_
  refine A_iload_n 5 dX9_give_4 rfl rfl rfl ?_
  refine A_callVI 8 (S_X8_isPerson X l (by first | assumption | decide | omega | exact Ne.symm (by assumption))) dX9_give_5 rfl kX8_isPerson lk_X9_119 rfl O1 (by decide) rfl (Nat.le_of_ble_eq_true rfl) (fun v_1 h_1 qh_1 => ?_)
  obtain ⟨rfl, rfl⟩ := qh_1
  refine A_if_eq 27 11 dX9_give_8 (by decide) rfl (fun c8 => ?_) (fun c8 => ?_)
  · skip
    try simp only [bI_0, bI_n0, Classical.not_not, Bool.not_eq_false, Bool.true_and, Bool.and_true, decide_eq_true_eq, decide_eq_false_iff_not, dayC_1, dayC_21, dayC_221, dayC_222] at c8
    refine A_aload_n 28 dX9_give_27 rfl rfl rfl ?_
    refine A_iconst 29 (-1) dX9_give_28 rfl (by decide) ?_
    refine A_callVI 32 (S_X9_refuse X l (by first | assumption | decide | omega | exact Ne.symm (by assumption)) (by first | assumption | (unfold CD; decide))) dX9_give_29 rfl kX9_refuse lk_X9_79 rfl O0 (by decide) rfl (Nat.le_of_ble_eq_true rfl) (fun v_2 h_2 qh_2 => ?_)
    obtain ⟨rfl, n0h_2, eh_2⟩ := qh_2
    replace O0 := n0h_2
    replace O1 := (eh_2 _ (by decide)).trans O1
    replace O25 := (eh_2 _ (by decide)).trans O25
    replace O26 := (eh_2 _ (by decide)).trans O26
    replace hf : ∀ i, i ≠ 0 → i ≠ 26 → h_2 i = h i := fun i g0 g1 => (eh_2 i g0).trans (hf i g0 g1)
    have ew : wAB x a b = -1 := by
      first | (simp only [c8, if_true, if_false, ite_true, ite_false, and_true, true_and, and_false, false_and, and_self, or_true, true_or, or_false, false_or, or_self, not_true_eq_false, not_false_eq_true, decide_true, decide_false, Bool.and_true, Bool.true_and, Bool.and_false, Bool.false_and, Bool.and_self, Bool.or_true, Bool.true_or, Bool.or_false, Bool.false_or, Bool.not_true, Bool.not_false, cond_true, cond_false, bI_t, bI_f, Bool.false_eq_true, Bool.true_eq_false, dayC_1, dayC_21, dayC_221, dayC_222, w01, wP, wPL, wP01, wL01, wRow, w01R, wAB, wNum, isP, isL]; done)
    refine A_iret dX9_give_32 rfl ⟨_, rfl, (by rw [ew]; exact rV_n (by decide)), _, (by rw [ew]; first | (rw [rS_0]; exact O0) | exact O0), O26, hf⟩
  · skip
    try simp only [bI_0, bI_n0, Classical.not_not, Bool.not_eq_false, Bool.true_and, Bool.and_true, decide_eq_true_eq, decide_eq_false_iff_not, dayC_1, dayC_21, dayC_221, dayC_222] at c8
    obtain ⟨k_a, rfl, hk_a⟩ := inN_ex c8 (by omega)
    have cl_a : (nI k_a).toNatClampNeg = k_a := nI_clamp (by omega)
    refine A_aload_n 12 dX9_give_11 rfl rfl rfl ?_
    refine A_getfield 15 dX9_give_12 rfl f_X9_10 O0 rfl ?_
    refine A_iload_n 16 dX9_give_15 rfl rfl rfl ?_
    refine A_callVI 19 (S_X8_isPerson X l (by first | assumption | decide | omega | exact Ne.symm (by assumption))) dX9_give_16 rfl kX8_isPerson lk_X9_119 rfl O1 (by decide) rfl (Nat.le_of_ble_eq_true rfl) (fun v_3 h_3 qh_3 => ?_)
    obtain ⟨rfl, rfl⟩ := qh_3
    refine A_if_eq 27 22 dX9_give_19 (by decide) rfl (fun c19 => ?_) (fun c19 => ?_)
    · skip
      try simp only [bI_0, bI_n0, Classical.not_not, Bool.not_eq_false, Bool.true_and, Bool.and_true, decide_eq_true_eq, decide_eq_false_iff_not, dayC_1, dayC_21, dayC_221, dayC_222] at c19
      refine A_aload_n 28 dX9_give_27 rfl rfl rfl ?_
      refine A_iconst 29 (-1) dX9_give_28 rfl (by decide) ?_
      refine A_callVI 32 (S_X9_refuse X l (by first | assumption | decide | omega | exact Ne.symm (by assumption)) (by first | assumption | (unfold CD; decide))) dX9_give_29 rfl kX9_refuse lk_X9_79 rfl O0 (by decide) rfl (Nat.le_of_ble_eq_true rfl) (fun v_4 h_4 qh_4 => ?_)
      obtain ⟨rfl, n0h_4, eh_4⟩ := qh_4
      replace O0 := n0h_4
      replace O1 := (eh_4 _ (by decide)).trans O1
      replace O25 := (eh_4 _ (by decide)).trans O25
      replace O26 := (eh_4 _ (by decide)).trans O26
      replace hf : ∀ i, i ≠ 0 → i ≠ 26 → h_4 i = h i := fun i g0 g1 => (eh_4 i g0).trans (hf i g0 g1)
      have ew : wAB x (nI k_a) b = -1 := by
        first | (simp only [c8, cl_a, c19, if_true, if_false, ite_true, ite_false, and_true, true_and, and_false, false_and, and_self, or_true, true_or, or_false, false_or, or_self, not_true_eq_false, not_false_eq_true, decide_true, decide_false, Bool.and_true, Bool.true_and, Bool.and_false, Bool.false_and, Bool.and_self, Bool.or_true, Bool.true_or, Bool.or_false, Bool.false_or, Bool.not_true, Bool.not_false, cond_true, cond_false, bI_t, bI_f, Bool.false_eq_true, Bool.true_eq_false, dayC_1, dayC_21, dayC_221, dayC_222, w01, wP, wPL, wP01, wL01, wRow, w01R, wAB, wNum, isP, isL]; done)
      refine A_iret dX9_give_32 rfl ⟨_, rfl, (by rw [ew]; exact rV_n (by decide)), _, (by rw [ew]; first | (rw [rS_0]; exact O0) | exact O0), O26, hf⟩
    · skip
      try simp only [bI_0, bI_n0, Classical.not_not, Bool.not_eq_false, Bool.true_and, Bool.and_true, decide_eq_true_eq, decide_eq_false_iff_not, dayC_1, dayC_21, dayC_221, dayC_222] at c19
      obtain ⟨k_b, rfl, hk_b⟩ := inN_ex c19 (by omega)
      have cl_b : (nI k_b).toNatClampNeg = k_b := nI_clamp (by omega)
      refine A_iload_n 23 dX9_give_22 rfl rfl rfl ?_
      refine A_iload_n 24 dX9_give_23 rfl rfl rfl ?_
      refine A_icmp_ne 33 27 dX9_give_24 (by decide) rfl (fun c24 => ?_) (fun c24 => ?_)
      · skip
        try simp only [bI_0, bI_n0, Classical.not_not, Bool.not_eq_false, Bool.true_and, Bool.and_true, decide_eq_true_eq, decide_eq_false_iff_not, dayC_1, dayC_21, dayC_221, dayC_222] at c24
        refine A_aload_n 34 dX9_give_33 rfl rfl rfl ?_
        refine A_getfield 37 dX9_give_34 rfl f_X9_75 O0 rfl ?_
        refine A_aload_n 38 dX9_give_37 rfl rfl rfl ?_
        refine A_getfield 41 dX9_give_38 rfl f_X9_10 O0 rfl ?_
        refine A_aload_n 42 dX9_give_41 rfl rfl rfl ?_
        refine A_getfield 45 dX9_give_42 rfl f_X9_10 O0 rfl ?_
        refine A_iload_n 46 dX9_give_45 rfl rfl rfl ?_
        refine A_callVI 49 (S_X8_pocketsOf X l (by first | assumption | decide | omega | exact Ne.symm (by assumption)) (by first | assumption | decide | omega | exact Ne.symm (by assumption))) dX9_give_46 rfl kX8_pocketsOf lk_X9_122 rfl O1 (by decide) rfl (Nat.le_of_ble_eq_true rfl) (fun v_5 h_5 qh_5 => ?_)
        obtain ⟨rfl, rfl⟩ := qh_5
        refine A_aload_n 50 dX9_give_49 rfl rfl rfl ?_
        refine A_getfield 53 dX9_give_50 rfl f_X9_10 O0 rfl ?_
        refine A_iload_n 54 dX9_give_53 rfl rfl rfl ?_
        refine A_callVI 57 (S_X8_pocketsOf X l (by first | assumption | decide | omega | exact Ne.symm (by assumption)) (by first | assumption | decide | omega | exact Ne.symm (by assumption))) dX9_give_54 rfl kX8_pocketsOf lk_X9_122 rfl O1 (by decide) rfl (Nat.le_of_ble_eq_true rfl) (fun v_6 h_6 qh_6 => ?_)
        obtain ⟨rfl, rfl⟩ := qh_6
        refine A_callVI 60 (S_X2_bestGift X l (by first | assumption | decide | omega | exact Ne.symm (by assumption)) (by first | assumption | decide | omega | exact Ne.symm (by assumption)) (by first | assumption | decide | omega | exact Ne.symm (by assumption)) (by first | assumption | decide | omega | exact Ne.symm (by assumption)) (by first | assumption | decide | omega | exact Ne.symm (by assumption))) dX9_give_57 rfl kX2_bestGift lk_X9_329 rfl O25 (by decide) rfl (Nat.le_of_ble_eq_true rfl) (fun v_7 h_7 qh_7 => ?_)
        obtain ⟨rfl, y1_7, n0h_7, eh_7⟩ := qh_7
        replace O0 := (eh_7 _ (by decide)).trans O0
        replace O1 := (eh_7 _ (by decide)).trans O1
        replace O25 := (eh_7 _ (by decide)).trans O25
        replace O26 := n0h_7
        replace hf : ∀ i, i ≠ 0 → i ≠ 26 → h_7 i = h i := fun i g0 g1 => (eh_7 i g1).trans (hf i g0 g1)
        have ew : wAB x (nI k_a) (nI k_b) = 0 := by
          first | (simp only [c8, cl_a, c19, cl_b, c24, if_true, if_false, ite_true, ite_false, and_true, true_and, and_false, false_and, and_self, or_true, true_or, or_false, false_or, or_self, not_true_eq_false, not_false_eq_true, decide_true, decide_false, Bool.and_true, Bool.true_and, Bool.and_false, Bool.false_and, Bool.and_self, Bool.or_true, Bool.true_or, Bool.or_false, Bool.false_or, Bool.not_true, Bool.not_false, cond_true, cond_false, bI_t, bI_f, Bool.false_eq_true, Bool.true_eq_false, dayC_1, dayC_21, dayC_221, dayC_222, w01, wP, wPL, wP01, wL01, wRow, w01R, wAB, wNum, isP, isL]; done)
        refine A_iret dX9_give_60 rfl ⟨_, rfl, (by rw [ew, rV_0]; first | (simp only [c8, cl_a, c19, cl_b, c24, if_true, if_false, ite_true, ite_false, and_true, true_and, and_false, false_and, and_self, or_true, true_or, or_false, false_or, or_self, not_true_eq_false, not_false_eq_true, decide_true, decide_false, Bool.and_true, Bool.true_and, Bool.and_false, Bool.false_and, Bool.and_self, Bool.or_true, Bool.true_or, Bool.or_false, Bool.false_or, Bool.not_true, Bool.not_false, cond_true, cond_false, bI_t, bI_f, Bool.false_eq_true, Bool.true_eq_false, dayC_1, dayC_21, dayC_221, dayC_222, aGive, pk]; done) | (simp [aGive, pk, *]; done)), _, (by rw [ew]; first | (rw [rS_0]; exact O0) | exact O0), O26, hf⟩
      · skip
        try simp only [bI_0, bI_n0, Classical.not_not, Bool.not_eq_false, Bool.true_and, Bool.and_true, decide_eq_true_eq, decide_eq_false_iff_not, dayC_1, dayC_21, dayC_221, dayC_222] at c24
        refine A_aload_n 28 dX9_give_27 rfl rfl rfl ?_
        refine A_iconst 29 (-1) dX9_give_28 rfl (by decide) ?_
        refine A_callVI 32 (S_X9_refuse X l (by first | assumption | decide | omega | exact Ne.symm (by assumption)) (by first | assumption | (unfold CD; decide))) dX9_give_29 rfl kX9_refuse lk_X9_79 rfl O0 (by decide) rfl (Nat.le_of_ble_eq_true rfl) (fun v_8 h_8 qh_8 => ?_)
        obtain ⟨rfl, n0h_8, eh_8⟩ := qh_8
        replace O0 := n0h_8
        replace O1 := (eh_8 _ (by decide)).trans O1
        replace O25 := (eh_8 _ (by decide)).trans O25
        replace O26 := (eh_8 _ (by decide)).trans O26
        replace hf : ∀ i, i ≠ 0 → i ≠ 26 → h_8 i = h i := fun i g0 g1 => (eh_8 i g0).trans (hf i g0 g1)
        have ew : wAB x (nI k_a) (nI k_b) = -1 := by
          first | (simp only [c8, cl_a, c19, cl_b, c24, if_true, if_false, ite_true, ite_false, and_true, true_and, and_false, false_and, and_self, or_true, true_or, or_false, false_or, or_self, not_true_eq_false, not_false_eq_true, decide_true, decide_false, Bool.and_true, Bool.true_and, Bool.and_false, Bool.false_and, Bool.and_self, Bool.or_true, Bool.true_or, Bool.or_false, Bool.false_or, Bool.not_true, Bool.not_false, cond_true, cond_false, bI_t, bI_f, Bool.false_eq_true, Bool.true_eq_false, dayC_1, dayC_21, dayC_221, dayC_222, w01, wP, wPL, wP01, wL01, wRow, w01R, wAB, wNum, isP, isL]; done) | (simp only [c8, cl_a, c19, cl_b, eq_true c24, if_true, if_false, ite_true, ite_false, and_true, true_and, and_false, false_and, and_self, or_true, true_or, or_false, false_or, or_self, not_true_eq_false, not_false_eq_true, decide_true, decide_false, Bool.and_true, Bool.true_and, Bool.and_false, Bool.false_and, Bool.and_self, Bool.or_true, Bool.true_or, Bool.or_false, Bool.false_or, Bool.not_true, Bool.not_false, cond_true, cond_false, bI_t, bI_f, Bool.false_eq_true, Bool.true_eq_false, dayC_1, dayC_21, dayC_221, dayC_222, w01, wP, wPL, wP01, wL01, wRow, w01R, wAB, wNum, isP, isL]; done)
        refine A_iret dX9_give_32 rfl ⟨_, rfl, (by rw [ew]; exact rV_n (by decide)), _, (by rw [ew]; first | (rw [rS_0]; exact O0) | exact O0), O26, hf⟩
set_option maxHeartbeats 4000000 in
set_option maxRecDepth 100000 in
theorem S_X9_adds (X : En) (l : Launch) {h : Hp} {x : PW} {g : Int32} {r : FI} (O0 : h 0 = some (maB g r)) (O1 : h 1 = some (wB 1 x)) (hW : WOK x)  {y20 : PC} (O19 : h 19 = some (seB)) (O20 : h 20 = some (cB 20 y20)) {p t v : Int32} : Ct X l mX9_adds [aR 0 0, aI p, aI t, aI v] h (QL (fun vr h2 => (rVL (wAdds x p t v) (aAdds x p t v)) = vr ∧ ∃ (z20 : PC), h2 (0) = some (maB g (rS (wAdds x p t v) r)) ∧ h2 (20) = some (cB 20 z20) ∧ ∀ i, i ≠ 0 → i ≠ 20 → h2 i = h i)) := by
  have hx := hW.1
  have hp := hW.2.1
  have h10 := hx.1
  have hf : ∀ i, i ≠ 0 → i ≠ 20 → h i = h i := fun _ _ _ => rfl
  refine Ct.intro [some (aR 0 0), some (aI p), some (aI t), some (aI v), none] (by decide +kernel) rfl (Nat.le_of_ble_eq_true rfl) ?_
  refine A_aload_n 1 dX9_adds_0 rfl rfl rfl ?_
  refine A_getfield 4 dX9_adds_1 rfl f_X9_10 O0 rfl ?_
  refine A_iload_n 5 dX9_adds_4 rfl rfl rfl ?_
  refine A_callVI 8 (S_X8_isPerson X l (by first | assumption | decide | omega | exact Ne.symm (by assumption))) dX9_adds_5 rfl kX8_isPerson lk_X9_119 rfl O1 (by decide) rfl (Nat.le_of_ble_eq_true rfl) (fun v_1 h_1 qh_1 => ?_)
  obtain ⟨rfl, rfl⟩ := qh_1
  refine A_if_eq 18 11 dX9_adds_8 (by decide) rfl (fun c8 => ?_) (fun c8 => ?_)
  · skip
    try simp only [bI_0, bI_n0, Classical.not_not, Bool.not_eq_false, Bool.true_and, Bool.and_true, decide_eq_true_eq, decide_eq_false_iff_not, dayC_1, dayC_21, dayC_221, dayC_222] at c8
    refine A_aload_n 19 dX9_adds_18 rfl rfl rfl ?_
    refine A_iconst 20 (-1) dX9_adds_19 rfl (by decide) ?_
    refine A_callVL 23 (S_X9_refuseLong X l (by first | assumption | decide | omega | exact Ne.symm (by assumption)) (by first | assumption | (unfold CD; decide))) dX9_adds_20 rfl kX9_refuseLong lk_X9_238 rfl O0 (by decide) rfl (Nat.le_of_ble_eq_true rfl) (fun v_2 h_2 qh_2 => ?_)
    obtain ⟨rfl, n0h_2, eh_2⟩ := qh_2
    replace O0 := n0h_2
    replace O1 := (eh_2 _ (by decide)).trans O1
    replace O19 := (eh_2 _ (by decide)).trans O19
    replace O20 := (eh_2 _ (by decide)).trans O20
    replace hf : ∀ i, i ≠ 0 → i ≠ 20 → h_2 i = h i := fun i g0 g1 => (eh_2 i g0).trans (hf i g0 g1)
    have ew : wAdds x p t v = -1 := by
      first | (simp only [c8, if_true, if_false, ite_true, ite_false, and_true, true_and, and_false, false_and, and_self, or_true, true_or, or_false, false_or, or_self, not_true_eq_false, not_false_eq_true, decide_true, decide_false, Bool.and_true, Bool.true_and, Bool.and_false, Bool.false_and, Bool.and_self, Bool.or_true, Bool.true_or, Bool.or_false, Bool.false_or, Bool.not_true, Bool.not_false, cond_true, cond_false, bI_t, bI_f, Bool.false_eq_true, Bool.true_eq_false, dayC_1, dayC_21, dayC_221, dayC_222, wAdds, pk, w01, wP, wPL, wP01, wL01, wRow, w01R, wAB, wNum, isP, isL]; done)
    refine A_lret dX9_adds_23 rfl ⟨_, rfl, (by rw [ew]; exact rVL_n (by decide)), _, (by rw [ew]; first | (rw [rS_0]; exact O0) | exact O0), O20, hf⟩
  · skip
    try simp only [bI_0, bI_n0, Classical.not_not, Bool.not_eq_false, Bool.true_and, Bool.and_true, decide_eq_true_eq, decide_eq_false_iff_not, dayC_1, dayC_21, dayC_221, dayC_222] at c8
    obtain ⟨k_p, rfl, hk_p⟩ := inN_ex c8 (by omega)
    have cl_p : (nI k_p).toNatClampNeg = k_p := nI_clamp (by omega)
    refine A_iload_n 12 dX9_adds_11 rfl rfl rfl ?_
    refine A_callSI 15 (S_X9_isThing X l) dX9_adds_12 rfl kX9_isThing lk_X9_125 rfl (by decide) rfl (Nat.le_of_ble_eq_true rfl) (fun v_3 h_3 qh_3 => ?_)
    obtain ⟨rfl, rfl⟩ := qh_3
    refine A_if_ne 24 18 dX9_adds_15 (by decide) rfl (fun c15 => ?_) (fun c15 => ?_)
    · skip
      try simp only [bI_0, bI_n0, Classical.not_not, Bool.not_eq_false, Bool.true_and, Bool.and_true, decide_eq_true_eq, decide_eq_false_iff_not, dayC_1, dayC_21, dayC_221, dayC_222] at c15
      refine A_iload_n 25 dX9_adds_24 rfl rfl rfl ?_
      refine A_callSI 28 (S_X9_isNot0or1 X l) dX9_adds_25 rfl kX9_isNot0or1 lk_X9_174 rfl (by decide) rfl (Nat.le_of_ble_eq_true rfl) (fun v_4 h_4 qh_4 => ?_)
      obtain ⟨rfl, rfl⟩ := qh_4
      refine A_if_eq 38 31 dX9_adds_28 (by decide) rfl (fun c28 => ?_) (fun c28 => ?_)
      · skip
        try simp only [bI_0, bI_n0, Classical.not_not, Bool.not_eq_false, Bool.true_and, Bool.and_true, decide_eq_true_eq, decide_eq_false_iff_not, dayC_1, dayC_21, dayC_221, dayC_222] at c28
        refine A_aload_n 39 dX9_adds_38 rfl rfl rfl ?_
        refine A_getfield 42 dX9_adds_39 rfl f_X9_10 O0 rfl ?_
        refine A_iload_n 43 dX9_adds_42 rfl rfl rfl ?_
        refine A_callVI 46 (S_X8_pocketsOf X l (by first | assumption | decide | omega | exact Ne.symm (by assumption)) (by first | assumption | decide | omega | exact Ne.symm (by assumption))) dX9_adds_43 rfl kX8_pocketsOf lk_X9_122 rfl O1 (by decide) rfl (Nat.le_of_ble_eq_true rfl) (fun v_5 h_5 qh_5 => ?_)
        obtain ⟨rfl, rfl⟩ := qh_5
        have hR := WOK_pk hW (p := k_p) (by omega)
        refine A_istore 48 dX9_adds_46 rfl (by decide) (by first | exact (ast_s (ast_s (ast_s (ast_1 rfl)))) | exact (ast_s (ast_s (ast_s ast_k)))) ?_
        refine A_iload 50 dX9_adds_48 rfl rfl ?_
        refine A_iload_n 51 dX9_adds_50 rfl rfl rfl ?_
        refine A_callSI 54 (S_X9_hasThing X l) dX9_adds_51 rfl kX9_hasThing lk_X9_141 rfl (by decide) rfl (Nat.le_of_ble_eq_true rfl) (fun v_6 h_6 qh_6 => ?_)
        obtain ⟨rfl, rfl⟩ := qh_6
        refine A_if_ne 64 57 dX9_adds_54 (by decide) rfl (fun c54 => ?_) (fun c54 => ?_)
        · skip
          try simp only [bI_0, bI_n0, Classical.not_not, Bool.not_eq_false, Bool.true_and, Bool.and_true, decide_eq_true_eq, decide_eq_false_iff_not, dayC_1, dayC_21, dayC_221, dayC_222] at c54
          rw [c15, Bool.true_and] at c54
          refine A_aload_n 65 dX9_adds_64 rfl rfl rfl ?_
          refine A_getfield 68 dX9_adds_65 rfl f_X9_61 O0 rfl ?_
          refine A_aload_n 69 dX9_adds_68 rfl rfl rfl ?_
          refine A_getfield 72 dX9_adds_69 rfl f_X9_10 O0 rfl ?_
          refine A_iload 74 dX9_adds_72 rfl rfl ?_
          refine A_iload_n 75 dX9_adds_74 rfl rfl rfl ?_
          refine A_callVL 78 (S_X6_addedInOrders X l (by first | assumption | decide | omega | exact Ne.symm (by assumption)) (by first | assumption | decide | omega | exact Ne.symm (by assumption)) (by first | assumption | decide | omega | exact Ne.symm (by assumption)) (by first | assumption | decide | omega | exact Ne.symm (by assumption)) (by first | assumption | decide | omega | exact Ne.symm (by assumption))) dX9_adds_75 rfl kX6_addedInOrders lk_X9_316 rfl O19 (by decide) rfl (Nat.le_of_ble_eq_true rfl) (fun v_7 h_7 qh_7 => ?_)
          obtain ⟨rfl, y1_7, n0h_7, eh_7⟩ := qh_7
          replace O0 := (eh_7 _ (by decide)).trans O0
          replace O1 := (eh_7 _ (by decide)).trans O1
          replace O19 := (eh_7 _ (by decide)).trans O19
          replace O20 := n0h_7
          replace hf : ∀ i, i ≠ 0 → i ≠ 20 → h_7 i = h i := fun i g0 g1 => (eh_7 i g1).trans (hf i g0 g1)
          refine A_iload 80 dX9_adds_78 rfl rfl ?_
          refine A_callSI 83 (S_J6_bitCount_0f7a4 X l) dX9_adds_80 rfl kJ6_bitCount_0f7a4 lk_X9_190 rfl (by decide) rfl (Nat.le_of_ble_eq_true rfl) (fun v_8 h_8 qh_8 => ?_)
          obtain ⟨rfl, rfl⟩ := qh_8
          refine A_callSL 86 (S_X9_factorial X l hR.r10.lt) dX9_adds_83 rfl kX9_factorial lk_X9_320 rfl (by decide) rfl (Nat.le_of_ble_eq_true rfl) (fun v_9 h_9 qh_9 => ?_)
          obtain ⟨rfl, rfl⟩ := qh_9
          refine A_iload_n 87 dX9_adds_86 rfl rfl rfl ?_
          refine A_callSL 90 (S_X9_lowest X l) dX9_adds_87 rfl kX9_lowest lk_X9_245 rfl (by decide) rfl (Nat.le_of_ble_eq_true rfl) (fun v_10 h_10 qh_10 => ?_)
          obtain ⟨rfl, rfl⟩ := qh_10
          have ew : wAdds x (nI k_p) t v = 0 := by
            first | (simp only [c8, cl_p, c15, c28, c54, if_true, if_false, ite_true, ite_false, and_true, true_and, and_false, false_and, and_self, or_true, true_or, or_false, false_or, or_self, not_true_eq_false, not_false_eq_true, decide_true, decide_false, Bool.and_true, Bool.true_and, Bool.and_false, Bool.false_and, Bool.and_self, Bool.or_true, Bool.true_or, Bool.or_false, Bool.false_or, Bool.not_true, Bool.not_false, cond_true, cond_false, bI_t, bI_f, Bool.false_eq_true, Bool.true_eq_false, dayC_1, dayC_21, dayC_221, dayC_222, wAdds, pk, w01, wP, wPL, wP01, wL01, wRow, w01R, wAB, wNum, isP, isL]; done)
          refine A_lret dX9_adds_90 rfl ⟨_, rfl, (by rw [ew, rVL_0]; unfold aAdds pk; rw [cl_p]), _, (by rw [ew]; first | (rw [rS_0]; exact O0) | exact O0), O20, hf⟩
        · skip
          try simp only [bI_0, bI_n0, Classical.not_not, Bool.not_eq_false, Bool.true_and, Bool.and_true, decide_eq_true_eq, decide_eq_false_iff_not, dayC_1, dayC_21, dayC_221, dayC_222] at c54
          rw [c15, Bool.true_and] at c54
          refine A_aload_n 58 dX9_adds_57 rfl rfl rfl ?_
          refine A_bipush 60 (-3) dX9_adds_58 rfl (by decide) ?_
          refine A_callVL 63 (S_X9_refuseLong X l (by first | assumption | decide | omega | exact Ne.symm (by assumption)) (by first | assumption | (unfold CD; decide))) dX9_adds_60 rfl kX9_refuseLong lk_X9_238 rfl O0 (by decide) rfl (Nat.le_of_ble_eq_true rfl) (fun v_11 h_11 qh_11 => ?_)
          obtain ⟨rfl, n0h_11, eh_11⟩ := qh_11
          replace O0 := n0h_11
          replace O1 := (eh_11 _ (by decide)).trans O1
          replace O19 := (eh_11 _ (by decide)).trans O19
          replace O20 := (eh_11 _ (by decide)).trans O20
          replace hf : ∀ i, i ≠ 0 → i ≠ 20 → h_11 i = h i := fun i g0 g1 => (eh_11 i g0).trans (hf i g0 g1)
          have ew : wAdds x (nI k_p) t v = -3 := by
            first | (simp only [c8, cl_p, c15, c28, c54, if_true, if_false, ite_true, ite_false, and_true, true_and, and_false, false_and, and_self, or_true, true_or, or_false, false_or, or_self, not_true_eq_false, not_false_eq_true, decide_true, decide_false, Bool.and_true, Bool.true_and, Bool.and_false, Bool.false_and, Bool.and_self, Bool.or_true, Bool.true_or, Bool.or_false, Bool.false_or, Bool.not_true, Bool.not_false, cond_true, cond_false, bI_t, bI_f, Bool.false_eq_true, Bool.true_eq_false, dayC_1, dayC_21, dayC_221, dayC_222, wAdds, pk, w01, wP, wPL, wP01, wL01, wRow, w01R, wAB, wNum, isP, isL]; done)
          refine A_lret dX9_adds_63 rfl ⟨_, rfl, (by rw [ew]; exact rVL_n (by decide)), _, (by rw [ew]; first | (rw [rS_0]; exact O0) | exact O0), O20, hf⟩
      · skip
        try simp only [bI_0, bI_n0, Classical.not_not, Bool.not_eq_false, Bool.true_and, Bool.and_true, decide_eq_true_eq, decide_eq_false_iff_not, dayC_1, dayC_21, dayC_221, dayC_222] at c28
        refine A_aload_n 32 dX9_adds_31 rfl rfl rfl ?_
        refine A_bipush 34 (-2) dX9_adds_32 rfl (by decide) ?_
        refine A_callVL 37 (S_X9_refuseLong X l (by first | assumption | decide | omega | exact Ne.symm (by assumption)) (by first | assumption | (unfold CD; decide))) dX9_adds_34 rfl kX9_refuseLong lk_X9_238 rfl O0 (by decide) rfl (Nat.le_of_ble_eq_true rfl) (fun v_12 h_12 qh_12 => ?_)
        obtain ⟨rfl, n0h_12, eh_12⟩ := qh_12
        replace O0 := n0h_12
        replace O1 := (eh_12 _ (by decide)).trans O1
        replace O19 := (eh_12 _ (by decide)).trans O19
        replace O20 := (eh_12 _ (by decide)).trans O20
        replace hf : ∀ i, i ≠ 0 → i ≠ 20 → h_12 i = h i := fun i g0 g1 => (eh_12 i g0).trans (hf i g0 g1)
        have ew : wAdds x (nI k_p) t v = -2 := by
          first | (simp only [c8, cl_p, c15, c28, if_true, if_false, ite_true, ite_false, and_true, true_and, and_false, false_and, and_self, or_true, true_or, or_false, false_or, or_self, not_true_eq_false, not_false_eq_true, decide_true, decide_false, Bool.and_true, Bool.true_and, Bool.and_false, Bool.false_and, Bool.and_self, Bool.or_true, Bool.true_or, Bool.or_false, Bool.false_or, Bool.not_true, Bool.not_false, cond_true, cond_false, bI_t, bI_f, Bool.false_eq_true, Bool.true_eq_false, dayC_1, dayC_21, dayC_221, dayC_222, wAdds, pk, w01, wP, wPL, wP01, wL01, wRow, w01R, wAB, wNum, isP, isL]; done)
        refine A_lret dX9_adds_37 rfl ⟨_, rfl, (by rw [ew]; exact rVL_n (by decide)), _, (by rw [ew]; first | (rw [rS_0]; exact O0) | exact O0), O20, hf⟩
    · skip
      try simp only [bI_0, bI_n0, Classical.not_not, Bool.not_eq_false, Bool.true_and, Bool.and_true, decide_eq_true_eq, decide_eq_false_iff_not, dayC_1, dayC_21, dayC_221, dayC_222] at c15
      refine A_aload_n 19 dX9_adds_18 rfl rfl rfl ?_
      refine A_iconst 20 (-1) dX9_adds_19 rfl (by decide) ?_
      refine A_callVL 23 (S_X9_refuseLong X l (by first | assumption | decide | omega | exact Ne.symm (by assumption)) (by first | assumption | (unfold CD; decide))) dX9_adds_20 rfl kX9_refuseLong lk_X9_238 rfl O0 (by decide) rfl (Nat.le_of_ble_eq_true rfl) (fun v_13 h_13 qh_13 => ?_)
      obtain ⟨rfl, n0h_13, eh_13⟩ := qh_13
      replace O0 := n0h_13
      replace O1 := (eh_13 _ (by decide)).trans O1
      replace O19 := (eh_13 _ (by decide)).trans O19
      replace O20 := (eh_13 _ (by decide)).trans O20
      replace hf : ∀ i, i ≠ 0 → i ≠ 20 → h_13 i = h i := fun i g0 g1 => (eh_13 i g0).trans (hf i g0 g1)
      have ew : wAdds x (nI k_p) t v = -1 := by
        first | (simp only [c8, cl_p, c15, if_true, if_false, ite_true, ite_false, and_true, true_and, and_false, false_and, and_self, or_true, true_or, or_false, false_or, or_self, not_true_eq_false, not_false_eq_true, decide_true, decide_false, Bool.and_true, Bool.true_and, Bool.and_false, Bool.false_and, Bool.and_self, Bool.or_true, Bool.true_or, Bool.or_false, Bool.false_or, Bool.not_true, Bool.not_false, cond_true, cond_false, bI_t, bI_f, Bool.false_eq_true, Bool.true_eq_false, dayC_1, dayC_21, dayC_221, dayC_222, wAdds, pk, w01, wP, wPL, wP01, wL01, wRow, w01R, wAB, wNum, isP, isL]; done)
      refine A_lret dX9_adds_23 rfl ⟨_, rfl, (by rw [ew]; exact rVL_n (by decide)), _, (by rw [ew]; first | (rw [rS_0]; exact O0) | exact O0), O20, hf⟩
set_option maxHeartbeats 4000000 in
set_option maxRecDepth 100000 in
theorem S_X9_behind (X : En) (l : Launch) {h : Hp} {x : PW} {g : Int32} {r : FI} (O0 : h 0 = some (maB g r)) (O1 : h 1 = some (wB 1 x)) (hW : WOK x)  {y22 : PC} (O21 : h 21 = some (alB)) (O22 : h 22 = some (cB 22 y22)) {p n : Int32} : Ct X l mX9_behind [aR 0 0, aI p, aI n] h (QI (fun vr h2 => (rV (wNP x p n 0) (aBehi x p n)) = vr ∧ ∃ (z22 : PC), h2 (0) = some (maB g (rS (wNP x p n 0) r)) ∧ h2 (22) = some (cB 22 z22) ∧ ∀ i, i ≠ 0 → i ≠ 22 → h2 i = h i)) := by
  have hx := hW.1
  have hp := hW.2.1
  have h10 := hx.1
  have hf : ∀ i, i ≠ 0 → i ≠ 22 → h i = h i := fun _ _ _ => rfl
  refine Ct.intro [some (aR 0 0), some (aI p), some (aI n)] (by decide +kernel) rfl (Nat.le_of_ble_eq_true rfl) ?_
  refine A_aload_n 1 dX9_behind_0 rfl rfl rfl ?_
  refine A_getfield 4 dX9_behind_1 rfl f_X9_10 O0 rfl ?_
  refine A_iload_n 5 dX9_behind_4 rfl rfl rfl ?_
  refine A_callVI 8 (S_X8_isPerson X l (by first | assumption | decide | omega | exact Ne.symm (by assumption))) dX9_behind_5 rfl kX8_isPerson lk_X9_119 rfl O1 (by decide) rfl (Nat.le_of_ble_eq_true rfl) (fun v_1 h_1 qh_1 => ?_)
  obtain ⟨rfl, rfl⟩ := qh_1
  refine A_if_ne 17 11 dX9_behind_8 (by decide) rfl (fun c8 => ?_) (fun c8 => ?_)
  · skip
    try simp only [bI_0, bI_n0, Classical.not_not, Bool.not_eq_false, Bool.true_and, Bool.and_true, decide_eq_true_eq, decide_eq_false_iff_not, dayC_1, dayC_21, dayC_221, dayC_222] at c8
    obtain ⟨k_p, rfl, hk_p⟩ := inN_ex c8 (by omega)
    have cl_p : (nI k_p).toNatClampNeg = k_p := nI_clamp (by omega)
    refine A_iload_n 18 dX9_behind_17 rfl rfl rfl ?_
    refine A_if_ge 28 21 dX9_behind_18 (by decide) rfl (fun c18 => ?_) (fun c18 => ?_)
    · skip
      try simp only [bI_0, bI_n0, Classical.not_not, Bool.not_eq_false, Bool.true_and, Bool.and_true, decide_eq_true_eq, decide_eq_false_iff_not, dayC_1, dayC_21, dayC_221, dayC_222] at c18
      have n18 := c18
      replace c18 := Int32.not_lt.mpr c18
      refine A_iload_n 29 dX9_behind_28 rfl rfl rfl ?_
      refine A_bipush 31 (60) dX9_behind_29 rfl (by decide) ?_
      refine A_icmp_le 41 34 dX9_behind_31 (by decide) rfl (fun c31 => ?_) (fun c31 => ?_)
      · skip
        try simp only [bI_0, bI_n0, Classical.not_not, Bool.not_eq_false, Bool.true_and, Bool.and_true, decide_eq_true_eq, decide_eq_false_iff_not, dayC_1, dayC_21, dayC_221, dayC_222] at c31
        have n31 := c31
        replace c31 := Int32.not_lt.mpr c31
        obtain ⟨k_n, rfl, hk_n⟩ := nI_exg (n := 60) c18 c31 (by decide)
        have cl_n : (nI k_n).toNatClampNeg = k_n := nI_clamp (by omega)
        refine A_aload_n 42 dX9_behind_41 rfl rfl rfl ?_
        refine A_getfield 45 dX9_behind_42 rfl f_X9_68 O0 rfl ?_
        refine A_aload_n 46 dX9_behind_45 rfl rfl rfl ?_
        refine A_getfield 49 dX9_behind_46 rfl f_X9_10 O0 rfl ?_
        refine A_aload_n 50 dX9_behind_49 rfl rfl rfl ?_
        refine A_getfield 53 dX9_behind_50 rfl f_X9_10 O0 rfl ?_
        refine A_iload_n 54 dX9_behind_53 rfl rfl rfl ?_
        refine A_callVI 57 (S_X8_pocketsOf X l (by first | assumption | decide | omega | exact Ne.symm (by assumption)) (by first | assumption | decide | omega | exact Ne.symm (by assumption))) dX9_behind_54 rfl kX8_pocketsOf lk_X9_122 rfl O1 (by decide) rfl (Nat.le_of_ble_eq_true rfl) (fun v_2 h_2 qh_2 => ?_)
        obtain ⟨rfl, rfl⟩ := qh_2
        refine A_iload_n 58 dX9_behind_57 rfl rfl rfl ?_
        refine A_callVI 61 (S_X0_pocketsInDays X l (by first | assumption | decide | omega | exact Ne.symm (by assumption)) (by first | assumption | decide | omega | exact Ne.symm (by assumption)) (by first | assumption | decide | omega | exact Ne.symm (by assumption)) (by first | assumption | decide | omega | exact Ne.symm (by assumption)) (by first | assumption | decide | omega | exact Ne.symm (by assumption))) dX9_behind_58 rfl kX0_pocketsInDays lk_X9_326 rfl O21 (by decide) rfl (Nat.le_of_ble_eq_true rfl) (fun v_3 h_3 qh_3 => ?_)
        obtain ⟨rfl, y1_3, n0h_3, eh_3⟩ := qh_3
        replace O0 := (eh_3 _ (by decide)).trans O0
        replace O1 := (eh_3 _ (by decide)).trans O1
        replace O21 := (eh_3 _ (by decide)).trans O21
        replace O22 := n0h_3
        replace hf : ∀ i, i ≠ 0 → i ≠ 22 → h_3 i = h i := fun i g0 g1 => (eh_3 i g1).trans (hf i g0 g1)
        have ew : wNP x (nI k_p) (nI k_n) 0 = 0 := by
          first | (simp only [c8, cl_p, c18, n18, c31, n31, cl_n, if_true, if_false, ite_true, ite_false, and_true, true_and, and_false, false_and, and_self, or_true, true_or, or_false, false_or, or_self, not_true_eq_false, not_false_eq_true, decide_true, decide_false, Bool.and_true, Bool.true_and, Bool.and_false, Bool.false_and, Bool.and_self, Bool.or_true, Bool.true_or, Bool.or_false, Bool.false_or, Bool.not_true, Bool.not_false, cond_true, cond_false, bI_t, bI_f, Bool.false_eq_true, Bool.true_eq_false, dayC_1, dayC_21, dayC_221, dayC_222, wNP, w01, wP, wPL, wP01, wL01, wRow, w01R, wAB, wNum, isP, isL]; done)
        refine A_iret dX9_behind_61 rfl ⟨_, rfl, (by rw [ew, rV_0]; unfold aBehi pk; rw [cl_p, cl_n]), _, (by rw [ew]; first | (rw [rS_0]; exact O0) | exact O0), O22, hf⟩
      · skip
        try simp only [bI_0, bI_n0, Classical.not_not, Bool.not_eq_false, Bool.true_and, Bool.and_true, decide_eq_true_eq, decide_eq_false_iff_not, dayC_1, dayC_21, dayC_221, dayC_222] at c31
        have n31 := c31
        replace c31 := Int32.not_le.mp c31
        refine A_aload_n 35 dX9_behind_34 rfl rfl rfl ?_
        refine A_bipush 37 (-6) dX9_behind_35 rfl (by decide) ?_
        refine A_callVI 40 (S_X9_refuse X l (by first | assumption | decide | omega | exact Ne.symm (by assumption)) (by first | assumption | (unfold CD; decide))) dX9_behind_37 rfl kX9_refuse lk_X9_79 rfl O0 (by decide) rfl (Nat.le_of_ble_eq_true rfl) (fun v_4 h_4 qh_4 => ?_)
        obtain ⟨rfl, n0h_4, eh_4⟩ := qh_4
        replace O0 := n0h_4
        replace O1 := (eh_4 _ (by decide)).trans O1
        replace O21 := (eh_4 _ (by decide)).trans O21
        replace O22 := (eh_4 _ (by decide)).trans O22
        replace hf : ∀ i, i ≠ 0 → i ≠ 22 → h_4 i = h i := fun i g0 g1 => (eh_4 i g0).trans (hf i g0 g1)
        have ew : wNP x (nI k_p) n 0 = -6 := by
          first | (simp only [c8, cl_p, c18, n18, c31, n31, if_true, if_false, ite_true, ite_false, and_true, true_and, and_false, false_and, and_self, or_true, true_or, or_false, false_or, or_self, not_true_eq_false, not_false_eq_true, decide_true, decide_false, Bool.and_true, Bool.true_and, Bool.and_false, Bool.false_and, Bool.and_self, Bool.or_true, Bool.true_or, Bool.or_false, Bool.false_or, Bool.not_true, Bool.not_false, cond_true, cond_false, bI_t, bI_f, Bool.false_eq_true, Bool.true_eq_false, dayC_1, dayC_21, dayC_221, dayC_222, wNP, w01, wP, wPL, wP01, wL01, wRow, w01R, wAB, wNum, isP, isL]; done)
        refine A_iret dX9_behind_40 rfl ⟨_, rfl, (by rw [ew]; exact rV_n (by decide)), _, (by rw [ew]; first | (rw [rS_0]; exact O0) | exact O0), O22, hf⟩
    · skip
      try simp only [bI_0, bI_n0, Classical.not_not, Bool.not_eq_false, Bool.true_and, Bool.and_true, decide_eq_true_eq, decide_eq_false_iff_not, dayC_1, dayC_21, dayC_221, dayC_222] at c18
      have n18 := c18
      replace c18 := Int32.not_le.mp c18
      refine A_aload_n 22 dX9_behind_21 rfl rfl rfl ?_
      refine A_bipush 24 (-4) dX9_behind_22 rfl (by decide) ?_
      refine A_callVI 27 (S_X9_refuse X l (by first | assumption | decide | omega | exact Ne.symm (by assumption)) (by first | assumption | (unfold CD; decide))) dX9_behind_24 rfl kX9_refuse lk_X9_79 rfl O0 (by decide) rfl (Nat.le_of_ble_eq_true rfl) (fun v_5 h_5 qh_5 => ?_)
      obtain ⟨rfl, n0h_5, eh_5⟩ := qh_5
      replace O0 := n0h_5
      replace O1 := (eh_5 _ (by decide)).trans O1
      replace O21 := (eh_5 _ (by decide)).trans O21
      replace O22 := (eh_5 _ (by decide)).trans O22
      replace hf : ∀ i, i ≠ 0 → i ≠ 22 → h_5 i = h i := fun i g0 g1 => (eh_5 i g0).trans (hf i g0 g1)
      have ew : wNP x (nI k_p) n 0 = -4 := by
        first | (simp only [c8, cl_p, c18, n18, if_true, if_false, ite_true, ite_false, and_true, true_and, and_false, false_and, and_self, or_true, true_or, or_false, false_or, or_self, not_true_eq_false, not_false_eq_true, decide_true, decide_false, Bool.and_true, Bool.true_and, Bool.and_false, Bool.false_and, Bool.and_self, Bool.or_true, Bool.true_or, Bool.or_false, Bool.false_or, Bool.not_true, Bool.not_false, cond_true, cond_false, bI_t, bI_f, Bool.false_eq_true, Bool.true_eq_false, dayC_1, dayC_21, dayC_221, dayC_222, wNP, w01, wP, wPL, wP01, wL01, wRow, w01R, wAB, wNum, isP, isL]; done)
      refine A_iret dX9_behind_27 rfl ⟨_, rfl, (by rw [ew]; exact rV_n (by decide)), _, (by rw [ew]; first | (rw [rS_0]; exact O0) | exact O0), O22, hf⟩
  · skip
    try simp only [bI_0, bI_n0, Classical.not_not, Bool.not_eq_false, Bool.true_and, Bool.and_true, decide_eq_true_eq, decide_eq_false_iff_not, dayC_1, dayC_21, dayC_221, dayC_222] at c8
    refine A_aload_n 12 dX9_behind_11 rfl rfl rfl ?_
    refine A_iconst 13 (-1) dX9_behind_12 rfl (by decide) ?_
    refine A_callVI 16 (S_X9_refuse X l (by first | assumption | decide | omega | exact Ne.symm (by assumption)) (by first | assumption | (unfold CD; decide))) dX9_behind_13 rfl kX9_refuse lk_X9_79 rfl O0 (by decide) rfl (Nat.le_of_ble_eq_true rfl) (fun v_6 h_6 qh_6 => ?_)
    obtain ⟨rfl, n0h_6, eh_6⟩ := qh_6
    replace O0 := n0h_6
    replace O1 := (eh_6 _ (by decide)).trans O1
    replace O21 := (eh_6 _ (by decide)).trans O21
    replace O22 := (eh_6 _ (by decide)).trans O22
    replace hf : ∀ i, i ≠ 0 → i ≠ 22 → h_6 i = h i := fun i g0 g1 => (eh_6 i g0).trans (hf i g0 g1)
    have ew : wNP x p n 0 = -1 := by
      first | (simp only [c8, if_true, if_false, ite_true, ite_false, and_true, true_and, and_false, false_and, and_self, or_true, true_or, or_false, false_or, or_self, not_true_eq_false, not_false_eq_true, decide_true, decide_false, Bool.and_true, Bool.true_and, Bool.and_false, Bool.false_and, Bool.and_self, Bool.or_true, Bool.true_or, Bool.or_false, Bool.false_or, Bool.not_true, Bool.not_false, cond_true, cond_false, bI_t, bI_f, Bool.false_eq_true, Bool.true_eq_false, dayC_1, dayC_21, dayC_221, dayC_222, wNP, w01, wP, wPL, wP01, wL01, wRow, w01R, wAB, wNum, isP, isL]; done)
    refine A_iret dX9_behind_16 rfl ⟨_, rfl, (by rw [ew]; exact rV_n (by decide)), _, (by rw [ew]; first | (rw [rS_0]; exact O0) | exact O0), O22, hf⟩
set_option maxHeartbeats 4000000 in
set_option maxRecDepth 100000 in
theorem S_X9_ever (X : En) (l : Launch) {h : Hp} {x : PW} {g : Int32} {r : FI} (O0 : h 0 = some (maB g r)) (O1 : h 1 = some (wB 1 x)) (hW : WOK x)  {y22 : PC} (O21 : h 21 = some (alB)) (O22 : h 22 = some (cB 22 y22)) {p n : Int32} : Ct X l mX9_ever [aR 0 0, aI p, aI n] h (QI (fun vr h2 => (rV (wNP x p n 1) (aEver x p n)) = vr ∧ ∃ (z22 : PC), h2 (0) = some (maB g (rS (wNP x p n 1) r)) ∧ h2 (22) = some (cB 22 z22) ∧ ∀ i, i ≠ 0 → i ≠ 22 → h2 i = h i)) := by
  have hx := hW.1
  have hp := hW.2.1
  have h10 := hx.1
  have hf : ∀ i, i ≠ 0 → i ≠ 22 → h i = h i := fun _ _ _ => rfl
  refine Ct.intro [some (aR 0 0), some (aI p), some (aI n)] (by decide +kernel) rfl (Nat.le_of_ble_eq_true rfl) ?_
  refine A_aload_n 1 dX9_ever_0 rfl rfl rfl ?_
  refine A_getfield 4 dX9_ever_1 rfl f_X9_10 O0 rfl ?_
  refine A_iload_n 5 dX9_ever_4 rfl rfl rfl ?_
  refine A_callVI 8 (S_X8_isPerson X l (by first | assumption | decide | omega | exact Ne.symm (by assumption))) dX9_ever_5 rfl kX8_isPerson lk_X9_119 rfl O1 (by decide) rfl (Nat.le_of_ble_eq_true rfl) (fun v_1 h_1 qh_1 => ?_)
  obtain ⟨rfl, rfl⟩ := qh_1
  refine A_if_ne 17 11 dX9_ever_8 (by decide) rfl (fun c8 => ?_) (fun c8 => ?_)
  · skip
    try simp only [bI_0, bI_n0, Classical.not_not, Bool.not_eq_false, Bool.true_and, Bool.and_true, decide_eq_true_eq, decide_eq_false_iff_not, dayC_1, dayC_21, dayC_221, dayC_222] at c8
    obtain ⟨k_p, rfl, hk_p⟩ := inN_ex c8 (by omega)
    have cl_p : (nI k_p).toNatClampNeg = k_p := nI_clamp (by omega)
    refine A_iload_n 18 dX9_ever_17 rfl rfl rfl ?_
    refine A_iconst 19 (1) dX9_ever_18 rfl (by decide) ?_
    refine A_icmp_ge 29 22 dX9_ever_19 (by decide) rfl (fun c19 => ?_) (fun c19 => ?_)
    · skip
      try simp only [bI_0, bI_n0, Classical.not_not, Bool.not_eq_false, Bool.true_and, Bool.and_true, decide_eq_true_eq, decide_eq_false_iff_not, dayC_1, dayC_21, dayC_221, dayC_222] at c19
      have n19 := c19
      replace c19 := Int32.not_lt.mpr c19
      refine A_iload_n 30 dX9_ever_29 rfl rfl rfl ?_
      refine A_bipush 32 (60) dX9_ever_30 rfl (by decide) ?_
      refine A_icmp_le 42 35 dX9_ever_32 (by decide) rfl (fun c32 => ?_) (fun c32 => ?_)
      · skip
        try simp only [bI_0, bI_n0, Classical.not_not, Bool.not_eq_false, Bool.true_and, Bool.and_true, decide_eq_true_eq, decide_eq_false_iff_not, dayC_1, dayC_21, dayC_221, dayC_222] at c32
        have n32 := c32
        replace c32 := Int32.not_lt.mpr c32
        obtain ⟨k_n, rfl, hk_n⟩ := nI_exg (n := 60) (fun z => c19 (Int32.lt_trans z (by decide))) c32 (by decide)
        have cl_n : (nI k_n).toNatClampNeg = k_n := nI_clamp (by omega)
        refine A_aload_n 43 dX9_ever_42 rfl rfl rfl ?_
        refine A_getfield 46 dX9_ever_43 rfl f_X9_68 O0 rfl ?_
        refine A_aload_n 47 dX9_ever_46 rfl rfl rfl ?_
        refine A_getfield 50 dX9_ever_47 rfl f_X9_10 O0 rfl ?_
        refine A_aload_n 51 dX9_ever_50 rfl rfl rfl ?_
        refine A_getfield 54 dX9_ever_51 rfl f_X9_10 O0 rfl ?_
        refine A_iload_n 55 dX9_ever_54 rfl rfl rfl ?_
        refine A_callVI 58 (S_X8_pocketsOf X l (by first | assumption | decide | omega | exact Ne.symm (by assumption)) (by first | assumption | decide | omega | exact Ne.symm (by assumption))) dX9_ever_55 rfl kX8_pocketsOf lk_X9_122 rfl O1 (by decide) rfl (Nat.le_of_ble_eq_true rfl) (fun v_2 h_2 qh_2 => ?_)
        obtain ⟨rfl, rfl⟩ := qh_2
        refine A_iload_n 59 dX9_ever_58 rfl rfl rfl ?_
        refine A_callVI 62 (S_X0_lawsInDays X l (by first | assumption | decide | omega | exact Ne.symm (by assumption)) (by first | assumption | decide | omega | exact Ne.symm (by assumption)) (by first | assumption | decide | omega | exact Ne.symm (by assumption)) (by first | assumption | decide | omega | exact Ne.symm (by assumption)) (by first | assumption | decide | omega | exact Ne.symm (by assumption))) dX9_ever_59 rfl kX0_lawsInDays lk_X9_332 rfl O21 (by decide) rfl (Nat.le_of_ble_eq_true rfl) (fun v_3 h_3 qh_3 => ?_)
        obtain ⟨rfl, y1_3, n0h_3, eh_3⟩ := qh_3
        replace O0 := (eh_3 _ (by decide)).trans O0
        replace O1 := (eh_3 _ (by decide)).trans O1
        replace O21 := (eh_3 _ (by decide)).trans O21
        replace O22 := n0h_3
        replace hf : ∀ i, i ≠ 0 → i ≠ 22 → h_3 i = h i := fun i g0 g1 => (eh_3 i g1).trans (hf i g0 g1)
        have ew : wNP x (nI k_p) (nI k_n) 1 = 0 := by
          first | (simp only [c8, cl_p, c19, n19, c32, n32, cl_n, if_true, if_false, ite_true, ite_false, and_true, true_and, and_false, false_and, and_self, or_true, true_or, or_false, false_or, or_self, not_true_eq_false, not_false_eq_true, decide_true, decide_false, Bool.and_true, Bool.true_and, Bool.and_false, Bool.false_and, Bool.and_self, Bool.or_true, Bool.true_or, Bool.or_false, Bool.false_or, Bool.not_true, Bool.not_false, cond_true, cond_false, bI_t, bI_f, Bool.false_eq_true, Bool.true_eq_false, dayC_1, dayC_21, dayC_221, dayC_222, wNP, w01, wP, wPL, wP01, wL01, wRow, w01R, wAB, wNum, isP, isL]; done)
        refine A_iret dX9_ever_62 rfl ⟨_, rfl, (by rw [ew, rV_0]; unfold aEver pk; rw [cl_p, cl_n]), _, (by rw [ew]; first | (rw [rS_0]; exact O0) | exact O0), O22, hf⟩
      · skip
        try simp only [bI_0, bI_n0, Classical.not_not, Bool.not_eq_false, Bool.true_and, Bool.and_true, decide_eq_true_eq, decide_eq_false_iff_not, dayC_1, dayC_21, dayC_221, dayC_222] at c32
        have n32 := c32
        replace c32 := Int32.not_le.mp c32
        refine A_aload_n 36 dX9_ever_35 rfl rfl rfl ?_
        refine A_bipush 38 (-6) dX9_ever_36 rfl (by decide) ?_
        refine A_callVI 41 (S_X9_refuse X l (by first | assumption | decide | omega | exact Ne.symm (by assumption)) (by first | assumption | (unfold CD; decide))) dX9_ever_38 rfl kX9_refuse lk_X9_79 rfl O0 (by decide) rfl (Nat.le_of_ble_eq_true rfl) (fun v_4 h_4 qh_4 => ?_)
        obtain ⟨rfl, n0h_4, eh_4⟩ := qh_4
        replace O0 := n0h_4
        replace O1 := (eh_4 _ (by decide)).trans O1
        replace O21 := (eh_4 _ (by decide)).trans O21
        replace O22 := (eh_4 _ (by decide)).trans O22
        replace hf : ∀ i, i ≠ 0 → i ≠ 22 → h_4 i = h i := fun i g0 g1 => (eh_4 i g0).trans (hf i g0 g1)
        have ew : wNP x (nI k_p) n 1 = -6 := by
          first | (simp only [c8, cl_p, c19, n19, c32, n32, if_true, if_false, ite_true, ite_false, and_true, true_and, and_false, false_and, and_self, or_true, true_or, or_false, false_or, or_self, not_true_eq_false, not_false_eq_true, decide_true, decide_false, Bool.and_true, Bool.true_and, Bool.and_false, Bool.false_and, Bool.and_self, Bool.or_true, Bool.true_or, Bool.or_false, Bool.false_or, Bool.not_true, Bool.not_false, cond_true, cond_false, bI_t, bI_f, Bool.false_eq_true, Bool.true_eq_false, dayC_1, dayC_21, dayC_221, dayC_222, wNP, w01, wP, wPL, wP01, wL01, wRow, w01R, wAB, wNum, isP, isL]; done)
        refine A_iret dX9_ever_41 rfl ⟨_, rfl, (by rw [ew]; exact rV_n (by decide)), _, (by rw [ew]; first | (rw [rS_0]; exact O0) | exact O0), O22, hf⟩
    · skip
      try simp only [bI_0, bI_n0, Classical.not_not, Bool.not_eq_false, Bool.true_and, Bool.and_true, decide_eq_true_eq, decide_eq_false_iff_not, dayC_1, dayC_21, dayC_221, dayC_222] at c19
      have n19 := c19
      replace c19 := Int32.not_le.mp c19
      refine A_aload_n 23 dX9_ever_22 rfl rfl rfl ?_
      refine A_bipush 25 (-4) dX9_ever_23 rfl (by decide) ?_
      refine A_callVI 28 (S_X9_refuse X l (by first | assumption | decide | omega | exact Ne.symm (by assumption)) (by first | assumption | (unfold CD; decide))) dX9_ever_25 rfl kX9_refuse lk_X9_79 rfl O0 (by decide) rfl (Nat.le_of_ble_eq_true rfl) (fun v_5 h_5 qh_5 => ?_)
      obtain ⟨rfl, n0h_5, eh_5⟩ := qh_5
      replace O0 := n0h_5
      replace O1 := (eh_5 _ (by decide)).trans O1
      replace O21 := (eh_5 _ (by decide)).trans O21
      replace O22 := (eh_5 _ (by decide)).trans O22
      replace hf : ∀ i, i ≠ 0 → i ≠ 22 → h_5 i = h i := fun i g0 g1 => (eh_5 i g0).trans (hf i g0 g1)
      have ew : wNP x (nI k_p) n 1 = -4 := by
        first | (simp only [c8, cl_p, c19, n19, if_true, if_false, ite_true, ite_false, and_true, true_and, and_false, false_and, and_self, or_true, true_or, or_false, false_or, or_self, not_true_eq_false, not_false_eq_true, decide_true, decide_false, Bool.and_true, Bool.true_and, Bool.and_false, Bool.false_and, Bool.and_self, Bool.or_true, Bool.true_or, Bool.or_false, Bool.false_or, Bool.not_true, Bool.not_false, cond_true, cond_false, bI_t, bI_f, Bool.false_eq_true, Bool.true_eq_false, dayC_1, dayC_21, dayC_221, dayC_222, wNP, w01, wP, wPL, wP01, wL01, wRow, w01R, wAB, wNum, isP, isL]; done)
      refine A_iret dX9_ever_28 rfl ⟨_, rfl, (by rw [ew]; exact rV_n (by decide)), _, (by rw [ew]; first | (rw [rS_0]; exact O0) | exact O0), O22, hf⟩
  · skip
    try simp only [bI_0, bI_n0, Classical.not_not, Bool.not_eq_false, Bool.true_and, Bool.and_true, decide_eq_true_eq, decide_eq_false_iff_not, dayC_1, dayC_21, dayC_221, dayC_222] at c8
    refine A_aload_n 12 dX9_ever_11 rfl rfl rfl ?_
    refine A_iconst 13 (-1) dX9_ever_12 rfl (by decide) ?_
    refine A_callVI 16 (S_X9_refuse X l (by first | assumption | decide | omega | exact Ne.symm (by assumption)) (by first | assumption | (unfold CD; decide))) dX9_ever_13 rfl kX9_refuse lk_X9_79 rfl O0 (by decide) rfl (Nat.le_of_ble_eq_true rfl) (fun v_6 h_6 qh_6 => ?_)
    obtain ⟨rfl, n0h_6, eh_6⟩ := qh_6
    replace O0 := n0h_6
    replace O1 := (eh_6 _ (by decide)).trans O1
    replace O21 := (eh_6 _ (by decide)).trans O21
    replace O22 := (eh_6 _ (by decide)).trans O22
    replace hf : ∀ i, i ≠ 0 → i ≠ 22 → h_6 i = h i := fun i g0 g1 => (eh_6 i g0).trans (hf i g0 g1)
    have ew : wNP x p n 1 = -1 := by
      first | (simp only [c8, if_true, if_false, ite_true, ite_false, and_true, true_and, and_false, false_and, and_self, or_true, true_or, or_false, false_or, or_self, not_true_eq_false, not_false_eq_true, decide_true, decide_false, Bool.and_true, Bool.true_and, Bool.and_false, Bool.false_and, Bool.and_self, Bool.or_true, Bool.true_or, Bool.or_false, Bool.false_or, Bool.not_true, Bool.not_false, cond_true, cond_false, bI_t, bI_f, Bool.false_eq_true, Bool.true_eq_false, dayC_1, dayC_21, dayC_221, dayC_222, wNP, w01, wP, wPL, wP01, wL01, wRow, w01R, wAB, wNum, isP, isL]; done)
    refine A_iret dX9_ever_16 rfl ⟨_, rfl, (by rw [ew]; exact rV_n (by decide)), _, (by rw [ew]; first | (rw [rS_0]; exact O0) | exact O0), O22, hf⟩
set_option maxHeartbeats 4000000 in
set_option maxRecDepth 100000 in
theorem S_X9_judge (X : En) (l : Launch) {h : Hp} {x : PW} {g : Int32} {r : FI} (O0 : h 0 = some (maB g r)) (O1 : h 1 = some (wB 1 x)) (hW : WOK x) {t : FI} {n : Nat} (O15 : h 15 = some (toB t n)) (hn : n ≤ 16) {y16 : PC} (O16 : h 16 = some (cB 16 y16)) {p : Int32} : Ct X l mX9_judge [aR 0 0, aI p] h (QI (fun vr h2 => (rV (wP x p) (FW t n (dLaw x 0 (pk x p)))) = vr ∧ ∃ (z16 : PC), h2 (0) = some (maB g (rS (wP x p) r)) ∧ h2 (15) = some (toB t (ifW (wP x p) 0 n)) ∧ h2 (16) = some (cB 16 z16) ∧ ∀ i, i ≠ 0 → i ≠ 15 → i ≠ 16 → h2 i = h i)) := by
  have hx := hW.1
  have hp := hW.2.1
  have h10 := hx.1
  have hf : ∀ i, i ≠ 0 → i ≠ 15 → i ≠ 16 → h i = h i := fun _ _ _ _ => rfl
  refine Ct.intro [some (aR 0 0), some (aI p), none] (by decide +kernel) rfl (Nat.le_of_ble_eq_true rfl) ?_
  refine A_aload_n 1 dX9_judge_0 rfl rfl rfl ?_
  refine A_getfield 4 dX9_judge_1 rfl f_X9_10 O0 rfl ?_
  refine A_iload_n 5 dX9_judge_4 rfl rfl rfl ?_
  refine A_callVI 8 (S_X8_isPerson X l (by first | assumption | decide | omega | exact Ne.symm (by assumption))) dX9_judge_5 rfl kX8_isPerson lk_X9_119 rfl O1 (by decide) rfl (Nat.le_of_ble_eq_true rfl) (fun v_1 h_1 qh_1 => ?_)
  obtain ⟨rfl, rfl⟩ := qh_1
  refine A_if_ne 17 11 dX9_judge_8 (by decide) rfl (fun c8 => ?_) (fun c8 => ?_)
  · skip
    try simp only [bI_0, bI_n0, Classical.not_not, Bool.not_eq_false, Bool.true_and, Bool.and_true, decide_eq_true_eq, decide_eq_false_iff_not, dayC_1, dayC_21, dayC_221, dayC_222] at c8
    obtain ⟨k_p, rfl, hk_p⟩ := inN_ex c8 (by omega)
    have cl_p : (nI k_p).toNatClampNeg = k_p := nI_clamp (by omega)
    refine A_aload_n 18 dX9_judge_17 rfl rfl rfl ?_
    refine A_iload_n 19 dX9_judge_18 rfl rfl rfl ?_
    refine A_callVV 22 (S_X9_goThrough X l (by first | assumption | decide | omega | exact Ne.symm (by assumption)) (by first | assumption | decide | omega | exact Ne.symm (by assumption)) (by first | assumption | decide | omega | exact Ne.symm (by assumption)) (by first | assumption | decide | omega | exact Ne.symm (by assumption)) (by first | assumption | decide | omega | exact Ne.symm (by assumption))) dX9_judge_19 rfl kX9_goThrough lk_X9_177 rfl O0 (by decide) rfl (Nat.le_of_ble_eq_true rfl) (fun h_2 qh_2 => ?_)
    obtain ⟨n0h_2, eh_2⟩ := qh_2
    replace O0 := (eh_2 _ (by decide)).trans O0
    replace O1 := (eh_2 _ (by decide)).trans O1
    replace O15 := (eh_2 _ (by decide)).trans O15
    replace O16 := n0h_2
    replace hf : ∀ i, i ≠ 0 → i ≠ 15 → i ≠ 16 → h_2 i = h i := fun i g0 g1 g2 => (eh_2 i g2).trans (hf i g0 g1 g2)
    refine A_aload_n 23 dX9_judge_22 rfl rfl rfl ?_
    refine A_getfield 26 dX9_judge_23 rfl f_X9_36 O0 rfl ?_
    refine A_aload_n 27 dX9_judge_26 rfl rfl rfl ?_
    refine A_getfield 30 dX9_judge_27 rfl f_X9_47 O0 rfl ?_
    refine A_callVI 33 (S_X7_firstWrong X l (by first | assumption | decide | omega | exact Ne.symm (by assumption)) (by first | assumption | decide | omega | exact Ne.symm (by assumption)) (by first | assumption | decide | omega | exact Ne.symm (by assumption))) dX9_judge_30 rfl kX7_firstWrong lk_X9_337 rfl O15 (by decide) rfl (Nat.le_of_ble_eq_true rfl) (fun v_3 h_3 qh_3 => ?_)
    obtain ⟨rfl, rfl⟩ := qh_3
    refine A_istore_n 34 dX9_judge_33 rfl rfl (by decide) (by first | exact (ast_s (ast_1 rfl)) | exact (ast_s ast_k)) ?_
    refine A_aload_n 35 dX9_judge_34 rfl rfl rfl ?_
    refine A_getfield 38 dX9_judge_35 rfl f_X9_36 O0 rfl ?_
    refine A_callVI 41 (S_X7_wipe X l (by first | assumption | decide | omega | exact Ne.symm (by assumption))) dX9_judge_38 rfl kX7_wipe lk_X9_340 rfl O15 (by decide) rfl (Nat.le_of_ble_eq_true rfl) (fun v_4 h_4 qh_4 => ?_)
    obtain ⟨rfl, n0h_4, eh_4⟩ := qh_4
    replace O0 := (eh_4 _ (by decide)).trans O0
    replace O1 := (eh_4 _ (by decide)).trans O1
    replace O15 := n0h_4
    replace O16 := (eh_4 _ (by decide)).trans O16
    replace hf : ∀ i, i ≠ 0 → i ≠ 15 → i ≠ 16 → h_4 i = h i := fun i g0 g1 g2 => (eh_4 i g1).trans (hf i g0 g1 g2)
    refine A_pop 42 dX9_judge_41 rfl rfl ?_
    refine A_iload_n 43 dX9_judge_42 rfl rfl rfl ?_
    have ew : wP x (nI k_p) = 0 := by
      first | (simp only [c8, cl_p, if_true, if_false, ite_true, ite_false, and_true, true_and, and_false, false_and, and_self, or_true, true_or, or_false, false_or, or_self, not_true_eq_false, not_false_eq_true, decide_true, decide_false, Bool.and_true, Bool.true_and, Bool.and_false, Bool.false_and, Bool.and_self, Bool.or_true, Bool.true_or, Bool.or_false, Bool.false_or, Bool.not_true, Bool.not_false, cond_true, cond_false, bI_t, bI_f, Bool.false_eq_true, Bool.true_eq_false, dayC_1, dayC_21, dayC_221, dayC_222, w01, wP, wPL, wP01, wL01, wRow, w01R, wAB, wNum, isP, isL]; done)
    refine A_iret dX9_judge_43 rfl ⟨_, rfl, (by rw [ew, rV_0]; first | (simp only [c8, cl_p, if_true, if_false, ite_true, ite_false, and_true, true_and, and_false, false_and, and_self, or_true, true_or, or_false, false_or, or_self, not_true_eq_false, not_false_eq_true, decide_true, decide_false, Bool.and_true, Bool.true_and, Bool.and_false, Bool.false_and, Bool.and_self, Bool.or_true, Bool.true_or, Bool.or_false, Bool.false_or, Bool.not_true, Bool.not_false, cond_true, cond_false, bI_t, bI_f, Bool.false_eq_true, Bool.true_eq_false, dayC_1, dayC_21, dayC_221, dayC_222, pk]; done) | (simp [pk, *]; done)), _, (by rw [ew]; first | (rw [rS_0]; exact O0) | exact O0), (by rw [ew]; simp only [ifW_0, ifW_1, ifW_2, ifW_3, ifW_4, ifW_6]; exact O15), O16, hf⟩
  · skip
    try simp only [bI_0, bI_n0, Classical.not_not, Bool.not_eq_false, Bool.true_and, Bool.and_true, decide_eq_true_eq, decide_eq_false_iff_not, dayC_1, dayC_21, dayC_221, dayC_222] at c8
    refine A_aload_n 12 dX9_judge_11 rfl rfl rfl ?_
    refine A_iconst 13 (-1) dX9_judge_12 rfl (by decide) ?_
    refine A_callVI 16 (S_X9_refuse X l (by first | assumption | decide | omega | exact Ne.symm (by assumption)) (by first | assumption | (unfold CD; decide))) dX9_judge_13 rfl kX9_refuse lk_X9_79 rfl O0 (by decide) rfl (Nat.le_of_ble_eq_true rfl) (fun v_5 h_5 qh_5 => ?_)
    obtain ⟨rfl, n0h_5, eh_5⟩ := qh_5
    replace O0 := n0h_5
    replace O1 := (eh_5 _ (by decide)).trans O1
    replace O15 := (eh_5 _ (by decide)).trans O15
    replace O16 := (eh_5 _ (by decide)).trans O16
    replace hf : ∀ i, i ≠ 0 → i ≠ 15 → i ≠ 16 → h_5 i = h i := fun i g0 g1 g2 => (eh_5 i g0).trans (hf i g0 g1 g2)
    have ew : wP x p = -1 := by
      first | (simp only [c8, if_true, if_false, ite_true, ite_false, and_true, true_and, and_false, false_and, and_self, or_true, true_or, or_false, false_or, or_self, not_true_eq_false, not_false_eq_true, decide_true, decide_false, Bool.and_true, Bool.true_and, Bool.and_false, Bool.false_and, Bool.and_self, Bool.or_true, Bool.true_or, Bool.or_false, Bool.false_or, Bool.not_true, Bool.not_false, cond_true, cond_false, bI_t, bI_f, Bool.false_eq_true, Bool.true_eq_false, dayC_1, dayC_21, dayC_221, dayC_222, w01, wP, wPL, wP01, wL01, wRow, w01R, wAB, wNum, isP, isL]; done)
    refine A_iret dX9_judge_16 rfl ⟨_, rfl, (by rw [ew]; exact rV_n (by decide)), _, (by rw [ew]; first | (rw [rS_0]; exact O0) | exact O0), (by rw [ew]; simp only [ifW_0, ifW_1, ifW_2, ifW_3, ifW_4, ifW_6]; exact O15), O16, hf⟩
set_option maxHeartbeats 4000000 in
set_option maxRecDepth 100000 in
theorem S_X9_clear (X : En) (l : Launch) {h : Hp} {g : Int32} {r : FI} (O0 : h 0 = some (maB g r)) {t : FI} {n : Nat} (O15 : h 15 = some (toB t n)) : Ct X l mX9_clear [aR 0 0] h (QI (PI1 (nI n) h (15) (toB t 0))) := by
  have hf : ∀ i, i ≠ 15 → h i = h i := fun _ _ => rfl
  refine Ct.intro [some (aR 0 0)] (by decide +kernel) rfl (Nat.le_of_ble_eq_true rfl) ?_
  refine A_aload_n 1 dX9_clear_0 rfl rfl rfl ?_
  refine A_getfield 4 dX9_clear_1 rfl f_X9_36 O0 rfl ?_
  refine A_callVI 7 (S_X7_wipe X l (by first | assumption | decide | omega | exact Ne.symm (by assumption))) dX9_clear_4 rfl kX7_wipe lk_X9_340 rfl O15 (by decide) rfl (Nat.le_of_ble_eq_true rfl) (fun v_1 h_1 qh_1 => ?_)
  obtain ⟨rfl, n0h_1, eh_1⟩ := qh_1
  replace O0 := (eh_1 _ (by decide)).trans O0
  replace O15 := n0h_1
  replace hf : ∀ i, i ≠ 15 → h_1 i = h i := fun i g0 => (eh_1 i g0).trans (hf i g0)
  refine A_iret dX9_clear_7 rfl ⟨_, rfl, (by first | with_reducible rfl | (simp only [if_true, if_false, ite_true, ite_false, and_true, true_and, and_false, false_and, and_self, or_true, true_or, or_false, false_or, or_self, not_true_eq_false, not_false_eq_true, decide_true, decide_false, Bool.and_true, Bool.true_and, Bool.and_false, Bool.false_and, Bool.and_self, Bool.or_true, Bool.true_or, Bool.or_false, Bool.false_or, Bool.not_true, Bool.not_false, cond_true, cond_false, bI_t, bI_f, Bool.false_eq_true, Bool.true_eq_false, dayC_1, dayC_21, dayC_221, dayC_222]; done) | (simp only [*]; done) | (simp [bI, *]; done) | with_reducible_and_instances rfl), O15, hf⟩
set_option maxHeartbeats 4000000 in
set_option maxRecDepth 100000 in
theorem S_X9_lots (X : En) (l : Launch) {h : Hp} {x : PW} {g : Int32} {r : FI} (O0 : h 0 = some (maB g r)) (O1 : h 1 = some (wB 1 x)) (hW : WOK x)  {y26 : PC} {s : Nat → Int64} {g25 : FI} (O25 : h 25 = some (foB s g25)) (O26 : h 26 = some (cB 26 y26)) {n z v : Int32} : Ct X l mX9_lots [aR 0 0, aI n, aI z, aI v] h (QI (fun vr h2 => (rV (wLots n v) (aLots x n z v)) = vr ∧ ∃ (z26 : PC), h2 (0) = some (maB g (rS (wLots n v) r)) ∧ h2 (26) = some (cB 26 z26) ∧ ∀ i, i ≠ 0 → i ≠ 26 → h2 i = h i)) := by
  have hx := hW.1
  have hp := hW.2.1
  have h10 := hx.1
  have hf : ∀ i, i ≠ 0 → i ≠ 26 → h i = h i := fun _ _ _ => rfl
  refine Ct.intro [some (aR 0 0), some (aI n), some (aI z), some (aI v)] (by decide +kernel) rfl (Nat.le_of_ble_eq_true rfl) ?_
  refine A_iload_n 1 dX9_lots_0 rfl rfl rfl ?_
  refine A_iconst 2 (1) dX9_lots_1 rfl (by decide) ?_
  refine A_icmp_ge 12 5 dX9_lots_2 (by decide) rfl (fun c2 => ?_) (fun c2 => ?_)
  · skip
    try simp only [bI_0, bI_n0, Classical.not_not, Bool.not_eq_false, Bool.true_and, Bool.and_true, decide_eq_true_eq, decide_eq_false_iff_not, dayC_1, dayC_21, dayC_221, dayC_222] at c2
    have n2 := c2
    replace c2 := Int32.not_lt.mpr c2
    refine A_iload_n 13 dX9_lots_12 rfl rfl rfl ?_
    refine A_bipush 15 (20) dX9_lots_13 rfl (by decide) ?_
    refine A_icmp_le 25 18 dX9_lots_15 (by decide) rfl (fun c15 => ?_) (fun c15 => ?_)
    · skip
      try simp only [bI_0, bI_n0, Classical.not_not, Bool.not_eq_false, Bool.true_and, Bool.and_true, decide_eq_true_eq, decide_eq_false_iff_not, dayC_1, dayC_21, dayC_221, dayC_222] at c15
      have n15 := c15
      replace c15 := Int32.not_lt.mpr c15
      obtain ⟨k_n, rfl, hk_n⟩ := nI_exg (n := 20) (fun z => c2 (Int32.lt_trans z (by decide))) c15 (by decide)
      have cl_n : (nI k_n).toNatClampNeg = k_n := nI_clamp (by omega)
      refine A_iload_n 26 dX9_lots_25 rfl rfl rfl ?_
      refine A_callSI 29 (S_X9_isNot0or1 X l) dX9_lots_26 rfl kX9_isNot0or1 lk_X9_174 rfl (by decide) rfl (Nat.le_of_ble_eq_true rfl) (fun v_1 h_1 qh_1 => ?_)
      obtain ⟨rfl, rfl⟩ := qh_1
      refine A_if_eq 39 32 dX9_lots_29 (by decide) rfl (fun c29 => ?_) (fun c29 => ?_)
      · skip
        try simp only [bI_0, bI_n0, Classical.not_not, Bool.not_eq_false, Bool.true_and, Bool.and_true, decide_eq_true_eq, decide_eq_false_iff_not, dayC_1, dayC_21, dayC_221, dayC_222] at c29
        refine A_aload_n 40 dX9_lots_39 rfl rfl rfl ?_
        refine A_getfield 43 dX9_lots_40 rfl f_X9_75 O0 rfl ?_
        refine A_aload_n 44 dX9_lots_43 rfl rfl rfl ?_
        refine A_getfield 47 dX9_lots_44 rfl f_X9_10 O0 rfl ?_
        refine A_iload_n 48 dX9_lots_47 rfl rfl rfl ?_
        refine A_iload_n 49 dX9_lots_48 rfl rfl rfl ?_
        refine A_iload_n 50 dX9_lots_49 rfl rfl rfl ?_
        refine A_callVI 53 (S_X2_drawn X l (by first | assumption | decide | omega | exact Ne.symm (by assumption)) (by first | assumption | decide | omega | exact Ne.symm (by assumption)) (by first | assumption | decide | omega | exact Ne.symm (by assumption)) (by first | assumption | decide | omega | exact Ne.symm (by assumption)) (by first | assumption | decide | omega | exact Ne.symm (by assumption)) (by first | assumption | decide | omega | exact Ne.symm (by assumption))) dX9_lots_50 rfl kX2_drawn lk_X9_342 rfl O25 (by decide) rfl (Nat.le_of_ble_eq_true rfl) (fun v_2 h_2 qh_2 => ?_)
        obtain ⟨rfl, y1_2, n0h_2, eh_2⟩ := qh_2
        replace O0 := (eh_2 _ (by decide)).trans O0
        replace O1 := (eh_2 _ (by decide)).trans O1
        replace O25 := (eh_2 _ (by decide)).trans O25
        replace O26 := n0h_2
        replace hf : ∀ i, i ≠ 0 → i ≠ 26 → h_2 i = h i := fun i g0 g1 => (eh_2 i g1).trans (hf i g0 g1)
        have ew : wLots (nI k_n) v = 0 := by
          first | (simp only [c2, n2, c15, n15, cl_n, c29, if_true, if_false, ite_true, ite_false, and_true, true_and, and_false, false_and, and_self, or_true, true_or, or_false, false_or, or_self, not_true_eq_false, not_false_eq_true, decide_true, decide_false, Bool.and_true, Bool.true_and, Bool.and_false, Bool.false_and, Bool.and_self, Bool.or_true, Bool.true_or, Bool.or_false, Bool.false_or, Bool.not_true, Bool.not_false, cond_true, cond_false, bI_t, bI_f, Bool.false_eq_true, Bool.true_eq_false, dayC_1, dayC_21, dayC_221, dayC_222, wLots, w01, wP, wPL, wP01, wL01, wRow, w01R, wAB, wNum, isP, isL]; done)
        refine A_iret dX9_lots_53 rfl ⟨_, rfl, (by rw [ew, rV_0]; unfold aLots; rw [cl_n]), _, (by rw [ew]; first | (rw [rS_0]; exact O0) | exact O0), O26, hf⟩
      · skip
        try simp only [bI_0, bI_n0, Classical.not_not, Bool.not_eq_false, Bool.true_and, Bool.and_true, decide_eq_true_eq, decide_eq_false_iff_not, dayC_1, dayC_21, dayC_221, dayC_222] at c29
        refine A_aload_n 33 dX9_lots_32 rfl rfl rfl ?_
        refine A_bipush 35 (-2) dX9_lots_33 rfl (by decide) ?_
        refine A_callVI 38 (S_X9_refuse X l (by first | assumption | decide | omega | exact Ne.symm (by assumption)) (by first | assumption | (unfold CD; decide))) dX9_lots_35 rfl kX9_refuse lk_X9_79 rfl O0 (by decide) rfl (Nat.le_of_ble_eq_true rfl) (fun v_3 h_3 qh_3 => ?_)
        obtain ⟨rfl, n0h_3, eh_3⟩ := qh_3
        replace O0 := n0h_3
        replace O1 := (eh_3 _ (by decide)).trans O1
        replace O25 := (eh_3 _ (by decide)).trans O25
        replace O26 := (eh_3 _ (by decide)).trans O26
        replace hf : ∀ i, i ≠ 0 → i ≠ 26 → h_3 i = h i := fun i g0 g1 => (eh_3 i g0).trans (hf i g0 g1)
        have ew : wLots (nI k_n) v = -2 := by
          first | (simp only [c2, n2, c15, n15, cl_n, c29, if_true, if_false, ite_true, ite_false, and_true, true_and, and_false, false_and, and_self, or_true, true_or, or_false, false_or, or_self, not_true_eq_false, not_false_eq_true, decide_true, decide_false, Bool.and_true, Bool.true_and, Bool.and_false, Bool.false_and, Bool.and_self, Bool.or_true, Bool.true_or, Bool.or_false, Bool.false_or, Bool.not_true, Bool.not_false, cond_true, cond_false, bI_t, bI_f, Bool.false_eq_true, Bool.true_eq_false, dayC_1, dayC_21, dayC_221, dayC_222, wLots, w01, wP, wPL, wP01, wL01, wRow, w01R, wAB, wNum, isP, isL]; done)
        refine A_iret dX9_lots_38 rfl ⟨_, rfl, (by rw [ew]; exact rV_n (by decide)), _, (by rw [ew]; first | (rw [rS_0]; exact O0) | exact O0), O26, hf⟩
    · skip
      try simp only [bI_0, bI_n0, Classical.not_not, Bool.not_eq_false, Bool.true_and, Bool.and_true, decide_eq_true_eq, decide_eq_false_iff_not, dayC_1, dayC_21, dayC_221, dayC_222] at c15
      have n15 := c15
      replace c15 := Int32.not_le.mp c15
      refine A_aload_n 19 dX9_lots_18 rfl rfl rfl ?_
      refine A_bipush 21 (-6) dX9_lots_19 rfl (by decide) ?_
      refine A_callVI 24 (S_X9_refuse X l (by first | assumption | decide | omega | exact Ne.symm (by assumption)) (by first | assumption | (unfold CD; decide))) dX9_lots_21 rfl kX9_refuse lk_X9_79 rfl O0 (by decide) rfl (Nat.le_of_ble_eq_true rfl) (fun v_4 h_4 qh_4 => ?_)
      obtain ⟨rfl, n0h_4, eh_4⟩ := qh_4
      replace O0 := n0h_4
      replace O1 := (eh_4 _ (by decide)).trans O1
      replace O25 := (eh_4 _ (by decide)).trans O25
      replace O26 := (eh_4 _ (by decide)).trans O26
      replace hf : ∀ i, i ≠ 0 → i ≠ 26 → h_4 i = h i := fun i g0 g1 => (eh_4 i g0).trans (hf i g0 g1)
      have ew : wLots n v = -6 := by
        first | (simp only [c2, n2, c15, n15, if_true, if_false, ite_true, ite_false, and_true, true_and, and_false, false_and, and_self, or_true, true_or, or_false, false_or, or_self, not_true_eq_false, not_false_eq_true, decide_true, decide_false, Bool.and_true, Bool.true_and, Bool.and_false, Bool.false_and, Bool.and_self, Bool.or_true, Bool.true_or, Bool.or_false, Bool.false_or, Bool.not_true, Bool.not_false, cond_true, cond_false, bI_t, bI_f, Bool.false_eq_true, Bool.true_eq_false, dayC_1, dayC_21, dayC_221, dayC_222, wLots, w01, wP, wPL, wP01, wL01, wRow, w01R, wAB, wNum, isP, isL]; done)
      refine A_iret dX9_lots_24 rfl ⟨_, rfl, (by rw [ew]; exact rV_n (by decide)), _, (by rw [ew]; first | (rw [rS_0]; exact O0) | exact O0), O26, hf⟩
  · skip
    try simp only [bI_0, bI_n0, Classical.not_not, Bool.not_eq_false, Bool.true_and, Bool.and_true, decide_eq_true_eq, decide_eq_false_iff_not, dayC_1, dayC_21, dayC_221, dayC_222] at c2
    have n2 := c2
    replace c2 := Int32.not_le.mp c2
    refine A_aload_n 6 dX9_lots_5 rfl rfl rfl ?_
    refine A_bipush 8 (-4) dX9_lots_6 rfl (by decide) ?_
    refine A_callVI 11 (S_X9_refuse X l (by first | assumption | decide | omega | exact Ne.symm (by assumption)) (by first | assumption | (unfold CD; decide))) dX9_lots_8 rfl kX9_refuse lk_X9_79 rfl O0 (by decide) rfl (Nat.le_of_ble_eq_true rfl) (fun v_5 h_5 qh_5 => ?_)
    obtain ⟨rfl, n0h_5, eh_5⟩ := qh_5
    replace O0 := n0h_5
    replace O1 := (eh_5 _ (by decide)).trans O1
    replace O25 := (eh_5 _ (by decide)).trans O25
    replace O26 := (eh_5 _ (by decide)).trans O26
    replace hf : ∀ i, i ≠ 0 → i ≠ 26 → h_5 i = h i := fun i g0 g1 => (eh_5 i g0).trans (hf i g0 g1)
    have ew : wLots n v = -4 := by
      first | (simp only [c2, n2, if_true, if_false, ite_true, ite_false, and_true, true_and, and_false, false_and, and_self, or_true, true_or, or_false, false_or, or_self, not_true_eq_false, not_false_eq_true, decide_true, decide_false, Bool.and_true, Bool.true_and, Bool.and_false, Bool.false_and, Bool.and_self, Bool.or_true, Bool.true_or, Bool.or_false, Bool.false_or, Bool.not_true, Bool.not_false, cond_true, cond_false, bI_t, bI_f, Bool.false_eq_true, Bool.true_eq_false, dayC_1, dayC_21, dayC_221, dayC_222, wLots, w01, wP, wPL, wP01, wL01, wRow, w01R, wAB, wNum, isP, isL]; done)
    refine A_iret dX9_lots_11 rfl ⟨_, rfl, (by rw [ew]; exact rV_n (by decide)), _, (by rw [ew]; first | (rw [rS_0]; exact O0) | exact O0), O26, hf⟩
set_option maxHeartbeats 4000000 in
set_option maxRecDepth 100000 in
theorem S_X9_image (X : En) (l : Launch) {h : Hp} {x x2 : PW} {g : Int32} {r : FI} (O0 : h 0 = some (maB g r)) (O1 : h 1 = some (wB 1 x)) (O2 : h 2 = some (wB 2 x2)) : Ct X l mX9_image [aR 0 0] h (QI (PI2 (x.2.2.2.2.2) h (0) (maB 1 r) (2) (wB 2 x))) := by
  have hf : ∀ i, i ≠ 0 → i ≠ 2 → h i = h i := fun _ _ _ => rfl
  refine Ct.intro [some (aR 0 0)] (by decide +kernel) rfl (Nat.le_of_ble_eq_true rfl) ?_
  refine A_aload_n 1 dX9_image_0 rfl rfl rfl ?_
  refine A_getfield 4 dX9_image_1 rfl f_X9_16 O0 rfl ?_
  refine A_aload_n 5 dX9_image_4 rfl rfl rfl ?_
  refine A_getfield 8 dX9_image_5 rfl f_X9_10 O0 rfl ?_
  refine A_callVV 11 (S_X8_copyFrom X l (by first | assumption | decide | omega | exact Ne.symm (by assumption)) (by first | assumption | decide | omega | exact Ne.symm (by assumption)) (by first | assumption | decide | omega | exact Ne.symm (by assumption))) dX9_image_8 rfl kX8_copyFrom lk_X9_345 rfl O2 (by decide) rfl (Nat.le_of_ble_eq_true rfl) (fun h_1 qh_1 => ?_)
  obtain ⟨n0h_1, eh_1⟩ := qh_1
  replace O0 := (eh_1 _ (by decide)).trans O0
  replace O1 := (eh_1 _ (by decide)).trans O1
  replace O2 := n0h_1
  replace hf : ∀ i, i ≠ 0 → i ≠ 2 → h_1 i = h i := fun i g0 g1 => (eh_1 i g1).trans (hf i g0 g1)
  refine A_aload_n 12 dX9_image_11 rfl rfl rfl ?_
  refine A_iconst 13 (1) dX9_image_12 rfl (by decide) ?_
  refine P_X9_2 16 dX9_image_13 rfl fw_X9_348 O0 (by first | with_reducible exact bI01 _ | with_reducible exact Or.inl rfl | with_reducible exact Or.inr rfl | assumption) (fun h_2 nh_2 eh_2 => ?_)
  replace O0 := nh_2
  replace O1 := (eh_2 _ (by decide)).trans O1
  replace O2 := (eh_2 _ (by decide)).trans O2
  replace hf : ∀ i, i ≠ 0 → i ≠ 2 → h_2 i = h i := fun i g0 g1 => (eh_2 i g0).trans (hf i g0 g1)
  refine A_aload_n 17 dX9_image_16 rfl rfl rfl ?_
  refine A_getfield 20 dX9_image_17 rfl f_X9_10 O0 rfl ?_
  refine A_callVI 23 (S_X8_dayNumber X l (by first | assumption | decide | omega | exact Ne.symm (by assumption))) dX9_image_20 rfl kX8_dayNumber lk_X9_161 rfl O1 (by decide) rfl (Nat.le_of_ble_eq_true rfl) (fun v_3 h_3 qh_3 => ?_)
  obtain ⟨rfl, rfl⟩ := qh_3
  refine A_iret dX9_image_23 rfl ⟨_, rfl, (by first | with_reducible rfl | (simp only [if_true, if_false, ite_true, ite_false, and_true, true_and, and_false, false_and, and_self, or_true, true_or, or_false, false_or, or_self, not_true_eq_false, not_false_eq_true, decide_true, decide_false, Bool.and_true, Bool.true_and, Bool.and_false, Bool.false_and, Bool.and_self, Bool.or_true, Bool.true_or, Bool.or_false, Bool.false_or, Bool.not_true, Bool.not_false, cond_true, cond_false, bI_t, bI_f, Bool.false_eq_true, Bool.true_eq_false, dayC_1, dayC_21, dayC_221, dayC_222]; done) | (simp only [*]; done) | (simp [bI, *]; done) | with_reducible_and_instances rfl), O0, O2, hf⟩
set_option maxHeartbeats 4000000 in
set_option maxRecDepth 100000 in
theorem S_X9_restore (X : En) (l : Launch) {h : Hp} {x : PW} {g : Int32} {r : FI} (O0 : h 0 = some (maB g r)) (O1 : h 1 = some (wB 1 x)) (hW : WOK x) {xi : PW} (O2 : h 2 = some (wB 2 xi)) {np kp : Nat} (O3 : h 3 = some (paB np kp)) : Ct X l mX9_restore [aR 0 0] h (QI (PI3 (rV (wRest g) (xi.2.2.2.2.2)) h (0) (maB g (rS (wRest g) r)) (1) (wB 1 (ifW (wRest g) (xi) x)) (3) (paB np (ifW (wRest g) 0 kp)))) := by
  have hx := hW.1
  have hp := hW.2.1
  have h10 := hx.1
  have hf : ∀ i, i ≠ 0 → i ≠ 1 → i ≠ 3 → h i = h i := fun _ _ _ _ => rfl
  refine Ct.intro [some (aR 0 0)] (by decide +kernel) rfl (Nat.le_of_ble_eq_true rfl) ?_
  refine A_aload_n 1 dX9_restore_0 rfl rfl rfl ?_
  refine A_getfield 4 dX9_restore_1 rfl f_X9_348 O0 rfl ?_
  refine A_if_ne 14 7 dX9_restore_4 (by decide) rfl (fun c4 => ?_) (fun c4 => ?_)
  · skip
    try simp only [bI_0, bI_n0, Classical.not_not, Bool.not_eq_false, Bool.true_and, Bool.and_true, decide_eq_true_eq, decide_eq_false_iff_not, dayC_1, dayC_21, dayC_221, dayC_222] at c4
    refine A_aload_n 15 dX9_restore_14 rfl rfl rfl ?_
    refine A_getfield 18 dX9_restore_15 rfl f_X9_10 O0 rfl ?_
    refine A_aload_n 19 dX9_restore_18 rfl rfl rfl ?_
    refine A_getfield 22 dX9_restore_19 rfl f_X9_16 O0 rfl ?_
    refine A_callVV 25 (S_X8_copyFrom X l (by first | assumption | decide | omega | exact Ne.symm (by assumption)) (by first | assumption | decide | omega | exact Ne.symm (by assumption)) (by first | assumption | decide | omega | exact Ne.symm (by assumption))) dX9_restore_22 rfl kX8_copyFrom lk_X9_345 rfl O1 (by decide) rfl (Nat.le_of_ble_eq_true rfl) (fun h_1 qh_1 => ?_)
    obtain ⟨n0h_1, eh_1⟩ := qh_1
    replace O0 := (eh_1 _ (by decide)).trans O0
    replace O1 := n0h_1
    replace O2 := (eh_1 _ (by decide)).trans O2
    replace O3 := (eh_1 _ (by decide)).trans O3
    replace hf : ∀ i, i ≠ 0 → i ≠ 1 → i ≠ 3 → h_1 i = h i := fun i g0 g1 g2 => (eh_1 i g1).trans (hf i g0 g1 g2)
    refine A_aload_n 26 dX9_restore_25 rfl rfl rfl ?_
    refine A_getfield 29 dX9_restore_26 rfl f_X9_22 O0 rfl ?_
    refine A_callVV 32 (S_X5_forget X l (by first | assumption | decide | omega | exact Ne.symm (by assumption))) dX9_restore_29 rfl kX5_forget lk_X9_105 rfl O3 (by decide) rfl (Nat.le_of_ble_eq_true rfl) (fun h_2 qh_2 => ?_)
    obtain ⟨n0h_2, eh_2⟩ := qh_2
    replace O0 := (eh_2 _ (by decide)).trans O0
    replace O1 := (eh_2 _ (by decide)).trans O1
    replace O2 := (eh_2 _ (by decide)).trans O2
    replace O3 := n0h_2
    replace hf : ∀ i, i ≠ 0 → i ≠ 1 → i ≠ 3 → h_2 i = h i := fun i g0 g1 g2 => (eh_2 i g2).trans (hf i g0 g1 g2)
    refine A_aload_n 33 dX9_restore_32 rfl rfl rfl ?_
    refine A_getfield 36 dX9_restore_33 rfl f_X9_10 O0 rfl ?_
    refine A_callVI 39 (S_X8_dayNumber X l (by first | assumption | decide | omega | exact Ne.symm (by assumption))) dX9_restore_36 rfl kX8_dayNumber lk_X9_161 rfl O1 (by decide) rfl (Nat.le_of_ble_eq_true rfl) (fun v_3 h_3 qh_3 => ?_)
    obtain ⟨rfl, rfl⟩ := qh_3
    have ew : wRest g = 0 := by
      first | (simp only [c4, if_true, if_false, ite_true, ite_false, and_true, true_and, and_false, false_and, and_self, or_true, true_or, or_false, false_or, or_self, not_true_eq_false, not_false_eq_true, decide_true, decide_false, Bool.and_true, Bool.true_and, Bool.and_false, Bool.false_and, Bool.and_self, Bool.or_true, Bool.true_or, Bool.or_false, Bool.false_or, Bool.not_true, Bool.not_false, cond_true, cond_false, bI_t, bI_f, Bool.false_eq_true, Bool.true_eq_false, dayC_1, dayC_21, dayC_221, dayC_222, wRest, w01, wP, wPL, wP01, wL01, wRow, w01R, wAB, wNum, isP, isL]; done)
    refine A_iret dX9_restore_39 rfl ⟨_, rfl, (by rw [ew, rV_0]; skip), (by rw [ew]; first | (rw [rS_0]; exact O0) | exact O0), (by rw [ew]; simp only [ifW_0, ifW_1, ifW_2, ifW_3, ifW_4, ifW_6]; exact O1), (by rw [ew]; simp only [ifW_0, ifW_1, ifW_2, ifW_3, ifW_4, ifW_6]; exact O3), hf⟩
  · skip
    try simp only [bI_0, bI_n0, Classical.not_not, Bool.not_eq_false, Bool.true_and, Bool.and_true, decide_eq_true_eq, decide_eq_false_iff_not, dayC_1, dayC_21, dayC_221, dayC_222] at c4
    refine A_aload_n 8 dX9_restore_7 rfl rfl rfl ?_
    refine A_bipush 10 (-3) dX9_restore_8 rfl (by decide) ?_
    refine A_callVI 13 (S_X9_refuse X l (by first | assumption | decide | omega | exact Ne.symm (by assumption)) (by first | assumption | (unfold CD; decide))) dX9_restore_10 rfl kX9_refuse lk_X9_79 rfl O0 (by decide) rfl (Nat.le_of_ble_eq_true rfl) (fun v_4 h_4 qh_4 => ?_)
    obtain ⟨rfl, n0h_4, eh_4⟩ := qh_4
    replace O0 := n0h_4
    replace O1 := (eh_4 _ (by decide)).trans O1
    replace O2 := (eh_4 _ (by decide)).trans O2
    replace O3 := (eh_4 _ (by decide)).trans O3
    replace hf : ∀ i, i ≠ 0 → i ≠ 1 → i ≠ 3 → h_4 i = h i := fun i g0 g1 g2 => (eh_4 i g0).trans (hf i g0 g1 g2)
    have ew : wRest g = -3 := by
      first | (simp only [c4, if_true, if_false, ite_true, ite_false, and_true, true_and, and_false, false_and, and_self, or_true, true_or, or_false, false_or, or_self, not_true_eq_false, not_false_eq_true, decide_true, decide_false, Bool.and_true, Bool.true_and, Bool.and_false, Bool.false_and, Bool.and_self, Bool.or_true, Bool.true_or, Bool.or_false, Bool.false_or, Bool.not_true, Bool.not_false, cond_true, cond_false, bI_t, bI_f, Bool.false_eq_true, Bool.true_eq_false, dayC_1, dayC_21, dayC_221, dayC_222, wRest, w01, wP, wPL, wP01, wL01, wRow, w01R, wAB, wNum, isP, isL]; done) | (simp only [eq_true c4, if_true, if_false, ite_true, ite_false, and_true, true_and, and_false, false_and, and_self, or_true, true_or, or_false, false_or, or_self, not_true_eq_false, not_false_eq_true, decide_true, decide_false, Bool.and_true, Bool.true_and, Bool.and_false, Bool.false_and, Bool.and_self, Bool.or_true, Bool.true_or, Bool.or_false, Bool.false_or, Bool.not_true, Bool.not_false, cond_true, cond_false, bI_t, bI_f, Bool.false_eq_true, Bool.true_eq_false, dayC_1, dayC_21, dayC_221, dayC_222, wRest, w01, wP, wPL, wP01, wL01, wRow, w01R, wAB, wNum, isP, isL]; done)
    refine A_iret dX9_restore_13 rfl ⟨_, rfl, (by rw [ew]; exact rV_n (by decide)), (by rw [ew]; first | (rw [rS_0]; exact O0) | exact O0), (by rw [ew]; simp only [ifW_0, ifW_1, ifW_2, ifW_3, ifW_4, ifW_6]; exact O1), (by rw [ew]; simp only [ifW_0, ifW_1, ifW_2, ifW_3, ifW_4, ifW_6]; exact O3), hf⟩
set_option maxHeartbeats 4000000 in
set_option maxRecDepth 100000 in
theorem S_X9_count (X : En) (l : Launch) {h : Hp} {x : PW} {g : Int32} {r : FI} (O0 : h 0 = some (maB g r)) (O1 : h 1 = some (wB 1 x)) (hW : WOK x) {t12 t15 : FI} {n12 k12 n15 np kp : Nat} (O12 : h 12 = some (leB t12 n12 k12)) (O15 : h 15 = some (toB t15 n15)) (O3 : h 3 = some (paB np kp)) {y26 : PC} {s : Nat → Int64} {g25 : FI} (O25 : h 25 = some (foB s g25)) (O26 : h 26 = some (cB 26 y26)) {v : Int32} : Ct X l mX9_count [aR 0 0, aI v] h (QI (fun vr h2 => (aCount x n12 n15 kp r v) = vr ∧ ∃ (z26 : PC), h2 (26) = some (cB 26 z26) ∧ ∀ i, i ≠ 26 → h2 i = h i)) := by
  have hx := hW.1
  have hp := hW.2.1
  have h10 := hx.1
  have hf : ∀ i, i ≠ 26 → h i = h i := fun _ _ => rfl
  refine Ct.intro [some (aR 0 0), some (aI v)] (by decide +kernel) rfl (Nat.le_of_ble_eq_true rfl) ?_
  refine A_iload_n 1 dX9_count_0 rfl rfl rfl ?_
  refine A_case (0) (fun e1_0 => ?_) (fun e1_0 => ?_)
  · skip
    refine A_switch 52 dX9_count_1 (by rw [e1_0]; decide) (by rw [e1_0]; rfl) (by decide) ?_
    refine A_aload_n 53 dX9_count_52 rfl rfl rfl ?_
    refine A_getfield 56 dX9_count_53 rfl f_X9_10 O0 rfl ?_
    refine A_callVI 59 (S_X8_lawCount X l (by first | assumption | decide | omega | exact Ne.symm (by assumption))) dX9_count_56 rfl kX8_lawCount lk_X9_352 rfl O1 (by decide) rfl (Nat.le_of_ble_eq_true rfl) (fun v_1 h_1 qh_1 => ?_)
    obtain ⟨rfl, rfl⟩ := qh_1
    refine A_iret dX9_count_59 rfl ⟨_, rfl, (by first | (simp only [e1_0, if_true, if_false, ite_true, ite_false, and_true, true_and, and_false, false_and, and_self, or_true, true_or, or_false, false_or, or_self, not_true_eq_false, not_false_eq_true, decide_true, decide_false, Bool.and_true, Bool.true_and, Bool.and_false, Bool.false_and, Bool.and_self, Bool.or_true, Bool.true_or, Bool.or_false, Bool.false_or, Bool.not_true, Bool.not_false, cond_true, cond_false, bI_t, bI_f, Bool.false_eq_true, Bool.true_eq_false, dayC_1, dayC_21, dayC_221, dayC_222, aCount, thF]; done) | (simp only [eq_true e1_0, if_true, if_false, ite_true, ite_false, and_true, true_and, and_false, false_and, and_self, or_true, true_or, or_false, false_or, or_self, not_true_eq_false, not_false_eq_true, decide_true, decide_false, Bool.and_true, Bool.true_and, Bool.and_false, Bool.false_and, Bool.and_self, Bool.or_true, Bool.true_or, Bool.or_false, Bool.false_or, Bool.not_true, Bool.not_false, cond_true, cond_false, bI_t, bI_f, Bool.false_eq_true, Bool.true_eq_false, dayC_1, dayC_21, dayC_221, dayC_222, aCount, thF]; done) | (unfold aCount; rw [if_neg e1_0, if_neg e1_1, if_neg e1_2, if_neg e1_3, if_neg e1_4, if_neg e1_5, if_neg e1_6, if_neg e1_7, if_neg e1_8, if_pos ⟨c135, c141⟩, sub_10 hk11, nI_clamp (by omega)])), _, O26, hf⟩
  refine A_case (1) (fun e1_1 => ?_) (fun e1_1 => ?_)
  · skip
    refine A_switch 60 dX9_count_1 (by rw [e1_1]; decide) (by rw [e1_1]; rfl) (by decide) ?_
    refine A_aload_n 61 dX9_count_60 rfl rfl rfl ?_
    refine A_getfield 64 dX9_count_61 rfl f_X9_10 O0 rfl ?_
    refine A_callVI 67 (S_X8_peopleCount X l (by first | assumption | decide | omega | exact Ne.symm (by assumption))) dX9_count_64 rfl kX8_peopleCount lk_X9_355 rfl O1 (by decide) rfl (Nat.le_of_ble_eq_true rfl) (fun v_2 h_2 qh_2 => ?_)
    obtain ⟨rfl, rfl⟩ := qh_2
    refine A_iret dX9_count_67 rfl ⟨_, rfl, (by first | (simp only [e1_0, e1_1, if_true, if_false, ite_true, ite_false, and_true, true_and, and_false, false_and, and_self, or_true, true_or, or_false, false_or, or_self, not_true_eq_false, not_false_eq_true, decide_true, decide_false, Bool.and_true, Bool.true_and, Bool.and_false, Bool.false_and, Bool.and_self, Bool.or_true, Bool.true_or, Bool.or_false, Bool.false_or, Bool.not_true, Bool.not_false, cond_true, cond_false, bI_t, bI_f, Bool.false_eq_true, Bool.true_eq_false, dayC_1, dayC_21, dayC_221, dayC_222, aCount, thF]; done) | (simp only [e1_0, eq_true e1_1, if_true, if_false, ite_true, ite_false, and_true, true_and, and_false, false_and, and_self, or_true, true_or, or_false, false_or, or_self, not_true_eq_false, not_false_eq_true, decide_true, decide_false, Bool.and_true, Bool.true_and, Bool.and_false, Bool.false_and, Bool.and_self, Bool.or_true, Bool.true_or, Bool.or_false, Bool.false_or, Bool.not_true, Bool.not_false, cond_true, cond_false, bI_t, bI_f, Bool.false_eq_true, Bool.true_eq_false, dayC_1, dayC_21, dayC_221, dayC_222, aCount, thF]; done) | (unfold aCount; rw [if_neg e1_0, if_neg e1_1, if_neg e1_2, if_neg e1_3, if_neg e1_4, if_neg e1_5, if_neg e1_6, if_neg e1_7, if_neg e1_8, if_pos ⟨c135, c141⟩, sub_10 hk11, nI_clamp (by omega)])), _, O26, hf⟩
  refine A_case (2) (fun e1_2 => ?_) (fun e1_2 => ?_)
  · skip
    refine A_switch 68 dX9_count_1 (by rw [e1_2]; decide) (by rw [e1_2]; rfl) (by decide) ?_
    refine A_aload_n 69 dX9_count_68 rfl rfl rfl ?_
    refine A_getfield 72 dX9_count_69 rfl f_X9_10 O0 rfl ?_
    refine A_callVI 75 (S_X8_dayNumber X l (by first | assumption | decide | omega | exact Ne.symm (by assumption))) dX9_count_72 rfl kX8_dayNumber lk_X9_161 rfl O1 (by decide) rfl (Nat.le_of_ble_eq_true rfl) (fun v_3 h_3 qh_3 => ?_)
    obtain ⟨rfl, rfl⟩ := qh_3
    refine A_iret dX9_count_75 rfl ⟨_, rfl, (by first | (simp only [e1_0, e1_1, e1_2, if_true, if_false, ite_true, ite_false, and_true, true_and, and_false, false_and, and_self, or_true, true_or, or_false, false_or, or_self, not_true_eq_false, not_false_eq_true, decide_true, decide_false, Bool.and_true, Bool.true_and, Bool.and_false, Bool.false_and, Bool.and_self, Bool.or_true, Bool.true_or, Bool.or_false, Bool.false_or, Bool.not_true, Bool.not_false, cond_true, cond_false, bI_t, bI_f, Bool.false_eq_true, Bool.true_eq_false, dayC_1, dayC_21, dayC_221, dayC_222, aCount, thF]; done) | (simp only [e1_0, e1_1, eq_true e1_2, if_true, if_false, ite_true, ite_false, and_true, true_and, and_false, false_and, and_self, or_true, true_or, or_false, false_or, or_self, not_true_eq_false, not_false_eq_true, decide_true, decide_false, Bool.and_true, Bool.true_and, Bool.and_false, Bool.false_and, Bool.and_self, Bool.or_true, Bool.true_or, Bool.or_false, Bool.false_or, Bool.not_true, Bool.not_false, cond_true, cond_false, bI_t, bI_f, Bool.false_eq_true, Bool.true_eq_false, dayC_1, dayC_21, dayC_221, dayC_222, aCount, thF]; done) | (unfold aCount; rw [if_neg e1_0, if_neg e1_1, if_neg e1_2, if_neg e1_3, if_neg e1_4, if_neg e1_5, if_neg e1_6, if_neg e1_7, if_neg e1_8, if_pos ⟨c135, c141⟩, sub_10 hk11, nI_clamp (by omega)])), _, O26, hf⟩
  refine A_case (3) (fun e1_3 => ?_) (fun e1_3 => ?_)
  · skip
    refine A_switch 76 dX9_count_1 (by rw [e1_3]; decide) (by rw [e1_3]; rfl) (by decide) ?_
    refine A_aload_n 77 dX9_count_76 rfl rfl rfl ?_
    refine A_getfield 80 dX9_count_77 rfl f_X9_10 O0 rfl ?_
    refine A_callVI 83 (S_X8_onTheTray X l (by first | assumption | decide | omega | exact Ne.symm (by assumption))) dX9_count_80 rfl kX8_onTheTray lk_X9_259 rfl O1 (by decide) rfl (Nat.le_of_ble_eq_true rfl) (fun v_4 h_4 qh_4 => ?_)
    obtain ⟨rfl, rfl⟩ := qh_4
    refine A_callSI 86 (S_J6_bitCount_0f7a4 X l) dX9_count_83 rfl kJ6_bitCount_0f7a4 lk_X9_190 rfl (by decide) rfl (Nat.le_of_ble_eq_true rfl) (fun v_5 h_5 qh_5 => ?_)
    obtain ⟨rfl, rfl⟩ := qh_5
    refine A_iret dX9_count_86 rfl ⟨_, rfl, (by first | (simp only [e1_0, e1_1, e1_2, e1_3, if_true, if_false, ite_true, ite_false, and_true, true_and, and_false, false_and, and_self, or_true, true_or, or_false, false_or, or_self, not_true_eq_false, not_false_eq_true, decide_true, decide_false, Bool.and_true, Bool.true_and, Bool.and_false, Bool.false_and, Bool.and_self, Bool.or_true, Bool.true_or, Bool.or_false, Bool.false_or, Bool.not_true, Bool.not_false, cond_true, cond_false, bI_t, bI_f, Bool.false_eq_true, Bool.true_eq_false, dayC_1, dayC_21, dayC_221, dayC_222, aCount, thF]; done) | (simp only [e1_0, e1_1, e1_2, eq_true e1_3, if_true, if_false, ite_true, ite_false, and_true, true_and, and_false, false_and, and_self, or_true, true_or, or_false, false_or, or_self, not_true_eq_false, not_false_eq_true, decide_true, decide_false, Bool.and_true, Bool.true_and, Bool.and_false, Bool.false_and, Bool.and_self, Bool.or_true, Bool.true_or, Bool.or_false, Bool.false_or, Bool.not_true, Bool.not_false, cond_true, cond_false, bI_t, bI_f, Bool.false_eq_true, Bool.true_eq_false, dayC_1, dayC_21, dayC_221, dayC_222, aCount, thF]; done) | (unfold aCount; rw [if_neg e1_0, if_neg e1_1, if_neg e1_2, if_neg e1_3, if_neg e1_4, if_neg e1_5, if_neg e1_6, if_neg e1_7, if_neg e1_8, if_pos ⟨c135, c141⟩, sub_10 hk11, nI_clamp (by omega)])), _, O26, hf⟩
  refine A_case (4) (fun e1_4 => ?_) (fun e1_4 => ?_)
  · skip
    refine A_switch 87 dX9_count_1 (by rw [e1_4]; decide) (by rw [e1_4]; rfl) (by decide) ?_
    refine A_aload_n 88 dX9_count_87 rfl rfl rfl ?_
    refine A_getfield 91 dX9_count_88 rfl f_X9_10 O0 rfl ?_
    refine A_callVI 94 (S_X8_thingsInPockets X l (by first | assumption | decide | omega | exact Ne.symm (by assumption)) (by first | assumption | decide | omega | exact Ne.symm (by assumption))) dX9_count_91 rfl kX8_thingsInPockets lk_X9_358 rfl O1 (by decide) rfl (Nat.le_of_ble_eq_true rfl) (fun v_6 h_6 qh_6 => ?_)
    obtain ⟨rfl, rfl⟩ := qh_6
    refine A_iret dX9_count_94 rfl ⟨_, rfl, (by first | (simp only [e1_0, e1_1, e1_2, e1_3, e1_4, if_true, if_false, ite_true, ite_false, and_true, true_and, and_false, false_and, and_self, or_true, true_or, or_false, false_or, or_self, not_true_eq_false, not_false_eq_true, decide_true, decide_false, Bool.and_true, Bool.true_and, Bool.and_false, Bool.false_and, Bool.and_self, Bool.or_true, Bool.true_or, Bool.or_false, Bool.false_or, Bool.not_true, Bool.not_false, cond_true, cond_false, bI_t, bI_f, Bool.false_eq_true, Bool.true_eq_false, dayC_1, dayC_21, dayC_221, dayC_222, aCount, thF]; done) | (simp only [e1_0, e1_1, e1_2, e1_3, eq_true e1_4, if_true, if_false, ite_true, ite_false, and_true, true_and, and_false, false_and, and_self, or_true, true_or, or_false, false_or, or_self, not_true_eq_false, not_false_eq_true, decide_true, decide_false, Bool.and_true, Bool.true_and, Bool.and_false, Bool.false_and, Bool.and_self, Bool.or_true, Bool.true_or, Bool.or_false, Bool.false_or, Bool.not_true, Bool.not_false, cond_true, cond_false, bI_t, bI_f, Bool.false_eq_true, Bool.true_eq_false, dayC_1, dayC_21, dayC_221, dayC_222, aCount, thF]; done) | (unfold aCount; rw [if_neg e1_0, if_neg e1_1, if_neg e1_2, if_neg e1_3, if_neg e1_4, if_neg e1_5, if_neg e1_6, if_neg e1_7, if_neg e1_8, if_pos ⟨c135, c141⟩, sub_10 hk11, nI_clamp (by omega)])), _, O26, hf⟩
  refine A_case (5) (fun e1_5 => ?_) (fun e1_5 => ?_)
  · skip
    refine A_switch 95 dX9_count_1 (by rw [e1_5]; decide) (by rw [e1_5]; rfl) (by decide) ?_
    refine A_aload_n 96 dX9_count_95 rfl rfl rfl ?_
    refine A_getfield 99 dX9_count_96 rfl f_X9_75 O0 rfl ?_
    refine A_aload_n 100 dX9_count_99 rfl rfl rfl ?_
    refine A_getfield 103 dX9_count_100 rfl f_X9_10 O0 rfl ?_
    refine A_iconst 104 (0) dX9_count_103 rfl (by decide) ?_
    refine A_callVI 107 (S_X2_doneTogether X l (by first | assumption | decide | omega | exact Ne.symm (by assumption)) (by first | assumption | decide | omega | exact Ne.symm (by assumption)) (by first | assumption | decide | omega | exact Ne.symm (by assumption)) (by first | assumption | decide | omega | exact Ne.symm (by assumption)) (by first | assumption | decide | omega | exact Ne.symm (by assumption))) dX9_count_104 rfl kX2_doneTogether lk_X9_361 rfl O25 (by decide) rfl (Nat.le_of_ble_eq_true rfl) (fun v_7 h_7 qh_7 => ?_)
    obtain ⟨rfl, y1_7, n0h_7, eh_7⟩ := qh_7
    replace O0 := (eh_7 _ (by decide)).trans O0
    replace O1 := (eh_7 _ (by decide)).trans O1
    replace O12 := (eh_7 _ (by decide)).trans O12
    replace O15 := (eh_7 _ (by decide)).trans O15
    replace O3 := (eh_7 _ (by decide)).trans O3
    replace O25 := (eh_7 _ (by decide)).trans O25
    replace O26 := n0h_7
    replace hf : ∀ i, i ≠ 26 → h_7 i = h i := fun i g0 => (eh_7 i g0).trans (hf i g0)
    refine A_iret dX9_count_107 rfl ⟨_, rfl, (by first | (simp only [e1_0, e1_1, e1_2, e1_3, e1_4, e1_5, if_true, if_false, ite_true, ite_false, and_true, true_and, and_false, false_and, and_self, or_true, true_or, or_false, false_or, or_self, not_true_eq_false, not_false_eq_true, decide_true, decide_false, Bool.and_true, Bool.true_and, Bool.and_false, Bool.false_and, Bool.and_self, Bool.or_true, Bool.true_or, Bool.or_false, Bool.false_or, Bool.not_true, Bool.not_false, cond_true, cond_false, bI_t, bI_f, Bool.false_eq_true, Bool.true_eq_false, dayC_1, dayC_21, dayC_221, dayC_222, aCount, thF]; done) | (simp only [e1_0, e1_1, e1_2, e1_3, e1_4, eq_true e1_5, if_true, if_false, ite_true, ite_false, and_true, true_and, and_false, false_and, and_self, or_true, true_or, or_false, false_or, or_self, not_true_eq_false, not_false_eq_true, decide_true, decide_false, Bool.and_true, Bool.true_and, Bool.and_false, Bool.false_and, Bool.and_self, Bool.or_true, Bool.true_or, Bool.or_false, Bool.false_or, Bool.not_true, Bool.not_false, cond_true, cond_false, bI_t, bI_f, Bool.false_eq_true, Bool.true_eq_false, dayC_1, dayC_21, dayC_221, dayC_222, aCount, thF]; done) | (unfold aCount; rw [if_neg e1_0, if_neg e1_1, if_neg e1_2, if_neg e1_3, if_neg e1_4, if_neg e1_5, if_neg e1_6, if_neg e1_7, if_neg e1_8, if_pos ⟨c135, c141⟩, sub_10 hk11, nI_clamp (by omega)])), _, O26, hf⟩
  refine A_case (6) (fun e1_6 => ?_) (fun e1_6 => ?_)
  · skip
    refine A_switch 108 dX9_count_1 (by rw [e1_6]; decide) (by rw [e1_6]; rfl) (by decide) ?_
    refine A_aload_n 109 dX9_count_108 rfl rfl rfl ?_
    refine A_getfield 112 dX9_count_109 rfl f_X9_29 O0 rfl ?_
    refine A_callVI 115 (S_X4_size X l (by first | assumption | decide | omega | exact Ne.symm (by assumption))) dX9_count_112 rfl kX4_size lk_X9_364 rfl O12 (by decide) rfl (Nat.le_of_ble_eq_true rfl) (fun v_8 h_8 qh_8 => ?_)
    obtain ⟨rfl, rfl⟩ := qh_8
    refine A_iret dX9_count_115 rfl ⟨_, rfl, (by first | (simp only [e1_0, e1_1, e1_2, e1_3, e1_4, e1_5, e1_6, if_true, if_false, ite_true, ite_false, and_true, true_and, and_false, false_and, and_self, or_true, true_or, or_false, false_or, or_self, not_true_eq_false, not_false_eq_true, decide_true, decide_false, Bool.and_true, Bool.true_and, Bool.and_false, Bool.false_and, Bool.and_self, Bool.or_true, Bool.true_or, Bool.or_false, Bool.false_or, Bool.not_true, Bool.not_false, cond_true, cond_false, bI_t, bI_f, Bool.false_eq_true, Bool.true_eq_false, dayC_1, dayC_21, dayC_221, dayC_222, aCount, thF]; done) | (simp only [e1_0, e1_1, e1_2, e1_3, e1_4, e1_5, eq_true e1_6, if_true, if_false, ite_true, ite_false, and_true, true_and, and_false, false_and, and_self, or_true, true_or, or_false, false_or, or_self, not_true_eq_false, not_false_eq_true, decide_true, decide_false, Bool.and_true, Bool.true_and, Bool.and_false, Bool.false_and, Bool.and_self, Bool.or_true, Bool.true_or, Bool.or_false, Bool.false_or, Bool.not_true, Bool.not_false, cond_true, cond_false, bI_t, bI_f, Bool.false_eq_true, Bool.true_eq_false, dayC_1, dayC_21, dayC_221, dayC_222, aCount, thF]; done) | (unfold aCount; rw [if_neg e1_0, if_neg e1_1, if_neg e1_2, if_neg e1_3, if_neg e1_4, if_neg e1_5, if_neg e1_6, if_neg e1_7, if_neg e1_8, if_pos ⟨c135, c141⟩, sub_10 hk11, nI_clamp (by omega)])), _, O26, hf⟩
  refine A_case (7) (fun e1_7 => ?_) (fun e1_7 => ?_)
  · skip
    refine A_switch 116 dX9_count_1 (by rw [e1_7]; decide) (by rw [e1_7]; rfl) (by decide) ?_
    refine A_aload_n 117 dX9_count_116 rfl rfl rfl ?_
    refine A_getfield 120 dX9_count_117 rfl f_X9_36 O0 rfl ?_
    refine A_callVI 123 (S_X7_size X l (by first | assumption | decide | omega | exact Ne.symm (by assumption))) dX9_count_120 rfl kX7_size lk_X9_365 rfl O15 (by decide) rfl (Nat.le_of_ble_eq_true rfl) (fun v_9 h_9 qh_9 => ?_)
    obtain ⟨rfl, rfl⟩ := qh_9
    refine A_iret dX9_count_123 rfl ⟨_, rfl, (by first | (simp only [e1_0, e1_1, e1_2, e1_3, e1_4, e1_5, e1_6, e1_7, if_true, if_false, ite_true, ite_false, and_true, true_and, and_false, false_and, and_self, or_true, true_or, or_false, false_or, or_self, not_true_eq_false, not_false_eq_true, decide_true, decide_false, Bool.and_true, Bool.true_and, Bool.and_false, Bool.false_and, Bool.and_self, Bool.or_true, Bool.true_or, Bool.or_false, Bool.false_or, Bool.not_true, Bool.not_false, cond_true, cond_false, bI_t, bI_f, Bool.false_eq_true, Bool.true_eq_false, dayC_1, dayC_21, dayC_221, dayC_222, aCount, thF]; done) | (simp only [e1_0, e1_1, e1_2, e1_3, e1_4, e1_5, e1_6, eq_true e1_7, if_true, if_false, ite_true, ite_false, and_true, true_and, and_false, false_and, and_self, or_true, true_or, or_false, false_or, or_self, not_true_eq_false, not_false_eq_true, decide_true, decide_false, Bool.and_true, Bool.true_and, Bool.and_false, Bool.false_and, Bool.and_self, Bool.or_true, Bool.true_or, Bool.or_false, Bool.false_or, Bool.not_true, Bool.not_false, cond_true, cond_false, bI_t, bI_f, Bool.false_eq_true, Bool.true_eq_false, dayC_1, dayC_21, dayC_221, dayC_222, aCount, thF]; done) | (unfold aCount; rw [if_neg e1_0, if_neg e1_1, if_neg e1_2, if_neg e1_3, if_neg e1_4, if_neg e1_5, if_neg e1_6, if_neg e1_7, if_neg e1_8, if_pos ⟨c135, c141⟩, sub_10 hk11, nI_clamp (by omega)])), _, O26, hf⟩
  refine A_case (8) (fun e1_8 => ?_) (fun e1_8 => ?_)
  · skip
    refine A_switch 124 dX9_count_1 (by rw [e1_8]; decide) (by rw [e1_8]; rfl) (by decide) ?_
    refine A_aload_n 125 dX9_count_124 rfl rfl rfl ?_
    refine A_getfield 128 dX9_count_125 rfl f_X9_22 O0 rfl ?_
    refine A_callVI 131 (S_X5_size X l (by first | assumption | decide | omega | exact Ne.symm (by assumption))) dX9_count_128 rfl kX5_size lk_X9_168 rfl O3 (by decide) rfl (Nat.le_of_ble_eq_true rfl) (fun v_10 h_10 qh_10 => ?_)
    obtain ⟨rfl, rfl⟩ := qh_10
    refine A_iret dX9_count_131 rfl ⟨_, rfl, (by first | (simp only [e1_0, e1_1, e1_2, e1_3, e1_4, e1_5, e1_6, e1_7, e1_8, if_true, if_false, ite_true, ite_false, and_true, true_and, and_false, false_and, and_self, or_true, true_or, or_false, false_or, or_self, not_true_eq_false, not_false_eq_true, decide_true, decide_false, Bool.and_true, Bool.true_and, Bool.and_false, Bool.false_and, Bool.and_self, Bool.or_true, Bool.true_or, Bool.or_false, Bool.false_or, Bool.not_true, Bool.not_false, cond_true, cond_false, bI_t, bI_f, Bool.false_eq_true, Bool.true_eq_false, dayC_1, dayC_21, dayC_221, dayC_222, aCount, thF]; done) | (simp only [e1_0, e1_1, e1_2, e1_3, e1_4, e1_5, e1_6, e1_7, eq_true e1_8, if_true, if_false, ite_true, ite_false, and_true, true_and, and_false, false_and, and_self, or_true, true_or, or_false, false_or, or_self, not_true_eq_false, not_false_eq_true, decide_true, decide_false, Bool.and_true, Bool.true_and, Bool.and_false, Bool.false_and, Bool.and_self, Bool.or_true, Bool.true_or, Bool.or_false, Bool.false_or, Bool.not_true, Bool.not_false, cond_true, cond_false, bI_t, bI_f, Bool.false_eq_true, Bool.true_eq_false, dayC_1, dayC_21, dayC_221, dayC_222, aCount, thF]; done) | (unfold aCount; rw [if_neg e1_0, if_neg e1_1, if_neg e1_2, if_neg e1_3, if_neg e1_4, if_neg e1_5, if_neg e1_6, if_neg e1_7, if_neg e1_8, if_pos ⟨c135, c141⟩, sub_10 hk11, nI_clamp (by omega)])), _, O26, hf⟩
  refine A_switchD 132 dX9_count_1 (by have q0 := ne_toInt (k := 0) (z := 0) e1_0 (by decide); have q1 := ne_toInt (k := 1) (z := 1) e1_1 (by decide); have q2 := ne_toInt (k := 2) (z := 2) e1_2 (by decide); have q3 := ne_toInt (k := 3) (z := 3) e1_3 (by decide); have q4 := ne_toInt (k := 4) (z := 4) e1_4 (by decide); have q5 := ne_toInt (k := 5) (z := 5) e1_5 (by decide); have q6 := ne_toInt (k := 6) (z := 6) e1_6 (by decide); have q7 := ne_toInt (k := 7) (z := 7) e1_7 (by decide); have q8 := ne_toInt (k := 8) (z := 8) e1_8 (by decide); omega) (by decide) ?_
  refine A_iload_n 133 dX9_count_132 rfl rfl rfl ?_
  refine A_bipush 135 (11) dX9_count_133 rfl (by decide) ?_
  refine A_icmp_lt 158 138 dX9_count_135 (by decide) rfl (fun c135 => ?_) (fun c135 => ?_)
  · skip
    try simp only [bI_0, bI_n0, Classical.not_not, Bool.not_eq_false, Bool.true_and, Bool.and_true, decide_eq_true_eq, decide_eq_false_iff_not, dayC_1, dayC_21, dayC_221, dayC_222] at c135
    have n135 := Int32.not_le.mpr c135
    refine A_bipush 160 (-9) dX9_count_158 rfl (by decide) ?_
    refine A_iret dX9_count_160 rfl ⟨_, rfl, (by first | (simp only [e1_0, e1_1, e1_2, e1_3, e1_4, e1_5, e1_6, e1_7, e1_8, c135, n135, if_true, if_false, ite_true, ite_false, and_true, true_and, and_false, false_and, and_self, or_true, true_or, or_false, false_or, or_self, not_true_eq_false, not_false_eq_true, decide_true, decide_false, Bool.and_true, Bool.true_and, Bool.and_false, Bool.false_and, Bool.and_self, Bool.or_true, Bool.true_or, Bool.or_false, Bool.false_or, Bool.not_true, Bool.not_false, cond_true, cond_false, bI_t, bI_f, Bool.false_eq_true, Bool.true_eq_false, dayC_1, dayC_21, dayC_221, dayC_222, aCount, thF]; done) | (unfold aCount; rw [if_neg e1_0, if_neg e1_1, if_neg e1_2, if_neg e1_3, if_neg e1_4, if_neg e1_5, if_neg e1_6, if_neg e1_7, if_neg e1_8, if_pos ⟨c135, c141⟩, sub_10 hk11, nI_clamp (by omega)])), _, O26, hf⟩
  · skip
    try simp only [bI_0, bI_n0, Classical.not_not, Bool.not_eq_false, Bool.true_and, Bool.and_true, decide_eq_true_eq, decide_eq_false_iff_not, dayC_1, dayC_21, dayC_221, dayC_222] at c135
    have n135 := Int32.not_lt.mp c135
    refine A_iload_n 139 dX9_count_138 rfl rfl rfl ?_
    refine A_bipush 141 (16) dX9_count_139 rfl (by decide) ?_
    refine A_icmp_gt 158 144 dX9_count_141 (by decide) rfl (fun c141 => ?_) (fun c141 => ?_)
    · skip
      try simp only [bI_0, bI_n0, Classical.not_not, Bool.not_eq_false, Bool.true_and, Bool.and_true, decide_eq_true_eq, decide_eq_false_iff_not, dayC_1, dayC_21, dayC_221, dayC_222] at c141
      have n141 := Int32.not_le.mpr c141
      refine A_bipush 160 (-9) dX9_count_158 rfl (by decide) ?_
      refine A_iret dX9_count_160 rfl ⟨_, rfl, (by first | (simp only [e1_0, e1_1, e1_2, e1_3, e1_4, e1_5, e1_6, e1_7, e1_8, c135, n135, c141, n141, if_true, if_false, ite_true, ite_false, and_true, true_and, and_false, false_and, and_self, or_true, true_or, or_false, false_or, or_self, not_true_eq_false, not_false_eq_true, decide_true, decide_false, Bool.and_true, Bool.true_and, Bool.and_false, Bool.false_and, Bool.and_self, Bool.or_true, Bool.true_or, Bool.or_false, Bool.false_or, Bool.not_true, Bool.not_false, cond_true, cond_false, bI_t, bI_f, Bool.false_eq_true, Bool.true_eq_false, dayC_1, dayC_21, dayC_221, dayC_222, aCount, thF]; done) | (unfold aCount; rw [if_neg e1_0, if_neg e1_1, if_neg e1_2, if_neg e1_3, if_neg e1_4, if_neg e1_5, if_neg e1_6, if_neg e1_7, if_neg e1_8, if_pos ⟨c135, c141⟩, sub_10 hk11, nI_clamp (by omega)])), _, O26, hf⟩
    · skip
      try simp only [bI_0, bI_n0, Classical.not_not, Bool.not_eq_false, Bool.true_and, Bool.and_true, decide_eq_true_eq, decide_eq_false_iff_not, dayC_1, dayC_21, dayC_221, dayC_222] at c141
      have n141 := Int32.not_lt.mp c141
      obtain ⟨k_v, rfl, hk_v⟩ := nI_exg (n := 16) (fun z => c135 (Int32.lt_trans z (by decide))) c141 (by decide)
      have cl_v : (nI k_v).toNatClampNeg = k_v := nI_clamp (by omega)
      have hk11 : 11 ≤ k_v := by
        have q := mt (nlt_iff (a := k_v) (b := 11) (by omega) (by decide)).mpr c135
        omega
      refine A_aload_n 145 dX9_count_144 rfl rfl rfl ?_
      refine A_getfield 148 dX9_count_145 rfl f_X9_40 O0 rfl ?_
      refine A_iload_n 149 dX9_count_148 rfl rfl rfl ?_
      refine A_bipush 151 (10) dX9_count_149 rfl (by decide) ?_
      refine A_isub 152 dX9_count_151 rfl ?_
      rw [sub_10 hk11]
      refine A_callSI 155 (S_X9_cell_X9_0 X l (by first | assumption | decide | omega | exact Ne.symm (by assumption)) (by first | assumption | exact ix_nI (by omega) (by decide) | exact ix_lit _ rfl (by omega) (by decide) | exact ix_lit _ rfl (by decide) (by decide))) dX9_count_152 rfl kX9_cell lk_X9_366 rfl (by decide) rfl (Nat.le_of_ble_eq_true rfl) (fun v_11 h_11 qh_11 => ?_)
      obtain ⟨rfl, rfl⟩ := qh_11
      refine A_goto 160 dX9_count_155 (by decide) ?_
      refine A_iret dX9_count_160 rfl ⟨_, rfl, (by first | (simp only [e1_0, e1_1, e1_2, e1_3, e1_4, e1_5, e1_6, e1_7, e1_8, c135, n135, c141, n141, cl_v, if_true, if_false, ite_true, ite_false, and_true, true_and, and_false, false_and, and_self, or_true, true_or, or_false, false_or, or_self, not_true_eq_false, not_false_eq_true, decide_true, decide_false, Bool.and_true, Bool.true_and, Bool.and_false, Bool.false_and, Bool.and_self, Bool.or_true, Bool.true_or, Bool.or_false, Bool.false_or, Bool.not_true, Bool.not_false, cond_true, cond_false, bI_t, bI_f, Bool.false_eq_true, Bool.true_eq_false, dayC_1, dayC_21, dayC_221, dayC_222, aCount, thF]; done) | (unfold aCount; rw [if_neg e1_0, if_neg e1_1, if_neg e1_2, if_neg e1_3, if_neg e1_4, if_neg e1_5, if_neg e1_6, if_neg e1_7, if_neg e1_8, if_pos ⟨c135, c141⟩, sub_10 hk11, nI_clamp (by omega)])), _, O26, hf⟩
set_option maxHeartbeats 4000000 in
set_option maxRecDepth 100000 in
theorem S_X9_mill (X : En) (l : Launch) {h : Hp} {x : PW} {g : Int32} {r : FI} (O0 : h 0 = some (maB g r)) (O1 : h 1 = some (wB 1 x)) (hW : WOK x) {t : FI} {n k12 : Nat} (O12 : h 12 = some (leB t n k12)) (hn : n ≤ 96) {x13 : PW} (O13 : h 13 = some (wB 13 x13)) {y14 : PC} (O14 : h 14 = some (cB 14 y14)) {np kp : Nat} (O3 : h 3 = some (paB np kp)) : Ct X l mX9_mill [aR 0 0] h (QI (fun vr h2 => (miV t n x) = vr ∧ ∃ (k2 : Nat) (x3 : PW) (y2 : PC), h2 (1) = some (wB 1 (miX t n x)) ∧ h2 (12) = some (leB t 0 k2) ∧ h2 (13) = some (wB 13 x3) ∧ h2 (14) = some (cB 14 y2) ∧ h2 (3) = some (paB np (miK t n x kp)) ∧ ∀ i, i ≠ 1 → i ≠ 12 → i ≠ 13 → i ≠ 14 → i ≠ 3 → h2 i = h i)) := by
  have hf : ∀ i, i ≠ 1 → i ≠ 12 → i ≠ 13 → i ≠ 14 → i ≠ 3 → h i = h i := fun _ _ _ _ _ _ => rfl
  refine Ct.intro [some (aR 0 0), none, none] (by decide +kernel) rfl (Nat.le_of_ble_eq_true rfl) ?_
  refine A_aload_n 1 dX9_mill_0 rfl rfl rfl ?_
  refine A_getfield 4 dX9_mill_1 rfl f_X9_29 O0 rfl ?_
  refine A_callVI 7 (S_X4_faultOfForm X l (by first | assumption | decide | omega | exact Ne.symm (by assumption)) (by first | assumption | decide | omega | exact Ne.symm (by assumption))) dX9_mill_4 rfl kX4_faultOfForm lk_X9_90 rfl O12 (by decide) rfl (Nat.le_of_ble_eq_true rfl) (fun v_1 h_1 qh_1 => ?_)
  obtain ⟨rfl, rfl⟩ := qh_1
  refine A_istore_n 8 dX9_mill_7 rfl rfl (by decide) (by first | exact (ast_1 rfl) | exact ast_k) ?_
  refine A_iload_n 9 dX9_mill_8 rfl rfl rfl ?_
  refine A_iconst 10 (-1) dX9_mill_9 rfl (by decide) ?_
  refine A_icmp_ne 27 13 dX9_mill_10 (by decide) rfl (fun c10 => ?_) (fun c10 => ?_)
  · skip
    try simp only [bI_0, bI_n0, Classical.not_not, Bool.not_eq_false, Bool.true_and, Bool.and_true, decide_eq_true_eq, decide_eq_false_iff_not, dayC_1, dayC_21, dayC_221, dayC_222] at c10
    refine A_iconst 28 (-1) dX9_mill_27 rfl (by decide) ?_
    refine A_istore_n 29 dX9_mill_28 rfl rfl (by decide) (by first | exact (ast_s (ast_1 rfl)) | exact (ast_s ast_k)) ?_
    refine A_aload_n 30 dX9_mill_29 rfl rfl rfl ?_
    refine A_getfield 33 dX9_mill_30 rfl f_X9_29 O0 rfl ?_
    refine A_callVV 36 (S_X4_wipe X l (by first | assumption | decide | omega | exact Ne.symm (by assumption))) dX9_mill_33 rfl kX4_wipe lk_X9_98 rfl O12 (by decide) rfl (Nat.le_of_ble_eq_true rfl) (fun h_2 qh_2 => ?_)
    obtain ⟨n0h_2, eh_2⟩ := qh_2
    replace O0 := (eh_2 _ (by decide)).trans O0
    replace O1 := (eh_2 _ (by decide)).trans O1
    replace O12 := n0h_2
    replace O13 := (eh_2 _ (by decide)).trans O13
    replace O14 := (eh_2 _ (by decide)).trans O14
    replace O3 := (eh_2 _ (by decide)).trans O3
    replace hf : ∀ i, i ≠ 1 → i ≠ 12 → i ≠ 13 → i ≠ 14 → i ≠ 3 → h_2 i = h i := fun i g0 g1 g2 g3 g4 => (eh_2 i g1).trans (hf i g0 g1 g2 g3 g4)
    refine A_iload_n 37 dX9_mill_36 rfl rfl rfl ?_
    refine A_iconst 38 (-1) dX9_mill_37 rfl (by decide) ?_
    refine A_icmp_eq 47 41 dX9_mill_38 (by decide) rfl (fun c38 => ?_) (fun c38 => ?_)
    · skip
      exact absurd c38 c10
    · skip
      try simp only [bI_0, bI_n0, Classical.not_not, Bool.not_eq_false, Bool.true_and, Bool.and_true, decide_eq_true_eq, decide_eq_false_iff_not, dayC_1, dayC_21, dayC_221, dayC_222] at c38
      refine A_sipush 44 (-1000) dX9_mill_41 rfl (by decide) ?_
      refine A_iload_n 45 dX9_mill_44 rfl rfl rfl ?_
      refine A_isub 46 dX9_mill_45 rfl ?_
      have e1 : miX t n x = x := by unfold miX; rw [if_neg c10]
      have e3 : miK t n x kp = kp := by unfold miK; rw [if_neg c10]
      refine A_iret dX9_mill_46 rfl ⟨_, rfl, (by unfold miV; rw [if_neg c10]), _, _, _, (by rw [e1]; exact O1), O12, O13, O14, (by rw [e3]; exact O3), hf⟩
  · skip
    try simp only [bI_0, bI_n0, Classical.not_not, Bool.not_eq_false, Bool.true_and, Bool.and_true, decide_eq_true_eq, decide_eq_false_iff_not, dayC_1, dayC_21, dayC_221, dayC_222] at c10
    refine A_aload_n 14 dX9_mill_13 rfl rfl rfl ?_
    refine A_getfield 17 dX9_mill_14 rfl f_X9_29 O0 rfl ?_
    refine A_aload_n 18 dX9_mill_17 rfl rfl rfl ?_
    refine A_getfield 21 dX9_mill_18 rfl f_X9_10 O0 rfl ?_
    refine A_callVI 24 (S_X4_faultOfSense X l (by first | assumption | decide | omega | exact Ne.symm (by assumption)) (by first | assumption | decide | omega | exact Ne.symm (by assumption)) (by first | assumption | decide | omega | exact Ne.symm (by assumption)) (by first | assumption | decide | omega | exact Ne.symm (by assumption)) (by first | assumption | decide | omega | exact Ne.symm (by assumption)) (by first | assumption | decide | omega | exact Ne.symm (by assumption)) (by first | assumption | decide | omega | exact Ne.symm (by assumption))) dX9_mill_21 rfl kX4_faultOfSense lk_X9_94 rfl O12 (by decide) rfl (Nat.le_of_ble_eq_true rfl) (fun v_3 h_3 qh_3 => ?_)
    obtain ⟨rfl, y1_3, n0h_3, n1h_3, n2h_3, eh_3⟩ := qh_3
    replace O0 := (eh_3 _ (by decide) (by decide) (by decide)).trans O0
    replace O1 := (eh_3 _ (by decide) (by decide) (by decide)).trans O1
    replace O12 := n0h_3
    replace O13 := n1h_3
    replace O14 := n2h_3
    replace O3 := (eh_3 _ (by decide) (by decide) (by decide)).trans O3
    replace hf : ∀ i, i ≠ 1 → i ≠ 12 → i ≠ 13 → i ≠ 14 → i ≠ 3 → h_3 i = h i := fun i g0 g1 g2 g3 g4 => (eh_3 i g1 g2 g3).trans (hf i g0 g1 g2 g3 g4)
    refine A_goto 28 dX9_mill_24 (by decide) ?_
    refine A_istore_n 29 dX9_mill_28 rfl rfl (by decide) (by first | exact (ast_s (ast_1 rfl)) | exact (ast_s ast_k)) ?_
    refine A_aload_n 30 dX9_mill_29 rfl rfl rfl ?_
    refine A_getfield 33 dX9_mill_30 rfl f_X9_29 O0 rfl ?_
    refine A_callVV 36 (S_X4_wipe X l (by first | assumption | decide | omega | exact Ne.symm (by assumption))) dX9_mill_33 rfl kX4_wipe lk_X9_98 rfl O12 (by decide) rfl (Nat.le_of_ble_eq_true rfl) (fun h_4 qh_4 => ?_)
    obtain ⟨n0h_4, eh_4⟩ := qh_4
    replace O0 := (eh_4 _ (by decide)).trans O0
    replace O1 := (eh_4 _ (by decide)).trans O1
    replace O12 := n0h_4
    replace O13 := (eh_4 _ (by decide)).trans O13
    replace O14 := (eh_4 _ (by decide)).trans O14
    replace O3 := (eh_4 _ (by decide)).trans O3
    replace hf : ∀ i, i ≠ 1 → i ≠ 12 → i ≠ 13 → i ≠ 14 → i ≠ 3 → h_4 i = h i := fun i g0 g1 g2 g3 g4 => (eh_4 i g1).trans (hf i g0 g1 g2 g3 g4)
    refine A_iload_n 37 dX9_mill_36 rfl rfl rfl ?_
    refine A_iconst 38 (-1) dX9_mill_37 rfl (by decide) ?_
    refine A_icmp_eq 47 41 dX9_mill_38 (by decide) rfl (fun c38 => ?_) (fun c38 => ?_)
    · skip
      try simp only [bI_0, bI_n0, Classical.not_not, Bool.not_eq_false, Bool.true_and, Bool.and_true, decide_eq_true_eq, decide_eq_false_iff_not, dayC_1, dayC_21, dayC_221, dayC_222] at c38
      refine A_iload_n 48 dX9_mill_47 rfl rfl rfl ?_
      refine A_iconst 49 (-1) dX9_mill_48 rfl (by decide) ?_
      refine A_icmp_eq 58 52 dX9_mill_49 (by decide) rfl (fun c49 => ?_) (fun c49 => ?_)
      · skip
        try simp only [bI_0, bI_n0, Classical.not_not, Bool.not_eq_false, Bool.true_and, Bool.and_true, decide_eq_true_eq, decide_eq_false_iff_not, dayC_1, dayC_21, dayC_221, dayC_222] at c49
        refine A_aload_n 59 dX9_mill_58 rfl rfl rfl ?_
        refine A_getfield 62 dX9_mill_59 rfl f_X9_29 O0 rfl ?_
        refine A_aload_n 63 dX9_mill_62 rfl rfl rfl ?_
        refine A_getfield 66 dX9_mill_63 rfl f_X9_10 O0 rfl ?_
        refine A_callVV 69 (S_X4_handOver X l (by first | assumption | decide | omega | exact Ne.symm (by assumption)) (by first | assumption | decide | omega | exact Ne.symm (by assumption)) (by first | assumption | decide | omega | exact Ne.symm (by assumption))) dX9_mill_66 rfl kX4_handOver lk_X9_101 rfl O12 (by decide) rfl (Nat.le_of_ble_eq_true rfl) (fun h_5 qh_5 => ?_)
        obtain ⟨n0h_5, eh_5⟩ := qh_5
        replace O0 := (eh_5 _ (by decide)).trans O0
        replace O1 := n0h_5
        replace O12 := (eh_5 _ (by decide)).trans O12
        replace O13 := (eh_5 _ (by decide)).trans O13
        replace O14 := (eh_5 _ (by decide)).trans O14
        replace O3 := (eh_5 _ (by decide)).trans O3
        replace hf : ∀ i, i ≠ 1 → i ≠ 12 → i ≠ 13 → i ≠ 14 → i ≠ 3 → h_5 i = h i := fun i g0 g1 g2 g3 g4 => (eh_5 i g0).trans (hf i g0 g1 g2 g3 g4)
        refine A_aload_n 70 dX9_mill_69 rfl rfl rfl ?_
        refine A_getfield 73 dX9_mill_70 rfl f_X9_22 O0 rfl ?_
        refine A_callVV 76 (S_X5_forget X l (by first | assumption | decide | omega | exact Ne.symm (by assumption))) dX9_mill_73 rfl kX5_forget lk_X9_105 rfl O3 (by decide) rfl (Nat.le_of_ble_eq_true rfl) (fun h_6 qh_6 => ?_)
        obtain ⟨n0h_6, eh_6⟩ := qh_6
        replace O0 := (eh_6 _ (by decide)).trans O0
        replace O1 := (eh_6 _ (by decide)).trans O1
        replace O12 := (eh_6 _ (by decide)).trans O12
        replace O13 := (eh_6 _ (by decide)).trans O13
        replace O14 := (eh_6 _ (by decide)).trans O14
        replace O3 := n0h_6
        replace hf : ∀ i, i ≠ 1 → i ≠ 12 → i ≠ 13 → i ≠ 14 → i ≠ 3 → h_6 i = h i := fun i g0 g1 g2 g3 g4 => (eh_6 i g4).trans (hf i g0 g1 g2 g3 g4)
        refine A_aload_n 77 dX9_mill_76 rfl rfl rfl ?_
        refine A_getfield 80 dX9_mill_77 rfl f_X9_29 O0 rfl ?_
        refine A_callVI 83 (S_X4_statementsTold X l (by first | assumption | decide | omega | exact Ne.symm (by assumption))) dX9_mill_80 rfl kX4_statementsTold lk_X9_108 rfl O12 (by decide) rfl (Nat.le_of_ble_eq_true rfl) (fun v_7 h_7 qh_7 => ?_)
        obtain ⟨rfl, rfl⟩ := qh_7
        have e1 : miX t n x = (snF t n x).2.1 := by unfold miX; rw [if_pos c10, if_pos c49]
        have e3 : miK t n x kp = 0 := by unfold miK; rw [if_pos c10, if_pos c49]
        refine A_iret dX9_mill_83 rfl ⟨_, rfl, (by unfold miV; rw [if_pos c10, if_pos c49]), _, _, _, (by rw [e1]; exact O1), O12, O13, O14, (by rw [e3]; exact O3), hf⟩
      · skip
        try simp only [bI_0, bI_n0, Classical.not_not, Bool.not_eq_false, Bool.true_and, Bool.and_true, decide_eq_true_eq, decide_eq_false_iff_not, dayC_1, dayC_21, dayC_221, dayC_222] at c49
        refine A_sipush 55 (-2000) dX9_mill_52 rfl (by decide) ?_
        refine A_iload_n 56 dX9_mill_55 rfl rfl rfl ?_
        refine A_isub 57 dX9_mill_56 rfl ?_
        have e1 : miX t n x = x := by unfold miX; rw [if_pos c10, if_neg c49]
        have e3 : miK t n x kp = kp := by unfold miK; rw [if_pos c10, if_neg c49]
        refine A_iret dX9_mill_57 rfl ⟨_, rfl, (by unfold miV; rw [if_pos c10, if_neg c49]), _, _, _, (by rw [e1]; exact O1), O12, O13, O14, (by rw [e3]; exact O3), hf⟩
    · skip
      exact absurd c10 c38
