/-! the reference's mill: reading -/
theorem dig_step {t : FI} {n q d : Nat} (hq : q ≤ n) (hn : n < 1000) (hd : d < 1000) : fmN t n (n - q) q (nI (d + 1)) = if dgB t n q = true then fmN t n (n - (q + 1)) (q + 1) (nI d) else nI q := by
  by_cases c : q < n
  · obtain ⟨m, hm⟩ : ∃ m, n - q = m + 1 := ⟨n - q - 1, by omega⟩
    rw [hm, fmN_s, if_neg (nIneg _ (by omega)), if_pos ((pos_nI (by omega)).mpr (by omega)), nI_m1, show n - (q + 1) = m by omega]
    have e : (t q < 48 ∨ 57 < t q) ↔ ¬ dgB t n q = true := by
      unfold dgB hrV
      rw [if_pos c, decide_eq_true_eq]
      constructor
      · rintro (z | z) w
        · exact Int32.not_lt.mpr w.1 z
        · exact Int32.not_lt.mpr w.2 z
      · intro z
        by_cases y : t q < 48
        · exact Or.inl y
        · right
          exact Int32.not_le.mp (fun w => z ⟨Int32.not_lt.mp y, w⟩)
    by_cases b : dgB t n q = true
    · rw [if_pos b, if_neg (fun z => e.mp z b)]
    · rw [if_neg b, if_pos (e.mpr b)]
  · have e : q = n := by omega
    subst e
    rw [if_neg (fun z => c (dgB_lt z)), Nat.sub_self, fmN_0, if_pos (Or.inr (nIneg _ (by omega)))]
theorem end_step {t : FI} {n q : Nat} (hq : q ≤ n) (hn : n < 1000) : fmN t n (n - q) q (nI 0) = if hrV t n q = 59 then fmN t n (n - (q + 1)) (q + 1) (-1) else nI q := by
  by_cases c : q < n
  · obtain ⟨m, hm⟩ : ∃ m, n - q = m + 1 := ⟨n - q - 1, by omega⟩
    rw [hm, fmN_s, if_neg (nIneg 0 (by decide)), if_neg (by decide), show n - (q + 1) = m by omega]
    unfold hrV
    rw [if_pos c]
  · have e : q = n := by omega
    subst e
    rw [Nat.sub_self, fmN_0, if_pos (Or.inr (by decide))]
    unfold hrV
    rw [if_neg c, if_neg (by decide)]
theorem let_step {t : FI} {n q s : Nat} (hq : q ≤ n) (hs : s = 0 ∨ q < n) (h0 : s = 0 → q = 0) : fmN t n (n - q) q (-1) = if DB (hrV t n q) < 0 then nI q else fmN t n (n - (q + 1)) (q + 1) (DB (hrV t n q)) := by
  by_cases c : q < n
  · obtain ⟨m, hm⟩ : ∃ m, n - q = m + 1 := ⟨n - q - 1, by omega⟩
    rw [hm, fmN_s, if_pos rfl, show n - (q + 1) = m by omega]
    unfold hrV
    rw [if_pos c]
  · have e0 := h0 (hs.resolve_right c)
    have e : n = 0 := by omega
    subst e
    subst e0
    unfold hrV
    rw [Nat.sub_self, fmN_0, if_pos (Or.inl (show nI 0 = 0 from rfl)), if_neg c, if_pos (by decide)]
/-- on the way through a statement -/
def WY (t : FI) (n : Nat) (V : Int32) (d q : Nat) (b : Bool) : Prop := q ≤ n ∧ (b = true → nI q = V) ∧ (b = false → fmN t n (n - q) q (nI d) = V)
theorem WY_step {t : FI} {n : Nat} {V : Int32} {d q : Nat} {b : Bool} {u : Int32} (hn : n < 1000) (hd : d < 1000) (h : WY t n V (d + 1) q b) : WY t n V d (rdS t n (q, b, u)).1 (rdS t n (q, b, u)).2.1 := by
  obtain ⟨h1, h2, h3⟩ := h
  refine ⟨rdS_le h1, ?_⟩
  unfold rdS
  cases b
  · have h4 := h3 rfl
    rw [dig_step h1 hn hd] at h4
    cases e : dgB t n q
    · rw [e, if_neg (by decide)] at h4
      exact ⟨fun _ => h4, fun z => (by cases z)⟩
    · rw [e, if_pos rfl] at h4
      exact ⟨fun z => (by cases z), fun _ => h4⟩
  · exact ⟨fun _ => h2 rfl, fun z => (by cases z)⟩
theorem WY_rn {t : FI} {n : Nat} {V : Int32} {base : Nat} (hn : n < 1000) : ∀ (k d : Nat) (S : Nat × Bool × FI), d + k < 1000 → WY t n V (d + k) S.1 S.2.1 → WY t n V d (foldN (rnF t n base) S k).1 (foldN (rnF t n base) S k).2.1 := by
  intro k
  induction k with
  | zero => intro d S _ h; exact h
  | succ k ih =>
    intro d S hd h
    have h2 := ih (d + 1) S (by omega) (by rw [show d + 1 + k = d + (k + 1) by omega]; exact h)
    rw [foldN_s]
    exact WY_step (u := 0) hn (by omega) h2
theorem WY_rd {t : FI} {n : Nat} {V : Int32} (hn : n < 1000) : ∀ (k d : Nat) (S : Nat × Bool × Int32), d + k < 1000 → WY t n V (d + k) S.1 S.2.1 → WY t n V d (foldN (fun _ s => rdS t n s) S k).1 (foldN (fun _ s => rdS t n s) S k).2.1 := by
  intro k
  induction k with
  | zero => intro d S _ h; exact h
  | succ k ih =>
    intro d S hd h
    have h2 := ih (d + 1) S (by omega) (by rw [show d + 1 + k = d + (k + 1) by omega]; exact h)
    rw [foldN_s]
    exact WY_step hn (by omega) h2
theorem mz (v : Int32) : 10 * (0 : Int32) + v - 48 = v - 48 := by rw [Int32.mul_zero, Int32.zero_add]
theorem rn_val {t : FI} {n base q : Nat} {tl : FI} : ∀ k, (foldN (rnF t n base) (q, false, tl) k).2.1 = false → (foldN (rnF t n base) (q, false, tl) k).1 = q + k ∧ (∀ j, j < k → (foldN (rnF t n base) (q, false, tl) k).2.2 (base + j) = dg t (q + j)) ∧ (∀ j, j < base → (foldN (rnF t n base) (q, false, tl) k).2.2 j = tl j) := by
  intro k
  induction k with
  | zero => intro _; exact ⟨rfl, fun j hj => absurd hj (Nat.not_lt_zero j), fun _ _ => rfl⟩
  | succ k ih =>
    rw [foldN_s]
    generalize foldN (rnF t n base) (q, false, tl) k = S at *
    intro h
    have hb : (S.2.1 || !dgB t n S.1) = false := h
    obtain ⟨h1, h2, h3⟩ := ih (ndg hb).1
    unfold rnF rdS
    rw [if_neg (by rw [hb]; decide), if_neg (by rw [hb]; decide), mz]
    refine ⟨by show S.1 + 1 = _; omega, fun j hj => ?_, fun j hj => ?_⟩
    · show va_up S.2.2 (base + k) (t S.1 - 48) (base + j) = _
      unfold va_up
      by_cases e : j = k
      · rw [if_pos (by omega), e, h1]; rfl
      · rw [if_neg (by omega)]; exact h2 j (by omega)
    · show va_up S.2.2 (base + k) (t S.1 - 48) j = _
      unfold va_up
      rw [if_neg (by omega)]
      exact h3 j hj
theorem dgB_v {t : FI} {n q : Nat} (h : dgB t n q = true) : ∃ d, d < 10 ∧ t q = nI (48 + d) := by
  have hq := dgB_lt h
  unfold dgB hrV at h
  rw [if_pos hq] at h
  have := of_decide_eq_true h
  exact dgt_of (Int32.not_lt.mpr this.1) (Int32.not_lt.mpr this.2)
theorem rdS_ok {t : FI} {n q : Nat} {u : Int32} (h : dgB t n q = true) : rdS t n (q, false, u) = (q + 1, false, 10 * u + t q - 48) := by
  have hb : (false || !dgB t n q) = false := by rw [h]; rfl
  show (if (false || !dgB t n q) = true then q else q + 1, (false || !dgB t n q), if (false || !dgB t n q) = true then 0 else 10 * u + t q - 48) = _
  rw [hb]
  rfl
theorem three : ∀ a, a < 10 → ∀ b, b < 10 → ∀ c, c < 10 → 10 * (10 * (nI (48 + a) - 48) + nI (48 + b) - 48) + nI (48 + c) - 48 = 100 * (nI (48 + a) - 48) + 10 * (nI (48 + b) - 48) + (nI (48 + c) - 48) := by decide +kernel
theorem rd_3 {t : FI} {n q : Nat} (h : (foldN (fun _ s => rdS t n s) (q, false, 0) 3).2.1 = false) : (foldN (fun _ s => rdS t n s) (q, false, 0) 3).1 = q + 3 ∧ (foldN (fun _ s => rdS t n s) (q, false, 0) 3).2.2 = 100 * dg t q + 10 * dg t (q + 1) + dg t (q + 2) := by
  have e : foldN (fun _ s => rdS t n s) (q, false, 0) 3 = rdS t n (rdS t n (rdS t n (q, false, 0))) := rfl
  rw [e] at h ⊢
  have b3 := ndg h
  have b2 := ndg b3.1
  have b0 : (false || !dgB t n q) = false := b2.1
  have b1 := ndg b0
  have e1 : rdS t n (q, false, 0) = (q + 1, false, t q - 48) := (rdS_ok b1.2).trans (by rw [mz])
  rw [e1] at b2 b3 h ⊢
  have b4 : (false || !dgB t n (q + 1)) = false := b3.1
  have e2 : rdS t n (q + 1, false, t q - 48) = (q + 2, false, 10 * (t q - 48) + t (q + 1) - 48) := rdS_ok (ndg b4).2
  rw [e2] at b3 h ⊢
  obtain ⟨x, hx, ex⟩ := dgB_v b1.2
  obtain ⟨y, hy, ey⟩ := dgB_v b2.2
  obtain ⟨z, hz, ez⟩ := dgB_v b3.2
  unfold rdS
  rw [b3.2]
  refine ⟨rfl, ?_⟩
  show 10 * (10 * (t q - 48) + t (q + 1) - 48) + t (q + 2) - 48 = 100 * (t q - 48) + 10 * (t (q + 1) - 48) + (t (q + 2) - 48)
  have ez2 : t (q + 2) = nI (48 + z) := ez
  have ey2 : t (q + 1) = nI (48 + y) := ey
  have ex2 : t q = nI (48 + x) := ex
  rw [ex2, ey2, ez2]
  exact three x hx y hy z hz
/-- what is told of a statement -/
def tkO (t : FI) (p : Nat) (tl : FI) (base : Nat) : Prop := (t p = 98 ∨ t p = 116 → tl base = dg t (p + 1) ∧ tl (base + 1) = dg t (p + 2)) ∧ (t p = 108 → tl base = dg t (p + 1) ∧ tl (base + 1) = dg t (p + 2) ∧ tl (base + 2) = dg t (p + 3) ∧ tl (base + 3) = dg t (p + 4)) ∧ (t p = 112 → tl base = 100 * dg t (p + 1) + 10 * dg t (p + 2) + dg t (p + 3))
theorem ndb {b c : Bool} (h : (b || !c) = false) : b = false ∧ c = true := by
  cases b <;> cases c <;> first | (cases h; done) | exact ⟨rfl, rfl⟩
theorem rn_all {t : FI} {n q base : Nat} {tl : FI} {V : Int32} (hn : n < 1000) (hq : q < n) (hD : ¬ DB (t q) < 0) (hV : fmN t n (n - (q + 1)) (q + 1) (DB (t q)) = V) :
    WY t n V 0 (rnA t n (t q) base (q + 1, false, tl)).1 (rnA t n (t q) base (q + 1, false, tl)).2.1 ∧ ((rnA t n (t q) base (q + 1, false, tl)).2.1 = false → (rnA t n (t q) base (q + 1, false, tl)).1 = q + 1 + dbN (t q) ∧ tkO t q (rnA t n (t q) base (q + 1, false, tl)).2.2 base ∧ ∀ j, j < base → (rnA t n (t q) base (q + 1, false, tl)).2.2 j = tl j) := by
  have hc := DB_cases hD
  obtain ⟨e1, e2⟩ := DB_n hc
  rw [e1] at hV
  have hW : ∀ d, dbN (t q) = d → WY t n V d (q + 1) false := fun d hd => ⟨hq, fun z => (by cases z), fun _ => by rw [← hd]; exact hV⟩
  rcases hc with h | h | h | h | h | h
  · have e : rnA t n (t q) base (q + 1, false, tl) = foldN (rnF t n base) (q + 1, false, tl) 2 := by rw [h]; exact if_pos (by decide)
    rw [e]
    refine ⟨WY_rn hn 2 0 (q + 1, false, tl) (by omega) (hW 2 (by rw [h]; rfl)), fun z => ?_⟩
    obtain ⟨a, b, c⟩ := rn_val 2 z
    refine ⟨by rw [a, h]; rfl, ⟨fun _ => ⟨b 0 (by omega), b 1 (by omega)⟩, fun y => absurd (h.symm.trans y) (by decide), fun y => absurd (h.symm.trans y) (by decide)⟩, c⟩
  · have e : rnA t n (t q) base (q + 1, false, tl) = (q + 1, false, tl) := rnA_0 (by rw [h]; decide) (by rw [h]; decide) (by rw [h]; decide) (by rw [h]; decide)
    rw [e]
    exact ⟨hW 0 (by rw [h]; rfl), fun _ => ⟨by rw [h]; rfl, ⟨fun y => (by rw [h] at y; exact absurd y (by decide)), fun y => absurd (h.symm.trans y) (by decide), fun y => absurd (h.symm.trans y) (by decide)⟩, fun _ _ => rfl⟩⟩
  · have e : rnA t n (t q) base (q + 1, false, tl) = foldN (rnF t n base) (q + 1, false, tl) 4 := by rw [h]; exact if_pos (by decide)
    rw [e]
    refine ⟨WY_rn hn 4 0 (q + 1, false, tl) (by omega) (hW 4 (by rw [h]; rfl)), fun z => ?_⟩
    obtain ⟨a, b, c⟩ := rn_val 4 z
    exact ⟨by rw [a, h]; rfl, ⟨fun y => (by rw [h] at y; exact absurd y (by decide)), fun _ => ⟨b 0 (by omega), b 1 (by omega), b 2 (by omega), b 3 (by omega)⟩, fun y => absurd (h.symm.trans y) (by decide)⟩, c⟩
  · have e := rnA_2 (t := t) (n := n) (base := base) (S := (q + 1, false, tl)) h
    rw [e]
    refine ⟨WY_rd hn 3 0 (q + 1, false, 0) (by omega) (hW 3 (by rw [h]; rfl)), fun z => ?_⟩
    obtain ⟨a, b⟩ := rd_3 z
    refine ⟨by rw [h]; exact a, ⟨fun y => (by rw [h] at y; exact absurd y (by decide)), fun y => absurd (h.symm.trans y) (by decide), fun _ => (if_pos rfl).trans b⟩, fun j hj => if_neg (by omega)⟩
  · have e : rnA t n (t q) base (q + 1, false, tl) = foldN (rnF t n base) (q + 1, false, tl) 2 := by rw [h]; exact if_pos (by decide)
    rw [e]
    refine ⟨WY_rn hn 2 0 (q + 1, false, tl) (by omega) (hW 2 (by rw [h]; rfl)), fun z => ?_⟩
    obtain ⟨a, b, c⟩ := rn_val 2 z
    refine ⟨by rw [a, h]; rfl, ⟨fun _ => ⟨b 0 (by omega), b 1 (by omega)⟩, fun y => absurd (h.symm.trans y) (by decide), fun y => absurd (h.symm.trans y) (by decide)⟩, c⟩
  · have e : rnA t n (t q) base (q + 1, false, tl) = (q + 1, false, tl) := rnA_0 (by rw [h]; decide) (by rw [h]; decide) (by rw [h]; decide) (by rw [h]; decide)
    rw [e]
    exact ⟨hW 0 (by rw [h]; rfl), fun _ => ⟨by rw [h]; rfl, ⟨fun y => (by rw [h] at y; exact absurd y (by decide)), fun y => absurd (h.symm.trans y) (by decide), fun y => absurd (h.symm.trans y) (by decide)⟩, fun _ _ => rfl⟩⟩
/-- a statement read -/
theorem st_read {t : FI} {n s q : Nat} {tl : FI} (hn : n < 1000) (hq : q ≤ n) (hs : s = 0 ∨ q < n) (h0 : s = 0 → q = 0) :
    (b3F t n (s2F t n s q false tl) = true → nI (q3F t n (s2F t n s q false tl)) = fmN t n (n - q) q (-1)) ∧
    (b3F t n (s2F t n s q false tl) = false → q < n ∧ hrV t n q = t q ∧ q3F t n (s2F t n s q false tl) = q + (dbN (t q) + 2) ∧ q + (dbN (t q) + 2) ≤ n ∧ fmN t n (n - (q + (dbN (t q) + 2))) (q + (dbN (t q) + 2)) (-1) = fmN t n (n - q) q (-1) ∧ tkO t q (s2F t n s q false tl).2.2 (4 * s) ∧ ∀ j, j < 4 * s → (s2F t n s q false tl).2.2 j = tl j) := by
  have hl := let_step (t := t) hq hs h0
  by_cases c : DB (hrV t n q) < 0
  · have eb : b1F t n q false = true := decide_eq_true c
    have eS : s2F t n s q false tl = (q, true, tl) := by
      unfold s2F q1F
      rw [if_pos eb, if_pos eb, eb]
    rw [if_pos c] at hl
    rw [eS]
    refine ⟨fun _ => hl.symm, fun z => ?_⟩
    cases z
  · have eb : b1F t n q false = false := decide_eq_false c
    have hqn := (b1_lt eb).2.2
    have eh : hrV t n q = t q := if_pos hqn
    have eS : s2F t n s q false tl = rnA t n (t q) (4 * s) (q + 1, false, tl) := by
      unfold s2F q1F
      rw [eb, if_neg (by decide), if_neg (by decide), eh]
    rw [if_neg c, eh] at hl
    rw [eh] at c
    obtain ⟨⟨w1, w2, w3⟩, hv⟩ := rn_all (base := 4 * s) (tl := tl) hn hqn c hl.symm
    rw [eS]
    generalize rnA t n (t q) (4 * s) (q + 1, false, tl) = S at *
    cases e : b3F t n S
    · refine ⟨fun z => (by cases z), fun _ => ?_⟩
      have e2 := ndb (show (S.2.1 || !decide (hrV t n S.1 = 59)) = false from e)
      obtain ⟨v1, v2, v3⟩ := hv e2.1
      have v4 := w3 e2.1
      have e5 := of_decide_eq_true e2.2
      rw [end_step w1 hn, if_pos e5] at v4
      have e6 : S.1 < n := hr_lt (by rw [e5]; decide)
      have e7 : q3F t n S = S.1 + 1 := by unfold q3F; rw [e, if_neg (by decide)]
      have e8 : S.1 + 1 = q + (dbN (t q) + 2) := by omega
      rw [e7, e8]
      rw [e8] at v4
      exact ⟨hqn, eh, rfl, by omega, v4, v2, v3⟩
    · refine ⟨fun _ => ?_, fun z => (by cases z)⟩
      have e7 : q3F t n S = S.1 := by unfold q3F; rw [e, if_pos rfl]
      rw [e7]
      cases e2 : S.2.1
      · have v4 := w3 e2
        have e3 : ¬ hrV t n S.1 = 59 := by
          intro z
          unfold b3F at e
          rw [e2, decide_eq_true z] at e
          cases e
        rw [end_step w1 hn, if_neg e3] at v4
        exact v4
      · exact w2 e2
