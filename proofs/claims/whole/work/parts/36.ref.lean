/-! the reference's mill: reading -/
theorem dig_step {t : FI} {n q d : Nat} (hq : q ≤ n) (hn : n < 1000) (hd : d < 1000) : fmN t n (n - q) q (nI (d + 1)) = if dgB t n q = true then fmN t n (n - (q + 1)) (q + 1) (nI d) else nI q := by
  by_cases c : q < n
  · obtain ⟨m, hm⟩ : ∃ m, n - q = m + 1 := ⟨n - q - 1, by omega⟩
    rw [hm, fmN_s, if_neg (nIneg _ (by omega)), if_pos ((pos_nI (by omega)).mpr (by omega)), nI_m1, show n - (q + 1) = m by omega]
    have e : (t q < 48 ∨ 57 < t q) ↔ ¬ dgB t n q = true := by
      unfold dgB hrV
      rw [if_pos c, decide_eq_true_eq]
      constructor
      · rintro (z | z) w
        · exact Int32.not_lt.mpr w.1 z
        · exact Int32.not_lt.mpr w.2 z
      · intro z
        by_cases y : t q < 48
        · exact Or.inl y
        · right
          exact Int32.not_le.mp (fun w => z ⟨Int32.not_lt.mp y, w⟩)
    by_cases b : dgB t n q = true
    · rw [if_pos b, if_neg (fun z => e.mp z b)]
    · rw [if_neg b, if_pos (e.mpr b)]
  · have e : q = n := by omega
    subst e
    rw [if_neg (fun z => c (dgB_lt z)), Nat.sub_self, fmN_0, if_pos (Or.inr (nIneg _ (by omega)))]
theorem end_step {t : FI} {n q : Nat} (hq : q ≤ n) (hn : n < 1000) : fmN t n (n - q) q (nI 0) = if hrV t n q = 59 then fmN t n (n - (q + 1)) (q + 1) (-1) else nI q := by
  by_cases c : q < n
  · obtain ⟨m, hm⟩ : ∃ m, n - q = m + 1 := ⟨n - q - 1, by omega⟩
    rw [hm, fmN_s, if_neg (nIneg 0 (by decide)), if_neg (by decide), show n - (q + 1) = m by omega]
    unfold hrV
    rw [if_pos c]
  · have e : q = n := by omega
    subst e
    rw [Nat.sub_self, fmN_0, if_pos (Or.inr (by decide))]
    unfold hrV
    rw [if_neg c, if_neg (by decide)]
theorem let_step {t : FI} {n q s : Nat} (hq : q ≤ n) (hs : s = 0 ∨ q < n) (h0 : s = 0 → q = 0) : fmN t n (n - q) q (-1) = if DB (hrV t n q) < 0 then nI q else fmN t n (n - (q + 1)) (q + 1) (DB (hrV t n q)) := by
  by_cases c : q < n
  · obtain ⟨m, hm⟩ : ∃ m, n - q = m + 1 := ⟨n - q - 1, by omega⟩
    rw [hm, fmN_s, if_pos rfl, show n - (q + 1) = m by omega]
    unfold hrV
    rw [if_pos c]
  · have e0 := h0 (hs.resolve_right c)
    have e : n = 0 := by omega
    subst e
    subst e0
    unfold hrV
    rw [Nat.sub_self, fmN_0, if_pos (Or.inl (show nI 0 = 0 from rfl)), if_neg c, if_pos (by decide)]
/-- on the way through a statement -/
def WY (t : FI) (n : Nat) (V : Int32) (d q : Nat) (b : Bool) : Prop := q ≤ n ∧ (b = true → nI q = V) ∧ (b = false → fmN t n (n - q) q (nI d) = V)
theorem WY_step {t : FI} {n : Nat} {V : Int32} {d q : Nat} {b : Bool} {u : Int32} (hn : n < 1000) (hd : d < 1000) (h : WY t n V (d + 1) q b) : WY t n V d (rdS t n (q, b, u)).1 (rdS t n (q, b, u)).2.1 := by
  obtain ⟨h1, h2, h3⟩ := h
  refine ⟨rdS_le h1, ?_⟩
  unfold rdS
  cases b
  · have h4 := h3 rfl
    rw [dig_step h1 hn hd] at h4
    cases e : dgB t n q
    · rw [e, if_neg (by decide)] at h4
      exact ⟨fun _ => h4, fun z => (by cases z)⟩
    · rw [e, if_pos rfl] at h4
      exact ⟨fun z => (by cases z), fun _ => h4⟩
  · exact ⟨fun _ => h2 rfl, fun z => (by cases z)⟩
theorem WY_rn {t : FI} {n : Nat} {V : Int32} {base : Nat} (hn : n < 1000) : ∀ (k d : Nat) (S : Nat × Bool × FI), d + k < 1000 → WY t n V (d + k) S.1 S.2.1 → WY t n V d (foldN (rnF t n base) S k).1 (foldN (rnF t n base) S k).2.1 := by
  intro k
  induction k with
  | zero => intro d S _ h; exact h
  | succ k ih =>
    intro d S hd h
    have h2 := ih (d + 1) S (by omega) (by rw [show d + 1 + k = d + (k + 1) by omega]; exact h)
    rw [foldN_s]
    exact WY_step (u := 0) hn (by omega) h2
theorem WY_rd {t : FI} {n : Nat} {V : Int32} (hn : n < 1000) : ∀ (k d : Nat) (S : Nat × Bool × Int32), d + k < 1000 → WY t n V (d + k) S.1 S.2.1 → WY t n V d (foldN (fun _ s => rdS t n s) S k).1 (foldN (fun _ s => rdS t n s) S k).2.1 := by
  intro k
  induction k with
  | zero => intro d S _ h; exact h
  | succ k ih =>
    intro d S hd h
    have h2 := ih (d + 1) S (by omega) (by rw [show d + 1 + k = d + (k + 1) by omega]; exact h)
    rw [foldN_s]
    exact WY_step hn (by omega) h2
theorem mz (v : Int32) : 10 * (0 : Int32) + v - 48 = v - 48 := by rw [Int32.mul_zero, Int32.zero_add]
theorem rn_val {t : FI} {n base q : Nat} {tl : FI} : ∀ k, (foldN (rnF t n base) (q, false, tl) k).2.1 = false → (foldN (rnF t n base) (q, false, tl) k).1 = q + k ∧ (∀ j, j < k → (foldN (rnF t n base) (q, false, tl) k).2.2 (base + j) = dg t (q + j)) ∧ (∀ j, j < base → (foldN (rnF t n base) (q, false, tl) k).2.2 j = tl j) := by
  intro k
  induction k with
  | zero => intro _; exact ⟨rfl, fun j hj => absurd hj (Nat.not_lt_zero j), fun _ _ => rfl⟩
  | succ k ih =>
    rw [foldN_s]
    generalize foldN (rnF t n base) (q, false, tl) k = S at *
    intro h
    have hb : (S.2.1 || !dgB t n S.1) = false := h
    obtain ⟨h1, h2, h3⟩ := ih (ndg hb).1
    unfold rnF rdS
    rw [if_neg (by rw [hb]; decide), if_neg (by rw [hb]; decide), mz]
    refine ⟨by show S.1 + 1 = _; omega, fun j hj => ?_, fun j hj => ?_⟩
    · show va_up S.2.2 (base + k) (t S.1 - 48) (base + j) = _
      unfold va_up
      by_cases e : j = k
      · rw [if_pos (by omega), e, h1]; rfl
      · rw [if_neg (by omega)]; exact h2 j (by omega)
    · show va_up S.2.2 (base + k) (t S.1 - 48) j = _
      unfold va_up
      rw [if_neg (by omega)]
      exact h3 j hj
theorem dgB_v {t : FI} {n q : Nat} (h : dgB t n q = true) : ∃ d, d < 10 ∧ t q = nI (48 + d) := by
  have hq := dgB_lt h
  unfold dgB hrV at h
  rw [if_pos hq] at h
  have := of_decide_eq_true h
  exact dgt_of (Int32.not_lt.mpr this.1) (Int32.not_lt.mpr this.2)
theorem rdS_ok {t : FI} {n q : Nat} {u : Int32} (h : dgB t n q = true) : rdS t n (q, false, u) = (q + 1, false, 10 * u + t q - 48) := by
  have hb : (false || !dgB t n q) = false := by rw [h]; rfl
  show (if (false || !dgB t n q) = true then q else q + 1, (false || !dgB t n q), if (false || !dgB t n q) = true then 0 else 10 * u + t q - 48) = _
  rw [hb]
  rfl
theorem three : ∀ a, a < 10 → ∀ b, b < 10 → ∀ c, c < 10 → 10 * (10 * (nI (48 + a) - 48) + nI (48 + b) - 48) + nI (48 + c) - 48 = 100 * (nI (48 + a) - 48) + 10 * (nI (48 + b) - 48) + (nI (48 + c) - 48) := by decide +kernel
theorem rd_3 {t : FI} {n q : Nat} (h : (foldN (fun _ s => rdS t n s) (q, false, 0) 3).2.1 = false) : (foldN (fun _ s => rdS t n s) (q, false, 0) 3).1 = q + 3 ∧ (foldN (fun _ s => rdS t n s) (q, false, 0) 3).2.2 = 100 * dg t q + 10 * dg t (q + 1) + dg t (q + 2) := by
  have e : foldN (fun _ s => rdS t n s) (q, false, 0) 3 = rdS t n (rdS t n (rdS t n (q, false, 0))) := rfl
  rw [e] at h ⊢
  have b3 := ndg h
  have b2 := ndg b3.1
  have b0 : (false || !dgB t n q) = false := b2.1
  have b1 := ndg b0
  have e1 : rdS t n (q, false, 0) = (q + 1, false, t q - 48) := (rdS_ok b1.2).trans (by rw [mz])
  rw [e1] at b2 b3 h ⊢
  have b4 : (false || !dgB t n (q + 1)) = false := b3.1
  have e2 : rdS t n (q + 1, false, t q - 48) = (q + 2, false, 10 * (t q - 48) + t (q + 1) - 48) := rdS_ok (ndg b4).2
  rw [e2] at b3 h ⊢
  obtain ⟨x, hx, ex⟩ := dgB_v b1.2
  obtain ⟨y, hy, ey⟩ := dgB_v b2.2
  obtain ⟨z, hz, ez⟩ := dgB_v b3.2
  unfold rdS
  rw [b3.2]
  refine ⟨rfl, ?_⟩
  show 10 * (10 * (t q - 48) + t (q + 1) - 48) + t (q + 2) - 48 = 100 * (t q - 48) + 10 * (t (q + 1) - 48) + (t (q + 2) - 48)
  have ez2 : t (q + 2) = nI (48 + z) := ez
  have ey2 : t (q + 1) = nI (48 + y) := ey
  have ex2 : t q = nI (48 + x) := ex
  rw [ex2, ey2, ez2]
  exact three x hx y hy z hz
/-- what is told of a statement -/
def tkO (t : FI) (p : Nat) (tl : FI) (base : Nat) : Prop := (t p = 98 ∨ t p = 116 → tl base = dg t (p + 1) ∧ tl (base + 1) = dg t (p + 2)) ∧ (t p = 108 → tl base = dg t (p + 1) ∧ tl (base + 1) = dg t (p + 2) ∧ tl (base + 2) = dg t (p + 3) ∧ tl (base + 3) = dg t (p + 4)) ∧ (t p = 112 → tl base = 100 * dg t (p + 1) + 10 * dg t (p + 2) + dg t (p + 3))
theorem ndb {b c : Bool} (h : (b || !c) = false) : b = false ∧ c = true := by
  cases b <;> cases c <;> first | (cases h; done) | exact ⟨rfl, rfl⟩
theorem rn_all {t : FI} {n q base : Nat} {tl : FI} {V : Int32} (hn : n < 1000) (hq : q < n) (hD : ¬ DB (t q) < 0) (hV : fmN t n (n - (q + 1)) (q + 1) (DB (t q)) = V) :
    WY t n V 0 (rnA t n (t q) base (q + 1, false, tl)).1 (rnA t n (t q) base (q + 1, false, tl)).2.1 ∧ ((rnA t n (t q) base (q + 1, false, tl)).2.1 = false → (rnA t n (t q) base (q + 1, false, tl)).1 = q + 1 + dbN (t q) ∧ tkO t q (rnA t n (t q) base (q + 1, false, tl)).2.2 base ∧ ∀ j, j < base → (rnA t n (t q) base (q + 1, false, tl)).2.2 j = tl j) := by
  have hc := DB_cases hD
  obtain ⟨e1, e2⟩ := DB_n hc
  rw [e1] at hV
  have hW : ∀ d, dbN (t q) = d → WY t n V d (q + 1) false := fun d hd => ⟨hq, fun z => (by cases z), fun _ => by rw [← hd]; exact hV⟩
  rcases hc with h | h | h | h | h | h
  · have e : rnA t n (t q) base (q + 1, false, tl) = foldN (rnF t n base) (q + 1, false, tl) 2 := by rw [h]; exact if_pos (by decide)
    rw [e]
    refine ⟨WY_rn hn 2 0 (q + 1, false, tl) (by omega) (hW 2 (by rw [h]; rfl)), fun z => ?_⟩
    obtain ⟨a, b, c⟩ := rn_val 2 z
    refine ⟨by rw [a, h]; rfl, ⟨fun _ => ⟨b 0 (by omega), b 1 (by omega)⟩, fun y => absurd (h.symm.trans y) (by decide), fun y => absurd (h.symm.trans y) (by decide)⟩, c⟩
  · have e : rnA t n (t q) base (q + 1, false, tl) = (q + 1, false, tl) := rnA_0 (by rw [h]; decide) (by rw [h]; decide) (by rw [h]; decide) (by rw [h]; decide)
    rw [e]
    exact ⟨hW 0 (by rw [h]; rfl), fun _ => ⟨by rw [h]; rfl, ⟨fun y => (by rw [h] at y; exact absurd y (by decide)), fun y => absurd (h.symm.trans y) (by decide), fun y => absurd (h.symm.trans y) (by decide)⟩, fun _ _ => rfl⟩⟩
  · have e : rnA t n (t q) base (q + 1, false, tl) = foldN (rnF t n base) (q + 1, false, tl) 4 := by rw [h]; exact if_pos (by decide)
    rw [e]
    refine ⟨WY_rn hn 4 0 (q + 1, false, tl) (by omega) (hW 4 (by rw [h]; rfl)), fun z => ?_⟩
    obtain ⟨a, b, c⟩ := rn_val 4 z
    exact ⟨by rw [a, h]; rfl, ⟨fun y => (by rw [h] at y; exact absurd y (by decide)), fun _ => ⟨b 0 (by omega), b 1 (by omega), b 2 (by omega), b 3 (by omega)⟩, fun y => absurd (h.symm.trans y) (by decide)⟩, c⟩
  · have e := rnA_2 (t := t) (n := n) (base := base) (S := (q + 1, false, tl)) h
    rw [e]
    refine ⟨WY_rd hn 3 0 (q + 1, false, 0) (by omega) (hW 3 (by rw [h]; rfl)), fun z => ?_⟩
    obtain ⟨a, b⟩ := rd_3 z
    refine ⟨by rw [h]; exact a, ⟨fun y => (by rw [h] at y; exact absurd y (by decide)), fun y => absurd (h.symm.trans y) (by decide), fun _ => (if_pos rfl).trans b⟩, fun j hj => if_neg (by omega)⟩
  · have e : rnA t n (t q) base (q + 1, false, tl) = foldN (rnF t n base) (q + 1, false, tl) 2 := by rw [h]; exact if_pos (by decide)
    rw [e]
    refine ⟨WY_rn hn 2 0 (q + 1, false, tl) (by omega) (hW 2 (by rw [h]; rfl)), fun z => ?_⟩
    obtain ⟨a, b, c⟩ := rn_val 2 z
    refine ⟨by rw [a, h]; rfl, ⟨fun _ => ⟨b 0 (by omega), b 1 (by omega)⟩, fun y => absurd (h.symm.trans y) (by decide), fun y => absurd (h.symm.trans y) (by decide)⟩, c⟩
  · have e : rnA t n (t q) base (q + 1, false, tl) = (q + 1, false, tl) := rnA_0 (by rw [h]; decide) (by rw [h]; decide) (by rw [h]; decide) (by rw [h]; decide)
    rw [e]
    exact ⟨hW 0 (by rw [h]; rfl), fun _ => ⟨by rw [h]; rfl, ⟨fun y => (by rw [h] at y; exact absurd y (by decide)), fun y => absurd (h.symm.trans y) (by decide), fun y => absurd (h.symm.trans y) (by decide)⟩, fun _ _ => rfl⟩⟩
/-- a statement read -/
theorem st_read {t : FI} {n s q : Nat} {tl : FI} (hn : n < 1000) (hq : q ≤ n) (hs : s = 0 ∨ q < n) (h0 : s = 0 → q = 0) :
    (b3F t n (s2F t n s q false tl) = true → nI (q3F t n (s2F t n s q false tl)) = fmN t n (n - q) q (-1)) ∧
    (b3F t n (s2F t n s q false tl) = false → q < n ∧ hrV t n q = t q ∧ q3F t n (s2F t n s q false tl) = q + (dbN (t q) + 2) ∧ q + (dbN (t q) + 2) ≤ n ∧ fmN t n (n - (q + (dbN (t q) + 2))) (q + (dbN (t q) + 2)) (-1) = fmN t n (n - q) q (-1) ∧ tkO t q (s2F t n s q false tl).2.2 (4 * s) ∧ ∀ j, j < 4 * s → (s2F t n s q false tl).2.2 j = tl j) := by
  have hl := let_step (t := t) hq hs h0
  by_cases c : DB (hrV t n q) < 0
  · have eb : b1F t n q false = true := decide_eq_true c
    have eS : s2F t n s q false tl = (q, true, tl) := by
      unfold s2F q1F
      rw [if_pos eb, if_pos eb, eb]
    rw [if_pos c] at hl
    rw [eS]
    refine ⟨fun _ => hl.symm, fun z => ?_⟩
    cases z
  · have eb : b1F t n q false = false := decide_eq_false c
    have hqn := (b1_lt eb).2.2
    have eh : hrV t n q = t q := if_pos hqn
    have eS : s2F t n s q false tl = rnA t n (t q) (4 * s) (q + 1, false, tl) := by
      unfold s2F q1F
      rw [eb, if_neg (by decide), if_neg (by decide), eh]
    rw [if_neg c, eh] at hl
    rw [eh] at c
    obtain ⟨⟨w1, w2, w3⟩, hv⟩ := rn_all (base := 4 * s) (tl := tl) hn hqn c hl.symm
    rw [eS]
    generalize rnA t n (t q) (4 * s) (q + 1, false, tl) = S at *
    cases e : b3F t n S
    · refine ⟨fun z => (by cases z), fun _ => ?_⟩
      have e2 := ndb (show (S.2.1 || !decide (hrV t n S.1 = 59)) = false from e)
      obtain ⟨v1, v2, v3⟩ := hv e2.1
      have v4 := w3 e2.1
      have e5 := of_decide_eq_true e2.2
      rw [end_step w1 hn, if_pos e5] at v4
      have e6 : S.1 < n := hr_lt (by rw [e5]; decide)
      have e7 : q3F t n S = S.1 + 1 := by unfold q3F; rw [e, if_neg (by decide)]
      have e8 : S.1 + 1 = q + (dbN (t q) + 2) := by omega
      rw [e7, e8]
      rw [e8] at v4
      exact ⟨hqn, eh, rfl, by omega, v4, v2, v3⟩
    · refine ⟨fun _ => ?_, fun z => (by cases z)⟩
      have e7 : q3F t n S = S.1 := by unfold q3F; rw [e, if_pos rfl]
      rw [e7]
      cases e2 : S.2.1
      · have v4 := w3 e2
        have e3 : ¬ hrV t n S.1 = 59 := by
          intro z
          unfold b3F at e
          rw [e2, decide_eq_true z] at e
          cases e
        rw [end_step w1 hn, if_neg e3] at v4
        exact v4
      · exact w2 e2
/-! the reference's mill: from statement to statement -/
def psN (t : FI) : Nat → Nat
  | 0 => 0
  | i + 1 => psN t i + (dbN (t (psN t i)) + 2)
def TK (t : FI) (n s : Nat) (pl lo tl : FI) : Prop := ∀ i, i < s → pl i = nI (psN t i) ∧ lo i = t (psN t i) ∧ psN t i < n ∧ tkO t (psN t i) tl (4 * i)
def RI (t : FI) (n : Nat) (s q : Nat) (b : Bool) (pl lo tl : FI) : Prop := q ≤ n ∧ (b = true → nI q = formF t n) ∧ (b = false → q = psN t s ∧ fmN t n (n - q) q (-1) = formF t n ∧ TK t n s pl lo tl ∧ 2 * s ≤ q)
theorem RI_0 (t : FI) (n : Nat) (pl lo tl : FI) : RI t n 0 0 false pl lo tl := ⟨Nat.zero_le n, fun z => (by cases z), fun _ => ⟨rfl, rfl, fun i hi => absurd hi (Nat.not_lt_zero i), Nat.le_refl _⟩⟩
theorem tkO_same {t : FI} {p base : Nat} {tl tl2 : FI} (h : tkO t p tl base) (e : ∀ j, j < base + 4 → tl2 j = tl j) : tkO t p tl2 base := by
  unfold tkO at *
  rw [e base (by omega), e (base + 1) (by omega), e (base + 2) (by omega), e (base + 3) (by omega)]
  exact h
theorem RI_s {t : FI} {n s q : Nat} {pl lo tl : FI} (hn : n < 1000) (h : RI t n s q false pl lo tl) (hs : s = 0 ∨ q < n) : RI t n (s + 1) (q3F t n (s2F t n s q false tl)) (b3F t n (s2F t n s q false tl)) (va_up pl s (nI q)) (va_up lo s (hrV t n q)) (s2F t n s q false tl).2.2 := by
  obtain ⟨h1, _, h3⟩ := h
  obtain ⟨hp, hF, hT, h2⟩ := h3 rfl
  have r := st_read (t := t) (s := s) (tl := tl) hn h1 hs (fun z => by rw [z] at hp; exact hp)
  refine ⟨q3_le (s2_le h1), fun z => (r.1 z).trans hF, fun z => ?_⟩
  obtain ⟨r1, r2, r3, r4, r5, r6, r7⟩ := r.2 z
  refine ⟨by rw [r3]; show _ = psN t s + (dbN (t (psN t s)) + 2); rw [← hp], by rw [r3]; exact r5.trans hF, fun i hi => ?_, by rw [r3]; omega⟩
  by_cases e : i = s
  · subst e
    rw [← hp]
    exact ⟨if_pos rfl, (if_pos rfl).trans r2, r1, r6⟩
  · obtain ⟨a, b, c, d⟩ := hT i (by omega)
    exact ⟨(if_neg e).trans a, (if_neg e).trans b, c, tkO_same d (fun j hj => r7 j (by omega))⟩
theorem tk_nn {t : FI} {p base : Nat} {tl : FI} (hS : stOK t p) (h : tkO t p tl base) : (t p = 108 → ¬ tl (base + 2) < 0 ∧ ¬ tl (base + 3) < 0) ∧ (t p = 98 ∨ t p = 116 → ¬ tl (base + 1) < 0) := by
  refine ⟨fun e => ?_, fun e => ?_⟩
  · obtain ⟨_, _, a, b⟩ := h.2.1 e
    have hd : dbN (t p) = 4 := by rw [e]; rfl
    obtain ⟨x, hx, ex⟩ := hS.dig (j := 2) (by omega)
    obtain ⟨y, hy, ey⟩ := hS.dig (j := 3) (by omega)
    rw [a, b, show p + 3 = p + (2 + 1) from rfl, show p + 4 = p + (3 + 1) from rfl, ex, ey]
    exact ⟨nI_pos (by omega), nI_pos (by omega)⟩
  · obtain ⟨_, a⟩ := h.1 e
    have hd : dbN (t p) = 2 := by rcases e with e | e <;> rw [e] <;> rfl
    obtain ⟨x, hx, ex⟩ := hS.dig (j := 1) (by omega)
    rw [a, show p + 2 = p + (1 + 1) from rfl, ex]
    exact nI_pos (by omega)
theorem cm_st {t : FI} {p base : Nat} {tl : FI} {z : PW} (h : tkO t p tl base) : cmT (t p) (tl base) (tl (base + 1)) (tl (base + 2)) (tl (base + 3)) z = stF t z p := by
  unfold cmT stF
  by_cases h1 : t p = 98
  · rw [if_pos h1, if_pos h1, (h.1 (Or.inl h1)).1, (h.1 (Or.inl h1)).2]
  rw [if_neg h1, if_neg h1]
  by_cases h2 : t p = 108
  · obtain ⟨a, b, c, d⟩ := h.2.1 h2
    rw [if_pos h2, if_pos h2, a, b, c, d]
  rw [if_neg h2, if_neg h2]
  by_cases h3 : t p = 112
  · rw [if_pos h3, if_pos h3, h.2.2 h3]
  rw [if_neg h3, if_neg h3]
  by_cases h4 : t p = 116
  · rw [if_pos h4, if_pos h4, (h.1 (Or.inr h4)).1, (h.1 (Or.inr h4)).2]
  rw [if_neg h4, if_neg h4]
theorem sn_end {t : FI} {n p : Nat} (hp : ¬ p < n) (m c : Nat) (x : PW) : snN t n m p c x = (-1, x, c) := by
  cases m with
  | zero => rfl
  | succ m => rw [snN_s, if_neg hp]
def SI (t : FI) (n : Nat) (x : PW) (i : Nat) (z : PW) : Prop := snN t n (96 - i) (psN t i) i z = snF t n x ∧ WOK z ∧ fmN t n (n - psN t i) (psN t i) (-1) = -1 ∧ psN t i ≤ n
theorem SI_s {t : FI} {n i : Nat} {x z : PW} (hn : n < 1000) (hi : i < 49) (h : SI t n x i z) (hp : psN t i < n) (hs : (stF t z (psN t i)).isSome = true) : SI t n x (i + 1) ((stF t z (psN t i)).getD z) := by
  obtain ⟨h1, h2, h3, h4⟩ := h
  have hst := form_step hp hn h3
  refine ⟨?_, stF_W h2 hst.1, hst.2.2, hst.2.1⟩
  rw [← h1, show 96 - i = 96 - (i + 1) + 1 by omega, snN_s, if_pos hp, if_pos hs]
  rfl
theorem SI_f {t : FI} {n i : Nat} {x z : PW} (hi : i < 49) (h : SI t n x i z) (hp : psN t i < n) (hs : (stF t z (psN t i)).isSome = false) : snF t n x = (nI (psN t i), z, i) := by
  rw [← h.1, show 96 - i = 96 - (i + 1) + 1 by omega, snN_s, if_pos hp, if_neg (by rw [hs]; decide)]
theorem RI_end {t : FI} {n s q : Nat} {pl lo tl : FI} (hn : n < 1000) (h : RI t n s q false pl lo tl) (hs : ¬ s = 0) (hq : ¬ q < n) : q = n ∧ formF t n = -1 ∧ q = psN t s ∧ TK t n s pl lo tl ∧ 2 * s ≤ q := by
  obtain ⟨h1, _, h3⟩ := h
  obtain ⟨hp, hF, hT, h2⟩ := h3 rfl
  have e : q = n := by omega
  refine ⟨e, ?_, hp, hT, h2⟩
  rw [← hF, e, Nat.sub_self, fmN_0, if_neg]
  rintro (z | z)
  · exact absurd ((ninj (a := n) (b := 0) (by omega) (by decide)).mp z) (by omega)
  · exact z rfl
set_option maxHeartbeats 4000000 in
set_option maxRecDepth 100000 in
theorem S_X10_mill (X : En) (l : Launch) {h : Hp} {x : PW} {c : RC} {z : RZ} (O28 : h 28 = some (rB x (-1) c z)) (hW : WOK x) (hn : c.2.2.1 ≤ 96) : Ct X l mX10_mill [aR 28 0] h (QI (fun vr h2 => (miV c.2.1 c.2.2.1 x) = vr ∧ ∃ (z1 : RZ), h2 (28) = some (rB (miX c.2.1 c.2.2.1 x) (-1) (c.1, c.2.1, 0, c.2.2.2.1, c.2.2.2.2.1, c.2.2.2.2.2.1, miK c.2.1 c.2.2.1 x c.2.2.2.2.2.2.1, c.2.2.2.2.2.2.2) z1) ∧ ∀ i, i ≠ 28 → h2 i = h i)) := by
  have hf : ∀ i, i ≠ 28 → h i = h i := fun _ _ => rfl
  refine Ct.intro [some (aR 28 0), none] (by decide +kernel) rfl (Nat.le_of_ble_eq_true rfl) ?_
  refine A_aload_n 1 dX10_mill_0 rfl rfl rfl ?_
  refine A_iconst 2 (0) dX10_mill_1 rfl (by decide) ?_
  refine P_X10_9 5 dX10_mill_2 rfl fw_X10_78 O28 (fun h_1 nh_1 eh_1 => ?_)
  replace O28 := nh_1
  replace hf : ∀ i, i ≠ 28 → h_1 i = h i := fun i g0 => (eh_1 i g0).trans (hf i g0)
  try dsimp only at O28
  refine A_aload_n 6 dX10_mill_5 rfl rfl rfl ?_
  refine A_iconst 7 (0) dX10_mill_6 rfl (by decide) ?_
  refine P_X10_16 10 dX10_mill_7 rfl fw_X10_127 O28 (fun h_2 nh_2 eh_2 => ?_)
  replace O28 := nh_2
  replace hf : ∀ i, i ≠ 28 → h_2 i = h i := fun i g0 => (eh_2 i g0).trans (hf i g0)
  try dsimp only at O28
  refine A_aload_n 11 dX10_mill_10 rfl rfl rfl ?_
  refine A_iconst 12 (0) dX10_mill_11 rfl (by decide) ?_
  refine P_X10_17 15 dX10_mill_12 rfl fw_X10_130 O28 (by first | with_reducible exact bI01 _ | with_reducible exact Or.inl rfl | with_reducible exact Or.inr rfl | assumption) (fun h_3 nh_3 eh_3 => ?_)
  replace O28 := nh_3
  replace hf : ∀ i, i ≠ 28 → h_3 i = h i := fun i g0 => (eh_3 i g0).trans (hf i g0)
  try dsimp only at O28
  refine A_aload_n 16 dX10_mill_15 rfl rfl rfl ?_
  refine A_iconst 17 (0) dX10_mill_16 rfl (by decide) ?_
  refine P_X10_18 20 dX10_mill_17 rfl fw_X10_145 O28 (fun h_4 nh_4 eh_4 => ?_)
  replace O28 := nh_4
  replace hf : ∀ i, i ≠ 28 → h_4 i = h i := fun i g0 => (eh_4 i g0).trans (hf i g0)
  try dsimp only at O28
  have L20 : ∀ (nq s2 : Nat)  (g20 : Hp) (rd0 : RD) (q2 : Nat) (b2 : Bool) (pl2 : FI) (lo2 : FI) (tl2 : FI) (ry0 : RY) (rs0 : RS), (nq + s2 = 49) → (RI c.2.1 c.2.2.1 s2 q2 b2 pl2 lo2 tl2) → (g20 28 = some (rB x (-1) c (rd0, (q2, bI b2, s2, pl2, lo2, tl2), ry0, rs0))) → (∀ i, i ≠ 28 → g20 i = h i) → Av X l mX10_mill 20 [some (aR 28 0), none] [] g20 (QI (fun vr h2 => (miV c.2.1 c.2.2.1 x) = vr ∧ ∃ (z1 : RZ), h2 (28) = some (rB (miX c.2.1 c.2.2.1 x) (-1) (c.1, c.2.1, 0, c.2.2.2.1, c.2.2.2.2.1, c.2.2.2.2.2.1, miK c.2.1 c.2.2.1 x c.2.2.2.2.2.2.1, c.2.2.2.2.2.2.2) z1) ∧ ∀ i, i ≠ 28 → h2 i = h i)) := by
    intro nq
    induction nq using Nat.strongRecOn with
    | _ nq ih =>
    intro s2 g20 rd0 q2 b2 pl2 lo2 tl2 ry0 rs0 en hy O28 hf
    refine A_aload_n 21 dX10_mill_20 rfl rfl rfl ?_
    refine A_getfield 24 dX10_mill_21 rfl f_X10_130 O28 rfl ?_
    try dsimp only
    refine A_if_ne 52 27 dX10_mill_24 (by decide) rfl (fun c24 => ?_) (fun c24 => ?_)
    · skip
      try simp only [bI_0, bI_n0, Classical.not_not, Bool.not_eq_false, Bool.true_and, Bool.and_true, decide_eq_true_eq, decide_eq_false_iff_not, dayC_1, dayC_21, dayC_221, dayC_222, inI_1, inI_2, inI_3, inI_5, inI_11, inI_16] at c24
      have hFb := hy.2.1 c24
      have hq1 := hy.1
      have nF : ¬ formF c.2.1 c.2.2.1 = -1 := by rw [← hFb]; exact nIneg q2 (by omega)
      have eV : miV c.2.1 c.2.2.1 x = -1000 - nI q2 := by unfold miV; rw [if_neg nF, ← hFb]
      have eX : miX c.2.1 c.2.2.1 x = x := by unfold miX; rw [if_neg nF]
      have eK : miK c.2.1 c.2.2.1 x c.2.2.2.2.2.2.1 = c.2.2.2.2.2.2.1 := by unfold miK; rw [if_neg nF]
      refine A_aload_n 53 dX10_mill_52 rfl rfl rfl ?_
      refine A_iconst 54 (0) dX10_mill_53 rfl (by decide) ?_
      refine P_X10_15 57 dX10_mill_54 rfl fw_X10_124 O28 (fun h_5 nh_5 eh_5 => ?_)
      replace O28 := nh_5
      replace hf : ∀ i, i ≠ 28 → h_5 i = h i := fun i g0 => (eh_5 i g0).trans (hf i g0)
      try dsimp only at O28
      refine A_aload_n 58 dX10_mill_57 rfl rfl rfl ?_
      refine A_getfield 61 dX10_mill_58 rfl f_X10_130 O28 rfl ?_
      try dsimp only
      refine A_if_eq 73 64 dX10_mill_61 (by decide) rfl (fun c61 => ?_) (fun c61 => ?_)
      · skip
        rw [c24] at c61
        first | exact absurd c61 (by decide) | exact c61 rfl
      · skip
        try simp only [bI_0, bI_n0, Classical.not_not, Bool.not_eq_false, Bool.true_and, Bool.and_true, decide_eq_true_eq, decide_eq_false_iff_not, dayC_1, dayC_21, dayC_221, dayC_222, inI_1, inI_2, inI_3, inI_5, inI_11, inI_16] at c61
        refine A_sipush 67 (-1000) dX10_mill_64 rfl (by decide) ?_
        refine A_aload_n 68 dX10_mill_67 rfl rfl rfl ?_
        refine A_getfield 71 dX10_mill_68 rfl f_X10_127 O28 rfl ?_
        try dsimp only
        refine A_isub 72 dX10_mill_71 rfl ?_
        refine A_iret dX10_mill_72 rfl ⟨_, rfl, (by exact eV), _, (by rw [eX, eK]; exact O28), hf⟩
    · skip
      try simp only [bI_0, bI_n0, Classical.not_not, Bool.not_eq_false, Bool.true_and, Bool.and_true, decide_eq_true_eq, decide_eq_false_iff_not, dayC_1, dayC_21, dayC_221, dayC_222, inI_1, inI_2, inI_3, inI_5, inI_11, inI_16] at c24
      obtain ⟨n0, rfl⟩ : ∃ q, nq = q + 1 := by
        have q := hy.2.2 c24
        have q1 := hy.1
        exact ⟨nq - 1, by omega⟩
      refine A_aload_n 28 dX10_mill_27 rfl rfl rfl ?_
      refine A_getfield 31 dX10_mill_28 rfl f_X10_145 O28 rfl ?_
      try dsimp only
      refine A_if_eq 45 34 dX10_mill_31 (by decide) rfl (fun c31 => ?_) (fun c31 => ?_)
      · skip
        try simp only [bI_0, bI_n0, Classical.not_not, Bool.not_eq_false, Bool.true_and, Bool.and_true, decide_eq_true_eq, decide_eq_false_iff_not, dayC_1, dayC_21, dayC_221, dayC_222, inI_1, inI_2, inI_3, inI_5, inI_11, inI_16] at c31
        have hs0 : s2 = 0 ∨ q2 < c.2.2.1 := Or.inl ((ninj (a := s2) (b := 0) (by omega) (by decide)).mp c31)
        have h2s := (hy.2.2 c24).2.2.2
        have hq1 := hy.1
        subst c24
        refine A_aload_n 46 dX10_mill_45 rfl rfl rfl ?_
        refine A_callVV 49 (S_X10_readStatement X l (b := false) O28 hn hq1 (by omega)) dX10_mill_46 rfl kX10_readStatement lk_X10_172 rfl O28 (by decide) rfl (Nat.le_of_ble_eq_true rfl) (fun h_6 qh_6 => ?_)
        obtain ⟨n0h_6, eh_6⟩ := qh_6
        replace O28 := n0h_6
        replace hf : ∀ i, i ≠ 28 → h_6 i = h i := fun i g0 => (eh_6 i g0).trans (hf i g0)
        refine A_goto 20 dX10_mill_49 (by decide) ?_
        exact A_weak (ih n0 (Nat.lt_succ_self n0) (s2 + 1)  h_6 _ _ _ _ _ _ _ _ (by omega)  (RI_s (by omega) hy hs0) O28 hf) (sub_s (sub_n sub_nil))
      · skip
        try simp only [bI_0, bI_n0, Classical.not_not, Bool.not_eq_false, Bool.true_and, Bool.and_true, decide_eq_true_eq, decide_eq_false_iff_not, dayC_1, dayC_21, dayC_221, dayC_222, inI_1, inI_2, inI_3, inI_5, inI_11, inI_16] at c31
        have hs1 : ¬ s2 = 0 := fun e => c31 (by rw [e]; rfl)
        have hq1 := hy.1
        have h2s := (hy.2.2 c24).2.2.2
        refine A_aload_n 35 dX10_mill_34 rfl rfl rfl ?_
        refine A_getfield 38 dX10_mill_35 rfl f_X10_127 O28 rfl ?_
        try dsimp only
        refine A_aload_n 39 dX10_mill_38 rfl rfl rfl ?_
        refine A_getfield 42 dX10_mill_39 rfl f_X10_124 O28 rfl ?_
        try dsimp only
        refine A_icmp_ge 52 45 dX10_mill_42 (by decide) rfl (fun c42 => ?_) (fun c42 => ?_)
        · skip
          try simp only [bI_0, bI_n0, Classical.not_not, Bool.not_eq_false, Bool.true_and, Bool.and_true, decide_eq_true_eq, decide_eq_false_iff_not, dayC_1, dayC_21, dayC_221, dayC_222, inI_1, inI_2, inI_3, inI_5, inI_11, inI_16] at c42
          have n42 := c42
          replace c42 := Int32.not_lt.mpr c42
          have hq2 : ¬ q2 < c.2.2.1 := mt (nlt_iff (a := q2) (b := c.2.2.1) (by omega) (by omega)).mpr c42
          obtain ⟨eqn, hF, eqp, hTK, _⟩ := RI_end (by omega) (by rw [← c24]; exact hy) hs1 hq2
          have hF0 : fmN c.2.1 c.2.2.1 (c.2.2.1 - 0) 0 (-1) = -1 := hF
          refine A_aload_n 53 dX10_mill_52 rfl rfl rfl ?_
          refine A_iconst 54 (0) dX10_mill_53 rfl (by decide) ?_
          refine P_X10_15 57 dX10_mill_54 rfl fw_X10_124 O28 (fun h_7 nh_7 eh_7 => ?_)
          replace O28 := nh_7
          replace hf : ∀ i, i ≠ 28 → h_7 i = h i := fun i g0 => (eh_7 i g0).trans (hf i g0)
          try dsimp only at O28
          refine A_aload_n 58 dX10_mill_57 rfl rfl rfl ?_
          refine A_getfield 61 dX10_mill_58 rfl f_X10_130 O28 rfl ?_
          try dsimp only
          refine A_if_eq 73 64 dX10_mill_61 (by decide) rfl (fun c61 => ?_) (fun c61 => ?_)
          · skip
            try simp only [bI_0, bI_n0, Classical.not_not, Bool.not_eq_false, Bool.true_and, Bool.and_true, decide_eq_true_eq, decide_eq_false_iff_not, dayC_1, dayC_21, dayC_221, dayC_222, inI_1, inI_2, inI_3, inI_5, inI_11, inI_16] at c61
            refine A_aload_n 74 dX10_mill_73 rfl rfl rfl ?_
            refine A_callVV 77 (S_X10_think X l (by first | assumption | decide | omega | exact Ne.symm (by assumption))) dX10_mill_74 rfl kX10_think lk_X10_175 rfl O28 (by decide) rfl (Nat.le_of_ble_eq_true rfl) (fun h_8 qh_8 => ?_)
            obtain ⟨n0h_8, eh_8⟩ := qh_8
            replace O28 := n0h_8
            replace hf : ∀ i, i ≠ 28 → h_8 i = h i := fun i g0 => (eh_8 i g0).trans (hf i g0)
            refine A_iconst 78 (0) dX10_mill_77 rfl (by decide) ?_
            refine A_istore_n 79 dX10_mill_78 rfl rfl (by decide) (by first | exact (ast_1 rfl) | exact ast_k) ?_
            have L79 : ∀ (nqb i : Nat)  (g79 : Hp) (zz : PW) (rd1 : RD) (tf1 : FI) (r31 : Nat × Int32 × AV) (rs1 : RS), (nqb + i = s2) → (SI c.2.1 c.2.2.1 x i zz) → (g79 28 = some (rB zz (-1) (c.1, c.2.1, 0, c.2.2.2) (rd1, (q2, bI b2, s2, pl2, lo2, tl2), (enc x, tf1, r31), rs1))) → (∀ i, i ≠ 28 → g79 i = h i) → Av X l mX10_mill 79 [some (aR 28 0), some (aI (nI (i)))] [] g79 (QI (fun vr h2 => (miV c.2.1 c.2.2.1 x) = vr ∧ ∃ (z1 : RZ), h2 (28) = some (rB (miX c.2.1 c.2.2.1 x) (-1) (c.1, c.2.1, 0, c.2.2.2.1, c.2.2.2.2.1, c.2.2.2.2.2.1, miK c.2.1 c.2.2.1 x c.2.2.2.2.2.2.1, c.2.2.2.2.2.2.2) z1) ∧ ∀ i, i ≠ 28 → h2 i = h i)) := by
              intro nqb
              induction nqb using Nat.strongRecOn with
              | _ nqb ihb =>
              intro i g79 zz rd1 tf1 r31 rs1 enb hyb O28 hf
              refine A_iload_n 80 dX10_mill_79 rfl rfl rfl ?_
              refine A_aload_n 81 dX10_mill_80 rfl rfl rfl ?_
              refine A_getfield 84 dX10_mill_81 rfl f_X10_145 O28 rfl ?_
              try dsimp only
              refine A_icmp_ge 116 87 dX10_mill_84 (by decide) rfl (fun c84 => ?_) (fun c84 => ?_)
              · skip
                obtain rfl := (up_ge_T (N := s2) c84 rfl (by omega) (by omega)).symm
                have es : snF c.2.1 c.2.2.1 x = (-1, zz, s2) := hyb.1.symm.trans (sn_end (by omega) _ _ _)
                have eV : miV c.2.1 c.2.2.1 x = nI s2 := by unfold miV; rw [if_pos hF, es, if_pos rfl]
                have eX : miX c.2.1 c.2.2.1 x = zz := by unfold miX; rw [if_pos hF, es, if_pos rfl]
                have eK : miK c.2.1 c.2.2.1 x c.2.2.2.2.2.2.1 = 0 := by unfold miK; rw [if_pos hF, es, if_pos rfl]
                refine A_aload_n 117 dX10_mill_116 rfl rfl rfl ?_
                refine A_iconst 118 (0) dX10_mill_117 rfl (by decide) ?_
                refine P_X10_30 121 dX10_mill_118 rfl fw_X10_184 O28 (fun h_9 nh_9 eh_9 => ?_)
                replace O28 := nh_9
                replace hf : ∀ i, i ≠ 28 → h_9 i = h i := fun i g0 => (eh_9 i g0).trans (hf i g0)
                try dsimp only at O28
                refine A_aload_n 122 dX10_mill_121 rfl rfl rfl ?_
                refine A_getfield 125 dX10_mill_122 rfl f_X10_145 O28 rfl ?_
                try dsimp only
                refine A_iret dX10_mill_125 rfl ⟨_, rfl, (by exact eV), _, (by rw [eX, eK]; exact O28), hf⟩
              · skip
                have hib := up_ge_F (N := s2) c84 rfl (by omega) (by omega)
                obtain ⟨n0b, rfl⟩ : ∃ q, nqb = q + 1 := ⟨nqb - 1, by omega⟩
                have hi2 : i < s2 := by omega
                have hst := form_step (hTK i hi2).2.2.1 (by omega) hyb.2.2.1
                have hnn := tk_nn hst.1 (hTK i hi2).2.2.2
                have hcm := cm_st (z := zz) (hTK i hi2).2.2.2
                refine A_aload_n 88 dX10_mill_87 rfl rfl rfl ?_
                refine A_iload_n 89 dX10_mill_88 rfl rfl rfl ?_
                refine A_callVI 92 (S_X10_comesTold X l (q := q2) (b := b2) O28 hyb.2.1 (by omega) (v := c.2.1 (psN c.2.1 i)) ((hTK i hi2).2.1) rfl rfl rfl rfl hnn.1 hnn.2) dX10_mill_89 rfl kX10_comesTold lk_X10_178 rfl O28 (by decide) rfl (Nat.le_of_ble_eq_true rfl) (fun v_10 h_10 qh_10 => ?_)
                obtain ⟨rfl, rd1_10, n0h_10, eh_10⟩ := qh_10
                replace O28 := n0h_10
                replace hf : ∀ i, i ≠ 28 → h_10 i = h i := fun i g0 => (eh_10 i g0).trans (hf i g0)
                rw [hcm] at O28 ⊢
                refine A_if_ne 110 95 dX10_mill_92 (by decide) rfl (fun c92 => ?_) (fun c92 => ?_)
                · skip
                  try simp only [bI_0, bI_n0, Classical.not_not, Bool.not_eq_false, Bool.true_and, Bool.and_true, decide_eq_true_eq, decide_eq_false_iff_not, dayC_1, dayC_21, dayC_221, dayC_222, inI_1, inI_2, inI_3, inI_5, inI_11, inI_16] at c92
                  first | refine A_iincN 113 dX10_mill_110 rfl rfl (by decide) (by first | exact (ast_1 rfl) | exact ast_k) ?_ | refine A_iinc 113 (1) dX10_mill_110 rfl rfl (by decide) (by decide) (by first | exact (ast_1 rfl) | exact ast_k) ?_
                  refine A_goto 79 dX10_mill_113 (by decide) ?_
                  exact ihb n0b (Nat.lt_succ_self n0b) (i + 1)  h_10 _ _ _ _ _ (by omega)  (SI_s (by omega) (by omega) hyb (hTK i hi2).2.2.1 c92) O28 hf
                · skip
                  try simp only [bI_0, bI_n0, Classical.not_not, Bool.not_eq_false, Bool.true_and, Bool.and_true, decide_eq_true_eq, decide_eq_false_iff_not, dayC_1, dayC_21, dayC_221, dayC_222, inI_1, inI_2, inI_3, inI_5, inI_11, inI_16] at c92
                  have es := SI_f (by omega) hyb (hTK i hi2).2.2.1 c92
                  have eV : miV c.2.1 c.2.2.1 x = -2000 - nI (psN c.2.1 i) := by unfold miV; rw [if_pos hF, es, if_neg (nIneg _ (by omega))]
                  have eX : miX c.2.1 c.2.2.1 x = x := by unfold miX; rw [if_pos hF, es, if_neg (nIneg _ (by omega))]
                  have eK : miK c.2.1 c.2.2.1 x c.2.2.2.2.2.2.1 = c.2.2.2.2.2.2.1 := by unfold miK; rw [if_pos hF, es, if_neg (nIneg _ (by omega))]
                  refine A_aload_n 96 dX10_mill_95 rfl rfl rfl ?_
                  refine A_callVV 99 (S_X10_again X l (by first | assumption | decide | omega | exact Ne.symm (by assumption))) dX10_mill_96 rfl kX10_again lk_X10_181 rfl O28 (by decide) rfl (Nat.le_of_ble_eq_true rfl) (fun h_11 qh_11 => ?_)
                  obtain ⟨n0h_11, eh_11⟩ := qh_11
                  replace O28 := n0h_11
                  replace hf : ∀ i, i ≠ 28 → h_11 i = h i := fun i g0 => (eh_11 i g0).trans (hf i g0)
                  refine A_sipush 102 (-2000) dX10_mill_99 rfl (by decide) ?_
                  refine A_aload_n 103 dX10_mill_102 rfl rfl rfl ?_
                  refine A_getfield 106 dX10_mill_103 rfl f_X10_41 O28 rfl ?_
                  refine A_iload_n 107 dX10_mill_106 rfl rfl rfl ?_
                  refine A_iaload 108 dX10_mill_107 rfl O28 rfl (by first | assumption | exact ix_nI (by omega) (by decide) | exact ix_lit _ rfl (by omega) (by decide) | exact ix_lit _ rfl (by decide) (by decide)) ?_
                  try dsimp only
                  rw [(hTK i hi2).1]
                  refine A_isub 109 dX10_mill_108 rfl ?_
                  refine A_iret dX10_mill_109 rfl ⟨_, rfl, (by exact eV), _, (by rw [eX, eK]; exact O28), hf⟩
            exact L79 (s2) (0)  h_8 (x) (_) (_) (_) (_) (by omega)  (⟨rfl, hW, hF0, Nat.zero_le _⟩) O28 hf
          · skip
            rw [c24] at c61
            first | exact absurd c61 (by decide) | exact c61 rfl
        · skip
          try simp only [bI_0, bI_n0, Classical.not_not, Bool.not_eq_false, Bool.true_and, Bool.and_true, decide_eq_true_eq, decide_eq_false_iff_not, dayC_1, dayC_21, dayC_221, dayC_222, inI_1, inI_2, inI_3, inI_5, inI_11, inI_16] at c42
          have n42 := c42
          replace c42 := Int32.not_le.mp c42
          have hs0 : s2 = 0 ∨ q2 < c.2.2.1 := Or.inr ((nlt_iff (a := q2) (b := c.2.2.1) (by omega) (by omega)).mp c42)
          subst c24
          refine A_aload_n 46 dX10_mill_45 rfl rfl rfl ?_
          refine A_callVV 49 (S_X10_readStatement X l (b := false) O28 hn hq1 (by omega)) dX10_mill_46 rfl kX10_readStatement lk_X10_172 rfl O28 (by decide) rfl (Nat.le_of_ble_eq_true rfl) (fun h_12 qh_12 => ?_)
          obtain ⟨n0h_12, eh_12⟩ := qh_12
          replace O28 := n0h_12
          replace hf : ∀ i, i ≠ 28 → h_12 i = h i := fun i g0 => (eh_12 i g0).trans (hf i g0)
          refine A_goto 20 dX10_mill_49 (by decide) ?_
          exact A_weak (ih n0 (Nat.lt_succ_self n0) (s2 + 1)  h_12 _ _ _ _ _ _ _ _ (by omega)  (RI_s (by omega) hy hs0) O28 hf) (sub_s (sub_n sub_nil))
  exact A_weak (L20 (49) (0)  h_4 (_) (0) (false) (_) (_) (_) (_) (_) (by omega)  (RI_0 c.2.1 c.2.2.1 _ _ _) O28 hf) (sub_s (sub_n sub_nil))
