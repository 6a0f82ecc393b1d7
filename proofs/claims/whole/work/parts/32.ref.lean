/-! the reference: the most that may be given -/
def gO (t : FI) : FI := fun j => if t j = 0 then -1 else bitC (nI j)
def rrN (s j : Nat) : Nat := s &&& (255 ^^^ 2 ^ j)
theorem sh_clr : ∀ s, s < 256 → ∀ j, j < 8 → nI s &&& (tbI (nI j) ^^^ (-1)) = nI (rrN s j) := by decide +kernel
theorem rrN_lt {s j : Nat} (h : s < 256) : rrN s j < 256 := Nat.lt_of_le_of_lt Nat.and_le_left h
theorem bit_out : ∀ s, s < 256 → ∀ k, k < 8 → btI (nI s ^^^ (-1)) (nI k) = !btI (nI s) (nI k) := by decide +kernel
theorem bit_up : ∀ s, s < 256 → ∀ k, k < 8 → btI (nI s) (nI k) = false → btI (nI (s ||| 2 ^ k)) (nI k) = true ∧ rrN (s ||| 2 ^ k) k = s := by decide +kernel
theorem bit_dn : ∀ s, s < 256 → ∀ k, k < 8 → btI (nI s) (nI k) = true → btI (nI (rrN s k)) (nI k) = false ∧ s = rrN s k ||| 2 ^ k ∧ rrN s k < s ∧ bitC (nI (rrN s k)) + 1 = bitC (nI s) ∧ ¬ bitC (nI (rrN s k)) < 0 ∧ (-1) < bitC (nI s) := by decide +kernel
theorem bit_or {w : Int32} {s j k : Nat} (hs : s < 256) (hj : j < 256) (hk : k < 8) : (btI (w &&& (nI s ^^^ (-1))) (nI k) = true ∧ j = s ||| 2 ^ k) ↔ (btI w (nI k) = true ∧ btI (nI j) (nI k) = true ∧ rrN j k = s) := by
  rw [btI_and, bit_out s hs k hk]
  constructor
  · rintro ⟨a, rfl⟩
    rw [Bool.and_eq_true, Bool.not_eq_true'] at a
    have := bit_up s hs k hk a.2
    exact ⟨a.1, this.1, this.2⟩
  · rintro ⟨a, b, rfl⟩
    have := bit_dn j hj k hk b
    rw [a, this.1]
    exact ⟨rfl, this.2.1⟩
theorem svI_n (w : Int32) (s : Nat) (t : FI) : ∀ n, n ≤ 8 → ∀ j, (¬ foldN (svI w s) t n j = 0) ↔ (¬ t j = 0 ∨ ∃ k, k < n ∧ btI (w &&& (nI s ^^^ (-1))) (nI k) = true ∧ j = s ||| 2 ^ k) := by
  intro n
  induction n with
  | zero =>
    intro _ j
    constructor
    · intro h; exact Or.inl h
    · rintro (h | ⟨k, hk, _⟩)
      · exact h
      · omega
  | succ n ih =>
    intro hn j
    rw [foldN_s]
    have h := ih (by omega) j
    unfold svI at *
    rw [inT_nI (by omega), Bool.true_and]
    by_cases c : btI (w &&& (nI s ^^^ (-1))) (nI n) = true
    · rw [if_pos c]
      by_cases e : j = s ||| 2 ^ n
      · constructor
        · intro _; exact Or.inr ⟨n, by omega, c, e⟩
        · intro _
          rw [e]
          unfold va_up
          rw [if_pos rfl]
          decide
      · unfold va_up
        rw [if_neg e]
        refine h.trans ⟨fun q => ?_, fun q => ?_⟩
        · rcases q with q | ⟨k, q1, q2, q3⟩
          · exact Or.inl q
          · exact Or.inr ⟨k, by omega, q2, q3⟩
        · rcases q with q | ⟨k, q1, q2, q3⟩
          · exact Or.inl q
          · by_cases ek : k = n
            · subst ek; exact absurd q3 e
            · exact Or.inr ⟨k, by omega, q2, q3⟩
    · rw [if_neg c]
      refine h.trans ⟨fun q => ?_, fun q => ?_⟩
      · rcases q with q | ⟨k, q1, q2, q3⟩
        · exact Or.inl q
        · exact Or.inr ⟨k, by omega, q2, q3⟩
      · rcases q with q | ⟨k, q1, q2, q3⟩
        · exact Or.inl q
        · by_cases ek : k = n
          · subst ek; exact absurd q2 c
          · exact Or.inr ⟨k, by omega, q2, q3⟩
theorem dn_inv {α : Type} (f : Nat → α → α) (P : Nat → α → Prop) : ∀ n a, (∀ i u, i < n → P (i + 1) u → P i (f i u)) → P n a → P 0 (downF f n a) := by
  intro n
  induction n with
  | zero => intro a _ h; exact h
  | succ n ih =>
    intro a hs h
    rw [downF_s]
    exact ih _ (fun i u hi => hs i u (by omega)) (hs n a (by omega) h)
/-- served behind: by the old rows from i on -/
def SB (w : Int32) (t : FI) (j i : Nat) : Prop := ¬ t j = 0 ∨ ∃ k, k < 8 ∧ btI w (nI k) = true ∧ btI (nI j) (nI k) = true ∧ ¬ t (rrN j k) = 0 ∧ i ≤ rrN j k
theorem SB_own {w : Int32} {t : FI} {i : Nat} (hi : i < 256) : SB w t i (i + 1) ↔ ¬ t i = 0 := by
  constructor
  · rintro (h | ⟨k, hk, _, h2, _, h3⟩)
    · exact h
    · have := (bit_dn i hi k hk h2).2.2.1
      omega
  · exact Or.inl
theorem sv_dn (w : Int32) (t : FI) : ∀ j, j < 256 → (¬ downF (svO w) 256 t j = 0 ↔ SB w t j 0) := by
  refine dn_inv (svO w) (fun i u => ∀ j, j < 256 → (¬ u j = 0 ↔ SB w t j i)) 256 t ?_ ?_
  · intro i u hi h j hj
    have h0 := (h i hi).trans (SB_own hi)
    unfold svO
    by_cases c : u i = 0
    · rw [if_pos c]
      refine (h j hj).trans ⟨fun q => ?_, fun q => ?_⟩
      · rcases q with q | ⟨k, q1, q2, q3, q4, q5⟩
        · exact Or.inl q
        · exact Or.inr ⟨k, q1, q2, q3, q4, by omega⟩
      · rcases q with q | ⟨k, q1, q2, q3, q4, q5⟩
        · exact Or.inl q
        · by_cases e : rrN j k = i
          · rw [e] at q4
            exact absurd c (h0.mpr q4)
          · exact Or.inr ⟨k, q1, q2, q3, q4, by omega⟩
    · rw [if_neg c]
      refine (svI_n w i u 8 (Nat.le_refl _) j).trans ⟨fun q => ?_, fun q => ?_⟩
      · rcases q with q | ⟨k, q1, q2⟩
        · rcases (h j hj).mp q with q | ⟨k, q1, q2, q3, q4, q5⟩
          · exact Or.inl q
          · exact Or.inr ⟨k, q1, q2, q3, q4, by omega⟩
        · obtain ⟨q3, q4, q5⟩ := (bit_or hi hj q1).mp q2
          exact Or.inr ⟨k, q1, q3, q4, by rw [q5]; exact h0.mp c, by omega⟩
      · rcases q with q | ⟨k, q1, q2, q3, q4, q5⟩
        · exact Or.inl ((h j hj).mpr (Or.inl q))
        · by_cases e : rrN j k = i
          · exact Or.inr ⟨k, q1, (bit_or hi hj q1).mpr ⟨q2, q3, e⟩⟩
          · exact Or.inl ((h j hj).mpr (Or.inr ⟨k, q1, q2, q3, q4, by omega⟩))
  · intro j hj
    constructor
    · exact Or.inl
    · rintro (h | ⟨k, hk, _, h2, _, h3⟩)
      · exact h
      · have := (bit_dn j hj k hk h2).2.2.1
        omega
/-! the reference's rows -/
def gvI (m : Int32) (s j : Nat) (g : FI) : FI := if btI (nI s) (nI j) = true then (if btI m (nI j) = true then (if g (rrN s j) < 0 then g else if g s < g (rrN s j) + 1 then va_up g s (g (rrN s j) + 1) else g) else g) else g
def gvO (m : Int32) (s : Nat) (g : FI) : FI := foldN (gvI m s) g 8
def gvP (x : PW) (p : Nat) (g : FI) : FI := downF (fun k => gvO (SP x (x.2.1 p)) (k + 1)) 255 g
def gv0 : FI := fun j => if j = 0 then 0 else -1
def SK (w : Int32) (t : FI) (s n : Nat) : Prop := ¬ t s = 0 ∨ ∃ k, k < n ∧ btI w (nI k) = true ∧ btI (nI s) (nI k) = true ∧ ¬ t (rrN s k) = 0
theorem gvI_n (w : Int32) {s : Nat} (hs : s < 256) (t g : FI) (h : ∀ j, j ≤ s → g j = gO t j) : ∀ n, n ≤ 8 → (∀ j, ¬ j = s → foldN (gvI w s) g n j = g j) ∧ (SK w t s n → foldN (gvI w s) g n s = bitC (nI s)) ∧ (¬ SK w t s n → foldN (gvI w s) g n s = -1) := by
  intro n
  induction n with
  | zero =>
    intro _
    refine ⟨fun _ _ => rfl, fun q => ?_, fun q => ?_⟩
    · rcases q with q | ⟨k, hk, _⟩
      · exact (h s (Nat.le_refl _)).trans (if_neg q)
      · omega
    · exact (h s (Nat.le_refl _)).trans (if_pos (Classical.not_not.mp (fun z => q (Or.inl z))))
  | succ n ih =>
    intro hn
    obtain ⟨h1, h2, h3⟩ := ih (by omega)
    rw [foldN_s]
    generalize foldN (gvI w s) g n = u at *
    have same : (SK w t s n ↔ SK w t s (n + 1)) → gvI w s n u = u → (∀ j, ¬ j = s → gvI w s n u j = g j) ∧ (SK w t s (n + 1) → gvI w s n u s = bitC (nI s)) ∧ (¬ SK w t s (n + 1) → gvI w s n u s = -1) := by
      intro a b
      rw [b]
      exact ⟨h1, fun q => h2 (a.mpr q), fun q => h3 (fun z => q (a.mp z))⟩
    have up : SK w t s n → SK w t s (n + 1) := by
      rintro (q | ⟨k, q1, q2⟩)
      · exact Or.inl q
      · exact Or.inr ⟨k, by omega, q2⟩
    by_cases c1 : btI (nI s) (nI n) = true
    case neg =>
      refine same ⟨up, ?_⟩ (if_neg c1)
      rintro (q | ⟨k, q1, q2, q3, q4⟩)
      · exact Or.inl q
      · by_cases e : k = n
        · subst e; exact absurd q3 c1
        · exact Or.inr ⟨k, by omega, q2, q3, q4⟩
    by_cases c2 : btI w (nI n) = true
    case neg =>
      refine same ⟨up, ?_⟩ (by unfold gvI; rw [if_pos c1, if_neg c2])
      rintro (q | ⟨k, q1, q2, q3, q4⟩)
      · exact Or.inl q
      · by_cases e : k = n
        · subst e; exact absurd q2 c2
        · exact Or.inr ⟨k, by omega, q2, q3, q4⟩
    obtain ⟨_, _, b3, b4, b5, b6⟩ := bit_dn s hs n (by omega) c1
    have er : u (rrN s n) = gO t (rrN s n) := (h1 _ (by omega)).trans (h _ (by omega))
    by_cases c3 : t (rrN s n) = 0
    · have e : u (rrN s n) = -1 := er.trans (if_pos c3)
      refine same ⟨up, ?_⟩ (by unfold gvI; rw [if_pos c1, if_pos c2, if_pos (by rw [e]; decide)])
      rintro (q | ⟨k, q1, q2, q3, q4⟩)
      · exact Or.inl q
      · by_cases e : k = n
        · subst e; exact absurd c3 q4
        · exact Or.inr ⟨k, by omega, q2, q3, q4⟩
    · have e : u (rrN s n) = bitC (nI (rrN s n)) := er.trans (if_neg c3)
      have hS : SK w t s (n + 1) := Or.inr ⟨n, by omega, c2, c1, c3⟩
      by_cases c4 : SK w t s n
      · refine same ⟨up, fun _ => c4⟩ ?_
        unfold gvI
        rw [if_pos c1, if_pos c2, e, if_neg b5, h2 c4, b4, if_neg (fun z => Int32.lt_irrefl z)]
      · have eu : gvI w s n u = va_up u s (bitC (nI s)) := by
          unfold gvI
          rw [if_pos c1, if_pos c2, e, if_neg b5, h3 c4, b4, if_pos b6]
        rw [eu]
        refine ⟨fun j hj => ?_, fun _ => if_pos rfl, fun q => absurd hS q⟩
        unfold va_up
        rw [if_neg hj]
        exact h1 j hj
theorem gv_step (w : Int32) (t g : FI) (h : ∀ j, j < 256 → g j = gO t j) : ∀ j, j < 256 → downF (fun k => gvO w (k + 1)) 255 g j = gO (downF (svO w) 256 t) j := by
  have key := dn_inv (fun k => gvO w (k + 1)) (fun i u => ∀ j, j < 256 → (i < j → (SK w t j 8 → u j = bitC (nI j)) ∧ (¬ SK w t j 8 → u j = -1)) ∧ (j ≤ i → u j = gO t j)) 255 g ?_ ?_
  · intro j hj
    have hk := key j hj
    have hs := sv_dn w t j hj
    have eS : SK w t j 8 ↔ SB w t j 0 := by
      constructor
      · rintro (q | ⟨k, q1, q2, q3, q4⟩)
        · exact Or.inl q
        · exact Or.inr ⟨k, q1, q2, q3, q4, Nat.zero_le _⟩
      · rintro (q | ⟨k, q1, q2, q3, q4, _⟩)
        · exact Or.inl q
        · exact Or.inr ⟨k, q1, q2, q3, q4⟩
    generalize downF (fun k => gvO w (k + 1)) 255 g = u at *
    generalize downF (svO w) 256 t = v at *
    show u j = if v j = 0 then -1 else bitC (nI j)
    by_cases c : v j = 0
    · rw [if_pos c]
      have n1 : ¬ SB w t j 0 := fun z => (hs.mpr z) c
      by_cases e : j = 0
      · rw [hk.2 (by omega)]
        exact if_pos (Classical.not_not.mp (fun z => n1 (Or.inl z)))
      · exact (hk.1 (by omega)).2 (fun z => n1 (eS.mp z))
    · rw [if_neg c]
      have n1 := hs.mp c
      by_cases e : j = 0
      · rw [hk.2 (by omega)]
        refine if_neg ?_
        rcases n1 with q | ⟨k, q1, q2, q3, q4⟩
        · exact q
        · have := (bit_dn j hj k q1 q3).2.2.1
          omega
      · exact (hk.1 (by omega)).1 (eS.mpr n1)
  · intro i u hi hu j hj
    have hg := gvI_n w (s := i + 1) (by omega) t u (fun q hq => (hu q (by omega)).2 hq) 8 (Nat.le_refl _)
    show (i < j → (SK w t j 8 → foldN (gvI w (i + 1)) u 8 j = bitC (nI j)) ∧ (¬ SK w t j 8 → foldN (gvI w (i + 1)) u 8 j = -1)) ∧ (j ≤ i → foldN (gvI w (i + 1)) u 8 j = gO t j)
    by_cases e : j = i + 1
    · subst e
      exact ⟨fun _ => hg.2, fun q => by omega⟩
    · rw [hg.1 j e]
      exact ⟨fun q => (hu j hj).1 (by omega), fun q => (hu j hj).2 (by omega)⟩
  · intro j hj
    exact ⟨fun q => by omega, fun _ => h j hj⟩
theorem gv0_own : ∀ j, j < 256 → gv0 j = gO own0 j := by decide +kernel
def mgF (g : FI) (i : Nat) (u : Int32) : Int32 := if u < g i then g i else u
theorem mg_eq (t g : FI) (h : ∀ j, j < 256 → g j = gO t j) : foldN (mgF g) 0 256 = foldN (mwF t) 0 256 := by
  have key : ∀ n, n ≤ 256 → foldN (mgF g) 0 n = foldN (mwF t) 0 n ∧ ¬ foldN (mwF t) 0 n < 0 := by
    intro n
    induction n with
    | zero => intro _; exact ⟨rfl, show ¬ (0 : Int32) < 0 by decide⟩
    | succ n ih =>
      intro hn
      obtain ⟨e, q⟩ := ih (by omega)
      rw [foldN_s, foldN_s, e]
      generalize foldN (mwF t) 0 n = u at *
      obtain ⟨b1, b2⟩ := bitC_pop n (by omega)
      unfold mgF mwF
      rw [h n (by omega)]
      unfold gO
      by_cases c : t n = 0
      · rw [if_pos c, if_neg (fun z => q (Int32.lt_trans z (by decide))), if_neg (fun z => z.1 c)]
        exact ⟨rfl, q⟩
      · rw [if_neg c]
        by_cases d : u < bitC (nI n)
        · rw [if_pos d, if_pos ⟨c, d⟩]
          refine ⟨rfl, ?_⟩
          rw [b1]
          exact nI_pos (by omega)
        · rw [if_neg d, if_neg (fun z => d z.2)]
          exact ⟨rfl, q⟩
  exact (key 256 (Nat.le_refl _)).1
theorem dl_T {k : Nat} (c : nI k ≤ 0) (hk : k < 2 ^ 31) : k = 0 := by
  have := (nle_iff (a := k) (b := 0) hk (by decide)).mp c
  omega
theorem dl_F {k : Nat} (c : ¬ nI k ≤ 0) : ∃ j, k = j + 1 := by
  cases k with
  | zero => exact absurd (Int32.le_refl _) c
  | succ j => exact ⟨j, rfl⟩
set_option maxHeartbeats 4000000 in
set_option maxRecDepth 100000 in
theorem S_X10_mostGiven (X : En) (l : Launch) {h : Hp} {x : PW} {c : RC} {z : RZ} (O28 : h 28 = some (rB x (-1) c z)) (hW : WOK x) : Ct X l mX10_mostGiven [aR 28 0] h (QI (fun vr h2 => (MOW x) = vr ∧ ∃ (z1 : RZ), h2 (28) = some (rB x (-1) c z1) ∧ ∀ i, i ≠ 28 → h2 i = h i)) := by
  have hx := hW.1
  have hp := hW.2.1
  have h10 := hx.1
  have hf : ∀ i, i ≠ 28 → h i = h i := fun _ _ => rfl
  refine Ct.intro [some (aR 28 0), none, none, none, none, none, none] (by decide +kernel) rfl (Nat.le_of_ble_eq_true rfl) ?_
  refine A_iconst 1 (0) dX10_mostGiven_0 rfl (by decide) ?_
  refine A_istore_n 2 dX10_mostGiven_1 rfl rfl (by decide) (by first | exact (ast_1 rfl) | exact ast_k) ?_
  have L2 : ∀ (nq i : Nat)  (g2 : Hp) (z2 : RZ), (nq + i = 256) → (∀ j, j < i → z2.2.2.2.2.1 j = gv0 j) → (g2 28 = some (rB x (-1) c z2)) → (∀ i, i ≠ 28 → g2 i = h i) → Av X l mX10_mostGiven 2 [some (aR 28 0), some (aI (nI (i))), none, none, none, none, none] [] g2 (QI (fun vr h2 => (MOW x) = vr ∧ ∃ (z1 : RZ), h2 (28) = some (rB x (-1) c z1) ∧ ∀ i, i ≠ 28 → h2 i = h i)) := by
    intro nq
    induction nq using Nat.strongRecOn with
    | _ nq ih =>
    intro i g2 z2 en hy O28 hf
    refine A_iload_n 3 dX10_mostGiven_2 rfl rfl rfl ?_
    refine A_sipush 6 (256) dX10_mostGiven_3 rfl (by decide) ?_
    refine A_icmp_ge 30 9 dX10_mostGiven_6 (by decide) rfl (fun c6 => ?_) (fun c6 => ?_)
    · skip
      obtain rfl := (up_ge_T (N := 256) c6 rfl (by omega) (by omega)).symm
      have hG := hy
      refine A_iconst 31 (0) dX10_mostGiven_30 rfl (by decide) ?_
      refine A_istore_n 32 dX10_mostGiven_31 rfl rfl (by decide) (by first | exact (ast_1 rfl) | exact ast_k) ?_
      have L32 : ∀ (nqb i : Nat)  (g32 : Hp) (z3 : RZ), (nqb + i = x.2.2.2.1) → (∀ j, j < 256 → z3.2.2.2.2.1 j = gO (foldN (svP x) own0 i) j) → (g32 28 = some (rB x (-1) c z3)) → (∀ i, i ≠ 28 → g32 i = h i) → Av X l mX10_mostGiven 32 [some (aR 28 0), some (aI (nI (i))), none, none, none, none, none] [] g32 (QI (fun vr h2 => (MOW x) = vr ∧ ∃ (z1 : RZ), h2 (28) = some (rB x (-1) c z1) ∧ ∀ i, i ≠ 28 → h2 i = h i)) := by
        intro nqb
        induction nqb using Nat.strongRecOn with
        | _ nqb ihb =>
        intro i g32 z3 enb hyb O28 hf
        refine A_iload_n 33 dX10_mostGiven_32 rfl rfl rfl ?_
        refine A_aload_n 34 dX10_mostGiven_33 rfl rfl rfl ?_
        refine A_getfield 37 dX10_mostGiven_34 rfl f_X10_81 O28 rfl ?_
        try dsimp only
        refine A_icmp_ge 174 40 dX10_mostGiven_37 (by decide) rfl (fun c37 => ?_) (fun c37 => ?_)
        · skip
          obtain rfl := (up_ge_T (N := x.2.2.2.1) c37 rfl (by omega) (by omega)).symm
          refine A_iconst 175 (0) dX10_mostGiven_174 rfl (by decide) ?_
          refine A_istore_n 176 dX10_mostGiven_175 rfl rfl (by decide) (by first | exact (ast_1 rfl) | exact ast_k) ?_
          refine A_iconst 177 (0) dX10_mostGiven_176 rfl (by decide) ?_
          refine A_istore_n 178 dX10_mostGiven_177 rfl rfl (by decide) (by first | exact (ast_s (ast_1 rfl)) | exact (ast_s ast_k)) ?_
          have L178 : ∀ (nqe i : Nat) (v : Int32) , (nqe + i = 256) → (foldN (mgF z3.2.2.2.2.1) (0) i = (v)) → Av X l mX10_mostGiven 178 [some (aR 28 0), some (aI (v)), some (aI (nI (i))), none, none, none, none] [] g32 (QI (fun vr h2 => (MOW x) = vr ∧ ∃ (z1 : RZ), h2 (28) = some (rB x (-1) c z1) ∧ ∀ i, i ≠ 28 → h2 i = h i)) := by
            intro nqe
            induction nqe using Nat.strongRecOn with
            | _ nqe ihe =>
            intro i v ene eee
            refine A_iload_n 179 dX10_mostGiven_178 rfl rfl rfl ?_
            refine A_sipush 182 (256) dX10_mostGiven_179 rfl (by decide) ?_
            refine A_icmp_ge 212 185 dX10_mostGiven_182 (by decide) rfl (fun c182 => ?_) (fun c182 => ?_)
            · skip
              obtain rfl := (up_ge_T (N := 256) c182 rfl (by omega) (by omega)).symm
              refine A_iload_n 213 dX10_mostGiven_212 rfl rfl rfl ?_
              refine A_iret dX10_mostGiven_213 rfl ⟨_, rfl, (by unfold MOW svA; rw [← mg_eq _ _ hyb]; exact eee), _, O28, hf⟩
            · skip
              have hie := up_ge_F (N := 256) c182 rfl (by omega) (by omega)
              obtain ⟨n0e, rfl⟩ : ∃ q, nqe = q + 1 := ⟨nqe - 1, by omega⟩
              refine A_aload_n 186 dX10_mostGiven_185 rfl rfl rfl ?_
              refine A_getfield 189 dX10_mostGiven_186 rfl f_X10_69 O28 rfl ?_
              refine A_iload_n 190 dX10_mostGiven_189 rfl rfl rfl ?_
              refine A_iaload 191 dX10_mostGiven_190 rfl O28 rfl (by first | assumption | exact ix_nI (by omega) (by decide) | exact ix_lit _ rfl (by omega) (by decide) | exact ix_lit _ rfl (by decide) (by decide)) ?_
              try dsimp only
              refine A_iload_n 192 dX10_mostGiven_191 rfl rfl rfl ?_
              refine A_icmp_le 204 195 dX10_mostGiven_192 (by decide) rfl (fun c192 => ?_) (fun c192 => ?_)
              · skip
                try simp only [bI_0, bI_n0, Classical.not_not, Bool.not_eq_false, Bool.true_and, Bool.and_true, decide_eq_true_eq, decide_eq_false_iff_not, dayC_1, dayC_21, dayC_221, dayC_222, inI_1, inI_2, inI_3, inI_5, inI_11, inI_16] at c192
                have n192 := c192
                replace c192 := Int32.not_lt.mpr c192
                refine A_iload_n 205 dX10_mostGiven_204 rfl rfl rfl ?_
                refine A_istore_n 206 dX10_mostGiven_205 rfl rfl (by decide) (by first | exact (ast_1 rfl) | exact ast_k) ?_
                first | refine A_iincN 209 dX10_mostGiven_206 rfl rfl (by decide) (by first | exact (ast_s (ast_1 rfl)) | exact (ast_s ast_k)) ?_ | refine A_iinc 209 (1) dX10_mostGiven_206 rfl rfl (by decide) (by decide) (by first | exact (ast_s (ast_1 rfl)) | exact (ast_s ast_k)) ?_
                refine A_goto 178 dX10_mostGiven_209 (by decide) ?_
                exact A_weak (ihe n0e (Nat.lt_succ_self n0e) (i + 1) _  (by omega) ((foldN_s (mgF z3.2.2.2.2.1) (0) i).trans ((congrArg ((mgF z3.2.2.2.2.1) i) eee).trans (by first | with_reducible rfl | (simp only [c192, n192, if_true, if_false, ite_true, ite_false, and_true, true_and, and_false, false_and, and_self, or_true, true_or, or_false, false_or, or_self, not_true_eq_false, not_false_eq_true, decide_true, decide_false, Bool.and_true, Bool.true_and, Bool.and_false, Bool.false_and, Bool.and_self, Bool.or_true, Bool.true_or, Bool.or_false, Bool.false_or, Bool.not_true, Bool.not_false, cond_true, cond_false, bI_t, bI_f, Bool.false_eq_true, Bool.true_eq_false, dayC_1, dayC_21, dayC_221, dayC_222, mgF]; done) | (simp [*, mgF]; done) | with_reducible_and_instances rfl))) ) (sub_s (sub_s (sub_s (sub_n (sub_n (sub_n (sub_n sub_nil)))))))
              · skip
                try simp only [bI_0, bI_n0, Classical.not_not, Bool.not_eq_false, Bool.true_and, Bool.and_true, decide_eq_true_eq, decide_eq_false_iff_not, dayC_1, dayC_21, dayC_221, dayC_222, inI_1, inI_2, inI_3, inI_5, inI_11, inI_16] at c192
                have n192 := c192
                replace c192 := Int32.not_le.mp c192
                refine A_aload_n 196 dX10_mostGiven_195 rfl rfl rfl ?_
                refine A_getfield 199 dX10_mostGiven_196 rfl f_X10_69 O28 rfl ?_
                refine A_iload_n 200 dX10_mostGiven_199 rfl rfl rfl ?_
                refine A_iaload 201 dX10_mostGiven_200 rfl O28 rfl (by first | assumption | exact ix_nI (by omega) (by decide) | exact ix_lit _ rfl (by omega) (by decide) | exact ix_lit _ rfl (by decide) (by decide)) ?_
                try dsimp only
                refine A_goto 205 dX10_mostGiven_201 (by decide) ?_
                refine A_istore_n 206 dX10_mostGiven_205 rfl rfl (by decide) (by first | exact (ast_1 rfl) | exact ast_k) ?_
                first | refine A_iincN 209 dX10_mostGiven_206 rfl rfl (by decide) (by first | exact (ast_s (ast_1 rfl)) | exact (ast_s ast_k)) ?_ | refine A_iinc 209 (1) dX10_mostGiven_206 rfl rfl (by decide) (by decide) (by first | exact (ast_s (ast_1 rfl)) | exact (ast_s ast_k)) ?_
                refine A_goto 178 dX10_mostGiven_209 (by decide) ?_
                exact A_weak (ihe n0e (Nat.lt_succ_self n0e) (i + 1) _  (by omega) ((foldN_s (mgF z3.2.2.2.2.1) (0) i).trans ((congrArg ((mgF z3.2.2.2.2.1) i) eee).trans (by first | with_reducible rfl | (simp only [c192, n192, if_true, if_false, ite_true, ite_false, and_true, true_and, and_false, false_and, and_self, or_true, true_or, or_false, false_or, or_self, not_true_eq_false, not_false_eq_true, decide_true, decide_false, Bool.and_true, Bool.true_and, Bool.and_false, Bool.false_and, Bool.and_self, Bool.or_true, Bool.true_or, Bool.or_false, Bool.false_or, Bool.not_true, Bool.not_false, cond_true, cond_false, bI_t, bI_f, Bool.false_eq_true, Bool.true_eq_false, dayC_1, dayC_21, dayC_221, dayC_222, mgF]; done) | (simp [*, mgF]; done) | with_reducible_and_instances rfl))) ) (sub_s (sub_s (sub_s (sub_n (sub_n (sub_n (sub_n sub_nil)))))))
          exact A_weak (L178 (256) (0) (_)  (by omega) (rfl) ) (sub_s (sub_s (sub_s (sub_n (sub_n (sub_n (sub_n sub_nil)))))))
        · skip
          have hib := up_ge_F (N := x.2.2.2.1) c37 rfl (by omega) (by omega)
          obtain ⟨n0b, rfl⟩ : ∃ q, nqb = q + 1 := ⟨nqb - 1, by omega⟩
          refine A_aload_n 41 dX10_mostGiven_40 rfl rfl rfl ?_
          refine A_iload_n 42 dX10_mostGiven_41 rfl rfl rfl ?_
          refine A_callVI 45 (S_X10_moreBy X l (by first | assumption | decide | omega | exact Ne.symm (by assumption)) (by first | assumption | decide | omega | exact Ne.symm (by assumption)) (by first | assumption | decide | omega | exact Ne.symm (by assumption))) dX10_mostGiven_42 rfl kX10_moreBy lk_X10_261 rfl O28 (by decide) rfl (Nat.le_of_ble_eq_true rfl) (fun v_1 h_1 qh_1 => ?_)
          obtain ⟨rfl, z1_1, n0h_1, ph_1, eh_1⟩ := qh_1
          replace O28 := n0h_1
          replace hf : ∀ i, i ≠ 28 → h_1 i = h i := fun i g0 => (eh_1 i g0).trans (hf i g0)
          obtain ⟨rd9, rm9, ry9, cd9, G, r49⟩ := z1_1
          have hg : ∀ j, j < 256 → G j = gO (foldN (svP x) own0 i) j := by
            have q := hyb
            rw [← ph_1] at q
            exact q
          refine A_istore_n 46 dX10_mostGiven_45 rfl rfl (by decide) (by first | exact (ast_s (ast_1 rfl)) | exact (ast_s ast_k)) ?_
          refine A_sipush 49 (255) dX10_mostGiven_46 rfl (by decide) ?_
          refine A_istore_n 50 dX10_mostGiven_49 rfl rfl (by decide) (by first | exact (ast_s (ast_s (ast_1 rfl))) | exact (ast_s (ast_s ast_k))) ?_
          have L50 : ∀ (k : Nat) (u : FI) (g50 : Hp) (rd0 : RD) (rm0 : RM) (ry0 : RY) (cd0 : FI) (r40 : FI × FI × Int32 × Int32), (k ≤ 255) → (downF (fun k => gvO (SP x (x.2.1 i)) (k + 1)) k (u) = downF (fun k => gvO (SP x (x.2.1 i)) (k + 1)) (255) (G)) → (g50 28 = some (rB x (-1) c (rd0, rm0, ry0, cd0, u, r40))) → (∀ i, i ≠ 28 → g50 i = h i) → Av X l mX10_mostGiven 50 [some (aR 28 0), some (aI (nI (i))), some (aI (SP x (x.2.1 i))), some (aI (nI (k))), none, none, none] [] g50 (QI (fun vr h2 => (MOW x) = vr ∧ ∃ (z1 : RZ), h2 (28) = some (rB x (-1) c z1) ∧ ∀ i, i ≠ 28 → h2 i = h i)) := by
            intro k
            induction k using Nat.strongRecOn with
            | _ k ihc =>
            intro u g50 rd0 rm0 ry0 cd0 r40 enc eec O28 hf
            refine A_iload_n 51 dX10_mostGiven_50 rfl rfl rfl ?_
            refine A_if_le 168 54 dX10_mostGiven_51 (by decide) rfl (fun c51 => ?_) (fun c51 => ?_)
            · skip
              obtain rfl := dl_T c51 (by omega)
              first | refine A_iincN 171 dX10_mostGiven_168 rfl rfl (by decide) (by first | exact (ast_1 rfl) | exact ast_k) ?_ | refine A_iinc 171 (1) dX10_mostGiven_168 rfl rfl (by decide) (by decide) (by first | exact (ast_1 rfl) | exact ast_k) ?_
              refine A_goto 32 dX10_mostGiven_171 (by decide) ?_
              exact A_weak (ihb n0b (Nat.lt_succ_self n0b) (i + 1)  g50 _ (by omega)  (by rw [foldN_s]; exact fun j hj => (congrFun (show u = _ from eec) j).trans (gv_step _ _ _ hg j hj)) O28 hf) (sub_s (sub_s (sub_n (sub_n (sub_n (sub_n (sub_n sub_nil)))))))
            · skip
              obtain ⟨k0, rfl⟩ := dl_F c51
              have hic : k0 < 255 := by omega
              refine A_iconst 55 (0) dX10_mostGiven_54 rfl (by decide) ?_
              refine A_istore 57 dX10_mostGiven_55 rfl (by decide) (by first | exact (ast_s (ast_s (ast_s (ast_1 rfl)))) | exact (ast_s (ast_s (ast_s ast_k)))) ?_
              have L57 : ∀ (nqf j : Nat) (w2 : FI) (g57 : Hp) (rd1 : RD) (rm1 : RM) (ry1 : RY) (cd1 : FI) (r41 : FI × FI × Int32 × Int32), (nqf + j = 8) → (foldN (gvI (SP x (x.2.1 i)) (k0 + 1)) (u) j = (w2)) → (g57 28 = some (rB x (-1) c (rd1, rm1, ry1, cd1, w2, r41))) → (∀ i, i ≠ 28 → g57 i = h i) → Av X l mX10_mostGiven 57 [some (aR 28 0), some (aI (nI (i))), some (aI (SP x (x.2.1 i))), some (aI (nI (k0 + 1))), some (aI (nI (j))), none, none] [] g57 (QI (fun vr h2 => (MOW x) = vr ∧ ∃ (z1 : RZ), h2 (28) = some (rB x (-1) c z1) ∧ ∀ i, i ≠ 28 → h2 i = h i)) := by
                intro nqf
                induction nqf using Nat.strongRecOn with
                | _ nqf ihf =>
                intro j w2 g57 rd1 rm1 ry1 cd1 r41 enf eef O28 hf
                refine A_iload 59 dX10_mostGiven_57 rfl rfl ?_
                refine A_bipush 61 (8) dX10_mostGiven_59 rfl (by decide) ?_
                refine A_icmp_ge 162 64 dX10_mostGiven_61 (by decide) rfl (fun c61 => ?_) (fun c61 => ?_)
                · skip
                  obtain rfl := (up_ge_T (N := 8) c61 rfl (by omega) (by omega)).symm
                  first | refine A_idecN 165 dX10_mostGiven_162 rfl rfl (by decide) (by first | exact (ast_s (ast_s (ast_1 rfl))) | exact (ast_s (ast_s ast_k))) ?_ | refine A_iinc 165 (-1) dX10_mostGiven_162 rfl rfl (by decide) (by decide) (by first | exact (ast_s (ast_s (ast_1 rfl))) | exact (ast_s (ast_s ast_k))) ?_
                  rw [dn_s]
                  refine A_goto 50 dX10_mostGiven_165 (by decide) ?_
                  exact A_weak (ihc k0 (Nat.lt_succ_self k0) _ g57 _ _ _ _ _ (by omega) (((congrArg (downF (fun k => gvO (SP x (x.2.1 i)) (k + 1)) k0) (by first | exact eef | exact eef.symm)).trans (downF_s _ _ _).symm).trans eec) O28 hf) (sub_s (sub_s (sub_s (sub_s (sub_n (sub_n (sub_n sub_nil)))))))
                · skip
                  have hif := up_ge_F (N := 8) c61 rfl (by omega) (by omega)
                  obtain ⟨n0f, rfl⟩ : ∃ q, nqf = q + 1 := ⟨nqf - 1, by omega⟩
                  refine A_iload_n 65 dX10_mostGiven_64 rfl rfl rfl ?_
                  refine A_iconst 66 (1) dX10_mostGiven_65 rfl (by decide) ?_
                  refine A_iload 68 dX10_mostGiven_66 rfl rfl ?_
                  refine A_ishl 69 dX10_mostGiven_68 rfl ?_
                  rw [sh_tb hif]
                  refine A_iconst 70 (-1) dX10_mostGiven_69 rfl (by decide) ?_
                  refine A_ixor 71 dX10_mostGiven_70 rfl ?_
                  refine A_iand 72 dX10_mostGiven_71 rfl ?_
                  rw [sh_clr (k0 + 1) (by omega) j (by omega)]
                  have hrr : rrN (k0 + 1) j < 256 := rrN_lt (by omega)
                  refine A_istore 74 dX10_mostGiven_72 rfl (by decide) (by first | exact (ast_s (ast_s (ast_s (ast_s (ast_1 rfl))))) | exact (ast_s (ast_s (ast_s (ast_s ast_k))))) ?_
                  refine A_iload_n 75 dX10_mostGiven_74 rfl rfl rfl ?_
                  refine A_iload 77 dX10_mostGiven_75 rfl rfl ?_
                  refine A_callSI 80 (S_X10_hasBit X l) dX10_mostGiven_77 rfl kX10_hasBit lk_X10_93 rfl (by decide) rfl (Nat.le_of_ble_eq_true rfl) (fun v_2 h_2 qh_2 => ?_)
                  obtain ⟨rfl, rfl⟩ := qh_2
                  refine A_if_eq 106 83 dX10_mostGiven_80 (by decide) rfl (fun c80 => ?_) (fun c80 => ?_)
                  · skip
                    try simp only [bI_0, bI_n0, Classical.not_not, Bool.not_eq_false, Bool.true_and, Bool.and_true, decide_eq_true_eq, decide_eq_false_iff_not, dayC_1, dayC_21, dayC_221, dayC_222, inI_1, inI_2, inI_3, inI_5, inI_11, inI_16] at c80
                    refine A_iconst 107 (0) dX10_mostGiven_106 rfl (by decide) ?_
                    refine A_istore 109 dX10_mostGiven_107 rfl (by decide) (by first | exact (ast_s (ast_s (ast_s (ast_s (ast_s (ast_1 rfl)))))) | exact (ast_s (ast_s (ast_s (ast_s (ast_s ast_k)))))) ?_
                    refine A_aload_n 110 dX10_mostGiven_109 rfl rfl rfl ?_
                    refine A_getfield 113 dX10_mostGiven_110 rfl f_X10_69 O28 rfl ?_
                    refine A_iload_n 114 dX10_mostGiven_113 rfl rfl rfl ?_
                    refine A_iload 116 dX10_mostGiven_114 rfl rfl ?_
                    refine A_if_eq 149 119 dX10_mostGiven_116 (by decide) rfl (fun c116 => ?_) (fun c116 => ?_)
                    · skip
                      refine A_aload_n 150 dX10_mostGiven_149 rfl rfl rfl ?_
                      refine A_getfield 153 dX10_mostGiven_150 rfl f_X10_69 O28 rfl ?_
                      refine A_iload_n 154 dX10_mostGiven_153 rfl rfl rfl ?_
                      refine A_iaload 155 dX10_mostGiven_154 rfl O28 rfl (by first | assumption | exact ix_nI (by omega) (by decide) | exact ix_lit _ rfl (by omega) (by decide) | exact ix_lit _ rfl (by decide) (by decide)) ?_
                      try dsimp only
                      refine T_X10_18 156 dX10_mostGiven_155 rfl O28 (by first | assumption | exact ix_nI (by omega) (by decide) | exact ix_lit _ rfl (by omega) (by decide) | exact ix_lit _ rfl (by decide) (by decide)) (fun h_3 nh_3 eh_3 => ?_)
                      replace O28 := nh_3
                      replace hf : ∀ i, i ≠ 28 → h_3 i = h i := fun i g0 => (eh_3 i g0).trans (hf i g0)
                      try dsimp only at O28
                      try rw [up_same] at O28
                      first | refine A_iincN 159 dX10_mostGiven_156 rfl rfl (by decide) (by first | exact (ast_s (ast_s (ast_s (ast_1 rfl)))) | exact (ast_s (ast_s (ast_s ast_k)))) ?_ | refine A_iinc 159 (1) dX10_mostGiven_156 rfl rfl (by decide) (by decide) (by first | exact (ast_s (ast_s (ast_s (ast_1 rfl)))) | exact (ast_s (ast_s (ast_s ast_k)))) ?_
                      refine A_goto 57 dX10_mostGiven_159 (by decide) ?_
                      exact A_weak (ihf n0f (Nat.lt_succ_self n0f) (j + 1) _ h_3 _ _ _ _ _ (by omega) ((foldN_s (gvI (SP x (x.2.1 i)) (k0 + 1)) (u) j).trans ((congrArg ((gvI (SP x (x.2.1 i)) (k0 + 1)) j) eef).trans (by first | with_reducible rfl | (simp only [c80, if_true, if_false, ite_true, ite_false, and_true, true_and, and_false, false_and, and_self, or_true, true_or, or_false, false_or, or_self, not_true_eq_false, not_false_eq_true, decide_true, decide_false, Bool.and_true, Bool.true_and, Bool.and_false, Bool.false_and, Bool.and_self, Bool.or_true, Bool.true_or, Bool.or_false, Bool.false_or, Bool.not_true, Bool.not_false, cond_true, cond_false, bI_t, bI_f, Bool.false_eq_true, Bool.true_eq_false, dayC_1, dayC_21, dayC_221, dayC_222, gvI]; done) | (simp [*, gvI]; done) | with_reducible_and_instances rfl))) O28 hf) (sub_s (sub_s (sub_s (sub_s (sub_s (sub_n (sub_n sub_nil)))))))
                    · skip
                      exact absurd c116 (by decide)
                  · skip
                    try simp only [bI_0, bI_n0, Classical.not_not, Bool.not_eq_false, Bool.true_and, Bool.and_true, decide_eq_true_eq, decide_eq_false_iff_not, dayC_1, dayC_21, dayC_221, dayC_222, inI_1, inI_2, inI_3, inI_5, inI_11, inI_16] at c80
                    refine A_iload_n 84 dX10_mostGiven_83 rfl rfl rfl ?_
                    refine A_iload 86 dX10_mostGiven_84 rfl rfl ?_
                    refine A_callSI 89 (S_X10_hasBit X l) dX10_mostGiven_86 rfl kX10_hasBit lk_X10_93 rfl (by decide) rfl (Nat.le_of_ble_eq_true rfl) (fun v_4 h_4 qh_4 => ?_)
                    obtain ⟨rfl, rfl⟩ := qh_4
                    refine A_if_eq 106 92 dX10_mostGiven_89 (by decide) rfl (fun c89 => ?_) (fun c89 => ?_)
                    · skip
                      try simp only [bI_0, bI_n0, Classical.not_not, Bool.not_eq_false, Bool.true_and, Bool.and_true, decide_eq_true_eq, decide_eq_false_iff_not, dayC_1, dayC_21, dayC_221, dayC_222, inI_1, inI_2, inI_3, inI_5, inI_11, inI_16] at c89
                      refine A_iconst 107 (0) dX10_mostGiven_106 rfl (by decide) ?_
                      refine A_istore 109 dX10_mostGiven_107 rfl (by decide) (by first | exact (ast_s (ast_s (ast_s (ast_s (ast_s (ast_1 rfl)))))) | exact (ast_s (ast_s (ast_s (ast_s (ast_s ast_k)))))) ?_
                      refine A_aload_n 110 dX10_mostGiven_109 rfl rfl rfl ?_
                      refine A_getfield 113 dX10_mostGiven_110 rfl f_X10_69 O28 rfl ?_
                      refine A_iload_n 114 dX10_mostGiven_113 rfl rfl rfl ?_
                      refine A_iload 116 dX10_mostGiven_114 rfl rfl ?_
                      refine A_if_eq 149 119 dX10_mostGiven_116 (by decide) rfl (fun c116 => ?_) (fun c116 => ?_)
                      · skip
                        refine A_aload_n 150 dX10_mostGiven_149 rfl rfl rfl ?_
                        refine A_getfield 153 dX10_mostGiven_150 rfl f_X10_69 O28 rfl ?_
                        refine A_iload_n 154 dX10_mostGiven_153 rfl rfl rfl ?_
                        refine A_iaload 155 dX10_mostGiven_154 rfl O28 rfl (by first | assumption | exact ix_nI (by omega) (by decide) | exact ix_lit _ rfl (by omega) (by decide) | exact ix_lit _ rfl (by decide) (by decide)) ?_
                        try dsimp only
                        refine T_X10_18 156 dX10_mostGiven_155 rfl O28 (by first | assumption | exact ix_nI (by omega) (by decide) | exact ix_lit _ rfl (by omega) (by decide) | exact ix_lit _ rfl (by decide) (by decide)) (fun h_5 nh_5 eh_5 => ?_)
                        replace O28 := nh_5
                        replace hf : ∀ i, i ≠ 28 → h_5 i = h i := fun i g0 => (eh_5 i g0).trans (hf i g0)
                        try dsimp only at O28
                        try rw [up_same] at O28
                        first | refine A_iincN 159 dX10_mostGiven_156 rfl rfl (by decide) (by first | exact (ast_s (ast_s (ast_s (ast_1 rfl)))) | exact (ast_s (ast_s (ast_s ast_k)))) ?_ | refine A_iinc 159 (1) dX10_mostGiven_156 rfl rfl (by decide) (by decide) (by first | exact (ast_s (ast_s (ast_s (ast_1 rfl)))) | exact (ast_s (ast_s (ast_s ast_k)))) ?_
                        refine A_goto 57 dX10_mostGiven_159 (by decide) ?_
                        exact A_weak (ihf n0f (Nat.lt_succ_self n0f) (j + 1) _ h_5 _ _ _ _ _ (by omega) ((foldN_s (gvI (SP x (x.2.1 i)) (k0 + 1)) (u) j).trans ((congrArg ((gvI (SP x (x.2.1 i)) (k0 + 1)) j) eef).trans (by first | with_reducible rfl | (simp only [c80, c89, if_true, if_false, ite_true, ite_false, and_true, true_and, and_false, false_and, and_self, or_true, true_or, or_false, false_or, or_self, not_true_eq_false, not_false_eq_true, decide_true, decide_false, Bool.and_true, Bool.true_and, Bool.and_false, Bool.false_and, Bool.and_self, Bool.or_true, Bool.true_or, Bool.or_false, Bool.false_or, Bool.not_true, Bool.not_false, cond_true, cond_false, bI_t, bI_f, Bool.false_eq_true, Bool.true_eq_false, dayC_1, dayC_21, dayC_221, dayC_222, gvI]; done) | (simp [*, gvI]; done) | with_reducible_and_instances rfl))) O28 hf) (sub_s (sub_s (sub_s (sub_s (sub_s (sub_n (sub_n sub_nil)))))))
                      · skip
                        exact absurd c116 (by decide)
                    · skip
                      try simp only [bI_0, bI_n0, Classical.not_not, Bool.not_eq_false, Bool.true_and, Bool.and_true, decide_eq_true_eq, decide_eq_false_iff_not, dayC_1, dayC_21, dayC_221, dayC_222, inI_1, inI_2, inI_3, inI_5, inI_11, inI_16] at c89
                      refine A_aload_n 93 dX10_mostGiven_92 rfl rfl rfl ?_
                      refine A_getfield 96 dX10_mostGiven_93 rfl f_X10_69 O28 rfl ?_
                      refine A_iload 98 dX10_mostGiven_96 rfl rfl ?_
                      refine A_iaload 99 dX10_mostGiven_98 rfl O28 rfl (by first | assumption | exact ix_nI (by omega) (by decide) | exact ix_lit _ rfl (by omega) (by decide) | exact ix_lit _ rfl (by decide) (by decide)) ?_
                      try dsimp only
                      refine A_if_lt 106 102 dX10_mostGiven_99 (by decide) rfl (fun c99 => ?_) (fun c99 => ?_)
                      · skip
                        try simp only [bI_0, bI_n0, Classical.not_not, Bool.not_eq_false, Bool.true_and, Bool.and_true, decide_eq_true_eq, decide_eq_false_iff_not, dayC_1, dayC_21, dayC_221, dayC_222, inI_1, inI_2, inI_3, inI_5, inI_11, inI_16] at c99
                        have n99 := Int32.not_le.mpr c99
                        refine A_iconst 107 (0) dX10_mostGiven_106 rfl (by decide) ?_
                        refine A_istore 109 dX10_mostGiven_107 rfl (by decide) (by first | exact (ast_s (ast_s (ast_s (ast_s (ast_s (ast_1 rfl)))))) | exact (ast_s (ast_s (ast_s (ast_s (ast_s ast_k)))))) ?_
                        refine A_aload_n 110 dX10_mostGiven_109 rfl rfl rfl ?_
                        refine A_getfield 113 dX10_mostGiven_110 rfl f_X10_69 O28 rfl ?_
                        refine A_iload_n 114 dX10_mostGiven_113 rfl rfl rfl ?_
                        refine A_iload 116 dX10_mostGiven_114 rfl rfl ?_
                        refine A_if_eq 149 119 dX10_mostGiven_116 (by decide) rfl (fun c116 => ?_) (fun c116 => ?_)
                        · skip
                          refine A_aload_n 150 dX10_mostGiven_149 rfl rfl rfl ?_
                          refine A_getfield 153 dX10_mostGiven_150 rfl f_X10_69 O28 rfl ?_
                          refine A_iload_n 154 dX10_mostGiven_153 rfl rfl rfl ?_
                          refine A_iaload 155 dX10_mostGiven_154 rfl O28 rfl (by first | assumption | exact ix_nI (by omega) (by decide) | exact ix_lit _ rfl (by omega) (by decide) | exact ix_lit _ rfl (by decide) (by decide)) ?_
                          try dsimp only
                          refine T_X10_18 156 dX10_mostGiven_155 rfl O28 (by first | assumption | exact ix_nI (by omega) (by decide) | exact ix_lit _ rfl (by omega) (by decide) | exact ix_lit _ rfl (by decide) (by decide)) (fun h_6 nh_6 eh_6 => ?_)
                          replace O28 := nh_6
                          replace hf : ∀ i, i ≠ 28 → h_6 i = h i := fun i g0 => (eh_6 i g0).trans (hf i g0)
                          try dsimp only at O28
                          try rw [up_same] at O28
                          first | refine A_iincN 159 dX10_mostGiven_156 rfl rfl (by decide) (by first | exact (ast_s (ast_s (ast_s (ast_1 rfl)))) | exact (ast_s (ast_s (ast_s ast_k)))) ?_ | refine A_iinc 159 (1) dX10_mostGiven_156 rfl rfl (by decide) (by decide) (by first | exact (ast_s (ast_s (ast_s (ast_1 rfl)))) | exact (ast_s (ast_s (ast_s ast_k)))) ?_
                          refine A_goto 57 dX10_mostGiven_159 (by decide) ?_
                          exact A_weak (ihf n0f (Nat.lt_succ_self n0f) (j + 1) _ h_6 _ _ _ _ _ (by omega) ((foldN_s (gvI (SP x (x.2.1 i)) (k0 + 1)) (u) j).trans ((congrArg ((gvI (SP x (x.2.1 i)) (k0 + 1)) j) eef).trans (by first | with_reducible rfl | (simp only [c80, c89, c99, n99, if_true, if_false, ite_true, ite_false, and_true, true_and, and_false, false_and, and_self, or_true, true_or, or_false, false_or, or_self, not_true_eq_false, not_false_eq_true, decide_true, decide_false, Bool.and_true, Bool.true_and, Bool.and_false, Bool.false_and, Bool.and_self, Bool.or_true, Bool.true_or, Bool.or_false, Bool.false_or, Bool.not_true, Bool.not_false, cond_true, cond_false, bI_t, bI_f, Bool.false_eq_true, Bool.true_eq_false, dayC_1, dayC_21, dayC_221, dayC_222, gvI]; done) | (simp [*, gvI]; done) | with_reducible_and_instances rfl))) O28 hf) (sub_s (sub_s (sub_s (sub_s (sub_s (sub_n (sub_n sub_nil)))))))
                        · skip
                          exact absurd c116 (by decide)
                      · skip
                        try simp only [bI_0, bI_n0, Classical.not_not, Bool.not_eq_false, Bool.true_and, Bool.and_true, decide_eq_true_eq, decide_eq_false_iff_not, dayC_1, dayC_21, dayC_221, dayC_222, inI_1, inI_2, inI_3, inI_5, inI_11, inI_16] at c99
                        have n99 := Int32.not_lt.mp c99
                        refine A_iconst 103 (1) dX10_mostGiven_102 rfl (by decide) ?_
                        refine A_goto 107 dX10_mostGiven_103 (by decide) ?_
                        refine A_istore 109 dX10_mostGiven_107 rfl (by decide) (by first | exact (ast_s (ast_s (ast_s (ast_s (ast_s (ast_1 rfl)))))) | exact (ast_s (ast_s (ast_s (ast_s (ast_s ast_k)))))) ?_
                        refine A_aload_n 110 dX10_mostGiven_109 rfl rfl rfl ?_
                        refine A_getfield 113 dX10_mostGiven_110 rfl f_X10_69 O28 rfl ?_
                        refine A_iload_n 114 dX10_mostGiven_113 rfl rfl rfl ?_
                        refine A_iload 116 dX10_mostGiven_114 rfl rfl ?_
                        refine A_if_eq 149 119 dX10_mostGiven_116 (by decide) rfl (fun c116 => ?_) (fun c116 => ?_)
                        · skip
                          exact absurd c116 (by decide)
                        · skip
                          refine A_aload_n 120 dX10_mostGiven_119 rfl rfl rfl ?_
                          refine A_getfield 123 dX10_mostGiven_120 rfl f_X10_69 O28 rfl ?_
                          refine A_iload 125 dX10_mostGiven_123 rfl rfl ?_
                          refine A_iaload 126 dX10_mostGiven_125 rfl O28 rfl (by first | assumption | exact ix_nI (by omega) (by decide) | exact ix_lit _ rfl (by omega) (by decide) | exact ix_lit _ rfl (by decide) (by decide)) ?_
                          try dsimp only
                          refine A_iconst 127 (1) dX10_mostGiven_126 rfl (by decide) ?_
                          refine A_iadd 128 dX10_mostGiven_127 rfl ?_
                          refine A_aload_n 129 dX10_mostGiven_128 rfl rfl rfl ?_
                          refine A_getfield 132 dX10_mostGiven_129 rfl f_X10_69 O28 rfl ?_
                          refine A_iload_n 133 dX10_mostGiven_132 rfl rfl rfl ?_
                          refine A_iaload 134 dX10_mostGiven_133 rfl O28 rfl (by first | assumption | exact ix_nI (by omega) (by decide) | exact ix_lit _ rfl (by omega) (by decide) | exact ix_lit _ rfl (by decide) (by decide)) ?_
                          try dsimp only
                          refine A_icmp_le 149 137 dX10_mostGiven_134 (by decide) rfl (fun c134 => ?_) (fun c134 => ?_)
                          · skip
                            try simp only [bI_0, bI_n0, Classical.not_not, Bool.not_eq_false, Bool.true_and, Bool.and_true, decide_eq_true_eq, decide_eq_false_iff_not, dayC_1, dayC_21, dayC_221, dayC_222, inI_1, inI_2, inI_3, inI_5, inI_11, inI_16] at c134
                            have n134 := c134
                            replace c134 := Int32.not_lt.mpr c134
                            refine A_aload_n 150 dX10_mostGiven_149 rfl rfl rfl ?_
                            refine A_getfield 153 dX10_mostGiven_150 rfl f_X10_69 O28 rfl ?_
                            refine A_iload_n 154 dX10_mostGiven_153 rfl rfl rfl ?_
                            refine A_iaload 155 dX10_mostGiven_154 rfl O28 rfl (by first | assumption | exact ix_nI (by omega) (by decide) | exact ix_lit _ rfl (by omega) (by decide) | exact ix_lit _ rfl (by decide) (by decide)) ?_
                            try dsimp only
                            refine T_X10_18 156 dX10_mostGiven_155 rfl O28 (by first | assumption | exact ix_nI (by omega) (by decide) | exact ix_lit _ rfl (by omega) (by decide) | exact ix_lit _ rfl (by decide) (by decide)) (fun h_7 nh_7 eh_7 => ?_)
                            replace O28 := nh_7
                            replace hf : ∀ i, i ≠ 28 → h_7 i = h i := fun i g0 => (eh_7 i g0).trans (hf i g0)
                            try dsimp only at O28
                            try rw [up_same] at O28
                            first | refine A_iincN 159 dX10_mostGiven_156 rfl rfl (by decide) (by first | exact (ast_s (ast_s (ast_s (ast_1 rfl)))) | exact (ast_s (ast_s (ast_s ast_k)))) ?_ | refine A_iinc 159 (1) dX10_mostGiven_156 rfl rfl (by decide) (by decide) (by first | exact (ast_s (ast_s (ast_s (ast_1 rfl)))) | exact (ast_s (ast_s (ast_s ast_k)))) ?_
                            refine A_goto 57 dX10_mostGiven_159 (by decide) ?_
                            exact A_weak (ihf n0f (Nat.lt_succ_self n0f) (j + 1) _ h_7 _ _ _ _ _ (by omega) ((foldN_s (gvI (SP x (x.2.1 i)) (k0 + 1)) (u) j).trans ((congrArg ((gvI (SP x (x.2.1 i)) (k0 + 1)) j) eef).trans (by first | with_reducible rfl | (simp only [c80, c89, c99, n99, c134, n134, if_true, if_false, ite_true, ite_false, and_true, true_and, and_false, false_and, and_self, or_true, true_or, or_false, false_or, or_self, not_true_eq_false, not_false_eq_true, decide_true, decide_false, Bool.and_true, Bool.true_and, Bool.and_false, Bool.false_and, Bool.and_self, Bool.or_true, Bool.true_or, Bool.or_false, Bool.false_or, Bool.not_true, Bool.not_false, cond_true, cond_false, bI_t, bI_f, Bool.false_eq_true, Bool.true_eq_false, dayC_1, dayC_21, dayC_221, dayC_222, gvI]; done) | (simp [*, gvI]; done) | with_reducible_and_instances rfl))) O28 hf) (sub_s (sub_s (sub_s (sub_s (sub_s (sub_n (sub_n sub_nil)))))))
                          · skip
                            try simp only [bI_0, bI_n0, Classical.not_not, Bool.not_eq_false, Bool.true_and, Bool.and_true, decide_eq_true_eq, decide_eq_false_iff_not, dayC_1, dayC_21, dayC_221, dayC_222, inI_1, inI_2, inI_3, inI_5, inI_11, inI_16] at c134
                            have n134 := c134
                            replace c134 := Int32.not_le.mp c134
                            refine A_aload_n 138 dX10_mostGiven_137 rfl rfl rfl ?_
                            refine A_getfield 141 dX10_mostGiven_138 rfl f_X10_69 O28 rfl ?_
                            refine A_iload 143 dX10_mostGiven_141 rfl rfl ?_
                            refine A_iaload 144 dX10_mostGiven_143 rfl O28 rfl (by first | assumption | exact ix_nI (by omega) (by decide) | exact ix_lit _ rfl (by omega) (by decide) | exact ix_lit _ rfl (by decide) (by decide)) ?_
                            try dsimp only
                            refine A_iconst 145 (1) dX10_mostGiven_144 rfl (by decide) ?_
                            refine A_iadd 146 dX10_mostGiven_145 rfl ?_
                            refine A_goto 155 dX10_mostGiven_146 (by decide) ?_
                            refine T_X10_18 156 dX10_mostGiven_155 rfl O28 (by first | assumption | exact ix_nI (by omega) (by decide) | exact ix_lit _ rfl (by omega) (by decide) | exact ix_lit _ rfl (by decide) (by decide)) (fun h_8 nh_8 eh_8 => ?_)
                            replace O28 := nh_8
                            replace hf : ∀ i, i ≠ 28 → h_8 i = h i := fun i g0 => (eh_8 i g0).trans (hf i g0)
                            try dsimp only at O28
                            try rw [up_same] at O28
                            first | refine A_iincN 159 dX10_mostGiven_156 rfl rfl (by decide) (by first | exact (ast_s (ast_s (ast_s (ast_1 rfl)))) | exact (ast_s (ast_s (ast_s ast_k)))) ?_ | refine A_iinc 159 (1) dX10_mostGiven_156 rfl rfl (by decide) (by decide) (by first | exact (ast_s (ast_s (ast_s (ast_1 rfl)))) | exact (ast_s (ast_s (ast_s ast_k)))) ?_
                            refine A_goto 57 dX10_mostGiven_159 (by decide) ?_
                            exact A_weak (ihf n0f (Nat.lt_succ_self n0f) (j + 1) _ h_8 _ _ _ _ _ (by omega) ((foldN_s (gvI (SP x (x.2.1 i)) (k0 + 1)) (u) j).trans ((congrArg ((gvI (SP x (x.2.1 i)) (k0 + 1)) j) eef).trans (by first | with_reducible rfl | (simp only [c80, c89, c99, n99, c134, n134, if_true, if_false, ite_true, ite_false, and_true, true_and, and_false, false_and, and_self, or_true, true_or, or_false, false_or, or_self, not_true_eq_false, not_false_eq_true, decide_true, decide_false, Bool.and_true, Bool.true_and, Bool.and_false, Bool.false_and, Bool.and_self, Bool.or_true, Bool.true_or, Bool.or_false, Bool.false_or, Bool.not_true, Bool.not_false, cond_true, cond_false, bI_t, bI_f, Bool.false_eq_true, Bool.true_eq_false, dayC_1, dayC_21, dayC_221, dayC_222, gvI]; done) | (simp [*, gvI]; done) | with_reducible_and_instances rfl))) O28 hf) (sub_s (sub_s (sub_s (sub_s (sub_s (sub_n (sub_n sub_nil)))))))
              exact A_weak (L57 (8) (0) (_) g50 (_) (_) (_) (_) (_) (by omega) (rfl) O28 hf) (sub_s (sub_s (sub_s (sub_s (sub_s (sub_n (sub_n sub_nil)))))))
          rw [show (255 : Int32) = nI 255 from rfl]
          exact A_weak (L50 (255) (_) h_1 (_) (_) (_) (_) (_) (by omega) (rfl) O28 hf) (sub_s (sub_s (sub_s (sub_s (sub_n (sub_n (sub_n sub_nil)))))))
      exact A_weak (L32 (x.2.2.2.1) (0)  g2 (_) (by omega)  (fun j hj => (hG j hj).trans (gv0_own j hj)) O28 hf) (sub_s (sub_s (sub_n (sub_n (sub_n (sub_n (sub_n sub_nil)))))))
    · skip
      have hi := up_ge_F (N := 256) c6 rfl (by omega) (by omega)
      obtain ⟨n0, rfl⟩ : ∃ q, nq = q + 1 := ⟨nq - 1, by omega⟩
      refine A_aload_n 10 dX10_mostGiven_9 rfl rfl rfl ?_
      refine A_getfield 13 dX10_mostGiven_10 rfl f_X10_69 O28 rfl ?_
      refine A_iload_n 14 dX10_mostGiven_13 rfl rfl rfl ?_
      refine A_iload_n 15 dX10_mostGiven_14 rfl rfl rfl ?_
      refine A_if_ne 22 18 dX10_mostGiven_15 (by decide) rfl (fun c15 => ?_) (fun c15 => ?_)
      · skip
        try simp only [bI_0, bI_n0, Classical.not_not, Bool.not_eq_false, Bool.true_and, Bool.and_true, decide_eq_true_eq, decide_eq_false_iff_not, dayC_1, dayC_21, dayC_221, dayC_222, inI_1, inI_2, inI_3, inI_5, inI_11, inI_16] at c15
        have q0 : ¬ i = 0 := fun e => c15 (by rw [e]; rfl)
        refine A_iconst 23 (-1) dX10_mostGiven_22 rfl (by decide) ?_
        refine T_X10_18 24 dX10_mostGiven_23 rfl O28 (by first | assumption | exact ix_nI (by omega) (by decide) | exact ix_lit _ rfl (by omega) (by decide) | exact ix_lit _ rfl (by decide) (by decide)) (fun h_9 nh_9 eh_9 => ?_)
        replace O28 := nh_9
        replace hf : ∀ i, i ≠ 28 → h_9 i = h i := fun i g0 => (eh_9 i g0).trans (hf i g0)
        try dsimp only at O28
        first | refine A_iincN 27 dX10_mostGiven_24 rfl rfl (by decide) (by first | exact (ast_1 rfl) | exact ast_k) ?_ | refine A_iinc 27 (1) dX10_mostGiven_24 rfl rfl (by decide) (by decide) (by first | exact (ast_1 rfl) | exact ast_k) ?_
        refine A_goto 2 dX10_mostGiven_27 (by decide) ?_
        exact A_weak (ih n0 (Nat.lt_succ_self n0) (i + 1)  h_9 _ (by omega)  (by first | exact up_eq (D := gv0) hy (if_pos q0).symm | exact up_eq (D := gv0) hy (if_neg q0).symm) O28 hf) (sub_s (sub_s (sub_n (sub_n (sub_n (sub_n (sub_n sub_nil)))))))
      · skip
        try simp only [bI_0, bI_n0, Classical.not_not, Bool.not_eq_false, Bool.true_and, Bool.and_true, decide_eq_true_eq, decide_eq_false_iff_not, dayC_1, dayC_21, dayC_221, dayC_222, inI_1, inI_2, inI_3, inI_5, inI_11, inI_16] at c15
        have q0 : i = 0 := (ninj (a := i) (b := 0) (by omega) (by decide)).mp c15
        refine A_iconst 19 (0) dX10_mostGiven_18 rfl (by decide) ?_
        refine A_goto 23 dX10_mostGiven_19 (by decide) ?_
        refine T_X10_18 24 dX10_mostGiven_23 rfl O28 (by first | assumption | exact ix_nI (by omega) (by decide) | exact ix_lit _ rfl (by omega) (by decide) | exact ix_lit _ rfl (by decide) (by decide)) (fun h_10 nh_10 eh_10 => ?_)
        replace O28 := nh_10
        replace hf : ∀ i, i ≠ 28 → h_10 i = h i := fun i g0 => (eh_10 i g0).trans (hf i g0)
        try dsimp only at O28
        first | refine A_iincN 27 dX10_mostGiven_24 rfl rfl (by decide) (by first | exact (ast_1 rfl) | exact ast_k) ?_ | refine A_iinc 27 (1) dX10_mostGiven_24 rfl rfl (by decide) (by decide) (by first | exact (ast_1 rfl) | exact ast_k) ?_
        refine A_goto 2 dX10_mostGiven_27 (by decide) ?_
        exact A_weak (ih n0 (Nat.lt_succ_self n0) (i + 1)  h_10 _ (by omega)  (by first | exact up_eq (D := gv0) hy (if_pos q0).symm | exact up_eq (D := gv0) hy (if_neg q0).symm) O28 hf) (sub_s (sub_s (sub_n (sub_n (sub_n (sub_n (sub_n sub_nil)))))))
  exact A_weak (L2 (256) (0)  h (_) (by omega)  (fun j hj => absurd hj (Nat.not_lt_zero j)) O28 hf) (sub_s (sub_s (sub_n (sub_n (sub_n (sub_n (sub_n sub_nil)))))))
set_option maxHeartbeats 4000000 in
set_option maxRecDepth 100000 in
theorem S_X10_tray (X : En) (l : Launch) {h : Hp} {x : PW} {c : RC} {z : RZ} (O28 : h 28 = some (rB x (-1) c z)) (hW : WOK x)  {v : Int32} : Ct X l mX10_tray [aR 28 0, aI v] h (QI (fun vr h2 => (rV (w01 v) (aTray x v (MOW x))) = vr ∧ ∃ (z1 : RZ), h2 (28) = some (rB x (-1) (rS (w01 v) c.1, c.2) z1) ∧ ∀ i, i ≠ 28 → h2 i = h i)) := by
  have hx := hW.1
  have hp := hW.2.1
  have h10 := hx.1
  have hf : ∀ i, i ≠ 28 → h i = h i := fun _ _ => rfl
  refine Ct.intro [some (aR 28 0), some (aI v)] (by decide +kernel) rfl (Nat.le_of_ble_eq_true rfl) ?_
  refine A_aload_n 1 dX10_tray_0 rfl rfl rfl ?_
  refine A_iconst 2 (0) dX10_tray_1 rfl (by decide) ?_
  refine P_X10_9 5 dX10_tray_2 rfl fw_X10_78 O28 (fun h_1 nh_1 eh_1 => ?_)
  replace O28 := nh_1
  replace hf : ∀ i, i ≠ 28 → h_1 i = h i := fun i g0 => (eh_1 i g0).trans (hf i g0)
  try dsimp only at O28
  refine A_iload_n 6 dX10_tray_5 rfl rfl rfl ?_
  refine A_i2l 7 dX10_tray_6 rfl ?_
  refine A_lconst 8 (0) dX10_tray_7 rfl (by decide) ?_
  refine A_lconst 9 (1) dX10_tray_8 rfl (by decide) ?_
  refine A_callSI 12 (S_X10_in X l) dX10_tray_9 rfl kX10_in lk_X10_84 rfl (by decide) rfl (Nat.le_of_ble_eq_true rfl) (fun v_2 h_2 qh_2 => ?_)
  obtain ⟨rfl, rfl⟩ := qh_2
  refine A_if_ne 22 15 dX10_tray_12 (by decide) rfl (fun c12 => ?_) (fun c12 => ?_)
  · skip
    try simp only [bI_0, bI_n0, Classical.not_not, Bool.not_eq_false, Bool.true_and, Bool.and_true, decide_eq_true_eq, decide_eq_false_iff_not, dayC_1, dayC_21, dayC_221, dayC_222, inI_1, inI_2, inI_3, inI_5, inI_11, inI_16] at c12
    refine A_iload_n 23 dX10_tray_22 rfl rfl rfl ?_
    refine A_if_ne 33 26 dX10_tray_23 (by decide) rfl (fun c23 => ?_) (fun c23 => ?_)
    · skip
      try simp only [bI_0, bI_n0, Classical.not_not, Bool.not_eq_false, Bool.true_and, Bool.and_true, decide_eq_true_eq, decide_eq_false_iff_not, dayC_1, dayC_21, dayC_221, dayC_222, inI_1, inI_2, inI_3, inI_5, inI_11, inI_16] at c23
      refine A_aload_n 34 dX10_tray_33 rfl rfl rfl ?_
      refine A_callVI 37 (S_X10_mostGiven X l (by first | assumption | decide | omega | exact Ne.symm (by assumption)) (by first | assumption | decide | omega | exact Ne.symm (by assumption))) dX10_tray_34 rfl kX10_mostGiven lk_X10_264 rfl O28 (by decide) rfl (Nat.le_of_ble_eq_true rfl) (fun v_3 h_3 qh_3 => ?_)
      obtain ⟨rfl, z1_3, n0h_3, eh_3⟩ := qh_3
      replace O28 := n0h_3
      replace hf : ∀ i, i ≠ 28 → h_3 i = h i := fun i g0 => (eh_3 i g0).trans (hf i g0)
      have ew : w01 v = 0 := by
        first | (simp only [c12, c23, if_true, if_false, ite_true, ite_false, and_true, true_and, and_false, false_and, and_self, or_true, true_or, or_false, false_or, or_self, not_true_eq_false, not_false_eq_true, decide_true, decide_false, Bool.and_true, Bool.true_and, Bool.and_false, Bool.false_and, Bool.and_self, Bool.or_true, Bool.true_or, Bool.or_false, Bool.false_or, Bool.not_true, Bool.not_false, cond_true, cond_false, bI_t, bI_f, Bool.false_eq_true, Bool.true_eq_false, dayC_1, dayC_21, dayC_221, dayC_222, w01, wP, wPL, wP01, wL01, wRow, w01R, wAB, wNum, isP, isL]; done) | exact cl_f
      refine A_iret dX10_tray_37 rfl ⟨_, rfl, (by rw [ew, rV_0]; first | (simp only [c12, c23, if_true, if_false, ite_true, ite_false, and_true, true_and, and_false, false_and, and_self, or_true, true_or, or_false, false_or, or_self, not_true_eq_false, not_false_eq_true, decide_true, decide_false, Bool.and_true, Bool.true_and, Bool.and_false, Bool.false_and, Bool.and_self, Bool.or_true, Bool.true_or, Bool.or_false, Bool.false_or, Bool.not_true, Bool.not_false, cond_true, cond_false, bI_t, bI_f, Bool.false_eq_true, Bool.true_eq_false, dayC_1, dayC_21, dayC_221, dayC_222, aTray, pk]; done) | (simp [aTray, pk, *]; done)), _, (by rw [ew]; first | (rw [rS_0]; exact O28) | exact O28), hf⟩
    · skip
      try simp only [bI_0, bI_n0, Classical.not_not, Bool.not_eq_false, Bool.true_and, Bool.and_true, decide_eq_true_eq, decide_eq_false_iff_not, dayC_1, dayC_21, dayC_221, dayC_222, inI_1, inI_2, inI_3, inI_5, inI_11, inI_16] at c23
      refine A_aload_n 27 dX10_tray_26 rfl rfl rfl ?_
      refine A_getfield 30 dX10_tray_27 rfl f_X10_97 O28 rfl ?_
      try dsimp only
      refine A_goto 37 dX10_tray_30 (by decide) ?_
      have ew : w01 v = 0 := by
        first | (simp only [c12, c23, if_true, if_false, ite_true, ite_false, and_true, true_and, and_false, false_and, and_self, or_true, true_or, or_false, false_or, or_self, not_true_eq_false, not_false_eq_true, decide_true, decide_false, Bool.and_true, Bool.true_and, Bool.and_false, Bool.false_and, Bool.and_self, Bool.or_true, Bool.true_or, Bool.or_false, Bool.false_or, Bool.not_true, Bool.not_false, cond_true, cond_false, bI_t, bI_f, Bool.false_eq_true, Bool.true_eq_false, dayC_1, dayC_21, dayC_221, dayC_222, w01, wP, wPL, wP01, wL01, wRow, w01R, wAB, wNum, isP, isL]; done) | (simp only [c12, eq_true c23, if_true, if_false, ite_true, ite_false, and_true, true_and, and_false, false_and, and_self, or_true, true_or, or_false, false_or, or_self, not_true_eq_false, not_false_eq_true, decide_true, decide_false, Bool.and_true, Bool.true_and, Bool.and_false, Bool.false_and, Bool.and_self, Bool.or_true, Bool.true_or, Bool.or_false, Bool.false_or, Bool.not_true, Bool.not_false, cond_true, cond_false, bI_t, bI_f, Bool.false_eq_true, Bool.true_eq_false, dayC_1, dayC_21, dayC_221, dayC_222, w01, wP, wPL, wP01, wL01, wRow, w01R, wAB, wNum, isP, isL]; done) | exact cl_f
      refine A_iret dX10_tray_37 rfl ⟨_, rfl, (by rw [ew, rV_0]; first | (simp only [c12, c23, if_true, if_false, ite_true, ite_false, and_true, true_and, and_false, false_and, and_self, or_true, true_or, or_false, false_or, or_self, not_true_eq_false, not_false_eq_true, decide_true, decide_false, Bool.and_true, Bool.true_and, Bool.and_false, Bool.false_and, Bool.and_self, Bool.or_true, Bool.true_or, Bool.or_false, Bool.false_or, Bool.not_true, Bool.not_false, cond_true, cond_false, bI_t, bI_f, Bool.false_eq_true, Bool.true_eq_false, dayC_1, dayC_21, dayC_221, dayC_222, aTray, pk]; done) | (simp only [c12, eq_true c23, if_true, if_false, ite_true, ite_false, and_true, true_and, and_false, false_and, and_self, or_true, true_or, or_false, false_or, or_self, not_true_eq_false, not_false_eq_true, decide_true, decide_false, Bool.and_true, Bool.true_and, Bool.and_false, Bool.false_and, Bool.and_self, Bool.or_true, Bool.true_or, Bool.or_false, Bool.false_or, Bool.not_true, Bool.not_false, cond_true, cond_false, bI_t, bI_f, Bool.false_eq_true, Bool.true_eq_false, dayC_1, dayC_21, dayC_221, dayC_222, aTray, pk]; done) | (simp [aTray, pk, *]; done)), _, (by rw [ew]; first | (rw [rS_0]; exact O28) | exact O28), hf⟩
  · skip
    try simp only [bI_0, bI_n0, Classical.not_not, Bool.not_eq_false, Bool.true_and, Bool.and_true, decide_eq_true_eq, decide_eq_false_iff_not, dayC_1, dayC_21, dayC_221, dayC_222, inI_1, inI_2, inI_3, inI_5, inI_11, inI_16] at c12
    refine A_aload_n 16 dX10_tray_15 rfl rfl rfl ?_
    refine A_bipush 18 (-2) dX10_tray_16 rfl (by decide) ?_
    refine A_callVI 21 (S_X10_refuse_c X l (by first | assumption | decide | omega | exact Ne.symm (by assumption)) (by first | assumption | (unfold CD; decide))) dX10_tray_18 rfl kX10_refuse lk_X10_121 rfl O28 (by decide) rfl (Nat.le_of_ble_eq_true rfl) (fun v_4 h_4 qh_4 => ?_)
    obtain ⟨rfl, n0h_4, eh_4⟩ := qh_4
    replace O28 := n0h_4
    replace hf : ∀ i, i ≠ 28 → h_4 i = h i := fun i g0 => (eh_4 i g0).trans (hf i g0)
    have ew : w01 v = -2 := by
      first | (simp only [c12, if_true, if_false, ite_true, ite_false, and_true, true_and, and_false, false_and, and_self, or_true, true_or, or_false, false_or, or_self, not_true_eq_false, not_false_eq_true, decide_true, decide_false, Bool.and_true, Bool.true_and, Bool.and_false, Bool.false_and, Bool.and_self, Bool.or_true, Bool.true_or, Bool.or_false, Bool.false_or, Bool.not_true, Bool.not_false, cond_true, cond_false, bI_t, bI_f, Bool.false_eq_true, Bool.true_eq_false, dayC_1, dayC_21, dayC_221, dayC_222, w01, wP, wPL, wP01, wL01, wRow, w01R, wAB, wNum, isP, isL]; done) | exact cl_f
    refine A_iret dX10_tray_21 rfl ⟨_, rfl, (by rw [ew]; exact rV_n (by decide)), _, (by rw [ew]; first | (rw [rS_0]; exact O28) | exact O28), hf⟩
