/-! the law: what stays true between two calls, and how each call keeps it -/
def OKS (x : PW) (g : Int32) (xi : PW) (np kp : Nat) (V : Nat → PW) (n12 : Nat) (t15 : FI) (n15 : Nat) (im T : FI) (W : Nat → PW) : Prop :=
  WOK x ∧ WOK xi ∧ (∀ j, j < 8 → WOK (V j)) ∧ np < 8 ∧ kp ≤ 8 ∧ n12 ≤ 96 ∧ n15 ≤ 16 ∧ (∀ k, k < n15 → ¬ t15 k < 0) ∧ (¬ g = 0 → ∀ j, j < 50 → im j = enc xi j) ∧ TRs T kp W ∧ (∀ j, j < kp → W j = V ((np + 8 - kp + j) % 8))
def Inv (h : Hp) : Prop := ∃ (x : PW) (g : Int32) (r : FI) (xi : PW) (np kp : Nat) (V : Nat → PW) (t12 : FI) (n12 k12 : Nat) (t15 : FI) (n15 : Nat) (im T : FI) (z : RZ) (W : Nat → PW) (x13 : PW) (y14 y16 : PC) (t17 : FI) (n17 : Nat) (y18 y20 y22 y23 : PC) (x24 : PW) (s25 : Nat → Int64) (t25 : FI) (y26 : PC) (x27 : PW),
  (h 0 = some (maB g r) ∧ h 1 = some (wB 1 x) ∧ h 2 = some (wB 2 xi) ∧ h 3 = some (paB np kp) ∧ (∀ j, j < 8 → h (j + 4) = some (wB (j + 4) (V j))) ∧ h 12 = some (leB t12 n12 k12) ∧ h 13 = some (wB 13 x13) ∧ h 14 = some (cB 14 y14) ∧ h 15 = some (toB t15 n15) ∧ h 16 = some (cB 16 y16) ∧ h 17 = some (guB t17 n17) ∧ h 18 = some (cB 18 y18) ∧ h 19 = some seB ∧ h 20 = some (cB 20 y20) ∧ h 21 = some alB ∧ h 22 = some (cB 22 y22) ∧ h 23 = some (cB 23 y23) ∧ h 24 = some (wB 24 x24) ∧ h 25 = some (foB s25 t25) ∧ h 26 = some (cB 26 y26) ∧ h 27 = some (wB 27 x27) ∧ h 28 = some (rB x (-1) (r, t12, n12, im, g, T, kp, t15, n15) z)) ∧
  OKS x g xi np kp V n12 t15 n15 im T W
section OKL
variable {x : PW} {g : Int32} {xi : PW} {np kp : Nat} {V : Nat → PW} {n12 : Nat} {t15 : FI} {n15 : Nat} {im T : FI} {W : Nat → PW}
theorem isP_6 {x : PW} (hW : WOK x) {p : Int32} (h : isP x p = true) : p.toNatClampNeg < 6 := by
  have := hW.2.1
  obtain ⟨k, rfl, hk⟩ := inN_ex h (by omega)
  rw [nI_clamp (by omega)]
  omega
theorem i_lt {i : Int32} {n : Nat} (h0 : ¬ i < 0) (h1 : ¬ nI n < i) (hn : n < 1000) : ∃ k, i = nI k ∧ k < n + 1 := by
  refine nI_exi h0 ?_ (by omega)
  rw [Int32.lt_iff_toInt_lt, nI_toInt (by omega)]
  rw [Int32.lt_iff_toInt_lt, nI_toInt (by omega)] at h1
  omega
theorem inT_exi {t : Int32} (h : inT t = true) : ∃ k, t = nI k ∧ k < 8 := inN_ex (i := t) (n := 8) h (by decide)
theorem W_law (hW : WOK x) {k f th : Int32} (h : wLaw x k f th = 0) : WOK (addL x k f (th / 10) (th - th / 10 * 10)) := by
  obtain ⟨h1, h2, h3, h4⟩ := wLaw_0 h
  obtain ⟨a, rfl, ha⟩ := i_lt (n := 5) (fun z => h1 (Or.inl z)) (fun z => h1 (Or.inr z)) (by decide)
  obtain ⟨b, rfl, hb⟩ := i_lt (n := 9) (fun z => h2 (Or.inl z)) (fun z => h3 (Or.inl z)) (by decide)
  have e1 : inT (th / 10) = true := Classical.byContradiction fun z => h3 (Or.inr (Or.inl z))
  have e2 : inT (th - th / 10 * 10) = true := Classical.byContradiction fun z => h3 (Or.inr (Or.inr z))
  obtain ⟨c, hc, hc2⟩ := inT_exi e1
  obtain ⟨d, hd, hd2⟩ := inT_exi e2
  rw [hd, hc]
  exact WOK_addL hW h4 ha hb hc2 hd2
theorem R8_of {v : Int32} (h0 : ¬ v < 0) (h1 : ¬ 255 < v) : R8 v := by
  obtain ⟨k, e, hk⟩ := i_lt (n := 255) h0 h1 (by decide)
  exact ⟨k, hk, e⟩
theorem W_pers (hW : WOK x) {v : Int32} (h : wPers x v = 0) : WOK (addP x v) := by
  unfold wPers at h
  by_cases h1 : v < 0
  · rw [if_pos h1] at h; exact absurd h (by decide)
  rw [if_neg h1] at h
  by_cases h2 : 255 < v ∨ ¬ x.2.2.2.1 < 6
  · rw [if_pos h2] at h; exact absurd h (by decide)
  exact WOK_addP hW (Classical.byContradiction fun z => h2 (Or.inr z)) (R8_of h1 (fun z => h2 (Or.inl z)))
theorem W_take (hW : WOK x) {p t : Int32} (h : wTake x p t = 0) : WOK (takeF x p.toNatClampNeg t) := WOK_takeF hW (isP_6 hW (wTake_0 h).1.1) t
theorem W_brg (hW : WOK x) {p t : Int32} (h : wBrg x p t = 0) : WOK (bringF x p.toNatClampNeg t) := by
  unfold wBrg at h
  by_cases h1 : isP x p = true ∧ inT t = true
  · exact WOK_bringF hW (isP_6 hW h1.1) t
  · rw [if_neg h1] at h; exact absurd h (by decide)
theorem LOK_set {x : PW} (hx : LOK x) {l j : Nat} {v : Int32} (hj : j < 2) (hv : ∃ n, n < (if j = 0 then 6 else 10) ∧ v = nI n) : LOK (setP x l j v) := by
  refine ⟨hx.1, fun q hq => ?_⟩
  obtain ⟨h1, h2, h3, h4⟩ := hx.2 q hq
  have key : ∀ e, e < 4 → (setP x l j v).1 (q * 4 + e) = if q = l ∧ e = j then v else x.1 (q * 4 + e) := by
    intro e he
    show va_up x.1 (l * 4 + j) v (q * 4 + e) = _
    unfold va_up
    by_cases z : q = l ∧ e = j
    · rw [if_pos z, if_pos (by omega)]
    · rw [if_neg z, if_neg (fun w => z (by omega))]
  have k0 : kd (setP x l j v) q = if q = l ∧ 0 = j then v else kd x q := by
    have := key 0 (by decide)
    exact this
  have k1 : fg (setP x l j v) q = if q = l ∧ 1 = j then v else fg x q := key 1 (by decide)
  have k2 : wa (setP x l j v) q = wa x q := by
    have := key 2 (by decide)
    rw [if_neg (by omega)] at this
    exact this
  have k3 : gi (setP x l j v) q = gi x q := by
    have := key 3 (by decide)
    rw [if_neg (by omega)] at this
    exact this
  refine ⟨?_, ?_, by rw [k2]; exact h3, by rw [k3]; exact h4⟩
  · rw [k0]
    by_cases z : q = l ∧ 0 = j
    · rw [if_pos z]
      obtain ⟨n, hn, e⟩ := hv
      rw [if_pos z.2.symm] at hn
      exact ⟨n, hn, e⟩
    · rw [if_neg z]; exact h1
  · rw [k1]
    by_cases z : q = l ∧ 1 = j
    · rw [if_pos z]
      obtain ⟨n, hn, e⟩ := hv
      rw [if_neg (by omega)] at hn
      exact ⟨n, hn, e⟩
    · rw [if_neg z]; exact h2
theorem W_turn (hW : WOK x) {l k f : Int32} (h : wTurn x l k f = 0) : WOK (turnX x l k f) := by
  unfold wTurn at h
  have h0 : isL x l = true := Classical.byContradiction fun z => by rw [if_neg z] at h; exact absurd h (by decide)
  rw [if_pos h0] at h
  by_cases h1 : k < 0 ∨ 5 < k
  · rw [if_pos h1] at h; exact absurd h (by decide)
  rw [if_neg h1] at h
  by_cases h2 : f < 0
  · rw [if_pos h2] at h; exact absurd h (by decide)
  rw [if_neg h2] at h
  by_cases h3 : 9 < f
  · rw [if_pos h3] at h; exact absurd h (by decide)
  obtain ⟨a, ea, ha⟩ := i_lt (n := 5) (fun z => h1 (Or.inl z)) (fun z => h1 (Or.inr z)) (by decide)
  obtain ⟨b, eb, hb⟩ := i_lt (n := 9) h2 h3 (by decide)
  exact ⟨LOK_set (LOK_set hW.1 (j := 0) (by decide) ⟨a, by rw [if_pos rfl]; exact ha, ea⟩) (j := 1) (by decide) ⟨b, by rw [if_neg (by decide)]; exact hb, eb⟩, hW.2⟩
theorem W_day (hW : WOK x) (h : wDay x = 0) : WOK (passX x) := by
  unfold wDay at h
  by_cases h1 : x.2.2.2.2.2 < 999
  · exact WOK_passX hW h1
  · rw [if_neg h1] at h; exact absurd h (by decide)
theorem snN_W {t : FI} {n : Nat} (hn : n < 1000) : ∀ (m p c : Nat) (x : PW), WOK x → (p < n → fmN t n (n - p) p (-1) = -1) → WOK (snN t n m p c x).2.1 := by
  intro m
  induction m with
  | zero => intro p c x hW _; exact hW
  | succ m ih =>
    intro p c x hW hf
    rw [snN_s]
    by_cases hp : p < n
    · rw [if_pos hp]
      obtain ⟨hs, h2, h3⟩ := form_step hp hn (hf hp)
      by_cases hq : (stF t x p).isSome = true
      · rw [if_pos hq]
        exact ih _ _ _ (stF_W hW hs) (fun _ => h3)
      · rw [if_neg hq]; exact hW
    · rw [if_neg hp]; exact hW
theorem W_mill (hW : WOK x) {t : FI} {n : Nat} (hn : n ≤ 96) : WOK (miX t n x) := by
  unfold miX
  by_cases h1 : formF t n = -1
  · rw [if_pos h1]
    by_cases h2 : (snF t n x).1 = -1
    · rw [if_pos h2]
      exact snN_W (by omega) 96 0 0 x hW (fun _ => h1)
    · rw [if_neg h2]; exact hW
  · rw [if_neg h1]; exact hW
theorem if0 {α : Type} {w : Int32} (e : w = 0) (a b : α) : ifW w a b = a := if_pos e
theorem if1 {α : Type} {w : Int32} (e : ¬ w = 0) (a b : α) : ifW w a b = b := if_neg e
/-- a turn kept -/
theorem ok_keep (h : OKS x g xi np kp V n12 t15 n15 im T W) {w : Int32} {x' : PW} (hw : w = 0 → WOK x') {T2 : FI} (hT : TRs T2 (ifW w (moP kp) kp) (ifW w (kpW kp W x) W)) : OKS (ifW w x' x) g xi (ifW w (nxP np) np) (ifW w (moP kp) kp) (fun j => if j = np then ifW w x (V np) else V j) n12 t15 n15 im T2 (ifW w (kpW kp W x) W) := by
  obtain ⟨a1, a2, a3, a4, a5, a6, a7, a8, a9, a10, a11⟩ := h
  by_cases e : w = 0
  · simp only [if0 e] at hT ⊢
    refine ⟨hw e, a2, fun j hj => ?_, ?_, ?_, a6, a7, a8, a9, hT, fun j hj => ?_⟩
    · show WOK (if j = np then x else V j)
      by_cases q : j = np
      · rw [if_pos q]; exact a1
      · rw [if_neg q]; exact a3 j hj
    · unfold nxP; split <;> omega
    · unfold moP; split <;> omega
    · show kpW kp W x j = if (nxP np + 8 - moP kp + j) % 8 = np then x else V ((nxP np + 8 - moP kp + j) % 8)
      unfold kpW
      by_cases k8 : kp = 8
      · subst k8
        have e1 : moP 8 = 8 := rfl
        rw [e1] at hj ⊢
        rw [if_pos rfl]
        by_cases j7 : j < 7
        · rw [if_pos j7, a11 (j + 1) (by omega)]
          have e2 : (nxP np + 8 - 8 + j) % 8 = (np + 8 - 8 + (j + 1)) % 8 := by unfold nxP; split <;> omega
          rw [e2, if_neg (show ¬ (np + 8 - 8 + (j + 1)) % 8 = np by omega)]
        · rw [if_neg j7]
          have e2 : (nxP np + 8 - 8 + j) % 8 = np := by unfold nxP; split <;> omega
          rw [e2, if_pos rfl]
      · have e1 : moP kp = kp + 1 := moP_l (by omega)
        rw [e1] at hj ⊢
        rw [if_neg k8]
        have e2 : (nxP np + 8 - (kp + 1) + j) % 8 = (np + 8 - kp + j) % 8 := by unfold nxP; split <;> omega
        rw [e2]
        by_cases jk : j = kp
        · rw [if_pos jk, if_pos (by omega)]
        · rw [if_neg jk, a11 j (by omega), if_neg (by omega)]
  · simp only [if1 e] at hT ⊢
    have eV : (fun j => if j = np then V np else V j) = V := by
      funext j
      by_cases q : j = np
      · rw [if_pos q, q]
      · rw [if_neg q]
    rw [eV]
    exact ⟨a1, a2, a3, a4, a5, a6, a7, a8, a9, hT, a11⟩
/-- turns forgotten -/
theorem ok_drop (h : OKS x g xi np kp V n12 t15 n15 im T W) {w : Int32} {x' : PW} (hw : w = 0 → WOK x') : OKS (ifW w x' x) g xi np (ifW w 0 kp) V n12 t15 n15 im T W := by
  obtain ⟨a1, a2, a3, a4, a5, a6, a7, a8, a9, a10, a11⟩ := h
  by_cases e : w = 0
  · simp only [if0 e]
    exact ⟨hw e, a2, a3, a4, Nat.zero_le _, a6, a7, a8, a9, fun j hj => absurd hj (Nat.not_lt_zero j), fun j hj => absurd hj (Nat.not_lt_zero j)⟩
  · simp only [if1 e]
    exact ⟨a1, a2, a3, a4, a5, a6, a7, a8, a9, a10, a11⟩
theorem ok_clears (h : OKS x g xi np kp V n12 t15 n15 im T W) : OKS (clearF x) g xi np 0 V n12 t15 n15 im T W := by
  obtain ⟨a1, a2, a3, a4, a5, a6, a7, a8, a9, a10, a11⟩ := h
  exact ⟨WOK_clearF a1, a2, a3, a4, Nat.zero_le _, a6, a7, a8, a9, fun j hj => absurd hj (Nat.not_lt_zero j), fun j hj => absurd hj (Nat.not_lt_zero j)⟩
theorem ok_mill (h : OKS x g xi np kp V n12 t15 n15 im T W) {t12 : FI} : OKS (miX t12 n12 x) g xi np (miK t12 n12 x kp) V 0 t15 n15 im T W := by
  obtain ⟨a1, a2, a3, a4, a5, a6, a7, a8, a9, a10, a11⟩ := h
  have hk : miK t12 n12 x kp = kp ∨ miK t12 n12 x kp = 0 := by
    unfold miK
    split
    · split
      · exact Or.inr rfl
      · exact Or.inl rfl
    · exact Or.inl rfl
  refine ⟨W_mill a1 a6, a2, a3, a4, ?_, Nat.zero_le _, a7, a8, a9, ?_, ?_⟩
  · rcases hk with e | e <;> rw [e]
    · exact a5
    · exact Nat.zero_le _
  · rcases hk with e | e <;> rw [e]
    · exact a10
    · exact fun j hj => absurd hj (Nat.not_lt_zero j)
  · rcases hk with e | e <;> rw [e]
    · exact a11
    · exact fun j hj => absurd hj (Nat.not_lt_zero j)
theorem ok_feed (h : OKS x g xi np kp V n12 t15 n15 im T W) {v : Int32} : OKS x g xi np kp V (ifW (wFeed n12 v) (n12 + 1) n12) t15 n15 im T W := by
  obtain ⟨a1, a2, a3, a4, a5, a6, a7, a8, a9, a10, a11⟩ := h
  refine ⟨a1, a2, a3, a4, a5, ?_, a7, a8, a9, a10, a11⟩
  by_cases e : wFeed n12 v = 0
  · rw [if0 e]
    unfold wFeed at e
    by_cases h1 : v < 0
    · rw [if_pos h1] at e; exact absurd e (by decide)
    rw [if_neg h1] at e
    by_cases h2 : 255 < v ∨ n12 = 96
    · rw [if_pos h2] at e; exact absurd e (by decide)
    have : ¬ n12 = 96 := fun z => h2 (Or.inr z)
    omega
  · rw [if1 e]; exact a6
theorem ok_row (h : OKS x g xi np kp V n12 t15 n15 im T W) {v : Int32} : OKS x g xi np kp V n12 (ifW (wRowF n15 v) (va_up t15 n15 v) t15) (ifW (wRowF n15 v) (n15 + 1) n15) im T W := by
  obtain ⟨a1, a2, a3, a4, a5, a6, a7, a8, a9, a10, a11⟩ := h
  by_cases e : wRowF n15 v = 0
  · simp only [if0 e]
    unfold wRowF at e
    by_cases h1 : v < 0
    · rw [if_pos h1] at e; exact absurd e (by decide)
    rw [if_neg h1] at e
    by_cases h2 : 99 < v ∨ n15 = 16
    · rw [if_pos h2] at e; exact absurd e (by decide)
    have : ¬ n15 = 16 := fun z => h2 (Or.inr z)
    refine ⟨a1, a2, a3, a4, a5, a6, by omega, fun k hk => ?_, a9, a10, a11⟩
    unfold va_up
    by_cases q : k = n15
    · rw [if_pos q]; exact h1
    · rw [if_neg q]; exact a8 k (by omega)
  · simp only [if1 e]
    exact ⟨a1, a2, a3, a4, a5, a6, a7, a8, a9, a10, a11⟩
theorem ok_judge (h : OKS x g xi np kp V n12 t15 n15 im T W) {w : Int32} : OKS x g xi np kp V n12 t15 (ifW w 0 n15) im T W := by
  obtain ⟨a1, a2, a3, a4, a5, a6, a7, a8, a9, a10, a11⟩ := h
  by_cases e : w = 0
  · simp only [if0 e]
    exact ⟨a1, a2, a3, a4, a5, a6, Nat.zero_le _, fun k hk => absurd hk (Nat.not_lt_zero k), a9, a10, a11⟩
  · simp only [if1 e]
    exact ⟨a1, a2, a3, a4, a5, a6, a7, a8, a9, a10, a11⟩
theorem ok_clear (h : OKS x g xi np kp V n12 t15 n15 im T W) : OKS x g xi np kp V n12 t15 0 im T W := by
  obtain ⟨a1, a2, a3, a4, a5, a6, a7, a8, a9, a10, a11⟩ := h
  exact ⟨a1, a2, a3, a4, a5, a6, Nat.zero_le _, fun k hk => absurd hk (Nat.not_lt_zero k), a9, a10, a11⟩
theorem ok_image (h : OKS x g xi np kp V n12 t15 n15 im T W) : OKS x 1 x np kp V n12 t15 n15 (enc x) T W := by
  obtain ⟨a1, a2, a3, a4, a5, a6, a7, a8, a9, a10, a11⟩ := h
  exact ⟨a1, a1, a3, a4, a5, a6, a7, a8, fun _ _ _ => rfl, a10, a11⟩
theorem ok_back {m k : Nat} (hm : m < 8) (h : OKS x g xi (nxP m) (k + 1) V n12 t15 n15 im T W) : W k = V m ∧ OKS (V m) g xi m k V n12 t15 n15 im T W := by
  obtain ⟨a1, a2, a3, a4, a5, a6, a7, a8, a9, a10, a11⟩ := h
  refine ⟨?_, a3 m hm, a2, a3, hm, by omega, a6, a7, a8, a9, fun j hj => a10 j (by omega), fun j hj => ?_⟩
  · rw [a11 k (by omega)]
    have e : (nxP m + 8 - (k + 1) + k) % 8 = m := by unfold nxP; split <;> omega
    rw [e]
  · rw [a11 j (by omega)]
    have e : (nxP m + 8 - (k + 1) + j) % 8 = (m + 8 - k + j) % 8 := by unfold nxP; split <;> omega
    rw [e]
theorem nx_of {np : Nat} (h : np < 8) : ∃ m, m < 8 ∧ np = nxP m := by
  by_cases e : np = 0
  · exact ⟨7, by decide, e⟩
  · exact ⟨np - 1, by omega, by unfold nxP; rw [if_neg (by omega)]; omega⟩
end OKL
theorem lg_same (a : Int64) : lg_cmp a a = 0 := by
  unfold lg_cmp
  rw [if_neg (fun z => absurd (Int64.lt_iff_toInt_lt.mp z) (Int.lt_irrefl _)), if_pos rfl]
/-- what the law knows of its script -/
def LG (G : GX) (X : En) (b L : Nat) (xs : Nat → Int32) : Prop := va_X b L xs G.2.2.1 G.2.2.1.heap ∧ b < G.2.2.1.heap.size ∧ ¬ G.2.2.2.2.2.2.2.2.1 b ∧ X.2.2.1 100 0 = b
abbrev mL_law : MI := (yL_law, cL_law, 4, ret, room_1)
abbrev lwL (i : Int32) : List (Option AV) := [some (aR 100 0), some (aR 0 0), some (aR 28 0), some (aI i)]
