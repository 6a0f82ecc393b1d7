/-! small words over numbers and contracts -/
def bI (b : Bool) : Int32 := cond b 1 0
theorem bI01 (b : Bool) : bI b = 0 ∨ bI b = 1 := by cases b <;> simp [bI]
theorem bI_0 {b : Bool} : bI b = 0 ↔ b = false := by cases b <;> simp [bI]
theorem bI_n0 {b : Bool} : ¬ bI b = 0 ↔ b = true := by cases b <;> simp [bI]
theorem bI_1 {b : Bool} : bI b = 1 ↔ b = true := by cases b <;> simp [bI]
abbrev PI0 (v0 : Int32) (h : Hp) : Int32 → Hp → Prop := fun v h' => v0 = v ∧ h = h'
abbrev PI1 (v0 : Int32) (h : Hp) (o : Nat) (b : Blk) : Int32 → Hp → Prop := fun v h' => v0 = v ∧ h' o = some b ∧ ∀ i, i ≠ o → h' i = h i
abbrev PI2 (v0 : Int32) (h : Hp) (o : Nat) (b : Blk) (o2 : Nat) (b2 : Blk) : Int32 → Hp → Prop := fun v h' => v0 = v ∧ h' o = some b ∧ h' o2 = some b2 ∧ ∀ i, i ≠ o → i ≠ o2 → h' i = h i
abbrev PI3 (v0 : Int32) (h : Hp) (o : Nat) (b : Blk) (o2 : Nat) (b2 : Blk) (o3 : Nat) (b3 : Blk) : Int32 → Hp → Prop := fun v h' => v0 = v ∧ h' o = some b ∧ h' o2 = some b2 ∧ h' o3 = some b3 ∧ ∀ i, i ≠ o → i ≠ o2 → i ≠ o3 → h' i = h i
abbrev PL0 (v0 : Int64) (h : Hp) : Int64 → Hp → Prop := fun v h' => v0 = v ∧ h = h'
abbrev PL1 (v0 : Int64) (h : Hp) (o : Nat) (b : Blk) : Int64 → Hp → Prop := fun v h' => v0 = v ∧ h' o = some b ∧ ∀ i, i ≠ o → h' i = h i
abbrev PL2 (v0 : Int64) (h : Hp) (o : Nat) (b : Blk) (o2 : Nat) (b2 : Blk) : Int64 → Hp → Prop := fun v h' => v0 = v ∧ h' o = some b ∧ h' o2 = some b2 ∧ ∀ i, i ≠ o → i ≠ o2 → h' i = h i
abbrev PV0 (h : Hp) : Hp → Prop := fun h' => h = h'
abbrev PV1 (h : Hp) (o : Nat) (b : Blk) : Hp → Prop := fun h' => h' o = some b ∧ ∀ i, i ≠ o → h' i = h i
abbrev PV2 (h : Hp) (o : Nat) (b : Blk) (o2 : Nat) (b2 : Blk) : Hp → Prop := fun h' => h' o = some b ∧ h' o2 = some b2 ∧ ∀ i, i ≠ o → i ≠ o2 → h' i = h i
abbrev PR0 (v0 : AV) (h : Hp) : AV → Hp → Prop := fun v h' => v0 = v ∧ h = h'
theorem nlt_iff {a b : Nat} (ha : a < 2 ^ 31) (hb : b < 2 ^ 31) : nI a < nI b ↔ a < b := by
  rw [Int32.lt_iff_toInt_lt, nI_toInt ha, nI_toInt hb]; omega
theorem nle_iff {a b : Nat} (ha : a < 2 ^ 31) (hb : b < 2 ^ 31) : nI a ≤ nI b ↔ a ≤ b := by
  rw [Int32.le_iff_toInt_le, nI_toInt ha, nI_toInt hb]; omega
theorem ninj {a b : Nat} (ha : a < 2 ^ 31) (hb : b < 2 ^ 31) : nI a = nI b ↔ a = b := by
  constructor
  · intro e
    have h1 := nI_toInt ha
    rw [e, nI_toInt hb] at h1
    omega
  · intro e; rw [e]
theorem nadd (a b : Nat) : nI (a + b) = nI a + nI b := Int32.ofNat_add a b
theorem nmul (a b : Nat) : nI (a * b) = nI a * nI b := Int32.ofNat_mul a b
theorem ix_lit {i : Int32} {n : Nat} (j : Nat) (e : nI j = i) (hj : j < n) (hn : n < 2 ^ 31) : ix i n j := by rw [← e]; exact ix_nI hj hn
theorem nI_self {i : Int32} (h : ¬ i < 0) : i = nI i.toNatClampNeg := by
  apply Int32.toInt_inj.mp
  have h0 : (0 : Int) ≤ i.toInt := by
    have := Int32.not_lt.mp h
    simpa using Int32.le_iff_toInt_le.mp this
  have hlt : i.toInt < 2 ^ 31 := i.toInt_lt
  have e : i.toNatClampNeg = i.toInt.toNat := rfl
  rw [nI_toInt (by omega), e]
  omega
theorem nI_exi {i : Int32} {n : Nat} (h : ¬ i < 0) (h2 : i < nI n) (hn : n < 2 ^ 31) : ∃ j, i = nI j ∧ j < n := by
  have h0 : (0 : Int) ≤ i.toInt := by
    have := Int32.not_lt.mp h
    simpa using Int32.le_iff_toInt_le.mp this
  have e : i.toNatClampNeg = i.toInt.toNat := rfl
  refine ⟨i.toNatClampNeg, nI_self h, ?_⟩
  rw [Int32.lt_iff_toInt_lt, nI_toInt hn] at h2
  omega
section BASE
variable {X : En} {l : Launch} {M : MI} {pc : Nat} {ls : List (Option AV)} {st : List AV} {h : Hp} {Q : Option AV → Hp → Prop}
theorem A_iincN (pc' : Nat) {i k : Nat} {ls' : List (Option AV)} (hd : decode M.2.1 pc = .ok (.iinc i 1, 3)) (hp : pc + 3 = pc') (hx : ls[i]? = some (some (aI (nI k)))) (hn : i < M.2.2.1) (ha : AstP i (aI (nI (k + 1))) ls ls') (kk : Av X l M pc' ls' st h Q) : Av X l M pc ls st h Q :=
  A_iinc pc' 1 hd hp hx (by decide) hn (by rw [← nI_succ]; exact ha) kk
theorem A_idecN (pc' : Nat) {i k : Nat} {ls' : List (Option AV)} (hd : decode M.2.1 pc = .ok (.iinc i (-1), 3)) (hp : pc + 3 = pc') (hx : ls[i]? = some (some (aI (nI k)))) (hn : i < M.2.2.1) (ha : AstP i (aI (nI k - 1)) ls ls') (kk : Av X l M pc' ls' st h Q) : Av X l M pc ls st h Q :=
  A_iinc pc' (-1) hd hp hx (by decide) hn (by rw [show nI k + -1 = nI k - 1 from (Int32.sub_eq_add_neg _ _).symm]; exact ha) kk
theorem A_joinI (J : Nat) (V : Int32 → Prop) (kb : (∀ v, V v → Av X l M J ls (aI v :: st) h Q) → Av X l M pc ls st h Q) (kJ : ∀ v, V v → Av X l M J ls (aI v :: st) h Q) : Av X l M pc ls st h Q := kb kJ
theorem A_joinL (J : Nat) (V : Int64 → Prop) (kb : (∀ v, V v → Av X l M J ls (aL v :: st) h Q) → Av X l M pc ls st h Q) (kJ : ∀ v, V v → Av X l M J ls (aL v :: st) h Q) : Av X l M pc ls st h Q := kb kJ
def subP : List (Option AV) → List (Option AV) → Prop
  | [], [] => True
  | none :: t, _ :: t' => subP t t'
  | some a :: t, y :: t' => y = some a ∧ subP t t'
  | _, _ => False
theorem subP_get : ∀ (l1 l2 : List (Option AV)), subP l1 l2 → ∀ (j : Nat) (w : AV), l1[j]? = some (some w) → l2[j]? = some (some w) := by
  intro l1
  induction l1 with
  | nil => intro l2 _ j w h; simp at h
  | cons a t ih =>
    intro l2 hs j w hj
    cases l2 with
    | nil => cases a <;> exact hs.elim
    | cons y t' =>
      cases a with
      | none =>
        cases j with
        | zero => simp at hj
        | succ j => simpa using ih t' hs j w (by simpa using hj)
      | some a =>
        cases j with
        | zero =>
          simp at hj
          subst hj
          simpa using hs.1
        | succ j => simpa using ih t' hs.2 j w (by simpa using hj)
theorem A_weak {ls' : List (Option AV)} (k : Av X l M pc ls' st h Q) (hs : subP ls' ls) : Av X l M pc ls st h Q := by
  intro p e s m args below meth c H locs LS C hh hS hl
  refine k p e s m args below meth c H locs LS C hh hS ⟨hl.1, hl.2.1, fun q hq => hl.2.2 q ?_⟩
  obtain ⟨j, w, rfl, hj⟩ := (prl_mem _ _ _).mp hq
  exact (prl_mem _ _ _).mpr ⟨j, w, rfl, subP_get _ _ hs j w hj⟩
theorem A_callVI (pc' : Nat) {Mc : MI} {P : Int32 → Hp → Prop} {idx b n ci : Nat} {As : List AV} {fs : List AV} {as : List AA} {stk : List AV} (hC : Ct X l Mc (aR b 0 :: As) h (QI P)) (hd : decode M.2.1 pc = .ok (.invokevirtual idx, 3)) (hp : pc + 3 = pc') (hk : MVK Mc n ci) (hl : Cond.methodLink M.1.cls idx Mc.1 ∈ TB) (hn : As.length = n) (ho : h b = some (ci, fs, as)) (hR : Mc.2.2.2.2.frames + 1 ≤ M.2.2.2.2.frames ∧ 8 + (Mc.2.2.1 + 11) + Mc.2.2.2.2.locals ≤ M.2.2.2.2.locals) (hst : stk = As.reverse ++ aR b 0 :: st) (hcat : catS X st ≤ 8) (kk : ∀ v h', P v h' → Av X l M pc' ls (aI v :: st) h' Q) : Av X l M pc ls stk h Q :=
  A_callV pc' hC hd hp hk hl hn ho hR hst hcat (fun r h' q => by obtain ⟨v, rfl, q⟩ := q; exact kk v h' q)
theorem A_callSI (pc' : Nat) {Mc : MI} {P : Int32 → Hp → Prop} {idx n : Nat} {As : List AV} {stk : List AV} (hC : Ct X l Mc As h (QI P)) (hd : decode M.2.1 pc = .ok (.invokestatic idx, 3)) (hp : pc + 3 = pc') (hk : MSK Mc n) (hl : Cond.methodLink M.1.cls idx Mc.1 ∈ TB) (hn : As.length = n) (hR : Mc.2.2.2.2.frames + 1 ≤ M.2.2.2.2.frames ∧ 8 + (Mc.2.2.1 + 11) + Mc.2.2.2.2.locals ≤ M.2.2.2.2.locals) (hst : stk = As.reverse ++ st) (hcat : catS X st ≤ 8) (kk : ∀ v h', P v h' → Av X l M pc' ls (aI v :: st) h' Q) : Av X l M pc ls stk h Q :=
  A_callS pc' hC hd hp hk hl hn hR hst hcat (fun r h' q => by obtain ⟨v, rfl, q⟩ := q; exact kk v h' q)
theorem A_callNI (pc' : Nat) {Mc : MI} {P : Int32 → Hp → Prop} {idx n : Nat} {host : String} {As : List AV} {stk : List AV} (hC : Ct X l Mc As h (QI P)) (hd : decode M.2.1 pc = .ok (.invokestatic idx, 3)) (hp : pc + 3 = pc') (hk : MSK Mc n) (hl : Cond.methodLinkNest M.1.cls idx Mc.1 host ∈ lw_tbl) (hn : As.length = n) (hR : Mc.2.2.2.2.frames + 1 ≤ M.2.2.2.2.frames ∧ 8 + (Mc.2.2.1 + 11) + Mc.2.2.2.2.locals ≤ M.2.2.2.2.locals) (hst : stk = As.reverse ++ st) (hcat : catS X st ≤ 8) (kk : ∀ v h', P v h' → Av X l M pc' ls (aI v :: st) h' Q) : Av X l M pc ls stk h Q :=
  A_callN pc' hC hd hp hk hl hn hR hst hcat (fun r h' q => by obtain ⟨v, rfl, q⟩ := q; exact kk v h' q)
theorem A_callVL (pc' : Nat) {Mc : MI} {P : Int64 → Hp → Prop} {idx b n ci : Nat} {As : List AV} {fs : List AV} {as : List AA} {stk : List AV} (hC : Ct X l Mc (aR b 0 :: As) h (QL P)) (hd : decode M.2.1 pc = .ok (.invokevirtual idx, 3)) (hp : pc + 3 = pc') (hk : MVK Mc n ci) (hl : Cond.methodLink M.1.cls idx Mc.1 ∈ TB) (hn : As.length = n) (ho : h b = some (ci, fs, as)) (hR : Mc.2.2.2.2.frames + 1 ≤ M.2.2.2.2.frames ∧ 8 + (Mc.2.2.1 + 11) + Mc.2.2.2.2.locals ≤ M.2.2.2.2.locals) (hst : stk = As.reverse ++ aR b 0 :: st) (hcat : catS X st ≤ 8) (kk : ∀ v h', P v h' → Av X l M pc' ls (aL v :: st) h' Q) : Av X l M pc ls stk h Q :=
  A_callV pc' hC hd hp hk hl hn ho hR hst hcat (fun r h' q => by obtain ⟨v, rfl, q⟩ := q; exact kk v h' q)
theorem A_callSL (pc' : Nat) {Mc : MI} {P : Int64 → Hp → Prop} {idx n : Nat} {As : List AV} {stk : List AV} (hC : Ct X l Mc As h (QL P)) (hd : decode M.2.1 pc = .ok (.invokestatic idx, 3)) (hp : pc + 3 = pc') (hk : MSK Mc n) (hl : Cond.methodLink M.1.cls idx Mc.1 ∈ TB) (hn : As.length = n) (hR : Mc.2.2.2.2.frames + 1 ≤ M.2.2.2.2.frames ∧ 8 + (Mc.2.2.1 + 11) + Mc.2.2.2.2.locals ≤ M.2.2.2.2.locals) (hst : stk = As.reverse ++ st) (hcat : catS X st ≤ 8) (kk : ∀ v h', P v h' → Av X l M pc' ls (aL v :: st) h' Q) : Av X l M pc ls stk h Q :=
  A_callS pc' hC hd hp hk hl hn hR hst hcat (fun r h' q => by obtain ⟨v, rfl, q⟩ := q; exact kk v h' q)
theorem A_callNL (pc' : Nat) {Mc : MI} {P : Int64 → Hp → Prop} {idx n : Nat} {host : String} {As : List AV} {stk : List AV} (hC : Ct X l Mc As h (QL P)) (hd : decode M.2.1 pc = .ok (.invokestatic idx, 3)) (hp : pc + 3 = pc') (hk : MSK Mc n) (hl : Cond.methodLinkNest M.1.cls idx Mc.1 host ∈ lw_tbl) (hn : As.length = n) (hR : Mc.2.2.2.2.frames + 1 ≤ M.2.2.2.2.frames ∧ 8 + (Mc.2.2.1 + 11) + Mc.2.2.2.2.locals ≤ M.2.2.2.2.locals) (hst : stk = As.reverse ++ st) (hcat : catS X st ≤ 8) (kk : ∀ v h', P v h' → Av X l M pc' ls (aL v :: st) h' Q) : Av X l M pc ls stk h Q :=
  A_callN pc' hC hd hp hk hl hn hR hst hcat (fun r h' q => by obtain ⟨v, rfl, q⟩ := q; exact kk v h' q)
theorem A_callVR (pc' : Nat) {Mc : MI} {P : AV → Hp → Prop} {idx b n ci : Nat} {As : List AV} {fs : List AV} {as : List AA} {stk : List AV} (hC : Ct X l Mc (aR b 0 :: As) h (QR P)) (hd : decode M.2.1 pc = .ok (.invokevirtual idx, 3)) (hp : pc + 3 = pc') (hk : MVK Mc n ci) (hl : Cond.methodLink M.1.cls idx Mc.1 ∈ TB) (hn : As.length = n) (ho : h b = some (ci, fs, as)) (hR : Mc.2.2.2.2.frames + 1 ≤ M.2.2.2.2.frames ∧ 8 + (Mc.2.2.1 + 11) + Mc.2.2.2.2.locals ≤ M.2.2.2.2.locals) (hst : stk = As.reverse ++ aR b 0 :: st) (hcat : catS X st ≤ 8) (kk : ∀ v h', P v h' → Av X l M pc' ls (v :: st) h' Q) : Av X l M pc ls stk h Q :=
  A_callV pc' hC hd hp hk hl hn ho hR hst hcat (fun r h' q => by obtain ⟨v, rfl, q⟩ := q; exact kk v h' q)
theorem A_callSR (pc' : Nat) {Mc : MI} {P : AV → Hp → Prop} {idx n : Nat} {As : List AV} {stk : List AV} (hC : Ct X l Mc As h (QR P)) (hd : decode M.2.1 pc = .ok (.invokestatic idx, 3)) (hp : pc + 3 = pc') (hk : MSK Mc n) (hl : Cond.methodLink M.1.cls idx Mc.1 ∈ TB) (hn : As.length = n) (hR : Mc.2.2.2.2.frames + 1 ≤ M.2.2.2.2.frames ∧ 8 + (Mc.2.2.1 + 11) + Mc.2.2.2.2.locals ≤ M.2.2.2.2.locals) (hst : stk = As.reverse ++ st) (hcat : catS X st ≤ 8) (kk : ∀ v h', P v h' → Av X l M pc' ls (v :: st) h' Q) : Av X l M pc ls stk h Q :=
  A_callS pc' hC hd hp hk hl hn hR hst hcat (fun r h' q => by obtain ⟨v, rfl, q⟩ := q; exact kk v h' q)
theorem A_callNR (pc' : Nat) {Mc : MI} {P : AV → Hp → Prop} {idx n : Nat} {host : String} {As : List AV} {stk : List AV} (hC : Ct X l Mc As h (QR P)) (hd : decode M.2.1 pc = .ok (.invokestatic idx, 3)) (hp : pc + 3 = pc') (hk : MSK Mc n) (hl : Cond.methodLinkNest M.1.cls idx Mc.1 host ∈ lw_tbl) (hn : As.length = n) (hR : Mc.2.2.2.2.frames + 1 ≤ M.2.2.2.2.frames ∧ 8 + (Mc.2.2.1 + 11) + Mc.2.2.2.2.locals ≤ M.2.2.2.2.locals) (hst : stk = As.reverse ++ st) (hcat : catS X st ≤ 8) (kk : ∀ v h', P v h' → Av X l M pc' ls (v :: st) h' Q) : Av X l M pc ls stk h Q :=
  A_callN pc' hC hd hp hk hl hn hR hst hcat (fun r h' q => by obtain ⟨v, rfl, q⟩ := q; exact kk v h' q)
theorem A_callVV (pc' : Nat) {Mc : MI} {P : Hp → Prop} {idx b n ci : Nat} {As : List AV} {fs : List AV} {as : List AA} {stk : List AV} (hC : Ct X l Mc (aR b 0 :: As) h (QV P)) (hd : decode M.2.1 pc = .ok (.invokevirtual idx, 3)) (hp : pc + 3 = pc') (hk : MVK Mc n ci) (hl : Cond.methodLink M.1.cls idx Mc.1 ∈ TB) (hn : As.length = n) (ho : h b = some (ci, fs, as)) (hR : Mc.2.2.2.2.frames + 1 ≤ M.2.2.2.2.frames ∧ 8 + (Mc.2.2.1 + 11) + Mc.2.2.2.2.locals ≤ M.2.2.2.2.locals) (hst : stk = As.reverse ++ aR b 0 :: st) (hcat : catS X st ≤ 8) (kk : ∀ h', P h' → Av X l M pc' ls st h' Q) : Av X l M pc ls stk h Q :=
  A_callV pc' hC hd hp hk hl hn ho hR hst hcat (fun r h' q => by obtain ⟨rfl, q⟩ := q; exact kk h' q)
theorem A_callSV (pc' : Nat) {Mc : MI} {P : Hp → Prop} {idx n : Nat} {As : List AV} {stk : List AV} (hC : Ct X l Mc As h (QV P)) (hd : decode M.2.1 pc = .ok (.invokestatic idx, 3)) (hp : pc + 3 = pc') (hk : MSK Mc n) (hl : Cond.methodLink M.1.cls idx Mc.1 ∈ TB) (hn : As.length = n) (hR : Mc.2.2.2.2.frames + 1 ≤ M.2.2.2.2.frames ∧ 8 + (Mc.2.2.1 + 11) + Mc.2.2.2.2.locals ≤ M.2.2.2.2.locals) (hst : stk = As.reverse ++ st) (hcat : catS X st ≤ 8) (kk : ∀ h', P h' → Av X l M pc' ls st h' Q) : Av X l M pc ls stk h Q :=
  A_callS pc' hC hd hp hk hl hn hR hst hcat (fun r h' q => by obtain ⟨rfl, q⟩ := q; exact kk h' q)
theorem A_callNV (pc' : Nat) {Mc : MI} {P : Hp → Prop} {idx n : Nat} {host : String} {As : List AV} {stk : List AV} (hC : Ct X l Mc As h (QV P)) (hd : decode M.2.1 pc = .ok (.invokestatic idx, 3)) (hp : pc + 3 = pc') (hk : MSK Mc n) (hl : Cond.methodLinkNest M.1.cls idx Mc.1 host ∈ lw_tbl) (hn : As.length = n) (hR : Mc.2.2.2.2.frames + 1 ≤ M.2.2.2.2.frames ∧ 8 + (Mc.2.2.1 + 11) + Mc.2.2.2.2.locals ≤ M.2.2.2.2.locals) (hst : stk = As.reverse ++ st) (hcat : catS X st ≤ 8) (kk : ∀ h', P h' → Av X l M pc' ls st h' Q) : Av X l M pc ls stk h Q :=
  A_callN pc' hC hd hp hk hl hn hR hst hcat (fun r h' q => by obtain ⟨rfl, q⟩ := q; exact kk h' q)
end BASE
