/-! MY OWN MACHINE over the kit's rows: objects by number, each with its fields and its rows; a judgement Av over abstract frames -/
abbrev AV : Type := (Option (Nat × Nat)) ⊕ (Int32 ⊕ Int64)
abbrev aR (o k : Nat) : AV := .inl (some (o, k))
abbrev aN : AV := .inl none
abbrev aI (x : Int32) : AV := .inr (.inl x)
abbrev aL (x : Int64) : AV := .inr (.inr x)
abbrev AA : Type := Nat × Nat × ((Nat → Int32) ⊕ ((Nat → Int64) ⊕ (Nat → Option (Nat × Nat))))
abbrev kI (n : Nat) (f : Nat → Int32) : AA := (0, n, .inl f)
abbrev kZ (n : Nat) (f : Nat → Int32) : AA := (1, n, .inl f)
abbrev kJ (n : Nat) (f : Nat → Int64) : AA := (2, n, .inr (.inl f))
abbrev kQ (n : Nat) (f : Nat → Option (Nat × Nat)) : AA := (3, n, .inr (.inr f))
abbrev Blk : Type := Nat × List AV × List AA
abbrev Hp : Type := Nat → Option Blk
abbrev En : Type := va_G × (Nat → ClassId) × (Nat → Nat → Nat) × List (Nat × Nat)
abbrev MI : Type := MethodName × ByteArray × Nat × Option FieldType × Room
def rlQ (X : En) (q : Option (Nat × Nat)) : Option Nat := q.map (fun q => X.2.2.1 q.1 q.2)
def rl (X : En) : AV → Value
  | .inl q => va_rf (rlQ X q)
  | .inr (.inl x) => .int x
  | .inr (.inr x) => .long x
def isLg : AV → Bool
  | .inr (.inr _) => true
  | _ => false
def aaV (X : En) (a : AA) : vp_A := match a.2.2 with
  | .inl f => (a.2.1, .inl f)
  | .inr (.inl f) => (a.2.1, .inr (.inl f))
  | .inr (.inr f) => (a.2.1, .inr (.inr (.inr (.inr (fun j => rlQ X (f j))))))
def clB (X : En) (b : Blk) : Nat → va_E
  | 0 => .inr (b.1, b.2.1.map (rl X))
  | k + 1 => match b.2.2[k]? with
    | some a => .inl (X.2.1 a.1, aaV X a)
    | none => .inr (0, [])
def clO (X : En) (h : Hp) (q : Nat × Nat) : va_E := match h q.1 with
  | some b => clB X b q.2
  | none => .inr (0, [])
def wsO (X : En) (h : Hp) : va_W := X.2.2.2.map (fun q => (X.2.2.1 q.1 q.2, clO X h q))
def fA (X : En) : Nat → Prop := fun a => ∃ q ∈ X.2.2.2, X.2.2.1 q.1 q.2 = a
def EnOK (X : En) : Prop := ∀ (i j : Nat) (p q : Nat × Nat), X.2.2.2[i]? = some p → X.2.2.2[j]? = some q → X.2.2.1 p.1 p.2 = X.2.2.1 q.1 q.2 → i = j
def Dm (X : En) (h : Hp) : Prop := ∀ (o : Nat) (b : Blk), h o = some b → ∀ k, k ≤ b.2.2.length → (o, k) ∈ X.2.2.2
def HD (X : En) (h : Hp) (H : Heap) : Prop := va_P X.1 vwCl (wsO X h) H ∧ Dm X h
abbrev tyL (X : En) : List (ClassId × FieldType) := [(X.2.1 0, .int), (X.2.1 1, .boolean), (X.2.1 2, .long), (X.2.1 3, .object RX8)]
def TB : List Cond := lw_tbl.filter goodWord
def isNest : Cond → Bool
  | .methodLinkNest .. => true
  | _ => false
def NestW (U : State) : Prop := ∀ w ∈ lw_tbl, isNest w = true → va_Nw w U
theorem NestW.warm {s U : State} (hW : s.WarmedH U.vm) (h : NestW s) : NestW U := by
  intro w hw hn
  have h1 := h w hw hn
  cases w <;> first | exact va_Nw.warmM hW h1 | (exact absurd hn (by simp [isNest]))
theorem NestW.same {u U : State} (e : u.vm = U.vm) (h : NestW u) : NestW U := by
  intro w hw hn
  have h1 := h w hw hn
  cases w <;> first | exact va_Nw.same rfl e h1 | (exact absurd hn (by simp [isNest]))
def KS (X : En) (U : State) : Prop := va_K X.1 vwCl (tyL X) U ∧ NestW U ∧ EnOK X
theorem wsO_get {X : En} {h : Hp} {o k : Nat} (hq : (o, k) ∈ X.2.2.2) {b : Blk} (hb : h o = some b) : ∃ q0 : Nat, X.2.2.2[q0]? = some (o, k) ∧ (wsO X h)[q0]? = some (X.2.2.1 o k, clB X b k) := by
  obtain ⟨q0, e⟩ := List.getElem?_of_mem hq
  exact ⟨q0, e, by simp [wsO, clO, e, hb]⟩
theorem wsO_set {X : En} {h h' : Hp} {o k q0 : Nat} {b b' : Blk} (hE : EnOK X) (e : X.2.2.2[q0]? = some (o, k)) (ho : h o = some b) (hb' : h' o = some b') (hf : ∀ i, i ≠ o → h' i = h i) (hs : ∀ j, j ≠ k → clB X b' j = clB X b j) : (wsO X h).set q0 (X.2.2.1 o k, clB X b' k) = wsO X h' := by
  apply List.ext_getElem?
  intro j
  by_cases hj : j = q0
  · subst hj
    rw [List.getElem?_set_self (by simpa [wsO] using (List.getElem?_eq_some_iff.mp e).1)]
    simp [wsO, clO, e, hb']
  · rw [List.getElem?_set_ne (Ne.symm hj)]
    simp only [wsO, List.getElem?_map]
    cases hp : X.2.2.2[j]? with
    | none => rfl
    | some p =>
      simp only [Option.map_some]
      obtain ⟨po, pk⟩ := p
      have key : clO X h (po, pk) = clO X h' (po, pk) := by
        by_cases hpo : po = o
        · subst hpo
          have hk : pk ≠ k := by
            intro hk
            subst hk
            exact hj (hE _ _ _ _ hp e rfl)
          simp only [clO, ho, hb']
          exact (hs pk hk).symm
        · simp only [clO]
          rw [hf po hpo]
      rw [key]
theorem HD.dis {X : En} {h : Hp} {H : Heap} (hE : EnOK X) (_hh : HD X h H) : va_D (fA X) (wsO X h) := by
  constructor
  · intro i j p q hi hj hpq
    simp only [wsO, List.getElem?_map, Option.map_eq_some_iff] at hi hj
    obtain ⟨a, ha, rfl⟩ := hi
    obtain ⟨b, hb, rfl⟩ := hj
    exact hE i j a b ha hb hpq
  · intro k q hk
    simp only [wsO, List.getElem?_map, Option.map_eq_some_iff] at hk
    obtain ⟨a, ha, rfl⟩ := hk
    exact ⟨a, List.mem_of_getElem? ha, rfl⟩
/-- the heap with one object written anew -/
def hset (h : Hp) (o : Nat) (b : Blk) : Hp := fun i => if i = o then some b else h i
theorem hset_self {h : Hp} {o : Nat} {b : Blk} : hset h o b o = some b := if_pos rfl
theorem hset_ne {h : Hp} {o i : Nat} {b : Blk} (hi : i ≠ o) : hset h o b i = h i := if_neg hi
theorem Dm.set {X : En} {h : Hp} {o : Nat} {b b' : Blk} (hd : Dm X h) (ho : h o = some b) (hl : b'.2.2.length = b.2.2.length) : Dm X (hset h o b') := by
  intro i c hc k hk
  by_cases hi : i = o
  · subst hi
    rw [hset_self] at hc
    cases hc
    exact hd i b ho k (by omega)
  · rw [hset_ne hi] at hc
    exact hd i c hc k hk
/-! the locals -/
def prl (X : En) : Nat → List (Option AV) → List (Nat × Value)
  | _, [] => []
  | i, none :: t => prl X (i + 1) t
  | i, some v :: t => (i, rl X v) :: prl X (i + 1) t
theorem prl_mem {X : En} : ∀ (ls : List (Option AV)) (j : Nat) (q : Nat × Value), q ∈ prl X j ls ↔ ∃ i w, q = (j + i, rl X w) ∧ ls[i]? = some (some w) := by
  intro ls
  induction ls with
  | nil => intro j q; simp [prl]
  | cons a t ih =>
    intro j q
    cases a with
    | none =>
      rw [prl, ih]
      constructor
      · rintro ⟨i, w, rfl, h⟩
        exact ⟨i + 1, w, by rw [show j + 1 + i = j + (i + 1) by omega], by simpa using h⟩
      · rintro ⟨i, w, rfl, h⟩
        cases i with
        | zero => simp at h
        | succ i => exact ⟨i, w, by rw [show j + 1 + i = j + (i + 1) by omega], by simpa using h⟩
    | some v =>
      rw [prl, List.mem_cons, ih]
      constructor
      · rintro (rfl | ⟨i, w, rfl, h⟩)
        · exact ⟨0, v, rfl, rfl⟩
        · exact ⟨i + 1, w, by rw [show j + 1 + i = j + (i + 1) by omega], by simpa using h⟩
      · rintro ⟨i, w, rfl, h⟩
        cases i with
        | zero =>
          simp at h
          exact Or.inl (by rw [h]; rfl)
        | succ i => exact Or.inr ⟨i, w, by rw [show j + 1 + i = j + (i + 1) by omega], by simpa using h⟩
theorem prl_get {X : En} {LS : Array Slot} {nL : Nat} {ls : List (Option AV)} {i : Nat} {v : AV} (hl : lv_has LS nL (prl X 0 ls)) (h : ls[i]? = some (some v)) : LS[i]? = some (.val (rl X v)) := by
  have := hl.2.2 (i, rl X v) ((prl_mem ls 0 _).mpr ⟨i, v, by rw [Nat.zero_add], h⟩)
  exact this
theorem rl_cat {X : En} {v : AV} (h : (rl X v).category = 2) : isLg v = true := by
  rcases v with (q | q) | (x | x)
  · cases h
  · cases h
  · cases h
  · rfl
def AstP (i : Nat) (v : AV) (ls ls' : List (Option AV)) : Prop := ∀ j w, ls'[j]? = some (some w) → (j = i ∧ w = v) ∨ (ls[j]? = some (some w) ∧ j ≠ i ∧ (j + 1 = i → isLg w = false))
theorem ast_0 {v : AV} {x : Option AV} {t : List (Option AV)} : AstP 0 v (x :: t) (some v :: t) := by
  intro j w h
  cases j with
  | zero => simp at h; exact Or.inl ⟨rfl, h.symm⟩
  | succ j => exact Or.inr ⟨by simpa using h, by omega, by omega⟩
theorem ast_1 {v : AV} {x y : Option AV} {t : List (Option AV)} (hx : (x.map isLg).getD false = false) : AstP 1 v (x :: y :: t) (x :: some v :: t) := by
  intro j w h
  rcases j with _ | _ | j
  · simp at h
    subst h
    exact Or.inr ⟨rfl, by omega, fun _ => by simpa using hx⟩
  · simp at h; exact Or.inl ⟨rfl, h.symm⟩
  · exact Or.inr ⟨by simpa using h, by omega, by omega⟩
theorem ast_k {v : AV} {x y : Option AV} {t : List (Option AV)} : AstP 1 v (x :: y :: t) (none :: some v :: t) := by
  intro j w h
  rcases j with _ | _ | j
  · simp at h
  · simp at h; exact Or.inl ⟨rfl, h.symm⟩
  · exact Or.inr ⟨by simpa using h, by omega, by omega⟩
theorem ast_s {n : Nat} {v : AV} {x : Option AV} {t t' : List (Option AV)} (h0 : AstP (n + 1) v t t') : AstP (n + 2) v (x :: t) (x :: t') := by
  intro j w h
  cases j with
  | zero => exact Or.inr ⟨by simpa using h, by omega, by omega⟩
  | succ j =>
    rcases h0 j w (by simpa using h) with ⟨a, b⟩ | ⟨a, b, c⟩
    · exact Or.inl ⟨by omega, b⟩
    · exact Or.inr ⟨by simpa using a, by omega, fun e => c (by omega)⟩
theorem AstP.has {X : En} {i nL : Nat} {v : AV} {ls ls' : List (Option AV)} {LS : Array Slot} (ha : AstP i v ls ls') (h : lv_has LS nL ((i, rl X v) :: (prl X 0 ls).filter (fun q => !(q.1 == i) && !(q.1 + 1 == i && q.2.category == 2)))) : lv_has LS nL (prl X 0 ls') := by
  refine ⟨h.1, h.2.1, fun q hq => h.2.2 q ?_⟩
  obtain ⟨j, w, rfl, hj⟩ := (prl_mem _ _ _).mp hq
  rw [Nat.zero_add]
  rcases ha j w hj with ⟨rfl, rfl⟩ | ⟨a, b, c⟩
  · exact List.mem_cons_self
  · refine List.mem_cons_of_mem _ (List.mem_filter.mpr ⟨(prl_mem _ _ _).mpr ⟨j, w, by rw [Nat.zero_add], a⟩, ?_⟩)
    simp only [Bool.and_eq_true, Bool.not_eq_true', beq_eq_false_iff_ne, ne_eq, Bool.and_eq_false_iff]
    refine ⟨b, ?_⟩
    by_cases e : j + 1 = i
    · right
      intro hc
      have := rl_cat hc
      rw [c e] at this
      cases this
    · exact Or.inl e
/-- a long stored -/
def AstL (i : Nat) (v : AV) (ls ls' : List (Option AV)) : Prop := ∀ j w, ls'[j]? = some (some w) → (j = i ∧ w = v) ∨ (ls[j]? = some (some w) ∧ j ≠ i ∧ j ≠ i + 1 ∧ (j + 1 = i → isLg w = false))
theorem astL_0 {v : AV} {x y : Option AV} {t : List (Option AV)} : AstL 0 v (x :: y :: t) (some v :: none :: t) := by
  intro j w h
  rcases j with _ | _ | j
  · simp at h; exact Or.inl ⟨rfl, h.symm⟩
  · simp at h
  · exact Or.inr ⟨by simpa using h, by omega, by omega, by omega⟩
theorem astL_1 {v : AV} {x y z : Option AV} {t : List (Option AV)} (hx : (x.map isLg).getD false = false) : AstL 1 v (x :: y :: z :: t) (x :: some v :: none :: t) := by
  intro j w h
  rcases j with _ | _ | _ | j
  · simp at h
    subst h
    exact Or.inr ⟨rfl, by omega, by omega, fun _ => by simpa using hx⟩
  · simp at h; exact Or.inl ⟨rfl, h.symm⟩
  · simp at h
  · exact Or.inr ⟨by simpa using h, by omega, by omega, by omega⟩
theorem astL_k {v : AV} {x y z : Option AV} {t : List (Option AV)} : AstL 1 v (x :: y :: z :: t) (none :: some v :: none :: t) := by
  intro j w h
  rcases j with _ | _ | _ | j
  · simp at h
  · simp at h; exact Or.inl ⟨rfl, h.symm⟩
  · simp at h
  · exact Or.inr ⟨by simpa using h, by omega, by omega, by omega⟩
theorem astL_s {n : Nat} {v : AV} {x : Option AV} {t t' : List (Option AV)} (h0 : AstL (n + 1) v t t') : AstL (n + 2) v (x :: t) (x :: t') := by
  intro j w h
  cases j with
  | zero => exact Or.inr ⟨by simpa using h, by omega, by omega, by omega⟩
  | succ j =>
    rcases h0 j w (by simpa using h) with ⟨a, b⟩ | ⟨a, b, b2, c⟩
    · exact Or.inl ⟨by omega, b⟩
    · exact Or.inr ⟨by simpa using a, by omega, by omega, fun e => c (by omega)⟩
theorem AstL.has {X : En} {i nL : Nat} {v : AV} {ls ls' : List (Option AV)} {LS : Array Slot} (ha : AstL i v ls ls') (h : lv_has LS nL ((i, rl X v) :: (prl X 0 ls).filter (fun q => !(q.1 == i) && (!(q.1 == i + 1) && !(q.1 + 1 == i && q.2.category == 2))))) : lv_has LS nL (prl X 0 ls') := by
  refine ⟨h.1, h.2.1, fun q hq => h.2.2 q ?_⟩
  obtain ⟨j, w, rfl, hj⟩ := (prl_mem _ _ _).mp hq
  rw [Nat.zero_add]
  rcases ha j w hj with ⟨rfl, rfl⟩ | ⟨a, b, b2, c⟩
  · exact List.mem_cons_self
  · refine List.mem_cons_of_mem _ (List.mem_filter.mpr ⟨(prl_mem _ _ _).mpr ⟨j, w, by rw [Nat.zero_add], a⟩, ?_⟩)
    simp only [Bool.and_eq_true, Bool.not_eq_true', beq_eq_false_iff_ne, ne_eq, Bool.and_eq_false_iff]
    refine ⟨b, b2, ?_⟩
    by_cases e : j + 1 = i
    · right
      intro hc
      have := rl_cat hc
      rw [c e] at this
      cases this
    · exact Or.inl e
/-! contracts and the judgement -/
def Ctx (X : En) (M : MI) (p : Program) (s : State) (m : MethodId) (args : Array Value) (meth : Method) (c : Code) : Prop :=
  p.tables.exec = Jvm.exec ∧ c.code = M.2.1 ∧ meth.sig.returnType = M.2.2.2.1 ∧ c.maxLocals = M.2.2.1 ∧ s.vm.findClass M.1.cls = some m.cls ∧ (∀ w ∈ TB, w.before args s = true) ∧ KS X s ∧ meth.locks = false
def QcX (X : En) (Q : Option AV → Hp → Prop) : Array Value → State → Outcome → State → Prop := fun _ st oc t => (∃ (r : Option AV) (h' : Hp), oc = .returned (r.map (rl X)) ∧ Q r h' ∧ HD X h' t.heap) ∧ va_F (fA X) st t
def Ct (X : En) (l : Launch) (M : MI) (args : List AV) (h : Hp) (Q : Option AV → Hp → Prop) : Prop :=
  Met l M.1 (Cond.code M.1 M.2.1 M.2.2.1 M.2.2.2.1 :: TB) M.2.2.2.2 (va_Pc (args.map (rl X)) (fun U => HD X h U.heap ∧ KS X U)) (QcX X Q) 0 0 (fA X)
def Av (X : En) (l : Launch) (M : MI) (pc : Nat) (ls : List (Option AV)) (st : List AV) (h : Hp) (Q : Option AV → Hp → Prop) : Prop :=
  ∀ (p : Program) (e : Env) (s : State) (m : MethodId) (args : Array Value) (below : List Frame) (meth : Method) (c : Code) (H : Heap) (locs : List Loc) (LS : Array Slot),
    Ctx X M p s m args meth c → HD X h H → va_S (fA X) s.heap H locs → lv_has LS M.2.2.1 (prl X 0 ls) →
    W p l e M.2.2.2.2 s m args below meth c H locs 0 0 (MQ below (QcX X Q) args s 0 0 (fA X)) (F0 m pc LS (st.map (rl X)))
/-- what a method answers: an int, a long, nothing, a reference -/
abbrev QI (P : Int32 → Hp → Prop) : Option AV → Hp → Prop := fun r h => ∃ v, r = some (aI v) ∧ P v h
abbrev QL (P : Int64 → Hp → Prop) : Option AV → Hp → Prop := fun r h => ∃ v, r = some (aL v) ∧ P v h
abbrev QV (P : Hp → Prop) : Option AV → Hp → Prop := fun r h => r = none ∧ P h
abbrev QR (P : AV → Hp → Prop) : Option AV → Hp → Prop := fun r h => ∃ v, r = some v ∧ P v h
theorem KS.calling {X : En} {U : State} (g : JFrame) (mk : MethodId) (a : Array Value) (h : KS X U) : KS X (U.calling g mk a) := ⟨va_K.moved (u := U) (U := U.calling g mk a) (Vm.Alike.refl U.vm) h.1, NestW.same (u := U) (U := U.calling g mk a) rfl h.2.1, h.2.2⟩
theorem KS.warm {X : En} {s U : State} (hW : s.WarmedH U.vm) (h : KS X s) : KS X U := ⟨va_K.moved hW.alike h.1, NestW.warm hW h.2.1, h.2.2⟩
theorem Ct.intro {X : En} {l : Launch} {M : MI} {args : List AV} {h : Hp} {Q : Option AV → Hp → Prop} (ls : List (Option AV)) (hpl : plainName M.1.cls = true) (hls : prl X 0 ls = lv_args 0 (args.map (rl X))) (hn : (lg_sl (args.map (rl X))).length ≤ M.2.2.1) (k : Av X l M 0 ls [] h Q) : Ct X l M args h Q := by
  refine Met.ofW (cc := M.2.1) (maxL := M.2.2.1) (ret := M.2.2.2.1) hpl rfl ?_
  intro p e s m args' below meth c s₁ B hml hv
  obtain ⟨rfl, hh, hK⟩ := hv
  have hts := atoms_spec (ws := Cond.code M.1 M.2.1 M.2.2.1 M.2.2.2.1 :: TB) B.pre
  have hl := lv_entry (args.map (rl X)) (n := M.2.2.1) hn
  rw [lg_entry_eq]
  exact k p e s m _ below meth c s.heap [] _ ⟨B.exec, B.bytes, B.returns, hml, findClass_of_methodNamed B.named, fun w hw => hts w (List.mem_cons_of_mem _ hw), hK, B.notSynchronized⟩ hh va_S.rf (hls ▸ hl)
theorem Av.post {X : En} {l : Launch} {M : MI} {pc : Nat} {ls : List (Option AV)} {st : List AV} {h : Hp} {Q Q' : Option AV → Hp → Prop} (k : Av X l M pc ls st h Q) (hQ : ∀ r h', Q r h' → Q' r h') : Av X l M pc ls st h Q' := by
  intro p e s m args below meth c H locs LS C hh hS hl T hT Y
  obtain ⟨t, a, o, b1, b2, ⟨⟨r, h', b3, b4, b5⟩, b6⟩, b7⟩ := k p e s m args below meth c H locs LS C hh hS hl T hT Y
  exact ⟨t, a, o, b1, b2, ⟨⟨r, h', b3, hQ r h' b4, b5⟩, b6⟩, b7⟩
theorem TB_in {w : Cond} (i : Nat) (h : tables_1[i]? = some w) (hg : goodWord w = true) : w ∈ TB := List.mem_filter.mpr ⟨List.mem_append_right _ (List.mem_of_getElem? h), hg⟩
theorem TB_sel {w : Cond} (i : Nat) (h : (k2_sels lw_privs)[i]? = some w) (hg : goodWord w = true) : w ∈ TB := List.mem_filter.mpr ⟨List.mem_append_left _ (List.mem_of_getElem? h), hg⟩
section RULES
variable {X : En} {l : Launch} {M : MI} {pc : Nat} {ls : List (Option AV)} {st : List AV} {h : Hp} {Q : Option AV → Hp → Prop}


theorem A_iconst (pc' : Nat) {n : Int} (v : Int32) (hd : decode M.2.1 pc = .ok (.iconst n, 1)) (hp : pc + 1 = pc') (hv : Int32.ofInt n = v) (k : Av X l M pc' ls (aI v :: st) h Q) : Av X l M pc ls st h Q := by
  subst hp
  exact fun p e s m args below meth c H locs LS C hh hS hl => lv_iconst (v := v) C.1 C.2.1 hd hv (k p e s m args below meth c H locs LS C hh hS hl)
theorem A_bipush (pc' : Nat) {n : Int} (v : Int32) (hd : decode M.2.1 pc = .ok (.bipush n, 2)) (hp : pc + 2 = pc') (hv : (Int8.ofInt n).toInt32 = v) (k : Av X l M pc' ls (aI v :: st) h Q) : Av X l M pc ls st h Q := by
  subst hp
  exact fun p e s m args below meth c H locs LS C hh hS hl => lv_bipush (v := v) C.1 C.2.1 hd hv (k p e s m args below meth c H locs LS C hh hS hl)
theorem A_sipush (pc' : Nat) {n : Int} (v : Int32) (hd : decode M.2.1 pc = .ok (.sipush n, 3)) (hp : pc + 3 = pc') (hv : (Int16.ofInt n).toInt32 = v) (k : Av X l M pc' ls (aI v :: st) h Q) : Av X l M pc ls st h Q := by
  subst hp
  exact fun p e s m args below meth c H locs LS C hh hS hl => lv_sipush (v := v) C.1 C.2.1 hd hv (k p e s m args below meth c H locs LS C hh hS hl)
theorem A_lconst (pc' : Nat) {n : Fin 2} (v : Int64) (hd : decode M.2.1 pc = .ok (.lconst n, 1)) (hp : pc + 1 = pc') (hv : Int64.ofNat (n : Nat) = v) (k : Av X l M pc' ls (aL v :: st) h Q) : Av X l M pc ls st h Q := by
  subst hp
  exact fun p e s m args below meth c H locs LS C hh hS hl => lv_lconst (v := v) C.1 C.2.1 hd hv (k p e s m args below meth c H locs LS C hh hS hl)
theorem A_aconst_null (pc' : Nat) (hd : decode M.2.1 pc = .ok (.aconst_null, 1)) (hp : pc + 1 = pc') (k : Av X l M pc' ls (aN :: st) h Q) : Av X l M pc ls st h Q := by
  subst hp
  exact fun p e s m args below meth c H locs LS C hh hS hl => lv_null C.1 C.2.1 hd (k p e s m args below meth c H locs LS C hh hS hl)
theorem A_ldc (pc' : Nat) {i : Nat} (v : Int32) (hd : decode M.2.1 pc = .ok (.ldc i, 2)) (hp : pc + 2 = pc') (hv : Cond.constant M.1.cls i v ∈ TB) (k : Av X l M pc' ls (aI v :: st) h Q) : Av X l M pc ls st h Q := by
  subst hp
  exact fun p e s m args below meth c H locs LS C hh hS hl => lv_ldc C.1 C.2.1 C.2.2.2.2.1 (C.2.2.2.2.2.1 _ hv) hd (k p e s m args below meth c H locs LS C hh hS hl)
theorem A_ldc_w (pc' : Nat) {i : Nat} (v : Int32) (hd : decode M.2.1 pc = .ok (.ldc_w i, 3)) (hp : pc + 3 = pc') (hv : Cond.constant M.1.cls i v ∈ TB) (k : Av X l M pc' ls (aI v :: st) h Q) : Av X l M pc ls st h Q := by
  subst hp
  exact fun p e s m args below meth c H locs LS C hh hS hl => lv_ldcw C.1 C.2.1 C.2.2.2.2.1 (C.2.2.2.2.2.1 _ hv) hd (k p e s m args below meth c H locs LS C hh hS hl)
theorem A_ldc2_w (pc' : Nat) {i : Nat} (v : Int64) (hd : decode M.2.1 pc = .ok (.ldc2_w i, 3)) (hp : pc + 3 = pc') (hv : Cond.constantLong M.1.cls i v ∈ TB) (k : Av X l M pc' ls (aL v :: st) h Q) : Av X l M pc ls st h Q := by
  subst hp
  exact fun p e s m args below meth c H locs LS C hh hS hl => lv_ldc2 C.1 C.2.1 C.2.2.2.2.1 (C.2.2.2.2.2.1 _ hv) hd (k p e s m args below meth c H locs LS C hh hS hl)


theorem A_iload_n (pc' : Nat) {kk : Fin 4} {i : Nat} {v : Int32} (hd : decode M.2.1 pc = .ok (.iload_n kk, 1)) (hp : pc + 1 = pc') (hi : (kk : Nat) = i) (hv : ls[i]? = some (some (aI v))) (k : Av X l M pc' ls (aI v :: st) h Q) : Av X l M pc ls st h Q := by
  subst hp
  exact fun p e s m args below meth c H locs LS C hh hS hl => lv_iload_n C.1 C.2.1 hd hi (prl_get hl hv) (k p e s m args below meth c H locs LS C hh hS hl)
theorem A_iload (pc' : Nat) {i : Nat} {v : Int32} (hd : decode M.2.1 pc = .ok (.iload i, 2)) (hp : pc + 2 = pc') (hv : ls[i]? = some (some (aI v))) (k : Av X l M pc' ls (aI v :: st) h Q) : Av X l M pc ls st h Q := by
  subst hp
  exact fun p e s m args below meth c H locs LS C hh hS hl => lv_iload C.1 C.2.1 hd (prl_get hl hv) (k p e s m args below meth c H locs LS C hh hS hl)


theorem A_lload_n (pc' : Nat) {kk : Fin 4} {i : Nat} {v : Int64} (hd : decode M.2.1 pc = .ok (.lload_n kk, 1)) (hp : pc + 1 = pc') (hi : (kk : Nat) = i) (hv : ls[i]? = some (some (aL v))) (k : Av X l M pc' ls (aL v :: st) h Q) : Av X l M pc ls st h Q := by
  subst hp
  exact fun p e s m args below meth c H locs LS C hh hS hl => lv_lload_n C.1 C.2.1 hd hi (prl_get hl hv) (k p e s m args below meth c H locs LS C hh hS hl)
theorem A_lload (pc' : Nat) {i : Nat} {v : Int64} (hd : decode M.2.1 pc = .ok (.lload i, 2)) (hp : pc + 2 = pc') (hv : ls[i]? = some (some (aL v))) (k : Av X l M pc' ls (aL v :: st) h Q) : Av X l M pc ls st h Q := by
  subst hp
  exact fun p e s m args below meth c H locs LS C hh hS hl => lv_lload C.1 C.2.1 hd (prl_get hl hv) (k p e s m args below meth c H locs LS C hh hS hl)


theorem A_aload_n (pc' : Nat) {kk : Fin 4} {i : Nat} {q : Option (Nat × Nat)} (hd : decode M.2.1 pc = .ok (.aload_n kk, 1)) (hp : pc + 1 = pc') (hi : (kk : Nat) = i) (hv : ls[i]? = some (some (.inl q))) (k : Av X l M pc' ls (.inl q :: st) h Q) : Av X l M pc ls st h Q := by
  subst hp
  intro p e s m args below meth c H locs LS C hh hS hl
  cases q with
  | none => exact lv_aload_nN C.1 C.2.1 hd hi (prl_get hl hv) (k p e s m args below meth c H locs LS C hh hS hl)
  | some q => exact lv_aload_n C.1 C.2.1 hd hi (prl_get hl hv) (k p e s m args below meth c H locs LS C hh hS hl)
theorem A_aload (pc' : Nat) {i : Nat} {q : Option (Nat × Nat)} (hd : decode M.2.1 pc = .ok (.aload i, 2)) (hp : pc + 2 = pc') (hv : ls[i]? = some (some (.inl q))) (k : Av X l M pc' ls (.inl q :: st) h Q) : Av X l M pc ls st h Q := by
  subst hp
  intro p e s m args below meth c H locs LS C hh hS hl
  cases q with
  | none => exact lv_aloadN C.1 C.2.1 hd (prl_get hl hv) (k p e s m args below meth c H locs LS C hh hS hl)
  | some q => exact lv_aload C.1 C.2.1 hd (prl_get hl hv) (k p e s m args below meth c H locs LS C hh hS hl)


theorem A_istore_n (pc' : Nat) {kk : Fin 4} {i : Nat} {v : Int32} {ls' : List (Option AV)} (hd : decode M.2.1 pc = .ok (.istore_n kk, 1)) (hp : pc + 1 = pc') (hi : (kk : Nat) = i) (hn : i < M.2.2.1) (ha : AstP i (aI v) ls ls') (k : Av X l M pc' ls' st h Q) : Av X l M pc ls (aI v :: st) h Q := by
  subst hp
  exact fun p e s m args below meth c H locs LS C hh hS hl => lv_istore_n C.1 C.2.1 hd hi hl hn rfl (fun LS' hl' => k p e s m args below meth c H locs LS' C hh hS (AstP.has (v := aI v) ha hl'))
theorem A_istore (pc' : Nat) {i : Nat} {v : Int32} {ls' : List (Option AV)} (hd : decode M.2.1 pc = .ok (.istore i, 2)) (hp : pc + 2 = pc') (hn : i < M.2.2.1) (ha : AstP i (aI v) ls ls') (k : Av X l M pc' ls' st h Q) : Av X l M pc ls (aI v :: st) h Q := by
  subst hp
  exact fun p e s m args below meth c H locs LS C hh hS hl => lv_istore C.1 C.2.1 hd hl hn rfl (fun LS' hl' => k p e s m args below meth c H locs LS' C hh hS (AstP.has (v := aI v) ha hl'))


theorem A_lstore_n (pc' : Nat) {kk : Fin 4} {i : Nat} {v : Int64} {ls' : List (Option AV)} (hd : decode M.2.1 pc = .ok (.lstore_n kk, 1)) (hp : pc + 1 = pc') (hi : (kk : Nat) = i) (hn : i + 1 < M.2.2.1) (ha : AstL i (aL v) ls ls') (k : Av X l M pc' ls' st h Q) : Av X l M pc ls (aL v :: st) h Q := by
  subst hp
  exact fun p e s m args below meth c H locs LS C hh hS hl => lv_lstore_n C.1 C.2.1 hd hi hl hn rfl (fun LS' hl' => k p e s m args below meth c H locs LS' C hh hS (AstL.has (v := aL v) ha hl'))
theorem A_lstore (pc' : Nat) {i : Nat} {v : Int64} {ls' : List (Option AV)} (hd : decode M.2.1 pc = .ok (.lstore i, 2)) (hp : pc + 2 = pc') (hn : i + 1 < M.2.2.1) (ha : AstL i (aL v) ls ls') (k : Av X l M pc' ls' st h Q) : Av X l M pc ls (aL v :: st) h Q := by
  subst hp
  exact fun p e s m args below meth c H locs LS C hh hS hl => lv_lstore C.1 C.2.1 hd hl hn rfl (fun LS' hl' => k p e s m args below meth c H locs LS' C hh hS (AstL.has (v := aL v) ha hl'))


theorem A_astore_n (pc' : Nat) {kk : Fin 4} {i : Nat} {q : Option (Nat × Nat)} {ls' : List (Option AV)} (hd : decode M.2.1 pc = .ok (.astore_n kk, 1)) (hp : pc + 1 = pc') (hi : (kk : Nat) = i) (hn : i < M.2.2.1) (ha : AstP i (.inl q) ls ls') (k : Av X l M pc' ls' st h Q) : Av X l M pc ls (.inl q :: st) h Q := by
  subst hp
  intro p e s m args below meth c H locs LS C hh hS hl
  cases q with
  | none => exact lv_astore_nN C.1 C.2.1 hd hi hl hn rfl (fun LS' hl' => k p e s m args below meth c H locs LS' C hh hS (AstP.has (v := .inl none) ha hl'))
  | some q => exact lv_astore_n C.1 C.2.1 hd hi hl hn rfl (fun LS' hl' => k p e s m args below meth c H locs LS' C hh hS (AstP.has (v := .inl (some q)) ha hl'))
theorem A_iinc (pc' : Nat) {i : Nat} {n : Int} {x : Int32} (z : Int32) {ls' : List (Option AV)} (hd : decode M.2.1 pc = .ok (.iinc i n, 3)) (hp : pc + 3 = pc') (hx : ls[i]? = some (some (aI x))) (hz : Int32.ofInt n = z) (hn : i < M.2.2.1) (ha : AstP i (aI (x + z)) ls ls') (k : Av X l M pc' ls' st h Q) : Av X l M pc ls st h Q := by
  subst hp
  intro p e s m args below meth c H locs LS C hh hS hl
  obtain ⟨k0, hk0⟩ := List.getElem?_of_mem ((prl_mem (X := X) ls 0 (i, rl X (aI x))).mpr ⟨i, aI x, by rw [Nat.zero_add], hx⟩)
  exact lv_iinc (v := x + z) C.1 C.2.1 hd hl hk0 (by rw [hz]) hn rfl (fun LS' hl' => k p e s m args below meth c H locs LS' C hh hS (AstP.has (v := aI (x + z)) ha hl'))


theorem A_iadd (pc' : Nat) {x y : Int32} (hd : decode M.2.1 pc = .ok (.iadd, 1)) (hp : pc + 1 = pc') (k : Av X l M pc' ls (aI (x + y) :: st) h Q) : Av X l M pc ls (aI y :: aI x :: st) h Q := by
  subst hp
  exact fun p e s m args below meth c H locs LS C hh hS hl => lv_iadd C.1 C.2.1 hd (k p e s m args below meth c H locs LS C hh hS hl)

theorem A_isub (pc' : Nat) {x y : Int32} (hd : decode M.2.1 pc = .ok (.isub, 1)) (hp : pc + 1 = pc') (k : Av X l M pc' ls (aI (x - y) :: st) h Q) : Av X l M pc ls (aI y :: aI x :: st) h Q := by
  subst hp
  exact fun p e s m args below meth c H locs LS C hh hS hl => lv_isub C.1 C.2.1 hd (k p e s m args below meth c H locs LS C hh hS hl)

theorem A_imul (pc' : Nat) {x y : Int32} (hd : decode M.2.1 pc = .ok (.imul, 1)) (hp : pc + 1 = pc') (k : Av X l M pc' ls (aI (x * y) :: st) h Q) : Av X l M pc ls (aI y :: aI x :: st) h Q := by
  subst hp
  exact fun p e s m args below meth c H locs LS C hh hS hl => lv_imul C.1 C.2.1 hd (k p e s m args below meth c H locs LS C hh hS hl)

theorem A_iand (pc' : Nat) {x y : Int32} (hd : decode M.2.1 pc = .ok (.iand, 1)) (hp : pc + 1 = pc') (k : Av X l M pc' ls (aI (x &&& y) :: st) h Q) : Av X l M pc ls (aI y :: aI x :: st) h Q := by
  subst hp
  exact fun p e s m args below meth c H locs LS C hh hS hl => lv_iand C.1 C.2.1 hd (k p e s m args below meth c H locs LS C hh hS hl)

theorem A_ior (pc' : Nat) {x y : Int32} (hd : decode M.2.1 pc = .ok (.ior, 1)) (hp : pc + 1 = pc') (k : Av X l M pc' ls (aI (x ||| y) :: st) h Q) : Av X l M pc ls (aI y :: aI x :: st) h Q := by
  subst hp
  exact fun p e s m args below meth c H locs LS C hh hS hl => lv_ior C.1 C.2.1 hd (k p e s m args below meth c H locs LS C hh hS hl)

theorem A_ixor (pc' : Nat) {x y : Int32} (hd : decode M.2.1 pc = .ok (.ixor, 1)) (hp : pc + 1 = pc') (k : Av X l M pc' ls (aI (x ^^^ y) :: st) h Q) : Av X l M pc ls (aI y :: aI x :: st) h Q := by
  subst hp
  exact fun p e s m args below meth c H locs LS C hh hS hl => lv_ixor C.1 C.2.1 hd (k p e s m args below meth c H locs LS C hh hS hl)

theorem A_idiv (pc' : Nat) {x y : Int32} (hd : decode M.2.1 pc = .ok (.idiv, 1)) (hp : pc + 1 = pc') (hy : ¬ y = 0) (k : Av X l M pc' ls (aI (x / y) :: st) h Q) : Av X l M pc ls (aI y :: aI x :: st) h Q := by
  subst hp
  exact fun p e s m args below meth c H locs LS C hh hS hl => lv_idiv C.1 C.2.1 hd hy (k p e s m args below meth c H locs LS C hh hS hl)

theorem A_irem (pc' : Nat) {x y : Int32} (hd : decode M.2.1 pc = .ok (.irem, 1)) (hp : pc + 1 = pc') (hy : ¬ y = 0) (k : Av X l M pc' ls (aI (x - x / y * y) :: st) h Q) : Av X l M pc ls (aI y :: aI x :: st) h Q := by
  subst hp
  exact fun p e s m args below meth c H locs LS C hh hS hl => lv_irem C.1 C.2.1 hd hy (k p e s m args below meth c H locs LS C hh hS hl)

theorem A_ladd (pc' : Nat) {x y : Int64} (hd : decode M.2.1 pc = .ok (.ladd, 1)) (hp : pc + 1 = pc') (k : Av X l M pc' ls (aL (x + y) :: st) h Q) : Av X l M pc ls (aL y :: aL x :: st) h Q := by
  subst hp
  exact fun p e s m args below meth c H locs LS C hh hS hl => lv_ladd C.1 C.2.1 hd (k p e s m args below meth c H locs LS C hh hS hl)

theorem A_lsub (pc' : Nat) {x y : Int64} (hd : decode M.2.1 pc = .ok (.lsub, 1)) (hp : pc + 1 = pc') (k : Av X l M pc' ls (aL (x - y) :: st) h Q) : Av X l M pc ls (aL y :: aL x :: st) h Q := by
  subst hp
  exact fun p e s m args below meth c H locs LS C hh hS hl => lv_lsub C.1 C.2.1 hd (k p e s m args below meth c H locs LS C hh hS hl)

theorem A_lmul (pc' : Nat) {x y : Int64} (hd : decode M.2.1 pc = .ok (.lmul, 1)) (hp : pc + 1 = pc') (k : Av X l M pc' ls (aL (x * y) :: st) h Q) : Av X l M pc ls (aL y :: aL x :: st) h Q := by
  subst hp
  exact fun p e s m args below meth c H locs LS C hh hS hl => lv_lmul C.1 C.2.1 hd (k p e s m args below meth c H locs LS C hh hS hl)

theorem A_lor (pc' : Nat) {x y : Int64} (hd : decode M.2.1 pc = .ok (.lor, 1)) (hp : pc + 1 = pc') (k : Av X l M pc' ls (aL (x ||| y) :: st) h Q) : Av X l M pc ls (aL y :: aL x :: st) h Q := by
  subst hp
  exact fun p e s m args below meth c H locs LS C hh hS hl => lv_lor C.1 C.2.1 hd (k p e s m args below meth c H locs LS C hh hS hl)

theorem A_ldiv (pc' : Nat) {x y : Int64} (hd : decode M.2.1 pc = .ok (.ldiv, 1)) (hp : pc + 1 = pc') (hy : ¬ y = 0) (k : Av X l M pc' ls (aL (x / y) :: st) h Q) : Av X l M pc ls (aL y :: aL x :: st) h Q := by
  subst hp
  exact fun p e s m args below meth c H locs LS C hh hS hl => lv_ldiv C.1 C.2.1 hd hy (k p e s m args below meth c H locs LS C hh hS hl)

theorem A_lrem (pc' : Nat) {x y : Int64} (hd : decode M.2.1 pc = .ok (.lrem, 1)) (hp : pc + 1 = pc') (hy : ¬ y = 0) (k : Av X l M pc' ls (aL (x - x / y * y) :: st) h Q) : Av X l M pc ls (aL y :: aL x :: st) h Q := by
  subst hp
  exact fun p e s m args below meth c H locs LS C hh hS hl => lv_lrem C.1 C.2.1 hd hy (k p e s m args below meth c H locs LS C hh hS hl)

end RULES
