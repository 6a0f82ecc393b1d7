/-! more rules of the second judgement: fields and rows written, calls, ends, constructors' contracts -/
theorem HD.disA {X : En} {h : Hp} {H : Heap} {A : Nat → Prop} (hE : EnOK X) (hh : HD X h H) (hA : ∀ a, fA X a → A a) : va_D A (wsO X h) := ⟨(hh.dis hE).1, fun k q hk => hA _ ((hh.dis hE).2 k q hk)⟩
/-- a final field of the own class -/
def FFK (own : String) (idx ci k : Nat) (ty : FieldType) : Prop := ∃ (Cn : String) (T : u_T) (N : Nat) (ty0 : Nat → FieldType), vwCl[ci]? = some (Cn, T, N) ∧ k < N ∧ (∀ w ∈ u_ws Cn T N, w ∈ TB) ∧ Cond.fieldLink own idx (T k).1 (T k).2.1 (T k).2.2.1 ∈ TB ∧ (∀ k, k < N → parseFieldDescriptor (T k).2.2.1 = some (ty0 k)) ∧ (∀ a, a < N → ∀ b, b < N → a ≠ b → (T a).2.1 ≠ (T b).2.1) ∧ (T k).2.2.2 = true ∧ ty0 k = ty ∧ (T k).1 = own
/-- a constructor of the tables -/
def MIK (Mc : MI) : Prop := Cond.code Mc.1 Mc.2.1 Mc.2.2.1 none ∈ TB ∧ Cond.initialized Mc.1.cls ∈ TB ∧ (Mc.1.cls ≠ "java/lang/invoke/MethodHandle" ∧ Mc.1.cls ≠ "java/lang/invoke/VarHandle") ∧ (parseMethodDescriptor Mc.1.desc).map (fun d => d.parameters.length) = some 0 ∧ Mc.1.name = "<init>" ∧ Cond.instanceMethod Mc.1 ∈ TB ∧ Mc.2.2.2.1 = none ∧ plainName Mc.1.cls = true ∧ 1 ≤ Mc.2.2.1
def QcC (X : En) (n0 nc : Nat) (L : List (Nat × Nat)) (Q : Hp → Prop) : Array Value → State → Outcome → State → Prop := fun _ st oc t => (oc = .returned none ∧ ∃ h', Q h' ∧ HD (enL X L) h' t.heap ∧ EnOK (enL X L) ∧ Lst (enL X L) n0 nc ∧ ∀ a, fA (enL X L) a → fA X a ∨ n0 ≤ a) ∧ va_F (fun a => fA X a ∨ n0 ≤ a) st t
def CtC (X : En) (l : Launch) (Mc : MI) (o : Nat) (h : Hp) (n0 nc ns : Nat) (L : List (Nat × Nat)) (Q : Hp → Prop) : Prop :=
  Met l Mc.1 (Cond.code Mc.1 Mc.2.1 Mc.2.2.1 none :: TB) Mc.2.2.2.2 (va_Pc [rl X (aR o 0)] (fun U => HD X h U.heap ∧ KS X U ∧ U.heap.size = n0 ∧ va_AO RX8 U)) (QcC X n0 nc L Q) nc ns (fun a => fA X a ∨ n0 ≤ a)
def CG (G : GX) (X : En) (n0 nc ns : Nat) (L : List (Nat × Nat)) (Q : Hp → Prop) : Prop := G.2.2.2.2.2.2.1.name = "<init>" ∧ G.2.2.1.heap.size = n0 ∧ va_AO RX8 G.2.2.1 ∧ G.2.2.2.2.2.2.2.2.1 = (fun a => fA X a ∨ n0 ≤ a) ∧ G.2.2.2.2.2.2.2.2.2 = MQ G.2.2.2.2.2.1 (QcC X n0 nc L Q) G.2.2.2.2.1 G.2.2.1 nc ns (fun a => fA X a ∨ n0 ≤ a)
theorem CtC.intro {X : En} {l : Launch} {Mc : MI} {o n0 nc ns : Nat} {h : Hp} {L : List (Nat × Nat)} {Q : Hp → Prop} (hk : MIK Mc) (k : ∀ G : GX, CG G X n0 nc ns L Q → Ag G (enL X []) l Mc 0 0 0 (some (aR o 0) :: List.replicate (Mc.2.2.1 - 1) none) [] h) : CtC X l Mc o h n0 nc ns L Q := by
  obtain ⟨k1, k2, k3, k4, k5, k6, k7, k8, k9⟩ := hk
  refine Met.ofW (cc := Mc.2.1) (maxL := Mc.2.2.1) (ret := none) k8 rfl ?_
  intro p e s m args' below meth c s₁ B hml hv
  obtain ⟨rfl, hh, hK, hsz, hAO⟩ := hv
  have hts := atoms_spec (ws := Cond.code Mc.1 Mc.2.1 Mc.2.2.1 none :: TB) B.pre
  have hl := lv_entry [rl X (aR o 0)] (n := Mc.2.2.1) k9
  rw [lg_entry_eq]
  have k' := k (p, e, s, m, ([rl X (aR o 0)] : List Value).toArray, below, meth, c, (fun a => fA X a ∨ n0 ≤ a), MQ below (QcC X n0 nc L Q) ([rl X (aR o 0)] : List Value).toArray s nc ns (fun a => fA X a ∨ n0 ≤ a)) ⟨(name_of_methodNamed B.named B.method).1.trans k5, hsz, hAO, rfl, rfl⟩
  rw [enL_0] at k'
  have hpr : ∀ (n i : Nat), prl X i (List.replicate n none) = [] := by
    intro n
    induction n with
    | zero => intro i; rfl
    | succ n ih => intro i; exact ih (i + 1)
  have hl2 : prl X 0 (some (aR o 0) :: List.replicate (Mc.2.2.1 - 1) none) = lv_args 0 [rl X (aR o 0)] := by
    show (0, rl X (aR o 0)) :: prl X 1 (List.replicate (Mc.2.2.1 - 1) none) = _
    rw [hpr]
    rfl
  exact k' s.heap [] _ ⟨B.exec, B.bytes, B.returns.trans k7.symm, hml, findClass_of_methodNamed B.named, fun w hw => hts w (List.mem_cons_of_mem _ hw), hK, B.notSynchronized⟩ hh ⟨va_S.rf, fun a ha => Or.inl ha, Or.inl rfl, fun a ha => Or.inr (by rw [← hsz]; exact ha)⟩ (hl2 ▸ hl)
section GRULES2
variable {G : GX} {X : En} {l : Launch} {M : MI} {nc ns pc : Nat} {ls : List (Option AV)} {st : List AV} {h : Hp}
theorem G_putF (pc' : Nat) {idx ci k o : Nat} {fs : List AV} {as : List AA} {v : AV} {ty : FieldType} {b' : Blk} (hin : G.2.2.2.2.2.2.1.name = "<init>") (hd : decode M.2.1 pc = .ok (.putfield idx, 3)) (hp : pc + 3 = pc') (hf : FFK M.1.cls idx ci k ty) (ho : h o = some (ci, fs, as)) (hv : k < fs.length) (hn : narrow ty (rl X v) = rl X v) (hfit : fits ty (rl X v) = true) (hb' : b' = (ci, fs.set k v, as)) (kk : ∀ h' : Hp, h' o = some b' → (∀ i, i ≠ o → h' i = h i) → Ag G X l M nc ns pc' ls st h') : Ag G X l M nc ns pc ls (v :: aR o 0 :: st) h := by
  subst hp
  subst hb'
  obtain ⟨Cn, T, N, ty0, f1, f2, f3, f4, f5, f6, f7, f8, f9⟩ := hf
  intro H locs LS C hh hS hl
  obtain ⟨q0, e0, e1⟩ := wsO_get (hh.2 o _ ho 0 (Nat.zero_le _)) ho
  refine va_putF C.1 C.2.1 C.2.2.2.2.2.1 f3 ty0 f5 f6 C.2.2.2.2.1 C.2.2.2.2.2.2.1.1 hh.1 (hh.disA C.2.2.2.2.2.2.1.2.2 hS.2.1) hS.1 q0 (ci := ci) e1 f1 k f2 (C.2.2.2.2.2.1 _ f4) (fun _ z => z) f7 hin f9 (ty := ty) (v := rl X v) (by rw [f5 k f2, f8]) hn hfit (by simpa using hv) hd (fun H1 locs1 hP hD hS1 => ?_)
  have e2 : (wsO X h).set q0 (X.2.2.1 o 0, clB X (ci, fs.set k v, as) 0) = wsO X (hset h o (ci, fs.set k v, as)) := wsO_set C.2.2.2.2.2.2.1.2.2 e0 ho hset_self (fun i hi => hset_ne hi) (fun j hj => by
    cases j with
    | zero => exact absurd rfl hj
    | succ j => rfl)
  have e3 : clB X (ci, fs.set k v, as) 0 = .inr (ci, (fs.map (rl X)).set k (rl X v)) := by simp [clB, List.map_set]
  rw [e3] at e2
  rw [e2] at hP
  exact kk _ hset_self (fun i hi => hset_ne hi) H1 locs1 LS C ⟨hP, hh.2.set ho rfl⟩ ⟨hS1, hS.2⟩ hl
theorem G_putI (pc' : Nat) {idx ci k o : Nat} {fs : List AV} {as : List AA} {v : Int32} {b' : Blk} (hd : decode M.2.1 pc = .ok (.putfield idx, 3)) (hp : pc + 3 = pc') (hf : FWK M.1.cls idx ci k .int) (ho : h o = some (ci, fs, as)) (hv : k < fs.length) (hb' : b' = (ci, fs.set k (aI v), as)) (kk : ∀ h' : Hp, h' o = some b' → (∀ i, i ≠ o → h' i = h i) → Ag G X l M nc ns pc' ls st h') : Ag G X l M nc ns pc ls (aI v :: aR o 0 :: st) h := by
  subst hp
  subst hb'
  obtain ⟨Cn, T, N, ty0, f1, f2, f3, f4, f5, f6, f7, f8⟩ := hf
  intro H locs LS C hh hS hl
  obtain ⟨q0, e0, e1⟩ := wsO_get (hh.2 o _ ho 0 (Nat.zero_le _)) ho
  refine va_put C.1 C.2.1 C.2.2.2.2.2.1 f3 ty0 f5 f6 C.2.2.2.2.1 C.2.2.2.2.2.2.1.1 hh.1 (hh.disA C.2.2.2.2.2.2.1.2.2 hS.2.1) hS.1 q0 (ci := ci) e1 f1 k f2 (C.2.2.2.2.2.1 _ f4) (fun _ z => z) f7 (ty := .int) (v := rl X (aI v)) (by rw [f5 k f2, f8]) rfl rfl (by simpa using hv) hd (fun H1 locs1 hP hD hS1 => ?_)
  have e2 : (wsO X h).set q0 (X.2.2.1 o 0, clB X (ci, fs.set k (aI v), as) 0) = wsO X (hset h o (ci, fs.set k (aI v), as)) := wsO_set C.2.2.2.2.2.2.1.2.2 e0 ho hset_self (fun i hi => hset_ne hi) (fun j hj => by
    cases j with
    | zero => exact absurd rfl hj
    | succ j => rfl)
  have e3 : clB X (ci, fs.set k (aI v), as) 0 = .inr (ci, (fs.map (rl X)).set k (rl X (aI v))) := by simp [clB, List.map_set]
  rw [e3] at e2
  rw [e2] at hP
  exact kk _ hset_self (fun i hi => hset_ne hi) H1 locs1 LS C ⟨hP, hh.2.set ho rfl⟩ ⟨hS1, hS.2⟩ hl
theorem G_aastore (pc' : Nat) {o k n j o2 : Nat} {b b2 b' : Blk} {f : Nat → Option (Nat × Nat)} {i : Int32} (hd : decode M.2.1 pc = .ok (.aastore, 1)) (hp : pc + 1 = pc') (ho : h o = some b) (ha : b.2.2[k]? = some (kQ n f)) (hi : ix i n j) (ho2 : h o2 = some b2) (hc2 : b2.1 = 8) (hb' : b' = (b.1, b.2.1, b.2.2.set k (kQ n (va_up f j (some (o2, 0)))))) (kk : ∀ h' : Hp, h' o = some b' → (∀ i, i ≠ o → h' i = h i) → Ag G X l M nc ns pc' ls st h') : Ag G X l M nc ns pc ls (aR o2 0 :: aI i :: aR o (k + 1) :: st) h := by
  subst hp
  subst hb'
  intro H locs LS C hh hS hl
  have hk : k < b.2.2.length := (List.getElem?_eq_some_iff.mp ha).1
  obtain ⟨q0, e0, e1⟩ := wsO_get (hh.2 o _ ho (k + 1) hk) ho
  obtain ⟨q2, -, e5⟩ := wsO_get (hh.2 o2 _ ho2 0 (Nat.zero_le _)) ho2
  have e2 : clB X b (k + 1) = .inl (X.2.1 3, aaV X (kQ n f)) := by simp [clB, ha]
  rw [e2] at e1
  have e6 : clB X b2 0 = .inr (8, b2.2.1.map (rl X)) := by rw [← hc2]; rfl
  rw [e6] at e5
  refine va_astq C.1 C.2.1 C.2.2.2.2.2.2.1.1 hh.1 (hh.disA C.2.2.2.2.2.2.1.2.2 hS.2.1) hS.1 q0 3 q2 8 (r := (RX8, TX8, 6)) e1 rfl e5 rfl hi.vp hd (fun H1 locs1 hP hD hS1 => ?_)
  have e4 : (wsO X h).set q0 (X.2.2.1 o (k + 1), clB X (b.1, b.2.1, b.2.2.set k (kQ n (va_up f j (some (o2, 0))))) (k + 1)) = wsO X (hset h o (b.1, b.2.1, b.2.2.set k (kQ n (va_up f j (some (o2, 0)))))) := wsO_set C.2.2.2.2.2.2.1.2.2 e0 ho hset_self (fun i hi => hset_ne hi) (fun j hj => clB_ne j hj)
  rw [clB_set hk] at e4
  have e7 : aaV X (kQ n (va_up f j (some (o2, 0)))) = (n, .inr (.inr (.inr (.inr (va_up (fun j => rlQ X (f j)) j (some (X.2.2.1 o2 0))))))) := by
    show (n, _) = _
    congr 5
    funext q
    unfold va_up
    by_cases e : q = j
    · rw [if_pos e, if_pos e]; rfl
    · rw [if_neg e, if_neg e]
  have hP2 : va_P X.1 vwCl (wsO X (hset h o (b.1, b.2.1, b.2.2.set k (kQ n (va_up f j (some (o2, 0))))))) H1 := by
    rw [← e4]
    have := hi.1
    subst this
    rw [e7]
    exact hP
  exact kk _ hset_self (fun i hi => hset_ne hi) H1 locs1 LS C ⟨hP2, hh.2.set ho (by simp)⟩ ⟨hS1, hS.2⟩ hl
theorem oi_i : Cond.instanceMethod Lib.objectInit ∈ TB := TB_in 22 (by decide +kernel) (by decide +kernel)
theorem oi_c : Cond.code Lib.objectInit ⟨#[0xb1]⟩ 1 none ∈ TB := TB_in 23 (by decide +kernel) (by decide +kernel)
theorem G_objInit (pc' : Nat) {idx o : Nat} (hd : decode M.2.1 pc = .ok (.invokespecial idx, 3)) (hp : pc + 3 = pc') (hl : Cond.methodLink M.1.cls idx Lib.objectInit ∈ TB) (hR : 1 ≤ M.2.2.2.2.frames ∧ 12 ≤ M.2.2.2.2.locals) (k : Ag G X l M nc ns pc' ls [] h) : Ag G X l M nc ns pc ls [aR o 0] h := by
  subst hp
  intro H locs LS C hh hS hl0
  exact W.objInit C.1 C.2.1 C.2.2.2.2.1 (C.2.2.2.2.2.1 _ hl) (C.2.2.2.2.2.1 _ oi_i) (C.2.2.2.2.2.1 _ oi_c) (g := F0 G.2.2.2.1 pc LS ([aR o 0].map (rl X))) rfl (hl0.1.trans C.2.2.2.1.symm) rfl hd hR.1 (by show 2 * 0 + 0 + 12 ≤ _; omega) (k H locs LS C hh hS hl0)
theorem G_retC {X0 : En} {n0 : Nat} {L : List (Nat × Nat)} {Q : Hp → Prop} (cg : CG G X0 n0 nc ns L Q) (hX : X = enL X0 L) (hd : decode M.2.1 pc = .ok (.return_, 1)) (hr : M.2.2.2.1 = none) (q : Q h) : Ag G X l M nc ns pc ls [] h := by
  subst hX
  intro H locs LS C hh hS hl
  obtain ⟨c1, c2, c3, c4, c5⟩ := cg
  rw [c5]
  rw [c4, c2] at hS
  exact W.vret C.1 C.2.1 (C.2.2.1.trans hr) (fun t ht _ => ⟨⟨rfl, h, q, by rw [ht]; exact hh, C.2.2.2.2.2.2.1.2.2, hS.2.2.1, hS.2.1⟩, hS.1.F ht⟩) hS.1.2.2 hd C.2.2.2.2.2.2.2
theorem G_runC {X0 : En} {L L2 L' : List (Nat × Nat)} {Q : Hp → Prop} {n0 ncc nsc : Nat} {H : Heap} {locs : List Loc} {LS : Array Slot} {a : Array Value} {stk : List Value} (hX : X = enL X0 L) (hL : L' = L ++ L2)
    (C : Ctx X M G.1 G.2.2.1 G.2.2.2.1 G.2.2.2.2.1 G.2.2.2.2.2.2.1 G.2.2.2.2.2.2.2.1) (hS : va_S G.2.2.2.2.2.2.2.2.1 G.2.2.1.heap H locs ∧ (∀ a, fA X a → G.2.2.2.2.2.2.2.2.1 a) ∧ Lst X G.2.2.1.heap.size nc ∧ ∀ a, G.2.2.1.heap.size ≤ a → G.2.2.2.2.2.2.2.2.1 a) (hl : lv_has LS M.2.2.1 (prl X 0 ls)) (hn : n0 = H.size) (hn0 : n0 = G.2.2.1.heap.size + nc)
    (run : va_Run G.1 l G.2.1 M.2.2.2.2 G.2.2.1 G.2.2.2.1 G.2.2.2.2.1 G.2.2.2.2.2.1 G.2.2.2.2.2.2.1 G.2.2.2.2.2.2.2.1 H locs nc ns ncc nsc (F0 G.2.2.2.1 pc LS stk) (st.map (rl X)) (QcC X n0 ncc L2 Q a) (fun a => fA X a ∨ n0 ≤ a))
    (kk : ∀ h', Q h' → Ag G (enL X0 L') l M (nc + ncc) (ns + nsc) (pc + 3) ls st h') :
    W G.1 l G.2.1 M.2.2.2.2 G.2.2.1 G.2.2.2.1 G.2.2.2.2.1 G.2.2.2.2.2.1 G.2.2.2.2.2.2.1 G.2.2.2.2.2.2.2.1 H locs nc ns G.2.2.2.2.2.2.2.2.2 (F0 G.2.2.2.1 pc LS stk) := by
  have eX : enL X0 L' = enL X L2 := by rw [hL, hX, enL_L]
  rw [eX] at kk
  clear eX hL hX
  intro T hT Y
  obtain ⟨v, st₀, t, T', L3, h0, X', hL3, e1, e2, ⟨⟨hv, h', q1, q2, q3, q4, q5⟩, hz, hk⟩, stp⟩ := run T hT Y
  have hv2 : v = none := Outcome.returned.inj hv
  subst hv2
  rw [h0] at hz hk
  have hsz : G.2.2.1.heap.size ≤ n0 := by omega
  have hfr : ∀ a, (fA X a ∨ n0 ≤ a) → G.2.2.2.2.2.2.2.2.1 a := fun a z => z.elim (hS.2.1 a) (fun z => hS.2.2.2 a (by omega))
  have hS' : va_S G.2.2.2.2.2.2.2.2.1 G.2.2.1.heap T'.heap (locs ++ L3) := ⟨Nat.le_trans hS.1.1 (by rw [e1]; exact hz), fun q h1 h2 => by rw [e1, hk q (Nat.lt_of_lt_of_le h1 hS.1.1) (fun z => h2 (hfr q z))]; exact hS.1.2.1 q h1 h2, fun q hq => by
    rcases List.mem_append.mp hq with z | z
    · exact hS.1.2.2 q z
    · exact hfr _ (hL3 q z)⟩
  have hLs : Lst (enL X L2) G.2.2.1.heap.size (nc + ncc) := by
    rcases q4 with z | ⟨q, hq, e⟩
    · subst z
      rcases hS.2.2.1 with z | ⟨q, hq, e⟩
      · exact Or.inl z
      · exact Or.inr ⟨q, List.mem_append_left _ hq, e⟩
    · exact Or.inr ⟨q, hq, by rw [e, hn0]; omega⟩
  have hl' : lv_has LS M.2.2.1 (prl (enL X L2) 0 ls) := by
    have : ∀ (ls : List (Option AV)) (i : Nat), prl (enL X L2) i ls = prl X i ls := by
      intro ls
      induction ls with
      | nil => intro i; rfl
      | cons a t ih =>
        intro i
        cases a with
        | none => exact ih (i + 1)
        | some v => show (i, rl (enL X L2) v) :: prl (enL X L2) (i + 1) t = (i, rl X v) :: prl X (i + 1) t; rw [ih]; rcases v with q | (x | x) <;> rfl
    rw [this]; exact hl
  have hK := C.2.2.2.2.2.2.1
  have hC1 : Ctx (enL X L2) M G.1 G.2.2.1 G.2.2.2.1 G.2.2.2.2.1 G.2.2.2.2.2.2.1 G.2.2.2.2.2.2.2.1 := ⟨C.1, C.2.1, C.2.2.1, C.2.2.2.1, C.2.2.2.2.1, C.2.2.2.2.2.1, ⟨hK.1, hK.2.1, q3⟩, C.2.2.2.2.2.2.2⟩
  have k1 := kk h' q1 T'.heap (locs ++ L3) LS hC1 (by rw [e1]; exact q2) ⟨hS', fun a z => hfr a (q5 a z), hLs, hS.2.2.2⟩ hl'
  have e3 : st.map (rl (enL X L2)) = st.map (rl X) := List.map_congr_left (fun v _ => by rcases v with q | (x | x) <;> rfl)
  rw [e3] at k1
  obtain ⟨t2, a1, b1⟩ := k1 T' rfl X'
  exact ⟨t2, stp t2 a1, b1⟩
theorem PcC_blind {o n0 : Nat} : FrameBlind (va_Pc [rl X (aR o 0)] (fun U => HD X h U.heap ∧ KS X U ∧ U.heap.size = n0 ∧ va_AO RX8 U)) := fun _ U g mk q => ⟨q.1, q.2.1, q.2.2.1.calling g mk _, q.2.2.2.1, va_AO.moved (u := U) (Vm.Alike.refl U.vm) q.2.2.2.2⟩
theorem G_callCN (pc' : Nat) {Mc : MI} {X0 : En} {L L2 L' : List (Nat × Nat)} {Q : Hp → Prop} {idx o n0 ncc nsc : Nat} {host : String} (hX : X = enL X0 L) (hC : CtC X l Mc o h n0 ncc nsc L2 Q) (hAO : va_AO RX8 G.2.2.1) (hd : decode M.2.1 pc = .ok (.invokespecial idx, 3)) (hp : pc + 3 = pc') (hk : MIK Mc) (hl : Cond.methodLinkNest M.1.cls idx Mc.1 host ∈ lw_tbl) (hn0 : n0 = G.2.2.1.heap.size + nc) (hrc : Mc.2.2.2.2.cells = ncc ∧ Mc.2.2.2.2.slots = nsc) (hR : Mc.2.2.2.2.frames + 1 ≤ M.2.2.2.2.frames ∧ 8 + (Mc.2.2.1 + 11) + Mc.2.2.2.2.locals ≤ M.2.2.2.2.locals) (hRc : nc + ncc ≤ M.2.2.2.2.cells ∧ ns + nsc ≤ M.2.2.2.2.slots) (hcat : catS X st ≤ 8) (hL : L' = L ++ L2) (kk : ∀ h', Q h' → Ag G (enL X0 L') l M (nc + ncc) (ns + nsc) pc' ls st h') : Ag G X l M nc ns pc ls (aR o 0 :: st) h := by
  subst hp
  intro H locs LS C hh hS hl0
  refine W.sz (fun hle => ?_)
  have hsz := Lst.size hh hS.1.1 hS.2.2.1 hle
  obtain ⟨k1, k2, k3, k4, k5, k6, k7, k8, k9⟩ := hk
  have hts := C.2.2.2.2.2.1
  have hK := C.2.2.2.2.2.2.1
  have hnk : va_Nw (.methodLinkNest M.1.cls idx Mc.1 host) G.2.2.1 := hK.2.1 _ hl rfl
  have hok := TB_ok hts (Mc.1, Mc.2.1, Mc.2.2.1, none, Mc.2.2.2.2) k1
  have hB : va_CN M.2.2.2.2 G.2.2.1 G.2.2.2.2.1 M.1.cls idx Mc.1 host Mc.2.1 Mc.2.2.1 none (Cond.code Mc.1 Mc.2.1 Mc.2.2.1 none :: TB) Mc.2.2.2.2 ncc nsc 0 :=
    ⟨⟨hrc.1, hrc.2, hR.1, hR.2, hok, List.mem_cons_self⟩, hts _ k1, hts _ k2, k3, (fun sig hs => by
      have h2 := k4
      rw [hs] at h2
      exact (Option.some.inj h2).symm), va_Nw.use rfl hnk⟩
  refine G_runC hX hL C hS hl0 (hn0.trans hsz.symm) hn0 (va_runIN (As := []) (rest := st.map (rl X)) (b := X.2.2.1 o 0) (n := 0) ⟨C.1, C.2.1, C.2.2.2.1, C.2.2.2.2.1, C.2.2.2.2.2.1⟩ hC ⟨hB, k5, hts _ k6⟩ ⟨PcC_blind, fun U hU hW => ⟨rfl, by rw [hU]; exact hh, hK.warm hW, by rw [hU, hn0, hsz], va_AO.moved hW.alike hAO⟩⟩ rfl rfl hl0.1 rfl (lv_roomX hcat) hd hRc) kk
theorem G_callC (pc' : Nat) {Mc : MI} {X0 : En} {L L2 L' : List (Nat × Nat)} {Q : Hp → Prop} {idx o n0 ncc nsc : Nat} (hX : X = enL X0 L) (hC : CtC X l Mc o h n0 ncc nsc L2 Q) (hAO : va_AO RX8 G.2.2.1) (hd : decode M.2.1 pc = .ok (.invokespecial idx, 3)) (hp : pc + 3 = pc') (hk : MIK Mc) (hl : Cond.methodLink M.1.cls idx Mc.1 ∈ TB) (hn0 : n0 = G.2.2.1.heap.size + nc) (hrc : Mc.2.2.2.2.cells = ncc ∧ Mc.2.2.2.2.slots = nsc) (hR : Mc.2.2.2.2.frames + 1 ≤ M.2.2.2.2.frames ∧ 8 + (Mc.2.2.1 + 11) + Mc.2.2.2.2.locals ≤ M.2.2.2.2.locals) (hRc : nc + ncc ≤ M.2.2.2.2.cells ∧ ns + nsc ≤ M.2.2.2.2.slots) (hcat : catS X st ≤ 8) (hL : L' = L ++ L2) (kk : ∀ h', Q h' → Ag G (enL X0 L') l M (nc + ncc) (ns + nsc) pc' ls st h') : Ag G X l M nc ns pc ls (aR o 0 :: st) h := by
  subst hp
  intro H locs LS C hh hS hl0
  refine W.sz (fun hle => ?_)
  have hsz := Lst.size hh hS.1.1 hS.2.2.1 hle
  obtain ⟨k1, k2, k3, k4, k5, k6, k7, k8, k9⟩ := hk
  have hts := C.2.2.2.2.2.1
  have hK := C.2.2.2.2.2.2.1
  have hok := TB_ok hts (Mc.1, Mc.2.1, Mc.2.2.1, none, Mc.2.2.2.2) k1
  have hB : CallB M.2.2.2.2 G.2.2.1 G.2.2.2.2.1 M.1.cls idx Mc.1 Mc.2.1 Mc.2.2.1 none (Cond.code Mc.1 Mc.2.1 Mc.2.2.1 none :: TB) Mc.2.2.2.2 ncc nsc 0 :=
    ⟨hrc.1, hrc.2, hR.1, hR.2, hok, List.mem_cons_self, hts _ k1, hts _ k2, k3, (fun sig hs => by
      have h2 := k4
      rw [hs] at h2
      exact (Option.some.inj h2).symm), hts _ hl⟩
  refine G_runC hX hL C hS hl0 (hn0.trans hsz.symm) hn0 (va_runI (As := []) (rest := st.map (rl X)) (b := X.2.2.1 o 0) (n := 0) ⟨C.1, C.2.1, C.2.2.2.1, C.2.2.2.2.1, C.2.2.2.2.2.1⟩ hC ⟨hB, k5, hts _ k6⟩ ⟨PcC_blind, fun U hU hW => ⟨rfl, by rw [hU]; exact hh, hK.warm hW, by rw [hU, hn0, hsz], va_AO.moved hW.alike hAO⟩⟩ rfl rfl hl0.1 rfl (lv_roomX hcat) hd hRc) kk
/-! calls of what makes nothing -/
theorem G_run {Q' : Option AV → Hp → Prop} {H : Heap} {locs : List Loc} {LS : Array Slot} {a : Array Value} {stk : List Value}
    (C : Ctx X M G.1 G.2.2.1 G.2.2.2.1 G.2.2.2.2.1 G.2.2.2.2.2.2.1 G.2.2.2.2.2.2.2.1) (hS : va_S G.2.2.2.2.2.2.2.2.1 G.2.2.1.heap H locs ∧ (∀ a, fA X a → G.2.2.2.2.2.2.2.2.1 a) ∧ Lst X G.2.2.1.heap.size nc ∧ ∀ a, G.2.2.1.heap.size ≤ a → G.2.2.2.2.2.2.2.2.1 a) (hl : lv_has LS M.2.2.1 (prl X 0 ls))
    (run : va_Run G.1 l G.2.1 M.2.2.2.2 G.2.2.1 G.2.2.2.1 G.2.2.2.2.1 G.2.2.2.2.2.1 G.2.2.2.2.2.2.1 G.2.2.2.2.2.2.2.1 H locs nc ns 0 0 (F0 G.2.2.2.1 pc LS stk) (st.map (rl X)) (QcX X Q' a) (fA X))
    (kk : ∀ r h', Q' r h' → Ag G X l M nc ns (pc + 3) ls (r.toList ++ st) h') :
    W G.1 l G.2.1 M.2.2.2.2 G.2.2.1 G.2.2.2.1 G.2.2.2.2.1 G.2.2.2.2.2.1 G.2.2.2.2.2.2.1 G.2.2.2.2.2.2.2.1 H locs nc ns G.2.2.2.2.2.2.2.2.2 (F0 G.2.2.2.1 pc LS stk) := by
  intro T hT Y
  obtain ⟨v, st₀, t, T', L, h0, X', hL, e1, e2, ⟨⟨r, h', hv, hq, hd'⟩, hz, hk⟩, stp⟩ := run T hT Y
  have hv2 : v = r.map (rl X) := Outcome.returned.inj hv
  subst hv2
  rw [h0] at hz hk
  have hS' : va_S G.2.2.2.2.2.2.2.2.1 G.2.2.1.heap T'.heap (locs ++ L) := ⟨Nat.le_trans hS.1.1 (by rw [e1]; exact hz), fun q h1 h2 => by rw [e1, hk q (Nat.lt_of_lt_of_le h1 hS.1.1) (fun z => h2 (hS.2.1 q z))]; exact hS.1.2.1 q h1 h2, fun q hq => by
    rcases List.mem_append.mp hq with z | z
    · exact hS.1.2.2 q z
    · exact hS.2.1 _ (hL q z)⟩
  obtain ⟨t2, a1, b1⟩ := kk r h' hq T'.heap (locs ++ L) LS C (by rw [e1]; exact hd') ⟨hS', hS.2⟩ hl T' rfl X'
  refine ⟨t2, stp t2 ?_, b1⟩
  have e3 : (r.toList ++ st).map (rl X) = (r.map (rl X)).toList ++ st.map (rl X) := by cases r <;> simp
  rw [e3] at a1
  exact a1
theorem G_callV (pc' : Nat) {Mc : MI} {Q' : Option AV → Hp → Prop} {idx b n ci : Nat} {As : List AV} {fs : List AV} {as : List AA} {stk : List AV} (hC : Ct X l Mc (aR b 0 :: As) h Q') (hd : decode M.2.1 pc = .ok (.invokevirtual idx, 3)) (hp : pc + 3 = pc') (hk : MVK Mc n ci) (hl : Cond.methodLink M.1.cls idx Mc.1 ∈ TB) (hn : As.length = n) (ho : h b = some (ci, fs, as)) (hR : Mc.2.2.2.2.frames + 1 ≤ M.2.2.2.2.frames ∧ 8 + (Mc.2.2.1 + 11) + Mc.2.2.2.2.locals ≤ M.2.2.2.2.locals) (hRc : nc ≤ M.2.2.2.2.cells ∧ ns ≤ M.2.2.2.2.slots) (hst : stk = As.reverse ++ aR b 0 :: st) (hcat : catS X st ≤ 8) (kk : ∀ r h', Q' r h' → Ag G X l M nc ns pc' ls (r.toList ++ st) h') : Ag G X l M nc ns pc ls stk h := by
  subst hp
  intro H locs LS C hh hS hl0
  obtain ⟨hMO, hin, hse, hci⟩ := hk
  have hB := CallB_ok (R := M.2.2.2.2) C.2.2.2.2.2.1 hMO hl hR
  obtain ⟨q0, -, e1⟩ := wsO_get (hh.2 b _ ho 0 (Nat.zero_le _)) ho
  obtain ⟨q, hq1, hq2⟩ := Option.map_eq_some_iff.mp hci
  have hrecv := va_recv C.2.2.2.2.2.2.1.1 hh.1 hq1 e1
  rw [hq2] at hrecv
  refine G_run (Q' := Q') C hS hl0 (va_runV (As := As.map (rl X)) (rest := st.map (rl X)) (b := X.2.2.1 b 0) (C := Mc.1.cls) (n := n) ⟨C.1, C.2.1, C.2.2.2.1, C.2.2.2.2.1, C.2.2.2.2.2.1⟩ hC ⟨hB, C.2.2.2.2.2.1 _ hin, C.2.2.2.2.2.1 _ hse⟩ ⟨PcX_blind, hrecv, fun U hU hW => ⟨rfl, by rw [hU]; exact hh, C.2.2.2.2.2.2.1.warm hW⟩⟩ rfl (by simpa using hn) hl0.1 (by rw [hst]; simp [rl, rlQ, va_rf]) (lv_roomX hcat) hd hRc) kk
theorem G_callVI (pc' : Nat) {Mc : MI} {P : Int32 → Hp → Prop} {idx b n ci : Nat} {As : List AV} {fs : List AV} {as : List AA} {stk : List AV} (hC : Ct X l Mc (aR b 0 :: As) h (QI P)) (hd : decode M.2.1 pc = .ok (.invokevirtual idx, 3)) (hp : pc + 3 = pc') (hk : MVK Mc n ci) (hl : Cond.methodLink M.1.cls idx Mc.1 ∈ TB) (hn : As.length = n) (ho : h b = some (ci, fs, as)) (hR : Mc.2.2.2.2.frames + 1 ≤ M.2.2.2.2.frames ∧ 8 + (Mc.2.2.1 + 11) + Mc.2.2.2.2.locals ≤ M.2.2.2.2.locals) (hRc : nc ≤ M.2.2.2.2.cells ∧ ns ≤ M.2.2.2.2.slots) (hst : stk = As.reverse ++ aR b 0 :: st) (hcat : catS X st ≤ 8) (kk : ∀ v h', P v h' → Ag G X l M nc ns pc' ls (aI v :: st) h') : Ag G X l M nc ns pc ls stk h :=
  G_callV pc' hC hd hp hk hl hn ho hR hRc hst hcat (fun r h' q => by obtain ⟨v, rfl, q⟩ := q; exact kk v h' q)
theorem G_callVL (pc' : Nat) {Mc : MI} {P : Int64 → Hp → Prop} {idx b n ci : Nat} {As : List AV} {fs : List AV} {as : List AA} {stk : List AV} (hC : Ct X l Mc (aR b 0 :: As) h (QL P)) (hd : decode M.2.1 pc = .ok (.invokevirtual idx, 3)) (hp : pc + 3 = pc') (hk : MVK Mc n ci) (hl : Cond.methodLink M.1.cls idx Mc.1 ∈ TB) (hn : As.length = n) (ho : h b = some (ci, fs, as)) (hR : Mc.2.2.2.2.frames + 1 ≤ M.2.2.2.2.frames ∧ 8 + (Mc.2.2.1 + 11) + Mc.2.2.2.2.locals ≤ M.2.2.2.2.locals) (hRc : nc ≤ M.2.2.2.2.cells ∧ ns ≤ M.2.2.2.2.slots) (hst : stk = As.reverse ++ aR b 0 :: st) (hcat : catS X st ≤ 8) (kk : ∀ v h', P v h' → Ag G X l M nc ns pc' ls (aL v :: st) h') : Ag G X l M nc ns pc ls stk h :=
  G_callV pc' hC hd hp hk hl hn ho hR hRc hst hcat (fun r h' q => by obtain ⟨v, rfl, q⟩ := q; exact kk v h' q)
/-- a block whose rows are the same as far as they go -/
theorem G_ext {o : Nat} {b b' : Blk} (ho : h o = some b) (hl : b'.2.2.length = b.2.2.length) (hs : ∀ k H, va_at X.1 vwCl (X.2.2.1 o k, clB X b k) H → va_at X.1 vwCl (X.2.2.1 o k, clB X b' k) H) (k : ∀ h' : Hp, h' o = some b' → (∀ i, i ≠ o → h' i = h i) → Ag G X l M nc ns pc ls st h') : Ag G X l M nc ns pc ls st h := by
  intro H locs LS C hh hS hl0
  refine k _ hset_self (fun i hi => hset_ne hi) H locs LS C ⟨?_, hh.2.set ho hl⟩ hS hl0
  intro j q hq
  simp only [wsO, List.getElem?_map, Option.map_eq_some_iff] at hq
  obtain ⟨a, ha, rfl⟩ := hq
  obtain ⟨ao, ak⟩ := a
  have h1 := hh.1 j (X.2.2.1 ao ak, clO X h (ao, ak)) (by simp [wsO, ha])
  by_cases hao : ao = o
  · subst hao
    simp only [clO, ho] at h1
    simp only [clO, hset_self]
    exact hs ak H h1
  · simp only [clO, hset_ne hao]
    exact h1
theorem kQ_same {n a : Nat} {f g : Nat → Option (Nat × Nat)} {H : Heap} (hfg : ∀ j, j < n → f j = g j) (h : va_at X.1 vwCl (a, .inl (X.2.1 3, aaV X (kQ n f))) H) : va_at X.1 vwCl (a, .inl (X.2.1 3, aaV X (kQ n g))) H := by
  have e : vp_cell (X.2.1 3) (n, .inr (.inr (.inr (.inr (fun j => rlQ X (f j)))))) = vp_cell (X.2.1 3) (n, .inr (.inr (.inr (.inr (fun j => rlQ X (g j)))))) := by
    rw [vp_cell_q, vp_cell_q]
    unfold arrV
    congr 1
    apply congrArg
    funext j
    show va_rf (rlQ X (f j.1)) = va_rf (rlQ X (g j.1))
    rw [hfg j.1 j.2]
  show H[a]? = some (vp_cell (X.2.1 3) (n, .inr (.inr (.inr (.inr (fun j => rlQ X (g j)))))))
  rw [← e]
  exact h
/-! the law's script -/
theorem G_sld (pc' : Nat) {b L os : Nat} {xs : Nat → Int32} {i : Int32} (hX : va_X b L xs G.2.2.1 G.2.2.1.heap) (hbl : b < G.2.2.1.heap.size) (hbA : ¬ G.2.2.2.2.2.2.2.2.1 b) (hos : X.2.2.1 os 0 = b) (hd : decode M.2.1 pc = .ok (.iaload, 1)) (hp : pc + 1 = pc') (hi : vp_in i L) (k : Ag G X l M nc ns pc' ls (aI (xs i.toNatClampNeg) :: st) h) : Ag G X l M nc ns pc ls (aI i :: aR os 0 :: st) h := by
  subst hp
  intro H locs LS C hh hS hl
  have := va_sld (ls := LS) (rest := st.map (rl X)) C.1 C.2.1 hX hbl hbA hS.1 hi hd (k H locs LS C hh hS hl)
  rw [← hos] at this
  exact this
theorem G_slen (pc' : Nat) {b L os : Nat} {xs : Nat → Int32} (hX : va_X b L xs G.2.2.1 G.2.2.1.heap) (hbl : b < G.2.2.1.heap.size) (hbA : ¬ G.2.2.2.2.2.2.2.2.1 b) (hos : X.2.2.1 os 0 = b) (hd : decode M.2.1 pc = .ok (.arraylength, 1)) (hp : pc + 1 = pc') (k : Ag G X l M nc ns pc' ls (aI (nI L) :: st) h) : Ag G X l M nc ns pc ls (aR os 0 :: st) h := by
  subst hp
  intro H locs LS C hh hS hl
  have := va_slen (ls := LS) (rest := st.map (rl X)) C.1 C.2.1 hX hbl hbA hS.1 hd (k H locs LS C hh hS hl)
  rw [← hos] at this
  exact this
end GRULES2
