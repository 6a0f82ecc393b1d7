section RULES3
variable {X : En} {l : Launch} {M : MI} {pc : Nat} {ls : List (Option AV)} {st : List AV} {h : Hp} {Q : Option AV → Hp → Prop}
/-- the sum of a stack's words -/
def catS (X : En) (st : List AV) : Nat := ((st.map (rl X)).map fun v => v.category).sum
theorem A_run {Q' : Option AV → Hp → Prop} {p : Program} {e : Env} {s : State} {m : MethodId} {args : Array Value} {below : List Frame} {meth : Method} {c : Code} {H : Heap} {locs : List Loc} {LS : Array Slot} {a : Array Value} {stk : List Value}
    (C : Ctx X M p s m args meth c) (hS : va_S (fA X) s.heap H locs) (hl : lv_has LS M.2.2.1 (prl X 0 ls))
    (run : va_Run p l e M.2.2.2.2 s m args below meth c H locs 0 0 0 0 (F0 m pc LS stk) (st.map (rl X)) (QcX X Q' a) (fA X))
    (kk : ∀ r h', Q' r h' → Av X l M (pc + 3) ls (r.toList ++ st) h' Q) :
    W p l e M.2.2.2.2 s m args below meth c H locs 0 0 (MQ below (QcX X Q) args s 0 0 (fA X)) (F0 m pc LS stk) := by
  intro T hT Y
  obtain ⟨v, st₀, t, T', L, h0, X', hL, e1, e2, ⟨⟨r, h', hv, hq, hd'⟩, hz, hk⟩, stp⟩ := run T hT Y
  have hv2 : v = r.map (rl X) := Outcome.returned.inj hv
  subst hv2
  rw [h0] at hz hk
  have hS' : va_S (fA X) s.heap T'.heap (locs ++ L) := ⟨Nat.le_trans hS.1 (by rw [e1]; exact hz), fun q h1 h2 => by rw [e1, hk q (Nat.lt_of_lt_of_le h1 hS.1) h2]; exact hS.2.1 q h1 h2, fun q hq => by
    rcases List.mem_append.mp hq with z | z
    · exact hS.2.2 q z
    · exact hL q z⟩
  obtain ⟨t2, a1, b1⟩ := kk r h' hq p e s m args below meth c T'.heap (locs ++ L) LS C (by rw [e1]; exact hd') hS' hl T' rfl X'
  refine ⟨t2, stp t2 ?_, b1⟩
  have e3 : (r.toList ++ st).map (rl X) = (r.map (rl X)).toList ++ st.map (rl X) := by cases r <;> simp
  rw [e3] at a1
  exact a1
/-- a method of the tables: its own words -/
def MOK (Mc : MI) (n : Nat) : Prop := Cond.code Mc.1 Mc.2.1 Mc.2.2.1 Mc.2.2.2.1 ∈ TB ∧ Cond.initialized Mc.1.cls ∈ TB ∧ (Mc.1.cls ≠ "java/lang/invoke/MethodHandle" ∧ Mc.1.cls ≠ "java/lang/invoke/VarHandle") ∧ (parseMethodDescriptor Mc.1.desc).map (fun d => d.parameters.length) = some n ∧ Mc.2.2.2.2.cells = 0 ∧ Mc.2.2.2.2.slots = 0
def MVK (Mc : MI) (n ci : Nat) : Prop := MOK Mc n ∧ Cond.instanceMethod Mc.1 ∈ TB ∧ Cond.selects Mc.1.cls Mc.1 Mc.1 ∈ TB ∧ (vwCl[ci]?).map (fun q => q.1) = some Mc.1.cls
def MSK (Mc : MI) (n : Nat) : Prop := MOK Mc n ∧ Cond.static Mc.1 ∈ TB
theorem TB_good : ∀ w ∈ TB, goodWord w = true := fun w hw => (List.mem_filter.mp hw).2
theorem TB_ok {s : State} {args : Array Value} (hts : ∀ w ∈ TB, w.before args s = true) (Mc : MI) (hc : Cond.code Mc.1 Mc.2.1 Mc.2.2.1 Mc.2.2.2.1 ∈ TB) : ∀ w ∈ (Cond.code Mc.1 Mc.2.1 Mc.2.2.1 Mc.2.2.2.1 :: TB), ∀ (a' : Array Value) (U : State), s.WarmedH U.vm → w.before a' U = true :=
  pay_in (big := TB) hts (fun w hw => by
    have hw' : w ∈ TB := by
      rcases List.mem_cons.mp hw with rfl | z
      · exact hc
      · exact z
    exact ⟨hw', good_of_word (TB_good w hw')⟩)
theorem CallB_ok {s : State} {args : Array Value} {R : Room} (hts : ∀ w ∈ TB, w.before args s = true) {own : String} {idx n : Nat} {Mc : MI} (hk : MOK Mc n) (hl : Cond.methodLink own idx Mc.1 ∈ TB) (hR : Mc.2.2.2.2.frames + 1 ≤ R.frames ∧ 8 + (Mc.2.2.1 + 11) + Mc.2.2.2.2.locals ≤ R.locals) :
    CallB R s args own idx Mc.1 Mc.2.1 Mc.2.2.1 Mc.2.2.2.1 (Cond.code Mc.1 Mc.2.1 Mc.2.2.1 Mc.2.2.2.1 :: TB) Mc.2.2.2.2 0 0 n :=
  ⟨hk.2.2.2.2.1, hk.2.2.2.2.2, hR.1, hR.2, TB_ok hts Mc hk.1, List.mem_cons_self, hts _ hk.1, hts _ hk.2.1, hk.2.2.1, (fun sig hs => by
    have h2 := hk.2.2.2.1
    rw [hs] at h2
    exact (Option.some.inj h2).symm), hts _ hl⟩
theorem PcX_blind {args : List AV} {h : Hp} : FrameBlind (va_Pc (args.map (rl X)) (fun U => HD X h U.heap ∧ KS X U)) := fun _ _ g mk q => ⟨q.1, q.2.1, q.2.2.calling g mk _⟩
theorem lv_roomX {m : MethodId} {LS : Array Slot} {stk : List Value} (hcat : catS X st ≤ 8) : 2 * (F0 m pc LS stk).monitorRoom + ((st.map (rl X)).map fun v => v.category).sum ≤ 8 := lv_room hcat
theorem A_callV (pc' : Nat) {Mc : MI} {Q' : Option AV → Hp → Prop} {idx b n ci : Nat} {As : List AV} {fs : List AV} {as : List AA} {stk : List AV} (hC : Ct X l Mc (aR b 0 :: As) h Q') (hd : decode M.2.1 pc = .ok (.invokevirtual idx, 3)) (hp : pc + 3 = pc') (hk : MVK Mc n ci) (hl : Cond.methodLink M.1.cls idx Mc.1 ∈ TB) (hn : As.length = n) (ho : h b = some (ci, fs, as)) (hR : Mc.2.2.2.2.frames + 1 ≤ M.2.2.2.2.frames ∧ 8 + (Mc.2.2.1 + 11) + Mc.2.2.2.2.locals ≤ M.2.2.2.2.locals) (hst : stk = As.reverse ++ aR b 0 :: st) (hcat : catS X st ≤ 8) (kk : ∀ r h', Q' r h' → Av X l M pc' ls (r.toList ++ st) h' Q) : Av X l M pc ls stk h Q := by
  subst hp
  intro p e s m args below meth c H locs LS C hh hS hl0
  obtain ⟨hMO, hin, hse, hci⟩ := hk
  have hB := CallB_ok (R := M.2.2.2.2) C.2.2.2.2.2.1 hMO hl hR
  obtain ⟨q0, -, e1⟩ := wsO_get (hh.2 b _ ho 0 (Nat.zero_le _)) ho
  obtain ⟨q, hq1, hq2⟩ := Option.map_eq_some_iff.mp hci
  have hrecv := va_recv C.2.2.2.2.2.2.1.1 hh.1 hq1 e1
  rw [hq2] at hrecv
  refine A_run (Q' := Q') C hS hl0 (va_runV (As := As.map (rl X)) (rest := st.map (rl X)) (b := X.2.2.1 b 0) (C := Mc.1.cls) (n := n) ⟨C.1, C.2.1, C.2.2.2.1, C.2.2.2.2.1, C.2.2.2.2.2.1⟩ hC ⟨hB, C.2.2.2.2.2.1 _ hin, C.2.2.2.2.2.1 _ hse⟩ ⟨PcX_blind, hrecv, fun U hU hW => ⟨rfl, by rw [hU]; exact hh, C.2.2.2.2.2.2.1.warm hW⟩⟩ rfl (by simpa using hn) hl0.1 (by rw [hst]; simp [rl, rlQ, va_rf]) (lv_roomX hcat) hd ⟨Nat.zero_le _, Nat.zero_le _⟩) kk
theorem A_callS (pc' : Nat) {Mc : MI} {Q' : Option AV → Hp → Prop} {idx n : Nat} {As : List AV} {stk : List AV} (hC : Ct X l Mc As h Q') (hd : decode M.2.1 pc = .ok (.invokestatic idx, 3)) (hp : pc + 3 = pc') (hk : MSK Mc n) (hl : Cond.methodLink M.1.cls idx Mc.1 ∈ TB) (hn : As.length = n) (hR : Mc.2.2.2.2.frames + 1 ≤ M.2.2.2.2.frames ∧ 8 + (Mc.2.2.1 + 11) + Mc.2.2.2.2.locals ≤ M.2.2.2.2.locals) (hst : stk = As.reverse ++ st) (hcat : catS X st ≤ 8) (kk : ∀ r h', Q' r h' → Av X l M pc' ls (r.toList ++ st) h' Q) : Av X l M pc ls stk h Q := by
  subst hp
  intro p e s m args below meth c H locs LS C hh hS hl0
  obtain ⟨hMO, hst2⟩ := hk
  have hB := CallB_ok (R := M.2.2.2.2) C.2.2.2.2.2.1 hMO hl hR
  refine A_run (Q' := Q') C hS hl0 (va_runS (As := As.map (rl X)) (rest := st.map (rl X)) (n := n) ⟨C.1, C.2.1, C.2.2.2.1, C.2.2.2.2.1, C.2.2.2.2.2.1⟩ hC ⟨hB, C.2.2.2.2.2.1 _ hst2⟩ ⟨PcX_blind, fun U hU hW => ⟨rfl, by rw [hU]; exact hh, C.2.2.2.2.2.2.1.warm hW⟩⟩ rfl (by simpa using hn) hl0.1 (by rw [hst]; simp) (lv_roomX hcat) hd ⟨Nat.zero_le _, Nat.zero_le _⟩) kk
theorem A_callN (pc' : Nat) {Mc : MI} {Q' : Option AV → Hp → Prop} {idx n : Nat} {host : String} {As : List AV} {stk : List AV} (hC : Ct X l Mc As h Q') (hd : decode M.2.1 pc = .ok (.invokestatic idx, 3)) (hp : pc + 3 = pc') (hk : MSK Mc n) (hl : Cond.methodLinkNest M.1.cls idx Mc.1 host ∈ lw_tbl) (hn : As.length = n) (hR : Mc.2.2.2.2.frames + 1 ≤ M.2.2.2.2.frames ∧ 8 + (Mc.2.2.1 + 11) + Mc.2.2.2.2.locals ≤ M.2.2.2.2.locals) (hst : stk = As.reverse ++ st) (hcat : catS X st ≤ 8) (kk : ∀ r h', Q' r h' → Av X l M pc' ls (r.toList ++ st) h' Q) : Av X l M pc ls stk h Q := by
  subst hp
  intro p e s m args below meth c H locs LS C hh hS hl0
  obtain ⟨hMO, hst2⟩ := hk
  have hts := C.2.2.2.2.2.1
  have hnk : va_Nw (.methodLinkNest M.1.cls idx Mc.1 host) s := C.2.2.2.2.2.2.1.2.1 _ hl rfl
  have hB : va_CN M.2.2.2.2 s args M.1.cls idx Mc.1 host Mc.2.1 Mc.2.2.1 Mc.2.2.2.1 (Cond.code Mc.1 Mc.2.1 Mc.2.2.1 Mc.2.2.2.1 :: TB) Mc.2.2.2.2 0 0 n :=
    ⟨⟨hMO.2.2.2.2.1, hMO.2.2.2.2.2, hR.1, hR.2, TB_ok hts Mc hMO.1, List.mem_cons_self⟩, hts _ hMO.1, hts _ hMO.2.1, hMO.2.2.1, (fun sig hs => by
      have h2 := hMO.2.2.2.1
      rw [hs] at h2
      exact (Option.some.inj h2).symm), va_Nw.use rfl hnk⟩
  refine A_run (Q' := Q') C hS hl0 (va_runSN (As := As.map (rl X)) (rest := st.map (rl X)) (n := n) ⟨C.1, C.2.1, C.2.2.2.1, C.2.2.2.2.1, C.2.2.2.2.2.1⟩ hC ⟨hB, C.2.2.2.2.2.1 _ hst2, trivial⟩ ⟨PcX_blind, fun U hU hW => ⟨rfl, by rw [hU]; exact hh, C.2.2.2.2.2.2.1.warm hW⟩⟩ rfl (by simpa using hn) hl0.1 (by rw [hst]; simp) (lv_roomX hcat) hd ⟨Nat.zero_le _, Nat.zero_le _⟩) kk
/-! Math -/
theorem A_max (pc' : Nat) {idx : Nat} {x y : Int32} (hd : decode M.2.1 pc = .ok (.invokestatic idx, 3)) (hp : pc + 3 = pc') (hl : Cond.methodLink M.1.cls idx Lib.Math.max.name ∈ TB) (hst : Cond.static Lib.Math.max.name ∈ TB) (hi : Cond.initialized "java/lang/Math" ∈ TB) (hc : Cond.code Lib.Math.max.name Lib.Math.max.code 2 (some .int) ∈ TB) (hR : 1 ≤ M.2.2.2.2.frames ∧ catS X st + 13 ≤ M.2.2.2.2.locals) (kk : Av X l M pc' ls (aI (if x < y then y else x) :: st) h Q) : Av X l M pc ls (aI y :: aI x :: st) h Q := by
  subst hp
  intro p e s m args below meth c H locs LS C hh hS hl0
  exact va_mmax C.1 C.2.1 (C.2.2.2.1.trans hl0.1.symm) C.2.2.2.2.1 (C.2.2.2.2.2.1 _ hl) (C.2.2.2.2.2.1 _ hst) (C.2.2.2.2.2.1 _ hi) (C.2.2.2.2.2.1 _ hc) hR.1 hR.2 (Nat.zero_le _) (Nat.zero_le _) hd (kk p e s m args below meth c H locs LS C hh hS hl0)
theorem A_min (pc' : Nat) {idx : Nat} {x y : Int32} (hd : decode M.2.1 pc = .ok (.invokestatic idx, 3)) (hp : pc + 3 = pc') (hl : Cond.methodLink M.1.cls idx Lib.Math.min.name ∈ TB) (hst : Cond.static Lib.Math.min.name ∈ TB) (hi : Cond.initialized "java/lang/Math" ∈ TB) (hc : Cond.code Lib.Math.min.name Lib.Math.min.code 2 (some .int) ∈ TB) (hR : 1 ≤ M.2.2.2.2.frames ∧ catS X st + 13 ≤ M.2.2.2.2.locals) (kk : Av X l M pc' ls (aI (if y < x then y else x) :: st) h Q) : Av X l M pc ls (aI y :: aI x :: st) h Q := by
  subst hp
  intro p e s m args below meth c H locs LS C hh hS hl0
  exact va_mmin C.1 C.2.1 (C.2.2.2.1.trans hl0.1.symm) C.2.2.2.2.1 (C.2.2.2.2.2.1 _ hl) (C.2.2.2.2.2.1 _ hst) (C.2.2.2.2.2.1 _ hi) (C.2.2.2.2.2.1 _ hc) hR.1 hR.2 (Nat.zero_le _) (Nat.zero_le _) hd (kk p e s m args below meth c H locs LS C hh hS hl0)
theorem A_absL (pc' : Nat) {idx : Nat} {x : Int64} (hd : decode M.2.1 pc = .ok (.invokestatic idx, 3)) (hp : pc + 3 = pc') (hl : Cond.methodLink M.1.cls idx Lib.MathLoose.abs_long.x ∈ TB) (hst : Cond.static Lib.MathLoose.abs_long.x ∈ TB) (hi : Cond.initialized "java/lang/Math" ∈ TB) (hc : Cond.code Lib.MathLoose.abs_long.x Lib.MathLoose.abs_long.code 2 (some .long) ∈ TB) (hR : 1 ≤ M.2.2.2.2.frames ∧ catS X st + 13 ≤ M.2.2.2.2.locals) (kk : Av X l M pc' ls (aL (if 0 < x then x else -x) :: st) h Q) : Av X l M pc ls (aL x :: st) h Q := by
  subst hp
  intro p e s m args below meth c H locs LS C hh hS hl0
  exact va_mabs_long C.1 C.2.1 (C.2.2.2.1.trans hl0.1.symm) C.2.2.2.2.1 (C.2.2.2.2.2.1 _ hl) (C.2.2.2.2.2.1 _ hst) (C.2.2.2.2.2.1 _ hi) (C.2.2.2.2.2.1 _ hc) hR.1 hR.2 (Nat.zero_le _) (Nat.zero_le _) hd (kk p e s m args below meth c H locs LS C hh hS hl0)
/-! whole rows copied -/
theorem va_P_same {D : va_G} {cl : List vw_C} {ws : va_W} {H : Heap} {q1 a : Nat} {e e' : va_E} (h : va_P D cl (ws.set q1 (a, e)) H) (he : va_at D cl (a, e) H → va_at D cl (a, e') H) : va_P D cl (ws.set q1 (a, e')) H := by
  intro k q hk
  by_cases hkq : k = q1
  · subst hkq
    by_cases hl : k < ws.length
    · rw [List.getElem?_set_self hl] at hk
      cases hk
      exact he (h k (a, e) (List.getElem?_set_self hl))
    · rw [List.getElem?_eq_none (by simpa using Nat.not_lt.mp hl)] at hk
      cases hk
  · rw [List.getElem?_set_ne (Ne.symm hkq)] at hk
    exact h k q (by rw [List.getElem?_set_ne (Ne.symm hkq)]; exact hk)
theorem A_copy (pc' : Nat) {idx o1 k1 o2 k2 N : Nat} {b1 b2 : Blk} {f g : Nat → Int32} {z1 z2 n : Int32} (hd : decode M.2.1 pc = .ok (.invokestatic idx, 3)) (hp : pc + 3 = pc') (hl : Cond.methodLink M.1.cls idx arraycopyName ∈ TB) (hna : Cond.native arraycopyName ∈ TB) (hst : Cond.static arraycopyName ∈ TB) (hi : Cond.initialized "java/lang/System" ∈ TB) (ho1 : h o1 = some b1) (ha1 : b1.2.2[k1]? = some (kI N f)) (ho2 : h o2 = some b2) (ha2 : b2.2.2[k2]? = some (kI N g)) (hz1 : z1 = 0) (hz2 : z2 = 0) (hn : n = nI N) (hN : N < 2 ^ 31) (hR : 1 ≤ M.2.2.2.2.frames ∧ catS X st + (nativeFrameWords "java/lang/System" "arraycopy" 5 + 11) ≤ M.2.2.2.2.locals) (kk : ∀ h' : Hp, h' o2 = some (b2.1, b2.2.1, b2.2.2.set k2 (kI N f)) → (∀ i, i ≠ o2 → h' i = h i) → Av X l M pc' ls st h' Q) : Av X l M pc ls (aI n :: aI z2 :: aR o2 (k2 + 1) :: aI z1 :: aR o1 (k1 + 1) :: st) h Q := by
  subst hp
  subst hz1
  subst hz2
  subst hn
  intro p e s m args below meth c H locs LS C hh hS hl0
  have hk2 : k2 < b2.2.2.length := (List.getElem?_eq_some_iff.mp ha2).1
  obtain ⟨q0, -, e1⟩ := wsO_get (hh.2 o1 _ ho1 (k1 + 1) ((List.getElem?_eq_some_iff.mp ha1).1)) ho1
  obtain ⟨q1, e0, e2⟩ := wsO_get (hh.2 o2 _ ho2 (k2 + 1) hk2) ho2
  have e3 : clB X b1 (k1 + 1) = .inl (X.2.1 0, aaV X (kI N f)) := by simp [clB, ha1]
  have e4 : clB X b2 (k2 + 1) = .inl (X.2.1 0, aaV X (kI N g)) := by simp [clB, ha2]
  rw [e3] at e1
  rw [e4] at e2
  have z0 : (0 : Int32).toNatClampNeg = 0 := by decide
  have zN : (nI N).toNatClampNeg = N := nI_clamp hN
  have zz : ¬ (0 : Int32) < 0 := by decide
  refine va_copyi C.1 C.2.1 (C.2.2.2.1.trans hl0.1.symm) C.2.2.2.2.1 (C.2.2.2.2.2.1 _ hl) (C.2.2.2.2.2.1 _ hna) (C.2.2.2.2.2.1 _ hst) (C.2.2.2.2.2.1 _ hi) C.2.2.2.2.2.2.1.1 hh.1 (hh.dis C.2.2.2.2.2.2.1.2.2) hS q0 q1 0 0 (ty := .int) e1 e2 rfl rfl rfl zz zz (nI_pos hN) (by rw [z0, zN]; show 0 + N ≤ N; omega) (by rw [z0, zN]; show 0 + N ≤ N; omega) (fun i _ => rfl) hR.1 hR.2 hd (fun H1 locs1 hP hD hS1 => ?_)
  have e5 : (wsO X h).set q1 (X.2.2.1 o2 (k2 + 1), clB X (b2.1, b2.2.1, b2.2.2.set k2 (kI N f)) (k2 + 1)) = wsO X (hset h o2 (b2.1, b2.2.1, b2.2.2.set k2 (kI N f))) := wsO_set C.2.2.2.2.2.2.1.2.2 e0 ho2 hset_self (fun i hi => hset_ne hi) (fun j hj => clB_ne j hj)
  rw [clB_set hk2] at e5
  have hP2 : va_P X.1 vwCl (wsO X (hset h o2 (b2.1, b2.2.1, b2.2.2.set k2 (kI N f)))) H1 := by
    rw [← e5]
    refine va_P_same hP (fun hz => ?_)
    have hz' : H1[X.2.2.1 o2 (k2 + 1)]? = some (vp_cell (X.2.1 0) (N, .inl (va_cpy f g (0 : Int32).toNatClampNeg (0 : Int32).toNatClampNeg (nI N).toNatClampNeg))) := hz
    show H1[X.2.2.1 o2 (k2 + 1)]? = some (vp_cell (X.2.1 0) (N, .inl f))
    rw [hz', z0, zN, vp_cell_i, vp_cell_i]
    congr 1
    unfold arrV
    congr 1
    apply congrArg
    funext j
    have := j.2
    simp [va_cpy]
  exact kk _ hset_self (fun i hi => hset_ne hi) p e s m args below meth c H1 locs1 LS C ⟨hP2, hh.2.set ho2 (by simp)⟩ hS1 hl0
end RULES3
