/-! a second judgement: the outside fixed, cells and slots counted; Lst: the cell made last is in the world's list (so the heap's size is known where a thing is made: Stand has the bound above) -/
abbrev GX : Type := Program × Env × State × MethodId × Array Value × List Frame × Method × Code × (Nat → Prop) × (State → Prop)
def Lst (X : En) (n nc : Nat) : Prop := nc = 0 ∨ ∃ q ∈ X.2.2.2, X.2.2.1 q.1 q.2 + 1 = n + nc
def Ag (G : GX) (X : En) (l : Launch) (M : MI) (nc ns pc : Nat) (ls : List (Option AV)) (st : List AV) (h : Hp) : Prop :=
  ∀ (H : Heap) (locs : List Loc) (LS : Array Slot), Ctx X M G.1 G.2.2.1 G.2.2.2.1 G.2.2.2.2.1 G.2.2.2.2.2.2.1 G.2.2.2.2.2.2.2.1 → HD X h H → (va_S G.2.2.2.2.2.2.2.2.1 G.2.2.1.heap H locs ∧ (∀ a, fA X a → G.2.2.2.2.2.2.2.2.1 a) ∧ Lst X G.2.2.1.heap.size nc ∧ ∀ a, G.2.2.1.heap.size ≤ a → G.2.2.2.2.2.2.2.2.1 a) → lv_has LS M.2.2.1 (prl X 0 ls) →
    W G.1 l G.2.1 M.2.2.2.2 G.2.2.1 G.2.2.2.1 G.2.2.2.2.1 G.2.2.2.2.2.1 G.2.2.2.2.2.2.1 G.2.2.2.2.2.2.2.1 H locs nc ns G.2.2.2.2.2.2.2.2.2 (F0 G.2.2.2.1 pc LS (st.map (rl X)))
section GRULES
variable {G : GX} {X : En} {l : Launch} {M : MI} {nc ns pc : Nat} {ls : List (Option AV)} {st : List AV} {h : Hp}
theorem G_iconst (pc' : Nat) {n : Int} (v : Int32) (hd : decode M.2.1 pc = .ok (.iconst n, 1)) (hp : pc + 1 = pc') (hv : Int32.ofInt n = v) (k : Ag G X l M nc ns pc' ls (aI v :: st) h) : Ag G X l M nc ns pc ls st h := by
  subst hp
  exact fun H locs LS C hh hS hl => lv_iconst (v := v) C.1 C.2.1 hd hv (k H locs LS C hh hS hl)
theorem G_bipush (pc' : Nat) {n : Int} (v : Int32) (hd : decode M.2.1 pc = .ok (.bipush n, 2)) (hp : pc + 2 = pc') (hv : (Int8.ofInt n).toInt32 = v) (k : Ag G X l M nc ns pc' ls (aI v :: st) h) : Ag G X l M nc ns pc ls st h := by
  subst hp
  exact fun H locs LS C hh hS hl => lv_bipush (v := v) C.1 C.2.1 hd hv (k H locs LS C hh hS hl)
theorem G_sipush (pc' : Nat) {n : Int} (v : Int32) (hd : decode M.2.1 pc = .ok (.sipush n, 3)) (hp : pc + 3 = pc') (hv : (Int16.ofInt n).toInt32 = v) (k : Ag G X l M nc ns pc' ls (aI v :: st) h) : Ag G X l M nc ns pc ls st h := by
  subst hp
  exact fun H locs LS C hh hS hl => lv_sipush (v := v) C.1 C.2.1 hd hv (k H locs LS C hh hS hl)
theorem G_iload_n (pc' : Nat) {kk : Fin 4} {i : Nat} {v : Int32} (hd : decode M.2.1 pc = .ok (.iload_n kk, 1)) (hp : pc + 1 = pc') (hi : (kk : Nat) = i) (hv : ls[i]? = some (some (aI v))) (k : Ag G X l M nc ns pc' ls (aI v :: st) h) : Ag G X l M nc ns pc ls st h := by
  subst hp
  exact fun H locs LS C hh hS hl => lv_iload_n C.1 C.2.1 hd hi (prl_get hl hv) (k H locs LS C hh hS hl)
theorem G_iload (pc' : Nat) {i : Nat} {v : Int32} (hd : decode M.2.1 pc = .ok (.iload i, 2)) (hp : pc + 2 = pc') (hv : ls[i]? = some (some (aI v))) (k : Ag G X l M nc ns pc' ls (aI v :: st) h) : Ag G X l M nc ns pc ls st h := by
  subst hp
  exact fun H locs LS C hh hS hl => lv_iload C.1 C.2.1 hd (prl_get hl hv) (k H locs LS C hh hS hl)
theorem G_aload_n (pc' : Nat) {kk : Fin 4} {i : Nat} {q : Option (Nat × Nat)} (hd : decode M.2.1 pc = .ok (.aload_n kk, 1)) (hp : pc + 1 = pc') (hi : (kk : Nat) = i) (hv : ls[i]? = some (some (.inl q))) (k : Ag G X l M nc ns pc' ls (.inl q :: st) h) : Ag G X l M nc ns pc ls st h := by
  subst hp
  intro H locs LS C hh hS hl
  cases q with
  | none => exact lv_aload_nN C.1 C.2.1 hd hi (prl_get hl hv) (k H locs LS C hh hS hl)
  | some q => exact lv_aload_n C.1 C.2.1 hd hi (prl_get hl hv) (k H locs LS C hh hS hl)
theorem G_aload (pc' : Nat) {i : Nat} {q : Option (Nat × Nat)} (hd : decode M.2.1 pc = .ok (.aload i, 2)) (hp : pc + 2 = pc') (hv : ls[i]? = some (some (.inl q))) (k : Ag G X l M nc ns pc' ls (.inl q :: st) h) : Ag G X l M nc ns pc ls st h := by
  subst hp
  intro H locs LS C hh hS hl
  cases q with
  | none => exact lv_aloadN C.1 C.2.1 hd (prl_get hl hv) (k H locs LS C hh hS hl)
  | some q => exact lv_aload C.1 C.2.1 hd (prl_get hl hv) (k H locs LS C hh hS hl)
theorem G_istore_n (pc' : Nat) {kk : Fin 4} {i : Nat} {v : Int32} {ls' : List (Option AV)} (hd : decode M.2.1 pc = .ok (.istore_n kk, 1)) (hp : pc + 1 = pc') (hi : (kk : Nat) = i) (hn : i < M.2.2.1) (ha : AstP i (aI v) ls ls') (k : Ag G X l M nc ns pc' ls' st h) : Ag G X l M nc ns pc ls (aI v :: st) h := by
  subst hp
  exact fun H locs LS C hh hS hl => lv_istore_n C.1 C.2.1 hd hi hl hn rfl (fun LS' hl' => k H locs LS' C hh hS (AstP.has (v := aI v) ha hl'))
theorem G_astore_n (pc' : Nat) {kk : Fin 4} {i : Nat} {q : Option (Nat × Nat)} {ls' : List (Option AV)} (hd : decode M.2.1 pc = .ok (.astore_n kk, 1)) (hp : pc + 1 = pc') (hi : (kk : Nat) = i) (hn : i < M.2.2.1) (ha : AstP i (.inl q) ls ls') (k : Ag G X l M nc ns pc' ls' st h) : Ag G X l M nc ns pc ls (.inl q :: st) h := by
  subst hp
  intro H locs LS C hh hS hl
  cases q with
  | none => exact lv_astore_nN C.1 C.2.1 hd hi hl hn rfl (fun LS' hl' => k H locs LS' C hh hS (AstP.has (v := .inl none) ha hl'))
  | some q => exact lv_astore_n C.1 C.2.1 hd hi hl hn rfl (fun LS' hl' => k H locs LS' C hh hS (AstP.has (v := .inl (some q)) ha hl'))
theorem G_iinc (pc' : Nat) {i : Nat} {n : Int} {x : Int32} (z : Int32) {ls' : List (Option AV)} (hd : decode M.2.1 pc = .ok (.iinc i n, 3)) (hp : pc + 3 = pc') (hx : ls[i]? = some (some (aI x))) (hz : Int32.ofInt n = z) (hn : i < M.2.2.1) (ha : AstP i (aI (x + z)) ls ls') (k : Ag G X l M nc ns pc' ls' st h) : Ag G X l M nc ns pc ls st h := by
  subst hp
  intro H locs LS C hh hS hl
  obtain ⟨k0, hk0⟩ := List.getElem?_of_mem ((prl_mem (X := X) ls 0 (i, rl X (aI x))).mpr ⟨i, aI x, by rw [Nat.zero_add], hx⟩)
  exact lv_iinc (v := x + z) C.1 C.2.1 hd hl hk0 (by rw [hz]) hn rfl (fun LS' hl' => k H locs LS' C hh hS (AstP.has (v := aI (x + z)) ha hl'))
theorem G_iadd (pc' : Nat) {x y : Int32} (hd : decode M.2.1 pc = .ok (.iadd, 1)) (hp : pc + 1 = pc') (k : Ag G X l M nc ns pc' ls (aI (x + y) :: st) h) : Ag G X l M nc ns pc ls (aI y :: aI x :: st) h := by
  subst hp
  exact fun H locs LS C hh hS hl => lv_iadd C.1 C.2.1 hd (k H locs LS C hh hS hl)
theorem G_isub (pc' : Nat) {x y : Int32} (hd : decode M.2.1 pc = .ok (.isub, 1)) (hp : pc + 1 = pc') (k : Ag G X l M nc ns pc' ls (aI (x - y) :: st) h) : Ag G X l M nc ns pc ls (aI y :: aI x :: st) h := by
  subst hp
  exact fun H locs LS C hh hS hl => lv_isub C.1 C.2.1 hd (k H locs LS C hh hS hl)
theorem G_iand (pc' : Nat) {x y : Int32} (hd : decode M.2.1 pc = .ok (.iand, 1)) (hp : pc + 1 = pc') (k : Ag G X l M nc ns pc' ls (aI (x &&& y) :: st) h) : Ag G X l M nc ns pc ls (aI y :: aI x :: st) h := by
  subst hp
  exact fun H locs LS C hh hS hl => lv_iand C.1 C.2.1 hd (k H locs LS C hh hS hl)
theorem G_lcmp (pc' : Nat) {x y : Int64} (hd : decode M.2.1 pc = .ok (.lcmp, 1)) (hp : pc + 1 = pc') (k : Ag G X l M nc ns pc' ls (aI (lg_cmp x y) :: st) h) : Ag G X l M nc ns pc ls (aL y :: aL x :: st) h := by
  subst hp
  exact fun H locs LS C hh hS hl => W.lcmp C.1 C.2.1 hd (k H locs LS C hh hS hl)
theorem G_dup (pc' : Nat) {a : AV} (hd : decode M.2.1 pc = .ok (.dup, 1)) (hp : pc + 1 = pc') (ha : isLg a = false) (k : Ag G X l M nc ns pc' ls (a :: a :: st) h) : Ag G X l M nc ns pc ls (a :: st) h := by
  subst hp
  exact fun H locs LS C hh hS hl => lv_dup C.1 C.2.1 hd (cat1 ha) (k H locs LS C hh hS hl)
theorem G_pop (pc' : Nat) {a : AV} (hd : decode M.2.1 pc = .ok (.pop, 1)) (hp : pc + 1 = pc') (ha : isLg a = false) (k : Ag G X l M nc ns pc' ls st h) : Ag G X l M nc ns pc ls (a :: st) h := by
  subst hp
  exact fun H locs LS C hh hS hl => lv_pop C.1 C.2.1 hd (cat1 ha) (k H locs LS C hh hS hl)
theorem G_goto (pc' : Nat) {off : Int} (hd : decode M.2.1 pc = .ok (.goto off, 3)) (ht : (pc : Int) + off = (pc' : Int)) (k : Ag G X l M nc ns pc' ls st h) : Ag G X l M nc ns pc ls st h :=
  fun H locs LS C hh hS hl => lv_goto C.1 C.2.1 hd ht (k H locs LS C hh hS hl)
theorem G_if_eq (tgt pc' : Nat) {x : Int32} {off : Int} (hd : decode M.2.1 pc = .ok (.ifCond .eq off, 3)) (ht : (pc : Int) + off = (tgt : Int)) (hp : pc + 3 = pc') (kt : x = 0 → Ag G X l M nc ns tgt ls st h) (kf : ¬ x = 0 → Ag G X l M nc ns pc' ls st h) : Ag G X l M nc ns pc ls (aI x :: st) h := by
  subst hp
  exact fun H locs LS C hh hS hl => lv_if_eq C.1 C.2.1 hd ht (fun z => kt z H locs LS C hh hS hl) (fun z => kf z H locs LS C hh hS hl)
theorem G_icmp_eq (tgt pc' : Nat) {x y : Int32} {off : Int} (hd : decode M.2.1 pc = .ok (.if_icmp .eq off, 3)) (ht : (pc : Int) + off = (tgt : Int)) (hp : pc + 3 = pc') (kt : x = y → Ag G X l M nc ns tgt ls st h) (kf : ¬ x = y → Ag G X l M nc ns pc' ls st h) : Ag G X l M nc ns pc ls (aI y :: aI x :: st) h := by
  subst hp
  exact fun H locs LS C hh hS hl => lv_icmp_eq C.1 C.2.1 hd ht (fun z => kt z H locs LS C hh hS hl) (fun z => kf z H locs LS C hh hS hl)
theorem G_if_ne (tgt pc' : Nat) {x : Int32} {off : Int} (hd : decode M.2.1 pc = .ok (.ifCond .ne off, 3)) (ht : (pc : Int) + off = (tgt : Int)) (hp : pc + 3 = pc') (kt : ¬ x = 0 → Ag G X l M nc ns tgt ls st h) (kf : x = 0 → Ag G X l M nc ns pc' ls st h) : Ag G X l M nc ns pc ls (aI x :: st) h := by
  subst hp
  exact fun H locs LS C hh hS hl => lv_if_ne C.1 C.2.1 hd ht (fun z => kt z H locs LS C hh hS hl) (fun z => kf z H locs LS C hh hS hl)
theorem G_icmp_ge (tgt pc' : Nat) {x y : Int32} {off : Int} (hd : decode M.2.1 pc = .ok (.if_icmp .ge off, 3)) (ht : (pc : Int) + off = (tgt : Int)) (hp : pc + 3 = pc') (kt : y ≤ x → Ag G X l M nc ns tgt ls st h) (kf : ¬ y ≤ x → Ag G X l M nc ns pc' ls st h) : Ag G X l M nc ns pc ls (aI y :: aI x :: st) h := by
  subst hp
  exact fun H locs LS C hh hS hl => lv_icmp_ge C.1 C.2.1 hd ht (fun z => kt z H locs LS C hh hS hl) (fun z => kf z H locs LS C hh hS hl)
theorem G_icmp_gt (tgt pc' : Nat) {x y : Int32} {off : Int} (hd : decode M.2.1 pc = .ok (.if_icmp .gt off, 3)) (ht : (pc : Int) + off = (tgt : Int)) (hp : pc + 3 = pc') (kt : y < x → Ag G X l M nc ns tgt ls st h) (kf : ¬ y < x → Ag G X l M nc ns pc' ls st h) : Ag G X l M nc ns pc ls (aI y :: aI x :: st) h := by
  subst hp
  exact fun H locs LS C hh hS hl => lv_icmp_gt C.1 C.2.1 hd ht (fun z => kt z H locs LS C hh hS hl) (fun z => kf z H locs LS C hh hS hl)
theorem G_switch (tgt : Nat) {dflt lo hi : Int} {offs : Array Int} {len : Nat} {x : Int32} {off : Int} (hd : decode M.2.1 pc = .ok (.tableswitch dflt lo hi offs, len)) (h1 : lo ≤ x.toInt ∧ x.toInt ≤ hi) (ho : offs[(x.toInt - lo).toNat]? = some off) (ht : (pc : Int) + off = (tgt : Int)) (k : Ag G X l M nc ns tgt ls st h) : Ag G X l M nc ns pc ls (aI x :: st) h :=
  fun H locs LS C hh hS hl => lv_tableIn C.1 C.2.1 hd (by omega) (by omega) ho ht (k H locs LS C hh hS hl)
theorem G_switchD (tgt : Nat) {dflt lo hi : Int} {offs : Array Int} {len : Nat} {x : Int32} (hd : decode M.2.1 pc = .ok (.tableswitch dflt lo hi offs, len)) (h1 : x.toInt < lo ∨ hi < x.toInt) (ht : (pc : Int) + dflt = (tgt : Int)) (k : Ag G X l M nc ns tgt ls st h) : Ag G X l M nc ns pc ls (aI x :: st) h :=
  fun H locs LS C hh hS hl => lv_tableOut C.1 C.2.1 hd h1 ht (k H locs LS C hh hS hl)
theorem G_lookup (tgt : Nat) {dflt : Int} {ps : Array (Int × Int)} {len : Nat} {x : Int32} {off : Int} (hd : decode M.2.1 pc = .ok (.lookupswitch dflt ps, len)) (hs : (ps.toList.zip (ps.toList.drop 1)).all (fun (a, next) => a.1 < next.1) = true) (ho : Op.lookupswitch.offset ps.toList dflt x.toInt = off) (ht : (pc : Int) + off = (tgt : Int)) (k : Ag G X l M nc ns tgt ls st h) : Ag G X l M nc ns pc ls (aI x :: st) h :=
  fun H locs LS C hh hS hl => lv_lookup C.1 C.2.1 hd hs ho ht (k H locs LS C hh hS hl)
theorem G_getfield (pc' : Nat) {idx ci k o : Nat} {fs : List AV} {as : List AA} {v : AV} (hd : decode M.2.1 pc = .ok (.getfield idx, 3)) (hp : pc + 3 = pc') (hf : FOK M.1.cls idx ci k) (ho : h o = some (ci, fs, as)) (hv : fs[k]? = some v) (kk : Ag G X l M nc ns pc' ls (v :: st) h) : Ag G X l M nc ns pc ls (aR o 0 :: st) h := by
  subst hp
  obtain ⟨Cn, T, N, f1, f2, f3, f4⟩ := hf
  intro H locs LS C hh hS hl
  obtain ⟨q0, -, e1⟩ := wsO_get (hh.2 o _ ho 0 (Nat.zero_le _)) ho
  exact va_get C.1 C.2.1 C.2.2.2.2.2.1 f3 C.2.2.2.2.1 C.2.2.2.2.2.2.1.1 hh.1 q0 (ci := ci) e1 f1 k f2 (C.2.2.2.2.2.1 _ f4) (fun _ z => z) (v := rl X v) (by simp [hv]) hd (kk H locs LS C hh hS hl)
theorem G_arraylength (pc' : Nat) {o k : Nat} {b : Blk} {a : AA} {v : Int32} (hd : decode M.2.1 pc = .ok (.arraylength, 1)) (hp : pc + 1 = pc') (ho : h o = some b) (ha : b.2.2[k]? = some a) (ht : a.1 < 4) (hv : nI a.2.1 = v) (kk : Ag G X l M nc ns pc' ls (aI v :: st) h) : Ag G X l M nc ns pc ls (aR o (k + 1) :: st) h := by
  subst hp
  intro H locs LS C hh hS hl
  obtain ⟨q0, -, e1⟩ := wsO_get (hh.2 o _ ho (k + 1) ((List.getElem?_eq_some_iff.mp ha).1)) ho
  have e2 : clB X b (k + 1) = .inl (X.2.1 a.1, aaV X a) := by simp [clB, ha]
  rw [e2] at e1
  have e3 : (aaV X a).1 = a.2.1 := by
    obtain ⟨t, n, f | f | f⟩ := a <;> rfl
  obtain ⟨ty, hty⟩ : ∃ ty, (tyL X)[a.1]? = some (X.2.1 a.1, ty) := by
    rcases (show a.1 = 0 ∨ a.1 = 1 ∨ a.1 = 2 ∨ a.1 = 3 by omega) with e | e | e | e <;> (rw [e]; exact ⟨_, rfl⟩)
  exact va_alen C.1 C.2.1 C.2.2.2.2.2.2.1.1 hh.1 q0 a.1 e1 hty (v := v) (by rw [e3]; exact hv) hd (kk H locs LS C hh hS hl)
end GRULES
section GNEW
variable {G : GX} {X : En} {l : Launch} {M : MI} {nc ns pc : Nat} {ls : List (Option AV)} {st : List AV} {h : Hp}
abbrev enL (X : En) (L : List (Nat × Nat)) : En := (X.1, X.2.1, X.2.2.1, X.2.2.2 ++ L)
abbrev enP (X : En) (o k : Nat) : En := (X.1, X.2.1, X.2.2.1, X.2.2.2 ++ [(o, k)])
theorem wsO_new {X : En} {h : Hp} {o : Nat} {b : Blk} (hno : ∀ k, (o, k) ∉ X.2.2.2) : wsO (enP X o 0) (hset h o b) = wsO X h ++ [(X.2.2.1 o 0, clB X b 0)] := by
  unfold wsO
  rw [List.map_append]
  congr 1
  · refine List.map_congr_left (fun q hq => ?_)
    have hne : q.1 ≠ o := fun z => hno q.2 (by rw [← z]; exact hq)
    show (_, clO (enP X o 0) (hset h o b) q) = (_, clO X h q)
    unfold clO
    rw [hset_ne hne]
    rfl
  · show [(X.2.2.1 o 0, clO (enP X o 0) (hset h o b) (o, 0))] = _
    unfold clO
    rw [hset_self]
    rfl
theorem EnOK_new {X : En} {h : Hp} {H : Heap} {o k : Nat} (hE : EnOK X) (hP : va_P X.1 vwCl (wsO X h) H) (ha : X.2.2.1 o k = H.size) : EnOK (enP X o k) := by
  have hlt : ∀ q, q ∈ X.2.2.2 → X.2.2.1 q.1 q.2 < H.size := by
    intro q hq
    obtain ⟨i, hi⟩ := List.getElem?_of_mem hq
    have e : (wsO X h)[i]? = some (X.2.2.1 q.1 q.2, clO X h q) := by simp [wsO, hi]
    exact (hP i _ e).lt
  intro i j p q hi hj hpq
  have key : ∀ (i : Nat) (p : Nat × Nat), (X.2.2.2 ++ [(o, k)])[i]? = some p → (i < X.2.2.2.length ∧ X.2.2.2[i]? = some p) ∨ (i = X.2.2.2.length ∧ p = (o, k)) := by
    intro i p hi
    by_cases c : i < X.2.2.2.length
    · rw [List.getElem?_append_left c] at hi
      exact Or.inl ⟨c, hi⟩
    · rw [List.getElem?_append_right (by omega)] at hi
      have hz : i - X.2.2.2.length < 1 := (List.getElem?_eq_some_iff.mp hi).1
      rw [show i - X.2.2.2.length = 0 by omega] at hi
      exact Or.inr ⟨by omega, (Option.some.inj hi).symm⟩
  rcases key i p hi with ⟨c1, c2⟩ | ⟨c1, rfl⟩ <;> rcases key j q hj with ⟨d1, d2⟩ | ⟨d1, rfl⟩
  · exact hE i j p q c2 d2 hpq
  · have h1 := hlt p (List.mem_of_getElem? c2)
    have h2 : X.2.2.1 p.1 p.2 = H.size := Eq.trans hpq ha
    omega
  · have h1 := hlt q (List.mem_of_getElem? d2)
    have h2 : X.2.2.1 q.1 q.2 = H.size := Eq.trans (Eq.symm hpq) ha
    omega
  · omega
theorem rl_enP (X : En) (o k : Nat) (v : AV) : rl (enP X o k) v = rl X v := by
  rcases v with q | (x | x)
  · rfl
  · rfl
  · rfl
theorem prl_enP (X : En) (o k : Nat) : ∀ (ls : List (Option AV)) (i : Nat), prl (enP X o k) i ls = prl X i ls := by
  intro ls
  induction ls with
  | nil => intro i; rfl
  | cons a t ih =>
    intro i
    cases a with
    | none => exact ih (i + 1)
    | some v => show (i, rl (enP X o k) v) :: prl (enP X o k) (i + 1) t = (i, rl X v) :: prl X (i + 1) t; rw [rl_enP, ih]
theorem st_enP (X : En) (o k : Nat) (st : List AV) : st.map (rl (enP X o k)) = st.map (rl X) := List.map_congr_left (fun v _ => rl_enP X o k v)
theorem enL_P (X : En) (L : List (Nat × Nat)) (o k : Nat) : enP (enL X L) o k = enL X (L ++ [(o, k)]) := by simp [enP, enL, List.append_assoc]
theorem enL_L (X : En) (L L2 : List (Nat × Nat)) : enL (enL X L) L2 = enL X (L ++ L2) := by simp [enL, List.append_assoc]
theorem enL_0 (X : En) : enL X [] = X := by simp [enL]
theorem W.sz {p : Program} {l : Launch} {e : Env} {R : Room} {s : State} {m : MethodId} {args : Array Value} {below : List Frame} {meth : Method} {c : Code} {H : Heap} {locs : List Loc} {cells slots : Nat} {Q : State → Prop} {g : JFrame} (k : H.size ≤ s.heap.size + cells → W p l e R s m args below meth c H locs cells slots Q g) : W p l e R s m args below meth c H locs cells slots Q g :=
  fun T hT Y => k (by rw [← hT]; exact Y.heapSize) T hT Y
theorem HD.lt {X : En} {h : Hp} {H : Heap} (hh : HD X h H) {q : Nat × Nat} (hq : q ∈ X.2.2.2) : X.2.2.1 q.1 q.2 < H.size := by
  obtain ⟨i, hi⟩ := List.getElem?_of_mem hq
  have e : (wsO X h)[i]? = some (X.2.2.1 q.1 q.2, clO X h q) := by simp [wsO, hi]
  exact (hh.1 i _ e).lt
theorem Lst.size {X : En} {h : Hp} {H : Heap} {n nc : Nat} (hh : HD X h H) (h0 : n ≤ H.size) (hL : Lst X n nc) (hle : H.size ≤ n + nc) : H.size = n + nc := by
  rcases hL with e | ⟨q, hq, e⟩
  · subst e; omega
  · have := hh.lt hq
    omega
theorem Lst.push {X : En} {n nc o k : Nat} (ha : X.2.2.1 o k = n + nc) : Lst (enP X o k) n (nc + 1) := Or.inr ⟨(o, k), List.mem_append_right _ (List.mem_singleton.mpr rfl), by show X.2.2.1 o k + 1 = _; omega⟩
theorem G_new (pc' : Nat) {idx o ci N : Nat} {X0 : En} {L L' : List (Nat × Nat)} {Cn : String} {T : u_T} (fs : List AV) (ty : Nat → FieldType) (hX : X = enL X0 L) (hd : decode M.2.1 pc = .ok (.new idx, 3)) (hp : pc + 3 = pc') (hc : vwCl[ci]? = some (Cn, T, N)) (hin : ∀ w ∈ u_ws Cn T N, w ∈ TB) (hty : ∀ k, k < N → parseFieldDescriptor (T k).2.2.1 = some (ty k)) (hcl : Cond.classLink M.1.cls idx Cn ∈ TB) (hinst : Cond.instantiable Cn N ∈ TB) (hini : Cond.initialized Cn ∈ TB) (hfs : ∀ j, j < N → defaultValue (ty j) = vp_V (fs.map (rl X)) j) (hR : nc + 1 ≤ M.2.2.2.2.cells ∧ ns + N ≤ M.2.2.2.2.slots) (ha : X.2.2.1 o 0 = G.2.2.1.heap.size + nc) (hmo : ∀ k, X.2.2.1 o 0 ≤ X.2.2.1 o k) (hL : L' = L ++ [(o, 0)]) (kk : ∀ h' : Hp, h' o = some (ci, fs, []) → (∀ i, i ≠ o → h' i = h i) → Ag G (enL X0 L') l M (nc + 1) (ns + N) pc' ls (aR o 0 :: st) h') : Ag G X l M nc ns pc ls st h := by
  have eX : enL X0 L' = enP X o 0 := by rw [hL, hX, enL_P]
  rw [eX] at kk
  clear eX hL hX
  subst hp
  intro H locs LS C0 hh hS hl
  refine W.sz (fun hle => ?_)
  have hsz := Lst.size hh hS.1.1 hS.2.2.1 hle
  have hK := C0.2.2.2.2.2.2.1
  have hKn := hK.1.1 ci _ hc
  have hts := C0.2.2.2.2.2.1
  have haH : X.2.2.1 o 0 = H.size := ha.trans hsz.symm
  have hno : ∀ k, (o, k) ∉ X.2.2.2 := fun k hk => by
    have h1 := hh.lt hk
    have h2 := hmo k
    simp only at h1
    omega
  refine W.newcK C0.1 C0.2.1 C0.2.2.2.2.1 (hts _ hcl) (hts _ hinst) (hts _ hini) rfl hd hR.1 hR.2 hKn.2.1 rfl fun H1 kC hkC e1 z1 o1 => ?_
  have hk : ∀ (k : Nat) (x : Nat × va_E), (wsO X h)[k]? = some x → H1[x.1]? = H[x.1]? := fun k x hx => o1 x.1 ((hh.1 k x hx).lt)
  have hP1 : va_P X.1 vwCl (wsO (enP X o 0) (hset h o (ci, fs, []))) H1 := by
    rw [wsO_new hno]
    refine (hh.1.kept hk).app (fun k x hx => ?_)
    have hz : k < 1 := (List.getElem?_eq_some_iff.mp hx).1
    rw [show k = 0 by omega] at hx
    cases hx
    rw [haH]
    exact ⟨_, hc, (u_born ty hts hin hKn hkC e1 hty).to hfs⟩
  have hD1 : Dm (enP X o 0) (hset h o (ci, fs, [])) := by
    intro i b hb k hkk
    by_cases e : i = o
    · subst e
      rw [hset_self] at hb
      cases hb
      rw [show k = 0 from Nat.le_zero.mp hkk]
      exact List.mem_append_right _ (List.mem_singleton.mpr rfl)
    · rw [hset_ne e] at hb
      exact List.mem_append_left _ (hh.2 i b hb k hkk)
  have hS1 : va_S G.2.2.2.2.2.2.2.2.1 G.2.2.1.heap H1 locs := ⟨Nat.le_trans hS.1.1 (by omega), fun x h1 h2 => (o1 x (Nat.lt_of_lt_of_le h1 hS.1.1)).trans (hS.1.2.1 x h1 h2), hS.1.2.2⟩
  have hA1 : ∀ a, fA (enP X o 0) a → G.2.2.2.2.2.2.2.2.1 a := by
    rintro a ⟨q, hq, rfl⟩
    rcases List.mem_append.mp hq with z | z
    · exact hS.2.1 _ ⟨q, z, rfl⟩
    · rw [List.mem_singleton.mp z]
      exact hS.2.2.2 _ (by show _ ≤ X.2.2.1 o 0; omega)
  have hC1 : Ctx (enP X o 0) M G.1 G.2.2.1 G.2.2.2.1 G.2.2.2.2.1 G.2.2.2.2.2.2.1 G.2.2.2.2.2.2.2.1 := ⟨C0.1, C0.2.1, C0.2.2.1, C0.2.2.2.1, C0.2.2.2.2.1, hts, ⟨hK.1, hK.2.1, EnOK_new hK.2.2 hh.1 haH⟩, C0.2.2.2.2.2.2.2⟩
  have := kk (hset h o (ci, fs, [])) hset_self (fun i hi => hset_ne hi) H1 locs LS hC1 ⟨hP1, hD1⟩ ⟨hS1, hA1, Lst.push ha, hS.2.2.2⟩ (by rw [prl_enP]; exact hl)
  rw [st_enP] at this
  rw [← haH]
  exact this
theorem clB_more {X : En} {b : Blk} {a : AA} {j : Nat} (hj : j ≠ b.2.2.length + 1) : clB X (b.1, b.2.1, b.2.2 ++ [a]) j = clB X b j := by
  cases j with
  | zero => rfl
  | succ j =>
    have e : (b.2.2 ++ [a])[j]? = b.2.2[j]? := by
      by_cases c : j < b.2.2.length
      · exact List.getElem?_append_left c
      · exact (List.getElem?_eq_none (l := b.2.2 ++ [a]) (by rw [List.length_append, List.length_singleton]; omega)).trans (List.getElem?_eq_none (l := b.2.2) (by omega)).symm
    show (match (b.2.2 ++ [a])[j]? with | some a => _ | none => _) = (match b.2.2[j]? with | some a => _ | none => _)
    rw [e]
theorem wsO_newa {X : En} {h : Hp} {o : Nat} {b : Blk} {a : AA} (ho : h o = some b) (hno : (o, b.2.2.length + 1) ∉ X.2.2.2) : wsO (enP X o (b.2.2.length + 1)) (hset h o (b.1, b.2.1, b.2.2 ++ [a])) = wsO X h ++ [(X.2.2.1 o (b.2.2.length + 1), .inl (X.2.1 a.1, aaV X a))] := by
  unfold wsO
  rw [List.map_append]
  congr 1
  · refine List.map_congr_left (fun q hq => ?_)
    show (_, clO (enP X o (b.2.2.length + 1)) (hset h o (b.1, b.2.1, b.2.2 ++ [a])) q) = (_, clO X h q)
    obtain ⟨i, j⟩ := q
    unfold clO
    by_cases e : i = o
    · subst e
      have hj : j ≠ b.2.2.length + 1 := fun z => hno (by rw [← z]; exact hq)
      show (X.2.2.1 i j, (match hset h i (b.1, b.2.1, b.2.2 ++ [a]) i with | some b => clB X b j | none => _)) = (X.2.2.1 i j, (match h i with | some b => clB X b j | none => _))
      rw [hset_self, ho]
      exact congrArg _ (clB_more hj)
    · show (X.2.2.1 i j, (match hset h o (b.1, b.2.1, b.2.2 ++ [a]) i with | some b => clB X b j | none => _)) = (X.2.2.1 i j, (match h i with | some b => clB X b j | none => _))
      rw [hset_ne e]
  · show [(X.2.2.1 o (b.2.2.length + 1), clO (enP X o (b.2.2.length + 1)) (hset h o (b.1, b.2.1, b.2.2 ++ [a])) (o, b.2.2.length + 1))] = _
    unfold clO
    rw [hset_self]
    have e : (b.2.2 ++ [a])[b.2.2.length]? = some a := by simp
    show [(X.2.2.1 o (b.2.2.length + 1), (match (b.2.2 ++ [a])[b.2.2.length]? with | some a => _ | none => _))] = _
    rw [e]
    rfl
/-- an array more of an object: what both kinds of new rows share -/
theorem G_grow {o n : Nat} {b : Blk} {a : AA} {pc2 : Nat} {H H1 : Heap} {locs : List Loc} {LS : Array Slot} (C0 : Ctx X M G.1 G.2.2.1 G.2.2.2.1 G.2.2.2.2.1 G.2.2.2.2.2.2.1 G.2.2.2.2.2.2.2.1) (hh : HD X h H) (hS : va_S G.2.2.2.2.2.2.2.2.1 G.2.2.1.heap H locs ∧ (∀ a, fA X a → G.2.2.2.2.2.2.2.2.1 a) ∧ Lst X G.2.2.1.heap.size nc ∧ ∀ a, G.2.2.1.heap.size ≤ a → G.2.2.2.2.2.2.2.2.1 a) (hl : lv_has LS M.2.2.1 (prl X 0 ls)) (ho : h o = some b) (ha : X.2.2.1 o (b.2.2.length + 1) = G.2.2.1.heap.size + nc) (haH : X.2.2.1 o (b.2.2.length + 1) = H.size) (e1 : H1[H.size]? = some (vp_cell (X.2.1 a.1) (aaV X a))) (z1 : H1.size = H.size + 1) (o1 : ∀ q : Nat, q < H.size → H1[q]? = H[q]?)
    (kk : ∀ h' : Hp, h' o = some (b.1, b.2.1, b.2.2 ++ [a]) → (∀ i, i ≠ o → h' i = h i) → Ag G (enP X o (b.2.2.length + 1)) l M (nc + 1) (ns + n) pc2 ls (aR o (b.2.2.length + 1) :: st) h') :
    W G.1 l G.2.1 M.2.2.2.2 G.2.2.1 G.2.2.2.1 G.2.2.2.2.1 G.2.2.2.2.2.1 G.2.2.2.2.2.2.1 G.2.2.2.2.2.2.2.1 H1 locs (nc + 1) (ns + n) G.2.2.2.2.2.2.2.2.2 (F0 G.2.2.2.1 pc2 LS (.ref H.size :: st.map (rl X))) := by
  have hno : (o, b.2.2.length + 1) ∉ X.2.2.2 := fun hk => by
    have h1 := hh.lt hk
    simp only at h1
    omega
  have hK := C0.2.2.2.2.2.2.1
  have hk : ∀ (k : Nat) (x : Nat × va_E), (wsO X h)[k]? = some x → H1[x.1]? = H[x.1]? := fun k x hx => o1 x.1 ((hh.1 k x hx).lt)
  have hP1 : va_P X.1 vwCl (wsO (enP X o (b.2.2.length + 1)) (hset h o (b.1, b.2.1, b.2.2 ++ [a]))) H1 := by
    rw [wsO_newa ho hno]
    refine (hh.1.kept hk).app (fun k x hx => ?_)
    have hz : k < 1 := (List.getElem?_eq_some_iff.mp hx).1
    rw [show k = 0 by omega] at hx
    cases hx
    rw [haH]
    show H1[H.size]? = some (vp_cell _ _)
    exact e1
  have hD1 : Dm (enP X o (b.2.2.length + 1)) (hset h o (b.1, b.2.1, b.2.2 ++ [a])) := by
    intro i b2 hb k hkk
    by_cases e : i = o
    · subst e
      rw [hset_self] at hb
      cases hb
      by_cases ek : k = b.2.2.length + 1
      · rw [ek]; exact List.mem_append_right _ (List.mem_singleton.mpr rfl)
      · refine List.mem_append_left _ (hh.2 i b ho k ?_)
        have : k ≤ (b.2.2 ++ [a]).length := hkk
        rw [List.length_append, List.length_singleton] at this
        omega
    · rw [hset_ne e] at hb
      exact List.mem_append_left _ (hh.2 i b2 hb k hkk)
  have hS1 : va_S G.2.2.2.2.2.2.2.2.1 G.2.2.1.heap H1 locs := ⟨Nat.le_trans hS.1.1 (by omega), fun x h1 h2 => (o1 x (Nat.lt_of_lt_of_le h1 hS.1.1)).trans (hS.1.2.1 x h1 h2), hS.1.2.2⟩
  have hA1 : ∀ q, fA (enP X o (b.2.2.length + 1)) q → G.2.2.2.2.2.2.2.2.1 q := by
    rintro q0 ⟨q, hq, rfl⟩
    rcases List.mem_append.mp hq with z | z
    · exact hS.2.1 _ ⟨q, z, rfl⟩
    · rw [List.mem_singleton.mp z]
      exact hS.2.2.2 _ (by show _ ≤ X.2.2.1 o (b.2.2.length + 1); omega)
  have hC1 : Ctx (enP X o (b.2.2.length + 1)) M G.1 G.2.2.1 G.2.2.2.1 G.2.2.2.2.1 G.2.2.2.2.2.2.1 G.2.2.2.2.2.2.2.1 := ⟨C0.1, C0.2.1, C0.2.2.1, C0.2.2.2.1, C0.2.2.2.2.1, C0.2.2.2.2.2.1, ⟨hK.1, hK.2.1, EnOK_new hK.2.2 hh.1 haH⟩, C0.2.2.2.2.2.2.2⟩
  have := kk (hset h o (b.1, b.2.1, b.2.2 ++ [a])) hset_self (fun i hi => hset_ne hi) H1 locs LS hC1 ⟨hP1, hD1⟩ ⟨hS1, hA1, Lst.push ha, hS.2.2.2⟩ (by rw [prl_enP]; exact hl)
  rw [st_enP] at this
  rw [← haH]
  exact this
theorem G_newa (pc' : Nat) {o n j : Nat} {X0 : En} {L L' : List (Nat × Nat)} {atype : ArrayType} {b b' : Blk} (a : AA) {v : Int32} (hX : X = enL X0 L) (hd : decode M.2.1 pc = .ok (.newarray atype, 2)) (hp : pc + 2 = pc') (harr : Cond.arrayClass (newarray.typeOf atype) ∈ TB) (ho : h o = some b) (hj : b.2.2.length + 1 = j) (ha : X.2.2.1 o j = G.2.2.1.heap.size + nc) (hv : v = nI n) (hn : n < 2 ^ 31) (hcl : ∀ (s : State) (cA : ClassId), KS X s → s.vm.findClass ("[" ++ (newarray.typeOf atype).toString) = some cA → cA = X.2.1 a.1) (hcell : ∀ cA : ClassId, vp_cell cA (aaV X a) = arrV cA n (fun _ => defaultValue (newarray.typeOf atype))) (hby : n * componentBytes (newarray.typeOf atype) ≤ 536870912) (hR : nc + 1 ≤ M.2.2.2.2.cells ∧ ns + n ≤ M.2.2.2.2.slots) (hL : L' = L ++ [(o, j)]) (hb' : b' = (b.1, b.2.1, b.2.2 ++ [a])) (kk : ∀ h' : Hp, h' o = some b' → (∀ i, i ≠ o → h' i = h i) → Ag G (enL X0 L') l M (nc + 1) (ns + n) pc' ls (aR o j :: st) h') : Ag G X l M nc ns pc ls (aI v :: st) h := by
  have eX : enL X0 L' = enP X o j := by rw [hL, hX, enL_P]
  rw [eX] at kk
  clear eX hL hX
  subst hp
  subst hv
  subst hj
  subst hb'
  intro H locs LS C0 hh hS hl
  refine W.sz (fun hle => ?_)
  have hsz := Lst.size hh hS.1.1 hS.2.2.1 hle
  have hK := C0.2.2.2.2.2.2.1
  have hts := C0.2.2.2.2.2.1
  have haH : X.2.2.1 o (b.2.2.length + 1) = H.size := ha.trans hsz.symm
  refine va_newaK C0.1 C0.2.1 (hts _ harr) rfl hd rfl (nI_pos hn) (nI_clamp hn) hby hR.1 hR.2 rfl fun H1 cA e1 z1 o1 hAr hNm => ?_
  have hcA := hcl _ cA hK hNm
  subst hcA
  exact G_grow C0 hh hS hl ho ha haH (by rw [hcell]; exact e1) z1 o1 kk
theorem G_newq (pc' : Nat) {o n j idx : Nat} {X0 : En} {L L' : List (Nat × Nat)} {b b' : Blk} {v : Int32} (hX : X = enL X0 L) (hAO : va_AO RX8 G.2.2.1) (hd : decode M.2.1 pc = .ok (.anewarray idx, 3)) (hp : pc + 3 = pc') (hcl : Cond.classLink M.1.cls idx RX8 ∈ TB) (ho : h o = some b) (hj : b.2.2.length + 1 = j) (ha : X.2.2.1 o j = G.2.2.1.heap.size + nc) (hv : v = nI n) (hn : n < 2 ^ 31) (hby : n * 4 ≤ 536870912) (hR : nc + 1 ≤ M.2.2.2.2.cells ∧ ns + n ≤ M.2.2.2.2.slots) (hL : L' = L ++ [(o, j)]) (hb' : b' = (b.1, b.2.1, b.2.2 ++ [kQ n (fun _ => none)])) (kk : ∀ h' : Hp, h' o = some b' → (∀ i, i ≠ o → h' i = h i) → Ag G (enL X0 L') l M (nc + 1) (ns + n) pc' ls (aR o j :: st) h') : Ag G X l M nc ns pc ls (aI v :: st) h := by
  have eX : enL X0 L' = enP X o j := by rw [hL, hX, enL_P]
  rw [eX] at kk
  clear eX hL hX
  subst hp
  subst hv
  subst hj
  subst hb'
  intro H locs LS C0 hh hS hl
  refine W.sz (fun hle => ?_)
  have hsz := Lst.size hh hS.1.1 hS.2.2.1 hle
  have hK := C0.2.2.2.2.2.2.1
  have hts := C0.2.2.2.2.2.1
  have haH : X.2.2.1 o (b.2.2.length + 1) = H.size := ha.trans hsz.symm
  have hcn : (nI n).toNatClampNeg = n := nI_clamp hn
  refine W.anew C0.1 C0.2.1 C0.2.2.2.2.1 (hts _ hcl) (va_AO.use hAO) rfl hd rfl (nI_pos hn) (by rw [hcn]; exact hby) hR.1 (by rw [hcn]; exact hR.2) fun cA kA comp f1 f2 f3 f4 => ?_
  rw [hcn]
  have hcA : cA = X.2.1 3 := by
    have h1 := (hK.1.2 3 (X.2.1 3, .object RX8) rfl).2
    obtain ⟨kA2, comp2, g1, g2, g3, g4⟩ := h1
    exact Option.some.inj (f1.symm.trans g4)
  subst hcA
  generalize hH1 : H.push ({ cls := X.2.1 3, slots := Array.replicate n .null, vm := .none } : Cell) = H1
  have z1 : H1.size = H.size + 1 := by rw [← hH1, Array.size_push]
  have e1 : H1[H.size]? = some (arrV (X.2.1 3) n (fun _ => .null)) := by rw [← hH1, Array.getElem?_push_size, ← arrV_new]
  have o1 : ∀ q : Nat, q < H.size → H1[q]? = H[q]? := fun q hq => by rw [← hH1, Array.getElem?_push, if_neg (Nat.ne_of_lt hq)]
  exact G_grow (a := kQ n (fun _ => none)) C0 hh hS hl ho ha haH (by
    show H1[H.size]? = some (vp_cell (X.2.1 3) (n, .inr (.inr (.inr (.inr (fun _ => none))))))
    rw [vp_cell_q]
    exact e1) z1 o1 kk
end GNEW
