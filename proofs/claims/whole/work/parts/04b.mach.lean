section RULES2
variable {X : En} {l : Launch} {M : MI} {pc : Nat} {ls : List (Option AV)} {st : List AV} {h : Hp} {Q : Option AV → Hp → Prop}


theorem A_ishl (pc' : Nat) {x y : Int32} (hd : decode M.2.1 pc = .ok (.ishl, 1)) (hp : pc + 1 = pc') (k : Av X l M pc' ls (aI (x <<< (y &&& 31)) :: st) h Q) : Av X l M pc ls (aI y :: aI x :: st) h Q := by
  subst hp
  exact fun p e s m args below meth c H locs LS C hh hS hl => lv_ishl C.1 C.2.1 hd (k p e s m args below meth c H locs LS C hh hS hl)
theorem A_ishr (pc' : Nat) {x y : Int32} (hd : decode M.2.1 pc = .ok (.ishr, 1)) (hp : pc + 1 = pc') (k : Av X l M pc' ls (aI (x >>> (y &&& 31)) :: st) h Q) : Av X l M pc ls (aI y :: aI x :: st) h Q := by
  subst hp
  exact fun p e s m args below meth c H locs LS C hh hS hl => lv_ishr C.1 C.2.1 hd (k p e s m args below meth c H locs LS C hh hS hl)
theorem A_iushr (pc' : Nat) {x y : Int32} (hd : decode M.2.1 pc = .ok (.iushr, 1)) (hp : pc + 1 = pc') (k : Av X l M pc' ls (aI ((x.toUInt32 >>> (y.toUInt32 &&& Int32.toUInt32 31)).toInt32) :: st) h Q) : Av X l M pc ls (aI y :: aI x :: st) h Q := by
  subst hp
  exact fun p e s m args below meth c H locs LS C hh hS hl => lv_iushr C.1 C.2.1 hd rfl (k p e s m args below meth c H locs LS C hh hS hl)
theorem A_lshl (pc' : Nat) {x : Int64} {y : Int32} (hd : decode M.2.1 pc = .ok (.lshl, 1)) (hp : pc + 1 = pc') (k : Av X l M pc' ls (aL (x <<< (y.toInt64 &&& 63)) :: st) h Q) : Av X l M pc ls (aI y :: aL x :: st) h Q := by
  subst hp
  exact fun p e s m args below meth c H locs LS C hh hS hl => lv_lshl C.1 C.2.1 hd rfl (k p e s m args below meth c H locs LS C hh hS hl)
theorem A_i2l (pc' : Nat) {x : Int32} (hd : decode M.2.1 pc = .ok (.i2l, 1)) (hp : pc + 1 = pc') (k : Av X l M pc' ls (aL x.toInt64 :: st) h Q) : Av X l M pc ls (aI x :: st) h Q := by
  subst hp
  exact fun p e s m args below meth c H locs LS C hh hS hl => lv_i2l C.1 C.2.1 hd rfl (k p e s m args below meth c H locs LS C hh hS hl)
theorem A_ineg (pc' : Nat) {x : Int32} (hd : decode M.2.1 pc = .ok (.ineg, 1)) (hp : pc + 1 = pc') (k : Av X l M pc' ls (aI (-x) :: st) h Q) : Av X l M pc ls (aI x :: st) h Q := by
  subst hp
  exact fun p e s m args below meth c H locs LS C hh hS hl => lv_ineg C.1 C.2.1 hd (k p e s m args below meth c H locs LS C hh hS hl)
theorem A_lneg (pc' : Nat) {x : Int64} (hd : decode M.2.1 pc = .ok (.lneg, 1)) (hp : pc + 1 = pc') (k : Av X l M pc' ls (aL (-x) :: st) h Q) : Av X l M pc ls (aL x :: st) h Q := by
  subst hp
  exact fun p e s m args below meth c H locs LS C hh hS hl => lv_lneg C.1 C.2.1 hd (k p e s m args below meth c H locs LS C hh hS hl)
theorem A_lcmp (pc' : Nat) {x y : Int64} (hd : decode M.2.1 pc = .ok (.lcmp, 1)) (hp : pc + 1 = pc') (k : Av X l M pc' ls (aI (lg_cmp x y) :: st) h Q) : Av X l M pc ls (aL y :: aL x :: st) h Q := by
  subst hp
  exact fun p e s m args below meth c H locs LS C hh hS hl => W.lcmp C.1 C.2.1 hd (k p e s m args below meth c H locs LS C hh hS hl)
theorem cat1 {v : AV} (hv : isLg v = false) : (rl X v).category = 1 := by
  rcases v with (_ | q) | (x | x)
  · rfl
  · rfl
  · rfl
  · cases hv
theorem A_dup (pc' : Nat) {a : AV} (hd : decode M.2.1 pc = .ok (.dup, 1)) (hp : pc + 1 = pc') (ha : isLg a = false) (k : Av X l M pc' ls (a :: a :: st) h Q) : Av X l M pc ls (a :: st) h Q := by
  subst hp
  exact fun p e s m args below meth c H locs LS C hh hS hl => lv_dup C.1 C.2.1 hd (cat1 ha) (k p e s m args below meth c H locs LS C hh hS hl)
theorem A_pop (pc' : Nat) {a : AV} (hd : decode M.2.1 pc = .ok (.pop, 1)) (hp : pc + 1 = pc') (ha : isLg a = false) (k : Av X l M pc' ls st h Q) : Av X l M pc ls (a :: st) h Q := by
  subst hp
  exact fun p e s m args below meth c H locs LS C hh hS hl => lv_pop C.1 C.2.1 hd (cat1 ha) (k p e s m args below meth c H locs LS C hh hS hl)
theorem A_dup_x1 (pc' : Nat) {a b : AV} (hd : decode M.2.1 pc = .ok (.dup_x1, 1)) (hp : pc + 1 = pc') (ha : isLg a = false) (hb : isLg b = false) (k : Av X l M pc' ls (a :: b :: a :: st) h Q) : Av X l M pc ls (a :: b :: st) h Q := by
  subst hp
  exact fun p e s m args below meth c H locs LS C hh hS hl => lv_dup_x1 C.1 C.2.1 hd (cat1 ha) (cat1 hb) (k p e s m args below meth c H locs LS C hh hS hl)
theorem A_dup2 (pc' : Nat) {a b : AV} (hd : decode M.2.1 pc = .ok (.dup2, 1)) (hp : pc + 1 = pc') (ha : isLg a = false) (hb : isLg b = false) (k : Av X l M pc' ls (a :: b :: a :: b :: st) h Q) : Av X l M pc ls (a :: b :: st) h Q := by
  subst hp
  exact fun p e s m args below meth c H locs LS C hh hS hl => lv_dup2_11 C.1 C.2.1 hd (cat1 ha) (cat1 hb) (k p e s m args below meth c H locs LS C hh hS hl)
theorem A_goto (pc' : Nat) {off : Int} (hd : decode M.2.1 pc = .ok (.goto off, 3)) (ht : (pc : Int) + off = (pc' : Int)) (k : Av X l M pc' ls st h Q) : Av X l M pc ls st h Q :=
  fun p e s m args below meth c H locs LS C hh hS hl => lv_goto C.1 C.2.1 hd ht (k p e s m args below meth c H locs LS C hh hS hl)

theorem A_if_eq (tgt pc' : Nat) {x : Int32} {off : Int} (hd : decode M.2.1 pc = .ok (.ifCond .eq off, 3)) (ht : (pc : Int) + off = (tgt : Int)) (hp : pc + 3 = pc') (kt : x = 0 → Av X l M tgt ls st h Q) (kf : ¬ x = 0 → Av X l M pc' ls st h Q) : Av X l M pc ls (aI x :: st) h Q := by
  subst hp
  exact fun p e s m args below meth c H locs LS C hh hS hl => lv_if_eq C.1 C.2.1 hd ht (fun z => kt z p e s m args below meth c H locs LS C hh hS hl) (fun z => kf z p e s m args below meth c H locs LS C hh hS hl)
theorem A_icmp_eq (tgt pc' : Nat) {x y : Int32} {off : Int} (hd : decode M.2.1 pc = .ok (.if_icmp .eq off, 3)) (ht : (pc : Int) + off = (tgt : Int)) (hp : pc + 3 = pc') (kt : x = y → Av X l M tgt ls st h Q) (kf : ¬ x = y → Av X l M pc' ls st h Q) : Av X l M pc ls (aI y :: aI x :: st) h Q := by
  subst hp
  exact fun p e s m args below meth c H locs LS C hh hS hl => lv_icmp_eq C.1 C.2.1 hd ht (fun z => kt z p e s m args below meth c H locs LS C hh hS hl) (fun z => kf z p e s m args below meth c H locs LS C hh hS hl)
theorem A_if_ne (tgt pc' : Nat) {x : Int32} {off : Int} (hd : decode M.2.1 pc = .ok (.ifCond .ne off, 3)) (ht : (pc : Int) + off = (tgt : Int)) (hp : pc + 3 = pc') (kt : ¬ x = 0 → Av X l M tgt ls st h Q) (kf : x = 0 → Av X l M pc' ls st h Q) : Av X l M pc ls (aI x :: st) h Q := by
  subst hp
  exact fun p e s m args below meth c H locs LS C hh hS hl => lv_if_ne C.1 C.2.1 hd ht (fun z => kt z p e s m args below meth c H locs LS C hh hS hl) (fun z => kf z p e s m args below meth c H locs LS C hh hS hl)
theorem A_icmp_ne (tgt pc' : Nat) {x y : Int32} {off : Int} (hd : decode M.2.1 pc = .ok (.if_icmp .ne off, 3)) (ht : (pc : Int) + off = (tgt : Int)) (hp : pc + 3 = pc') (kt : ¬ x = y → Av X l M tgt ls st h Q) (kf : x = y → Av X l M pc' ls st h Q) : Av X l M pc ls (aI y :: aI x :: st) h Q := by
  subst hp
  exact fun p e s m args below meth c H locs LS C hh hS hl => lv_icmp_ne C.1 C.2.1 hd ht (fun z => kt z p e s m args below meth c H locs LS C hh hS hl) (fun z => kf z p e s m args below meth c H locs LS C hh hS hl)
theorem A_if_lt (tgt pc' : Nat) {x : Int32} {off : Int} (hd : decode M.2.1 pc = .ok (.ifCond .lt off, 3)) (ht : (pc : Int) + off = (tgt : Int)) (hp : pc + 3 = pc') (kt : x < 0 → Av X l M tgt ls st h Q) (kf : ¬ x < 0 → Av X l M pc' ls st h Q) : Av X l M pc ls (aI x :: st) h Q := by
  subst hp
  exact fun p e s m args below meth c H locs LS C hh hS hl => lv_if_lt C.1 C.2.1 hd ht (fun z => kt z p e s m args below meth c H locs LS C hh hS hl) (fun z => kf z p e s m args below meth c H locs LS C hh hS hl)
theorem A_icmp_lt (tgt pc' : Nat) {x y : Int32} {off : Int} (hd : decode M.2.1 pc = .ok (.if_icmp .lt off, 3)) (ht : (pc : Int) + off = (tgt : Int)) (hp : pc + 3 = pc') (kt : x < y → Av X l M tgt ls st h Q) (kf : ¬ x < y → Av X l M pc' ls st h Q) : Av X l M pc ls (aI y :: aI x :: st) h Q := by
  subst hp
  exact fun p e s m args below meth c H locs LS C hh hS hl => lv_icmp_lt C.1 C.2.1 hd ht (fun z => kt z p e s m args below meth c H locs LS C hh hS hl) (fun z => kf z p e s m args below meth c H locs LS C hh hS hl)
theorem A_if_ge (tgt pc' : Nat) {x : Int32} {off : Int} (hd : decode M.2.1 pc = .ok (.ifCond .ge off, 3)) (ht : (pc : Int) + off = (tgt : Int)) (hp : pc + 3 = pc') (kt : 0 ≤ x → Av X l M tgt ls st h Q) (kf : ¬ 0 ≤ x → Av X l M pc' ls st h Q) : Av X l M pc ls (aI x :: st) h Q := by
  subst hp
  exact fun p e s m args below meth c H locs LS C hh hS hl => lv_if_ge C.1 C.2.1 hd ht (fun z => kt z p e s m args below meth c H locs LS C hh hS hl) (fun z => kf z p e s m args below meth c H locs LS C hh hS hl)
theorem A_icmp_ge (tgt pc' : Nat) {x y : Int32} {off : Int} (hd : decode M.2.1 pc = .ok (.if_icmp .ge off, 3)) (ht : (pc : Int) + off = (tgt : Int)) (hp : pc + 3 = pc') (kt : y ≤ x → Av X l M tgt ls st h Q) (kf : ¬ y ≤ x → Av X l M pc' ls st h Q) : Av X l M pc ls (aI y :: aI x :: st) h Q := by
  subst hp
  exact fun p e s m args below meth c H locs LS C hh hS hl => lv_icmp_ge C.1 C.2.1 hd ht (fun z => kt z p e s m args below meth c H locs LS C hh hS hl) (fun z => kf z p e s m args below meth c H locs LS C hh hS hl)
theorem A_if_gt (tgt pc' : Nat) {x : Int32} {off : Int} (hd : decode M.2.1 pc = .ok (.ifCond .gt off, 3)) (ht : (pc : Int) + off = (tgt : Int)) (hp : pc + 3 = pc') (kt : 0 < x → Av X l M tgt ls st h Q) (kf : ¬ 0 < x → Av X l M pc' ls st h Q) : Av X l M pc ls (aI x :: st) h Q := by
  subst hp
  exact fun p e s m args below meth c H locs LS C hh hS hl => lv_if_gt C.1 C.2.1 hd ht (fun z => kt z p e s m args below meth c H locs LS C hh hS hl) (fun z => kf z p e s m args below meth c H locs LS C hh hS hl)
theorem A_icmp_gt (tgt pc' : Nat) {x y : Int32} {off : Int} (hd : decode M.2.1 pc = .ok (.if_icmp .gt off, 3)) (ht : (pc : Int) + off = (tgt : Int)) (hp : pc + 3 = pc') (kt : y < x → Av X l M tgt ls st h Q) (kf : ¬ y < x → Av X l M pc' ls st h Q) : Av X l M pc ls (aI y :: aI x :: st) h Q := by
  subst hp
  exact fun p e s m args below meth c H locs LS C hh hS hl => lv_icmp_gt C.1 C.2.1 hd ht (fun z => kt z p e s m args below meth c H locs LS C hh hS hl) (fun z => kf z p e s m args below meth c H locs LS C hh hS hl)
theorem A_if_le (tgt pc' : Nat) {x : Int32} {off : Int} (hd : decode M.2.1 pc = .ok (.ifCond .le off, 3)) (ht : (pc : Int) + off = (tgt : Int)) (hp : pc + 3 = pc') (kt : x ≤ 0 → Av X l M tgt ls st h Q) (kf : ¬ x ≤ 0 → Av X l M pc' ls st h Q) : Av X l M pc ls (aI x :: st) h Q := by
  subst hp
  exact fun p e s m args below meth c H locs LS C hh hS hl => lv_if_le C.1 C.2.1 hd ht (fun z => kt z p e s m args below meth c H locs LS C hh hS hl) (fun z => kf z p e s m args below meth c H locs LS C hh hS hl)
theorem A_icmp_le (tgt pc' : Nat) {x y : Int32} {off : Int} (hd : decode M.2.1 pc = .ok (.if_icmp .le off, 3)) (ht : (pc : Int) + off = (tgt : Int)) (hp : pc + 3 = pc') (kt : x ≤ y → Av X l M tgt ls st h Q) (kf : ¬ x ≤ y → Av X l M pc' ls st h Q) : Av X l M pc ls (aI y :: aI x :: st) h Q := by
  subst hp
  exact fun p e s m args below meth c H locs LS C hh hS hl => lv_icmp_le C.1 C.2.1 hd ht (fun z => kt z p e s m args below meth c H locs LS C hh hS hl) (fun z => kf z p e s m args below meth c H locs LS C hh hS hl)

theorem A_ifnull (tgt pc' : Nat) {q : Option (Nat × Nat)} {off : Int} (hd : decode M.2.1 pc = .ok (.ifnull off, 3)) (ht : (pc : Int) + off = (tgt : Int)) (hp : pc + 3 = pc') (kt : q = none → Av X l M tgt ls st h Q) (kf : ¬ q = none → Av X l M pc' ls st h Q) : Av X l M pc ls (.inl q :: st) h Q := by
  subst hp
  intro p e s m args below meth c H locs LS C hh hS hl
  cases q with
  | none => exact lv_ifnullN C.1 C.2.1 hd ht (kt rfl p e s m args below meth c H locs LS C hh hS hl)
  | some q => exact lv_ifnull C.1 C.2.1 hd (kf (fun z => by cases z) p e s m args below meth c H locs LS C hh hS hl)
theorem A_ifnonnull (tgt pc' : Nat) {q : Option (Nat × Nat)} {off : Int} (hd : decode M.2.1 pc = .ok (.ifnonnull off, 3)) (ht : (pc : Int) + off = (tgt : Int)) (hp : pc + 3 = pc') (kt : ¬ q = none → Av X l M tgt ls st h Q) (kf : q = none → Av X l M pc' ls st h Q) : Av X l M pc ls (.inl q :: st) h Q := by
  subst hp
  intro p e s m args below meth c H locs LS C hh hS hl
  cases q with
  | none => exact lv_ifnonnullN C.1 C.2.1 hd (kf rfl p e s m args below meth c H locs LS C hh hS hl)
  | some q => exact lv_ifnonnull C.1 C.2.1 hd ht (kt (fun z => by cases z) p e s m args below meth c H locs LS C hh hS hl)
/-- switches: the case told, or none -/
theorem A_switch (tgt : Nat) {dflt lo hi : Int} {offs : Array Int} {len : Nat} {x : Int32} {off : Int} (hd : decode M.2.1 pc = .ok (.tableswitch dflt lo hi offs, len)) (h1 : lo ≤ x.toInt ∧ x.toInt ≤ hi) (ho : offs[(x.toInt - lo).toNat]? = some off) (ht : (pc : Int) + off = (tgt : Int)) (k : Av X l M tgt ls st h Q) : Av X l M pc ls (aI x :: st) h Q :=
  fun p e s m args below meth c H locs LS C hh hS hl => lv_tableIn C.1 C.2.1 hd (by omega) (by omega) ho ht (k p e s m args below meth c H locs LS C hh hS hl)
theorem A_switchD (tgt : Nat) {dflt lo hi : Int} {offs : Array Int} {len : Nat} {x : Int32} (hd : decode M.2.1 pc = .ok (.tableswitch dflt lo hi offs, len)) (h1 : x.toInt < lo ∨ hi < x.toInt) (ht : (pc : Int) + dflt = (tgt : Int)) (k : Av X l M tgt ls st h Q) : Av X l M pc ls (aI x :: st) h Q :=
  fun p e s m args below meth c H locs LS C hh hS hl => lv_tableOut C.1 C.2.1 hd h1 ht (k p e s m args below meth c H locs LS C hh hS hl)
theorem A_lookup (tgt : Nat) {dflt : Int} {ps : Array (Int × Int)} {len : Nat} {x : Int32} {off : Int} (hd : decode M.2.1 pc = .ok (.lookupswitch dflt ps, len)) (hs : (ps.toList.zip (ps.toList.drop 1)).all (fun (a, next) => a.1 < next.1) = true) (ho : Op.lookupswitch.offset ps.toList dflt x.toInt = off) (ht : (pc : Int) + off = (tgt : Int)) (k : Av X l M tgt ls st h Q) : Av X l M pc ls (aI x :: st) h Q :=
  fun p e s m args below meth c H locs LS C hh hS hl => lv_lookup C.1 C.2.1 hd hs ho ht (k p e s m args below meth c H locs LS C hh hS hl)
/-! the ends -/
theorem A_iret {v : Int32} (hd : decode M.2.1 pc = .ok (.ireturn, 1)) (hr : M.2.2.2.1 = some .int) (q : Q (some (aI v)) h) : Av X l M pc ls [aI v] h Q :=
  fun p e s m args below meth c H locs LS C hh hS hl => W.iret C.1 C.2.1 (C.2.2.1.trans hr) (fun t ht _ => ⟨⟨some (aI v), h, rfl, q, by rw [ht]; exact hh⟩, hS.F ht⟩) hS.2.2 hd C.2.2.2.2.2.2.2
theorem A_zret {v : Int32} (hd : decode M.2.1 pc = .ok (.ireturn, 1)) (hr : M.2.2.2.1 = some .boolean) (hv : v = 0 ∨ v = 1) (q : Q (some (aI v)) h) : Av X l M pc ls [aI v] h Q :=
  fun p e s m args below meth c H locs LS C hh hS hl => W.zret (ty := .boolean) C.1 C.2.1 (C.2.2.1.trans hr) (by rcases hv with rfl | rfl <;> rfl) (fun t ht _ => ⟨⟨some (aI v), h, rfl, q, by rw [ht]; exact hh⟩, hS.F ht⟩) hS.2.2 hd C.2.2.2.2.2.2.2
theorem A_lret {v : Int64} (hd : decode M.2.1 pc = .ok (.lreturn, 1)) (hr : M.2.2.2.1 = some .long) (q : Q (some (aL v)) h) : Av X l M pc ls [aL v] h Q :=
  fun p e s m args below meth c H locs LS C hh hS hl => W.lret C.1 C.2.1 (C.2.2.1.trans hr) (fun t ht _ => ⟨⟨some (aL v), h, rfl, q, by rw [ht]; exact hh⟩, hS.F ht⟩) hS.2.2 hd C.2.2.2.2.2.2.2
theorem A_vret (hd : decode M.2.1 pc = .ok (.return_, 1)) (hr : M.2.2.2.1 = none) (q : Q none h) : Av X l M pc ls [] h Q :=
  fun p e s m args below meth c H locs LS C hh hS hl => W.vret C.1 C.2.1 (C.2.2.1.trans hr) (fun t ht _ => ⟨⟨none, h, rfl, q, by rw [ht]; exact hh⟩, hS.F ht⟩) hS.2.2 hd C.2.2.2.2.2.2.2
theorem A_aret {v : Option (Nat × Nat)} {n : String} (hd : decode M.2.1 pc = .ok (.areturn, 1)) (hr : M.2.2.2.1 = some (.object n)) (q : Q (some (.inl v)) h) : Av X l M pc ls [.inl v] h Q :=
  fun p e s m args below meth c H locs LS C hh hS hl => W.aret C.1 C.2.1 (C.2.2.1.trans hr) (Or.inl ⟨_, rfl⟩) (by cases v with | none => exact Or.inl rfl | some q => exact Or.inr ⟨_, rfl⟩) (fun t ht _ => ⟨⟨some (.inl v), h, rfl, q, by rw [ht]; exact hh⟩, hS.F ht⟩) hS.2.2 hd C.2.2.2.2.2.2.2
/-! fields -/
def FOK (own : String) (idx ci k : Nat) : Prop := ∃ (Cn : String) (T : u_T) (N : Nat), vwCl[ci]? = some (Cn, T, N) ∧ k < N ∧ (∀ w ∈ u_ws Cn T N, w ∈ TB) ∧ Cond.fieldLink own idx (T k).1 (T k).2.1 (T k).2.2.1 ∈ TB
def FWK (own : String) (idx ci k : Nat) (ty : FieldType) : Prop := ∃ (Cn : String) (T : u_T) (N : Nat) (ty0 : Nat → FieldType), vwCl[ci]? = some (Cn, T, N) ∧ k < N ∧ (∀ w ∈ u_ws Cn T N, w ∈ TB) ∧ Cond.fieldLink own idx (T k).1 (T k).2.1 (T k).2.2.1 ∈ TB ∧ (∀ k, k < N → parseFieldDescriptor (T k).2.2.1 = some (ty0 k)) ∧ (∀ a, a < N → ∀ b, b < N → a ≠ b → (T a).2.1 ≠ (T b).2.1) ∧ (T k).2.2.2 = false ∧ ty0 k = ty
theorem A_getfield (pc' : Nat) {idx ci k o : Nat} {fs : List AV} {as : List AA} {v : AV} (hd : decode M.2.1 pc = .ok (.getfield idx, 3)) (hp : pc + 3 = pc') (hf : FOK M.1.cls idx ci k) (ho : h o = some (ci, fs, as)) (hv : fs[k]? = some v) (kk : Av X l M pc' ls (v :: st) h Q) : Av X l M pc ls (aR o 0 :: st) h Q := by
  subst hp
  obtain ⟨Cn, T, N, f1, f2, f3, f4⟩ := hf
  intro p e s m args below meth c H locs LS C hh hS hl
  obtain ⟨q0, -, e1⟩ := wsO_get (hh.2 o _ ho 0 (Nat.zero_le _)) ho
  exact va_get C.1 C.2.1 C.2.2.2.2.2.1 f3 C.2.2.2.2.1 C.2.2.2.2.2.2.1.1 hh.1 q0 (ci := ci) e1 f1 k f2 (C.2.2.2.2.2.1 _ f4) (fun _ z => z) (v := rl X v) (by simp [hv]) hd (kk p e s m args below meth c H locs LS C hh hS hl)
theorem A_putfield (pc' : Nat) {idx ci k o : Nat} {fs : List AV} {as : List AA} {v : AV} {ty : FieldType} (hd : decode M.2.1 pc = .ok (.putfield idx, 3)) (hp : pc + 3 = pc') (hf : FWK M.1.cls idx ci k ty) (ho : h o = some (ci, fs, as)) (hv : k < fs.length) (hn : narrow ty (rl X v) = rl X v) (hfit : fits ty (rl X v) = true) (kk : ∀ h' : Hp, h' o = some (ci, fs.set k v, as) → (∀ i, i ≠ o → h' i = h i) → Av X l M pc' ls st h' Q) : Av X l M pc ls (v :: aR o 0 :: st) h Q := by
  subst hp
  obtain ⟨Cn, T, N, ty0, f1, f2, f3, f4, f5, f6, f7, f8⟩ := hf
  intro p e s m args below meth c H locs LS C hh hS hl
  obtain ⟨q0, e0, e1⟩ := wsO_get (hh.2 o _ ho 0 (Nat.zero_le _)) ho
  refine va_put C.1 C.2.1 C.2.2.2.2.2.1 f3 ty0 f5 f6 C.2.2.2.2.1 C.2.2.2.2.2.2.1.1 hh.1 (hh.dis C.2.2.2.2.2.2.1.2.2) hS q0 (ci := ci) e1 f1 k f2 (C.2.2.2.2.2.1 _ f4) (fun _ z => z) f7 (ty := ty) (v := rl X v) (by rw [f5 k f2, f8]) hn hfit (by simpa using hv) hd (fun H1 locs1 hP hD hS1 => ?_)
  have e2 : (wsO X h).set q0 (X.2.2.1 o 0, clB X (ci, fs.set k v, as) 0) = wsO X (hset h o (ci, fs.set k v, as)) := wsO_set C.2.2.2.2.2.2.1.2.2 e0 ho hset_self (fun i hi => hset_ne hi) (fun j hj => by
    cases j with
    | zero => exact absurd rfl hj
    | succ j => rfl)
  have e3 : clB X (ci, fs.set k v, as) 0 = .inr (ci, (fs.map (rl X)).set k (rl X v)) := by simp [clB, List.map_set]
  rw [e3] at e2
  rw [e2] at hP
  exact kk _ hset_self (fun i hi => hset_ne hi) p e s m args below meth c H1 locs1 LS C ⟨hP, hh.2.set ho rfl⟩ hS1 hl
theorem A_putI (pc' : Nat) {idx ci k o : Nat} {fs : List AV} {as : List AA} {v : Int32} (hd : decode M.2.1 pc = .ok (.putfield idx, 3)) (hp : pc + 3 = pc') (hf : FWK M.1.cls idx ci k .int) (ho : h o = some (ci, fs, as)) (hv : k < fs.length) (kk : ∀ h' : Hp, h' o = some (ci, fs.set k (aI v), as) → (∀ i, i ≠ o → h' i = h i) → Av X l M pc' ls st h' Q) : Av X l M pc ls (aI v :: aR o 0 :: st) h Q :=
  A_putfield pc' hd hp hf ho hv rfl rfl kk
theorem A_putZ (pc' : Nat) {idx ci k o : Nat} {fs : List AV} {as : List AA} {v : Int32} (hd : decode M.2.1 pc = .ok (.putfield idx, 3)) (hp : pc + 3 = pc') (hf : FWK M.1.cls idx ci k .boolean) (ho : h o = some (ci, fs, as)) (hv : k < fs.length) (hb : v = 0 ∨ v = 1) (kk : ∀ h' : Hp, h' o = some (ci, fs.set k (aI v), as) → (∀ i, i ≠ o → h' i = h i) → Av X l M pc' ls st h' Q) : Av X l M pc ls (aI v :: aR o 0 :: st) h Q :=
  A_putfield pc' hd hp hf ho hv (by rcases hb with rfl | rfl <;> rfl) (by rcases hb with rfl | rfl <;> rfl) kk
theorem A_putA (pc' : Nat) {idx ci k o o2 k2 : Nat} {fs : List AV} {as : List AA} (hd : decode M.2.1 pc = .ok (.putfield idx, 3)) (hp : pc + 3 = pc') (hf : FWK M.1.cls idx ci k (.array .int)) (ho : h o = some (ci, fs, as)) (hv : k < fs.length) (kk : ∀ h' : Hp, h' o = some (ci, fs.set k (aR o2 k2), as) → (∀ i, i ≠ o → h' i = h i) → Av X l M pc' ls st h' Q) : Av X l M pc ls (aR o2 k2 :: aR o 0 :: st) h Q :=
  A_putfield pc' hd hp hf ho hv rfl rfl kk
/-! rows -/
def ix (i : Int32) (n j : Nat) : Prop := i.toNatClampNeg = j ∧ j < n ∧ ¬ i < 0
theorem ix.vp {i : Int32} {n j : Nat} (hi : ix i n j) : vp_in i n := fun q => q.elim hi.2.2 (fun q => by have := hi.1; have := hi.2.1; omega)
theorem ix_nI {n j : Nat} (hj : j < n) (hn : n < 2 ^ 31) : ix (nI j) n j := ⟨nI_clamp (by omega), hj, nI_pos (by omega)⟩
theorem ix_of {i : Int32} {n j : Nat} (e : i = nI j) (hj : j < n) (hn : n < 2 ^ 31) : ix i n j := by rw [e]; exact ix_nI hj hn


theorem A_iaload (pc' : Nat) {o k n j : Nat} {b : Blk} {f : Nat → Int32} {i : Int32} (hd : decode M.2.1 pc = .ok (.iaload, 1)) (hp : pc + 1 = pc') (ho : h o = some b) (ha : b.2.2[k]? = some (kI n f)) (hi : ix i n j) (kk : Av X l M pc' ls (aI (f j) :: st) h Q) : Av X l M pc ls (aI i :: aR o (k + 1) :: st) h Q := by
  subst hp
  intro p e s m args below meth c H locs LS C hh hS hl
  obtain ⟨q0, -, e1⟩ := wsO_get (hh.2 o _ ho (k + 1) ((List.getElem?_eq_some_iff.mp ha).1)) ho
  have e2 : clB X b (k + 1) = .inl (X.2.1 0, aaV X (kI n f)) := by simp [clB, ha]
  rw [e2] at e1
  refine va_iald C.1 C.2.1 C.2.2.2.2.2.2.1.1 hh.1 q0 0 e1 rfl hi.vp hd ?_
  rw [hi.1]
  exact kk p e s m args below meth c H locs LS C hh hS hl

theorem A_baload (pc' : Nat) {o k n j : Nat} {b : Blk} {f : Nat → Int32} {i : Int32} (hd : decode M.2.1 pc = .ok (.baload, 1)) (hp : pc + 1 = pc') (ho : h o = some b) (ha : b.2.2[k]? = some (kZ n f)) (hi : ix i n j) (kk : Av X l M pc' ls (aI (f j) :: st) h Q) : Av X l M pc ls (aI i :: aR o (k + 1) :: st) h Q := by
  subst hp
  intro p e s m args below meth c H locs LS C hh hS hl
  obtain ⟨q0, -, e1⟩ := wsO_get (hh.2 o _ ho (k + 1) ((List.getElem?_eq_some_iff.mp ha).1)) ho
  have e2 : clB X b (k + 1) = .inl (X.2.1 1, aaV X (kZ n f)) := by simp [clB, ha]
  rw [e2] at e1
  refine va_zald C.1 C.2.1 C.2.2.2.2.2.2.1.1 hh.1 q0 1 e1 rfl hi.vp hd ?_
  rw [hi.1]
  exact kk p e s m args below meth c H locs LS C hh hS hl

theorem A_laload (pc' : Nat) {o k n j : Nat} {b : Blk} {f : Nat → Int64} {i : Int32} (hd : decode M.2.1 pc = .ok (.laload, 1)) (hp : pc + 1 = pc') (ho : h o = some b) (ha : b.2.2[k]? = some (kJ n f)) (hi : ix i n j) (kk : Av X l M pc' ls (aL (f j) :: st) h Q) : Av X l M pc ls (aI i :: aR o (k + 1) :: st) h Q := by
  subst hp
  intro p e s m args below meth c H locs LS C hh hS hl
  obtain ⟨q0, -, e1⟩ := wsO_get (hh.2 o _ ho (k + 1) ((List.getElem?_eq_some_iff.mp ha).1)) ho
  have e2 : clB X b (k + 1) = .inl (X.2.1 2, aaV X (kJ n f)) := by simp [clB, ha]
  rw [e2] at e1
  refine va_lald C.1 C.2.1 C.2.2.2.2.2.2.1.1 hh.1 q0 2 e1 rfl hi.vp hd ?_
  rw [hi.1]
  exact kk p e s m args below meth c H locs LS C hh hS hl

theorem A_aaload (pc' : Nat) {o k n j : Nat} {b : Blk} {f : Nat → Option (Nat × Nat)} {i : Int32} (hd : decode M.2.1 pc = .ok (.aaload, 1)) (hp : pc + 1 = pc') (ho : h o = some b) (ha : b.2.2[k]? = some (kQ n f)) (hi : ix i n j) (kk : Av X l M pc' ls (.inl (f j) :: st) h Q) : Av X l M pc ls (aI i :: aR o (k + 1) :: st) h Q := by
  subst hp
  intro p e s m args below meth c H locs LS C hh hS hl
  obtain ⟨q0, -, e1⟩ := wsO_get (hh.2 o _ ho (k + 1) ((List.getElem?_eq_some_iff.mp ha).1)) ho
  have e2 : clB X b (k + 1) = .inl (X.2.1 3, aaV X (kQ n f)) := by simp [clB, ha]
  rw [e2] at e1
  refine va_aldq C.1 C.2.1 C.2.2.2.2.2.2.1.1 hh.1 q0 3 e1 rfl hi.vp hd ?_
  rw [hi.1]
  exact kk p e s m args below meth c H locs LS C hh hS hl
theorem A_arraylength (pc' : Nat) {o k : Nat} {b : Blk} {a : AA} {v : Int32} (hd : decode M.2.1 pc = .ok (.arraylength, 1)) (hp : pc + 1 = pc') (ho : h o = some b) (ha : b.2.2[k]? = some a) (ht : a.1 < 4) (hv : nI a.2.1 = v) (kk : Av X l M pc' ls (aI v :: st) h Q) : Av X l M pc ls (aR o (k + 1) :: st) h Q := by
  subst hp
  intro p e s m args below meth c H locs LS C hh hS hl
  obtain ⟨q0, -, e1⟩ := wsO_get (hh.2 o _ ho (k + 1) ((List.getElem?_eq_some_iff.mp ha).1)) ho
  have e2 : clB X b (k + 1) = .inl (X.2.1 a.1, aaV X a) := by simp [clB, ha]
  rw [e2] at e1
  have e3 : (aaV X a).1 = a.2.1 := by
    obtain ⟨t, n, f | f | f⟩ := a <;> rfl
  obtain ⟨ty, hty⟩ : ∃ ty, (tyL X)[a.1]? = some (X.2.1 a.1, ty) := by
    rcases (show a.1 = 0 ∨ a.1 = 1 ∨ a.1 = 2 ∨ a.1 = 3 by omega) with e | e | e | e <;> (rw [e]; exact ⟨_, rfl⟩)
  exact va_alen C.1 C.2.1 C.2.2.2.2.2.2.1.1 hh.1 q0 a.1 e1 hty (v := v) (by rw [e3]; exact hv) hd (kk p e s m args below meth c H locs LS C hh hS hl)
theorem clB_set {b : Blk} {k : Nat} {a : AA} (hk : k < b.2.2.length) : clB X (b.1, b.2.1, b.2.2.set k a) (k + 1) = .inl (X.2.1 a.1, aaV X a) := by
  simp [clB, hk]
theorem clB_ne {b : Blk} {k : Nat} {a : AA} (j : Nat) (hj : j ≠ k + 1) : clB X (b.1, b.2.1, b.2.2.set k a) j = clB X b j := by
  cases j with
  | zero => rfl
  | succ j =>
    have : ¬ k = j := fun z => hj (by rw [z])
    simp [clB, List.getElem?_set, this]


theorem A_iastore (pc' : Nat) {o k n j : Nat} {b : Blk} {f : Nat → Int32} {i : Int32} {x : Int32} (hd : decode M.2.1 pc = .ok (.iastore, 1)) (hp : pc + 1 = pc') (ho : h o = some b) (ha : b.2.2[k]? = some (kI n f)) (hi : ix i n j) (kk : ∀ h' : Hp, h' o = some (b.1, b.2.1, b.2.2.set k (kI n (va_up f j x))) → (∀ i, i ≠ o → h' i = h i) → Av X l M pc' ls st h' Q) : Av X l M pc ls (aI x :: aI i :: aR o (k + 1) :: st) h Q := by
  subst hp
  intro p e s m args below meth c H locs LS C hh hS hl
  have hk : k < b.2.2.length := (List.getElem?_eq_some_iff.mp ha).1
  obtain ⟨q0, e0, e1⟩ := wsO_get (hh.2 o _ ho (k + 1) hk) ho
  have e2 : clB X b (k + 1) = .inl (X.2.1 0, aaV X (kI n f)) := by simp [clB, ha]
  rw [e2] at e1
  refine va_iast C.1 C.2.1 C.2.2.2.2.2.2.1.1 hh.1 (hh.dis C.2.2.2.2.2.2.1.2.2) hS q0 0 e1 rfl hi.vp hd (fun H1 locs1 hP hD hS1 => ?_)
  have e4 : (wsO X h).set q0 (X.2.2.1 o (k + 1), clB X (b.1, b.2.1, b.2.2.set k (kI n (va_up f j x))) (k + 1)) = wsO X (hset h o (b.1, b.2.1, b.2.2.set k (kI n (va_up f j x)))) := wsO_set C.2.2.2.2.2.2.1.2.2 e0 ho hset_self (fun i hi => hset_ne hi) (fun j hj => clB_ne j hj)
  rw [clB_set hk] at e4
  have hP2 : va_P X.1 vwCl (wsO X (hset h o (b.1, b.2.1, b.2.2.set k (kI n (va_up f j x))))) H1 := by
    rw [← e4]
    have := hi.1
    subst this
    exact hP
  exact kk _ hset_self (fun i hi => hset_ne hi) p e s m args below meth c H1 locs1 LS C ⟨hP2, hh.2.set ho (by simp)⟩ hS1 hl

theorem A_bastore (pc' : Nat) {o k n j : Nat} {b : Blk} {f : Nat → Int32} {i : Int32} {x : Int32} (hd : decode M.2.1 pc = .ok (.bastore, 1)) (hp : pc + 1 = pc') (ho : h o = some b) (ha : b.2.2[k]? = some (kZ n f)) (hi : ix i n j) (hb : x = 0 ∨ x = 1) (kk : ∀ h' : Hp, h' o = some (b.1, b.2.1, b.2.2.set k (kZ n (va_up f j x))) → (∀ i, i ≠ o → h' i = h i) → Av X l M pc' ls st h' Q) : Av X l M pc ls (aI x :: aI i :: aR o (k + 1) :: st) h Q := by
  subst hp
  intro p e s m args below meth c H locs LS C hh hS hl
  have hk : k < b.2.2.length := (List.getElem?_eq_some_iff.mp ha).1
  obtain ⟨q0, e0, e1⟩ := wsO_get (hh.2 o _ ho (k + 1) hk) ho
  have e2 : clB X b (k + 1) = .inl (X.2.1 1, aaV X (kZ n f)) := by simp [clB, ha]
  rw [e2] at e1
  refine va_zast C.1 C.2.1 C.2.2.2.2.2.2.1.1 hh.1 (hh.dis C.2.2.2.2.2.2.1.2.2) hS q0 1 e1 rfl hi.vp hd (fun H1 locs1 hP hD hS1 => ?_)
  have e4 : (wsO X h).set q0 (X.2.2.1 o (k + 1), clB X (b.1, b.2.1, b.2.2.set k (kZ n (va_up f j x))) (k + 1)) = wsO X (hset h o (b.1, b.2.1, b.2.2.set k (kZ n (va_up f j x)))) := wsO_set C.2.2.2.2.2.2.1.2.2 e0 ho hset_self (fun i hi => hset_ne hi) (fun j hj => clB_ne j hj)
  rw [clB_set hk] at e4
  have hP2 : va_P X.1 vwCl (wsO X (hset h o (b.1, b.2.1, b.2.2.set k (kZ n (va_up f j x))))) H1 := by
    rw [← e4]
    have := hi.1
    subst this
    rcases hb with rfl | rfl <;> exact hP
  exact kk _ hset_self (fun i hi => hset_ne hi) p e s m args below meth c H1 locs1 LS C ⟨hP2, hh.2.set ho (by simp)⟩ hS1 hl

theorem A_lastore (pc' : Nat) {o k n j : Nat} {b : Blk} {f : Nat → Int64} {i : Int32} {x : Int64} (hd : decode M.2.1 pc = .ok (.lastore, 1)) (hp : pc + 1 = pc') (ho : h o = some b) (ha : b.2.2[k]? = some (kJ n f)) (hi : ix i n j) (kk : ∀ h' : Hp, h' o = some (b.1, b.2.1, b.2.2.set k (kJ n (va_up f j x))) → (∀ i, i ≠ o → h' i = h i) → Av X l M pc' ls st h' Q) : Av X l M pc ls (aL x :: aI i :: aR o (k + 1) :: st) h Q := by
  subst hp
  intro p e s m args below meth c H locs LS C hh hS hl
  have hk : k < b.2.2.length := (List.getElem?_eq_some_iff.mp ha).1
  obtain ⟨q0, e0, e1⟩ := wsO_get (hh.2 o _ ho (k + 1) hk) ho
  have e2 : clB X b (k + 1) = .inl (X.2.1 2, aaV X (kJ n f)) := by simp [clB, ha]
  rw [e2] at e1
  refine va_last C.1 C.2.1 C.2.2.2.2.2.2.1.1 hh.1 (hh.dis C.2.2.2.2.2.2.1.2.2) hS q0 2 e1 rfl hi.vp hd (fun H1 locs1 hP hD hS1 => ?_)
  have e4 : (wsO X h).set q0 (X.2.2.1 o (k + 1), clB X (b.1, b.2.1, b.2.2.set k (kJ n (va_up f j x))) (k + 1)) = wsO X (hset h o (b.1, b.2.1, b.2.2.set k (kJ n (va_up f j x)))) := wsO_set C.2.2.2.2.2.2.1.2.2 e0 ho hset_self (fun i hi => hset_ne hi) (fun j hj => clB_ne j hj)
  rw [clB_set hk] at e4
  have hP2 : va_P X.1 vwCl (wsO X (hset h o (b.1, b.2.1, b.2.2.set k (kJ n (va_up f j x))))) H1 := by
    rw [← e4]
    have := hi.1
    subst this
    exact hP
  exact kk _ hset_self (fun i hi => hset_ne hi) p e s m args below meth c H1 locs1 LS C ⟨hP2, hh.2.set ho (by simp)⟩ hS1 hl
end RULES2
