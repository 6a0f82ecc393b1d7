/-! the objects of the class and of the reference as blocks -/
abbrev FI : Type := Nat → Int32
abbrev PW : Type := FI × FI × Nat × Nat × Int32 × Int32
abbrev wB (o : Nat) (x : PW) : Blk := (8, [aR o 1, aR o 2, aI (nI x.2.2.1), aI (nI x.2.2.2.1), aI x.2.2.2.2.1, aI x.2.2.2.2.2], [kI 40 x.1, kI 6 x.2.1])
abbrev PC : Type := FI × FI × Int32 × Int32
abbrev cB (o : Nat) (y : PC) : Blk := (1, [aR o 1, aR o 2, aI y.2.2.1, aI y.2.2.2], [kI 12 y.1, kI 12 y.2.1])
abbrev toB (t : FI) (n : Nat) : Blk := (7, [aR 15 1, aI (nI n)], [kI 16 t])
abbrev leB (t : FI) (n k : Nat) : Blk := (4, [aR 12 1, aR 13 0, aR 14 0, aI (nI n), aI (nI k)], [kI 96 t])
abbrev guB (t : FI) (n : Nat) : Blk := (3, [aR 17 1, aR 18 0, aI (nI n)], [kI 256 t])
abbrev seB : Blk := (6, [aR 20 0], [])
abbrev alB : Blk := (0, [aR 22 0, aR 23 0, aR 24 0], [])
abbrev foB (s : Nat → Int64) (t : FI) : Blk := (2, [aR 26 0, aR 27 0, aR 25 1, aR 25 2], [kJ 61 s, kI 256 t])
abbrev paB (n k : Nat) : Blk := (5, [aR 3 1, aI (nI n), aI (nI k)], [kQ 8 (fun j => some (j + 4, 0))])
abbrev maB (g : Int32) (r : FI) : Blk := (9, [aR 1 0, aR 2 0, aI g, aR 3 0, aR 12 0, aR 15 0, aR 0 1, aR 16 0, aR 17 0, aR 19 0, aR 21 0, aR 25 0], [kI 7 r])
/-- the reference: what stays: refusals, letters, their number, image, is there one, turns, their number, row, its number -/
abbrev RC : Type := FI × FI × Nat × FI × Int32 × FI × Nat × FI × Nat
/-- what doesn't: a day (2); a mill (6); the carrying (5); the rest (6) -/
abbrev RD : Type := FI × FI
abbrev RM : Type := Nat × Int32 × Nat × FI × FI × FI
abbrev RY : Type := FI × FI × Nat × Int32 × AV
abbrev RS : Type := FI × FI × FI × FI × Int32 × Int32
abbrev RZ : Type := RD × RM × RY × RS
def rB (x : PW) (nv : Int32) (c : RC) (z : RZ) : Blk := (10, [aI (nI x.2.2.1), aR 28 1, aR 28 2, aR 28 3, aR 28 4, aI (nI x.2.2.2.1), aR 28 5, aI x.2.2.2.2.1, aI x.2.2.2.2.2, aI z.2.2.2.2.2.2.2.2, aR 28 6, aI nv, aR 28 7, aR 28 8, aR 28 9, aI (nI c.2.2.1), aI (nI z.2.1.1), aI z.2.1.2.1, aI (nI z.2.1.2.2.1), aR 28 10, aR 28 11, aR 28 12, aR 28 13, aR 28 14, aI c.2.2.2.2.1, aI (nI z.2.2.1.2.2.1), aI z.2.2.1.2.2.2.1, z.2.2.1.2.2.2.2, aR 28 15, aR 28 16, aI (nI c.2.2.2.2.2.2.1), aR 28 17, aI (nI c.2.2.2.2.2.2.2.2), aR 28 18, aR 28 19, aR 28 20, aR 28 21, aI z.2.2.2.2.2.2.2.1],
  [kI 10 (fun k => x.1 (k * 4)), kI 10 (fun k => x.1 (k * 4 + 1)), kI 10 (fun k => x.1 (k * 4 + 2)), kI 10 (fun k => x.1 (k * 4 + 3)), kI 6 x.2.1, kI 7 c.1, kI 12 z.1.1, kI 12 z.1.2, kI 96 c.2.1, kI 49 z.2.1.2.2.2.1, kI 49 z.2.1.2.2.2.2.1, kI 196 z.2.1.2.2.2.2.2, kI 50 z.2.2.1.1, kI 50 c.2.2.2.1, kI 400 c.2.2.2.2.2.1, kI 50 z.2.2.1.2.1, kI 16 c.2.2.2.2.2.2.2.1, kZ 256 z.2.2.2.1, kI 256 z.2.2.2.2.1, kI 366 z.2.2.2.2.2.1, kI 12 z.2.2.2.2.2.2.1])
section PUTS
variable {X : En} {l : Launch} {M : MI} {pc : Nat} {ls : List (Option AV)} {st : List AV} {h : Hp} {Q : Option AV → Hp → Prop}
theorem x4_same (f : FI) (j : Nat) (v : Int32) (d : Nat) : (fun k => va_up f (j * 4 + d) v (k * 4 + d)) = va_up (fun k => f (k * 4 + d)) j v := by
  funext k
  unfold va_up
  by_cases e : k = j
  · rw [if_pos e, if_pos (by omega)]
  · rw [if_neg e, if_neg (by omega)]
theorem x4_ne (f : FI) (j : Nat) (v : Int32) (d e : Nat) (hd : d < 4) (he : e < 4) (h : e ≠ d) : (fun k => va_up f (j * 4 + d) v (k * 4 + e)) = (fun k => f (k * 4 + e)) := by
  funext k
  unfold va_up
  rw [if_neg (by omega)]
theorem P_X8_2 (pc' : Nat) {idx : Nat} {o : Nat} {x : PW} {v : Nat} (hd : decode M.2.1 pc = .ok (.putfield idx, 3)) (hp : pc + 3 = pc') (hf : FWK M.1.cls idx 8 2 .int) (ho : h o = some (wB o (x))) (kk : ∀ h' : Hp, h' o = some (wB o ((x.1, (x.2.1, (v, x.2.2.2))))) → (∀ i, i ≠ o → h' i = h i) → Av X l M pc' ls st h' Q) : Av X l M pc ls (aI (nI v) :: aR o 0 :: st) h Q :=
  A_putI pc' hd hp hf ho (Nat.le_of_ble_eq_true rfl) (fun h' n e => kk h' n e)
theorem P_X8_3 (pc' : Nat) {idx : Nat} {o : Nat} {x : PW} {v : Nat} (hd : decode M.2.1 pc = .ok (.putfield idx, 3)) (hp : pc + 3 = pc') (hf : FWK M.1.cls idx 8 3 .int) (ho : h o = some (wB o (x))) (kk : ∀ h' : Hp, h' o = some (wB o ((x.1, (x.2.1, (x.2.2.1, (v, x.2.2.2.2)))))) → (∀ i, i ≠ o → h' i = h i) → Av X l M pc' ls st h' Q) : Av X l M pc ls (aI (nI v) :: aR o 0 :: st) h Q :=
  A_putI pc' hd hp hf ho (Nat.le_of_ble_eq_true rfl) (fun h' n e => kk h' n e)
theorem P_X8_4 (pc' : Nat) {idx : Nat} {o : Nat} {x : PW} {v : Int32} (hd : decode M.2.1 pc = .ok (.putfield idx, 3)) (hp : pc + 3 = pc') (hf : FWK M.1.cls idx 8 4 .int) (ho : h o = some (wB o (x))) (kk : ∀ h' : Hp, h' o = some (wB o ((x.1, (x.2.1, (x.2.2.1, (x.2.2.2.1, (v, x.2.2.2.2.2))))))) → (∀ i, i ≠ o → h' i = h i) → Av X l M pc' ls st h' Q) : Av X l M pc ls (aI v :: aR o 0 :: st) h Q :=
  A_putI pc' hd hp hf ho (Nat.le_of_ble_eq_true rfl) (fun h' n e => kk h' n e)
theorem P_X8_5 (pc' : Nat) {idx : Nat} {o : Nat} {x : PW} {v : Int32} (hd : decode M.2.1 pc = .ok (.putfield idx, 3)) (hp : pc + 3 = pc') (hf : FWK M.1.cls idx 8 5 .int) (ho : h o = some (wB o (x))) (kk : ∀ h' : Hp, h' o = some (wB o ((x.1, (x.2.1, (x.2.2.1, (x.2.2.2.1, (x.2.2.2.2.1, v))))))) → (∀ i, i ≠ o → h' i = h i) → Av X l M pc' ls st h' Q) : Av X l M pc ls (aI v :: aR o 0 :: st) h Q :=
  A_putI pc' hd hp hf ho (Nat.le_of_ble_eq_true rfl) (fun h' n e => kk h' n e)
theorem T_X8_0 (pc' : Nat) {o : Nat} {x : PW} {j : Nat} {i : Int32} {v : Int32} (hd : decode M.2.1 pc = .ok (.iastore, 1)) (hp : pc + 1 = pc') (ho : h o = some (wB o (x))) (hi : ix i 40 j) (kk : ∀ h' : Hp, h' o = some (wB o ((va_up x.1 j v, x.2))) → (∀ i, i ≠ o → h' i = h i) → Av X l M pc' ls st h' Q) : Av X l M pc ls (aI v :: aI i :: aR o 1 :: st) h Q :=
  A_iastore pc' hd hp ho rfl hi (fun h' n e => kk h' n e)
theorem T_X8_1 (pc' : Nat) {o : Nat} {x : PW} {j : Nat} {i : Int32} {v : Int32} (hd : decode M.2.1 pc = .ok (.iastore, 1)) (hp : pc + 1 = pc') (ho : h o = some (wB o (x))) (hi : ix i 6 j) (kk : ∀ h' : Hp, h' o = some (wB o ((x.1, (va_up x.2.1 j v, x.2.2)))) → (∀ i, i ≠ o → h' i = h i) → Av X l M pc' ls st h' Q) : Av X l M pc ls (aI v :: aI i :: aR o 2 :: st) h Q :=
  A_iastore pc' hd hp ho rfl hi (fun h' n e => kk h' n e)
theorem P_X1_2 (pc' : Nat) {idx : Nat} {o : Nat} {y : PC} {v : Int32} (hd : decode M.2.1 pc = .ok (.putfield idx, 3)) (hp : pc + 3 = pc') (hf : FWK M.1.cls idx 1 2 .int) (ho : h o = some (cB o (y))) (kk : ∀ h' : Hp, h' o = some (cB o ((y.1, (y.2.1, (v, y.2.2.2))))) → (∀ i, i ≠ o → h' i = h i) → Av X l M pc' ls st h' Q) : Av X l M pc ls (aI v :: aR o 0 :: st) h Q :=
  A_putI pc' hd hp hf ho (Nat.le_of_ble_eq_true rfl) (fun h' n e => kk h' n e)
theorem P_X1_3 (pc' : Nat) {idx : Nat} {o : Nat} {y : PC} {v : Int32} (hd : decode M.2.1 pc = .ok (.putfield idx, 3)) (hp : pc + 3 = pc') (hf : FWK M.1.cls idx 1 3 .int) (ho : h o = some (cB o (y))) (kk : ∀ h' : Hp, h' o = some (cB o ((y.1, (y.2.1, (y.2.2.1, v))))) → (∀ i, i ≠ o → h' i = h i) → Av X l M pc' ls st h' Q) : Av X l M pc ls (aI v :: aR o 0 :: st) h Q :=
  A_putI pc' hd hp hf ho (Nat.le_of_ble_eq_true rfl) (fun h' n e => kk h' n e)
theorem T_X1_0 (pc' : Nat) {o : Nat} {y : PC} {j : Nat} {i : Int32} {v : Int32} (hd : decode M.2.1 pc = .ok (.iastore, 1)) (hp : pc + 1 = pc') (ho : h o = some (cB o (y))) (hi : ix i 12 j) (kk : ∀ h' : Hp, h' o = some (cB o ((va_up y.1 j v, y.2))) → (∀ i, i ≠ o → h' i = h i) → Av X l M pc' ls st h' Q) : Av X l M pc ls (aI v :: aI i :: aR o 1 :: st) h Q :=
  A_iastore pc' hd hp ho rfl hi (fun h' n e => kk h' n e)
theorem T_X1_1 (pc' : Nat) {o : Nat} {y : PC} {j : Nat} {i : Int32} {v : Int32} (hd : decode M.2.1 pc = .ok (.iastore, 1)) (hp : pc + 1 = pc') (ho : h o = some (cB o (y))) (hi : ix i 12 j) (kk : ∀ h' : Hp, h' o = some (cB o ((y.1, (va_up y.2.1 j v, y.2.2)))) → (∀ i, i ≠ o → h' i = h i) → Av X l M pc' ls st h' Q) : Av X l M pc ls (aI v :: aI i :: aR o 2 :: st) h Q :=
  A_iastore pc' hd hp ho rfl hi (fun h' n e => kk h' n e)
theorem P_X7_1 (pc' : Nat) {idx : Nat} {t : FI} {n : Nat} {v : Nat} (hd : decode M.2.1 pc = .ok (.putfield idx, 3)) (hp : pc + 3 = pc') (hf : FWK M.1.cls idx 7 1 .int) (ho : h 15 = some (toB (t) (n))) (kk : ∀ h' : Hp, h' 15 = some (toB (t) (v)) → (∀ i, i ≠ 15 → h' i = h i) → Av X l M pc' ls st h' Q) : Av X l M pc ls (aI (nI v) :: aR 15 0 :: st) h Q :=
  A_putI pc' hd hp hf ho (Nat.le_of_ble_eq_true rfl) (fun h' n e => kk h' n e)
theorem T_X7_0 (pc' : Nat) {t : FI} {n : Nat} {j : Nat} {i : Int32} {v : Int32} (hd : decode M.2.1 pc = .ok (.iastore, 1)) (hp : pc + 1 = pc') (ho : h 15 = some (toB (t) (n))) (hi : ix i 16 j) (kk : ∀ h' : Hp, h' 15 = some (toB (va_up t j v) (n)) → (∀ i, i ≠ 15 → h' i = h i) → Av X l M pc' ls st h' Q) : Av X l M pc ls (aI v :: aI i :: aR 15 1 :: st) h Q :=
  A_iastore pc' hd hp ho rfl hi (fun h' n e => kk h' n e)
theorem P_X4_3 (pc' : Nat) {idx : Nat} {t : FI} {n k : Nat} {v : Nat} (hd : decode M.2.1 pc = .ok (.putfield idx, 3)) (hp : pc + 3 = pc') (hf : FWK M.1.cls idx 4 3 .int) (ho : h 12 = some (leB (t) (n) (k))) (kk : ∀ h' : Hp, h' 12 = some (leB (t) (v) (k)) → (∀ i, i ≠ 12 → h' i = h i) → Av X l M pc' ls st h' Q) : Av X l M pc ls (aI (nI v) :: aR 12 0 :: st) h Q :=
  A_putI pc' hd hp hf ho (Nat.le_of_ble_eq_true rfl) (fun h' n e => kk h' n e)
theorem P_X4_4 (pc' : Nat) {idx : Nat} {t : FI} {n k : Nat} {v : Nat} (hd : decode M.2.1 pc = .ok (.putfield idx, 3)) (hp : pc + 3 = pc') (hf : FWK M.1.cls idx 4 4 .int) (ho : h 12 = some (leB (t) (n) (k))) (kk : ∀ h' : Hp, h' 12 = some (leB (t) (n) (v)) → (∀ i, i ≠ 12 → h' i = h i) → Av X l M pc' ls st h' Q) : Av X l M pc ls (aI (nI v) :: aR 12 0 :: st) h Q :=
  A_putI pc' hd hp hf ho (Nat.le_of_ble_eq_true rfl) (fun h' n e => kk h' n e)
theorem T_X4_0 (pc' : Nat) {t : FI} {n k : Nat} {j : Nat} {i : Int32} {v : Int32} (hd : decode M.2.1 pc = .ok (.iastore, 1)) (hp : pc + 1 = pc') (ho : h 12 = some (leB (t) (n) (k))) (hi : ix i 96 j) (kk : ∀ h' : Hp, h' 12 = some (leB (va_up t j v) (n) (k)) → (∀ i, i ≠ 12 → h' i = h i) → Av X l M pc' ls st h' Q) : Av X l M pc ls (aI v :: aI i :: aR 12 1 :: st) h Q :=
  A_iastore pc' hd hp ho rfl hi (fun h' n e => kk h' n e)
theorem P_X3_2 (pc' : Nat) {idx : Nat} {t : FI} {n : Nat} {v : Nat} (hd : decode M.2.1 pc = .ok (.putfield idx, 3)) (hp : pc + 3 = pc') (hf : FWK M.1.cls idx 3 2 .int) (ho : h 17 = some (guB (t) (n))) (kk : ∀ h' : Hp, h' 17 = some (guB (t) (v)) → (∀ i, i ≠ 17 → h' i = h i) → Av X l M pc' ls st h' Q) : Av X l M pc ls (aI (nI v) :: aR 17 0 :: st) h Q :=
  A_putI pc' hd hp hf ho (Nat.le_of_ble_eq_true rfl) (fun h' n e => kk h' n e)
theorem T_X3_0 (pc' : Nat) {t : FI} {n : Nat} {j : Nat} {i : Int32} {v : Int32} (hd : decode M.2.1 pc = .ok (.iastore, 1)) (hp : pc + 1 = pc') (ho : h 17 = some (guB (t) (n))) (hi : ix i 256 j) (kk : ∀ h' : Hp, h' 17 = some (guB (va_up t j v) (n)) → (∀ i, i ≠ 17 → h' i = h i) → Av X l M pc' ls st h' Q) : Av X l M pc ls (aI v :: aI i :: aR 17 1 :: st) h Q :=
  A_iastore pc' hd hp ho rfl hi (fun h' n e => kk h' n e)
theorem T_X2_0 (pc' : Nat) {s : Nat → Int64} {t : FI} {j : Nat} {i : Int32} {v : Int64} (hd : decode M.2.1 pc = .ok (.lastore, 1)) (hp : pc + 1 = pc') (ho : h 25 = some (foB (s) (t))) (hi : ix i 61 j) (kk : ∀ h' : Hp, h' 25 = some (foB (va_up s j v) (t)) → (∀ i, i ≠ 25 → h' i = h i) → Av X l M pc' ls st h' Q) : Av X l M pc ls (aL v :: aI i :: aR 25 1 :: st) h Q :=
  A_lastore pc' hd hp ho rfl hi (fun h' n e => kk h' n e)
theorem T_X2_1 (pc' : Nat) {s : Nat → Int64} {t : FI} {j : Nat} {i : Int32} {v : Int32} (hd : decode M.2.1 pc = .ok (.iastore, 1)) (hp : pc + 1 = pc') (ho : h 25 = some (foB (s) (t))) (hi : ix i 256 j) (kk : ∀ h' : Hp, h' 25 = some (foB (s) (va_up t j v)) → (∀ i, i ≠ 25 → h' i = h i) → Av X l M pc' ls st h' Q) : Av X l M pc ls (aI v :: aI i :: aR 25 2 :: st) h Q :=
  A_iastore pc' hd hp ho rfl hi (fun h' n e => kk h' n e)
theorem P_X5_1 (pc' : Nat) {idx : Nat} {n k : Nat} {v : Nat} (hd : decode M.2.1 pc = .ok (.putfield idx, 3)) (hp : pc + 3 = pc') (hf : FWK M.1.cls idx 5 1 .int) (ho : h 3 = some (paB (n) (k))) (kk : ∀ h' : Hp, h' 3 = some (paB (v) (k)) → (∀ i, i ≠ 3 → h' i = h i) → Av X l M pc' ls st h' Q) : Av X l M pc ls (aI (nI v) :: aR 3 0 :: st) h Q :=
  A_putI pc' hd hp hf ho (Nat.le_of_ble_eq_true rfl) (fun h' n e => kk h' n e)
theorem P_X5_2 (pc' : Nat) {idx : Nat} {n k : Nat} {v : Nat} (hd : decode M.2.1 pc = .ok (.putfield idx, 3)) (hp : pc + 3 = pc') (hf : FWK M.1.cls idx 5 2 .int) (ho : h 3 = some (paB (n) (k))) (kk : ∀ h' : Hp, h' 3 = some (paB (n) (v)) → (∀ i, i ≠ 3 → h' i = h i) → Av X l M pc' ls st h' Q) : Av X l M pc ls (aI (nI v) :: aR 3 0 :: st) h Q :=
  A_putI pc' hd hp hf ho (Nat.le_of_ble_eq_true rfl) (fun h' n e => kk h' n e)
theorem P_X9_2 (pc' : Nat) {idx : Nat} {g : Int32} {r : FI} {v : Int32} (hd : decode M.2.1 pc = .ok (.putfield idx, 3)) (hp : pc + 3 = pc') (hf : FWK M.1.cls idx 9 2 .boolean) (ho : h 0 = some (maB (g) (r))) (hb : v = 0 ∨ v = 1) (kk : ∀ h' : Hp, h' 0 = some (maB (v) (r)) → (∀ i, i ≠ 0 → h' i = h i) → Av X l M pc' ls st h' Q) : Av X l M pc ls (aI v :: aR 0 0 :: st) h Q :=
  A_putZ pc' hd hp hf ho (Nat.le_of_ble_eq_true rfl) hb (fun h' n e => kk h' n e)
theorem T_X9_0 (pc' : Nat) {g : Int32} {r : FI} {j : Nat} {i : Int32} {v : Int32} (hd : decode M.2.1 pc = .ok (.iastore, 1)) (hp : pc + 1 = pc') (ho : h 0 = some (maB (g) (r))) (hi : ix i 7 j) (kk : ∀ h' : Hp, h' 0 = some (maB (g) (va_up r j v)) → (∀ i, i ≠ 0 → h' i = h i) → Av X l M pc' ls st h' Q) : Av X l M pc ls (aI v :: aI i :: aR 0 1 :: st) h Q :=
  A_iastore pc' hd hp ho rfl hi (fun h' n e => kk h' n e)
theorem P_X10_0 (pc' : Nat) {idx : Nat} {x : PW} {nv : Int32} {c : RC} {z : RZ} {v : Nat} (hd : decode M.2.1 pc = .ok (.putfield idx, 3)) (hp : pc + 3 = pc') (hf : FWK M.1.cls idx 10 0 .int) (ho : h 28 = some (rB (x) (nv) (c) (z))) (kk : ∀ h' : Hp, h' 28 = some (rB ((x.1, (x.2.1, (v, x.2.2.2)))) (nv) (c) (z)) → (∀ i, i ≠ 28 → h' i = h i) → Av X l M pc' ls st h' Q) : Av X l M pc ls (aI (nI v) :: aR 28 0 :: st) h Q :=
  A_putI pc' hd hp hf ho (Nat.le_of_ble_eq_true rfl) (fun h' n e => kk h' n e)
theorem P_X10_5 (pc' : Nat) {idx : Nat} {x : PW} {nv : Int32} {c : RC} {z : RZ} {v : Nat} (hd : decode M.2.1 pc = .ok (.putfield idx, 3)) (hp : pc + 3 = pc') (hf : FWK M.1.cls idx 10 5 .int) (ho : h 28 = some (rB (x) (nv) (c) (z))) (kk : ∀ h' : Hp, h' 28 = some (rB ((x.1, (x.2.1, (x.2.2.1, (v, x.2.2.2.2))))) (nv) (c) (z)) → (∀ i, i ≠ 28 → h' i = h i) → Av X l M pc' ls st h' Q) : Av X l M pc ls (aI (nI v) :: aR 28 0 :: st) h Q :=
  A_putI pc' hd hp hf ho (Nat.le_of_ble_eq_true rfl) (fun h' n e => kk h' n e)
theorem P_X10_7 (pc' : Nat) {idx : Nat} {x : PW} {nv : Int32} {c : RC} {z : RZ} {v : Int32} (hd : decode M.2.1 pc = .ok (.putfield idx, 3)) (hp : pc + 3 = pc') (hf : FWK M.1.cls idx 10 7 .int) (ho : h 28 = some (rB (x) (nv) (c) (z))) (kk : ∀ h' : Hp, h' 28 = some (rB ((x.1, (x.2.1, (x.2.2.1, (x.2.2.2.1, (v, x.2.2.2.2.2)))))) (nv) (c) (z)) → (∀ i, i ≠ 28 → h' i = h i) → Av X l M pc' ls st h' Q) : Av X l M pc ls (aI v :: aR 28 0 :: st) h Q :=
  A_putI pc' hd hp hf ho (Nat.le_of_ble_eq_true rfl) (fun h' n e => kk h' n e)
theorem P_X10_8 (pc' : Nat) {idx : Nat} {x : PW} {nv : Int32} {c : RC} {z : RZ} {v : Int32} (hd : decode M.2.1 pc = .ok (.putfield idx, 3)) (hp : pc + 3 = pc') (hf : FWK M.1.cls idx 10 8 .int) (ho : h 28 = some (rB (x) (nv) (c) (z))) (kk : ∀ h' : Hp, h' 28 = some (rB ((x.1, (x.2.1, (x.2.2.1, (x.2.2.2.1, (x.2.2.2.2.1, v)))))) (nv) (c) (z)) → (∀ i, i ≠ 28 → h' i = h i) → Av X l M pc' ls st h' Q) : Av X l M pc ls (aI v :: aR 28 0 :: st) h Q :=
  A_putI pc' hd hp hf ho (Nat.le_of_ble_eq_true rfl) (fun h' n e => kk h' n e)
theorem P_X10_9 (pc' : Nat) {idx : Nat} {x : PW} {nv : Int32} {c : RC} {z : RZ} {v : Int32} (hd : decode M.2.1 pc = .ok (.putfield idx, 3)) (hp : pc + 3 = pc') (hf : FWK M.1.cls idx 10 9 .int) (ho : h 28 = some (rB (x) (nv) (c) (z))) (kk : ∀ h' : Hp, h' 28 = some (rB (x) (nv) (c) ((z.1, (z.2.1, (z.2.2.1, (z.2.2.2.1, (z.2.2.2.2.1, (z.2.2.2.2.2.1, (z.2.2.2.2.2.2.1, (z.2.2.2.2.2.2.2.1, v)))))))))) → (∀ i, i ≠ 28 → h' i = h i) → Av X l M pc' ls st h' Q) : Av X l M pc ls (aI v :: aR 28 0 :: st) h Q :=
  A_putI pc' hd hp hf ho (Nat.le_of_ble_eq_true rfl) (fun h' n e => kk h' n e)
theorem P_X10_11 (pc' : Nat) {idx : Nat} {x : PW} {nv : Int32} {c : RC} {z : RZ} {v : Int32} (hd : decode M.2.1 pc = .ok (.putfield idx, 3)) (hp : pc + 3 = pc') (hf : FWK M.1.cls idx 10 11 .int) (ho : h 28 = some (rB (x) (nv) (c) (z))) (kk : ∀ h' : Hp, h' 28 = some (rB (x) (v) (c) (z)) → (∀ i, i ≠ 28 → h' i = h i) → Av X l M pc' ls st h' Q) : Av X l M pc ls (aI v :: aR 28 0 :: st) h Q :=
  A_putI pc' hd hp hf ho (Nat.le_of_ble_eq_true rfl) (fun h' n e => kk h' n e)
theorem P_X10_15 (pc' : Nat) {idx : Nat} {x : PW} {nv : Int32} {c : RC} {z : RZ} {v : Nat} (hd : decode M.2.1 pc = .ok (.putfield idx, 3)) (hp : pc + 3 = pc') (hf : FWK M.1.cls idx 10 15 .int) (ho : h 28 = some (rB (x) (nv) (c) (z))) (kk : ∀ h' : Hp, h' 28 = some (rB (x) (nv) ((c.1, (c.2.1, (v, c.2.2.2)))) (z)) → (∀ i, i ≠ 28 → h' i = h i) → Av X l M pc' ls st h' Q) : Av X l M pc ls (aI (nI v) :: aR 28 0 :: st) h Q :=
  A_putI pc' hd hp hf ho (Nat.le_of_ble_eq_true rfl) (fun h' n e => kk h' n e)
theorem P_X10_16 (pc' : Nat) {idx : Nat} {x : PW} {nv : Int32} {c : RC} {z : RZ} {v : Nat} (hd : decode M.2.1 pc = .ok (.putfield idx, 3)) (hp : pc + 3 = pc') (hf : FWK M.1.cls idx 10 16 .int) (ho : h 28 = some (rB (x) (nv) (c) (z))) (kk : ∀ h' : Hp, h' 28 = some (rB (x) (nv) (c) ((z.1, ((v, z.2.1.2), z.2.2)))) → (∀ i, i ≠ 28 → h' i = h i) → Av X l M pc' ls st h' Q) : Av X l M pc ls (aI (nI v) :: aR 28 0 :: st) h Q :=
  A_putI pc' hd hp hf ho (Nat.le_of_ble_eq_true rfl) (fun h' n e => kk h' n e)
theorem P_X10_17 (pc' : Nat) {idx : Nat} {x : PW} {nv : Int32} {c : RC} {z : RZ} {v : Int32} (hd : decode M.2.1 pc = .ok (.putfield idx, 3)) (hp : pc + 3 = pc') (hf : FWK M.1.cls idx 10 17 .boolean) (ho : h 28 = some (rB (x) (nv) (c) (z))) (hb : v = 0 ∨ v = 1) (kk : ∀ h' : Hp, h' 28 = some (rB (x) (nv) (c) ((z.1, ((z.2.1.1, (v, z.2.1.2.2)), z.2.2)))) → (∀ i, i ≠ 28 → h' i = h i) → Av X l M pc' ls st h' Q) : Av X l M pc ls (aI v :: aR 28 0 :: st) h Q :=
  A_putZ pc' hd hp hf ho (Nat.le_of_ble_eq_true rfl) hb (fun h' n e => kk h' n e)
theorem P_X10_18 (pc' : Nat) {idx : Nat} {x : PW} {nv : Int32} {c : RC} {z : RZ} {v : Nat} (hd : decode M.2.1 pc = .ok (.putfield idx, 3)) (hp : pc + 3 = pc') (hf : FWK M.1.cls idx 10 18 .int) (ho : h 28 = some (rB (x) (nv) (c) (z))) (kk : ∀ h' : Hp, h' 28 = some (rB (x) (nv) (c) ((z.1, ((z.2.1.1, (z.2.1.2.1, (v, z.2.1.2.2.2))), z.2.2)))) → (∀ i, i ≠ 28 → h' i = h i) → Av X l M pc' ls st h' Q) : Av X l M pc ls (aI (nI v) :: aR 28 0 :: st) h Q :=
  A_putI pc' hd hp hf ho (Nat.le_of_ble_eq_true rfl) (fun h' n e => kk h' n e)
theorem P_X10_24 (pc' : Nat) {idx : Nat} {x : PW} {nv : Int32} {c : RC} {z : RZ} {v : Int32} (hd : decode M.2.1 pc = .ok (.putfield idx, 3)) (hp : pc + 3 = pc') (hf : FWK M.1.cls idx 10 24 .boolean) (ho : h 28 = some (rB (x) (nv) (c) (z))) (hb : v = 0 ∨ v = 1) (kk : ∀ h' : Hp, h' 28 = some (rB (x) (nv) ((c.1, (c.2.1, (c.2.2.1, (c.2.2.2.1, (v, c.2.2.2.2.2)))))) (z)) → (∀ i, i ≠ 28 → h' i = h i) → Av X l M pc' ls st h' Q) : Av X l M pc ls (aI v :: aR 28 0 :: st) h Q :=
  A_putZ pc' hd hp hf ho (Nat.le_of_ble_eq_true rfl) hb (fun h' n e => kk h' n e)
theorem P_X10_25 (pc' : Nat) {idx : Nat} {x : PW} {nv : Int32} {c : RC} {z : RZ} {v : Nat} (hd : decode M.2.1 pc = .ok (.putfield idx, 3)) (hp : pc + 3 = pc') (hf : FWK M.1.cls idx 10 25 .int) (ho : h 28 = some (rB (x) (nv) (c) (z))) (kk : ∀ h' : Hp, h' 28 = some (rB (x) (nv) (c) ((z.1, (z.2.1, ((z.2.2.1.1, (z.2.2.1.2.1, (v, z.2.2.1.2.2.2))), z.2.2.2))))) → (∀ i, i ≠ 28 → h' i = h i) → Av X l M pc' ls st h' Q) : Av X l M pc ls (aI (nI v) :: aR 28 0 :: st) h Q :=
  A_putI pc' hd hp hf ho (Nat.le_of_ble_eq_true rfl) (fun h' n e => kk h' n e)
theorem P_X10_26 (pc' : Nat) {idx : Nat} {x : PW} {nv : Int32} {c : RC} {z : RZ} {v : Int32} (hd : decode M.2.1 pc = .ok (.putfield idx, 3)) (hp : pc + 3 = pc') (hf : FWK M.1.cls idx 10 26 .boolean) (ho : h 28 = some (rB (x) (nv) (c) (z))) (hb : v = 0 ∨ v = 1) (kk : ∀ h' : Hp, h' 28 = some (rB (x) (nv) (c) ((z.1, (z.2.1, ((z.2.2.1.1, (z.2.2.1.2.1, (z.2.2.1.2.2.1, (v, z.2.2.1.2.2.2.2)))), z.2.2.2))))) → (∀ i, i ≠ 28 → h' i = h i) → Av X l M pc' ls st h' Q) : Av X l M pc ls (aI v :: aR 28 0 :: st) h Q :=
  A_putZ pc' hd hp hf ho (Nat.le_of_ble_eq_true rfl) hb (fun h' n e => kk h' n e)
theorem P_X10_27 (pc' : Nat) {idx : Nat} {x : PW} {nv : Int32} {c : RC} {z : RZ} {o2 k2 : Nat} (hd : decode M.2.1 pc = .ok (.putfield idx, 3)) (hp : pc + 3 = pc') (hf : FWK M.1.cls idx 10 27 (.array .int)) (ho : h 28 = some (rB (x) (nv) (c) (z))) (kk : ∀ h' : Hp, h' 28 = some (rB (x) (nv) (c) ((z.1, (z.2.1, ((z.2.2.1.1, (z.2.2.1.2.1, (z.2.2.1.2.2.1, (z.2.2.1.2.2.2.1, (aR o2 k2))))), z.2.2.2))))) → (∀ i, i ≠ 28 → h' i = h i) → Av X l M pc' ls st h' Q) : Av X l M pc ls (aR o2 k2 :: aR 28 0 :: st) h Q :=
  A_putA pc' hd hp hf ho (Nat.le_of_ble_eq_true rfl) (fun h' n e => kk h' n e)
theorem P_X10_30 (pc' : Nat) {idx : Nat} {x : PW} {nv : Int32} {c : RC} {z : RZ} {v : Nat} (hd : decode M.2.1 pc = .ok (.putfield idx, 3)) (hp : pc + 3 = pc') (hf : FWK M.1.cls idx 10 30 .int) (ho : h 28 = some (rB (x) (nv) (c) (z))) (kk : ∀ h' : Hp, h' 28 = some (rB (x) (nv) ((c.1, (c.2.1, (c.2.2.1, (c.2.2.2.1, (c.2.2.2.2.1, (c.2.2.2.2.2.1, (v, c.2.2.2.2.2.2.2)))))))) (z)) → (∀ i, i ≠ 28 → h' i = h i) → Av X l M pc' ls st h' Q) : Av X l M pc ls (aI (nI v) :: aR 28 0 :: st) h Q :=
  A_putI pc' hd hp hf ho (Nat.le_of_ble_eq_true rfl) (fun h' n e => kk h' n e)
theorem P_X10_32 (pc' : Nat) {idx : Nat} {x : PW} {nv : Int32} {c : RC} {z : RZ} {v : Nat} (hd : decode M.2.1 pc = .ok (.putfield idx, 3)) (hp : pc + 3 = pc') (hf : FWK M.1.cls idx 10 32 .int) (ho : h 28 = some (rB (x) (nv) (c) (z))) (kk : ∀ h' : Hp, h' 28 = some (rB (x) (nv) ((c.1, (c.2.1, (c.2.2.1, (c.2.2.2.1, (c.2.2.2.2.1, (c.2.2.2.2.2.1, (c.2.2.2.2.2.2.1, (c.2.2.2.2.2.2.2.1, v))))))))) (z)) → (∀ i, i ≠ 28 → h' i = h i) → Av X l M pc' ls st h' Q) : Av X l M pc ls (aI (nI v) :: aR 28 0 :: st) h Q :=
  A_putI pc' hd hp hf ho (Nat.le_of_ble_eq_true rfl) (fun h' n e => kk h' n e)
theorem P_X10_37 (pc' : Nat) {idx : Nat} {x : PW} {nv : Int32} {c : RC} {z : RZ} {v : Int32} (hd : decode M.2.1 pc = .ok (.putfield idx, 3)) (hp : pc + 3 = pc') (hf : FWK M.1.cls idx 10 37 .int) (ho : h 28 = some (rB (x) (nv) (c) (z))) (kk : ∀ h' : Hp, h' 28 = some (rB (x) (nv) (c) ((z.1, (z.2.1, (z.2.2.1, (z.2.2.2.1, (z.2.2.2.2.1, (z.2.2.2.2.2.1, (z.2.2.2.2.2.2.1, (v, z.2.2.2.2.2.2.2.2)))))))))) → (∀ i, i ≠ 28 → h' i = h i) → Av X l M pc' ls st h' Q) : Av X l M pc ls (aI v :: aR 28 0 :: st) h Q :=
  A_putI pc' hd hp hf ho (Nat.le_of_ble_eq_true rfl) (fun h' n e => kk h' n e)
theorem T_X10_0 (pc' : Nat) {x : PW} {nv : Int32} {c : RC} {z : RZ} {j : Nat} {i : Int32} {v : Int32} (hd : decode M.2.1 pc = .ok (.iastore, 1)) (hp : pc + 1 = pc') (ho : h 28 = some (rB (x) (nv) (c) (z))) (hi : ix i 10 j) (kk : ∀ h' : Hp, h' 28 = some (rB ((va_up x.1 (j * 4 + 0) v, x.2)) (nv) (c) (z)) → (∀ i, i ≠ 28 → h' i = h i) → Av X l M pc' ls st h' Q) : Av X l M pc ls (aI v :: aI i :: aR 28 1 :: st) h Q :=
  A_iastore pc' hd hp ho rfl hi (fun h' n e => kk h' (by
    rw [n]
    have e0 : (fun k => va_up x.1 (j * 4 + 0) v (k * 4 + 0)) = va_up (fun k => x.1 (k * 4 + 0)) j v := x4_same x.1 j v 0
    have e1 : (fun k => va_up x.1 (j * 4 + 0) v (k * 4 + 1)) = (fun k => x.1 (k * 4 + 1)) := x4_ne x.1 j v 0 1 (by decide) (by decide) (by decide)
    have e2 : (fun k => va_up x.1 (j * 4 + 0) v (k * 4 + 2)) = (fun k => x.1 (k * 4 + 2)) := x4_ne x.1 j v 0 2 (by decide) (by decide) (by decide)
    have e3 : (fun k => va_up x.1 (j * 4 + 0) v (k * 4 + 3)) = (fun k => x.1 (k * 4 + 3)) := x4_ne x.1 j v 0 3 (by decide) (by decide) (by decide)
    simp only [Nat.add_zero] at e0 e1 e2 e3
    simp only [rB, Nat.add_zero]
    rw [e0, e1, e2, e3]
    rfl) e)
theorem T_X10_1 (pc' : Nat) {x : PW} {nv : Int32} {c : RC} {z : RZ} {j : Nat} {i : Int32} {v : Int32} (hd : decode M.2.1 pc = .ok (.iastore, 1)) (hp : pc + 1 = pc') (ho : h 28 = some (rB (x) (nv) (c) (z))) (hi : ix i 10 j) (kk : ∀ h' : Hp, h' 28 = some (rB ((va_up x.1 (j * 4 + 1) v, x.2)) (nv) (c) (z)) → (∀ i, i ≠ 28 → h' i = h i) → Av X l M pc' ls st h' Q) : Av X l M pc ls (aI v :: aI i :: aR 28 2 :: st) h Q :=
  A_iastore pc' hd hp ho rfl hi (fun h' n e => kk h' (by
    rw [n]
    have e0 : (fun k => va_up x.1 (j * 4 + 1) v (k * 4 + 0)) = (fun k => x.1 (k * 4 + 0)) := x4_ne x.1 j v 1 0 (by decide) (by decide) (by decide)
    have e1 : (fun k => va_up x.1 (j * 4 + 1) v (k * 4 + 1)) = va_up (fun k => x.1 (k * 4 + 1)) j v := x4_same x.1 j v 1
    have e2 : (fun k => va_up x.1 (j * 4 + 1) v (k * 4 + 2)) = (fun k => x.1 (k * 4 + 2)) := x4_ne x.1 j v 1 2 (by decide) (by decide) (by decide)
    have e3 : (fun k => va_up x.1 (j * 4 + 1) v (k * 4 + 3)) = (fun k => x.1 (k * 4 + 3)) := x4_ne x.1 j v 1 3 (by decide) (by decide) (by decide)
    simp only [Nat.add_zero] at e0 e1 e2 e3
    simp only [rB, Nat.add_zero]
    rw [e0, e1, e2, e3]
    rfl) e)
theorem T_X10_2 (pc' : Nat) {x : PW} {nv : Int32} {c : RC} {z : RZ} {j : Nat} {i : Int32} {v : Int32} (hd : decode M.2.1 pc = .ok (.iastore, 1)) (hp : pc + 1 = pc') (ho : h 28 = some (rB (x) (nv) (c) (z))) (hi : ix i 10 j) (kk : ∀ h' : Hp, h' 28 = some (rB ((va_up x.1 (j * 4 + 2) v, x.2)) (nv) (c) (z)) → (∀ i, i ≠ 28 → h' i = h i) → Av X l M pc' ls st h' Q) : Av X l M pc ls (aI v :: aI i :: aR 28 3 :: st) h Q :=
  A_iastore pc' hd hp ho rfl hi (fun h' n e => kk h' (by
    rw [n]
    have e0 : (fun k => va_up x.1 (j * 4 + 2) v (k * 4 + 0)) = (fun k => x.1 (k * 4 + 0)) := x4_ne x.1 j v 2 0 (by decide) (by decide) (by decide)
    have e1 : (fun k => va_up x.1 (j * 4 + 2) v (k * 4 + 1)) = (fun k => x.1 (k * 4 + 1)) := x4_ne x.1 j v 2 1 (by decide) (by decide) (by decide)
    have e2 : (fun k => va_up x.1 (j * 4 + 2) v (k * 4 + 2)) = va_up (fun k => x.1 (k * 4 + 2)) j v := x4_same x.1 j v 2
    have e3 : (fun k => va_up x.1 (j * 4 + 2) v (k * 4 + 3)) = (fun k => x.1 (k * 4 + 3)) := x4_ne x.1 j v 2 3 (by decide) (by decide) (by decide)
    simp only [Nat.add_zero] at e0 e1 e2 e3
    simp only [rB, Nat.add_zero]
    rw [e0, e1, e2, e3]
    rfl) e)
theorem T_X10_3 (pc' : Nat) {x : PW} {nv : Int32} {c : RC} {z : RZ} {j : Nat} {i : Int32} {v : Int32} (hd : decode M.2.1 pc = .ok (.iastore, 1)) (hp : pc + 1 = pc') (ho : h 28 = some (rB (x) (nv) (c) (z))) (hi : ix i 10 j) (kk : ∀ h' : Hp, h' 28 = some (rB ((va_up x.1 (j * 4 + 3) v, x.2)) (nv) (c) (z)) → (∀ i, i ≠ 28 → h' i = h i) → Av X l M pc' ls st h' Q) : Av X l M pc ls (aI v :: aI i :: aR 28 4 :: st) h Q :=
  A_iastore pc' hd hp ho rfl hi (fun h' n e => kk h' (by
    rw [n]
    have e0 : (fun k => va_up x.1 (j * 4 + 3) v (k * 4 + 0)) = (fun k => x.1 (k * 4 + 0)) := x4_ne x.1 j v 3 0 (by decide) (by decide) (by decide)
    have e1 : (fun k => va_up x.1 (j * 4 + 3) v (k * 4 + 1)) = (fun k => x.1 (k * 4 + 1)) := x4_ne x.1 j v 3 1 (by decide) (by decide) (by decide)
    have e2 : (fun k => va_up x.1 (j * 4 + 3) v (k * 4 + 2)) = (fun k => x.1 (k * 4 + 2)) := x4_ne x.1 j v 3 2 (by decide) (by decide) (by decide)
    have e3 : (fun k => va_up x.1 (j * 4 + 3) v (k * 4 + 3)) = va_up (fun k => x.1 (k * 4 + 3)) j v := x4_same x.1 j v 3
    simp only [Nat.add_zero] at e0 e1 e2 e3
    simp only [rB, Nat.add_zero]
    rw [e0, e1, e2, e3]
    rfl) e)
theorem T_X10_4 (pc' : Nat) {x : PW} {nv : Int32} {c : RC} {z : RZ} {j : Nat} {i : Int32} {v : Int32} (hd : decode M.2.1 pc = .ok (.iastore, 1)) (hp : pc + 1 = pc') (ho : h 28 = some (rB (x) (nv) (c) (z))) (hi : ix i 6 j) (kk : ∀ h' : Hp, h' 28 = some (rB ((x.1, (va_up x.2.1 j v, x.2.2))) (nv) (c) (z)) → (∀ i, i ≠ 28 → h' i = h i) → Av X l M pc' ls st h' Q) : Av X l M pc ls (aI v :: aI i :: aR 28 5 :: st) h Q :=
  A_iastore pc' hd hp ho rfl hi (fun h' n e => kk h' n e)
theorem T_X10_5 (pc' : Nat) {x : PW} {nv : Int32} {c : RC} {z : RZ} {j : Nat} {i : Int32} {v : Int32} (hd : decode M.2.1 pc = .ok (.iastore, 1)) (hp : pc + 1 = pc') (ho : h 28 = some (rB (x) (nv) (c) (z))) (hi : ix i 7 j) (kk : ∀ h' : Hp, h' 28 = some (rB (x) (nv) ((va_up c.1 j v, c.2)) (z)) → (∀ i, i ≠ 28 → h' i = h i) → Av X l M pc' ls st h' Q) : Av X l M pc ls (aI v :: aI i :: aR 28 6 :: st) h Q :=
  A_iastore pc' hd hp ho rfl hi (fun h' n e => kk h' n e)
theorem T_X10_6 (pc' : Nat) {x : PW} {nv : Int32} {c : RC} {z : RZ} {j : Nat} {i : Int32} {v : Int32} (hd : decode M.2.1 pc = .ok (.iastore, 1)) (hp : pc + 1 = pc') (ho : h 28 = some (rB (x) (nv) (c) (z))) (hi : ix i 12 j) (kk : ∀ h' : Hp, h' 28 = some (rB (x) (nv) (c) (((va_up z.1.1 j v, z.1.2), z.2))) → (∀ i, i ≠ 28 → h' i = h i) → Av X l M pc' ls st h' Q) : Av X l M pc ls (aI v :: aI i :: aR 28 7 :: st) h Q :=
  A_iastore pc' hd hp ho rfl hi (fun h' n e => kk h' n e)
theorem T_X10_7 (pc' : Nat) {x : PW} {nv : Int32} {c : RC} {z : RZ} {j : Nat} {i : Int32} {v : Int32} (hd : decode M.2.1 pc = .ok (.iastore, 1)) (hp : pc + 1 = pc') (ho : h 28 = some (rB (x) (nv) (c) (z))) (hi : ix i 12 j) (kk : ∀ h' : Hp, h' 28 = some (rB (x) (nv) (c) (((z.1.1, va_up z.1.2 j v), z.2))) → (∀ i, i ≠ 28 → h' i = h i) → Av X l M pc' ls st h' Q) : Av X l M pc ls (aI v :: aI i :: aR 28 8 :: st) h Q :=
  A_iastore pc' hd hp ho rfl hi (fun h' n e => kk h' n e)
theorem T_X10_8 (pc' : Nat) {x : PW} {nv : Int32} {c : RC} {z : RZ} {j : Nat} {i : Int32} {v : Int32} (hd : decode M.2.1 pc = .ok (.iastore, 1)) (hp : pc + 1 = pc') (ho : h 28 = some (rB (x) (nv) (c) (z))) (hi : ix i 96 j) (kk : ∀ h' : Hp, h' 28 = some (rB (x) (nv) ((c.1, (va_up c.2.1 j v, c.2.2))) (z)) → (∀ i, i ≠ 28 → h' i = h i) → Av X l M pc' ls st h' Q) : Av X l M pc ls (aI v :: aI i :: aR 28 9 :: st) h Q :=
  A_iastore pc' hd hp ho rfl hi (fun h' n e => kk h' n e)
theorem T_X10_9 (pc' : Nat) {x : PW} {nv : Int32} {c : RC} {z : RZ} {j : Nat} {i : Int32} {v : Int32} (hd : decode M.2.1 pc = .ok (.iastore, 1)) (hp : pc + 1 = pc') (ho : h 28 = some (rB (x) (nv) (c) (z))) (hi : ix i 49 j) (kk : ∀ h' : Hp, h' 28 = some (rB (x) (nv) (c) ((z.1, ((z.2.1.1, (z.2.1.2.1, (z.2.1.2.2.1, (va_up z.2.1.2.2.2.1 j v, z.2.1.2.2.2.2)))), z.2.2)))) → (∀ i, i ≠ 28 → h' i = h i) → Av X l M pc' ls st h' Q) : Av X l M pc ls (aI v :: aI i :: aR 28 10 :: st) h Q :=
  A_iastore pc' hd hp ho rfl hi (fun h' n e => kk h' n e)
theorem T_X10_10 (pc' : Nat) {x : PW} {nv : Int32} {c : RC} {z : RZ} {j : Nat} {i : Int32} {v : Int32} (hd : decode M.2.1 pc = .ok (.iastore, 1)) (hp : pc + 1 = pc') (ho : h 28 = some (rB (x) (nv) (c) (z))) (hi : ix i 49 j) (kk : ∀ h' : Hp, h' 28 = some (rB (x) (nv) (c) ((z.1, ((z.2.1.1, (z.2.1.2.1, (z.2.1.2.2.1, (z.2.1.2.2.2.1, (va_up z.2.1.2.2.2.2.1 j v, z.2.1.2.2.2.2.2))))), z.2.2)))) → (∀ i, i ≠ 28 → h' i = h i) → Av X l M pc' ls st h' Q) : Av X l M pc ls (aI v :: aI i :: aR 28 11 :: st) h Q :=
  A_iastore pc' hd hp ho rfl hi (fun h' n e => kk h' n e)
theorem T_X10_11 (pc' : Nat) {x : PW} {nv : Int32} {c : RC} {z : RZ} {j : Nat} {i : Int32} {v : Int32} (hd : decode M.2.1 pc = .ok (.iastore, 1)) (hp : pc + 1 = pc') (ho : h 28 = some (rB (x) (nv) (c) (z))) (hi : ix i 196 j) (kk : ∀ h' : Hp, h' 28 = some (rB (x) (nv) (c) ((z.1, ((z.2.1.1, (z.2.1.2.1, (z.2.1.2.2.1, (z.2.1.2.2.2.1, (z.2.1.2.2.2.2.1, va_up z.2.1.2.2.2.2.2 j v))))), z.2.2)))) → (∀ i, i ≠ 28 → h' i = h i) → Av X l M pc' ls st h' Q) : Av X l M pc ls (aI v :: aI i :: aR 28 12 :: st) h Q :=
  A_iastore pc' hd hp ho rfl hi (fun h' n e => kk h' n e)
theorem T_X10_12 (pc' : Nat) {x : PW} {nv : Int32} {c : RC} {z : RZ} {j : Nat} {i : Int32} {v : Int32} (hd : decode M.2.1 pc = .ok (.iastore, 1)) (hp : pc + 1 = pc') (ho : h 28 = some (rB (x) (nv) (c) (z))) (hi : ix i 50 j) (kk : ∀ h' : Hp, h' 28 = some (rB (x) (nv) (c) ((z.1, (z.2.1, ((va_up z.2.2.1.1 j v, z.2.2.1.2), z.2.2.2))))) → (∀ i, i ≠ 28 → h' i = h i) → Av X l M pc' ls st h' Q) : Av X l M pc ls (aI v :: aI i :: aR 28 13 :: st) h Q :=
  A_iastore pc' hd hp ho rfl hi (fun h' n e => kk h' n e)
theorem T_X10_13 (pc' : Nat) {x : PW} {nv : Int32} {c : RC} {z : RZ} {j : Nat} {i : Int32} {v : Int32} (hd : decode M.2.1 pc = .ok (.iastore, 1)) (hp : pc + 1 = pc') (ho : h 28 = some (rB (x) (nv) (c) (z))) (hi : ix i 50 j) (kk : ∀ h' : Hp, h' 28 = some (rB (x) (nv) ((c.1, (c.2.1, (c.2.2.1, (va_up c.2.2.2.1 j v, c.2.2.2.2))))) (z)) → (∀ i, i ≠ 28 → h' i = h i) → Av X l M pc' ls st h' Q) : Av X l M pc ls (aI v :: aI i :: aR 28 14 :: st) h Q :=
  A_iastore pc' hd hp ho rfl hi (fun h' n e => kk h' n e)
theorem T_X10_14 (pc' : Nat) {x : PW} {nv : Int32} {c : RC} {z : RZ} {j : Nat} {i : Int32} {v : Int32} (hd : decode M.2.1 pc = .ok (.iastore, 1)) (hp : pc + 1 = pc') (ho : h 28 = some (rB (x) (nv) (c) (z))) (hi : ix i 400 j) (kk : ∀ h' : Hp, h' 28 = some (rB (x) (nv) ((c.1, (c.2.1, (c.2.2.1, (c.2.2.2.1, (c.2.2.2.2.1, (va_up c.2.2.2.2.2.1 j v, c.2.2.2.2.2.2))))))) (z)) → (∀ i, i ≠ 28 → h' i = h i) → Av X l M pc' ls st h' Q) : Av X l M pc ls (aI v :: aI i :: aR 28 15 :: st) h Q :=
  A_iastore pc' hd hp ho rfl hi (fun h' n e => kk h' n e)
theorem T_X10_15 (pc' : Nat) {x : PW} {nv : Int32} {c : RC} {z : RZ} {j : Nat} {i : Int32} {v : Int32} (hd : decode M.2.1 pc = .ok (.iastore, 1)) (hp : pc + 1 = pc') (ho : h 28 = some (rB (x) (nv) (c) (z))) (hi : ix i 50 j) (kk : ∀ h' : Hp, h' 28 = some (rB (x) (nv) (c) ((z.1, (z.2.1, ((z.2.2.1.1, (va_up z.2.2.1.2.1 j v, z.2.2.1.2.2)), z.2.2.2))))) → (∀ i, i ≠ 28 → h' i = h i) → Av X l M pc' ls st h' Q) : Av X l M pc ls (aI v :: aI i :: aR 28 16 :: st) h Q :=
  A_iastore pc' hd hp ho rfl hi (fun h' n e => kk h' n e)
theorem T_X10_16 (pc' : Nat) {x : PW} {nv : Int32} {c : RC} {z : RZ} {j : Nat} {i : Int32} {v : Int32} (hd : decode M.2.1 pc = .ok (.iastore, 1)) (hp : pc + 1 = pc') (ho : h 28 = some (rB (x) (nv) (c) (z))) (hi : ix i 16 j) (kk : ∀ h' : Hp, h' 28 = some (rB (x) (nv) ((c.1, (c.2.1, (c.2.2.1, (c.2.2.2.1, (c.2.2.2.2.1, (c.2.2.2.2.2.1, (c.2.2.2.2.2.2.1, (va_up c.2.2.2.2.2.2.2.1 j v, c.2.2.2.2.2.2.2.2))))))))) (z)) → (∀ i, i ≠ 28 → h' i = h i) → Av X l M pc' ls st h' Q) : Av X l M pc ls (aI v :: aI i :: aR 28 17 :: st) h Q :=
  A_iastore pc' hd hp ho rfl hi (fun h' n e => kk h' n e)
theorem T_X10_17 (pc' : Nat) {x : PW} {nv : Int32} {c : RC} {z : RZ} {j : Nat} {i : Int32} {v : Int32} (hd : decode M.2.1 pc = .ok (.bastore, 1)) (hp : pc + 1 = pc') (ho : h 28 = some (rB (x) (nv) (c) (z))) (hi : ix i 256 j) (hb : v = 0 ∨ v = 1) (kk : ∀ h' : Hp, h' 28 = some (rB (x) (nv) (c) ((z.1, (z.2.1, (z.2.2.1, (va_up z.2.2.2.1 j v, z.2.2.2.2)))))) → (∀ i, i ≠ 28 → h' i = h i) → Av X l M pc' ls st h' Q) : Av X l M pc ls (aI v :: aI i :: aR 28 18 :: st) h Q :=
  A_bastore pc' hd hp ho rfl hi hb (fun h' n e => kk h' n e)
theorem T_X10_18 (pc' : Nat) {x : PW} {nv : Int32} {c : RC} {z : RZ} {j : Nat} {i : Int32} {v : Int32} (hd : decode M.2.1 pc = .ok (.iastore, 1)) (hp : pc + 1 = pc') (ho : h 28 = some (rB (x) (nv) (c) (z))) (hi : ix i 256 j) (kk : ∀ h' : Hp, h' 28 = some (rB (x) (nv) (c) ((z.1, (z.2.1, (z.2.2.1, (z.2.2.2.1, (va_up z.2.2.2.2.1 j v, z.2.2.2.2.2))))))) → (∀ i, i ≠ 28 → h' i = h i) → Av X l M pc' ls st h' Q) : Av X l M pc ls (aI v :: aI i :: aR 28 19 :: st) h Q :=
  A_iastore pc' hd hp ho rfl hi (fun h' n e => kk h' n e)
theorem T_X10_19 (pc' : Nat) {x : PW} {nv : Int32} {c : RC} {z : RZ} {j : Nat} {i : Int32} {v : Int32} (hd : decode M.2.1 pc = .ok (.iastore, 1)) (hp : pc + 1 = pc') (ho : h 28 = some (rB (x) (nv) (c) (z))) (hi : ix i 366 j) (kk : ∀ h' : Hp, h' 28 = some (rB (x) (nv) (c) ((z.1, (z.2.1, (z.2.2.1, (z.2.2.2.1, (z.2.2.2.2.1, (va_up z.2.2.2.2.2.1 j v, z.2.2.2.2.2.2)))))))) → (∀ i, i ≠ 28 → h' i = h i) → Av X l M pc' ls st h' Q) : Av X l M pc ls (aI v :: aI i :: aR 28 20 :: st) h Q :=
  A_iastore pc' hd hp ho rfl hi (fun h' n e => kk h' n e)
theorem T_X10_20 (pc' : Nat) {x : PW} {nv : Int32} {c : RC} {z : RZ} {j : Nat} {i : Int32} {v : Int32} (hd : decode M.2.1 pc = .ok (.iastore, 1)) (hp : pc + 1 = pc') (ho : h 28 = some (rB (x) (nv) (c) (z))) (hi : ix i 12 j) (kk : ∀ h' : Hp, h' 28 = some (rB (x) (nv) (c) ((z.1, (z.2.1, (z.2.2.1, (z.2.2.2.1, (z.2.2.2.2.1, (z.2.2.2.2.2.1, (va_up z.2.2.2.2.2.2.1 j v, z.2.2.2.2.2.2.2))))))))) → (∀ i, i ≠ 28 → h' i = h i) → Av X l M pc' ls st h' Q) : Av X l M pc ls (aI v :: aI i :: aR 28 21 :: st) h Q :=
  A_iastore pc' hd hp ho rfl hi (fun h' n e => kk h' n e)
end PUTS
