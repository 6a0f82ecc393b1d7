/-! Folk -/
theorem foldN_id {α : Type} {f : Nat → α → α} {a : α} : ∀ {m : Nat}, (∀ j, j < m → f j a = a) → foldN f a m = a := by
  intro m
  induction m with
  | zero => intro _; rfl
  | succ m ih => intro h; rw [foldN_s, ih (fun j hj => h j (by omega)), h m (by omega)]
def dtF (x : PW) (tk : Int32) (p : Nat) (u : Int32) : Int32 := u + DN x (x.2.1 p &&& (tk ^^^ (-1)))
def DT (x : PW) (tk : Int32) : Int32 := foldN (dtF x tk) 0 x.2.2.2.1
def dsF (x : PW) (p : Nat) (u : Int32) : Int32 := u ||| dDone x 0 (x.2.1 p)
def daF (x : PW) (p : Nat) (u : Int32) : Int32 := u &&& dDone x 0 (x.2.1 p)
def allL (x : PW) : Int32 := (1 <<< (nI x.2.2.1 &&& 31)) - 1
def DA (x : PW) : Int32 := if x.2.2.2.1 = 0 then 0 else foldN (daF x) (allL x) x.2.2.2.1
def alI (x : PW) (a b : Nat) (t : Int32 × Int32) : Int32 × Int32 := if a < b ∧ t.2 < bitC (dDone x 0 (x.2.1 a) &&& dDone x 0 (x.2.1 b)) then (10 * nI a + nI b, bitC (dDone x 0 (x.2.1 a) &&& dDone x 0 (x.2.1 b))) else t
def alO (x : PW) (a : Nat) (t : Int32 × Int32) : Int32 × Int32 := foldN (alI x a) t x.2.2.2.1
theorem alI_id {x : PW} {a : Nat} {t : Int32 × Int32} : ∀ j, j < a + 1 → alI x a j t = t := fun j hj => if_neg (fun z => by have := z.1; omega)
def kyF (x : PW) (i : Nat) (t : Int32 × Int32) : Int32 × Int32 := if DT x (tbI (nI (i + 1))) < t.2 then (nI (i + 1), DT x (tbI (nI (i + 1)))) else t
def KY (x : PW) : Int32 × Int32 := foldN (kyF x) (0, DT x (tbI 0)) 7
def spF (x : PW) (p : Int32) (i : Nat) (u : Int32) : Int32 := if btI x.2.2.2.2.1 (nI i) = true ∧ DN x p < DN x (p ||| tbI (nI i)) then u ||| tbI (nI i) else u
def SP (x : PW) (p : Int32) : Int32 := foldN (spF x p) 0 8
def pkF (x : PW) (p : Nat) (u : Int64) : Int64 := (u <<< ((8 : Int32).toInt64 &&& 63)) ||| (x.2.1 p).toInt64
def PK (x : PW) : Int64 := foldN (pkF x) 0 x.2.2.2.1
def anyN (p : Nat → Bool) : Nat → Bool
  | 0 => false
  | k + 1 => anyN p k || p k
theorem anyN_yes {p : Nat → Bool} {k n : Nat} (hk : k < n) (h : p k = true) : anyN p n = true := by
  induction n with
  | zero => omega
  | succ n ih =>
    by_cases e : k = n
    · subst e; simp [anyN, h]
    · simp [anyN, ih (by omega)]
def dyN (x : PW) : Nat → PW
  | 0 => x
  | n + 1 => passX (dyN x n)
theorem dyN_L {x : PW} (hx : LOK x) : ∀ n, LOK (dyN x n) := by
  intro n
  induction n with
  | zero => exact hx
  | succ n ih => exact ih
theorem dyN_p (x : PW) : ∀ n, (dyN x n).2.2.2.1 = x.2.2.2.1 := by
  intro n
  induction n with
  | zero => rfl
  | succ n ih => exact ih
def seenB (x : PW) (k n : Nat) : Bool := decide (PK (dyN x k) = PK (dyN x n))
def frN (x : PW) : Nat → Nat → Int32
  | 0, _ => -9
  | m + 1, k => if anyN (fun q => seenB x q (k + 1)) (k + 1) = true then nI (k + 1) else frN x m (k + 1)
def FR (x : PW) : Int32 := frN x 60 0
theorem frN_s (x : PW) (m k : Nat) : frN x (m + 1) k = if anyN (fun q => seenB x q (k + 1)) (k + 1) = true then nI (k + 1) else frN x m (k + 1) := rfl
def D2 (x : PW) (a b : Int32) : Int32 := DN x a + DN x b
def trN (x : PW) (a b : Int32) (i j : Nat) : Int32 := D2 x ((a &&& (tbI (nI i) ^^^ (-1))) ||| tbI (nI j)) ((b &&& (tbI (nI j) ^^^ (-1))) ||| tbI (nI i))
def trI (x : PW) (a b : Int32) (i j : Nat) (t : Int32 × Int32) : Int32 × Int32 := if btI b (nI j) = true ∧ t.1 < trN x a b i j then (trN x a b i j, 10 * nI i + nI j) else t
def trO (x : PW) (a b : Int32) (i : Nat) (t : Int32 × Int32) : Int32 × Int32 := if btI a (nI i) = true then foldN (trI x a b i) t 8 else t
def TR (x : PW) (a b : Int32) : Int32 × Int32 := foldN (trO x a b) (D2 x a b, 88) 8
def giN (x : PW) (a b : Int32) (i : Nat) : Int32 := D2 x (a &&& (tbI (nI i) ^^^ (-1))) (b ||| tbI (nI i))
def giF (x : PW) (a b : Int32) (i : Nat) (t : Int32 × Int32) : Int32 × Int32 := if btI a (nI i) = true ∧ t.1 < giN x a b i then (giN x a b i, nI i) else t
def GI (x : PW) (a b : Int32) : Int32 × Int32 := foldN (giF x a b) (D2 x a b, -9) 8
def zN (z : Int32) : Int32 := z * 1103515245 + 12345
def zT (z : Int32) : Int32 :=
  ((z &&& 2147483647).toUInt32 >>> ((16 : Int32).toUInt32 &&& Int32.toUInt32 31)).toInt32 - ((z &&& 2147483647).toUInt32 >>> ((16 : Int32).toUInt32 &&& Int32.toUInt32 31)).toInt32 / 8 * 8
def ltI (x : PW) (p : Nat) (t : Int32 × Int32 × Int32) : Int32 × Int32 × Int32 := (zN t.1, t.2.1 + DN x (x.2.1 p &&& (tbI (zT (zN t.1)) ^^^ (-1))), if (inT (zT (zN t.1)) && btI (x.2.1 p) (zT (zN t.1))) = true then t.2.2 + 1 else t.2.2)
def ltO (x : PW) (_ : Nat) (t : Int32 × Int32 × Int32) : Int32 × Int32 × Int32 := foldN (ltI x) t x.2.2.2.1
set_option maxHeartbeats 4000000 in
set_option maxRecDepth 100000 in
theorem S_X2_doneTogether (X : En) (l : Launch) {h : Hp} {x : PW} {y : PC} {s : Nat → Int64} {g : FI} (O25 : h 25 = some (foB s g)) (O26 : h 26 = some (cB 26 y)) (O1 : h 1 = some (wB 1 x)) (hx : LOK x) (hp : x.2.2.2.1 ≤ 6) {tk : Int32} : Ct X l mX2_doneTogether [aR 25 0, aR 1 0, aI tk] h (QI (fun vr h2 => (DT x tk) = vr ∧ ∃ (y1 : PC), h2 (26) = some (cB 26 y1) ∧ ∀ i, i ≠ 26 → h2 i = h i)) := by
  have hf : ∀ i, i ≠ 26 → h i = h i := fun _ _ => rfl
  refine Ct.intro [some (aR 25 0), some (aR 1 0), some (aI tk), none, none] (by decide +kernel) rfl (Nat.le_of_ble_eq_true rfl) ?_
  refine A_iconst 1 (0) dX2_doneTogether_0 rfl (by decide) ?_
  refine A_istore_n 2 dX2_doneTogether_1 rfl rfl (by decide) (by first | exact (ast_s (ast_s (ast_1 rfl))) | exact (ast_s (ast_s ast_k))) ?_
  refine A_iconst 3 (0) dX2_doneTogether_2 rfl (by decide) ?_
  refine A_istore 5 dX2_doneTogether_3 rfl (by decide) (by first | exact (ast_s (ast_s (ast_s (ast_1 rfl)))) | exact (ast_s (ast_s (ast_s ast_k)))) ?_
  have L5 : ∀ (nq i : Nat) (u : Int32) (g5 : Hp) (y0 : PC), (nq + i = x.2.2.2.1) → (foldN (dtF x tk) (0) i = (u)) → (g5 25 = some (foB s g)) → (g5 26 = some (cB 26 y0)) → (g5 1 = some (wB 1 x)) → (∀ i, i ≠ 26 → g5 i = h i) → Av X l mX2_doneTogether 5 [some (aR 25 0), some (aR 1 0), some (aI (tk)), some (aI (u)), some (aI (nI (i)))] [] g5 (QI (fun vr h2 => (DT x tk) = vr ∧ ∃ (y1 : PC), h2 (26) = some (cB 26 y1) ∧ ∀ i, i ≠ 26 → h2 i = h i)) := by
    intro nq
    induction nq using Nat.strongRecOn with
    | _ nq ih =>
    intro i u g5 y0 en ee O25 O26 O1 hf
    refine A_iload 7 dX2_doneTogether_5 rfl rfl ?_
    refine A_aload_n 8 dX2_doneTogether_7 rfl rfl rfl ?_
    refine A_callVI 11 (S_X8_peopleCount X l (by first | assumption | decide | omega | exact Ne.symm (by assumption))) dX2_doneTogether_8 rfl kX8_peopleCount lk_X2_33 rfl O1 (by decide) rfl (Nat.le_of_ble_eq_true rfl) (fun v_1 h_1 qh_1 => ?_)
    obtain ⟨rfl, rfl⟩ := qh_1
    refine A_icmp_ge 41 14 dX2_doneTogether_11 (by decide) rfl (fun c11 => ?_) (fun c11 => ?_)
    · skip
      obtain rfl := (up_ge_T (N := x.2.2.2.1) c11 rfl (by omega) (by omega)).symm
      refine A_iload_n 42 dX2_doneTogether_41 rfl rfl rfl ?_
      refine A_iret dX2_doneTogether_42 rfl ⟨_, rfl, (by unfold DT; rw [ee]), _, O26, hf⟩
    · skip
      have hi := up_ge_F (N := x.2.2.2.1) c11 rfl (by omega) (by omega)
      obtain ⟨n0, rfl⟩ : ∃ q, nq = q + 1 := ⟨nq - 1, by omega⟩
      refine A_iload_n 15 dX2_doneTogether_14 rfl rfl rfl ?_
      refine A_aload_n 16 dX2_doneTogether_15 rfl rfl rfl ?_
      refine A_getfield 19 dX2_doneTogether_16 rfl f_X2_12 O25 rfl ?_
      refine A_aload_n 20 dX2_doneTogether_19 rfl rfl rfl ?_
      refine A_aload_n 21 dX2_doneTogether_20 rfl rfl rfl ?_
      refine A_iload 23 dX2_doneTogether_21 rfl rfl ?_
      refine A_callVI 26 (S_X8_pocketsOf X l (by first | assumption | decide | omega | exact Ne.symm (by assumption)) (by first | assumption | decide | omega | exact Ne.symm (by assumption))) dX2_doneTogether_23 rfl kX8_pocketsOf lk_X2_37 rfl O1 (by decide) rfl (Nat.le_of_ble_eq_true rfl) (fun v_2 h_2 qh_2 => ?_)
      obtain ⟨rfl, rfl⟩ := qh_2
      refine A_iload_n 27 dX2_doneTogether_26 rfl rfl rfl ?_
      refine A_iconst 28 (-1) dX2_doneTogether_27 rfl (by decide) ?_
      refine A_ixor 29 dX2_doneTogether_28 rfl ?_
      refine A_iand 30 dX2_doneTogether_29 rfl ?_
      refine A_callVI 33 (S_X1_countDone X l (by first | assumption | decide | omega | exact Ne.symm (by assumption)) (by first | assumption | decide | omega | exact Ne.symm (by assumption)) (by first | assumption | decide | omega | exact Ne.symm (by assumption)) (by first | assumption | decide | omega | exact Ne.symm (by assumption))) dX2_doneTogether_30 rfl kX1_countDone lk_X2_41 rfl O26 (by decide) rfl (Nat.le_of_ble_eq_true rfl) (fun v_3 h_3 qh_3 => ?_)
      obtain ⟨rfl, n0h_3, eh_3⟩ := qh_3
      replace O25 := (eh_3 _ (by decide)).trans O25
      replace O26 := n0h_3
      replace O1 := (eh_3 _ (by decide)).trans O1
      replace hf : ∀ i, i ≠ 26 → h_3 i = h i := fun i g0 => (eh_3 i g0).trans (hf i g0)
      refine A_iadd 34 dX2_doneTogether_33 rfl ?_
      refine A_istore_n 35 dX2_doneTogether_34 rfl rfl (by decide) (by first | exact (ast_s (ast_s (ast_1 rfl))) | exact (ast_s (ast_s ast_k))) ?_
      first | refine A_iincN 38 dX2_doneTogether_35 rfl rfl (by decide) (by first | exact (ast_s (ast_s (ast_s (ast_1 rfl)))) | exact (ast_s (ast_s (ast_s ast_k)))) ?_ | refine A_iinc 38 (1) dX2_doneTogether_35 rfl rfl (by decide) (by decide) (by first | exact (ast_s (ast_s (ast_s (ast_1 rfl)))) | exact (ast_s (ast_s (ast_s ast_k)))) ?_
      refine A_goto 5 dX2_doneTogether_38 (by decide) ?_
      exact ih n0 (Nat.lt_succ_self n0) (i + 1) _ h_3 _ (by omega) ((foldN_s (dtF x tk) (0) i).trans ((congrArg ((dtF x tk) i) ee).trans (by first | with_reducible rfl | (simp only [if_true, if_false, ite_true, ite_false, and_true, true_and, and_false, false_and, and_self, or_true, true_or, or_false, false_or, or_self, not_true_eq_false, not_false_eq_true, decide_true, decide_false, Bool.and_true, Bool.true_and, Bool.and_false, Bool.false_and, Bool.and_self, Bool.or_true, Bool.true_or, Bool.or_false, Bool.false_or, Bool.not_true, Bool.not_false, cond_true, cond_false, bI_t, bI_f, Bool.false_eq_true, Bool.true_eq_false, dayC_1, dayC_21, dayC_221, dayC_222, dtF]; done) | (simp [*, dtF]; done) | with_reducible_and_instances rfl))) O25 O26 O1 hf
  exact L5 (x.2.2.2.1) (0) (_) h (_) (by omega) (rfl) O25 O26 O1 hf
set_option maxHeartbeats 4000000 in
set_option maxRecDepth 100000 in
theorem S_X2_doneBySome (X : En) (l : Launch) {h : Hp} {x : PW} {y : PC} {s : Nat → Int64} {g : FI} (O25 : h 25 = some (foB s g)) (O26 : h 26 = some (cB 26 y)) (O1 : h 1 = some (wB 1 x)) (hx : LOK x) (hp : x.2.2.2.1 ≤ 6) : Ct X l mX2_doneBySome [aR 25 0, aR 1 0] h (QI (fun vr h2 => (foldN (dsF x) 0 x.2.2.2.1) = vr ∧ ∃ (y1 : PC), h2 (26) = some (cB 26 y1) ∧ ∀ i, i ≠ 26 → h2 i = h i)) := by
  have hf : ∀ i, i ≠ 26 → h i = h i := fun _ _ => rfl
  refine Ct.intro [some (aR 25 0), some (aR 1 0), none, none] (by decide +kernel) rfl (Nat.le_of_ble_eq_true rfl) ?_
  refine A_iconst 1 (0) dX2_doneBySome_0 rfl (by decide) ?_
  refine A_istore_n 2 dX2_doneBySome_1 rfl rfl (by decide) (by first | exact (ast_s (ast_1 rfl)) | exact (ast_s ast_k)) ?_
  refine A_iconst 3 (0) dX2_doneBySome_2 rfl (by decide) ?_
  refine A_istore_n 4 dX2_doneBySome_3 rfl rfl (by decide) (by first | exact (ast_s (ast_s (ast_1 rfl))) | exact (ast_s (ast_s ast_k))) ?_
  have L4 : ∀ (nq i : Nat) (u : Int32) (g4 : Hp) (y0 : PC), (nq + i = x.2.2.2.1) → (foldN (dsF x) (0) i = (u)) → (g4 25 = some (foB s g)) → (g4 26 = some (cB 26 y0)) → (g4 1 = some (wB 1 x)) → (∀ i, i ≠ 26 → g4 i = h i) → Av X l mX2_doneBySome 4 [some (aR 25 0), some (aR 1 0), some (aI (u)), some (aI (nI (i)))] [] g4 (QI (fun vr h2 => (foldN (dsF x) 0 x.2.2.2.1) = vr ∧ ∃ (y1 : PC), h2 (26) = some (cB 26 y1) ∧ ∀ i, i ≠ 26 → h2 i = h i)) := by
    intro nq
    induction nq using Nat.strongRecOn with
    | _ nq ih =>
    intro i u g4 y0 en ee O25 O26 O1 hf
    refine A_iload_n 5 dX2_doneBySome_4 rfl rfl rfl ?_
    refine A_aload_n 6 dX2_doneBySome_5 rfl rfl rfl ?_
    refine A_callVI 9 (S_X8_peopleCount X l (by first | assumption | decide | omega | exact Ne.symm (by assumption))) dX2_doneBySome_6 rfl kX8_peopleCount lk_X2_33 rfl O1 (by decide) rfl (Nat.le_of_ble_eq_true rfl) (fun v_1 h_1 qh_1 => ?_)
    obtain ⟨rfl, rfl⟩ := qh_1
    refine A_icmp_ge 35 12 dX2_doneBySome_9 (by decide) rfl (fun c9 => ?_) (fun c9 => ?_)
    · skip
      obtain rfl := (up_ge_T (N := x.2.2.2.1) c9 rfl (by omega) (by omega)).symm
      refine A_iload_n 36 dX2_doneBySome_35 rfl rfl rfl ?_
      refine A_iret dX2_doneBySome_36 rfl ⟨_, rfl, (by first | with_reducible rfl | (simp only [if_true, if_false, ite_true, ite_false, and_true, true_and, and_false, false_and, and_self, or_true, true_or, or_false, false_or, or_self, not_true_eq_false, not_false_eq_true, decide_true, decide_false, Bool.and_true, Bool.true_and, Bool.and_false, Bool.false_and, Bool.and_self, Bool.or_true, Bool.true_or, Bool.or_false, Bool.false_or, Bool.not_true, Bool.not_false, cond_true, cond_false, bI_t, bI_f, Bool.false_eq_true, Bool.true_eq_false, dayC_1, dayC_21, dayC_221, dayC_222]; done) | (simp only [*]; done) | (simp [bI, *]; done) | with_reducible_and_instances rfl), _, O26, hf⟩
    · skip
      have hi := up_ge_F (N := x.2.2.2.1) c9 rfl (by omega) (by omega)
      obtain ⟨n0, rfl⟩ : ∃ q, nq = q + 1 := ⟨nq - 1, by omega⟩
      refine A_iload_n 13 dX2_doneBySome_12 rfl rfl rfl ?_
      refine A_aload_n 14 dX2_doneBySome_13 rfl rfl rfl ?_
      refine A_getfield 17 dX2_doneBySome_14 rfl f_X2_12 O25 rfl ?_
      refine A_aload_n 18 dX2_doneBySome_17 rfl rfl rfl ?_
      refine A_aload_n 19 dX2_doneBySome_18 rfl rfl rfl ?_
      refine A_iload_n 20 dX2_doneBySome_19 rfl rfl rfl ?_
      refine A_callVI 23 (S_X8_pocketsOf X l (by first | assumption | decide | omega | exact Ne.symm (by assumption)) (by first | assumption | decide | omega | exact Ne.symm (by assumption))) dX2_doneBySome_20 rfl kX8_pocketsOf lk_X2_37 rfl O1 (by decide) rfl (Nat.le_of_ble_eq_true rfl) (fun v_2 h_2 qh_2 => ?_)
      obtain ⟨rfl, rfl⟩ := qh_2
      refine A_iconst 24 (0) dX2_doneBySome_23 rfl (by decide) ?_
      refine A_callVI 27 (S_X1_run X l (by first | assumption | decide | omega | exact Ne.symm (by assumption)) (by first | assumption | decide | omega | exact Ne.symm (by assumption)) (by first | assumption | decide | omega | exact Ne.symm (by assumption)) (by first | assumption | decide | omega | exact Ne.symm (by assumption))) dX2_doneBySome_24 rfl kX1_run lk_X2_45 rfl O26 (by decide) rfl (Nat.le_of_ble_eq_true rfl) (fun v_3 h_3 qh_3 => ?_)
      obtain ⟨rfl, n0h_3, eh_3⟩ := qh_3
      replace O25 := (eh_3 _ (by decide)).trans O25
      replace O26 := n0h_3
      replace O1 := (eh_3 _ (by decide)).trans O1
      replace hf : ∀ i, i ≠ 26 → h_3 i = h i := fun i g0 => (eh_3 i g0).trans (hf i g0)
      refine A_ior 28 dX2_doneBySome_27 rfl ?_
      refine A_istore_n 29 dX2_doneBySome_28 rfl rfl (by decide) (by first | exact (ast_s (ast_1 rfl)) | exact (ast_s ast_k)) ?_
      first | refine A_iincN 32 dX2_doneBySome_29 rfl rfl (by decide) (by first | exact (ast_s (ast_s (ast_1 rfl))) | exact (ast_s (ast_s ast_k))) ?_ | refine A_iinc 32 (1) dX2_doneBySome_29 rfl rfl (by decide) (by decide) (by first | exact (ast_s (ast_s (ast_1 rfl))) | exact (ast_s (ast_s ast_k))) ?_
      refine A_goto 4 dX2_doneBySome_32 (by decide) ?_
      exact ih n0 (Nat.lt_succ_self n0) (i + 1) _ h_3 _ (by omega) ((foldN_s (dsF x) (0) i).trans ((congrArg ((dsF x) i) ee).trans (by first | with_reducible rfl | (simp only [if_true, if_false, ite_true, ite_false, and_true, true_and, and_false, false_and, and_self, or_true, true_or, or_false, false_or, or_self, not_true_eq_false, not_false_eq_true, decide_true, decide_false, Bool.and_true, Bool.true_and, Bool.and_false, Bool.false_and, Bool.and_self, Bool.or_true, Bool.true_or, Bool.or_false, Bool.false_or, Bool.not_true, Bool.not_false, cond_true, cond_false, bI_t, bI_f, Bool.false_eq_true, Bool.true_eq_false, dayC_1, dayC_21, dayC_221, dayC_222, dsF]; done) | (simp [*, dsF]; done) | with_reducible_and_instances rfl))) O25 O26 O1 hf
  exact L4 (x.2.2.2.1) (0) (_) h (_) (by omega) (rfl) O25 O26 O1 hf
set_option maxHeartbeats 4000000 in
set_option maxRecDepth 100000 in
theorem S_X2_doneByAll (X : En) (l : Launch) {h : Hp} {x : PW} {y : PC} {s : Nat → Int64} {g : FI} (O25 : h 25 = some (foB s g)) (O26 : h 26 = some (cB 26 y)) (O1 : h 1 = some (wB 1 x)) (hx : LOK x) (hp : x.2.2.2.1 ≤ 6) : Ct X l mX2_doneByAll [aR 25 0, aR 1 0] h (QI (fun vr h2 => (DA x) = vr ∧ ∃ (y1 : PC), h2 (26) = some (cB 26 y1) ∧ ∀ i, i ≠ 26 → h2 i = h i)) := by
  have hf : ∀ i, i ≠ 26 → h i = h i := fun _ _ => rfl
  refine Ct.intro [some (aR 25 0), some (aR 1 0), none, none] (by decide +kernel) rfl (Nat.le_of_ble_eq_true rfl) ?_
  refine A_aload_n 1 dX2_doneByAll_0 rfl rfl rfl ?_
  refine A_callVI 4 (S_X8_peopleCount X l (by first | assumption | decide | omega | exact Ne.symm (by assumption))) dX2_doneByAll_1 rfl kX8_peopleCount lk_X2_33 rfl O1 (by decide) rfl (Nat.le_of_ble_eq_true rfl) (fun v_1 h_1 qh_1 => ?_)
  obtain ⟨rfl, rfl⟩ := qh_1
  refine A_if_ne 9 7 dX2_doneByAll_4 (by decide) rfl (fun c4 => ?_) (fun c4 => ?_)
  · skip
    try simp only [bI_0, bI_n0, Classical.not_not, Bool.not_eq_false, Bool.true_and, Bool.and_true, decide_eq_true_eq, decide_eq_false_iff_not, dayC_1, dayC_21, dayC_221, dayC_222] at c4
    have p0 : ¬ x.2.2.2.1 = 0 := fun z => c4 (by rw [z]; rfl)
    refine A_aload_n 10 dX2_doneByAll_9 rfl rfl rfl ?_
    refine A_callVI 13 (S_X8_allLaws X l (by first | assumption | decide | omega | exact Ne.symm (by assumption))) dX2_doneByAll_10 rfl kX8_allLaws lk_X2_49 rfl O1 (by decide) rfl (Nat.le_of_ble_eq_true rfl) (fun v_2 h_2 qh_2 => ?_)
    obtain ⟨rfl, rfl⟩ := qh_2
    refine A_istore_n 14 dX2_doneByAll_13 rfl rfl (by decide) (by first | exact (ast_s (ast_1 rfl)) | exact (ast_s ast_k)) ?_
    refine A_iconst 15 (0) dX2_doneByAll_14 rfl (by decide) ?_
    refine A_istore_n 16 dX2_doneByAll_15 rfl rfl (by decide) (by first | exact (ast_s (ast_s (ast_1 rfl))) | exact (ast_s (ast_s ast_k))) ?_
    have L16 : ∀ (nq i : Nat) (u : Int32) (g16 : Hp) (y0 : PC), (nq + i = x.2.2.2.1) → (foldN (daF x) (allL x) i = (u)) → (g16 25 = some (foB s g)) → (g16 26 = some (cB 26 y0)) → (g16 1 = some (wB 1 x)) → (∀ i, i ≠ 26 → g16 i = h i) → Av X l mX2_doneByAll 16 [some (aR 25 0), some (aR 1 0), some (aI (u)), some (aI (nI (i)))] [] g16 (QI (fun vr h2 => (DA x) = vr ∧ ∃ (y1 : PC), h2 (26) = some (cB 26 y1) ∧ ∀ i, i ≠ 26 → h2 i = h i)) := by
      intro nq
      induction nq using Nat.strongRecOn with
      | _ nq ih =>
      intro i u g16 y0 en ee O25 O26 O1 hf
      refine A_iload_n 17 dX2_doneByAll_16 rfl rfl rfl ?_
      refine A_aload_n 18 dX2_doneByAll_17 rfl rfl rfl ?_
      refine A_callVI 21 (S_X8_peopleCount X l (by first | assumption | decide | omega | exact Ne.symm (by assumption))) dX2_doneByAll_18 rfl kX8_peopleCount lk_X2_33 rfl O1 (by decide) rfl (Nat.le_of_ble_eq_true rfl) (fun v_3 h_3 qh_3 => ?_)
      obtain ⟨rfl, rfl⟩ := qh_3
      refine A_icmp_ge 47 24 dX2_doneByAll_21 (by decide) rfl (fun c21 => ?_) (fun c21 => ?_)
      · skip
        obtain rfl := (up_ge_T (N := x.2.2.2.1) c21 rfl (by omega) (by omega)).symm
        refine A_iload_n 48 dX2_doneByAll_47 rfl rfl rfl ?_
        refine A_iret dX2_doneByAll_48 rfl ⟨_, rfl, (by unfold DA; rw [if_neg p0, ee]), _, O26, hf⟩
      · skip
        have hi := up_ge_F (N := x.2.2.2.1) c21 rfl (by omega) (by omega)
        obtain ⟨n0, rfl⟩ : ∃ q, nq = q + 1 := ⟨nq - 1, by omega⟩
        refine A_iload_n 25 dX2_doneByAll_24 rfl rfl rfl ?_
        refine A_aload_n 26 dX2_doneByAll_25 rfl rfl rfl ?_
        refine A_getfield 29 dX2_doneByAll_26 rfl f_X2_12 O25 rfl ?_
        refine A_aload_n 30 dX2_doneByAll_29 rfl rfl rfl ?_
        refine A_aload_n 31 dX2_doneByAll_30 rfl rfl rfl ?_
        refine A_iload_n 32 dX2_doneByAll_31 rfl rfl rfl ?_
        refine A_callVI 35 (S_X8_pocketsOf X l (by first | assumption | decide | omega | exact Ne.symm (by assumption)) (by first | assumption | decide | omega | exact Ne.symm (by assumption))) dX2_doneByAll_32 rfl kX8_pocketsOf lk_X2_37 rfl O1 (by decide) rfl (Nat.le_of_ble_eq_true rfl) (fun v_4 h_4 qh_4 => ?_)
        obtain ⟨rfl, rfl⟩ := qh_4
        refine A_iconst 36 (0) dX2_doneByAll_35 rfl (by decide) ?_
        refine A_callVI 39 (S_X1_run X l (by first | assumption | decide | omega | exact Ne.symm (by assumption)) (by first | assumption | decide | omega | exact Ne.symm (by assumption)) (by first | assumption | decide | omega | exact Ne.symm (by assumption)) (by first | assumption | decide | omega | exact Ne.symm (by assumption))) dX2_doneByAll_36 rfl kX1_run lk_X2_45 rfl O26 (by decide) rfl (Nat.le_of_ble_eq_true rfl) (fun v_5 h_5 qh_5 => ?_)
        obtain ⟨rfl, n0h_5, eh_5⟩ := qh_5
        replace O25 := (eh_5 _ (by decide)).trans O25
        replace O26 := n0h_5
        replace O1 := (eh_5 _ (by decide)).trans O1
        replace hf : ∀ i, i ≠ 26 → h_5 i = h i := fun i g0 => (eh_5 i g0).trans (hf i g0)
        refine A_iand 40 dX2_doneByAll_39 rfl ?_
        refine A_istore_n 41 dX2_doneByAll_40 rfl rfl (by decide) (by first | exact (ast_s (ast_1 rfl)) | exact (ast_s ast_k)) ?_
        first | refine A_iincN 44 dX2_doneByAll_41 rfl rfl (by decide) (by first | exact (ast_s (ast_s (ast_1 rfl))) | exact (ast_s (ast_s ast_k))) ?_ | refine A_iinc 44 (1) dX2_doneByAll_41 rfl rfl (by decide) (by decide) (by first | exact (ast_s (ast_s (ast_1 rfl))) | exact (ast_s (ast_s ast_k))) ?_
        refine A_goto 16 dX2_doneByAll_44 (by decide) ?_
        exact ih n0 (Nat.lt_succ_self n0) (i + 1) _ h_5 _ (by omega) ((foldN_s (daF x) (allL x) i).trans ((congrArg ((daF x) i) ee).trans (by first | with_reducible rfl | (simp only [c4, if_true, if_false, ite_true, ite_false, and_true, true_and, and_false, false_and, and_self, or_true, true_or, or_false, false_or, or_self, not_true_eq_false, not_false_eq_true, decide_true, decide_false, Bool.and_true, Bool.true_and, Bool.and_false, Bool.false_and, Bool.and_self, Bool.or_true, Bool.true_or, Bool.or_false, Bool.false_or, Bool.not_true, Bool.not_false, cond_true, cond_false, bI_t, bI_f, Bool.false_eq_true, Bool.true_eq_false, dayC_1, dayC_21, dayC_221, dayC_222, daF]; done) | (simp [*, daF]; done) | with_reducible_and_instances rfl))) O25 O26 O1 hf
    exact L16 (x.2.2.2.1) (0) (_) h (_) (by omega) (rfl) O25 O26 O1 hf
  · skip
    try simp only [bI_0, bI_n0, Classical.not_not, Bool.not_eq_false, Bool.true_and, Bool.and_true, decide_eq_true_eq, decide_eq_false_iff_not, dayC_1, dayC_21, dayC_221, dayC_222] at c4
    have p0 : x.2.2.2.1 = 0 := by
      by_cases z : x.2.2.2.1 = 0
      · exact z
      · exact absurd ((ninj (b := 0) (by omega) (by decide)).mp c4) z
    refine A_iconst 8 (0) dX2_doneByAll_7 rfl (by decide) ?_
    refine A_iret dX2_doneByAll_8 rfl ⟨_, rfl, (by unfold DA; rw [if_pos p0]), _, O26, hf⟩
set_option maxHeartbeats 4000000 in
set_option maxRecDepth 100000 in
theorem S_X2_mostAlike (X : En) (l : Launch) {h : Hp} {x : PW} {y : PC} {s : Nat → Int64} {g : FI} (O25 : h 25 = some (foB s g)) (O26 : h 26 = some (cB 26 y)) (O1 : h 1 = some (wB 1 x)) (hx : LOK x) (hp : x.2.2.2.1 ≤ 6) {wh : Int32} : Ct X l mX2_mostAlike [aR 25 0, aR 1 0, aI wh] h (QI (fun vr h2 => (if wh = 0 then (foldN (alO x) (-9, -9) x.2.2.2.1).1 else (foldN (alO x) (-9, -9) x.2.2.2.1).2) = vr ∧ ∃ (y1 : PC), h2 (26) = some (cB 26 y1) ∧ ∀ i, i ≠ 26 → h2 i = h i)) := by
  have hf : ∀ i, i ≠ 26 → h i = h i := fun _ _ => rfl
  refine Ct.intro [some (aR 25 0), some (aR 1 0), some (aI wh), none, none, none, none, none, none] (by decide +kernel) rfl (Nat.le_of_ble_eq_true rfl) ?_
  refine A_bipush 2 (-9) dX2_mostAlike_0 rfl (by decide) ?_
  refine A_istore_n 3 dX2_mostAlike_2 rfl rfl (by decide) (by first | exact (ast_s (ast_s (ast_1 rfl))) | exact (ast_s (ast_s ast_k))) ?_
  refine A_bipush 5 (-9) dX2_mostAlike_3 rfl (by decide) ?_
  refine A_istore 7 dX2_mostAlike_5 rfl (by decide) (by first | exact (ast_s (ast_s (ast_s (ast_1 rfl)))) | exact (ast_s (ast_s (ast_s ast_k)))) ?_
  refine A_iconst 8 (0) dX2_mostAlike_7 rfl (by decide) ?_
  refine A_istore 10 dX2_mostAlike_8 rfl (by decide) (by first | exact (ast_s (ast_s (ast_s (ast_s (ast_1 rfl))))) | exact (ast_s (ast_s (ast_s (ast_s ast_k))))) ?_
  have L10 : ∀ (nq a : Nat) (u v : Int32) (g10 : Hp) (y0 : PC), (nq + a = x.2.2.2.1) → (foldN (alO x) ((-9, -9)) a = (u, v)) → (g10 25 = some (foB s g)) → (g10 26 = some (cB 26 y0)) → (g10 1 = some (wB 1 x)) → (∀ i, i ≠ 26 → g10 i = h i) → Av X l mX2_mostAlike 10 [some (aR 25 0), some (aR 1 0), some (aI (wh)), some (aI (u)), some (aI (v)), some (aI (nI (a))), none, none, none] [] g10 (QI (fun vr h2 => (if wh = 0 then (foldN (alO x) (-9, -9) x.2.2.2.1).1 else (foldN (alO x) (-9, -9) x.2.2.2.1).2) = vr ∧ ∃ (y1 : PC), h2 (26) = some (cB 26 y1) ∧ ∀ i, i ≠ 26 → h2 i = h i)) := by
    intro nq
    induction nq using Nat.strongRecOn with
    | _ nq ih =>
    intro a u v g10 y0 en ee O25 O26 O1 hf
    refine A_iload 12 dX2_mostAlike_10 rfl rfl ?_
    refine A_aload_n 13 dX2_mostAlike_12 rfl rfl rfl ?_
    refine A_callVI 16 (S_X8_peopleCount X l (by first | assumption | decide | omega | exact Ne.symm (by assumption))) dX2_mostAlike_13 rfl kX8_peopleCount lk_X2_33 rfl O1 (by decide) rfl (Nat.le_of_ble_eq_true rfl) (fun v_1 h_1 qh_1 => ?_)
    obtain ⟨rfl, rfl⟩ := qh_1
    refine A_icmp_ge 106 19 dX2_mostAlike_16 (by decide) rfl (fun c16 => ?_) (fun c16 => ?_)
    · skip
      obtain rfl := (up_ge_T (N := x.2.2.2.1) c16 rfl (by omega) (by omega)).symm
      refine A_iload_n 107 dX2_mostAlike_106 rfl rfl rfl ?_
      refine A_if_ne 114 110 dX2_mostAlike_107 (by decide) rfl (fun c107 => ?_) (fun c107 => ?_)
      · skip
        try simp only [bI_0, bI_n0, Classical.not_not, Bool.not_eq_false, Bool.true_and, Bool.and_true, decide_eq_true_eq, decide_eq_false_iff_not, dayC_1, dayC_21, dayC_221, dayC_222] at c107
        refine A_iload 116 dX2_mostAlike_114 rfl rfl ?_
        refine A_iret dX2_mostAlike_116 rfl ⟨_, rfl, (by rw [ee]; simp [*]), _, O26, hf⟩
      · skip
        try simp only [bI_0, bI_n0, Classical.not_not, Bool.not_eq_false, Bool.true_and, Bool.and_true, decide_eq_true_eq, decide_eq_false_iff_not, dayC_1, dayC_21, dayC_221, dayC_222] at c107
        refine A_iload_n 111 dX2_mostAlike_110 rfl rfl rfl ?_
        refine A_goto 116 dX2_mostAlike_111 (by decide) ?_
        refine A_iret dX2_mostAlike_116 rfl ⟨_, rfl, (by rw [ee]; simp [*]), _, O26, hf⟩
    · skip
      have hi := up_ge_F (N := x.2.2.2.1) c16 rfl (by omega) (by omega)
      obtain ⟨n0, rfl⟩ : ∃ q, nq = q + 1 := ⟨nq - 1, by omega⟩
      refine A_aload_n 20 dX2_mostAlike_19 rfl rfl rfl ?_
      refine A_getfield 23 dX2_mostAlike_20 rfl f_X2_12 O25 rfl ?_
      refine A_aload_n 24 dX2_mostAlike_23 rfl rfl rfl ?_
      refine A_aload_n 25 dX2_mostAlike_24 rfl rfl rfl ?_
      refine A_iload 27 dX2_mostAlike_25 rfl rfl ?_
      refine A_callVI 30 (S_X8_pocketsOf X l (by first | assumption | decide | omega | exact Ne.symm (by assumption)) (by first | assumption | decide | omega | exact Ne.symm (by assumption))) dX2_mostAlike_27 rfl kX8_pocketsOf lk_X2_37 rfl O1 (by decide) rfl (Nat.le_of_ble_eq_true rfl) (fun v_2 h_2 qh_2 => ?_)
      obtain ⟨rfl, rfl⟩ := qh_2
      refine A_iconst 31 (0) dX2_mostAlike_30 rfl (by decide) ?_
      refine A_callVI 34 (S_X1_run X l (by first | assumption | decide | omega | exact Ne.symm (by assumption)) (by first | assumption | decide | omega | exact Ne.symm (by assumption)) (by first | assumption | decide | omega | exact Ne.symm (by assumption)) (by first | assumption | decide | omega | exact Ne.symm (by assumption))) dX2_mostAlike_31 rfl kX1_run lk_X2_45 rfl O26 (by decide) rfl (Nat.le_of_ble_eq_true rfl) (fun v_3 h_3 qh_3 => ?_)
      obtain ⟨rfl, n0h_3, eh_3⟩ := qh_3
      replace O25 := (eh_3 _ (by decide)).trans O25
      replace O26 := n0h_3
      replace O1 := (eh_3 _ (by decide)).trans O1
      replace hf : ∀ i, i ≠ 26 → h_3 i = h i := fun i g0 => (eh_3 i g0).trans (hf i g0)
      refine A_istore 36 dX2_mostAlike_34 rfl (by decide) (by first | exact (ast_s (ast_s (ast_s (ast_s (ast_s (ast_1 rfl)))))) | exact (ast_s (ast_s (ast_s (ast_s (ast_s ast_k)))))) ?_
      refine A_iload 38 dX2_mostAlike_36 rfl rfl ?_
      refine A_iconst 39 (1) dX2_mostAlike_38 rfl (by decide) ?_
      refine A_iadd 40 dX2_mostAlike_39 rfl ?_
      refine A_istore 42 dX2_mostAlike_40 rfl (by decide) (by first | exact (ast_s (ast_s (ast_s (ast_s (ast_s (ast_s (ast_1 rfl))))))) | exact (ast_s (ast_s (ast_s (ast_s (ast_s (ast_s ast_k))))))) ?_
      rw [n41]
      have L42 : ∀ (nqb b : Nat) (u2 v2 : Int32) (g42 : Hp) (y0 : PC), (nqb + b = x.2.2.2.1) → (foldN (alI x a) ((u, v)) b = (u2, v2)) → (a < b) → (g42 25 = some (foB s g)) → (g42 26 = some (cB 26 y0)) → (g42 1 = some (wB 1 x)) → (∀ i, i ≠ 26 → g42 i = h i) → Av X l mX2_mostAlike 42 [some (aR 25 0), some (aR 1 0), some (aI (wh)), some (aI (u2)), some (aI (v2)), some (aI (nI (a))), some (aI (dDone x 0 (x.2.1 a))), some (aI (nI (b))), none] [] g42 (QI (fun vr h2 => (if wh = 0 then (foldN (alO x) (-9, -9) x.2.2.2.1).1 else (foldN (alO x) (-9, -9) x.2.2.2.1).2) = vr ∧ ∃ (y1 : PC), h2 (26) = some (cB 26 y1) ∧ ∀ i, i ≠ 26 → h2 i = h i)) := by
        intro nqb
        induction nqb using Nat.strongRecOn with
        | _ nqb ihb =>
        intro b u2 v2 g42 y0 enb eeb hyb O25 O26 O1 hf
        refine A_iload 44 dX2_mostAlike_42 rfl rfl ?_
        refine A_aload_n 45 dX2_mostAlike_44 rfl rfl rfl ?_
        refine A_callVI 48 (S_X8_peopleCount X l (by first | assumption | decide | omega | exact Ne.symm (by assumption))) dX2_mostAlike_45 rfl kX8_peopleCount lk_X2_33 rfl O1 (by decide) rfl (Nat.le_of_ble_eq_true rfl) (fun v_4 h_4 qh_4 => ?_)
        obtain ⟨rfl, rfl⟩ := qh_4
        refine A_icmp_ge 100 51 dX2_mostAlike_48 (by decide) rfl (fun c48 => ?_) (fun c48 => ?_)
        · skip
          obtain rfl := (up_ge_T (N := x.2.2.2.1) c48 rfl (by omega) (by omega)).symm
          first | refine A_iincN 103 dX2_mostAlike_100 rfl rfl (by decide) (by first | exact (ast_s (ast_s (ast_s (ast_s (ast_1 rfl))))) | exact (ast_s (ast_s (ast_s (ast_s ast_k))))) ?_ | refine A_iinc 103 (1) dX2_mostAlike_100 rfl rfl (by decide) (by decide) (by first | exact (ast_s (ast_s (ast_s (ast_s (ast_1 rfl))))) | exact (ast_s (ast_s (ast_s (ast_s ast_k))))) ?_
          refine A_goto 10 dX2_mostAlike_103 (by decide) ?_
          exact A_weak (ih n0 (Nat.lt_succ_self n0) (a + 1) _ _ g42 _ (by omega) ((foldN_s (alO x) ((-9, -9)) a).trans ((congrArg ((alO x) a) ee).trans (by exact eeb))) O25 O26 O1 hf) (sub_s (sub_s (sub_s (sub_s (sub_s (sub_s (sub_n (sub_n (sub_n sub_nil)))))))))
        · skip
          have hib := up_ge_F (N := x.2.2.2.1) c48 rfl (by omega) (by omega)
          obtain ⟨n0b, rfl⟩ : ∃ q, nqb = q + 1 := ⟨nqb - 1, by omega⟩
          refine A_iload 53 dX2_mostAlike_51 rfl rfl ?_
          refine A_aload_n 54 dX2_mostAlike_53 rfl rfl rfl ?_
          refine A_getfield 57 dX2_mostAlike_54 rfl f_X2_12 O25 rfl ?_
          refine A_aload_n 58 dX2_mostAlike_57 rfl rfl rfl ?_
          refine A_aload_n 59 dX2_mostAlike_58 rfl rfl rfl ?_
          refine A_iload 61 dX2_mostAlike_59 rfl rfl ?_
          refine A_callVI 64 (S_X8_pocketsOf X l (by first | assumption | decide | omega | exact Ne.symm (by assumption)) (by first | assumption | decide | omega | exact Ne.symm (by assumption))) dX2_mostAlike_61 rfl kX8_pocketsOf lk_X2_37 rfl O1 (by decide) rfl (Nat.le_of_ble_eq_true rfl) (fun v_5 h_5 qh_5 => ?_)
          obtain ⟨rfl, rfl⟩ := qh_5
          refine A_iconst 65 (0) dX2_mostAlike_64 rfl (by decide) ?_
          refine A_callVI 68 (S_X1_run X l (by first | assumption | decide | omega | exact Ne.symm (by assumption)) (by first | assumption | decide | omega | exact Ne.symm (by assumption)) (by first | assumption | decide | omega | exact Ne.symm (by assumption)) (by first | assumption | decide | omega | exact Ne.symm (by assumption))) dX2_mostAlike_65 rfl kX1_run lk_X2_45 rfl O26 (by decide) rfl (Nat.le_of_ble_eq_true rfl) (fun v_6 h_6 qh_6 => ?_)
          obtain ⟨rfl, n0h_6, eh_6⟩ := qh_6
          replace O25 := (eh_6 _ (by decide)).trans O25
          replace O26 := n0h_6
          replace O1 := (eh_6 _ (by decide)).trans O1
          replace hf : ∀ i, i ≠ 26 → h_6 i = h i := fun i g0 => (eh_6 i g0).trans (hf i g0)
          refine A_iand 69 dX2_mostAlike_68 rfl ?_
          refine A_callSI 72 (S_J6_bitCount_0f7a4 X l) dX2_mostAlike_69 rfl kJ6_bitCount_0f7a4 lk_X2_52 rfl (by decide) rfl (Nat.le_of_ble_eq_true rfl) (fun v_7 h_7 qh_7 => ?_)
          obtain ⟨rfl, rfl⟩ := qh_7
          refine A_istore 74 dX2_mostAlike_72 rfl (by decide) (by first | exact (ast_s (ast_s (ast_s (ast_s (ast_s (ast_s (ast_s (ast_1 rfl)))))))) | exact (ast_s (ast_s (ast_s (ast_s (ast_s (ast_s (ast_s ast_k)))))))) ?_
          refine A_iload 76 dX2_mostAlike_74 rfl rfl ?_
          refine A_iload 78 dX2_mostAlike_76 rfl rfl ?_
          refine A_icmp_le 94 81 dX2_mostAlike_78 (by decide) rfl (fun c78 => ?_) (fun c78 => ?_)
          · skip
            try simp only [bI_0, bI_n0, Classical.not_not, Bool.not_eq_false, Bool.true_and, Bool.and_true, decide_eq_true_eq, decide_eq_false_iff_not, dayC_1, dayC_21, dayC_221, dayC_222] at c78
            have n78 := c78
            replace c78 := Int32.not_lt.mpr c78
            first | refine A_iincN 97 dX2_mostAlike_94 rfl rfl (by decide) (by first | exact (ast_s (ast_s (ast_s (ast_s (ast_s (ast_s (ast_1 rfl))))))) | exact (ast_s (ast_s (ast_s (ast_s (ast_s (ast_s ast_k))))))) ?_ | refine A_iinc 97 (1) dX2_mostAlike_94 rfl rfl (by decide) (by decide) (by first | exact (ast_s (ast_s (ast_s (ast_s (ast_s (ast_s (ast_1 rfl))))))) | exact (ast_s (ast_s (ast_s (ast_s (ast_s (ast_s ast_k))))))) ?_
            refine A_goto 42 dX2_mostAlike_97 (by decide) ?_
            exact A_weak (ihb n0b (Nat.lt_succ_self n0b) (b + 1) _ _ h_6 _ (by omega) ((foldN_s (alI x a) ((u, v)) b).trans ((congrArg ((alI x a) b) eeb).trans (by first | with_reducible rfl | (simp only [c78, n78, if_true, if_false, ite_true, ite_false, and_true, true_and, and_false, false_and, and_self, or_true, true_or, or_false, false_or, or_self, not_true_eq_false, not_false_eq_true, decide_true, decide_false, Bool.and_true, Bool.true_and, Bool.and_false, Bool.false_and, Bool.and_self, Bool.or_true, Bool.true_or, Bool.or_false, Bool.false_or, Bool.not_true, Bool.not_false, cond_true, cond_false, bI_t, bI_f, Bool.false_eq_true, Bool.true_eq_false, dayC_1, dayC_21, dayC_221, dayC_222, alI]; done) | (simp [*, alI]; done) | with_reducible_and_instances rfl))) (by omega) O25 O26 O1 hf) (sub_s (sub_s (sub_s (sub_s (sub_s (sub_s (sub_s (sub_s (sub_n sub_nil)))))))))
          · skip
            try simp only [bI_0, bI_n0, Classical.not_not, Bool.not_eq_false, Bool.true_and, Bool.and_true, decide_eq_true_eq, decide_eq_false_iff_not, dayC_1, dayC_21, dayC_221, dayC_222] at c78
            have n78 := c78
            replace c78 := Int32.not_le.mp c78
            refine A_iload 83 dX2_mostAlike_81 rfl rfl ?_
            refine A_istore 85 dX2_mostAlike_83 rfl (by decide) (by first | exact (ast_s (ast_s (ast_s (ast_1 rfl)))) | exact (ast_s (ast_s (ast_s ast_k)))) ?_
            refine A_bipush 87 (10) dX2_mostAlike_85 rfl (by decide) ?_
            refine A_iload 89 dX2_mostAlike_87 rfl rfl ?_
            refine A_imul 90 dX2_mostAlike_89 rfl ?_
            refine A_iload 92 dX2_mostAlike_90 rfl rfl ?_
            refine A_iadd 93 dX2_mostAlike_92 rfl ?_
            refine A_istore_n 94 dX2_mostAlike_93 rfl rfl (by decide) (by first | exact (ast_s (ast_s (ast_1 rfl))) | exact (ast_s (ast_s ast_k))) ?_
            first | refine A_iincN 97 dX2_mostAlike_94 rfl rfl (by decide) (by first | exact (ast_s (ast_s (ast_s (ast_s (ast_s (ast_s (ast_1 rfl))))))) | exact (ast_s (ast_s (ast_s (ast_s (ast_s (ast_s ast_k))))))) ?_ | refine A_iinc 97 (1) dX2_mostAlike_94 rfl rfl (by decide) (by decide) (by first | exact (ast_s (ast_s (ast_s (ast_s (ast_s (ast_s (ast_1 rfl))))))) | exact (ast_s (ast_s (ast_s (ast_s (ast_s (ast_s ast_k))))))) ?_
            refine A_goto 42 dX2_mostAlike_97 (by decide) ?_
            exact A_weak (ihb n0b (Nat.lt_succ_self n0b) (b + 1) _ _ h_6 _ (by omega) ((foldN_s (alI x a) ((u, v)) b).trans ((congrArg ((alI x a) b) eeb).trans (by first | with_reducible rfl | (simp only [c78, n78, if_true, if_false, ite_true, ite_false, and_true, true_and, and_false, false_and, and_self, or_true, true_or, or_false, false_or, or_self, not_true_eq_false, not_false_eq_true, decide_true, decide_false, Bool.and_true, Bool.true_and, Bool.and_false, Bool.false_and, Bool.and_self, Bool.or_true, Bool.true_or, Bool.or_false, Bool.false_or, Bool.not_true, Bool.not_false, cond_true, cond_false, bI_t, bI_f, Bool.false_eq_true, Bool.true_eq_false, dayC_1, dayC_21, dayC_221, dayC_222, alI]; done) | (simp [*, alI]; done) | with_reducible_and_instances rfl))) (by omega) O25 O26 O1 hf) (sub_s (sub_s (sub_s (sub_s (sub_s (sub_s (sub_s (sub_s (sub_n sub_nil)))))))))
      exact A_weak (L42 (x.2.2.2.1 - (a + 1)) (a + 1) (_) (_) h_3 (_) (by omega) (foldN_id alI_id) (Nat.lt_succ_self a) O25 O26 O1 hf) (sub_s (sub_s (sub_s (sub_s (sub_s (sub_s (sub_s (sub_s (sub_n sub_nil)))))))))
  exact A_weak (L10 (x.2.2.2.1) (0) (_) (_) h (_) (by omega) (rfl) O25 O26 O1 hf) (sub_s (sub_s (sub_s (sub_s (sub_s (sub_s (sub_n (sub_n (sub_n sub_nil)))))))))
set_option maxHeartbeats 4000000 in
set_option maxRecDepth 100000 in
theorem S_X2_keyThing (X : En) (l : Launch) {h : Hp} {x : PW} {y : PC} {s : Nat → Int64} {g : FI} (O25 : h 25 = some (foB s g)) (O26 : h 26 = some (cB 26 y)) (O1 : h 1 = some (wB 1 x)) (hx : LOK x) (hp : x.2.2.2.1 ≤ 6) {wh : Int32} : Ct X l mX2_keyThing [aR 25 0, aR 1 0, aI wh] h (QI (fun vr h2 => (if wh = 0 then (KY x).1 else (KY x).2) = vr ∧ ∃ (y1 : PC), h2 (26) = some (cB 26 y1) ∧ ∀ i, i ≠ 26 → h2 i = h i)) := by
  have hf : ∀ i, i ≠ 26 → h i = h i := fun _ _ => rfl
  refine Ct.intro [some (aR 25 0), some (aR 1 0), some (aI wh), none, none, none, none] (by decide +kernel) rfl (Nat.le_of_ble_eq_true rfl) ?_
  refine A_iconst 1 (0) dX2_keyThing_0 rfl (by decide) ?_
  refine A_istore_n 2 dX2_keyThing_1 rfl rfl (by decide) (by first | exact (ast_s (ast_s (ast_1 rfl))) | exact (ast_s (ast_s ast_k))) ?_
  refine A_aload_n 3 dX2_keyThing_2 rfl rfl rfl ?_
  refine A_aload_n 4 dX2_keyThing_3 rfl rfl rfl ?_
  refine A_iconst 5 (0) dX2_keyThing_4 rfl (by decide) ?_
  refine A_callNI 8 (S_X9_thingBit X l) dX2_keyThing_5 rfl kX9_thingBit nk_X2_57 rfl (by decide) rfl (Nat.le_of_ble_eq_true rfl) (fun v_1 h_1 qh_1 => ?_)
  obtain ⟨rfl, rfl⟩ := qh_1
  refine A_callVI 11 (S_X2_doneTogether X l (by first | assumption | decide | omega | exact Ne.symm (by assumption)) (by first | assumption | decide | omega | exact Ne.symm (by assumption)) (by first | assumption | decide | omega | exact Ne.symm (by assumption)) (by first | assumption | decide | omega | exact Ne.symm (by assumption)) (by first | assumption | decide | omega | exact Ne.symm (by assumption))) dX2_keyThing_8 rfl kX2_doneTogether lk_X2_60 rfl O25 (by decide) rfl (Nat.le_of_ble_eq_true rfl) (fun v_2 h_2 qh_2 => ?_)
  obtain ⟨rfl, y1_2, n0h_2, eh_2⟩ := qh_2
  replace O25 := (eh_2 _ (by decide)).trans O25
  replace O26 := n0h_2
  replace O1 := (eh_2 _ (by decide)).trans O1
  replace hf : ∀ i, i ≠ 26 → h_2 i = h i := fun i g0 => (eh_2 i g0).trans (hf i g0)
  refine A_istore 13 dX2_keyThing_11 rfl (by decide) (by first | exact (ast_s (ast_s (ast_s (ast_1 rfl)))) | exact (ast_s (ast_s (ast_s ast_k)))) ?_
  refine A_iconst 14 (1) dX2_keyThing_13 rfl (by decide) ?_
  refine A_istore 16 dX2_keyThing_14 rfl (by decide) (by first | exact (ast_s (ast_s (ast_s (ast_s (ast_1 rfl))))) | exact (ast_s (ast_s (ast_s (ast_s ast_k))))) ?_
  have L16 : ∀ (nq i : Nat) (u v : Int32) (g16 : Hp) (y0 : PC), (nq + i = 7) → (foldN (kyF x) ((0, DT x (tbI 0))) i = (u, v)) → (g16 25 = some (foB s g)) → (g16 26 = some (cB 26 y0)) → (g16 1 = some (wB 1 x)) → (∀ i, i ≠ 26 → g16 i = h i) → Av X l mX2_keyThing 16 [some (aR 25 0), some (aR 1 0), some (aI (wh)), some (aI (u)), some (aI (v)), some (aI (nI (i + 1))), none] [] g16 (QI (fun vr h2 => (if wh = 0 then (KY x).1 else (KY x).2) = vr ∧ ∃ (y1 : PC), h2 (26) = some (cB 26 y1) ∧ ∀ i, i ≠ 26 → h2 i = h i)) := by
    intro nq
    induction nq using Nat.strongRecOn with
    | _ nq ih =>
    intro i u v g16 y0 en ee O25 O26 O1 hf
    refine A_iload 18 dX2_keyThing_16 rfl rfl ?_
    refine A_bipush 20 (8) dX2_keyThing_18 rfl (by decide) ?_
    refine A_icmp_ge 55 23 dX2_keyThing_20 (by decide) rfl (fun c20 => ?_) (fun c20 => ?_)
    · skip
      have hi : i = 7 := by
        have q := (nle_iff (a := 8) (b := i + 1) (by decide) (by omega)).mp c20
        omega
      subst hi
      refine A_iload_n 56 dX2_keyThing_55 rfl rfl rfl ?_
      refine A_if_ne 63 59 dX2_keyThing_56 (by decide) rfl (fun c56 => ?_) (fun c56 => ?_)
      · skip
        try simp only [bI_0, bI_n0, Classical.not_not, Bool.not_eq_false, Bool.true_and, Bool.and_true, decide_eq_true_eq, decide_eq_false_iff_not, dayC_1, dayC_21, dayC_221, dayC_222] at c56
        refine A_iload 65 dX2_keyThing_63 rfl rfl ?_
        refine A_iret dX2_keyThing_65 rfl ⟨_, rfl, (by unfold KY; rw [ee]; simp [*]), _, O26, hf⟩
      · skip
        try simp only [bI_0, bI_n0, Classical.not_not, Bool.not_eq_false, Bool.true_and, Bool.and_true, decide_eq_true_eq, decide_eq_false_iff_not, dayC_1, dayC_21, dayC_221, dayC_222] at c56
        refine A_iload_n 60 dX2_keyThing_59 rfl rfl rfl ?_
        refine A_goto 65 dX2_keyThing_60 (by decide) ?_
        refine A_iret dX2_keyThing_65 rfl ⟨_, rfl, (by unfold KY; rw [ee]; simp [*]), _, O26, hf⟩
    · skip
      have hi : i < 7 := by
        have q := mt (nle_iff (a := 8) (b := i + 1) (by decide) (by omega)).mpr c20
        omega
      obtain ⟨n0, rfl⟩ : ∃ q, nq = q + 1 := ⟨nq - 1, by omega⟩
      refine A_aload_n 24 dX2_keyThing_23 rfl rfl rfl ?_
      refine A_aload_n 25 dX2_keyThing_24 rfl rfl rfl ?_
      refine A_iload 27 dX2_keyThing_25 rfl rfl ?_
      refine A_callNI 30 (S_X9_thingBit X l) dX2_keyThing_27 rfl kX9_thingBit nk_X2_57 rfl (by decide) rfl (Nat.le_of_ble_eq_true rfl) (fun v_3 h_3 qh_3 => ?_)
      obtain ⟨rfl, rfl⟩ := qh_3
      refine A_callVI 33 (S_X2_doneTogether X l (by first | assumption | decide | omega | exact Ne.symm (by assumption)) (by first | assumption | decide | omega | exact Ne.symm (by assumption)) (by first | assumption | decide | omega | exact Ne.symm (by assumption)) (by first | assumption | decide | omega | exact Ne.symm (by assumption)) (by first | assumption | decide | omega | exact Ne.symm (by assumption))) dX2_keyThing_30 rfl kX2_doneTogether lk_X2_60 rfl O25 (by decide) rfl (Nat.le_of_ble_eq_true rfl) (fun v_4 h_4 qh_4 => ?_)
      obtain ⟨rfl, y1_4, n0h_4, eh_4⟩ := qh_4
      replace O25 := (eh_4 _ (by decide)).trans O25
      replace O26 := n0h_4
      replace O1 := (eh_4 _ (by decide)).trans O1
      replace hf : ∀ i, i ≠ 26 → h_4 i = h i := fun i g0 => (eh_4 i g0).trans (hf i g0)
      refine A_istore 35 dX2_keyThing_33 rfl (by decide) (by first | exact (ast_s (ast_s (ast_s (ast_s (ast_s (ast_1 rfl)))))) | exact (ast_s (ast_s (ast_s (ast_s (ast_s ast_k)))))) ?_
      refine A_iload 37 dX2_keyThing_35 rfl rfl ?_
      refine A_iload 39 dX2_keyThing_37 rfl rfl ?_
      refine A_icmp_ge 49 42 dX2_keyThing_39 (by decide) rfl (fun c39 => ?_) (fun c39 => ?_)
      · skip
        try simp only [bI_0, bI_n0, Classical.not_not, Bool.not_eq_false, Bool.true_and, Bool.and_true, decide_eq_true_eq, decide_eq_false_iff_not, dayC_1, dayC_21, dayC_221, dayC_222] at c39
        have n39 := c39
        replace c39 := Int32.not_lt.mpr c39
        first | refine A_iincN 52 dX2_keyThing_49 rfl rfl (by decide) (by first | exact (ast_s (ast_s (ast_s (ast_s (ast_1 rfl))))) | exact (ast_s (ast_s (ast_s (ast_s ast_k))))) ?_ | refine A_iinc 52 (1) dX2_keyThing_49 rfl rfl (by decide) (by decide) (by first | exact (ast_s (ast_s (ast_s (ast_s (ast_1 rfl))))) | exact (ast_s (ast_s (ast_s (ast_s ast_k))))) ?_
        refine A_goto 16 dX2_keyThing_52 (by decide) ?_
        exact A_weak (ih n0 (Nat.lt_succ_self n0) (i + 1) _ _ h_4 _ (by omega) ((foldN_s (kyF x) ((0, DT x (tbI 0))) i).trans ((congrArg ((kyF x) i) ee).trans (by first | with_reducible rfl | (simp only [c39, n39, if_true, if_false, ite_true, ite_false, and_true, true_and, and_false, false_and, and_self, or_true, true_or, or_false, false_or, or_self, not_true_eq_false, not_false_eq_true, decide_true, decide_false, Bool.and_true, Bool.true_and, Bool.and_false, Bool.false_and, Bool.and_self, Bool.or_true, Bool.true_or, Bool.or_false, Bool.false_or, Bool.not_true, Bool.not_false, cond_true, cond_false, bI_t, bI_f, Bool.false_eq_true, Bool.true_eq_false, dayC_1, dayC_21, dayC_221, dayC_222, kyF]; done) | (simp [*, kyF]; done) | with_reducible_and_instances rfl))) O25 O26 O1 hf) (sub_s (sub_s (sub_s (sub_s (sub_s (sub_s (sub_n sub_nil)))))))
      · skip
        try simp only [bI_0, bI_n0, Classical.not_not, Bool.not_eq_false, Bool.true_and, Bool.and_true, decide_eq_true_eq, decide_eq_false_iff_not, dayC_1, dayC_21, dayC_221, dayC_222] at c39
        have n39 := c39
        replace c39 := Int32.not_le.mp c39
        refine A_iload 44 dX2_keyThing_42 rfl rfl ?_
        refine A_istore 46 dX2_keyThing_44 rfl (by decide) (by first | exact (ast_s (ast_s (ast_s (ast_1 rfl)))) | exact (ast_s (ast_s (ast_s ast_k)))) ?_
        refine A_iload 48 dX2_keyThing_46 rfl rfl ?_
        refine A_istore_n 49 dX2_keyThing_48 rfl rfl (by decide) (by first | exact (ast_s (ast_s (ast_1 rfl))) | exact (ast_s (ast_s ast_k))) ?_
        first | refine A_iincN 52 dX2_keyThing_49 rfl rfl (by decide) (by first | exact (ast_s (ast_s (ast_s (ast_s (ast_1 rfl))))) | exact (ast_s (ast_s (ast_s (ast_s ast_k))))) ?_ | refine A_iinc 52 (1) dX2_keyThing_49 rfl rfl (by decide) (by decide) (by first | exact (ast_s (ast_s (ast_s (ast_s (ast_1 rfl))))) | exact (ast_s (ast_s (ast_s (ast_s ast_k))))) ?_
        refine A_goto 16 dX2_keyThing_52 (by decide) ?_
        exact A_weak (ih n0 (Nat.lt_succ_self n0) (i + 1) _ _ h_4 _ (by omega) ((foldN_s (kyF x) ((0, DT x (tbI 0))) i).trans ((congrArg ((kyF x) i) ee).trans (by first | with_reducible rfl | (simp only [c39, n39, if_true, if_false, ite_true, ite_false, and_true, true_and, and_false, false_and, and_self, or_true, true_or, or_false, false_or, or_self, not_true_eq_false, not_false_eq_true, decide_true, decide_false, Bool.and_true, Bool.true_and, Bool.and_false, Bool.false_and, Bool.and_self, Bool.or_true, Bool.true_or, Bool.or_false, Bool.false_or, Bool.not_true, Bool.not_false, cond_true, cond_false, bI_t, bI_f, Bool.false_eq_true, Bool.true_eq_false, dayC_1, dayC_21, dayC_221, dayC_222, kyF]; done) | (simp [*, kyF]; done) | with_reducible_and_instances rfl))) O25 O26 O1 hf) (sub_s (sub_s (sub_s (sub_s (sub_s (sub_s (sub_n sub_nil)))))))
  exact A_weak (L16 (7) (0) (_) (_) h_2 (_) (by omega) (rfl) O25 O26 O1 hf) (sub_s (sub_s (sub_s (sub_s (sub_s (sub_s (sub_n sub_nil)))))))
set_option maxHeartbeats 4000000 in
set_option maxRecDepth 100000 in
theorem S_X2_spurs (X : En) (l : Launch) {h : Hp} {x : PW} {y : PC} {s : Nat → Int64} {g : FI} (O25 : h 25 = some (foB s g)) (O26 : h 26 = some (cB 26 y)) (O1 : h 1 = some (wB 1 x)) (hx : LOK x) (hp : x.2.2.2.1 ≤ 6) {p : Int32} : Ct X l mX2_spurs [aR 25 0, aR 1 0, aI p] h (QI (fun vr h2 => (SP x p) = vr ∧ ∃ (y1 : PC), h2 (26) = some (cB 26 y1) ∧ ∀ i, i ≠ 26 → h2 i = h i)) := by
  have hf : ∀ i, i ≠ 26 → h i = h i := fun _ _ => rfl
  refine Ct.intro [some (aR 25 0), some (aR 1 0), some (aI p), none, none, none] (by decide +kernel) rfl (Nat.le_of_ble_eq_true rfl) ?_
  refine A_aload_n 1 dX2_spurs_0 rfl rfl rfl ?_
  refine A_getfield 4 dX2_spurs_1 rfl f_X2_12 O25 rfl ?_
  refine A_aload_n 5 dX2_spurs_4 rfl rfl rfl ?_
  refine A_iload_n 6 dX2_spurs_5 rfl rfl rfl ?_
  refine A_callVI 9 (S_X1_countDone X l (by first | assumption | decide | omega | exact Ne.symm (by assumption)) (by first | assumption | decide | omega | exact Ne.symm (by assumption)) (by first | assumption | decide | omega | exact Ne.symm (by assumption)) (by first | assumption | decide | omega | exact Ne.symm (by assumption))) dX2_spurs_6 rfl kX1_countDone lk_X2_41 rfl O26 (by decide) rfl (Nat.le_of_ble_eq_true rfl) (fun v_1 h_1 qh_1 => ?_)
  obtain ⟨rfl, n0h_1, eh_1⟩ := qh_1
  replace O25 := (eh_1 _ (by decide)).trans O25
  replace O26 := n0h_1
  replace O1 := (eh_1 _ (by decide)).trans O1
  replace hf : ∀ i, i ≠ 26 → h_1 i = h i := fun i g0 => (eh_1 i g0).trans (hf i g0)
  refine A_istore_n 10 dX2_spurs_9 rfl rfl (by decide) (by first | exact (ast_s (ast_s (ast_1 rfl))) | exact (ast_s (ast_s ast_k))) ?_
  refine A_iconst 11 (0) dX2_spurs_10 rfl (by decide) ?_
  refine A_istore 13 dX2_spurs_11 rfl (by decide) (by first | exact (ast_s (ast_s (ast_s (ast_1 rfl)))) | exact (ast_s (ast_s (ast_s ast_k)))) ?_
  refine A_iconst 14 (0) dX2_spurs_13 rfl (by decide) ?_
  refine A_istore 16 dX2_spurs_14 rfl (by decide) (by first | exact (ast_s (ast_s (ast_s (ast_s (ast_1 rfl))))) | exact (ast_s (ast_s (ast_s (ast_s ast_k))))) ?_
  have L16 : ∀ (nq i : Nat) (u : Int32) (g16 : Hp) (y0 : PC), (nq + i = 8) → (foldN (spF x p) (0) i = (u)) → (g16 25 = some (foB s g)) → (g16 26 = some (cB 26 y0)) → (g16 1 = some (wB 1 x)) → (∀ i, i ≠ 26 → g16 i = h i) → Av X l mX2_spurs 16 [some (aR 25 0), some (aR 1 0), some (aI (p)), some (aI (DN x p)), some (aI (u)), some (aI (nI (i)))] [] g16 (QI (fun vr h2 => (SP x p) = vr ∧ ∃ (y1 : PC), h2 (26) = some (cB 26 y1) ∧ ∀ i, i ≠ 26 → h2 i = h i)) := by
    intro nq
    induction nq using Nat.strongRecOn with
    | _ nq ih =>
    intro i u g16 y0 en ee O25 O26 O1 hf
    refine A_iload 18 dX2_spurs_16 rfl rfl ?_
    refine A_bipush 20 (8) dX2_spurs_18 rfl (by decide) ?_
    refine A_icmp_ge 73 23 dX2_spurs_20 (by decide) rfl (fun c20 => ?_) (fun c20 => ?_)
    · skip
      obtain rfl := (up_ge_T (N := 8) c20 rfl (by omega) (by omega)).symm
      refine A_iload 75 dX2_spurs_73 rfl rfl ?_
      refine A_iret dX2_spurs_75 rfl ⟨_, rfl, (by unfold SP; rw [ee]), _, O26, hf⟩
    · skip
      have hi := up_ge_F (N := 8) c20 rfl (by omega) (by omega)
      obtain ⟨n0, rfl⟩ : ∃ q, nq = q + 1 := ⟨nq - 1, by omega⟩
      have t8 := inT_nI hi
      refine A_aload_n 24 dX2_spurs_23 rfl rfl rfl ?_
      refine A_callVI 27 (S_X8_onTheTray X l (by first | assumption | decide | omega | exact Ne.symm (by assumption))) dX2_spurs_24 rfl kX8_onTheTray lk_X2_63 rfl O1 (by decide) rfl (Nat.le_of_ble_eq_true rfl) (fun v_2 h_2 qh_2 => ?_)
      obtain ⟨rfl, rfl⟩ := qh_2
      refine A_iload 29 dX2_spurs_27 rfl rfl ?_
      refine A_callNI 32 (S_X9_hasThing X l) dX2_spurs_29 rfl kX9_hasThing nk_X2_66 rfl (by decide) rfl (Nat.le_of_ble_eq_true rfl) (fun v_3 h_3 qh_3 => ?_)
      obtain ⟨rfl, rfl⟩ := qh_3
      refine A_if_ne 38 35 dX2_spurs_32 (by decide) rfl (fun c32 => ?_) (fun c32 => ?_)
      · skip
        try simp only [bI_0, bI_n0, Classical.not_not, Bool.not_eq_false, Bool.true_and, Bool.and_true, decide_eq_true_eq, decide_eq_false_iff_not, dayC_1, dayC_21, dayC_221, dayC_222, t8] at c32
        refine A_aload_n 39 dX2_spurs_38 rfl rfl rfl ?_
        refine A_getfield 42 dX2_spurs_39 rfl f_X2_12 O25 rfl ?_
        refine A_aload_n 43 dX2_spurs_42 rfl rfl rfl ?_
        refine A_iload_n 44 dX2_spurs_43 rfl rfl rfl ?_
        refine A_iload 46 dX2_spurs_44 rfl rfl ?_
        refine A_callNI 49 (S_X9_thingBit X l) dX2_spurs_46 rfl kX9_thingBit nk_X2_57 rfl (by decide) rfl (Nat.le_of_ble_eq_true rfl) (fun v_4 h_4 qh_4 => ?_)
        obtain ⟨rfl, rfl⟩ := qh_4
        refine A_ior 50 dX2_spurs_49 rfl ?_
        refine A_callVI 53 (S_X1_countDone X l (by first | assumption | decide | omega | exact Ne.symm (by assumption)) (by first | assumption | decide | omega | exact Ne.symm (by assumption)) (by first | assumption | decide | omega | exact Ne.symm (by assumption)) (by first | assumption | decide | omega | exact Ne.symm (by assumption))) dX2_spurs_50 rfl kX1_countDone lk_X2_41 rfl O26 (by decide) rfl (Nat.le_of_ble_eq_true rfl) (fun v_5 h_5 qh_5 => ?_)
        obtain ⟨rfl, n0h_5, eh_5⟩ := qh_5
        replace O25 := (eh_5 _ (by decide)).trans O25
        replace O26 := n0h_5
        replace O1 := (eh_5 _ (by decide)).trans O1
        replace hf : ∀ i, i ≠ 26 → h_5 i = h i := fun i g0 => (eh_5 i g0).trans (hf i g0)
        refine A_iload_n 54 dX2_spurs_53 rfl rfl rfl ?_
        refine A_icmp_le 67 57 dX2_spurs_54 (by decide) rfl (fun c54 => ?_) (fun c54 => ?_)
        · skip
          try simp only [bI_0, bI_n0, Classical.not_not, Bool.not_eq_false, Bool.true_and, Bool.and_true, decide_eq_true_eq, decide_eq_false_iff_not, dayC_1, dayC_21, dayC_221, dayC_222, t8] at c54
          have n54 := c54
          replace c54 := Int32.not_lt.mpr c54
          first | refine A_iincN 70 dX2_spurs_67 rfl rfl (by decide) (by first | exact (ast_s (ast_s (ast_s (ast_s (ast_1 rfl))))) | exact (ast_s (ast_s (ast_s (ast_s ast_k))))) ?_ | refine A_iinc 70 (1) dX2_spurs_67 rfl rfl (by decide) (by decide) (by first | exact (ast_s (ast_s (ast_s (ast_s (ast_1 rfl))))) | exact (ast_s (ast_s (ast_s (ast_s ast_k))))) ?_
          refine A_goto 16 dX2_spurs_70 (by decide) ?_
          exact ih n0 (Nat.lt_succ_self n0) (i + 1) _ h_5 _ (by omega) ((foldN_s (spF x p) (0) i).trans ((congrArg ((spF x p) i) ee).trans (by first | with_reducible rfl | (simp only [c32, c54, n54, if_true, if_false, ite_true, ite_false, and_true, true_and, and_false, false_and, and_self, or_true, true_or, or_false, false_or, or_self, not_true_eq_false, not_false_eq_true, decide_true, decide_false, Bool.and_true, Bool.true_and, Bool.and_false, Bool.false_and, Bool.and_self, Bool.or_true, Bool.true_or, Bool.or_false, Bool.false_or, Bool.not_true, Bool.not_false, cond_true, cond_false, bI_t, bI_f, Bool.false_eq_true, Bool.true_eq_false, dayC_1, dayC_21, dayC_221, dayC_222, spF]; done) | (simp [*, spF]; done) | with_reducible_and_instances rfl))) O25 O26 O1 hf
        · skip
          try simp only [bI_0, bI_n0, Classical.not_not, Bool.not_eq_false, Bool.true_and, Bool.and_true, decide_eq_true_eq, decide_eq_false_iff_not, dayC_1, dayC_21, dayC_221, dayC_222, t8] at c54
          have n54 := c54
          replace c54 := Int32.not_le.mp c54
          refine A_iload 59 dX2_spurs_57 rfl rfl ?_
          refine A_iload 61 dX2_spurs_59 rfl rfl ?_
          refine A_callNI 64 (S_X9_thingBit X l) dX2_spurs_61 rfl kX9_thingBit nk_X2_57 rfl (by decide) rfl (Nat.le_of_ble_eq_true rfl) (fun v_6 h_6 qh_6 => ?_)
          obtain ⟨rfl, rfl⟩ := qh_6
          refine A_ior 65 dX2_spurs_64 rfl ?_
          refine A_istore 67 dX2_spurs_65 rfl (by decide) (by first | exact (ast_s (ast_s (ast_s (ast_1 rfl)))) | exact (ast_s (ast_s (ast_s ast_k)))) ?_
          first | refine A_iincN 70 dX2_spurs_67 rfl rfl (by decide) (by first | exact (ast_s (ast_s (ast_s (ast_s (ast_1 rfl))))) | exact (ast_s (ast_s (ast_s (ast_s ast_k))))) ?_ | refine A_iinc 70 (1) dX2_spurs_67 rfl rfl (by decide) (by decide) (by first | exact (ast_s (ast_s (ast_s (ast_s (ast_1 rfl))))) | exact (ast_s (ast_s (ast_s (ast_s ast_k))))) ?_
          refine A_goto 16 dX2_spurs_70 (by decide) ?_
          exact ih n0 (Nat.lt_succ_self n0) (i + 1) _ h_5 _ (by omega) ((foldN_s (spF x p) (0) i).trans ((congrArg ((spF x p) i) ee).trans (by first | with_reducible rfl | (simp only [c32, c54, n54, if_true, if_false, ite_true, ite_false, and_true, true_and, and_false, false_and, and_self, or_true, true_or, or_false, false_or, or_self, not_true_eq_false, not_false_eq_true, decide_true, decide_false, Bool.and_true, Bool.true_and, Bool.and_false, Bool.false_and, Bool.and_self, Bool.or_true, Bool.true_or, Bool.or_false, Bool.false_or, Bool.not_true, Bool.not_false, cond_true, cond_false, bI_t, bI_f, Bool.false_eq_true, Bool.true_eq_false, dayC_1, dayC_21, dayC_221, dayC_222, spF]; done) | (simp [*, spF]; done) | with_reducible_and_instances rfl))) O25 O26 O1 hf
      · skip
        try simp only [bI_0, bI_n0, Classical.not_not, Bool.not_eq_false, Bool.true_and, Bool.and_true, decide_eq_true_eq, decide_eq_false_iff_not, dayC_1, dayC_21, dayC_221, dayC_222, t8] at c32
        refine A_goto 67 dX2_spurs_35 (by decide) ?_
        first | refine A_iincN 70 dX2_spurs_67 rfl rfl (by decide) (by first | exact (ast_s (ast_s (ast_s (ast_s (ast_1 rfl))))) | exact (ast_s (ast_s (ast_s (ast_s ast_k))))) ?_ | refine A_iinc 70 (1) dX2_spurs_67 rfl rfl (by decide) (by decide) (by first | exact (ast_s (ast_s (ast_s (ast_s (ast_1 rfl))))) | exact (ast_s (ast_s (ast_s (ast_s ast_k))))) ?_
        refine A_goto 16 dX2_spurs_70 (by decide) ?_
        exact ih n0 (Nat.lt_succ_self n0) (i + 1) _ g16 _ (by omega) ((foldN_s (spF x p) (0) i).trans ((congrArg ((spF x p) i) ee).trans (by first | with_reducible rfl | (simp only [c32, if_true, if_false, ite_true, ite_false, and_true, true_and, and_false, false_and, and_self, or_true, true_or, or_false, false_or, or_self, not_true_eq_false, not_false_eq_true, decide_true, decide_false, Bool.and_true, Bool.true_and, Bool.and_false, Bool.false_and, Bool.and_self, Bool.or_true, Bool.true_or, Bool.or_false, Bool.false_or, Bool.not_true, Bool.not_false, cond_true, cond_false, bI_t, bI_f, Bool.false_eq_true, Bool.true_eq_false, dayC_1, dayC_21, dayC_221, dayC_222, spF]; done) | (simp [*, spF]; done) | with_reducible_and_instances rfl))) O25 O26 O1 hf
  exact L16 (8) (0) (_) h_1 (_) (by omega) (rfl) O25 O26 O1 hf
set_option maxHeartbeats 4000000 in
set_option maxRecDepth 100000 in
theorem S_X2_doneByBoth (X : En) (l : Launch) {h : Hp} {x : PW} {y : PC} {s : Nat → Int64} {g : FI} (O25 : h 25 = some (foB s g)) (O26 : h 26 = some (cB 26 y)) (O1 : h 1 = some (wB 1 x)) (hx : LOK x) (hp : x.2.2.2.1 ≤ 6) {a b : Int32} : Ct X l mX2_doneByBoth [aR 25 0, aR 1 0, aI a, aI b] h (QI (fun vr h2 => (D2 x a b) = vr ∧ ∃ (y1 : PC), h2 (26) = some (cB 26 y1) ∧ ∀ i, i ≠ 26 → h2 i = h i)) := by
  have hf : ∀ i, i ≠ 26 → h i = h i := fun _ _ => rfl
  refine Ct.intro [some (aR 25 0), some (aR 1 0), some (aI a), some (aI b)] (by decide +kernel) rfl (Nat.le_of_ble_eq_true rfl) ?_
  refine A_aload_n 1 dX2_doneByBoth_0 rfl rfl rfl ?_
  refine A_getfield 4 dX2_doneByBoth_1 rfl f_X2_12 O25 rfl ?_
  refine A_aload_n 5 dX2_doneByBoth_4 rfl rfl rfl ?_
  refine A_iload_n 6 dX2_doneByBoth_5 rfl rfl rfl ?_
  refine A_callVI 9 (S_X1_countDone X l (by first | assumption | decide | omega | exact Ne.symm (by assumption)) (by first | assumption | decide | omega | exact Ne.symm (by assumption)) (by first | assumption | decide | omega | exact Ne.symm (by assumption)) (by first | assumption | decide | omega | exact Ne.symm (by assumption))) dX2_doneByBoth_6 rfl kX1_countDone lk_X2_41 rfl O26 (by decide) rfl (Nat.le_of_ble_eq_true rfl) (fun v_1 h_1 qh_1 => ?_)
  obtain ⟨rfl, n0h_1, eh_1⟩ := qh_1
  replace O25 := (eh_1 _ (by decide)).trans O25
  replace O26 := n0h_1
  replace O1 := (eh_1 _ (by decide)).trans O1
  replace hf : ∀ i, i ≠ 26 → h_1 i = h i := fun i g0 => (eh_1 i g0).trans (hf i g0)
  refine A_aload_n 10 dX2_doneByBoth_9 rfl rfl rfl ?_
  refine A_getfield 13 dX2_doneByBoth_10 rfl f_X2_12 O25 rfl ?_
  refine A_aload_n 14 dX2_doneByBoth_13 rfl rfl rfl ?_
  refine A_iload_n 15 dX2_doneByBoth_14 rfl rfl rfl ?_
  refine A_callVI 18 (S_X1_countDone X l (by first | assumption | decide | omega | exact Ne.symm (by assumption)) (by first | assumption | decide | omega | exact Ne.symm (by assumption)) (by first | assumption | decide | omega | exact Ne.symm (by assumption)) (by first | assumption | decide | omega | exact Ne.symm (by assumption))) dX2_doneByBoth_15 rfl kX1_countDone lk_X2_41 rfl O26 (by decide) rfl (Nat.le_of_ble_eq_true rfl) (fun v_2 h_2 qh_2 => ?_)
  obtain ⟨rfl, n0h_2, eh_2⟩ := qh_2
  replace O25 := (eh_2 _ (by decide)).trans O25
  replace O26 := n0h_2
  replace O1 := (eh_2 _ (by decide)).trans O1
  replace hf : ∀ i, i ≠ 26 → h_2 i = h i := fun i g0 => (eh_2 i g0).trans (hf i g0)
  refine A_iadd 19 dX2_doneByBoth_18 rfl ?_
  refine A_iret dX2_doneByBoth_19 rfl ⟨_, rfl, (by rfl), _, O26, hf⟩
set_option maxHeartbeats 4000000 in
set_option maxRecDepth 100000 in
theorem S_X2_bestGift (X : En) (l : Launch) {h : Hp} {x : PW} {y : PC} {s : Nat → Int64} {g : FI} (O25 : h 25 = some (foB s g)) (O26 : h 26 = some (cB 26 y)) (O1 : h 1 = some (wB 1 x)) (hx : LOK x) (hp : x.2.2.2.1 ≤ 6) {a b : Int32} : Ct X l mX2_bestGift [aR 25 0, aR 1 0, aI a, aI b] h (QI (fun vr h2 => ((GI x a b).2) = vr ∧ ∃ (y1 : PC), h2 (26) = some (cB 26 y1) ∧ ∀ i, i ≠ 26 → h2 i = h i)) := by
  have hf : ∀ i, i ≠ 26 → h i = h i := fun _ _ => rfl
  refine Ct.intro [some (aR 25 0), some (aR 1 0), some (aI a), some (aI b), none, none, none, none] (by decide +kernel) rfl (Nat.le_of_ble_eq_true rfl) ?_
  refine A_aload_n 1 dX2_bestGift_0 rfl rfl rfl ?_
  refine A_aload_n 2 dX2_bestGift_1 rfl rfl rfl ?_
  refine A_iload_n 3 dX2_bestGift_2 rfl rfl rfl ?_
  refine A_iload_n 4 dX2_bestGift_3 rfl rfl rfl ?_
  refine A_callVI 7 (S_X2_doneByBoth X l (by first | assumption | decide | omega | exact Ne.symm (by assumption)) (by first | assumption | decide | omega | exact Ne.symm (by assumption)) (by first | assumption | decide | omega | exact Ne.symm (by assumption)) (by first | assumption | decide | omega | exact Ne.symm (by assumption)) (by first | assumption | decide | omega | exact Ne.symm (by assumption))) dX2_bestGift_4 rfl kX2_doneByBoth lk_X2_112 rfl O25 (by decide) rfl (Nat.le_of_ble_eq_true rfl) (fun v_1 h_1 qh_1 => ?_)
  obtain ⟨rfl, y1_1, n0h_1, eh_1⟩ := qh_1
  replace O25 := (eh_1 _ (by decide)).trans O25
  replace O26 := n0h_1
  replace O1 := (eh_1 _ (by decide)).trans O1
  replace hf : ∀ i, i ≠ 26 → h_1 i = h i := fun i g0 => (eh_1 i g0).trans (hf i g0)
  refine A_istore 9 dX2_bestGift_7 rfl (by decide) (by first | exact (ast_s (ast_s (ast_s (ast_1 rfl)))) | exact (ast_s (ast_s (ast_s ast_k)))) ?_
  refine A_bipush 11 (-9) dX2_bestGift_9 rfl (by decide) ?_
  refine A_istore 13 dX2_bestGift_11 rfl (by decide) (by first | exact (ast_s (ast_s (ast_s (ast_s (ast_1 rfl))))) | exact (ast_s (ast_s (ast_s (ast_s ast_k))))) ?_
  refine A_iconst 14 (0) dX2_bestGift_13 rfl (by decide) ?_
  refine A_istore 16 dX2_bestGift_14 rfl (by decide) (by first | exact (ast_s (ast_s (ast_s (ast_s (ast_s (ast_1 rfl)))))) | exact (ast_s (ast_s (ast_s (ast_s (ast_s ast_k)))))) ?_
  have L16 : ∀ (nq i : Nat) (u v : Int32) (g16 : Hp) (y0 : PC), (nq + i = 8) → (foldN (giF x a b) ((D2 x a b, -9)) i = (u, v)) → (g16 25 = some (foB s g)) → (g16 26 = some (cB 26 y0)) → (g16 1 = some (wB 1 x)) → (∀ i, i ≠ 26 → g16 i = h i) → Av X l mX2_bestGift 16 [some (aR 25 0), some (aR 1 0), some (aI (a)), some (aI (b)), some (aI (u)), some (aI (v)), some (aI (nI (i))), none] [] g16 (QI (fun vr h2 => ((GI x a b).2) = vr ∧ ∃ (y1 : PC), h2 (26) = some (cB 26 y1) ∧ ∀ i, i ≠ 26 → h2 i = h i)) := by
    intro nq
    induction nq using Nat.strongRecOn with
    | _ nq ih =>
    intro i u v g16 y0 en ee O25 O26 O1 hf
    refine A_iload 18 dX2_bestGift_16 rfl rfl ?_
    refine A_bipush 20 (8) dX2_bestGift_18 rfl (by decide) ?_
    refine A_icmp_ge 79 23 dX2_bestGift_20 (by decide) rfl (fun c20 => ?_) (fun c20 => ?_)
    · skip
      obtain rfl := (up_ge_T (N := 8) c20 rfl (by omega) (by omega)).symm
      refine A_iload 81 dX2_bestGift_79 rfl rfl ?_
      refine A_iret dX2_bestGift_81 rfl ⟨_, rfl, (by unfold GI; rw [ee]), _, O26, hf⟩
    · skip
      have hi := up_ge_F (N := 8) c20 rfl (by omega) (by omega)
      obtain ⟨n0, rfl⟩ : ∃ q, nq = q + 1 := ⟨nq - 1, by omega⟩
      have t8 := inT_nI hi
      refine A_iload_n 24 dX2_bestGift_23 rfl rfl rfl ?_
      refine A_iload 26 dX2_bestGift_24 rfl rfl ?_
      refine A_callNI 29 (S_X9_hasThing X l) dX2_bestGift_26 rfl kX9_hasThing nk_X2_66 rfl (by decide) rfl (Nat.le_of_ble_eq_true rfl) (fun v_2 h_2 qh_2 => ?_)
      obtain ⟨rfl, rfl⟩ := qh_2
      refine A_if_ne 35 32 dX2_bestGift_29 (by decide) rfl (fun c29 => ?_) (fun c29 => ?_)
      · skip
        try simp only [bI_0, bI_n0, Classical.not_not, Bool.not_eq_false, Bool.true_and, Bool.and_true, decide_eq_true_eq, decide_eq_false_iff_not, dayC_1, dayC_21, dayC_221, dayC_222, t8] at c29
        refine A_aload_n 36 dX2_bestGift_35 rfl rfl rfl ?_
        refine A_aload_n 37 dX2_bestGift_36 rfl rfl rfl ?_
        refine A_iload_n 38 dX2_bestGift_37 rfl rfl rfl ?_
        refine A_iload 40 dX2_bestGift_38 rfl rfl ?_
        refine A_callNI 43 (S_X9_thingBit X l) dX2_bestGift_40 rfl kX9_thingBit nk_X2_57 rfl (by decide) rfl (Nat.le_of_ble_eq_true rfl) (fun v_3 h_3 qh_3 => ?_)
        obtain ⟨rfl, rfl⟩ := qh_3
        refine A_iconst 44 (-1) dX2_bestGift_43 rfl (by decide) ?_
        refine A_ixor 45 dX2_bestGift_44 rfl ?_
        refine A_iand 46 dX2_bestGift_45 rfl ?_
        refine A_iload_n 47 dX2_bestGift_46 rfl rfl rfl ?_
        refine A_iload 49 dX2_bestGift_47 rfl rfl ?_
        refine A_callNI 52 (S_X9_thingBit X l) dX2_bestGift_49 rfl kX9_thingBit nk_X2_57 rfl (by decide) rfl (Nat.le_of_ble_eq_true rfl) (fun v_4 h_4 qh_4 => ?_)
        obtain ⟨rfl, rfl⟩ := qh_4
        refine A_ior 53 dX2_bestGift_52 rfl ?_
        refine A_callVI 56 (S_X2_doneByBoth X l (by first | assumption | decide | omega | exact Ne.symm (by assumption)) (by first | assumption | decide | omega | exact Ne.symm (by assumption)) (by first | assumption | decide | omega | exact Ne.symm (by assumption)) (by first | assumption | decide | omega | exact Ne.symm (by assumption)) (by first | assumption | decide | omega | exact Ne.symm (by assumption))) dX2_bestGift_53 rfl kX2_doneByBoth lk_X2_112 rfl O25 (by decide) rfl (Nat.le_of_ble_eq_true rfl) (fun v_5 h_5 qh_5 => ?_)
        obtain ⟨rfl, y1_5, n0h_5, eh_5⟩ := qh_5
        replace O25 := (eh_5 _ (by decide)).trans O25
        replace O26 := n0h_5
        replace O1 := (eh_5 _ (by decide)).trans O1
        replace hf : ∀ i, i ≠ 26 → h_5 i = h i := fun i g0 => (eh_5 i g0).trans (hf i g0)
        refine A_istore 58 dX2_bestGift_56 rfl (by decide) (by first | exact (ast_s (ast_s (ast_s (ast_s (ast_s (ast_s (ast_1 rfl))))))) | exact (ast_s (ast_s (ast_s (ast_s (ast_s (ast_s ast_k))))))) ?_
        refine A_iload 60 dX2_bestGift_58 rfl rfl ?_
        refine A_iload 62 dX2_bestGift_60 rfl rfl ?_
        refine A_icmp_le 73 65 dX2_bestGift_62 (by decide) rfl (fun c62 => ?_) (fun c62 => ?_)
        · skip
          try simp only [bI_0, bI_n0, Classical.not_not, Bool.not_eq_false, Bool.true_and, Bool.and_true, decide_eq_true_eq, decide_eq_false_iff_not, dayC_1, dayC_21, dayC_221, dayC_222, t8] at c62
          have n62 := c62
          replace c62 := Int32.not_lt.mpr c62
          first | refine A_iincN 76 dX2_bestGift_73 rfl rfl (by decide) (by first | exact (ast_s (ast_s (ast_s (ast_s (ast_s (ast_1 rfl)))))) | exact (ast_s (ast_s (ast_s (ast_s (ast_s ast_k)))))) ?_ | refine A_iinc 76 (1) dX2_bestGift_73 rfl rfl (by decide) (by decide) (by first | exact (ast_s (ast_s (ast_s (ast_s (ast_s (ast_1 rfl)))))) | exact (ast_s (ast_s (ast_s (ast_s (ast_s ast_k)))))) ?_
          refine A_goto 16 dX2_bestGift_76 (by decide) ?_
          exact A_weak (ih n0 (Nat.lt_succ_self n0) (i + 1) _ _ h_5 _ (by omega) ((foldN_s (giF x a b) ((D2 x a b, -9)) i).trans ((congrArg ((giF x a b) i) ee).trans (by first | with_reducible rfl | (simp only [c29, c62, n62, if_true, if_false, ite_true, ite_false, and_true, true_and, and_false, false_and, and_self, or_true, true_or, or_false, false_or, or_self, not_true_eq_false, not_false_eq_true, decide_true, decide_false, Bool.and_true, Bool.true_and, Bool.and_false, Bool.false_and, Bool.and_self, Bool.or_true, Bool.true_or, Bool.or_false, Bool.false_or, Bool.not_true, Bool.not_false, cond_true, cond_false, bI_t, bI_f, Bool.false_eq_true, Bool.true_eq_false, dayC_1, dayC_21, dayC_221, dayC_222, giF, giN]; done) | (simp [*, giF, giN]; done) | with_reducible_and_instances rfl))) O25 O26 O1 hf) (sub_s (sub_s (sub_s (sub_s (sub_s (sub_s (sub_s (sub_n sub_nil))))))))
        · skip
          try simp only [bI_0, bI_n0, Classical.not_not, Bool.not_eq_false, Bool.true_and, Bool.and_true, decide_eq_true_eq, decide_eq_false_iff_not, dayC_1, dayC_21, dayC_221, dayC_222, t8] at c62
          have n62 := c62
          replace c62 := Int32.not_le.mp c62
          refine A_iload 67 dX2_bestGift_65 rfl rfl ?_
          refine A_istore 69 dX2_bestGift_67 rfl (by decide) (by first | exact (ast_s (ast_s (ast_s (ast_1 rfl)))) | exact (ast_s (ast_s (ast_s ast_k)))) ?_
          refine A_iload 71 dX2_bestGift_69 rfl rfl ?_
          refine A_istore 73 dX2_bestGift_71 rfl (by decide) (by first | exact (ast_s (ast_s (ast_s (ast_s (ast_1 rfl))))) | exact (ast_s (ast_s (ast_s (ast_s ast_k))))) ?_
          first | refine A_iincN 76 dX2_bestGift_73 rfl rfl (by decide) (by first | exact (ast_s (ast_s (ast_s (ast_s (ast_s (ast_1 rfl)))))) | exact (ast_s (ast_s (ast_s (ast_s (ast_s ast_k)))))) ?_ | refine A_iinc 76 (1) dX2_bestGift_73 rfl rfl (by decide) (by decide) (by first | exact (ast_s (ast_s (ast_s (ast_s (ast_s (ast_1 rfl)))))) | exact (ast_s (ast_s (ast_s (ast_s (ast_s ast_k)))))) ?_
          refine A_goto 16 dX2_bestGift_76 (by decide) ?_
          exact A_weak (ih n0 (Nat.lt_succ_self n0) (i + 1) _ _ h_5 _ (by omega) ((foldN_s (giF x a b) ((D2 x a b, -9)) i).trans ((congrArg ((giF x a b) i) ee).trans (by first | with_reducible rfl | (simp only [c29, c62, n62, if_true, if_false, ite_true, ite_false, and_true, true_and, and_false, false_and, and_self, or_true, true_or, or_false, false_or, or_self, not_true_eq_false, not_false_eq_true, decide_true, decide_false, Bool.and_true, Bool.true_and, Bool.and_false, Bool.false_and, Bool.and_self, Bool.or_true, Bool.true_or, Bool.or_false, Bool.false_or, Bool.not_true, Bool.not_false, cond_true, cond_false, bI_t, bI_f, Bool.false_eq_true, Bool.true_eq_false, dayC_1, dayC_21, dayC_221, dayC_222, giF, giN]; done) | (simp [*, giF, giN]; done) | with_reducible_and_instances rfl))) O25 O26 O1 hf) (sub_s (sub_s (sub_s (sub_s (sub_s (sub_s (sub_s (sub_n sub_nil))))))))
      · skip
        try simp only [bI_0, bI_n0, Classical.not_not, Bool.not_eq_false, Bool.true_and, Bool.and_true, decide_eq_true_eq, decide_eq_false_iff_not, dayC_1, dayC_21, dayC_221, dayC_222, t8] at c29
        refine A_goto 73 dX2_bestGift_32 (by decide) ?_
        first | refine A_iincN 76 dX2_bestGift_73 rfl rfl (by decide) (by first | exact (ast_s (ast_s (ast_s (ast_s (ast_s (ast_1 rfl)))))) | exact (ast_s (ast_s (ast_s (ast_s (ast_s ast_k)))))) ?_ | refine A_iinc 76 (1) dX2_bestGift_73 rfl rfl (by decide) (by decide) (by first | exact (ast_s (ast_s (ast_s (ast_s (ast_s (ast_1 rfl)))))) | exact (ast_s (ast_s (ast_s (ast_s (ast_s ast_k)))))) ?_
        refine A_goto 16 dX2_bestGift_76 (by decide) ?_
        exact A_weak (ih n0 (Nat.lt_succ_self n0) (i + 1) _ _ g16 _ (by omega) ((foldN_s (giF x a b) ((D2 x a b, -9)) i).trans ((congrArg ((giF x a b) i) ee).trans (by first | with_reducible rfl | (simp only [c29, if_true, if_false, ite_true, ite_false, and_true, true_and, and_false, false_and, and_self, or_true, true_or, or_false, false_or, or_self, not_true_eq_false, not_false_eq_true, decide_true, decide_false, Bool.and_true, Bool.true_and, Bool.and_false, Bool.false_and, Bool.and_self, Bool.or_true, Bool.true_or, Bool.or_false, Bool.false_or, Bool.not_true, Bool.not_false, cond_true, cond_false, bI_t, bI_f, Bool.false_eq_true, Bool.true_eq_false, dayC_1, dayC_21, dayC_221, dayC_222, giF, giN]; done) | (simp [*, giF, giN]; done) | with_reducible_and_instances rfl))) O25 O26 O1 hf) (sub_s (sub_s (sub_s (sub_s (sub_s (sub_s (sub_s (sub_n sub_nil))))))))
  exact A_weak (L16 (8) (0) (_) (_) h_1 (_) (by omega) (rfl) O25 O26 O1 hf) (sub_s (sub_s (sub_s (sub_s (sub_s (sub_s (sub_s (sub_n sub_nil))))))))
set_option maxHeartbeats 4000000 in
set_option maxRecDepth 100000 in
theorem S_X2_bestTrade (X : En) (l : Launch) {h : Hp} {x : PW} {y : PC} {s : Nat → Int64} {g : FI} (O25 : h 25 = some (foB s g)) (O26 : h 26 = some (cB 26 y)) (O1 : h 1 = some (wB 1 x)) (hx : LOK x) (hp : x.2.2.2.1 ≤ 6) {a b wh : Int32} : Ct X l mX2_bestTrade [aR 25 0, aR 1 0, aI a, aI b, aI wh] h (QI (fun vr h2 => (if wh = 0 then (TR x a b).1 else (TR x a b).2) = vr ∧ ∃ (y1 : PC), h2 (26) = some (cB 26 y1) ∧ ∀ i, i ≠ 26 → h2 i = h i)) := by
  have hf : ∀ i, i ≠ 26 → h i = h i := fun _ _ => rfl
  refine Ct.intro [some (aR 25 0), some (aR 1 0), some (aI a), some (aI b), some (aI wh), none, none, none, none, none, none, none] (by decide +kernel) rfl (Nat.le_of_ble_eq_true rfl) ?_
  refine A_aload_n 1 dX2_bestTrade_0 rfl rfl rfl ?_
  refine A_aload_n 2 dX2_bestTrade_1 rfl rfl rfl ?_
  refine A_iload_n 3 dX2_bestTrade_2 rfl rfl rfl ?_
  refine A_iload_n 4 dX2_bestTrade_3 rfl rfl rfl ?_
  refine A_callVI 7 (S_X2_doneByBoth X l (by first | assumption | decide | omega | exact Ne.symm (by assumption)) (by first | assumption | decide | omega | exact Ne.symm (by assumption)) (by first | assumption | decide | omega | exact Ne.symm (by assumption)) (by first | assumption | decide | omega | exact Ne.symm (by assumption)) (by first | assumption | decide | omega | exact Ne.symm (by assumption))) dX2_bestTrade_4 rfl kX2_doneByBoth lk_X2_112 rfl O25 (by decide) rfl (Nat.le_of_ble_eq_true rfl) (fun v_1 h_1 qh_1 => ?_)
  obtain ⟨rfl, y1_1, n0h_1, eh_1⟩ := qh_1
  replace O25 := (eh_1 _ (by decide)).trans O25
  replace O26 := n0h_1
  replace O1 := (eh_1 _ (by decide)).trans O1
  replace hf : ∀ i, i ≠ 26 → h_1 i = h i := fun i g0 => (eh_1 i g0).trans (hf i g0)
  refine A_istore 9 dX2_bestTrade_7 rfl (by decide) (by first | exact (ast_s (ast_s (ast_s (ast_s (ast_1 rfl))))) | exact (ast_s (ast_s (ast_s (ast_s ast_k))))) ?_
  refine A_bipush 11 (88) dX2_bestTrade_9 rfl (by decide) ?_
  refine A_istore 13 dX2_bestTrade_11 rfl (by decide) (by first | exact (ast_s (ast_s (ast_s (ast_s (ast_s (ast_1 rfl)))))) | exact (ast_s (ast_s (ast_s (ast_s (ast_s ast_k)))))) ?_
  refine A_iconst 14 (0) dX2_bestTrade_13 rfl (by decide) ?_
  refine A_istore 16 dX2_bestTrade_14 rfl (by decide) (by first | exact (ast_s (ast_s (ast_s (ast_s (ast_s (ast_s (ast_1 rfl))))))) | exact (ast_s (ast_s (ast_s (ast_s (ast_s (ast_s ast_k))))))) ?_
  have L16 : ∀ (nq i : Nat) (u v : Int32) (g16 : Hp) (y0 : PC), (nq + i = 8) → (foldN (trO x a b) ((D2 x a b, 88)) i = (u, v)) → (g16 25 = some (foB s g)) → (g16 26 = some (cB 26 y0)) → (g16 1 = some (wB 1 x)) → (∀ i, i ≠ 26 → g16 i = h i) → Av X l mX2_bestTrade 16 [some (aR 25 0), some (aR 1 0), some (aI (a)), some (aI (b)), some (aI (wh)), some (aI (u)), some (aI (v)), some (aI (nI (i))), none, none, none, none] [] g16 (QI (fun vr h2 => (if wh = 0 then (TR x a b).1 else (TR x a b).2) = vr ∧ ∃ (y1 : PC), h2 (26) = some (cB 26 y1) ∧ ∀ i, i ≠ 26 → h2 i = h i)) := by
    intro nq
    induction nq using Nat.strongRecOn with
    | _ nq ih =>
    intro i u v g16 y0 en ee O25 O26 O1 hf
    refine A_iload 18 dX2_bestTrade_16 rfl rfl ?_
    refine A_bipush 20 (8) dX2_bestTrade_18 rfl (by decide) ?_
    refine A_icmp_ge 135 23 dX2_bestTrade_20 (by decide) rfl (fun c20 => ?_) (fun c20 => ?_)
    · skip
      obtain rfl := (up_ge_T (N := 8) c20 rfl (by omega) (by omega)).symm
      refine A_iload 137 dX2_bestTrade_135 rfl rfl ?_
      refine A_if_ne 145 140 dX2_bestTrade_137 (by decide) rfl (fun c137 => ?_) (fun c137 => ?_)
      · skip
        try simp only [bI_0, bI_n0, Classical.not_not, Bool.not_eq_false, Bool.true_and, Bool.and_true, decide_eq_true_eq, decide_eq_false_iff_not, dayC_1, dayC_21, dayC_221, dayC_222, t8] at c137
        refine A_iload 147 dX2_bestTrade_145 rfl rfl ?_
        refine A_iret dX2_bestTrade_147 rfl ⟨_, rfl, (by unfold TR; rw [ee]; simp [*]), _, O26, hf⟩
      · skip
        try simp only [bI_0, bI_n0, Classical.not_not, Bool.not_eq_false, Bool.true_and, Bool.and_true, decide_eq_true_eq, decide_eq_false_iff_not, dayC_1, dayC_21, dayC_221, dayC_222, t8] at c137
        refine A_iload 142 dX2_bestTrade_140 rfl rfl ?_
        refine A_goto 147 dX2_bestTrade_142 (by decide) ?_
        refine A_iret dX2_bestTrade_147 rfl ⟨_, rfl, (by unfold TR; rw [ee]; simp [*]), _, O26, hf⟩
    · skip
      have hi := up_ge_F (N := 8) c20 rfl (by omega) (by omega)
      obtain ⟨n0, rfl⟩ : ∃ q, nq = q + 1 := ⟨nq - 1, by omega⟩
      have t8 := inT_nI hi
      refine A_iload_n 24 dX2_bestTrade_23 rfl rfl rfl ?_
      refine A_iload 26 dX2_bestTrade_24 rfl rfl ?_
      refine A_callNI 29 (S_X9_hasThing X l) dX2_bestTrade_26 rfl kX9_hasThing nk_X2_66 rfl (by decide) rfl (Nat.le_of_ble_eq_true rfl) (fun v_2 h_2 qh_2 => ?_)
      obtain ⟨rfl, rfl⟩ := qh_2
      refine A_if_ne 35 32 dX2_bestTrade_29 (by decide) rfl (fun c29 => ?_) (fun c29 => ?_)
      · skip
        try simp only [bI_0, bI_n0, Classical.not_not, Bool.not_eq_false, Bool.true_and, Bool.and_true, decide_eq_true_eq, decide_eq_false_iff_not, dayC_1, dayC_21, dayC_221, dayC_222, t8] at c29
        refine A_iconst 36 (0) dX2_bestTrade_35 rfl (by decide) ?_
        refine A_istore 38 dX2_bestTrade_36 rfl (by decide) (by first | exact (ast_s (ast_s (ast_s (ast_s (ast_s (ast_s (ast_s (ast_1 rfl)))))))) | exact (ast_s (ast_s (ast_s (ast_s (ast_s (ast_s (ast_s ast_k)))))))) ?_
        have L38 : ∀ (nqb j : Nat) (u2 v2 : Int32) (g38 : Hp) (y0 : PC), (nqb + j = 8) → (foldN (trI x a b i) ((u, v)) j = (u2, v2)) → (g38 25 = some (foB s g)) → (g38 26 = some (cB 26 y0)) → (g38 1 = some (wB 1 x)) → (∀ i, i ≠ 26 → g38 i = h i) → Av X l mX2_bestTrade 38 [some (aR 25 0), some (aR 1 0), some (aI (a)), some (aI (b)), some (aI (wh)), some (aI (u2)), some (aI (v2)), some (aI (nI (i))), some (aI (nI (j))), none, none, none] [] g38 (QI (fun vr h2 => (if wh = 0 then (TR x a b).1 else (TR x a b).2) = vr ∧ ∃ (y1 : PC), h2 (26) = some (cB 26 y1) ∧ ∀ i, i ≠ 26 → h2 i = h i)) := by
          intro nqb
          induction nqb using Nat.strongRecOn with
          | _ nqb ihb =>
          intro j u2 v2 g38 y0 enb eeb O25 O26 O1 hf
          refine A_iload 40 dX2_bestTrade_38 rfl rfl ?_
          refine A_bipush 42 (8) dX2_bestTrade_40 rfl (by decide) ?_
          refine A_icmp_ge 129 45 dX2_bestTrade_42 (by decide) rfl (fun c42 => ?_) (fun c42 => ?_)
          · skip
            obtain rfl := (up_ge_T (N := 8) c42 rfl (by omega) (by omega)).symm
            first | refine A_iincN 132 dX2_bestTrade_129 rfl rfl (by decide) (by first | exact (ast_s (ast_s (ast_s (ast_s (ast_s (ast_s (ast_1 rfl))))))) | exact (ast_s (ast_s (ast_s (ast_s (ast_s (ast_s ast_k))))))) ?_ | refine A_iinc 132 (1) dX2_bestTrade_129 rfl rfl (by decide) (by decide) (by first | exact (ast_s (ast_s (ast_s (ast_s (ast_s (ast_s (ast_1 rfl))))))) | exact (ast_s (ast_s (ast_s (ast_s (ast_s (ast_s ast_k))))))) ?_
            refine A_goto 16 dX2_bestTrade_132 (by decide) ?_
            exact A_weak (ih n0 (Nat.lt_succ_self n0) (i + 1) _ _ g38 _ (by omega) ((foldN_s (trO x a b) ((D2 x a b, 88)) i).trans ((congrArg ((trO x a b) i) ee).trans (by first | (simp only [trO]; rw [if_pos (by simp_all)]; exact eeb) | (simp only [trO]; rw [if_neg (by simp_all)])))) O25 O26 O1 hf) (sub_s (sub_s (sub_s (sub_s (sub_s (sub_s (sub_s (sub_s (sub_n (sub_n (sub_n (sub_n sub_nil))))))))))))
          · skip
            have hib := up_ge_F (N := 8) c42 rfl (by omega) (by omega)
            obtain ⟨n0b, rfl⟩ : ∃ q, nqb = q + 1 := ⟨nqb - 1, by omega⟩
            have t8b := inT_nI hib
            refine A_iload_n 46 dX2_bestTrade_45 rfl rfl rfl ?_
            refine A_iload 48 dX2_bestTrade_46 rfl rfl ?_
            refine A_callNI 51 (S_X9_hasThing X l) dX2_bestTrade_48 rfl kX9_hasThing nk_X2_66 rfl (by decide) rfl (Nat.le_of_ble_eq_true rfl) (fun v_3 h_3 qh_3 => ?_)
            obtain ⟨rfl, rfl⟩ := qh_3
            refine A_if_ne 57 54 dX2_bestTrade_51 (by decide) rfl (fun c51 => ?_) (fun c51 => ?_)
            · skip
              try simp only [bI_0, bI_n0, Classical.not_not, Bool.not_eq_false, Bool.true_and, Bool.and_true, decide_eq_true_eq, decide_eq_false_iff_not, dayC_1, dayC_21, dayC_221, dayC_222, t8, t8b] at c51
              refine A_iload_n 58 dX2_bestTrade_57 rfl rfl rfl ?_
              refine A_iload 60 dX2_bestTrade_58 rfl rfl ?_
              refine A_callNI 63 (S_X9_thingBit X l) dX2_bestTrade_60 rfl kX9_thingBit nk_X2_57 rfl (by decide) rfl (Nat.le_of_ble_eq_true rfl) (fun v_4 h_4 qh_4 => ?_)
              obtain ⟨rfl, rfl⟩ := qh_4
              refine A_iconst 64 (-1) dX2_bestTrade_63 rfl (by decide) ?_
              refine A_ixor 65 dX2_bestTrade_64 rfl ?_
              refine A_iand 66 dX2_bestTrade_65 rfl ?_
              refine A_iload 68 dX2_bestTrade_66 rfl rfl ?_
              refine A_callNI 71 (S_X9_thingBit X l) dX2_bestTrade_68 rfl kX9_thingBit nk_X2_57 rfl (by decide) rfl (Nat.le_of_ble_eq_true rfl) (fun v_5 h_5 qh_5 => ?_)
              obtain ⟨rfl, rfl⟩ := qh_5
              refine A_ior 72 dX2_bestTrade_71 rfl ?_
              refine A_istore 74 dX2_bestTrade_72 rfl (by decide) (by first | exact (ast_s (ast_s (ast_s (ast_s (ast_s (ast_s (ast_s (ast_s (ast_1 rfl))))))))) | exact (ast_s (ast_s (ast_s (ast_s (ast_s (ast_s (ast_s (ast_s ast_k))))))))) ?_
              refine A_iload_n 75 dX2_bestTrade_74 rfl rfl rfl ?_
              refine A_iload 77 dX2_bestTrade_75 rfl rfl ?_
              refine A_callNI 80 (S_X9_thingBit X l) dX2_bestTrade_77 rfl kX9_thingBit nk_X2_57 rfl (by decide) rfl (Nat.le_of_ble_eq_true rfl) (fun v_6 h_6 qh_6 => ?_)
              obtain ⟨rfl, rfl⟩ := qh_6
              refine A_iconst 81 (-1) dX2_bestTrade_80 rfl (by decide) ?_
              refine A_ixor 82 dX2_bestTrade_81 rfl ?_
              refine A_iand 83 dX2_bestTrade_82 rfl ?_
              refine A_iload 85 dX2_bestTrade_83 rfl rfl ?_
              refine A_callNI 88 (S_X9_thingBit X l) dX2_bestTrade_85 rfl kX9_thingBit nk_X2_57 rfl (by decide) rfl (Nat.le_of_ble_eq_true rfl) (fun v_7 h_7 qh_7 => ?_)
              obtain ⟨rfl, rfl⟩ := qh_7
              refine A_ior 89 dX2_bestTrade_88 rfl ?_
              refine A_istore 91 dX2_bestTrade_89 rfl (by decide) (by first | exact (ast_s (ast_s (ast_s (ast_s (ast_s (ast_s (ast_s (ast_s (ast_s (ast_1 rfl)))))))))) | exact (ast_s (ast_s (ast_s (ast_s (ast_s (ast_s (ast_s (ast_s (ast_s ast_k)))))))))) ?_
              refine A_aload_n 92 dX2_bestTrade_91 rfl rfl rfl ?_
              refine A_aload_n 93 dX2_bestTrade_92 rfl rfl rfl ?_
              refine A_iload 95 dX2_bestTrade_93 rfl rfl ?_
              refine A_iload 97 dX2_bestTrade_95 rfl rfl ?_
              refine A_callVI 100 (S_X2_doneByBoth X l (by first | assumption | decide | omega | exact Ne.symm (by assumption)) (by first | assumption | decide | omega | exact Ne.symm (by assumption)) (by first | assumption | decide | omega | exact Ne.symm (by assumption)) (by first | assumption | decide | omega | exact Ne.symm (by assumption)) (by first | assumption | decide | omega | exact Ne.symm (by assumption))) dX2_bestTrade_97 rfl kX2_doneByBoth lk_X2_112 rfl O25 (by decide) rfl (Nat.le_of_ble_eq_true rfl) (fun v_8 h_8 qh_8 => ?_)
              obtain ⟨rfl, y1_8, n0h_8, eh_8⟩ := qh_8
              replace O25 := (eh_8 _ (by decide)).trans O25
              replace O26 := n0h_8
              replace O1 := (eh_8 _ (by decide)).trans O1
              replace hf : ∀ i, i ≠ 26 → h_8 i = h i := fun i g0 => (eh_8 i g0).trans (hf i g0)
              refine A_istore 102 dX2_bestTrade_100 rfl (by decide) (by first | exact (ast_s (ast_s (ast_s (ast_s (ast_s (ast_s (ast_s (ast_s (ast_s (ast_s (ast_1 rfl))))))))))) | exact (ast_s (ast_s (ast_s (ast_s (ast_s (ast_s (ast_s (ast_s (ast_s (ast_s ast_k))))))))))) ?_
              refine A_iload 104 dX2_bestTrade_102 rfl rfl ?_
              refine A_iload 106 dX2_bestTrade_104 rfl rfl ?_
              refine A_icmp_le 123 109 dX2_bestTrade_106 (by decide) rfl (fun c106 => ?_) (fun c106 => ?_)
              · skip
                try simp only [bI_0, bI_n0, Classical.not_not, Bool.not_eq_false, Bool.true_and, Bool.and_true, decide_eq_true_eq, decide_eq_false_iff_not, dayC_1, dayC_21, dayC_221, dayC_222, t8, t8b] at c106
                have n106 := c106
                replace c106 := Int32.not_lt.mpr c106
                first | refine A_iincN 126 dX2_bestTrade_123 rfl rfl (by decide) (by first | exact (ast_s (ast_s (ast_s (ast_s (ast_s (ast_s (ast_s (ast_1 rfl)))))))) | exact (ast_s (ast_s (ast_s (ast_s (ast_s (ast_s (ast_s ast_k)))))))) ?_ | refine A_iinc 126 (1) dX2_bestTrade_123 rfl rfl (by decide) (by decide) (by first | exact (ast_s (ast_s (ast_s (ast_s (ast_s (ast_s (ast_s (ast_1 rfl)))))))) | exact (ast_s (ast_s (ast_s (ast_s (ast_s (ast_s (ast_s ast_k)))))))) ?_
                refine A_goto 38 dX2_bestTrade_126 (by decide) ?_
                exact A_weak (ihb n0b (Nat.lt_succ_self n0b) (j + 1) _ _ h_8 _ (by omega) ((foldN_s (trI x a b i) ((u, v)) j).trans ((congrArg ((trI x a b i) j) eeb).trans (by first | with_reducible rfl | (simp only [c29, c51, c106, n106, if_true, if_false, ite_true, ite_false, and_true, true_and, and_false, false_and, and_self, or_true, true_or, or_false, false_or, or_self, not_true_eq_false, not_false_eq_true, decide_true, decide_false, Bool.and_true, Bool.true_and, Bool.and_false, Bool.false_and, Bool.and_self, Bool.or_true, Bool.true_or, Bool.or_false, Bool.false_or, Bool.not_true, Bool.not_false, cond_true, cond_false, bI_t, bI_f, Bool.false_eq_true, Bool.true_eq_false, dayC_1, dayC_21, dayC_221, dayC_222, trI, trN]; done) | (simp [*, trI, trN]; done) | with_reducible_and_instances rfl))) O25 O26 O1 hf) (sub_s (sub_s (sub_s (sub_s (sub_s (sub_s (sub_s (sub_s (sub_s (sub_n (sub_n (sub_n sub_nil))))))))))))
              · skip
                try simp only [bI_0, bI_n0, Classical.not_not, Bool.not_eq_false, Bool.true_and, Bool.and_true, decide_eq_true_eq, decide_eq_false_iff_not, dayC_1, dayC_21, dayC_221, dayC_222, t8, t8b] at c106
                have n106 := c106
                replace c106 := Int32.not_le.mp c106
                refine A_iload 111 dX2_bestTrade_109 rfl rfl ?_
                refine A_istore 113 dX2_bestTrade_111 rfl (by decide) (by first | exact (ast_s (ast_s (ast_s (ast_s (ast_1 rfl))))) | exact (ast_s (ast_s (ast_s (ast_s ast_k))))) ?_
                refine A_bipush 115 (10) dX2_bestTrade_113 rfl (by decide) ?_
                refine A_iload 117 dX2_bestTrade_115 rfl rfl ?_
                refine A_imul 118 dX2_bestTrade_117 rfl ?_
                refine A_iload 120 dX2_bestTrade_118 rfl rfl ?_
                refine A_iadd 121 dX2_bestTrade_120 rfl ?_
                refine A_istore 123 dX2_bestTrade_121 rfl (by decide) (by first | exact (ast_s (ast_s (ast_s (ast_s (ast_s (ast_1 rfl)))))) | exact (ast_s (ast_s (ast_s (ast_s (ast_s ast_k)))))) ?_
                first | refine A_iincN 126 dX2_bestTrade_123 rfl rfl (by decide) (by first | exact (ast_s (ast_s (ast_s (ast_s (ast_s (ast_s (ast_s (ast_1 rfl)))))))) | exact (ast_s (ast_s (ast_s (ast_s (ast_s (ast_s (ast_s ast_k)))))))) ?_ | refine A_iinc 126 (1) dX2_bestTrade_123 rfl rfl (by decide) (by decide) (by first | exact (ast_s (ast_s (ast_s (ast_s (ast_s (ast_s (ast_s (ast_1 rfl)))))))) | exact (ast_s (ast_s (ast_s (ast_s (ast_s (ast_s (ast_s ast_k)))))))) ?_
                refine A_goto 38 dX2_bestTrade_126 (by decide) ?_
                exact A_weak (ihb n0b (Nat.lt_succ_self n0b) (j + 1) _ _ h_8 _ (by omega) ((foldN_s (trI x a b i) ((u, v)) j).trans ((congrArg ((trI x a b i) j) eeb).trans (by first | with_reducible rfl | (simp only [c29, c51, c106, n106, if_true, if_false, ite_true, ite_false, and_true, true_and, and_false, false_and, and_self, or_true, true_or, or_false, false_or, or_self, not_true_eq_false, not_false_eq_true, decide_true, decide_false, Bool.and_true, Bool.true_and, Bool.and_false, Bool.false_and, Bool.and_self, Bool.or_true, Bool.true_or, Bool.or_false, Bool.false_or, Bool.not_true, Bool.not_false, cond_true, cond_false, bI_t, bI_f, Bool.false_eq_true, Bool.true_eq_false, dayC_1, dayC_21, dayC_221, dayC_222, trI, trN]; done) | (simp [*, trI, trN]; done) | with_reducible_and_instances rfl))) O25 O26 O1 hf) (sub_s (sub_s (sub_s (sub_s (sub_s (sub_s (sub_s (sub_s (sub_s (sub_n (sub_n (sub_n sub_nil))))))))))))
            · skip
              try simp only [bI_0, bI_n0, Classical.not_not, Bool.not_eq_false, Bool.true_and, Bool.and_true, decide_eq_true_eq, decide_eq_false_iff_not, dayC_1, dayC_21, dayC_221, dayC_222, t8, t8b] at c51
              refine A_goto 123 dX2_bestTrade_54 (by decide) ?_
              first | refine A_iincN 126 dX2_bestTrade_123 rfl rfl (by decide) (by first | exact (ast_s (ast_s (ast_s (ast_s (ast_s (ast_s (ast_s (ast_1 rfl)))))))) | exact (ast_s (ast_s (ast_s (ast_s (ast_s (ast_s (ast_s ast_k)))))))) ?_ | refine A_iinc 126 (1) dX2_bestTrade_123 rfl rfl (by decide) (by decide) (by first | exact (ast_s (ast_s (ast_s (ast_s (ast_s (ast_s (ast_s (ast_1 rfl)))))))) | exact (ast_s (ast_s (ast_s (ast_s (ast_s (ast_s (ast_s ast_k)))))))) ?_
              refine A_goto 38 dX2_bestTrade_126 (by decide) ?_
              exact A_weak (ihb n0b (Nat.lt_succ_self n0b) (j + 1) _ _ g38 _ (by omega) ((foldN_s (trI x a b i) ((u, v)) j).trans ((congrArg ((trI x a b i) j) eeb).trans (by first | with_reducible rfl | (simp only [c29, c51, if_true, if_false, ite_true, ite_false, and_true, true_and, and_false, false_and, and_self, or_true, true_or, or_false, false_or, or_self, not_true_eq_false, not_false_eq_true, decide_true, decide_false, Bool.and_true, Bool.true_and, Bool.and_false, Bool.false_and, Bool.and_self, Bool.or_true, Bool.true_or, Bool.or_false, Bool.false_or, Bool.not_true, Bool.not_false, cond_true, cond_false, bI_t, bI_f, Bool.false_eq_true, Bool.true_eq_false, dayC_1, dayC_21, dayC_221, dayC_222, trI, trN]; done) | (simp [*, trI, trN]; done) | with_reducible_and_instances rfl))) O25 O26 O1 hf) (sub_s (sub_s (sub_s (sub_s (sub_s (sub_s (sub_s (sub_s (sub_s (sub_n (sub_n (sub_n sub_nil))))))))))))
        exact A_weak (L38 (8) (0) (_) (_) g16 (_) (by omega) (rfl) O25 O26 O1 hf) (sub_s (sub_s (sub_s (sub_s (sub_s (sub_s (sub_s (sub_s (sub_s (sub_n (sub_n (sub_n sub_nil))))))))))))
      · skip
        try simp only [bI_0, bI_n0, Classical.not_not, Bool.not_eq_false, Bool.true_and, Bool.and_true, decide_eq_true_eq, decide_eq_false_iff_not, dayC_1, dayC_21, dayC_221, dayC_222, t8] at c29
        refine A_goto 129 dX2_bestTrade_32 (by decide) ?_
        first | refine A_iincN 132 dX2_bestTrade_129 rfl rfl (by decide) (by first | exact (ast_s (ast_s (ast_s (ast_s (ast_s (ast_s (ast_1 rfl))))))) | exact (ast_s (ast_s (ast_s (ast_s (ast_s (ast_s ast_k))))))) ?_ | refine A_iinc 132 (1) dX2_bestTrade_129 rfl rfl (by decide) (by decide) (by first | exact (ast_s (ast_s (ast_s (ast_s (ast_s (ast_s (ast_1 rfl))))))) | exact (ast_s (ast_s (ast_s (ast_s (ast_s (ast_s ast_k))))))) ?_
        refine A_goto 16 dX2_bestTrade_132 (by decide) ?_
        exact A_weak (ih n0 (Nat.lt_succ_self n0) (i + 1) _ _ g16 _ (by omega) ((foldN_s (trO x a b) ((D2 x a b, 88)) i).trans ((congrArg ((trO x a b) i) ee).trans (by first | (simp only [trO]; rw [if_pos (by simp_all)]; exact eeb) | (simp only [trO]; rw [if_neg (by simp_all)])))) O25 O26 O1 hf) (sub_s (sub_s (sub_s (sub_s (sub_s (sub_s (sub_s (sub_s (sub_n (sub_n (sub_n (sub_n sub_nil))))))))))))
  exact A_weak (L16 (8) (0) (_) (_) h_1 (_) (by omega) (rfl) O25 O26 O1 hf) (sub_s (sub_s (sub_s (sub_s (sub_s (sub_s (sub_s (sub_s (sub_n (sub_n (sub_n (sub_n sub_nil))))))))))))
set_option maxHeartbeats 4000000 in
set_option maxRecDepth 100000 in
theorem S_X2_drawn (X : En) (l : Launch) {h : Hp} {x : PW} {y : PC} {s : Nat → Int64} {g : FI} (O25 : h 25 = some (foB s g)) (O26 : h 26 = some (cB 26 y)) (O1 : h 1 = some (wB 1 x)) (hx : LOK x) (hp : x.2.2.2.1 ≤ 6) {n : Nat} (hn : n ≤ 20) {z wh : Int32} : Ct X l mX2_drawn [aR 25 0, aR 1 0, aI (nI n), aI z, aI wh] h (QI (fun vr h2 => (if wh = 0 then (foldN (ltO x) (z, 0, 0) n).2.1 else (foldN (ltO x) (z, 0, 0) n).2.2) = vr ∧ ∃ (y1 : PC), h2 (26) = some (cB 26 y1) ∧ ∀ i, i ≠ 26 → h2 i = h i)) := by
  have hf : ∀ i, i ≠ 26 → h i = h i := fun _ _ => rfl
  refine Ct.intro [some (aR 25 0), some (aR 1 0), some (aI (nI n)), some (aI z), some (aI wh), none, none, none, none, none, none, none] (by decide +kernel) rfl (Nat.le_of_ble_eq_true rfl) ?_
  refine A_iload_n 1 dX2_drawn_0 rfl rfl rfl ?_
  refine A_istore 3 dX2_drawn_1 rfl (by decide) (by first | exact (ast_s (ast_s (ast_s (ast_s (ast_1 rfl))))) | exact (ast_s (ast_s (ast_s (ast_s ast_k))))) ?_
  refine A_iconst 4 (0) dX2_drawn_3 rfl (by decide) ?_
  refine A_istore 6 dX2_drawn_4 rfl (by decide) (by first | exact (ast_s (ast_s (ast_s (ast_s (ast_s (ast_1 rfl)))))) | exact (ast_s (ast_s (ast_s (ast_s (ast_s ast_k)))))) ?_
  refine A_iconst 7 (0) dX2_drawn_6 rfl (by decide) ?_
  refine A_istore 9 dX2_drawn_7 rfl (by decide) (by first | exact (ast_s (ast_s (ast_s (ast_s (ast_s (ast_s (ast_1 rfl))))))) | exact (ast_s (ast_s (ast_s (ast_s (ast_s (ast_s ast_k))))))) ?_
  refine A_iconst 10 (0) dX2_drawn_9 rfl (by decide) ?_
  refine A_istore 12 dX2_drawn_10 rfl (by decide) (by first | exact (ast_s (ast_s (ast_s (ast_s (ast_s (ast_s (ast_s (ast_1 rfl)))))))) | exact (ast_s (ast_s (ast_s (ast_s (ast_s (ast_s (ast_s ast_k)))))))) ?_
  have L12 : ∀ (nq i : Nat) (u v w : Int32) (g12 : Hp) (y0 : PC), (nq + i = n) → (foldN (ltO x) ((z, 0, 0)) i = (u, v, w)) → (g12 25 = some (foB s g)) → (g12 26 = some (cB 26 y0)) → (g12 1 = some (wB 1 x)) → (∀ i, i ≠ 26 → g12 i = h i) → Av X l mX2_drawn 12 [some (aR 25 0), some (aR 1 0), some (aI (nI (n))), some (aI (z)), some (aI (wh)), some (aI (u)), some (aI (v)), some (aI (w)), some (aI (nI (i))), none, none, none] [] g12 (QI (fun vr h2 => (if wh = 0 then (foldN (ltO x) (z, 0, 0) n).2.1 else (foldN (ltO x) (z, 0, 0) n).2.2) = vr ∧ ∃ (y1 : PC), h2 (26) = some (cB 26 y1) ∧ ∀ i, i ≠ 26 → h2 i = h i)) := by
    intro nq
    induction nq using Nat.strongRecOn with
    | _ nq ih =>
    intro i u v w g12 y0 en ee O25 O26 O1 hf
    refine A_iload 14 dX2_drawn_12 rfl rfl ?_
    refine A_iload_n 15 dX2_drawn_14 rfl rfl rfl ?_
    refine A_icmp_ge 110 18 dX2_drawn_15 (by decide) rfl (fun c15 => ?_) (fun c15 => ?_)
    · skip
      obtain rfl := (up_ge_T (N := n) c15 rfl (by omega) (by omega)).symm
      refine A_iload 112 dX2_drawn_110 rfl rfl ?_
      refine A_if_ne 120 115 dX2_drawn_112 (by decide) rfl (fun c112 => ?_) (fun c112 => ?_)
      · skip
        try simp only [bI_0, bI_n0, Classical.not_not, Bool.not_eq_false, Bool.true_and, Bool.and_true, decide_eq_true_eq, decide_eq_false_iff_not, dayC_1, dayC_21, dayC_221, dayC_222] at c112
        refine A_iload 122 dX2_drawn_120 rfl rfl ?_
        refine A_iret dX2_drawn_122 rfl ⟨_, rfl, (by rw [ee]; simp [*]), _, O26, hf⟩
      · skip
        try simp only [bI_0, bI_n0, Classical.not_not, Bool.not_eq_false, Bool.true_and, Bool.and_true, decide_eq_true_eq, decide_eq_false_iff_not, dayC_1, dayC_21, dayC_221, dayC_222] at c112
        refine A_iload 117 dX2_drawn_115 rfl rfl ?_
        refine A_goto 122 dX2_drawn_117 (by decide) ?_
        refine A_iret dX2_drawn_122 rfl ⟨_, rfl, (by rw [ee]; simp [*]), _, O26, hf⟩
    · skip
      have hi := up_ge_F (N := n) c15 rfl (by omega) (by omega)
      obtain ⟨n0, rfl⟩ : ∃ q, nq = q + 1 := ⟨nq - 1, by omega⟩
      refine A_iconst 19 (0) dX2_drawn_18 rfl (by decide) ?_
      refine A_istore 21 dX2_drawn_19 rfl (by decide) (by first | exact (ast_s (ast_s (ast_s (ast_s (ast_s (ast_s (ast_s (ast_s (ast_1 rfl))))))))) | exact (ast_s (ast_s (ast_s (ast_s (ast_s (ast_s (ast_s (ast_s ast_k))))))))) ?_
      have L21 : ∀ (nqb j : Nat) (u2 v2 w2 : Int32) (g21 : Hp) (y0 : PC), (nqb + j = x.2.2.2.1) → (foldN (ltI x) ((u, v, w)) j = (u2, v2, w2)) → (g21 25 = some (foB s g)) → (g21 26 = some (cB 26 y0)) → (g21 1 = some (wB 1 x)) → (∀ i, i ≠ 26 → g21 i = h i) → Av X l mX2_drawn 21 [some (aR 25 0), some (aR 1 0), some (aI (nI (n))), some (aI (z)), some (aI (wh)), some (aI (u2)), some (aI (v2)), some (aI (w2)), some (aI (nI (i))), some (aI (nI (j))), none, none] [] g21 (QI (fun vr h2 => (if wh = 0 then (foldN (ltO x) (z, 0, 0) n).2.1 else (foldN (ltO x) (z, 0, 0) n).2.2) = vr ∧ ∃ (y1 : PC), h2 (26) = some (cB 26 y1) ∧ ∀ i, i ≠ 26 → h2 i = h i)) := by
        intro nqb
        induction nqb using Nat.strongRecOn with
        | _ nqb ihb =>
        intro j u2 v2 w2 g21 y0 enb eeb O25 O26 O1 hf
        refine A_iload 23 dX2_drawn_21 rfl rfl ?_
        refine A_aload_n 24 dX2_drawn_23 rfl rfl rfl ?_
        refine A_callVI 27 (S_X8_peopleCount X l (by first | assumption | decide | omega | exact Ne.symm (by assumption))) dX2_drawn_24 rfl kX8_peopleCount lk_X2_33 rfl O1 (by decide) rfl (Nat.le_of_ble_eq_true rfl) (fun v_1 h_1 qh_1 => ?_)
        obtain ⟨rfl, rfl⟩ := qh_1
        refine A_icmp_ge 104 30 dX2_drawn_27 (by decide) rfl (fun c27 => ?_) (fun c27 => ?_)
        · skip
          obtain rfl := (up_ge_T (N := x.2.2.2.1) c27 rfl (by omega) (by omega)).symm
          first | refine A_iincN 107 dX2_drawn_104 rfl rfl (by decide) (by first | exact (ast_s (ast_s (ast_s (ast_s (ast_s (ast_s (ast_s (ast_1 rfl)))))))) | exact (ast_s (ast_s (ast_s (ast_s (ast_s (ast_s (ast_s ast_k)))))))) ?_ | refine A_iinc 107 (1) dX2_drawn_104 rfl rfl (by decide) (by decide) (by first | exact (ast_s (ast_s (ast_s (ast_s (ast_s (ast_s (ast_s (ast_1 rfl)))))))) | exact (ast_s (ast_s (ast_s (ast_s (ast_s (ast_s (ast_s ast_k)))))))) ?_
          refine A_goto 12 dX2_drawn_107 (by decide) ?_
          exact A_weak (ih n0 (Nat.lt_succ_self n0) (i + 1) _ _ _ g21 _ (by omega) ((foldN_s (ltO x) ((z, 0, 0)) i).trans ((congrArg ((ltO x) i) ee).trans (by exact eeb))) O25 O26 O1 hf) (sub_s (sub_s (sub_s (sub_s (sub_s (sub_s (sub_s (sub_s (sub_s (sub_n (sub_n (sub_n sub_nil))))))))))))
        · skip
          have hib := up_ge_F (N := x.2.2.2.1) c27 rfl (by omega) (by omega)
          obtain ⟨n0b, rfl⟩ : ∃ q, nqb = q + 1 := ⟨nqb - 1, by omega⟩
          refine A_iload 32 dX2_drawn_30 rfl rfl ?_
          refine A_ldc 34 _ dX2_drawn_32 rfl cn_X2_115 ?_
          refine A_imul 35 dX2_drawn_34 rfl ?_
          refine A_sipush 38 (12345) dX2_drawn_35 rfl (by decide) ?_
          refine A_iadd 39 dX2_drawn_38 rfl ?_
          rw [show u2 * 1103515245 + 12345 = zN u2 from rfl]
          refine A_istore 41 dX2_drawn_39 rfl (by decide) (by first | exact (ast_s (ast_s (ast_s (ast_s (ast_1 rfl))))) | exact (ast_s (ast_s (ast_s (ast_s ast_k))))) ?_
          refine A_iload 43 dX2_drawn_41 rfl rfl ?_
          refine A_ldc 45 _ dX2_drawn_43 rfl cn_X2_116 ?_
          refine A_iand 46 dX2_drawn_45 rfl ?_
          refine A_bipush 48 (16) dX2_drawn_46 rfl (by decide) ?_
          refine A_iushr 49 dX2_drawn_48 rfl ?_
          refine A_bipush 51 (8) dX2_drawn_49 rfl (by decide) ?_
          refine A_irem 52 dX2_drawn_51 rfl (by decide) ?_
          rw [show ((zN u2 &&& 2147483647).toUInt32 >>> ((16 : Int32).toUInt32 &&& Int32.toUInt32 31)).toInt32 - ((zN u2 &&& 2147483647).toUInt32 >>> ((16 : Int32).toUInt32 &&& Int32.toUInt32 31)).toInt32 / 8 * 8 = zT (zN u2) from rfl]
          refine A_istore 54 dX2_drawn_52 rfl (by decide) (by first | exact (ast_s (ast_s (ast_s (ast_s (ast_s (ast_s (ast_s (ast_s (ast_s (ast_1 rfl)))))))))) | exact (ast_s (ast_s (ast_s (ast_s (ast_s (ast_s (ast_s (ast_s (ast_s ast_k)))))))))) ?_
          refine A_aload_n 55 dX2_drawn_54 rfl rfl rfl ?_
          refine A_iload 57 dX2_drawn_55 rfl rfl ?_
          refine A_callVI 60 (S_X8_pocketsOf X l (by first | assumption | decide | omega | exact Ne.symm (by assumption)) (by first | assumption | decide | omega | exact Ne.symm (by assumption))) dX2_drawn_57 rfl kX8_pocketsOf lk_X2_37 rfl O1 (by decide) rfl (Nat.le_of_ble_eq_true rfl) (fun v_2 h_2 qh_2 => ?_)
          obtain ⟨rfl, rfl⟩ := qh_2
          refine A_istore 62 dX2_drawn_60 rfl (by decide) (by first | exact (ast_s (ast_s (ast_s (ast_s (ast_s (ast_s (ast_s (ast_s (ast_s (ast_s (ast_1 rfl))))))))))) | exact (ast_s (ast_s (ast_s (ast_s (ast_s (ast_s (ast_s (ast_s (ast_s (ast_s ast_k))))))))))) ?_
          refine A_iload 64 dX2_drawn_62 rfl rfl ?_
          refine A_iload 66 dX2_drawn_64 rfl rfl ?_
          refine A_callNI 69 (S_X9_hasThing X l) dX2_drawn_66 rfl kX9_hasThing nk_X2_66 rfl (by decide) rfl (Nat.le_of_ble_eq_true rfl) (fun v_3 h_3 qh_3 => ?_)
          obtain ⟨rfl, rfl⟩ := qh_3
          refine A_if_eq 75 72 dX2_drawn_69 (by decide) rfl (fun c69 => ?_) (fun c69 => ?_)
          · skip
            try simp only [bI_0, bI_n0, Classical.not_not, Bool.not_eq_false, Bool.true_and, Bool.and_true, decide_eq_true_eq, decide_eq_false_iff_not, dayC_1, dayC_21, dayC_221, dayC_222] at c69
            refine A_iload 77 dX2_drawn_75 rfl rfl ?_
            refine A_aload_n 78 dX2_drawn_77 rfl rfl rfl ?_
            refine A_getfield 81 dX2_drawn_78 rfl f_X2_12 O25 rfl ?_
            refine A_aload_n 82 dX2_drawn_81 rfl rfl rfl ?_
            refine A_iload 84 dX2_drawn_82 rfl rfl ?_
            refine A_iload 86 dX2_drawn_84 rfl rfl ?_
            refine A_callNI 89 (S_X9_thingBit X l) dX2_drawn_86 rfl kX9_thingBit nk_X2_57 rfl (by decide) rfl (Nat.le_of_ble_eq_true rfl) (fun v_4 h_4 qh_4 => ?_)
            obtain ⟨rfl, rfl⟩ := qh_4
            refine A_iconst 90 (-1) dX2_drawn_89 rfl (by decide) ?_
            refine A_ixor 91 dX2_drawn_90 rfl ?_
            refine A_iand 92 dX2_drawn_91 rfl ?_
            refine A_callVI 95 (S_X1_countDone X l (by first | assumption | decide | omega | exact Ne.symm (by assumption)) (by first | assumption | decide | omega | exact Ne.symm (by assumption)) (by first | assumption | decide | omega | exact Ne.symm (by assumption)) (by first | assumption | decide | omega | exact Ne.symm (by assumption))) dX2_drawn_92 rfl kX1_countDone lk_X2_41 rfl O26 (by decide) rfl (Nat.le_of_ble_eq_true rfl) (fun v_5 h_5 qh_5 => ?_)
            obtain ⟨rfl, n0h_5, eh_5⟩ := qh_5
            replace O25 := (eh_5 _ (by decide)).trans O25
            replace O26 := n0h_5
            replace O1 := (eh_5 _ (by decide)).trans O1
            replace hf : ∀ i, i ≠ 26 → h_5 i = h i := fun i g0 => (eh_5 i g0).trans (hf i g0)
            refine A_iadd 96 dX2_drawn_95 rfl ?_
            refine A_istore 98 dX2_drawn_96 rfl (by decide) (by first | exact (ast_s (ast_s (ast_s (ast_s (ast_s (ast_1 rfl)))))) | exact (ast_s (ast_s (ast_s (ast_s (ast_s ast_k)))))) ?_
            first | refine A_iincN 101 dX2_drawn_98 rfl rfl (by decide) (by first | exact (ast_s (ast_s (ast_s (ast_s (ast_s (ast_s (ast_s (ast_s (ast_1 rfl))))))))) | exact (ast_s (ast_s (ast_s (ast_s (ast_s (ast_s (ast_s (ast_s ast_k))))))))) ?_ | refine A_iinc 101 (1) dX2_drawn_98 rfl rfl (by decide) (by decide) (by first | exact (ast_s (ast_s (ast_s (ast_s (ast_s (ast_s (ast_s (ast_s (ast_1 rfl))))))))) | exact (ast_s (ast_s (ast_s (ast_s (ast_s (ast_s (ast_s (ast_s ast_k))))))))) ?_
            refine A_goto 21 dX2_drawn_101 (by decide) ?_
            exact A_weak (ihb n0b (Nat.lt_succ_self n0b) (j + 1) _ _ _ h_5 _ (by omega) ((foldN_s (ltI x) ((u, v, w)) j).trans ((congrArg ((ltI x) j) eeb).trans (by first | with_reducible rfl | (simp only [c69, if_true, if_false, ite_true, ite_false, and_true, true_and, and_false, false_and, and_self, or_true, true_or, or_false, false_or, or_self, not_true_eq_false, not_false_eq_true, decide_true, decide_false, Bool.and_true, Bool.true_and, Bool.and_false, Bool.false_and, Bool.and_self, Bool.or_true, Bool.true_or, Bool.or_false, Bool.false_or, Bool.not_true, Bool.not_false, cond_true, cond_false, bI_t, bI_f, Bool.false_eq_true, Bool.true_eq_false, dayC_1, dayC_21, dayC_221, dayC_222, ltI]; done) | (simp [*, ltI]; done) | with_reducible_and_instances rfl))) O25 O26 O1 hf) (sub_s (sub_s (sub_s (sub_s (sub_s (sub_s (sub_s (sub_s (sub_s (sub_s (sub_n (sub_n sub_nil))))))))))))
          · skip
            try simp only [bI_0, bI_n0, Classical.not_not, Bool.not_eq_false, Bool.true_and, Bool.and_true, decide_eq_true_eq, decide_eq_false_iff_not, dayC_1, dayC_21, dayC_221, dayC_222] at c69
            first | refine A_iincN 75 dX2_drawn_72 rfl rfl (by decide) (by first | exact (ast_s (ast_s (ast_s (ast_s (ast_s (ast_s (ast_1 rfl))))))) | exact (ast_s (ast_s (ast_s (ast_s (ast_s (ast_s ast_k))))))) ?_ | refine A_iinc 75 (1) dX2_drawn_72 rfl rfl (by decide) (by decide) (by first | exact (ast_s (ast_s (ast_s (ast_s (ast_s (ast_s (ast_1 rfl))))))) | exact (ast_s (ast_s (ast_s (ast_s (ast_s (ast_s ast_k))))))) ?_
            refine A_iload 77 dX2_drawn_75 rfl rfl ?_
            refine A_aload_n 78 dX2_drawn_77 rfl rfl rfl ?_
            refine A_getfield 81 dX2_drawn_78 rfl f_X2_12 O25 rfl ?_
            refine A_aload_n 82 dX2_drawn_81 rfl rfl rfl ?_
            refine A_iload 84 dX2_drawn_82 rfl rfl ?_
            refine A_iload 86 dX2_drawn_84 rfl rfl ?_
            refine A_callNI 89 (S_X9_thingBit X l) dX2_drawn_86 rfl kX9_thingBit nk_X2_57 rfl (by decide) rfl (Nat.le_of_ble_eq_true rfl) (fun v_6 h_6 qh_6 => ?_)
            obtain ⟨rfl, rfl⟩ := qh_6
            refine A_iconst 90 (-1) dX2_drawn_89 rfl (by decide) ?_
            refine A_ixor 91 dX2_drawn_90 rfl ?_
            refine A_iand 92 dX2_drawn_91 rfl ?_
            refine A_callVI 95 (S_X1_countDone X l (by first | assumption | decide | omega | exact Ne.symm (by assumption)) (by first | assumption | decide | omega | exact Ne.symm (by assumption)) (by first | assumption | decide | omega | exact Ne.symm (by assumption)) (by first | assumption | decide | omega | exact Ne.symm (by assumption))) dX2_drawn_92 rfl kX1_countDone lk_X2_41 rfl O26 (by decide) rfl (Nat.le_of_ble_eq_true rfl) (fun v_7 h_7 qh_7 => ?_)
            obtain ⟨rfl, n0h_7, eh_7⟩ := qh_7
            replace O25 := (eh_7 _ (by decide)).trans O25
            replace O26 := n0h_7
            replace O1 := (eh_7 _ (by decide)).trans O1
            replace hf : ∀ i, i ≠ 26 → h_7 i = h i := fun i g0 => (eh_7 i g0).trans (hf i g0)
            refine A_iadd 96 dX2_drawn_95 rfl ?_
            refine A_istore 98 dX2_drawn_96 rfl (by decide) (by first | exact (ast_s (ast_s (ast_s (ast_s (ast_s (ast_1 rfl)))))) | exact (ast_s (ast_s (ast_s (ast_s (ast_s ast_k)))))) ?_
            first | refine A_iincN 101 dX2_drawn_98 rfl rfl (by decide) (by first | exact (ast_s (ast_s (ast_s (ast_s (ast_s (ast_s (ast_s (ast_s (ast_1 rfl))))))))) | exact (ast_s (ast_s (ast_s (ast_s (ast_s (ast_s (ast_s (ast_s ast_k))))))))) ?_ | refine A_iinc 101 (1) dX2_drawn_98 rfl rfl (by decide) (by decide) (by first | exact (ast_s (ast_s (ast_s (ast_s (ast_s (ast_s (ast_s (ast_s (ast_1 rfl))))))))) | exact (ast_s (ast_s (ast_s (ast_s (ast_s (ast_s (ast_s (ast_s ast_k))))))))) ?_
            refine A_goto 21 dX2_drawn_101 (by decide) ?_
            exact A_weak (ihb n0b (Nat.lt_succ_self n0b) (j + 1) _ _ _ h_7 _ (by omega) ((foldN_s (ltI x) ((u, v, w)) j).trans ((congrArg ((ltI x) j) eeb).trans (by first | with_reducible rfl | (simp only [c69, if_true, if_false, ite_true, ite_false, and_true, true_and, and_false, false_and, and_self, or_true, true_or, or_false, false_or, or_self, not_true_eq_false, not_false_eq_true, decide_true, decide_false, Bool.and_true, Bool.true_and, Bool.and_false, Bool.false_and, Bool.and_self, Bool.or_true, Bool.true_or, Bool.or_false, Bool.false_or, Bool.not_true, Bool.not_false, cond_true, cond_false, bI_t, bI_f, Bool.false_eq_true, Bool.true_eq_false, dayC_1, dayC_21, dayC_221, dayC_222, ltI]; done) | (simp [*, ltI]; done) | with_reducible_and_instances rfl))) O25 O26 O1 hf) (sub_s (sub_s (sub_s (sub_s (sub_s (sub_s (sub_s (sub_s (sub_s (sub_s (sub_n (sub_n sub_nil))))))))))))
      exact A_weak (L21 (x.2.2.2.1) (0) (_) (_) (_) g12 (_) (by omega) (rfl) O25 O26 O1 hf) (sub_s (sub_s (sub_s (sub_s (sub_s (sub_s (sub_s (sub_s (sub_s (sub_s (sub_n (sub_n sub_nil))))))))))))
  exact A_weak (L12 (n) (0) (_) (_) (_) h (_) (by omega) (rfl) O25 O26 O1 hf) (sub_s (sub_s (sub_s (sub_s (sub_s (sub_s (sub_s (sub_s (sub_s (sub_n (sub_n (sub_n sub_nil))))))))))))
set_option maxHeartbeats 4000000 in
set_option maxRecDepth 100000 in
theorem S_X2_keepState (X : En) (l : Launch) {h : Hp} {x2 : PW} {s : Nat → Int64} {g : FI} (O25 : h 25 = some (foB s g)) (O27 : h 27 = some (wB 27 x2)) (hp : x2.2.2.2.1 ≤ 6) {n : Nat} (hn : n < 61) : Ct X l mX2_keepState [aR 25 0, aI (nI n)] h (QV (PV1 h (25) (foB (va_up s n (PK x2)) g))) := by
  have hf : ∀ i, i ≠ 25 → h i = h i := fun _ _ => rfl
  refine Ct.intro [some (aR 25 0), some (aI (nI n)), none, none, none] (by decide +kernel) rfl (Nat.le_of_ble_eq_true rfl) ?_
  refine A_lconst 1 (0) dX2_keepState_0 rfl (by decide) ?_
  refine A_lstore_n 2 dX2_keepState_1 rfl rfl (by decide) (by first | exact (astL_s (astL_1 rfl)) | exact (astL_s astL_k)) ?_
  refine A_iconst 3 (0) dX2_keepState_2 rfl (by decide) ?_
  refine A_istore 5 dX2_keepState_3 rfl (by decide) (by first | exact (ast_s (ast_s (ast_s (ast_1 rfl)))) | exact (ast_s (ast_s (ast_s ast_k)))) ?_
  have L5 : ∀ (nq i : Nat) (u : Int64) , (nq + i = x2.2.2.2.1) → (foldN (pkF x2) (0) i = (u)) → Av X l mX2_keepState 5 [some (aR 25 0), some (aI (nI (n))), some (aL (u)), none, some (aI (nI (i)))] [] h (QV (PV1 h (25) (foB (va_up s n (PK x2)) g))) := by
    intro nq
    induction nq using Nat.strongRecOn with
    | _ nq ih =>
    intro i u en ee
    refine A_iload 7 dX2_keepState_5 rfl rfl ?_
    refine A_aload_n 8 dX2_keepState_7 rfl rfl rfl ?_
    refine A_getfield 11 dX2_keepState_8 rfl f_X2_21 O25 rfl ?_
    refine A_callVI 14 (S_X8_peopleCount X l (by first | assumption | decide | omega | exact Ne.symm (by assumption))) dX2_keepState_11 rfl kX8_peopleCount lk_X2_33 rfl O27 (by decide) rfl (Nat.le_of_ble_eq_true rfl) (fun v_1 h_1 qh_1 => ?_)
    obtain ⟨rfl, rfl⟩ := qh_1
    refine A_icmp_ge 39 17 dX2_keepState_14 (by decide) rfl (fun c14 => ?_) (fun c14 => ?_)
    · skip
      obtain rfl := (up_ge_T (N := x2.2.2.2.1) c14 rfl (by omega) (by omega)).symm
      refine A_iload_n 40 dX2_keepState_39 rfl rfl rfl ?_
      refine A_if_lt 59 43 dX2_keepState_40 (by decide) rfl (fun c40 => ?_) (fun c40 => ?_)
      · skip
        exact absurd c40 (nI_pos (by omega))
      · skip
        try simp only [bI_0, bI_n0, Classical.not_not, Bool.not_eq_false, Bool.true_and, Bool.and_true, decide_eq_true_eq, decide_eq_false_iff_not, dayC_1, dayC_21, dayC_221, dayC_222] at c40
        have n40 := Int32.not_lt.mp c40
        refine A_iload_n 44 dX2_keepState_43 rfl rfl rfl ?_
        refine A_aload_n 45 dX2_keepState_44 rfl rfl rfl ?_
        refine A_getfield 48 dX2_keepState_45 rfl f_X2_25 O25 rfl ?_
        refine A_arraylength 49 dX2_keepState_48 rfl O25 rfl (Nat.le_of_ble_eq_true rfl) rfl ?_
        refine A_icmp_ge 59 52 dX2_keepState_49 (by decide) rfl (fun c49 => ?_) (fun c49 => ?_)
        · skip
          exact absurd ((nle_iff (a := 61) (b := n) (by decide) (by omega)).mp c49) (by omega)
        · skip
          try simp only [bI_0, bI_n0, Classical.not_not, Bool.not_eq_false, Bool.true_and, Bool.and_true, decide_eq_true_eq, decide_eq_false_iff_not, dayC_1, dayC_21, dayC_221, dayC_222] at c49
          have n49 := c49
          replace c49 := Int32.not_le.mp c49
          refine A_aload_n 53 dX2_keepState_52 rfl rfl rfl ?_
          refine A_getfield 56 dX2_keepState_53 rfl f_X2_25 O25 rfl ?_
          refine A_iload_n 57 dX2_keepState_56 rfl rfl rfl ?_
          refine A_lload_n 58 dX2_keepState_57 rfl rfl rfl ?_
          refine T_X2_0 59 dX2_keepState_58 rfl O25 (by first | assumption | exact ix_nI (by omega) (by decide) | exact ix_lit _ rfl (by omega) (by decide) | exact ix_lit _ rfl (by decide) (by decide)) (fun h_2 nh_2 eh_2 => ?_)
          replace O25 := nh_2
          replace O27 := (eh_2 _ (by decide)).trans O27
          replace hf : ∀ i, i ≠ 25 → h_2 i = h i := fun i g0 => (eh_2 i g0).trans (hf i g0)
          refine A_vret dX2_keepState_59 rfl ⟨rfl, (by unfold PK; rw [ee]; exact O25), hf⟩
    · skip
      have hi := up_ge_F (N := x2.2.2.2.1) c14 rfl (by omega) (by omega)
      obtain ⟨n0, rfl⟩ : ∃ q, nq = q + 1 := ⟨nq - 1, by omega⟩
      refine A_lload_n 18 dX2_keepState_17 rfl rfl rfl ?_
      refine A_bipush 20 (8) dX2_keepState_18 rfl (by decide) ?_
      refine A_lshl 21 dX2_keepState_20 rfl ?_
      refine A_aload_n 22 dX2_keepState_21 rfl rfl rfl ?_
      refine A_getfield 25 dX2_keepState_22 rfl f_X2_21 O25 rfl ?_
      refine A_iload 27 dX2_keepState_25 rfl rfl ?_
      refine A_callVI 30 (S_X8_pocketsOf X l (by first | assumption | decide | omega | exact Ne.symm (by assumption)) (by first | assumption | decide | omega | exact Ne.symm (by assumption))) dX2_keepState_27 rfl kX8_pocketsOf lk_X2_37 rfl O27 (by decide) rfl (Nat.le_of_ble_eq_true rfl) (fun v_3 h_3 qh_3 => ?_)
      obtain ⟨rfl, rfl⟩ := qh_3
      refine A_i2l 31 dX2_keepState_30 rfl ?_
      refine A_lor 32 dX2_keepState_31 rfl ?_
      refine A_lstore_n 33 dX2_keepState_32 rfl rfl (by decide) (by first | exact (astL_s (astL_1 rfl)) | exact (astL_s astL_k)) ?_
      first | refine A_iincN 36 dX2_keepState_33 rfl rfl (by decide) (by first | exact (ast_s (ast_s (ast_s (ast_1 rfl)))) | exact (ast_s (ast_s (ast_s ast_k)))) ?_ | refine A_iinc 36 (1) dX2_keepState_33 rfl rfl (by decide) (by decide) (by first | exact (ast_s (ast_s (ast_s (ast_1 rfl)))) | exact (ast_s (ast_s (ast_s ast_k)))) ?_
      refine A_goto 5 dX2_keepState_36 (by decide) ?_
      exact A_weak (ih n0 (Nat.lt_succ_self n0) (i + 1) _  (by omega) ((foldN_s (pkF x2) (0) i).trans ((congrArg ((pkF x2) i) ee).trans (by rfl))) ) (sub_s (sub_s (sub_s (sub_n (sub_s sub_nil)))))
  exact A_weak (L5 (x2.2.2.2.1) (0) (_)  (by omega) (rfl) ) (sub_s (sub_s (sub_s (sub_n (sub_s sub_nil)))))
set_option maxHeartbeats 4000000 in
set_option maxRecDepth 100000 in
theorem S_X2_isSeenAhead (X : En) (l : Launch) {h : Hp} {s : Nat → Int64} {g : FI} (O25 : h 25 = some (foB s g)) {n : Nat} (hn : n < 61) : Ct X l mX2_isSeenAhead [aR 25 0, aI (nI n)] h (QI (PI0 (bI (anyN (fun k => decide (s k = s n)) n)) h)) := by
  refine Ct.intro [some (aR 25 0), some (aI (nI n)), none] (by decide +kernel) rfl (Nat.le_of_ble_eq_true rfl) ?_
  refine A_iload_n 1 dX2_isSeenAhead_0 rfl rfl rfl ?_
  refine A_if_lt 13 4 dX2_isSeenAhead_1 (by decide) rfl (fun c1 => ?_) (fun c1 => ?_)
  · skip
    exact absurd c1 (nI_pos (by omega))
  · skip
    try simp only [bI_0, bI_n0, Classical.not_not, Bool.not_eq_false, Bool.true_and, Bool.and_true, decide_eq_true_eq, decide_eq_false_iff_not, dayC_1, dayC_21, dayC_221, dayC_222] at c1
    have n1 := Int32.not_lt.mp c1
    refine A_iload_n 5 dX2_isSeenAhead_4 rfl rfl rfl ?_
    refine A_aload_n 6 dX2_isSeenAhead_5 rfl rfl rfl ?_
    refine A_getfield 9 dX2_isSeenAhead_6 rfl f_X2_25 O25 rfl ?_
    refine A_arraylength 10 dX2_isSeenAhead_9 rfl O25 rfl (Nat.le_of_ble_eq_true rfl) rfl ?_
    refine A_icmp_lt 15 13 dX2_isSeenAhead_10 (by decide) rfl (fun c10 => ?_) (fun c10 => ?_)
    · skip
      try simp only [bI_0, bI_n0, Classical.not_not, Bool.not_eq_false, Bool.true_and, Bool.and_true, decide_eq_true_eq, decide_eq_false_iff_not, dayC_1, dayC_21, dayC_221, dayC_222] at c10
      have n10 := Int32.not_le.mpr c10
      refine A_iconst 16 (0) dX2_isSeenAhead_15 rfl (by decide) ?_
      refine A_istore_n 17 dX2_isSeenAhead_16 rfl rfl (by decide) (by first | exact (ast_s (ast_1 rfl)) | exact (ast_s ast_k)) ?_
      have L17 : ∀ (nq k : Nat)  , (nq + k = n) → (anyN (fun k => decide (s k = s n)) k = false) → Av X l mX2_isSeenAhead 17 [some (aR 25 0), some (aI (nI (n))), some (aI (nI (k)))] [] h (QI (PI0 (bI (anyN (fun k => decide (s k = s n)) n)) h)) := by
        intro nq
        induction nq using Nat.strongRecOn with
        | _ nq ih =>
        intro k en ee
        refine A_iload_n 18 dX2_isSeenAhead_17 rfl rfl rfl ?_
        refine A_iload_n 19 dX2_isSeenAhead_18 rfl rfl rfl ?_
        refine A_icmp_ge 46 22 dX2_isSeenAhead_19 (by decide) rfl (fun c19 => ?_) (fun c19 => ?_)
        · skip
          obtain rfl := (up_ge_T (N := n) c19 rfl (by omega) (by omega)).symm
          refine A_iconst 47 (0) dX2_isSeenAhead_46 rfl (by decide) ?_
          refine A_zret dX2_isSeenAhead_47 rfl (by first | with_reducible exact bI01 _ | with_reducible exact Or.inl rfl | with_reducible exact Or.inr rfl | assumption) ⟨_, rfl, (by rw [ee]; rfl), rfl⟩
        · skip
          have hi := up_ge_F (N := n) c19 rfl (by omega) (by omega)
          obtain ⟨n0, rfl⟩ : ∃ q, nq = q + 1 := ⟨nq - 1, by omega⟩
          refine A_aload_n 23 dX2_isSeenAhead_22 rfl rfl rfl ?_
          refine A_getfield 26 dX2_isSeenAhead_23 rfl f_X2_25 O25 rfl ?_
          refine A_iload_n 27 dX2_isSeenAhead_26 rfl rfl rfl ?_
          refine A_laload 28 dX2_isSeenAhead_27 rfl O25 rfl (by first | assumption | exact ix_nI (by omega) (by decide) | exact ix_lit _ rfl (by omega) (by decide) | exact ix_lit _ rfl (by decide) (by decide)) ?_
          refine A_aload_n 29 dX2_isSeenAhead_28 rfl rfl rfl ?_
          refine A_getfield 32 dX2_isSeenAhead_29 rfl f_X2_25 O25 rfl ?_
          refine A_iload_n 33 dX2_isSeenAhead_32 rfl rfl rfl ?_
          refine A_laload 34 dX2_isSeenAhead_33 rfl O25 rfl (by first | assumption | exact ix_nI (by omega) (by decide) | exact ix_lit _ rfl (by omega) (by decide) | exact ix_lit _ rfl (by decide) (by decide)) ?_
          refine A_lcmp 35 dX2_isSeenAhead_34 rfl ?_
          refine A_if_ne 40 38 dX2_isSeenAhead_35 (by decide) rfl (fun c35 => ?_) (fun c35 => ?_)
          · skip
            try simp only [bI_0, bI_n0, Classical.not_not, Bool.not_eq_false, Bool.true_and, Bool.and_true, decide_eq_true_eq, decide_eq_false_iff_not, dayC_1, dayC_21, dayC_221, dayC_222] at c35
            first | refine A_iincN 43 dX2_isSeenAhead_40 rfl rfl (by decide) (by first | exact (ast_s (ast_1 rfl)) | exact (ast_s ast_k)) ?_ | refine A_iinc 43 (1) dX2_isSeenAhead_40 rfl rfl (by decide) (by decide) (by first | exact (ast_s (ast_1 rfl)) | exact (ast_s ast_k)) ?_
            refine A_goto 17 dX2_isSeenAhead_43 (by decide) ?_
            exact ih n0 (Nat.lt_succ_self n0) (k + 1)   (by omega) (by rw [anyN, ee]; simp; intro z; exact c35 ((lcmp_eq).mpr z)) 
          · skip
            try simp only [bI_0, bI_n0, Classical.not_not, Bool.not_eq_false, Bool.true_and, Bool.and_true, decide_eq_true_eq, decide_eq_false_iff_not, dayC_1, dayC_21, dayC_221, dayC_222] at c35
            refine A_iconst 39 (1) dX2_isSeenAhead_38 rfl (by decide) ?_
            refine A_zret dX2_isSeenAhead_39 rfl (by first | with_reducible exact bI01 _ | with_reducible exact Or.inl rfl | with_reducible exact Or.inr rfl | assumption) ⟨_, rfl, (by rw [anyN_yes hi (decide_eq_true (lcmp_eq.mp c35))]; rfl), rfl⟩
      exact L17 (n) (0)   (by omega) (rfl) 
    · skip
      exact absurd ((nlt_iff (b := 61) (a := n) (by omega) (by decide)).mpr hn) c10
