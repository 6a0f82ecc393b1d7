/-! where each cell comes: places in the order of making -/
def stO (o : Nat) : Nat := [0, 1, 4, 7, 9, 12, 15, 18, 21, 24, 27, 30, 33, 35, 38, 41, 44, 47, 49, 52, 53, 56, 57, 60, 63, 66, 67, 70, 75].getD o 0
def pl (o k : Nat) : Nat := if o = 0 then (if k = 1 then 43 else k) else if o = 25 then (if k = 0 then stO 25 else 72 + k) else stO o + k
theorem pl_mono (o k : Nat) : pl o 0 ≤ pl o k := by
  unfold pl
  by_cases h0 : o = 0
  · rw [if_pos h0, if_pos h0]
    simp
  · rw [if_neg h0, if_neg h0]
    by_cases h1 : o = 25
    · rw [if_pos h1, if_pos h1]
      simp only [if_true]
      by_cases h2 : k = 0
      · rw [if_pos h2]; exact Nat.le_refl _
      · rw [if_neg h2]
        exact Nat.le_trans (show stO 25 ≤ 72 by decide) (Nat.le_add_right _ _)
    · rw [if_neg h1, if_neg h1]
      exact Nat.le_add_right _ _
def Ad (X : En) (B : Nat) : Prop := ∀ o k, o < 29 → X.2.2.1 o k = B + pl o k
theorem Ad.mono {X : En} {B o : Nat} (h : Ad X B) (ho : o < 29) : ∀ k, X.2.2.1 o 0 ≤ X.2.2.1 o k := fun k => by
  rw [h o 0 ho, h o k ho]
  exact Nat.add_le_add_left (pl_mono o k) B
theorem adq {X : En} {B o k n c nc : Nat} (h : Ad X B) (hs : n = B + c) (ho : o < 29) (hp : pl o k = c + nc) : X.2.2.1 o k = n + nc := by rw [h o k ho, hs, hp, Nat.add_assoc]
theorem adn {B n c c2 nc : Nat} (hs : n = B + c) (hp : c2 = c + nc) : B + c2 = n + nc := by rw [hs, hp, Nat.add_assoc]
theorem Ad.L {X : En} {B : Nat} {L : List (Nat × Nat)} (h : Ad X B) : Ad (enL X L) B := h
def x00 : PW := (fun _ => 0, fun _ => 0, 0, 0, 0, 0)
def y00 : PC := (fun _ => 0, fun _ => 0, 0, 0)
def c00 : RC := (fun _ => 0, fun _ => 0, 0, fun _ => 0, 0, fun _ => 0, 0, fun _ => 0, 0)
def z00 : RZ := ((fun _ => 0, fun _ => 0), (0, 0, 0, fun _ => 0, fun _ => 0, fun _ => 0), (fun _ => 0, fun _ => 0, 0, 0, aN), (fun _ => 0, fun _ => 0, fun _ => 0, fun _ => 0, 0, 0))
theorem acI : Cond.arrayClass (newarray.typeOf .int) ∈ TB := TB_in 49 (by decide +kernel) (by decide +kernel)
theorem acJ : Cond.arrayClass (newarray.typeOf .long) ∈ TB := TB_in 200 (by decide +kernel) (by decide +kernel)
theorem acZ : Cond.arrayClass (newarray.typeOf .boolean) ∈ TB := TB_in 1108 (by decide +kernel) (by decide +kernel)
section NEWS
variable {X : En}
theorem clI (s : State) (cA : ClassId) (hK : KS X s) (h : s.vm.findClass ("[" ++ (newarray.typeOf .int).toString) = some cA) : cA = X.2.1 0 := Option.some.inj (h.symm.trans (hK.1.2 0 (X.2.1 0, .int) rfl).2)
theorem clZ (s : State) (cA : ClassId) (hK : KS X s) (h : s.vm.findClass ("[" ++ (newarray.typeOf .boolean).toString) = some cA) : cA = X.2.1 1 := Option.some.inj (h.symm.trans (hK.1.2 1 (X.2.1 1, .boolean) rfl).2)
theorem clJ (s : State) (cA : ClassId) (hK : KS X s) (h : s.vm.findClass ("[" ++ (newarray.typeOf .long).toString) = some cA) : cA = X.2.1 2 := Option.some.inj (h.symm.trans (hK.1.2 2 (X.2.1 2, .long) rfl).2)
theorem ceI (n : Nat) (cA : ClassId) : vp_cell cA (aaV X (kI n (fun _ => 0))) = arrV cA n (fun _ => defaultValue (newarray.typeOf .int)) := by
  show vp_cell cA (n, .inl (fun _ => 0)) = _
  rw [vp_cell_i]
  rfl
theorem ceZ (n : Nat) (cA : ClassId) : vp_cell cA (aaV X (kZ n (fun _ => 0))) = arrV cA n (fun _ => defaultValue (newarray.typeOf .boolean)) := by
  show vp_cell cA (n, .inl (fun _ => 0)) = _
  rw [vp_cell_i]
  rfl
theorem ceJ (n : Nat) (cA : ClassId) : vp_cell cA (aaV X (kJ n (fun _ => 0))) = arrV cA n (fun _ => defaultValue (newarray.typeOf .long)) := by
  show vp_cell cA (n, .inr (.inl (fun _ => 0))) = _
  rw [vp_cell_l]
  rfl
end NEWS
theorem G_iincN {G : GX} {X : En} {l : Launch} {M : MI} {nc ns pc : Nat} {ls : List (Option AV)} {st : List AV} {h : Hp} (pc' : Nat) {i k : Nat} {ls' : List (Option AV)} (hd : decode M.2.1 pc = .ok (.iinc i 1, 3)) (hp : pc + 3 = pc') (hx : ls[i]? = some (some (aI (nI k)))) (hn : i < M.2.2.1) (ha : AstP i (aI (nI (k + 1))) ls ls') (kk : Ag G X l M nc ns pc' ls' st h) : Ag G X l M nc ns pc ls st h :=
  G_iinc pc' 1 hd hp hx (by decide) hn (by rw [← nI_succ]; exact ha) kk
theorem ff_X8_9 : FFK RX8 9 8 0 (.array .int) := ⟨RX8, TX8, 6, tyX8, rfl, by decide, uX8, TB_in 30 (by decide +kernel) (by decide +kernel), tyX8_ok, nmX8, rfl, rfl, rfl⟩
theorem ff_X8_15 : FFK RX8 15 8 1 (.array .int) := ⟨RX8, TX8, 6, tyX8, rfl, by decide, uX8, TB_in 31 (by decide +kernel) (by decide +kernel), tyX8_ok, nmX8, rfl, rfl, rfl⟩
theorem ff_X1_9 : FFK RX1 9 1 0 (.array .int) := ⟨RX1, TX1, 4, tyX1, rfl, by decide, uX1, TB_in 83 (by decide +kernel) (by decide +kernel), tyX1_ok, nmX1, rfl, rfl, rfl⟩
theorem ff_X1_15 : FFK RX1 15 1 1 (.array .int) := ⟨RX1, TX1, 4, tyX1, rfl, by decide, uX1, TB_in 84 (by decide +kernel) (by decide +kernel), tyX1_ok, nmX1, rfl, rfl, rfl⟩
theorem ff_X7_11 : FFK RX7 11 7 0 (.array .int) := ⟨RX7, TX7, 2, tyX7, rfl, by decide, uX7, TB_in 118 (by decide +kernel) (by decide +kernel), tyX7_ok, nmX7, rfl, rfl, rfl⟩
theorem ff_X3_9 : FFK RX3 9 3 0 (.array .int) := ⟨RX3, TX3, 3, tyX3, rfl, by decide, uX3, TB_in 135 (by decide +kernel) (by decide +kernel), tyX3_ok, nmX3, rfl, rfl, rfl⟩
theorem cw_X3_15 : Cond.classLink RX3 15 RX1 ∈ TB := TB_in 133 (by decide +kernel) (by decide +kernel)
theorem ff_X3_18 : FFK RX3 18 3 1 (.object "SearchedAtTheGate$Course") := ⟨RX3, TX3, 3, tyX3, rfl, by decide, uX3, TB_in 136 (by decide +kernel) (by decide +kernel), tyX3_ok, nmX3, rfl, rfl, rfl⟩
theorem cw_X6_9 : Cond.classLink RX6 9 RX1 ∈ TB := TB_in 151 (by decide +kernel) (by decide +kernel)
theorem ff_X6_12 : FFK RX6 12 6 0 (.object "SearchedAtTheGate$Course") := ⟨RX6, TX6, 1, tyX6, rfl, by decide, uX6, TB_in 153 (by decide +kernel) (by decide +kernel), tyX6_ok, nmX6, rfl, rfl, rfl⟩
theorem ff_X4_11 : FFK RX4 11 4 0 (.array .int) := ⟨RX4, TX4, 5, tyX4, rfl, by decide, uX4, TB_in 96 (by decide +kernel) (by decide +kernel), tyX4_ok, nmX4, rfl, rfl, rfl⟩
theorem cw_X4_15 : Cond.classLink RX4 15 RX8 ∈ TB := TB_in 75 (by decide +kernel) (by decide +kernel)
theorem ff_X4_18 : FFK RX4 18 4 1 (.object "SearchedAtTheGate$World") := ⟨RX4, TX4, 5, tyX4, rfl, by decide, uX4, TB_in 97 (by decide +kernel) (by decide +kernel), tyX4_ok, nmX4, rfl, rfl, rfl⟩
theorem cw_X4_22 : Cond.classLink RX4 22 RX1 ∈ TB := TB_in 77 (by decide +kernel) (by decide +kernel)
theorem ff_X4_25 : FFK RX4 25 4 2 (.object "SearchedAtTheGate$Course") := ⟨RX4, TX4, 5, tyX4, rfl, by decide, uX4, TB_in 98 (by decide +kernel) (by decide +kernel), tyX4_ok, nmX4, rfl, rfl, rfl⟩
theorem cw_X0_9 : Cond.classLink RX0 9 RX1 ∈ TB := TB_in 163 (by decide +kernel) (by decide +kernel)
theorem ff_X0_12 : FFK RX0 12 0 0 (.object "SearchedAtTheGate$Course") := ⟨RX0, TX0, 3, tyX0, rfl, by decide, uX0, TB_in 167 (by decide +kernel) (by decide +kernel), tyX0_ok, nmX0, rfl, rfl, rfl⟩
theorem ff_X0_18 : FFK RX0 18 0 1 (.object "SearchedAtTheGate$Course") := ⟨RX0, TX0, 3, tyX0, rfl, by decide, uX0, TB_in 168 (by decide +kernel) (by decide +kernel), tyX0_ok, nmX0, rfl, rfl, rfl⟩
theorem cw_X0_21 : Cond.classLink RX0 21 RX8 ∈ TB := TB_in 165 (by decide +kernel) (by decide +kernel)
theorem ff_X0_24 : FFK RX0 24 0 2 (.object "SearchedAtTheGate$World") := ⟨RX0, TX0, 3, tyX0, rfl, by decide, uX0, TB_in 169 (by decide +kernel) (by decide +kernel), tyX0_ok, nmX0, rfl, rfl, rfl⟩
theorem cw_X2_9 : Cond.classLink RX2 9 RX1 ∈ TB := TB_in 183 (by decide +kernel) (by decide +kernel)
theorem ff_X2_12 : FFK RX2 12 2 0 (.object "SearchedAtTheGate$Course") := ⟨RX2, TX2, 4, tyX2, rfl, by decide, uX2, TB_in 187 (by decide +kernel) (by decide +kernel), tyX2_ok, nmX2, rfl, rfl, rfl⟩
theorem cw_X2_18 : Cond.classLink RX2 18 RX8 ∈ TB := TB_in 185 (by decide +kernel) (by decide +kernel)
theorem ff_X2_21 : FFK RX2 21 2 1 (.object "SearchedAtTheGate$World") := ⟨RX2, TX2, 4, tyX2, rfl, by decide, uX2, TB_in 188 (by decide +kernel) (by decide +kernel), tyX2_ok, nmX2, rfl, rfl, rfl⟩
theorem ff_X2_25 : FFK RX2 25 2 2 (.array .long) := ⟨RX2, TX2, 4, tyX2, rfl, by decide, uX2, TB_in 189 (by decide +kernel) (by decide +kernel), tyX2_ok, nmX2, rfl, rfl, rfl⟩
theorem ff_X2_29 : FFK RX2 29 2 3 (.array .int) := ⟨RX2, TX2, 4, tyX2, rfl, by decide, uX2, TB_in 190 (by decide +kernel) (by decide +kernel), tyX2_ok, nmX2, rfl, rfl, rfl⟩
theorem cw_X5_9 : Cond.classLink RX5 9 RX8 ∈ TB := TB_in 56 (by decide +kernel) (by decide +kernel)
theorem ff_X5_11 : FFK RX5 11 5 0 (.array (.object RX8)) := ⟨RX5, TX5, 3, tyX5, rfl, by decide, uX5, TB_in 59 (by decide +kernel) (by decide +kernel), tyX5_ok, nmX5, rfl, rfl, rfl⟩
theorem cw_X9_7 : Cond.classLink RX9 7 RX8 ∈ TB := TB_in 24 (by decide +kernel) (by decide +kernel)
theorem ff_X9_10 : FFK RX9 10 9 0 (.object "SearchedAtTheGate$World") := ⟨RX9, TX9, 12, tyX9, rfl, by decide, uX9, TB_in 201 (by decide +kernel) (by decide +kernel), tyX9_ok, nmX9, rfl, rfl, rfl⟩
theorem ff_X9_16 : FFK RX9 16 9 1 (.object "SearchedAtTheGate$World") := ⟨RX9, TX9, 12, tyX9, rfl, by decide, uX9, TB_in 202 (by decide +kernel) (by decide +kernel), tyX9_ok, nmX9, rfl, rfl, rfl⟩
theorem cw_X9_19 : Cond.classLink RX9 19 RX5 ∈ TB := TB_in 50 (by decide +kernel) (by decide +kernel)
theorem ff_X9_22 : FFK RX9 22 9 3 (.object "SearchedAtTheGate$Past") := ⟨RX9, TX9, 12, tyX9, rfl, by decide, uX9, TB_in 204 (by decide +kernel) (by decide +kernel), tyX9_ok, nmX9, rfl, rfl, rfl⟩
theorem cw_X9_26 : Cond.classLink RX9 26 RX4 ∈ TB := TB_in 69 (by decide +kernel) (by decide +kernel)
theorem ff_X9_29 : FFK RX9 29 9 4 (.object "SearchedAtTheGate$Letters") := ⟨RX9, TX9, 12, tyX9, rfl, by decide, uX9, TB_in 205 (by decide +kernel) (by decide +kernel), tyX9_ok, nmX9, rfl, rfl, rfl⟩
theorem cw_X9_33 : Cond.classLink RX9 33 RX7 ∈ TB := TB_in 112 (by decide +kernel) (by decide +kernel)
theorem ff_X9_36 : FFK RX9 36 9 5 (.object "SearchedAtTheGate$Told") := ⟨RX9, TX9, 12, tyX9, rfl, by decide, uX9, TB_in 206 (by decide +kernel) (by decide +kernel), tyX9_ok, nmX9, rfl, rfl, rfl⟩
theorem ff_X9_40 : FFK RX9 40 9 6 (.array .int) := ⟨RX9, TX9, 12, tyX9, rfl, by decide, uX9, TB_in 207 (by decide +kernel) (by decide +kernel), tyX9_ok, nmX9, rfl, rfl, rfl⟩
theorem cw_X9_44 : Cond.classLink RX9 44 RX1 ∈ TB := TB_in 125 (by decide +kernel) (by decide +kernel)
theorem ff_X9_47 : FFK RX9 47 9 7 (.object "SearchedAtTheGate$Course") := ⟨RX9, TX9, 12, tyX9, rfl, by decide, uX9, TB_in 208 (by decide +kernel) (by decide +kernel), tyX9_ok, nmX9, rfl, rfl, rfl⟩
theorem cw_X9_51 : Cond.classLink RX9 51 RX3 ∈ TB := TB_in 127 (by decide +kernel) (by decide +kernel)
theorem ff_X9_54 : FFK RX9 54 9 8 (.object "SearchedAtTheGate$Guess") := ⟨RX9, TX9, 12, tyX9, rfl, by decide, uX9, TB_in 209 (by decide +kernel) (by decide +kernel), tyX9_ok, nmX9, rfl, rfl, rfl⟩
theorem cw_X9_58 : Cond.classLink RX9 58 RX6 ∈ TB := TB_in 145 (by decide +kernel) (by decide +kernel)
theorem ff_X9_61 : FFK RX9 61 9 9 (.object "SearchedAtTheGate$Sets") := ⟨RX9, TX9, 12, tyX9, rfl, by decide, uX9, TB_in 210 (by decide +kernel) (by decide +kernel), tyX9_ok, nmX9, rfl, rfl, rfl⟩
theorem cw_X9_65 : Cond.classLink RX9 65 RX0 ∈ TB := TB_in 157 (by decide +kernel) (by decide +kernel)
theorem ff_X9_68 : FFK RX9 68 9 10 (.object "SearchedAtTheGate$Alone") := ⟨RX9, TX9, 12, tyX9, rfl, by decide, uX9, TB_in 211 (by decide +kernel) (by decide +kernel), tyX9_ok, nmX9, rfl, rfl, rfl⟩
theorem cw_X9_72 : Cond.classLink RX9 72 RX2 ∈ TB := TB_in 177 (by decide +kernel) (by decide +kernel)
theorem ff_X9_75 : FFK RX9 75 9 11 (.object "SearchedAtTheGate$Folk") := ⟨RX9, TX9, 12, tyX9, rfl, by decide, uX9, TB_in 212 (by decide +kernel) (by decide +kernel), tyX9_ok, nmX9, rfl, rfl, rfl⟩
theorem ff_X10_7 : FFK RX10 7 10 1 (.array .int) := ⟨RX10, TX10, 38, tyX10, rfl, by decide, uX10, TB_in 994 (by decide +kernel) (by decide +kernel), tyX10_ok, nmX10, rfl, rfl, rfl⟩
theorem ff_X10_13 : FFK RX10 13 10 2 (.array .int) := ⟨RX10, TX10, 38, tyX10, rfl, by decide, uX10, TB_in 995 (by decide +kernel) (by decide +kernel), tyX10_ok, nmX10, rfl, rfl, rfl⟩
theorem ff_X10_16 : FFK RX10 16 10 3 (.array .int) := ⟨RX10, TX10, 38, tyX10, rfl, by decide, uX10, TB_in 996 (by decide +kernel) (by decide +kernel), tyX10_ok, nmX10, rfl, rfl, rfl⟩
theorem ff_X10_19 : FFK RX10 19 10 4 (.array .int) := ⟨RX10, TX10, 38, tyX10, rfl, by decide, uX10, TB_in 997 (by decide +kernel) (by decide +kernel), tyX10_ok, nmX10, rfl, rfl, rfl⟩
theorem ff_X10_22 : FFK RX10 22 10 6 (.array .int) := ⟨RX10, TX10, 38, tyX10, rfl, by decide, uX10, TB_in 999 (by decide +kernel) (by decide +kernel), tyX10_ok, nmX10, rfl, rfl, rfl⟩
theorem ff_X10_25 : FFK RX10 25 10 10 (.array .int) := ⟨RX10, TX10, 38, tyX10, rfl, by decide, uX10, TB_in 1003 (by decide +kernel) (by decide +kernel), tyX10_ok, nmX10, rfl, rfl, rfl⟩
theorem ff_X10_32 : FFK RX10 32 10 12 (.array .int) := ⟨RX10, TX10, 38, tyX10, rfl, by decide, uX10, TB_in 1005 (by decide +kernel) (by decide +kernel), tyX10_ok, nmX10, rfl, rfl, rfl⟩
theorem ff_X10_35 : FFK RX10 35 10 13 (.array .int) := ⟨RX10, TX10, 38, tyX10, rfl, by decide, uX10, TB_in 1006 (by decide +kernel) (by decide +kernel), tyX10_ok, nmX10, rfl, rfl, rfl⟩
theorem ff_X10_38 : FFK RX10 38 10 14 (.array .int) := ⟨RX10, TX10, 38, tyX10, rfl, by decide, uX10, TB_in 1007 (by decide +kernel) (by decide +kernel), tyX10_ok, nmX10, rfl, rfl, rfl⟩
theorem ff_X10_41 : FFK RX10 41 10 19 (.array .int) := ⟨RX10, TX10, 38, tyX10, rfl, by decide, uX10, TB_in 1012 (by decide +kernel) (by decide +kernel), tyX10_ok, nmX10, rfl, rfl, rfl⟩
theorem ff_X10_44 : FFK RX10 44 10 20 (.array .int) := ⟨RX10, TX10, 38, tyX10, rfl, by decide, uX10, TB_in 1013 (by decide +kernel) (by decide +kernel), tyX10_ok, nmX10, rfl, rfl, rfl⟩
theorem ff_X10_47 : FFK RX10 47 10 21 (.array .int) := ⟨RX10, TX10, 38, tyX10, rfl, by decide, uX10, TB_in 1014 (by decide +kernel) (by decide +kernel), tyX10_ok, nmX10, rfl, rfl, rfl⟩
theorem ff_X10_50 : FFK RX10 50 10 22 (.array .int) := ⟨RX10, TX10, 38, tyX10, rfl, by decide, uX10, TB_in 1015 (by decide +kernel) (by decide +kernel), tyX10_ok, nmX10, rfl, rfl, rfl⟩
theorem ff_X10_53 : FFK RX10 53 10 23 (.array .int) := ⟨RX10, TX10, 38, tyX10, rfl, by decide, uX10, TB_in 1016 (by decide +kernel) (by decide +kernel), tyX10_ok, nmX10, rfl, rfl, rfl⟩
theorem ff_X10_56 : FFK RX10 56 10 28 (.array .int) := ⟨RX10, TX10, 38, tyX10, rfl, by decide, uX10, TB_in 1021 (by decide +kernel) (by decide +kernel), tyX10_ok, nmX10, rfl, rfl, rfl⟩
theorem ff_X10_59 : FFK RX10 59 10 29 (.array .int) := ⟨RX10, TX10, 38, tyX10, rfl, by decide, uX10, TB_in 1022 (by decide +kernel) (by decide +kernel), tyX10_ok, nmX10, rfl, rfl, rfl⟩
theorem ff_X10_62 : FFK RX10 62 10 31 (.array .int) := ⟨RX10, TX10, 38, tyX10, rfl, by decide, uX10, TB_in 1024 (by decide +kernel) (by decide +kernel), tyX10_ok, nmX10, rfl, rfl, rfl⟩
theorem ff_X10_65 : FFK RX10 65 10 33 (.array .boolean) := ⟨RX10, TX10, 38, tyX10, rfl, by decide, uX10, TB_in 1026 (by decide +kernel) (by decide +kernel), tyX10_ok, nmX10, rfl, rfl, rfl⟩
theorem ff_X10_69 : FFK RX10 69 10 34 (.array .int) := ⟨RX10, TX10, 38, tyX10, rfl, by decide, uX10, TB_in 1027 (by decide +kernel) (by decide +kernel), tyX10_ok, nmX10, rfl, rfl, rfl⟩
theorem ff_X10_72 : FFK RX10 72 10 35 (.array .int) := ⟨RX10, TX10, 38, tyX10, rfl, by decide, uX10, TB_in 1028 (by decide +kernel) (by decide +kernel), tyX10_ok, nmX10, rfl, rfl, rfl⟩
theorem ff_X10_75 : FFK RX10 75 10 36 (.array .int) := ⟨RX10, TX10, 38, tyX10, rfl, by decide, uX10, TB_in 1029 (by decide +kernel) (by decide +kernel), tyX10_ok, nmX10, rfl, rfl, rfl⟩
theorem cw_L_7 : Cond.classLink RL 7 RX9 ∈ TB := TB_in 16 (by decide +kernel) (by decide +kernel)
theorem cw_L_10 : Cond.classLink RL 10 RX10 ∈ TB := TB_in 987 (by decide +kernel) (by decide +kernel)
theorem is_X0 : Cond.instantiable RX0 3 ∈ TB := TB_in 158 (by decide +kernel) (by decide +kernel)
theorem ii_X0 : Cond.initialized RX0 ∈ TB := TB_in 9 (by decide +kernel) (by decide +kernel)
theorem is_X1 : Cond.instantiable RX1 4 ∈ TB := TB_in 78 (by decide +kernel) (by decide +kernel)
theorem ii_X1 : Cond.initialized RX1 ∈ TB := TB_in 5 (by decide +kernel) (by decide +kernel)
theorem is_X2 : Cond.instantiable RX2 4 ∈ TB := TB_in 178 (by decide +kernel) (by decide +kernel)
theorem ii_X2 : Cond.initialized RX2 ∈ TB := TB_in 10 (by decide +kernel) (by decide +kernel)
theorem is_X3 : Cond.instantiable RX3 3 ∈ TB := TB_in 128 (by decide +kernel) (by decide +kernel)
theorem ii_X3 : Cond.initialized RX3 ∈ TB := TB_in 7 (by decide +kernel) (by decide +kernel)
theorem is_X4 : Cond.instantiable RX4 5 ∈ TB := TB_in 70 (by decide +kernel) (by decide +kernel)
theorem ii_X4 : Cond.initialized RX4 ∈ TB := TB_in 4 (by decide +kernel) (by decide +kernel)
theorem is_X5 : Cond.instantiable RX5 3 ∈ TB := TB_in 51 (by decide +kernel) (by decide +kernel)
theorem ii_X5 : Cond.initialized RX5 ∈ TB := TB_in 3 (by decide +kernel) (by decide +kernel)
theorem is_X6 : Cond.instantiable RX6 1 ∈ TB := TB_in 146 (by decide +kernel) (by decide +kernel)
theorem ii_X6 : Cond.initialized RX6 ∈ TB := TB_in 8 (by decide +kernel) (by decide +kernel)
theorem is_X7 : Cond.instantiable RX7 2 ∈ TB := TB_in 113 (by decide +kernel) (by decide +kernel)
theorem ii_X7 : Cond.initialized RX7 ∈ TB := TB_in 6 (by decide +kernel) (by decide +kernel)
theorem is_X8 : Cond.instantiable RX8 6 ∈ TB := TB_in 25 (by decide +kernel) (by decide +kernel)
theorem ii_X8 : Cond.initialized RX8 ∈ TB := TB_in 2 (by decide +kernel) (by decide +kernel)
theorem is_X9 : Cond.instantiable RX9 12 ∈ TB := TB_in 17 (by decide +kernel) (by decide +kernel)
theorem ii_X9 : Cond.initialized RX9 ∈ TB := TB_in 1 (by decide +kernel) (by decide +kernel)
theorem is_X10 : Cond.instantiable RX10 38 ∈ TB := TB_in 988 (by decide +kernel) (by decide +kernel)
theorem ii_X10 : Cond.initialized RX10 ∈ TB := TB_in 11 (by decide +kernel) (by decide +kernel)
abbrev mX8_init : MI := (yX8_init, cX8_init, 1, none, { frames := 1, cells := 2, slots := 46, locals := 20 })
theorem kX8_init : MIK mX8_init := ⟨TB_in 28 (by decide +kernel) (by decide +kernel), TB_in 2 (by decide +kernel) (by decide +kernel), ⟨by decide +kernel, by decide +kernel⟩, by decide +kernel, rfl, TB_in 27 (by decide +kernel) (by decide +kernel), rfl, by decide +kernel, by decide⟩
abbrev mX1_init : MI := (yX1_init, cX1_init, 1, none, { frames := 1, cells := 2, slots := 24, locals := 20 })
theorem kX1_init : MIK mX1_init := ⟨TB_in 81 (by decide +kernel) (by decide +kernel), TB_in 5 (by decide +kernel) (by decide +kernel), ⟨by decide +kernel, by decide +kernel⟩, by decide +kernel, rfl, TB_in 80 (by decide +kernel) (by decide +kernel), rfl, by decide +kernel, by decide⟩
abbrev mX7_init : MI := (yX7_init, cX7_init, 1, none, { frames := 1, cells := 1, slots := 16, locals := 20 })
theorem kX7_init : MIK mX7_init := ⟨TB_in 116 (by decide +kernel) (by decide +kernel), TB_in 6 (by decide +kernel) (by decide +kernel), ⟨by decide +kernel, by decide +kernel⟩, by decide +kernel, rfl, TB_in 115 (by decide +kernel) (by decide +kernel), rfl, by decide +kernel, by decide⟩
abbrev mX3_init : MI := (yX3_init, cX3_init, 1, none, { frames := 2, cells := 4, slots := 284, locals := 40 })
theorem kX3_init : MIK mX3_init := ⟨TB_in 131 (by decide +kernel) (by decide +kernel), TB_in 7 (by decide +kernel) (by decide +kernel), ⟨by decide +kernel, by decide +kernel⟩, by decide +kernel, rfl, TB_in 130 (by decide +kernel) (by decide +kernel), rfl, by decide +kernel, by decide⟩
abbrev mX6_init : MI := (yX6_init, cX6_init, 1, none, { frames := 2, cells := 3, slots := 28, locals := 40 })
theorem kX6_init : MIK mX6_init := ⟨TB_in 149 (by decide +kernel) (by decide +kernel), TB_in 8 (by decide +kernel) (by decide +kernel), ⟨by decide +kernel, by decide +kernel⟩, by decide +kernel, rfl, TB_in 148 (by decide +kernel) (by decide +kernel), rfl, by decide +kernel, by decide⟩
abbrev mX4_init : MI := (yX4_init, cX4_init, 1, none, { frames := 2, cells := 7, slots := 176, locals := 40 })
theorem kX4_init : MIK mX4_init := ⟨TB_in 73 (by decide +kernel) (by decide +kernel), TB_in 4 (by decide +kernel) (by decide +kernel), ⟨by decide +kernel, by decide +kernel⟩, by decide +kernel, rfl, TB_in 72 (by decide +kernel) (by decide +kernel), rfl, by decide +kernel, by decide⟩
abbrev mX0_init : MI := (yX0_init, cX0_init, 1, none, { frames := 2, cells := 9, slots := 108, locals := 40 })
theorem kX0_init : MIK mX0_init := ⟨TB_in 161 (by decide +kernel) (by decide +kernel), TB_in 9 (by decide +kernel) (by decide +kernel), ⟨by decide +kernel, by decide +kernel⟩, by decide +kernel, rfl, TB_in 160 (by decide +kernel) (by decide +kernel), rfl, by decide +kernel, by decide⟩
abbrev mX2_init : MI := (yX2_init, cX2_init, 1, none, { frames := 2, cells := 8, slots := 397, locals := 40 })
theorem kX2_init : MIK mX2_init := ⟨TB_in 181 (by decide +kernel) (by decide +kernel), TB_in 10 (by decide +kernel) (by decide +kernel), ⟨by decide +kernel, by decide +kernel⟩, by decide +kernel, rfl, TB_in 180 (by decide +kernel) (by decide +kernel), rfl, by decide +kernel, by decide⟩
abbrev mX5_init : MI := (yX5_init, cX5_init, 2, none, { frames := 2, cells := 25, slots := 424, locals := 40 })
theorem kX5_init : MIK mX5_init := ⟨TB_in 54 (by decide +kernel) (by decide +kernel), TB_in 3 (by decide +kernel) (by decide +kernel), ⟨by decide +kernel, by decide +kernel⟩, by decide +kernel, rfl, TB_in 53 (by decide +kernel) (by decide +kernel), rfl, by decide +kernel, by decide⟩
abbrev mX9_init : MI := (yX9_init, cX9_init, 1, none, { frames := 3, cells := 74, slots := 1593, locals := 61 })
theorem kX9_init : MIK mX9_init := ⟨TB_in 20 (by decide +kernel) (by decide +kernel), TB_in 1 (by decide +kernel) (by decide +kernel), ⟨by decide +kernel, by decide +kernel⟩, by decide +kernel, rfl, TB_in 19 (by decide +kernel) (by decide +kernel), rfl, by decide +kernel, by decide⟩
abbrev mX10_init : MI := (yX10_init, cX10_init, 1, none, { frames := 1, cells := 21, slots := 1923, locals := 20 })
theorem kX10_init : MIK mX10_init := ⟨TB_in 991 (by decide +kernel) (by decide +kernel), TB_in 11 (by decide +kernel) (by decide +kernel), ⟨by decide +kernel, by decide +kernel⟩, by decide +kernel, rfl, TB_in 990 (by decide +kernel) (by decide +kernel), rfl, by decide +kernel, by decide⟩
set_option maxHeartbeats 4000000 in
set_option maxRecDepth 100000 in
theorem S_X8_init (X : En) (l : Launch) {h : Hp} {B o c : Nat} (hAd : Ad X B) (ho : o < 29) (hp1 : pl o 1 = c) (hp2 : pl o 2 = c + 1) (Oo : h o = some (8, [aN, aN, aI (nI 0), aI (nI 0), aI 0, aI 0], [])) : CtC X l mX8_init o h (B + c) 2 46 [(o, 1), (o, 2)] (fun h' => h' o = some (wB o x00) ∧ ∀ i, i ≠ o → h' i = h i) := by
  refine CtC.intro kX8_init (fun G cg => ?_)
  have hin := cg.1
  have hsz := cg.2.1
  have hAO := cg.2.2.1
  show Ag G (enL X []) l mX8_init 0 0 0 [some (aR o 0)] [] h
  have hf : ∀ i, i ≠ o → h i = h i := fun _ _ => rfl
  refine G_aload_n 1 dX8_init_0 rfl rfl rfl ?_
  refine G_objInit 4 dX8_init_1 rfl lk_X8_3 ⟨Nat.le_of_ble_eq_true rfl, Nat.le_of_ble_eq_true rfl⟩ ?_
  refine G_aload_n 5 dX8_init_4 rfl rfl rfl ?_
  refine G_bipush 7 (nI 40) dX8_init_5 rfl (by decide) ?_
  refine G_newa 9 (j := 1) (L' := [(o, 1)]) (b' := (8, [aN, aN, aI (nI 0), aI (nI 0), aI 0, aI 0], [kI 40 (fun _ => 0)])) (kI 40 (fun _ => 0)) rfl dX8_init_7 rfl acI Oo rfl (adq hAd hsz ho (by omega)) rfl (by decide) clI (ceI 40) (by decide) ⟨Nat.le_of_ble_eq_true rfl, Nat.le_of_ble_eq_true rfl⟩ rfl rfl (fun h1 n1 e1 => ?_)
  replace Oo := n1
  replace hf : ∀ i, i ≠ o → h1 i = h i := fun i g0 => (e1 i g0).trans (hf i g0)
  refine G_putF 12 (b' := (8, [aR o 1, aN, aI (nI 0), aI (nI 0), aI 0, aI 0], [kI 40 (fun _ => 0)])) hin dX8_init_9 rfl ff_X8_9 Oo (Nat.le_of_ble_eq_true rfl) rfl rfl rfl (fun h2 n2 e2 => ?_)
  replace Oo := n2
  replace hf : ∀ i, i ≠ o → h2 i = h i := fun i g0 => (e2 i g0).trans (hf i g0)
  refine G_aload_n 13 dX8_init_12 rfl rfl rfl ?_
  refine G_bipush 15 (nI 6) dX8_init_13 rfl (by decide) ?_
  refine G_newa 17 (j := 2) (L' := [(o, 1), (o, 2)]) (b' := (8, [aR o 1, aN, aI (nI 0), aI (nI 0), aI 0, aI 0], [kI 40 (fun _ => 0), kI 6 (fun _ => 0)])) (kI 6 (fun _ => 0)) rfl dX8_init_15 rfl acI Oo rfl (adq hAd hsz ho (by omega)) rfl (by decide) clI (ceI 6) (by decide) ⟨Nat.le_of_ble_eq_true rfl, Nat.le_of_ble_eq_true rfl⟩ rfl rfl (fun h3 n3 e3 => ?_)
  replace Oo := n3
  replace hf : ∀ i, i ≠ o → h3 i = h i := fun i g0 => (e3 i g0).trans (hf i g0)
  refine G_putF 20 (b' := (8, [aR o 1, aR o 2, aI (nI 0), aI (nI 0), aI 0, aI 0], [kI 40 (fun _ => 0), kI 6 (fun _ => 0)])) hin dX8_init_17 rfl ff_X8_15 Oo (Nat.le_of_ble_eq_true rfl) rfl rfl rfl (fun h4 n4 e4 => ?_)
  replace Oo := n4
  replace hf : ∀ i, i ≠ o → h4 i = h i := fun i g0 => (e4 i g0).trans (hf i g0)
  exact G_retC cg rfl dX8_init_20 rfl ⟨Oo, hf⟩
set_option maxHeartbeats 4000000 in
set_option maxRecDepth 100000 in
theorem S_X1_init (X : En) (l : Launch) {h : Hp} {B o c : Nat} (hAd : Ad X B) (ho : o < 29) (hp1 : pl o 1 = c) (hp2 : pl o 2 = c + 1) (Oo : h o = some (1, [aN, aN, aI 0, aI 0], [])) : CtC X l mX1_init o h (B + c) 2 24 [(o, 1), (o, 2)] (fun h' => h' o = some (cB o y00) ∧ ∀ i, i ≠ o → h' i = h i) := by
  refine CtC.intro kX1_init (fun G cg => ?_)
  have hin := cg.1
  have hsz := cg.2.1
  have hAO := cg.2.2.1
  show Ag G (enL X []) l mX1_init 0 0 0 [some (aR o 0)] [] h
  have hf : ∀ i, i ≠ o → h i = h i := fun _ _ => rfl
  refine G_aload_n 1 dX1_init_0 rfl rfl rfl ?_
  refine G_objInit 4 dX1_init_1 rfl lk_X1_3 ⟨Nat.le_of_ble_eq_true rfl, Nat.le_of_ble_eq_true rfl⟩ ?_
  refine G_aload_n 5 dX1_init_4 rfl rfl rfl ?_
  refine G_bipush 7 (nI 12) dX1_init_5 rfl (by decide) ?_
  refine G_newa 9 (j := 1) (L' := [(o, 1)]) (b' := (1, [aN, aN, aI 0, aI 0], [kI 12 (fun _ => 0)])) (kI 12 (fun _ => 0)) rfl dX1_init_7 rfl acI Oo rfl (adq hAd hsz ho (by omega)) rfl (by decide) clI (ceI 12) (by decide) ⟨Nat.le_of_ble_eq_true rfl, Nat.le_of_ble_eq_true rfl⟩ rfl rfl (fun h1 n1 e1 => ?_)
  replace Oo := n1
  replace hf : ∀ i, i ≠ o → h1 i = h i := fun i g0 => (e1 i g0).trans (hf i g0)
  refine G_putF 12 (b' := (1, [aR o 1, aN, aI 0, aI 0], [kI 12 (fun _ => 0)])) hin dX1_init_9 rfl ff_X1_9 Oo (Nat.le_of_ble_eq_true rfl) rfl rfl rfl (fun h2 n2 e2 => ?_)
  replace Oo := n2
  replace hf : ∀ i, i ≠ o → h2 i = h i := fun i g0 => (e2 i g0).trans (hf i g0)
  refine G_aload_n 13 dX1_init_12 rfl rfl rfl ?_
  refine G_bipush 15 (nI 12) dX1_init_13 rfl (by decide) ?_
  refine G_newa 17 (j := 2) (L' := [(o, 1), (o, 2)]) (b' := (1, [aR o 1, aN, aI 0, aI 0], [kI 12 (fun _ => 0), kI 12 (fun _ => 0)])) (kI 12 (fun _ => 0)) rfl dX1_init_15 rfl acI Oo rfl (adq hAd hsz ho (by omega)) rfl (by decide) clI (ceI 12) (by decide) ⟨Nat.le_of_ble_eq_true rfl, Nat.le_of_ble_eq_true rfl⟩ rfl rfl (fun h3 n3 e3 => ?_)
  replace Oo := n3
  replace hf : ∀ i, i ≠ o → h3 i = h i := fun i g0 => (e3 i g0).trans (hf i g0)
  refine G_putF 20 (b' := (1, [aR o 1, aR o 2, aI 0, aI 0], [kI 12 (fun _ => 0), kI 12 (fun _ => 0)])) hin dX1_init_17 rfl ff_X1_15 Oo (Nat.le_of_ble_eq_true rfl) rfl rfl rfl (fun h4 n4 e4 => ?_)
  replace Oo := n4
  replace hf : ∀ i, i ≠ o → h4 i = h i := fun i g0 => (e4 i g0).trans (hf i g0)
  exact G_retC cg rfl dX1_init_20 rfl ⟨Oo, hf⟩
set_option maxHeartbeats 4000000 in
set_option maxRecDepth 100000 in
theorem S_X7_init (X : En) (l : Launch) {h : Hp} {B : Nat} (hAd : Ad X B) (O15 : h 15 = some (7, [aN, aI (nI 0)], [])) : CtC X l mX7_init 15 h (B + 42) 1 16 [(15, 1)] (fun h' => h' 15 = some (toB (fun _ => 0) 0) ∧ ∀ i, i ≠ 15 → h' i = h i) := by
  refine CtC.intro kX7_init (fun G cg => ?_)
  have hin := cg.1
  have hsz := cg.2.1
  have hAO := cg.2.2.1
  show Ag G (enL X []) l mX7_init 0 0 0 [some (aR 15 0)] [] h
  have hf : ∀ i, i ≠ 15 → h i = h i := fun _ _ => rfl
  refine G_aload_n 1 dX7_init_0 rfl rfl rfl ?_
  refine G_objInit 4 dX7_init_1 rfl lk_X7_3 ⟨Nat.le_of_ble_eq_true rfl, Nat.le_of_ble_eq_true rfl⟩ ?_
  refine G_aload_n 5 dX7_init_4 rfl rfl rfl ?_
  refine G_bipush 7 (nI 16) dX7_init_5 rfl (by decide) ?_
  refine G_newa 9 (j := 1) (L' := [(15, 1)]) (b' := (7, [aN, aI (nI 0)], [kI 16 (fun _ => 0)])) (kI 16 (fun _ => 0)) rfl dX7_init_7 rfl acI O15 rfl (adq hAd hsz (by decide) (by decide)) rfl (by decide) clI (ceI 16) (by decide) ⟨Nat.le_of_ble_eq_true rfl, Nat.le_of_ble_eq_true rfl⟩ rfl rfl (fun h1 n1 e1 => ?_)
  replace O15 := n1
  replace hf : ∀ i, i ≠ 15 → h1 i = h i := fun i g0 => (e1 i g0).trans (hf i g0)
  refine G_putF 12 (b' := (7, [aR 15 1, aI (nI 0)], [kI 16 (fun _ => 0)])) hin dX7_init_9 rfl ff_X7_11 O15 (Nat.le_of_ble_eq_true rfl) rfl rfl rfl (fun h2 n2 e2 => ?_)
  replace O15 := n2
  replace hf : ∀ i, i ≠ 15 → h2 i = h i := fun i g0 => (e2 i g0).trans (hf i g0)
  exact G_retC cg rfl dX7_init_12 rfl ⟨O15, hf⟩
set_option maxHeartbeats 4000000 in
set_option maxRecDepth 100000 in
theorem S_X3_init (X : En) (l : Launch) {h : Hp} {B : Nat} (hAd : Ad X B) (O17 : h 17 = some (3, [aN, aN, aI (nI 0)], [])) : CtC X l mX3_init 17 h (B + 48) 4 284 [(17, 1), (18, 0), (18, 1), (18, 2)] (fun h' => h' 17 = some (guB (fun _ => 0) 0) ∧ h' 18 = some (cB 18 y00) ∧ ∀ i, i ≠ 17 → i ≠ 18 → h' i = h i) := by
  refine CtC.intro kX3_init (fun G cg => ?_)
  have hin := cg.1
  have hsz := cg.2.1
  have hAO := cg.2.2.1
  show Ag G (enL X []) l mX3_init 0 0 0 [some (aR 17 0)] [] h
  have hf : ∀ i, i ≠ 17 → i ≠ 18 → h i = h i := fun _ _ _ => rfl
  refine G_aload_n 1 dX3_init_0 rfl rfl rfl ?_
  refine G_objInit 4 dX3_init_1 rfl lk_X3_3 ⟨Nat.le_of_ble_eq_true rfl, Nat.le_of_ble_eq_true rfl⟩ ?_
  refine G_aload_n 5 dX3_init_4 rfl rfl rfl ?_
  refine G_sipush 8 (nI 256) dX3_init_5 rfl (by decide) ?_
  refine G_newa 10 (j := 1) (L' := [(17, 1)]) (b' := (3, [aN, aN, aI (nI 0)], [kI 256 (fun _ => 0)])) (kI 256 (fun _ => 0)) rfl dX3_init_8 rfl acI O17 rfl (adq hAd hsz (by decide) (by decide)) rfl (by decide) clI (ceI 256) (by decide) ⟨Nat.le_of_ble_eq_true rfl, Nat.le_of_ble_eq_true rfl⟩ rfl rfl (fun h1 n1 e1 => ?_)
  replace O17 := n1
  replace hf : ∀ i, i ≠ 17 → i ≠ 18 → h1 i = h i := fun i g0 g1 => (e1 i g0).trans (hf i g0 g1)
  refine G_putF 13 (b' := (3, [aR 17 1, aN, aI (nI 0)], [kI 256 (fun _ => 0)])) hin dX3_init_10 rfl ff_X3_9 O17 (Nat.le_of_ble_eq_true rfl) rfl rfl rfl (fun h2 n2 e2 => ?_)
  replace O17 := n2
  replace hf : ∀ i, i ≠ 17 → i ≠ 18 → h2 i = h i := fun i g0 g1 => (e2 i g0).trans (hf i g0 g1)
  refine G_aload_n 14 dX3_init_13 rfl rfl rfl ?_
  refine G_new 17 (o := 18) (L' := [(17, 1), (18, 0)]) [aN, aN, aI 0, aI 0] tyX1 rfl dX3_init_14 rfl (ci := 1) (N := 4) rfl uX1 tyX1_ok cw_X3_15 is_X1 ii_X1 (fun j hj => by rcases (show j = 0 ∨ j = 1 ∨ j = 2 ∨ j = 3 by omega) with rfl | rfl | rfl | rfl <;> rfl) ⟨Nat.le_of_ble_eq_true rfl, Nat.le_of_ble_eq_true rfl⟩ (adq hAd hsz (by decide) (by decide)) (hAd.mono (by decide)) rfl (fun h3 n3 e3 => ?_)
  replace O17 := (e3 _ (by decide)).trans O17
  have O18 := n3
  replace hf : ∀ i, i ≠ 17 → i ≠ 18 → h3 i = h i := fun i g0 g1 => (e3 i g1).trans (hf i g0 g1)
  refine G_dup 18 dX3_init_17 rfl rfl ?_
  refine G_callCN 21 (L' := [(17, 1), (18, 0), (18, 1), (18, 2)]) rfl (S_X1_init _ l (c := 50) (hAd.L) (by decide) (by decide) (by decide) O18) hAO dX3_init_18 rfl kX1_init nk_X3_17 (adn hsz (by decide)) ⟨rfl, rfl⟩ ⟨Nat.le_of_ble_eq_true rfl, Nat.le_of_ble_eq_true rfl⟩ ⟨Nat.le_of_ble_eq_true rfl, Nat.le_of_ble_eq_true rfl⟩ (Nat.le_of_ble_eq_true rfl) rfl (fun h4 q4 => ?_)
  obtain ⟨n4_0, e4⟩ := q4
  replace O17 := (e4 _ (by decide)).trans O17
  replace O18 := n4_0
  replace hf : ∀ i, i ≠ 17 → i ≠ 18 → h4 i = h i := fun i g0 g1 => (e4 i g1).trans (hf i g0 g1)
  refine G_putF 24 (b' := (3, [aR 17 1, aR 18 0, aI (nI 0)], [kI 256 (fun _ => 0)])) hin dX3_init_21 rfl ff_X3_18 O17 (Nat.le_of_ble_eq_true rfl) rfl rfl rfl (fun h5 n5 e5 => ?_)
  replace O17 := n5
  replace O18 := (e5 _ (by decide)).trans O18
  replace hf : ∀ i, i ≠ 17 → i ≠ 18 → h5 i = h i := fun i g0 g1 => (e5 i g0).trans (hf i g0 g1)
  exact G_retC cg rfl dX3_init_24 rfl ⟨O17, O18, hf⟩
set_option maxHeartbeats 4000000 in
set_option maxRecDepth 100000 in
theorem S_X6_init (X : En) (l : Launch) {h : Hp} {B : Nat} (hAd : Ad X B) (O19 : h 19 = some (6, [aN], [])) : CtC X l mX6_init 19 h (B + 53) 3 28 [(20, 0), (20, 1), (20, 2)] (fun h' => h' 19 = some (seB) ∧ h' 20 = some (cB 20 y00) ∧ ∀ i, i ≠ 19 → i ≠ 20 → h' i = h i) := by
  refine CtC.intro kX6_init (fun G cg => ?_)
  have hin := cg.1
  have hsz := cg.2.1
  have hAO := cg.2.2.1
  show Ag G (enL X []) l mX6_init 0 0 0 [some (aR 19 0)] [] h
  have hf : ∀ i, i ≠ 19 → i ≠ 20 → h i = h i := fun _ _ _ => rfl
  refine G_aload_n 1 dX6_init_0 rfl rfl rfl ?_
  refine G_objInit 4 dX6_init_1 rfl lk_X6_3 ⟨Nat.le_of_ble_eq_true rfl, Nat.le_of_ble_eq_true rfl⟩ ?_
  refine G_aload_n 5 dX6_init_4 rfl rfl rfl ?_
  refine G_new 8 (o := 20) (L' := [(20, 0)]) [aN, aN, aI 0, aI 0] tyX1 rfl dX6_init_5 rfl (ci := 1) (N := 4) rfl uX1 tyX1_ok cw_X6_9 is_X1 ii_X1 (fun j hj => by rcases (show j = 0 ∨ j = 1 ∨ j = 2 ∨ j = 3 by omega) with rfl | rfl | rfl | rfl <;> rfl) ⟨Nat.le_of_ble_eq_true rfl, Nat.le_of_ble_eq_true rfl⟩ (adq hAd hsz (by decide) (by decide)) (hAd.mono (by decide)) rfl (fun h1 n1 e1 => ?_)
  replace O19 := (e1 _ (by decide)).trans O19
  have O20 := n1
  replace hf : ∀ i, i ≠ 19 → i ≠ 20 → h1 i = h i := fun i g0 g1 => (e1 i g1).trans (hf i g0 g1)
  refine G_dup 9 dX6_init_8 rfl rfl ?_
  refine G_callCN 12 (L' := [(20, 0), (20, 1), (20, 2)]) rfl (S_X1_init _ l (c := 54) (hAd.L) (by decide) (by decide) (by decide) O20) hAO dX6_init_9 rfl kX1_init nk_X6_11 (adn hsz (by decide)) ⟨rfl, rfl⟩ ⟨Nat.le_of_ble_eq_true rfl, Nat.le_of_ble_eq_true rfl⟩ ⟨Nat.le_of_ble_eq_true rfl, Nat.le_of_ble_eq_true rfl⟩ (Nat.le_of_ble_eq_true rfl) rfl (fun h2 q2 => ?_)
  obtain ⟨n2_0, e2⟩ := q2
  replace O19 := (e2 _ (by decide)).trans O19
  replace O20 := n2_0
  replace hf : ∀ i, i ≠ 19 → i ≠ 20 → h2 i = h i := fun i g0 g1 => (e2 i g1).trans (hf i g0 g1)
  refine G_putF 15 (b' := (6, [aR 20 0], [])) hin dX6_init_12 rfl ff_X6_12 O19 (Nat.le_of_ble_eq_true rfl) rfl rfl rfl (fun h3 n3 e3 => ?_)
  replace O19 := n3
  replace O20 := (e3 _ (by decide)).trans O20
  replace hf : ∀ i, i ≠ 19 → i ≠ 20 → h3 i = h i := fun i g0 g1 => (e3 i g0).trans (hf i g0 g1)
  exact G_retC cg rfl dX6_init_15 rfl ⟨O19, O20, hf⟩
set_option maxHeartbeats 4000000 in
set_option maxRecDepth 100000 in
theorem S_X4_init (X : En) (l : Launch) {h : Hp} {B : Nat} (hAd : Ad X B) (O12 : h 12 = some (4, [aN, aN, aN, aI (nI 0), aI (nI 0)], [])) : CtC X l mX4_init 12 h (B + 34) 7 176 [(12, 1), (13, 0), (13, 1), (13, 2), (14, 0), (14, 1), (14, 2)] (fun h' => h' 12 = some (leB (fun _ => 0) 0 0) ∧ h' 13 = some (wB 13 x00) ∧ h' 14 = some (cB 14 y00) ∧ ∀ i, i ≠ 12 → i ≠ 13 → i ≠ 14 → h' i = h i) := by
  refine CtC.intro kX4_init (fun G cg => ?_)
  have hin := cg.1
  have hsz := cg.2.1
  have hAO := cg.2.2.1
  show Ag G (enL X []) l mX4_init 0 0 0 [some (aR 12 0)] [] h
  have hf : ∀ i, i ≠ 12 → i ≠ 13 → i ≠ 14 → h i = h i := fun _ _ _ _ => rfl
  refine G_aload_n 1 dX4_init_0 rfl rfl rfl ?_
  refine G_objInit 4 dX4_init_1 rfl lk_X4_3 ⟨Nat.le_of_ble_eq_true rfl, Nat.le_of_ble_eq_true rfl⟩ ?_
  refine G_aload_n 5 dX4_init_4 rfl rfl rfl ?_
  refine G_bipush 7 (nI 96) dX4_init_5 rfl (by decide) ?_
  refine G_newa 9 (j := 1) (L' := [(12, 1)]) (b' := (4, [aN, aN, aN, aI (nI 0), aI (nI 0)], [kI 96 (fun _ => 0)])) (kI 96 (fun _ => 0)) rfl dX4_init_7 rfl acI O12 rfl (adq hAd hsz (by decide) (by decide)) rfl (by decide) clI (ceI 96) (by decide) ⟨Nat.le_of_ble_eq_true rfl, Nat.le_of_ble_eq_true rfl⟩ rfl rfl (fun h1 n1 e1 => ?_)
  replace O12 := n1
  replace hf : ∀ i, i ≠ 12 → i ≠ 13 → i ≠ 14 → h1 i = h i := fun i g0 g1 g2 => (e1 i g0).trans (hf i g0 g1 g2)
  refine G_putF 12 (b' := (4, [aR 12 1, aN, aN, aI (nI 0), aI (nI 0)], [kI 96 (fun _ => 0)])) hin dX4_init_9 rfl ff_X4_11 O12 (Nat.le_of_ble_eq_true rfl) rfl rfl rfl (fun h2 n2 e2 => ?_)
  replace O12 := n2
  replace hf : ∀ i, i ≠ 12 → i ≠ 13 → i ≠ 14 → h2 i = h i := fun i g0 g1 g2 => (e2 i g0).trans (hf i g0 g1 g2)
  refine G_aload_n 13 dX4_init_12 rfl rfl rfl ?_
  refine G_new 16 (o := 13) (L' := [(12, 1), (13, 0)]) [aN, aN, aI (nI 0), aI (nI 0), aI 0, aI 0] tyX8 rfl dX4_init_13 rfl (ci := 8) (N := 6) rfl uX8 tyX8_ok cw_X4_15 is_X8 ii_X8 (fun j hj => by rcases (show j = 0 ∨ j = 1 ∨ j = 2 ∨ j = 3 ∨ j = 4 ∨ j = 5 by omega) with rfl | rfl | rfl | rfl | rfl | rfl <;> rfl) ⟨Nat.le_of_ble_eq_true rfl, Nat.le_of_ble_eq_true rfl⟩ (adq hAd hsz (by decide) (by decide)) (hAd.mono (by decide)) rfl (fun h3 n3 e3 => ?_)
  replace O12 := (e3 _ (by decide)).trans O12
  have O13 := n3
  replace hf : ∀ i, i ≠ 12 → i ≠ 13 → i ≠ 14 → h3 i = h i := fun i g0 g1 g2 => (e3 i g1).trans (hf i g0 g1 g2)
  refine G_dup 17 dX4_init_16 rfl rfl ?_
  refine G_callCN 20 (L' := [(12, 1), (13, 0), (13, 1), (13, 2)]) rfl (S_X8_init _ l (c := 36) (hAd.L) (by decide) (by decide) (by decide) O13) hAO dX4_init_17 rfl kX8_init nk_X4_17 (adn hsz (by decide)) ⟨rfl, rfl⟩ ⟨Nat.le_of_ble_eq_true rfl, Nat.le_of_ble_eq_true rfl⟩ ⟨Nat.le_of_ble_eq_true rfl, Nat.le_of_ble_eq_true rfl⟩ (Nat.le_of_ble_eq_true rfl) rfl (fun h4 q4 => ?_)
  obtain ⟨n4_0, e4⟩ := q4
  replace O12 := (e4 _ (by decide)).trans O12
  replace O13 := n4_0
  replace hf : ∀ i, i ≠ 12 → i ≠ 13 → i ≠ 14 → h4 i = h i := fun i g0 g1 g2 => (e4 i g1).trans (hf i g0 g1 g2)
  refine G_putF 23 (b' := (4, [aR 12 1, aR 13 0, aN, aI (nI 0), aI (nI 0)], [kI 96 (fun _ => 0)])) hin dX4_init_20 rfl ff_X4_18 O12 (Nat.le_of_ble_eq_true rfl) rfl rfl rfl (fun h5 n5 e5 => ?_)
  replace O12 := n5
  replace O13 := (e5 _ (by decide)).trans O13
  replace hf : ∀ i, i ≠ 12 → i ≠ 13 → i ≠ 14 → h5 i = h i := fun i g0 g1 g2 => (e5 i g0).trans (hf i g0 g1 g2)
  refine G_aload_n 24 dX4_init_23 rfl rfl rfl ?_
  refine G_new 27 (o := 14) (L' := [(12, 1), (13, 0), (13, 1), (13, 2), (14, 0)]) [aN, aN, aI 0, aI 0] tyX1 rfl dX4_init_24 rfl (ci := 1) (N := 4) rfl uX1 tyX1_ok cw_X4_22 is_X1 ii_X1 (fun j hj => by rcases (show j = 0 ∨ j = 1 ∨ j = 2 ∨ j = 3 by omega) with rfl | rfl | rfl | rfl <;> rfl) ⟨Nat.le_of_ble_eq_true rfl, Nat.le_of_ble_eq_true rfl⟩ (adq hAd hsz (by decide) (by decide)) (hAd.mono (by decide)) rfl (fun h6 n6 e6 => ?_)
  replace O12 := (e6 _ (by decide)).trans O12
  replace O13 := (e6 _ (by decide)).trans O13
  have O14 := n6
  replace hf : ∀ i, i ≠ 12 → i ≠ 13 → i ≠ 14 → h6 i = h i := fun i g0 g1 g2 => (e6 i g2).trans (hf i g0 g1 g2)
  refine G_dup 28 dX4_init_27 rfl rfl ?_
  refine G_callCN 31 (L' := [(12, 1), (13, 0), (13, 1), (13, 2), (14, 0), (14, 1), (14, 2)]) rfl (S_X1_init _ l (c := 39) (hAd.L) (by decide) (by decide) (by decide) O14) hAO dX4_init_28 rfl kX1_init nk_X4_24 (adn hsz (by decide)) ⟨rfl, rfl⟩ ⟨Nat.le_of_ble_eq_true rfl, Nat.le_of_ble_eq_true rfl⟩ ⟨Nat.le_of_ble_eq_true rfl, Nat.le_of_ble_eq_true rfl⟩ (Nat.le_of_ble_eq_true rfl) rfl (fun h7 q7 => ?_)
  obtain ⟨n7_0, e7⟩ := q7
  replace O12 := (e7 _ (by decide)).trans O12
  replace O13 := (e7 _ (by decide)).trans O13
  replace O14 := n7_0
  replace hf : ∀ i, i ≠ 12 → i ≠ 13 → i ≠ 14 → h7 i = h i := fun i g0 g1 g2 => (e7 i g2).trans (hf i g0 g1 g2)
  refine G_putF 34 (b' := (4, [aR 12 1, aR 13 0, aR 14 0, aI (nI 0), aI (nI 0)], [kI 96 (fun _ => 0)])) hin dX4_init_31 rfl ff_X4_25 O12 (Nat.le_of_ble_eq_true rfl) rfl rfl rfl (fun h8 n8 e8 => ?_)
  replace O12 := n8
  replace O13 := (e8 _ (by decide)).trans O13
  replace O14 := (e8 _ (by decide)).trans O14
  replace hf : ∀ i, i ≠ 12 → i ≠ 13 → i ≠ 14 → h8 i = h i := fun i g0 g1 g2 => (e8 i g0).trans (hf i g0 g1 g2)
  exact G_retC cg rfl dX4_init_34 rfl ⟨O12, O13, O14, hf⟩
set_option maxHeartbeats 4000000 in
set_option maxRecDepth 100000 in
theorem S_X0_init (X : En) (l : Launch) {h : Hp} {B : Nat} (hAd : Ad X B) (O21 : h 21 = some (0, [aN, aN, aN], [])) : CtC X l mX0_init 21 h (B + 57) 9 108 [(22, 0), (22, 1), (22, 2), (23, 0), (23, 1), (23, 2), (24, 0), (24, 1), (24, 2)] (fun h' => h' 21 = some (alB) ∧ h' 22 = some (cB 22 y00) ∧ h' 23 = some (cB 23 y00) ∧ h' 24 = some (wB 24 x00) ∧ ∀ i, i ≠ 21 → i ≠ 22 → i ≠ 23 → i ≠ 24 → h' i = h i) := by
  refine CtC.intro kX0_init (fun G cg => ?_)
  have hin := cg.1
  have hsz := cg.2.1
  have hAO := cg.2.2.1
  show Ag G (enL X []) l mX0_init 0 0 0 [some (aR 21 0)] [] h
  have hf : ∀ i, i ≠ 21 → i ≠ 22 → i ≠ 23 → i ≠ 24 → h i = h i := fun _ _ _ _ _ => rfl
  refine G_aload_n 1 dX0_init_0 rfl rfl rfl ?_
  refine G_objInit 4 dX0_init_1 rfl lk_X0_3 ⟨Nat.le_of_ble_eq_true rfl, Nat.le_of_ble_eq_true rfl⟩ ?_
  refine G_aload_n 5 dX0_init_4 rfl rfl rfl ?_
  refine G_new 8 (o := 22) (L' := [(22, 0)]) [aN, aN, aI 0, aI 0] tyX1 rfl dX0_init_5 rfl (ci := 1) (N := 4) rfl uX1 tyX1_ok cw_X0_9 is_X1 ii_X1 (fun j hj => by rcases (show j = 0 ∨ j = 1 ∨ j = 2 ∨ j = 3 by omega) with rfl | rfl | rfl | rfl <;> rfl) ⟨Nat.le_of_ble_eq_true rfl, Nat.le_of_ble_eq_true rfl⟩ (adq hAd hsz (by decide) (by decide)) (hAd.mono (by decide)) rfl (fun h1 n1 e1 => ?_)
  replace O21 := (e1 _ (by decide)).trans O21
  have O22 := n1
  replace hf : ∀ i, i ≠ 21 → i ≠ 22 → i ≠ 23 → i ≠ 24 → h1 i = h i := fun i g0 g1 g2 g3 => (e1 i g1).trans (hf i g0 g1 g2 g3)
  refine G_dup 9 dX0_init_8 rfl rfl ?_
  refine G_callCN 12 (L' := [(22, 0), (22, 1), (22, 2)]) rfl (S_X1_init _ l (c := 58) (hAd.L) (by decide) (by decide) (by decide) O22) hAO dX0_init_9 rfl kX1_init nk_X0_11 (adn hsz (by decide)) ⟨rfl, rfl⟩ ⟨Nat.le_of_ble_eq_true rfl, Nat.le_of_ble_eq_true rfl⟩ ⟨Nat.le_of_ble_eq_true rfl, Nat.le_of_ble_eq_true rfl⟩ (Nat.le_of_ble_eq_true rfl) rfl (fun h2 q2 => ?_)
  obtain ⟨n2_0, e2⟩ := q2
  replace O21 := (e2 _ (by decide)).trans O21
  replace O22 := n2_0
  replace hf : ∀ i, i ≠ 21 → i ≠ 22 → i ≠ 23 → i ≠ 24 → h2 i = h i := fun i g0 g1 g2 g3 => (e2 i g1).trans (hf i g0 g1 g2 g3)
  refine G_putF 15 (b' := (0, [aR 22 0, aN, aN], [])) hin dX0_init_12 rfl ff_X0_12 O21 (Nat.le_of_ble_eq_true rfl) rfl rfl rfl (fun h3 n3 e3 => ?_)
  replace O21 := n3
  replace O22 := (e3 _ (by decide)).trans O22
  replace hf : ∀ i, i ≠ 21 → i ≠ 22 → i ≠ 23 → i ≠ 24 → h3 i = h i := fun i g0 g1 g2 g3 => (e3 i g0).trans (hf i g0 g1 g2 g3)
  refine G_aload_n 16 dX0_init_15 rfl rfl rfl ?_
  refine G_new 19 (o := 23) (L' := [(22, 0), (22, 1), (22, 2), (23, 0)]) [aN, aN, aI 0, aI 0] tyX1 rfl dX0_init_16 rfl (ci := 1) (N := 4) rfl uX1 tyX1_ok cw_X0_9 is_X1 ii_X1 (fun j hj => by rcases (show j = 0 ∨ j = 1 ∨ j = 2 ∨ j = 3 by omega) with rfl | rfl | rfl | rfl <;> rfl) ⟨Nat.le_of_ble_eq_true rfl, Nat.le_of_ble_eq_true rfl⟩ (adq hAd hsz (by decide) (by decide)) (hAd.mono (by decide)) rfl (fun h4 n4 e4 => ?_)
  replace O21 := (e4 _ (by decide)).trans O21
  replace O22 := (e4 _ (by decide)).trans O22
  have O23 := n4
  replace hf : ∀ i, i ≠ 21 → i ≠ 22 → i ≠ 23 → i ≠ 24 → h4 i = h i := fun i g0 g1 g2 g3 => (e4 i g2).trans (hf i g0 g1 g2 g3)
  refine G_dup 20 dX0_init_19 rfl rfl ?_
  refine G_callCN 23 (L' := [(22, 0), (22, 1), (22, 2), (23, 0), (23, 1), (23, 2)]) rfl (S_X1_init _ l (c := 61) (hAd.L) (by decide) (by decide) (by decide) O23) hAO dX0_init_20 rfl kX1_init nk_X0_11 (adn hsz (by decide)) ⟨rfl, rfl⟩ ⟨Nat.le_of_ble_eq_true rfl, Nat.le_of_ble_eq_true rfl⟩ ⟨Nat.le_of_ble_eq_true rfl, Nat.le_of_ble_eq_true rfl⟩ (Nat.le_of_ble_eq_true rfl) rfl (fun h5 q5 => ?_)
  obtain ⟨n5_0, e5⟩ := q5
  replace O21 := (e5 _ (by decide)).trans O21
  replace O22 := (e5 _ (by decide)).trans O22
  replace O23 := n5_0
  replace hf : ∀ i, i ≠ 21 → i ≠ 22 → i ≠ 23 → i ≠ 24 → h5 i = h i := fun i g0 g1 g2 g3 => (e5 i g2).trans (hf i g0 g1 g2 g3)
  refine G_putF 26 (b' := (0, [aR 22 0, aR 23 0, aN], [])) hin dX0_init_23 rfl ff_X0_18 O21 (Nat.le_of_ble_eq_true rfl) rfl rfl rfl (fun h6 n6 e6 => ?_)
  replace O21 := n6
  replace O22 := (e6 _ (by decide)).trans O22
  replace O23 := (e6 _ (by decide)).trans O23
  replace hf : ∀ i, i ≠ 21 → i ≠ 22 → i ≠ 23 → i ≠ 24 → h6 i = h i := fun i g0 g1 g2 g3 => (e6 i g0).trans (hf i g0 g1 g2 g3)
  refine G_aload_n 27 dX0_init_26 rfl rfl rfl ?_
  refine G_new 30 (o := 24) (L' := [(22, 0), (22, 1), (22, 2), (23, 0), (23, 1), (23, 2), (24, 0)]) [aN, aN, aI (nI 0), aI (nI 0), aI 0, aI 0] tyX8 rfl dX0_init_27 rfl (ci := 8) (N := 6) rfl uX8 tyX8_ok cw_X0_21 is_X8 ii_X8 (fun j hj => by rcases (show j = 0 ∨ j = 1 ∨ j = 2 ∨ j = 3 ∨ j = 4 ∨ j = 5 by omega) with rfl | rfl | rfl | rfl | rfl | rfl <;> rfl) ⟨Nat.le_of_ble_eq_true rfl, Nat.le_of_ble_eq_true rfl⟩ (adq hAd hsz (by decide) (by decide)) (hAd.mono (by decide)) rfl (fun h7 n7 e7 => ?_)
  replace O21 := (e7 _ (by decide)).trans O21
  replace O22 := (e7 _ (by decide)).trans O22
  replace O23 := (e7 _ (by decide)).trans O23
  have O24 := n7
  replace hf : ∀ i, i ≠ 21 → i ≠ 22 → i ≠ 23 → i ≠ 24 → h7 i = h i := fun i g0 g1 g2 g3 => (e7 i g3).trans (hf i g0 g1 g2 g3)
  refine G_dup 31 dX0_init_30 rfl rfl ?_
  refine G_callCN 34 (L' := [(22, 0), (22, 1), (22, 2), (23, 0), (23, 1), (23, 2), (24, 0), (24, 1), (24, 2)]) rfl (S_X8_init _ l (c := 64) (hAd.L) (by decide) (by decide) (by decide) O24) hAO dX0_init_31 rfl kX8_init nk_X0_23 (adn hsz (by decide)) ⟨rfl, rfl⟩ ⟨Nat.le_of_ble_eq_true rfl, Nat.le_of_ble_eq_true rfl⟩ ⟨Nat.le_of_ble_eq_true rfl, Nat.le_of_ble_eq_true rfl⟩ (Nat.le_of_ble_eq_true rfl) rfl (fun h8 q8 => ?_)
  obtain ⟨n8_0, e8⟩ := q8
  replace O21 := (e8 _ (by decide)).trans O21
  replace O22 := (e8 _ (by decide)).trans O22
  replace O23 := (e8 _ (by decide)).trans O23
  replace O24 := n8_0
  replace hf : ∀ i, i ≠ 21 → i ≠ 22 → i ≠ 23 → i ≠ 24 → h8 i = h i := fun i g0 g1 g2 g3 => (e8 i g3).trans (hf i g0 g1 g2 g3)
  refine G_putF 37 (b' := (0, [aR 22 0, aR 23 0, aR 24 0], [])) hin dX0_init_34 rfl ff_X0_24 O21 (Nat.le_of_ble_eq_true rfl) rfl rfl rfl (fun h9 n9 e9 => ?_)
  replace O21 := n9
  replace O22 := (e9 _ (by decide)).trans O22
  replace O23 := (e9 _ (by decide)).trans O23
  replace O24 := (e9 _ (by decide)).trans O24
  replace hf : ∀ i, i ≠ 21 → i ≠ 22 → i ≠ 23 → i ≠ 24 → h9 i = h i := fun i g0 g1 g2 g3 => (e9 i g0).trans (hf i g0 g1 g2 g3)
  exact G_retC cg rfl dX0_init_37 rfl ⟨O21, O22, O23, O24, hf⟩
set_option maxHeartbeats 4000000 in
set_option maxRecDepth 100000 in
theorem S_X2_init (X : En) (l : Launch) {h : Hp} {B : Nat} (hAd : Ad X B) (O25 : h 25 = some (2, [aN, aN, aN, aN], [])) : CtC X l mX2_init 25 h (B + 67) 8 397 [(26, 0), (26, 1), (26, 2), (27, 0), (27, 1), (27, 2), (25, 1), (25, 2)] (fun h' => h' 25 = some (foB (fun _ => 0) (fun _ => 0)) ∧ h' 26 = some (cB 26 y00) ∧ h' 27 = some (wB 27 x00) ∧ ∀ i, i ≠ 25 → i ≠ 26 → i ≠ 27 → h' i = h i) := by
  refine CtC.intro kX2_init (fun G cg => ?_)
  have hin := cg.1
  have hsz := cg.2.1
  have hAO := cg.2.2.1
  show Ag G (enL X []) l mX2_init 0 0 0 [some (aR 25 0)] [] h
  have hf : ∀ i, i ≠ 25 → i ≠ 26 → i ≠ 27 → h i = h i := fun _ _ _ _ => rfl
  refine G_aload_n 1 dX2_init_0 rfl rfl rfl ?_
  refine G_objInit 4 dX2_init_1 rfl lk_X2_3 ⟨Nat.le_of_ble_eq_true rfl, Nat.le_of_ble_eq_true rfl⟩ ?_
  refine G_aload_n 5 dX2_init_4 rfl rfl rfl ?_
  refine G_new 8 (o := 26) (L' := [(26, 0)]) [aN, aN, aI 0, aI 0] tyX1 rfl dX2_init_5 rfl (ci := 1) (N := 4) rfl uX1 tyX1_ok cw_X2_9 is_X1 ii_X1 (fun j hj => by rcases (show j = 0 ∨ j = 1 ∨ j = 2 ∨ j = 3 by omega) with rfl | rfl | rfl | rfl <;> rfl) ⟨Nat.le_of_ble_eq_true rfl, Nat.le_of_ble_eq_true rfl⟩ (adq hAd hsz (by decide) (by decide)) (hAd.mono (by decide)) rfl (fun h1 n1 e1 => ?_)
  replace O25 := (e1 _ (by decide)).trans O25
  have O26 := n1
  replace hf : ∀ i, i ≠ 25 → i ≠ 26 → i ≠ 27 → h1 i = h i := fun i g0 g1 g2 => (e1 i g1).trans (hf i g0 g1 g2)
  refine G_dup 9 dX2_init_8 rfl rfl ?_
  refine G_callCN 12 (L' := [(26, 0), (26, 1), (26, 2)]) rfl (S_X1_init _ l (c := 68) (hAd.L) (by decide) (by decide) (by decide) O26) hAO dX2_init_9 rfl kX1_init nk_X2_11 (adn hsz (by decide)) ⟨rfl, rfl⟩ ⟨Nat.le_of_ble_eq_true rfl, Nat.le_of_ble_eq_true rfl⟩ ⟨Nat.le_of_ble_eq_true rfl, Nat.le_of_ble_eq_true rfl⟩ (Nat.le_of_ble_eq_true rfl) rfl (fun h2 q2 => ?_)
  obtain ⟨n2_0, e2⟩ := q2
  replace O25 := (e2 _ (by decide)).trans O25
  replace O26 := n2_0
  replace hf : ∀ i, i ≠ 25 → i ≠ 26 → i ≠ 27 → h2 i = h i := fun i g0 g1 g2 => (e2 i g1).trans (hf i g0 g1 g2)
  refine G_putF 15 (b' := (2, [aR 26 0, aN, aN, aN], [])) hin dX2_init_12 rfl ff_X2_12 O25 (Nat.le_of_ble_eq_true rfl) rfl rfl rfl (fun h3 n3 e3 => ?_)
  replace O25 := n3
  replace O26 := (e3 _ (by decide)).trans O26
  replace hf : ∀ i, i ≠ 25 → i ≠ 26 → i ≠ 27 → h3 i = h i := fun i g0 g1 g2 => (e3 i g0).trans (hf i g0 g1 g2)
  refine G_aload_n 16 dX2_init_15 rfl rfl rfl ?_
  refine G_new 19 (o := 27) (L' := [(26, 0), (26, 1), (26, 2), (27, 0)]) [aN, aN, aI (nI 0), aI (nI 0), aI 0, aI 0] tyX8 rfl dX2_init_16 rfl (ci := 8) (N := 6) rfl uX8 tyX8_ok cw_X2_18 is_X8 ii_X8 (fun j hj => by rcases (show j = 0 ∨ j = 1 ∨ j = 2 ∨ j = 3 ∨ j = 4 ∨ j = 5 by omega) with rfl | rfl | rfl | rfl | rfl | rfl <;> rfl) ⟨Nat.le_of_ble_eq_true rfl, Nat.le_of_ble_eq_true rfl⟩ (adq hAd hsz (by decide) (by decide)) (hAd.mono (by decide)) rfl (fun h4 n4 e4 => ?_)
  replace O25 := (e4 _ (by decide)).trans O25
  replace O26 := (e4 _ (by decide)).trans O26
  have O27 := n4
  replace hf : ∀ i, i ≠ 25 → i ≠ 26 → i ≠ 27 → h4 i = h i := fun i g0 g1 g2 => (e4 i g2).trans (hf i g0 g1 g2)
  refine G_dup 20 dX2_init_19 rfl rfl ?_
  refine G_callCN 23 (L' := [(26, 0), (26, 1), (26, 2), (27, 0), (27, 1), (27, 2)]) rfl (S_X8_init _ l (c := 71) (hAd.L) (by decide) (by decide) (by decide) O27) hAO dX2_init_20 rfl kX8_init nk_X2_20 (adn hsz (by decide)) ⟨rfl, rfl⟩ ⟨Nat.le_of_ble_eq_true rfl, Nat.le_of_ble_eq_true rfl⟩ ⟨Nat.le_of_ble_eq_true rfl, Nat.le_of_ble_eq_true rfl⟩ (Nat.le_of_ble_eq_true rfl) rfl (fun h5 q5 => ?_)
  obtain ⟨n5_0, e5⟩ := q5
  replace O25 := (e5 _ (by decide)).trans O25
  replace O26 := (e5 _ (by decide)).trans O26
  replace O27 := n5_0
  replace hf : ∀ i, i ≠ 25 → i ≠ 26 → i ≠ 27 → h5 i = h i := fun i g0 g1 g2 => (e5 i g2).trans (hf i g0 g1 g2)
  refine G_putF 26 (b' := (2, [aR 26 0, aR 27 0, aN, aN], [])) hin dX2_init_23 rfl ff_X2_21 O25 (Nat.le_of_ble_eq_true rfl) rfl rfl rfl (fun h6 n6 e6 => ?_)
  replace O25 := n6
  replace O26 := (e6 _ (by decide)).trans O26
  replace O27 := (e6 _ (by decide)).trans O27
  replace hf : ∀ i, i ≠ 25 → i ≠ 26 → i ≠ 27 → h6 i = h i := fun i g0 g1 g2 => (e6 i g0).trans (hf i g0 g1 g2)
  refine G_aload_n 27 dX2_init_26 rfl rfl rfl ?_
  refine G_bipush 29 (nI 61) dX2_init_27 rfl (by decide) ?_
  refine G_newa 31 (j := 1) (L' := [(26, 0), (26, 1), (26, 2), (27, 0), (27, 1), (27, 2), (25, 1)]) (b' := (2, [aR 26 0, aR 27 0, aN, aN], [kJ 61 (fun _ => 0)])) (kJ 61 (fun _ => 0)) rfl dX2_init_29 rfl acJ O25 rfl (adq hAd hsz (by decide) (by decide)) rfl (by decide) clJ (ceJ 61) (by decide) ⟨Nat.le_of_ble_eq_true rfl, Nat.le_of_ble_eq_true rfl⟩ rfl rfl (fun h7 n7 e7 => ?_)
  replace O25 := n7
  replace O26 := (e7 _ (by decide)).trans O26
  replace O27 := (e7 _ (by decide)).trans O27
  replace hf : ∀ i, i ≠ 25 → i ≠ 26 → i ≠ 27 → h7 i = h i := fun i g0 g1 g2 => (e7 i g0).trans (hf i g0 g1 g2)
  refine G_putF 34 (b' := (2, [aR 26 0, aR 27 0, aR 25 1, aN], [kJ 61 (fun _ => 0)])) hin dX2_init_31 rfl ff_X2_25 O25 (Nat.le_of_ble_eq_true rfl) rfl rfl rfl (fun h8 n8 e8 => ?_)
  replace O25 := n8
  replace O26 := (e8 _ (by decide)).trans O26
  replace O27 := (e8 _ (by decide)).trans O27
  replace hf : ∀ i, i ≠ 25 → i ≠ 26 → i ≠ 27 → h8 i = h i := fun i g0 g1 g2 => (e8 i g0).trans (hf i g0 g1 g2)
  refine G_aload_n 35 dX2_init_34 rfl rfl rfl ?_
  refine G_sipush 38 (nI 256) dX2_init_35 rfl (by decide) ?_
  refine G_newa 40 (j := 2) (L' := [(26, 0), (26, 1), (26, 2), (27, 0), (27, 1), (27, 2), (25, 1), (25, 2)]) (b' := (2, [aR 26 0, aR 27 0, aR 25 1, aN], [kJ 61 (fun _ => 0), kI 256 (fun _ => 0)])) (kI 256 (fun _ => 0)) rfl dX2_init_38 rfl acI O25 rfl (adq hAd hsz (by decide) (by decide)) rfl (by decide) clI (ceI 256) (by decide) ⟨Nat.le_of_ble_eq_true rfl, Nat.le_of_ble_eq_true rfl⟩ rfl rfl (fun h9 n9 e9 => ?_)
  replace O25 := n9
  replace O26 := (e9 _ (by decide)).trans O26
  replace O27 := (e9 _ (by decide)).trans O27
  replace hf : ∀ i, i ≠ 25 → i ≠ 26 → i ≠ 27 → h9 i = h i := fun i g0 g1 g2 => (e9 i g0).trans (hf i g0 g1 g2)
  refine G_putF 43 (b' := (2, [aR 26 0, aR 27 0, aR 25 1, aR 25 2], [kJ 61 (fun _ => 0), kI 256 (fun _ => 0)])) hin dX2_init_40 rfl ff_X2_29 O25 (Nat.le_of_ble_eq_true rfl) rfl rfl rfl (fun h10 n10 e10 => ?_)
  replace O25 := n10
  replace O26 := (e10 _ (by decide)).trans O26
  replace O27 := (e10 _ (by decide)).trans O27
  replace hf : ∀ i, i ≠ 25 → i ≠ 26 → i ≠ 27 → h10 i = h i := fun i g0 g1 g2 => (e10 i g0).trans (hf i g0 g1 g2)
  exact G_retC cg rfl dX2_init_43 rfl ⟨O25, O26, O27, hf⟩
set_option maxHeartbeats 4000000 in
set_option maxRecDepth 100000 in
theorem S_X5_init (X : En) (l : Launch) {h : Hp} {B : Nat} (hAd : Ad X B) (O3 : h 3 = some (5, [aN, aI (nI 0), aI (nI 0)], [])) : CtC X l mX5_init 3 h (B + 8) 25 424 [(3, 1), (4, 0), (4, 1), (4, 2), (5, 0), (5, 1), (5, 2), (6, 0), (6, 1), (6, 2), (7, 0), (7, 1), (7, 2), (8, 0), (8, 1), (8, 2), (9, 0), (9, 1), (9, 2), (10, 0), (10, 1), (10, 2), (11, 0), (11, 1), (11, 2)] (fun h' => h' 3 = some (paB 0 0) ∧ h' 4 = some (wB 4 x00) ∧ h' 5 = some (wB 5 x00) ∧ h' 6 = some (wB 6 x00) ∧ h' 7 = some (wB 7 x00) ∧ h' 8 = some (wB 8 x00) ∧ h' 9 = some (wB 9 x00) ∧ h' 10 = some (wB 10 x00) ∧ h' 11 = some (wB 11 x00) ∧ ∀ i, i ≠ 3 → i ≠ 4 → i ≠ 5 → i ≠ 6 → i ≠ 7 → i ≠ 8 → i ≠ 9 → i ≠ 10 → i ≠ 11 → h' i = h i) := by
  refine CtC.intro kX5_init (fun G cg => ?_)
  have hin := cg.1
  have hsz := cg.2.1
  have hAO := cg.2.2.1
  show Ag G (enL X []) l mX5_init 0 0 0 [some (aR 3 0), none] [] h
  have hf : ∀ i, i ≠ 3 → i ≠ 4 → i ≠ 5 → i ≠ 6 → i ≠ 7 → i ≠ 8 → i ≠ 9 → i ≠ 10 → i ≠ 11 → h i = h i := fun _ _ _ _ _ _ _ _ _ _ => rfl
  refine G_aload_n 1 dX5_init_0 rfl rfl rfl ?_
  refine G_objInit 4 dX5_init_1 rfl lk_X5_1 ⟨Nat.le_of_ble_eq_true rfl, Nat.le_of_ble_eq_true rfl⟩ ?_
  refine G_aload_n 5 dX5_init_4 rfl rfl rfl ?_
  refine G_bipush 7 (nI 8) dX5_init_5 rfl (by decide) ?_
  refine G_newq 10 (n := 8) (j := 1) (L' := [(3, 1)]) (b' := (5, [aN, aI (nI 0), aI (nI 0)], [kQ 8 (fun _ => none)])) rfl hAO dX5_init_7 rfl cw_X5_9 O3 rfl (adq hAd hsz (by decide) (by decide)) rfl (by decide) (by decide) ⟨Nat.le_of_ble_eq_true rfl, Nat.le_of_ble_eq_true rfl⟩ rfl rfl (fun h1 n1 e1 => ?_)
  replace O3 := n1
  replace hf : ∀ i, i ≠ 3 → i ≠ 4 → i ≠ 5 → i ≠ 6 → i ≠ 7 → i ≠ 8 → i ≠ 9 → i ≠ 10 → i ≠ 11 → h1 i = h i := fun i g0 g1 g2 g3 g4 g5 g6 g7 g8 => (e1 i g0).trans (hf i g0 g1 g2 g3 g4 g5 g6 g7 g8)
  refine G_putF 13 (b' := (5, [aR 3 1, aI (nI 0), aI (nI 0)], [kQ 8 (fun _ => none)])) hin dX5_init_10 rfl ff_X5_11 O3 (Nat.le_of_ble_eq_true rfl) rfl rfl rfl (fun h2 n2 e2 => ?_)
  replace O3 := n2
  replace hf : ∀ i, i ≠ 3 → i ≠ 4 → i ≠ 5 → i ≠ 6 → i ≠ 7 → i ≠ 8 → i ≠ 9 → i ≠ 10 → i ≠ 11 → h2 i = h i := fun i g0 g1 g2 g3 g4 g5 g6 g7 g8 => (e2 i g0).trans (hf i g0 g1 g2 g3 g4 g5 g6 g7 g8)
  refine G_iconst 14 (nI 0) dX5_init_13 rfl (by decide) ?_
  refine G_istore_n 15 dX5_init_14 rfl rfl (by decide) (ast_1 rfl) ?_
  refine G_iload_n 16 dX5_init_15 rfl rfl rfl ?_
  refine G_aload_n 17 dX5_init_16 rfl rfl rfl ?_
  refine G_getfield 20 dX5_init_17 rfl f_X5_11 O3 rfl ?_
  refine G_arraylength 21 dX5_init_20 rfl O3 rfl (by decide) rfl ?_
  refine G_icmp_ge 43 24 dX5_init_21 (by decide) rfl (fun z => absurd z (by decide)) (fun _ => ?_)
  refine G_aload_n 25 dX5_init_24 rfl rfl rfl ?_
  refine G_getfield 28 dX5_init_25 rfl f_X5_11 O3 rfl ?_
  refine G_iload_n 29 dX5_init_28 rfl rfl rfl ?_
  refine G_new 32 (o := 4) (L' := [(3, 1), (4, 0)]) [aN, aN, aI (nI 0), aI (nI 0), aI 0, aI 0] tyX8 rfl dX5_init_29 rfl (ci := 8) (N := 6) rfl uX8 tyX8_ok cw_X5_9 is_X8 ii_X8 (fun j hj => by rcases (show j = 0 ∨ j = 1 ∨ j = 2 ∨ j = 3 ∨ j = 4 ∨ j = 5 by omega) with rfl | rfl | rfl | rfl | rfl | rfl <;> rfl) ⟨Nat.le_of_ble_eq_true rfl, Nat.le_of_ble_eq_true rfl⟩ (adq hAd hsz (by decide) (by decide)) (hAd.mono (by decide)) rfl (fun h3 n3 e3 => ?_)
  replace O3 := (e3 _ (by decide)).trans O3
  have O4 := n3
  replace hf : ∀ i, i ≠ 3 → i ≠ 4 → i ≠ 5 → i ≠ 6 → i ≠ 7 → i ≠ 8 → i ≠ 9 → i ≠ 10 → i ≠ 11 → h3 i = h i := fun i g0 g1 g2 g3 g4 g5 g6 g7 g8 => (e3 i g1).trans (hf i g0 g1 g2 g3 g4 g5 g6 g7 g8)
  refine G_dup 33 dX5_init_32 rfl rfl ?_
  refine G_callCN 36 (L' := [(3, 1), (4, 0), (4, 1), (4, 2)]) rfl (S_X8_init _ l (c := 10) (hAd.L) (by decide) (by decide) (by decide) O4) hAO dX5_init_33 rfl kX8_init nk_X5_15 (adn hsz (by decide)) ⟨rfl, rfl⟩ ⟨Nat.le_of_ble_eq_true rfl, Nat.le_of_ble_eq_true rfl⟩ ⟨Nat.le_of_ble_eq_true rfl, Nat.le_of_ble_eq_true rfl⟩ (Nat.le_of_ble_eq_true rfl) rfl (fun h4 q4 => ?_)
  obtain ⟨n4_0, e4⟩ := q4
  replace O3 := (e4 _ (by decide)).trans O3
  replace O4 := n4_0
  replace hf : ∀ i, i ≠ 3 → i ≠ 4 → i ≠ 5 → i ≠ 6 → i ≠ 7 → i ≠ 8 → i ≠ 9 → i ≠ 10 → i ≠ 11 → h4 i = h i := fun i g0 g1 g2 g3 g4 g5 g6 g7 g8 => (e4 i g1).trans (hf i g0 g1 g2 g3 g4 g5 g6 g7 g8)
  refine G_aastore 37 (b' := (5, [aR 3 1, aI (nI 0), aI (nI 0)], [kQ 8 (va_up (fun _ => none) 0 (some (4, 0)))])) dX5_init_36 rfl O3 rfl (ix_nI (by decide) (by decide)) O4 rfl rfl (fun h5 n5 e5 => ?_)
  replace O3 := n5
  replace O4 := (e5 _ (by decide)).trans O4
  replace hf : ∀ i, i ≠ 3 → i ≠ 4 → i ≠ 5 → i ≠ 6 → i ≠ 7 → i ≠ 8 → i ≠ 9 → i ≠ 10 → i ≠ 11 → h5 i = h i := fun i g0 g1 g2 g3 g4 g5 g6 g7 g8 => (e5 i g0).trans (hf i g0 g1 g2 g3 g4 g5 g6 g7 g8)
  refine G_iincN 40 (k := 0) dX5_init_37 rfl rfl (by decide) (ast_1 rfl) ?_
  refine G_goto 15 dX5_init_40 (by decide) ?_
  refine G_iload_n 16 dX5_init_15 rfl rfl rfl ?_
  refine G_aload_n 17 dX5_init_16 rfl rfl rfl ?_
  refine G_getfield 20 dX5_init_17 rfl f_X5_11 O3 rfl ?_
  refine G_arraylength 21 dX5_init_20 rfl O3 rfl (by decide) rfl ?_
  refine G_icmp_ge 43 24 dX5_init_21 (by decide) rfl (fun z => absurd z (by decide)) (fun _ => ?_)
  refine G_aload_n 25 dX5_init_24 rfl rfl rfl ?_
  refine G_getfield 28 dX5_init_25 rfl f_X5_11 O3 rfl ?_
  refine G_iload_n 29 dX5_init_28 rfl rfl rfl ?_
  refine G_new 32 (o := 5) (L' := [(3, 1), (4, 0), (4, 1), (4, 2), (5, 0)]) [aN, aN, aI (nI 0), aI (nI 0), aI 0, aI 0] tyX8 rfl dX5_init_29 rfl (ci := 8) (N := 6) rfl uX8 tyX8_ok cw_X5_9 is_X8 ii_X8 (fun j hj => by rcases (show j = 0 ∨ j = 1 ∨ j = 2 ∨ j = 3 ∨ j = 4 ∨ j = 5 by omega) with rfl | rfl | rfl | rfl | rfl | rfl <;> rfl) ⟨Nat.le_of_ble_eq_true rfl, Nat.le_of_ble_eq_true rfl⟩ (adq hAd hsz (by decide) (by decide)) (hAd.mono (by decide)) rfl (fun h6 n6 e6 => ?_)
  replace O3 := (e6 _ (by decide)).trans O3
  replace O4 := (e6 _ (by decide)).trans O4
  have O5 := n6
  replace hf : ∀ i, i ≠ 3 → i ≠ 4 → i ≠ 5 → i ≠ 6 → i ≠ 7 → i ≠ 8 → i ≠ 9 → i ≠ 10 → i ≠ 11 → h6 i = h i := fun i g0 g1 g2 g3 g4 g5 g6 g7 g8 => (e6 i g2).trans (hf i g0 g1 g2 g3 g4 g5 g6 g7 g8)
  refine G_dup 33 dX5_init_32 rfl rfl ?_
  refine G_callCN 36 (L' := [(3, 1), (4, 0), (4, 1), (4, 2), (5, 0), (5, 1), (5, 2)]) rfl (S_X8_init _ l (c := 13) (hAd.L) (by decide) (by decide) (by decide) O5) hAO dX5_init_33 rfl kX8_init nk_X5_15 (adn hsz (by decide)) ⟨rfl, rfl⟩ ⟨Nat.le_of_ble_eq_true rfl, Nat.le_of_ble_eq_true rfl⟩ ⟨Nat.le_of_ble_eq_true rfl, Nat.le_of_ble_eq_true rfl⟩ (Nat.le_of_ble_eq_true rfl) rfl (fun h7 q7 => ?_)
  obtain ⟨n7_0, e7⟩ := q7
  replace O3 := (e7 _ (by decide)).trans O3
  replace O4 := (e7 _ (by decide)).trans O4
  replace O5 := n7_0
  replace hf : ∀ i, i ≠ 3 → i ≠ 4 → i ≠ 5 → i ≠ 6 → i ≠ 7 → i ≠ 8 → i ≠ 9 → i ≠ 10 → i ≠ 11 → h7 i = h i := fun i g0 g1 g2 g3 g4 g5 g6 g7 g8 => (e7 i g2).trans (hf i g0 g1 g2 g3 g4 g5 g6 g7 g8)
  refine G_aastore 37 (b' := (5, [aR 3 1, aI (nI 0), aI (nI 0)], [kQ 8 (va_up (va_up (fun _ => none) 0 (some (4, 0))) 1 (some (5, 0)))])) dX5_init_36 rfl O3 rfl (ix_nI (by decide) (by decide)) O5 rfl rfl (fun h8 n8 e8 => ?_)
  replace O3 := n8
  replace O4 := (e8 _ (by decide)).trans O4
  replace O5 := (e8 _ (by decide)).trans O5
  replace hf : ∀ i, i ≠ 3 → i ≠ 4 → i ≠ 5 → i ≠ 6 → i ≠ 7 → i ≠ 8 → i ≠ 9 → i ≠ 10 → i ≠ 11 → h8 i = h i := fun i g0 g1 g2 g3 g4 g5 g6 g7 g8 => (e8 i g0).trans (hf i g0 g1 g2 g3 g4 g5 g6 g7 g8)
  refine G_iincN 40 (k := 1) dX5_init_37 rfl rfl (by decide) (ast_1 rfl) ?_
  refine G_goto 15 dX5_init_40 (by decide) ?_
  refine G_iload_n 16 dX5_init_15 rfl rfl rfl ?_
  refine G_aload_n 17 dX5_init_16 rfl rfl rfl ?_
  refine G_getfield 20 dX5_init_17 rfl f_X5_11 O3 rfl ?_
  refine G_arraylength 21 dX5_init_20 rfl O3 rfl (by decide) rfl ?_
  refine G_icmp_ge 43 24 dX5_init_21 (by decide) rfl (fun z => absurd z (by decide)) (fun _ => ?_)
  refine G_aload_n 25 dX5_init_24 rfl rfl rfl ?_
  refine G_getfield 28 dX5_init_25 rfl f_X5_11 O3 rfl ?_
  refine G_iload_n 29 dX5_init_28 rfl rfl rfl ?_
  refine G_new 32 (o := 6) (L' := [(3, 1), (4, 0), (4, 1), (4, 2), (5, 0), (5, 1), (5, 2), (6, 0)]) [aN, aN, aI (nI 0), aI (nI 0), aI 0, aI 0] tyX8 rfl dX5_init_29 rfl (ci := 8) (N := 6) rfl uX8 tyX8_ok cw_X5_9 is_X8 ii_X8 (fun j hj => by rcases (show j = 0 ∨ j = 1 ∨ j = 2 ∨ j = 3 ∨ j = 4 ∨ j = 5 by omega) with rfl | rfl | rfl | rfl | rfl | rfl <;> rfl) ⟨Nat.le_of_ble_eq_true rfl, Nat.le_of_ble_eq_true rfl⟩ (adq hAd hsz (by decide) (by decide)) (hAd.mono (by decide)) rfl (fun h9 n9 e9 => ?_)
  replace O3 := (e9 _ (by decide)).trans O3
  replace O4 := (e9 _ (by decide)).trans O4
  replace O5 := (e9 _ (by decide)).trans O5
  have O6 := n9
  replace hf : ∀ i, i ≠ 3 → i ≠ 4 → i ≠ 5 → i ≠ 6 → i ≠ 7 → i ≠ 8 → i ≠ 9 → i ≠ 10 → i ≠ 11 → h9 i = h i := fun i g0 g1 g2 g3 g4 g5 g6 g7 g8 => (e9 i g3).trans (hf i g0 g1 g2 g3 g4 g5 g6 g7 g8)
  refine G_dup 33 dX5_init_32 rfl rfl ?_
  refine G_callCN 36 (L' := [(3, 1), (4, 0), (4, 1), (4, 2), (5, 0), (5, 1), (5, 2), (6, 0), (6, 1), (6, 2)]) rfl (S_X8_init _ l (c := 16) (hAd.L) (by decide) (by decide) (by decide) O6) hAO dX5_init_33 rfl kX8_init nk_X5_15 (adn hsz (by decide)) ⟨rfl, rfl⟩ ⟨Nat.le_of_ble_eq_true rfl, Nat.le_of_ble_eq_true rfl⟩ ⟨Nat.le_of_ble_eq_true rfl, Nat.le_of_ble_eq_true rfl⟩ (Nat.le_of_ble_eq_true rfl) rfl (fun h10 q10 => ?_)
  obtain ⟨n10_0, e10⟩ := q10
  replace O3 := (e10 _ (by decide)).trans O3
  replace O4 := (e10 _ (by decide)).trans O4
  replace O5 := (e10 _ (by decide)).trans O5
  replace O6 := n10_0
  replace hf : ∀ i, i ≠ 3 → i ≠ 4 → i ≠ 5 → i ≠ 6 → i ≠ 7 → i ≠ 8 → i ≠ 9 → i ≠ 10 → i ≠ 11 → h10 i = h i := fun i g0 g1 g2 g3 g4 g5 g6 g7 g8 => (e10 i g3).trans (hf i g0 g1 g2 g3 g4 g5 g6 g7 g8)
  refine G_aastore 37 (b' := (5, [aR 3 1, aI (nI 0), aI (nI 0)], [kQ 8 (va_up (va_up (va_up (fun _ => none) 0 (some (4, 0))) 1 (some (5, 0))) 2 (some (6, 0)))])) dX5_init_36 rfl O3 rfl (ix_nI (by decide) (by decide)) O6 rfl rfl (fun h11 n11 e11 => ?_)
  replace O3 := n11
  replace O4 := (e11 _ (by decide)).trans O4
  replace O5 := (e11 _ (by decide)).trans O5
  replace O6 := (e11 _ (by decide)).trans O6
  replace hf : ∀ i, i ≠ 3 → i ≠ 4 → i ≠ 5 → i ≠ 6 → i ≠ 7 → i ≠ 8 → i ≠ 9 → i ≠ 10 → i ≠ 11 → h11 i = h i := fun i g0 g1 g2 g3 g4 g5 g6 g7 g8 => (e11 i g0).trans (hf i g0 g1 g2 g3 g4 g5 g6 g7 g8)
  refine G_iincN 40 (k := 2) dX5_init_37 rfl rfl (by decide) (ast_1 rfl) ?_
  refine G_goto 15 dX5_init_40 (by decide) ?_
  refine G_iload_n 16 dX5_init_15 rfl rfl rfl ?_
  refine G_aload_n 17 dX5_init_16 rfl rfl rfl ?_
  refine G_getfield 20 dX5_init_17 rfl f_X5_11 O3 rfl ?_
  refine G_arraylength 21 dX5_init_20 rfl O3 rfl (by decide) rfl ?_
  refine G_icmp_ge 43 24 dX5_init_21 (by decide) rfl (fun z => absurd z (by decide)) (fun _ => ?_)
  refine G_aload_n 25 dX5_init_24 rfl rfl rfl ?_
  refine G_getfield 28 dX5_init_25 rfl f_X5_11 O3 rfl ?_
  refine G_iload_n 29 dX5_init_28 rfl rfl rfl ?_
  refine G_new 32 (o := 7) (L' := [(3, 1), (4, 0), (4, 1), (4, 2), (5, 0), (5, 1), (5, 2), (6, 0), (6, 1), (6, 2), (7, 0)]) [aN, aN, aI (nI 0), aI (nI 0), aI 0, aI 0] tyX8 rfl dX5_init_29 rfl (ci := 8) (N := 6) rfl uX8 tyX8_ok cw_X5_9 is_X8 ii_X8 (fun j hj => by rcases (show j = 0 ∨ j = 1 ∨ j = 2 ∨ j = 3 ∨ j = 4 ∨ j = 5 by omega) with rfl | rfl | rfl | rfl | rfl | rfl <;> rfl) ⟨Nat.le_of_ble_eq_true rfl, Nat.le_of_ble_eq_true rfl⟩ (adq hAd hsz (by decide) (by decide)) (hAd.mono (by decide)) rfl (fun h12 n12 e12 => ?_)
  replace O3 := (e12 _ (by decide)).trans O3
  replace O4 := (e12 _ (by decide)).trans O4
  replace O5 := (e12 _ (by decide)).trans O5
  replace O6 := (e12 _ (by decide)).trans O6
  have O7 := n12
  replace hf : ∀ i, i ≠ 3 → i ≠ 4 → i ≠ 5 → i ≠ 6 → i ≠ 7 → i ≠ 8 → i ≠ 9 → i ≠ 10 → i ≠ 11 → h12 i = h i := fun i g0 g1 g2 g3 g4 g5 g6 g7 g8 => (e12 i g4).trans (hf i g0 g1 g2 g3 g4 g5 g6 g7 g8)
  refine G_dup 33 dX5_init_32 rfl rfl ?_
  refine G_callCN 36 (L' := [(3, 1), (4, 0), (4, 1), (4, 2), (5, 0), (5, 1), (5, 2), (6, 0), (6, 1), (6, 2), (7, 0), (7, 1), (7, 2)]) rfl (S_X8_init _ l (c := 19) (hAd.L) (by decide) (by decide) (by decide) O7) hAO dX5_init_33 rfl kX8_init nk_X5_15 (adn hsz (by decide)) ⟨rfl, rfl⟩ ⟨Nat.le_of_ble_eq_true rfl, Nat.le_of_ble_eq_true rfl⟩ ⟨Nat.le_of_ble_eq_true rfl, Nat.le_of_ble_eq_true rfl⟩ (Nat.le_of_ble_eq_true rfl) rfl (fun h13 q13 => ?_)
  obtain ⟨n13_0, e13⟩ := q13
  replace O3 := (e13 _ (by decide)).trans O3
  replace O4 := (e13 _ (by decide)).trans O4
  replace O5 := (e13 _ (by decide)).trans O5
  replace O6 := (e13 _ (by decide)).trans O6
  replace O7 := n13_0
  replace hf : ∀ i, i ≠ 3 → i ≠ 4 → i ≠ 5 → i ≠ 6 → i ≠ 7 → i ≠ 8 → i ≠ 9 → i ≠ 10 → i ≠ 11 → h13 i = h i := fun i g0 g1 g2 g3 g4 g5 g6 g7 g8 => (e13 i g4).trans (hf i g0 g1 g2 g3 g4 g5 g6 g7 g8)
  refine G_aastore 37 (b' := (5, [aR 3 1, aI (nI 0), aI (nI 0)], [kQ 8 (va_up (va_up (va_up (va_up (fun _ => none) 0 (some (4, 0))) 1 (some (5, 0))) 2 (some (6, 0))) 3 (some (7, 0)))])) dX5_init_36 rfl O3 rfl (ix_nI (by decide) (by decide)) O7 rfl rfl (fun h14 n14 e14 => ?_)
  replace O3 := n14
  replace O4 := (e14 _ (by decide)).trans O4
  replace O5 := (e14 _ (by decide)).trans O5
  replace O6 := (e14 _ (by decide)).trans O6
  replace O7 := (e14 _ (by decide)).trans O7
  replace hf : ∀ i, i ≠ 3 → i ≠ 4 → i ≠ 5 → i ≠ 6 → i ≠ 7 → i ≠ 8 → i ≠ 9 → i ≠ 10 → i ≠ 11 → h14 i = h i := fun i g0 g1 g2 g3 g4 g5 g6 g7 g8 => (e14 i g0).trans (hf i g0 g1 g2 g3 g4 g5 g6 g7 g8)
  refine G_iincN 40 (k := 3) dX5_init_37 rfl rfl (by decide) (ast_1 rfl) ?_
  refine G_goto 15 dX5_init_40 (by decide) ?_
  refine G_iload_n 16 dX5_init_15 rfl rfl rfl ?_
  refine G_aload_n 17 dX5_init_16 rfl rfl rfl ?_
  refine G_getfield 20 dX5_init_17 rfl f_X5_11 O3 rfl ?_
  refine G_arraylength 21 dX5_init_20 rfl O3 rfl (by decide) rfl ?_
  refine G_icmp_ge 43 24 dX5_init_21 (by decide) rfl (fun z => absurd z (by decide)) (fun _ => ?_)
  refine G_aload_n 25 dX5_init_24 rfl rfl rfl ?_
  refine G_getfield 28 dX5_init_25 rfl f_X5_11 O3 rfl ?_
  refine G_iload_n 29 dX5_init_28 rfl rfl rfl ?_
  refine G_new 32 (o := 8) (L' := [(3, 1), (4, 0), (4, 1), (4, 2), (5, 0), (5, 1), (5, 2), (6, 0), (6, 1), (6, 2), (7, 0), (7, 1), (7, 2), (8, 0)]) [aN, aN, aI (nI 0), aI (nI 0), aI 0, aI 0] tyX8 rfl dX5_init_29 rfl (ci := 8) (N := 6) rfl uX8 tyX8_ok cw_X5_9 is_X8 ii_X8 (fun j hj => by rcases (show j = 0 ∨ j = 1 ∨ j = 2 ∨ j = 3 ∨ j = 4 ∨ j = 5 by omega) with rfl | rfl | rfl | rfl | rfl | rfl <;> rfl) ⟨Nat.le_of_ble_eq_true rfl, Nat.le_of_ble_eq_true rfl⟩ (adq hAd hsz (by decide) (by decide)) (hAd.mono (by decide)) rfl (fun h15 n15 e15 => ?_)
  replace O3 := (e15 _ (by decide)).trans O3
  replace O4 := (e15 _ (by decide)).trans O4
  replace O5 := (e15 _ (by decide)).trans O5
  replace O6 := (e15 _ (by decide)).trans O6
  replace O7 := (e15 _ (by decide)).trans O7
  have O8 := n15
  replace hf : ∀ i, i ≠ 3 → i ≠ 4 → i ≠ 5 → i ≠ 6 → i ≠ 7 → i ≠ 8 → i ≠ 9 → i ≠ 10 → i ≠ 11 → h15 i = h i := fun i g0 g1 g2 g3 g4 g5 g6 g7 g8 => (e15 i g5).trans (hf i g0 g1 g2 g3 g4 g5 g6 g7 g8)
  refine G_dup 33 dX5_init_32 rfl rfl ?_
  refine G_callCN 36 (L' := [(3, 1), (4, 0), (4, 1), (4, 2), (5, 0), (5, 1), (5, 2), (6, 0), (6, 1), (6, 2), (7, 0), (7, 1), (7, 2), (8, 0), (8, 1), (8, 2)]) rfl (S_X8_init _ l (c := 22) (hAd.L) (by decide) (by decide) (by decide) O8) hAO dX5_init_33 rfl kX8_init nk_X5_15 (adn hsz (by decide)) ⟨rfl, rfl⟩ ⟨Nat.le_of_ble_eq_true rfl, Nat.le_of_ble_eq_true rfl⟩ ⟨Nat.le_of_ble_eq_true rfl, Nat.le_of_ble_eq_true rfl⟩ (Nat.le_of_ble_eq_true rfl) rfl (fun h16 q16 => ?_)
  obtain ⟨n16_0, e16⟩ := q16
  replace O3 := (e16 _ (by decide)).trans O3
  replace O4 := (e16 _ (by decide)).trans O4
  replace O5 := (e16 _ (by decide)).trans O5
  replace O6 := (e16 _ (by decide)).trans O6
  replace O7 := (e16 _ (by decide)).trans O7
  replace O8 := n16_0
  replace hf : ∀ i, i ≠ 3 → i ≠ 4 → i ≠ 5 → i ≠ 6 → i ≠ 7 → i ≠ 8 → i ≠ 9 → i ≠ 10 → i ≠ 11 → h16 i = h i := fun i g0 g1 g2 g3 g4 g5 g6 g7 g8 => (e16 i g5).trans (hf i g0 g1 g2 g3 g4 g5 g6 g7 g8)
  refine G_aastore 37 (b' := (5, [aR 3 1, aI (nI 0), aI (nI 0)], [kQ 8 (va_up (va_up (va_up (va_up (va_up (fun _ => none) 0 (some (4, 0))) 1 (some (5, 0))) 2 (some (6, 0))) 3 (some (7, 0))) 4 (some (8, 0)))])) dX5_init_36 rfl O3 rfl (ix_nI (by decide) (by decide)) O8 rfl rfl (fun h17 n17 e17 => ?_)
  replace O3 := n17
  replace O4 := (e17 _ (by decide)).trans O4
  replace O5 := (e17 _ (by decide)).trans O5
  replace O6 := (e17 _ (by decide)).trans O6
  replace O7 := (e17 _ (by decide)).trans O7
  replace O8 := (e17 _ (by decide)).trans O8
  replace hf : ∀ i, i ≠ 3 → i ≠ 4 → i ≠ 5 → i ≠ 6 → i ≠ 7 → i ≠ 8 → i ≠ 9 → i ≠ 10 → i ≠ 11 → h17 i = h i := fun i g0 g1 g2 g3 g4 g5 g6 g7 g8 => (e17 i g0).trans (hf i g0 g1 g2 g3 g4 g5 g6 g7 g8)
  refine G_iincN 40 (k := 4) dX5_init_37 rfl rfl (by decide) (ast_1 rfl) ?_
  refine G_goto 15 dX5_init_40 (by decide) ?_
  refine G_iload_n 16 dX5_init_15 rfl rfl rfl ?_
  refine G_aload_n 17 dX5_init_16 rfl rfl rfl ?_
  refine G_getfield 20 dX5_init_17 rfl f_X5_11 O3 rfl ?_
  refine G_arraylength 21 dX5_init_20 rfl O3 rfl (by decide) rfl ?_
  refine G_icmp_ge 43 24 dX5_init_21 (by decide) rfl (fun z => absurd z (by decide)) (fun _ => ?_)
  refine G_aload_n 25 dX5_init_24 rfl rfl rfl ?_
  refine G_getfield 28 dX5_init_25 rfl f_X5_11 O3 rfl ?_
  refine G_iload_n 29 dX5_init_28 rfl rfl rfl ?_
  refine G_new 32 (o := 9) (L' := [(3, 1), (4, 0), (4, 1), (4, 2), (5, 0), (5, 1), (5, 2), (6, 0), (6, 1), (6, 2), (7, 0), (7, 1), (7, 2), (8, 0), (8, 1), (8, 2), (9, 0)]) [aN, aN, aI (nI 0), aI (nI 0), aI 0, aI 0] tyX8 rfl dX5_init_29 rfl (ci := 8) (N := 6) rfl uX8 tyX8_ok cw_X5_9 is_X8 ii_X8 (fun j hj => by rcases (show j = 0 ∨ j = 1 ∨ j = 2 ∨ j = 3 ∨ j = 4 ∨ j = 5 by omega) with rfl | rfl | rfl | rfl | rfl | rfl <;> rfl) ⟨Nat.le_of_ble_eq_true rfl, Nat.le_of_ble_eq_true rfl⟩ (adq hAd hsz (by decide) (by decide)) (hAd.mono (by decide)) rfl (fun h18 n18 e18 => ?_)
  replace O3 := (e18 _ (by decide)).trans O3
  replace O4 := (e18 _ (by decide)).trans O4
  replace O5 := (e18 _ (by decide)).trans O5
  replace O6 := (e18 _ (by decide)).trans O6
  replace O7 := (e18 _ (by decide)).trans O7
  replace O8 := (e18 _ (by decide)).trans O8
  have O9 := n18
  replace hf : ∀ i, i ≠ 3 → i ≠ 4 → i ≠ 5 → i ≠ 6 → i ≠ 7 → i ≠ 8 → i ≠ 9 → i ≠ 10 → i ≠ 11 → h18 i = h i := fun i g0 g1 g2 g3 g4 g5 g6 g7 g8 => (e18 i g6).trans (hf i g0 g1 g2 g3 g4 g5 g6 g7 g8)
  refine G_dup 33 dX5_init_32 rfl rfl ?_
  refine G_callCN 36 (L' := [(3, 1), (4, 0), (4, 1), (4, 2), (5, 0), (5, 1), (5, 2), (6, 0), (6, 1), (6, 2), (7, 0), (7, 1), (7, 2), (8, 0), (8, 1), (8, 2), (9, 0), (9, 1), (9, 2)]) rfl (S_X8_init _ l (c := 25) (hAd.L) (by decide) (by decide) (by decide) O9) hAO dX5_init_33 rfl kX8_init nk_X5_15 (adn hsz (by decide)) ⟨rfl, rfl⟩ ⟨Nat.le_of_ble_eq_true rfl, Nat.le_of_ble_eq_true rfl⟩ ⟨Nat.le_of_ble_eq_true rfl, Nat.le_of_ble_eq_true rfl⟩ (Nat.le_of_ble_eq_true rfl) rfl (fun h19 q19 => ?_)
  obtain ⟨n19_0, e19⟩ := q19
  replace O3 := (e19 _ (by decide)).trans O3
  replace O4 := (e19 _ (by decide)).trans O4
  replace O5 := (e19 _ (by decide)).trans O5
  replace O6 := (e19 _ (by decide)).trans O6
  replace O7 := (e19 _ (by decide)).trans O7
  replace O8 := (e19 _ (by decide)).trans O8
  replace O9 := n19_0
  replace hf : ∀ i, i ≠ 3 → i ≠ 4 → i ≠ 5 → i ≠ 6 → i ≠ 7 → i ≠ 8 → i ≠ 9 → i ≠ 10 → i ≠ 11 → h19 i = h i := fun i g0 g1 g2 g3 g4 g5 g6 g7 g8 => (e19 i g6).trans (hf i g0 g1 g2 g3 g4 g5 g6 g7 g8)
  refine G_aastore 37 (b' := (5, [aR 3 1, aI (nI 0), aI (nI 0)], [kQ 8 (va_up (va_up (va_up (va_up (va_up (va_up (fun _ => none) 0 (some (4, 0))) 1 (some (5, 0))) 2 (some (6, 0))) 3 (some (7, 0))) 4 (some (8, 0))) 5 (some (9, 0)))])) dX5_init_36 rfl O3 rfl (ix_nI (by decide) (by decide)) O9 rfl rfl (fun h20 n20 e20 => ?_)
  replace O3 := n20
  replace O4 := (e20 _ (by decide)).trans O4
  replace O5 := (e20 _ (by decide)).trans O5
  replace O6 := (e20 _ (by decide)).trans O6
  replace O7 := (e20 _ (by decide)).trans O7
  replace O8 := (e20 _ (by decide)).trans O8
  replace O9 := (e20 _ (by decide)).trans O9
  replace hf : ∀ i, i ≠ 3 → i ≠ 4 → i ≠ 5 → i ≠ 6 → i ≠ 7 → i ≠ 8 → i ≠ 9 → i ≠ 10 → i ≠ 11 → h20 i = h i := fun i g0 g1 g2 g3 g4 g5 g6 g7 g8 => (e20 i g0).trans (hf i g0 g1 g2 g3 g4 g5 g6 g7 g8)
  refine G_iincN 40 (k := 5) dX5_init_37 rfl rfl (by decide) (ast_1 rfl) ?_
  refine G_goto 15 dX5_init_40 (by decide) ?_
  refine G_iload_n 16 dX5_init_15 rfl rfl rfl ?_
  refine G_aload_n 17 dX5_init_16 rfl rfl rfl ?_
  refine G_getfield 20 dX5_init_17 rfl f_X5_11 O3 rfl ?_
  refine G_arraylength 21 dX5_init_20 rfl O3 rfl (by decide) rfl ?_
  refine G_icmp_ge 43 24 dX5_init_21 (by decide) rfl (fun z => absurd z (by decide)) (fun _ => ?_)
  refine G_aload_n 25 dX5_init_24 rfl rfl rfl ?_
  refine G_getfield 28 dX5_init_25 rfl f_X5_11 O3 rfl ?_
  refine G_iload_n 29 dX5_init_28 rfl rfl rfl ?_
  refine G_new 32 (o := 10) (L' := [(3, 1), (4, 0), (4, 1), (4, 2), (5, 0), (5, 1), (5, 2), (6, 0), (6, 1), (6, 2), (7, 0), (7, 1), (7, 2), (8, 0), (8, 1), (8, 2), (9, 0), (9, 1), (9, 2), (10, 0)]) [aN, aN, aI (nI 0), aI (nI 0), aI 0, aI 0] tyX8 rfl dX5_init_29 rfl (ci := 8) (N := 6) rfl uX8 tyX8_ok cw_X5_9 is_X8 ii_X8 (fun j hj => by rcases (show j = 0 ∨ j = 1 ∨ j = 2 ∨ j = 3 ∨ j = 4 ∨ j = 5 by omega) with rfl | rfl | rfl | rfl | rfl | rfl <;> rfl) ⟨Nat.le_of_ble_eq_true rfl, Nat.le_of_ble_eq_true rfl⟩ (adq hAd hsz (by decide) (by decide)) (hAd.mono (by decide)) rfl (fun h21 n21 e21 => ?_)
  replace O3 := (e21 _ (by decide)).trans O3
  replace O4 := (e21 _ (by decide)).trans O4
  replace O5 := (e21 _ (by decide)).trans O5
  replace O6 := (e21 _ (by decide)).trans O6
  replace O7 := (e21 _ (by decide)).trans O7
  replace O8 := (e21 _ (by decide)).trans O8
  replace O9 := (e21 _ (by decide)).trans O9
  have O10 := n21
  replace hf : ∀ i, i ≠ 3 → i ≠ 4 → i ≠ 5 → i ≠ 6 → i ≠ 7 → i ≠ 8 → i ≠ 9 → i ≠ 10 → i ≠ 11 → h21 i = h i := fun i g0 g1 g2 g3 g4 g5 g6 g7 g8 => (e21 i g7).trans (hf i g0 g1 g2 g3 g4 g5 g6 g7 g8)
  refine G_dup 33 dX5_init_32 rfl rfl ?_
  refine G_callCN 36 (L' := [(3, 1), (4, 0), (4, 1), (4, 2), (5, 0), (5, 1), (5, 2), (6, 0), (6, 1), (6, 2), (7, 0), (7, 1), (7, 2), (8, 0), (8, 1), (8, 2), (9, 0), (9, 1), (9, 2), (10, 0), (10, 1), (10, 2)]) rfl (S_X8_init _ l (c := 28) (hAd.L) (by decide) (by decide) (by decide) O10) hAO dX5_init_33 rfl kX8_init nk_X5_15 (adn hsz (by decide)) ⟨rfl, rfl⟩ ⟨Nat.le_of_ble_eq_true rfl, Nat.le_of_ble_eq_true rfl⟩ ⟨Nat.le_of_ble_eq_true rfl, Nat.le_of_ble_eq_true rfl⟩ (Nat.le_of_ble_eq_true rfl) rfl (fun h22 q22 => ?_)
  obtain ⟨n22_0, e22⟩ := q22
  replace O3 := (e22 _ (by decide)).trans O3
  replace O4 := (e22 _ (by decide)).trans O4
  replace O5 := (e22 _ (by decide)).trans O5
  replace O6 := (e22 _ (by decide)).trans O6
  replace O7 := (e22 _ (by decide)).trans O7
  replace O8 := (e22 _ (by decide)).trans O8
  replace O9 := (e22 _ (by decide)).trans O9
  replace O10 := n22_0
  replace hf : ∀ i, i ≠ 3 → i ≠ 4 → i ≠ 5 → i ≠ 6 → i ≠ 7 → i ≠ 8 → i ≠ 9 → i ≠ 10 → i ≠ 11 → h22 i = h i := fun i g0 g1 g2 g3 g4 g5 g6 g7 g8 => (e22 i g7).trans (hf i g0 g1 g2 g3 g4 g5 g6 g7 g8)
  refine G_aastore 37 (b' := (5, [aR 3 1, aI (nI 0), aI (nI 0)], [kQ 8 (va_up (va_up (va_up (va_up (va_up (va_up (va_up (fun _ => none) 0 (some (4, 0))) 1 (some (5, 0))) 2 (some (6, 0))) 3 (some (7, 0))) 4 (some (8, 0))) 5 (some (9, 0))) 6 (some (10, 0)))])) dX5_init_36 rfl O3 rfl (ix_nI (by decide) (by decide)) O10 rfl rfl (fun h23 n23 e23 => ?_)
  replace O3 := n23
  replace O4 := (e23 _ (by decide)).trans O4
  replace O5 := (e23 _ (by decide)).trans O5
  replace O6 := (e23 _ (by decide)).trans O6
  replace O7 := (e23 _ (by decide)).trans O7
  replace O8 := (e23 _ (by decide)).trans O8
  replace O9 := (e23 _ (by decide)).trans O9
  replace O10 := (e23 _ (by decide)).trans O10
  replace hf : ∀ i, i ≠ 3 → i ≠ 4 → i ≠ 5 → i ≠ 6 → i ≠ 7 → i ≠ 8 → i ≠ 9 → i ≠ 10 → i ≠ 11 → h23 i = h i := fun i g0 g1 g2 g3 g4 g5 g6 g7 g8 => (e23 i g0).trans (hf i g0 g1 g2 g3 g4 g5 g6 g7 g8)
  refine G_iincN 40 (k := 6) dX5_init_37 rfl rfl (by decide) (ast_1 rfl) ?_
  refine G_goto 15 dX5_init_40 (by decide) ?_
  refine G_iload_n 16 dX5_init_15 rfl rfl rfl ?_
  refine G_aload_n 17 dX5_init_16 rfl rfl rfl ?_
  refine G_getfield 20 dX5_init_17 rfl f_X5_11 O3 rfl ?_
  refine G_arraylength 21 dX5_init_20 rfl O3 rfl (by decide) rfl ?_
  refine G_icmp_ge 43 24 dX5_init_21 (by decide) rfl (fun z => absurd z (by decide)) (fun _ => ?_)
  refine G_aload_n 25 dX5_init_24 rfl rfl rfl ?_
  refine G_getfield 28 dX5_init_25 rfl f_X5_11 O3 rfl ?_
  refine G_iload_n 29 dX5_init_28 rfl rfl rfl ?_
  refine G_new 32 (o := 11) (L' := [(3, 1), (4, 0), (4, 1), (4, 2), (5, 0), (5, 1), (5, 2), (6, 0), (6, 1), (6, 2), (7, 0), (7, 1), (7, 2), (8, 0), (8, 1), (8, 2), (9, 0), (9, 1), (9, 2), (10, 0), (10, 1), (10, 2), (11, 0)]) [aN, aN, aI (nI 0), aI (nI 0), aI 0, aI 0] tyX8 rfl dX5_init_29 rfl (ci := 8) (N := 6) rfl uX8 tyX8_ok cw_X5_9 is_X8 ii_X8 (fun j hj => by rcases (show j = 0 ∨ j = 1 ∨ j = 2 ∨ j = 3 ∨ j = 4 ∨ j = 5 by omega) with rfl | rfl | rfl | rfl | rfl | rfl <;> rfl) ⟨Nat.le_of_ble_eq_true rfl, Nat.le_of_ble_eq_true rfl⟩ (adq hAd hsz (by decide) (by decide)) (hAd.mono (by decide)) rfl (fun h24 n24 e24 => ?_)
  replace O3 := (e24 _ (by decide)).trans O3
  replace O4 := (e24 _ (by decide)).trans O4
  replace O5 := (e24 _ (by decide)).trans O5
  replace O6 := (e24 _ (by decide)).trans O6
  replace O7 := (e24 _ (by decide)).trans O7
  replace O8 := (e24 _ (by decide)).trans O8
  replace O9 := (e24 _ (by decide)).trans O9
  replace O10 := (e24 _ (by decide)).trans O10
  have O11 := n24
  replace hf : ∀ i, i ≠ 3 → i ≠ 4 → i ≠ 5 → i ≠ 6 → i ≠ 7 → i ≠ 8 → i ≠ 9 → i ≠ 10 → i ≠ 11 → h24 i = h i := fun i g0 g1 g2 g3 g4 g5 g6 g7 g8 => (e24 i g8).trans (hf i g0 g1 g2 g3 g4 g5 g6 g7 g8)
  refine G_dup 33 dX5_init_32 rfl rfl ?_
  refine G_callCN 36 (L' := [(3, 1), (4, 0), (4, 1), (4, 2), (5, 0), (5, 1), (5, 2), (6, 0), (6, 1), (6, 2), (7, 0), (7, 1), (7, 2), (8, 0), (8, 1), (8, 2), (9, 0), (9, 1), (9, 2), (10, 0), (10, 1), (10, 2), (11, 0), (11, 1), (11, 2)]) rfl (S_X8_init _ l (c := 31) (hAd.L) (by decide) (by decide) (by decide) O11) hAO dX5_init_33 rfl kX8_init nk_X5_15 (adn hsz (by decide)) ⟨rfl, rfl⟩ ⟨Nat.le_of_ble_eq_true rfl, Nat.le_of_ble_eq_true rfl⟩ ⟨Nat.le_of_ble_eq_true rfl, Nat.le_of_ble_eq_true rfl⟩ (Nat.le_of_ble_eq_true rfl) rfl (fun h25 q25 => ?_)
  obtain ⟨n25_0, e25⟩ := q25
  replace O3 := (e25 _ (by decide)).trans O3
  replace O4 := (e25 _ (by decide)).trans O4
  replace O5 := (e25 _ (by decide)).trans O5
  replace O6 := (e25 _ (by decide)).trans O6
  replace O7 := (e25 _ (by decide)).trans O7
  replace O8 := (e25 _ (by decide)).trans O8
  replace O9 := (e25 _ (by decide)).trans O9
  replace O10 := (e25 _ (by decide)).trans O10
  replace O11 := n25_0
  replace hf : ∀ i, i ≠ 3 → i ≠ 4 → i ≠ 5 → i ≠ 6 → i ≠ 7 → i ≠ 8 → i ≠ 9 → i ≠ 10 → i ≠ 11 → h25 i = h i := fun i g0 g1 g2 g3 g4 g5 g6 g7 g8 => (e25 i g8).trans (hf i g0 g1 g2 g3 g4 g5 g6 g7 g8)
  refine G_aastore 37 (b' := (5, [aR 3 1, aI (nI 0), aI (nI 0)], [kQ 8 (va_up (va_up (va_up (va_up (va_up (va_up (va_up (va_up (fun _ => none) 0 (some (4, 0))) 1 (some (5, 0))) 2 (some (6, 0))) 3 (some (7, 0))) 4 (some (8, 0))) 5 (some (9, 0))) 6 (some (10, 0))) 7 (some (11, 0)))])) dX5_init_36 rfl O3 rfl (ix_nI (by decide) (by decide)) O11 rfl rfl (fun h26 n26 e26 => ?_)
  replace O3 := n26
  replace O4 := (e26 _ (by decide)).trans O4
  replace O5 := (e26 _ (by decide)).trans O5
  replace O6 := (e26 _ (by decide)).trans O6
  replace O7 := (e26 _ (by decide)).trans O7
  replace O8 := (e26 _ (by decide)).trans O8
  replace O9 := (e26 _ (by decide)).trans O9
  replace O10 := (e26 _ (by decide)).trans O10
  replace O11 := (e26 _ (by decide)).trans O11
  replace hf : ∀ i, i ≠ 3 → i ≠ 4 → i ≠ 5 → i ≠ 6 → i ≠ 7 → i ≠ 8 → i ≠ 9 → i ≠ 10 → i ≠ 11 → h26 i = h i := fun i g0 g1 g2 g3 g4 g5 g6 g7 g8 => (e26 i g0).trans (hf i g0 g1 g2 g3 g4 g5 g6 g7 g8)
  refine G_iincN 40 (k := 7) dX5_init_37 rfl rfl (by decide) (ast_1 rfl) ?_
  refine G_goto 15 dX5_init_40 (by decide) ?_
  refine G_iload_n 16 dX5_init_15 rfl rfl rfl ?_
  refine G_aload_n 17 dX5_init_16 rfl rfl rfl ?_
  refine G_getfield 20 dX5_init_17 rfl f_X5_11 O3 rfl ?_
  refine G_arraylength 21 dX5_init_20 rfl O3 rfl (by decide) rfl ?_
  refine G_icmp_ge 43 24 dX5_init_21 (by decide) rfl (fun _ => ?_) (fun z => absurd (by decide) z)
  refine G_ext (b' := paB 0 0) O3 rfl (fun q H hq => by
    rcases q with _ | _ | q
    · exact hq
    · exact kQ_same (fun j hj => by rcases (show j = 0 ∨ j = 1 ∨ j = 2 ∨ j = 3 ∨ j = 4 ∨ j = 5 ∨ j = 6 ∨ j = 7 by omega) with rfl | rfl | rfl | rfl | rfl | rfl | rfl | rfl <;> rfl) hq
    · exact hq) (fun h27 n27 e27 => ?_)
  replace O3 := n27
  replace O4 := (e27 _ (by decide)).trans O4
  replace O5 := (e27 _ (by decide)).trans O5
  replace O6 := (e27 _ (by decide)).trans O6
  replace O7 := (e27 _ (by decide)).trans O7
  replace O8 := (e27 _ (by decide)).trans O8
  replace O9 := (e27 _ (by decide)).trans O9
  replace O10 := (e27 _ (by decide)).trans O10
  replace O11 := (e27 _ (by decide)).trans O11
  replace hf : ∀ i, i ≠ 3 → i ≠ 4 → i ≠ 5 → i ≠ 6 → i ≠ 7 → i ≠ 8 → i ≠ 9 → i ≠ 10 → i ≠ 11 → h27 i = h i := fun i g0 g1 g2 g3 g4 g5 g6 g7 g8 => (e27 i g0).trans (hf i g0 g1 g2 g3 g4 g5 g6 g7 g8)
  exact G_retC cg rfl dX5_init_43 rfl ⟨O3, O4, O5, O6, O7, O8, O9, O10, O11, hf⟩
set_option maxHeartbeats 4000000 in
set_option maxRecDepth 100000 in
theorem S_X9_init (X : En) (l : Launch) {h : Hp} {B : Nat} (hAd : Ad X B) (O0 : h 0 = some (9, [aN, aN, aI 0, aN, aN, aN, aN, aN, aN, aN, aN, aN], [])) : CtC X l mX9_init 0 h (B + 1) 74 1593 [(1, 0), (1, 1), (1, 2), (2, 0), (2, 1), (2, 2), (3, 0), (3, 1), (4, 0), (4, 1), (4, 2), (5, 0), (5, 1), (5, 2), (6, 0), (6, 1), (6, 2), (7, 0), (7, 1), (7, 2), (8, 0), (8, 1), (8, 2), (9, 0), (9, 1), (9, 2), (10, 0), (10, 1), (10, 2), (11, 0), (11, 1), (11, 2), (12, 0), (12, 1), (13, 0), (13, 1), (13, 2), (14, 0), (14, 1), (14, 2), (15, 0), (15, 1), (0, 1), (16, 0), (16, 1), (16, 2), (17, 0), (17, 1), (18, 0), (18, 1), (18, 2), (19, 0), (20, 0), (20, 1), (20, 2), (21, 0), (22, 0), (22, 1), (22, 2), (23, 0), (23, 1), (23, 2), (24, 0), (24, 1), (24, 2), (25, 0), (26, 0), (26, 1), (26, 2), (27, 0), (27, 1), (27, 2), (25, 1), (25, 2)] (fun h' => h' 0 = some (maB 0 (fun _ => 0)) ∧ h' 1 = some (wB 1 x00) ∧ h' 2 = some (wB 2 x00) ∧ h' 3 = some (paB 0 0) ∧ h' 4 = some (wB 4 x00) ∧ h' 5 = some (wB 5 x00) ∧ h' 6 = some (wB 6 x00) ∧ h' 7 = some (wB 7 x00) ∧ h' 8 = some (wB 8 x00) ∧ h' 9 = some (wB 9 x00) ∧ h' 10 = some (wB 10 x00) ∧ h' 11 = some (wB 11 x00) ∧ h' 12 = some (leB (fun _ => 0) 0 0) ∧ h' 13 = some (wB 13 x00) ∧ h' 14 = some (cB 14 y00) ∧ h' 15 = some (toB (fun _ => 0) 0) ∧ h' 16 = some (cB 16 y00) ∧ h' 17 = some (guB (fun _ => 0) 0) ∧ h' 18 = some (cB 18 y00) ∧ h' 19 = some (seB) ∧ h' 20 = some (cB 20 y00) ∧ h' 21 = some (alB) ∧ h' 22 = some (cB 22 y00) ∧ h' 23 = some (cB 23 y00) ∧ h' 24 = some (wB 24 x00) ∧ h' 25 = some (foB (fun _ => 0) (fun _ => 0)) ∧ h' 26 = some (cB 26 y00) ∧ h' 27 = some (wB 27 x00) ∧ ∀ i, i ≠ 0 → i ≠ 1 → i ≠ 2 → i ≠ 3 → i ≠ 4 → i ≠ 5 → i ≠ 6 → i ≠ 7 → i ≠ 8 → i ≠ 9 → i ≠ 10 → i ≠ 11 → i ≠ 12 → i ≠ 13 → i ≠ 14 → i ≠ 15 → i ≠ 16 → i ≠ 17 → i ≠ 18 → i ≠ 19 → i ≠ 20 → i ≠ 21 → i ≠ 22 → i ≠ 23 → i ≠ 24 → i ≠ 25 → i ≠ 26 → i ≠ 27 → h' i = h i) := by
  refine CtC.intro kX9_init (fun G cg => ?_)
  have hin := cg.1
  have hsz := cg.2.1
  have hAO := cg.2.2.1
  show Ag G (enL X []) l mX9_init 0 0 0 [some (aR 0 0)] [] h
  have hf : ∀ i, i ≠ 0 → i ≠ 1 → i ≠ 2 → i ≠ 3 → i ≠ 4 → i ≠ 5 → i ≠ 6 → i ≠ 7 → i ≠ 8 → i ≠ 9 → i ≠ 10 → i ≠ 11 → i ≠ 12 → i ≠ 13 → i ≠ 14 → i ≠ 15 → i ≠ 16 → i ≠ 17 → i ≠ 18 → i ≠ 19 → i ≠ 20 → i ≠ 21 → i ≠ 22 → i ≠ 23 → i ≠ 24 → i ≠ 25 → i ≠ 26 → i ≠ 27 → h i = h i := fun _ _ _ _ _ _ _ _ _ _ _ _ _ _ _ _ _ _ _ _ _ _ _ _ _ _ _ _ _ => rfl
  refine G_aload_n 1 dX9_init_0 rfl rfl rfl ?_
  refine G_objInit 4 dX9_init_1 rfl lk_X9_1 ⟨Nat.le_of_ble_eq_true rfl, Nat.le_of_ble_eq_true rfl⟩ ?_
  refine G_aload_n 5 dX9_init_4 rfl rfl rfl ?_
  refine G_new 8 (o := 1) (L' := [(1, 0)]) [aN, aN, aI (nI 0), aI (nI 0), aI 0, aI 0] tyX8 rfl dX9_init_5 rfl (ci := 8) (N := 6) rfl uX8 tyX8_ok cw_X9_7 is_X8 ii_X8 (fun j hj => by rcases (show j = 0 ∨ j = 1 ∨ j = 2 ∨ j = 3 ∨ j = 4 ∨ j = 5 by omega) with rfl | rfl | rfl | rfl | rfl | rfl <;> rfl) ⟨Nat.le_of_ble_eq_true rfl, Nat.le_of_ble_eq_true rfl⟩ (adq hAd hsz (by decide) (by decide)) (hAd.mono (by decide)) rfl (fun h1 n1 e1 => ?_)
  replace O0 := (e1 _ (by decide)).trans O0
  have O1 := n1
  replace hf : ∀ i, i ≠ 0 → i ≠ 1 → i ≠ 2 → i ≠ 3 → i ≠ 4 → i ≠ 5 → i ≠ 6 → i ≠ 7 → i ≠ 8 → i ≠ 9 → i ≠ 10 → i ≠ 11 → i ≠ 12 → i ≠ 13 → i ≠ 14 → i ≠ 15 → i ≠ 16 → i ≠ 17 → i ≠ 18 → i ≠ 19 → i ≠ 20 → i ≠ 21 → i ≠ 22 → i ≠ 23 → i ≠ 24 → i ≠ 25 → i ≠ 26 → i ≠ 27 → h1 i = h i := fun i g0 g1 g2 g3 g4 g5 g6 g7 g8 g9 g10 g11 g12 g13 g14 g15 g16 g17 g18 g19 g20 g21 g22 g23 g24 g25 g26 g27 => (e1 i g1).trans (hf i g0 g1 g2 g3 g4 g5 g6 g7 g8 g9 g10 g11 g12 g13 g14 g15 g16 g17 g18 g19 g20 g21 g22 g23 g24 g25 g26 g27)
  refine G_dup 9 dX9_init_8 rfl rfl ?_
  refine G_callCN 12 (L' := [(1, 0), (1, 1), (1, 2)]) rfl (S_X8_init _ l (c := 2) (hAd.L) (by decide) (by decide) (by decide) O1) hAO dX9_init_9 rfl kX8_init nk_X9_9 (adn hsz (by decide)) ⟨rfl, rfl⟩ ⟨Nat.le_of_ble_eq_true rfl, Nat.le_of_ble_eq_true rfl⟩ ⟨Nat.le_of_ble_eq_true rfl, Nat.le_of_ble_eq_true rfl⟩ (Nat.le_of_ble_eq_true rfl) rfl (fun h2 q2 => ?_)
  obtain ⟨n2_0, e2⟩ := q2
  replace O0 := (e2 _ (by decide)).trans O0
  replace O1 := n2_0
  replace hf : ∀ i, i ≠ 0 → i ≠ 1 → i ≠ 2 → i ≠ 3 → i ≠ 4 → i ≠ 5 → i ≠ 6 → i ≠ 7 → i ≠ 8 → i ≠ 9 → i ≠ 10 → i ≠ 11 → i ≠ 12 → i ≠ 13 → i ≠ 14 → i ≠ 15 → i ≠ 16 → i ≠ 17 → i ≠ 18 → i ≠ 19 → i ≠ 20 → i ≠ 21 → i ≠ 22 → i ≠ 23 → i ≠ 24 → i ≠ 25 → i ≠ 26 → i ≠ 27 → h2 i = h i := fun i g0 g1 g2 g3 g4 g5 g6 g7 g8 g9 g10 g11 g12 g13 g14 g15 g16 g17 g18 g19 g20 g21 g22 g23 g24 g25 g26 g27 => (e2 i g1).trans (hf i g0 g1 g2 g3 g4 g5 g6 g7 g8 g9 g10 g11 g12 g13 g14 g15 g16 g17 g18 g19 g20 g21 g22 g23 g24 g25 g26 g27)
  refine G_putF 15 (b' := (9, [aR 1 0, aN, aI 0, aN, aN, aN, aN, aN, aN, aN, aN, aN], [])) hin dX9_init_12 rfl ff_X9_10 O0 (Nat.le_of_ble_eq_true rfl) rfl rfl rfl (fun h3 n3 e3 => ?_)
  replace O0 := n3
  replace O1 := (e3 _ (by decide)).trans O1
  replace hf : ∀ i, i ≠ 0 → i ≠ 1 → i ≠ 2 → i ≠ 3 → i ≠ 4 → i ≠ 5 → i ≠ 6 → i ≠ 7 → i ≠ 8 → i ≠ 9 → i ≠ 10 → i ≠ 11 → i ≠ 12 → i ≠ 13 → i ≠ 14 → i ≠ 15 → i ≠ 16 → i ≠ 17 → i ≠ 18 → i ≠ 19 → i ≠ 20 → i ≠ 21 → i ≠ 22 → i ≠ 23 → i ≠ 24 → i ≠ 25 → i ≠ 26 → i ≠ 27 → h3 i = h i := fun i g0 g1 g2 g3 g4 g5 g6 g7 g8 g9 g10 g11 g12 g13 g14 g15 g16 g17 g18 g19 g20 g21 g22 g23 g24 g25 g26 g27 => (e3 i g0).trans (hf i g0 g1 g2 g3 g4 g5 g6 g7 g8 g9 g10 g11 g12 g13 g14 g15 g16 g17 g18 g19 g20 g21 g22 g23 g24 g25 g26 g27)
  refine G_aload_n 16 dX9_init_15 rfl rfl rfl ?_
  refine G_new 19 (o := 2) (L' := [(1, 0), (1, 1), (1, 2), (2, 0)]) [aN, aN, aI (nI 0), aI (nI 0), aI 0, aI 0] tyX8 rfl dX9_init_16 rfl (ci := 8) (N := 6) rfl uX8 tyX8_ok cw_X9_7 is_X8 ii_X8 (fun j hj => by rcases (show j = 0 ∨ j = 1 ∨ j = 2 ∨ j = 3 ∨ j = 4 ∨ j = 5 by omega) with rfl | rfl | rfl | rfl | rfl | rfl <;> rfl) ⟨Nat.le_of_ble_eq_true rfl, Nat.le_of_ble_eq_true rfl⟩ (adq hAd hsz (by decide) (by decide)) (hAd.mono (by decide)) rfl (fun h4 n4 e4 => ?_)
  replace O0 := (e4 _ (by decide)).trans O0
  replace O1 := (e4 _ (by decide)).trans O1
  have O2 := n4
  replace hf : ∀ i, i ≠ 0 → i ≠ 1 → i ≠ 2 → i ≠ 3 → i ≠ 4 → i ≠ 5 → i ≠ 6 → i ≠ 7 → i ≠ 8 → i ≠ 9 → i ≠ 10 → i ≠ 11 → i ≠ 12 → i ≠ 13 → i ≠ 14 → i ≠ 15 → i ≠ 16 → i ≠ 17 → i ≠ 18 → i ≠ 19 → i ≠ 20 → i ≠ 21 → i ≠ 22 → i ≠ 23 → i ≠ 24 → i ≠ 25 → i ≠ 26 → i ≠ 27 → h4 i = h i := fun i g0 g1 g2 g3 g4 g5 g6 g7 g8 g9 g10 g11 g12 g13 g14 g15 g16 g17 g18 g19 g20 g21 g22 g23 g24 g25 g26 g27 => (e4 i g2).trans (hf i g0 g1 g2 g3 g4 g5 g6 g7 g8 g9 g10 g11 g12 g13 g14 g15 g16 g17 g18 g19 g20 g21 g22 g23 g24 g25 g26 g27)
  refine G_dup 20 dX9_init_19 rfl rfl ?_
  refine G_callCN 23 (L' := [(1, 0), (1, 1), (1, 2), (2, 0), (2, 1), (2, 2)]) rfl (S_X8_init _ l (c := 5) (hAd.L) (by decide) (by decide) (by decide) O2) hAO dX9_init_20 rfl kX8_init nk_X9_9 (adn hsz (by decide)) ⟨rfl, rfl⟩ ⟨Nat.le_of_ble_eq_true rfl, Nat.le_of_ble_eq_true rfl⟩ ⟨Nat.le_of_ble_eq_true rfl, Nat.le_of_ble_eq_true rfl⟩ (Nat.le_of_ble_eq_true rfl) rfl (fun h5 q5 => ?_)
  obtain ⟨n5_0, e5⟩ := q5
  replace O0 := (e5 _ (by decide)).trans O0
  replace O1 := (e5 _ (by decide)).trans O1
  replace O2 := n5_0
  replace hf : ∀ i, i ≠ 0 → i ≠ 1 → i ≠ 2 → i ≠ 3 → i ≠ 4 → i ≠ 5 → i ≠ 6 → i ≠ 7 → i ≠ 8 → i ≠ 9 → i ≠ 10 → i ≠ 11 → i ≠ 12 → i ≠ 13 → i ≠ 14 → i ≠ 15 → i ≠ 16 → i ≠ 17 → i ≠ 18 → i ≠ 19 → i ≠ 20 → i ≠ 21 → i ≠ 22 → i ≠ 23 → i ≠ 24 → i ≠ 25 → i ≠ 26 → i ≠ 27 → h5 i = h i := fun i g0 g1 g2 g3 g4 g5 g6 g7 g8 g9 g10 g11 g12 g13 g14 g15 g16 g17 g18 g19 g20 g21 g22 g23 g24 g25 g26 g27 => (e5 i g2).trans (hf i g0 g1 g2 g3 g4 g5 g6 g7 g8 g9 g10 g11 g12 g13 g14 g15 g16 g17 g18 g19 g20 g21 g22 g23 g24 g25 g26 g27)
  refine G_putF 26 (b' := (9, [aR 1 0, aR 2 0, aI 0, aN, aN, aN, aN, aN, aN, aN, aN, aN], [])) hin dX9_init_23 rfl ff_X9_16 O0 (Nat.le_of_ble_eq_true rfl) rfl rfl rfl (fun h6 n6 e6 => ?_)
  replace O0 := n6
  replace O1 := (e6 _ (by decide)).trans O1
  replace O2 := (e6 _ (by decide)).trans O2
  replace hf : ∀ i, i ≠ 0 → i ≠ 1 → i ≠ 2 → i ≠ 3 → i ≠ 4 → i ≠ 5 → i ≠ 6 → i ≠ 7 → i ≠ 8 → i ≠ 9 → i ≠ 10 → i ≠ 11 → i ≠ 12 → i ≠ 13 → i ≠ 14 → i ≠ 15 → i ≠ 16 → i ≠ 17 → i ≠ 18 → i ≠ 19 → i ≠ 20 → i ≠ 21 → i ≠ 22 → i ≠ 23 → i ≠ 24 → i ≠ 25 → i ≠ 26 → i ≠ 27 → h6 i = h i := fun i g0 g1 g2 g3 g4 g5 g6 g7 g8 g9 g10 g11 g12 g13 g14 g15 g16 g17 g18 g19 g20 g21 g22 g23 g24 g25 g26 g27 => (e6 i g0).trans (hf i g0 g1 g2 g3 g4 g5 g6 g7 g8 g9 g10 g11 g12 g13 g14 g15 g16 g17 g18 g19 g20 g21 g22 g23 g24 g25 g26 g27)
  refine G_aload_n 27 dX9_init_26 rfl rfl rfl ?_
  refine G_new 30 (o := 3) (L' := [(1, 0), (1, 1), (1, 2), (2, 0), (2, 1), (2, 2), (3, 0)]) [aN, aI (nI 0), aI (nI 0)] tyX5 rfl dX9_init_27 rfl (ci := 5) (N := 3) rfl uX5 tyX5_ok cw_X9_19 is_X5 ii_X5 (fun j hj => by rcases (show j = 0 ∨ j = 1 ∨ j = 2 by omega) with rfl | rfl | rfl <;> rfl) ⟨Nat.le_of_ble_eq_true rfl, Nat.le_of_ble_eq_true rfl⟩ (adq hAd hsz (by decide) (by decide)) (hAd.mono (by decide)) rfl (fun h7 n7 e7 => ?_)
  replace O0 := (e7 _ (by decide)).trans O0
  replace O1 := (e7 _ (by decide)).trans O1
  replace O2 := (e7 _ (by decide)).trans O2
  have O3 := n7
  replace hf : ∀ i, i ≠ 0 → i ≠ 1 → i ≠ 2 → i ≠ 3 → i ≠ 4 → i ≠ 5 → i ≠ 6 → i ≠ 7 → i ≠ 8 → i ≠ 9 → i ≠ 10 → i ≠ 11 → i ≠ 12 → i ≠ 13 → i ≠ 14 → i ≠ 15 → i ≠ 16 → i ≠ 17 → i ≠ 18 → i ≠ 19 → i ≠ 20 → i ≠ 21 → i ≠ 22 → i ≠ 23 → i ≠ 24 → i ≠ 25 → i ≠ 26 → i ≠ 27 → h7 i = h i := fun i g0 g1 g2 g3 g4 g5 g6 g7 g8 g9 g10 g11 g12 g13 g14 g15 g16 g17 g18 g19 g20 g21 g22 g23 g24 g25 g26 g27 => (e7 i g3).trans (hf i g0 g1 g2 g3 g4 g5 g6 g7 g8 g9 g10 g11 g12 g13 g14 g15 g16 g17 g18 g19 g20 g21 g22 g23 g24 g25 g26 g27)
  refine G_dup 31 dX9_init_30 rfl rfl ?_
  refine G_callC 34 (L' := [(1, 0), (1, 1), (1, 2), (2, 0), (2, 1), (2, 2), (3, 0), (3, 1), (4, 0), (4, 1), (4, 2), (5, 0), (5, 1), (5, 2), (6, 0), (6, 1), (6, 2), (7, 0), (7, 1), (7, 2), (8, 0), (8, 1), (8, 2), (9, 0), (9, 1), (9, 2), (10, 0), (10, 1), (10, 2), (11, 0), (11, 1), (11, 2)]) rfl (S_X5_init _ l (hAd.L) O3) hAO dX9_init_31 rfl kX5_init lk_X9_21 (adn hsz (by decide)) ⟨rfl, rfl⟩ ⟨Nat.le_of_ble_eq_true rfl, Nat.le_of_ble_eq_true rfl⟩ ⟨Nat.le_of_ble_eq_true rfl, Nat.le_of_ble_eq_true rfl⟩ (Nat.le_of_ble_eq_true rfl) rfl (fun h8 q8 => ?_)
  obtain ⟨n8_0, n8_1, n8_2, n8_3, n8_4, n8_5, n8_6, n8_7, n8_8, e8⟩ := q8
  replace O0 := (e8 _ (by decide) (by decide) (by decide) (by decide) (by decide) (by decide) (by decide) (by decide) (by decide)).trans O0
  replace O1 := (e8 _ (by decide) (by decide) (by decide) (by decide) (by decide) (by decide) (by decide) (by decide) (by decide)).trans O1
  replace O2 := (e8 _ (by decide) (by decide) (by decide) (by decide) (by decide) (by decide) (by decide) (by decide) (by decide)).trans O2
  replace O3 := n8_0
  have O4 := n8_1
  have O5 := n8_2
  have O6 := n8_3
  have O7 := n8_4
  have O8 := n8_5
  have O9 := n8_6
  have O10 := n8_7
  have O11 := n8_8
  replace hf : ∀ i, i ≠ 0 → i ≠ 1 → i ≠ 2 → i ≠ 3 → i ≠ 4 → i ≠ 5 → i ≠ 6 → i ≠ 7 → i ≠ 8 → i ≠ 9 → i ≠ 10 → i ≠ 11 → i ≠ 12 → i ≠ 13 → i ≠ 14 → i ≠ 15 → i ≠ 16 → i ≠ 17 → i ≠ 18 → i ≠ 19 → i ≠ 20 → i ≠ 21 → i ≠ 22 → i ≠ 23 → i ≠ 24 → i ≠ 25 → i ≠ 26 → i ≠ 27 → h8 i = h i := fun i g0 g1 g2 g3 g4 g5 g6 g7 g8 g9 g10 g11 g12 g13 g14 g15 g16 g17 g18 g19 g20 g21 g22 g23 g24 g25 g26 g27 => (e8 i g3 g4 g5 g6 g7 g8 g9 g10 g11).trans (hf i g0 g1 g2 g3 g4 g5 g6 g7 g8 g9 g10 g11 g12 g13 g14 g15 g16 g17 g18 g19 g20 g21 g22 g23 g24 g25 g26 g27)
  refine G_putF 37 (b' := (9, [aR 1 0, aR 2 0, aI 0, aR 3 0, aN, aN, aN, aN, aN, aN, aN, aN], [])) hin dX9_init_34 rfl ff_X9_22 O0 (Nat.le_of_ble_eq_true rfl) rfl rfl rfl (fun h9 n9 e9 => ?_)
  replace O0 := n9
  replace O1 := (e9 _ (by decide)).trans O1
  replace O2 := (e9 _ (by decide)).trans O2
  replace O3 := (e9 _ (by decide)).trans O3
  replace O4 := (e9 _ (by decide)).trans O4
  replace O5 := (e9 _ (by decide)).trans O5
  replace O6 := (e9 _ (by decide)).trans O6
  replace O7 := (e9 _ (by decide)).trans O7
  replace O8 := (e9 _ (by decide)).trans O8
  replace O9 := (e9 _ (by decide)).trans O9
  replace O10 := (e9 _ (by decide)).trans O10
  replace O11 := (e9 _ (by decide)).trans O11
  replace hf : ∀ i, i ≠ 0 → i ≠ 1 → i ≠ 2 → i ≠ 3 → i ≠ 4 → i ≠ 5 → i ≠ 6 → i ≠ 7 → i ≠ 8 → i ≠ 9 → i ≠ 10 → i ≠ 11 → i ≠ 12 → i ≠ 13 → i ≠ 14 → i ≠ 15 → i ≠ 16 → i ≠ 17 → i ≠ 18 → i ≠ 19 → i ≠ 20 → i ≠ 21 → i ≠ 22 → i ≠ 23 → i ≠ 24 → i ≠ 25 → i ≠ 26 → i ≠ 27 → h9 i = h i := fun i g0 g1 g2 g3 g4 g5 g6 g7 g8 g9 g10 g11 g12 g13 g14 g15 g16 g17 g18 g19 g20 g21 g22 g23 g24 g25 g26 g27 => (e9 i g0).trans (hf i g0 g1 g2 g3 g4 g5 g6 g7 g8 g9 g10 g11 g12 g13 g14 g15 g16 g17 g18 g19 g20 g21 g22 g23 g24 g25 g26 g27)
  refine G_aload_n 38 dX9_init_37 rfl rfl rfl ?_
  refine G_new 41 (o := 12) (L' := [(1, 0), (1, 1), (1, 2), (2, 0), (2, 1), (2, 2), (3, 0), (3, 1), (4, 0), (4, 1), (4, 2), (5, 0), (5, 1), (5, 2), (6, 0), (6, 1), (6, 2), (7, 0), (7, 1), (7, 2), (8, 0), (8, 1), (8, 2), (9, 0), (9, 1), (9, 2), (10, 0), (10, 1), (10, 2), (11, 0), (11, 1), (11, 2), (12, 0)]) [aN, aN, aN, aI (nI 0), aI (nI 0)] tyX4 rfl dX9_init_38 rfl (ci := 4) (N := 5) rfl uX4 tyX4_ok cw_X9_26 is_X4 ii_X4 (fun j hj => by rcases (show j = 0 ∨ j = 1 ∨ j = 2 ∨ j = 3 ∨ j = 4 by omega) with rfl | rfl | rfl | rfl | rfl <;> rfl) ⟨Nat.le_of_ble_eq_true rfl, Nat.le_of_ble_eq_true rfl⟩ (adq hAd hsz (by decide) (by decide)) (hAd.mono (by decide)) rfl (fun h10 n10 e10 => ?_)
  replace O0 := (e10 _ (by decide)).trans O0
  replace O1 := (e10 _ (by decide)).trans O1
  replace O2 := (e10 _ (by decide)).trans O2
  replace O3 := (e10 _ (by decide)).trans O3
  replace O4 := (e10 _ (by decide)).trans O4
  replace O5 := (e10 _ (by decide)).trans O5
  replace O6 := (e10 _ (by decide)).trans O6
  replace O7 := (e10 _ (by decide)).trans O7
  replace O8 := (e10 _ (by decide)).trans O8
  replace O9 := (e10 _ (by decide)).trans O9
  replace O10 := (e10 _ (by decide)).trans O10
  replace O11 := (e10 _ (by decide)).trans O11
  have O12 := n10
  replace hf : ∀ i, i ≠ 0 → i ≠ 1 → i ≠ 2 → i ≠ 3 → i ≠ 4 → i ≠ 5 → i ≠ 6 → i ≠ 7 → i ≠ 8 → i ≠ 9 → i ≠ 10 → i ≠ 11 → i ≠ 12 → i ≠ 13 → i ≠ 14 → i ≠ 15 → i ≠ 16 → i ≠ 17 → i ≠ 18 → i ≠ 19 → i ≠ 20 → i ≠ 21 → i ≠ 22 → i ≠ 23 → i ≠ 24 → i ≠ 25 → i ≠ 26 → i ≠ 27 → h10 i = h i := fun i g0 g1 g2 g3 g4 g5 g6 g7 g8 g9 g10 g11 g12 g13 g14 g15 g16 g17 g18 g19 g20 g21 g22 g23 g24 g25 g26 g27 => (e10 i g12).trans (hf i g0 g1 g2 g3 g4 g5 g6 g7 g8 g9 g10 g11 g12 g13 g14 g15 g16 g17 g18 g19 g20 g21 g22 g23 g24 g25 g26 g27)
  refine G_dup 42 dX9_init_41 rfl rfl ?_
  refine G_callCN 45 (L' := [(1, 0), (1, 1), (1, 2), (2, 0), (2, 1), (2, 2), (3, 0), (3, 1), (4, 0), (4, 1), (4, 2), (5, 0), (5, 1), (5, 2), (6, 0), (6, 1), (6, 2), (7, 0), (7, 1), (7, 2), (8, 0), (8, 1), (8, 2), (9, 0), (9, 1), (9, 2), (10, 0), (10, 1), (10, 2), (11, 0), (11, 1), (11, 2), (12, 0), (12, 1), (13, 0), (13, 1), (13, 2), (14, 0), (14, 1), (14, 2)]) rfl (S_X4_init _ l (hAd.L) O12) hAO dX9_init_42 rfl kX4_init nk_X9_28 (adn hsz (by decide)) ⟨rfl, rfl⟩ ⟨Nat.le_of_ble_eq_true rfl, Nat.le_of_ble_eq_true rfl⟩ ⟨Nat.le_of_ble_eq_true rfl, Nat.le_of_ble_eq_true rfl⟩ (Nat.le_of_ble_eq_true rfl) rfl (fun h11 q11 => ?_)
  obtain ⟨n11_0, n11_1, n11_2, e11⟩ := q11
  replace O0 := (e11 _ (by decide) (by decide) (by decide)).trans O0
  replace O1 := (e11 _ (by decide) (by decide) (by decide)).trans O1
  replace O2 := (e11 _ (by decide) (by decide) (by decide)).trans O2
  replace O3 := (e11 _ (by decide) (by decide) (by decide)).trans O3
  replace O4 := (e11 _ (by decide) (by decide) (by decide)).trans O4
  replace O5 := (e11 _ (by decide) (by decide) (by decide)).trans O5
  replace O6 := (e11 _ (by decide) (by decide) (by decide)).trans O6
  replace O7 := (e11 _ (by decide) (by decide) (by decide)).trans O7
  replace O8 := (e11 _ (by decide) (by decide) (by decide)).trans O8
  replace O9 := (e11 _ (by decide) (by decide) (by decide)).trans O9
  replace O10 := (e11 _ (by decide) (by decide) (by decide)).trans O10
  replace O11 := (e11 _ (by decide) (by decide) (by decide)).trans O11
  replace O12 := n11_0
  have O13 := n11_1
  have O14 := n11_2
  replace hf : ∀ i, i ≠ 0 → i ≠ 1 → i ≠ 2 → i ≠ 3 → i ≠ 4 → i ≠ 5 → i ≠ 6 → i ≠ 7 → i ≠ 8 → i ≠ 9 → i ≠ 10 → i ≠ 11 → i ≠ 12 → i ≠ 13 → i ≠ 14 → i ≠ 15 → i ≠ 16 → i ≠ 17 → i ≠ 18 → i ≠ 19 → i ≠ 20 → i ≠ 21 → i ≠ 22 → i ≠ 23 → i ≠ 24 → i ≠ 25 → i ≠ 26 → i ≠ 27 → h11 i = h i := fun i g0 g1 g2 g3 g4 g5 g6 g7 g8 g9 g10 g11 g12 g13 g14 g15 g16 g17 g18 g19 g20 g21 g22 g23 g24 g25 g26 g27 => (e11 i g12 g13 g14).trans (hf i g0 g1 g2 g3 g4 g5 g6 g7 g8 g9 g10 g11 g12 g13 g14 g15 g16 g17 g18 g19 g20 g21 g22 g23 g24 g25 g26 g27)
  refine G_putF 48 (b' := (9, [aR 1 0, aR 2 0, aI 0, aR 3 0, aR 12 0, aN, aN, aN, aN, aN, aN, aN], [])) hin dX9_init_45 rfl ff_X9_29 O0 (Nat.le_of_ble_eq_true rfl) rfl rfl rfl (fun h12 n12 e12 => ?_)
  replace O0 := n12
  replace O1 := (e12 _ (by decide)).trans O1
  replace O2 := (e12 _ (by decide)).trans O2
  replace O3 := (e12 _ (by decide)).trans O3
  replace O4 := (e12 _ (by decide)).trans O4
  replace O5 := (e12 _ (by decide)).trans O5
  replace O6 := (e12 _ (by decide)).trans O6
  replace O7 := (e12 _ (by decide)).trans O7
  replace O8 := (e12 _ (by decide)).trans O8
  replace O9 := (e12 _ (by decide)).trans O9
  replace O10 := (e12 _ (by decide)).trans O10
  replace O11 := (e12 _ (by decide)).trans O11
  replace O12 := (e12 _ (by decide)).trans O12
  replace O13 := (e12 _ (by decide)).trans O13
  replace O14 := (e12 _ (by decide)).trans O14
  replace hf : ∀ i, i ≠ 0 → i ≠ 1 → i ≠ 2 → i ≠ 3 → i ≠ 4 → i ≠ 5 → i ≠ 6 → i ≠ 7 → i ≠ 8 → i ≠ 9 → i ≠ 10 → i ≠ 11 → i ≠ 12 → i ≠ 13 → i ≠ 14 → i ≠ 15 → i ≠ 16 → i ≠ 17 → i ≠ 18 → i ≠ 19 → i ≠ 20 → i ≠ 21 → i ≠ 22 → i ≠ 23 → i ≠ 24 → i ≠ 25 → i ≠ 26 → i ≠ 27 → h12 i = h i := fun i g0 g1 g2 g3 g4 g5 g6 g7 g8 g9 g10 g11 g12 g13 g14 g15 g16 g17 g18 g19 g20 g21 g22 g23 g24 g25 g26 g27 => (e12 i g0).trans (hf i g0 g1 g2 g3 g4 g5 g6 g7 g8 g9 g10 g11 g12 g13 g14 g15 g16 g17 g18 g19 g20 g21 g22 g23 g24 g25 g26 g27)
  refine G_aload_n 49 dX9_init_48 rfl rfl rfl ?_
  refine G_new 52 (o := 15) (L' := [(1, 0), (1, 1), (1, 2), (2, 0), (2, 1), (2, 2), (3, 0), (3, 1), (4, 0), (4, 1), (4, 2), (5, 0), (5, 1), (5, 2), (6, 0), (6, 1), (6, 2), (7, 0), (7, 1), (7, 2), (8, 0), (8, 1), (8, 2), (9, 0), (9, 1), (9, 2), (10, 0), (10, 1), (10, 2), (11, 0), (11, 1), (11, 2), (12, 0), (12, 1), (13, 0), (13, 1), (13, 2), (14, 0), (14, 1), (14, 2), (15, 0)]) [aN, aI (nI 0)] tyX7 rfl dX9_init_49 rfl (ci := 7) (N := 2) rfl uX7 tyX7_ok cw_X9_33 is_X7 ii_X7 (fun j hj => by rcases (show j = 0 ∨ j = 1 by omega) with rfl | rfl <;> rfl) ⟨Nat.le_of_ble_eq_true rfl, Nat.le_of_ble_eq_true rfl⟩ (adq hAd hsz (by decide) (by decide)) (hAd.mono (by decide)) rfl (fun h13 n13 e13 => ?_)
  replace O0 := (e13 _ (by decide)).trans O0
  replace O1 := (e13 _ (by decide)).trans O1
  replace O2 := (e13 _ (by decide)).trans O2
  replace O3 := (e13 _ (by decide)).trans O3
  replace O4 := (e13 _ (by decide)).trans O4
  replace O5 := (e13 _ (by decide)).trans O5
  replace O6 := (e13 _ (by decide)).trans O6
  replace O7 := (e13 _ (by decide)).trans O7
  replace O8 := (e13 _ (by decide)).trans O8
  replace O9 := (e13 _ (by decide)).trans O9
  replace O10 := (e13 _ (by decide)).trans O10
  replace O11 := (e13 _ (by decide)).trans O11
  replace O12 := (e13 _ (by decide)).trans O12
  replace O13 := (e13 _ (by decide)).trans O13
  replace O14 := (e13 _ (by decide)).trans O14
  have O15 := n13
  replace hf : ∀ i, i ≠ 0 → i ≠ 1 → i ≠ 2 → i ≠ 3 → i ≠ 4 → i ≠ 5 → i ≠ 6 → i ≠ 7 → i ≠ 8 → i ≠ 9 → i ≠ 10 → i ≠ 11 → i ≠ 12 → i ≠ 13 → i ≠ 14 → i ≠ 15 → i ≠ 16 → i ≠ 17 → i ≠ 18 → i ≠ 19 → i ≠ 20 → i ≠ 21 → i ≠ 22 → i ≠ 23 → i ≠ 24 → i ≠ 25 → i ≠ 26 → i ≠ 27 → h13 i = h i := fun i g0 g1 g2 g3 g4 g5 g6 g7 g8 g9 g10 g11 g12 g13 g14 g15 g16 g17 g18 g19 g20 g21 g22 g23 g24 g25 g26 g27 => (e13 i g15).trans (hf i g0 g1 g2 g3 g4 g5 g6 g7 g8 g9 g10 g11 g12 g13 g14 g15 g16 g17 g18 g19 g20 g21 g22 g23 g24 g25 g26 g27)
  refine G_dup 53 dX9_init_52 rfl rfl ?_
  refine G_callCN 56 (L' := [(1, 0), (1, 1), (1, 2), (2, 0), (2, 1), (2, 2), (3, 0), (3, 1), (4, 0), (4, 1), (4, 2), (5, 0), (5, 1), (5, 2), (6, 0), (6, 1), (6, 2), (7, 0), (7, 1), (7, 2), (8, 0), (8, 1), (8, 2), (9, 0), (9, 1), (9, 2), (10, 0), (10, 1), (10, 2), (11, 0), (11, 1), (11, 2), (12, 0), (12, 1), (13, 0), (13, 1), (13, 2), (14, 0), (14, 1), (14, 2), (15, 0), (15, 1)]) rfl (S_X7_init _ l (hAd.L) O15) hAO dX9_init_53 rfl kX7_init nk_X9_35 (adn hsz (by decide)) ⟨rfl, rfl⟩ ⟨Nat.le_of_ble_eq_true rfl, Nat.le_of_ble_eq_true rfl⟩ ⟨Nat.le_of_ble_eq_true rfl, Nat.le_of_ble_eq_true rfl⟩ (Nat.le_of_ble_eq_true rfl) rfl (fun h14 q14 => ?_)
  obtain ⟨n14_0, e14⟩ := q14
  replace O0 := (e14 _ (by decide)).trans O0
  replace O1 := (e14 _ (by decide)).trans O1
  replace O2 := (e14 _ (by decide)).trans O2
  replace O3 := (e14 _ (by decide)).trans O3
  replace O4 := (e14 _ (by decide)).trans O4
  replace O5 := (e14 _ (by decide)).trans O5
  replace O6 := (e14 _ (by decide)).trans O6
  replace O7 := (e14 _ (by decide)).trans O7
  replace O8 := (e14 _ (by decide)).trans O8
  replace O9 := (e14 _ (by decide)).trans O9
  replace O10 := (e14 _ (by decide)).trans O10
  replace O11 := (e14 _ (by decide)).trans O11
  replace O12 := (e14 _ (by decide)).trans O12
  replace O13 := (e14 _ (by decide)).trans O13
  replace O14 := (e14 _ (by decide)).trans O14
  replace O15 := n14_0
  replace hf : ∀ i, i ≠ 0 → i ≠ 1 → i ≠ 2 → i ≠ 3 → i ≠ 4 → i ≠ 5 → i ≠ 6 → i ≠ 7 → i ≠ 8 → i ≠ 9 → i ≠ 10 → i ≠ 11 → i ≠ 12 → i ≠ 13 → i ≠ 14 → i ≠ 15 → i ≠ 16 → i ≠ 17 → i ≠ 18 → i ≠ 19 → i ≠ 20 → i ≠ 21 → i ≠ 22 → i ≠ 23 → i ≠ 24 → i ≠ 25 → i ≠ 26 → i ≠ 27 → h14 i = h i := fun i g0 g1 g2 g3 g4 g5 g6 g7 g8 g9 g10 g11 g12 g13 g14 g15 g16 g17 g18 g19 g20 g21 g22 g23 g24 g25 g26 g27 => (e14 i g15).trans (hf i g0 g1 g2 g3 g4 g5 g6 g7 g8 g9 g10 g11 g12 g13 g14 g15 g16 g17 g18 g19 g20 g21 g22 g23 g24 g25 g26 g27)
  refine G_putF 59 (b' := (9, [aR 1 0, aR 2 0, aI 0, aR 3 0, aR 12 0, aR 15 0, aN, aN, aN, aN, aN, aN], [])) hin dX9_init_56 rfl ff_X9_36 O0 (Nat.le_of_ble_eq_true rfl) rfl rfl rfl (fun h15 n15 e15 => ?_)
  replace O0 := n15
  replace O1 := (e15 _ (by decide)).trans O1
  replace O2 := (e15 _ (by decide)).trans O2
  replace O3 := (e15 _ (by decide)).trans O3
  replace O4 := (e15 _ (by decide)).trans O4
  replace O5 := (e15 _ (by decide)).trans O5
  replace O6 := (e15 _ (by decide)).trans O6
  replace O7 := (e15 _ (by decide)).trans O7
  replace O8 := (e15 _ (by decide)).trans O8
  replace O9 := (e15 _ (by decide)).trans O9
  replace O10 := (e15 _ (by decide)).trans O10
  replace O11 := (e15 _ (by decide)).trans O11
  replace O12 := (e15 _ (by decide)).trans O12
  replace O13 := (e15 _ (by decide)).trans O13
  replace O14 := (e15 _ (by decide)).trans O14
  replace O15 := (e15 _ (by decide)).trans O15
  replace hf : ∀ i, i ≠ 0 → i ≠ 1 → i ≠ 2 → i ≠ 3 → i ≠ 4 → i ≠ 5 → i ≠ 6 → i ≠ 7 → i ≠ 8 → i ≠ 9 → i ≠ 10 → i ≠ 11 → i ≠ 12 → i ≠ 13 → i ≠ 14 → i ≠ 15 → i ≠ 16 → i ≠ 17 → i ≠ 18 → i ≠ 19 → i ≠ 20 → i ≠ 21 → i ≠ 22 → i ≠ 23 → i ≠ 24 → i ≠ 25 → i ≠ 26 → i ≠ 27 → h15 i = h i := fun i g0 g1 g2 g3 g4 g5 g6 g7 g8 g9 g10 g11 g12 g13 g14 g15 g16 g17 g18 g19 g20 g21 g22 g23 g24 g25 g26 g27 => (e15 i g0).trans (hf i g0 g1 g2 g3 g4 g5 g6 g7 g8 g9 g10 g11 g12 g13 g14 g15 g16 g17 g18 g19 g20 g21 g22 g23 g24 g25 g26 g27)
  refine G_aload_n 60 dX9_init_59 rfl rfl rfl ?_
  refine G_bipush 62 (nI 7) dX9_init_60 rfl (by decide) ?_
  refine G_newa 64 (j := 1) (L' := [(1, 0), (1, 1), (1, 2), (2, 0), (2, 1), (2, 2), (3, 0), (3, 1), (4, 0), (4, 1), (4, 2), (5, 0), (5, 1), (5, 2), (6, 0), (6, 1), (6, 2), (7, 0), (7, 1), (7, 2), (8, 0), (8, 1), (8, 2), (9, 0), (9, 1), (9, 2), (10, 0), (10, 1), (10, 2), (11, 0), (11, 1), (11, 2), (12, 0), (12, 1), (13, 0), (13, 1), (13, 2), (14, 0), (14, 1), (14, 2), (15, 0), (15, 1), (0, 1)]) (b' := (9, [aR 1 0, aR 2 0, aI 0, aR 3 0, aR 12 0, aR 15 0, aN, aN, aN, aN, aN, aN], [kI 7 (fun _ => 0)])) (kI 7 (fun _ => 0)) rfl dX9_init_62 rfl acI O0 rfl (adq hAd hsz (by decide) (by decide)) rfl (by decide) clI (ceI 7) (by decide) ⟨Nat.le_of_ble_eq_true rfl, Nat.le_of_ble_eq_true rfl⟩ rfl rfl (fun h16 n16 e16 => ?_)
  replace O0 := n16
  replace O1 := (e16 _ (by decide)).trans O1
  replace O2 := (e16 _ (by decide)).trans O2
  replace O3 := (e16 _ (by decide)).trans O3
  replace O4 := (e16 _ (by decide)).trans O4
  replace O5 := (e16 _ (by decide)).trans O5
  replace O6 := (e16 _ (by decide)).trans O6
  replace O7 := (e16 _ (by decide)).trans O7
  replace O8 := (e16 _ (by decide)).trans O8
  replace O9 := (e16 _ (by decide)).trans O9
  replace O10 := (e16 _ (by decide)).trans O10
  replace O11 := (e16 _ (by decide)).trans O11
  replace O12 := (e16 _ (by decide)).trans O12
  replace O13 := (e16 _ (by decide)).trans O13
  replace O14 := (e16 _ (by decide)).trans O14
  replace O15 := (e16 _ (by decide)).trans O15
  replace hf : ∀ i, i ≠ 0 → i ≠ 1 → i ≠ 2 → i ≠ 3 → i ≠ 4 → i ≠ 5 → i ≠ 6 → i ≠ 7 → i ≠ 8 → i ≠ 9 → i ≠ 10 → i ≠ 11 → i ≠ 12 → i ≠ 13 → i ≠ 14 → i ≠ 15 → i ≠ 16 → i ≠ 17 → i ≠ 18 → i ≠ 19 → i ≠ 20 → i ≠ 21 → i ≠ 22 → i ≠ 23 → i ≠ 24 → i ≠ 25 → i ≠ 26 → i ≠ 27 → h16 i = h i := fun i g0 g1 g2 g3 g4 g5 g6 g7 g8 g9 g10 g11 g12 g13 g14 g15 g16 g17 g18 g19 g20 g21 g22 g23 g24 g25 g26 g27 => (e16 i g0).trans (hf i g0 g1 g2 g3 g4 g5 g6 g7 g8 g9 g10 g11 g12 g13 g14 g15 g16 g17 g18 g19 g20 g21 g22 g23 g24 g25 g26 g27)
  refine G_putF 67 (b' := (9, [aR 1 0, aR 2 0, aI 0, aR 3 0, aR 12 0, aR 15 0, aR 0 1, aN, aN, aN, aN, aN], [kI 7 (fun _ => 0)])) hin dX9_init_64 rfl ff_X9_40 O0 (Nat.le_of_ble_eq_true rfl) rfl rfl rfl (fun h17 n17 e17 => ?_)
  replace O0 := n17
  replace O1 := (e17 _ (by decide)).trans O1
  replace O2 := (e17 _ (by decide)).trans O2
  replace O3 := (e17 _ (by decide)).trans O3
  replace O4 := (e17 _ (by decide)).trans O4
  replace O5 := (e17 _ (by decide)).trans O5
  replace O6 := (e17 _ (by decide)).trans O6
  replace O7 := (e17 _ (by decide)).trans O7
  replace O8 := (e17 _ (by decide)).trans O8
  replace O9 := (e17 _ (by decide)).trans O9
  replace O10 := (e17 _ (by decide)).trans O10
  replace O11 := (e17 _ (by decide)).trans O11
  replace O12 := (e17 _ (by decide)).trans O12
  replace O13 := (e17 _ (by decide)).trans O13
  replace O14 := (e17 _ (by decide)).trans O14
  replace O15 := (e17 _ (by decide)).trans O15
  replace hf : ∀ i, i ≠ 0 → i ≠ 1 → i ≠ 2 → i ≠ 3 → i ≠ 4 → i ≠ 5 → i ≠ 6 → i ≠ 7 → i ≠ 8 → i ≠ 9 → i ≠ 10 → i ≠ 11 → i ≠ 12 → i ≠ 13 → i ≠ 14 → i ≠ 15 → i ≠ 16 → i ≠ 17 → i ≠ 18 → i ≠ 19 → i ≠ 20 → i ≠ 21 → i ≠ 22 → i ≠ 23 → i ≠ 24 → i ≠ 25 → i ≠ 26 → i ≠ 27 → h17 i = h i := fun i g0 g1 g2 g3 g4 g5 g6 g7 g8 g9 g10 g11 g12 g13 g14 g15 g16 g17 g18 g19 g20 g21 g22 g23 g24 g25 g26 g27 => (e17 i g0).trans (hf i g0 g1 g2 g3 g4 g5 g6 g7 g8 g9 g10 g11 g12 g13 g14 g15 g16 g17 g18 g19 g20 g21 g22 g23 g24 g25 g26 g27)
  refine G_aload_n 68 dX9_init_67 rfl rfl rfl ?_
  refine G_new 71 (o := 16) (L' := [(1, 0), (1, 1), (1, 2), (2, 0), (2, 1), (2, 2), (3, 0), (3, 1), (4, 0), (4, 1), (4, 2), (5, 0), (5, 1), (5, 2), (6, 0), (6, 1), (6, 2), (7, 0), (7, 1), (7, 2), (8, 0), (8, 1), (8, 2), (9, 0), (9, 1), (9, 2), (10, 0), (10, 1), (10, 2), (11, 0), (11, 1), (11, 2), (12, 0), (12, 1), (13, 0), (13, 1), (13, 2), (14, 0), (14, 1), (14, 2), (15, 0), (15, 1), (0, 1), (16, 0)]) [aN, aN, aI 0, aI 0] tyX1 rfl dX9_init_68 rfl (ci := 1) (N := 4) rfl uX1 tyX1_ok cw_X9_44 is_X1 ii_X1 (fun j hj => by rcases (show j = 0 ∨ j = 1 ∨ j = 2 ∨ j = 3 by omega) with rfl | rfl | rfl | rfl <;> rfl) ⟨Nat.le_of_ble_eq_true rfl, Nat.le_of_ble_eq_true rfl⟩ (adq hAd hsz (by decide) (by decide)) (hAd.mono (by decide)) rfl (fun h18 n18 e18 => ?_)
  replace O0 := (e18 _ (by decide)).trans O0
  replace O1 := (e18 _ (by decide)).trans O1
  replace O2 := (e18 _ (by decide)).trans O2
  replace O3 := (e18 _ (by decide)).trans O3
  replace O4 := (e18 _ (by decide)).trans O4
  replace O5 := (e18 _ (by decide)).trans O5
  replace O6 := (e18 _ (by decide)).trans O6
  replace O7 := (e18 _ (by decide)).trans O7
  replace O8 := (e18 _ (by decide)).trans O8
  replace O9 := (e18 _ (by decide)).trans O9
  replace O10 := (e18 _ (by decide)).trans O10
  replace O11 := (e18 _ (by decide)).trans O11
  replace O12 := (e18 _ (by decide)).trans O12
  replace O13 := (e18 _ (by decide)).trans O13
  replace O14 := (e18 _ (by decide)).trans O14
  replace O15 := (e18 _ (by decide)).trans O15
  have O16 := n18
  replace hf : ∀ i, i ≠ 0 → i ≠ 1 → i ≠ 2 → i ≠ 3 → i ≠ 4 → i ≠ 5 → i ≠ 6 → i ≠ 7 → i ≠ 8 → i ≠ 9 → i ≠ 10 → i ≠ 11 → i ≠ 12 → i ≠ 13 → i ≠ 14 → i ≠ 15 → i ≠ 16 → i ≠ 17 → i ≠ 18 → i ≠ 19 → i ≠ 20 → i ≠ 21 → i ≠ 22 → i ≠ 23 → i ≠ 24 → i ≠ 25 → i ≠ 26 → i ≠ 27 → h18 i = h i := fun i g0 g1 g2 g3 g4 g5 g6 g7 g8 g9 g10 g11 g12 g13 g14 g15 g16 g17 g18 g19 g20 g21 g22 g23 g24 g25 g26 g27 => (e18 i g16).trans (hf i g0 g1 g2 g3 g4 g5 g6 g7 g8 g9 g10 g11 g12 g13 g14 g15 g16 g17 g18 g19 g20 g21 g22 g23 g24 g25 g26 g27)
  refine G_dup 72 dX9_init_71 rfl rfl ?_
  refine G_callCN 75 (L' := [(1, 0), (1, 1), (1, 2), (2, 0), (2, 1), (2, 2), (3, 0), (3, 1), (4, 0), (4, 1), (4, 2), (5, 0), (5, 1), (5, 2), (6, 0), (6, 1), (6, 2), (7, 0), (7, 1), (7, 2), (8, 0), (8, 1), (8, 2), (9, 0), (9, 1), (9, 2), (10, 0), (10, 1), (10, 2), (11, 0), (11, 1), (11, 2), (12, 0), (12, 1), (13, 0), (13, 1), (13, 2), (14, 0), (14, 1), (14, 2), (15, 0), (15, 1), (0, 1), (16, 0), (16, 1), (16, 2)]) rfl (S_X1_init _ l (c := 45) (hAd.L) (by decide) (by decide) (by decide) O16) hAO dX9_init_72 rfl kX1_init nk_X9_46 (adn hsz (by decide)) ⟨rfl, rfl⟩ ⟨Nat.le_of_ble_eq_true rfl, Nat.le_of_ble_eq_true rfl⟩ ⟨Nat.le_of_ble_eq_true rfl, Nat.le_of_ble_eq_true rfl⟩ (Nat.le_of_ble_eq_true rfl) rfl (fun h19 q19 => ?_)
  obtain ⟨n19_0, e19⟩ := q19
  replace O0 := (e19 _ (by decide)).trans O0
  replace O1 := (e19 _ (by decide)).trans O1
  replace O2 := (e19 _ (by decide)).trans O2
  replace O3 := (e19 _ (by decide)).trans O3
  replace O4 := (e19 _ (by decide)).trans O4
  replace O5 := (e19 _ (by decide)).trans O5
  replace O6 := (e19 _ (by decide)).trans O6
  replace O7 := (e19 _ (by decide)).trans O7
  replace O8 := (e19 _ (by decide)).trans O8
  replace O9 := (e19 _ (by decide)).trans O9
  replace O10 := (e19 _ (by decide)).trans O10
  replace O11 := (e19 _ (by decide)).trans O11
  replace O12 := (e19 _ (by decide)).trans O12
  replace O13 := (e19 _ (by decide)).trans O13
  replace O14 := (e19 _ (by decide)).trans O14
  replace O15 := (e19 _ (by decide)).trans O15
  replace O16 := n19_0
  replace hf : ∀ i, i ≠ 0 → i ≠ 1 → i ≠ 2 → i ≠ 3 → i ≠ 4 → i ≠ 5 → i ≠ 6 → i ≠ 7 → i ≠ 8 → i ≠ 9 → i ≠ 10 → i ≠ 11 → i ≠ 12 → i ≠ 13 → i ≠ 14 → i ≠ 15 → i ≠ 16 → i ≠ 17 → i ≠ 18 → i ≠ 19 → i ≠ 20 → i ≠ 21 → i ≠ 22 → i ≠ 23 → i ≠ 24 → i ≠ 25 → i ≠ 26 → i ≠ 27 → h19 i = h i := fun i g0 g1 g2 g3 g4 g5 g6 g7 g8 g9 g10 g11 g12 g13 g14 g15 g16 g17 g18 g19 g20 g21 g22 g23 g24 g25 g26 g27 => (e19 i g16).trans (hf i g0 g1 g2 g3 g4 g5 g6 g7 g8 g9 g10 g11 g12 g13 g14 g15 g16 g17 g18 g19 g20 g21 g22 g23 g24 g25 g26 g27)
  refine G_putF 78 (b' := (9, [aR 1 0, aR 2 0, aI 0, aR 3 0, aR 12 0, aR 15 0, aR 0 1, aR 16 0, aN, aN, aN, aN], [kI 7 (fun _ => 0)])) hin dX9_init_75 rfl ff_X9_47 O0 (Nat.le_of_ble_eq_true rfl) rfl rfl rfl (fun h20 n20 e20 => ?_)
  replace O0 := n20
  replace O1 := (e20 _ (by decide)).trans O1
  replace O2 := (e20 _ (by decide)).trans O2
  replace O3 := (e20 _ (by decide)).trans O3
  replace O4 := (e20 _ (by decide)).trans O4
  replace O5 := (e20 _ (by decide)).trans O5
  replace O6 := (e20 _ (by decide)).trans O6
  replace O7 := (e20 _ (by decide)).trans O7
  replace O8 := (e20 _ (by decide)).trans O8
  replace O9 := (e20 _ (by decide)).trans O9
  replace O10 := (e20 _ (by decide)).trans O10
  replace O11 := (e20 _ (by decide)).trans O11
  replace O12 := (e20 _ (by decide)).trans O12
  replace O13 := (e20 _ (by decide)).trans O13
  replace O14 := (e20 _ (by decide)).trans O14
  replace O15 := (e20 _ (by decide)).trans O15
  replace O16 := (e20 _ (by decide)).trans O16
  replace hf : ∀ i, i ≠ 0 → i ≠ 1 → i ≠ 2 → i ≠ 3 → i ≠ 4 → i ≠ 5 → i ≠ 6 → i ≠ 7 → i ≠ 8 → i ≠ 9 → i ≠ 10 → i ≠ 11 → i ≠ 12 → i ≠ 13 → i ≠ 14 → i ≠ 15 → i ≠ 16 → i ≠ 17 → i ≠ 18 → i ≠ 19 → i ≠ 20 → i ≠ 21 → i ≠ 22 → i ≠ 23 → i ≠ 24 → i ≠ 25 → i ≠ 26 → i ≠ 27 → h20 i = h i := fun i g0 g1 g2 g3 g4 g5 g6 g7 g8 g9 g10 g11 g12 g13 g14 g15 g16 g17 g18 g19 g20 g21 g22 g23 g24 g25 g26 g27 => (e20 i g0).trans (hf i g0 g1 g2 g3 g4 g5 g6 g7 g8 g9 g10 g11 g12 g13 g14 g15 g16 g17 g18 g19 g20 g21 g22 g23 g24 g25 g26 g27)
  refine G_aload_n 79 dX9_init_78 rfl rfl rfl ?_
  refine G_new 82 (o := 17) (L' := [(1, 0), (1, 1), (1, 2), (2, 0), (2, 1), (2, 2), (3, 0), (3, 1), (4, 0), (4, 1), (4, 2), (5, 0), (5, 1), (5, 2), (6, 0), (6, 1), (6, 2), (7, 0), (7, 1), (7, 2), (8, 0), (8, 1), (8, 2), (9, 0), (9, 1), (9, 2), (10, 0), (10, 1), (10, 2), (11, 0), (11, 1), (11, 2), (12, 0), (12, 1), (13, 0), (13, 1), (13, 2), (14, 0), (14, 1), (14, 2), (15, 0), (15, 1), (0, 1), (16, 0), (16, 1), (16, 2), (17, 0)]) [aN, aN, aI (nI 0)] tyX3 rfl dX9_init_79 rfl (ci := 3) (N := 3) rfl uX3 tyX3_ok cw_X9_51 is_X3 ii_X3 (fun j hj => by rcases (show j = 0 ∨ j = 1 ∨ j = 2 by omega) with rfl | rfl | rfl <;> rfl) ⟨Nat.le_of_ble_eq_true rfl, Nat.le_of_ble_eq_true rfl⟩ (adq hAd hsz (by decide) (by decide)) (hAd.mono (by decide)) rfl (fun h21 n21 e21 => ?_)
  replace O0 := (e21 _ (by decide)).trans O0
  replace O1 := (e21 _ (by decide)).trans O1
  replace O2 := (e21 _ (by decide)).trans O2
  replace O3 := (e21 _ (by decide)).trans O3
  replace O4 := (e21 _ (by decide)).trans O4
  replace O5 := (e21 _ (by decide)).trans O5
  replace O6 := (e21 _ (by decide)).trans O6
  replace O7 := (e21 _ (by decide)).trans O7
  replace O8 := (e21 _ (by decide)).trans O8
  replace O9 := (e21 _ (by decide)).trans O9
  replace O10 := (e21 _ (by decide)).trans O10
  replace O11 := (e21 _ (by decide)).trans O11
  replace O12 := (e21 _ (by decide)).trans O12
  replace O13 := (e21 _ (by decide)).trans O13
  replace O14 := (e21 _ (by decide)).trans O14
  replace O15 := (e21 _ (by decide)).trans O15
  replace O16 := (e21 _ (by decide)).trans O16
  have O17 := n21
  replace hf : ∀ i, i ≠ 0 → i ≠ 1 → i ≠ 2 → i ≠ 3 → i ≠ 4 → i ≠ 5 → i ≠ 6 → i ≠ 7 → i ≠ 8 → i ≠ 9 → i ≠ 10 → i ≠ 11 → i ≠ 12 → i ≠ 13 → i ≠ 14 → i ≠ 15 → i ≠ 16 → i ≠ 17 → i ≠ 18 → i ≠ 19 → i ≠ 20 → i ≠ 21 → i ≠ 22 → i ≠ 23 → i ≠ 24 → i ≠ 25 → i ≠ 26 → i ≠ 27 → h21 i = h i := fun i g0 g1 g2 g3 g4 g5 g6 g7 g8 g9 g10 g11 g12 g13 g14 g15 g16 g17 g18 g19 g20 g21 g22 g23 g24 g25 g26 g27 => (e21 i g17).trans (hf i g0 g1 g2 g3 g4 g5 g6 g7 g8 g9 g10 g11 g12 g13 g14 g15 g16 g17 g18 g19 g20 g21 g22 g23 g24 g25 g26 g27)
  refine G_dup 83 dX9_init_82 rfl rfl ?_
  refine G_callCN 86 (L' := [(1, 0), (1, 1), (1, 2), (2, 0), (2, 1), (2, 2), (3, 0), (3, 1), (4, 0), (4, 1), (4, 2), (5, 0), (5, 1), (5, 2), (6, 0), (6, 1), (6, 2), (7, 0), (7, 1), (7, 2), (8, 0), (8, 1), (8, 2), (9, 0), (9, 1), (9, 2), (10, 0), (10, 1), (10, 2), (11, 0), (11, 1), (11, 2), (12, 0), (12, 1), (13, 0), (13, 1), (13, 2), (14, 0), (14, 1), (14, 2), (15, 0), (15, 1), (0, 1), (16, 0), (16, 1), (16, 2), (17, 0), (17, 1), (18, 0), (18, 1), (18, 2)]) rfl (S_X3_init _ l (hAd.L) O17) hAO dX9_init_83 rfl kX3_init nk_X9_53 (adn hsz (by decide)) ⟨rfl, rfl⟩ ⟨Nat.le_of_ble_eq_true rfl, Nat.le_of_ble_eq_true rfl⟩ ⟨Nat.le_of_ble_eq_true rfl, Nat.le_of_ble_eq_true rfl⟩ (Nat.le_of_ble_eq_true rfl) rfl (fun h22 q22 => ?_)
  obtain ⟨n22_0, n22_1, e22⟩ := q22
  replace O0 := (e22 _ (by decide) (by decide)).trans O0
  replace O1 := (e22 _ (by decide) (by decide)).trans O1
  replace O2 := (e22 _ (by decide) (by decide)).trans O2
  replace O3 := (e22 _ (by decide) (by decide)).trans O3
  replace O4 := (e22 _ (by decide) (by decide)).trans O4
  replace O5 := (e22 _ (by decide) (by decide)).trans O5
  replace O6 := (e22 _ (by decide) (by decide)).trans O6
  replace O7 := (e22 _ (by decide) (by decide)).trans O7
  replace O8 := (e22 _ (by decide) (by decide)).trans O8
  replace O9 := (e22 _ (by decide) (by decide)).trans O9
  replace O10 := (e22 _ (by decide) (by decide)).trans O10
  replace O11 := (e22 _ (by decide) (by decide)).trans O11
  replace O12 := (e22 _ (by decide) (by decide)).trans O12
  replace O13 := (e22 _ (by decide) (by decide)).trans O13
  replace O14 := (e22 _ (by decide) (by decide)).trans O14
  replace O15 := (e22 _ (by decide) (by decide)).trans O15
  replace O16 := (e22 _ (by decide) (by decide)).trans O16
  replace O17 := n22_0
  have O18 := n22_1
  replace hf : ∀ i, i ≠ 0 → i ≠ 1 → i ≠ 2 → i ≠ 3 → i ≠ 4 → i ≠ 5 → i ≠ 6 → i ≠ 7 → i ≠ 8 → i ≠ 9 → i ≠ 10 → i ≠ 11 → i ≠ 12 → i ≠ 13 → i ≠ 14 → i ≠ 15 → i ≠ 16 → i ≠ 17 → i ≠ 18 → i ≠ 19 → i ≠ 20 → i ≠ 21 → i ≠ 22 → i ≠ 23 → i ≠ 24 → i ≠ 25 → i ≠ 26 → i ≠ 27 → h22 i = h i := fun i g0 g1 g2 g3 g4 g5 g6 g7 g8 g9 g10 g11 g12 g13 g14 g15 g16 g17 g18 g19 g20 g21 g22 g23 g24 g25 g26 g27 => (e22 i g17 g18).trans (hf i g0 g1 g2 g3 g4 g5 g6 g7 g8 g9 g10 g11 g12 g13 g14 g15 g16 g17 g18 g19 g20 g21 g22 g23 g24 g25 g26 g27)
  refine G_putF 89 (b' := (9, [aR 1 0, aR 2 0, aI 0, aR 3 0, aR 12 0, aR 15 0, aR 0 1, aR 16 0, aR 17 0, aN, aN, aN], [kI 7 (fun _ => 0)])) hin dX9_init_86 rfl ff_X9_54 O0 (Nat.le_of_ble_eq_true rfl) rfl rfl rfl (fun h23 n23 e23 => ?_)
  replace O0 := n23
  replace O1 := (e23 _ (by decide)).trans O1
  replace O2 := (e23 _ (by decide)).trans O2
  replace O3 := (e23 _ (by decide)).trans O3
  replace O4 := (e23 _ (by decide)).trans O4
  replace O5 := (e23 _ (by decide)).trans O5
  replace O6 := (e23 _ (by decide)).trans O6
  replace O7 := (e23 _ (by decide)).trans O7
  replace O8 := (e23 _ (by decide)).trans O8
  replace O9 := (e23 _ (by decide)).trans O9
  replace O10 := (e23 _ (by decide)).trans O10
  replace O11 := (e23 _ (by decide)).trans O11
  replace O12 := (e23 _ (by decide)).trans O12
  replace O13 := (e23 _ (by decide)).trans O13
  replace O14 := (e23 _ (by decide)).trans O14
  replace O15 := (e23 _ (by decide)).trans O15
  replace O16 := (e23 _ (by decide)).trans O16
  replace O17 := (e23 _ (by decide)).trans O17
  replace O18 := (e23 _ (by decide)).trans O18
  replace hf : ∀ i, i ≠ 0 → i ≠ 1 → i ≠ 2 → i ≠ 3 → i ≠ 4 → i ≠ 5 → i ≠ 6 → i ≠ 7 → i ≠ 8 → i ≠ 9 → i ≠ 10 → i ≠ 11 → i ≠ 12 → i ≠ 13 → i ≠ 14 → i ≠ 15 → i ≠ 16 → i ≠ 17 → i ≠ 18 → i ≠ 19 → i ≠ 20 → i ≠ 21 → i ≠ 22 → i ≠ 23 → i ≠ 24 → i ≠ 25 → i ≠ 26 → i ≠ 27 → h23 i = h i := fun i g0 g1 g2 g3 g4 g5 g6 g7 g8 g9 g10 g11 g12 g13 g14 g15 g16 g17 g18 g19 g20 g21 g22 g23 g24 g25 g26 g27 => (e23 i g0).trans (hf i g0 g1 g2 g3 g4 g5 g6 g7 g8 g9 g10 g11 g12 g13 g14 g15 g16 g17 g18 g19 g20 g21 g22 g23 g24 g25 g26 g27)
  refine G_aload_n 90 dX9_init_89 rfl rfl rfl ?_
  refine G_new 93 (o := 19) (L' := [(1, 0), (1, 1), (1, 2), (2, 0), (2, 1), (2, 2), (3, 0), (3, 1), (4, 0), (4, 1), (4, 2), (5, 0), (5, 1), (5, 2), (6, 0), (6, 1), (6, 2), (7, 0), (7, 1), (7, 2), (8, 0), (8, 1), (8, 2), (9, 0), (9, 1), (9, 2), (10, 0), (10, 1), (10, 2), (11, 0), (11, 1), (11, 2), (12, 0), (12, 1), (13, 0), (13, 1), (13, 2), (14, 0), (14, 1), (14, 2), (15, 0), (15, 1), (0, 1), (16, 0), (16, 1), (16, 2), (17, 0), (17, 1), (18, 0), (18, 1), (18, 2), (19, 0)]) [aN] tyX6 rfl dX9_init_90 rfl (ci := 6) (N := 1) rfl uX6 tyX6_ok cw_X9_58 is_X6 ii_X6 (fun j hj => by rcases (show j = 0 by omega) with rfl <;> rfl) ⟨Nat.le_of_ble_eq_true rfl, Nat.le_of_ble_eq_true rfl⟩ (adq hAd hsz (by decide) (by decide)) (hAd.mono (by decide)) rfl (fun h24 n24 e24 => ?_)
  replace O0 := (e24 _ (by decide)).trans O0
  replace O1 := (e24 _ (by decide)).trans O1
  replace O2 := (e24 _ (by decide)).trans O2
  replace O3 := (e24 _ (by decide)).trans O3
  replace O4 := (e24 _ (by decide)).trans O4
  replace O5 := (e24 _ (by decide)).trans O5
  replace O6 := (e24 _ (by decide)).trans O6
  replace O7 := (e24 _ (by decide)).trans O7
  replace O8 := (e24 _ (by decide)).trans O8
  replace O9 := (e24 _ (by decide)).trans O9
  replace O10 := (e24 _ (by decide)).trans O10
  replace O11 := (e24 _ (by decide)).trans O11
  replace O12 := (e24 _ (by decide)).trans O12
  replace O13 := (e24 _ (by decide)).trans O13
  replace O14 := (e24 _ (by decide)).trans O14
  replace O15 := (e24 _ (by decide)).trans O15
  replace O16 := (e24 _ (by decide)).trans O16
  replace O17 := (e24 _ (by decide)).trans O17
  replace O18 := (e24 _ (by decide)).trans O18
  have O19 := n24
  replace hf : ∀ i, i ≠ 0 → i ≠ 1 → i ≠ 2 → i ≠ 3 → i ≠ 4 → i ≠ 5 → i ≠ 6 → i ≠ 7 → i ≠ 8 → i ≠ 9 → i ≠ 10 → i ≠ 11 → i ≠ 12 → i ≠ 13 → i ≠ 14 → i ≠ 15 → i ≠ 16 → i ≠ 17 → i ≠ 18 → i ≠ 19 → i ≠ 20 → i ≠ 21 → i ≠ 22 → i ≠ 23 → i ≠ 24 → i ≠ 25 → i ≠ 26 → i ≠ 27 → h24 i = h i := fun i g0 g1 g2 g3 g4 g5 g6 g7 g8 g9 g10 g11 g12 g13 g14 g15 g16 g17 g18 g19 g20 g21 g22 g23 g24 g25 g26 g27 => (e24 i g19).trans (hf i g0 g1 g2 g3 g4 g5 g6 g7 g8 g9 g10 g11 g12 g13 g14 g15 g16 g17 g18 g19 g20 g21 g22 g23 g24 g25 g26 g27)
  refine G_dup 94 dX9_init_93 rfl rfl ?_
  refine G_callCN 97 (L' := [(1, 0), (1, 1), (1, 2), (2, 0), (2, 1), (2, 2), (3, 0), (3, 1), (4, 0), (4, 1), (4, 2), (5, 0), (5, 1), (5, 2), (6, 0), (6, 1), (6, 2), (7, 0), (7, 1), (7, 2), (8, 0), (8, 1), (8, 2), (9, 0), (9, 1), (9, 2), (10, 0), (10, 1), (10, 2), (11, 0), (11, 1), (11, 2), (12, 0), (12, 1), (13, 0), (13, 1), (13, 2), (14, 0), (14, 1), (14, 2), (15, 0), (15, 1), (0, 1), (16, 0), (16, 1), (16, 2), (17, 0), (17, 1), (18, 0), (18, 1), (18, 2), (19, 0), (20, 0), (20, 1), (20, 2)]) rfl (S_X6_init _ l (hAd.L) O19) hAO dX9_init_94 rfl kX6_init nk_X9_60 (adn hsz (by decide)) ⟨rfl, rfl⟩ ⟨Nat.le_of_ble_eq_true rfl, Nat.le_of_ble_eq_true rfl⟩ ⟨Nat.le_of_ble_eq_true rfl, Nat.le_of_ble_eq_true rfl⟩ (Nat.le_of_ble_eq_true rfl) rfl (fun h25 q25 => ?_)
  obtain ⟨n25_0, n25_1, e25⟩ := q25
  replace O0 := (e25 _ (by decide) (by decide)).trans O0
  replace O1 := (e25 _ (by decide) (by decide)).trans O1
  replace O2 := (e25 _ (by decide) (by decide)).trans O2
  replace O3 := (e25 _ (by decide) (by decide)).trans O3
  replace O4 := (e25 _ (by decide) (by decide)).trans O4
  replace O5 := (e25 _ (by decide) (by decide)).trans O5
  replace O6 := (e25 _ (by decide) (by decide)).trans O6
  replace O7 := (e25 _ (by decide) (by decide)).trans O7
  replace O8 := (e25 _ (by decide) (by decide)).trans O8
  replace O9 := (e25 _ (by decide) (by decide)).trans O9
  replace O10 := (e25 _ (by decide) (by decide)).trans O10
  replace O11 := (e25 _ (by decide) (by decide)).trans O11
  replace O12 := (e25 _ (by decide) (by decide)).trans O12
  replace O13 := (e25 _ (by decide) (by decide)).trans O13
  replace O14 := (e25 _ (by decide) (by decide)).trans O14
  replace O15 := (e25 _ (by decide) (by decide)).trans O15
  replace O16 := (e25 _ (by decide) (by decide)).trans O16
  replace O17 := (e25 _ (by decide) (by decide)).trans O17
  replace O18 := (e25 _ (by decide) (by decide)).trans O18
  replace O19 := n25_0
  have O20 := n25_1
  replace hf : ∀ i, i ≠ 0 → i ≠ 1 → i ≠ 2 → i ≠ 3 → i ≠ 4 → i ≠ 5 → i ≠ 6 → i ≠ 7 → i ≠ 8 → i ≠ 9 → i ≠ 10 → i ≠ 11 → i ≠ 12 → i ≠ 13 → i ≠ 14 → i ≠ 15 → i ≠ 16 → i ≠ 17 → i ≠ 18 → i ≠ 19 → i ≠ 20 → i ≠ 21 → i ≠ 22 → i ≠ 23 → i ≠ 24 → i ≠ 25 → i ≠ 26 → i ≠ 27 → h25 i = h i := fun i g0 g1 g2 g3 g4 g5 g6 g7 g8 g9 g10 g11 g12 g13 g14 g15 g16 g17 g18 g19 g20 g21 g22 g23 g24 g25 g26 g27 => (e25 i g19 g20).trans (hf i g0 g1 g2 g3 g4 g5 g6 g7 g8 g9 g10 g11 g12 g13 g14 g15 g16 g17 g18 g19 g20 g21 g22 g23 g24 g25 g26 g27)
  refine G_putF 100 (b' := (9, [aR 1 0, aR 2 0, aI 0, aR 3 0, aR 12 0, aR 15 0, aR 0 1, aR 16 0, aR 17 0, aR 19 0, aN, aN], [kI 7 (fun _ => 0)])) hin dX9_init_97 rfl ff_X9_61 O0 (Nat.le_of_ble_eq_true rfl) rfl rfl rfl (fun h26 n26 e26 => ?_)
  replace O0 := n26
  replace O1 := (e26 _ (by decide)).trans O1
  replace O2 := (e26 _ (by decide)).trans O2
  replace O3 := (e26 _ (by decide)).trans O3
  replace O4 := (e26 _ (by decide)).trans O4
  replace O5 := (e26 _ (by decide)).trans O5
  replace O6 := (e26 _ (by decide)).trans O6
  replace O7 := (e26 _ (by decide)).trans O7
  replace O8 := (e26 _ (by decide)).trans O8
  replace O9 := (e26 _ (by decide)).trans O9
  replace O10 := (e26 _ (by decide)).trans O10
  replace O11 := (e26 _ (by decide)).trans O11
  replace O12 := (e26 _ (by decide)).trans O12
  replace O13 := (e26 _ (by decide)).trans O13
  replace O14 := (e26 _ (by decide)).trans O14
  replace O15 := (e26 _ (by decide)).trans O15
  replace O16 := (e26 _ (by decide)).trans O16
  replace O17 := (e26 _ (by decide)).trans O17
  replace O18 := (e26 _ (by decide)).trans O18
  replace O19 := (e26 _ (by decide)).trans O19
  replace O20 := (e26 _ (by decide)).trans O20
  replace hf : ∀ i, i ≠ 0 → i ≠ 1 → i ≠ 2 → i ≠ 3 → i ≠ 4 → i ≠ 5 → i ≠ 6 → i ≠ 7 → i ≠ 8 → i ≠ 9 → i ≠ 10 → i ≠ 11 → i ≠ 12 → i ≠ 13 → i ≠ 14 → i ≠ 15 → i ≠ 16 → i ≠ 17 → i ≠ 18 → i ≠ 19 → i ≠ 20 → i ≠ 21 → i ≠ 22 → i ≠ 23 → i ≠ 24 → i ≠ 25 → i ≠ 26 → i ≠ 27 → h26 i = h i := fun i g0 g1 g2 g3 g4 g5 g6 g7 g8 g9 g10 g11 g12 g13 g14 g15 g16 g17 g18 g19 g20 g21 g22 g23 g24 g25 g26 g27 => (e26 i g0).trans (hf i g0 g1 g2 g3 g4 g5 g6 g7 g8 g9 g10 g11 g12 g13 g14 g15 g16 g17 g18 g19 g20 g21 g22 g23 g24 g25 g26 g27)
  refine G_aload_n 101 dX9_init_100 rfl rfl rfl ?_
  refine G_new 104 (o := 21) (L' := [(1, 0), (1, 1), (1, 2), (2, 0), (2, 1), (2, 2), (3, 0), (3, 1), (4, 0), (4, 1), (4, 2), (5, 0), (5, 1), (5, 2), (6, 0), (6, 1), (6, 2), (7, 0), (7, 1), (7, 2), (8, 0), (8, 1), (8, 2), (9, 0), (9, 1), (9, 2), (10, 0), (10, 1), (10, 2), (11, 0), (11, 1), (11, 2), (12, 0), (12, 1), (13, 0), (13, 1), (13, 2), (14, 0), (14, 1), (14, 2), (15, 0), (15, 1), (0, 1), (16, 0), (16, 1), (16, 2), (17, 0), (17, 1), (18, 0), (18, 1), (18, 2), (19, 0), (20, 0), (20, 1), (20, 2), (21, 0)]) [aN, aN, aN] tyX0 rfl dX9_init_101 rfl (ci := 0) (N := 3) rfl uX0 tyX0_ok cw_X9_65 is_X0 ii_X0 (fun j hj => by rcases (show j = 0 ∨ j = 1 ∨ j = 2 by omega) with rfl | rfl | rfl <;> rfl) ⟨Nat.le_of_ble_eq_true rfl, Nat.le_of_ble_eq_true rfl⟩ (adq hAd hsz (by decide) (by decide)) (hAd.mono (by decide)) rfl (fun h27 n27 e27 => ?_)
  replace O0 := (e27 _ (by decide)).trans O0
  replace O1 := (e27 _ (by decide)).trans O1
  replace O2 := (e27 _ (by decide)).trans O2
  replace O3 := (e27 _ (by decide)).trans O3
  replace O4 := (e27 _ (by decide)).trans O4
  replace O5 := (e27 _ (by decide)).trans O5
  replace O6 := (e27 _ (by decide)).trans O6
  replace O7 := (e27 _ (by decide)).trans O7
  replace O8 := (e27 _ (by decide)).trans O8
  replace O9 := (e27 _ (by decide)).trans O9
  replace O10 := (e27 _ (by decide)).trans O10
  replace O11 := (e27 _ (by decide)).trans O11
  replace O12 := (e27 _ (by decide)).trans O12
  replace O13 := (e27 _ (by decide)).trans O13
  replace O14 := (e27 _ (by decide)).trans O14
  replace O15 := (e27 _ (by decide)).trans O15
  replace O16 := (e27 _ (by decide)).trans O16
  replace O17 := (e27 _ (by decide)).trans O17
  replace O18 := (e27 _ (by decide)).trans O18
  replace O19 := (e27 _ (by decide)).trans O19
  replace O20 := (e27 _ (by decide)).trans O20
  have O21 := n27
  replace hf : ∀ i, i ≠ 0 → i ≠ 1 → i ≠ 2 → i ≠ 3 → i ≠ 4 → i ≠ 5 → i ≠ 6 → i ≠ 7 → i ≠ 8 → i ≠ 9 → i ≠ 10 → i ≠ 11 → i ≠ 12 → i ≠ 13 → i ≠ 14 → i ≠ 15 → i ≠ 16 → i ≠ 17 → i ≠ 18 → i ≠ 19 → i ≠ 20 → i ≠ 21 → i ≠ 22 → i ≠ 23 → i ≠ 24 → i ≠ 25 → i ≠ 26 → i ≠ 27 → h27 i = h i := fun i g0 g1 g2 g3 g4 g5 g6 g7 g8 g9 g10 g11 g12 g13 g14 g15 g16 g17 g18 g19 g20 g21 g22 g23 g24 g25 g26 g27 => (e27 i g21).trans (hf i g0 g1 g2 g3 g4 g5 g6 g7 g8 g9 g10 g11 g12 g13 g14 g15 g16 g17 g18 g19 g20 g21 g22 g23 g24 g25 g26 g27)
  refine G_dup 105 dX9_init_104 rfl rfl ?_
  refine G_callCN 108 (L' := [(1, 0), (1, 1), (1, 2), (2, 0), (2, 1), (2, 2), (3, 0), (3, 1), (4, 0), (4, 1), (4, 2), (5, 0), (5, 1), (5, 2), (6, 0), (6, 1), (6, 2), (7, 0), (7, 1), (7, 2), (8, 0), (8, 1), (8, 2), (9, 0), (9, 1), (9, 2), (10, 0), (10, 1), (10, 2), (11, 0), (11, 1), (11, 2), (12, 0), (12, 1), (13, 0), (13, 1), (13, 2), (14, 0), (14, 1), (14, 2), (15, 0), (15, 1), (0, 1), (16, 0), (16, 1), (16, 2), (17, 0), (17, 1), (18, 0), (18, 1), (18, 2), (19, 0), (20, 0), (20, 1), (20, 2), (21, 0), (22, 0), (22, 1), (22, 2), (23, 0), (23, 1), (23, 2), (24, 0), (24, 1), (24, 2)]) rfl (S_X0_init _ l (hAd.L) O21) hAO dX9_init_105 rfl kX0_init nk_X9_67 (adn hsz (by decide)) ⟨rfl, rfl⟩ ⟨Nat.le_of_ble_eq_true rfl, Nat.le_of_ble_eq_true rfl⟩ ⟨Nat.le_of_ble_eq_true rfl, Nat.le_of_ble_eq_true rfl⟩ (Nat.le_of_ble_eq_true rfl) rfl (fun h28 q28 => ?_)
  obtain ⟨n28_0, n28_1, n28_2, n28_3, e28⟩ := q28
  replace O0 := (e28 _ (by decide) (by decide) (by decide) (by decide)).trans O0
  replace O1 := (e28 _ (by decide) (by decide) (by decide) (by decide)).trans O1
  replace O2 := (e28 _ (by decide) (by decide) (by decide) (by decide)).trans O2
  replace O3 := (e28 _ (by decide) (by decide) (by decide) (by decide)).trans O3
  replace O4 := (e28 _ (by decide) (by decide) (by decide) (by decide)).trans O4
  replace O5 := (e28 _ (by decide) (by decide) (by decide) (by decide)).trans O5
  replace O6 := (e28 _ (by decide) (by decide) (by decide) (by decide)).trans O6
  replace O7 := (e28 _ (by decide) (by decide) (by decide) (by decide)).trans O7
  replace O8 := (e28 _ (by decide) (by decide) (by decide) (by decide)).trans O8
  replace O9 := (e28 _ (by decide) (by decide) (by decide) (by decide)).trans O9
  replace O10 := (e28 _ (by decide) (by decide) (by decide) (by decide)).trans O10
  replace O11 := (e28 _ (by decide) (by decide) (by decide) (by decide)).trans O11
  replace O12 := (e28 _ (by decide) (by decide) (by decide) (by decide)).trans O12
  replace O13 := (e28 _ (by decide) (by decide) (by decide) (by decide)).trans O13
  replace O14 := (e28 _ (by decide) (by decide) (by decide) (by decide)).trans O14
  replace O15 := (e28 _ (by decide) (by decide) (by decide) (by decide)).trans O15
  replace O16 := (e28 _ (by decide) (by decide) (by decide) (by decide)).trans O16
  replace O17 := (e28 _ (by decide) (by decide) (by decide) (by decide)).trans O17
  replace O18 := (e28 _ (by decide) (by decide) (by decide) (by decide)).trans O18
  replace O19 := (e28 _ (by decide) (by decide) (by decide) (by decide)).trans O19
  replace O20 := (e28 _ (by decide) (by decide) (by decide) (by decide)).trans O20
  replace O21 := n28_0
  have O22 := n28_1
  have O23 := n28_2
  have O24 := n28_3
  replace hf : ∀ i, i ≠ 0 → i ≠ 1 → i ≠ 2 → i ≠ 3 → i ≠ 4 → i ≠ 5 → i ≠ 6 → i ≠ 7 → i ≠ 8 → i ≠ 9 → i ≠ 10 → i ≠ 11 → i ≠ 12 → i ≠ 13 → i ≠ 14 → i ≠ 15 → i ≠ 16 → i ≠ 17 → i ≠ 18 → i ≠ 19 → i ≠ 20 → i ≠ 21 → i ≠ 22 → i ≠ 23 → i ≠ 24 → i ≠ 25 → i ≠ 26 → i ≠ 27 → h28 i = h i := fun i g0 g1 g2 g3 g4 g5 g6 g7 g8 g9 g10 g11 g12 g13 g14 g15 g16 g17 g18 g19 g20 g21 g22 g23 g24 g25 g26 g27 => (e28 i g21 g22 g23 g24).trans (hf i g0 g1 g2 g3 g4 g5 g6 g7 g8 g9 g10 g11 g12 g13 g14 g15 g16 g17 g18 g19 g20 g21 g22 g23 g24 g25 g26 g27)
  refine G_putF 111 (b' := (9, [aR 1 0, aR 2 0, aI 0, aR 3 0, aR 12 0, aR 15 0, aR 0 1, aR 16 0, aR 17 0, aR 19 0, aR 21 0, aN], [kI 7 (fun _ => 0)])) hin dX9_init_108 rfl ff_X9_68 O0 (Nat.le_of_ble_eq_true rfl) rfl rfl rfl (fun h29 n29 e29 => ?_)
  replace O0 := n29
  replace O1 := (e29 _ (by decide)).trans O1
  replace O2 := (e29 _ (by decide)).trans O2
  replace O3 := (e29 _ (by decide)).trans O3
  replace O4 := (e29 _ (by decide)).trans O4
  replace O5 := (e29 _ (by decide)).trans O5
  replace O6 := (e29 _ (by decide)).trans O6
  replace O7 := (e29 _ (by decide)).trans O7
  replace O8 := (e29 _ (by decide)).trans O8
  replace O9 := (e29 _ (by decide)).trans O9
  replace O10 := (e29 _ (by decide)).trans O10
  replace O11 := (e29 _ (by decide)).trans O11
  replace O12 := (e29 _ (by decide)).trans O12
  replace O13 := (e29 _ (by decide)).trans O13
  replace O14 := (e29 _ (by decide)).trans O14
  replace O15 := (e29 _ (by decide)).trans O15
  replace O16 := (e29 _ (by decide)).trans O16
  replace O17 := (e29 _ (by decide)).trans O17
  replace O18 := (e29 _ (by decide)).trans O18
  replace O19 := (e29 _ (by decide)).trans O19
  replace O20 := (e29 _ (by decide)).trans O20
  replace O21 := (e29 _ (by decide)).trans O21
  replace O22 := (e29 _ (by decide)).trans O22
  replace O23 := (e29 _ (by decide)).trans O23
  replace O24 := (e29 _ (by decide)).trans O24
  replace hf : ∀ i, i ≠ 0 → i ≠ 1 → i ≠ 2 → i ≠ 3 → i ≠ 4 → i ≠ 5 → i ≠ 6 → i ≠ 7 → i ≠ 8 → i ≠ 9 → i ≠ 10 → i ≠ 11 → i ≠ 12 → i ≠ 13 → i ≠ 14 → i ≠ 15 → i ≠ 16 → i ≠ 17 → i ≠ 18 → i ≠ 19 → i ≠ 20 → i ≠ 21 → i ≠ 22 → i ≠ 23 → i ≠ 24 → i ≠ 25 → i ≠ 26 → i ≠ 27 → h29 i = h i := fun i g0 g1 g2 g3 g4 g5 g6 g7 g8 g9 g10 g11 g12 g13 g14 g15 g16 g17 g18 g19 g20 g21 g22 g23 g24 g25 g26 g27 => (e29 i g0).trans (hf i g0 g1 g2 g3 g4 g5 g6 g7 g8 g9 g10 g11 g12 g13 g14 g15 g16 g17 g18 g19 g20 g21 g22 g23 g24 g25 g26 g27)
  refine G_aload_n 112 dX9_init_111 rfl rfl rfl ?_
  refine G_new 115 (o := 25) (L' := [(1, 0), (1, 1), (1, 2), (2, 0), (2, 1), (2, 2), (3, 0), (3, 1), (4, 0), (4, 1), (4, 2), (5, 0), (5, 1), (5, 2), (6, 0), (6, 1), (6, 2), (7, 0), (7, 1), (7, 2), (8, 0), (8, 1), (8, 2), (9, 0), (9, 1), (9, 2), (10, 0), (10, 1), (10, 2), (11, 0), (11, 1), (11, 2), (12, 0), (12, 1), (13, 0), (13, 1), (13, 2), (14, 0), (14, 1), (14, 2), (15, 0), (15, 1), (0, 1), (16, 0), (16, 1), (16, 2), (17, 0), (17, 1), (18, 0), (18, 1), (18, 2), (19, 0), (20, 0), (20, 1), (20, 2), (21, 0), (22, 0), (22, 1), (22, 2), (23, 0), (23, 1), (23, 2), (24, 0), (24, 1), (24, 2), (25, 0)]) [aN, aN, aN, aN] tyX2 rfl dX9_init_112 rfl (ci := 2) (N := 4) rfl uX2 tyX2_ok cw_X9_72 is_X2 ii_X2 (fun j hj => by rcases (show j = 0 ∨ j = 1 ∨ j = 2 ∨ j = 3 by omega) with rfl | rfl | rfl | rfl <;> rfl) ⟨Nat.le_of_ble_eq_true rfl, Nat.le_of_ble_eq_true rfl⟩ (adq hAd hsz (by decide) (by decide)) (hAd.mono (by decide)) rfl (fun h30 n30 e30 => ?_)
  replace O0 := (e30 _ (by decide)).trans O0
  replace O1 := (e30 _ (by decide)).trans O1
  replace O2 := (e30 _ (by decide)).trans O2
  replace O3 := (e30 _ (by decide)).trans O3
  replace O4 := (e30 _ (by decide)).trans O4
  replace O5 := (e30 _ (by decide)).trans O5
  replace O6 := (e30 _ (by decide)).trans O6
  replace O7 := (e30 _ (by decide)).trans O7
  replace O8 := (e30 _ (by decide)).trans O8
  replace O9 := (e30 _ (by decide)).trans O9
  replace O10 := (e30 _ (by decide)).trans O10
  replace O11 := (e30 _ (by decide)).trans O11
  replace O12 := (e30 _ (by decide)).trans O12
  replace O13 := (e30 _ (by decide)).trans O13
  replace O14 := (e30 _ (by decide)).trans O14
  replace O15 := (e30 _ (by decide)).trans O15
  replace O16 := (e30 _ (by decide)).trans O16
  replace O17 := (e30 _ (by decide)).trans O17
  replace O18 := (e30 _ (by decide)).trans O18
  replace O19 := (e30 _ (by decide)).trans O19
  replace O20 := (e30 _ (by decide)).trans O20
  replace O21 := (e30 _ (by decide)).trans O21
  replace O22 := (e30 _ (by decide)).trans O22
  replace O23 := (e30 _ (by decide)).trans O23
  replace O24 := (e30 _ (by decide)).trans O24
  have O25 := n30
  replace hf : ∀ i, i ≠ 0 → i ≠ 1 → i ≠ 2 → i ≠ 3 → i ≠ 4 → i ≠ 5 → i ≠ 6 → i ≠ 7 → i ≠ 8 → i ≠ 9 → i ≠ 10 → i ≠ 11 → i ≠ 12 → i ≠ 13 → i ≠ 14 → i ≠ 15 → i ≠ 16 → i ≠ 17 → i ≠ 18 → i ≠ 19 → i ≠ 20 → i ≠ 21 → i ≠ 22 → i ≠ 23 → i ≠ 24 → i ≠ 25 → i ≠ 26 → i ≠ 27 → h30 i = h i := fun i g0 g1 g2 g3 g4 g5 g6 g7 g8 g9 g10 g11 g12 g13 g14 g15 g16 g17 g18 g19 g20 g21 g22 g23 g24 g25 g26 g27 => (e30 i g25).trans (hf i g0 g1 g2 g3 g4 g5 g6 g7 g8 g9 g10 g11 g12 g13 g14 g15 g16 g17 g18 g19 g20 g21 g22 g23 g24 g25 g26 g27)
  refine G_dup 116 dX9_init_115 rfl rfl ?_
  refine G_callCN 119 (L' := [(1, 0), (1, 1), (1, 2), (2, 0), (2, 1), (2, 2), (3, 0), (3, 1), (4, 0), (4, 1), (4, 2), (5, 0), (5, 1), (5, 2), (6, 0), (6, 1), (6, 2), (7, 0), (7, 1), (7, 2), (8, 0), (8, 1), (8, 2), (9, 0), (9, 1), (9, 2), (10, 0), (10, 1), (10, 2), (11, 0), (11, 1), (11, 2), (12, 0), (12, 1), (13, 0), (13, 1), (13, 2), (14, 0), (14, 1), (14, 2), (15, 0), (15, 1), (0, 1), (16, 0), (16, 1), (16, 2), (17, 0), (17, 1), (18, 0), (18, 1), (18, 2), (19, 0), (20, 0), (20, 1), (20, 2), (21, 0), (22, 0), (22, 1), (22, 2), (23, 0), (23, 1), (23, 2), (24, 0), (24, 1), (24, 2), (25, 0), (26, 0), (26, 1), (26, 2), (27, 0), (27, 1), (27, 2), (25, 1), (25, 2)]) rfl (S_X2_init _ l (hAd.L) O25) hAO dX9_init_116 rfl kX2_init nk_X9_74 (adn hsz (by decide)) ⟨rfl, rfl⟩ ⟨Nat.le_of_ble_eq_true rfl, Nat.le_of_ble_eq_true rfl⟩ ⟨Nat.le_of_ble_eq_true rfl, Nat.le_of_ble_eq_true rfl⟩ (Nat.le_of_ble_eq_true rfl) rfl (fun h31 q31 => ?_)
  obtain ⟨n31_0, n31_1, n31_2, e31⟩ := q31
  replace O0 := (e31 _ (by decide) (by decide) (by decide)).trans O0
  replace O1 := (e31 _ (by decide) (by decide) (by decide)).trans O1
  replace O2 := (e31 _ (by decide) (by decide) (by decide)).trans O2
  replace O3 := (e31 _ (by decide) (by decide) (by decide)).trans O3
  replace O4 := (e31 _ (by decide) (by decide) (by decide)).trans O4
  replace O5 := (e31 _ (by decide) (by decide) (by decide)).trans O5
  replace O6 := (e31 _ (by decide) (by decide) (by decide)).trans O6
  replace O7 := (e31 _ (by decide) (by decide) (by decide)).trans O7
  replace O8 := (e31 _ (by decide) (by decide) (by decide)).trans O8
  replace O9 := (e31 _ (by decide) (by decide) (by decide)).trans O9
  replace O10 := (e31 _ (by decide) (by decide) (by decide)).trans O10
  replace O11 := (e31 _ (by decide) (by decide) (by decide)).trans O11
  replace O12 := (e31 _ (by decide) (by decide) (by decide)).trans O12
  replace O13 := (e31 _ (by decide) (by decide) (by decide)).trans O13
  replace O14 := (e31 _ (by decide) (by decide) (by decide)).trans O14
  replace O15 := (e31 _ (by decide) (by decide) (by decide)).trans O15
  replace O16 := (e31 _ (by decide) (by decide) (by decide)).trans O16
  replace O17 := (e31 _ (by decide) (by decide) (by decide)).trans O17
  replace O18 := (e31 _ (by decide) (by decide) (by decide)).trans O18
  replace O19 := (e31 _ (by decide) (by decide) (by decide)).trans O19
  replace O20 := (e31 _ (by decide) (by decide) (by decide)).trans O20
  replace O21 := (e31 _ (by decide) (by decide) (by decide)).trans O21
  replace O22 := (e31 _ (by decide) (by decide) (by decide)).trans O22
  replace O23 := (e31 _ (by decide) (by decide) (by decide)).trans O23
  replace O24 := (e31 _ (by decide) (by decide) (by decide)).trans O24
  replace O25 := n31_0
  have O26 := n31_1
  have O27 := n31_2
  replace hf : ∀ i, i ≠ 0 → i ≠ 1 → i ≠ 2 → i ≠ 3 → i ≠ 4 → i ≠ 5 → i ≠ 6 → i ≠ 7 → i ≠ 8 → i ≠ 9 → i ≠ 10 → i ≠ 11 → i ≠ 12 → i ≠ 13 → i ≠ 14 → i ≠ 15 → i ≠ 16 → i ≠ 17 → i ≠ 18 → i ≠ 19 → i ≠ 20 → i ≠ 21 → i ≠ 22 → i ≠ 23 → i ≠ 24 → i ≠ 25 → i ≠ 26 → i ≠ 27 → h31 i = h i := fun i g0 g1 g2 g3 g4 g5 g6 g7 g8 g9 g10 g11 g12 g13 g14 g15 g16 g17 g18 g19 g20 g21 g22 g23 g24 g25 g26 g27 => (e31 i g25 g26 g27).trans (hf i g0 g1 g2 g3 g4 g5 g6 g7 g8 g9 g10 g11 g12 g13 g14 g15 g16 g17 g18 g19 g20 g21 g22 g23 g24 g25 g26 g27)
  refine G_putF 122 (b' := (9, [aR 1 0, aR 2 0, aI 0, aR 3 0, aR 12 0, aR 15 0, aR 0 1, aR 16 0, aR 17 0, aR 19 0, aR 21 0, aR 25 0], [kI 7 (fun _ => 0)])) hin dX9_init_119 rfl ff_X9_75 O0 (Nat.le_of_ble_eq_true rfl) rfl rfl rfl (fun h32 n32 e32 => ?_)
  replace O0 := n32
  replace O1 := (e32 _ (by decide)).trans O1
  replace O2 := (e32 _ (by decide)).trans O2
  replace O3 := (e32 _ (by decide)).trans O3
  replace O4 := (e32 _ (by decide)).trans O4
  replace O5 := (e32 _ (by decide)).trans O5
  replace O6 := (e32 _ (by decide)).trans O6
  replace O7 := (e32 _ (by decide)).trans O7
  replace O8 := (e32 _ (by decide)).trans O8
  replace O9 := (e32 _ (by decide)).trans O9
  replace O10 := (e32 _ (by decide)).trans O10
  replace O11 := (e32 _ (by decide)).trans O11
  replace O12 := (e32 _ (by decide)).trans O12
  replace O13 := (e32 _ (by decide)).trans O13
  replace O14 := (e32 _ (by decide)).trans O14
  replace O15 := (e32 _ (by decide)).trans O15
  replace O16 := (e32 _ (by decide)).trans O16
  replace O17 := (e32 _ (by decide)).trans O17
  replace O18 := (e32 _ (by decide)).trans O18
  replace O19 := (e32 _ (by decide)).trans O19
  replace O20 := (e32 _ (by decide)).trans O20
  replace O21 := (e32 _ (by decide)).trans O21
  replace O22 := (e32 _ (by decide)).trans O22
  replace O23 := (e32 _ (by decide)).trans O23
  replace O24 := (e32 _ (by decide)).trans O24
  replace O25 := (e32 _ (by decide)).trans O25
  replace O26 := (e32 _ (by decide)).trans O26
  replace O27 := (e32 _ (by decide)).trans O27
  replace hf : ∀ i, i ≠ 0 → i ≠ 1 → i ≠ 2 → i ≠ 3 → i ≠ 4 → i ≠ 5 → i ≠ 6 → i ≠ 7 → i ≠ 8 → i ≠ 9 → i ≠ 10 → i ≠ 11 → i ≠ 12 → i ≠ 13 → i ≠ 14 → i ≠ 15 → i ≠ 16 → i ≠ 17 → i ≠ 18 → i ≠ 19 → i ≠ 20 → i ≠ 21 → i ≠ 22 → i ≠ 23 → i ≠ 24 → i ≠ 25 → i ≠ 26 → i ≠ 27 → h32 i = h i := fun i g0 g1 g2 g3 g4 g5 g6 g7 g8 g9 g10 g11 g12 g13 g14 g15 g16 g17 g18 g19 g20 g21 g22 g23 g24 g25 g26 g27 => (e32 i g0).trans (hf i g0 g1 g2 g3 g4 g5 g6 g7 g8 g9 g10 g11 g12 g13 g14 g15 g16 g17 g18 g19 g20 g21 g22 g23 g24 g25 g26 g27)
  exact G_retC cg rfl dX9_init_122 rfl ⟨O0, O1, O2, O3, O4, O5, O6, O7, O8, O9, O10, O11, O12, O13, O14, O15, O16, O17, O18, O19, O20, O21, O22, O23, O24, O25, O26, O27, hf⟩
set_option maxHeartbeats 4000000 in
set_option maxRecDepth 100000 in
theorem S_X10_init (X : En) (l : Launch) {h : Hp} {B : Nat} (hAd : Ad X B) (O28 : h 28 = some (10, [aI (nI 0), aN, aN, aN, aN, aI (nI 0), aN, aI 0, aI 0, aI 0, aN, aI 0, aN, aN, aN, aI (nI 0), aI (nI 0), aI 0, aI (nI 0), aN, aN, aN, aN, aN, aI 0, aI (nI 0), aI 0, aN, aN, aN, aI (nI 0), aN, aI (nI 0), aN, aN, aN, aN, aI 0], [])) : CtC X l mX10_init 28 h (B + 76) 21 1923 [(28, 1), (28, 2), (28, 3), (28, 4), (28, 5), (28, 6), (28, 7), (28, 8), (28, 9), (28, 10), (28, 11), (28, 12), (28, 13), (28, 14), (28, 15), (28, 16), (28, 17), (28, 18), (28, 19), (28, 20), (28, 21)] (fun h' => h' 28 = some (rB x00 (-1) c00 z00) ∧ ∀ i, i ≠ 28 → h' i = h i) := by
  refine CtC.intro kX10_init (fun G cg => ?_)
  have hin := cg.1
  have hsz := cg.2.1
  have hAO := cg.2.2.1
  show Ag G (enL X []) l mX10_init 0 0 0 [some (aR 28 0)] [] h
  have hf : ∀ i, i ≠ 28 → h i = h i := fun _ _ => rfl
  refine G_aload_n 1 dX10_init_0 rfl rfl rfl ?_
  refine G_objInit 4 dX10_init_1 rfl lk_X10_1 ⟨Nat.le_of_ble_eq_true rfl, Nat.le_of_ble_eq_true rfl⟩ ?_
  refine G_aload_n 5 dX10_init_4 rfl rfl rfl ?_
  refine G_bipush 7 (nI 10) dX10_init_5 rfl (by decide) ?_
  refine G_newa 9 (j := 1) (L' := [(28, 1)]) (b' := (10, [aI (nI 0), aN, aN, aN, aN, aI (nI 0), aN, aI 0, aI 0, aI 0, aN, aI 0, aN, aN, aN, aI (nI 0), aI (nI 0), aI 0, aI (nI 0), aN, aN, aN, aN, aN, aI 0, aI (nI 0), aI 0, aN, aN, aN, aI (nI 0), aN, aI (nI 0), aN, aN, aN, aN, aI 0], [kI 10 (fun _ => 0)])) (kI 10 (fun _ => 0)) rfl dX10_init_7 rfl acI O28 rfl (adq hAd hsz (by decide) (by decide)) rfl (by decide) clI (ceI 10) (by decide) ⟨Nat.le_of_ble_eq_true rfl, Nat.le_of_ble_eq_true rfl⟩ rfl rfl (fun h1 n1 e1 => ?_)
  replace O28 := n1
  replace hf : ∀ i, i ≠ 28 → h1 i = h i := fun i g0 => (e1 i g0).trans (hf i g0)
  refine G_putF 12 (b' := (10, [aI (nI 0), aR 28 1, aN, aN, aN, aI (nI 0), aN, aI 0, aI 0, aI 0, aN, aI 0, aN, aN, aN, aI (nI 0), aI (nI 0), aI 0, aI (nI 0), aN, aN, aN, aN, aN, aI 0, aI (nI 0), aI 0, aN, aN, aN, aI (nI 0), aN, aI (nI 0), aN, aN, aN, aN, aI 0], [kI 10 (fun _ => 0)])) hin dX10_init_9 rfl ff_X10_7 O28 (Nat.le_of_ble_eq_true rfl) rfl rfl rfl (fun h2 n2 e2 => ?_)
  replace O28 := n2
  replace hf : ∀ i, i ≠ 28 → h2 i = h i := fun i g0 => (e2 i g0).trans (hf i g0)
  refine G_aload_n 13 dX10_init_12 rfl rfl rfl ?_
  refine G_bipush 15 (nI 10) dX10_init_13 rfl (by decide) ?_
  refine G_newa 17 (j := 2) (L' := [(28, 1), (28, 2)]) (b' := (10, [aI (nI 0), aR 28 1, aN, aN, aN, aI (nI 0), aN, aI 0, aI 0, aI 0, aN, aI 0, aN, aN, aN, aI (nI 0), aI (nI 0), aI 0, aI (nI 0), aN, aN, aN, aN, aN, aI 0, aI (nI 0), aI 0, aN, aN, aN, aI (nI 0), aN, aI (nI 0), aN, aN, aN, aN, aI 0], [kI 10 (fun _ => 0), kI 10 (fun _ => 0)])) (kI 10 (fun _ => 0)) rfl dX10_init_15 rfl acI O28 rfl (adq hAd hsz (by decide) (by decide)) rfl (by decide) clI (ceI 10) (by decide) ⟨Nat.le_of_ble_eq_true rfl, Nat.le_of_ble_eq_true rfl⟩ rfl rfl (fun h3 n3 e3 => ?_)
  replace O28 := n3
  replace hf : ∀ i, i ≠ 28 → h3 i = h i := fun i g0 => (e3 i g0).trans (hf i g0)
  refine G_putF 20 (b' := (10, [aI (nI 0), aR 28 1, aR 28 2, aN, aN, aI (nI 0), aN, aI 0, aI 0, aI 0, aN, aI 0, aN, aN, aN, aI (nI 0), aI (nI 0), aI 0, aI (nI 0), aN, aN, aN, aN, aN, aI 0, aI (nI 0), aI 0, aN, aN, aN, aI (nI 0), aN, aI (nI 0), aN, aN, aN, aN, aI 0], [kI 10 (fun _ => 0), kI 10 (fun _ => 0)])) hin dX10_init_17 rfl ff_X10_13 O28 (Nat.le_of_ble_eq_true rfl) rfl rfl rfl (fun h4 n4 e4 => ?_)
  replace O28 := n4
  replace hf : ∀ i, i ≠ 28 → h4 i = h i := fun i g0 => (e4 i g0).trans (hf i g0)
  refine G_aload_n 21 dX10_init_20 rfl rfl rfl ?_
  refine G_bipush 23 (nI 10) dX10_init_21 rfl (by decide) ?_
  refine G_newa 25 (j := 3) (L' := [(28, 1), (28, 2), (28, 3)]) (b' := (10, [aI (nI 0), aR 28 1, aR 28 2, aN, aN, aI (nI 0), aN, aI 0, aI 0, aI 0, aN, aI 0, aN, aN, aN, aI (nI 0), aI (nI 0), aI 0, aI (nI 0), aN, aN, aN, aN, aN, aI 0, aI (nI 0), aI 0, aN, aN, aN, aI (nI 0), aN, aI (nI 0), aN, aN, aN, aN, aI 0], [kI 10 (fun _ => 0), kI 10 (fun _ => 0), kI 10 (fun _ => 0)])) (kI 10 (fun _ => 0)) rfl dX10_init_23 rfl acI O28 rfl (adq hAd hsz (by decide) (by decide)) rfl (by decide) clI (ceI 10) (by decide) ⟨Nat.le_of_ble_eq_true rfl, Nat.le_of_ble_eq_true rfl⟩ rfl rfl (fun h5 n5 e5 => ?_)
  replace O28 := n5
  replace hf : ∀ i, i ≠ 28 → h5 i = h i := fun i g0 => (e5 i g0).trans (hf i g0)
  refine G_putF 28 (b' := (10, [aI (nI 0), aR 28 1, aR 28 2, aR 28 3, aN, aI (nI 0), aN, aI 0, aI 0, aI 0, aN, aI 0, aN, aN, aN, aI (nI 0), aI (nI 0), aI 0, aI (nI 0), aN, aN, aN, aN, aN, aI 0, aI (nI 0), aI 0, aN, aN, aN, aI (nI 0), aN, aI (nI 0), aN, aN, aN, aN, aI 0], [kI 10 (fun _ => 0), kI 10 (fun _ => 0), kI 10 (fun _ => 0)])) hin dX10_init_25 rfl ff_X10_16 O28 (Nat.le_of_ble_eq_true rfl) rfl rfl rfl (fun h6 n6 e6 => ?_)
  replace O28 := n6
  replace hf : ∀ i, i ≠ 28 → h6 i = h i := fun i g0 => (e6 i g0).trans (hf i g0)
  refine G_aload_n 29 dX10_init_28 rfl rfl rfl ?_
  refine G_bipush 31 (nI 10) dX10_init_29 rfl (by decide) ?_
  refine G_newa 33 (j := 4) (L' := [(28, 1), (28, 2), (28, 3), (28, 4)]) (b' := (10, [aI (nI 0), aR 28 1, aR 28 2, aR 28 3, aN, aI (nI 0), aN, aI 0, aI 0, aI 0, aN, aI 0, aN, aN, aN, aI (nI 0), aI (nI 0), aI 0, aI (nI 0), aN, aN, aN, aN, aN, aI 0, aI (nI 0), aI 0, aN, aN, aN, aI (nI 0), aN, aI (nI 0), aN, aN, aN, aN, aI 0], [kI 10 (fun _ => 0), kI 10 (fun _ => 0), kI 10 (fun _ => 0), kI 10 (fun _ => 0)])) (kI 10 (fun _ => 0)) rfl dX10_init_31 rfl acI O28 rfl (adq hAd hsz (by decide) (by decide)) rfl (by decide) clI (ceI 10) (by decide) ⟨Nat.le_of_ble_eq_true rfl, Nat.le_of_ble_eq_true rfl⟩ rfl rfl (fun h7 n7 e7 => ?_)
  replace O28 := n7
  replace hf : ∀ i, i ≠ 28 → h7 i = h i := fun i g0 => (e7 i g0).trans (hf i g0)
  refine G_putF 36 (b' := (10, [aI (nI 0), aR 28 1, aR 28 2, aR 28 3, aR 28 4, aI (nI 0), aN, aI 0, aI 0, aI 0, aN, aI 0, aN, aN, aN, aI (nI 0), aI (nI 0), aI 0, aI (nI 0), aN, aN, aN, aN, aN, aI 0, aI (nI 0), aI 0, aN, aN, aN, aI (nI 0), aN, aI (nI 0), aN, aN, aN, aN, aI 0], [kI 10 (fun _ => 0), kI 10 (fun _ => 0), kI 10 (fun _ => 0), kI 10 (fun _ => 0)])) hin dX10_init_33 rfl ff_X10_19 O28 (Nat.le_of_ble_eq_true rfl) rfl rfl rfl (fun h8 n8 e8 => ?_)
  replace O28 := n8
  replace hf : ∀ i, i ≠ 28 → h8 i = h i := fun i g0 => (e8 i g0).trans (hf i g0)
  refine G_aload_n 37 dX10_init_36 rfl rfl rfl ?_
  refine G_bipush 39 (nI 6) dX10_init_37 rfl (by decide) ?_
  refine G_newa 41 (j := 5) (L' := [(28, 1), (28, 2), (28, 3), (28, 4), (28, 5)]) (b' := (10, [aI (nI 0), aR 28 1, aR 28 2, aR 28 3, aR 28 4, aI (nI 0), aN, aI 0, aI 0, aI 0, aN, aI 0, aN, aN, aN, aI (nI 0), aI (nI 0), aI 0, aI (nI 0), aN, aN, aN, aN, aN, aI 0, aI (nI 0), aI 0, aN, aN, aN, aI (nI 0), aN, aI (nI 0), aN, aN, aN, aN, aI 0], [kI 10 (fun _ => 0), kI 10 (fun _ => 0), kI 10 (fun _ => 0), kI 10 (fun _ => 0), kI 6 (fun _ => 0)])) (kI 6 (fun _ => 0)) rfl dX10_init_39 rfl acI O28 rfl (adq hAd hsz (by decide) (by decide)) rfl (by decide) clI (ceI 6) (by decide) ⟨Nat.le_of_ble_eq_true rfl, Nat.le_of_ble_eq_true rfl⟩ rfl rfl (fun h9 n9 e9 => ?_)
  replace O28 := n9
  replace hf : ∀ i, i ≠ 28 → h9 i = h i := fun i g0 => (e9 i g0).trans (hf i g0)
  refine G_putF 44 (b' := (10, [aI (nI 0), aR 28 1, aR 28 2, aR 28 3, aR 28 4, aI (nI 0), aR 28 5, aI 0, aI 0, aI 0, aN, aI 0, aN, aN, aN, aI (nI 0), aI (nI 0), aI 0, aI (nI 0), aN, aN, aN, aN, aN, aI 0, aI (nI 0), aI 0, aN, aN, aN, aI (nI 0), aN, aI (nI 0), aN, aN, aN, aN, aI 0], [kI 10 (fun _ => 0), kI 10 (fun _ => 0), kI 10 (fun _ => 0), kI 10 (fun _ => 0), kI 6 (fun _ => 0)])) hin dX10_init_41 rfl ff_X10_22 O28 (Nat.le_of_ble_eq_true rfl) rfl rfl rfl (fun h10 n10 e10 => ?_)
  replace O28 := n10
  replace hf : ∀ i, i ≠ 28 → h10 i = h i := fun i g0 => (e10 i g0).trans (hf i g0)
  refine G_aload_n 45 dX10_init_44 rfl rfl rfl ?_
  refine G_bipush 47 (nI 7) dX10_init_45 rfl (by decide) ?_
  refine G_newa 49 (j := 6) (L' := [(28, 1), (28, 2), (28, 3), (28, 4), (28, 5), (28, 6)]) (b' := (10, [aI (nI 0), aR 28 1, aR 28 2, aR 28 3, aR 28 4, aI (nI 0), aR 28 5, aI 0, aI 0, aI 0, aN, aI 0, aN, aN, aN, aI (nI 0), aI (nI 0), aI 0, aI (nI 0), aN, aN, aN, aN, aN, aI 0, aI (nI 0), aI 0, aN, aN, aN, aI (nI 0), aN, aI (nI 0), aN, aN, aN, aN, aI 0], [kI 10 (fun _ => 0), kI 10 (fun _ => 0), kI 10 (fun _ => 0), kI 10 (fun _ => 0), kI 6 (fun _ => 0), kI 7 (fun _ => 0)])) (kI 7 (fun _ => 0)) rfl dX10_init_47 rfl acI O28 rfl (adq hAd hsz (by decide) (by decide)) rfl (by decide) clI (ceI 7) (by decide) ⟨Nat.le_of_ble_eq_true rfl, Nat.le_of_ble_eq_true rfl⟩ rfl rfl (fun h11 n11 e11 => ?_)
  replace O28 := n11
  replace hf : ∀ i, i ≠ 28 → h11 i = h i := fun i g0 => (e11 i g0).trans (hf i g0)
  refine G_putF 52 (b' := (10, [aI (nI 0), aR 28 1, aR 28 2, aR 28 3, aR 28 4, aI (nI 0), aR 28 5, aI 0, aI 0, aI 0, aR 28 6, aI 0, aN, aN, aN, aI (nI 0), aI (nI 0), aI 0, aI (nI 0), aN, aN, aN, aN, aN, aI 0, aI (nI 0), aI 0, aN, aN, aN, aI (nI 0), aN, aI (nI 0), aN, aN, aN, aN, aI 0], [kI 10 (fun _ => 0), kI 10 (fun _ => 0), kI 10 (fun _ => 0), kI 10 (fun _ => 0), kI 6 (fun _ => 0), kI 7 (fun _ => 0)])) hin dX10_init_49 rfl ff_X10_25 O28 (Nat.le_of_ble_eq_true rfl) rfl rfl rfl (fun h12 n12 e12 => ?_)
  replace O28 := n12
  replace hf : ∀ i, i ≠ 28 → h12 i = h i := fun i g0 => (e12 i g0).trans (hf i g0)
  refine G_aload_n 53 dX10_init_52 rfl rfl rfl ?_
  refine G_iconst 54 (-1) dX10_init_53 rfl (by decide) ?_
  refine G_putI 57 (b' := (10, [aI (nI 0), aR 28 1, aR 28 2, aR 28 3, aR 28 4, aI (nI 0), aR 28 5, aI 0, aI 0, aI 0, aR 28 6, aI (-1), aN, aN, aN, aI (nI 0), aI (nI 0), aI 0, aI (nI 0), aN, aN, aN, aN, aN, aI 0, aI (nI 0), aI 0, aN, aN, aN, aI (nI 0), aN, aI (nI 0), aN, aN, aN, aN, aI 0], [kI 10 (fun _ => 0), kI 10 (fun _ => 0), kI 10 (fun _ => 0), kI 10 (fun _ => 0), kI 6 (fun _ => 0), kI 7 (fun _ => 0)])) dX10_init_54 rfl fw_X10_28 O28 (Nat.le_of_ble_eq_true rfl) rfl (fun h13 n13 e13 => ?_)
  replace O28 := n13
  replace hf : ∀ i, i ≠ 28 → h13 i = h i := fun i g0 => (e13 i g0).trans (hf i g0)
  refine G_aload_n 58 dX10_init_57 rfl rfl rfl ?_
  refine G_bipush 60 (nI 12) dX10_init_58 rfl (by decide) ?_
  refine G_newa 62 (j := 7) (L' := [(28, 1), (28, 2), (28, 3), (28, 4), (28, 5), (28, 6), (28, 7)]) (b' := (10, [aI (nI 0), aR 28 1, aR 28 2, aR 28 3, aR 28 4, aI (nI 0), aR 28 5, aI 0, aI 0, aI 0, aR 28 6, aI (-1), aN, aN, aN, aI (nI 0), aI (nI 0), aI 0, aI (nI 0), aN, aN, aN, aN, aN, aI 0, aI (nI 0), aI 0, aN, aN, aN, aI (nI 0), aN, aI (nI 0), aN, aN, aN, aN, aI 0], [kI 10 (fun _ => 0), kI 10 (fun _ => 0), kI 10 (fun _ => 0), kI 10 (fun _ => 0), kI 6 (fun _ => 0), kI 7 (fun _ => 0), kI 12 (fun _ => 0)])) (kI 12 (fun _ => 0)) rfl dX10_init_60 rfl acI O28 rfl (adq hAd hsz (by decide) (by decide)) rfl (by decide) clI (ceI 12) (by decide) ⟨Nat.le_of_ble_eq_true rfl, Nat.le_of_ble_eq_true rfl⟩ rfl rfl (fun h14 n14 e14 => ?_)
  replace O28 := n14
  replace hf : ∀ i, i ≠ 28 → h14 i = h i := fun i g0 => (e14 i g0).trans (hf i g0)
  refine G_putF 65 (b' := (10, [aI (nI 0), aR 28 1, aR 28 2, aR 28 3, aR 28 4, aI (nI 0), aR 28 5, aI 0, aI 0, aI 0, aR 28 6, aI (-1), aR 28 7, aN, aN, aI (nI 0), aI (nI 0), aI 0, aI (nI 0), aN, aN, aN, aN, aN, aI 0, aI (nI 0), aI 0, aN, aN, aN, aI (nI 0), aN, aI (nI 0), aN, aN, aN, aN, aI 0], [kI 10 (fun _ => 0), kI 10 (fun _ => 0), kI 10 (fun _ => 0), kI 10 (fun _ => 0), kI 6 (fun _ => 0), kI 7 (fun _ => 0), kI 12 (fun _ => 0)])) hin dX10_init_62 rfl ff_X10_32 O28 (Nat.le_of_ble_eq_true rfl) rfl rfl rfl (fun h15 n15 e15 => ?_)
  replace O28 := n15
  replace hf : ∀ i, i ≠ 28 → h15 i = h i := fun i g0 => (e15 i g0).trans (hf i g0)
  refine G_aload_n 66 dX10_init_65 rfl rfl rfl ?_
  refine G_bipush 68 (nI 12) dX10_init_66 rfl (by decide) ?_
  refine G_newa 70 (j := 8) (L' := [(28, 1), (28, 2), (28, 3), (28, 4), (28, 5), (28, 6), (28, 7), (28, 8)]) (b' := (10, [aI (nI 0), aR 28 1, aR 28 2, aR 28 3, aR 28 4, aI (nI 0), aR 28 5, aI 0, aI 0, aI 0, aR 28 6, aI (-1), aR 28 7, aN, aN, aI (nI 0), aI (nI 0), aI 0, aI (nI 0), aN, aN, aN, aN, aN, aI 0, aI (nI 0), aI 0, aN, aN, aN, aI (nI 0), aN, aI (nI 0), aN, aN, aN, aN, aI 0], [kI 10 (fun _ => 0), kI 10 (fun _ => 0), kI 10 (fun _ => 0), kI 10 (fun _ => 0), kI 6 (fun _ => 0), kI 7 (fun _ => 0), kI 12 (fun _ => 0), kI 12 (fun _ => 0)])) (kI 12 (fun _ => 0)) rfl dX10_init_68 rfl acI O28 rfl (adq hAd hsz (by decide) (by decide)) rfl (by decide) clI (ceI 12) (by decide) ⟨Nat.le_of_ble_eq_true rfl, Nat.le_of_ble_eq_true rfl⟩ rfl rfl (fun h16 n16 e16 => ?_)
  replace O28 := n16
  replace hf : ∀ i, i ≠ 28 → h16 i = h i := fun i g0 => (e16 i g0).trans (hf i g0)
  refine G_putF 73 (b' := (10, [aI (nI 0), aR 28 1, aR 28 2, aR 28 3, aR 28 4, aI (nI 0), aR 28 5, aI 0, aI 0, aI 0, aR 28 6, aI (-1), aR 28 7, aR 28 8, aN, aI (nI 0), aI (nI 0), aI 0, aI (nI 0), aN, aN, aN, aN, aN, aI 0, aI (nI 0), aI 0, aN, aN, aN, aI (nI 0), aN, aI (nI 0), aN, aN, aN, aN, aI 0], [kI 10 (fun _ => 0), kI 10 (fun _ => 0), kI 10 (fun _ => 0), kI 10 (fun _ => 0), kI 6 (fun _ => 0), kI 7 (fun _ => 0), kI 12 (fun _ => 0), kI 12 (fun _ => 0)])) hin dX10_init_70 rfl ff_X10_35 O28 (Nat.le_of_ble_eq_true rfl) rfl rfl rfl (fun h17 n17 e17 => ?_)
  replace O28 := n17
  replace hf : ∀ i, i ≠ 28 → h17 i = h i := fun i g0 => (e17 i g0).trans (hf i g0)
  refine G_aload_n 74 dX10_init_73 rfl rfl rfl ?_
  refine G_bipush 76 (nI 96) dX10_init_74 rfl (by decide) ?_
  refine G_newa 78 (j := 9) (L' := [(28, 1), (28, 2), (28, 3), (28, 4), (28, 5), (28, 6), (28, 7), (28, 8), (28, 9)]) (b' := (10, [aI (nI 0), aR 28 1, aR 28 2, aR 28 3, aR 28 4, aI (nI 0), aR 28 5, aI 0, aI 0, aI 0, aR 28 6, aI (-1), aR 28 7, aR 28 8, aN, aI (nI 0), aI (nI 0), aI 0, aI (nI 0), aN, aN, aN, aN, aN, aI 0, aI (nI 0), aI 0, aN, aN, aN, aI (nI 0), aN, aI (nI 0), aN, aN, aN, aN, aI 0], [kI 10 (fun _ => 0), kI 10 (fun _ => 0), kI 10 (fun _ => 0), kI 10 (fun _ => 0), kI 6 (fun _ => 0), kI 7 (fun _ => 0), kI 12 (fun _ => 0), kI 12 (fun _ => 0), kI 96 (fun _ => 0)])) (kI 96 (fun _ => 0)) rfl dX10_init_76 rfl acI O28 rfl (adq hAd hsz (by decide) (by decide)) rfl (by decide) clI (ceI 96) (by decide) ⟨Nat.le_of_ble_eq_true rfl, Nat.le_of_ble_eq_true rfl⟩ rfl rfl (fun h18 n18 e18 => ?_)
  replace O28 := n18
  replace hf : ∀ i, i ≠ 28 → h18 i = h i := fun i g0 => (e18 i g0).trans (hf i g0)
  refine G_putF 81 (b' := (10, [aI (nI 0), aR 28 1, aR 28 2, aR 28 3, aR 28 4, aI (nI 0), aR 28 5, aI 0, aI 0, aI 0, aR 28 6, aI (-1), aR 28 7, aR 28 8, aR 28 9, aI (nI 0), aI (nI 0), aI 0, aI (nI 0), aN, aN, aN, aN, aN, aI 0, aI (nI 0), aI 0, aN, aN, aN, aI (nI 0), aN, aI (nI 0), aN, aN, aN, aN, aI 0], [kI 10 (fun _ => 0), kI 10 (fun _ => 0), kI 10 (fun _ => 0), kI 10 (fun _ => 0), kI 6 (fun _ => 0), kI 7 (fun _ => 0), kI 12 (fun _ => 0), kI 12 (fun _ => 0), kI 96 (fun _ => 0)])) hin dX10_init_78 rfl ff_X10_38 O28 (Nat.le_of_ble_eq_true rfl) rfl rfl rfl (fun h19 n19 e19 => ?_)
  replace O28 := n19
  replace hf : ∀ i, i ≠ 28 → h19 i = h i := fun i g0 => (e19 i g0).trans (hf i g0)
  refine G_aload_n 82 dX10_init_81 rfl rfl rfl ?_
  refine G_bipush 84 (nI 49) dX10_init_82 rfl (by decide) ?_
  refine G_newa 86 (j := 10) (L' := [(28, 1), (28, 2), (28, 3), (28, 4), (28, 5), (28, 6), (28, 7), (28, 8), (28, 9), (28, 10)]) (b' := (10, [aI (nI 0), aR 28 1, aR 28 2, aR 28 3, aR 28 4, aI (nI 0), aR 28 5, aI 0, aI 0, aI 0, aR 28 6, aI (-1), aR 28 7, aR 28 8, aR 28 9, aI (nI 0), aI (nI 0), aI 0, aI (nI 0), aN, aN, aN, aN, aN, aI 0, aI (nI 0), aI 0, aN, aN, aN, aI (nI 0), aN, aI (nI 0), aN, aN, aN, aN, aI 0], [kI 10 (fun _ => 0), kI 10 (fun _ => 0), kI 10 (fun _ => 0), kI 10 (fun _ => 0), kI 6 (fun _ => 0), kI 7 (fun _ => 0), kI 12 (fun _ => 0), kI 12 (fun _ => 0), kI 96 (fun _ => 0), kI 49 (fun _ => 0)])) (kI 49 (fun _ => 0)) rfl dX10_init_84 rfl acI O28 rfl (adq hAd hsz (by decide) (by decide)) rfl (by decide) clI (ceI 49) (by decide) ⟨Nat.le_of_ble_eq_true rfl, Nat.le_of_ble_eq_true rfl⟩ rfl rfl (fun h20 n20 e20 => ?_)
  replace O28 := n20
  replace hf : ∀ i, i ≠ 28 → h20 i = h i := fun i g0 => (e20 i g0).trans (hf i g0)
  refine G_putF 89 (b' := (10, [aI (nI 0), aR 28 1, aR 28 2, aR 28 3, aR 28 4, aI (nI 0), aR 28 5, aI 0, aI 0, aI 0, aR 28 6, aI (-1), aR 28 7, aR 28 8, aR 28 9, aI (nI 0), aI (nI 0), aI 0, aI (nI 0), aR 28 10, aN, aN, aN, aN, aI 0, aI (nI 0), aI 0, aN, aN, aN, aI (nI 0), aN, aI (nI 0), aN, aN, aN, aN, aI 0], [kI 10 (fun _ => 0), kI 10 (fun _ => 0), kI 10 (fun _ => 0), kI 10 (fun _ => 0), kI 6 (fun _ => 0), kI 7 (fun _ => 0), kI 12 (fun _ => 0), kI 12 (fun _ => 0), kI 96 (fun _ => 0), kI 49 (fun _ => 0)])) hin dX10_init_86 rfl ff_X10_41 O28 (Nat.le_of_ble_eq_true rfl) rfl rfl rfl (fun h21 n21 e21 => ?_)
  replace O28 := n21
  replace hf : ∀ i, i ≠ 28 → h21 i = h i := fun i g0 => (e21 i g0).trans (hf i g0)
  refine G_aload_n 90 dX10_init_89 rfl rfl rfl ?_
  refine G_bipush 92 (nI 49) dX10_init_90 rfl (by decide) ?_
  refine G_newa 94 (j := 11) (L' := [(28, 1), (28, 2), (28, 3), (28, 4), (28, 5), (28, 6), (28, 7), (28, 8), (28, 9), (28, 10), (28, 11)]) (b' := (10, [aI (nI 0), aR 28 1, aR 28 2, aR 28 3, aR 28 4, aI (nI 0), aR 28 5, aI 0, aI 0, aI 0, aR 28 6, aI (-1), aR 28 7, aR 28 8, aR 28 9, aI (nI 0), aI (nI 0), aI 0, aI (nI 0), aR 28 10, aN, aN, aN, aN, aI 0, aI (nI 0), aI 0, aN, aN, aN, aI (nI 0), aN, aI (nI 0), aN, aN, aN, aN, aI 0], [kI 10 (fun _ => 0), kI 10 (fun _ => 0), kI 10 (fun _ => 0), kI 10 (fun _ => 0), kI 6 (fun _ => 0), kI 7 (fun _ => 0), kI 12 (fun _ => 0), kI 12 (fun _ => 0), kI 96 (fun _ => 0), kI 49 (fun _ => 0), kI 49 (fun _ => 0)])) (kI 49 (fun _ => 0)) rfl dX10_init_92 rfl acI O28 rfl (adq hAd hsz (by decide) (by decide)) rfl (by decide) clI (ceI 49) (by decide) ⟨Nat.le_of_ble_eq_true rfl, Nat.le_of_ble_eq_true rfl⟩ rfl rfl (fun h22 n22 e22 => ?_)
  replace O28 := n22
  replace hf : ∀ i, i ≠ 28 → h22 i = h i := fun i g0 => (e22 i g0).trans (hf i g0)
  refine G_putF 97 (b' := (10, [aI (nI 0), aR 28 1, aR 28 2, aR 28 3, aR 28 4, aI (nI 0), aR 28 5, aI 0, aI 0, aI 0, aR 28 6, aI (-1), aR 28 7, aR 28 8, aR 28 9, aI (nI 0), aI (nI 0), aI 0, aI (nI 0), aR 28 10, aR 28 11, aN, aN, aN, aI 0, aI (nI 0), aI 0, aN, aN, aN, aI (nI 0), aN, aI (nI 0), aN, aN, aN, aN, aI 0], [kI 10 (fun _ => 0), kI 10 (fun _ => 0), kI 10 (fun _ => 0), kI 10 (fun _ => 0), kI 6 (fun _ => 0), kI 7 (fun _ => 0), kI 12 (fun _ => 0), kI 12 (fun _ => 0), kI 96 (fun _ => 0), kI 49 (fun _ => 0), kI 49 (fun _ => 0)])) hin dX10_init_94 rfl ff_X10_44 O28 (Nat.le_of_ble_eq_true rfl) rfl rfl rfl (fun h23 n23 e23 => ?_)
  replace O28 := n23
  replace hf : ∀ i, i ≠ 28 → h23 i = h i := fun i g0 => (e23 i g0).trans (hf i g0)
  refine G_aload_n 98 dX10_init_97 rfl rfl rfl ?_
  refine G_sipush 101 (nI 196) dX10_init_98 rfl (by decide) ?_
  refine G_newa 103 (j := 12) (L' := [(28, 1), (28, 2), (28, 3), (28, 4), (28, 5), (28, 6), (28, 7), (28, 8), (28, 9), (28, 10), (28, 11), (28, 12)]) (b' := (10, [aI (nI 0), aR 28 1, aR 28 2, aR 28 3, aR 28 4, aI (nI 0), aR 28 5, aI 0, aI 0, aI 0, aR 28 6, aI (-1), aR 28 7, aR 28 8, aR 28 9, aI (nI 0), aI (nI 0), aI 0, aI (nI 0), aR 28 10, aR 28 11, aN, aN, aN, aI 0, aI (nI 0), aI 0, aN, aN, aN, aI (nI 0), aN, aI (nI 0), aN, aN, aN, aN, aI 0], [kI 10 (fun _ => 0), kI 10 (fun _ => 0), kI 10 (fun _ => 0), kI 10 (fun _ => 0), kI 6 (fun _ => 0), kI 7 (fun _ => 0), kI 12 (fun _ => 0), kI 12 (fun _ => 0), kI 96 (fun _ => 0), kI 49 (fun _ => 0), kI 49 (fun _ => 0), kI 196 (fun _ => 0)])) (kI 196 (fun _ => 0)) rfl dX10_init_101 rfl acI O28 rfl (adq hAd hsz (by decide) (by decide)) rfl (by decide) clI (ceI 196) (by decide) ⟨Nat.le_of_ble_eq_true rfl, Nat.le_of_ble_eq_true rfl⟩ rfl rfl (fun h24 n24 e24 => ?_)
  replace O28 := n24
  replace hf : ∀ i, i ≠ 28 → h24 i = h i := fun i g0 => (e24 i g0).trans (hf i g0)
  refine G_putF 106 (b' := (10, [aI (nI 0), aR 28 1, aR 28 2, aR 28 3, aR 28 4, aI (nI 0), aR 28 5, aI 0, aI 0, aI 0, aR 28 6, aI (-1), aR 28 7, aR 28 8, aR 28 9, aI (nI 0), aI (nI 0), aI 0, aI (nI 0), aR 28 10, aR 28 11, aR 28 12, aN, aN, aI 0, aI (nI 0), aI 0, aN, aN, aN, aI (nI 0), aN, aI (nI 0), aN, aN, aN, aN, aI 0], [kI 10 (fun _ => 0), kI 10 (fun _ => 0), kI 10 (fun _ => 0), kI 10 (fun _ => 0), kI 6 (fun _ => 0), kI 7 (fun _ => 0), kI 12 (fun _ => 0), kI 12 (fun _ => 0), kI 96 (fun _ => 0), kI 49 (fun _ => 0), kI 49 (fun _ => 0), kI 196 (fun _ => 0)])) hin dX10_init_103 rfl ff_X10_47 O28 (Nat.le_of_ble_eq_true rfl) rfl rfl rfl (fun h25 n25 e25 => ?_)
  replace O28 := n25
  replace hf : ∀ i, i ≠ 28 → h25 i = h i := fun i g0 => (e25 i g0).trans (hf i g0)
  refine G_aload_n 107 dX10_init_106 rfl rfl rfl ?_
  refine G_bipush 109 (nI 50) dX10_init_107 rfl (by decide) ?_
  refine G_newa 111 (j := 13) (L' := [(28, 1), (28, 2), (28, 3), (28, 4), (28, 5), (28, 6), (28, 7), (28, 8), (28, 9), (28, 10), (28, 11), (28, 12), (28, 13)]) (b' := (10, [aI (nI 0), aR 28 1, aR 28 2, aR 28 3, aR 28 4, aI (nI 0), aR 28 5, aI 0, aI 0, aI 0, aR 28 6, aI (-1), aR 28 7, aR 28 8, aR 28 9, aI (nI 0), aI (nI 0), aI 0, aI (nI 0), aR 28 10, aR 28 11, aR 28 12, aN, aN, aI 0, aI (nI 0), aI 0, aN, aN, aN, aI (nI 0), aN, aI (nI 0), aN, aN, aN, aN, aI 0], [kI 10 (fun _ => 0), kI 10 (fun _ => 0), kI 10 (fun _ => 0), kI 10 (fun _ => 0), kI 6 (fun _ => 0), kI 7 (fun _ => 0), kI 12 (fun _ => 0), kI 12 (fun _ => 0), kI 96 (fun _ => 0), kI 49 (fun _ => 0), kI 49 (fun _ => 0), kI 196 (fun _ => 0), kI 50 (fun _ => 0)])) (kI 50 (fun _ => 0)) rfl dX10_init_109 rfl acI O28 rfl (adq hAd hsz (by decide) (by decide)) rfl (by decide) clI (ceI 50) (by decide) ⟨Nat.le_of_ble_eq_true rfl, Nat.le_of_ble_eq_true rfl⟩ rfl rfl (fun h26 n26 e26 => ?_)
  replace O28 := n26
  replace hf : ∀ i, i ≠ 28 → h26 i = h i := fun i g0 => (e26 i g0).trans (hf i g0)
  refine G_putF 114 (b' := (10, [aI (nI 0), aR 28 1, aR 28 2, aR 28 3, aR 28 4, aI (nI 0), aR 28 5, aI 0, aI 0, aI 0, aR 28 6, aI (-1), aR 28 7, aR 28 8, aR 28 9, aI (nI 0), aI (nI 0), aI 0, aI (nI 0), aR 28 10, aR 28 11, aR 28 12, aR 28 13, aN, aI 0, aI (nI 0), aI 0, aN, aN, aN, aI (nI 0), aN, aI (nI 0), aN, aN, aN, aN, aI 0], [kI 10 (fun _ => 0), kI 10 (fun _ => 0), kI 10 (fun _ => 0), kI 10 (fun _ => 0), kI 6 (fun _ => 0), kI 7 (fun _ => 0), kI 12 (fun _ => 0), kI 12 (fun _ => 0), kI 96 (fun _ => 0), kI 49 (fun _ => 0), kI 49 (fun _ => 0), kI 196 (fun _ => 0), kI 50 (fun _ => 0)])) hin dX10_init_111 rfl ff_X10_50 O28 (Nat.le_of_ble_eq_true rfl) rfl rfl rfl (fun h27 n27 e27 => ?_)
  replace O28 := n27
  replace hf : ∀ i, i ≠ 28 → h27 i = h i := fun i g0 => (e27 i g0).trans (hf i g0)
  refine G_aload_n 115 dX10_init_114 rfl rfl rfl ?_
  refine G_bipush 117 (nI 50) dX10_init_115 rfl (by decide) ?_
  refine G_newa 119 (j := 14) (L' := [(28, 1), (28, 2), (28, 3), (28, 4), (28, 5), (28, 6), (28, 7), (28, 8), (28, 9), (28, 10), (28, 11), (28, 12), (28, 13), (28, 14)]) (b' := (10, [aI (nI 0), aR 28 1, aR 28 2, aR 28 3, aR 28 4, aI (nI 0), aR 28 5, aI 0, aI 0, aI 0, aR 28 6, aI (-1), aR 28 7, aR 28 8, aR 28 9, aI (nI 0), aI (nI 0), aI 0, aI (nI 0), aR 28 10, aR 28 11, aR 28 12, aR 28 13, aN, aI 0, aI (nI 0), aI 0, aN, aN, aN, aI (nI 0), aN, aI (nI 0), aN, aN, aN, aN, aI 0], [kI 10 (fun _ => 0), kI 10 (fun _ => 0), kI 10 (fun _ => 0), kI 10 (fun _ => 0), kI 6 (fun _ => 0), kI 7 (fun _ => 0), kI 12 (fun _ => 0), kI 12 (fun _ => 0), kI 96 (fun _ => 0), kI 49 (fun _ => 0), kI 49 (fun _ => 0), kI 196 (fun _ => 0), kI 50 (fun _ => 0), kI 50 (fun _ => 0)])) (kI 50 (fun _ => 0)) rfl dX10_init_117 rfl acI O28 rfl (adq hAd hsz (by decide) (by decide)) rfl (by decide) clI (ceI 50) (by decide) ⟨Nat.le_of_ble_eq_true rfl, Nat.le_of_ble_eq_true rfl⟩ rfl rfl (fun h28 n28 e28 => ?_)
  replace O28 := n28
  replace hf : ∀ i, i ≠ 28 → h28 i = h i := fun i g0 => (e28 i g0).trans (hf i g0)
  refine G_putF 122 (b' := (10, [aI (nI 0), aR 28 1, aR 28 2, aR 28 3, aR 28 4, aI (nI 0), aR 28 5, aI 0, aI 0, aI 0, aR 28 6, aI (-1), aR 28 7, aR 28 8, aR 28 9, aI (nI 0), aI (nI 0), aI 0, aI (nI 0), aR 28 10, aR 28 11, aR 28 12, aR 28 13, aR 28 14, aI 0, aI (nI 0), aI 0, aN, aN, aN, aI (nI 0), aN, aI (nI 0), aN, aN, aN, aN, aI 0], [kI 10 (fun _ => 0), kI 10 (fun _ => 0), kI 10 (fun _ => 0), kI 10 (fun _ => 0), kI 6 (fun _ => 0), kI 7 (fun _ => 0), kI 12 (fun _ => 0), kI 12 (fun _ => 0), kI 96 (fun _ => 0), kI 49 (fun _ => 0), kI 49 (fun _ => 0), kI 196 (fun _ => 0), kI 50 (fun _ => 0), kI 50 (fun _ => 0)])) hin dX10_init_119 rfl ff_X10_53 O28 (Nat.le_of_ble_eq_true rfl) rfl rfl rfl (fun h29 n29 e29 => ?_)
  replace O28 := n29
  replace hf : ∀ i, i ≠ 28 → h29 i = h i := fun i g0 => (e29 i g0).trans (hf i g0)
  refine G_aload_n 123 dX10_init_122 rfl rfl rfl ?_
  refine G_sipush 126 (nI 400) dX10_init_123 rfl (by decide) ?_
  refine G_newa 128 (j := 15) (L' := [(28, 1), (28, 2), (28, 3), (28, 4), (28, 5), (28, 6), (28, 7), (28, 8), (28, 9), (28, 10), (28, 11), (28, 12), (28, 13), (28, 14), (28, 15)]) (b' := (10, [aI (nI 0), aR 28 1, aR 28 2, aR 28 3, aR 28 4, aI (nI 0), aR 28 5, aI 0, aI 0, aI 0, aR 28 6, aI (-1), aR 28 7, aR 28 8, aR 28 9, aI (nI 0), aI (nI 0), aI 0, aI (nI 0), aR 28 10, aR 28 11, aR 28 12, aR 28 13, aR 28 14, aI 0, aI (nI 0), aI 0, aN, aN, aN, aI (nI 0), aN, aI (nI 0), aN, aN, aN, aN, aI 0], [kI 10 (fun _ => 0), kI 10 (fun _ => 0), kI 10 (fun _ => 0), kI 10 (fun _ => 0), kI 6 (fun _ => 0), kI 7 (fun _ => 0), kI 12 (fun _ => 0), kI 12 (fun _ => 0), kI 96 (fun _ => 0), kI 49 (fun _ => 0), kI 49 (fun _ => 0), kI 196 (fun _ => 0), kI 50 (fun _ => 0), kI 50 (fun _ => 0), kI 400 (fun _ => 0)])) (kI 400 (fun _ => 0)) rfl dX10_init_126 rfl acI O28 rfl (adq hAd hsz (by decide) (by decide)) rfl (by decide) clI (ceI 400) (by decide) ⟨Nat.le_of_ble_eq_true rfl, Nat.le_of_ble_eq_true rfl⟩ rfl rfl (fun h30 n30 e30 => ?_)
  replace O28 := n30
  replace hf : ∀ i, i ≠ 28 → h30 i = h i := fun i g0 => (e30 i g0).trans (hf i g0)
  refine G_putF 131 (b' := (10, [aI (nI 0), aR 28 1, aR 28 2, aR 28 3, aR 28 4, aI (nI 0), aR 28 5, aI 0, aI 0, aI 0, aR 28 6, aI (-1), aR 28 7, aR 28 8, aR 28 9, aI (nI 0), aI (nI 0), aI 0, aI (nI 0), aR 28 10, aR 28 11, aR 28 12, aR 28 13, aR 28 14, aI 0, aI (nI 0), aI 0, aN, aR 28 15, aN, aI (nI 0), aN, aI (nI 0), aN, aN, aN, aN, aI 0], [kI 10 (fun _ => 0), kI 10 (fun _ => 0), kI 10 (fun _ => 0), kI 10 (fun _ => 0), kI 6 (fun _ => 0), kI 7 (fun _ => 0), kI 12 (fun _ => 0), kI 12 (fun _ => 0), kI 96 (fun _ => 0), kI 49 (fun _ => 0), kI 49 (fun _ => 0), kI 196 (fun _ => 0), kI 50 (fun _ => 0), kI 50 (fun _ => 0), kI 400 (fun _ => 0)])) hin dX10_init_128 rfl ff_X10_56 O28 (Nat.le_of_ble_eq_true rfl) rfl rfl rfl (fun h31 n31 e31 => ?_)
  replace O28 := n31
  replace hf : ∀ i, i ≠ 28 → h31 i = h i := fun i g0 => (e31 i g0).trans (hf i g0)
  refine G_aload_n 132 dX10_init_131 rfl rfl rfl ?_
  refine G_bipush 134 (nI 50) dX10_init_132 rfl (by decide) ?_
  refine G_newa 136 (j := 16) (L' := [(28, 1), (28, 2), (28, 3), (28, 4), (28, 5), (28, 6), (28, 7), (28, 8), (28, 9), (28, 10), (28, 11), (28, 12), (28, 13), (28, 14), (28, 15), (28, 16)]) (b' := (10, [aI (nI 0), aR 28 1, aR 28 2, aR 28 3, aR 28 4, aI (nI 0), aR 28 5, aI 0, aI 0, aI 0, aR 28 6, aI (-1), aR 28 7, aR 28 8, aR 28 9, aI (nI 0), aI (nI 0), aI 0, aI (nI 0), aR 28 10, aR 28 11, aR 28 12, aR 28 13, aR 28 14, aI 0, aI (nI 0), aI 0, aN, aR 28 15, aN, aI (nI 0), aN, aI (nI 0), aN, aN, aN, aN, aI 0], [kI 10 (fun _ => 0), kI 10 (fun _ => 0), kI 10 (fun _ => 0), kI 10 (fun _ => 0), kI 6 (fun _ => 0), kI 7 (fun _ => 0), kI 12 (fun _ => 0), kI 12 (fun _ => 0), kI 96 (fun _ => 0), kI 49 (fun _ => 0), kI 49 (fun _ => 0), kI 196 (fun _ => 0), kI 50 (fun _ => 0), kI 50 (fun _ => 0), kI 400 (fun _ => 0), kI 50 (fun _ => 0)])) (kI 50 (fun _ => 0)) rfl dX10_init_134 rfl acI O28 rfl (adq hAd hsz (by decide) (by decide)) rfl (by decide) clI (ceI 50) (by decide) ⟨Nat.le_of_ble_eq_true rfl, Nat.le_of_ble_eq_true rfl⟩ rfl rfl (fun h32 n32 e32 => ?_)
  replace O28 := n32
  replace hf : ∀ i, i ≠ 28 → h32 i = h i := fun i g0 => (e32 i g0).trans (hf i g0)
  refine G_putF 139 (b' := (10, [aI (nI 0), aR 28 1, aR 28 2, aR 28 3, aR 28 4, aI (nI 0), aR 28 5, aI 0, aI 0, aI 0, aR 28 6, aI (-1), aR 28 7, aR 28 8, aR 28 9, aI (nI 0), aI (nI 0), aI 0, aI (nI 0), aR 28 10, aR 28 11, aR 28 12, aR 28 13, aR 28 14, aI 0, aI (nI 0), aI 0, aN, aR 28 15, aR 28 16, aI (nI 0), aN, aI (nI 0), aN, aN, aN, aN, aI 0], [kI 10 (fun _ => 0), kI 10 (fun _ => 0), kI 10 (fun _ => 0), kI 10 (fun _ => 0), kI 6 (fun _ => 0), kI 7 (fun _ => 0), kI 12 (fun _ => 0), kI 12 (fun _ => 0), kI 96 (fun _ => 0), kI 49 (fun _ => 0), kI 49 (fun _ => 0), kI 196 (fun _ => 0), kI 50 (fun _ => 0), kI 50 (fun _ => 0), kI 400 (fun _ => 0), kI 50 (fun _ => 0)])) hin dX10_init_136 rfl ff_X10_59 O28 (Nat.le_of_ble_eq_true rfl) rfl rfl rfl (fun h33 n33 e33 => ?_)
  replace O28 := n33
  replace hf : ∀ i, i ≠ 28 → h33 i = h i := fun i g0 => (e33 i g0).trans (hf i g0)
  refine G_aload_n 140 dX10_init_139 rfl rfl rfl ?_
  refine G_bipush 142 (nI 16) dX10_init_140 rfl (by decide) ?_
  refine G_newa 144 (j := 17) (L' := [(28, 1), (28, 2), (28, 3), (28, 4), (28, 5), (28, 6), (28, 7), (28, 8), (28, 9), (28, 10), (28, 11), (28, 12), (28, 13), (28, 14), (28, 15), (28, 16), (28, 17)]) (b' := (10, [aI (nI 0), aR 28 1, aR 28 2, aR 28 3, aR 28 4, aI (nI 0), aR 28 5, aI 0, aI 0, aI 0, aR 28 6, aI (-1), aR 28 7, aR 28 8, aR 28 9, aI (nI 0), aI (nI 0), aI 0, aI (nI 0), aR 28 10, aR 28 11, aR 28 12, aR 28 13, aR 28 14, aI 0, aI (nI 0), aI 0, aN, aR 28 15, aR 28 16, aI (nI 0), aN, aI (nI 0), aN, aN, aN, aN, aI 0], [kI 10 (fun _ => 0), kI 10 (fun _ => 0), kI 10 (fun _ => 0), kI 10 (fun _ => 0), kI 6 (fun _ => 0), kI 7 (fun _ => 0), kI 12 (fun _ => 0), kI 12 (fun _ => 0), kI 96 (fun _ => 0), kI 49 (fun _ => 0), kI 49 (fun _ => 0), kI 196 (fun _ => 0), kI 50 (fun _ => 0), kI 50 (fun _ => 0), kI 400 (fun _ => 0), kI 50 (fun _ => 0), kI 16 (fun _ => 0)])) (kI 16 (fun _ => 0)) rfl dX10_init_142 rfl acI O28 rfl (adq hAd hsz (by decide) (by decide)) rfl (by decide) clI (ceI 16) (by decide) ⟨Nat.le_of_ble_eq_true rfl, Nat.le_of_ble_eq_true rfl⟩ rfl rfl (fun h34 n34 e34 => ?_)
  replace O28 := n34
  replace hf : ∀ i, i ≠ 28 → h34 i = h i := fun i g0 => (e34 i g0).trans (hf i g0)
  refine G_putF 147 (b' := (10, [aI (nI 0), aR 28 1, aR 28 2, aR 28 3, aR 28 4, aI (nI 0), aR 28 5, aI 0, aI 0, aI 0, aR 28 6, aI (-1), aR 28 7, aR 28 8, aR 28 9, aI (nI 0), aI (nI 0), aI 0, aI (nI 0), aR 28 10, aR 28 11, aR 28 12, aR 28 13, aR 28 14, aI 0, aI (nI 0), aI 0, aN, aR 28 15, aR 28 16, aI (nI 0), aR 28 17, aI (nI 0), aN, aN, aN, aN, aI 0], [kI 10 (fun _ => 0), kI 10 (fun _ => 0), kI 10 (fun _ => 0), kI 10 (fun _ => 0), kI 6 (fun _ => 0), kI 7 (fun _ => 0), kI 12 (fun _ => 0), kI 12 (fun _ => 0), kI 96 (fun _ => 0), kI 49 (fun _ => 0), kI 49 (fun _ => 0), kI 196 (fun _ => 0), kI 50 (fun _ => 0), kI 50 (fun _ => 0), kI 400 (fun _ => 0), kI 50 (fun _ => 0), kI 16 (fun _ => 0)])) hin dX10_init_144 rfl ff_X10_62 O28 (Nat.le_of_ble_eq_true rfl) rfl rfl rfl (fun h35 n35 e35 => ?_)
  replace O28 := n35
  replace hf : ∀ i, i ≠ 28 → h35 i = h i := fun i g0 => (e35 i g0).trans (hf i g0)
  refine G_aload_n 148 dX10_init_147 rfl rfl rfl ?_
  refine G_sipush 151 (nI 256) dX10_init_148 rfl (by decide) ?_
  refine G_newa 153 (j := 18) (L' := [(28, 1), (28, 2), (28, 3), (28, 4), (28, 5), (28, 6), (28, 7), (28, 8), (28, 9), (28, 10), (28, 11), (28, 12), (28, 13), (28, 14), (28, 15), (28, 16), (28, 17), (28, 18)]) (b' := (10, [aI (nI 0), aR 28 1, aR 28 2, aR 28 3, aR 28 4, aI (nI 0), aR 28 5, aI 0, aI 0, aI 0, aR 28 6, aI (-1), aR 28 7, aR 28 8, aR 28 9, aI (nI 0), aI (nI 0), aI 0, aI (nI 0), aR 28 10, aR 28 11, aR 28 12, aR 28 13, aR 28 14, aI 0, aI (nI 0), aI 0, aN, aR 28 15, aR 28 16, aI (nI 0), aR 28 17, aI (nI 0), aN, aN, aN, aN, aI 0], [kI 10 (fun _ => 0), kI 10 (fun _ => 0), kI 10 (fun _ => 0), kI 10 (fun _ => 0), kI 6 (fun _ => 0), kI 7 (fun _ => 0), kI 12 (fun _ => 0), kI 12 (fun _ => 0), kI 96 (fun _ => 0), kI 49 (fun _ => 0), kI 49 (fun _ => 0), kI 196 (fun _ => 0), kI 50 (fun _ => 0), kI 50 (fun _ => 0), kI 400 (fun _ => 0), kI 50 (fun _ => 0), kI 16 (fun _ => 0), kZ 256 (fun _ => 0)])) (kZ 256 (fun _ => 0)) rfl dX10_init_151 rfl acZ O28 rfl (adq hAd hsz (by decide) (by decide)) rfl (by decide) clZ (ceZ 256) (by decide) ⟨Nat.le_of_ble_eq_true rfl, Nat.le_of_ble_eq_true rfl⟩ rfl rfl (fun h36 n36 e36 => ?_)
  replace O28 := n36
  replace hf : ∀ i, i ≠ 28 → h36 i = h i := fun i g0 => (e36 i g0).trans (hf i g0)
  refine G_putF 156 (b' := (10, [aI (nI 0), aR 28 1, aR 28 2, aR 28 3, aR 28 4, aI (nI 0), aR 28 5, aI 0, aI 0, aI 0, aR 28 6, aI (-1), aR 28 7, aR 28 8, aR 28 9, aI (nI 0), aI (nI 0), aI 0, aI (nI 0), aR 28 10, aR 28 11, aR 28 12, aR 28 13, aR 28 14, aI 0, aI (nI 0), aI 0, aN, aR 28 15, aR 28 16, aI (nI 0), aR 28 17, aI (nI 0), aR 28 18, aN, aN, aN, aI 0], [kI 10 (fun _ => 0), kI 10 (fun _ => 0), kI 10 (fun _ => 0), kI 10 (fun _ => 0), kI 6 (fun _ => 0), kI 7 (fun _ => 0), kI 12 (fun _ => 0), kI 12 (fun _ => 0), kI 96 (fun _ => 0), kI 49 (fun _ => 0), kI 49 (fun _ => 0), kI 196 (fun _ => 0), kI 50 (fun _ => 0), kI 50 (fun _ => 0), kI 400 (fun _ => 0), kI 50 (fun _ => 0), kI 16 (fun _ => 0), kZ 256 (fun _ => 0)])) hin dX10_init_153 rfl ff_X10_65 O28 (Nat.le_of_ble_eq_true rfl) rfl rfl rfl (fun h37 n37 e37 => ?_)
  replace O28 := n37
  replace hf : ∀ i, i ≠ 28 → h37 i = h i := fun i g0 => (e37 i g0).trans (hf i g0)
  refine G_aload_n 157 dX10_init_156 rfl rfl rfl ?_
  refine G_sipush 160 (nI 256) dX10_init_157 rfl (by decide) ?_
  refine G_newa 162 (j := 19) (L' := [(28, 1), (28, 2), (28, 3), (28, 4), (28, 5), (28, 6), (28, 7), (28, 8), (28, 9), (28, 10), (28, 11), (28, 12), (28, 13), (28, 14), (28, 15), (28, 16), (28, 17), (28, 18), (28, 19)]) (b' := (10, [aI (nI 0), aR 28 1, aR 28 2, aR 28 3, aR 28 4, aI (nI 0), aR 28 5, aI 0, aI 0, aI 0, aR 28 6, aI (-1), aR 28 7, aR 28 8, aR 28 9, aI (nI 0), aI (nI 0), aI 0, aI (nI 0), aR 28 10, aR 28 11, aR 28 12, aR 28 13, aR 28 14, aI 0, aI (nI 0), aI 0, aN, aR 28 15, aR 28 16, aI (nI 0), aR 28 17, aI (nI 0), aR 28 18, aN, aN, aN, aI 0], [kI 10 (fun _ => 0), kI 10 (fun _ => 0), kI 10 (fun _ => 0), kI 10 (fun _ => 0), kI 6 (fun _ => 0), kI 7 (fun _ => 0), kI 12 (fun _ => 0), kI 12 (fun _ => 0), kI 96 (fun _ => 0), kI 49 (fun _ => 0), kI 49 (fun _ => 0), kI 196 (fun _ => 0), kI 50 (fun _ => 0), kI 50 (fun _ => 0), kI 400 (fun _ => 0), kI 50 (fun _ => 0), kI 16 (fun _ => 0), kZ 256 (fun _ => 0), kI 256 (fun _ => 0)])) (kI 256 (fun _ => 0)) rfl dX10_init_160 rfl acI O28 rfl (adq hAd hsz (by decide) (by decide)) rfl (by decide) clI (ceI 256) (by decide) ⟨Nat.le_of_ble_eq_true rfl, Nat.le_of_ble_eq_true rfl⟩ rfl rfl (fun h38 n38 e38 => ?_)
  replace O28 := n38
  replace hf : ∀ i, i ≠ 28 → h38 i = h i := fun i g0 => (e38 i g0).trans (hf i g0)
  refine G_putF 165 (b' := (10, [aI (nI 0), aR 28 1, aR 28 2, aR 28 3, aR 28 4, aI (nI 0), aR 28 5, aI 0, aI 0, aI 0, aR 28 6, aI (-1), aR 28 7, aR 28 8, aR 28 9, aI (nI 0), aI (nI 0), aI 0, aI (nI 0), aR 28 10, aR 28 11, aR 28 12, aR 28 13, aR 28 14, aI 0, aI (nI 0), aI 0, aN, aR 28 15, aR 28 16, aI (nI 0), aR 28 17, aI (nI 0), aR 28 18, aR 28 19, aN, aN, aI 0], [kI 10 (fun _ => 0), kI 10 (fun _ => 0), kI 10 (fun _ => 0), kI 10 (fun _ => 0), kI 6 (fun _ => 0), kI 7 (fun _ => 0), kI 12 (fun _ => 0), kI 12 (fun _ => 0), kI 96 (fun _ => 0), kI 49 (fun _ => 0), kI 49 (fun _ => 0), kI 196 (fun _ => 0), kI 50 (fun _ => 0), kI 50 (fun _ => 0), kI 400 (fun _ => 0), kI 50 (fun _ => 0), kI 16 (fun _ => 0), kZ 256 (fun _ => 0), kI 256 (fun _ => 0)])) hin dX10_init_162 rfl ff_X10_69 O28 (Nat.le_of_ble_eq_true rfl) rfl rfl rfl (fun h39 n39 e39 => ?_)
  replace O28 := n39
  replace hf : ∀ i, i ≠ 28 → h39 i = h i := fun i g0 => (e39 i g0).trans (hf i g0)
  refine G_aload_n 166 dX10_init_165 rfl rfl rfl ?_
  refine G_sipush 169 (nI 366) dX10_init_166 rfl (by decide) ?_
  refine G_newa 171 (j := 20) (L' := [(28, 1), (28, 2), (28, 3), (28, 4), (28, 5), (28, 6), (28, 7), (28, 8), (28, 9), (28, 10), (28, 11), (28, 12), (28, 13), (28, 14), (28, 15), (28, 16), (28, 17), (28, 18), (28, 19), (28, 20)]) (b' := (10, [aI (nI 0), aR 28 1, aR 28 2, aR 28 3, aR 28 4, aI (nI 0), aR 28 5, aI 0, aI 0, aI 0, aR 28 6, aI (-1), aR 28 7, aR 28 8, aR 28 9, aI (nI 0), aI (nI 0), aI 0, aI (nI 0), aR 28 10, aR 28 11, aR 28 12, aR 28 13, aR 28 14, aI 0, aI (nI 0), aI 0, aN, aR 28 15, aR 28 16, aI (nI 0), aR 28 17, aI (nI 0), aR 28 18, aR 28 19, aN, aN, aI 0], [kI 10 (fun _ => 0), kI 10 (fun _ => 0), kI 10 (fun _ => 0), kI 10 (fun _ => 0), kI 6 (fun _ => 0), kI 7 (fun _ => 0), kI 12 (fun _ => 0), kI 12 (fun _ => 0), kI 96 (fun _ => 0), kI 49 (fun _ => 0), kI 49 (fun _ => 0), kI 196 (fun _ => 0), kI 50 (fun _ => 0), kI 50 (fun _ => 0), kI 400 (fun _ => 0), kI 50 (fun _ => 0), kI 16 (fun _ => 0), kZ 256 (fun _ => 0), kI 256 (fun _ => 0), kI 366 (fun _ => 0)])) (kI 366 (fun _ => 0)) rfl dX10_init_169 rfl acI O28 rfl (adq hAd hsz (by decide) (by decide)) rfl (by decide) clI (ceI 366) (by decide) ⟨Nat.le_of_ble_eq_true rfl, Nat.le_of_ble_eq_true rfl⟩ rfl rfl (fun h40 n40 e40 => ?_)
  replace O28 := n40
  replace hf : ∀ i, i ≠ 28 → h40 i = h i := fun i g0 => (e40 i g0).trans (hf i g0)
  refine G_putF 174 (b' := (10, [aI (nI 0), aR 28 1, aR 28 2, aR 28 3, aR 28 4, aI (nI 0), aR 28 5, aI 0, aI 0, aI 0, aR 28 6, aI (-1), aR 28 7, aR 28 8, aR 28 9, aI (nI 0), aI (nI 0), aI 0, aI (nI 0), aR 28 10, aR 28 11, aR 28 12, aR 28 13, aR 28 14, aI 0, aI (nI 0), aI 0, aN, aR 28 15, aR 28 16, aI (nI 0), aR 28 17, aI (nI 0), aR 28 18, aR 28 19, aR 28 20, aN, aI 0], [kI 10 (fun _ => 0), kI 10 (fun _ => 0), kI 10 (fun _ => 0), kI 10 (fun _ => 0), kI 6 (fun _ => 0), kI 7 (fun _ => 0), kI 12 (fun _ => 0), kI 12 (fun _ => 0), kI 96 (fun _ => 0), kI 49 (fun _ => 0), kI 49 (fun _ => 0), kI 196 (fun _ => 0), kI 50 (fun _ => 0), kI 50 (fun _ => 0), kI 400 (fun _ => 0), kI 50 (fun _ => 0), kI 16 (fun _ => 0), kZ 256 (fun _ => 0), kI 256 (fun _ => 0), kI 366 (fun _ => 0)])) hin dX10_init_171 rfl ff_X10_72 O28 (Nat.le_of_ble_eq_true rfl) rfl rfl rfl (fun h41 n41 e41 => ?_)
  replace O28 := n41
  replace hf : ∀ i, i ≠ 28 → h41 i = h i := fun i g0 => (e41 i g0).trans (hf i g0)
  refine G_aload_n 175 dX10_init_174 rfl rfl rfl ?_
  refine G_bipush 177 (nI 12) dX10_init_175 rfl (by decide) ?_
  refine G_newa 179 (j := 21) (L' := [(28, 1), (28, 2), (28, 3), (28, 4), (28, 5), (28, 6), (28, 7), (28, 8), (28, 9), (28, 10), (28, 11), (28, 12), (28, 13), (28, 14), (28, 15), (28, 16), (28, 17), (28, 18), (28, 19), (28, 20), (28, 21)]) (b' := (10, [aI (nI 0), aR 28 1, aR 28 2, aR 28 3, aR 28 4, aI (nI 0), aR 28 5, aI 0, aI 0, aI 0, aR 28 6, aI (-1), aR 28 7, aR 28 8, aR 28 9, aI (nI 0), aI (nI 0), aI 0, aI (nI 0), aR 28 10, aR 28 11, aR 28 12, aR 28 13, aR 28 14, aI 0, aI (nI 0), aI 0, aN, aR 28 15, aR 28 16, aI (nI 0), aR 28 17, aI (nI 0), aR 28 18, aR 28 19, aR 28 20, aN, aI 0], [kI 10 (fun _ => 0), kI 10 (fun _ => 0), kI 10 (fun _ => 0), kI 10 (fun _ => 0), kI 6 (fun _ => 0), kI 7 (fun _ => 0), kI 12 (fun _ => 0), kI 12 (fun _ => 0), kI 96 (fun _ => 0), kI 49 (fun _ => 0), kI 49 (fun _ => 0), kI 196 (fun _ => 0), kI 50 (fun _ => 0), kI 50 (fun _ => 0), kI 400 (fun _ => 0), kI 50 (fun _ => 0), kI 16 (fun _ => 0), kZ 256 (fun _ => 0), kI 256 (fun _ => 0), kI 366 (fun _ => 0), kI 12 (fun _ => 0)])) (kI 12 (fun _ => 0)) rfl dX10_init_177 rfl acI O28 rfl (adq hAd hsz (by decide) (by decide)) rfl (by decide) clI (ceI 12) (by decide) ⟨Nat.le_of_ble_eq_true rfl, Nat.le_of_ble_eq_true rfl⟩ rfl rfl (fun h42 n42 e42 => ?_)
  replace O28 := n42
  replace hf : ∀ i, i ≠ 28 → h42 i = h i := fun i g0 => (e42 i g0).trans (hf i g0)
  refine G_putF 182 (b' := (10, [aI (nI 0), aR 28 1, aR 28 2, aR 28 3, aR 28 4, aI (nI 0), aR 28 5, aI 0, aI 0, aI 0, aR 28 6, aI (-1), aR 28 7, aR 28 8, aR 28 9, aI (nI 0), aI (nI 0), aI 0, aI (nI 0), aR 28 10, aR 28 11, aR 28 12, aR 28 13, aR 28 14, aI 0, aI (nI 0), aI 0, aN, aR 28 15, aR 28 16, aI (nI 0), aR 28 17, aI (nI 0), aR 28 18, aR 28 19, aR 28 20, aR 28 21, aI 0], [kI 10 (fun _ => 0), kI 10 (fun _ => 0), kI 10 (fun _ => 0), kI 10 (fun _ => 0), kI 6 (fun _ => 0), kI 7 (fun _ => 0), kI 12 (fun _ => 0), kI 12 (fun _ => 0), kI 96 (fun _ => 0), kI 49 (fun _ => 0), kI 49 (fun _ => 0), kI 196 (fun _ => 0), kI 50 (fun _ => 0), kI 50 (fun _ => 0), kI 400 (fun _ => 0), kI 50 (fun _ => 0), kI 16 (fun _ => 0), kZ 256 (fun _ => 0), kI 256 (fun _ => 0), kI 366 (fun _ => 0), kI 12 (fun _ => 0)])) hin dX10_init_179 rfl ff_X10_75 O28 (Nat.le_of_ble_eq_true rfl) rfl rfl rfl (fun h43 n43 e43 => ?_)
  replace O28 := n43
  replace hf : ∀ i, i ≠ 28 → h43 i = h i := fun i g0 => (e43 i g0).trans (hf i g0)
  refine G_aload_n 183 dX10_init_182 rfl rfl rfl ?_
  refine G_iconst 184 (nI 0) dX10_init_183 rfl (by decide) ?_
  refine G_putI 187 (b' := (10, [aI (nI 0), aR 28 1, aR 28 2, aR 28 3, aR 28 4, aI (nI 0), aR 28 5, aI 0, aI 0, aI (nI 0), aR 28 6, aI (-1), aR 28 7, aR 28 8, aR 28 9, aI (nI 0), aI (nI 0), aI 0, aI (nI 0), aR 28 10, aR 28 11, aR 28 12, aR 28 13, aR 28 14, aI 0, aI (nI 0), aI 0, aN, aR 28 15, aR 28 16, aI (nI 0), aR 28 17, aI (nI 0), aR 28 18, aR 28 19, aR 28 20, aR 28 21, aI 0], [kI 10 (fun _ => 0), kI 10 (fun _ => 0), kI 10 (fun _ => 0), kI 10 (fun _ => 0), kI 6 (fun _ => 0), kI 7 (fun _ => 0), kI 12 (fun _ => 0), kI 12 (fun _ => 0), kI 96 (fun _ => 0), kI 49 (fun _ => 0), kI 49 (fun _ => 0), kI 196 (fun _ => 0), kI 50 (fun _ => 0), kI 50 (fun _ => 0), kI 400 (fun _ => 0), kI 50 (fun _ => 0), kI 16 (fun _ => 0), kZ 256 (fun _ => 0), kI 256 (fun _ => 0), kI 366 (fun _ => 0), kI 12 (fun _ => 0)])) dX10_init_184 rfl fw_X10_78 O28 (Nat.le_of_ble_eq_true rfl) rfl (fun h44 n44 e44 => ?_)
  replace O28 := n44
  replace hf : ∀ i, i ≠ 28 → h44 i = h i := fun i g0 => (e44 i g0).trans (hf i g0)
  exact G_retC cg rfl dX10_init_187 rfl ⟨O28, hf⟩
