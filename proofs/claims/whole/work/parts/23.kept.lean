/-! the reference: what is carried, kept, taken back -/
theorem up_self {α : Type} (f : Nat → α) (i : Nat) (v : α) : va_up f i v i = v := if_pos rfl
theorem up_same {α : Type} (f : Nat → α) (i : Nat) : va_up f i (f i) = f := by
  funext j
  unfold va_up
  by_cases e : j = i
  · rw [if_pos e, e]
  · rw [if_neg e]
theorem up_no {α : Type} (f : Nat → α) {i j : Nat} (v : α) (h : ¬ j = i) : va_up f i v j = f j := if_neg h
/-- a world as it is carried -/
def enc (x : PW) : FI := fun i => if i = 0 then nI x.2.2.1 else if i = 1 then nI x.2.2.2.1 else if i = 2 then x.2.2.2.2.1 else if i = 3 then x.2.2.2.2.2 else if i < 44 then x.1 (i - 4) else x.2.1 (i - 44)
theorem enc_0 (x : PW) : enc x 0 = nI x.2.2.1 := rfl
theorem enc_1 (x : PW) : enc x 1 = nI x.2.2.2.1 := rfl
theorem enc_2 (x : PW) : enc x 2 = x.2.2.2.2.1 := rfl
theorem enc_3 (x : PW) : enc x 3 = x.2.2.2.2.2 := rfl
theorem enc_l (x : PW) {k : Nat} (h : k < 40) : enc x (4 + k) = x.1 k := by
  unfold enc
  rw [if_neg (by omega), if_neg (by omega), if_neg (by omega), if_neg (by omega), if_pos (by omega), Nat.add_sub_cancel_left]
theorem enc_p (x : PW) {k : Nat} (_h : k < 6) : enc x (44 + k) = x.2.1 k := by
  unfold enc
  rw [if_neg (by omega), if_neg (by omega), if_neg (by omega), if_neg (by omega), if_neg (by omega), Nat.add_sub_cancel_left]
section EXR
variable {X : En} {l : Launch} {M : MI} {pc : Nat} {ls : List (Option AV)} {st : List AV} {h : Hp} {Q : Option AV → Hp → Prop}
/-- rows by number, equal as far as they go -/
theorem ext_rows {o : Nat} {b b' : Blk} (ho : h o = some b) (h1 : b'.1 = b.1 ∧ b'.2.1 = b.2.1) (hl : b'.2.2.length = b.2.2.length) (hr : ∀ (k : Nat) (a : AA), b.2.2[k]? = some a → ∃ a' : AA, b'.2.2[k]? = some a' ∧ ∀ (q : Nat) (H : Heap), va_at X.1 vwCl (q, .inl (X.2.1 a.1, aaV X a)) H → va_at X.1 vwCl (q, .inl (X.2.1 a'.1, aaV X a')) H) (k : ∀ h' : Hp, h' o = some b' → (∀ i, i ≠ o → h' i = h i) → Av X l M pc ls st h' Q) : Av X l M pc ls st h Q := by
  refine Av.ext (b' := b') ho hl (fun q H hq => ?_) k
  cases q with
  | zero =>
    have e : clB X b' 0 = clB X b 0 := by simp [clB, h1.1, h1.2]
    rw [e]; exact hq
  | succ q =>
    cases e : b.2.2[q]? with
    | none =>
      have e2 : b'.2.2[q]? = none := by
        rw [List.getElem?_eq_none_iff] at *
        omega
      have e3 : clB X b' (q + 1) = clB X b (q + 1) := by simp [clB, e, e2]
      rw [e3]; exact hq
    | some a =>
      obtain ⟨a', e1, e2⟩ := hr q a e
      have e4 : clB X b (q + 1) = .inl (X.2.1 a.1, aaV X a) := by simp [clB, e]
      have e5 : clB X b' (q + 1) = .inl (X.2.1 a'.1, aaV X a') := by simp [clB, e1]
      rw [e5]
      rw [e4] at hq
      exact e2 _ H hq
theorem row_id (a : AA) : ∀ (q : Nat) (H : Heap), va_at X.1 vwCl (q, .inl (X.2.1 a.1, aaV X a)) H → va_at X.1 vwCl (q, .inl (X.2.1 a.1, aaV X a)) H := fun _ _ z => z
/-- the world of the reference, equal as far as its rows go -/
theorem Av.extR {x y : PW} {nv : Int32} {c : RC} {z : RZ} (ho : h 28 = some (rB x nv c z)) (h2 : x.2.2 = y.2.2) (h1 : ∀ j, j < 40 → x.1 j = y.1 j) (h3 : ∀ j, j < 6 → x.2.1 j = y.2.1 j) (k : ∀ h' : Hp, h' 28 = some (rB y nv c z) → (∀ i, i ≠ 28 → h' i = h i) → Av X l M pc ls st h' Q) : Av X l M pc ls st h Q := by
  refine ext_rows (b' := rB y nv c z) ho ⟨rfl, by unfold rB; rw [h2]⟩ rfl (fun q a e => ?_) k
  rcases q with _ | _ | _ | _ | _ | q
  · cases e; exact ⟨_, rfl, fun q H z => kI_same (fun j hj => h1 _ (by omega)) z⟩
  · cases e; exact ⟨_, rfl, fun q H z => kI_same (fun j hj => h1 _ (by omega)) z⟩
  · cases e; exact ⟨_, rfl, fun q H z => kI_same (fun j hj => h1 _ (by omega)) z⟩
  · cases e; exact ⟨_, rfl, fun q H z => kI_same (fun j hj => h1 _ (by omega)) z⟩
  · cases e; exact ⟨_, rfl, fun q H z => kI_same h3 z⟩
  · exact ⟨a, e, row_id a⟩
theorem Av.extK {x : PW} {nv : Int32} {c : RC} {rd : RD} {rm : RM} {kp kp2 tf tf2 : FI} {r3 : Nat × Int32 × AV} {rs : RS} (ho : h 28 = some (rB x nv c (rd, rm, (kp, tf, r3), rs))) (h1 : ∀ j, j < 50 → kp j = kp2 j) (h3 : ∀ j, j < 50 → tf j = tf2 j) (k : ∀ h' : Hp, h' 28 = some (rB x nv c (rd, rm, (kp2, tf2, r3), rs)) → (∀ i, i ≠ 28 → h' i = h i) → Av X l M pc ls st h' Q) : Av X l M pc ls st h Q := by
  refine ext_rows (b' := rB x nv c (rd, rm, (kp2, tf2, r3), rs)) ho ⟨rfl, rfl⟩ rfl (fun q a e => ?_) k
  rcases q with _ | _ | _ | _ | _ | _ | _ | _ | _ | _ | _ | _ | _ | _ | _ | _ | q
  iterate 12 exact ⟨a, e, row_id a⟩
  · cases e; exact ⟨_, rfl, fun q H z => kI_same h1 z⟩
  · exact ⟨a, e, row_id a⟩
  · exact ⟨a, e, row_id a⟩
  · cases e; exact ⟨_, rfl, fun q H z => kI_same h3 z⟩
  · exact ⟨a, e, row_id a⟩
theorem Av.extI {x : PW} {nv : Int32} {cr cl : FI} {cn : Nat} {im im2 : FI} {ch : Int32 × FI × Nat × FI × Nat} {z : RZ} (ho : h 28 = some (rB x nv (cr, cl, cn, im, ch) z)) (h1 : ∀ j, j < 50 → im j = im2 j) (k : ∀ h' : Hp, h' 28 = some (rB x nv (cr, cl, cn, im2, ch) z) → (∀ i, i ≠ 28 → h' i = h i) → Av X l M pc ls st h' Q) : Av X l M pc ls st h Q := by
  refine ext_rows (b' := rB x nv (cr, cl, cn, im2, ch) z) ho ⟨rfl, rfl⟩ rfl (fun q a e => ?_) k
  rcases q with _ | _ | _ | _ | _ | _ | _ | _ | _ | _ | _ | _ | _ | _ | q
  iterate 13 exact ⟨a, e, row_id a⟩
  · cases e; exact ⟨_, rfl, fun q H z => kI_same h1 z⟩
  · exact ⟨a, e, row_id a⟩
end EXR
theorem dHas_11 (x : PW) (nv s : Int32) : dHas x nv s 11 = dEnd x nv s := rfl
theorem dHas_u (x : PW) (u : FI) (nv s : Int32) : dHas (x.1, u, x.2.2) nv s = dHas x nv s := by
  funext n
  unfold dHas
  rw [dayS_u]
theorem nvB_m1 : nvB (-1) = 0 := rfl
theorem S_X10_goDay_n (X : En) (l : Launch) {h : Hp} {x : PW} {c : RC} {z : RZ} (O28 : h 28 = some (rB x (-1) c z)) (hx : LOK x) {s : Int32} : Ct X l mX10_goDay [aR 28 0, aI s] h (QI (PI1 (dDone x 0 s) h (28) (rB x (-1) c ((dLaw x 0 s, dHas x 0 s), z.2)))) := by
  have q := S_X10_goDay X l (s := s) O28 hx (Or.inl rfl)
  rw [nvB_m1] at q
  exact q
theorem S_X10_doneBy_n (X : En) (l : Launch) {h : Hp} {x : PW} {c : RC} {z : RZ} (O28 : h 28 = some (rB x (-1) c z)) (hx : LOK x) {p : Nat} (hp : p < 6) : Ct X l mX10_doneBy [aR 28 0, aI (nI p)] h (QI (PI1 (dDone x 0 (x.2.1 p)) h (28) (rB x (-1) c ((dLaw x 0 (x.2.1 p), dHas x 0 (x.2.1 p)), z.2)))) := by
  have q := S_X10_doneBy X l O28 hx (Or.inl rfl) hp
  rw [nvB_m1] at q
  exact q
theorem S_X10_manyBy_n (X : En) (l : Launch) {h : Hp} {x : PW} {c : RC} {z : RZ} (O28 : h 28 = some (rB x (-1) c z)) (hx : LOK x) {s : Int32} : Ct X l mX10_manyBy [aR 28 0, aI s] h (QI (PI1 (DN x s) h (28) (rB x (-1) c ((dLaw x 0 s, dHas x 0 s), z.2)))) := by
  have q := S_X10_manyBy X l (s := s) O28 hx (Or.inl rfl)
  rw [nvB_m1] at q
  exact q
theorem S_X10_onesOf_r (X : En) (l : Launch) {h : Hp} {v : Int32} (hv : R10 v) : Ct X l mX10_onesOf [aI v] h (QI (PI0 (bitC v) h)) := by
  obtain ⟨m, hm, rfl⟩ := hv
  exact S_X10_onesOf X l hm
theorem S_X10_refuse_c (X : En) (l : Launch) {h : Hp} {x : PW} {nv : Int32} {c : RC} {z : RZ} (O28 : h 28 = some (rB x nv c z)) {v : Int32} (hv : CD v) : Ct X l mX10_refuse [aR 28 0, aI v] h (QI (PI1 (v) h (28) (rB x nv (rS v c.1, c.2) z))) := by
  have e : rS v c.1 = va_up c.1 (-v).toNatClampNeg (c.1 (-v).toNatClampNeg + 1) := if_neg hv.ne
  rw [e]
  rcases hv with rfl | rfl | rfl | rfl | rfl
  · exact S_X10_refuse X l O28 (k := 1) (by decide) rfl
  · exact S_X10_refuse X l O28 (k := 2) (by decide) rfl
  · exact S_X10_refuse X l O28 (k := 3) (by decide) rfl
  · exact S_X10_refuse X l O28 (k := 4) (by decide) rfl
  · exact S_X10_refuse X l O28 (k := 6) (by decide) rfl
set_option maxHeartbeats 4000000 in
set_option maxRecDepth 100000 in
theorem S_X10_lawComes (X : En) (l : Launch) {h : Hp} {x : PW} {nv : Int32} {c : RC} {z : RZ} (O28 : h 28 = some (rB x nv c z)) {a b d e : Int32} (hn : x.2.2.1 < 10) : Ct X l mX10_lawComes [aR 28 0, aI a, aI b, aI d, aI e] h (QV (PV1 h (28) (rB (addL x a b d e) nv c z))) := by
  have hf : ∀ i, i ≠ 28 → h i = h i := fun _ _ => rfl
  refine Ct.intro [some (aR 28 0), some (aI a), some (aI b), some (aI d), some (aI e)] (by decide +kernel) rfl (Nat.le_of_ble_eq_true rfl) ?_
  refine A_aload_n 1 dX10_lawComes_0 rfl rfl rfl ?_
  refine A_getfield 4 dX10_lawComes_1 rfl f_X10_7 O28 rfl ?_
  refine A_aload_n 5 dX10_lawComes_4 rfl rfl rfl ?_
  refine A_getfield 8 dX10_lawComes_5 rfl f_X10_88 O28 rfl ?_
  try dsimp only
  refine A_iload_n 9 dX10_lawComes_8 rfl rfl rfl ?_
  refine T_X10_0 10 dX10_lawComes_9 rfl O28 (by first | assumption | exact ix_nI (by omega) (by decide) | exact ix_lit _ rfl (by omega) (by decide) | exact ix_lit _ rfl (by decide) (by decide)) (fun h_1 nh_1 eh_1 => ?_)
  replace O28 := nh_1
  replace hf : ∀ i, i ≠ 28 → h_1 i = h i := fun i g0 => (eh_1 i g0).trans (hf i g0)
  try dsimp only at O28
  refine A_aload_n 11 dX10_lawComes_10 rfl rfl rfl ?_
  refine A_getfield 14 dX10_lawComes_11 rfl f_X10_13 O28 rfl ?_
  refine A_aload_n 15 dX10_lawComes_14 rfl rfl rfl ?_
  refine A_getfield 18 dX10_lawComes_15 rfl f_X10_88 O28 rfl ?_
  try dsimp only
  refine A_iload_n 19 dX10_lawComes_18 rfl rfl rfl ?_
  refine T_X10_1 20 dX10_lawComes_19 rfl O28 (by first | assumption | exact ix_nI (by omega) (by decide) | exact ix_lit _ rfl (by omega) (by decide) | exact ix_lit _ rfl (by decide) (by decide)) (fun h_2 nh_2 eh_2 => ?_)
  replace O28 := nh_2
  replace hf : ∀ i, i ≠ 28 → h_2 i = h i := fun i g0 => (eh_2 i g0).trans (hf i g0)
  try dsimp only at O28
  refine A_aload_n 21 dX10_lawComes_20 rfl rfl rfl ?_
  refine A_getfield 24 dX10_lawComes_21 rfl f_X10_16 O28 rfl ?_
  refine A_aload_n 25 dX10_lawComes_24 rfl rfl rfl ?_
  refine A_getfield 28 dX10_lawComes_25 rfl f_X10_88 O28 rfl ?_
  try dsimp only
  refine A_iload_n 29 dX10_lawComes_28 rfl rfl rfl ?_
  refine T_X10_2 30 dX10_lawComes_29 rfl O28 (by first | assumption | exact ix_nI (by omega) (by decide) | exact ix_lit _ rfl (by omega) (by decide) | exact ix_lit _ rfl (by decide) (by decide)) (fun h_3 nh_3 eh_3 => ?_)
  replace O28 := nh_3
  replace hf : ∀ i, i ≠ 28 → h_3 i = h i := fun i g0 => (eh_3 i g0).trans (hf i g0)
  try dsimp only at O28
  refine A_aload_n 31 dX10_lawComes_30 rfl rfl rfl ?_
  refine A_getfield 34 dX10_lawComes_31 rfl f_X10_19 O28 rfl ?_
  refine A_aload_n 35 dX10_lawComes_34 rfl rfl rfl ?_
  refine A_getfield 38 dX10_lawComes_35 rfl f_X10_88 O28 rfl ?_
  try dsimp only
  refine A_iload 40 dX10_lawComes_38 rfl rfl ?_
  refine T_X10_3 41 dX10_lawComes_40 rfl O28 (by first | assumption | exact ix_nI (by omega) (by decide) | exact ix_lit _ rfl (by omega) (by decide) | exact ix_lit _ rfl (by decide) (by decide)) (fun h_4 nh_4 eh_4 => ?_)
  replace O28 := nh_4
  replace hf : ∀ i, i ≠ 28 → h_4 i = h i := fun i g0 => (eh_4 i g0).trans (hf i g0)
  try dsimp only at O28
  refine A_aload_n 42 dX10_lawComes_41 rfl rfl rfl ?_
  refine A_dup 43 dX10_lawComes_42 rfl rfl ?_
  refine A_getfield 46 dX10_lawComes_43 rfl f_X10_88 O28 rfl ?_
  try dsimp only
  refine A_iconst 47 (1) dX10_lawComes_46 rfl (by decide) ?_
  refine A_iadd 48 dX10_lawComes_47 rfl ?_
  rw [n41]
  refine P_X10_0 51 dX10_lawComes_48 rfl fw_X10_88 O28 (fun h_5 nh_5 eh_5 => ?_)
  replace O28 := nh_5
  replace hf : ∀ i, i ≠ 28 → h_5 i = h i := fun i g0 => (eh_5 i g0).trans (hf i g0)
  try dsimp only at O28
  refine A_vret dX10_lawComes_51 rfl ⟨rfl, O28, hf⟩
set_option maxHeartbeats 4000000 in
set_option maxRecDepth 100000 in
theorem S_X10_dayPasses (X : En) (l : Launch) {h : Hp} {x : PW} {c : RC} {z : RZ} (O28 : h 28 = some (rB x (-1) c z)) (hx : LOK x) (hp : x.2.2.2.1 ≤ 6) : Ct X l mX10_dayPasses [aR 28 0] h (QI (fun vr h2 => ((passS x).2) = vr ∧ ∃ (d : RD), h2 (28) = some (rB (passX x) (-1) c (d, z.2)) ∧ ∀ i, i ≠ 28 → h2 i = h i)) := by
  have hf : ∀ i, i ≠ 28 → h i = h i := fun _ _ => rfl
  refine Ct.intro [some (aR 28 0), none, none] (by decide +kernel) rfl (Nat.le_of_ble_eq_true rfl) ?_
  refine A_iconst 1 (0) dX10_dayPasses_0 rfl (by decide) ?_
  refine A_istore_n 2 dX10_dayPasses_1 rfl rfl (by decide) (by first | exact (ast_1 rfl) | exact ast_k) ?_
  refine A_iconst 3 (0) dX10_dayPasses_2 rfl (by decide) ?_
  refine A_istore_n 4 dX10_dayPasses_3 rfl rfl (by decide) (by first | exact (ast_s (ast_1 rfl)) | exact (ast_s ast_k)) ?_
  have L4 : ∀ (nq i : Nat) (u : FI) (v : Int32) (g4 : Hp) (d : RD), (nq + i = x.2.2.2.1) → (foldN (passF x) ((x.2.1, 0)) i = (u, v)) → (g4 28 = some (rB (x.1, u, x.2.2) (-1) c (d, z.2))) → (∀ i, i ≠ 28 → g4 i = h i) → Av X l mX10_dayPasses 4 [some (aR 28 0), some (aI (v)), some (aI (nI (i)))] [] g4 (QI (fun vr h2 => ((passS x).2) = vr ∧ ∃ (d : RD), h2 (28) = some (rB (passX x) (-1) c (d, z.2)) ∧ ∀ i, i ≠ 28 → h2 i = h i)) := by
    intro nq
    induction nq using Nat.strongRecOn with
    | _ nq ih =>
    intro i u v g4 d en ee O28 hf
    refine A_iload_n 5 dX10_dayPasses_4 rfl rfl rfl ?_
    refine A_aload_n 6 dX10_dayPasses_5 rfl rfl rfl ?_
    refine A_getfield 9 dX10_dayPasses_6 rfl f_X10_81 O28 rfl ?_
    try dsimp only
    refine A_icmp_ge 42 12 dX10_dayPasses_9 (by decide) rfl (fun c9 => ?_) (fun c9 => ?_)
    · skip
      obtain rfl := (up_ge_T (N := x.2.2.2.1) c9 rfl (by omega) (by omega)).symm
      refine A_aload_n 43 dX10_dayPasses_42 rfl rfl rfl ?_
      refine A_dup 44 dX10_dayPasses_43 rfl rfl ?_
      refine A_getfield 47 dX10_dayPasses_44 rfl f_X10_118 O28 rfl ?_
      try dsimp only
      refine A_iconst 48 (1) dX10_dayPasses_47 rfl (by decide) ?_
      refine A_iadd 49 dX10_dayPasses_48 rfl ?_
      refine P_X10_8 52 dX10_dayPasses_49 rfl fw_X10_118 O28 (fun h_1 nh_1 eh_1 => ?_)
      replace O28 := nh_1
      replace hf : ∀ i, i ≠ 28 → h_1 i = h i := fun i g0 => (eh_1 i g0).trans (hf i g0)
      try dsimp only at O28
      refine A_iload_n 53 dX10_dayPasses_52 rfl rfl rfl ?_
      refine A_iret dX10_dayPasses_53 rfl ⟨_, rfl, (by unfold passS; rw [ee]), _, (by unfold passX passS; rw [ee]; exact O28), hf⟩
    · skip
      have hi := up_ge_F (N := x.2.2.2.1) c9 rfl (by omega) (by omega)
      obtain ⟨n0, rfl⟩ : ∃ q, nq = q + 1 := ⟨nq - 1, by omega⟩
      refine A_iload_n 13 dX10_dayPasses_12 rfl rfl rfl ?_
      refine A_aload_n 14 dX10_dayPasses_13 rfl rfl rfl ?_
      refine A_iload_n 15 dX10_dayPasses_14 rfl rfl rfl ?_
      refine A_callVI 18 (S_X10_doneBy_n X l (by first | assumption | decide | omega | exact Ne.symm (by assumption)) (by first | assumption | decide | omega | exact Ne.symm (by assumption)) (by first | assumption | decide | omega | exact Ne.symm (by assumption))) dX10_dayPasses_15 rfl kX10_doneBy lk_X10_115 rfl O28 (by decide) rfl (Nat.le_of_ble_eq_true rfl) (fun v_2 h_2 qh_2 => ?_)
      obtain ⟨rfl, n0h_2, eh_2⟩ := qh_2
      replace O28 := n0h_2
      replace hf : ∀ i, i ≠ 28 → h_2 i = h i := fun i g0 => (eh_2 i g0).trans (hf i g0)
      refine A_callSI 21 (S_X10_onesOf_r X l (by first | assumption | exact R10.nI (by omega) | exact dDone_R (by assumption) _ _ | exact R8.r10 (by assumption))) dX10_dayPasses_18 rfl kX10_onesOf lk_X10_112 rfl (by decide) rfl (Nat.le_of_ble_eq_true rfl) (fun v_3 h_3 qh_3 => ?_)
      obtain ⟨rfl, rfl⟩ := qh_3
      refine A_iadd 22 dX10_dayPasses_21 rfl ?_
      refine A_istore_n 23 dX10_dayPasses_22 rfl rfl (by decide) (by first | exact (ast_1 rfl) | exact ast_k) ?_
      refine A_aload_n 24 dX10_dayPasses_23 rfl rfl rfl ?_
      refine A_getfield 27 dX10_dayPasses_24 rfl f_X10_22 O28 rfl ?_
      refine A_iload_n 28 dX10_dayPasses_27 rfl rfl rfl ?_
      refine A_aload_n 29 dX10_dayPasses_28 rfl rfl rfl ?_
      refine A_getfield 32 dX10_dayPasses_29 rfl f_X10_35 O28 rfl ?_
      refine A_bipush 34 (11) dX10_dayPasses_32 rfl (by decide) ?_
      refine A_iaload 35 dX10_dayPasses_34 rfl O28 rfl (by first | assumption | exact ix_nI (by omega) (by decide) | exact ix_lit _ rfl (by omega) (by decide) | exact ix_lit _ rfl (by decide) (by decide)) ?_
      try dsimp only
      refine T_X10_4 36 dX10_dayPasses_35 rfl O28 (by first | assumption | exact ix_nI (by omega) (by decide) | exact ix_lit _ rfl (by omega) (by decide) | exact ix_lit _ rfl (by decide) (by decide)) (fun h_4 nh_4 eh_4 => ?_)
      replace O28 := nh_4
      replace hf : ∀ i, i ≠ 28 → h_4 i = h i := fun i g0 => (eh_4 i g0).trans (hf i g0)
      try dsimp only at O28
      first | refine A_iincN 39 dX10_dayPasses_36 rfl rfl (by decide) (by first | exact (ast_s (ast_1 rfl)) | exact (ast_s ast_k)) ?_ | refine A_iinc 39 (1) dX10_dayPasses_36 rfl rfl (by decide) (by decide) (by first | exact (ast_s (ast_1 rfl)) | exact (ast_s ast_k)) ?_
      refine A_goto 4 dX10_dayPasses_39 (by decide) ?_
      exact ih n0 (Nat.lt_succ_self n0) (i + 1) _ _ h_4 _ (by omega) ((foldN_s (passF x) ((x.2.1, 0)) i).trans ((congrArg ((passF x) i) ee).trans (by simp only [dHas_u, dDone_u]; simp only [passF, dHas_11]))) O28 hf
  exact L4 (x.2.2.2.1) (0) (x.2.1) (_) h (z.1) (by omega) (rfl) O28 hf
set_option maxHeartbeats 4000000 in
set_option maxRecDepth 100000 in
theorem S_X10_carry_k1 (X : En) (l : Launch) {h : Hp} {cr cl : FI} {cn : Nat} {im : FI} {ch : Int32 × FI × Nat × FI × Nat} {rd : RD} {rm : RM} {kp tf : FI} {q : Nat} {rs : RS} {x : PW} {nv : Int32} (O28 : h 28 = some (rB x nv (cr, cl, cn, im, ch) (rd, rm, (kp, tf, q, 1, (aR 28 13)), rs))) (hq : q < 50) {v : Int32} : Ct X l mX10_carry [aR 28 0, aI v] h (QI (PI1 (v) h (28) (rB x nv (cr, cl, cn, im, ch) (rd, rm, ((va_up kp q v), tf, (q + 1), 1, (aR 28 13)), rs)))) := by
  have hf : ∀ i, i ≠ 28 → h i = h i := fun _ _ => rfl
  refine Ct.intro [some (aR 28 0), some (aI v)] (by decide +kernel) rfl (Nat.le_of_ble_eq_true rfl) ?_
  refine A_aload_n 1 dX10_carry_0 rfl rfl rfl ?_
  refine A_getfield 4 dX10_carry_1 rfl f_X10_187 O28 rfl ?_
  try dsimp only
  refine A_if_eq 17 7 dX10_carry_4 (by decide) rfl (fun c4 => ?_) (fun c4 => ?_)
  · skip
    exact absurd c4 (by decide)
  · skip
    skip
    refine A_aload_n 8 dX10_carry_7 rfl rfl rfl ?_
    refine A_getfield 11 dX10_carry_8 rfl f_X10_190 O28 rfl ?_
    refine A_aload_n 12 dX10_carry_11 rfl rfl rfl ?_
    refine A_getfield 15 dX10_carry_12 rfl f_X10_193 O28 rfl ?_
    try dsimp only
    refine A_iload_n 16 dX10_carry_15 rfl rfl rfl ?_
    refine T_X10_12 17 dX10_carry_16 rfl O28 (by first | assumption | exact ix_nI (by omega) (by decide) | exact ix_lit _ rfl (by omega) (by decide) | exact ix_lit _ rfl (by decide) (by decide)) (fun h_1 nh_1 eh_1 => ?_)
    replace O28 := nh_1
    replace hf : ∀ i, i ≠ 28 → h_1 i = h i := fun i g0 => (eh_1 i g0).trans (hf i g0)
    try dsimp only at O28
    refine A_aload_n 18 dX10_carry_17 rfl rfl rfl ?_
    refine A_dup 19 dX10_carry_18 rfl rfl ?_
    refine A_getfield 22 dX10_carry_19 rfl f_X10_193 O28 rfl ?_
    try dsimp only
    refine A_iconst 23 (1) dX10_carry_22 rfl (by decide) ?_
    refine A_iadd 24 dX10_carry_23 rfl ?_
    rw [n41]
    refine P_X10_25 27 dX10_carry_24 rfl fw_X10_193 O28 (fun h_2 nh_2 eh_2 => ?_)
    replace O28 := nh_2
    replace hf : ∀ i, i ≠ 28 → h_2 i = h i := fun i g0 => (eh_2 i g0).trans (hf i g0)
    try dsimp only at O28
    refine A_aload_n 28 dX10_carry_27 rfl rfl rfl ?_
    refine A_getfield 31 dX10_carry_28 rfl f_X10_190 O28 rfl ?_
    refine A_aload_n 32 dX10_carry_31 rfl rfl rfl ?_
    refine A_getfield 35 dX10_carry_32 rfl f_X10_193 O28 rfl ?_
    try dsimp only
    refine A_iconst 36 (1) dX10_carry_35 rfl (by decide) ?_
    refine A_isub 37 dX10_carry_36 rfl ?_
    rw [nI_pred]
    refine A_iaload 38 dX10_carry_37 rfl O28 rfl (by first | assumption | exact ix_nI (by omega) (by decide) | exact ix_lit _ rfl (by omega) (by decide) | exact ix_lit _ rfl (by decide) (by decide)) ?_
    try dsimp only
    rw [up_self]
    refine A_iret dX10_carry_38 rfl ⟨_, rfl, (by rfl), O28, hf⟩
set_option maxHeartbeats 4000000 in
set_option maxRecDepth 100000 in
theorem S_X10_carry_k0 (X : En) (l : Launch) {h : Hp} {cr cl : FI} {cn : Nat} {im : FI} {ch : Int32 × FI × Nat × FI × Nat} {rd : RD} {rm : RM} {kp tf : FI} {q : Nat} {rs : RS} {x : PW} {nv : Int32} (O28 : h 28 = some (rB x nv (cr, cl, cn, im, ch) (rd, rm, (kp, tf, q, 0, (aR 28 13)), rs))) (hq : q < 50) {v : Int32} : Ct X l mX10_carry [aR 28 0, aI v] h (QI (PI1 (kp q) h (28) (rB x nv (cr, cl, cn, im, ch) (rd, rm, (kp, tf, (q + 1), 0, (aR 28 13)), rs)))) := by
  have hf : ∀ i, i ≠ 28 → h i = h i := fun _ _ => rfl
  refine Ct.intro [some (aR 28 0), some (aI v)] (by decide +kernel) rfl (Nat.le_of_ble_eq_true rfl) ?_
  refine A_aload_n 1 dX10_carry_0 rfl rfl rfl ?_
  refine A_getfield 4 dX10_carry_1 rfl f_X10_187 O28 rfl ?_
  try dsimp only
  refine A_if_eq 17 7 dX10_carry_4 (by decide) rfl (fun c4 => ?_) (fun c4 => ?_)
  · skip
    skip
    refine A_aload_n 18 dX10_carry_17 rfl rfl rfl ?_
    refine A_dup 19 dX10_carry_18 rfl rfl ?_
    refine A_getfield 22 dX10_carry_19 rfl f_X10_193 O28 rfl ?_
    try dsimp only
    refine A_iconst 23 (1) dX10_carry_22 rfl (by decide) ?_
    refine A_iadd 24 dX10_carry_23 rfl ?_
    rw [n41]
    refine P_X10_25 27 dX10_carry_24 rfl fw_X10_193 O28 (fun h_1 nh_1 eh_1 => ?_)
    replace O28 := nh_1
    replace hf : ∀ i, i ≠ 28 → h_1 i = h i := fun i g0 => (eh_1 i g0).trans (hf i g0)
    try dsimp only at O28
    refine A_aload_n 28 dX10_carry_27 rfl rfl rfl ?_
    refine A_getfield 31 dX10_carry_28 rfl f_X10_190 O28 rfl ?_
    refine A_aload_n 32 dX10_carry_31 rfl rfl rfl ?_
    refine A_getfield 35 dX10_carry_32 rfl f_X10_193 O28 rfl ?_
    try dsimp only
    refine A_iconst 36 (1) dX10_carry_35 rfl (by decide) ?_
    refine A_isub 37 dX10_carry_36 rfl ?_
    rw [nI_pred]
    refine A_iaload 38 dX10_carry_37 rfl O28 rfl (by first | assumption | exact ix_nI (by omega) (by decide) | exact ix_lit _ rfl (by omega) (by decide) | exact ix_lit _ rfl (by decide) (by decide)) ?_
    try dsimp only
    refine A_iret dX10_carry_38 rfl ⟨_, rfl, (by rfl), O28, hf⟩
  · skip
    exact absurd rfl c4
set_option maxHeartbeats 4000000 in
set_option maxRecDepth 100000 in
theorem S_X10_carry_i1 (X : En) (l : Launch) {h : Hp} {cr cl : FI} {cn : Nat} {im : FI} {ch : Int32 × FI × Nat × FI × Nat} {rd : RD} {rm : RM} {kp tf : FI} {q : Nat} {rs : RS} {x : PW} {nv : Int32} (O28 : h 28 = some (rB x nv (cr, cl, cn, im, ch) (rd, rm, (kp, tf, q, 1, (aR 28 14)), rs))) (hq : q < 50) {v : Int32} : Ct X l mX10_carry [aR 28 0, aI v] h (QI (PI1 (v) h (28) (rB x nv (cr, cl, cn, (va_up im q v), ch) (rd, rm, (kp, tf, (q + 1), 1, (aR 28 14)), rs)))) := by
  have hf : ∀ i, i ≠ 28 → h i = h i := fun _ _ => rfl
  refine Ct.intro [some (aR 28 0), some (aI v)] (by decide +kernel) rfl (Nat.le_of_ble_eq_true rfl) ?_
  refine A_aload_n 1 dX10_carry_0 rfl rfl rfl ?_
  refine A_getfield 4 dX10_carry_1 rfl f_X10_187 O28 rfl ?_
  try dsimp only
  refine A_if_eq 17 7 dX10_carry_4 (by decide) rfl (fun c4 => ?_) (fun c4 => ?_)
  · skip
    exact absurd c4 (by decide)
  · skip
    skip
    refine A_aload_n 8 dX10_carry_7 rfl rfl rfl ?_
    refine A_getfield 11 dX10_carry_8 rfl f_X10_190 O28 rfl ?_
    refine A_aload_n 12 dX10_carry_11 rfl rfl rfl ?_
    refine A_getfield 15 dX10_carry_12 rfl f_X10_193 O28 rfl ?_
    try dsimp only
    refine A_iload_n 16 dX10_carry_15 rfl rfl rfl ?_
    refine T_X10_13 17 dX10_carry_16 rfl O28 (by first | assumption | exact ix_nI (by omega) (by decide) | exact ix_lit _ rfl (by omega) (by decide) | exact ix_lit _ rfl (by decide) (by decide)) (fun h_1 nh_1 eh_1 => ?_)
    replace O28 := nh_1
    replace hf : ∀ i, i ≠ 28 → h_1 i = h i := fun i g0 => (eh_1 i g0).trans (hf i g0)
    try dsimp only at O28
    refine A_aload_n 18 dX10_carry_17 rfl rfl rfl ?_
    refine A_dup 19 dX10_carry_18 rfl rfl ?_
    refine A_getfield 22 dX10_carry_19 rfl f_X10_193 O28 rfl ?_
    try dsimp only
    refine A_iconst 23 (1) dX10_carry_22 rfl (by decide) ?_
    refine A_iadd 24 dX10_carry_23 rfl ?_
    rw [n41]
    refine P_X10_25 27 dX10_carry_24 rfl fw_X10_193 O28 (fun h_2 nh_2 eh_2 => ?_)
    replace O28 := nh_2
    replace hf : ∀ i, i ≠ 28 → h_2 i = h i := fun i g0 => (eh_2 i g0).trans (hf i g0)
    try dsimp only at O28
    refine A_aload_n 28 dX10_carry_27 rfl rfl rfl ?_
    refine A_getfield 31 dX10_carry_28 rfl f_X10_190 O28 rfl ?_
    refine A_aload_n 32 dX10_carry_31 rfl rfl rfl ?_
    refine A_getfield 35 dX10_carry_32 rfl f_X10_193 O28 rfl ?_
    try dsimp only
    refine A_iconst 36 (1) dX10_carry_35 rfl (by decide) ?_
    refine A_isub 37 dX10_carry_36 rfl ?_
    rw [nI_pred]
    refine A_iaload 38 dX10_carry_37 rfl O28 rfl (by first | assumption | exact ix_nI (by omega) (by decide) | exact ix_lit _ rfl (by omega) (by decide) | exact ix_lit _ rfl (by decide) (by decide)) ?_
    try dsimp only
    rw [up_self]
    refine A_iret dX10_carry_38 rfl ⟨_, rfl, (by rfl), O28, hf⟩
set_option maxHeartbeats 4000000 in
set_option maxRecDepth 100000 in
theorem S_X10_carry_i0 (X : En) (l : Launch) {h : Hp} {cr cl : FI} {cn : Nat} {im : FI} {ch : Int32 × FI × Nat × FI × Nat} {rd : RD} {rm : RM} {kp tf : FI} {q : Nat} {rs : RS} {x : PW} {nv : Int32} (O28 : h 28 = some (rB x nv (cr, cl, cn, im, ch) (rd, rm, (kp, tf, q, 0, (aR 28 14)), rs))) (hq : q < 50) {v : Int32} : Ct X l mX10_carry [aR 28 0, aI v] h (QI (PI1 (im q) h (28) (rB x nv (cr, cl, cn, im, ch) (rd, rm, (kp, tf, (q + 1), 0, (aR 28 14)), rs)))) := by
  have hf : ∀ i, i ≠ 28 → h i = h i := fun _ _ => rfl
  refine Ct.intro [some (aR 28 0), some (aI v)] (by decide +kernel) rfl (Nat.le_of_ble_eq_true rfl) ?_
  refine A_aload_n 1 dX10_carry_0 rfl rfl rfl ?_
  refine A_getfield 4 dX10_carry_1 rfl f_X10_187 O28 rfl ?_
  try dsimp only
  refine A_if_eq 17 7 dX10_carry_4 (by decide) rfl (fun c4 => ?_) (fun c4 => ?_)
  · skip
    skip
    refine A_aload_n 18 dX10_carry_17 rfl rfl rfl ?_
    refine A_dup 19 dX10_carry_18 rfl rfl ?_
    refine A_getfield 22 dX10_carry_19 rfl f_X10_193 O28 rfl ?_
    try dsimp only
    refine A_iconst 23 (1) dX10_carry_22 rfl (by decide) ?_
    refine A_iadd 24 dX10_carry_23 rfl ?_
    rw [n41]
    refine P_X10_25 27 dX10_carry_24 rfl fw_X10_193 O28 (fun h_1 nh_1 eh_1 => ?_)
    replace O28 := nh_1
    replace hf : ∀ i, i ≠ 28 → h_1 i = h i := fun i g0 => (eh_1 i g0).trans (hf i g0)
    try dsimp only at O28
    refine A_aload_n 28 dX10_carry_27 rfl rfl rfl ?_
    refine A_getfield 31 dX10_carry_28 rfl f_X10_190 O28 rfl ?_
    refine A_aload_n 32 dX10_carry_31 rfl rfl rfl ?_
    refine A_getfield 35 dX10_carry_32 rfl f_X10_193 O28 rfl ?_
    try dsimp only
    refine A_iconst 36 (1) dX10_carry_35 rfl (by decide) ?_
    refine A_isub 37 dX10_carry_36 rfl ?_
    rw [nI_pred]
    refine A_iaload 38 dX10_carry_37 rfl O28 rfl (by first | assumption | exact ix_nI (by omega) (by decide) | exact ix_lit _ rfl (by omega) (by decide) | exact ix_lit _ rfl (by decide) (by decide)) ?_
    try dsimp only
    refine A_iret dX10_carry_38 rfl ⟨_, rfl, (by rfl), O28, hf⟩
  · skip
    exact absurd rfl c4
set_option maxHeartbeats 4000000 in
set_option maxRecDepth 100000 in
theorem S_X10_carry_t1 (X : En) (l : Launch) {h : Hp} {cr cl : FI} {cn : Nat} {im : FI} {ch : Int32 × FI × Nat × FI × Nat} {rd : RD} {rm : RM} {kp tf : FI} {q : Nat} {rs : RS} {x : PW} {nv : Int32} (O28 : h 28 = some (rB x nv (cr, cl, cn, im, ch) (rd, rm, (kp, tf, q, 1, (aR 28 16)), rs))) (hq : q < 50) {v : Int32} : Ct X l mX10_carry [aR 28 0, aI v] h (QI (PI1 (v) h (28) (rB x nv (cr, cl, cn, im, ch) (rd, rm, (kp, (va_up tf q v), (q + 1), 1, (aR 28 16)), rs)))) := by
  have hf : ∀ i, i ≠ 28 → h i = h i := fun _ _ => rfl
  refine Ct.intro [some (aR 28 0), some (aI v)] (by decide +kernel) rfl (Nat.le_of_ble_eq_true rfl) ?_
  refine A_aload_n 1 dX10_carry_0 rfl rfl rfl ?_
  refine A_getfield 4 dX10_carry_1 rfl f_X10_187 O28 rfl ?_
  try dsimp only
  refine A_if_eq 17 7 dX10_carry_4 (by decide) rfl (fun c4 => ?_) (fun c4 => ?_)
  · skip
    exact absurd c4 (by decide)
  · skip
    skip
    refine A_aload_n 8 dX10_carry_7 rfl rfl rfl ?_
    refine A_getfield 11 dX10_carry_8 rfl f_X10_190 O28 rfl ?_
    refine A_aload_n 12 dX10_carry_11 rfl rfl rfl ?_
    refine A_getfield 15 dX10_carry_12 rfl f_X10_193 O28 rfl ?_
    try dsimp only
    refine A_iload_n 16 dX10_carry_15 rfl rfl rfl ?_
    refine T_X10_15 17 dX10_carry_16 rfl O28 (by first | assumption | exact ix_nI (by omega) (by decide) | exact ix_lit _ rfl (by omega) (by decide) | exact ix_lit _ rfl (by decide) (by decide)) (fun h_1 nh_1 eh_1 => ?_)
    replace O28 := nh_1
    replace hf : ∀ i, i ≠ 28 → h_1 i = h i := fun i g0 => (eh_1 i g0).trans (hf i g0)
    try dsimp only at O28
    refine A_aload_n 18 dX10_carry_17 rfl rfl rfl ?_
    refine A_dup 19 dX10_carry_18 rfl rfl ?_
    refine A_getfield 22 dX10_carry_19 rfl f_X10_193 O28 rfl ?_
    try dsimp only
    refine A_iconst 23 (1) dX10_carry_22 rfl (by decide) ?_
    refine A_iadd 24 dX10_carry_23 rfl ?_
    rw [n41]
    refine P_X10_25 27 dX10_carry_24 rfl fw_X10_193 O28 (fun h_2 nh_2 eh_2 => ?_)
    replace O28 := nh_2
    replace hf : ∀ i, i ≠ 28 → h_2 i = h i := fun i g0 => (eh_2 i g0).trans (hf i g0)
    try dsimp only at O28
    refine A_aload_n 28 dX10_carry_27 rfl rfl rfl ?_
    refine A_getfield 31 dX10_carry_28 rfl f_X10_190 O28 rfl ?_
    refine A_aload_n 32 dX10_carry_31 rfl rfl rfl ?_
    refine A_getfield 35 dX10_carry_32 rfl f_X10_193 O28 rfl ?_
    try dsimp only
    refine A_iconst 36 (1) dX10_carry_35 rfl (by decide) ?_
    refine A_isub 37 dX10_carry_36 rfl ?_
    rw [nI_pred]
    refine A_iaload 38 dX10_carry_37 rfl O28 rfl (by first | assumption | exact ix_nI (by omega) (by decide) | exact ix_lit _ rfl (by omega) (by decide) | exact ix_lit _ rfl (by decide) (by decide)) ?_
    try dsimp only
    rw [up_self]
    refine A_iret dX10_carry_38 rfl ⟨_, rfl, (by rfl), O28, hf⟩
set_option maxHeartbeats 4000000 in
set_option maxRecDepth 100000 in
theorem S_X10_carry_t0 (X : En) (l : Launch) {h : Hp} {cr cl : FI} {cn : Nat} {im : FI} {ch : Int32 × FI × Nat × FI × Nat} {rd : RD} {rm : RM} {kp tf : FI} {q : Nat} {rs : RS} {x : PW} {nv : Int32} (O28 : h 28 = some (rB x nv (cr, cl, cn, im, ch) (rd, rm, (kp, tf, q, 0, (aR 28 16)), rs))) (hq : q < 50) {v : Int32} : Ct X l mX10_carry [aR 28 0, aI v] h (QI (PI1 (tf q) h (28) (rB x nv (cr, cl, cn, im, ch) (rd, rm, (kp, tf, (q + 1), 0, (aR 28 16)), rs)))) := by
  have hf : ∀ i, i ≠ 28 → h i = h i := fun _ _ => rfl
  refine Ct.intro [some (aR 28 0), some (aI v)] (by decide +kernel) rfl (Nat.le_of_ble_eq_true rfl) ?_
  refine A_aload_n 1 dX10_carry_0 rfl rfl rfl ?_
  refine A_getfield 4 dX10_carry_1 rfl f_X10_187 O28 rfl ?_
  try dsimp only
  refine A_if_eq 17 7 dX10_carry_4 (by decide) rfl (fun c4 => ?_) (fun c4 => ?_)
  · skip
    skip
    refine A_aload_n 18 dX10_carry_17 rfl rfl rfl ?_
    refine A_dup 19 dX10_carry_18 rfl rfl ?_
    refine A_getfield 22 dX10_carry_19 rfl f_X10_193 O28 rfl ?_
    try dsimp only
    refine A_iconst 23 (1) dX10_carry_22 rfl (by decide) ?_
    refine A_iadd 24 dX10_carry_23 rfl ?_
    rw [n41]
    refine P_X10_25 27 dX10_carry_24 rfl fw_X10_193 O28 (fun h_1 nh_1 eh_1 => ?_)
    replace O28 := nh_1
    replace hf : ∀ i, i ≠ 28 → h_1 i = h i := fun i g0 => (eh_1 i g0).trans (hf i g0)
    try dsimp only at O28
    refine A_aload_n 28 dX10_carry_27 rfl rfl rfl ?_
    refine A_getfield 31 dX10_carry_28 rfl f_X10_190 O28 rfl ?_
    refine A_aload_n 32 dX10_carry_31 rfl rfl rfl ?_
    refine A_getfield 35 dX10_carry_32 rfl f_X10_193 O28 rfl ?_
    try dsimp only
    refine A_iconst 36 (1) dX10_carry_35 rfl (by decide) ?_
    refine A_isub 37 dX10_carry_36 rfl ?_
    rw [nI_pred]
    refine A_iaload 38 dX10_carry_37 rfl O28 rfl (by first | assumption | exact ix_nI (by omega) (by decide) | exact ix_lit _ rfl (by omega) (by decide) | exact ix_lit _ rfl (by decide) (by decide)) ?_
    try dsimp only
    refine A_iret dX10_carry_38 rfl ⟨_, rfl, (by rfl), O28, hf⟩
  · skip
    exact absurd rfl c4
set_option maxHeartbeats 4000000 in
set_option maxRecDepth 100000 in
theorem S_X10_carryAll_k1 (X : En) (l : Launch) {h : Hp} {cr cl : FI} {cn : Nat} {im : FI} {ch : Int32 × FI × Nat × FI × Nat} {rd : RD} {rm : RM} {kp tf : FI} {q : Nat} {rs : RS} {x : PW} {nv : Int32} {tk0 : Int32} {ki0 : AV} (O28 : h 28 = some (rB x nv (cr, cl, cn, im, ch) (rd, rm, (kp, tf, q, tk0, ki0), rs))) : Ct X l mX10_carryAll [aR 28 0, aR 28 13, aI 1] h (QV (PV1 h (28) (rB x nv (cr, cl, cn, im, ch) (rd, rm, ((enc x), tf, 50, 1, (aR 28 13)), rs)))) := by
  have hf : ∀ i, i ≠ 28 → h i = h i := fun _ _ => rfl
  refine Ct.intro [some (aR 28 0), some (aR 28 13), some (aI 1), none] (by decide +kernel) rfl (Nat.le_of_ble_eq_true rfl) ?_
  refine A_aload_n 1 dX10_carryAll_0 rfl rfl rfl ?_
  refine A_aload_n 2 dX10_carryAll_1 rfl rfl rfl ?_
  refine P_X10_27 5 dX10_carryAll_2 rfl fw_X10_190 O28 (fun h_1 nh_1 eh_1 => ?_)
  replace O28 := nh_1
  replace hf : ∀ i, i ≠ 28 → h_1 i = h i := fun i g0 => (eh_1 i g0).trans (hf i g0)
  try dsimp only at O28
  refine A_aload_n 6 dX10_carryAll_5 rfl rfl rfl ?_
  refine A_iload_n 7 dX10_carryAll_6 rfl rfl rfl ?_
  refine P_X10_26 10 dX10_carryAll_7 rfl fw_X10_187 O28 (by first | with_reducible exact bI01 _ | with_reducible exact Or.inl rfl | with_reducible exact Or.inr rfl | assumption) (fun h_2 nh_2 eh_2 => ?_)
  replace O28 := nh_2
  replace hf : ∀ i, i ≠ 28 → h_2 i = h i := fun i g0 => (eh_2 i g0).trans (hf i g0)
  try dsimp only at O28
  refine A_aload_n 11 dX10_carryAll_10 rfl rfl rfl ?_
  refine A_iconst 12 (0) dX10_carryAll_11 rfl (by decide) ?_
  refine P_X10_25 15 dX10_carryAll_12 rfl fw_X10_193 O28 (fun h_3 nh_3 eh_3 => ?_)
  replace O28 := nh_3
  replace hf : ∀ i, i ≠ 28 → h_3 i = h i := fun i g0 => (eh_3 i g0).trans (hf i g0)
  try dsimp only at O28
  refine A_aload_n 16 dX10_carryAll_15 rfl rfl rfl ?_
  refine A_aload_n 17 dX10_carryAll_16 rfl rfl rfl ?_
  refine A_aload_n 18 dX10_carryAll_17 rfl rfl rfl ?_
  refine A_getfield 21 dX10_carryAll_18 rfl f_X10_88 O28 rfl ?_
  try dsimp only
  refine A_callVI 24 (S_X10_carry_k1 X l O28 (by omega)) dX10_carryAll_21 rfl kX10_carry lk_X10_196 rfl O28 (by decide) rfl (Nat.le_of_ble_eq_true rfl) (fun v_4 h_4 qh_4 => ?_)
  obtain ⟨rfl, n0h_4, eh_4⟩ := qh_4
  replace O28 := n0h_4
  replace hf : ∀ i, i ≠ 28 → h_4 i = h i := fun i g0 => (eh_4 i g0).trans (hf i g0)
  have e1 := up_eq (D := enc x) (i := 0) (f := kp) (fun j hj => absurd hj (Nat.not_lt_zero j)) (enc_0 x).symm
  refine P_X10_0 27 dX10_carryAll_24 rfl fw_X10_88 O28 (fun h_5 nh_5 eh_5 => ?_)
  replace O28 := nh_5
  replace hf : ∀ i, i ≠ 28 → h_5 i = h i := fun i g0 => (eh_5 i g0).trans (hf i g0)
  try dsimp only at O28
  refine A_aload_n 28 dX10_carryAll_27 rfl rfl rfl ?_
  refine A_aload_n 29 dX10_carryAll_28 rfl rfl rfl ?_
  refine A_aload_n 30 dX10_carryAll_29 rfl rfl rfl ?_
  refine A_getfield 33 dX10_carryAll_30 rfl f_X10_81 O28 rfl ?_
  try dsimp only
  refine A_callVI 36 (S_X10_carry_k1 X l O28 (by omega)) dX10_carryAll_33 rfl kX10_carry lk_X10_196 rfl O28 (by decide) rfl (Nat.le_of_ble_eq_true rfl) (fun v_6 h_6 qh_6 => ?_)
  obtain ⟨rfl, n0h_6, eh_6⟩ := qh_6
  replace O28 := n0h_6
  replace hf : ∀ i, i ≠ 28 → h_6 i = h i := fun i g0 => (eh_6 i g0).trans (hf i g0)
  have e2 := up_eq (D := enc x) (i := 1) e1 (enc_1 x).symm
  refine P_X10_5 39 dX10_carryAll_36 rfl fw_X10_81 O28 (fun h_7 nh_7 eh_7 => ?_)
  replace O28 := nh_7
  replace hf : ∀ i, i ≠ 28 → h_7 i = h i := fun i g0 => (eh_7 i g0).trans (hf i g0)
  try dsimp only at O28
  refine A_aload_n 40 dX10_carryAll_39 rfl rfl rfl ?_
  refine A_aload_n 41 dX10_carryAll_40 rfl rfl rfl ?_
  refine A_aload_n 42 dX10_carryAll_41 rfl rfl rfl ?_
  refine A_getfield 45 dX10_carryAll_42 rfl f_X10_97 O28 rfl ?_
  try dsimp only
  refine A_callVI 48 (S_X10_carry_k1 X l O28 (by omega)) dX10_carryAll_45 rfl kX10_carry lk_X10_196 rfl O28 (by decide) rfl (Nat.le_of_ble_eq_true rfl) (fun v_8 h_8 qh_8 => ?_)
  obtain ⟨rfl, n0h_8, eh_8⟩ := qh_8
  replace O28 := n0h_8
  replace hf : ∀ i, i ≠ 28 → h_8 i = h i := fun i g0 => (eh_8 i g0).trans (hf i g0)
  have e3 := up_eq (D := enc x) (i := 2) e2 (enc_2 x).symm
  refine P_X10_7 51 dX10_carryAll_48 rfl fw_X10_97 O28 (fun h_9 nh_9 eh_9 => ?_)
  replace O28 := nh_9
  replace hf : ∀ i, i ≠ 28 → h_9 i = h i := fun i g0 => (eh_9 i g0).trans (hf i g0)
  try dsimp only at O28
  refine A_aload_n 52 dX10_carryAll_51 rfl rfl rfl ?_
  refine A_aload_n 53 dX10_carryAll_52 rfl rfl rfl ?_
  refine A_aload_n 54 dX10_carryAll_53 rfl rfl rfl ?_
  refine A_getfield 57 dX10_carryAll_54 rfl f_X10_118 O28 rfl ?_
  try dsimp only
  refine A_callVI 60 (S_X10_carry_k1 X l O28 (by omega)) dX10_carryAll_57 rfl kX10_carry lk_X10_196 rfl O28 (by decide) rfl (Nat.le_of_ble_eq_true rfl) (fun v_10 h_10 qh_10 => ?_)
  obtain ⟨rfl, n0h_10, eh_10⟩ := qh_10
  replace O28 := n0h_10
  replace hf : ∀ i, i ≠ 28 → h_10 i = h i := fun i g0 => (eh_10 i g0).trans (hf i g0)
  have e4 := up_eq (D := enc x) (i := 3) e3 (enc_3 x).symm
  refine P_X10_8 63 dX10_carryAll_60 rfl fw_X10_118 O28 (fun h_11 nh_11 eh_11 => ?_)
  replace O28 := nh_11
  replace hf : ∀ i, i ≠ 28 → h_11 i = h i := fun i g0 => (eh_11 i g0).trans (hf i g0)
  try dsimp only at O28
  refine A_iconst 64 (0) dX10_carryAll_63 rfl (by decide) ?_
  refine A_istore_n 65 dX10_carryAll_64 rfl rfl (by decide) (by first | exact (ast_s (ast_s (ast_1 rfl))) | exact (ast_s (ast_s ast_k))) ?_
  have L65 : ∀ (nq i : Nat)  (g65 : Hp) (kp0 : FI), (nq + i = 10) → (∀ j, j < 4 + i * 4 → kp0 j = enc x j) → (g65 28 = some (rB x nv (cr, cl, cn, im, ch) (rd, rm, (kp0, tf, (4 + i * 4), 1, (aR 28 13)), rs))) → (∀ i, i ≠ 28 → g65 i = h i) → Av X l mX10_carryAll 65 [some (aR 28 0), some ((aR 28 13)), some (aI (1)), some (aI (nI (i)))] [] g65 (QV (PV1 h (28) (rB x nv (cr, cl, cn, im, ch) (rd, rm, ((enc x), tf, 50, 1, (aR 28 13)), rs)))) := by
    intro nq
    induction nq using Nat.strongRecOn with
    | _ nq ih =>
    intro i g65 kp0 en hy O28 hf
    refine A_iload_n 66 dX10_carryAll_65 rfl rfl rfl ?_
    refine A_bipush 68 (10) dX10_carryAll_66 rfl (by decide) ?_
    refine A_icmp_ge 141 71 dX10_carryAll_68 (by decide) rfl (fun c68 => ?_) (fun c68 => ?_)
    · skip
      obtain rfl := (up_ge_T (N := 10) c68 rfl (by omega) (by omega)).symm
      refine A_iconst 142 (0) dX10_carryAll_141 rfl (by decide) ?_
      refine A_istore_n 143 dX10_carryAll_142 rfl rfl (by decide) (by first | exact (ast_s (ast_s (ast_1 rfl))) | exact (ast_s (ast_s ast_k))) ?_
      have L143 : ∀ (nqb i : Nat)  (g143 : Hp) (kp0 : FI), (nqb + i = 6) → (∀ j, j < 44 + i → kp0 j = enc x j) → (g143 28 = some (rB x nv (cr, cl, cn, im, ch) (rd, rm, (kp0, tf, (44 + i), 1, (aR 28 13)), rs))) → (∀ i, i ≠ 28 → g143 i = h i) → Av X l mX10_carryAll 143 [some (aR 28 0), some ((aR 28 13)), some (aI (1)), some (aI (nI (i)))] [] g143 (QV (PV1 h (28) (rB x nv (cr, cl, cn, im, ch) (rd, rm, ((enc x), tf, 50, 1, (aR 28 13)), rs)))) := by
        intro nqb
        induction nqb using Nat.strongRecOn with
        | _ nqb ihb =>
        intro i g143 kp0 enb hyb O28 hf
        refine A_iload_n 144 dX10_carryAll_143 rfl rfl rfl ?_
        refine A_bipush 146 (6) dX10_carryAll_144 rfl (by decide) ?_
        refine A_icmp_ge 171 149 dX10_carryAll_146 (by decide) rfl (fun c146 => ?_) (fun c146 => ?_)
        · skip
          obtain rfl := (up_ge_T (N := 6) c146 rfl (by omega) (by omega)).symm
          refine Av.extK O28 hyb (fun _ _ => rfl) (fun h_12 nh_12 eh_12 => ?_)
          replace O28 := nh_12
          replace hf : ∀ i, i ≠ 28 → h_12 i = h i := fun i g0 => (eh_12 i g0).trans (hf i g0)
          refine A_vret dX10_carryAll_171 rfl ⟨rfl, O28, hf⟩
        · skip
          have hib := up_ge_F (N := 6) c146 rfl (by omega) (by omega)
          obtain ⟨n0b, rfl⟩ : ∃ q, nqb = q + 1 := ⟨nqb - 1, by omega⟩
          refine A_aload_n 150 dX10_carryAll_149 rfl rfl rfl ?_
          refine A_getfield 153 dX10_carryAll_150 rfl f_X10_22 O28 rfl ?_
          refine A_iload_n 154 dX10_carryAll_153 rfl rfl rfl ?_
          refine A_aload_n 155 dX10_carryAll_154 rfl rfl rfl ?_
          refine A_aload_n 156 dX10_carryAll_155 rfl rfl rfl ?_
          refine A_getfield 159 dX10_carryAll_156 rfl f_X10_22 O28 rfl ?_
          refine A_iload_n 160 dX10_carryAll_159 rfl rfl rfl ?_
          refine A_iaload 161 dX10_carryAll_160 rfl O28 rfl (by first | assumption | exact ix_nI (by omega) (by decide) | exact ix_lit _ rfl (by omega) (by decide) | exact ix_lit _ rfl (by decide) (by decide)) ?_
          try dsimp only
          refine A_callVI 164 (S_X10_carry_k1 X l O28 (by omega)) dX10_carryAll_161 rfl kX10_carry lk_X10_196 rfl O28 (by decide) rfl (Nat.le_of_ble_eq_true rfl) (fun v_13 h_13 qh_13 => ?_)
          obtain ⟨rfl, n0h_13, eh_13⟩ := qh_13
          replace O28 := n0h_13
          replace hf : ∀ i, i ≠ 28 → h_13 i = h i := fun i g0 => (eh_13 i g0).trans (hf i g0)
          have f5 := up_eq (D := enc x) (i := 44 + i) hyb (v := x.2.1 i) (enc_p x (by omega)).symm
          refine T_X10_4 165 dX10_carryAll_164 rfl O28 (by first | assumption | exact ix_nI (by omega) (by decide) | exact ix_lit _ rfl (by omega) (by decide) | exact ix_lit _ rfl (by decide) (by decide)) (fun h_14 nh_14 eh_14 => ?_)
          replace O28 := nh_14
          replace hf : ∀ i, i ≠ 28 → h_14 i = h i := fun i g0 => (eh_14 i g0).trans (hf i g0)
          try dsimp only at O28
          rw [show va_up x.2.1 i (x.2.1 i) = x.2.1 from up_same _ _] at O28
          first | refine A_iincN 168 dX10_carryAll_165 rfl rfl (by decide) (by first | exact (ast_s (ast_s (ast_1 rfl))) | exact (ast_s (ast_s ast_k))) ?_ | refine A_iinc 168 (1) dX10_carryAll_165 rfl rfl (by decide) (by decide) (by first | exact (ast_s (ast_s (ast_1 rfl))) | exact (ast_s (ast_s ast_k))) ?_
          refine A_goto 143 dX10_carryAll_168 (by decide) ?_
          exact ihb n0b (Nat.lt_succ_self n0b) (i + 1)  h_14 _ (by omega)  (f5) O28 hf
      exact L143 (6) (0)  g65 (_) (by omega)  (hy) O28 hf
    · skip
      have hi := up_ge_F (N := 10) c68 rfl (by omega) (by omega)
      obtain ⟨n0, rfl⟩ : ∃ q, nq = q + 1 := ⟨nq - 1, by omega⟩
      refine A_aload_n 72 dX10_carryAll_71 rfl rfl rfl ?_
      refine A_getfield 75 dX10_carryAll_72 rfl f_X10_7 O28 rfl ?_
      refine A_iload_n 76 dX10_carryAll_75 rfl rfl rfl ?_
      refine A_aload_n 77 dX10_carryAll_76 rfl rfl rfl ?_
      refine A_aload_n 78 dX10_carryAll_77 rfl rfl rfl ?_
      refine A_getfield 81 dX10_carryAll_78 rfl f_X10_7 O28 rfl ?_
      refine A_iload_n 82 dX10_carryAll_81 rfl rfl rfl ?_
      refine A_iaload 83 dX10_carryAll_82 rfl O28 rfl (by first | assumption | exact ix_nI (by omega) (by decide) | exact ix_lit _ rfl (by omega) (by decide) | exact ix_lit _ rfl (by decide) (by decide)) ?_
      try dsimp only
      refine A_callVI 86 (S_X10_carry_k1 X l O28 (by omega)) dX10_carryAll_83 rfl kX10_carry lk_X10_196 rfl O28 (by decide) rfl (Nat.le_of_ble_eq_true rfl) (fun v_15 h_15 qh_15 => ?_)
      obtain ⟨rfl, n0h_15, eh_15⟩ := qh_15
      replace O28 := n0h_15
      replace hf : ∀ i, i ≠ 28 → h_15 i = h i := fun i g0 => (eh_15 i g0).trans (hf i g0)
      have f1 := up_eq (D := enc x) (i := 4 + i * 4) hy (v := x.1 (i * 4)) (enc_l x (k := i * 4) (by omega)).symm
      refine T_X10_0 87 dX10_carryAll_86 rfl O28 (by first | assumption | exact ix_nI (by omega) (by decide) | exact ix_lit _ rfl (by omega) (by decide) | exact ix_lit _ rfl (by decide) (by decide)) (fun h_16 nh_16 eh_16 => ?_)
      replace O28 := nh_16
      replace hf : ∀ i, i ≠ 28 → h_16 i = h i := fun i g0 => (eh_16 i g0).trans (hf i g0)
      try dsimp only at O28
      rw [show va_up x.1 (i * 4 + 0) (x.1 (i * 4)) = x.1 from up_same _ _] at O28
      refine A_aload_n 88 dX10_carryAll_87 rfl rfl rfl ?_
      refine A_getfield 91 dX10_carryAll_88 rfl f_X10_13 O28 rfl ?_
      refine A_iload_n 92 dX10_carryAll_91 rfl rfl rfl ?_
      refine A_aload_n 93 dX10_carryAll_92 rfl rfl rfl ?_
      refine A_aload_n 94 dX10_carryAll_93 rfl rfl rfl ?_
      refine A_getfield 97 dX10_carryAll_94 rfl f_X10_13 O28 rfl ?_
      refine A_iload_n 98 dX10_carryAll_97 rfl rfl rfl ?_
      refine A_iaload 99 dX10_carryAll_98 rfl O28 rfl (by first | assumption | exact ix_nI (by omega) (by decide) | exact ix_lit _ rfl (by omega) (by decide) | exact ix_lit _ rfl (by decide) (by decide)) ?_
      try dsimp only
      refine A_callVI 102 (S_X10_carry_k1 X l O28 (by omega)) dX10_carryAll_99 rfl kX10_carry lk_X10_196 rfl O28 (by decide) rfl (Nat.le_of_ble_eq_true rfl) (fun v_17 h_17 qh_17 => ?_)
      obtain ⟨rfl, n0h_17, eh_17⟩ := qh_17
      replace O28 := n0h_17
      replace hf : ∀ i, i ≠ 28 → h_17 i = h i := fun i g0 => (eh_17 i g0).trans (hf i g0)
      have f2 := up_eq (D := enc x) (i := 4 + i * 4 + 1) f1 (v := x.1 (i * 4 + 1)) (enc_l x (k := i * 4 + 1) (by omega)).symm
      refine T_X10_1 103 dX10_carryAll_102 rfl O28 (by first | assumption | exact ix_nI (by omega) (by decide) | exact ix_lit _ rfl (by omega) (by decide) | exact ix_lit _ rfl (by decide) (by decide)) (fun h_18 nh_18 eh_18 => ?_)
      replace O28 := nh_18
      replace hf : ∀ i, i ≠ 28 → h_18 i = h i := fun i g0 => (eh_18 i g0).trans (hf i g0)
      try dsimp only at O28
      rw [show va_up x.1 (i * 4 + 1) (x.1 (i * 4 + 1)) = x.1 from up_same _ _] at O28
      refine A_aload_n 104 dX10_carryAll_103 rfl rfl rfl ?_
      refine A_getfield 107 dX10_carryAll_104 rfl f_X10_16 O28 rfl ?_
      refine A_iload_n 108 dX10_carryAll_107 rfl rfl rfl ?_
      refine A_aload_n 109 dX10_carryAll_108 rfl rfl rfl ?_
      refine A_aload_n 110 dX10_carryAll_109 rfl rfl rfl ?_
      refine A_getfield 113 dX10_carryAll_110 rfl f_X10_16 O28 rfl ?_
      refine A_iload_n 114 dX10_carryAll_113 rfl rfl rfl ?_
      refine A_iaload 115 dX10_carryAll_114 rfl O28 rfl (by first | assumption | exact ix_nI (by omega) (by decide) | exact ix_lit _ rfl (by omega) (by decide) | exact ix_lit _ rfl (by decide) (by decide)) ?_
      try dsimp only
      refine A_callVI 118 (S_X10_carry_k1 X l O28 (by omega)) dX10_carryAll_115 rfl kX10_carry lk_X10_196 rfl O28 (by decide) rfl (Nat.le_of_ble_eq_true rfl) (fun v_19 h_19 qh_19 => ?_)
      obtain ⟨rfl, n0h_19, eh_19⟩ := qh_19
      replace O28 := n0h_19
      replace hf : ∀ i, i ≠ 28 → h_19 i = h i := fun i g0 => (eh_19 i g0).trans (hf i g0)
      have f3 := up_eq (D := enc x) (i := 4 + i * 4 + 1 + 1) f2 (v := x.1 (i * 4 + 2)) (enc_l x (k := i * 4 + 2) (by omega)).symm
      refine T_X10_2 119 dX10_carryAll_118 rfl O28 (by first | assumption | exact ix_nI (by omega) (by decide) | exact ix_lit _ rfl (by omega) (by decide) | exact ix_lit _ rfl (by decide) (by decide)) (fun h_20 nh_20 eh_20 => ?_)
      replace O28 := nh_20
      replace hf : ∀ i, i ≠ 28 → h_20 i = h i := fun i g0 => (eh_20 i g0).trans (hf i g0)
      try dsimp only at O28
      rw [show va_up x.1 (i * 4 + 2) (x.1 (i * 4 + 2)) = x.1 from up_same _ _] at O28
      refine A_aload_n 120 dX10_carryAll_119 rfl rfl rfl ?_
      refine A_getfield 123 dX10_carryAll_120 rfl f_X10_19 O28 rfl ?_
      refine A_iload_n 124 dX10_carryAll_123 rfl rfl rfl ?_
      refine A_aload_n 125 dX10_carryAll_124 rfl rfl rfl ?_
      refine A_aload_n 126 dX10_carryAll_125 rfl rfl rfl ?_
      refine A_getfield 129 dX10_carryAll_126 rfl f_X10_19 O28 rfl ?_
      refine A_iload_n 130 dX10_carryAll_129 rfl rfl rfl ?_
      refine A_iaload 131 dX10_carryAll_130 rfl O28 rfl (by first | assumption | exact ix_nI (by omega) (by decide) | exact ix_lit _ rfl (by omega) (by decide) | exact ix_lit _ rfl (by decide) (by decide)) ?_
      try dsimp only
      refine A_callVI 134 (S_X10_carry_k1 X l O28 (by omega)) dX10_carryAll_131 rfl kX10_carry lk_X10_196 rfl O28 (by decide) rfl (Nat.le_of_ble_eq_true rfl) (fun v_21 h_21 qh_21 => ?_)
      obtain ⟨rfl, n0h_21, eh_21⟩ := qh_21
      replace O28 := n0h_21
      replace hf : ∀ i, i ≠ 28 → h_21 i = h i := fun i g0 => (eh_21 i g0).trans (hf i g0)
      have f4 := up_eq (D := enc x) (i := 4 + i * 4 + 1 + 1 + 1) f3 (v := x.1 (i * 4 + 3)) (enc_l x (k := i * 4 + 3) (by omega)).symm
      refine T_X10_3 135 dX10_carryAll_134 rfl O28 (by first | assumption | exact ix_nI (by omega) (by decide) | exact ix_lit _ rfl (by omega) (by decide) | exact ix_lit _ rfl (by decide) (by decide)) (fun h_22 nh_22 eh_22 => ?_)
      replace O28 := nh_22
      replace hf : ∀ i, i ≠ 28 → h_22 i = h i := fun i g0 => (eh_22 i g0).trans (hf i g0)
      try dsimp only at O28
      rw [show va_up x.1 (i * 4 + 3) (x.1 (i * 4 + 3)) = x.1 from up_same _ _] at O28
      rw [show 4 + i * 4 + 1 + 1 + 1 + 1 = 4 + (i + 1) * 4 by omega] at O28
      first | refine A_iincN 138 dX10_carryAll_135 rfl rfl (by decide) (by first | exact (ast_s (ast_s (ast_1 rfl))) | exact (ast_s (ast_s ast_k))) ?_ | refine A_iinc 138 (1) dX10_carryAll_135 rfl rfl (by decide) (by decide) (by first | exact (ast_s (ast_s (ast_1 rfl))) | exact (ast_s (ast_s ast_k))) ?_
      refine A_goto 65 dX10_carryAll_138 (by decide) ?_
      exact ih n0 (Nat.lt_succ_self n0) (i + 1)  h_22 _ (by omega)  (fun j hj => f4 j (by omega)) O28 hf
  exact L65 (10) (0)  h_11 (_) (by omega)  (e4) O28 hf
set_option maxHeartbeats 4000000 in
set_option maxRecDepth 100000 in
theorem S_X10_carryAll_i1 (X : En) (l : Launch) {h : Hp} {cr cl : FI} {cn : Nat} {im : FI} {ch : Int32 × FI × Nat × FI × Nat} {rd : RD} {rm : RM} {kp tf : FI} {q : Nat} {rs : RS} {x : PW} {nv : Int32} {tk0 : Int32} {ki0 : AV} (O28 : h 28 = some (rB x nv (cr, cl, cn, im, ch) (rd, rm, (kp, tf, q, tk0, ki0), rs))) : Ct X l mX10_carryAll [aR 28 0, aR 28 14, aI 1] h (QV (PV1 h (28) (rB x nv (cr, cl, cn, (enc x), ch) (rd, rm, (kp, tf, 50, 1, (aR 28 14)), rs)))) := by
  have hf : ∀ i, i ≠ 28 → h i = h i := fun _ _ => rfl
  refine Ct.intro [some (aR 28 0), some (aR 28 14), some (aI 1), none] (by decide +kernel) rfl (Nat.le_of_ble_eq_true rfl) ?_
  refine A_aload_n 1 dX10_carryAll_0 rfl rfl rfl ?_
  refine A_aload_n 2 dX10_carryAll_1 rfl rfl rfl ?_
  refine P_X10_27 5 dX10_carryAll_2 rfl fw_X10_190 O28 (fun h_1 nh_1 eh_1 => ?_)
  replace O28 := nh_1
  replace hf : ∀ i, i ≠ 28 → h_1 i = h i := fun i g0 => (eh_1 i g0).trans (hf i g0)
  try dsimp only at O28
  refine A_aload_n 6 dX10_carryAll_5 rfl rfl rfl ?_
  refine A_iload_n 7 dX10_carryAll_6 rfl rfl rfl ?_
  refine P_X10_26 10 dX10_carryAll_7 rfl fw_X10_187 O28 (by first | with_reducible exact bI01 _ | with_reducible exact Or.inl rfl | with_reducible exact Or.inr rfl | assumption) (fun h_2 nh_2 eh_2 => ?_)
  replace O28 := nh_2
  replace hf : ∀ i, i ≠ 28 → h_2 i = h i := fun i g0 => (eh_2 i g0).trans (hf i g0)
  try dsimp only at O28
  refine A_aload_n 11 dX10_carryAll_10 rfl rfl rfl ?_
  refine A_iconst 12 (0) dX10_carryAll_11 rfl (by decide) ?_
  refine P_X10_25 15 dX10_carryAll_12 rfl fw_X10_193 O28 (fun h_3 nh_3 eh_3 => ?_)
  replace O28 := nh_3
  replace hf : ∀ i, i ≠ 28 → h_3 i = h i := fun i g0 => (eh_3 i g0).trans (hf i g0)
  try dsimp only at O28
  refine A_aload_n 16 dX10_carryAll_15 rfl rfl rfl ?_
  refine A_aload_n 17 dX10_carryAll_16 rfl rfl rfl ?_
  refine A_aload_n 18 dX10_carryAll_17 rfl rfl rfl ?_
  refine A_getfield 21 dX10_carryAll_18 rfl f_X10_88 O28 rfl ?_
  try dsimp only
  refine A_callVI 24 (S_X10_carry_i1 X l O28 (by omega)) dX10_carryAll_21 rfl kX10_carry lk_X10_196 rfl O28 (by decide) rfl (Nat.le_of_ble_eq_true rfl) (fun v_4 h_4 qh_4 => ?_)
  obtain ⟨rfl, n0h_4, eh_4⟩ := qh_4
  replace O28 := n0h_4
  replace hf : ∀ i, i ≠ 28 → h_4 i = h i := fun i g0 => (eh_4 i g0).trans (hf i g0)
  have e1 := up_eq (D := enc x) (i := 0) (f := im) (fun j hj => absurd hj (Nat.not_lt_zero j)) (enc_0 x).symm
  refine P_X10_0 27 dX10_carryAll_24 rfl fw_X10_88 O28 (fun h_5 nh_5 eh_5 => ?_)
  replace O28 := nh_5
  replace hf : ∀ i, i ≠ 28 → h_5 i = h i := fun i g0 => (eh_5 i g0).trans (hf i g0)
  try dsimp only at O28
  refine A_aload_n 28 dX10_carryAll_27 rfl rfl rfl ?_
  refine A_aload_n 29 dX10_carryAll_28 rfl rfl rfl ?_
  refine A_aload_n 30 dX10_carryAll_29 rfl rfl rfl ?_
  refine A_getfield 33 dX10_carryAll_30 rfl f_X10_81 O28 rfl ?_
  try dsimp only
  refine A_callVI 36 (S_X10_carry_i1 X l O28 (by omega)) dX10_carryAll_33 rfl kX10_carry lk_X10_196 rfl O28 (by decide) rfl (Nat.le_of_ble_eq_true rfl) (fun v_6 h_6 qh_6 => ?_)
  obtain ⟨rfl, n0h_6, eh_6⟩ := qh_6
  replace O28 := n0h_6
  replace hf : ∀ i, i ≠ 28 → h_6 i = h i := fun i g0 => (eh_6 i g0).trans (hf i g0)
  have e2 := up_eq (D := enc x) (i := 1) e1 (enc_1 x).symm
  refine P_X10_5 39 dX10_carryAll_36 rfl fw_X10_81 O28 (fun h_7 nh_7 eh_7 => ?_)
  replace O28 := nh_7
  replace hf : ∀ i, i ≠ 28 → h_7 i = h i := fun i g0 => (eh_7 i g0).trans (hf i g0)
  try dsimp only at O28
  refine A_aload_n 40 dX10_carryAll_39 rfl rfl rfl ?_
  refine A_aload_n 41 dX10_carryAll_40 rfl rfl rfl ?_
  refine A_aload_n 42 dX10_carryAll_41 rfl rfl rfl ?_
  refine A_getfield 45 dX10_carryAll_42 rfl f_X10_97 O28 rfl ?_
  try dsimp only
  refine A_callVI 48 (S_X10_carry_i1 X l O28 (by omega)) dX10_carryAll_45 rfl kX10_carry lk_X10_196 rfl O28 (by decide) rfl (Nat.le_of_ble_eq_true rfl) (fun v_8 h_8 qh_8 => ?_)
  obtain ⟨rfl, n0h_8, eh_8⟩ := qh_8
  replace O28 := n0h_8
  replace hf : ∀ i, i ≠ 28 → h_8 i = h i := fun i g0 => (eh_8 i g0).trans (hf i g0)
  have e3 := up_eq (D := enc x) (i := 2) e2 (enc_2 x).symm
  refine P_X10_7 51 dX10_carryAll_48 rfl fw_X10_97 O28 (fun h_9 nh_9 eh_9 => ?_)
  replace O28 := nh_9
  replace hf : ∀ i, i ≠ 28 → h_9 i = h i := fun i g0 => (eh_9 i g0).trans (hf i g0)
  try dsimp only at O28
  refine A_aload_n 52 dX10_carryAll_51 rfl rfl rfl ?_
  refine A_aload_n 53 dX10_carryAll_52 rfl rfl rfl ?_
  refine A_aload_n 54 dX10_carryAll_53 rfl rfl rfl ?_
  refine A_getfield 57 dX10_carryAll_54 rfl f_X10_118 O28 rfl ?_
  try dsimp only
  refine A_callVI 60 (S_X10_carry_i1 X l O28 (by omega)) dX10_carryAll_57 rfl kX10_carry lk_X10_196 rfl O28 (by decide) rfl (Nat.le_of_ble_eq_true rfl) (fun v_10 h_10 qh_10 => ?_)
  obtain ⟨rfl, n0h_10, eh_10⟩ := qh_10
  replace O28 := n0h_10
  replace hf : ∀ i, i ≠ 28 → h_10 i = h i := fun i g0 => (eh_10 i g0).trans (hf i g0)
  have e4 := up_eq (D := enc x) (i := 3) e3 (enc_3 x).symm
  refine P_X10_8 63 dX10_carryAll_60 rfl fw_X10_118 O28 (fun h_11 nh_11 eh_11 => ?_)
  replace O28 := nh_11
  replace hf : ∀ i, i ≠ 28 → h_11 i = h i := fun i g0 => (eh_11 i g0).trans (hf i g0)
  try dsimp only at O28
  refine A_iconst 64 (0) dX10_carryAll_63 rfl (by decide) ?_
  refine A_istore_n 65 dX10_carryAll_64 rfl rfl (by decide) (by first | exact (ast_s (ast_s (ast_1 rfl))) | exact (ast_s (ast_s ast_k))) ?_
  have L65 : ∀ (nq i : Nat)  (g65 : Hp) (im0 : FI), (nq + i = 10) → (∀ j, j < 4 + i * 4 → im0 j = enc x j) → (g65 28 = some (rB x nv (cr, cl, cn, im0, ch) (rd, rm, (kp, tf, (4 + i * 4), 1, (aR 28 14)), rs))) → (∀ i, i ≠ 28 → g65 i = h i) → Av X l mX10_carryAll 65 [some (aR 28 0), some ((aR 28 14)), some (aI (1)), some (aI (nI (i)))] [] g65 (QV (PV1 h (28) (rB x nv (cr, cl, cn, (enc x), ch) (rd, rm, (kp, tf, 50, 1, (aR 28 14)), rs)))) := by
    intro nq
    induction nq using Nat.strongRecOn with
    | _ nq ih =>
    intro i g65 im0 en hy O28 hf
    refine A_iload_n 66 dX10_carryAll_65 rfl rfl rfl ?_
    refine A_bipush 68 (10) dX10_carryAll_66 rfl (by decide) ?_
    refine A_icmp_ge 141 71 dX10_carryAll_68 (by decide) rfl (fun c68 => ?_) (fun c68 => ?_)
    · skip
      obtain rfl := (up_ge_T (N := 10) c68 rfl (by omega) (by omega)).symm
      refine A_iconst 142 (0) dX10_carryAll_141 rfl (by decide) ?_
      refine A_istore_n 143 dX10_carryAll_142 rfl rfl (by decide) (by first | exact (ast_s (ast_s (ast_1 rfl))) | exact (ast_s (ast_s ast_k))) ?_
      have L143 : ∀ (nqb i : Nat)  (g143 : Hp) (im0 : FI), (nqb + i = 6) → (∀ j, j < 44 + i → im0 j = enc x j) → (g143 28 = some (rB x nv (cr, cl, cn, im0, ch) (rd, rm, (kp, tf, (44 + i), 1, (aR 28 14)), rs))) → (∀ i, i ≠ 28 → g143 i = h i) → Av X l mX10_carryAll 143 [some (aR 28 0), some ((aR 28 14)), some (aI (1)), some (aI (nI (i)))] [] g143 (QV (PV1 h (28) (rB x nv (cr, cl, cn, (enc x), ch) (rd, rm, (kp, tf, 50, 1, (aR 28 14)), rs)))) := by
        intro nqb
        induction nqb using Nat.strongRecOn with
        | _ nqb ihb =>
        intro i g143 im0 enb hyb O28 hf
        refine A_iload_n 144 dX10_carryAll_143 rfl rfl rfl ?_
        refine A_bipush 146 (6) dX10_carryAll_144 rfl (by decide) ?_
        refine A_icmp_ge 171 149 dX10_carryAll_146 (by decide) rfl (fun c146 => ?_) (fun c146 => ?_)
        · skip
          obtain rfl := (up_ge_T (N := 6) c146 rfl (by omega) (by omega)).symm
          refine Av.extI O28 hyb (fun h_12 nh_12 eh_12 => ?_)
          replace O28 := nh_12
          replace hf : ∀ i, i ≠ 28 → h_12 i = h i := fun i g0 => (eh_12 i g0).trans (hf i g0)
          refine A_vret dX10_carryAll_171 rfl ⟨rfl, O28, hf⟩
        · skip
          have hib := up_ge_F (N := 6) c146 rfl (by omega) (by omega)
          obtain ⟨n0b, rfl⟩ : ∃ q, nqb = q + 1 := ⟨nqb - 1, by omega⟩
          refine A_aload_n 150 dX10_carryAll_149 rfl rfl rfl ?_
          refine A_getfield 153 dX10_carryAll_150 rfl f_X10_22 O28 rfl ?_
          refine A_iload_n 154 dX10_carryAll_153 rfl rfl rfl ?_
          refine A_aload_n 155 dX10_carryAll_154 rfl rfl rfl ?_
          refine A_aload_n 156 dX10_carryAll_155 rfl rfl rfl ?_
          refine A_getfield 159 dX10_carryAll_156 rfl f_X10_22 O28 rfl ?_
          refine A_iload_n 160 dX10_carryAll_159 rfl rfl rfl ?_
          refine A_iaload 161 dX10_carryAll_160 rfl O28 rfl (by first | assumption | exact ix_nI (by omega) (by decide) | exact ix_lit _ rfl (by omega) (by decide) | exact ix_lit _ rfl (by decide) (by decide)) ?_
          try dsimp only
          refine A_callVI 164 (S_X10_carry_i1 X l O28 (by omega)) dX10_carryAll_161 rfl kX10_carry lk_X10_196 rfl O28 (by decide) rfl (Nat.le_of_ble_eq_true rfl) (fun v_13 h_13 qh_13 => ?_)
          obtain ⟨rfl, n0h_13, eh_13⟩ := qh_13
          replace O28 := n0h_13
          replace hf : ∀ i, i ≠ 28 → h_13 i = h i := fun i g0 => (eh_13 i g0).trans (hf i g0)
          have f5 := up_eq (D := enc x) (i := 44 + i) hyb (v := x.2.1 i) (enc_p x (by omega)).symm
          refine T_X10_4 165 dX10_carryAll_164 rfl O28 (by first | assumption | exact ix_nI (by omega) (by decide) | exact ix_lit _ rfl (by omega) (by decide) | exact ix_lit _ rfl (by decide) (by decide)) (fun h_14 nh_14 eh_14 => ?_)
          replace O28 := nh_14
          replace hf : ∀ i, i ≠ 28 → h_14 i = h i := fun i g0 => (eh_14 i g0).trans (hf i g0)
          try dsimp only at O28
          rw [show va_up x.2.1 i (x.2.1 i) = x.2.1 from up_same _ _] at O28
          first | refine A_iincN 168 dX10_carryAll_165 rfl rfl (by decide) (by first | exact (ast_s (ast_s (ast_1 rfl))) | exact (ast_s (ast_s ast_k))) ?_ | refine A_iinc 168 (1) dX10_carryAll_165 rfl rfl (by decide) (by decide) (by first | exact (ast_s (ast_s (ast_1 rfl))) | exact (ast_s (ast_s ast_k))) ?_
          refine A_goto 143 dX10_carryAll_168 (by decide) ?_
          exact ihb n0b (Nat.lt_succ_self n0b) (i + 1)  h_14 _ (by omega)  (f5) O28 hf
      exact L143 (6) (0)  g65 (_) (by omega)  (hy) O28 hf
    · skip
      have hi := up_ge_F (N := 10) c68 rfl (by omega) (by omega)
      obtain ⟨n0, rfl⟩ : ∃ q, nq = q + 1 := ⟨nq - 1, by omega⟩
      refine A_aload_n 72 dX10_carryAll_71 rfl rfl rfl ?_
      refine A_getfield 75 dX10_carryAll_72 rfl f_X10_7 O28 rfl ?_
      refine A_iload_n 76 dX10_carryAll_75 rfl rfl rfl ?_
      refine A_aload_n 77 dX10_carryAll_76 rfl rfl rfl ?_
      refine A_aload_n 78 dX10_carryAll_77 rfl rfl rfl ?_
      refine A_getfield 81 dX10_carryAll_78 rfl f_X10_7 O28 rfl ?_
      refine A_iload_n 82 dX10_carryAll_81 rfl rfl rfl ?_
      refine A_iaload 83 dX10_carryAll_82 rfl O28 rfl (by first | assumption | exact ix_nI (by omega) (by decide) | exact ix_lit _ rfl (by omega) (by decide) | exact ix_lit _ rfl (by decide) (by decide)) ?_
      try dsimp only
      refine A_callVI 86 (S_X10_carry_i1 X l O28 (by omega)) dX10_carryAll_83 rfl kX10_carry lk_X10_196 rfl O28 (by decide) rfl (Nat.le_of_ble_eq_true rfl) (fun v_15 h_15 qh_15 => ?_)
      obtain ⟨rfl, n0h_15, eh_15⟩ := qh_15
      replace O28 := n0h_15
      replace hf : ∀ i, i ≠ 28 → h_15 i = h i := fun i g0 => (eh_15 i g0).trans (hf i g0)
      have f1 := up_eq (D := enc x) (i := 4 + i * 4) hy (v := x.1 (i * 4)) (enc_l x (k := i * 4) (by omega)).symm
      refine T_X10_0 87 dX10_carryAll_86 rfl O28 (by first | assumption | exact ix_nI (by omega) (by decide) | exact ix_lit _ rfl (by omega) (by decide) | exact ix_lit _ rfl (by decide) (by decide)) (fun h_16 nh_16 eh_16 => ?_)
      replace O28 := nh_16
      replace hf : ∀ i, i ≠ 28 → h_16 i = h i := fun i g0 => (eh_16 i g0).trans (hf i g0)
      try dsimp only at O28
      rw [show va_up x.1 (i * 4 + 0) (x.1 (i * 4)) = x.1 from up_same _ _] at O28
      refine A_aload_n 88 dX10_carryAll_87 rfl rfl rfl ?_
      refine A_getfield 91 dX10_carryAll_88 rfl f_X10_13 O28 rfl ?_
      refine A_iload_n 92 dX10_carryAll_91 rfl rfl rfl ?_
      refine A_aload_n 93 dX10_carryAll_92 rfl rfl rfl ?_
      refine A_aload_n 94 dX10_carryAll_93 rfl rfl rfl ?_
      refine A_getfield 97 dX10_carryAll_94 rfl f_X10_13 O28 rfl ?_
      refine A_iload_n 98 dX10_carryAll_97 rfl rfl rfl ?_
      refine A_iaload 99 dX10_carryAll_98 rfl O28 rfl (by first | assumption | exact ix_nI (by omega) (by decide) | exact ix_lit _ rfl (by omega) (by decide) | exact ix_lit _ rfl (by decide) (by decide)) ?_
      try dsimp only
      refine A_callVI 102 (S_X10_carry_i1 X l O28 (by omega)) dX10_carryAll_99 rfl kX10_carry lk_X10_196 rfl O28 (by decide) rfl (Nat.le_of_ble_eq_true rfl) (fun v_17 h_17 qh_17 => ?_)
      obtain ⟨rfl, n0h_17, eh_17⟩ := qh_17
      replace O28 := n0h_17
      replace hf : ∀ i, i ≠ 28 → h_17 i = h i := fun i g0 => (eh_17 i g0).trans (hf i g0)
      have f2 := up_eq (D := enc x) (i := 4 + i * 4 + 1) f1 (v := x.1 (i * 4 + 1)) (enc_l x (k := i * 4 + 1) (by omega)).symm
      refine T_X10_1 103 dX10_carryAll_102 rfl O28 (by first | assumption | exact ix_nI (by omega) (by decide) | exact ix_lit _ rfl (by omega) (by decide) | exact ix_lit _ rfl (by decide) (by decide)) (fun h_18 nh_18 eh_18 => ?_)
      replace O28 := nh_18
      replace hf : ∀ i, i ≠ 28 → h_18 i = h i := fun i g0 => (eh_18 i g0).trans (hf i g0)
      try dsimp only at O28
      rw [show va_up x.1 (i * 4 + 1) (x.1 (i * 4 + 1)) = x.1 from up_same _ _] at O28
      refine A_aload_n 104 dX10_carryAll_103 rfl rfl rfl ?_
      refine A_getfield 107 dX10_carryAll_104 rfl f_X10_16 O28 rfl ?_
      refine A_iload_n 108 dX10_carryAll_107 rfl rfl rfl ?_
      refine A_aload_n 109 dX10_carryAll_108 rfl rfl rfl ?_
      refine A_aload_n 110 dX10_carryAll_109 rfl rfl rfl ?_
      refine A_getfield 113 dX10_carryAll_110 rfl f_X10_16 O28 rfl ?_
      refine A_iload_n 114 dX10_carryAll_113 rfl rfl rfl ?_
      refine A_iaload 115 dX10_carryAll_114 rfl O28 rfl (by first | assumption | exact ix_nI (by omega) (by decide) | exact ix_lit _ rfl (by omega) (by decide) | exact ix_lit _ rfl (by decide) (by decide)) ?_
      try dsimp only
      refine A_callVI 118 (S_X10_carry_i1 X l O28 (by omega)) dX10_carryAll_115 rfl kX10_carry lk_X10_196 rfl O28 (by decide) rfl (Nat.le_of_ble_eq_true rfl) (fun v_19 h_19 qh_19 => ?_)
      obtain ⟨rfl, n0h_19, eh_19⟩ := qh_19
      replace O28 := n0h_19
      replace hf : ∀ i, i ≠ 28 → h_19 i = h i := fun i g0 => (eh_19 i g0).trans (hf i g0)
      have f3 := up_eq (D := enc x) (i := 4 + i * 4 + 1 + 1) f2 (v := x.1 (i * 4 + 2)) (enc_l x (k := i * 4 + 2) (by omega)).symm
      refine T_X10_2 119 dX10_carryAll_118 rfl O28 (by first | assumption | exact ix_nI (by omega) (by decide) | exact ix_lit _ rfl (by omega) (by decide) | exact ix_lit _ rfl (by decide) (by decide)) (fun h_20 nh_20 eh_20 => ?_)
      replace O28 := nh_20
      replace hf : ∀ i, i ≠ 28 → h_20 i = h i := fun i g0 => (eh_20 i g0).trans (hf i g0)
      try dsimp only at O28
      rw [show va_up x.1 (i * 4 + 2) (x.1 (i * 4 + 2)) = x.1 from up_same _ _] at O28
      refine A_aload_n 120 dX10_carryAll_119 rfl rfl rfl ?_
      refine A_getfield 123 dX10_carryAll_120 rfl f_X10_19 O28 rfl ?_
      refine A_iload_n 124 dX10_carryAll_123 rfl rfl rfl ?_
      refine A_aload_n 125 dX10_carryAll_124 rfl rfl rfl ?_
      refine A_aload_n 126 dX10_carryAll_125 rfl rfl rfl ?_
      refine A_getfield 129 dX10_carryAll_126 rfl f_X10_19 O28 rfl ?_
      refine A_iload_n 130 dX10_carryAll_129 rfl rfl rfl ?_
      refine A_iaload 131 dX10_carryAll_130 rfl O28 rfl (by first | assumption | exact ix_nI (by omega) (by decide) | exact ix_lit _ rfl (by omega) (by decide) | exact ix_lit _ rfl (by decide) (by decide)) ?_
      try dsimp only
      refine A_callVI 134 (S_X10_carry_i1 X l O28 (by omega)) dX10_carryAll_131 rfl kX10_carry lk_X10_196 rfl O28 (by decide) rfl (Nat.le_of_ble_eq_true rfl) (fun v_21 h_21 qh_21 => ?_)
      obtain ⟨rfl, n0h_21, eh_21⟩ := qh_21
      replace O28 := n0h_21
      replace hf : ∀ i, i ≠ 28 → h_21 i = h i := fun i g0 => (eh_21 i g0).trans (hf i g0)
      have f4 := up_eq (D := enc x) (i := 4 + i * 4 + 1 + 1 + 1) f3 (v := x.1 (i * 4 + 3)) (enc_l x (k := i * 4 + 3) (by omega)).symm
      refine T_X10_3 135 dX10_carryAll_134 rfl O28 (by first | assumption | exact ix_nI (by omega) (by decide) | exact ix_lit _ rfl (by omega) (by decide) | exact ix_lit _ rfl (by decide) (by decide)) (fun h_22 nh_22 eh_22 => ?_)
      replace O28 := nh_22
      replace hf : ∀ i, i ≠ 28 → h_22 i = h i := fun i g0 => (eh_22 i g0).trans (hf i g0)
      try dsimp only at O28
      rw [show va_up x.1 (i * 4 + 3) (x.1 (i * 4 + 3)) = x.1 from up_same _ _] at O28
      rw [show 4 + i * 4 + 1 + 1 + 1 + 1 = 4 + (i + 1) * 4 by omega] at O28
      first | refine A_iincN 138 dX10_carryAll_135 rfl rfl (by decide) (by first | exact (ast_s (ast_s (ast_1 rfl))) | exact (ast_s (ast_s ast_k))) ?_ | refine A_iinc 138 (1) dX10_carryAll_135 rfl rfl (by decide) (by decide) (by first | exact (ast_s (ast_s (ast_1 rfl))) | exact (ast_s (ast_s ast_k))) ?_
      refine A_goto 65 dX10_carryAll_138 (by decide) ?_
      exact ih n0 (Nat.lt_succ_self n0) (i + 1)  h_22 _ (by omega)  (fun j hj => f4 j (by omega)) O28 hf
  exact L65 (10) (0)  h_11 (_) (by omega)  (e4) O28 hf
set_option maxHeartbeats 4000000 in
set_option maxRecDepth 100000 in
theorem S_X10_carryAll_t1 (X : En) (l : Launch) {h : Hp} {cr cl : FI} {cn : Nat} {im : FI} {ch : Int32 × FI × Nat × FI × Nat} {rd : RD} {rm : RM} {kp tf : FI} {q : Nat} {rs : RS} {x : PW} {nv : Int32} {tk0 : Int32} {ki0 : AV} (O28 : h 28 = some (rB x nv (cr, cl, cn, im, ch) (rd, rm, (kp, tf, q, tk0, ki0), rs))) : Ct X l mX10_carryAll [aR 28 0, aR 28 16, aI 1] h (QV (PV1 h (28) (rB x nv (cr, cl, cn, im, ch) (rd, rm, (kp, (enc x), 50, 1, (aR 28 16)), rs)))) := by
  have hf : ∀ i, i ≠ 28 → h i = h i := fun _ _ => rfl
  refine Ct.intro [some (aR 28 0), some (aR 28 16), some (aI 1), none] (by decide +kernel) rfl (Nat.le_of_ble_eq_true rfl) ?_
  refine A_aload_n 1 dX10_carryAll_0 rfl rfl rfl ?_
  refine A_aload_n 2 dX10_carryAll_1 rfl rfl rfl ?_
  refine P_X10_27 5 dX10_carryAll_2 rfl fw_X10_190 O28 (fun h_1 nh_1 eh_1 => ?_)
  replace O28 := nh_1
  replace hf : ∀ i, i ≠ 28 → h_1 i = h i := fun i g0 => (eh_1 i g0).trans (hf i g0)
  try dsimp only at O28
  refine A_aload_n 6 dX10_carryAll_5 rfl rfl rfl ?_
  refine A_iload_n 7 dX10_carryAll_6 rfl rfl rfl ?_
  refine P_X10_26 10 dX10_carryAll_7 rfl fw_X10_187 O28 (by first | with_reducible exact bI01 _ | with_reducible exact Or.inl rfl | with_reducible exact Or.inr rfl | assumption) (fun h_2 nh_2 eh_2 => ?_)
  replace O28 := nh_2
  replace hf : ∀ i, i ≠ 28 → h_2 i = h i := fun i g0 => (eh_2 i g0).trans (hf i g0)
  try dsimp only at O28
  refine A_aload_n 11 dX10_carryAll_10 rfl rfl rfl ?_
  refine A_iconst 12 (0) dX10_carryAll_11 rfl (by decide) ?_
  refine P_X10_25 15 dX10_carryAll_12 rfl fw_X10_193 O28 (fun h_3 nh_3 eh_3 => ?_)
  replace O28 := nh_3
  replace hf : ∀ i, i ≠ 28 → h_3 i = h i := fun i g0 => (eh_3 i g0).trans (hf i g0)
  try dsimp only at O28
  refine A_aload_n 16 dX10_carryAll_15 rfl rfl rfl ?_
  refine A_aload_n 17 dX10_carryAll_16 rfl rfl rfl ?_
  refine A_aload_n 18 dX10_carryAll_17 rfl rfl rfl ?_
  refine A_getfield 21 dX10_carryAll_18 rfl f_X10_88 O28 rfl ?_
  try dsimp only
  refine A_callVI 24 (S_X10_carry_t1 X l O28 (by omega)) dX10_carryAll_21 rfl kX10_carry lk_X10_196 rfl O28 (by decide) rfl (Nat.le_of_ble_eq_true rfl) (fun v_4 h_4 qh_4 => ?_)
  obtain ⟨rfl, n0h_4, eh_4⟩ := qh_4
  replace O28 := n0h_4
  replace hf : ∀ i, i ≠ 28 → h_4 i = h i := fun i g0 => (eh_4 i g0).trans (hf i g0)
  have e1 := up_eq (D := enc x) (i := 0) (f := tf) (fun j hj => absurd hj (Nat.not_lt_zero j)) (enc_0 x).symm
  refine P_X10_0 27 dX10_carryAll_24 rfl fw_X10_88 O28 (fun h_5 nh_5 eh_5 => ?_)
  replace O28 := nh_5
  replace hf : ∀ i, i ≠ 28 → h_5 i = h i := fun i g0 => (eh_5 i g0).trans (hf i g0)
  try dsimp only at O28
  refine A_aload_n 28 dX10_carryAll_27 rfl rfl rfl ?_
  refine A_aload_n 29 dX10_carryAll_28 rfl rfl rfl ?_
  refine A_aload_n 30 dX10_carryAll_29 rfl rfl rfl ?_
  refine A_getfield 33 dX10_carryAll_30 rfl f_X10_81 O28 rfl ?_
  try dsimp only
  refine A_callVI 36 (S_X10_carry_t1 X l O28 (by omega)) dX10_carryAll_33 rfl kX10_carry lk_X10_196 rfl O28 (by decide) rfl (Nat.le_of_ble_eq_true rfl) (fun v_6 h_6 qh_6 => ?_)
  obtain ⟨rfl, n0h_6, eh_6⟩ := qh_6
  replace O28 := n0h_6
  replace hf : ∀ i, i ≠ 28 → h_6 i = h i := fun i g0 => (eh_6 i g0).trans (hf i g0)
  have e2 := up_eq (D := enc x) (i := 1) e1 (enc_1 x).symm
  refine P_X10_5 39 dX10_carryAll_36 rfl fw_X10_81 O28 (fun h_7 nh_7 eh_7 => ?_)
  replace O28 := nh_7
  replace hf : ∀ i, i ≠ 28 → h_7 i = h i := fun i g0 => (eh_7 i g0).trans (hf i g0)
  try dsimp only at O28
  refine A_aload_n 40 dX10_carryAll_39 rfl rfl rfl ?_
  refine A_aload_n 41 dX10_carryAll_40 rfl rfl rfl ?_
  refine A_aload_n 42 dX10_carryAll_41 rfl rfl rfl ?_
  refine A_getfield 45 dX10_carryAll_42 rfl f_X10_97 O28 rfl ?_
  try dsimp only
  refine A_callVI 48 (S_X10_carry_t1 X l O28 (by omega)) dX10_carryAll_45 rfl kX10_carry lk_X10_196 rfl O28 (by decide) rfl (Nat.le_of_ble_eq_true rfl) (fun v_8 h_8 qh_8 => ?_)
  obtain ⟨rfl, n0h_8, eh_8⟩ := qh_8
  replace O28 := n0h_8
  replace hf : ∀ i, i ≠ 28 → h_8 i = h i := fun i g0 => (eh_8 i g0).trans (hf i g0)
  have e3 := up_eq (D := enc x) (i := 2) e2 (enc_2 x).symm
  refine P_X10_7 51 dX10_carryAll_48 rfl fw_X10_97 O28 (fun h_9 nh_9 eh_9 => ?_)
  replace O28 := nh_9
  replace hf : ∀ i, i ≠ 28 → h_9 i = h i := fun i g0 => (eh_9 i g0).trans (hf i g0)
  try dsimp only at O28
  refine A_aload_n 52 dX10_carryAll_51 rfl rfl rfl ?_
  refine A_aload_n 53 dX10_carryAll_52 rfl rfl rfl ?_
  refine A_aload_n 54 dX10_carryAll_53 rfl rfl rfl ?_
  refine A_getfield 57 dX10_carryAll_54 rfl f_X10_118 O28 rfl ?_
  try dsimp only
  refine A_callVI 60 (S_X10_carry_t1 X l O28 (by omega)) dX10_carryAll_57 rfl kX10_carry lk_X10_196 rfl O28 (by decide) rfl (Nat.le_of_ble_eq_true rfl) (fun v_10 h_10 qh_10 => ?_)
  obtain ⟨rfl, n0h_10, eh_10⟩ := qh_10
  replace O28 := n0h_10
  replace hf : ∀ i, i ≠ 28 → h_10 i = h i := fun i g0 => (eh_10 i g0).trans (hf i g0)
  have e4 := up_eq (D := enc x) (i := 3) e3 (enc_3 x).symm
  refine P_X10_8 63 dX10_carryAll_60 rfl fw_X10_118 O28 (fun h_11 nh_11 eh_11 => ?_)
  replace O28 := nh_11
  replace hf : ∀ i, i ≠ 28 → h_11 i = h i := fun i g0 => (eh_11 i g0).trans (hf i g0)
  try dsimp only at O28
  refine A_iconst 64 (0) dX10_carryAll_63 rfl (by decide) ?_
  refine A_istore_n 65 dX10_carryAll_64 rfl rfl (by decide) (by first | exact (ast_s (ast_s (ast_1 rfl))) | exact (ast_s (ast_s ast_k))) ?_
  have L65 : ∀ (nq i : Nat)  (g65 : Hp) (tf0 : FI), (nq + i = 10) → (∀ j, j < 4 + i * 4 → tf0 j = enc x j) → (g65 28 = some (rB x nv (cr, cl, cn, im, ch) (rd, rm, (kp, tf0, (4 + i * 4), 1, (aR 28 16)), rs))) → (∀ i, i ≠ 28 → g65 i = h i) → Av X l mX10_carryAll 65 [some (aR 28 0), some ((aR 28 16)), some (aI (1)), some (aI (nI (i)))] [] g65 (QV (PV1 h (28) (rB x nv (cr, cl, cn, im, ch) (rd, rm, (kp, (enc x), 50, 1, (aR 28 16)), rs)))) := by
    intro nq
    induction nq using Nat.strongRecOn with
    | _ nq ih =>
    intro i g65 tf0 en hy O28 hf
    refine A_iload_n 66 dX10_carryAll_65 rfl rfl rfl ?_
    refine A_bipush 68 (10) dX10_carryAll_66 rfl (by decide) ?_
    refine A_icmp_ge 141 71 dX10_carryAll_68 (by decide) rfl (fun c68 => ?_) (fun c68 => ?_)
    · skip
      obtain rfl := (up_ge_T (N := 10) c68 rfl (by omega) (by omega)).symm
      refine A_iconst 142 (0) dX10_carryAll_141 rfl (by decide) ?_
      refine A_istore_n 143 dX10_carryAll_142 rfl rfl (by decide) (by first | exact (ast_s (ast_s (ast_1 rfl))) | exact (ast_s (ast_s ast_k))) ?_
      have L143 : ∀ (nqb i : Nat)  (g143 : Hp) (tf0 : FI), (nqb + i = 6) → (∀ j, j < 44 + i → tf0 j = enc x j) → (g143 28 = some (rB x nv (cr, cl, cn, im, ch) (rd, rm, (kp, tf0, (44 + i), 1, (aR 28 16)), rs))) → (∀ i, i ≠ 28 → g143 i = h i) → Av X l mX10_carryAll 143 [some (aR 28 0), some ((aR 28 16)), some (aI (1)), some (aI (nI (i)))] [] g143 (QV (PV1 h (28) (rB x nv (cr, cl, cn, im, ch) (rd, rm, (kp, (enc x), 50, 1, (aR 28 16)), rs)))) := by
        intro nqb
        induction nqb using Nat.strongRecOn with
        | _ nqb ihb =>
        intro i g143 tf0 enb hyb O28 hf
        refine A_iload_n 144 dX10_carryAll_143 rfl rfl rfl ?_
        refine A_bipush 146 (6) dX10_carryAll_144 rfl (by decide) ?_
        refine A_icmp_ge 171 149 dX10_carryAll_146 (by decide) rfl (fun c146 => ?_) (fun c146 => ?_)
        · skip
          obtain rfl := (up_ge_T (N := 6) c146 rfl (by omega) (by omega)).symm
          refine Av.extK O28 (fun _ _ => rfl) hyb (fun h_12 nh_12 eh_12 => ?_)
          replace O28 := nh_12
          replace hf : ∀ i, i ≠ 28 → h_12 i = h i := fun i g0 => (eh_12 i g0).trans (hf i g0)
          refine A_vret dX10_carryAll_171 rfl ⟨rfl, O28, hf⟩
        · skip
          have hib := up_ge_F (N := 6) c146 rfl (by omega) (by omega)
          obtain ⟨n0b, rfl⟩ : ∃ q, nqb = q + 1 := ⟨nqb - 1, by omega⟩
          refine A_aload_n 150 dX10_carryAll_149 rfl rfl rfl ?_
          refine A_getfield 153 dX10_carryAll_150 rfl f_X10_22 O28 rfl ?_
          refine A_iload_n 154 dX10_carryAll_153 rfl rfl rfl ?_
          refine A_aload_n 155 dX10_carryAll_154 rfl rfl rfl ?_
          refine A_aload_n 156 dX10_carryAll_155 rfl rfl rfl ?_
          refine A_getfield 159 dX10_carryAll_156 rfl f_X10_22 O28 rfl ?_
          refine A_iload_n 160 dX10_carryAll_159 rfl rfl rfl ?_
          refine A_iaload 161 dX10_carryAll_160 rfl O28 rfl (by first | assumption | exact ix_nI (by omega) (by decide) | exact ix_lit _ rfl (by omega) (by decide) | exact ix_lit _ rfl (by decide) (by decide)) ?_
          try dsimp only
          refine A_callVI 164 (S_X10_carry_t1 X l O28 (by omega)) dX10_carryAll_161 rfl kX10_carry lk_X10_196 rfl O28 (by decide) rfl (Nat.le_of_ble_eq_true rfl) (fun v_13 h_13 qh_13 => ?_)
          obtain ⟨rfl, n0h_13, eh_13⟩ := qh_13
          replace O28 := n0h_13
          replace hf : ∀ i, i ≠ 28 → h_13 i = h i := fun i g0 => (eh_13 i g0).trans (hf i g0)
          have f5 := up_eq (D := enc x) (i := 44 + i) hyb (v := x.2.1 i) (enc_p x (by omega)).symm
          refine T_X10_4 165 dX10_carryAll_164 rfl O28 (by first | assumption | exact ix_nI (by omega) (by decide) | exact ix_lit _ rfl (by omega) (by decide) | exact ix_lit _ rfl (by decide) (by decide)) (fun h_14 nh_14 eh_14 => ?_)
          replace O28 := nh_14
          replace hf : ∀ i, i ≠ 28 → h_14 i = h i := fun i g0 => (eh_14 i g0).trans (hf i g0)
          try dsimp only at O28
          rw [show va_up x.2.1 i (x.2.1 i) = x.2.1 from up_same _ _] at O28
          first | refine A_iincN 168 dX10_carryAll_165 rfl rfl (by decide) (by first | exact (ast_s (ast_s (ast_1 rfl))) | exact (ast_s (ast_s ast_k))) ?_ | refine A_iinc 168 (1) dX10_carryAll_165 rfl rfl (by decide) (by decide) (by first | exact (ast_s (ast_s (ast_1 rfl))) | exact (ast_s (ast_s ast_k))) ?_
          refine A_goto 143 dX10_carryAll_168 (by decide) ?_
          exact ihb n0b (Nat.lt_succ_self n0b) (i + 1)  h_14 _ (by omega)  (f5) O28 hf
      exact L143 (6) (0)  g65 (_) (by omega)  (hy) O28 hf
    · skip
      have hi := up_ge_F (N := 10) c68 rfl (by omega) (by omega)
      obtain ⟨n0, rfl⟩ : ∃ q, nq = q + 1 := ⟨nq - 1, by omega⟩
      refine A_aload_n 72 dX10_carryAll_71 rfl rfl rfl ?_
      refine A_getfield 75 dX10_carryAll_72 rfl f_X10_7 O28 rfl ?_
      refine A_iload_n 76 dX10_carryAll_75 rfl rfl rfl ?_
      refine A_aload_n 77 dX10_carryAll_76 rfl rfl rfl ?_
      refine A_aload_n 78 dX10_carryAll_77 rfl rfl rfl ?_
      refine A_getfield 81 dX10_carryAll_78 rfl f_X10_7 O28 rfl ?_
      refine A_iload_n 82 dX10_carryAll_81 rfl rfl rfl ?_
      refine A_iaload 83 dX10_carryAll_82 rfl O28 rfl (by first | assumption | exact ix_nI (by omega) (by decide) | exact ix_lit _ rfl (by omega) (by decide) | exact ix_lit _ rfl (by decide) (by decide)) ?_
      try dsimp only
      refine A_callVI 86 (S_X10_carry_t1 X l O28 (by omega)) dX10_carryAll_83 rfl kX10_carry lk_X10_196 rfl O28 (by decide) rfl (Nat.le_of_ble_eq_true rfl) (fun v_15 h_15 qh_15 => ?_)
      obtain ⟨rfl, n0h_15, eh_15⟩ := qh_15
      replace O28 := n0h_15
      replace hf : ∀ i, i ≠ 28 → h_15 i = h i := fun i g0 => (eh_15 i g0).trans (hf i g0)
      have f1 := up_eq (D := enc x) (i := 4 + i * 4) hy (v := x.1 (i * 4)) (enc_l x (k := i * 4) (by omega)).symm
      refine T_X10_0 87 dX10_carryAll_86 rfl O28 (by first | assumption | exact ix_nI (by omega) (by decide) | exact ix_lit _ rfl (by omega) (by decide) | exact ix_lit _ rfl (by decide) (by decide)) (fun h_16 nh_16 eh_16 => ?_)
      replace O28 := nh_16
      replace hf : ∀ i, i ≠ 28 → h_16 i = h i := fun i g0 => (eh_16 i g0).trans (hf i g0)
      try dsimp only at O28
      rw [show va_up x.1 (i * 4 + 0) (x.1 (i * 4)) = x.1 from up_same _ _] at O28
      refine A_aload_n 88 dX10_carryAll_87 rfl rfl rfl ?_
      refine A_getfield 91 dX10_carryAll_88 rfl f_X10_13 O28 rfl ?_
      refine A_iload_n 92 dX10_carryAll_91 rfl rfl rfl ?_
      refine A_aload_n 93 dX10_carryAll_92 rfl rfl rfl ?_
      refine A_aload_n 94 dX10_carryAll_93 rfl rfl rfl ?_
      refine A_getfield 97 dX10_carryAll_94 rfl f_X10_13 O28 rfl ?_
      refine A_iload_n 98 dX10_carryAll_97 rfl rfl rfl ?_
      refine A_iaload 99 dX10_carryAll_98 rfl O28 rfl (by first | assumption | exact ix_nI (by omega) (by decide) | exact ix_lit _ rfl (by omega) (by decide) | exact ix_lit _ rfl (by decide) (by decide)) ?_
      try dsimp only
      refine A_callVI 102 (S_X10_carry_t1 X l O28 (by omega)) dX10_carryAll_99 rfl kX10_carry lk_X10_196 rfl O28 (by decide) rfl (Nat.le_of_ble_eq_true rfl) (fun v_17 h_17 qh_17 => ?_)
      obtain ⟨rfl, n0h_17, eh_17⟩ := qh_17
      replace O28 := n0h_17
      replace hf : ∀ i, i ≠ 28 → h_17 i = h i := fun i g0 => (eh_17 i g0).trans (hf i g0)
      have f2 := up_eq (D := enc x) (i := 4 + i * 4 + 1) f1 (v := x.1 (i * 4 + 1)) (enc_l x (k := i * 4 + 1) (by omega)).symm
      refine T_X10_1 103 dX10_carryAll_102 rfl O28 (by first | assumption | exact ix_nI (by omega) (by decide) | exact ix_lit _ rfl (by omega) (by decide) | exact ix_lit _ rfl (by decide) (by decide)) (fun h_18 nh_18 eh_18 => ?_)
      replace O28 := nh_18
      replace hf : ∀ i, i ≠ 28 → h_18 i = h i := fun i g0 => (eh_18 i g0).trans (hf i g0)
      try dsimp only at O28
      rw [show va_up x.1 (i * 4 + 1) (x.1 (i * 4 + 1)) = x.1 from up_same _ _] at O28
      refine A_aload_n 104 dX10_carryAll_103 rfl rfl rfl ?_
      refine A_getfield 107 dX10_carryAll_104 rfl f_X10_16 O28 rfl ?_
      refine A_iload_n 108 dX10_carryAll_107 rfl rfl rfl ?_
      refine A_aload_n 109 dX10_carryAll_108 rfl rfl rfl ?_
      refine A_aload_n 110 dX10_carryAll_109 rfl rfl rfl ?_
      refine A_getfield 113 dX10_carryAll_110 rfl f_X10_16 O28 rfl ?_
      refine A_iload_n 114 dX10_carryAll_113 rfl rfl rfl ?_
      refine A_iaload 115 dX10_carryAll_114 rfl O28 rfl (by first | assumption | exact ix_nI (by omega) (by decide) | exact ix_lit _ rfl (by omega) (by decide) | exact ix_lit _ rfl (by decide) (by decide)) ?_
      try dsimp only
      refine A_callVI 118 (S_X10_carry_t1 X l O28 (by omega)) dX10_carryAll_115 rfl kX10_carry lk_X10_196 rfl O28 (by decide) rfl (Nat.le_of_ble_eq_true rfl) (fun v_19 h_19 qh_19 => ?_)
      obtain ⟨rfl, n0h_19, eh_19⟩ := qh_19
      replace O28 := n0h_19
      replace hf : ∀ i, i ≠ 28 → h_19 i = h i := fun i g0 => (eh_19 i g0).trans (hf i g0)
      have f3 := up_eq (D := enc x) (i := 4 + i * 4 + 1 + 1) f2 (v := x.1 (i * 4 + 2)) (enc_l x (k := i * 4 + 2) (by omega)).symm
      refine T_X10_2 119 dX10_carryAll_118 rfl O28 (by first | assumption | exact ix_nI (by omega) (by decide) | exact ix_lit _ rfl (by omega) (by decide) | exact ix_lit _ rfl (by decide) (by decide)) (fun h_20 nh_20 eh_20 => ?_)
      replace O28 := nh_20
      replace hf : ∀ i, i ≠ 28 → h_20 i = h i := fun i g0 => (eh_20 i g0).trans (hf i g0)
      try dsimp only at O28
      rw [show va_up x.1 (i * 4 + 2) (x.1 (i * 4 + 2)) = x.1 from up_same _ _] at O28
      refine A_aload_n 120 dX10_carryAll_119 rfl rfl rfl ?_
      refine A_getfield 123 dX10_carryAll_120 rfl f_X10_19 O28 rfl ?_
      refine A_iload_n 124 dX10_carryAll_123 rfl rfl rfl ?_
      refine A_aload_n 125 dX10_carryAll_124 rfl rfl rfl ?_
      refine A_aload_n 126 dX10_carryAll_125 rfl rfl rfl ?_
      refine A_getfield 129 dX10_carryAll_126 rfl f_X10_19 O28 rfl ?_
      refine A_iload_n 130 dX10_carryAll_129 rfl rfl rfl ?_
      refine A_iaload 131 dX10_carryAll_130 rfl O28 rfl (by first | assumption | exact ix_nI (by omega) (by decide) | exact ix_lit _ rfl (by omega) (by decide) | exact ix_lit _ rfl (by decide) (by decide)) ?_
      try dsimp only
      refine A_callVI 134 (S_X10_carry_t1 X l O28 (by omega)) dX10_carryAll_131 rfl kX10_carry lk_X10_196 rfl O28 (by decide) rfl (Nat.le_of_ble_eq_true rfl) (fun v_21 h_21 qh_21 => ?_)
      obtain ⟨rfl, n0h_21, eh_21⟩ := qh_21
      replace O28 := n0h_21
      replace hf : ∀ i, i ≠ 28 → h_21 i = h i := fun i g0 => (eh_21 i g0).trans (hf i g0)
      have f4 := up_eq (D := enc x) (i := 4 + i * 4 + 1 + 1 + 1) f3 (v := x.1 (i * 4 + 3)) (enc_l x (k := i * 4 + 3) (by omega)).symm
      refine T_X10_3 135 dX10_carryAll_134 rfl O28 (by first | assumption | exact ix_nI (by omega) (by decide) | exact ix_lit _ rfl (by omega) (by decide) | exact ix_lit _ rfl (by decide) (by decide)) (fun h_22 nh_22 eh_22 => ?_)
      replace O28 := nh_22
      replace hf : ∀ i, i ≠ 28 → h_22 i = h i := fun i g0 => (eh_22 i g0).trans (hf i g0)
      try dsimp only at O28
      rw [show va_up x.1 (i * 4 + 3) (x.1 (i * 4 + 3)) = x.1 from up_same _ _] at O28
      rw [show 4 + i * 4 + 1 + 1 + 1 + 1 = 4 + (i + 1) * 4 by omega] at O28
      first | refine A_iincN 138 dX10_carryAll_135 rfl rfl (by decide) (by first | exact (ast_s (ast_s (ast_1 rfl))) | exact (ast_s (ast_s ast_k))) ?_ | refine A_iinc 138 (1) dX10_carryAll_135 rfl rfl (by decide) (by decide) (by first | exact (ast_s (ast_s (ast_1 rfl))) | exact (ast_s (ast_s ast_k))) ?_
      refine A_goto 65 dX10_carryAll_138 (by decide) ?_
      exact ih n0 (Nat.lt_succ_self n0) (i + 1)  h_22 _ (by omega)  (fun j hj => f4 j (by omega)) O28 hf
  exact L65 (10) (0)  h_11 (_) (by omega)  (e4) O28 hf
set_option maxHeartbeats 4000000 in
set_option maxRecDepth 100000 in
theorem S_X10_carryAll_k0 (X : En) (l : Launch) {h : Hp} {cr cl : FI} {cn : Nat} {im : FI} {ch : Int32 × FI × Nat × FI × Nat} {rd : RD} {rm : RM} {kp tf : FI} {q : Nat} {rs : RS} {x : PW} {nv : Int32} {tk0 : Int32} {ki0 : AV} (O28 : h 28 = some (rB x nv (cr, cl, cn, im, ch) (rd, rm, (kp, tf, q, tk0, ki0), rs))) {y : PW} (hk : ∀ j, j < 50 → kp j = enc y j) : Ct X l mX10_carryAll [aR 28 0, aR 28 13, aI 0] h (QV (PV1 h (28) (rB y nv (cr, cl, cn, im, ch) (rd, rm, (kp, tf, 50, 0, (aR 28 13)), rs)))) := by
  have hf : ∀ i, i ≠ 28 → h i = h i := fun _ _ => rfl
  refine Ct.intro [some (aR 28 0), some (aR 28 13), some (aI 0), none] (by decide +kernel) rfl (Nat.le_of_ble_eq_true rfl) ?_
  refine A_aload_n 1 dX10_carryAll_0 rfl rfl rfl ?_
  refine A_aload_n 2 dX10_carryAll_1 rfl rfl rfl ?_
  refine P_X10_27 5 dX10_carryAll_2 rfl fw_X10_190 O28 (fun h_1 nh_1 eh_1 => ?_)
  replace O28 := nh_1
  replace hf : ∀ i, i ≠ 28 → h_1 i = h i := fun i g0 => (eh_1 i g0).trans (hf i g0)
  try dsimp only at O28
  refine A_aload_n 6 dX10_carryAll_5 rfl rfl rfl ?_
  refine A_iload_n 7 dX10_carryAll_6 rfl rfl rfl ?_
  refine P_X10_26 10 dX10_carryAll_7 rfl fw_X10_187 O28 (by first | with_reducible exact bI01 _ | with_reducible exact Or.inl rfl | with_reducible exact Or.inr rfl | assumption) (fun h_2 nh_2 eh_2 => ?_)
  replace O28 := nh_2
  replace hf : ∀ i, i ≠ 28 → h_2 i = h i := fun i g0 => (eh_2 i g0).trans (hf i g0)
  try dsimp only at O28
  refine A_aload_n 11 dX10_carryAll_10 rfl rfl rfl ?_
  refine A_iconst 12 (0) dX10_carryAll_11 rfl (by decide) ?_
  refine P_X10_25 15 dX10_carryAll_12 rfl fw_X10_193 O28 (fun h_3 nh_3 eh_3 => ?_)
  replace O28 := nh_3
  replace hf : ∀ i, i ≠ 28 → h_3 i = h i := fun i g0 => (eh_3 i g0).trans (hf i g0)
  try dsimp only at O28
  refine A_aload_n 16 dX10_carryAll_15 rfl rfl rfl ?_
  refine A_aload_n 17 dX10_carryAll_16 rfl rfl rfl ?_
  refine A_aload_n 18 dX10_carryAll_17 rfl rfl rfl ?_
  refine A_getfield 21 dX10_carryAll_18 rfl f_X10_88 O28 rfl ?_
  try dsimp only
  refine A_callVI 24 (S_X10_carry_k0 X l O28 (by omega)) dX10_carryAll_21 rfl kX10_carry lk_X10_196 rfl O28 (by decide) rfl (Nat.le_of_ble_eq_true rfl) (fun v_4 h_4 qh_4 => ?_)
  obtain ⟨rfl, n0h_4, eh_4⟩ := qh_4
  replace O28 := n0h_4
  replace hf : ∀ i, i ≠ 28 → h_4 i = h i := fun i g0 => (eh_4 i g0).trans (hf i g0)
  rw [hk (0) (by omega), enc_0]
  refine P_X10_0 27 dX10_carryAll_24 rfl fw_X10_88 O28 (fun h_5 nh_5 eh_5 => ?_)
  replace O28 := nh_5
  replace hf : ∀ i, i ≠ 28 → h_5 i = h i := fun i g0 => (eh_5 i g0).trans (hf i g0)
  try dsimp only at O28
  refine A_aload_n 28 dX10_carryAll_27 rfl rfl rfl ?_
  refine A_aload_n 29 dX10_carryAll_28 rfl rfl rfl ?_
  refine A_aload_n 30 dX10_carryAll_29 rfl rfl rfl ?_
  refine A_getfield 33 dX10_carryAll_30 rfl f_X10_81 O28 rfl ?_
  try dsimp only
  refine A_callVI 36 (S_X10_carry_k0 X l O28 (by omega)) dX10_carryAll_33 rfl kX10_carry lk_X10_196 rfl O28 (by decide) rfl (Nat.le_of_ble_eq_true rfl) (fun v_6 h_6 qh_6 => ?_)
  obtain ⟨rfl, n0h_6, eh_6⟩ := qh_6
  replace O28 := n0h_6
  replace hf : ∀ i, i ≠ 28 → h_6 i = h i := fun i g0 => (eh_6 i g0).trans (hf i g0)
  rw [hk (0 + 1) (by omega), show enc y (0 + 1) = nI y.2.2.2.1 from rfl]
  refine P_X10_5 39 dX10_carryAll_36 rfl fw_X10_81 O28 (fun h_7 nh_7 eh_7 => ?_)
  replace O28 := nh_7
  replace hf : ∀ i, i ≠ 28 → h_7 i = h i := fun i g0 => (eh_7 i g0).trans (hf i g0)
  try dsimp only at O28
  refine A_aload_n 40 dX10_carryAll_39 rfl rfl rfl ?_
  refine A_aload_n 41 dX10_carryAll_40 rfl rfl rfl ?_
  refine A_aload_n 42 dX10_carryAll_41 rfl rfl rfl ?_
  refine A_getfield 45 dX10_carryAll_42 rfl f_X10_97 O28 rfl ?_
  try dsimp only
  refine A_callVI 48 (S_X10_carry_k0 X l O28 (by omega)) dX10_carryAll_45 rfl kX10_carry lk_X10_196 rfl O28 (by decide) rfl (Nat.le_of_ble_eq_true rfl) (fun v_8 h_8 qh_8 => ?_)
  obtain ⟨rfl, n0h_8, eh_8⟩ := qh_8
  replace O28 := n0h_8
  replace hf : ∀ i, i ≠ 28 → h_8 i = h i := fun i g0 => (eh_8 i g0).trans (hf i g0)
  rw [hk (0 + 1 + 1) (by omega), show enc y (0 + 1 + 1) = y.2.2.2.2.1 from rfl]
  refine P_X10_7 51 dX10_carryAll_48 rfl fw_X10_97 O28 (fun h_9 nh_9 eh_9 => ?_)
  replace O28 := nh_9
  replace hf : ∀ i, i ≠ 28 → h_9 i = h i := fun i g0 => (eh_9 i g0).trans (hf i g0)
  try dsimp only at O28
  refine A_aload_n 52 dX10_carryAll_51 rfl rfl rfl ?_
  refine A_aload_n 53 dX10_carryAll_52 rfl rfl rfl ?_
  refine A_aload_n 54 dX10_carryAll_53 rfl rfl rfl ?_
  refine A_getfield 57 dX10_carryAll_54 rfl f_X10_118 O28 rfl ?_
  try dsimp only
  refine A_callVI 60 (S_X10_carry_k0 X l O28 (by omega)) dX10_carryAll_57 rfl kX10_carry lk_X10_196 rfl O28 (by decide) rfl (Nat.le_of_ble_eq_true rfl) (fun v_10 h_10 qh_10 => ?_)
  obtain ⟨rfl, n0h_10, eh_10⟩ := qh_10
  replace O28 := n0h_10
  replace hf : ∀ i, i ≠ 28 → h_10 i = h i := fun i g0 => (eh_10 i g0).trans (hf i g0)
  rw [hk (0 + 1 + 1 + 1) (by omega), show enc y (0 + 1 + 1 + 1) = y.2.2.2.2.2 from rfl]
  refine P_X10_8 63 dX10_carryAll_60 rfl fw_X10_118 O28 (fun h_11 nh_11 eh_11 => ?_)
  replace O28 := nh_11
  replace hf : ∀ i, i ≠ 28 → h_11 i = h i := fun i g0 => (eh_11 i g0).trans (hf i g0)
  try dsimp only at O28
  refine A_iconst 64 (0) dX10_carryAll_63 rfl (by decide) ?_
  refine A_istore_n 65 dX10_carryAll_64 rfl rfl (by decide) (by first | exact (ast_s (ast_s (ast_1 rfl))) | exact (ast_s (ast_s ast_k))) ?_
  have L65 : ∀ (nq i : Nat)  (g65 : Hp) (w0 : FI), (nq + i = 10) → (∀ j, j < i * 4 → w0 j = y.1 j) → (g65 28 = some (rB (w0, x.2.1, y.2.2) nv (cr, cl, cn, im, ch) (rd, rm, (kp, tf, (4 + i * 4), 0, (aR 28 13)), rs))) → (∀ i, i ≠ 28 → g65 i = h i) → Av X l mX10_carryAll 65 [some (aR 28 0), some ((aR 28 13)), some (aI (0)), some (aI (nI (i)))] [] g65 (QV (PV1 h (28) (rB y nv (cr, cl, cn, im, ch) (rd, rm, (kp, tf, 50, 0, (aR 28 13)), rs)))) := by
    intro nq
    induction nq using Nat.strongRecOn with
    | _ nq ih =>
    intro i g65 w0 en hy O28 hf
    refine A_iload_n 66 dX10_carryAll_65 rfl rfl rfl ?_
    refine A_bipush 68 (10) dX10_carryAll_66 rfl (by decide) ?_
    refine A_icmp_ge 141 71 dX10_carryAll_68 (by decide) rfl (fun c68 => ?_) (fun c68 => ?_)
    · skip
      obtain rfl := (up_ge_T (N := 10) c68 rfl (by omega) (by omega)).symm
      have hw := hy
      refine A_iconst 142 (0) dX10_carryAll_141 rfl (by decide) ?_
      refine A_istore_n 143 dX10_carryAll_142 rfl rfl (by decide) (by first | exact (ast_s (ast_s (ast_1 rfl))) | exact (ast_s (ast_s ast_k))) ?_
      have L143 : ∀ (nqb i : Nat)  (g143 : Hp) (w1 : FI), (nqb + i = 6) → (∀ j, j < i → w1 j = y.2.1 j) → (g143 28 = some (rB (w0, w1, y.2.2) nv (cr, cl, cn, im, ch) (rd, rm, (kp, tf, (44 + i), 0, (aR 28 13)), rs))) → (∀ i, i ≠ 28 → g143 i = h i) → Av X l mX10_carryAll 143 [some (aR 28 0), some ((aR 28 13)), some (aI (0)), some (aI (nI (i)))] [] g143 (QV (PV1 h (28) (rB y nv (cr, cl, cn, im, ch) (rd, rm, (kp, tf, 50, 0, (aR 28 13)), rs)))) := by
        intro nqb
        induction nqb using Nat.strongRecOn with
        | _ nqb ihb =>
        intro i g143 w1 enb hyb O28 hf
        refine A_iload_n 144 dX10_carryAll_143 rfl rfl rfl ?_
        refine A_bipush 146 (6) dX10_carryAll_144 rfl (by decide) ?_
        refine A_icmp_ge 171 149 dX10_carryAll_146 (by decide) rfl (fun c146 => ?_) (fun c146 => ?_)
        · skip
          obtain rfl := (up_ge_T (N := 6) c146 rfl (by omega) (by omega)).symm
          refine Av.extR (y := y) O28 rfl hw hyb (fun h_12 nh_12 eh_12 => ?_)
          replace O28 := nh_12
          replace hf : ∀ i, i ≠ 28 → h_12 i = h i := fun i g0 => (eh_12 i g0).trans (hf i g0)
          refine A_vret dX10_carryAll_171 rfl ⟨rfl, O28, hf⟩
        · skip
          have hib := up_ge_F (N := 6) c146 rfl (by omega) (by omega)
          obtain ⟨n0b, rfl⟩ : ∃ q, nqb = q + 1 := ⟨nqb - 1, by omega⟩
          refine A_aload_n 150 dX10_carryAll_149 rfl rfl rfl ?_
          refine A_getfield 153 dX10_carryAll_150 rfl f_X10_22 O28 rfl ?_
          refine A_iload_n 154 dX10_carryAll_153 rfl rfl rfl ?_
          refine A_aload_n 155 dX10_carryAll_154 rfl rfl rfl ?_
          refine A_aload_n 156 dX10_carryAll_155 rfl rfl rfl ?_
          refine A_getfield 159 dX10_carryAll_156 rfl f_X10_22 O28 rfl ?_
          refine A_iload_n 160 dX10_carryAll_159 rfl rfl rfl ?_
          refine A_iaload 161 dX10_carryAll_160 rfl O28 rfl (by first | assumption | exact ix_nI (by omega) (by decide) | exact ix_lit _ rfl (by omega) (by decide) | exact ix_lit _ rfl (by decide) (by decide)) ?_
          try dsimp only
          refine A_callVI 164 (S_X10_carry_k0 X l O28 (by omega)) dX10_carryAll_161 rfl kX10_carry lk_X10_196 rfl O28 (by decide) rfl (Nat.le_of_ble_eq_true rfl) (fun v_13 h_13 qh_13 => ?_)
          obtain ⟨rfl, n0h_13, eh_13⟩ := qh_13
          replace O28 := n0h_13
          replace hf : ∀ i, i ≠ 28 → h_13 i = h i := fun i g0 => (eh_13 i g0).trans (hf i g0)
          rw [hk (44 + i) (by omega), enc_p y (k := i) (by omega)]
          refine T_X10_4 165 dX10_carryAll_164 rfl O28 (by first | assumption | exact ix_nI (by omega) (by decide) | exact ix_lit _ rfl (by omega) (by decide) | exact ix_lit _ rfl (by decide) (by decide)) (fun h_14 nh_14 eh_14 => ?_)
          replace O28 := nh_14
          replace hf : ∀ i, i ≠ 28 → h_14 i = h i := fun i g0 => (eh_14 i g0).trans (hf i g0)
          try dsimp only at O28
          have g5 := up_eq (D := y.2.1) (i := i) hyb (v := y.2.1 i) rfl
          first | refine A_iincN 168 dX10_carryAll_165 rfl rfl (by decide) (by first | exact (ast_s (ast_s (ast_1 rfl))) | exact (ast_s (ast_s ast_k))) ?_ | refine A_iinc 168 (1) dX10_carryAll_165 rfl rfl (by decide) (by decide) (by first | exact (ast_s (ast_s (ast_1 rfl))) | exact (ast_s (ast_s ast_k))) ?_
          refine A_goto 143 dX10_carryAll_168 (by decide) ?_
          exact ihb n0b (Nat.lt_succ_self n0b) (i + 1)  h_14 _ (by omega)  (g5) O28 hf
      exact L143 (6) (0)  g65 (_) (by omega)  (fun j hj => absurd hj (Nat.not_lt_zero j)) O28 hf
    · skip
      have hi := up_ge_F (N := 10) c68 rfl (by omega) (by omega)
      obtain ⟨n0, rfl⟩ : ∃ q, nq = q + 1 := ⟨nq - 1, by omega⟩
      refine A_aload_n 72 dX10_carryAll_71 rfl rfl rfl ?_
      refine A_getfield 75 dX10_carryAll_72 rfl f_X10_7 O28 rfl ?_
      refine A_iload_n 76 dX10_carryAll_75 rfl rfl rfl ?_
      refine A_aload_n 77 dX10_carryAll_76 rfl rfl rfl ?_
      refine A_aload_n 78 dX10_carryAll_77 rfl rfl rfl ?_
      refine A_getfield 81 dX10_carryAll_78 rfl f_X10_7 O28 rfl ?_
      refine A_iload_n 82 dX10_carryAll_81 rfl rfl rfl ?_
      refine A_iaload 83 dX10_carryAll_82 rfl O28 rfl (by first | assumption | exact ix_nI (by omega) (by decide) | exact ix_lit _ rfl (by omega) (by decide) | exact ix_lit _ rfl (by decide) (by decide)) ?_
      try dsimp only
      refine A_callVI 86 (S_X10_carry_k0 X l O28 (by omega)) dX10_carryAll_83 rfl kX10_carry lk_X10_196 rfl O28 (by decide) rfl (Nat.le_of_ble_eq_true rfl) (fun v_15 h_15 qh_15 => ?_)
      obtain ⟨rfl, n0h_15, eh_15⟩ := qh_15
      replace O28 := n0h_15
      replace hf : ∀ i, i ≠ 28 → h_15 i = h i := fun i g0 => (eh_15 i g0).trans (hf i g0)
      rw [hk (4 + i * 4) (by omega), show enc y (4 + i * 4) = y.1 (i * 4 + 0) from enc_l y (k := i * 4 + 0) (by omega)]
      refine T_X10_0 87 dX10_carryAll_86 rfl O28 (by first | assumption | exact ix_nI (by omega) (by decide) | exact ix_lit _ rfl (by omega) (by decide) | exact ix_lit _ rfl (by decide) (by decide)) (fun h_16 nh_16 eh_16 => ?_)
      replace O28 := nh_16
      replace hf : ∀ i, i ≠ 28 → h_16 i = h i := fun i g0 => (eh_16 i g0).trans (hf i g0)
      try dsimp only at O28
      have g0 := up_eq (D := y.1) (i := i * 4) hy (v := y.1 (i * 4 + 0)) rfl
      refine A_aload_n 88 dX10_carryAll_87 rfl rfl rfl ?_
      refine A_getfield 91 dX10_carryAll_88 rfl f_X10_13 O28 rfl ?_
      refine A_iload_n 92 dX10_carryAll_91 rfl rfl rfl ?_
      refine A_aload_n 93 dX10_carryAll_92 rfl rfl rfl ?_
      refine A_aload_n 94 dX10_carryAll_93 rfl rfl rfl ?_
      refine A_getfield 97 dX10_carryAll_94 rfl f_X10_13 O28 rfl ?_
      refine A_iload_n 98 dX10_carryAll_97 rfl rfl rfl ?_
      refine A_iaload 99 dX10_carryAll_98 rfl O28 rfl (by first | assumption | exact ix_nI (by omega) (by decide) | exact ix_lit _ rfl (by omega) (by decide) | exact ix_lit _ rfl (by decide) (by decide)) ?_
      try dsimp only
      refine A_callVI 102 (S_X10_carry_k0 X l O28 (by omega)) dX10_carryAll_99 rfl kX10_carry lk_X10_196 rfl O28 (by decide) rfl (Nat.le_of_ble_eq_true rfl) (fun v_17 h_17 qh_17 => ?_)
      obtain ⟨rfl, n0h_17, eh_17⟩ := qh_17
      replace O28 := n0h_17
      replace hf : ∀ i, i ≠ 28 → h_17 i = h i := fun i g0 => (eh_17 i g0).trans (hf i g0)
      rw [hk (4 + i * 4 + 1) (by omega), show enc y (4 + i * 4 + 1) = y.1 (i * 4 + 1) from enc_l y (k := i * 4 + 1) (by omega)]
      refine T_X10_1 103 dX10_carryAll_102 rfl O28 (by first | assumption | exact ix_nI (by omega) (by decide) | exact ix_lit _ rfl (by omega) (by decide) | exact ix_lit _ rfl (by decide) (by decide)) (fun h_18 nh_18 eh_18 => ?_)
      replace O28 := nh_18
      replace hf : ∀ i, i ≠ 28 → h_18 i = h i := fun i g0 => (eh_18 i g0).trans (hf i g0)
      try dsimp only at O28
      have g1 := up_eq (D := y.1) (i := i * 4 + 1) g0 (v := y.1 (i * 4 + 1)) rfl
      refine A_aload_n 104 dX10_carryAll_103 rfl rfl rfl ?_
      refine A_getfield 107 dX10_carryAll_104 rfl f_X10_16 O28 rfl ?_
      refine A_iload_n 108 dX10_carryAll_107 rfl rfl rfl ?_
      refine A_aload_n 109 dX10_carryAll_108 rfl rfl rfl ?_
      refine A_aload_n 110 dX10_carryAll_109 rfl rfl rfl ?_
      refine A_getfield 113 dX10_carryAll_110 rfl f_X10_16 O28 rfl ?_
      refine A_iload_n 114 dX10_carryAll_113 rfl rfl rfl ?_
      refine A_iaload 115 dX10_carryAll_114 rfl O28 rfl (by first | assumption | exact ix_nI (by omega) (by decide) | exact ix_lit _ rfl (by omega) (by decide) | exact ix_lit _ rfl (by decide) (by decide)) ?_
      try dsimp only
      refine A_callVI 118 (S_X10_carry_k0 X l O28 (by omega)) dX10_carryAll_115 rfl kX10_carry lk_X10_196 rfl O28 (by decide) rfl (Nat.le_of_ble_eq_true rfl) (fun v_19 h_19 qh_19 => ?_)
      obtain ⟨rfl, n0h_19, eh_19⟩ := qh_19
      replace O28 := n0h_19
      replace hf : ∀ i, i ≠ 28 → h_19 i = h i := fun i g0 => (eh_19 i g0).trans (hf i g0)
      rw [hk (4 + i * 4 + 1 + 1) (by omega), show enc y (4 + i * 4 + 1 + 1) = y.1 (i * 4 + 2) from enc_l y (k := i * 4 + 2) (by omega)]
      refine T_X10_2 119 dX10_carryAll_118 rfl O28 (by first | assumption | exact ix_nI (by omega) (by decide) | exact ix_lit _ rfl (by omega) (by decide) | exact ix_lit _ rfl (by decide) (by decide)) (fun h_20 nh_20 eh_20 => ?_)
      replace O28 := nh_20
      replace hf : ∀ i, i ≠ 28 → h_20 i = h i := fun i g0 => (eh_20 i g0).trans (hf i g0)
      try dsimp only at O28
      have g2 := up_eq (D := y.1) (i := i * 4 + 1 + 1) g1 (v := y.1 (i * 4 + 2)) rfl
      refine A_aload_n 120 dX10_carryAll_119 rfl rfl rfl ?_
      refine A_getfield 123 dX10_carryAll_120 rfl f_X10_19 O28 rfl ?_
      refine A_iload_n 124 dX10_carryAll_123 rfl rfl rfl ?_
      refine A_aload_n 125 dX10_carryAll_124 rfl rfl rfl ?_
      refine A_aload_n 126 dX10_carryAll_125 rfl rfl rfl ?_
      refine A_getfield 129 dX10_carryAll_126 rfl f_X10_19 O28 rfl ?_
      refine A_iload_n 130 dX10_carryAll_129 rfl rfl rfl ?_
      refine A_iaload 131 dX10_carryAll_130 rfl O28 rfl (by first | assumption | exact ix_nI (by omega) (by decide) | exact ix_lit _ rfl (by omega) (by decide) | exact ix_lit _ rfl (by decide) (by decide)) ?_
      try dsimp only
      refine A_callVI 134 (S_X10_carry_k0 X l O28 (by omega)) dX10_carryAll_131 rfl kX10_carry lk_X10_196 rfl O28 (by decide) rfl (Nat.le_of_ble_eq_true rfl) (fun v_21 h_21 qh_21 => ?_)
      obtain ⟨rfl, n0h_21, eh_21⟩ := qh_21
      replace O28 := n0h_21
      replace hf : ∀ i, i ≠ 28 → h_21 i = h i := fun i g0 => (eh_21 i g0).trans (hf i g0)
      rw [hk (4 + i * 4 + 1 + 1 + 1) (by omega), show enc y (4 + i * 4 + 1 + 1 + 1) = y.1 (i * 4 + 3) from enc_l y (k := i * 4 + 3) (by omega)]
      refine T_X10_3 135 dX10_carryAll_134 rfl O28 (by first | assumption | exact ix_nI (by omega) (by decide) | exact ix_lit _ rfl (by omega) (by decide) | exact ix_lit _ rfl (by decide) (by decide)) (fun h_22 nh_22 eh_22 => ?_)
      replace O28 := nh_22
      replace hf : ∀ i, i ≠ 28 → h_22 i = h i := fun i g0 => (eh_22 i g0).trans (hf i g0)
      try dsimp only at O28
      have g3 := up_eq (D := y.1) (i := i * 4 + 1 + 1 + 1) g2 (v := y.1 (i * 4 + 3)) rfl
      rw [show 4 + i * 4 + 1 + 1 + 1 + 1 = 4 + (i + 1) * 4 by omega] at O28
      first | refine A_iincN 138 dX10_carryAll_135 rfl rfl (by decide) (by first | exact (ast_s (ast_s (ast_1 rfl))) | exact (ast_s (ast_s ast_k))) ?_ | refine A_iinc 138 (1) dX10_carryAll_135 rfl rfl (by decide) (by decide) (by first | exact (ast_s (ast_s (ast_1 rfl))) | exact (ast_s (ast_s ast_k))) ?_
      refine A_goto 65 dX10_carryAll_138 (by decide) ?_
      exact ih n0 (Nat.lt_succ_self n0) (i + 1)  h_22 _ (by omega)  (fun j hj => g3 j (by omega)) O28 hf
  exact L65 (10) (0)  h_11 (_) (by omega)  (fun j hj => absurd hj (by omega)) O28 hf
set_option maxHeartbeats 4000000 in
set_option maxRecDepth 100000 in
theorem S_X10_carryAll_i0 (X : En) (l : Launch) {h : Hp} {cr cl : FI} {cn : Nat} {im : FI} {ch : Int32 × FI × Nat × FI × Nat} {rd : RD} {rm : RM} {kp tf : FI} {q : Nat} {rs : RS} {x : PW} {nv : Int32} {tk0 : Int32} {ki0 : AV} (O28 : h 28 = some (rB x nv (cr, cl, cn, im, ch) (rd, rm, (kp, tf, q, tk0, ki0), rs))) {y : PW} (hk : ∀ j, j < 50 → im j = enc y j) : Ct X l mX10_carryAll [aR 28 0, aR 28 14, aI 0] h (QV (PV1 h (28) (rB y nv (cr, cl, cn, im, ch) (rd, rm, (kp, tf, 50, 0, (aR 28 14)), rs)))) := by
  have hf : ∀ i, i ≠ 28 → h i = h i := fun _ _ => rfl
  refine Ct.intro [some (aR 28 0), some (aR 28 14), some (aI 0), none] (by decide +kernel) rfl (Nat.le_of_ble_eq_true rfl) ?_
  refine A_aload_n 1 dX10_carryAll_0 rfl rfl rfl ?_
  refine A_aload_n 2 dX10_carryAll_1 rfl rfl rfl ?_
  refine P_X10_27 5 dX10_carryAll_2 rfl fw_X10_190 O28 (fun h_1 nh_1 eh_1 => ?_)
  replace O28 := nh_1
  replace hf : ∀ i, i ≠ 28 → h_1 i = h i := fun i g0 => (eh_1 i g0).trans (hf i g0)
  try dsimp only at O28
  refine A_aload_n 6 dX10_carryAll_5 rfl rfl rfl ?_
  refine A_iload_n 7 dX10_carryAll_6 rfl rfl rfl ?_
  refine P_X10_26 10 dX10_carryAll_7 rfl fw_X10_187 O28 (by first | with_reducible exact bI01 _ | with_reducible exact Or.inl rfl | with_reducible exact Or.inr rfl | assumption) (fun h_2 nh_2 eh_2 => ?_)
  replace O28 := nh_2
  replace hf : ∀ i, i ≠ 28 → h_2 i = h i := fun i g0 => (eh_2 i g0).trans (hf i g0)
  try dsimp only at O28
  refine A_aload_n 11 dX10_carryAll_10 rfl rfl rfl ?_
  refine A_iconst 12 (0) dX10_carryAll_11 rfl (by decide) ?_
  refine P_X10_25 15 dX10_carryAll_12 rfl fw_X10_193 O28 (fun h_3 nh_3 eh_3 => ?_)
  replace O28 := nh_3
  replace hf : ∀ i, i ≠ 28 → h_3 i = h i := fun i g0 => (eh_3 i g0).trans (hf i g0)
  try dsimp only at O28
  refine A_aload_n 16 dX10_carryAll_15 rfl rfl rfl ?_
  refine A_aload_n 17 dX10_carryAll_16 rfl rfl rfl ?_
  refine A_aload_n 18 dX10_carryAll_17 rfl rfl rfl ?_
  refine A_getfield 21 dX10_carryAll_18 rfl f_X10_88 O28 rfl ?_
  try dsimp only
  refine A_callVI 24 (S_X10_carry_i0 X l O28 (by omega)) dX10_carryAll_21 rfl kX10_carry lk_X10_196 rfl O28 (by decide) rfl (Nat.le_of_ble_eq_true rfl) (fun v_4 h_4 qh_4 => ?_)
  obtain ⟨rfl, n0h_4, eh_4⟩ := qh_4
  replace O28 := n0h_4
  replace hf : ∀ i, i ≠ 28 → h_4 i = h i := fun i g0 => (eh_4 i g0).trans (hf i g0)
  rw [hk (0) (by omega), enc_0]
  refine P_X10_0 27 dX10_carryAll_24 rfl fw_X10_88 O28 (fun h_5 nh_5 eh_5 => ?_)
  replace O28 := nh_5
  replace hf : ∀ i, i ≠ 28 → h_5 i = h i := fun i g0 => (eh_5 i g0).trans (hf i g0)
  try dsimp only at O28
  refine A_aload_n 28 dX10_carryAll_27 rfl rfl rfl ?_
  refine A_aload_n 29 dX10_carryAll_28 rfl rfl rfl ?_
  refine A_aload_n 30 dX10_carryAll_29 rfl rfl rfl ?_
  refine A_getfield 33 dX10_carryAll_30 rfl f_X10_81 O28 rfl ?_
  try dsimp only
  refine A_callVI 36 (S_X10_carry_i0 X l O28 (by omega)) dX10_carryAll_33 rfl kX10_carry lk_X10_196 rfl O28 (by decide) rfl (Nat.le_of_ble_eq_true rfl) (fun v_6 h_6 qh_6 => ?_)
  obtain ⟨rfl, n0h_6, eh_6⟩ := qh_6
  replace O28 := n0h_6
  replace hf : ∀ i, i ≠ 28 → h_6 i = h i := fun i g0 => (eh_6 i g0).trans (hf i g0)
  rw [hk (0 + 1) (by omega), show enc y (0 + 1) = nI y.2.2.2.1 from rfl]
  refine P_X10_5 39 dX10_carryAll_36 rfl fw_X10_81 O28 (fun h_7 nh_7 eh_7 => ?_)
  replace O28 := nh_7
  replace hf : ∀ i, i ≠ 28 → h_7 i = h i := fun i g0 => (eh_7 i g0).trans (hf i g0)
  try dsimp only at O28
  refine A_aload_n 40 dX10_carryAll_39 rfl rfl rfl ?_
  refine A_aload_n 41 dX10_carryAll_40 rfl rfl rfl ?_
  refine A_aload_n 42 dX10_carryAll_41 rfl rfl rfl ?_
  refine A_getfield 45 dX10_carryAll_42 rfl f_X10_97 O28 rfl ?_
  try dsimp only
  refine A_callVI 48 (S_X10_carry_i0 X l O28 (by omega)) dX10_carryAll_45 rfl kX10_carry lk_X10_196 rfl O28 (by decide) rfl (Nat.le_of_ble_eq_true rfl) (fun v_8 h_8 qh_8 => ?_)
  obtain ⟨rfl, n0h_8, eh_8⟩ := qh_8
  replace O28 := n0h_8
  replace hf : ∀ i, i ≠ 28 → h_8 i = h i := fun i g0 => (eh_8 i g0).trans (hf i g0)
  rw [hk (0 + 1 + 1) (by omega), show enc y (0 + 1 + 1) = y.2.2.2.2.1 from rfl]
  refine P_X10_7 51 dX10_carryAll_48 rfl fw_X10_97 O28 (fun h_9 nh_9 eh_9 => ?_)
  replace O28 := nh_9
  replace hf : ∀ i, i ≠ 28 → h_9 i = h i := fun i g0 => (eh_9 i g0).trans (hf i g0)
  try dsimp only at O28
  refine A_aload_n 52 dX10_carryAll_51 rfl rfl rfl ?_
  refine A_aload_n 53 dX10_carryAll_52 rfl rfl rfl ?_
  refine A_aload_n 54 dX10_carryAll_53 rfl rfl rfl ?_
  refine A_getfield 57 dX10_carryAll_54 rfl f_X10_118 O28 rfl ?_
  try dsimp only
  refine A_callVI 60 (S_X10_carry_i0 X l O28 (by omega)) dX10_carryAll_57 rfl kX10_carry lk_X10_196 rfl O28 (by decide) rfl (Nat.le_of_ble_eq_true rfl) (fun v_10 h_10 qh_10 => ?_)
  obtain ⟨rfl, n0h_10, eh_10⟩ := qh_10
  replace O28 := n0h_10
  replace hf : ∀ i, i ≠ 28 → h_10 i = h i := fun i g0 => (eh_10 i g0).trans (hf i g0)
  rw [hk (0 + 1 + 1 + 1) (by omega), show enc y (0 + 1 + 1 + 1) = y.2.2.2.2.2 from rfl]
  refine P_X10_8 63 dX10_carryAll_60 rfl fw_X10_118 O28 (fun h_11 nh_11 eh_11 => ?_)
  replace O28 := nh_11
  replace hf : ∀ i, i ≠ 28 → h_11 i = h i := fun i g0 => (eh_11 i g0).trans (hf i g0)
  try dsimp only at O28
  refine A_iconst 64 (0) dX10_carryAll_63 rfl (by decide) ?_
  refine A_istore_n 65 dX10_carryAll_64 rfl rfl (by decide) (by first | exact (ast_s (ast_s (ast_1 rfl))) | exact (ast_s (ast_s ast_k))) ?_
  have L65 : ∀ (nq i : Nat)  (g65 : Hp) (w0 : FI), (nq + i = 10) → (∀ j, j < i * 4 → w0 j = y.1 j) → (g65 28 = some (rB (w0, x.2.1, y.2.2) nv (cr, cl, cn, im, ch) (rd, rm, (kp, tf, (4 + i * 4), 0, (aR 28 14)), rs))) → (∀ i, i ≠ 28 → g65 i = h i) → Av X l mX10_carryAll 65 [some (aR 28 0), some ((aR 28 14)), some (aI (0)), some (aI (nI (i)))] [] g65 (QV (PV1 h (28) (rB y nv (cr, cl, cn, im, ch) (rd, rm, (kp, tf, 50, 0, (aR 28 14)), rs)))) := by
    intro nq
    induction nq using Nat.strongRecOn with
    | _ nq ih =>
    intro i g65 w0 en hy O28 hf
    refine A_iload_n 66 dX10_carryAll_65 rfl rfl rfl ?_
    refine A_bipush 68 (10) dX10_carryAll_66 rfl (by decide) ?_
    refine A_icmp_ge 141 71 dX10_carryAll_68 (by decide) rfl (fun c68 => ?_) (fun c68 => ?_)
    · skip
      obtain rfl := (up_ge_T (N := 10) c68 rfl (by omega) (by omega)).symm
      have hw := hy
      refine A_iconst 142 (0) dX10_carryAll_141 rfl (by decide) ?_
      refine A_istore_n 143 dX10_carryAll_142 rfl rfl (by decide) (by first | exact (ast_s (ast_s (ast_1 rfl))) | exact (ast_s (ast_s ast_k))) ?_
      have L143 : ∀ (nqb i : Nat)  (g143 : Hp) (w1 : FI), (nqb + i = 6) → (∀ j, j < i → w1 j = y.2.1 j) → (g143 28 = some (rB (w0, w1, y.2.2) nv (cr, cl, cn, im, ch) (rd, rm, (kp, tf, (44 + i), 0, (aR 28 14)), rs))) → (∀ i, i ≠ 28 → g143 i = h i) → Av X l mX10_carryAll 143 [some (aR 28 0), some ((aR 28 14)), some (aI (0)), some (aI (nI (i)))] [] g143 (QV (PV1 h (28) (rB y nv (cr, cl, cn, im, ch) (rd, rm, (kp, tf, 50, 0, (aR 28 14)), rs)))) := by
        intro nqb
        induction nqb using Nat.strongRecOn with
        | _ nqb ihb =>
        intro i g143 w1 enb hyb O28 hf
        refine A_iload_n 144 dX10_carryAll_143 rfl rfl rfl ?_
        refine A_bipush 146 (6) dX10_carryAll_144 rfl (by decide) ?_
        refine A_icmp_ge 171 149 dX10_carryAll_146 (by decide) rfl (fun c146 => ?_) (fun c146 => ?_)
        · skip
          obtain rfl := (up_ge_T (N := 6) c146 rfl (by omega) (by omega)).symm
          refine Av.extR (y := y) O28 rfl hw hyb (fun h_12 nh_12 eh_12 => ?_)
          replace O28 := nh_12
          replace hf : ∀ i, i ≠ 28 → h_12 i = h i := fun i g0 => (eh_12 i g0).trans (hf i g0)
          refine A_vret dX10_carryAll_171 rfl ⟨rfl, O28, hf⟩
        · skip
          have hib := up_ge_F (N := 6) c146 rfl (by omega) (by omega)
          obtain ⟨n0b, rfl⟩ : ∃ q, nqb = q + 1 := ⟨nqb - 1, by omega⟩
          refine A_aload_n 150 dX10_carryAll_149 rfl rfl rfl ?_
          refine A_getfield 153 dX10_carryAll_150 rfl f_X10_22 O28 rfl ?_
          refine A_iload_n 154 dX10_carryAll_153 rfl rfl rfl ?_
          refine A_aload_n 155 dX10_carryAll_154 rfl rfl rfl ?_
          refine A_aload_n 156 dX10_carryAll_155 rfl rfl rfl ?_
          refine A_getfield 159 dX10_carryAll_156 rfl f_X10_22 O28 rfl ?_
          refine A_iload_n 160 dX10_carryAll_159 rfl rfl rfl ?_
          refine A_iaload 161 dX10_carryAll_160 rfl O28 rfl (by first | assumption | exact ix_nI (by omega) (by decide) | exact ix_lit _ rfl (by omega) (by decide) | exact ix_lit _ rfl (by decide) (by decide)) ?_
          try dsimp only
          refine A_callVI 164 (S_X10_carry_i0 X l O28 (by omega)) dX10_carryAll_161 rfl kX10_carry lk_X10_196 rfl O28 (by decide) rfl (Nat.le_of_ble_eq_true rfl) (fun v_13 h_13 qh_13 => ?_)
          obtain ⟨rfl, n0h_13, eh_13⟩ := qh_13
          replace O28 := n0h_13
          replace hf : ∀ i, i ≠ 28 → h_13 i = h i := fun i g0 => (eh_13 i g0).trans (hf i g0)
          rw [hk (44 + i) (by omega), enc_p y (k := i) (by omega)]
          refine T_X10_4 165 dX10_carryAll_164 rfl O28 (by first | assumption | exact ix_nI (by omega) (by decide) | exact ix_lit _ rfl (by omega) (by decide) | exact ix_lit _ rfl (by decide) (by decide)) (fun h_14 nh_14 eh_14 => ?_)
          replace O28 := nh_14
          replace hf : ∀ i, i ≠ 28 → h_14 i = h i := fun i g0 => (eh_14 i g0).trans (hf i g0)
          try dsimp only at O28
          have g5 := up_eq (D := y.2.1) (i := i) hyb (v := y.2.1 i) rfl
          first | refine A_iincN 168 dX10_carryAll_165 rfl rfl (by decide) (by first | exact (ast_s (ast_s (ast_1 rfl))) | exact (ast_s (ast_s ast_k))) ?_ | refine A_iinc 168 (1) dX10_carryAll_165 rfl rfl (by decide) (by decide) (by first | exact (ast_s (ast_s (ast_1 rfl))) | exact (ast_s (ast_s ast_k))) ?_
          refine A_goto 143 dX10_carryAll_168 (by decide) ?_
          exact ihb n0b (Nat.lt_succ_self n0b) (i + 1)  h_14 _ (by omega)  (g5) O28 hf
      exact L143 (6) (0)  g65 (_) (by omega)  (fun j hj => absurd hj (Nat.not_lt_zero j)) O28 hf
    · skip
      have hi := up_ge_F (N := 10) c68 rfl (by omega) (by omega)
      obtain ⟨n0, rfl⟩ : ∃ q, nq = q + 1 := ⟨nq - 1, by omega⟩
      refine A_aload_n 72 dX10_carryAll_71 rfl rfl rfl ?_
      refine A_getfield 75 dX10_carryAll_72 rfl f_X10_7 O28 rfl ?_
      refine A_iload_n 76 dX10_carryAll_75 rfl rfl rfl ?_
      refine A_aload_n 77 dX10_carryAll_76 rfl rfl rfl ?_
      refine A_aload_n 78 dX10_carryAll_77 rfl rfl rfl ?_
      refine A_getfield 81 dX10_carryAll_78 rfl f_X10_7 O28 rfl ?_
      refine A_iload_n 82 dX10_carryAll_81 rfl rfl rfl ?_
      refine A_iaload 83 dX10_carryAll_82 rfl O28 rfl (by first | assumption | exact ix_nI (by omega) (by decide) | exact ix_lit _ rfl (by omega) (by decide) | exact ix_lit _ rfl (by decide) (by decide)) ?_
      try dsimp only
      refine A_callVI 86 (S_X10_carry_i0 X l O28 (by omega)) dX10_carryAll_83 rfl kX10_carry lk_X10_196 rfl O28 (by decide) rfl (Nat.le_of_ble_eq_true rfl) (fun v_15 h_15 qh_15 => ?_)
      obtain ⟨rfl, n0h_15, eh_15⟩ := qh_15
      replace O28 := n0h_15
      replace hf : ∀ i, i ≠ 28 → h_15 i = h i := fun i g0 => (eh_15 i g0).trans (hf i g0)
      rw [hk (4 + i * 4) (by omega), show enc y (4 + i * 4) = y.1 (i * 4 + 0) from enc_l y (k := i * 4 + 0) (by omega)]
      refine T_X10_0 87 dX10_carryAll_86 rfl O28 (by first | assumption | exact ix_nI (by omega) (by decide) | exact ix_lit _ rfl (by omega) (by decide) | exact ix_lit _ rfl (by decide) (by decide)) (fun h_16 nh_16 eh_16 => ?_)
      replace O28 := nh_16
      replace hf : ∀ i, i ≠ 28 → h_16 i = h i := fun i g0 => (eh_16 i g0).trans (hf i g0)
      try dsimp only at O28
      have g0 := up_eq (D := y.1) (i := i * 4) hy (v := y.1 (i * 4 + 0)) rfl
      refine A_aload_n 88 dX10_carryAll_87 rfl rfl rfl ?_
      refine A_getfield 91 dX10_carryAll_88 rfl f_X10_13 O28 rfl ?_
      refine A_iload_n 92 dX10_carryAll_91 rfl rfl rfl ?_
      refine A_aload_n 93 dX10_carryAll_92 rfl rfl rfl ?_
      refine A_aload_n 94 dX10_carryAll_93 rfl rfl rfl ?_
      refine A_getfield 97 dX10_carryAll_94 rfl f_X10_13 O28 rfl ?_
      refine A_iload_n 98 dX10_carryAll_97 rfl rfl rfl ?_
      refine A_iaload 99 dX10_carryAll_98 rfl O28 rfl (by first | assumption | exact ix_nI (by omega) (by decide) | exact ix_lit _ rfl (by omega) (by decide) | exact ix_lit _ rfl (by decide) (by decide)) ?_
      try dsimp only
      refine A_callVI 102 (S_X10_carry_i0 X l O28 (by omega)) dX10_carryAll_99 rfl kX10_carry lk_X10_196 rfl O28 (by decide) rfl (Nat.le_of_ble_eq_true rfl) (fun v_17 h_17 qh_17 => ?_)
      obtain ⟨rfl, n0h_17, eh_17⟩ := qh_17
      replace O28 := n0h_17
      replace hf : ∀ i, i ≠ 28 → h_17 i = h i := fun i g0 => (eh_17 i g0).trans (hf i g0)
      rw [hk (4 + i * 4 + 1) (by omega), show enc y (4 + i * 4 + 1) = y.1 (i * 4 + 1) from enc_l y (k := i * 4 + 1) (by omega)]
      refine T_X10_1 103 dX10_carryAll_102 rfl O28 (by first | assumption | exact ix_nI (by omega) (by decide) | exact ix_lit _ rfl (by omega) (by decide) | exact ix_lit _ rfl (by decide) (by decide)) (fun h_18 nh_18 eh_18 => ?_)
      replace O28 := nh_18
      replace hf : ∀ i, i ≠ 28 → h_18 i = h i := fun i g0 => (eh_18 i g0).trans (hf i g0)
      try dsimp only at O28
      have g1 := up_eq (D := y.1) (i := i * 4 + 1) g0 (v := y.1 (i * 4 + 1)) rfl
      refine A_aload_n 104 dX10_carryAll_103 rfl rfl rfl ?_
      refine A_getfield 107 dX10_carryAll_104 rfl f_X10_16 O28 rfl ?_
      refine A_iload_n 108 dX10_carryAll_107 rfl rfl rfl ?_
      refine A_aload_n 109 dX10_carryAll_108 rfl rfl rfl ?_
      refine A_aload_n 110 dX10_carryAll_109 rfl rfl rfl ?_
      refine A_getfield 113 dX10_carryAll_110 rfl f_X10_16 O28 rfl ?_
      refine A_iload_n 114 dX10_carryAll_113 rfl rfl rfl ?_
      refine A_iaload 115 dX10_carryAll_114 rfl O28 rfl (by first | assumption | exact ix_nI (by omega) (by decide) | exact ix_lit _ rfl (by omega) (by decide) | exact ix_lit _ rfl (by decide) (by decide)) ?_
      try dsimp only
      refine A_callVI 118 (S_X10_carry_i0 X l O28 (by omega)) dX10_carryAll_115 rfl kX10_carry lk_X10_196 rfl O28 (by decide) rfl (Nat.le_of_ble_eq_true rfl) (fun v_19 h_19 qh_19 => ?_)
      obtain ⟨rfl, n0h_19, eh_19⟩ := qh_19
      replace O28 := n0h_19
      replace hf : ∀ i, i ≠ 28 → h_19 i = h i := fun i g0 => (eh_19 i g0).trans (hf i g0)
      rw [hk (4 + i * 4 + 1 + 1) (by omega), show enc y (4 + i * 4 + 1 + 1) = y.1 (i * 4 + 2) from enc_l y (k := i * 4 + 2) (by omega)]
      refine T_X10_2 119 dX10_carryAll_118 rfl O28 (by first | assumption | exact ix_nI (by omega) (by decide) | exact ix_lit _ rfl (by omega) (by decide) | exact ix_lit _ rfl (by decide) (by decide)) (fun h_20 nh_20 eh_20 => ?_)
      replace O28 := nh_20
      replace hf : ∀ i, i ≠ 28 → h_20 i = h i := fun i g0 => (eh_20 i g0).trans (hf i g0)
      try dsimp only at O28
      have g2 := up_eq (D := y.1) (i := i * 4 + 1 + 1) g1 (v := y.1 (i * 4 + 2)) rfl
      refine A_aload_n 120 dX10_carryAll_119 rfl rfl rfl ?_
      refine A_getfield 123 dX10_carryAll_120 rfl f_X10_19 O28 rfl ?_
      refine A_iload_n 124 dX10_carryAll_123 rfl rfl rfl ?_
      refine A_aload_n 125 dX10_carryAll_124 rfl rfl rfl ?_
      refine A_aload_n 126 dX10_carryAll_125 rfl rfl rfl ?_
      refine A_getfield 129 dX10_carryAll_126 rfl f_X10_19 O28 rfl ?_
      refine A_iload_n 130 dX10_carryAll_129 rfl rfl rfl ?_
      refine A_iaload 131 dX10_carryAll_130 rfl O28 rfl (by first | assumption | exact ix_nI (by omega) (by decide) | exact ix_lit _ rfl (by omega) (by decide) | exact ix_lit _ rfl (by decide) (by decide)) ?_
      try dsimp only
      refine A_callVI 134 (S_X10_carry_i0 X l O28 (by omega)) dX10_carryAll_131 rfl kX10_carry lk_X10_196 rfl O28 (by decide) rfl (Nat.le_of_ble_eq_true rfl) (fun v_21 h_21 qh_21 => ?_)
      obtain ⟨rfl, n0h_21, eh_21⟩ := qh_21
      replace O28 := n0h_21
      replace hf : ∀ i, i ≠ 28 → h_21 i = h i := fun i g0 => (eh_21 i g0).trans (hf i g0)
      rw [hk (4 + i * 4 + 1 + 1 + 1) (by omega), show enc y (4 + i * 4 + 1 + 1 + 1) = y.1 (i * 4 + 3) from enc_l y (k := i * 4 + 3) (by omega)]
      refine T_X10_3 135 dX10_carryAll_134 rfl O28 (by first | assumption | exact ix_nI (by omega) (by decide) | exact ix_lit _ rfl (by omega) (by decide) | exact ix_lit _ rfl (by decide) (by decide)) (fun h_22 nh_22 eh_22 => ?_)
      replace O28 := nh_22
      replace hf : ∀ i, i ≠ 28 → h_22 i = h i := fun i g0 => (eh_22 i g0).trans (hf i g0)
      try dsimp only at O28
      have g3 := up_eq (D := y.1) (i := i * 4 + 1 + 1 + 1) g2 (v := y.1 (i * 4 + 3)) rfl
      rw [show 4 + i * 4 + 1 + 1 + 1 + 1 = 4 + (i + 1) * 4 by omega] at O28
      first | refine A_iincN 138 dX10_carryAll_135 rfl rfl (by decide) (by first | exact (ast_s (ast_s (ast_1 rfl))) | exact (ast_s (ast_s ast_k))) ?_ | refine A_iinc 138 (1) dX10_carryAll_135 rfl rfl (by decide) (by decide) (by first | exact (ast_s (ast_s (ast_1 rfl))) | exact (ast_s (ast_s ast_k))) ?_
      refine A_goto 65 dX10_carryAll_138 (by decide) ?_
      exact ih n0 (Nat.lt_succ_self n0) (i + 1)  h_22 _ (by omega)  (fun j hj => g3 j (by omega)) O28 hf
  exact L65 (10) (0)  h_11 (_) (by omega)  (fun j hj => absurd hj (by omega)) O28 hf
set_option maxHeartbeats 4000000 in
set_option maxRecDepth 100000 in
theorem S_X10_carryAll_t0 (X : En) (l : Launch) {h : Hp} {cr cl : FI} {cn : Nat} {im : FI} {ch : Int32 × FI × Nat × FI × Nat} {rd : RD} {rm : RM} {kp tf : FI} {q : Nat} {rs : RS} {x : PW} {nv : Int32} {tk0 : Int32} {ki0 : AV} (O28 : h 28 = some (rB x nv (cr, cl, cn, im, ch) (rd, rm, (kp, tf, q, tk0, ki0), rs))) {y : PW} (hk : ∀ j, j < 50 → tf j = enc y j) : Ct X l mX10_carryAll [aR 28 0, aR 28 16, aI 0] h (QV (PV1 h (28) (rB y nv (cr, cl, cn, im, ch) (rd, rm, (kp, tf, 50, 0, (aR 28 16)), rs)))) := by
  have hf : ∀ i, i ≠ 28 → h i = h i := fun _ _ => rfl
  refine Ct.intro [some (aR 28 0), some (aR 28 16), some (aI 0), none] (by decide +kernel) rfl (Nat.le_of_ble_eq_true rfl) ?_
  refine A_aload_n 1 dX10_carryAll_0 rfl rfl rfl ?_
  refine A_aload_n 2 dX10_carryAll_1 rfl rfl rfl ?_
  refine P_X10_27 5 dX10_carryAll_2 rfl fw_X10_190 O28 (fun h_1 nh_1 eh_1 => ?_)
  replace O28 := nh_1
  replace hf : ∀ i, i ≠ 28 → h_1 i = h i := fun i g0 => (eh_1 i g0).trans (hf i g0)
  try dsimp only at O28
  refine A_aload_n 6 dX10_carryAll_5 rfl rfl rfl ?_
  refine A_iload_n 7 dX10_carryAll_6 rfl rfl rfl ?_
  refine P_X10_26 10 dX10_carryAll_7 rfl fw_X10_187 O28 (by first | with_reducible exact bI01 _ | with_reducible exact Or.inl rfl | with_reducible exact Or.inr rfl | assumption) (fun h_2 nh_2 eh_2 => ?_)
  replace O28 := nh_2
  replace hf : ∀ i, i ≠ 28 → h_2 i = h i := fun i g0 => (eh_2 i g0).trans (hf i g0)
  try dsimp only at O28
  refine A_aload_n 11 dX10_carryAll_10 rfl rfl rfl ?_
  refine A_iconst 12 (0) dX10_carryAll_11 rfl (by decide) ?_
  refine P_X10_25 15 dX10_carryAll_12 rfl fw_X10_193 O28 (fun h_3 nh_3 eh_3 => ?_)
  replace O28 := nh_3
  replace hf : ∀ i, i ≠ 28 → h_3 i = h i := fun i g0 => (eh_3 i g0).trans (hf i g0)
  try dsimp only at O28
  refine A_aload_n 16 dX10_carryAll_15 rfl rfl rfl ?_
  refine A_aload_n 17 dX10_carryAll_16 rfl rfl rfl ?_
  refine A_aload_n 18 dX10_carryAll_17 rfl rfl rfl ?_
  refine A_getfield 21 dX10_carryAll_18 rfl f_X10_88 O28 rfl ?_
  try dsimp only
  refine A_callVI 24 (S_X10_carry_t0 X l O28 (by omega)) dX10_carryAll_21 rfl kX10_carry lk_X10_196 rfl O28 (by decide) rfl (Nat.le_of_ble_eq_true rfl) (fun v_4 h_4 qh_4 => ?_)
  obtain ⟨rfl, n0h_4, eh_4⟩ := qh_4
  replace O28 := n0h_4
  replace hf : ∀ i, i ≠ 28 → h_4 i = h i := fun i g0 => (eh_4 i g0).trans (hf i g0)
  rw [hk (0) (by omega), enc_0]
  refine P_X10_0 27 dX10_carryAll_24 rfl fw_X10_88 O28 (fun h_5 nh_5 eh_5 => ?_)
  replace O28 := nh_5
  replace hf : ∀ i, i ≠ 28 → h_5 i = h i := fun i g0 => (eh_5 i g0).trans (hf i g0)
  try dsimp only at O28
  refine A_aload_n 28 dX10_carryAll_27 rfl rfl rfl ?_
  refine A_aload_n 29 dX10_carryAll_28 rfl rfl rfl ?_
  refine A_aload_n 30 dX10_carryAll_29 rfl rfl rfl ?_
  refine A_getfield 33 dX10_carryAll_30 rfl f_X10_81 O28 rfl ?_
  try dsimp only
  refine A_callVI 36 (S_X10_carry_t0 X l O28 (by omega)) dX10_carryAll_33 rfl kX10_carry lk_X10_196 rfl O28 (by decide) rfl (Nat.le_of_ble_eq_true rfl) (fun v_6 h_6 qh_6 => ?_)
  obtain ⟨rfl, n0h_6, eh_6⟩ := qh_6
  replace O28 := n0h_6
  replace hf : ∀ i, i ≠ 28 → h_6 i = h i := fun i g0 => (eh_6 i g0).trans (hf i g0)
  rw [hk (0 + 1) (by omega), show enc y (0 + 1) = nI y.2.2.2.1 from rfl]
  refine P_X10_5 39 dX10_carryAll_36 rfl fw_X10_81 O28 (fun h_7 nh_7 eh_7 => ?_)
  replace O28 := nh_7
  replace hf : ∀ i, i ≠ 28 → h_7 i = h i := fun i g0 => (eh_7 i g0).trans (hf i g0)
  try dsimp only at O28
  refine A_aload_n 40 dX10_carryAll_39 rfl rfl rfl ?_
  refine A_aload_n 41 dX10_carryAll_40 rfl rfl rfl ?_
  refine A_aload_n 42 dX10_carryAll_41 rfl rfl rfl ?_
  refine A_getfield 45 dX10_carryAll_42 rfl f_X10_97 O28 rfl ?_
  try dsimp only
  refine A_callVI 48 (S_X10_carry_t0 X l O28 (by omega)) dX10_carryAll_45 rfl kX10_carry lk_X10_196 rfl O28 (by decide) rfl (Nat.le_of_ble_eq_true rfl) (fun v_8 h_8 qh_8 => ?_)
  obtain ⟨rfl, n0h_8, eh_8⟩ := qh_8
  replace O28 := n0h_8
  replace hf : ∀ i, i ≠ 28 → h_8 i = h i := fun i g0 => (eh_8 i g0).trans (hf i g0)
  rw [hk (0 + 1 + 1) (by omega), show enc y (0 + 1 + 1) = y.2.2.2.2.1 from rfl]
  refine P_X10_7 51 dX10_carryAll_48 rfl fw_X10_97 O28 (fun h_9 nh_9 eh_9 => ?_)
  replace O28 := nh_9
  replace hf : ∀ i, i ≠ 28 → h_9 i = h i := fun i g0 => (eh_9 i g0).trans (hf i g0)
  try dsimp only at O28
  refine A_aload_n 52 dX10_carryAll_51 rfl rfl rfl ?_
  refine A_aload_n 53 dX10_carryAll_52 rfl rfl rfl ?_
  refine A_aload_n 54 dX10_carryAll_53 rfl rfl rfl ?_
  refine A_getfield 57 dX10_carryAll_54 rfl f_X10_118 O28 rfl ?_
  try dsimp only
  refine A_callVI 60 (S_X10_carry_t0 X l O28 (by omega)) dX10_carryAll_57 rfl kX10_carry lk_X10_196 rfl O28 (by decide) rfl (Nat.le_of_ble_eq_true rfl) (fun v_10 h_10 qh_10 => ?_)
  obtain ⟨rfl, n0h_10, eh_10⟩ := qh_10
  replace O28 := n0h_10
  replace hf : ∀ i, i ≠ 28 → h_10 i = h i := fun i g0 => (eh_10 i g0).trans (hf i g0)
  rw [hk (0 + 1 + 1 + 1) (by omega), show enc y (0 + 1 + 1 + 1) = y.2.2.2.2.2 from rfl]
  refine P_X10_8 63 dX10_carryAll_60 rfl fw_X10_118 O28 (fun h_11 nh_11 eh_11 => ?_)
  replace O28 := nh_11
  replace hf : ∀ i, i ≠ 28 → h_11 i = h i := fun i g0 => (eh_11 i g0).trans (hf i g0)
  try dsimp only at O28
  refine A_iconst 64 (0) dX10_carryAll_63 rfl (by decide) ?_
  refine A_istore_n 65 dX10_carryAll_64 rfl rfl (by decide) (by first | exact (ast_s (ast_s (ast_1 rfl))) | exact (ast_s (ast_s ast_k))) ?_
  have L65 : ∀ (nq i : Nat)  (g65 : Hp) (w0 : FI), (nq + i = 10) → (∀ j, j < i * 4 → w0 j = y.1 j) → (g65 28 = some (rB (w0, x.2.1, y.2.2) nv (cr, cl, cn, im, ch) (rd, rm, (kp, tf, (4 + i * 4), 0, (aR 28 16)), rs))) → (∀ i, i ≠ 28 → g65 i = h i) → Av X l mX10_carryAll 65 [some (aR 28 0), some ((aR 28 16)), some (aI (0)), some (aI (nI (i)))] [] g65 (QV (PV1 h (28) (rB y nv (cr, cl, cn, im, ch) (rd, rm, (kp, tf, 50, 0, (aR 28 16)), rs)))) := by
    intro nq
    induction nq using Nat.strongRecOn with
    | _ nq ih =>
    intro i g65 w0 en hy O28 hf
    refine A_iload_n 66 dX10_carryAll_65 rfl rfl rfl ?_
    refine A_bipush 68 (10) dX10_carryAll_66 rfl (by decide) ?_
    refine A_icmp_ge 141 71 dX10_carryAll_68 (by decide) rfl (fun c68 => ?_) (fun c68 => ?_)
    · skip
      obtain rfl := (up_ge_T (N := 10) c68 rfl (by omega) (by omega)).symm
      have hw := hy
      refine A_iconst 142 (0) dX10_carryAll_141 rfl (by decide) ?_
      refine A_istore_n 143 dX10_carryAll_142 rfl rfl (by decide) (by first | exact (ast_s (ast_s (ast_1 rfl))) | exact (ast_s (ast_s ast_k))) ?_
      have L143 : ∀ (nqb i : Nat)  (g143 : Hp) (w1 : FI), (nqb + i = 6) → (∀ j, j < i → w1 j = y.2.1 j) → (g143 28 = some (rB (w0, w1, y.2.2) nv (cr, cl, cn, im, ch) (rd, rm, (kp, tf, (44 + i), 0, (aR 28 16)), rs))) → (∀ i, i ≠ 28 → g143 i = h i) → Av X l mX10_carryAll 143 [some (aR 28 0), some ((aR 28 16)), some (aI (0)), some (aI (nI (i)))] [] g143 (QV (PV1 h (28) (rB y nv (cr, cl, cn, im, ch) (rd, rm, (kp, tf, 50, 0, (aR 28 16)), rs)))) := by
        intro nqb
        induction nqb using Nat.strongRecOn with
        | _ nqb ihb =>
        intro i g143 w1 enb hyb O28 hf
        refine A_iload_n 144 dX10_carryAll_143 rfl rfl rfl ?_
        refine A_bipush 146 (6) dX10_carryAll_144 rfl (by decide) ?_
        refine A_icmp_ge 171 149 dX10_carryAll_146 (by decide) rfl (fun c146 => ?_) (fun c146 => ?_)
        · skip
          obtain rfl := (up_ge_T (N := 6) c146 rfl (by omega) (by omega)).symm
          refine Av.extR (y := y) O28 rfl hw hyb (fun h_12 nh_12 eh_12 => ?_)
          replace O28 := nh_12
          replace hf : ∀ i, i ≠ 28 → h_12 i = h i := fun i g0 => (eh_12 i g0).trans (hf i g0)
          refine A_vret dX10_carryAll_171 rfl ⟨rfl, O28, hf⟩
        · skip
          have hib := up_ge_F (N := 6) c146 rfl (by omega) (by omega)
          obtain ⟨n0b, rfl⟩ : ∃ q, nqb = q + 1 := ⟨nqb - 1, by omega⟩
          refine A_aload_n 150 dX10_carryAll_149 rfl rfl rfl ?_
          refine A_getfield 153 dX10_carryAll_150 rfl f_X10_22 O28 rfl ?_
          refine A_iload_n 154 dX10_carryAll_153 rfl rfl rfl ?_
          refine A_aload_n 155 dX10_carryAll_154 rfl rfl rfl ?_
          refine A_aload_n 156 dX10_carryAll_155 rfl rfl rfl ?_
          refine A_getfield 159 dX10_carryAll_156 rfl f_X10_22 O28 rfl ?_
          refine A_iload_n 160 dX10_carryAll_159 rfl rfl rfl ?_
          refine A_iaload 161 dX10_carryAll_160 rfl O28 rfl (by first | assumption | exact ix_nI (by omega) (by decide) | exact ix_lit _ rfl (by omega) (by decide) | exact ix_lit _ rfl (by decide) (by decide)) ?_
          try dsimp only
          refine A_callVI 164 (S_X10_carry_t0 X l O28 (by omega)) dX10_carryAll_161 rfl kX10_carry lk_X10_196 rfl O28 (by decide) rfl (Nat.le_of_ble_eq_true rfl) (fun v_13 h_13 qh_13 => ?_)
          obtain ⟨rfl, n0h_13, eh_13⟩ := qh_13
          replace O28 := n0h_13
          replace hf : ∀ i, i ≠ 28 → h_13 i = h i := fun i g0 => (eh_13 i g0).trans (hf i g0)
          rw [hk (44 + i) (by omega), enc_p y (k := i) (by omega)]
          refine T_X10_4 165 dX10_carryAll_164 rfl O28 (by first | assumption | exact ix_nI (by omega) (by decide) | exact ix_lit _ rfl (by omega) (by decide) | exact ix_lit _ rfl (by decide) (by decide)) (fun h_14 nh_14 eh_14 => ?_)
          replace O28 := nh_14
          replace hf : ∀ i, i ≠ 28 → h_14 i = h i := fun i g0 => (eh_14 i g0).trans (hf i g0)
          try dsimp only at O28
          have g5 := up_eq (D := y.2.1) (i := i) hyb (v := y.2.1 i) rfl
          first | refine A_iincN 168 dX10_carryAll_165 rfl rfl (by decide) (by first | exact (ast_s (ast_s (ast_1 rfl))) | exact (ast_s (ast_s ast_k))) ?_ | refine A_iinc 168 (1) dX10_carryAll_165 rfl rfl (by decide) (by decide) (by first | exact (ast_s (ast_s (ast_1 rfl))) | exact (ast_s (ast_s ast_k))) ?_
          refine A_goto 143 dX10_carryAll_168 (by decide) ?_
          exact ihb n0b (Nat.lt_succ_self n0b) (i + 1)  h_14 _ (by omega)  (g5) O28 hf
      exact L143 (6) (0)  g65 (_) (by omega)  (fun j hj => absurd hj (Nat.not_lt_zero j)) O28 hf
    · skip
      have hi := up_ge_F (N := 10) c68 rfl (by omega) (by omega)
      obtain ⟨n0, rfl⟩ : ∃ q, nq = q + 1 := ⟨nq - 1, by omega⟩
      refine A_aload_n 72 dX10_carryAll_71 rfl rfl rfl ?_
      refine A_getfield 75 dX10_carryAll_72 rfl f_X10_7 O28 rfl ?_
      refine A_iload_n 76 dX10_carryAll_75 rfl rfl rfl ?_
      refine A_aload_n 77 dX10_carryAll_76 rfl rfl rfl ?_
      refine A_aload_n 78 dX10_carryAll_77 rfl rfl rfl ?_
      refine A_getfield 81 dX10_carryAll_78 rfl f_X10_7 O28 rfl ?_
      refine A_iload_n 82 dX10_carryAll_81 rfl rfl rfl ?_
      refine A_iaload 83 dX10_carryAll_82 rfl O28 rfl (by first | assumption | exact ix_nI (by omega) (by decide) | exact ix_lit _ rfl (by omega) (by decide) | exact ix_lit _ rfl (by decide) (by decide)) ?_
      try dsimp only
      refine A_callVI 86 (S_X10_carry_t0 X l O28 (by omega)) dX10_carryAll_83 rfl kX10_carry lk_X10_196 rfl O28 (by decide) rfl (Nat.le_of_ble_eq_true rfl) (fun v_15 h_15 qh_15 => ?_)
      obtain ⟨rfl, n0h_15, eh_15⟩ := qh_15
      replace O28 := n0h_15
      replace hf : ∀ i, i ≠ 28 → h_15 i = h i := fun i g0 => (eh_15 i g0).trans (hf i g0)
      rw [hk (4 + i * 4) (by omega), show enc y (4 + i * 4) = y.1 (i * 4 + 0) from enc_l y (k := i * 4 + 0) (by omega)]
      refine T_X10_0 87 dX10_carryAll_86 rfl O28 (by first | assumption | exact ix_nI (by omega) (by decide) | exact ix_lit _ rfl (by omega) (by decide) | exact ix_lit _ rfl (by decide) (by decide)) (fun h_16 nh_16 eh_16 => ?_)
      replace O28 := nh_16
      replace hf : ∀ i, i ≠ 28 → h_16 i = h i := fun i g0 => (eh_16 i g0).trans (hf i g0)
      try dsimp only at O28
      have g0 := up_eq (D := y.1) (i := i * 4) hy (v := y.1 (i * 4 + 0)) rfl
      refine A_aload_n 88 dX10_carryAll_87 rfl rfl rfl ?_
      refine A_getfield 91 dX10_carryAll_88 rfl f_X10_13 O28 rfl ?_
      refine A_iload_n 92 dX10_carryAll_91 rfl rfl rfl ?_
      refine A_aload_n 93 dX10_carryAll_92 rfl rfl rfl ?_
      refine A_aload_n 94 dX10_carryAll_93 rfl rfl rfl ?_
      refine A_getfield 97 dX10_carryAll_94 rfl f_X10_13 O28 rfl ?_
      refine A_iload_n 98 dX10_carryAll_97 rfl rfl rfl ?_
      refine A_iaload 99 dX10_carryAll_98 rfl O28 rfl (by first | assumption | exact ix_nI (by omega) (by decide) | exact ix_lit _ rfl (by omega) (by decide) | exact ix_lit _ rfl (by decide) (by decide)) ?_
      try dsimp only
      refine A_callVI 102 (S_X10_carry_t0 X l O28 (by omega)) dX10_carryAll_99 rfl kX10_carry lk_X10_196 rfl O28 (by decide) rfl (Nat.le_of_ble_eq_true rfl) (fun v_17 h_17 qh_17 => ?_)
      obtain ⟨rfl, n0h_17, eh_17⟩ := qh_17
      replace O28 := n0h_17
      replace hf : ∀ i, i ≠ 28 → h_17 i = h i := fun i g0 => (eh_17 i g0).trans (hf i g0)
      rw [hk (4 + i * 4 + 1) (by omega), show enc y (4 + i * 4 + 1) = y.1 (i * 4 + 1) from enc_l y (k := i * 4 + 1) (by omega)]
      refine T_X10_1 103 dX10_carryAll_102 rfl O28 (by first | assumption | exact ix_nI (by omega) (by decide) | exact ix_lit _ rfl (by omega) (by decide) | exact ix_lit _ rfl (by decide) (by decide)) (fun h_18 nh_18 eh_18 => ?_)
      replace O28 := nh_18
      replace hf : ∀ i, i ≠ 28 → h_18 i = h i := fun i g0 => (eh_18 i g0).trans (hf i g0)
      try dsimp only at O28
      have g1 := up_eq (D := y.1) (i := i * 4 + 1) g0 (v := y.1 (i * 4 + 1)) rfl
      refine A_aload_n 104 dX10_carryAll_103 rfl rfl rfl ?_
      refine A_getfield 107 dX10_carryAll_104 rfl f_X10_16 O28 rfl ?_
      refine A_iload_n 108 dX10_carryAll_107 rfl rfl rfl ?_
      refine A_aload_n 109 dX10_carryAll_108 rfl rfl rfl ?_
      refine A_aload_n 110 dX10_carryAll_109 rfl rfl rfl ?_
      refine A_getfield 113 dX10_carryAll_110 rfl f_X10_16 O28 rfl ?_
      refine A_iload_n 114 dX10_carryAll_113 rfl rfl rfl ?_
      refine A_iaload 115 dX10_carryAll_114 rfl O28 rfl (by first | assumption | exact ix_nI (by omega) (by decide) | exact ix_lit _ rfl (by omega) (by decide) | exact ix_lit _ rfl (by decide) (by decide)) ?_
      try dsimp only
      refine A_callVI 118 (S_X10_carry_t0 X l O28 (by omega)) dX10_carryAll_115 rfl kX10_carry lk_X10_196 rfl O28 (by decide) rfl (Nat.le_of_ble_eq_true rfl) (fun v_19 h_19 qh_19 => ?_)
      obtain ⟨rfl, n0h_19, eh_19⟩ := qh_19
      replace O28 := n0h_19
      replace hf : ∀ i, i ≠ 28 → h_19 i = h i := fun i g0 => (eh_19 i g0).trans (hf i g0)
      rw [hk (4 + i * 4 + 1 + 1) (by omega), show enc y (4 + i * 4 + 1 + 1) = y.1 (i * 4 + 2) from enc_l y (k := i * 4 + 2) (by omega)]
      refine T_X10_2 119 dX10_carryAll_118 rfl O28 (by first | assumption | exact ix_nI (by omega) (by decide) | exact ix_lit _ rfl (by omega) (by decide) | exact ix_lit _ rfl (by decide) (by decide)) (fun h_20 nh_20 eh_20 => ?_)
      replace O28 := nh_20
      replace hf : ∀ i, i ≠ 28 → h_20 i = h i := fun i g0 => (eh_20 i g0).trans (hf i g0)
      try dsimp only at O28
      have g2 := up_eq (D := y.1) (i := i * 4 + 1 + 1) g1 (v := y.1 (i * 4 + 2)) rfl
      refine A_aload_n 120 dX10_carryAll_119 rfl rfl rfl ?_
      refine A_getfield 123 dX10_carryAll_120 rfl f_X10_19 O28 rfl ?_
      refine A_iload_n 124 dX10_carryAll_123 rfl rfl rfl ?_
      refine A_aload_n 125 dX10_carryAll_124 rfl rfl rfl ?_
      refine A_aload_n 126 dX10_carryAll_125 rfl rfl rfl ?_
      refine A_getfield 129 dX10_carryAll_126 rfl f_X10_19 O28 rfl ?_
      refine A_iload_n 130 dX10_carryAll_129 rfl rfl rfl ?_
      refine A_iaload 131 dX10_carryAll_130 rfl O28 rfl (by first | assumption | exact ix_nI (by omega) (by decide) | exact ix_lit _ rfl (by omega) (by decide) | exact ix_lit _ rfl (by decide) (by decide)) ?_
      try dsimp only
      refine A_callVI 134 (S_X10_carry_t0 X l O28 (by omega)) dX10_carryAll_131 rfl kX10_carry lk_X10_196 rfl O28 (by decide) rfl (Nat.le_of_ble_eq_true rfl) (fun v_21 h_21 qh_21 => ?_)
      obtain ⟨rfl, n0h_21, eh_21⟩ := qh_21
      replace O28 := n0h_21
      replace hf : ∀ i, i ≠ 28 → h_21 i = h i := fun i g0 => (eh_21 i g0).trans (hf i g0)
      rw [hk (4 + i * 4 + 1 + 1 + 1) (by omega), show enc y (4 + i * 4 + 1 + 1 + 1) = y.1 (i * 4 + 3) from enc_l y (k := i * 4 + 3) (by omega)]
      refine T_X10_3 135 dX10_carryAll_134 rfl O28 (by first | assumption | exact ix_nI (by omega) (by decide) | exact ix_lit _ rfl (by omega) (by decide) | exact ix_lit _ rfl (by decide) (by decide)) (fun h_22 nh_22 eh_22 => ?_)
      replace O28 := nh_22
      replace hf : ∀ i, i ≠ 28 → h_22 i = h i := fun i g0 => (eh_22 i g0).trans (hf i g0)
      try dsimp only at O28
      have g3 := up_eq (D := y.1) (i := i * 4 + 1 + 1 + 1) g2 (v := y.1 (i * 4 + 3)) rfl
      rw [show 4 + i * 4 + 1 + 1 + 1 + 1 = 4 + (i + 1) * 4 by omega] at O28
      first | refine A_iincN 138 dX10_carryAll_135 rfl rfl (by decide) (by first | exact (ast_s (ast_s (ast_1 rfl))) | exact (ast_s (ast_s ast_k))) ?_ | refine A_iinc 138 (1) dX10_carryAll_135 rfl rfl (by decide) (by decide) (by first | exact (ast_s (ast_s (ast_1 rfl))) | exact (ast_s (ast_s ast_k))) ?_
      refine A_goto 65 dX10_carryAll_138 (by decide) ?_
      exact ih n0 (Nat.lt_succ_self n0) (i + 1)  h_22 _ (by omega)  (fun j hj => g3 j (by omega)) O28 hf
  exact L65 (10) (0)  h_11 (_) (by omega)  (fun j hj => absurd hj (by omega)) O28 hf
set_option maxHeartbeats 4000000 in
set_option maxRecDepth 100000 in
theorem S_X10_think (X : En) (l : Launch) {h : Hp} {x : PW} {nv : Int32} {cr cl : FI} {cn : Nat} {im : FI} {ch : Int32 × FI × Nat × FI × Nat} {rd : RD} {rm : RM} {rs : RS} {ry : RY} (O28 : h 28 = some (rB x nv (cr, cl, cn, im, ch) (rd, rm, ry, rs))) : Ct X l mX10_think [aR 28 0] h (QV (PV1 h (28) (rB x nv (cr, cl, cn, im, ch) (rd, rm, (enc x, ry.2.1, 50, 1, aR 28 13), rs)))) := by
  have hf : ∀ i, i ≠ 28 → h i = h i := fun _ _ => rfl
  refine Ct.intro [some (aR 28 0)] (by decide +kernel) rfl (Nat.le_of_ble_eq_true rfl) ?_
  refine A_aload_n 1 dX10_think_0 rfl rfl rfl ?_
  refine A_aload_n 2 dX10_think_1 rfl rfl rfl ?_
  refine A_getfield 5 dX10_think_2 rfl f_X10_50 O28 rfl ?_
  refine A_iconst 6 (1) dX10_think_5 rfl (by decide) ?_
  refine A_callVV 9 (S_X10_carryAll_k1 X l (by first | assumption | decide | omega | exact Ne.symm (by assumption))) dX10_think_6 rfl kX10_carryAll lk_X10_199 rfl O28 (by decide) rfl (Nat.le_of_ble_eq_true rfl) (fun h_1 qh_1 => ?_)
  obtain ⟨n0h_1, eh_1⟩ := qh_1
  replace O28 := n0h_1
  replace hf : ∀ i, i ≠ 28 → h_1 i = h i := fun i g0 => (eh_1 i g0).trans (hf i g0)
  refine A_vret dX10_think_9 rfl ⟨rfl, O28, hf⟩
set_option maxHeartbeats 4000000 in
set_option maxRecDepth 100000 in
theorem S_X10_again (X : En) (l : Launch) {h : Hp} {x y : PW} {nv : Int32} {cr cl : FI} {cn : Nat} {im : FI} {ch : Int32 × FI × Nat × FI × Nat} {rd : RD} {rm : RM} {rs : RS} {tf : FI} {r3 : Nat × Int32 × AV} (O28 : h 28 = some (rB x nv (cr, cl, cn, im, ch) (rd, rm, (enc y, tf, r3), rs))) : Ct X l mX10_again [aR 28 0] h (QV (PV1 h (28) (rB y nv (cr, cl, cn, im, ch) (rd, rm, (enc y, tf, 50, 0, aR 28 13), rs)))) := by
  have hf : ∀ i, i ≠ 28 → h i = h i := fun _ _ => rfl
  refine Ct.intro [some (aR 28 0)] (by decide +kernel) rfl (Nat.le_of_ble_eq_true rfl) ?_
  refine A_aload_n 1 dX10_again_0 rfl rfl rfl ?_
  refine A_aload_n 2 dX10_again_1 rfl rfl rfl ?_
  refine A_getfield 5 dX10_again_2 rfl f_X10_50 O28 rfl ?_
  refine A_iconst 6 (0) dX10_again_5 rfl (by decide) ?_
  refine A_callVV 9 (S_X10_carryAll_k0 X l O28 (y := y) (fun _ _ => rfl)) dX10_again_6 rfl kX10_carryAll lk_X10_199 rfl O28 (by decide) rfl (Nat.le_of_ble_eq_true rfl) (fun h_1 qh_1 => ?_)
  obtain ⟨n0h_1, eh_1⟩ := qh_1
  replace O28 := n0h_1
  replace hf : ∀ i, i ≠ 28 → h_1 i = h i := fun i g0 => (eh_1 i g0).trans (hf i g0)
  refine A_vret dX10_again_9 rfl ⟨rfl, O28, hf⟩
