/-! the reference: what is told comes about -/
def cmT (v a b d e : Int32) (x : PW) : Option PW := if v = 98 then stB x a b else if v = 108 then stL x a b d e else if v = 112 then stP x a else if v = 116 then stT x a b else if v = 120 then some (clearF x) else stD x
theorem lt6_le {a : Int32} : a < 6 ↔ a ≤ 5 := by
  rw [Int32.lt_iff_toInt_lt, Int32.le_iff_toInt_le]
  have h1 : (6 : Int32).toInt = 6 := by decide
  have h2 : (5 : Int32).toInt = 5 := by decide
  omega
theorem inT_of {b : Int32} (h0 : ¬ b < 0) : inT b = true ↔ b < 8 := by
  unfold inT
  rw [decide_eq_true_eq]
  exact ⟨fun z => z.2, fun z => ⟨Int32.not_lt.mp h0, z⟩⟩
abbrev qL (x : PW) (a d e : Int32) : Prop := a < 6 ∧ d < 8 ∧ e < 8 ∧ nI x.2.2.1 < 10
theorem qL_iff {x : PW} {a d e : Int32} (hx : LOK x) (hd : ¬ d < 0) (he : ¬ e < 0) : qL x a d e ↔ (a ≤ 5 ∧ inT d = true ∧ inT e = true ∧ x.2.2.1 < 10) := by
  unfold qL
  have h10 := hx.1
  rw [lt6_le, inT_of hd, inT_of he, show (10 : Int32) = nI 10 from rfl, nlt_iff (a := x.2.2.1) (b := 10) (by omega) (by decide)]
theorem cm_L {x : PW} {v a b d e : Int32} (hv : v = 108) : cmT v a b d e x = stL x a b d e := by subst hv; exact (if_neg (by decide)).trans (if_pos rfl)
theorem cm_P {x : PW} {v a b d e : Int32} (hv : v = 112) : cmT v a b d e x = stP x a := by subst hv; exact (if_neg (by decide)).trans ((if_neg (by decide)).trans (if_pos rfl))
theorem cm_T {x : PW} {v a b d e : Int32} (hv : v = 116) : cmT v a b d e x = stT x a b := by subst hv; exact (if_neg (by decide)).trans ((if_neg (by decide)).trans ((if_neg (by decide)).trans (if_pos rfl)))
theorem cm_C {x : PW} {v a b d e : Int32} (hv : v = 120) : cmT v a b d e x = some (clearF x) := by subst hv; exact (if_neg (by decide)).trans ((if_neg (by decide)).trans ((if_neg (by decide)).trans ((if_neg (by decide)).trans (if_pos rfl))))
theorem cm_B {x : PW} {v a b d e : Int32} (hv : v = 98) : cmT v a b d e x = stB x a b := if_pos hv
theorem cm_D {x : PW} {v a b d e : Int32} (h1 : ¬ v = 98) (h2 : ¬ v = 108) (h3 : ¬ v = 112) (h4 : ¬ v = 116) (h5 : ¬ v = 120) : cmT v a b d e x = stD x := by
  unfold cmT
  rw [if_neg h1, if_neg h2, if_neg h3, if_neg h4, if_neg h5]
theorem le255 {a : Int32} : ¬ 255 < a ↔ a ≤ 255 := Int32.not_lt
theorem lt6_p {x : PW} (hp : x.2.2.2.1 ≤ 6) : nI x.2.2.2.1 < 6 ↔ x.2.2.2.1 < 6 := nlt_iff (b := 6) (by omega) (by decide)
set_option maxHeartbeats 4000000 in
set_option maxRecDepth 100000 in
theorem S_X10_comesTold (X : En) (l : Launch) {h : Hp} {x : PW} {c : RC} {rd : RD} {q : Nat} {b : Bool} {s : Nat} {pl lo tl : FI} {ry : RY} {rs : RS} (O28 : h 28 = some (rB (x) (-1) c (rd, (q, bI b, s, pl, lo, tl), ry, rs))) (hW : WOK x) {i : Nat} (hi : i < 49) {v ta tb td te : Int32} (hl : lo i = v) (ha : tl (4 * i) = ta) (hb : tl (4 * i + 1) = tb) (hd : tl (4 * i + 2) = td) (he : tl (4 * i + 3) = te) (hDE : v = 108 → ¬ td < 0 ∧ ¬ te < 0) (hBB : v = 98 ∨ v = 116 → ¬ tb < 0) : Ct X l mX10_comesTold [aR 28 0, aI (nI i)] h (QI (fun vr h2 => (bI (cmT v ta tb td te x).isSome) = vr ∧ ∃ (rd1 : RD), h2 (28) = some (rB ((cmT v ta tb td te x).getD x) (-1) c (rd1, (q, bI b, s, pl, lo, tl), ry, rs)) ∧ ∀ i, i ≠ 28 → h2 i = h i)) := by
  have hx := hW.1
  have hp := hW.2.1
  have h10 := hx.1
  have hf : ∀ i, i ≠ 28 → h i = h i := fun _ _ => rfl
  refine Ct.intro [some (aR 28 0), some (aI (nI i)), none, none, none, none, none] (by decide +kernel) rfl (Nat.le_of_ble_eq_true rfl) ?_
  refine A_aload_n 1 dX10_comesTold_0 rfl rfl rfl ?_
  refine A_getfield 4 dX10_comesTold_1 rfl f_X10_47 O28 rfl ?_
  refine A_iconst 5 (4) dX10_comesTold_4 rfl (by decide) ?_
  refine A_iload_n 6 dX10_comesTold_5 rfl rfl rfl ?_
  refine A_imul 7 dX10_comesTold_6 rfl ?_
  rw [show (4 : Int32) = nI 4 from rfl, nI_mulr]
  refine A_iaload 8 dX10_comesTold_7 rfl O28 rfl (by first | assumption | exact ix_nI (by omega) (by decide) | exact ix_lit _ rfl (by omega) (by decide) | exact ix_lit _ rfl (by decide) (by decide)) ?_
  try dsimp only
  rw [ha]
  refine A_istore_n 9 dX10_comesTold_8 rfl rfl (by decide) (by first | exact (ast_s (ast_1 rfl)) | exact (ast_s ast_k)) ?_
  refine A_aload_n 10 dX10_comesTold_9 rfl rfl rfl ?_
  refine A_getfield 13 dX10_comesTold_10 rfl f_X10_47 O28 rfl ?_
  refine A_iconst 14 (4) dX10_comesTold_13 rfl (by decide) ?_
  refine A_iload_n 15 dX10_comesTold_14 rfl rfl rfl ?_
  refine A_imul 16 dX10_comesTold_15 rfl ?_
  rw [show (4 : Int32) = nI 4 from rfl, nI_mulr]
  refine A_iconst 17 (1) dX10_comesTold_16 rfl (by decide) ?_
  refine A_iadd 18 dX10_comesTold_17 rfl ?_
  rw [n41]
  refine A_iaload 19 dX10_comesTold_18 rfl O28 rfl (by first | assumption | exact ix_nI (by omega) (by decide) | exact ix_lit _ rfl (by omega) (by decide) | exact ix_lit _ rfl (by decide) (by decide)) ?_
  try dsimp only
  rw [hb]
  refine A_istore_n 20 dX10_comesTold_19 rfl rfl (by decide) (by first | exact (ast_s (ast_s (ast_1 rfl))) | exact (ast_s (ast_s ast_k))) ?_
  refine A_aload_n 21 dX10_comesTold_20 rfl rfl rfl ?_
  refine A_getfield 24 dX10_comesTold_21 rfl f_X10_47 O28 rfl ?_
  refine A_iconst 25 (4) dX10_comesTold_24 rfl (by decide) ?_
  refine A_iload_n 26 dX10_comesTold_25 rfl rfl rfl ?_
  refine A_imul 27 dX10_comesTold_26 rfl ?_
  rw [show (4 : Int32) = nI 4 from rfl, nI_mulr]
  refine A_iconst 28 (2) dX10_comesTold_27 rfl (by decide) ?_
  refine A_iadd 29 dX10_comesTold_28 rfl ?_
  rw [n42]
  refine A_iaload 30 dX10_comesTold_29 rfl O28 rfl (by first | assumption | exact ix_nI (by omega) (by decide) | exact ix_lit _ rfl (by omega) (by decide) | exact ix_lit _ rfl (by decide) (by decide)) ?_
  try dsimp only
  rw [hd]
  refine A_istore 32 dX10_comesTold_30 rfl (by decide) (by first | exact (ast_s (ast_s (ast_s (ast_1 rfl)))) | exact (ast_s (ast_s (ast_s ast_k)))) ?_
  refine A_aload_n 33 dX10_comesTold_32 rfl rfl rfl ?_
  refine A_getfield 36 dX10_comesTold_33 rfl f_X10_47 O28 rfl ?_
  refine A_iconst 37 (4) dX10_comesTold_36 rfl (by decide) ?_
  refine A_iload_n 38 dX10_comesTold_37 rfl rfl rfl ?_
  refine A_imul 39 dX10_comesTold_38 rfl ?_
  rw [show (4 : Int32) = nI 4 from rfl, nI_mulr]
  refine A_iconst 40 (3) dX10_comesTold_39 rfl (by decide) ?_
  refine A_iadd 41 dX10_comesTold_40 rfl ?_
  rw [n43]
  refine A_iaload 42 dX10_comesTold_41 rfl O28 rfl (by first | assumption | exact ix_nI (by omega) (by decide) | exact ix_lit _ rfl (by omega) (by decide) | exact ix_lit _ rfl (by decide) (by decide)) ?_
  try dsimp only
  rw [he]
  refine A_istore 44 dX10_comesTold_42 rfl (by decide) (by first | exact (ast_s (ast_s (ast_s (ast_s (ast_1 rfl))))) | exact (ast_s (ast_s (ast_s (ast_s ast_k))))) ?_
  refine A_iconst 45 (1) dX10_comesTold_44 rfl (by decide) ?_
  refine A_istore 47 dX10_comesTold_45 rfl (by decide) (by first | exact (ast_s (ast_s (ast_s (ast_s (ast_s (ast_1 rfl)))))) | exact (ast_s (ast_s (ast_s (ast_s (ast_s ast_k)))))) ?_
  refine A_aload_n 48 dX10_comesTold_47 rfl rfl rfl ?_
  refine A_getfield 51 dX10_comesTold_48 rfl f_X10_44 O28 rfl ?_
  refine A_iload_n 52 dX10_comesTold_51 rfl rfl rfl ?_
  refine A_iaload 53 dX10_comesTold_52 rfl O28 rfl (by first | assumption | exact ix_nI (by omega) (by decide) | exact ix_lit _ rfl (by omega) (by decide) | exact ix_lit _ rfl (by decide) (by decide)) ?_
  try dsimp only
  rw [hl]
  refine A_case (98) (fun e53_98 => ?_) (fun e53_98 => ?_)
  · skip
    refine A_lookup 257 dX10_comesTold_53 (off := 204) (by decide) (by rw [e53_98]; decide) (by decide) ?_
    have hv := e53_98
    have hB := hBB (Or.inl hv)
    refine A_joinI 276 (fun vj => vj = bI (decide (inN ta x.2.2.2.1 = true ∧ tb < 8))) (fun j276 => ?_) (fun v276 e276 => ?_)
    · skip
      refine A_aload_n 258 dX10_comesTold_257 rfl rfl rfl ?_
      refine A_iload_n 259 dX10_comesTold_258 rfl rfl rfl ?_
      refine A_callVI 262 (S_X10_isOne X l (by first | assumption | decide | omega | exact Ne.symm (by assumption)) (by first | assumption | decide | omega | exact Ne.symm (by assumption))) dX10_comesTold_259 rfl kX10_isOne lk_X10_160 rfl O28 (by decide) rfl (Nat.le_of_ble_eq_true rfl) (fun v_1 h_1 qh_1 => ?_)
      obtain ⟨rfl, rfl⟩ := qh_1
      refine A_if_eq 275 265 dX10_comesTold_262 (by decide) rfl (fun c262 => ?_) (fun c262 => ?_)
      · skip
        try simp only [bI_0, bI_n0, Classical.not_not, Bool.not_eq_false, Bool.true_and, Bool.and_true, decide_eq_true_eq, decide_eq_false_iff_not, dayC_1, dayC_21, dayC_221, dayC_222, inI_1, inI_2, inI_3, inI_5, inI_11, inI_16] at c262
        refine A_iconst 276 (0) dX10_comesTold_275 rfl (by decide) ?_
        exact j276 _ (by first | (simp only [e53_98, c262, if_true, if_false, ite_true, ite_false, and_true, true_and, and_false, false_and, and_self, or_true, true_or, or_false, false_or, or_self, not_true_eq_false, not_false_eq_true, decide_true, decide_false, Bool.and_true, Bool.true_and, Bool.and_false, Bool.false_and, Bool.and_self, Bool.or_true, Bool.true_or, Bool.or_false, Bool.false_or, Bool.not_true, Bool.not_false, cond_true, cond_false, bI_t, bI_f, Bool.false_eq_true, Bool.true_eq_false, dayC_1, dayC_21, dayC_221, dayC_222, pk, bI, qL]; done) | (simp only [eq_true e53_98, c262, if_true, if_false, ite_true, ite_false, and_true, true_and, and_false, false_and, and_self, or_true, true_or, or_false, false_or, or_self, not_true_eq_false, not_false_eq_true, decide_true, decide_false, Bool.and_true, Bool.true_and, Bool.and_false, Bool.false_and, Bool.and_self, Bool.or_true, Bool.true_or, Bool.or_false, Bool.false_or, Bool.not_true, Bool.not_false, cond_true, cond_false, bI_t, bI_f, Bool.false_eq_true, Bool.true_eq_false, dayC_1, dayC_21, dayC_221, dayC_222, pk, bI, qL]; done) | (simp [pk, bI, qL, *]; done))
      · skip
        try simp only [bI_0, bI_n0, Classical.not_not, Bool.not_eq_false, Bool.true_and, Bool.and_true, decide_eq_true_eq, decide_eq_false_iff_not, dayC_1, dayC_21, dayC_221, dayC_222, inI_1, inI_2, inI_3, inI_5, inI_11, inI_16] at c262
        refine A_iload_n 266 dX10_comesTold_265 rfl rfl rfl ?_
        refine A_bipush 268 (8) dX10_comesTold_266 rfl (by decide) ?_
        refine A_icmp_ge 275 271 dX10_comesTold_268 (by decide) rfl (fun c268 => ?_) (fun c268 => ?_)
        · skip
          try simp only [bI_0, bI_n0, Classical.not_not, Bool.not_eq_false, Bool.true_and, Bool.and_true, decide_eq_true_eq, decide_eq_false_iff_not, dayC_1, dayC_21, dayC_221, dayC_222, inI_1, inI_2, inI_3, inI_5, inI_11, inI_16] at c268
          have n268 := c268
          replace c268 := Int32.not_lt.mpr c268
          refine A_iconst 276 (0) dX10_comesTold_275 rfl (by decide) ?_
          exact j276 _ (by first | (simp only [e53_98, c262, c268, n268, if_true, if_false, ite_true, ite_false, and_true, true_and, and_false, false_and, and_self, or_true, true_or, or_false, false_or, or_self, not_true_eq_false, not_false_eq_true, decide_true, decide_false, Bool.and_true, Bool.true_and, Bool.and_false, Bool.false_and, Bool.and_self, Bool.or_true, Bool.true_or, Bool.or_false, Bool.false_or, Bool.not_true, Bool.not_false, cond_true, cond_false, bI_t, bI_f, Bool.false_eq_true, Bool.true_eq_false, dayC_1, dayC_21, dayC_221, dayC_222, pk, bI, qL]; done) | (simp only [eq_true e53_98, c262, c268, n268, if_true, if_false, ite_true, ite_false, and_true, true_and, and_false, false_and, and_self, or_true, true_or, or_false, false_or, or_self, not_true_eq_false, not_false_eq_true, decide_true, decide_false, Bool.and_true, Bool.true_and, Bool.and_false, Bool.false_and, Bool.and_self, Bool.or_true, Bool.true_or, Bool.or_false, Bool.false_or, Bool.not_true, Bool.not_false, cond_true, cond_false, bI_t, bI_f, Bool.false_eq_true, Bool.true_eq_false, dayC_1, dayC_21, dayC_221, dayC_222, pk, bI, qL]; done) | (simp [pk, bI, qL, *]; done))
        · skip
          try simp only [bI_0, bI_n0, Classical.not_not, Bool.not_eq_false, Bool.true_and, Bool.and_true, decide_eq_true_eq, decide_eq_false_iff_not, dayC_1, dayC_21, dayC_221, dayC_222, inI_1, inI_2, inI_3, inI_5, inI_11, inI_16] at c268
          have n268 := c268
          replace c268 := Int32.not_le.mp c268
          refine A_iconst 272 (1) dX10_comesTold_271 rfl (by decide) ?_
          refine A_goto 276 dX10_comesTold_272 (by decide) ?_
          exact j276 _ (by first | (simp only [e53_98, c262, c268, n268, if_true, if_false, ite_true, ite_false, and_true, true_and, and_false, false_and, and_self, or_true, true_or, or_false, false_or, or_self, not_true_eq_false, not_false_eq_true, decide_true, decide_false, Bool.and_true, Bool.true_and, Bool.and_false, Bool.false_and, Bool.and_self, Bool.or_true, Bool.true_or, Bool.or_false, Bool.false_or, Bool.not_true, Bool.not_false, cond_true, cond_false, bI_t, bI_f, Bool.false_eq_true, Bool.true_eq_false, dayC_1, dayC_21, dayC_221, dayC_222, pk, bI, qL]; done) | (simp only [eq_true e53_98, c262, c268, n268, if_true, if_false, ite_true, ite_false, and_true, true_and, and_false, false_and, and_self, or_true, true_or, or_false, false_or, or_self, not_true_eq_false, not_false_eq_true, decide_true, decide_false, Bool.and_true, Bool.true_and, Bool.and_false, Bool.false_and, Bool.and_self, Bool.or_true, Bool.true_or, Bool.or_false, Bool.false_or, Bool.not_true, Bool.not_false, cond_true, cond_false, bI_t, bI_f, Bool.false_eq_true, Bool.true_eq_false, dayC_1, dayC_21, dayC_221, dayC_222, pk, bI, qL]; done) | (simp [pk, bI, qL, *]; done))
    subst e276
    refine A_istore 278 dX10_comesTold_276 rfl (by decide) (by first | exact (ast_s (ast_s (ast_s (ast_s (ast_s (ast_1 rfl)))))) | exact (ast_s (ast_s (ast_s (ast_s (ast_s ast_k)))))) ?_
    refine A_iload 280 dX10_comesTold_278 rfl rfl ?_
    refine A_if_eq 289 283 dX10_comesTold_280 (by decide) rfl (fun c280 => ?_) (fun c280 => ?_)
    · skip
      try simp only [bI_0, bI_n0, Classical.not_not, Bool.not_eq_false, Bool.true_and, Bool.and_true, decide_eq_true_eq, decide_eq_false_iff_not, dayC_1, dayC_21, dayC_221, dayC_222, inI_1, inI_2, inI_3, inI_5, inI_11, inI_16] at c280
      have es : cmT v ta tb td te x = none := (cm_B hv).trans (if_neg (fun z => c280 ⟨z.1, (inT_of hB).mp z.2⟩))
      refine A_iload 291 dX10_comesTold_289 rfl rfl ?_
      refine A_zret dX10_comesTold_291 rfl (by first | with_reducible exact bI01 _ | with_reducible exact Or.inl rfl | with_reducible exact Or.inr rfl | assumption) ⟨_, rfl, (by rw [es]; first | (rw [decide_eq_true c280]; rfl) | (rw [decide_eq_false c280]; rfl)), _, (by rw [es]; exact O28), hf⟩
    · skip
      try simp only [bI_0, bI_n0, Classical.not_not, Bool.not_eq_false, Bool.true_and, Bool.and_true, decide_eq_true_eq, decide_eq_false_iff_not, dayC_1, dayC_21, dayC_221, dayC_222, inI_1, inI_2, inI_3, inI_5, inI_11, inI_16] at c280
      have es : cmT v ta tb td te x = some (bringF x ta.toNatClampNeg tb) := (cm_B hv).trans (if_pos ⟨c280.1, (inT_of hB).mpr c280.2⟩)
      have hiB := (inT_of hB).mpr c280.2
      obtain ⟨ka, rfl, hka⟩ := inN_ex c280.1 (by omega)
      have cl_ta : (nI ka).toNatClampNeg = ka := nI_clamp (by omega)
      rw [cl_ta] at es
      refine A_aload_n 284 dX10_comesTold_283 rfl rfl rfl ?_
      refine A_iload_n 285 dX10_comesTold_284 rfl rfl rfl ?_
      refine A_iload_n 286 dX10_comesTold_285 rfl rfl rfl ?_
      refine A_callVV 289 (S_X10_bringIn X l (by first | assumption | decide | omega | exact Ne.symm (by assumption)) (by first | assumption | decide | omega | exact Ne.symm (by assumption)) (by first | assumption | decide | omega | exact Ne.symm (by assumption))) dX10_comesTold_286 rfl kX10_bringIn lk_X10_166 rfl O28 (by decide) rfl (Nat.le_of_ble_eq_true rfl) (fun h_2 qh_2 => ?_)
      obtain ⟨n0h_2, eh_2⟩ := qh_2
      replace O28 := n0h_2
      replace hf : ∀ i, i ≠ 28 → h_2 i = h i := fun i g0 => (eh_2 i g0).trans (hf i g0)
      refine A_iload 291 dX10_comesTold_289 rfl rfl ?_
      refine A_zret dX10_comesTold_291 rfl (by first | with_reducible exact bI01 _ | with_reducible exact Or.inl rfl | with_reducible exact Or.inr rfl | assumption) ⟨_, rfl, (by rw [es]; first | (rw [decide_eq_true c280]; rfl) | (rw [decide_eq_false c280]; rfl)), _, (by rw [es]; exact O28), hf⟩
  refine A_case (108) (fun e53_108 => ?_) (fun e53_108 => ?_)
  · skip
    refine A_lookup 104 dX10_comesTold_53 (off := 51) (by decide) (by rw [e53_108]; decide) (by decide) ?_
    have hv := e53_108
    have hD := hDE hv
    refine A_joinI 138 (fun vj => vj = bI (decide (ta < 6 ∧ td < 8 ∧ te < 8 ∧ nI x.2.2.1 < 10))) (fun j138 => ?_) (fun v138 e138 => ?_)
    · skip
      refine A_iload_n 105 dX10_comesTold_104 rfl rfl rfl ?_
      refine A_bipush 107 (6) dX10_comesTold_105 rfl (by decide) ?_
      refine A_icmp_ge 137 110 dX10_comesTold_107 (by decide) rfl (fun c107 => ?_) (fun c107 => ?_)
      · skip
        try simp only [bI_0, bI_n0, Classical.not_not, Bool.not_eq_false, Bool.true_and, Bool.and_true, decide_eq_true_eq, decide_eq_false_iff_not, dayC_1, dayC_21, dayC_221, dayC_222, inI_1, inI_2, inI_3, inI_5, inI_11, inI_16] at c107
        have n107 := c107
        replace c107 := Int32.not_lt.mpr c107
        refine A_iconst 138 (0) dX10_comesTold_137 rfl (by decide) ?_
        exact j138 _ (by first | (simp only [e53_98, e53_108, c107, n107, if_true, if_false, ite_true, ite_false, and_true, true_and, and_false, false_and, and_self, or_true, true_or, or_false, false_or, or_self, not_true_eq_false, not_false_eq_true, decide_true, decide_false, Bool.and_true, Bool.true_and, Bool.and_false, Bool.false_and, Bool.and_self, Bool.or_true, Bool.true_or, Bool.or_false, Bool.false_or, Bool.not_true, Bool.not_false, cond_true, cond_false, bI_t, bI_f, Bool.false_eq_true, Bool.true_eq_false, dayC_1, dayC_21, dayC_221, dayC_222, pk, bI, qL]; done) | (simp only [e53_98, eq_true e53_108, c107, n107, if_true, if_false, ite_true, ite_false, and_true, true_and, and_false, false_and, and_self, or_true, true_or, or_false, false_or, or_self, not_true_eq_false, not_false_eq_true, decide_true, decide_false, Bool.and_true, Bool.true_and, Bool.and_false, Bool.false_and, Bool.and_self, Bool.or_true, Bool.true_or, Bool.or_false, Bool.false_or, Bool.not_true, Bool.not_false, cond_true, cond_false, bI_t, bI_f, Bool.false_eq_true, Bool.true_eq_false, dayC_1, dayC_21, dayC_221, dayC_222, pk, bI, qL]; done) | (simp [pk, bI, qL, *]; done))
      · skip
        try simp only [bI_0, bI_n0, Classical.not_not, Bool.not_eq_false, Bool.true_and, Bool.and_true, decide_eq_true_eq, decide_eq_false_iff_not, dayC_1, dayC_21, dayC_221, dayC_222, inI_1, inI_2, inI_3, inI_5, inI_11, inI_16] at c107
        have n107 := c107
        replace c107 := Int32.not_le.mp c107
        refine A_iload 112 dX10_comesTold_110 rfl rfl ?_
        refine A_bipush 114 (8) dX10_comesTold_112 rfl (by decide) ?_
        refine A_icmp_ge 137 117 dX10_comesTold_114 (by decide) rfl (fun c114 => ?_) (fun c114 => ?_)
        · skip
          try simp only [bI_0, bI_n0, Classical.not_not, Bool.not_eq_false, Bool.true_and, Bool.and_true, decide_eq_true_eq, decide_eq_false_iff_not, dayC_1, dayC_21, dayC_221, dayC_222, inI_1, inI_2, inI_3, inI_5, inI_11, inI_16] at c114
          have n114 := c114
          replace c114 := Int32.not_lt.mpr c114
          refine A_iconst 138 (0) dX10_comesTold_137 rfl (by decide) ?_
          exact j138 _ (by first | (simp only [e53_98, e53_108, c107, n107, c114, n114, if_true, if_false, ite_true, ite_false, and_true, true_and, and_false, false_and, and_self, or_true, true_or, or_false, false_or, or_self, not_true_eq_false, not_false_eq_true, decide_true, decide_false, Bool.and_true, Bool.true_and, Bool.and_false, Bool.false_and, Bool.and_self, Bool.or_true, Bool.true_or, Bool.or_false, Bool.false_or, Bool.not_true, Bool.not_false, cond_true, cond_false, bI_t, bI_f, Bool.false_eq_true, Bool.true_eq_false, dayC_1, dayC_21, dayC_221, dayC_222, pk, bI, qL]; done) | (simp only [e53_98, eq_true e53_108, c107, n107, c114, n114, if_true, if_false, ite_true, ite_false, and_true, true_and, and_false, false_and, and_self, or_true, true_or, or_false, false_or, or_self, not_true_eq_false, not_false_eq_true, decide_true, decide_false, Bool.and_true, Bool.true_and, Bool.and_false, Bool.false_and, Bool.and_self, Bool.or_true, Bool.true_or, Bool.or_false, Bool.false_or, Bool.not_true, Bool.not_false, cond_true, cond_false, bI_t, bI_f, Bool.false_eq_true, Bool.true_eq_false, dayC_1, dayC_21, dayC_221, dayC_222, pk, bI, qL]; done) | (simp [pk, bI, qL, *]; done))
        · skip
          try simp only [bI_0, bI_n0, Classical.not_not, Bool.not_eq_false, Bool.true_and, Bool.and_true, decide_eq_true_eq, decide_eq_false_iff_not, dayC_1, dayC_21, dayC_221, dayC_222, inI_1, inI_2, inI_3, inI_5, inI_11, inI_16] at c114
          have n114 := c114
          replace c114 := Int32.not_le.mp c114
          refine A_iload 119 dX10_comesTold_117 rfl rfl ?_
          refine A_bipush 121 (8) dX10_comesTold_119 rfl (by decide) ?_
          refine A_icmp_ge 137 124 dX10_comesTold_121 (by decide) rfl (fun c121 => ?_) (fun c121 => ?_)
          · skip
            try simp only [bI_0, bI_n0, Classical.not_not, Bool.not_eq_false, Bool.true_and, Bool.and_true, decide_eq_true_eq, decide_eq_false_iff_not, dayC_1, dayC_21, dayC_221, dayC_222, inI_1, inI_2, inI_3, inI_5, inI_11, inI_16] at c121
            have n121 := c121
            replace c121 := Int32.not_lt.mpr c121
            refine A_iconst 138 (0) dX10_comesTold_137 rfl (by decide) ?_
            exact j138 _ (by first | (simp only [e53_98, e53_108, c107, n107, c114, n114, c121, n121, if_true, if_false, ite_true, ite_false, and_true, true_and, and_false, false_and, and_self, or_true, true_or, or_false, false_or, or_self, not_true_eq_false, not_false_eq_true, decide_true, decide_false, Bool.and_true, Bool.true_and, Bool.and_false, Bool.false_and, Bool.and_self, Bool.or_true, Bool.true_or, Bool.or_false, Bool.false_or, Bool.not_true, Bool.not_false, cond_true, cond_false, bI_t, bI_f, Bool.false_eq_true, Bool.true_eq_false, dayC_1, dayC_21, dayC_221, dayC_222, pk, bI, qL]; done) | (simp only [e53_98, eq_true e53_108, c107, n107, c114, n114, c121, n121, if_true, if_false, ite_true, ite_false, and_true, true_and, and_false, false_and, and_self, or_true, true_or, or_false, false_or, or_self, not_true_eq_false, not_false_eq_true, decide_true, decide_false, Bool.and_true, Bool.true_and, Bool.and_false, Bool.false_and, Bool.and_self, Bool.or_true, Bool.true_or, Bool.or_false, Bool.false_or, Bool.not_true, Bool.not_false, cond_true, cond_false, bI_t, bI_f, Bool.false_eq_true, Bool.true_eq_false, dayC_1, dayC_21, dayC_221, dayC_222, pk, bI, qL]; done) | (simp [pk, bI, qL, *]; done))
          · skip
            try simp only [bI_0, bI_n0, Classical.not_not, Bool.not_eq_false, Bool.true_and, Bool.and_true, decide_eq_true_eq, decide_eq_false_iff_not, dayC_1, dayC_21, dayC_221, dayC_222, inI_1, inI_2, inI_3, inI_5, inI_11, inI_16] at c121
            have n121 := c121
            replace c121 := Int32.not_le.mp c121
            refine A_aload_n 125 dX10_comesTold_124 rfl rfl rfl ?_
            refine A_getfield 128 dX10_comesTold_125 rfl f_X10_88 O28 rfl ?_
            try dsimp only
            refine A_bipush 130 (10) dX10_comesTold_128 rfl (by decide) ?_
            refine A_icmp_ge 137 133 dX10_comesTold_130 (by decide) rfl (fun c130 => ?_) (fun c130 => ?_)
            · skip
              try simp only [bI_0, bI_n0, Classical.not_not, Bool.not_eq_false, Bool.true_and, Bool.and_true, decide_eq_true_eq, decide_eq_false_iff_not, dayC_1, dayC_21, dayC_221, dayC_222, inI_1, inI_2, inI_3, inI_5, inI_11, inI_16] at c130
              have n130 := c130
              replace c130 := Int32.not_lt.mpr c130
              refine A_iconst 138 (0) dX10_comesTold_137 rfl (by decide) ?_
              exact j138 _ (by first | (simp only [e53_98, e53_108, c107, n107, c114, n114, c121, n121, c130, n130, if_true, if_false, ite_true, ite_false, and_true, true_and, and_false, false_and, and_self, or_true, true_or, or_false, false_or, or_self, not_true_eq_false, not_false_eq_true, decide_true, decide_false, Bool.and_true, Bool.true_and, Bool.and_false, Bool.false_and, Bool.and_self, Bool.or_true, Bool.true_or, Bool.or_false, Bool.false_or, Bool.not_true, Bool.not_false, cond_true, cond_false, bI_t, bI_f, Bool.false_eq_true, Bool.true_eq_false, dayC_1, dayC_21, dayC_221, dayC_222, pk, bI, qL]; done) | (simp only [e53_98, eq_true e53_108, c107, n107, c114, n114, c121, n121, c130, n130, if_true, if_false, ite_true, ite_false, and_true, true_and, and_false, false_and, and_self, or_true, true_or, or_false, false_or, or_self, not_true_eq_false, not_false_eq_true, decide_true, decide_false, Bool.and_true, Bool.true_and, Bool.and_false, Bool.false_and, Bool.and_self, Bool.or_true, Bool.true_or, Bool.or_false, Bool.false_or, Bool.not_true, Bool.not_false, cond_true, cond_false, bI_t, bI_f, Bool.false_eq_true, Bool.true_eq_false, dayC_1, dayC_21, dayC_221, dayC_222, pk, bI, qL]; done) | (simp [pk, bI, qL, *]; done))
            · skip
              try simp only [bI_0, bI_n0, Classical.not_not, Bool.not_eq_false, Bool.true_and, Bool.and_true, decide_eq_true_eq, decide_eq_false_iff_not, dayC_1, dayC_21, dayC_221, dayC_222, inI_1, inI_2, inI_3, inI_5, inI_11, inI_16] at c130
              have n130 := c130
              replace c130 := Int32.not_le.mp c130
              refine A_iconst 134 (1) dX10_comesTold_133 rfl (by decide) ?_
              refine A_goto 138 dX10_comesTold_134 (by decide) ?_
              exact j138 _ (by first | (simp only [e53_98, e53_108, c107, n107, c114, n114, c121, n121, c130, n130, if_true, if_false, ite_true, ite_false, and_true, true_and, and_false, false_and, and_self, or_true, true_or, or_false, false_or, or_self, not_true_eq_false, not_false_eq_true, decide_true, decide_false, Bool.and_true, Bool.true_and, Bool.and_false, Bool.false_and, Bool.and_self, Bool.or_true, Bool.true_or, Bool.or_false, Bool.false_or, Bool.not_true, Bool.not_false, cond_true, cond_false, bI_t, bI_f, Bool.false_eq_true, Bool.true_eq_false, dayC_1, dayC_21, dayC_221, dayC_222, pk, bI, qL]; done) | (simp only [e53_98, eq_true e53_108, c107, n107, c114, n114, c121, n121, c130, n130, if_true, if_false, ite_true, ite_false, and_true, true_and, and_false, false_and, and_self, or_true, true_or, or_false, false_or, or_self, not_true_eq_false, not_false_eq_true, decide_true, decide_false, Bool.and_true, Bool.true_and, Bool.and_false, Bool.false_and, Bool.and_self, Bool.or_true, Bool.true_or, Bool.or_false, Bool.false_or, Bool.not_true, Bool.not_false, cond_true, cond_false, bI_t, bI_f, Bool.false_eq_true, Bool.true_eq_false, dayC_1, dayC_21, dayC_221, dayC_222, pk, bI, qL]; done) | (simp [pk, bI, qL, *]; done))
    subst e138
    refine A_istore 140 dX10_comesTold_138 rfl (by decide) (by first | exact (ast_s (ast_s (ast_s (ast_s (ast_s (ast_1 rfl)))))) | exact (ast_s (ast_s (ast_s (ast_s (ast_s ast_k)))))) ?_
    refine A_iload 142 dX10_comesTold_140 rfl rfl ?_
    refine A_if_eq 155 145 dX10_comesTold_142 (by decide) rfl (fun c142 => ?_) (fun c142 => ?_)
    · skip
      try simp only [bI_0, bI_n0, Classical.not_not, Bool.not_eq_false, Bool.true_and, Bool.and_true, decide_eq_true_eq, decide_eq_false_iff_not, dayC_1, dayC_21, dayC_221, dayC_222, inI_1, inI_2, inI_3, inI_5, inI_11, inI_16] at c142
      have es : cmT v ta tb td te x = none := (cm_L hv).trans (if_neg (mt (qL_iff hx hD.1 hD.2).mpr c142))
      refine A_iload 157 dX10_comesTold_155 rfl rfl ?_
      refine A_zret dX10_comesTold_157 rfl (by first | with_reducible exact bI01 _ | with_reducible exact Or.inl rfl | with_reducible exact Or.inr rfl | assumption) ⟨_, rfl, (by rw [es]; first | (rw [decide_eq_true c142]; rfl) | (rw [decide_eq_false c142]; rfl)), _, (by rw [es]; exact O28), hf⟩
    · skip
      try simp only [bI_0, bI_n0, Classical.not_not, Bool.not_eq_false, Bool.true_and, Bool.and_true, decide_eq_true_eq, decide_eq_false_iff_not, dayC_1, dayC_21, dayC_221, dayC_222, inI_1, inI_2, inI_3, inI_5, inI_11, inI_16] at c142
      have qq := (qL_iff hx hD.1 hD.2).mp c142
      have es : cmT v ta tb td te x = some (addL x ta tb td te) := (cm_L hv).trans (if_pos qq)
      have hl10 := qq.2.2.2
      refine A_aload_n 146 dX10_comesTold_145 rfl rfl rfl ?_
      refine A_iload_n 147 dX10_comesTold_146 rfl rfl rfl ?_
      refine A_iload_n 148 dX10_comesTold_147 rfl rfl rfl ?_
      refine A_iload 150 dX10_comesTold_148 rfl rfl ?_
      refine A_iload 152 dX10_comesTold_150 rfl rfl ?_
      refine A_callVV 155 (S_X10_lawComes X l (by first | assumption | decide | omega | exact Ne.symm (by assumption)) (by first | assumption | decide | omega | exact Ne.symm (by assumption))) dX10_comesTold_152 rfl kX10_lawComes lk_X10_156 rfl O28 (by decide) rfl (Nat.le_of_ble_eq_true rfl) (fun h_3 qh_3 => ?_)
      obtain ⟨n0h_3, eh_3⟩ := qh_3
      replace O28 := n0h_3
      replace hf : ∀ i, i ≠ 28 → h_3 i = h i := fun i g0 => (eh_3 i g0).trans (hf i g0)
      refine A_iload 157 dX10_comesTold_155 rfl rfl ?_
      refine A_zret dX10_comesTold_157 rfl (by first | with_reducible exact bI01 _ | with_reducible exact Or.inl rfl | with_reducible exact Or.inr rfl | assumption) ⟨_, rfl, (by rw [es]; first | (rw [decide_eq_true c142]; rfl) | (rw [decide_eq_false c142]; rfl)), _, (by rw [es]; exact O28), hf⟩
  refine A_case (112) (fun e53_112 => ?_) (fun e53_112 => ?_)
  · skip
    refine A_lookup 158 dX10_comesTold_53 (off := 105) (by decide) (by rw [e53_112]; decide) (by decide) ?_
    have hv := e53_112
    refine A_joinI 179 (fun vj => vj = bI (decide (¬ 255 < ta ∧ nI x.2.2.2.1 < 6))) (fun j179 => ?_) (fun v179 e179 => ?_)
    · skip
      refine A_iload_n 159 dX10_comesTold_158 rfl rfl rfl ?_
      refine A_sipush 162 (255) dX10_comesTold_159 rfl (by decide) ?_
      refine A_icmp_gt 178 165 dX10_comesTold_162 (by decide) rfl (fun c162 => ?_) (fun c162 => ?_)
      · skip
        try simp only [bI_0, bI_n0, Classical.not_not, Bool.not_eq_false, Bool.true_and, Bool.and_true, decide_eq_true_eq, decide_eq_false_iff_not, dayC_1, dayC_21, dayC_221, dayC_222, inI_1, inI_2, inI_3, inI_5, inI_11, inI_16] at c162
        have n162 := Int32.not_le.mpr c162
        refine A_iconst 179 (0) dX10_comesTold_178 rfl (by decide) ?_
        exact j179 _ (by first | (simp only [e53_98, e53_108, e53_112, c162, n162, if_true, if_false, ite_true, ite_false, and_true, true_and, and_false, false_and, and_self, or_true, true_or, or_false, false_or, or_self, not_true_eq_false, not_false_eq_true, decide_true, decide_false, Bool.and_true, Bool.true_and, Bool.and_false, Bool.false_and, Bool.and_self, Bool.or_true, Bool.true_or, Bool.or_false, Bool.false_or, Bool.not_true, Bool.not_false, cond_true, cond_false, bI_t, bI_f, Bool.false_eq_true, Bool.true_eq_false, dayC_1, dayC_21, dayC_221, dayC_222, pk, bI, qL]; done) | (simp only [e53_98, e53_108, eq_true e53_112, c162, n162, if_true, if_false, ite_true, ite_false, and_true, true_and, and_false, false_and, and_self, or_true, true_or, or_false, false_or, or_self, not_true_eq_false, not_false_eq_true, decide_true, decide_false, Bool.and_true, Bool.true_and, Bool.and_false, Bool.false_and, Bool.and_self, Bool.or_true, Bool.true_or, Bool.or_false, Bool.false_or, Bool.not_true, Bool.not_false, cond_true, cond_false, bI_t, bI_f, Bool.false_eq_true, Bool.true_eq_false, dayC_1, dayC_21, dayC_221, dayC_222, pk, bI, qL]; done) | (simp [pk, bI, qL, *]; done))
      · skip
        try simp only [bI_0, bI_n0, Classical.not_not, Bool.not_eq_false, Bool.true_and, Bool.and_true, decide_eq_true_eq, decide_eq_false_iff_not, dayC_1, dayC_21, dayC_221, dayC_222, inI_1, inI_2, inI_3, inI_5, inI_11, inI_16] at c162
        have n162 := Int32.not_lt.mp c162
        refine A_aload_n 166 dX10_comesTold_165 rfl rfl rfl ?_
        refine A_getfield 169 dX10_comesTold_166 rfl f_X10_81 O28 rfl ?_
        try dsimp only
        refine A_bipush 171 (6) dX10_comesTold_169 rfl (by decide) ?_
        refine A_icmp_ge 178 174 dX10_comesTold_171 (by decide) rfl (fun c171 => ?_) (fun c171 => ?_)
        · skip
          try simp only [bI_0, bI_n0, Classical.not_not, Bool.not_eq_false, Bool.true_and, Bool.and_true, decide_eq_true_eq, decide_eq_false_iff_not, dayC_1, dayC_21, dayC_221, dayC_222, inI_1, inI_2, inI_3, inI_5, inI_11, inI_16] at c171
          have n171 := c171
          replace c171 := Int32.not_lt.mpr c171
          refine A_iconst 179 (0) dX10_comesTold_178 rfl (by decide) ?_
          exact j179 _ (by first | (simp only [e53_98, e53_108, e53_112, c162, n162, c171, n171, if_true, if_false, ite_true, ite_false, and_true, true_and, and_false, false_and, and_self, or_true, true_or, or_false, false_or, or_self, not_true_eq_false, not_false_eq_true, decide_true, decide_false, Bool.and_true, Bool.true_and, Bool.and_false, Bool.false_and, Bool.and_self, Bool.or_true, Bool.true_or, Bool.or_false, Bool.false_or, Bool.not_true, Bool.not_false, cond_true, cond_false, bI_t, bI_f, Bool.false_eq_true, Bool.true_eq_false, dayC_1, dayC_21, dayC_221, dayC_222, pk, bI, qL]; done) | (simp only [e53_98, e53_108, eq_true e53_112, c162, n162, c171, n171, if_true, if_false, ite_true, ite_false, and_true, true_and, and_false, false_and, and_self, or_true, true_or, or_false, false_or, or_self, not_true_eq_false, not_false_eq_true, decide_true, decide_false, Bool.and_true, Bool.true_and, Bool.and_false, Bool.false_and, Bool.and_self, Bool.or_true, Bool.true_or, Bool.or_false, Bool.false_or, Bool.not_true, Bool.not_false, cond_true, cond_false, bI_t, bI_f, Bool.false_eq_true, Bool.true_eq_false, dayC_1, dayC_21, dayC_221, dayC_222, pk, bI, qL]; done) | (simp [pk, bI, qL, *]; done))
        · skip
          try simp only [bI_0, bI_n0, Classical.not_not, Bool.not_eq_false, Bool.true_and, Bool.and_true, decide_eq_true_eq, decide_eq_false_iff_not, dayC_1, dayC_21, dayC_221, dayC_222, inI_1, inI_2, inI_3, inI_5, inI_11, inI_16] at c171
          have n171 := c171
          replace c171 := Int32.not_le.mp c171
          refine A_iconst 175 (1) dX10_comesTold_174 rfl (by decide) ?_
          refine A_goto 179 dX10_comesTold_175 (by decide) ?_
          exact j179 _ (by first | (simp only [e53_98, e53_108, e53_112, c162, n162, c171, n171, if_true, if_false, ite_true, ite_false, and_true, true_and, and_false, false_and, and_self, or_true, true_or, or_false, false_or, or_self, not_true_eq_false, not_false_eq_true, decide_true, decide_false, Bool.and_true, Bool.true_and, Bool.and_false, Bool.false_and, Bool.and_self, Bool.or_true, Bool.true_or, Bool.or_false, Bool.false_or, Bool.not_true, Bool.not_false, cond_true, cond_false, bI_t, bI_f, Bool.false_eq_true, Bool.true_eq_false, dayC_1, dayC_21, dayC_221, dayC_222, pk, bI, qL]; done) | (simp only [e53_98, e53_108, eq_true e53_112, c162, n162, c171, n171, if_true, if_false, ite_true, ite_false, and_true, true_and, and_false, false_and, and_self, or_true, true_or, or_false, false_or, or_self, not_true_eq_false, not_false_eq_true, decide_true, decide_false, Bool.and_true, Bool.true_and, Bool.and_false, Bool.false_and, Bool.and_self, Bool.or_true, Bool.true_or, Bool.or_false, Bool.false_or, Bool.not_true, Bool.not_false, cond_true, cond_false, bI_t, bI_f, Bool.false_eq_true, Bool.true_eq_false, dayC_1, dayC_21, dayC_221, dayC_222, pk, bI, qL]; done) | (simp [pk, bI, qL, *]; done))
    subst e179
    refine A_istore 181 dX10_comesTold_179 rfl (by decide) (by first | exact (ast_s (ast_s (ast_s (ast_s (ast_s (ast_1 rfl)))))) | exact (ast_s (ast_s (ast_s (ast_s (ast_s ast_k)))))) ?_
    refine A_iload 183 dX10_comesTold_181 rfl rfl ?_
    refine A_if_eq 206 186 dX10_comesTold_183 (by decide) rfl (fun c183 => ?_) (fun c183 => ?_)
    · skip
      try simp only [bI_0, bI_n0, Classical.not_not, Bool.not_eq_false, Bool.true_and, Bool.and_true, decide_eq_true_eq, decide_eq_false_iff_not, dayC_1, dayC_21, dayC_221, dayC_222, inI_1, inI_2, inI_3, inI_5, inI_11, inI_16] at c183
      have es : cmT v ta tb td te x = none := (cm_P hv).trans (if_neg (fun z => c183 ⟨le255.mpr z.1, (lt6_p hp).mpr z.2⟩))
      refine A_iload 208 dX10_comesTold_206 rfl rfl ?_
      refine A_zret dX10_comesTold_208 rfl (by first | with_reducible exact bI01 _ | with_reducible exact Or.inl rfl | with_reducible exact Or.inr rfl | assumption) ⟨_, rfl, (by rw [es]; first | (rw [decide_eq_true c183]; rfl) | (rw [decide_eq_false c183]; rfl)), _, (by rw [es]; exact O28), hf⟩
    · skip
      try simp only [bI_0, bI_n0, Classical.not_not, Bool.not_eq_false, Bool.true_and, Bool.and_true, decide_eq_true_eq, decide_eq_false_iff_not, dayC_1, dayC_21, dayC_221, dayC_222, inI_1, inI_2, inI_3, inI_5, inI_11, inI_16] at c183
      have hp6 := (lt6_p hp).mp c183.2
      have es : cmT v ta tb td te x = some (addP x ta) := (cm_P hv).trans (if_pos ⟨le255.mp c183.1, hp6⟩)
      refine A_aload_n 187 dX10_comesTold_186 rfl rfl rfl ?_
      refine A_getfield 190 dX10_comesTold_187 rfl f_X10_22 O28 rfl ?_
      refine A_aload_n 191 dX10_comesTold_190 rfl rfl rfl ?_
      refine A_getfield 194 dX10_comesTold_191 rfl f_X10_81 O28 rfl ?_
      try dsimp only
      refine A_iload_n 195 dX10_comesTold_194 rfl rfl rfl ?_
      refine T_X10_4 196 dX10_comesTold_195 rfl O28 (by first | assumption | exact ix_nI (by omega) (by decide) | exact ix_lit _ rfl (by omega) (by decide) | exact ix_lit _ rfl (by decide) (by decide)) (fun h_4 nh_4 eh_4 => ?_)
      replace O28 := nh_4
      replace hf : ∀ i, i ≠ 28 → h_4 i = h i := fun i g0 => (eh_4 i g0).trans (hf i g0)
      try dsimp only at O28
      refine A_aload_n 197 dX10_comesTold_196 rfl rfl rfl ?_
      refine A_dup 198 dX10_comesTold_197 rfl rfl ?_
      refine A_getfield 201 dX10_comesTold_198 rfl f_X10_81 O28 rfl ?_
      try dsimp only
      refine A_iconst 202 (1) dX10_comesTold_201 rfl (by decide) ?_
      refine A_iadd 203 dX10_comesTold_202 rfl ?_
      rw [n41]
      refine P_X10_5 206 dX10_comesTold_203 rfl fw_X10_81 O28 (fun h_5 nh_5 eh_5 => ?_)
      replace O28 := nh_5
      replace hf : ∀ i, i ≠ 28 → h_5 i = h i := fun i g0 => (eh_5 i g0).trans (hf i g0)
      try dsimp only at O28
      refine A_iload 208 dX10_comesTold_206 rfl rfl ?_
      refine A_zret dX10_comesTold_208 rfl (by first | with_reducible exact bI01 _ | with_reducible exact Or.inl rfl | with_reducible exact Or.inr rfl | assumption) ⟨_, rfl, (by rw [es]; first | (rw [decide_eq_true c183]; rfl) | (rw [decide_eq_false c183]; rfl)), _, (by rw [es]; exact O28), hf⟩
  refine A_case (116) (fun e53_116 => ?_) (fun e53_116 => ?_)
  · skip
    refine A_lookup 209 dX10_comesTold_53 (off := 156) (by decide) (by rw [e53_116]; decide) (by decide) ?_
    have hv := e53_116
    have hB := hBB (Or.inr hv)
    refine A_joinI 241 (fun vj => vj = bI (decide (inN ta x.2.2.2.1 = true ∧ tb < 8 ∧ btI (pk x ta) tb = true))) (fun j241 => ?_) (fun v241 e241 => ?_)
    · skip
      refine A_aload_n 210 dX10_comesTold_209 rfl rfl rfl ?_
      refine A_iload_n 211 dX10_comesTold_210 rfl rfl rfl ?_
      refine A_callVI 214 (S_X10_isOne X l (by first | assumption | decide | omega | exact Ne.symm (by assumption)) (by first | assumption | decide | omega | exact Ne.symm (by assumption))) dX10_comesTold_211 rfl kX10_isOne lk_X10_160 rfl O28 (by decide) rfl (Nat.le_of_ble_eq_true rfl) (fun v_6 h_6 qh_6 => ?_)
      obtain ⟨rfl, rfl⟩ := qh_6
      refine A_if_eq 240 217 dX10_comesTold_214 (by decide) rfl (fun c214 => ?_) (fun c214 => ?_)
      · skip
        try simp only [bI_0, bI_n0, Classical.not_not, Bool.not_eq_false, Bool.true_and, Bool.and_true, decide_eq_true_eq, decide_eq_false_iff_not, dayC_1, dayC_21, dayC_221, dayC_222, inI_1, inI_2, inI_3, inI_5, inI_11, inI_16] at c214
        refine A_iconst 241 (0) dX10_comesTold_240 rfl (by decide) ?_
        exact j241 _ (by first | (simp only [e53_98, e53_108, e53_112, e53_116, c214, if_true, if_false, ite_true, ite_false, and_true, true_and, and_false, false_and, and_self, or_true, true_or, or_false, false_or, or_self, not_true_eq_false, not_false_eq_true, decide_true, decide_false, Bool.and_true, Bool.true_and, Bool.and_false, Bool.false_and, Bool.and_self, Bool.or_true, Bool.true_or, Bool.or_false, Bool.false_or, Bool.not_true, Bool.not_false, cond_true, cond_false, bI_t, bI_f, Bool.false_eq_true, Bool.true_eq_false, dayC_1, dayC_21, dayC_221, dayC_222, pk, bI, qL]; done) | (simp only [e53_98, e53_108, e53_112, eq_true e53_116, c214, if_true, if_false, ite_true, ite_false, and_true, true_and, and_false, false_and, and_self, or_true, true_or, or_false, false_or, or_self, not_true_eq_false, not_false_eq_true, decide_true, decide_false, Bool.and_true, Bool.true_and, Bool.and_false, Bool.false_and, Bool.and_self, Bool.or_true, Bool.true_or, Bool.or_false, Bool.false_or, Bool.not_true, Bool.not_false, cond_true, cond_false, bI_t, bI_f, Bool.false_eq_true, Bool.true_eq_false, dayC_1, dayC_21, dayC_221, dayC_222, pk, bI, qL]; done) | (simp [pk, bI, qL, *]; done))
      · skip
        try simp only [bI_0, bI_n0, Classical.not_not, Bool.not_eq_false, Bool.true_and, Bool.and_true, decide_eq_true_eq, decide_eq_false_iff_not, dayC_1, dayC_21, dayC_221, dayC_222, inI_1, inI_2, inI_3, inI_5, inI_11, inI_16] at c214
        obtain ⟨ka, rfl, hka⟩ := inN_ex c214 (by omega)
        have cl_ta : (nI ka).toNatClampNeg = ka := nI_clamp (by omega)
        refine A_iload_n 218 dX10_comesTold_217 rfl rfl rfl ?_
        refine A_bipush 220 (8) dX10_comesTold_218 rfl (by decide) ?_
        refine A_icmp_ge 240 223 dX10_comesTold_220 (by decide) rfl (fun c220 => ?_) (fun c220 => ?_)
        · skip
          try simp only [bI_0, bI_n0, Classical.not_not, Bool.not_eq_false, Bool.true_and, Bool.and_true, decide_eq_true_eq, decide_eq_false_iff_not, dayC_1, dayC_21, dayC_221, dayC_222, inI_1, inI_2, inI_3, inI_5, inI_11, inI_16] at c220
          have n220 := c220
          replace c220 := Int32.not_lt.mpr c220
          refine A_iconst 241 (0) dX10_comesTold_240 rfl (by decide) ?_
          exact j241 _ (by first | (simp only [e53_98, e53_108, e53_112, e53_116, c214, cl_ta, c220, n220, if_true, if_false, ite_true, ite_false, and_true, true_and, and_false, false_and, and_self, or_true, true_or, or_false, false_or, or_self, not_true_eq_false, not_false_eq_true, decide_true, decide_false, Bool.and_true, Bool.true_and, Bool.and_false, Bool.false_and, Bool.and_self, Bool.or_true, Bool.true_or, Bool.or_false, Bool.false_or, Bool.not_true, Bool.not_false, cond_true, cond_false, bI_t, bI_f, Bool.false_eq_true, Bool.true_eq_false, dayC_1, dayC_21, dayC_221, dayC_222, pk, bI, qL]; done) | (simp only [e53_98, e53_108, e53_112, eq_true e53_116, c214, cl_ta, c220, n220, if_true, if_false, ite_true, ite_false, and_true, true_and, and_false, false_and, and_self, or_true, true_or, or_false, false_or, or_self, not_true_eq_false, not_false_eq_true, decide_true, decide_false, Bool.and_true, Bool.true_and, Bool.and_false, Bool.false_and, Bool.and_self, Bool.or_true, Bool.true_or, Bool.or_false, Bool.false_or, Bool.not_true, Bool.not_false, cond_true, cond_false, bI_t, bI_f, Bool.false_eq_true, Bool.true_eq_false, dayC_1, dayC_21, dayC_221, dayC_222, pk, bI, qL]; done) | (simp [pk, bI, qL, *]; done))
        · skip
          try simp only [bI_0, bI_n0, Classical.not_not, Bool.not_eq_false, Bool.true_and, Bool.and_true, decide_eq_true_eq, decide_eq_false_iff_not, dayC_1, dayC_21, dayC_221, dayC_222, inI_1, inI_2, inI_3, inI_5, inI_11, inI_16] at c220
          have n220 := c220
          replace c220 := Int32.not_le.mp c220
          refine A_aload_n 224 dX10_comesTold_223 rfl rfl rfl ?_
          refine A_getfield 227 dX10_comesTold_224 rfl f_X10_22 O28 rfl ?_
          refine A_iload_n 228 dX10_comesTold_227 rfl rfl rfl ?_
          refine A_iaload 229 dX10_comesTold_228 rfl O28 rfl (by first | assumption | exact ix_nI (by omega) (by decide) | exact ix_lit _ rfl (by omega) (by decide) | exact ix_lit _ rfl (by decide) (by decide)) ?_
          try dsimp only
          refine A_iload_n 230 dX10_comesTold_229 rfl rfl rfl ?_
          refine A_callSI 233 (S_X10_hasBit X l) dX10_comesTold_230 rfl kX10_hasBit lk_X10_93 rfl (by decide) rfl (Nat.le_of_ble_eq_true rfl) (fun v_7 h_7 qh_7 => ?_)
          obtain ⟨rfl, rfl⟩ := qh_7
          refine A_if_eq 240 236 dX10_comesTold_233 (by decide) rfl (fun c233 => ?_) (fun c233 => ?_)
          · skip
            try simp only [bI_0, bI_n0, Classical.not_not, Bool.not_eq_false, Bool.true_and, Bool.and_true, decide_eq_true_eq, decide_eq_false_iff_not, dayC_1, dayC_21, dayC_221, dayC_222, inI_1, inI_2, inI_3, inI_5, inI_11, inI_16] at c233
            refine A_iconst 241 (0) dX10_comesTold_240 rfl (by decide) ?_
            exact j241 _ (by first | (simp only [e53_98, e53_108, e53_112, e53_116, c214, cl_ta, c220, n220, c233, if_true, if_false, ite_true, ite_false, and_true, true_and, and_false, false_and, and_self, or_true, true_or, or_false, false_or, or_self, not_true_eq_false, not_false_eq_true, decide_true, decide_false, Bool.and_true, Bool.true_and, Bool.and_false, Bool.false_and, Bool.and_self, Bool.or_true, Bool.true_or, Bool.or_false, Bool.false_or, Bool.not_true, Bool.not_false, cond_true, cond_false, bI_t, bI_f, Bool.false_eq_true, Bool.true_eq_false, dayC_1, dayC_21, dayC_221, dayC_222, pk, bI, qL]; done) | (simp only [e53_98, e53_108, e53_112, eq_true e53_116, c214, cl_ta, c220, n220, c233, if_true, if_false, ite_true, ite_false, and_true, true_and, and_false, false_and, and_self, or_true, true_or, or_false, false_or, or_self, not_true_eq_false, not_false_eq_true, decide_true, decide_false, Bool.and_true, Bool.true_and, Bool.and_false, Bool.false_and, Bool.and_self, Bool.or_true, Bool.true_or, Bool.or_false, Bool.false_or, Bool.not_true, Bool.not_false, cond_true, cond_false, bI_t, bI_f, Bool.false_eq_true, Bool.true_eq_false, dayC_1, dayC_21, dayC_221, dayC_222, pk, bI, qL]; done) | (simp [pk, bI, qL, *]; done))
          · skip
            try simp only [bI_0, bI_n0, Classical.not_not, Bool.not_eq_false, Bool.true_and, Bool.and_true, decide_eq_true_eq, decide_eq_false_iff_not, dayC_1, dayC_21, dayC_221, dayC_222, inI_1, inI_2, inI_3, inI_5, inI_11, inI_16] at c233
            refine A_iconst 237 (1) dX10_comesTold_236 rfl (by decide) ?_
            refine A_goto 241 dX10_comesTold_237 (by decide) ?_
            exact j241 _ (by first | (simp only [e53_98, e53_108, e53_112, e53_116, c214, cl_ta, c220, n220, c233, if_true, if_false, ite_true, ite_false, and_true, true_and, and_false, false_and, and_self, or_true, true_or, or_false, false_or, or_self, not_true_eq_false, not_false_eq_true, decide_true, decide_false, Bool.and_true, Bool.true_and, Bool.and_false, Bool.false_and, Bool.and_self, Bool.or_true, Bool.true_or, Bool.or_false, Bool.false_or, Bool.not_true, Bool.not_false, cond_true, cond_false, bI_t, bI_f, Bool.false_eq_true, Bool.true_eq_false, dayC_1, dayC_21, dayC_221, dayC_222, pk, bI, qL]; done) | (simp only [e53_98, e53_108, e53_112, eq_true e53_116, c214, cl_ta, c220, n220, c233, if_true, if_false, ite_true, ite_false, and_true, true_and, and_false, false_and, and_self, or_true, true_or, or_false, false_or, or_self, not_true_eq_false, not_false_eq_true, decide_true, decide_false, Bool.and_true, Bool.true_and, Bool.and_false, Bool.false_and, Bool.and_self, Bool.or_true, Bool.true_or, Bool.or_false, Bool.false_or, Bool.not_true, Bool.not_false, cond_true, cond_false, bI_t, bI_f, Bool.false_eq_true, Bool.true_eq_false, dayC_1, dayC_21, dayC_221, dayC_222, pk, bI, qL]; done) | (simp [pk, bI, qL, *]; done))
    subst e241
    refine A_istore 243 dX10_comesTold_241 rfl (by decide) (by first | exact (ast_s (ast_s (ast_s (ast_s (ast_s (ast_1 rfl)))))) | exact (ast_s (ast_s (ast_s (ast_s (ast_s ast_k)))))) ?_
    refine A_iload 245 dX10_comesTold_243 rfl rfl ?_
    refine A_if_eq 254 248 dX10_comesTold_245 (by decide) rfl (fun c245 => ?_) (fun c245 => ?_)
    · skip
      try simp only [bI_0, bI_n0, Classical.not_not, Bool.not_eq_false, Bool.true_and, Bool.and_true, decide_eq_true_eq, decide_eq_false_iff_not, dayC_1, dayC_21, dayC_221, dayC_222, inI_1, inI_2, inI_3, inI_5, inI_11, inI_16] at c245
      have es : cmT v ta tb td te x = none := (cm_T hv).trans (if_neg (fun z => c245 ⟨z.1, (inT_of hB).mp (Bool.and_eq_true_iff.mp z.2).1, (Bool.and_eq_true_iff.mp z.2).2⟩))
      refine A_iload 256 dX10_comesTold_254 rfl rfl ?_
      refine A_zret dX10_comesTold_256 rfl (by first | with_reducible exact bI01 _ | with_reducible exact Or.inl rfl | with_reducible exact Or.inr rfl | assumption) ⟨_, rfl, (by rw [es]; first | (rw [decide_eq_true c245]; rfl) | (rw [decide_eq_false c245]; rfl)), _, (by rw [es]; exact O28), hf⟩
    · skip
      try simp only [bI_0, bI_n0, Classical.not_not, Bool.not_eq_false, Bool.true_and, Bool.and_true, decide_eq_true_eq, decide_eq_false_iff_not, dayC_1, dayC_21, dayC_221, dayC_222, inI_1, inI_2, inI_3, inI_5, inI_11, inI_16] at c245
      have es : cmT v ta tb td te x = some (takeF x ta.toNatClampNeg tb) := (cm_T hv).trans (if_pos ⟨c245.1, Bool.and_eq_true_iff.mpr ⟨(inT_of hB).mpr c245.2.1, c245.2.2⟩⟩)
      have hiB := (inT_of hB).mpr c245.2.1
      obtain ⟨ka, rfl, hka⟩ := inN_ex c245.1 (by omega)
      have cl_ta : (nI ka).toNatClampNeg = ka := nI_clamp (by omega)
      rw [cl_ta] at es
      refine A_aload_n 249 dX10_comesTold_248 rfl rfl rfl ?_
      refine A_iload_n 250 dX10_comesTold_249 rfl rfl rfl ?_
      refine A_iload_n 251 dX10_comesTold_250 rfl rfl rfl ?_
      refine A_callVV 254 (S_X10_takeOut X l (by first | assumption | decide | omega | exact Ne.symm (by assumption)) (by first | assumption | decide | omega | exact Ne.symm (by assumption)) (by first | assumption | decide | omega | exact Ne.symm (by assumption))) dX10_comesTold_251 rfl kX10_takeOut lk_X10_163 rfl O28 (by decide) rfl (Nat.le_of_ble_eq_true rfl) (fun h_8 qh_8 => ?_)
      obtain ⟨n0h_8, eh_8⟩ := qh_8
      replace O28 := n0h_8
      replace hf : ∀ i, i ≠ 28 → h_8 i = h i := fun i g0 => (eh_8 i g0).trans (hf i g0)
      refine A_iload 256 dX10_comesTold_254 rfl rfl ?_
      refine A_zret dX10_comesTold_256 rfl (by first | with_reducible exact bI01 _ | with_reducible exact Or.inl rfl | with_reducible exact Or.inr rfl | assumption) ⟨_, rfl, (by rw [es]; first | (rw [decide_eq_true c245]; rfl) | (rw [decide_eq_false c245]; rfl)), _, (by rw [es]; exact O28), hf⟩
  refine A_case (120) (fun e53_120 => ?_) (fun e53_120 => ?_)
  · skip
    refine A_lookup 292 dX10_comesTold_53 (off := 239) (by decide) (by rw [e53_120]; decide) (by decide) ?_
    have es : cmT v ta tb td te x = some (clearF x) := cm_C e53_120
    refine A_aload_n 293 dX10_comesTold_292 rfl rfl rfl ?_
    refine A_iconst 294 (0) dX10_comesTold_293 rfl (by decide) ?_
    refine P_X10_7 297 dX10_comesTold_294 rfl fw_X10_97 O28 (fun h_9 nh_9 eh_9 => ?_)
    replace O28 := nh_9
    replace hf : ∀ i, i ≠ 28 → h_9 i = h i := fun i g0 => (eh_9 i g0).trans (hf i g0)
    try dsimp only at O28
    refine A_iconst 298 (1) dX10_comesTold_297 rfl (by decide) ?_
    refine A_zret dX10_comesTold_298 rfl (by first | with_reducible exact bI01 _ | with_reducible exact Or.inl rfl | with_reducible exact Or.inr rfl | assumption) ⟨_, rfl, (by rw [es]; rfl), _, (by rw [es]; exact O28), hf⟩
  refine A_lookup 299 dX10_comesTold_53 (off := 246) (by decide) (by have q0 := Ne.symm (ne_toInt (k := 98) (z := 98) e53_98 (by decide)); have q1 := Ne.symm (ne_toInt (k := 108) (z := 108) e53_108 (by decide)); have q2 := Ne.symm (ne_toInt (k := 112) (z := 112) e53_112 (by decide)); have q3 := Ne.symm (ne_toInt (k := 116) (z := 116) e53_116 (by decide)); have q4 := Ne.symm (ne_toInt (k := 120) (z := 120) e53_120 (by decide)); show (if _ then _ else _) = _; simp [Op.lookupswitch.offset, *]) (by decide) ?_
  refine A_joinI 314 (fun vj => vj = bI (decide (x.2.2.2.2.2 < 999))) (fun j314 => ?_) (fun v314 e314 => ?_)
  · skip
    refine A_aload_n 300 dX10_comesTold_299 rfl rfl rfl ?_
    refine A_getfield 303 dX10_comesTold_300 rfl f_X10_118 O28 rfl ?_
    try dsimp only
    refine A_sipush 306 (999) dX10_comesTold_303 rfl (by decide) ?_
    refine A_icmp_ge 313 309 dX10_comesTold_306 (by decide) rfl (fun c306 => ?_) (fun c306 => ?_)
    · skip
      try simp only [bI_0, bI_n0, Classical.not_not, Bool.not_eq_false, Bool.true_and, Bool.and_true, decide_eq_true_eq, decide_eq_false_iff_not, dayC_1, dayC_21, dayC_221, dayC_222, inI_1, inI_2, inI_3, inI_5, inI_11, inI_16] at c306
      have n306 := c306
      replace c306 := Int32.not_lt.mpr c306
      refine A_iconst 314 (0) dX10_comesTold_313 rfl (by decide) ?_
      exact j314 _ (by first | (simp only [e53_98, e53_108, e53_112, e53_116, e53_120, c306, n306, if_true, if_false, ite_true, ite_false, and_true, true_and, and_false, false_and, and_self, or_true, true_or, or_false, false_or, or_self, not_true_eq_false, not_false_eq_true, decide_true, decide_false, Bool.and_true, Bool.true_and, Bool.and_false, Bool.false_and, Bool.and_self, Bool.or_true, Bool.true_or, Bool.or_false, Bool.false_or, Bool.not_true, Bool.not_false, cond_true, cond_false, bI_t, bI_f, Bool.false_eq_true, Bool.true_eq_false, dayC_1, dayC_21, dayC_221, dayC_222, pk, bI, qL]; done) | (simp [pk, bI, qL, *]; done))
    · skip
      try simp only [bI_0, bI_n0, Classical.not_not, Bool.not_eq_false, Bool.true_and, Bool.and_true, decide_eq_true_eq, decide_eq_false_iff_not, dayC_1, dayC_21, dayC_221, dayC_222, inI_1, inI_2, inI_3, inI_5, inI_11, inI_16] at c306
      have n306 := c306
      replace c306 := Int32.not_le.mp c306
      refine A_iconst 310 (1) dX10_comesTold_309 rfl (by decide) ?_
      refine A_goto 314 dX10_comesTold_310 (by decide) ?_
      exact j314 _ (by first | (simp only [e53_98, e53_108, e53_112, e53_116, e53_120, c306, n306, if_true, if_false, ite_true, ite_false, and_true, true_and, and_false, false_and, and_self, or_true, true_or, or_false, false_or, or_self, not_true_eq_false, not_false_eq_true, decide_true, decide_false, Bool.and_true, Bool.true_and, Bool.and_false, Bool.false_and, Bool.and_self, Bool.or_true, Bool.true_or, Bool.or_false, Bool.false_or, Bool.not_true, Bool.not_false, cond_true, cond_false, bI_t, bI_f, Bool.false_eq_true, Bool.true_eq_false, dayC_1, dayC_21, dayC_221, dayC_222, pk, bI, qL]; done) | (simp [pk, bI, qL, *]; done))
  subst e314
  refine A_istore 316 dX10_comesTold_314 rfl (by decide) (by first | exact (ast_s (ast_s (ast_s (ast_s (ast_s (ast_1 rfl)))))) | exact (ast_s (ast_s (ast_s (ast_s (ast_s ast_k)))))) ?_
  refine A_iload 318 dX10_comesTold_316 rfl rfl ?_
  refine A_if_eq 326 321 dX10_comesTold_318 (by decide) rfl (fun c318 => ?_) (fun c318 => ?_)
  · skip
    try simp only [bI_0, bI_n0, Classical.not_not, Bool.not_eq_false, Bool.true_and, Bool.and_true, decide_eq_true_eq, decide_eq_false_iff_not, dayC_1, dayC_21, dayC_221, dayC_222, inI_1, inI_2, inI_3, inI_5, inI_11, inI_16] at c318
    have es : cmT v ta tb td te x = none := (cm_D e53_98 e53_108 e53_112 e53_116 e53_120).trans (if_neg c318)
    refine A_iload 328 dX10_comesTold_326 rfl rfl ?_
    refine A_zret dX10_comesTold_328 rfl (by first | with_reducible exact bI01 _ | with_reducible exact Or.inl rfl | with_reducible exact Or.inr rfl | assumption) ⟨_, rfl, (by rw [es]; first | (rw [decide_eq_true c318]; rfl) | (rw [decide_eq_false c318]; rfl)), _, (by rw [es]; exact O28), hf⟩
  · skip
    try simp only [bI_0, bI_n0, Classical.not_not, Bool.not_eq_false, Bool.true_and, Bool.and_true, decide_eq_true_eq, decide_eq_false_iff_not, dayC_1, dayC_21, dayC_221, dayC_222, inI_1, inI_2, inI_3, inI_5, inI_11, inI_16] at c318
    have es : cmT v ta tb td te x = some (passX x) := (cm_D e53_98 e53_108 e53_112 e53_116 e53_120).trans (if_pos c318)
    refine A_aload_n 322 dX10_comesTold_321 rfl rfl rfl ?_
    refine A_callVI 325 (S_X10_dayPasses X l (by first | assumption | decide | omega | exact Ne.symm (by assumption)) (by first | assumption | decide | omega | exact Ne.symm (by assumption)) (by first | assumption | decide | omega | exact Ne.symm (by assumption))) dX10_comesTold_322 rfl kX10_dayPasses lk_X10_169 rfl O28 (by decide) rfl (Nat.le_of_ble_eq_true rfl) (fun v_10 h_10 qh_10 => ?_)
    obtain ⟨rfl, d_10, n0h_10, eh_10⟩ := qh_10
    replace O28 := n0h_10
    replace hf : ∀ i, i ≠ 28 → h_10 i = h i := fun i g0 => (eh_10 i g0).trans (hf i g0)
    refine A_pop 326 dX10_comesTold_325 rfl rfl ?_
    refine A_iload 328 dX10_comesTold_326 rfl rfl ?_
    refine A_zret dX10_comesTold_328 rfl (by first | with_reducible exact bI01 _ | with_reducible exact Or.inl rfl | with_reducible exact Or.inr rfl | assumption) ⟨_, rfl, (by rw [es]; first | (rw [decide_eq_true c318]; rfl) | (rw [decide_eq_false c318]; rfl)), _, (by rw [es]; exact O28), hf⟩
