/-! the reference: rounds -/
theorem up_x {x : PW} (hx : LOK x) (ht : R8 x.2.2.2.2.1) (hp : x.2.2.2.1 ≤ 6) (h : ∀ p, p < 6 → R8 (x.2.1 p)) (q : Nat) (hq : q < 6) : R8 ((passX x).2.1 q) :=
  foldN_inv (passF x) (x.2.1, 0) (fun _ s => ∀ q, q < 6 → R8 (s.1 q)) h x.2.2.2.1 (fun i s hi hs => up_R8 hs (dEnd_R hx ht 0 (hs i (by omega)))) q hq
theorem dyN_t (x : PW) : ∀ n, (dyN x n).2.2.2.2.1 = x.2.2.2.2.1 := by
  intro n
  induction n with
  | zero => rfl
  | succ n ih => exact ih
theorem dyN_k {x : PW} (hW : WOK x) : ∀ n, ∀ p, p < 6 → R8 ((dyN x n).2.1 p) := by
  intro n
  induction n with
  | zero => exact hW.2.2.1
  | succ n ih => exact up_x (dyN_L hW.1 n) (by rw [dyN_t]; exact WOK_tr hW) (by rw [dyN_p]; exact hW.2.1) ih
theorem lN_or (a b : Nat) : lN a ||| lN b = lN (a ||| b) := by
  rw [← Int64.toBitVec_inj]
  show BitVec.ofNat 64 a ||| BitVec.ofNat 64 b = BitVec.ofNat 64 (a ||| b)
  exact BitVec.ofNat_or.symm
theorem lN_sh8 (n : Nat) : lN n <<< ((8 : Int32).toInt64 &&& 63) = lN (n * 256) := by
  rw [← Int64.toBitVec_inj]
  show BitVec.ofNat 64 n <<< (((8 : Int32).toInt64 &&& 63).toBitVec.smod 64) = BitVec.ofNat 64 (n * 256)
  rw [show ((8 : Int32).toInt64 &&& 63).toBitVec.smod 64 = 8#64 by decide]
  apply BitVec.eq_of_toNat_eq
  rw [BitVec.shiftLeft_eq', BitVec.toNat_shiftLeft, BitVec.toNat_ofNat, BitVec.toNat_ofNat, BitVec.toNat_ofNat, Nat.shiftLeft_eq]
  show n % 2 ^ 64 * 2 ^ 8 % 2 ^ 64 = n * 256 % 2 ^ 64
  omega
theorem lN_put (n b : Nat) (hb : b < 256) : (lN n <<< ((8 : Int32).toInt64 &&& 63)) ||| lN b = lN (n * 256 + b) := by
  rw [lN_sh8, lN_or]
  have h := Nat.two_pow_add_eq_or_of_lt (i := 8) (b := b) (by omega) n
  rw [show n * 256 ||| b = n * 256 + b by rw [Nat.mul_comm n 256]; exact h.symm]
theorem PK_two {x y : PW} {m : Nat} : (∀ p, p < m → R8 (x.2.1 p)) → (∀ p, p < m → R8 (y.2.1 p)) → m ≤ 6 → ∃ a b, a < 256 ^ m ∧ b < 256 ^ m ∧ foldN (pkF x) 0 m = lN a ∧ foldN (pkF y) 0 m = lN b ∧ (a = b ↔ ∀ p, p < m → x.2.1 p = y.2.1 p) := by
  induction m with
  | zero => intro _ _ _; exact ⟨0, 0, by decide, by decide, rfl, rfl, ⟨fun _ p hp => absurd hp (Nat.not_lt_zero p), fun _ => rfl⟩⟩
  | succ m ih =>
    intro hx hy hm
    obtain ⟨a, b, ha, hb, ea, eb, h⟩ := ih (fun p hp => hx p (by omega)) (fun p hp => hy p (by omega)) (by omega)
    obtain ⟨u, hu, eu⟩ := hx m (by omega)
    obtain ⟨v, hv, ev⟩ := hy m (by omega)
    refine ⟨a * 256 + u, b * 256 + v, by rw [Nat.pow_succ]; omega, by rw [Nat.pow_succ]; omega, ?_, ?_, ?_⟩
    · rw [foldN_s, ea]; unfold pkF; rw [eu, nI_l (by omega), lN_put a u hu]
    · rw [foldN_s, eb]; unfold pkF; rw [ev, nI_l (by omega), lN_put b v hv]
    · constructor
      · intro e p hp
        by_cases ep : p = m
        · rw [ep, eu, ev, show u = v by omega]
        · exact h.mp (by omega) p (by omega)
      · intro e
        have e1 := h.mpr (fun p hp => e p (by omega))
        have e2 := e m (by omega)
        rw [eu, ev] at e2
        have e3 := (ninj (by omega) (by omega)).mp e2
        omega
theorem PK_inj {x : PW} (hW : WOK x) (i j : Nat) : seenB x i j = allN (fun p => decide ((dyN x i).2.1 p = (dyN x j).2.1 p)) x.2.2.2.1 := by
  have hp := hW.2.1
  obtain ⟨a, b, ha, hb, ea, eb, h⟩ := PK_two (x := dyN x i) (y := dyN x j) (m := x.2.2.2.1) (fun p q => dyN_k hW i p (by omega)) (fun p q => dyN_k hW j p (by omega)) hp
  have hl : 256 ^ x.2.2.2.1 ≤ 256 ^ 6 := Nat.pow_le_pow_right (by decide) hp
  have e6 : (256 : Nat) ^ 6 = 281474976710656 := by decide
  unfold seenB PK
  rw [dyN_p, dyN_p, ea, eb]
  rw [Bool.eq_iff_iff, decide_eq_true_iff, allN_iff, pk_lEQ (by omega) (by omega), h]
  constructor
  · intro e k hk; exact decide_eq_true (e k hk)
  · intro e k hk; exact of_decide_eq_true (e k hk)
def frX (x : PW) : Nat → Nat → Int32
  | 0, _ => -9
  | m + 1, n => if anyN (fun q => seenB x q n) n = true then nI n else frX x m (n + 1)
theorem frX_s (x : PW) (m n : Nat) : frX x (m + 1) n = if anyN (fun q => seenB x q n) n = true then nI n else frX x m (n + 1) := rfl
theorem frX_eq (x : PW) : ∀ m k, frX x m (k + 1) = frN x m k := by
  intro m
  induction m with
  | zero => intro k; exact Eq.trans (b := -9) rfl rfl
  | succ m ih =>
    intro k
    rw [frX_s, frN_s, ih]
theorem frX_0 (x : PW) : frX x 61 0 = FR x := by
  rw [frX_s, if_neg (by unfold anyN; decide)]
  exact frX_eq x 60 0
theorem anyN_up {f : Nat → Bool} {k n : Nat} (h : anyN f k = true) (hk : k ≤ n) : anyN f n = true := by
  induction n with
  | zero => rw [show k = 0 by omega] at h; exact h
  | succ n ih =>
    by_cases e : k = n + 1
    · rw [← e]; exact h
    · show (anyN f n || f n) = true
      rw [ih (by omega)]; rfl
theorem rd_s {x : PW} {m n : Nat} {r : Int32} (er : r = if anyN (fun q => seenB x q n) n = true then nI n else -9) (h : frX x (m + 1) n = FR x) (hn : n < 1000) : (r = -9 ∧ frX x m (n + 1) = FR x) ∨ (¬ r < 0 ∧ r = FR x) := by
  rw [frX_s] at h
  by_cases c : anyN (fun q => seenB x q n) n = true
  · rw [if_pos c] at h er
    right
    rw [er]
    exact ⟨nI_pos (by omega), h⟩
  · rw [if_neg c] at h er
    left
    exact ⟨er, h⟩
theorem past_s {D : Nat → FI} {ps : FI} {n p m : Nat} (h : (∀ k q, k < n → q < m → ps (6 * k + q) = D k q) ∧ ∀ q, q < p → ps (6 * n + q) = D n q) (hm : m ≤ 6) (hp : p < m) : (∀ k q, k < n → q < m → va_up ps (6 * n + p) (D n p) (6 * k + q) = D k q) ∧ ∀ q, q < p + 1 → va_up ps (6 * n + p) (D n p) (6 * n + q) = D n q := by
  constructor
  · intro k q hk hq
    unfold va_up
    rw [if_neg (by omega)]
    exact h.1 k q hk hq
  · intro q hq
    unfold va_up
    by_cases e : q = p
    · rw [if_pos (by omega), e]
    · rw [if_neg (by omega)]
      exact h.2 q (by omega)
theorem past_e {D : Nat → FI} {ps : FI} {n m : Nat} (h : (∀ k q, k < n → q < m → ps (6 * k + q) = D k q) ∧ ∀ q, q < m → ps (6 * n + q) = D n q) : ∀ k q, k < n + 1 → q < m → ps (6 * k + q) = D k q := by
  intro k q hk hq
  by_cases e : k = n
  · subst e; exact h.2 q hq
  · exact h.1 k q (by omega) hq
theorem nI_mulr (a b : Nat) : nI a * nI b = nI (a * b) := by
  rw [← Int32.toBitVec_inj]
  show BitVec.ofNat 32 a * BitVec.ofNat 32 b = BitVec.ofNat 32 (a * b)
  exact (BitVec.ofNat_mul a b).symm
set_option maxHeartbeats 4000000 in
set_option maxRecDepth 100000 in
theorem S_X10_rounds (X : En) (l : Launch) {h : Hp} {x : PW} {c : RC} {z : RZ} (O28 : h 28 = some (rB x (-1) c z)) (hW : WOK x) : Ct X l mX10_rounds [aR 28 0] h (QI (fun vr h2 => (FR x) = vr ∧ ∃ (z1 : RZ), h2 (28) = some (rB x (-1) c z1) ∧ ∀ i, i ≠ 28 → h2 i = h i)) := by
  have hx := hW.1
  have hp := hW.2.1
  have h10 := hx.1
  have hf : ∀ i, i ≠ 28 → h i = h i := fun _ _ => rfl
  refine Ct.intro [some (aR 28 0), none, none, none, none, none] (by decide +kernel) rfl (Nat.le_of_ble_eq_true rfl) ?_
  refine A_aload_n 1 dX10_rounds_0 rfl rfl rfl ?_
  refine A_iconst 2 (0) dX10_rounds_1 rfl (by decide) ?_
  refine P_X10_9 5 dX10_rounds_2 rfl fw_X10_78 O28 (fun h_1 nh_1 eh_1 => ?_)
  replace O28 := nh_1
  replace hf : ∀ i, i ≠ 28 → h_1 i = h i := fun i g0 => (eh_1 i g0).trans (hf i g0)
  try dsimp only at O28
  refine A_bipush 7 (-9) dX10_rounds_5 rfl (by decide) ?_
  refine A_istore_n 8 dX10_rounds_7 rfl rfl (by decide) (by first | exact (ast_1 rfl) | exact ast_k) ?_
  refine A_aload_n 9 dX10_rounds_8 rfl rfl rfl ?_
  refine A_callVV 12 (S_X10_think X l (by first | assumption | decide | omega | exact Ne.symm (by assumption))) dX10_rounds_9 rfl kX10_think lk_X10_175 rfl O28 (by decide) rfl (Nat.le_of_ble_eq_true rfl) (fun h_2 qh_2 => ?_)
  obtain ⟨n0h_2, eh_2⟩ := qh_2
  replace O28 := n0h_2
  replace hf : ∀ i, i ≠ 28 → h_2 i = h i := fun i g0 => (eh_2 i g0).trans (hf i g0)
  refine A_iconst 13 (0) dX10_rounds_12 rfl (by decide) ?_
  refine A_istore_n 14 dX10_rounds_13 rfl rfl (by decide) (by first | exact (ast_s (ast_1 rfl)) | exact (ast_s ast_k)) ?_
  have L14 : ∀ (nq n : Nat) (r : Int32) (g14 : Hp) (rd0 : RD) (rm0 : RM) (tf0 : FI) (r30 : Nat × Int32 × AV) (cd0 : FI) (gq0 : FI) (ps0 : FI) (r50 : FI × Int32 × Int32), (nq + n = 61) → (((r = -9 ∧ frX x nq n = FR x) ∨ (¬ r < 0 ∧ r = FR x)) ∧ ∀ k q, k < n → q < x.2.2.2.1 → ps0 (6 * k + q) = (dyN x k).2.1 q) → (g14 28 = some (rB (dyN x n) (-1) c (rd0, rm0, (enc x, tf0, r30), cd0, gq0, ps0, r50))) → (∀ i, i ≠ 28 → g14 i = h i) → Av X l mX10_rounds 14 [some (aR 28 0), some (aI (r)), some (aI (nI (n))), none, none, none] [] g14 (QI (fun vr h2 => (FR x) = vr ∧ ∃ (z1 : RZ), h2 (28) = some (rB x (-1) c z1) ∧ ∀ i, i ≠ 28 → h2 i = h i)) := by
    intro nq
    induction nq using Nat.strongRecOn with
    | _ nq ih =>
    intro n r g14 rd0 rm0 tf0 r30 cd0 gq0 ps0 r50 en hy O28 hf
    refine A_iload_n 15 dX10_rounds_14 rfl rfl rfl ?_
    refine A_bipush 17 (60) dX10_rounds_15 rfl (by decide) ?_
    refine A_icmp_gt 152 20 dX10_rounds_17 (by decide) rfl (fun c17 => ?_) (fun c17 => ?_)
    · skip
      obtain rfl := (up_gt_T (N := 61) c17 rfl (by omega) (by omega) (by omega)).symm
      have ev : r = FR x := by
        rcases hy.1 with q | q
        · rw [q.1, ← q.2, show nq = 0 by omega]; rfl
        · exact q.2
      refine A_aload_n 153 dX10_rounds_152 rfl rfl rfl ?_
      refine A_callVV 156 (S_X10_again X l (by first | assumption | decide | omega | exact Ne.symm (by assumption))) dX10_rounds_153 rfl kX10_again lk_X10_181 rfl O28 (by decide) rfl (Nat.le_of_ble_eq_true rfl) (fun h_3 qh_3 => ?_)
      obtain ⟨n0h_3, eh_3⟩ := qh_3
      replace O28 := n0h_3
      replace hf : ∀ i, i ≠ 28 → h_3 i = h i := fun i g0 => (eh_3 i g0).trans (hf i g0)
      refine A_iload_n 157 dX10_rounds_156 rfl rfl rfl ?_
      refine A_iret dX10_rounds_157 rfl ⟨_, rfl, (by exact ev.symm), _, O28, hf⟩
    · skip
      have hi := up_gt_F (N := 61) c17 rfl (by omega) (by omega) (by omega)
      obtain ⟨n0, rfl⟩ : ∃ q, nq = q + 1 := ⟨nq - 1, by omega⟩
      refine A_iload_n 21 dX10_rounds_20 rfl rfl rfl ?_
      refine A_if_ge 152 24 dX10_rounds_21 (by decide) rfl (fun c21 => ?_) (fun c21 => ?_)
      · skip
        try simp only [bI_0, bI_n0, Classical.not_not, Bool.not_eq_false, Bool.true_and, Bool.and_true, decide_eq_true_eq, decide_eq_false_iff_not, dayC_1, dayC_21, dayC_221, dayC_222, inI_1, inI_2, inI_3, inI_5, inI_11, inI_16] at c21
        have n21 := c21
        replace c21 := Int32.not_lt.mpr c21
        have ev : r = FR x := by
          rcases hy.1 with q | q
          · rw [q.1] at c21; exact absurd c21 (by decide)
          · exact q.2
        refine A_aload_n 153 dX10_rounds_152 rfl rfl rfl ?_
        refine A_callVV 156 (S_X10_again X l (by first | assumption | decide | omega | exact Ne.symm (by assumption))) dX10_rounds_153 rfl kX10_again lk_X10_181 rfl O28 (by decide) rfl (Nat.le_of_ble_eq_true rfl) (fun h_4 qh_4 => ?_)
        obtain ⟨n0h_4, eh_4⟩ := qh_4
        replace O28 := n0h_4
        replace hf : ∀ i, i ≠ 28 → h_4 i = h i := fun i g0 => (eh_4 i g0).trans (hf i g0)
        refine A_iload_n 157 dX10_rounds_156 rfl rfl rfl ?_
        refine A_iret dX10_rounds_157 rfl ⟨_, rfl, (by exact ev.symm), _, O28, hf⟩
      · skip
        try simp only [bI_0, bI_n0, Classical.not_not, Bool.not_eq_false, Bool.true_and, Bool.and_true, decide_eq_true_eq, decide_eq_false_iff_not, dayC_1, dayC_21, dayC_221, dayC_222, inI_1, inI_2, inI_3, inI_5, inI_11, inI_16] at c21
        have n21 := c21
        replace c21 := Int32.not_le.mp c21
        obtain ⟨rfl, hf9⟩ := hy.1.resolve_right (fun q => q.1 c21)
        refine A_iconst 25 (0) dX10_rounds_24 rfl (by decide) ?_
        refine A_istore_n 26 dX10_rounds_25 rfl rfl (by decide) (by first | exact (ast_s (ast_s (ast_1 rfl))) | exact (ast_s (ast_s ast_k))) ?_
        have L26 : ∀ (nqb k : Nat) (r1 : Int32) , (nqb + k = n) → (r1 = if anyN (fun q => seenB x q n) k = true then nI n else -9) → Av X l mX10_rounds 26 [some (aR 28 0), some (aI (r1)), some (aI (nI (n))), some (aI (nI (k))), none, none] [] g14 (QI (fun vr h2 => (FR x) = vr ∧ ∃ (z1 : RZ), h2 (28) = some (rB x (-1) c z1) ∧ ∀ i, i ≠ 28 → h2 i = h i)) := by
          intro nqb
          induction nqb using Nat.strongRecOn with
          | _ nqb ihb =>
          intro k r1 enb eeb
          refine A_iload_n 27 dX10_rounds_26 rfl rfl rfl ?_
          refine A_iload_n 28 dX10_rounds_27 rfl rfl rfl ?_
          refine A_icmp_ge 108 31 dX10_rounds_28 (by decide) rfl (fun c28 => ?_) (fun c28 => ?_)
          · skip
            obtain rfl := (up_ge_T (N := n) c28 rfl (by omega) (by omega)).symm
            have er : r1 = if anyN (fun q => seenB x q n) n = true then nI n else -9 := eeb
            refine A_iconst 109 (0) dX10_rounds_108 rfl (by decide) ?_
            refine A_istore_n 110 dX10_rounds_109 rfl rfl (by decide) (by first | exact (ast_s (ast_s (ast_1 rfl))) | exact (ast_s (ast_s ast_k))) ?_
            have L110 : ∀ (nqe p : Nat)  (g110 : Hp) (rd1 : RD) (rm1 : RM) (tf1 : FI) (r31 : Nat × Int32 × AV) (cd1 : FI) (gq1 : FI) (ps1 : FI) (r51 : FI × Int32 × Int32), (nqe + p = x.2.2.2.1) → ((∀ k q, k < n → q < x.2.2.2.1 → ps1 (6 * k + q) = (dyN x k).2.1 q) ∧ ∀ q, q < p → ps1 (6 * n + q) = (dyN x n).2.1 q) → (g110 28 = some (rB (dyN x n) (-1) c (rd1, rm1, (enc x, tf1, r31), cd1, gq1, ps1, r51))) → (∀ i, i ≠ 28 → g110 i = h i) → Av X l mX10_rounds 110 [some (aR 28 0), some (aI (r1)), some (aI (nI (n))), some (aI (nI (p))), none, none] [] g110 (QI (fun vr h2 => (FR x) = vr ∧ ∃ (z1 : RZ), h2 (28) = some (rB x (-1) c z1) ∧ ∀ i, i ≠ 28 → h2 i = h i)) := by
              intro nqe
              induction nqe using Nat.strongRecOn with
              | _ nqe ihe =>
              intro p g110 rd1 rm1 tf1 r31 cd1 gq1 ps1 r51 ene hye O28 hf
              refine A_iload_n 111 dX10_rounds_110 rfl rfl rfl ?_
              refine A_aload_n 112 dX10_rounds_111 rfl rfl rfl ?_
              refine A_getfield 115 dX10_rounds_112 rfl f_X10_81 O28 rfl ?_
              try dsimp only
              rw [dyN_p]
              refine A_icmp_ge 141 118 dX10_rounds_115 (by decide) rfl (fun c115 => ?_) (fun c115 => ?_)
              · skip
                obtain rfl := (up_ge_T (N := x.2.2.2.1) c115 rfl (by omega) (by omega)).symm
                refine A_aload_n 142 dX10_rounds_141 rfl rfl rfl ?_
                refine A_callVI 145 (S_X10_dayPasses X l O28 (dyN_L hx n) (by rw [dyN_p]; exact hp)) dX10_rounds_142 rfl kX10_dayPasses lk_X10_169 rfl O28 (by decide) rfl (Nat.le_of_ble_eq_true rfl) (fun v_5 h_5 qh_5 => ?_)
                obtain ⟨rfl, d_5, n0h_5, eh_5⟩ := qh_5
                replace O28 := n0h_5
                replace hf : ∀ i, i ≠ 28 → h_5 i = h i := fun i g0 => (eh_5 i g0).trans (hf i g0)
                refine A_pop 146 dX10_rounds_145 rfl rfl ?_
                first | refine A_iincN 149 dX10_rounds_146 rfl rfl (by decide) (by first | exact (ast_s (ast_1 rfl)) | exact (ast_s ast_k)) ?_ | refine A_iinc 149 (1) dX10_rounds_146 rfl rfl (by decide) (by decide) (by first | exact (ast_s (ast_1 rfl)) | exact (ast_s ast_k)) ?_
                refine A_goto 14 dX10_rounds_149 (by decide) ?_
                exact A_weak (ih n0 (Nat.lt_succ_self n0) (n + 1) _ h_5 _ _ _ _ _ _ _ _ (by omega)  (⟨rd_s er hf9 (by omega), past_e (D := fun k => (dyN x k).2.1) hye⟩) O28 hf) (sub_s (sub_s (sub_s (sub_n (sub_n (sub_n sub_nil))))))
              · skip
                have hie := up_ge_F (N := x.2.2.2.1) c115 rfl (by omega) (by omega)
                obtain ⟨n0e, rfl⟩ : ∃ q, nqe = q + 1 := ⟨nqe - 1, by omega⟩
                refine A_aload_n 119 dX10_rounds_118 rfl rfl rfl ?_
                refine A_getfield 122 dX10_rounds_119 rfl f_X10_72 O28 rfl ?_
                refine A_bipush 124 (6) dX10_rounds_122 rfl (by decide) ?_
                refine A_iload_n 125 dX10_rounds_124 rfl rfl rfl ?_
                refine A_imul 126 dX10_rounds_125 rfl ?_
                rw [show (6 : Int32) = nI 6 from rfl, nI_mulr]
                refine A_iload_n 127 dX10_rounds_126 rfl rfl rfl ?_
                refine A_iadd 128 dX10_rounds_127 rfl ?_
                rw [nI_add]
                refine A_aload_n 129 dX10_rounds_128 rfl rfl rfl ?_
                refine A_getfield 132 dX10_rounds_129 rfl f_X10_22 O28 rfl ?_
                refine A_iload_n 133 dX10_rounds_132 rfl rfl rfl ?_
                refine A_iaload 134 dX10_rounds_133 rfl O28 rfl (by first | assumption | exact ix_nI (by omega) (by decide) | exact ix_lit _ rfl (by omega) (by decide) | exact ix_lit _ rfl (by decide) (by decide)) ?_
                try dsimp only
                refine T_X10_19 135 dX10_rounds_134 rfl O28 (by first | assumption | exact ix_nI (by omega) (by decide) | exact ix_lit _ rfl (by omega) (by decide) | exact ix_lit _ rfl (by decide) (by decide)) (fun h_6 nh_6 eh_6 => ?_)
                replace O28 := nh_6
                replace hf : ∀ i, i ≠ 28 → h_6 i = h i := fun i g0 => (eh_6 i g0).trans (hf i g0)
                try dsimp only at O28
                first | refine A_iincN 138 dX10_rounds_135 rfl rfl (by decide) (by first | exact (ast_s (ast_s (ast_1 rfl))) | exact (ast_s (ast_s ast_k))) ?_ | refine A_iinc 138 (1) dX10_rounds_135 rfl rfl (by decide) (by decide) (by first | exact (ast_s (ast_s (ast_1 rfl))) | exact (ast_s (ast_s ast_k))) ?_
                refine A_goto 110 dX10_rounds_138 (by decide) ?_
                exact A_weak (ihe n0e (Nat.lt_succ_self n0e) (p + 1)  h_6 _ _ _ _ _ _ _ _ (by omega)  (past_s (D := fun k => (dyN x k).2.1) hye hp hie) O28 hf) (sub_s (sub_s (sub_s (sub_s (sub_n (sub_n sub_nil))))))
            exact A_weak (L110 (x.2.2.2.1) (0)  g14 (_) (_) (_) (_) (_) (_) (_) (_) (by omega)  (⟨hy.2, fun q hq => absurd hq (Nat.not_lt_zero q)⟩) O28 hf) (sub_s (sub_s (sub_s (sub_s (sub_n (sub_n sub_nil))))))
          · skip
            have hib := up_ge_F (N := n) c28 rfl (by omega) (by omega)
            obtain ⟨n0b, rfl⟩ : ∃ q, nqb = q + 1 := ⟨nqb - 1, by omega⟩
            refine A_iload_n 32 dX10_rounds_31 rfl rfl rfl ?_
            refine A_if_ge 108 35 dX10_rounds_32 (by decide) rfl (fun c32 => ?_) (fun c32 => ?_)
            · skip
              try simp only [bI_0, bI_n0, Classical.not_not, Bool.not_eq_false, Bool.true_and, Bool.and_true, decide_eq_true_eq, decide_eq_false_iff_not, dayC_1, dayC_21, dayC_221, dayC_222, inI_1, inI_2, inI_3, inI_5, inI_11, inI_16] at c32
              have n32 := c32
              replace c32 := Int32.not_lt.mpr c32
              have er : r1 = if anyN (fun q => seenB x q n) n = true then nI n else -9 := by
                rcases Bool.eq_false_or_eq_true (anyN (fun q => seenB x q n) k) with q | q
                · rw [if_pos (anyN_up q (by omega)), eeb, if_pos q]
                · rw [eeb, if_neg (by rw [q]; decide)] at c32
                  exact absurd c32 (by decide)
              refine A_iconst 109 (0) dX10_rounds_108 rfl (by decide) ?_
              refine A_istore_n 110 dX10_rounds_109 rfl rfl (by decide) (by first | exact (ast_s (ast_s (ast_1 rfl))) | exact (ast_s (ast_s ast_k))) ?_
              have L110 : ∀ (nqe p : Nat)  (g110 : Hp) (rd1 : RD) (rm1 : RM) (tf1 : FI) (r31 : Nat × Int32 × AV) (cd1 : FI) (gq1 : FI) (ps1 : FI) (r51 : FI × Int32 × Int32), (nqe + p = x.2.2.2.1) → ((∀ k q, k < n → q < x.2.2.2.1 → ps1 (6 * k + q) = (dyN x k).2.1 q) ∧ ∀ q, q < p → ps1 (6 * n + q) = (dyN x n).2.1 q) → (g110 28 = some (rB (dyN x n) (-1) c (rd1, rm1, (enc x, tf1, r31), cd1, gq1, ps1, r51))) → (∀ i, i ≠ 28 → g110 i = h i) → Av X l mX10_rounds 110 [some (aR 28 0), some (aI (r1)), some (aI (nI (n))), some (aI (nI (p))), none, none] [] g110 (QI (fun vr h2 => (FR x) = vr ∧ ∃ (z1 : RZ), h2 (28) = some (rB x (-1) c z1) ∧ ∀ i, i ≠ 28 → h2 i = h i)) := by
                intro nqe
                induction nqe using Nat.strongRecOn with
                | _ nqe ihe =>
                intro p g110 rd1 rm1 tf1 r31 cd1 gq1 ps1 r51 ene hye O28 hf
                refine A_iload_n 111 dX10_rounds_110 rfl rfl rfl ?_
                refine A_aload_n 112 dX10_rounds_111 rfl rfl rfl ?_
                refine A_getfield 115 dX10_rounds_112 rfl f_X10_81 O28 rfl ?_
                try dsimp only
                rw [dyN_p]
                refine A_icmp_ge 141 118 dX10_rounds_115 (by decide) rfl (fun c115 => ?_) (fun c115 => ?_)
                · skip
                  obtain rfl := (up_ge_T (N := x.2.2.2.1) c115 rfl (by omega) (by omega)).symm
                  refine A_aload_n 142 dX10_rounds_141 rfl rfl rfl ?_
                  refine A_callVI 145 (S_X10_dayPasses X l O28 (dyN_L hx n) (by rw [dyN_p]; exact hp)) dX10_rounds_142 rfl kX10_dayPasses lk_X10_169 rfl O28 (by decide) rfl (Nat.le_of_ble_eq_true rfl) (fun v_7 h_7 qh_7 => ?_)
                  obtain ⟨rfl, d_7, n0h_7, eh_7⟩ := qh_7
                  replace O28 := n0h_7
                  replace hf : ∀ i, i ≠ 28 → h_7 i = h i := fun i g0 => (eh_7 i g0).trans (hf i g0)
                  refine A_pop 146 dX10_rounds_145 rfl rfl ?_
                  first | refine A_iincN 149 dX10_rounds_146 rfl rfl (by decide) (by first | exact (ast_s (ast_1 rfl)) | exact (ast_s ast_k)) ?_ | refine A_iinc 149 (1) dX10_rounds_146 rfl rfl (by decide) (by decide) (by first | exact (ast_s (ast_1 rfl)) | exact (ast_s ast_k)) ?_
                  refine A_goto 14 dX10_rounds_149 (by decide) ?_
                  exact A_weak (ih n0 (Nat.lt_succ_self n0) (n + 1) _ h_7 _ _ _ _ _ _ _ _ (by omega)  (⟨rd_s er hf9 (by omega), past_e (D := fun k => (dyN x k).2.1) hye⟩) O28 hf) (sub_s (sub_s (sub_s (sub_n (sub_n (sub_n sub_nil))))))
                · skip
                  have hie := up_ge_F (N := x.2.2.2.1) c115 rfl (by omega) (by omega)
                  obtain ⟨n0e, rfl⟩ : ∃ q, nqe = q + 1 := ⟨nqe - 1, by omega⟩
                  refine A_aload_n 119 dX10_rounds_118 rfl rfl rfl ?_
                  refine A_getfield 122 dX10_rounds_119 rfl f_X10_72 O28 rfl ?_
                  refine A_bipush 124 (6) dX10_rounds_122 rfl (by decide) ?_
                  refine A_iload_n 125 dX10_rounds_124 rfl rfl rfl ?_
                  refine A_imul 126 dX10_rounds_125 rfl ?_
                  rw [show (6 : Int32) = nI 6 from rfl, nI_mulr]
                  refine A_iload_n 127 dX10_rounds_126 rfl rfl rfl ?_
                  refine A_iadd 128 dX10_rounds_127 rfl ?_
                  rw [nI_add]
                  refine A_aload_n 129 dX10_rounds_128 rfl rfl rfl ?_
                  refine A_getfield 132 dX10_rounds_129 rfl f_X10_22 O28 rfl ?_
                  refine A_iload_n 133 dX10_rounds_132 rfl rfl rfl ?_
                  refine A_iaload 134 dX10_rounds_133 rfl O28 rfl (by first | assumption | exact ix_nI (by omega) (by decide) | exact ix_lit _ rfl (by omega) (by decide) | exact ix_lit _ rfl (by decide) (by decide)) ?_
                  try dsimp only
                  refine T_X10_19 135 dX10_rounds_134 rfl O28 (by first | assumption | exact ix_nI (by omega) (by decide) | exact ix_lit _ rfl (by omega) (by decide) | exact ix_lit _ rfl (by decide) (by decide)) (fun h_8 nh_8 eh_8 => ?_)
                  replace O28 := nh_8
                  replace hf : ∀ i, i ≠ 28 → h_8 i = h i := fun i g0 => (eh_8 i g0).trans (hf i g0)
                  try dsimp only at O28
                  first | refine A_iincN 138 dX10_rounds_135 rfl rfl (by decide) (by first | exact (ast_s (ast_s (ast_1 rfl))) | exact (ast_s (ast_s ast_k))) ?_ | refine A_iinc 138 (1) dX10_rounds_135 rfl rfl (by decide) (by decide) (by first | exact (ast_s (ast_s (ast_1 rfl))) | exact (ast_s (ast_s ast_k))) ?_
                  refine A_goto 110 dX10_rounds_138 (by decide) ?_
                  exact A_weak (ihe n0e (Nat.lt_succ_self n0e) (p + 1)  h_8 _ _ _ _ _ _ _ _ (by omega)  (past_s (D := fun k => (dyN x k).2.1) hye hp hie) O28 hf) (sub_s (sub_s (sub_s (sub_s (sub_n (sub_n sub_nil))))))
              exact A_weak (L110 (x.2.2.2.1) (0)  g14 (_) (_) (_) (_) (_) (_) (_) (_) (by omega)  (⟨hy.2, fun q hq => absurd hq (Nat.not_lt_zero q)⟩) O28 hf) (sub_s (sub_s (sub_s (sub_s (sub_n (sub_n sub_nil))))))
            · skip
              try simp only [bI_0, bI_n0, Classical.not_not, Bool.not_eq_false, Bool.true_and, Bool.and_true, decide_eq_true_eq, decide_eq_false_iff_not, dayC_1, dayC_21, dayC_221, dayC_222, inI_1, inI_2, inI_3, inI_5, inI_11, inI_16] at c32
              have n32 := c32
              replace c32 := Int32.not_le.mp c32
              have q9 : anyN (fun q => seenB x q n) k = false := by
                rcases Bool.eq_false_or_eq_true (anyN (fun q => seenB x q n) k) with q | q
                · rw [eeb, if_pos q] at c32
                  exact absurd c32 (nI_pos (by omega))
                · exact q
              refine A_iconst 36 (1) dX10_rounds_35 rfl (by decide) ?_
              refine A_istore 38 dX10_rounds_36 rfl (by decide) (by first | exact (ast_s (ast_s (ast_s (ast_1 rfl)))) | exact (ast_s (ast_s (ast_s ast_k)))) ?_
              refine A_iconst 39 (0) dX10_rounds_38 rfl (by decide) ?_
              refine A_istore 41 dX10_rounds_39 rfl (by decide) (by first | exact (ast_s (ast_s (ast_s (ast_s (ast_1 rfl))))) | exact (ast_s (ast_s (ast_s (ast_s ast_k))))) ?_
              have L41 : ∀ (nqc p : Nat) (s : Int32) , (nqc + p = x.2.2.2.1) → (s = bI (allN (fun p => decide ((dyN x k).2.1 p = (dyN x n).2.1 p)) p)) → Av X l mX10_rounds 41 [some (aR 28 0), none, some (aI (nI (n))), some (aI (nI (k))), some (aI (s)), some (aI (nI (p)))] [] g14 (QI (fun vr h2 => (FR x) = vr ∧ ∃ (z1 : RZ), h2 (28) = some (rB x (-1) c z1) ∧ ∀ i, i ≠ 28 → h2 i = h i)) := by
                intro nqc
                induction nqc using Nat.strongRecOn with
                | _ nqc ihc =>
                intro p s enc eec
                subst eec
                refine A_iload 43 dX10_rounds_41 rfl rfl ?_
                refine A_aload_n 44 dX10_rounds_43 rfl rfl rfl ?_
                refine A_getfield 47 dX10_rounds_44 rfl f_X10_81 O28 rfl ?_
                try dsimp only
                rw [dyN_p]
                refine A_icmp_ge 90 50 dX10_rounds_47 (by decide) rfl (fun c47 => ?_) (fun c47 => ?_)
                · skip
                  obtain rfl := (up_ge_T (N := x.2.2.2.1) c47 rfl (by omega) (by omega)).symm
                  refine A_iload 92 dX10_rounds_90 rfl rfl ?_
                  refine A_if_eq 99 95 dX10_rounds_92 (by decide) rfl (fun c92 => ?_) (fun c92 => ?_)
                  · skip
                    try simp only [bI_0, bI_n0, Classical.not_not, Bool.not_eq_false, Bool.true_and, Bool.and_true, decide_eq_true_eq, decide_eq_false_iff_not, dayC_1, dayC_21, dayC_221, dayC_222, inI_1, inI_2, inI_3, inI_5, inI_11, inI_16] at c92
                    refine A_bipush 101 (-9) dX10_rounds_99 rfl (by decide) ?_
                    refine A_istore_n 102 dX10_rounds_101 rfl rfl (by decide) (by first | exact (ast_1 rfl) | exact ast_k) ?_
                    first | refine A_iincN 105 dX10_rounds_102 rfl rfl (by decide) (by first | exact (ast_s (ast_s (ast_1 rfl))) | exact (ast_s (ast_s ast_k))) ?_ | refine A_iinc 105 (1) dX10_rounds_102 rfl rfl (by decide) (by decide) (by first | exact (ast_s (ast_s (ast_1 rfl))) | exact (ast_s (ast_s ast_k))) ?_
                    refine A_goto 26 dX10_rounds_105 (by decide) ?_
                    exact A_weak (ihb n0b (Nat.lt_succ_self n0b) (k + 1) _  (by omega) ((by show _ = if (anyN (fun q => seenB x q n) k || seenB x k n) = true then _ else _; rw [q9, Bool.false_or, PK_inj hW k n]; first | rw [if_pos c92] | rw [if_neg (by rw [c92]; decide)])) ) (sub_s (sub_s (sub_s (sub_s (sub_n (sub_n sub_nil))))))
                  · skip
                    try simp only [bI_0, bI_n0, Classical.not_not, Bool.not_eq_false, Bool.true_and, Bool.and_true, decide_eq_true_eq, decide_eq_false_iff_not, dayC_1, dayC_21, dayC_221, dayC_222, inI_1, inI_2, inI_3, inI_5, inI_11, inI_16] at c92
                    refine A_iload_n 96 dX10_rounds_95 rfl rfl rfl ?_
                    refine A_goto 101 dX10_rounds_96 (by decide) ?_
                    refine A_istore_n 102 dX10_rounds_101 rfl rfl (by decide) (by first | exact (ast_1 rfl) | exact ast_k) ?_
                    first | refine A_iincN 105 dX10_rounds_102 rfl rfl (by decide) (by first | exact (ast_s (ast_s (ast_1 rfl))) | exact (ast_s (ast_s ast_k))) ?_ | refine A_iinc 105 (1) dX10_rounds_102 rfl rfl (by decide) (by decide) (by first | exact (ast_s (ast_s (ast_1 rfl))) | exact (ast_s (ast_s ast_k))) ?_
                    refine A_goto 26 dX10_rounds_105 (by decide) ?_
                    exact A_weak (ihb n0b (Nat.lt_succ_self n0b) (k + 1) _  (by omega) ((by show _ = if (anyN (fun q => seenB x q n) k || seenB x k n) = true then _ else _; rw [q9, Bool.false_or, PK_inj hW k n]; first | rw [if_pos c92] | rw [if_neg (by rw [c92]; decide)])) ) (sub_s (sub_s (sub_s (sub_s (sub_n (sub_n sub_nil))))))
                · skip
                  have hic := up_ge_F (N := x.2.2.2.1) c47 rfl (by omega) (by omega)
                  obtain ⟨n0c, rfl⟩ : ∃ q, nqc = q + 1 := ⟨nqc - 1, by omega⟩
                  refine A_iload 52 dX10_rounds_50 rfl rfl ?_
                  refine A_if_eq 81 55 dX10_rounds_52 (by decide) rfl (fun c52 => ?_) (fun c52 => ?_)
                  · skip
                    try simp only [bI_0, bI_n0, Classical.not_not, Bool.not_eq_false, Bool.true_and, Bool.and_true, decide_eq_true_eq, decide_eq_false_iff_not, dayC_1, dayC_21, dayC_221, dayC_222, inI_1, inI_2, inI_3, inI_5, inI_11, inI_16] at c52
                    refine A_iconst 82 (0) dX10_rounds_81 rfl (by decide) ?_
                    refine A_istore 84 dX10_rounds_82 rfl (by decide) (by first | exact (ast_s (ast_s (ast_s (ast_1 rfl)))) | exact (ast_s (ast_s (ast_s ast_k)))) ?_
                    first | refine A_iincN 87 dX10_rounds_84 rfl rfl (by decide) (by first | exact (ast_s (ast_s (ast_s (ast_s (ast_1 rfl))))) | exact (ast_s (ast_s (ast_s (ast_s ast_k))))) ?_ | refine A_iinc 87 (1) dX10_rounds_84 rfl rfl (by decide) (by decide) (by first | exact (ast_s (ast_s (ast_s (ast_s (ast_1 rfl))))) | exact (ast_s (ast_s (ast_s (ast_s ast_k))))) ?_
                    refine A_goto 41 dX10_rounds_87 (by decide) ?_
                    exact A_weak (ihc n0c (Nat.lt_succ_self n0c) (p + 1) _  (by omega) ((by first | (simp only [c21, n21, c32, n32, c52, if_true, if_false, ite_true, ite_false, and_true, true_and, and_false, false_and, and_self, or_true, true_or, or_false, false_or, or_self, not_true_eq_false, not_false_eq_true, decide_true, decide_false, Bool.and_true, Bool.true_and, Bool.and_false, Bool.false_and, Bool.and_self, Bool.or_true, Bool.true_or, Bool.or_false, Bool.false_or, Bool.not_true, Bool.not_false, cond_true, cond_false, bI_t, bI_f, Bool.false_eq_true, Bool.true_eq_false, dayC_1, dayC_21, dayC_221, dayC_222, allN]; done) | (simp only [c21, n21, c32, n32, eq_true c52, if_true, if_false, ite_true, ite_false, and_true, true_and, and_false, false_and, and_self, or_true, true_or, or_false, false_or, or_self, not_true_eq_false, not_false_eq_true, decide_true, decide_false, Bool.and_true, Bool.true_and, Bool.and_false, Bool.false_and, Bool.and_self, Bool.or_true, Bool.true_or, Bool.or_false, Bool.false_or, Bool.not_true, Bool.not_false, cond_true, cond_false, bI_t, bI_f, Bool.false_eq_true, Bool.true_eq_false, dayC_1, dayC_21, dayC_221, dayC_222, allN]; done))) ) (sub_s (sub_n (sub_s (sub_s (sub_s (sub_s sub_nil))))))
                  · skip
                    try simp only [bI_0, bI_n0, Classical.not_not, Bool.not_eq_false, Bool.true_and, Bool.and_true, decide_eq_true_eq, decide_eq_false_iff_not, dayC_1, dayC_21, dayC_221, dayC_222, inI_1, inI_2, inI_3, inI_5, inI_11, inI_16] at c52
                    refine A_aload_n 56 dX10_rounds_55 rfl rfl rfl ?_
                    refine A_getfield 59 dX10_rounds_56 rfl f_X10_72 O28 rfl ?_
                    refine A_bipush 61 (6) dX10_rounds_59 rfl (by decide) ?_
                    refine A_iload_n 62 dX10_rounds_61 rfl rfl rfl ?_
                    refine A_imul 63 dX10_rounds_62 rfl ?_
                    rw [show (6 : Int32) = nI 6 from rfl, nI_mulr]
                    refine A_iload 65 dX10_rounds_63 rfl rfl ?_
                    refine A_iadd 66 dX10_rounds_65 rfl ?_
                    rw [nI_add]
                    refine A_iaload 67 dX10_rounds_66 rfl O28 rfl (by first | assumption | exact ix_nI (by omega) (by decide) | exact ix_lit _ rfl (by omega) (by decide) | exact ix_lit _ rfl (by decide) (by decide)) ?_
                    try dsimp only
                    rw [hy.2 k p (by omega) (by omega)]
                    refine A_aload_n 68 dX10_rounds_67 rfl rfl rfl ?_
                    refine A_getfield 71 dX10_rounds_68 rfl f_X10_22 O28 rfl ?_
                    refine A_iload 73 dX10_rounds_71 rfl rfl ?_
                    refine A_iaload 74 dX10_rounds_73 rfl O28 rfl (by first | assumption | exact ix_nI (by omega) (by decide) | exact ix_lit _ rfl (by omega) (by decide) | exact ix_lit _ rfl (by decide) (by decide)) ?_
                    try dsimp only
                    refine A_icmp_ne 81 77 dX10_rounds_74 (by decide) rfl (fun c74 => ?_) (fun c74 => ?_)
                    · skip
                      try simp only [bI_0, bI_n0, Classical.not_not, Bool.not_eq_false, Bool.true_and, Bool.and_true, decide_eq_true_eq, decide_eq_false_iff_not, dayC_1, dayC_21, dayC_221, dayC_222, inI_1, inI_2, inI_3, inI_5, inI_11, inI_16] at c74
                      refine A_iconst 82 (0) dX10_rounds_81 rfl (by decide) ?_
                      refine A_istore 84 dX10_rounds_82 rfl (by decide) (by first | exact (ast_s (ast_s (ast_s (ast_1 rfl)))) | exact (ast_s (ast_s (ast_s ast_k)))) ?_
                      first | refine A_iincN 87 dX10_rounds_84 rfl rfl (by decide) (by first | exact (ast_s (ast_s (ast_s (ast_s (ast_1 rfl))))) | exact (ast_s (ast_s (ast_s (ast_s ast_k))))) ?_ | refine A_iinc 87 (1) dX10_rounds_84 rfl rfl (by decide) (by decide) (by first | exact (ast_s (ast_s (ast_s (ast_s (ast_1 rfl))))) | exact (ast_s (ast_s (ast_s (ast_s ast_k))))) ?_
                      refine A_goto 41 dX10_rounds_87 (by decide) ?_
                      exact A_weak (ihc n0c (Nat.lt_succ_self n0c) (p + 1) _  (by omega) ((by first | (simp only [c21, n21, c32, n32, c52, c74, if_true, if_false, ite_true, ite_false, and_true, true_and, and_false, false_and, and_self, or_true, true_or, or_false, false_or, or_self, not_true_eq_false, not_false_eq_true, decide_true, decide_false, Bool.and_true, Bool.true_and, Bool.and_false, Bool.false_and, Bool.and_self, Bool.or_true, Bool.true_or, Bool.or_false, Bool.false_or, Bool.not_true, Bool.not_false, cond_true, cond_false, bI_t, bI_f, Bool.false_eq_true, Bool.true_eq_false, dayC_1, dayC_21, dayC_221, dayC_222, allN]; done))) ) (sub_s (sub_n (sub_s (sub_s (sub_s (sub_s sub_nil))))))
                    · skip
                      try simp only [bI_0, bI_n0, Classical.not_not, Bool.not_eq_false, Bool.true_and, Bool.and_true, decide_eq_true_eq, decide_eq_false_iff_not, dayC_1, dayC_21, dayC_221, dayC_222, inI_1, inI_2, inI_3, inI_5, inI_11, inI_16] at c74
                      refine A_iconst 78 (1) dX10_rounds_77 rfl (by decide) ?_
                      refine A_goto 82 dX10_rounds_78 (by decide) ?_
                      refine A_istore 84 dX10_rounds_82 rfl (by decide) (by first | exact (ast_s (ast_s (ast_s (ast_1 rfl)))) | exact (ast_s (ast_s (ast_s ast_k)))) ?_
                      first | refine A_iincN 87 dX10_rounds_84 rfl rfl (by decide) (by first | exact (ast_s (ast_s (ast_s (ast_s (ast_1 rfl))))) | exact (ast_s (ast_s (ast_s (ast_s ast_k))))) ?_ | refine A_iinc 87 (1) dX10_rounds_84 rfl rfl (by decide) (by decide) (by first | exact (ast_s (ast_s (ast_s (ast_s (ast_1 rfl))))) | exact (ast_s (ast_s (ast_s (ast_s ast_k))))) ?_
                      refine A_goto 41 dX10_rounds_87 (by decide) ?_
                      exact A_weak (ihc n0c (Nat.lt_succ_self n0c) (p + 1) _  (by omega) ((by first | (simp only [c21, n21, c32, n32, c52, c74, if_true, if_false, ite_true, ite_false, and_true, true_and, and_false, false_and, and_self, or_true, true_or, or_false, false_or, or_self, not_true_eq_false, not_false_eq_true, decide_true, decide_false, Bool.and_true, Bool.true_and, Bool.and_false, Bool.false_and, Bool.and_self, Bool.or_true, Bool.true_or, Bool.or_false, Bool.false_or, Bool.not_true, Bool.not_false, cond_true, cond_false, bI_t, bI_f, Bool.false_eq_true, Bool.true_eq_false, dayC_1, dayC_21, dayC_221, dayC_222, allN]; done) | (simp only [c21, n21, c32, n32, c52, eq_true c74, if_true, if_false, ite_true, ite_false, and_true, true_and, and_false, false_and, and_self, or_true, true_or, or_false, false_or, or_self, not_true_eq_false, not_false_eq_true, decide_true, decide_false, Bool.and_true, Bool.true_and, Bool.and_false, Bool.false_and, Bool.and_self, Bool.or_true, Bool.true_or, Bool.or_false, Bool.false_or, Bool.not_true, Bool.not_false, cond_true, cond_false, bI_t, bI_f, Bool.false_eq_true, Bool.true_eq_false, dayC_1, dayC_21, dayC_221, dayC_222, allN]; done))) ) (sub_s (sub_n (sub_s (sub_s (sub_s (sub_s sub_nil))))))
              exact A_weak (L41 (x.2.2.2.1) (0) (_)  (by omega) (rfl) ) (sub_s (sub_n (sub_s (sub_s (sub_s (sub_s sub_nil))))))
        exact A_weak (L26 (n) (0) (_)  (by omega) (by rw [if_neg (by unfold anyN; decide)]) ) (sub_s (sub_s (sub_s (sub_s (sub_n (sub_n sub_nil))))))
  exact A_weak (L14 (61) (0) (_) h_2 (_) (_) (_) (_) (_) (_) (_) (_) (by omega)  (⟨Or.inl ⟨rfl, frX_0 x⟩, fun k q hk => absurd hk (Nat.not_lt_zero k)⟩) O28 hf) (sub_s (sub_s (sub_s (sub_n (sub_n (sub_n sub_nil))))))
