set_option maxHeartbeats 4000000 in
set_option maxRecDepth 100000 in
theorem S_X9_isNot0or1 (X : En) (l : Launch) {h : Hp} {v : Int32} : Ct X l mX9_isNot0or1 [aI v] h (QI (PI0 (bI (decide (v < 0 ∨ 1 < v))) h)) := by
  refine Ct.intro [some (aI v)] (by decide +kernel) rfl (Nat.le_of_ble_eq_true rfl) ?_
  refine A_iload_n 1 dX9_isNot0or1_0 rfl rfl rfl ?_
  refine A_if_lt 9 4 dX9_isNot0or1_1 (by decide) rfl (fun c1 => ?_) (fun c1 => ?_)
  · skip
    try simp only [bI_0, bI_n0, le_nl, Classical.not_not, decide_eq_true_eq, decide_eq_false_iff_not] at c1
    refine A_iconst 10 (1) dX9_isNot0or1_9 rfl (by decide) ?_
    refine A_goto 14 dX9_isNot0or1_10 (by decide) ?_
    sorry
  · sorry
