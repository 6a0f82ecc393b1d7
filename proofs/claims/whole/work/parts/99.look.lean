theorem tt1 : lw_tbl[300]? = some (Cond.instanceMethod ⟨"SearchedAtTheGate$Letters", "comes", "(I)Z"⟩) := by first | decide +kernel | sorry
