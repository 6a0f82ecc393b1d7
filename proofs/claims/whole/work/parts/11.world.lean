/-! the world in mind, and a day of one -/
abbrev PW : Type := (Nat → Int32) × (Nat → Int32) × Nat × Nat × Int32 × Int32
abbrev wB (o : Nat) (x : PW) : Blk := (8, [aR o 1, aR o 2, aI (nI x.2.2.1), aI (nI x.2.2.2.1), aI x.2.2.2.2.1, aI x.2.2.2.2.2], [kI 40 x.1, kI 6 x.2.1])
abbrev PC : Type := (Nat → Int32) × (Nat → Int32) × Int32 × Int32
abbrev cB (o : Nat) (y : PC) : Blk := (1, [aR o 1, aR o 2, aI y.2.2.1, aI y.2.2.2], [kI 12 y.1, kI 12 y.2.1])
def kd (x : PW) (k : Nat) : Int32 := x.1 (k * 4)
def fg (x : PW) (k : Nat) : Int32 := x.1 (k * 4 + 1)
def wa (x : PW) (k : Nat) : Int32 := x.1 (k * 4 + 2)
def gi (x : PW) (k : Nat) : Int32 := x.1 (k * 4 + 3)
/-- every number of the world in its range -/
def WOK (x : PW) : Prop := x.2.2.1 ≤ 10 ∧ x.2.2.2.1 ≤ 6 ∧ (∀ k, k < 10 → (∃ n, n < 6 ∧ kd x k = nI n) ∧ (∃ n, n < 10 ∧ fg x k = nI n) ∧ (∃ n, n < 8 ∧ wa x k = nI n) ∧ (∃ n, n < 8 ∧ gi x k = nI n)) ∧ (∀ p, p < 6 → ∃ n, n < 256 ∧ x.2.1 p = nI n) ∧ (∃ n, n < 256 ∧ x.2.2.2.2.1 = nI n) ∧ (∃ n, n < 1000 ∧ x.2.2.2.2.2 = nI n)
theorem WOK.kd6 {x : PW} (hx : WOK x) {k : Nat} (hk : k < 10) : kd x k = 0 ∨ kd x k = 1 ∨ kd x k = 2 ∨ kd x k = 3 ∨ kd x k = 4 ∨ kd x k = 5 := by
  obtain ⟨n, hn, e⟩ := (hx.2.2.1 k hk).1
  rw [e]
  rcases (show n = 0 ∨ n = 1 ∨ n = 2 ∨ n = 3 ∨ n = 4 ∨ n = 5 by omega) with rfl | rfl | rfl | rfl | rfl | rfl <;> decide
def tbI (t : Int32) : Int32 := if inT t then oneB t else 0
def holdsF (x : PW) (k : Nat) (hour has : Int32) : Bool :=
  if hour < fg x k then false
  else if kd x k = 0 then btI has (wa x k)
  else if kd x k = 1 then btI has (wa x k)
  else if kd x k = 2 then btI has (wa x k) || btI has (gi x k)
  else if kd x k = 3 then !btI has (wa x k)
  else if kd x k = 4 then btI has (wa x k) && decide (hour - hour / 2 * 2 = 0)
  else (btI has (wa x k) || btI has (gi x k)) && decide (x.2.2.2.2.1 ≠ 0)
def eitherF (has w g : Int32) : Int32 := if has &&& w ≠ 0 ∧ has &&& g ≠ 0 then has &&& (g ^^^ (-1)) else has ^^^ (w ||| g)
def afterF (x : PW) (k : Nat) (has : Int32) : Int32 :=
  if kd x k = 0 then (has &&& (tbI (wa x k) ^^^ (-1))) ||| tbI (gi x k)
  else if kd x k = 1 then has ||| tbI (gi x k)
  else if kd x k = 2 then eitherF has (tbI (wa x k)) (tbI (gi x k))
  else if kd x k = 3 then has ||| tbI (gi x k)
  else if kd x k = 4 then (has ||| tbI (gi x k)) &&& (tbI (fg x k) ^^^ (-1))
  else has ||| x.2.2.2.2.1
/-- the first law from k on (n of them) that holds and isn't of 'but' -/
def firstN (x : PW) (hour has but : Int32) : Nat → Nat → Int32
  | 0, _ => -9
  | n + 1, k => if btI but (nI k) = false ∧ holdsF x k hour has = true then nI k else firstN x hour has but n (k + 1)
def firstF (x : PW) (hour has but : Int32) : Int32 := firstN x hour has but x.2.2.1 0
theorem firstN_or (x : PW) (hour has but : Int32) : ∀ n k, firstN x hour has but n k = -9 ∨ ∃ j, j < k + n ∧ k ≤ j ∧ firstN x hour has but n k = nI j := by
  intro n
  induction n with
  | zero => intro k; exact Or.inl rfl
  | succ n ih =>
    intro k
    unfold firstN
    split
    · exact Or.inr ⟨k, by omega, by omega, rfl⟩
    · rcases ih (k + 1) with h | ⟨j, h1, h2, h3⟩
      · exact Or.inl h
      · exact Or.inr ⟨j, by omega, by omega, h3⟩
theorem firstF_or (x : PW) (hour has but : Int32) : firstF x hour has but = -9 ∨ ∃ j, j < x.2.2.1 ∧ firstF x hour has but = nI j := by
  rcases firstN_or x hour has but x.2.2.1 0 with h | ⟨j, h1, _, h3⟩
  · exact Or.inl h
  · exact Or.inr ⟨j, by omega, h3⟩
/-- a day: (laws done, pockets) behind n hours; nv: never done -/
def dayS (x : PW) (nv s : Int32) : Nat → Int32 × Int32
  | 0 => (0, s)
  | n + 1 => if firstF x (nI n) (dayS x nv s n).2 (nv ||| (dayS x nv s n).1) = -9 then dayS x nv s n
    else ((dayS x nv s n).1 ||| oneB (firstF x (nI n) (dayS x nv s n).2 (nv ||| (dayS x nv s n).1)), afterF x (firstF x (nI n) (dayS x nv s n).2 (nv ||| (dayS x nv s n).1)).toNatClampNeg (dayS x nv s n).2)
def dLaw (x : PW) (nv s : Int32) (n : Nat) : Int32 := firstF x (nI n) (dayS x nv s n).2 (nv ||| (dayS x nv s n).1)
def dHas (x : PW) (nv s : Int32) (n : Nat) : Int32 := (dayS x nv s (n + 1)).2
def dDone (x : PW) (nv s : Int32) : Int32 := (dayS x nv s 12).1
def dEnd (x : PW) (nv s : Int32) : Int32 := (dayS x nv s 12).2
def dayC (x : PW) (nv s : Int32) : PC := (dLaw x nv s, dHas x nv s, dDone x nv s, dEnd x nv s)
theorem dayS_s (x : PW) (nv s : Int32) (n : Nat) : dayS x nv s (n + 1) = if dLaw x nv s n = -9 then dayS x nv s n else ((dayS x nv s n).1 ||| oneB (dLaw x nv s n), afterF x (dLaw x nv s n).toNatClampNeg (dayS x nv s n).2) := rfl
theorem n4 (k j : Nat) : nI k * 4 + nI j = nI (k * 4 + j) := by rw [nadd, nmul]; rfl
theorem n40 (k : Nat) : nI k * 4 = nI (k * 4) := by rw [nmul]; rfl
theorem n41 (k : Nat) : nI k + 1 = nI (k + 1) := (nI_succ k).symm
theorem n42 (k : Nat) : nI k + 2 = nI (k + 2) := by rw [nadd]; rfl
theorem n43 (k : Nat) : nI k + 3 = nI (k + 3) := by rw [nadd]; rfl
theorem n4z (k : Nat) : nI k + 0 = nI k := by simp
theorem bt_ne {p w : Int32} : ¬ p &&& (1 <<< (w &&& 31)) = 0 ↔ btI p w = true := by simp [btI]
theorem bt_eq {p w : Int32} : p &&& (1 <<< (w &&& 31)) = 0 ↔ btI p w = false := by simp [btI]
/-- a block whose rows are the same as far as they go may stand in its place -/
theorem Av.ext {X : En} {l : Launch} {M : MI} {pc : Nat} {ls : List (Option AV)} {st : List AV} {h : Hp} {Q : Option AV → Hp → Prop} {o : Nat} {b b' : Blk} (ho : h o = some b) (hl : b'.2.2.length = b.2.2.length) (hs : ∀ k H, va_at X.1 vwCl (X.2.2.1 o k, clB X b k) H → va_at X.1 vwCl (X.2.2.1 o k, clB X b' k) H) (k : ∀ h' : Hp, h' o = some b' → (∀ i, i ≠ o → h' i = h i) → Av X l M pc ls st h' Q) : Av X l M pc ls st h Q := by
  intro p e s m args below meth c H locs LS C hh hS hl0
  refine k _ hset_self (fun i hi => hset_ne hi) p e s m args below meth c H locs LS C ⟨?_, hh.2.set ho hl⟩ hS hl0
  intro j q hq
  simp only [wsO, List.getElem?_map, Option.map_eq_some_iff] at hq
  obtain ⟨a, ha, rfl⟩ := hq
  obtain ⟨ao, ak⟩ := a
  have h1 := hh.1 j (X.2.2.1 ao ak, clO X h (ao, ak)) (by simp [wsO, ha])
  by_cases hao : ao = o
  · subst hao
    simp only [clO, ho] at h1
    simp only [clO, hset_self]
    exact hs ak H h1
  · simp only [clO, hset_ne hao]
    exact h1
theorem kI_same {X : En} {n a : Nat} {f g : Nat → Int32} {H : Heap} (hfg : ∀ j, j < n → f j = g j) (h : va_at X.1 vwCl (a, .inl (X.2.1 0, aaV X (kI n f))) H) : va_at X.1 vwCl (a, .inl (X.2.1 0, aaV X (kI n g))) H := by
  have e : vp_cell (X.2.1 0) (n, .inl f) = vp_cell (X.2.1 0) (n, .inl g) := by
    rw [vp_cell_i, vp_cell_i]
    unfold arrV
    congr 1
    apply congrArg
    funext j
    exact congrArg Value.int (hfg j.1 j.2)
  show H[a]? = some (vp_cell (X.2.1 0) (n, .inl g))
  rw [← e]
  exact h
set_option maxHeartbeats 4000000 in
set_option maxRecDepth 100000 in
theorem S_X8_isLaw (X : En) (l : Launch) {w : Nat} {x : PW} {h : Hp} (hw : h w = some (wB w x)) {i : Int32} : Ct X l mX8_isLaw [aR w 0, aI i] h (QI (PI0 (bI (decide (0 ≤ i ∧ i < nI x.2.2.1))) h)) := by
  refine Ct.intro [some (aR w 0), some (aI i)] (by decide +kernel) rfl (Nat.le_of_ble_eq_true rfl) ?_
  refine A_iload_n 1 dX8_isLaw_0 rfl rfl rfl ?_
  refine A_if_lt 16 4 dX8_isLaw_1 (by decide) rfl (fun c1 => ?_) (fun c1 => ?_)
  · skip
    refine A_iconst 17 (0) dX8_isLaw_16 rfl (by decide) ?_
    refine A_zret dX8_isLaw_17 rfl (by first | exact Or.inl rfl | exact Or.inr rfl | exact bI01 _ | (subst_vars; exact bI01 _)) ⟨_, rfl, (by first | rfl | ((try simp only [le_nl, Classical.not_not] at *); simp [bI, le_nl, *]; done) | ((try simp only [le_nl, Classical.not_not] at *); simp_all [bI, le_nl]; done)), rfl⟩
  · skip
    refine A_iload_n 5 dX8_isLaw_4 rfl rfl rfl ?_
    refine A_aload_n 6 dX8_isLaw_5 rfl rfl rfl ?_
    refine A_getfield 9 dX8_isLaw_6 rfl f_X8_22 (by assumption) (by rfl) ?_
    refine A_icmp_ge 16 12 dX8_isLaw_9 (by decide) rfl (fun c9 => ?_) (fun c9 => ?_)
    · skip
      refine A_iconst 17 (0) dX8_isLaw_16 rfl (by decide) ?_
      refine A_zret dX8_isLaw_17 rfl (by first | exact Or.inl rfl | exact Or.inr rfl | exact bI01 _ | (subst_vars; exact bI01 _)) ⟨_, rfl, (by first | rfl | ((try simp only [le_nl, Classical.not_not] at *); simp [bI, le_nl, *]; done) | ((try simp only [le_nl, Classical.not_not] at *); simp_all [bI, le_nl]; done)), rfl⟩
    · skip
      refine A_iconst 13 (1) dX8_isLaw_12 rfl (by decide) ?_
      refine A_goto 17 dX8_isLaw_13 (by decide) ?_
      refine A_zret dX8_isLaw_17 rfl (by first | exact Or.inl rfl | exact Or.inr rfl | exact bI01 _ | (subst_vars; exact bI01 _)) ⟨_, rfl, (by first | rfl | ((try simp only [le_nl, Classical.not_not] at *); simp [bI, le_nl, *]; done) | ((try simp only [le_nl, Classical.not_not] at *); simp_all [bI, le_nl]; done)), rfl⟩
set_option maxHeartbeats 4000000 in
set_option maxRecDepth 100000 in
theorem S_X8_isPerson (X : En) (l : Launch) {w : Nat} {x : PW} {h : Hp} (hw : h w = some (wB w x)) {i : Int32} : Ct X l mX8_isPerson [aR w 0, aI i] h (QI (PI0 (bI (decide (0 ≤ i ∧ i < nI x.2.2.2.1))) h)) := by
  refine Ct.intro [some (aR w 0), some (aI i)] (by decide +kernel) rfl (Nat.le_of_ble_eq_true rfl) ?_
  refine A_iload_n 1 dX8_isPerson_0 rfl rfl rfl ?_
  refine A_if_lt 16 4 dX8_isPerson_1 (by decide) rfl (fun c1 => ?_) (fun c1 => ?_)
  · skip
    refine A_iconst 17 (0) dX8_isPerson_16 rfl (by decide) ?_
    refine A_zret dX8_isPerson_17 rfl (by first | exact Or.inl rfl | exact Or.inr rfl | exact bI01 _ | (subst_vars; exact bI01 _)) ⟨_, rfl, (by first | rfl | ((try simp only [le_nl, Classical.not_not] at *); simp [bI, le_nl, *]; done) | ((try simp only [le_nl, Classical.not_not] at *); simp_all [bI, le_nl]; done)), rfl⟩
  · skip
    refine A_iload_n 5 dX8_isPerson_4 rfl rfl rfl ?_
    refine A_aload_n 6 dX8_isPerson_5 rfl rfl rfl ?_
    refine A_getfield 9 dX8_isPerson_6 rfl f_X8_26 (by assumption) (by rfl) ?_
    refine A_icmp_ge 16 12 dX8_isPerson_9 (by decide) rfl (fun c9 => ?_) (fun c9 => ?_)
    · skip
      refine A_iconst 17 (0) dX8_isPerson_16 rfl (by decide) ?_
      refine A_zret dX8_isPerson_17 rfl (by first | exact Or.inl rfl | exact Or.inr rfl | exact bI01 _ | (subst_vars; exact bI01 _)) ⟨_, rfl, (by first | rfl | ((try simp only [le_nl, Classical.not_not] at *); simp [bI, le_nl, *]; done) | ((try simp only [le_nl, Classical.not_not] at *); simp_all [bI, le_nl]; done)), rfl⟩
    · skip
      refine A_iconst 13 (1) dX8_isPerson_12 rfl (by decide) ?_
      refine A_goto 17 dX8_isPerson_13 (by decide) ?_
      refine A_zret dX8_isPerson_17 rfl (by first | exact Or.inl rfl | exact Or.inr rfl | exact bI01 _ | (subst_vars; exact bI01 _)) ⟨_, rfl, (by first | rfl | ((try simp only [le_nl, Classical.not_not] at *); simp [bI, le_nl, *]; done) | ((try simp only [le_nl, Classical.not_not] at *); simp_all [bI, le_nl]; done)), rfl⟩
set_option maxHeartbeats 4000000 in
set_option maxRecDepth 100000 in
theorem S_X8_hasLawRoom (X : En) (l : Launch) {w : Nat} {x : PW} {h : Hp} (hw : h w = some (wB w x)) : Ct X l mX8_hasLawRoom [aR w 0] h (QI (PI0 (bI (decide (nI x.2.2.1 < 10))) h)) := by
  refine Ct.intro [some (aR w 0)] (by decide +kernel) rfl (Nat.le_of_ble_eq_true rfl) ?_
  refine A_aload_n 1 dX8_hasLawRoom_0 rfl rfl rfl ?_
  refine A_getfield 4 dX8_hasLawRoom_1 rfl f_X8_22 (by assumption) (by rfl) ?_
  refine A_bipush 6 (10) dX8_hasLawRoom_4 rfl (by decide) ?_
  refine A_icmp_ge 13 9 dX8_hasLawRoom_6 (by decide) rfl (fun c6 => ?_) (fun c6 => ?_)
  · skip
    refine A_iconst 14 (0) dX8_hasLawRoom_13 rfl (by decide) ?_
    refine A_zret dX8_hasLawRoom_14 rfl (by first | exact Or.inl rfl | exact Or.inr rfl | exact bI01 _ | (subst_vars; exact bI01 _)) ⟨_, rfl, (by first | rfl | ((try simp only [le_nl, Classical.not_not] at *); simp [bI, le_nl, *]; done) | ((try simp only [le_nl, Classical.not_not] at *); simp_all [bI, le_nl]; done)), rfl⟩
  · skip
    refine A_iconst 10 (1) dX8_hasLawRoom_9 rfl (by decide) ?_
    refine A_goto 14 dX8_hasLawRoom_10 (by decide) ?_
    refine A_zret dX8_hasLawRoom_14 rfl (by first | exact Or.inl rfl | exact Or.inr rfl | exact bI01 _ | (subst_vars; exact bI01 _)) ⟨_, rfl, (by first | rfl | ((try simp only [le_nl, Classical.not_not] at *); simp [bI, le_nl, *]; done) | ((try simp only [le_nl, Classical.not_not] at *); simp_all [bI, le_nl]; done)), rfl⟩
set_option maxHeartbeats 4000000 in
set_option maxRecDepth 100000 in
theorem S_X8_hasPersonRoom (X : En) (l : Launch) {w : Nat} {x : PW} {h : Hp} (hw : h w = some (wB w x)) : Ct X l mX8_hasPersonRoom [aR w 0] h (QI (PI0 (bI (decide (nI x.2.2.2.1 < 6))) h)) := by
  refine Ct.intro [some (aR w 0)] (by decide +kernel) rfl (Nat.le_of_ble_eq_true rfl) ?_
  refine A_aload_n 1 dX8_hasPersonRoom_0 rfl rfl rfl ?_
  refine A_getfield 4 dX8_hasPersonRoom_1 rfl f_X8_26 (by assumption) (by rfl) ?_
  refine A_bipush 6 (6) dX8_hasPersonRoom_4 rfl (by decide) ?_
  refine A_icmp_ge 13 9 dX8_hasPersonRoom_6 (by decide) rfl (fun c6 => ?_) (fun c6 => ?_)
  · skip
    refine A_iconst 14 (0) dX8_hasPersonRoom_13 rfl (by decide) ?_
    refine A_zret dX8_hasPersonRoom_14 rfl (by first | exact Or.inl rfl | exact Or.inr rfl | exact bI01 _ | (subst_vars; exact bI01 _)) ⟨_, rfl, (by first | rfl | ((try simp only [le_nl, Classical.not_not] at *); simp [bI, le_nl, *]; done) | ((try simp only [le_nl, Classical.not_not] at *); simp_all [bI, le_nl]; done)), rfl⟩
  · skip
    refine A_iconst 10 (1) dX8_hasPersonRoom_9 rfl (by decide) ?_
    refine A_goto 14 dX8_hasPersonRoom_10 (by decide) ?_
    refine A_zret dX8_hasPersonRoom_14 rfl (by first | exact Or.inl rfl | exact Or.inr rfl | exact bI01 _ | (subst_vars; exact bI01 _)) ⟨_, rfl, (by first | rfl | ((try simp only [le_nl, Classical.not_not] at *); simp [bI, le_nl, *]; done) | ((try simp only [le_nl, Classical.not_not] at *); simp_all [bI, le_nl]; done)), rfl⟩
set_option maxHeartbeats 4000000 in
set_option maxRecDepth 100000 in
theorem S_X8_lawCount (X : En) (l : Launch) {w : Nat} {x : PW} {h : Hp} (hw : h w = some (wB w x)) : Ct X l mX8_lawCount [aR w 0] h (QI (PI0 (nI x.2.2.1) h)) := by
  refine Ct.intro [some (aR w 0)] (by decide +kernel) rfl (Nat.le_of_ble_eq_true rfl) ?_
  refine A_aload_n 1 dX8_lawCount_0 rfl rfl rfl ?_
  refine A_getfield 4 dX8_lawCount_1 rfl f_X8_22 (by assumption) (by rfl) ?_
  refine A_iret dX8_lawCount_4 rfl ⟨_, rfl, (by first | rfl | ((try simp only [le_nl, Classical.not_not] at *); simp [bI, le_nl, *]; done) | ((try simp only [le_nl, Classical.not_not] at *); simp_all [bI, le_nl]; done)), rfl⟩
set_option maxHeartbeats 4000000 in
set_option maxRecDepth 100000 in
theorem S_X8_allLaws (X : En) (l : Launch) {w : Nat} {x : PW} {h : Hp} (hw : h w = some (wB w x)) : Ct X l mX8_allLaws [aR w 0] h (QI (PI0 ((1 <<< (nI x.2.2.1 &&& 31)) - 1) h)) := by
  refine Ct.intro [some (aR w 0)] (by decide +kernel) rfl (Nat.le_of_ble_eq_true rfl) ?_
  refine A_iconst 1 (1) dX8_allLaws_0 rfl (by decide) ?_
  refine A_aload_n 2 dX8_allLaws_1 rfl rfl rfl ?_
  refine A_getfield 5 dX8_allLaws_2 rfl f_X8_22 (by assumption) (by rfl) ?_
  refine A_ishl 6 dX8_allLaws_5 rfl ?_
  refine A_iconst 7 (1) dX8_allLaws_6 rfl (by decide) ?_
  refine A_isub 8 dX8_allLaws_7 rfl ?_
  refine A_iret dX8_allLaws_8 rfl ⟨_, rfl, (by first | rfl | ((try simp only [le_nl, Classical.not_not] at *); simp [bI, le_nl, *]; done) | ((try simp only [le_nl, Classical.not_not] at *); simp_all [bI, le_nl]; done)), rfl⟩
set_option maxHeartbeats 4000000 in
set_option maxRecDepth 100000 in
theorem S_X8_peopleCount (X : En) (l : Launch) {w : Nat} {x : PW} {h : Hp} (hw : h w = some (wB w x)) : Ct X l mX8_peopleCount [aR w 0] h (QI (PI0 (nI x.2.2.2.1) h)) := by
  refine Ct.intro [some (aR w 0)] (by decide +kernel) rfl (Nat.le_of_ble_eq_true rfl) ?_
  refine A_aload_n 1 dX8_peopleCount_0 rfl rfl rfl ?_
  refine A_getfield 4 dX8_peopleCount_1 rfl f_X8_26 (by assumption) (by rfl) ?_
  refine A_iret dX8_peopleCount_4 rfl ⟨_, rfl, (by first | rfl | ((try simp only [le_nl, Classical.not_not] at *); simp [bI, le_nl, *]; done) | ((try simp only [le_nl, Classical.not_not] at *); simp_all [bI, le_nl]; done)), rfl⟩
set_option maxHeartbeats 4000000 in
set_option maxRecDepth 100000 in
theorem S_X8_dayNumber (X : En) (l : Launch) {w : Nat} {x : PW} {h : Hp} (hw : h w = some (wB w x)) : Ct X l mX8_dayNumber [aR w 0] h (QI (PI0 (x.2.2.2.2.2) h)) := by
  refine Ct.intro [some (aR w 0)] (by decide +kernel) rfl (Nat.le_of_ble_eq_true rfl) ?_
  refine A_aload_n 1 dX8_dayNumber_0 rfl rfl rfl ?_
  refine A_getfield 4 dX8_dayNumber_1 rfl f_X8_32 (by assumption) (by rfl) ?_
  refine A_iret dX8_dayNumber_4 rfl ⟨_, rfl, (by first | rfl | ((try simp only [le_nl, Classical.not_not] at *); simp [bI, le_nl, *]; done) | ((try simp only [le_nl, Classical.not_not] at *); simp_all [bI, le_nl]; done)), rfl⟩
set_option maxHeartbeats 4000000 in
set_option maxRecDepth 100000 in
theorem S_X8_onTheTray (X : En) (l : Launch) {w : Nat} {x : PW} {h : Hp} (hw : h w = some (wB w x)) : Ct X l mX8_onTheTray [aR w 0] h (QI (PI0 (x.2.2.2.2.1) h)) := by
  refine Ct.intro [some (aR w 0)] (by decide +kernel) rfl (Nat.le_of_ble_eq_true rfl) ?_
  refine A_aload_n 1 dX8_onTheTray_0 rfl rfl rfl ?_
  refine A_getfield 4 dX8_onTheTray_1 rfl f_X8_29 (by assumption) (by rfl) ?_
  refine A_iret dX8_onTheTray_4 rfl ⟨_, rfl, (by first | rfl | ((try simp only [le_nl, Classical.not_not] at *); simp [bI, le_nl, *]; done) | ((try simp only [le_nl, Classical.not_not] at *); simp_all [bI, le_nl]; done)), rfl⟩
set_option maxHeartbeats 4000000 in
set_option maxRecDepth 100000 in
theorem S_X8_lawPart (X : En) (l : Launch) {w : Nat} {x : PW} {h : Hp} (hw : h w = some (wB w x)) {k j : Nat} (hk : k < 10) (hj : j < 4) {p : Int32} (hp : p = nI j) : Ct X l mX8_lawPart [aR w 0, aI (nI k), aI p] h (QI (PI0 (x.1 (k * 4 + j)) h)) := by
  refine Ct.intro [some (aR w 0), some (aI (nI k)), some (aI p), none] (by decide +kernel) rfl (Nat.le_of_ble_eq_true rfl) ?_
  refine A_iload_n 1 dX8_lawPart_0 rfl rfl rfl ?_
  refine A_iconst 2 (4) dX8_lawPart_1 rfl (by decide) ?_
  refine A_imul 3 dX8_lawPart_2 rfl ?_
  refine A_iload_n 4 dX8_lawPart_3 rfl rfl rfl ?_
  refine A_iadd 5 dX8_lawPart_4 rfl ?_
  rw [hp, n4]
  refine A_istore_n 6 dX8_lawPart_5 rfl rfl (by decide) (by first | exact (ast_s (ast_s (ast_1 rfl))) | exact (ast_s (ast_s ast_k))) ?_
  refine A_iload_n 7 dX8_lawPart_6 rfl rfl rfl ?_
  refine A_if_lt 28 10 dX8_lawPart_7 (by decide) rfl (fun c7 => ?_) (fun c7 => ?_)
  · skip
    exact absurd c7 (nI_pos (by omega))
  · skip
    refine A_iload_n 11 dX8_lawPart_10 rfl rfl rfl ?_
    refine A_aload_n 12 dX8_lawPart_11 rfl rfl rfl ?_
    refine A_getfield 15 dX8_lawPart_12 rfl f_X8_9 (by assumption) (by rfl) ?_
    refine A_arraylength 16 dX8_lawPart_15 rfl (by assumption) (by first | rfl | assumption) (by first | decide | exact Nat.le_of_ble_eq_true rfl) rfl ?_
    refine A_icmp_ge 28 19 dX8_lawPart_16 (by decide) rfl (fun c16 => ?_) (fun c16 => ?_)
    · skip
      exact absurd ((nle_iff (a := 40) (by decide) (by omega)).mp c16) (by omega)
    · skip
      refine A_aload_n 20 dX8_lawPart_19 rfl rfl rfl ?_
      refine A_getfield 23 dX8_lawPart_20 rfl f_X8_9 (by assumption) (by rfl) ?_
      refine A_iload_n 24 dX8_lawPart_23 rfl rfl rfl ?_
      refine A_iaload 25 dX8_lawPart_24 rfl (by assumption) (by first | rfl | assumption) (by first | assumption | exact ix_nI (by omega) (by decide) | exact ix_lit (by decide)) ?_
      refine A_goto 29 dX8_lawPart_25 (by decide) ?_
      refine A_iret dX8_lawPart_29 rfl ⟨_, rfl, (by first | rfl | ((try simp only [le_nl, Classical.not_not] at *); simp [bI, le_nl, *]; done) | ((try simp only [le_nl, Classical.not_not] at *); simp_all [bI, le_nl]; done)), rfl⟩
set_option maxHeartbeats 4000000 in
set_option maxRecDepth 100000 in
theorem S_X8_setLawPart (X : En) (l : Launch) {w : Nat} {x : PW} {h : Hp} (hw : h w = some (wB w x)) {k j : Nat} (hk : k < 10) (hj : j < 4) {p v : Int32} (hp : p = nI j) : Ct X l mX8_setLawPart [aR w 0, aI (nI k), aI p, aI v] h (QV (PV1 h (w) (wB w (va_up x.1 (k * 4 + j) v, x.2)))) := by
  have hf : ∀ i, i ≠ w → h i = h i := fun _ _ => rfl
  refine Ct.intro [some (aR w 0), some (aI (nI k)), some (aI p), some (aI v)] (by decide +kernel) rfl (Nat.le_of_ble_eq_true rfl) ?_
  refine A_aload_n 1 dX8_setLawPart_0 rfl rfl rfl ?_
  refine A_getfield 4 dX8_setLawPart_1 rfl f_X8_9 (by assumption) (by rfl) ?_
  refine A_iload_n 5 dX8_setLawPart_4 rfl rfl rfl ?_
  refine A_iconst 6 (4) dX8_setLawPart_5 rfl (by decide) ?_
  refine A_imul 7 dX8_setLawPart_6 rfl ?_
  refine A_iload_n 8 dX8_setLawPart_7 rfl rfl rfl ?_
  refine A_iadd 9 dX8_setLawPart_8 rfl ?_
  rw [hp, n4]
  refine A_iload_n 10 dX8_setLawPart_9 rfl rfl rfl ?_
  refine A_callNV 13 (S_X9_put X l hw rfl (ix_nI (show k * 4 + j < 40 by omega) (by decide)) (by decide)) dX8_setLawPart_10 rfl kX9_put nk_X8_35 rfl (by decide) (by rfl) (Nat.le_of_ble_eq_true rfl) (fun h_1 qh_1 => ?_)
  obtain ⟨n0h_1, eh_1⟩ := qh_1
  first | replace hw := (show h_1 (w) = some _ from n0h_1) | replace hw := (eh_1 _ (by assumption)).trans hw
  replace hf : ∀ i, i ≠ w → h_1 i = h i := fun i g0 => (eh_1 i (by assumption)).trans (hf i g0)
  refine A_vret dX8_setLawPart_13 rfl ⟨rfl, (by assumption), hf⟩
set_option maxHeartbeats 4000000 in
set_option maxRecDepth 100000 in
theorem S_X8_pocketsOf (X : En) (l : Launch) {w : Nat} {x : PW} {h : Hp} (hw : h w = some (wB w x)) {p : Nat} (hp : p < 6) : Ct X l mX8_pocketsOf [aR w 0, aI (nI p)] h (QI (PI0 (x.2.1 p) h)) := by
  refine Ct.intro [some (aR w 0), some (aI (nI p))] (by decide +kernel) rfl (Nat.le_of_ble_eq_true rfl) ?_
  refine A_aload_n 1 dX8_pocketsOf_0 rfl rfl rfl ?_
  refine A_getfield 4 dX8_pocketsOf_1 rfl f_X8_15 (by assumption) (by rfl) ?_
  refine A_iload_n 5 dX8_pocketsOf_4 rfl rfl rfl ?_
  refine A_callNI 8 (S_X9_cell X l hw rfl (ix_nI hp (by decide)) (by decide)) dX8_pocketsOf_5 rfl kX9_cell nk_X8_39 rfl (by decide) (by rfl) (Nat.le_of_ble_eq_true rfl) (fun v_1 h_1 qh_1 => ?_)
  obtain ⟨rfl, rfl⟩ := qh_1
  refine A_iret dX8_pocketsOf_8 rfl ⟨_, rfl, (by first | rfl | ((try simp only [le_nl, Classical.not_not] at *); simp [bI, le_nl, *]; done) | ((try simp only [le_nl, Classical.not_not] at *); simp_all [bI, le_nl]; done)), rfl⟩
set_option maxHeartbeats 4000000 in
set_option maxRecDepth 100000 in
theorem S_X8_addLaw (X : En) (l : Launch) {w : Nat} {x : PW} {h : Hp} (hw : h w = some (wB w x)) {a b c d : Int32} (hn : x.2.2.1 < 10) : Ct X l mX8_addLaw [aR w 0, aI a, aI b, aI c, aI d] h (QI (PI1 (nI x.2.2.1) h (w) (wB w (va_up (va_up (va_up (va_up x.1 (x.2.2.1 * 4) a) (x.2.2.1 * 4 + 1) b) (x.2.2.1 * 4 + 2) c) (x.2.2.1 * 4 + 3) d, x.2.1, x.2.2.1 + 1, x.2.2.2)))) := by
  have hf : ∀ i, i ≠ w → h i = h i := fun _ _ => rfl
  refine Ct.intro [some (aR w 0), some (aI a), some (aI b), some (aI c), some (aI d), none] (by decide +kernel) rfl (Nat.le_of_ble_eq_true rfl) ?_
  refine A_aload_n 1 dX8_addLaw_0 rfl rfl rfl ?_
  refine A_dup 2 dX8_addLaw_1 rfl rfl ?_
  refine A_getfield 5 dX8_addLaw_2 rfl f_X8_22 (by assumption) (by rfl) ?_
  refine A_dup_x1 6 dX8_addLaw_5 rfl rfl rfl ?_
  refine A_iconst 7 (1) dX8_addLaw_6 rfl (by decide) ?_
  refine A_iadd 8 dX8_addLaw_7 rfl ?_
  rw [n41]
  refine A_putI 11 dX8_addLaw_8 rfl fw_X8_22 (by assumption) (Nat.le_of_ble_eq_true rfl) (fun h_1 nh_1 eh_1 => ?_)
  first | replace hw := (show h_1 (w) = some _ from nh_1) | replace hw := (eh_1 _ (by assumption)).trans hw
  replace hf : ∀ i, i ≠ w → h_1 i = h i := fun i g0 => (eh_1 i (by assumption)).trans (hf i g0)
  refine A_istore 13 dX8_addLaw_11 rfl (by decide) (by first | exact (ast_s (ast_s (ast_s (ast_s (ast_1 rfl))))) | exact (ast_s (ast_s (ast_s (ast_s ast_k))))) ?_
  refine A_aload_n 14 dX8_addLaw_13 rfl rfl rfl ?_
  refine A_iload 16 dX8_addLaw_14 rfl rfl ?_
  refine A_iconst 17 (0) dX8_addLaw_16 rfl (by decide) ?_
  refine A_iload_n 18 dX8_addLaw_17 rfl rfl rfl ?_
  refine A_callVV 21 (S_X8_setLawPart X l (x := (x.1, x.2.1, x.2.2.1 + 1, x.2.2.2)) hw hn (p := 0) (j := 0) (by decide) (by decide)) dX8_addLaw_18 rfl kX8_setLawPart lk_X8_52 rfl (by assumption) (by decide) (by rfl) (Nat.le_of_ble_eq_true rfl) (fun h_2 qh_2 => ?_)
  obtain ⟨n0h_2, eh_2⟩ := qh_2
  first | replace hw := (show h_2 (w) = some _ from n0h_2) | replace hw := (eh_2 _ (by assumption)).trans hw
  replace hf : ∀ i, i ≠ w → h_2 i = h i := fun i g0 => (eh_2 i (by assumption)).trans (hf i g0)
  refine A_aload_n 22 dX8_addLaw_21 rfl rfl rfl ?_
  refine A_iload 24 dX8_addLaw_22 rfl rfl ?_
  refine A_iconst 25 (1) dX8_addLaw_24 rfl (by decide) ?_
  refine A_iload_n 26 dX8_addLaw_25 rfl rfl rfl ?_
  refine A_callVV 29 (S_X8_setLawPart X l (x := (va_up x.1 (x.2.2.1 * 4) a, x.2.1, x.2.2.1 + 1, x.2.2.2)) hw hn (p := 1) (j := 1) (by decide) (by decide)) dX8_addLaw_26 rfl kX8_setLawPart lk_X8_52 rfl (by assumption) (by decide) (by rfl) (Nat.le_of_ble_eq_true rfl) (fun h_3 qh_3 => ?_)
  obtain ⟨n0h_3, eh_3⟩ := qh_3
  first | replace hw := (show h_3 (w) = some _ from n0h_3) | replace hw := (eh_3 _ (by assumption)).trans hw
  replace hf : ∀ i, i ≠ w → h_3 i = h i := fun i g0 => (eh_3 i (by assumption)).trans (hf i g0)
  refine A_aload_n 30 dX8_addLaw_29 rfl rfl rfl ?_
  refine A_iload 32 dX8_addLaw_30 rfl rfl ?_
  refine A_iconst 33 (2) dX8_addLaw_32 rfl (by decide) ?_
  refine A_iload_n 34 dX8_addLaw_33 rfl rfl rfl ?_
  refine A_callVV 37 (S_X8_setLawPart X l (x := (va_up (va_up x.1 (x.2.2.1 * 4) a) (x.2.2.1 * 4 + 1) b, x.2.1, x.2.2.1 + 1, x.2.2.2)) hw hn (p := 2) (j := 2) (by decide) (by decide)) dX8_addLaw_34 rfl kX8_setLawPart lk_X8_52 rfl (by assumption) (by decide) (by rfl) (Nat.le_of_ble_eq_true rfl) (fun h_4 qh_4 => ?_)
  obtain ⟨n0h_4, eh_4⟩ := qh_4
  first | replace hw := (show h_4 (w) = some _ from n0h_4) | replace hw := (eh_4 _ (by assumption)).trans hw
  replace hf : ∀ i, i ≠ w → h_4 i = h i := fun i g0 => (eh_4 i (by assumption)).trans (hf i g0)
  refine A_aload_n 38 dX8_addLaw_37 rfl rfl rfl ?_
  refine A_iload 40 dX8_addLaw_38 rfl rfl ?_
  refine A_iconst 41 (3) dX8_addLaw_40 rfl (by decide) ?_
  refine A_iload 43 dX8_addLaw_41 rfl rfl ?_
  refine A_callVV 46 (S_X8_setLawPart X l (x := (va_up (va_up (va_up x.1 (x.2.2.1 * 4) a) (x.2.2.1 * 4 + 1) b) (x.2.2.1 * 4 + 2) c, x.2.1, x.2.2.1 + 1, x.2.2.2)) hw hn (p := 3) (j := 3) (by decide) (by decide)) dX8_addLaw_43 rfl kX8_setLawPart lk_X8_52 rfl (by assumption) (by decide) (by rfl) (Nat.le_of_ble_eq_true rfl) (fun h_5 qh_5 => ?_)
  obtain ⟨n0h_5, eh_5⟩ := qh_5
  first | replace hw := (show h_5 (w) = some _ from n0h_5) | replace hw := (eh_5 _ (by assumption)).trans hw
  replace hf : ∀ i, i ≠ w → h_5 i = h i := fun i g0 => (eh_5 i (by assumption)).trans (hf i g0)
  refine A_iload 48 dX8_addLaw_46 rfl rfl ?_
  refine A_iret dX8_addLaw_48 rfl ⟨_, rfl, (by first | rfl | ((try simp only [le_nl, Classical.not_not] at *); simp [bI, le_nl, *]; done) | ((try simp only [le_nl, Classical.not_not] at *); simp_all [bI, le_nl]; done)), (by assumption), hf⟩
set_option maxHeartbeats 4000000 in
set_option maxRecDepth 100000 in
theorem S_X8_addPerson (X : En) (l : Launch) {w : Nat} {x : PW} {h : Hp} (hw : h w = some (wB w x)) {a : Int32} (hn : x.2.2.2.1 < 6) : Ct X l mX8_addPerson [aR w 0, aI a] h (QI (PI1 (nI x.2.2.2.1) h (w) (wB w (x.1, va_up x.2.1 x.2.2.2.1 a, x.2.2.1, x.2.2.2.1 + 1, x.2.2.2.2)))) := by
  have hf : ∀ i, i ≠ w → h i = h i := fun _ _ => rfl
  refine Ct.intro [some (aR w 0), some (aI a), none] (by decide +kernel) rfl (Nat.le_of_ble_eq_true rfl) ?_
  refine A_aload_n 1 dX8_addPerson_0 rfl rfl rfl ?_
  refine A_dup 2 dX8_addPerson_1 rfl rfl ?_
  refine A_getfield 5 dX8_addPerson_2 rfl f_X8_26 (by assumption) (by rfl) ?_
  refine A_dup_x1 6 dX8_addPerson_5 rfl rfl rfl ?_
  refine A_iconst 7 (1) dX8_addPerson_6 rfl (by decide) ?_
  refine A_iadd 8 dX8_addPerson_7 rfl ?_
  rw [n41]
  refine A_putI 11 dX8_addPerson_8 rfl fw_X8_26 (by assumption) (Nat.le_of_ble_eq_true rfl) (fun h_1 nh_1 eh_1 => ?_)
  first | replace hw := (show h_1 (w) = some _ from nh_1) | replace hw := (eh_1 _ (by assumption)).trans hw
  replace hf : ∀ i, i ≠ w → h_1 i = h i := fun i g0 => (eh_1 i (by assumption)).trans (hf i g0)
  refine A_istore_n 12 dX8_addPerson_11 rfl rfl (by decide) (by first | exact (ast_s (ast_1 rfl)) | exact (ast_s ast_k)) ?_
  refine A_aload_n 13 dX8_addPerson_12 rfl rfl rfl ?_
  refine A_getfield 16 dX8_addPerson_13 rfl f_X8_15 (by assumption) (by rfl) ?_
  refine A_iload_n 17 dX8_addPerson_16 rfl rfl rfl ?_
  refine A_iload_n 18 dX8_addPerson_17 rfl rfl rfl ?_
  refine A_callNV 21 (S_X9_put X l hw rfl (ix_nI hn (by decide)) (by decide)) dX8_addPerson_18 rfl kX9_put nk_X8_35 rfl (by decide) (by rfl) (Nat.le_of_ble_eq_true rfl) (fun h_2 qh_2 => ?_)
  obtain ⟨n0h_2, eh_2⟩ := qh_2
  first | replace hw := (show h_2 (w) = some _ from n0h_2) | replace hw := (eh_2 _ (by assumption)).trans hw
  replace hf : ∀ i, i ≠ w → h_2 i = h i := fun i g0 => (eh_2 i (by assumption)).trans (hf i g0)
  refine A_iload_n 22 dX8_addPerson_21 rfl rfl rfl ?_
  refine A_iret dX8_addPerson_22 rfl ⟨_, rfl, (by first | rfl | ((try simp only [le_nl, Classical.not_not] at *); simp [bI, le_nl, *]; done) | ((try simp only [le_nl, Classical.not_not] at *); simp_all [bI, le_nl]; done)), (by assumption), hf⟩
set_option maxHeartbeats 4000000 in
set_option maxRecDepth 100000 in
theorem S_X8_takeOut (X : En) (l : Launch) {w : Nat} {x : PW} {h : Hp} (hw : h w = some (wB w x)) {p : Nat} {t : Int32} (hp : p < 6) : Ct X l mX8_takeOut [aR w 0, aI (nI p), aI t] h (QI (PI1 (x.2.1 p &&& (tbI t ^^^ (-1))) h (w) (wB w (x.1, va_up x.2.1 p (x.2.1 p &&& (tbI t ^^^ (-1))), x.2.2.1, x.2.2.2.1, x.2.2.2.2.1 ||| tbI t, x.2.2.2.2.2)))) := by
  have hf : ∀ i, i ≠ w → h i = h i := fun _ _ => rfl
  refine Ct.intro [some (aR w 0), some (aI (nI p)), some (aI t), none] (by decide +kernel) rfl (Nat.le_of_ble_eq_true rfl) ?_
  refine A_aload_n 1 dX8_takeOut_0 rfl rfl rfl ?_
  refine A_iload_n 2 dX8_takeOut_1 rfl rfl rfl ?_
  refine A_callVI 5 (S_X8_pocketsOf X l hw hp) dX8_takeOut_2 rfl kX8_pocketsOf lk_X8_43 rfl (by assumption) (by decide) (by rfl) (Nat.le_of_ble_eq_true rfl) (fun v_1 h_1 qh_1 => ?_)
  obtain ⟨rfl, rfl⟩ := qh_1
  refine A_iload_n 6 dX8_takeOut_5 rfl rfl rfl ?_
  refine A_callNI 9 (S_X9_thingBit X l) dX8_takeOut_6 rfl kX9_thingBit nk_X8_56 rfl (by decide) (by rfl) (Nat.le_of_ble_eq_true rfl) (fun v_2 h_2 qh_2 => ?_)
  obtain ⟨rfl, rfl⟩ := qh_2
  refine A_iconst 10 (-1) dX8_takeOut_9 rfl (by decide) ?_
  refine A_ixor 11 dX8_takeOut_10 rfl ?_
  refine A_iand 12 dX8_takeOut_11 rfl ?_
  refine A_istore_n 13 dX8_takeOut_12 rfl rfl (by decide) (by first | exact (ast_s (ast_s (ast_1 rfl))) | exact (ast_s (ast_s ast_k))) ?_
  refine A_aload_n 14 dX8_takeOut_13 rfl rfl rfl ?_
  refine A_getfield 17 dX8_takeOut_14 rfl f_X8_15 (by assumption) (by rfl) ?_
  refine A_iload_n 18 dX8_takeOut_17 rfl rfl rfl ?_
  refine A_iload_n 19 dX8_takeOut_18 rfl rfl rfl ?_
  refine A_callNV 22 (S_X9_put X l hw rfl (ix_nI hp (by decide)) (by decide)) dX8_takeOut_19 rfl kX9_put nk_X8_35 rfl (by decide) (by rfl) (Nat.le_of_ble_eq_true rfl) (fun h_3 qh_3 => ?_)
  obtain ⟨n0h_3, eh_3⟩ := qh_3
  first | replace hw := (show h_3 (w) = some _ from n0h_3) | replace hw := (eh_3 _ (by assumption)).trans hw
  replace hf : ∀ i, i ≠ w → h_3 i = h i := fun i g0 => (eh_3 i (by assumption)).trans (hf i g0)
  refine A_aload_n 23 dX8_takeOut_22 rfl rfl rfl ?_
  refine A_dup 24 dX8_takeOut_23 rfl rfl ?_
  refine A_getfield 27 dX8_takeOut_24 rfl f_X8_29 (by assumption) (by rfl) ?_
  refine A_iload_n 28 dX8_takeOut_27 rfl rfl rfl ?_
  refine A_callNI 31 (S_X9_thingBit X l) dX8_takeOut_28 rfl kX9_thingBit nk_X8_56 rfl (by decide) (by rfl) (Nat.le_of_ble_eq_true rfl) (fun v_4 h_4 qh_4 => ?_)
  obtain ⟨rfl, rfl⟩ := qh_4
  refine A_ior 32 dX8_takeOut_31 rfl ?_
  refine A_putI 35 dX8_takeOut_32 rfl fw_X8_29 (by assumption) (Nat.le_of_ble_eq_true rfl) (fun h_5 nh_5 eh_5 => ?_)
  first | replace hw := (show h_5 (w) = some _ from nh_5) | replace hw := (eh_5 _ (by assumption)).trans hw
  replace hf : ∀ i, i ≠ w → h_5 i = h i := fun i g0 => (eh_5 i (by assumption)).trans (hf i g0)
  refine A_iload_n 36 dX8_takeOut_35 rfl rfl rfl ?_
  refine A_iret dX8_takeOut_36 rfl ⟨_, rfl, (by first | rfl | ((try simp only [le_nl, Classical.not_not] at *); simp [bI, le_nl, *]; done) | ((try simp only [le_nl, Classical.not_not] at *); simp_all [bI, le_nl]; done)), (by assumption), hf⟩
set_option maxHeartbeats 4000000 in
set_option maxRecDepth 100000 in
theorem S_X8_bringIn (X : En) (l : Launch) {w : Nat} {x : PW} {h : Hp} (hw : h w = some (wB w x)) {p : Nat} {t : Int32} (hp : p < 6) : Ct X l mX8_bringIn [aR w 0, aI (nI p), aI t] h (QI (PI1 (x.2.1 p ||| tbI t) h (w) (wB w (x.1, va_up x.2.1 p (x.2.1 p ||| tbI t), x.2.2.1, x.2.2.2.1, x.2.2.2.2.1 &&& (tbI t ^^^ (-1)), x.2.2.2.2.2)))) := by
  have hf : ∀ i, i ≠ w → h i = h i := fun _ _ => rfl
  refine Ct.intro [some (aR w 0), some (aI (nI p)), some (aI t), none] (by decide +kernel) rfl (Nat.le_of_ble_eq_true rfl) ?_
  refine A_aload_n 1 dX8_bringIn_0 rfl rfl rfl ?_
  refine A_iload_n 2 dX8_bringIn_1 rfl rfl rfl ?_
  refine A_callVI 5 (S_X8_pocketsOf X l hw hp) dX8_bringIn_2 rfl kX8_pocketsOf lk_X8_43 rfl (by assumption) (by decide) (by rfl) (Nat.le_of_ble_eq_true rfl) (fun v_1 h_1 qh_1 => ?_)
  obtain ⟨rfl, rfl⟩ := qh_1
  refine A_iload_n 6 dX8_bringIn_5 rfl rfl rfl ?_
  refine A_callNI 9 (S_X9_thingBit X l) dX8_bringIn_6 rfl kX9_thingBit nk_X8_56 rfl (by decide) (by rfl) (Nat.le_of_ble_eq_true rfl) (fun v_2 h_2 qh_2 => ?_)
  obtain ⟨rfl, rfl⟩ := qh_2
  refine A_ior 10 dX8_bringIn_9 rfl ?_
  refine A_istore_n 11 dX8_bringIn_10 rfl rfl (by decide) (by first | exact (ast_s (ast_s (ast_1 rfl))) | exact (ast_s (ast_s ast_k))) ?_
  refine A_aload_n 12 dX8_bringIn_11 rfl rfl rfl ?_
  refine A_getfield 15 dX8_bringIn_12 rfl f_X8_15 (by assumption) (by rfl) ?_
  refine A_iload_n 16 dX8_bringIn_15 rfl rfl rfl ?_
  refine A_iload_n 17 dX8_bringIn_16 rfl rfl rfl ?_
  refine A_callNV 20 (S_X9_put X l hw rfl (ix_nI hp (by decide)) (by decide)) dX8_bringIn_17 rfl kX9_put nk_X8_35 rfl (by decide) (by rfl) (Nat.le_of_ble_eq_true rfl) (fun h_3 qh_3 => ?_)
  obtain ⟨n0h_3, eh_3⟩ := qh_3
  first | replace hw := (show h_3 (w) = some _ from n0h_3) | replace hw := (eh_3 _ (by assumption)).trans hw
  replace hf : ∀ i, i ≠ w → h_3 i = h i := fun i g0 => (eh_3 i (by assumption)).trans (hf i g0)
  refine A_aload_n 21 dX8_bringIn_20 rfl rfl rfl ?_
  refine A_dup 22 dX8_bringIn_21 rfl rfl ?_
  refine A_getfield 25 dX8_bringIn_22 rfl f_X8_29 (by assumption) (by rfl) ?_
  refine A_iload_n 26 dX8_bringIn_25 rfl rfl rfl ?_
  refine A_callNI 29 (S_X9_thingBit X l) dX8_bringIn_26 rfl kX9_thingBit nk_X8_56 rfl (by decide) (by rfl) (Nat.le_of_ble_eq_true rfl) (fun v_4 h_4 qh_4 => ?_)
  obtain ⟨rfl, rfl⟩ := qh_4
  refine A_iconst 30 (-1) dX8_bringIn_29 rfl (by decide) ?_
  refine A_ixor 31 dX8_bringIn_30 rfl ?_
  refine A_iand 32 dX8_bringIn_31 rfl ?_
  refine A_putI 35 dX8_bringIn_32 rfl fw_X8_29 (by assumption) (Nat.le_of_ble_eq_true rfl) (fun h_5 nh_5 eh_5 => ?_)
  first | replace hw := (show h_5 (w) = some _ from nh_5) | replace hw := (eh_5 _ (by assumption)).trans hw
  replace hf : ∀ i, i ≠ w → h_5 i = h i := fun i g0 => (eh_5 i (by assumption)).trans (hf i g0)
  refine A_iload_n 36 dX8_bringIn_35 rfl rfl rfl ?_
  refine A_iret dX8_bringIn_36 rfl ⟨_, rfl, (by first | rfl | ((try simp only [le_nl, Classical.not_not] at *); simp [bI, le_nl, *]; done) | ((try simp only [le_nl, Classical.not_not] at *); simp_all [bI, le_nl]; done)), (by assumption), hf⟩
set_option maxHeartbeats 4000000 in
set_option maxRecDepth 100000 in
theorem S_X8_emptyTray (X : En) (l : Launch) {w : Nat} {x : PW} {h : Hp} (hw : h w = some (wB w x)) : Ct X l mX8_emptyTray [aR w 0] h (QI (PI1 (x.2.2.2.2.1) h (w) (wB w (x.1, x.2.1, x.2.2.1, x.2.2.2.1, 0, x.2.2.2.2.2)))) := by
  have hf : ∀ i, i ≠ w → h i = h i := fun _ _ => rfl
  refine Ct.intro [some (aR w 0), none] (by decide +kernel) rfl (Nat.le_of_ble_eq_true rfl) ?_
  refine A_aload_n 1 dX8_emptyTray_0 rfl rfl rfl ?_
  refine A_getfield 4 dX8_emptyTray_1 rfl f_X8_29 (by assumption) (by rfl) ?_
  refine A_istore_n 5 dX8_emptyTray_4 rfl rfl (by decide) (by first | exact (ast_1 rfl) | exact ast_k) ?_
  refine A_aload_n 6 dX8_emptyTray_5 rfl rfl rfl ?_
  refine A_iconst 7 (0) dX8_emptyTray_6 rfl (by decide) ?_
  refine A_putI 10 dX8_emptyTray_7 rfl fw_X8_29 (by assumption) (Nat.le_of_ble_eq_true rfl) (fun h_1 nh_1 eh_1 => ?_)
  first | replace hw := (show h_1 (w) = some _ from nh_1) | replace hw := (eh_1 _ (by assumption)).trans hw
  replace hf : ∀ i, i ≠ w → h_1 i = h i := fun i g0 => (eh_1 i (by assumption)).trans (hf i g0)
  refine A_iload_n 11 dX8_emptyTray_10 rfl rfl rfl ?_
  refine A_iret dX8_emptyTray_11 rfl ⟨_, rfl, (by first | rfl | ((try simp only [le_nl, Classical.not_not] at *); simp [bI, le_nl, *]; done) | ((try simp only [le_nl, Classical.not_not] at *); simp_all [bI, le_nl]; done)), (by assumption), hf⟩
set_option maxHeartbeats 4000000 in
set_option maxRecDepth 100000 in
theorem S_X8_holds (X : En) (l : Launch) {w : Nat} {x : PW} {h : Hp} (hw : h w = some (wB w x)) (hx : WOK x) {k : Nat} (hk : k < 10) {hour has : Int32} : Ct X l mX8_holds [aR w 0, aI (nI k), aI hour, aI has] h (QI (PI0 (bI (holdsF x k hour has)) h)) := by
  refine Ct.intro [some (aR w 0), some (aI (nI k)), some (aI hour), some (aI has), none, none, none] (by decide +kernel) rfl (Nat.le_of_ble_eq_true rfl) ?_
  refine A_iload_n 1 dX8_holds_0 rfl rfl rfl ?_
  refine A_iconst 2 (4) dX8_holds_1 rfl (by decide) ?_
  refine A_imul 3 dX8_holds_2 rfl ?_
  rw [n40]
  refine A_istore 5 dX8_holds_3 rfl (by decide) (by first | exact (ast_s (ast_s (ast_s (ast_1 rfl)))) | exact (ast_s (ast_s (ast_s ast_k)))) ?_
  refine A_iload 7 dX8_holds_5 rfl rfl ?_
  refine A_if_lt 35 10 dX8_holds_7 (by decide) rfl (fun c7 => ?_) (fun c7 => ?_)
  · skip
    exact absurd c7 (nI_pos (by omega))
  · skip
    refine A_iload 12 dX8_holds_10 rfl rfl ?_
    refine A_iconst 13 (3) dX8_holds_12 rfl (by decide) ?_
    refine A_iadd 14 dX8_holds_13 rfl ?_
    refine A_aload_n 15 dX8_holds_14 rfl rfl rfl ?_
    refine A_getfield 18 dX8_holds_15 rfl f_X8_9 (by assumption) (by rfl) ?_
    refine A_arraylength 19 dX8_holds_18 rfl (by assumption) (by first | rfl | assumption) (by first | decide | exact Nat.le_of_ble_eq_true rfl) rfl ?_
    refine A_icmp_ge 35 22 dX8_holds_19 (by decide) rfl (fun c19 => ?_) (fun c19 => ?_)
    · skip
      exact absurd ((nle_iff (a := 40) (b := k * 4 + 3) (by decide) (by omega)).mp (by have q := c19; rw [n43] at q; exact q)) (by omega)
    · skip
      refine A_iload_n 23 dX8_holds_22 rfl rfl rfl ?_
      refine A_aload_n 24 dX8_holds_23 rfl rfl rfl ?_
      refine A_getfield 27 dX8_holds_24 rfl f_X8_9 (by assumption) (by rfl) ?_
      refine A_iload 29 dX8_holds_27 rfl rfl ?_
      refine A_iconst 30 (1) dX8_holds_29 rfl (by decide) ?_
      refine A_iadd 31 dX8_holds_30 rfl ?_
      refine A_iaload 32 dX8_holds_31 rfl (by assumption) (by first | rfl | assumption) ((ix_of (j := k * 4 + 1) (n41 _) (by omega) (by decide))) ?_
      refine A_icmp_ge 37 35 dX8_holds_32 (by decide) rfl (fun c32 => ?_) (fun c32 => ?_)
      · skip
        refine A_joinI 58 (fun v => v = bI (btI has (wa x k))) (fun j58 => ?_) (fun v58 e58 => ?_)
        · skip
          refine A_iload_n 38 dX8_holds_37 rfl rfl rfl ?_
          refine A_iconst 39 (1) dX8_holds_38 rfl (by decide) ?_
          refine A_aload_n 40 dX8_holds_39 rfl rfl rfl ?_
          refine A_getfield 43 dX8_holds_40 rfl f_X8_9 (by assumption) (by rfl) ?_
          refine A_iload 45 dX8_holds_43 rfl rfl ?_
          refine A_iconst 46 (2) dX8_holds_45 rfl (by decide) ?_
          refine A_iadd 47 dX8_holds_46 rfl ?_
          refine A_iaload 48 dX8_holds_47 rfl (by assumption) (by first | rfl | assumption) ((ix_of (j := k * 4 + 2) (n42 _) (by omega) (by decide))) ?_
          refine A_ishl 49 dX8_holds_48 rfl ?_
          refine A_iand 50 dX8_holds_49 rfl ?_
          refine A_if_eq 57 53 dX8_holds_50 (by decide) rfl (fun c50 => ?_) (fun c50 => ?_)
          · skip
            refine A_iconst 58 (0) dX8_holds_57 rfl (by decide) ?_
            exact j58 _ (by simp only [bt_ne, bt_eq] at *; first | (simp [bI, wa, *]; done) | (simp_all [bI, wa]; done))
          · skip
            refine A_iconst 54 (1) dX8_holds_53 rfl (by decide) ?_
            refine A_goto 58 dX8_holds_54 (by decide) ?_
            exact j58 _ (by simp only [bt_ne, bt_eq] at *; first | (simp [bI, wa, *]; done) | (simp_all [bI, wa]; done))
        subst e58
        refine A_istore 60 dX8_holds_58 rfl (by decide) (by first | exact (ast_s (ast_s (ast_s (ast_s (ast_1 rfl))))) | exact (ast_s (ast_s (ast_s (ast_s ast_k))))) ?_
        refine A_joinI 81 (fun v => v = bI (btI has (gi x k))) (fun j81 => ?_) (fun v81 e81 => ?_)
        · skip
          refine A_iload_n 61 dX8_holds_60 rfl rfl rfl ?_
          refine A_iconst 62 (1) dX8_holds_61 rfl (by decide) ?_
          refine A_aload_n 63 dX8_holds_62 rfl rfl rfl ?_
          refine A_getfield 66 dX8_holds_63 rfl f_X8_9 (by assumption) (by rfl) ?_
          refine A_iload 68 dX8_holds_66 rfl rfl ?_
          refine A_iconst 69 (3) dX8_holds_68 rfl (by decide) ?_
          refine A_iadd 70 dX8_holds_69 rfl ?_
          refine A_iaload 71 dX8_holds_70 rfl (by assumption) (by first | rfl | assumption) ((ix_of (j := k * 4 + 3) (n43 _) (by omega) (by decide))) ?_
          refine A_ishl 72 dX8_holds_71 rfl ?_
          refine A_iand 73 dX8_holds_72 rfl ?_
          refine A_if_eq 80 76 dX8_holds_73 (by decide) rfl (fun c73 => ?_) (fun c73 => ?_)
          · skip
            refine A_iconst 81 (0) dX8_holds_80 rfl (by decide) ?_
            exact j81 _ (by simp only [bt_ne, bt_eq] at *; first | (simp [bI, gi, *]; done) | (simp_all [bI, gi]; done))
          · skip
            refine A_iconst 77 (1) dX8_holds_76 rfl (by decide) ?_
            refine A_goto 81 dX8_holds_77 (by decide) ?_
            exact j81 _ (by simp only [bt_ne, bt_eq] at *; first | (simp [bI, gi, *]; done) | (simp_all [bI, gi]; done))
        subst e81
        refine A_istore 83 dX8_holds_81 rfl (by decide) (by first | exact (ast_s (ast_s (ast_s (ast_s (ast_s (ast_1 rfl)))))) | exact (ast_s (ast_s (ast_s (ast_s (ast_s ast_k)))))) ?_
        refine A_aload_n 84 dX8_holds_83 rfl rfl rfl ?_
        refine A_getfield 87 dX8_holds_84 rfl f_X8_9 (by assumption) (by rfl) ?_
        refine A_iload 89 dX8_holds_87 rfl rfl ?_
        refine A_iconst 90 (0) dX8_holds_89 rfl (by decide) ?_
        refine A_iadd 91 dX8_holds_90 rfl ?_
        refine A_iaload 92 dX8_holds_91 rfl (by assumption) (by first | rfl | assumption) ((ix_of (j := k * 4) (n4z _) (by omega) (by decide))) ?_
        rcases hx.kd6 hk with e | e | e | e | e | e
        · skip
          refine A_switch 132 dX8_holds_92 (by rw [show x.1 (k * 4) = _ from e]; decide) (by rw [show x.1 (k * 4) = _ from e]; rfl) (by decide) ?_
          refine A_iload 134 dX8_holds_132 rfl rfl ?_
          refine A_zret dX8_holds_134 rfl (bI01 _) ⟨_, rfl, (by (try simp only [bI_0, bI_n0] at *); simp_all [holdsF, bI, fg, le_nl]), rfl⟩
        · skip
          refine A_switch 132 dX8_holds_92 (by rw [show x.1 (k * 4) = _ from e]; decide) (by rw [show x.1 (k * 4) = _ from e]; rfl) (by decide) ?_
          refine A_iload 134 dX8_holds_132 rfl rfl ?_
          refine A_zret dX8_holds_134 rfl (bI01 _) ⟨_, rfl, (by (try simp only [bI_0, bI_n0] at *); simp_all [holdsF, bI, fg, le_nl]), rfl⟩
        · skip
          refine A_switch 135 dX8_holds_92 (by rw [show x.1 (k * 4) = _ from e]; decide) (by rw [show x.1 (k * 4) = _ from e]; rfl) (by decide) ?_
          refine A_iload 137 dX8_holds_135 rfl rfl ?_
          refine A_if_ne 145 140 dX8_holds_137 (by decide) rfl (fun c137 => ?_) (fun c137 => ?_)
          · skip
            refine A_iconst 146 (1) dX8_holds_145 rfl (by decide) ?_
            refine A_goto 150 dX8_holds_146 (by decide) ?_
            refine A_zret dX8_holds_150 rfl (by first | exact Or.inl rfl | exact Or.inr rfl | exact bI01 _ | (subst_vars; exact bI01 _)) ⟨_, rfl, (by (try simp only [bI_0, bI_n0] at *); simp_all [holdsF, bI, fg, le_nl]), rfl⟩
          · skip
            refine A_iload 142 dX8_holds_140 rfl rfl ?_
            refine A_if_eq 149 145 dX8_holds_142 (by decide) rfl (fun c142 => ?_) (fun c142 => ?_)
            · skip
              refine A_iconst 150 (0) dX8_holds_149 rfl (by decide) ?_
              refine A_zret dX8_holds_150 rfl (by first | exact Or.inl rfl | exact Or.inr rfl | exact bI01 _ | (subst_vars; exact bI01 _)) ⟨_, rfl, (by (try simp only [bI_0, bI_n0] at *); simp_all [holdsF, bI, fg, le_nl]), rfl⟩
            · skip
              refine A_iconst 146 (1) dX8_holds_145 rfl (by decide) ?_
              refine A_goto 150 dX8_holds_146 (by decide) ?_
              refine A_zret dX8_holds_150 rfl (by first | exact Or.inl rfl | exact Or.inr rfl | exact bI01 _ | (subst_vars; exact bI01 _)) ⟨_, rfl, (by (try simp only [bI_0, bI_n0] at *); simp_all [holdsF, bI, fg, le_nl]), rfl⟩
        · skip
          refine A_switch 151 dX8_holds_92 (by rw [show x.1 (k * 4) = _ from e]; decide) (by rw [show x.1 (k * 4) = _ from e]; rfl) (by decide) ?_
          refine A_iload 153 dX8_holds_151 rfl rfl ?_
          refine A_if_ne 160 156 dX8_holds_153 (by decide) rfl (fun c153 => ?_) (fun c153 => ?_)
          · skip
            refine A_iconst 161 (0) dX8_holds_160 rfl (by decide) ?_
            refine A_zret dX8_holds_161 rfl (by first | exact Or.inl rfl | exact Or.inr rfl | exact bI01 _ | (subst_vars; exact bI01 _)) ⟨_, rfl, (by (try simp only [bI_0, bI_n0] at *); simp_all [holdsF, bI, fg, le_nl]), rfl⟩
          · skip
            refine A_iconst 157 (1) dX8_holds_156 rfl (by decide) ?_
            refine A_goto 161 dX8_holds_157 (by decide) ?_
            refine A_zret dX8_holds_161 rfl (by first | exact Or.inl rfl | exact Or.inr rfl | exact bI01 _ | (subst_vars; exact bI01 _)) ⟨_, rfl, (by (try simp only [bI_0, bI_n0] at *); simp_all [holdsF, bI, fg, le_nl]), rfl⟩
        · skip
          refine A_switch 162 dX8_holds_92 (by rw [show x.1 (k * 4) = _ from e]; decide) (by rw [show x.1 (k * 4) = _ from e]; rfl) (by decide) ?_
          refine A_iload 164 dX8_holds_162 rfl rfl ?_
          refine A_if_eq 177 167 dX8_holds_164 (by decide) rfl (fun c164 => ?_) (fun c164 => ?_)
          · skip
            refine A_iconst 178 (0) dX8_holds_177 rfl (by decide) ?_
            refine A_zret dX8_holds_178 rfl (by first | exact Or.inl rfl | exact Or.inr rfl | exact bI01 _ | (subst_vars; exact bI01 _)) ⟨_, rfl, (by (try simp only [bI_0, bI_n0] at *); simp_all [holdsF, bI, fg, le_nl]), rfl⟩
          · skip
            refine A_iload_n 168 dX8_holds_167 rfl rfl rfl ?_
            refine A_iconst 169 (2) dX8_holds_168 rfl (by decide) ?_
            refine A_irem 170 dX8_holds_169 rfl (by decide) ?_
            refine A_if_ne 177 173 dX8_holds_170 (by decide) rfl (fun c170 => ?_) (fun c170 => ?_)
            · skip
              refine A_iconst 178 (0) dX8_holds_177 rfl (by decide) ?_
              refine A_zret dX8_holds_178 rfl (by first | exact Or.inl rfl | exact Or.inr rfl | exact bI01 _ | (subst_vars; exact bI01 _)) ⟨_, rfl, (by (try simp only [bI_0, bI_n0] at *); simp_all [holdsF, bI, fg, le_nl]), rfl⟩
            · skip
              refine A_iconst 174 (1) dX8_holds_173 rfl (by decide) ?_
              refine A_goto 178 dX8_holds_174 (by decide) ?_
              refine A_zret dX8_holds_178 rfl (by first | exact Or.inl rfl | exact Or.inr rfl | exact bI01 _ | (subst_vars; exact bI01 _)) ⟨_, rfl, (by (try simp only [bI_0, bI_n0] at *); simp_all [holdsF, bI, fg, le_nl]), rfl⟩
        · skip
          refine A_switch 179 dX8_holds_92 (by rw [show x.1 (k * 4) = _ from e]; decide) (by rw [show x.1 (k * 4) = _ from e]; rfl) (by decide) ?_
          refine A_iload 181 dX8_holds_179 rfl rfl ?_
          refine A_if_ne 189 184 dX8_holds_181 (by decide) rfl (fun c181 => ?_) (fun c181 => ?_)
          · skip
            refine A_aload_n 190 dX8_holds_189 rfl rfl rfl ?_
            refine A_getfield 193 dX8_holds_190 rfl f_X8_29 (by assumption) (by rfl) ?_
            refine A_if_eq 200 196 dX8_holds_193 (by decide) rfl (fun c193 => ?_) (fun c193 => ?_)
            · skip
              refine A_iconst 201 (0) dX8_holds_200 rfl (by decide) ?_
              refine A_zret dX8_holds_201 rfl (by first | exact Or.inl rfl | exact Or.inr rfl | exact bI01 _ | (subst_vars; exact bI01 _)) ⟨_, rfl, (by (try simp only [bI_0, bI_n0] at *); simp_all [holdsF, bI, fg, le_nl]), rfl⟩
            · skip
              refine A_iconst 197 (1) dX8_holds_196 rfl (by decide) ?_
              refine A_goto 201 dX8_holds_197 (by decide) ?_
              refine A_zret dX8_holds_201 rfl (by first | exact Or.inl rfl | exact Or.inr rfl | exact bI01 _ | (subst_vars; exact bI01 _)) ⟨_, rfl, (by (try simp only [bI_0, bI_n0] at *); simp_all [holdsF, bI, fg, le_nl]), rfl⟩
          · skip
            refine A_iload 186 dX8_holds_184 rfl rfl ?_
            refine A_if_eq 200 189 dX8_holds_186 (by decide) rfl (fun c186 => ?_) (fun c186 => ?_)
            · skip
              refine A_iconst 201 (0) dX8_holds_200 rfl (by decide) ?_
              refine A_zret dX8_holds_201 rfl (by first | exact Or.inl rfl | exact Or.inr rfl | exact bI01 _ | (subst_vars; exact bI01 _)) ⟨_, rfl, (by (try simp only [bI_0, bI_n0] at *); simp_all [holdsF, bI, fg, le_nl]), rfl⟩
            · skip
              refine A_aload_n 190 dX8_holds_189 rfl rfl rfl ?_
              refine A_getfield 193 dX8_holds_190 rfl f_X8_29 (by assumption) (by rfl) ?_
              refine A_if_eq 200 196 dX8_holds_193 (by decide) rfl (fun c193 => ?_) (fun c193 => ?_)
              · skip
                refine A_iconst 201 (0) dX8_holds_200 rfl (by decide) ?_
                refine A_zret dX8_holds_201 rfl (by first | exact Or.inl rfl | exact Or.inr rfl | exact bI01 _ | (subst_vars; exact bI01 _)) ⟨_, rfl, (by (try simp only [bI_0, bI_n0] at *); simp_all [holdsF, bI, fg, le_nl]), rfl⟩
              · skip
                refine A_iconst 197 (1) dX8_holds_196 rfl (by decide) ?_
                refine A_goto 201 dX8_holds_197 (by decide) ?_
                refine A_zret dX8_holds_201 rfl (by first | exact Or.inl rfl | exact Or.inr rfl | exact bI01 _ | (subst_vars; exact bI01 _)) ⟨_, rfl, (by (try simp only [bI_0, bI_n0] at *); simp_all [holdsF, bI, fg, le_nl]), rfl⟩
      · skip
        refine A_iconst 36 (0) dX8_holds_35 rfl (by decide) ?_
        refine A_zret dX8_holds_36 rfl (by first | exact Or.inl rfl | exact Or.inr rfl | exact bI01 _ | (subst_vars; exact bI01 _)) ⟨_, rfl, (by (try simp only [bI_0, bI_n0] at *); simp_all [holdsF, bI, fg, le_nl]), rfl⟩
set_option maxHeartbeats 4000000 in
set_option maxRecDepth 100000 in
theorem S_X8_eitherWay (X : En) (l : Launch) {h : Hp} {has a b : Int32} : Ct X l mX8_eitherWay [aI has, aI a, aI b] h (QI (PI0 (eitherF has a b) h)) := by
  refine Ct.intro [some (aI has), some (aI a), some (aI b), none] (by decide +kernel) rfl (Nat.le_of_ble_eq_true rfl) ?_
  refine A_joinI 17 (fun v => v = bI (decide (has &&& a ≠ 0 ∧ has &&& b ≠ 0))) (fun j17 => ?_) (fun v17 e17 => ?_)
  · skip
    refine A_iload_n 1 dX8_eitherWay_0 rfl rfl rfl ?_
    refine A_iload_n 2 dX8_eitherWay_1 rfl rfl rfl ?_
    refine A_iand 3 dX8_eitherWay_2 rfl ?_
    refine A_if_eq 16 6 dX8_eitherWay_3 (by decide) rfl (fun c3 => ?_) (fun c3 => ?_)
    · skip
      refine A_iconst 17 (0) dX8_eitherWay_16 rfl (by decide) ?_
      exact j17 _ (by first | rfl | ((try simp only [le_nl, Classical.not_not] at *); simp [bI, le_nl, *, eitherF]; done) | ((try simp only [le_nl, Classical.not_not] at *); simp_all [bI, le_nl, eitherF]; done))
    · skip
      refine A_iload_n 7 dX8_eitherWay_6 rfl rfl rfl ?_
      refine A_iload_n 8 dX8_eitherWay_7 rfl rfl rfl ?_
      refine A_iand 9 dX8_eitherWay_8 rfl ?_
      refine A_if_eq 16 12 dX8_eitherWay_9 (by decide) rfl (fun c9 => ?_) (fun c9 => ?_)
      · skip
        refine A_iconst 17 (0) dX8_eitherWay_16 rfl (by decide) ?_
        exact j17 _ (by first | rfl | ((try simp only [le_nl, Classical.not_not] at *); simp [bI, le_nl, *, eitherF]; done) | ((try simp only [le_nl, Classical.not_not] at *); simp_all [bI, le_nl, eitherF]; done))
      · skip
        refine A_iconst 13 (1) dX8_eitherWay_12 rfl (by decide) ?_
        refine A_goto 17 dX8_eitherWay_13 (by decide) ?_
        exact j17 _ (by first | rfl | ((try simp only [le_nl, Classical.not_not] at *); simp [bI, le_nl, *, eitherF]; done) | ((try simp only [le_nl, Classical.not_not] at *); simp_all [bI, le_nl, eitherF]; done))
  subst e17
  refine A_istore_n 18 dX8_eitherWay_17 rfl rfl (by decide) (by first | exact (ast_s (ast_s (ast_1 rfl))) | exact (ast_s (ast_s ast_k))) ?_
  refine A_iload_n 19 dX8_eitherWay_18 rfl rfl rfl ?_
  refine A_if_eq 30 22 dX8_eitherWay_19 (by decide) rfl (fun c19 => ?_) (fun c19 => ?_)
  · skip
    refine A_iload_n 31 dX8_eitherWay_30 rfl rfl rfl ?_
    refine A_iload_n 32 dX8_eitherWay_31 rfl rfl rfl ?_
    refine A_iload_n 33 dX8_eitherWay_32 rfl rfl rfl ?_
    refine A_ior 34 dX8_eitherWay_33 rfl ?_
    refine A_ixor 35 dX8_eitherWay_34 rfl ?_
    refine A_iret dX8_eitherWay_35 rfl ⟨_, rfl, (by simp_all [eitherF, bI_0, bI_n0]), rfl⟩
  · skip
    refine A_iload_n 23 dX8_eitherWay_22 rfl rfl rfl ?_
    refine A_iload_n 24 dX8_eitherWay_23 rfl rfl rfl ?_
    refine A_iconst 25 (-1) dX8_eitherWay_24 rfl (by decide) ?_
    refine A_ixor 26 dX8_eitherWay_25 rfl ?_
    refine A_iand 27 dX8_eitherWay_26 rfl ?_
    refine A_goto 35 dX8_eitherWay_27 (by decide) ?_
    refine A_iret dX8_eitherWay_35 rfl ⟨_, rfl, (by simp_all [eitherF, bI_0, bI_n0]), rfl⟩
set_option maxHeartbeats 4000000 in
set_option maxRecDepth 100000 in
theorem S_X8_pocketsAfter (X : En) (l : Launch) {w : Nat} {x : PW} {h : Hp} (hw : h w = some (wB w x)) (hx : WOK x) {k : Nat} (hk : k < 10) {has : Int32} : Ct X l mX8_pocketsAfter [aR w 0, aI (nI k), aI has] h (QI (PI0 (afterF x k has) h)) := by
  refine Ct.intro [some (aR w 0), some (aI (nI k)), some (aI has), none, none] (by decide +kernel) rfl (Nat.le_of_ble_eq_true rfl) ?_
  refine A_aload_n 1 dX8_pocketsAfter_0 rfl rfl rfl ?_
  refine A_iload_n 2 dX8_pocketsAfter_1 rfl rfl rfl ?_
  refine A_iconst 3 (2) dX8_pocketsAfter_2 rfl (by decide) ?_
  refine A_callVI 6 (S_X8_lawPart X l hw hk (p := 2) (j := 2) (by decide) (by decide)) dX8_pocketsAfter_3 rfl kX8_lawPart lk_X8_73 rfl (by assumption) (by decide) (by rfl) (Nat.le_of_ble_eq_true rfl) (fun v_1 h_1 qh_1 => ?_)
  obtain ⟨rfl, rfl⟩ := qh_1
  refine A_callNI 9 (S_X9_thingBit X l) dX8_pocketsAfter_6 rfl kX9_thingBit nk_X8_56 rfl (by decide) (by rfl) (Nat.le_of_ble_eq_true rfl) (fun v_2 h_2 qh_2 => ?_)
  obtain ⟨rfl, rfl⟩ := qh_2
  refine A_istore_n 10 dX8_pocketsAfter_9 rfl rfl (by decide) (by first | exact (ast_s (ast_s (ast_1 rfl))) | exact (ast_s (ast_s ast_k))) ?_
  refine A_aload_n 11 dX8_pocketsAfter_10 rfl rfl rfl ?_
  refine A_iload_n 12 dX8_pocketsAfter_11 rfl rfl rfl ?_
  refine A_iconst 13 (3) dX8_pocketsAfter_12 rfl (by decide) ?_
  refine A_callVI 16 (S_X8_lawPart X l hw hk (p := 3) (j := 3) (by decide) (by decide)) dX8_pocketsAfter_13 rfl kX8_lawPart lk_X8_73 rfl (by assumption) (by decide) (by rfl) (Nat.le_of_ble_eq_true rfl) (fun v_3 h_3 qh_3 => ?_)
  obtain ⟨rfl, rfl⟩ := qh_3
  refine A_callNI 19 (S_X9_thingBit X l) dX8_pocketsAfter_16 rfl kX9_thingBit nk_X8_56 rfl (by decide) (by rfl) (Nat.le_of_ble_eq_true rfl) (fun v_4 h_4 qh_4 => ?_)
  obtain ⟨rfl, rfl⟩ := qh_4
  refine A_istore 21 dX8_pocketsAfter_19 rfl (by decide) (by first | exact (ast_s (ast_s (ast_s (ast_1 rfl)))) | exact (ast_s (ast_s (ast_s ast_k)))) ?_
  refine A_aload_n 22 dX8_pocketsAfter_21 rfl rfl rfl ?_
  refine A_iload_n 23 dX8_pocketsAfter_22 rfl rfl rfl ?_
  refine A_iconst 24 (0) dX8_pocketsAfter_23 rfl (by decide) ?_
  refine A_callVI 27 (S_X8_lawPart X l hw hk (p := 0) (j := 0) (by decide) (by decide)) dX8_pocketsAfter_24 rfl kX8_lawPart lk_X8_73 rfl (by assumption) (by decide) (by rfl) (Nat.le_of_ble_eq_true rfl) (fun v_5 h_5 qh_5 => ?_)
  obtain ⟨rfl, rfl⟩ := qh_5
  rcases hx.kd6 hk with e | e | e | e | e | e
  · skip
    refine A_switch 64 dX8_pocketsAfter_27 (by rw [show x.1 (k * 4) = _ from e]; decide) (by rw [show x.1 (k * 4) = _ from e]; rfl) (by decide) ?_
    refine A_iload_n 65 dX8_pocketsAfter_64 rfl rfl rfl ?_
    refine A_iload_n 66 dX8_pocketsAfter_65 rfl rfl rfl ?_
    refine A_iconst 67 (-1) dX8_pocketsAfter_66 rfl (by decide) ?_
    refine A_ixor 68 dX8_pocketsAfter_67 rfl ?_
    refine A_iand 69 dX8_pocketsAfter_68 rfl ?_
    refine A_iload 71 dX8_pocketsAfter_69 rfl rfl ?_
    refine A_ior 72 dX8_pocketsAfter_71 rfl ?_
    refine A_iret dX8_pocketsAfter_72 rfl ⟨_, rfl, (by simp [afterF, e, tbI, wa, gi, fg]), rfl⟩
  · skip
    refine A_switch 73 dX8_pocketsAfter_27 (by rw [show x.1 (k * 4) = _ from e]; decide) (by rw [show x.1 (k * 4) = _ from e]; rfl) (by decide) ?_
    refine A_iload_n 74 dX8_pocketsAfter_73 rfl rfl rfl ?_
    refine A_iload 76 dX8_pocketsAfter_74 rfl rfl ?_
    refine A_ior 77 dX8_pocketsAfter_76 rfl ?_
    refine A_iret dX8_pocketsAfter_77 rfl ⟨_, rfl, (by simp [afterF, e, tbI, wa, gi, fg]), rfl⟩
  · skip
    refine A_switch 78 dX8_pocketsAfter_27 (by rw [show x.1 (k * 4) = _ from e]; decide) (by rw [show x.1 (k * 4) = _ from e]; rfl) (by decide) ?_
    refine A_iload_n 79 dX8_pocketsAfter_78 rfl rfl rfl ?_
    refine A_iload_n 80 dX8_pocketsAfter_79 rfl rfl rfl ?_
    refine A_iload 82 dX8_pocketsAfter_80 rfl rfl ?_
    refine A_callSI 85 (S_X8_eitherWay X l) dX8_pocketsAfter_82 rfl kX8_eitherWay lk_X8_77 rfl (by decide) (by rfl) (Nat.le_of_ble_eq_true rfl) (fun v_6 h_6 qh_6 => ?_)
    obtain ⟨rfl, rfl⟩ := qh_6
    refine A_iret dX8_pocketsAfter_85 rfl ⟨_, rfl, (by simp [afterF, e, tbI, wa, gi, fg]), rfl⟩
  · skip
    refine A_switch 73 dX8_pocketsAfter_27 (by rw [show x.1 (k * 4) = _ from e]; decide) (by rw [show x.1 (k * 4) = _ from e]; rfl) (by decide) ?_
    refine A_iload_n 74 dX8_pocketsAfter_73 rfl rfl rfl ?_
    refine A_iload 76 dX8_pocketsAfter_74 rfl rfl ?_
    refine A_ior 77 dX8_pocketsAfter_76 rfl ?_
    refine A_iret dX8_pocketsAfter_77 rfl ⟨_, rfl, (by simp [afterF, e, tbI, wa, gi, fg]), rfl⟩
  · skip
    refine A_switch 86 dX8_pocketsAfter_27 (by rw [show x.1 (k * 4) = _ from e]; decide) (by rw [show x.1 (k * 4) = _ from e]; rfl) (by decide) ?_
    refine A_iload_n 87 dX8_pocketsAfter_86 rfl rfl rfl ?_
    refine A_iload 89 dX8_pocketsAfter_87 rfl rfl ?_
    refine A_ior 90 dX8_pocketsAfter_89 rfl ?_
    refine A_aload_n 91 dX8_pocketsAfter_90 rfl rfl rfl ?_
    refine A_iload_n 92 dX8_pocketsAfter_91 rfl rfl rfl ?_
    refine A_iconst 93 (1) dX8_pocketsAfter_92 rfl (by decide) ?_
    refine A_callVI 96 (S_X8_lawPart X l hw hk (p := 1) (j := 1) (by decide) (by decide)) dX8_pocketsAfter_93 rfl kX8_lawPart lk_X8_73 rfl (by assumption) (by decide) (by rfl) (Nat.le_of_ble_eq_true rfl) (fun v_7 h_7 qh_7 => ?_)
    obtain ⟨rfl, rfl⟩ := qh_7
    refine A_callNI 99 (S_X9_thingBit X l) dX8_pocketsAfter_96 rfl kX9_thingBit nk_X8_56 rfl (by decide) (by rfl) (Nat.le_of_ble_eq_true rfl) (fun v_8 h_8 qh_8 => ?_)
    obtain ⟨rfl, rfl⟩ := qh_8
    refine A_iconst 100 (-1) dX8_pocketsAfter_99 rfl (by decide) ?_
    refine A_ixor 101 dX8_pocketsAfter_100 rfl ?_
    refine A_iand 102 dX8_pocketsAfter_101 rfl ?_
    refine A_iret dX8_pocketsAfter_102 rfl ⟨_, rfl, (by simp [afterF, e, tbI, wa, gi, fg]), rfl⟩
  · skip
    refine A_switch 103 dX8_pocketsAfter_27 (by rw [show x.1 (k * 4) = _ from e]; decide) (by rw [show x.1 (k * 4) = _ from e]; rfl) (by decide) ?_
    refine A_iload_n 104 dX8_pocketsAfter_103 rfl rfl rfl ?_
    refine A_aload_n 105 dX8_pocketsAfter_104 rfl rfl rfl ?_
    refine A_getfield 108 dX8_pocketsAfter_105 rfl f_X8_29 (by assumption) (by rfl) ?_
    refine A_ior 109 dX8_pocketsAfter_108 rfl ?_
    refine A_iret dX8_pocketsAfter_109 rfl ⟨_, rfl, (by simp [afterF, e, tbI, wa, gi, fg]), rfl⟩
