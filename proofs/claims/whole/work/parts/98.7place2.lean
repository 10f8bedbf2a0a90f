/-! the place of a fault stays where there is none: class -/
def PW (p : Nat) (c : Int32) (T : tT) : Prop := (T.1 3 1 = 0 → T.1 3 2 = c) ∧ 6 ≤ p ∧ T.2.2 3 3 = some p ∧ ∀ j, j < 8 → T.2.2 (p + 1) j = some (p + 3 + 7 * j)
theorem pw_K {p : Nat} {c : Int32} {T : tT} {k i : Nat} {v : Int32} (hk : k ≠ 3) (h : PW p c T) : PW p c (tI T k i v) := by
  unfold PW at *
  rw [tI_off (fun z => hk z.1.symm), tI_off (fun z => hk z.1.symm)]
  exact h
theorem pw_3 {p : Nat} {c : Int32} {T : tT} {i : Nat} {v : Int32} (h4 : i ≠ 1) (h5 : i ≠ 2) (h : PW p c T) : PW p c (tI T 3 i v) := by
  unfold PW at *
  rw [tI_off (fun z => h4 z.2.symm), tI_off (fun z => h5 z.2.symm)]
  exact h
theorem pw_J {p : Nat} {c : Int32} {T : tT} {k i : Nat} {v : Int64} (h : PW p c T) : PW p c (tJ T k i v) := h
theorem pw_ite {p : Nat} {c : Int32} {P : Prop} [Decidable P] {A B : tT} (ha : PW p c A) (hb : PW p c B) : PW p c (if P then A else B) := by
  by_cases d : P
  · rw [if_pos d]
    exact ha
  · rw [if_neg d]
    exact hb
theorem pw_fail {p : Nat} {c : Int32} {T : tT} {a b : Int32} (ha : a ≠ 0) (h : PW p c T) : PW p c (F_X6_fail T a b) := by
  unfold F_X6_fail
  split
  · refine ⟨fun z => ?_, h.2⟩
    rw [tI_off (by omega), tI_at] at z
    exact absurd z ha
  · exact h
theorem pw_cell {p p' : Nat} {c : Int32} {T : tT} {a b : Int32} (h : PW p c T) (e : T.2.2 3 3 = some p') : PW p c (F_X8_addCell T p' a b) := by
  have e' := h.2.2.1
  rw [e] at e'
  cases e'
  have p6 := h.2.1
  unfold F_X8_addCell
  split
  · exact h
  · exact pw_K (by omega) (pw_K (by omega) h)
theorem pw_refuse {p : Nat} {c : Int32} {T : tT} (h : PW p c T) : PW p c (F_X6_refuse T) := by
  unfold F_X6_refuse
  repeat' split
  all_goals repeat (first | with_reducible exact h | omega | decide | with_reducible apply pw_3 | with_reducible apply pw_K | with_reducible apply pw_J | with_reducible apply pw_fail | with_reducible apply pw_cell | with_reducible assumption | with_reducible apply pw_ite)
theorem pw_readNumber_l {p : Nat} {c : Int32} : ∀ n : Nat, (∀ (T : tT), PW p c T → PW p c (vl_X9_readNumber n T)) := by
  intro n
  induction n with
  | zero => exact fun T h => h
  | succ n ih =>
    intro T h
    · rw [vl_X9_readNumber_s]
      repeat' split
      all_goals repeat (first | with_reducible exact h | omega | decide | with_reducible apply ih | with_reducible apply pw_3 | with_reducible apply pw_K | with_reducible apply pw_J | with_reducible apply pw_fail | with_reducible apply pw_cell | with_reducible assumption | with_reducible apply pw_ite | with_reducible apply pw_refuse)
theorem pw_readNumber {p : Nat} {c : Int32} {T : tT} (h : PW p c T) : PW p c (F_X9_readNumber T) := by
  unfold F_X9_readNumber
  repeat' split
  all_goals repeat (first | with_reducible exact h | omega | decide | with_reducible apply pw_readNumber_l fu | with_reducible apply pw_3 | with_reducible apply pw_K | with_reducible apply pw_J | with_reducible apply pw_fail | with_reducible apply pw_cell | with_reducible assumption | with_reducible apply pw_ite | with_reducible apply pw_refuse)
theorem pw_readWord_l {p : Nat} {c : Int32} : ∀ n : Nat, (∀ (T : tT), PW p c T → PW p c (vl_X9_readWord n T)) := by
  intro n
  induction n with
  | zero => exact fun T h => h
  | succ n ih =>
    intro T h
    · rw [vl_X9_readWord_s]
      repeat' split
      all_goals repeat (first | with_reducible exact h | omega | decide | with_reducible apply ih | with_reducible apply pw_3 | with_reducible apply pw_K | with_reducible apply pw_J | with_reducible apply pw_fail | with_reducible apply pw_cell | with_reducible assumption | with_reducible apply pw_ite | with_reducible apply pw_refuse | with_reducible apply pw_readNumber)
theorem pw_readWord {p : Nat} {c : Int32} {T : tT} (h : PW p c T) : PW p c (F_X9_readWord T) := by
  unfold F_X9_readWord
  repeat' split
  all_goals repeat (first | with_reducible exact h | omega | decide | with_reducible apply pw_readWord_l fu | with_reducible apply pw_3 | with_reducible apply pw_K | with_reducible apply pw_J | with_reducible apply pw_fail | with_reducible apply pw_cell | with_reducible assumption | with_reducible apply pw_ite | with_reducible apply pw_refuse | with_reducible apply pw_readNumber)
theorem pw_next_l {p : Nat} {c : Int32} : ∀ n : Nat, (∀ (T : tT), PW p c T → PW p c (vl_X9_next n T)) := by
  intro n
  induction n with
  | zero => exact fun T h => h
  | succ n ih =>
    intro T h
    · rw [vl_X9_next_s]
      repeat' split
      all_goals repeat (first | with_reducible exact h | omega | decide | with_reducible apply ih | with_reducible apply pw_3 | with_reducible apply pw_K | with_reducible apply pw_J | with_reducible apply pw_fail | with_reducible apply pw_cell | with_reducible assumption | with_reducible apply pw_ite | with_reducible apply pw_refuse | with_reducible apply pw_readNumber | with_reducible apply pw_readWord)
theorem pw_next {p : Nat} {c : Int32} {T : tT} (h : PW p c T) : PW p c (F_X9_next T) := by
  unfold F_X9_next
  repeat' split
  all_goals repeat (first | with_reducible exact h | omega | decide | with_reducible apply pw_next_l fu | with_reducible apply pw_3 | with_reducible apply pw_K | with_reducible apply pw_J | with_reducible apply pw_fail | with_reducible apply pw_cell | with_reducible assumption | with_reducible apply pw_ite | with_reducible apply pw_refuse | with_reducible apply pw_readNumber | with_reducible apply pw_readWord)
theorem pw_take {p : Nat} {c : Int32} {T : tT} {x : Int32} (h : PW p c T) : PW p c (F_X6_take T x) := by
  unfold F_X6_take
  repeat' split
  all_goals repeat (first | with_reducible exact h | omega | decide | with_reducible apply pw_3 | with_reducible apply pw_K | with_reducible apply pw_J | with_reducible apply pw_fail | with_reducible apply pw_cell | with_reducible assumption | with_reducible apply pw_ite | with_reducible apply pw_refuse | with_reducible apply pw_readNumber | with_reducible apply pw_readWord | with_reducible apply pw_next)
theorem pw_takeNumber {p : Nat} {c : Int32} {T : tT} {x : Int32} {y : Int32} (h : PW p c T) : PW p c (F_X6_takeNumber T x y).2 := by
  unfold F_X6_takeNumber
  repeat' split
  all_goals repeat (first | with_reducible exact h | omega | decide | with_reducible apply pw_3 | with_reducible apply pw_K | with_reducible apply pw_J | with_reducible apply pw_fail | with_reducible apply pw_cell | with_reducible assumption | with_reducible apply pw_ite | with_reducible apply pw_refuse | with_reducible apply pw_readNumber | with_reducible apply pw_readWord | with_reducible apply pw_next | with_reducible apply pw_take)
theorem pw_takeNewName {p : Nat} {c : Int32} {T : tT} {q : Nat} (h : PW p c T) : PW p c (F_X6_takeNewName T q).2 := by
  unfold F_X6_takeNewName
  repeat' split
  all_goals repeat (first | with_reducible exact h | omega | decide | with_reducible apply pw_3 | with_reducible apply pw_K | with_reducible apply pw_J | with_reducible apply pw_fail | with_reducible apply pw_cell | with_reducible assumption | with_reducible apply pw_ite | with_reducible apply pw_refuse | with_reducible apply pw_readNumber | with_reducible apply pw_readWord | with_reducible apply pw_next | with_reducible apply pw_take | with_reducible apply pw_takeNumber)
theorem pw_addList {p : Nat} {c : Int32} {T : tT} {q : Nat} {x : Int64} (hq : 9 ≤ q) (h : PW p c T) : PW p c (F_X3_addList T q x) := by
  unfold F_X3_addList
  repeat' split
  all_goals repeat (first | with_reducible exact h | omega | decide | with_reducible apply pw_3 | with_reducible apply pw_K | with_reducible apply pw_J | with_reducible apply pw_fail | with_reducible apply pw_cell | with_reducible assumption | with_reducible apply pw_ite | with_reducible apply pw_refuse | with_reducible apply pw_readNumber | with_reducible apply pw_readWord | with_reducible apply pw_next | with_reducible apply pw_take | with_reducible apply pw_takeNumber | with_reducible apply pw_takeNewName)
theorem pw_addListed {p : Nat} {c : Int32} {T : tT} {q : Nat} {x : Int64} (hq : 9 ≤ q) (h : PW p c T) : PW p c (F_X3_addListed T q x) := by
  unfold F_X3_addListed
  repeat' split
  all_goals repeat (first | with_reducible exact h | omega | decide | with_reducible apply pw_3 | with_reducible apply pw_K | with_reducible apply pw_J | with_reducible apply pw_fail | with_reducible apply pw_cell | with_reducible assumption | with_reducible apply pw_ite | with_reducible apply pw_refuse | with_reducible apply pw_readNumber | with_reducible apply pw_readWord | with_reducible apply pw_next | with_reducible apply pw_take | with_reducible apply pw_takeNumber | with_reducible apply pw_takeNewName | with_reducible apply pw_addList)
theorem pw_addPart {p : Nat} {c : Int32} {T : tT} {q : Nat} {x : Int64} {y : Int32} (hq : 9 ≤ q) (h : PW p c T) : PW p c (F_X3_addPart T q x y) := by
  unfold F_X3_addPart
  repeat' split
  all_goals repeat (first | with_reducible exact h | omega | decide | with_reducible apply pw_3 | with_reducible apply pw_K | with_reducible apply pw_J | with_reducible apply pw_fail | with_reducible apply pw_cell | with_reducible assumption | with_reducible apply pw_ite | with_reducible apply pw_refuse | with_reducible apply pw_readNumber | with_reducible apply pw_readWord | with_reducible apply pw_next | with_reducible apply pw_take | with_reducible apply pw_takeNumber | with_reducible apply pw_takeNewName | with_reducible apply pw_addList | with_reducible apply pw_addListed)
theorem pw_addRule {p : Nat} {c : Int32} {T : tT} {q : Nat} {x : Int32} {y : Int32} (hq : 9 ≤ q) (h : PW p c T) : PW p c (F_X3_addRule T q x y) := by
  unfold F_X3_addRule
  repeat' split
  all_goals repeat (first | with_reducible exact h | omega | decide | with_reducible apply pw_3 | with_reducible apply pw_K | with_reducible apply pw_J | with_reducible apply pw_fail | with_reducible apply pw_cell | with_reducible assumption | with_reducible apply pw_ite | with_reducible apply pw_refuse | with_reducible apply pw_readNumber | with_reducible apply pw_readWord | with_reducible apply pw_next | with_reducible apply pw_take | with_reducible apply pw_takeNumber | with_reducible apply pw_takeNewName | with_reducible apply pw_addList | with_reducible apply pw_addListed | with_reducible apply pw_addPart)
theorem pw_takeListed {p : Nat} {c : Int32} {T : tT} {q : Nat} (hq : 9 ≤ q) (h : PW p c T) : PW p c (F_X6_takeListed T q) := by
  unfold F_X6_takeListed
  repeat' split
  all_goals repeat (first | with_reducible exact h | omega | decide | with_reducible apply pw_3 | with_reducible apply pw_K | with_reducible apply pw_J | with_reducible apply pw_fail | with_reducible apply pw_cell | with_reducible assumption | with_reducible apply pw_ite | with_reducible apply pw_refuse | with_reducible apply pw_readNumber | with_reducible apply pw_readWord | with_reducible apply pw_next | with_reducible apply pw_take | with_reducible apply pw_takeNumber | with_reducible apply pw_takeNewName | with_reducible apply pw_addList | with_reducible apply pw_addListed | with_reducible apply pw_addPart | with_reducible apply pw_addRule)
theorem pw_readList_l {p q : Nat} {c : Int32} (hq : 9 ≤ q) : ∀ (n : Nat) (T : tT) (v : Int32), PW p c T → PW p c (vl_X6_readList n T q v) := by
  intro n
  induction n with
  | zero => exact fun T v h => h
  | succ n ih =>
    intro T v h
    rw [vl_X6_readList_s]
    repeat' split
    all_goals repeat (first | with_reducible exact h | omega | decide | with_reducible apply ih | with_reducible apply pw_3 | with_reducible apply pw_K | with_reducible apply pw_J | with_reducible apply pw_fail | with_reducible apply pw_cell | with_reducible assumption | with_reducible apply pw_ite | with_reducible apply pw_refuse | with_reducible apply pw_readNumber | with_reducible apply pw_readWord | with_reducible apply pw_next | with_reducible apply pw_take | with_reducible apply pw_takeNumber | with_reducible apply pw_takeNewName | with_reducible apply pw_addList | with_reducible apply pw_addListed | with_reducible apply pw_addPart | with_reducible apply pw_addRule | with_reducible apply pw_takeListed)
theorem pw_readList {p : Nat} {c : Int32} {T : tT} {q : Nat} (hq : 9 ≤ q) (h : PW p c T) : PW p c (F_X6_readList T q) := by
  unfold F_X6_readList
  repeat' split
  all_goals repeat (first | with_reducible exact h | omega | decide | with_reducible apply pw_readList_l | with_reducible apply pw_3 | with_reducible apply pw_K | with_reducible apply pw_J | with_reducible apply pw_fail | with_reducible apply pw_cell | with_reducible assumption | with_reducible apply pw_ite | with_reducible apply pw_refuse | with_reducible apply pw_readNumber | with_reducible apply pw_readWord | with_reducible apply pw_next | with_reducible apply pw_take | with_reducible apply pw_takeNumber | with_reducible apply pw_takeNewName | with_reducible apply pw_addList | with_reducible apply pw_addListed | with_reducible apply pw_addPart | with_reducible apply pw_addRule | with_reducible apply pw_takeListed)
theorem pw_readPart {p : Nat} {c : Int32} {T : tT} {q : Nat} (hq : 9 ≤ q) (h : PW p c T) : PW p c (F_X6_readPart T q) := by
  unfold F_X6_readPart
  repeat' split
  all_goals repeat (first | with_reducible exact h | omega | decide | with_reducible apply pw_3 | with_reducible apply pw_K | with_reducible apply pw_J | with_reducible apply pw_fail | with_reducible apply pw_cell | with_reducible assumption | with_reducible apply pw_ite | with_reducible apply pw_refuse | with_reducible apply pw_readNumber | with_reducible apply pw_readWord | with_reducible apply pw_next | with_reducible apply pw_take | with_reducible apply pw_takeNumber | with_reducible apply pw_takeNewName | with_reducible apply pw_addList | with_reducible apply pw_addListed | with_reducible apply pw_addPart | with_reducible apply pw_addRule | with_reducible apply pw_takeListed | with_reducible apply pw_readList)
theorem pw_addNamed {p : Nat} {c : Int32} {T : tT} {x : Int32} {y : Int32} (h : PW p c T) : PW p c (F_X6_addNamed T x y) := by
  unfold F_X6_addNamed
  repeat' split
  all_goals repeat (first | with_reducible exact h | omega | decide | with_reducible apply pw_3 | with_reducible apply pw_K | with_reducible apply pw_J | with_reducible apply pw_fail | with_reducible apply pw_cell | with_reducible assumption | with_reducible apply pw_ite | with_reducible apply pw_refuse | with_reducible apply pw_readNumber | with_reducible apply pw_readWord | with_reducible apply pw_next | with_reducible apply pw_take | with_reducible apply pw_takeNumber | with_reducible apply pw_takeNewName | with_reducible apply pw_addList | with_reducible apply pw_addListed | with_reducible apply pw_addPart | with_reducible apply pw_addRule | with_reducible apply pw_takeListed | with_reducible apply pw_readList | with_reducible apply pw_readPart)
theorem pw_addMeaning {p : Nat} {c : Int32} {T : tT} {q : Nat} (h : PW p c T) : PW p c (F_X6_addMeaning T q) := by
  unfold F_X6_addMeaning
  repeat' split
  all_goals repeat (first | with_reducible exact h | omega | decide | with_reducible apply pw_3 | with_reducible apply pw_K | with_reducible apply pw_J | with_reducible apply pw_fail | with_reducible apply pw_cell | with_reducible assumption | with_reducible apply pw_ite | with_reducible apply pw_refuse | with_reducible apply pw_readNumber | with_reducible apply pw_readWord | with_reducible apply pw_next | with_reducible apply pw_take | with_reducible apply pw_takeNumber | with_reducible apply pw_takeNewName | with_reducible apply pw_addList | with_reducible apply pw_addListed | with_reducible apply pw_addPart | with_reducible apply pw_addRule | with_reducible apply pw_takeListed | with_reducible apply pw_readList | with_reducible apply pw_readPart | with_reducible apply pw_addNamed)
theorem pw_readLeaf {p q : Nat} {c x : Int32} {T : tT} {rE : tT → Nat → Int32 → tT} (hE : ∀ (T : tT) (x : Int32), PW p c T → PW p c (rE T q x)) (h : PW p c T) : PW p c (F_X6_readLeaf rE T q x) := by
  unfold F_X6_readLeaf
  repeat' split
  all_goals repeat (first | with_reducible exact h | omega | decide | with_reducible apply hE | with_reducible apply pw_3 | with_reducible apply pw_K | with_reducible apply pw_J | with_reducible apply pw_fail | with_reducible apply pw_cell | with_reducible assumption | with_reducible apply pw_ite | with_reducible apply pw_refuse | with_reducible apply pw_readNumber | with_reducible apply pw_readWord | with_reducible apply pw_next | with_reducible apply pw_take | with_reducible apply pw_takeNumber | with_reducible apply pw_takeNewName | with_reducible apply pw_addList | with_reducible apply pw_addListed | with_reducible apply pw_addPart | with_reducible apply pw_addRule | with_reducible apply pw_takeListed | with_reducible apply pw_readList | with_reducible apply pw_readPart | with_reducible apply pw_addNamed | with_reducible apply pw_addMeaning)
theorem pw_readSum_l {p q : Nat} {c : Int32} {rE : tT → Nat → Int32 → tT} (hE : ∀ (T : tT) (x : Int32), PW p c T → PW p c (rE T q x)) : ∀ (n : Nat) (T : tT) (x v : Int32), PW p c T → PW p c (vl_X6_readSum rE n T q x v) := by
  intro n
  induction n with
  | zero => exact fun T x v h => h
  | succ n ih =>
    intro T x v h
    rw [vl_X6_readSum_s]
    repeat' split
    all_goals repeat (first | with_reducible exact h | omega | decide | with_reducible apply hE | with_reducible apply ih | with_reducible apply pw_3 | with_reducible apply pw_K | with_reducible apply pw_J | with_reducible apply pw_fail | with_reducible apply pw_cell | with_reducible assumption | with_reducible apply pw_ite | with_reducible apply pw_refuse | with_reducible apply pw_readNumber | with_reducible apply pw_readWord | with_reducible apply pw_next | with_reducible apply pw_take | with_reducible apply pw_takeNumber | with_reducible apply pw_takeNewName | with_reducible apply pw_addList | with_reducible apply pw_addListed | with_reducible apply pw_addPart | with_reducible apply pw_addRule | with_reducible apply pw_takeListed | with_reducible apply pw_readList | with_reducible apply pw_readPart | with_reducible apply pw_addNamed | with_reducible apply pw_addMeaning | with_reducible refine pw_readLeaf hE ?_)
theorem pw_readSum {p q : Nat} {c x : Int32} {T : tT} {rE : tT → Nat → Int32 → tT} (hE : ∀ (T : tT) (x : Int32), PW p c T → PW p c (rE T q x)) (h : PW p c T) : PW p c (F_X6_readSum rE T q x) := by
  unfold F_X6_readSum
  repeat' split
  all_goals repeat (first | with_reducible exact h | omega | decide | with_reducible apply hE | with_reducible apply (pw_readSum_l hE) | with_reducible apply pw_3 | with_reducible apply pw_K | with_reducible apply pw_J | with_reducible apply pw_fail | with_reducible apply pw_cell | with_reducible assumption | with_reducible apply pw_ite | with_reducible apply pw_refuse | with_reducible apply pw_readNumber | with_reducible apply pw_readWord | with_reducible apply pw_next | with_reducible apply pw_take | with_reducible apply pw_takeNumber | with_reducible apply pw_takeNewName | with_reducible apply pw_addList | with_reducible apply pw_addListed | with_reducible apply pw_addPart | with_reducible apply pw_addRule | with_reducible apply pw_takeListed | with_reducible apply pw_readList | with_reducible apply pw_readPart | with_reducible apply pw_addNamed | with_reducible apply pw_addMeaning | with_reducible refine pw_readLeaf hE ?_)
theorem pw_readCompared {p q : Nat} {c x : Int32} {T : tT} {rE : tT → Nat → Int32 → tT} (hE : ∀ (T : tT) (x : Int32), PW p c T → PW p c (rE T q x)) (h : PW p c T) : PW p c (F_X6_readCompared rE T q x) := by
  unfold F_X6_readCompared
  repeat' split
  all_goals repeat (first | with_reducible exact h | omega | decide | with_reducible apply hE | with_reducible apply pw_3 | with_reducible apply pw_K | with_reducible apply pw_J | with_reducible apply pw_fail | with_reducible apply pw_cell | with_reducible assumption | with_reducible apply pw_ite | with_reducible apply pw_refuse | with_reducible apply pw_readNumber | with_reducible apply pw_readWord | with_reducible apply pw_next | with_reducible apply pw_take | with_reducible apply pw_takeNumber | with_reducible apply pw_takeNewName | with_reducible apply pw_addList | with_reducible apply pw_addListed | with_reducible apply pw_addPart | with_reducible apply pw_addRule | with_reducible apply pw_takeListed | with_reducible apply pw_readList | with_reducible apply pw_readPart | with_reducible apply pw_addNamed | with_reducible apply pw_addMeaning | with_reducible refine pw_readLeaf hE ?_ | with_reducible refine pw_readSum hE ?_)
theorem pw_readOne {p q : Nat} {c x : Int32} {T : tT} {rE : tT → Nat → Int32 → tT} {rO : tT → Nat → Int32 → tT} (hE : ∀ (T : tT) (x : Int32), PW p c T → PW p c (rE T q x)) (hO : ∀ (T : tT) (x : Int32), PW p c T → PW p c (rO T q x)) (h : PW p c T) : PW p c (F_X6_readOne rE rO T q x) := by
  unfold F_X6_readOne
  repeat' split
  all_goals repeat (first | with_reducible exact h | omega | decide | with_reducible apply hE | with_reducible apply hO | with_reducible apply pw_3 | with_reducible apply pw_K | with_reducible apply pw_J | with_reducible apply pw_fail | with_reducible apply pw_cell | with_reducible assumption | with_reducible apply pw_ite | with_reducible apply pw_refuse | with_reducible apply pw_readNumber | with_reducible apply pw_readWord | with_reducible apply pw_next | with_reducible apply pw_take | with_reducible apply pw_takeNumber | with_reducible apply pw_takeNewName | with_reducible apply pw_addList | with_reducible apply pw_addListed | with_reducible apply pw_addPart | with_reducible apply pw_addRule | with_reducible apply pw_takeListed | with_reducible apply pw_readList | with_reducible apply pw_readPart | with_reducible apply pw_addNamed | with_reducible apply pw_addMeaning | with_reducible refine pw_readLeaf hE ?_ | with_reducible refine pw_readSum hE ?_ | with_reducible refine pw_readCompared hE ?_)
theorem pw_readBoth_l {p q : Nat} {c : Int32} {rO : tT → Nat → Int32 → tT} (hO : ∀ (T : tT) (x : Int32), PW p c T → PW p c (rO T q x)) : ∀ (n : Nat) (T : tT) (x v : Int32), PW p c T → PW p c (vl_X6_readBoth rO n T q x v) := by
  intro n
  induction n with
  | zero => exact fun T x v h => h
  | succ n ih =>
    intro T x v h
    rw [vl_X6_readBoth_s]
    repeat' split
    all_goals repeat (first | with_reducible exact h | omega | decide | with_reducible apply hO | with_reducible apply ih | with_reducible apply pw_3 | with_reducible apply pw_K | with_reducible apply pw_J | with_reducible apply pw_fail | with_reducible apply pw_cell | with_reducible assumption | with_reducible apply pw_ite | with_reducible apply pw_refuse | with_reducible apply pw_readNumber | with_reducible apply pw_readWord | with_reducible apply pw_next | with_reducible apply pw_take | with_reducible apply pw_takeNumber | with_reducible apply pw_takeNewName | with_reducible apply pw_addList | with_reducible apply pw_addListed | with_reducible apply pw_addPart | with_reducible apply pw_addRule | with_reducible apply pw_takeListed | with_reducible apply pw_readList | with_reducible apply pw_readPart | with_reducible apply pw_addNamed | with_reducible apply pw_addMeaning | with_reducible refine pw_readLeaf hE ?_ | with_reducible refine pw_readSum hE ?_ | with_reducible refine pw_readCompared hE ?_ | with_reducible refine pw_readOne hE hO ?_)
theorem pw_readBoth {p q : Nat} {c x : Int32} {T : tT} {rO : tT → Nat → Int32 → tT} (hO : ∀ (T : tT) (x : Int32), PW p c T → PW p c (rO T q x)) (h : PW p c T) : PW p c (F_X6_readBoth rO T q x) := by
  unfold F_X6_readBoth
  repeat' split
  all_goals repeat (first | with_reducible exact h | omega | decide | with_reducible apply hO | with_reducible apply (pw_readBoth_l hO) | with_reducible apply pw_3 | with_reducible apply pw_K | with_reducible apply pw_J | with_reducible apply pw_fail | with_reducible apply pw_cell | with_reducible assumption | with_reducible apply pw_ite | with_reducible apply pw_refuse | with_reducible apply pw_readNumber | with_reducible apply pw_readWord | with_reducible apply pw_next | with_reducible apply pw_take | with_reducible apply pw_takeNumber | with_reducible apply pw_takeNewName | with_reducible apply pw_addList | with_reducible apply pw_addListed | with_reducible apply pw_addPart | with_reducible apply pw_addRule | with_reducible apply pw_takeListed | with_reducible apply pw_readList | with_reducible apply pw_readPart | with_reducible apply pw_addNamed | with_reducible apply pw_addMeaning | with_reducible refine pw_readLeaf hE ?_ | with_reducible refine pw_readSum hE ?_ | with_reducible refine pw_readCompared hE ?_ | with_reducible refine pw_readOne hE hO ?_)
theorem pw_readE_l {p q : Nat} {c : Int32} {rO : tT → Nat → Int32 → tT} (hO : ∀ (T : tT) (x : Int32), PW p c T → PW p c (rO T q x)) : ∀ (n : Nat) (T : tT) (x v : Int32), PW p c T → PW p c (vl_X6_readE rO n T q x v) := by
  intro n
  induction n with
  | zero => exact fun T x v h => h
  | succ n ih =>
    intro T x v h
    rw [vl_X6_readE_s]
    repeat' split
    all_goals repeat (first | with_reducible exact h | omega | decide | with_reducible apply hO | with_reducible apply ih | with_reducible apply pw_3 | with_reducible apply pw_K | with_reducible apply pw_J | with_reducible apply pw_fail | with_reducible apply pw_cell | with_reducible assumption | with_reducible apply pw_ite | with_reducible apply pw_refuse | with_reducible apply pw_readNumber | with_reducible apply pw_readWord | with_reducible apply pw_next | with_reducible apply pw_take | with_reducible apply pw_takeNumber | with_reducible apply pw_takeNewName | with_reducible apply pw_addList | with_reducible apply pw_addListed | with_reducible apply pw_addPart | with_reducible apply pw_addRule | with_reducible apply pw_takeListed | with_reducible apply pw_readList | with_reducible apply pw_readPart | with_reducible apply pw_addNamed | with_reducible apply pw_addMeaning | with_reducible refine pw_readLeaf hE ?_ | with_reducible refine pw_readSum hE ?_ | with_reducible refine pw_readCompared hE ?_ | with_reducible refine pw_readOne hE hO ?_ | with_reducible refine pw_readBoth hO ?_)
theorem pw_readE {p q : Nat} {c x : Int32} {T : tT} {rO : tT → Nat → Int32 → tT} (hO : ∀ (T : tT) (x : Int32), PW p c T → PW p c (rO T q x)) (h : PW p c T) : PW p c (F_X6_readE rO T q x) := by
  unfold F_X6_readE
  repeat' split
  all_goals repeat (first | with_reducible exact h | omega | decide | with_reducible apply hO | with_reducible apply (pw_readE_l hO) | with_reducible apply pw_3 | with_reducible apply pw_K | with_reducible apply pw_J | with_reducible apply pw_fail | with_reducible apply pw_cell | with_reducible assumption | with_reducible apply pw_ite | with_reducible apply pw_refuse | with_reducible apply pw_readNumber | with_reducible apply pw_readWord | with_reducible apply pw_next | with_reducible apply pw_take | with_reducible apply pw_takeNumber | with_reducible apply pw_takeNewName | with_reducible apply pw_addList | with_reducible apply pw_addListed | with_reducible apply pw_addPart | with_reducible apply pw_addRule | with_reducible apply pw_takeListed | with_reducible apply pw_readList | with_reducible apply pw_readPart | with_reducible apply pw_addNamed | with_reducible apply pw_addMeaning | with_reducible refine pw_readLeaf hE ?_ | with_reducible refine pw_readSum hE ?_ | with_reducible refine pw_readCompared hE ?_ | with_reducible refine pw_readOne hE hO ?_ | with_reducible refine pw_readBoth hO ?_)
theorem pw_O {p q : Nat} {c : Int32} : ∀ (n : Nat) (T : tT) (x : Int32), PW p c T → PW p c (Oc n T q x) := by
  intro n
  induction n with
  | zero => exact fun T x h => h
  | succ n ih =>
    intro T x h
    exact pw_readOne (fun T x h => pw_readE ih h) ih h
theorem pw_E {p q : Nat} {c x : Int32} {T : tT} (h : PW p c T) : PW p c (Fc_readE T q x) := pw_readE (pw_O 9) h
theorem pw_readItem {p : Nat} {c : Int32} {T : tT} {q : Nat} (hq : 9 ≤ q) (h : PW p c T) : PW p c (F_X6_readItem T q) := by
  unfold F_X6_readItem
  repeat' split
  all_goals repeat (first | with_reducible exact h | omega | decide | with_reducible apply pw_3 | with_reducible apply pw_K | with_reducible apply pw_J | with_reducible apply pw_fail | with_reducible apply pw_cell | with_reducible assumption | with_reducible apply pw_ite | with_reducible apply pw_refuse | with_reducible apply pw_readNumber | with_reducible apply pw_readWord | with_reducible apply pw_next | with_reducible apply pw_take | with_reducible apply pw_takeNumber | with_reducible apply pw_takeNewName | with_reducible apply pw_addList | with_reducible apply pw_addListed | with_reducible apply pw_addPart | with_reducible apply pw_addRule | with_reducible apply pw_takeListed | with_reducible apply pw_readList | with_reducible apply pw_readPart | with_reducible apply pw_addNamed | with_reducible apply pw_addMeaning | with_reducible apply pw_E)
