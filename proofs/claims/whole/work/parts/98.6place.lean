/-! the place of a fault stays where there is none: reference -/
def PV (c : Int32) (T : tT) : Prop := T.1 105 4 = 0 → T.1 105 5 = c
theorem pv_K {c : Int32} {T : tT} {k i : Nat} {v : Int32} (hk : k ≠ 105) (h : PV c T) : PV c (tI T k i v) := by
  unfold PV at *
  rw [tI_off (fun z => hk z.1.symm), tI_off (fun z => hk z.1.symm)]
  exact h
theorem pv_5 {c : Int32} {T : tT} {i : Nat} {v : Int32} (h4 : i ≠ 4) (h5 : i ≠ 5) (h : PV c T) : PV c (tI T 105 i v) := by
  unfold PV at *
  rw [tI_off (fun z => h4 z.2.symm), tI_off (fun z => h5 z.2.symm)]
  exact h
theorem pv_J {c : Int32} {T : tT} {k i : Nat} {v : Int64} (h : PV c T) : PV c (tJ T k i v) := h
theorem pv_ite {c : Int32} {P : Prop} [Decidable P] {A B : tT} (ha : PV c A) (hb : PV c B) : PV c (if P then A else B) := by
  by_cases d : P
  · rw [if_pos d]
    exact ha
  · rw [if_neg d]
    exact hb
theorem pv_fails {c : Int32} {T : tT} {a p : Int32} (ha : a ≠ 0) (h : PV c T) : PV c (F_X11_fails T a p) := by
  unfold F_X11_fails
  split
  · intro z
    rw [tI_off (by omega), tI_at] at z
    exact absurd z ha
  · exact h
theorem pv_wrong {c : Int32} {T : tT} (h : PV c T) : PV c (F_X11_wrong T) := by
  unfold F_X11_wrong
  repeat' split
  all_goals repeat (first | with_reducible exact h | decide | with_reducible apply pv_5 | with_reducible apply pv_K | with_reducible apply pv_J | with_reducible apply pv_fails | with_reducible apply pv_ite)
theorem pv_pile {c : Int32} {T : tT} {x : Int32} {y : Int32} (h : PV c T) : PV c (F_X11_pile T x y) := by
  unfold F_X11_pile
  repeat' split
  all_goals repeat (first | with_reducible exact h | decide | with_reducible apply pv_5 | with_reducible apply pv_K | with_reducible apply pv_J | with_reducible apply pv_fails | with_reducible apply pv_ite)
theorem pv_step {c : Int32} {T : tT} {x : Int32} {y : Int32} (h : PV c T) : PV c (F_X11_step T x y) := by
  unfold F_X11_step
  repeat' split
  all_goals repeat (first | with_reducible exact h | decide | with_reducible apply pv_5 | with_reducible apply pv_K | with_reducible apply pv_J | with_reducible apply pv_fails | with_reducible apply pv_ite)
theorem pv_next_l {c : Int32} : ∀ n : Nat, (∀ (T : tT), PV c T → PV c ((vl_X11_next n).1 T)) ∧ (∀ (T : tT), PV c T → PV c ((vl_X11_next n).2.1 T)) ∧ (∀ (T : tT), PV c T → PV c ((vl_X11_next n).2.2.1 T)) ∧ (∀ (T : tT), PV c T → PV c ((vl_X11_next n).2.2.2.1 T)) ∧ (∀ (T : tT), PV c T → PV c ((vl_X11_next n).2.2.2.2.1 T)) ∧ (∀ (T : tT), PV c T → PV c ((vl_X11_next n).2.2.2.2.2.1 T)) ∧ (∀ (T : tT), PV c T → PV c ((vl_X11_next n).2.2.2.2.2.2.1 T)) ∧ (∀ (T : tT) (a0 : Int32), PV c T → PV c ((vl_X11_next n).2.2.2.2.2.2.2.1 T a0)) ∧ (∀ (T : tT), PV c T → PV c ((vl_X11_next n).2.2.2.2.2.2.2.2 T)) := by
  intro n
  induction n with
  | zero => exact ⟨fun T h => h, fun T h => h, fun T h => h, fun T h => h, fun T h => h, fun T h => h, fun T h => h, fun T _ h => h, fun T h => h⟩
  | succ n ih =>
    obtain ⟨i0, i1, i2, i3, i4, i5, i6, i7, i8⟩ := ih
    refine ⟨fun T h => ?_, fun T h => ?_, fun T h => ?_, fun T h => ?_, fun T h => ?_, fun T h => ?_, fun T h => ?_, fun T a0 h => ?_, fun T h => ?_⟩
    · rw [vl_X11_next_s0]
      repeat' split
      all_goals repeat (first | with_reducible exact h | decide | with_reducible apply i0 | with_reducible apply i1 | with_reducible apply i2 | with_reducible apply i3 | with_reducible apply i4 | with_reducible apply i5 | with_reducible apply i6 | with_reducible apply i7 | with_reducible apply i8 | with_reducible apply pv_5 | with_reducible apply pv_K | with_reducible apply pv_J | with_reducible apply pv_fails | with_reducible apply pv_ite | with_reducible apply pv_wrong | with_reducible apply pv_pile | with_reducible apply pv_step)
    · rw [vl_X11_next_s1]
      repeat' split
      all_goals repeat (first | with_reducible exact h | decide | with_reducible apply i0 | with_reducible apply i1 | with_reducible apply i2 | with_reducible apply i3 | with_reducible apply i4 | with_reducible apply i5 | with_reducible apply i6 | with_reducible apply i7 | with_reducible apply i8 | with_reducible apply pv_5 | with_reducible apply pv_K | with_reducible apply pv_J | with_reducible apply pv_fails | with_reducible apply pv_ite | with_reducible apply pv_wrong | with_reducible apply pv_pile | with_reducible apply pv_step)
    · rw [vl_X11_next_s2]
      repeat' split
      all_goals repeat (first | with_reducible exact h | decide | with_reducible apply i0 | with_reducible apply i1 | with_reducible apply i2 | with_reducible apply i3 | with_reducible apply i4 | with_reducible apply i5 | with_reducible apply i6 | with_reducible apply i7 | with_reducible apply i8 | with_reducible apply pv_5 | with_reducible apply pv_K | with_reducible apply pv_J | with_reducible apply pv_fails | with_reducible apply pv_ite | with_reducible apply pv_wrong | with_reducible apply pv_pile | with_reducible apply pv_step)
    · rw [vl_X11_next_s3]
      repeat' split
      all_goals repeat (first | with_reducible exact h | decide | with_reducible apply i0 | with_reducible apply i1 | with_reducible apply i2 | with_reducible apply i3 | with_reducible apply i4 | with_reducible apply i5 | with_reducible apply i6 | with_reducible apply i7 | with_reducible apply i8 | with_reducible apply pv_5 | with_reducible apply pv_K | with_reducible apply pv_J | with_reducible apply pv_fails | with_reducible apply pv_ite | with_reducible apply pv_wrong | with_reducible apply pv_pile | with_reducible apply pv_step)
    · rw [vl_X11_next_s4]
      repeat' split
      all_goals repeat (first | with_reducible exact h | decide | with_reducible apply i0 | with_reducible apply i1 | with_reducible apply i2 | with_reducible apply i3 | with_reducible apply i4 | with_reducible apply i5 | with_reducible apply i6 | with_reducible apply i7 | with_reducible apply i8 | with_reducible apply pv_5 | with_reducible apply pv_K | with_reducible apply pv_J | with_reducible apply pv_fails | with_reducible apply pv_ite | with_reducible apply pv_wrong | with_reducible apply pv_pile | with_reducible apply pv_step)
    · rw [vl_X11_next_s5]
      repeat' split
      all_goals repeat (first | with_reducible exact h | decide | with_reducible apply i0 | with_reducible apply i1 | with_reducible apply i2 | with_reducible apply i3 | with_reducible apply i4 | with_reducible apply i5 | with_reducible apply i6 | with_reducible apply i7 | with_reducible apply i8 | with_reducible apply pv_5 | with_reducible apply pv_K | with_reducible apply pv_J | with_reducible apply pv_fails | with_reducible apply pv_ite | with_reducible apply pv_wrong | with_reducible apply pv_pile | with_reducible apply pv_step)
    · rw [vl_X11_next_s6]
      repeat' split
      all_goals repeat (first | with_reducible exact h | decide | with_reducible apply i0 | with_reducible apply i1 | with_reducible apply i2 | with_reducible apply i3 | with_reducible apply i4 | with_reducible apply i5 | with_reducible apply i6 | with_reducible apply i7 | with_reducible apply i8 | with_reducible apply pv_5 | with_reducible apply pv_K | with_reducible apply pv_J | with_reducible apply pv_fails | with_reducible apply pv_ite | with_reducible apply pv_wrong | with_reducible apply pv_pile | with_reducible apply pv_step)
    · rw [vl_X11_next_s7]
      repeat' split
      all_goals repeat (first | with_reducible exact h | decide | with_reducible apply i0 | with_reducible apply i1 | with_reducible apply i2 | with_reducible apply i3 | with_reducible apply i4 | with_reducible apply i5 | with_reducible apply i6 | with_reducible apply i7 | with_reducible apply i8 | with_reducible apply pv_5 | with_reducible apply pv_K | with_reducible apply pv_J | with_reducible apply pv_fails | with_reducible apply pv_ite | with_reducible apply pv_wrong | with_reducible apply pv_pile | with_reducible apply pv_step)
    · rw [vl_X11_next_s8]
      repeat' split
      all_goals repeat (first | with_reducible exact h | decide | with_reducible apply i0 | with_reducible apply i1 | with_reducible apply i2 | with_reducible apply i3 | with_reducible apply i4 | with_reducible apply i5 | with_reducible apply i6 | with_reducible apply i7 | with_reducible apply i8 | with_reducible apply pv_5 | with_reducible apply pv_K | with_reducible apply pv_J | with_reducible apply pv_fails | with_reducible apply pv_ite | with_reducible apply pv_wrong | with_reducible apply pv_pile | with_reducible apply pv_step)
theorem pv_next {c : Int32} {T : tT} (h : PV c T) : PV c (F_X11_next T) := by
  unfold F_X11_next
  exact (pv_next_l fu).1 _ (pv_5 (by decide) (by decide) h)
theorem pv_must {c : Int32} {T : tT} {x : Int32} (h : PV c T) : PV c (F_X11_must T x) := by
  unfold F_X11_must
  repeat' split
  all_goals repeat (first | with_reducible exact h | decide | with_reducible apply pv_5 | with_reducible apply pv_K | with_reducible apply pv_J | with_reducible apply pv_fails | with_reducible apply pv_ite | with_reducible apply pv_wrong | with_reducible apply pv_pile | with_reducible apply pv_step | with_reducible apply pv_next)
theorem pv_meant_l {c : Int32} : ∀ n : Nat, (∀ (T : tT) (a0 : Int32) (a1 : Int32), PV c T → PV c ((vl_X11_meant n).1 T a0 a1)) ∧ (∀ (T : tT) (a0 : Int32), PV c T → PV c ((vl_X11_meant n).2.1 T a0)) ∧ (∀ (T : tT) (a0 : Int32) (a1 : Int32), PV c T → PV c ((vl_X11_meant n).2.2.1 T a0 a1)) ∧ (∀ (T : tT) (a0 : Int32), PV c T → PV c ((vl_X11_meant n).2.2.2 T a0)) := by
  intro n
  induction n with
  | zero => exact ⟨fun T _ _ h => h, fun T _ h => h, fun T _ _ h => h, fun T _ h => h⟩
  | succ n ih =>
    obtain ⟨i0, i1, i2, i3⟩ := ih
    refine ⟨fun T a0 a1 h => ?_, fun T a0 h => ?_, fun T a0 a1 h => ?_, fun T a0 h => ?_⟩
    · rw [vl_X11_meant_s0]
      repeat' split
      all_goals repeat (first | with_reducible exact h | decide | with_reducible apply i0 | with_reducible apply i1 | with_reducible apply i2 | with_reducible apply i3 | with_reducible apply pv_5 | with_reducible apply pv_K | with_reducible apply pv_J | with_reducible apply pv_fails | with_reducible apply pv_ite | with_reducible apply pv_wrong | with_reducible apply pv_pile | with_reducible apply pv_step | with_reducible apply pv_next | with_reducible apply pv_must)
    · rw [vl_X11_meant_s1]
      repeat' split
      all_goals repeat (first | with_reducible exact h | decide | with_reducible apply i0 | with_reducible apply i1 | with_reducible apply i2 | with_reducible apply i3 | with_reducible apply pv_5 | with_reducible apply pv_K | with_reducible apply pv_J | with_reducible apply pv_fails | with_reducible apply pv_ite | with_reducible apply pv_wrong | with_reducible apply pv_pile | with_reducible apply pv_step | with_reducible apply pv_next | with_reducible apply pv_must)
    · rw [vl_X11_meant_s2]
      repeat' split
      all_goals repeat (first | with_reducible exact h | decide | with_reducible apply i0 | with_reducible apply i1 | with_reducible apply i2 | with_reducible apply i3 | with_reducible apply pv_5 | with_reducible apply pv_K | with_reducible apply pv_J | with_reducible apply pv_fails | with_reducible apply pv_ite | with_reducible apply pv_wrong | with_reducible apply pv_pile | with_reducible apply pv_step | with_reducible apply pv_next | with_reducible apply pv_must)
    · rw [vl_X11_meant_s3]
      repeat' split
      all_goals repeat (first | with_reducible exact h | decide | with_reducible apply i0 | with_reducible apply i1 | with_reducible apply i2 | with_reducible apply i3 | with_reducible apply pv_5 | with_reducible apply pv_K | with_reducible apply pv_J | with_reducible apply pv_fails | with_reducible apply pv_ite | with_reducible apply pv_wrong | with_reducible apply pv_pile | with_reducible apply pv_step | with_reducible apply pv_next | with_reducible apply pv_must)
theorem pv_meant {c : Int32} {T : tT} {x : Int32} {y : Int32} (h : PV c T) : PV c (F_X11_meant T x y) := by
  unfold F_X11_meant
  repeat' split
  all_goals repeat (first | with_reducible exact h | decide | with_reducible apply (pv_meant_l fu).1 | with_reducible apply (pv_meant_l fu).2.1 | with_reducible apply (pv_meant_l fu).2.2.1 | with_reducible apply (pv_meant_l fu).2.2.2 | with_reducible apply pv_5 | with_reducible apply pv_K | with_reducible apply pv_J | with_reducible apply pv_fails | with_reducible apply pv_ite | with_reducible apply pv_wrong | with_reducible apply pv_pile | with_reducible apply pv_step | with_reducible apply pv_next | with_reducible apply pv_must)
theorem pv_value_l {c : Int32} : ∀ n : Nat, (∀ (T : tT), PV c T → PV c ((vl_X11_value n).1 T).2) ∧ (∀ (T : tT) (a0 : Int32) (a1 : Int32), PV c T → PV c ((vl_X11_value n).2.1 T a0 a1).2) ∧ (∀ (T : tT) (a0 : Int32), PV c T → PV c ((vl_X11_value n).2.2.1 T a0).2) ∧ (∀ (T : tT) (a0 : Int32) (a1 : Int32), PV c T → PV c ((vl_X11_value n).2.2.2.1 T a0 a1).2) ∧ (∀ (T : tT) (a0 : Int32) (a1 : Int32), PV c T → PV c ((vl_X11_value n).2.2.2.2.1 T a0 a1).2) ∧ (∀ (T : tT) (a0 : Int32) (a1 : Int32) (a2 : Int32), PV c T → PV c ((vl_X11_value n).2.2.2.2.2.1 T a0 a1 a2).2) ∧ (∀ (T : tT) (a0 : Int32) (a1 : Int32) (a2 : Int32), PV c T → PV c ((vl_X11_value n).2.2.2.2.2.2.1 T a0 a1 a2).2) ∧ (∀ (T : tT) (a0 : Int32) (a1 : Int32) (a2 : Int32), PV c T → PV c ((vl_X11_value n).2.2.2.2.2.2.2.1 T a0 a1 a2).2) ∧ (∀ (T : tT) (a0 : Int32) (a1 : Int32) (a2 : Int32), PV c T → PV c ((vl_X11_value n).2.2.2.2.2.2.2.2 T a0 a1 a2).2) := by
  intro n
  induction n with
  | zero => exact ⟨fun T h => h, fun T _ _ h => h, fun T _ h => h, fun T _ _ h => h, fun T _ _ h => h, fun T _ _ _ h => h, fun T _ _ _ h => h, fun T _ _ _ h => h, fun T _ _ _ h => h⟩
  | succ n ih =>
    obtain ⟨i0, i1, i2, i3, i4, i5, i6, i7, i8⟩ := ih
    refine ⟨fun T h => ?_, fun T a0 a1 h => ?_, fun T a0 h => ?_, fun T a0 a1 h => ?_, fun T a0 a1 h => ?_, fun T a0 a1 a2 h => ?_, fun T a0 a1 a2 h => ?_, fun T a0 a1 a2 h => ?_, fun T a0 a1 a2 h => ?_⟩
    · rw [vl_X11_value_s0]
      repeat' split
      all_goals repeat (first | with_reducible exact h | decide | with_reducible apply i0 | with_reducible apply i1 | with_reducible apply i2 | with_reducible apply i3 | with_reducible apply i4 | with_reducible apply i5 | with_reducible apply i6 | with_reducible apply i7 | with_reducible apply i8 | with_reducible apply pv_5 | with_reducible apply pv_K | with_reducible apply pv_J | with_reducible apply pv_fails | with_reducible apply pv_ite | with_reducible apply pv_wrong | with_reducible apply pv_pile | with_reducible apply pv_step | with_reducible apply pv_next | with_reducible apply pv_must | with_reducible apply pv_meant)
    · rw [vl_X11_value_s1]
      repeat' split
      all_goals repeat (first | with_reducible exact h | decide | with_reducible apply i0 | with_reducible apply i1 | with_reducible apply i2 | with_reducible apply i3 | with_reducible apply i4 | with_reducible apply i5 | with_reducible apply i6 | with_reducible apply i7 | with_reducible apply i8 | with_reducible apply pv_5 | with_reducible apply pv_K | with_reducible apply pv_J | with_reducible apply pv_fails | with_reducible apply pv_ite | with_reducible apply pv_wrong | with_reducible apply pv_pile | with_reducible apply pv_step | with_reducible apply pv_next | with_reducible apply pv_must | with_reducible apply pv_meant)
    · rw [vl_X11_value_s2]
      repeat' split
      all_goals repeat (first | with_reducible exact h | decide | with_reducible apply i0 | with_reducible apply i1 | with_reducible apply i2 | with_reducible apply i3 | with_reducible apply i4 | with_reducible apply i5 | with_reducible apply i6 | with_reducible apply i7 | with_reducible apply i8 | with_reducible apply pv_5 | with_reducible apply pv_K | with_reducible apply pv_J | with_reducible apply pv_fails | with_reducible apply pv_ite | with_reducible apply pv_wrong | with_reducible apply pv_pile | with_reducible apply pv_step | with_reducible apply pv_next | with_reducible apply pv_must | with_reducible apply pv_meant)
    · rw [vl_X11_value_s3]
      repeat' split
      all_goals repeat (first | with_reducible exact h | decide | with_reducible apply i0 | with_reducible apply i1 | with_reducible apply i2 | with_reducible apply i3 | with_reducible apply i4 | with_reducible apply i5 | with_reducible apply i6 | with_reducible apply i7 | with_reducible apply i8 | with_reducible apply pv_5 | with_reducible apply pv_K | with_reducible apply pv_J | with_reducible apply pv_fails | with_reducible apply pv_ite | with_reducible apply pv_wrong | with_reducible apply pv_pile | with_reducible apply pv_step | with_reducible apply pv_next | with_reducible apply pv_must | with_reducible apply pv_meant)
    · rw [vl_X11_value_s4]
      repeat' split
      all_goals repeat (first | with_reducible exact h | decide | with_reducible apply i0 | with_reducible apply i1 | with_reducible apply i2 | with_reducible apply i3 | with_reducible apply i4 | with_reducible apply i5 | with_reducible apply i6 | with_reducible apply i7 | with_reducible apply i8 | with_reducible apply pv_5 | with_reducible apply pv_K | with_reducible apply pv_J | with_reducible apply pv_fails | with_reducible apply pv_ite | with_reducible apply pv_wrong | with_reducible apply pv_pile | with_reducible apply pv_step | with_reducible apply pv_next | with_reducible apply pv_must | with_reducible apply pv_meant)
    · rw [vl_X11_value_s5]
      repeat' split
      all_goals repeat (first | with_reducible exact h | decide | with_reducible apply i0 | with_reducible apply i1 | with_reducible apply i2 | with_reducible apply i3 | with_reducible apply i4 | with_reducible apply i5 | with_reducible apply i6 | with_reducible apply i7 | with_reducible apply i8 | with_reducible apply pv_5 | with_reducible apply pv_K | with_reducible apply pv_J | with_reducible apply pv_fails | with_reducible apply pv_ite | with_reducible apply pv_wrong | with_reducible apply pv_pile | with_reducible apply pv_step | with_reducible apply pv_next | with_reducible apply pv_must | with_reducible apply pv_meant)
    · rw [vl_X11_value_s6]
      repeat' split
      all_goals repeat (first | with_reducible exact h | decide | with_reducible apply i0 | with_reducible apply i1 | with_reducible apply i2 | with_reducible apply i3 | with_reducible apply i4 | with_reducible apply i5 | with_reducible apply i6 | with_reducible apply i7 | with_reducible apply i8 | with_reducible apply pv_5 | with_reducible apply pv_K | with_reducible apply pv_J | with_reducible apply pv_fails | with_reducible apply pv_ite | with_reducible apply pv_wrong | with_reducible apply pv_pile | with_reducible apply pv_step | with_reducible apply pv_next | with_reducible apply pv_must | with_reducible apply pv_meant)
    · rw [vl_X11_value_s7]
      repeat' split
      all_goals repeat (first | with_reducible exact h | decide | with_reducible apply i0 | with_reducible apply i1 | with_reducible apply i2 | with_reducible apply i3 | with_reducible apply i4 | with_reducible apply i5 | with_reducible apply i6 | with_reducible apply i7 | with_reducible apply i8 | with_reducible apply pv_5 | with_reducible apply pv_K | with_reducible apply pv_J | with_reducible apply pv_fails | with_reducible apply pv_ite | with_reducible apply pv_wrong | with_reducible apply pv_pile | with_reducible apply pv_step | with_reducible apply pv_next | with_reducible apply pv_must | with_reducible apply pv_meant)
    · rw [vl_X11_value_s8]
      repeat' split
      all_goals repeat (first | with_reducible exact h | decide | with_reducible apply i0 | with_reducible apply i1 | with_reducible apply i2 | with_reducible apply i3 | with_reducible apply i4 | with_reducible apply i5 | with_reducible apply i6 | with_reducible apply i7 | with_reducible apply i8 | with_reducible apply pv_5 | with_reducible apply pv_K | with_reducible apply pv_J | with_reducible apply pv_fails | with_reducible apply pv_ite | with_reducible apply pv_wrong | with_reducible apply pv_pile | with_reducible apply pv_step | with_reducible apply pv_next | with_reducible apply pv_must | with_reducible apply pv_meant)
theorem pv_value {c : Int32} {T : tT} {x : Int32} {y : Int32} {z : Int32} (h : PV c T) : PV c (F_X11_value T x y z).2 := by
  unfold F_X11_value
  repeat' split
  all_goals repeat (first | with_reducible exact h | decide | with_reducible apply (pv_value_l fu).1 | with_reducible apply (pv_value_l fu).2.1 | with_reducible apply (pv_value_l fu).2.2.1 | with_reducible apply (pv_value_l fu).2.2.2.1 | with_reducible apply (pv_value_l fu).2.2.2.2.1 | with_reducible apply (pv_value_l fu).2.2.2.2.2.1 | with_reducible apply (pv_value_l fu).2.2.2.2.2.2.1 | with_reducible apply (pv_value_l fu).2.2.2.2.2.2.2.1 | with_reducible apply (pv_value_l fu).2.2.2.2.2.2.2.2 | with_reducible apply pv_5 | with_reducible apply pv_K | with_reducible apply pv_J | with_reducible apply pv_fails | with_reducible apply pv_ite | with_reducible apply pv_wrong | with_reducible apply pv_pile | with_reducible apply pv_step | with_reducible apply pv_next | with_reducible apply pv_must | with_reducible apply pv_meant)
theorem pv_behind_l {c : Int32} : ∀ n : Nat, (∀ (T : tT) (a0 : Int32), PV c T → PV c ((vl_X11_behind n).1 T a0).2) ∧ (∀ (T : tT) (a0 : Int32), PV c T → PV c ((vl_X11_behind n).2.1 T a0).2) ∧ (∀ (T : tT) (a0 : Int32) (a1 : Int32), PV c T → PV c ((vl_X11_behind n).2.2.1 T a0 a1).2) ∧ (∀ (T : tT) (a0 : Int32) (a1 : Int32) (a2 : Int32), PV c T → PV c ((vl_X11_behind n).2.2.2.1 T a0 a1 a2).2) ∧ (∀ (T : tT) (a0 : Int32), PV c T → PV c ((vl_X11_behind n).2.2.2.2 T a0).2) := by
  intro n
  induction n with
  | zero => exact ⟨fun T _ h => h, fun T _ h => h, fun T _ _ h => h, fun T _ _ _ h => h, fun T _ h => h⟩
  | succ n ih =>
    obtain ⟨i0, i1, i2, i3, i4⟩ := ih
    refine ⟨fun T a0 h => ?_, fun T a0 h => ?_, fun T a0 a1 h => ?_, fun T a0 a1 a2 h => ?_, fun T a0 h => ?_⟩
    · rw [vl_X11_behind_s0]
      repeat' split
      all_goals repeat (first | with_reducible exact h | decide | with_reducible apply i0 | with_reducible apply i1 | with_reducible apply i2 | with_reducible apply i3 | with_reducible apply i4 | with_reducible apply pv_5 | with_reducible apply pv_K | with_reducible apply pv_J | with_reducible apply pv_fails | with_reducible apply pv_ite | with_reducible apply pv_wrong | with_reducible apply pv_pile | with_reducible apply pv_step | with_reducible apply pv_next | with_reducible apply pv_must | with_reducible apply pv_meant | with_reducible apply pv_value)
    · rw [vl_X11_behind_s1]
      repeat' split
      all_goals repeat (first | with_reducible exact h | decide | with_reducible apply i0 | with_reducible apply i1 | with_reducible apply i2 | with_reducible apply i3 | with_reducible apply i4 | with_reducible apply pv_5 | with_reducible apply pv_K | with_reducible apply pv_J | with_reducible apply pv_fails | with_reducible apply pv_ite | with_reducible apply pv_wrong | with_reducible apply pv_pile | with_reducible apply pv_step | with_reducible apply pv_next | with_reducible apply pv_must | with_reducible apply pv_meant | with_reducible apply pv_value)
    · rw [vl_X11_behind_s2]
      repeat' split
      all_goals repeat (first | with_reducible exact h | decide | with_reducible apply i0 | with_reducible apply i1 | with_reducible apply i2 | with_reducible apply i3 | with_reducible apply i4 | with_reducible apply pv_5 | with_reducible apply pv_K | with_reducible apply pv_J | with_reducible apply pv_fails | with_reducible apply pv_ite | with_reducible apply pv_wrong | with_reducible apply pv_pile | with_reducible apply pv_step | with_reducible apply pv_next | with_reducible apply pv_must | with_reducible apply pv_meant | with_reducible apply pv_value)
    · rw [vl_X11_behind_s3]
      repeat' split
      all_goals repeat (first | with_reducible exact h | decide | with_reducible apply i0 | with_reducible apply i1 | with_reducible apply i2 | with_reducible apply i3 | with_reducible apply i4 | with_reducible apply pv_5 | with_reducible apply pv_K | with_reducible apply pv_J | with_reducible apply pv_fails | with_reducible apply pv_ite | with_reducible apply pv_wrong | with_reducible apply pv_pile | with_reducible apply pv_step | with_reducible apply pv_next | with_reducible apply pv_must | with_reducible apply pv_meant | with_reducible apply pv_value)
    · rw [vl_X11_behind_s4]
      repeat' split
      all_goals repeat (first | with_reducible exact h | decide | with_reducible apply i0 | with_reducible apply i1 | with_reducible apply i2 | with_reducible apply i3 | with_reducible apply i4 | with_reducible apply pv_5 | with_reducible apply pv_K | with_reducible apply pv_J | with_reducible apply pv_fails | with_reducible apply pv_ite | with_reducible apply pv_wrong | with_reducible apply pv_pile | with_reducible apply pv_step | with_reducible apply pv_next | with_reducible apply pv_must | with_reducible apply pv_meant | with_reducible apply pv_value)
theorem pv_behind {c : Int32} {T : tT} (h : PV c T) : PV c (F_X11_behind T).2 := by
  unfold F_X11_behind
  repeat' split
  all_goals repeat (first | with_reducible exact h | decide | with_reducible apply (pv_behind_l fu).1 | with_reducible apply (pv_behind_l fu).2.1 | with_reducible apply (pv_behind_l fu).2.2.1 | with_reducible apply (pv_behind_l fu).2.2.2.1 | with_reducible apply (pv_behind_l fu).2.2.2.2 | with_reducible apply pv_5 | with_reducible apply pv_K | with_reducible apply pv_J | with_reducible apply pv_fails | with_reducible apply pv_ite | with_reducible apply pv_wrong | with_reducible apply pv_pile | with_reducible apply pv_step | with_reducible apply pv_next | with_reducible apply pv_must | with_reducible apply pv_meant | with_reducible apply pv_value)
theorem pv_e_l {c : Int32} : ∀ n : Nat, (∀ (T : tT) (a0 : Int32) (a1 : Int32) (a2 : Int32), PV c T → PV c (vl_X11_e n T a0 a1 a2)) := by
  intro n
  induction n with
  | zero => exact fun T _ _ _ h => h
  | succ n ih =>
    intro T a0 a1 a2 h
    · rw [vl_X11_e_s]
      repeat' split
      all_goals repeat (first | with_reducible exact h | decide | with_reducible apply ih | with_reducible apply pv_5 | with_reducible apply pv_K | with_reducible apply pv_J | with_reducible apply pv_fails | with_reducible apply pv_ite | with_reducible apply pv_wrong | with_reducible apply pv_pile | with_reducible apply pv_step | with_reducible apply pv_next | with_reducible apply pv_must | with_reducible apply pv_meant | with_reducible apply pv_value | with_reducible apply pv_behind)
theorem pv_e {c : Int32} {T : tT} {x : Int32} {y : Int32} (h : PV c T) : PV c (F_X11_e T x y) := by
  unfold F_X11_e
  repeat' split
  all_goals repeat (first | with_reducible exact h | decide | with_reducible apply pv_e_l fu | with_reducible apply pv_5 | with_reducible apply pv_K | with_reducible apply pv_J | with_reducible apply pv_fails | with_reducible apply pv_ite | with_reducible apply pv_wrong | with_reducible apply pv_pile | with_reducible apply pv_step | with_reducible apply pv_next | with_reducible apply pv_must | with_reducible apply pv_meant | with_reducible apply pv_value | with_reducible apply pv_behind)
theorem pv_numberOf_l {c : Int32} : ∀ n : Nat, (∀ (T : tT) (a0 : Int32) (a1 : Int32), PV c T → PV c ((vl_X11_numberOf n).1 T a0 a1).2) ∧ (∀ (T : tT), PV c T → PV c ((vl_X11_numberOf n).2.1 T).2) ∧ (∀ (T : tT), PV c T → PV c ((vl_X11_numberOf n).2.2 T).2) := by
  intro n
  induction n with
  | zero => exact ⟨fun T _ _ h => h, fun T h => h, fun T h => h⟩
  | succ n ih =>
    obtain ⟨i0, i1, i2⟩ := ih
    refine ⟨fun T a0 a1 h => ?_, fun T h => ?_, fun T h => ?_⟩
    · rw [vl_X11_numberOf_s0]
      repeat' split
      all_goals repeat (first | with_reducible exact h | decide | with_reducible apply i0 | with_reducible apply i1 | with_reducible apply i2 | with_reducible apply pv_5 | with_reducible apply pv_K | with_reducible apply pv_J | with_reducible apply pv_fails | with_reducible apply pv_ite | with_reducible apply pv_wrong | with_reducible apply pv_pile | with_reducible apply pv_step | with_reducible apply pv_next | with_reducible apply pv_must | with_reducible apply pv_meant | with_reducible apply pv_value | with_reducible apply pv_behind | with_reducible apply pv_e)
    · rw [vl_X11_numberOf_s1]
      repeat' split
      all_goals repeat (first | with_reducible exact h | decide | with_reducible apply i0 | with_reducible apply i1 | with_reducible apply i2 | with_reducible apply pv_5 | with_reducible apply pv_K | with_reducible apply pv_J | with_reducible apply pv_fails | with_reducible apply pv_ite | with_reducible apply pv_wrong | with_reducible apply pv_pile | with_reducible apply pv_step | with_reducible apply pv_next | with_reducible apply pv_must | with_reducible apply pv_meant | with_reducible apply pv_value | with_reducible apply pv_behind | with_reducible apply pv_e)
    · rw [vl_X11_numberOf_s2]
      repeat' split
      all_goals repeat (first | with_reducible exact h | decide | with_reducible apply i0 | with_reducible apply i1 | with_reducible apply i2 | with_reducible apply pv_5 | with_reducible apply pv_K | with_reducible apply pv_J | with_reducible apply pv_fails | with_reducible apply pv_ite | with_reducible apply pv_wrong | with_reducible apply pv_pile | with_reducible apply pv_step | with_reducible apply pv_next | with_reducible apply pv_must | with_reducible apply pv_meant | with_reducible apply pv_value | with_reducible apply pv_behind | with_reducible apply pv_e)
theorem pv_numberOf {c : Int32} {T : tT} {x : Int32} {y : Int32} (h : PV c T) : PV c (F_X11_numberOf T x y).2 := by
  unfold F_X11_numberOf
  repeat' split
  all_goals repeat (first | with_reducible exact h | decide | with_reducible apply (pv_numberOf_l fu).1 | with_reducible apply (pv_numberOf_l fu).2.1 | with_reducible apply (pv_numberOf_l fu).2.2 | with_reducible apply pv_5 | with_reducible apply pv_K | with_reducible apply pv_J | with_reducible apply pv_fails | with_reducible apply pv_ite | with_reducible apply pv_wrong | with_reducible apply pv_pile | with_reducible apply pv_step | with_reducible apply pv_next | with_reducible apply pv_must | with_reducible apply pv_meant | with_reducible apply pv_value | with_reducible apply pv_behind | with_reducible apply pv_e)
theorem pv_canName {c : Int32} {T : tT} {x : Int32} (h : PV c T) : PV c (F_X11_canName T x).2 := by
  unfold F_X11_canName
  repeat' split
  all_goals repeat (first | with_reducible exact h | decide | with_reducible apply pv_5 | with_reducible apply pv_K | with_reducible apply pv_J | with_reducible apply pv_fails | with_reducible apply pv_ite | with_reducible apply pv_wrong | with_reducible apply pv_pile | with_reducible apply pv_step | with_reducible apply pv_next | with_reducible apply pv_must | with_reducible apply pv_meant | with_reducible apply pv_value | with_reducible apply pv_behind | with_reducible apply pv_e | with_reducible apply pv_numberOf)
theorem pv_readList_l {c : Int32} : ∀ n : Nat, (∀ (T : tT) (a0 : Int32) (a1 : Int32), PV c T → PV c ((vl_X11_readList n).1 T a0 a1)) ∧ (∀ (T : tT) (a0 : Int32), PV c T → PV c ((vl_X11_readList n).2.1 T a0)) ∧ (∀ (T : tT) (a0 : Int32), PV c T → PV c ((vl_X11_readList n).2.2.1 T a0)) ∧ (∀ (T : tT) (a0 : Int32), PV c T → PV c ((vl_X11_readList n).2.2.2 T a0)) := by
  intro n
  induction n with
  | zero => exact ⟨fun T _ _ h => h, fun T _ h => h, fun T _ h => h, fun T _ h => h⟩
  | succ n ih =>
    obtain ⟨i0, i1, i2, i3⟩ := ih
    refine ⟨fun T a0 a1 h => ?_, fun T a0 h => ?_, fun T a0 h => ?_, fun T a0 h => ?_⟩
    · rw [vl_X11_readList_s0]
      repeat' split
      all_goals repeat (first | with_reducible exact h | decide | with_reducible apply i0 | with_reducible apply i1 | with_reducible apply i2 | with_reducible apply i3 | with_reducible apply pv_5 | with_reducible apply pv_K | with_reducible apply pv_J | with_reducible apply pv_fails | with_reducible apply pv_ite | with_reducible apply pv_wrong | with_reducible apply pv_pile | with_reducible apply pv_step | with_reducible apply pv_next | with_reducible apply pv_must | with_reducible apply pv_meant | with_reducible apply pv_value | with_reducible apply pv_behind | with_reducible apply pv_e | with_reducible apply pv_numberOf | with_reducible apply pv_canName)
    · rw [vl_X11_readList_s1]
      repeat' split
      all_goals repeat (first | with_reducible exact h | decide | with_reducible apply i0 | with_reducible apply i1 | with_reducible apply i2 | with_reducible apply i3 | with_reducible apply pv_5 | with_reducible apply pv_K | with_reducible apply pv_J | with_reducible apply pv_fails | with_reducible apply pv_ite | with_reducible apply pv_wrong | with_reducible apply pv_pile | with_reducible apply pv_step | with_reducible apply pv_next | with_reducible apply pv_must | with_reducible apply pv_meant | with_reducible apply pv_value | with_reducible apply pv_behind | with_reducible apply pv_e | with_reducible apply pv_numberOf | with_reducible apply pv_canName)
    · rw [vl_X11_readList_s2]
      repeat' split
      all_goals repeat (first | with_reducible exact h | decide | with_reducible apply i0 | with_reducible apply i1 | with_reducible apply i2 | with_reducible apply i3 | with_reducible apply pv_5 | with_reducible apply pv_K | with_reducible apply pv_J | with_reducible apply pv_fails | with_reducible apply pv_ite | with_reducible apply pv_wrong | with_reducible apply pv_pile | with_reducible apply pv_step | with_reducible apply pv_next | with_reducible apply pv_must | with_reducible apply pv_meant | with_reducible apply pv_value | with_reducible apply pv_behind | with_reducible apply pv_e | with_reducible apply pv_numberOf | with_reducible apply pv_canName)
    · rw [vl_X11_readList_s3]
      repeat' split
      all_goals repeat (first | with_reducible exact h | decide | with_reducible apply i0 | with_reducible apply i1 | with_reducible apply i2 | with_reducible apply i3 | with_reducible apply pv_5 | with_reducible apply pv_K | with_reducible apply pv_J | with_reducible apply pv_fails | with_reducible apply pv_ite | with_reducible apply pv_wrong | with_reducible apply pv_pile | with_reducible apply pv_step | with_reducible apply pv_next | with_reducible apply pv_must | with_reducible apply pv_meant | with_reducible apply pv_value | with_reducible apply pv_behind | with_reducible apply pv_e | with_reducible apply pv_numberOf | with_reducible apply pv_canName)
theorem pv_readList {c : Int32} {T : tT} {x : Int32} (h : PV c T) : PV c (F_X11_readList T x) := by
  unfold F_X11_readList
  repeat' split
  all_goals repeat (first | with_reducible exact h | decide | with_reducible apply (pv_readList_l fu).1 | with_reducible apply (pv_readList_l fu).2.1 | with_reducible apply (pv_readList_l fu).2.2.1 | with_reducible apply (pv_readList_l fu).2.2.2 | with_reducible apply pv_5 | with_reducible apply pv_K | with_reducible apply pv_J | with_reducible apply pv_fails | with_reducible apply pv_ite | with_reducible apply pv_wrong | with_reducible apply pv_pile | with_reducible apply pv_step | with_reducible apply pv_next | with_reducible apply pv_must | with_reducible apply pv_meant | with_reducible apply pv_value | with_reducible apply pv_behind | with_reducible apply pv_e | with_reducible apply pv_numberOf | with_reducible apply pv_canName)
theorem pv_readPart {c : Int32} {T : tT} {x : Int32} (h : PV c T) : PV c (F_X11_readPart T x) := by
  unfold F_X11_readPart
  repeat' split
  all_goals repeat (first | with_reducible exact h | decide | with_reducible apply pv_5 | with_reducible apply pv_K | with_reducible apply pv_J | with_reducible apply pv_fails | with_reducible apply pv_ite | with_reducible apply pv_wrong | with_reducible apply pv_pile | with_reducible apply pv_step | with_reducible apply pv_next | with_reducible apply pv_must | with_reducible apply pv_meant | with_reducible apply pv_value | with_reducible apply pv_behind | with_reducible apply pv_e | with_reducible apply pv_numberOf | with_reducible apply pv_canName | with_reducible apply pv_readList)
theorem pv_readItem_l {c : Int32} : ∀ n : Nat, (∀ (T : tT) (a0 : Int32) (a1 : Int64), PV c T → PV c ((vl_X11_readItem n).1 T a0 a1)) ∧ (∀ (T : tT) (a0 : Int32) (a1 : Int64) (a2 : Int32), PV c T → PV c ((vl_X11_readItem n).2.1 T a0 a1 a2)) ∧ (∀ (T : tT) (a0 : Int32) (a1 : Int64), PV c T → PV c ((vl_X11_readItem n).2.2.1 T a0 a1)) ∧ (∀ (T : tT) (a0 : Int32) (a1 : Int64) (a2 : Int32) (a3 : Int32) (a4 : Int32), PV c T → PV c ((vl_X11_readItem n).2.2.2 T a0 a1 a2 a3 a4)) := by
  intro n
  induction n with
  | zero => exact ⟨fun T _ _ h => h, fun T _ _ _ h => h, fun T _ _ h => h, fun T _ _ _ _ _ h => h⟩
  | succ n ih =>
    obtain ⟨i0, i1, i2, i3⟩ := ih
    refine ⟨fun T a0 a1 h => ?_, fun T a0 a1 a2 h => ?_, fun T a0 a1 h => ?_, fun T a0 a1 a2 a3 a4 h => ?_⟩
    · rw [vl_X11_readItem_s0]
      repeat' split
      all_goals repeat (first | with_reducible exact h | decide | with_reducible apply i0 | with_reducible apply i1 | with_reducible apply i2 | with_reducible apply i3 | with_reducible apply pv_5 | with_reducible apply pv_K | with_reducible apply pv_J | with_reducible apply pv_fails | with_reducible apply pv_ite | with_reducible apply pv_wrong | with_reducible apply pv_pile | with_reducible apply pv_step | with_reducible apply pv_next | with_reducible apply pv_must | with_reducible apply pv_meant | with_reducible apply pv_value | with_reducible apply pv_behind | with_reducible apply pv_e | with_reducible apply pv_numberOf | with_reducible apply pv_canName | with_reducible apply pv_readList | with_reducible apply pv_readPart)
    · rw [vl_X11_readItem_s1]
      repeat' split
      all_goals repeat (first | with_reducible exact h | decide | with_reducible apply i0 | with_reducible apply i1 | with_reducible apply i2 | with_reducible apply i3 | with_reducible apply pv_5 | with_reducible apply pv_K | with_reducible apply pv_J | with_reducible apply pv_fails | with_reducible apply pv_ite | with_reducible apply pv_wrong | with_reducible apply pv_pile | with_reducible apply pv_step | with_reducible apply pv_next | with_reducible apply pv_must | with_reducible apply pv_meant | with_reducible apply pv_value | with_reducible apply pv_behind | with_reducible apply pv_e | with_reducible apply pv_numberOf | with_reducible apply pv_canName | with_reducible apply pv_readList | with_reducible apply pv_readPart)
    · rw [vl_X11_readItem_s2]
      repeat' split
      all_goals repeat (first | with_reducible exact h | decide | with_reducible apply i0 | with_reducible apply i1 | with_reducible apply i2 | with_reducible apply i3 | with_reducible apply pv_5 | with_reducible apply pv_K | with_reducible apply pv_J | with_reducible apply pv_fails | with_reducible apply pv_ite | with_reducible apply pv_wrong | with_reducible apply pv_pile | with_reducible apply pv_step | with_reducible apply pv_next | with_reducible apply pv_must | with_reducible apply pv_meant | with_reducible apply pv_value | with_reducible apply pv_behind | with_reducible apply pv_e | with_reducible apply pv_numberOf | with_reducible apply pv_canName | with_reducible apply pv_readList | with_reducible apply pv_readPart)
    · rw [vl_X11_readItem_s3]
      repeat' split
      all_goals repeat (first | with_reducible exact h | decide | with_reducible apply i0 | with_reducible apply i1 | with_reducible apply i2 | with_reducible apply i3 | with_reducible apply pv_5 | with_reducible apply pv_K | with_reducible apply pv_J | with_reducible apply pv_fails | with_reducible apply pv_ite | with_reducible apply pv_wrong | with_reducible apply pv_pile | with_reducible apply pv_step | with_reducible apply pv_next | with_reducible apply pv_must | with_reducible apply pv_meant | with_reducible apply pv_value | with_reducible apply pv_behind | with_reducible apply pv_e | with_reducible apply pv_numberOf | with_reducible apply pv_canName | with_reducible apply pv_readList | with_reducible apply pv_readPart)
theorem pv_readItem {c : Int32} {T : tT} {x : Int32} (h : PV c T) : PV c (F_X11_readItem T x) := by
  unfold F_X11_readItem
  repeat' split
  all_goals repeat (first | with_reducible exact h | decide | with_reducible apply (pv_readItem_l fu).1 | with_reducible apply (pv_readItem_l fu).2.1 | with_reducible apply (pv_readItem_l fu).2.2.1 | with_reducible apply (pv_readItem_l fu).2.2.2 | with_reducible apply pv_5 | with_reducible apply pv_K | with_reducible apply pv_J | with_reducible apply pv_fails | with_reducible apply pv_ite | with_reducible apply pv_wrong | with_reducible apply pv_pile | with_reducible apply pv_step | with_reducible apply pv_next | with_reducible apply pv_must | with_reducible apply pv_meant | with_reducible apply pv_value | with_reducible apply pv_behind | with_reducible apply pv_e | with_reducible apply pv_numberOf | with_reducible apply pv_canName | with_reducible apply pv_readList | with_reducible apply pv_readPart)
theorem pv_readGrade_l {c : Int32} : ∀ n : Nat, (∀ (T : tT), PV c T → PV c ((vl_X11_readGrade n).1 T)) ∧ (∀ (T : tT), PV c T → PV c ((vl_X11_readGrade n).2.1 T)) ∧ (∀ (T : tT), PV c T → PV c ((vl_X11_readGrade n).2.2.1 T)) ∧ (∀ (T : tT) (a0 : Int32), PV c T → PV c ((vl_X11_readGrade n).2.2.2 T a0)) := by
  intro n
  induction n with
  | zero => exact ⟨fun T h => h, fun T h => h, fun T h => h, fun T _ h => h⟩
  | succ n ih =>
    obtain ⟨i0, i1, i2, i3⟩ := ih
    refine ⟨fun T h => ?_, fun T h => ?_, fun T h => ?_, fun T a0 h => ?_⟩
    · rw [vl_X11_readGrade_s0]
      repeat' split
      all_goals repeat (first | with_reducible exact h | decide | with_reducible apply i0 | with_reducible apply i1 | with_reducible apply i2 | with_reducible apply i3 | with_reducible apply pv_5 | with_reducible apply pv_K | with_reducible apply pv_J | with_reducible apply pv_fails | with_reducible apply pv_ite | with_reducible apply pv_wrong | with_reducible apply pv_pile | with_reducible apply pv_step | with_reducible apply pv_next | with_reducible apply pv_must | with_reducible apply pv_meant | with_reducible apply pv_value | with_reducible apply pv_behind | with_reducible apply pv_e | with_reducible apply pv_numberOf | with_reducible apply pv_canName | with_reducible apply pv_readList | with_reducible apply pv_readPart | with_reducible apply pv_readItem)
    · rw [vl_X11_readGrade_s1]
      repeat' split
      all_goals repeat (first | with_reducible exact h | decide | with_reducible apply i0 | with_reducible apply i1 | with_reducible apply i2 | with_reducible apply i3 | with_reducible apply pv_5 | with_reducible apply pv_K | with_reducible apply pv_J | with_reducible apply pv_fails | with_reducible apply pv_ite | with_reducible apply pv_wrong | with_reducible apply pv_pile | with_reducible apply pv_step | with_reducible apply pv_next | with_reducible apply pv_must | with_reducible apply pv_meant | with_reducible apply pv_value | with_reducible apply pv_behind | with_reducible apply pv_e | with_reducible apply pv_numberOf | with_reducible apply pv_canName | with_reducible apply pv_readList | with_reducible apply pv_readPart | with_reducible apply pv_readItem)
    · rw [vl_X11_readGrade_s2]
      repeat' split
      all_goals repeat (first | with_reducible exact h | decide | with_reducible apply i0 | with_reducible apply i1 | with_reducible apply i2 | with_reducible apply i3 | with_reducible apply pv_5 | with_reducible apply pv_K | with_reducible apply pv_J | with_reducible apply pv_fails | with_reducible apply pv_ite | with_reducible apply pv_wrong | with_reducible apply pv_pile | with_reducible apply pv_step | with_reducible apply pv_next | with_reducible apply pv_must | with_reducible apply pv_meant | with_reducible apply pv_value | with_reducible apply pv_behind | with_reducible apply pv_e | with_reducible apply pv_numberOf | with_reducible apply pv_canName | with_reducible apply pv_readList | with_reducible apply pv_readPart | with_reducible apply pv_readItem)
    · rw [vl_X11_readGrade_s3]
      repeat' split
      all_goals repeat (first | with_reducible exact h | decide | with_reducible apply i0 | with_reducible apply i1 | with_reducible apply i2 | with_reducible apply i3 | with_reducible apply pv_5 | with_reducible apply pv_K | with_reducible apply pv_J | with_reducible apply pv_fails | with_reducible apply pv_ite | with_reducible apply pv_wrong | with_reducible apply pv_pile | with_reducible apply pv_step | with_reducible apply pv_next | with_reducible apply pv_must | with_reducible apply pv_meant | with_reducible apply pv_value | with_reducible apply pv_behind | with_reducible apply pv_e | with_reducible apply pv_numberOf | with_reducible apply pv_canName | with_reducible apply pv_readList | with_reducible apply pv_readPart | with_reducible apply pv_readItem)
theorem pv_readGrade {c : Int32} {T : tT} (h : PV c T) : PV c (F_X11_readGrade T) := by
  unfold F_X11_readGrade
  repeat' split
  all_goals repeat (first | with_reducible exact h | decide | with_reducible apply (pv_readGrade_l fu).1 | with_reducible apply (pv_readGrade_l fu).2.1 | with_reducible apply (pv_readGrade_l fu).2.2.1 | with_reducible apply (pv_readGrade_l fu).2.2.2 | with_reducible apply pv_5 | with_reducible apply pv_K | with_reducible apply pv_J | with_reducible apply pv_fails | with_reducible apply pv_ite | with_reducible apply pv_wrong | with_reducible apply pv_pile | with_reducible apply pv_step | with_reducible apply pv_next | with_reducible apply pv_must | with_reducible apply pv_meant | with_reducible apply pv_value | with_reducible apply pv_behind | with_reducible apply pv_e | with_reducible apply pv_numberOf | with_reducible apply pv_canName | with_reducible apply pv_readList | with_reducible apply pv_readPart | with_reducible apply pv_readItem)
theorem pv_syl_l {c : Int32} : ∀ n : Nat, (∀ (T : tT) (a0 : Int32) (a1 : Int32), PV c T → PV c ((vl_X11_syllabus n).1 T a0 a1).2) ∧ (∀ (T : tT) (a0 : Int32) (a1 : Int32), PV c T → PV c ((vl_X11_syllabus n).2.1 T a0 a1).2) ∧ (∀ (T : tT) (a0 : Int32), PV c T → PV c ((vl_X11_syllabus n).2.2.1 T a0).2) ∧ (∀ (T : tT) (a0 : Int32), PV c T → PV c ((vl_X11_syllabus n).2.2.2 T a0).2) := by
  intro n
  induction n with
  | zero => exact ⟨fun T _ _ h => h, fun T _ _ h => h, fun T _ h => h, fun T _ h => h⟩
  | succ n ih =>
    obtain ⟨i0, i1, i2, i3⟩ := ih
    refine ⟨fun T a0 a1 h => ?_, fun T a0 a1 h => ?_, fun T a0 h => ?_, fun T a0 h => ?_⟩
    · rw [vl_X11_syllabus_s0]
      repeat' split
      all_goals repeat (first | with_reducible exact h | decide | with_reducible apply i0 | with_reducible apply i1 | with_reducible apply i2 | with_reducible apply i3 | with_reducible apply pv_5 | with_reducible apply pv_K | with_reducible apply pv_J | with_reducible apply pv_fails | with_reducible apply pv_ite | with_reducible apply pv_wrong | with_reducible apply pv_pile | with_reducible apply pv_step | with_reducible apply pv_next | with_reducible apply pv_must | with_reducible apply pv_meant | with_reducible apply pv_value | with_reducible apply pv_behind | with_reducible apply pv_e | with_reducible apply pv_numberOf | with_reducible apply pv_canName | with_reducible apply pv_readList | with_reducible apply pv_readPart | with_reducible apply pv_readItem | with_reducible apply pv_readGrade)
    · rw [vl_X11_syllabus_s1]
      repeat' split
      all_goals repeat (first | with_reducible exact h | decide | with_reducible apply i0 | with_reducible apply i1 | with_reducible apply i2 | with_reducible apply i3 | with_reducible apply pv_5 | with_reducible apply pv_K | with_reducible apply pv_J | with_reducible apply pv_fails | with_reducible apply pv_ite | with_reducible apply pv_wrong | with_reducible apply pv_pile | with_reducible apply pv_step | with_reducible apply pv_next | with_reducible apply pv_must | with_reducible apply pv_meant | with_reducible apply pv_value | with_reducible apply pv_behind | with_reducible apply pv_e | with_reducible apply pv_numberOf | with_reducible apply pv_canName | with_reducible apply pv_readList | with_reducible apply pv_readPart | with_reducible apply pv_readItem | with_reducible apply pv_readGrade)
    · rw [vl_X11_syllabus_s2]
      repeat' split
      all_goals repeat (first | with_reducible exact h | decide | with_reducible apply i0 | with_reducible apply i1 | with_reducible apply i2 | with_reducible apply i3 | with_reducible apply pv_5 | with_reducible apply pv_K | with_reducible apply pv_J | with_reducible apply pv_fails | with_reducible apply pv_ite | with_reducible apply pv_wrong | with_reducible apply pv_pile | with_reducible apply pv_step | with_reducible apply pv_next | with_reducible apply pv_must | with_reducible apply pv_meant | with_reducible apply pv_value | with_reducible apply pv_behind | with_reducible apply pv_e | with_reducible apply pv_numberOf | with_reducible apply pv_canName | with_reducible apply pv_readList | with_reducible apply pv_readPart | with_reducible apply pv_readItem | with_reducible apply pv_readGrade)
    · rw [vl_X11_syllabus_s3]
      repeat' split
      all_goals repeat (first | with_reducible exact h | decide | with_reducible apply i0 | with_reducible apply i1 | with_reducible apply i2 | with_reducible apply i3 | with_reducible apply pv_5 | with_reducible apply pv_K | with_reducible apply pv_J | with_reducible apply pv_fails | with_reducible apply pv_ite | with_reducible apply pv_wrong | with_reducible apply pv_pile | with_reducible apply pv_step | with_reducible apply pv_next | with_reducible apply pv_must | with_reducible apply pv_meant | with_reducible apply pv_value | with_reducible apply pv_behind | with_reducible apply pv_e | with_reducible apply pv_numberOf | with_reducible apply pv_canName | with_reducible apply pv_readList | with_reducible apply pv_readPart | with_reducible apply pv_readItem | with_reducible apply pv_readGrade)
theorem pv_syllabus {T : tT} {x : Int32} (h0 : ¬ x < 0) (h4 : x < 4) : PV (-1) (F_X11_syllabus T x).2 := by
  unfold F_X11_syllabus
  rw [if_neg h0, if_pos h4]
  refine (pv_syl_l fu).1 _ _ _ (pv_5 (by decide) (by decide) (fun _ => tI_at))
