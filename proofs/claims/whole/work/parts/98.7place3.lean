/-! the place of a fault: class, whole -/
theorem open_p {p p' g : Nat} {c x : Int32} {T : tT} (h : PW p c T) (e : T.2.2 3 3 = some p') : PW p c (F_X8_open T p' x).2 ∧ ((F_X8_open T p' x).1 = some g → 9 ≤ g) := by
  have e' := h.2.2.1
  rw [e] at e'
  cases e'
  have p6 := h.2.1
  have z1 : (1 : Int32).toInt = 1 := rfl
  have z8 : (8 : Int32).toInt = 8 := rfl
  unfold F_X8_open
  by_cases c1 : x < 1
  · rw [if_pos c1]
    exact ⟨h, fun z => (by cases z)⟩
  · rw [if_neg c1]
    by_cases c2 : x ≤ 8
    · rw [if_pos c2]
      rw [tlt, z1] at c1
      rw [tle, z8] at c2
      have xm : (x - 1).toInt = ((x.toInt - 1).toNat : Nat) := by
        rw [tsub (by rw [z1]; omega) (by rw [z1]; omega), z1]
        omega
      rw [tnN xm, h.2.2.2 _ (by omega)]
      dsimp only
      exact ⟨pw_K (by omega) (pw_K (by omega) h), fun z => (by cases z; omega)⟩
    · rw [if_neg c2]
      exact ⟨h, fun z => (by cases z)⟩
theorem pw_open {p p' : Nat} {c x : Int32} {T : tT} (h : PW p c T) (e : T.2.2 3 3 = some p') : PW p c (F_X8_open T p' x).2 := (open_p (g := 0) h e).1
theorem pw_openGrade {p : Nat} {c : Int32} {T : tT} (h : PW p c T) : PW p c (F_X6_openGrade T).2 := by
  unfold F_X6_openGrade
  repeat' split
  all_goals repeat (first | with_reducible exact h | omega | decide | with_reducible apply pw_open | with_reducible apply pw_3 | with_reducible apply pw_K | with_reducible apply pw_J | with_reducible apply pw_fail | with_reducible apply pw_cell | with_reducible assumption | with_reducible apply pw_ite | with_reducible apply pw_refuse | with_reducible apply pw_readNumber | with_reducible apply pw_readWord | with_reducible apply pw_next | with_reducible apply pw_take | with_reducible apply pw_takeNumber | with_reducible apply pw_takeNewName | with_reducible apply pw_addList | with_reducible apply pw_addListed | with_reducible apply pw_addPart | with_reducible apply pw_addRule | with_reducible apply pw_takeListed | with_reducible apply pw_readList | with_reducible apply pw_readPart | with_reducible apply pw_addNamed | with_reducible apply pw_addMeaning | with_reducible apply pw_E | with_reducible apply pw_readItem)
theorem og_ge {p g : Nat} {c : Int32} {T : tT} (h : PW p c T) (e : (F_X6_openGrade T).1 = some g) : 9 ≤ g := by
  have h1 : PW p c (F_X6_take T 200) := pw_take h
  have h2 : PW p c (F_X6_takeNumber (F_X6_take T 200) 1 8).2 := pw_takeNumber h1
  unfold F_X6_openGrade at e
  rw [h2.2.2.1] at e
  dsimp only at e
  split at e
  · split at e
    · split at e
      · cases e
      · rename_i p7 h7
        split at e
        · cases e
        · rename_i p9 h9
          cases e
          exact (open_p (pw_take h2) h7).2 h9
    · cases e
  · split at e
    · split at e
      · cases e
      · rename_i p7 h7
        split at e
        · cases e
        · rename_i p9 h9
          cases e
          exact (open_p (pw_take (pw_fail (by decide) h2)) h7).2 h9
    · cases e
theorem pw_read_l {p : Nat} {c : Int32} : ∀ n : Nat, (∀ (T : tT) (v : Int32), PW p c T → PW p c ((vl_X6_read n).1 T v)) ∧ (∀ (T : tT) (q : Nat) (v : Int32), 9 ≤ q → PW p c T → PW p c ((vl_X6_read n).2 T q v)) := by
  intro n
  induction n with
  | zero => exact ⟨fun T v h => h, fun T q v _ h => h⟩
  | succ n ih =>
    obtain ⟨i0, i1⟩ := ih
    refine ⟨fun T v h => ?_, fun T q v hq h => ?_⟩
    · rw [vl_X6_read_s0]
      split
      · exact h
      · split
        · split
          · exact h
          · split
            · exact i0 _ _ (pw_openGrade h)
            · rename_i p2 h2
              exact i1 _ _ _ (og_ge h h2) (pw_openGrade h)
        · exact h
    · rw [vl_X6_read_s1]
      repeat' split
      all_goals repeat (first | with_reducible exact h | omega | decide | with_reducible apply i0 | with_reducible apply i1 | with_reducible apply pw_3 | with_reducible apply pw_K | with_reducible apply pw_J | with_reducible apply pw_fail | with_reducible apply pw_cell | with_reducible assumption | with_reducible apply pw_ite | with_reducible apply pw_refuse | with_reducible apply pw_readNumber | with_reducible apply pw_readWord | with_reducible apply pw_next | with_reducible apply pw_take | with_reducible apply pw_takeNumber | with_reducible apply pw_takeNewName | with_reducible apply pw_addList | with_reducible apply pw_addListed | with_reducible apply pw_addPart | with_reducible apply pw_addRule | with_reducible apply pw_takeListed | with_reducible apply pw_readList | with_reducible apply pw_readPart | with_reducible apply pw_addNamed | with_reducible apply pw_addMeaning | with_reducible apply pw_E | with_reducible apply pw_readItem)
theorem pw_read {sz p : Nat} {T : tT} (hts' : tsy sz p) (p6 : 6 ≤ p) (hp : T.2.2 3 3 = some p) (href : ∀ j, j < 8 → T.2.2 (p + 1) j = some (p + 3 + 7 * j)) : PW p (-1) (F_X6_read T) := by
  have href0 : ∀ j, j < 8 → (tI (tI (tI (tI (tI T 3 1 0) 3 2 (-1)) 3 5 0) p 2 0) p 3 0).2.2 (p + 1) j = some (p + 3 + 7 * j) := href
  obtain ⟨c1, c2, c3⟩ := cl_loop hts' 8 fu 0 0 (tI (tI (tI (tI (tI T 3 1 0) 3 2 (-1)) 3 5 0) p 2 0) p 3 0) rfl rfl (by rw [fu_eq]; omega) href0 (fun j hj => by omega)
  have wcf : ∀ k i, ¬ (p + 3 ≤ k ∧ k < p + 59) → wc p k i = false := fun k i h => decide_eq_false h
  have eC : F_X6_read T = (vl_X6_read fu).1 (F_X9_next (tI (vl_X8_clear fu (tI (tI (tI (tI (tI T 3 1 0) 3 2 (-1)) 3 5 0) p 2 0) p 3 0) p 0) 4 6 0)) 0 := by
    unfold F_X6_read
    rw [hp]
    rfl
  rw [eC]
  refine (pw_read_l fu).1 _ _ (pw_next (pw_K (by decide) ⟨fun _ => ?_, p6, ?_, fun j hj => ?_⟩))
  · rw [fr_i c2 (wcf _ _ (by omega)), tI_off (by omega), tI_off (by omega), tI_off (by omega), tI_at]
  · rw [fr_p c2 (wcf _ _ (by omega))]
    exact hp
  · rw [fr_p c2 (wcf _ _ (by omega))]
    exact href j hj
