/-! a grade's head -/
theorem BR_cg {sz N p b : Nat} {Tc Tr Tc' Tr' : tT} (k4 : ∀ i, Tc'.1 4 i = Tc.1 4 i) (k3 : ∀ i, Tc'.1 3 i = Tc.1 3 i) (k5 : Tc'.1 5 = Tc.1 5) (kp : Tc'.1 p 3 = Tc.1 p 3) (k1 : Tc'.2.1 1 = Tc.2.1 1) (kj : Tc'.2.1 4 5 = Tc.2.1 4 5) (kP : Tc'.2.2 3 3 = Tc.2.2 3 3) (r : ∀ i, Tr'.1 105 i = Tr.1 105 i) (rj : Tr'.2.1 105 10 = Tr.2.1 105 10) (r7 : Tr'.1 107 = Tr.1 107) (hB : BR sz N p b Tc Tr) : BR sz N p b Tc' Tr' := by
  obtain ⟨⟨⟨a1, a2, a3⟩, ⟨a4, a5⟩, a6⟩, b2, ⟨⟨c1, c2, c3⟩, ⟨a, d1, d2⟩, c4, ⟨u, d3, d4⟩, ⟨l, d5, d6⟩, c5, c6⟩, ⟨pl, e, t1, t2, t3, t4, t5, t6, t7, t8, t9, t10⟩, b5, b6, b7, b8⟩ := hB
  have sg : v_X11_sign Tr' (Tr.1 105 6) = v_X11_sign Tr (Tr.1 105 6) := by
    unfold v_X11_sign
    rw [r 3, r7]
  have ph : phi p Tc' = phi p Tc := by
    unfold phi
    rw [k4, k3, kp]
  refine ⟨⟨⟨by rw [k4]; exact a1, a2, by rw [k1]; exact a3⟩, ⟨by rw [r]; exact a4, a5⟩, ?_⟩, by rw [r]; exact b2, ⟨⟨by rw [k4]; exact c1, c2, by rw [k1]; exact c3⟩, ⟨a, by rw [k4]; exact d1, d2⟩, kP.trans c4, ⟨u, by rw [kp]; exact d3, d4⟩, ⟨l, by rw [k3]; exact d5, d6⟩, c5, c6⟩, ⟨pl, e, by rw [k4]; exact t1, by rw [k4]; exact t2, by rw [r, k4]; exact t3, by rw [r, k4]; exact t4, t5, t6, by rw [k4]; exact t7, by rw [k4]; exact t8, by rw [k4]; exact t9, ?_⟩, ⟨by rw [k3]; exact b5.1, by rw [r]; exact b5.2⟩, by rw [r, k3]; exact b6, by rw [r, kp]; exact b7, by rw [ph]; exact b8⟩
  · unfold bC bR
    rw [k5, r7]
    exact a6
  · rw [k4, k4, r, r, kj, rj, r, sg]
    exact t10
theorem find_0 {T : tT} {p : Nat} : v_X8_find T p 0 = none := by
  unfold v_X8_find
  rw [if_pos (by decide)]
theorem OG_bad {sz N p : Nat} {T B : tT} (hcs : CS sz N p T) (hB : F_X6_takeNumber (F_X6_take T 200) 1 8 = (0, B)) (hcB : CS sz N p B) (hf : B.1 3 1 ≠ 0) : F_X6_openGrade T = (none, B) ∧ ok_X6_openGrade sz T := by
  have hp : B.2.2 3 3 = some p := hcB.2.2.1
  have s1 := SF_take hcs 200
  have s2 := SF_num s1.1.1 1 8
  unfold F_X6_openGrade ok_X6_openGrade
  rw [hB]
  dsimp only
  rw [hp]
  dsimp only
  rw [find_0]
  dsimp only
  rw [take_F hf, if_neg hf]
  refine ⟨rfl, s1.2, s2.2, fun z => (by cases z), fun p3 h3 => ?_⟩
  cases h3
  refine ⟨hcB.2.2.2.2.2.1, ⟨fun _ => trivial, fun z => absurd (by decide) z⟩, fun _ => ⟨(SF_take hcB 123).2, fun _ => trivial, fun z => absurd z hf⟩, fun p5 h5 => ?_⟩
  rw [find_0] at h5
  cases h5
theorem num_F {sz N p : Nat} {T : tT} (hcs : CS sz N p T) (hf : T.1 3 1 ≠ 0) (lo hi : Int32) : (F_X6_takeNumber T lo hi).1 = 0 := by
  have n1 := SF_next hcs
  have n2 := SF_trans (SF_fail hcs 5 (T.1 4 3)) (SF_next (SF_fail hcs 5 (T.1 4 3)).1).1
  have n3 := SF_trans (SF_refuse hcs) (SF_next (SF_refuse hcs).1).1
  have key : ∀ T1, SF sz N p T (F_X9_next T1) → (if (F_X9_next T1).1 3 1 = 0 then (T.1 4 4, F_X9_next T1) else ((0 : Int32), F_X9_next T1)).1 = 0 := fun T1 h => by
    rw [if_neg (by rw [(h.2.2 hf).1]; exact hf)]
  unfold F_X6_takeNumber
  split
  · split
    · exact key _ n2
    · split
      · exact key _ n1.1
      · exact key _ n2
  · exact key _ n3
