/-! all grades of a text -/
theorem SA_refl {sz N p b : Nat} {T R : tT} (h : BA sz N p b T R) : SA sz N p b T R T R := ⟨h, fr_refl, fr_refl⟩
theorem R_loop {sz N p b F : Nat} {v1 : Int32} (hF : fu = F + 8) (p6 : 6 ≤ p) (hb : b < 5) : ∀ (m : Nat) (Tc Tr : tT) (v : Int32) (nc ns : Nat), BA sz N p b Tc Tr → (N : Int) - pos Tc < m → (N : Int) + 2 ≤ nc + pos Tc → m + 2 ≤ ns → 0 ≤ v.toInt → v.toInt ≤ pos Tc → (okl_X6_read nc).1 sz Tc v ∧ ∃ R' ns', (vl_X11_syllabus ns).2.2.1 Tr v1 = (vl_X11_syllabus (ns' + 1)).2.2.2 R' v1 ∧ ((okl_X11_syllabus (ns' + 1)).2.2.2 sz R' v1 → (okl_X11_syllabus ns).2.2.1 sz Tr v1) ∧ (SA sz N p b Tc Tr ((vl_X6_read nc).1 Tc v) R' ∨ FA sz N p b Tc Tr ((vl_X6_read nc).1 Tc v) R') := by
  have F9 : F = 9999992 := by
    rw [fu_eq] at hF
    omega
  intro m
  induction m with
  | zero =>
    intro Tc Tr v nc ns hB
    have := (BR_pos hB.1).1
    omega
  | succ m ih =>
    intro Tc Tr v nc ns hBA hm hn hn' hv0 hv4
    obtain ⟨q1, q2, q3, q4⟩ := BR_pos hBA.1
    obtain ⟨nc, rfl⟩ : ∃ n', nc = n' + 1 := ⟨nc - 1, by omega⟩
    obtain ⟨ns, rfl⟩ : ∃ n', ns = n' + 1 := ⟨ns - 1, by omega⟩
    have f0 := hBA.1.2.2.2.2.1.1
    have hr := hBA.1.2.2.2.2.1.2
    have gd := good1 hr
    obtain ⟨_, _, _, _, t0⟩ := tk_num hBA.1.2.2.2.1
    rw [vl_X6_read_s0, okl_X6_read_s0, vl_X11_syllabus_s2, okl_X11_syllabus_s2, if_neg gd]
    by_cases k0 : Tc.1 4 2 = 0
    · have r0 := t0.mp k0
      rw [if_pos r0, if_pos k0, ite_self, ite_self]
      exact ⟨⟨fun _ => trivial, fun _ => ⟨fun _ => trivial, fun _ => ⟨fun _ => trivial, fun z => absurd k0 z⟩⟩⟩, Tr, ns - 1, by rw [show ns - 1 + 1 = ns by omega], fun o => ⟨fun z => absurd z gd, fun _ => ⟨fun _ => by rw [show ns - 1 + 1 = ns by omega] at o; exact o, fun z => absurd r0 z⟩⟩, Or.inl (SA_refl hBA)⟩
    · have r0 : ¬ Tr.1 105 8 = 0 := fun w => k0 (t0.mpr w)
      have v14 : ¬ 1400 ≤ v := by
        have := q2 k0
        rw [tle, show (1400 : Int32).toInt = 1400 from rfl]
        omega
      have vi : (v + 1).toInt = v.toInt + 1 := tinc' (by omega)
      rw [if_neg v14, if_pos f0, if_neg k0, if_neg r0]
      obtain ⟨hO, okO⟩ := G_open hF p6 hb hBA k0
      have stop : ∀ R, R.1 105 4 ≠ 0 → (vl_X11_syllabus ns).2.2.1 R v1 = (vl_X11_syllabus (ns - 2 + 1)).2.2.2 R v1 ∧ ((okl_X11_syllabus (ns - 2 + 1)).2.2.2 sz R v1 → (okl_X11_syllabus ns).2.2.1 sz R v1) := fun R hR => by
        obtain ⟨ns, rfl⟩ : ∃ n', ns = n' + 2 := ⟨ns - 2, by omega⟩
        have g0 := good0 hR
        rw [vl_X11_syllabus_s2, okl_X11_syllabus_s2, if_pos g0]
        exact ⟨rfl, fun o => ⟨fun _ => o, fun z => absurd g0 z⟩⟩
      rcases hO with ⟨j, hv, T1, R1, j8, hh, eC, hS, tg, p1, eR, oR⟩ | ⟨T', eC, hFA, oR⟩
      · rw [eC]
        dsimp only
        have tgg : tgr sz (p + 3 + 7 * j) := hBA.1.2.2.1.2.2.2.2.2.1.2.2.2.2.2 j j8
        obtain ⟨y1, y2, y3, y4⟩ := BR_pos hS.1.1
        rcases G_loop p6 hb j8 hh ((N - pos T1).toNat + 1) T1 R1 (v + 1) nc (F + 5) hS.1 tg (by omega) (by omega) (by omega) (by omega) (by omega) with ⟨T', nc', v', x1, x2, x3, x4, x5, x6, x7, x8⟩ | ⟨x1, x2, x3⟩
        · rw [← eR] at x1
          obtain ⟨w1, R', ns', w2, w3, w4'⟩ := ih T' (F_X11_readGrade Tr) v' nc' ns x1.1 (by omega) (by omega) (by omega) x5 x6
          rw [x2]
          refine ⟨⟨fun _ => trivial, fun _ => ⟨fun _ => trivial, fun _ => ⟨fun _ => trivial, fun _ => ⟨okO, fun z => (by cases z), fun p2 h2 => ?_⟩⟩⟩⟩, R', ns', w2, fun o => ⟨fun z => absurd z gd, fun _ => ⟨fun z => absurd z r0, fun _ => ⟨oR x7, w3 o⟩⟩⟩, ?_⟩
          · cases h2
            exact ⟨tgg, x3 w1⟩
          · rcases w4' with w | w
            · exact Or.inl (SA_trans hS (SA_trans x1 w))
            · exact Or.inr (SA_FA hS (SA_FA x1 w))
        · rw [← eR] at x1
          obtain ⟨s1, s2⟩ := stop (F_X11_readGrade Tr) (by rw [x1.1.2.1]; exact x1.1.1)
          refine ⟨⟨fun _ => trivial, fun _ => ⟨fun _ => trivial, fun _ => ⟨fun _ => trivial, fun _ => ⟨okO, fun z => (by cases z), fun p2 h2 => ?_⟩⟩⟩⟩, F_X11_readGrade Tr, ns - 2, s1, fun o => ⟨fun z => absurd z gd, fun _ => ⟨fun z => absurd z r0, fun _ => ⟨oR x3, s2 o⟩⟩⟩, Or.inr (SA_FA hS x1)⟩
          cases h2
          exact ⟨tgg, x2⟩
      · rw [eC]
        dsimp only
        obtain ⟨nc, rfl⟩ : ∃ n', nc = n' + 1 := ⟨nc - 1, by have := q2 k0; omega⟩
        obtain ⟨s1, s2⟩ := stop (F_X11_readGrade Tr) (by rw [hFA.1.2.1]; exact hFA.1.1)
        rw [vl_X6_read_s0, okl_X6_read_s0, if_neg hFA.1.1, ite_self]
        refine ⟨⟨fun _ => trivial, fun _ => ⟨fun _ => trivial, fun _ => ⟨fun _ => trivial, fun _ => ⟨okO, fun _ => ⟨fun _ => trivial, fun _ => ⟨fun _ => trivial, fun z => absurd z hFA.1.1⟩⟩, fun p2 h2 => (by cases h2)⟩⟩⟩⟩, F_X11_readGrade Tr, ns - 2, s1, fun o => ⟨fun z => absurd z gd, fun _ => ⟨fun z => absurd z r0, fun _ => ⟨oR, s2 o⟩⟩⟩, Or.inr hFA⟩
