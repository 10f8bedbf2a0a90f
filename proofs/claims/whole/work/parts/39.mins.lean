/-! grade, put, of, about -/
def I7 (sz : Nat) (T : tT) : Prop := I6 T ∧ ITx sz T
theorem z10 : (10 : Int32).toInt = 10 := rfl
theorem q_grade {sz : Nat} {T : tT} (h : I7 sz T) (x0 x1 x2 : Int32) : ok_X10_grade sz T x0 x1 x2 ∧ ok_X11_grade sz T x0 x1 x2 ∧ v_X10_grade T x0 x1 x2 = v_X11_grade T x0 x1 x2 := by
  obtain ⟨f1, f2, f3⟩ := fg h.2 x0 x1
  rcases f3 with ⟨e1, e2⟩ | ⟨p, b, j, e1, e2, b5, j8, t0, t4, e3, e4, e5, e6, e7⟩
  · unfold ok_X10_grade ok_X11_grade v_X10_grade v_X11_grade
    rw [e1, e2, if_neg (by decide)]
    exact ⟨⟨f1, fun _ => trivial, fun p2 w => by cases w⟩, ⟨f2, fun w => absurd w (by decide), fun _ => trivial⟩, rfl⟩
  · obtain ⟨g1, g2, g3, g4, g5, g6, g7, g8, g9⟩ := e7
    have s0 : 0 ≤ v_X11_spot T x0 x1 := by rw [tle, e2]; exact Int.natCast_nonneg _
    have sn := tnN e2
    have vs : vp_in (v_X11_spot T x0 x1) 40 := by rw [vp_in_iff]; omega
    have vm : ok_X11_minutesOf sz T (v_X11_spot T x0 x1) := ⟨fun _ => trivial, fun _ => ⟨vs, fun _ => vs, fun _ => trivial⟩⟩
    have m0 : 0 ≤ (T.1 (p + 3 + 7 * j) 2).toInt := tle.mp g2.2.1
    have m6 : (T.1 (p + 3 + 7 * j) 2).toInt ≤ 6 := tle.mp g2.2.2
    have k10 : ((10 : Int32) + T.1 (p + 3 + 7 * j) 2).toInt = 10 + (T.1 (p + 3 + 7 * j) 2).toInt := by
      rw [tadd (by rw [z10]; omega) (by rw [z10]; omega), z10]
    have x2l := x2.toInt_lt
    have x2g := x2.le_toInt
    unfold ok_X10_grade ok_X11_grade v_X10_grade v_X11_grade
    rw [e1, if_pos s0, sn, ← g1.1, ← g2.1, ← g3.1]
    by_cases c : x2 < 10
    · refine ⟨⟨f1, fun w => (by cases w), fun p2 w => ?_⟩, ⟨f2, fun _ => ⟨fun _ => vs, fun _ => vs, fun _ => vs, fun _ => ⟨vm, trivial⟩, fun _ _ _ _ => ⟨fun _ => trivial, fun w => absurd c w⟩⟩, fun w => absurd s0 w⟩, ?_⟩
      · cases w
        exact ⟨e5, fun _ => trivial, fun w => absurd c w⟩
      · dsimp only
        rw [if_pos c]
        unfold v_X3_minutesOrUsual v_X11_minutesOf
        rw [sn, ← g4.1, if_neg (show ¬ v_X11_spot T x0 x1 < 0 by grind)]
        simp only [if_pos c]
    · have c' : 10 ≤ x2.toInt := by
        rw [tlt, z10] at c; omega
      have i1 : (x2 - 10).toInt = x2.toInt - 10 := by rw [tsub (by rw [z10]; omega) (by rw [z10]; omega), z10]
      have n0 : ¬ x2 = 0 := by rw [teq, show (0 : Int32).toInt = 0 from rfl]; omega
      have n1 : ¬ x2 = 1 := by rw [teq, show (1 : Int32).toInt = 1 from rfl]; omega
      have n2 : ¬ x2 = 2 := by rw [teq, show (2 : Int32).toInt = 2 from rfl]; omega
      have n3 : ¬ x2 = 3 := by rw [teq, show (3 : Int32).toInt = 3 from rfl]; omega
      by_cases d : 10 + T.1 (p + 3 + 7 * j) 2 ≤ x2
      · have d2 : T.1 (p + 3 + 7 * j) 2 ≤ x2 - 10 := by
          rw [tle, k10] at d
          rw [tle, i1]; omega
        refine ⟨⟨f1, fun w => (by cases w), fun p2 w => ?_⟩, ⟨f2, fun _ => ⟨fun _ => vs, fun _ => vs, fun _ => vs, fun _ => ⟨vm, trivial⟩, fun _ _ _ _ => ⟨fun _ => trivial, fun _ => ⟨vs, fun _ => trivial, fun w => absurd d2 w⟩⟩⟩, fun w => absurd s0 w⟩, ?_⟩
        · cases w
          exact ⟨e5, fun _ => trivial, fun _ => ⟨fun _ => trivial, fun w => absurd d w⟩⟩
        · dsimp only
          rw [if_neg c, if_pos d, if_neg n0, if_neg n1, if_neg n2, if_neg n3, if_neg n0, if_neg n1, if_neg n2, if_neg n3, if_neg c, if_pos d2]
      · have d2 : ¬ T.1 (p + 3 + 7 * j) 2 ≤ x2 - 10 := by
          rw [tle, k10] at d
          rw [tle, i1]; omega
        obtain ⟨q, hq⟩ : ∃ q : Nat, x2.toInt = 10 + q := ⟨x2.toInt.toNat - 10, by omega⟩
        have q6 : (q : Int) < (T.1 (p + 3 + 7 * j) 2).toInt := by rw [tle, k10] at d; omega
        have iq : (x2 - 10).toInt = q := by omega
        have k6 : ((6 : Int32) * v_X11_spot T x0 x1).toInt = 6 * (8 * b + j : Nat) := by
          rw [tmul (by rw [show (6 : Int32).toInt = 6 from rfl]; omega) (by rw [show (6 : Int32).toInt = 6 from rfl]; omega), show (6 : Int32).toInt = 6 from rfl, e2]
        have k7 : ((6 : Int32) * v_X11_spot T x0 x1 + x2).toInt = 6 * (8 * b + j : Nat) + (10 + q) := by
          rw [tadd (by omega) (by omega)]; omega
        have k8 : ((6 : Int32) * v_X11_spot T x0 x1 + x2 - 10).toInt = (6 * (8 * b + j) + q : Nat) := by
          rw [tsub (by rw [z10]; omega) (by rw [z10]; omega), z10]; omega
        refine ⟨⟨f1, fun w => (by cases w), fun p2 w => ?_⟩, ⟨f2, fun _ => ⟨fun _ => vs, fun _ => vs, fun _ => vs, fun _ => ⟨vm, trivial⟩, fun _ _ _ _ => ⟨fun _ => trivial, fun _ => ⟨vs, fun _ => trivial, fun _ => by rw [vp_in_iff]; omega⟩⟩⟩, fun w => absurd s0 w⟩, ?_⟩
        · cases w
          exact ⟨e5, fun _ => trivial, fun _ => ⟨fun _ => trivial, fun _ => by rw [vp_in_iff]; omega⟩⟩
        · dsimp only
          rw [if_neg c, if_neg d, if_neg n0, if_neg n1, if_neg n2, if_neg n3, if_neg c, if_neg d2, tnN k8, tnN iq, (g6 q q6).1]
/-- an entry's grade -/
theorem fgE {sz : Nat} {T : tT} (h : I7 sz T) {e : Int32} (ve : vp_in e 40) : ok_X10_gradeOf sz T e ∧ ok_X11_spotOf sz T e ∧ ((v_X10_gradeOf T e = none ∧ v_X11_spotOf T e = -1) ∨ ∃ p b j : Nat, v_X10_gradeOf T e = some (p + 3 + 7 * j) ∧ (v_X11_spotOf T e).toInt = (8 * b + j : Nat) ∧ b < 5 ∧ j < 8 ∧ T.2.2 65 (T.1 71 e.toNatClampNeg).toNatClampNeg = some p ∧ tsy sz p ∧ tgr sz (p + 3 + 7 * j) ∧ (0 ≤ T.1 p 3 ∧ T.1 p 3 ≤ 750) ∧ GB T p b (p + 3 + 7 * j) (8 * b + j)) := by
  obtain ⟨f1, f2, f3⟩ := fg h.2 (T.1 71 e.toNatClampNeg) (T.1 72 e.toNatClampNeg)
  have r1 : T.1 132 = T.1 71 := h.1.2.1.2.2.1.2.1
  have r2 : T.1 133 = T.1 72 := h.1.2.1.2.2.1.2.2.1
  have ge : v_X10_gradeOf T e = v_X10_findGrade T (T.1 71 e.toNatClampNeg) (T.1 72 e.toNatClampNeg) := by
    unfold v_X10_gradeOf
    cases v_X10_findGrade T (T.1 71 e.toNatClampNeg) (T.1 72 e.toNatClampNeg) <;> rfl
  have se : v_X11_spotOf T e = v_X11_spot T (T.1 71 e.toNatClampNeg) (T.1 72 e.toNatClampNeg) := by
    unfold v_X11_spotOf
    rw [r1, r2]
  have o2 : ok_X11_spotOf sz T e := by
    unfold ok_X11_spotOf
    rw [r1, r2]
    exact ⟨ve, ve, f2, trivial⟩
  have o1 : ok_X10_gradeOf sz T e := by
    unfold ok_X10_gradeOf
    refine ⟨ve, ve, f1, fun _ => trivial, fun p2 w => ?_⟩
    rcases f3 with ⟨e1, e2⟩ | ⟨p, b, j, e1, e2, b5, j8, t0, t4, e3, e4, e5, e6, e7⟩
    · rw [e1] at w; cases w
    · rw [e1] at w; cases w; exact ⟨e5, trivial⟩
  rw [ge, se]
  refine ⟨o1, o2, ?_⟩
  rcases f3 with q | ⟨p, b, j, e1, e2, b5, j8, t0, t4, e3⟩
  · exact Or.inl q
  · exact Or.inr ⟨p, b, j, e1, e2, b5, j8, e3⟩
theorem e_minOf {sz : Nat} {T : tT} (h : I7 sz T) {e : Int32} (ve : vp_in e 40) : ok_X10_minutesOf sz T e ∧ ok_X11_minutesOf sz T (v_X11_spotOf T e) ∧ v_X10_minutesOf T e = v_X11_minutesOf T (v_X11_spotOf T e) ∧ 0 ≤ v_X10_minutesOf T e ∧ v_X10_minutesOf T e ≤ 120 := by
  obtain ⟨f1, f2, f3⟩ := fgE h ve
  rcases f3 with ⟨e1, e2⟩ | ⟨p, b, j, e1, e2, b5, j8, e3, e4, e5, e6, e7⟩
  · unfold ok_X10_minutesOf ok_X11_minutesOf v_X10_minutesOf v_X11_minutesOf
    rw [e1, e2, if_pos (by decide)]
    exact ⟨⟨f1, fun _ => trivial, fun p2 w => by cases w⟩, ⟨fun _ => trivial, fun w => absurd (by decide) w⟩, rfl, (show (0 : Int32) ≤ 10 by decide), (show (10 : Int32) ≤ 120 by decide)⟩
  · have g4 := e7.2.2.2.1
    have s0 : ¬ v_X11_spotOf T e < 0 := by rw [tlt, e2, show (0 : Int32).toInt = 0 from rfl]; omega
    have vs : vp_in (v_X11_spotOf T e) 40 := by rw [vp_in_iff]; omega
    unfold ok_X10_minutesOf ok_X11_minutesOf v_X10_minutesOf v_X11_minutesOf
    rw [e1, if_neg s0, tnN e2, ← g4.1]
    refine ⟨⟨f1, fun _ => trivial, fun p2 w => ?_⟩, ⟨fun w => absurd w s0, fun _ => ⟨vs, fun _ => vs, fun _ => trivial⟩⟩, rfl, ?_⟩
    · cases w; exact ⟨e5, trivial⟩
    · dsimp only
      unfold v_X3_minutesOrUsual
      have := g4.2
      grind
theorem k_minW {sz : Nat} {T : tT} (h : I7 sz T) (s e : Int32) : ∀ (n : Nat) (v a : Int32), 0 ≤ v → v ≤ T.1 69 0 → (T.1 69 0).toInt < v.toInt + n → okl_X10_minutesWith n sz T s e a v := by
  intro n
  induction n with
  | zero => intro v a h0 h1 h2; rw [tle] at h1; omega
  | succ n ih =>
    intro v a h0 h1 h2
    have b := h.1.2.1.2.1
    simp only [okl_X10_minutesWith]
    by_cases c : T.1 69 0 ≤ v
    · exact ⟨fun _ => trivial, fun q => absurd c q⟩
    · have u := fun a => ih (v + 1) a (by grind) (by grind) (by rw [tinc (b := T.1 69 0) (by grind)]; omega)
      have u2 := vp40 (a := v) h0 (by grind)
      have u3 := (e_minOf h u2).1
      exact ⟨fun q => absurd q c, fun _ => ⟨u2, fun _ => ⟨u3, u _⟩, fun _ => ⟨fun _ => u _, fun _ => ⟨u3, u _⟩⟩⟩⟩
theorem k_minI {sz : Nat} {T : tT} (h : I7 sz T) (s e : Int32) : ∀ (n : Nat) (v a : Int32), 0 ≤ v → v ≤ T.1 69 0 → (T.1 69 0).toInt < v.toInt + n → okl_X11_minutesIn n sz T s e a v := by
  intro n
  induction n with
  | zero => intro v a h0 h1 h2; rw [tle] at h1; omega
  | succ n ih =>
    intro v a h0 h1 h2
    have b := h.1.2.1.2.1
    simp only [okl_X11_minutesIn]
    rw [h.1.2.1.1]
    by_cases c : T.1 69 0 ≤ v
    · exact ⟨fun _ => trivial, fun q => absurd c q⟩
    · have u := fun a => ih (v + 1) a (by grind) (by grind) (by rw [tinc (b := T.1 69 0) (by grind)]; omega)
      have u2 := vp40 (a := v) h0 (by grind)
      have u3 := (e_minOf h u2).2.1
      have u4 := (fgE h u2).2.1
      exact ⟨fun q => absurd q c, fun _ => ⟨u2, fun _ => u _, fun _ => ⟨fun _ => u _, fun _ => ⟨u4, u3, u _⟩⟩⟩⟩
/-- with one more entry, or without any -/
theorem e_minl {sz : Nat} {T : tT} (h : I7 sz T) (s e : Int32) : ∀ (n : Nat) (v a a' : Int32), 0 ≤ v → v ≤ T.1 69 0 → (T.1 69 0).toInt < v.toInt + n → a = a' + (if 0 ≤ e ∧ e < v then v_X10_minutesOf T e else 0) → vl_X10_minutesWith n T s e a v = vl_X11_minutesIn n T s e a' v + (if 0 ≤ e ∧ e < T.1 69 0 then v_X10_minutesOf T e else 0) := by
  intro n
  induction n with
  | zero => intro v a a' h0 h1 h2; rw [tle] at h1; omega
  | succ n ih =>
    intro v a a' h0 h1 h2 ha
    have b := h.1.2.1.2.1
    have r : T.1 138 = T.1 76 := h.1.2.1.2.2.1.2.2.2.2.2.2.1
    rw [vl_X10_minutesWith_s, vl_X11_minutesIn_s, h.1.2.1.1, r]
    by_cases c : T.1 69 0 ≤ v
    · rw [if_pos c, if_pos c, ha]
      have : v = T.1 69 0 := by grind
      rw [this]
    · have u := fun a a' => ih (v + 1) a a' (by grind) (by grind) (by rw [tinc (b := T.1 69 0) (by grind)]; omega)
      have u2 := vp40 (a := v) h0 (by grind)
      have u3 := (e_minOf h u2).2.2.1
      rw [if_neg c, if_neg c]
      by_cases c2 : v = e
      · have f1 : (if 0 ≤ e ∧ e < v then v_X10_minutesOf T e else 0) = 0 := if_neg (by grind)
        have f2 : (if 0 ≤ e ∧ e < v + 1 then v_X10_minutesOf T e else 0) = v_X10_minutesOf T e := if_pos (by grind)
        have w := u (a + v_X10_minutesOf T v) (a' + 0) (by rw [f2, ha, f1, c2])
        rw [if_pos c2, if_pos c2, w]
        simp only [ite_self]
      · have f1 : (0 ≤ e ∧ e < v + 1) ↔ (0 ≤ e ∧ e < v) := by grind
        rw [if_neg c2, if_neg c2]
        by_cases c1 : T.1 76 v.toNatClampNeg = s
        · rw [if_pos c1, if_pos c1]
          exact u _ _ (by rw [ha, u3]; simp only [f1]; grind)
        · rw [if_neg c1, if_neg c1]
          exact u _ _ (by rw [ha]; simp only [f1]; grind)
theorem e_min {sz : Nat} {T : tT} (h : I7 sz T) (s e : Int32) : v_X10_minutesWith T s e = v_X11_minutesIn T s e + (if 0 ≤ e ∧ e < T.1 69 0 then v_X10_minutesOf T e else 0) := e_minl h s e fu 0 0 0 (by decide) h.1.2.1.2.1.1 (fu_entries h.1.2.1) (by rw [if_neg (by grind)]; decide)
theorem minI_cg {T T' : tT} (h : T'.1 105 = T.1 105 ∧ T'.1 138 = T.1 138 ∧ T'.1 116 = T.1 116 ∧ T'.1 132 = T.1 132 ∧ T'.1 133 = T.1 133 ∧ T'.1 108 = T.1 108 ∧ T'.1 109 = T.1 109 ∧ T'.1 110 = T.1 110) (s e : Int32) : v_X11_minutesIn T' s e = v_X11_minutesIn T s e ∧ (∀ y, v_X11_spotOf T' y = v_X11_spotOf T y) ∧ ∀ y, v_X11_minutesOf T' y = v_X11_minutesOf T y := by
  obtain ⟨h1, h2, h3, h4, h5, h6, h7, h8⟩ := h
  have k1 : ∀ y, v_X11_spotOf T' y = v_X11_spotOf T y := by
    intro y
    unfold v_X11_spotOf v_X11_spot
    rw [h4, h5, h6, h7, h8]
  have k2 : ∀ y, v_X11_minutesOf T' y = v_X11_minutesOf T y := by
    intro y
    unfold v_X11_minutesOf
    rw [h3]
  refine ⟨?_, k1, k2⟩
  have l : ∀ n a v, vl_X11_minutesIn n T' s e a v = vl_X11_minutesIn n T s e a v := by
    intro n
    induction n with
    | zero => intro a v; rfl
    | succ n ih =>
      intro a v
      rw [vl_X11_minutesIn_s, vl_X11_minutesIn_s, h1, h2, k1, k2, ih, ih]
  exact l fu 0 0
theorem q_put {sz : Nat} {T : tT} (h : I7 sz T) (x0 x1 : Int32) : ok_X10_put sz T x0 x1 ∧ ok_X11_put sz (F_X10_put T x0 x1).2 x0 x1 ∧ (F_X10_put T x0 x1).2.1 0 = T.1 0 ∧ (F_X10_put T x0 x1).1 = (F_X11_put (F_X10_put T x0 x1).2 x0 x1).1 ∧ I7 sz (F_X11_put (F_X10_put T x0 x1).2 x0 x1).2 := by
  have hI := h
  obtain ⟨⟨hC, hE, hL, hS, hA, hP⟩, hX⟩ := h
  have q := hE.1
  have b := hE.2.1
  have qc := hC.1
  have en := fu_entries hE
  have em := e_min hI x1 x0
  have kw : ok_X10_minutesWith sz T x1 x0 := k_minW hI x1 x0 fu 0 0 (by decide) b.1 en
  by_cases cE : 0 ≤ x0 ∧ x0 < T.1 69 0
  · have v := vp40 (a := x0) cE.1 (by grind)
    obtain ⟨m1, m2, m3, m4, m5⟩ := e_minOf hI v
    have s1 := (fgE hI v).2.1
    rw [if_pos cE] at em
    have h10 : ¬ v_X2_has T x0 = 0 := by unfold v_X2_has; grind
    have o1 : ok_X10_put sz T x0 x1 := ⟨fun _ => trivial, fun _ => ⟨fun w => ⟨fun _ => v, fun w' => absurd w w'⟩, fun w => ⟨fun _ => ⟨fun w' => absurd w' w, fun _ => ⟨kw, fun _ => v, fun _ => trivial⟩⟩, fun _ => trivial⟩⟩⟩
    by_cases c : x1 = -1 ∨ ((0 ≤ x1 ∧ x1 < T.1 79 2) ∧ v_X10_minutesWith T x1 x0 ≤ 300)
    · have E1 : F_X10_put T x0 x1 = (1, tI T 76 x0.toNatClampNeg x1) := by
        unfold F_X10_put v_X1_hasSession
        rw [if_neg h10]
        grind
      rw [E1]
      dsimp only
      have f0 : fr (wl [76] []) T (tI T 76 x0.toNatClampNeg x1) := fr_I rfl fr_refl
      have cg := minI_cg (T := T) (T' := tI T 76 x0.toNatClampNeg x1) ⟨rfl, rfl, rfl, rfl, rfl, rfl, rfl, rfl⟩ x1 x0
      have h11 : ¬ v_X11_isEntry (tI T 76 x0.toNatClampNeg x1) x0 = 0 := by
        unfold v_X11_isEntry
        rw [show (tI T 76 x0.toNatClampNeg x1).1 105 48 = T.1 105 48 from rfl]
        grind
      have E2 : F_X11_put (tI T 76 x0.toNatClampNeg x1) x0 x1 = (1, tI (tI T 76 x0.toNatClampNeg x1) 138 x0.toNatClampNeg x1) := by
        unfold F_X11_put v_X11_isSession
        rw [if_neg h11, cg.1, cg.2.1, cg.2.2, ← m3, ← em, show (tI T 76 x0.toNatClampNeg x1).1 105 58 = T.1 105 58 from rfl, qc.2.2]
        grind
      have f : fr (wl [76, 138] []) T (tI (tI T 76 x0.toNatClampNeg x1) 138 x0.toNatClampNeg x1) := fr_I rfl (fr_I rfl fr_refl)
      have i2 : I7 sz (tI (tI T 76 x0.toNatClampNeg x1) 138 x0.toNatClampNeg x1) := by
        refine ⟨⟨ICi_fz (fz_of f rfl) hC, ?_, ILe_fz (fz_of f rfl) hL, ICe_fz (fz_of f rfl) hS, ITa_fz (fz_of f rfl) hA, IPl_fz (fz_of f rfl) hP⟩, ITx_fr f rfl hX⟩
        obtain ⟨a1, a2, a3, a4, a5, a6, a7⟩ := hE
        exact ⟨a1, a2, ⟨a3.1, a3.2.1, a3.2.2.1, a3.2.2.2.1, a3.2.2.2.2.1, a3.2.2.2.2.2.1, va_upi a3.2.2.2.2.2.2.1, a3.2.2.2.2.2.2.2⟩, a4, a5, a6, a7⟩
      have o2 : ok_X11_put sz (tI T 76 x0.toNatClampNeg x1) x0 x1 := by
        have ki : ok_X11_minutesIn sz (tI T 76 x0.toNatClampNeg x1) x1 x0 := by
          have l : ∀ n a v, okl_X11_minutesIn n sz T x1 x0 a v → okl_X11_minutesIn n sz (tI T 76 x0.toNatClampNeg x1) x1 x0 a v := by
            intro n
            induction n with
            | zero => intro a v w; exact w
            | succ n ih =>
              intro a v w
              simp only [okl_X11_minutesIn] at w ⊢
              rw [cg.2.1, cg.2.2]
              exact ⟨fun q => trivial, fun q => ⟨(w.2 q).1, fun q2 => ih _ _ ((w.2 q).2.1 q2), fun q2 => ⟨fun q3 => ih _ _ (((w.2 q).2.2 q2).1 q3), fun q3 => ⟨(((w.2 q).2.2 q2).2 q3).1, (((w.2 q).2.2 q2).2 q3).2.1, ih _ _ (((w.2 q).2.2 q2).2 q3).2.2⟩⟩⟩⟩
          exact l fu 0 0 (k_minI hI x1 x0 fu 0 0 (by decide) b.1 en)
        unfold ok_X11_put
        rw [cg.1, cg.2.1, cg.2.2]
        exact ⟨fun _ => trivial, fun _ => ⟨fun _ => v, fun _ => ⟨fun _ => trivial, fun _ => ⟨ki, s1, m2, fun _ => v, fun _ => trivial⟩⟩⟩⟩
      rw [E2]
      exact ⟨o1, o2, rfl, rfl, i2⟩
    · have E1 : F_X10_put T x0 x1 = (0, T) := by
        unfold F_X10_put v_X1_hasSession
        rw [if_neg h10]
        grind
      have h11 : ¬ v_X11_isEntry T x0 = 0 := by
        unfold v_X11_isEntry
        grind
      have E2 : F_X11_put T x0 x1 = (0, T) := by
        unfold F_X11_put v_X11_isSession
        rw [if_neg h11, ← m3, ← em, qc.2.2]
        grind
      have o2 : ok_X11_put sz T x0 x1 := ⟨fun _ => trivial, fun _ => ⟨fun _ => v, fun _ => ⟨fun _ => trivial, fun _ => ⟨k_minI hI x1 x0 fu 0 0 (by decide) b.1 en, s1, m2, fun _ => v, fun _ => trivial⟩⟩⟩⟩
      rw [E1]
      dsimp only
      rw [E2]
      exact ⟨o1, o2, rfl, rfl, hI⟩
  · have h10 : v_X2_has T x0 = 0 := by unfold v_X2_has; grind
    have h11 : v_X11_isEntry T x0 = 0 := by unfold v_X11_isEntry; grind
    have E1 : F_X10_put T x0 x1 = (0, T) := by
      unfold F_X10_put
      rw [if_pos h10]
    have E2 : F_X11_put T x0 x1 = (0, T) := by
      unfold F_X11_put
      rw [if_pos h11]
    rw [E1]
    dsimp only
    rw [E2]
    exact ⟨⟨fun _ => trivial, fun w => absurd h10 w⟩, ⟨fun _ => trivial, fun w => absurd h11 w⟩, rfl, rfl, hI⟩
theorem l_ofl {T : tT} (hE : IEn T) (s w : Int32) : ∀ (n : Nat) (v a : Int32), 0 ≤ v → v ≤ T.1 69 0 → (T.1 69 0).toInt < v.toInt + n → vl_X11_of n T s w a v = (if w = 0 then T.1 145 s.toNatClampNeg else if w = 1 then T.1 146 s.toNatClampNeg else if w = 2 then vl_X2_countIn n T s a v else if w = 3 then v_X11_minutesIn T s (-1) else -1) := by
  intro n
  induction n with
  | zero => intro v a h0 h1 h2; rw [tle] at h1; omega
  | succ n ih =>
    intro v a h0 h1 h2
    have b := hE.2.1
    have r : T.1 138 = T.1 76 := hE.2.2.1.2.2.2.2.2.2.1
    rw [vl_X11_of_s, vl_X2_countIn_s, hE.1, r]
    by_cases c : T.1 69 0 ≤ v
    · rw [if_pos c, if_pos c]
    · have u := fun a => ih (v + 1) a (by grind) (by grind) (by rw [tinc (b := T.1 69 0) (by grind)]; omega)
      rw [if_neg c, if_neg c, u, u]
      by_cases c1 : T.1 76 v.toNatClampNeg = s
      · rw [if_pos c1, if_pos c1]
      · rw [if_neg c1, if_neg c1]
theorem k_ofl {sz : Nat} {T : tT} (h : I7 sz T) (s w : Int32) (vs : vp_in s 9) : ∀ (n : Nat) (v a : Int32), 0 ≤ v → v ≤ T.1 69 0 → (T.1 69 0).toInt < v.toInt + n → okl_X11_of n sz T s w a v ∧ okl_X2_countIn n sz T s a v := by
  intro n
  induction n with
  | zero => intro v a h0 h1 h2; rw [tle] at h1; omega
  | succ n ih =>
    intro v a h0 h1 h2
    have b := h.1.2.1.2.1
    simp only [okl_X11_of, okl_X2_countIn]
    rw [h.1.2.1.1]
    by_cases c : T.1 69 0 ≤ v
    · exact ⟨⟨fun _ => ⟨fun _ => vs, fun _ => vs, fun _ => trivial, fun _ => ⟨k_minI h s (-1) fu 0 0 (by decide) b.1 (fu_entries h.1.2.1), trivial⟩, fun _ _ _ _ => trivial⟩, fun q => absurd c q⟩, ⟨fun _ => trivial, fun q => absurd c q⟩⟩
    · have u := fun a => ih (v + 1) a (by grind) (by grind) (by rw [tinc (b := T.1 69 0) (by grind)]; omega)
      have u2 := vp40 (a := v) h0 (by grind)
      exact ⟨⟨fun q => absurd q c, fun _ => ⟨u2, fun _ => (u _).1, fun _ => (u _).1⟩⟩, ⟨fun q => absurd q c, fun _ => ⟨u2, fun _ => (u _).2, fun _ => (u _).2⟩⟩⟩
theorem q_of {sz : Nat} {T : tT} (h : I7 sz T) (x0 x1 : Int32) : ok_X10_of sz T x0 x1 ∧ ok_X11_of sz T x0 x1 ∧ v_X10_of T x0 x1 = v_X11_of T x0 x1 := by
  have hI := h
  obtain ⟨⟨hC, hE, hL, hS, hA, hP⟩, hX⟩ := h
  have qc := hC.1
  have b := hC.2.1
  by_cases c : 0 ≤ x0 ∧ x0 < T.1 79 2
  · have v := vp9 (a := x0) c.1 (by grind)
    have h10 : ¬ v_X1_hasSession T x0 = 0 := by unfold v_X1_hasSession; grind
    have h11 : ¬ v_X11_isSession T x0 = 0 := by unfold v_X11_isSession; grind
    have k := fun w => k_ofl hI x0 w v fu 0 0 (by decide) hE.2.1.1 (fu_entries hE)
    have em := e_min hI x0 (-1)
    rw [if_neg (fun w => absurd w.1 (by decide)), Int32.add_zero] at em
    refine ⟨⟨fun _ => ⟨fun _ => v, fun _ => v, fun _ => ⟨(k 0).2, trivial⟩, fun _ => ⟨k_minW hI x0 (-1) fu 0 0 (by decide) hE.2.1.1 (fu_entries hE), trivial⟩, fun _ _ _ _ => trivial⟩, fun w => absurd w h10⟩, ⟨fun _ => (k x1).1, fun w => absurd w h11⟩, ?_⟩
    unfold v_X10_of v_X11_of
    rw [if_neg h10, if_neg h11, l_ofl hE x0 x1 fu 0 0 (by decide) hE.2.1.1 (fu_entries hE), em, hC.2.2.1.2.2.1, hC.2.2.1.2.2.2.1]
    rfl
  · have h10 : v_X1_hasSession T x0 = 0 := by unfold v_X1_hasSession; grind
    have h11 : v_X11_isSession T x0 = 0 := by unfold v_X11_isSession; grind
    refine ⟨⟨fun w => absurd h10 w, fun _ => trivial⟩, ⟨fun w => absurd h11 w, fun _ => trivial⟩, ?_⟩
    unfold v_X10_of v_X11_of
    rw [if_pos h10, if_pos h11]
theorem q_about {sz : Nat} {T : tT} (h : I7 sz T) (x0 : Int32) : ok_X10_about sz T x0 ∧ ok_X11_about sz T x0 ∧ v_X10_about T x0 = v_X11_about T x0 := by
  obtain ⟨⟨hC, hE, hL, hS, hA, hP⟩, hX⟩ := h
  obtain ⟨a1, a2, a3, a4, a5, a6, a7, a8, a9⟩ := hX
  by_cases c : 10 ≤ x0 ∧ x0 ≤ 13
  · have c1 : 10 ≤ x0.toInt := tle.mp c.1
    have c2 : x0.toInt ≤ 13 := tle.mp c.2
    obtain ⟨t, ht⟩ : ∃ t : Nat, (x0 - 10).toInt = t := ⟨x0.toInt.toNat - 10, by rw [tsub (by rw [z10]; omega) (by rw [z10]; omega), z10]; omega⟩
    have t4 : t < 4 := by
      rw [tsub (by rw [z10]; omega) (by rw [z10]; omega), z10] at ht
      omega
    have vt : vp_in (x0 - 10) 4 := by rw [vp_in_iff]; omega
    have it : ¬ v_X10_isTerm T (x0 - 10) = 0 := by
      have h0 : ¬ x0 - 10 < 0 := by rw [tlt, ht, show (0 : Int32).toInt = 0 from rfl]; omega
      have h4 : ¬ 4 ≤ x0 - 10 := by rw [tle, ht, show (4 : Int32).toInt = 4 from rfl]; omega
      unfold v_X10_isTerm
      rw [if_neg h0, if_neg h4]
      exact (show ¬ (1 : Int32) = 0 by decide)
    have iw : ¬ v_X10_isWithin T x0 10 13 = 0 := by unfold v_X10_isWithin; grind
    have vb : vp_in (T.1 108 t) 5 := vp5 (a5 t t4).1 (a5 t t4).2.1
    have n : ∀ k : Int32, k.toInt < 10 → ¬ x0 = k := by
      intro k hk q
      rw [q] at c1
      omega
    have n0 := n 0 (by decide)
    have n1 := n 1 (by decide)
    have n2 := n 2 (by decide)
    have n3 := n 3 (by decide)
    have n4 := n 4 (by decide)
    have n5 := n 5 (by decide)
    have n6 := n 6 (by decide)
    have n7 := n 7 (by decide)
    have l10 : ¬ x0 < 10 := by grind
    have l14 : x0 < 14 := by grind
    have og : ok_X10_gradesOf sz T (x0 - 10) := by
      unfold ok_X10_gradesOf
      rw [tnN ht]
      refine ⟨fun _ => trivial, fun _ => ⟨vt, fun _ => trivial, fun p2 w => ?_⟩⟩
      rcases a2 t t4 with q | ⟨p, p1, p2', p3, p4⟩
      · rw [q.1] at w; cases w
      · rw [p1] at w; cases w; exact ⟨p3.1, trivial⟩
    refine ⟨⟨fun _ => trivial, fun _ => trivial, fun _ => trivial, fun _ => trivial, fun _ => trivial, fun _ => trivial, fun _ => trivial, fun _ => trivial, fun _ _ _ _ _ _ _ _ => ⟨fun _ => trivial, fun _ => ⟨og, trivial⟩⟩⟩, ⟨fun _ => trivial, fun _ => trivial, fun _ => trivial, fun _ => trivial, fun _ => trivial, fun _ => trivial, fun _ => trivial, fun _ => trivial, fun _ _ _ _ _ _ _ _ => ⟨fun _ => trivial, fun _ => ⟨fun _ => ⟨vt, fun _ => trivial, fun _ => ⟨vt, by rw [tnN ht]; exact vb⟩⟩, fun _ => trivial⟩⟩⟩, ?_⟩
    unfold v_X10_about v_X11_about v_X10_gradesOf
    rw [if_neg n0, if_neg n1, if_neg n2, if_neg n3, if_neg n4, if_neg n5, if_neg n6, if_neg n7, if_neg iw, if_neg it, if_neg n0, if_neg n1, if_neg n2, if_neg n3, if_neg n4, if_neg n5, if_neg n6, if_neg n7, if_neg l10, if_pos l14, tnN ht]
    rcases a2 t t4 with ⟨q1, q2⟩ | ⟨p, p1, p2', p3, p4⟩
    · rw [q1, q2, if_pos rfl]
    · rw [p1, p2', if_neg (by decide)]
      exact p4.1
  · have iw : v_X10_isWithin T x0 10 13 = 0 := by unfold v_X10_isWithin; grind
    refine ⟨?_, ?_, ?_⟩
    · exact ⟨fun _ => trivial, fun _ => trivial, fun _ => trivial, fun _ => trivial, fun _ => trivial, fun _ => trivial, fun _ => trivial, fun _ => trivial, fun _ _ _ _ _ _ _ _ => ⟨fun _ => trivial, fun w => absurd iw w⟩⟩
    · exact ⟨fun _ => trivial, fun _ => trivial, fun _ => trivial, fun _ => trivial, fun _ => trivial, fun _ => trivial, fun _ => trivial, fun _ => trivial, fun _ _ _ _ _ _ _ _ => ⟨fun _ => trivial, fun w => ⟨fun w' => absurd ⟨by grind, by grind⟩ c, fun _ => trivial⟩⟩⟩
    · unfold v_X10_about v_X11_about
      rw [if_pos iw, hL.1.2, hE.1, hC.1.1, hC.1.2.1, hC.1.2.2, hL.1.1, hS.1, hA.2.1]
      by_cases l10 : x0 < 10
      · rw [if_pos l10]
      · rw [if_neg l10, if_neg (by grind : ¬ x0 < 14)]
