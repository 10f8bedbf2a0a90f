/-! who may take a session; stuck -/
theorem e_heardl {T : tT} (hL : ILe T) (hE : IEn T) (x y : Int32) (h0 : 0 ≤ x) (h5 : x < 5) : ∀ n v, vl_X10_heardElsewhere n T x y v = vl_X11_hasHeard n T x y v := by
  intro n
  induction n with
  | zero => intro v; rfl
  | succ n ih =>
    intro v
    have u0 := hL.2.2.2.2.2.2.2.2.2.2.2 v.toNatClampNeg
    have u1 := hL.2.2.2.1 v.toNatClampNeg
    have u3 := ih (v + 1)
    have x1 : T.1 151 = T.1 94 := hL.2.2.1.1
    have x2 : T.1 156 = T.1 99 := hL.2.2.1.2.2.2.2
    have x3 : T.1 131 = T.1 70 := hE.2.2.1.1
    rw [vl_X10_heardElsewhere_s, vl_X11_hasHeard_s, hL.1.1, x1, x2, x3]
    unfold v_X5_stands
    grind
theorem e_heard {T : tT} (hL : ILe T) (hE : IEn T) (x y : Int32) (h0 : 0 ≤ x) (h5 : x < 5) : v_X10_heardElsewhere T x y = v_X11_hasHeard T x y := e_heardl hL hE x y h0 h5 fu 0
theorem k_heard10l {sz : Nat} {T : tT} (hL : ILe T) (x y : Int32) (hy : vp_in y 40) : ∀ (n : Nat) (v : Int32), 0 ≤ v → v ≤ T.1 93 1 → (T.1 93 1).toInt < v.toInt + n → okl_X10_heardElsewhere n sz T x y v := by
  intro n
  induction n with
  | zero => intro v h0 h1 h2; rw [tle] at h1; omega
  | succ n ih =>
    intro v h0 h1 h2
    have b := hL.2.1
    simp only [okl_X10_heardElsewhere]
    by_cases c : T.1 93 1 ≤ v
    · exact ⟨fun _ => trivial, fun q => absurd c q⟩
    · have u := ih (v + 1) (by grind) (by grind) (by rw [tinc (b := T.1 93 1) (by grind)]; omega)
      have u2 := vp200 (a := v) h0 (by grind)
      have u4 := hL.2.2.2.2.1 v.toNatClampNeg
      have u5 := vp40 u4.1 u4.2
      unfold ok_X5_stands
      grind
theorem k_heard10 {sz : Nat} {T : tT} (hL : ILe T) (x y : Int32) (hy : vp_in y 40) : ok_X10_heardElsewhere sz T x y := k_heard10l hL x y hy fu 0 (by decide) hL.2.1.1 (fu_marks hL)
theorem k_heard11l {sz : Nat} {T : tT} (hL : ILe T) (x y : Int32) (hy : vp_in y 40) : ∀ (n : Nat) (v : Int32), 0 ≤ v → v ≤ T.1 93 1 → (T.1 93 1).toInt < v.toInt + n → okl_X11_hasHeard n sz T x y v := by
  intro n
  induction n with
  | zero => intro v h0 h1 h2; rw [tle] at h1; omega
  | succ n ih =>
    intro v h0 h1 h2
    have b := hL.2.1
    simp only [okl_X11_hasHeard]
    rw [hL.1.1]
    by_cases c : T.1 93 1 ≤ v
    · exact ⟨fun _ => trivial, fun q => absurd c q⟩
    · have u := ih (v + 1) (by grind) (by grind) (by rw [tinc (b := T.1 93 1) (by grind)]; omega)
      have u2 := vp200 (a := v) h0 (by grind)
      have x1 : T.1 151 = T.1 94 := hL.2.2.1.1
      have u4 := hL.2.2.2.2.1 v.toNatClampNeg
      have u5 := vp40 u4.1 u4.2
      rw [x1]
      grind
theorem k_heard11 {sz : Nat} {T : tT} (hL : ILe T) (x y : Int32) (hy : vp_in y 40) : ok_X11_hasHeard sz T x y := k_heard11l hL x y hy fu 0 (by decide) hL.2.1.1 (fu_marks hL)
theorem e_mayTakel {T : tT} (hL : ILe T) (hE : IEn T) (hC : ICi T) (x s : Int32) (h0 : 0 ≤ x) (h5 : x < 5) : ∀ n v, vl_X10_mayTake n T x s v = vl_X11_mayTake n T x s v := by
  intro n
  induction n with
  | zero => intro v; rfl
  | succ n ih =>
    intro v
    have u3 := ih (v + 1)
    have x1 : T.1 138 = T.1 76 := hE.2.2.1.2.2.2.2.2.2.1
    have x2 : T.1 134 = T.1 73 := hE.2.2.1.2.2.2.1
    have x3 : T.1 136 = T.1 75 := hE.2.2.1.2.2.2.2.2.1
    have x4 : T.1 144 = T.1 81 := hC.2.2.1.2.1
    have x5 := e_heard hL hE x v h0 h5
    rw [vl_X10_mayTake_s, vl_X11_mayTake_s, hE.1, x1, x2, x3, x4]
    unfold v_X10_mayHear v_X1_plays
    grind
theorem e_mayTake {T : tT} (hL : ILe T) (hE : IEn T) (hC : ICi T) (x s : Int32) (h0 : 0 ≤ x) (h5 : x < 5) : v_X10_mayTake T x s = v_X11_mayTake T x s := e_mayTakel hL hE hC x s h0 h5 fu 0
theorem fu_entries {T : tT} (hE : IEn T) : (T.1 69 0).toInt < (0 : Int32).toInt + (fu : Nat) := by
  have e : (T.1 69 0).toInt ≤ 40 := tle.mp hE.2.1.2
  rw [fu_eq]
  show (T.1 69 0).toInt < 0 + _
  omega
theorem k_mayTake10l {sz : Nat} {T : tT} (hL : ILe T) (hE : IEn T) (x s : Int32) (hx : vp_in x 5) : ∀ (n : Nat) (v : Int32), 0 ≤ v → v ≤ T.1 69 0 → (T.1 69 0).toInt < v.toInt + n → okl_X10_mayTake n sz T x s v := by
  intro n
  induction n with
  | zero => intro v h0 h1 h2; rw [tle] at h1; omega
  | succ n ih =>
    intro v h0 h1 h2
    have b := hE.2.1
    simp only [okl_X10_mayTake]
    by_cases c : T.1 69 0 ≤ v
    · exact ⟨fun _ => trivial, fun q => absurd c q⟩
    · have u := ih (v + 1) (by grind) (by grind) (by rw [tinc (b := T.1 69 0) (by grind)]; omega)
      have u2 := vp40 (a := v) h0 (by grind)
      have u3 := k_heard10 (sz := sz) hL x v u2
      have u4 : ok_X10_mayHear sz T x v := by unfold ok_X10_mayHear ok_X1_plays; grind
      grind
theorem k_mayTake10 {sz : Nat} {T : tT} (hL : ILe T) (hE : IEn T) (x s : Int32) (hx : vp_in x 5) : ok_X10_mayTake sz T x s := k_mayTake10l hL hE x s hx fu 0 (by decide) hE.2.1.1 (fu_entries hE)
theorem k_mayTake11l {sz : Nat} {T : tT} (hL : ILe T) (hE : IEn T) (x s : Int32) (hx : vp_in x 5) : ∀ (n : Nat) (v : Int32), 0 ≤ v → v ≤ T.1 69 0 → (T.1 69 0).toInt < v.toInt + n → okl_X11_mayTake n sz T x s v := by
  intro n
  induction n with
  | zero => intro v h0 h1 h2; rw [tle] at h1; omega
  | succ n ih =>
    intro v h0 h1 h2
    have b := hE.2.1
    simp only [okl_X11_mayTake]
    rw [hE.1]
    by_cases c : T.1 69 0 ≤ v
    · exact ⟨fun _ => trivial, fun q => absurd c q⟩
    · have u := ih (v + 1) (by grind) (by grind) (by rw [tinc (b := T.1 69 0) (by grind)]; omega)
      have u2 := vp40 (a := v) h0 (by grind)
      have u3 := k_heard11 (sz := sz) hL x v u2
      grind
theorem k_mayTake11 {sz : Nat} {T : tT} (hL : ILe T) (hE : IEn T) (x s : Int32) (hx : vp_in x 5) : ok_X11_mayTake sz T x s := k_mayTake11l hL hE x s hx fu 0 (by decide) hE.2.1.1 (fu_entries hE)
theorem q_may {sz : Nat} {T : tT} (h : I6 T) (x0 x1 : Int32) : ok_X10_may sz T x0 x1 ∧ ok_X11_may sz T x0 x1 ∧ v_X10_may T x0 x1 = v_X11_may T x0 x1 := by
  obtain ⟨hC, hE, hL, hS, hA, hP⟩ := h
  have q := hC.1
  have b := hC.2.1
  by_cases c : 0 ≤ x0 ∧ x0 < T.1 79 1
  · have v := vp5 (a := x0) c.1 (by grind)
    have u1 := k_mayTake10 (sz := sz) hL hE x0 x1 v
    have u2 := k_mayTake11 (sz := sz) hL hE x0 x1 v
    have u3 := e_mayTake hL hE hC x0 x1 c.1 (by grind)
    refine ⟨?_, ?_, ?_⟩
    · unfold ok_X10_may; grind
    · unfold ok_X11_may; grind
    · unfold v_X10_may v_X11_may v_X1_hasExaminer v_X11_isExaminer v_X1_hasSession v_X11_isSession; grind
  · refine ⟨?_, ?_, ?_⟩
    · unfold ok_X10_may v_X1_hasExaminer; grind
    · unfold ok_X11_may v_X11_isExaminer; grind
    · unfold v_X10_may v_X11_may v_X1_hasExaminer v_X11_isExaminer; grind
def cB (T : tT) (s e : Int32) : Prop := ∃ j, e ≤ j ∧ j < T.1 79 1 ∧ v_X11_mayTake T j s ≠ 0
theorem cB_step {T : tT} {s e : Int32} (h : e < T.1 79 1) : cB T s e ↔ v_X11_mayTake T e s ≠ 0 ∨ cB T s (e + 1) := by
  constructor
  · rintro ⟨j, j1, j2, j3⟩
    by_cases c : j = e
    · exact Or.inl (c ▸ j3)
    · exact Or.inr ⟨j, by grind, j2, j3⟩
  · rintro (q | ⟨j, j1, j2, j3⟩)
    · exact ⟨e, by grind, h, q⟩
    · exact ⟨j, by grind, j2, j3⟩
theorem cB_end {T : tT} {s e : Int32} (h : T.1 79 1 ≤ e) : ¬ cB T s e := by
  rintro ⟨j, j1, j2, j3⟩
  grind
theorem l_canl {T : tT} (hL : ILe T) (hE : IEn T) (hC : ICi T) (s : Int32) : ∀ (n : Nat) (e : Int32), 0 ≤ e → e ≤ T.1 79 1 → (T.1 79 1).toInt < e.toInt + n → (cB T s e → vl_X10_canBeTaken n T s e = 1) ∧ (¬ cB T s e → vl_X10_canBeTaken n T s e = 0) := by
  intro n
  induction n with
  | zero => intro v h0 h1 h2; rw [tle] at h1; omega
  | succ n ih =>
    intro v h0 h1 h2
    have b := hC.2.1
    rw [vl_X10_canBeTaken_s]
    by_cases c : T.1 79 1 ≤ v
    · rw [if_pos c]
      exact ⟨fun q => absurd q (cB_end c), fun _ => rfl⟩
    · have u := ih (v + 1) (by grind) (by grind) (by rw [tinc (b := T.1 79 1) (by grind)]; omega)
      have u2 := e_mayTake hL hE hC v s h0 (by grind)
      rw [cB_step (by grind), if_neg c, u2]
      grind
theorem l_can {T : tT} (hL : ILe T) (hE : IEn T) (hC : ICi T) (s : Int32) : (cB T s 0 → v_X10_canBeTaken T s = 1) ∧ (¬ cB T s 0 → v_X10_canBeTaken T s = 0) := l_canl hL hE hC s fu 0 (by decide) hC.2.1.2.2.1 (by
  have e : (T.1 79 1).toInt ≤ 5 := tle.mp hC.2.1.2.2.2.1
  rw [fu_eq]
  show (T.1 79 1).toInt < 0 + _
  omega)
theorem k_canl {sz : Nat} {T : tT} (hL : ILe T) (hE : IEn T) (hC : ICi T) (s : Int32) : ∀ (n : Nat) (e : Int32), 0 ≤ e → e ≤ T.1 79 1 → (T.1 79 1).toInt < e.toInt + n → okl_X10_canBeTaken n sz T s e := by
  intro n
  induction n with
  | zero => intro v h0 h1 h2; rw [tle] at h1; omega
  | succ n ih =>
    intro v h0 h1 h2
    have b := hC.2.1
    simp only [okl_X10_canBeTaken]
    by_cases c : T.1 79 1 ≤ v
    · exact ⟨fun _ => trivial, fun q => absurd c q⟩
    · have u := ih (v + 1) (by grind) (by grind) (by rw [tinc (b := T.1 79 1) (by grind)]; omega)
      have u2 := k_mayTake10 (sz := sz) hL hE v s (vp5 h0 (by grind))
      grind
theorem k_can {sz : Nat} {T : tT} (hL : ILe T) (hE : IEn T) (hC : ICi T) (s : Int32) : ok_X10_canBeTaken sz T s := k_canl hL hE hC s fu 0 (by decide) hC.2.1.2.2.1 (by
  have e : (T.1 79 1).toInt ≤ 5 := tle.mp hC.2.1.2.2.2.1
  rw [fu_eq]
  show (T.1 79 1).toInt < 0 + _
  omega)
theorem l_stuckl {T : tT} (hL : ILe T) (hE : IEn T) (hC : ICi T) : ∀ (n : Nat), (∀ (k : Nat) (s : Int32), 0 ≤ s → s ≤ T.1 79 2 → ((T.1 79 2).toInt - s.toInt) * 7 < n → (T.1 79 2).toInt < s.toInt + k → (vl_X11_stuck n).1 T s = vl_X10_stuck k T s) ∧ (∀ (k : Nat) (s f e : Int32), 0 ≤ s → s < T.1 79 2 → 0 ≤ e → e ≤ T.1 79 1 → ((T.1 79 2).toInt - s.toInt) * 7 < n + e.toInt + 1 → (T.1 79 2).toInt < s.toInt + 1 + k → ((f ≠ 0 ∨ cB T s e) → (vl_X11_stuck n).2 T s f e = vl_X10_stuck k T (s + 1)) ∧ (¬ (f ≠ 0 ∨ cB T s e) → (vl_X11_stuck n).2 T s f e = s)) := by
  intro n
  induction n with
  | zero =>
    refine ⟨fun k s h0 h1 h2 h3 => ?_, fun k s f e h0 h1 h2 h3 h4 h5 => ?_⟩
    · rw [tle] at h1
      omega
    · have b := hC.2.1.2.2.2.1
      rw [tle] at h3 b
      rw [tlt] at h1
      rw [show (5 : Int32).toInt = 5 from rfl] at b
      omega
  | succ n ih =>
    have b := hC.2.1
    refine ⟨fun k s h0 h1 h2 h3 => ?_, fun k s f e h0 h1 h2 h3 h4 h5 => ?_⟩
    · rw [vl_X11_stuck_s0, hC.1.2.2]
      cases k with
      | zero => rw [tle] at h1; omega
      | succ k =>
        rw [vl_X10_stuck_s]
        by_cases c : T.1 79 2 ≤ s
        · rw [if_pos c, if_pos c]
        · rw [if_neg c, if_neg c]
          have u := ih.2 k s 0 0 h0 (by grind) (by decide) b.2.2.1 (by rw [show (0 : Int32).toInt = 0 from rfl]; omega) (by omega)
          have w := l_can hL hE hC s
          by_cases x : cB T s 0
          · rw [w.1 x, u.1 (Or.inr x), if_neg (by decide)]
          · rw [w.2 x, u.2 (by grind), if_pos rfl]
    · rw [vl_X11_stuck_s1, hC.1.2.1]
      by_cases c : T.1 79 1 ≤ e
      · rw [if_pos c]
        have u := ih.1 k (s + 1) (by grind) (by grind) (by
          have b5 := b.2.2.2.1
          rw [tle] at h3 b5
          rw [tinc (b := T.1 79 2) h1]
          rw [show (5 : Int32).toInt = 5 from rfl] at b5
          omega) (by rw [tinc (b := T.1 79 2) h1]; omega)
        have x := cB_end (T := T) (s := s) c
        grind
      · rw [if_neg c, cB_step (by grind)]
        have u := fun f => ih.2 k s f (e + 1) h0 h1 (by grind) (by grind) (by rw [tinc (b := T.1 79 1) (by grind)]; omega) h5
        grind
theorem k_stuckl {sz : Nat} {T : tT} (hL : ILe T) (hE : IEn T) (hC : ICi T) : ∀ (n : Nat), (∀ (s : Int32), 0 ≤ s → s ≤ T.1 79 2 → ((T.1 79 2).toInt - s.toInt) * 7 < n → (okl_X11_stuck n).1 sz T s) ∧ (∀ (s f e : Int32), 0 ≤ s → s < T.1 79 2 → 0 ≤ e → e ≤ T.1 79 1 → ((T.1 79 2).toInt - s.toInt) * 7 < n + e.toInt + 1 → (okl_X11_stuck n).2 sz T s f e) := by
  intro n
  induction n with
  | zero =>
    refine ⟨fun s h0 h1 h2 => ?_, fun s f e h0 h1 h2 h3 h4 => ?_⟩
    · rw [tle] at h1
      omega
    · have b := hC.2.1.2.2.2.1
      rw [tle] at h3 b
      rw [tlt] at h1
      rw [show (5 : Int32).toInt = 5 from rfl] at b
      omega
  | succ n ih =>
    have b := hC.2.1
    refine ⟨fun s h0 h1 h2 => ?_, fun s f e h0 h1 h2 h3 h4 => ?_⟩
    · rw [okl_X11_stuck_s0, hC.1.2.2]
      refine ⟨fun _ => trivial, fun c => ?_⟩
      exact ih.2 s 0 0 h0 (by grind) (by decide) b.2.2.1 (by rw [show (0 : Int32).toInt = 0 from rfl]; omega)
    · rw [okl_X11_stuck_s1, hC.1.2.1]
      by_cases c : T.1 79 1 ≤ e
      · have u := ih.1 (s + 1) (by grind) (by grind) (by
          have b5 := b.2.2.2.1
          rw [tle] at h3 b5
          rw [tinc (b := T.1 79 2) h1]
          rw [show (5 : Int32).toInt = 5 from rfl] at b5
          omega)
        grind
      · have u := fun f => ih.2 s f (e + 1) h0 h1 (by grind) (by grind) (by rw [tinc (b := T.1 79 1) (by grind)]; omega)
        have v := k_mayTake11 (sz := sz) hL hE e s (vp5 h2 (by grind))
        grind
theorem k_stuck10l {sz : Nat} {T : tT} (hL : ILe T) (hE : IEn T) (hC : ICi T) : ∀ (n : Nat) (e : Int32), 0 ≤ e → e ≤ T.1 79 2 → (T.1 79 2).toInt < e.toInt + n → okl_X10_stuck n sz T e := by
  intro n
  induction n with
  | zero => intro v h0 h1 h2; rw [tle] at h1; omega
  | succ n ih =>
    intro v h0 h1 h2
    have b := hC.2.1
    simp only [okl_X10_stuck]
    by_cases c : T.1 79 2 ≤ v
    · exact ⟨fun _ => trivial, fun q => absurd c q⟩
    · have u := ih (v + 1) (by grind) (by grind) (by rw [tinc (b := T.1 79 2) (by grind)]; omega)
      have u2 := k_can (sz := sz) hL hE hC v
      grind
theorem q_stuck {sz : Nat} {T : tT} (h : I6 T) : ok_X10_stuck sz T ∧ ok_X11_stuck sz T ∧ v_X10_stuck T = v_X11_stuck T := by
  obtain ⟨hC, hE, hL, hS, hA, hP⟩ := h
  have e : (T.1 79 2).toInt ≤ 9 := tle.mp hC.2.1.2.2.2.2.2
  have f1 : (T.1 79 2).toInt < (0 : Int32).toInt + (fu : Nat) := by
    rw [fu_eq]
    show (T.1 79 2).toInt < 0 + _
    omega
  have f2 : ((T.1 79 2).toInt - (0 : Int32).toInt) * 7 < (fu : Nat) := by
    rw [fu_eq]
    show ((T.1 79 2).toInt - 0) * 7 < _
    omega
  have b := hC.2.1.2.2.2.2.1
  exact ⟨k_stuck10l hL hE hC fu 0 (by decide) b f1, (k_stuckl hL hE hC fu).1 0 (by decide) b f2, ((l_stuckl hL hE hC fu).1 fu 0 (by decide) b f2 f1).symm⟩
