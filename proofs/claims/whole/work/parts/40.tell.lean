/-! mark, appeal -/
theorem e_can {sz : Nat} {T : tT} (h : I7 sz T) (e q v : Int32) : ok_X10_canBeMarked sz T e q v ∧ (v_X10_canBeMarked T e q v = 0 ∨ v_X10_canBeMarked T e q v = 1) ∧ (v_X10_canBeMarked T e q v ≠ 0 → (0 ≤ e ∧ e < T.1 69 0) ∧ (0 ≤ q ∧ q < 6) ∧ (0 ≤ v ∧ v ≤ 200)) ∧ (v_X10_canBeMarked T e q v ≠ 0 ↔ (0 ≤ e ∧ e < T.1 69 0) ∧ ¬ v_X11_spotOf T e < 0 ∧ ¬ q < 0 ∧ ¬ T.1 113 (v_X11_spotOf T e).toNatClampNeg ≤ q ∧ ¬ v < 0 ∧ ¬ T.1 114 (6 * v_X11_spotOf T e + q).toNatClampNeg < v) ∧ ((0 ≤ e ∧ e < T.1 69 0) → ok_X11_spotOf sz T e ∧ (¬ v_X11_spotOf T e < 0 → vp_in (v_X11_spotOf T e) 40 ∧ (¬ q < 0 → ¬ T.1 113 (v_X11_spotOf T e).toNatClampNeg ≤ q → vp_in (6 * v_X11_spotOf T e + q) 240))) := by
  have b := h.1.2.1.2.1
  by_cases c : 0 ≤ e ∧ e < T.1 69 0
  · have ve := vp40 (a := e) c.1 (by grind)
    have hh : ¬ v_X2_has T e = 0 := by unfold v_X2_has; grind
    obtain ⟨f1, f2, f3⟩ := fgE h ve
    unfold ok_X10_canBeMarked v_X10_canBeMarked
    rw [if_neg hh]
    rcases f3 with ⟨e1, e2⟩ | ⟨p, bb, j, e1, e2, b5, j8, e3, e4, e5, e6, e7⟩
    · rw [e1, e2]
      refine ⟨⟨fun _ => trivial, fun _ => ⟨f1, fun _ => trivial, fun p2 w => ?_⟩⟩, Or.inl rfl, fun w => absurd rfl w, ⟨fun w => absurd rfl w, fun w => absurd (by decide) w.2.1⟩, fun _ => ⟨f2, fun w => absurd (by decide) w⟩⟩
      cases w
    · obtain ⟨g1, g2, g3, g4, g5, g6, g7, g8, g9⟩ := e7
      have s0 : ¬ v_X11_spotOf T e < 0 := by rw [tlt, e2, show (0 : Int32).toInt = 0 from rfl]; omega
      have vs : vp_in (v_X11_spotOf T e) 40 := by rw [vp_in_iff]; omega
      have m6 : (T.1 (p + 3 + 7 * j) 2).toInt ≤ 6 := tle.mp g2.2.2
      have k6 : ((6 : Int32) * v_X11_spotOf T e).toInt = 6 * (8 * bb + j : Nat) := by
        rw [tmul (by rw [show (6 : Int32).toInt = 6 from rfl]; omega) (by rw [show (6 : Int32).toInt = 6 from rfl]; omega), show (6 : Int32).toInt = 6 from rfl, e2]
      rw [e1, tnN e2, ← g2.1]
      dsimp only
      by_cases d : 0 ≤ q ∧ q < T.1 (p + 3 + 7 * j) 2
      · obtain ⟨qn, hq⟩ : ∃ qn : Nat, q.toInt = qn := ⟨q.toInt.toNat, by have : 0 ≤ q.toInt := tle.mp d.1; omega⟩
        have q6 : (qn : Int) < (T.1 (p + 3 + 7 * j) 2).toInt := by have := tlt.mp d.2; omega
        have k7 : ((6 : Int32) * v_X11_spotOf T e + q).toInt = (6 * (8 * bb + j) + qn : Nat) := by
          rw [tadd (by omega) (by omega)]; omega
        have vq : vp_in q 6 := by rw [vp_in_iff]; omega
        have q0 : ¬ q < 0 := by grind
        have q1 : ¬ T.1 (p + 3 + 7 * j) 2 ≤ q := by grind
        have q2 : q < 6 := by rw [tlt, hq, show (6 : Int32).toInt = 6 from rfl]; omega
        have v6 : vp_in (6 * v_X11_spotOf T e + q) 240 := by rw [vp_in_iff]; omega
        obtain ⟨h1, h2, h3, h4⟩ := g6 qn q6
        rw [if_neg q0, if_neg q1, tnN k7, tnN hq, ← h1]
        unfold v_X10_isWithin
        refine ⟨⟨fun _ => trivial, fun _ => ⟨f1, fun _ => trivial, fun p2 w => ?_⟩⟩, ?_, ?_, ?_, fun _ => ⟨f2, fun _ => ⟨vs, fun _ _ => v6⟩⟩⟩
        · cases w
          exact ⟨e5, fun _ => trivial, fun _ => ⟨fun _ => trivial, fun _ => vq⟩⟩
        · grind
        · grind
        · grind
      · refine ⟨⟨fun _ => trivial, fun _ => ⟨f1, fun _ => trivial, fun p2 w => ?_⟩⟩, ?_, ?_, ?_, fun _ => ⟨f2, fun _ => ⟨vs, fun w w' => absurd ⟨by grind, by grind⟩ d⟩⟩⟩
        · cases w
          exact ⟨e5, fun _ => trivial, fun w => ⟨fun _ => trivial, fun w' => absurd ⟨by grind, by grind⟩ d⟩⟩
        · grind
        · grind
        · grind
  · have hh : v_X2_has T e = 0 := by unfold v_X2_has; grind
    unfold ok_X10_canBeMarked v_X10_canBeMarked
    rw [if_pos hh]
    exact ⟨⟨fun _ => trivial, fun w => absurd hh w⟩, Or.inl rfl, fun w => absurd rfl w, ⟨fun w => absurd rfl w, fun w => absurd w.1 c⟩, fun w => absurd w c⟩
/-- telling a mark: t is an examiner or the board (5) -/
theorem q_tell {sz : Nat} {T : tT} (h : I7 sz T) (t e q v : Int32) (t0 : 0 ≤ t) (ht : t = 5 ∨ t < T.1 79 1) (hc : v_X10_canBeMarked T e q v ≠ 0) : ok_X5_tell sz T t e q v ∧ ok_X11_tell sz (F_X5_tell T t e q v).2 e (rT t) q v ∧ (F_X5_tell T t e q v).2.1 0 = T.1 0 ∧ (F_X5_tell T t e q v).1 = (F_X11_tell (F_X5_tell T t e q v).2 e (rT t) q v).1 ∧ I7 sz (F_X11_tell (F_X5_tell T t e q v).2 e (rT t) q v).2 ∧ fr (wl [94, 95, 96, 97, 98, 99] [(93, 1)]) T (F_X5_tell T t e q v).2 := by
  have hI := h
  obtain ⟨⟨hC, hE, hL, hS, hA, hP⟩, hX⟩ := h
  obtain ⟨c1, c2, c3, c4, c5⟩ := e_can hI e q v
  obtain ⟨⟨e0, e1⟩, ⟨q0, q1⟩, ⟨v0, v1⟩⟩ := c3 hc
  obtain ⟨g1, g2, g3, g4, g5, g6⟩ := c4.mp hc
  obtain ⟨o1, o2⟩ := c5 g1
  obtain ⟨o3, o4⟩ := o2 g2
  have o5 := o4 g3 g4
  have ql := hL.1
  have b := hL.2.1
  have bc := hC.2.1
  have e40 : e < 40 := by have := hE.2.1; grind
  have t5 : t ≤ 5 := by grind
  by_cases c : T.1 93 1 < 200
  · have vn := vp200 (a := T.1 93 1) b.1 c
    have E1 : F_X5_tell T t e q v = (T.1 93 1 + 1 - 1, (tI (tI (tI (tI (tI (tI (tI T 94 (T.1 93 1).toNatClampNeg e) 95 (T.1 93 1).toNatClampNeg t) 96 (T.1 93 1).toNatClampNeg q) 97 (T.1 93 1).toNatClampNeg v) 98 (T.1 93 1).toNatClampNeg (T.1 93 0)) 99 (T.1 93 1).toNatClampNeg (-1)) 93 1 (T.1 93 1 + 1))) := by unfold F_X5_tell; rw [if_pos c]
    have k1 : ok_X5_tell sz T t e q v := ⟨fun _ => ⟨vn, vn, vn, vn, vn, vn⟩, fun w => absurd c w⟩
    rw [E1]
    dsimp only
    have i1 : ¬ v_X11_isEntry (tI (tI (tI (tI (tI (tI (tI T 94 (T.1 93 1).toNatClampNeg e) 95 (T.1 93 1).toNatClampNeg t) 96 (T.1 93 1).toNatClampNeg q) 97 (T.1 93 1).toNatClampNeg v) 98 (T.1 93 1).toNatClampNeg (T.1 93 0)) 99 (T.1 93 1).toNatClampNeg (-1)) 93 1 (T.1 93 1 + 1)) e = 0 := by
      unfold v_X11_isEntry
      rw [show (tI (tI (tI (tI (tI (tI (tI T 94 (T.1 93 1).toNatClampNeg e) 95 (T.1 93 1).toNatClampNeg t) 96 (T.1 93 1).toNatClampNeg q) 97 (T.1 93 1).toNatClampNeg v) 98 (T.1 93 1).toNatClampNeg (T.1 93 0)) 99 (T.1 93 1).toNatClampNeg (-1)) 93 1 (T.1 93 1 + 1)).1 105 48 = T.1 105 48 from rfl, hE.1]
      grind
    have n200 : ¬ T.1 93 1 = 200 := by grind
    have se : v_X11_spotOf (tI (tI (tI (tI (tI (tI (tI T 94 (T.1 93 1).toNatClampNeg e) 95 (T.1 93 1).toNatClampNeg t) 96 (T.1 93 1).toNatClampNeg q) 97 (T.1 93 1).toNatClampNeg v) 98 (T.1 93 1).toNatClampNeg (T.1 93 0)) 99 (T.1 93 1).toNatClampNeg (-1)) 93 1 (T.1 93 1 + 1)) e = v_X11_spotOf T e := rfl
    have E2 : F_X11_tell (tI (tI (tI (tI (tI (tI (tI T 94 (T.1 93 1).toNatClampNeg e) 95 (T.1 93 1).toNatClampNeg t) 96 (T.1 93 1).toNatClampNeg q) 97 (T.1 93 1).toNatClampNeg v) 98 (T.1 93 1).toNatClampNeg (T.1 93 0)) 99 (T.1 93 1).toNatClampNeg (-1)) 93 1 (T.1 93 1 + 1)) e (rT t) q v = (T.1 93 1 + 1 - 1, (tI (tI (tI (tI (tI (tI (tI (tI (tI (tI (tI (tI (tI (tI T 94 (T.1 93 1).toNatClampNeg e) 95 (T.1 93 1).toNatClampNeg t) 96 (T.1 93 1).toNatClampNeg q) 97 (T.1 93 1).toNatClampNeg v) 98 (T.1 93 1).toNatClampNeg (T.1 93 0)) 99 (T.1 93 1).toNatClampNeg (-1)) 93 1 (T.1 93 1 + 1)) 151 (T.1 93 1).toNatClampNeg e) 152 (T.1 93 1).toNatClampNeg (rT t)) 153 (T.1 93 1).toNatClampNeg q) 154 (T.1 93 1).toNatClampNeg v) 155 (T.1 93 1).toNatClampNeg (T.1 93 0)) 156 (T.1 93 1).toNatClampNeg (-1)) 105 70 (T.1 93 1 + 1))) := by
      unfold F_X11_tell
      rw [if_neg i1, se, if_neg g2, if_neg g3, show (tI (tI (tI (tI (tI (tI (tI T 94 (T.1 93 1).toNatClampNeg e) 95 (T.1 93 1).toNatClampNeg t) 96 (T.1 93 1).toNatClampNeg q) 97 (T.1 93 1).toNatClampNeg v) 98 (T.1 93 1).toNatClampNeg (T.1 93 0)) 99 (T.1 93 1).toNatClampNeg (-1)) 93 1 (T.1 93 1 + 1)).1 113 = T.1 113 from rfl, show (tI (tI (tI (tI (tI (tI (tI T 94 (T.1 93 1).toNatClampNeg e) 95 (T.1 93 1).toNatClampNeg t) 96 (T.1 93 1).toNatClampNeg q) 97 (T.1 93 1).toNatClampNeg v) 98 (T.1 93 1).toNatClampNeg (T.1 93 0)) 99 (T.1 93 1).toNatClampNeg (-1)) 93 1 (T.1 93 1 + 1)).1 114 = T.1 114 from rfl, if_neg g4, if_neg g5, if_neg g6, show (tI (tI (tI (tI (tI (tI (tI T 94 (T.1 93 1).toNatClampNeg e) 95 (T.1 93 1).toNatClampNeg t) 96 (T.1 93 1).toNatClampNeg q) 97 (T.1 93 1).toNatClampNeg v) 98 (T.1 93 1).toNatClampNeg (T.1 93 0)) 99 (T.1 93 1).toNatClampNeg (-1)) 93 1 (T.1 93 1 + 1)).1 105 70 = T.1 105 70 from rfl, show (tI (tI (tI (tI (tI (tI (tI T 94 (T.1 93 1).toNatClampNeg e) 95 (T.1 93 1).toNatClampNeg t) 96 (T.1 93 1).toNatClampNeg q) 97 (T.1 93 1).toNatClampNeg v) 98 (T.1 93 1).toNatClampNeg (T.1 93 0)) 99 (T.1 93 1).toNatClampNeg (-1)) 93 1 (T.1 93 1 + 1)).1 105 71 = T.1 105 71 from rfl, ql.1, ql.2, if_neg n200]
    have k2 : ok_X11_tell sz (tI (tI (tI (tI (tI (tI (tI T 94 (T.1 93 1).toNatClampNeg e) 95 (T.1 93 1).toNatClampNeg t) 96 (T.1 93 1).toNatClampNeg q) 97 (T.1 93 1).toNatClampNeg v) 98 (T.1 93 1).toNatClampNeg (T.1 93 0)) 99 (T.1 93 1).toNatClampNeg (-1)) 93 1 (T.1 93 1 + 1)) e (rT t) q v := by
      unfold ok_X11_tell
      rw [se, show (tI (tI (tI (tI (tI (tI (tI T 94 (T.1 93 1).toNatClampNeg e) 95 (T.1 93 1).toNatClampNeg t) 96 (T.1 93 1).toNatClampNeg q) 97 (T.1 93 1).toNatClampNeg v) 98 (T.1 93 1).toNatClampNeg (T.1 93 0)) 99 (T.1 93 1).toNatClampNeg (-1)) 93 1 (T.1 93 1 + 1)).1 105 70 = T.1 105 70 from rfl, ql.1]
      exact ⟨fun _ => trivial, fun _ => ⟨o1, fun _ => trivial, fun _ => ⟨fun _ => trivial, fun _ => ⟨o3, fun _ => trivial, fun _ => ⟨fun _ => trivial, fun _ => ⟨o5, fun _ => trivial, fun _ => ⟨fun _ => ⟨vn, vn, vn, vn, vn, vn⟩, fun _ => trivial⟩⟩⟩⟩⟩⟩⟩
    rw [E2]
    have f0 : fr (wl [94, 95, 96, 97, 98, 99] [(93, 1)]) T (tI (tI (tI (tI (tI (tI (tI T 94 (T.1 93 1).toNatClampNeg e) 95 (T.1 93 1).toNatClampNeg t) 96 (T.1 93 1).toNatClampNeg q) 97 (T.1 93 1).toNatClampNeg v) 98 (T.1 93 1).toNatClampNeg (T.1 93 0)) 99 (T.1 93 1).toNatClampNeg (-1)) 93 1 (T.1 93 1 + 1)) := (fr_I rfl (fr_I rfl (fr_I rfl (fr_I rfl (fr_I rfl (fr_I rfl (fr_I rfl fr_refl)))))))
    have f : fr (wl [94, 95, 96, 97, 98, 99, 151, 152, 153, 154, 155, 156] [(93, 1), (105, 70)]) T (tI (tI (tI (tI (tI (tI (tI (tI (tI (tI (tI (tI (tI (tI T 94 (T.1 93 1).toNatClampNeg e) 95 (T.1 93 1).toNatClampNeg t) 96 (T.1 93 1).toNatClampNeg q) 97 (T.1 93 1).toNatClampNeg v) 98 (T.1 93 1).toNatClampNeg (T.1 93 0)) 99 (T.1 93 1).toNatClampNeg (-1)) 93 1 (T.1 93 1 + 1)) 151 (T.1 93 1).toNatClampNeg e) 152 (T.1 93 1).toNatClampNeg (rT t)) 153 (T.1 93 1).toNatClampNeg q) 154 (T.1 93 1).toNatClampNeg v) 155 (T.1 93 1).toNatClampNeg (T.1 93 0)) 156 (T.1 93 1).toNatClampNeg (-1)) 105 70 (T.1 93 1 + 1)) := (fr_I rfl (fr_I rfl (fr_I rfl (fr_I rfl (fr_I rfl (fr_I rfl (fr_I rfl (fr_I rfl (fr_I rfl (fr_I rfl (fr_I rfl (fr_I rfl (fr_I rfl (fr_I rfl fr_refl))))))))))))))
    refine ⟨k1, k2, rfl, rfl, ⟨⟨ICi_fz (fz_of f rfl) hC, IEn_fz (fz_of f rfl) hE, ?_, ICe_fz (fz_of f rfl) hS, ITa_fz (fz_of f rfl) hA, IPl_fz (fz_of f rfl) hP⟩, ITx_fr f rfl hX⟩, f0⟩
    obtain ⟨a1, a2, a3, a4, a5, a6, a7, a8, a9, a10, a11, a12⟩ := hL
    refine ⟨⟨rfl, a1.2⟩, ⟨?_, ?_, a2.2.2⟩, ⟨va_upi a3.1, va_upi a3.2.1, va_upi a3.2.2.1, va_upi a3.2.2.2.1, va_upi a3.2.2.2.2⟩, ?_, ?_, ?_, ?_, ?_, ?_, ?_, ?_, ?_⟩
    · show 0 ≤ T.1 93 1 + 1
      grind
    · show T.1 93 1 + 1 ≤ 200
      grind
    · intro i
      show va_up (T.1 152) (T.1 93 1).toNatClampNeg (rT t) i = if va_up (T.1 95) (T.1 93 1).toNatClampNeg t i = 5 then -1 else va_up (T.1 95) (T.1 93 1).toNatClampNeg t i
      have := a4 i
      unfold va_up rT
      grind
    · intro i
      show 0 ≤ va_up (T.1 94) (T.1 93 1).toNatClampNeg e i ∧ va_up (T.1 94) (T.1 93 1).toNatClampNeg e i < 40
      have := a5 i
      unfold va_up
      grind
    · intro x h0 h1
      replace h1 : x < T.1 93 1 + 1 := h1
      show va_up (T.1 94) (T.1 93 1).toNatClampNeg e x.toNatClampNeg < T.1 69 0
      unfold va_up
      by_cases hx : x = T.1 93 1
      · rw [hx, if_pos rfl]; exact e1
      · rw [if_neg (tnc_ne h0 b.1 hx)]; exact a6 x h0 (by grind)
    · intro i
      show 0 ≤ va_up (T.1 95) (T.1 93 1).toNatClampNeg t i ∧ va_up (T.1 95) (T.1 93 1).toNatClampNeg t i ≤ 5
      have := a7 i
      unfold va_up
      grind
    · intro x h0 h1
      replace h1 : x < T.1 93 1 + 1 := h1
      show va_up (T.1 95) (T.1 93 1).toNatClampNeg t x.toNatClampNeg = 5 ∨ va_up (T.1 95) (T.1 93 1).toNatClampNeg t x.toNatClampNeg < T.1 79 1
      unfold va_up
      by_cases hx : x = T.1 93 1
      · rw [hx, if_pos rfl]; exact ht
      · rw [if_neg (tnc_ne h0 b.1 hx)]; exact a8 x h0 (by grind)
    · intro i
      show 0 ≤ va_up (T.1 96) (T.1 93 1).toNatClampNeg q i ∧ va_up (T.1 96) (T.1 93 1).toNatClampNeg q i < 6
      have := a9 i
      unfold va_up
      grind
    · intro i
      show 0 ≤ va_up (T.1 97) (T.1 93 1).toNatClampNeg v i ∧ va_up (T.1 97) (T.1 93 1).toNatClampNeg v i ≤ 200
      have := a10 i
      unfold va_up
      grind
    · intro i
      show 0 ≤ va_up (T.1 98) (T.1 93 1).toNatClampNeg (T.1 93 0) i ∧ va_up (T.1 98) (T.1 93 1).toNatClampNeg (T.1 93 0) i ≤ T.1 93 0
      have := a11 i
      unfold va_up
      grind
    · intro i
      show -1 ≤ va_up (T.1 99) (T.1 93 1).toNatClampNeg (-1) i ∧ va_up (T.1 99) (T.1 93 1).toNatClampNeg (-1) i ≤ T.1 93 0
      have := a12 i
      unfold va_up
      grind
  · have E1 : F_X5_tell T t e q v = (-1, T) := by unfold F_X5_tell; rw [if_neg c]
    have k1 : ok_X5_tell sz T t e q v := ⟨fun w => absurd w c, fun _ => trivial⟩
    have i1 : ¬ v_X11_isEntry T e = 0 := by
      unfold v_X11_isEntry
      rw [hE.1]
      grind
    have n200 : T.1 93 1 = 200 := by grind
    have E2 : F_X11_tell T e (rT t) q v = (-1, T) := by
      unfold F_X11_tell
      rw [if_neg i1, if_neg g2, if_neg g3, if_neg g4, if_neg g5, if_neg g6, ql.1, if_pos n200]
    have k2 : ok_X11_tell sz T e (rT t) q v := by
      unfold ok_X11_tell
      rw [ql.1]
      exact ⟨fun _ => trivial, fun _ => ⟨o1, fun _ => trivial, fun _ => ⟨fun _ => trivial, fun _ => ⟨o3, fun _ => trivial, fun _ => ⟨fun _ => trivial, fun _ => ⟨o5, fun _ => trivial, fun _ => ⟨fun w => absurd n200 w, fun _ => trivial⟩⟩⟩⟩⟩⟩⟩
    rw [E1]
    dsimp only
    rw [E2]
    exact ⟨k1, k2, rfl, rfl, hI, fr_refl⟩
/-- the reference refuses where the class does -/
theorem n_tell {sz : Nat} {T : tT} (h : I7 sz T) (t e q v : Int32) (hc : v_X10_canBeMarked T e q v = 0) : ok_X11_tell sz T e t q v ∧ F_X11_tell T e t q v = (-1, T) := by
  obtain ⟨⟨hC, hE, hL, hS, hA, hP⟩, hX⟩ := id h
  obtain ⟨c1, c2, c3, c4, c5⟩ := e_can h e q v
  have ng : ¬ ((0 ≤ e ∧ e < T.1 69 0) ∧ ¬ v_X11_spotOf T e < 0 ∧ ¬ q < 0 ∧ ¬ T.1 113 (v_X11_spotOf T e).toNatClampNeg ≤ q ∧ ¬ v < 0 ∧ ¬ T.1 114 (6 * v_X11_spotOf T e + q).toNatClampNeg < v) := fun w => (c4.mpr w) hc
  have vn : ¬ T.1 105 70 = 200 → vp_in (T.1 105 70) 200 := by
    intro w
    have b := hL.2.1
    rw [hL.1.1] at w ⊢
    exact vp200 b.1 (by grind)
  by_cases c : 0 ≤ e ∧ e < T.1 69 0
  · obtain ⟨o1, o2⟩ := c5 c
    have i1 : ¬ v_X11_isEntry T e = 0 := by
      unfold v_X11_isEntry
      rw [hE.1]
      grind
    constructor
    · unfold ok_X11_tell
      exact ⟨fun _ => trivial, fun _ => ⟨o1, fun _ => trivial, fun g2 => ⟨fun _ => trivial, fun g3 => ⟨(o2 g2).1, fun _ => trivial, fun g4 => ⟨fun _ => trivial, fun _ => ⟨(o2 g2).2 g3 g4, fun _ => trivial, fun _ => ⟨fun w => ⟨vn w, vn w, vn w, vn w, vn w, vn w⟩, fun _ => trivial⟩⟩⟩⟩⟩⟩⟩
    · unfold F_X11_tell
      rw [if_neg i1]
      by_cases g2 : v_X11_spotOf T e < 0
      · rw [if_pos g2]
      · rw [if_neg g2]
        by_cases g3 : q < 0
        · rw [if_pos g3]
        · rw [if_neg g3]
          by_cases g4 : T.1 113 (v_X11_spotOf T e).toNatClampNeg ≤ q
          · rw [if_pos g4]
          · rw [if_neg g4]
            by_cases g5 : v < 0
            · rw [if_pos g5]
            · rw [if_neg g5, if_pos (Classical.not_not.mp (fun g6 => ng ⟨c, g2, g3, g4, g5, g6⟩))]
  · have i1 : v_X11_isEntry T e = 0 := by
      unfold v_X11_isEntry
      rw [hE.1]
      grind
    constructor
    · exact ⟨fun _ => trivial, fun w => absurd i1 w⟩
    · unfold F_X11_tell
      rw [if_pos i1]
theorem q_mark {sz : Nat} {T : tT} (h : I7 sz T) (x0 x1 x2 x3 : Int32) : ok_X10_mark sz T x0 x1 x2 x3 ∧ ok_X11_mark sz (F_X10_mark T x0 x1 x2 x3).2 x0 x1 x2 x3 ∧ (F_X10_mark T x0 x1 x2 x3).2.1 0 = T.1 0 ∧ (F_X10_mark T x0 x1 x2 x3).1 = (F_X11_mark (F_X10_mark T x0 x1 x2 x3).2 x0 x1 x2 x3).1 ∧ I7 sz (F_X11_mark (F_X10_mark T x0 x1 x2 x3).2 x0 x1 x2 x3).2 := by
  have bc := h.1.1.2.1
  have qc := h.1.1.1
  by_cases c : 0 ≤ x1 ∧ x1 < T.1 79 1
  · have h10 : ¬ v_X1_hasExaminer T x1 = 0 := by unfold v_X1_hasExaminer; grind
    have rt : rT x1 = x1 := by unfold rT; grind
    obtain ⟨c1, c2⟩ := e_can h x0 x2 x3
    by_cases d : v_X10_canBeMarked T x0 x2 x3 = 0
    · obtain ⟨n1, n2⟩ := n_tell h x1 x0 x2 x3 d
      have h11 : ¬ v_X11_isExaminer T x1 = 0 := by unfold v_X11_isExaminer; grind
      have E1 : F_X10_mark T x0 x1 x2 x3 = (-1, T) := by unfold F_X10_mark; rw [if_neg h10, if_pos d]
      have E2 : F_X11_mark T x0 x1 x2 x3 = (-1, T) := by unfold F_X11_mark; rw [if_neg h11, n2]
      rw [E1]
      dsimp only
      rw [E2]
      exact ⟨⟨fun _ => trivial, fun _ => ⟨c1, fun _ => trivial, fun w => absurd d w⟩⟩, ⟨fun _ => trivial, fun _ => ⟨n1, trivial⟩⟩, rfl, rfl, h⟩
    · obtain ⟨t1, t2, t3, t4, t5, t6⟩ := q_tell h x1 x0 x2 x3 c.1 (Or.inr c.2) d
      rw [rt] at t2 t4 t5
      have E1 : F_X10_mark T x0 x1 x2 x3 = F_X5_tell T x1 x0 x2 x3 := by unfold F_X10_mark; rw [if_neg h10, if_neg d]
      rw [E1]
      have h11 : ¬ v_X11_isExaminer (F_X5_tell T x1 x0 x2 x3).2 x1 = 0 := by
        unfold v_X11_isExaminer
        rw [fr_i t6 (k := 105) (i := 57) rfl]
        grind
      have E2 : F_X11_mark (F_X5_tell T x1 x0 x2 x3).2 x0 x1 x2 x3 = F_X11_tell (F_X5_tell T x1 x0 x2 x3).2 x0 x1 x2 x3 := by unfold F_X11_mark; rw [if_neg h11]
      rw [E2]
      exact ⟨⟨fun _ => trivial, fun _ => ⟨c1, fun _ => trivial, fun _ => ⟨t1, trivial⟩⟩⟩, ⟨fun _ => trivial, fun _ => ⟨t2, trivial⟩⟩, t3, t4, t5⟩
  · have h10 : v_X1_hasExaminer T x1 = 0 := by unfold v_X1_hasExaminer; grind
    have h11 : v_X11_isExaminer T x1 = 0 := by unfold v_X11_isExaminer; grind
    have E1 : F_X10_mark T x0 x1 x2 x3 = (-1, T) := by unfold F_X10_mark; rw [if_pos h10]
    have E2 : F_X11_mark T x0 x1 x2 x3 = (-1, T) := by unfold F_X11_mark; rw [if_pos h11]
    rw [E1]
    dsimp only
    rw [E2]
    exact ⟨⟨fun _ => trivial, fun w => absurd h10 w⟩, ⟨fun _ => trivial, fun w => absurd h11 w⟩, rfl, rfl, h⟩
theorem known_rng {T : tT} (hL : ILe T) (e q d : Int32) : v_X5_knownPoints T e q d = -1 ∨ (0 ≤ v_X5_knownPoints T e q d ∧ v_X5_knownPoints T e q d ≤ 200) := by
  have a10 := hL.2.2.2.2.2.2.2.2.2.1
  have w1 := a10 (v_X5_lastOf T (v_X5_mainOf T e d) e q d).toNatClampNeg
  have w2 := a10 (v_X5_lastOf T 5 e q d).toNatClampNeg
  unfold v_X5_knownPoints
  grind
theorem known11_cg {T T' : tT} (h : T'.1 105 48 = T.1 105 48 ∧ T'.1 105 70 = T.1 105 70 ∧ T'.1 151 = T.1 151 ∧ T'.1 152 = T.1 152 ∧ T'.1 153 = T.1 153 ∧ T'.1 154 = T.1 154 ∧ T'.1 155 = T.1 155 ∧ T'.1 156 = T.1 156) (e q d : Int32) : v_X11_known T' e q d = v_X11_known T e q d := by
  obtain ⟨h0, h1, h2, h3, h4, h5, h6, h7⟩ := h
  have m : v_X11_main T' e d = v_X11_main T e d := by
    have l : ∀ n v, vl_X11_main n T' e d v = vl_X11_main n T e d v := by
      intro n
      induction n with
      | zero => intro v; rfl
      | succ n ih =>
        intro v
        rw [vl_X11_main_s, vl_X11_main_s]
        unfold v_X11_isKnown
        rw [h1, h2, h3, h6, h7, ih]
    exact l fu 0
  unfold v_X11_known v_X11_isEntry
  rw [h0, m, lastOf11_cg ⟨h1, h2, h3, h4, h5, h6, h7⟩, lastOf11_cg ⟨h1, h2, h3, h4, h5, h6, h7⟩]
theorem k_known11' {sz : Nat} {T : tT} (hb : 0 ≤ T.1 105 70 ∧ T.1 105 70 ≤ 200) (x0 x1 x2 : Int32) : ok_X11_known sz T x0 x1 x2 := by
  have fm : (T.1 105 70).toInt < (0 : Int32).toInt + (fu : Nat) := by
    have e : (T.1 105 70).toInt ≤ 200 := tle.mp hb.2
    rw [fu_eq]
    show (T.1 105 70).toInt < 0 + _
    omega
  have km : ∀ (n : Nat) (v : Int32), 0 ≤ v → v ≤ T.1 105 70 → (T.1 105 70).toInt < v.toInt + n → okl_X11_main n sz T x0 x2 v := by
    intro n
    induction n with
    | zero => intro v h0 h1 h2; rw [tle] at h1; omega
    | succ n ih =>
      intro v h0 h1 h2
      simp only [okl_X11_main]
      by_cases c : T.1 105 70 ≤ v
      · exact ⟨fun _ => trivial, fun q => absurd c q⟩
      · have u := ih (v + 1) (by grind) (by grind) (by rw [tinc (b := T.1 105 70) (by grind)]; omega)
        have u2 := vp200 (a := v) h0 (by grind)
        have u3 := k_isKnown11 (sz := sz) (T := T) (x := v) (d := x2) h0 (by grind)
        grind
  have kl : ∀ (t : Int32) (n : Nat) (v a : Int32), 0 ≤ v → v ≤ T.1 105 70 → (T.1 105 70).toInt < v.toInt + n → okl_X11_lastOf n sz T x0 x1 t x2 a v := by
    intro t n
    induction n with
    | zero => intro v a h0 h1 h2; rw [tle] at h1; omega
    | succ n ih =>
      intro v a h0 h1 h2
      simp only [okl_X11_lastOf]
      by_cases c : T.1 105 70 ≤ v
      · exact ⟨fun _ => trivial, fun q => absurd c q⟩
      · have u := fun a => ih (v + 1) a (by grind) (by grind) (by rw [tinc (b := T.1 105 70) (by grind)]; omega)
        have u2 := vp200 (a := v) h0 (by grind)
        have u3 := k_isKnown11 (sz := sz) (T := T) (x := v) (d := x2) h0 (by grind)
        grind
  have u1 : ok_X11_lastOf sz T x0 x1 (-1) x2 := kl (-1) fu 0 _ (by decide) hb.1 fm
  have u2 : ok_X11_lastOf sz T x0 x1 (v_X11_main T x0 x2) x2 := kl _ fu 0 _ (by decide) hb.1 fm
  have u3 : ok_X11_main sz T x0 x2 := km fu 0 (by decide) hb.1 fm
  unfold ok_X11_known
  grind
theorem q_appeal {sz : Nat} {T : tT} (h : I7 sz T) (x0 x1 x2 : Int32) : ok_X10_appeal sz T x0 x1 x2 ∧ ok_X11_appeal sz (F_X10_appeal T x0 x1 x2).2 x0 x1 x2 ∧ (F_X10_appeal T x0 x1 x2).2.1 0 = T.1 0 ∧ (F_X10_appeal T x0 x1 x2).1 = (F_X11_appeal (F_X10_appeal T x0 x1 x2).2 x0 x1 x2).1 ∧ I7 sz (F_X11_appeal (F_X10_appeal T x0 x1 x2).2 x0 x1 x2).2 := by
  obtain ⟨⟨hC, hE, hL, hS, hA, hP⟩, hX⟩ := id h
  obtain ⟨c1, c2⟩ := e_can h x0 x1 x2
  have kk := k_known5 (sz := sz) hL x0 x1 (T.1 93 0)
  have kk2 := k_known11 (sz := sz) hL x0 x1 (T.1 93 0)
  have ek := e_known hL hE.1 x0 x1 (T.1 93 0)
  have rk := known_rng hL x0 x1 (T.1 93 0)
  have d71 := hL.1.2
  by_cases d : v_X10_canBeMarked T x0 x1 x2 = 0
  · obtain ⟨n1, n2⟩ := n_tell h (-1) x0 x1 x2 d
    have E1 : F_X10_appeal T x0 x1 x2 = (-1, T) := by unfold F_X10_appeal; rw [if_pos d]
    have E2 : F_X11_appeal T x0 x1 x2 = (-1, T) := by
      unfold F_X11_appeal
      rw [n2, ite_self]
    have o2 : ok_X11_appeal sz T x0 x1 x2 := by
      unfold ok_X11_appeal
      rw [d71]
      exact ⟨kk2, fun _ => ⟨n1, trivial⟩, fun _ => trivial⟩
    rw [E1]
    dsimp only
    rw [E2]
    exact ⟨⟨c1, fun _ => trivial, fun w => absurd d w⟩, o2, rfl, rfl, h⟩
  · by_cases g : v_X5_knownPoints T x0 x1 (T.1 93 0) = -1
    · have E1 : F_X10_appeal T x0 x1 x2 = (-1, T) := by unfold F_X10_appeal; rw [if_neg d, if_pos g]
      have ng : ¬ 0 ≤ v_X11_known T x0 x1 (T.1 105 71) := by rw [d71, ← ek, g]; decide
      have E2 : F_X11_appeal T x0 x1 x2 = (-1, T) := by
        unfold F_X11_appeal
        rw [if_neg ng]
      have o2 : ok_X11_appeal sz T x0 x1 x2 := ⟨by rw [d71]; exact kk2, fun w => absurd w ng, fun _ => trivial⟩
      rw [E1]
      dsimp only
      rw [E2]
      exact ⟨⟨c1, fun _ => trivial, fun _ => ⟨kk, fun _ => trivial, fun w => absurd g w⟩⟩, o2, rfl, rfl, h⟩
    · obtain ⟨t1, t2, t3, t4, t5, t6⟩ := q_tell h 5 x0 x1 x2 (by decide) (Or.inl rfl) d
      rw [show rT 5 = -1 from rfl] at t2 t4 t5
      have E1 : F_X10_appeal T x0 x1 x2 = F_X5_tell T 5 x0 x1 x2 := by unfold F_X10_appeal; rw [if_neg d, if_neg g]
      rw [E1]
      have cg := known11_cg (T := T) (T' := (F_X5_tell T 5 x0 x1 x2).2) ⟨fr_i t6 rfl, fr_i t6 rfl, fr_ri t6 (fun _ => rfl), fr_ri t6 (fun _ => rfl), fr_ri t6 (fun _ => rfl), fr_ri t6 (fun _ => rfl), fr_ri t6 (fun _ => rfl), fr_ri t6 (fun _ => rfl)⟩ x0 x1 (T.1 93 0)
      have d71' : (F_X5_tell T 5 x0 x1 x2).2.1 105 71 = T.1 93 0 := by rw [fr_i t6 (k := 105) (i := 71) rfl]; exact d71
      have kg : 0 ≤ v_X11_known (F_X5_tell T 5 x0 x1 x2).2 x0 x1 ((F_X5_tell T 5 x0 x1 x2).2.1 105 71) := by
        rw [d71', cg, ← ek]
        grind
      have E2 : F_X11_appeal (F_X5_tell T 5 x0 x1 x2).2 x0 x1 x2 = F_X11_tell (F_X5_tell T 5 x0 x1 x2).2 x0 (-1) x1 x2 := by
        unfold F_X11_appeal
        rw [if_pos kg]
      rw [E2]
      have okn : ok_X11_known sz (F_X5_tell T 5 x0 x1 x2).2 x0 x1 ((F_X5_tell T 5 x0 x1 x2).2.1 105 71) := k_known11' (by rw [fr_i t6 (k := 105) (i := 70) rfl, hL.1.1]; exact ⟨hL.2.1.1, hL.2.1.2.1⟩) _ _ _
      exact ⟨⟨c1, fun _ => trivial, fun _ => ⟨kk, fun _ => trivial, fun _ => ⟨t1, trivial⟩⟩⟩, ⟨okn, fun _ => ⟨t2, trivial⟩, fun _ => trivial⟩, t3, t4, t5⟩
