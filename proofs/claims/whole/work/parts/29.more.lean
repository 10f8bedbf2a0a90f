/-! more calls that only touch counts and rows -/
theorem tadd {a b : Int32} (h1 : -2147483648 ≤ a.toInt + b.toInt) (h2 : a.toInt + b.toInt < 2147483648) : (a + b).toInt = a.toInt + b.toInt := by
  rw [Int32.toInt_add]
  exact Int.bmod_eq_of_le (by omega) (by omega)
theorem tmul {a b : Int32} (h1 : -2147483648 ≤ a.toInt * b.toInt) (h2 : a.toInt * b.toInt < 2147483648) : (a * b).toInt = a.toInt * b.toInt := by
  rw [Int32.toInt_mul]
  exact Int.bmod_eq_of_le (by omega) (by omega)
theorem tsub {a b : Int32} (h1 : -2147483648 ≤ a.toInt - b.toInt) (h2 : a.toInt - b.toInt < 2147483648) : (a - b).toInt = a.toInt - b.toInt := by
  rw [Int32.toInt_sub]
  exact Int.bmod_eq_of_le (by omega) (by omega)
theorem tle {a b : Int32} : a ≤ b ↔ a.toInt ≤ b.toInt := Int32.le_iff_toInt_le
theorem tlt {a b : Int32} : a < b ↔ a.toInt < b.toInt := Int32.lt_iff_toInt_lt
theorem teq {a b : Int32} : a = b ↔ a.toInt = b.toInt := Int32.toInt_inj.symm
theorem tncd (a : Int32) : a.toNatClampNeg = a.toInt.toNat := rfl
/-- an index a * N + b -/
theorem tix (N : Int32) (A B : Nat) {x y : Int32} (hN : 0 ≤ N.toInt) (hAB : (A : Int) * N.toInt + B < 2147483648) (h0 : 0 ≤ x) (h1 : x.toInt < A) (h2 : 0 ≤ y) (h3 : y.toInt < B) : (x * N + y).toInt = x.toInt * N.toInt + y.toInt := by
  rw [tle] at h0 h2
  have z : (0 : Int32).toInt = 0 := rfl
  have m1 : x.toInt * N.toInt ≤ A * N.toInt := Int.mul_le_mul_of_nonneg_right (by omega) hN
  have m0 : 0 ≤ x.toInt * N.toInt := Int.mul_nonneg (by omega) hN
  have p : (x * N).toInt = x.toInt * N.toInt := tmul (by omega) (by omega)
  rw [tadd (by omega) (by omega), p]
theorem tix8 {x y : Int32} (h0 : 0 ≤ x) (h1 : x < 8) (h2 : 0 ≤ y) (h3 : y < 8) : (x * 8 + y).toNatClampNeg = 8 * x.toNatClampNeg + y.toNatClampNeg ∧ vp_in (x * 8 + y) 64 := by
  have e : (x * 8 + y).toInt = x.toInt * 8 + y.toInt := tix 8 8 8 (by decide) (by decide) h0 (tlt.mp h1) h2 (tlt.mp h3)
  have a0 : 0 ≤ x.toInt := tle.mp h0
  have a1 : x.toInt < 8 := tlt.mp h1
  have a2 : 0 ≤ y.toInt := tle.mp h2
  have a3 : y.toInt < 8 := tlt.mp h3
  rw [vp_in_iff]
  simp only [tncd]
  omega
theorem tnc8 {x : Int32} (h0 : 0 ≤ x) (h1 : x < 8) : x.toNatClampNeg < 8 := by
  have a0 : 0 ≤ x.toInt := tle.mp h0
  have a1 : x.toInt < 8 := tlt.mp h1
  rw [tncd]
  omega
theorem wy_sym {f : Nat → Int32} {p q : Nat} {v : Int32} (hp : p < 8) (hq : q < 8) (h : ∀ a b, a < 8 → b < 8 → f (8 * a + b) = f (8 * b + a)) (i j : Nat) (hi : i < 8) (hj : j < 8) : va_up (va_up f (8 * p + q) v) (8 * q + p) v (8 * i + j) = va_up (va_up f (8 * p + q) v) (8 * q + p) v (8 * j + i) := by
  have e := h i j hi hj
  unfold va_up
  by_cases c1 : i = q ∧ j = p
  · rw [if_pos (by omega : 8 * i + j = 8 * q + p)]
    by_cases c2 : 8 * j + i = 8 * q + p
    · rw [if_pos c2]
    · rw [if_neg c2, if_pos (by omega)]
  · rw [if_neg (by omega : ¬ 8 * i + j = 8 * q + p)]
    by_cases c2 : i = p ∧ j = q
    · rw [if_pos (by omega : 8 * i + j = 8 * p + q), if_pos (by omega : 8 * j + i = 8 * q + p)]
    · rw [if_neg (by omega : ¬ 8 * i + j = 8 * p + q), if_neg (by omega : ¬ 8 * j + i = 8 * q + p), if_neg (by omega : ¬ 8 * j + i = 8 * p + q)]
      exact e
theorem wy_dia {f : Nat → Int32} {p q : Nat} {v : Int32} (hp : p < 8) (hq : q < 8) (hn : p ≠ q) (h : ∀ a, a < 8 → f (8 * a + a) = 0) (i : Nat) (hi : i < 8) : va_up (va_up f (8 * p + q) v) (8 * q + p) v (8 * i + i) = 0 := by
  unfold va_up
  rw [if_neg (by omega), if_neg (by omega)]
  exact h i hi
theorem way_inv {T : tT} {n1 n2 p q : Nat} {v : Int32} (hC : ICi T) (v0 : 0 ≤ v) (v1 : v ≤ 600) (p0 : p < 8) (p1 : q < 8) (p2 : p ≠ q) (d1 : n1 = 8 * p + q) (d2 : n2 = 8 * q + p) : ICi (tI (tI (tI (tI T 84 n1 v) 84 n2 v) 142 n1 v) 142 n2 v) := by
  obtain ⟨a1, a2, a3, a4, a5, a6, a7, a8, a9, a10, a11, a12⟩ := hC
  refine ⟨a1, a2, ⟨a3.1, a3.2.1, a3.2.2.1, a3.2.2.2.1, ?_⟩, a4, a5, a6, a7, ?_, a9, a10, ?_, ?_⟩
  · show va_up (va_up (T.1 142) n1 v) n2 v = va_up (va_up (T.1 84) n1 v) n2 v
    rw [a3.2.2.2.2]
  · intro i
    show 0 ≤ va_up (va_up (T.1 84) n1 v) n2 v i ∧ va_up (va_up (T.1 84) n1 v) n2 v i ≤ 600
    unfold va_up
    have := a8 i
    grind
  · intro i j hi hj
    show va_up (va_up (T.1 84) n1 v) n2 v (8 * i + j) = va_up (va_up (T.1 84) n1 v) n2 v (8 * j + i)
    rw [d1, d2]
    exact wy_sym p0 p1 a11 i j hi hj
  · intro i hi
    show va_up (va_up (T.1 84) n1 v) n2 v (8 * i + i) = 0
    rw [d1, d2]
    exact wy_dia p0 p1 p2 a12 i hi
theorem tix4 {x y : Int32} (h0 : 0 ≤ x) (h1 : x < 40) (h2 : 0 ≤ y) (h3 : y < 4) : (x * 4 + y).toNatClampNeg = 4 * x.toNatClampNeg + y.toNatClampNeg ∧ vp_in (x * 4 + y) 160 := by
  have e : (x * 4 + y).toInt = x.toInt * 4 + y.toInt := tix 4 40 4 (by decide) (by decide) h0 (tlt.mp h1) h2 (tlt.mp h3)
  have a0 : 0 ≤ x.toInt := tle.mp h0
  have a1 : x.toInt < 40 := tlt.mp h1
  have a2 : 0 ≤ y.toInt := tle.mp h2
  have a3 : y.toInt < 4 := tlt.mp h3
  rw [vp_in_iff]
  simp only [tncd]
  omega
theorem q_way {sz : Nat} {T : tT} (h : I6 T) (x0 x1 x2 : Int32) : ok_X10_way sz T x0 x1 x2 ∧ ok_X11_way sz (F_X10_way T x0 x1 x2).2 x0 x1 x2 ∧ (F_X10_way T x0 x1 x2).2.1 0 = T.1 0 ∧ (F_X10_way T x0 x1 x2).1 = (F_X11_way (F_X10_way T x0 x1 x2).2 x0 x1 x2).1 ∧ I6 (F_X11_way (F_X10_way T x0 x1 x2).2 x0 x1 x2).2 ∧ fr (wl [84, 142] []) T (F_X11_way (F_X10_way T x0 x1 x2).2 x0 x1 x2).2 := by
  obtain ⟨hC, hE, hL, hS, hA, hP⟩ := h
  have q := hC.1
  have b := hC.2.1
  by_cases c : (0 ≤ x0 ∧ x0 < T.1 79 0) ∧ (0 ≤ x1 ∧ x1 < T.1 79 0) ∧ x0 ≠ x1 ∧ 0 ≤ x2 ∧ x2 ≤ 600
  · obtain ⟨⟨c1, c2⟩, ⟨c3, c4⟩, c5, c6, c7⟩ := c
    have d1 := tix8 (x := x0) (y := x1) c1 (by grind) c3 (by grind)
    have d2 := tix8 (x := x1) (y := x0) c3 (by grind) c1 (by grind)
    have k1 : 8 * x0 + x1 = x0 * 8 + x1 := by rw [Int32.mul_comm]
    have k2 : 8 * x1 + x0 = x1 * 8 + x0 := by rw [Int32.mul_comm]
    have e1 : F_X10_way T x0 x1 x2 = (1, (tI (tI T 84 (x0 * 8 + x1).toNatClampNeg x2) 84 (x1 * 8 + x0).toNatClampNeg x2)) := by
      unfold F_X10_way F_X1_setWay v_X1_hasCentre v_X10_isWithin; grind
    have o1 : ok_X10_way sz T x0 x1 x2 := by
      unfold ok_X10_way ok_X1_setWay; grind
    rw [e1]
    have e2 : F_X11_way (tI (tI T 84 (x0 * 8 + x1).toNatClampNeg x2) 84 (x1 * 8 + x0).toNatClampNeg x2) x0 x1 x2 = (1, (tI (tI (tI (tI T 84 (x0 * 8 + x1).toNatClampNeg x2) 84 (x1 * 8 + x0).toNatClampNeg x2) 142 (8 * x0 + x1).toNatClampNeg x2) 142 (8 * x1 + x0).toNatClampNeg x2)) := by
      unfold F_X11_way v_X11_isCentre
      rw [show (tI (tI T 84 (x0 * 8 + x1).toNatClampNeg x2) 84 (x1 * 8 + x0).toNatClampNeg x2).1 105 56 = T.1 105 56 from rfl]
      have z0 : ¬ x0 < 0 := by grind
      have z1 : ¬ x1 < 0 := by grind
      have z2 : ¬ x2 < 0 := by grind
      have z3 : ¬ T.1 105 56 ≤ x0 := by grind
      have z4 : ¬ T.1 105 56 ≤ x1 := by grind
      rw [if_neg z0, if_neg z1, if_neg z3, if_neg z4, if_neg (by decide), if_neg (by decide), if_neg c5, if_neg z2, if_pos c7]
    have o2 : ok_X11_way sz (tI (tI T 84 (x0 * 8 + x1).toNatClampNeg x2) 84 (x1 * 8 + x0).toNatClampNeg x2) x0 x1 x2 := by
      unfold ok_X11_way
      rw [k1, k2]
      grind
    rw [e2]
    have f : fr (wl [84, 142] []) T (tI (tI (tI (tI T 84 (x0 * 8 + x1).toNatClampNeg x2) 84 (x1 * 8 + x0).toNatClampNeg x2) 142 (8 * x0 + x1).toNatClampNeg x2) 142 (8 * x1 + x0).toNatClampNeg x2) := (fr_I rfl (fr_I rfl (fr_I rfl (fr_I rfl fr_refl))))
    refine ⟨o1, o2, rfl, rfl, ⟨?_, IEn_fz (fz_of f rfl) hE, ILe_fz (fz_of f rfl) hL, ICe_fz (fz_of f rfl) hS, ITa_fz (fz_of f rfl) hA, IPl_fz (fz_of f rfl) hP⟩, f⟩
    have p0 : x0.toNatClampNeg < 8 := tnc8 c1 (by grind)
    have p1 : x1.toNatClampNeg < 8 := tnc8 c3 (by grind)
    have p2 := tnc_ne c1 c3 c5
    rw [k1, k2]
    exact way_inv hC c6 c7 p0 p1 p2 d1.1 d2.1
  · have e1 : F_X10_way T x0 x1 x2 = (0, T) := by
      unfold F_X10_way v_X1_hasCentre v_X10_isWithin; grind
    have e2 : F_X11_way T x0 x1 x2 = (0, T) := by
      unfold F_X11_way v_X11_isCentre; grind
    have o1 : ok_X10_way sz T x0 x1 x2 := by
      unfold ok_X10_way v_X1_hasCentre v_X10_isWithin; grind
    have o2 : ok_X11_way sz T x0 x1 x2 := by
      unfold ok_X11_way v_X11_isCentre; grind
    rw [e1, e2]
    exact ⟨o1, o2, rfl, rfl, ⟨hC, hE, hL, hS, hA, hP⟩, fr_refl⟩
theorem q_session {sz : Nat} {T : tT} (h : I6 T) (x0 x1 : Int32) : ok_X10_session sz T x0 x1 ∧ ok_X11_session sz (F_X10_session T x0 x1).2 x0 x1 ∧ (F_X10_session T x0 x1).2.1 0 = T.1 0 ∧ (F_X10_session T x0 x1).1 = (F_X11_session (F_X10_session T x0 x1).2 x0 x1).1 ∧ I6 (F_X11_session (F_X10_session T x0 x1).2 x0 x1).2 ∧ fr (wl [82, 83, 145, 146] [(79, 2), (105, 58)]) T (F_X11_session (F_X10_session T x0 x1).2 x0 x1).2 := by
  obtain ⟨hC, hE, hL, hS, hA, hP⟩ := h
  have q := hC.1
  have b := hC.2.1
  by_cases c : (0 ≤ x0 ∧ x0 < T.1 79 0) ∧ (0 ≤ x1 ∧ x1 ≤ 99) ∧ T.1 79 2 < 9
  · obtain ⟨⟨c1, c2⟩, ⟨c3, c4⟩, c5⟩ := c
    have v := vp9 (a := T.1 79 2) (by grind) c5
    have e1 : F_X10_session T x0 x1 = (T.1 79 2 + 1 - 1, (tI (tI (tI T 82 (T.1 79 2).toNatClampNeg x0) 83 (T.1 79 2).toNatClampNeg x1) 79 2 (T.1 79 2 + 1))) := by
      unfold F_X10_session F_X1_addSession v_X1_hasCentre v_X10_isWithin; grind
    have o1 : ok_X10_session sz T x0 x1 := by
      unfold ok_X10_session ok_X1_addSession; grind
    rw [e1]
    have e2 : F_X11_session (tI (tI (tI T 82 (T.1 79 2).toNatClampNeg x0) 83 (T.1 79 2).toNatClampNeg x1) 79 2 (T.1 79 2 + 1)) x0 x1 = (T.1 79 2 + 1 - 1, (tI (tI (tI (tI (tI (tI T 82 (T.1 79 2).toNatClampNeg x0) 83 (T.1 79 2).toNatClampNeg x1) 79 2 (T.1 79 2 + 1)) 145 (T.1 79 2).toNatClampNeg x0) 146 (T.1 79 2).toNatClampNeg x1) 105 58 (T.1 79 2 + 1))) := by
      unfold F_X11_session v_X11_isCentre
      rw [show (tI (tI (tI T 82 (T.1 79 2).toNatClampNeg x0) 83 (T.1 79 2).toNatClampNeg x1) 79 2 (T.1 79 2 + 1)).1 105 56 = T.1 105 56 from rfl, show (tI (tI (tI T 82 (T.1 79 2).toNatClampNeg x0) 83 (T.1 79 2).toNatClampNeg x1) 79 2 (T.1 79 2 + 1)).1 105 58 = T.1 105 58 from rfl]
      grind
    have o2 : ok_X11_session sz (tI (tI (tI T 82 (T.1 79 2).toNatClampNeg x0) 83 (T.1 79 2).toNatClampNeg x1) 79 2 (T.1 79 2 + 1)) x0 x1 := by
      unfold ok_X11_session
      rw [show (tI (tI (tI T 82 (T.1 79 2).toNatClampNeg x0) 83 (T.1 79 2).toNatClampNeg x1) 79 2 (T.1 79 2 + 1)).1 105 58 = T.1 105 58 from rfl]
      grind
    rw [e2]
    have f : fr (wl [82, 83, 145, 146] [(79, 2), (105, 58)]) T (tI (tI (tI (tI (tI (tI T 82 (T.1 79 2).toNatClampNeg x0) 83 (T.1 79 2).toNatClampNeg x1) 79 2 (T.1 79 2 + 1)) 145 (T.1 79 2).toNatClampNeg x0) 146 (T.1 79 2).toNatClampNeg x1) 105 58 (T.1 79 2 + 1)) := (fr_I rfl (fr_I rfl (fr_I rfl (fr_I rfl (fr_I rfl (fr_I rfl fr_refl))))))
    refine ⟨o1, o2, rfl, rfl, ⟨?_, IEn_fz (fz_of f rfl) hE, ILe_fz (fz_of f rfl) hL, ICe_fz (fz_of f rfl) hS, ITa_fz (fz_of f rfl) hA, ?_⟩, f⟩
    · obtain ⟨a1, a2, a3, a4, a5, a6, a7, a8, a9, a10, a11, a12⟩ := hC
      refine ⟨⟨a1.1, a1.2.1, rfl⟩, ⟨a2.1, a2.2.1, a2.2.2.1, a2.2.2.2.1, ?_, ?_⟩, ⟨a3.1, a3.2.1, va_upi a3.2.2.1, va_upi a3.2.2.2.1, a3.2.2.2.2⟩, a4, a5, ?_, ?_, a8, ?_, a10, a11, a12⟩
      · show 0 ≤ T.1 79 2 + 1
        grind
      · show T.1 79 2 + 1 ≤ 9
        grind
      · intro i
        show 0 ≤ va_up (T.1 82) _ x0 i ∧ va_up (T.1 82) _ x0 i < 8
        unfold va_up
        have := a6 i
        grind
      · intro i
        show 0 ≤ va_up (T.1 83) _ x1 i ∧ va_up (T.1 83) _ x1 i < 100
        unfold va_up
        have := a7 i
        grind
      · intro x h0 h1
        replace h1 : x < T.1 79 2 + 1 := h1
        show va_up (T.1 82) (T.1 79 2).toNatClampNeg x0 x.toNatClampNeg < T.1 79 0
        unfold va_up
        by_cases hx : x = T.1 79 2
        · rw [hx, if_pos rfl]; exact c2
        · rw [if_neg (tnc_ne h0 (by grind) hx)]; exact a9 x h0 (by grind)
    · obtain ⟨a1, a2, a3, a4⟩ := hP
      refine ⟨⟨a1.1, ?_⟩, a2, a3, a4⟩
      show T.1 105 63 ≤ T.1 79 2 + 1
      grind
  · have e1 : F_X10_session T x0 x1 = (-1, T) := by
      unfold F_X10_session F_X1_addSession v_X1_hasCentre v_X10_isWithin; grind
    have e2 : F_X11_session T x0 x1 = (-1, T) := by
      unfold F_X11_session v_X11_isCentre; grind
    have o1 : ok_X10_session sz T x0 x1 := by
      have := vp9 (a := T.1 79 2) (by grind)
      unfold ok_X10_session ok_X1_addSession; grind
    have o2 : ok_X11_session sz T x0 x1 := by
      have := vp9 (a := T.1 105 58) (by grind)
      unfold ok_X11_session; grind
    rw [e1, e2]
    exact ⟨o1, o2, rfl, rfl, ⟨hC, hE, hL, hS, hA, hP⟩, fr_refl⟩
theorem q_later {T : tT} (h : I6 T) (x0 : Int32) : (F_X10_later T x0).2.1 0 = T.1 0 ∧ (F_X10_later T x0).1 = (F_X11_later (F_X10_later T x0).2 x0).1 ∧ I6 (F_X11_later (F_X10_later T x0).2 x0).2 ∧ fr (wl [] [(93, 0), (105, 71)]) T (F_X11_later (F_X10_later T x0).2 x0).2 := by
  obtain ⟨hC, hE, hL, hS, hA, hP⟩ := h
  have q := hL.1
  have b := hL.2.1
  by_cases c : (0 ≤ x0 ∧ x0 ≤ 1000) ∧ T.1 93 0 + x0 ≤ 100000
  · obtain ⟨⟨c1, c2⟩, c3⟩ := c
    have e1 : F_X10_later T x0 = (T.1 93 0 + x0, (tI T 93 0 (T.1 93 0 + x0))) := by
      unfold F_X10_later v_X10_isWithin; grind
    rw [e1]
    have e2 : F_X11_later (tI T 93 0 (T.1 93 0 + x0)) x0 = (T.1 93 0 + x0, (tI (tI T 93 0 (T.1 93 0 + x0)) 105 71 (T.1 93 0 + x0))) := by
      unfold F_X11_later
      rw [show (tI T 93 0 (T.1 93 0 + x0)).1 105 71 = T.1 105 71 from rfl]
      grind
    rw [e2]
    have f : fr (wl [] [(93, 0), (105, 71)]) T (tI (tI T 93 0 (T.1 93 0 + x0)) 105 71 (T.1 93 0 + x0)) := (fr_I rfl (fr_I rfl fr_refl))
    refine ⟨rfl, rfl, ⟨ICi_fz (fz_of f rfl) hC, IEn_fz (fz_of f rfl) hE, ?_, ?_, ITa_fz (fz_of f rfl) hA, IPl_fz (fz_of f rfl) hP⟩, f⟩
    · obtain ⟨a1, a2, a3, a4, a5, a6, a7, a8, a9, a10, a11, a12⟩ := hL
      refine ⟨⟨a1.1, rfl⟩, ⟨a2.1, a2.2.1, ?_, ?_⟩, a3, a4, a5, a6, a7, a8, a9, a10, ?_, ?_⟩
      · show 0 ≤ T.1 93 0 + x0
        grind
      · show T.1 93 0 + x0 ≤ 100000
        exact c3
      · intro i
        have := a11 i
        show 0 ≤ T.1 98 i ∧ T.1 98 i ≤ T.1 93 0 + x0
        grind
      · intro i
        have := a12 i
        show -1 ≤ T.1 99 i ∧ T.1 99 i ≤ T.1 93 0 + x0
        grind
    · obtain ⟨a1, a2, a3, a4, a5, a6, a7⟩ := hS
      refine ⟨a1, a2, a3, a4, a5, ?_, a7⟩
      intro i
      have := a6 i
      show T.1 103 i ≤ T.1 93 0 + x0
      grind
  · have e1 : F_X10_later T x0 = (-1, T) := by
      unfold F_X10_later v_X10_isWithin; grind
    have e2 : F_X11_later T x0 = (-1, T) := by
      unfold F_X11_later; grind
    rw [e1, e2]
    exact ⟨rfl, rfl, ⟨hC, hE, hL, hS, hA, hP⟩, fr_refl⟩
theorem q_untell {sz : Nat} {T : tT} (h : I6 T) (x0 : Int32) : ok_X10_untell sz T x0 ∧ ok_X11_untell sz (F_X10_untell T x0).2 x0 ∧ (F_X10_untell T x0).2.1 0 = T.1 0 ∧ (F_X10_untell T x0).1 = (F_X11_untell (F_X10_untell T x0).2 x0).1 ∧ I6 (F_X11_untell (F_X10_untell T x0).2 x0).2 ∧ fr (wl [99, 156] []) T (F_X11_untell (F_X10_untell T x0).2 x0).2 := by
  obtain ⟨hC, hE, hL, hS, hA, hP⟩ := h
  have q := hL.1
  have b := hL.2.1
  have u := hL.2.2.2.2.2.2.2.2.2.2.2 x0.toNatClampNeg
  have w : T.1 156 x0.toNatClampNeg = T.1 99 x0.toNatClampNeg := by rw [hL.2.2.1.2.2.2.2]
  by_cases c : (0 ≤ x0 ∧ x0 < T.1 93 1) ∧ T.1 99 x0.toNatClampNeg = -1
  · obtain ⟨⟨c1, c2⟩, c3⟩ := c
    have v := vp200 (a := x0) c1 (by grind)
    have e1 : F_X10_untell T x0 = (1, (tI T 99 x0.toNatClampNeg (T.1 93 0))) := by
      unfold F_X10_untell F_X5_takeBack v_X5_stands; grind
    have o1 : ok_X10_untell sz T x0 := by
      refine ⟨?_, by rw [show (F_X5_takeBack T x0).1 = (F_X10_untell T x0).1 from rfl, e1]; first | exact (show (1 : Int32) &&& 1 = 1 by decide) | exact (show (0 : Int32) &&& 1 = 0 by decide)⟩
      unfold ok_X5_takeBack ok_X5_stands; grind
    rw [e1]
    have e2 : F_X11_untell (tI T 99 x0.toNatClampNeg (T.1 93 0)) x0 = (1, (tI (tI T 99 x0.toNatClampNeg (T.1 93 0)) 156 x0.toNatClampNeg (T.1 93 0))) := by
      unfold F_X11_untell
      rw [show (tI T 99 x0.toNatClampNeg (T.1 93 0)).1 105 70 = T.1 105 70 from rfl, show (tI T 99 x0.toNatClampNeg (T.1 93 0)).1 105 71 = T.1 105 71 from rfl, show (tI T 99 x0.toNatClampNeg (T.1 93 0)).1 156 = T.1 156 from rfl]
      grind
    have o2 : ok_X11_untell sz (tI T 99 x0.toNatClampNeg (T.1 93 0)) x0 := by
      unfold ok_X11_untell
      grind
    rw [e2]
    have f : fr (wl [99, 156] []) T (tI (tI T 99 x0.toNatClampNeg (T.1 93 0)) 156 x0.toNatClampNeg (T.1 93 0)) := (fr_I rfl (fr_I rfl fr_refl))
    refine ⟨o1, o2, rfl, rfl, ⟨ICi_fz (fz_of f rfl) hC, IEn_fz (fz_of f rfl) hE, ?_, ICe_fz (fz_of f rfl) hS, ITa_fz (fz_of f rfl) hA, IPl_fz (fz_of f rfl) hP⟩, f⟩
    obtain ⟨a1, a2, a3, a4, a5, a6, a7, a8, a9, a10, a11, a12⟩ := hL
    refine ⟨a1, a2, ⟨a3.1, a3.2.1, a3.2.2.1, a3.2.2.2.1, va_upi a3.2.2.2.2⟩, a4, a5, a6, a7, a8, a9, a10, a11, ?_⟩
    intro i
    have := a12 i
    show -1 ≤ va_up (T.1 99) x0.toNatClampNeg (T.1 93 0) i ∧ va_up (T.1 99) x0.toNatClampNeg (T.1 93 0) i ≤ T.1 93 0
    unfold va_up
    grind
  · have e1 : F_X10_untell T x0 = (0, T) := by
      unfold F_X10_untell F_X5_takeBack v_X5_stands; grind
    have e2 : F_X11_untell T x0 = (0, T) := by
      unfold F_X11_untell; grind
    have o1 : ok_X10_untell sz T x0 := by
      have := vp200 (a := x0)
      refine ⟨?_, by rw [show (F_X5_takeBack T x0).1 = (F_X10_untell T x0).1 from rfl, e1]; first | exact (show (1 : Int32) &&& 1 = 1 by decide) | exact (show (0 : Int32) &&& 1 = 0 by decide)⟩
      unfold ok_X5_takeBack ok_X5_stands; grind
    have o2 : ok_X11_untell sz T x0 := by
      have := vp200 (a := x0)
      unfold ok_X11_untell; grind
    rw [e1, e2]
    exact ⟨o1, o2, rfl, rfl, ⟨hC, hE, hL, hS, hA, hP⟩, fr_refl⟩
theorem q_end {T : tT} (h : I6 T) (x0 : Int32) : (F_X10_end T x0).2.1 0 = T.1 0 ∧ (F_X10_end T x0).1 = (F_X11_end (F_X10_end T x0).2 x0).1 ∧ I6 (F_X11_end (F_X10_end T x0).2 x0).2 ∧ fr (wl [] [(4, 1), (105, 2)]) T (F_X11_end (F_X10_end T x0).2 x0).2 := by
  obtain ⟨hC, hE, hL, hS, hA, hP⟩ := h
  have q := hA.2.1
  by_cases c : 0 ≤ x0 ∧ x0 ≤ T.1 4 1
  · obtain ⟨c1, c2⟩ := c
    have e1 : F_X10_end T x0 = (x0, (tI T 4 1 x0)) := by
      unfold F_X10_end; grind
    rw [e1]
    have e2 : F_X11_end (tI T 4 1 x0) x0 = (x0, (tI (tI T 4 1 x0) 105 2 x0)) := by
      unfold F_X11_end
      rw [show (tI T 4 1 x0).1 105 2 = T.1 105 2 from rfl]
      grind
    rw [e2]
    have f : fr (wl [] [(4, 1), (105, 2)]) T (tI (tI T 4 1 x0) 105 2 x0) := (fr_I rfl (fr_I rfl fr_refl))
    refine ⟨rfl, rfl, ⟨ICi_fz (fz_of f rfl) hC, IEn_fz (fz_of f rfl) hE, ILe_fz (fz_of f rfl) hL, ICe_fz (fz_of f rfl) hS, ?_, IPl_fz (fz_of f rfl) hP⟩, f⟩
    obtain ⟨a1, a2, a3, a4⟩ := hA
    refine ⟨a1, rfl, ⟨c1, ?_⟩, a4⟩
    show x0 ≤ 1400
    grind
  · have e1 : F_X10_end T x0 = (-1, T) := by
      unfold F_X10_end; grind
    have e2 : F_X11_end T x0 = (-1, T) := by
      unfold F_X11_end; grind
    rw [e1, e2]
    exact ⟨rfl, rfl, ⟨hC, hE, hL, hS, hA, hP⟩, fr_refl⟩
theorem q_fault {T : tT} (h : I6 T) (x0 : Int32) : v_X10_fault T x0 = v_X11_fault T x0 := by
  have q := h.2.2.2.2.1.1
  unfold v_X10_fault v_X11_fault
  grind
theorem q_toured {sz : Nat} {T : tT} (h : I6 T) (x0 : Int32) : ok_X10_toured sz T x0 ∧ ok_X11_toured sz T x0 ∧ v_X10_toured T x0 = v_X11_toured T x0 := by
  obtain ⟨hC, hE, hL, hS, hA, hP⟩ := h
  have q := hC.1
  have b := hC.2.1
  have v := vp9 (a := x0)
  have p := hP.1
  have p2 := hP.2.1 x0
  refine ⟨?_, ?_, ?_⟩
  · unfold ok_X10_toured v_X1_hasSession; grind
  · unfold ok_X11_toured; grind
  · unfold v_X10_toured v_X11_toured v_X1_hasSession; grind
theorem q_certificate {sz : Nat} {T : tT} (h : I6 T) (x0 x1 : Int32) : ok_X10_certificate sz T x0 x1 ∧ ok_X11_certificate sz T x0 x1 ∧ v_X10_certificate T x0 x1 = v_X11_certificate T x0 x1 := by
  obtain ⟨hC, hE, hL, hS, hA, hP⟩ := h
  have q := hS.1
  have b := hS.2.1
  by_cases c : 1 ≤ x0 ∧ x0 ≤ T.1 101 0
  · have v := vp60 (a := x0 - 1) (by grind) (by grind)
    have v' := vp61 (a := x0) (by grind) (by grind)
    have n : x0.toNatClampNeg = (x0 - 1).toNatClampNeg + 1 := by
      have a1 : 1 ≤ x0.toInt := tle.mp c.1
      have a2 := x0.toInt_lt
      have a3 : (x0 - 1).toInt = x0.toInt - 1 := tsub (by rw [show (1 : Int32).toInt = 1 from rfl]; omega) (by rw [show (1 : Int32).toInt = 1 from rfl]; omega)
      simp only [tncd]
      omega
    have r := hS.2.2.1 (x0 - 1).toNatClampNeg
    rw [← n] at r
    refine ⟨?_, ?_, ?_⟩
    · unfold ok_X10_certificate v_X0_has; grind
    · unfold ok_X11_certificate; grind
    · unfold v_X10_certificate v_X11_certificate v_X0_has; grind
  · refine ⟨?_, ?_, ?_⟩
    · unfold ok_X10_certificate v_X0_has; grind
    · unfold ok_X11_certificate; grind
    · unfold v_X10_certificate v_X11_certificate v_X0_has; grind
theorem q_entry {sz : Nat} {T : tT} (h : I6 T) (x0 x1 x2 x3 x4 x5 : Int32) : ok_X10_entry sz T x0 x1 x2 x3 x4 x5 ∧ ok_X11_entry sz (F_X10_entry T x0 x1 x2 x3 x4 x5).2 x0 x1 x2 x3 x4 x5 ∧ (F_X10_entry T x0 x1 x2 x3 x4 x5).2.1 0 = T.1 0 ∧ (F_X10_entry T x0 x1 x2 x3 x4 x5).1 = (F_X11_entry (F_X10_entry T x0 x1 x2 x3 x4 x5).2 x0 x1 x2 x3 x4 x5).1 ∧ I6 (F_X11_entry (F_X10_entry T x0 x1 x2 x3 x4 x5).2 x0 x1 x2 x3 x4 x5).2 ∧ fr (wl [70, 71, 72, 73, 74, 75, 76, 131, 132, 133, 134, 135, 136, 137, 138] [(69, 0), (105, 48)]) T (F_X11_entry (F_X10_entry T x0 x1 x2 x3 x4 x5).2 x0 x1 x2 x3 x4 x5).2 := by
  obtain ⟨hC, hE, hL, hS, hA, hP⟩ := h
  have q := hE.1
  have q2 := hC.1
  have b := hE.2.1
  have b2 := hC.2.1
  by_cases c : (0 ≤ x0 ∧ x0 ≤ 99) ∧ (0 ≤ x1 ∧ x1 < 4) ∧ (1 ≤ x2 ∧ x2 ≤ 8) ∧ (0 ≤ x3 ∧ x3 ≤ 7) ∧ (4 ≤ x4 ∧ x4 ≤ 99) ∧ (-1 ≤ x5 ∧ x5 < T.1 79 1) ∧ T.1 69 0 < 40
  · obtain ⟨⟨c1, c2⟩, ⟨c3, c4⟩, ⟨c5, c6⟩, ⟨c7, c8⟩, ⟨c9, c10⟩, ⟨c11, c12⟩, c13⟩ := c
    have v := vp40 (a := T.1 69 0) (by grind) c13
    have e1 : F_X10_entry T x0 x1 x2 x3 x4 x5 = (T.1 69 0 + 1 - 1, (tI (tI (tI (tI (tI (tI (tI (tI T 70 (T.1 69 0).toNatClampNeg x0) 71 (T.1 69 0).toNatClampNeg x1) 72 (T.1 69 0).toNatClampNeg x2) 73 (T.1 69 0).toNatClampNeg x3) 74 (T.1 69 0).toNatClampNeg x4) 75 (T.1 69 0).toNatClampNeg x5) 76 (T.1 69 0).toNatClampNeg (-1)) 69 0 (T.1 69 0 + 1))) := by
      unfold F_X10_entry F_X2_add v_X1_hasExaminer v_X10_isWithin v_X10_isTerm; grind
    have o1 : ok_X10_entry sz T x0 x1 x2 x3 x4 x5 := by
      have : ok_X2_add sz T x0 x1 x2 x3 x4 x5 := by unfold ok_X2_add; grind
      unfold ok_X10_entry; grind
    rw [e1]
    have e2 : F_X11_entry (tI (tI (tI (tI (tI (tI (tI (tI T 70 (T.1 69 0).toNatClampNeg x0) 71 (T.1 69 0).toNatClampNeg x1) 72 (T.1 69 0).toNatClampNeg x2) 73 (T.1 69 0).toNatClampNeg x3) 74 (T.1 69 0).toNatClampNeg x4) 75 (T.1 69 0).toNatClampNeg x5) 76 (T.1 69 0).toNatClampNeg (-1)) 69 0 (T.1 69 0 + 1)) x0 x1 x2 x3 x4 x5 = (T.1 69 0 + 1 - 1, (tI (tI (tI (tI (tI (tI (tI (tI (tI (tI (tI (tI (tI (tI (tI (tI (tI T 70 (T.1 69 0).toNatClampNeg x0) 71 (T.1 69 0).toNatClampNeg x1) 72 (T.1 69 0).toNatClampNeg x2) 73 (T.1 69 0).toNatClampNeg x3) 74 (T.1 69 0).toNatClampNeg x4) 75 (T.1 69 0).toNatClampNeg x5) 76 (T.1 69 0).toNatClampNeg (-1)) 69 0 (T.1 69 0 + 1)) 131 (T.1 69 0).toNatClampNeg x0) 132 (T.1 69 0).toNatClampNeg x1) 133 (T.1 69 0).toNatClampNeg x2) 134 (T.1 69 0).toNatClampNeg x3) 135 (T.1 69 0).toNatClampNeg x4) 136 (T.1 69 0).toNatClampNeg x5) 137 (T.1 69 0).toNatClampNeg 0) 138 (T.1 69 0).toNatClampNeg (-1)) 105 48 (T.1 69 0 + 1))) := by
      unfold F_X11_entry
      rw [show (tI (tI (tI (tI (tI (tI (tI (tI T 70 (T.1 69 0).toNatClampNeg x0) 71 (T.1 69 0).toNatClampNeg x1) 72 (T.1 69 0).toNatClampNeg x2) 73 (T.1 69 0).toNatClampNeg x3) 74 (T.1 69 0).toNatClampNeg x4) 75 (T.1 69 0).toNatClampNeg x5) 76 (T.1 69 0).toNatClampNeg (-1)) 69 0 (T.1 69 0 + 1)).1 105 57 = T.1 105 57 from rfl, show (tI (tI (tI (tI (tI (tI (tI (tI T 70 (T.1 69 0).toNatClampNeg x0) 71 (T.1 69 0).toNatClampNeg x1) 72 (T.1 69 0).toNatClampNeg x2) 73 (T.1 69 0).toNatClampNeg x3) 74 (T.1 69 0).toNatClampNeg x4) 75 (T.1 69 0).toNatClampNeg x5) 76 (T.1 69 0).toNatClampNeg (-1)) 69 0 (T.1 69 0 + 1)).1 105 48 = T.1 105 48 from rfl]
      grind
    have o2 : ok_X11_entry sz (tI (tI (tI (tI (tI (tI (tI (tI T 70 (T.1 69 0).toNatClampNeg x0) 71 (T.1 69 0).toNatClampNeg x1) 72 (T.1 69 0).toNatClampNeg x2) 73 (T.1 69 0).toNatClampNeg x3) 74 (T.1 69 0).toNatClampNeg x4) 75 (T.1 69 0).toNatClampNeg x5) 76 (T.1 69 0).toNatClampNeg (-1)) 69 0 (T.1 69 0 + 1)) x0 x1 x2 x3 x4 x5 := by
      unfold ok_X11_entry
      rw [show (tI (tI (tI (tI (tI (tI (tI (tI T 70 (T.1 69 0).toNatClampNeg x0) 71 (T.1 69 0).toNatClampNeg x1) 72 (T.1 69 0).toNatClampNeg x2) 73 (T.1 69 0).toNatClampNeg x3) 74 (T.1 69 0).toNatClampNeg x4) 75 (T.1 69 0).toNatClampNeg x5) 76 (T.1 69 0).toNatClampNeg (-1)) 69 0 (T.1 69 0 + 1)).1 105 48 = T.1 105 48 from rfl, q]
      grind
    rw [e2]
    have f : fr (wl [70, 71, 72, 73, 74, 75, 76, 131, 132, 133, 134, 135, 136, 137, 138] [(69, 0), (105, 48)]) T (tI (tI (tI (tI (tI (tI (tI (tI (tI (tI (tI (tI (tI (tI (tI (tI (tI T 70 (T.1 69 0).toNatClampNeg x0) 71 (T.1 69 0).toNatClampNeg x1) 72 (T.1 69 0).toNatClampNeg x2) 73 (T.1 69 0).toNatClampNeg x3) 74 (T.1 69 0).toNatClampNeg x4) 75 (T.1 69 0).toNatClampNeg x5) 76 (T.1 69 0).toNatClampNeg (-1)) 69 0 (T.1 69 0 + 1)) 131 (T.1 69 0).toNatClampNeg x0) 132 (T.1 69 0).toNatClampNeg x1) 133 (T.1 69 0).toNatClampNeg x2) 134 (T.1 69 0).toNatClampNeg x3) 135 (T.1 69 0).toNatClampNeg x4) 136 (T.1 69 0).toNatClampNeg x5) 137 (T.1 69 0).toNatClampNeg 0) 138 (T.1 69 0).toNatClampNeg (-1)) 105 48 (T.1 69 0 + 1)) := (fr_I rfl (fr_I rfl (fr_I rfl (fr_I rfl (fr_I rfl (fr_I rfl (fr_I rfl (fr_I rfl (fr_I rfl (fr_I rfl (fr_I rfl (fr_I rfl (fr_I rfl (fr_I rfl (fr_I rfl (fr_I rfl (fr_I rfl fr_refl)))))))))))))))))
    refine ⟨o1, o2, rfl, rfl, ⟨ICi_fz (fz_of f rfl) hC, ?_, ?_, ?_, ITa_fz (fz_of f rfl) hA, IPl_fz (fz_of f rfl) hP⟩, f⟩
    · obtain ⟨a1, a2, a3, a4, a5, a6, a7⟩ := hE
      refine ⟨rfl, ⟨?_, ?_⟩, ⟨va_upi a3.1, va_upi a3.2.1, va_upi a3.2.2.1, va_upi a3.2.2.2.1, va_upi a3.2.2.2.2.1, va_upi a3.2.2.2.2.2.1, va_upi a3.2.2.2.2.2.2.1, ?_, a3.2.2.2.2.2.2.2.2⟩, ?_, ?_, a6, ?_⟩
      · show 0 ≤ T.1 69 0 + 1
        grind
      · show T.1 69 0 + 1 ≤ 40
        grind
      · show va_up (T.1 137) (T.1 69 0).toNatClampNeg 0 = T.1 77
        rw [a3.2.2.2.2.2.2.2.1]
        funext i
        unfold va_up
        have := a7 (T.1 69 0) (by grind) (by grind)
        grind
      · intro i
        show 0 ≤ va_up (T.1 71) _ x1 i ∧ va_up (T.1 71) _ x1 i < 4
        unfold va_up
        have := a4 i
        grind
      · intro i
        show 0 ≤ va_up (T.1 73) _ x3 i ∧ va_up (T.1 73) _ x3 i < 8
        unfold va_up
        have := a5 i
        grind
      · intro x h0 h1
        replace h1 : T.1 69 0 + 1 ≤ x := h1
        exact a7 x h0 (by grind)
    · obtain ⟨a1, a2, a3, a4, a5, a6, a7, a8, a9, a10, a11, a12⟩ := hL
      refine ⟨a1, a2, a3, a4, a5, ?_, a7, a8, a9, a10, a11, a12⟩
      intro x h0 h1
      have := a6 x h0 h1
      show T.1 94 x.toNatClampNeg < T.1 69 0 + 1
      grind
    · obtain ⟨a1, a2, a3, a4, a5, a6, a7⟩ := hS
      refine ⟨a1, a2, a3, a4, ?_, a6, a7⟩
      intro x h0 h1
      have := a5 x h0 h1
      show T.1 102 x.toNatClampNeg < T.1 69 0 + 1
      grind
  · have e1 : F_X10_entry T x0 x1 x2 x3 x4 x5 = (-1, T) := by
      unfold F_X10_entry F_X2_add v_X1_hasExaminer v_X10_isWithin v_X10_isTerm; grind (splits := 30)
    have e2 : F_X11_entry T x0 x1 x2 x3 x4 x5 = (-1, T) := by
      unfold F_X11_entry; grind (splits := 30)
    have o1 : ok_X10_entry sz T x0 x1 x2 x3 x4 x5 := by
      have v := vp40 (a := T.1 69 0) (by grind)
      have : ok_X2_add sz T x0 x1 x2 x3 x4 x5 := by unfold ok_X2_add; grind
      unfold ok_X10_entry; grind
    have o2 : ok_X11_entry sz T x0 x1 x2 x3 x4 x5 := by
      have v := vp40 (a := T.1 105 48) (by grind)
      unfold ok_X11_entry; grind
    rw [e1, e2]
    exact ⟨o1, o2, rfl, rfl, ⟨hC, hE, hL, hS, hA, hP⟩, fr_refl⟩
