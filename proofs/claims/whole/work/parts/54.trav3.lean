/-! the reference's travel: the route -/
theorem sg_pick {S l : Nat} {v : Int} {f : Nat → Int} (hl : l < S) (hv : f l = v) (h : ∀ t, t < S → t ≠ l → f t = 0) : sg S f = v := by
  have e : sg S f = sg S (fun i => if i = l then v else (fun _ => 0) i) := by
    apply sg_cg
    intro i hi
    by_cases c : i = l
    · rw [if_pos c, c, hv]
    · rw [if_neg c, h i hi c]
  rw [e, sg_one S hl, sg_zero]
  omega
theorem route {sz : Nat} {T : tT} (hC : ICi T) {S m x : Nat} (hS : (T.1 79 2).toInt = S) (S9 : S ≤ 9) {mv xv : Int32} (hm' : mv.toInt = m) (m5 : m < 512) (hx : xv.toInt = x) (x5 : x < 5) (hv : vst T S x m) : ∀ (k n : Nat) (av sv cv nv : Int32) (a : Nat) (sm : Int), av.toInt = a → a < 8 → sv.toInt = sm → -1 ≤ cv.toInt → (100 - cv.toInt) ≤ k → k < n → 0 ≤ sm → sm ≤ 1200 * (cv.toInt + 1) → sm + wy T a (hm T x) = trv T S x (fun t => bts m t && decide (dy T t ≤ cv.toInt)) → ((cv.toInt = -1 ∧ a = hm T x) ∨ ∃ l, l < S ∧ bts m l = true ∧ dy T l = cv.toInt ∧ a = pl T l) → nxA T m (cv.toInt + 1) nv S → (((vl_X11_travel n).2.1 T xv mv av sv cv nv).toInt = trv T S x (bts m) ∧ 0 ≤ trv T S x (bts m) ∧ trv T S x (bts m) ≤ 130000) ∧ (okl_X11_travel n).2.1 sz T xv mv av sv cv nv := by
  have q1 : T.1 143 = T.1 80 := hC.2.2.1.1
  have q2 : T.1 146 = T.1 83 := hC.2.2.1.2.2.2.1
  have q3 : T.1 145 = T.1 82 := hC.2.2.1.2.2.1
  have q4 : T.1 142 = T.1 84 := hC.2.2.1.2.2.2.2
  have vx : vp_in xv 5 := by rw [vp_in_iff]; omega
  obtain ⟨hh, hh8⟩ := hm_lt hC x
  intro k
  induction k with
  | zero =>
    intro n av sv cv nv a sm ha a8 hsv hc hk hn h0 h1 hI hl hN
    exfalso
    rcases hl with ⟨q, _⟩ | ⟨l, _, _, q, _⟩
    · omega
    · have := dy_rg hC l
      omega
  | succ k ih =>
    intro n av sv cv nv a sm ha a8 hsv hc hk hn h0 h1 hI hl hN
    obtain ⟨n, rfl⟩ : ∃ n', n = n' + 1 := ⟨n - 1, by omega⟩
    have c99 : cv.toInt ≤ 99 := by
      rcases hl with ⟨q, _⟩ | ⟨l, _, _, q, _⟩
      · omega
      · have := dy_rg hC l
        omega
    obtain ⟨i1, i2⟩ := ix8 ha hh a8 hh8
    have wa := wy_rg hC a (hm T x)
    rw [vl_X11_travel_s1, okl_X11_travel_s1, q1, q2, q3, q4, tnN hx, i1]
    rcases hN with ⟨n1, n2⟩ | ⟨s, s1, s2, s3, s4, s5⟩
    · have c : nv < 0 := by rw [n1]; decide
      rw [if_pos c]
      refine ⟨?_, fun _ => ⟨vx, i2⟩, fun w => absurd c w⟩
      have e : (T.1 84 (8 * a + hm T x)).toInt = wy T a (hm T x) := rfl
      have e9 : trv T S x (fun t => bts m t && decide (dy T t ≤ cv.toInt)) = trv T S x (bts m) := by
        apply trv_cg
        intro t ht
        by_cases b : bts m t = true
        · have := n2 t ht b
          rw [b, Bool.true_and, decide_eq_true (by omega)]
        · rw [Bool.eq_false_iff.mpr b, Bool.false_and]
      rw [e9] at hI
      exact ⟨by rw [tadd (by omega) (by omega), hsv, e, hI], by omega, by omega⟩
    · have c : ¬ nv < 0 := by rw [tlt, s2, show (0 : Int32).toInt = 0 from rfl]; omega
      have v9 : vp_in nv 9 := by rw [vp_in_iff]; omega
      rw [if_neg c, tnN s2]
      obtain ⟨hp, hp8⟩ := pl_lt hC s
      obtain ⟨j1, j2⟩ := ix8 ha hp a8 hp8
      obtain ⟨k1, k2⟩ := ix8 hh hp hh8 hp8
      have ds := dy_rg hC s
      have st := trv_st hC hv s1 s3 (c := cv.toInt) (by omega) s5
      have dse : (T.1 83 s).toInt = dy T s := rfl
      have d1 : (T.1 83 s + 1).toInt = dy T s + 1 := by rw [tinc' (by omega), dse]
      obtain ⟨nA, nO⟩ := e_next (sz := sz) hC hS S9 (T.1 83 s + 1) hm' m5
      rw [d1] at nA
      have sy := wy_sy hC hp8 hh8
      have wb := wy_rg hC a (pl T s)
      have wc := wy_rg hC (hm T x) (pl T s)
      have e1 : (T.1 84 (8 * a + pl T s)).toInt = wy T a (pl T s) := rfl
      have e2 : (T.1 84 (8 * hm T x + pl T s)).toInt = wy T (hm T x) (pl T s) := rfl
      have e3 : (T.1 84 (8 * a + hm T x)).toInt = wy T a (hm T x) := rfl
      have a1 : (sv + T.1 84 (8 * a + pl T s)).toInt = sm + wy T a (pl T s) := by rw [tadd (by omega) (by omega), hsv, e1]
      rw [j1, k1]
      have go : ∀ (sv' : Int32) (sm' : Int), sv'.toInt = sm' → 0 ≤ sm' → sm' ≤ 1200 * (dy T s + 1) → sm' + wy T (pl T s) (hm T x) = trv T S x (fun t => bts m t && decide (dy T t ≤ dy T s)) → (((vl_X11_travel n).2.1 T xv mv (T.1 82 s) sv' (T.1 83 s) (v_X11_nextOf T mv (T.1 83 s + 1))).toInt = trv T S x (bts m) ∧ 0 ≤ trv T S x (bts m) ∧ trv T S x (bts m) ≤ 130000) ∧ (okl_X11_travel n).2.1 sz T xv mv (T.1 82 s) sv' (T.1 83 s) (v_X11_nextOf T mv (T.1 83 s + 1)) := by
        intro sv' sm' g1 g2 g3 g4
        exact ih n (T.1 82 s) sv' (T.1 83 s) _ (pl T s) sm' hp hp8 g1 (by rw [dse]; omega) (by rw [dse]; omega) (by omega) g2 (by rw [dse]; exact g3) (by rw [dse]; exact g4) (Or.inr ⟨s, s1, s3, rfl, rfl⟩) (by rw [dse]; exact nA)
      by_cases cn : cv < 0
      · rw [if_pos cn]
        rw [tlt, show (0 : Int32).toInt = 0 from rfl] at cn
        have cm : cv.toInt = -1 := by omega
        have ah : a = hm T x := by
          rcases hl with ⟨_, q⟩ | ⟨l, _, _, q, _⟩
          · exact q
          · have := dy_rg hC l
            omega
        have z : sg S (fun t => if (bts m t && decide (dy T t ≤ cv.toInt) && decide (dy T s = dy T t + 1)) = true then sav T x t s else 0) = 0 := by
          rw [sg_cg (g := fun _ => 0) S, sg_zero]
          intro t ht
          apply if_neg
          intro w
          simp only [Bool.and_eq_true, decide_eq_true_eq] at w
          have := dy_rg hC t
          omega
        have g0 := wy_dg hC hh8
        obtain ⟨u1, u2⟩ := go _ _ a1 (by omega) (by omega) (by rw [st, z, ← hI]; rw [ah] at *; omega)
        exact ⟨u1, fun w => absurd w c, fun _ => ⟨fun _ => ⟨v9, j2, v9, v9, nO, u2⟩, fun w => absurd (by rw [tlt, cm]; decide) w⟩⟩
      · rw [if_neg cn]
        have cn' : 0 ≤ cv.toInt := by rw [tlt, show (0 : Int32).toInt = 0 from rfl] at cn; omega
        obtain ⟨l, l1, l2, l3, l4⟩ : ∃ l, l < S ∧ bts m l = true ∧ dy T l = cv.toInt ∧ a = pl T l := by
          rcases hl with ⟨q, _⟩ | q
          · omega
          · exact q
        have c1 : (cv + 1).toInt = cv.toInt + 1 := tinc' (by omega)
        by_cases d : T.1 83 s ≤ cv + 1
        · rw [if_pos d]
          have d' := tle.mp d
          rw [dse, c1] at d'
          have z : sg S (fun t => if (bts m t && decide (dy T t ≤ cv.toInt) && decide (dy T s = dy T t + 1)) = true then sav T x t s else 0) = sav T x l s := by
            apply sg_pick l1
            · apply if_pos
              simp only [Bool.and_eq_true, decide_eq_true_eq]
              exact ⟨⟨l2, by omega⟩, by omega⟩
            · intro t ht tl
              apply if_neg
              intro w
              simp only [Bool.and_eq_true, decide_eq_true_eq] at w
              exact tl (vst_d hv ht l1 w.1.1 l2 (by omega))
          obtain ⟨u1, u2⟩ := go _ _ a1 (by omega) (by omega) (by rw [st, z, ← hI]; unfold sav; rw [← l4]; omega)
          exact ⟨u1, fun w => absurd w c, fun _ => ⟨fun w => absurd w cn, fun _ => ⟨v9, fun _ => ⟨v9, j2, v9, v9, nO, u2⟩, fun w => absurd d w⟩⟩⟩
        · rw [if_neg d]
          have d' : cv.toInt + 1 < dy T s := by rw [tle, dse, c1] at d; omega
          have z : sg S (fun t => if (bts m t && decide (dy T t ≤ cv.toInt) && decide (dy T s = dy T t + 1)) = true then sav T x t s else 0) = 0 := by
            rw [sg_cg (g := fun _ => 0) S, sg_zero]
            intro t ht
            apply if_neg
            intro w
            simp only [Bool.and_eq_true, decide_eq_true_eq] at w
            omega
          have a2 : (sv + T.1 84 (8 * a + hm T x)).toInt = sm + wy T a (hm T x) := by rw [tadd (by omega) (by omega), hsv, e3]
          have a3 : (sv + T.1 84 (8 * a + hm T x) + T.1 84 (8 * hm T x + pl T s)).toInt = sm + wy T a (hm T x) + wy T (hm T x) (pl T s) := by rw [tadd (by rw [a2, e2]; omega) (by rw [a2, e2]; omega), a2, e2]
          obtain ⟨u1, u2⟩ := go _ _ a3 (by omega) (by omega) (by rw [st, z, ← hI]; omega)
          exact ⟨u1, fun w => absurd w c, fun _ => ⟨fun w => absurd w cn, fun _ => ⟨v9, fun w => absurd w d, fun _ => ⟨vx, i2, vx, v9, k2, v9, v9, nO, u2⟩⟩⟩⟩
