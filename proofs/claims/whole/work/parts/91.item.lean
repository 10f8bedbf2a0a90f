/-! items: frames, signs, numbers, names -/
/-- the class's rows of a grade -/
def wq (q k i : Nat) : Bool := decide ((k = 3 ∧ i = 4) ∨ (q ≤ k ∧ k < q + 7 ∧ ¬ (k = q ∧ i = 0)))
/-- the reference's places of a grade -/
def wg (h k i : Nat) : Bool := ((k == 111 || k == 113 || k == 115 || k == 116 || k == 119 || k == 120 || k == 121 || k == 122) && i == h) || ((k == 112 || k == 114 || k == 126 || k == 128) && i / 6 == h) || (k == 127 && i / 72 == h) || ((k == 117 || k == 118) && i / 8 == h)
def wQ (p q k i : Nat) : Bool := wE p k i || wq q k i
def wG (b h k i : Nat) : Bool := wRe b k i || wg h k i
theorem fr_or1 {W W' : Nat → Nat → Bool} {T T' : tT} (f : fr W T T') : fr (fun k i => W k i || W' k i) T T' := fun k i h => f k i (by
  have h : (W k i || W' k i) = false := h
  cases z : W k i with
  | false => rfl
  | true => rw [z] at h; cases h)
theorem fr_or2 {W W' : Nat → Nat → Bool} {T T' : tT} (f : fr W' T T') : fr (fun k i => W k i || W' k i) T T' := fun k i h => f k i (by
  have h : (W k i || W' k i) = false := h
  cases z : W' k i with
  | false => rfl
  | true => rw [z, Bool.or_true] at h; cases h)
theorem fQ1 {p q : Nat} {T T' : tT} (f : fr (wE p) T T') : fr (wQ p q) T T' := fr_or1 f
theorem fQ2 {p q : Nat} {T T' : tT} (f : fr (wq q) T T') : fr (wQ p q) T T' := fr_or2 f
theorem fG1 {b h : Nat} {T T' : tT} (f : fr (wRe b) T T') : fr (wG b h) T T' := fr_or1 f
theorem fG2 {b h : Nat} {T T' : tT} (f : fr (wg h) T T') : fr (wG b h) T T' := fr_or2 f
theorem wq_off {q k i : Nat} (h1 : ¬ (k = 3 ∧ i = 4)) (h2 : ¬ (q ≤ k ∧ k < q + 7)) : wq q k i = false := decide_eq_false (by omega)
theorem wq_0 {q : Nat} (h : q ≠ 3) : wq q q 0 = false := decide_eq_false (by omega)
theorem wg_off {h k i : Nat} (h1 : k < 111 ∨ 128 < k ∨ k = 123 ∨ k = 124 ∨ k = 125) : wg h k i = false := by
  unfold wg
  simp only [Bool.or_eq_false_iff, Bool.and_eq_false_iff, beq_eq_false_iff_ne, ne_eq]
  omega
/-- rows of a grade are of no concern for being in step -/
theorem BR_up {sz N p q b h : Nat} {Tc Tr Tc' Tr' : tT} (g : gq p q) (fc : fr (wq q) Tc Tc') (f' : fr (wg h) Tr Tr') (hB : BR sz N p b Tc Tr) : BR sz N p b Tc' Tr' := by
  obtain ⟨⟨⟨a1, a2, a3⟩, ⟨a4, a5⟩, a6⟩, b2, ⟨⟨c1, c2, c3⟩, ⟨a, d1, d2⟩, c4, ⟨u, d3, d4⟩, ⟨l, d5, d6⟩, c5, c6⟩, ⟨pl, e, t1, t2, t3, t4, t5, t6, t7, t8, t9, t10⟩, b5, b6, b7, b8⟩ := hB
  obtain ⟨g1, g2⟩ := g
  have k4 : ∀ i, Tc'.1 4 i = Tc.1 4 i := fun i => fr_i fc (wq_off (by omega) (by omega))
  have k3 : ∀ i, i ≠ 4 → Tc'.1 3 i = Tc.1 3 i := fun i hi => fr_i fc (wq_off (by omega) (by omega))
  have kp : ∀ i, Tc'.1 p i = Tc.1 p i := fun i => fr_i fc (wq_off (by omega) (by omega))
  have k1 : Tc'.2.1 1 = Tc.2.1 1 := fr_rj fc (fun i => wq_off (by omega) (by omega))
  have k5 : Tc'.1 5 = Tc.1 5 := fr_ri fc (fun i => wq_off (by omega) (by omega))
  have kj : Tc'.2.1 4 5 = Tc.2.1 4 5 := fr_j fc (wq_off (by omega) (by omega))
  have r : ∀ i, Tr'.1 105 i = Tr.1 105 i := fun i => fr_i f' (wg_off (by omega))
  have rj : Tr'.2.1 105 10 = Tr.2.1 105 10 := fr_j f' (wg_off (by omega))
  have r7 : Tr'.1 107 = Tr.1 107 := fr_ri f' (fun i => wg_off (by omega))
  have sg : v_X11_sign Tr' (Tr.1 105 6) = v_X11_sign Tr (Tr.1 105 6) := by
    unfold v_X11_sign
    rw [r 3, r7]
  have ph : phi p Tc' = phi p Tc := by
    unfold phi
    rw [k4, k3 5 (by decide), kp]
  refine ⟨⟨⟨by rw [k4]; exact a1, a2, by rw [k1]; exact a3⟩, ⟨by rw [r]; exact a4, a5⟩, ?_⟩, by rw [r]; exact b2, ⟨⟨by rw [k4]; exact c1, c2, by rw [k1]; exact c3⟩, ⟨a, by rw [k4]; exact d1, d2⟩, (fr_p fc (wq_off (by omega) (by omega))).trans c4, ⟨u, by rw [kp]; exact d3, d4⟩, ⟨l, by rw [k3 5 (by decide)]; exact d5, d6⟩, c5, c6⟩, ⟨pl, e, by rw [k4]; exact t1, by rw [k4]; exact t2, by rw [r, k4]; exact t3, by rw [r, k4]; exact t4, t5, t6, by rw [k4]; exact t7, by rw [k4]; exact t8, by rw [k4]; exact t9, ?_⟩, ⟨by rw [k3 1 (by decide)]; exact b5.1, by rw [r]; exact b5.2⟩, by rw [r, k3 5 (by decide)]; exact b6, by rw [r, kp]; exact b7, by rw [ph]; exact b8⟩
  · unfold bC bR
    rw [k5, r7]
    exact a6
  · rw [k4, k4, r, r, kj, rj, r, sg]
    exact t10
theorem kpC_wq {p q : Nat} {T T' : tT} (g : gq p q) (f : fr (wq q) T T') : kpC p T T' := by
  obtain ⟨g1, g2⟩ := g
  exact kpC_eq (fr_i f (wq_off (by omega) (by omega))) (fun i => fr_i f (wq_off (by omega) (by omega)))
theorem kpR_wg {b h : Nat} {T T' : tT} (f : fr (wg h) T T') : kpR b T T' := kpR_eq (fr_i f (wg_off (by omega))) (fun i => fr_i f (wg_off (by omega))) (fun i => fr_i f (wg_off (by omega)))
/-- a sign -/
theorem BR_take {sz N p b : Nat} {Tc Tr : tT} (hB : BR sz N p b Tc Tr) {k : Int32} (hk : isS k) : ((Tc.1 4 2 = k ∧ F_X6_take Tc k = F_X9_next Tc ∧ F_X11_must Tr k = F_X11_next Tr) ∨ (Tc.1 4 2 ≠ k ∧ F_X6_take Tc k = F_X6_refuse Tc ∧ F_X11_must Tr k = F_X11_wrong Tr ∧ FL (F_X6_refuse Tc) (F_X11_wrong Tr))) ∧ ok_X6_take sz Tc k ∧ ok_X11_must sz Tr k := by
  have hi := tk_is hB.2.2.2.1 hk
  have ho := is_ok (sz := sz) hB.2.2.2.1 hB.1.2.1 k
  obtain ⟨_, _, _, n5, n6, _⟩ := BR_next hB
  refine ⟨?_, (SF_take hB.2.2.1 k).2, ho, fun _ => trivial, fun _ => ⟨n6, trivial⟩⟩
  unfold F_X6_take F_X11_must
  rw [if_pos hB.2.2.2.2.1.1]
  by_cases c : Tc.1 4 2 = k
  · rw [if_pos c, if_neg (fun w => hi.mp w c)]
    exact Or.inl ⟨c, rfl, rfl⟩
  · rw [if_neg c, if_pos (hi.mpr c)]
    exact Or.inr ⟨c, rfl, rfl, FL_refuse hB.2.2.2.1 hB.2.2.2.2.1.1 hB.2.2.2.2.1.2⟩
theorem tk_num {N : Nat} {Tc Tr : tT} (h : TK N Tc Tr) : (Tc.1 4 2 = 2 ↔ Tr.1 105 8 = 4) ∧ (Tc.1 4 2 = 2 → Tr.1 105 9 = Tc.1 4 4) ∧ (Tc.1 4 2 = 3 ↔ Tr.1 105 8 = 2) ∧ (Tc.1 4 2 = 3 → Tr.2.1 105 10 = Tc.2.1 4 5) ∧ (Tc.1 4 2 = 0 ↔ Tr.1 105 8 = 0) := by
  obtain ⟨pl, e, _, _, _, _, _, _, _, _, _, kr⟩ := h
  rcases kr with ⟨k1, k2⟩ | ⟨k1, k2⟩ | ⟨k1, k2, k3, _⟩ | ⟨k1, k2, k3, _⟩ | ⟨j, j1, k1, k2, k3⟩ | ⟨k1, k2, k3⟩
  · rw [k1, k2]
    exact ⟨by decide, fun w => absurd w (by decide), by decide, fun w => absurd w (by decide), by decide⟩
  · rw [k1, k2]
    exact ⟨by decide, fun w => absurd w (by decide), by decide, fun w => absurd w (by decide), by decide⟩
  · rw [k1, k2]
    exact ⟨by decide, fun _ => k3, by decide, fun w => absurd w (by decide), by decide⟩
  · rw [k1, k2]
    exact ⟨by decide, fun w => absurd w (by decide), by decide, fun _ => k3, by decide⟩
  · have ne : ∀ v : Int32, v.toInt < 200 → Tc.1 4 2 ≠ v := fun v hv w => by
      rw [k1] at w
      rw [← w, nI_toInt (by omega)] at hv
      omega
    rw [k2]
    exact ⟨⟨fun w => absurd w (ne 2 (by decide)), fun w => absurd w (by decide)⟩, fun w => absurd w (ne 2 (by decide)), ⟨fun w => absurd w (ne 3 (by decide)), fun w => absurd w (by decide)⟩, fun w => absurd w (ne 3 (by decide)), ⟨fun w => absurd w (ne 0 (by decide)), fun w => absurd w (by decide)⟩⟩
  · have cl := isS_lt k1
    have ne : ∀ v : Int32, v.toInt < 40 → Tc.1 4 2 ≠ v := fun v hv w => by
      rw [w] at cl
      omega
    rw [k2]
    exact ⟨⟨fun w => absurd w (ne 2 (by decide)), fun w => absurd w (by decide)⟩, fun w => absurd w (ne 2 (by decide)), ⟨fun w => absurd w (ne 3 (by decide)), fun w => absurd w (by decide)⟩, fun w => absurd w (ne 3 (by decide)), ⟨fun w => absurd w (ne 0 (by decide)), fun w => absurd w (by decide)⟩⟩
theorem FL_next {sz N p : Nat} {Tc R : tT} (hcs : CS sz N p Tc) (h : FL Tc R) : FL (F_X9_next Tc) R := FL_SF h (SF_next hcs).1
/-- a number in a range -/
theorem BR_num {sz N p b : Nat} {Tc Tr : tT} (hB : BR sz N p b Tc Tr) (lo hi : Int32) : ((Tc.1 4 2 = 2 ∧ lo ≤ Tc.1 4 4 ∧ Tc.1 4 4 ≤ hi ∧ F_X6_takeNumber Tc lo hi = (Tc.1 4 4, F_X9_next Tc) ∧ F_X11_numberOf Tr lo hi = (Tc.1 4 4, F_X11_next Tr)) ∨ ((F_X6_takeNumber Tc lo hi).1 = 0 ∧ FL (F_X6_takeNumber Tc lo hi).2 (F_X11_numberOf Tr lo hi).2 ∧ SF sz N p Tc (F_X6_takeNumber Tc lo hi).2 ∧ fr (wRe b) Tr (F_X11_numberOf Tr lo hi).2)) ∧ ok_X6_takeNumber sz Tc lo hi ∧ ok_X11_numberOf sz Tr lo hi := by
  obtain ⟨F, hF⟩ := fu8
  have hcs := hB.2.2.1
  have hc := hB.2.2.2.2.1.1
  have hr := hB.2.2.2.2.1.2
  obtain ⟨tn1, tn2, _⟩ := tk_num hB.2.2.2.1
  obtain ⟨_, _, _, n5, n6, _⟩ := BR_next hB
  obtain ⟨pl, e, _, _, t3, _⟩ := hB.2.2.2.1
  have okc : ok_X6_takeNumber sz Tc lo hi := ⟨fun _ => ⟨fun _ => ⟨(SF_next (SF_fail hcs _ _).1).2, trivial⟩, fun _ => ⟨fun _ => ⟨n5, trivial⟩, fun _ => ⟨(SF_next (SF_fail hcs _ _).1).2, trivial⟩⟩⟩, fun _ => ⟨(SF_next (SF_refuse hcs).1).2, trivial⟩⟩
  have bad : ∀ Tf Rf : tT, CS sz N p Tf → SF sz N p Tc Tf → FL Tf Rf → ((if (F_X9_next Tf).1 3 1 = 0 then (Tc.1 4 4, F_X9_next Tf) else ((0 : Int32), F_X9_next Tf)).1 = 0 ∧ FL (if (F_X9_next Tf).1 3 1 = 0 then (Tc.1 4 4, F_X9_next Tf) else ((0 : Int32), F_X9_next Tf)).2 Rf ∧ SF sz N p Tc (if (F_X9_next Tf).1 3 1 = 0 then (Tc.1 4 4, F_X9_next Tf) else ((0 : Int32), F_X9_next Tf)).2) := fun Tf Rf h1 h2 h3 => by
    have fn := FL_next h1 h3
    rw [if_neg fn.1]
    exact ⟨rfl, fn, SF_trans h2 (SF_next h1).1⟩
  unfold F_X6_takeNumber F_X11_numberOf ok_X11_numberOf
  by_cases k2 : Tc.1 4 2 = 2
  · have r4 := tn1.mp k2
    have rn := tn2 k2
    have g1 := good1 hr
    rw [if_pos k2, if_pos r4, hF, vl_X11_numberOf_s0, okl_X11_numberOf_s0, if_neg g1, rn]
    have sm : ∀ n, (vl_X11_numberOf (n + 2)).2.2 Tr = (Tc.1 4 4, F_X11_fails Tr 5 (Tr.1 105 6)) ∧ (okl_X11_numberOf (n + 2)).2.2 sz Tr := fun n => by
      have F5 := FL_fail hc hr (a := 5) (b := Tc.1 4 3) (b' := Tr.1 105 6) (by decide) t3.symm
      have g0 := good0 (show (F_X11_fails Tr 5 (Tr.1 105 6)).1 105 4 ≠ 0 by rw [F5.2.1]; exact F5.1)
      rw [vl_X11_numberOf_s2, okl_X11_numberOf_s2, vl_X11_numberOf_s1, okl_X11_numberOf_s1, if_pos g0]
      refine ⟨?_, fun _ => trivial, fun w => absurd g0 w⟩
      rw [fails_eq hr, tI_off (fun z => by have := z.2; omega), tI_off (fun z => by have := z.2; omega), rn]
    have F5 := FL_fail hc hr (a := 5) (b := Tc.1 4 3) (b' := Tr.1 105 6) (by decide) t3.symm
    by_cases c1 : Tc.1 4 4 < lo
    · rw [if_pos c1, if_pos c1, (sm (F + 5)).1]
      obtain ⟨x1, x2, x3⟩ := bad _ _ (SF_fail hcs 5 (Tc.1 4 3)).1 (SF_fail hcs 5 (Tc.1 4 3)) F5
      exact ⟨Or.inr ⟨x1, x2, x3, fr_fails _ _⟩, okc, fun _ => ⟨fun w => absurd w g1, fun _ => ⟨fun _ => (sm (F + 5)).2, fun w => absurd c1 w⟩⟩, fun w => absurd r4 w⟩
    · rw [if_neg c1, if_neg c1]
      by_cases c2 : Tc.1 4 4 ≤ hi
      · have f0 : (F_X9_next Tc).1 3 1 = 0 := (BR_next hB).1.2.2.2.2.1.1
        have e1 : (vl_X11_numberOf (F + 7)).2.1 Tr = (Tc.1 4 4, F_X11_next Tr) ∧ (okl_X11_numberOf (F + 7)).2.1 sz Tr := by
          rw [vl_X11_numberOf_s1, okl_X11_numberOf_s1, if_neg g1, rn]
          exact ⟨rfl, fun w => absurd w g1, fun _ => ⟨n6, trivial⟩⟩
        rw [if_pos c2, if_pos c2, if_pos f0, e1.1]
        exact ⟨Or.inl ⟨k2, by rw [tle]; rw [tlt] at c1; omega, c2, rfl, rfl⟩, okc, fun _ => ⟨fun w => absurd w g1, fun _ => ⟨fun w => absurd w c1, fun _ => ⟨fun _ => e1.2, fun w => absurd c2 w⟩⟩⟩, fun w => absurd r4 w⟩
      · rw [if_neg c2, if_neg c2, (sm (F + 5)).1]
        obtain ⟨x1, x2, x3⟩ := bad _ _ (SF_fail hcs 5 (Tc.1 4 3)).1 (SF_fail hcs 5 (Tc.1 4 3)) F5
        exact ⟨Or.inr ⟨x1, x2, x3, fr_fails _ _⟩, okc, fun _ => ⟨fun w => absurd w g1, fun _ => ⟨fun w => absurd w c1, fun _ => ⟨fun w => absurd w c2, fun _ => (sm (F + 5)).2⟩⟩⟩, fun w => absurd r4 w⟩
  · have r4 : ¬ Tr.1 105 8 = 4 := fun w => k2 (tn1.mpr w)
    have FR := FL_refuse hB.2.2.2.1 hc hr
    have g0 := good0 (wrong_ne hr)
    rw [if_neg k2, if_neg r4, hF, vl_X11_numberOf_s0, okl_X11_numberOf_s0, if_pos g0, vl_X11_numberOf_s1, okl_X11_numberOf_s1, if_pos g0]
    obtain ⟨x1, x2, x3⟩ := bad _ _ (SF_refuse hcs).1 (SF_refuse hcs) FR
    exact ⟨Or.inr ⟨x1, x2, x3, fr_wrong⟩, okc, fun w => absurd w r4, fun _ => ⟨fun _ => ⟨fun _ => trivial, fun w => absurd g0 w⟩, fun w => absurd g0 w⟩⟩
/-- a new name -/
theorem BR_name {sz N p q b h : Nat} {hv : Int32} {Tc Tr : tT} (hB : BR sz N p b Tc Tr) (hh : hv.toInt = h) (h40 : h < 40) (hN : NR q h Tc Tr) : ((Tc.1 4 2 = 3 ∧ F_X6_takeNewName Tc q = (Tc.2.1 4 5, F_X9_next Tc) ∧ F_X11_canName Tr hv = (1, Tr)) ∨ (FL (F_X6_takeNewName Tc q).2 (F_X11_canName Tr hv).2 ∧ (F_X11_canName Tr hv).1 = 0 ∧ SF sz N p Tc (F_X6_takeNewName Tc q).2 ∧ fr (wRe b) Tr (F_X11_canName Tr hv).2)) ∧ ok_X6_takeNewName sz Tc q ∧ ok_X11_canName sz Tr hv := by
  have hcs := hB.2.2.1
  have hc := hB.2.2.2.2.1.1
  have hr := hB.2.2.2.2.1.2
  obtain ⟨_, _, tn3, tn4, _⟩ := tk_num hB.2.2.2.1
  obtain ⟨_, _, _, n5, n6, _⟩ := BR_next hB
  obtain ⟨pl, e, _, _, t3, _⟩ := hB.2.2.2.1
  have nf := (SF_next (SF_fail hcs 3 (Tc.1 4 3)).1).2
  have okc : ok_X6_takeNewName sz Tc q := ⟨fun _ => ⟨⟨k_find, trivial⟩, fun _ => ⟨nf, trivial⟩, fun _ => ⟨⟨k_find, trivial⟩, fun _ => ⟨n5, trivial⟩, fun _ => ⟨nf, trivial⟩⟩⟩, fun _ => ⟨(SF_next (SF_refuse hcs).1).2, trivial⟩⟩
  have gz : ∀ T, v_X11_isGood T &&& 1 = v_X11_isGood T := fun T => by
    unfold v_X11_isGood
    split <;> decide
  have F3 := FL_fail hc hr (a := 3) (b := Tc.1 4 3) (b' := Tr.1 105 6) (by decide) t3.symm
  have g3 := good0 (show (F_X11_fails Tr 3 (Tr.1 105 6)).1 105 4 ≠ 0 by rw [F3.2.1]; exact F3.1)
  have s3 := SF_trans (SF_fail hcs 3 (Tc.1 4 3)) (SF_next (SF_fail hcs 3 (Tc.1 4 3)).1).1
  have fn3 := FL_next (SF_fail hcs 3 (Tc.1 4 3)).1 F3
  unfold F_X6_takeNewName F_X11_canName ok_X11_canName
  by_cases k3 : Tc.1 4 2 = 3
  · have r2 := tn3.mp k3
    have rw' := tn4 k3
    have g1 := good1 hr
    obtain ⟨q1, q2, q3⟩ := e_listOf (sz := sz) hh h40 hN (Tc.2.1 4 5)
    obtain ⟨p1, p2, p3⟩ := e_partOf (sz := sz) hh h40 hN (Tc.2.1 4 5)
    have gone : v_X11_isGood Tr = 1 := by unfold v_X11_isGood; rw [if_pos hr]
    have okr : (v_X11_isGood Tr = 0 → v_X11_isGood Tr &&& 1 = v_X11_isGood Tr) ∧ (¬ v_X11_isGood Tr = 0 → ok_X11_listOf sz Tr hv (Tr.2.1 105 10) ∧ (0 ≤ v_X11_listOf Tr hv (Tr.2.1 105 10) → v_X11_isGood (F_X11_fails Tr 3 (Tr.1 105 6)) &&& 1 = v_X11_isGood (F_X11_fails Tr 3 (Tr.1 105 6))) ∧ (¬ 0 ≤ v_X11_listOf Tr hv (Tr.2.1 105 10) → ok_X11_partOf sz Tr hv (Tr.2.1 105 10) ∧ (v_X11_partOf Tr hv (Tr.2.1 105 10) < 0 → v_X11_isGood Tr &&& 1 = v_X11_isGood Tr) ∧ (¬ v_X11_partOf Tr hv (Tr.2.1 105 10) < 0 → v_X11_isGood (F_X11_fails Tr 3 (Tr.1 105 6)) &&& 1 = v_X11_isGood (F_X11_fails Tr 3 (Tr.1 105 6))))) := by
      rw [rw']
      exact ⟨fun _ => gz _, fun _ => ⟨q2, fun _ => gz _, fun _ => ⟨p2, fun _ => gz _, fun _ => gz _⟩⟩⟩
    refine ⟨?_, okc, fun _ => okr, fun w => absurd r2 w⟩
    rw [if_pos k3, if_pos r2, if_neg g1, rw', q1, p1]
    rcases q3 with q3 | ⟨q3, _⟩
    · rw [if_pos q3, if_neg (show ¬ (0 : Int32) ≤ v_X3_findList Tc q (Tc.2.1 4 5) by rw [q3]; decide)]
      rcases p3 with p3 | ⟨p3, _⟩
      · rw [if_pos p3, if_pos (show v_X3_findPart Tc q (Tc.2.1 4 5) < 0 by rw [p3]; decide), gone]
        exact Or.inl ⟨k3, rfl, rfl⟩
      · rw [if_neg (fun w => by rw [w] at p3; exact absurd p3 (by decide)), if_neg (show ¬ v_X3_findPart Tc q (Tc.2.1 4 5) < 0 by rw [tlt]; rw [tle] at p3; omega)]
        exact Or.inr ⟨fn3, g3, s3, fr_fails _ _⟩
    · rw [if_neg (fun w => by rw [w] at q3; exact absurd q3 (by decide)), if_pos q3]
      exact Or.inr ⟨fn3, g3, s3, fr_fails _ _⟩
  · have r2 : ¬ Tr.1 105 8 = 2 := fun w => k3 (tn3.mpr w)
    have FR := FL_refuse hB.2.2.2.1 hc hr
    have g0 := good0 (wrong_ne hr)
    refine ⟨?_, okc, fun w => absurd w r2, fun _ => ⟨fun _ => gz _, fun w => absurd g0 w⟩⟩
    rw [if_neg k3, if_neg r2, if_pos g0]
    exact Or.inr ⟨FL_next (SF_refuse hcs).1 FR, g0, SF_trans (SF_refuse hcs) (SF_next (SF_refuse hcs).1).1, fr_wrong⟩
