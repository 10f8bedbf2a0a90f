/-! a grade's head -/
theorem BR_cg {sz N p b : Nat} {Tc Tr Tc' Tr' : tT} (k4 : ∀ i, Tc'.1 4 i = Tc.1 4 i) (k3 : ∀ i, Tc'.1 3 i = Tc.1 3 i) (k5 : Tc'.1 5 = Tc.1 5) (kp : Tc'.1 p 3 = Tc.1 p 3) (k1 : Tc'.2.1 1 = Tc.2.1 1) (kj : Tc'.2.1 4 5 = Tc.2.1 4 5) (kP : Tc'.2.2 3 3 = Tc.2.2 3 3) (r : ∀ i, Tr'.1 105 i = Tr.1 105 i) (rj : Tr'.2.1 105 10 = Tr.2.1 105 10) (r7 : Tr'.1 107 = Tr.1 107) (hB : BR sz N p b Tc Tr) : BR sz N p b Tc' Tr' := by
  obtain ⟨⟨⟨a1, a2, a3⟩, ⟨a4, a5⟩, a6⟩, b2, ⟨⟨c1, c2, c3⟩, ⟨a, d1, d2⟩, c4, ⟨u, d3, d4⟩, ⟨l, d5, d6⟩, c5, c6⟩, ⟨pl, e, t1, t2, t3, t4, t5, t6, t7, t8, t9, t10⟩, b5, b6, b7, b8⟩ := hB
  have sg : v_X11_sign Tr' (Tr.1 105 6) = v_X11_sign Tr (Tr.1 105 6) := by
    unfold v_X11_sign
    rw [r 3, r7]
  have ph : phi p Tc' = phi p Tc := by
    unfold phi
    rw [k4, k3, kp]
  refine ⟨⟨⟨by rw [k4]; exact a1, a2, by rw [k1]; exact a3⟩, ⟨by rw [r]; exact a4, a5⟩, ?_⟩, by rw [r]; exact b2, ⟨⟨by rw [k4]; exact c1, c2, by rw [k1]; exact c3⟩, ⟨a, by rw [k4]; exact d1, d2⟩, kP.trans c4, ⟨u, by rw [kp]; exact d3, d4⟩, ⟨l, by rw [k3]; exact d5, d6⟩, c5, c6⟩, ⟨pl, e, by rw [k4]; exact t1, by rw [k4]; exact t2, by rw [r, k4]; exact t3, by rw [r, k4]; exact t4, t5, t6, by rw [k4]; exact t7, by rw [k4]; exact t8, by rw [k4]; exact t9, ?_⟩, ⟨by rw [k3]; exact b5.1, by rw [r]; exact b5.2⟩, by rw [r, k3]; exact b6, by rw [r, kp]; exact b7, by rw [ph]; exact b8⟩
  · unfold bC bR
    rw [k5, r7]
    exact a6
  · rw [k4, k4, r, r, kj, rj, r, sg]
    exact t10
theorem find_0 {T : tT} {p : Nat} : v_X8_find T p 0 = none := by
  unfold v_X8_find
  rw [if_pos (by decide)]
theorem OG_bad {sz N p : Nat} {T B : tT} (hcs : CS sz N p T) (hB : F_X6_takeNumber (F_X6_take T 200) 1 8 = (0, B)) (hcB : CS sz N p B) (hf : B.1 3 1 ≠ 0) : F_X6_openGrade T = (none, B) ∧ ok_X6_openGrade sz T := by
  have hp : B.2.2 3 3 = some p := hcB.2.2.1
  have s1 := SF_take hcs 200
  have s2 := SF_num s1.1.1 1 8
  unfold F_X6_openGrade ok_X6_openGrade
  rw [hB]
  dsimp only
  rw [hp]
  dsimp only
  rw [find_0]
  dsimp only
  rw [take_F hf, if_neg hf]
  refine ⟨rfl, s1.2, s2.2, fun z => (by cases z), fun p3 h3 => ?_⟩
  cases h3
  refine ⟨hcB.2.2.2.2.2.1, ⟨fun _ => trivial, fun z => absurd (by decide) z⟩, fun _ => ⟨(SF_take hcB 123).2, fun _ => trivial, fun z => absurd z hf⟩, fun p5 h5 => ?_⟩
  rw [find_0] at h5
  cases h5
theorem num_F {sz N p : Nat} {T : tT} (hcs : CS sz N p T) (hf : T.1 3 1 ≠ 0) (lo hi : Int32) : (F_X6_takeNumber T lo hi).1 = 0 := by
  have n1 := SF_next hcs
  have n2 := SF_trans (SF_fail hcs 5 (T.1 4 3)) (SF_next (SF_fail hcs 5 (T.1 4 3)).1).1
  have n3 := SF_trans (SF_refuse hcs) (SF_next (SF_refuse hcs).1).1
  have key : ∀ T1, SF sz N p T (F_X9_next T1) → (if (F_X9_next T1).1 3 1 = 0 then (T.1 4 4, F_X9_next T1) else ((0 : Int32), F_X9_next T1)).1 = 0 := fun T1 h => by
    rw [if_neg (by rw [(h.2.2 hf).1]; exact hf)]
  unfold F_X6_takeNumber
  split
  · split
    · exact key _ n2
    · split
      · exact key _ n1.1
      · exact key _ n2
  · exact key _ n3
theorem wA_q {p k i : Nat} (h1 : p ≤ k) (h2 : k < p + 59) : wA p k i = true := by
  unfold wA
  rw [decide_eq_true (Or.inr ⟨h1, h2⟩), Bool.or_true]
theorem wH_q {b k i : Nat} (h : (k = 125 ∧ i = b) ∨ ((k = 110 ∨ k = 111 ∨ k = 113 ∨ k = 115 ∨ k = 116 ∨ k = 119 ∨ k = 120 ∨ k = 121 ∨ k = 122) ∧ i / 8 = b)) : wH b k i = true := by
  unfold wH
  rw [decide_eq_true (by omega), Bool.or_true]
theorem G_fresh {Tc Tr : tT} {p b g h : Nat} (c1 : Tc.1 g 1 = 0) (c2 : Tc.1 g 2 = 0) (c3 : Tc.1 g 3 = 0) (c4 : Tc.1 g 4 = 0) (c5 : Tc.1 g 5 = -1) (c6 : Tc.1 g 6 = -1) (r1 : Tr.1 111 h = 0) (r2 : Tr.1 113 h = 0) (r3 : Tr.1 115 h = 0) (r4 : Tr.1 116 h = 0) (r5 : Tr.1 119 h = -1) (r6 : Tr.1 121 h = -1) : GB2 Tc Tr p b g h := by
  have z : (0 : Int32).toInt = 0 := rfl
  unfold GB2 GL GP2 GM GMi GR
  rw [c1, c2, c3, c4, c5, c6, r1, r2, r3, r4, r5, r6, z]
  exact ⟨⟨by decide, fun l hl => by omega⟩, ⟨by decide, fun l hl => by omega⟩, ⟨by decide, fun l hl => by omega⟩, by decide, Or.inl ⟨rfl, rfl⟩, Or.inl ⟨rfl, rfl⟩⟩
set_option maxHeartbeats 1000000 in
theorem G_open {sz N p b F : Nat} {Tc Tr : tT} (hF : fu = F + 8) (p6 : 6 ≤ p) (hb : b < 5) (hBA : BA sz N p b Tc Tr) (k0 : Tc.1 4 2 ≠ 0) : ((∃ (j : Nat) (hv : Int32) (T' R' : tT), j < 8 ∧ hv.toInt = (8 * b + j : Nat) ∧ F_X6_openGrade Tc = (some (p + 3 + 7 * j), T') ∧ SA sz N p b Tc Tr T' R' ∧ T'.1 (p + 3 + 7 * j) 0 = 1 ∧ pos Tc + 1 ≤ pos T' ∧ F_X11_readGrade Tr = (vl_X11_readGrade (F + 5)).2.2.2 R' hv ∧ ((okl_X11_readGrade (F + 5)).2.2.2 sz R' hv → ok_X11_readGrade sz Tr)) ∨ (∃ T', F_X6_openGrade Tc = (none, T') ∧ FA sz N p b Tc Tr T' (F_X11_readGrade Tr) ∧ ok_X11_readGrade sz Tr)) ∧ ok_X6_openGrade sz Tc := by
  obtain ⟨hB, hA⟩ := hBA
  have hcs := hB.2.2.1
  have hts' : tsy sz p := hcs.2.2.2.2.2.1
  have hc := hB.2.2.2.2.1.1
  have hr := hB.2.2.2.2.1.2
  have tw' : v_X11_isWord Tr 444300616805 = 0 ↔ Tc.1 4 2 ≠ 200 := tk_word hB.2.2.2.1 (i := 0) (by decide)
  have bad2 : ∀ (n : Nat) (R : tT), v_X11_isGood R = 0 → (vl_X11_readGrade (n + 1)).2.2.1 R = R ∧ (okl_X11_readGrade (n + 1)).2.2.1 sz R := fun n R g0 => by
    rw [vl_X11_readGrade_s2, okl_X11_readGrade_s2, if_pos g0]
    exact ⟨rfl, fun z => absurd g0 z, fun _ => trivial⟩
  have bad1 : ∀ (n : Nat) (R : tT), v_X11_isGood R = 0 → (vl_X11_readGrade (n + 2)).2.1 R = R ∧ (okl_X11_readGrade (n + 2)).2.1 sz R := fun n R g0 => by
    rw [vl_X11_readGrade_s1, okl_X11_readGrade_s1, if_pos g0]
    exact ⟨(bad2 n R g0).1, fun _ => (bad2 n R g0).2, fun z => absurd g0 z⟩
  have bad0 : ∀ (n : Nat) (R : tT), v_X11_isGood R = 0 → (vl_X11_readGrade (n + 3)).1 R = R ∧ (okl_X11_readGrade (n + 3)).1 sz R := fun n R g0 => by
    rw [vl_X11_readGrade_s0, okl_X11_readGrade_s0, if_pos g0]
    exact ⟨(bad1 n R g0).1, fun _ => (bad1 n R g0).2, fun z => absurd g0 z⟩
  obtain ⟨n1, n2, n3, n4, n5, n6, n7, _⟩ := BR_next hB
  by_cases k200 : Tc.1 4 2 = 200
  rotate_left
  · have e := tw'.mpr k200
    have tk : F_X6_take Tc 200 = F_X6_refuse Tc := by
      unfold F_X6_take
      rw [if_pos hc, if_neg k200]
    have FR := FL_refuse hB.2.2.2.1 hc hr
    have sr := SF_refuse hcs
    have sn := SF_num sr.1 1 8
    have z := num_F sr.1 FR.1 1 8
    have fB := FL_SF FR sn.1
    obtain ⟨o1, o2⟩ := OG_bad (B := (F_X6_takeNumber (F_X6_refuse Tc) 1 8).2) hcs (by rw [tk]; exact Prod.ext z rfl) sn.1.1 fB.1
    have g0 := good0 (wrong_ne hr)
    have eR : F_X11_readGrade Tr = F_X11_wrong Tr := by
      unfold F_X11_readGrade
      rw [if_pos e, hF]
      exact (bad0 (F + 5) _ g0).1
    refine ⟨Or.inr ⟨_, o1, ?_, ?_⟩, o2⟩
    · rw [eR]
      exact ⟨fB, sn.1.1, fA1 (fr_trans sr.2.1 sn.1.2.1), fH1 fr_wrong⟩
    · unfold ok_X11_readGrade
      rw [hF]
      exact ⟨fun _ => (bad0 (F + 5) _ g0).2, fun z => absurd e z⟩
  have e : ¬ v_X11_isWord Tr 444300616805 = 0 := fun w => tw'.mp w k200
  have tk : F_X6_take Tc 200 = F_X9_next Tc := by
    unfold F_X6_take
    rw [if_pos hc, if_pos k200]
  have p1 := n7 k0
  have eR : F_X11_readGrade Tr = (vl_X11_readGrade (F + 8)).1 (F_X11_next Tr) := by
    unfold F_X11_readGrade
    rw [if_neg e, hF]
  have eO : (okl_X11_readGrade (F + 8)).1 sz (F_X11_next Tr) → ok_X11_readGrade sz Tr := fun o => by
    unfold ok_X11_readGrade
    rw [hF]
    exact ⟨fun z => absurd z e, fun _ => ⟨n5, o⟩⟩
  have hc1 : (F_X9_next Tc).1 3 1 = 0 := n1.2.2.2.2.1.1
  have hr1 : (F_X11_next Tr).1 105 4 = 0 := n1.2.2.2.2.1.2
  have g1 := good1 hr1
  obtain ⟨t1, t2, _⟩ := tk_num n1.2.2.2.1
  have t3 : (F_X11_next Tr).1 105 6 = (F_X9_next Tc).1 4 3 := by
    obtain ⟨pl, e, _, _, t3, _⟩ := n1.2.2.2.1
    exact t3
  obtain ⟨hN, okN, okN'⟩ := BR_num n1 1 8
  have okt : ok_X6_take sz Tc 200 := (SF_take hcs 200).2
  by_cases k2 : (F_X9_next Tc).1 4 2 = 2
  rotate_left
  · have r4 : ¬ (F_X11_next Tr).1 105 8 = 4 := fun w => k2 (t1.mpr w)
    have FR := FL_refuse n1.2.2.2.1 hc1 hr1
    have sr := SF_refuse n1.2.2.1
    have sq := SF_next sr.1
    have fB := FL_next sr.1 FR
    have eN : F_X6_takeNumber (F_X9_next Tc) 1 8 = (0, F_X9_next (F_X6_refuse (F_X9_next Tc))) := by
      unfold F_X6_takeNumber
      rw [if_neg k2, if_neg fB.1]
    obtain ⟨o1, o2⟩ := OG_bad hcs (by rw [tk]; exact eN) sq.1.1 fB.1
    have g0 := good0 (wrong_ne hr1)
    have eR' : (vl_X11_readGrade (F + 8)).1 (F_X11_next Tr) = F_X11_wrong (F_X11_next Tr) := by
      rw [vl_X11_readGrade_s0, if_neg g1, if_neg r4]
      exact (bad1 (F + 5) _ g0).1
    refine ⟨Or.inr ⟨_, o1, ?_, eO ?_⟩, o2⟩
    · rw [eR, eR']
      exact ⟨fB, sq.1.1, fA1 (fr_trans (w4_wE n2) (fr_trans sr.2.1 sq.1.2.1)), fH1 (fr_trans (w5_wRe n3) fr_wrong)⟩
    · rw [okl_X11_readGrade_s0]
      exact ⟨fun z => absurd z g1, fun _ => ⟨fun z => absurd z r4, fun _ => (bad1 (F + 5) _ g0).2⟩⟩
  have r4 := t1.mp k2
  have rn := t2 k2
  have toS1 : F_X11_readGrade Tr = (vl_X11_readGrade (F + 7)).2.1 (F_X11_next Tr) := by rw [eR, vl_X11_readGrade_s0, if_neg g1, if_pos r4]
  have okS1 : (okl_X11_readGrade (F + 7)).2.1 sz (F_X11_next Tr) → ok_X11_readGrade sz Tr := fun o => eO (by
    rw [okl_X11_readGrade_s0]
    exact ⟨fun z => absurd z g1, fun _ => ⟨fun _ => o, fun z => absurd r4 z⟩⟩)
  have z1 : (1 : Int32).toInt = 1 := rfl
  have z8 : (8 : Int32).toInt = 8 := rfl
  by_cases c1 : 1 ≤ (F_X9_next Tc).1 4 4 ∧ (F_X9_next Tc).1 4 4 ≤ 8
  rotate_left
  · have hN' : (F_X6_takeNumber (F_X9_next Tc) 1 8).1 = 0 ∧ FL (F_X6_takeNumber (F_X9_next Tc) 1 8).2 (F_X11_numberOf (F_X11_next Tr) 1 8).2 ∧ SF sz N p (F_X9_next Tc) (F_X6_takeNumber (F_X9_next Tc) 1 8).2 ∧ fr (wRe b) (F_X11_next Tr) (F_X11_numberOf (F_X11_next Tr) 1 8).2 := by
      rcases hN with ⟨_, lo, hi, _⟩ | w
      · exact absurd ⟨lo, hi⟩ c1
      · exact w
    obtain ⟨z0, zF, zS, zf⟩ := hN'
    obtain ⟨o1, o2⟩ := OG_bad (B := (F_X6_takeNumber (F_X9_next Tc) 1 8).2) hcs (by rw [tk]; exact Prod.ext z0 rfl) zS.1 zF.1
    have g0 := good0 (show (F_X11_numberOf (F_X11_next Tr) 1 8).2.1 105 4 ≠ 0 by rw [zF.2.1]; exact zF.1)
    have e2 : (vl_X11_readGrade (F + 6)).2.2.1 (F_X11_next Tr) = (F_X11_numberOf (F_X11_next Tr) 1 8).2 ∧ (okl_X11_readGrade (F + 6)).2.2.1 sz (F_X11_next Tr) := by
      rw [vl_X11_readGrade_s2, okl_X11_readGrade_s2, if_neg g1, if_pos g0]
      exact ⟨rfl, fun _ => ⟨okN', fun z => absurd g0 z, fun _ => trivial⟩, fun z => absurd z g1⟩
    have e1 : (vl_X11_readGrade (F + 7)).2.1 (F_X11_next Tr) = (vl_X11_readGrade (F + 6)).2.2.1 (F_X11_next Tr) ∧ (okl_X11_readGrade (F + 7)).2.1 sz (F_X11_next Tr) := by
      rw [vl_X11_readGrade_s1, okl_X11_readGrade_s1, if_neg g1, rn]
      by_cases d1 : (F_X9_next Tc).1 4 4 < 1
      · rw [if_pos d1]
        exact ⟨rfl, fun z => absurd z g1, fun _ => ⟨fun _ => e2.2, fun z => absurd d1 z⟩⟩
      · have d2 : 8 < (F_X9_next Tc).1 4 4 := by
          rw [tle, tle, z1, z8] at c1
          rw [tlt, z1] at d1
          rw [tlt, z8]
          omega
        rw [if_neg d1, if_pos d2]
        exact ⟨rfl, fun z => absurd z g1, fun _ => ⟨fun z => absurd z d1, fun _ => ⟨fun _ => e2.2, fun z => absurd d2 z⟩⟩⟩
    refine ⟨Or.inr ⟨_, o1, ?_, okS1 e1.2⟩, o2⟩
    rw [toS1, e1.1, e2.1]
    exact ⟨zF, zS.1, fA1 (fr_trans (w4_wE n2) zS.2.1), fH1 (fr_trans (w5_wRe n3) zf)⟩
  obtain ⟨c1, c2⟩ := c1
  obtain ⟨m1, m2, m3, m4, m5, m6, m7, _⟩ := BR_next n1
  have hc2 : (F_X9_next (F_X9_next Tc)).1 3 1 = 0 := m1.2.2.2.2.1.1
  have d1 : ¬ (F_X9_next Tc).1 4 4 < 1 := by
    rw [tle, z1] at c1
    rw [tlt, z1]
    omega
  have d2 : ¬ 8 < (F_X9_next Tc).1 4 4 := by
    rw [tle, z8] at c2
    rw [tlt, z8]
    omega
  have hN' : F_X6_takeNumber (F_X9_next Tc) 1 8 = ((F_X9_next Tc).1 4 4, F_X9_next (F_X9_next Tc)) ∧ F_X11_numberOf (F_X11_next Tr) 1 8 = ((F_X9_next Tc).1 4 4, F_X11_next (F_X11_next Tr)) := by
    rcases hN with ⟨_, _, _, w1, w2⟩ | ⟨_, zF, _⟩
    · exact ⟨w1, w2⟩
    · exfalso
      apply zF.1
      have : F_X6_takeNumber (F_X9_next Tc) 1 8 = ((F_X9_next Tc).1 4 4, F_X9_next (F_X9_next Tc)) := by
        unfold F_X6_takeNumber
        rw [if_pos k2, if_neg d1, if_pos c2, if_pos hc2]
      rw [this]
      exact hc2
  obtain ⟨hN1, hN2⟩ := hN'
  have hj : ∃ j : Nat, ((F_X9_next Tc).1 4 4).toInt = (j + 1 : Nat) ∧ j < 8 := by
    rw [tle, z1] at c1
    rw [tle, z8] at c2
    exact ⟨(((F_X9_next Tc).1 4 4).toInt - 1).toNat, by omega, by omega⟩
  obtain ⟨j, hx, j8⟩ := hj
  have b1 : ((F_X11_next Tr).1 105 12).toInt = b := n1.2.1
  have b2 : ((F_X11_next (F_X11_next Tr)).1 105 12).toInt = b := m1.2.1
  generalize (F_X9_next Tc).1 4 4 = x at *
  have xm : (x - 1).toInt = (j : Nat) := by
    rw [tsub (by rw [z1]; omega) (by rw [z1]; omega), z1]
    omega
  have ixg : ∀ a : Int32, a.toInt = b → (8 * a + x - 1).toInt = (8 * b + j : Nat) := fun a ha => by
    have q1 : (8 * a).toInt = 8 * b := by rw [tmul (by rw [z8]; omega) (by rw [z8]; omega), z8, ha]
    have q2 : (8 * a + x).toInt = 8 * b + (j + 1) := by rw [tadd (by omega) (by omega)]; omega
    rw [tsub (by rw [z1]; omega) (by rw [z1]; omega), z1]
    omega
  have i40 : ∀ a : Int32, a.toInt = b → vp_in (8 * a + x - 1) 40 := fun a ha => by
    rw [vp_in_iff, ixg a ha]
    omega
  have i8 : vp_in (x - 1) 8 := by rw [vp_in_iff]; omega
  have cB : ∀ k i, 5 ≤ k → (F_X9_next (F_X9_next Tc)).1 k i = Tc.1 k i ∧ (F_X9_next (F_X9_next Tc)).2.1 k i = Tc.2.1 k i ∧ (F_X9_next (F_X9_next Tc)).2.2 k i = Tc.2.2 k i := fun k i hk => ⟨(fr_i m2 (w4_z hk)).trans (fr_i n2 (w4_z hk)), (fr_j m2 (w4_z hk)).trans (fr_j n2 (w4_z hk)), (fr_p m2 (w4_z hk)).trans (fr_p n2 (w4_z hk))⟩
  have refj : (F_X9_next (F_X9_next Tc)).2.2 (p + 1) j = some (p + 3 + 7 * j) := (cB (p + 1) j (by omega)).2.2.trans (hA.2.1 j j8)
  have hpB : (F_X9_next (F_X9_next Tc)).2.2 3 3 = some p := m1.2.2.1.2.2.1
  have tg : tgr sz (p + 3 + 7 * j) := hts'.2.2.2.2.2 j j8
  obtain ⟨⟨told, told01⟩, fresh, _⟩ := hA.2.2 j j8
  have tB : (F_X9_next (F_X9_next Tc)).1 (p + 3 + 7 * j) 0 = Tc.1 (p + 3 + 7 * j) 0 := (cB _ 0 (by omega)).1
  have tR : (F_X11_next Tr).1 110 (8 * b + j) = Tc.1 (p + 3 + 7 * j) 0 := (fr_i n3 (w5_off (by decide))).trans told.symm
  have hfind : v_X8_find (F_X9_next (F_X9_next Tc)) p x = if Tc.1 (p + 3 + 7 * j) 0 = 0 then none else some (p + 3 + 7 * j) := by
    unfold v_X8_find
    rw [if_neg d1, if_neg d2, tnN xm, refj]
    dsimp only
    rw [tB]
  have okfind : ok_X8_find sz (F_X9_next (F_X9_next Tc)) p x := by
    refine ⟨fun _ => trivial, fun _ => ⟨fun _ => trivial, fun _ => ⟨i8, fun z => ?_, fun p1 hp1 => ?_⟩⟩⟩
    · rw [tnN xm, refj] at z
      cases z
    · rw [tnN xm, refj] at hp1
      cases hp1
      exact ⟨tg, fun _ => trivial, fun _ => i8⟩
  by_cases ct : Tc.1 (p + 3 + 7 * j) 0 = 0
  rotate_left
  · rw [if_neg ct] at hfind
    have F3 := FL_fail hc2 hr1 (a := 3) (b := (F_X9_next Tc).1 4 3) (b' := (F_X11_next Tr).1 105 6) (by decide) t3.symm
    have s3 := SF_fail m1.2.2.1 3 ((F_X9_next Tc).1 4 3)
    have g3 := good0 (show (F_X11_fails (F_X11_next Tr) 3 ((F_X11_next Tr).1 105 6)).1 105 4 ≠ 0 by rw [F3.2.1]; exact F3.1)
    have nt : ¬ (F_X11_next Tr).1 110 (8 * b + j) = 0 := by rw [tR]; exact ct
    have e1 : (vl_X11_readGrade (F + 7)).2.1 (F_X11_next Tr) = F_X11_fails (F_X11_next Tr) 3 ((F_X11_next Tr).1 105 6) ∧ (okl_X11_readGrade (F + 7)).2.1 sz (F_X11_next Tr) := by
      rw [vl_X11_readGrade_s1, okl_X11_readGrade_s1, if_neg g1, rn, if_neg d1, if_neg d2, tnN (ixg _ b1), if_neg nt]
      exact ⟨(bad2 (F + 5) _ g3).1, fun z => absurd z g1, fun _ => ⟨fun z => absurd z d1, fun _ => ⟨fun z => absurd z d2, fun _ => ⟨i40 _ b1, fun z => absurd z nt, fun _ => (bad2 (F + 5) _ g3).2⟩⟩⟩⟩
    have eC : F_X6_openGrade Tc = (none, F_X6_fail (F_X9_next (F_X9_next Tc)) 3 ((F_X9_next Tc).1 4 3)) := by
      unfold F_X6_openGrade
      rw [tk, hN1]
      dsimp only
      rw [hpB]
      dsimp only
      rw [hfind]
      dsimp only
      rw [take_F F3.1, if_neg F3.1]
    refine ⟨Or.inr ⟨_, eC, ?_, okS1 e1.2⟩, ?_⟩
    · rw [toS1, e1.1]
      exact ⟨F3, s3.1, fA1 (fr_trans (w4_wE n2) (fr_trans (w4_wE m2) s3.2.1)), fH1 (fr_trans (w5_wRe n3) (fr_fails _ _))⟩
    · unfold ok_X6_openGrade
      rw [tk, hN1]
      dsimp only
      refine ⟨okt, okN, fun z => (by rw [hpB] at z; cases z), fun p3 h3 => ?_⟩
      rw [hpB] at h3
      cases h3
      refine ⟨hts', okfind, fun z => (by rw [hfind] at z; cases z), fun p5 h5 => ?_⟩
      rw [hfind] at h5
      cases h5
      rw [take_F F3.1]
      exact ⟨tg, (SF_take s3.1 123).2, fun _ => trivial, fun z => absurd z F3.1⟩
  · rw [if_pos ct] at hfind
    obtain ⟨f1, f2, f3, f4, f5, f6⟩ := fresh ct
    have yt : (F_X11_next Tr).1 110 (8 * b + j) = 0 := by rw [tR]; exact ct
    have rR : ∀ k i, 106 ≤ k → (F_X11_next (F_X11_next Tr)).1 k i = Tr.1 k i ∧ (F_X11_next (F_X11_next Tr)).2.1 k i = Tr.2.1 k i := fun k i hk => ⟨(fr_i m3 (w5_off hk)).trans (fr_i n3 (w5_off hk)), (fr_j m3 (w5_off hk)).trans (fr_j n3 (w5_off hk))⟩
    have g2 := good1 m1.2.2.2.2.1.2
    have eW : tI (tI (tI (tI (tI (tI (tI (tI (F_X11_next (F_X11_next Tr)) 110 (8 * b + j) (1 &&& 1)) 125 b ((F_X11_next (F_X11_next Tr)).1 125 b + 1)) 111 (8 * b + j) 0) 113 (8 * b + j) 0) 115 (8 * b + j) 0) 116 (8 * b + j) 0) 119 (8 * b + j) (-1)) 121 (8 * b + j) (-1) = tI (tI (tI (tI (tI (tI (tI (tI (F_X11_next (F_X11_next Tr)) 110 (8 * b + j) (1 &&& 1)) 125 b ((F_X11_next (F_X11_next Tr)).1 125 b + 1)) 111 (8 * b + j) 0) 113 (8 * b + j) 0) 115 (8 * b + j) 0) 116 (8 * b + j) 0) 119 (8 * b + j) (-1)) 121 (8 * b + j) (-1) := rfl
    have toS3 : F_X11_readGrade Tr = (vl_X11_readGrade (F + 5)).2.2.2 (F_X11_must (tI (tI (tI (tI (tI (tI (tI (tI (F_X11_next (F_X11_next Tr)) 110 (8 * b + j) (1 &&& 1)) 125 b ((F_X11_next (F_X11_next Tr)).1 125 b + 1)) 111 (8 * b + j) 0) 113 (8 * b + j) 0) 115 (8 * b + j) 0) 116 (8 * b + j) 0) 119 (8 * b + j) (-1)) 121 (8 * b + j) (-1)) 123) (8 * (F_X11_next (F_X11_next Tr)).1 105 12 + x - 1) := by
      rw [toS1, vl_X11_readGrade_s1, if_neg g1, rn, if_neg d1, if_neg d2, tnN (ixg _ b1), if_pos yt, vl_X11_readGrade_s2, if_neg g1, hN2]
      dsimp only
      rw [if_neg g2, tnN (ixg _ b2), tnN b2]
    have okS3 : ok_X11_must sz (tI (tI (tI (tI (tI (tI (tI (tI (F_X11_next (F_X11_next Tr)) 110 (8 * b + j) (1 &&& 1)) 125 b ((F_X11_next (F_X11_next Tr)).1 125 b + 1)) 111 (8 * b + j) 0) 113 (8 * b + j) 0) 115 (8 * b + j) 0) 116 (8 * b + j) 0) 119 (8 * b + j) (-1)) 121 (8 * b + j) (-1)) 123 → (okl_X11_readGrade (F + 5)).2.2.2 sz (F_X11_must (tI (tI (tI (tI (tI (tI (tI (tI (F_X11_next (F_X11_next Tr)) 110 (8 * b + j) (1 &&& 1)) 125 b ((F_X11_next (F_X11_next Tr)).1 125 b + 1)) 111 (8 * b + j) 0) 113 (8 * b + j) 0) 115 (8 * b + j) 0) 116 (8 * b + j) 0) 119 (8 * b + j) (-1)) 121 (8 * b + j) (-1)) 123) (8 * (F_X11_next (F_X11_next Tr)).1 105 12 + x - 1) → ok_X11_readGrade sz Tr := fun o1 o2 => okS1 (by
      have v5 : vp_in ((F_X11_next (F_X11_next Tr)).1 105 12) 5 := by rw [vp_in_iff]; omega
      rw [okl_X11_readGrade_s1, rn, tnN (ixg _ b1)]
      refine ⟨fun z => absurd z g1, fun _ => ⟨fun z => absurd z d1, fun _ => ⟨fun z => absurd z d2, fun _ => ⟨i40 _ b1, fun _ => ?_, fun z => absurd yt z⟩⟩⟩⟩
      rw [okl_X11_readGrade_s2, hN2]
      dsimp only
      rw [tnN (ixg _ b2), tnN b2]
      exact ⟨fun _ => ⟨okN', fun _ => ⟨i40 _ b2, v5, v5, i40 _ b2, i40 _ b2, i40 _ b2, i40 _ b2, i40 _ b2, i40 _ b2, o1, o2⟩, fun _ => trivial⟩, fun z => absurd z g1⟩)
    have wo : ∀ k i, ¬ (k = 110 ∨ k = 111 ∨ k = 113 ∨ k = 115 ∨ k = 116 ∨ k = 119 ∨ k = 121 ∨ k = 125) ∨ (k ≠ 125 ∧ i ≠ 8 * b + j) → (tI (tI (tI (tI (tI (tI (tI (tI (F_X11_next (F_X11_next Tr)) 110 (8 * b + j) (1 &&& 1)) 125 b ((F_X11_next (F_X11_next Tr)).1 125 b + 1)) 111 (8 * b + j) 0) 113 (8 * b + j) 0) 115 (8 * b + j) 0) 116 (8 * b + j) 0) 119 (8 * b + j) (-1)) 121 (8 * b + j) (-1)).1 k i = (F_X11_next (F_X11_next Tr)).1 k i := fun k i h => by
      rw [tI_off (by omega), tI_off (by omega), tI_off (by omega), tI_off (by omega), tI_off (by omega), tI_off (by omega), tI_off (by omega), tI_off (by omega)]
    have w121 : (tI (tI (tI (tI (tI (tI (tI (tI (F_X11_next (F_X11_next Tr)) 110 (8 * b + j) (1 &&& 1)) 125 b ((F_X11_next (F_X11_next Tr)).1 125 b + 1)) 111 (8 * b + j) 0) 113 (8 * b + j) 0) 115 (8 * b + j) 0) 116 (8 * b + j) 0) 119 (8 * b + j) (-1)) 121 (8 * b + j) (-1)).1 121 (8 * b + j) = -1 := tI_at
    have w119 : (tI (tI (tI (tI (tI (tI (tI (tI (F_X11_next (F_X11_next Tr)) 110 (8 * b + j) (1 &&& 1)) 125 b ((F_X11_next (F_X11_next Tr)).1 125 b + 1)) 111 (8 * b + j) 0) 113 (8 * b + j) 0) 115 (8 * b + j) 0) 116 (8 * b + j) 0) 119 (8 * b + j) (-1)) 121 (8 * b + j) (-1)).1 119 (8 * b + j) = -1 := by rw [tI_off (by omega), tI_at]
    have w116 : (tI (tI (tI (tI (tI (tI (tI (tI (F_X11_next (F_X11_next Tr)) 110 (8 * b + j) (1 &&& 1)) 125 b ((F_X11_next (F_X11_next Tr)).1 125 b + 1)) 111 (8 * b + j) 0) 113 (8 * b + j) 0) 115 (8 * b + j) 0) 116 (8 * b + j) 0) 119 (8 * b + j) (-1)) 121 (8 * b + j) (-1)).1 116 (8 * b + j) = 0 := by rw [tI_off (by omega), tI_off (by omega), tI_at]
    have w115 : (tI (tI (tI (tI (tI (tI (tI (tI (F_X11_next (F_X11_next Tr)) 110 (8 * b + j) (1 &&& 1)) 125 b ((F_X11_next (F_X11_next Tr)).1 125 b + 1)) 111 (8 * b + j) 0) 113 (8 * b + j) 0) 115 (8 * b + j) 0) 116 (8 * b + j) 0) 119 (8 * b + j) (-1)) 121 (8 * b + j) (-1)).1 115 (8 * b + j) = 0 := by rw [tI_off (by omega), tI_off (by omega), tI_off (by omega), tI_at]
    have w113 : (tI (tI (tI (tI (tI (tI (tI (tI (F_X11_next (F_X11_next Tr)) 110 (8 * b + j) (1 &&& 1)) 125 b ((F_X11_next (F_X11_next Tr)).1 125 b + 1)) 111 (8 * b + j) 0) 113 (8 * b + j) 0) 115 (8 * b + j) 0) 116 (8 * b + j) 0) 119 (8 * b + j) (-1)) 121 (8 * b + j) (-1)).1 113 (8 * b + j) = 0 := by rw [tI_off (by omega), tI_off (by omega), tI_off (by omega), tI_off (by omega), tI_at]
    have w111 : (tI (tI (tI (tI (tI (tI (tI (tI (F_X11_next (F_X11_next Tr)) 110 (8 * b + j) (1 &&& 1)) 125 b ((F_X11_next (F_X11_next Tr)).1 125 b + 1)) 111 (8 * b + j) 0) 113 (8 * b + j) 0) 115 (8 * b + j) 0) 116 (8 * b + j) 0) 119 (8 * b + j) (-1)) 121 (8 * b + j) (-1)).1 111 (8 * b + j) = 0 := by rw [tI_off (by omega), tI_off (by omega), tI_off (by omega), tI_off (by omega), tI_off (by omega), tI_at]
    have w125 : (tI (tI (tI (tI (tI (tI (tI (tI (F_X11_next (F_X11_next Tr)) 110 (8 * b + j) (1 &&& 1)) 125 b ((F_X11_next (F_X11_next Tr)).1 125 b + 1)) 111 (8 * b + j) 0) 113 (8 * b + j) 0) 115 (8 * b + j) 0) 116 (8 * b + j) 0) 119 (8 * b + j) (-1)) 121 (8 * b + j) (-1)).1 125 b = (F_X11_next (F_X11_next Tr)).1 125 b + 1 := by rw [tI_off (by omega), tI_off (by omega), tI_off (by omega), tI_off (by omega), tI_off (by omega), tI_off (by omega), tI_at]
    have w110 : (tI (tI (tI (tI (tI (tI (tI (tI (F_X11_next (F_X11_next Tr)) 110 (8 * b + j) (1 &&& 1)) 125 b ((F_X11_next (F_X11_next Tr)).1 125 b + 1)) 111 (8 * b + j) 0) 113 (8 * b + j) 0) 115 (8 * b + j) 0) 116 (8 * b + j) 0) 119 (8 * b + j) (-1)) 121 (8 * b + j) (-1)).1 110 (8 * b + j) = 1 := by rw [tI_off (by omega), tI_off (by omega), tI_off (by omega), tI_off (by omega), tI_off (by omega), tI_off (by omega), tI_off (by omega), tI_at]; decide
    have wj : ∀ k i, (tI (tI (tI (tI (tI (tI (tI (tI (F_X11_next (F_X11_next Tr)) 110 (8 * b + j) (1 &&& 1)) 125 b ((F_X11_next (F_X11_next Tr)).1 125 b + 1)) 111 (8 * b + j) 0) 113 (8 * b + j) 0) 115 (8 * b + j) 0) 116 (8 * b + j) 0) 119 (8 * b + j) (-1)) 121 (8 * b + j) (-1)).2.1 k i = (F_X11_next (F_X11_next Tr)).2.1 k i := fun k i => rfl
    have fW : fr (wH b) (F_X11_next (F_X11_next Tr)) (tI (tI (tI (tI (tI (tI (tI (tI (F_X11_next (F_X11_next Tr)) 110 (8 * b + j) (1 &&& 1)) 125 b ((F_X11_next (F_X11_next Tr)).1 125 b + 1)) 111 (8 * b + j) 0) 113 (8 * b + j) 0) 115 (8 * b + j) 0) 116 (8 * b + j) 0) 119 (8 * b + j) (-1)) 121 (8 * b + j) (-1)) := fr_I (wH_q (by omega)) (fr_I (wH_q (by omega)) (fr_I (wH_q (by omega)) (fr_I (wH_q (by omega)) (fr_I (wH_q (by omega)) (fr_I (wH_q (by omega)) (fr_I (wH_q (by omega)) (fr_I (wH_q (by omega)) fr_refl)))))))
    generalize tI (tI (tI (tI (tI (tI (tI (tI (F_X11_next (F_X11_next Tr)) 110 (8 * b + j) (1 &&& 1)) 125 b ((F_X11_next (F_X11_next Tr)).1 125 b + 1)) 111 (8 * b + j) 0) 113 (8 * b + j) 0) 115 (8 * b + j) 0) 116 (8 * b + j) 0) 119 (8 * b + j) (-1)) 121 (8 * b + j) (-1) = W at *
    have hBW : BR sz N p b (F_X9_next (F_X9_next Tc)) W := BR_cg (fun _ => rfl) (fun _ => rfl) rfl rfl rfl rfl rfl (fun i => wo 105 i (by omega)) (wj 105 10) (funext fun i => wo 107 i (by omega)) m1
    obtain ⟨hT, okT, okT'⟩ := BR_take hBW (k := 123) (by unfold isS; decide)
    have fRW : fr (wH b) Tr W := fr_trans (fH1 (w5_wRe n3)) (fr_trans (fH1 (w5_wRe m3)) fW)
    have fCB : fr (wA p) Tc (F_X9_next (F_X9_next Tc)) := fr_trans (fA1 (w4_wE n2)) (fA1 (w4_wE m2))
    rcases hT with ⟨k123, u1, u2⟩ | ⟨k123, u1, u2, u3⟩
    rotate_left
    · have sr := SF_refuse m1.2.2.1
      have g0 := good0 (show (F_X11_wrong W).1 105 4 ≠ 0 by rw [u3.2.1]; exact u3.1)
      have eC : F_X6_openGrade Tc = (none, F_X6_refuse (F_X9_next (F_X9_next Tc))) := by
        unfold F_X6_openGrade
        rw [tk, hN1]
        dsimp only
        rw [hpB]
        dsimp only
        rw [hfind]
        dsimp only
        rw [u1, if_neg u3.1]
      refine ⟨Or.inr ⟨_, eC, ?_, okS3 okT' ?_⟩, ?_⟩
      · rw [toS3, u2, vl_X11_readGrade_s3, if_pos g0, if_pos g0]
        exact ⟨u3, sr.1, fr_trans fCB (fA1 sr.2.1), fr_trans fRW (fH1 fr_wrong)⟩
      · rw [u2, okl_X11_readGrade_s3]
        exact ⟨fun _ => ⟨fun _ => trivial, fun z => absurd g0 z⟩, fun z => absurd g0 z⟩
      · unfold ok_X6_openGrade
        rw [tk, hN1]
        dsimp only
        refine ⟨okt, okN, fun z => (by rw [hpB] at z; cases z), fun p3 h3 => ?_⟩
        rw [hpB] at h3
        cases h3
        refine ⟨hts', okfind, fun _ => ⟨okT, ?_⟩, fun p5 h5 => (by rw [hfind] at h5; cases h5)⟩
        rw [u1]
        exact ⟨fun _ => trivial, fun z => absurd z u3.1⟩
    · obtain ⟨l1, l2, l3, l4, l5, l6, l7, _⟩ := BR_next hBW
      have hc3 : (F_X9_next (F_X9_next (F_X9_next Tc))).1 3 1 = 0 := l1.2.2.2.2.1.1
      have hp3 : (F_X9_next (F_X9_next (F_X9_next Tc))).2.2 3 3 = some p := l1.2.2.1.2.2.1
      have cD : ∀ k i, 5 ≤ k → (F_X9_next (F_X9_next (F_X9_next Tc))).1 k i = Tc.1 k i ∧ (F_X9_next (F_X9_next (F_X9_next Tc))).2.1 k i = Tc.2.1 k i ∧ (F_X9_next (F_X9_next (F_X9_next Tc))).2.2 k i = Tc.2.2 k i := fun k i hk => ⟨(fr_i l2 (w4_z hk)).trans (cB k i hk).1, (fr_j l2 (w4_z hk)).trans (cB k i hk).2.1, (fr_p l2 (w4_z hk)).trans (cB k i hk).2.2⟩
      have refD : (F_X9_next (F_X9_next (F_X9_next Tc))).2.2 (p + 1) j = some (p + 3 + 7 * j) := (cD (p + 1) j (by omega)).2.2.trans (hA.2.1 j j8)
      have x8 : x ≤ 8 := c2
      have eop : F_X8_open (F_X9_next (F_X9_next (F_X9_next Tc))) p x = (some (p + 3 + 7 * j), tI (tI (F_X9_next (F_X9_next (F_X9_next Tc))) (p + 3 + 7 * j) 0 1) p 2 (Tc.1 p 2 + 1)) := by
        unfold F_X8_open
        rw [if_neg d1, if_pos x8, tnN xm, refD]
        dsimp only
        rw [tI_off (by omega), (cD p 2 (by omega)).1]
      have eC : F_X6_openGrade Tc = (some (p + 3 + 7 * j), tI (tI (F_X9_next (F_X9_next (F_X9_next Tc))) (p + 3 + 7 * j) 0 1) p 2 (Tc.1 p 2 + 1)) := by
        unfold F_X6_openGrade
        rw [tk, hN1]
        dsimp only
        rw [hpB]
        dsimp only
        rw [hfind]
        dsimp only
        rw [u1, if_pos hc3, hp3]
        dsimp only
        rw [eop]
      have okC : ok_X6_openGrade sz Tc := by
        unfold ok_X6_openGrade
        rw [tk, hN1]
        dsimp only
        refine ⟨okt, okN, fun z => (by rw [hpB] at z; cases z), fun p3 h3 => ?_⟩
        rw [hpB] at h3
        cases h3
        refine ⟨hts', okfind, fun _ => ⟨okT, ?_⟩, fun p5 h5 => (by rw [hfind] at h5; cases h5)⟩
        rw [u1]
        refine ⟨fun _ => trivial, fun _ => ⟨fun z => (by rw [hp3] at z; cases z), fun p7 h7 => ?_⟩⟩
        rw [hp3] at h7
        cases h7
        rw [eop]
        refine ⟨hts', ⟨fun _ => trivial, fun _ => ⟨fun _ => ⟨i8, fun z => ?_, fun p1 hp1 => ?_⟩, fun _ => trivial⟩⟩, fun _ => trivial, fun p9 h9 => ?_⟩
        · rw [tnN xm, refD] at z
          cases z
        · rw [tnN xm, refD] at hp1
          cases hp1
          exact ⟨tg, i8⟩
        · cases h9
          exact ⟨tg, trivial⟩
      have to : ∀ k i, ¬ (k = p + 3 + 7 * j ∧ i = 0) → ¬ (k = p ∧ i = 2) → (tI (tI (F_X9_next (F_X9_next (F_X9_next Tc))) (p + 3 + 7 * j) 0 1) p 2 (Tc.1 p 2 + 1)).1 k i = (F_X9_next (F_X9_next (F_X9_next Tc))).1 k i := fun k i h1 h2 => by rw [tI_off h2, tI_off h1]
      have tg1 : (tI (tI (F_X9_next (F_X9_next (F_X9_next Tc))) (p + 3 + 7 * j) 0 1) p 2 (Tc.1 p 2 + 1)).1 (p + 3 + 7 * j) 0 = 1 := by rw [tI_off (by omega), tI_at]
      have tp2 : (tI (tI (F_X9_next (F_X9_next (F_X9_next Tc))) (p + 3 + 7 * j) 0 1) p 2 (Tc.1 p 2 + 1)).1 p 2 = Tc.1 p 2 + 1 := tI_at
      have tj : (tI (tI (F_X9_next (F_X9_next (F_X9_next Tc))) (p + 3 + 7 * j) 0 1) p 2 (Tc.1 p 2 + 1)).2 = (F_X9_next (F_X9_next (F_X9_next Tc))).2 := rfl
      have fT : fr (wA p) (F_X9_next (F_X9_next (F_X9_next Tc))) (tI (tI (F_X9_next (F_X9_next (F_X9_next Tc))) (p + 3 + 7 * j) 0 1) p 2 (Tc.1 p 2 + 1)) := fr_I (wA_q (by omega) (by omega)) (fr_I (wA_q (by omega) (by omega)) fr_refl)
      generalize tI (tI (F_X9_next (F_X9_next (F_X9_next Tc))) (p + 3 + 7 * j) 0 1) p 2 (Tc.1 p 2 + 1) = T' at *
      have hB' : BR sz N p b T' (F_X11_next W) := BR_cg (fun i => to 4 i (by omega) (by omega)) (fun i => to 3 i (by omega) (by omega)) (funext fun i => to 5 i (by omega) (by omega)) (to p 3 (by omega) (by omega)) (by rw [tj]) (by rw [tj]) (by rw [tj]) (fun _ => rfl) rfl rfl l1
      have rW : ∀ k i, 106 ≤ k → (F_X11_next W).1 k i = W.1 k i ∧ (F_X11_next W).2.1 k i = W.2.1 k i := fun k i hk => ⟨fr_i l3 (w5_off hk), fr_j l3 (w5_off hk)⟩
      have kc : kpC p Tc T' := kpC_eq (by rw [to p 3 (by omega) (by omega), (cD p 3 (by omega)).1]) (fun i => by rw [to (p + 2) i (by omega) (by omega), (cD (p + 2) i (by omega)).1])
      have kr : kpR b Tr (F_X11_next W) := kpR_trans (kpR_w5 n3) (kpR_trans (kpR_w5 m3) (kpR_trans (kpR_eq (wo 105 14 (by omega)) (fun i => wo 123 i (by omega)) (fun i => wo 124 i (by omega))) (kpR_w5 l3)))
      have gA : GA T' (F_X11_next W) p b := by
        refine ⟨?_, fun i hi => by rw [tj, (cD (p + 1) i (by omega)).2.2]; exact hA.2.1 i hi, fun i hi => ?_⟩
        · rw [tp2, (rW 125 b (by decide)).1, w125, (rR 125 b (by decide)).1, hA.1]
        · by_cases c : i = j
          · rw [c]
            have t : ∀ i, i ≠ 0 → T'.1 (p + 3 + 7 * j) i = Tc.1 (p + 3 + 7 * j) i := fun i hi => by rw [to _ i (by omega) (by omega), (cD _ i (by omega)).1]
            unfold GJ
            rw [tg1, (rW 110 _ (by decide)).1, w110]
            refine ⟨⟨rfl, Or.inr rfl⟩, fun z => absurd z (by decide), fun _ => G_fresh ?_ ?_ ?_ ?_ ?_ ?_ ?_ ?_ ?_ ?_ ?_ ?_⟩
            · rw [t 1 (by decide)]; exact f1
            · rw [t 2 (by decide)]; exact f2
            · rw [t 3 (by decide)]; exact f3
            · rw [t 4 (by decide)]; exact f4
            · rw [t 5 (by decide)]; exact f5
            · rw [t 6 (by decide)]; exact f6
            · rw [(rW 111 _ (by decide)).1, w111]
            · rw [(rW 113 _ (by decide)).1, w113]
            · rw [(rW 115 _ (by decide)).1, w115]
            · rw [(rW 116 _ (by decide)).1, w116]
            · rw [(rW 119 _ (by decide)).1, w119]
            · rw [(rW 121 _ (by decide)).1, w121]
          · obtain ⟨y1, y2, y3⟩ := hA.2.2 i hi
            have ec : eqC (p + 3 + 7 * i) Tc T' := fun o ho => ⟨funext fun l => by rw [to _ l (by omega) (by omega), (cD _ l (by omega)).1], funext fun l => by rw [tj, (cD _ l (by omega)).2.1]⟩
            have er : eqR (8 * b + i) Tr (F_X11_next W) := by
              have r : ∀ k l, 106 ≤ k → k ≠ 125 → (¬ (k = 110 ∨ k = 111 ∨ k = 113 ∨ k = 115 ∨ k = 116 ∨ k = 119 ∨ k = 121 ∨ k = 125) ∨ (k ≠ 125 ∧ l ≠ 8 * b + j)) → (F_X11_next W).1 k l = Tr.1 k l := fun k l h1 h2 h3 => by rw [(rW k l h1).1, wo k l h3, (rR k l h1).1]
              have rj : ∀ k l, 106 ≤ k → (F_X11_next W).2.1 k l = Tr.2.1 k l := fun k l h1 => by rw [(rW k l h1).2, wj k l, (rR k l h1).2]
              refine ⟨⟨?_, ?_, ?_, ?_, ?_, ?_, ?_, ?_⟩, fun l hl => ⟨?_, ?_, ?_, ?_⟩, fun l k hl hk => ?_, fun m hm => ⟨?_, ?_⟩⟩ <;> first | exact r _ _ (by decide) (by decide) (by omega) | exact rj _ _ (by decide)
            have c0 : ∀ l, T'.1 (p + 3 + 7 * i) l = Tc.1 (p + 3 + 7 * i) l := fun l => (eqC_i ec 0 l (by decide)).1
            have r110 : (F_X11_next W).1 110 (8 * b + i) = Tr.1 110 (8 * b + i) := by rw [(rW 110 _ (by decide)).1, wo 110 _ (by omega), (rR 110 _ (by decide)).1]
            unfold GJ
            rw [c0, c0, c0, c0, c0, c0, c0, r110]
            exact ⟨y1, y2, fun z => GB2_up kc kr ec er (y3 z)⟩
      have pT : pos T' = pos (F_X9_next (F_X9_next (F_X9_next Tc))) := by
        unfold pos
        rw [to 4 3 (by omega) (by omega)]
      refine ⟨Or.inl ⟨j, 8 * (F_X11_next (F_X11_next Tr)).1 105 12 + x - 1, T', F_X11_next W, j8, ixg _ b2, eC, ⟨⟨hB', gA⟩, fr_trans fCB (fr_trans (fA1 (w4_wE l2)) fT), fr_trans fRW (fH1 (w5_wRe l3))⟩, tg1, by omega, ?_, fun o => okS3 okT' ?_⟩, okC⟩
      · rw [toS3, u2]
      · rw [u2]
        exact o
