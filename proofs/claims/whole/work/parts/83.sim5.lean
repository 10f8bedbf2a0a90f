/-! e: a leaf's meaning -/
section
variable {sz N p q b h : Nat} {hv mv : Int32} {m : Bool} {ls ps : Int32} {s f k dp ht : Nat} {l : List (Int32 × Int32)} {Tc Tr : tT}
/-- one leaf more -/
theorem ER_lv (he : ER sz N p q b h mv m ls ps s f k dp ht l Tc Tr) (g : gq p q) (h15 : (Tc.1 3 5).toInt < 150) : ER sz N p q b h mv m ls ps s f k dp ht l (tI Tc 3 5 (Tc.1 3 5 + 1)) (tI Tr 105 13 (Tr.1 105 13 + 1)) ∧ phi p (tI Tc 3 5 (Tc.1 3 5 + 1)) = phi p Tc + 4 ∧ ((tI Tc 3 5 (Tc.1 3 5 + 1)).1 3 5).toInt = (Tc.1 3 5).toInt + 1 := by
  obtain ⟨e1, e2, ⟨pl, e, t1, t2, t3, t4, t5, t6, t7, t8, t9, t10⟩, ⟨e4, e4'⟩, e5, ⟨l1, l2, l3, l4, l5, l6, l7⟩, e7, ⟨e8, e8'⟩, e9⟩ := he
  obtain ⟨lv, hlv, lv1⟩ := e2.2.2.2.2.1
  have g1 := g.1
  have inc : (Tc.1 3 5 + 1).toInt = (Tc.1 3 5).toInt + 1 := tinc' (by omega)
  have c : ∀ a i, a ≠ 3 → (tI Tc 3 5 (Tc.1 3 5 + 1)).1 a i = Tc.1 a i := fun a i ha => tI_off (fun w => ha w.1)
  have c3 : ∀ i, i ≠ 5 → (tI Tc 3 5 (Tc.1 3 5 + 1)).1 3 i = Tc.1 3 i := fun i hi => tI_off (fun w => hi w.2)
  have c35 : (tI Tc 3 5 (Tc.1 3 5 + 1)).1 3 5 = Tc.1 3 5 + 1 := tI_at
  have r : ∀ i, i ≠ 13 → (tI Tr 105 13 (Tr.1 105 13 + 1)).1 105 i = Tr.1 105 i := fun i hi => tI_off (fun w => hi w.2)
  have ro : ∀ a i, a ≠ 105 → (tI Tr 105 13 (Tr.1 105 13 + 1)).1 a i = Tr.1 a i := fun a i ha => tI_off (fun w => ha w.1)
  have ph : phi p (tI Tc 3 5 (Tc.1 3 5 + 1)) = phi p Tc + 4 := by
    unfold phi
    rw [c 4 3 (by decide), c p 3 (by omega), c35, inc]
    omega
  have sg : v_X11_sign (tI Tr 105 13 (Tr.1 105 13 + 1)) (Tr.1 105 6) = v_X11_sign Tr (Tr.1 105 6) := by
    unfold v_X11_sign
    rw [r 3 (by decide), ro 107 _ (by decide)]
  refine ⟨⟨S0_fr g e1 (fr_I (wE_3 (by omega)) fr_refl) (fr_I (by unfold wRe; rfl) fr_refl), CS_3 e2 (Or.inr ⟨lv + 1, by omega, by omega⟩), ⟨pl, e, by rw [c 4 3 (by decide)]; exact t1, by rw [c 4 6 (by decide)]; exact t2, by rw [c 4 3 (by decide), r 6 (by decide)]; exact t3, by rw [c 4 6 (by decide), r 7 (by decide)]; exact t4, t5, t6, by rw [c 4 2 (by decide)]; exact t7, by rw [c 4 2 (by decide)]; exact t8, by rw [c 4 2 (by decide)]; exact t9, ?_⟩, ⟨by rw [c3 1 (by decide)]; exact e4, by rw [r 4 (by decide)]; exact e4'⟩, by rw [tI_at, c35, e5], ⟨by rw [c p 3 (by omega)]; exact l1, ?_, by rw [r 14 (by decide)]; exact l3, l4, ?_, l6, by rw [c35, inc]; omega⟩, e7, ⟨by rw [r 37 (by decide)]; exact e8, by rw [r 38 (by decide)]; exact e8'⟩, by rw [ph]; omega⟩, ph, by rw [c35]; exact inc⟩
  · rw [c 4 2 (by decide), c 4 4 (by decide), r 6 (by decide), r 8 (by decide), r 9 (by decide), sg]
    exact t10
  · exact Cs_eq (fun i _ _ => c (p + 2) i (by omega)) l2
  · exact Rs_eq (fun i _ _ => ⟨ro 123 i (by decide), ro 124 i (by decide)⟩) l5
/-- the kinds of leaves -/
def lfT (k : Int32) : Prop := k = 2 ∨ k = 3 ∨ ∃ i, 10 ≤ i ∧ i < 15 ∧ k = nI (200 + i)
theorem isLeaf_iff {T : tT} {N : Nat} {Tc Tr : tT} (h : TK N Tc Tr) : (v_X6_isLeaf T (Tc.1 4 2) = 0 ↔ ¬ lfT (Tc.1 4 2)) := by
  obtain ⟨pl, e, _, _, _, _, _, _, _, _, _, kr⟩ := h
  unfold v_X6_isLeaf lfT
  rcases kr with ⟨k1, k2⟩ | ⟨k1, k2⟩ | ⟨k1, k2, _⟩ | ⟨k1, k2, _⟩ | ⟨j, j1, k1, k2, k3⟩ | ⟨k1, k2, k3⟩
  · rw [k1, if_neg (by decide), if_neg (by decide), if_pos (by decide)]
    refine ⟨fun _ w => ?_, fun _ => rfl⟩
    rcases w with w | w | ⟨i, i1, i2, w⟩
    · exact absurd w (by decide)
    · exact absurd w (by decide)
    · rw [teq, nI_toInt (by omega), show (0 : Int32).toInt = 0 from rfl] at w; omega
  · rw [k1, if_neg (by decide), if_neg (by decide), if_pos (by decide)]
    refine ⟨fun _ w => ?_, fun _ => rfl⟩
    rcases w with w | w | ⟨i, i1, i2, w⟩
    · exact absurd w (by decide)
    · exact absurd w (by decide)
    · rw [teq, nI_toInt (by omega), show (1 : Int32).toInt = 1 from rfl] at w; omega
  · rw [k1, if_pos rfl]
    exact ⟨fun w => absurd w (by decide), fun w => absurd (Or.inl rfl) w⟩
  · rw [k1, if_neg (by decide), if_pos rfl]
    exact ⟨fun w => absurd w (by decide), fun w => absurd (Or.inr (Or.inl rfl)) w⟩
  · have kv : (nI (200 + j)).toInt = 200 + j := by rw [nI_toInt (by omega)]; omega
    have z2 : (2 : Int32).toInt = 2 := rfl
    have z3 : (3 : Int32).toInt = 3 := rfl
    rw [k1, if_neg (by rw [teq, kv, z2]; omega), if_neg (by rw [teq, kv, z3]; omega)]
    by_cases c : 10 ≤ j
    · rw [if_neg (by rw [tlt, kv, show (210 : Int32).toInt = 210 from rfl]; omega), if_neg (by rw [tlt, kv, show (214 : Int32).toInt = 214 from rfl]; omega)]
      exact ⟨fun w => absurd w (by decide), fun w => absurd (Or.inr (Or.inr ⟨j, c, j1, rfl⟩)) w⟩
    · rw [if_pos (by rw [tlt, kv, show (210 : Int32).toInt = 210 from rfl]; omega)]
      refine ⟨fun _ w => ?_, fun _ => rfl⟩
      rcases w with w | w | ⟨i, i1, i2, w⟩
      · rw [teq, kv, z2] at w; omega
      · rw [teq, kv, z3] at w; omega
      · have := nI200 j1 i2 w; omega
  · have cl := isS_lt k1
    have z2 : (2 : Int32).toInt = 2 := rfl
    have z3 : (3 : Int32).toInt = 3 := rfl
    rw [if_neg (fun w => by rw [w, z2] at cl; omega), if_neg (fun w => by rw [w, z3] at cl; omega), if_pos (by rw [tlt, show (210 : Int32).toInt = 210 from rfl]; omega)]
    refine ⟨fun _ w => ?_, fun _ => rfl⟩
    rcases w with w | w | ⟨i, i1, i2, w⟩
    · rw [w, z2] at cl; omega
    · rw [w, z3] at cl; omega
    · rw [w, nI_toInt (by omega)] at cl; omega
/-- how a leaf comes out: a step of both, or the same fault -/
def LO (sz N p q b h : Nat) (mv : Int32) (m : Bool) (ls ps : Int32) (s f k dp ht : Nat) (l : List (Int32 × Int32)) (Tc Tr Tc' Tr' : tT) : Prop := ((∃ x, ER sz N p q b h mv m ls ps s f k dp (ht + 1) (l ++ [x]) Tc' Tr' ∧ kpC p Tc Tc' ∧ kpR b Tr Tr' ∧ phi p Tc' = phi p Tc - 3 ∧ (∀ i, Tc'.1 4 i = Tc.1 4 i) ∧ (∀ i, Tr'.1 129 i = Tr.1 129 i ∧ Tr'.1 130 i = Tr.1 130 i)) ∨ FL Tc' Tr') ∧ fr (wRe b) Tr Tr'
theorem emit_leaf (g : gq p q) (hb : b < 5) (he : ER sz N p q b h mv m ls ps s f k dp ht l Tc Tr) {kk vv : Int32} (h3 : 3 ≤ phi p Tc) (hl : lfK kk = true) (hv' : 0 ≤ vv.toInt ∧ vv.toInt < 1048576) (hi : vI m ls ps kk vv) (hn : (lfN l : Int) + 1 ≤ (Tc.1 3 5).toInt) : LO sz N p q b h mv m ls ps s f k dp ht l Tc Tr (F_X8_addCell Tc p kk vv) (F_X11_step Tr (rc kk) vv) ∧ ok_X11_step sz Tr (rc kk) vv ∧ (F_X11_step Tr (rc kk) vv).1 105 4 = 0 := by
  have hk : 0 ≤ kk.toInt ∧ kk.toInt < 1024 := by
    rcases lfK_cases hl with w | w | w | w | w | w | w | w <;> rw [w] <;> decide
  obtain ⟨x1, x2, x3, x4, x5, x6, x7, x8, x9⟩ := ER_emit g hb he (rv := vv) (ht' := ht + 1) h3 hk hv' hi (by
    unfold hts
    rw [if_pos hl]
    rfl) (fun _ => rfl) (by rw [if_pos hl]; exact hn)
  exact ⟨⟨Or.inl ⟨_, x1, x5, x6, x7, x8, x9⟩, x3⟩, x4, x1.2.2.2.1.2⟩
theorem fail_leaf (he : ER sz N p q b h mv m ls ps s f k dp ht l Tc Tr) : LO sz N p q b h mv m ls ps s f k dp ht l Tc Tr (F_X6_fail Tc 4 (Tc.1 4 3)) (F_X11_fails Tr 4 (Tr.1 105 6)) ∧ (F_X11_fails Tr 4 (Tr.1 105 6)).1 105 4 ≠ 0 := by
  obtain ⟨pl, e, t1, t2, t3, _⟩ := he.2.2.1
  have F := FL_fail he.2.2.2.1.1 he.2.2.2.1.2 (a := 4) (b := Tc.1 4 3) (b' := Tr.1 105 6) (by decide) t3.symm
  refine ⟨⟨Or.inr F, fr_fails _ _⟩, ?_⟩
  rw [F.2.1]
  exact F.1
/-- a leaf means the same to both -/
theorem e_mean (g : gq p q) (hb : b < 5) (hh : hv.toInt = h) (h40 : h < 40) (hm : (mv = 1 ∧ m = true) ∨ (mv = 0 ∧ m = false)) (he : ER sz N p q b h mv m ls ps s f k dp ht l Tc Tr) (h3 : 3 ≤ phi p Tc) (hn : (lfN l : Int) + 1 ≤ (Tc.1 3 5).toInt) (hl : lfT (Tc.1 4 2)) (h2 : Tc.1 4 2 ≠ 2) : LO sz N p q b h mv m ls ps s f k dp ht l Tc Tr (F_X6_addMeaning Tc q) (F_X11_meant Tr hv mv) ∧ ok_X11_meant sz Tr hv mv := by
  have hp := he.2.1.2.2.1
  have hmv := he.1.2.2.1
  have hNR := he.1.2.2.2.1
  have hls := he.1.2.2.2.2.1
  have hps := he.1.2.2.2.2.2
  obtain ⟨fu', hfu⟩ : ∃ n, fu = n + 4 := ⟨9999996, by rw [fu_eq]⟩
  obtain ⟨pl, e, t1, t2, t3, t4, t5, t6, t7, t8, t9, kr⟩ := he.2.2.1
  have z2 : (2 : Int32).toInt = 2 := rfl
  have z3 : (3 : Int32).toInt = 3 := rfl
  rcases hl with w | w | ⟨i, i1, i2, w⟩
  · exact absurd w h2
  · -- a name
    have tw : Tr.1 105 8 = 2 ∧ Tr.2.1 105 10 = Tc.2.1 4 5 := by
      rcases kr with ⟨k1, _⟩ | ⟨k1, _⟩ | ⟨k1, _⟩ | ⟨k1, k2, k3, _⟩ | ⟨j, j1, k1, _⟩ | ⟨k1, _⟩
      · rw [w] at k1; exact absurd k1 (by decide)
      · rw [w] at k1; exact absurd k1 (by decide)
      · rw [w] at k1; exact absurd k1 (by decide)
      · exact ⟨k2, k3⟩
      · rw [w, teq, nI_toInt (by omega), z3] at k1; omega
      · have := isS_lt k1
        rw [w, z3] at this
        omega
    have ns : ¬ Tr.1 105 8 = 3 := by rw [tw.1]; decide
    unfold F_X6_addMeaning F_X11_meant ok_X11_meant
    rw [if_neg h2, if_pos w, if_neg ns, hmv, tw.2]
    obtain ⟨p1, p2, p3⟩ := e_partOf (sz := sz) hh h40 hNR (Tc.2.1 4 5)
    obtain ⟨q1, q2, q3⟩ := e_listOf (sz := sz) hh h40 hNR (Tc.2.1 4 5)
    rcases hm with ⟨m1, m2⟩ | ⟨m1, m2⟩
    · have m0 : ¬ mv = 0 := by rw [m1]; decide
      rw [if_neg m0, if_neg m0, if_neg m0, q1, hfu, vl_X11_meant_s0, okl_X11_meant_s0]
      unfold F_X6_addNamed
      rcases q3 with q3 | ⟨q3, q4⟩
      · rw [if_pos q3, if_neg (by rw [q3]; decide)]
        obtain ⟨f1, f2⟩ := fail_leaf he
        exact ⟨f1, fun _ => ⟨fun z => absurd z m0, fun _ => ⟨q2, fun z => absurd z (by rw [q3]; decide), fun _ => trivial⟩⟩, fun z => absurd z ns⟩
      · have v0 := tle.mp q3
        have v1 := tlt.mp q4
        rw [show (0 : Int32).toInt = 0 from rfl] at v0
        have l6 := tle.mp hNR.1.2.2
        rw [show (6 : Int32).toInt = 6 from rfl] at l6
        rw [if_neg (fun z => by rw [z] at v0; exact absurd v0 (by decide)), if_pos q3, if_neg m0, hp]
        obtain ⟨f1, f2, _⟩ := emit_leaf g hb he (kk := 201) (vv := v_X3_findList Tc q (Tc.2.1 4 5)) h3 rfl ⟨by omega, by omega⟩ (Or.inr (Or.inl ⟨m2, Or.inl ⟨rfl, q3, by rw [← hls]; exact q4⟩⟩)) hn
        exact ⟨f1, fun _ => ⟨fun z => absurd z m0, fun _ => ⟨q2, fun _ => ⟨fun z => absurd z m0, fun _ => ⟨f2, trivial⟩⟩, fun z => absurd q3 z⟩⟩, fun z => absurd z ns⟩
    · have m0 : mv = 0 := m1
      rw [if_pos m0, if_pos m0, if_pos m0, p1, hfu, vl_X11_meant_s0, okl_X11_meant_s0]
      unfold F_X6_addNamed
      rcases p3 with p3 | ⟨p3, p4⟩
      · rw [if_pos p3, if_neg (by rw [p3]; decide)]
        obtain ⟨f1, f2⟩ := fail_leaf he
        exact ⟨f1, fun _ => ⟨fun _ => ⟨p2, fun z => absurd z (by rw [p3]; decide), fun _ => trivial⟩, fun z => absurd m0 z⟩, fun z => absurd z ns⟩
      · have v0 := tle.mp p3
        have v1 := tlt.mp p4
        rw [show (0 : Int32).toInt = 0 from rfl] at v0
        have l6 := tle.mp hNR.2.1.2.2
        rw [show (6 : Int32).toInt = 6 from rfl] at l6
        rw [if_neg (fun z => by rw [z] at v0; exact absurd v0 (by decide)), if_pos p3, if_pos m0, hp]
        obtain ⟨f1, f2, _⟩ := emit_leaf g hb he (kk := 202) (vv := v_X3_findPart Tc q (Tc.2.1 4 5)) h3 rfl ⟨by omega, by omega⟩ (Or.inr (Or.inr (Or.inl ⟨m2, Or.inl ⟨rfl, p3, by rw [← hps]; exact p4⟩⟩))) hn
        exact ⟨f1, fun _ => ⟨fun _ => ⟨p2, fun _ => ⟨fun _ => ⟨f2, trivial⟩, fun z => absurd m0 z⟩, fun z => absurd p3 z⟩, fun z => absurd m0 z⟩, fun z => absurd z ns⟩
  · -- a kept word
    have tw : Tr.1 105 8 = 3 ∧ Tr.2.1 105 10 = kw i := by
      rcases kr with ⟨k1, _⟩ | ⟨k1, _⟩ | ⟨k1, _⟩ | ⟨k1, _⟩ | ⟨j, j1, k1, k2, k3⟩ | ⟨k1, _⟩
      · rw [w, teq, nI_toInt (by omega), show (0 : Int32).toInt = 0 from rfl] at k1; omega
      · rw [w, teq, nI_toInt (by omega), show (1 : Int32).toInt = 1 from rfl] at k1; omega
      · rw [w, teq, nI_toInt (by omega), z2] at k1; omega
      · rw [w, teq, nI_toInt (by omega), z3] at k1; omega
      · rw [w] at k1
        rw [nI200 i2 j1 k1]
        exact ⟨k2, k3⟩
      · have := isS_lt k1
        rw [w, nI_toInt (by omega)] at this
        omega
    have n3 : ¬ Tc.1 4 2 = 3 := by rw [w, teq, nI_toInt (by omega), z3]; omega
    obtain ⟨f1, f2⟩ := fail_leaf he
    have i5 : i = 10 ∨ i = 11 ∨ i = 12 ∨ i = 13 ∨ i = 14 := by omega
    unfold F_X6_addMeaning F_X11_meant ok_X11_meant
    rw [if_neg h2, if_neg n3, if_pos tw.1, tw.2, hmv, hp]
    dsimp only
    rcases i5 with rfl | rfl | rfl | rfl | rfl
    · have w : Tc.1 4 2 = 210 := w
      rw [if_pos w, show kw 10 = 7305070 from rfl, if_pos rfl, hfu, vl_X11_meant_s1, vl_X11_meant_s2, okl_X11_meant_s1, okl_X11_meant_s2, vl_X11_meant_s3, vl_X11_meant_s3, okl_X11_meant_s3, okl_X11_meant_s3, tw.2, show kw 10 = 7305070 from rfl, if_pos rfl, w]
      rcases hm with ⟨m1, m2⟩ | ⟨m1, m2⟩
      · rw [if_pos m1, if_pos m1, if_neg (by decide)]
        obtain ⟨g1, g2, _⟩ := emit_leaf g hb he (kk := 210) (vv := 0) h3 rfl (by decide) (Or.inr (Or.inl ⟨m2, Or.inr (Or.inl rfl)⟩)) hn
        exact ⟨g1, fun z => absurd tw.1 z, fun _ => ⟨fun _ => ⟨fun z => absurd m1 z, fun _ => ⟨fun z => absurd z (by decide), fun _ => ⟨fun z => absurd rfl z, fun _ => ⟨g2, trivial⟩⟩⟩⟩, fun z => absurd rfl z⟩⟩
      · have m0 : ¬ mv = 1 := by rw [m1]; decide
        rw [if_neg m0, if_neg m0, if_pos rfl]
        exact ⟨f1, fun z => absurd tw.1 z, fun _ => ⟨fun _ => ⟨fun _ => ⟨fun _ => trivial, fun z => absurd rfl z⟩, fun z => absurd z m0⟩, fun z => absurd rfl z⟩⟩
    · have w : Tc.1 4 2 = 211 := w
      rw [if_neg (by rw [w]; decide), if_pos w, show kw 11 = 123597974889843 from rfl, if_neg (show ¬ (123597974889843 : Int64) = 7305070 by decide), if_pos rfl, hfu, vl_X11_meant_s1, vl_X11_meant_s2, okl_X11_meant_s1, okl_X11_meant_s2, vl_X11_meant_s3, vl_X11_meant_s3, okl_X11_meant_s3, okl_X11_meant_s3, tw.2, show kw 11 = 123597974889843 from rfl, if_neg (show ¬ (123597974889843 : Int64) = 7305070 by decide), if_pos rfl, w]
      rcases hm with ⟨m1, m2⟩ | ⟨m1, m2⟩
      · rw [if_pos m1, if_pos m1, if_neg (by decide)]
        obtain ⟨g1, g2, _⟩ := emit_leaf g hb he (kk := 211) (vv := 0) h3 rfl (by decide) (Or.inr (Or.inl ⟨m2, Or.inr (Or.inr (Or.inl rfl))⟩)) hn
        exact ⟨g1, fun z => absurd tw.1 z, fun _ => ⟨fun z => absurd z (by decide), fun _ => ⟨fun _ => ⟨fun z => absurd m1 z, fun _ => ⟨fun z => absurd z (by decide), fun _ => ⟨fun _ => ⟨fun z => absurd rfl z, fun _ => ⟨g2, trivial⟩⟩, fun z => absurd z (by decide)⟩⟩⟩, fun z => absurd rfl z⟩⟩⟩
      · have m0 : ¬ mv = 1 := by rw [m1]; decide
        rw [if_neg m0, if_neg m0, if_pos rfl]
        exact ⟨f1, fun z => absurd tw.1 z, fun _ => ⟨fun z => absurd z (by decide), fun _ => ⟨fun _ => ⟨fun _ => ⟨fun _ => trivial, fun z => absurd rfl z⟩, fun z => absurd z m0⟩, fun z => absurd rfl z⟩⟩⟩
    · have w : Tc.1 4 2 = 212 := w
      rw [if_neg (by rw [w]; decide), if_neg (by rw [w]; decide), if_pos w, show kw 12 = 6383461 from rfl, if_neg (show ¬ (6383461 : Int64) = 7305070 by decide), if_neg (show ¬ (6383461 : Int64) = 123597974889843 by decide), if_pos rfl, hfu, vl_X11_meant_s1, vl_X11_meant_s2, okl_X11_meant_s1, okl_X11_meant_s2, vl_X11_meant_s3, vl_X11_meant_s3, okl_X11_meant_s3, okl_X11_meant_s3, tw.2, show kw 12 = 6383461 from rfl, if_neg (show ¬ (6383461 : Int64) = 7305070 by decide), if_neg (show ¬ (6383461 : Int64) = 123597974889843 by decide), if_pos rfl, w]
      rcases hm with ⟨m1, m2⟩ | ⟨m1, m2⟩
      · rw [if_pos m1, if_pos m1, if_neg (by decide)]
        obtain ⟨g1, g2, _⟩ := emit_leaf g hb he (kk := 212) (vv := 0) h3 rfl (by decide) (Or.inr (Or.inl ⟨m2, Or.inr (Or.inr (Or.inr rfl))⟩)) hn
        exact ⟨g1, fun z => absurd tw.1 z, fun _ => ⟨fun z => absurd z (by decide), fun _ => ⟨fun z => absurd z (by decide), fun _ => ⟨fun z => absurd rfl z, fun _ => ⟨fun z => absurd m1 z, fun _ => ⟨fun z => absurd z (by decide), fun _ => ⟨fun _ => ⟨fun _ => ⟨fun z => absurd rfl z, fun _ => ⟨g2, trivial⟩⟩, fun z => absurd z (by decide)⟩, fun z => absurd z (by decide)⟩⟩⟩⟩⟩⟩⟩
      · have m0 : ¬ mv = 1 := by rw [m1]; decide
        rw [if_neg m0, if_neg m0, if_pos rfl]
        exact ⟨f1, fun z => absurd tw.1 z, fun _ => ⟨fun z => absurd z (by decide), fun _ => ⟨fun z => absurd z (by decide), fun _ => ⟨fun z => absurd rfl z, fun _ => ⟨fun _ => ⟨fun _ => trivial, fun z => absurd rfl z⟩, fun z => absurd z m0⟩⟩⟩⟩⟩
    · have w : Tc.1 4 2 = 213 := w
      rw [if_neg (by rw [w]; decide), if_neg (by rw [w]; decide), if_neg (by rw [w]; decide), show kw 13 = 500086104428 from rfl, if_neg (show ¬ (500086104428 : Int64) = 7305070 by decide), if_neg (show ¬ (500086104428 : Int64) = 123597974889843 by decide), if_neg (show ¬ (500086104428 : Int64) = 6383461 by decide), hfu, vl_X11_meant_s2, okl_X11_meant_s2, vl_X11_meant_s3, vl_X11_meant_s3, okl_X11_meant_s3, okl_X11_meant_s3, tw.2, show kw 13 = 500086104428 from rfl, if_neg (show ¬ (500086104428 : Int64) = 7305070 by decide), if_neg (show ¬ (500086104428 : Int64) = 123597974889843 by decide), if_neg (show ¬ (500086104428 : Int64) = 6383461 by decide), if_pos rfl, w]
      rcases hm with ⟨m1, m2⟩ | ⟨m1, m2⟩
      · have m0 : ¬ mv = 0 := by rw [m1]; decide
        rw [if_neg m0, if_neg m0, if_pos rfl]
        exact ⟨f1, fun z => absurd tw.1 z, fun _ => ⟨fun z => absurd z (by decide), fun _ => ⟨fun z => absurd z (by decide), fun _ => ⟨fun _ => ⟨fun _ => ⟨fun _ => trivial, fun z => absurd rfl z⟩, fun z => absurd z m0⟩, fun z => absurd z (by decide)⟩⟩⟩⟩
      · rw [if_pos m1, if_pos m1, if_neg (by decide)]
        obtain ⟨g1, g2, _⟩ := emit_leaf g hb he (kk := 213) (vv := 0) h3 rfl (by decide) (Or.inr (Or.inr (Or.inl ⟨m2, Or.inr (Or.inl rfl)⟩))) hn
        exact ⟨g1, fun z => absurd tw.1 z, fun _ => ⟨fun z => absurd z (by decide), fun _ => ⟨fun z => absurd z (by decide), fun _ => ⟨fun _ => ⟨fun z => absurd m1 z, fun _ => ⟨fun z => absurd z (by decide), fun _ => ⟨fun _ => ⟨fun _ => ⟨fun _ => ⟨fun z => absurd rfl z, fun _ => ⟨g2, trivial⟩⟩, fun z => absurd z (by decide)⟩, fun z => absurd z (by decide)⟩, fun z => absurd z (by decide)⟩⟩⟩, fun z => absurd z (by decide)⟩⟩⟩⟩
    · have w : Tc.1 4 2 = 214 := w
      rw [if_neg (by rw [w]; decide), if_neg (by rw [w]; decide), if_neg (by rw [w]; decide), show kw 14 = 465557353332 from rfl, if_neg (show ¬ (465557353332 : Int64) = 7305070 by decide), if_neg (show ¬ (465557353332 : Int64) = 123597974889843 by decide), if_neg (show ¬ (465557353332 : Int64) = 6383461 by decide), hfu, vl_X11_meant_s2, okl_X11_meant_s2, vl_X11_meant_s3, vl_X11_meant_s3, okl_X11_meant_s3, okl_X11_meant_s3, tw.2, show kw 14 = 465557353332 from rfl, if_neg (show ¬ (465557353332 : Int64) = 7305070 by decide), if_neg (show ¬ (465557353332 : Int64) = 123597974889843 by decide), if_neg (show ¬ (465557353332 : Int64) = 6383461 by decide), if_neg (show ¬ (465557353332 : Int64) = 500086104428 by decide), w]
      rcases hm with ⟨m1, m2⟩ | ⟨m1, m2⟩
      · have m0 : ¬ mv = 0 := by rw [m1]; decide
        rw [if_neg m0, if_neg m0, if_pos rfl]
        exact ⟨f1, fun z => absurd tw.1 z, fun _ => ⟨fun z => absurd z (by decide), fun _ => ⟨fun z => absurd z (by decide), fun _ => ⟨fun _ => ⟨fun _ => ⟨fun _ => trivial, fun z => absurd rfl z⟩, fun z => absurd z m0⟩, fun z => absurd z (by decide)⟩⟩⟩⟩
      · rw [if_pos m1, if_pos m1, if_neg (by decide)]
        obtain ⟨g1, g2, _⟩ := emit_leaf g hb he (kk := 214) (vv := 0) h3 rfl (by decide) (Or.inr (Or.inr (Or.inl ⟨m2, Or.inr (Or.inr rfl)⟩))) hn
        exact ⟨g1, fun z => absurd tw.1 z, fun _ => ⟨fun z => absurd z (by decide), fun _ => ⟨fun z => absurd z (by decide), fun _ => ⟨fun _ => ⟨fun z => absurd m1 z, fun _ => ⟨fun z => absurd z (by decide), fun _ => ⟨fun _ => ⟨fun _ => ⟨fun _ => ⟨fun _ => ⟨g2, trivial⟩, fun z => absurd z (by decide)⟩, fun z => absurd z (by decide)⟩, fun z => absurd z (by decide)⟩, fun z => absurd z (by decide)⟩⟩⟩, fun z => absurd z (by decide)⟩⟩⟩⟩
end
