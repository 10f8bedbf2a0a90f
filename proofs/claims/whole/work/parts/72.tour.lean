/-! tour: class and reference -/
theorem e_plan {sz : Nat} (hsz : 161 ≤ sz) {T0 : tT} {S E : Nat} (hC : ICi T0) (hPl : IPl T0) (hS : (T0.1 79 2).toInt = S) (hE : (T0.1 79 1).toInt = E) (S9 : S ≤ 9) (E5 : E ≤ 5) {T : tT} (fT : fr (wl [87] []) T0 T) (hal : ∀ s x, s < S → x < E → alw T0 T s x) : PQ T0 S E (F_X7_plan T) ∧ ok_X7_plan sz T := by
  obtain ⟨a, b, e, g, hP⟩ : ∃ a b e g, PL T0 a b e g := by
    rcases hPl.2.2.1 with ⟨q1, q2⟩ | ⟨q1, q2⟩ <;> rcases hPl.2.2.2 with ⟨q3, q4⟩ | ⟨q3, q4⟩ <;> exact ⟨_, _, _, _, q1, q2, q3, q4, by decide, by decide⟩
  have s79 : T.1 79 2 = T0.1 79 2 := fr_i fT (k := 79) (i := 2) rfl
  obtain ⟨⟨o1, o, o2, o3⟩, o4⟩ := e_order (sz := sz) (T0 := T) (S := S) (by rw [s79]; exact hS) S9
  have dyT : dy T = dy T0 := by
    unfold dy
    rw [fr_ri fT (k := 83) (fun _ => rfl)]
  have hO : Ord T0 S o := by
    unfold Ord at o2 ⊢
    rw [dyT] at o2
    exact o2
  obtain ⟨p1, p2, p3, p4, p5, p6⟩ := hP
  have fO : fr (wl [87, 88] []) T0 (F_X7_orderByDay T) := fr_trans (fr_mono rfl fT) (fr_mono rfl o1)
  have r7 : (F_X7_orderByDay T).2.2 85 7 = some e := (fr_p fO (k := 85) (i := 7) rfl).trans p3
  have te : tar sz e 1 120 := tar_o hsz (by omega)
  have i0 : vp_in (0 : Int32) 120 := by rw [vp_in_iff, show (0 : Int32).toInt = 0 from rfl]; omega
  have n0 : (0 : Int32).toNatClampNeg = 0 := rfl
  have we : wP e 0 = true := by rcases p6 with ⟨q, _⟩ | ⟨q, _⟩ <;> subst q <;> rfl
  have ps : PS9 T0 S E o 0 (tJ (tI (F_X7_orderByDay T) 85 3 1) e 0 0) := by
    refine ⟨fr_J we (fr_I rfl (fr_mono (A := [87, 88]) (B := []) (A' := [87, 88, 89, 90, 91, 92]) (B' := [(85, 3), (85, 4), (85, 5), (85, 6), (85, 7), (85, 8)]) rfl fO)), ?_, ?_, a, b, e, g, 1, ⟨(fr_p fO (k := 85) (i := 5) rfl).trans p1, (fr_p fO (k := 85) (i := 6) rfl).trans p2, r7, (fr_p fO (k := 85) (i := 8) rfl).trans p4, p5, p6⟩, ?_, by omega, fun _ => ?_, fun q => absurd q (Nat.lt_irrefl 0)⟩
    · intro q hq
      show (tI (F_X7_orderByDay T) 85 3 1).1 88 q = nI (o q)
      rw [tI_off (fun w => by have := w.1; omega)]
      exact o3 q hq
    · intro s x hs hx
      unfold alw
      show (tI (F_X7_orderByDay T) 85 3 1).1 87 (5 * s + x) = 0 ↔ _
      rw [tI_off (fun w => by have := w.1; omega), fr_i o1 (k := 87) (i := 5 * s + x) rfl]
      exact hal s x hs hx
    · show ((tI (F_X7_orderByDay T) 85 3 1).1 85 3).toInt = ((1 : Nat) : Int)
      rw [tI_at]
      rfl
    · have w0 : ∀ f, wth T0 S 0 f = 0 := by
        intro f
        unfold wth WB CB
        rw [sg_z, sg_z, sg_z]
        · rfl
        · intro s _
          exact if_neg (by have := (dy_rg hC s).1; omega)
        · intro s _
          apply sg_z
          intro t _
          exact if_neg (fun q => by have := (dy_rg hC t).1; have := q.1; omega)
        · intro s _
          exact if_neg (by have := (dy_rg hC s).1; omega)
      refine ⟨fun i hi => ⟨fun _ => 0, fun s _ hd => ?_, ?_⟩, fun f _ => ⟨0, by omega, ?_⟩⟩
      · have := (dy_rg hC s).1
        omega
      · have : i = 0 := by omega
        subst this
        rw [tJ_at, w0]
        rfl
      · rw [tJ_at, w0]
        decide
  obtain ⟨u1, u2⟩ := l_plan hsz hC hS hE S9 E5 hO S fu 0 (tJ (tI (F_X7_orderByDay T) 85 3 1) e 0 0) 0 rfl (by omega) (by rw [fu_eq]; omega) ps
  have eF : F_X7_plan T = vl_X7_plan fu (tJ (tI (F_X7_orderByDay T) 85 3 1) e 0 0) 0 := by
    unfold F_X7_plan
    rw [r7]
    rfl
  rw [eF]
  refine ⟨u1, ?_⟩
  unfold ok_X7_plan
  rw [r7]
  refine ⟨o4, fun w => (by cases w), fun p2' w => ?_⟩
  cases w
  exact ⟨te, i0, u2⟩
theorem opt_fz {T T' : tT} (f : fz cMt.1 cMt.2 T T') : opt T' = opt T := by
  funext S E g
  unfold opt
  rw [VA_fz f, WA_fz f]
theorem q_tour {sz : Nat} (hsz : 161 ≤ sz) {T : tT} (h : I7 sz T) : ok_X10_tour sz T ∧ ok_X11_tour sz (F_X10_tour T).2 ∧ (F_X10_tour T).2.1 0 = T.1 0 ∧ (F_X10_tour T).1 = (F_X11_tour (F_X10_tour T).2).1 ∧ I7 sz (F_X11_tour (F_X10_tour T).2).2 := by
  obtain ⟨⟨hC, hE', hL, hS', hA, hP⟩, hX⟩ := h
  have b := hC.2.1
  have z0 : (0 : Int32).toInt = 0 := rfl
  obtain ⟨S, hS, S9⟩ : ∃ S : Nat, (T.1 79 2).toInt = S ∧ S ≤ 9 := by
    have b1 := tle.mp b.2.2.2.2.1
    have b2 := tle.mp b.2.2.2.2.2
    rw [show (9 : Int32).toInt = 9 from rfl] at b2
    exact ⟨(T.1 79 2).toInt.toNat, by omega, by omega⟩
  obtain ⟨E, hE, E5⟩ : ∃ E : Nat, (T.1 79 1).toInt = E ∧ E ≤ 5 := by
    have b1 := tle.mp b.2.2.1
    have b2 := tle.mp b.2.2.2.1
    rw [show (5 : Int32).toInt = 5 from rfl] at b2
    exact ⟨(T.1 79 1).toInt.toNat, by omega, by omega⟩
  obtain ⟨q1, q2⟩ := (l_allow (sz := sz) (Q := PQ T S E) hC hL hE' hS hE S9 E5 (fun T1 f1 h1 => e_plan hsz hC hP hS hE S9 E5 f1 h1) fu).1 T 0 0 fr_refl rfl (by omega) (by rw [fu_eq]; omega) (fun t x h => absurd h (Nat.not_lt_zero _))
  have q1 : PQ T S E (F_X10_tour T) := q1
  have q2 : ok_X10_tour sz T := q2
  generalize hT1 : F_X10_tour T = r1 at q1
  obtain ⟨f1, ⟨a, b', e, g, hPL⟩, dis⟩ := q1
  have f1 : fr (wl [86, 87, 88, 89, 90, 91, 92] [(85, 3), (85, 4), (85, 5), (85, 6), (85, 7), (85, 8)]) T r1.2 := f1
  have fz1 : fz cMt.1 cMt.2 T r1.2 := fz_of f1 rfl
  have hC1 := ICi_fz (fz_of f1 rfl) hC
  have hL1 := ILe_fz (fz_of f1 rfl) hL
  have hE1 := IEn_fz (fz_of f1 rfl) hE'
  have s79 : r1.2.1 79 2 = T.1 79 2 := fr_i f1 (k := 79) (i := 2) rfl
  have s791 : r1.2.1 79 1 = T.1 79 1 := fr_i f1 (k := 79) (i := 1) rfl
  have s0 : r1.2.1 0 = T.1 0 := fr_ri f1 (k := 0) (fun _ => rfl)
  have fin : ∀ f, ((∀ f, ¬ VA r1.2 S E f) ∨ opt r1.2 S E f) → trG r1.2 S E f (F_X11_tour r1.2) ∧ ok_X11_tour sz r1.2 := fun f hy => e_rtour hC1 hL1 hE1 (by rw [s79]; exact hS) (by rw [s791]; exact hE) S9 E5 f hy
  have last : ∀ T2 : tT, fr (wl [147, 148, 149, 150] [(105, 63)]) r1.2 T2 → (T2.1 105 63).toInt ≤ (T.1 79 2).toInt → 0 ≤ (T2.1 105 63).toInt → (∀ x : Int32, 0 ≤ x → x < 9 → T2.1 86 x.toNatClampNeg = if x < T2.1 105 63 then T2.1 150 x.toNatClampNeg else -1) → I7 sz T2 := by
    intro T2 f2 l1 l2 l3
    have ff : fr (wl [86, 87, 88, 89, 90, 91, 92, 147, 148, 149, 150] [(85, 3), (85, 4), (85, 5), (85, 6), (85, 7), (85, 8), (105, 63)]) T T2 := fr_trans (fr_mono rfl f1) (fr_mono rfl f2)
    refine ⟨⟨ICi_fz (fz_of ff rfl) hC, IEn_fz (fz_of ff rfl) hE', ILe_fz (fz_of ff rfl) hL, ICe_fz (fz_of ff rfl) hS', ITa_fz (fz_of ff rfl) hA, ?_⟩, ITx_fr ff rfl hX⟩
    obtain ⟨p1, p2, p3, p4, p5, p6⟩ := hPL
    refine ⟨⟨by rw [tle]; exact l2, by rw [tle, fr_i ff (k := 79) (i := 2) rfl]; exact l1⟩, l3, ?_, ?_⟩
    · rw [fr_p f2 (k := 85) (i := 5) rfl, fr_p f2 (k := 85) (i := 6) rfl, p1, p2]
      rcases p5 with ⟨x1, x2⟩ | ⟨x1, x2⟩ <;> subst x1 <;> subst x2
      · exact Or.inl ⟨rfl, rfl⟩
      · exact Or.inr ⟨rfl, rfl⟩
    · rw [fr_p f2 (k := 85) (i := 7) rfl, fr_p f2 (k := 85) (i := 8) rfl, p3, p4]
      rcases p6 with ⟨x1, x2⟩ | ⟨x1, x2⟩ <;> subst x1 <;> subst x2
      · exact Or.inl ⟨rfl, rfl⟩
      · exact Or.inr ⟨rfl, rfl⟩
  rcases dis with ⟨d1, d2, d3⟩ | ⟨f, d1, d2, d3, d4⟩
  · have nv : ∀ f, ¬ VA r1.2 S E f := by rw [VA_fz fz1]; exact d1
    obtain ⟨⟨g1, g2, _⟩, g4⟩ := fin (fun _ => 0) (Or.inl nv)
    obtain ⟨y1, y2, y3⟩ := g2 nv
    have o63 : r1.2.1 105 63 = T.1 105 63 := fr_i f1 (k := 105) (i := 63) rfl
    have o150 : r1.2.1 150 = T.1 150 := fr_ri f1 (k := 150) (fun _ => rfl)
    refine ⟨q2, g4, s0, by rw [d2, y1], last _ g1 ?_ ?_ ?_⟩
    · rw [y3, o63]
      exact tle.mp hP.1.2
    · rw [y3, o63]
      exact tle.mp hP.1.1
    · intro x x0 x9
      rw [y2, y3, o63, o150, fr_ri g1 (k := 86) (fun _ => rfl), d3]
      exact hP.2.1 x x0 x9
  · have ov : opt r1.2 S E f := by rw [opt_fz fz1]; exact d1
    obtain ⟨⟨g1, _, g3⟩, g4⟩ := fin f (Or.inr ov)
    obtain ⟨y1, y2, y3⟩ := g3 ov
    rw [WA_fz fz1] at y1
    refine ⟨q2, g4, s0, by rw [teq, d2, y1], last _ g1 ?_ ?_ ?_⟩
    · rw [y2, s79]
      exact Int.le_refl _
    · rw [y2, s79, hS]
      omega
    · intro x x0 x9
      have e86 : (F_X11_tour r1.2).2.1 86 = r1.2.1 86 := fr_ri g1 (k := 86) (fun _ => rfl)
      rw [y2, s79, e86]
      have xn := tnc x0
      by_cases c : x < T.1 79 2
      · rw [if_pos c]
        rw [tlt] at c
        rw [d3 _ (by omega), y3 _ (by omega)]
      · rw [if_neg c, d4 _ (by rw [tlt] at c; omega), hP.2.1 x x0 x9]
        have := hP.1.2
        rw [if_neg (by grind)]
