/-! result, certify, holds -/
theorem result_eq {sz : Nat} {T Tr : tT} (hI : J7 sz T) (fr' : fr (wl sA sB) T Tr) {e : Int32} (h0 : 0 ≤ e) (h1 : e < T.1 69 0) (d : Int32) : ∃ r, (F_X10_resultOf T e d).1 = r ∧ ok_X10_resultOf sz T e d ∧ fr (wl [67, 68] [(66, 2)]) T (F_X10_resultOf T e d).2 ∧ (F_X11_result Tr e d).1 = r ∧ ok_X11_result sz Tr e d ∧ fr (wl [140, 141] []) Tr (F_X11_result Tr e d).2 ∧ (-1 ≤ r ∧ r ≤ 2) := by
  have hIr := I7_scr fr' hI
  have r69 : Tr.1 69 0 = T.1 69 0 := fr_i fr' rfl
  obtain ⟨a1, a2, a3, a4, a5, a6⟩ := ent hI h0 h1
  obtain ⟨d1, d2, d3, d4, d5, d6⟩ := ent hIr h0 (by rw [r69]; exact h1)
  obtain ⟨rj, j1, j2, j3, j4, j5, j6, j7⟩ := judge_eq hI (fr_refl (T := T)) fr' h0 h1
  have ie : ¬ v_X11_isEntry Tr e = 0 := by
    unfold v_X11_isEntry
    rw [hIr.1.1, r69]
    grind
  have f1 : fr (wl [67, 68] [(66, 2)]) T (F_X10_firstUnmet T e).2 := fr_mono rfl j3
  have f2 : fr (wl [140, 141] []) Tr (F_X11_judge Tr e).2 := fr_mono rfl j6
  have fr2 : fr (wl sA sB) T (F_X11_judge Tr e).2 := fr_trans fr' (fr_mono rfl j6)
  have wr := (txo_f fr2 rfl).1
  have se : v_X11_spotOf (F_X11_judge Tr e).2 e = v_X11_spotOf T e := by
    unfold v_X11_spotOf v_X11_spot
    rw [show (F_X11_judge Tr e).2.1 132 = T.1 132 from fr_ri fr2 (fun _ => rfl), show (F_X11_judge Tr e).2.1 133 = T.1 133 from fr_ri fr2 (fun _ => rfl), (wr 109 rfl).1, (wr 108 rfl).1, (wr 110 rfl).1]
  rcases a5 with ⟨q, q'⟩ | ⟨p, b, j, en, q1, q2, q3, q4, q5⟩
  · have rj2 : rj = -2 := j7 q
    have nj : ¬ (F_X11_judge Tr e).1 = -1 := by rw [j4, rj2]; decide
    have E2 : F_X11_result Tr e d = (-1, (F_X11_judge Tr e).2) := by
      unfold F_X11_result
      rw [if_neg ie, if_neg nj]
    have E1 : F_X10_resultOf T e d = (-1, T) := by
      unfold F_X10_resultOf
      rw [q]
      cases T.2.2 65 (T.1 71 e.toNatClampNeg).toNatClampNeg <;> rfl
    rw [E1, E2]
    refine ⟨-1, rfl, ?_, fr_refl, rfl, ?_, f2, by decide, by decide⟩
    · unfold ok_X10_resultOf
      rw [q]
      exact ⟨a1, a2, fun _ => ⟨a3, fun _ => trivial, fun p3 w => (by cases w)⟩, fun p1 w => ⟨a6 p1 w, a3, fun _ => trivial, fun p3 w => (by cases w)⟩⟩
    · exact ⟨fun _ => trivial, fun _ => ⟨j5, fun w => absurd w nj, fun _ => trivial⟩⟩
  · by_cases c : rj = -1
    · obtain ⟨P, hP⟩ : ∃ P : Nat, (T.1 (p + 3 + 7 * j) 2).toInt = P := ⟨(T.1 (p + 3 + 7 * j) 2).toInt.toNat, by have := tle.mp q5.2.2.2.1.2.1.2.1; have z : (0 : Int32).toInt = 0 := rfl; omega⟩
      have P6 : P ≤ 6 := by have := tle.mp q5.2.2.2.1.2.1.2.2; have z : (6 : Int32).toInt = 6 := rfl; omega
      obtain ⟨r, x1, x2, x3, x4, x5, x6, x7⟩ := res_l (sz := sz) d hI q5 hP P6 P fu fu 0 (F_X10_firstUnmet T e).2 (F_X11_judge Tr e).2 0 (fr_mono rfl j3) fr2 rfl (by omega) (fun i hi => absurd hi (Nat.not_lt_zero _)) (by rw [fu_eq]; omega) (by rw [fu_eq]; omega)
      have cj : (F_X10_firstUnmet T e).1 = -1 := by rw [j1, c]
      have cj2 : (F_X11_judge Tr e).1 = -1 := by rw [j4, c]
      have E1 : F_X10_resultOf T e d = (vl_X10_resultOf fu) (F_X10_firstUnmet T e).2 p (p + 3 + 7 * j) e d 0 := by
        unfold F_X10_resultOf
        rw [q1, q2]
        dsimp only
        rw [if_pos cj]
      have E2 : F_X11_result Tr e d = vl_X11_result fu (F_X11_judge Tr e).2 e d (v_X11_spotOf T e) 0 := by
        unfold F_X11_result
        rw [if_neg ie, if_pos cj2, se]
      rw [E1, E2]
      have o4 : ok_X11_spotOf sz (F_X11_judge Tr e).2 e := (fgJ (I7_scr fr2 hI) a1).2.1
      refine ⟨r, x1, ?_, fr_trans f1 x3, x4, ?_, fr_trans f2 x6, x7⟩
      · unfold ok_X10_resultOf
        rw [q1, q2]
        refine ⟨a1, a2, fun w => (by cases w), fun p1 w => ?_⟩
        cases w
        refine ⟨q3, a3, fun w => (by cases w), fun p5 w => ?_⟩
        cases w
        exact ⟨q4, j2, fun _ => x2, fun w => absurd cj w⟩
      · unfold ok_X11_result
        rw [se]
        exact ⟨fun _ => trivial, fun _ => ⟨j5, fun _ => ⟨o4, x5⟩, fun w => absurd cj2 w⟩⟩
    · have cj : ¬ (F_X10_firstUnmet T e).1 = -1 := by rw [j1]; exact c
      have cj2 : ¬ (F_X11_judge Tr e).1 = -1 := by rw [j4]; exact c
      have E1 : F_X10_resultOf T e d = (-1, (F_X10_firstUnmet T e).2) := by
        unfold F_X10_resultOf
        rw [q1, q2]
        dsimp only
        rw [if_neg cj]
      have E2 : F_X11_result Tr e d = (-1, (F_X11_judge Tr e).2) := by
        unfold F_X11_result
        rw [if_neg ie, if_neg cj2]
      rw [E1, E2]
      refine ⟨-1, rfl, ?_, f1, rfl, ?_, f2, by decide, by decide⟩
      · unfold ok_X10_resultOf
        rw [q1, q2]
        refine ⟨a1, a2, fun w => (by cases w), fun p1 w => ?_⟩
        cases w
        refine ⟨q3, a3, fun w => (by cases w), fun p5 w => ?_⟩
        cases w
        exact ⟨q4, j2, fun w => absurd w cj, fun _ => trivial⟩
      · exact ⟨fun _ => trivial, fun _ => ⟨j5, fun w => absurd w cj2, fun _ => trivial⟩⟩
theorem I7_J {sz : Nat} {T : tT} (h : I7 sz T) : J7 sz T := ⟨h.1.2.1, h.1.2.2.1, h.2⟩
theorem I7_wk {sz : Nat} {T T' : tT} (f : fr (wl [67, 68, 140, 141] [(66, 2)]) T T') (h : I7 sz T) : I7 sz T' :=
  ⟨⟨ICi_fz (fz_of f rfl) h.1.1, IEn_fz (fz_of f rfl) h.1.2.1, ILe_fz (fz_of f rfl) h.1.2.2.1, ICe_fz (fz_of f rfl) h.1.2.2.2.1, ITa_fz (fz_of f rfl) h.1.2.2.2.2.1, IPl_fz (fz_of f rfl) h.1.2.2.2.2.2⟩, ITx_fr f rfl h.2⟩
theorem q_judge {sz : Nat} {T : tT} (h : I7 sz T) (x0 : Int32) : ok_X10_judge sz T x0 ∧ ok_X11_judge sz (F_X10_judge T x0).2 x0 ∧ (F_X10_judge T x0).2.1 0 = T.1 0 ∧ (F_X10_judge T x0).1 = (F_X11_judge (F_X10_judge T x0).2 x0).1 ∧ I7 sz (F_X11_judge (F_X10_judge T x0).2 x0).2 := by
  by_cases c : 0 ≤ x0 ∧ x0 < T.1 69 0
  · have h10 : ¬ v_X2_has T x0 = 0 := by unfold v_X2_has; grind
    have E1 : F_X10_judge T x0 = F_X10_firstUnmet T x0 := by unfold F_X10_judge; rw [if_neg h10]
    obtain ⟨r, j1, j2, j3, _⟩ := judge_eq (I7_J h) (fr_refl (T := T)) (fr_refl (T := T)) c.1 c.2
    obtain ⟨r', k1, k2, k3, k4, k5, k6, k7⟩ := judge_eq (I7_J h) (fr_refl (T := T)) (Tr := (F_X10_firstUnmet T x0).2) (fr_mono rfl j3) c.1 c.2
    rw [E1]
    exact ⟨⟨fun _ => trivial, fun _ => ⟨j2, trivial⟩⟩, k5, fr_ri j3 (fun _ => rfl), k1.trans k4.symm, I7_wk (fr_trans (fr_mono rfl j3) (fr_mono rfl k6)) h⟩
  · have h10 : v_X2_has T x0 = 0 := by unfold v_X2_has; grind
    have h11 : v_X11_isEntry T x0 = 0 := by unfold v_X11_isEntry; rw [h.1.2.1.1]; grind
    have E1 : F_X10_judge T x0 = (-3, T) := by unfold F_X10_judge; rw [if_pos h10]
    have E2 : F_X11_judge T x0 = (-3, T) := by unfold F_X11_judge; rw [if_pos h11]
    rw [E1]
    dsimp only
    rw [E2]
    exact ⟨⟨fun _ => trivial, fun w => absurd h10 w⟩, ⟨fun w => absurd h11 w, fun _ => trivial⟩, rfl, rfl, h⟩
theorem q_result {sz : Nat} {T : tT} (h : I7 sz T) (x0 x1 : Int32) : ok_X10_result sz T x0 x1 ∧ ok_X11_result sz (F_X10_result T x0 x1).2 x0 x1 ∧ (F_X10_result T x0 x1).2.1 0 = T.1 0 ∧ (F_X10_result T x0 x1).1 = (F_X11_result (F_X10_result T x0 x1).2 x0 x1).1 ∧ I7 sz (F_X11_result (F_X10_result T x0 x1).2 x0 x1).2 := by
  by_cases c : 0 ≤ x0 ∧ x0 < T.1 69 0
  · have h10 : ¬ v_X2_has T x0 = 0 := by unfold v_X2_has; grind
    have E1 : F_X10_result T x0 x1 = F_X10_resultOf T x0 x1 := by unfold F_X10_result; rw [if_neg h10]
    obtain ⟨r, j1, j2, j3, _⟩ := result_eq (I7_J h) (fr_refl (T := T)) c.1 c.2 x1
    obtain ⟨r', k1, k2, k3, k4, k5, k6, k7⟩ := result_eq (I7_J h) (Tr := (F_X10_resultOf T x0 x1).2) (fr_mono rfl j3) c.1 c.2 x1
    rw [E1]
    exact ⟨⟨fun _ => trivial, fun _ => ⟨j2, trivial⟩⟩, k5, fr_ri j3 (fun _ => rfl), k1.trans k4.symm, I7_wk (fr_trans (fr_mono rfl j3) (fr_mono rfl k6)) h⟩
  · have h10 : v_X2_has T x0 = 0 := by unfold v_X2_has; grind
    have h11 : v_X11_isEntry T x0 = 0 := by unfold v_X11_isEntry; rw [h.1.2.1.1]; grind
    have E1 : F_X10_result T x0 x1 = (-1, T) := by unfold F_X10_result; rw [if_pos h10]
    have E2 : F_X11_result T x0 x1 = (-1, T) := by unfold F_X11_result; rw [if_pos h11]
    rw [E1]
    dsimp only
    rw [E2]
    exact ⟨⟨fun _ => trivial, fun w => absurd h10 w⟩, ⟨fun _ => trivial, fun w => absurd h11 w⟩, rfl, rfl, h⟩
theorem q_holds {sz : Nat} {T : tT} (h : I7 sz T) (x0 x1 : Int32) : ok_X10_holds sz T x0 x1 ∧ ok_X11_holds sz (F_X10_holds T x0 x1).2 x0 x1 ∧ (F_X10_holds T x0 x1).2.1 0 = T.1 0 ∧ (F_X10_holds T x0 x1).1 = (F_X11_holds (F_X10_holds T x0 x1).2 x0 x1).1 ∧ I7 sz (F_X11_holds (F_X10_holds T x0 x1).2 x0 x1).2 := by
  have hS := h.1.2.2.2.1
  have q := hS.1
  have b := hS.2.1
  by_cases c : 1 ≤ x0 ∧ x0 ≤ T.1 101 0
  · have g1 : 0 ≤ x0 - 1 := by grind
    have g2 : x0 - 1 < 60 := by grind
    have g3 : x0 - 1 < T.1 101 0 := by grind
    have v := vp60 g1 g2
    have v' := vp61 (a := x0) (by grind) (by grind)
    obtain ⟨i, hi⟩ : ∃ i : Nat, (x0 - 1).toInt = i := ⟨(x0 - 1).toInt.toNat, by have := tle.mp g1; have z : (0 : Int32).toInt = 0 := rfl; omega⟩
    have hx : x0.toInt = (i + 1 : Nat) := by
      have a1 := tle.mp c.1
      have a2 := x0.toInt_lt
      have z1 : (1 : Int32).toInt = 1 := rfl
      have a3 : (x0 - 1).toInt = x0.toInt - 1 := tsub (by omega) (by omega)
      omega
    have r := hS.2.2.1 i
    have e0 : 0 ≤ T.1 102 i := hS.2.2.2.1 i
    have e1 : T.1 102 i < T.1 69 0 := by have := hS.2.2.2.2.1 (x0 - 1) g1 g3; rw [tnN hi] at this; exact this
    have h10 : ¬ v_X0_has T x0 = 0 := by unfold v_X0_has; grind
    have l1 : ¬ x0 < 1 := by grind
    obtain ⟨rr, j1, j2, j3, _⟩ := result_eq (I7_J h) (fr_refl (T := T)) e0 e1 x1
    obtain ⟨r', k1, k2, k3, k4, k5, k6, k7⟩ := result_eq (I7_J h) (Tr := (F_X10_resultOf T (T.1 102 i) x1).2) (fr_mono rfl j3) e0 e1 x1
    by_cases d : x1 < T.1 103 i
    · have E1 : F_X10_holds T x0 x1 = (0, T) := by
        unfold F_X10_holds
        rw [if_neg h10, tnN hi, if_pos d]
      have D2 : F_X11_doesHold T x0 x1 = (0, T) := by
        unfold F_X11_doesHold
        rw [tnN hx, r.2.1, if_pos d]
      have E2 : F_X11_holds T x0 x1 = (0, T) := by
        unfold F_X11_holds
        rw [if_neg l1, q, if_pos c.2, D2, if_pos rfl]
      have o1 : ok_X10_holds sz T x0 x1 := by
        unfold ok_X10_holds
        rw [tnN hi]
        exact ⟨fun _ => ⟨v, fun _ => v, fun w => absurd d w⟩, fun _ => trivial⟩
      have o2 : ok_X11_holds sz T x0 x1 := by
        unfold ok_X11_holds ok_X11_doesHold
        rw [tnN hx, r.2.1]
        exact ⟨fun _ => trivial, fun _ => ⟨fun _ => ⟨⟨v', fun _ => trivial, fun w => absurd d w⟩, trivial⟩, fun _ => trivial⟩⟩
      rw [E1]
      dsimp only
      rw [E2]
      exact ⟨o1, o2, rfl, rfl, h⟩
    · have E1 : F_X10_holds T x0 x1 = (if (F_X10_resultOf T (T.1 102 i) x1).1 < T.1 104 i then 0 else 1, (F_X10_resultOf T (T.1 102 i) x1).2) := by
        unfold F_X10_holds
        rw [if_neg h10, tnN hi, if_neg d]
        by_cases w : (F_X10_resultOf T (T.1 102 i) x1).1 < T.1 104 i
        · rw [if_pos w, if_pos w]
        · rw [if_neg w, if_neg w]
      have o1 : ok_X10_holds sz T x0 x1 := by
        unfold ok_X10_holds
        rw [tnN hi]
        exact ⟨fun _ => ⟨v, fun w => absurd w d, fun _ => ⟨v, v, j2, trivial⟩⟩, fun w => absurd w h10⟩
      rw [E1]
      dsimp only
      have s158 : (F_X10_resultOf T (T.1 102 i) x1).2.1 158 = T.1 158 := fr_ri j3 (fun _ => rfl)
      have s159 : (F_X10_resultOf T (T.1 102 i) x1).2.1 159 = T.1 159 := fr_ri j3 (fun _ => rfl)
      have s160 : (F_X11_result (F_X10_resultOf T (T.1 102 i) x1).2 (T.1 102 i) x1).2.1 160 = T.1 160 := (fr_ri k6 (fun _ => rfl)).trans (fr_ri j3 (fun _ => rfl))
      have s76 : (F_X10_resultOf T (T.1 102 i) x1).2.1 105 76 = T.1 101 0 := by rw [← q]; exact fr_i j3 rfl
      have D2 : F_X11_doesHold (F_X10_resultOf T (T.1 102 i) x1).2 x0 x1 = (if (F_X10_resultOf T (T.1 102 i) x1).1 < T.1 104 i then 0 else 1, (F_X11_result (F_X10_resultOf T (T.1 102 i) x1).2 (T.1 102 i) x1).2) := by
        unfold F_X11_doesHold
        rw [tnN hx, s159, s158, r.1, r.2.1, if_neg d, s160, r.2.2, k4, ← k1]
        by_cases w : (F_X10_resultOf T (T.1 102 i) x1).1 < T.1 104 i
        · rw [if_pos w, if_pos w]
        · rw [if_neg w, if_neg w]
      have E2 : F_X11_holds (F_X10_resultOf T (T.1 102 i) x1).2 x0 x1 = (if (F_X10_resultOf T (T.1 102 i) x1).1 < T.1 104 i then 0 else 1, (F_X11_result (F_X10_resultOf T (T.1 102 i) x1).2 (T.1 102 i) x1).2) := by
        unfold F_X11_holds
        rw [if_neg l1, s76, if_pos c.2, D2]
        by_cases w : (F_X10_resultOf T (T.1 102 i) x1).1 < T.1 104 i
        · rw [if_pos w, if_pos rfl]
        · rw [if_neg w, if_neg (show ¬ (1 : Int32) = 0 by decide)]
      have o2 : ok_X11_holds sz (F_X10_resultOf T (T.1 102 i) x1).2 x0 x1 := by
        unfold ok_X11_holds ok_X11_doesHold
        rw [tnN hx, s158, s159, r.1, r.2.1]
        exact ⟨fun _ => trivial, fun _ => ⟨fun _ => ⟨⟨v', fun _ => trivial, fun _ => ⟨v', k5, v'⟩⟩, trivial⟩, fun _ => trivial⟩⟩
      rw [E2]
      exact ⟨o1, o2, fr_ri j3 (fun _ => rfl), rfl, I7_wk (fr_trans (fr_mono rfl j3) (fr_mono rfl k6)) h⟩
  · have h10 : v_X0_has T x0 = 0 := by unfold v_X0_has; grind
    have E1 : F_X10_holds T x0 x1 = (-1, T) := by unfold F_X10_holds; rw [if_pos h10]
    have E2 : F_X11_holds T x0 x1 = (-1, T) := by
      unfold F_X11_holds
      by_cases l1 : x0 < 1
      · rw [if_pos l1]
      · rw [if_neg l1, if_neg (by grind)]
    rw [E1]
    dsimp only
    rw [E2]
    exact ⟨⟨fun w => absurd h10 w, fun _ => trivial⟩, ⟨fun _ => trivial, fun l1 => ⟨fun w => absurd ⟨by grind, by rw [← q]; exact w⟩ c, fun _ => trivial⟩⟩, rfl, rfl, h⟩
