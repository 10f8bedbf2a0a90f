/-- ExamTour.syllabus, by its four ways -/
theorem c_X10_syllabus {d L sz : Nat} {T : tT} {Q : Int32 → Nat → tT → Prop} (hsz : 161 ≤ sz) (x0 : Int32)
    (h0 : v_X10_isTerm T x0 = 0 → Q (-2) sz T)
    (h1 : ¬ v_X10_isTerm T x0 = 0 → ok_X6_read sz T ∧ (¬ (F_X6_read T).1 3 1 = 0 → Q (-1) sz (tI (F_X6_read T) 4 1 0)) ∧
      ((F_X6_read T).1 3 1 = 0 → vp_in x0 4 ∧ ∃ p, (F_X6_read T).2.2 3 3 = some p ∧
        ((F_X6_read T).2.2 65 x0.toNatClampNeg = none → nz (tI (F_X6_read T) 4 1 0) sz ∧ lyl sz lyC8 ∧ tsy (sz + 59) p ∧ ok_X10_gradesOf (sz + 59) (tP (tP (syTn (tI (F_X6_read T) 4 1 0) sz 8) 3 3 (some sz)) 65 x0.toNatClampNeg (some p)) x0 ∧ Q (v_X10_gradesOf (tP (tP (syTn (tI (F_X6_read T) 4 1 0) sz 8) 3 3 (some sz)) 65 x0.toNatClampNeg (some p)) x0) (sz + 59) (tP (tP (syTn (tI (F_X6_read T) 4 1 0) sz 8) 3 3 (some sz)) 65 x0.toNatClampNeg (some p))) ∧
        (∀ q, (F_X6_read T).2.2 65 x0.toNatClampNeg = some q → tsy sz q ∧ tsy sz p ∧ ok_X10_gradesOf sz (tP (tP (tI (F_X6_read T) 4 1 0) 3 3 (some q)) 65 x0.toNatClampNeg (some p)) x0 ∧ Q (v_X10_gradesOf (tP (tP (tI (F_X6_read T) 4 1 0) 3 3 (some q)) 65 x0.toNatClampNeg (some p)) x0) sz (tP (tP (tI (F_X6_read T) 4 1 0) 3 3 (some q)) 65 x0.toNatClampNeg (some p))))) :
    tiS (d + 385) mX10_syllabus [.ref 2, .int x0] L sz T Q := by
  refine k_X10_syllabus (d := d + 384) hsz x0 ⟨_, c_X10_isTerm hsz x0, ?_⟩
  rintro _ _ ⟨rfl, rfl⟩
  refine ⟨fun k => ?_, fun k => h0 k⟩
  obtain ⟨ok, hb, hc⟩ := h1 k
  refine ⟨_, c_X6_read hsz ok, ?_⟩
  rintro _ rfl
  refine ⟨fun e => ?_, fun e => hb e⟩
  obtain ⟨hv, p, hp, hn, hs⟩ := hc e
  refine ⟨hv, fun ho => ?_, fun q ho => ?_⟩
  · obtain ⟨hz, hl, hts, hok, hq⟩ := hn ho
    refine ⟨_, k_X6_exchange_n (p := p) (Q := fun r s t => r = some p ∧ s = sz + 59 ∧ t = tP (syTn (tI (F_X6_read T) 4 1 0) sz 8) 3 3 (some sz)) hsz hz hl hp ⟨rfl, rfl, rfl⟩, ?_⟩
    rintro _ _ _ _ ⟨rfl, rfl, rfl⟩
    refine ⟨fun c => (by cases c), fun p5 c => ?_⟩
    cases c
    refine ⟨hts, hv, _, c_X10_gradesOf (by omega) x0 hok, ?_⟩
    rintro _ _ ⟨rfl, rfl⟩
    exact hq
  · obtain ⟨hq1, hp1, hok, hq⟩ := hs q ho
    refine ⟨hq1, _, k_X6_exchange_r (p := p) (Q := fun r s t => r = some p ∧ s = sz ∧ t = tP (tI (F_X6_read T) 4 1 0) 3 3 (some q)) hsz hp ⟨rfl, rfl, rfl⟩, ?_⟩
    rintro _ _ _ _ ⟨rfl, rfl, rfl⟩
    refine ⟨fun c => (by cases c), fun p5 c => ?_⟩
    cases c
    refine ⟨hp1, hv, _, c_X10_gradesOf hsz x0 hok, ?_⟩
    rintro _ _ ⟨rfl, rfl⟩
    exact hq
