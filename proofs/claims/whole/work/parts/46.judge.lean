/-! judge, result -/
def wsb (A : List Nat) (B : List (Nat × Nat)) (A' : List Nat) (B' : List (Nat × Nat)) : Bool := (A.all fun k => A'.contains k) && (B.all fun q => A'.contains q.1 || B'.contains q)
theorem fr_mono {A : List Nat} {B : List (Nat × Nat)} {A' : List Nat} {B' : List (Nat × Nat)} {T T' : tT} (h : wsb A B A' B' = true) (f : fr (wl A B) T T') : fr (wl A' B') T T' := by
  intro k i hk
  apply f
  unfold wsb at h
  simp only [Bool.and_eq_true, List.all_eq_true, Bool.or_eq_true, List.contains_iff_mem] at h
  unfold wl at *
  rw [Bool.or_eq_false_iff] at *
  constructor
  · cases e : A.contains k
    · rfl
    · rw [List.contains_iff_mem] at e
      have := List.contains_iff_mem.mpr (h.1 k e)
      rw [this] at hk
      exact absurd hk.1 (by decide)
  · cases e : B.contains (k, i)
    · rfl
    · rw [List.contains_iff_mem] at e
      rcases h.2 (k, i) e with q | q
      · have := List.contains_iff_mem.mpr q
        rw [this] at hk
        exact absurd hk.1 (by decide)
      · have := List.contains_iff_mem.mpr q
        rw [this] at hk
        exact absurd hk.2 (by decide)
abbrev sA : List Nat := [67, 68, 102, 103, 104, 140, 141, 158, 159, 160]
abbrev sB : List (Nat × Nat) := [(66, 2), (101, 0), (105, 76)]
/-- what judging and results need -/
def J7 (sz : Nat) (T : tT) : Prop := IEn T ∧ ILe T ∧ ITx sz T
theorem I7_scr {sz : Nat} {T T' : tT} (f : fr (wl sA sB) T T') (h : J7 sz T) : J7 sz T' :=
  ⟨IEn_fz (fz_of f rfl) h.1, ILe_fz (fz_of f rfl) h.2.1, ITx_fr f rfl h.2.2⟩
theorem fgJ {sz : Nat} {T : tT} (h : J7 sz T) {e : Int32} (ve : vp_in e 40) : ok_X10_gradeOf sz T e ∧ ok_X11_spotOf sz T e ∧ ((v_X10_gradeOf T e = none ∧ v_X11_spotOf T e = -1) ∨ ∃ p b j : Nat, v_X10_gradeOf T e = some (p + 3 + 7 * j) ∧ (v_X11_spotOf T e).toInt = (8 * b + j : Nat) ∧ b < 5 ∧ j < 8 ∧ T.2.2 65 (T.1 71 e.toNatClampNeg).toNatClampNeg = some p ∧ tsy sz p ∧ tgr sz (p + 3 + 7 * j) ∧ (0 ≤ T.1 p 3 ∧ T.1 p 3 ≤ 750) ∧ GB T p b (p + 3 + 7 * j) (8 * b + j)) := by
  obtain ⟨f1, f2, f3⟩ := fg h.2.2 (T.1 71 e.toNatClampNeg) (T.1 72 e.toNatClampNeg)
  have r1 : T.1 132 = T.1 71 := h.1.2.2.1.2.1
  have r2 : T.1 133 = T.1 72 := h.1.2.2.1.2.2.1
  have ge : v_X10_gradeOf T e = v_X10_findGrade T (T.1 71 e.toNatClampNeg) (T.1 72 e.toNatClampNeg) := by
    unfold v_X10_gradeOf
    cases v_X10_findGrade T (T.1 71 e.toNatClampNeg) (T.1 72 e.toNatClampNeg) <;> rfl
  have se : v_X11_spotOf T e = v_X11_spot T (T.1 71 e.toNatClampNeg) (T.1 72 e.toNatClampNeg) := by
    unfold v_X11_spotOf
    rw [r1, r2]
  have o2 : ok_X11_spotOf sz T e := by
    unfold ok_X11_spotOf
    rw [r1, r2]
    exact ⟨ve, ve, f2, trivial⟩
  have o1 : ok_X10_gradeOf sz T e := by
    unfold ok_X10_gradeOf
    refine ⟨ve, ve, f1, fun _ => trivial, fun p2 w => ?_⟩
    rcases f3 with ⟨e1, e2⟩ | ⟨p, b, j, e1, e2, b5, j8, t0, t4, e3, e4, e5, e6, e7⟩
    · rw [e1] at w; cases w
    · rw [e1] at w; cases w; exact ⟨e5, trivial⟩
  rw [ge, se]
  refine ⟨o1, o2, ?_⟩
  rcases f3 with q | ⟨p, b, j, e1, e2, b5, j8, t0, t4, e3⟩
  · exact Or.inl q
  · exact Or.inr ⟨p, b, j, e1, e2, b5, j8, e3⟩
/-- a grade that an entry has -/
def Gr (sz : Nat) (T : tT) (p b j : Nat) (e hv : Int32) (en : Nat) : Prop := (b < 5 ∧ j < 8) ∧ (p = 6 ∨ ∃ i, p = 161 + 59 * i) ∧ (0 ≤ T.1 p 3 ∧ T.1 p 3 ≤ 750) ∧ GB T p b (p + 3 + 7 * j) (8 * b + j) ∧ hv.toInt = (8 * b + j : Nat) ∧ e.toInt = en ∧ en < 40
theorem Gr_fx {T T' : tT} {p : Nat} (f : fr (wl sA sB) T T') (hp : p = 6 ∨ ∃ i, p = 161 + 59 * i) : rfx T T' ∧ cfx T T' p := by
  obtain ⟨w, _⟩ := txo_f f rfl
  constructor
  · intro k h1 h2
    have := w k (by unfold txb; simp only [Bool.or_eq_true, Bool.and_eq_true, decide_eq_true_eq]; omega)
    exact ⟨this.1, this.2.1⟩
  · exact fun k h1 h2 => w k (txb_p hp h1 h2)
theorem Gr_scr {sz : Nat} {T T' : tT} {p b j : Nat} {e hv : Int32} {en : Nat} (f : fr (wl sA sB) T T') (h : Gr sz T p b j e hv en) : Gr sz T' p b j e hv en := by
  obtain ⟨h1, h2, h3, h4, h5⟩ := h
  obtain ⟨r, c⟩ := Gr_fx f h2
  refine ⟨h1, h2, ?_, GB_cg h1.2 r c h4, h5⟩
  rw [(c p (by omega) (by omega)).1]
  exact h3
theorem rule_eq {sz : Nat} {T Tc Tr : tT} {p b j : Nat} {e hv : Int32} {en : Nat} {m : Bool} {start from' to : Int32} (hI : J7 sz T) (fc : fr (wl sA sB) T Tc) (fr' : fr (wl sA sB) T Tr) (hG : Gr sz T p b j e hv en) (hR : Rul T p b m (T.1 (p + 3 + 7 * j) 1) (T.1 (p + 3 + 7 * j) 2) start from' to) (hp : m = true ∨ ∀ i : Nat, (i : Int) < (T.1 (p + 3 + 7 * j) 2).toInt → Tr.1 141 i = Tc.1 67 i) : ∃ r, ((F_X4_work Tc p (p + 3 + 7 * j) e start).1 = r ∧ ok_X4_work sz Tc p (p + 3 + 7 * j) e start ∧ fr (wl [68] [(66, 2)]) Tc (F_X4_work Tc p (p + 3 + 7 * j) e start).2) ∧ ((F_X11_work Tr from' to hv e).1 = r ∧ ok_X11_work sz Tr from' to hv e ∧ fr (wl [140] []) Tr (F_X11_work Tr from' to hv e).2) := by
  obtain ⟨⟨b5, j8⟩, hp6, hu, hGB, hh, he, e40⟩ := hG
  have hIc := I7_scr fc hI
  have hIr := I7_scr fr' hI
  obtain ⟨rc', cc⟩ := Gr_fx fc hp6
  obtain ⟨rr, cr⟩ := Gr_fx fr' hp6
  have Gc := GB_cg j8 rc' cc hGB
  have Grr := GB_cg j8 rr cr hGB
  have cg := cc (p + 3 + 7 * j) (by omega) (by omega)
  have cg2 := cc (p + 3 + 7 * j + 2) (by omega) (by omega)
  have cg3 := cc (p + 3 + 7 * j + 3) (by omega) (by omega)
  have rg := cr (p + 3 + 7 * j) (by omega) (by omega)
  have rg2 := cr (p + 3 + 7 * j + 2) (by omega) (by omega)
  have rg3 := cr (p + 3 + 7 * j + 3) (by omega) (by omega)
  have nz : ∀ o, o < 7 → p + 3 + 7 * j + o ≠ 66 ∧ p + 3 + 7 * j + o ≠ 68 ∧ p + 3 + 7 * j + o ≠ 140 := by
    intro o ho
    rcases hp6 with q | ⟨i, q⟩ <;> omega
  have np : p ≠ 66 ∧ p ≠ 68 ∧ p + 2 ≠ 66 ∧ p + 2 ≠ 68 := by
    rcases hp6 with q | ⟨i, q⟩ <;> omega
  have sc : gSz Tc (p + 3 + 7 * j) := ⟨Gc.1.2, fun l hl => ⟨(Gc.2.2.2.2.1 l hl).2.1, (Gc.2.2.2.2.1 l hl).2.2.1⟩⟩
  have sr : gSz Tr (p + 3 + 7 * j) := ⟨Grr.1.2, fun l hl => ⟨(Grr.2.2.2.2.1 l hl).2.1, (Grr.2.2.2.2.1 l hl).2.2.1⟩⟩
  have lr : gLs Tr (p + 3 + 7 * j) (8 * b + j) := ⟨Grr.1.1, fun l hl => ⟨(Grr.2.2.2.2.1 l hl).1, (Grr.2.2.2.2.1 l hl).2.2.2.2⟩⟩
  have c77 : Tc.1 77 = T.1 77 := fr_ri fc (fun _ => rfl)
  have r77 : Tr.1 77 = T.1 77 := fr_ri fr' (fun _ => rfl)
  have q : lEq Tc Tr (p + 3 + 7 * j) := ⟨rg.1.trans cg.1.symm, rg2.1.trans cg2.1.symm, rg3.2.1.trans cg3.2.1.symm, r77.trans c77.symm, (fr_rj fr' (fun _ => rfl)).trans (fr_rj fc (k := 78) (fun _ => rfl)).symm, (fr_ri fr' (fun _ => rfl)).trans (fr_ri fc (k := 74) (fun _ => rfl)).symm⟩
  have a1 := hl5 (sz := sz) (m := m) sc (fun o ho => ⟨(nz o ho).1, (nz o ho).2.1⟩) he e40 Gc.2.1.2.1 Gc.2.1.2.2 (hIc.1.2.2.2.2.2.1 en)
  have a2 := hl11 (sz := sz) (m := m) sr lr (by omega) hh hIr.1.2.2.1.2.2.2.2.2.2.2.1 hIr.1.2.2.1.2.2.2.2.2.2.2.2 hIr.1.2.2.1.2.2.2.2.1 Grr.2.1.1 (fun o ho => (nz o ho).2.2) he e40 Grr.2.1.2.1 Grr.2.1.2.2 (hIr.1.2.2.2.2.2.1 en)
  have hRc : Rul Tc p b m (T.1 (p + 3 + 7 * j) 1) (T.1 (p + 3 + 7 * j) 2) start from' to := by
    unfold Rul at *
    rw [(cc p (by omega) (by omega)).1, (cc (p + 2) (by omega) (by omega)).1, (rc' 123 (by decide) (by decide)).1, (rc' 124 (by decide) (by decide)).1]
    exact hR
  refine e_rul (sz := sz) (T1 := Tr) (h := j) (lfv Tc (p + 3 + 7 * j) en (Tc.1 67)) hRc (by rw [(cc p (by omega) (by omega)).1]; exact hu.2) np b5 hh j8 ((rr 123 (by decide) (by decide)).1.trans (rc' 123 (by decide) (by decide)).1.symm) ((rr 124 (by decide) (by decide)).1.trans (rc' 124 (by decide) (by decide)).1.symm) (fun T' f' k v w1 w2 => a1 T' f' k v (by rw [cg.1]; exact w1) w2) ?_
  intro T' f' k v w1 w2
  have := a2 T' f' k v (by rw [rg.1]; exact w1) w2
  refine ⟨this.1.trans ?_, this.2⟩
  exact lfv_cg (m := m) q rfl Gc.2.1.2.1 (by rw [cg.1]; exact w1) w2 (hp.imp id (fun w i hi => w i (by rw [cg.1] at hi; exact hi)))
theorem judge_l {sz : Nat} {T : tT} {p b j : Nat} {e hv : Int32} {en : Nat} (hI : J7 sz T) (hG : Gr sz T p b j e hv en) {M : Nat} (hM : (T.1 (p + 3 + 7 * j) 3).toInt = M) (M8 : M ≤ 8) : ∀ (m n n' k : Nat) (Tc Tr : tT) (v : Int32), fr (wl sA sB) T Tc → fr (wl sA sB) T Tr → v.toInt = k → k + m = M → m < n → m < n' → ∃ r, ((vl_X10_firstUnmet n) Tc p (p + 3 + 7 * j) e v).1 = r ∧ (okl_X10_firstUnmet n) sz Tc p (p + 3 + 7 * j) e v ∧ fr (wl [68] [(66, 2)]) Tc ((vl_X10_firstUnmet n) Tc p (p + 3 + 7 * j) e v).2 ∧ (vl_X11_judge n' Tr e hv v).1 = r ∧ okl_X11_judge n' sz Tr e hv v ∧ fr (wl [140] []) Tr (vl_X11_judge n' Tr e hv v).2 := by
  obtain ⟨⟨b5, j8⟩, hp6, hu, hGB, hh, he, e40⟩ := id hG
  have vh : vp_in hv 40 := by rw [vp_in_iff]; omega
  have z8 : (8 : Int32).toInt = 8 := rfl
  intro m
  induction m with
  | zero =>
    intro n n' k Tc Tr v fc fr' hk hm hn hn'
    obtain ⟨n, rfl⟩ : ∃ n0, n = n0 + 1 := ⟨n - 1, by omega⟩
    obtain ⟨n', rfl⟩ : ∃ n0, n' = n0 + 1 := ⟨n' - 1, by omega⟩
    have c1 : Tc.1 (p + 3 + 7 * j) 3 ≤ v := by
      rw [((Gr_fx fc hp6).2 (p + 3 + 7 * j) (by omega) (by omega)).1, tle]; omega
    have c2 : Tr.1 115 hv.toNatClampNeg ≤ v := by
      rw [((Gr_fx fr' hp6).1 115 (by decide) (by decide)).1, tnN hh, ← hGB.2.2.1.1, tle]; omega
    refine ⟨-1, ?_, ?_, ?_, ?_, ?_, ?_⟩
    · rw [vl_X10_firstUnmet_s0, if_pos c1]
    · rw [okl_X10_firstUnmet_s0]; exact ⟨fun _ => trivial, fun q => absurd c1 q⟩
    · rw [vl_X10_firstUnmet_s0, if_pos c1]; exact fr_refl
    · rw [vl_X11_judge_s, if_pos c2]
    · simp only [okl_X11_judge]; exact ⟨vh, fun _ => trivial, fun q => absurd c2 q⟩
    · rw [vl_X11_judge_s, if_pos c2]; exact fr_refl
  | succ m ih =>
    intro n n' k Tc Tr v fc fr' hk hm hn hn'
    obtain ⟨n, rfl⟩ : ∃ n0, n = n0 + 1 := ⟨n - 1, by omega⟩
    obtain ⟨n', rfl⟩ : ∃ n0, n' = n0 + 1 := ⟨n' - 1, by omega⟩
    have gc := (Gr_fx fc hp6).2
    have gr := (Gr_fx fr' hp6).1
    have c1 : ¬ Tc.1 (p + 3 + 7 * j) 3 ≤ v := by
      rw [(gc (p + 3 + 7 * j) (by omega) (by omega)).1, tle]; omega
    have c2 : ¬ Tr.1 115 hv.toNatClampNeg ≤ v := by
      rw [(gr 115 (by decide) (by decide)).1, tnN hh, ← hGB.2.2.1.1, tle]; omega
    have m1 : ((8 : Int32) * hv).toInt = 8 * (8 * b + j : Nat) := by rw [tmul (by rw [z8]; omega) (by rw [z8]; omega), z8, hh]
    have ix : ((8 : Int32) * hv + v).toInt = (8 * (8 * b + j) + k : Nat) := by rw [tadd (by omega) (by omega)]; omega
    have vi : vp_in ((8 : Int32) * hv + v) 320 := by rw [vp_in_iff]; omega
    have vv : vp_in v 8 := by rw [vp_in_iff]; omega
    have hR := hGB.2.2.2.2.2.2.1 k (by omega)
    have e1 : Tc.1 (p + 3 + 7 * j + 6) v.toNatClampNeg = T.1 (p + 3 + 7 * j + 6) k := by rw [tnN hk, (gc (p + 3 + 7 * j + 6) (by omega) (by omega)).1]
    have e2 : Tr.1 117 ((8 : Int32) * hv + v).toNatClampNeg = T.1 117 (8 * (8 * b + j) + k) := by rw [tnN ix, (gr 117 (by decide) (by decide)).1]
    have e3 : Tr.1 118 ((8 : Int32) * hv + v).toNatClampNeg = T.1 118 (8 * (8 * b + j) + k) := by rw [tnN ix, (gr 118 (by decide) (by decide)).1]
    obtain ⟨r, ⟨u1, u2, u3⟩, w1, w2, w3⟩ := rule_eq (sz := sz) hI fc fr' hG hR (Or.inl rfl)
    have st : (v + 1).toInt = (k + 1 : Nat) := by rw [tinc' (by omega)]; omega
    obtain ⟨r2, x1, x2, x3, x4, x5, x6⟩ := ih n n' (k + 1) _ _ (v + 1) (fr_trans fc (fr_mono rfl u3)) (fr_trans fr' (fr_mono rfl w3)) st (by omega) (by omega) (by omega)
    by_cases c : r = 0
    · refine ⟨v, ?_, ?_, ?_, ?_, ?_, ?_⟩
      · rw [vl_X10_firstUnmet_s0, if_neg c1, e1, u1, if_pos c]
      · rw [okl_X10_firstUnmet_s0, e1, u1]; exact ⟨fun q => absurd q c1, fun _ => ⟨vv, u2, fun q => absurd c q, fun _ => trivial⟩⟩
      · rw [vl_X10_firstUnmet_s0, if_neg c1, e1, u1, if_pos c]; exact u3
      · rw [vl_X11_judge_s, if_neg c2, e2, e3, w1, if_pos c]
      · simp only [okl_X11_judge]; rw [e2, e3, w1]; exact ⟨vh, fun q => absurd q c2, fun _ => ⟨vi, vi, w2, fun q => absurd c q, fun _ => trivial⟩⟩
      · rw [vl_X11_judge_s, if_neg c2, e2, e3, w1, if_pos c]; exact w3
    · refine ⟨r2, ?_, ?_, ?_, ?_, ?_, ?_⟩
      · rw [vl_X10_firstUnmet_s0, if_neg c1, e1, u1, if_neg c]; exact x1
      · rw [okl_X10_firstUnmet_s0, e1, u1]; exact ⟨fun q => absurd q c1, fun _ => ⟨vv, u2, fun _ => x2, fun _ => trivial⟩⟩
      · rw [vl_X10_firstUnmet_s0, if_neg c1, e1, u1, if_neg c]; exact fr_trans u3 x3
      · rw [vl_X11_judge_s, if_neg c2, e2, e3, w1, if_neg c]; exact x4
      · simp only [okl_X11_judge]; rw [e2, e3, w1]; exact ⟨vh, fun q => absurd q c2, fun _ => ⟨vi, vi, w2, fun _ => x5, fun _ => trivial⟩⟩
      · rw [vl_X11_judge_s, if_neg c2, e2, e3, w1, if_neg c]; exact fr_trans w3 x6
/-- an entry: no grade in both, or the same grade -/
theorem ent {sz : Nat} {T : tT} (hI : J7 sz T) {e : Int32} (h0 : 0 ≤ e) (h1 : e < T.1 69 0) : vp_in e 40 ∧ vp_in (T.1 71 e.toNatClampNeg) 4 ∧ ok_X10_gradeOf sz T e ∧ ok_X11_spotOf sz T e ∧ (v_X10_gradeOf T e = none ∧ v_X11_spotOf T e = -1 ∨ ∃ p b j en, v_X10_gradeOf T e = some (p + 3 + 7 * j) ∧ T.2.2 65 (T.1 71 e.toNatClampNeg).toNatClampNeg = some p ∧ tsy sz p ∧ tgr sz (p + 3 + 7 * j) ∧ Gr sz T p b j e (v_X11_spotOf T e) en) ∧ (∀ p, T.2.2 65 (T.1 71 e.toNatClampNeg).toNatClampNeg = some p → tsy sz p) := by
  have b40 := hI.1.2.1
  have ve := vp40 (a := e) h0 (by grind)
  have te := hI.1.2.2.2.1 e.toNatClampNeg
  have vt := vp4 te.1 te.2
  obtain ⟨f1, f2, f3⟩ := fgJ hI ve
  have tn : (T.1 71 e.toNatClampNeg).toNatClampNeg < 4 := by
    have a1 := tle.mp te.1
    have a2 := tlt.mp te.2
    have z0 : (0 : Int32).toInt = 0 := rfl
    have z4 : (4 : Int32).toInt = 4 := rfl
    rw [tncd]
    omega
  have sp : ∀ p, T.2.2 65 (T.1 71 e.toNatClampNeg).toNatClampNeg = some p → spos sz T p := by
    intro p hp
    rcases hI.2.2.2.1 _ tn with q | ⟨p', q1, q2, q3, q4⟩
    · rw [q.1] at hp; cases hp
    · rw [q1] at hp; cases hp; exact q3
  refine ⟨ve, vt, f1, f2, ?_, fun p hp => (sp p hp).1⟩
  rcases f3 with q | ⟨p, b, j, e1, e2, b5, j8, e3, e4, e5, e6, e7⟩
  · exact Or.inl q
  · refine Or.inr ⟨p, b, j, e.toNatClampNeg, e1, e3, e4, e5, ⟨b5, j8⟩, (sp p e3).2.1, e6, e7, e2, ?_, ?_⟩
    · rw [tncd]; have := tle.mp h0; have z0 : (0 : Int32).toInt = 0 := rfl; omega
    · have := tlt.mp h1; have := tle.mp b40.2; have z0 : (40 : Int32).toInt = 40 := rfl; rw [tncd]; omega
theorem judge_eq {sz : Nat} {T Tc Tr : tT} (hI : J7 sz T) (fc : fr (wl sA sB) T Tc) (fr' : fr (wl sA sB) T Tr) {e : Int32} (h0 : 0 ≤ e) (h1 : e < T.1 69 0) : ∃ r, (F_X10_firstUnmet Tc e).1 = r ∧ ok_X10_firstUnmet sz Tc e ∧ fr (wl [68] [(66, 2)]) Tc (F_X10_firstUnmet Tc e).2 ∧ (F_X11_judge Tr e).1 = r ∧ ok_X11_judge sz Tr e ∧ fr (wl [140] []) Tr (F_X11_judge Tr e).2 ∧ (v_X10_gradeOf T e = none → r = -2) := by
  have hIc := I7_scr fc hI
  have hIr := I7_scr fr' hI
  have c69 : Tc.1 69 0 = T.1 69 0 := fr_i fc rfl
  have r69 : Tr.1 69 0 = T.1 69 0 := fr_i fr' rfl
  obtain ⟨a1, a2, a3, a4, a5, a6⟩ := ent hI h0 h1
  obtain ⟨b1, b2, b3, b4, b5, b6⟩ := ent hIc h0 (by rw [c69]; exact h1)
  obtain ⟨d1, d2, d3, d4, d5, d6⟩ := ent hIr h0 (by rw [r69]; exact h1)
  have wc := (txo_f fc rfl).1
  have wr := (txo_f fr' rfl).1
  have ge : v_X10_gradeOf Tc e = v_X10_gradeOf T e := by
    rcases a5 with ⟨q, q'⟩ | ⟨p, b, j, en, q1, q2, q3, q4, q5⟩
    · rcases b5 with ⟨w, w'⟩ | ⟨p', b', j', en', w1, w2, w3, w4, w5⟩
      · rw [q, w]
      · exfalso
        have s : v_X11_spotOf Tc e = v_X11_spotOf T e := by
          unfold v_X11_spotOf v_X11_spot
          rw [show Tc.1 132 = T.1 132 from fr_ri fc (fun _ => rfl), show Tc.1 133 = T.1 133 from fr_ri fc (fun _ => rfl), (wc 109 rfl).1, (wc 108 rfl).1, (wc 110 rfl).1]
        have := w5.2.2.2.2.1
        rw [s, q', show (-1 : Int32).toInt = -1 from rfl] at this
        omega
    · have s : v_X10_gradeOf Tc e = v_X10_gradeOf T e := by
        have r1 : Tc.1 71 = T.1 71 := fr_ri fc (fun _ => rfl)
        have r2 : Tc.1 72 = T.1 72 := fr_ri fc (fun _ => rfl)
        unfold v_X10_gradeOf v_X10_findGrade v_X10_isTerm
        rw [r1, r2, (wc 65 rfl).2.2, q2]
        have fx := (Gr_fx fc q5.2.1).2
        have : v_X8_find Tc p (T.1 72 e.toNatClampNeg) = v_X8_find T p (T.1 72 e.toNatClampNeg) := by
          unfold v_X8_find
          rw [(fx (p + 1) (by omega) (by omega)).2.2]
          by_cases n1 : T.1 72 e.toNatClampNeg < 1
          · rw [if_pos n1, if_pos n1]
          · rw [if_neg n1, if_neg n1]
            by_cases n8 : 8 < T.1 72 e.toNatClampNeg
            · rw [if_pos n8, if_pos n8]
            · rw [if_neg n8, if_neg n8]
              have i8 : (T.1 72 e.toNatClampNeg - 1).toNatClampNeg < 8 := by
                have g1 : 1 ≤ T.1 72 e.toNatClampNeg := by grind
                have g2 : T.1 72 e.toNatClampNeg ≤ 8 := by grind
                have y1 := tle.mp g1
                have y2 := tle.mp g2
                have z1 : (1 : Int32).toInt = 1 := rfl
                have z8 : (8 : Int32).toInt = 8 := rfl
                have y3 : (T.1 72 e.toNatClampNeg - 1).toInt = (T.1 72 e.toNatClampNeg).toInt - 1 := tsub (by omega) (by omega)
                rw [tncd, y3]
                omega
              have tn : (T.1 71 e.toNatClampNeg).toNatClampNeg < 4 := by
                have te := hI.1.2.2.2.1 e.toNatClampNeg
                have y1 := tle.mp te.1
                have y2 := tlt.mp te.2
                have z0 : (0 : Int32).toInt = 0 := rfl
                have z4 : (4 : Int32).toInt = 4 := rfl
                rw [tncd]
                omega
              rcases hI.2.2.2.1 _ tn with q' | ⟨p', y1, y2, y3, y4⟩
              · rw [q'.1] at q2; cases q2
              · rw [q2] at y1
                cases y1
                rw [y3.2.2 _ i8]
                dsimp only
                rw [(fx _ (by omega) (by omega)).1]
        dsimp only
        rw [this]
      exact s
  have te : T.2.2 65 (T.1 71 e.toNatClampNeg).toNatClampNeg = Tc.2.2 65 (Tc.1 71 e.toNatClampNeg).toNatClampNeg := by
    rw [(wc 65 rfl).2.2, show Tc.1 71 = T.1 71 from fr_ri fc (fun _ => rfl)]
  have se : v_X11_spotOf Tr e = v_X11_spotOf T e := by
    unfold v_X11_spotOf v_X11_spot
    rw [show Tr.1 132 = T.1 132 from fr_ri fr' (fun _ => rfl), show Tr.1 133 = T.1 133 from fr_ri fr' (fun _ => rfl), (wr 109 rfl).1, (wr 108 rfl).1, (wr 110 rfl).1]
  have ie : ¬ v_X11_isEntry Tr e = 0 := by
    unfold v_X11_isEntry
    rw [hIr.1.1, r69]
    grind
  rcases a5 with ⟨q, q'⟩ | ⟨p, b, j, en, q1, q2, q3, q4, q5⟩
  · refine ⟨-2, ?_, ?_, ?_, ?_, ?_, ?_, fun _ => rfl⟩
    · unfold F_X10_firstUnmet
      rw [ge, q]
      cases Tc.2.2 65 (Tc.1 71 e.toNatClampNeg).toNatClampNeg <;> rfl
    · unfold ok_X10_firstUnmet
      rw [ge, q]
      exact ⟨b1, b2, fun _ => ⟨b3, fun _ => trivial, fun p3 w => (by cases w)⟩, fun p1 w => ⟨b6 p1 w, b3, fun _ => trivial, fun p3 w => (by cases w)⟩⟩
    · unfold F_X10_firstUnmet
      rw [ge, q]
      cases Tc.2.2 65 (Tc.1 71 e.toNatClampNeg).toNatClampNeg <;> exact fr_refl
    · unfold F_X11_judge
      rw [if_neg ie, se, q', if_neg (by decide)]
    · unfold ok_X11_judge
      rw [se, q']
      exact ⟨fun _ => ⟨d4, fun w => absurd w (by decide), fun _ => trivial⟩, fun _ => trivial⟩
    · unfold F_X11_judge
      rw [if_neg ie, se, q', if_neg (by decide)]
      exact fr_refl
  · obtain ⟨M, hM⟩ : ∃ M : Nat, (T.1 (p + 3 + 7 * j) 3).toInt = M := ⟨(T.1 (p + 3 + 7 * j) 3).toInt.toNat, by have := tle.mp q5.2.2.2.1.2.2.1.2.1; have z : (0 : Int32).toInt = 0 := rfl; omega⟩
    have M8 : M ≤ 8 := by have := tle.mp q5.2.2.2.1.2.2.1.2.2; have z : (8 : Int32).toInt = 8 := rfl; omega
    obtain ⟨r, x1, x2, x3, x4, x5, x6⟩ := judge_l (sz := sz) hI q5 hM M8 M fu fu 0 Tc Tr 0 fc fr' rfl (by omega) (by rw [fu_eq]; omega) (by rw [fu_eq]; omega)
    have s0 : 0 ≤ v_X11_spotOf T e := by rw [tle, q5.2.2.2.2.1]; exact Int.natCast_nonneg _
    have EF : F_X10_firstUnmet Tc e = (vl_X10_firstUnmet fu) Tc p (p + 3 + 7 * j) e 0 := by
      unfold F_X10_firstUnmet
      rw [ge, q1, ← te, q2]
    have EJ : F_X11_judge Tr e = vl_X11_judge fu Tr e (v_X11_spotOf T e) 0 := by
      unfold F_X11_judge
      rw [if_neg ie, se, if_pos s0]
    rw [EF, EJ]
    refine ⟨r, x1, ?_, x3, x4, ?_, x6, fun w => by rw [q1] at w; cases w⟩
    · unfold ok_X10_firstUnmet
      rw [ge, q1, ← te, q2]
      refine ⟨b1, b2, fun w => (by cases w), fun p1 w => ?_⟩
      cases w
      refine ⟨q3, b3, fun w => (by cases w), fun p5 w => ?_⟩
      cases w
      exact ⟨q4, x2⟩
    · unfold ok_X11_judge
      rw [se]
      exact ⟨fun _ => ⟨d4, fun _ => x5, fun w => absurd s0 w⟩, fun w => absurd w ie⟩
