/-! the calls that only touch counts and rows -/
def wl (A : List Nat) (B : List (Nat × Nat)) (k i : Nat) : Bool := A.contains k || B.contains (k, i)
def djb (CA : List Nat) (CB : List (Nat × Nat)) (A : List Nat) (B : List (Nat × Nat)) : Bool := (CA.all fun k => !A.contains k && B.all (fun p => p.1 != k)) && (CB.all fun p => !A.contains p.1 && !B.contains p)
theorem wl_dj {CA : List Nat} {CB : List (Nat × Nat)} {A : List Nat} {B : List (Nat × Nat)} (h : djb CA CB A B = true) : ∀ k i, wl CA CB k i = true → wl A B k i = false := by
  intro k i hw
  unfold djb at h
  unfold wl at hw ⊢
  simp only [Bool.and_eq_true, List.all_eq_true, Bool.or_eq_true, List.contains_iff_mem, Bool.not_eq_true', Bool.or_eq_false_iff, bne_iff_ne, ne_eq] at *
  rcases hw with q | q
  · refine ⟨(h.1 k q).1, ?_⟩
    cases e : B.contains (k, i)
    · rfl
    · rw [List.contains_iff_mem] at e
      exact absurd rfl ((h.1 k q).2 _ e)
  · exact h.2 _ q
/-- the cells that a part of the relation reads -/
def fz (CA : List Nat) (CB : List (Nat × Nat)) (T T' : tT) : Prop := ∀ k i, wl CA CB k i = true → T'.1 k i = T.1 k i ∧ T'.2.1 k i = T.2.1 k i ∧ T'.2.2 k i = T.2.2 k i
theorem fz_of {CA : List Nat} {CB : List (Nat × Nat)} {A : List Nat} {B : List (Nat × Nat)} {T T' : tT} (f : fr (wl A B) T T') (h : djb CA CB A B = true) : fz CA CB T T' := fun k i hw => f k i (wl_dj h k i hw)
theorem fz_i {CA : List Nat} {CB : List (Nat × Nat)} {T T' : tT} (f : fz CA CB T T') (k i : Nat) (h : wl CA CB k i = true) : T'.1 k i = T.1 k i := (f k i h).1
theorem fz_r {CA : List Nat} {CB : List (Nat × Nat)} {T T' : tT} (f : fz CA CB T T') (k : Nat) (h : CA.contains k = true) : T'.1 k = T.1 k := funext fun i => (f k i (by unfold wl; rw [h]; rfl)).1
theorem fz_rj {CA : List Nat} {CB : List (Nat × Nat)} {T T' : tT} (f : fz CA CB T T') (k : Nat) (h : CA.contains k = true) : T'.2.1 k = T.2.1 k := funext fun i => (f k i (by unfold wl; rw [h]; rfl)).2.1
theorem fz_p {CA : List Nat} {CB : List (Nat × Nat)} {T T' : tT} (f : fz CA CB T T') (k i : Nat) (h : wl CA CB k i = true) : T'.2.2 k i = T.2.2 k i := (f k i h).2.2
abbrev cCi : List Nat × List (Nat × Nat) := ([80, 81, 82, 83, 84, 142, 143, 144, 145, 146], [(105, 56), (105, 57), (105, 58), (79, 0), (79, 1), (79, 2)])
theorem ICi_fz {T T' : tT} (f : fz cCi.1 cCi.2 T T') (h : ICi T) : ICi T' := by
  unfold ICi at *
  rw [fz_i f 105 56 rfl, fz_i f 105 57 rfl, fz_i f 105 58 rfl, fz_i f 79 0 rfl, fz_i f 79 1 rfl, fz_i f 79 2 rfl, fz_r f 143 rfl, fz_r f 144 rfl, fz_r f 145 rfl, fz_r f 146 rfl, fz_r f 142 rfl, fz_r f 80 rfl, fz_r f 81 rfl, fz_r f 82 rfl, fz_r f 83 rfl, fz_r f 84 rfl]
  exact h
abbrev cEn : List Nat × List (Nat × Nat) := ([70, 71, 72, 73, 74, 75, 76, 77, 78, 131, 132, 133, 134, 135, 136, 137, 138, 139], [(105, 48), (69, 0)])
theorem IEn_fz {T T' : tT} (f : fz cEn.1 cEn.2 T T') (h : IEn T) : IEn T' := by
  unfold IEn at *
  rw [fz_i f 105 48 rfl, fz_i f 69 0 rfl, fz_r f 70 rfl, fz_r f 71 rfl, fz_r f 72 rfl, fz_r f 73 rfl, fz_r f 74 rfl, fz_r f 75 rfl, fz_r f 76 rfl, fz_r f 77 rfl, fz_rj f 78 rfl, fz_r f 131 rfl, fz_r f 132 rfl, fz_r f 133 rfl, fz_r f 134 rfl, fz_r f 135 rfl, fz_r f 136 rfl, fz_r f 137 rfl, fz_r f 138 rfl, fz_rj f 139 rfl]
  exact h
abbrev cLe : List Nat × List (Nat × Nat) := ([94, 95, 96, 97, 98, 99, 151, 152, 153, 154, 155, 156], [(105, 70), (105, 71), (93, 0), (93, 1), (69, 0), (79, 1)])
theorem ILe_fz {T T' : tT} (f : fz cLe.1 cLe.2 T T') (h : ILe T) : ILe T' := by
  unfold ILe at *
  rw [fz_i f 105 70 rfl, fz_i f 105 71 rfl, fz_i f 93 0 rfl, fz_i f 93 1 rfl, fz_i f 69 0 rfl, fz_i f 79 1 rfl, fz_r f 94 rfl, fz_r f 95 rfl, fz_r f 96 rfl, fz_r f 97 rfl, fz_r f 98 rfl, fz_r f 99 rfl, fz_r f 151 rfl, fz_r f 152 rfl, fz_r f 153 rfl, fz_r f 154 rfl, fz_r f 155 rfl, fz_r f 156 rfl]
  exact h
abbrev cCe : List Nat × List (Nat × Nat) := ([102, 103, 104, 158, 159, 160], [(105, 76), (101, 0), (69, 0), (93, 0)])
theorem ICe_fz {T T' : tT} (f : fz cCe.1 cCe.2 T T') (h : ICe T) : ICe T' := by
  unfold ICe at *
  rw [fz_i f 105 76 rfl, fz_i f 101 0 rfl, fz_i f 69 0 rfl, fz_i f 93 0 rfl, fz_r f 102 rfl, fz_r f 103 rfl, fz_r f 104 rfl, fz_r f 158 rfl, fz_r f 159 rfl, fz_r f 160 rfl]
  exact h
abbrev cTa : List Nat × List (Nat × Nat) := ([5, 106], [(105, 2), (105, 4), (105, 5), (3, 1), (3, 2), (4, 1)])
theorem ITa_fz {T T' : tT} (f : fz cTa.1 cTa.2 T T') (h : ITa T) : ITa T' := by
  unfold ITa at *
  rw [fz_i f 105 2 rfl, fz_i f 105 4 rfl, fz_i f 105 5 rfl, fz_i f 3 1 rfl, fz_i f 3 2 rfl, fz_i f 4 1 rfl, fz_r f 5 rfl, fz_r f 106 rfl]
  exact h
abbrev cPl : List Nat × List (Nat × Nat) := ([86, 150], [(105, 63), (79, 2), (85, 5), (85, 6), (85, 7), (85, 8)])
theorem IPl_fz {T T' : tT} (f : fz cPl.1 cPl.2 T T') (h : IPl T) : IPl T' := by
  unfold IPl at *
  rw [fz_i f 105 63 rfl, fz_i f 79 2 rfl, fz_p f 85 5 rfl, fz_p f 85 6 rfl, fz_p f 85 7 rfl, fz_p f 85 8 rfl, fz_r f 86 rfl, fz_r f 150 rfl]
  exact h
def I6 (T : tT) : Prop := ICi T ∧ IEn T ∧ ILe T ∧ ICe T ∧ ITa T ∧ IPl T
theorem va_upi {f g : Nat → Int32} {n : Nat} {v : Int32} (h : f = g) : va_up f n v = va_up g n v := by rw [h]
theorem q_centre {T : tT} (h : I6 T) : (F_X10_centre T).2.1 0 = T.1 0 ∧ (F_X10_centre T).1 = (F_X11_centre (F_X10_centre T).2).1 ∧ I6 (F_X11_centre (F_X10_centre T).2).2 ∧ fr (wl [] [(79, 0), (105, 56)]) T (F_X11_centre (F_X10_centre T).2).2 := by
  obtain ⟨hC, hE, hL, hS, hA, hP⟩ := h
  have q : T.1 105 56 = T.1 79 0 := hC.1.1
  have b := hC.2.1
  by_cases c : T.1 79 0 < 8
  · have e1 : F_X10_centre T = (T.1 79 0 + 1 - 1, tI T 79 0 (T.1 79 0 + 1)) := by unfold F_X10_centre F_X1_addCentre; rw [if_pos c]
    have e2 : F_X11_centre (tI T 79 0 (T.1 79 0 + 1)) = (T.1 105 56 + 1 - 1, tI (tI T 79 0 (T.1 79 0 + 1)) 105 56 (T.1 105 56 + 1)) := by
      unfold F_X11_centre
      rw [show (tI T 79 0 (T.1 79 0 + 1)).1 105 56 = T.1 105 56 from rfl, if_neg (by grind)]
    rw [e1, e2]
    have f : fr (wl [] [(79, 0), (105, 56)]) T (tI (tI T 79 0 (T.1 79 0 + 1)) 105 56 (T.1 105 56 + 1)) := fr_I rfl (fr_I rfl fr_refl)
    refine ⟨rfl, by rw [q], ⟨?_, IEn_fz (fz_of f rfl) hE, ILe_fz (fz_of f rfl) hL, ICe_fz (fz_of f rfl) hS, ITa_fz (fz_of f rfl) hA, IPl_fz (fz_of f rfl) hP⟩, f⟩
    obtain ⟨a1, a2, a3, a4, a5, a6, a7, a8, a9, a10, a11, a12⟩ := hC
    refine ⟨⟨?_, a1.2.1, a1.2.2⟩, ⟨?_, ?_, a2.2.2.1, a2.2.2.2.1, a2.2.2.2.2.1, a2.2.2.2.2.2⟩, a3, a4, a5, a6, a7, a8, ?_, ?_, a11, a12⟩
    · show T.1 105 56 + 1 = T.1 79 0 + 1
      rw [q]
    · show 0 ≤ T.1 79 0 + 1
      grind
    · show T.1 79 0 + 1 ≤ 8
      grind
    · intro x h0 h1
      have z := a9 x h0 h1
      show T.1 82 x.toNatClampNeg < T.1 79 0 + 1
      grind
    · intro x h0 h1
      have z := a10 x h0 h1
      show T.1 80 x.toNatClampNeg < T.1 79 0 + 1
      grind
  · have e1 : F_X10_centre T = (-1, T) := by unfold F_X10_centre F_X1_addCentre; rw [if_neg c]
    have e2 : F_X11_centre T = (-1, T) := by
      unfold F_X11_centre
      rw [if_pos (by grind)]
    rw [e1, e2]
    exact ⟨rfl, rfl, ⟨hC, hE, hL, hS, hA, hP⟩, fr_refl⟩
theorem q_examiner {sz : Nat} {T : tT} (h : I6 T) (x0 x1 : Int32) : ok_X10_examiner sz T x0 x1 ∧ ok_X11_examiner sz (F_X10_examiner T x0 x1).2 x0 x1 ∧ (F_X10_examiner T x0 x1).2.1 0 = T.1 0 ∧ (F_X10_examiner T x0 x1).1 = (F_X11_examiner (F_X10_examiner T x0 x1).2 x0 x1).1 ∧ I6 (F_X11_examiner (F_X10_examiner T x0 x1).2 x0 x1).2 ∧ fr (wl [80, 81, 143, 144] [(79, 1), (105, 57)]) T (F_X11_examiner (F_X10_examiner T x0 x1).2 x0 x1).2 := by
  obtain ⟨hC, hE, hL, hS, hA, hP⟩ := h
  have q := hC.1
  have b := hC.2.1
  by_cases c : (0 ≤ x0 ∧ x0 < T.1 79 0) ∧ (0 ≤ x1 ∧ x1 ≤ 255) ∧ T.1 79 1 < 5
  · obtain ⟨⟨c1, c2⟩, ⟨c3, c4⟩, c5⟩ := c
    have e1 : F_X10_examiner T x0 x1 = (T.1 79 1 + 1 - 1, tI (tI (tI T 80 ((T.1 79 1).toNatClampNeg) x0) 81 ((T.1 79 1).toNatClampNeg) x1) 79 1 (T.1 79 1 + 1)) := by
      unfold F_X10_examiner F_X1_addExaminer v_X1_hasCentre v_X10_isWithin; grind
    have o1 : ok_X10_examiner sz T x0 x1 := by
      have := vp5 (a := T.1 79 1) (by grind) c5
      unfold ok_X10_examiner ok_X1_addExaminer; grind
    rw [e1]
    have e2 : F_X11_examiner (tI (tI (tI T 80 ((T.1 79 1).toNatClampNeg) x0) 81 ((T.1 79 1).toNatClampNeg) x1) 79 1 (T.1 79 1 + 1)) x0 x1 = (T.1 105 57 + 1 - 1, tI (tI (tI (tI (tI (tI T 80 ((T.1 79 1).toNatClampNeg) x0) 81 ((T.1 79 1).toNatClampNeg) x1) 79 1 (T.1 79 1 + 1)) 143 ((T.1 79 1).toNatClampNeg) x0) 144 ((T.1 79 1).toNatClampNeg) x1) 105 57 (T.1 105 57 + 1)) := by
      unfold F_X11_examiner v_X11_isCentre
      rw [show (tI (tI (tI T 80 ((T.1 79 1).toNatClampNeg) x0) 81 ((T.1 79 1).toNatClampNeg) x1) 79 1 (T.1 79 1 + 1)).1 105 56 = T.1 105 56 from rfl, show (tI (tI (tI T 80 ((T.1 79 1).toNatClampNeg) x0) 81 ((T.1 79 1).toNatClampNeg) x1) 79 1 (T.1 79 1 + 1)).1 105 57 = T.1 105 57 from rfl]
      grind
    have o2 : ok_X11_examiner sz (tI (tI (tI T 80 ((T.1 79 1).toNatClampNeg) x0) 81 ((T.1 79 1).toNatClampNeg) x1) 79 1 (T.1 79 1 + 1)) x0 x1 := by
      have := vp5 (a := T.1 105 57) (by grind) (by grind)
      unfold ok_X11_examiner
      rw [show (tI (tI (tI T 80 ((T.1 79 1).toNatClampNeg) x0) 81 ((T.1 79 1).toNatClampNeg) x1) 79 1 (T.1 79 1 + 1)).1 105 57 = T.1 105 57 from rfl]
      grind
    rw [e2]
    have f : fr (wl [80, 81, 143, 144] [(79, 1), (105, 57)]) T (tI (tI (tI (tI (tI (tI T 80 ((T.1 79 1).toNatClampNeg) x0) 81 ((T.1 79 1).toNatClampNeg) x1) 79 1 (T.1 79 1 + 1)) 143 ((T.1 79 1).toNatClampNeg) x0) 144 ((T.1 79 1).toNatClampNeg) x1) 105 57 (T.1 105 57 + 1)) := fr_I rfl (fr_I rfl (fr_I rfl (fr_I rfl (fr_I rfl (fr_I rfl fr_refl)))))
    refine ⟨o1, o2, rfl, by rw [q.2.1], ⟨?_, IEn_fz (fz_of f rfl) hE, ?_, ICe_fz (fz_of f rfl) hS, ITa_fz (fz_of f rfl) hA, IPl_fz (fz_of f rfl) hP⟩, f⟩
    · obtain ⟨a1, a2, a3, a4, a5, a6, a7, a8, a9, a10, a11, a12⟩ := hC
      refine ⟨⟨a1.1, ?_, a1.2.2⟩, ⟨a2.1, a2.2.1, ?_, ?_, a2.2.2.2.2.1, a2.2.2.2.2.2⟩, ⟨va_upi a3.1, va_upi a3.2.1, a3.2.2⟩, ?_, ?_, a6, a7, a8, a9, ?_, a11, a12⟩
      · show T.1 105 57 + 1 = T.1 79 1 + 1
        rw [q.2.1]
      · show 0 ≤ T.1 79 1 + 1
        grind
      · show T.1 79 1 + 1 ≤ 5
        grind
      · intro i
        show 0 ≤ va_up (T.1 80) _ x0 i ∧ va_up (T.1 80) _ x0 i < 8
        unfold va_up
        have := a4 i
        grind
      · intro i
        show 0 ≤ va_up (T.1 81) _ x1 i ∧ va_up (T.1 81) _ x1 i < 256
        unfold va_up
        have := a5 i
        grind
      · intro x h0 h1
        replace h1 : x < T.1 79 1 + 1 := h1
        show va_up (T.1 80) (T.1 79 1).toNatClampNeg x0 x.toNatClampNeg < T.1 79 0
        unfold va_up
        by_cases hx : x = T.1 79 1
        · rw [hx, if_pos rfl]; exact c2
        · rw [if_neg (tnc_ne h0 b.2.2.1 hx)]; exact a10 x h0 (by grind)
    · obtain ⟨a1, a2, a3, a4, a5, a6, a7, a8, a9, a10, a11, a12⟩ := hL
      refine ⟨a1, a2, a3, a4, a5, a6, a7, ?_, a9, a10, a11, a12⟩
      intro x h0 h1
      have := a8 x h0 h1
      show T.1 95 x.toNatClampNeg = 5 ∨ T.1 95 x.toNatClampNeg < T.1 79 1 + 1
      grind
  · have e1 : F_X10_examiner T x0 x1 = (-1, T) := by
      unfold F_X10_examiner F_X1_addExaminer v_X1_hasCentre v_X10_isWithin; grind
    have e2 : F_X11_examiner T x0 x1 = (-1, T) := by
      unfold F_X11_examiner v_X11_isCentre; grind
    have o1 : ok_X10_examiner sz T x0 x1 := by
      have := vp5 (a := T.1 79 1) (by grind)
      unfold ok_X10_examiner ok_X1_addExaminer; grind
    have o2 : ok_X11_examiner sz T x0 x1 := by
      have := vp5 (a := T.1 105 57) (by grind)
      unfold ok_X11_examiner; grind
    rw [e1, e2]
    exact ⟨o1, o2, rfl, rfl, ⟨hC, hE, hL, hS, hA, hP⟩, fr_refl⟩
