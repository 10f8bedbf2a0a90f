/-! the relation at the start -/
theorem st_0 {xs : Nat → Int32} {k : Nat} (h0 : k ≠ 0) (h3 : k ≠ 3) (h7 : k ≠ 7) (h85 : k ≠ 85) (h86 : k ≠ 86) (h105 : k ≠ 105) (h108 : k ≠ 108) : (T1 xs).1 k = (fun _ => 0) ∧ (T1 xs).2.2 k = (fun _ => none) ∧ (k ≠ 1 → (T1 xs).2.1 k = (fun _ => 0)) := by
  obtain ⟨a1, a2, a3⟩ := mdT_o (T := exT (T0 xs) 2) (a := 105) (j := k) h105 h108
  obtain ⟨b1, b2, b3⟩ := plT_o (T := prT (T0 xs) 3) (a := 85) (j := k) h85 h86
  obtain ⟨c1, c2, c3⟩ := prT_o (T := T0 xs) (a := 3) (j := k) h3 h7
  have e1 : (T1 xs).1 k = (T0 xs).1 k := a1.trans (b1.trans c1)
  have e2 : (T1 xs).2.1 k = (T0 xs).2.1 k := a2.trans (b2.trans c2)
  have e3 : (T1 xs).2.2 k = (T0 xs).2.2 k := a3.trans (b3.trans c3)
  refine ⟨?_, ?_, fun h1 => ?_⟩
  · rw [e1]
    show (if k = 0 then xs else fun _ => 0) = _
    rw [if_neg h0]
  · rw [e3]
    rfl
  · rw [e2]
    show (if k = 1 then kw else fun _ => 0) = _
    rw [if_neg h1]
theorem st_105 {xs : Nat → Int32} {i : Nat} (h5 : i ≠ 5) (h12 : i ≠ 12) : (T1 xs).1 105 i = 0 := by
  have a1 := (mdTn_o (T := tI (tI (exT (T0 xs) 2) 105 5 (-1)) 105 12 4) (a := 105) 4 (j := 105) (by decide)).1
  have b1 := (plT_o (T := prT (T0 xs) 3) (a := 85) (j := 105) (by decide) (by decide)).1
  have c1 := (prT_o (T := T0 xs) (a := 3) (j := 105) (by decide) (by decide)).1
  have e1 : (T1 xs).1 105 i = (tI (tI (exT (T0 xs) 2) 105 5 (-1)) 105 12 4).1 105 i := congrFun a1 i
  rw [e1, tI_off (fun z => h12 z.2), tI_off (fun z => h5 z.2)]
  exact (congrFun (b1.trans c1) i).trans rfl
theorem st_105b {xs : Nat → Int32} : (T1 xs).1 105 5 = -1 ∧ (T1 xs).1 105 12 = 4 := by
  have a1 := (mdTn_o (T := tI (tI (exT (T0 xs) 2) 105 5 (-1)) 105 12 4) (a := 105) 4 (j := 105) (by decide)).1
  refine ⟨(congrFun a1 5).trans ?_, (congrFun a1 12).trans ?_⟩
  · rw [tI_off (fun z => by have := z.2; omega), tI_at]
  · rw [tI_at]
theorem mdTn_at {T : tT} {a : Nat} : ∀ n i, i < n → (mdTn T a n).1 (a + 3) i = nI i := by
  intro n
  induction n with
  | zero => intro i hi; omega
  | succ n ih =>
    intro i hi
    show (tI (mdTn T a n) (a + 3) n (nI n)).1 (a + 3) i = _
    by_cases c : i = n
    · rw [c, tI_at]
    · rw [tI_off (fun z => c z.2)]
      exact ih i (by omega)
theorem st_108 {xs : Nat → Int32} {t : Nat} (h : t < 4) : (T1 xs).1 108 t = nI t := mdTn_at (a := 105) 4 t h
theorem plTn_at {T : tT} {a : Nat} : ∀ n i, i < n → (plTn T a n).1 (a + 1) i = -1 := by
  intro n
  induction n with
  | zero => intro i hi; omega
  | succ n ih =>
    intro i hi
    show (tI (plTn T a n) (a + 1) n (-1)).1 (a + 1) i = _
    by_cases c : i = n
    · rw [c, tI_at]
    · rw [tI_off (fun z => c z.2)]
      exact ih i (by omega)
theorem plTn_p {T : tT} {a : Nat} : ∀ n, (plTn T a n).2.2 = T.2.2 := by
  intro n
  induction n with
  | zero => rfl
  | succ n ih => exact ih
theorem st_86 {xs : Nat → Int32} {i : Nat} (h : i < 9) : (T1 xs).1 86 i = -1 := (congrFun (mdT_o (T := exT (T0 xs) 2) (a := 105) (j := 86) (by decide) (by decide)).1 i).trans (plTn_at (a := 85) 9 i h)
theorem st_85 {xs : Nat → Int32} : (T1 xs).2.2 85 5 = some 89 ∧ (T1 xs).2.2 85 6 = some 90 ∧ (T1 xs).2.2 85 7 = some 91 ∧ (T1 xs).2.2 85 8 = some 92 := by
  have a1 := (mdT_o (T := exT (T0 xs) 2) (a := 105) (j := 85) (by decide) (by decide)).2.2
  have e : ∀ i, (T1 xs).2.2 85 i = (tP (tP (tP (tP (prT (T0 xs) 3) 85 5 (some 89)) 85 6 (some 90)) 85 7 (some 91)) 85 8 (some 92)).2.2 85 i := fun i => (congrFun a1 i).trans (congrFun (congrFun (plTn_p (a := 85) 9) 85) i)
  refine ⟨?_, ?_, ?_, ?_⟩
  · rw [e, tP_off (by omega), tP_off (by omega), tP_off (by omega), tP_at]
  · rw [e, tP_off (by omega), tP_off (by omega), tP_at]
  · rw [e, tP_off (by omega), tP_at]
  · rw [e, tP_at]
theorem st_3 {xs : Nat → Int32} : (T1 xs).2.2 3 3 = some 6 ∧ (T1 xs).1 3 1 = 0 ∧ (T1 xs).1 3 2 = -1 := by
  obtain ⟨a1, _, a3⟩ := mdT_o (T := exT (T0 xs) 2) (a := 105) (j := 3) (by decide) (by decide)
  obtain ⟨b1, _, b3⟩ := plT_o (T := prT (T0 xs) 3) (a := 85) (j := 3) (by decide) (by decide)
  have c1 := (syTn_o (T := tI (T0 xs) 3 2 (-1)) (p := 6) 8 (j := 3) (by decide)).1
  refine ⟨(congrFun (a3.trans b3) 3).trans tP_at, (congrFun (a1.trans (b1.trans c1)) 1).trans ?_, (congrFun (a1.trans (b1.trans c1)) 2).trans tI_at⟩
  rw [tI_off (by omega)]
  rfl
theorem st_7 {xs : Nat → Int32} {j : Nat} (h : j < 8) : (T1 xs).2.2 7 j = some (9 + 7 * j) := by
  have a3 := (mdT_o (T := exT (T0 xs) 2) (a := 105) (j := 7) (by decide) (by decide)).2.2
  have b3 := (plT_o (T := prT (T0 xs) 3) (a := 85) (j := 7) (by decide) (by decide)).2.2
  refine (congrFun (a3.trans b3) j).trans ?_
  show (tP (syTn (tI (T0 xs) 3 2 (-1)) 6 8) 3 3 (some 6)).2.2 7 j = _
  rw [tP_off (by omega)]
  exact (syTn_i (T := tI (T0 xs) 3 2 (-1)) (p := 6) 8).2.2 j h
theorem st_1 {xs : Nat → Int32} : (T1 xs).2.1 1 = kw := by
  have a2 := (mdT_o (T := exT (T0 xs) 2) (a := 105) (j := 1) (by decide) (by decide)).2.1
  have b2 := (plT_o (T := prT (T0 xs) 3) (a := 85) (j := 1) (by decide) (by decide)).2.1
  have c2 := (prT_o (T := T0 xs) (a := 3) (j := 1) (by decide) (by decide)).2.1
  exact a2.trans (b2.trans c2)
theorem st_k {xs : Nat → Int32} (k : Nat) (h0 : k ≠ 0 ∧ k ≠ 3 ∧ k ≠ 7 ∧ k ≠ 85 ∧ k ≠ 86 ∧ k ≠ 105 ∧ k ≠ 108 := by decide) : (T1 xs).1 k = fun _ => 0 := (st_0 h0.1 h0.2.1 h0.2.2.1 h0.2.2.2.1 h0.2.2.2.2.1 h0.2.2.2.2.2.1 h0.2.2.2.2.2.2).1
theorem st_z {x : Int32} (h1 : 0 ≤ x) (h2 : x < 0) : False := by
  rw [tle] at h1
  rw [tlt] at h2
  omega
