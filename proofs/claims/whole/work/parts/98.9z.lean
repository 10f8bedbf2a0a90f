/-! the relation at the start -/
theorem st_0 {xs : Nat → Int32} {k : Nat} (h0 : k ≠ 0) (h3 : k ≠ 3) (h7 : k ≠ 7) (h85 : k ≠ 85) (h86 : k ≠ 86) (h105 : k ≠ 105) (h108 : k ≠ 108) : (T1 xs).1 k = (fun _ => 0) ∧ (T1 xs).2.2 k = (fun _ => none) ∧ (k ≠ 1 → (T1 xs).2.1 k = (fun _ => 0)) := by
  obtain ⟨a1, a2, a3⟩ := mdT_o (T := exT (T0 xs) 2) (a := 105) (j := k) h105 h108
  obtain ⟨b1, b2, b3⟩ := plT_o (T := prT (T0 xs) 3) (a := 85) (j := k) h85 h86
  obtain ⟨c1, c2, c3⟩ := prT_o (T := T0 xs) (a := 3) (j := k) h3 h7
  have e1 : (T1 xs).1 k = (T0 xs).1 k := a1.trans (b1.trans c1)
  have e2 : (T1 xs).2.1 k = (T0 xs).2.1 k := a2.trans (b2.trans c2)
  have e3 : (T1 xs).2.2 k = (T0 xs).2.2 k := a3.trans (b3.trans c3)
  refine ⟨?_, ?_, fun h1 => ?_⟩
  · rw [e1]
    show (if k = 0 then xs else fun _ => 0) = _
    rw [if_neg h0]
  · rw [e3]
    rfl
  · rw [e2]
    show (if k = 1 then kw else fun _ => 0) = _
    rw [if_neg h1]
theorem st_105 {xs : Nat → Int32} {i : Nat} (h5 : i ≠ 5) (h12 : i ≠ 12) : (T1 xs).1 105 i = 0 := by
  have a1 := (mdTn_o (T := tI (tI (exT (T0 xs) 2) 105 5 (-1)) 105 12 4) (a := 105) 4 (j := 105) (by decide)).1
  have b1 := (plT_o (T := prT (T0 xs) 3) (a := 85) (j := 105) (by decide) (by decide)).1
  have c1 := (prT_o (T := T0 xs) (a := 3) (j := 105) (by decide) (by decide)).1
  have e1 : (T1 xs).1 105 i = (tI (tI (exT (T0 xs) 2) 105 5 (-1)) 105 12 4).1 105 i := congrFun a1 i
  rw [e1, tI_off (fun z => h12 z.2), tI_off (fun z => h5 z.2)]
  exact (congrFun (b1.trans c1) i).trans rfl
theorem st_105b {xs : Nat → Int32} : (T1 xs).1 105 5 = -1 ∧ (T1 xs).1 105 12 = 4 := by
  have a1 := (mdTn_o (T := tI (tI (exT (T0 xs) 2) 105 5 (-1)) 105 12 4) (a := 105) 4 (j := 105) (by decide)).1
  refine ⟨(congrFun a1 5).trans ?_, (congrFun a1 12).trans ?_⟩
  · rw [tI_off (fun z => by have := z.2; omega), tI_at]
  · rw [tI_at]
theorem mdTn_at {T : tT} {a : Nat} : ∀ n i, i < n → (mdTn T a n).1 (a + 3) i = nI i := by
  intro n
  induction n with
  | zero => intro i hi; omega
  | succ n ih =>
    intro i hi
    show (tI (mdTn T a n) (a + 3) n (nI n)).1 (a + 3) i = _
    by_cases c : i = n
    · rw [c, tI_at]
    · rw [tI_off (fun z => c z.2)]
      exact ih i (by omega)
theorem st_108 {xs : Nat → Int32} {t : Nat} (h : t < 4) : (T1 xs).1 108 t = nI t := mdTn_at (a := 105) 4 t h
theorem plTn_at {T : tT} {a : Nat} : ∀ n i, i < n → (plTn T a n).1 (a + 1) i = -1 := by
  intro n
  induction n with
  | zero => intro i hi; omega
  | succ n ih =>
    intro i hi
    show (tI (plTn T a n) (a + 1) n (-1)).1 (a + 1) i = _
    by_cases c : i = n
    · rw [c, tI_at]
    · rw [tI_off (fun z => c z.2)]
      exact ih i (by omega)
theorem plTn_p {T : tT} {a : Nat} : ∀ n, (plTn T a n).2.2 = T.2.2 := by
  intro n
  induction n with
  | zero => rfl
  | succ n ih => exact ih
theorem st_86 {xs : Nat → Int32} {i : Nat} (h : i < 9) : (T1 xs).1 86 i = -1 := (congrFun (mdT_o (T := exT (T0 xs) 2) (a := 105) (j := 86) (by decide) (by decide)).1 i).trans (plTn_at (a := 85) 9 i h)
theorem st_85 {xs : Nat → Int32} : (T1 xs).2.2 85 5 = some 89 ∧ (T1 xs).2.2 85 6 = some 90 ∧ (T1 xs).2.2 85 7 = some 91 ∧ (T1 xs).2.2 85 8 = some 92 := by
  have a1 := (mdT_o (T := exT (T0 xs) 2) (a := 105) (j := 85) (by decide) (by decide)).2.2
  have e : ∀ i, (T1 xs).2.2 85 i = (tP (tP (tP (tP (prT (T0 xs) 3) 85 5 (some 89)) 85 6 (some 90)) 85 7 (some 91)) 85 8 (some 92)).2.2 85 i := fun i => (congrFun a1 i).trans (congrFun (congrFun (plTn_p (a := 85) 9) 85) i)
  refine ⟨?_, ?_, ?_, ?_⟩
  · rw [e, tP_off (by omega), tP_off (by omega), tP_off (by omega), tP_at]
  · rw [e, tP_off (by omega), tP_off (by omega), tP_at]
  · rw [e, tP_off (by omega), tP_at]
  · rw [e, tP_at]
theorem st_3 {xs : Nat → Int32} : (T1 xs).2.2 3 3 = some 6 ∧ (T1 xs).1 3 1 = 0 ∧ (T1 xs).1 3 2 = -1 := by
  obtain ⟨a1, _, a3⟩ := mdT_o (T := exT (T0 xs) 2) (a := 105) (j := 3) (by decide) (by decide)
  obtain ⟨b1, _, b3⟩ := plT_o (T := prT (T0 xs) 3) (a := 85) (j := 3) (by decide) (by decide)
  have c1 := (syTn_o (T := tI (T0 xs) 3 2 (-1)) (p := 6) 8 (j := 3) (by decide)).1
  refine ⟨(congrFun (a3.trans b3) 3).trans tP_at, (congrFun (a1.trans (b1.trans c1)) 1).trans ?_, (congrFun (a1.trans (b1.trans c1)) 2).trans tI_at⟩
  rw [tI_off (by omega)]
  rfl
theorem st_7 {xs : Nat → Int32} {j : Nat} (h : j < 8) : (T1 xs).2.2 7 j = some (9 + 7 * j) := by
  have a3 := (mdT_o (T := exT (T0 xs) 2) (a := 105) (j := 7) (by decide) (by decide)).2.2
  have b3 := (plT_o (T := prT (T0 xs) 3) (a := 85) (j := 7) (by decide) (by decide)).2.2
  refine (congrFun (a3.trans b3) j).trans ?_
  show (tP (syTn (tI (T0 xs) 3 2 (-1)) 6 8) 3 3 (some 6)).2.2 7 j = _
  rw [tP_off (by omega)]
  exact (syTn_i (T := tI (T0 xs) 3 2 (-1)) (p := 6) 8).2.2 j h
theorem st_1 {xs : Nat → Int32} : (T1 xs).2.1 1 = kw := by
  have a2 := (mdT_o (T := exT (T0 xs) 2) (a := 105) (j := 1) (by decide) (by decide)).2.1
  have b2 := (plT_o (T := prT (T0 xs) 3) (a := 85) (j := 1) (by decide) (by decide)).2.1
  have c2 := (prT_o (T := T0 xs) (a := 3) (j := 1) (by decide) (by decide)).2.1
  exact a2.trans (b2.trans c2)
theorem st_k {xs : Nat → Int32} (k : Nat) (h0 : k ≠ 0 ∧ k ≠ 3 ∧ k ≠ 7 ∧ k ≠ 85 ∧ k ≠ 86 ∧ k ≠ 105 ∧ k ≠ 108 := by decide) : (T1 xs).1 k = fun _ => 0 := (st_0 h0.1 h0.2.1 h0.2.2.1 h0.2.2.2.1 h0.2.2.2.2.1 h0.2.2.2.2.2.1 h0.2.2.2.2.2.2).1
theorem st_z {x : Int32} (h1 : 0 ≤ x) (h2 : x < 0) : False := by
  rw [tle] at h1
  rw [tlt] at h2
  omega
theorem st_i {xs : Nat → Int32} (k i : Nat) (h0 : k ≠ 0 ∧ k ≠ 3 ∧ k ≠ 7 ∧ k ≠ 85 ∧ k ≠ 86 ∧ k ≠ 105 ∧ k ≠ 108 := by decide) : (T1 xs).1 k i = 0 := congrFun (st_k k h0) i
theorem st_5 {xs : Nat → Int32} (i : Nat) (h : i ≠ 5 ∧ i ≠ 12 := by decide) : (T1 xs).1 105 i = 0 := st_105 h.1 h.2
theorem I7_start (xs : Nat → Int32) : I7 161 (T1 xs) := by
  refine ⟨⟨?_, ?_, ?_, ?_, ?_, ?_⟩, ?_⟩
  · exact ⟨⟨by rw [st_5 56, st_i 79 0], by rw [st_5 57, st_i 79 1], by rw [st_5 58, st_i 79 2]⟩, by rw [st_i 79 0, st_i 79 1, st_i 79 2]; decide, ⟨by rw [st_k 143, st_k 80], by rw [st_k 144, st_k 81], by rw [st_k 145, st_k 82], by rw [st_k 146, st_k 83], by rw [st_k 142, st_k 84]⟩, fun i => by rw [st_i 80 i]; decide, fun i => by rw [st_i 81 i]; decide, fun i => by rw [st_i 82 i]; decide, fun i => by rw [st_i 83 i]; decide, fun i => by rw [st_i 84 i]; decide, fun x h1 h2 => (by rw [st_i 79 2] at h2; exact (st_z h1 h2).elim), fun x h1 h2 => (by rw [st_i 79 1] at h2; exact (st_z h1 h2).elim), fun a b _ _ => by rw [st_i 84, st_i 84], fun a _ => by rw [st_i 84]⟩
  · exact ⟨by rw [st_5 48, st_i 69 0], by rw [st_i 69 0]; decide, ⟨by rw [st_k 131, st_k 70], by rw [st_k 132, st_k 71], by rw [st_k 133, st_k 72], by rw [st_k 134, st_k 73], by rw [st_k 135, st_k 74], by rw [st_k 136, st_k 75], by rw [st_k 138, st_k 76], by rw [st_k 137, st_k 77], by rw [(st_0 (k := 139) (by decide) (by decide) (by decide) (by decide) (by decide) (by decide) (by decide)).2.2 (by decide), (st_0 (k := 78) (by decide) (by decide) (by decide) (by decide) (by decide) (by decide) (by decide)).2.2 (by decide)]⟩, fun i => by rw [st_i 71 i]; decide, fun i => by rw [st_i 73 i]; decide, fun i => by rw [st_i 77 i]; decide, fun x _ _ => by rw [st_i 77]⟩
  · exact ⟨⟨by rw [st_5 70, st_i 93 1], by rw [st_5 71, st_i 93 0]⟩, by rw [st_i 93 0, st_i 93 1]; decide, ⟨by rw [st_k 151, st_k 94], by rw [st_k 153, st_k 96], by rw [st_k 154, st_k 97], by rw [st_k 155, st_k 98], by rw [st_k 156, st_k 99]⟩, fun i => by rw [st_i 152 i, st_i 95 i]; decide, fun i => by rw [st_i 94 i]; decide, fun x h1 h2 => (by rw [st_i 93 1] at h2; exact (st_z h1 h2).elim), fun i => by rw [st_i 95 i]; decide, fun x h1 h2 => (by rw [st_i 93 1] at h2; exact (st_z h1 h2).elim), fun i => by rw [st_i 96 i]; decide, fun i => by rw [st_i 97 i]; decide, fun i => by rw [st_i 98 i, st_i 93 0]; decide, fun i => by rw [st_i 99 i, st_i 93 0]; decide⟩
  · exact ⟨by rw [st_5 76, st_i 101 0], by rw [st_i 101 0]; decide, fun i => ⟨by rw [st_i 158, st_i 102], by rw [st_i 159, st_i 103], by rw [st_i 160, st_i 104]⟩, fun i => by rw [st_i 102 i]; decide, fun x h1 h2 => (by rw [st_i 101 0] at h2; exact (st_z h1 h2).elim), fun i => by rw [st_i 103 i, st_i 93 0]; decide, fun i => by rw [st_i 104 i]; decide⟩
  · exact ⟨⟨by rw [st_5 4, st_3.2.1], by rw [st_105b.1, st_3.2.2]⟩, by rw [st_5 2, st_i 4 1], by rw [st_i 4 1]; decide, by rw [st_k 106, st_k 5]⟩
  · refine ⟨by rw [st_5 63, st_i 79 2]; decide, fun x h1 h2 => ?_, Or.inl ⟨st_85.1, st_85.2.1⟩, Or.inl ⟨st_85.2.2.1, st_85.2.2.2⟩⟩
    rw [tle, show (0 : Int32).toInt = 0 from rfl] at h1
    rw [tlt, show (9 : Int32).toInt = 9 from rfl] at h2
    have hx : x.toInt = (x.toInt.toNat : Nat) := by omega
    rw [tnN hx, st_86 (by omega), st_5 63, if_neg (by rw [tlt, show (0 : Int32).toInt = 0 from rfl]; omega)]
  · have i108 : ∀ t, t < 4 → ((T1 xs).1 108 t).toInt = t := fun t ht => by rw [st_108 ht, nI_toInt (by omega)]
    have z0 : (0 : Int32).toInt = 0 := rfl
    have z5 : (5 : Int32).toInt = 5 := rfl
    have z4 : (4 : Int32).toInt = 4 := rfl
    have n65 : ∀ t, (T1 xs).2.2 65 t = none := fun t => congrFun (st_0 (k := 65) (by decide) (by decide) (by decide) (by decide) (by decide) (by decide) (by decide)).2.1 t
    refine ⟨⟨6, st_3.1, ?_, Or.inl rfl, fun j hj => st_7 hj⟩, fun t ht => Or.inl ⟨n65 t, st_i 109 t⟩, fun t ht => ?_, fun t u p ht hu htu h1 => ?_, fun t ht => ⟨?_, ?_, fun w => ?_⟩, ?_, fun t u ht hu htu w => ?_, fun k hk => ?_, by decide, ⟨0, rfl⟩, fun i _ => by rw [st_1]⟩
    · refine ⟨by decide, by decide, by decide +kernel, by decide +kernel, by decide +kernel, fun i hi => ?_⟩
      have key : ∀ i, i < 8 → tgr 161 (6 + 3 + 7 * i) := by
        intro i hi
        have : i = 0 ∨ i = 1 ∨ i = 2 ∨ i = 3 ∨ i = 4 ∨ i = 5 ∨ i = 6 ∨ i = 7 := by omega
        unfold tgr
        rcases this with r | r | r | r | r | r | r | r <;> rw [r] <;> exact ⟨by decide, by decide, by decide +kernel, by decide +kernel, by decide +kernel, by decide +kernel, by decide +kernel, by decide +kernel, by decide +kernel⟩
      exact key i hi
    · rw [n65, st_3.1]
      exact fun w => (by cases w)
    · rw [n65] at h1
      cases h1
    · rw [tle, i108 t ht, z0]
      omega
    · rw [tlt, i108 t ht, z5]
      omega
    · rw [teq, i108 t ht, st_105b.2, z4] at w
      omega
    · rw [st_105b.2]
      decide
    · rw [teq, i108 t ht, i108 u hu] at w
      omega
    · have := st_0 (xs := xs) (k := k) (by omega) (by omega) (by omega) (by omega) (by omega) (by omega) (by omega)
      exact ⟨this.1, this.2.2 (by omega), this.2.1⟩
theorem Loop_all : Loop_open := Loop_I I7_start
