/-! a grade while it is read: class's cells in one heap, reference's in another -/
def Rul2 (Tc Tr : tT) (p b : Nat) (m : Bool) (ls ps start from' to : Int32) : Prop := ∃ (l : List (Int32 × Int32)) (s f : Nat), start.toInt = s ∧ from'.toInt = f ∧ to.toInt = (f + l.length : Nat) ∧ ((s + l.length : Nat) : Int) < (Tc.1 p 3).toInt ∧ ((f + l.length : Nat) : Int) ≤ (Tr.1 105 14).toInt ∧ f + l.length ≤ 1500 ∧ Cs (Tc.1 (p + 2)) s l ∧ dcK (Tc.1 (p + 2) (s + l.length)) = 59 ∧ Rs (Tr.1 123) (Tr.1 124) (1500 * b + f) l ∧ (∀ x ∈ l, vI m ls ps x.1 x.2) ∧ hts 0 l = some 1 ∧ lfN l ≤ 150
theorem vI_mono {m : Bool} {ls ps ls' ps' k v : Int32} (h1 : ls ≤ ls') (h2 : ps ≤ ps') (h : vI m ls ps k v) : vI m ls' ps' k v := by
  have tr : ∀ {a b c : Int32}, a < b → b ≤ c → a < c := fun {a b c} x y => by
    rw [tlt] at *
    rw [tle] at y
    omega
  unfold vI at *
  rcases h with h | ⟨h0, h⟩ | ⟨h0, h⟩ | h | h
  · exact Or.inl h
  · rcases h with ⟨a, c, d⟩ | h
    · exact Or.inr (Or.inl ⟨h0, Or.inl ⟨a, c, tr d h1⟩⟩)
    · exact Or.inr (Or.inl ⟨h0, Or.inr h⟩)
  · rcases h with ⟨a, c, d⟩ | h
    · exact Or.inr (Or.inr (Or.inl ⟨h0, Or.inl ⟨a, c, tr d h2⟩⟩))
    · exact Or.inr (Or.inr (Or.inl ⟨h0, Or.inr h⟩))
  · exact Or.inr (Or.inr (Or.inr (Or.inl h)))
  · exact Or.inr (Or.inr (Or.inr (Or.inr h)))
theorem Rul2_up {Tc Tr Tc' Tr' : tT} {p b : Nat} {m : Bool} {ls ps ls' ps' a c d : Int32} (hc : kpC p Tc Tc') (hr : kpR b Tr Tr') (h1 : ls ≤ ls') (h2 : ps ≤ ps') (h : Rul2 Tc Tr p b m ls ps a c d) : Rul2 Tc' Tr' p b m ls' ps' a c d := by
  obtain ⟨l, s, f, x1, x2, x3, x4, x5, x6, x7, x8, x9, x10, x11, x12⟩ := h
  have c1 := hc.1
  have r1 := hr.1
  refine ⟨l, s, f, x1, x2, x3, by omega, by omega, x6, Cs_eq (fun i i1 i2 => hc.2 i (by omega)) x7, by rw [hc.2 (s + l.length) (by omega)]; exact x8, Rs_eq (fun i i1 i2 => hr.2 i (by omega)) x9, fun x hx => vI_mono h1 h2 (x10 x hx), x11, x12⟩
/-- lists -/
def GL (Tc Tr : tT) (g h : Nat) : Prop := (Tc.1 g 1 = Tr.1 111 h ∧ 0 ≤ Tc.1 g 1 ∧ Tc.1 g 1 ≤ 6) ∧ ∀ l : Nat, (l : Int) < (Tc.1 g 1).toInt → Tc.1 (g + 2) l = Tr.1 112 (6 * h + l) ∧ 0 ≤ Tc.1 (g + 2) l ∧ Tc.1 (g + 2) l ≤ 12 ∧ Tc.2.1 (g + 1) l = Tr.2.1 126 (6 * h + l) ∧ ∀ k : Nat, (k : Int) < (Tc.1 (g + 2) l).toInt → Tc.2.1 (g + 3) (12 * l + k) = Tr.2.1 127 (12 * (6 * h + l) + k)
/-- parts -/
def GP2 (Tc Tr : tT) (g h : Nat) : Prop := (Tc.1 g 2 = Tr.1 113 h ∧ 0 ≤ Tc.1 g 2 ∧ Tc.1 g 2 ≤ 6) ∧ ∀ q : Nat, (q : Int) < (Tc.1 g 2).toInt → Tc.1 (g + 5) q = Tr.1 114 (6 * h + q) ∧ 1 ≤ Tc.1 (g + 5) q ∧ Tc.1 (g + 5) q ≤ 200 ∧ Tc.2.1 (g + 4) q = Tr.2.1 128 (6 * h + q)
/-- musts -/
def GM (Tc Tr : tT) (p b g h : Nat) : Prop := (Tc.1 g 3 = Tr.1 115 h ∧ 0 ≤ Tc.1 g 3 ∧ Tc.1 g 3 ≤ 8) ∧ ∀ m : Nat, (m : Int) < (Tc.1 g 3).toInt → Rul2 Tc Tr p b true (Tc.1 g 1) (Tc.1 g 2) (Tc.1 (g + 6) m) (Tr.1 117 (8 * h + m)) (Tr.1 118 (8 * h + m))
def GMi (Tc Tr : tT) (g h : Nat) : Prop := Tc.1 g 4 = Tr.1 116 h ∧ 0 ≤ Tc.1 g 4 ∧ Tc.1 g 4 ≤ 120
/-- pass and merit: the class's place i, the reference's rows r and r + 1 -/
def GR (Tc Tr : tT) (p b g h i r : Nat) : Prop := (Tc.1 g i = -1 ∧ Tr.1 r h = -1) ∨ (0 ≤ Tc.1 g i ∧ 0 ≤ Tr.1 r h ∧ Rul2 Tc Tr p b false (Tc.1 g 1) (Tc.1 g 2) (Tc.1 g i) (Tr.1 r h) (Tr.1 (r + 1) h))
def GB2 (Tc Tr : tT) (p b g h : Nat) : Prop := GL Tc Tr g h ∧ GP2 Tc Tr g h ∧ GM Tc Tr p b g h ∧ GMi Tc Tr g h ∧ GR Tc Tr p b g h 5 119 ∧ GR Tc Tr p b g h 6 121
theorem GB2_GB {Tc Tr T : tT} {p b j : Nat} (hj : j < 8) (hc : ∀ k, p ≤ k → k < p + 59 → T.1 k = Tc.1 k ∧ T.2.1 k = Tc.2.1 k) (hr : ∀ k, 110 ≤ k → k ≤ 128 → T.1 k = Tr.1 k ∧ T.2.1 k = Tr.2.1 k) {h : Nat} (hB : GB2 Tc Tr p b (p + 3 + 7 * j) h) : GB T p b (p + 3 + 7 * j) h := by
  obtain ⟨⟨l1, l2⟩, ⟨p1, p2⟩, ⟨m1, m2⟩, mi, r1, r2⟩ := hB
  have rul : ∀ {m : Bool} {ls ps a c d : Int32}, Rul2 Tc Tr p b m ls ps a c d → Rul T p b m ls ps a c d := by
    rintro m ls ps a c d ⟨l, s, f, x1, x2, x3, x4, x5, x6, x7, x8, x9, x10, x11, x12⟩
    unfold Rul
    rw [(hc p (by omega) (by omega)).1, (hc (p + 2) (by omega) (by omega)).1, (hr 123 (by decide) (by decide)).1, (hr 124 (by decide) (by decide)).1]
    exact ⟨l, s, f, x1, x2, x3, x4, x6, x7, x8, x9, x10, x11, x12⟩
  unfold GB
  rw [(hc (p + 3 + 7 * j) (by omega) (by omega)).1, (hc (p + 3 + 7 * j + 1) (by omega) (by omega)).2, (hc (p + 3 + 7 * j + 2) (by omega) (by omega)).1, (hc (p + 3 + 7 * j + 3) (by omega) (by omega)).2, (hc (p + 3 + 7 * j + 4) (by omega) (by omega)).2, (hc (p + 3 + 7 * j + 5) (by omega) (by omega)).1, (hc (p + 3 + 7 * j + 6) (by omega) (by omega)).1]
  rw [(hr 111 (by decide) (by decide)).1, (hr 112 (by decide) (by decide)).1, (hr 113 (by decide) (by decide)).1, (hr 114 (by decide) (by decide)).1, (hr 115 (by decide) (by decide)).1, (hr 116 (by decide) (by decide)).1, (hr 117 (by decide) (by decide)).1, (hr 118 (by decide) (by decide)).1, (hr 119 (by decide) (by decide)).1, (hr 120 (by decide) (by decide)).1, (hr 121 (by decide) (by decide)).1, (hr 122 (by decide) (by decide)).1, (hr 126 (by decide) (by decide)).2, (hr 127 (by decide) (by decide)).2, (hr 128 (by decide) (by decide)).2]
  refine ⟨l1, p1, m1, mi, l2, p2, fun m hm => rul (m2 m hm), ?_, ?_⟩
  · rcases r1 with r1 | ⟨r1, r1', r1''⟩
    · exact Or.inl r1
    · exact Or.inr ⟨r1, r1', rul r1''⟩
  · rcases r2 with r2 | ⟨r2, r2', r2''⟩
    · exact Or.inl r2
    · exact Or.inr ⟨r2, r2', rul r2''⟩
/-- the class's rows of a grade stay -/
def eqC (g : Nat) (Tc Tc' : tT) : Prop := ∀ o, o < 7 → Tc'.1 (g + o) = Tc.1 (g + o) ∧ Tc'.2.1 (g + o) = Tc.2.1 (g + o)
/-- the reference's places of a grade stay -/
def eqR (h : Nat) (Tr Tr' : tT) : Prop := (Tr'.1 111 h = Tr.1 111 h ∧ Tr'.1 113 h = Tr.1 113 h ∧ Tr'.1 115 h = Tr.1 115 h ∧ Tr'.1 116 h = Tr.1 116 h ∧ Tr'.1 119 h = Tr.1 119 h ∧ Tr'.1 120 h = Tr.1 120 h ∧ Tr'.1 121 h = Tr.1 121 h ∧ Tr'.1 122 h = Tr.1 122 h) ∧ (∀ l, l < 6 → Tr'.1 112 (6 * h + l) = Tr.1 112 (6 * h + l) ∧ Tr'.1 114 (6 * h + l) = Tr.1 114 (6 * h + l) ∧ Tr'.2.1 126 (6 * h + l) = Tr.2.1 126 (6 * h + l) ∧ Tr'.2.1 128 (6 * h + l) = Tr.2.1 128 (6 * h + l)) ∧ (∀ l k, l < 6 → k < 12 → Tr'.2.1 127 (12 * (6 * h + l) + k) = Tr.2.1 127 (12 * (6 * h + l) + k)) ∧ (∀ m, m < 8 → Tr'.1 117 (8 * h + m) = Tr.1 117 (8 * h + m) ∧ Tr'.1 118 (8 * h + m) = Tr.1 118 (8 * h + m))
theorem i6 {a : Int32} {l : Nat} (h : a ≤ 6) (hl : (l : Int) < a.toInt) : l < 6 := by
  rw [tle, show (6 : Int32).toInt = 6 from rfl] at h
  omega
theorem i12 {a : Int32} {l : Nat} (h : a ≤ 12) (hl : (l : Int) < a.toInt) : l < 12 := by
  rw [tle, show (12 : Int32).toInt = 12 from rfl] at h
  omega
theorem i8 {a : Int32} {l : Nat} (h : a ≤ 8) (hl : (l : Int) < a.toInt) : l < 8 := by
  rw [tle, show (8 : Int32).toInt = 8 from rfl] at h
  omega
theorem GL_up {Tc Tr Tc' Tr' : tT} {g h : Nat} (e0 : Tc'.1 g 1 = Tc.1 g 1) (e1 : ∀ l, l < 6 → Tc'.2.1 (g + 1) l = Tc.2.1 (g + 1) l ∧ Tc'.1 (g + 2) l = Tc.1 (g + 2) l) (e3 : ∀ l k, l < 6 → k < 12 → Tc'.2.1 (g + 3) (12 * l + k) = Tc.2.1 (g + 3) (12 * l + k)) (r0 : Tr'.1 111 h = Tr.1 111 h) (r1 : ∀ l, l < 6 → Tr'.1 112 (6 * h + l) = Tr.1 112 (6 * h + l) ∧ Tr'.2.1 126 (6 * h + l) = Tr.2.1 126 (6 * h + l)) (r3 : ∀ l k, l < 6 → k < 12 → Tr'.2.1 127 (12 * (6 * h + l) + k) = Tr.2.1 127 (12 * (6 * h + l) + k)) (hG : GL Tc Tr g h) : GL Tc' Tr' g h := by
  obtain ⟨l1, l2⟩ := hG
  unfold GL
  rw [e0, r0]
  refine ⟨l1, fun l hl => ?_⟩
  have l6 := i6 l1.2.2 hl
  obtain ⟨x1, x2, x3, x4, x5⟩ := l2 l hl
  rw [(e1 l l6).1, (e1 l l6).2, (r1 l l6).1, (r1 l l6).2]
  exact ⟨x1, x2, x3, x4, fun k hk => by rw [e3 l k l6 (i12 x3 hk), r3 l k l6 (i12 x3 hk)]; exact x5 k hk⟩
theorem GP2_up {Tc Tr Tc' Tr' : tT} {g h : Nat} (e0 : Tc'.1 g 2 = Tc.1 g 2) (e1 : ∀ l, l < 6 → Tc'.2.1 (g + 4) l = Tc.2.1 (g + 4) l ∧ Tc'.1 (g + 5) l = Tc.1 (g + 5) l) (r0 : Tr'.1 113 h = Tr.1 113 h) (r1 : ∀ l, l < 6 → Tr'.1 114 (6 * h + l) = Tr.1 114 (6 * h + l) ∧ Tr'.2.1 128 (6 * h + l) = Tr.2.1 128 (6 * h + l)) (hG : GP2 Tc Tr g h) : GP2 Tc' Tr' g h := by
  obtain ⟨l1, l2⟩ := hG
  unfold GP2
  rw [e0, r0]
  refine ⟨l1, fun l hl => ?_⟩
  have l6 := i6 l1.2.2 hl
  rw [(e1 l l6).1, (e1 l l6).2, (r1 l l6).1, (r1 l l6).2]
  exact l2 l hl
theorem GM_up {Tc Tr Tc' Tr' : tT} {p b g h : Nat} (hc : kpC p Tc Tc') (hr : kpR b Tr Tr') (h1 : Tc.1 g 1 ≤ Tc'.1 g 1) (h2 : Tc.1 g 2 ≤ Tc'.1 g 2) (e0 : Tc'.1 g 3 = Tc.1 g 3) (e1 : ∀ m, m < 8 → Tc'.1 (g + 6) m = Tc.1 (g + 6) m) (r0 : Tr'.1 115 h = Tr.1 115 h) (r1 : ∀ m, m < 8 → Tr'.1 117 (8 * h + m) = Tr.1 117 (8 * h + m) ∧ Tr'.1 118 (8 * h + m) = Tr.1 118 (8 * h + m)) (hG : GM Tc Tr p b g h) : GM Tc' Tr' p b g h := by
  obtain ⟨l1, l2⟩ := hG
  unfold GM
  rw [e0, r0]
  refine ⟨l1, fun m hm => ?_⟩
  have m8 := i8 l1.2.2 hm
  rw [e1 m m8, (r1 m m8).1, (r1 m m8).2]
  exact Rul2_up hc hr h1 h2 (l2 m hm)
theorem GR_up {Tc Tr Tc' Tr' : tT} {p b g h i r : Nat} (hc : kpC p Tc Tc') (hr : kpR b Tr Tr') (h1 : Tc.1 g 1 ≤ Tc'.1 g 1) (h2 : Tc.1 g 2 ≤ Tc'.1 g 2) (e0 : Tc'.1 g i = Tc.1 g i) (r0 : Tr'.1 r h = Tr.1 r h) (r1 : Tr'.1 (r + 1) h = Tr.1 (r + 1) h) (hG : GR Tc Tr p b g h i r) : GR Tc' Tr' p b g h i r := by
  unfold GR at *
  rw [e0, r0, r1]
  rcases hG with hG | ⟨x1, x2, x3⟩
  · exact Or.inl hG
  · exact Or.inr ⟨x1, x2, Rul2_up hc hr h1 h2 x3⟩
theorem tle_r (a : Int32) : a ≤ a := by rw [tle]; exact Int.le_refl _
theorem tle_e {a b : Int32} (h : b = a) : a ≤ b := by rw [h]; exact tle_r a
theorem GB2_up {Tc Tr Tc' Tr' : tT} {p b g h : Nat} (hc : kpC p Tc Tc') (hr : kpR b Tr Tr') (ec : eqC g Tc Tc') (er : eqR h Tr Tr') (hG : GB2 Tc Tr p b g h) : GB2 Tc' Tr' p b g h := by
  obtain ⟨g1, g2, g3, g4, g5, g6⟩ := hG
  obtain ⟨⟨a1, a2, a3, a4, a5, a6, a7, a8⟩, b1, b2, b3⟩ := er
  have c0 := (ec 0 (by decide)).1
  rw [Nat.add_zero] at c0
  have c : ∀ i, Tc'.1 g i = Tc.1 g i := fun i => congrFun c0 i
  refine ⟨GL_up (c 1) (fun l _ => ⟨congrFun (ec 1 (by decide)).2 l, congrFun (ec 2 (by decide)).1 l⟩) (fun l k _ _ => congrFun (ec 3 (by decide)).2 _) a1 (fun l hl => ⟨(b1 l hl).1, (b1 l hl).2.2.1⟩) b2 g1, GP2_up (c 2) (fun l _ => ⟨congrFun (ec 4 (by decide)).2 l, congrFun (ec 5 (by decide)).1 l⟩) a2 (fun l hl => ⟨(b1 l hl).2.1, (b1 l hl).2.2.2⟩) g2, GM_up hc hr (tle_e (c 1)) (tle_e (c 2)) (c 3) (fun m _ => congrFun (ec 6 (by decide)).1 m) a3 b3 g3, ?_, GR_up hc hr (tle_e (c 1)) (tle_e (c 2)) (c 5) a5 a6 g5, GR_up hc hr (tle_e (c 1)) (tle_e (c 2)) (c 6) a7 a8 g6⟩
  unfold GMi
  rw [c 4, a4]
  exact g4
theorem GB2_NR {Tc Tr : tT} {p b g h : Nat} (hG : GB2 Tc Tr p b g h) : NR g h Tc Tr := ⟨hG.1.1, hG.2.1.1, fun l hl => (hG.1.2 l hl).2.2.2.1, fun l hl => (hG.2.1.2 l hl).2.2.2⟩
