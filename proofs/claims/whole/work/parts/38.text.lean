/-! texts: the class's Syllabus against the reference's bank -/
def dcK (c : Int32) : Int32 := c >>> ((20 : Int32) &&& 31)
def dcV (c : Int32) : Int32 := c &&& (1048575 : Int32)
/-- the reference's letter of a kind -/
def rc (k : Int32) : Int32 := if k = 2 then 110 else if k = 201 then 108 else if k = 202 then 112 else if k = 210 then 111 else if k = 211 then 99 else if k = 212 then 97 else if k = 213 then 116 else if k = 214 then 109 else if k = 209 then 126 else if k = 207 then 124 else if k = 208 then 38 else k
def lfK (k : Int32) : Bool := k == 2 || k == 201 || k == 202 || k == 210 || k == 211 || k == 212 || k == 213 || k == 214
/-- a step may stand there -/
def vI (m : Bool) (ls ps k v : Int32) : Prop := (k = 2 ∧ 0 ≤ v ∧ v ≤ 999999) ∨ (m = true ∧ ((k = 201 ∧ 0 ≤ v ∧ v < ls) ∨ k = 210 ∨ k = 211 ∨ k = 212)) ∨ (m = false ∧ ((k = 202 ∧ 0 ≤ v ∧ v < ps) ∨ k = 213 ∨ k = 214)) ∨ k = 209 ∨ (k = 207 ∨ k = 208 ∨ k = 43 ∨ k = 45 ∨ k = 60 ∨ k = 61 ∨ k = 62)
def Cs (f : Nat → Int32) : Nat → List (Int32 × Int32) → Prop
  | _, [] => True
  | s, x :: l => (dcK (f s) = x.1 ∧ dcV (f s) = x.2) ∧ Cs f (s + 1) l
def Rs (f g : Nat → Int32) : Nat → List (Int32 × Int32) → Prop
  | _, [] => True
  | s, x :: l => (f s = rc x.1 ∧ (lfK x.1 = true → g s = x.2)) ∧ Rs f g (s + 1) l
/-- the height behind a list of steps, if there is always enough -/
def hts : Nat → List (Int32 × Int32) → Option Nat
  | h, [] => some h
  | h, x :: l => if lfK x.1 = true then hts (h + 1) l else if x.1 = 209 then (if 1 ≤ h then hts h l else none) else (if 2 ≤ h then hts (h - 1) l else none)
def lfN (l : List (Int32 × Int32)) : Nat := l.countP (fun x => lfK x.1)
def Rul (T : tT) (p b : Nat) (m : Bool) (ls ps start from' to : Int32) : Prop := ∃ (l : List (Int32 × Int32)) (s f : Nat), start.toInt = s ∧ from'.toInt = f ∧ to.toInt = (f + l.length : Nat) ∧ ((s + l.length : Nat) : Int) < (T.1 p 3).toInt ∧ f + l.length ≤ 1500 ∧ Cs (T.1 (p + 2)) s l ∧ dcK (T.1 (p + 2) (s + l.length)) = 59 ∧ Rs (T.1 123) (T.1 124) (1500 * b + f) l ∧ (∀ x ∈ l, vI m ls ps x.1 x.2) ∧ hts 0 l = some 1 ∧ lfN l ≤ 150
def GB (T : tT) (p b g h : Nat) : Prop :=
  (T.1 g 1 = T.1 111 h ∧ 0 ≤ T.1 g 1 ∧ T.1 g 1 ≤ 6) ∧ (T.1 g 2 = T.1 113 h ∧ 0 ≤ T.1 g 2 ∧ T.1 g 2 ≤ 6) ∧ (T.1 g 3 = T.1 115 h ∧ 0 ≤ T.1 g 3 ∧ T.1 g 3 ≤ 8) ∧ (T.1 g 4 = T.1 116 h ∧ 0 ≤ T.1 g 4 ∧ T.1 g 4 ≤ 120) ∧
  (∀ l : Nat, (l : Int) < (T.1 g 1).toInt → T.1 (g + 2) l = T.1 112 (6 * h + l) ∧ 0 ≤ T.1 (g + 2) l ∧ T.1 (g + 2) l ≤ 12 ∧ T.2.1 (g + 1) l = T.2.1 126 (6 * h + l) ∧ ∀ k : Nat, (k : Int) < (T.1 (g + 2) l).toInt → T.2.1 (g + 3) (12 * l + k) = T.2.1 127 (12 * (6 * h + l) + k)) ∧
  (∀ q : Nat, (q : Int) < (T.1 g 2).toInt → T.1 (g + 5) q = T.1 114 (6 * h + q) ∧ 1 ≤ T.1 (g + 5) q ∧ T.1 (g + 5) q ≤ 200 ∧ T.2.1 (g + 4) q = T.2.1 128 (6 * h + q)) ∧
  (∀ m : Nat, (m : Int) < (T.1 g 3).toInt → Rul T p b true (T.1 g 1) (T.1 g 2) (T.1 (g + 6) m) (T.1 117 (8 * h + m)) (T.1 118 (8 * h + m))) ∧
  ((T.1 g 5 = -1 ∧ T.1 119 h = -1) ∨ (0 ≤ T.1 g 5 ∧ 0 ≤ T.1 119 h ∧ Rul T p b false (T.1 g 1) (T.1 g 2) (T.1 g 5) (T.1 119 h) (T.1 120 h))) ∧
  ((T.1 g 6 = -1 ∧ T.1 121 h = -1) ∨ (0 ≤ T.1 g 6 ∧ 0 ≤ T.1 121 h ∧ Rul T p b false (T.1 g 1) (T.1 g 2) (T.1 g 6) (T.1 121 h) (T.1 122 h)))
def GX (T : tT) (p b j : Nat) : Prop := (T.1 (p + 3 + 7 * j) 0 = T.1 110 (8 * b + j) ∧ (T.1 (p + 3 + 7 * j) 0 = 0 ∨ T.1 (p + 3 + 7 * j) 0 = 1)) ∧ (T.1 (p + 3 + 7 * j) 0 ≠ 0 → GB T p b (p + 3 + 7 * j) (8 * b + j))
def TX (T : tT) (p b : Nat) : Prop := T.1 p 2 = T.1 125 b ∧ (0 ≤ T.1 p 3 ∧ T.1 p 3 ≤ 750) ∧ ∀ j, j < 8 → GX T p b j
/-- a Syllabus stands at p -/
def spos (sz : Nat) (T : tT) (p : Nat) : Prop := tsy sz p ∧ (p = 6 ∨ ∃ j, p = 161 + 59 * j) ∧ ∀ j, j < 8 → T.2.2 (p + 1) j = some (p + 3 + 7 * j)
def ITx (sz : Nat) (T : tT) : Prop :=
  (∃ sp, T.2.2 3 3 = some sp ∧ spos sz T sp) ∧
  (∀ t, t < 4 → (T.2.2 65 t = none ∧ T.1 109 t = 0) ∨ ∃ p, T.2.2 65 t = some p ∧ T.1 109 t = 1 ∧ spos sz T p ∧ TX T p (T.1 108 t).toNatClampNeg) ∧
  (∀ t, t < 4 → T.2.2 65 t ≠ T.2.2 3 3) ∧ (∀ t u p, t < 4 → u < 4 → t ≠ u → T.2.2 65 t = some p → T.2.2 65 u ≠ some p) ∧
  (∀ t, t < 4 → 0 ≤ T.1 108 t ∧ T.1 108 t < 5 ∧ T.1 108 t ≠ T.1 105 12) ∧ (0 ≤ T.1 105 12 ∧ T.1 105 12 < 5) ∧ (∀ t u, t < 4 → u < 4 → t ≠ u → T.1 108 t ≠ T.1 108 u) ∧
  nz T sz ∧ (161 ≤ sz ∧ (∃ k, sz = 161 + 59 * k) ∧ ∀ i, i < 15 → T.2.1 1 i = kw i)
/-- the rows that texts are told in -/
def rfx (T T' : tT) : Prop := ∀ k, 108 ≤ k → k ≤ 128 → T'.1 k = T.1 k ∧ T'.2.1 k = T.2.1 k
def cfx (T T' : tT) (p : Nat) : Prop := ∀ k, p ≤ k → k < p + 59 → T'.1 k = T.1 k ∧ T'.2.1 k = T.2.1 k ∧ T'.2.2 k = T.2.2 k
theorem GB_cg {T T' : tT} {p b j : Nat} (hj : j < 8) (r : rfx T T') (c : cfx T T' p) (h : GB T p b (p + 3 + 7 * j) (8 * b + j)) : GB T' p b (p + 3 + 7 * j) (8 * b + j) := by
  unfold GB Rul at *
  rw [(c (p + 3 + 7 * j) (by omega) (by omega)).1, (c (p + 3 + 7 * j + 1) (by omega) (by omega)).2.1, (c (p + 3 + 7 * j + 2) (by omega) (by omega)).1, (c (p + 3 + 7 * j + 3) (by omega) (by omega)).2.1, (c (p + 3 + 7 * j + 4) (by omega) (by omega)).2.1, (c (p + 3 + 7 * j + 5) (by omega) (by omega)).1, (c (p + 3 + 7 * j + 6) (by omega) (by omega)).1, (c p (by omega) (by omega)).1, (c (p + 2) (by omega) (by omega)).1]
  rw [(r 111 (by decide) (by decide)).1, (r 112 (by decide) (by decide)).1, (r 113 (by decide) (by decide)).1, (r 114 (by decide) (by decide)).1, (r 115 (by decide) (by decide)).1, (r 116 (by decide) (by decide)).1, (r 117 (by decide) (by decide)).1, (r 118 (by decide) (by decide)).1, (r 119 (by decide) (by decide)).1, (r 120 (by decide) (by decide)).1, (r 121 (by decide) (by decide)).1, (r 122 (by decide) (by decide)).1, (r 123 (by decide) (by decide)).1, (r 124 (by decide) (by decide)).1, (r 126 (by decide) (by decide)).2, (r 127 (by decide) (by decide)).2, (r 128 (by decide) (by decide)).2]
  exact h
theorem TX_cg {T T' : tT} {p b : Nat} (r : rfx T T') (c : cfx T T' p) (h : TX T p b) : TX T' p b := by
  obtain ⟨h1, h2, h3⟩ := h
  unfold TX
  rw [(c p (by omega) (by omega)).1, (r 125 (by decide) (by decide)).1]
  refine ⟨h1, h2, fun j hj => ?_⟩
  obtain ⟨a, b'⟩ := h3 j hj
  unfold GX
  rw [(c (p + 3 + 7 * j) (by omega) (by omega)).1, (r 110 (by decide) (by decide)).1]
  exact ⟨a, fun q => GB_cg hj r c (b' q)⟩
theorem spos_cg {sz : Nat} {T T' : tT} {p : Nat} (c : cfx T T' p) (h : spos sz T p) : spos sz T' p := by
  unfold spos at *
  rw [(c (p + 1) (by omega) (by omega)).2.2]
  exact h
/-- the cells that texts are told in -/
def txb (k : Nat) : Bool := decide (k = 1) || ((6 ≤ k && k ≤ 65) || 161 ≤ k || (108 ≤ k && k ≤ 128))
def txo (A : List Nat) (B : List (Nat × Nat)) : Bool := (A.all fun k => !txb k && k != 3 && k != 105) && (B.all fun q => !txb q.1 && q != (3, 3) && q != (105, 12))
theorem txo_f {A : List Nat} {B : List (Nat × Nat)} {T T' : tT} (f : fr (wl A B) T T') (h : txo A B = true) : (∀ k, txb k = true → T'.1 k = T.1 k ∧ T'.2.1 k = T.2.1 k ∧ T'.2.2 k = T.2.2 k) ∧ T'.2.2 3 3 = T.2.2 3 3 ∧ T'.1 105 12 = T.1 105 12 := by
  unfold txo at h
  simp only [Bool.and_eq_true, List.all_eq_true, Bool.not_eq_true', bne_iff_ne, ne_eq] at h
  have w : ∀ k i, (txb k = true ∨ (k, i) = (3, 3) ∨ (k, i) = (105, 12)) → wl A B k i = false := by
    intro k i hk
    unfold wl
    rw [Bool.or_eq_false_iff]
    constructor
    · cases e : A.contains k
      · rfl
      · rw [List.contains_iff_mem] at e
        have := h.1 k e
        rcases hk with q | q | q
        · rw [q] at this; exact absurd this.1.1 (by decide)
        · exact absurd (Prod.mk.inj q).1 this.1.2
        · exact absurd (Prod.mk.inj q).1 this.2
    · cases e : B.contains (k, i)
      · rfl
      · rw [List.contains_iff_mem] at e
        have := h.2 (k, i) e
        rcases hk with q | q | q
        · rw [q] at this; exact absurd this.1.1 (by decide)
        · exact absurd q this.1.2
        · exact absurd q this.2
  refine ⟨fun k hk => ⟨funext fun i => (f k i (w k i (Or.inl hk))).1, funext fun i => (f k i (w k i (Or.inl hk))).2.1, funext fun i => (f k i (w k i (Or.inl hk))).2.2⟩, (f 3 3 (w 3 3 (Or.inr (Or.inl rfl)))).2.2, (f 105 12 (w 105 12 (Or.inr (Or.inr rfl)))).1⟩
theorem txb_p {p k : Nat} (h : p = 6 ∨ ∃ j, p = 161 + 59 * j) (h1 : p ≤ k) (h2 : k < p + 59) : txb k = true := by
  unfold txb
  simp only [Bool.or_eq_true, Bool.and_eq_true, decide_eq_true_eq]
  rcases h with h | ⟨j, h⟩ <;> omega
theorem ITx_fr {sz : Nat} {A : List Nat} {B : List (Nat × Nat)} {T T' : tT} (f : fr (wl A B) T T') (h : txo A B = true) (hI : ITx sz T) : ITx sz T' := by
  obtain ⟨w, w3, w12⟩ := txo_f f h
  have r : rfx T T' := fun k h1 h2 => by
    have := w k (by unfold txb; simp only [Bool.or_eq_true, Bool.and_eq_true, decide_eq_true_eq]; omega)
    exact ⟨this.1, this.2.1⟩
  have c : ∀ p, spos sz T p → cfx T T' p := fun p hp k h1 h2 => w k (txb_p hp.2.1 h1 h2)
  obtain ⟨a1, a2, a3, a4, a5, a6, a7, a8, a9⟩ := hI
  have w65 := w 65 rfl
  have w108 := w 108 rfl
  have w109 := w 109 rfl
  unfold ITx
  rw [w3, w12, w65.2.2, w108.1, w109.1]
  refine ⟨?_, ?_, a3, a4, a5, a6, a7, ?_, a9.1, a9.2.1, fun i hi => by rw [(w 1 rfl).2.1]; exact a9.2.2 i hi⟩
  · obtain ⟨sp, s1, s2⟩ := a1
    exact ⟨sp, s1, spos_cg (c sp s2) s2⟩
  · intro t ht
    rcases a2 t ht with q | ⟨p, p1, p2, p3, p4⟩
    · exact Or.inl q
    · exact Or.inr ⟨p, p1, p2, spos_cg (c p p3) p3, TX_cg r (c p p3) p4⟩
  · intro k hk
    have := w k (by unfold txb; simp only [Bool.or_eq_true, Bool.and_eq_true, decide_eq_true_eq]; omega)
    rw [this.1, this.2.1, this.2.2]
    exact a8 k hk
theorem fg {sz : Nat} {T : tT} (h : ITx sz T) (t n : Int32) : ok_X10_findGrade sz T t n ∧ ok_X11_spot sz T t n ∧ ((v_X10_findGrade T t n = none ∧ v_X11_spot T t n = -1) ∨ ∃ p b j : Nat, v_X10_findGrade T t n = some (p + 3 + 7 * j) ∧ (v_X11_spot T t n).toInt = (8 * b + j : Nat) ∧ b < 5 ∧ j < 8 ∧ 0 ≤ t ∧ t < 4 ∧ T.2.2 65 t.toNatClampNeg = some p ∧ tsy sz p ∧ tgr sz (p + 3 + 7 * j) ∧ (0 ≤ T.1 p 3 ∧ T.1 p 3 ≤ 750) ∧ GB T p b (p + 3 + 7 * j) (8 * b + j)) := by
  obtain ⟨a1, a2, a3, a4, a5, a6, a7, a8, a9⟩ := h
  by_cases c : 0 ≤ t ∧ t < 4
  · have vt := vp4 c.1 c.2
    have it : ¬ v_X10_isTerm T t = 0 := by unfold v_X10_isTerm; grind
    have t0 : ¬ t < 0 := by grind
    have t4 : ¬ 4 ≤ t := by grind
    have tn : t.toNatClampNeg < 4 := by
      have := tle.mp c.1
      have := tlt.mp c.2
      rw [tncd]
      have z0 : (0 : Int32).toInt = 0 := rfl
      have z4 : (4 : Int32).toInt = 4 := rfl
      omega
    unfold ok_X10_findGrade v_X11_spot ok_X11_spot
    rw [if_neg t0, if_neg t4]
    rcases a2 _ tn with ⟨q1, q2⟩ | ⟨p, q1, q2, q3, q4⟩
    · have mf : v_X10_findGrade T t n = none := by
        unfold v_X10_findGrade
        rw [if_neg it, q1]
      rw [mf, q1, q2, if_pos rfl]
      refine ⟨⟨fun w => absurd w it, fun _ => ⟨vt, fun _ => trivial, fun p2 w => ?_⟩⟩, ⟨fun w => absurd w t0, fun _ => ⟨fun w => absurd w t4, fun _ => ⟨vt, fun _ => trivial, fun w => absurd rfl w⟩⟩⟩, Or.inl ⟨rfl, rfl⟩⟩
      cases w
    · have mf : v_X10_findGrade T t n = v_X8_find T p n := by
        unfold v_X10_findGrade
        rw [if_neg it, q1]
        dsimp only
        cases v_X8_find T p n <;> rfl
      rw [mf, q1, q2, if_neg (by decide)]
      obtain ⟨b1, b2, b3⟩ := a5 _ tn
      obtain ⟨bn, hb⟩ : ∃ bn : Nat, (T.1 108 t.toNatClampNeg).toInt = bn := ⟨(T.1 108 t.toNatClampNeg).toInt.toNat, by have : 0 ≤ (T.1 108 t.toNatClampNeg).toInt := tle.mp b1; omega⟩
      have b5 : bn < 5 := by have : (T.1 108 t.toNatClampNeg).toInt < 5 := tlt.mp b2; omega
      rw [tnN hb] at q4
      by_cases d : 1 ≤ n ∧ n ≤ 8
      · obtain ⟨j, hj⟩ : ∃ j : Nat, n.toInt = (j + 1 : Nat) := ⟨n.toInt.toNat - 1, by have : 1 ≤ n.toInt := tle.mp d.1; omega⟩
        have j8 : j < 8 := by have : n.toInt ≤ 8 := tle.mp d.2; omega
        have n1 : ¬ n < 1 := by grind
        have n8 : ¬ 8 < n := by grind
        have i1 : (n - 1).toInt = j := by rw [tsub (by rw [show (1 : Int32).toInt = 1 from rfl]; omega) (by rw [show (1 : Int32).toInt = 1 from rfl]; omega), show (1 : Int32).toInt = 1 from rfl]; omega
        have v1 : vp_in (n - 1) 8 := by rw [vp_in_iff]; omega
        have e8 : ((8 : Int32) * T.1 108 t.toNatClampNeg).toInt = 8 * bn := by
          rw [tmul (by rw [show (8 : Int32).toInt = 8 from rfl]; omega) (by rw [show (8 : Int32).toInt = 8 from rfl]; omega), show (8 : Int32).toInt = 8 from rfl, hb]
        have e9 : ((8 : Int32) * T.1 108 t.toNatClampNeg + n).toInt = 8 * bn + (j + 1) := by
          rw [tadd (by omega) (by omega), e8]; omega
        have ei : ((8 : Int32) * T.1 108 t.toNatClampNeg + n - 1).toInt = (8 * bn + j : Nat) := by
          rw [tsub (by rw [show (1 : Int32).toInt = 1 from rfl]; omega) (by rw [show (1 : Int32).toInt = 1 from rfl]; omega), show (1 : Int32).toInt = 1 from rfl]; omega
        have vi : vp_in ((8 : Int32) * T.1 108 t.toNatClampNeg + n - 1) 40 := by rw [vp_in_iff]; omega
        have rf := q3.2.2 j j8
        have tg := q3.1.2.2.2.2.2 j j8
        obtain ⟨⟨g1, g2⟩, g3⟩ := q4.2.2 j j8
        have fe : v_X8_find T p n = if T.1 (p + 3 + 7 * j) 0 = 0 then none else some (p + 3 + 7 * j) := by
          unfold v_X8_find
          rw [if_neg n1, if_neg n8, tnN i1, rf]
        have fo : ok_X8_find sz T p n := by
          unfold ok_X8_find
          rw [tnN i1, rf]
          refine ⟨fun w => absurd w n1, fun _ => ⟨fun w => absurd w n8, fun _ => ⟨v1, fun w => (by cases w), fun p1 w => ?_⟩⟩⟩
          cases w
          exact ⟨tg, fun _ => trivial, fun _ => v1⟩
        have o1 : (v_X10_isTerm T t = 0 → True) ∧ (¬ v_X10_isTerm T t = 0 → vp_in t 4 ∧ (some p = none → True) ∧ ∀ p2, some p = some p2 → tsy sz p2 ∧ ok_X8_find sz T p2 n ∧ (v_X8_find T p2 n = none → True) ∧ ∀ p4, v_X8_find T p2 n = some p4 → tgr sz p4 ∧ True) := by
          refine ⟨fun _ => trivial, fun _ => ⟨vt, fun _ => trivial, fun p2 w => ?_⟩⟩
          cases w
          refine ⟨q3.1, fo, fun _ => trivial, fun p4 w => ?_⟩
          rw [fe] at w
          by_cases k : T.1 (p + 3 + 7 * j) 0 = 0
          · rw [if_pos k] at w; cases w
          · rw [if_neg k] at w; cases w; exact ⟨tg, trivial⟩
        refine ⟨o1, ⟨fun w => absurd w t0, fun _ => ⟨fun w => absurd w t4, fun _ => ⟨vt, fun w => absurd w (by decide), fun _ => ⟨fun w => absurd w n1, fun _ => ⟨fun _ => ⟨vt, vi⟩, fun _ => trivial⟩⟩⟩⟩⟩, ?_⟩
        rw [if_neg n1, if_pos d.2, tnN ei, ← g1, fe]
        by_cases k : T.1 (p + 3 + 7 * j) 0 = 0
        · rw [if_pos k, if_pos k]
          exact Or.inl ⟨rfl, rfl⟩
        · rw [if_neg k, if_neg k]
          exact Or.inr ⟨p, bn, j, rfl, ei, b5, j8, c.1, c.2, rfl, q3.1, tg, q4.2.1, g3 k⟩
      · have fe : v_X8_find T p n = none := by
          unfold v_X8_find
          by_cases d1 : n < 1
          · rw [if_pos d1]
          · rw [if_neg d1, if_pos (by grind)]
        have se : (if n < 1 then (-1 : Int32) else if n ≤ 8 then (if T.1 110 ((8 * T.1 108 t.toNatClampNeg + n - 1)).toNatClampNeg = 0 then -1 else 8 * T.1 108 t.toNatClampNeg + n - 1) else -1) = -1 := by
          by_cases d1 : n < 1
          · rw [if_pos d1]
          · rw [if_neg d1, if_neg (by grind)]
        have fo : ok_X8_find sz T p n := by
          unfold ok_X8_find
          refine ⟨fun _ => trivial, fun n1 => ⟨fun _ => trivial, fun n8 => ?_⟩⟩
          exact absurd ⟨by grind, by grind⟩ d
        refine ⟨⟨fun w => absurd w it, fun _ => ⟨vt, fun _ => trivial, fun p2 w => ?_⟩⟩, ⟨fun w => absurd w t0, fun _ => ⟨fun w => absurd w t4, fun _ => ⟨vt, fun w => absurd w (by decide), fun _ => ⟨fun _ => trivial, fun n1 => ⟨fun n8 => absurd ⟨by grind, n8⟩ d, fun _ => trivial⟩⟩⟩⟩⟩, Or.inl ⟨fe, se⟩⟩
        cases w
        exact ⟨q3.1, fo, fun _ => trivial, fun p4 w => by rw [fe] at w; cases w⟩
  · have it : v_X10_isTerm T t = 0 := by unfold v_X10_isTerm; grind
    unfold v_X10_findGrade ok_X10_findGrade v_X11_spot ok_X11_spot
    rw [if_pos it]
    refine ⟨⟨fun _ => trivial, fun w => absurd it w⟩, ⟨fun _ => trivial, fun t0 => ⟨fun _ => trivial, fun t4 => absurd ⟨by grind, by grind⟩ c⟩⟩, Or.inl ⟨rfl, ?_⟩⟩
    by_cases t0 : t < 0
    · rw [if_pos t0]
    · rw [if_neg t0, if_pos (by grind)]
