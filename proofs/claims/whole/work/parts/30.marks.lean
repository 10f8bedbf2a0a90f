/-! marks as they are known; who may take a session -/
theorem tinc {v b : Int32} (h : v < b) : (v + 1).toInt = v.toInt + 1 := by
  have a := tlt.mp h
  have c := b.toInt_lt
  have c' := v.le_toInt
  have e : (1 : Int32).toInt = 1 := rfl
  rw [tadd (by omega) (by omega), e]
theorem tdec {v : Int32} (h : 0 ≤ v) : (v + -1).toInt = v.toInt - 1 := by
  have a : 0 ≤ v.toInt := tle.mp h
  have c := v.toInt_lt
  have e : (-1 : Int32).toInt = -1 := rfl
  rw [tadd (by omega) (by omega), e]
  omega
theorem fu_big {a : Int} (h : a < 100000) : a < ((fu : Nat) : Int) := by rw [fu_eq]; omega
theorem e_isKnown {T : tT} (hL : ILe T) (x d : Int32) : v_X5_isKnown T x d = v_X11_isKnown T x d := by
  obtain ⟨a1, a2, a3, a4, a5, a6, a7, a8, a9, a10, a11, a12⟩ := hL
  unfold v_X5_isKnown v_X11_isKnown v_X5_stands
  rw [a3.2.2.2.1, a3.2.2.2.2]
  have := a12 x.toNatClampNeg
  grind
theorem e_mainl {T : tT} (hL : ILe T) (x d : Int32) : ∀ n v, vl_X5_mainOf n T x d v = vl_X11_main n T x d v := by
  intro n
  induction n with
  | zero => intro v; rfl
  | succ n ih =>
    intro v
    have k := e_isKnown hL v d
    obtain ⟨a1, a2, a3, a4, a5, a6, a7, a8, a9, a10, a11, a12⟩ := hL
    have u1 := a4 v.toNatClampNeg
    have u2 := a7 v.toNatClampNeg
    have u3 := ih (v + 1)
    rw [vl_X5_mainOf_s, vl_X11_main_s, a1.1, a3.1]
    grind
theorem e_main {T : tT} (hL : ILe T) (x d : Int32) : v_X5_mainOf T x d = v_X11_main T x d := e_mainl hL x d fu 0
theorem k_isKnown5 {sz : Nat} {T : tT} {x d : Int32} (h0 : 0 ≤ x) (h : x < 200) : ok_X5_isKnown sz T x d := by
  have := vp200 h0 h
  unfold ok_X5_isKnown ok_X5_stands
  grind
theorem k_isKnown11 {sz : Nat} {T : tT} {x d : Int32} (h0 : 0 ≤ x) (h : x < 200) : ok_X11_isKnown sz T x d := by
  have := vp200 h0 h
  unfold ok_X11_isKnown
  grind
theorem k_mainOfl {sz : Nat} {T : tT} (hL : ILe T) (x d : Int32) : ∀ (n : Nat) (v : Int32), 0 ≤ v → v ≤ T.1 93 1 → (T.1 93 1).toInt < v.toInt + n → okl_X5_mainOf n sz T x d v := by
  intro n
  induction n with
  | zero => intro v h0 h1 h2; rw [tle] at h1; omega
  | succ n ih =>
    intro v h0 h1 h2
    have b := hL.2.1
    simp only [okl_X5_mainOf]
    by_cases c : T.1 93 1 ≤ v
    · exact ⟨fun _ => trivial, fun q => absurd c q⟩
    · have u := ih (v + 1) (by grind) (by grind) (by rw [tinc (b := T.1 93 1) (by grind)]; omega)
      have u2 := vp200 (a := v) h0 (by grind)
      have u3 := k_isKnown5 (sz := sz) (T := T) (x := v) (d := d) h0 (by grind)
      grind
theorem k_mainOf {sz : Nat} {T : tT} (hL : ILe T) (x d : Int32) : ok_X5_mainOf sz T x d := k_mainOfl hL x d fu 0 (by decide) hL.2.1.1 (by
  have := hL.2.1
  have e : (T.1 93 1).toInt ≤ 200 := tle.mp this.2.1
  rw [fu_eq]
  show (T.1 93 1).toInt < 0 + _
  omega)
theorem k_main11l {sz : Nat} {T : tT} (hL : ILe T) (x d : Int32) : ∀ (n : Nat) (v : Int32), 0 ≤ v → v ≤ T.1 93 1 → (T.1 93 1).toInt < v.toInt + n → okl_X11_main n sz T x d v := by
  intro n
  induction n with
  | zero => intro v h0 h1 h2; rw [tle] at h1; omega
  | succ n ih =>
    intro v h0 h1 h2
    have b := hL.2.1
    have b1 := hL.1
    simp only [okl_X11_main]
    rw [b1.1]
    by_cases c : T.1 93 1 ≤ v
    · exact ⟨fun _ => trivial, fun q => absurd c q⟩
    · have u := ih (v + 1) (by grind) (by grind) (by rw [tinc (b := T.1 93 1) (by grind)]; omega)
      have u2 := vp200 (a := v) h0 (by grind)
      have u3 := k_isKnown11 (sz := sz) (T := T) (x := v) (d := d) h0 (by grind)
      grind
theorem fu_marks {T : tT} (hL : ILe T) : (T.1 93 1).toInt < (0 : Int32).toInt + (fu : Nat) := by
  have e : (T.1 93 1).toInt ≤ 200 := tle.mp hL.2.1.2.1
  rw [fu_eq]
  show (T.1 93 1).toInt < 0 + _
  omega
theorem k_main11 {sz : Nat} {T : tT} (hL : ILe T) (x d : Int32) : ok_X11_main sz T x d := k_main11l hL x d fu 0 (by decide) hL.2.1.1 (fu_marks hL)
/-- the mark m is of teller t, entry e and part p, and known on day d -/
def mP (T : tT) (t e p d : Int32) (m : Int32) : Prop := T.1 95 m.toNatClampNeg = t ∧ T.1 94 m.toNatClampNeg = e ∧ T.1 96 m.toNatClampNeg = p ∧ v_X5_isKnown T m d ≠ 0
theorem l_lastOf5l {T : tT} (t e p d : Int32) : ∀ (n : Nat) (v : Int32), -1 ≤ v → v.toInt + 1 < n → (vl_X5_lastOf n T t e p d v = -1 ∧ ∀ j, 0 ≤ j → j ≤ v → ¬ mP T t e p d j) ∨ (0 ≤ vl_X5_lastOf n T t e p d v ∧ vl_X5_lastOf n T t e p d v ≤ v ∧ mP T t e p d (vl_X5_lastOf n T t e p d v) ∧ ∀ j, vl_X5_lastOf n T t e p d v < j → j ≤ v → ¬ mP T t e p d j) := by
  intro n
  induction n with
  | zero => intro v h0 h2; have : (-1 : Int32).toInt ≤ v.toInt := tle.mp h0; rw [show (-1 : Int32).toInt = -1 from rfl] at this; omega
  | succ n ih =>
    intro v h0 h2
    rw [vl_X5_lastOf_s]
    by_cases c : v < 0
    · rw [if_pos c]
      exact Or.inl ⟨rfl, fun j q1 q2 => by grind⟩
    · rw [if_neg c]
      have u := ih (v + -1) (by grind) (by rw [tdec (by grind)]; omega)
      by_cases w : mP T t e p d v
      · have e1 : (if T.1 95 v.toNatClampNeg = t then if T.1 94 v.toNatClampNeg = e then if T.1 96 v.toNatClampNeg = p then if v_X5_isKnown T v d = 0 then vl_X5_lastOf n T t e p d (v + -1) else v else vl_X5_lastOf n T t e p d (v + -1) else vl_X5_lastOf n T t e p d (v + -1) else vl_X5_lastOf n T t e p d (v + -1)) = v := by
          unfold mP at w
          grind
        rw [e1]
        exact Or.inr ⟨by grind, by grind, w, fun j q1 q2 => by grind⟩
      · have e1 : (if T.1 95 v.toNatClampNeg = t then if T.1 94 v.toNatClampNeg = e then if T.1 96 v.toNatClampNeg = p then if v_X5_isKnown T v d = 0 then vl_X5_lastOf n T t e p d (v + -1) else v else vl_X5_lastOf n T t e p d (v + -1) else vl_X5_lastOf n T t e p d (v + -1) else vl_X5_lastOf n T t e p d (v + -1)) = vl_X5_lastOf n T t e p d (v + -1) := by
          unfold mP at w
          grind
        rw [e1]
        have st : ∀ j : Int32, j ≤ v → j ≠ v → j ≤ v + -1 := by intro j q1 q2; grind
        rcases u with ⟨u1, u2⟩ | ⟨u1, u2, u3, u4⟩
        · refine Or.inl ⟨u1, fun j q1 q2 => ?_⟩
          by_cases hj : j = v
          · rw [hj]; exact w
          · exact u2 j q1 (st j q2 hj)
        · refine Or.inr ⟨u1, by grind, u3, fun j q1 q2 => ?_⟩
          by_cases hj : j = v
          · rw [hj]; exact w
          · exact u4 j q1 (st j q2 hj)
theorem l_lastOf5 {T : tT} (hL : ILe T) (t e p d : Int32) : (v_X5_lastOf T t e p d = -1 ∧ ∀ j, 0 ≤ j → j < T.1 93 1 → ¬ mP T t e p d j) ∨ (0 ≤ v_X5_lastOf T t e p d ∧ v_X5_lastOf T t e p d < T.1 93 1 ∧ mP T t e p d (v_X5_lastOf T t e p d) ∧ ∀ j, v_X5_lastOf T t e p d < j → j < T.1 93 1 → ¬ mP T t e p d j) := by
  have b := hL.2.1
  have q : (T.1 93 1 - 1).toInt = (T.1 93 1).toInt - 1 := by
    have a1 : 0 ≤ (T.1 93 1).toInt := tle.mp b.1
    have a2 : (T.1 93 1).toInt ≤ 200 := tle.mp b.2.1
    exact tsub (by rw [show (1 : Int32).toInt = 1 from rfl]; omega) (by rw [show (1 : Int32).toInt = 1 from rfl]; omega)
  have u := l_lastOf5l (T := T) t e p d fu (T.1 93 1 - 1) (by grind) (by
    have a2 : (T.1 93 1).toInt ≤ 200 := tle.mp b.2.1
    rw [fu_eq, q]; omega)
  have s : ∀ j : Int32, j ≤ T.1 93 1 - 1 ↔ j < T.1 93 1 := by intro j; grind
  unfold v_X5_lastOf
  rcases u with ⟨u1, u2⟩ | ⟨u1, u2, u3, u4⟩
  · exact Or.inl ⟨u1, fun j q1 q2 => u2 j q1 ((s j).mpr q2)⟩
  · exact Or.inr ⟨u1, (s _).mp u2, u3, fun j q1 q2 => u4 j q1 ((s j).mpr q2)⟩
theorem k_lastOf5l {sz : Nat} {T : tT} (t e p d : Int32) : ∀ (n : Nat) (v : Int32), -1 ≤ v → v < 200 → v.toInt + 1 < n → okl_X5_lastOf n sz T t e p d v := by
  intro n
  induction n with
  | zero => intro v h0 h1 h2; have : (-1 : Int32).toInt ≤ v.toInt := tle.mp h0; rw [show (-1 : Int32).toInt = -1 from rfl] at this; omega
  | succ n ih =>
    intro v h0 h1 h2
    simp only [okl_X5_lastOf]
    by_cases c : v < 0
    · exact ⟨fun _ => trivial, fun q => absurd c q⟩
    · have u := ih (v + -1) (by grind) (by grind) (by rw [tdec (by grind)]; omega)
      have u2 := vp200 (a := v) (by grind) h1
      have u3 := k_isKnown5 (sz := sz) (T := T) (x := v) (d := d) (by grind) h1
      grind
theorem k_lastOf5 {sz : Nat} {T : tT} (hL : ILe T) (t e p d : Int32) : ok_X5_lastOf sz T t e p d := by
  have b := hL.2.1
  refine k_lastOf5l t e p d fu _ (by grind) (by grind) ?_
  have a1 : 0 ≤ (T.1 93 1).toInt := tle.mp b.1
  have a2 : (T.1 93 1).toInt ≤ 200 := tle.mp b.2.1
  rw [fu_eq, tsub (by rw [show (1 : Int32).toInt = 1 from rfl]; omega) (by rw [show (1 : Int32).toInt = 1 from rfl]; omega), show (1 : Int32).toInt = 1 from rfl]
  omega
theorem k_lastOf11l {sz : Nat} {T : tT} (hL : ILe T) (e p t d : Int32) : ∀ (n : Nat) (v a : Int32), 0 ≤ v → v ≤ T.1 93 1 → (T.1 93 1).toInt < v.toInt + n → okl_X11_lastOf n sz T e p t d a v := by
  intro n
  induction n with
  | zero => intro v a h0 h1 h2; rw [tle] at h1; omega
  | succ n ih =>
    intro v a h0 h1 h2
    have b := hL.2.1
    have b1 := hL.1
    simp only [okl_X11_lastOf]
    rw [b1.1]
    by_cases c : T.1 93 1 ≤ v
    · exact ⟨fun _ => trivial, fun q => absurd c q⟩
    · have u := fun a => ih (v + 1) a (by grind) (by grind) (by rw [tinc (b := T.1 93 1) (by grind)]; omega)
      have u2 := vp200 (a := v) h0 (by grind)
      have u3 := k_isKnown11 (sz := sz) (T := T) (x := v) (d := d) h0 (by grind)
      grind
theorem k_lastOf11 {sz : Nat} {T : tT} (hL : ILe T) (e p t d : Int32) : ok_X11_lastOf sz T e p t d := k_lastOf11l hL e p t d fu 0 _ (by decide) hL.2.1.1 (fu_marks hL)
/-- the reference's teller -/
def rT (t : Int32) : Int32 := if t = 5 then -1 else t
theorem l_lastOf11l {T : tT} (hL : ILe T) (t e p d : Int32) (ht : t ≠ -1) : ∀ (n : Nat) (v a : Int32), 0 ≤ v → v ≤ T.1 93 1 → (T.1 93 1).toInt < v.toInt + n → (vl_X11_lastOf n T e p (rT t) d a v = a ∧ ∀ j, v ≤ j → j < T.1 93 1 → ¬ mP T t e p d j) ∨ (∃ k, v ≤ k ∧ k < T.1 93 1 ∧ mP T t e p d k ∧ vl_X11_lastOf n T e p (rT t) d a v = T.1 97 k.toNatClampNeg ∧ ∀ j, k < j → j < T.1 93 1 → ¬ mP T t e p d j) := by
  intro n
  induction n with
  | zero => intro v a h0 h1 h2; rw [tle] at h1; omega
  | succ n ih =>
    intro v a h0 h1 h2
    rw [vl_X11_lastOf_s, hL.1.1]
    by_cases c : T.1 93 1 ≤ v
    · rw [if_pos c]
      exact Or.inl ⟨rfl, fun j q1 q2 => by grind⟩
    · rw [if_neg c]
      have u := fun a => ih (v + 1) a (by grind) (by grind) (by rw [tinc (b := T.1 93 1) (by grind)]; omega)
      have x1 : T.1 151 = T.1 94 := hL.2.2.1.1
      have x2 : T.1 153 = T.1 96 := hL.2.2.1.2.1
      have x3 : T.1 154 = T.1 97 := hL.2.2.1.2.2.1
      have x4 := hL.2.2.2.1 v.toNatClampNeg
      have x5 := e_isKnown hL v d
      have x6 := hL.2.2.2.2.2.2.1 v.toNatClampNeg
      have x7 : T.1 152 v.toNatClampNeg = rT t ↔ T.1 95 v.toNatClampNeg = t := by
        rw [x4]; unfold rT; grind
      rw [x1, x2, x3, ← x5]
      have st : ∀ j : Int32, v ≤ j → j ≠ v → v + 1 ≤ j := by intro j q1 q2; grind
      by_cases w : mP T t e p d v
      · have e1 : (if T.1 94 v.toNatClampNeg = e then if T.1 96 v.toNatClampNeg = p then if T.1 152 v.toNatClampNeg = rT t then if v_X5_isKnown T v d = 0 then vl_X11_lastOf n T e p (rT t) d a (v + 1) else vl_X11_lastOf n T e p (rT t) d (T.1 97 v.toNatClampNeg) (v + 1) else vl_X11_lastOf n T e p (rT t) d a (v + 1) else vl_X11_lastOf n T e p (rT t) d a (v + 1) else vl_X11_lastOf n T e p (rT t) d a (v + 1)) = vl_X11_lastOf n T e p (rT t) d (T.1 97 v.toNatClampNeg) (v + 1) := by
          unfold mP at w
          grind
        rw [e1]
        rcases u (T.1 97 v.toNatClampNeg) with ⟨u1, u2⟩ | ⟨k, u1, u2, u3, u4, u5⟩
        · exact Or.inr ⟨v, by grind, by grind, w, u1, fun j q1 q2 => u2 j (by grind) q2⟩
        · exact Or.inr ⟨k, by grind, u2, u3, u4, u5⟩
      · have e1 : (if T.1 94 v.toNatClampNeg = e then if T.1 96 v.toNatClampNeg = p then if T.1 152 v.toNatClampNeg = rT t then if v_X5_isKnown T v d = 0 then vl_X11_lastOf n T e p (rT t) d a (v + 1) else vl_X11_lastOf n T e p (rT t) d (T.1 97 v.toNatClampNeg) (v + 1) else vl_X11_lastOf n T e p (rT t) d a (v + 1) else vl_X11_lastOf n T e p (rT t) d a (v + 1) else vl_X11_lastOf n T e p (rT t) d a (v + 1)) = vl_X11_lastOf n T e p (rT t) d a (v + 1) := by
          unfold mP at w
          grind
        rw [e1]
        rcases u a with ⟨u1, u2⟩ | ⟨k, u1, u2, u3, u4, u5⟩
        · refine Or.inl ⟨u1, fun j q1 q2 => ?_⟩
          by_cases hj : j = v
          · rw [hj]; exact w
          · exact u2 j (st j q1 hj) q2
        · exact Or.inr ⟨k, by grind, u2, u3, u4, u5⟩
theorem e_lastOf {T : tT} (hL : ILe T) (t e p d : Int32) (ht : t ≠ -1) : v_X11_lastOf T e p (rT t) d = if v_X5_lastOf T t e p d = -1 then -1 else T.1 97 (v_X5_lastOf T t e p d).toNatClampNeg := by
  have u := l_lastOf11l hL t e p d ht fu 0 (-1) (by decide) hL.2.1.1 (fu_marks hL)
  have w := l_lastOf5 hL t e p d
  unfold v_X11_lastOf
  rcases w with ⟨w1, w2⟩ | ⟨w1, w2, w3, w4⟩
  · rw [if_pos w1]
    rcases u with ⟨u1, u2⟩ | ⟨k, u1, u2, u3, u4, u5⟩
    · exact u1
    · exact absurd u3 (w2 k u1 u2)
  · rw [if_neg (by grind)]
    rcases u with ⟨u1, u2⟩ | ⟨k, u1, u2, u3, u4, u5⟩
    · exact absurd w3 (u2 _ w1 w2)
    · have : k = v_X5_lastOf T t e p d := by
        by_cases c1 : k < v_X5_lastOf T t e p d
        · exact absurd w3 (u5 _ c1 w2)
        · by_cases c2 : v_X5_lastOf T t e p d < k
          · exact absurd u3 (w4 _ c2 u2)
          · grind
      rw [u4, this]
theorem l_main {T : tT} (hL : ILe T) (x d : Int32) : ∀ n v, vl_X5_mainOf n T x d v = -1 ∨ (0 ≤ vl_X5_mainOf n T x d v ∧ vl_X5_mainOf n T x d v < 5) := by
  intro n
  induction n with
  | zero => intro v; exact Or.inr (show (0 : Int32) ≤ 0 ∧ (0 : Int32) < 5 by decide)
  | succ n ih =>
    intro v
    have u2 := hL.2.2.2.2.2.2.1 v.toNatClampNeg
    have u3 := ih (v + 1)
    rw [vl_X5_mainOf_s]
    grind
theorem e_known {T : tT} (hL : ILe T) (hE : T.1 105 48 = T.1 69 0) (x0 x1 x2 : Int32) : v_X5_knownPoints T x0 x1 x2 = v_X11_known T x0 x1 x2 := by
  have k1 := e_lastOf hL 5 x0 x1 x2 (by decide)
  rw [show rT 5 = -1 from rfl] at k1
  have m : v_X5_mainOf T x0 x2 = -1 ∨ (0 ≤ v_X5_mainOf T x0 x2 ∧ v_X5_mainOf T x0 x2 < 5) := l_main hL x0 x2 fu 0
  have a10 := hL.2.2.2.2.2.2.2.2.2.1
  have w := l_lastOf5 hL 5 x0 x1 x2
  have w2 := l_lastOf5 hL (v_X5_mainOf T x0 x2) x0 x1 x2
  have no : ∀ t, ¬ (0 ≤ x0 ∧ x0 < T.1 69 0) → v_X5_lastOf T t x0 x1 x2 = -1 := by
    intro t hx
    rcases l_lastOf5 hL t x0 x1 x2 with q | ⟨q1, q2, q3, q4⟩
    · exact q.1
    · have z1 := hL.2.2.2.2.1 (v_X5_lastOf T t x0 x1 x2).toNatClampNeg
      have z2 := hL.2.2.2.2.2.1 _ q1 q2
      have z3 := q3.2.1
      rw [z3] at z1 z2
      grind
  have z0 : v_X5_mainOf T x0 x2 = -1 → v_X5_lastOf T (v_X5_mainOf T x0 x2) x0 x1 x2 = -1 := by
    intro hm
    rcases w2 with q | ⟨q1, q2, q3, q4⟩
    · exact q.1
    · have z1 := hL.2.2.2.2.2.2.1 (v_X5_lastOf T (v_X5_mainOf T x0 x2) x0 x1 x2).toNatClampNeg
      have z3 := q3.1
      rw [z3] at z1
      grind
  have b1 := a10 (v_X5_lastOf T 5 x0 x1 x2).toNatClampNeg
  have em := e_main hL x0 x2
  unfold v_X5_knownPoints v_X11_known v_X11_isEntry
  rw [k1, ← em, hE]
  by_cases c : 0 ≤ x0 ∧ x0 < T.1 69 0
  · rcases m with m | m
    · grind
    · have k2 := e_lastOf hL (v_X5_mainOf T x0 x2) x0 x1 x2 (by grind)
      rw [show rT (v_X5_mainOf T x0 x2) = v_X5_mainOf T x0 x2 by unfold rT; grind] at k2
      grind
  · have n1 := no 5 c
    have n2 := no (v_X5_mainOf T x0 x2) c
    grind
theorem k_known5 {sz : Nat} {T : tT} (hL : ILe T) (x0 x1 x2 : Int32) : ok_X5_knownPoints sz T x0 x1 x2 := by
  have u1 := k_lastOf5 (sz := sz) hL 5 x0 x1 x2
  have u2 := k_lastOf5 (sz := sz) hL (v_X5_mainOf T x0 x2) x0 x1 x2
  have u3 := k_mainOf (sz := sz) hL x0 x2
  have b := hL.2.1
  have v1 : v_X5_lastOf T 5 x0 x1 x2 ≠ -1 → vp_in (v_X5_lastOf T 5 x0 x1 x2) 200 := by
    intro q
    rcases l_lastOf5 hL 5 x0 x1 x2 with w | w
    · exact absurd w.1 q
    · exact vp200 w.1 (by grind)
  have v2 : v_X5_lastOf T (v_X5_mainOf T x0 x2) x0 x1 x2 ≠ -1 → vp_in (v_X5_lastOf T (v_X5_mainOf T x0 x2) x0 x1 x2) 200 := by
    intro q
    rcases l_lastOf5 hL (v_X5_mainOf T x0 x2) x0 x1 x2 with w | w
    · exact absurd w.1 q
    · exact vp200 w.1 (by grind)
  unfold ok_X5_knownPoints
  grind
theorem k_known11 {sz : Nat} {T : tT} (hL : ILe T) (x0 x1 x2 : Int32) : ok_X11_known sz T x0 x1 x2 := by
  have u1 := k_lastOf11 (sz := sz) hL x0 x1 (-1) x2
  have u2 := k_lastOf11 (sz := sz) hL x0 x1 (v_X11_main T x0 x2) x2
  have u3 := k_main11 (sz := sz) hL x0 x2
  unfold ok_X11_known
  grind
theorem q_known {sz : Nat} {T : tT} (h : I6 T) (x0 x1 x2 : Int32) : ok_X10_known sz T x0 x1 x2 ∧ ok_X11_known sz T x0 x1 x2 ∧ v_X10_known T x0 x1 x2 = v_X11_known T x0 x1 x2 :=
  ⟨⟨k_known5 h.2.2.1 x0 x1 x2, trivial⟩, k_known11 h.2.2.1 x0 x1 x2, e_known h.2.2.1 h.2.1.1 x0 x1 x2⟩
theorem q_main {sz : Nat} {T : tT} (h : I6 T) (x0 x1 : Int32) : ok_X10_main sz T x0 x1 ∧ ok_X11_main sz T x0 x1 ∧ v_X10_main T x0 x1 = v_X11_main T x0 x1 :=
  ⟨⟨k_mainOf h.2.2.1 x0 x1, trivial⟩, k_main11 h.2.2.1 x0 x1, e_main h.2.2.1 x0 x1⟩
