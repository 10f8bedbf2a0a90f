/-! the class's planner: savings, costs, states -/
theorem tadd6 {a b : Int64} (h1 : -9223372036854775808 ≤ a.toInt + b.toInt) (h2 : a.toInt + b.toInt < 9223372036854775808) : (a + b).toInt = a.toInt + b.toInt := by
  rw [Int64.toInt_add]
  exact Int.bmod_eq_of_le (by omega) (by omega)
theorem tsub6 {a b : Int64} (h1 : -9223372036854775808 ≤ a.toInt - b.toInt) (h2 : a.toInt - b.toInt < 9223372036854775808) : (a - b).toInt = a.toInt - b.toInt := by
  rw [Int64.toInt_sub]
  exact Int.bmod_eq_of_le (by omega) (by omega)
theorem tmul6 {a b : Int64} (h1 : -9223372036854775808 ≤ a.toInt * b.toInt) (h2 : a.toInt * b.toInt < 9223372036854775808) : (a * b).toInt = a.toInt * b.toInt := by
  rw [Int64.toInt_mul]
  exact Int.bmod_eq_of_le (by omega) (by omega)
theorem sh27 (v : Int64) : v <<< ((27 : Int32).toInt64 &&& 63) = v * 134217728 := by
  apply Int64.toBitVec_inj.mp
  rw [Int64.toBitVec_shiftLeft, Int64.toBitVec_mul]
  have e : (((27 : Int32).toInt64 &&& 63).toBitVec.smod 64) = 27#64 := by decide
  rw [e]
  show v.toBitVec <<< (27#64).toNat = v.toBitVec * (134217728 : Int64).toBitVec
  rw [show (27#64).toNat = 27 from rfl, BitVec.shiftLeft_eq_mul_twoPow]
  rfl
theorem sh27_i {v : Int64} (h1 : -60000000000 ≤ v.toInt) (h2 : v.toInt ≤ 60000000000) : (v <<< ((27 : Int32).toInt64 &&& 63)).toInt = 134217728 * v.toInt := by
  have z : (134217728 : Int64).toInt = 134217728 := rfl
  rw [sh27, tmul6 (by rw [z]; omega) (by rw [z]; omega), z]
  omega
theorem ix8b {x y : Int32} {a b : Nat} (hx : x.toInt = a) (hy : y.toInt = b) (ha : a < 8) (hb : b < 8) : (x * 8 + y).toNatClampNeg = 8 * a + b ∧ vp_in (x * 8 + y) 64 := by
  have z : (8 : Int32).toInt = 8 := rfl
  have m : (x * (8 : Int32)).toInt = 8 * a := by rw [tmul (by rw [z]; omega) (by rw [z]; omega), z, hx]; omega
  have e : (x * (8 : Int32) + y).toInt = (8 * a + b : Nat) := by rw [tadd (by omega) (by omega)]; omega
  exact ⟨tnN e, by rw [vp_in_iff]; omega⟩
theorem mB {sz : Nat} {T : tT} {x y : Int32} {a b : Nat} (hx : x.toInt = a) (hy : y.toInt = b) (ha : a < 8) (hb : b < 8) : (v_X1_minutesBetween T x y).toInt = wy T a b ∧ ok_X1_minutesBetween sz T x y := by
  obtain ⟨e1, e2⟩ := ix8b hx hy ha hb
  refine ⟨?_, e2⟩
  unfold v_X1_minutesBetween wy
  rw [e1]
/-- a number of places -/
def okp (T : tT) (E : Nat) (p : Int32) : Prop := ∀ x, x < E → pof p x = 0 ∨ ∃ a : Nat, (a : Int) < (T.1 79 0).toInt ∧ a < 8 ∧ pof p x = nI (a + 1)
theorem rep_okp {T : tT} (hC : ICi T) {S E : Nat} (hS : (T.1 79 2).toInt = S) (S9 : S ≤ 9) {p : Int32} {f : Nat → Nat} {d : Int} (h : rep T S E p f d) : okp T E p := by
  intro x hx
  rcases h x hx with ⟨s, a1, _, _, a4⟩ | ⟨_, a2⟩
  · refine Or.inr ⟨pl T s, ?_, (pl_lt hC s).2, a4⟩
    have e : (nI s).toInt = s := nI_toInt (by omega)
    have := hC.2.2.2.2.2.2.2.2.1 (nI s) (by rw [tle, e, show (0 : Int32).toInt = 0 from rfl]; omega) (by rw [tlt, e]; omega)
    rw [tnN e, tlt, (pl_lt hC s).1] at this
    exact this
  · exact Or.inl a2
theorem stm_rg {T : tT} (hC : ICi T) (p q : Int32) (x : Nat) : -600 ≤ stm T p q x ∧ stm T p q x ≤ 1200 := by
  unfold stm
  split
  · omega
  · have a := wy_rg hC ((pof p x).toNatClampNeg - 1) (hm T x)
    have b := wy_rg hC (hm T x) ((pof q x).toNatClampNeg - 1)
    have c := wy_rg hC ((pof p x).toNatClampNeg - 1) ((pof q x).toNatClampNeg - 1)
    omega
theorem svv_rg {T : tT} (hC : ICi T) {E : Nat} (E5 : E ≤ 5) (p q : Int32) : -500000000000 ≤ svv T E p q ∧ svv T E p q ≤ 900000000000 := by
  unfold svv
  have := sg_bd (f := stm T p q) (a := -600) (b := 1200) E (fun x _ => stm_rg hC p q x)
  omega
theorem hC0 {T : tT} {a : Nat} (h1 : (a : Int) < (T.1 79 0).toInt) (h2 : a < 8) : v_X1_hasCentre T (nI (a + 1) - 1) = 1 ∧ (nI (a + 1) - 1).toInt = a := by
  have e : (nI (a + 1) - 1).toInt = a := by
    have : (1 : Int32).toInt = 1 := rfl
    have q : (nI (a + 1)).toInt = (a + 1 : Nat) := nI_toInt (by omega)
    rw [tsub (by omega) (by omega)]
    omega
  refine ⟨?_, e⟩
  unfold v_X1_hasCentre
  rw [if_neg (by rw [tlt, e, show (0 : Int32).toInt = 0 from rfl]; omega), if_neg (by rw [tle, e]; omega)]
theorem hC1 {T : tT} : v_X1_hasCentre T (0 - 1) = 0 := by
  unfold v_X1_hasCentre
  rw [if_pos (by decide)]
theorem l_saved {sz : Nat} {T : tT} (hC : ICi T) {E : Nat} (hE : (T.1 79 1).toInt = E) (E5 : E ≤ 5) {p q : Int32} (hp : okp T E p) (hq : okp T E q) : ∀ (r n k : Nat) (acc : Int64) (v : Int32), v.toInt = k → k + r = E → r < n → acc.toInt = sg k (stm T p q) → (vl_X7_savedBetween n T p q acc v).toInt = svv T E p q ∧ okl_X7_savedBetween n sz T p q acc v := by
  intro r
  induction r with
  | zero =>
    intro n k acc v hv hk hn ha
    obtain ⟨n, rfl⟩ : ∃ n', n = n' + 1 := ⟨n - 1, by omega⟩
    have cc : T.1 79 1 ≤ v := by rw [tle]; omega
    rw [vl_X7_savedBetween_s, if_pos cc]
    simp only [okl_X7_savedBetween]
    have kE : k = E := by omega
    subst kE
    have b := sg_bd (f := stm T p q) (a := -600) (b := 1200) k (fun x _ => stm_rg hC p q x)
    refine ⟨?_, fun _ => trivial, fun w => absurd cc w⟩
    rw [sh27_i (by omega) (by omega), ha]
    rfl
  | succ r ih =>
    intro n k acc v hv hk hn ha
    obtain ⟨n, rfl⟩ : ∃ n', n = n' + 1 := ⟨n - 1, by omega⟩
    have cc : ¬ T.1 79 1 ≤ v := by rw [tle]; omega
    have st : (v + 1).toInt = (k + 1 : Nat) := by rw [tinc' (by omega)]; omega
    have v5 : vp_in v 5 := by rw [vp_in_iff]; omega
    have ep : v_X7_placeOf T p v = pof p k := by rw [nI_self hv (by omega)]; rfl
    have eq : v_X7_placeOf T q v = pof q k := by rw [nI_self hv (by omega)]; rfl
    have sk : sg (k + 1) (stm T p q) = sg k (stm T p q) + stm T p q k := rfl
    rw [vl_X7_savedBetween_s, if_neg cc]
    simp only [okl_X7_savedBetween]
    rw [ep, eq, tnN hv]
    have skip : stm T p q k = 0 → (vl_X7_savedBetween n T p q acc (v + 1)).toInt = svv T E p q ∧ okl_X7_savedBetween n sz T p q acc (v + 1) := fun z => ih n (k + 1) acc (v + 1) st (by omega) (by omega) (by rw [sk, z, ha]; omega)
    rcases hp k (by omega) with p0 | ⟨a, a1, a2, a3⟩
    · obtain ⟨u1, u2⟩ := skip (by unfold stm; rw [if_pos (Or.inl p0)])
      rw [p0, if_pos hC1]
      exact ⟨u1, fun w => absurd w cc, fun _ => ⟨fun _ => u2, fun w => absurd hC1 w⟩⟩
    · obtain ⟨c1, c2⟩ := hC0 a1 a2
      rw [a3, if_neg (by rw [c1]; decide)]
      rcases hq k (by omega) with q0 | ⟨b, b1, b2, b3⟩
      · obtain ⟨u1, u2⟩ := skip (by unfold stm; rw [if_pos (Or.inr q0)])
        rw [q0, if_pos hC1]
        exact ⟨u1, fun w => absurd w cc, fun _ => ⟨fun w => absurd w (by rw [c1]; decide), fun _ => ⟨fun _ => u2, fun w => absurd hC1 w⟩⟩⟩
      · obtain ⟨d1, d2⟩ := hC0 b1 b2
        rw [b3, if_neg (by rw [d1]; decide)]
        obtain ⟨hh, hh8⟩ := hm_lt hC k
        obtain ⟨m1, o1⟩ := mB (sz := sz) (T := T) c2 hh a2 hh8
        obtain ⟨m2, o2⟩ := mB (sz := sz) (T := T) hh d2 hh8 b2
        obtain ⟨m3, o3⟩ := mB (sz := sz) (T := T) c2 d2 a2 b2
        have g1 := wy_rg hC a (hm T k)
        have g2 := wy_rg hC (hm T k) b
        have g3 := wy_rg hC a b
        have na : nI (a + 1) ≠ 0 := fun w => by rw [teq, nI_toInt (by omega), show (0 : Int32).toInt = 0 from rfl] at w; omega
        have nb : nI (b + 1) ≠ 0 := fun w => by rw [teq, nI_toInt (by omega), show (0 : Int32).toInt = 0 from rfl] at w; omega
        have es : stm T p q k = wy T a (hm T k) + wy T (hm T k) b - wy T a b := by
          unfold stm
          rw [a3, b3, if_neg (fun w => w.elim na nb), tnN (nI_toInt (n := a + 1) (by omega)), tnN (nI_toInt (n := b + 1) (by omega)), Nat.add_sub_cancel, Nat.add_sub_cancel]
        have s1 : (v_X1_minutesBetween T (nI (a + 1) - 1) (T.1 80 k) + v_X1_minutesBetween T (T.1 80 k) (nI (b + 1) - 1)).toInt = wy T a (hm T k) + wy T (hm T k) b := by rw [tadd (by omega) (by omega), m1, m2]
        have s2 : (v_X1_minutesBetween T (nI (a + 1) - 1) (T.1 80 k) + v_X1_minutesBetween T (T.1 80 k) (nI (b + 1) - 1) - v_X1_minutesBetween T (nI (a + 1) - 1) (nI (b + 1) - 1)).toInt = stm T p q k := by rw [tsub (by rw [s1, m3]; omega) (by rw [s1, m3]; omega), s1, m3, es]
        have bd := sg_bd (f := stm T p q) (a := -600) (b := 1200) k (fun x _ => stm_rg hC p q x)
        have bk := stm_rg hC p q k
        obtain ⟨u1, u2⟩ := ih n (k + 1) (acc + (v_X1_minutesBetween T (nI (a + 1) - 1) (T.1 80 k) + v_X1_minutesBetween T (T.1 80 k) (nI (b + 1) - 1) - v_X1_minutesBetween T (nI (a + 1) - 1) (nI (b + 1) - 1)).toInt64) (v + 1) st (by omega) (by omega) (by
          rw [tadd6 (by rw [Int32.toInt_toInt64, s2]; omega) (by rw [Int32.toInt_toInt64, s2]; omega), Int32.toInt_toInt64, s2, ha, sk])
        exact ⟨u1, fun w => absurd w cc, fun _ => ⟨fun w => absurd w (by rw [c1]; decide), fun _ => ⟨fun w => absurd w (by rw [d1]; decide), fun _ => ⟨v5, o1, o2, o3, u2⟩⟩⟩⟩
theorem e_saved {sz : Nat} {T : tT} (hC : ICi T) {E : Nat} (hE : (T.1 79 1).toInt = E) (E5 : E ≤ 5) {p q : Int32} (hp : okp T E p) (hq : okp T E q) : (v_X7_savedBetween T p q).toInt = svv T E p q ∧ ok_X7_savedBetween sz T p q := l_saved hC hE E5 hp hq E fu 0 0 0 rfl (by omega) (by rw [fu_eq]; omega) rfl
theorem e_cost {sz : Nat} {T : tT} (hC : ICi T) {x s : Nat} (hx : x < 5) (hs : s < 9) : (v_X7_costOf T (nI x) (nI s)).toInt = kst T x s ∧ 0 ≤ kst T x s ∧ kst T x s ≤ 200000000000 ∧ ok_X7_costOf sz T (nI x) (nI s) := by
  have ex : (nI x).toInt = x := nI_toInt (by omega)
  have es : (nI s).toInt = s := nI_toInt (by omega)
  obtain ⟨h1, h2⟩ := hm_lt hC x
  obtain ⟨p1, p2⟩ := pl_lt hC s
  obtain ⟨m1, o1⟩ := mB (sz := sz) (T := T) h1 p1 h2 p2
  have g := wy_rg hC (hm T x) (pl T s)
  have cd : ∀ x ∈ List.range 5, ∀ s ∈ List.range 9, ((nI x).toInt64 <<< (((3 : Int32) * ((8 : Int32) - nI s)).toInt64 &&& 63)).toInt = (x : Int) * 8 ^ (8 - s) ∧ (x : Int) * 8 ^ (8 - s) ≤ 100000000 := by decide
  obtain ⟨c1, c2⟩ := cd x (List.mem_range.mpr hx) s (List.mem_range.mpr hs)
  have c3 : (0 : Int) ≤ (x : Int) * 8 ^ (8 - s) := Int.mul_nonneg (by omega) (Int.le_of_lt (p8_pos s))
  have z : (2 : Int64).toInt = 2 := rfl
  have d1 : ((2 : Int64) * (v_X1_minutesBetween T (T.1 80 x) (T.1 82 s)).toInt64).toInt = 2 * wy T (hm T x) (pl T s) := by
    rw [tmul6 (by rw [z, Int32.toInt_toInt64, m1]; omega) (by rw [z, Int32.toInt_toInt64, m1]; omega), z, Int32.toInt_toInt64, m1]
  have d2 : (((2 : Int64) * (v_X1_minutesBetween T (T.1 80 x) (T.1 82 s)).toInt64) <<< ((27 : Int32).toInt64 &&& 63)).toInt = 134217728 * (2 * wy T (hm T x) (pl T s)) := by
    rw [sh27_i (by omega) (by omega), d1]
  have kd : kst T x s = 134217728 * (2 * wy T (hm T x) (pl T s)) + (x : Int) * 8 ^ (8 - s) := rfl
  refine ⟨?_, by rw [kd]; omega, by rw [kd]; omega, ?_⟩
  · unfold v_X7_costOf
    rw [tnN ex, tnN es, tadd6 (by rw [d2, c1]; omega) (by rw [d2, c1]; omega), d2, c1, kd]
  · unfold ok_X7_costOf
    rw [tnN ex, tnN es]
    exact ⟨by rw [vp_in_iff]; omega, by rw [vp_in_iff]; omega, o1, trivial⟩
/-- the planner's rows -/
def PL (T : tT) (a b e g : Nat) : Prop := T.2.2 85 5 = some a ∧ T.2.2 85 6 = some b ∧ T.2.2 85 7 = some e ∧ T.2.2 85 8 = some g ∧ ((a = 89 ∧ b = 90) ∨ (a = 90 ∧ b = 89)) ∧ ((e = 91 ∧ g = 92) ∨ (e = 92 ∧ g = 91))
theorem tar_w {sz a : Nat} (hsz : 161 ≤ sz) (h : a = 89 ∨ a = 90) : tar sz a 0 120 := by
  rcases h with rfl | rfl
  · exact ⟨by decide, by omega, rfl⟩
  · exact ⟨by decide, by omega, rfl⟩
theorem tar_o {sz a : Nat} (hsz : 161 ≤ sz) (h : a = 91 ∨ a = 92) : tar sz a 1 120 := by
  rcases h with rfl | rfl
  · exact ⟨by decide, by omega, rfl⟩
  · exact ⟨by decide, by omega, rfl⟩
theorem l_addS {sz : Nat} (hsz : 161 ≤ sz) {T : tT} (hC : ICi T) {E : Nat} (hE : (T.1 79 1).toInt = E) (E5 : E ≤ 5) {a b e g : Nat} (hP : PL T a b e g) {cB c0 : Nat} (hB : (T.1 85 4).toInt = cB) (B1 : cB ≤ 120) (h0 : (T.1 85 3).toInt = c0) (c1 : c0 < 120) {p : Int32} {c : Int64} (cr : -1000000000000000 ≤ c.toInt ∧ c.toInt ≤ 1000000000000000) (hp : okp T E p) (hb : ∀ j, j < cB → okp T E (T.1 b j) ∧ -1000000000000000 ≤ (T.2.1 g j).toInt ∧ (T.2.1 g j).toInt ≤ 1000000000000000) : ∀ (r n k : Nat) (best : Int64) (v : Int32), v.toInt = k → k + r = cB → r < n → isMn k (T.2.1 g) (fun j => svv T E (T.1 b j) p) best.toInt → (∃ B, isMn cB (T.2.1 g) (fun j => svv T E (T.1 b j) p) (B.toInt - c.toInt) ∧ vl_X7_addState n T p c best v = tI (tJ (tI T a c0 p) e c0 B) 85 3 (nI (c0 + 1))) ∧ okl_X7_addState n sz T p c best v := by
  obtain ⟨p1, p2, p3, p4, p5, p6⟩ := hP
  have ta : tar sz a 0 120 := tar_w hsz (by omega)
  have tb : tar sz b 0 120 := tar_w hsz (by omega)
  have te : tar sz e 1 120 := tar_o hsz (by omega)
  have tg : tar sz g 1 120 := tar_o hsz (by omega)
  intro r
  induction r with
  | zero =>
    intro n k best v hv hk hn hm
    obtain ⟨n, rfl⟩ : ∃ n', n = n' + 1 := ⟨n - 1, by omega⟩
    have cc : T.1 85 4 ≤ v := by rw [tle]; omega
    have i3 : vp_in (T.1 85 3) 120 := by rw [vp_in_iff]; omega
    have o3 : ∀ i w, (tI T a i w).1 85 3 = T.1 85 3 := fun i w => tI_off (fun q => by have := q.1; omega)
    have kc : k = cB := by omega
    subst kc
    have inc : T.1 85 3 + 1 = nI (c0 + 1) := by
      rw [teq, tinc' (by omega), nI_toInt (by omega), h0]
      omega
    rw [vl_X7_addState_s, if_pos cc]
    simp only [okl_X7_addState]
    rw [p1, p3]
    simp only [o3]
    rw [tnN h0, inc]
    refine ⟨⟨best + c, ?_, rfl⟩, fun _ => ⟨fun w => (by cases w), fun p1' w => ?_⟩, fun w => absurd cc w⟩
    · obtain ⟨⟨j, j1, j2⟩, j3⟩ := hm
      have w1 := hb j j1
      have w2 := svv_rg hC E5 (T.1 b j) p
      have j2' : best.toInt = (T.2.1 g j).toInt - svv T E (T.1 b j) p := j2
      rw [tadd6 (by omega) (by omega)]
      rw [show best.toInt + c.toInt - c.toInt = best.toInt by omega]
      exact ⟨⟨j, j1, j2⟩, j3⟩
    · cases w
      refine ⟨ta, i3, fun w => (by cases w), fun p2' w => ?_⟩
      cases w
      exact ⟨te, by rw [o3]; exact i3⟩
  | succ r ih =>
    intro n k best v hv hk hn hm
    obtain ⟨n, rfl⟩ : ∃ n', n = n' + 1 := ⟨n - 1, by omega⟩
    have cc : ¬ T.1 85 4 ≤ v := by rw [tle]; omega
    have v1 : vp_in v 120 := by rw [vp_in_iff]; omega
    have st : (v + 1).toInt = (k + 1 : Nat) := by rw [tinc' (by omega)]; omega
    obtain ⟨w0, w1⟩ := hb k (by omega)
    obtain ⟨s1, s2⟩ := e_saved (sz := sz) hC hE E5 w0 hp
    have w2 := svv_rg hC E5 (T.1 b k) p
    have d : (T.2.1 g k - v_X7_savedBetween T (T.1 b k) p).toInt = (T.2.1 g k).toInt - svv T E (T.1 b k) p := by rw [tsub6 (by omega) (by omega), s1]
    rw [vl_X7_addState_s, if_neg cc]
    simp only [okl_X7_addState]
    rw [p2, p4]
    simp only []
    rw [tnN hv]
    obtain ⟨⟨j, j1, j2⟩, j3⟩ := hm
    obtain ⟨u1, u2⟩ := ih n (k + 1) (if T.2.1 g k - v_X7_savedBetween T (T.1 b k) p < best then T.2.1 g k - v_X7_savedBetween T (T.1 b k) p else best) (v + 1) st (by omega) (by omega) (by
      by_cases q : T.2.1 g k - v_X7_savedBetween T (T.1 b k) p < best
      · rw [if_pos q, d]
        rw [Int64.lt_iff_toInt_lt, d] at q
        refine ⟨⟨k, by omega, rfl⟩, fun i hi => ?_⟩
        by_cases z : i = k
        · rw [z]; exact Int.le_refl _
        · have := j3 i (by omega)
          omega
      · rw [if_neg q]
        rw [Int64.lt_iff_toInt_lt, d] at q
        refine ⟨⟨j, by omega, j2⟩, fun i hi => ?_⟩
        by_cases z : i = k
        · rw [z]
          show best.toInt ≤ (T.2.1 g k).toInt - svv T E (T.1 b k) p
          omega
        · exact j3 i (by omega))
    refine ⟨u1, fun w => absurd w cc, fun _ => ⟨fun w => (by cases w), fun p3' w => ?_⟩⟩
    cases w
    refine ⟨tg, v1, fun w => (by cases w), fun p4' w => ?_⟩
    cases w
    exact ⟨tb, v1, s2, u2⟩
theorem e_addS {sz : Nat} (hsz : 161 ≤ sz) {T : tT} (hC : ICi T) {E : Nat} (hE : (T.1 79 1).toInt = E) (E5 : E ≤ 5) {a b e g : Nat} (hP : PL T a b e g) {cB c0 : Nat} (hB : (T.1 85 4).toInt = cB) (B0 : 0 < cB) (B1 : cB ≤ 120) (h0 : (T.1 85 3).toInt = c0) (c1 : c0 < 120) {p : Int32} {c : Int64} (cr : -1000000000000000 ≤ c.toInt ∧ c.toInt ≤ 1000000000000000) (hp : okp T E p) (hb : ∀ j, j < cB → okp T E (T.1 b j) ∧ -1000000000000000 ≤ (T.2.1 g j).toInt ∧ (T.2.1 g j).toInt ≤ 1000000000000000) : (∃ B, isMn cB (T.2.1 g) (fun j => svv T E (T.1 b j) p) (B.toInt - c.toInt) ∧ F_X7_addState T p c = tI (tJ (tI T a c0 p) e c0 B) 85 3 (nI (c0 + 1))) ∧ ok_X7_addState sz T p c := by
  have z0 : (0 : Int32).toInt = 0 := rfl
  have cc : ¬ T.1 85 4 ≤ 0 := by rw [tle]; omega
  have c2 : T.1 85 3 < 120 := by rw [tlt, show (120 : Int32).toInt = 120 from rfl]; omega
  have hP' := hP
  obtain ⟨p1, p2, p3, p4, p5, p6⟩ := hP
  have tb : tar sz b 0 120 := tar_w hsz (by omega)
  have tg : tar sz g 1 120 := tar_o hsz (by omega)
  have n0 : (0 : Int32).toNatClampNeg = 0 := rfl
  have i0 : vp_in (0 : Int32) 120 := by rw [vp_in_iff]; omega
  obtain ⟨w0, w1⟩ := hb 0 B0
  obtain ⟨s1, s2⟩ := e_saved (sz := sz) hC hE E5 w0 hp
  have w2 := svv_rg hC E5 (T.1 b 0) p
  have d : (T.2.1 g 0 - v_X7_savedBetween T (T.1 b 0) p).toInt = (T.2.1 g 0).toInt - svv T E (T.1 b 0) p := by rw [tsub6 (by omega) (by omega), s1]
  obtain ⟨u1, u2⟩ := l_addS hsz hC hE E5 hP' hB B1 h0 c1 cr hp hb (cB - 1) fu 1 (T.2.1 g 0 - v_X7_savedBetween T (T.1 b 0) p) 1 rfl (by omega) (by rw [fu_eq]; omega) ⟨⟨0, by omega, d⟩, fun j hj => by
    have : j = 0 := by omega
    subst this
    rw [d]
    exact Int.le_refl _⟩
  unfold F_X7_addState ok_X7_addState
  rw [if_neg cc, if_pos c2, p2, p4]
  simp only []
  rw [n0]
  refine ⟨u1, fun w => absurd w cc, fun _ => ⟨fun _ => ⟨fun w => (by cases w), fun p1' w => ?_⟩, fun w => absurd c2 w⟩⟩
  cases w
  refine ⟨tg, i0, fun w => (by cases w), fun p2' w => ?_⟩
  cases w
  exact ⟨tb, i0, s2, u2⟩
