/-! a text from its start: class's clear, reference's copy -/
theorem b8 (x : Int32) : x.toInt8.toInt32 &&& 255 = x &&& 255 := by
  apply Int32.toBitVec_inj.mp
  rw [Int32.toBitVec_and, Int32.toBitVec_and, Int8.toBitVec_toInt32, Int32.toBitVec_toInt8]
  apply BitVec.eq_of_getLsbD_eq
  intro i hi
  have h255 : ∀ i, i < 32 → ¬ i < 8 → (255 : Int32).toBitVec.getLsbD i = false := by decide
  rw [BitVec.getLsbD_and, BitVec.getLsbD_and]
  by_cases h : i < 8
  · simp only [BitVec.getLsbD_signExtend, h, hi, decide_true, Bool.true_and, if_true]
  · rw [h255 i hi h, Bool.and_false, Bool.and_false]
def clr (T : tT) (g : Nat) : Prop := T.1 g 0 = 0 ∧ T.1 g 1 = 0 ∧ T.1 g 2 = 0 ∧ T.1 g 3 = 0 ∧ T.1 g 4 = 0 ∧ T.1 g 5 = -1 ∧ T.1 g 6 = -1
def wc (p k _i : Nat) : Bool := decide (p + 3 ≤ k ∧ k < p + 59)
theorem clr3 {T : tT} {q : Nat} : clr (F_X3_clear T q) q ∧ (∀ k i, k ≠ q → (F_X3_clear T q).1 k i = T.1 k i) ∧ (F_X3_clear T q).2 = T.2 := by
  refine ⟨⟨?_, ?_, ?_, ?_, ?_, ?_, ?_⟩, fun k i hk => ?_, rfl⟩
  · unfold F_X3_clear; rw [tI_off (by omega), tI_off (by omega), tI_off (by omega), tI_off (by omega), tI_off (by omega), tI_off (by omega), tI_at]
  · unfold F_X3_clear; rw [tI_off (by omega), tI_off (by omega), tI_off (by omega), tI_off (by omega), tI_off (by omega), tI_at]
  · unfold F_X3_clear; rw [tI_off (by omega), tI_off (by omega), tI_off (by omega), tI_off (by omega), tI_at]
  · unfold F_X3_clear; rw [tI_off (by omega), tI_off (by omega), tI_off (by omega), tI_at]
  · unfold F_X3_clear; rw [tI_off (by omega), tI_off (by omega), tI_at]
  · unfold F_X3_clear; rw [tI_off (by omega), tI_at]
  · unfold F_X3_clear; rw [tI_at]
  · unfold F_X3_clear
    rw [tI_off (by omega), tI_off (by omega), tI_off (by omega), tI_off (by omega), tI_off (by omega), tI_off (by omega), tI_off (by omega)]
theorem cl_loop {sz p : Nat} (hts' : tsy sz p) : ∀ (r n k : Nat) (v : Int32) (T : tT), v.toInt = k → k + r = 8 → r < n → (∀ j, j < 8 → T.2.2 (p + 1) j = some (p + 3 + 7 * j)) → (∀ j, j < k → clr T (p + 3 + 7 * j)) → (∀ j, j < 8 → clr (vl_X8_clear n T p v) (p + 3 + 7 * j)) ∧ fr (wc p) T (vl_X8_clear n T p v) ∧ okl_X8_clear n sz T p v := by
  intro r
  induction r with
  | zero =>
    intro n k v T hv hk hn hr hc
    obtain ⟨n, rfl⟩ : ∃ n', n = n' + 1 := ⟨n - 1, by omega⟩
    have c : (8 : Int32) ≤ v := by rw [tle, hv, show (8 : Int32).toInt = 8 from rfl]; omega
    rw [vl_X8_clear_s, if_pos c]
    simp only [okl_X8_clear]
    exact ⟨fun j hj => hc j (by omega), fr_refl, fun _ => trivial, fun z => absurd c z⟩
  | succ r ih =>
    intro n k v T hv hk hn hr hc
    obtain ⟨n, rfl⟩ : ∃ n', n = n' + 1 := ⟨n - 1, by omega⟩
    have c : ¬ (8 : Int32) ≤ v := by rw [tle, hv, show (8 : Int32).toInt = 8 from rfl]; omega
    obtain ⟨c1, c2, c3⟩   := clr3 (T := T) (q := p + 3 + 7 * k)
    have rk := hr k (by omega)
    obtain ⟨i1, i2, i3⟩ := ih n (k + 1) (v + 1) (F_X3_clear T (p + 3 + 7 * k)) (by rw [tinc' (by omega)]; omega) (by omega) (by omega) (fun j hj => by rw [c3]; exact hr j hj) (fun j hj => by
      by_cases d : j = k
      · rw [d]
        exact c1
      · have := hc j (by omega)
        unfold clr at this ⊢
        rw [c2 _ _ (by omega), c2 _ _ (by omega), c2 _ _ (by omega), c2 _ _ (by omega), c2 _ _ (by omega), c2 _ _ (by omega), c2 _ _ (by omega)]
        exact this)
    rw [vl_X8_clear_s, if_neg c, tnN hv, rk]
    dsimp only
    simp only [okl_X8_clear]
    rw [tnN hv, rk]
    refine ⟨i1, fr_trans (fun a i ha => ⟨c2 a i (fun z => ?_), by rw [c3], by rw [c3]⟩) i2, fun z => absurd z c, fun _ => ⟨by rw [vp_in_iff]; omega, fun z => (by cases z), fun p1 h1 => ?_⟩⟩
    · have : ¬ (p + 3 ≤ a ∧ a < p + 59) := of_decide_eq_false ha
      omega
    · cases h1
      exact ⟨hts'.2.2.2.2.2 k (by omega), i3⟩
def w107 (k _i : Nat) : Bool := decide (k = 107)
def w110 (b k i : Nat) : Bool := decide (k = 110 ∧ i / 8 = b)
theorem cp_loop {sz N : Nat} {v1 : Int32} (N14 : N ≤ 1400) : ∀ (r n k : Nat) (v : Int32) (T : tT), v.toInt = k → k + r = N → (T.1 105 3).toInt = N → ∃ (T' : tT) (v' : Int32), v'.toInt = N ∧ (vl_X11_syllabus (n + r)).1 T v1 v = (vl_X11_syllabus n).1 T' v1 v' ∧ ((okl_X11_syllabus n).1 sz T' v1 v' → (okl_X11_syllabus (n + r)).1 sz T v1 v) ∧ fr w107 T T' ∧ (∀ i, k ≤ i → i < N → T'.1 107 i = (T.1 106 i).toInt8.toInt32) ∧ ∀ i, i < k → T'.1 107 i = T.1 107 i := by
  intro r
  induction r with
  | zero =>
    intro n k v T hv hk hN
    exact ⟨T, v, by omega, rfl, fun o => o, fr_refl, fun i h1 h2 => by omega, fun i _ => rfl⟩
  | succ r ih =>
    intro n k v T hv hk hN
    have c : ¬ T.1 105 3 ≤ v := by rw [tle]; omega
    obtain ⟨T', v', i1, i2, i3, i4, i5, i6⟩ := ih n (k + 1) (v + 1) (tI T 107 k (T.1 106 k).toInt8.toInt32) (by rw [tinc' (by omega)]; omega) (by omega) (by rw [tI_off (by omega)]; exact hN)
    refine ⟨T', v', i1, ?_, fun o => ?_, fr_trans (fr_I (decide_eq_true rfl) fr_refl) i4, fun i h1 h2 => ?_, fun i hi => ?_⟩
    · rw [show n + (r + 1) = n + r + 1 from rfl, vl_X11_syllabus_s0, if_neg c, tnN hv]
      exact i2
    · rw [show n + (r + 1) = n + r + 1 from rfl, okl_X11_syllabus_s0, tnN hv]
      exact ⟨fun z => absurd z c, fun _ => ⟨by rw [vp_in_iff]; omega, by rw [vp_in_iff]; omega, i3 o⟩⟩
    · by_cases d : i = k
      · rw [d, i6 k (by omega), tI_at]
      · rw [i5 i (by omega) h2, tI_off (by omega)]
    · rw [i6 i (by omega), tI_off (by omega)]
theorem tl_loop {sz b : Nat} {v1 : Int32} (hb : b < 5) : ∀ (r n k : Nat) (v : Int32) (T : tT), v.toInt = k → k + r = 8 → (T.1 105 12).toInt = b → ∃ (T' : tT) (v' : Int32), v'.toInt = (8 : Nat) ∧ (vl_X11_syllabus (n + r)).2.1 T v1 v = (vl_X11_syllabus n).2.1 T' v1 v' ∧ ((okl_X11_syllabus n).2.1 sz T' v1 v' → (okl_X11_syllabus (n + r)).2.1 sz T v1 v) ∧ fr (w110 b) T T' ∧ (∀ i, k ≤ i → i < 8 → T'.1 110 (8 * b + i) = 0) ∧ ∀ i, i < k → T'.1 110 (8 * b + i) = T.1 110 (8 * b + i) := by
  intro r
  induction r with
  | zero =>
    intro n k v T hv hk hN
    exact ⟨T, v, by omega, rfl, fun o => o, fr_refl, fun i h1 h2 => by omega, fun i _ => rfl⟩
  | succ r ih =>
    intro n k v T hv hk hN
    have c : ¬ (8 : Int32) ≤ v := by rw [tle, hv, show (8 : Int32).toInt = 8 from rfl]; omega
    have ix := tixM hN (by omega) hv (by omega)
    obtain ⟨T', v', i1, i2, i3, i4, i5, i6⟩ := ih n (k + 1) (v + 1) (tI T 110 (8 * b + k) (0 &&& 1)) (by rw [tinc' (by omega)]; omega) (by omega) (by rw [tI_off (by omega)]; exact hN)
    refine ⟨T', v', i1, ?_, fun o => ?_, fr_trans (fr_I (decide_eq_true ⟨rfl, by omega⟩) fr_refl) i4, fun i h1 h2 => ?_, fun i hi => ?_⟩
    · rw [show n + (r + 1) = n + r + 1 from rfl, vl_X11_syllabus_s1, if_neg c, tnN ix]
      exact i2
    · rw [show n + (r + 1) = n + r + 1 from rfl, okl_X11_syllabus_s1, tnN ix]
      exact ⟨fun z => absurd z c, fun _ => ⟨by rw [vp_in_iff, ix]; omega, i3 o⟩⟩
    · by_cases d : i = k
      · rw [d, i6 k (by omega), tI_at]
        decide
      · exact i5 i (by omega) h2
    · rw [i6 i (by omega), tI_off (by omega)]
