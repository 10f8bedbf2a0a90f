/-! tokens: the class's -/
def bC (T : tT) (i : Nat) : Int32 := T.1 5 i &&& 255
def isLt (c : Int32) : Prop := 97 ≤ c ∧ c ≤ 122
def isD (c : Int32) : Prop := 48 ≤ c ∧ c ≤ 57
def isB (c : Int32) : Prop := c = 32 ∨ c = 10
def isS (c : Int32) : Prop := c = 123 ∨ c = 125 ∨ c = 40 ∨ c = 41 ∨ c = 61 ∨ c = 44 ∨ c = 59 ∨ c = 60 ∨ c = 62 ∨ c = 43 ∨ c = 45
theorem x9L {T : tT} {c : Int32} : (v_X9_isLetter T c = 0 ↔ ¬ isLt c) := by unfold v_X9_isLetter isLt; grind
theorem x9D {T : tT} {c : Int32} : (v_X9_isDigit T c = 0 ↔ ¬ isD c) := by unfold v_X9_isDigit isD; grind
theorem x9B {T : tT} {c : Int32} : (v_X9_isBlank T c = 0 ↔ ¬ isB c) := by unfold v_X9_isBlank isB; grind
theorem x9LD {T : tT} {c : Int32} : (v_X9_isLetterOrDigit T c = 0 ↔ ¬ (isLt c ∨ isD c)) := by unfold v_X9_isLetterOrDigit isLt isD; grind
theorem x9S {T : tT} {c : Int32} : (v_X9_isSign T c = 0 ↔ ¬ isS c) := by
  unfold v_X9_isSign isS
  by_cases h0 : c = 123
  · rw [if_pos h0]
    simp [h0]
  rw [if_neg h0]
  by_cases h1 : c = 125
  · rw [if_pos h1]
    simp [h1]
  rw [if_neg h1]
  by_cases h2 : c = 40
  · rw [if_pos h2]
    simp [h2]
  rw [if_neg h2]
  by_cases h3 : c = 41
  · rw [if_pos h3]
    simp [h3]
  rw [if_neg h3]
  by_cases h4 : c = 61
  · rw [if_pos h4]
    simp [h4]
  rw [if_neg h4]
  by_cases h5 : c = 44
  · rw [if_pos h5]
    simp [h5]
  rw [if_neg h5]
  by_cases h6 : c = 59
  · rw [if_pos h6]
    simp [h6]
  rw [if_neg h6]
  by_cases h7 : c = 60
  · rw [if_pos h7]
    simp [h7]
  rw [if_neg h7]
  by_cases h8 : c = 62
  · rw [if_pos h8]
    simp [h8]
  rw [if_neg h8]
  by_cases h9 : c = 43
  · rw [if_pos h9]
    simp [h9]
  rw [if_neg h9]
  by_cases h10 : c = 45
  · rw [if_pos h10]
    simp [h10]
  rw [if_neg h10]
  simp [h0, h1, h2, h3, h4, h5, h6, h7, h8, h9, h10]
theorem x11L {T : tT} {c : Int32} : (v_X11_isLetter T c = 0 ↔ ¬ isLt c) := by unfold v_X11_isLetter isLt; grind
theorem x11D {T : tT} {c : Int32} : (v_X11_isDigit T c = 0 ↔ ¬ isD c) := by unfold v_X11_isDigit isD; grind
/-- a run of bytes of a kind, as far as it goes -/
def isRun (b : Nat → Int32) (P : Int32 → Prop) (N s e : Nat) : Prop := s ≤ e ∧ e ≤ N ∧ (∀ i, s ≤ i → i < e → P (b i)) ∧ (e = N ∨ ¬ P (b e))
theorem isRun_u {b b' : Nat → Int32} {P : Int32 → Prop} {N s e e' : Nat} (hb : ∀ i, i < N → b i = b' i) (h : isRun b P N s e) (h' : isRun b' P N s e') : e = e' := by
  obtain ⟨a1, a2, a3, a4⟩ := h
  obtain ⟨c1, c2, c3, c4⟩ := h'
  rcases Nat.lt_trichotomy e e' with q | q | q
  · exfalso
    rcases a4 with z | z
    · omega
    · exact z (by rw [hb e (by omega)]; exact c3 e a1 q)
  · exact q
  · exfalso
    rcases c4 with z | z
    · omega
    · exact z (by rw [← hb e' (by omega)]; exact a3 e' c1 q)
def wvn (b : Nat → Int32) (s : Nat) : Nat → Int64
  | 0 => 0
  | n + 1 => (wvn b s n <<< ((8 : Int32).toInt64 &&& 63)) ||| (b (s + n)).toInt64
def nvn (b : Nat → Int32) (s : Nat) : Nat → Int32
  | 0 => 0
  | n + 1 => nvn b s n * 10 + b (s + n) - 48
theorem wvn_cg {b b' : Nat → Int32} {s : Nat} : ∀ (n : Nat), (∀ i, s ≤ i → i < s + n → b i = b' i) → wvn b s n = wvn b' s n
  | 0, _ => rfl
  | n + 1, h => by
    unfold wvn
    rw [wvn_cg n (fun i i1 i2 => h i i1 (by omega)), h (s + n) (by omega) (by omega)]
theorem nvn_cg {b b' : Nat → Int32} {s : Nat} : ∀ (n : Nat), (∀ i, s ≤ i → i < s + n → b i = b' i) → nvn b s n = nvn b' s n
  | 0, _ => rfl
  | n + 1, h => by
    unfold nvn
    rw [nvn_cg n (fun i i1 i2 => h i i1 (by omega)), h (s + n) (by omega) (by omega)]
theorem nvn_rg {b : Nat → Int32} {s : Nat} : ∀ (n : Nat), n ≤ 6 → (∀ i, s ≤ i → i < s + n → isD (b i)) → 0 ≤ (nvn b s n).toInt ∧ (nvn b s n).toInt < (10 ^ n : Nat)
  | 0, _, _ => by
    unfold nvn
    decide
  | n + 1, hn, h => by
    obtain ⟨i1, i2⟩ := nvn_rg n (by omega) (fun i i1 i2 => h i i1 (by omega))
    obtain ⟨d1, d2⟩ := h (s + n) (by omega) (by omega)
    rw [tle] at d1 d2
    have z10 : (10 : Int32).toInt = 10 := rfl
    have z48 : (48 : Int32).toInt = 48 := rfl
    have z57 : (57 : Int32).toInt = 57 := rfl
    have p6 : 10 ^ n ≤ 10 ^ 5 := Nat.pow_le_pow_right (by decide) (by omega)
    have e5 : 10 ^ 5 = 100000 := rfl
    have m : (nvn b s n * 10).toInt = (nvn b s n).toInt * 10 := by rw [tmul (by rw [z10]; omega) (by rw [z10]; omega), z10]
    have a : (nvn b s n * 10 + b (s + n)).toInt = (nvn b s n).toInt * 10 + (b (s + n)).toInt := by rw [tadd (by omega) (by omega), m]
    have t : (nvn b s (n + 1)).toInt = (nvn b s n).toInt * 10 + (b (s + n)).toInt - 48 := by
      show (nvn b s n * 10 + b (s + n) - 48).toInt = _
      rw [tsub (by omega) (by omega), a]
      rfl
    rw [t, Nat.pow_succ]
    omega
/-- what a class's heap must hold for its tape to be read -/
def TE (N : Nat) (T : tT) : Prop := (T.1 4 1).toInt = N ∧ N ≤ 1400 ∧ ∀ i, i < 15 → T.2.1 1 i = kw i
theorem byA {sz : Nat} {T : tT} {N : Nat} (h : TE N T) {x : Int32} {k : Nat} (hx : x.toInt = k) (hk : k ≤ N) : v_X9_byteAt T x = (if k < N then bC T k else -1) ∧ ok_X9_byteAt sz T x := by
  obtain ⟨h1, h2, _⟩ := h
  have z0 : (0 : Int32).toInt = 0 := rfl
  have z14 : (1400 : Int32).toInt = 1400 := rfl
  have x0 : ¬ x < 0 := by rw [tlt]; omega
  unfold v_X9_byteAt ok_X9_byteAt bC
  rw [if_neg x0, tnN hx]
  by_cases c : k < N
  · have c1 : ¬ T.1 4 1 ≤ x := by rw [tle]; omega
    have c2 : ¬ (1400 : Int32) ≤ x := by rw [tle]; omega
    rw [if_neg c1, if_neg c2, if_pos c]
    exact ⟨rfl, fun w => absurd w x0, fun _ => ⟨fun w => absurd w c1, fun _ => ⟨fun w => absurd w c2, fun _ => by rw [vp_in_iff]; omega⟩⟩⟩
  · have c1 : T.1 4 1 ≤ x := by rw [tle]; omega
    rw [if_pos c1, if_neg c]
    exact ⟨rfl, fun w => absurd w x0, fun _ => ⟨fun _ => trivial, fun w => absurd c1 w⟩⟩
theorem bC_rg (T : tT) (i : Nat) : bC T i ≠ -1 ∧ 0 ≤ (bC T i).toInt ∧ (bC T i).toInt < 256 := by
  have e : (bC T i).toBitVec.toNat ≤ 255 := by
    unfold bC
    rw [Int32.toBitVec_and, BitVec.toNat_and]
    exact Nat.and_le_right
  have l : (bC T i).toBitVec.toInt = (bC T i).toBitVec.toNat := BitVec.toInt_eq_toNat_of_lt (by omega)
  have l' : (bC T i).toInt = (bC T i).toBitVec.toNat := l
  refine ⟨fun q => ?_, by omega, by omega⟩
  rw [q] at l' e
  exact absurd e (by decide)
theorem e_kind {sz : Nat} {T : tT} {N : Nat} (h : TE N T) (w : Int64) : ((∃ i, i < 15 ∧ kw i = w ∧ v_X9_kindOf T w = nI (200 + i)) ∨ ((∀ i, i < 15 → kw i ≠ w) ∧ v_X9_kindOf T w = 3)) ∧ ok_X9_kindOf sz T w := by
  have key : ∀ (r n k : Nat) (v : Int32), v.toInt = k → k + r = 15 → r < n → (∀ i, i < k → kw i ≠ w) → ((∃ i, i < 15 ∧ kw i = w ∧ vl_X9_kindOf n T w v = nI (200 + i)) ∨ ((∀ i, i < 15 → kw i ≠ w) ∧ vl_X9_kindOf n T w v = 3)) ∧ okl_X9_kindOf n sz T w v := by
    intro r
    induction r with
    | zero =>
      intro n k v hv hk hn hp
      obtain ⟨n, rfl⟩ : ∃ n', n = n' + 1 := ⟨n - 1, by omega⟩
      have cc : nI 15 ≤ v := by rw [tle, nI_toInt (by omega)]; omega
      rw [vl_X9_kindOf_s, if_pos cc]
      simp only [okl_X9_kindOf]
      exact ⟨Or.inr ⟨fun i hi => hp i (by omega), trivial⟩, fun _ => trivial, fun q => absurd cc q⟩
    | succ r ih =>
      intro n k v hv hk hn hp
      obtain ⟨n, rfl⟩ : ∃ n', n = n' + 1 := ⟨n - 1, by omega⟩
      have cc : ¬ nI 15 ≤ v := by rw [tle, nI_toInt (by omega)]; omega
      have v15 : vp_in v 15 := by rw [vp_in_iff]; omega
      have st : (v + 1).toInt = (k + 1 : Nat) := by rw [tinc' (by omega)]; omega
      rw [vl_X9_kindOf_s, if_neg cc]
      simp only [okl_X9_kindOf]
      rw [tnN hv, h.2.2 k (by omega)]
      by_cases q : kw k = w
      · rw [if_pos q]
        refine ⟨Or.inl ⟨k, by omega, q, ?_⟩, fun z => absurd z cc, fun _ => ⟨v15, fun z => absurd q z, fun _ => trivial⟩⟩
        rw [teq, tadd (by rw [show (200 : Int32).toInt = 200 from rfl]; omega) (by rw [show (200 : Int32).toInt = 200 from rfl]; omega), nI_toInt (by omega), show (200 : Int32).toInt = 200 from rfl]
        omega
      · rw [if_neg q]
        obtain ⟨u1, u2⟩ := ih n (k + 1) (v + 1) st (by omega) (by omega) (fun i hi => by
          by_cases z : i = k
          · rw [z]; exact q
          · exact hp i (by omega))
        exact ⟨u1, fun z => absurd z cc, fun _ => ⟨v15, fun _ => u2, fun z => absurd z q⟩⟩
  exact key 15 fu 0 0 rfl (by omega) (by rw [fu_eq]; omega) (fun i hi => absurd hi (Nat.not_lt_zero _))
/-- a word has been read -/
theorem l_word {sz : Nat} {N s : Nat} {T0 : tT} : ∀ (r n k : Nat) (T : tT), TE N T → T.1 5 = T0.1 5 → (T.1 4 3).toInt = s → (T.1 4 6).toInt = k → s ≤ k → k + r = N → r < n → (∀ i, s ≤ i → i < k → isLt (bC T0 i) ∨ isD (bC T0 i)) → T.2.1 4 5 = wvn (bC T0) s (k - s) → (∃ e, isRun (bC T0) (fun c => isLt c ∨ isD c) N s e ∧ fr (wl [] [(4, 2), (4, 5), (4, 6)]) T (vl_X9_readWord n T) ∧ ((vl_X9_readWord n T).1 4 6).toInt = e ∧ ((e - s ≤ 8 ∧ ((∃ i, i < 15 ∧ kw i = wvn (bC T0) s (e - s) ∧ (vl_X9_readWord n T).1 4 2 = nI (200 + i)) ∨ ((∀ i, i < 15 → kw i ≠ wvn (bC T0) s (e - s)) ∧ (vl_X9_readWord n T).1 4 2 = 3 ∧ (vl_X9_readWord n T).2.1 4 5 = wvn (bC T0) s (e - s)))) ∨ (8 < e - s ∧ (vl_X9_readWord n T).1 4 2 = 1))) ∧ okl_X9_readWord n sz T := by
  intro r
  have z8 : (8 : Int32).toInt = 8 := rfl
  have fin : ∀ (k : Nat) (T : tT), TE N T → (T.1 4 3).toInt = s → (T.1 4 6).toInt = k → s ≤ k → k ≤ N → (∀ i, s ≤ i → i < k → isLt (bC T0 i) ∨ isD (bC T0 i)) → (k = N ∨ ¬ (isLt (bC T0 k) ∨ isD (bC T0 k))) → T.2.1 4 5 = wvn (bC T0) s (k - s) → (∀ T', T' = (if T.1 4 6 - T.1 4 3 ≤ 8 then tI T 4 2 (v_X9_kindOf T (T.2.1 4 5)) else tI T 4 2 1) → ∃ e, isRun (bC T0) (fun c => isLt c ∨ isD c) N s e ∧ fr (wl [] [(4, 2), (4, 5), (4, 6)]) T T' ∧ (T'.1 4 6).toInt = e ∧ ((e - s ≤ 8 ∧ ((∃ i, i < 15 ∧ kw i = wvn (bC T0) s (e - s) ∧ T'.1 4 2 = nI (200 + i)) ∨ ((∀ i, i < 15 → kw i ≠ wvn (bC T0) s (e - s)) ∧ T'.1 4 2 = 3 ∧ T'.2.1 4 5 = wvn (bC T0) s (e - s)))) ∨ (8 < e - s ∧ T'.1 4 2 = 1))) ∧ ok_X9_kindOf sz T (T.2.1 4 5) := by
    intro k T hT hs hk sk kN hp he hw
    obtain ⟨hN, N14, hkw⟩ := hT
    obtain ⟨d1, d2⟩ := e_kind (sz := sz) (N := N) (T := T) ⟨hN, N14, hkw⟩ (T.2.1 4 5)
    refine ⟨fun T' hT' => ⟨k, ⟨sk, kN, hp, he⟩, ?_⟩, d2⟩
    have df : (T.1 4 6 - T.1 4 3).toInt = (k : Int) - s := by rw [tsub (by omega) (by omega), hk, hs]
    by_cases c : T.1 4 6 - T.1 4 3 ≤ 8
    · rw [if_pos c] at hT'
      subst hT'
      rw [tle, df, z8] at c
      refine ⟨fr_I rfl fr_refl, ?_, Or.inl ⟨by omega, ?_⟩⟩
      · rw [tI_off (fun q => by have := q.2; omega)]
        exact hk
      · rw [tI_at]
        rw [hw] at d1
        rcases d1 with ⟨i, i1, i2, i3⟩ | ⟨i1, i2⟩
        · exact Or.inl ⟨i, i1, i2, by rw [hw]; exact i3⟩
        · exact Or.inr ⟨i1, by rw [hw]; exact i2, hw⟩
    · rw [if_neg c] at hT'
      subst hT'
      rw [tle, df, z8] at c
      refine ⟨fr_I rfl fr_refl, ?_, Or.inr ⟨by omega, tI_at⟩⟩
      rw [tI_off (fun q => by have := q.2; omega)]
      exact hk
  induction r with
  | zero =>
    intro n k T hT h5 hs hk sk kr hn hp hw
    obtain ⟨n, rfl⟩ : ∃ n', n = n' + 1 := ⟨n - 1, by omega⟩
    have hT' := hT
    obtain ⟨hN, N14, hkw⟩ := hT
    have cc : T.1 4 1 ≤ T.1 4 6 := by rw [tle]; omega
    obtain ⟨f1, f2⟩ := fin k T hT' hs hk sk (by omega) hp (Or.inl (by omega)) hw
    rw [vl_X9_readWord_s, if_pos cc]
    simp only [okl_X9_readWord]
    exact ⟨f1 _ rfl, fun _ => ⟨fun _ => ⟨f2, trivial⟩, fun _ => trivial⟩, fun q => absurd cc q⟩
  | succ r ih =>
    intro n k T hT h5 hs hk sk kr hn hp hw
    obtain ⟨n, rfl⟩ : ∃ n', n = n' + 1 := ⟨n - 1, by omega⟩
    have hT' := hT
    obtain ⟨hN, N14, hkw⟩ := hT
    have cc : ¬ T.1 4 1 ≤ T.1 4 6 := by rw [tle]; omega
    obtain ⟨b1, b2⟩ := byA (sz := sz) hT' hk (by omega)
    rw [if_pos (show k < N by omega)] at b1
    have bt : bC T k = bC T0 k := by unfold bC; rw [h5]
    rw [bt] at b1
    have z : ∀ w, v_X9_isLetterOrDigit T w = 0 ↔ ¬ (isLt w ∨ isD w) := fun w => x9LD
    by_cases q : isLt (bC T0 k) ∨ isD (bC T0 k)
    · have q0 : ¬ v_X9_isLetterOrDigit T (bC T0 k) = 0 := fun w => (z _).mp w q
      rw [vl_X9_readWord_s, if_neg cc, b1, if_neg q0]
      simp only [okl_X9_readWord]
      rw [b1]
      have st : (T.1 4 6 + 1).toInt = (k + 1 : Nat) := by rw [tinc' (by omega)]; omega
      obtain ⟨⟨e, u1, u2, u3, u4⟩, u5⟩ := ih n (k + 1) (tI (tJ T 4 5 ((T.2.1 4 5 <<< ((8 : Int32).toInt64 &&& 63)) ||| (bC T0 k).toInt64)) 4 6 (T.1 4 6 + 1)) ⟨by rw [tI_off (fun w => by have := w.2; omega)]; exact hN, N14, fun i hi => by
        show (tJ T 4 5 _).2.1 1 i = kw i
        rw [tJ_off (fun w => by have := w.1; omega)]
        exact hkw i hi⟩ (by
        funext i
        rw [tI_off (fun w => by have := w.1; omega)]
        exact congrFun h5 i) (by rw [tI_off (fun w => by have := w.2; omega)]; exact hs) (by rw [tI_at]; exact st) (by omega) (by omega) (by omega) (fun i i1 i2 => by
        by_cases y : i = k
        · rw [y]; exact q
        · exact hp i i1 (by omega)) (by
        show (tJ T 4 5 _).2.1 4 5 = _
        rw [tJ_at, hw, show k + 1 - s = (k - s) + 1 by omega]
        show _ = (wvn (bC T0) s (k - s) <<< _) ||| (bC T0 (s + (k - s))).toInt64
        rw [show s + (k - s) = k by omega])
      exact ⟨⟨e, u1, fr_trans (fr_I rfl (fr_J rfl fr_refl)) u2, u3, u4⟩, fun w => absurd w cc, fun _ => ⟨b2, fun w => absurd w q0, fun _ => ⟨b2, u5⟩⟩⟩
    · have q0 : v_X9_isLetterOrDigit T (bC T0 k) = 0 := (z _).mpr q
      obtain ⟨f1, f2⟩ := fin k T hT' hs hk sk (by omega) hp (Or.inr q) hw
      rw [vl_X9_readWord_s, if_neg cc, b1, if_pos q0]
      simp only [okl_X9_readWord]
      rw [b1]
      exact ⟨f1 _ rfl, fun w => absurd w cc, fun _ => ⟨b2, fun _ => ⟨fun _ => ⟨f2, trivial⟩, fun _ => trivial⟩, fun w => absurd q0 w⟩⟩
/-- a number has been read -/
theorem l_num {sz : Nat} {N s : Nat} {T0 : tT} : ∀ (r n k : Nat) (T : tT), TE N T → T.1 5 = T0.1 5 → (T.1 4 3).toInt = s → (T.1 4 6).toInt = k → s ≤ k → k + r = N → r < n → (∀ i, s ≤ i → i < k → isD (bC T0 i)) → T.1 4 4 = nvn (bC T0) s (k - s) → (∃ e, isRun (bC T0) isD N s e ∧ fr (wl [] [(4, 2), (4, 4), (4, 6)]) T (vl_X9_readNumber n T) ∧ ((vl_X9_readNumber n T).1 4 6).toInt = e ∧ ((e - s ≤ 6 ∧ (e = N ∨ ¬ isLt (bC T0 e)) ∧ (vl_X9_readNumber n T).1 4 2 = 2 ∧ (vl_X9_readNumber n T).1 4 4 = nvn (bC T0) s (e - s)) ∨ ((6 < e - s ∨ (e < N ∧ isLt (bC T0 e))) ∧ (vl_X9_readNumber n T).1 4 2 = 1))) ∧ okl_X9_readNumber n sz T := by
  intro r
  have z6 : (6 : Int32).toInt = 6 := rfl
  have fin : ∀ (k : Nat) (T : tT), TE N T → T.1 5 = T0.1 5 → (T.1 4 3).toInt = s → (T.1 4 6).toInt = k → s ≤ k → k ≤ N → (∀ i, s ≤ i → i < k → isD (bC T0 i)) → (k = N ∨ ¬ isD (bC T0 k)) → T.1 4 4 = nvn (bC T0) s (k - s) → ∀ T', T' = (if (6 : Int32) < T.1 4 6 - T.1 4 3 then tI T 4 2 1 else (if v_X9_isLetter T (v_X9_byteAt T (T.1 4 6)) = 0 then tI T 4 2 2 else tI T 4 2 1)) → ∃ e, isRun (bC T0) isD N s e ∧ fr (wl [] [(4, 2), (4, 4), (4, 6)]) T T' ∧ (T'.1 4 6).toInt = e ∧ ((e - s ≤ 6 ∧ (e = N ∨ ¬ isLt (bC T0 e)) ∧ T'.1 4 2 = 2 ∧ T'.1 4 4 = nvn (bC T0) s (e - s)) ∨ ((6 < e - s ∨ (e < N ∧ isLt (bC T0 e))) ∧ T'.1 4 2 = 1)) := by
    intro k T hT h5 hs hk sk kN hp he hw T' hT'
    obtain ⟨b1, b2⟩ := byA (sz := sz) hT hk kN
    obtain ⟨hN, N14, hkw⟩ := hT
    have bt : bC T k = bC T0 k := by unfold bC; rw [h5]
    refine ⟨k, ⟨sk, kN, hp, he⟩, ?_⟩
    have df : (T.1 4 6 - T.1 4 3).toInt = (k : Int) - s := by rw [tsub (by omega) (by omega), hk, hs]
    by_cases c : (6 : Int32) < T.1 4 6 - T.1 4 3
    · rw [if_pos c] at hT'
      subst hT'
      rw [tlt, df, z6] at c
      refine ⟨fr_I rfl fr_refl, ?_, Or.inr ⟨Or.inl (by omega), tI_at⟩⟩
      rw [tI_off (fun q => by have := q.2; omega)]
      exact hk
    · rw [if_neg c] at hT'
      rw [tlt, df, z6] at c
      by_cases q : k < N ∧ isLt (bC T0 k)
      · rw [if_pos q.1, bt] at b1
        rw [b1, if_neg (fun w => x9L.mp w q.2)] at hT'
        subst hT'
        refine ⟨fr_I rfl fr_refl, ?_, Or.inr ⟨Or.inr q, tI_at⟩⟩
        rw [tI_off (fun q => by have := q.2; omega)]
        exact hk
      · have nl : v_X9_isLetter T (v_X9_byteAt T (T.1 4 6)) = 0 := by
          rw [x9L, b1]
          by_cases y : k < N
          · rw [if_pos y, bt]
            exact fun w => q ⟨y, w⟩
          · rw [if_neg y]
            unfold isLt
            decide
        rw [if_pos nl] at hT'
        subst hT'
        refine ⟨fr_I rfl fr_refl, ?_, Or.inl ⟨by omega, ?_, tI_at, ?_⟩⟩
        · rw [tI_off (fun q => by have := q.2; omega)]
          exact hk
        · by_cases y : k = N
          · exact Or.inl y
          · exact Or.inr (fun w => q ⟨by omega, w⟩)
        · rw [tI_off (fun q => by have := q.2; omega)]
          exact hw
  induction r with
  | zero =>
    intro n k T hT h5 hs hk sk kr hn hp hw
    obtain ⟨n, rfl⟩ : ∃ n', n = n' + 1 := ⟨n - 1, by omega⟩
    have hT' := hT
    obtain ⟨hN, N14, hkw⟩ := hT
    have cc : T.1 4 1 ≤ T.1 4 6 := by rw [tle]; omega
    have f1 := fin k T hT' h5 hs hk sk (by omega) hp (Or.inl (by omega)) hw
    obtain ⟨b1, b2⟩ := byA (sz := sz) hT' hk (by omega)
    rw [vl_X9_readNumber_s, if_pos cc]
    simp only [okl_X9_readNumber]
    exact ⟨f1 _ rfl, fun _ => ⟨fun _ => trivial, fun _ => ⟨b2, trivial⟩⟩, fun q => absurd cc q⟩
  | succ r ih =>
    intro n k T hT h5 hs hk sk kr hn hp hw
    obtain ⟨n, rfl⟩ : ∃ n', n = n' + 1 := ⟨n - 1, by omega⟩
    have hT' := hT
    obtain ⟨hN, N14, hkw⟩ := hT
    have cc : ¬ T.1 4 1 ≤ T.1 4 6 := by rw [tle]; omega
    obtain ⟨b1, b2⟩ := byA (sz := sz) hT' hk (by omega)
    rw [if_pos (show k < N by omega)] at b1
    have bt : bC T k = bC T0 k := by unfold bC; rw [h5]
    rw [bt] at b1
    by_cases q : isD (bC T0 k)
    · have q0 : ¬ v_X9_isDigit T (v_X9_byteAt T (T.1 4 6)) = 0 := fun w => by rw [b1] at w; exact x9D.mp w q
      rw [vl_X9_readNumber_s, if_neg cc, if_neg q0]
      simp only [okl_X9_readNumber]
      have st : (T.1 4 6 + 1).toInt = (k + 1 : Nat) := by rw [tinc' (by omega)]; omega
      obtain ⟨⟨e, u1, u2, u3, u4⟩, u5⟩ := ih n (k + 1) (tI (tI T 4 4 (T.1 4 4 * 10 + v_X9_byteAt T (T.1 4 6) - 48)) 4 6 (T.1 4 6 + 1)) ⟨by rw [tI_off (fun w => by have := w.2; omega), tI_off (fun w => by have := w.2; omega)]; exact hN, N14, hkw⟩ (by
        funext i
        rw [tI_off (fun w => by have := w.1; omega), tI_off (fun w => by have := w.1; omega)]
        exact congrFun h5 i) (by rw [tI_off (fun w => by have := w.2; omega), tI_off (fun w => by have := w.2; omega)]; exact hs) (by rw [tI_at]; exact st) (by omega) (by omega) (by omega) (fun i i1 i2 => by
        by_cases y : i = k
        · rw [y]; exact q
        · exact hp i i1 (by omega)) (by
        rw [tI_off (fun w => by have := w.2; omega), tI_at, hw, b1, show k + 1 - s = (k - s) + 1 by omega]
        show _ = nvn (bC T0) s (k - s) * 10 + bC T0 (s + (k - s)) - 48
        rw [show s + (k - s) = k by omega])
      exact ⟨⟨e, u1, fr_trans (fr_I rfl (fr_I rfl fr_refl)) u2, u3, u4⟩, fun w => absurd w cc, fun _ => ⟨b2, fun w => absurd w q0, fun _ => ⟨b2, u5⟩⟩⟩
    · have q0 : v_X9_isDigit T (v_X9_byteAt T (T.1 4 6)) = 0 := by rw [b1]; exact x9D.mpr q
      have f1 := fin k T hT' h5 hs hk sk (by omega) hp (Or.inr q) hw
      rw [vl_X9_readNumber_s, if_neg cc, if_pos q0]
      simp only [okl_X9_readNumber]
      exact ⟨f1 _ rfl, fun w => absurd w cc, fun _ => ⟨b2, fun _ => ⟨fun _ => trivial, fun _ => ⟨b2, trivial⟩⟩, fun w => absurd q0 w⟩⟩
