/-! pieces of entries -/
theorem by_bits (x : BitVec 64) (s : Nat) (hs : s ≤ 56) : (BitVec.setWidth 32 (x >>> s)) &&& 255#32 = BitVec.setWidth 32 ((x.sshiftRight s) &&& 255#64) := by
  apply BitVec.eq_of_getLsbD_eq
  intro i hi
  have m32 : (255#32).getLsbD i = decide (i < 8) := by
    by_cases c : i < 8
    · have : i = 0 ∨ i = 1 ∨ i = 2 ∨ i = 3 ∨ i = 4 ∨ i = 5 ∨ i = 6 ∨ i = 7 := by omega
      rcases this with h | h | h | h | h | h | h | h <;> subst h <;> rfl
    · rw [decide_eq_false c]
      have e : (255#32) = BitVec.setWidth 32 (BitVec.allOnes 8) := by decide
      rw [e, BitVec.getLsbD_setWidth, BitVec.getLsbD_allOnes, decide_eq_false c, Bool.and_false]
  have m64 : (255#64).getLsbD i = decide (i < 8) := by
    have e : (255#64) = BitVec.setWidth 64 (BitVec.allOnes 8) := by decide
    rw [e, BitVec.getLsbD_setWidth, BitVec.getLsbD_allOnes, decide_eq_true (by omega : i < 64), Bool.true_and]
  rw [BitVec.getLsbD_and, BitVec.getLsbD_setWidth, BitVec.getLsbD_setWidth, BitVec.getLsbD_and, m32, m64, BitVec.getLsbD_ushiftRight, BitVec.getLsbD_sshiftRight]
  by_cases c : i < 8
  · rw [if_pos (by omega : s + i < 64), decide_eq_true hi, decide_eq_false (by omega : ¬ 64 ≤ i)]
    simp
  · rw [decide_eq_false c]
    simp
theorem sh_a : ∀ n ∈ List.range 57, ((Int64.ofNat n).toBitVec.smod 64).toNat = n := by decide
theorem sh_b : ∀ n ∈ List.range 57, ((UInt64.ofNat n).toBitVec % 64).toNat = n := by decide
def cby (v : Int64) (s : Int32) : Int32 := ((v.toUInt64 >>> (s.toInt64.toUInt64 &&& Int64.toUInt64 63)).toInt64).toInt32 &&& (255 : Int32)
def rby (v : Int64) (s : Int32) : Int32 := ((v >>> (s.toInt64 &&& 63)) &&& (255 : Int64)).toInt32
theorem cby_eq (v : Int64) (s : Int32) (h : s = 56 ∨ s = 48 ∨ s = 40 ∨ s = 32 ∨ s = 24 ∨ s = 16 ∨ s = 8 ∨ s = 0) : cby v s = rby v s := by
  apply Int32.toBitVec_inj.mp
  have k : ∀ n : Nat, n ≤ 56 → ((v.toUInt64 >>> (UInt64.ofNat n)).toInt64.toInt32 &&& (255 : Int32)).toBitVec = ((v >>> (Int64.ofNat n)) &&& (255 : Int64)).toInt32.toBitVec := by
    intro n hn
    have b := by_bits v.toBitVec n hn
    rw [Int32.toBitVec_and, Int64.toBitVec_toInt32, Int64.toBitVec_toInt32, Int64.toBitVec_and]
    rw [show (v.toUInt64 >>> (UInt64.ofNat n)).toInt64.toBitVec = v.toBitVec >>> n from ?_, show (v >>> (Int64.ofNat n)).toBitVec = v.toBitVec.sshiftRight n from ?_]
    · rw [BitVec.signExtend_eq_setWidth_of_le _ (by decide), BitVec.signExtend_eq_setWidth_of_le _ (by decide)]
      exact b
    · rw [Int64.toBitVec_shiftRight]
      have : ((Int64.ofNat n).toBitVec.smod 64).toNat = n := by
        exact sh_a n (List.mem_range.mpr (by omega))
      rw [BitVec.sshiftRight', this]
    · show (v.toUInt64 >>> (UInt64.ofNat n)).toBitVec = _
      rw [UInt64.toBitVec_shiftRight]
      have : ((UInt64.ofNat n).toBitVec % 64).toNat = n := by
        exact sh_b n (List.mem_range.mpr (by omega))
      show v.toBitVec >>> ((UInt64.ofNat n).toBitVec % 64) = _
      rw [BitVec.ushiftRight_eq', this]
  rcases h with h | h | h | h | h | h | h | h <;> subst h
  · exact k 56 (by decide)
  · exact k 48 (by decide)
  · exact k 40 (by decide)
  · exact k 32 (by decide)
  · exact k 24 (by decide)
  · exact k 16 (by decide)
  · exact k 8 (by decide)
  · exact k 0 (by decide)
def shs (s : Int32) : Prop := s = -8 ∨ (s = 56 ∨ s = 48 ∨ s = 40 ∨ s = 32 ∨ s = 24 ∨ s = 16 ∨ s = 8 ∨ s = 0)
theorem shs_step {s : Int32} (h : shs s) (h0 : ¬ s < 0) : shs (s + -8) ∧ (s + -8).toInt = s.toInt - 8 := by
  rcases h with h | h
  · exact absurd (h ▸ (by decide)) h0
  · rcases h with h | h | h | h | h | h | h | h <;> subst h <;> unfold shs <;> decide
theorem shs_in {s : Int32} (h : shs s) (h0 : ¬ s < 0) : s = 56 ∨ s = 48 ∨ s = 40 ∨ s = 32 ∨ s = 24 ∨ s = 16 ∨ s = 8 ∨ s = 0 := by
  rcases h with h | h
  · exact absurd (h ▸ (by decide)) h0
  · exact h
theorem e_isWordl {T : tT} (v : Int64) : ∀ (n : Nat) (b s : Int32), (b = 0 ∨ b = 1) → shs s → vl_X9_isWord n T v b s = vl_X11_isName n T v b s := by
  intro n
  induction n with
  | zero => intro b s hb hs; rfl
  | succ n ih =>
    intro b s hb hs
    rw [vl_X9_isWord_s, vl_X11_isName_s]
    by_cases c : s < 0
    · rw [if_pos c, if_pos c]
    · rw [if_neg c, if_neg c]
      have e := cby_eq v s (shs_in hs c)
      have u0 := ih 0 (s + -8) (Or.inl rfl) (shs_step hs c).1
      have u1 := ih 1 (s + -8) (Or.inr rfl) (shs_step hs c).1
      unfold cby rby at e
      rw [e]
      generalize ((v >>> (s.toInt64 &&& 63)) &&& (255 : Int64)).toInt32 = y
      unfold v_X9_isLetter v_X9_isLetterOrDigit v_X11_isLetter v_X11_isDigit
      rcases hb with hb | hb <;> subst hb <;> grind
theorem e_isWord {T : tT} (v : Int64) : v_X9_isWord T v = v_X11_isName T v := e_isWordl v fu 0 56 (Or.inl rfl) (by unfold shs; decide)
theorem k_isWordl {sz : Nat} {T : tT} (v : Int64) : ∀ (n : Nat) (b s : Int32), (b = 0 ∨ b = 1) → shs s → s.toInt + 8 < 8 * n → okl_X9_isWord n sz T v b s ∧ okl_X11_isName n sz T v b s := by
  intro n
  induction n with
  | zero =>
    intro b s hb hs h
    exfalso
    rcases hs with q | q
    · subst q; revert h; decide
    · rcases q with q | q | q | q | q | q | q | q <;> subst q <;> revert h <;> decide
  | succ n ih =>
    intro b s hb hs h
    have hb1 : b &&& 1 = b := by rcases hb with hb | hb <;> subst hb <;> rfl
    simp only [okl_X9_isWord, okl_X11_isName]
    by_cases c : s < 0
    · exact ⟨⟨fun _ => hb1, fun q => absurd c q⟩, ⟨fun _ => hb1, fun q => absurd c q⟩⟩
    · have z := (shs_step hs c).2
      have u0 := ih 0 (s + -8) (Or.inl rfl) (shs_step hs c).1 (by omega)
      have u1 := ih 1 (s + -8) (Or.inr rfl) (shs_step hs c).1 (by omega)
      have u2 := ih b (s + -8) hb (shs_step hs c).1 (by omega)
      constructor
      · grind
      · grind
theorem k_isWord {sz : Nat} {T : tT} (v : Int64) : ok_X9_isWord sz T v ∧ ok_X11_isName sz T v := k_isWordl v fu 0 56 (Or.inl rfl) (by unfold shs; decide) (by rw [fu_eq, show (56 : Int32).toInt = 56 from rfl]; omega)
/-- a name is among the pieces from i on -/
def pD (f : Nat → Int64) (e m i : Int32) (x : Int64) : Prop := ∃ j, i ≤ j ∧ j < m ∧ f (e * 4 + j).toNatClampNeg = x
theorem pD_step {f : Nat → Int64} {e m i : Int32} {x : Int64} (h : i < m) : pD f e m i x ↔ f (e * 4 + i).toNatClampNeg = x ∨ pD f e m (i + 1) x := by
  constructor
  · rintro ⟨j, j1, j2, j3⟩
    by_cases c : j = i
    · exact Or.inl (c ▸ j3)
    · exact Or.inr ⟨j, by grind, j2, j3⟩
  · rintro (q | ⟨j, j1, j2, j3⟩)
    · exact ⟨i, by grind, h, q⟩
    · exact ⟨j, by grind, j2, j3⟩
theorem pD_end {f : Nat → Int64} {e m i : Int32} {x : Int64} (h : m ≤ i) : ¬ pD f e m i x := by
  rintro ⟨j, j1, j2, j3⟩
  grind
theorem l_addPiecel {sz : Nat} {T : tT} (e m : Int32) (x : Int64) (he : 0 ≤ e) (he2 : e < 40) (hm0 : 0 ≤ m) (hm : m < 4) : ∀ (n : Nat) (i : Int32), 0 ≤ i → i ≤ m → m.toInt < i.toInt + n → okl_X2_addPiece n sz T e x m i ∧ (pD (T.2.1 78) e m i x → vl_X2_addPiece n T e x m i = (-1, T)) ∧ (¬ pD (T.2.1 78) e m i x → vl_X2_addPiece n T e x m i = (m + 1, tI (tJ T 78 (e * 4 + m).toNatClampNeg x) 77 e.toNatClampNeg (m + 1))) := by
  intro n
  induction n with
  | zero => intro v h0 h1 h2; rw [tle] at h1; omega
  | succ n ih =>
    intro v h0 h1 h2
    rw [vl_X2_addPiece_s]
    simp only [okl_X2_addPiece]
    have w1 := (tix4 (x := e) (y := m) he he2 hm0 hm).2
    have w2 := vp40 he he2
    by_cases c : m ≤ v
    · have z := pD_end (f := T.2.1 78) (e := e) (x := x) c
      rw [if_pos c]
      exact ⟨⟨fun _ => ⟨w1, w2⟩, fun q => absurd c q⟩, fun q => absurd q z, fun _ => rfl⟩
    · have u := ih (v + 1) (by grind) (by grind) (by rw [tinc (b := m) (by grind)]; omega)
      have w3 := (tix4 (x := e) (y := v) he he2 h0 (by grind)).2
      rw [if_neg c, pD_step (by grind)]
      grind
theorem l_piece11l {sz : Nat} {T : tT} (e m : Int32) (x : Int64) (he : 0 ≤ e) (he2 : e < 40) (hm0 : 0 ≤ m) (hm : m < 4) (hT : T.1 137 e.toNatClampNeg = m) : ∀ (n : Nat) (i : Int32), 0 ≤ i → i ≤ m → m.toInt < i.toInt + n → okl_X11_piece n sz T e x i ∧ (pD (T.2.1 139) e m i x → vl_X11_piece n T e x i = (-1, T)) ∧ (¬ pD (T.2.1 139) e m i x → vl_X11_piece n T e x i = (m + 1, tI (tJ T 139 (e * 4 + m).toNatClampNeg x) 137 e.toNatClampNeg (m + 1))) := by
  intro n
  induction n with
  | zero => intro v h0 h1 h2; rw [tle] at h1; omega
  | succ n ih =>
    intro v h0 h1 h2
    rw [vl_X11_piece_s]
    simp only [okl_X11_piece]
    rw [hT]
    have k : ∀ y : Int32, 4 * e + y = e * 4 + y := by intro y; grind
    rw [k, k]
    have w1 := (tix4 (x := e) (y := m) he he2 hm0 hm).2
    have w2 := vp40 he he2
    have w4 : (tI (tJ T 139 (e * 4 + m).toNatClampNeg x) 137 e.toNatClampNeg (m + 1)).1 137 e.toNatClampNeg = m + 1 := by
      show va_up (T.1 137) e.toNatClampNeg (m + 1) e.toNatClampNeg = m + 1
      unfold va_up
      rw [if_pos rfl]
    rw [w4]
    by_cases c : m ≤ v
    · have z := pD_end (f := T.2.1 139) (e := e) (x := x) c
      rw [if_pos c]
      exact ⟨⟨w2, fun _ => ⟨w2, w1, w2, w2, w2⟩, fun q => absurd c q⟩, fun q => absurd q z, fun _ => rfl⟩
    · have u := ih (v + 1) (by grind) (by grind) (by rw [tinc (b := m) (by grind)]; omega)
      have w3 := (tix4 (x := e) (y := v) he he2 h0 (by grind)).2
      rw [if_neg c, pD_step (by grind)]
      grind
theorem fu_4 {m : Int32} (h : m < 4) : m.toInt < (0 : Int32).toInt + (fu : Nat) := by
  have e : m.toInt < 4 := tlt.mp h
  rw [fu_eq]
  show m.toInt < 0 + _
  omega
theorem va_upj {f g : Nat → Int64} {n : Nat} {v : Int64} (h : f = g) : va_up f n v = va_up g n v := by rw [h]
theorem q_piece {sz : Nat} {T : tT} (h : I6 T) (x0 : Int32) (x1 : Int64) : ok_X10_piece sz T x0 x1 ∧ ok_X11_piece sz (F_X10_piece T x0 x1).2 x0 x1 ∧ (F_X10_piece T x0 x1).2.1 0 = T.1 0 ∧ (F_X10_piece T x0 x1).1 = (F_X11_piece (F_X10_piece T x0 x1).2 x0 x1).1 ∧ I6 (F_X11_piece (F_X10_piece T x0 x1).2 x0 x1).2 ∧ fr (wl [77, 78, 137, 139] []) T (F_X11_piece (F_X10_piece T x0 x1).2 x0 x1).2 := by
  obtain ⟨hC, hE, hL, hS, hA, hP⟩ := h
  have q := hE.1
  have b := hE.2.1
  have w := e_isWord (T := T) x1
  have kw := k_isWord (sz := sz) (T := T) x1
  have r1 : T.1 137 = T.1 77 := hE.2.2.1.2.2.2.2.2.2.2.1
  have r2 : T.2.1 139 = T.2.1 78 := hE.2.2.1.2.2.2.2.2.2.2.2
  have m0 := hE.2.2.2.2.2.1 x0.toNatClampNeg
  by_cases c : (0 ≤ x0 ∧ x0 < T.1 69 0) ∧ v_X11_isName T x1 ≠ 0 ∧ T.1 77 x0.toNatClampNeg < 4
  · obtain ⟨⟨c1, c2⟩, c3, c4⟩ := c
    have c5 : x0 < 40 := by grind
    obtain ⟨p1, p2, p3⟩ := l_addPiecel (sz := sz) (T := T) x0 _ x1 c1 c5 m0.1 c4 fu 0 (by decide) m0.1 (fu_4 c4)
    have v := vp40 c1 c5
    have o1 : ok_X10_piece sz T x0 x1 := by
      have : ok_X2_addPiece sz T x0 x1 := ⟨v, fun _ => p1, fun _ => trivial⟩
      unfold ok_X10_piece
      grind
    have E1 : F_X10_piece T x0 x1 = vl_X2_addPiece fu T x0 x1 (T.1 77 x0.toNatClampNeg) 0 := by
      unfold F_X10_piece F_X2_addPiece v_X2_has
      grind
    rw [E1]
    by_cases d : pD (T.2.1 78) x0 (T.1 77 x0.toNatClampNeg) 0 x1
    · rw [p2 d]
      dsimp only
      obtain ⟨s1, s2, s3⟩ := l_piece11l (sz := sz) (T := T) x0 _ x1 c1 c5 m0.1 c4 (by rw [r1]) fu 0 (by decide) m0.1 (fu_4 c4)
      have o2 : ok_X11_piece sz T x0 x1 := by
        unfold ok_X11_piece
        rw [r1]
        grind
      have E2 : F_X11_piece T x0 x1 = vl_X11_piece fu T x0 x1 0 := by
        unfold F_X11_piece v_X11_isEntry
        rw [r1]
        grind
      rw [E2, s2 (by rw [r2]; exact d)]
      exact ⟨o1, o2, rfl, rfl, ⟨hC, hE, hL, hS, hA, hP⟩, fr_refl⟩
    · rw [p3 d]
      dsimp only
      have g1 : (tI (tJ T 78 (x0 * 4 + T.1 77 x0.toNatClampNeg).toNatClampNeg x1) 77 x0.toNatClampNeg (T.1 77 x0.toNatClampNeg + 1)).1 137 = T.1 77 := r1
      have g2 : (tI (tJ T 78 (x0 * 4 + T.1 77 x0.toNatClampNeg).toNatClampNeg x1) 77 x0.toNatClampNeg (T.1 77 x0.toNatClampNeg + 1)).2.1 139 = T.2.1 78 := r2
      have g3 : (tI (tJ T 78 (x0 * 4 + T.1 77 x0.toNatClampNeg).toNatClampNeg x1) 77 x0.toNatClampNeg (T.1 77 x0.toNatClampNeg + 1)).1 105 48 = T.1 69 0 := q
      have g4 : v_X11_isName (tI (tJ T 78 (x0 * 4 + T.1 77 x0.toNatClampNeg).toNatClampNeg x1) 77 x0.toNatClampNeg (T.1 77 x0.toNatClampNeg + 1)) x1 ≠ 0 := by
        have e1 : ∀ (T T' : tT) n b s, vl_X11_isName n T x1 b s = vl_X11_isName n T' x1 b s := by
          intro T T' n
          induction n with
          | zero => intro b s; rfl
          | succ n ih =>
            intro b s
            rw [vl_X11_isName_s, vl_X11_isName_s, ih, ih]
            rfl
        unfold v_X11_isName at c3 ⊢
        rw [e1 _ T]
        exact c3
      have f0 : fr (wl [77, 78, 137, 139] []) T (tI (tJ T 78 (x0 * 4 + T.1 77 x0.toNatClampNeg).toNatClampNeg x1) 77 x0.toNatClampNeg (T.1 77 x0.toNatClampNeg + 1)) := fr_I rfl (fr_J rfl fr_refl)
      have k0 : ok_X11_isName sz (tI (tJ T 78 (x0 * 4 + T.1 77 x0.toNatClampNeg).toNatClampNeg x1) 77 x0.toNatClampNeg (T.1 77 x0.toNatClampNeg + 1)) x1 := (k_isWord x1).2
      obtain ⟨s1, s2, s3⟩ := l_piece11l (sz := sz) (T := (tI (tJ T 78 (x0 * 4 + T.1 77 x0.toNatClampNeg).toNatClampNeg x1) 77 x0.toNatClampNeg (T.1 77 x0.toNatClampNeg + 1))) x0 _ x1 c1 c5 m0.1 c4 (by rw [g1]) fu 0 (by decide) m0.1 (fu_4 c4)
      rw [g2] at s2 s3
      have o2 : ok_X11_piece sz (tI (tJ T 78 (x0 * 4 + T.1 77 x0.toNatClampNeg).toNatClampNeg x1) 77 x0.toNatClampNeg (T.1 77 x0.toNatClampNeg + 1)) x0 x1 := by
        unfold ok_X11_piece
        grind
      have E2 : F_X11_piece (tI (tJ T 78 (x0 * 4 + T.1 77 x0.toNatClampNeg).toNatClampNeg x1) 77 x0.toNatClampNeg (T.1 77 x0.toNatClampNeg + 1)) x0 x1 = vl_X11_piece fu (tI (tJ T 78 (x0 * 4 + T.1 77 x0.toNatClampNeg).toNatClampNeg x1) 77 x0.toNatClampNeg (T.1 77 x0.toNatClampNeg + 1)) x0 x1 0 := by
        unfold F_X11_piece v_X11_isEntry
        rw [g1, g3]
        grind
      rw [E2, s3 d]
      have f : fr (wl [77, 78, 137, 139] []) T (tI (tJ (tI (tJ T 78 (x0 * 4 + T.1 77 x0.toNatClampNeg).toNatClampNeg x1) 77 x0.toNatClampNeg (T.1 77 x0.toNatClampNeg + 1)) 139 (x0 * 4 + T.1 77 x0.toNatClampNeg).toNatClampNeg x1) 137 x0.toNatClampNeg (T.1 77 x0.toNatClampNeg + 1)) := fr_I rfl (fr_J rfl f0)
      refine ⟨o1, o2, rfl, rfl, ⟨ICi_fz (fz_of f rfl) hC, ?_, ILe_fz (fz_of f rfl) hL, ICe_fz (fz_of f rfl) hS, ITa_fz (fz_of f rfl) hA, IPl_fz (fz_of f rfl) hP⟩, f⟩
      obtain ⟨a1, a2, a3, a4, a5, a6, a7⟩ := hE
      refine ⟨a1, a2, ⟨a3.1, a3.2.1, a3.2.2.1, a3.2.2.2.1, a3.2.2.2.2.1, a3.2.2.2.2.2.1, a3.2.2.2.2.2.2.1, va_upi r1, va_upj r2⟩, a4, a5, ?_, ?_⟩
      · intro i
        show 0 ≤ va_up (T.1 77) x0.toNatClampNeg (T.1 77 x0.toNatClampNeg + 1) i ∧ va_up (T.1 77) x0.toNatClampNeg (T.1 77 x0.toNatClampNeg + 1) i ≤ 4
        have := a6 i
        unfold va_up
        grind
      · intro x h0 h1
        replace h1 : T.1 69 0 ≤ x := h1
        show va_up (T.1 77) x0.toNatClampNeg (T.1 77 x0.toNatClampNeg + 1) x.toNatClampNeg = 0
        unfold va_up
        rw [if_neg (tnc_ne h0 c1 (by grind))]
        exact a7 x h0 h1
  · have E1 : F_X10_piece T x0 x1 = (-1, T) := by
      unfold F_X10_piece F_X2_addPiece v_X2_has
      grind
    have E2 : F_X11_piece T x0 x1 = (-1, T) := by
      unfold F_X11_piece v_X11_isEntry
      rw [r1]
      grind
    have o1 : ok_X10_piece sz T x0 x1 := by
      have v := vp40 (a := x0)
      unfold ok_X10_piece ok_X2_addPiece v_X2_has
      grind
    have o2 : ok_X11_piece sz T x0 x1 := by
      have v := vp40 (a := x0)
      unfold ok_X11_piece v_X11_isEntry
      rw [r1]
      grind
    rw [E1]
    dsimp only
    rw [E2]
    exact ⟨o1, o2, rfl, rfl, ⟨hC, hE, hL, hS, hA, hP⟩, fr_refl⟩
