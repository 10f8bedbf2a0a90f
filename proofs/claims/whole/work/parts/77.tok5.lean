/-! tokens: both alike -/
theorem chS {α : Type} {c : Int32} {A B : α} : (isS c → (if c = (123 : Int32) then A else (if c = (125 : Int32) then A else (if c = (40 : Int32) then A else (if c = (41 : Int32) then A else (if c = (61 : Int32) then A else (if c = (44 : Int32) then A else (if c = (59 : Int32) then A else (if c = (60 : Int32) then A else (if c = (62 : Int32) then A else (if c = (43 : Int32) then A else (if c = (45 : Int32) then A else B))))))))))) = A) ∧ (¬ isS c → (if c = (123 : Int32) then A else (if c = (125 : Int32) then A else (if c = (40 : Int32) then A else (if c = (41 : Int32) then A else (if c = (61 : Int32) then A else (if c = (44 : Int32) then A else (if c = (59 : Int32) then A else (if c = (60 : Int32) then A else (if c = (62 : Int32) then A else (if c = (43 : Int32) then A else (if c = (45 : Int32) then A else B))))))))))) = B) := by
  unfold isS
  by_cases h0 : c = 123
  · rw [if_pos h0]
    exact ⟨fun _ => rfl, fun w => absurd (by simp [h0]) w⟩
  rw [if_neg h0]
  by_cases h1 : c = 125
  · rw [if_pos h1]
    exact ⟨fun _ => rfl, fun w => absurd (by simp [h1]) w⟩
  rw [if_neg h1]
  by_cases h2 : c = 40
  · rw [if_pos h2]
    exact ⟨fun _ => rfl, fun w => absurd (by simp [h2]) w⟩
  rw [if_neg h2]
  by_cases h3 : c = 41
  · rw [if_pos h3]
    exact ⟨fun _ => rfl, fun w => absurd (by simp [h3]) w⟩
  rw [if_neg h3]
  by_cases h4 : c = 61
  · rw [if_pos h4]
    exact ⟨fun _ => rfl, fun w => absurd (by simp [h4]) w⟩
  rw [if_neg h4]
  by_cases h5 : c = 44
  · rw [if_pos h5]
    exact ⟨fun _ => rfl, fun w => absurd (by simp [h5]) w⟩
  rw [if_neg h5]
  by_cases h6 : c = 59
  · rw [if_pos h6]
    exact ⟨fun _ => rfl, fun w => absurd (by simp [h6]) w⟩
  rw [if_neg h6]
  by_cases h7 : c = 60
  · rw [if_pos h7]
    exact ⟨fun _ => rfl, fun w => absurd (by simp [h7]) w⟩
  rw [if_neg h7]
  by_cases h8 : c = 62
  · rw [if_pos h8]
    exact ⟨fun _ => rfl, fun w => absurd (by simp [h8]) w⟩
  rw [if_neg h8]
  by_cases h9 : c = 43
  · rw [if_pos h9]
    exact ⟨fun _ => rfl, fun w => absurd (by simp [h9]) w⟩
  rw [if_neg h9]
  by_cases h10 : c = 45
  · rw [if_pos h10]
    exact ⟨fun _ => rfl, fun w => absurd (by simp [h10]) w⟩
  rw [if_neg h10]
  exact ⟨fun w => absurd w (by simp [h0, h1, h2, h3, h4, h5, h6, h7, h8, h9, h10]), fun _ => rfl⟩
theorem e_next11 {sz : Nat} {N a : Nat} {T : tT} (hT : RE N T) (ha : (T.1 105 7).toInt = a) (aN : a ≤ N) : (fr w5 T (F_X11_next T) ∧ ∃ pl e : Nat, ((F_X11_next T).1 105 6).toInt = pl ∧ ((F_X11_next T).1 105 7).toInt = e ∧ RD (bR T) N a pl e ((F_X11_next T).1 105 8) ((F_X11_next T).1 105 9) ((F_X11_next T).2.1 105 10)) ∧ ok_X11_next sz T := by
  obtain ⟨hN, N14⟩ := hT
  have body : ∀ (n k : Nat) (T1 : tT), fr w5 T T1 → (T1.1 105 3).toInt = N → T1.1 107 = T.1 107 → (T1.1 105 6).toInt = k → isRun (bR T) isB N a k → 5000 < n → (fr w5 T ((vl_X11_next n).2.1 T1) ∧ ∃ pl e : Nat, (((vl_X11_next n).2.1 T1).1 105 6).toInt = pl ∧ (((vl_X11_next n).2.1 T1).1 105 7).toInt = e ∧ RD (bR T) N a pl e (((vl_X11_next n).2.1 T1).1 105 8) (((vl_X11_next n).2.1 T1).1 105 9) (((vl_X11_next n).2.1 T1).2.1 105 10)) ∧ (okl_X11_next n).2.1 sz T1 := by
    intro n k T1 f1 h3 h7 hk hr hn
    obtain ⟨n, rfl⟩ : ∃ n', n = n' + 1 := ⟨n - 1, by omega⟩
    have kN := hr.2.1
    obtain ⟨g1, g2⟩ := sgn (sz := sz) (T := T1) ⟨h3, N14⟩ hk
    have bt : bR T1 k = bR T k := by unfold bR; rw [h7]
    rw [vl_X11_next_s1, okl_X11_next_s1]
    have st : (T1.1 105 6 + 1).toInt = (k + 1 : Nat) := by rw [tinc' (by omega)]; omega
    have o6 : (tI T1 105 7 (T1.1 105 6 + 1)).1 105 6 = T1.1 105 6 := tI_off (fun w => by have := w.2; omega)
    have f2 : fr w5 T (tI T1 105 7 (T1.1 105 6 + 1)) := fr_I rfl f1
    have h3' : ((tI T1 105 7 (T1.1 105 6 + 1)).1 105 3).toInt = N := by rw [tI_off (fun w => by have := w.2; omega)]; exact h3
    have h7' : (tI T1 105 7 (T1.1 105 6 + 1)).1 107 = T.1 107 := by
      funext i
      rw [tI_off (fun w => by have := w.1; omega)]
      exact congrFun h7 i
    by_cases c : k < N
    · have cc : T1.1 105 6 < T1.1 105 3 := by rw [tlt]; omega
      rw [if_pos c, bt] at g1
      rw [if_pos cc, g1]
      by_cases l : isLt (bR T k)
      · have l0 : ¬ v_X11_isLetter (tI T1 105 7 (T1.1 105 6 + 1)) (bR T k) = 0 := fun w => x11L.mp w l
        rw [if_neg l0]
        obtain ⟨⟨e, u1, u2, u3, u4, u5⟩, u6⟩ := l_wend (sz := sz) (T0 := T) (s := k) N14 (N - (k + 1)) n (k + 1) (tI T1 105 7 (T1.1 105 6 + 1)) h3' h7' (by rw [o6]; exact hk) (by rw [tI_at]; exact st) (by omega) (by omega) (by omega) (fun i i1 i2 => by
          rw [show i = k by omega]
          exact Or.inl l)
        exact ⟨⟨fr_trans f2 u2, k, e, by rw [u3, o6]; exact hk, u4, hr, Or.inr (Or.inl ⟨c, l, u1, u5⟩)⟩, g2, fun _ => ⟨fun w => absurd w l0, fun _ => u6⟩, fun w => absurd cc w⟩
      · have l0 : v_X11_isLetter (tI T1 105 7 (T1.1 105 6 + 1)) (bR T k) = 0 := x11L.mpr l
        rw [if_pos l0]
        by_cases d : isD (bR T k)
        · have d0 : ¬ v_X11_isDigit (tI T1 105 7 (T1.1 105 6 + 1)) (bR T k) = 0 := fun w => x11D.mp w d
          rw [if_neg d0]
          obtain ⟨⟨e, u1, u2, u3, u4, u5⟩, u6⟩ := l_rnum (sz := sz) (T0 := T) (s := k) N14 (N - k) n k (tI (tI (tI T1 105 7 (T1.1 105 6 + 1)) 105 9 0) 105 7 ((tI T1 105 7 (T1.1 105 6 + 1)).1 105 6)) (by rw [tI_off (fun w => by have := w.2; omega), tI_off (fun w => by have := w.2; omega)]; exact h3') (by
            funext i
            rw [tI_off (fun w => by have := w.1; omega), tI_off (fun w => by have := w.1; omega)]
            exact congrFun h7' i) (by rw [tI_off (fun w => by have := w.2; omega), tI_off (fun w => by have := w.2; omega), o6]; exact hk) (by rw [tI_at, o6]; exact hk) (Nat.le_refl _) (by omega) (by omega) (fun i i1 i2 => by omega) (by
            rw [tI_off (fun w => by have := w.2; omega), tI_at, Nat.sub_self]
            rfl)
          refine ⟨⟨fr_trans (fr_I rfl (fr_I rfl f2)) u2, k, e, ?_, u4, hr, Or.inr (Or.inr (Or.inl ⟨c, l, d, u1, u5⟩))⟩, g2, fun _ => ⟨fun _ => ⟨fun w => absurd w d0, fun _ => u6⟩, fun w => absurd l0 w⟩, fun w => absurd cc w⟩
          rw [u3, tI_off (fun w => by have := w.2; omega), tI_off (fun w => by have := w.2; omega), o6]
          exact hk
        · have d0 : v_X11_isDigit (tI T1 105 7 (T1.1 105 6 + 1)) (bR T k) = 0 := x11D.mpr d
          rw [if_pos d0]
          have e7 : ∀ v, ((tI (tI T1 105 7 (T1.1 105 6 + 1)) 105 8 v).1 105 7).toInt = (k + 1 : Nat) := fun v => by
            rw [tI_off (fun w => by have := w.2; omega), tI_at]
            exact st
          have e6 : ∀ v, ((tI (tI T1 105 7 (T1.1 105 6 + 1)) 105 8 v).1 105 6).toInt = k := fun v => by
            rw [tI_off (fun w => by have := w.2; omega), o6]
            exact hk
          by_cases s : isS (bR T k)
          · rw [chS.1 s]
            exact ⟨⟨fr_I rfl f2, k, k + 1, e6 _, e7 _, hr, Or.inr (Or.inr (Or.inr ⟨c, l, d, rfl, Or.inl ⟨s, tI_at⟩⟩))⟩, g2, fun _ => ⟨fun _ => ⟨fun _ => trivial, fun w => absurd d0 w⟩, fun w => absurd l0 w⟩, fun w => absurd cc w⟩
          · rw [chS.2 s]
            exact ⟨⟨fr_I rfl f2, k, k + 1, e6 _, e7 _, hr, Or.inr (Or.inr (Or.inr ⟨c, l, d, rfl, Or.inr ⟨s, tI_at⟩⟩))⟩, g2, fun _ => ⟨fun _ => ⟨fun _ => trivial, fun w => absurd d0 w⟩, fun w => absurd l0 w⟩, fun w => absurd cc w⟩
    · have cc : ¬ T1.1 105 6 < T1.1 105 3 := by rw [tlt]; omega
      rw [if_neg cc]
      have kk : k = N := by omega
      refine ⟨⟨fr_I rfl (fr_I rfl (fr_I rfl f2)), k, k, ?_, ?_, hr, Or.inl ⟨kk, rfl, ?_⟩⟩, g2, fun w => absurd w cc, fun _ => trivial⟩
      · rw [tI_off (fun w => by have := w.2; omega), tI_at, kk]
        exact h3
      · rw [tI_at, kk]
        exact h3
      · rw [tI_off (fun w => by have := w.2; omega), tI_off (fun w => by have := w.2; omega), tI_at]
  have key : ∀ (r n k : Nat) (T1 : tT), fr w5 T T1 → (T1.1 105 3).toInt = N → T1.1 107 = T.1 107 → (T1.1 105 6).toInt = k → a ≤ k → k + r = N → 2 * r + 5002 < n → (∀ i, a ≤ i → i < k → isB (bR T i)) → (fr w5 T ((vl_X11_next n).1 T1) ∧ ∃ pl e : Nat, (((vl_X11_next n).1 T1).1 105 6).toInt = pl ∧ (((vl_X11_next n).1 T1).1 105 7).toInt = e ∧ RD (bR T) N a pl e (((vl_X11_next n).1 T1).1 105 8) (((vl_X11_next n).1 T1).1 105 9) (((vl_X11_next n).1 T1).2.1 105 10)) ∧ (okl_X11_next n).1 sz T1 := by
    intro r
    induction r with
    | zero =>
      intro n k T1 f1 h3 h7 hk ak kr hn hp
      obtain ⟨n, rfl⟩ : ∃ n', n = n' + 1 := ⟨n - 1, by omega⟩
      have cc : T1.1 105 3 ≤ T1.1 105 6 := by rw [tle]; omega
      rw [vl_X11_next_s0, okl_X11_next_s0, if_pos cc]
      obtain ⟨u1, u2⟩ := body n k T1 f1 h3 h7 hk ⟨ak, by omega, hp, Or.inl (by omega)⟩ (by omega)
      exact ⟨u1, fun _ => u2, fun w => absurd cc w⟩
    | succ r ih =>
      intro n k T1 f1 h3 h7 hk ak kr hn hp
      obtain ⟨n, rfl⟩ : ∃ n', n = n' + 2 := ⟨n - 2, by omega⟩
      have cc : ¬ T1.1 105 3 ≤ T1.1 105 6 := by rw [tle]; omega
      obtain ⟨g1, g2⟩ := sgn (sz := sz) (T := T1) ⟨h3, N14⟩ hk
      have bt : bR T1 k = bR T k := by unfold bR; rw [h7]
      rw [if_pos (show k < N by omega), bt] at g1
      have go : isB (bR T k) → (fr w5 T ((vl_X11_next (n + 1)).2.2.1 T1) ∧ ∃ pl e : Nat, (((vl_X11_next (n + 1)).2.2.1 T1).1 105 6).toInt = pl ∧ (((vl_X11_next (n + 1)).2.2.1 T1).1 105 7).toInt = e ∧ RD (bR T) N a pl e (((vl_X11_next (n + 1)).2.2.1 T1).1 105 8) (((vl_X11_next (n + 1)).2.2.1 T1).1 105 9) (((vl_X11_next (n + 1)).2.2.1 T1).2.1 105 10)) ∧ (okl_X11_next (n + 1)).2.2.1 sz T1 := by
        intro q
        rw [vl_X11_next_s2, okl_X11_next_s2]
        exact ih n (k + 1) (tI T1 105 6 (T1.1 105 6 + 1)) (fr_I rfl f1) (by rw [tI_off (fun w => by have := w.2; omega)]; exact h3) (by
          funext i
          rw [tI_off (fun w => by have := w.1; omega)]
          exact congrFun h7 i) (by
          rw [tI_at, tinc' (by omega)]
          omega) (by omega) (by omega) (by omega) (fun i i1 i2 => by
          by_cases z : i = k
          · rw [z]; exact q
          · exact hp i i1 (by omega))
      rw [vl_X11_next_s0, okl_X11_next_s0, if_neg cc, g1]
      by_cases q1 : bR T k = 32
      · rw [if_pos q1]
        obtain ⟨u1, u2⟩ := go (Or.inl q1)
        exact ⟨u1, fun w => absurd w cc, fun _ => ⟨g2, fun _ => u2, fun w => absurd q1 w⟩⟩
      · rw [if_neg q1]
        by_cases q2 : bR T k = 10
        · rw [if_pos q2]
          obtain ⟨u1, u2⟩ := go (Or.inr q2)
          exact ⟨u1, fun w => absurd w cc, fun _ => ⟨g2, fun w => absurd w q1, fun _ => ⟨g2, fun w => absurd q2 w, fun _ => u2⟩⟩⟩
        · rw [if_neg q2]
          obtain ⟨u1, u2⟩ := body (n + 1) k T1 f1 h3 h7 hk ⟨ak, by omega, hp, Or.inr (fun w => w.elim q1 q2)⟩ (by omega)
          exact ⟨u1, fun w => absurd w cc, fun _ => ⟨g2, fun w => absurd w q1, fun _ => ⟨g2, fun _ => u2, fun w => absurd w q2⟩⟩⟩
  exact key (N - a) fu a (tI T 105 6 (T.1 105 7)) (fr_I rfl fr_refl) (by rw [tI_off (fun w => by have := w.2; omega)]; exact hN) (by
    funext i
    exact tI_off (fun w => by have := w.1; omega)) (by rw [tI_at]; exact ha) (Nat.le_refl _) (by omega) (by rw [fu_eq]; omega) (fun i i1 i2 => by omega)
/-- kinds alike -/
def kR (k t nC nR : Int32) (wC wR : Int64) (sg : Int32) : Prop := (k = 0 ∧ t = 0) ∨ (k = 1 ∧ t = 1) ∨ (k = 2 ∧ t = 4 ∧ nR = nC ∧ 0 ≤ nC.toInt ∧ nC.toInt ≤ 999999) ∨ (k = 3 ∧ t = 2 ∧ wR = wC ∧ ∀ i, i < 15 → kw i ≠ wC) ∨ (∃ i, i < 15 ∧ k = nI (200 + i) ∧ t = 3 ∧ wR = kw i) ∨ (isS k ∧ t = 5 ∧ sg = k)
/-- the class's token and the reference's are the same -/
def TK (N : Nat) (Tc Tr : tT) : Prop := ∃ pl e : Nat, (Tc.1 4 3).toInt = pl ∧ (Tc.1 4 6).toInt = e ∧ Tr.1 105 6 = Tc.1 4 3 ∧ Tr.1 105 7 = Tc.1 4 6 ∧ pl ≤ e ∧ e ≤ N ∧ (Tc.1 4 2 = 0 → pl = N) ∧ (Tc.1 4 2 ≠ 0 → pl < e) ∧ (Tc.1 4 2 = 204 ∨ Tc.1 4 2 = 205 ∨ Tc.1 4 2 = 206 ∨ Tc.1 4 2 = 209 → pl + 3 ≤ e) ∧ kR (Tc.1 4 2) (Tr.1 105 8) (Tc.1 4 4) (Tr.1 105 9) (Tc.2.1 4 5) (Tr.2.1 105 10) (v_X11_sign Tr (Tr.1 105 6))
/-- both tapes are the same -/
def EV (N : Nat) (Tc Tr : tT) : Prop := TE N Tc ∧ RE N Tr ∧ ∀ i, i < N → bC Tc i = bR Tr i
theorem wv_nat {b : Nat → Int32} {s : Nat} (hb : ∀ i, 0 ≤ (b i).toInt ∧ (b i).toInt < 256) : ∀ (n : Nat), n ≤ 2 → (wvn b s n).toBitVec.toNat < 2 ^ (8 * n)
  | 0, _ => by
    unfold wvn
    decide
  | n + 1, hn => by
    have ih := wv_nat (s := s) hb n (by omega)
    have h1 := hb (s + n)
    have ey : ((b (s + n)).toInt64).toBitVec.toNat < 256 := by
      have e : ((b (s + n)).toInt64).toBitVec.toInt = (b (s + n)).toInt := Int32.toInt_toInt64 _
      have d := BitVec.toInt_eq_toNat_cond ((b (s + n)).toInt64).toBitVec
      split at d
      · omega
      · have := ((b (s + n)).toInt64).toBitVec.isLt
        omega
    have p8 : 2 ^ (8 * n) ≤ 2 ^ 8 := Nat.pow_le_pow_right (by decide) (by omega)
    have ex : (wvn b s n <<< ((8 : Int32).toInt64 &&& 63)).toBitVec.toNat < 2 ^ (8 * (n + 1)) := by
      rw [Int64.toBitVec_shiftLeft]
      have e : (((8 : Int32).toInt64 &&& 63).toBitVec.smod 64) = 8#64 := by decide
      rw [e]
      show ((wvn b s n).toBitVec <<< (8#64).toNat).toNat < _
      rw [show (8#64).toNat = 8 from rfl, BitVec.toNat_shiftLeft, Nat.shiftLeft_eq]
      have : 2 ^ (8 * (n + 1)) = 2 ^ (8 * n) * 2 ^ 8 := by rw [← Nat.pow_add]; congr 1
      have m : (wvn b s n).toBitVec.toNat * 2 ^ 8 < 2 ^ (8 * n) * 2 ^ 8 := Nat.mul_lt_mul_of_pos_right ih (by decide)
      exact Nat.lt_of_le_of_lt (Nat.mod_le _ _) (by rw [this]; exact m)
    unfold wvn
    rw [Int64.toBitVec_or, BitVec.toNat_or]
    exact Nat.or_lt_two_pow ex (Nat.lt_of_lt_of_le ey (by
      have : 2 ^ 8 ≤ 2 ^ (8 * (n + 1)) := Nat.pow_le_pow_right (by decide) (by omega)
      omega))
theorem e_tok {sz : Nat} {N a : Nat} {Tc Tr : tT} (h : EV N Tc Tr) (ha : (Tc.1 4 6).toInt = a) (aN : a ≤ N) (he : Tr.1 105 7 = Tc.1 4 6) : (TK N (F_X9_next Tc) (F_X11_next Tr) ∧ fr w4 Tc (F_X9_next Tc) ∧ fr w5 Tr (F_X11_next Tr) ∧ (a : Int) ≤ ((F_X9_next Tc).1 4 3).toInt) ∧ ok_X9_next sz Tc ∧ ok_X11_next sz Tr := by
  obtain ⟨h1, h2, h3⟩ := h
  obtain ⟨⟨c1, pl, e, c2, c3, c4⟩, c5⟩ := e_next9 (sz := sz) h1 ha aN
  obtain ⟨⟨r1, pl', e', r2, r3, r4⟩, r5⟩ := e_next11 (sz := sz) h2 (by rw [he]; exact ha) aN
  refine ⟨⟨?_, c1, r1, by rw [c2]; have := c4.1.1; omega⟩, c5, r5⟩
  have pp : pl = pl' := isRun_u h3 c4.1 r4.1
  subst pp
  have b : pl ≤ N := c4.1.2.1
  have six : (F_X11_next Tr).1 105 6 = (F_X9_next Tc).1 4 3 := by rw [teq, c2, r2]
  have sv : pl < N → v_X11_sign (F_X11_next Tr) ((F_X11_next Tr).1 105 6) = bC Tc pl := fun q => by
    have e3 : (F_X11_next Tr).1 105 3 = Tr.1 105 3 := fr_i r1 (k := 105) (i := 3) rfl
    have e7 : (F_X11_next Tr).1 107 = Tr.1 107 := fr_ri r1 (k := 107) (fun _ => rfl)
    have := (sgn (sz := sz) (T := F_X11_next Tr) (N := N) ⟨by rw [e3]; exact h2.1, h2.2⟩ r2).1
    rw [this, if_pos q, h3 pl q]
    unfold bR
    rw [e7]
  have kn : ∀ i, i < 15 → (nI (200 + i)).toInt = 200 + i := fun i hi => by rw [nI_toInt (by omega)]; omega
  have nk : ∀ (k v : Int32), k = v → ∀ m : Int, v.toInt = m → k.toInt = m := fun k v q m hm => by rw [q]; exact hm
  rcases c4.2 with ⟨x1, x2, x3⟩ | ⟨x1, x2, x3, x4⟩ | ⟨x1, x2, x3, x4, x5⟩ | ⟨x1, x2, x3, x4, x5⟩
  · rcases r4.2 with ⟨y1, y2, y3⟩ | ⟨y1, _⟩ | ⟨y1, _⟩ | ⟨y1, _⟩
    · exact ⟨pl, e, c2, c3, six, by rw [teq, c3, r3]; omega, by omega, by omega, fun _ => x1, fun w => absurd x3 w, fun w => by rw [x3] at w; exact absurd w (by decide), Or.inl ⟨x3, y3⟩⟩
    · omega
    · omega
    · omega
  · rcases r4.2 with ⟨y1, _⟩ | ⟨y1, y2, y3, y4⟩ | ⟨y1, y2, _⟩ | ⟨y1, y2, _⟩
    · omega
    · have ee : e = e' := isRun_u h3 x3 y3
      subst ee
      have gt : pl < e := by
        rcases Nat.lt_or_ge pl e with q | q
        · exact q
        · exfalso
          have : e = pl := by have := x3.1; omega
          rcases x3.2.2.2 with z | z
          · omega
          · rw [this] at z
            exact z (Or.inl x2)
      have wcg : wvn (bR Tr) pl (e - pl) = wvn (bC Tc) pl (e - pl) := (wvn_cg (e - pl) (fun i i1 i2 => h3 i (by have := x3.2.1; omega))).symm
      rcases x4 with ⟨l8, kk⟩ | ⟨l8, kk⟩
      · rcases y4 with ⟨m8, ww, tt⟩ | ⟨m8, _⟩
        · rw [wcg] at ww
          rcases kk with ⟨i, i1, i2, i3⟩ | ⟨i1, i2, i3⟩
          · refine ⟨pl, e, c2, c3, six, by rw [teq, c3, r3], by omega, x3.2.1, fun w => ?_, fun _ => gt, fun w => ?_, ?_⟩
            · exfalso
              have := nk _ _ i3 _ (kn i i1)
              rw [w, show (0 : Int32).toInt = 0 from rfl] at this
              omega
            · apply Classical.byContradiction
              intro lt
              have small := wv_nat (s := pl) (fun i => (bC_rg Tc i).2) (e - pl) (by omega)
              have sm : (kw i).toBitVec.toNat < 65536 := by
                rw [i2]
                exact Nat.lt_of_lt_of_le small (show 2 ^ (8 * (e - pl)) ≤ 2 ^ 16 from Nat.pow_le_pow_right (by decide) (by omega))
              have kv := nk _ _ i3 _ (kn i i1)
              have z204 : (204 : Int32).toInt = 204 := rfl
              have z205 : (205 : Int32).toInt = 205 := rfl
              have z206 : (206 : Int32).toInt = 206 := rfl
              have z209 : (209 : Int32).toInt = 209 := rfl
              have ii : i = 4 ∨ i = 5 ∨ i = 6 ∨ i = 9 := by
                rcases w with w | w | w | w <;> rw [w] at kv <;> omega
              rcases ii with rfl | rfl | rfl | rfl <;> exact absurd sm (by decide)
            · refine Or.inr (Or.inr (Or.inr (Or.inr (Or.inl ⟨i, i1, i3, ?_, by rw [ww, i2]⟩))))
              rcases tt with ⟨t1, _⟩ | ⟨_, t2⟩
              · exact t1
              · exact absurd (by rw [ww]; exact i2) (t2 i i1)
          · refine ⟨pl, e, c2, c3, six, by rw [teq, c3, r3], by omega, x3.2.1, fun w => ?_, fun _ => gt, fun w => ?_, ?_⟩
            · rw [i2] at w
              exact absurd w (by decide)
            · rw [i2] at w
              exact absurd w (by decide)
            · refine Or.inr (Or.inr (Or.inr (Or.inl ⟨i2, ?_, by rw [ww, i3], by rw [i3]; exact i1⟩)))
              rcases tt with ⟨_, j, j1, j2⟩ | ⟨t1, _⟩
              · exact absurd (by rw [j2, ww]) (i1 j j1)
              · exact t1
        · omega
      · rcases y4 with ⟨m8, _⟩ | ⟨m8, tt⟩
        · omega
        · exact ⟨pl, e, c2, c3, six, by rw [teq, c3, r3], by omega, x3.2.1, fun w => by rw [kk] at w; exact absurd w (by decide), fun _ => gt, fun w => by rw [kk] at w; exact absurd w (by decide), Or.inr (Or.inl ⟨kk, tt⟩)⟩
    · exact absurd (by rw [← h3 pl x1]; exact x2) y2
    · exact absurd (by rw [← h3 pl x1]; exact x2) y2
  · have hb := h3 pl x1
    rcases r4.2 with ⟨y1, _⟩ | ⟨y1, y2, _⟩ | ⟨y1, y2, y3, y4, y5⟩ | ⟨y1, y2, y3, _⟩
    · omega
    · exact absurd (by rw [hb]; exact y2) x2
    · have ee : e = e' := isRun_u h3 x4 y4
      subst ee
      have gt : pl < e := by
        rcases Nat.lt_or_ge pl e with q | q
        · exact q
        · exfalso
          have : e = pl := by have := x4.1; omega
          rcases x4.2.2.2 with z | z
          · omega
          · rw [this] at z
            exact z x3
      rcases x5 with ⟨l6, el, kk, nn⟩ | ⟨l6, kk⟩
      · rcases y5 with ⟨m6, _, tt, mm⟩ | ⟨m6, _⟩
        · have rg := nvn_rg (b := bC Tc) (s := pl) (e - pl) l6 (fun i i1 i2 => x4.2.2.1 i i1 (by omega))
          have p6 : 10 ^ (e - pl) ≤ 10 ^ 6 := Nat.pow_le_pow_right (by decide) l6
          have z6 : 10 ^ 6 = 1000000 := rfl
          refine ⟨pl, e, c2, c3, six, by rw [teq, c3, r3], by omega, x4.2.1, fun w => by rw [kk] at w; exact absurd w (by decide), fun _ => gt, fun w => by rw [kk] at w; exact absurd w (by decide), Or.inr (Or.inr (Or.inl ⟨kk, tt, ?_, by rw [nn]; exact rg.1, by rw [nn]; omega⟩))⟩
          rw [nn, mm]
          exact (nvn_cg (e - pl) (fun i i1 i2 => h3 i (by have := x4.2.1; omega))).symm
        · exfalso
          rcases m6 with m6 | ⟨m6, m7⟩
          · omega
          · rcases el with el | el
            · omega
            · exact el (by rw [h3 e m6]; exact m7)
      · rcases y5 with ⟨m6, el, _, _⟩ | ⟨m6, tt⟩
        · exfalso
          rcases l6 with l6 | ⟨l6, l7⟩
          · omega
          · rcases el with el | el
            · omega
            · exact el (by rw [← h3 e l6]; exact l7)
        · exact ⟨pl, e, c2, c3, six, by rw [teq, c3, r3], by omega, x4.2.1, fun w => by rw [kk] at w; exact absurd w (by decide), fun _ => gt, fun w => by rw [kk] at w; exact absurd w (by decide), Or.inr (Or.inl ⟨kk, tt⟩)⟩
    · exact absurd (by rw [← hb]; exact x3) y3
  · have hb := h3 pl x1
    rcases r4.2 with ⟨y1, _⟩ | ⟨y1, y2, _⟩ | ⟨y1, y2, y3, _⟩ | ⟨y1, y2, y3, y4, y5⟩
    · omega
    · exact absurd (by rw [hb]; exact y2) x2
    · exact absurd (by rw [hb]; exact y3) x3
    · rcases x5 with ⟨s1, kk⟩ | ⟨s1, kk⟩
      · rcases y5 with ⟨_, tt⟩ | ⟨s2, _⟩
        · refine ⟨pl, e, c2, c3, six, by rw [teq, c3, r3]; omega, by omega, by omega, fun w => ?_, fun _ => by omega, fun w => ?_, Or.inr (Or.inr (Or.inr (Or.inr (Or.inr ⟨by rw [kk]; exact s1, tt, by rw [sv x1, kk]⟩))))⟩
          · rw [kk] at w
            rw [w] at s1
            exact absurd s1 (by unfold isS; decide)
          · rw [kk] at w
            rcases w with w | w | w | w <;> rw [w] at s1 <;> exact absurd s1 (by unfold isS; decide)
        · exact absurd (by rw [← hb]; exact s1) s2
      · rcases y5 with ⟨s2, _⟩ | ⟨_, tt⟩
        · exact absurd (by rw [hb]; exact s2) s1
        · exact ⟨pl, e, c2, c3, six, by rw [teq, c3, r3]; omega, by omega, by omega, fun w => by rw [kk] at w; exact absurd w (by decide), fun _ => by omega, fun w => by rw [kk] at w; exact absurd w (by decide), Or.inr (Or.inl ⟨kk, tt⟩)⟩
