/-! tokens: the reference's next -/
def bR (T : tT) (i : Nat) : Int32 := T.1 107 i &&& 255
def RE (N : Nat) (T : tT) : Prop := (T.1 105 3).toInt = N ∧ N ≤ 1400
theorem sgn {sz : Nat} {T : tT} {N : Nat} (h : RE N T) {x : Int32} {k : Nat} (hx : x.toInt = k) : v_X11_sign T x = (if k < N then bR T k else 0) ∧ ok_X11_sign sz T x := by
  unfold v_X11_sign ok_X11_sign bR
  rw [tnN hx]
  by_cases c : k < N
  · have c1 : ¬ T.1 105 3 ≤ x := by rw [tle, h.1]; omega
    rw [if_neg c1, if_pos c]
    exact ⟨rfl, fun w => absurd w c1, fun _ => by rw [vp_in_iff]; have := h.2; omega⟩
  · have c1 : T.1 105 3 ≤ x := by rw [tle, h.1]; omega
    rw [if_pos c1, if_neg c]
    exact ⟨rfl, fun _ => trivial, fun w => absurd c1 w⟩
theorem z_no : ¬ isLt 0 ∧ ¬ isD 0 ∧ ¬ isB 0 := by unfold isLt isD isB; decide
theorem isKept_kw {T : tT} {w : Int64} : (v_X11_isKept T w = 0 ↔ ∀ i, i < 15 → kw i ≠ w) := by
  have e0 : kw 0 = 444300616805 := rfl
  have e1 : kw 1 = 1818850164 := rfl
  have e2 : kw 2 = 1885434484 := rfl
  have e3 : kw 3 = 30796695599342963 := rfl
  have e4 : kw 4 = 1836413812 := rfl
  have e5 : kw 5 = 1885434739 := rfl
  have e6 : kw 6 = 469853432180 := rfl
  have e7 : kw 7 = 28530 := rfl
  have e8 : kw 8 = 6385252 := rfl
  have e9 : kw 9 = 7237492 := rfl
  have e10 : kw 10 = 7305070 := rfl
  have e11 : kw 11 = 123597974889843 := rfl
  have e12 : kw 12 = 6383461 := rfl
  have e13 : kw 13 = 500086104428 := rfl
  have e14 : kw 14 = 465557353332 := rfl
  constructor
  · intro h i hi q
    have : i = 0 ∨ i = 1 ∨ i = 2 ∨ i = 3 ∨ i = 4 ∨ i = 5 ∨ i = 6 ∨ i = 7 ∨ i = 8 ∨ i = 9 ∨ i = 10 ∨ i = 11 ∨ i = 12 ∨ i = 13 ∨ i = 14 := by omega
    rcases this with rfl | rfl | rfl | rfl | rfl | rfl | rfl | rfl | rfl | rfl | rfl | rfl | rfl | rfl | rfl <;> subst q <;> exact absurd h (by unfold v_X11_isKept v_X11_isMeant; decide)
  · intro h
    have n0 := h 0 (by decide)
    have n1 := h 1 (by decide)
    have n2 := h 2 (by decide)
    have n3 := h 3 (by decide)
    have n4 := h 4 (by decide)
    have n5 := h 5 (by decide)
    have n6 := h 6 (by decide)
    have n7 := h 7 (by decide)
    have n8 := h 8 (by decide)
    have n9 := h 9 (by decide)
    have n10 := h 10 (by decide)
    have n11 := h 11 (by decide)
    have n12 := h 12 (by decide)
    have n13 := h 13 (by decide)
    have n14 := h 14 (by decide)
    rw [e0] at n0
    rw [e1] at n1
    rw [e2] at n2
    rw [e3] at n3
    rw [e4] at n4
    rw [e5] at n5
    rw [e6] at n6
    rw [e7] at n7
    rw [e8] at n8
    rw [e9] at n9
    rw [e10] at n10
    rw [e11] at n11
    rw [e12] at n12
    rw [e13] at n13
    rw [e14] at n14
    have m : v_X11_isMeant T w = 0 := by
      unfold v_X11_isMeant
      rw [if_neg (Ne.symm n10), if_neg (Ne.symm n11), if_neg (Ne.symm n12), if_neg (Ne.symm n13), if_neg (Ne.symm n14)]
    unfold v_X11_isKept
    rw [if_pos m, if_neg (Ne.symm n0), if_neg (Ne.symm n1), if_neg (Ne.symm n2), if_neg (Ne.symm n3), if_neg (Ne.symm n4), if_neg (Ne.symm n5), if_neg (Ne.symm n6), if_neg (Ne.symm n7), if_neg (Ne.symm n8), if_neg (Ne.symm n9)]
/-- a token in the reference's kinds -/
def RD (b : Nat → Int32) (N a pl e : Nat) (t num : Int32) (w : Int64) : Prop := isRun b isB N a pl ∧ (
  (pl = N ∧ e = pl ∧ t = 0) ∨
  (pl < N ∧ isLt (b pl) ∧ isRun b lod N pl e ∧ ((e - pl ≤ 8 ∧ w = wvn b pl (e - pl) ∧ ((t = 3 ∧ ∃ i, i < 15 ∧ kw i = w) ∨ (t = 2 ∧ ∀ i, i < 15 → kw i ≠ w))) ∨ (8 < e - pl ∧ t = 1))) ∨
  (pl < N ∧ ¬ isLt (b pl) ∧ isD (b pl) ∧ isRun b isD N pl e ∧ ((e - pl ≤ 6 ∧ (e = N ∨ ¬ isLt (b e)) ∧ t = 4 ∧ num = nvn b pl (e - pl)) ∨ ((6 < e - pl ∨ (e < N ∧ isLt (b e))) ∧ t = 1))) ∨
  (pl < N ∧ ¬ isLt (b pl) ∧ ¬ isD (b pl) ∧ e = pl + 1 ∧ ((isS (b pl) ∧ t = 5) ∨ (¬ isS (b pl) ∧ t = 1))))
abbrev w5 : Nat → Nat → Bool := wl [] [(105, 6), (105, 7), (105, 8), (105, 9), (105, 10)]
/-- the name of a word is put together -/
theorem l_name {sz : Nat} {N s e : Nat} {T0 : tT} (se : s ≤ e) (eN : e ≤ N) (N14 : N ≤ 1400) : ∀ (r n k : Nat) (T : tT) (v : Int32), (T.1 105 3).toInt = N → T.1 107 = T0.1 107 → (T.1 105 6).toInt = s → (T.1 105 7).toInt = e → v.toInt = k → s ≤ k → k + r = e → k ≤ s + 8 → r + 1 < n → T.2.1 105 10 = wvn (bR T0) s (k - s) → (fr w5 T ((vl_X11_next n).2.2.2.2.2.2.2.1 T v) ∧ ((vl_X11_next n).2.2.2.2.2.2.2.1 T v).1 105 6 = T.1 105 6 ∧ ((vl_X11_next n).2.2.2.2.2.2.2.1 T v).1 105 7 = T.1 105 7 ∧ ((e - s ≤ 8 ∧ ((vl_X11_next n).2.2.2.2.2.2.2.1 T v).2.1 105 10 = wvn (bR T0) s (e - s) ∧ ((((vl_X11_next n).2.2.2.2.2.2.2.1 T v).1 105 8 = 3 ∧ ∃ i, i < 15 ∧ kw i = ((vl_X11_next n).2.2.2.2.2.2.2.1 T v).2.1 105 10) ∨ (((vl_X11_next n).2.2.2.2.2.2.2.1 T v).1 105 8 = 2 ∧ ∀ i, i < 15 → kw i ≠ ((vl_X11_next n).2.2.2.2.2.2.2.1 T v).2.1 105 10))) ∨ (8 < e - s ∧ ((vl_X11_next n).2.2.2.2.2.2.2.1 T v).1 105 8 = 1))) ∧ (okl_X11_next n).2.2.2.2.2.2.2.1 sz T v := by
  intro r
  have z8 : (8 : Int32).toInt = 8 := rfl
  have fin : ∀ (n : Nat) (T : tT), (T.1 105 6).toInt = s → (T.1 105 7).toInt = e → (e - s ≤ 8 → T.2.1 105 10 = wvn (bR T0) s (e - s)) → (fr w5 T ((vl_X11_next (n + 1)).2.2.2.2.2.2.2.2 T) ∧ ((vl_X11_next (n + 1)).2.2.2.2.2.2.2.2 T).1 105 6 = T.1 105 6 ∧ ((vl_X11_next (n + 1)).2.2.2.2.2.2.2.2 T).1 105 7 = T.1 105 7 ∧ ((e - s ≤ 8 ∧ ((vl_X11_next (n + 1)).2.2.2.2.2.2.2.2 T).2.1 105 10 = wvn (bR T0) s (e - s) ∧ ((((vl_X11_next (n + 1)).2.2.2.2.2.2.2.2 T).1 105 8 = 3 ∧ ∃ i, i < 15 ∧ kw i = ((vl_X11_next (n + 1)).2.2.2.2.2.2.2.2 T).2.1 105 10) ∨ (((vl_X11_next (n + 1)).2.2.2.2.2.2.2.2 T).1 105 8 = 2 ∧ ∀ i, i < 15 → kw i ≠ ((vl_X11_next (n + 1)).2.2.2.2.2.2.2.2 T).2.1 105 10))) ∨ (8 < e - s ∧ ((vl_X11_next (n + 1)).2.2.2.2.2.2.2.2 T).1 105 8 = 1))) := by
    intro n T hs he hw
    have df : (T.1 105 7 - T.1 105 6).toInt = (e : Int) - s := by rw [tsub (by omega) (by omega), he, hs]
    rw [vl_X11_next_s8]
    by_cases c : T.1 105 7 - T.1 105 6 ≤ 8
    · rw [if_pos c]
      rw [tle, df, z8] at c
      by_cases q : v_X11_isKept T (T.2.1 105 10) = 0
      · rw [if_pos q]
        exact ⟨fr_I rfl fr_refl, tI_off (fun w => by have := w.2; omega), tI_off (fun w => by have := w.2; omega), Or.inl ⟨by omega, hw (by omega), Or.inr ⟨tI_at, isKept_kw.mp q⟩⟩⟩
      · rw [if_neg q]
        refine ⟨fr_I rfl fr_refl, tI_off (fun w => by have := w.2; omega), tI_off (fun w => by have := w.2; omega), Or.inl ⟨by omega, hw (by omega), Or.inl ⟨tI_at, ?_⟩⟩⟩
        apply Classical.byContradiction
        intro ne
        exact q (isKept_kw.mpr (fun i hi w => ne ⟨i, hi, w⟩))
    · rw [if_neg c]
      rw [tle, df, z8] at c
      exact ⟨fr_I rfl fr_refl, tI_off (fun w => by have := w.2; omega), tI_off (fun w => by have := w.2; omega), Or.inr ⟨by omega, tI_at⟩⟩
  induction r with
  | zero =>
    intro n k T v hN h7 hs he hv sk kr k8 hn hw
    obtain ⟨n, rfl⟩ : ∃ n', n = n' + 2 := ⟨n - 2, by omega⟩
    have cc : T.1 105 7 ≤ v := by rw [tle]; omega
    rw [vl_X11_next_s7, okl_X11_next_s7, if_pos cc]
    exact ⟨fin n T hs he (fun _ => by rw [hw, show k = e by omega]), fun _ => by rw [okl_X11_next_s8]; trivial, fun w => absurd cc w⟩
  | succ r ih =>
    intro n k T v hN h7 hs he hv sk kr k8 hn hw
    obtain ⟨n, rfl⟩ : ∃ n', n = n' + 2 := ⟨n - 2, by omega⟩
    have cc : ¬ T.1 105 7 ≤ v := by rw [tle]; omega
    have e8 : (T.1 105 6 + 8).toInt = s + 8 := by rw [tadd (by omega) (by omega), hs, z8]
    rw [vl_X11_next_s7, okl_X11_next_s7, if_neg cc]
    by_cases c8 : T.1 105 6 + 8 ≤ v
    · rw [if_pos c8]
      rw [tle, e8] at c8
      have c8' : T.1 105 6 + 8 ≤ v := by rw [tle, e8]; exact c8
      exact ⟨fin n T hs he (fun q => by omega), fun w => absurd w cc, fun _ => ⟨fun _ => by rw [okl_X11_next_s8]; trivial, fun w => absurd c8' w⟩⟩
    · rw [if_neg c8]
      have c8' : k < s + 8 := by rw [tle, e8] at c8; omega
      obtain ⟨g1, g2⟩ := sgn (sz := sz) (T := T) ⟨hN, N14⟩ hv
      rw [if_pos (show k < N by omega)] at g1
      have bt : bR T k = bR T0 k := by unfold bR; rw [h7]
      rw [g1, bt]
      have st : (v + 1).toInt = (k + 1 : Nat) := by rw [tinc' (by omega)]; omega
      obtain ⟨⟨u1, u2, u3, u4⟩, u5⟩ := ih (n + 1) (k + 1) (tJ T 105 10 ((T.2.1 105 10 <<< ((8 : Int32).toInt64 &&& 63)) ||| (bR T0 k).toInt64)) (v + 1) hN h7 hs he st (by omega) (by omega) (by omega) (by omega) (by
        rw [tJ_at, hw, show k + 1 - s = (k - s) + 1 by omega]
        show _ = (wvn (bR T0) s (k - s) <<< _) ||| (bR T0 (s + (k - s))).toInt64
        rw [show s + (k - s) = k by omega])
      exact ⟨⟨fr_trans (fr_J rfl fr_refl) u1, u2, u3, u4⟩, fun w => absurd w cc, fun _ => ⟨fun w => absurd w c8, fun _ => ⟨g2, u5⟩⟩⟩
