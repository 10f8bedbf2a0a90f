/-! tokens: the reference's next, whole; both alike -/
theorem l_wend {sz : Nat} {N s : Nat} {T0 : tT} (N14 : N ≤ 1400) : ∀ (r n k : Nat) (T : tT), (T.1 105 3).toInt = N → T.1 107 = T0.1 107 → (T.1 105 6).toInt = s → (T.1 105 7).toInt = k → s ≤ k → k + r = N → 2 * r + (N - s) + 4 < n → (∀ i, s ≤ i → i < k → lod (bR T0 i)) → (∃ e, isRun (bR T0) lod N s e ∧ fr w5 T ((vl_X11_next n).2.2.2.2.1 T) ∧ ((vl_X11_next n).2.2.2.2.1 T).1 105 6 = T.1 105 6 ∧ (((vl_X11_next n).2.2.2.2.1 T).1 105 7).toInt = e ∧ ((e - s ≤ 8 ∧ ((vl_X11_next n).2.2.2.2.1 T).2.1 105 10 = wvn (bR T0) s (e - s) ∧ ((((vl_X11_next n).2.2.2.2.1 T).1 105 8 = 3 ∧ ∃ i, i < 15 ∧ kw i = ((vl_X11_next n).2.2.2.2.1 T).2.1 105 10) ∨ (((vl_X11_next n).2.2.2.2.1 T).1 105 8 = 2 ∧ ∀ i, i < 15 → kw i ≠ ((vl_X11_next n).2.2.2.2.1 T).2.1 105 10))) ∨ (8 < e - s ∧ ((vl_X11_next n).2.2.2.2.1 T).1 105 8 = 1))) ∧ (okl_X11_next n).2.2.2.2.1 sz T := by
  intro r
  have fin : ∀ (n k : Nat) (T : tT), (T.1 105 3).toInt = N → T.1 107 = T0.1 107 → (T.1 105 6).toInt = s → (T.1 105 7).toInt = k → s ≤ k → k ≤ N → (N - s) + 2 < n → (∀ i, s ≤ i → i < k → lod (bR T0 i)) → (k = N ∨ ¬ lod (bR T0 k)) → (∃ e, isRun (bR T0) lod N s e ∧ fr w5 T ((vl_X11_next n).2.2.2.2.2.2.2.1 (tJ T 105 10 0) (T.1 105 6)) ∧ ((vl_X11_next n).2.2.2.2.2.2.2.1 (tJ T 105 10 0) (T.1 105 6)).1 105 6 = T.1 105 6 ∧ (((vl_X11_next n).2.2.2.2.2.2.2.1 (tJ T 105 10 0) (T.1 105 6)).1 105 7).toInt = e ∧ ((e - s ≤ 8 ∧ ((vl_X11_next n).2.2.2.2.2.2.2.1 (tJ T 105 10 0) (T.1 105 6)).2.1 105 10 = wvn (bR T0) s (e - s) ∧ ((((vl_X11_next n).2.2.2.2.2.2.2.1 (tJ T 105 10 0) (T.1 105 6)).1 105 8 = 3 ∧ ∃ i, i < 15 ∧ kw i = ((vl_X11_next n).2.2.2.2.2.2.2.1 (tJ T 105 10 0) (T.1 105 6)).2.1 105 10) ∨ (((vl_X11_next n).2.2.2.2.2.2.2.1 (tJ T 105 10 0) (T.1 105 6)).1 105 8 = 2 ∧ ∀ i, i < 15 → kw i ≠ ((vl_X11_next n).2.2.2.2.2.2.2.1 (tJ T 105 10 0) (T.1 105 6)).2.1 105 10))) ∨ (8 < e - s ∧ ((vl_X11_next n).2.2.2.2.2.2.2.1 (tJ T 105 10 0) (T.1 105 6)).1 105 8 = 1))) ∧ (okl_X11_next n).2.2.2.2.2.2.2.1 sz (tJ T 105 10 0) (T.1 105 6) := by
    intro n k T hN h7 hs hk sk kN hn hp he
    obtain ⟨⟨u1, u2, u3, u4⟩, u5⟩ := l_name (sz := sz) (T0 := T0) sk kN N14 (k - s) n s (tJ T 105 10 0) (T.1 105 6) hN h7 hs hk hs (Nat.le_refl _) (by omega) (by omega) (by omega) (by rw [tJ_at, Nat.sub_self]; rfl)
    exact ⟨⟨k, ⟨sk, kN, hp, he⟩, fr_trans (fr_J rfl fr_refl) u1, u2, by rw [u3]; exact hk, u4⟩, u5⟩
  induction r with
  | zero =>
    intro n k T hN h7 hs hk sk kr hn hp
    obtain ⟨n, rfl⟩ : ∃ n', n = n' + 1 := ⟨n - 1, by omega⟩
    obtain ⟨g1, g2⟩ := sgn (sz := sz) (T := T) ⟨hN, N14⟩ hk
    rw [if_neg (show ¬ k < N by omega)] at g1
    have l0 : v_X11_isLetter T (v_X11_sign T (T.1 105 7)) = 0 := by rw [g1]; exact x11L.mpr z_no.1
    have d0 : v_X11_isDigit T (v_X11_sign T (T.1 105 7)) = 0 := by rw [g1]; exact x11D.mpr z_no.2.1
    rw [vl_X11_next_s4, okl_X11_next_s4, if_pos l0, if_pos d0]
    obtain ⟨u1, u2⟩ := fin n k T hN h7 hs hk sk (by omega) (by omega) hp (Or.inl (by omega))
    exact ⟨u1, g2, fun w => absurd l0 w, fun _ => ⟨g2, fun _ => u2, fun w => absurd d0 w⟩⟩
  | succ r ih =>
    intro n k T hN h7 hs hk sk kr hn hp
    obtain ⟨n, rfl⟩ : ∃ n', n = n' + 2 := ⟨n - 2, by omega⟩
    obtain ⟨g1, g2⟩ := sgn (sz := sz) (T := T) ⟨hN, N14⟩ hk
    have bt : bR T k = bR T0 k := by unfold bR; rw [h7]
    rw [if_pos (show k < N by omega), bt] at g1
    have st : (T.1 105 7 + 1).toInt = (k + 1 : Nat) := by rw [tinc' (by omega)]; omega
    have go : lod (bR T0 k) → (∃ e, isRun (bR T0) lod N s e ∧ fr w5 T ((vl_X11_next (n + 1)).2.2.2.2.2.2.1 T) ∧ ((vl_X11_next (n + 1)).2.2.2.2.2.2.1 T).1 105 6 = T.1 105 6 ∧ (((vl_X11_next (n + 1)).2.2.2.2.2.2.1 T).1 105 7).toInt = e ∧ ((e - s ≤ 8 ∧ ((vl_X11_next (n + 1)).2.2.2.2.2.2.1 T).2.1 105 10 = wvn (bR T0) s (e - s) ∧ ((((vl_X11_next (n + 1)).2.2.2.2.2.2.1 T).1 105 8 = 3 ∧ ∃ i, i < 15 ∧ kw i = ((vl_X11_next (n + 1)).2.2.2.2.2.2.1 T).2.1 105 10) ∨ (((vl_X11_next (n + 1)).2.2.2.2.2.2.1 T).1 105 8 = 2 ∧ ∀ i, i < 15 → kw i ≠ ((vl_X11_next (n + 1)).2.2.2.2.2.2.1 T).2.1 105 10))) ∨ (8 < e - s ∧ ((vl_X11_next (n + 1)).2.2.2.2.2.2.1 T).1 105 8 = 1))) ∧ (okl_X11_next (n + 1)).2.2.2.2.2.2.1 sz T := by
      intro q
      rw [vl_X11_next_s6, okl_X11_next_s6]
      obtain ⟨⟨e, u1, u2, u3, u4, u5⟩, u6⟩ := ih n (k + 1) (tI T 105 7 (T.1 105 7 + 1)) (by rw [tI_off (fun w => by have := w.2; omega)]; exact hN) (by
        funext i
        rw [tI_off (fun w => by have := w.1; omega)]
        exact congrFun h7 i) (by rw [tI_off (fun w => by have := w.2; omega)]; exact hs) (by rw [tI_at]; exact st) (by omega) (by omega) (by omega) (fun i i1 i2 => by
        by_cases z : i = k
        · rw [z]; exact q
        · exact hp i i1 (by omega))
      exact ⟨⟨e, u1, fr_trans (fr_I rfl fr_refl) u2, by rw [u3]; exact tI_off (fun w => by have := w.2; omega), u4, u5⟩, u6⟩
    rw [vl_X11_next_s4, okl_X11_next_s4, g1]
    by_cases l : isLt (bR T0 k)
    · have l0 : ¬ v_X11_isLetter T (bR T0 k) = 0 := fun w => x11L.mp w l
      rw [if_neg l0]
      obtain ⟨u1, u2⟩ := go (Or.inl l)
      exact ⟨u1, g2, fun _ => u2, fun w => absurd w l0⟩
    · have l0 : v_X11_isLetter T (bR T0 k) = 0 := x11L.mpr l
      rw [if_pos l0]
      by_cases d : isD (bR T0 k)
      · have d0 : ¬ v_X11_isDigit T (bR T0 k) = 0 := fun w => x11D.mp w d
        rw [if_neg d0]
        obtain ⟨u1, u2⟩ := go (Or.inr d)
        exact ⟨u1, g2, fun w => absurd l0 w, fun _ => ⟨g2, fun w => absurd w d0, fun _ => u2⟩⟩
      · have d0 : v_X11_isDigit T (bR T0 k) = 0 := x11D.mpr d
        rw [if_pos d0]
        obtain ⟨u1, u2⟩ := fin (n + 1) k T hN h7 hs hk sk (by omega) (by omega) hp (Or.inr (fun w => w.elim l d))
        exact ⟨u1, g2, fun w => absurd l0 w, fun _ => ⟨g2, fun _ => u2, fun w => absurd d0 w⟩⟩
theorem l_rnum {sz : Nat} {N s : Nat} {T0 : tT} (N14 : N ≤ 1400) : ∀ (r n k : Nat) (T : tT), (T.1 105 3).toInt = N → T.1 107 = T0.1 107 → (T.1 105 6).toInt = s → (T.1 105 7).toInt = k → s ≤ k → k + r = N → 2 * r + 2 < n → (∀ i, s ≤ i → i < k → isD (bR T0 i)) → T.1 105 9 = nvn (bR T0) s (min (k - s) 6) → (∃ e, isRun (bR T0) isD N s e ∧ fr w5 T ((vl_X11_next n).2.2.2.1 T) ∧ ((vl_X11_next n).2.2.2.1 T).1 105 6 = T.1 105 6 ∧ (((vl_X11_next n).2.2.2.1 T).1 105 7).toInt = e ∧ ((e - s ≤ 6 ∧ (e = N ∨ ¬ isLt (bR T0 e)) ∧ ((vl_X11_next n).2.2.2.1 T).1 105 8 = 4 ∧ ((vl_X11_next n).2.2.2.1 T).1 105 9 = nvn (bR T0) s (e - s)) ∨ ((6 < e - s ∨ (e < N ∧ isLt (bR T0 e))) ∧ ((vl_X11_next n).2.2.2.1 T).1 105 8 = 1))) ∧ (okl_X11_next n).2.2.2.1 sz T := by
  intro r
  have z6 : (6 : Int32).toInt = 6 := rfl
  have fin : ∀ (k : Nat) (T : tT), (T.1 105 3).toInt = N → T.1 107 = T0.1 107 → (T.1 105 6).toInt = s → (T.1 105 7).toInt = k → s ≤ k → k ≤ N → (∀ i, s ≤ i → i < k → isD (bR T0 i)) → (k = N ∨ ¬ isD (bR T0 k)) → T.1 105 9 = nvn (bR T0) s (min (k - s) 6) → ∀ T', T' = (if (6 : Int32) < T.1 105 7 - T.1 105 6 then tI T 105 8 1 else (if v_X11_isLetter T (v_X11_sign T (T.1 105 7)) = 0 then tI T 105 8 4 else tI T 105 8 1)) → ∃ e, isRun (bR T0) isD N s e ∧ fr w5 T T' ∧ T'.1 105 6 = T.1 105 6 ∧ (T'.1 105 7).toInt = e ∧ ((e - s ≤ 6 ∧ (e = N ∨ ¬ isLt (bR T0 e)) ∧ T'.1 105 8 = 4 ∧ T'.1 105 9 = nvn (bR T0) s (e - s)) ∨ ((6 < e - s ∨ (e < N ∧ isLt (bR T0 e))) ∧ T'.1 105 8 = 1)) := by
    intro k T hN h7 hs hk sk kN hp he hw T' hT'
    obtain ⟨g1, g2⟩ := sgn (sz := sz) (T := T) ⟨hN, N14⟩ hk
    have bt : bR T k = bR T0 k := by unfold bR; rw [h7]
    refine ⟨k, ⟨sk, kN, hp, he⟩, ?_⟩
    have df : (T.1 105 7 - T.1 105 6).toInt = (k : Int) - s := by rw [tsub (by omega) (by omega), hk, hs]
    have o6 : ∀ v, (tI T 105 8 v).1 105 6 = T.1 105 6 := fun v => tI_off (fun w => by have := w.2; omega)
    have o7 : ∀ v, ((tI T 105 8 v).1 105 7).toInt = k := fun v => by rw [tI_off (fun w => by have := w.2; omega)]; exact hk
    by_cases c : (6 : Int32) < T.1 105 7 - T.1 105 6
    · rw [if_pos c] at hT'
      subst hT'
      rw [tlt, df, z6] at c
      exact ⟨fr_I rfl fr_refl, o6 _, o7 _, Or.inr ⟨Or.inl (by omega), tI_at⟩⟩
    · rw [if_neg c] at hT'
      rw [tlt, df, z6] at c
      by_cases q : k < N ∧ isLt (bR T0 k)
      · rw [if_pos q.1, bt] at g1
        rw [g1, if_neg (fun w => x11L.mp w q.2)] at hT'
        subst hT'
        exact ⟨fr_I rfl fr_refl, o6 _, o7 _, Or.inr ⟨Or.inr q, tI_at⟩⟩
      · have nl : v_X11_isLetter T (v_X11_sign T (T.1 105 7)) = 0 := by
          rw [x11L, g1]
          by_cases y : k < N
          · rw [if_pos y, bt]
            exact fun w => q ⟨y, w⟩
          · rw [if_neg y]
            exact z_no.1
        rw [if_pos nl] at hT'
        subst hT'
        refine ⟨fr_I rfl fr_refl, o6 _, o7 _, Or.inl ⟨by omega, ?_, tI_at, ?_⟩⟩
        · by_cases y : k = N
          · exact Or.inl y
          · exact Or.inr (fun w => q ⟨by omega, w⟩)
        · rw [tI_off (fun q => by have := q.2; omega), hw, show min (k - s) 6 = k - s by omega]
  induction r with
  | zero =>
    intro n k T hN h7 hs hk sk kr hn hp hw
    obtain ⟨n, rfl⟩ : ∃ n', n = n' + 1 := ⟨n - 1, by omega⟩
    obtain ⟨g1, g2⟩ := sgn (sz := sz) (T := T) ⟨hN, N14⟩ hk
    rw [if_neg (show ¬ k < N by omega)] at g1
    have d0 : v_X11_isDigit T (v_X11_sign T (T.1 105 7)) = 0 := by rw [g1]; exact x11D.mpr z_no.2.1
    rw [vl_X11_next_s3, okl_X11_next_s3, if_pos d0]
    exact ⟨fin k T hN h7 hs hk sk (by omega) hp (Or.inl (by omega)) hw _ rfl, g2, fun _ => ⟨fun _ => trivial, fun _ => ⟨g2, trivial⟩⟩, fun w => absurd d0 w⟩
  | succ r ih =>
    intro n k T hN h7 hs hk sk kr hn hp hw
    obtain ⟨n, rfl⟩ : ∃ n', n = n' + 2 := ⟨n - 2, by omega⟩
    obtain ⟨g1, g2⟩ := sgn (sz := sz) (T := T) ⟨hN, N14⟩ hk
    have bt : bR T k = bR T0 k := by unfold bR; rw [h7]
    rw [if_pos (show k < N by omega), bt] at g1
    rw [vl_X11_next_s3, okl_X11_next_s3]
    by_cases d : isD (bR T0 k)
    · have d0 : ¬ v_X11_isDigit T (v_X11_sign T (T.1 105 7)) = 0 := by rw [g1]; exact fun w => x11D.mp w d
      rw [if_neg d0]
      have df : (T.1 105 7 - T.1 105 6).toInt = (k : Int) - s := by rw [tsub (by omega) (by omega), hk, hs]
      have go : ∀ T1 : tT, fr w5 T T1 → (T1.1 105 3).toInt = N → T1.1 107 = T0.1 107 → T1.1 105 6 = T.1 105 6 → T1.1 105 7 = T.1 105 7 → T1.1 105 9 = nvn (bR T0) s (min (k + 1 - s) 6) → (∃ e, isRun (bR T0) isD N s e ∧ fr w5 T ((vl_X11_next (n + 1)).2.2.2.2.2.1 T1) ∧ ((vl_X11_next (n + 1)).2.2.2.2.2.1 T1).1 105 6 = T.1 105 6 ∧ (((vl_X11_next (n + 1)).2.2.2.2.2.1 T1).1 105 7).toInt = e ∧ ((e - s ≤ 6 ∧ (e = N ∨ ¬ isLt (bR T0 e)) ∧ ((vl_X11_next (n + 1)).2.2.2.2.2.1 T1).1 105 8 = 4 ∧ ((vl_X11_next (n + 1)).2.2.2.2.2.1 T1).1 105 9 = nvn (bR T0) s (e - s)) ∨ ((6 < e - s ∨ (e < N ∧ isLt (bR T0 e))) ∧ ((vl_X11_next (n + 1)).2.2.2.2.2.1 T1).1 105 8 = 1))) ∧ (okl_X11_next (n + 1)).2.2.2.2.2.1 sz T1 := by
        intro T1 f1 h3 h71 h6 h77 h9
        rw [vl_X11_next_s5, okl_X11_next_s5]
        obtain ⟨⟨e, u1, u2, u3, u4, u5⟩, u6⟩ := ih n (k + 1) (tI T1 105 7 (T1.1 105 7 + 1)) (by rw [tI_off (fun w => by have := w.2; omega)]; exact h3) (by
          funext i
          rw [tI_off (fun w => by have := w.1; omega)]
          exact congrFun h71 i) (by rw [tI_off (fun w => by have := w.2; omega), h6]; exact hs) (by
          rw [tI_at, h77, tinc' (by omega)]
          omega) (by omega) (by omega) (by omega) (fun i i1 i2 => by
          by_cases z : i = k
          · rw [z]; exact d
          · exact hp i i1 (by omega)) (by rw [tI_off (fun w => by have := w.2; omega)]; exact h9)
        exact ⟨⟨e, u1, fr_trans f1 (fr_trans (fr_I rfl fr_refl) u2), by rw [u3, tI_off (fun w => by have := w.2; omega)]; exact h6, u4, u5⟩, u6⟩
      by_cases c6 : (6 : Int32) ≤ T.1 105 7 - T.1 105 6
      · rw [if_pos c6]
        have c6' := c6
        rw [tle, df, z6] at c6'
        obtain ⟨u1, u2⟩ := go T fr_refl hN h7 rfl rfl (by rw [hw, show min (k - s) 6 = 6 by omega, show min (k + 1 - s) 6 = 6 by omega])
        exact ⟨u1, g2, fun w => absurd w d0, fun _ => ⟨fun _ => u2, fun w => absurd c6 w⟩⟩
      · rw [if_neg c6]
        have c6' := c6
        rw [tle, df, z6] at c6'
        obtain ⟨u1, u2⟩ := go (tI T 105 9 (10 * T.1 105 9 + v_X11_sign T (T.1 105 7) - 48)) (fr_I rfl fr_refl) (by rw [tI_off (fun w => by have := w.2; omega)]; exact hN) (by
          funext i
          rw [tI_off (fun w => by have := w.1; omega)]
          exact congrFun h7 i) (tI_off (fun w => by have := w.2; omega)) (tI_off (fun w => by have := w.2; omega)) (by
          rw [tI_at, hw, g1, show min (k - s) 6 = k - s by omega, show min (k + 1 - s) 6 = (k - s) + 1 by omega, Int32.mul_comm]
          show _ = nvn (bR T0) s (k - s) * 10 + bR T0 (s + (k - s)) - 48
          rw [show s + (k - s) = k by omega])
        exact ⟨u1, g2, fun w => absurd w d0, fun _ => ⟨fun w => absurd w c6, fun _ => ⟨g2, u2⟩⟩⟩
    · have d0 : v_X11_isDigit T (v_X11_sign T (T.1 105 7)) = 0 := by rw [g1]; exact x11D.mpr d
      rw [if_pos d0]
      exact ⟨fin k T hN h7 hs hk sk (by omega) hp (Or.inr d) hw _ rfl, g2, fun _ => ⟨fun _ => trivial, fun _ => ⟨g2, trivial⟩⟩, fun w => absurd d0 w⟩
