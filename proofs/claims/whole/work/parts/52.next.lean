/-! the next session of a set -/
def nxA (T : tT) (m : Nat) (d : Int) (r : Int32) (j : Nat) : Prop := (r = -1 ∧ ∀ t, t < j → bts m t = true → ¬ d ≤ dy T t) ∨ (∃ a : Nat, a < j ∧ r.toInt = a ∧ bts m a = true ∧ d ≤ dy T a ∧ ∀ t, t < j → bts m t = true → d ≤ dy T t → dy T a ≤ dy T t)
theorem l_next {sz : Nat} {T : tT} (hC : ICi T) {S m : Nat} (hS : (T.1 79 2).toInt = S) (S9 : S ≤ 9) {mv dv : Int32} (hm : mv.toInt = m) (m5 : m < 512) : ∀ (k n j : Nat) (v acc : Int32), v.toInt = j → j + k = S → k < n → nxA T m dv.toInt acc j → nxA T m dv.toInt (vl_X11_nextOf n T mv dv acc v) S ∧ okl_X11_nextOf n sz T mv dv acc v := by
  have q1 : T.1 105 58 = T.1 79 2 := hC.1.2.2
  have q2 : T.1 146 = T.1 83 := hC.2.2.1.2.2.2.1
  intro k
  induction k with
  | zero =>
    intro n j v acc hv hj hn hA
    obtain ⟨n, rfl⟩ : ∃ n', n = n' + 1 := ⟨n - 1, by omega⟩
    have c : T.1 79 2 ≤ v := by rw [tle]; omega
    rw [vl_X11_nextOf_s, q1, if_pos c]
    simp only [okl_X11_nextOf]
    rw [q1]
    have : j = S := by omega
    subst this
    exact ⟨hA, fun _ => trivial, fun w => absurd c w⟩
  | succ k ih =>
    intro n j v acc hv hj hn hA
    obtain ⟨n, rfl⟩ : ∃ n', n = n' + 1 := ⟨n - 1, by omega⟩
    have c : ¬ T.1 79 2 ≤ v := by rw [tle]; omega
    have st : (v + 1).toInt = (j + 1 : Nat) := by rw [tinc' (by omega)]; omega
    have bt := i32_bit hm hv (by omega) (by omega)
    have v9 : vp_in v 9 := by rw [vp_in_iff]; omega
    have keep : (bts m j = true → dv.toInt ≤ dy T j → False) → nxA T m dv.toInt acc (j + 1) := by
      intro w
      rcases hA with ⟨a1, a2⟩ | ⟨a, a1, a2, a3, a4, a5⟩
      · refine Or.inl ⟨a1, fun t ht tb td => ?_⟩
        by_cases e : t = j
        · subst e; exact w tb td
        · exact a2 t (by omega) tb td
      · refine Or.inr ⟨a, by omega, a2, a3, a4, fun t ht tb td => ?_⟩
        by_cases e : t = j
        · subst e; exact (w tb td).elim
        · exact a5 t (by omega) tb td
    rw [vl_X11_nextOf_s, q1, if_neg c, bt, q2, tnN hv]
    simp only [okl_X11_nextOf]
    rw [q1, bt, q2, tnN hv]
    have dj : ∀ a : Nat, (T.1 83 a).toInt = dy T a := fun _ => rfl
    by_cases b : m.testBit j = true
    · rw [if_pos b, if_pos rfl]
      by_cases d1 : T.1 83 j < dv
      · rw [if_pos d1]
        have d1' := tlt.mp d1
        rw [dj] at d1'
        obtain ⟨u1, u2⟩ := ih n (j + 1) (v + 1) acc st (by omega) (by omega) (keep (fun _ w => by omega))
        exact ⟨u1, fun w => absurd w c, fun _ => ⟨fun w => absurd rfl w, fun _ => ⟨v9, fun _ => u2, fun w => absurd d1 w⟩⟩⟩
      · rw [if_neg d1]
        have d1' : dv.toInt ≤ dy T j := by rw [tlt, dj] at d1; omega
        by_cases d2 : acc < 0
        · rw [if_pos d2]
          have nA : nxA T m dv.toInt v (j + 1) := by
            refine Or.inr ⟨j, by omega, hv, b, d1', fun t ht tb td => ?_⟩
            by_cases e : t = j
            · subst e; exact Int.le_refl _
            · rcases hA with ⟨a1, a2⟩ | ⟨a, a1, a2, a3⟩
              · exact absurd td (a2 t (by omega) tb)
              · rw [tlt, a2, show (0 : Int32).toInt = 0 from rfl] at d2; omega
          obtain ⟨u1, u2⟩ := ih n (j + 1) (v + 1) v st (by omega) (by omega) nA
          exact ⟨u1, fun w => absurd w c, fun _ => ⟨fun w => absurd rfl w, fun _ => ⟨v9, fun w => absurd w d1, fun _ => ⟨fun _ => u2, fun w => absurd d2 w⟩⟩⟩⟩
        · rw [if_neg d2]
          rcases hA with ⟨a1, a2⟩ | ⟨a, a1, a2, a3, a4, a5⟩
          · rw [a1] at d2; exact absurd (by decide) d2
          · have va : vp_in acc 9 := by rw [vp_in_iff]; omega
            rw [tnN a2]
            by_cases d3 : T.1 83 a ≤ T.1 83 j
            · rw [if_pos d3]
              have d3' := tle.mp d3
              rw [dj, dj] at d3'
              obtain ⟨u1, u2⟩ := ih n (j + 1) (v + 1) acc st (by omega) (by omega) (Or.inr ⟨a, by omega, a2, a3, a4, fun t ht tb td => by
                by_cases e : t = j
                · subst e; exact d3'
                · exact a5 t (by omega) tb td⟩)
              exact ⟨u1, fun w => absurd w c, fun _ => ⟨fun w => absurd rfl w, fun _ => ⟨v9, fun w => absurd w d1, fun _ => ⟨fun w => absurd w d2, fun _ => ⟨v9, va, fun _ => u2, fun w => absurd d3 w⟩⟩⟩⟩⟩
            · rw [if_neg d3]
              have d3' : dy T j < dy T a := by rw [tle, dj, dj] at d3; omega
              obtain ⟨u1, u2⟩ := ih n (j + 1) (v + 1) v st (by omega) (by omega) (Or.inr ⟨j, by omega, hv, b, d1', fun t ht tb td => by
                by_cases e : t = j
                · subst e; exact Int.le_refl _
                · have := a5 t (by omega) tb td
                  omega⟩)
              exact ⟨u1, fun w => absurd w c, fun _ => ⟨fun w => absurd rfl w, fun _ => ⟨v9, fun w => absurd w d1, fun _ => ⟨fun w => absurd w d2, fun _ => ⟨v9, va, fun w => absurd w d3, fun _ => u2⟩⟩⟩⟩⟩
    · rw [if_neg b, if_neg (by decide)]
      obtain ⟨u1, u2⟩ := ih n (j + 1) (v + 1) acc st (by omega) (by omega) (keep (fun w _ => b w))
      exact ⟨u1, fun w => absurd w c, fun _ => ⟨fun _ => u2, fun w => absurd w (by decide)⟩⟩
theorem e_next {sz : Nat} {T : tT} (hC : ICi T) {S m : Nat} (hS : (T.1 79 2).toInt = S) (S9 : S ≤ 9) {mv : Int32} (dv : Int32) (hm : mv.toInt = m) (m5 : m < 512) : nxA T m dv.toInt (v_X11_nextOf T mv dv) S ∧ ok_X11_nextOf sz T mv dv := l_next hC hS S9 hm m5 S fu 0 0 (-1) rfl (by omega) (by rw [fu_eq]; omega) (Or.inl ⟨rfl, fun t ht => absurd ht (Nat.not_lt_zero _)⟩)
