/-! what is fixed already -/
/-- own sessions m of examiner x agree with what is fixed in the row f -/
def agr (f : Nat → Int32) (S x m : Nat) : Prop := ∀ s, s < S → 0 ≤ f s → (f s = nI x ↔ bts m s = true)
theorem l_agrees {sz : Nat} {T : tT} (hC : ICi T) {S m x : Nat} (hS : (T.1 79 2).toInt = S) (S9 : S ≤ 9) {mv : Int32} (hm' : mv.toInt = m) (m5 : m < 512) : ∀ (r n k : Nat) (v : Int32), v.toInt = k → k + r = S → r < n → agr (T.1 149) k x m → (agr (T.1 149) S x m → vl_X11_agrees n T (nI x) mv v = 1) ∧ (¬ agr (T.1 149) S x m → vl_X11_agrees n T (nI x) mv v = 0) ∧ okl_X11_agrees n sz T (nI x) mv v := by
  have q0 : T.1 105 58 = T.1 79 2 := hC.1.2.2
  intro r
  induction r with
  | zero =>
    intro n k v hv hk hn hp
    obtain ⟨n, rfl⟩ : ∃ n', n = n' + 1 := ⟨n - 1, by omega⟩
    have c : T.1 79 2 ≤ v := by rw [tle]; omega
    have kS : k = S := by omega
    rw [kS] at hp
    rw [vl_X11_agrees_s, q0, if_pos c]
    simp only [okl_X11_agrees]
    rw [q0]
    refine ⟨?_, fun w => absurd hp w, fun _ => trivial, fun w => absurd c w⟩
    intro _
    trivial
  | succ r ih =>
    intro n k v hv hk hn hp
    obtain ⟨n, rfl⟩ : ∃ n', n = n' + 1 := ⟨n - 1, by omega⟩
    have c : ¬ T.1 79 2 ≤ v := by rw [tle]; omega
    have bt := i32_bit hm' hv (by omega) (by omega)
    have v9 : vp_in v 9 := by rw [vp_in_iff]; omega
    have st : (v + 1).toInt = (k + 1 : Nat) := by rw [tinc' (by omega)]; omega
    have u := fun h => ih n (k + 1) (v + 1) st (by omega) (by omega) h
    have ext : (0 ≤ T.1 149 k → (T.1 149 k = nI x ↔ bts m k = true)) → agr (T.1 149) (k + 1) x m := by
      intro h s hs h0
      by_cases e : s = k
      · subst e; exact h h0
      · exact hp s (by omega) h0
    rw [vl_X11_agrees_s, q0, if_neg c, bt, tnN hv]
    simp only [okl_X11_agrees]
    rw [q0, bt, tnN hv]
    by_cases f0 : T.1 149 k < 0
    · rw [if_pos f0]
      obtain ⟨u1, u2, u3⟩ := u (ext (fun w => by grind))
      exact ⟨u1, u2, fun w => absurd w c, fun _ => ⟨v9, fun _ => u3, fun w => absurd f0 w⟩⟩
    · have f0' : 0 ≤ T.1 149 k := by grind
      rw [if_neg f0]
      by_cases fx : T.1 149 k = nI x
      · rw [if_pos fx]
        by_cases b : m.testBit k = true
        · rw [if_pos b, if_pos rfl]
          obtain ⟨u1, u2, u3⟩ := u (ext (fun _ => ⟨fun _ => b, fun _ => fx⟩))
          exact ⟨u1, u2, fun w => absurd w c, fun _ => ⟨v9, fun w => absurd w f0, fun _ => ⟨v9, fun w => absurd fx w, fun _ => ⟨fun w => absurd rfl w, fun _ => u3⟩⟩⟩⟩
        · rw [if_neg b, if_neg (by decide)]
          have na : ¬ agr (T.1 149) S x m := fun w => b ((w k (by omega) f0').mp fx)
          refine ⟨fun w => absurd w na, ?_, fun w => absurd w c, fun _ => ⟨v9, fun w => absurd w f0, fun _ => ⟨v9, fun w => absurd fx w, fun _ => ⟨fun _ => trivial, fun w => absurd w (by decide)⟩⟩⟩⟩
          intro _
          trivial
      · rw [if_neg fx]
        by_cases b : m.testBit k = true
        · rw [if_pos b, if_pos rfl]
          have na : ¬ agr (T.1 149) S x m := fun w => fx ((w k (by omega) f0').mpr b)
          refine ⟨fun w => absurd w na, ?_, fun w => absurd w c, fun _ => ⟨v9, fun w => absurd w f0, fun _ => ⟨v9, fun _ => ⟨fun w => absurd rfl w, fun _ => trivial⟩, fun w => absurd w fx⟩⟩⟩
          intro _
          trivial
        · rw [if_neg b, if_neg (by decide)]
          obtain ⟨u1, u2, u3⟩ := u (ext (fun _ => ⟨fun w => absurd w fx, fun w => absurd w b⟩))
          exact ⟨u1, u2, fun w => absurd w c, fun _ => ⟨v9, fun w => absurd w f0, fun _ => ⟨v9, fun _ => ⟨fun _ => u3, fun w => absurd w (by decide)⟩, fun w => absurd w fx⟩⟩⟩
theorem e_agrees {sz : Nat} {T : tT} (hC : ICi T) {S m x : Nat} (hS : (T.1 79 2).toInt = S) (S9 : S ≤ 9) {mv xv : Int32} (hm' : mv.toInt = m) (m5 : m < 512) (hx : xv.toInt = x) (x5 : x < 5) : (agr (T.1 149) S x m → v_X11_agrees T xv mv = 1) ∧ (¬ agr (T.1 149) S x m → v_X11_agrees T xv mv = 0) ∧ ok_X11_agrees sz T xv mv := by
  rw [nI_self hx (by omega)]
  exact l_agrees hC hS S9 hm' m5 S fu 0 0 rfl (by omega) (by rw [fu_eq]; omega) (fun s hs => absurd hs (Nat.not_lt_zero _))
