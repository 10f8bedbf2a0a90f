/-! an item -/
theorem tk_w {N : Nat} {Tc Tr : tT} (h : TK N Tc Tr) {i : Nat} (hi : i < 15) : ((if Tr.1 105 8 = 3 then Tr.2.1 105 10 else 0) = kw i) ↔ Tc.1 4 2 = nI (200 + i) := by
  have k0 : kw i ≠ 0 := by
    have : ∀ j, j < 15 → kw j ≠ 0 := by decide
    exact this i hi
  have t := tk_word h hi
  unfold v_X11_isWord at t
  constructor
  · intro e
    refine Classical.byContradiction fun w => ?_
    have := t.mpr w
    by_cases c : Tr.1 105 8 = 3
    · rw [if_pos c] at e this
      rw [if_pos e] at this
      cases this
    · rw [if_neg c] at e
      exact k0 e.symm
  · intro e
    by_cases c : Tr.1 105 8 = 3
    · rw [if_pos c] at t ⊢
      refine Classical.byContradiction fun w => ?_
      rw [if_neg w] at t
      exact t.mp rfl e
    · rw [if_neg c] at t
      exact absurd e (t.mp rfl)
theorem eqC_i {q : Nat} {T T' : tT} (e : eqC q T T') (o i : Nat) (ho : o < 7) : T'.1 (q + o) i = T.1 (q + o) i ∧ T'.2.1 (q + o) i = T.2.1 (q + o) i := ⟨congrFun (e o ho).1 i, congrFun (e o ho).2 i⟩
theorem I_must {sz N p q b h : Nat} {hv : Int32} {Tc Tr : tT} (g : gq p q) (hb : b < 5) (hh : hv.toInt = h) (h40 : h < 40) (hB : BR sz N p b Tc Tr) (hG : GB2 Tc Tr p b q h) (hk : Tc.1 4 2 = 204) {m0 : Nat} (hm0 : (Tc.1 q 3).toInt = m0) (m8 : m0 < 8) : IT sz N p q b h Tc Tr (F_X6_take (F_X8_addCell (Fc_readE (tI (F_X3_addRule (F_X9_next Tc) q 204 ((F_X9_next Tc).1 p 3)) 3 4 1) q 0) p 59 0) 59) (if v_X11_isGood (tI (tI (tI (F_X11_e (F_X11_next Tr) hv 1) 117 (8 * h + m0) ((F_X11_next Tr).1 105 14)) 118 (8 * h + m0) ((F_X11_e (F_X11_next Tr) hv 1).1 105 14)) 115 h (Tr.1 115 h + 1)) = 0 then tI (tI (tI (F_X11_e (F_X11_next Tr) hv 1) 117 (8 * h + m0) ((F_X11_next Tr).1 105 14)) 118 (8 * h + m0) ((F_X11_e (F_X11_next Tr) hv 1).1 105 14)) 115 h (Tr.1 115 h + 1) else F_X11_must (tI (tI (tI (F_X11_e (F_X11_next Tr) hv 1) 117 (8 * h + m0) ((F_X11_next Tr).1 105 14)) 118 (8 * h + m0) ((F_X11_e (F_X11_next Tr) hv 1).1 105 14)) 115 h (Tr.1 115 h + 1)) 59) ∧ (Fc_readE (tI (F_X3_addRule (F_X9_next Tc) q 204 ((F_X9_next Tc).1 p 3)) 3 4 1) q 0).2.2 3 3 = some p ∧ okc_readE sz (tI (F_X3_addRule (F_X9_next Tc) q 204 ((F_X9_next Tc).1 p 3)) 3 4 1) q 0 ∧ ok_X8_addCell sz (Fc_readE (tI (F_X3_addRule (F_X9_next Tc) q 204 ((F_X9_next Tc).1 p 3)) 3 4 1) q 0) p 59 0 ∧ ok_X6_take sz (F_X8_addCell (Fc_readE (tI (F_X3_addRule (F_X9_next Tc) q 204 ((F_X9_next Tc).1 p 3)) 3 4 1) q 0) p 59 0) 59 ∧ ok_X11_e sz (F_X11_next Tr) hv 1 ∧ ((v_X11_isGood (tI (tI (tI (F_X11_e (F_X11_next Tr) hv 1) 117 (8 * h + m0) ((F_X11_next Tr).1 105 14)) 118 (8 * h + m0) ((F_X11_e (F_X11_next Tr) hv 1).1 105 14)) 115 h (Tr.1 115 h + 1)) = 0 → True) ∧ (¬ v_X11_isGood (tI (tI (tI (F_X11_e (F_X11_next Tr) hv 1) 117 (8 * h + m0) ((F_X11_next Tr).1 105 14)) 118 (8 * h + m0) ((F_X11_e (F_X11_next Tr) hv 1).1 105 14)) 115 h (Tr.1 115 h + 1)) = 0 → (ok_X11_must sz (tI (tI (tI (F_X11_e (F_X11_next Tr) hv 1) 117 (8 * h + m0) ((F_X11_next Tr).1 105 14)) 118 (8 * h + m0) ((F_X11_e (F_X11_next Tr) hv 1).1 105 14)) 115 h (Tr.1 115 h + 1)) 59 ∧ True))) := by
  obtain ⟨n1, n2, n3, _⟩ := BR_next hB
  have g1 := g.1
  have g2 := g.2
  have ec : ∀ k i, 9 ≤ k → (F_X9_next Tc).1 k i = Tc.1 k i ∧ (F_X9_next Tc).2.1 k i = Tc.2.1 k i := fun k i hk => ⟨fr_i n2 (w4_z (by omega)), fr_j n2 (w4_z (by omega))⟩
  have eA : F_X3_addRule (F_X9_next Tc) q 204 ((F_X9_next Tc).1 p 3) = tI (tI (F_X9_next Tc) (q + 6) m0 ((F_X9_next Tc).1 p 3)) q 3 (Tc.1 q 3 + 1) := by
    unfold F_X3_addRule
    rw [if_neg (by decide), if_neg (by decide), (ec q 3 (by omega)).1, if_neg (by rw [tle, hm0, show (8 : Int32).toInt = 8 from rfl]; omega), tnN hm0, tI_off (fun z => by have := z.1; omega), (ec q 3 (by omega)).1]
  rw [eA]
  refine R_rule g hb hh h40 (Or.inl ⟨rfl, rfl⟩) hB hG (Or.inl hk) (fr_I (by unfold wq; simp) (fr_I (wq_q (by omega) (by omega)) (fr_I (wq_q (by omega) (by omega)) fr_refl))) tI_at ⟨?_, ?_, fun i => ⟨(ec _ i (by omega)).2, (ec _ i (by omega)).2⟩⟩ ?_ ?_
  · rw [tI_off (fun z => by have := z.1; omega), tI_off (fun z => by have := z.2; omega), tI_off (fun z => by have := z.1; omega), (ec q 1 (by omega)).1]
  · rw [tI_off (fun z => by have := z.1; omega), tI_off (fun z => by have := z.2; omega), tI_off (fun z => by have := z.1; omega), (ec q 2 (by omega)).1]
  · refine fr_I ?_ (fr_I ?_ (fr_I ?_ fr_refl))
    · unfold wg; simp
    · unfold wg
      rw [show (8 * h + m0) / 8 = h by omega]
      simp
    · unfold wg
      rw [show (8 * h + m0) / 8 = h by omega]
      simp
  · intro T4 e4 kc kr er rul
    generalize F_X11_e (F_X11_next Tr) hv 1 = R2 at *
    have a : ∀ o i, o < 7 → ¬ (o = 0 ∧ i = 3) → ¬ (o = 6 ∧ i = m0) → T4.1 (q + o) i = Tc.1 (q + o) i ∧ T4.2.1 (q + o) i = Tc.2.1 (q + o) i := fun o i ho h1 h2 => by
      rw [(eqC_i e4 o i ho).1, (eqC_i e4 o i ho).2, tI_off (fun z => by have := z.1; omega), tI_off (fun z => by have := z.1; have := z.2; omega), tI_off (fun z => by have := z.1; have := z.2; omega), (ec (q + o) i (by omega)).1]
      exact ⟨rfl, (ec (q + o) i (by omega)).2⟩
    have a3 : T4.1 q 3 = Tc.1 q 3 + 1 := by
      have := (eqC_i e4 0 3 (by decide)).1
      rw [Nat.add_zero] at this
      rw [this, tI_off (fun z => by have := z.1; omega), tI_at]
    have a6 : T4.1 (q + 6) m0 = (F_X9_next Tc).1 p 3 := by
      rw [(eqC_i e4 6 m0 (by decide)).1, tI_off (fun z => by have := z.1; omega), tI_off (fun z => by have := z.1; omega), tI_at]
    obtain ⟨⟨r1, r2, r3, r4, r5, r6, r7, r8⟩, rb, rj, rm⟩ := er
    have r : ∀ k i, k ≠ 115 → k ≠ 117 → k ≠ 118 → (tI (tI (tI R2 117 (8 * h + m0) ((F_X11_next Tr).1 105 14)) 118 (8 * h + m0) (R2.1 105 14)) 115 h (Tr.1 115 h + 1)).1 k i = R2.1 k i := fun k i h1 h2 h3 => by rw [tI_off (fun z => h1 z.1), tI_off (fun z => h3 z.1), tI_off (fun z => h2 z.1)]
    have r' : ∀ i, i ≠ 8 * h + m0 → (tI (tI (tI R2 117 (8 * h + m0) ((F_X11_next Tr).1 105 14)) 118 (8 * h + m0) (R2.1 105 14)) 115 h (Tr.1 115 h + 1)).1 117 i = R2.1 117 i ∧ (tI (tI (tI R2 117 (8 * h + m0) ((F_X11_next Tr).1 105 14)) 118 (8 * h + m0) (R2.1 105 14)) 115 h (Tr.1 115 h + 1)).1 118 i = R2.1 118 i := fun i hi => by
      constructor
      · rw [tI_off (fun z => by have := z.1; omega), tI_off (fun z => by have := z.1; omega), tI_off (fun z => hi z.2)]
      · rw [tI_off (fun z => by have := z.1; omega), tI_off (fun z => hi z.2), tI_off (fun z => by have := z.1; omega)]
    have s1 : (tI (tI (tI R2 117 (8 * h + m0) ((F_X11_next Tr).1 105 14)) 118 (8 * h + m0) (R2.1 105 14)) 115 h (Tr.1 115 h + 1)).1 117 (8 * h + m0) = (F_X11_next Tr).1 105 14 := by rw [tI_off (fun z => by have := z.1; omega), tI_off (fun z => by have := z.1; omega), tI_at]
    have s2 : (tI (tI (tI R2 117 (8 * h + m0) ((F_X11_next Tr).1 105 14)) 118 (8 * h + m0) (R2.1 105 14)) 115 h (Tr.1 115 h + 1)).1 118 (8 * h + m0) = R2.1 105 14 := by rw [tI_off (fun z => by have := z.1; omega), tI_at]
    have s3 : (tI (tI (tI R2 117 (8 * h + m0) ((F_X11_next Tr).1 105 14)) 118 (8 * h + m0) (R2.1 105 14)) 115 h (Tr.1 115 h + 1)).1 115 h = Tr.1 115 h + 1 := tI_at
    have sj : (tI (tI (tI R2 117 (8 * h + m0) ((F_X11_next Tr).1 105 14)) 118 (8 * h + m0) (R2.1 105 14)) 115 h (Tr.1 115 h + 1)).2.1 = R2.2.1 := rfl
    generalize tI (tI (tI R2 117 (8 * h + m0) ((F_X11_next Tr).1 105 14)) 118 (8 * h + m0) (R2.1 105 14)) 115 h (Tr.1 115 h + 1) = R3 at *
    obtain ⟨x1, x2, x3, x4, x5, x6⟩ := hG
    have c : ∀ i, i ≠ 3 → T4.1 q i = Tc.1 q i := fun i hi => (a 0 i (by decide) (by omega) (by omega)).1
    refine ⟨GL_up (c 1 (by decide)) (fun l _ => ⟨(a 1 l (by decide) (by omega) (by omega)).2, (a 2 l (by decide) (by omega) (by omega)).1⟩) (fun l k _ _ => (a 3 _ (by decide) (by omega) (by omega)).2) (by rw [r _ _ (by decide) (by decide) (by decide), r1]) (fun l hl => ⟨by rw [r _ _ (by decide) (by decide) (by decide), (rb l hl).1], by rw [sj, (rb l hl).2.2.1]⟩) (fun l k hl hk => by rw [sj, rj l k hl hk]) x1, GP2_up (c 2 (by decide)) (fun l _ => ⟨(a 4 l (by decide) (by omega) (by omega)).2, (a 5 l (by decide) (by omega) (by omega)).1⟩) (by rw [r _ _ (by decide) (by decide) (by decide), r2]) (fun l hl => ⟨by rw [r _ _ (by decide) (by decide) (by decide), (rb l hl).2.1], by rw [sj, (rb l hl).2.2.2]⟩) x2, ?_, ?_, GR_up kc kr (tle_e (c 1 (by decide))) (tle_e (c 2 (by decide))) (c 5 (by decide)) (by rw [r _ _ (by decide) (by decide) (by decide), r5]) (by rw [r _ _ (by decide) (by decide) (by decide), r6]) x5, GR_up kc kr (tle_e (c 1 (by decide))) (tle_e (c 2 (by decide))) (c 6 (by decide)) (by rw [r _ _ (by decide) (by decide) (by decide), r7]) (by rw [r _ _ (by decide) (by decide) (by decide), r8]) x6⟩
    · obtain ⟨y1, y2⟩ := x3
      have z1 : (Tc.1 q 3 + 1).toInt = (m0 + 1 : Nat) := by rw [tinc' (by omega)]; omega
      unfold GM
      rw [a3, s3, ← y1.1, c 1 (by decide), c 2 (by decide)]
      refine ⟨⟨rfl, by rw [tle, z1]; exact Int.natCast_nonneg _, by rw [tle, z1, show (8 : Int32).toInt = 8 from rfl]; omega⟩, fun m hm => ?_⟩
      rw [z1] at hm
      by_cases d : m = m0
      · rw [d, a6, s1, s2]
        exact rul
      · rw [(a 6 m (by decide) (by omega) (by omega)).1, (r' (8 * h + m) (by omega)).1, (r' (8 * h + m) (by omega)).2, (rm m (by omega)).1, (rm m (by omega)).2]
        exact Rul2_up kc kr (tle_r _) (tle_r _) (y2 m (by omega))
    · unfold GMi
      rw [c 4 (by decide), r _ _ (by decide) (by decide) (by decide), r4]
      exact x4
theorem I_rule {sz N p q b h : Nat} {hv k5 : Int32} {Tc Tr : tT} {i5 w5' : Nat} (hi5 : (k5 = 205 ∧ i5 = 5 ∧ w5' = 119) ∨ (k5 = 206 ∧ i5 = 6 ∧ w5' = 121)) (g : gq p q) (hb : b < 5) (hh : hv.toInt = h) (h40 : h < 40) (hB : BR sz N p b Tc Tr) (hG : GB2 Tc Tr p b q h) (hk : Tc.1 4 2 = k5) : IT sz N p q b h Tc Tr (F_X6_take (F_X8_addCell (Fc_readE (tI (tI (F_X9_next Tc) q i5 ((F_X9_next Tc).1 p 3)) 3 4 0) q 0) p 59 0) 59) (if v_X11_isGood (tI (tI (F_X11_e (F_X11_next Tr) hv 0) w5' h ((F_X11_next Tr).1 105 14)) (w5' + 1) h ((F_X11_e (F_X11_next Tr) hv 0).1 105 14)) = 0 then tI (tI (F_X11_e (F_X11_next Tr) hv 0) w5' h ((F_X11_next Tr).1 105 14)) (w5' + 1) h ((F_X11_e (F_X11_next Tr) hv 0).1 105 14) else F_X11_must (tI (tI (F_X11_e (F_X11_next Tr) hv 0) w5' h ((F_X11_next Tr).1 105 14)) (w5' + 1) h ((F_X11_e (F_X11_next Tr) hv 0).1 105 14)) 59) ∧ (Fc_readE (tI (tI (F_X9_next Tc) q i5 ((F_X9_next Tc).1 p 3)) 3 4 0) q 0).2.2 3 3 = some p ∧ okc_readE sz (tI (tI (F_X9_next Tc) q i5 ((F_X9_next Tc).1 p 3)) 3 4 0) q 0 ∧ ok_X8_addCell sz (Fc_readE (tI (tI (F_X9_next Tc) q i5 ((F_X9_next Tc).1 p 3)) 3 4 0) q 0) p 59 0 ∧ ok_X6_take sz (F_X8_addCell (Fc_readE (tI (tI (F_X9_next Tc) q i5 ((F_X9_next Tc).1 p 3)) 3 4 0) q 0) p 59 0) 59 ∧ ok_X11_e sz (F_X11_next Tr) hv 0 ∧ ((v_X11_isGood (tI (tI (F_X11_e (F_X11_next Tr) hv 0) w5' h ((F_X11_next Tr).1 105 14)) (w5' + 1) h ((F_X11_e (F_X11_next Tr) hv 0).1 105 14)) = 0 → True) ∧ (¬ v_X11_isGood (tI (tI (F_X11_e (F_X11_next Tr) hv 0) w5' h ((F_X11_next Tr).1 105 14)) (w5' + 1) h ((F_X11_e (F_X11_next Tr) hv 0).1 105 14)) = 0 → (ok_X11_must sz (tI (tI (F_X11_e (F_X11_next Tr) hv 0) w5' h ((F_X11_next Tr).1 105 14)) (w5' + 1) h ((F_X11_e (F_X11_next Tr) hv 0).1 105 14)) 59 ∧ True))) := by
  obtain ⟨n1, n2, n3, _⟩ := BR_next hB
  have g1 := g.1
  have g2 := g.2
  have i56 : 5 ≤ i5 := by omega
  have ec : ∀ k i, 9 ≤ k → (F_X9_next Tc).1 k i = Tc.1 k i ∧ (F_X9_next Tc).2.1 k i = Tc.2.1 k i := fun k i hk => ⟨fr_i n2 (w4_z (by omega)), fr_j n2 (w4_z (by omega))⟩
  refine R_rule g hb hh h40 (Or.inr ⟨rfl, rfl⟩) hB hG (Or.inr (by rcases hi5 with w | w <;> rw [hk, w.1] <;> decide)) (fr_I (by unfold wq; simp) (fr_I (wq_q (by omega) (by omega)) fr_refl)) tI_at ⟨?_, ?_, fun i => ⟨(ec _ i (by omega)).2, (ec _ i (by omega)).2⟩⟩ ?_ ?_
  · rw [tI_off (fun z => by have := z.1; omega), tI_off (fun z => by have := z.2; omega), (ec q 1 (by omega)).1]
  · rw [tI_off (fun z => by have := z.1; omega), tI_off (fun z => by have := z.2; omega), (ec q 2 (by omega)).1]
  · refine fr_I ?_ (fr_I ?_ fr_refl)
    · rcases hi5 with w | w <;> rw [w.2.2] <;> unfold wg <;> simp
    · rcases hi5 with w | w <;> rw [w.2.2] <;> unfold wg <;> simp
  · intro T4 e4 kc kr er rul
    generalize F_X11_e (F_X11_next Tr) hv 0 = R2 at *
    have a : ∀ o i, o < 7 → ¬ (o = 0 ∧ i = i5) → T4.1 (q + o) i = Tc.1 (q + o) i ∧ T4.2.1 (q + o) i = Tc.2.1 (q + o) i := fun o i ho h1 => by
      rw [(eqC_i e4 o i ho).1, (eqC_i e4 o i ho).2, tI_off (fun z => by have := z.1; omega), tI_off (fun z => by have := z.1; have := z.2; omega), (ec (q + o) i (by omega)).1]
      exact ⟨rfl, (ec (q + o) i (by omega)).2⟩
    have a5 : T4.1 q i5 = (F_X9_next Tc).1 p 3 := by
      have := (eqC_i e4 0 i5 (by decide)).1
      rw [Nat.add_zero] at this
      rw [this, tI_off (fun z => by have := z.1; omega), tI_at]
    obtain ⟨⟨r1, r2, r3, r4, r5, r6, r7, r8⟩, rb, rj, rm⟩ := er
    have r : ∀ k i, k ≠ w5' → k ≠ w5' + 1 → (tI (tI R2 w5' h ((F_X11_next Tr).1 105 14)) (w5' + 1) h (R2.1 105 14)).1 k i = R2.1 k i := fun k i h1 h2 => by rw [tI_off (fun z => h2 z.1), tI_off (fun z => h1 z.1)]
    have s1 : (tI (tI R2 w5' h ((F_X11_next Tr).1 105 14)) (w5' + 1) h (R2.1 105 14)).1 w5' h = (F_X11_next Tr).1 105 14 := by rw [tI_off (fun z => by have := z.1; omega), tI_at]
    have s2 : (tI (tI R2 w5' h ((F_X11_next Tr).1 105 14)) (w5' + 1) h (R2.1 105 14)).1 (w5' + 1) h = R2.1 105 14 := tI_at
    have sj : (tI (tI R2 w5' h ((F_X11_next Tr).1 105 14)) (w5' + 1) h (R2.1 105 14)).2.1 = R2.2.1 := rfl
    generalize tI (tI R2 w5' h ((F_X11_next Tr).1 105 14)) (w5' + 1) h (R2.1 105 14) = R3 at *
    obtain ⟨x1, x2, x3, x4, x5, x6⟩ := hG
    have c : ∀ i, i ≠ i5 → T4.1 q i = Tc.1 q i := fun i hi => (a 0 i (by decide) (by omega)).1
    have hn : 0 ≤ (F_X9_next Tc).1 p 3 ∧ 0 ≤ (F_X11_next Tr).1 105 14 := by
      obtain ⟨_, _, _, _, _, _, ⟨y1, y2⟩, _⟩ := n1
      rw [tle, tle, show (0 : Int32).toInt = 0 from rfl]
      omega
    have new : GR T4 R3 p b q h i5 w5' := by
      unfold GR
      rw [a5, s1, s2, c 1 (by omega), c 2 (by omega)]
      exact Or.inr ⟨hn.1, hn.2, rul⟩
    have old : ∀ i w, GR Tc Tr p b q h i w → i ≠ i5 → w ≠ w5' → w ≠ w5' + 1 → w + 1 ≠ w5' → w ≠ w5' → R2.1 w h = Tr.1 w h → R2.1 (w + 1) h = Tr.1 (w + 1) h → GR T4 R3 p b q h i w := fun i w hg h1 h2 h3 h4 h5 e1 e2 => GR_up kc kr (tle_e (c 1 (by omega))) (tle_e (c 2 (by omega))) (c i h1) (by rw [r _ _ h2 h3, e1]) (by rw [r _ _ h4 (by omega), e2]) hg
    refine ⟨GL_up (c 1 (by omega)) (fun l _ => ⟨(a 1 l (by decide) (by omega)).2, (a 2 l (by decide) (by omega)).1⟩) (fun l k _ _ => (a 3 _ (by decide) (by omega)).2) (by rw [r _ _ (by omega) (by omega), r1]) (fun l hl => ⟨by rw [r _ _ (by omega) (by omega), (rb l hl).1], by rw [sj, (rb l hl).2.2.1]⟩) (fun l k hl hk => by rw [sj, rj l k hl hk]) x1, GP2_up (c 2 (by omega)) (fun l _ => ⟨(a 4 l (by decide) (by omega)).2, (a 5 l (by decide) (by omega)).1⟩) (by rw [r _ _ (by omega) (by omega), r2]) (fun l hl => ⟨by rw [r _ _ (by omega) (by omega), (rb l hl).2.1], by rw [sj, (rb l hl).2.2.2]⟩) x2, GM_up kc kr (tle_e (c 1 (by omega))) (tle_e (c 2 (by omega))) (c 3 (by omega)) (fun m _ => (a 6 m (by decide) (by omega)).1) (by rw [r _ _ (by omega) (by omega), r3]) (fun m hm => ⟨by rw [r _ _ (by omega) (by omega), (rm m hm).1], by rw [r _ _ (by omega) (by omega), (rm m hm).2]⟩) x3, ?_, ?_, ?_⟩
    · unfold GMi
      rw [c 4 (by omega), r _ _ (by omega) (by omega), r4]
      exact x4
    · rcases hi5 with ⟨_, rfl, rfl⟩ | ⟨_, rfl, rfl⟩
      · exact new
      · exact old 5 119 x5 (by decide) (by decide) (by decide) (by decide) (by decide) r5 r6
    · rcases hi5 with ⟨_, rfl, rfl⟩ | ⟨_, rfl, rfl⟩
      · exact old 6 121 x6 (by decide) (by decide) (by decide) (by decide) (by decide) r7 r8
      · exact new
