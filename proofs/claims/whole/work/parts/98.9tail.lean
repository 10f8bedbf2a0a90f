/-! syllabus: a fault, and all four ways -/
set_option maxHeartbeats 1000000 in
theorem S_fault {sz p x : Nat} {T : tT} {x0 : Int32} (hI : I7 sz T) (hp : T.2.2 3 3 = some p) (hx : x0.toInt = x) (x4 : x < 4) (hbad : ¬ (F_X6_read T).1 3 1 = 0) : ok_X11_syllabus sz (tI (F_X6_read T) 4 1 0) x0 ∧ (F_X11_syllabus (tI (F_X6_read T) 4 1 0) x0).1 = -1 ∧ I7 sz (F_X11_syllabus (tI (F_X6_read T) 4 1 0) x0).2 := by
  obtain ⟨N, p', b, hT, hp', hs, p6, hn, h106, hb, b5⟩ := S_pre hI
  rw [hp] at hp'
  cases hp'
  have nx : ¬ x0 < 0 := by rw [tlt, hx, show (0 : Int32).toInt = 0 from rfl]; omega
  have lx : x0 < 4 := by rw [tlt, hx, show (4 : Int32).toInt = 4 from rfl]; omega
  have sz161 : 161 ≤ sz := hI.2.2.2.2.2.2.2.2.2.1
  have p65 : p + 59 ≤ 65 ∨ 161 ≤ p := by rcases hs.2.1 with r | ⟨r, hr⟩ <;> omega
  have psz : p + 58 < sz := hs.1.2.1
  have frC := (R_read (x0 := x0) hT hp hs.1 p6 hs.2.2 hn h106 hb b5 nx lx).2
  obtain ⟨_, _, _, _, frC, _⟩ := frC
  have cT : ∀ k i, ¬ (k = 3 ∧ (i = 1 ∨ i = 2 ∨ i = 4 ∨ i = 5)) → ¬ (k = 4 ∧ (i = 2 ∨ i = 3 ∨ i = 4 ∨ i = 5 ∨ i = 6)) → ¬ (p ≤ k ∧ k < p + 59) → (F_X6_read T).1 k i = T.1 k i ∧ (F_X6_read T).2.1 k i = T.2.1 k i ∧ (F_X6_read T).2.2 k i = T.2.2 k i := fun k i h1 h2 h3 => ⟨fr_i frC (wA_off h1 h2 h3), fr_j frC (wA_off h1 h2 h3), fr_p frC (wA_off h1 h2 h3)⟩
  have pw := pw_read hs.1 p6 hp hs.2.2
  have eD : ∀ k i, ¬ (k = 4 ∧ i = 1) → (tI (F_X6_read T) 4 1 0).1 k i = (F_X6_read T).1 k i := fun k i h => tI_off h
  have e41 : (tI (F_X6_read T) 4 1 0).1 4 1 = 0 := tI_at
  have eJ : (tI (F_X6_read T) 4 1 0).2 = (F_X6_read T).2 := rfl
  generalize tI (F_X6_read T) 4 1 0 = E at *
  have eT : ∀ k i, ¬ (k = 3 ∧ (i = 1 ∨ i = 2 ∨ i = 4 ∨ i = 5)) → k ≠ 4 → ¬ (p ≤ k ∧ k < p + 59) → E.1 k i = T.1 k i ∧ E.2.1 k i = T.2.1 k i ∧ E.2.2 k i = T.2.2 k i := fun k i h1 h2 h3 => by
    rw [eD k i (by omega), eJ]
    exact cT k i h1 (by omega) h3
  obtain ⟨_, R, ns, u1, u2, _, u4, u5, u6, u7⟩ := R_read (sz := sz) (N := N) (p := p) (b := b) (T := T) (Tr := E) (x0 := x0) hT hp hs.1 p6 hs.2.2 (by rw [(eT 105 2 (by omega) (by omega) (by omega)).1]; exact hn) (funext fun i => by rw [(eT 106 i (by omega) (by omega) (by omega)).1, h106]) (by rw [(eT 105 12 (by omega) (by omega) (by omega)).1]; exact hb) b5 nx lx
  have hFL : FL (F_X6_read T) R := by
    rcases u7 with u | u
    · exact absurd u.1.2.2.2.2.1.1 hbad
    · exact u
  have g0 := good0 (show R.1 105 4 ≠ 0 by rw [hFL.2.1]; exact hFL.1)
  have eF : F_X11_syllabus E x0 = (-1, R) := by rw [u1, vl_X11_syllabus_s3, if_pos g0]
  have okF : ok_X11_syllabus sz E x0 := u2 (by
    rw [okl_X11_syllabus_s3]
    exact ⟨fun z => absurd g0 z, fun _ => trivial⟩)
  rw [eF]
  refine ⟨okF, rfl, ?_⟩
  have rE : ∀ k i, ¬ (k = 105 ∧ (i = 2 ∨ i = 3 ∨ i = 4 ∨ i = 5 ∨ i = 6 ∨ i = 7 ∨ i = 8 ∨ i = 9 ∨ i = 10 ∨ i = 13 ∨ i = 14 ∨ i = 37 ∨ i = 38)) → (k < 107 ∨ k = 108 ∨ k = 109 ∨ 130 < k) → R.1 k i = E.1 k i ∧ R.2.1 k i = E.2.1 k i ∧ R.2.2 k i = E.2.2 k i := fun k i h1 h2 => ⟨fr_i u4 (wI_z h1 h2), fr_j u4 (wI_z h1 h2), fr_p u4 (wI_z h1 h2)⟩
  have rT : ∀ k i, ¬ (k = 105 ∧ (i = 2 ∨ i = 3 ∨ i = 4 ∨ i = 5 ∨ i = 6 ∨ i = 7 ∨ i = 8 ∨ i = 9 ∨ i = 10 ∨ i = 13 ∨ i = 14 ∨ i = 37 ∨ i = 38)) → (k < 107 ∨ k = 108 ∨ k = 109 ∨ 130 < k) → ¬ (k = 3 ∧ (i = 1 ∨ i = 2 ∨ i = 4 ∨ i = 5)) → k ≠ 4 → ¬ (p ≤ k ∧ k < p + 59) → R.1 k i = T.1 k i ∧ R.2.1 k i = T.2.1 k i ∧ R.2.2 k i = T.2.2 k i := fun k i h1 h2 h3 h4 h5 => by
    rw [(rE k i h1 h2).1, (rE k i h1 h2).2.1, (rE k i h1 h2).2.2]
    exact eT k i h3 h4 h5
  refine ⟨I6_r hI.1 (fun k i hr => ?_) ?_, ?_⟩
  · unfold rng at hr
    exact rT k i (by omega) (by omega) (by omega) (by omega) (by omega)
  · refine ⟨⟨?_, ?_⟩, ?_, ?_, funext fun i => ?_⟩
    · rw [hFL.2.1, (rE 3 1 (by omega) (by omega)).1, eD 3 1 (by omega)]
    · rw [hFL.2.2, (rE 3 2 (by omega) (by omega)).1, eD 3 2 (by omega)]
    · rw [u5, (rE 4 1 (by omega) (by omega)).1, e41]
    · rw [(rE 4 1 (by omega) (by omega)).1, e41]
      decide
    · have h5 := congrFun hI.1.2.2.2.2.1.2.2.2 i
      rw [(rT 106 i (by omega) (by omega) (by omega) (by omega) (by omega)).1, (rT 5 i (by omega) (by omega) (by omega) (by omega) (by omega)).1, h5]
  · obtain ⟨⟨sp, e1, e2⟩, a2, a3, a4, a5, a6, a7, a8, a9⟩ := hI.2
    rw [hp] at e1
    cases e1
    have w33 : R.2.2 3 3 = some p := by rw [(rT 3 3 (by omega) (by omega) (by omega) (by omega) (by omega)).2.2, hp]
    have w65 : ∀ t, R.2.2 65 t = T.2.2 65 t := fun t => (rT 65 t (by omega) (by omega) (by omega) (by omega) (by omega)).2.2
    have w108 : ∀ t, R.1 108 t = T.1 108 t := fun t => (rT 108 t (by omega) (by omega) (by omega) (by omega) (by omega)).1
    have w109 : ∀ t, R.1 109 t = T.1 109 t := fun t => (rT 109 t (by omega) (by omega) (by omega) (by omega) (by omega)).1
    have w12 : R.1 105 12 = T.1 105 12 := (rT 105 12 (by omega) (by omega) (by omega) (by omega) (by omega)).1
    refine ⟨⟨p, w33, e2.1, e2.2.1, fun j hj => ?_⟩, fun t ht => ?_, fun t ht => ?_, fun t u pt ht hu htu h1 => ?_, fun t ht => ?_, ?_, fun t u ht hu htu => ?_, fun k hk => ⟨?_, ?_, ?_⟩, a9.1, a9.2.1, fun i hi => ?_⟩
    · rw [(rE (p + 1) j (by omega) (by omega)).2.2, eJ]
      exact pw.2.2.2 j hj
    · rw [w65, w109, w108]
      rcases a2 t ht with w | ⟨pt, w1, w2, w3, w4'⟩
      · exact Or.inl w
      · have np : pt ≠ p := fun w => a3 t ht (by rw [w1, hp, w])
        have dis : ∀ k, pt ≤ k → k < pt + 59 → R.1 k = T.1 k ∧ R.2.1 k = T.2.1 k ∧ R.2.2 k = T.2.2 k := fun k k1 k2 => by
          have hs := w3.1.2.1
          have q1 : k < 65 ∨ 161 ≤ k := by rcases w3.2.1 with r | ⟨r, hr⟩ <;> omega
          have q0 : 6 ≤ k := by rcases w3.2.1 with r | ⟨r, hr⟩ <;> omega
          have q2 : ¬ (p ≤ k ∧ k < p + 59) := by rcases w3.2.1 with r | ⟨r, hr⟩ <;> rcases e2.2.1 with s | ⟨s, hs'⟩ <;> omega
          exact ⟨funext fun i => (rT k i (by omega) (by omega) (by omega) (by omega) q2).1, funext fun i => (rT k i (by omega) (by omega) (by omega) (by omega) q2).2.1, funext fun i => (rT k i (by omega) (by omega) (by omega) (by omega) q2).2.2⟩
        have bne : (T.1 108 t).toNatClampNeg ≠ b := fun w => by
          obtain ⟨y1, y2, y3⟩ := a5 t ht
          apply y3
          rw [tle, show (0 : Int32).toInt = 0 from rfl] at y1
          rw [teq]
          have q1 : (T.1 108 t).toInt = ((T.1 108 t).toInt.toNat : Nat) := by omega
          have r1 := tnN q1
          omega
        refine Or.inr ⟨pt, w1, w2, ⟨w3.1, w3.2.1, fun j hj => ?_⟩, TX_b bne (fun k k1 k2 => ⟨(dis k k1 k2).1, (dis k k1 k2).2.1⟩) (fun k i k1 k2 hw => ?_) w4'⟩
        · rw [(dis (pt + 1) (by omega) (by omega)).2.2]
          exact w3.2.2 j hj
        · have q1 := u4 k i (wI_off hw (by omega) (by omega))
          have q2 := eT k i (by omega) (by omega) (by omega)
          rw [q1.1, q1.2.1]
          exact ⟨q2.1, q2.2.1⟩
    · rw [w65, w33, ← hp]
      exact a3 t ht
    · rw [w65] at h1
      rw [w65]
      exact a4 t u pt ht hu htu h1
    · rw [w108, w12]
      exact a5 t ht
    · rw [w12]
      exact a6
    · rw [w108, w108]
      exact a7 t u ht hu htu
    · rw [← (a8 k hk).1]
      exact funext fun i => (rT k i (by omega) (by omega) (by omega) (by omega) (by omega)).1
    · rw [← (a8 k hk).2.1]
      exact funext fun i => (rT k i (by omega) (by omega) (by omega) (by omega) (by omega)).2.1
    · rw [← (a8 k hk).2.2]
      exact funext fun i => (rT k i (by omega) (by omega) (by omega) (by omega) (by omega)).2.2
    · rw [(rT 1 i (by omega) (by omega) (by omega) (by omega) (by omega)).2.1]
      exact a9.2.2 i hi
