/-! a text read, whole -/
def wI (b k i : Nat) : Bool := wH b k i || decide (k = 107 ∨ (k = 105 ∧ (i = 2 ∨ i = 3)))
theorem wH_off {b k i : Nat} (h1 : ¬ (k = 105 ∧ (i = 4 ∨ i = 5 ∨ i = 6 ∨ i = 7 ∨ i = 8 ∨ i = 9 ∨ i = 10 ∨ i = 13 ∨ i = 14 ∨ i = 37 ∨ i = 38))) (h2 : k < 110 ∨ 130 < k) : wH b k i = false := by
  unfold wH
  rw [wRe_off h1 (by omega), decide_eq_false (by omega)]
  rfl
theorem wI_r {b k i : Nat} (h : wRe b k i = true) : wI b k i = true := by
  unfold wI wH
  rw [h]
  rfl
theorem wI_q {b k i : Nat} (h : k = 107 ∨ (k = 105 ∧ (i = 2 ∨ i = 3))) : wI b k i = true := by
  unfold wI
  rw [decide_eq_true h, Bool.or_true]
theorem wRe_5 {b i : Nat} (h : i = 4 ∨ i = 5 ∨ i = 7 ∨ i = 13 ∨ i = 14) : wRe b 105 i = true := by
  unfold wRe
  rcases h with h | h | h | h | h <;> rw [h] <;> rfl
theorem wA_e {p k i : Nat} (h : wE p k i = true) : wA p k i = true := by
  unfold wA
  rw [h]
  rfl
theorem wE_4 {p : Nat} : wE p 4 6 = true := by
  unfold wE
  rfl
set_option maxHeartbeats 1000000 in
theorem R_read {sz N p b : Nat} {T Tr : tT} {x0 : Int32} (hT : TE N T) (hp : T.2.2 3 3 = some p) (hts' : tsy sz p) (p6 : 6 ≤ p) (href : ∀ j, j < 8 → T.2.2 (p + 1) j = some (p + 3 + 7 * j)) (hn : (Tr.1 105 2).toInt = N) (h106 : Tr.1 106 = T.1 5) (hb : (Tr.1 105 12).toInt = b) (b5 : b < 5) (hx : ¬ x0 < 0) (hx4 : x0 < 4) : ok_X6_read sz T ∧ ∃ R' ns', F_X11_syllabus Tr x0 = (vl_X11_syllabus (ns' + 1)).2.2.2 R' x0 ∧ ((okl_X11_syllabus (ns' + 1)).2.2.2 sz R' x0 → ok_X11_syllabus sz Tr x0) ∧ fr (wA p) T (F_X6_read T) ∧ fr (wI b) Tr R' ∧ R'.1 105 2 = 0 ∧ CS sz N p (F_X6_read T) ∧ (BA sz N p b (F_X6_read T) R' ∨ FL (F_X6_read T) R') := by
  obtain ⟨F, hF⟩ := fu8
  have F9 : F = 9999992 := by
    rw [fu_eq] at hF
    omega
  obtain ⟨T1, T2, T3⟩ := hT
  have z0 : (0 : Int32).toInt = 0 := rfl
  -- the class
  have href0 : ∀ j, j < 8 → (tI (tI (tI (tI (tI T 3 1 0) 3 2 (-1)) 3 5 0) p 2 0) p 3 0).2.2 (p + 1) j = some (p + 3 + 7 * j) := href
  obtain ⟨c1, c2, c3⟩ := cl_loop hts' 8 fu 0 0 (tI (tI (tI (tI (tI T 3 1 0) 3 2 (-1)) 3 5 0) p 2 0) p 3 0) rfl rfl (by rw [fu_eq]; omega) href0 (fun j hj => by omega)
  have eC : F_X6_read T = (vl_X6_read fu).1 (F_X9_next (tI (vl_X8_clear fu (tI (tI (tI (tI (tI T 3 1 0) 3 2 (-1)) 3 5 0) p 2 0) p 3 0) p 0) 4 6 0)) 0 := by
    unfold F_X6_read
    rw [hp]
    rfl
  have f0 : fr (wA p) T (tI (tI (tI (tI (tI T 3 1 0) 3 2 (-1)) 3 5 0) p 2 0) p 3 0) := fr_I (wA_q (by omega) (by omega)) (fr_I (wA_q (by omega) (by omega)) (fr_I (wA_e (wE_3 (by omega))) (fr_I (wA_e (wE_3 (by omega))) (fr_I (wA_e (wE_3 (by omega))) fr_refl))))
  have a0 : ∀ k i, ¬ (k = 3 ∧ (i = 1 ∨ i = 2 ∨ i = 5)) → ¬ (k = p ∧ (i = 2 ∨ i = 3)) → (tI (tI (tI (tI (tI T 3 1 0) 3 2 (-1)) 3 5 0) p 2 0) p 3 0).1 k i = T.1 k i := fun k i h1 h2 => by
    rw [tI_off (by omega), tI_off (by omega), tI_off (by omega), tI_off (by omega), tI_off (by omega)]
  have a31 : (tI (tI (tI (tI (tI T 3 1 0) 3 2 (-1)) 3 5 0) p 2 0) p 3 0).1 3 1 = 0 := by rw [tI_off (by omega), tI_off (by omega), tI_off (by omega), tI_off (by omega), tI_at]
  have a35 : (tI (tI (tI (tI (tI T 3 1 0) 3 2 (-1)) 3 5 0) p 2 0) p 3 0).1 3 5 = 0 := by rw [tI_off (by omega), tI_off (by omega), tI_at]
  have ap2 : (tI (tI (tI (tI (tI T 3 1 0) 3 2 (-1)) 3 5 0) p 2 0) p 3 0).1 p 2 = 0 := by rw [tI_off (by omega), tI_at]
  have ap3 : (tI (tI (tI (tI (tI T 3 1 0) 3 2 (-1)) 3 5 0) p 2 0) p 3 0).1 p 3 = 0 := tI_at
  have aj : (tI (tI (tI (tI (tI T 3 1 0) 3 2 (-1)) 3 5 0) p 2 0) p 3 0).2 = T.2 := rfl
  have okC : okl_X8_clear fu sz (tI (tI (tI (tI (tI T 3 1 0) 3 2 (-1)) 3 5 0) p 2 0) p 3 0) p 0 → ok_X9_next sz (tI (vl_X8_clear fu (tI (tI (tI (tI (tI T 3 1 0) 3 2 (-1)) 3 5 0) p 2 0) p 3 0) p 0) 4 6 0) → (okl_X6_read fu).1 sz (F_X9_next (tI (vl_X8_clear fu (tI (tI (tI (tI (tI T 3 1 0) 3 2 (-1)) 3 5 0) p 2 0) p 3 0) p 0) 4 6 0)) 0 → ok_X6_read sz T := fun o1 o2 o3 => by
    refine ⟨fun z => (by rw [hp] at z; cases z), fun p1 h1 => ?_⟩
    rw [hp] at h1
    cases h1
    exact ⟨hts', o1, ⟨o2, trivial⟩, o3⟩
  generalize tI (tI (tI (tI (tI T 3 1 0) 3 2 (-1)) 3 5 0) p 2 0) p 3 0 = Ta at *
  have f1 : fr (wA p) Ta (vl_X8_clear fu Ta p 0) := fr_sub (fun k i hw => by
    have := of_decide_eq_true hw
    exact wA_q (by omega) (by omega)) c2
  have wcf : ∀ k i, ¬ (p + 3 ≤ k ∧ k < p + 59) → wc p k i = false := fun k i h => decide_eq_false h
  generalize vl_X8_clear fu Ta p 0 = Tb at *
  have d1 : ∀ k i, ¬ (k = 4 ∧ i = 6) → (tI Tb 4 6 0).1 k i = Tb.1 k i := fun k i h => tI_off h
  have d46 : (tI Tb 4 6 0).1 4 6 = 0 := tI_at
  have dj : (tI Tb 4 6 0).2 = Tb.2 := rfl
  have f2 : fr (wA p) Tb (tI Tb 4 6 0) := fr_I (wA_e wE_4) fr_refl
  generalize tI Tb 4 6 0 = Tc at *
  have fC : fr (wA p) T Tc := fr_trans f0 (fr_trans f1 f2)
  have e41 : Tc.1 4 1 = T.1 4 1 := by rw [d1 _ _ (by omega), fr_i c2 (wcf _ _ (by omega)), a0 _ _ (by omega) (by omega)]
  have e5 : Tc.1 5 = T.1 5 := funext fun i => by rw [d1 _ _ (by omega), fr_i c2 (wcf _ _ (by omega)), a0 _ _ (by omega) (by omega)]
  have e31 : Tc.1 3 1 = 0 := by rw [d1 _ _ (by omega), fr_i c2 (wcf _ _ (by omega)), a31]
  have e35 : Tc.1 3 5 = 0 := by rw [d1 _ _ (by omega), fr_i c2 (wcf _ _ (by omega)), a35]
  have ep2 : Tc.1 p 2 = 0 := by rw [d1 _ _ (by omega), fr_i c2 (wcf _ _ (by omega)), ap2]
  have ep3 : Tc.1 p 3 = 0 := by rw [d1 _ _ (by omega), fr_i c2 (wcf _ _ (by omega)), ap3]
  have ej : ∀ i, Tc.2.1 1 i = T.2.1 1 i := fun i => by rw [dj, fr_j c2 (wcf _ _ (by omega)), aj]
  have eP : Tc.2.2 3 3 = some p := by rw [dj, fr_p c2 (wcf _ _ (by omega)), aj, hp]
  have eRef : ∀ j, j < 8 → Tc.2.2 (p + 1) j = some (p + 3 + 7 * j) := fun j hj => by rw [dj, fr_p c2 (wcf _ _ (by omega)), aj]; exact href j hj
  have ecl : ∀ j, j < 8 → clr Tc (p + 3 + 7 * j) := fun j hj => by
    have := c1 j hj
    unfold clr at this ⊢
    rw [d1 _ _ (by omega), d1 _ _ (by omega), d1 _ _ (by omega), d1 _ _ (by omega), d1 _ _ (by omega), d1 _ _ (by omega), d1 _ _ (by omega)]
    exact this
  -- the reference
  have eR : F_X11_syllabus Tr x0 = (vl_X11_syllabus (F + 8 - N + N)).1 (tI (tI (tI Tr 105 4 0) 105 5 (-1)) 105 3 (Tr.1 105 2)) x0 0 := by
    unfold F_X11_syllabus
    rw [if_neg hx, if_pos hx4, show F + 8 - N + N = F + 8 by omega, ← hF]
  have okR : (okl_X11_syllabus (F + 8 - N + N)).1 sz (tI (tI (tI Tr 105 4 0) 105 5 (-1)) 105 3 (Tr.1 105 2)) x0 0 → ok_X11_syllabus sz Tr x0 := fun o => by
    unfold ok_X11_syllabus
    rw [show F + 8 - N + N = F + 8 by omega, ← hF] at o
    exact ⟨fun z => absurd z hx, fun _ => ⟨fun _ => o, fun z => absurd hx4 z⟩⟩
  have g0 : fr (wI b) Tr (tI (tI (tI Tr 105 4 0) 105 5 (-1)) 105 3 (Tr.1 105 2)) := fr_I (wI_q (by omega)) (fr_I (wI_r (wRe_5 (by omega))) (fr_I (wI_r (wRe_5 (by omega))) fr_refl))
  have h4 : (tI (tI (tI Tr 105 4 0) 105 5 (-1)) 105 3 (Tr.1 105 2)).1 105 4 = 0 := by rw [tI_off (by omega), tI_off (by omega), tI_at]
  have h3 : (tI (tI (tI Tr 105 4 0) 105 5 (-1)) 105 3 (Tr.1 105 2)).1 105 3 = Tr.1 105 2 := tI_at
  have h12 : (tI (tI (tI Tr 105 4 0) 105 5 (-1)) 105 3 (Tr.1 105 2)).1 105 12 = Tr.1 105 12 := by rw [tI_off (by omega), tI_off (by omega), tI_off (by omega)]
  have h6 : (tI (tI (tI Tr 105 4 0) 105 5 (-1)) 105 3 (Tr.1 105 2)).1 106 = Tr.1 106 := funext fun i => by rw [tI_off (by omega), tI_off (by omega), tI_off (by omega)]
  generalize tI (tI (tI Tr 105 4 0) 105 5 (-1)) 105 3 (Tr.1 105 2) = A0 at *
  obtain ⟨A1, w1, k1, k2, k3, k4, k5, k6⟩ := cp_loop (sz := sz) (v1 := x0) T2 N (F + 8 - N) 0 0 A0 rfl (by omega) (by rw [h3]; exact hn)
  have w7f : ∀ k i, k ≠ 107 → w107 k i = false := fun k i h => decide_eq_false h
  have g1 : fr (wI b) A0 A1 := fr_sub (fun k i hw => wI_q (Or.inl (of_decide_eq_true hw))) k4
  have cN : A1.1 105 3 ≤ w1 := by
    rw [fr_i k4 (w7f _ _ (by omega)), h3, tle]
    omega
  have b1 : (A1.1 105 12).toInt = b := by rw [fr_i k4 (w7f _ _ (by omega)), h12]; exact hb
  have v5 : vp_in (A1.1 105 12) 5 := by rw [vp_in_iff]; omega
  have eR2 : (vl_X11_syllabus (F + 8 - N)).1 A1 x0 w1 = (vl_X11_syllabus (F - N - 1 + 8)).2.1 (tI (tI (tI (tI (tI A1 105 2 0) 105 7 0) 105 13 0) 105 14 0) 125 b 0) x0 0 := by
    rw [show F + 8 - N = F - N - 1 + 8 + 1 by omega, vl_X11_syllabus_s0, if_pos cN, tnN b1]
  have okR2 : (okl_X11_syllabus (F - N - 1 + 8)).2.1 sz (tI (tI (tI (tI (tI A1 105 2 0) 105 7 0) 105 13 0) 105 14 0) 125 b 0) x0 0 → (okl_X11_syllabus (F + 8 - N)).1 sz A1 x0 w1 := fun o => by
    rw [show F + 8 - N = F - N - 1 + 8 + 1 by omega, okl_X11_syllabus_s0, tnN b1]
    exact ⟨fun _ => ⟨v5, o⟩, fun z => absurd cN z⟩
  have o2 : ∀ k i, ¬ (k = 105 ∧ (i = 2 ∨ i = 7 ∨ i = 13 ∨ i = 14)) → k ≠ 125 → (tI (tI (tI (tI (tI A1 105 2 0) 105 7 0) 105 13 0) 105 14 0) 125 b 0).1 k i = A1.1 k i := fun k i h1 h2 => by
    rw [tI_off (by omega), tI_off (by omega), tI_off (by omega), tI_off (by omega), tI_off (by omega)]
  have o125 : (tI (tI (tI (tI (tI A1 105 2 0) 105 7 0) 105 13 0) 105 14 0) 125 b 0).1 125 b = 0 := tI_at
  have o14 : (tI (tI (tI (tI (tI A1 105 2 0) 105 7 0) 105 13 0) 105 14 0) 125 b 0).1 105 14 = 0 := by rw [tI_off (by omega), tI_at]
  have o13 : (tI (tI (tI (tI (tI A1 105 2 0) 105 7 0) 105 13 0) 105 14 0) 125 b 0).1 105 13 = 0 := by rw [tI_off (by omega), tI_off (by omega), tI_at]
  have o7 : (tI (tI (tI (tI (tI A1 105 2 0) 105 7 0) 105 13 0) 105 14 0) 125 b 0).1 105 7 = 0 := by rw [tI_off (by omega), tI_off (by omega), tI_off (by omega), tI_at]
  have o02 : (tI (tI (tI (tI (tI A1 105 2 0) 105 7 0) 105 13 0) 105 14 0) 125 b 0).1 105 2 = 0 := by rw [tI_off (by omega), tI_off (by omega), tI_off (by omega), tI_off (by omega), tI_at]
  have wI_h : ∀ k i, wH b k i = true → wI b k i = true := fun k i h => by
    unfold wI
    rw [h]
    rfl
  have g2 : fr (wI b) A1 (tI (tI (tI (tI (tI A1 105 2 0) 105 7 0) 105 13 0) 105 14 0) 125 b 0) := fr_I (wI_h _ _ (wH_q (by omega))) (fr_I (wI_r (wRe_5 (by omega))) (fr_I (wI_r (wRe_5 (by omega))) (fr_I (wI_r (wRe_5 (by omega))) (fr_I (wI_q (by omega)) fr_refl))))
  generalize tI (tI (tI (tI (tI A1 105 2 0) 105 7 0) 105 13 0) 105 14 0) 125 b 0 = A2 at *
  obtain ⟨A3, w3, l1, l2, l3, l4, l5, l6⟩ := tl_loop (sz := sz) (v1 := x0) b5 8 (F - N - 1) 0 0 A2 rfl (by omega) (by rw [o2 _ _ (by omega) (by omega)]; exact b1)
  have w10f : ∀ k i, k ≠ 110 → w110 b k i = false := fun k i h => decide_eq_false (fun z => h z.1)
  have g3 : fr (wI b) A2 A3 := fr_sub (fun k i hw => by
    have := of_decide_eq_true hw
    exact wI_h _ _ (wH_q (by omega))) l4
  have cA : ∀ k i, k ≠ 110 → k ≠ 107 → ¬ (k = 105 ∧ (i = 2 ∨ i = 7 ∨ i = 13 ∨ i = 14)) → k ≠ 125 → A3.1 k i = A0.1 k i := fun k i h1 h2 h3 h4 => by rw [fr_i l4 (w10f _ _ h1), o2 _ _ h3 h4, fr_i k4 (w7f _ _ h2)]
  have b3 : (A3.1 105 12).toInt = b := by rw [cA _ _ (by omega) (by omega) (by omega) (by omega), h12]; exact hb
  have c8 : (8 : Int32) ≤ w3 := by rw [tle, l1, show (8 : Int32).toInt = 8 from rfl]; omega
  have EVc : EV N Tc A3 := by
    refine ⟨⟨by rw [e41]; exact T1, T2, fun i hi => by rw [ej]; exact T3 i hi⟩, ⟨by rw [cA _ _ (by omega) (by omega) (by omega) (by omega), h3]; exact hn, T2⟩, fun i hi => ?_⟩
    unfold bC bR
    rw [e5, fr_i l4 (w10f _ _ (by omega)), o2 _ _ (by omega) (by omega), k5 i (by omega) hi, h6, h106, b8]
  obtain ⟨⟨t1, t2, t3, t4⟩, t5, t6⟩ := e_tok (sz := sz) (a := 0) EVc (by rw [d46]; rfl) (by omega) (by rw [fr_i l4 (w10f _ _ (by omega)), o7, d46])
  have eR3 : (vl_X11_syllabus (F - N - 1)).2.1 A3 x0 w3 = (vl_X11_syllabus (F - N - 2)).2.2.1 (F_X11_next A3) x0 := by
    rw [show F - N - 1 = F - N - 2 + 1 by omega, vl_X11_syllabus_s1, if_pos c8]
  have okR3 : (okl_X11_syllabus (F - N - 2)).2.2.1 sz (F_X11_next A3) x0 → (okl_X11_syllabus (F - N - 1)).2.1 sz A3 x0 w3 := fun o => by
    rw [show F - N - 1 = F - N - 2 + 1 by omega, okl_X11_syllabus_s1]
    exact ⟨fun _ => ⟨t6, o⟩, fun z => absurd c8 z⟩
  have q3 : ∀ i, (F_X9_next Tc).1 3 i = Tc.1 3 i := fun i => fr_i t2 (k := 3) (i := i) rfl
  have qk : ∀ k i, 5 ≤ k → (F_X9_next Tc).1 k i = Tc.1 k i ∧ (F_X9_next Tc).2.2 k i = Tc.2.2 k i := fun k i hk => ⟨fr_i t2 (w4_z hk), fr_p t2 (w4_z hk)⟩
  have hCS0 : CS sz N p Tc := ⟨EVc.1, ⟨0, by rw [d46]; rfl, by omega⟩, eP, ⟨0, by rw [ep3]; rfl, by omega⟩, ⟨0, by rw [e35]; rfl, by omega⟩, hts', p6⟩
  have ps0 : 0 ≤ pos (F_X9_next Tc) := by unfold pos; exact t4
  have hBR : BR sz N p b (F_X9_next Tc) (F_X11_next A3) := by
    refine ⟨?_, by rw [fr_i t3 (k := 105) (i := 12) rfl]; exact b3, (SF_next hCS0).1.1, t1, ⟨by rw [q3]; exact e31, ?_⟩, ?_, ?_, ?_⟩
    · refine ⟨⟨by rw [fr_i t2 (k := 4) (i := 1) rfl]; exact EVc.1.1, T2, fun i hi => by rw [fr_j t2 (k := 1) (i := i) rfl]; exact EVc.1.2.2 i hi⟩, ⟨by rw [fr_i t3 (k := 105) (i := 3) rfl]; exact EVc.2.1.1, T2⟩, fun i hi => ?_⟩
      have := EVc.2.2 i hi
      unfold bC bR at this ⊢
      rw [fr_i t2 (k := 5) (i := i) rfl, fr_i t3 (k := 107) (i := i) rfl]
      exact this
    · rw [fr_i t3 (k := 105) (i := 4) rfl, cA _ _ (by omega) (by omega) (by omega) (by omega), h4]
    · rw [fr_i t3 (k := 105) (i := 13) rfl, fr_i l4 (w10f _ _ (by omega)), o13, q3, e35]
    · rw [fr_i t3 (k := 105) (i := 14) rfl, fr_i l4 (w10f _ _ (by omega)), o14, (qk p 3 (by omega)).1, ep3, z0]
      omega
    · unfold phi
      unfold pos at ps0
      rw [q3, e35, (qk p 3 (by omega)).1, ep3, z0]
      omega
  have hGA : GA (F_X9_next Tc) (F_X11_next A3) p b := by
    refine ⟨?_, fun j hj => by rw [(qk (p + 1) j (by omega)).2]; exact eRef j hj, fun j hj => ?_⟩
    · rw [(qk p 2 (by omega)).1, ep2, fr_i t3 (k := 125) (i := b) rfl, fr_i l4 (w10f _ _ (by omega)), o125]
    · obtain ⟨x0', x1, x2, x3, x4, x5, x6⟩ := ecl j hj
      unfold GJ
      rw [(qk _ 0 (by omega)).1, (qk _ 1 (by omega)).1, (qk _ 2 (by omega)).1, (qk _ 3 (by omega)).1, (qk _ 4 (by omega)).1, (qk _ 5 (by omega)).1, (qk _ 6 (by omega)).1, x0', fr_i t3 (w5_off (by decide)), l5 j (by omega) hj]
      exact ⟨⟨rfl, Or.inl rfl⟩, fun _ => ⟨x1, x2, x3, x4, x5, x6⟩, fun z => absurd rfl z⟩
  obtain ⟨u1, R', ns', u2, u3, u4⟩ := R_loop (v1 := x0) hF p6 b5 1402 (F_X9_next Tc) (F_X11_next A3) 0 fu (F - N - 2) ⟨hBR, hGA⟩ (by omega) (by rw [fu_eq]; omega) (by omega) (by decide) (by exact ps0)
  have gR : fr (wI b) Tr A3 := fr_trans g0 (fr_trans g1 (fr_trans g2 g3))
  have r2 : ∀ R', fr (wH b) (F_X11_next A3) R' → R'.1 105 2 = 0 := fun R' f => by rw [fr_i f (wH_off (by omega) (by omega)), fr_i t3 (k := 105) (i := 2) rfl, fr_i l4 (w10f _ _ (by omega)), o02]
  have fin : ∀ R', fr (wH b) (F_X11_next A3) R' → fr (wI b) Tr R' := fun R' f => fr_trans gR (fr_trans (fr_sub (fun _ _ => wI_r) (w5_wRe t3)) (fr_sub wI_h f))
  have finC : ∀ T', fr (wA p) (F_X9_next Tc) T' → fr (wA p) T T' := fun T' f => fr_trans fC (fr_trans (fA1 (w4_wE t2)) f)
  refine ⟨okC c3 t5 u1, R', ns', by rw [eR, k2, eR2, l2, eR3, u2], fun o => okR (k3 (okR2 (l3 (okR3 (u3 o))))), ?_⟩
  rw [eC]
  rcases u4 with u | u
  · exact ⟨finC _ u.2.1, fin _ u.2.2, r2 _ u.2.2, u.1.1.2.2.1, Or.inl u.1⟩
  · exact ⟨finC _ u.2.2.1, fin _ u.2.2.2, r2 _ u.2.2.2, u.2.1, Or.inr u.1⟩
