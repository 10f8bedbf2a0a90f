/-! rules: an e and the sign after it -/
theorem BR_cell {sz N p b : Nat} {T R : tT} (p6 : 6 ≤ p) (hB : BR sz N p b T R) (h3 : 3 ≤ phi p T) : ∃ u : Nat, (T.1 p 3).toInt = u ∧ u ≤ 666 ∧ ((F_X8_addCell T p 59 0).1 p 3).toInt = (u + 1 : Nat) ∧ dcK ((F_X8_addCell T p 59 0).1 (p + 2) u) = 59 ∧ (∀ i, i ≠ u → (F_X8_addCell T p 59 0).1 (p + 2) i = T.1 (p + 2) i) ∧ BR sz N p b (F_X8_addCell T p 59 0) R ∧ pos (F_X8_addCell T p 59 0) = pos T ∧ ∀ k i, ¬ (k = p ∧ i = 3) → k ≠ p + 2 → (F_X8_addCell T p 59 0).1 k i = T.1 k i ∧ (F_X8_addCell T p 59 0).2.1 k i = T.2.1 k i := by
  have sc := (SF_cell hB.2.2.1 59 0).1
  obtain ⟨pN, _, n14, p0⟩ := BR_pos hB
  obtain ⟨⟨⟨a1, a2, a3⟩, ⟨a4, a5⟩, a6⟩, b2, ⟨⟨c1, c2, c3⟩, ⟨a, d1, d2⟩, c4, ⟨u, d3, d4⟩, ⟨l, d5, d6⟩, c5, c6⟩, ⟨pl, e, t1, t2, t3, t4, t5, t6, t7, t8, t9, t10⟩, b5, b6, b7, b8⟩ := hB
  have u6 : u ≤ 666 := by
    unfold phi at h3
    unfold pos at pN
    omega
  have n7 : ¬ (750 : Int32) ≤ T.1 p 3 := by rw [tle, d3, show (750 : Int32).toInt = 750 from rfl]; omega
  have eq : F_X8_addCell T p 59 0 = tI (tI T (p + 2) u (((59 : Int32) <<< ((20 : Int32) &&& 31)) ||| 0)) p 3 (T.1 p 3 + 1) := by
    unfold F_X8_addCell
    rw [if_neg n7, tnN d3, tI_off (fun w => by have := w.1; omega)]
  have off : ∀ k i, ¬ (k = p ∧ i = 3) → k ≠ p + 2 → (F_X8_addCell T p 59 0).1 k i = T.1 k i ∧ (F_X8_addCell T p 59 0).2.1 k i = T.2.1 k i := fun k i h1 h2 => by
    rw [eq]
    exact ⟨by rw [tI_off h1, tI_off (fun z => h2 z.1)], rfl⟩
  have e3 : ((F_X8_addCell T p 59 0).1 p 3).toInt = (u + 1 : Nat) := by
    rw [eq, tI_at, tinc' (by omega)]
    omega
  have k4 : ∀ i, (F_X8_addCell T p 59 0).1 4 i = T.1 4 i := fun i => (off 4 i (by omega) (by omega)).1
  have k3 : ∀ i, (F_X8_addCell T p 59 0).1 3 i = T.1 3 i := fun i => (off 3 i (by omega) (by omega)).1
  have k5 : (F_X8_addCell T p 59 0).1 5 = T.1 5 := funext fun i => (off 5 i (by omega) (by omega)).1
  have k1 : ∀ i, (F_X8_addCell T p 59 0).2.1 1 i = T.2.1 1 i := fun i => (off 1 i (by omega) (by omega)).2
  have kj : (F_X8_addCell T p 59 0).2.1 4 5 = T.2.1 4 5 := (off 4 5 (by omega) (by omega)).2
  have ph : phi p (F_X8_addCell T p 59 0) = phi p T - 3 := by
    unfold phi
    rw [k4, k3, e3, d3]
    omega
  refine ⟨u, d3, u6, e3, ?_, fun i hi => ?_, ⟨⟨⟨by rw [k4]; exact a1, a2, fun i hi => by rw [k1]; exact a3 i hi⟩, ⟨a4, a5⟩, ?_⟩, b2, sc.1, ⟨pl, e, by rw [k4]; exact t1, by rw [k4]; exact t2, by rw [k4]; exact t3, by rw [k4]; exact t4, t5, t6, by rw [k4]; exact t7, by rw [k4]; exact t8, by rw [k4]; exact t9, by rw [k4, k4, kj]; exact t10⟩, ⟨by rw [k3]; exact b5.1, b5.2⟩, by rw [k3]; exact b6, by rw [e3]; omega, by rw [ph]; omega⟩, by unfold pos; rw [k4], off⟩
  · rw [eq, tI_off (fun w => by have := w.1; omega), tI_at]
    decide
  · rw [eq, tI_off (fun w => by have := w.1; omega), tI_off (fun w => hi w.2)]
  · unfold bC
    rw [k5]
    exact a6
theorem eqC_trans {q : Nat} {T T1 T2 : tT} (a : eqC q T T1) (c : eqC q T1 T2) : eqC q T T2 := fun o ho => ⟨(c o ho).1.trans (a o ho).1, (c o ho).2.trans (a o ho).2⟩
theorem R_rule {sz N p q b h : Nat} {hv mv : Int32} {m : Bool} {Tc Tr T2 R3 : tT} (g : gq p q) (hb : b < 5) (hh : hv.toInt = h) (h40 : h < 40) (hm : (mv = 1 ∧ m = true) ∨ (mv = 0 ∧ m = false)) (hB : BR sz N p b Tc Tr) (hG : GB2 Tc Tr p b q h) (hk : Tc.1 4 2 = 204 ∨ Tc.1 4 2 = 205 ∨ Tc.1 4 2 = 206) (f2 : fr (wq q) (F_X9_next Tc) T2) (e34 : T2.1 3 4 = mv) (el : T2.1 q 1 = Tc.1 q 1 ∧ T2.1 q 2 = Tc.1 q 2 ∧ ∀ i, T2.2.1 (q + 1) i = Tc.2.1 (q + 1) i ∧ T2.2.1 (q + 4) i = Tc.2.1 (q + 4) i) (f3 : fr (wg h) (F_X11_e (F_X11_next Tr) hv mv) R3) (hfin : ∀ T4, eqC q T2 T4 → kpC p Tc T4 → kpR b Tr R3 → eqR h Tr (F_X11_e (F_X11_next Tr) hv mv) → Rul2 T4 R3 p b m (Tc.1 q 1) (Tc.1 q 2) ((F_X9_next Tc).1 p 3) ((F_X11_next Tr).1 105 14) ((F_X11_e (F_X11_next Tr) hv mv).1 105 14) → GB2 T4 R3 p b q h) : IT sz N p q b h Tc Tr (F_X6_take (F_X8_addCell (Fc_readE T2 q 0) p 59 0) 59) (if v_X11_isGood R3 = 0 then R3 else F_X11_must R3 59) ∧ (Fc_readE T2 q 0).2.2 3 3 = some p ∧ okc_readE sz T2 q 0 ∧ ok_X8_addCell sz (Fc_readE T2 q 0) p 59 0 ∧ ok_X6_take sz (F_X8_addCell (Fc_readE T2 q 0) p 59 0) 59 ∧ ok_X11_e sz (F_X11_next Tr) hv mv ∧ ((v_X11_isGood R3 = 0 → True) ∧ (¬ v_X11_isGood R3 = 0 → (ok_X11_must sz R3 59 ∧ True))) := by
  obtain ⟨n1, n2, n3, n4, n5, n6, n7, n8, n9⟩ := BR_next hB
  have g1 := g.1
  have g2 := g.2
  have hB2 : BR sz N p b T2 (F_X11_next Tr) := BR_up (h := h) g f2 fr_refl n1
  have er : ∀ k i, 106 ≤ k → (F_X11_next Tr).1 k i = Tr.1 k i ∧ (F_X11_next Tr).2.1 k i = Tr.2.1 k i := fun k i hk => ⟨fr_i n3 (w5_off hk), fr_j n3 (w5_off hk)⟩
  have hN2 : NR q h T2 (F_X11_next Tr) := by
    obtain ⟨x1, x2, x3, x4⟩ := GB2_NR hG
    unfold NR
    rw [el.1, el.2.1, (er 111 h (by decide)).1, (er 113 h (by decide)).1]
    exact ⟨x1, x2, fun l hl => by rw [(el.2.2 l).1, (er 126 _ (by decide)).2]; exact x3 l hl, fun l hl => by rw [(el.2.2 l).2, (er 128 _ (by decide)).2]; exact x4 l hl⟩
  obtain ⟨oe, fe, sf, okc, okr⟩ := e_top g hb hh h40 hm hB2 hN2 e34 el.1 el.2.1
  have sc := SF_cell sf.1 59 0
  have fC : fr (wQ p q) Tc (F_X8_addCell (Fc_readE T2 q 0) p 59 0) := fr_trans (fQ1 (w4_wE n2)) (fr_trans (fQ2 f2) (fr_trans (fQ1 sf.2.1) (fQ1 sc.1.2.1)))
  have fR : fr (wG b h) Tr R3 := fr_trans (fG1 (w5_wRe n3)) (fr_trans (fG1 fe) (fG2 f3))
  have okt := (SF_take sc.1.1 59).2
  have p2 : pos T2 = pos (F_X9_next Tc) := by
    unfold pos
    rw [fr_i f2 (wq_off (by omega) (by omega))]
  have ph2 : phi p T2 = phi p (F_X9_next Tc) := by
    unfold phi
    rw [fr_i f2 (wq_off (by omega) (by omega)), fr_i f2 (wq_off (by omega) (by omega)), fr_i f2 (wq_off (by omega) (by omega))]
  have tail : ∀ T4, T4 = F_X8_addCell (Fc_readE T2 q 0) p 59 0 → IT sz N p q b h Tc Tr T4 R3 → IT sz N p q b h Tc Tr (F_X6_take (F_X8_addCell (Fc_readE T2 q 0) p 59 0) 59) (if v_X11_isGood R3 = 0 then R3 else F_X11_must R3 59) ∧ (Fc_readE T2 q 0).2.2 3 3 = some p ∧ okc_readE sz T2 q 0 ∧ ok_X8_addCell sz (Fc_readE T2 q 0) p 59 0 ∧ ok_X6_take sz (F_X8_addCell (Fc_readE T2 q 0) p 59 0) 59 ∧ ok_X11_e sz (F_X11_next Tr) hv mv ∧ ((v_X11_isGood R3 = 0 → True) ∧ (¬ v_X11_isGood R3 = 0 → (ok_X11_must sz R3 59 ∧ True))) := by
    intro T4 e4 hI
    rw [e4] at hI
    obtain ⟨i1, _, i3⟩ := IT_semi g hI
    exact ⟨i1, sf.1.2.2.1, okc, sc.2, okt, okr, i3⟩
  rcases oe with ⟨l, hel, hht, hB3, hph, hpos, kc, kr⟩ | hF | ⟨hF0, hrel, hF2, hF3⟩
  · refine tail _ rfl (Or.inl ?_)
    have p8 := n8 (by rcases hk with w | w | w <;> rw [w] <;> decide)
    have b8 := hB.2.2.2.2.2.2.2
    obtain ⟨u, u1, u2, u3, u4, u5, hB4, p4, off⟩ := BR_cell g1 hB3 (by omega)
    have hB4' : BR sz N p b (F_X8_addCell (Fc_readE T2 q 0) p 59 0) R3 := BR_up g fr_refl f3 hB4
    have kc4 : kpC p (Fc_readE T2 q 0) (F_X8_addCell (Fc_readE T2 q 0) p 59 0) := ⟨by rw [u3, u1]; omega, fun i hi => u5 i (by omega)⟩
    have kcA : kpC p Tc (F_X8_addCell (Fc_readE T2 q 0) p 59 0) := kpC_trans (kpC_w4 g1 n2) (kpC_trans (kpC_wq g f2) (kpC_trans kc kc4))
    have krA : kpR b Tr R3 := kpR_trans (kpR_w5 n3) (kpR_trans kr (kpR_wg f3))
    have ecA : eqC q T2 (F_X8_addCell (Fc_readE T2 q 0) p 59 0) := by
      refine eqC_trans (eqC_w sf.2.1 (fun k i h1 _ => wE_off (by omega) (by omega) (by omega) (by omega))) (fun o ho => ⟨funext fun i => (off _ i (by omega) (by omega)).1, funext fun i => (off _ i (by omega) (by omega)).2⟩)
    have eRA : eqR h Tr (F_X11_e (F_X11_next Tr) hv mv) := eqR_w (W := wRe b) (fr_trans (w5_wRe n3) fe) (fun k i h1 h2 h3 h4 => wRe_off (by omega) (by omega))
    have rul : Rul2 (F_X8_addCell (Fc_readE T2 q 0) p 59 0) R3 p b m (Tc.1 q 1) (Tc.1 q 2) ((F_X9_next Tc).1 p 3) ((F_X11_next Tr).1 105 14) ((F_X11_e (F_X11_next Tr) hv mv).1 105 14) := by
      obtain ⟨e1, e2, e3, e4, e5, e6, e7⟩ := hel
      obtain ⟨_, _, _, _, _, _, ⟨x1, x2⟩, _⟩ := hB2
      obtain ⟨_, _, ⟨_, _, _, ⟨u', y1, y2⟩, ⟨l', y3, y4⟩, _⟩, _⟩ := hB3
      have s1 : T2.1 p 3 = (F_X9_next Tc).1 p 3 := fr_i f2 (wq_off (by omega) (by omega))
      have us : u = (T2.1 p 3).toInt.toNat + l.length := by omega
      have r14 : R3.1 105 14 = (F_X11_e (F_X11_next Tr) hv mv).1 105 14 := fr_i f3 (wg_off (by omega))
      refine ⟨l, (T2.1 p 3).toInt.toNat, ((F_X11_next Tr).1 105 14).toInt.toNat, by rw [← s1]; omega, by omega, e3, by rw [u3]; omega, by rw [r14, e3]; omega, by omega, Cs_eq (fun i i1 i2 => u5 i (by omega)) e2, by rw [← us]; exact u4, Rs_eq (fun i i1 i2 => ⟨fr_i f3 (wg_off (by omega)), fr_i f3 (wg_off (by omega))⟩) e5, e6, hht, by omega⟩
    have gA := hfin _ ecA kcA krA eRA rul
    exact ⟨⟨hB4', gA, kcA, krA, by omega, fC, fR⟩, by omega⟩
  · exact tail _ rfl (Or.inr ⟨FL_R f3 (FL_SF hF sc.1), sc.1.1, fC, fR⟩)
  · have off : (F_X8_addCell (Fc_readE T2 q 0) p 59 0).1 4 2 = (Fc_readE T2 q 0).1 4 2 ∧ (F_X8_addCell (Fc_readE T2 q 0) p 59 0).1 4 3 = (Fc_readE T2 q 0).1 4 3 ∧ (F_X8_addCell (Fc_readE T2 q 0) p 59 0).1 3 1 = (Fc_readE T2 q 0).1 3 1 := by
      unfold F_X8_addCell
      split
      · exact ⟨rfl, rfl, rfl⟩
      · refine ⟨?_, ?_, ?_⟩ <;> rw [tI_off (fun z => by have := z.1; omega), tI_off (fun z => by have := z.1; omega)]
    have r4 : R3.1 105 4 = 2 := (fr_i f3 (wg_off (by omega))).trans hF2
    have r5 : R3.1 105 5 = (Fc_readE T2 q 0).1 4 3 := (fr_i f3 (wg_off (by omega))).trans hF3
    have g0 := good0 (show R3.1 105 4 ≠ 0 by rw [r4]; decide)
    have tk : F_X6_take (F_X8_addCell (Fc_readE T2 q 0) p 59 0) 59 = F_X6_refuse (F_X8_addCell (Fc_readE T2 q 0) p 59 0) := by
      unfold F_X6_take
      rw [off.2.2, if_pos hF0, off.1, if_neg (by rcases hrel with w | w | w <;> rw [w] <;> decide)]
    have rf : F_X6_refuse (F_X8_addCell (Fc_readE T2 q 0) p 59 0) = tI (tI (F_X8_addCell (Fc_readE T2 q 0) p 59 0) 3 1 2) 3 2 ((Fc_readE T2 q 0).1 4 3) := by
      unfold F_X6_refuse F_X6_fail
      rw [off.1, if_neg (by rcases hrel with w | w | w <;> rw [w] <;> decide), off.2.2, if_pos hF0, off.2.1]
    have sr := SF_refuse sc.1.1
    have f31 : (F_X6_refuse (F_X8_addCell (Fc_readE T2 q 0) p 59 0)).1 3 1 = 2 := by rw [rf, tI_off (fun z => by have := z.2; omega), tI_at]
    have f32 : (F_X6_refuse (F_X8_addCell (Fc_readE T2 q 0) p 59 0)).1 3 2 = (Fc_readE T2 q 0).1 4 3 := by rw [rf, tI_at]
    rw [tk, if_pos g0]
    exact ⟨Or.inr ⟨⟨by rw [f31]; decide, by rw [r4, f31], by rw [r5, f32]⟩, sr.1, fr_trans fC (fQ1 sr.2.1), fR⟩, sf.1.2.2.1, okc, sc.2, by rw [← tk] at *; exact okt, okr, fun _ => trivial, fun z => absurd g0 z⟩
