/-! a part, minutes, and the sign that ends an item -/
theorem IT_semi {sz N p q b h : Nat} {Tc Tr T1 R1 : tT} (g : gq p q) (hI : IT sz N p q b h Tc Tr T1 R1) : IT sz N p q b h Tc Tr (F_X6_take T1 59) (if v_X11_isGood R1 = 0 then R1 else F_X11_must R1 59) ∧ ok_X6_take sz T1 59 ∧ ((v_X11_isGood R1 = 0 → True) ∧ (¬ v_X11_isGood R1 = 0 → (ok_X11_must sz R1 59 ∧ True))) := by
  rcases hI with ⟨s, s'⟩ | f
  · obtain ⟨hT, okt, okt'⟩ := BR_take s.1 (k := 59) (by unfold isS; decide)
    rw [if_neg (good1 s.1.2.2.2.2.1.2)]
    refine ⟨?_, okt, fun _ => trivial, fun _ => ⟨okt', trivial⟩⟩
    rcases hT with ⟨k, t1, t2⟩ | ⟨k, t1, t2, t3⟩
    · rw [t1, t2]
      have sN := ST_next g s.1 s.2.1
      have := sN.2.2.2.2.1
      exact Or.inl ⟨ST_trans s sN, by omega⟩
    · rw [t1, t2]
      have sr := SF_refuse s.1.2.2.1
      exact Or.inr ⟨t3, sr.1, fr_trans s.2.2.2.2.2.1 (fQ1 sr.2.1), fr_trans s.2.2.2.2.2.2 (fG1 fr_wrong)⟩
  · have g0 := good0 (show R1.1 105 4 ≠ 0 by rw [f.1.2.1]; exact f.1.1)
    rw [take_F f.1.1, if_pos g0]
    exact ⟨Or.inr f, (SF_take f.2.1 59).2, fun _ => trivial, fun z => absurd g0 z⟩
theorem R_part {sz N p q b h : Nat} {hv : Int32} {Tc Tr : tT} (g : gq p q) (hh : hv.toInt = h) (h40 : h < 40) (hB : BR sz N p b Tc Tr) (hG : GB2 Tc Tr p b q h) (h6 : Tc.1 q 2 < 6) : IT sz N p q b h Tc Tr (F_X6_readPart Tc q) (F_X11_readPart Tr hv) ∧ ok_X6_readPart sz Tc q ∧ ok_X11_readPart sz Tr hv := by
  have hcs := hB.2.2.1
  obtain ⟨hN, okn, okn'⟩ := BR_name hB hh h40 (GB2_NR hG)
  have c0 : ∃ c : Nat, (Tc.1 q 2).toInt = c ∧ c < 6 := by
    have y2 := hG.2.1.1.2.1
    rw [tle, show (0 : Int32).toInt = 0 from rfl] at y2
    rw [tlt, show (6 : Int32).toInt = 6 from rfl] at h6
    exact ⟨(Tc.1 q 2).toInt.toNat, by omega, by omega⟩
  obtain ⟨c, hc, c6⟩ := c0
  have rc : Tr.1 113 h = Tc.1 q 2 := hG.2.1.1.1.symm
  unfold F_X6_readPart ok_X6_readPart F_X11_readPart ok_X11_readPart
  rcases hN with ⟨k3, hN1, hN2⟩ | ⟨hF, hN2, hS, hf⟩
  · rw [hN1, hN2]
    dsimp only
    have ix : (6 * hv + Tr.1 113 hv.toNatClampNeg).toInt = (6 * h + c : Nat) := by
      rw [tnN hh, rc]
      exact tix6 hh h40 hc c6
    have i240 : vp_in (6 * hv + Tr.1 113 hv.toNatClampNeg) 240 := by rw [vp_in_iff, ix]; omega
    have i40 : vp_in hv 40 := by rw [vp_in_iff]; omega
    have w' := (tk_num hB.2.2.2.1).2.2.2.1 k3
    have eR : tJ Tr 128 (6 * hv + Tr.1 113 hv.toNatClampNeg).toNatClampNeg (Tr.2.1 105 10) = tJ Tr 128 (6 * h + c) (Tc.2.1 4 5) := by
      rw [tnN ix, w']
    rw [eR, tnN ix, tnN hh]
    have frR : fr (wg h) Tr (tJ Tr 128 (6 * h + c) (Tc.2.1 4 5)) := by
      refine fr_J ?_ fr_refl
      unfold wg
      rw [show (6 * h + c) / 6 = h by omega]
      simp
    have o128 : ∀ i, i ≠ 6 * h + c → (tJ Tr 128 (6 * h + c) (Tc.2.1 4 5)).2.1 128 i = Tr.2.1 128 i := fun i hi => tJ_off (fun z => hi z.2)
    have a128 : (tJ Tr 128 (6 * h + c) (Tc.2.1 4 5)).2.1 128 (6 * h + c) = Tc.2.1 4 5 := tJ_at
    have oj : ∀ k i, k ≠ 128 → (tJ Tr 128 (6 * h + c) (Tc.2.1 4 5)).2.1 k i = Tr.2.1 k i := fun k i hk => tJ_off (fun z => hk z.1)
    have oi : ∀ k i, (tJ Tr 128 (6 * h + c) (Tc.2.1 4 5)).1 k i = Tr.1 k i := fun k i => rfl
    generalize tJ Tr 128 (6 * h + c) (Tc.2.1 4 5) = R1 at *
    have hB1 : BR sz N p b Tc R1 := BR_up g fr_refl frR hB
    obtain ⟨n1, n2, n3, n4, n5, n6, n7, _⟩ := BR_next hB1
    obtain ⟨hT, okt, okt'⟩ := BR_num n1 1 200
    have okr : ∀ (P : Prop), P → (¬ (1 : Int32) = 0 → vp_in hv 40 ∧ vp_in (6 * hv + Tr.1 113 hv.toNatClampNeg) 240 ∧ ok_X11_next sz R1 ∧ ok_X11_numberOf sz (F_X11_next R1) 1 200 ∧ vp_in (6 * hv + Tr.1 113 hv.toNatClampNeg) 240 ∧ vp_in hv 40 ∧ vp_in hv 40) ∧ ((1 : Int32) = 0 → True) := fun P _ => ⟨fun _ => ⟨i40, i240, n5, okt', i240, i40, i40⟩, fun _ => trivial⟩
    rw [tnN hh] at okr
    rcases hT with ⟨k2, lo, hi, t1, t2⟩ | ⟨t0, tF, tS, tf⟩
    · obtain ⟨m1, m2, m3, m4, m5, m6, m7, _⟩ := BR_next n1
      have f0 : (F_X9_next (F_X9_next Tc)).1 3 1 = 0 := m1.2.2.2.2.1.1
      have q9 : 9 ≤ q := by obtain ⟨g1, g2⟩ := g; omega
      have ec : ∀ o i, (F_X9_next (F_X9_next Tc)).1 (q + o) i = Tc.1 (q + o) i ∧ (F_X9_next (F_X9_next Tc)).2.1 (q + o) i = Tc.2.1 (q + o) i := fun o i => ⟨(fr_i m2 (w4_z (by omega))).trans (fr_i n2 (w4_z (by omega))), (fr_j m2 (w4_z (by omega))).trans (fr_j n2 (w4_z (by omega)))⟩
      have er : ∀ k i, 106 ≤ k → (F_X11_next (F_X11_next R1)).1 k i = R1.1 k i ∧ (F_X11_next (F_X11_next R1)).2.1 k i = R1.2.1 k i := fun k i hk => ⟨(fr_i m3 (w5_off hk)).trans (fr_i n3 (w5_off hk)), (fr_j m3 (w5_off hk)).trans (fr_j n3 (w5_off hk))⟩
      have e1 : (F_X9_next (F_X9_next Tc)).1 q 2 = Tc.1 q 2 := (ec 0 2).1
      rw [t1, t2]
      dsimp only
      generalize (F_X9_next Tc).1 4 4 = v at *
      have n16 : ¬ 6 ≤ (F_X9_next (F_X9_next Tc)).1 q 2 := by
        rw [e1, tle, hc, show (6 : Int32).toInt = 6 from rfl]
        omega
      have eA : F_X3_addPart (F_X9_next (F_X9_next Tc)) q (Tc.2.1 4 5) v = tI (tI (tJ (F_X9_next (F_X9_next Tc)) (q + 4) c (Tc.2.1 4 5)) (q + 5) c v) q 2 (Tc.1 q 2 + 1) := by
        unfold F_X3_addPart
        rw [if_neg n16, e1, tnN hc, tI_off (fun z => by have := z.1; omega)]
        show tI (tI (tJ (F_X9_next (F_X9_next Tc)) (q + 4) c (Tc.2.1 4 5)) (q + 5) c v) q 2 ((F_X9_next (F_X9_next Tc)).1 q 2 + 1) = _
        rw [e1]
      have okA : ok_X3_addPart sz (F_X9_next (F_X9_next Tc)) q (Tc.2.1 4 5) v := by
        have : vp_in ((F_X9_next (F_X9_next Tc)).1 q 2) 6 := by rw [e1, vp_in_iff]; omega
        exact ⟨fun _ => trivial, fun _ => ⟨this, this⟩⟩
      rw [if_pos f0, eA, show (F_X11_next (F_X11_next R1)).1 113 h = Tr.1 113 h from (er 113 h (by decide)).1.trans (oi 113 h)]
      have frC : fr (wq q) (F_X9_next (F_X9_next Tc)) (tI (tI (tJ (F_X9_next (F_X9_next Tc)) (q + 4) c (Tc.2.1 4 5)) (q + 5) c v) q 2 (Tc.1 q 2 + 1)) := fr_I (wq_q (by omega) (by omega)) (fr_I (wq_q (by omega) (by omega)) (fr_J (wq_q (by omega) (by omega)) fr_refl))
      have b1 : ∀ i, i ≠ c → (tI (tI (tJ (F_X9_next (F_X9_next Tc)) (q + 4) c (Tc.2.1 4 5)) (q + 5) c v) q 2 (Tc.1 q 2 + 1)).2.1 (q + 4) i = Tc.2.1 (q + 4) i ∧ (tI (tI (tJ (F_X9_next (F_X9_next Tc)) (q + 4) c (Tc.2.1 4 5)) (q + 5) c v) q 2 (Tc.1 q 2 + 1)).1 (q + 5) i = Tc.1 (q + 5) i := fun i hi => by
        constructor
        · exact (tJ_off (fun z => hi z.2)).trans (ec 4 i).2
        · rw [tI_off (fun z => by have := z.1; omega), tI_off (fun z => hi z.2)]
          exact (ec 5 i).1
      have b2 : (tI (tI (tJ (F_X9_next (F_X9_next Tc)) (q + 4) c (Tc.2.1 4 5)) (q + 5) c v) q 2 (Tc.1 q 2 + 1)).2.1 (q + 4) c = Tc.2.1 4 5 := tJ_at
      have b3 : (tI (tI (tJ (F_X9_next (F_X9_next Tc)) (q + 4) c (Tc.2.1 4 5)) (q + 5) c v) q 2 (Tc.1 q 2 + 1)).1 (q + 5) c = v := by rw [tI_off (fun z => by have := z.1; omega), tI_at]
      have b4 : (tI (tI (tJ (F_X9_next (F_X9_next Tc)) (q + 4) c (Tc.2.1 4 5)) (q + 5) c v) q 2 (Tc.1 q 2 + 1)).1 q 2 = Tc.1 q 2 + 1 := tI_at
      have b5 : ∀ o i, o = 1 ∨ o = 2 ∨ o = 3 ∨ o = 6 → (tI (tI (tJ (F_X9_next (F_X9_next Tc)) (q + 4) c (Tc.2.1 4 5)) (q + 5) c v) q 2 (Tc.1 q 2 + 1)).1 (q + o) i = Tc.1 (q + o) i ∧ (tI (tI (tJ (F_X9_next (F_X9_next Tc)) (q + 4) c (Tc.2.1 4 5)) (q + 5) c v) q 2 (Tc.1 q 2 + 1)).2.1 (q + o) i = Tc.2.1 (q + o) i := fun o i ho => by
        constructor
        · rw [tI_off (fun z => by have := z.1; omega), tI_off (fun z => by have := z.1; omega)]
          exact (ec o i).1
        · exact (tJ_off (fun z => by have := z.1; omega)).trans (ec o i).2
      have b6 : ∀ i, i ≠ 2 → (tI (tI (tJ (F_X9_next (F_X9_next Tc)) (q + 4) c (Tc.2.1 4 5)) (q + 5) c v) q 2 (Tc.1 q 2 + 1)).1 q i = Tc.1 q i := fun i hi => by
        rw [tI_off (fun z => hi z.2), tI_off (fun z => by have := z.1; omega)]
        exact (ec 0 i).1
      generalize tI (tI (tJ (F_X9_next (F_X9_next Tc)) (q + 4) c (Tc.2.1 4 5)) (q + 5) c v) q 2 (Tc.1 q 2 + 1) = T3 at *
      have frS : fr (wg h) (F_X11_next (F_X11_next R1)) (tI (tI (F_X11_next (F_X11_next R1)) 114 (6 * h + c) v) 113 h (Tr.1 113 h + 1)) := by
        refine fr_I ?_ (fr_I ?_ fr_refl)
        · unfold wg; simp
        · unfold wg
          rw [show (6 * h + c) / 6 = h by omega]
          simp
      have d1 : ∀ i, i ≠ 6 * h + c → (tI (tI (F_X11_next (F_X11_next R1)) 114 (6 * h + c) v) 113 h (Tr.1 113 h + 1)).1 114 i = Tr.1 114 i := fun i hi => by rw [tI_off (fun z => by have := z.1; omega), tI_off (fun z => hi z.2), (er 114 _ (by decide)).1, oi]
      have d2 : (tI (tI (F_X11_next (F_X11_next R1)) 114 (6 * h + c) v) 113 h (Tr.1 113 h + 1)).1 114 (6 * h + c) = v := by rw [tI_off (fun z => by have := z.1; omega), tI_at]
      have d3 : (tI (tI (F_X11_next (F_X11_next R1)) 114 (6 * h + c) v) 113 h (Tr.1 113 h + 1)).1 113 h = Tr.1 113 h + 1 := tI_at
      have d4 : ∀ k i, 106 ≤ k → k ≠ 113 → k ≠ 114 → (tI (tI (F_X11_next (F_X11_next R1)) 114 (6 * h + c) v) 113 h (Tr.1 113 h + 1)).1 k i = Tr.1 k i := fun k i hk h1 h2 => by rw [tI_off (fun z => h1 z.1), tI_off (fun z => h2 z.1), (er k _ hk).1, oi]
      have d5 : ∀ k i, 106 ≤ k → (tI (tI (F_X11_next (F_X11_next R1)) 114 (6 * h + c) v) 113 h (Tr.1 113 h + 1)).2.1 k i = R1.2.1 k i := fun k i hk => (er k i hk).2
      generalize tI (tI (F_X11_next (F_X11_next R1)) 114 (6 * h + c) v) 113 h (Tr.1 113 h + 1) = R3 at *
      have hB3 : BR sz N p b T3 R3 := BR_up g frC frS m1
      have g1 := g.1
      have kc : kpC p Tc T3 := kpC_trans (kpC_w4 g1 n2) (kpC_trans (kpC_w4 g1 m2) (kpC_wq g frC))
      have kr : kpR b Tr R3 := kpR_trans (kpR_wg frR) (kpR_trans (kpR_w5 n3) (kpR_trans (kpR_w5 m3) (kpR_wg frS)))
      have hL3 : GL T3 R3 q h := GL_up (b6 1 (by decide)) (fun l _ => ⟨(b5 1 l (by decide)).2, (b5 2 l (by decide)).1⟩) (fun l k _ _ => (b5 3 _ (by decide)).2) (d4 _ _ (by decide) (by decide) (by decide)) (fun l _ => ⟨d4 _ _ (by decide) (by decide) (by decide), by rw [d5 _ _ (by decide), oj _ _ (by decide)]⟩) (fun l k _ _ => by rw [d5 _ _ (by decide), oj _ _ (by decide)]) hG.1
      have hP3 : GP2 T3 R3 q h := GP2_new hG.2.1 hc c6 lo hi b4 d3 (fun l _ hl => b1 l hl) (fun l _ hl => ⟨d1 _ (by omega), by rw [d5 _ _ (by decide), o128 _ (by omega)]⟩) b3 d2 (by rw [b2, d5 _ _ (by decide), a128])
      have hG3 : GB2 T3 R3 p b q h := GB2_K kc kr hG hL3 hP3 (tle_e (b6 1 (by decide))) (by rw [b4]; exact tle_s hc (by omega)) (fun i hi => b6 i (by omega)) (fun i => (b5 6 i (by decide)).1) (fun k i k1 k2 => d4 _ _ (by omega) (by omega) (by omega))
      have p3 : pos T3 = pos (F_X9_next (F_X9_next Tc)) := by
        obtain ⟨g1, g2⟩ := g
        unfold pos
        rw [fr_i frC (wq_off (by omega) (by omega))]
      have p1 := n7 (by rw [k3]; decide)
      refine ⟨Or.inl ⟨⟨hB3, hG3, kc, kr, by omega, fr_trans (fQ1 (w4_wE n2)) (fr_trans (fQ1 (w4_wE m2)) (fQ2 frC)), fr_trans (fG2 frR) (fr_trans (fG1 (w5_wRe n3)) (fr_trans (fG1 (w5_wRe m3)) (fG2 frS)))⟩, by omega⟩, ⟨okn, okt, fun z => absurd f0 z, fun _ => ⟨okA, trivial⟩⟩, okn', okr True trivial⟩
    · have frS : fr (wg h) (F_X11_numberOf (F_X11_next R1) 1 200).2 (tI (tI (F_X11_numberOf (F_X11_next R1) 1 200).2 114 (6 * h + c) (F_X11_numberOf (F_X11_next R1) 1 200).1) 113 h ((F_X11_numberOf (F_X11_next R1) 1 200).2.1 113 h + 1)) := by
        refine fr_I ?_ (fr_I ?_ fr_refl)
        · unfold wg; simp
        · unfold wg
          rw [show (6 * h + c) / 6 = h by omega]
          simp
      rw [if_neg tF.1]
      exact ⟨Or.inr ⟨FL_R frS tF, tS.1, fr_trans (fQ1 (w4_wE n2)) (fQ1 tS.2.1), fr_trans (fG2 frR) (fr_trans (fG1 (w5_wRe n3)) (fr_trans (fG1 tf) (fG2 frS)))⟩, ⟨okn, okt, fun _ => trivial, fun z => absurd z tF.1⟩, okn', okr True trivial⟩
  · have sN := SF_num hS.1 1 200
    have fN := FL_SF hF sN.1
    rw [if_neg fN.1, if_pos hN2]
    exact ⟨Or.inr ⟨fN, sN.1.1, fr_trans (fQ1 hS.2.1) (fQ1 sN.1.2.1), fG1 hf⟩, ⟨okn, sN.2, fun _ => trivial, fun z => absurd z fN.1⟩, okn', fun z => absurd hN2 z, fun _ => trivial⟩
theorem R_min {sz N p q b h : Nat} {hv : Int32} {Tc Tr : tT} (g : gq p q) (hh : hv.toInt = h) (hB : BR sz N p b Tc Tr) (hG : GB2 Tc Tr p b q h) : IT sz N p q b h Tc Tr (tI (F_X6_takeNumber Tc 1 120).2 q 4 (F_X6_takeNumber Tc 1 120).1) (tI (F_X11_numberOf Tr 1 120).2 116 hv.toNatClampNeg (F_X11_numberOf Tr 1 120).1) ∧ ok_X6_takeNumber sz Tc 1 120 ∧ ok_X11_numberOf sz Tr 1 120 := by
  obtain ⟨hT, okt, okt'⟩ := BR_num hB 1 120
  refine ⟨?_, okt, okt'⟩
  rw [tnN hh]
  have q9 : 9 ≤ q := by obtain ⟨g1, g2⟩ := g; omega
  have fC : ∀ (T : tT) (v : Int32), fr (wq q) T (tI T q 4 v) := fun T v => fr_I (wq_q (by omega) (by omega)) fr_refl
  have fR : ∀ (T : tT) (v : Int32), fr (wg h) T (tI T 116 h v) := fun T v => fr_I (by unfold wg; simp) fr_refl
  rcases hT with ⟨k2, lo, hi, t1, t2⟩ | ⟨t0, tF, tS, tf⟩
  · rw [t1, t2]
    dsimp only
    obtain ⟨n1, n2, n3, n4, n5, n6, n7, _⟩ := BR_next hB
    have sN := ST_next g hB hG
    generalize Tc.1 4 4 = v at *
    have hB3 : BR sz N p b (tI (F_X9_next Tc) q 4 v) (tI (F_X11_next Tr) 116 h v) := BR_up g (fC _ _) (fR _ _) n1
    have p3 : pos (tI (F_X9_next Tc) q 4 v) = pos (F_X9_next Tc) := by
      obtain ⟨g1, g2⟩ := g
      unfold pos
      rw [fr_i (fC _ _) (wq_off (by omega) (by omega))]
    have kc := kpC_wq g (fC (F_X9_next Tc) v)
    have kr := kpR_wg (b := b) (fR (F_X11_next Tr) v)
    obtain ⟨g1, g2, g3, g4, g5, g6⟩ := sN.2.1
    have a : ∀ k i, ¬ (k = q ∧ i = 4) → (tI (F_X9_next Tc) q 4 v).1 k i = (F_X9_next Tc).1 k i := fun k i h => tI_off h
    have r : ∀ k i, k ≠ 116 → (tI (F_X11_next Tr) 116 h v).1 k i = (F_X11_next Tr).1 k i := fun k i h => tI_off (fun z => h z.1)
    have hG3 : GB2 (tI (F_X9_next Tc) q 4 v) (tI (F_X11_next Tr) 116 h v) p b q h := by
      refine ⟨GL_up (a _ _ (by omega)) (fun l _ => ⟨rfl, a _ _ (by omega)⟩) (fun l k _ _ => rfl) (r _ _ (by decide)) (fun l _ => ⟨r _ _ (by decide), rfl⟩) (fun l k _ _ => rfl) g1, GP2_up (a _ _ (by omega)) (fun l _ => ⟨rfl, a _ _ (by omega)⟩) (r _ _ (by decide)) (fun l _ => ⟨r _ _ (by decide), rfl⟩) g2, GM_up kc kr (tle_e (a _ _ (by omega))) (tle_e (a _ _ (by omega))) (a _ _ (by omega)) (fun m _ => a _ _ (by omega)) (r _ _ (by decide)) (fun m _ => ⟨r _ _ (by decide), r _ _ (by decide)⟩) g3, ?_, GR_up kc kr (tle_e (a _ _ (by omega))) (tle_e (a _ _ (by omega))) (a _ _ (by omega)) (r _ _ (by decide)) (r _ _ (by decide)) g5, GR_up kc kr (tle_e (a _ _ (by omega))) (tle_e (a _ _ (by omega))) (a _ _ (by omega)) (r _ _ (by decide)) (r _ _ (by decide)) g6⟩
      unfold GMi
      rw [tI_at, tI_at]
      refine ⟨rfl, ?_, hi⟩
      rw [tle, show (0 : Int32).toInt = 0 from rfl]
      rw [tle, show (1 : Int32).toInt = 1 from rfl] at lo
      omega
    have p1 := n7 (by rw [k2]; decide)
    exact Or.inl ⟨ST_trans sN ⟨hB3, hG3, kc, kr, Int.le_of_eq p3.symm, fQ2 (fC _ _), fG2 (fR _ _)⟩, by omega⟩
  · exact Or.inr ⟨FL_R (fR _ _) (FL_up g (fC _ _) tF), CS_up g (fC _ _) tS.1, fr_trans (fQ1 tS.2.1) (fQ2 (fC _ _)), fr_trans (fG1 tf) (fG2 (fR _ _))⟩
