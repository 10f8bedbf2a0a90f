/-! a list, a part: the whole item's text -/
theorem GB2_K {p q b h : Nat} {Tc Tr Tc' Tr' : tT} (kc : kpC p Tc Tc') (kr : kpR b Tr Tr') (hG : GB2 Tc Tr p b q h) (hL : GL Tc' Tr' q h) (hP : GP2 Tc' Tr' q h) (e1 : Tc.1 q 1 ≤ Tc'.1 q 1) (e2 : Tc.1 q 2 ≤ Tc'.1 q 2) (e : ∀ i, 3 ≤ i → Tc'.1 q i = Tc.1 q i) (eo : ∀ i, Tc'.1 (q + 6) i = Tc.1 (q + 6) i) (r : ∀ k i, 115 ≤ k → k ≤ 122 → Tr'.1 k i = Tr.1 k i) : GB2 Tc' Tr' p b q h := by
  obtain ⟨g1, g2, g3, g4, g5, g6⟩ := hG
  have a : ∀ k i, 115 ≤ k → k ≤ 122 → Tr'.1 k i = Tr.1 k i := r
  refine ⟨hL, hP, GM_up kc kr e1 e2 (e 3 (by decide)) (fun m _ => eo m) (a _ _ (by decide) (by decide)) (fun m _ => ⟨a _ _ (by decide) (by decide), a _ _ (by decide) (by decide)⟩) g3, ?_, GR_up kc kr e1 e2 (e 5 (by decide)) (a _ _ (by decide) (by decide)) (a _ _ (by decide) (by decide)) g5, GR_up kc kr e1 e2 (e 6 (by decide)) (a _ _ (by decide) (by decide)) (a _ _ (by decide) (by decide)) g6⟩
  unfold GMi
  rw [e 4 (by decide), a 116 h (by decide) (by decide)]
  exact g4
theorem tle_s {x : Int32} {c : Nat} (h : x.toInt = c) (hc : c < 100) : x ≤ x + 1 := by
  rw [tle, tinc' (by omega)]
  omega
theorem GL_new {q h c : Nat} {Tc Tr Tc' Tr' : tT} (hG : GL Tc Tr q h) (hc : (Tc.1 q 1).toInt = c) (c6 : c < 6) (a1 : Tc'.1 q 1 = Tc.1 q 1 + 1) (r1 : Tr'.1 111 h = Tr.1 111 h + 1) (a2 : ∀ l, l < 6 → l ≠ c → Tc'.2.1 (q + 1) l = Tc.2.1 (q + 1) l ∧ Tc'.1 (q + 2) l = Tc.1 (q + 2) l) (a3 : ∀ i, Tc'.2.1 (q + 3) i = Tc.2.1 (q + 3) i) (r2 : ∀ l, l < 6 → l ≠ c → Tr'.1 112 (6 * h + l) = Tr.1 112 (6 * h + l) ∧ Tr'.2.1 126 (6 * h + l) = Tr.2.1 126 (6 * h + l)) (r3 : ∀ i, Tr'.2.1 127 i = Tr.2.1 127 i) (n1 : Tc'.1 (q + 2) c = 0) (n2 : Tr'.1 112 (6 * h + c) = 0) (n3 : Tc'.2.1 (q + 1) c = Tr'.2.1 126 (6 * h + c)) : GL Tc' Tr' q h := by
  obtain ⟨g1, g2⟩ := hG
  have x1 : (Tc.1 q 1 + 1).toInt = (c + 1 : Nat) := by rw [tinc' (by omega)]; omega
  unfold GL
  rw [a1, r1, ← g1.1]
  refine ⟨⟨rfl, by rw [tle, x1]; exact Int.natCast_nonneg _, by rw [tle, x1, show (6 : Int32).toInt = 6 from rfl]; omega⟩, fun l hl => ?_⟩
  rw [x1] at hl
  by_cases d : l = c
  · rw [d, n1, n2, n3]
    exact ⟨rfl, by decide, by decide, rfl, fun k hk => by rw [show (0 : Int32).toInt = 0 from rfl] at hk; omega⟩
  · rw [(a2 l (by omega) d).1, (a2 l (by omega) d).2, (r2 l (by omega) d).1, (r2 l (by omega) d).2]
    obtain ⟨y1, y2, y3, y4, y5⟩ := g2 l (by omega)
    exact ⟨y1, y2, y3, y4, fun k hk => by rw [a3, r3]; exact y5 k hk⟩
theorem GP2_new {q h c : Nat} {Tc Tr Tc' Tr' : tT} {v : Int32} (hG : GP2 Tc Tr q h) (hc : (Tc.1 q 2).toInt = c) (c6 : c < 6) (v1 : 1 ≤ v) (v2 : v ≤ 200) (a1 : Tc'.1 q 2 = Tc.1 q 2 + 1) (r1 : Tr'.1 113 h = Tr.1 113 h + 1) (a2 : ∀ l, l < 6 → l ≠ c → Tc'.2.1 (q + 4) l = Tc.2.1 (q + 4) l ∧ Tc'.1 (q + 5) l = Tc.1 (q + 5) l) (r2 : ∀ l, l < 6 → l ≠ c → Tr'.1 114 (6 * h + l) = Tr.1 114 (6 * h + l) ∧ Tr'.2.1 128 (6 * h + l) = Tr.2.1 128 (6 * h + l)) (n1 : Tc'.1 (q + 5) c = v) (n2 : Tr'.1 114 (6 * h + c) = v) (n3 : Tc'.2.1 (q + 4) c = Tr'.2.1 128 (6 * h + c)) : GP2 Tc' Tr' q h := by
  obtain ⟨g1, g2⟩ := hG
  have x1 : (Tc.1 q 2 + 1).toInt = (c + 1 : Nat) := by rw [tinc' (by omega)]; omega
  unfold GP2
  rw [a1, r1, ← g1.1]
  refine ⟨⟨rfl, by rw [tle, x1]; exact Int.natCast_nonneg _, by rw [tle, x1, show (6 : Int32).toInt = 6 from rfl]; omega⟩, fun l hl => ?_⟩
  rw [x1] at hl
  by_cases d : l = c
  · rw [d, n1, n2, n3]
    exact ⟨rfl, v1, v2, rfl⟩
  · rw [(a2 l (by omega) d).1, (a2 l (by omega) d).2, (r2 l (by omega) d).1, (r2 l (by omega) d).2]
    exact g2 l (by omega)
theorem take_F {T : tT} {k : Int32} (h : T.1 3 1 ≠ 0) : F_X6_take T k = T := by
  unfold F_X6_take
  rw [if_neg h]
/-- two tokens further, class's and reference's -/
theorem R_list {sz N p q b h : Nat} {hv : Int32} {Tc Tr : tT} (g : gq p q) (hh : hv.toInt = h) (h40 : h < 40) (hB : BR sz N p b Tc Tr) (hG : GB2 Tc Tr p b q h) (h6 : Tc.1 q 1 < 6) : IT sz N p q b h Tc Tr (F_X6_readList Tc q) (F_X11_readList Tr hv) ∧ ok_X6_readList sz Tc q ∧ ok_X11_readList sz Tr hv := by
  have hcs := hB.2.2.1
  obtain ⟨hN, okn, okn'⟩ := BR_name hB hh h40 (GB2_NR hG)
  have c0 : ∃ c : Nat, (Tc.1 q 1).toInt = c ∧ c < 6 := by
    have y2 := hG.1.1.2.1
    rw [tle, show (0 : Int32).toInt = 0 from rfl] at y2
    rw [tlt, show (6 : Int32).toInt = 6 from rfl] at h6
    exact ⟨(Tc.1 q 1).toInt.toNat, by omega, by omega⟩
  obtain ⟨c, hc, c6⟩ := c0
  have rc : Tr.1 111 h = Tc.1 q 1 := hG.1.1.1.symm
  unfold F_X6_readList ok_X6_readList F_X11_readList ok_X11_readList
  rcases hN with ⟨k3, hN1, hN2⟩ | ⟨hF, hN2, hS, hf⟩
  · rw [hN1, hN2]
    dsimp only
    have ix : (6 * hv + Tr.1 111 hv.toNatClampNeg).toInt = (6 * h + c : Nat) := by
      rw [tnN hh, rc]
      exact tix6 hh h40 hc c6
    have i240 : vp_in (6 * hv + Tr.1 111 hv.toNatClampNeg) 240 := by rw [vp_in_iff, ix]; omega
    have i40 : vp_in hv 40 := by rw [vp_in_iff]; omega
    have w' := (tk_num hB.2.2.2.1).2.2.2.1 k3
    have eR : tI (tI (tJ Tr 126 (6 * hv + Tr.1 111 hv.toNatClampNeg).toNatClampNeg (Tr.2.1 105 10)) 112 (6 * hv + Tr.1 111 hv.toNatClampNeg).toNatClampNeg 0) 111 hv.toNatClampNeg (Tr.1 111 hv.toNatClampNeg + 1) = tI (tI (tJ Tr 126 (6 * h + c) (Tc.2.1 4 5)) 112 (6 * h + c) 0) 111 h (Tr.1 111 h + 1) := by
      rw [tnN ix, tnN hh, w']
    rw [eR]
    have frR : fr (wg h) Tr (tI (tI (tJ Tr 126 (6 * h + c) (Tc.2.1 4 5)) 112 (6 * h + c) 0) 111 h (Tr.1 111 h + 1)) := by
      refine fr_I ?_ (fr_I ?_ (fr_J ?_ fr_refl))
      · unfold wg; simp
      · unfold wg
        rw [show (6 * h + c) / 6 = h by omega]
        simp
      · unfold wg
        rw [show (6 * h + c) / 6 = h by omega]
        simp
    have o126 : ∀ i, i ≠ 6 * h + c → (tI (tI (tJ Tr 126 (6 * h + c) (Tc.2.1 4 5)) 112 (6 * h + c) 0) 111 h (Tr.1 111 h + 1)).2.1 126 i = Tr.2.1 126 i := fun i hi => tJ_off (fun z => hi z.2)
    have a126 : (tI (tI (tJ Tr 126 (6 * h + c) (Tc.2.1 4 5)) 112 (6 * h + c) 0) 111 h (Tr.1 111 h + 1)).2.1 126 (6 * h + c) = Tc.2.1 4 5 := tJ_at
    have oj : ∀ k i, k ≠ 126 → (tI (tI (tJ Tr 126 (6 * h + c) (Tc.2.1 4 5)) 112 (6 * h + c) 0) 111 h (Tr.1 111 h + 1)).2.1 k i = Tr.2.1 k i := fun k i hk => tJ_off (fun z => hk z.1)
    have o112 : ∀ i, i ≠ 6 * h + c → (tI (tI (tJ Tr 126 (6 * h + c) (Tc.2.1 4 5)) 112 (6 * h + c) 0) 111 h (Tr.1 111 h + 1)).1 112 i = Tr.1 112 i := fun i hi => by rw [tI_off (fun z => by have := z.1; omega), tI_off (fun z => hi z.2)]; rfl
    have a112 : (tI (tI (tJ Tr 126 (6 * h + c) (Tc.2.1 4 5)) 112 (6 * h + c) 0) 111 h (Tr.1 111 h + 1)).1 112 (6 * h + c) = 0 := by rw [tI_off (fun z => by have := z.1; omega), tI_at]
    have a111 : (tI (tI (tJ Tr 126 (6 * h + c) (Tc.2.1 4 5)) 112 (6 * h + c) 0) 111 h (Tr.1 111 h + 1)).1 111 h = Tr.1 111 h + 1 := tI_at
    have oi : ∀ k i, k ≠ 111 → k ≠ 112 → (tI (tI (tJ Tr 126 (6 * h + c) (Tc.2.1 4 5)) 112 (6 * h + c) 0) 111 h (Tr.1 111 h + 1)).1 k i = Tr.1 k i := fun k i h1 h2 => by rw [tI_off (fun z => h1 z.1), tI_off (fun z => h2 z.1)]; rfl
    generalize tI (tI (tJ Tr 126 (6 * h + c) (Tc.2.1 4 5)) 112 (6 * h + c) 0) 111 h (Tr.1 111 h + 1) = R1 at *
    have hB1 : BR sz N p b Tc R1 := BR_up g fr_refl frR hB
    obtain ⟨n1, n2, n3, n4, n5, n6, n7, _⟩ := BR_next hB1
    obtain ⟨hT, okt, okt'⟩ := BR_take n1 (k := 61) (by unfold isS; decide)
    rcases hT with ⟨k61, t1, t2⟩ | ⟨k61, t1, t2, t3⟩
    · obtain ⟨m1, m2, m3, m4, m5, m6, m7, _⟩ := BR_next n1
      have f0 : (F_X9_next (F_X9_next Tc)).1 3 1 = 0 := m1.2.2.2.2.1.1
      have q9 : 9 ≤ q := by obtain ⟨g1, g2⟩ := g; omega
      have ec : ∀ o i, (F_X9_next (F_X9_next Tc)).1 (q + o) i = Tc.1 (q + o) i ∧ (F_X9_next (F_X9_next Tc)).2.1 (q + o) i = Tc.2.1 (q + o) i := fun o i => ⟨(fr_i m2 (w4_z (by omega))).trans (fr_i n2 (w4_z (by omega))), (fr_j m2 (w4_z (by omega))).trans (fr_j n2 (w4_z (by omega)))⟩
      have er : ∀ k i, 106 ≤ k → (F_X11_next (F_X11_next R1)).1 k i = R1.1 k i ∧ (F_X11_next (F_X11_next R1)).2.1 k i = R1.2.1 k i := fun k i hk => ⟨(fr_i m3 (w5_off hk)).trans (fr_i n3 (w5_off hk)), (fr_j m3 (w5_off hk)).trans (fr_j n3 (w5_off hk))⟩
      have e1 : (F_X9_next (F_X9_next Tc)).1 q 1 = Tc.1 q 1 := (ec 0 1).1
      have n16 : ¬ 6 ≤ (F_X9_next (F_X9_next Tc)).1 q 1 := by
        rw [e1, tle, hc, show (6 : Int32).toInt = 6 from rfl]
        omega
      have eA : F_X3_addList (F_X9_next (F_X9_next Tc)) q (Tc.2.1 4 5) = tI (tI (tJ (F_X9_next (F_X9_next Tc)) (q + 1) c (Tc.2.1 4 5)) (q + 2) c 0) q 1 (Tc.1 q 1 + 1) := by
        unfold F_X3_addList
        rw [if_neg n16, e1, tnN hc, tI_off (fun z => by have := z.1; omega)]
        show tI (tI (tJ (F_X9_next (F_X9_next Tc)) (q + 1) c (Tc.2.1 4 5)) (q + 2) c 0) q 1 ((F_X9_next (F_X9_next Tc)).1 q 1 + 1) = _
        rw [e1]
      have okA : ok_X3_addList sz (F_X9_next (F_X9_next Tc)) q (Tc.2.1 4 5) := by
        have : vp_in ((F_X9_next (F_X9_next Tc)).1 q 1) 6 := by rw [e1, vp_in_iff]; omega
        exact ⟨fun _ => trivial, fun _ => ⟨this, this⟩⟩
      rw [t1, t2, if_pos f0, eA]
      have frC : fr (wq q) (F_X9_next (F_X9_next Tc)) (tI (tI (tJ (F_X9_next (F_X9_next Tc)) (q + 1) c (Tc.2.1 4 5)) (q + 2) c 0) q 1 (Tc.1 q 1 + 1)) := fr_I (wq_q (by omega) (by omega)) (fr_I (wq_q (by omega) (by omega)) (fr_J (wq_q (by omega) (by omega)) fr_refl))
      have b1 : ∀ i, i ≠ c → (tI (tI (tJ (F_X9_next (F_X9_next Tc)) (q + 1) c (Tc.2.1 4 5)) (q + 2) c 0) q 1 (Tc.1 q 1 + 1)).2.1 (q + 1) i = Tc.2.1 (q + 1) i ∧ (tI (tI (tJ (F_X9_next (F_X9_next Tc)) (q + 1) c (Tc.2.1 4 5)) (q + 2) c 0) q 1 (Tc.1 q 1 + 1)).1 (q + 2) i = Tc.1 (q + 2) i := fun i hi => by
        constructor
        · exact (tJ_off (fun z => hi z.2)).trans (ec 1 i).2
        · rw [tI_off (fun z => by have := z.1; omega), tI_off (fun z => hi z.2)]
          exact (ec 2 i).1
      have b2 : (tI (tI (tJ (F_X9_next (F_X9_next Tc)) (q + 1) c (Tc.2.1 4 5)) (q + 2) c 0) q 1 (Tc.1 q 1 + 1)).2.1 (q + 1) c = Tc.2.1 4 5 := tJ_at
      have b3 : (tI (tI (tJ (F_X9_next (F_X9_next Tc)) (q + 1) c (Tc.2.1 4 5)) (q + 2) c 0) q 1 (Tc.1 q 1 + 1)).1 (q + 2) c = 0 := by rw [tI_off (fun z => by have := z.1; omega), tI_at]
      have b4 : (tI (tI (tJ (F_X9_next (F_X9_next Tc)) (q + 1) c (Tc.2.1 4 5)) (q + 2) c 0) q 1 (Tc.1 q 1 + 1)).1 q 1 = Tc.1 q 1 + 1 := tI_at
      have b5 : ∀ o i, 3 ≤ o → (tI (tI (tJ (F_X9_next (F_X9_next Tc)) (q + 1) c (Tc.2.1 4 5)) (q + 2) c 0) q 1 (Tc.1 q 1 + 1)).1 (q + o) i = Tc.1 (q + o) i ∧ (tI (tI (tJ (F_X9_next (F_X9_next Tc)) (q + 1) c (Tc.2.1 4 5)) (q + 2) c 0) q 1 (Tc.1 q 1 + 1)).2.1 (q + o) i = Tc.2.1 (q + o) i := fun o i ho => by
        constructor
        · rw [tI_off (fun z => by have := z.1; omega), tI_off (fun z => by have := z.1; omega)]
          exact (ec o i).1
        · exact (tJ_off (fun z => by have := z.1; omega)).trans (ec o i).2
      have b6 : ∀ i, i ≠ 1 → (tI (tI (tJ (F_X9_next (F_X9_next Tc)) (q + 1) c (Tc.2.1 4 5)) (q + 2) c 0) q 1 (Tc.1 q 1 + 1)).1 q i = Tc.1 q i := fun i hi => by
        rw [tI_off (fun z => hi z.2), tI_off (fun z => by have := z.1; omega)]
        exact (ec 0 i).1
      generalize tI (tI (tJ (F_X9_next (F_X9_next Tc)) (q + 1) c (Tc.2.1 4 5)) (q + 2) c 0) q 1 (Tc.1 q 1 + 1) = T3 at *
      have hB3 : BR sz N p b T3 (F_X11_next (F_X11_next R1)) := BR_up (h := h) g frC fr_refl m1
      have g1 := g.1
      have kc : kpC p Tc T3 := kpC_trans (kpC_w4 g1 n2) (kpC_trans (kpC_w4 g1 m2) (kpC_wq g frC))
      have kr : kpR b Tr (F_X11_next (F_X11_next R1)) := kpR_trans (kpR_wg frR) (kpR_trans (kpR_w5 n3) (kpR_w5 m3))
      have hL3 : GL T3 (F_X11_next (F_X11_next R1)) q h := GL_new hG.1 hc c6 b4 (by rw [(er 111 h (by decide)).1, a111]) (fun l _ hl => b1 l hl) (fun i => (b5 3 i (by decide)).2) (fun l _ hl => ⟨by rw [(er 112 _ (by decide)).1, o112 _ (by omega)], by rw [(er 126 _ (by decide)).2, o126 _ (by omega)]⟩) (fun i => by rw [(er 127 _ (by decide)).2, oj _ _ (by decide)]) b3 (by rw [(er 112 _ (by decide)).1, a112]) (by rw [(er 126 _ (by decide)).2, a126, b2])
      have hP3 : GP2 T3 (F_X11_next (F_X11_next R1)) q h := GP2_up (b6 2 (by decide)) (fun l _ => ⟨(b5 4 l (by decide)).2, (b5 5 l (by decide)).1⟩) (by rw [(er 113 _ (by decide)).1, oi _ _ (by decide) (by decide)]) (fun l _ => ⟨by rw [(er 114 _ (by decide)).1, oi _ _ (by decide) (by decide)], by rw [(er 128 _ (by decide)).2, oj _ _ (by decide)]⟩) hG.2.1
      have hG3 : GB2 T3 (F_X11_next (F_X11_next R1)) p b q h := GB2_K kc kr hG hL3 hP3 (by rw [b4]; exact tle_s hc (by omega)) (tle_e (b6 2 (by decide))) (fun i hi => b6 i (by omega)) (fun i => (b5 6 i (by decide)).1) (fun k i k1 k2 => by rw [(er k _ (by omega)).1, oi _ _ (by omega) (by omega)])
      have p3 : pos T3 = pos (F_X9_next (F_X9_next Tc)) := by
        obtain ⟨g1, g2⟩ := g
        unfold pos
        rw [fr_i frC (wq_off (by omega) (by omega))]
      have sT : ST sz N p q b h Tc Tr T3 (F_X11_next (F_X11_next R1)) := ⟨hB3, hG3, kc, kr, by omega, fr_trans (fQ1 (w4_wE n2)) (fr_trans (fQ1 (w4_wE m2)) (fQ2 frC)), fr_trans (fG2 frR) (fr_trans (fG1 (w5_wRe n3)) (fG1 (w5_wRe m3)))⟩
      obtain ⟨_, _, pN, p0⟩ := BR_pos hB3
      obtain ⟨l1, l2, l3, l4⟩ := L_loop (l := c) g h40 ix 1402 T3 (F_X11_next (F_X11_next R1)) 1 0 fu fu hB3 hG3 (by rw [b4, tinc' (by omega)]; omega) (by decide) (by omega) (by rw [fu_eq]; omega) (by rw [fu_eq]; omega) (by decide) (by exact p0)
      refine ⟨ST_IT sT l1, ⟨okn, by rw [← hN1] at *; exact okt, fun _ => ⟨okA, l2, l3⟩, fun z => absurd f0 z⟩, okn', fun _ => ⟨i40, i240, i240, i40, i40, n5, okt', l4⟩, fun z => absurd z (by decide)⟩
    · have s1 := SF_trans (SF_next hcs).1 (SF_refuse (SF_next hcs).1.1)
      have g0 := good0 (show (F_X11_wrong (F_X11_next R1)).1 105 4 ≠ 0 by rw [t3.2.1]; exact t3.1)
      obtain ⟨F, hF⟩ := fu8
      rw [t1, t2, if_neg t3.1, hF, vl_X11_readList_s0, okl_X11_readList_s0, if_neg (by decide), if_pos g0]
      exact ⟨Or.inr ⟨t3, s1.1, fQ1 s1.2.1, fr_trans (fG2 frR) (fr_trans (fG1 (w5_wRe n3)) (fG1 fr_wrong))⟩, ⟨okn, okt, fun z => absurd z t3.1, fun _ => trivial⟩, okn', fun _ => ⟨i40, i240, i240, i40, i40, n5, okt', fun z => absurd z (by decide), fun _ => ⟨fun _ => trivial, fun z => absurd g0 z⟩⟩, fun z => absurd z (by decide)⟩
  · rw [take_F hF.1, if_neg hF.1, if_pos hN2]
    exact ⟨Or.inr ⟨hF, hS.1, fQ1 hS.2.1, fG1 hf⟩, ⟨okn, (SF_take hS.1 61).2, fun z => absurd z hF.1, fun _ => trivial⟩, okn', fun z => absurd hN2 z, fun _ => trivial⟩
