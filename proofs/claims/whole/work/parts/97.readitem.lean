/-! an item, from its word to its end -/
theorem R_start {sz N p q b h : Nat} {hv : Int32} {Tc Tr : tT} (hh : hv.toInt = h) (h40 : h < 40) (hB : BR sz N p b Tc Tr) (hG : GB2 Tc Tr p b q h) {w : Int64} (hw : w = if Tr.1 105 8 = 3 then Tr.2.1 105 10 else 0) : (∀ i, i < 15 → (w = kw i ↔ Tc.1 4 2 = nI (200 + i))) ∧ ∀ n, (vl_X11_readItem (n + 1)).1 Tr hv w = (vl_X11_readItem n).2.1 Tr hv w (v_X6_cannotStartItem Tc q) ∧ ((okl_X11_readItem n).2.1 sz Tr hv w (v_X6_cannotStartItem Tc q) → (okl_X11_readItem (n + 1)).1 sz Tr hv w) := by
  have tw : ∀ i, i < 15 → (w = kw i ↔ Tc.1 4 2 = nI (200 + i)) := fun i hi => by
    rw [hw]
    exact tk_w hB.2.2.2.1 hi
  refine ⟨tw, fun n => ?_⟩
  have w1 : w = 1818850164 ↔ Tc.1 4 2 = 201 := tw 1 (by decide)
  have w2 : w = 1885434484 ↔ Tc.1 4 2 = 202 := tw 2 (by decide)
  have w3 : w = 30796695599342963 ↔ Tc.1 4 2 = 203 := tw 3 (by decide)
  have w4' : w = 1836413812 ↔ Tc.1 4 2 = 204 := tw 4 (by decide)
  have w5' : w = 1885434739 ↔ Tc.1 4 2 = 205 := tw 5 (by decide)
  have w6 : w = 469853432180 ↔ Tc.1 4 2 = 206 := tw 6 (by decide)
  have i40 : vp_in hv 40 := by rw [vp_in_iff]; omega
  obtain ⟨⟨x1, _⟩, ⟨x2, _⟩, ⟨x3, _⟩, x4, x5, x6⟩ := hG
  have z0 : (0 : Int32).toInt = 0 := rfl
  have z6 : (6 : Int32).toInt = 6 := rfl
  have z8 : (8 : Int32).toInt = 8 := rfl
  have c1 : Tr.1 111 hv.toNatClampNeg = 6 ↔ ¬ Tc.1 q 1 < 6 := by
    obtain ⟨y1, y2, y3⟩ := x1
    rw [tnN hh, ← y1, teq, tlt, z6]
    rw [tle, z6] at y3
    omega
  have c2 : Tr.1 113 hv.toNatClampNeg = 6 ↔ ¬ Tc.1 q 2 < 6 := by
    obtain ⟨y1, y2, y3⟩ := x2
    rw [tnN hh, ← y1, teq, tlt, z6]
    rw [tle, z6] at y3
    omega
  have c4 : Tr.1 115 hv.toNatClampNeg = 8 ↔ ¬ Tc.1 q 3 < 8 := by
    obtain ⟨y1, y2, y3⟩ := x3
    rw [tnN hh, ← y1, teq, tlt, z8]
    rw [tle, z8] at y3
    omega
  have c3 : Tr.1 116 hv.toNatClampNeg ≤ 0 ↔ Tc.1 q 4 = 0 := by
    obtain ⟨y1, y2, y3⟩ := x4
    rw [tnN hh, ← y1, teq, tle, z0]
    rw [tle, z0] at y2
    omega
  have cr : ∀ i r, GR Tc Tr p b q h i r → (Tr.1 r hv.toNatClampNeg < 0 ↔ Tc.1 q i = -1) := fun i r hg => by
    rw [tnN hh]
    rcases hg with ⟨y1, y2⟩ | ⟨y1, y2, _⟩
    · rw [y1, y2]
      decide
    · rw [tlt, teq, z0, show (-1 : Int32).toInt = -1 from rfl]
      rw [tle, z0] at y1 y2
      omega
  have c5 := cr 5 119 x5
  have c6 := cr 6 121 x6
  have ne : ∀ {a c : Int32}, Tc.1 4 2 = a → a ≠ c → ¬ Tc.1 4 2 = c := fun h1 h2 h3 => h2 (h1.symm.trans h3)
  rw [vl_X11_readItem_s0, okl_X11_readItem_s0]
  unfold v_X6_cannotStartItem
  by_cases k1 : Tc.1 4 2 = 201
  · have e1 := w1.mpr k1
    rw [if_pos e1, if_pos k1]
    by_cases c : Tc.1 q 1 < 6
    · rw [if_neg (fun z => c1.mp z c), if_pos c]
      exact ⟨rfl, fun o => ⟨fun z => absurd e1 z, fun _ => ⟨i40, fun _ => o, fun z => absurd c (c1.mp z)⟩⟩⟩
    · rw [if_pos (c1.mpr c), if_neg c]
      exact ⟨rfl, fun o => ⟨fun z => absurd e1 z, fun _ => ⟨i40, fun z => absurd (c1.mpr c) z, fun _ => o⟩⟩⟩
  have e1 : ¬ w = 1818850164 := fun z => k1 (w1.mp z)
  rw [if_neg e1, if_neg k1]
  by_cases k2 : Tc.1 4 2 = 202
  · have e2 := w2.mpr k2
    rw [if_pos e2, if_pos k2]
    by_cases c : Tc.1 q 2 < 6
    · rw [if_neg (fun z => c2.mp z c), if_pos c]
      exact ⟨rfl, fun o => ⟨fun _ => ⟨fun z => absurd e2 z, fun _ => ⟨i40, fun _ => o, fun z => absurd c (c2.mp z)⟩⟩, fun z => absurd z e1⟩⟩
    · rw [if_pos (c2.mpr c), if_neg c]
      exact ⟨rfl, fun o => ⟨fun _ => ⟨fun z => absurd e2 z, fun _ => ⟨i40, fun z => absurd (c2.mpr c) z, fun _ => o⟩⟩, fun z => absurd z e1⟩⟩
  have e2 : ¬ w = 1885434484 := fun z => k2 (w2.mp z)
  rw [if_neg e2, if_neg k2]
  by_cases k4 : Tc.1 4 2 = 204
  · have e4 := w4'.mpr k4
    rw [if_pos e4, if_neg (ne k4 (by decide)), if_pos k4]
    by_cases c : Tc.1 q 3 < 8
    · rw [if_neg (fun z => c4.mp z c), if_pos c]
      exact ⟨rfl, fun o => ⟨fun _ => ⟨fun _ => ⟨fun z => absurd e4 z, fun _ => ⟨i40, fun _ => o, fun z => absurd c (c4.mp z)⟩⟩, fun z => absurd z e2⟩, fun z => absurd z e1⟩⟩
    · rw [if_pos (c4.mpr c), if_neg c]
      exact ⟨rfl, fun o => ⟨fun _ => ⟨fun _ => ⟨fun z => absurd e4 z, fun _ => ⟨i40, fun z => absurd (c4.mpr c) z, fun _ => o⟩⟩, fun z => absurd z e2⟩, fun z => absurd z e1⟩⟩
  have e4 : ¬ w = 1836413812 := fun z => k4 (w4'.mp z)
  rw [if_neg e4]
  by_cases k3 : Tc.1 4 2 = 203
  · have e3 := w3.mpr k3
    rw [if_pos e3, if_pos k3]
    by_cases c : Tc.1 q 4 = 0
    · rw [if_pos (c3.mpr c), if_pos c]
      exact ⟨rfl, fun o => ⟨fun _ => ⟨fun _ => ⟨fun _ => ⟨fun z => absurd e3 z, fun _ => ⟨i40, fun _ => o, fun z => absurd (c3.mpr c) z⟩⟩, fun z => absurd z e4⟩, fun z => absurd z e2⟩, fun z => absurd z e1⟩⟩
    · rw [if_neg (fun z => c (c3.mp z)), if_neg c]
      exact ⟨rfl, fun o => ⟨fun _ => ⟨fun _ => ⟨fun _ => ⟨fun z => absurd e3 z, fun _ => ⟨i40, fun z => absurd (c3.mp z) c, fun _ => o⟩⟩, fun z => absurd z e4⟩, fun z => absurd z e2⟩, fun z => absurd z e1⟩⟩
  have e3 : ¬ w = 30796695599342963 := fun z => k3 (w3.mp z)
  rw [if_neg e3, if_neg k3, if_neg k4]
  by_cases k5 : Tc.1 4 2 = 205
  · have e5 := w5'.mpr k5
    rw [if_pos e5, if_pos k5]
    by_cases c : Tc.1 q 5 = -1
    · rw [if_pos (c5.mpr c), if_pos c]
      exact ⟨rfl, fun o => ⟨fun _ => ⟨fun _ => ⟨fun _ => ⟨fun _ => ⟨fun z => absurd e5 z, fun _ => ⟨i40, fun _ => o, fun z => absurd (c5.mpr c) z⟩⟩, fun z => absurd z e3⟩, fun z => absurd z e4⟩, fun z => absurd z e2⟩, fun z => absurd z e1⟩⟩
    · rw [if_neg (fun z => c (c5.mp z)), if_neg c]
      exact ⟨rfl, fun o => ⟨fun _ => ⟨fun _ => ⟨fun _ => ⟨fun _ => ⟨fun z => absurd e5 z, fun _ => ⟨i40, fun z => absurd (c5.mp z) c, fun _ => o⟩⟩, fun z => absurd z e3⟩, fun z => absurd z e4⟩, fun z => absurd z e2⟩, fun z => absurd z e1⟩⟩
  have e5 : ¬ w = 1885434739 := fun z => k5 (w5'.mp z)
  rw [if_neg e5, if_neg k5]
  by_cases k6 : Tc.1 4 2 = 206
  · have e6 := w6.mpr k6
    rw [if_pos e6, if_pos k6]
    by_cases c : Tc.1 q 6 = -1
    · rw [if_pos (c6.mpr c), if_pos c]
      exact ⟨rfl, fun o => ⟨fun _ => ⟨fun _ => ⟨fun _ => ⟨fun _ => ⟨fun _ => ⟨fun z => absurd e6 z, fun _ => ⟨i40, fun _ => o, fun z => absurd (c6.mpr c) z⟩⟩, fun z => absurd z e5⟩, fun z => absurd z e3⟩, fun z => absurd z e4⟩, fun z => absurd z e2⟩, fun z => absurd z e1⟩⟩
    · rw [if_neg (fun z => c (c6.mp z)), if_neg c]
      exact ⟨rfl, fun o => ⟨fun _ => ⟨fun _ => ⟨fun _ => ⟨fun _ => ⟨fun _ => ⟨fun z => absurd e6 z, fun _ => ⟨i40, fun z => absurd (c6.mp z) c, fun _ => o⟩⟩, fun z => absurd z e5⟩, fun z => absurd z e3⟩, fun z => absurd z e4⟩, fun z => absurd z e2⟩, fun z => absurd z e1⟩⟩
  have e6 : ¬ w = 469853432180 := fun z => k6 (w6.mp z)
  rw [if_neg e6, if_neg k6]
  exact ⟨rfl, fun o => ⟨fun _ => ⟨fun _ => ⟨fun _ => ⟨fun _ => ⟨fun _ => ⟨fun _ => o, fun z => absurd z e6⟩, fun z => absurd z e5⟩, fun z => absurd z e3⟩, fun z => absurd z e4⟩, fun z => absurd z e2⟩, fun z => absurd z e1⟩⟩
theorem tixM {x y : Int32} {l k : Nat} (hx : x.toInt = l) (hl : l < 40) (hy : y.toInt = k) (hk : k < 8) : (8 * x + y).toInt = (8 * l + k : Nat) := by
  have z : (8 : Int32).toInt = 8 := rfl
  have m : (8 * x).toInt = 8 * l := by rw [tmul (by rw [z]; omega) (by rw [z]; omega), z]; omega
  rw [tadd (by omega) (by omega)]
  omega
theorem R_item {sz N p q b h : Nat} {hv : Int32} {Tc Tr : tT} (g : gq p q) (hb : b < 5) (hh : hv.toInt = h) (h40 : h < 40) (hB : BR sz N p b Tc Tr) (hG : GB2 Tc Tr p b q h) : IT sz N p q b h Tc Tr (F_X6_readItem Tc q) (F_X11_readItem Tr hv) ∧ ok_X6_readItem sz Tc q ∧ ok_X11_readItem sz Tr hv := by
  obtain ⟨w, hw⟩ : ∃ w : Int64, w = if Tr.1 105 8 = 3 then Tr.2.1 105 10 else 0 := ⟨_, rfl⟩
  obtain ⟨tw, rs⟩ := R_start (sz := sz) hh h40 hB hG hw
  obtain ⟨F, hF⟩ := fu8
  have eR : F_X11_readItem Tr hv = (vl_X11_readItem fu).1 Tr hv w := by
    unfold F_X11_readItem
    rw [hw]
    by_cases c : Tr.1 105 8 = 3
    · rw [if_pos c, if_pos c]
    · rw [if_neg c, if_neg c]
  have eO : (okl_X11_readItem fu).1 sz Tr hv w → ok_X11_readItem sz Tr hv := fun o => by
    unfold ok_X11_readItem
    rw [hw] at o
    exact ⟨fun c => by rw [if_neg c] at o; exact o, fun c => by rw [if_pos c] at o; exact o⟩
  have hcs := hB.2.2.1
  have hr := hB.2.2.2.2.1.2
  have g1' := good1 hr
  obtain ⟨n1, n2, n3, n4, n5, n6, n7, _⟩ := BR_next hB
  have sN := ST_next g hB hG
  have i40 : vp_in hv 40 := by rw [vp_in_iff]; omega
  rw [hF] at eR eO
  rw [(rs (F + 7)).1] at eR
  have g1 := g.1
  have g2 := g.2
  have w1 : w = 1818850164 ↔ Tc.1 4 2 = 201 := tw 1 (by decide)
  have w2 : w = 1885434484 ↔ Tc.1 4 2 = 202 := tw 2 (by decide)
  have w3 : w = 30796695599342963 ↔ Tc.1 4 2 = 203 := tw 3 (by decide)
  have w4' : w = 1836413812 ↔ Tc.1 4 2 = 204 := tw 4 (by decide)
  have w5' : w = 1885434739 ↔ Tc.1 4 2 = 205 := tw 5 (by decide)
  have ne : ∀ {a c : Int32}, Tc.1 4 2 = a → a ≠ c → ¬ Tc.1 4 2 = c := fun h1 h2 h3 => h2 (h1.symm.trans h3)
  by_cases cs : v_X6_cannotStartItem Tc q = 0
  · rw [vl_X11_readItem_s1, if_pos cs, vl_X11_readItem_s2, if_neg g1'] at eR
    have eO2 : (okl_X11_readItem (F + 6)).2.2.1 sz Tr hv w → ok_X11_readItem sz Tr hv := fun o => eO ((rs (F + 7)).2 (by
      rw [okl_X11_readItem_s1]
      exact ⟨fun _ => o, fun z => absurd cs z⟩))
    rw [okl_X11_readItem_s2] at eO2
    rw [eR]
    unfold F_X6_readItem ok_X6_readItem
    rw [if_pos cs]
    have cs' := cs
    unfold v_X6_cannotStartItem at cs'
    by_cases k1 : Tc.1 4 2 = 201
    · have e1 := w1.mpr k1
      rw [if_pos k1] at cs' ⊢
      have c6 : Tc.1 q 1 < 6 := Classical.byContradiction fun z => by rw [if_neg z] at cs'; cases cs'
      rw [if_pos e1]
      obtain ⟨r1, r2, r3⟩ := R_list g hh h40 n1 sN.2.1 (by rw [fr_i n2 (w4_z (by omega))]; exact c6)
      obtain ⟨s1, s2, s3⟩ := IT_semi g r1
      exact ⟨ST_IT sN s1, ⟨fun _ => ⟨n4, fun _ => ⟨r2, s2, trivial⟩, fun z => absurd z (ne k1 (by decide)), fun z => absurd z (ne k1 (by decide)), fun z => absurd k1 z⟩, fun z => absurd cs z⟩, eO2 ⟨fun _ => ⟨n5, fun z => absurd e1 z, fun _ => ⟨r3, s3⟩⟩, fun z => absurd z g1'⟩⟩
    have e1 : ¬ w = 1818850164 := fun z => k1 (w1.mp z)
    rw [if_neg k1] at cs' ⊢
    rw [if_neg e1]
    by_cases k2 : Tc.1 4 2 = 202
    · have e2 := w2.mpr k2
      rw [if_pos k2] at cs' ⊢
      have c6 : Tc.1 q 2 < 6 := Classical.byContradiction fun z => by rw [if_neg z] at cs'; cases cs'
      rw [if_pos e2]
      obtain ⟨r1, r2, r3⟩ := R_part g hh h40 n1 sN.2.1 (by rw [fr_i n2 (w4_z (by omega))]; exact c6)
      obtain ⟨s1, s2, s3⟩ := IT_semi g r1
      exact ⟨ST_IT sN s1, ⟨fun _ => ⟨n4, fun z => absurd z k1, fun _ => ⟨r2, s2, trivial⟩, fun z => absurd z (ne k2 (by decide)), fun _ z => absurd k2 z⟩, fun z => absurd cs z⟩, eO2 ⟨fun _ => ⟨n5, fun _ => ⟨fun z => absurd e2 z, fun _ => ⟨r3, s3⟩⟩, fun z => absurd z e1⟩, fun z => absurd z g1'⟩⟩
    have e2 : ¬ w = 1885434484 := fun z => k2 (w2.mp z)
    rw [if_neg k2] at cs' ⊢
    rw [if_neg e2]
    by_cases k3 : Tc.1 4 2 = 203
    · have e3 := w3.mpr k3
      rw [if_pos k3] at cs' ⊢
      rw [if_pos e3]
      obtain ⟨r1, r2, r3⟩ := R_min g hh n1 sN.2.1
      obtain ⟨s1, s2, s3⟩ := IT_semi g r1
      exact ⟨ST_IT sN s1, ⟨fun _ => ⟨n4, fun z => absurd z k1, fun z => absurd z k2, fun _ => ⟨r2, s2, trivial⟩, fun _ _ z => absurd k3 z⟩, fun z => absurd cs z⟩, eO2 ⟨fun _ => ⟨n5, fun _ => ⟨fun _ => ⟨fun z => absurd e3 z, fun _ => ⟨r3, i40, s3⟩⟩, fun z => absurd z e2⟩, fun z => absurd z e1⟩, fun z => absurd z g1'⟩⟩
    have e3 : ¬ w = 30796695599342963 := fun z => k3 (w3.mp z)
    rw [if_neg k3] at cs' ⊢
    rw [if_neg e3]
    have hp : (F_X9_next Tc).2.2 3 3 = some p := n1.2.2.1.2.2.1
    have hts' : tsy sz p := n1.2.2.1.2.2.2.2.2.1
    rw [hp]
    dsimp only
    by_cases k4 : Tc.1 4 2 = 204
    · have e4 := w4'.mpr k4
      rw [if_pos k4] at cs' ⊢
      have c8 : Tc.1 q 3 < 8 := Classical.byContradiction fun z => by rw [if_neg z] at cs'; cases cs'
      have hm0 : ∃ m0 : Nat, (Tc.1 q 3).toInt = m0 ∧ m0 < 8 := by
        have y2 := hG.2.2.1.1.2.1
        rw [tle, show (0 : Int32).toInt = 0 from rfl] at y2
        rw [tlt, show (8 : Int32).toInt = 8 from rfl] at c8
        exact ⟨(Tc.1 q 3).toInt.toNat, by omega, by omega⟩
      obtain ⟨m0, hm0, m8⟩ := hm0
      obtain ⟨i1, i2, i3, i4, i5, i6, i7⟩ := I_must g hb hh h40 hB hG k4 hm0 m8
      have fe : fr (wRe b) (F_X11_next Tr) (F_X11_e (F_X11_next Tr) hv 1) := (e_top (mv := 1) (Tc := tI (F_X9_next Tc) 3 4 1) g hb hh h40 (Or.inl ⟨rfl, rfl⟩) (BR_up (h := h) g (fr_I (by unfold wq; simp) fr_refl) fr_refl n1) (by
        have := GB2_NR sN.2.1
        unfold NR at this ⊢
        rw [tI_off (fun z => by have := z.1; omega), tI_off (fun z => by have := z.1; omega)]
        exact this) tI_at rfl rfl).2.1
      have e115 : (F_X11_e (F_X11_next Tr) hv 1).1 115 hv.toNatClampNeg = Tr.1 115 h := by
        rw [tnN hh, fr_i fe (wRe_off (by omega) (by omega)), fr_i n3 (w5_off (by decide))]
      have ix : (8 * hv + Tr.1 115 h).toInt = (8 * h + m0 : Nat) := tixM hh h40 (by rw [← hG.2.2.1.1.1]; exact hm0) m8
      have i320 : vp_in (8 * hv + Tr.1 115 h) 320 := by rw [vp_in_iff, ix]; omega
      rw [if_pos e4, vl_X11_readItem_s3, if_pos e4, e115, tnN ix, tnN hh]
      rw [okl_X11_readItem_s3 _ _ _ _ _ _ 1, e115, tnN ix, tnN hh] at eO2
      rw [k4, i2]
      dsimp only
      refine ⟨i1, ⟨fun _ => ⟨n4, fun z => absurd z (by decide), fun z => absurd z (by decide), fun z => absurd z (by decide), fun _ _ _ => ⟨fun z => (by cases z), fun p9 hp9 => ?_⟩⟩, fun z => absurd cs z⟩, eO2 ⟨fun _ => ⟨n5, fun _ => ⟨fun _ => ⟨fun _ => ⟨fun z => absurd e4 z, fun _ => ⟨i6, fun z => absurd e4 z, fun _ => ⟨i40, i320, i40, i320, i40, i40, i7⟩⟩⟩, fun z => absurd z e3⟩, fun z => absurd z e2⟩, fun z => absurd z e1⟩, fun z => absurd z g1'⟩⟩
      cases hp9
      refine ⟨hts', ?_, fun z => absurd rfl z, fun _ => ⟨i3, fun z => (by rw [i2] at z; cases z), fun p16 h16 => ?_⟩⟩
      · refine ⟨fun _ => ⟨fun _ => ⟨fun _ => trivial, fun _ => ?_⟩, fun z => absurd z (by decide)⟩, fun z => absurd z (by decide)⟩
        rw [fr_i n2 (w4_z (by omega)), vp_in_iff]
        omega
      · rw [i2] at h16
        cases h16
        exact ⟨hts', i4, i5, trivial⟩
    have e4 : ¬ w = 1836413812 := fun z => k4 (w4'.mp z)
    rw [if_neg k4] at cs' ⊢
    rw [if_neg e4, vl_X11_readItem_s3, if_neg e4, tnN hh]
    rw [okl_X11_readItem_s3 _ _ _ _ _ _ 0, tnN hh] at eO2
    by_cases k5 : Tc.1 4 2 = 205
    · have e5 := w5'.mpr k5
      obtain ⟨i1, i2, i3, i4, i5, i6, i7⟩ := I_rule (k5 := 205) (i5 := 5) (w5' := 119) (Or.inl ⟨rfl, rfl, rfl⟩) g hb hh h40 hB hG k5
      have eA : F_X3_addRule (F_X9_next Tc) q 205 ((F_X9_next Tc).1 p 3) = tI (F_X9_next Tc) q 5 ((F_X9_next Tc).1 p 3) := by
        unfold F_X3_addRule
        rw [if_pos rfl]
      rw [if_pos e5, k5, eA, i2]
      dsimp only
      refine ⟨i1, ⟨fun _ => ⟨n4, fun z => absurd z (by decide), fun z => absurd z (by decide), fun z => absurd z (by decide), fun _ _ _ => ⟨fun z => (by cases z), fun p9 hp9 => ?_⟩⟩, fun z => absurd cs z⟩, eO2 ⟨fun _ => ⟨n5, fun _ => ⟨fun _ => ⟨fun _ => ⟨fun _ => ⟨i6, fun _ => ⟨fun z => absurd e5 z, fun _ => ⟨i40, i40, i7⟩⟩, fun z => absurd z e4⟩, fun z => absurd z e4⟩, fun z => absurd z e3⟩, fun z => absurd z e2⟩, fun z => absurd z e1⟩, fun z => absurd z g1'⟩⟩
      cases hp9
      rw [eA]
      refine ⟨hts', ⟨fun z => absurd rfl z, fun _ => trivial⟩, fun _ => ⟨i3, fun z => (by rw [i2] at z; cases z), fun p16 h16 => ?_⟩, fun z => absurd z (by decide)⟩
      rw [i2] at h16
      cases h16
      exact ⟨hts', i4, i5, trivial⟩
    have e5 : ¬ w = 1885434739 := fun z => k5 (w5'.mp z)
    rw [if_neg k5] at cs'
    have k6 : Tc.1 4 2 = 206 := Classical.byContradiction fun z => by rw [if_neg z] at cs'; cases cs'
    obtain ⟨i1, i2, i3, i4, i5, i6, i7⟩ := I_rule (k5 := 206) (i5 := 6) (w5' := 121) (Or.inr ⟨rfl, rfl, rfl⟩) g hb hh h40 hB hG k6
    have eA : F_X3_addRule (F_X9_next Tc) q 206 ((F_X9_next Tc).1 p 3) = tI (F_X9_next Tc) q 6 ((F_X9_next Tc).1 p 3) := by
      unfold F_X3_addRule
      rw [if_neg (by decide), if_pos rfl]
    rw [if_neg e5, k6, eA, i2]
    dsimp only
    refine ⟨i1, ⟨fun _ => ⟨n4, fun z => absurd z (by decide), fun z => absurd z (by decide), fun z => absurd z (by decide), fun _ _ _ => ⟨fun z => (by cases z), fun p9 hp9 => ?_⟩⟩, fun z => absurd cs z⟩, eO2 ⟨fun _ => ⟨n5, fun _ => ⟨fun _ => ⟨fun _ => ⟨fun _ => ⟨i6, fun _ => ⟨fun _ => ⟨i40, i40, i7⟩, fun z => absurd z e5⟩, fun z => absurd z e4⟩, fun z => absurd z e4⟩, fun z => absurd z e3⟩, fun z => absurd z e2⟩, fun z => absurd z e1⟩, fun z => absurd z g1'⟩⟩
    cases hp9
    rw [eA]
    refine ⟨hts', ⟨fun _ => ⟨fun z => absurd rfl z, fun _ => trivial⟩, fun _ => trivial⟩, fun _ => ⟨i3, fun z => (by rw [i2] at z; cases z), fun p16 h16 => ?_⟩, fun z => absurd z (by decide)⟩
    rw [i2] at h16
    cases h16
    exact ⟨hts', i4, i5, trivial⟩
  · have FR := FL_refuse hB.2.2.2.1 hB.2.2.2.2.1.1 hr
    have g0 := good0 (wrong_ne hr)
    have sr := SF_refuse hcs
    rw [vl_X11_readItem_s1, if_neg cs, vl_X11_readItem_s2, if_pos g0] at eR
    rw [eR]
    unfold F_X6_readItem
    rw [if_neg cs]
    refine ⟨Or.inr ⟨FR, sr.1, fQ1 sr.2.1, fG1 fr_wrong⟩, ⟨fun z => absurd z cs, fun _ => trivial⟩, eO ((rs (F + 7)).2 ?_)⟩
    rw [okl_X11_readItem_s1, okl_X11_readItem_s2]
    exact ⟨fun z => absurd z cs, fun _ => ⟨fun z => absurd g0 z, fun _ => trivial⟩⟩
