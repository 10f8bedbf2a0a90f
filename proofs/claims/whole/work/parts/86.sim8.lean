/-! e: two parts and a sign between; loops of them -/
def bK (k : Int32) : Prop := k = 207 ∨ k = 208 ∨ k = 43 ∨ k = 45 ∨ k = 60 ∨ k = 61 ∨ k = 62
theorem bK_f {k : Int32} (h : bK k) : (0 ≤ k.toInt ∧ k.toInt < 1024) ∧ lfK k = false ∧ k ≠ 209 ∧ k ≠ 0 ∧ 0 < (rk k).toInt ∧ (rk k).toInt ≤ 5 ∧ (rk k ≠ 3) ∧ ((k = 207 ∧ rk k = 1 ∧ rc k = 124) ∨ (k = 208 ∧ rk k = 2 ∧ rc k = 38) ∨ (rc k = k ∧ rk k ≠ 1 ∧ rk k ≠ 2 ∧ isS k)) := by
  rcases h with h | h | h | h | h | h | h <;> subst h <;> refine ⟨by decide, by decide, by decide, by decide, by decide, by decide, by decide, ?_⟩
  · exact Or.inl ⟨rfl, rfl, rfl⟩
  · exact Or.inr (Or.inl ⟨rfl, rfl, rfl⟩)
  · exact Or.inr (Or.inr ⟨rfl, by decide, by decide, by unfold isS; decide⟩)
  · exact Or.inr (Or.inr ⟨rfl, by decide, by decide, by unfold isS; decide⟩)
  · exact Or.inr (Or.inr ⟨rfl, by decide, by decide, by unfold isS; decide⟩)
  · exact Or.inr (Or.inr ⟨rfl, by decide, by decide, by unfold isS; decide⟩)
  · exact Or.inr (Or.inr ⟨rfl, by decide, by decide, by unfold isS; decide⟩)
/-- the first part is read -/
def OKS (sz N p q b h : Nat) (hv mv : Int32) (m : Bool) (ls ps : Int32) (s f k dp ht : Nat) (Tc Tr Tc' R : tT) (OK : Prop) : Prop := ∃ (Tr' : tT) (l' : List (Int32 × Int32)) (n' m' : Nat), ER sz N p q b h mv m ls ps s f k dp (ht + 1) l' Tc' Tr' ∧ phi p Tc + 2 ≤ phi p Tc' ∧ pos Tc + 1 ≤ pos Tc' ∧ fr (wRe b) Tr Tr' ∧ kpC p Tc Tc' ∧ kpR b Tr Tr' ∧ (∀ i, i < k → Tr'.1 129 i = Tr.1 129 i ∧ Tr'.1 130 i = Tr.1 130 i) ∧ 2 * (N : Int) + 20 ≤ n' + 2 * pos Tc' ∧ 3 * k + 10 ≤ m' ∧ R = KB n' m' Tr' hv mv (rk (Tc'.1 4 2)) ∧ (okKB n' m' sz Tr' hv mv (rk (Tc'.1 4 2)) → OK)
section
variable {sz N p q b h : Nat} {hv mv : Int32} {m : Bool} {ls ps : Int32} {s f k dp ht : Nat} {l l' : List (Int32 × Int32)} {Tc Tr Tc' Tr' R : tT} {OK : Prop}
theorem OUT_iff {P : Int32 → Prop} {pend : Prop} : OUT sz N p q b h hv mv m ls ps s f k dp ht P pend Tc Tr Tc' R OK ↔ (OKS sz N p q b h hv mv m ls ps s f k dp ht Tc Tr Tc' R OK ∧ P (Tc'.1 4 2)) ∨ (FL Tc' R ∧ OK ∧ fr (wRe b) Tr R) ∨ (pend ∧ Tc'.1 3 1 = 0 ∧ (Tc'.1 4 2 = 60 ∨ Tc'.1 4 2 = 61 ∨ Tc'.1 4 2 = 62) ∧ R.1 105 4 = 2 ∧ R.1 105 5 = Tc'.1 4 3 ∧ OK ∧ fr (wRe b) Tr R) := by
  unfold OUT OKS
  constructor
  · rintro (⟨a, b', c, d, e1, e2, e3⟩ | h | h)
    · exact Or.inl ⟨⟨a, b', c, d, e1, e3⟩, e2⟩
    · exact Or.inr (Or.inl h)
    · exact Or.inr (Or.inr h)
  · rintro (⟨⟨a, b', c, d, e1, e3⟩, e2⟩ | h | h)
    · exact Or.inl ⟨a, b', c, d, e1, e2, e3⟩
    · exact Or.inr (Or.inl h)
    · exact Or.inr (Or.inr h)
/-- an entry goes and both tell its step -/
theorem S_pop (g : gq p q) (hb : b < 5) {kk : Int32} {n' m' : Nat} {ht' : Nat} (he : ER sz N p q b h mv m ls ps s f (k + 1 + 1) dp ht' l Tc Tr) {t : Int32} (h129 : Tr.1 129 (k + 1) = t) (h130 : Tr.1 130 (k + 1) = rc kk) {dp' : Nat} (ht5 : t.toInt ≤ 5) (hrt : (rk (Tc.1 4 2)).toInt ≤ t.toInt) (nr : ¬ (rk (Tc.1 4 2) = 4 ∧ t = 4)) (hd : (t = 3 ∧ dp = dp' + 1) ∨ (t ≠ 3 ∧ dp = dp')) (d9 : dp ≤ 9) (k80 : k + 2 ≤ 80) {ht2 : Nat} (h3 : 3 ≤ phi p Tc) (hk : 0 ≤ kk.toInt ∧ kk.toInt < 1024) (hi : vI m ls ps kk 0) (hh : hts ht' [(kk, 0)] = some ht2) (nl : lfK kk = false) (m3 : 3 * (k + 2) + 10 ≤ m') : ∃ Tr2 l2 m2, ER sz N p q b h mv m ls ps s f (k + 1) dp' ht2 l2 (F_X8_addCell Tc p kk 0) Tr2 ∧ fr (wRe b) Tr Tr2 ∧ kpC p Tc (F_X8_addCell Tc p kk 0) ∧ kpR b Tr Tr2 ∧ phi p (F_X8_addCell Tc p kk 0) = phi p Tc - 3 ∧ (∀ i, (F_X8_addCell Tc p kk 0).1 4 i = Tc.1 4 i) ∧ (∀ i, Tr2.1 129 i = Tr.1 129 i ∧ Tr2.1 130 i = Tr.1 130 i) ∧ 3 * (k + 1) + 10 ≤ m2 ∧ KB n' m' Tr hv mv (rk (Tc.1 4 2)) = KB n' m2 Tr2 hv mv (rk (Tc.1 4 2)) ∧ (okKB n' m2 sz Tr2 hv mv (rk (Tc.1 4 2)) → okKB n' m' sz Tr hv mv (rk (Tc.1 4 2))) := by
  obtain ⟨hp, hdp⟩ := he.2.2.2.2.2.2.2.1
  obtain ⟨m', rfl⟩ : ∃ x, m' = x + 3 := ⟨m' - 3, by omega⟩
  obtain ⟨k1, k2⟩ := km1 hp (by omega)
  have z1 : (1 : Int32).toInt = 1 := rfl
  generalize hTp : (if t = 3 then tI (tI Tr 105 37 (Tr.1 105 37 - 1)) 105 38 (Tr.1 105 38 - 1) else tI Tr 105 37 (Tr.1 105 37 - 1)) = Tp
  have f1 : fr (wl [129, 130] [(105, 37), (105, 38)]) Tr Tp := by
    rw [← hTp]
    split
    · exact fr_I rfl (fr_I rfl fr_refl)
    · exact fr_I rfl fr_refl
  have e1 : ER sz N p q b h mv m ls ps s f (k + 1) dp' ht' l Tc Tp := by
    refine ER_pl he g f1 ?_ ?_
    · rw [← hTp]
      split
      · rw [tI_off (fun z => by have := z.2; omega), tI_at]; exact k1
      · rw [tI_at]; exact k1
    · rw [← hTp]
      rcases hd with ⟨d1, d2⟩ | ⟨d1, d2⟩
      · rw [if_pos d1, tI_at, tsub (by omega) (by omega)]
        omega
      · rw [if_neg d1, tI_off (fun z => by have := z.2; omega), hdp]
        omega
  obtain ⟨x1, x2, x3, x4, x5, x6, x7, x8, x9⟩ := ER_emit g hb e1 (rv := 0) h3 hk (by decide) hi hh (fun w => absurd (nl.symm.trans w) (by decide)) (by
    rw [if_neg (by rw [nl]; decide)]
    have := he.2.2.2.2.2.1.2.2.2.2.2.2
    omega)
  have f1' : fr (wRe b) Tr Tp := by
    rw [← hTp]
    split
    · exact fr_I (by unfold wRe; rfl) (fr_I (by unfold wRe; rfl) fr_refl)
    · exact fr_I (by unfold wRe; rfl) fr_refl
  have o9 : ∀ a i, a ≠ 105 → Tp.1 a i = Tr.1 a i := fun a i ha => by
    rw [← hTp]
    split
    · rw [tI_off (fun z => ha z.1), tI_off (fun z => ha z.1)]
    · exact tI_off (fun z => ha z.1)
  have o14 : Tp.1 105 14 = Tr.1 105 14 := by
    rw [← hTp]
    split
    · rw [tI_off (fun z => by have := z.2; omega), tI_off (fun z => by have := z.2; omega)]
    · exact tI_off (fun z => by have := z.2; omega)
  obtain ⟨y1, y2⟩ := KB_pop (sz := sz) (n := n') (m' := m') (hv := hv) (mv := mv) (r := rk (Tc.1 4 2)) hp (by omega) h129 ht5 hrt nr hTp.symm (by rw [h130]; exact x4)
  rw [h130] at y1 y2
  refine ⟨_, _, m', x1, fr_trans f1' x3, x5, ?_, x7, x8, fun i => ⟨by rw [(x9 i).1]; exact o9 129 i (by decide), by rw [(x9 i).2]; exact o9 130 i (by decide)⟩, by omega, y1, y2⟩
  exact kpR_trans (kpR_eq o14 (fun i => o9 123 i (by decide)) (fun i => o9 124 i (by decide))) x6
/-- a sign and the part behind it -/
theorem S_bin (g : gq p q) (hb : b < 5) {Tc0 Tr0 Tc1 : tT} (h1 : OKS sz N p q b h hv mv m ls ps s f (k + 1) dp ht Tc0 Tr0 Tc1 R OK) (hph : 0 ≤ phi p Tc0) (hkd : bK (Tc1.1 4 2)) (d9 : dp ≤ 9) {bd : Nat} (kb : k + 2 ≤ bd) (k79 : k + 2 ≤ 79) {G : tT → tT} {st : Int32} (hst : st = if 3 ≤ rk (Tc1.1 4 2) then 1 else 0) {C : Int → Prop} (hC : C (rk (Tc1.1 4 2)).toInt) {Pg : Int32 → Prop} {pg : Prop} {gd : Int32 → Prop} (hgd : ∀ kd, gd kd) (hG : SIM sz N p q b h hv mv m ls ps s f dp G st bd C Pg pg gd) (sG : ∀ T, CS sz N p T → SF sz N p T (G T)) (top : 5 < (Tr0.1 129 k).toInt ∨ (Tr0.1 129 k).toInt < (rk (Tc1.1 4 2)).toInt) (hP : ∀ kd, Pg kd → (rk kd).toInt ≤ (rk (Tc1.1 4 2)).toInt) : OUT sz N p q b h hv mv m ls ps s f (k + 1) dp ht (fun kd => Pg kd ∧ ¬ (rk (Tc1.1 4 2) = 4 ∧ rk kd = 4)) (pg ∨ rk (Tc1.1 4 2) = 4) Tc0 Tr0 (F_X8_addCell (G (F_X9_next Tc1)) p (Tc1.1 4 2) 0) R OK ∧ (pos Tc1 + 1 ≤ pos (F_X8_addCell (G (F_X9_next Tc1)) p (Tc1.1 4 2) 0) ∨ (F_X8_addCell (G (F_X9_next Tc1)) p (Tc1.1 4 2) 0).1 3 1 ≠ 0 ∨ ((pg ∨ rk (Tc1.1 4 2) = 4) ∧ ((F_X8_addCell (G (F_X9_next Tc1)) p (Tc1.1 4 2) 0).1 4 2 = 60 ∨ (F_X8_addCell (G (F_X9_next Tc1)) p (Tc1.1 4 2) 0).1 4 2 = 61 ∨ (F_X8_addCell (G (F_X9_next Tc1)) p (Tc1.1 4 2) 0).1 4 2 = 62))) := by
  obtain ⟨Tr1, l1, n1, m1, e1, a1, a2, a3, a4, a5, a6, a7, a8, a9, a10⟩ := h1
  obtain ⟨b1, b2, b3, b4, b5, b6, b7, b8⟩ := bK_f hkd
  have hp1 := e1.2.2.2.2.2.2.2.1.1
  generalize hsg : (if rk (Tc1.1 4 2) = 1 then (124 : Int32) else if rk (Tc1.1 4 2) = 2 then 38 else v_X11_sign Tr1 (Tr1.1 105 6)) = sg
  have hrc : sg = rc (Tc1.1 4 2) := by
    rw [← hsg]
    rcases b8 with ⟨_, r1, r2⟩ | ⟨_, r1, r2⟩ | ⟨r0, r1, r2, r3⟩
    · rw [if_pos r1, r2]
    · rw [if_neg (by rw [r1]; decide), if_pos r1, r2]
    · rw [if_neg r1, if_neg r2, r0]
      obtain ⟨pl, e, _, _, _, _, _, _, _, _, _, kr⟩ := e1.2.2.1
      have cl := isS_lt r3
      rcases kr with ⟨k1, _⟩ | ⟨k1, _⟩ | ⟨k1, _⟩ | ⟨k1, _⟩ | ⟨j, j1, k1, _⟩ | ⟨_, _, k3⟩
      · rw [k1] at cl; exact absurd cl.2 (by decide)
      · rw [k1] at cl; exact absurd cl.2 (by decide)
      · rw [k1] at cl; exact absurd cl.2 (by decide)
      · rw [k1] at cl; exact absurd cl.2 (by decide)
      · rw [k1, nI_toInt (by omega)] at cl; omega
      · exact k3
  obtain ⟨m1, rfl⟩ : ∃ x, m1 = x + 3 := ⟨m1 - 3, by omega⟩
  obtain ⟨p1, p2, p3, p4, p5, p6⟩ := ER_pile e1 g (by omega) (rk (Tc1.1 4 2)) sg
  obtain ⟨x1, x2, x3, x4, x5, x6, x7, x8⟩ := ER_next g p1
  have px := x6 b4
  obtain ⟨y1, y2⟩ := KB_push (sz := sz) (n := n1) (m' := m1) (hv := hv) (mv := mv) (k := k) (t := Tr1.1 129 k) hp1 (by omega) rfl (by rw [(a6 k (by omega)).1]; exact top) b5 hsg.symm (sgn (sz := sz) e1.1.1.2.1 (k := (Tc1.1 4 3).toInt.toNat) (by
    obtain ⟨pl, e, t1, _, t3, _⟩ := e1.2.2.1
    rw [t3]
    omega)).2 x4
  rw [y1, ← hst] at a9
  rw [← hst] at y2
  have wpl : fr (wRe b) Tr1 (F_X11_pile Tr1 (rk (Tc1.1 4 2)) sg) := fun a i w => p3 a i (by
    cases z : wl [129, 130] [(105, 37), (105, 38)] a i with
    | false => rfl
    | true =>
      exfalso
      simp only [wl, List.contains_iff_mem, List.mem_cons, List.not_mem_nil, Bool.or_eq_true, Prod.mk.injEq, or_false, false_or] at z
      have : wRe b a i = true := by
        unfold wRe
        rcases z with (rfl | rfl) | ⟨rfl, rfl⟩ | ⟨rfl, rfl⟩ <;> simp
      rw [this] at w
      cases w)
  have r129 : ∀ i, (F_X11_next (F_X11_pile Tr1 (rk (Tc1.1 4 2)) sg)).1 129 i = (F_X11_pile Tr1 (rk (Tc1.1 4 2)) sg).1 129 i ∧ (F_X11_next (F_X11_pile Tr1 (rk (Tc1.1 4 2)) sg)).1 130 i = (F_X11_pile Tr1 (rk (Tc1.1 4 2)) sg).1 130 i := fun i => ⟨fr_i x3 (k := 129) (i := i) rfl, fr_i x3 (k := 130) (i := i) rfl⟩
  have fr1 : fr (wRe b) Tr0 (F_X11_next (F_X11_pile Tr1 (rk (Tc1.1 4 2)) sg)) := fr_trans a3 (fr_trans wpl (w5_wRe x3))
  have out := hG (F_X9_next Tc1) (F_X11_next (F_X11_pile Tr1 (rk (Tc1.1 4 2)) sg)) (k + 1) (ht + 1) l1 n1 R OK x1 (by rw [(r129 (k + 1)).1, p4]; exact hC) (by omega) (hgd _) (by omega) a9 (fun o => a10 (y2 o))
  have sg1 := sG (F_X9_next Tc1) x1.2.1
  have scell := SF_cell sg1.1 (Tc1.1 4 2) 0
  have gp := g.1
  rcases OUT_iff.mp out with ⟨⟨Tr3, l3, n3, m3, e3, c1, c2, c3, c4, c5, c6, c7, c8, c9, c10⟩, c11⟩ | ⟨c1, c2, c3⟩ | ⟨c0, c1, c2, c3, c4, c5, c6⟩
  · have h129 : Tr3.1 129 (k + 1) = rk (Tc1.1 4 2) := by rw [(c6 (k + 1) (by omega)).1, (r129 (k + 1)).1]; exact p4
    have h130 : Tr3.1 130 (k + 1) = rc (Tc1.1 4 2) := by rw [(c6 (k + 1) (by omega)).2, (r129 (k + 1)).2, p5]; exact hrc
    have c8' : 3 * (k + 2) + 10 ≤ m3 := c8
    by_cases q4 : rk (Tc1.1 4 2) = 4 ∧ rk ((G (F_X9_next Tc1)).1 4 2) = 4
    · -- a relation behind a relation
      have hp3 := e3.2.2.2.2.2.2.2.1.1
      have pN := pos_le e3
      obtain ⟨n3, rfl⟩ : ∃ x, n3 = x + 1 := ⟨n3 - 1, by omega⟩
      obtain ⟨m3, rfl⟩ : ∃ x, m3 = x + 1 := ⟨m3 - 1, by omega⟩
      obtain ⟨z1, z2⟩ := KB_rel (sz := sz) (n := n3) (m' := m3) (hv := hv) (mv := mv) hp3 (by omega) (by rw [h129]; exact q4.1) e3.2.2.2.1.2
      rw [q4.2] at c9 c10
      rw [z1] at c9
      have kd : ∀ i, (F_X8_addCell (G (F_X9_next Tc1)) p (Tc1.1 4 2) 0).1 4 i = (G (F_X9_next Tc1)).1 4 i := fun i => by
        unfold F_X8_addCell
        split
        · rfl
        · rw [tI_off (fun z => by have := z.1; omega), tI_off (fun z => by have := z.1; omega)]
      have kf : (F_X8_addCell (G (F_X9_next Tc1)) p (Tc1.1 4 2) 0).1 3 1 = (G (F_X9_next Tc1)).1 3 1 := by
        unfold F_X8_addCell
        split
        · rfl
        · rw [tI_off (fun z => by have := z.1; omega), tI_off (fun z => by have := z.1; omega)]
      have rel : ∀ x : Int32, rk x = 4 → x = 60 ∨ x = 61 ∨ x = 62 := fun x hx => by
        unfold rk at hx
        by_cases q1 : x = 43
        · rw [if_pos q1] at hx; exact absurd hx (by decide)
        rw [if_neg q1] at hx
        by_cases q2 : x = 45
        · rw [if_pos q2] at hx; exact absurd hx (by decide)
        rw [if_neg q2] at hx
        by_cases q3 : x = 60
        · exact Or.inl q3
        rw [if_neg q3] at hx
        by_cases q5 : x = 62
        · exact Or.inr (Or.inr q5)
        rw [if_neg q5] at hx
        by_cases q6 : x = 61
        · exact Or.inr (Or.inl q6)
        rw [if_neg q6] at hx
        by_cases q7 : x = 208
        · rw [if_pos q7] at hx; exact absurd hx (by decide)
        rw [if_neg q7] at hx
        by_cases q8 : x = 207
        · rw [if_pos q8] at hx; exact absurd hx (by decide)
        rw [if_neg q8] at hx
        exact absurd hx (by decide)
      have rl := rel _ q4.2
      have nb : ¬ Tr3.1 105 8 = 1 := fun z => by
        have := (tk_bad e3.2.2.1).mpr z
        rcases rl with w | w | w <;> rw [w] at this <;> exact absurd this (by decide)
      obtain ⟨pl, e, _, _, t3, _⟩ := e3.2.2.1
      refine ⟨OUT_iff.mpr (Or.inr (Or.inr ⟨Or.inr q4.1, by rw [kf]; exact e3.2.2.2.1.1, by rw [kd]; exact rl, ?_, ?_, c10 z2, ?_⟩)), Or.inr (Or.inr ⟨Or.inr q4.1, by rw [kd]; exact rl⟩)⟩
      · rw [c9]
        unfold F_X11_wrong
        rw [if_neg nb, fails_eq e3.2.2.2.1.2, tI_off (fun z => by have := z.2; omega), tI_at]
      · rw [c9, kd]
        unfold F_X11_wrong
        rw [if_neg nb, fails_eq e3.2.2.2.1.2, tI_at]
        exact t3
      · rw [c9]
        exact fr_trans fr1 (fr_trans c3 fr_wrong)
    · obtain ⟨Tr4, l4, m4, d1, d2, d3, d4, d5, d6, d7, d8, d9', d10⟩ := S_pop (n' := n3) (m' := m3) (hv := hv) g hb (kk := Tc1.1 4 2) e3 h129 h130 (dp' := dp) b6 (hP _ c11) (fun w => q4 ⟨w.2, w.1⟩) (Or.inr ⟨b7, rfl⟩) d9 (by omega) (ht2 := ht + 1) (by omega) b1 (Or.inr (Or.inr (Or.inr (Or.inr hkd)))) (by
        unfold hts
        rw [if_neg (by rw [b2]; decide), if_neg b3, if_pos (by omega)]
        unfold hts
        congr 1) b2 c8'
      refine ⟨OUT_iff.mpr (Or.inl ⟨⟨Tr4, l4, n3, m4, d1, by omega, ?_, fr_trans fr1 (fr_trans c3 d2), ?_, ?_, ?_, ?_, d8, by rw [c9, d9', d6], fun o => c10 (d10 (by rw [d6] at o; exact o))⟩, by rw [d6]; exact ⟨c11, q4⟩⟩), Or.inl (by unfold pos at *; rw [d6]; omega)⟩
      · unfold pos at *
        rw [d6]
        omega
      · exact kpC_trans a4 (kpC_trans (kpC_w4 g.1 x2) (kpC_trans c4 d3))
      · exact kpR_trans a5 (kpR_trans (kpR_pl p3) (kpR_trans (kpR_w5 x3) (kpR_trans c5 d4)))
      · intro i hi
        rw [(d7 i).1, (d7 i).2, (c6 i (by omega)).1, (c6 i (by omega)).2, (r129 i).1, (r129 i).2, (p6 i hi).1, (p6 i hi).2]
        exact a6 i hi
      · unfold pos at *
        rw [d6]
        omega
  · exact ⟨OUT_iff.mpr (Or.inr (Or.inl ⟨FL_SF c1 scell.1, c2, fr_trans fr1 c3⟩)), Or.inr (Or.inl (FL_SF c1 scell.1).1)⟩
  · have kd : ∀ i, (F_X8_addCell (G (F_X9_next Tc1)) p (Tc1.1 4 2) 0).1 4 i = (G (F_X9_next Tc1)).1 4 i := fun i => by
      unfold F_X8_addCell
      split
      · rfl
      · rw [tI_off (fun z => by have := z.1; omega), tI_off (fun z => by have := z.1; omega)]
    have kf : (F_X8_addCell (G (F_X9_next Tc1)) p (Tc1.1 4 2) 0).1 3 1 = (G (F_X9_next Tc1)).1 3 1 := by
      unfold F_X8_addCell
      split
      · rfl
      · rw [tI_off (fun z => by have := z.1; omega), tI_off (fun z => by have := z.1; omega)]
    exact ⟨OUT_iff.mpr (Or.inr (Or.inr ⟨Or.inl c0, by rw [kf]; exact c1, by rw [kd]; exact c2, c3, by rw [kd]; exact c4, c5, fr_trans fr1 c6⟩)), Or.inr (Or.inr ⟨Or.inl c0, by rw [kd]; exact c2⟩)⟩
end
