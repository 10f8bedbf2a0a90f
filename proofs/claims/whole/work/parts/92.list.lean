/-! items: lists and parts -/
theorem CS_up {sz N p q : Nat} {T T' : tT} (g : gq p q) (f : fr (wq q) T T') (h : CS sz N p T) : CS sz N p T' := by
  obtain ⟨⟨c1, c2, c3⟩, ⟨a, d1, d2⟩, c4, ⟨u, d3, d4⟩, ⟨l, d5, d6⟩, c5, c6⟩ := h
  obtain ⟨g1, g2⟩ := g
  have k4 : ∀ i, T'.1 4 i = T.1 4 i := fun i => fr_i f (wq_off (by omega) (by omega))
  have k3 : ∀ i, i ≠ 4 → T'.1 3 i = T.1 3 i := fun i hi => fr_i f (wq_off (by omega) (by omega))
  have kp : ∀ i, T'.1 p i = T.1 p i := fun i => fr_i f (wq_off (by omega) (by omega))
  have k1 : T'.2.1 1 = T.2.1 1 := fr_rj f (fun i => wq_off (by omega) (by omega))
  exact ⟨⟨by rw [k4]; exact c1, c2, by rw [k1]; exact c3⟩, ⟨a, by rw [k4]; exact d1, d2⟩, (fr_p f (wq_off (by omega) (by omega))).trans c4, ⟨u, by rw [kp]; exact d3, d4⟩, ⟨l, by rw [k3 5 (by decide)]; exact d5, d6⟩, c5, c6⟩
theorem FL_up {p q : Nat} {T T' R : tT} (g : gq p q) (f : fr (wq q) T T') (h : FL T R) : FL T' R := by
  obtain ⟨g1, g2⟩ := g
  have k3 : ∀ i, i ≠ 4 → T'.1 3 i = T.1 3 i := fun i hi => fr_i f (wq_off (by omega) (by omega))
  unfold FL at *
  rw [k3 1 (by decide), k3 2 (by decide)]
  exact h
theorem FL_R {h : Nat} {T R R' : tT} (f : fr (wg h) R R') (hf : FL T R) : FL T R' := by
  unfold FL at *
  rw [fr_i f (k := 105) (i := 4) (wg_off (by omega)), fr_i f (k := 105) (i := 5) (wg_off (by omega))]
  exact hf
/-- still in step -/
def ST (sz N p q b h : Nat) (Tc Tr Tc' Tr' : tT) : Prop := BR sz N p b Tc' Tr' ∧ GB2 Tc' Tr' p b q h ∧ kpC p Tc Tc' ∧ kpR b Tr Tr' ∧ pos Tc ≤ pos Tc' ∧ fr (wQ p q) Tc Tc' ∧ fr (wG b h) Tr Tr'
/-- both at the same fault -/
def IF (sz N p q b h : Nat) (Tc Tr Tc' Tr' : tT) : Prop := FL Tc' Tr' ∧ CS sz N p Tc' ∧ fr (wQ p q) Tc Tc' ∧ fr (wG b h) Tr Tr'
def IT (sz N p q b h : Nat) (Tc Tr Tc' Tr' : tT) : Prop := (ST sz N p q b h Tc Tr Tc' Tr' ∧ pos Tc + 1 ≤ pos Tc') ∨ IF sz N p q b h Tc Tr Tc' Tr'
theorem ST_trans {sz N p q b h : Nat} {T R T1 R1 T2 R2 : tT} (a : ST sz N p q b h T R T1 R1) (c : ST sz N p q b h T1 R1 T2 R2) : ST sz N p q b h T R T2 R2 := by
  obtain ⟨_, _, a3, a4, a5, a6, a7⟩ := a
  obtain ⟨c1, c2, c3, c4, c5, c6, c7⟩ := c
  exact ⟨c1, c2, kpC_trans a3 c3, kpR_trans a4 c4, Int.le_trans a5 c5, fr_trans a6 c6, fr_trans a7 c7⟩
theorem ST_IF {sz N p q b h : Nat} {T R T1 R1 T2 R2 : tT} (a : ST sz N p q b h T R T1 R1) (c : IF sz N p q b h T1 R1 T2 R2) : IF sz N p q b h T R T2 R2 := by
  obtain ⟨_, _, a3, a4, a5, a6, a7⟩ := a
  obtain ⟨c1, c2, c6, c7⟩ := c
  exact ⟨c1, c2, fr_trans a6 c6, fr_trans a7 c7⟩
theorem ST_IT {sz N p q b h : Nat} {T R T1 R1 T2 R2 : tT} (a : ST sz N p q b h T R T1 R1) (c : IT sz N p q b h T1 R1 T2 R2) : IT sz N p q b h T R T2 R2 := by
  rcases c with ⟨c, c'⟩ | c
  · have := a.2.2.2.2.1
    exact Or.inl ⟨ST_trans a c, by omega⟩
  · exact Or.inr (ST_IF a c)
theorem eqC_w {q : Nat} {W : Nat → Nat → Bool} {T T' : tT} (f : fr W T T') (hw : ∀ k i, q ≤ k → k < q + 7 → W k i = false) : eqC q T T' := fun o ho => ⟨fr_ri f (fun i => hw _ _ (by omega) (by omega)), fr_rj f (fun i => hw _ _ (by omega) (by omega))⟩
theorem eqR_w {h : Nat} {W : Nat → Nat → Bool} {T T' : tT} (f : fr W T T') (hw : ∀ k i, 111 ≤ k → k ≤ 128 → k ≠ 123 → k ≠ 124 → W k i = false) : eqR h T T' := by
  have r : ∀ k i, 111 ≤ k → k ≤ 128 → k ≠ 123 → k ≠ 124 → T'.1 k i = T.1 k i := fun k i a c d e => fr_i f (hw k i a c d e)
  have j : ∀ k i, 111 ≤ k → k ≤ 128 → k ≠ 123 → k ≠ 124 → T'.2.1 k i = T.2.1 k i := fun k i a c d e => fr_j f (hw k i a c d e)
  refine ⟨⟨?_, ?_, ?_, ?_, ?_, ?_, ?_, ?_⟩, fun l _ => ⟨?_, ?_, ?_, ?_⟩, fun l k _ _ => ?_, fun m _ => ⟨?_, ?_⟩⟩ <;> first | exact r _ _ (by decide) (by decide) (by decide) (by decide) | exact j _ _ (by decide) (by decide) (by decide) (by decide)
theorem w5_off {k i : Nat} (h : 106 ≤ k) : w5 k i = false := by
  cases z : w5 k i with
  | false => rfl
  | true =>
    exfalso
    simp only [w5, wl, List.contains_iff_mem, List.mem_cons, List.not_mem_nil, Bool.or_eq_true, Prod.mk.injEq, or_false, false_or] at z
    omega
theorem ST_next {sz N p q b h : Nat} {Tc Tr : tT} (g : gq p q) (hB : BR sz N p b Tc Tr) (hG : GB2 Tc Tr p b q h) : ST sz N p q b h Tc Tr (F_X9_next Tc) (F_X11_next Tr) := by
  obtain ⟨n1, n2, n3, _, _, n6, _⟩ := BR_next hB
  have g' := g
  obtain ⟨g1, g2⟩ := g'
  have kc := kpC_w4 g1 n2
  have kr := kpR_w5 (b := b) n3
  exact ⟨n1, GB2_up kc kr (eqC_w n2 (fun k i h1 _ => w4_z (by omega))) (eqR_w n3 (fun k i h1 _ _ _ => w5_off (by omega))) hG, kc, kr, n6, fQ1 (w4_wE n2), fG1 (w5_wRe n3)⟩
/-- a name stands in the last list: reference -/
theorem e_hasP2 {sz q h : Nat} {Tc Tr : tT} (hG : GL Tc Tr q h) (h40 : h < 40) {w : Int32} {l : Nat} (x : Int64) (hw : w.toInt = (6 * h + l : Nat)) (hl2 : (l : Int) < (Tc.1 q 1).toInt) : v_X11_hasPiece Tr w x = b2i (inL Tc q l x) ∧ ok_X11_hasPiece sz Tr w x := by
  have hs : gSz Tc q := ⟨hG.1.2, fun l hl => ⟨(hG.2 l hl).2.1, (hG.2 l hl).2.2.1⟩⟩
  obtain ⟨n, n1, n2, n3, n4⟩ := gSz_n hs hl2
  obtain ⟨r1, _, _, _, r2⟩ := hG.2 l hl2
  obtain ⟨u1, u2⟩ := l_hasPiece (sz := sz) (T := Tr) x hw (by omega) (N := n) (by rw [← r1]; exact n1) n2 n fu 0 0 rfl (by omega) (by rw [fu_eq]; omega)
  refine ⟨?_, u2⟩
  unfold v_X11_hasPiece inL
  rw [u1, n3, nIn_cg (f := Tr.2.1 127) (f' := Tc.2.1 (q + 3)) (b' := 12 * l)]
  intro i _ hi
  rw [r2 i (by omega)]
theorem e_isL2 {sz q h : Nat} {Tc Tr : tT} (hG : GL Tc Tr q h) {w : Int32} {l : Nat} (x : Int64) (hw : w.toInt = l) (hl2 : (l : Int) < (Tc.1 q 1).toInt) : v_X3_isListed Tc q w x = b2i (inL Tc q l x) ∧ ok_X3_isListed sz Tc q w x := e_isListed ⟨hG.1.2, fun l hl => ⟨(hG.2 l hl).2.1, (hG.2 l hl).2.2.1⟩⟩ x hw hl2
theorem GL_add {q h l s : Nat} {Tc Tr : tT} {w : Int64} {x : Int32} (hG : GL Tc Tr q h) (hl : (Tc.1 q 1).toInt = (l + 1 : Nat)) (hx : Tc.1 (q + 2) l = x) (hs : x.toInt = s) (s12 : s < 12) : GL (tI (tJ Tc (q + 3) (12 * l + s) w) (q + 2) l (x + 1)) (tI (tJ Tr 127 (12 * (6 * h + l) + s) w) 112 (6 * h + l) (x + 1)) q h := by
  obtain ⟨g1, g2⟩ := hG
  have x1 : (x + 1).toInt = (s + 1 : Nat) := by rw [tinc' (by omega)]; omega
  refine ⟨?_, fun l' hl' => ?_⟩
  · rw [tI_off (fun z => by have := z.1; omega), tI_off (fun z => by have := z.1; omega)]
    exact g1
  · rw [tI_off (fun z => by have := z.1; omega)] at hl'
    obtain ⟨y1, y2, y3, y4, y5⟩ := g2 l' hl'
    have j1 : ∀ i, i ≠ 12 * l + s → (tJ Tc (q + 3) (12 * l + s) w).2.1 (q + 3) i = Tc.2.1 (q + 3) i := fun i hi => tJ_off (fun z => hi z.2)
    have j2 : ∀ i, i ≠ 12 * (6 * h + l) + s → (tJ Tr 127 (12 * (6 * h + l) + s) w).2.1 127 i = Tr.2.1 127 i := fun i hi => tJ_off (fun z => hi z.2)
    have j3 : (tI (tJ Tc (q + 3) (12 * l + s) w) (q + 2) l (x + 1)).2.1 (q + 1) l' = (tI (tJ Tr 127 (12 * (6 * h + l) + s) w) 112 (6 * h + l) (x + 1)).2.1 126 (6 * h + l') := by
      show (tJ Tc (q + 3) (12 * l + s) w).2.1 (q + 1) l' = (tJ Tr 127 (12 * (6 * h + l) + s) w).2.1 126 (6 * h + l')
      rw [tJ_off (fun z => by have := z.1; omega), tJ_off (fun z => by have := z.1; omega)]
      exact y4
    by_cases c : l' = l
    · rw [c] at j3 y5 ⊢
      rw [tI_at, tI_at]
      refine ⟨rfl, by rw [tle, x1]; exact Int.natCast_nonneg _, by rw [tle, x1, show (12 : Int32).toInt = 12 from rfl]; omega, j3, fun k hk => ?_⟩
      rw [x1] at hk
      show (tJ Tc (q + 3) (12 * l + s) w).2.1 (q + 3) (12 * l + k) = (tJ Tr 127 (12 * (6 * h + l) + s) w).2.1 127 (12 * (6 * h + l) + k)
      by_cases d : k = s
      · rw [d, tJ_at, tJ_at]
      · rw [j1 _ (by omega), j2 _ (by omega)]
        exact y5 k (by rw [hx]; omega)
    · rw [tI_off (fun z => by have := z.2; omega), tI_off (fun z => by have := z.2; omega)]
      refine ⟨y1, y2, y3, j3, fun k hk => ?_⟩
      have k12 := i12 y3 hk
      show (tJ Tc (q + 3) (12 * l + s) w).2.1 (q + 3) (12 * l' + k) = (tJ Tr 127 (12 * (6 * h + l) + s) w).2.1 127 (12 * (6 * h + l') + k)
      rw [j1 _ (by omega), j2 _ (by omega)]
      exact y5 k hk
/-- the other rows of a grade stay -/
theorem GB2_L {p q b h : Nat} {Tc Tr Tc' Tr' : tT} (g : gq p q) (fc : fr (wq q) Tc Tc') (fr' : fr (wg h) Tr Tr') (hG : GB2 Tc Tr p b q h) (hL : GL Tc' Tr' q h) (e1 : Tc.1 q 1 ≤ Tc'.1 q 1) (e : ∀ i, i ≠ 1 → Tc'.1 q i = Tc.1 q i) (eo : ∀ o i, 4 ≤ o → o ≤ 6 → Tc'.1 (q + o) i = Tc.1 (q + o) i ∧ Tc'.2.1 (q + o) i = Tc.2.1 (q + o) i) (r : ∀ k i, 113 ≤ k → k ≤ 122 → Tr'.1 k i = Tr.1 k i) (r8 : ∀ i, Tr'.2.1 128 i = Tr.2.1 128 i) : GB2 Tc' Tr' p b q h := by
  obtain ⟨g1, g2, g3, g4, g5, g6⟩ := hG
  have kc := kpC_wq g fc
  have kr := kpR_wg (b := b) fr'
  have e2 := tle_e (e 2 (by decide))
  have a : ∀ k i, 113 ≤ k → k ≤ 122 → Tr'.1 k i = Tr.1 k i := r
  refine ⟨hL, GP2_up (e 2 (by decide)) (fun l _ => ⟨(eo 4 l (by decide) (by decide)).2, (eo 5 l (by decide) (by decide)).1⟩) (a _ _ (by decide) (by decide)) (fun l _ => ⟨a _ _ (by decide) (by decide), r8 _⟩) g2, GM_up kc kr e1 e2 (e 3 (by decide)) (fun m _ => (eo 6 m (by decide) (by decide)).1) (a _ _ (by decide) (by decide)) (fun m _ => ⟨a _ _ (by decide) (by decide), a _ _ (by decide) (by decide)⟩) g3, ?_, GR_up kc kr e1 e2 (e 5 (by decide)) (a _ _ (by decide) (by decide)) (a _ _ (by decide) (by decide)) g5, GR_up kc kr e1 e2 (e 6 (by decide)) (a _ _ (by decide) (by decide)) (a _ _ (by decide) (by decide)) g6⟩
  unfold GMi
  rw [e 4 (by decide), a 116 h (by decide) (by decide)]
  exact g4
theorem wq_q {q k i : Nat} (h1 : q ≤ k) (h2 : k < q + 7) (h3 : k ≠ q ∨ i ≠ 0 := by omega) : wq q k i = true := decide_eq_true (by omega)
/-- one name of a list: class and reference -/
theorem L_step {sz N p q b h l : Nat} {Tc Tr : tT} {v2 v3 : Int32} (g : gq p q) (h40 : h < 40) (hB : BR sz N p b Tc Tr) (hG : GB2 Tc Tr p b q h) (hl : (Tc.1 q 1).toInt = (l + 1 : Nat)) (hv : v2.toInt = (6 * h + l : Nat)) (h3 : v3 ≠ 0) : ((∃ Tr1, ST sz N p q b h Tc Tr (F_X6_takeListed Tc q) Tr1 ∧ pos Tc + 1 ≤ pos (F_X6_takeListed Tc q) ∧ (F_X6_takeListed Tc q).1 q 1 = Tc.1 q 1 ∧ (∀ n, (vl_X11_readList (n + 4)).1 Tr v2 v3 = if v_X11_is Tr1 44 = 0 then (vl_X11_readList (n + 1)).1 Tr1 v2 (v_X11_is Tr1 44) else (vl_X11_readList (n + 1)).1 (F_X11_next Tr1) v2 (v_X11_is Tr1 44)) ∧ ∀ n, ok_X11_is sz Tr1 44 → (v_X11_is Tr1 44 = 0 → (okl_X11_readList (n + 1)).1 sz Tr1 v2 (v_X11_is Tr1 44)) → (¬ v_X11_is Tr1 44 = 0 → ok_X11_next sz Tr1 ∧ (okl_X11_readList (n + 1)).1 sz (F_X11_next Tr1) v2 (v_X11_is Tr1 44)) → (okl_X11_readList (n + 4)).1 sz Tr v2 v3) ∨ (∃ R, IF sz N p q b h Tc Tr (F_X6_takeListed Tc q) R ∧ ∀ n, (vl_X11_readList (n + 4)).1 Tr v2 v3 = R ∧ (okl_X11_readList (n + 4)).1 sz Tr v2 v3)) ∧ ok_X6_takeListed sz Tc q := by
  have hcs := hB.2.2.1
  have hc := hB.2.2.2.2.1.1
  have hr := hB.2.2.2.2.1.2
  have g1 := good1 hr
  obtain ⟨_, _, tn3, tn4, _⟩ := tk_num hB.2.2.2.1
  have t3 : Tr.1 105 6 = Tc.1 4 3 := by obtain ⟨pl, e, _, _, t3, _⟩ := hB.2.2.2.1; exact t3
  have hGL := hG.1
  have l6 : l < 6 := by
    have := tle.mp hGL.1.2.2
    rw [hl, show (6 : Int32).toInt = 6 from rfl] at this
    omega
  have hs : ∃ s : Nat, (Tc.1 (q + 2) l).toInt = s ∧ s ≤ 12 := by
    obtain ⟨_, y2, y3, _⟩ := hGL.2 l (by omega)
    rw [tle, show (0 : Int32).toInt = 0 from rfl] at y2
    rw [tle, show (12 : Int32).toInt = 12 from rfl] at y3
    exact ⟨(Tc.1 (q + 2) l).toInt.toNat, by omega, by omega⟩
  obtain ⟨s, hs, s12⟩ := hs
  have rs : Tr.1 112 (6 * h + l) = Tc.1 (q + 2) l := (hGL.2 l (by omega)).1.symm
  have m1 : (Tc.1 q 1 - 1).toInt = (l : Nat) := by
    have z : (1 : Int32).toInt = 1 := rfl
    rw [tsub (by rw [z]; omega) (by rw [z]; omega), z]
    omega
  have n0 : ¬ Tc.1 q 1 ≤ 0 := by rw [tle, hl, show (0 : Int32).toInt = 0 from rfl]; omega
  have in6 : vp_in (Tc.1 q 1 - 1) 6 := by rw [vp_in_iff]; omega
  have in240 : vp_in v2 240 := by rw [vp_in_iff]; omega
  have full : v_X3_isLastListFull Tc q = 0 ↔ s < 12 := by
    unfold v_X3_isLastListFull
    rw [if_neg n0, tnN m1]
    constructor
    · intro w
      by_cases c : Tc.1 (q + 2) l < 12
      · rw [tlt, hs, show (12 : Int32).toInt = 12 from rfl] at c
        omega
      · rw [if_neg c] at w
        cases w
    · intro w
      rw [if_pos (by rw [tlt, hs, show (12 : Int32).toInt = 12 from rfl]; omega)]
  have r12 : Tr.1 112 v2.toNatClampNeg = 12 ↔ ¬ s < 12 := by
    rw [tnN hv, rs, teq, hs, show (12 : Int32).toInt = 12 from rfl]
    omega
  have okF := (SF_next (SF_refuse hcs).1).2
  have ok3 := (SF_next (SF_fail hcs 3 (Tc.1 4 3)).1).2
  obtain ⟨a1, a2⟩ := e_isL2 (sz := sz) hGL (Tc.2.1 4 5) m1 (by omega)
  obtain ⟨a3, a4⟩ := e_hasP2 (sz := sz) hGL h40 (Tc.2.1 4 5) hv (by omega)
  have ixc : s < 12 → ((Tc.1 q 1 - 1) * 12 + Tc.1 (q + 2) l).toInt = (12 * l + s : Nat) := fun w => (tix12 m1 (by omega) hs w).1
  have add : s < 12 → F_X3_addListed Tc q (Tc.2.1 4 5) = tI (tJ Tc (q + 3) (12 * l + s) (Tc.2.1 4 5)) (q + 2) l (Tc.1 (q + 2) l + 1) ∧ ok_X3_addListed sz Tc q (Tc.2.1 4 5) := fun w => by
    have k0 : ¬ Tc.1 q 1 - 1 < 0 := by rw [tlt, m1, show (0 : Int32).toInt = 0 from rfl]; omega
    have k1 : ¬ 12 ≤ Tc.1 (q + 2) l := by rw [tle, hs, show (12 : Int32).toInt = 12 from rfl]; omega
    have i72 : vp_in ((Tc.1 q 1 - 1) * 12 + Tc.1 (q + 2) l) 72 := by rw [vp_in_iff, ixc w]; omega
    unfold F_X3_addListed ok_X3_addListed
    rw [if_neg k0, tnN m1, if_neg k1, tnN (ixc w)]
    exact ⟨rfl, fun _ => trivial, fun _ => ⟨in6, fun _ => trivial, fun _ => ⟨in6, i72, in6, in6⟩⟩⟩
  have fcA : fr (wq q) Tc (tI (tJ Tc (q + 3) (12 * l + s) (Tc.2.1 4 5)) (q + 2) l (Tc.1 (q + 2) l + 1)) := fr_I (wq_q (by omega) (by omega)) (fr_J (wq_q (by omega) (by omega)) fr_refl)
  have okc : ok_X6_takeListed sz Tc q := by
    refine ⟨fun _ => ⟨okF, trivial⟩, fun _ => ⟨⟨fun _ => trivial, fun _ => in6⟩, fun w => ⟨a2, fun _ => ⟨(add (full.mp w)).2, ?_, trivial⟩, fun _ => ⟨ok3, trivial⟩⟩, fun _ => ⟨okF, trivial⟩⟩⟩
    rw [(add (full.mp w)).1]
    exact (SF_next (CS_up g fcA hcs)).2
  refine ⟨?_, okc⟩
  have FR := FL_refuse hB.2.2.2.1 hc hr
  have g0 := good0 (wrong_ne hr)
  have bad : IF sz N p q b h Tc Tr (F_X9_next (F_X6_refuse Tc)) (F_X11_wrong Tr) := by
    have s1 := SF_trans (SF_refuse hcs) (SF_next (SF_refuse hcs).1).1
    exact ⟨FL_next (SF_refuse hcs).1 FR, s1.1, fQ1 s1.2.1, fG1 fr_wrong⟩
  have badR : ∀ n, (vl_X11_readList (n + 3)).2.1 Tr v2 = F_X11_wrong Tr ∧ (okl_X11_readList (n + 3)).2.1 sz Tr v2 := fun n => by
    rw [vl_X11_readList_s1, okl_X11_readList_s1, vl_X11_readList_s2, okl_X11_readList_s2, if_pos g0, vl_X11_readList_s3, okl_X11_readList_s3, if_pos g0]
    exact ⟨rfl, fun _ => ⟨fun w => absurd g0 w, fun _ => trivial⟩, fun w => absurd g0 w⟩
  unfold F_X6_takeListed
  by_cases k3 : Tc.1 4 2 = 3
  · have r2 := tn3.mp k3
    have rw' := tn4 k3
    rw [if_pos k3]
    by_cases c12 : s < 12
    · have f0 := full.mpr c12
      have nr12 : ¬ Tr.1 112 v2.toNatClampNeg = 12 := fun w => r12.mp w c12
      rw [if_pos f0, a1]
      have toS2 : ∀ n, (vl_X11_readList (n + 4)).1 Tr v2 v3 = (vl_X11_readList (n + 3)).2.2.1 Tr v2 := fun n => by rw [vl_X11_readList_s0, if_neg h3, if_neg g1, if_pos r2, if_neg nr12]
      have okS2 : ∀ n, (okl_X11_readList (n + 3)).2.2.1 sz Tr v2 → (okl_X11_readList (n + 4)).1 sz Tr v2 v3 := fun n w => by
        rw [okl_X11_readList_s0]
        exact ⟨fun z => absurd z h3, fun _ => ⟨fun z => absurd z g1, fun _ => ⟨fun z => absurd r2 z, fun _ => ⟨in240, fun _ => w, fun z => absurd z nr12⟩⟩⟩⟩
      by_cases d : b2i (inL Tc q l (Tc.2.1 4 5)) = 0
      · refine Or.inl ?_
        rw [if_pos d, (add c12).1]
        have ixr : (12 * v2 + Tr.1 112 v2.toNatClampNeg).toInt = (12 * (6 * h + l) + s : Nat) := by
          rw [tnN hv, rs]
          exact (tix12 hv (by omega) hs c12).2
        have in2880 : vp_in (12 * v2 + Tr.1 112 v2.toNatClampNeg) 2880 := by rw [vp_in_iff, ixr]; omega
        have eR : tI (tJ Tr 127 (12 * v2 + Tr.1 112 v2.toNatClampNeg).toNatClampNeg (Tr.2.1 105 10)) 112 v2.toNatClampNeg (Tr.1 112 v2.toNatClampNeg + 1) = tI (tJ Tr 127 (12 * (6 * h + l) + s) (Tc.2.1 4 5)) 112 (6 * h + l) (Tc.1 (q + 2) l + 1) := by
          rw [tnN ixr, tnN hv, rs, rw']
        have frA : fr (wg h) Tr (tI (tJ Tr 127 (12 * (6 * h + l) + s) (Tc.2.1 4 5)) 112 (6 * h + l) (Tc.1 (q + 2) l + 1)) := by
          refine fr_I ?_ (fr_J ?_ fr_refl)
          · unfold wg
            rw [show (6 * h + l) / 6 = h by omega]
            simp
          · unfold wg
            rw [show (12 * (6 * h + l) + s) / 72 = h by omega]
            simp
        have bA := BR_up g fcA frA hB
        have gA := GB2_L (p := p) (b := b) g fcA frA hG (GL_add hGL hl rfl hs c12) (tle_e (tI_off (fun z => by have := z.1; omega))) (fun i _ => tI_off (fun z => by have := z.1; omega)) (fun o i o1 o2 => ⟨tI_off (fun z => by have := z.1; omega), tJ_off (fun z => by have := z.1; omega)⟩) (fun k i k1 k2 => tI_off (fun z => by have := z.1; omega)) (fun i => tJ_off (fun z => by have := z.1; omega))
        have sA : ST sz N p q b h Tc Tr _ _ := ⟨bA, gA, kpC_wq g fcA, kpR_wg frA, Int.le_of_eq (by unfold pos; rw [fr_i fcA (wq_off (by omega) (by obtain ⟨g1, g2⟩ := g; omega))]), fQ2 fcA, fG2 frA⟩
        obtain ⟨n1, n2, n3, n4, n5, n6, n7, _⟩ := BR_next bA
        have pA : pos (tI (tJ Tc (q + 3) (12 * l + s) (Tc.2.1 4 5)) (q + 2) l (Tc.1 (q + 2) l + 1)) = pos Tc := by
          obtain ⟨g1, g2⟩ := g
          unfold pos
          rw [fr_i fcA (wq_off (by omega) (by omega))]
        have kA : (tI (tJ Tc (q + 3) (12 * l + s) (Tc.2.1 4 5)) (q + 2) l (Tc.1 (q + 2) l + 1)).1 4 2 = 3 := by
          obtain ⟨g1, g2⟩ := g
          rw [fr_i fcA (wq_off (by omega) (by omega))]
          exact k3
        refine ⟨F_X11_next (tI (tJ Tr 127 (12 * (6 * h + l) + s) (Tc.2.1 4 5)) 112 (6 * h + l) (Tc.1 (q + 2) l + 1)), ST_trans sA (ST_next g bA gA), ?_, ?_, fun n => ?_, fun n o1 o2 o3 => okS2 n ?_⟩
        · have := n7 (by rw [kA]; decide)
          omega
        · obtain ⟨g1, g2⟩ := g
          rw [fr_i n2 (w4_z (by omega))]
          exact tI_off (fun z => by have := z.1; omega)
        · rw [toS2, vl_X11_readList_s2, if_neg g1, rw', a3, if_pos d, vl_X11_readList_s3, if_neg g1, eR]
        · rw [okl_X11_readList_s2, okl_X11_readList_s3, rw', a3, ← rw', eR]
          exact ⟨fun z => absurd z g1, fun _ => ⟨by rw [rw']; exact a4, fun _ => ⟨fun _ => ⟨in240, in2880, in240, in240, n5, o1, o2, o3⟩, fun z => absurd z g1⟩, fun z => absurd d (by rw [rw'] at z; exact z)⟩⟩
      · refine Or.inr ?_
        rw [if_neg d]
        have F3 := FL_fail hc hr (a := 3) (b := Tc.1 4 3) (b' := Tr.1 105 6) (by decide) t3.symm
        have g3 := good0 (show (F_X11_fails Tr 3 (Tr.1 105 6)).1 105 4 ≠ 0 by rw [F3.2.1]; exact F3.1)
        have s3 := SF_trans (SF_fail hcs 3 (Tc.1 4 3)) (SF_next (SF_fail hcs 3 (Tc.1 4 3)).1).1
        refine ⟨F_X11_fails Tr 3 (Tr.1 105 6), ⟨FL_next (SF_fail hcs 3 (Tc.1 4 3)).1 F3, s3.1, fQ1 s3.2.1, fG1 (fr_fails _ _)⟩, fun n => ⟨?_, okS2 n ?_⟩⟩
        · rw [toS2, vl_X11_readList_s2, if_neg g1, rw', a3, if_neg d, vl_X11_readList_s3, if_pos g3]
        · rw [okl_X11_readList_s2, rw', a3, okl_X11_readList_s3 (n + 1) sz (F_X11_fails Tr 3 (Tr.1 105 6)) v2]
          exact ⟨fun z => absurd z g1, fun _ => ⟨a4, fun z => absurd z d, fun _ => ⟨fun z => absurd g3 z, fun _ => trivial⟩⟩⟩
    · have nf : ¬ v_X3_isLastListFull Tc q = 0 := fun w => c12 (full.mp w)
      have e12 := r12.mpr c12
      rw [if_neg nf]
      refine Or.inr ⟨_, bad, fun n => ?_⟩
      rw [vl_X11_readList_s0, okl_X11_readList_s0, if_neg h3, if_neg g1, if_pos r2, if_pos e12]
      exact ⟨(badR n).1, fun z => absurd z h3, fun _ => ⟨fun z => absurd z g1, fun _ => ⟨fun z => absurd r2 z, fun _ => ⟨in240, fun z => absurd e12 z, fun _ => (badR n).2⟩⟩⟩⟩
  · have nr2 : ¬ Tr.1 105 8 = 2 := fun w => k3 (tn3.mpr w)
    rw [if_neg k3]
    refine Or.inr ⟨_, bad, fun n => ?_⟩
    rw [vl_X11_readList_s0, okl_X11_readList_s0, if_neg h3, if_neg g1, if_neg nr2]
    exact ⟨(badR n).1, fun z => absurd z h3, fun _ => ⟨fun z => absurd z g1, fun _ => ⟨fun _ => (badR n).2, fun z => absurd z nr2⟩⟩⟩
theorem BR_pos {sz N p b : Nat} {Tc Tr : tT} (hB : BR sz N p b Tc Tr) : pos Tc ≤ N ∧ (Tc.1 4 2 ≠ 0 → pos Tc < N) ∧ N ≤ 1400 ∧ 0 ≤ pos Tc := by
  have n14 := hB.1.1.2.1
  obtain ⟨pl, e, t1, t2, _, _, t5, t6, t7, t8, _⟩ := hB.2.2.2.1
  unfold pos
  refine ⟨by omega, fun w => ?_, n14, by omega⟩
  have := t8 w
  omega
/-- the names of a list -/
theorem L_loop {sz N p q b h l : Nat} {v2 : Int32} (g : gq p q) (h40 : h < 40) (hv : v2.toInt = (6 * h + l : Nat)) : ∀ (m : Nat) (Tc Tr : tT) (v3 v4 : Int32) (nc nr : Nat), BR sz N p b Tc Tr → GB2 Tc Tr p b q h → (Tc.1 q 1).toInt = (l + 1 : Nat) → v3 ≠ 0 → (N : Int) - pos Tc < m → m ≤ nc → 4 * m ≤ nr → 0 ≤ v4.toInt → v4.toInt ≤ pos Tc → IT sz N p q b h Tc Tr (vl_X6_readList nc (F_X6_takeListed Tc q) q v4) ((vl_X11_readList nr).1 Tr v2 v3) ∧ ok_X6_takeListed sz Tc q ∧ okl_X6_readList nc sz (F_X6_takeListed Tc q) q v4 ∧ (okl_X11_readList nr).1 sz Tr v2 v3 := by
  intro m
  induction m with
  | zero =>
    intro Tc Tr v3 v4 nc nr hB
    have := (BR_pos hB).1
    omega
  | succ m ih =>
    intro Tc Tr v3 v4 nc nr hB hG hl h3 hm hn hn' hv0 hv4
    obtain ⟨nc, rfl⟩ : ∃ n', nc = n' + 1 := ⟨nc - 1, by omega⟩
    obtain ⟨nr, rfl⟩ : ∃ n', nr = n' + 4 := ⟨nr - 4, by omega⟩
    obtain ⟨hS, okc⟩ := L_step (v3 := v3) g h40 hB hG hl hv h3
    rw [vl_X6_readList_s]
    simp only [okl_X6_readList]
    rcases hS with ⟨Tr1, s1, s2, s3, s4, s5⟩ | ⟨R, s1, s2⟩
    · have hB1 := s1.1
      have f0 := hB1.2.2.2.2.1.1
      obtain ⟨q1, q2, q3, _⟩ := BR_pos hB1
      have hi := tk_is hB1.2.2.2.1 (c := 44) (by unfold isS; decide)
      have ho := is_ok (sz := sz) hB1.2.2.2.1 hB1.1.2.1 44
      obtain ⟨n1, n2, n3, n4, n5, n6, n7, _⟩ := BR_next hB1
      rw [s4, if_pos f0]
      by_cases k44 : (F_X6_takeListed Tc q).1 4 2 = 44
      · have v14 : ¬ 1400 ≤ v4 := by
          have := q2 (by rw [k44]; decide)
          rw [tle, show (1400 : Int32).toInt = 1400 from rfl]
          omega
        have p1 := n7 (by rw [k44]; decide)
        have ni : ¬ v_X11_is Tr1 44 = 0 := fun w => hi.mp w k44
        have sN := ST_next g hB1 s1.2.1
        have v1 : (v4 + 1).toInt = v4.toInt + 1 := tinc' (by omega)
        obtain ⟨i1, i2, i3, i4⟩ := ih (F_X9_next (F_X6_takeListed Tc q)) (F_X11_next Tr1) (v_X11_is Tr1 44) (v4 + 1) nc (nr + 1) n1 sN.2.1 (by rw [fr_i n2 (w4_z (by obtain ⟨g1, g2⟩ := g; omega)), s3]; exact hl) ni (by omega) (by omega) (by omega) (by omega) (by omega)
        rw [if_neg v14, if_pos k44, if_neg ni]
        exact ⟨ST_IT (ST_trans s1 sN) i1, okc, ⟨fun _ => trivial, fun _ => ⟨fun _ => trivial, fun _ => ⟨fun _ => trivial, fun _ => ⟨n4, i2, i3⟩⟩⟩⟩, s5 nr ho (fun z => absurd z ni) (fun _ => ⟨n5, i4⟩)⟩
      · have ni : v_X11_is Tr1 44 = 0 := hi.mpr k44
        rw [if_neg k44, ite_self, if_pos ni, vl_X11_readList_s0, if_pos ni]
        refine ⟨Or.inl ⟨s1, s2⟩, okc, ⟨fun _ => trivial, fun _ => ⟨fun _ => trivial, fun _ => ⟨fun _ => trivial, fun z => absurd z k44⟩⟩⟩, s5 nr ho (fun _ => ?_) (fun z => absurd ni z)⟩
        rw [okl_X11_readList_s0]
        exact ⟨fun _ => trivial, fun z => absurd ni z⟩
    · rw [(s2 nr).1, if_neg s1.1.1, ite_self]
      exact ⟨Or.inr s1, okc, ⟨fun _ => trivial, fun _ => ⟨fun _ => trivial, fun z => absurd z s1.1.1⟩⟩, (s2 nr).2⟩
theorem SF_num {sz N p : Nat} {T : tT} (hcs : CS sz N p T) (lo hi : Int32) : SF sz N p T (F_X6_takeNumber T lo hi).2 ∧ ok_X6_takeNumber sz T lo hi := by
  have n1 := SF_next hcs
  have n2 := SF_next (SF_fail hcs 5 (T.1 4 3)).1
  have n3 := SF_next (SF_refuse hcs).1
  refine ⟨?_, ⟨fun _ => ⟨fun _ => ⟨n2.2, trivial⟩, fun _ => ⟨fun _ => ⟨n1.2, trivial⟩, fun _ => ⟨n2.2, trivial⟩⟩⟩, fun _ => ⟨n3.2, trivial⟩⟩⟩
  have key : ∀ T1, SF sz N p T (F_X9_next T1) → SF sz N p T (if (F_X9_next T1).1 3 1 = 0 then (T.1 4 4, F_X9_next T1) else ((0 : Int32), F_X9_next T1)).2 := fun T1 h => by
    split <;> exact h
  unfold F_X6_takeNumber
  split
  · split
    · exact key _ (SF_trans (SF_fail hcs 5 (T.1 4 3)) n2.1)
    · split
      · exact key _ n1.1
      · exact key _ (SF_trans (SF_fail hcs 5 (T.1 4 3)) n2.1)
  · exact key _ (SF_trans (SF_refuse hcs) n3.1)
