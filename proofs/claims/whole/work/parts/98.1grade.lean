/-! grades: all eight of a text, and the items of one -/
def GJ (Tc Tr : tT) (p b j : Nat) : Prop := (Tc.1 (p + 3 + 7 * j) 0 = Tr.1 110 (8 * b + j) ∧ (Tc.1 (p + 3 + 7 * j) 0 = 0 ∨ Tc.1 (p + 3 + 7 * j) 0 = 1)) ∧ (Tc.1 (p + 3 + 7 * j) 0 = 0 → Tc.1 (p + 3 + 7 * j) 1 = 0 ∧ Tc.1 (p + 3 + 7 * j) 2 = 0 ∧ Tc.1 (p + 3 + 7 * j) 3 = 0 ∧ Tc.1 (p + 3 + 7 * j) 4 = 0 ∧ Tc.1 (p + 3 + 7 * j) 5 = -1 ∧ Tc.1 (p + 3 + 7 * j) 6 = -1) ∧ (Tc.1 (p + 3 + 7 * j) 0 ≠ 0 → GB2 Tc Tr p b (p + 3 + 7 * j) (8 * b + j))
def GA (Tc Tr : tT) (p b : Nat) : Prop := Tc.1 p 2 = Tr.1 125 b ∧ (∀ j, j < 8 → Tc.2.2 (p + 1) j = some (p + 3 + 7 * j)) ∧ ∀ j, j < 8 → GJ Tc Tr p b j
/-- what reading a text touches -/
def wA (p k i : Nat) : Bool := wE p k i || decide ((k = 3 ∧ i = 4) ∨ (p ≤ k ∧ k < p + 59))
def wH (b k i : Nat) : Bool := wRe b k i || decide ((k = 125 ∧ i = b) ∨ ((k = 110 ∨ k = 111 ∨ k = 113 ∨ k = 115 ∨ k = 116 ∨ k = 119 ∨ k = 120 ∨ k = 121 ∨ k = 122) ∧ i / 8 = b) ∨ ((k = 112 ∨ k = 114 ∨ k = 126 ∨ k = 128) ∧ i / 48 = b) ∨ (k = 127 ∧ i / 576 = b) ∨ ((k = 117 ∨ k = 118) ∧ i / 64 = b))
theorem fr_sub {W W' : Nat → Nat → Bool} {T T' : tT} (h : ∀ k i, W k i = true → W' k i = true) (f : fr W T T') : fr W' T T' := fun k i hw => f k i (by
  cases z : W k i with
  | false => rfl
  | true => rw [h k i z] at hw; cases hw)
theorem fA {p j : Nat} {T T' : tT} (hj : j < 8) (f : fr (wQ p (p + 3 + 7 * j)) T T') : fr (wA p) T T' := fr_sub (fun k i hw => by
  unfold wQ at hw
  unfold wA
  rw [Bool.or_eq_true] at hw ⊢
  rcases hw with hw | hw
  · exact Or.inl hw
  · refine Or.inr (decide_eq_true ?_)
    have := of_decide_eq_true hw
    omega) f
theorem fA1 {p : Nat} {T T' : tT} (f : fr (wE p) T T') : fr (wA p) T T' := fr_or1 f
theorem fH1 {b : Nat} {T T' : tT} (f : fr (wRe b) T T') : fr (wH b) T T' := fr_or1 f
theorem wg_on {h k i : Nat} (hw : wg h k i = true) : ((k = 111 ∨ k = 113 ∨ k = 115 ∨ k = 116 ∨ k = 119 ∨ k = 120 ∨ k = 121 ∨ k = 122) ∧ i = h) ∨ ((k = 112 ∨ k = 114 ∨ k = 126 ∨ k = 128) ∧ i / 6 = h) ∨ (k = 127 ∧ i / 72 = h) ∨ ((k = 117 ∨ k = 118) ∧ i / 8 = h) := by
  unfold wg at hw
  simp only [Bool.or_eq_true, Bool.and_eq_true, beq_iff_eq] at hw
  omega
theorem fH {b j : Nat} {T T' : tT} (hj : j < 8) (f : fr (wG b (8 * b + j)) T T') : fr (wH b) T T' := fr_sub (fun k i hw => by
  unfold wG at hw
  unfold wH
  rw [Bool.or_eq_true] at hw ⊢
  rcases hw with hw | hw
  · exact Or.inl hw
  · refine Or.inr (decide_eq_true ?_)
    have := wg_on hw
    omega) f
theorem wQ_off {p q k i : Nat} (h1 : wE p k i = false) (h2 : wq q k i = false) : wQ p q k i = false := by
  unfold wQ
  rw [h1, h2]
  rfl
theorem wG_off {b h k i : Nat} (h1 : wRe b k i = false) (h2 : wg h k i = false) : wG b h k i = false := by
  unfold wG
  rw [h1, h2]
  rfl
theorem wg_h {h k i : Nat} (h2 : ¬ (((k = 111 ∨ k = 113 ∨ k = 115 ∨ k = 116 ∨ k = 119 ∨ k = 120 ∨ k = 121 ∨ k = 122) ∧ i = h) ∨ ((k = 112 ∨ k = 114 ∨ k = 126 ∨ k = 128) ∧ i / 6 = h) ∨ (k = 127 ∧ i / 72 = h) ∨ ((k = 117 ∨ k = 118) ∧ i / 8 = h))) : wg h k i = false := by
  cases z : wg h k i with
  | false => rfl
  | true => exact absurd (wg_on z) h2
/-- an item of one grade leaves the others -/
theorem GA_item {sz N p b j : Nat} {Tc Tr Tc' Tr' : tT} (p6 : 6 ≤ p) (hj : j < 8) (hA : GA Tc Tr p b) (hS : ST sz N p (p + 3 + 7 * j) b (8 * b + j) Tc Tr Tc' Tr') (ht : Tc.1 (p + 3 + 7 * j) 0 = 1) : GA Tc' Tr' p b ∧ Tc'.1 (p + 3 + 7 * j) 0 = 1 := by
  obtain ⟨_, s2, kc, kr, _, fc, f'⟩ := hS
  obtain ⟨a1, a2, a3⟩ := hA
  have t' : Tc'.1 (p + 3 + 7 * j) 0 = 1 := (fr_i fc (wQ_off (wE_off (by omega) (by omega) (by omega) (by omega)) (wq_0 (by omega)))).trans ht
  refine ⟨⟨?_, fun i hi => ?_, fun i hi => ?_⟩, t'⟩
  · rw [fr_i fc (k := p) (i := 2) (wQ_off (wE_off (by omega) (by omega) (by omega) (by omega)) (wq_off (by omega) (by omega))), fr_i f' (k := 125) (i := b) (wG_off (wRe_off (by omega) (by omega)) (wg_off (by omega)))]
    exact a1
  · rw [fr_p fc (k := p + 1) (i := i) (wQ_off (wE_off (by omega) (by omega) (by omega) (by omega)) (wq_off (by omega) (by omega)))]
    exact a2 i hi
  · obtain ⟨x1, x2, x3⟩ := a3 i hi
    have r110 : Tr'.1 110 (8 * b + i) = Tr.1 110 (8 * b + i) := fr_i f' (wG_off (wRe_off (by omega) (by omega)) (wg_off (by omega)))
    by_cases c : i = j
    · rw [c] at x1 r110 ⊢
      unfold GJ
      rw [t', r110, ← x1.1, ht]
      exact ⟨⟨rfl, Or.inr rfl⟩, fun z => absurd z (by decide), fun _ => s2⟩
    · have ec : eqC (p + 3 + 7 * i) Tc Tc' := eqC_w fc (fun k l h1 h2 => wQ_off (wE_off (by omega) (by omega) (by omega) (by omega)) (wq_off (by omega) (by omega)))
      have c0 : ∀ l, Tc'.1 (p + 3 + 7 * i) l = Tc.1 (p + 3 + 7 * i) l := fun l => (eqC_i ec 0 l (by decide)).1
      have er : eqR (8 * b + i) Tr Tr' := by
        have r : ∀ k l, 111 ≤ k → k ≤ 128 → k ≠ 123 → k ≠ 124 → wg (8 * b + j) k l = false → Tr'.1 k l = Tr.1 k l := fun k l h1 h2 h3 h4 h5 => fr_i f' (wG_off (wRe_off (by omega) (by omega)) h5)
        have rj : ∀ k l, 111 ≤ k → k ≤ 128 → k ≠ 123 → k ≠ 124 → wg (8 * b + j) k l = false → Tr'.2.1 k l = Tr.2.1 k l := fun k l h1 h2 h3 h4 h5 => fr_j f' (wG_off (wRe_off (by omega) (by omega)) h5)
        refine ⟨⟨?_, ?_, ?_, ?_, ?_, ?_, ?_, ?_⟩, fun l hl => ⟨?_, ?_, ?_, ?_⟩, fun l k hl hk => ?_, fun m hm => ⟨?_, ?_⟩⟩ <;> first | exact r _ _ (by decide) (by decide) (by decide) (by decide) (wg_h (by omega)) | exact rj _ _ (by decide) (by decide) (by decide) (by decide) (wg_h (by omega))
      unfold GJ
      rw [c0, c0, c0, c0, c0, c0, c0, r110]
      exact ⟨x1, x2, fun z => GB2_up kc kr ec er (x3 z)⟩
theorem refuse_F {T : tT} (h : T.1 3 1 ≠ 0) : F_X6_refuse T = T := by
  unfold F_X6_refuse F_X6_fail
  rw [if_neg h, if_neg h, ite_self]
/-- between items, in both -/
def BA (sz N p b : Nat) (Tc Tr : tT) : Prop := BR sz N p b Tc Tr ∧ GA Tc Tr p b
def FA (sz N p b : Nat) (Tc Tr Tc' Tr' : tT) : Prop := FL Tc' Tr' ∧ CS sz N p Tc' ∧ fr (wA p) Tc Tc' ∧ fr (wH b) Tr Tr'
def SA (sz N p b : Nat) (Tc Tr Tc' Tr' : tT) : Prop := BA sz N p b Tc' Tr' ∧ fr (wA p) Tc Tc' ∧ fr (wH b) Tr Tr'
theorem GB2_of {Tc Tr : tT} {p b j : Nat} (hj : j < 8) (h : GA Tc Tr p b) (ht : Tc.1 (p + 3 + 7 * j) 0 = 1) : GB2 Tc Tr p b (p + 3 + 7 * j) (8 * b + j) := (h.2.2 j hj).2.2 (by rw [ht]; decide)
theorem SA_trans {sz N p b : Nat} {T R T1 R1 T2 R2 : tT} (a : SA sz N p b T R T1 R1) (c : SA sz N p b T1 R1 T2 R2) : SA sz N p b T R T2 R2 := ⟨c.1, fr_trans a.2.1 c.2.1, fr_trans a.2.2 c.2.2⟩
theorem SA_FA {sz N p b : Nat} {T R T1 R1 T2 R2 : tT} (a : SA sz N p b T R T1 R1) (c : FA sz N p b T1 R1 T2 R2) : FA sz N p b T R T2 R2 := ⟨c.1, c.2.1, fr_trans a.2.1 c.2.2.1, fr_trans a.2.2 c.2.2.2⟩
/-- the items of a grade, to its end -/
theorem G_loop {sz N p b j : Nat} {hv : Int32} (p6 : 6 ≤ p) (hb : b < 5) (hj : j < 8) (hh : hv.toInt = (8 * b + j : Nat)) : ∀ (m : Nat) (Tc Tr : tT) (v : Int32) (nc nr : Nat), BA sz N p b Tc Tr → Tc.1 (p + 3 + 7 * j) 0 = 1 → (N : Int) - pos Tc < m → m ≤ nc → m + 2 ≤ nr → 0 ≤ v.toInt → v.toInt ≤ pos Tc → (∃ T' nc' v', SA sz N p b Tc Tr T' ((vl_X11_readGrade nr).2.2.2 Tr hv) ∧ (vl_X6_read nc).2 Tc (p + 3 + 7 * j) v = (vl_X6_read nc').1 T' v' ∧ ((okl_X6_read nc').1 sz T' v' → (okl_X6_read nc).2 sz Tc (p + 3 + 7 * j) v) ∧ (nc : Int) + pos Tc ≤ nc' + pos T' ∧ 0 ≤ v'.toInt ∧ v'.toInt ≤ pos T' ∧ (okl_X11_readGrade nr).2.2.2 sz Tr hv ∧ pos Tc + 1 ≤ pos T') ∨ (FA sz N p b Tc Tr ((vl_X6_read nc).2 Tc (p + 3 + 7 * j) v) ((vl_X11_readGrade nr).2.2.2 Tr hv) ∧ (okl_X6_read nc).2 sz Tc (p + 3 + 7 * j) v ∧ (okl_X11_readGrade nr).2.2.2 sz Tr hv) := by
  have h40 : 8 * b + j < 40 := by omega
  have g : gq p (p + 3 + 7 * j) := ⟨p6, by omega⟩
  intro m
  induction m with
  | zero =>
    intro Tc Tr v nc nr hB
    have := (BR_pos hB.1).1
    omega
  | succ m ih =>
    intro Tc Tr v nc nr hBA ht hm hn hn' hv0 hv4
    obtain ⟨nc, rfl⟩ : ∃ n', nc = n' + 1 := ⟨nc - 1, by omega⟩
    obtain ⟨nr, rfl⟩ : ∃ n', nr = n' + 1 := ⟨nr - 1, by omega⟩
    obtain ⟨hB, hA⟩ := hBA
    have hG := GB2_of hj hA ht
    have f0 := hB.2.2.2.2.1.1
    have hr := hB.2.2.2.2.1.2
    have gd := good1 hr
    obtain ⟨q1, q2, q3, q4⟩ := BR_pos hB
    have hi := tk_is hB.2.2.2.1 (c := 125) (by unfold isS; decide)
    have ho := is_ok (sz := sz) hB.2.2.2.1 hB.1.2.1 125
    obtain ⟨n1, n2, n3, n4, n5, n6, n7, _⟩ := BR_next hB
    rw [vl_X6_read_s1, okl_X6_read_s1, vl_X11_readGrade_s3, okl_X11_readGrade_s3, if_neg gd]
    by_cases k125 : Tc.1 4 2 = 125
    · have v14 : ¬ 1400 ≤ v := by
        have := q2 (by rw [k125]; decide)
        rw [tle, show (1400 : Int32).toInt = 1400 from rfl]
        omega
      have p1 := n7 (by rw [k125]; decide)
      have ni : ¬ v_X11_is Tr 125 = 0 := fun w => hi.mp w k125
      have k0 : ¬ Tc.1 4 2 = 0 := by rw [k125]; decide
      rw [if_neg v14, if_pos f0, if_neg k0, if_pos k125, if_neg ni, if_neg gd]
      have sN := ST_next g hB hG
      obtain ⟨gN, _⟩ := GA_item p6 hj hA sN ht
      have v1 : (v + 1).toInt = v.toInt + 1 := tinc' (by omega)
      exact Or.inl ⟨F_X9_next Tc, nc, v + 1, ⟨⟨n1, gN⟩, fA1 (w4_wE n2), fH1 (w5_wRe n3)⟩, rfl, fun o => ⟨fun _ => trivial, fun _ => ⟨fun _ => trivial, fun _ => ⟨fun _ => trivial, fun _ => ⟨fun z => absurd k125 z, fun _ => ⟨n4, o⟩⟩⟩⟩⟩, by omega, by omega, by omega, ⟨fun z => absurd z gd, fun _ => ⟨ho, fun _ => ⟨fun z => absurd z gd, fun _ => ⟨n5, trivial⟩⟩, fun z => absurd z ni⟩⟩, p1⟩
    · have ni : v_X11_is Tr 125 = 0 := hi.mpr k125
      rw [if_pos ni]
      obtain ⟨i1, i2, i3⟩ := R_item (q := p + 3 + 7 * j) (h := 8 * b + j) g hb hh h40 hB hG
      have okR : ∀ (P : Prop), P → ((v_X11_isGood Tr = 0 → (v_X11_isGood Tr = 0 → True) ∧ (¬ v_X11_isGood Tr = 0 → ok_X11_next sz Tr ∧ True)) ∧ (¬ v_X11_isGood Tr = 0 → ok_X11_is sz Tr 125 ∧ (¬ v_X11_is Tr 125 = 0 → (v_X11_isGood Tr = 0 → True) ∧ (¬ v_X11_isGood Tr = 0 → ok_X11_next sz Tr ∧ True)) ∧ (v_X11_is Tr 125 = 0 → ok_X11_readItem sz Tr hv ∧ P))) := fun P hP => ⟨fun z => absurd z gd, fun _ => ⟨ho, fun z => absurd ni z, fun _ => ⟨i3, hP⟩⟩⟩
      by_cases k0 : Tc.1 4 2 = 0
      · have cl : F_X6_readItem Tc (p + 3 + 7 * j) = F_X6_refuse Tc := by
          unfold F_X6_readItem
          have c1 : ¬ v_X6_cannotStartItem Tc (p + 3 + 7 * j) = 0 := by
            unfold v_X6_cannotStartItem
            rw [k0, if_neg (by decide), if_neg (by decide), if_neg (by decide), if_neg (by decide), if_neg (by decide), if_neg (by decide)]
            decide
          rw [if_neg c1]
        rw [cl] at i1
        have FR : IF sz N p (p + 3 + 7 * j) b (8 * b + j) Tc Tr (F_X6_refuse Tc) (F_X11_readItem Tr hv) := by
          rcases i1 with ⟨i1, _⟩ | i1
          · exfalso
            have := i1.1.2.2.2.2.1.1
            have ff := (FL_refuse hB.2.2.2.1 f0 hr).1
            exact ff this
          · exact i1
        have gR := good0 (show (F_X11_readItem Tr hv).1 105 4 ≠ 0 by rw [FR.1.2.1]; exact FR.1.1)
        obtain ⟨nr, rfl⟩ : ∃ n', nr = n' + 1 := ⟨nr - 1, by omega⟩
        have eC : (if 1400 ≤ v then F_X6_refuse Tc else if Tc.1 3 1 = 0 then if Tc.1 4 2 = 0 then F_X6_refuse Tc else if Tc.1 4 2 = 125 then (vl_X6_read nc).1 (F_X9_next Tc) (v + 1) else (vl_X6_read nc).2 (F_X6_readItem Tc (p + 3 + 7 * j)) (p + 3 + 7 * j) (v + 1) else F_X6_refuse Tc) = F_X6_refuse Tc := by
          rw [if_pos k0, ite_self, ite_self]
        rw [eC, vl_X11_readGrade_s3, if_pos gR, if_pos gR]
        refine Or.inr ⟨⟨FR.1, FR.2.1, fA hj FR.2.2.1, fH hj FR.2.2.2⟩, ⟨fun _ => trivial, fun _ => ⟨fun _ => trivial, fun _ => ⟨fun _ => trivial, fun z => absurd k0 z⟩⟩⟩, okR _ ?_⟩
        rw [okl_X11_readGrade_s3]
        exact ⟨fun _ => ⟨fun _ => trivial, fun z => absurd gR z⟩, fun z => absurd gR z⟩
      · have v14 : ¬ 1400 ≤ v := by
          have := q2 k0
          rw [tle, show (1400 : Int32).toInt = 1400 from rfl]
          omega
        have v1 : (v + 1).toInt = v.toInt + 1 := tinc' (by omega)
        rw [if_neg v14, if_pos f0, if_neg k0, if_neg k125]
        have okC : ∀ (P Q : Prop), P → ((1400 ≤ v → True) ∧ (¬ 1400 ≤ v → (¬ Tc.1 3 1 = 0 → True) ∧ (Tc.1 3 1 = 0 → (Tc.1 4 2 = 0 → True) ∧ (¬ Tc.1 4 2 = 0 → (¬ Tc.1 4 2 = 125 → ok_X6_readItem sz Tc (p + 3 + 7 * j) ∧ P) ∧ (Tc.1 4 2 = 125 → Q))))) := fun P Q hP => ⟨fun _ => trivial, fun _ => ⟨fun _ => trivial, fun _ => ⟨fun _ => trivial, fun _ => ⟨fun _ => ⟨i2, hP⟩, fun z => absurd z k125⟩⟩⟩⟩
        rcases i1 with ⟨i1, ip⟩ | i1
        · obtain ⟨gI, tI'⟩ := GA_item p6 hj hA i1 ht
          have sI : SA sz N p b Tc Tr (F_X6_readItem Tc (p + 3 + 7 * j)) (F_X11_readItem Tr hv) := ⟨⟨i1.1, gI⟩, fA hj i1.2.2.2.2.2.1, fH hj i1.2.2.2.2.2.2⟩
          rcases ih (F_X6_readItem Tc (p + 3 + 7 * j)) (F_X11_readItem Tr hv) (v + 1) nc nr sI.1 tI' (by omega) (by omega) (by omega) (by omega) (by omega) with ⟨T', nc', v', x1, x2, x3, x4, x5, x6, x7, x8⟩ | ⟨x1, x2, x3⟩
          · exact Or.inl ⟨T', nc', v', SA_trans sI x1, x2, fun o => okC _ _ (x3 o), by omega, x5, x6, okR _ x7, by omega⟩
          · exact Or.inr ⟨SA_FA sI x1, okC _ _ x2, okR _ x3⟩
        · have gR := good0 (show (F_X11_readItem Tr hv).1 105 4 ≠ 0 by rw [i1.1.2.1]; exact i1.1.1)
          obtain ⟨nr, rfl⟩ : ∃ n', nr = n' + 1 := ⟨nr - 1, by omega⟩
          have eC : (vl_X6_read nc).2 (F_X6_readItem Tc (p + 3 + 7 * j)) (p + 3 + 7 * j) (v + 1) = F_X6_readItem Tc (p + 3 + 7 * j) ∧ (0 < nc → (okl_X6_read nc).2 sz (F_X6_readItem Tc (p + 3 + 7 * j)) (p + 3 + 7 * j) (v + 1)) := by
            cases nc with
            | zero => exact ⟨rfl, fun z => absurd z (by decide)⟩
            | succ nc =>
              rw [vl_X6_read_s1, okl_X6_read_s1, if_neg i1.1.1, refuse_F i1.1.1, ite_self]
              exact ⟨rfl, fun _ => ⟨fun _ => trivial, fun _ => ⟨fun _ => trivial, fun z => absurd z i1.1.1⟩⟩⟩
          have m1 : 0 < m := by
            have := q2 k0
            omega
          rw [eC.1, vl_X11_readGrade_s3, if_pos gR, if_pos gR]
          refine Or.inr ⟨⟨i1.1, i1.2.1, fA hj i1.2.2.1, fH hj i1.2.2.2⟩, okC _ _ (eC.2 (by omega)), okR _ ?_⟩
          rw [okl_X11_readGrade_s3]
          exact ⟨fun _ => ⟨fun _ => trivial, fun z => absurd gR z⟩, fun z => absurd gR z⟩
