/-! the relation of texts behind a syllabus -/
theorem tgr_up {sz sz' g : Nat} (h : sz ≤ sz') (t : tgr sz g) : tgr sz' g := by
  unfold tgr at *
  refine ⟨t.1, by omega, t.2.2⟩
theorem tsy_up {sz sz' p : Nat} (h : sz ≤ sz') (t : tsy sz p) : tsy sz' p := by
  obtain ⟨t1, t2, t3, t4, t5, t6⟩ := t
  exact ⟨t1, by omega, t3, t4, t5, fun i hi => tgr_up h (t6 i hi)⟩
theorem wH_o1 {b k i : Nat} (h0 : k ≠ 105 ∧ k ≠ 123 ∧ k ≠ 124 ∧ k ≠ 129 ∧ k ≠ 130) (h : ¬ ((k = 125 ∧ i = b) ∨ ((k = 110 ∨ k = 111 ∨ k = 113 ∨ k = 115 ∨ k = 116 ∨ k = 119 ∨ k = 120 ∨ k = 121 ∨ k = 122) ∧ i / 8 = b) ∨ ((k = 112 ∨ k = 114 ∨ k = 126 ∨ k = 128) ∧ i / 48 = b) ∨ (k = 127 ∧ i / 576 = b) ∨ ((k = 117 ∨ k = 118) ∧ i / 64 = b))) : wH b k i = false := by
  unfold wH
  rw [wRe_off (by omega) (by omega), decide_eq_false h]
  rfl
theorem wH_o2 {b k i : Nat} (h0 : k = 123 ∨ k = 124) (h : i / 1500 ≠ b) : wH b k i = false := by
  unfold wH wRe
  rw [decide_eq_false (by omega)]
  have hb : (i / 1500 == b) = false := beq_false_of_ne h
  rcases h0 with h0 | h0 <;> rw [h0, hb] <;> rfl
theorem GB_b {T Z : tT} {p b g h : Nat} (hp : Z.1 p = T.1 p) (hp2 : Z.1 (p + 2) = T.1 (p + 2)) (ec : eqC g T Z) (er : eqR h T Z) (rs : ∀ i, 1500 * b ≤ i → i < 1500 * b + 1500 → Z.1 123 i = T.1 123 i ∧ Z.1 124 i = T.1 124 i) (hG : GB T p b g h) : GB Z p b g h := by
  obtain ⟨l0, p0, m0, mi, l, q, m, r1, r2⟩ := hG
  obtain ⟨⟨a1, a2, a3, a4, a5, a6, a7, a8⟩, b1, b2, b3⟩ := er
  have c : ∀ i, Z.1 g i = T.1 g i := fun i => (eqC_i ec 0 i (by decide)).1
  have gl : GL Z Z g h := GL_up (Tc := T) (Tr := T) (c 1) (fun l _ => ⟨(eqC_i ec 1 l (by decide)).2, (eqC_i ec 2 l (by decide)).1⟩) (fun l k _ _ => (eqC_i ec 3 _ (by decide)).2) a1 (fun l hl => ⟨(b1 l hl).1, (b1 l hl).2.2.1⟩) b2 ⟨l0, l⟩
  have gp : GP2 Z Z g h := GP2_up (Tc := T) (Tr := T) (c 2) (fun l _ => ⟨(eqC_i ec 4 l (by decide)).2, (eqC_i ec 5 l (by decide)).1⟩) a2 (fun l hl => ⟨(b1 l hl).2.1, (b1 l hl).2.2.2⟩) ⟨p0, q⟩
  have rul : ∀ {m : Bool} {ls ps a c d : Int32}, Rul T p b m ls ps a c d → Rul Z p b m ls ps a c d := by
    rintro m ls ps a c d ⟨l, s, f, x1, x2, x3, x4, x5, x6, x7, x8, x9, x10, x11⟩
    unfold Rul
    rw [hp, hp2]
    exact ⟨l, s, f, x1, x2, x3, x4, x5, x6, x7, Rs_eq (fun i i1 i2 => rs i (by omega) (by omega)) x8, x9, x10, x11⟩
  unfold GB
  refine ⟨gl.1, gp.1, by rw [c 3, a3]; exact m0, by rw [c 4, a4]; exact mi, gl.2, gp.2, fun k hk => ?_, ?_, ?_⟩
  · rw [c 3] at hk
    have k8 := i8 m0.2.2 hk
    rw [c 1, c 2, (eqC_i ec 6 k (by decide)).1, (b3 k k8).1, (b3 k k8).2]
    exact rul (m k hk)
  · rw [c 1, c 2, c 5, a5, a6]
    rcases r1 with r1 | ⟨y1, y2, y3⟩
    · exact Or.inl r1
    · exact Or.inr ⟨y1, y2, rul y3⟩
  · rw [c 1, c 2, c 6, a7, a8]
    rcases r2 with r2 | ⟨y1, y2, y3⟩
    · exact Or.inl r2
    · exact Or.inr ⟨y1, y2, rul y3⟩
/-- the text of another term -/
theorem TX_b {T Z : tT} {p b b' : Nat} (hbb : b' ≠ b) (c : ∀ k, p ≤ k → k < p + 59 → Z.1 k = T.1 k ∧ Z.2.1 k = T.2.1 k) (zb : ∀ k i, 110 ≤ k → k ≤ 128 → wH b k i = false → Z.1 k i = T.1 k i ∧ Z.2.1 k i = T.2.1 k i) (h : TX T p b') : TX Z p b' := by
  obtain ⟨h1, h2, h3⟩ := h
  unfold TX
  rw [(c p (by omega) (by omega)).1, (zb 125 b' (by decide) (by decide) (wH_o1 (by omega) (by omega))).1]
  refine ⟨h1, h2, fun j hj => ?_⟩
  obtain ⟨x1, x2⟩ := h3 j hj
  unfold GX
  rw [(c (p + 3 + 7 * j) (by omega) (by omega)).1, (zb 110 (8 * b' + j) (by decide) (by decide) (wH_o1 (by omega) (by omega))).1]
  refine ⟨x1, fun z => GB_b (c p (by omega) (by omega)).1 (c (p + 2) (by omega) (by omega)).1 (fun o ho => c _ (by omega) (by omega)) ?_ (fun i i1 i2 => ⟨(zb 123 i (by decide) (by decide) (wH_o2 (by omega) (by omega))).1, (zb 124 i (by decide) (by decide) (wH_o2 (by omega) (by omega))).1⟩) (x2 z)⟩
  have r : ∀ k i, 110 ≤ k → k ≤ 128 → wH b k i = false → Z.1 k i = T.1 k i := fun k i h1 h2 h3 => (zb k i h1 h2 h3).1
  have rj : ∀ k i, 110 ≤ k → k ≤ 128 → wH b k i = false → Z.2.1 k i = T.2.1 k i := fun k i h1 h2 h3 => (zb k i h1 h2 h3).2
  refine ⟨⟨?_, ?_, ?_, ?_, ?_, ?_, ?_, ?_⟩, fun l hl => ⟨?_, ?_, ?_, ?_⟩, fun l k hl hk => ?_, fun m hm => ⟨?_, ?_⟩⟩ <;> first | exact r _ _ (by decide) (by decide) (wH_o1 (by omega) (by omega)) | exact rj _ _ (by decide) (by decide) (wH_o1 (by omega) (by omega))
/-- the text just read -/
theorem TX_n {C R Z : tT} {p b : Nat} (zC : ∀ k, p ≤ k → k < p + 59 → Z.1 k = C.1 k ∧ Z.2.1 k = C.2.1 k) (zR : ∀ k, 110 ≤ k → k ≤ 128 → Z.1 k = R.1 k ∧ Z.2.1 k = R.2.1 k) (hGA : GA C R p b) (hu : 0 ≤ C.1 p 3 ∧ C.1 p 3 ≤ 750) : TX Z p b := by
  obtain ⟨g1, g2, g3⟩ := hGA
  unfold TX
  rw [(zC p (by omega) (by omega)).1, (zR 125 (by decide) (by decide)).1]
  refine ⟨g1, hu, fun j hj => ?_⟩
  obtain ⟨x1, x2, x3⟩ := g3 j hj
  unfold GX
  rw [(zC (p + 3 + 7 * j) (by omega) (by omega)).1, (zR 110 (by decide) (by decide)).1]
  exact ⟨x1, fun z => GB2_GB hj zC zR (x3 z)⟩
theorem ITx_new {sz sz' p b x q' : Nat} {T C R Z : tT} (hI : ITx sz T) (hp : T.2.2 3 3 = some p) (hb : (T.1 105 12).toNatClampNeg = b) (x4 : x < 4) (hszs : sz ≤ sz') (h161 : 161 ≤ sz' ∧ ∃ k, sz' = 161 + 59 * k) (zC : ∀ k, p ≤ k → k < p + 59 → Z.1 k = C.1 k ∧ Z.2.1 k = C.2.1 k) (zR : ∀ k, 110 ≤ k → k ≤ 128 → Z.1 k = R.1 k ∧ Z.2.1 k = R.2.1 k) (zP : ∀ j, j < 8 → Z.2.2 (p + 1) j = some (p + 3 + 7 * j)) (hGA : GA C R p b) (hu : 0 ≤ C.1 p 3 ∧ C.1 p 3 ≤ 750) (zo : ∀ k, (6 ≤ k ∧ k < 65) ∨ (161 ≤ k ∧ k < sz) → ¬ (p ≤ k ∧ k < p + 59) → Z.1 k = T.1 k ∧ Z.2.1 k = T.2.1 k ∧ Z.2.2 k = T.2.2 k) (zb : ∀ k i, 110 ≤ k → k ≤ 128 → wH b k i = false → Z.1 k i = T.1 k i ∧ Z.2.1 k i = T.2.1 k i) (z108x : Z.1 108 x = T.1 105 12) (z108 : ∀ t, t < 4 → t ≠ x → Z.1 108 t = T.1 108 t) (z12 : Z.1 105 12 = T.1 108 x) (z109x : Z.1 109 x = 1) (z109 : ∀ t, t < 4 → t ≠ x → Z.1 109 t = T.1 109 t) (z65x : Z.2.2 65 x = some p) (z65 : ∀ t, t < 4 → t ≠ x → Z.2.2 65 t = T.2.2 65 t) (z33 : Z.2.2 3 3 = some q') (hq : spos sz' Z q') (qp : q' ≠ p) (qt : ∀ t, t < 4 → t ≠ x → T.2.2 65 t ≠ some q') (hz : nz Z sz') (zk : ∀ i, i < 15 → Z.2.1 1 i = T.2.1 1 i) : ITx sz' Z := by
  obtain ⟨⟨sp, e1, e2⟩, a2, a3, a4, a5, a6, a7, a8, a9⟩ := hI
  rw [hp] at e1
  cases e1
  have ne : ∀ t pt, t < 4 → T.2.2 65 t = some pt → pt ≠ p := fun t pt ht h w => a3 t ht (by rw [h, hp, w])
  refine ⟨⟨q', z33, hq⟩, fun t ht => ?_, fun t ht => ?_, fun t u pt ht hu' htu h1 h2 => ?_, fun t ht => ?_, ?_, fun t u ht hu' htu => ?_, hz, h161.1, h161.2, fun i hi => by rw [zk i hi]; exact a9.2.2 i hi⟩
  · by_cases c : t = x
    · rw [c]
      refine Or.inr ⟨p, z65x, z109x, ⟨tsy_up hszs e2.1, e2.2.1, zP⟩, ?_⟩
      rw [z108x, hb]
      exact TX_n zC zR hGA hu
    · rw [z65 t ht c, z109 t ht c, z108 t ht c]
      rcases a2 t ht with w | ⟨pt, w1, w2, w3, w4'⟩
      · exact Or.inl w
      · have np := ne t pt ht w1
        have dis : ∀ k, pt ≤ k → k < pt + 59 → Z.1 k = T.1 k ∧ Z.2.1 k = T.2.1 k ∧ Z.2.2 k = T.2.2 k := fun k k1 k2 => by
          have hs := w3.1.2.1
          refine zo k ?_ ?_
          · rcases w3.2.1 with r | ⟨r, hr⟩ <;> omega
          · rcases w3.2.1 with r | ⟨r, hr⟩ <;> rcases e2.2.1 with s | ⟨s, hs'⟩ <;> omega
        have bne : (T.1 108 t).toNatClampNeg ≠ b := fun w => by
          obtain ⟨y1, y2, y3⟩ := a5 t ht
          apply y3
          have y4 := a6.1
          rw [tle, show (0 : Int32).toInt = 0 from rfl] at y1 y4
          rw [teq]
          have q1 : (T.1 108 t).toInt = ((T.1 108 t).toInt.toNat : Nat) := by omega
          have q2 : (T.1 105 12).toInt = ((T.1 105 12).toInt.toNat : Nat) := by omega
          have r1 := tnN q1
          have r2 := tnN q2
          omega
        refine Or.inr ⟨pt, w1, w2, ⟨tsy_up hszs w3.1, w3.2.1, fun j hj => ?_⟩, TX_b bne (fun k k1 k2 => ⟨(dis k k1 k2).1, (dis k k1 k2).2.1⟩) zb w4'⟩
        rw [(dis (pt + 1) (by omega) (by omega)).2.2]
        exact w3.2.2 j hj
  · rw [z33]
    by_cases c : t = x
    · rw [c, z65x]
      intro w
      cases w
      exact qp rfl
    · rw [z65 t ht c]
      exact qt t ht c
  · by_cases c : t = x
    · rw [c, z65x] at h1
      cases h1
      rw [z65 u hu' (by omega)] at h2
      exact ne u p hu' h2 rfl
    · rw [z65 t ht c] at h1
      by_cases d : u = x
      · rw [d, z65x] at h2
        cases h2
        exact ne t p ht h1 rfl
      · rw [z65 u hu' d] at h2
        exact a4 t u pt ht hu' htu h1 h2
  · rw [z12]
    by_cases c : t = x
    · rw [c, z108x]
      exact ⟨a6.1, a6.2, fun w => (a5 x x4).2.2 w.symm⟩
    · rw [z108 t ht c]
      exact ⟨(a5 t ht).1, (a5 t ht).2.1, a7 t x ht x4 c⟩
  · rw [z12]
    exact ⟨(a5 x x4).1, (a5 x x4).2.1⟩
  · by_cases c : t = x
    · rw [c, z108x, z108 u hu' (by omega)]
      exact fun w => (a5 u hu').2.2 w.symm
    · rw [z108 t ht c]
      by_cases d : u = x
      · rw [d, z108x]
        exact (a5 t ht).2.2
      · rw [z108 u hu' d]
        exact a7 t u ht hu' htu
