/-! e: single steps of both -/
def pos (T : tT) : Int := (T.1 4 3).toInt
theorem kw_inj {i j : Nat} (hi : i < 15) (hj : j < 15) (h : kw i = kw j) : i = j := by
  have : ∀ i ∈ List.range 15, ∀ j ∈ List.range 15, kw i = kw j → i = j := by decide
  exact this i (List.mem_range.mpr hi) j (List.mem_range.mpr hj) h
theorem nI200 {i j : Nat} (hi : i < 15) (hj : j < 15) (h : nI (200 + i) = nI (200 + j)) : i = j := by
  rw [teq, nI_toInt (by omega), nI_toInt (by omega)] at h
  omega
theorem isS_lt {c : Int32} (h : isS c) : c.toInt < 200 ∧ 40 ≤ c.toInt := by
  unfold isS at h
  rcases h with h | h | h | h | h | h | h | h | h | h | h <;> subst h <;> decide
theorem tk_is {N : Nat} {Tc Tr : tT} (h : TK N Tc Tr) {c : Int32} (hc : isS c) : (v_X11_is Tr c = 0 ↔ Tc.1 4 2 ≠ c) := by
  obtain ⟨pl, e, _, _, _, _, _, _, _, _, _, kr⟩ := h
  have cl := isS_lt hc
  have ne : ∀ (k v : Int32), k = v → (v.toInt < 40 ∨ 200 ≤ v.toInt) → k ≠ c := fun k v q w z => by
    rw [← q, z] at w
    omega
  unfold v_X11_is
  rcases kr with ⟨k1, k2⟩ | ⟨k1, k2⟩ | ⟨k1, k2, _⟩ | ⟨k1, k2, _⟩ | ⟨i, i1, k1, k2, _⟩ | ⟨k1, k2, k3⟩
  · rw [if_neg (by rw [k2]; decide)]
    exact ⟨fun _ => ne _ _ k1 (by decide), fun _ => rfl⟩
  · rw [if_neg (by rw [k2]; decide)]
    exact ⟨fun _ => ne _ _ k1 (by decide), fun _ => rfl⟩
  · rw [if_neg (by rw [k2]; decide)]
    exact ⟨fun _ => ne _ _ k1 (by decide), fun _ => rfl⟩
  · rw [if_neg (by rw [k2]; decide)]
    exact ⟨fun _ => ne _ _ k1 (by decide), fun _ => rfl⟩
  · rw [if_neg (by rw [k2]; decide)]
    exact ⟨fun _ => ne _ _ k1 (by rw [nI_toInt (by omega)]; omega), fun _ => rfl⟩
  · rw [if_pos k2, k3]
    by_cases q : Tc.1 4 2 = c
    · rw [if_pos q]
      exact ⟨fun w => absurd w (by decide), fun w => absurd q w⟩
    · rw [if_neg q]
      exact ⟨fun _ => q, fun _ => rfl⟩
theorem tk_word {N : Nat} {Tc Tr : tT} (h : TK N Tc Tr) {i : Nat} (hi : i < 15) : (v_X11_isWord Tr (kw i) = 0 ↔ Tc.1 4 2 ≠ nI (200 + i)) := by
  obtain ⟨pl, e, _, _, _, _, _, _, _, _, _, kr⟩ := h
  have ne : ∀ (k v : Int32), k = v → v.toInt < 200 → k ≠ nI (200 + i) := fun k v q w z => by
    rw [← q, z, nI_toInt (by omega)] at w
    omega
  unfold v_X11_isWord
  rcases kr with ⟨k1, k2⟩ | ⟨k1, k2⟩ | ⟨k1, k2, _⟩ | ⟨k1, k2, _⟩ | ⟨j, j1, k1, k2, k3⟩ | ⟨k1, k2, k3⟩
  · rw [if_neg (by rw [k2]; decide)]
    exact ⟨fun _ => ne _ _ k1 (by decide), fun _ => rfl⟩
  · rw [if_neg (by rw [k2]; decide)]
    exact ⟨fun _ => ne _ _ k1 (by decide), fun _ => rfl⟩
  · rw [if_neg (by rw [k2]; decide)]
    exact ⟨fun _ => ne _ _ k1 (by decide), fun _ => rfl⟩
  · rw [if_neg (by rw [k2]; decide)]
    exact ⟨fun _ => ne _ _ k1 (by decide), fun _ => rfl⟩
  · rw [if_pos k2, k3, k1]
    by_cases q : j = i
    · rw [if_pos (by rw [q])]
      exact ⟨fun w => absurd w (by decide), fun w => absurd (by rw [q]) w⟩
    · rw [if_neg (fun w => q (kw_inj j1 hi w))]
      exact ⟨fun _ => fun w => q (nI200 j1 hi w), fun _ => rfl⟩
  · rw [if_neg (by rw [k2]; decide)]
    exact ⟨fun _ => ne _ _ rfl (isS_lt k1).1, fun _ => rfl⟩
/-- the rank of a kind -/
def rk (k : Int32) : Int32 := if k = 43 then 5 else if k = 45 then 5 else if k = 60 then 4 else if k = 62 then 4 else if k = 61 then 4 else if k = 208 then 2 else if k = 207 then 1 else 0
theorem tk_rank {N : Nat} {Tc Tr : tT} (h : TK N Tc Tr) : v_X11_rankHere Tr = rk (Tc.1 4 2) := by
  have s : ∀ c, isS c → (v_X11_is Tr c = 0 ↔ Tc.1 4 2 ≠ c) := fun c hc => tk_is h hc
  have w8 := tk_word h (i := 8) (by decide)
  have w7 := tk_word h (i := 7) (by decide)
  rw [show kw 8 = 6385252 from rfl, show nI (200 + 8) = 208 from rfl] at w8
  rw [show kw 7 = 28530 from rfl, show nI (200 + 7) = 207 from rfl] at w7
  have a1 := s 43 (by unfold isS; decide)
  have a2 := s 45 (by unfold isS; decide)
  have a3 := s 60 (by unfold isS; decide)
  have a4 := s 62 (by unfold isS; decide)
  have a5 := s 61 (by unfold isS; decide)
  unfold v_X11_rankHere rk
  by_cases q1 : Tc.1 4 2 = 43
  · rw [if_pos q1, if_neg (fun w => a1.mp w q1)]
  rw [if_neg q1, if_pos (a1.mpr q1)]
  by_cases q2 : Tc.1 4 2 = 45
  · rw [if_pos q2, if_neg (fun w => a2.mp w q2)]
  rw [if_neg q2, if_pos (a2.mpr q2)]
  by_cases q3 : Tc.1 4 2 = 60
  · rw [if_pos q3, if_neg (fun w => a3.mp w q3)]
  rw [if_neg q3, if_pos (a3.mpr q3)]
  by_cases q4 : Tc.1 4 2 = 62
  · rw [if_pos q4, if_neg (fun w => a4.mp w q4)]
  rw [if_neg q4, if_pos (a4.mpr q4)]
  by_cases q5 : Tc.1 4 2 = 61
  · rw [if_pos q5, if_neg (fun w => a5.mp w q5)]
  rw [if_neg q5, if_pos (a5.mpr q5)]
  by_cases q6 : Tc.1 4 2 = 208
  · rw [if_pos q6, if_neg (fun w => w8.mp w q6)]
  rw [if_neg q6, if_pos (w8.mpr q6)]
  by_cases q7 : Tc.1 4 2 = 207
  · rw [if_pos q7, if_neg (fun w => w7.mp w q7)]
  rw [if_neg q7, if_pos (w7.mpr q7)]
/-- faults alike -/
def FL (Tc R : tT) : Prop := Tc.1 3 1 ≠ 0 ∧ R.1 105 4 = Tc.1 3 1 ∧ R.1 105 5 = Tc.1 3 2
theorem FL_SF {sz N p : Nat} {T T' R : tT} (h : FL T R) (s : SF sz N p T T') : FL T' R := by
  obtain ⟨a, b⟩ := s.2.2 h.1
  exact ⟨by rw [a]; exact h.1, by rw [a]; exact h.2.1, by rw [b]; exact h.2.2⟩
theorem fail_eq {T : tT} (h : T.1 3 1 = 0) (a b : Int32) : F_X6_fail T a b = tI (tI T 3 1 a) 3 2 b := by unfold F_X6_fail; rw [if_pos h]
theorem fails_eq {T : tT} (h : T.1 105 4 = 0) (a b : Int32) : F_X11_fails T a b = tI (tI T 105 4 a) 105 5 b := by unfold F_X11_fails; rw [if_pos (by rw [h]; decide)]
theorem FL_fail {Tc Tr : tT} (hc : Tc.1 3 1 = 0) (hr : Tr.1 105 4 = 0) {a b b' : Int32} (ha : a ≠ 0) (hb : b = b') : FL (F_X6_fail Tc a b) (F_X11_fails Tr a b') := by
  rw [fail_eq hc, fails_eq hr]
  refine ⟨?_, ?_, ?_⟩
  · rw [tI_off (fun w => by have := w.2; omega), tI_at]
    exact ha
  · rw [tI_off (fun w => by have := w.2; omega), tI_at, tI_off (fun w => by have := w.2; omega), tI_at]
  · rw [tI_at, tI_at, hb]
theorem tk_bad {N : Nat} {Tc Tr : tT} (h : TK N Tc Tr) : (Tc.1 4 2 = 1 ↔ Tr.1 105 8 = 1) := by
  obtain ⟨pl, e, _, _, _, _, _, _, _, _, _, kr⟩ := h
  rcases kr with ⟨k1, k2⟩ | ⟨k1, k2⟩ | ⟨k1, k2, _⟩ | ⟨k1, k2, _⟩ | ⟨j, j1, k1, k2, k3⟩ | ⟨k1, k2, k3⟩
  · rw [k1, k2]
  · rw [k1, k2]
  · rw [k1, k2]; decide
  · rw [k1, k2]; decide
  · rw [k2]
    refine ⟨fun w => ?_, fun w => absurd w (by decide)⟩
    rw [k1, teq, nI_toInt (by omega), show (1 : Int32).toInt = 1 from rfl] at w
    omega
  · rw [k2]
    refine ⟨fun w => ?_, fun w => absurd w (by decide)⟩
    have := (isS_lt k1).2
    rw [w, show (1 : Int32).toInt = 1 from rfl] at this
    omega
theorem FL_refuse {N : Nat} {Tc Tr : tT} (h : TK N Tc Tr) (hc : Tc.1 3 1 = 0) (hr : Tr.1 105 4 = 0) : FL (F_X6_refuse Tc) (F_X11_wrong Tr) := by
  have tb := tk_bad h
  obtain ⟨pl, e, _, _, h6, _⟩ := h
  unfold F_X6_refuse F_X11_wrong
  by_cases q : Tc.1 4 2 = 1
  · rw [if_pos q, if_pos (tb.mp q)]
    exact FL_fail hc hr (by decide) h6.symm
  · rw [if_neg q, if_neg (fun w => q (tb.mpr w))]
    exact FL_fail hc hr (by decide) h6.symm
theorem fr_fails {b : Nat} {T : tT} (a c : Int32) : fr (wRe b) T (F_X11_fails T a c) := by
  unfold F_X11_fails
  split
  · exact fr_I (by unfold wRe; rfl) (fr_I (by unfold wRe; rfl) fr_refl)
  · exact fr_refl
theorem fr_wrong {b : Nat} {T : tT} : fr (wRe b) T (F_X11_wrong T) := by
  unfold F_X11_wrong
  split <;> exact fr_fails _ _
section
variable {sz N p q b h : Nat} {mv : Int32} {m : Bool} {ls ps : Int32} {s f k dp ht : Nat} {l : List (Int32 × Int32)} {Tc Tr : tT}
/-- both go to the next token -/
theorem ER_next (g : gq p q) (he : ER sz N p q b h mv m ls ps s f k dp ht l Tc Tr) : ER sz N p q b h mv m ls ps s f k dp ht l (F_X9_next Tc) (F_X11_next Tr) ∧ fr w4 Tc (F_X9_next Tc) ∧ fr w5 Tr (F_X11_next Tr) ∧ ok_X11_next sz Tr ∧ pos Tc ≤ pos (F_X9_next Tc) ∧ (Tc.1 4 2 ≠ 0 → pos Tc + 1 ≤ pos (F_X9_next Tc)) ∧ (Tc.1 4 2 = 204 ∨ Tc.1 4 2 = 205 ∨ Tc.1 4 2 = 206 ∨ Tc.1 4 2 = 209 → pos Tc + 3 ≤ pos (F_X9_next Tc)) ∧ phi p (F_X9_next Tc) = phi p Tc + (pos (F_X9_next Tc) - pos Tc) := by
  obtain ⟨e1, e2, e3, ⟨e4, e4'⟩, e5, e6, e7, ⟨e8, e8'⟩, e9⟩ := he
  obtain ⟨pl, e, t1, t2, t3, t4, t5, t6, t7, t8, t9, t10⟩ := e3
  obtain ⟨⟨n1, n2, n3, n4⟩, n5, n6⟩ := e_tok (sz := sz) e1.1 t2 t6 t4
  obtain ⟨s1, s2⟩ := SF_next e2
  have c3 : ∀ i, (F_X9_next Tc).1 3 i = Tc.1 3 i := fun i => fr_i n2 (k := 3) (i := i) rfl
  have g1 := g.1
  have w4p : ∀ j i, 5 ≤ j → w4 j i = false := fun j i hj => by
    cases z : w4 j i with
    | false => rfl
    | true =>
      exfalso
      simp only [w4, wl, List.contains_iff_mem, List.mem_cons, List.not_mem_nil, Bool.or_eq_true, Prod.mk.injEq, or_false, false_or] at z
      omega
  have cp : (F_X9_next Tc).1 p 3 = Tc.1 p 3 := fr_i n2 (w4p p 3 (by omega))
  have cp2 : (F_X9_next Tc).1 (p + 2) = Tc.1 (p + 2) := fr_ri n2 (fun i => w4p (p + 2) i (by omega))
  have ph : phi p (F_X9_next Tc) = phi p Tc + (pos (F_X9_next Tc) - pos Tc) := by
    unfold phi pos
    rw [c3, cp]
    omega
  have mono : pos Tc ≤ pos (F_X9_next Tc) := by unfold pos; omega
  refine ⟨⟨S0_fr g e1 (w4_wE n2) (w5_wRe n3), s1.1, n1, ⟨by rw [c3]; exact e4, (fr_i n3 (k := 105) (i := 4) rfl).trans e4'⟩, by rw [c3, fr_i n3 (k := 105) (i := 13) rfl]; exact e5, ?_, e7, ⟨by rw [fr_i n3 (k := 105) (i := 37) rfl]; exact e8, by rw [fr_i n3 (k := 105) (i := 38) rfl]; exact e8'⟩, by rw [ph]; omega⟩, n2, n3, n6, mono, fun w => ?_, fun w => ?_, ph⟩
  · obtain ⟨l1, l2, l3, l4, l5, l6, l7⟩ := e6
    refine ⟨by rw [cp]; exact l1, by rw [cp2]; exact l2, by rw [fr_i n3 (k := 105) (i := 14) rfl]; exact l3, l4, ?_, l6, by rw [c3]; exact l7⟩
    rw [fr_ri n3 (k := 123) (fun _ => rfl), fr_ri n3 (k := 124) (fun _ => rfl)]
    exact l5
  · have := t8 w
    unfold pos
    omega
  · have := t9 w
    unfold pos
    omega
/-- a step is told by both -/
theorem ER_emit (g : gq p q) (hb : b < 5) (he : ER sz N p q b h mv m ls ps s f k dp ht l Tc Tr) {kk vv rv : Int32} {ht' : Nat} (h3 : 3 ≤ phi p Tc) (hk : 0 ≤ kk.toInt ∧ kk.toInt < 1024) (hv : 0 ≤ vv.toInt ∧ vv.toInt < 1048576) (hi : vI m ls ps kk vv) (hh : hts ht [(kk, vv)] = some ht') (hr : lfK kk = true → rv = vv) (hn : (lfN l : Int) + (if lfK kk = true then 1 else 0) ≤ (Tc.1 3 5).toInt) : ER sz N p q b h mv m ls ps s f k dp ht' (l ++ [(kk, vv)]) (F_X8_addCell Tc p kk vv) (F_X11_step Tr (rc kk) rv) ∧ fr (wE p) Tc (F_X8_addCell Tc p kk vv) ∧ fr (wRe b) Tr (F_X11_step Tr (rc kk) rv) ∧ ok_X11_step sz Tr (rc kk) rv ∧ kpC p Tc (F_X8_addCell Tc p kk vv) ∧ kpR b Tr (F_X11_step Tr (rc kk) rv) ∧ phi p (F_X8_addCell Tc p kk vv) = phi p Tc - 3 ∧ (∀ i, (F_X8_addCell Tc p kk vv).1 4 i = Tc.1 4 i) ∧ (∀ i, (F_X11_step Tr (rc kk) rv).1 129 i = Tr.1 129 i ∧ (F_X11_step Tr (rc kk) rv).1 130 i = Tr.1 130 i) := by
  obtain ⟨e1, e2, e3, ⟨e4, e4'⟩, e5, e6, e7, ⟨e8, e8'⟩, e9⟩ := he
  obtain ⟨l1, l2, l3, l4, l5, l6, l7⟩ := e6
  obtain ⟨s1, s2⟩ := SF_cell e2 kk vv
  have hbr := e1.2.1
  obtain ⟨u, hu, u7⟩ := e2.2.2.2.1
  obtain ⟨lv, hlv, lv1⟩ := e2.2.2.2.2.1
  have g1 := g.1
  have N14 := e2.1.2.1
  obtain ⟨pl, e, t1, t2, t3, t4, t5, t6, t7, t8, t9, t10⟩ := e3
  have u666 : u + 1 ≤ 667 := by
    have : phi p Tc = pl + 4 * lv - 3 * u := by
      unfold phi
      rw [t1, hlv, hu]
    omega
  have cc : ¬ (750 : Int32) ≤ Tc.1 p 3 := by rw [tle, show (750 : Int32).toInt = 750 from rfl]; omega
  have sl : s + l.length = u := by omega
  have e3' : (tI Tc (p + 2) u (kk <<< ((20 : Int32) &&& 31) ||| vv)).1 p 3 = Tc.1 p 3 := tI_off (fun w => by have := w.1; omega)
  have eC : F_X8_addCell Tc p kk vv = tI (tI Tc (p + 2) u (kk <<< ((20 : Int32) &&& 31) ||| vv)) p 3 (Tc.1 p 3 + 1) := by
    unfold F_X8_addCell
    rw [if_neg cc, tnN hu, e3']
  have z15 : (1500 : Int32).toInt = 1500 := rfl
  have m15 : ((1500 : Int32) * Tr.1 105 12).toInt = 1500 * b := by rw [tmul (by rw [z15]; omega) (by rw [z15]; omega), z15, hbr]
  have ix : ((1500 : Int32) * Tr.1 105 12 + Tr.1 105 14).toInt = (1500 * b + (f + l.length) : Nat) := by
    rw [tadd (by omega) (by omega)]
    omega
  have eR : F_X11_step Tr (rc kk) rv = tI (tI (tI Tr 123 (1500 * b + (f + l.length)) (rc kk)) 124 (1500 * b + (f + l.length)) rv) 105 14 (Tr.1 105 14 + 1) := by
    unfold F_X11_step
    rw [tnN ix]
  have dv : (1500 * b + (f + l.length)) / 1500 = b := by omega
  have w123 : wRe b 123 (1500 * b + (f + l.length)) = true := by
    unfold wRe
    rw [dv]
    simp
  have w124 : wRe b 124 (1500 * b + (f + l.length)) = true := by
    unfold wRe
    rw [dv]
    simp
  have fR : fr (wRe b) Tr (F_X11_step Tr (rc kk) rv) := by
    rw [eR]
    exact fr_I (by unfold wRe; rfl) (fr_I w124 (fr_I w123 fr_refl))
  have c4 : ∀ i, (F_X8_addCell Tc p kk vv).1 4 i = Tc.1 4 i := fun i => by
    rw [eC, tI_off (fun w => by have := w.1; omega), tI_off (fun w => by have := w.1; omega)]
  have c3 : ∀ i, (F_X8_addCell Tc p kk vv).1 3 i = Tc.1 3 i := fun i => by
    rw [eC, tI_off (fun w => by have := w.1; omega), tI_off (fun w => by have := w.1; omega)]
  have cj : (F_X8_addCell Tc p kk vv).2.1 4 5 = Tc.2.1 4 5 := by rw [eC]; rfl
  have cp : ((F_X8_addCell Tc p kk vv).1 p 3).toInt = u + 1 := by
    rw [eC, tI_at, tinc' (by omega)]
    omega
  have cp2 : ∀ i, i ≠ u → (F_X8_addCell Tc p kk vv).1 (p + 2) i = Tc.1 (p + 2) i := fun i hi => by
    rw [eC, tI_off (fun w => by have := w.1; omega), tI_off (fun w => hi w.2)]
  have cpu : (F_X8_addCell Tc p kk vv).1 (p + 2) u = kk <<< ((20 : Int32) &&& 31) ||| vv := by
    rw [eC, tI_off (fun w => by have := w.1; omega), tI_at]
  obtain ⟨en1, en2⟩ := enc' hk.1 hk.2 hv.1 hv.2
  have r105 : ∀ i, i ≠ 14 → (F_X11_step Tr (rc kk) rv).1 105 i = Tr.1 105 i := fun i hi => by
    rw [eR, tI_off (fun w => hi w.2), tI_off (fun w => by have := w.1; omega), tI_off (fun w => by have := w.1; omega)]
  have rj : (F_X11_step Tr (rc kk) rv).2.1 105 10 = Tr.2.1 105 10 := by rw [eR]; rfl
  have r107 : (F_X11_step Tr (rc kk) rv).1 107 = Tr.1 107 := fr_ri fR (fun i => wRe_off (by omega) (by omega))
  have r14 : ((F_X11_step Tr (rc kk) rv).1 105 14).toInt = (f + l.length + 1 : Nat) := by
    rw [eR, tI_at, tinc' (by omega)]
    omega
  have r123 : ∀ i, i ≠ 1500 * b + (f + l.length) → (F_X11_step Tr (rc kk) rv).1 123 i = Tr.1 123 i ∧ (F_X11_step Tr (rc kk) rv).1 124 i = Tr.1 124 i := fun i hi => by
    rw [eR]
    refine ⟨?_, ?_⟩
    · rw [tI_off (fun w => by have := w.1; omega), tI_off (fun w => by have := w.1; omega), tI_off (fun w => hi w.2)]
    · rw [tI_off (fun w => by have := w.1; omega), tI_off (fun w => hi w.2), tI_off (fun w => by have := w.1; omega)]
  have r123u : (F_X11_step Tr (rc kk) rv).1 123 (1500 * b + (f + l.length)) = rc kk ∧ (F_X11_step Tr (rc kk) rv).1 124 (1500 * b + (f + l.length)) = rv := by
    rw [eR]
    refine ⟨?_, ?_⟩
    · rw [tI_off (fun w => by have := w.1; omega), tI_off (fun w => by have := w.1; omega), tI_at]
    · rw [tI_off (fun w => by have := w.1; omega), tI_at]
  have ph : phi p (F_X8_addCell Tc p kk vv) = phi p Tc - 3 := by
    unfold phi
    rw [c4, c3, cp, hu]
    omega
  refine ⟨⟨S0_fr g e1 s1.2.1 fR, s1.1, ?_, ⟨by rw [c3]; exact e4, by rw [r105 4 (by decide)]; exact e4'⟩, by rw [c3, r105 13 (by decide)]; exact e5, ?_, ?_, ⟨by rw [r105 37 (by decide)]; exact e8, by rw [r105 38 (by decide)]; exact e8'⟩, by rw [ph]; omega⟩, s1.2.1, fR, ?_, ?_, ?_, ph, c4, fun i => ?_⟩
  · refine ⟨pl, e, by rw [c4]; exact t1, by rw [c4]; exact t2, by rw [c4, r105 6 (by decide)]; exact t3, by rw [c4, r105 7 (by decide)]; exact t4, t5, t6, by rw [c4]; exact t7, by rw [c4]; exact t8, by rw [c4]; exact t9, ?_⟩
    rw [c4, c4, cj, rj, r105 8 (by decide), r105 9 (by decide), r105 6 (by decide)]
    have sg : v_X11_sign (F_X11_step Tr (rc kk) rv) (Tr.1 105 6) = v_X11_sign Tr (Tr.1 105 6) := by
      unfold v_X11_sign
      rw [r105 3 (by decide), r107]
    rw [sg]
    exact t10
  · refine ⟨by rw [cp, List.length_append]; show (u : Int) + 1 = _; rw [List.length_singleton]; omega, ?_, by rw [r14, List.length_append, List.length_singleton]; omega, l4, ?_, ?_, ?_⟩
    · exact Cs_app (Cs_eq (fun i i1 i2 => cp2 i (by omega)) l2) (by rw [sl, cpu]; exact en1) (by rw [sl, cpu]; exact en2)
    · refine Rs_app (Rs_eq (fun i i1 i2 => r123 i (by omega)) l5) ?_ ?_
      · rw [Nat.add_assoc]
        exact r123u.1
      · intro w
        rw [Nat.add_assoc, r123u.2]
        exact hr w
    · intro x hx
      rw [List.mem_append, List.mem_singleton] at hx
      rcases hx with hx | hx
      · exact l6 x hx
      · rw [hx]
        exact hi
    · rw [lfN_app, c3]
      by_cases w : lfK kk = true
      · rw [if_pos w] at hn
        rw [if_pos w]
        omega
      · rw [if_neg w] at hn
        rw [if_neg w]
        omega
  · rw [hts_app, e7]
    exact hh
  · refine ⟨?_, ?_⟩ <;> rw [vp_in_iff] <;> omega
  · exact ⟨by rw [cp, hu]; omega, fun i hi => cp2 i (by omega)⟩
  · exact ⟨by rw [r14, l3]; omega, fun i hi => r123 i (by omega)⟩
  · rw [eR]
    refine ⟨?_, ?_⟩
    · rw [tI_off (fun w => by have := w.1; omega), tI_off (fun w => by have := w.1; omega), tI_off (fun w => by have := w.1; omega)]
    · rw [tI_off (fun w => by have := w.1; omega), tI_off (fun w => by have := w.1; omega), tI_off (fun w => by have := w.1; omega)]
end
