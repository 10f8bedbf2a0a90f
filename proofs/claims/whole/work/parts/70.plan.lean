/-! the class's planner: whole -/
theorem sg_tail {f : Nat → Int} {n : Nat} : ∀ (m : Nat), n ≤ m → (∀ i, n ≤ i → i < m → f i = 0) → sg m f = sg n f
  | 0, h, _ => by
    have : n = 0 := by omega
    subst this
    rfl
  | m + 1, h, hz => by
    by_cases c : n = m + 1
    · subst c; rfl
    · show sg m f + f m = sg n f
      rw [sg_tail m (by omega) (fun i i1 i2 => hz i i1 (by omega)), hz m (by omega) (by omega)]
      omega
theorem grp {T : tT} {S : Nat} {o : Nat → Nat} (hO : Ord T S o) {k : Nat} (hk : k < S) (hb : ∀ q, q < k → dy T (o q) ≠ dy T (o k)) : ∃ pb, k < pb ∧ pb ≤ S ∧ ∀ q, q < S → (dy T (o q) = dy T (o k) ↔ k ≤ q ∧ q < pb) := by
  have h : ∀ (r j : Nat), j + r = S → k < j → (∀ q, k ≤ q → q < j → dy T (o q) = dy T (o k)) → ∃ pb, k < pb ∧ pb ≤ S ∧ ∀ q, q < S → (dy T (o q) = dy T (o k) ↔ k ≤ q ∧ q < pb) := by
    intro r
    induction r with
    | zero =>
      intro j hj kj hq
      refine ⟨j, kj, by omega, fun q qS => ⟨fun e => ⟨?_, by omega⟩, fun e => hq q e.1 e.2⟩⟩
      rcases Nat.lt_or_ge q k with z | z
      · exact absurd e (hb q z)
      · exact z
    | succ r ih =>
      intro j hj kj hq
      by_cases c : dy T (o j) = dy T (o k)
      · exact ih (j + 1) (by omega) (by omega) (fun q q1 q2 => by
          by_cases z : q = j
          · rw [z]; exact c
          · exact hq q q1 (by omega))
      · refine ⟨j, kj, by omega, fun q qS => ⟨fun e => ⟨?_, ?_⟩, fun e => hq q e.1 e.2⟩⟩
        · rcases Nat.lt_or_ge q k with z | z
          · exact absurd e (hb q z)
          · exact z
        · rcases Nat.lt_or_ge q j with z | z
          · exact z
          · exfalso
            have a1 := hO.2.2.2 k j (by omega) (by omega)
            have a2 := hO.2.2.2 j q z qS
            omega
  exact h (S - (k + 1)) (k + 1) (by omega) (by omega) (fun q q1 q2 => by rw [show q = k by omega])
section
variable {T : tT} {S E : Nat} {o : Nat → Nat} {k pb : Nat}
theorem EX_Vg (hO : Ord T S o) (pbS : pb ≤ S) (hd : ∀ q, q < S → (dy T (o q) = dy T (o k) ↔ k ≤ q ∧ q < pb)) (f h : Nat → Nat) : EX T E o k pb f k h ↔ Vg T S E (dy T (o k)) h := by
  constructor
  · rintro ⟨_, x2⟩ s hs ds
    obtain ⟨q, q1, q2⟩ := hO.2.1 s hs
    subst q2
    obtain ⟨qk, qp⟩ := (hd q q1).mp ds
    obtain ⟨y1, y2, y3⟩ := x2 q qk qp
    refine ⟨y1, y2, fun t ht e dt => ?_⟩
    obtain ⟨q', z1, z2⟩ := hO.2.1 t (by omega)
    subst z2
    obtain ⟨rk, rp⟩ := (hd q' z1).mp (by omega)
    rcases Nat.lt_trichotomy q' q with c | c | c
    · exact y3 q' rk c e
    · subst c; omega
    · exact (x2 q' rk rp).2.2 q qk c e.symm
  · intro hv
    refine ⟨fun q q1 q2 => by omega, fun q q1 q2 => ?_⟩
    have qS : q < S := by omega
    obtain ⟨y1, y2, y3⟩ := hv (o q) (hO.1 q qS) ((hd q qS).mpr ⟨q1, q2⟩)
    refine ⟨y1, y2, fun q' z1 z2 e => ?_⟩
    have q'S : q' < S := by omega
    have d1 := (hd q qS).mpr ⟨q1, q2⟩
    have d2 := (hd q' q'S).mpr ⟨z1, by omega⟩
    rcases Nat.lt_trichotomy (o q') (o q) with c | c | c
    · exact y3 (o q') c e (by omega)
    · have := hO.2.2.1 q' q q'S qS c
      omega
    · exact (hv (o q') (hO.1 q' q'S) d2).2.2 (o q) c e.symm (by omega)
theorem rpP_rep (hO : Ord T S o) (pbS : pb ≤ S) (hd : ∀ q, q < S → (dy T (o q) = dy T (o k) ↔ k ≤ q ∧ q < pb)) {h : Nat → Nat} {p : Int32} : rpP T E o k h pb p ↔ rep T S E p h (dy T (o k)) := by
  constructor
  · intro r x hx
    rcases r x hx with ⟨q, q1, q2, q3, q4⟩ | ⟨q1, q2⟩
    · exact Or.inl ⟨o q, hO.1 q (by omega), (hd q (by omega)).mpr ⟨q1, q2⟩, q3, q4⟩
    · refine Or.inr ⟨fun s hs ds => ?_, q2⟩
      obtain ⟨q, z1, z2⟩ := hO.2.1 s hs
      subst z2
      obtain ⟨y1, y2⟩ := (hd q z1).mp ds
      exact q1 q y1 y2
  · intro r x hx
    rcases r x hx with ⟨s, s1, s2, s3, s4⟩ | ⟨s1, s2⟩
    · obtain ⟨q, z1, z2⟩ := hO.2.1 s s1
      subst z2
      obtain ⟨y1, y2⟩ := (hd q z1).mp s2
      exact Or.inl ⟨q, y1, y2, s3, s4⟩
    · exact Or.inr ⟨fun q q1 q2 => s1 (o q) (hO.1 q (by omega)) ((hd q (by omega)).mpr ⟨q1, q2⟩), s2⟩
theorem csP_gcs (hO : Ord T S o) (pbS : pb ≤ S) (hd : ∀ q, q < S → (dy T (o q) = dy T (o k) ↔ k ≤ q ∧ q < pb)) {h : Nat → Nat} : csP T o k h pb = gcs T S (dy T (o k)) h := by
  unfold gcs csP
  rw [← sg_perm hO (fun s => if dy T s = dy T (o k) then kst T (h s) s else 0)]
  rw [sg_tail (n := pb) S pbS]
  · apply sg_cg
    intro q hq
    try dsimp only
    by_cases c : k ≤ q
    · rw [if_pos c, if_pos ((hd q (by omega)).mpr ⟨c, hq⟩)]
    · rw [if_neg c, if_neg (fun w => c ((hd q (by omega)).mp w).1)]
  · intro i i1 i2
    exact if_neg (fun w => by have := ((hd i i2).mp w).2; omega)
end
/-- the plan: none, or the first of the best -/
def wPc : Nat → Nat → Bool := wl [86, 87, 88, 89, 90, 91, 92] [(85, 3), (85, 4), (85, 5), (85, 6), (85, 7), (85, 8)]
theorem wPc_of {T T' : tT} (f : fr wP T T') : fr wPc T T' := fr_mono (A := [87, 88, 89, 90, 91, 92]) (B := [(85, 3), (85, 4), (85, 5), (85, 6), (85, 7), (85, 8)]) (A' := [86, 87, 88, 89, 90, 91, 92]) (B' := [(85, 3), (85, 4), (85, 5), (85, 6), (85, 7), (85, 8)]) rfl f
def PQ (T0 : tT) (S E : Nat) (r : Int32 × tT) : Prop := fr wPc T0 r.2 ∧ (∃ a b e g, PL r.2 a b e g) ∧ (((∀ f, ¬ VA T0 S E f) ∧ r.1 = -2 ∧ r.2.1 86 = T0.1 86) ∨ ∃ f, opt T0 S E f ∧ r.1.toInt = WA T0 S E f ∧ (∀ s, s < S → r.2.1 86 s = nI (f s)) ∧ ∀ s, S ≤ s → r.2.1 86 s = T0.1 86 s)
theorem VA_Vd {T : tT} {S E : Nat} {D : Int} {f : Nat → Nat} (hD : ∀ s, s < S → dy T s < D) : VA T S E f ↔ Vd T S E D f := ⟨fun h s hs _ => h s hs, fun h s hs => h s hs (hD s hs)⟩
theorem wth_opt {T : tT} {S E : Nat} (S9 : S ≤ 9) (E5 : E ≤ 5) {D : Int} (hD : ∀ s, s < S → dy T s < D) {f : Nat → Nat} (hf : Vd T S E D f) (hm : ∀ f', Vd T S E D f' → wth T S D f ≤ wth T S D f') : opt T S E f := by
  have ce : ∀ h, CB T S D h = sg S (fun t => (h t : Int) * p8 t) := fun h => by
    unfold CB
    exact sg_cg S (fun s hs => if_pos (hD s hs))
  have d7 : ∀ h, Vd T S E D h → ∀ t, t < S → h t ≤ 7 := fun h hh t ht => by
    have := (hh t ht (hD t ht)).1
    omega
  refine ⟨(VA_Vd hD).mpr hf, fun f' hf' => ?_⟩
  have hv' := (VA_Vd hD).mp hf'
  have le := hm f' hv'
  have e1 := WA_WB (E := E) hD (fun s hs => (hf s hs (hD s hs)).1)
  have e2 := WA_WB (E := E) hD (fun s hs => (hv' s hs (hD s hs)).1)
  unfold wth at le
  rw [ce, ce, ← e1, ← e2] at le
  have r1 := dg_rg S9 (d7 f hf)
  have r2 := dg_rg S9 (d7 f' hv')
  refine ⟨by omega, fun we s hs hp => ?_⟩
  apply Classical.byContradiction
  intro lt
  have := dg_lex (a := f') (b := f) hs S9 (d7 f' hv') (d7 f hf) (fun t ht => (hp t ht).symm) (by omega)
  omega
/-- the end of the plan -/
theorem p_end {sz : Nat} (hsz : 161 ≤ sz) {T0 : tT} {S E : Nat} (hC : ICi T0) (hS : (T0.1 79 2).toInt = S) (S9 : S ≤ 9) (E5 : E ≤ 5) {T : tT} {a b e g c0 : Nat} {D : Int} (fT : fr wP T0 T) (hP : PL T a b e g) (h0 : (T.1 85 3).toInt = c0) (c1 : c0 ≤ 120) (hI : INVw T0 S E D (T.2.1 e) c0) (hD : ∀ s, s < S → dy T0 s < D) (n : Nat) {v : Int32} (hv : T0.1 79 2 ≤ v) : PQ T0 S E (vl_X7_plan (n + 1) T v) ∧ okl_X7_plan (n + 1) sz T v := by
  have w3 : T.1 79 2 = T0.1 79 2 := fr_i fT (k := 79) (i := 2) rfl
  have f86 : T.1 86 = T0.1 86 := fr_ri fT (k := 86) (fun _ => rfl)
  have cc : T.1 79 2 ≤ v := by rw [w3]; exact hv
  by_cases z : c0 = 0
  · have zz : T.1 85 3 = 0 := by rw [teq, h0, z]; rfl
    rw [vl_X7_plan_s, if_pos cc, if_pos zz]
    simp only [okl_X7_plan]
    refine ⟨⟨wPc_of fT, ⟨a, b, e, g, hP⟩, Or.inl ⟨fun f hf => ?_, rfl, f86⟩⟩, fun _ => ⟨fun w => absurd zz w, fun _ => trivial⟩, fun w => absurd cc w⟩
    obtain ⟨i, i1, _⟩ := hI.2 f ((VA_Vd hD).mp hf)
    omega
  · have zz : ¬ T.1 85 3 = 0 := by rw [teq, h0, show (0 : Int32).toInt = 0 from rfl]; omega
    obtain ⟨⟨k1, k2, k3, k4, k5, k6⟩, k7⟩ := e_home hsz hP h0 c1
    obtain ⟨j, j1, j2⟩ := k5 (by omega)
    obtain ⟨f, f1, f2⟩ := hI.1 j j1
    have mn : ∀ f', Vd T0 S E D f' → wth T0 S D f ≤ wth T0 S D f' := fun f' hf' => by
      obtain ⟨i, i1, i2⟩ := hI.2 f' hf'
      have := k6 i i1
      rw [j2] at this
      omega
    have op := wth_opt S9 E5 hD f1 mn
    have te : tar sz e 1 120 := tar_o hsz (by have := k1.2.2.2.2.2; omega)
    have i0 : vp_in (0 : Int32) 120 := by rw [vp_in_iff, show (0 : Int32).toInt = 0 from rfl]; omega
    have n0 : (0 : Int32).toNatClampNeg = 0 := rfl
    have s79 : (F_X7_sendAllHome T).1 79 2 = T0.1 79 2 := (fr_i k2 (k := 79) (i := 2) rfl).trans w3
    have f7 : ∀ t, t < S → f t ≤ 7 := fun t ht => by
      have := (f1 t ht (hD t ht)).1
      omega
    have e1 := WA_WB (E := E) hD (fun s hs => (f1 s hs (hD s hs)).1)
    have ce : CB T0 S D f = sg S (fun t => (f t : Int) * p8 t) := by
      unfold CB
      exact sg_cg S (fun s hs => if_pos (hD s hs))
    have wv : ((F_X7_sendAllHome T).2.1 e 0).toInt = WA T0 S E f * 134217728 + sg S (fun t => (f t : Int) * p8 t) := by
      rw [j2, f2]
      unfold wth
      rw [ce, e1]
    obtain ⟨⟨u1, u2, u3⟩, u4⟩ := l_choose (sz := sz) S9 (Sv := T0.1 79 2) hS wv f7 S fu 0 (F_X7_sendAllHome T) 0 rfl (by omega) (by rw [fu_eq]; omega)
    have eC : F_X7_choose (F_X7_sendAllHome T) ((F_X7_sendAllHome T).1 79 2) ((F_X7_sendAllHome T).2.1 e (0 : Int32).toNatClampNeg) = vl_X7_choose fu (F_X7_sendAllHome T) (T0.1 79 2) ((F_X7_sendAllHome T).2.1 e 0) 0 := by
      rw [s79]
      rfl
    have okC : ok_X7_choose sz (F_X7_sendAllHome T) ((F_X7_sendAllHome T).1 79 2) ((F_X7_sendAllHome T).2.1 e (0 : Int32).toNatClampNeg) := by
      rw [s79]
      exact u4
    have k1' := k1
    obtain ⟨p1, p2, p3, p4, p5, p6⟩ := k1
    generalize hTH : vl_X7_choose fu (F_X7_sendAllHome T) (T0.1 79 2) ((F_X7_sendAllHome T).2.1 e 0) 0 = TH at u1 u2 u3 eC
    have p3' : TH.2.2 85 7 = some e := (fr_p u1 (k := 85) (i := 7) rfl).trans p3
    have we : TH.2.1 e 0 = (F_X7_sendAllHome T).2.1 e 0 := fr_j u1 (k := e) (i := 0) (by rcases p6 with ⟨q, _⟩ | ⟨q, _⟩ <;> subst q <;> rfl)
    have fH : fr wPc T0 TH := fr_trans (wPc_of fT) (fr_trans (fr_mono (A := [89, 90, 91, 92]) (B := [(85, 3)]) (A' := [86, 87, 88, 89, 90, 91, 92]) (B' := [(85, 3), (85, 4), (85, 5), (85, 6), (85, 7), (85, 8)]) rfl k2) (fr_mono (A := [86]) (B := []) (A' := [86, 87, 88, 89, 90, 91, 92]) (B' := [(85, 3), (85, 4), (85, 5), (85, 6), (85, 7), (85, 8)]) rfl u1))
    have P4 : PL TH a b e g := ⟨(fr_p u1 (k := 85) (i := 5) rfl).trans p1, (fr_p u1 (k := 85) (i := 6) rfl).trans p2, p3', (fr_p u1 (k := 85) (i := 8) rfl).trans p4, p5, p6⟩
    have h86 : ∀ s, S ≤ s → TH.1 86 s = T0.1 86 s := fun s hs => by
      rw [u2 s (Or.inr hs), fr_ri k2 (k := 86) (fun _ => rfl), f86]
    have eT : vl_X7_plan (n + 1) T v = ((TH.2.1 e 0 >>> ((27 : Int32).toInt64 &&& 63)).toInt32, TH) := by
      rw [vl_X7_plan_s, if_pos cc, if_neg zz, p3]
      simp only []
      rw [eC]
      simp only [p3', n0]
    rw [eT]
    refine ⟨⟨fH, ⟨a, b, e, g, P4⟩, Or.inr ⟨f, op, ?_, fun s hs => u3 s (by omega) hs, h86⟩⟩, ?_⟩
    · show (TH.2.1 e 0 >>> ((27 : Int32).toInt64 &&& 63)).toInt32.toInt = WA T0 S E f
      have r1 := dg_rg S9 f7
      have bd := WB_rg hC S9 D f
      rw [Int64.toInt_toInt32, shr_i (n := 27) _ (by decide) (by decide), we, wv, show ((2 ^ 27 : Nat) : Int) = 134217728 from rfl]
      rw [Int.add_comm, Int.add_mul_ediv_right _ _ (by decide), Int.ediv_eq_zero_of_lt r1.1 r1.2, Int.zero_add]
      exact Int.bmod_eq_of_le (by omega) (by omega)
    · simp only [okl_X7_plan]
      refine ⟨fun _ => ⟨fun _ => ⟨k7, ?_⟩, fun w => absurd w zz⟩, fun w => absurd cc w⟩
      rw [p3]
      refine ⟨fun w => (by cases w), fun p2' w => ?_⟩
      cases w
      refine ⟨te, i0, okC, ?_⟩
      rw [eC, p3']
      refine ⟨fun w => (by cases w), fun p4' w => ?_⟩
      cases w
      exact ⟨te, i0⟩
