/-! syllabus: the end -/
def rng (k i : Nat) : Prop := (66 ≤ k ∧ k ≤ 104) ∨ (131 ≤ k ∧ k ≤ 160) ∨ (k = 105 ∧ 39 ≤ i)
def rngA (A : List Nat) (B : List (Nat × Nat)) : Bool := (A.all fun k => decide ((66 ≤ k ∧ k ≤ 104) ∨ (131 ≤ k ∧ k ≤ 160))) && (B.all fun q => decide ((66 ≤ q.1 ∧ q.1 ≤ 104) ∨ (131 ≤ q.1 ∧ q.1 ≤ 160) ∨ (q.1 = 105 ∧ 39 ≤ q.2)))
theorem rng_of {A : List Nat} {B : List (Nat × Nat)} (h : rngA A B = true) {k i : Nat} (hw : wl A B k i = true) : rng k i := by
  unfold rngA at h
  simp only [Bool.and_eq_true, List.all_eq_true, decide_eq_true_eq] at h
  unfold wl at hw
  rw [Bool.or_eq_true] at hw
  unfold rng
  rcases hw with hw | hw
  · rw [List.contains_iff_mem] at hw
    have := h.1 k hw
    omega
  · rw [List.contains_iff_mem] at hw
    exact h.2 (k, i) hw
theorem I6_r {T Z : tT} (h : I6 T) (e : ∀ k i, rng k i → Z.1 k i = T.1 k i ∧ Z.2.1 k i = T.2.1 k i ∧ Z.2.2 k i = T.2.2 k i) (ha : ITa Z) : I6 Z :=
  ⟨ICi_fz (fun k i hw => e k i (rng_of rfl hw)) h.1, IEn_fz (fun k i hw => e k i (rng_of rfl hw)) h.2.1, ILe_fz (fun k i hw => e k i (rng_of rfl hw)) h.2.2.1, ICe_fz (fun k i hw => e k i (rng_of rfl hw)) h.2.2.2.1, ha, IPl_fz (fun k i hw => e k i (rng_of rfl hw)) h.2.2.2.2.2⟩
theorem wA_off {p k i : Nat} (h1 : ¬ (k = 3 ∧ (i = 1 ∨ i = 2 ∨ i = 4 ∨ i = 5))) (h2 : ¬ (k = 4 ∧ (i = 2 ∨ i = 3 ∨ i = 4 ∨ i = 5 ∨ i = 6))) (h3 : ¬ (p ≤ k ∧ k < p + 59)) : wA p k i = false := by
  unfold wA
  rw [wE_off (by omega) (by omega) (by omega) (by omega), decide_eq_false (by omega)]
  rfl
theorem wI_off {b k i : Nat} (h1 : wH b k i = false) (h2 : k ≠ 107) (h3 : ¬ (k = 105 ∧ (i = 2 ∨ i = 3))) : wI b k i = false := by
  unfold wI
  rw [h1, decide_eq_false (by omega)]
  rfl
theorem wI_z {b k i : Nat} (h1 : ¬ (k = 105 ∧ (i = 2 ∨ i = 3 ∨ i = 4 ∨ i = 5 ∨ i = 6 ∨ i = 7 ∨ i = 8 ∨ i = 9 ∨ i = 10 ∨ i = 13 ∨ i = 14 ∨ i = 37 ∨ i = 38))) (h2 : k < 107 ∨ k = 108 ∨ k = 109 ∨ 130 < k) : wI b k i = false := wI_off (wH_off (by omega) (by omega)) (by omega) (by omega)
theorem lyl_new {k : Nat} : lyl (161 + 59 * k) lyC8 := by
  intro i x hx
  have key : ∀ i, i < 59 → ly_syl.getD i (.inr 99) = lyC8.getD i (.inr 99) := by decide +kernel
  have hl : lyC8.length = 59 := by decide +kernel
  have i59 : i < 59 := by
    rw [← hl]
    exact (List.getElem?_eq_some_iff.mp hx).1
  unfold ly
  rw [if_neg (by omega), show (161 + 59 * k + i - 161) % 59 = i by omega, key i i59, List.getD_eq_getElem?_getD, hx]
  rfl
theorem tsy_new {k : Nat} : tsy (161 + 59 * k + 59) (161 + 59 * k) := by
  have hl := lyl_new (k := k)
  refine ⟨by omega, by omega, hl 0 _ rfl, hl 1 _ rfl, hl 2 _ rfl, fun i hi => ?_⟩
  have hg := lyl_gr hl hi
  exact ⟨by omega, by omega, hg 0 _ rfl, hg 1 _ rfl, hg 2 _ rfl, hg 3 _ rfl, hg 4 _ rfl, hg 5 _ rfl, hg 6 _ rfl⟩
/-- what is known before a text is read -/
theorem S_pre {sz : Nat} {T : tT} (hI : I7 sz T) : ∃ N p b : Nat, TE N T ∧ T.2.2 3 3 = some p ∧ spos sz T p ∧ 6 ≤ p ∧ (T.1 105 2).toInt = N ∧ T.1 106 = T.1 5 ∧ (T.1 105 12).toInt = b ∧ b < 5 := by
  obtain ⟨⟨_, _, _, _, ⟨_, t2, ⟨t3, t3'⟩, t4⟩, _⟩, ⟨sp, e1, e2⟩, _, _, _, _, a6, _, _, a9⟩ := hI
  rw [tle, show (0 : Int32).toInt = 0 from rfl] at t3
  rw [tle, show (1400 : Int32).toInt = 1400 from rfl] at t3'
  obtain ⟨y1, y2⟩ := a6
  rw [tle, show (0 : Int32).toInt = 0 from rfl] at y1
  rw [tlt, show (5 : Int32).toInt = 5 from rfl] at y2
  refine ⟨(T.1 4 1).toInt.toNat, sp, (T.1 105 12).toInt.toNat, ⟨by omega, by omega, a9.2.2⟩, e1, e2, ?_, by rw [t2]; omega, t4, by omega, by omega⟩
  rcases e2.2.1 with r | ⟨r, hr⟩ <;> omega
set_option maxHeartbeats 1000000 in
theorem S_done {sz sz' p x q' : Nat} {T E : tT} {x0 : Int32} (hI : I7 sz T) (hp : T.2.2 3 3 = some p) (hx : x0.toInt = x) (x4 : x < 4) (hgood : (F_X6_read T).1 3 1 = 0) (hszs : sz ≤ sz') (h161 : 161 ≤ sz' ∧ ∃ k, sz' = 161 + 59 * k) (eI : ∀ k i, E.1 k i = (tI (F_X6_read T) 4 1 0).1 k i) (eJ : ∀ k i, E.2.1 k i = (F_X6_read T).2.1 k i) (eP : ∀ k i, k < sz → ¬ (k = 3 ∧ i = 3) → ¬ (k = 65 ∧ i = x) → E.2.2 k i = (F_X6_read T).2.2 k i) (e33 : E.2.2 3 3 = some q') (e65 : E.2.2 65 x = some p) (hq : spos sz' E q') (qp : q' ≠ p) (qt : ∀ t, t < 4 → t ≠ x → T.2.2 65 t ≠ some q') (hz : nz E sz') : ok_X11_syllabus sz' E x0 ∧ (F_X11_syllabus E x0).1 = (F_X6_read T).1 p 2 ∧ I7 sz' (F_X11_syllabus E x0).2 := by
  obtain ⟨N, p', b, hT, hp', hs, p6, hn, h106, hb, b5⟩ := S_pre hI
  rw [hp] at hp'
  cases hp'
  have nx : ¬ x0 < 0 := by rw [tlt, hx, show (0 : Int32).toInt = 0 from rfl]; omega
  have lx : x0 < 4 := by rw [tlt, hx, show (4 : Int32).toInt = 4 from rfl]; omega
  have sz161 : 161 ≤ sz := hI.2.2.2.2.2.2.2.2.2.1
  have p65 : p + 59 ≤ 65 ∨ 161 ≤ p := by rcases hs.2.1 with r | ⟨r, hr⟩ <;> omega
  have psz : p + 58 < sz := hs.1.2.1
  have frC := (R_read (x0 := x0) hT hp hs.1 p6 hs.2.2 hn h106 hb b5 nx lx).2
  obtain ⟨_, _, _, _, frC, _⟩ := frC
  have cT : ∀ k i, ¬ (k = 3 ∧ (i = 1 ∨ i = 2 ∨ i = 4 ∨ i = 5)) → ¬ (k = 4 ∧ (i = 2 ∨ i = 3 ∨ i = 4 ∨ i = 5 ∨ i = 6)) → ¬ (p ≤ k ∧ k < p + 59) → (F_X6_read T).1 k i = T.1 k i ∧ (F_X6_read T).2.1 k i = T.2.1 k i ∧ (F_X6_read T).2.2 k i = T.2.2 k i := fun k i h1 h2 h3 => ⟨fr_i frC (wA_off h1 h2 h3), fr_j frC (wA_off h1 h2 h3), fr_p frC (wA_off h1 h2 h3)⟩
  have eD : ∀ k i, ¬ (k = 4 ∧ i = 1) → E.1 k i = (F_X6_read T).1 k i := fun k i h => by rw [eI, tI_off h]
  have eT : ∀ k i, ¬ (k = 3 ∧ (i = 1 ∨ i = 2 ∨ i = 4 ∨ i = 5)) → k ≠ 4 → ¬ (p ≤ k ∧ k < p + 59) → E.1 k i = T.1 k i ∧ E.2.1 k i = T.2.1 k i := fun k i h1 h2 h3 => by
    rw [eD k i (by omega), eJ]
    exact ⟨(cT k i h1 (by omega) h3).1, (cT k i h1 (by omega) h3).2.1⟩
  have pw := pw_read hs.1 p6 hp hs.2.2
  obtain ⟨_, R, ns, u1, u2, _, u4, u5, u6, u7⟩ := R_read (sz := sz') (N := N) (p := p) (b := b) (T := T) (Tr := E) (x0 := x0) hT hp (tsy_up hszs hs.1) p6 hs.2.2 (by rw [(eT 105 2 (by omega) (by omega) (by omega)).1]; exact hn) (funext fun i => by rw [(eT 106 i (by omega) (by omega) (by omega)).1, h106]) (by rw [(eT 105 12 (by omega) (by omega) (by omega)).1]; exact hb) b5 nx lx
  have hBA : BA sz' N p b (F_X6_read T) R := by
    rcases u7 with u | u
    · exact u
    · exact absurd hgood u.1
  have r4 : R.1 105 4 = 0 := hBA.1.2.2.2.2.1.2
  have gd := good1 r4
  have hpv := pv_syllabus (T := E) nx lx
  have rE : ∀ k i, ¬ (k = 105 ∧ (i = 2 ∨ i = 3 ∨ i = 4 ∨ i = 5 ∨ i = 6 ∨ i = 7 ∨ i = 8 ∨ i = 9 ∨ i = 10 ∨ i = 13 ∨ i = 14 ∨ i = 37 ∨ i = 38)) → (k < 107 ∨ k = 108 ∨ k = 109 ∨ 130 < k) → R.1 k i = E.1 k i ∧ R.2.1 k i = E.2.1 k i ∧ R.2.2 k i = E.2.2 k i := fun k i h1 h2 => ⟨fr_i u4 (wI_z h1 h2), fr_j u4 (wI_z h1 h2), fr_p u4 (wI_z h1 h2)⟩
  have r12 : R.1 105 12 = T.1 105 12 := by rw [(rE 105 12 (by omega) (by omega)).1, (eT 105 12 (by omega) (by omega) (by omega)).1]
  have r108 : ∀ t, R.1 108 t = T.1 108 t := fun t => by rw [(rE 108 t (by omega) (by omega)).1, (eT 108 t (by omega) (by omega) (by omega)).1]
  have r109 : ∀ t, R.1 109 t = T.1 109 t := fun t => by rw [(rE 109 t (by omega) (by omega)).1, (eT 109 t (by omega) (by omega) (by omega)).1]
  have vx : vp_in x0 4 := by rw [vp_in_iff]; omega
  have eF : F_X11_syllabus E x0 = (R.1 125 b, tI (tI (tI R 108 x (R.1 105 12)) 105 12 (R.1 108 x)) 109 x (1 &&& 1)) := by
    rw [u1, vl_X11_syllabus_s3, if_neg gd, tnN hx, tI_at, r12, tnN hb]
  have okF : ok_X11_syllabus sz' E x0 := u2 (by
    rw [okl_X11_syllabus_s3, tnN hx, tI_at]
    exact ⟨fun _ => ⟨vx, vx, vx, vx, by rw [r12, vp_in_iff]; omega⟩, fun z => absurd z gd⟩)
  rw [eF] at hpv ⊢
  dsimp only at hpv ⊢
  refine ⟨okF, hBA.2.1.symm, ?_⟩
  have zo : ∀ k i, k ≠ 108 → k ≠ 109 → ¬ (k = 105 ∧ i = 12) → (tI (tI (tI R 108 x (R.1 105 12)) 105 12 (R.1 108 x)) 109 x (1 &&& 1)).1 k i = R.1 k i := fun k i h1 h2 h3 => by rw [tI_off (by omega), tI_off (by omega), tI_off (by omega)]
  have z12 : (tI (tI (tI R 108 x (R.1 105 12)) 105 12 (R.1 108 x)) 109 x (1 &&& 1)).1 105 12 = R.1 108 x := by rw [tI_off (by omega), tI_at]
  have z108x : (tI (tI (tI R 108 x (R.1 105 12)) 105 12 (R.1 108 x)) 109 x (1 &&& 1)).1 108 x = R.1 105 12 := by rw [tI_off (by omega), tI_off (by omega), tI_at]
  have z108 : ∀ t, t ≠ x → (tI (tI (tI R 108 x (R.1 105 12)) 105 12 (R.1 108 x)) 109 x (1 &&& 1)).1 108 t = R.1 108 t := fun t h => by rw [tI_off (by omega), tI_off (by omega), tI_off (by omega)]
  have z109x : (tI (tI (tI R 108 x (R.1 105 12)) 105 12 (R.1 108 x)) 109 x (1 &&& 1)).1 109 x = 1 := by rw [tI_at]; decide
  have z109 : ∀ t, t ≠ x → (tI (tI (tI R 108 x (R.1 105 12)) 105 12 (R.1 108 x)) 109 x (1 &&& 1)).1 109 t = R.1 109 t := fun t h => by rw [tI_off (by omega), tI_off (by omega), tI_off (by omega)]
  have zj : (tI (tI (tI R 108 x (R.1 105 12)) 105 12 (R.1 108 x)) 109 x (1 &&& 1)).2 = R.2 := rfl
  generalize tI (tI (tI R 108 x (R.1 105 12)) 105 12 (R.1 108 x)) 109 x (1 &&& 1) = Z at *
  have zE : ∀ k i, (k < 105 ∨ k = 106 ∨ 130 < k) → Z.1 k i = E.1 k i ∧ Z.2.1 k i = E.2.1 k i ∧ Z.2.2 k i = E.2.2 k i := fun k i h => by
    rw [zo k i (by omega) (by omega) (by omega), zj]
    exact rE k i (by omega) (by omega)
  have z5 : ∀ i, 39 ≤ i → Z.1 105 i = T.1 105 i ∧ Z.2.1 105 i = T.2.1 105 i ∧ Z.2.2 105 i = T.2.2 105 i := fun i h => by
    have q1 := rE 105 i (by omega) (by omega)
    have q2 := eT 105 i (by omega) (by omega) (by omega)
    have q3 := cT 105 i (by omega) (by omega) (by omega)
    rw [zo 105 i (by omega) (by omega) (by omega), zj, q1.1, q1.2.1, q1.2.2, q2.1, q2.2, eP 105 i (by omega) (by omega) (by omega), q3.2.2]
    exact ⟨rfl, rfl, rfl⟩
  have z31 : Z.1 3 1 = 0 := by rw [(zE 3 1 (by omega)).1, eD 3 1 (by omega), hgood]
  refine ⟨I6_r hI.1 (fun k i hr => ?_) ?_, ?_⟩
  · unfold rng at hr
    by_cases c : k = 105
    · rw [c]
      exact z5 i (by omega)
    · have q1 := zE k i (by omega)
      have q2 := eT k i (by omega) (by omega) (by omega)
      have q3 := cT k i (by omega) (by omega) (by omega)
      rw [q1.1, q1.2.1, q1.2.2, q2.1, q2.2, eP k i (by omega) (by omega) (by omega), q3.2.2]
      exact ⟨rfl, rfl, rfl⟩
  · have z41 : Z.1 4 1 = 0 := by rw [(zE 4 1 (by omega)).1, eI, tI_at]
    refine ⟨⟨by rw [z31, zo 105 4 (by omega) (by omega) (by omega), r4], ?_⟩, by rw [z41, zo 105 2 (by omega) (by omega) (by omega), u5], by rw [z41]; decide, funext fun i => ?_⟩
    · rw [hpv (by rw [zo 105 4 (by omega) (by omega) (by omega), r4]), (zE 3 2 (by omega)).1, eD 3 2 (by omega), pw.1 hgood]
    · have h5 := congrFun hI.1.2.2.2.2.1.2.2.2 i
      rw [(zE 106 i (by omega)).1, (zE 5 i (by omega)).1, (eT 106 i (by omega) (by omega) (by omega)).1, (eT 5 i (by omega) (by omega) (by omega)).1, h5]
  · have hu : 0 ≤ (F_X6_read T).1 p 3 ∧ (F_X6_read T).1 p 3 ≤ 750 := by
      obtain ⟨_, _, _, ⟨u, y1, y2⟩, _⟩ := u6
      rw [tle, tle, show (0 : Int32).toInt = 0 from rfl, show (750 : Int32).toInt = 750 from rfl]
      omega
    refine ITx_new (R := R) (b := b) (x := x) (q' := q') hI.2 hp (tnN hb) x4 hszs h161 (fun k k1 k2 => ⟨funext fun i => ?_, funext fun i => ?_⟩) (fun k k1 k2 => ⟨funext fun i => zo k i (by omega) (by omega) (by omega), by rw [zj]⟩) (fun j hj => ?_) hBA.2 hu (fun k k1 k2 => ⟨funext fun i => ?_, funext fun i => ?_, funext fun i => ?_⟩) (fun k i k1 k2 hw => ?_) (by rw [z108x, r12]) (fun t _ h => by rw [z108 t h, r108]) (by rw [z12, r108]) z109x (fun t _ h => by rw [z109 t h, r109]) (by rw [(zE 65 x (by omega)).2.2, e65]) (fun t ht h => ?_) (by rw [(zE 3 3 (by omega)).2.2, e33]) ⟨hq.1, hq.2.1, fun j hj => ?_⟩ qp qt (fun k hk => ⟨?_, ?_, ?_⟩) (fun i hi => ?_)
    · rw [(zE k i (by omega)).1, eD k i (by omega)]
    · rw [(zE k i (by omega)).2.1, eJ]
    · rw [(zE (p + 1) j (by omega)).2.2, eP (p + 1) j (by omega) (by omega) (by omega)]
      exact hBA.2.2.1 j hj
    · rw [(zE k i (by omega)).1, (eT k i (by omega) (by omega) k2).1]
    · rw [(zE k i (by omega)).2.1, (eT k i (by omega) (by omega) k2).2]
    · rw [(zE k i (by omega)).2.2, eP k i (by omega) (by omega) (by omega), (cT k i (by omega) (by omega) k2).2.2]
    · have q1 := u4 k i (wI_off hw (by omega) (by omega))
      have q2 := eT k i (by omega) (by omega) (by omega)
      rw [zo k i (by omega) (by omega) (by omega), zj, q1.1, q1.2.1]
      exact q2
    · rw [(zE 65 t (by omega)).2.2, eP 65 t (by omega) (by omega) (by omega), (cT 65 t (by omega) (by omega) (by omega)).2.2]
    · have : 130 < q' + 1 ∨ q' + 1 < 105 := by rcases hq.2.1 with r | ⟨r, hr⟩ <;> omega
      rw [(zE (q' + 1) j (by omega)).2.2]
      exact hq.2.2 j hj
    · rw [← (hz k hk).1]
      exact funext fun i => (zE k i (by omega)).1
    · rw [← (hz k hk).2.1]
      exact funext fun i => (zE k i (by omega)).2.1
    · rw [← (hz k hk).2.2]
      exact funext fun i => (zE k i (by omega)).2.2
    · rw [(zE 1 i (by omega)).2.1, (eT 1 i (by omega) (by omega) (by omega)).2]
