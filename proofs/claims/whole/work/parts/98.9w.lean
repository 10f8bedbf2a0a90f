/-! syllabus: the pair -/
theorem syTn_i {T : tT} {p : Nat} : ∀ n, (syTn T p n).1 = T.1 ∧ (syTn T p n).2.1 = T.2.1 ∧ ∀ j, j < n → (syTn T p n).2.2 (p + 1) j = some (p + 3 + 7 * j) := by
  intro n
  induction n with
  | zero => exact ⟨rfl, rfl, fun j hj => by omega⟩
  | succ n ih =>
    refine ⟨ih.1, ih.2.1, fun j hj => ?_⟩
    show (tP (syTn T p n) (p + 1) n (some (p + 3 + 7 * n))).2.2 (p + 1) j = _
    by_cases c : j = n
    · rw [c, tP_at]
    · rw [tP_off (fun z => c z.2)]
      exact ih.2.2 j (by omega)
set_option maxHeartbeats 1000000 in
theorem p_syllabus (L : Nat) (a1 : Int32) : PSs 999 L mX10_syllabus mX11_syllabus [.int a1] I7 := by
  intro sz T hsz hI
  obtain ⟨N, p, b, hT, hp, hs, p6, hn, h106, hb, b5⟩ := S_pre hI
  refine ⟨fun r sz1 T1 => T1.1 0 = T.1 0 ∧ ok_X11_syllabus sz1 T1 a1 ∧ r = (F_X11_syllabus T1 a1).1 ∧ I7 sz1 (F_X11_syllabus T1 a1).2, c_X10_syllabus (d := 614) hsz a1 (fun k => ?_) (fun k => ?_), ?_⟩
  · have hcase : a1 < 0 ∨ ¬ a1 < 4 := by
      unfold v_X10_isTerm at k
      by_cases c1 : a1 < 0
      · exact Or.inl c1
      · rw [if_neg c1] at k
        by_cases c2 : (4 : Int32) ≤ a1
        · refine Or.inr (fun z => ?_)
          rw [tle] at c2
          rw [tlt] at z
          omega
        · rw [if_neg c2] at k
          cases k
    have eF : F_X11_syllabus T a1 = (-2, T) := by
      unfold F_X11_syllabus
      by_cases c1 : a1 < 0
      · rw [if_pos c1]
      · rw [if_neg c1, if_neg (hcase.resolve_left c1)]
    rw [eF]
    refine ⟨rfl, ⟨fun _ => trivial, fun z => ⟨fun w => absurd w (hcase.resolve_left z), fun _ => trivial⟩⟩, rfl, hI⟩
  · have hr : 0 ≤ a1.toInt ∧ a1.toInt < 4 := by
      unfold v_X10_isTerm at k
      by_cases c1 : a1 < 0
      · rw [if_pos c1] at k
        exact absurd rfl k
      · rw [if_neg c1] at k
        by_cases c2 : (4 : Int32) ≤ a1
        · rw [if_pos c2] at k
          exact absurd rfl k
        · rw [tlt, show (0 : Int32).toInt = 0 from rfl] at c1
          rw [tle, show (4 : Int32).toInt = 4 from rfl] at c2
          omega
    have hx : a1.toInt = (a1.toInt.toNat : Nat) := by omega
    have x4 : a1.toInt.toNat < 4 := by omega
    generalize a1.toInt.toNat = x at *
    have nx : ¬ a1 < 0 := by rw [tlt, show (0 : Int32).toInt = 0 from rfl]; omega
    have lx : a1 < 4 := by rw [tlt, show (4 : Int32).toInt = 4 from rfl]; omega
    have vx : vp_in a1 4 := by rw [vp_in_iff]; omega
    have p65 : p + 59 ≤ 65 ∨ 161 ≤ p := by rcases hs.2.1 with r | ⟨r, hr⟩ <;> omega
    have psz : p + 58 < sz := hs.1.2.1
    obtain ⟨okr, _, _, _, _, frC, _⟩ := R_read (x0 := a1) hT hp hs.1 p6 hs.2.2 hn h106 hb b5 nx lx
    have pw := pw_read hs.1 p6 hp hs.2.2
    have cT : ∀ k i, ¬ (k = 3 ∧ (i = 1 ∨ i = 2 ∨ i = 4 ∨ i = 5)) → ¬ (k = 4 ∧ (i = 2 ∨ i = 3 ∨ i = 4 ∨ i = 5 ∨ i = 6)) → ¬ (p ≤ k ∧ k < p + 59) → (F_X6_read T).1 k i = T.1 k i ∧ (F_X6_read T).2.1 k i = T.2.1 k i ∧ (F_X6_read T).2.2 k i = T.2.2 k i := fun k i h1 h2 h3 => ⟨fr_i frC (wA_off h1 h2 h3), fr_j frC (wA_off h1 h2 h3), fr_p frC (wA_off h1 h2 h3)⟩
    have row0 : (tI (F_X6_read T) 4 1 0).1 0 = T.1 0 := funext fun i => by rw [tI_off (by omega), (cT 0 i (by omega) (by omega) (by omega)).1]
    obtain ⟨_, a2, a3, a4, a5, a6, a7, a8, a9⟩ := id hI.2
    have nzD : nz (tI (F_X6_read T) 4 1 0) sz := fun k hk => by
      obtain ⟨y1, y2, y3⟩ := a8 k hk
      exact ⟨by rw [← y1]; exact funext fun i => by rw [tI_off (by omega), (cT k i (by omega) (by omega) (by omega)).1], by rw [← y2]; exact funext fun i => (cT k i (by omega) (by omega) (by omega)).2.1, by rw [← y3]; exact funext fun i => (cT k i (by omega) (by omega) (by omega)).2.2⟩
    have w65 : ∀ t, (F_X6_read T).2.2 65 t = T.2.2 65 t := fun t => (cT 65 t (by omega) (by omega) (by omega)).2.2
    refine ⟨okr, fun hbad => ⟨row0, ?_⟩, fun hgood => ⟨vx, p, pw.2.2.1, fun hno => ?_, fun q hso => ?_⟩⟩
    · obtain ⟨s1, s2, s3⟩ := S_fault hI hp hx x4 hbad
      exact ⟨s1, s2.symm, s3⟩
    · obtain ⟨kk, hkk⟩ := a9.2.1
      have hl : lyl sz lyC8 := by rw [hkk]; exact lyl_new
      have hts2 : tsy (sz + 59) sz := by rw [hkk]; exact tsy_new
      rw [tnN hx]
      obtain ⟨y1, y2, y3⟩ := syTn_i (T := tI (F_X6_read T) 4 1 0) (p := sz) 8
      have yo := fun {j : Nat} (hj : j ≠ sz + 1) => (syTn_o (T := tI (F_X6_read T) 4 1 0) (p := sz) 8 hj).2.2
      have e1 : (tP (tP (syTn (tI (F_X6_read T) 4 1 0) sz 8) 3 3 (some sz)) 65 x (some p)).1 = (tI (F_X6_read T) 4 1 0).1 := y1
      have e2 : (tP (tP (syTn (tI (F_X6_read T) 4 1 0) sz 8) 3 3 (some sz)) 65 x (some p)).2.1 = (F_X6_read T).2.1 := y2
      have e65 : (tP (tP (syTn (tI (F_X6_read T) 4 1 0) sz 8) 3 3 (some sz)) 65 x (some p)).2.2 65 x = some p := tP_at
      have e33 : (tP (tP (syTn (tI (F_X6_read T) 4 1 0) sz 8) 3 3 (some sz)) 65 x (some p)).2.2 3 3 = some sz := by rw [tP_off (by omega), tP_at]
      have eo : ∀ k i, ¬ (k = 3 ∧ i = 3) → ¬ (k = 65 ∧ i = x) → (tP (tP (syTn (tI (F_X6_read T) 4 1 0) sz 8) 3 3 (some sz)) 65 x (some p)).2.2 k i = (syTn (tI (F_X6_read T) 4 1 0) sz 8).2.2 k i := fun k i h1 h2 => by rw [tP_off h2, tP_off h1]
      generalize tP (tP (syTn (tI (F_X6_read T) 4 1 0) sz 8) 3 3 (some sz)) 65 x (some p) = E at *
      obtain ⟨s1, s2, s3⟩ := S_done (E := E) (q' := sz) (sz' := sz + 59) hI hp hx x4 hgood (by omega) ⟨by omega, kk + 1, by omega⟩ (fun k i => by rw [e1]) (fun k i => by rw [e2]) (fun k i h0 h1 h2 => by rw [eo k i h1 h2, yo (by omega)]; rfl) e33 e65 ⟨hts2, Or.inr ⟨kk, hkk⟩, fun j hj => by rw [eo _ _ (by omega) (by omega)]; exact y3 j hj⟩ (by omega) (fun t ht _ w => by
        rcases a2 t ht with ⟨v, _⟩ | ⟨pt, v1, _, v3, _⟩
        · rw [v] at w
          cases w
        · rw [v1] at w
          cases w
          have := v3.1.2.1
          omega) (fun k hk => by
        obtain ⟨v1, v2, v3⟩ := nzD k (by omega)
        refine ⟨by rw [e1]; exact v1, by rw [e2]; exact v2, ?_⟩
        rw [← v3]
        exact funext fun i => by rw [eo k i (by omega) (by omega), yo (by omega)])
      have gv : v_X10_gradesOf E a1 = (F_X6_read T).1 p 2 := by
        unfold v_X10_gradesOf
        rw [if_neg (show ¬ v_X10_isTerm E a1 = 0 from k), tnN hx, e65]
        dsimp only
        rw [e1, tI_off (by omega)]
      refine ⟨nzD, hl, tsy_up (by omega) hs.1, ?_, by rw [e1]; exact row0, s1, by rw [gv, s2], s3⟩
      refine ⟨fun z => absurd z (show ¬ v_X10_isTerm E a1 = 0 from k), fun _ => ⟨vx, ?_⟩⟩
      rw [tnN hx, e65]
      exact ⟨fun _ => trivial, fun p2 h2 => by cases h2; exact ⟨tsy_up (by omega) hs.1, trivial⟩⟩
    · rw [tnN hx] at hso ⊢
      have hso' : T.2.2 65 x = some q := by rw [← w65]; exact hso
      rcases a2 x x4 with ⟨v, _⟩ | ⟨pt, v1, _, v3, _⟩
      · rw [v] at hso'
        cases hso'
      rw [hso'] at v1
      cases v1
      have qp : q ≠ p := fun w => a3 x x4 (by rw [hso', hp, w])
      have q65 : q + 59 ≤ 65 ∨ 161 ≤ q := by rcases v3.2.1 with r | ⟨r, hr⟩ <;> omega
      have e1 : (tP (tP (tI (F_X6_read T) 4 1 0) 3 3 (some q)) 65 x (some p)).1 = (tI (F_X6_read T) 4 1 0).1 := rfl
      have e2 : (tP (tP (tI (F_X6_read T) 4 1 0) 3 3 (some q)) 65 x (some p)).2.1 = (F_X6_read T).2.1 := rfl
      have e65 : (tP (tP (tI (F_X6_read T) 4 1 0) 3 3 (some q)) 65 x (some p)).2.2 65 x = some p := tP_at
      have e33 : (tP (tP (tI (F_X6_read T) 4 1 0) 3 3 (some q)) 65 x (some p)).2.2 3 3 = some q := by rw [tP_off (by omega), tP_at]
      have eo : ∀ k i, ¬ (k = 3 ∧ i = 3) → ¬ (k = 65 ∧ i = x) → (tP (tP (tI (F_X6_read T) 4 1 0) 3 3 (some q)) 65 x (some p)).2.2 k i = (F_X6_read T).2.2 k i := fun k i h1 h2 => by rw [tP_off h2, tP_off h1]; rfl
      generalize tP (tP (tI (F_X6_read T) 4 1 0) 3 3 (some q)) 65 x (some p) = E at *
      have dq : ¬ (p ≤ q + 1 ∧ q + 1 < p + 59) := by rcases v3.2.1 with r | ⟨r, hr⟩ <;> rcases hs.2.1 with s | ⟨s, hs'⟩ <;> omega
      have q6 : 6 ≤ q := by rcases v3.2.1 with r | ⟨r, hr⟩ <;> omega
      obtain ⟨s1, s2, s3⟩ := S_done (E := E) (q' := q) (sz' := sz) hI hp hx x4 hgood (by omega) ⟨a9.1, a9.2.1⟩ (fun k i => by rw [e1]) (fun k i => by rw [e2]) (fun k i h0 h1 h2 => eo k i h1 h2) e33 e65 ⟨v3.1, v3.2.1, fun j hj => by rw [eo _ _ (by omega) (by omega), (cT (q + 1) j (by omega) (by omega) dq).2.2]; exact v3.2.2 j hj⟩ qp (fun t ht h w => a4 x t q x4 ht (by omega) hso' w) (fun k hk => by
        obtain ⟨v1, v2, v3⟩ := nzD k hk
        refine ⟨by rw [e1]; exact v1, by rw [e2]; exact v2, ?_⟩
        rw [← v3]
        exact funext fun i => eo k i (by omega) (by omega))
      have gv : v_X10_gradesOf E a1 = (F_X6_read T).1 p 2 := by
        unfold v_X10_gradesOf
        rw [if_neg (show ¬ v_X10_isTerm E a1 = 0 from k), tnN hx, e65]
        dsimp only
        rw [e1, tI_off (by omega)]
      refine ⟨v3.1, hs.1, ?_, by rw [e1]; exact row0, s1, by rw [gv, s2], s3⟩
      refine ⟨fun z => absurd z (show ¬ v_X10_isTerm E a1 = 0 from k), fun _ => ⟨vx, ?_⟩⟩
      rw [tnN hx, e65]
      exact ⟨fun _ => trivial, fun p2 h2 => by cases h2; exact ⟨hs.1, trivial⟩⟩
  · rintro r1 sz1 T1 hle ⟨e0, ok, er, hI'⟩
    refine ⟨e0, _, c_X11_syllabus (d := 991) (by omega) a1 ok, ?_⟩
    rintro r2 T2 ⟨h1, h2⟩
    exact ⟨er.trans h1.symm, by rw [h2]; exact hI'⟩
