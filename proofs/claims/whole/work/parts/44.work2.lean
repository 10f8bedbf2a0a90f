/-! rules worked: the reference -/
theorem two_jn {T : tT} {k a b : Int32} (h : k = 207 ∨ k = 208 ∨ k = 43 ∨ k = 45 ∨ k = 60 ∨ k = 61 ∨ k = 62) : v_X11_two T (rc k) a b = jn k a b ∧ ¬ rc k = 126 ∧ (rc k < 97 ∨ 122 < rc k) := by
  unfold v_X11_two jn v_X4_join
  rcases h with h | h | h | h | h | h | h <;> subst h
  · rw [show rc 207 = 124 from rfl]
    refine ⟨?_, by decide, by decide⟩
    rw [if_neg (show ¬ (124 : Int32) = 38 by decide), if_neg (show ¬ (124 : Int32) = 43 by decide), if_neg (show ¬ (124 : Int32) = 45 by decide), if_neg (show ¬ (124 : Int32) = 60 by decide), if_neg (show ¬ (124 : Int32) = 61 by decide), if_neg (show ¬ (124 : Int32) = 62 by decide), if_neg (show ¬ (207 : Int32) = 43 by decide), if_neg (show ¬ (207 : Int32) = 45 by decide), if_neg (show ¬ (207 : Int32) = 60 by decide), if_neg (show ¬ (207 : Int32) = 61 by decide), if_neg (show ¬ (207 : Int32) = 62 by decide), if_neg (show ¬ (207 : Int32) = 208 by decide)]
  · rw [show rc 208 = 38 from rfl]
    refine ⟨?_, by decide, by decide⟩
    rw [if_pos (show (38 : Int32) = 38 from rfl), if_neg (show ¬ (208 : Int32) = 43 by decide), if_neg (show ¬ (208 : Int32) = 45 by decide), if_neg (show ¬ (208 : Int32) = 60 by decide), if_neg (show ¬ (208 : Int32) = 61 by decide), if_neg (show ¬ (208 : Int32) = 62 by decide), if_pos (show (208 : Int32) = 208 from rfl)]
  · rw [show rc 43 = 43 from rfl]
    refine ⟨?_, by decide, by decide⟩
    rw [if_neg (show ¬ (43 : Int32) = 38 by decide), if_pos (show (43 : Int32) = 43 from rfl), if_pos (show (43 : Int32) = 43 from rfl)]
  · rw [show rc 45 = 45 from rfl]
    refine ⟨?_, by decide, by decide⟩
    rw [if_neg (show ¬ (45 : Int32) = 38 by decide), if_neg (show ¬ (45 : Int32) = 43 by decide), if_pos (show (45 : Int32) = 45 from rfl), if_neg (show ¬ (45 : Int32) = 43 by decide), if_pos (show (45 : Int32) = 45 from rfl)]
  · rw [show rc 60 = 60 from rfl]
    refine ⟨?_, by decide, by decide⟩
    rw [if_neg (show ¬ (60 : Int32) = 38 by decide), if_neg (show ¬ (60 : Int32) = 43 by decide), if_neg (show ¬ (60 : Int32) = 45 by decide), if_pos (show (60 : Int32) = 60 from rfl), if_neg (show ¬ (60 : Int32) = 43 by decide), if_neg (show ¬ (60 : Int32) = 45 by decide), if_pos (show (60 : Int32) = 60 from rfl)]
  · rw [show rc 61 = 61 from rfl]
    refine ⟨?_, by decide, by decide⟩
    rw [if_neg (show ¬ (61 : Int32) = 38 by decide), if_neg (show ¬ (61 : Int32) = 43 by decide), if_neg (show ¬ (61 : Int32) = 45 by decide), if_neg (show ¬ (61 : Int32) = 60 by decide), if_pos (show (61 : Int32) = 61 from rfl), if_neg (show ¬ (61 : Int32) = 43 by decide), if_neg (show ¬ (61 : Int32) = 45 by decide), if_neg (show ¬ (61 : Int32) = 60 by decide), if_pos (show (61 : Int32) = 61 from rfl)]
  · rw [show rc 62 = 62 from rfl]
    refine ⟨?_, by decide, by decide⟩
    rw [if_neg (show ¬ (62 : Int32) = 38 by decide), if_neg (show ¬ (62 : Int32) = 43 by decide), if_neg (show ¬ (62 : Int32) = 45 by decide), if_neg (show ¬ (62 : Int32) = 60 by decide), if_neg (show ¬ (62 : Int32) = 61 by decide), if_pos (show (62 : Int32) = 62 from rfl), if_neg (show ¬ (62 : Int32) = 43 by decide), if_neg (show ¬ (62 : Int32) = 45 by decide), if_neg (show ¬ (62 : Int32) = 60 by decide), if_neg (show ¬ (62 : Int32) = 61 by decide), if_pos (show (62 : Int32) = 62 from rfl)]
theorem dec2 {x : Int32} {n : Nat} (h : x.toInt = (n + 1 : Nat)) (hn : n < 1000) : (x - 1).toInt = n := by
  have z1 : (1 : Int32).toInt = 1 := rfl
  rw [tsub (by omega) (by omega)]
  omega
theorem dec1 {x : Int32} {n : Nat} (h : x.toInt = (n + 1 + 1 : Nat)) : (x + -1).toInt = (n + 1 : Nat) := by
  have c0 : 0 ≤ x := by rw [tle, h, show (0 : Int32).toInt = 0 from rfl]; omega
  rw [tdec c0]
  omega
theorem vpn {x : Int32} {n N : Nat} (h : x.toInt = n) (h2 : n < N + 0) : vp_in x N := by rw [vp_in_iff]; omega
theorem rc_leaf {k : Int32} (h : lfK k = true) : ¬ rc k = 126 ∧ ¬ rc k < 97 ∧ ¬ 122 < rc k := by
  rcases lfK_cases h with h | h | h | h | h | h | h | h <;> subst h <;> decide
theorem wk11 {sz : Nat} {T0 : tT} {to h e base : Int32} {E : Nat} (hE : (base + to).toInt = E) (hE7 : E ≤ 7500) {m : Bool} {ls ps : Int32} (lf : Int32 → Int32 → Int32) (hlf : ∀ T, fr (wl [140] []) T0 T → ∀ k v, vI m ls ps k v → lfK k = true → v_X11_leaf T (rc k) v h e = lf k v ∧ ok_X11_leaf sz T (rc k) v h e) : ∀ (l : List (Int32 × Int32)) (n s : Nat) (T : tT) (st : List Int32) (c v : Int32), fr (wl [140] []) T0 T → (c.toInt = (st.length : Nat) ∧ Stk (T.1 140) st) → st.length + lfN l ≤ 150 → hts st.length l = some 1 → v.toInt = s → s + l.length = E → Rs (T0.1 123) (T0.1 124) s l → (∀ x ∈ l, vI m ls ps x.1 x.2) → l.length < n → ∃ T' r, vl_X11_work n T to h e c base v = (r, T') ∧ okl_X11_work n sz T to h e c base v ∧ evl lf st l = [r] ∧ fr (wl [140] []) T0 T' := by
  have z1 : (1 : Int32).toInt = 1 := rfl
  intro l
  induction l with
  | nil =>
    intro n s T st c v f hS h150 hh hv hsu hc hvi hn
    obtain ⟨n, rfl⟩ : ∃ n', n = n' + 1 := ⟨n - 1, by omega⟩
    simp only [hts, Option.some.injEq] at hh
    obtain ⟨r, rfl⟩ : ∃ r, st = [r] := List.length_eq_one_iff.mp hh
    rw [List.length_nil, Nat.add_zero] at hsu
    have d : base + to ≤ v := by rw [tle]; omega
    rw [vl_X11_work_s, if_pos d]
    simp only [okl_X11_work]
    refine ⟨T, r, ?_, ⟨fun _ => (by rw [vp_in_iff]; exact ⟨by decide, by decide⟩), fun q => absurd d q⟩, rfl, f⟩
    rw [show T.1 140 (0 : Int32).toNatClampNeg = r from hS.2.1]
  | cons x l ih =>
    intro n s T st c v f hS h150 hh hv hsu hc hvi hn
    obtain ⟨n, rfl⟩ : ∃ n', n = n' + 1 := ⟨n - 1, by omega⟩
    have e1 : T.1 123 = T0.1 123 := fr_ri f (fun i => rfl)
    have e2 : T.1 124 = T0.1 124 := fr_ri f (fun i => rfl)
    rw [List.length_cons] at hsu hn
    obtain ⟨⟨c1, c2⟩, c3⟩ := hc
    have d : ¬ base + to ≤ v := by rw [tle]; omega
    have vv : vp_in v 7500 := by rw [vp_in_iff]; omega
    have hK : T.1 123 v.toNatClampNeg = rc x.1 := by rw [tnN hv, e1]; exact c1
    have v1 : (v + 1).toInt = (s + 1 : Nat) := by rw [tinc' (by omega)]; omega
    have hx := hvi x (List.mem_cons_self ..)
    have hvl : ∀ y ∈ l, vI m ls ps y.1 y.2 := fun y hy => hvi y (List.mem_cons_of_mem _ hy)
    have cn : lfN (x :: l) = (if lfK x.1 = true then 1 else 0) + lfN l := by unfold lfN; rw [List.countP_cons, Nat.add_comm]
    rw [cn] at h150
    unfold hts at hh
    unfold evl ev1
    rw [vl_X11_work_s, if_neg d, hK]
    simp only [okl_X11_work]
    rw [hK]
    by_cases dl : lfK x.1 = true
    · rw [if_pos dl] at hh h150 ⊢
      have hV : T.1 124 v.toNatClampNeg = x.2 := by rw [tnN hv, e2]; exact c2 dl
      obtain ⟨q1, q2⟩ := hlf T f x.1 x.2 hx dl
      obtain ⟨k1, k2, k3⟩ := rc_leaf dl
      have vc : vp_in c 200 := by rw [vp_in_iff, hS.1]; omega
      rw [if_neg k1, if_neg k2, if_neg k3, hV, q1, tnN hS.1]
      obtain ⟨T', r, u1, u2, u3, u4⟩ := ih n (s + 1) (tI T 140 st.length (lf x.1 x.2)) (lf x.1 x.2 :: st) (c + 1) (v + 1) (fr_I rfl f) ⟨by rw [tinc' (by rw [hS.1]; omega), hS.1, List.length_cons]; rfl, Stk_push hS.2⟩ (by rw [List.length_cons]; omega) hh v1 (by omega) c3 hvl (by omega)
      exact ⟨T', r, u1, ⟨fun q => absurd q d, fun _ => ⟨vv, fun _ => ⟨fun q => absurd q k2, fun _ => ⟨fun q => absurd q k3, fun _ => ⟨vv, q2, vc, u2⟩⟩⟩, fun q => absurd q k1⟩⟩, u3, u4⟩
    · rw [if_neg dl] at hh h150 ⊢
      by_cases d2 : x.1 = 209
      · rw [if_pos d2] at hh ⊢
        have k1 : rc x.1 = 126 := by rw [d2]; rfl
        by_cases d3 : 1 ≤ st.length
        · rw [if_pos d3] at hh
          obtain ⟨a, r0, rfl⟩ : ∃ a r0, st = a :: r0 := by
            cases st with
            | nil => exact absurd d3 (by decide)
            | cons a r0 => exact ⟨a, r0, rfl⟩
          rw [List.length_cons] at h150 hh
          obtain ⟨b1, b2, b3⟩ := hS
          rw [List.length_cons] at b1
          have i1 : (c - 1).toInt = (r0.length : Nat) := by rw [tsub (by omega) (by omega)]; omega
          have vc : vp_in (c - 1) 200 := by rw [vp_in_iff]; omega
          rw [if_pos k1, tnN i1, b2]
          obtain ⟨T', r, u1, u2, u3, u4⟩ := ih n (s + 1) (tI T 140 r0.length (if a = 0 then 1 else 0)) ((if a = 0 then 1 else 0) :: r0) c (v + 1) (fr_I rfl f) ⟨by rw [b1, List.length_cons], Stk_push b3⟩ (by rw [List.length_cons]; omega) hh v1 (by omega) c3 hvl (by omega)
          refine ⟨T', r, ?_, ⟨fun q => absurd q d, fun _ => ⟨vv, fun q => absurd k1 q, fun _ => ⟨vc, fun q => ⟨vc, ?_⟩, fun q => ⟨vc, ?_⟩⟩⟩⟩, u3, u4⟩
          · by_cases a0 : a = 0
            · rw [if_pos a0] at u1 ⊢; exact u1
            · rw [if_neg a0] at u1 ⊢; exact u1
          · rw [if_neg q] at u2; exact u2
          · rw [if_pos q] at u2; exact u2
        · rw [if_neg d3] at hh
          cases hh
      · rw [if_neg d2] at hh ⊢
        by_cases d3 : 2 ≤ st.length
        · rw [if_pos d3] at hh
          obtain ⟨b, a, r0, rfl⟩ : ∃ b a r0, st = b :: a :: r0 := by
            match st, d3 with
            | [], d3 => exact absurd d3 (by decide)
            | [_], d3 => exact absurd d3 (by rw [List.length_singleton]; decide)
            | b :: a :: r0, _ => exact ⟨b, a, r0, rfl⟩
          rw [List.length_cons, List.length_cons] at h150 hh
          obtain ⟨b1, b2, b3, b4⟩ := hS
          rw [List.length_cons, List.length_cons] at b1
          rw [List.length_cons] at b2
          have r2 : r0.length < 199 := by omega
          have y1 : r0.length + 1 + lfN l ≤ 150 := by omega
          have y3 : s + 1 + l.length = E := by omega
          have y4 : l.length < n := by omega
          have i1 : (c + -1).toInt = (r0.length + 1 : Nat) := dec1 b1
          have i2 : (c + -1 - 1).toInt = (r0.length : Nat) := dec2 i1 (Nat.lt_trans r2 (by decide))
          have v1c : vp_in (c + -1) 200 := vpn i1 (Nat.add_lt_add_right r2 1)
          have v2c : vp_in (c + -1 - 1) 200 := vpn i2 (Nat.lt_trans r2 (by decide))
          obtain ⟨w, hw⟩ : ∃ w, jn x.1 a b = w := ⟨_, rfl⟩
          have sk : Stk (va_up (T.1 140) r0.length w) (w :: r0) := Stk_push b4
          have y2 : hts (w :: r0).length l = some 1 := hh
          have y5 : fr (wl [140] []) T0 (tI T 140 r0.length w) := fr_I rfl f
          have y6 : (c + -1).toInt = ((w :: r0).length : Nat) := i1
          obtain ⟨T', r, u1, u2, u3, u4⟩ := ih n (s + 1) (tI T 140 r0.length w) (w :: r0) (c + -1) (v + 1) y5 ⟨y6, sk⟩ y1 y2 v1 y3 c3 hvl y4
          have hj : x.1 = 207 ∨ x.1 = 208 ∨ x.1 = 43 ∨ x.1 = 45 ∨ x.1 = 60 ∨ x.1 = 61 ∨ x.1 = 62 := by
            rcases hx with q | ⟨_, q⟩ | ⟨_, q⟩ | q | q
            · exact absurd (by rw [q.1]; rfl) dl
            · rcases q with q | q | q | q
              · exact absurd (by rw [q.1]; rfl) dl
              · exact absurd (by rw [q]; rfl) dl
              · exact absurd (by rw [q]; rfl) dl
              · exact absurd (by rw [q]; rfl) dl
            · rcases q with q | q | q
              · exact absurd (by rw [q.1]; rfl) dl
              · exact absurd (by rw [q]; rfl) dl
              · exact absurd (by rw [q]; rfl) dl
            · exact absurd q d2
            · exact q
          obtain ⟨j1, j2, j3⟩ := two_jn (T := T) (a := a) (b := b) hj
          rw [if_neg j2, tnN i1, tnN i2, b2, b3, j1, hw]
          refine ⟨T', r, ?_, ⟨fun q => absurd q d, fun _ => ⟨vv, fun _ => ⟨fun _ => ⟨v2c, v1c, v2c, u2⟩, fun _ => ⟨fun _ => ⟨v2c, v1c, v2c, u2⟩, fun w2 => ?_⟩⟩, fun q => absurd q j2⟩⟩, by dsimp only; rw [hw]; exact u3, u4⟩
          · by_cases w : rc x.1 < 97
            · rw [if_pos w]; exact u1
            · rw [if_neg w, if_pos (j3.resolve_left w)]; exact u1
          · rename_i w1
            exact absurd j3 (fun q => q.elim w1 w2)
        · rw [if_neg d3] at hh
          cases hh
/-- a rule gives the same in both -/
theorem e_rul {sz : Nat} {T0 T1 : tT} {p b g : Nat} {m : Bool} {ls ps start from' to e hv : Int32} {h : Nat} (lf : Int32 → Int32 → Int32) (hR : Rul T0 p b m ls ps start from' to) (hu : T0.1 p 3 ≤ 750) (hp : p ≠ 66 ∧ p ≠ 68 ∧ p + 2 ≠ 66 ∧ p + 2 ≠ 68) (hb : b < 5) (hh : hv.toInt = (8 * b + h : Nat)) (h8 : h < 8) (r123 : T1.1 123 = T0.1 123) (r124 : T1.1 124 = T0.1 124) (hlf : ∀ T, fr (wl [68] [(66, 2)]) T0 T → ∀ k v, vI m ls ps k v → lfK k = true → lv5 T g e k v = lf k v ∧ lk5 sz T g e k v) (hlf2 : ∀ T, fr (wl [140] []) T1 T → ∀ k v, vI m ls ps k v → lfK k = true → v_X11_leaf T (rc k) v hv e = lf k v ∧ ok_X11_leaf sz T (rc k) v hv e) : ∃ r, ((F_X4_work T0 p g e start).1 = r ∧ ok_X4_work sz T0 p g e start ∧ fr (wl [68] [(66, 2)]) T0 (F_X4_work T0 p g e start).2) ∧ ((F_X11_work T1 from' to hv e).1 = r ∧ ok_X11_work sz T1 from' to hv e ∧ fr (wl [140] []) T1 (F_X11_work T1 from' to hv e).2) := by
  obtain ⟨l, s, f, a1, a2, a3, a4, a5, a6, a7, a8, a9, a10, a11⟩ := hR
  have hu2 : (T0.1 p 3).toInt ≤ 750 := tle.mp hu
  have s0 : ¬ start < 0 := by rw [tlt, a1, show (0 : Int32).toInt = 0 from rfl]; omega
  have f0 : fr (wl [68] [(66, 2)]) T0 (tI T0 66 2 0) := fr_I rfl fr_refl
  obtain ⟨T', r, u1, u2, u3, u4⟩ := wk5 (sz := sz) (g := g) (e := e) hu hp lf hlf l fu s (tI T0 66 2 0) [] start f0 ⟨rfl, trivial⟩ (by rw [List.length_nil]; omega) (by rw [List.length_nil]; exact a10) a1 a4 a6 a7 a9 (by rw [fu_eq]; omega)
  have z8 : (8 : Int32).toInt = 8 := rfl
  have z15 : (1500 : Int32).toInt = 1500 := rfl
  have hd : (hv / 8).toInt = b := by
    rw [Int32.toInt_div, hh, z8, Int.tdiv_eq_ediv_of_nonneg (by omega), Int.bmod_eq_of_le (by omega) (by omega)]
    omega
  have hb15 : ((1500 : Int32) * (hv / 8)).toInt = 1500 * b := by
    rw [tmul (by rw [z15]; omega) (by rw [z15]; omega), z15, hd]
  have i1 : ((1500 : Int32) * (hv / 8) + from').toInt = (1500 * b + f : Nat) := by rw [tadd (by omega) (by omega)]; omega
  have i2 : ((1500 : Int32) * (hv / 8) + to).toInt = (1500 * b + f + l.length : Nat) := by rw [tadd (by omega) (by omega)]; omega
  obtain ⟨T2, r2, w1, w2, w3, w4⟩ := wk11 (sz := sz) i2 (by omega) lf hlf2 l fu (1500 * b + f) T1 [] 0 ((1500 : Int32) * (hv / 8) + from') fr_refl ⟨rfl, trivial⟩ (by rw [List.length_nil]; omega) (by rw [List.length_nil]; exact a10) i1 rfl (by rw [r123, r124]; exact a8) a9 (by rw [fu_eq]; omega)
  have rr : r2 = r := by
    rw [u3] at w3
    exact (List.cons.inj w3).1.symm
  subst rr
  refine ⟨r2, ?_, ?_⟩
  · unfold F_X4_work ok_X4_work
    rw [if_neg s0, u1]
    exact ⟨rfl, u2, u4⟩
  · unfold F_X11_work ok_X11_work
    rw [w1]
    exact ⟨rfl, w2, w4⟩
