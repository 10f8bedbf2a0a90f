/-! certify -/
/-- an entry has a certificate, from place i on, that a result is good enough for -/
def anyC (T : tT) (e r : Int32) (k C : Nat) : Prop := ∃ i, k ≤ i ∧ i < C ∧ T.1 102 i = e ∧ T.1 104 i ≤ r
theorem anyC_s {T : tT} {e r : Int32} {k C : Nat} (h : k < C) : anyC T e r k C ↔ (T.1 102 k = e ∧ T.1 104 k ≤ r) ∨ anyC T e r (k + 1) C := by
  constructor
  · rintro ⟨i, i1, i2, i3⟩
    by_cases c : i = k
    · subst c; exact Or.inl i3
    · exact Or.inr ⟨i, by omega, i2, i3⟩
  · rintro (q | ⟨i, i1, i2, i3⟩)
    · exact ⟨k, Nat.le_refl _, h, q⟩
    · exact ⟨i, by omega, i2, i3⟩
theorem l_anyUp {sz : Nat} {T : tT} (e r : Int32) {C : Nat} (hC : (T.1 101 0).toInt = C) (C60 : C ≤ 60) : ∀ (m n k : Nat) (v : Int32), v.toInt = k → k + m = C → m < n → (anyC T e r k C → vl_X0_anyUpTo n T e r v = 1) ∧ (¬ anyC T e r k C → vl_X0_anyUpTo n T e r v = 0) ∧ okl_X0_anyUpTo n sz T e r v := by
  intro m
  induction m with
  | zero =>
    intro n k v hv hk hn
    obtain ⟨n, rfl⟩ : ∃ n', n = n' + 1 := ⟨n - 1, by omega⟩
    have c : T.1 101 0 ≤ v := by rw [tle]; omega
    rw [vl_X0_anyUpTo_s, if_pos c]
    simp only [okl_X0_anyUpTo]
    exact ⟨fun ⟨i, i1, i2, _⟩ => by omega, (by intro _; trivial), fun _ => trivial, fun q => absurd c q⟩
  | succ m ih =>
    intro n k v hv hk hn
    obtain ⟨n, rfl⟩ : ∃ n', n = n' + 1 := ⟨n - 1, by omega⟩
    have c : ¬ T.1 101 0 ≤ v := by rw [tle]; omega
    have vv : vp_in v 60 := by rw [vp_in_iff]; omega
    obtain ⟨u1, u2, u3⟩ := ih n (k + 1) (v + 1) (by rw [tinc' (by omega)]; omega) (by omega) (by omega)
    rw [vl_X0_anyUpTo_s, if_neg c, tnN hv, anyC_s (by omega)]
    simp only [okl_X0_anyUpTo]
    rw [tnN hv]
    refine ⟨?_, ?_, fun q => absurd q c, fun _ => ⟨vv, fun _ => u3, fun _ => ⟨vv, fun _ => u3, fun _ => trivial⟩⟩⟩
    · grind
    · grind
theorem hold_eq {sz : Nat} {T Tr : tT} (hI : I7 sz T) (f : fr (wl sA sB) T Tr) (hr : Tr.1 158 = T.1 158 ∧ Tr.1 159 = T.1 159 ∧ Tr.1 160 = T.1 160) {e r : Int32} (h0 : 0 ≤ e) (h1 : e < T.1 69 0) (hres : (F_X10_resultOf T e (T.1 93 0)).1 = r) {x : Int32} {i : Nat} (hx : x.toInt = (i + 1 : Nat)) (hi : i < 60) (he : T.1 102 i = e) : (T.1 104 i ≤ r → (F_X11_doesHold Tr x (T.1 93 0)).1 = 1) ∧ (¬ T.1 104 i ≤ r → (F_X11_doesHold Tr x (T.1 93 0)).1 = 0) ∧ ok_X11_doesHold sz Tr x (T.1 93 0) ∧ fr (wl [140, 141] []) Tr (F_X11_doesHold Tr x (T.1 93 0)).2 := by
  have hS := hI.1.2.2.2.1
  have rr := hS.2.2.1 i
  have d0 : ¬ T.1 93 0 < T.1 103 i := by have := hS.2.2.2.2.2.1 i; grind
  obtain ⟨r', k1, k2, k3, k4, k5, k6, k7⟩ := result_eq (I7_J hI) f h0 h1 (T.1 93 0)
  have v' : vp_in x 61 := by rw [vp_in_iff]; omega
  have e160 : (F_X11_result Tr e (T.1 93 0)).2.1 160 = T.1 160 := (fr_ri k6 (fun _ => rfl)).trans hr.2.2
  have D : F_X11_doesHold Tr x (T.1 93 0) = (if r < T.1 104 i then 0 else 1, (F_X11_result Tr e (T.1 93 0)).2) := by
    unfold F_X11_doesHold
    rw [tnN hx, hr.1, hr.2.1, rr.1, rr.2.1, if_neg d0, he, e160, rr.2.2, k4, ← k1, hres]
    by_cases w : r < T.1 104 i
    · rw [if_pos w, if_pos w]
    · rw [if_neg w, if_neg w]
  rw [D]
  refine ⟨fun w => ?_, fun w => ?_, ?_, k6⟩
  · dsimp only
    rw [if_neg (by grind)]
  · dsimp only
    rw [if_pos (by grind)]
  · unfold ok_X11_doesHold
    rw [tnN hx, hr.1, hr.2.1, rr.1, rr.2.1, he]
    exact ⟨v', fun _ => trivial, fun _ => ⟨v', k5, v'⟩⟩
theorem l_cert {sz : Nat} {T T2 : tT} (hI : I7 sz T) (f2 : fr (wl [67, 68, 102, 103, 104, 140, 141] [(66, 2), (101, 0)]) T T2) {e r : Int32} (h0 : 0 ≤ e) (h1 : e < T.1 69 0) (hres : (F_X10_resultOf T e (T.1 93 0)).1 = r) {C : Nat} (hC : (T.1 101 0).toInt = C) (C60 : C < 60) : ∀ (m n k : Nat) (Tr : tT) (v : Int32), fr (wl [140, 141] []) T2 Tr → v.toInt = (k + 1 : Nat) → k + m = C → m < n → ∃ Tr', fr (wl [140, 141] []) T2 Tr' ∧ (anyC T e r k C → vl_X11_certify n Tr e r v = (-1, Tr')) ∧ (¬ anyC T e r k C → vl_X11_certify n Tr e r v = (T.1 101 0 + 1, tI (tI (tI (tI Tr' 105 76 (T.1 101 0 + 1)) 158 (C + 1) e) 159 (C + 1) (T.1 93 0)) 160 (C + 1) r)) ∧ okl_X11_certify n sz Tr e r v := by
  have hS := hI.1.2.2.2.1
  have q := hS.1
  have d71 := hI.1.2.2.1.1.2
  have e1C : (T.1 101 0 + 1).toInt = (C + 1 : Nat) := by rw [tinc' (by omega)]; omega
  have vC : vp_in (T.1 101 0 + 1) 61 := by rw [vp_in_iff]; omega
  intro m
  induction m with
  | zero =>
    intro n k Tr v f hv hk hn
    obtain ⟨n, rfl⟩ : ∃ n', n = n' + 1 := ⟨n - 1, by omega⟩
    have s76 : Tr.1 105 76 = T.1 101 0 := by rw [← q]; exact (fr_i f rfl).trans (fr_i f2 rfl)
    have s71 : Tr.1 105 71 = T.1 93 0 := by rw [← d71]; exact (fr_i f rfl).trans (fr_i f2 rfl)
    have c : T.1 101 0 < v := by rw [tlt]; omega
    rw [vl_X11_certify_s, s76, s71, if_pos c, tnN e1C]
    simp only [okl_X11_certify]
    rw [s76]
    exact ⟨Tr, f, fun ⟨i, i1, i2, _⟩ => by omega, fun _ => rfl, fun _ => ⟨vC, vC, vC⟩, fun w => absurd c w⟩
  | succ m ih =>
    intro n k Tr v f hv hk hn
    obtain ⟨n, rfl⟩ : ∃ n', n = n' + 1 := ⟨n - 1, by omega⟩
    have s76 : Tr.1 105 76 = T.1 101 0 := by rw [← q]; exact (fr_i f rfl).trans (fr_i f2 rfl)
    have s71 : Tr.1 105 71 = T.1 93 0 := by rw [← d71]; exact (fr_i f rfl).trans (fr_i f2 rfl)
    have s158 : Tr.1 158 = T.1 158 := (fr_ri f (fun _ => rfl)).trans (fr_ri f2 (fun _ => rfl))
    have s159 : Tr.1 159 = T.1 159 := (fr_ri f (fun _ => rfl)).trans (fr_ri f2 (fun _ => rfl))
    have s160 : Tr.1 160 = T.1 160 := (fr_ri f (fun _ => rfl)).trans (fr_ri f2 (fun _ => rfl))
    have c : ¬ T.1 101 0 < v := by rw [tlt]; omega
    have vv : vp_in v 61 := by rw [vp_in_iff]; omega
    have rr := (hS.2.2.1 k).1
    have st : (v + 1).toInt = (k + 1 + 1 : Nat) := by rw [tinc' (by omega)]; omega
    rw [vl_X11_certify_s, s76, s71, if_neg c, tnN hv, s158, rr, anyC_s (by omega)]
    simp only [okl_X11_certify]
    rw [s76, s71, tnN hv, s158, rr]
    by_cases he : T.1 102 k = e
    · rw [if_pos he]
      obtain ⟨y1, y2, y3, y4⟩ := hold_eq (sz := sz) hI (fr_mono rfl (fr_trans f2 (fr_mono rfl f))) ⟨s158, s159, s160⟩ h0 h1 hres hv (by omega) he
      by_cases g : T.1 104 k ≤ r
      · have n0 : ¬ (F_X11_doesHold Tr v (T.1 93 0)).1 = 0 := by rw [y1 g]; decide
        rw [if_neg n0]
        exact ⟨_, fr_trans f y4, fun _ => rfl, fun w => absurd (Or.inl ⟨he, g⟩) w, fun w => absurd w c, fun _ => ⟨vv, fun w => absurd he w, fun _ => ⟨y3, fun w => absurd w n0, fun _ => trivial⟩⟩⟩
      · have n0 : (F_X11_doesHold Tr v (T.1 93 0)).1 = 0 := y2 g
        obtain ⟨Tr', u1, u2, u3, u4⟩ := ih n (k + 1) _ (v + 1) (fr_trans f y4) st (by omega) (by omega)
        rw [if_pos n0]
        exact ⟨Tr', u1, fun w => u2 (w.resolve_left (fun w => g w.2)), fun w => u3 (fun w2 => w (Or.inr w2)), fun w => absurd w c, fun _ => ⟨vv, fun w => absurd he w, fun _ => ⟨y3, fun _ => u4, fun w => absurd n0 w⟩⟩⟩
    · rw [if_neg he]
      obtain ⟨Tr', u1, u2, u3, u4⟩ := ih n (k + 1) Tr (v + 1) f st (by omega) (by omega)
      exact ⟨Tr', u1, fun w => u2 (w.resolve_left (fun w => he w.1)), fun w => u3 (fun w2 => w (Or.inr w2)), fun w => absurd w c, fun _ => ⟨vv, fun _ => u4, fun w => absurd w he⟩⟩
theorem q_certify {sz : Nat} {T : tT} (h : I7 sz T) (x0 : Int32) : ok_X10_certify sz T x0 ∧ ok_X11_certify sz (F_X10_certify T x0).2 x0 ∧ (F_X10_certify T x0).2.1 0 = T.1 0 ∧ (F_X10_certify T x0).1 = (F_X11_certify (F_X10_certify T x0).2 x0).1 ∧ I7 sz (F_X11_certify (F_X10_certify T x0).2 x0).2 := by
  obtain ⟨⟨hC, hE, hL, hS, hA, hP⟩, hX⟩ := id h
  have q := hS.1
  have b := hS.2.1
  have d71 := hL.1.2
  by_cases c : 0 ≤ x0 ∧ x0 < T.1 69 0
  · have h10 : ¬ v_X2_has T x0 = 0 := by unfold v_X2_has; grind
    obtain ⟨r, j1, j2, j3, j4, j5, j6, j7⟩ := result_eq (I7_J h) (fr_refl (T := T)) c.1 c.2 (T.1 93 0)
    obtain ⟨C, hCn⟩ : ∃ C : Nat, (T.1 101 0).toInt = C := ⟨(T.1 101 0).toInt.toNat, by have := tle.mp b.1; have z : (0 : Int32).toInt = 0 := rfl; omega⟩
    have C60 : C ≤ 60 := by have := tle.mp b.2; have z : (60 : Int32).toInt = 60 := rfl; omega
    -- the reference's first result, after the class
    have key : ∀ T2, fr (wl sA sB) T T2 → T2.1 105 71 = T.1 93 0 → (F_X11_result T2 x0 (T2.1 105 71)).1 = r ∧ ok_X11_result sz T2 x0 (T2.1 105 71) ∧ fr (wl [140, 141] []) T2 (F_X11_result T2 x0 (T2.1 105 71)).2 := by
      intro T2 f e71
      obtain ⟨r', k1, k2, k3, k4, k5, k6, k7⟩ := result_eq (I7_J h) f c.1 c.2 (T.1 93 0)
      rw [e71]
      exact ⟨k4.trans (k1.symm.trans j1), k5, k6⟩
    have t1_101 : (F_X10_resultOf T x0 (T.1 93 0)).2.1 101 0 = T.1 101 0 := fr_i j3 rfl
    by_cases l1 : r < 1
    · have E1 : F_X10_certify T x0 = (-1, (F_X10_resultOf T x0 (T.1 93 0)).2) := by
        unfold F_X10_certify
        rw [if_neg h10, j1, if_pos l1]
      have o1 : ok_X10_certify sz T x0 := by
        unfold ok_X10_certify
        rw [j1]
        exact ⟨fun _ => ⟨j2, fun _ => trivial, fun w => absurd l1 w⟩, fun _ => trivial⟩
      rw [E1]
      dsimp only
      obtain ⟨k1, k2, k3⟩ := key _ (fr_mono rfl j3) ((fr_i j3 (k := 105) (i := 71) rfl).trans d71)
      have E2 : F_X11_certify (F_X10_resultOf T x0 (T.1 93 0)).2 x0 = (-1, (F_X11_result (F_X10_resultOf T x0 (T.1 93 0)).2 x0 ((F_X10_resultOf T x0 (T.1 93 0)).2.1 105 71)).2) := by
        unfold F_X11_certify
        rw [k1, if_pos l1]
      have o2 : ok_X11_certify sz (F_X10_resultOf T x0 (T.1 93 0)).2 x0 := by
        unfold ok_X11_certify
        rw [k1]
        exact ⟨k2, fun _ => trivial, fun w => absurd l1 w⟩
      rw [E2]
      exact ⟨o1, o2, fr_ri j3 (fun _ => rfl), rfl, I7_wk (fr_trans (fr_mono rfl j3) (fr_mono rfl k3)) h⟩
    · have fm : fr (wl sA sB) T (F_X10_resultOf T x0 (T.1 93 0)).2 := fr_mono rfl j3
      have C1 : ((F_X10_resultOf T x0 (T.1 93 0)).2.1 101 0).toInt = C := by rw [t1_101]; exact hCn
      obtain ⟨u1, u2, u3⟩ := l_anyUp (sz := sz) (T := (F_X10_resultOf T x0 (T.1 93 0)).2) x0 r C1 C60 C fu 0 0 rfl (by omega) (by rw [fu_eq]; omega)
      have r102 : (F_X10_resultOf T x0 (T.1 93 0)).2.1 102 = T.1 102 := fr_ri j3 (fun _ => rfl)
      have r104 : (F_X10_resultOf T x0 (T.1 93 0)).2.1 104 = T.1 104 := fr_ri j3 (fun _ => rfl)
      have ae : anyC (F_X10_resultOf T x0 (T.1 93 0)).2 x0 r 0 C ↔ anyC T x0 r 0 C := by
        unfold anyC
        rw [r102, r104]
      rw [ae] at u1 u2
      by_cases a : anyC T x0 r 0 C
      · have nz : ¬ v_X0_anyUpTo (F_X10_resultOf T x0 (T.1 93 0)).2 x0 r = 0 := by
          unfold v_X0_anyUpTo
          rw [u1 a]
          decide
        have E1 : F_X10_certify T x0 = (-1, (F_X10_resultOf T x0 (T.1 93 0)).2) := by
          unfold F_X10_certify
          rw [if_neg h10, j1, if_neg l1, if_neg nz]
        have o1 : ok_X10_certify sz T x0 := by
          unfold ok_X10_certify
          rw [j1]
          exact ⟨fun _ => ⟨j2, fun _ => trivial, fun _ => ⟨u3, fun w => absurd w nz, fun _ => trivial⟩⟩, fun _ => trivial⟩
        rw [E1]
        dsimp only
        obtain ⟨k1, k2, k3⟩ := key _ fm ((fr_i j3 (k := 105) (i := 71) rfl).trans d71)
        have s76 : (F_X11_result (F_X10_resultOf T x0 (T.1 93 0)).2 x0 ((F_X10_resultOf T x0 (T.1 93 0)).2.1 105 71)).2.1 105 76 = T.1 101 0 := by
          rw [← q]
          exact (fr_i k3 rfl).trans (fr_i j3 rfl)
        by_cases c60 : T.1 101 0 = 60
        · have E2 : F_X11_certify (F_X10_resultOf T x0 (T.1 93 0)).2 x0 = (-1, (F_X11_result (F_X10_resultOf T x0 (T.1 93 0)).2 x0 ((F_X10_resultOf T x0 (T.1 93 0)).2.1 105 71)).2) := by
            unfold F_X11_certify
            rw [k1, if_neg l1, s76, if_pos c60]
          have o2 : ok_X11_certify sz (F_X10_resultOf T x0 (T.1 93 0)).2 x0 := by
            unfold ok_X11_certify
            rw [k1, s76]
            exact ⟨k2, fun _ => trivial, fun _ => ⟨fun w => absurd c60 w, fun _ => trivial⟩⟩
          rw [E2]
          exact ⟨o1, o2, fr_ri j3 (fun _ => rfl), rfl, I7_wk (fr_trans (fr_mono rfl j3) (fr_mono rfl k3)) h⟩
        · have lt60 : C < 60 := by
            rcases Nat.lt_or_ge C 60 with w | w
            · exact w
            · exact absurd (by rw [teq, hCn, show (60 : Int32).toInt = 60 from rfl]; omega) c60
          obtain ⟨Tr', w1, w2, w3, w4⟩ := l_cert (sz := sz) h (T2 := (F_X10_resultOf T x0 (T.1 93 0)).2) (fr_mono rfl j3) c.1 c.2 j1 hCn lt60 C fu 0 _ 1 k3 rfl (by omega) (by rw [fu_eq]; omega)
          have E2 : F_X11_certify (F_X10_resultOf T x0 (T.1 93 0)).2 x0 = (-1, Tr') := by
            unfold F_X11_certify
            rw [k1, if_neg l1, s76, if_neg c60, w2 a]
          have o2 : ok_X11_certify sz (F_X10_resultOf T x0 (T.1 93 0)).2 x0 := by
            unfold ok_X11_certify
            rw [k1, s76]
            exact ⟨k2, fun _ => trivial, fun _ => ⟨fun _ => w4, fun w => absurd w c60⟩⟩
          rw [E2]
          exact ⟨o1, o2, fr_ri j3 (fun _ => rfl), rfl, I7_wk (fr_trans (fr_mono rfl j3) (fr_mono rfl w1)) h⟩
      · have z : v_X0_anyUpTo (F_X10_resultOf T x0 (T.1 93 0)).2 x0 r = 0 := by
          unfold v_X0_anyUpTo
          exact u2 a
        have d93 : (F_X10_resultOf T x0 (T.1 93 0)).2.1 93 0 = T.1 93 0 := fr_i j3 rfl
        have E1 : F_X10_certify T x0 = F_X0_give (F_X10_resultOf T x0 (T.1 93 0)).2 x0 (T.1 93 0) r := by
          unfold F_X10_certify
          rw [if_neg h10, j1, if_neg l1, if_pos z, d93]
        by_cases c60 : T.1 101 0 = 60
        · have G : F_X0_give (F_X10_resultOf T x0 (T.1 93 0)).2 x0 (T.1 93 0) r = (-1, (F_X10_resultOf T x0 (T.1 93 0)).2) := by
            unfold F_X0_give
            rw [t1_101, if_neg (by rw [c60]; decide)]
          have o1 : ok_X10_certify sz T x0 := by
            unfold ok_X10_certify ok_X0_give
            rw [j1, t1_101]
            exact ⟨fun _ => ⟨j2, fun _ => trivial, fun _ => ⟨u3, fun _ => ⟨⟨fun w => absurd w (by rw [c60]; decide), fun _ => trivial⟩, trivial⟩, fun _ => trivial⟩⟩, fun _ => trivial⟩
          rw [E1, G]
          dsimp only
          obtain ⟨k1, k2, k3⟩ := key _ fm ((fr_i j3 (k := 105) (i := 71) rfl).trans d71)
          have s76 : (F_X11_result (F_X10_resultOf T x0 (T.1 93 0)).2 x0 ((F_X10_resultOf T x0 (T.1 93 0)).2.1 105 71)).2.1 105 76 = T.1 101 0 := by
            rw [← q]
            exact (fr_i k3 rfl).trans (fr_i j3 rfl)
          have E2 : F_X11_certify (F_X10_resultOf T x0 (T.1 93 0)).2 x0 = (-1, (F_X11_result (F_X10_resultOf T x0 (T.1 93 0)).2 x0 ((F_X10_resultOf T x0 (T.1 93 0)).2.1 105 71)).2) := by
            unfold F_X11_certify
            rw [k1, if_neg l1, s76, if_pos c60]
          have o2 : ok_X11_certify sz (F_X10_resultOf T x0 (T.1 93 0)).2 x0 := by
            unfold ok_X11_certify
            rw [k1, s76]
            exact ⟨k2, fun _ => trivial, fun _ => ⟨fun w => absurd c60 w, fun _ => trivial⟩⟩
          rw [E2]
          exact ⟨o1, o2, fr_ri j3 (fun _ => rfl), rfl, I7_wk (fr_trans (fr_mono rfl j3) (fr_mono rfl k3)) h⟩
        · have lt60 : C < 60 := by
            rcases Nat.lt_or_ge C 60 with w | w
            · exact w
            · exact absurd (by rw [teq, hCn, show (60 : Int32).toInt = 60 from rfl]; omega) c60
          have l60 : T.1 101 0 < 60 := by rw [tlt, hCn, show (60 : Int32).toInt = 60 from rfl]; omega
          have v60 : vp_in (T.1 101 0) 60 := by rw [vp_in_iff]; omega
          have G : F_X0_give (F_X10_resultOf T x0 (T.1 93 0)).2 x0 (T.1 93 0) r = (T.1 101 0 + 1, tI (tI (tI (tI (F_X10_resultOf T x0 (T.1 93 0)).2 102 C x0) 103 C (T.1 93 0)) 104 C r) 101 0 (T.1 101 0 + 1)) := by
            unfold F_X0_give
            rw [t1_101, if_pos l60, tnN hCn]
          have o1 : ok_X10_certify sz T x0 := by
            unfold ok_X10_certify ok_X0_give
            rw [j1, t1_101]
            exact ⟨fun _ => ⟨j2, fun _ => trivial, fun _ => ⟨u3, fun _ => ⟨⟨fun _ => ⟨v60, v60, v60⟩, fun w => absurd l60 w⟩, trivial⟩, fun _ => trivial⟩⟩, fun _ => trivial⟩
          rw [E1, G]
          dsimp only
          have f2 : fr (wl [67, 68, 102, 103, 104, 140, 141] [(66, 2), (101, 0)]) T (tI (tI (tI (tI (F_X10_resultOf T x0 (T.1 93 0)).2 102 C x0) 103 C (T.1 93 0)) 104 C r) 101 0 (T.1 101 0 + 1)) := fr_I rfl (fr_I rfl (fr_I rfl (fr_I rfl (fr_mono rfl j3))))
          have g102 : (tI (tI (tI (tI (F_X10_resultOf T x0 (T.1 93 0)).2 102 C x0) 103 C (T.1 93 0)) 104 C r) 101 0 (T.1 101 0 + 1)).1 102 = va_up (T.1 102) C x0 := by
            show va_up ((F_X10_resultOf T x0 (T.1 93 0)).2.1 102) C x0 = _
            rw [r102]
          have g103 : (tI (tI (tI (tI (F_X10_resultOf T x0 (T.1 93 0)).2 102 C x0) 103 C (T.1 93 0)) 104 C r) 101 0 (T.1 101 0 + 1)).1 103 = va_up (T.1 103) C (T.1 93 0) := by
            show va_up ((F_X10_resultOf T x0 (T.1 93 0)).2.1 103) C (T.1 93 0) = _
            rw [show (F_X10_resultOf T x0 (T.1 93 0)).2.1 103 = T.1 103 from fr_ri j3 (fun _ => rfl)]
          have g104 : (tI (tI (tI (tI (F_X10_resultOf T x0 (T.1 93 0)).2 102 C x0) 103 C (T.1 93 0)) 104 C r) 101 0 (T.1 101 0 + 1)).1 104 = va_up (T.1 104) C r := by
            show va_up ((F_X10_resultOf T x0 (T.1 93 0)).2.1 104) C r = _
            rw [r104]
          have g101 : (tI (tI (tI (tI (F_X10_resultOf T x0 (T.1 93 0)).2 102 C x0) 103 C (T.1 93 0)) 104 C r) 101 0 (T.1 101 0 + 1)).1 101 0 = T.1 101 0 + 1 := rfl
          have z0 : (tI (tI (tI (tI (F_X10_resultOf T x0 (T.1 93 0)).2 102 C x0) 103 C (T.1 93 0)) 104 C r) 101 0 (T.1 101 0 + 1)).1 0 = T.1 0 := fr_ri f2 (fun _ => rfl)
          generalize tI (tI (tI (tI (F_X10_resultOf T x0 (T.1 93 0)).2 102 C x0) 103 C (T.1 93 0)) 104 C r) 101 0 (T.1 101 0 + 1) = T2 at *
          obtain ⟨k1, k2, k3⟩ := key T2 (fr_mono rfl f2) ((fr_i f2 (k := 105) (i := 71) rfl).trans d71)
          have s76 : (F_X11_result T2 x0 (T2.1 105 71)).2.1 105 76 = T.1 101 0 := by
            rw [← q]
            exact (fr_i k3 rfl).trans (fr_i f2 rfl)
          obtain ⟨Tr', w1, w2, w3, w4⟩ := l_cert (sz := sz) h (T2 := T2) f2 c.1 c.2 j1 hCn lt60 C fu 0 _ 1 k3 rfl (by omega) (by rw [fu_eq]; omega)
          have E2 : F_X11_certify T2 x0 = (T.1 101 0 + 1, tI (tI (tI (tI Tr' 105 76 (T.1 101 0 + 1)) 158 (C + 1) x0) 159 (C + 1) (T.1 93 0)) 160 (C + 1) r) := by
            unfold F_X11_certify
            rw [k1, if_neg l1, s76, if_neg c60, w3 a]
          have o2 : ok_X11_certify sz T2 x0 := by
            unfold ok_X11_certify
            rw [k1, s76]
            exact ⟨k2, fun _ => trivial, fun _ => ⟨fun _ => w4, fun w => absurd w c60⟩⟩
          rw [E2]
          have ff : fr (wl sA sB) T (tI (tI (tI (tI Tr' 105 76 (T.1 101 0 + 1)) 158 (C + 1) x0) 159 (C + 1) (T.1 93 0)) 160 (C + 1) r) := fr_I rfl (fr_I rfl (fr_I rfl (fr_I rfl (fr_trans (fr_mono rfl f2) (fr_mono rfl w1)))))
          have t158 : Tr'.1 158 = T.1 158 := (fr_ri w1 (fun _ => rfl)).trans (fr_ri f2 (fun _ => rfl))
          have t159 : Tr'.1 159 = T.1 159 := (fr_ri w1 (fun _ => rfl)).trans (fr_ri f2 (fun _ => rfl))
          have t160 : Tr'.1 160 = T.1 160 := (fr_ri w1 (fun _ => rfl)).trans (fr_ri f2 (fun _ => rfl))
          have t102 : Tr'.1 102 = va_up (T.1 102) C x0 := (fr_ri w1 (fun _ => rfl)).trans g102
          have t103 : Tr'.1 103 = va_up (T.1 103) C (T.1 93 0) := (fr_ri w1 (fun _ => rfl)).trans g103
          have t104 : Tr'.1 104 = va_up (T.1 104) C r := (fr_ri w1 (fun _ => rfl)).trans g104
          have t101 : Tr'.1 101 0 = T.1 101 0 + 1 := (fr_i w1 rfl).trans g101
          have t69 : Tr'.1 69 0 = T.1 69 0 := (fr_i w1 rfl).trans (fr_i f2 rfl)
          have t93 : Tr'.1 93 0 = T.1 93 0 := (fr_i w1 rfl).trans (fr_i f2 rfl)
          refine ⟨o1, o2, z0, rfl, ⟨ICi_fz (fz_of ff rfl) hC, IEn_fz (fz_of ff rfl) hE, ILe_fz (fz_of ff rfl) hL, ?_, ITa_fz (fz_of ff rfl) hA, IPl_fz (fz_of ff rfl) hP⟩, ITx_fr ff rfl hX⟩
          obtain ⟨a1, a2, a3, a4, a5, a6, a7⟩ := hS
          refine ⟨t101.symm, ?_, ?_, ?_, ?_, ?_, ?_⟩
          · show 0 ≤ Tr'.1 101 0 ∧ Tr'.1 101 0 ≤ 60
            rw [t101]
            grind
          · intro i
            show va_up (Tr'.1 158) (C + 1) x0 (i + 1) = Tr'.1 102 i ∧ va_up (Tr'.1 159) (C + 1) (T.1 93 0) (i + 1) = Tr'.1 103 i ∧ va_up (Tr'.1 160) (C + 1) r (i + 1) = Tr'.1 104 i
            rw [t158, t159, t160, t102, t103, t104]
            have := a3 i
            unfold va_up
            by_cases ci : i = C
            · have c1 : i + 1 = C + 1 := by omega
              rw [if_pos c1, if_pos c1, if_pos c1, if_pos ci, if_pos ci, if_pos ci]
              exact ⟨rfl, rfl, rfl⟩
            · have c1 : ¬ i + 1 = C + 1 := by omega
              rw [if_neg c1, if_neg c1, if_neg c1, if_neg ci, if_neg ci, if_neg ci]
              exact this
          · intro i
            show 0 ≤ Tr'.1 102 i
            rw [t102]
            unfold va_up
            have := a4 i
            grind
          · intro x y0 y1
            replace y1 : x < Tr'.1 101 0 := y1
            show Tr'.1 102 x.toNatClampNeg < Tr'.1 69 0
            rw [t101] at y1
            rw [t102, t69]
            unfold va_up
            by_cases hx : x = T.1 101 0
            · rw [hx, tnN hCn, if_pos rfl]
              exact c.2
            · have nx : x.toNatClampNeg ≠ C := by
                rw [← tnN hCn]
                exact tnc_ne y0 a2.1 hx
              rw [if_neg nx]
              exact a5 x y0 (by grind)
          · intro i
            show Tr'.1 103 i ≤ Tr'.1 93 0
            rw [t103, t93]
            unfold va_up
            have := a6 i
            grind
          · intro i
            show 0 ≤ Tr'.1 104 i ∧ Tr'.1 104 i ≤ 2
            rw [t104]
            unfold va_up
            have := a7 i
            grind
  · have h10 : v_X2_has T x0 = 0 := by unfold v_X2_has; grind
    have h11 : v_X11_isEntry T x0 = 0 := by unfold v_X11_isEntry; rw [hE.1]; grind
    have E1 : F_X10_certify T x0 = (-1, T) := by unfold F_X10_certify; rw [if_pos h10]
    have R2 : F_X11_result T x0 (T.1 105 71) = (-1, T) := by unfold F_X11_result; rw [if_pos h11]
    have E2 : F_X11_certify T x0 = (-1, T) := by unfold F_X11_certify; rw [R2, if_pos (show (-1 : Int32) < 1 by decide)]
    have o2 : ok_X11_certify sz T x0 := by
      unfold ok_X11_certify
      rw [R2]
      exact ⟨⟨fun _ => trivial, fun w => absurd h11 w⟩, fun _ => trivial, fun w => absurd (show (-1 : Int32) < 1 by decide) w⟩
    rw [E1]
    dsimp only
    rw [E2]
    exact ⟨⟨fun w => absurd h10 w, fun _ => trivial⟩, o2, rfl, rfl, h⟩
