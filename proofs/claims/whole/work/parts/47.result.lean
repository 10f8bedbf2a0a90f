/-! judge and result, pairwise -/
theorem mainOf_cg {T T' : tT} (h : mEq T T') (e d : Int32) : v_X5_mainOf T' e d = v_X5_mainOf T e d := by
  obtain ⟨h1, h2, h3, h4, h5, h6, h7⟩ := h
  have l : ∀ n v, vl_X5_mainOf n T' e d v = vl_X5_mainOf n T e d v := by
    intro n
    induction n with
    | zero => intro v; rfl
    | succ n ih =>
      intro v
      rw [vl_X5_mainOf_s, vl_X5_mainOf_s]
      unfold v_X5_isKnown v_X5_stands
      rw [h1, h2, h3, h6, h7, ih]
  exact l fu 0
theorem knownP_cg {T T' : tT} (h : mEq T T') (e q d : Int32) : v_X5_knownPoints T' e q d = v_X5_knownPoints T e q d := by
  unfold v_X5_knownPoints
  rw [lastOf5_cg h, mainOf_cg h, lastOf5_cg h, h.2.2.2.2.1]
theorem fr_mEq2 {T T' : tT} (f : fr (wl sA sB) T T') : mEq T T' :=
  have g := fz_of (CA := [93, 94, 95, 96, 97, 98, 99]) (CB := []) f rfl
  ⟨fz_r g 93 rfl, fz_r g 94 rfl, fz_r g 95 rfl, fz_r g 96 rfl, fz_r g 97 rfl, fz_r g 98 rfl, fz_r g 99 rfl⟩
theorem res_l {sz : Nat} {T : tT} {p b j : Nat} {e hv : Int32} {en : Nat} (d : Int32) (hI : J7 sz T) (hG : Gr sz T p b j e hv en) {P : Nat} (hP : (T.1 (p + 3 + 7 * j) 2).toInt = P) (P6 : P ≤ 6) : ∀ (m n n' k : Nat) (Tc Tr : tT) (v : Int32), fr (wl sA sB) T Tc → fr (wl sA sB) T Tr → v.toInt = k → k + m = P → (∀ i, i < k → Tr.1 141 i = Tc.1 67 i) → m < n → m < n' → ∃ r, ((vl_X10_resultOf n) Tc p (p + 3 + 7 * j) e d v).1 = r ∧ (okl_X10_resultOf n) sz Tc p (p + 3 + 7 * j) e d v ∧ fr (wl [67, 68] [(66, 2)]) Tc ((vl_X10_resultOf n) Tc p (p + 3 + 7 * j) e d v).2 ∧ (vl_X11_result n' Tr e d hv v).1 = r ∧ okl_X11_result n' sz Tr e d hv v ∧ fr (wl [140, 141] []) Tr (vl_X11_result n' Tr e d hv v).2 ∧ (-1 ≤ r ∧ r ≤ 2) := by
  obtain ⟨⟨b5, j8⟩, hp6, hu, hGB, hh, he, e40⟩ := id hG
  have vh : vp_in hv 40 := by rw [vp_in_iff]; omega
  intro m
  induction m with
  | zero =>
    intro n n' k Tc Tr v fc fr' hk hm hpt hn hn'
    obtain ⟨n, rfl⟩ : ∃ n0, n = n0 + 1 := ⟨n - 1, by omega⟩
    obtain ⟨n', rfl⟩ : ∃ n0, n' = n0 + 1 := ⟨n' - 1, by omega⟩
    have gc := (Gr_fx fc hp6).2 (p + 3 + 7 * j) (by omega) (by omega)
    have gr := (Gr_fx fr' hp6).1
    have c1 : Tc.1 (p + 3 + 7 * j) 2 ≤ v := by rw [gc.1, tle]; omega
    have c2 : Tr.1 113 hv.toNatClampNeg ≤ v := by rw [(gr 113 (by decide) (by decide)).1, tnN hh, ← hGB.2.1.1, tle]; omega
    have r119 : Tr.1 119 hv.toNatClampNeg = T.1 119 (8 * b + j) := by rw [(gr 119 (by decide) (by decide)).1, tnN hh]
    have r120 : Tr.1 120 hv.toNatClampNeg = T.1 120 (8 * b + j) := by rw [(gr 120 (by decide) (by decide)).1, tnN hh]
    have r121 : Tr.1 121 hv.toNatClampNeg = T.1 121 (8 * b + j) := by rw [(gr 121 (by decide) (by decide)).1, tnN hh]
    have r122 : Tr.1 122 hv.toNatClampNeg = T.1 122 (8 * b + j) := by rw [(gr 122 (by decide) (by decide)).1, tnN hh]
    have c5 : Tc.1 (p + 3 + 7 * j) 5 = T.1 (p + 3 + 7 * j) 5 := by rw [gc.1]
    have c6 : Tc.1 (p + 3 + 7 * j) 6 = T.1 (p + 3 + 7 * j) 6 := by rw [gc.1]
    have agr : ∀ i : Nat, (i : Int) < (T.1 (p + 3 + 7 * j) 2).toInt → Tr.1 141 i = Tc.1 67 i := fun i hi => hpt i (by omega)
    -- the merit, from states that agree
    have mer : ∀ Tc' Tr', fr (wl [68] [(66, 2)]) Tc Tc' → fr (wl [140] []) Tr Tr' → T.1 (p + 3 + 7 * j) 6 ≠ -1 → ¬ T.1 121 (8 * b + j) < 0 ∧ ∃ r, ((F_X4_work Tc' p (p + 3 + 7 * j) e (T.1 (p + 3 + 7 * j) 6)).1 = r ∧ ok_X4_work sz Tc' p (p + 3 + 7 * j) e (T.1 (p + 3 + 7 * j) 6) ∧ fr (wl [68] [(66, 2)]) Tc' (F_X4_work Tc' p (p + 3 + 7 * j) e (T.1 (p + 3 + 7 * j) 6)).2) ∧ ((F_X11_work Tr' (T.1 121 (8 * b + j)) (T.1 122 (8 * b + j)) hv e).1 = r ∧ ok_X11_work sz Tr' (T.1 121 (8 * b + j)) (T.1 122 (8 * b + j)) hv e ∧ fr (wl [140] []) Tr' (F_X11_work Tr' (T.1 121 (8 * b + j)) (T.1 122 (8 * b + j)) hv e).2) := by
      intro Tc' Tr' f1 f2 hne
      rcases hGB.2.2.2.2.2.2.2.2 with q | ⟨q1, q2, q3⟩
      · exact absurd q.1 hne
      · refine ⟨by grind, rule_eq (sz := sz) hI (fr_trans fc (fr_mono rfl f1)) (fr_trans fr' (fr_mono rfl f2)) hG q3 (Or.inr (fun i hi => ?_))⟩
        rw [fr_i f2 (k := 141) (i := i) rfl, fr_i f1 (k := 67) (i := i) rfl]
        exact agr i hi
    have mno : T.1 (p + 3 + 7 * j) 6 = -1 → T.1 121 (8 * b + j) < 0 := by
      intro w
      rcases hGB.2.2.2.2.2.2.2.2 with q | ⟨q1, q2, q3⟩
      · rw [q.2]; decide
      · rw [w] at q1; exact absurd q1 (by decide)
    rw [vl_X10_resultOf_s0, if_pos c1, vl_X11_result_s, if_pos c2, okl_X10_resultOf_s0]
    simp only [okl_X11_result]
    rw [r119, r120, r121, r122, c5, c6]
    rcases hGB.2.2.2.2.2.2.2.1 with q | ⟨q1, q2, q3⟩
    · have n119 : T.1 119 (8 * b + j) < 0 := by rw [q.2]; decide
      rw [if_pos q.1, if_pos n119]
      by_cases c : T.1 (p + 3 + 7 * j) 6 = -1
      · rw [if_pos c, if_pos (mno c)]
        exact ⟨1, rfl, ⟨fun _ => ⟨fun _ => ⟨fun _ => trivial, fun w => absurd c w⟩, fun w => absurd q.1 w⟩, fun w => absurd c1 w⟩, fr_refl, rfl, ⟨vh, fun _ => ⟨vh, fun _ => ⟨vh, fun _ => trivial, fun w => absurd (mno c) w⟩, fun w => absurd n119 w⟩, fun w => absurd c2 w⟩, fr_refl, by decide, by decide⟩
      · obtain ⟨n121, r, ⟨u1, u2, u3⟩, w1, w2, w3⟩ := mer Tc Tr fr_refl fr_refl c
        rw [if_neg c, if_neg n121, u1, w1]
        have ok1 : (Tc.1 (p + 3 + 7 * j) 2 ≤ v → (T.1 (p + 3 + 7 * j) 5 = -1 → (T.1 (p + 3 + 7 * j) 6 = -1 → True) ∧ (¬ T.1 (p + 3 + 7 * j) 6 = -1 → ok_X4_work sz Tc p (p + 3 + 7 * j) e (T.1 (p + 3 + 7 * j) 6) ∧ True))) := fun _ _ => ⟨fun _ => trivial, fun _ => ⟨u2, trivial⟩⟩
        refine ⟨if r = 0 then 1 else 2, ?_, ⟨fun _ => ⟨ok1 c1, fun w => absurd q.1 w⟩, fun w => absurd c1 w⟩, ?_, ?_, ⟨vh, fun _ => ⟨vh, fun _ => ⟨vh, fun w => absurd w n121, fun _ => ⟨vh, vh, w2, trivial⟩⟩, fun w => absurd n119 w⟩, fun w => absurd c2 w⟩, ?_, ?_⟩
        · split <;> rfl
        · split <;> exact fr_mono rfl u3
        · split <;> rfl
        · split <;> exact fr_mono rfl w3
        · split <;> decide
    · have n5 : ¬ T.1 (p + 3 + 7 * j) 5 = -1 := by grind
      have n119 : ¬ T.1 119 (8 * b + j) < 0 := by grind
      obtain ⟨r, ⟨u1, u2, u3⟩, w1, w2, w3⟩ := rule_eq (sz := sz) hI fc fr' hG q3 (Or.inr agr)
      rw [if_neg n5, if_neg n119, u1, w1]
      have g6 : (F_X4_work Tc p (p + 3 + 7 * j) e (T.1 (p + 3 + 7 * j) 5)).2.1 (p + 3 + 7 * j) 6 = T.1 (p + 3 + 7 * j) 6 := by
        rw [((Gr_fx (fr_trans fc (fr_mono rfl u3)) hp6).2 (p + 3 + 7 * j) (by omega) (by omega)).1]
      have g121 : (F_X11_work Tr (T.1 119 (8 * b + j)) (T.1 120 (8 * b + j)) hv e).2.1 121 hv.toNatClampNeg = T.1 121 (8 * b + j) := by
        rw [((Gr_fx (fr_trans fr' (fr_mono rfl w3)) hp6).1 121 (by decide) (by decide)).1, tnN hh]
      have g122 : (F_X11_work Tr (T.1 119 (8 * b + j)) (T.1 120 (8 * b + j)) hv e).2.1 122 hv.toNatClampNeg = T.1 122 (8 * b + j) := by
        rw [((Gr_fx (fr_trans fr' (fr_mono rfl w3)) hp6).1 122 (by decide) (by decide)).1, tnN hh]
      rw [g6, g121, g122]
      by_cases c0 : r = 0
      · rw [if_pos c0, if_pos c0]
        exact ⟨0, rfl, ⟨fun _ => ⟨fun w => absurd w n5, fun _ => ⟨u2, fun w => absurd c0 w, fun _ => trivial⟩⟩, fun w => absurd c1 w⟩, fr_mono rfl u3, rfl, ⟨vh, fun _ => ⟨vh, fun w => absurd w n119, fun _ => ⟨vh, vh, w2, fun w => absurd c0 w, fun _ => trivial⟩⟩, fun w => absurd c2 w⟩, fr_mono rfl w3, by decide, by decide⟩
      · rw [if_neg c0, if_neg c0]
        by_cases c : T.1 (p + 3 + 7 * j) 6 = -1
        · rw [if_pos c, if_pos (mno c)]
          exact ⟨1, rfl, ⟨fun _ => ⟨fun w => absurd w n5, fun _ => ⟨u2, fun _ => ⟨fun _ => trivial, fun w => absurd c w⟩, fun w => absurd w c0⟩⟩, fun w => absurd c1 w⟩, fr_mono rfl u3, rfl, ⟨vh, fun _ => ⟨vh, fun w => absurd w n119, fun _ => ⟨vh, vh, w2, fun _ => ⟨vh, fun _ => trivial, fun w => absurd (mno c) w⟩, fun w => absurd w c0⟩⟩, fun w => absurd c2 w⟩, fr_mono rfl w3, by decide, by decide⟩
        · obtain ⟨n121, r', ⟨x1, x2, x3⟩, y1, y2, y3⟩ := mer _ _ u3 w3 c
          rw [if_neg c, if_neg n121, x1, y1]
          refine ⟨if r' = 0 then 1 else 2, ?_, ⟨fun _ => ⟨fun w => absurd w n5, fun _ => ⟨u2, fun _ => ⟨fun w => absurd w c, fun _ => ⟨x2, trivial⟩⟩, fun w => absurd w c0⟩⟩, fun w => absurd c1 w⟩, ?_, ?_, ⟨vh, fun _ => ⟨vh, fun w => absurd w n119, fun _ => ⟨vh, vh, w2, fun _ => ⟨vh, fun w => absurd w n121, fun _ => ⟨vh, vh, y2, trivial⟩⟩, fun w => absurd w c0⟩⟩, fun w => absurd c2 w⟩, ?_, ?_⟩
          · split <;> rfl
          · split <;> exact fr_trans (fr_mono rfl u3) (fr_mono rfl x3)
          · split <;> rfl
          · split <;> exact fr_trans (fr_mono rfl w3) (fr_mono rfl y3)
          · split <;> decide
  | succ m ih =>
    intro n n' k Tc Tr v fc fr' hk hm hpt hn hn'
    obtain ⟨n, rfl⟩ : ∃ n0, n = n0 + 1 := ⟨n - 1, by omega⟩
    obtain ⟨n', rfl⟩ : ∃ n0, n' = n0 + 1 := ⟨n' - 1, by omega⟩
    have gc := (Gr_fx fc hp6).2 (p + 3 + 7 * j) (by omega) (by omega)
    have gr := (Gr_fx fr' hp6).1
    have c1 : ¬ Tc.1 (p + 3 + 7 * j) 2 ≤ v := by rw [gc.1, tle]; omega
    have c2 : ¬ Tr.1 113 hv.toNatClampNeg ≤ v := by rw [(gr 113 (by decide) (by decide)).1, tnN hh, ← hGB.2.1.1, tle]; omega
    have v6 : vp_in v 6 := by rw [vp_in_iff]; omega
    have hIc := I7_scr fc hI
    have hIr := I7_scr fr' hI
    have k1 : v_X5_knownPoints Tc e v d = v_X5_knownPoints T e v d := knownP_cg (fr_mEq2 fc) e v d
    have k2 : v_X11_known Tr e v d = v_X5_knownPoints T e v d := by
      rw [← e_known hIr.2.1 hIr.1.1]
      exact knownP_cg (fr_mEq2 fr') e v d
    have o1 : ok_X5_knownPoints sz Tc e v d := k_known5 hIc.2.1 e v d
    have o2 : ok_X11_known sz Tr e v d := k_known11 hIr.2.1 e v d
    have rk := known_rng hI.2.1 e v d
    have st : (v + 1).toInt = (k + 1 : Nat) := by rw [tinc' (by omega)]; omega
    rw [vl_X10_resultOf_s0, if_neg c1, vl_X11_result_s, if_neg c2, okl_X10_resultOf_s0]
    simp only [okl_X11_result]
    rw [k1, k2, tnN hk]
    generalize v_X5_knownPoints T e v d = K at rk
    have g141 : (tI Tr 141 k K).1 141 k = K := by
      show va_up (Tr.1 141) k K k = K
      unfold va_up
      rw [if_pos rfl]
    rw [g141]
    have f67 : fr (wl [67, 68] [(66, 2)]) Tc (tI Tc 67 k K) := fr_I rfl fr_refl
    have f141 : fr (wl [140, 141] []) Tr (tI Tr 141 k K) := fr_I rfl fr_refl
    by_cases c : K = -1
    · have nK : ¬ 0 ≤ K := by rw [c]; decide
      rw [if_pos c, if_neg nK]
      exact ⟨-1, rfl, ⟨fun w => absurd w c1, fun _ => ⟨o1, fun w => absurd c w, fun _ => trivial⟩⟩, fr_refl, rfl, ⟨vh, fun w => absurd w c2, fun _ => ⟨o2, v6, v6, fun w => absurd w nK, fun _ => trivial⟩⟩, f141, by decide, by decide⟩
    · have nK : 0 ≤ K := by grind
      obtain ⟨r, x1, x2, x3, x4, x5, x6, x7⟩ := ih n n' (k + 1) (tI Tc 67 k K) (tI Tr 141 k K) (v + 1) (fr_trans fc (fr_mono rfl f67)) (fr_trans fr' (fr_mono rfl f141)) st (by omega) (by
        intro i hi
        show va_up (Tr.1 141) k K i = va_up (Tc.1 67) k K i
        unfold va_up
        by_cases ci : i = k
        · rw [if_pos ci, if_pos ci]
        · rw [if_neg ci, if_neg ci]
          exact hpt i (by omega)) (by omega) (by omega)
      rw [if_neg c, if_pos nK]
      exact ⟨r, x1, ⟨fun w => absurd w c1, fun _ => ⟨o1, fun _ => ⟨v6, x2⟩, fun w => absurd w c⟩⟩, fr_trans f67 x3, x4, ⟨vh, fun w => absurd w c2, fun _ => ⟨o2, v6, v6, fun _ => x5, fun w => absurd nK w⟩⟩, fr_trans f141 x6, x7⟩
