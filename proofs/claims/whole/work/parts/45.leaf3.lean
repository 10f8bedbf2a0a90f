/-! leaves give the same in both -/
theorem tot_cg {f f' : Nat → Int32} : ∀ (n k : Nat) (a : Int32), (∀ i, k ≤ i → i < k + n → f i = f' i) → tot f k n a = tot f' k n a
  | 0, _, _, _ => rfl
  | n + 1, k, a, h => by
    unfold tot
    rw [h k (Nat.le_refl _) (by omega)]
    exact tot_cg n (k + 1) _ (fun i h1 h2 => h i (by omega) (by omega))
theorem lea_cg {f f' : Nat → Int32} : ∀ (n k : Nat) (a : Int32), (∀ i, k ≤ i → i < k + n → f i = f' i) → lea f k n a = lea f' k n a
  | 0, _, _, _ => rfl
  | n + 1, k, a, h => by
    unfold lea
    rw [h k (Nat.le_refl _) (by omega)]
    exact lea_cg n (k + 1) _ (fun i h1 h2 => h i (by omega) (by omega))
/-- the rows that leaves read stay -/
def lEq (T T' : tT) (g : Nat) : Prop := T'.1 g = T.1 g ∧ T'.1 (g + 2) = T.1 (g + 2) ∧ T'.2.1 (g + 3) = T.2.1 (g + 3) ∧ T'.1 77 = T.1 77 ∧ T'.2.1 78 = T.2.1 78 ∧ T'.1 74 = T.1 74
theorem cLi_cg {T T' : tT} {g : Nat} (h : lEq T T' g) (e l k n : Nat) : cLi T' g e l k n = cLi T g e l k n := by
  unfold cLi inL
  rw [h.2.1, h.2.2.1, h.2.2.2.2.1]
theorem cOw_cg {T T' : tT} {g : Nat} (h : lEq T T' g) (e k n : Nat) : cOw T' g e k n = cOw T g e k n := by
  unfold cOw inA inL
  rw [h.1, h.2.1, h.2.2.1, h.2.2.2.2.1]
theorem gSz_cg {T T' : tT} {g : Nat} (h : lEq T T' g) (hs : gSz T g) : gSz T' g := by
  unfold gSz at *
  rw [h.1, h.2.1]
  exact hs
theorem lfv_cg {T T' : tT} {g e : Nat} {m : Bool} {ps k v : Int32} {pts pts' : Nat → Int32} (h : lEq T T' g) (hps : ps = T.1 g 2) (hp0 : 0 ≤ T.1 g 2) (hv : vI m (T.1 g 1) ps k v) (hl : lfK k = true) (hp : m = true ∨ ∀ i : Nat, (i : Int) < (T.1 g 2).toInt → pts' i = pts i) : lfv T' g e pts' k v = lfv T g e pts k v := by
  have z0 : 0 ≤ (T.1 g 2).toInt := tle.mp hp0
  unfold lfv
  rw [cLi_cg h, cOw_cg h, h.1, h.2.2.2.1, h.2.2.2.2.2]
  by_cases k1 : k = 2
  · rw [if_pos k1, if_pos k1]
  rw [if_neg k1, if_neg k1]
  by_cases k2 : k = 201
  · rw [if_pos k2, if_pos k2]
  rw [if_neg k2, if_neg k2]
  by_cases k3 : k = 210
  · rw [if_pos k3, if_pos k3]
  rw [if_neg k3, if_neg k3]
  by_cases k4 : k = 211
  · rw [if_pos k4, if_pos k4]
  rw [if_neg k4, if_neg k4]
  by_cases k5 : k = 212
  · rw [if_pos k5, if_pos k5]
  rw [if_neg k5, if_neg k5]
  have hp' : ∀ i : Nat, (i : Int) < (T.1 g 2).toInt → pts' i = pts i := by
    rcases hp with hm | hp
    · exfalso
      rcases hv with q | ⟨_, q⟩ | ⟨q, _⟩ | q | q
      · exact k1 q.1
      · rcases q with q | q | q | q
        · exact k2 q.1
        · exact k3 q
        · exact k4 q
        · exact k5 q
      · rw [hm] at q; cases q
      · subst q; exact absurd hl (by decide)
      · rcases q with q | q | q | q | q | q | q <;> subst q <;> exact absurd hl (by decide)
    · exact hp
  by_cases k6 : k = 202
  · rw [if_pos k6, if_pos k6]
    rcases hv with q | ⟨_, q⟩ | ⟨_, q⟩ | q | q
    · exact absurd q.1 k1
    · rcases q with q | q | q | q
      · exact absurd q.1 k2
      · exact absurd q k3
      · exact absurd q k4
      · exact absurd q k5
    · rcases q with q | q | q
      · have a1 := tle.mp q.2.1
        have a2 := tlt.mp q.2.2
        rw [hps] at a2
        have z : (0 : Int32).toInt = 0 := rfl
        exact hp' _ (by rw [tncd]; omega)
      · subst q; exact absurd k6 (by decide)
      · subst q; exact absurd k6 (by decide)
    · subst q; exact absurd k6 (by decide)
    · rcases q with q | q | q | q | q | q | q <;> subst q <;> exact absurd hl (by decide)
  rw [if_neg k6, if_neg k6]
  by_cases k7 : k = 213
  · rw [if_pos k7, if_pos k7]
    exact tot_cg _ _ _ (fun i _ hi => hp' i (by rw [tncd] at hi; omega))
  rw [if_neg k7, if_neg k7]
  by_cases c0 : T.1 g 2 = 0
  · rw [if_pos c0, if_pos c0, lea_cg _ _ _ (fun i h1 hi => hp' i (by rw [tncd] at hi; omega))]
  · have c1 : 0 < (T.1 g 2).toInt := by
      have : ¬ (T.1 g 2).toInt = 0 := fun q => c0 (by rw [teq, q]; rfl)
      omega
    rw [if_neg c0, if_neg c0, hp' 0 (by omega), lea_cg _ _ _ (fun i h1 hi => hp' i (by rw [tncd] at hi; omega))]
theorem hl5 {sz : Nat} {T0 : tT} {g en : Nat} {e : Int32} {m : Bool} (hs : gSz T0 g) (hg : ∀ o, o < 7 → g + o ≠ 66 ∧ g + o ≠ 68) (he : e.toInt = en) (e40 : en < 40) (hP0 : 0 ≤ T0.1 g 2) (hP6 : T0.1 g 2 ≤ 6) (h77 : 0 ≤ T0.1 77 en ∧ T0.1 77 en ≤ 4) : ∀ T, fr (wl [68] [(66, 2)]) T0 T → ∀ k v, vI m (T0.1 g 1) (T0.1 g 2) k v → lfK k = true → lv5 T g e k v = lfv T0 g en (T0.1 67) k v ∧ lk5 sz T g e k v := by
  intro T f k v hv hl
  have rg : ∀ o, o < 7 → T.1 (g + o) = T0.1 (g + o) ∧ T.2.1 (g + o) = T0.2.1 (g + o) := fun o ho => by
    have := hg o ho
    exact ⟨fr_ri f (fun i => by unfold wl; simp [this.1, this.2]), fr_rj f (fun i => by unfold wl; simp [this.1, this.2])⟩
  have q : lEq T0 T g := ⟨(rg 0 (by decide)).1, (rg 2 (by decide)).1, (rg 3 (by decide)).2, fr_ri f (fun _ => rfl), fr_rj f (fun _ => rfl), fr_ri f (fun _ => rfl)⟩
  have r67 : T.1 67 = T0.1 67 := fr_ri f (fun _ => rfl)
  have hs' := gSz_cg q hs
  have ve : vp_in e 40 := by rw [vp_in_iff]; omega
  obtain ⟨N, hN⟩ : ∃ N : Nat, (T0.1 77 en).toInt = N := ⟨(T0.1 77 en).toInt.toNat, by have := tle.mp h77.1; have z : (0 : Int32).toInt = 0 := rfl; omega⟩
  have N4 : N ≤ 4 := by have := tle.mp h77.2; have z : (4 : Int32).toInt = 4 := rfl; omega
  have hN' : (T.1 77 en).toInt = N := by rw [q.2.2.2.1]; exact hN
  have nN : (T0.1 77 en).toNatClampNeg = N := tnN hN
  obtain ⟨P, hP⟩ : ∃ P : Nat, (T0.1 g 2).toInt = P := ⟨(T0.1 g 2).toInt.toNat, by have := tle.mp hP0; have z : (0 : Int32).toInt = 0 := rfl; omega⟩
  have P6 : P ≤ 6 := by have := tle.mp hP6; have z : (6 : Int32).toInt = 6 := rfl; omega
  have nP : (T0.1 g 2).toNatClampNeg = P := tnN hP
  have eP : T.1 g 2 = T0.1 g 2 := by rw [q.1]
  rcases lfK_cases hl with h | h | h | h | h | h | h | h <;> subst h
  · refine ⟨?_, ?_⟩
    · unfold lv5 v_X4_markLeaf lfv
      rw [if_pos (by decide), if_neg (by decide), if_neg (by decide), if_neg (by decide), if_pos rfl]
    · unfold lk5 ok_X4_markLeaf
      rw [if_pos (by decide)]
      exact ⟨fun w => absurd w (by decide), fun w => absurd w (by decide), fun w => absurd w (by decide), fun _ _ _ => trivial⟩
  · have hv2 : 0 ≤ v ∧ v < T0.1 g 1 := by
      rcases hv with w | ⟨_, w⟩ | ⟨_, w⟩ | w | w
      · exact absurd w.1 (by decide)
      · rcases w with w | w | w | w
        · exact w.2
        · exact absurd w (by decide)
        · exact absurd w (by decide)
        · exact absurd w (by decide)
      · rcases w with w | w | w
        · exact absurd w.1 (by decide)
        · exact absurd w (by decide)
        · exact absurd w (by decide)
      · exact absurd w (by decide)
      · exact absurd w (by decide)
    obtain ⟨l, hl'⟩ : ∃ l : Nat, v.toInt = l := ⟨v.toInt.toNat, by have := tle.mp hv2.1; have z : (0 : Int32).toInt = 0 := rfl; omega⟩
    have hl2 : (l : Int) < (T.1 g 1).toInt := by rw [q.1]; have := tlt.mp hv2.2; omega
    obtain ⟨u1, u2⟩ := l_cLi (sz := sz) hs' he e40 hl' hl2 hN' N4 N fu 0 0 0 0 rfl (by omega) (by rw [fu_eq]; omega) rfl (by omega)
    refine ⟨?_, ?_⟩
    · unfold lv5 v_X4_pieceLeaf lfv v_X2_countListed
      rw [if_neg (by decide), if_pos rfl, if_neg (by decide), if_pos rfl, u1, cLi_cg q, nN, tnN hl', Nat.zero_add]
    · unfold lk5 ok_X4_pieceLeaf ok_X2_countListed
      rw [if_neg (by decide)]
      exact ⟨fun _ => ⟨u2, trivial⟩, fun w => absurd w (by decide), fun w => absurd w (by decide), fun w => absurd rfl w⟩
  · have hv2 : 0 ≤ v ∧ v < T0.1 g 2 := by
      rcases hv with w | ⟨_, w⟩ | ⟨_, w⟩ | w | w
      · exact absurd w.1 (by decide)
      · rcases w with w | w | w | w
        · exact absurd w.1 (by decide)
        · exact absurd w (by decide)
        · exact absurd w (by decide)
        · exact absurd w (by decide)
      · rcases w with w | w | w
        · exact w.2
        · exact absurd w (by decide)
        · exact absurd w (by decide)
      · exact absurd w (by decide)
      · exact absurd w (by decide)
    have c6 : ¬ 6 ≤ v := by grind
    have v6 : vp_in v 6 := vp6 hv2.1 (by grind)
    refine ⟨?_, ?_⟩
    · unfold lv5 v_X4_markLeaf lfv
      rw [if_pos (by decide), if_pos rfl, if_neg c6, r67, if_neg (by decide), if_neg (by decide), if_neg (by decide), if_neg (by decide), if_neg (by decide), if_pos rfl]
    · unfold lk5 ok_X4_markLeaf
      rw [if_pos (by decide)]
      exact ⟨fun _ => ⟨fun _ => trivial, fun _ => v6⟩, fun w => absurd w (by decide), fun w => absurd w (by decide), fun w => absurd rfl w⟩
  · obtain ⟨u1, u2⟩ := l_cOw (sz := sz) hs' he e40 hN' N4 N fu 0 0 0 0 rfl (by omega) (by rw [fu_eq]; omega) rfl (by omega)
    refine ⟨?_, ?_⟩
    · unfold lv5 v_X4_pieceLeaf lfv v_X2_countOwn
      rw [if_neg (by decide), if_neg (by decide), if_pos rfl, if_neg (by decide), if_neg (by decide), if_pos rfl, u1, cOw_cg q, nN, Nat.zero_add]
    · unfold lk5 ok_X4_pieceLeaf ok_X2_countOwn
      rw [if_neg (by decide)]
      exact ⟨fun w => absurd w (by decide), fun _ => ⟨u2, trivial⟩, fun w => absurd w (by decide), fun _ w => absurd rfl w⟩
  · refine ⟨?_, ?_⟩
    · unfold lv5 v_X4_pieceLeaf lfv
      rw [if_neg (by decide), if_neg (by decide), if_neg (by decide), if_pos rfl, if_neg (by decide), if_neg (by decide), if_neg (by decide), if_pos rfl, q.2.2.2.1, tnN he]
    · unfold lk5 ok_X4_pieceLeaf
      rw [if_neg (by decide)]
      exact ⟨fun w => absurd w (by decide), fun w => absurd w (by decide), fun _ => ve, fun _ _ w => absurd rfl w⟩
  · refine ⟨?_, ?_⟩
    · unfold lv5 v_X4_pieceLeaf lfv
      rw [if_neg (by decide), if_neg (by decide), if_neg (by decide), if_neg (by decide), if_neg (by decide), if_neg (by decide), if_neg (by decide), if_neg (by decide), if_pos rfl, q.2.2.2.2.2, tnN he]
    · unfold lk5 ok_X4_pieceLeaf
      rw [if_neg (by decide)]
      exact ⟨fun w => absurd w (by decide), fun w => absurd w (by decide), fun w => absurd w (by decide), fun _ _ _ => ve⟩
  · obtain ⟨u1, u2⟩ := l_tot5 (sz := sz) (T := T) (pv := T.1 g 2) (by rw [eP]; exact hP) P6 P fu 0 0 0 rfl (by omega) (by rw [fu_eq]; omega)
    refine ⟨?_, ?_⟩
    · unfold lv5 v_X4_markLeaf lfv v_X4_total
      rw [if_pos (by decide), if_neg (by decide), if_pos rfl, if_neg (by decide), if_neg (by decide), if_neg (by decide), if_neg (by decide), if_neg (by decide), if_neg (by decide), if_pos rfl, u1, r67, nP]
    · unfold lk5 ok_X4_markLeaf ok_X4_total
      rw [if_pos (by decide)]
      exact ⟨fun w => absurd w (by decide), fun _ => ⟨u2, trivial⟩, fun w => absurd w (by decide), fun _ w => absurd rfl w⟩
  · have hlea : ∀ a, vl_X4_least fu T (T.1 g 2) a 1 = lea (T.1 67) 1 (P - 1) a ∧ okl_X4_least fu sz T (T.1 g 2) a 1 := fun a => l_lea5 (sz := sz) (T := T) (pv := T.1 g 2) (by rw [eP]; exact hP) P6 (P - 1) fu 1 1 a rfl (by omega) (by rw [fu_eq]; omega)
    refine ⟨?_, ?_⟩
    · have rhs : lfv T0 g en (T0.1 67) 214 v = lea (T0.1 67) 1 ((T0.1 g 2).toNatClampNeg - 1) (if T0.1 g 2 = 0 then 0 else T0.1 67 0) := by
        unfold lfv
        rw [if_neg (by decide), if_neg (by decide), if_neg (by decide), if_neg (by decide), if_neg (by decide), if_neg (by decide), if_neg (by decide)]
      have lhs : lv5 T g e 214 v = v_X4_least T (T.1 g 2) := by
        unfold lv5 v_X4_markLeaf
        rw [if_pos (by decide), if_neg (by decide), if_neg (by decide), if_pos rfl]
      rw [lhs, rhs]
      unfold v_X4_least
      rw [(hlea _).1, (hlea _).1, r67, nP, eP]
      by_cases c0 : T0.1 g 2 = 0
      · rw [if_pos c0, if_pos (by rw [c0]; decide)]
      · rw [if_neg c0, if_neg (by grind)]
        rfl
    · unfold lk5 ok_X4_markLeaf ok_X4_least
      rw [if_pos (by decide)]
      exact ⟨fun w => absurd w (by decide), fun w => absurd w (by decide), fun _ => ⟨⟨fun _ => (hlea _).2, fun _ => ⟨by rw [vp_in_iff]; exact ⟨by decide, by decide⟩, (hlea _).2⟩⟩, trivial⟩, fun _ _ w => absurd rfl w⟩
theorem hl11 {sz : Nat} {T0 : tT} {g h en : Nat} {e hv : Int32} {m : Bool} (hs : gSz T0 g) (hr : gLs T0 g h) (h40 : h < 40) (hh : hv.toInt = h) (r77 : T0.1 137 = T0.1 77) (r78 : T0.2.1 139 = T0.2.1 78) (r74 : T0.1 135 = T0.1 74) (r2 : T0.1 g 2 = T0.1 113 h) (g140 : ∀ o, o < 7 → g + o ≠ 140) (he : e.toInt = en) (e40 : en < 40) (hP0 : 0 ≤ T0.1 g 2) (hP6 : T0.1 g 2 ≤ 6) (h77 : 0 ≤ T0.1 77 en ∧ T0.1 77 en ≤ 4) : ∀ T, fr (wl [140] []) T0 T → ∀ k v, vI m (T0.1 g 1) (T0.1 g 2) k v → lfK k = true → v_X11_leaf T (rc k) v hv e = lfv T0 g en (T0.1 141) k v ∧ ok_X11_leaf sz T (rc k) v hv e := by
  intro T f k v hv' hl
  have rg : ∀ o, o < 7 → T.1 (g + o) = T0.1 (g + o) ∧ T.2.1 (g + o) = T0.2.1 (g + o) := fun o ho => by
    have := g140 o ho
    exact ⟨fr_ri f (fun i => by unfold wl; simp [this]), fr_rj f (fun i => by unfold wl; simp [this])⟩
  have q : lEq T0 T g := ⟨(rg 0 (by decide)).1, (rg 2 (by decide)).1, (rg 3 (by decide)).2, fr_ri f (fun _ => rfl), fr_rj f (fun _ => rfl), fr_ri f (fun _ => rfl)⟩
  have r141 : T.1 141 = T0.1 141 := fr_ri f (fun _ => rfl)
  have hs' := gSz_cg q hs
  have t111 : T.1 111 = T0.1 111 := fr_ri f (fun _ => rfl)
  have t112 : T.1 112 = T0.1 112 := fr_ri f (fun _ => rfl)
  have t113 : T.1 113 = T0.1 113 := fr_ri f (fun _ => rfl)
  have t127 : T.2.1 127 = T0.2.1 127 := fr_rj f (fun _ => rfl)
  have t137 : T.1 137 = T.1 77 := by rw [q.2.2.2.1, ← r77]; exact fr_ri f (fun _ => rfl)
  have t135 : T.1 135 = T0.1 74 := by rw [← r74]; exact fr_ri f (fun _ => rfl)
  have t139 : T.2.1 139 = T.2.1 78 := by rw [q.2.2.2.2.1, ← r78]; exact fr_rj f (fun _ => rfl)
  have hr' : gLs T g h := by
    unfold gLs at *
    rw [q.1, q.2.1, q.2.2.1, t111, t112, t127]
    exact hr
  have ve : vp_in e 40 := by rw [vp_in_iff]; omega
  have vh : vp_in hv 40 := by rw [vp_in_iff]; omega
  obtain ⟨N, hN⟩ : ∃ N : Nat, (T0.1 77 en).toInt = N := ⟨(T0.1 77 en).toInt.toNat, by have := tle.mp h77.1; have z : (0 : Int32).toInt = 0 := rfl; omega⟩
  have N4 : N ≤ 4 := by have := tle.mp h77.2; have z : (4 : Int32).toInt = 4 := rfl; omega
  have hN' : (T.1 77 en).toInt = N := by rw [q.2.2.2.1]; exact hN
  have nN : (T0.1 77 en).toNatClampNeg = N := tnN hN
  obtain ⟨P, hP⟩ : ∃ P : Nat, (T0.1 g 2).toInt = P := ⟨(T0.1 g 2).toInt.toNat, by have := tle.mp hP0; have z : (0 : Int32).toInt = 0 := rfl; omega⟩
  have P6 : P ≤ 6 := by have := tle.mp hP6; have z : (6 : Int32).toInt = 6 := rfl; omega
  have nP : (T0.1 g 2).toNatClampNeg = P := tnN hP
  have hP' : (T.1 113 h).toInt = P := by rw [t113, ← r2]; exact hP
  rcases lfK_cases hl with h' | h' | h' | h' | h' | h' | h' | h' <;> subst h'
  · rw [show rc 2 = 110 from rfl]
    refine ⟨?_, ?_⟩
    · unfold v_X11_leaf lfv
      rw [if_neg (by decide), if_neg (by decide), if_neg (by decide), if_pos rfl, if_pos rfl]
    · unfold ok_X11_leaf
      exact ⟨fun w => absurd w (by decide), fun w => absurd w (by decide), fun w => absurd w (by decide), fun _ => trivial, fun w => absurd w (by decide), fun w => absurd w (by decide), fun w => absurd w (by decide), fun _ _ _ w => absurd rfl w⟩
  · have hv2 : 0 ≤ v ∧ v < T0.1 g 1 := by
      rcases hv' with w | ⟨_, w⟩ | ⟨_, w⟩ | w | w
      · exact absurd w.1 (by decide)
      · rcases w with w | w | w | w
        · exact w.2
        · exact absurd w (by decide)
        · exact absurd w (by decide)
        · exact absurd w (by decide)
      · rcases w with w | w | w
        · exact absurd w.1 (by decide)
        · exact absurd w (by decide)
        · exact absurd w (by decide)
      · exact absurd w (by decide)
      · exact absurd w (by decide)
    obtain ⟨l, hl'⟩ : ∃ l : Nat, v.toInt = l := ⟨v.toInt.toNat, by have := tle.mp hv2.1; have z : (0 : Int32).toInt = 0 := rfl; omega⟩
    have hl2 : (l : Int) < (T.1 g 1).toInt := by rw [q.1]; have := tlt.mp hv2.2; omega
    have l6 : l < 6 := by have := tle.mp hs.1.2; have := tlt.mp hv2.2; have z : (6 : Int32).toInt = 6 := rfl; omega
    have ix := tix6 hh h40 hl' l6
    obtain ⟨u1, u2⟩ := l_inList (sz := sz) hs' hr' h40 t137 t139 he e40 ix hl2 hN' N4 N fu 0 0 0 0 rfl (by omega) (by rw [fu_eq]; omega) rfl (by omega)
    rw [show rc 201 = 108 from rfl]
    refine ⟨?_, ?_⟩
    · unfold v_X11_leaf lfv v_X11_inList
      rw [if_neg (by decide), if_neg (by decide), if_pos rfl, if_neg (by decide), if_pos rfl, u1, cLi_cg q, nN, tnN hl', Nat.zero_add]
    · unfold ok_X11_leaf ok_X11_inList
      exact ⟨fun w => absurd w (by decide), fun w => absurd w (by decide), fun _ => ⟨u2, trivial⟩, fun w => absurd w (by decide), fun w => absurd w (by decide), fun w => absurd w (by decide), fun w => absurd w (by decide), fun _ _ w => absurd rfl w⟩
  · have hv2 : 0 ≤ v ∧ v < T0.1 g 2 := by
      rcases hv' with w | ⟨_, w⟩ | ⟨_, w⟩ | w | w
      · exact absurd w.1 (by decide)
      · rcases w with w | w | w | w
        · exact absurd w.1 (by decide)
        · exact absurd w (by decide)
        · exact absurd w (by decide)
        · exact absurd w (by decide)
      · rcases w with w | w | w
        · exact w.2
        · exact absurd w (by decide)
        · exact absurd w (by decide)
      · exact absurd w (by decide)
      · exact absurd w (by decide)
    have v6 : vp_in v 6 := vp6 hv2.1 (by grind)
    rw [show rc 202 = 112 from rfl]
    refine ⟨?_, ?_⟩
    · unfold v_X11_leaf lfv
      rw [if_neg (by decide), if_neg (by decide), if_neg (by decide), if_neg (by decide), if_neg (by decide), if_pos rfl, if_neg (by decide), if_neg (by decide), if_neg (by decide), if_neg (by decide), if_neg (by decide), if_pos rfl, r141]
    · unfold ok_X11_leaf
      exact ⟨fun w => absurd w (by decide), fun w => absurd w (by decide), fun w => absurd w (by decide), fun w => absurd w (by decide), fun w => absurd w (by decide), fun _ => v6, fun w => absurd w (by decide), fun _ _ _ _ _ w => absurd rfl w⟩
  · obtain ⟨u1, u2⟩ := l_none (sz := sz) hs' hr' h40 t137 t139 he e40 hh hN' N4 N fu 0 0 0 0 rfl (by omega) (by rw [fu_eq]; omega) rfl (by omega)
    rw [show rc 210 = 111 from rfl]
    refine ⟨?_, ?_⟩
    · unfold v_X11_leaf lfv v_X11_inNone
      rw [if_neg (by decide), if_neg (by decide), if_neg (by decide), if_neg (by decide), if_pos rfl, if_neg (by decide), if_neg (by decide), if_pos rfl, u1, cOw_cg q, nN, Nat.zero_add]
    · unfold ok_X11_leaf ok_X11_inNone
      exact ⟨fun w => absurd w (by decide), fun w => absurd w (by decide), fun w => absurd w (by decide), fun w => absurd w (by decide), fun _ => ⟨u2, trivial⟩, fun w => absurd w (by decide), fun w => absurd w (by decide), fun _ _ _ _ w => absurd rfl w⟩
  · rw [show rc 211 = 99 from rfl]
    refine ⟨?_, ?_⟩
    · unfold v_X11_leaf lfv
      rw [if_neg (by decide), if_pos rfl, if_neg (by decide), if_neg (by decide), if_neg (by decide), if_pos rfl, t137, q.2.2.2.1, tnN he]
    · unfold ok_X11_leaf
      exact ⟨fun w => absurd w (by decide), fun _ => ve, fun w => absurd w (by decide), fun w => absurd w (by decide), fun w => absurd w (by decide), fun w => absurd w (by decide), fun w => absurd w (by decide), fun _ w => absurd rfl w⟩
  · rw [show rc 212 = 97 from rfl]
    refine ⟨?_, ?_⟩
    · unfold v_X11_leaf lfv
      rw [if_pos rfl, if_neg (by decide), if_neg (by decide), if_neg (by decide), if_neg (by decide), if_pos rfl, t135, tnN he]
    · unfold ok_X11_leaf
      exact ⟨fun _ => ve, fun w => absurd w (by decide), fun w => absurd w (by decide), fun w => absurd w (by decide), fun w => absurd w (by decide), fun w => absurd w (by decide), fun w => absurd w (by decide), fun w => absurd rfl w⟩
  · obtain ⟨u1, u2⟩ := l_tot11 (sz := sz) hh h40 hP' P6 P fu 0 0 0 rfl (by omega) (by rw [fu_eq]; omega)
    rw [show rc 213 = 116 from rfl]
    refine ⟨?_, ?_⟩
    · unfold v_X11_leaf lfv v_X11_total
      rw [if_neg (by decide), if_neg (by decide), if_neg (by decide), if_neg (by decide), if_neg (by decide), if_neg (by decide), if_pos rfl, if_neg (by decide), if_neg (by decide), if_neg (by decide), if_neg (by decide), if_neg (by decide), if_neg (by decide), if_pos rfl, u1, r141, nP]
    · unfold ok_X11_leaf ok_X11_total
      exact ⟨fun w => absurd w (by decide), fun w => absurd w (by decide), fun w => absurd w (by decide), fun w => absurd w (by decide), fun w => absurd w (by decide), fun w => absurd w (by decide), fun _ => ⟨u2, trivial⟩, fun _ _ _ _ _ _ w => absurd rfl w⟩
  · have hlea : ∀ a, vl_X11_leastMark fu T hv a 1 = lea (T.1 141) 1 (P - 1) a ∧ okl_X11_leastMark fu sz T hv a 1 := fun a => l_lea11 (sz := sz) hh h40 hP' P6 (P - 1) fu 1 1 a rfl (by omega) (by rw [fu_eq]; omega)
    rw [show rc 214 = 109 from rfl]
    have e2 : T.1 113 hv.toNatClampNeg = T0.1 g 2 := by rw [tnN hh, t113, r2]
    refine ⟨?_, ?_⟩
    · have rhs : lfv T0 g en (T0.1 141) 214 v = lea (T0.1 141) 1 ((T0.1 g 2).toNatClampNeg - 1) (if T0.1 g 2 = 0 then 0 else T0.1 141 0) := by
        unfold lfv
        rw [if_neg (by decide), if_neg (by decide), if_neg (by decide), if_neg (by decide), if_neg (by decide), if_neg (by decide), if_neg (by decide)]
      have lhs : v_X11_leaf T 109 v hv e = v_X11_leastMark T hv := by
        unfold v_X11_leaf
        rw [if_neg (by decide), if_neg (by decide), if_neg (by decide), if_neg (by decide), if_neg (by decide), if_neg (by decide), if_neg (by decide)]
      rw [lhs, rhs]
      unfold v_X11_leastMark
      rw [(hlea _).1, (hlea _).1, r141, nP, e2]
      by_cases c0 : T0.1 g 2 = 0
      · rw [if_pos c0, if_pos c0]
      · rw [if_neg c0, if_neg c0]
        rfl
    · unfold ok_X11_leaf ok_X11_leastMark
      exact ⟨fun w => absurd w (by decide), fun w => absurd w (by decide), fun w => absurd w (by decide), fun w => absurd w (by decide), fun w => absurd w (by decide), fun w => absurd w (by decide), fun w => absurd w (by decide), fun _ _ _ _ _ _ _ => ⟨⟨vh, fun _ => ⟨by rw [vp_in_iff]; exact ⟨by decide, by decide⟩, (hlea _).2⟩, fun _ => (hlea _).2⟩, trivial⟩⟩
