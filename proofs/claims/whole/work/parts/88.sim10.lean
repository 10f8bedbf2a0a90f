/-! e: the whole descent -/
theorem rk_le (x : Int32) : (rk x).toInt ≤ 5 ∧ (x ≠ 43 → x ≠ 45 → (rk x).toInt ≤ 4) ∧ (x ≠ 43 → x ≠ 45 → ¬ relK x → (rk x).toInt ≤ 2) ∧ ((rk x).toInt ≤ 4 → rk x ≠ 4 → (rk x).toInt ≤ 2) ∧ ((rk x).toInt ≤ 2 → x ≠ 208 → (rk x).toInt ≤ 1) ∧ ((rk x).toInt ≤ 1 → x ≠ 207 → rk x = 0) ∧ (relK x → rk x = 4) := by
  unfold rk relK
  by_cases q1 : x = 43
  · rw [if_pos q1, q1]; decide
  rw [if_neg q1]
  by_cases q2 : x = 45
  · rw [if_pos q2, q2]; decide
  rw [if_neg q2]
  by_cases q3 : x = 60
  · rw [if_pos q3, q3]; decide
  rw [if_neg q3]
  by_cases q5 : x = 62
  · rw [if_pos q5, q5]; decide
  rw [if_neg q5]
  by_cases q6 : x = 61
  · rw [if_pos q6, q6]; decide
  rw [if_neg q6]
  by_cases q7 : x = 208
  · rw [if_pos q7, q7]; decide
  rw [if_neg q7]
  by_cases q8 : x = 207
  · rw [if_pos q8, q8]; decide
  rw [if_neg q8]
  exact ⟨by decide, fun _ _ => by decide, fun _ _ _ => by decide, fun _ _ => by decide, fun _ _ => by decide, fun _ _ => rfl, fun w => by
    rcases w with w | w | w
    · exact absurd w q3
    · exact absurd w q6
    · exact absurd w q5⟩
section
variable {sz N p q b h : Nat} {hv mv : Int32} {m : Bool} {ls ps : Int32} {s f dp : Nat}
theorem S_sum (g : gq p q) (hb : b < 5) (hh : hv.toInt = h) (h40 : h < 40) (hm : (mv = 1 ∧ m = true) ∨ (mv = 0 ∧ m = false)) (d7 : dp ≤ 7) {x : Int32} {rE : tT → Nat → Int32 → tT} {okrE : Nat → tT → Nat → Int32 → Prop} (sE : ∀ T, CS sz N p T → SF sz N p T (rE T q (x + 1)) ∧ okrE sz T q (x + 1)) (hE : dp + 1 < 8 → SIM sz N p q b h hv mv m ls ps s f (dp + 1) (fun T => rE T q (x + 1)) 0 (5 * (dp + 1) + 1) (fun t => 6 ≤ t) (fun kd => rk kd = 0) True (fun _ => True)) (h8 : dp + 1 = 8 → ∀ Tc Tr, CS sz N p Tc → TK N Tc Tr → Tc.1 3 1 = 0 → Tr.1 105 4 = 0 → FL (rE Tc q (x + 1)) (F_X11_wrong Tr)) {st : Int32} (st2 : st ≠ 2) : SIM sz N p q b h hv mv m ls ps s f dp (fun T => F_X6_readSum rE T q x) st (5 * dp + 4) (fun t => 6 ≤ t ∨ t ≤ 4) (fun kd => True ∧ ¬ (kd = 43 ∨ kd = 45)) False (fun kd => st = 0 → kd ≠ 209) := by
  have sL : ∀ T, CS sz N p T → SF sz N p T (F_X6_readLeaf rE T q x) := fun T hT => (SF_leaf x sE hT).1
  have L1 := S_leaf g hb hh h40 hm d7 (fun T hT => (sE T hT).1) hE h8 (st := 1) (by decide)
  have L0 := S_leaf g hb hh h40 hm d7 (fun T hT => (sE T hT).1) hE h8 (st := st) st2
  refine S_chain g hb (by omega) (bd := 5 * dp + 4) (bd' := 5 * dp + 5) (by omega) (by omega) (SG := fun kd => kd = 43 ∨ kd = 45) (r := 5) (fun kd hk => ?_) (by decide) (st := 1) (by decide) trivial (fun t ht => ⟨trivial, ?_⟩) (fun kd => (fun w => absurd w (by decide))) L1 L0 sL (fun kd _ => (rk_le kd).1) (fun kd z => absurd z id) (LP := fun n T v => vl_X6_readSum rE n T q x v) (fun n T v hT => ?_)
  · rcases hk with rfl | rfl
    · exact ⟨Or.inr (Or.inr (Or.inl rfl)), rfl⟩
    · exact ⟨Or.inr (Or.inr (Or.inr (Or.inl rfl))), rfl⟩
  · have : (5 : Int32).toInt = 5 := rfl
    have ht : 6 ≤ t ∨ t ≤ 4 := ht
    omega
  · have h4 := (SF_trans (SF_next hT).1 (sL _ (SF_next hT).1.1)).1.2.2.1
    have z14 : (1400 : Int32).toInt = 1400 := rfl
    refine ⟨fun v14 f0 hs => ?_, fun hs => ?_⟩
    · show vl_X6_readSum rE (n + 1) T q x v = _
      rw [vl_X6_readSum_s, if_neg (by rw [tle, z14]; omega), if_pos f0, h4]
      rcases hs with hs | hs
      · rw [if_pos hs]
      · rw [if_neg (by rw [hs]; decide), if_pos hs]
    · show vl_X6_readSum rE (n + 1) T q x v = T
      rw [vl_X6_readSum_s]
      rcases hs with hs | hs | hs
      · rw [if_pos (by rw [tle, z14]; exact hs)]
      · split
        · rfl
        · first | rfl | rw [if_neg hs]
      · split
        · rfl
        · split
          · rw [if_neg (fun w => hs (Or.inl w)), if_neg (fun w => hs (Or.inr w))]
          · rfl
theorem S_comp (g : gq p q) (hb : b < 5) (hh : hv.toInt = h) (h40 : h < 40) (hm : (mv = 1 ∧ m = true) ∨ (mv = 0 ∧ m = false)) (d7 : dp ≤ 7) {x : Int32} {rE : tT → Nat → Int32 → tT} {okrE : Nat → tT → Nat → Int32 → Prop} (sE : ∀ T, CS sz N p T → SF sz N p T (rE T q (x + 1)) ∧ okrE sz T q (x + 1)) (hE : dp + 1 < 8 → SIM sz N p q b h hv mv m ls ps s f (dp + 1) (fun T => rE T q (x + 1)) 0 (5 * (dp + 1) + 1) (fun t => 6 ≤ t) (fun kd => rk kd = 0) True (fun _ => True)) (h8 : dp + 1 = 8 → ∀ Tc Tr, CS sz N p Tc → TK N Tc Tr → Tc.1 3 1 = 0 → Tr.1 105 4 = 0 → FL (rE Tc q (x + 1)) (F_X11_wrong Tr)) : SIM sz N p q b h hv mv m ls ps s f dp (fun T => F_X6_readCompared rE T q x) 0 (5 * dp + 3) (fun t => 6 ≤ t ∨ t ≤ 3) (fun kd => (rk kd).toInt ≤ 2) True (fun kd => kd ≠ 209) := by
  have A0 := S_sum g hb hh h40 hm d7 sE hE h8 (st := 0) (by decide)
  have A1 := S_sum g hb hh h40 hm d7 sE hE h8 (st := 1) (by decide)
  have sS : ∀ T, CS sz N p T → SF sz N p T (F_X6_readSum rE T q x) := fun T hT => (SF_sum x sE T hT).1
  intro Tc Tr k ht l n R OK he hc kb gd hn hR hO
  have hc : 6 ≤ (Tr.1 129 k).toInt ∨ (Tr.1 129 k).toInt ≤ 3 := hc
  have o1 : OUT sz N p q b h hv mv m ls ps s f (k + 1) dp ht (fun kd => True ∧ ¬ (kd = 43 ∨ kd = 45)) False Tc Tr (F_X6_readSum rE Tc q x) R OK := A0 Tc Tr k ht l n R OK he (by
    show 6 ≤ (Tr.1 129 k).toInt ∨ (Tr.1 129 k).toInt ≤ 4
    omega) (by omega) (fun _ => gd) hn hR hO
  show OUT sz N p q b h hv mv m ls ps s f (k + 1) dp ht (fun kd => (rk kd).toInt ≤ 2) True Tc Tr (F_X6_readCompared rE Tc q x) R OK
  unfold F_X6_readCompared
  rcases OUT_iff.mp o1 with ⟨c1, c2⟩ | ⟨c1, c2, c3⟩ | ⟨c0, _⟩
  · have c1' := c1
    obtain ⟨_, _, _, _, e1, _⟩ := c1'
    rw [if_pos e1.2.2.2.1.1]
    have h4 := (SF_trans (sS Tc he.2.1) (SF_trans (SF_next (sS Tc he.2.1).1).1 (sS _ (SF_next (sS Tc he.2.1).1).1.1))).1.2.2.1
    rw [h4]
    dsimp only
    have bin : relK ((F_X6_readSum rE Tc q x).1 4 2) → OUT sz N p q b h hv mv m ls ps s f (k + 1) dp ht (fun kd => (rk kd).toInt ≤ 2) True Tc Tr (F_X8_addCell (F_X6_readSum rE (F_X9_next (F_X6_readSum rE Tc q x)) q x) p ((F_X6_readSum rE Tc q x).1 4 2) 0) R OK := by
      intro rl
      have r4 := (rk_le ((F_X6_readSum rE Tc q x).1 4 2)).2.2.2.2.2.2 rl
      have bk : bK ((F_X6_readSum rE Tc q x).1 4 2) := Or.inr (Or.inr (Or.inr (Or.inr (by
        rcases rl with w | w | w
        · exact Or.inl w
        · exact Or.inr (Or.inl w)
        · exact Or.inr (Or.inr w)))))
      have z4 : (4 : Int32).toInt = 4 := rfl
      have out := (S_bin g hb c1 he.2.2.2.2.2.2.2.2 bk (by omega) (bd := 5 * dp + 4) (by omega) (by omega) (G := fun T => F_X6_readSum rE T q x) (st := 1) (by rw [r4]; decide) (by
        show 6 ≤ (rk ((F_X6_readSum rE Tc q x).1 4 2)).toInt ∨ (rk ((F_X6_readSum rE Tc q x).1 4 2)).toInt ≤ 4
        rw [r4, z4]
        omega) (fun kd => (fun w => absurd w (by decide))) A1 sS (by rw [r4, z4]; omega) (fun kd hk => by
        rw [r4, z4]
        exact (rk_le kd).2.1 (fun w => hk.2 (Or.inl w)) (fun w => hk.2 (Or.inr w)))).1
      refine OUT_P out (fun z => ?_) (fun _ => trivial)
      have z' := z.2
      rw [r4] at z'
      exact (rk_le _).2.2.2.1 ((rk_le _).2.1 (fun w => z.1.2 (Or.inl w)) (fun w => z.1.2 (Or.inr w))) (fun w => z' ⟨rfl, w⟩)
    by_cases q1 : (F_X6_readSum rE Tc q x).1 4 2 = 60
    · rw [if_pos q1]
      exact bin (Or.inl q1)
    rw [if_neg q1]
    by_cases q2 : (F_X6_readSum rE Tc q x).1 4 2 = 62
    · rw [if_pos q2]
      exact bin (Or.inr (Or.inr q2))
    rw [if_neg q2]
    by_cases q3 : (F_X6_readSum rE Tc q x).1 4 2 = 61
    · rw [if_pos q3]
      exact bin (Or.inr (Or.inl q3))
    rw [if_neg q3]
    exact OUT_P o1 (fun z => (rk_le _).2.2.1 (fun w => z.2 (Or.inl w)) (fun w => z.2 (Or.inr w)) (fun w => by
      rcases w with w | w | w
      · exact q1 w
      · exact q3 w
      · exact q2 w)) (fun _ => trivial)
  · rw [if_neg c1.1]
    exact OUT_iff.mpr (Or.inr (Or.inl ⟨c1, c2, c3⟩))
  · exact absurd c0 id
theorem S_one (g : gq p q) (hb : b < 5) (hh : hv.toInt = h) (h40 : h < 40) (hm : (mv = 1 ∧ m = true) ∨ (mv = 0 ∧ m = false)) (d7 : dp ≤ 7) {x : Int32} (hx : x.toInt = dp) {rE rO : tT → Nat → Int32 → tT} {okrE : Nat → tT → Nat → Int32 → Prop} (sE : ∀ T, CS sz N p T → SF sz N p T (rE T q (x + 1)) ∧ okrE sz T q (x + 1)) (sO : ∀ T, CS sz N p T → SF sz N p T (rO T q (x + 1))) (hE : dp + 1 < 8 → SIM sz N p q b h hv mv m ls ps s f (dp + 1) (fun T => rE T q (x + 1)) 0 (5 * (dp + 1) + 1) (fun t => 6 ≤ t) (fun kd => rk kd = 0) True (fun _ => True)) (h8 : dp + 1 = 8 → ∀ Tc Tr, CS sz N p Tc → TK N Tc Tr → Tc.1 3 1 = 0 → Tr.1 105 4 = 0 → FL (rE Tc q (x + 1)) (F_X11_wrong Tr)) (hOn : dp + 1 < 8 → SIM sz N p q b h hv mv m ls ps s f (dp + 1) (fun T => rO T q (x + 1)) 0 (5 * (dp + 1) + 3) (fun t => 6 ≤ t ∨ t ≤ 3) (fun kd => (rk kd).toInt ≤ 2) True (fun _ => True)) (h8o : dp + 1 = 8 → ∀ Tc Tr, CS sz N p Tc → TK N Tc Tr → Tc.1 3 1 = 0 → Tr.1 105 4 = 0 → FL (rO Tc q (x + 1)) (F_X11_wrong Tr)) : SIM sz N p q b h hv mv m ls ps s f dp (fun T => F_X6_readOne rE rO T q x) 0 (5 * dp + 3) (fun t => 6 ≤ t ∨ t ≤ 3) (fun kd => (rk kd).toInt ≤ 2) True (fun _ => True) := by
  have CO := S_comp g hb hh h40 hm d7 sE hE h8
  intro Tc Tr k ht l n R OK he hc kb gd hn hR hO
  have z8 : (8 : Int32).toInt = 8 := rfl
  have x8 : x < 8 := by rw [tlt, z8]; omega
  show OUT sz N p q b h hv mv m ls ps s f (k + 1) dp ht (fun kd => (rk kd).toInt ≤ 2) True Tc Tr (F_X6_readOne rE rO Tc q x) R OK
  unfold F_X6_readOne
  rw [if_pos x8]
  by_cases c9 : Tc.1 4 2 = 209
  · have pN := pos_le he
    obtain ⟨n, rfl⟩ : ∃ n', n = n' + 1 := ⟨n - 1, by omega⟩
    have sn := (SF_next he.2.1).1
    have so := sO (F_X9_next Tc) sn.1
    have h4 := so.1.2.2.1
    rw [if_pos c9, h4]
    dsimp only
    have scell := (SF_cell so.1 209 0).1
    obtain ⟨Tr1, hT1, o1, o2, o3, o4, o5, o6, o7, o8⟩ := val_open (hv := hv) (st := 0) he g (by omega) d7 (w0 := 3) (Or.inr ⟨c9, rfl, rfl⟩)
    obtain ⟨e1, e2⟩ := e_go (n := n) he (by decide) o6 o7
    obtain ⟨nx1, nx2, nx3, nx4, nx5, nx6, nx7, nx8⟩ := ER_next g he
    have px := nx7 (Or.inr (Or.inr (Or.inr c9)))
    have gp := g.1
    have kd : ∀ T : tT, ∀ i, (F_X8_addCell T p 209 0).1 4 i = T.1 4 i := fun T i => by
      unfold F_X8_addCell
      split
      · rfl
      · rw [tI_off (fun z => by have := z.1; omega), tI_off (fun z => by have := z.1; omega)]
    have kf : ∀ T : tT, (F_X8_addCell T p 209 0).1 3 1 = T.1 3 1 := fun T => by
      unfold F_X8_addCell
      split
      · rfl
      · rw [tI_off (fun z => by have := z.1; omega), tI_off (fun z => by have := z.1; omega)]
    by_cases c8 : dp + 1 < 8
    · rw [if_pos c8] at e1 e2
      rw [e1] at hR
      have out : OUT sz N p q b h hv mv m ls ps s f (k + 1 + 1) (dp + 1) ht (fun kd => (rk kd).toInt ≤ 2) True (F_X9_next Tc) Tr1 (rO (F_X9_next Tc) q (x + 1)) R OK := hOn c8 (F_X9_next Tc) Tr1 (k + 1) ht l n R OK o1 (by
        show 6 ≤ (Tr1.1 129 (k + 1)).toInt ∨ (Tr1.1 129 (k + 1)).toInt ≤ 3
        rw [o3]
        decide) (by omega) trivial (by omega) hR (fun o => hO (e2 o))
      rcases OUT_iff.mp out with ⟨⟨Tr2, l2, n2, m2, r1, r3, r4, r5, r6, r7, r8, r9, r10, r11, r12⟩, r2⟩ | ⟨r1, r2, r3⟩ | ⟨_, r1, r2, r3, r4, r5, r6⟩
      · have r2 : (rk ((rO (F_X9_next Tc) q (x + 1)).1 4 2)).toInt ≤ 2 := r2
        have w3 : Tr2.1 129 (k + 1) = 3 := by rw [(r8 (k + 1) (by omega)).1]; exact o3
        have w6 : Tr2.1 130 (k + 1) = rc 209 := by rw [(r8 (k + 1) (by omega)).2]; exact o4
        obtain ⟨Tr3, l3, m3, d1, d2, d3, d4, d5, d6, d7', d8, d9, d10⟩ := S_pop (n' := n2) (m' := m2) (hv := hv) g hb (kk := 209) r1 w3 w6 (dp' := dp) (by decide) (by rw [show (3 : Int32).toInt = 3 from rfl]; omega) (fun w => absurd w.2 (by decide)) (Or.inl ⟨rfl, rfl⟩) (by omega) (by omega) (ht2 := ht + 1) (by
          have := he.2.2.2.2.2.2.2.2
          omega) (by decide) (Or.inr (Or.inr (Or.inr (Or.inl rfl)))) (by
          unfold hts
          rw [if_neg (by decide), if_pos rfl, if_pos (by omega)]
          rfl) (by decide) r10
        refine OUT_iff.mpr (Or.inl ⟨⟨Tr3, l3, n2, m3, d1, by omega, ?_, fr_trans o2 (fr_trans r5 d2), kpC_trans (kpC_w4 g.1 nx2) (kpC_trans r6 d3), kpR_trans o8 (kpR_trans r7 d4), ?_, ?_, d8, by rw [r11, d9, d6], fun o => r12 (d10 (by rw [d6] at o; exact o))⟩, by rw [d6]; exact r2⟩)
        · unfold pos at *
          rw [d6]
          omega
        · intro i hi
          rw [(d7' i).1, (d7' i).2, (r8 i (by omega)).1, (r8 i (by omega)).2]
          exact o5 i hi
        · unfold pos at *
          rw [d6]
          omega
      · exact OUT_iff.mpr (Or.inr (Or.inl ⟨FL_SF r1 scell, r2, fr_trans o2 r3⟩))
      · exact OUT_iff.mpr (Or.inr (Or.inr ⟨trivial, by rw [kf]; exact r1, by rw [kd]; exact r2, r3, by rw [kd]; exact r4, r5, fr_trans o2 r6⟩))
    · rw [if_neg c8] at e1 e2
      obtain ⟨n, rfl⟩ : ∃ n', n = n' + 1 := ⟨n - 1, by omega⟩
      obtain ⟨z1, z2⟩ := e_flt (n := n) (sz := sz) (hv := hv) (mv := mv) (st := 0) (wrong_ne o1.2.2.2.1.2)
      rw [e1, z1] at hR
      rw [hR]
      exact OUT_iff.mpr (Or.inr (Or.inl ⟨FL_SF (h8o (by omega) (F_X9_next Tc) Tr1 sn.1 o1.2.2.1 o1.2.2.2.1.1 o1.2.2.2.1.2) scell, hO (e2 z2), fr_trans o2 fr_wrong⟩))
  · rw [if_neg c9]
    exact CO Tc Tr k ht l n R OK he hc kb c9 hn hR hO
theorem S_both (g : gq p q) (hb : b < 5) (d7 : dp ≤ 7) {x : Int32} {rO : tT → Nat → Int32 → tT} (sO : ∀ T, CS sz N p T → SF sz N p T (rO T q x)) (hO : SIM sz N p q b h hv mv m ls ps s f dp (fun T => rO T q x) 0 (5 * dp + 3) (fun t => 6 ≤ t ∨ t ≤ 3) (fun kd => (rk kd).toInt ≤ 2) True (fun _ => True)) : SIM sz N p q b h hv mv m ls ps s f dp (fun T => F_X6_readBoth rO T q x) 0 (5 * dp + 2) (fun t => 6 ≤ t ∨ t ≤ 1) (fun kd => (rk kd).toInt ≤ 2 ∧ ¬ kd = 208) True (fun _ => True) := by
  refine S_chain g hb (by omega) (bd := 5 * dp + 2) (bd' := 5 * dp + 3) (by omega) (by omega) (SG := fun kd => kd = 208) (r := 2) (fun kd hk => ?_) (by decide) (st := 0) (by decide) (Or.inr (by decide)) (fun t ht => ?_) (fun _ => trivial) hO hO sO (fun kd hk => hk) (fun kd _ hr => ?_) (LP := fun n T v => vl_X6_readBoth rO n T q x v) (fun n T v hT => ?_)
  · subst hk
    exact ⟨Or.inr (Or.inl rfl), rfl⟩
  · have : (2 : Int32).toInt = 2 := rfl
    have ht : 6 ≤ t ∨ t ≤ 1 := ht
    exact ⟨by show 6 ≤ t ∨ t ≤ 3; omega, by omega⟩
  · have r4 := (rk_le kd).2.2.2.2.2.2 hr
    refine ⟨fun w => ?_, fun w => ?_⟩
    · rw [w] at hr
      rcases hr with hr | hr | hr <;> exact absurd hr (by decide)
    · rw [r4] at w
      exact absurd w (by decide)
  · have h4 := (SF_trans (SF_next hT).1 (sO _ (SF_next hT).1.1)).1.2.2.1
    have z14 : (1400 : Int32).toInt = 1400 := rfl
    refine ⟨fun v14 f0 hs => ?_, fun hs => ?_⟩
    · show vl_X6_readBoth rO (n + 1) T q x v = _
      rw [vl_X6_readBoth_s, if_neg (by rw [tle, z14]; omega), if_pos f0, h4, if_pos hs, hs]
    · show vl_X6_readBoth rO (n + 1) T q x v = T
      rw [vl_X6_readBoth_s]
      rcases hs with hs | hs | hs
      · rw [if_pos (by rw [tle, z14]; exact hs)]
      · split
        · rfl
        · first | rfl | rw [if_neg hs]
      · split
        · rfl
        · split
          · first | rfl | rw [if_neg hs]
          · rfl
theorem S_E (g : gq p q) (hb : b < 5) (d7 : dp ≤ 7) {x : Int32} {rO : tT → Nat → Int32 → tT} {okrO : Nat → tT → Nat → Int32 → Prop} (sO : ∀ T, CS sz N p T → SF sz N p T (rO T q x) ∧ okrO sz T q x) (hO : SIM sz N p q b h hv mv m ls ps s f dp (fun T => rO T q x) 0 (5 * dp + 3) (fun t => 6 ≤ t ∨ t ≤ 3) (fun kd => (rk kd).toInt ≤ 2) True (fun _ => True)) : SIM sz N p q b h hv mv m ls ps s f dp (fun T => F_X6_readE rO T q x) 0 (5 * dp + 1) (fun t => 6 ≤ t) (fun kd => rk kd = 0) True (fun _ => True) := by
  have B := S_both g hb d7 (fun T hT => (sO T hT).1) hO
  have sB : ∀ T, CS sz N p T → SF sz N p T (F_X6_readBoth rO T q x) := fun T hT => (SF_both x sO T hT).1
  have A := S_chain g hb (by omega) (bd := 5 * dp + 1) (bd' := 5 * dp + 2) (by omega) (by omega) (SG := fun kd => kd = 207) (r := 1) (C0 := fun t => 6 ≤ t) (fun kd hk => by
    subst hk
    exact ⟨Or.inl rfl, rfl⟩) (by decide) (st := 0) (by decide) (Or.inr (by decide)) (fun t ht => ⟨Or.inl ht, Or.inl (by have ht : 6 ≤ t := ht; omega)⟩) (fun _ => trivial) B B sB (fun kd hk => (rk_le kd).2.2.2.2.1 hk.1 hk.2) (fun kd _ hr => by
    have r4 := (rk_le kd).2.2.2.2.2.2 hr
    refine ⟨fun w => ?_, fun w => ?_⟩
    · rw [w] at hr
      rcases hr with hr | hr | hr <;> exact absurd hr (by decide)
    · have w := w.1
      rw [r4] at w
      exact absurd w (by decide)) (LP := fun n T v => vl_X6_readE rO n T q x v) (fun n T v hT => by
    have h4 := (SF_trans (SF_next hT).1 (sB _ (SF_next hT).1.1)).1.2.2.1
    have z14 : (1400 : Int32).toInt = 1400 := rfl
    refine ⟨fun v14 f0 hs => ?_, fun hs => ?_⟩
    · show vl_X6_readE rO (n + 1) T q x v = _
      rw [vl_X6_readE_s, if_neg (by rw [tle, z14]; omega), if_pos f0, h4, if_pos hs, hs]
    · show vl_X6_readE rO (n + 1) T q x v = T
      rw [vl_X6_readE_s]
      rcases hs with hs | hs | hs
      · rw [if_pos (by rw [tle, z14]; exact hs)]
      · split
        · rfl
        · first | rfl | rw [if_neg hs]
      · split
        · rfl
        · split
          · first | rfl | rw [if_neg hs]
          · rfl)
  intro Tc Tr k ht l n R OK he hc kb gd hn hR hO'
  exact OUT_P (A Tc Tr k ht l n R OK he hc kb gd hn hR hO') (fun z => (rk_le _).2.2.2.2.2.1 ((rk_le _).2.2.2.2.1 z.1.1 z.1.2) z.2) id
/-- too deep -/
theorem deep_O {n : Nat} {x : Int32} (hx : x.toInt = 8) {Tc Tr : tT} (ht : TK N Tc Tr) (hc : Tc.1 3 1 = 0) (hr : Tr.1 105 4 = 0) : Oc (n + 1) Tc q x = F_X6_refuse Tc ∧ FL (F_X6_refuse Tc) (F_X11_wrong Tr) := by
  refine ⟨?_, FL_refuse ht hc hr⟩
  show F_X6_readOne (F_X6_readE (Oc n)) (Oc n) Tc q x = _
  unfold F_X6_readOne
  rw [if_neg (by rw [tlt, hx]; decide)]
theorem deep_E {n : Nat} {x : Int32} (hx : x.toInt = 8) {Tc Tr : tT} (ht : TK N Tc Tr) (hc : Tc.1 3 1 = 0) (hr : Tr.1 105 4 = 0) : FL (F_X6_readE (Oc (n + 1)) Tc q x) (F_X11_wrong Tr) := by
  obtain ⟨e1, e2⟩ := deep_O (n := n) (q := q) hx ht hc hr
  have f0 : ¬ (F_X6_refuse Tc).1 3 1 = 0 := e2.1
  obtain ⟨F, hF⟩ := fu8
  have b1 : F_X6_readBoth (Oc (n + 1)) Tc q x = F_X6_refuse Tc := by
    unfold F_X6_readBoth
    rw [e1, hF, vl_X6_readBoth_s, if_neg (by decide), if_neg f0]
  have b2 : F_X6_readE (Oc (n + 1)) Tc q x = F_X6_refuse Tc := by
    unfold F_X6_readE
    rw [b1, hF, vl_X6_readE_s, if_neg (by decide), if_neg f0]
  rw [b2]
  exact e2
theorem S_O (g : gq p q) (hb : b < 5) (hh : hv.toInt = h) (h40 : h < 40) (hm : (mv = 1 ∧ m = true) ∨ (mv = 0 ∧ m = false)) : ∀ (n dp : Nat) (x : Int32), x.toInt = dp → dp ≤ 7 → 9 ≤ dp + n → SIM sz N p q b h hv mv m ls ps s f dp (fun T => Oc n T q x) 0 (5 * dp + 3) (fun t => 6 ≤ t ∨ t ≤ 3) (fun kd => (rk kd).toInt ≤ 2) True (fun _ => True) := by
  intro n
  induction n with
  | zero => intro dp x hx h7 h9; omega
  | succ n ih =>
    intro dp x hx h7 h9
    have x1 : (x + 1).toInt = (dp + 1 : Nat) := by rw [tinc' (by omega)]; omega
    have sO := SF_O (sz := sz) (N := N) (p := p) (q := q) n (dp + 1) (x + 1) x1 (by omega) (by omega)
    have sE : ∀ T, CS sz N p T → SF sz N p T (F_X6_readE (Oc n) T q (x + 1)) ∧ ok_X6_readE (Oc n) (okOc n) sz T q (x + 1) := SF_E (x + 1) sO
    obtain ⟨n', rfl⟩ : ∃ n', n = n' + 1 := ⟨n - 1, by omega⟩
    exact S_one g hb hh h40 hm h7 hx sE (fun T hT => (sO T hT).1) (fun c => S_E g hb (by omega) sO (ih (dp + 1) (x + 1) x1 (by omega) (by omega))) (fun c Tc Tr _ ht hc hr => deep_E (by rw [x1]; omega) ht hc hr) (fun c => ih (dp + 1) (x + 1) x1 (by omega) (by omega)) (fun c Tc Tr _ ht hc hr => by
      obtain ⟨e1, e2⟩ := deep_O (n := n') (q := q) (x := x + 1) (by rw [x1]; omega) ht hc hr
      rw [e1]
      exact e2)
theorem S_top (g : gq p q) (hb : b < 5) (hh : hv.toInt = h) (h40 : h < 40) (hm : (mv = 1 ∧ m = true) ∨ (mv = 0 ∧ m = false)) : SIM sz N p q b h hv mv m ls ps s f 0 (fun T => Fc_readE T q 0) 0 1 (fun t => 6 ≤ t) (fun kd => rk kd = 0) True (fun _ => True) := S_E g hb (by omega) (SF_O 9 0 0 rfl (by omega) (by omega)) (S_O g hb hh h40 hm 9 0 0 rfl (by omega) (by omega))
end
