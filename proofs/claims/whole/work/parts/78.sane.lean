/-! the class's parser stays within its rows, also behind a fault -/
def wE (p k i : Nat) : Bool := (k == 4 && (i == 2 || i == 3 || i == 4 || i == 5 || i == 6)) || (k == 3 && (i == 1 || i == 2 || i == 5)) || (k == p && i == 3) || k == p + 2
def CS (sz N p : Nat) (T : tT) : Prop := TE N T ∧ (∃ a : Nat, (T.1 4 6).toInt = a ∧ a ≤ N) ∧ T.2.2 3 3 = some p ∧ (∃ u : Nat, (T.1 p 3).toInt = u ∧ u ≤ 750) ∧ (∃ l : Nat, (T.1 3 5).toInt = l ∧ l ≤ 150) ∧ tsy sz p ∧ 6 ≤ p
def fl (T T' : tT) : Prop := T.1 3 1 ≠ 0 → T'.1 3 1 = T.1 3 1 ∧ T'.1 3 2 = T.1 3 2
def SF (sz N p : Nat) (T T' : tT) : Prop := CS sz N p T' ∧ fr (wE p) T T' ∧ fl T T'
theorem SF_refl {sz N p : Nat} {T : tT} (h : CS sz N p T) : SF sz N p T T := ⟨h, fr_refl, fun _ => ⟨rfl, rfl⟩⟩
theorem SF_trans {sz N p : Nat} {T T1 T2 : tT} (h1 : SF sz N p T T1) (h2 : SF sz N p T1 T2) : SF sz N p T T2 := ⟨h2.1, fr_trans h1.2.1 h2.2.1, fun q => by
  obtain ⟨a1, a2⟩ := h1.2.2 q
  obtain ⟨b1, b2⟩ := h2.2.2 (by rw [a1]; exact q)
  exact ⟨b1.trans a1, b2.trans a2⟩⟩
theorem w4_wE {p : Nat} {T T' : tT} (f : fr w4 T T') : fr (wE p) T T' := fun k i h => f k i (by
  cases e : w4 k i with
  | false => rfl
  | true =>
    exfalso
    simp only [w4, wl, List.contains_iff_mem, List.mem_cons, List.not_mem_nil, Bool.or_eq_true, Prod.mk.injEq, or_false, false_or] at e
    have : wE p k i = true := by
      unfold wE
      rcases e with ⟨rfl, rfl⟩ | ⟨rfl, rfl⟩ | ⟨rfl, rfl⟩ | ⟨rfl, rfl⟩ | ⟨rfl, rfl⟩ <;> rfl
    rw [this] at h
    cases h)
theorem SF_next {sz N p : Nat} {T : tT} (h : CS sz N p T) : SF sz N p T (F_X9_next T) ∧ ok_X9_next sz T := by
  obtain ⟨h1, ⟨a, h2, h3⟩, h4, ⟨u, h5, h6⟩, ⟨l, h7, h8⟩, h9, h10⟩ := h
  obtain ⟨⟨f, pl, e, _, c3, c4⟩, ok⟩ := e_next9 (sz := sz) h1 h2 h3
  have eN : e ≤ N := by
    rcases c4.2 with ⟨x1, x2, _⟩ | ⟨_, _, x, _⟩ | ⟨_, _, _, x, _⟩ | ⟨x1, _, _, x, _⟩
    · omega
    · exact x.2.1
    · exact x.2.1
    · omega
  have e3 : ∀ i, (F_X9_next T).1 3 i = T.1 3 i := fun i => fr_i f (k := 3) (i := i) rfl
  refine ⟨⟨⟨⟨by rw [fr_i f (k := 4) (i := 1) rfl]; exact h1.1, h1.2.1, fun i hi => by rw [fr_j f (k := 1) (i := i) rfl]; exact h1.2.2 i hi⟩, ⟨e, c3, eN⟩, (fr_p f (k := 3) (i := 3) rfl).trans h4, ⟨u, ?_, h6⟩, ⟨l, by rw [e3]; exact h7, h8⟩, h9, h10⟩, w4_wE f, fun _ => ⟨e3 1, e3 2⟩⟩, ok⟩
  rw [fr_i f (k := p) (i := 3) (by
    cases e : w4 p 3 with
    | false => rfl
    | true =>
      exfalso
      simp only [w4, wl, List.contains_iff_mem, List.mem_cons, List.not_mem_nil, Bool.or_eq_true, Prod.mk.injEq, or_false, false_or] at e
      omega)]
  exact h5
/-- the parser's own cells -/
theorem CS_3 {sz N p : Nat} {T : tT} (h : CS sz N p T) {i : Nat} {v : Int32} (hi : i ≠ 5 ∨ ∃ l : Nat, v.toInt = l ∧ l ≤ 150) : CS sz N p (tI T 3 i v) := by
  obtain ⟨h1, ⟨a, h2, h3⟩, h4, ⟨u, h5, h6⟩, ⟨l, h7, h8⟩, h9, h10⟩ := h
  refine ⟨⟨by rw [tI_off (fun w => by have := w.1; omega)]; exact h1.1, h1.2.1, h1.2.2⟩, ⟨a, by rw [tI_off (fun w => by have := w.1; omega)]; exact h2, h3⟩, h4, ⟨u, by rw [tI_off (fun w => by have := w.1; omega)]; exact h5, h6⟩, ?_, h9, h10⟩
  by_cases c : i = 5
  · subst c
    rcases hi with hi | ⟨l', x1, x2⟩
    · exact absurd rfl hi
    · exact ⟨l', by rw [tI_at]; exact x1, x2⟩
  · exact ⟨l, by rw [tI_off (fun w => by have := w.2; omega)]; exact h7, h8⟩
theorem wE_3 {p i : Nat} (h : i = 1 ∨ i = 2 ∨ i = 5) : wE p 3 i = true := by
  unfold wE
  rcases h with rfl | rfl | rfl <;> rfl
theorem SF_fail {sz N p : Nat} {T : tT} (h : CS sz N p T) (a b : Int32) : SF sz N p T (F_X6_fail T a b) := by
  unfold F_X6_fail
  by_cases c : T.1 3 1 = 0
  · rw [if_pos c]
    exact ⟨CS_3 (CS_3 h (Or.inl (by decide))) (Or.inl (by decide)), fr_I (wE_3 (by omega)) (fr_I (wE_3 (by omega)) fr_refl), fun q => absurd c q⟩
  · rw [if_neg c]
    exact SF_refl h
theorem SF_refuse {sz N p : Nat} {T : tT} (h : CS sz N p T) : SF sz N p T (F_X6_refuse T) := by
  unfold F_X6_refuse
  split <;> exact SF_fail h _ _
theorem SF_take {sz N p : Nat} {T : tT} (h : CS sz N p T) (k : Int32) : SF sz N p T (F_X6_take T k) ∧ ok_X6_take sz T k := by
  obtain ⟨n1, n2⟩ := SF_next h
  refine ⟨?_, fun _ => ⟨fun _ => trivial, fun _ => ⟨n2, trivial⟩⟩, fun _ => trivial⟩
  unfold F_X6_take
  split
  · split
    · exact n1
    · exact SF_refuse h
  · exact SF_refl h
theorem SF_cell {sz N p : Nat} {T : tT} (h : CS sz N p T) (a b : Int32) : SF sz N p T (F_X8_addCell T p a b) ∧ ok_X8_addCell sz T p a b := by
  obtain ⟨h1, ⟨x, h2, h3⟩, h4, ⟨u, h5, h6⟩, ⟨l, h7, h8⟩, h9, h10⟩ := h
  have z : (750 : Int32).toInt = 750 := rfl
  refine ⟨?_, fun _ => trivial, fun c => by rw [tle, z] at c; rw [vp_in_iff]; omega⟩
  unfold F_X8_addCell
  by_cases c : (750 : Int32) ≤ T.1 p 3
  · rw [if_pos c]
    exact SF_refl ⟨h1, ⟨x, h2, h3⟩, h4, ⟨u, h5, h6⟩, ⟨l, h7, h8⟩, h9, h10⟩
  · rw [if_neg c]
    rw [tle, z] at c
    have e3 : (tI T (p + 2) (T.1 p 3).toNatClampNeg (a <<< ((20 : Int32) &&& 31) ||| b)).1 p 3 = T.1 p 3 := tI_off (fun w => by have := w.1; omega)
    rw [e3]
    have off : ∀ k i, k < 6 → (tI (tI T (p + 2) (T.1 p 3).toNatClampNeg (a <<< ((20 : Int32) &&& 31) ||| b)) p 3 (T.1 p 3 + 1)).1 k i = T.1 k i := fun k i hk => by
      rw [tI_off (fun w => by have := w.1; omega), tI_off (fun w => by have := w.1; omega)]
    refine ⟨⟨⟨by rw [off 4 1 (by decide)]; exact h1.1, h1.2.1, h1.2.2⟩, ⟨x, by rw [off 4 6 (by decide)]; exact h2, h3⟩, h4, ⟨u + 1, ?_, by omega⟩, ⟨l, by rw [off 3 5 (by decide)]; exact h7, h8⟩, h9, h10⟩, fr_I (by unfold wE; simp) (fr_I (by unfold wE; simp) fr_refl), fun _ => ⟨off 3 1 (by decide), off 3 2 (by decide)⟩⟩
    rw [tI_at, tinc' (by omega), h5]
    omega
theorem k_find {sz : Nat} {T : tT} {u : Nat} {x1 : Int32} {x2 : Int64} : ok_X3_find sz T u x1 x2 := by
  have key : ∀ (r n k : Nat) (v : Int32), v.toInt = k → k + r = 6 → r < n → okl_X3_find n sz T u x1 x2 v := by
    intro r
    induction r with
    | zero =>
      intro n k v hv hk hn
      obtain ⟨n, rfl⟩ : ∃ n', n = n' + 1 := ⟨n - 1, by omega⟩
      have cc : nI 6 ≤ v := by rw [tle, nI_toInt (by omega)]; omega
      simp only [okl_X3_find]
      exact ⟨fun _ => trivial, fun _ => ⟨fun _ => trivial, fun w => absurd cc w⟩⟩
    | succ r ih =>
      intro n k v hv hk hn
      obtain ⟨n, rfl⟩ : ∃ n', n = n' + 1 := ⟨n - 1, by omega⟩
      simp only [okl_X3_find]
      exact ⟨fun _ => trivial, fun _ => ⟨fun _ => trivial, fun _ => ⟨by rw [vp_in_iff]; omega, fun _ => ih n (k + 1) (v + 1) (by rw [tinc' (by omega)]; omega) (by omega) (by omega), fun _ => trivial⟩⟩⟩
  exact key 6 fu 0 0 rfl rfl (by rw [fu_eq]; omega)
theorem SF_meaning {sz N p : Nat} {T : tT} {q : Nat} (h : CS sz N p T) : SF sz N p T (F_X6_addMeaning T q) ∧ ok_X6_addMeaning sz T q := by
  have h4 := h.2.2.1
  have ty := h.2.2.2.2.2.1
  have hc : ∀ k v, ((T.2.2 3 3) = none → False) ∧ (∀ p2, (T.2.2 3 3) = some p2 → tsy sz p2 ∧ (ok_X8_addCell sz T p2 k v ∧ True)) := fun k v => ⟨fun w => (by rw [h4] at w; cases w), fun p2 w => by rw [h4] at w; cases w; exact ⟨ty, (SF_cell h k v).2, trivial⟩⟩
  have nm : ∀ k v, ok_X6_addNamed sz T k v := fun k v => ⟨fun _ => hc k v, fun _ => trivial⟩
  have fp : ok_X3_findPart sz T q (T.2.1 4 5) := ⟨k_find, trivial⟩
  have fl' : ok_X3_findList sz T q (T.2.1 4 5) := ⟨k_find, trivial⟩
  have an : ∀ k v, SF sz N p T (F_X6_addNamed T k v) := fun k v => by
    unfold F_X6_addNamed
    rw [h4]
    split
    · exact SF_fail h _ _
    · exact (SF_cell h _ _).1
  refine ⟨?_, ⟨fun _ => ⟨fun _ => ⟨fun _ => ⟨fun _ => trivial, fun _ => hc _ _⟩, fun _ => ⟨fun _ => ⟨fun _ => trivial, fun _ => hc _ _⟩, fun _ => ⟨fun _ => ⟨fun _ => trivial, fun _ => hc _ _⟩, fun _ => ⟨fun _ => trivial, fun _ => hc _ _⟩⟩⟩⟩, fun _ => ⟨fun _ => ⟨fun _ => ⟨fp, nm _ _, trivial⟩, fun _ => ⟨fl', nm _ _, trivial⟩⟩, fun _ => ⟨fun _ => ⟨fp, nm _ _, trivial⟩, fun _ => ⟨fl', nm _ _, trivial⟩⟩⟩⟩, fun _ => hc _ _⟩⟩
  unfold F_X6_addMeaning
  rw [h4]
  dsimp only
  split
  · exact (SF_cell h _ _).1
  · split
    · split
      · exact an _ _
      · exact an _ _
    · split
      · split
        · exact (SF_cell h _ _).1
        · exact SF_fail h _ _
      · split
        · split
          · exact (SF_cell h _ _).1
          · exact SF_fail h _ _
        · split
          · split
            · exact (SF_cell h _ _).1
            · exact SF_fail h _ _
          · split
            · exact (SF_cell h _ _).1
            · exact SF_fail h _ _
section
variable {sz N p q : Nat} {rE rO : tT → Nat → Int32 → tT} {okrE okrO : Nat → tT → Nat → Int32 → Prop}
theorem SF_leaf (x : Int32) (hE : ∀ T, CS sz N p T → SF sz N p T (rE T q (x + 1)) ∧ okrE sz T q (x + 1)) {T : tT} (h : CS sz N p T) : SF sz N p T (F_X6_readLeaf rE T q x) ∧ ok_X6_readLeaf rE okrE sz T q x := by
  obtain ⟨n1, n2⟩ := SF_next h
  obtain ⟨e1, e2⟩ := hE (F_X9_next T) n1.1
  obtain ⟨t1, t2⟩ := SF_take (SF_trans n1 e1).1 41
  obtain ⟨l, l1, l2⟩ := h.2.2.2.2.1
  have lv : T.1 3 5 < 150 → SF sz N p T (F_X9_next (F_X6_addMeaning (tI T 3 5 (T.1 3 5 + 1)) q)) ∧ ok_X6_addMeaning sz (tI T 3 5 (T.1 3 5 + 1)) q ∧ ok_X9_next sz (F_X6_addMeaning (tI T 3 5 (T.1 3 5 + 1)) q) := by
    intro c
    rw [tlt, show (150 : Int32).toInt = 150 from rfl] at c
    have s1 : SF sz N p T (tI T 3 5 (T.1 3 5 + 1)) := ⟨CS_3 h (Or.inr ⟨l + 1, by rw [tinc' (by omega)]; omega, by omega⟩), fr_I (wE_3 (by omega)) fr_refl, fun _ => ⟨tI_off (fun w => by have := w.2; omega), tI_off (fun w => by have := w.2; omega)⟩⟩
    obtain ⟨m1, m2⟩ := SF_meaning (q := q) s1.1
    obtain ⟨k1, k2⟩ := SF_next m1.1
    exact ⟨SF_trans s1 (SF_trans m1 k1), m2, k2⟩
  refine ⟨?_, fun _ => ⟨fun _ => trivial, fun _ => ⟨fun c => ⟨(lv c).2.1, (lv c).2.2, trivial⟩, fun _ => trivial⟩⟩, fun _ => ⟨n2, e2, t2, trivial⟩⟩
  unfold F_X6_readLeaf
  split
  · exact SF_trans (SF_trans n1 e1) t1
  · split
    · exact SF_refuse h
    · split
      · rename_i c
        exact (lv c).1
      · exact SF_refuse h
/-- a cell behind a part -/
theorem SF_then {T T1 : tT} (h1 : SF sz N p T T1) (k v : Int32) : SF sz N p T (match T1.2.2 3 3 with | none => T | some p3 => F_X8_addCell T1 p3 k v) ∧ ((T1.2.2 3 3 = none → False) ∧ ∀ p3, T1.2.2 3 3 = some p3 → tsy sz p3 ∧ ok_X8_addCell sz T1 p3 k v) ∧ T1.2.2 3 3 = some p := by
  have h4 := h1.1.2.2.1
  obtain ⟨c1, c2⟩ := SF_cell h1.1 k v
  refine ⟨?_, ⟨fun w => (by rw [h4] at w; cases w), fun p3 w => by rw [h4] at w; cases w; exact ⟨h1.1.2.2.2.2.2.1, c2⟩⟩, h4⟩
  rw [h4]
  exact SF_trans h1 c1
theorem SF_sum (x : Int32) (hE : ∀ T, CS sz N p T → SF sz N p T (rE T q (x + 1)) ∧ okrE sz T q (x + 1)) : ∀ T, CS sz N p T → SF sz N p T (F_X6_readSum rE T q x) ∧ ok_X6_readSum rE okrE sz T q x := by
  have key : ∀ (r n k : Nat) (T : tT) (v : Int32), v.toInt = k → k + r = 1400 → r < n → CS sz N p T → SF sz N p T (vl_X6_readSum rE n T q x v) ∧ okl_X6_readSum rE okrE n sz T q x v := by
    intro r
    induction r with
    | zero =>
      intro n k T v hv hk hn h
      obtain ⟨n, rfl⟩ : ∃ n', n = n' + 1 := ⟨n - 1, by omega⟩
      have cc : (1400 : Int32) ≤ v := by rw [tle, show (1400 : Int32).toInt = 1400 from rfl]; omega
      rw [vl_X6_readSum_s, if_pos cc]
      simp only [okl_X6_readSum]
      exact ⟨SF_refl h, fun _ => trivial, fun w => absurd cc w⟩
    | succ r ih =>
      intro n k T v hv hk hn h
      obtain ⟨n, rfl⟩ : ∃ n', n = n' + 1 := ⟨n - 1, by omega⟩
      have cc : ¬ (1400 : Int32) ≤ v := by rw [tle, show (1400 : Int32).toInt = 1400 from rfl]; omega
      have st : (v + 1).toInt = (k + 1 : Nat) := by rw [tinc' (by omega)]; omega
      obtain ⟨n1, n2⟩ := SF_next h
      obtain ⟨l1, l2⟩ := SF_leaf x hE n1.1
      have t1 := SF_trans n1 l1
      have h4 := t1.1.2.2.1
      obtain ⟨c1, c2⟩ := SF_cell t1.1 (T.1 4 2) 0
      have t2 := SF_trans t1 c1
      obtain ⟨u1, u2⟩ := ih n (k + 1) _ (v + 1) st (by omega) (by omega) t2.1
      have t3 := SF_trans t2 u1
      rw [vl_X6_readSum_s, if_neg cc]
      simp only [okl_X6_readSum]
      rw [h4]
      have okk : ok_X9_next sz T ∧ (ok_X6_readLeaf rE okrE sz (F_X9_next T) q x ∧ ((some p = none → False) ∧ (∀ p3, some p = some p3 → tsy sz p3 ∧ (ok_X8_addCell sz (F_X6_readLeaf rE (F_X9_next T) q x) p3 (T.1 4 2) 0 ∧ okl_X6_readSum rE okrE n sz (F_X8_addCell (F_X6_readLeaf rE (F_X9_next T) q x) p3 (T.1 4 2) 0) q x (v + 1))))) := ⟨n2, l2, fun w => (by cases w), fun p3 w => by cases w; exact ⟨t1.1.2.2.2.2.2.1, c2, u2⟩⟩
      refine ⟨?_, fun w => absurd w cc, fun _ => ⟨fun _ => trivial, fun _ => ⟨fun _ => okk, fun _ => ⟨fun _ => okk, fun _ => trivial⟩⟩⟩⟩
      split
      · split
        · exact t3
        · split
          · exact t3
          · exact SF_refl h
      · exact SF_refl h
  intro T h
  obtain ⟨l1, l2⟩ := SF_leaf x hE h
  obtain ⟨u1, u2⟩ := key 1400 fu 0 _ 0 rfl rfl (by rw [fu_eq]; omega) l1.1
  exact ⟨SF_trans l1 u1, l2, u2⟩
theorem SF_comp (x : Int32) (hE : ∀ T, CS sz N p T → SF sz N p T (rE T q (x + 1)) ∧ okrE sz T q (x + 1)) {T : tT} (h : CS sz N p T) : SF sz N p T (F_X6_readCompared rE T q x) ∧ ok_X6_readCompared rE okrE sz T q x := by
  obtain ⟨s1, s2⟩ := SF_sum x hE T h
  obtain ⟨n1, n2⟩ := SF_next s1.1
  obtain ⟨r1, r2⟩ := SF_sum x hE _ n1.1
  have t1 := SF_trans s1 (SF_trans n1 r1)
  have h4 := t1.1.2.2.1
  obtain ⟨c1, c2⟩ := SF_cell t1.1 ((F_X6_readSum rE T q x).1 4 2) 0
  unfold F_X6_readCompared ok_X6_readCompared
  rw [h4]
  have okk : ok_X9_next sz (F_X6_readSum rE T q x) ∧ (ok_X6_readSum rE okrE sz (F_X9_next (F_X6_readSum rE T q x)) q x ∧ ((some p = none → False) ∧ (∀ p4, some p = some p4 → tsy sz p4 ∧ (ok_X8_addCell sz (F_X6_readSum rE (F_X9_next (F_X6_readSum rE T q x)) q x) p4 ((F_X6_readSum rE T q x).1 4 2) 0 ∧ True)))) := ⟨n2, r2, fun w => (by cases w), fun p4 w => by cases w; exact ⟨t1.1.2.2.2.2.2.1, c2, trivial⟩⟩
  refine ⟨?_, s2, fun _ => trivial, fun _ => ⟨fun _ => okk, fun _ => ⟨fun _ => okk, fun _ => ⟨fun _ => trivial, fun _ => okk⟩⟩⟩⟩
  dsimp only
  split
  · split
    · exact SF_trans t1 c1
    · split
      · exact SF_trans t1 c1
      · split
        · exact SF_trans t1 c1
        · exact s1
  · exact s1
theorem SF_one (x : Int32) (hE : x < 8 → ∀ T, CS sz N p T → SF sz N p T (rE T q (x + 1)) ∧ okrE sz T q (x + 1)) (hO : x < 8 → ∀ T, CS sz N p T → SF sz N p T (rO T q (x + 1)) ∧ okrO sz T q (x + 1)) {T : tT} (h : CS sz N p T) : SF sz N p T (F_X6_readOne rE rO T q x) ∧ ok_X6_readOne rE okrE rO okrO sz T q x := by
  unfold F_X6_readOne ok_X6_readOne
  by_cases c : x < 8
  · obtain ⟨n1, n2⟩ := SF_next h
    obtain ⟨o1, o2⟩ := hO c (F_X9_next T) n1.1
    have t1 := SF_trans n1 o1
    have h4 := t1.1.2.2.1
    obtain ⟨c1, c2⟩ := SF_cell t1.1 209 0
    obtain ⟨m1, m2⟩ := SF_comp x (hE c) h
    rw [if_pos c, h4]
    refine ⟨?_, fun _ => ⟨fun _ => ⟨m2, trivial⟩, fun _ => ⟨n2, o2, fun w => (by cases w), fun p4 w => by cases w; exact ⟨t1.1.2.2.2.2.2.1, c2, trivial⟩⟩⟩, fun w => absurd c w⟩
    dsimp only
    split
    · exact SF_trans t1 c1
    · exact m1
  · rw [if_neg c]
    exact ⟨SF_refuse h, fun w => absurd w c, fun _ => trivial⟩
theorem SF_both (x : Int32) (hO : ∀ T, CS sz N p T → SF sz N p T (rO T q x) ∧ okrO sz T q x) : ∀ T, CS sz N p T → SF sz N p T (F_X6_readBoth rO T q x) ∧ ok_X6_readBoth rO okrO sz T q x := by
  have key : ∀ (r n k : Nat) (T : tT) (v : Int32), v.toInt = k → k + r = 1400 → r < n → CS sz N p T → SF sz N p T (vl_X6_readBoth rO n T q x v) ∧ okl_X6_readBoth rO okrO n sz T q x v := by
    intro r
    induction r with
    | zero =>
      intro n k T v hv hk hn h
      obtain ⟨n, rfl⟩ : ∃ n', n = n' + 1 := ⟨n - 1, by omega⟩
      have cc : (1400 : Int32) ≤ v := by rw [tle, show (1400 : Int32).toInt = 1400 from rfl]; omega
      rw [vl_X6_readBoth_s, if_pos cc]
      simp only [okl_X6_readBoth]
      exact ⟨SF_refl h, fun _ => trivial, fun w => absurd cc w⟩
    | succ r ih =>
      intro n k T v hv hk hn h
      obtain ⟨n, rfl⟩ : ∃ n', n = n' + 1 := ⟨n - 1, by omega⟩
      have cc : ¬ (1400 : Int32) ≤ v := by rw [tle, show (1400 : Int32).toInt = 1400 from rfl]; omega
      have st : (v + 1).toInt = (k + 1 : Nat) := by rw [tinc' (by omega)]; omega
      obtain ⟨n1, n2⟩ := SF_next h
      obtain ⟨l1, l2⟩ := hO _ n1.1
      have t1 := SF_trans n1 l1
      have h4 := t1.1.2.2.1
      obtain ⟨c1, c2⟩ := SF_cell t1.1 208 0
      have t2 := SF_trans t1 c1
      obtain ⟨u1, u2⟩ := ih n (k + 1) _ (v + 1) st (by omega) (by omega) t2.1
      rw [vl_X6_readBoth_s, if_neg cc]
      simp only [okl_X6_readBoth]
      rw [h4]
      refine ⟨?_, fun w => absurd w cc, fun _ => ⟨fun _ => trivial, fun _ => ⟨fun _ => trivial, fun _ => ⟨n2, l2, fun w => (by cases w), fun p3 w => by cases w; exact ⟨t1.1.2.2.2.2.2.1, c2, u2⟩⟩⟩⟩⟩
      dsimp only
      split
      · split
        · exact SF_trans t2 u1
        · exact SF_refl h
      · exact SF_refl h
  intro T h
  obtain ⟨l1, l2⟩ := hO T h
  obtain ⟨u1, u2⟩ := key 1400 fu 0 _ 0 rfl rfl (by rw [fu_eq]; omega) l1.1
  exact ⟨SF_trans l1 u1, l2, u2⟩
theorem SF_E (x : Int32) (hO : ∀ T, CS sz N p T → SF sz N p T (rO T q x) ∧ okrO sz T q x) : ∀ T, CS sz N p T → SF sz N p T (F_X6_readE rO T q x) ∧ ok_X6_readE rO okrO sz T q x := by
  have key : ∀ (r n k : Nat) (T : tT) (v : Int32), v.toInt = k → k + r = 1400 → r < n → CS sz N p T → SF sz N p T (vl_X6_readE rO n T q x v) ∧ okl_X6_readE rO okrO n sz T q x v := by
    intro r
    induction r with
    | zero =>
      intro n k T v hv hk hn h
      obtain ⟨n, rfl⟩ : ∃ n', n = n' + 1 := ⟨n - 1, by omega⟩
      have cc : (1400 : Int32) ≤ v := by rw [tle, show (1400 : Int32).toInt = 1400 from rfl]; omega
      rw [vl_X6_readE_s, if_pos cc]
      simp only [okl_X6_readE]
      exact ⟨SF_refl h, fun _ => trivial, fun w => absurd cc w⟩
    | succ r ih =>
      intro n k T v hv hk hn h
      obtain ⟨n, rfl⟩ : ∃ n', n = n' + 1 := ⟨n - 1, by omega⟩
      have cc : ¬ (1400 : Int32) ≤ v := by rw [tle, show (1400 : Int32).toInt = 1400 from rfl]; omega
      have st : (v + 1).toInt = (k + 1 : Nat) := by rw [tinc' (by omega)]; omega
      obtain ⟨n1, n2⟩ := SF_next h
      obtain ⟨l1, l2⟩ := SF_both x hO _ n1.1
      have t1 := SF_trans n1 l1
      have h4 := t1.1.2.2.1
      obtain ⟨c1, c2⟩ := SF_cell t1.1 207 0
      have t2 := SF_trans t1 c1
      obtain ⟨u1, u2⟩ := ih n (k + 1) _ (v + 1) st (by omega) (by omega) t2.1
      rw [vl_X6_readE_s, if_neg cc]
      simp only [okl_X6_readE]
      rw [h4]
      refine ⟨?_, fun w => absurd w cc, fun _ => ⟨fun _ => trivial, fun _ => ⟨fun _ => trivial, fun _ => ⟨n2, l2, fun w => (by cases w), fun p3 w => by cases w; exact ⟨t1.1.2.2.2.2.2.1, c2, u2⟩⟩⟩⟩⟩
      dsimp only
      split
      · split
        · exact SF_trans t2 u1
        · exact SF_refl h
      · exact SF_refl h
  intro T h
  obtain ⟨l1, l2⟩ := SF_both x hO T h
  obtain ⟨u1, u2⟩ := key 1400 fu 0 _ 0 rfl rfl (by rw [fu_eq]; omega) l1.1
  exact ⟨SF_trans l1 u1, l2, u2⟩
end
theorem SF_O {sz N p q : Nat} : ∀ (n k : Nat) (x : Int32), x.toInt = k → k ≤ 8 → 9 ≤ k + n → ∀ T, CS sz N p T → SF sz N p T (Oc n T q x) ∧ okOc n sz T q x := by
  intro n
  induction n with
  | zero => intro k x hx h8 h9; omega
  | succ n ih =>
    intro k x hx h8 h9 T h
    have z8 : (8 : Int32).toInt = 8 := rfl
    have nx : x < 8 → ∀ T, CS sz N p T → SF sz N p T (Oc n T q (x + 1)) ∧ okOc n sz T q (x + 1) := fun c => by
      rw [tlt, z8] at c
      exact ih (k + 1) (x + 1) (by rw [tinc' (by omega)]; omega) (by omega) (by omega)
    exact SF_one x (fun c => SF_E (x + 1) (nx c)) nx h
theorem SF_top {sz N p q : Nat} {T : tT} (h : CS sz N p T) : SF sz N p T (Fc_readE T q 0) ∧ okc_readE sz T q 0 := SF_E 0 (SF_O 9 0 0 rfl (by omega) (by omega)) T h
