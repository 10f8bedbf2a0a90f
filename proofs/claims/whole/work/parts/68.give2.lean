/-! the class's planner: a day is given, by recursion -/
def uf (f : Nat → Nat) (a x t : Nat) : Nat := if t = a then x else f t
theorem uf_at {f : Nat → Nat} {a x : Nat} : uf f a x a = x := if_pos rfl
theorem uf_ne {f : Nat → Nat} {a x t : Nat} (h : t ≠ a) : uf f a x t = f t := if_neg h
section
variable {sz : Nat} {T0 : tT} {S E : Nat} {o : Nat → Nat} {pa pb : Nat} {a b e g cB : Nat} {whB : Nat → Int32} {woB : Nat → Int64} {d : Int} {dv : Int32}
/-- what giving the rest of a day does -/
def GP (T0 : tT) (S E : Nat) (o : Nat → Nat) (pa pb : Nat) (a b e g cB : Nat) (whB : Nat → Int32) (woB : Nat → Int64) (T T' : tT) (f : Nat → Nat) (k : Nat) (c0 m : Nat) (X : (Nat → Nat) → Prop) : Prop := ∃ c1, c0 ≤ c1 ∧ c1 ≤ c0 + m ∧ HP T0 S E o a b e g cB whB woB T' c1 ∧ (∀ i, i < c0 → T'.1 a i = T.1 a i ∧ T'.2.1 e i = T.2.1 e i) ∧ (cB = 0 → c1 = c0) ∧ (0 < cB → NW T0 E o pa pb a e cB whB woB X T' c0 c1)
theorem g_leaf (hsz : 161 ≤ sz) (hC : ICi T0) (hS : (T0.1 79 2).toInt = S) (hE : (T0.1 79 1).toInt = E) (S9 : S ≤ 9) (E5 : E ≤ 5) (hO : Ord T0 S o) (pbS : pb ≤ S) (B1 : cB ≤ 120) (hb : ∀ j, j < cB → okp T0 E (whB j) ∧ -1000000000000000 ≤ (woB j).toInt ∧ (woB j).toInt ≤ 1000000000000000) {T : tT} {p : Int32} {c : Int64} {f : Nat → Nat} {c0 m : Nat} (hT : HP T0 S E o a b e g cB whB woB T c0) (hr : rpP T0 E o pa f pb p) (hf : ∀ q, pa ≤ q → q < pb → f (o q) < E) (hc : c.toInt = csP T0 o pa f pb) (m1 : 1 ≤ m) (hm : c0 + m ≤ 120) : GP T0 S E o pa pb a b e g cB whB woB T (F_X7_addState T p c) f pb c0 m (EX T0 E o pa pb f pb) ∧ ok_X7_addState sz T p c := by
  obtain ⟨h1, h2, h3, h4, h5, h6, h7, h8⟩ := hT
  obtain ⟨w0, w1, w2, w3, w4, w5, w6, w7, w8⟩ := wP_fz h1 hC
  by_cases z : cB = 0
  · have cc : T.1 85 4 ≤ 0 := by rw [tle, show (0 : Int32).toInt = 0 from rfl]; omega
    have e1 : F_X7_addState T p c = T := by unfold F_X7_addState; rw [if_pos cc]
    rw [e1]
    refine ⟨⟨c0, Nat.le_refl _, by omega, ⟨h1, h2, h3, h4, h5, h6, h7, h8⟩, fun i _ => ⟨rfl, rfl⟩, fun _ => rfl, fun q => by omega⟩, ?_⟩
    unfold ok_X7_addState
    exact ⟨fun _ => trivial, fun w => absurd cc w⟩
  · have cr := csP_rg hC (pa := pa) S9 hO.1 pbS (fun q q1 q2 => by have := hf q q1 q2; omega) (f := f)
    have op := rpP_okp hC hS S9 hO pbS hr
    obtain ⟨⟨B, b1, b2⟩, b3⟩ := e_addS hsz w0 (by rw [w2]; exact hE) E5 h2 h3 (by omega) B1 h4 (by omega) (p := p) (c := c) (by omega) (by rw [okp_T w1]; exact op) (fun j hj => by
      rw [okp_T w1, h5, h6]
      exact hb j hj)
    rw [svv_T w4 w7, h5, h6] at b1
    rw [b2]
    refine ⟨⟨c0 + 1, by omega, by omega, ?_, ?_, fun q => absurd q z, fun _ => ?_⟩, b3⟩
    · obtain ⟨p1, p2, p3, p4, p5, p6⟩ := h2
      have fa1 : wP a c0 = true := by rcases p5 with ⟨q, _⟩ | ⟨q, _⟩ <;> subst q <;> rfl
      have fe1 : wP e c0 = true := by rcases p6 with ⟨q, _⟩ | ⟨q, _⟩ <;> subst q <;> rfl
      refine ⟨fr_I rfl (fr_J fe1 (fr_I fa1 h1)), ⟨p1, p2, p3, p4, p5, p6⟩, ?_, ?_, ?_, ?_, ?_, ?_⟩
      · rw [tI_off (fun q => by have := q.2; omega)]
        show ((tI T a c0 p).1 85 4).toInt = cB
        rw [tI_off (fun q => by have := q.1; omega)]
        exact h3
      · rw [tI_at, nI_toInt (by omega)]
      · rw [← h5]
        funext i
        rw [tI_off (fun q => by have := q.1; omega)]
        show (tI T a c0 p).1 b i = T.1 b i
        exact tI_off (fun q => by have := q.1; omega)
      · rw [← h6]
        funext i
        exact tJ_off (fun q => by have := q.1; omega)
      · intro q hq
        rw [tI_off (fun w => by have := w.1; omega)]
        show (tI T a c0 p).1 88 q = nI (o q)
        rw [tI_off (fun w => by have := w.1; omega)]
        exact h7 q hq
      · intro s x hs hx
        unfold alw
        rw [tI_off (fun w => by have := w.1; omega)]
        show (tI T a c0 p).1 87 (5 * s + x) = 0 ↔ _
        rw [tI_off (fun w => by have := w.1; omega)]
        exact h8 s x hs hx
    · intro i hi
      obtain ⟨p1, p2, p3, p4, p5, p6⟩ := h2
      refine ⟨?_, ?_⟩
      · rw [tI_off (fun q => by have := q.1; omega)]
        show (tI T a c0 p).1 a i = T.1 a i
        exact tI_off (fun q => by have := q.2; omega)
      · exact tJ_off (fun q => by have := q.2; omega)
    · obtain ⟨p1, p2, p3, p4, p5, p6⟩ := h2
      have ra : (tI (tJ (tI T a c0 p) e c0 B) 85 3 (nI (c0 + 1))).1 a c0 = p := by
        rw [tI_off (fun q => by have := q.1; omega)]
        exact tI_at
      have re : (tI (tJ (tI T a c0 p) e c0 B) 85 3 (nI (c0 + 1))).2.1 e c0 = B := tJ_at
      have gd : ∀ h, EX T0 E o pa pb f pb h → good T0 E o pa pb cB whB woB h (B.toInt - c.toInt) p B := fun h hh => ⟨rpP_cg hh.1 hr, b1, by rw [csP_cg hh.1, ← hc]; omega⟩
      refine ⟨fun i i0 i1 => ?_, fun h hh => ?_⟩
      · have : i = c0 := by omega
        subst this
        rw [ra, re]
        exact ⟨f, _, ⟨fun q _ _ => rfl, fun q q1 q2 => by omega⟩, gd f ⟨fun q _ _ => rfl, fun q q1 q2 => by omega⟩⟩
      · refine ⟨c0, B.toInt - c.toInt, Nat.le_refl _, by omega, ?_⟩
        rw [ra, re]
        exact gd h hh
theorem l_give (hsz : 161 ≤ sz) (hC : ICi T0) (hS : (T0.1 79 2).toInt = S) (hE : (T0.1 79 1).toInt = E) (S9 : S ≤ 9) (E5 : E ≤ 5) (hO : Ord T0 S o) (pbS : pb ≤ S) (hd : ∀ q, q < S → (dy T0 (o q) = d ↔ pa ≤ q ∧ q < pb)) (hdv : dv.toInt = d) (B1 : cB ≤ 120) (hb : ∀ j, j < cB → okp T0 E (whB j) ∧ -1000000000000000 ≤ (woB j).toInt ∧ (woB j).toInt ≤ 1000000000000000) : ∀ (r n k : Nat) (T : tT) (v p : Int32) (c : Int64) (f : Nat → Nat) (c0 : Nat), k + r = pb → r < n → pa ≤ k → v.toInt = k → HP T0 S E o a b e g cB whB woB T c0 → rpP T0 E o pa f k p → (∀ q, pa ≤ q → q < k → f (o q) < E) → c.toInt = csP T0 o pa f k → c0 + fa (nfn p E) ≤ 120 → GP T0 S E o pa pb a b e g cB whB woB T (Gc n T v dv p c) f k c0 (fa (nfn p E)) (EX T0 E o pa pb f k) ∧ okGc n sz T v dv p c := by
  intro r
  induction r with
  | zero =>
    intro n k T v p c f c0 hk hn ha hv hT hr hf hc hm
    obtain ⟨n, rfl⟩ : ∃ n', n = n' + 1 := ⟨n - 1, by omega⟩
    have kb : k = pb := by omega
    subst kb
    obtain ⟨u1, u2⟩ := g_leaf hsz hC hS hE S9 E5 hO pbS B1 hb hT hr hf hc (fa_pos _) hm
    obtain ⟨h1, h2, h3, h4, h5, h6, h7, h8⟩ := hT
    obtain ⟨w0, w1, w2, w3, w4, w5, w6, w7, w8⟩ := wP_fz h1 hC
    have eq1 : Gc (n + 1) T v dv p c = F_X7_addState T p c ∧ okGc (n + 1) sz T v dv p c := by
      show F_X7_giveDay (Gc n) T v dv p c = F_X7_addState T p c ∧ ok_X7_giveDay (Gc n) (okGc n) sz T v dv p c
      unfold F_X7_giveDay ok_X7_giveDay
      rw [w3, w6]
      by_cases c1 : T0.1 79 2 ≤ v
      · rw [if_pos c1]
        exact ⟨rfl, fun _ => ⟨u2, trivial⟩, fun w => absurd c1 w⟩
      · rw [if_neg c1]
        have kS : k < S := by rw [tle] at c1; omega
        have ok := hO.1 k kS
        rw [tnN hv, h7 k kS, tnN (nI_toInt (n := o k) (by omega))]
        have ne : ¬ T0.1 83 (o k) = dv := by
          intro q
          have := (hd k kS).mp (by rw [← hdv, ← q]; rfl)
          omega
        rw [if_neg ne]
        exact ⟨rfl, fun w => absurd w c1, fun _ => ⟨by rw [vp_in_iff]; omega, by rw [vp_in_iff, nI_toInt (by omega)]; omega, fun w => absurd w ne, fun _ => ⟨u2, trivial⟩⟩⟩
    rw [eq1.1]
    exact ⟨u1, eq1.2⟩
  | succ r ih =>
    intro n k T v p c f c0 hk hn ha hv hT hr hf hc hm
    obtain ⟨n, rfl⟩ : ∃ n', n = n' + 1 := ⟨n - 1, by omega⟩
    have kS : k < S := by omega
    have okS := hO.1 k kS
    have sto : (nI (o k)).toInt = o k := nI_toInt (by omega)
    have v9 : vp_in v 9 := by rw [vp_in_iff]; omega
    have o9 : vp_in (nI (o k)) 9 := by rw [vp_in_iff, sto]; omega
    have sv : (v + 1).toInt = (k + 1 : Nat) := by rw [tinc' (by omega)]; omega
    have nE := nfn_le p E
    -- the loop over the examiners
    have loop : ∀ (r' m x : Nat) (T1 : tT) (w : Int32) (c1 : Nat), x + r' = E → r' < m → w.toInt = x → HP T0 S E o a b e g cB whB woB T1 c1 → c0 ≤ c1 → c1 ≤ c0 + nfn p x * fa (nfn p E - 1) → (∀ i, i < c0 → T1.1 a i = T.1 a i ∧ T1.2.1 e i = T.2.1 e i) → (cB = 0 → c1 = c0) → (0 < cB → NW T0 E o pa pb a e cB whB woB (fun h => EX T0 E o pa pb f k h ∧ h (o k) < x) T1 c0 c1) → GP T0 S E o pa pb a b e g cB whB woB T (vl_X7_giveDay (Gc n) m T1 v dv p c (nI (o k)) w) f k c0 (fa (nfn p E)) (EX T0 E o pa pb f k) ∧ okl_X7_giveDay (Gc n) (okGc n) m sz T1 v dv p c (nI (o k)) w := by
      intro r'
      induction r' with
      | zero =>
        intro m x T1 w c1 hx hm' hw hT1 l0 l1 hkeep hz hN
        obtain ⟨m, rfl⟩ : ∃ m', m = m' + 1 := ⟨m - 1, by omega⟩
        have w2 := (wP_fz hT1.1 hC).2.2.1
        have cc : T1.1 79 1 ≤ w := by rw [w2, tle]; omega
        have xE : x = E := by omega
        subst xE
        rw [vl_X7_giveDay_s, if_pos cc]
        simp only [okl_X7_giveDay]
        refine ⟨⟨c1, l0, ?_, hT1, hkeep, hz, fun q => NW_cg (hN q) (fun h => ⟨fun hh => ⟨hh, (hh.2 k (Nat.le_refl _) (by omega)).1⟩, fun hh => hh.1⟩)⟩, fun _ => trivial, fun q => absurd cc q⟩
        by_cases z0 : nfn p x = 0
        · rw [z0, Nat.zero_mul] at l1
          omega
        · obtain ⟨y, hy⟩ : ∃ y, nfn p x = y + 1 := ⟨nfn p x - 1, by omega⟩
          rw [hy] at l1 ⊢
          exact l1
      | succ r' ih' =>
        intro m x T1 w c1 hx hm' hw hT1 l0 l1 hkeep hz hN
        obtain ⟨m, rfl⟩ : ∃ m', m = m' + 1 := ⟨m - 1, by omega⟩
        obtain ⟨h1, h2, h3, h4, h5, h6, h7, h8⟩ := hT1
        obtain ⟨w0, w1, w2, w3, w4, w5, w6, w7, w8⟩ := wP_fz h1 hC
        have hT1' : HP T0 S E o a b e g cB whB woB T1 c1 := ⟨h1, h2, h3, h4, h5, h6, h7, h8⟩
        have cc : ¬ T1.1 79 1 ≤ w := by rw [w2, tle]; omega
        have sw : (w + 1).toInt = (x + 1 : Nat) := by rw [tinc' (by omega)]; omega
        have ew : w = nI x := nI_self hw (by omega)
        have ep : v_X7_placeOf T1 p w = pof p x := by rw [ew]; rfl
        have ix := ix5 sto hw (by omega) (by omega)
        have i45 : vp_in (nI (o k) * 5 + w) 45 := by rw [vp_in_iff]; omega
        have mono : nfn p x * fa (nfn p E - 1) ≤ nfn p (x + 1) * fa (nfn p E - 1) := Nat.mul_le_mul_right _ (nfn_mono p (x + 1) (by omega))
        have skip : (∀ h, EX T0 E o pa pb f k h → h (o k) ≠ x) → GP T0 S E o pa pb a b e g cB whB woB T (vl_X7_giveDay (Gc n) m T1 v dv p c (nI (o k)) (w + 1)) f k c0 (fa (nfn p E)) (EX T0 E o pa pb f k) ∧ okl_X7_giveDay (Gc n) (okGc n) m sz T1 v dv p c (nI (o k)) (w + 1) := fun ne =>
          ih' m (x + 1) T1 (w + 1) c1 (by omega) (by omega) sw hT1' l0 (by omega) hkeep hz (fun q => NW_cg (hN q) (fun h => ⟨fun hh => ⟨hh.1, by have := ne h hh.1; have := hh.2; omega⟩, fun hh => ⟨hh.1, by have := hh.2; omega⟩⟩))
        rw [vl_X7_giveDay_s, if_neg cc]
        simp only [okl_X7_giveDay]
        rw [ep, tnN ix, w5, tnN sto]
        by_cases fx : pof p x = 0
        · rw [if_pos fx]
          have al := h8 (o k) x okS (by omega)
          unfold alw at al
          by_cases ax : T1.1 87 (5 * o k + x) = 0
          · rw [if_pos ax]
            obtain ⟨u1, u2⟩ := skip (fun h hh q => by
              have := (hh.2 k (Nat.le_refl _) (by omega)).2.1
              rw [q] at this
              exact this (al.mp ax))
            exact ⟨u1, fun q => absurd q cc, fun _ => ⟨fun q => absurd fx q, fun _ => ⟨i45, fun _ => u2, fun q => absurd ax q⟩⟩⟩
          · rw [if_neg ax]
            obtain ⟨pl1, pl2⟩ := pl_lt hC (o k)
            have ey : T0.1 82 (o k) + 1 = nI (pl T0 (o k) + 1) := by
              rw [teq, tinc' (by omega), nI_toInt (by omega), pl1]
              omega
            rw [ey]
            have free : ∀ q, pa ≤ q → q < k → f (o q) ≠ x := by
              rcases hr x (by omega) with ⟨q, _, _, _, q4⟩ | ⟨q1, _⟩
              · have := (pl_lt hC (o q)).2
                rw [fx, teq, nI_toInt (by omega), show (0 : Int32).toInt = 0 from rfl] at q4
                omega
              · exact q1
            have oi : ∀ q, q < k → o q ≠ o k := fun q hq w => by
              have := hO.2.2.1 q k (by omega) kS w
              omega
            obtain ⟨k1, k2, k3, k4⟩ := e_cost (sz := sz) w0 (x := x) (s := o k) (by omega) (by omega)
            rw [kst_T w4 w5 w7] at k1 k2 k3
            rw [← ew] at k1 k4
            have cr := csP_rg hC (pa := pa) S9 hO.1 (show k ≤ S by omega) (fun q q1 q2 => by have := hf q q1 q2; omega) (f := f)
            have cs : (c + v_X7_costOf T1 w (nI (o k))).toInt = csP T0 o pa f k + kst T0 x (o k) := by rw [tadd6 (by omega) (by omega), k1, hc]
            have pf : ∀ y, y < 5 → pof (p ||| nI (pl T0 (o k) + 1) <<< (((4 : Int32) * w) &&& 31)) y = if y = x then nI (pl T0 (o k) + 1) else pof p y := by
              intro y hy
              rw [ew, pof_or, pof_one pl2 (by omega) hy]
              by_cases q : y = x
              · rw [if_pos q, if_pos q, q, fx, Int32.zero_or]
              · rw [if_neg q, if_neg q, Int32.or_zero]
            have nz : nI (pl T0 (o k) + 1) ≠ 0 := fun q => by
              rw [teq, nI_toInt (by omega), show (0 : Int32).toInt = 0 from rfl] at q
              omega
            generalize hp' : p ||| nI (pl T0 (o k) + 1) <<< (((4 : Int32) * w) &&& 31) = p' at pf ⊢
            have nf' : nfn p E = nfn p' E + 1 := by
              have := nfn_put (p := p) (p' := p') (k := x) fx (by rw [pf x (by omega), if_pos rfl]; exact nz) E (fun y hy ne => by rw [pf y (by omega), if_neg ne])
              rw [if_pos (show x < E by omega)] at this
              exact this
            have nfx := nfn_free (p := p) (k := x) (E := E) (by omega) fx
            have hF : fa (nfn p E) = nfn p E * fa (nfn p E - 1) := by
              rw [nf', Nat.add_sub_cancel]
              rfl
            have m1 : (nfn p x + 1) * fa (nfn p E - 1) ≤ nfn p E * fa (nfn p E - 1) := Nat.mul_le_mul_right _ nfx
            rw [Nat.succ_mul] at m1
            have e1 : nfn p' E = nfn p E - 1 := by omega
            have r' : rpP T0 E o pa (uf f (o k) x) (k + 1) p' := by
              intro y hy
              by_cases q : y = x
              · refine Or.inl ⟨k, ha, Nat.lt_succ_self k, ?_, ?_⟩
                · rw [uf_at, q]
                · rw [pf y (by omega), if_pos q]
              · rcases hr y hy with ⟨q', z1, z2, z3, z4⟩ | ⟨z1, z2⟩
                · refine Or.inl ⟨q', z1, by omega, ?_, ?_⟩
                  · rw [uf_ne (oi q' z2)]
                    exact z3
                  · rw [pf y (by omega), if_neg q]
                    exact z4
                · refine Or.inr ⟨fun q' y1 y2 => ?_, ?_⟩
                  · by_cases c3 : q' = k
                    · rw [c3, uf_at]
                      exact fun w => q w.symm
                    · rw [uf_ne (oi q' (by omega))]
                      exact z1 q' y1 (by omega)
                  · rw [pf y (by omega), if_neg q]
                    exact z2
            have cs' : csP T0 o pa (uf f (o k) x) (k + 1) = csP T0 o pa f k + kst T0 x (o k) := by
              rw [csP_s ha, csP_cg (f := f) (fun q _ q2 => uf_ne (oi q q2)), uf_at]
            obtain ⟨⟨c2, g1, g2, g3, g4, g5, g6⟩, g7⟩ := ih n (k + 1) T1 (v + 1) p' (c + v_X7_costOf T1 w (nI (o k))) (uf f (o k) x) c1 (by omega) (by omega) (by omega) sv hT1' r' (fun q q1 q2 => by
              by_cases c3 : q = k
              · rw [c3, uf_at]
                omega
              · rw [uf_ne (oi q (by omega))]
                exact hf q q1 (by omega)) (by rw [cs, cs']) (by rw [e1]; omega)
            have exi : ∀ h, EX T0 E o pa pb (uf f (o k) x) (k + 1) h ↔ EX T0 E o pa pb f k h ∧ h (o k) = x := by
              intro h
              constructor
              · rintro ⟨x1, x2⟩
                have hk' : h (o k) = x := by
                  have := x1 k ha (Nat.lt_succ_self k)
                  rw [uf_at] at this
                  exact this
                have hq' : ∀ q, pa ≤ q → q < k → h (o q) = f (o q) := fun q q1 q2 => by
                  have := x1 q q1 (by omega)
                  rw [uf_ne (oi q q2)] at this
                  exact this
                refine ⟨⟨hq', fun q q1 q2 => ?_⟩, hk'⟩
                by_cases c3 : q = k
                · subst c3
                  rw [hk']
                  exact ⟨by omega, fun w => ax (al.mpr w), fun q' y1 y2 => by rw [hq' q' y1 y2]; exact free q' y1 y2⟩
                · exact x2 q (by omega) q2
              · rintro ⟨⟨x1, x2⟩, x3⟩
                refine ⟨fun q q1 q2 => ?_, fun q q1 q2 => x2 q (by omega) q2⟩
                by_cases c3 : q = k
                · rw [c3, uf_at]
                  exact x3
                · rw [uf_ne (oi q (by omega))]
                  exact x1 q q1 (by omega)
            obtain ⟨u1, u2⟩ := ih' m (x + 1) (Gc n T1 (v + 1) dv p' (c + v_X7_costOf T1 w (nI (o k)))) (w + 1) c2 (by omega) (by omega) sw g3 (by omega) (by
              rw [nfn_s, if_pos fx, Nat.succ_mul]
              rw [e1] at g2
              omega) (fun i hi => by
              have := hkeep i hi
              have := g4 i (by omega)
              grind) (fun q => by
              have := hz q
              have := g5 q
              omega) (fun q => NW_join (hN q) (g6 q) l0 g1 g4 (fun h => by
              rw [exi h]
              constructor
              · rintro ⟨y1, y2⟩
                by_cases c3 : h (o k) = x
                · exact Or.inr ⟨y1, c3⟩
                · exact Or.inl ⟨y1, by omega⟩
              · rintro (⟨y1, y2⟩ | ⟨y1, y2⟩)
                · exact ⟨y1, by omega⟩
                · exact ⟨y1, by omega⟩))
            exact ⟨u1, fun q => absurd q cc, fun _ => ⟨fun q => absurd fx q, fun _ => ⟨i45, fun q => absurd q ax, fun _ => ⟨o9, k4, g7, u2⟩⟩⟩⟩
        · rw [if_neg fx]
          obtain ⟨u1, u2⟩ := skip (fun h hh q => by
            rcases hr x (by omega) with ⟨q', z1, z2, z3, _⟩ | ⟨_, z2⟩
            · have := (hh.2 k (Nat.le_refl _) (by omega)).2.2 q' z1 z2
              rw [hh.1 q' z1 z2, z3] at this
              exact this q.symm
            · exact fx z2)
          exact ⟨u1, fun q => absurd q cc, fun _ => ⟨fun _ => u2, fun q => absurd q fx⟩⟩
    have hT' := hT
    obtain ⟨h1, h2, h3, h4, h5, h6, h7, h8⟩ := hT
    obtain ⟨w0, w1, w2, w3, w4, w5, w6, w7, w8⟩ := wP_fz h1 hC
    obtain ⟨u1, u2⟩ := loop E fu 0 T 0 c0 (by omega) (by rw [fu_eq]; omega) rfl hT' (Nat.le_refl _) (by omega) (fun i _ => ⟨rfl, rfl⟩) (fun _ => rfl) (fun _ => ⟨fun i i0 i1 => by omega, fun h hh => absurd hh.2 (Nat.not_lt_zero _)⟩)
    have cS : ¬ T0.1 79 2 ≤ v := by rw [tle]; omega
    have de : T0.1 83 (o k) = dv := by
      rw [teq, hdv]
      exact (hd k kS).mpr ⟨ha, by omega⟩
    have eq1 : Gc (n + 1) T v dv p c = vl_X7_giveDay (Gc n) fu T v dv p c (nI (o k)) 0 ∧ okGc (n + 1) sz T v dv p c := by
      show F_X7_giveDay (Gc n) T v dv p c = vl_X7_giveDay (Gc n) fu T v dv p c (nI (o k)) 0 ∧ ok_X7_giveDay (Gc n) (okGc n) sz T v dv p c
      unfold F_X7_giveDay ok_X7_giveDay
      rw [w3, w6, if_neg cS, tnN hv, h7 k kS, tnN sto, if_pos de]
      exact ⟨rfl, fun w => absurd w cS, fun _ => ⟨v9, o9, fun _ => ⟨v9, u2⟩, fun w => absurd de w⟩⟩
    rw [eq1.1]
    exact ⟨u1, eq1.2⟩
end
