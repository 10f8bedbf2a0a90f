/-! the reference's travel: whole -/
theorem nI_self {x : Int32} {k : Nat} (h : x.toInt = k) (hk : k < 1000) : x = nI k := by rw [teq, h, nI_toInt (by omega)]
theorem trav_chk {sz : Nat} {T : tT} (hC : ICi T) (hL : ILe T) (hE : IEn T) {S m x : Nat} (hS : (T.1 79 2).toInt = S) (S9 : S ≤ 9) {mv xv : Int32} (hm' : mv.toInt = m) (m5 : m < 512) (hx : xv.toInt = x) (x5 : x < 5) : ∀ (n : Nat), (∀ (r k : Nat) (v : Int32), v.toInt = k → k + r = S → r * 12 + 110 < n → vst T k x m → (vst T S x m → ((vl_X11_travel n).1 T xv mv v).toInt = trv T S x (bts m) ∧ 0 ≤ trv T S x (bts m) ∧ trv T S x (bts m) ≤ 130000) ∧ (¬ vst T S x m → (vl_X11_travel n).1 T xv mv v = 1000000) ∧ (okl_X11_travel n).1 sz T xv mv v) ∧ (∀ (r k t : Nat) (v w : Int32), v.toInt = k → k + r + 1 = S → w.toInt = t → t ≤ k → r * 12 + (k - t) + 111 < n → vst T k x m → bts m k = true → v_X11_mayTake T (nI x) (nI k) ≠ 0 → (∀ u, u < t → bts m u = true → dy T u ≠ dy T k) → (vst T S x m → ((vl_X11_travel n).2.2 T xv mv v w).toInt = trv T S x (bts m) ∧ 0 ≤ trv T S x (bts m) ∧ trv T S x (bts m) ≤ 130000) ∧ (¬ vst T S x m → (vl_X11_travel n).2.2 T xv mv v w = 1000000) ∧ (okl_X11_travel n).2.2 sz T xv mv v w) := by
  have q0 : T.1 105 58 = T.1 79 2 := hC.1.2.2
  have q1 : T.1 143 = T.1 80 := hC.2.2.1.1
  have q2 : T.1 146 = T.1 83 := hC.2.2.1.2.2.2.1
  have vx : vp_in xv 5 := by rw [vp_in_iff]; omega
  have ex : xv = nI x := nI_self hx (by omega)
  obtain ⟨hh, hh8⟩ := hm_lt hC x
  intro n
  induction n with
  | zero => exact ⟨fun r k v h1 h2 h3 => by omega, fun r k t v w h1 h2 h3 h4 h5 => by omega⟩
  | succ n ih =>
    refine ⟨fun r k v hv hk hn hp => ?_, fun r k t v w hv hk hw ht hn hp bk mk nd => ?_⟩
    · rw [vl_X11_travel_s0, okl_X11_travel_s0, q0]
      cases r with
      | zero =>
        have c : T.1 79 2 ≤ v := by rw [tle]; omega
        have kS : k = S := by omega
        rw [kS] at hp
        obtain ⟨nA, nO⟩ := e_next (sz := sz) hC hS S9 0 hm' m5
        rw [if_pos c, q1, tnN hx]
        obtain ⟨u1, u2⟩ := route (sz := sz) hC hS S9 hm' m5 hx x5 hp 101 n (T.1 80 x) 0 (-1) (v_X11_nextOf T mv 0) (hm T x) 0 hh hh8 rfl (by decide) (by decide) (by omega) (by decide) (by decide) (by
          rw [wy_dg hC hh8, trv_cg (Q := fun _ => false), trv_0]
          · rfl
          · intro t _
            have := dy_rg hC t
            rw [decide_eq_false (by rw [show (-1 : Int32).toInt = -1 from rfl]; omega), Bool.and_false]) (Or.inl ⟨rfl, rfl⟩) nA
        exact ⟨fun _ => u1, fun w => absurd hp w, fun _ => ⟨vx, nO, u2⟩, fun w => absurd c w⟩
      | succ r =>
        have c : ¬ T.1 79 2 ≤ v := by rw [tle]; omega
        have bt := i32_bit hm' hv (by omega) (by omega)
        have ev : v = nI k := nI_self hv (by omega)
        have st : (v + 1).toInt = (k + 1 : Nat) := by rw [tinc' (by omega)]; omega
        rw [if_neg c, bt]
        by_cases b : m.testBit k = true
        · rw [if_pos b, if_neg (by decide)]
          have ok := k_mayTake11 (sz := sz) hL hE xv v vx
          by_cases my : v_X11_mayTake T xv v = 0
          · rw [if_pos my]
            have nv : ¬ vst T S x m := fun w => (w k (by omega) b).1 (by rw [← ex, ← ev]; exact my)
            exact ⟨fun w => absurd w nv, fun _ => rfl, fun w => absurd w c, fun _ => ⟨fun _ => ⟨ok, fun w => absurd my w, fun _ => trivial⟩, fun w => absurd w (by decide)⟩⟩
          · rw [if_neg my]
            obtain ⟨u1, u2, u3⟩ := ih.2 r k 0 v 0 hv (by omega) rfl (by omega) (by omega) hp b (by rw [← ex, ← ev]; exact my) (fun u hu => absurd hu (Nat.not_lt_zero _))
            exact ⟨u1, u2, fun w => absurd w c, fun _ => ⟨fun _ => ⟨ok, fun _ => u3, fun w => absurd w my⟩, fun w => absurd w (by decide)⟩⟩
        · rw [if_neg b, if_pos rfl]
          obtain ⟨u1, u2, u3⟩ := ih.1 r (k + 1) (v + 1) st (by omega) (by omega) (fun s hs bs => by
            by_cases e : s = k
            · subst e; exact absurd bs b
            · exact hp s (by omega) bs)
          exact ⟨u1, u2, fun w => absurd w c, fun _ => ⟨fun w => absurd rfl w, fun _ => u3⟩⟩
    · rw [vl_X11_travel_s2, okl_X11_travel_s2, q2]
      have v9 : vp_in v 9 := by rw [vp_in_iff]; omega
      by_cases e : t = k
      · have c : v ≤ w := by rw [tle]; omega
        rw [if_pos c]
        have st : (v + 1).toInt = (k + 1 : Nat) := by rw [tinc' (by omega)]; omega
        obtain ⟨u1, u2, u3⟩ := ih.1 r (k + 1) (v + 1) st (by omega) (by omega) (fun s hs bs => by
          by_cases e' : s = k
          · subst e'; exact ⟨mk, fun u hu bu => nd u (by omega) bu⟩
          · exact hp s (by omega) bs)
        exact ⟨u1, u2, fun _ => u3, fun z => absurd c z⟩
      · have c : ¬ v ≤ w := by rw [tle]; omega
        have bt := i32_bit hm' hw (by omega) (by omega)
        have w9 : vp_in w 9 := by rw [vp_in_iff]; omega
        have st : (w + 1).toInt = (t + 1 : Nat) := by rw [tinc' (by omega)]; omega
        rw [if_neg c, bt, tnN hv, tnN hw]
        by_cases b : m.testBit t = true
        · rw [if_pos b, if_pos rfl]
          by_cases d : T.1 83 t = T.1 83 k
          · rw [if_pos d]
            have nv : ¬ vst T S x m := fun z => (z k (by omega) bk).2 t (by omega) b (by unfold dy; rw [d])
            exact ⟨fun z => absurd z nv, fun _ => rfl, fun z => absurd z c, fun _ => ⟨fun z => absurd rfl z, fun _ => ⟨w9, v9, fun z => absurd d z, fun _ => trivial⟩⟩⟩
          · rw [if_neg d]
            obtain ⟨u1, u2, u3⟩ := ih.2 r k (t + 1) v (w + 1) hv hk st (by omega) (by omega) hp bk mk (fun u hu bu => by
              by_cases e' : u = t
              · subst e'; intro q; exact d (by rw [teq]; exact q)
              · exact nd u (by omega) bu)
            exact ⟨u1, u2, fun z => absurd z c, fun _ => ⟨fun z => absurd rfl z, fun _ => ⟨w9, v9, fun _ => u3, fun z => absurd z d⟩⟩⟩
        · rw [if_neg b, if_neg (by decide)]
          obtain ⟨u1, u2, u3⟩ := ih.2 r k (t + 1) v (w + 1) hv hk st (by omega) (by omega) hp bk mk (fun u hu bu => by
            by_cases e' : u = t
            · subst e'; exact absurd bu b
            · exact nd u (by omega) bu)
          exact ⟨u1, u2, fun z => absurd z c, fun _ => ⟨fun _ => u3, fun z => absurd z (by decide)⟩⟩
theorem e_travel {sz : Nat} {T : tT} (hC : ICi T) (hL : ILe T) (hE : IEn T) {S m x : Nat} (hS : (T.1 79 2).toInt = S) (S9 : S ≤ 9) {mv xv : Int32} (hm' : mv.toInt = m) (m5 : m < 512) (hx : xv.toInt = x) (x5 : x < 5) : (vst T S x m → (v_X11_travel T xv mv).toInt = trv T S x (bts m) ∧ 0 ≤ trv T S x (bts m) ∧ trv T S x (bts m) ≤ 130000) ∧ (¬ vst T S x m → v_X11_travel T xv mv = 1000000) ∧ ok_X11_travel sz T xv mv := (trav_chk hC hL hE hS S9 hm' m5 hx x5 fu).1 S 0 0 rfl (by omega) (by rw [fu_eq]; omega) (fun s hs => absurd hs (Nat.not_lt_zero _))
