/-! the class's planner: the days one after another -/
section
variable {sz : Nat} {T0 : tT} {S E : Nat} {o : Nat → Nat}
/-- between two days -/
def PS9 (T0 : tT) (S E : Nat) (o : Nat → Nat) (k : Nat) (T : tT) : Prop := fr wP T0 T ∧ (∀ q, q < S → T.1 88 q = nI (o q)) ∧ (∀ s x, s < S → x < E → alw T0 T s x) ∧ ∃ a b e g c0, PL T a b e g ∧ (T.1 85 3).toInt = ((c0 : Nat) : Int) ∧ c0 ≤ 120 ∧ (imp (k = 0) (INVw T0 S E 0 (T.2.1 e) c0)) ∧ (imp (0 < k) (INV T0 S E (dy T0 (o (k - 1)) + 1) (T.1 a) (T.2.1 e) c0))
theorem p_day (hsz : 161 ≤ sz) (hC : ICi T0) (hS : (T0.1 79 2).toInt = S) (hE : (T0.1 79 1).toInt = E) (S9 : S ≤ 9) (E5 : E ≤ 5) (hO : Ord T0 S o) {k : Nat} (hk : k < S) (hb : ∀ q, q < k → dy T0 (o q) ≠ dy T0 (o k)) {T : tT} {v : Int32} (hv : v.toInt = k) {a b e g cB : Nat} (fT : fr wP T0 T) (h88 : ∀ q, q < S → T.1 88 q = nI (o q)) (hal : ∀ s x, s < S → x < E → alw T0 T s x) (hP : PL T a b e g) (h3 : T.1 85 3 = 0) (h4 : (T.1 85 4).toInt = cB) (c4 : cB ≤ 120) (hI : INV T0 S E (dy T0 (o k)) (T.1 b) (T.2.1 g) cB) : PS9 T0 S E o (k + 1) (Fc_giveDay T v (T0.1 83 (o k)) 0 0) ∧ okc_giveDay sz T v (T0.1 83 (o k)) 0 0 := by
  obtain ⟨pb, b1, b2, b3⟩ := grp hO hk hb
  have fa5 : fa (nfn 0 E) ≤ 120 := fa_mono (n := 5) (Nat.le_trans (nfn_le 0 E) E5)
  have cs0 : (0 : Int) = csP T0 o k (fun _ => 0) k := by
    unfold csP
    rw [sg_z]
    intro t ht
    exact if_neg (by omega)
  obtain ⟨⟨c1, g1, g2, g3, g4, g5, g6⟩, g7⟩ := l_give (sz := sz) (a := a) (b := b) (e := e) (g := g) (cB := cB) (whB := T.1 b) (woB := T.2.1 g) hsz hC hS hE S9 E5 hO b2 b3 (dv := T0.1 83 (o k)) rfl c4 (fun j hj => by
    obtain ⟨f, f1, f2, f3⟩ := hI.1 j hj
    have := wth_rg hC S9 E5 f1
    exact ⟨rep_okp hC hS S9 f2, by omega, by omega⟩) (pb - k) 10 k T v 0 0 (fun _ => 0) 0 (by omega) (by omega) (Nat.le_refl _) hv ⟨fT, hP, h4, by rw [h3]; rfl, rfl, rfl, h88, hal⟩ (fun x hx => Or.inr ⟨fun q q1 q2 => by omega, pof_0 (by omega)⟩) (fun q q1 q2 => by omega) cs0 (by omega)
  refine ⟨?_, g7⟩
  show PS9 T0 S E o (k + 1) (Gc 10 T v (T0.1 83 (o k)) 0 0)
  generalize Gc 10 T v (T0.1 83 (o k)) 0 0 = T2 at *
  obtain ⟨y1, y2, y3, y4, y5, y6, y7, y8⟩ := g3
  refine ⟨y1, y7, y8, a, b, e, g, c1, y2, y4, by omega, fun q => absurd q (Nat.succ_ne_zero k), fun _ => ?_⟩
  rw [Nat.add_sub_cancel]
  have ex := EX_Vg (E := E) hO b2 b3 (fun _ => 0)
  have rp : ∀ {h : Nat → Nat} {p : Int32}, rpP T0 E o k h pb p ↔ rep T0 S E p h (dy T0 (o k)) := fun {h p} => rpP_rep hO b2 b3
  have cs : ∀ h, csP T0 o k h pb = gcs T0 S (dy T0 (o k)) h := fun h => csP_gcs hO b2 b3
  refine INV_step hC hI ?_ ?_
  · intro i hi
    have cp : 0 < cB := by
      rcases Nat.eq_zero_or_pos cB with q | q
      · have := g5 q
        omega
      · exact q
    obtain ⟨h, v', x1, x2, x3, x4⟩ := (g6 cp).1 i (by omega) hi
    rw [cs] at x4
    exact ⟨h, v', (ex h).mp x1, rp.mp x2, x3, x4⟩
  · intro cp h hh
    obtain ⟨i, v', i1, i2, x2, x3, x4⟩ := (g6 cp).2 h ((ex h).mpr hh)
    rw [cs] at x4
    exact ⟨i, v', i2, rp.mp x2, x3, x4⟩
theorem l_plan (hsz : 161 ≤ sz) (hC : ICi T0) (hS : (T0.1 79 2).toInt = S) (hE : (T0.1 79 1).toInt = E) (S9 : S ≤ 9) (E5 : E ≤ 5) (hO : Ord T0 S o) : ∀ (r n k : Nat) (T : tT) (v : Int32), v.toInt = k → k + r = S → r < n → PS9 T0 S E o k T → PQ T0 S E (vl_X7_plan n T v) ∧ okl_X7_plan n sz T v := by
  intro r
  induction r with
  | zero =>
    intro n k T v hv hk hn hT
    obtain ⟨n, rfl⟩ : ∃ n', n = n' + 1 := ⟨n - 1, by omega⟩
    obtain ⟨t1, t2, t3, a, b, e, g, c0, t4, t5, t6, t7, t8⟩ := hT
    have cc : T0.1 79 2 ≤ v := by rw [tle]; omega
    by_cases z : k = 0
    · exact p_end hsz hC hS S9 E5 t1 t4 t5 t6 (t7 z) (fun s hs => by omega) n cc
    · exact p_end hsz hC hS S9 E5 t1 t4 t5 t6 (INV_w (t8 (Nat.pos_of_ne_zero z))) (fun s hs => by
        obtain ⟨q, q1, q2⟩ := hO.2.1 s hs
        have := hO.2.2.2 q (k - 1) (by omega) (by omega)
        rw [q2] at this
        omega) n cc
  | succ r ih =>
    intro n k T v hv hk hn hT
    obtain ⟨n, rfl⟩ : ∃ n', n = n' + 1 := ⟨n - 1, by omega⟩
    obtain ⟨t1, t2, t3, a, b, e, g, c0, t4, t5, t6, t7, t8⟩ := hT
    have hT : PS9 T0 S E o k T := ⟨t1, t2, t3, a, b, e, g, c0, t4, t5, t6, t7, t8⟩
    obtain ⟨w0, w1, w2, w3, w4, w5, w6, w7, w8⟩ := wP_fz t1 hC
    have kS : k < S := by omega
    have cc : ¬ T.1 79 2 ≤ v := by rw [w3, tle]; omega
    have st : (v + 1).toInt = (k + 1 : Nat) := by rw [tinc' (by omega)]; omega
    have v9 : vp_in v 9 := by rw [vp_in_iff]; omega
    have okS := hO.1 k kS
    have sto : (nI (o k)).toInt = o k := nI_toInt (by omega)
    have o9 : vp_in (nI (o k)) 9 := by rw [vp_in_iff, sto]; omega
    have z0 : (0 : Int32).toInt = 0 := rfl
    have D : ∀ q, (T0.1 83 (o q)).toInt = dy T0 (o q) := fun _ => rfl
    -- a day that begins with all at home
    have day0 : ∀ d0 : Int, INVw T0 S E d0 (T.2.1 e) c0 → (∀ s, s < S → (dy T0 s < d0 ↔ dy T0 s < dy T0 (o k))) → (∀ s, s < S → dy T0 s ≠ dy T0 (o k) - 1) → (∀ q, q < k → dy T0 (o q) ≠ dy T0 (o k)) → (PQ T0 S E (vl_X7_plan n (Fc_giveDay (F_X7_startDay T 0) v (T0.1 83 (o k)) 0 0) (v + 1)) ∧ okl_X7_plan n sz (Fc_giveDay (F_X7_startDay T 0) v (T0.1 83 (o k)) 0 0) (v + 1)) ∧ ok_X7_startDay sz T 0 ∧ okc_giveDay sz (F_X7_startDay T 0) v (T0.1 83 (o k)) 0 0 := by
      intro d0 hi hd hn' hb
      obtain ⟨s1, s2⟩ := e_start0 hsz t4 t5 t6
      obtain ⟨⟨k1, k2, k3, k4, k5, k6⟩, k7⟩ := e_home hsz t4 t5 t6
      obtain ⟨⟨m1, m2, m3, m4⟩, m5⟩ := e_swap hsz k1
      rw [s1]
      have fH : fr wP T0 (F_X7_startDay (F_X7_sendAllHome T) 1) := fr_trans t1 (fr_trans (fr_mono (A := [89, 90, 91, 92]) (B := [(85, 3)]) (A' := [87, 88, 89, 90, 91, 92]) (B' := [(85, 3), (85, 4), (85, 5), (85, 6), (85, 7), (85, 8)]) rfl k2) (fr_mono (A := []) (B := [(85, 3), (85, 4), (85, 5), (85, 6), (85, 7), (85, 8)]) (A' := [87, 88, 89, 90, 91, 92]) (B' := [(85, 3), (85, 4), (85, 5), (85, 6), (85, 7), (85, 8)]) rfl m2))
      have e88 : (F_X7_startDay (F_X7_sendAllHome T) 1).1 88 = T.1 88 := (fr_ri m2 (k := 88) (fun _ => rfl)).trans (fr_ri k2 (k := 88) (fun _ => rfl))
      have e87 : (F_X7_startDay (F_X7_sendAllHome T) 1).1 87 = T.1 87 := (fr_ri m2 (k := 87) (fun _ => rfl)).trans (fr_ri k2 (k := 87) (fun _ => rfl))
      have ea : (F_X7_startDay (F_X7_sendAllHome T) 1).1 a = (F_X7_sendAllHome T).1 a := fr_ri m2 (k := a) (fun i => by rcases t4.2.2.2.2.1 with ⟨q, _⟩ | ⟨q, _⟩ <;> subst q <;> rfl)
      have ee : (F_X7_startDay (F_X7_sendAllHome T) 1).2.1 e = (F_X7_sendAllHome T).2.1 e := fr_rj m2 (k := e) (fun i => by rcases t4.2.2.2.2.2 with ⟨q, _⟩ | ⟨q, _⟩ <;> subst q <;> rfl)
      have iv : INV T0 S E (dy T0 (o k)) ((F_X7_sendAllHome T).1 a) ((F_X7_sendAllHome T).2.1 e) (if c0 = 0 then 0 else 1) := INV_home E5 hi hd hn' (fun q => if_pos q) (fun q => ⟨if_neg (by omega), k4, k5 q, k6⟩)
      obtain ⟨u1, u2⟩ := p_day hsz hC hS hE S9 E5 hO kS hb hv (cB := if c0 = 0 then 0 else 1) fH (fun q hq => by rw [e88]; exact t2 q hq) (fun s x hs hx => by
        unfold alw
        rw [e87]
        exact t3 s x hs hx) m1 m3 (by rw [m4]; exact k3) (by split <;> omega) (by rw [ea, ee]; exact iv)
      exact ⟨ih n (k + 1) _ (v + 1) st (by omega) (by omega) u1, s2, u2⟩
    rw [vl_X7_plan_s, if_neg cc]
    simp only [okl_X7_plan]
    rw [tnN hv, t2 k kS, tnN sto, w6]
    by_cases z : k = 0
    · have vz : v = 0 := by rw [teq, hv, z]; rfl
      have vl : v ≤ 0 := by rw [tle]; omega
      have all : ∀ s, s < S → dy T0 (o k) ≤ dy T0 s := fun s hs => by
        obtain ⟨q, q1, q2⟩ := hO.2.1 s hs
        have := hO.2.2.2 k q (by omega) q1
        rw [q2] at this
        exact this
      obtain ⟨⟨u1, u2⟩, u3, u4⟩ := day0 0 (t7 z) (fun s hs => by
        have := all s hs
        have := (dy_rg hC s).1
        omega) (fun s hs => by
        have := all s hs
        omega) (fun q hq => by omega)
      rw [if_pos vz, if_pos vl]
      exact ⟨u1, fun q => absurd q cc, fun _ => ⟨v9, o9, fun _ => ⟨fun _ => ⟨u3, u4, u2⟩, fun q => absurd vl q⟩, fun q => absurd vz q⟩⟩
    · have vz : ¬ v = 0 := by rw [teq, hv, z0]; omega
      have vl : ¬ v ≤ 0 := by rw [tle]; omega
      have v1 : (v - 1).toInt = (k - 1 : Nat) := by
        have : (1 : Int32).toInt = 1 := rfl
        rw [tsub (by omega) (by omega)]
        omega
      have v19 : vp_in (v - 1) 9 := by rw [vp_in_iff]; omega
      have ok1 := hO.1 (k - 1) (by omega)
      have sto1 : (nI (o (k - 1))).toInt = o (k - 1) := nI_toInt (by omega)
      have o19 : vp_in (nI (o (k - 1))) 9 := by rw [vp_in_iff, sto1]; omega
      have srt := hO.2.2.2 (k - 1) k (by omega) kS
      have hi := t8 (Nat.pos_of_ne_zero z)
      rw [if_neg vz, tnN v1, t2 (k - 1) (by omega), tnN sto1]
      by_cases sd : T0.1 83 (o (k - 1)) = T0.1 83 (o k)
      · rw [if_pos sd]
        have de : dy T0 (o (k - 1)) = dy T0 (o k) := by unfold dy; rw [sd]
        obtain ⟨u1, u2⟩ := ih n (k + 1) T (v + 1) st (by omega) (by omega) ⟨t1, t2, t3, a, b, e, g, c0, t4, t5, t6, fun q => absurd q (Nat.succ_ne_zero k), fun _ => by rw [Nat.add_sub_cancel, ← de]; exact hi⟩
        exact ⟨u1, fun q => absurd q cc, fun _ => ⟨v9, o9, fun q => absurd q vz, fun _ => ⟨v19, o19, fun _ => u2, fun q => absurd sd q⟩⟩⟩
      · rw [if_neg sd, if_neg vl]
        have dn : dy T0 (o (k - 1)) ≠ dy T0 (o k) := fun q => sd (by rw [teq]; exact q)
        have hb : ∀ q, q < k → dy T0 (o q) ≠ dy T0 (o k) := fun q hq => by
          have := hO.2.2.2 q (k - 1) (by omega) (by omega)
          omega
        have dr := dy_rg hC (o k)
        have s1 : (T0.1 83 (o k) - 1).toInt = dy T0 (o k) - 1 := by
          have : (1 : Int32).toInt = 1 := rfl
          have := D k
          rw [tsub (by omega) (by omega)]
          omega
        by_cases rb : T0.1 83 (o (k - 1)) = T0.1 83 (o k) - 1
        · rw [if_pos rb]
          have de : dy T0 (o (k - 1)) + 1 = dy T0 (o k) := by
            rw [teq, s1, D] at rb
            omega
          rw [de] at hi
          obtain ⟨⟨m1, m2, m3, m4⟩, m5⟩ := e_swap hsz t4
          have e88 : (F_X7_startDay T 1).1 88 = T.1 88 := fr_ri m2 (k := 88) (fun _ => rfl)
          have e87 : (F_X7_startDay T 1).1 87 = T.1 87 := fr_ri m2 (k := 87) (fun _ => rfl)
          have ea : (F_X7_startDay T 1).1 a = T.1 a := fr_ri m2 (k := a) (fun i => by rcases t4.2.2.2.2.1 with ⟨q, _⟩ | ⟨q, _⟩ <;> subst q <;> rfl)
          have ee : (F_X7_startDay T 1).2.1 e = T.2.1 e := fr_rj m2 (k := e) (fun i => by rcases t4.2.2.2.2.2 with ⟨q, _⟩ | ⟨q, _⟩ <;> subst q <;> rfl)
          obtain ⟨u1, u2⟩ := p_day hsz hC hS hE S9 E5 hO kS hb hv (cB := c0) (fr_trans t1 (fr_mono (A := []) (B := [(85, 3), (85, 4), (85, 5), (85, 6), (85, 7), (85, 8)]) (A' := [87, 88, 89, 90, 91, 92]) (B' := [(85, 3), (85, 4), (85, 5), (85, 6), (85, 7), (85, 8)]) rfl m2)) (fun q hq => by rw [e88]; exact t2 q hq) (fun s x hs hx => by
            unfold alw
            rw [e87]
            exact t3 s x hs hx) m1 m3 (by rw [m4]; exact t5) t6 (by rw [ea, ee]; exact hi)
          obtain ⟨u3, u4⟩ := ih n (k + 1) _ (v + 1) st (by omega) (by omega) u1
          exact ⟨u3, fun q => absurd q cc, fun _ => ⟨v9, o9, fun q => absurd q vz, fun _ => ⟨v19, o19, fun q => absurd q sd, fun _ => ⟨fun q => absurd q vl, fun _ => ⟨v19, o19, fun q => absurd rb q, fun _ => ⟨m5, u2, u4⟩⟩⟩⟩⟩⟩
        · rw [if_neg rb]
          have dl : dy T0 (o (k - 1)) + 1 < dy T0 (o k) := by
            have : dy T0 (o (k - 1)) ≠ dy T0 (o k) - 1 := fun q => rb (by rw [teq, s1]; exact q)
            omega
          have cas : ∀ s, s < S → dy T0 s ≤ dy T0 (o (k - 1)) ∨ dy T0 (o k) ≤ dy T0 s := fun s hs => by
            obtain ⟨q, q1, q2⟩ := hO.2.1 s hs
            rw [← q2]
            rcases Nat.lt_or_ge q k with y | y
            · exact Or.inl (hO.2.2.2 q (k - 1) (by omega) (by omega))
            · exact Or.inr (hO.2.2.2 k q y q1)
          obtain ⟨⟨u1, u2⟩, u3, u4⟩ := day0 _ (INV_w hi) (fun s hs => by
            have := cas s hs
            omega) (fun s hs => by
            have := cas s hs
            omega) hb
          exact ⟨u1, fun q => absurd q cc, fun _ => ⟨v9, o9, fun q => absurd q vz, fun _ => ⟨v19, o19, fun q => absurd q sd, fun _ => ⟨fun q => absurd q vl, fun _ => ⟨v19, o19, fun _ => ⟨u3, u4, u2⟩, fun q => absurd q rb⟩⟩⟩⟩⟩
end
