/-! hardness, the reference's side -/
theorem lastOf11_cg {T T' : tT} (h : T'.1 105 70 = T.1 105 70 ∧ T'.1 151 = T.1 151 ∧ T'.1 152 = T.1 152 ∧ T'.1 153 = T.1 153 ∧ T'.1 154 = T.1 154 ∧ T'.1 155 = T.1 155 ∧ T'.1 156 = T.1 156) (e p t d : Int32) : v_X11_lastOf T' e p t d = v_X11_lastOf T e p t d := by
  obtain ⟨h1, h2, h3, h4, h5, h6, h7⟩ := h
  have l : ∀ n a v, vl_X11_lastOf n T' e p t d a v = vl_X11_lastOf n T e p t d a v := by
    intro n
    induction n with
    | zero => intro a v; rfl
    | succ n ih =>
      intro a v
      rw [vl_X11_lastOf_s, vl_X11_lastOf_s]
      unfold v_X11_isKnown
      rw [h1, h2, h3, h4, h5, h6, h7, ih, ih]
  unfold v_X11_lastOf
  rw [l]
theorem fr_rEq {A : List Nat} {T T' : tT} (f : fr (wl A []) T T') (h : djb [105, 151, 152, 153, 154, 155, 156] [] A [] = true) : T'.1 105 = T.1 105 ∧ (T'.1 105 70 = T.1 105 70 ∧ T'.1 151 = T.1 151 ∧ T'.1 152 = T.1 152 ∧ T'.1 153 = T.1 153 ∧ T'.1 154 = T.1 154 ∧ T'.1 155 = T.1 155 ∧ T'.1 156 = T.1 156) :=
  have g := fz_of f h
  ⟨fz_r g 105 rfl, by rw [fz_r g 105 rfl], fz_r g 151 rfl, fz_r g 152 rfl, fz_r g 153 rfl, fz_r g 154 rfl, fz_r g 155 rfl, fz_r g 156 rfl⟩
theorem lo11 {T0 T : tT} (hL : ILe T0) (f : fr (wl [157] []) T0 T) (e p x : Int32) (h0 : 0 ≤ x) (h5 : x < 5) : v_X11_lastOf T e p x (T.1 105 71) = if lo T0 x e p = -1 then -1 else T0.1 97 (lo T0 x e p).toNatClampNeg := by
  have g := fr_rEq f rfl
  rw [lastOf11_cg g.2, g.1, hL.1.2]
  have k := e_lastOf hL x e p (T0.1 93 0) (by grind)
  rw [show rT x = x by unfold rT; grind] at k
  exact k
theorem hr_in {sz : Nat} {T0 : tT} (hL : ILe T0) (x E e p : Int32) (hx0 : 0 ≤ x) (hx5 : x < 5) (hE : T0.1 105 57 = E) (hE5 : E ≤ 5) (hl : lo T0 x e p ≠ -1) : ∀ (k : Nat) (T : tT) (N : Int32) (A : List Int32) (v : Int32), fr (wl [157] []) T0 T → N.toInt = (A.length : Nat) → Arr (T.1 157) A → A.length + (gL T0 x e p k v).length ≤ 200 → v.toInt + k = E.toInt → 0 ≤ v → ∃ T' N', (∀ n, (vl_X11_hardness (n + k + 1)).2.2.2.2 T x N e p (T0.1 97 (lo T0 x e p).toNatClampNeg) v = (vl_X11_hardness n).2.2.1 T' x N' e (p + 1)) ∧ (∀ n, (okl_X11_hardness n).2.2.1 sz T' x N' e (p + 1) → (okl_X11_hardness (n + k + 1)).2.2.2.2 sz T x N e p (T0.1 97 (lo T0 x e p).toNatClampNeg) v) ∧ fr (wl [157] []) T0 T' ∧ N'.toInt = ((A ++ gL T0 x e p k v).length : Nat) ∧ Arr (T'.1 157) (A ++ gL T0 x e p k v) := by
  intro k
  have a10 := hL.2.2.2.2.2.2.2.2.2.1
  have own0 : ¬ T0.1 97 (lo T0 x e p).toNatClampNeg < 0 := by
    have := a10 (lo T0 x e p).toNatClampNeg
    grind
  induction k with
  | zero =>
    intro T N A v f hN hA hB hv h0
    have g := fr_rEq f rfl
    have c : T.1 105 57 ≤ v := by rw [g.1, hE, tle]; omega
    have z : gL T0 x e p 0 v = [] := rfl
    rw [z, List.append_nil]
    refine ⟨T, N, fun n => ?_, fun n q => ?_, f, hN, hA⟩
    · rw [vl_X11_hardness_s4, if_pos c]
    · rw [okl_X11_hardness_s4]
      exact ⟨fun _ => q, fun w => absurd c w⟩
  | succ k ih =>
    intro T N A v f hN hA hB hv h0
    have g := fr_rEq f rfl
    have E' := E.toInt_lt
    have e1 : (v + 1).toInt = v.toInt + 1 := tinc' (by omega)
    have v1 : 0 ≤ v + 1 := by rw [tle, e1]; rw [tle] at h0; have : (0 : Int32).toInt = 0 := rfl; omega
    have c : ¬ T.1 105 57 ≤ v := by rw [g.1, hE, tle]; omega
    have v5 : v < 5 := by
      have : E.toInt ≤ 5 := tle.mp hE5
      rw [tlt, show (5 : Int32).toInt = 5 from rfl]; omega
    have lv := lo11 hL f e p v h0 v5
    have b0 := a10 (lo T0 v e p).toNatClampNeg
    have kl : ok_X11_lastOf sz T e p v (T.1 105 71) := k_lastOf11 (ILe_fz (fz_of f rfl) hL) ..
    rw [gL_step] at hB ⊢
    by_cases d : v = x ∨ lo T0 v e p = -1
    · have hg : gp T0 x e p v = none := by unfold gp; rw [if_pos d]
      rw [hg] at hB ⊢
      obtain ⟨T', N', t1, t2, t3⟩ := ih T N A (v + 1) f hN hA hB (by omega) v1
      refine ⟨T', N', fun n => ?_, fun n q => ?_, t3⟩
      · rw [show n + (k + 1) + 1 = (n + k + 1) + 1 by omega, vl_X11_hardness_s4, if_neg c, if_neg own0, lv, ← t1 n]
        by_cases d1 : v = x
        · rw [if_pos d1]
        · rw [if_neg d1, if_pos (d.resolve_left d1), if_neg (by decide)]
      · have w := t2 n q
        rw [show n + (k + 1) + 1 = (n + k + 1) + 1 by omega, okl_X11_hardness_s4, lv]
        refine ⟨fun q => absurd q c, fun _ => ⟨fun q => absurd q own0, fun _ => ⟨fun d1 => ⟨kl, fun q => ?_, fun _ => w⟩, fun _ => w⟩⟩⟩
        rw [if_pos (d.resolve_left d1)] at q
        exact absurd q (by decide)
    · have d1 : ¬ v = x := fun q => d (Or.inl q)
      have d2 : ¬ lo T0 v e p = -1 := fun q => d (Or.inr q)
      have hg : gp T0 x e p v = some (T0.1 97 (lo T0 v e p).toNatClampNeg - T0.1 97 (lo T0 x e p).toNatClampNeg) := by unfold gp; rw [if_neg d]
      rw [hg] at hB ⊢
      simp only [List.length_cons] at hB
      have nN : N.toNatClampNeg = A.length := tnN hN
      have vpN : vp_in N 1000 := by rw [vp_in_iff]; omega
      have hN1 : (N + 1).toInt = ((A ++ [T0.1 97 (lo T0 v e p).toNatClampNeg - T0.1 97 (lo T0 x e p).toNatClampNeg]).length : Nat) := by
        rw [tinc' (by omega), hN, List.length_append, List.length_singleton]
        rfl
      obtain ⟨T', N', t1, t2, t3, t4, t5⟩ := ih (tI T 157 A.length (T0.1 97 (lo T0 v e p).toNatClampNeg - T0.1 97 (lo T0 x e p).toNatClampNeg)) (N + 1) (A ++ [T0.1 97 (lo T0 v e p).toNatClampNeg - T0.1 97 (lo T0 x e p).toNatClampNeg]) (v + 1) (fr_I rfl f) hN1 (Arr_app hA) (by rw [List.length_append, List.length_singleton]; omega) (by omega) v1
      rw [List.append_assoc] at t4 t5
      refine ⟨T', N', fun n => ?_, fun n q => ?_, t3, t4, t5⟩
      · rw [show n + (k + 1) + 1 = (n + k + 1) + 1 by omega, vl_X11_hardness_s4, if_neg c, if_neg own0, lv, if_neg d1, if_neg d2, if_pos b0.1, nN, t1 n]
      · have w := t2 n q
        rw [show n + (k + 1) + 1 = (n + k + 1) + 1 by omega, okl_X11_hardness_s4, lv, if_neg d2, nN]
        exact ⟨fun q => absurd q c, fun _ => ⟨fun q => absurd q own0, fun _ => ⟨fun _ => ⟨kl, fun _ => ⟨vpN, w⟩, fun q => absurd b0.1 q⟩, fun q => absurd q d1⟩⟩⟩
/-- the gaps of one entry and part -/
noncomputable def gE (T : tT) (x : Int32) (En : Nat) (e p : Int32) : List Int32 := if lo T x e p = -1 then [] else gL T x e p En 0
theorem hr_p {sz : Nat} {T0 : tT} (hL : ILe T0) (x E e : Int32) (En : Nat) (hEn : E.toInt = En) (hx0 : 0 ≤ x) (hx5 : x < 5) (hE : T0.1 105 57 = E) (hE5 : E ≤ 5) : ∀ (k : Nat) (T : tT) (N : Int32) (A : List Int32) (p : Int32), fr (wl [157] []) T0 T → N.toInt = (A.length : Nat) → Arr (T.1 157) A → A.length + ((ir k p).flatMap (gE T0 x En e)).length ≤ 200 → p.toInt + k = 6 → 0 ≤ p → ∃ (u : Nat) (T' : tT) (N' : Int32), u ≤ k * 7 + 1 ∧ (∀ n, (vl_X11_hardness (n + u)).2.2.1 T x N e p = (vl_X11_hardness n).1 T' x N' (e + 1)) ∧ (∀ n, (okl_X11_hardness n).1 sz T' x N' (e + 1) → (okl_X11_hardness (n + u)).2.2.1 sz T x N e p) ∧ fr (wl [157] []) T0 T' ∧ N'.toInt = ((A ++ (ir k p).flatMap (gE T0 x En e)).length : Nat) ∧ Arr (T'.1 157) (A ++ (ir k p).flatMap (gE T0 x En e)) := by
  intro k
  have En5 : En ≤ 5 := by have : E.toInt ≤ 5 := tle.mp hE5; omega
  have z0 : (0 : Int32).toInt = 0 := rfl
  induction k with
  | zero =>
    intro T N A p f hN hA hB hp h0
    have c : 6 ≤ p := by rw [tle, show (6 : Int32).toInt = 6 from rfl]; omega
    rw [show (ir 0 p).flatMap (gE T0 x En e) = [] from rfl, List.append_nil]
    refine ⟨1, T, N, by omega, fun n => ?_, fun n q => ?_, f, hN, hA⟩
    · rw [vl_X11_hardness_s2, if_pos c]
    · rw [okl_X11_hardness_s2]
      exact ⟨fun _ => q, fun w => absurd c w⟩
  | succ k ih =>
    intro T N A p f hN hA hB hp h0
    have e1 : (p + 1).toInt = p.toInt + 1 := tinc' (by omega)
    have p1 : 0 ≤ p + 1 := by rw [tle, e1]; rw [tle] at h0; omega
    have c : ¬ 6 ≤ p := by rw [tle, show (6 : Int32).toInt = 6 from rfl]; omega
    have lv := lo11 hL f e p x hx0 hx5
    have kl : ok_X11_lastOf sz T e p x (T.1 105 71) := k_lastOf11 (ILe_fz (fz_of f rfl) hL) ..
    have st : (ir (k + 1) p).flatMap (gE T0 x En e) = gE T0 x En e p ++ (ir k (p + 1)).flatMap (gE T0 x En e) := by
      simp only [ir, List.flatMap_cons]
    rw [st] at hB ⊢
    rw [List.length_append] at hB
    by_cases d : lo T0 x e p = -1
    · rw [show gE T0 x En e p = [] by unfold gE; rw [if_pos d]] at hB ⊢
      rw [List.length_nil] at hB
      rw [List.nil_append]
      obtain ⟨u, T', N', t0, t1, t2, t3⟩ := ih T N A (p + 1) f hN hA (by omega) (by omega) p1
      have g := fr_rEq f rfl
      refine ⟨u + 2, T', N', by omega, fun n => ?_, fun n q => ?_, t3⟩
      · rw [show n + (u + 2) = (n + u) + 1 + 1 by omega, vl_X11_hardness_s2, if_neg c, lv, if_pos d, vl_X11_hardness_s4, ← t1 n, if_pos (show (-1 : Int32) < 0 by decide), ite_self]
      · have w := t2 n q
        rw [show n + (u + 2) = (n + u) + 1 + 1 by omega, okl_X11_hardness_s2, lv, if_pos d, okl_X11_hardness_s4]
        exact ⟨fun q => absurd q c, fun _ => ⟨kl, fun _ => w, fun _ => ⟨fun _ => w, fun q => absurd (show (-1 : Int32) < 0 by decide) q⟩⟩⟩
    · rw [show gE T0 x En e p = gL T0 x e p En 0 by unfold gE; rw [if_neg d]] at hB ⊢
      obtain ⟨T1, N1, s1, s2, s3, s4, s5⟩ := hr_in (sz := sz) hL x E e p hx0 hx5 hE hE5 d En T N A 0 f hN hA (by omega) (by omega) (by decide)
      obtain ⟨u, T', N', t0, t1, t2, t3⟩ := ih T1 N1 _ (p + 1) s3 s4 s5 (by rw [List.length_append]; omega) (by omega) p1
      rw [List.append_assoc] at t3
      refine ⟨u + En + 2, T', N', by omega, fun n => ?_, fun n q => ?_, t3⟩
      · rw [show n + (u + En + 2) = ((n + u) + En + 1) + 1 by omega, vl_X11_hardness_s2, if_neg c, lv, if_neg d, s1, t1]
      · have w := s2 _ (t2 n q)
        rw [show n + (u + En + 2) = ((n + u) + En + 1) + 1 by omega, okl_X11_hardness_s2, lv, if_neg d]
        exact ⟨fun q => absurd q c, fun _ => ⟨kl, w⟩⟩
/-- the reference's gaps from entry e on -/
noncomputable def rL (T : tT) (x : Int32) (En : Nat) (j : Nat) (e : Int32) : List Int32 := (ir j e).flatMap (fun e => (ir 6 0).flatMap (gE T x En e))
theorem hr_e {sz : Nat} {T0 : tT} (hL : ILe T0) (x E M : Int32) (En : Nat) (hEn : E.toInt = En) (hx0 : 0 ≤ x) (hx5 : x < 5) (hE : T0.1 105 57 = E) (hE5 : E ≤ 5) (hM : T0.1 105 48 = M) : ∀ (k : Nat) (T : tT) (N : Int32) (A : List Int32) (e : Int32), fr (wl [157] []) T0 T → N.toInt = (A.length : Nat) → Arr (T.1 157) A → A.length + (rL T0 x En k e).length ≤ 200 → e.toInt + k = M.toInt → 0 ≤ e → ∃ (u : Nat) (T' : tT) (N' : Int32), u ≤ k * 44 + 1 ∧ (∀ n, (vl_X11_hardness (n + u)).1 T x N e = if N' = 0 then (-1000, T') else (vl_X11_hardness n).2.1 T' N' ((N' - 1) / 2) 0) ∧ (∀ n, (N' ≠ 0 → (okl_X11_hardness n).2.1 sz T' N' ((N' - 1) / 2) 0) → (okl_X11_hardness (n + u)).1 sz T x N e) ∧ fr (wl [157] []) T0 T' ∧ N'.toInt = ((A ++ rL T0 x En k e).length : Nat) ∧ Arr (T'.1 157) (A ++ rL T0 x En k e) := by
  intro k
  have z0 : (0 : Int32).toInt = 0 := rfl
  have M1 := M.toInt_lt
  induction k with
  | zero =>
    intro T N A e f hN hA hB hp h0
    have g := fr_rEq f rfl
    have c : T.1 105 48 ≤ e := by rw [g.1, hM, tle]; omega
    rw [show rL T0 x En 0 e = [] from rfl, List.append_nil]
    refine ⟨1, T, N, by omega, fun n => ?_, fun n q => ?_, f, hN, hA⟩
    · rw [vl_X11_hardness_s0, if_pos c]
    · rw [okl_X11_hardness_s0]
      exact ⟨fun _ => ⟨q, fun _ => trivial⟩, fun w => absurd c w⟩
  | succ k ih =>
    intro T N A e f hN hA hB hp h0
    have g := fr_rEq f rfl
    have e1 : (e + 1).toInt = e.toInt + 1 := tinc' (by omega)
    have p1 : 0 ≤ e + 1 := by rw [tle, e1]; rw [tle] at h0; omega
    have c : ¬ T.1 105 48 ≤ e := by rw [g.1, hM, tle]; omega
    have st : rL T0 x En (k + 1) e = (ir 6 0).flatMap (gE T0 x En e) ++ rL T0 x En k (e + 1) := by
      unfold rL
      simp only [ir, List.flatMap_cons]
    rw [st] at hB ⊢
    rw [List.length_append] at hB
    obtain ⟨u1, T1, N1, s0, s1, s2, s3, s4, s5⟩ := hr_p (sz := sz) hL x E e En hEn hx0 hx5 hE hE5 6 T N A 0 f hN hA (by omega) (by omega) (by decide)
    obtain ⟨u, T', N', t0, t1, t2, t3⟩ := ih T1 N1 _ (e + 1) s3 s4 s5 (by rw [List.length_append]; omega) (by omega) p1
    rw [List.append_assoc] at t3
    refine ⟨u + u1 + 1, T', N', by omega, fun n => ?_, fun n q => ?_, t3⟩
    · rw [show n + (u + u1 + 1) = ((n + u) + u1) + 1 by omega, vl_X11_hardness_s0, if_neg c, s1, t1]
    · have w := s2 _ (t2 n q)
      rw [show n + (u + u1 + 1) = ((n + u) + u1) + 1 by omega, okl_X11_hardness_s0]
      exact ⟨fun q => absurd q c, fun _ => w⟩
