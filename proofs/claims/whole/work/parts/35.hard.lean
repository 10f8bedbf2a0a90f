/-! hardness -/
def mEq (T T' : tT) : Prop := T'.1 93 = T.1 93 ∧ T'.1 94 = T.1 94 ∧ T'.1 95 = T.1 95 ∧ T'.1 96 = T.1 96 ∧ T'.1 97 = T.1 97 ∧ T'.1 98 = T.1 98 ∧ T'.1 99 = T.1 99
theorem lastOf5_cg {T T' : tT} (h : mEq T T') (t e p d : Int32) : v_X5_lastOf T' t e p d = v_X5_lastOf T t e p d := by
  obtain ⟨h1, h2, h3, h4, h5, h6, h7⟩ := h
  have l : ∀ n v, vl_X5_lastOf n T' t e p d v = vl_X5_lastOf n T t e p d v := by
    intro n
    induction n with
    | zero => intro v; rfl
    | succ n ih =>
      intro v
      rw [vl_X5_lastOf_s, vl_X5_lastOf_s]
      unfold v_X5_isKnown v_X5_stands
      rw [h2, h3, h4, h6, h7, ih]
  unfold v_X5_lastOf
  rw [h1, l]
theorem fr_mEq {A : List Nat} {T T' : tT} (f : fr (wl A []) T T') (h : djb [93, 94, 95, 96, 97, 98, 99] [] A [] = true) : mEq T T' :=
  have g := fz_of f h
  ⟨fz_r g 93 rfl, fz_r g 94 rfl, fz_r g 95 rfl, fz_r g 96 rfl, fz_r g 97 rfl, fz_r g 98 rfl, fz_r g 99 rfl⟩
noncomputable def lo (T : tT) (t e p : Int32) : Int32 := v_X5_lastOf T t e p (T.1 93 0)
noncomputable def gp (T : tT) (x e p x' : Int32) : Option Int32 := if x' = x ∨ lo T x' e p = -1 then none else some (T.1 97 (lo T x' e p).toNatClampNeg - T.1 97 (lo T x e p).toNatClampNeg)
noncomputable def gL (T : tT) (x e p : Int32) (k : Nat) (v : Int32) : List Int32 := (ir k v).filterMap (gp T x e p)
theorem lo_cg {T T' : tT} (h : mEq T T') (t e p : Int32) : lo T' t e p = lo T t e p := by
  unfold lo
  rw [lastOf5_cg h, h.1]
theorem gp_cg {T T' : tT} (h : mEq T T') (x e p : Int32) : gp T' x e p = gp T x e p := by
  funext x'
  unfold gp
  rw [lo_cg h, lo_cg h, h.2.2.2.2.1]
theorem gL_cg {T T' : tT} (h : mEq T T') (x e p : Int32) (k : Nat) (v : Int32) : gL T' x e p k v = gL T x e p k v := by
  unfold gL
  rw [gp_cg h]
theorem lo_rng {T : tT} (hL : ILe T) (t e p : Int32) : lo T t e p = -1 ∨ (0 ≤ lo T t e p ∧ lo T t e p < T.1 93 1 ∧ T.1 95 (lo T t e p).toNatClampNeg = t ∧ T.1 94 (lo T t e p).toNatClampNeg = e ∧ T.1 96 (lo T t e p).toNatClampNeg = p) := by
  rcases l_lastOf5 hL t e p (T.1 93 0) with q | ⟨q1, q2, q3, q4⟩
  · exact Or.inl q.1
  · exact Or.inr ⟨q1, q2, q3.1, q3.2.1, q3.2.2.1⟩
theorem gL_step {T : tT} {x e p : Int32} {k : Nat} {v : Int32} : gL T x e p (k + 1) v = (match gp T x e p v with | none => gL T x e p k (v + 1) | some g => g :: gL T x e p k (v + 1)) := by
  unfold gL
  simp only [ir, List.filterMap_cons]
  cases gp T x e p v <;> rfl
theorem hc_in {sz : Nat} {T0 : tT} (hL : ILe T0) (x E m : Int32) (hm0 : 0 ≤ m) (hm : m < T0.1 93 1) (hl : lo T0 x (T0.1 94 m.toNatClampNeg) (T0.1 96 m.toNatClampNeg) = m) : ∀ (k : Nat) (T : tT) (found : Int32) (L : List Int32) (v : Int32), fr (wl [100] []) T0 T → Srt T found L → L.length + (gL T0 x (T0.1 94 m.toNatClampNeg) (T0.1 96 m.toNatClampNeg) k v).length ≤ 200 → v.toInt + k = E.toInt → ∃ T' found', (∀ n, (vl_X5_hardnessOf (n + k + 1)).2 T x E found m 1 v = (vl_X5_hardnessOf n).1 T' x E found' (m + 1)) ∧ (∀ n, (okl_X5_hardnessOf n).1 sz T' x E found' (m + 1) → (okl_X5_hardnessOf (n + k + 1)).2 sz T x E found m 1 v) ∧ fr (wl [100] []) T0 T' ∧ Srt T' found' (gL T0 x (T0.1 94 m.toNatClampNeg) (T0.1 96 m.toNatClampNeg) k v ++ L) := by
  intro k
  have b := hL.2.1
  have vm := vp200 (a := m) hm0 (by grind)
  induction k with
  | zero =>
    intro T found L v f hS hN hv
    have c : E ≤ v := by rw [tle]; omega
    refine ⟨T, found, fun n => ?_, fun n q => ?_, f, hS⟩
    · rw [vl_X5_hardnessOf_s1, if_neg (by decide), if_pos c]
    · rw [okl_X5_hardnessOf_s1]
      exact ⟨fun w => absurd w (by decide), fun _ => ⟨fun _ => q, fun w => absurd c w⟩⟩
  | succ k ih =>
    intro T found L v f hS hN hv
    have g := fr_mEq f rfl
    have E' := E.toInt_lt
    have e1 : (v + 1).toInt = v.toInt + 1 := tinc' (by omega)
    have c : ¬ E ≤ v := by rw [tle]; omega
    rw [gL_step] at hN ⊢
    have hg : gp T0 x (T0.1 94 m.toNatClampNeg) (T0.1 96 m.toNatClampNeg) v = if v = x ∨ lo T0 v (T0.1 94 m.toNatClampNeg) (T0.1 96 m.toNatClampNeg) = -1 then none else some (T0.1 97 (lo T0 v (T0.1 94 m.toNatClampNeg) (T0.1 96 m.toNatClampNeg)).toNatClampNeg - T0.1 97 m.toNatClampNeg) := by
      unfold gp
      rw [hl]
    have lt : v_X5_lastOf T v (T.1 94 m.toNatClampNeg) (T.1 96 m.toNatClampNeg) (T.1 93 0) = lo T0 v (T0.1 94 m.toNatClampNeg) (T0.1 96 m.toNatClampNeg) := by
      rw [lastOf5_cg g, g.1, g.2.1, g.2.2.2.1]; rfl
    have kl : ok_X5_lastOf sz T v (T.1 94 m.toNatClampNeg) (T.1 96 m.toNatClampNeg) (T.1 93 0) := k_lastOf5 (ILe_fz (fz_of f rfl) hL) ..
    have kl2 : lo T0 v (T0.1 94 m.toNatClampNeg) (T0.1 96 m.toNatClampNeg) ≠ -1 → vp_in (lo T0 v (T0.1 94 m.toNatClampNeg) (T0.1 96 m.toNatClampNeg)) 200 := by
      intro q
      rcases lo_rng hL v (T0.1 94 m.toNatClampNeg) (T0.1 96 m.toNatClampNeg) with w | w
      · exact absurd w q
      · exact vp200 w.1 (by grind)
    by_cases d : v = x ∨ lo T0 v (T0.1 94 m.toNatClampNeg) (T0.1 96 m.toNatClampNeg) = -1
    · rw [hg, if_pos d] at hN ⊢
      obtain ⟨T', found', t1, t2, t3, t4⟩ := ih T found L (v + 1) f hS hN (by omega)
      refine ⟨T', found', fun n => ?_, fun n q => ?_, t3, t4⟩
      · rw [show n + (k + 1) + 1 = (n + k + 1) + 1 by omega, vl_X5_hardnessOf_s1, if_neg (by decide), if_neg c, lt, ← t1 n]
        grind
      · have := t2 n q
        rw [show n + (k + 1) + 1 = (n + k + 1) + 1 by omega, okl_X5_hardnessOf_s1, lt]
        grind
    · rw [hg, if_neg d] at hN ⊢
      simp only [List.length_cons] at hN
      obtain ⟨T1, s1, s2, s3, s4⟩ := ins_gap (sz := sz) (g := T0.1 97 (lo T0 v (T0.1 94 m.toNatClampNeg) (T0.1 96 m.toNatClampNeg)).toNatClampNeg - T0.1 97 m.toNatClampNeg) hS (by omega)
      obtain ⟨T', found', t1, t2, t3, t4⟩ := ih T1 (found + 1) _ (v + 1) (fr_trans f s3) s4 (by simp only [List.length_cons]; omega) (by omega)
      refine ⟨T', found', fun n => ?_, fun n q => ?_, t3, Srt_perm t4 List.perm_middle⟩
      · rw [show n + (k + 1) + 1 = (n + k + 1) + 1 by omega, vl_X5_hardnessOf_s1, if_neg (by decide), if_neg c, lt, g.2.2.2.2.1, s1, ← t1 n]
        grind
      · have := t2 n q
        rw [show n + (k + 1) + 1 = (n + k + 1) + 1 by omega, okl_X5_hardnessOf_s1, lt, g.2.2.2.2.1, s1]
        grind
/-- the class's gaps from mark m on -/
noncomputable def cL (T : tT) (x : Int32) (En : Nat) (j : Nat) (m : Int32) : List Int32 := (ir j m).flatMap (fun m => if T.1 95 m.toNatClampNeg = x ∧ lo T x (T.1 94 m.toNatClampNeg) (T.1 96 m.toNatClampNeg) = m then gL T x (T.1 94 m.toNatClampNeg) (T.1 96 m.toNatClampNeg) En 0 else [])
theorem hc_out {sz : Nat} {T0 : tT} (hL : ILe T0) (x E : Int32) (En : Nat) (hE : E.toInt = En) (hE5 : En ≤ 5) : ∀ (j : Nat) (T : tT) (found : Int32) (L : List Int32) (m : Int32), fr (wl [100] []) T0 T → Srt T found L → m.toInt + j = (T0.1 93 1).toInt → 0 ≤ m → L.length + (cL T0 x En j m).length ≤ 200 → ∃ (u : Nat) (T' : tT) (found' : Int32), u ≤ j * 7 ∧ (∀ n, (vl_X5_hardnessOf (n + u + 1)).1 T x E found m = (if found' = 0 then (-1000, T') else (T'.1 100 ((found' - 1) / 2).toNatClampNeg, T'))) ∧ (∀ n, (okl_X5_hardnessOf (n + u + 1)).1 sz T x E found m) ∧ fr (wl [100] []) T0 T' ∧ Srt T' found' (cL T0 x En j m ++ L) := by
  intro j
  have b := hL.2.1
  have C200 : (T0.1 93 1).toInt ≤ 200 := tle.mp b.2.1
  induction j with
  | zero =>
    intro T found L m f hS hj hm hN
    have g := fr_mEq f rfl
    have c : T.1 93 1 ≤ m := by rw [g.1, tle]; omega
    refine ⟨0, T, found, by omega, fun n => ?_, fun n => ?_, f, hS⟩
    · rw [vl_X5_hardnessOf_s0, if_pos c]
    · rw [okl_X5_hardnessOf_s0]
      refine ⟨fun _ => ⟨fun q => ?_, fun _ => trivial⟩, fun q => absurd c q⟩
      obtain ⟨s, s1, s2, s3, s4⟩ := hS
      have len := s1.length_eq
      have p0 : 0 < s.length := by
        rcases Nat.eq_zero_or_pos s.length with z | z
        · exfalso; apply q; rw [teq, s3, z]; rfl
        · exact z
      simp only [cL, ir, List.flatMap_nil, List.length_nil] at hN
      rw [vp_in_iff, half s3 p0 (by omega)]
      omega
  | succ j ih =>
    intro T found L m f hS hj hm hN
    have g := fr_mEq f rfl
    have e1 : (m + 1).toInt = m.toInt + 1 := tinc' (by omega)
    have m1 : 0 ≤ m + 1 := by rw [tle, e1]; rw [tle] at hm; have : (0 : Int32).toInt = 0 := rfl; omega
    have c : ¬ T.1 93 1 ≤ m := by rw [g.1, tle]; omega
    have hm2 : m < T0.1 93 1 := by rw [tlt]; omega
    have vm := vp200 (a := m) hm (by grind)
    have kl : ok_X5_lastOf sz T x (T.1 94 m.toNatClampNeg) (T.1 96 m.toNatClampNeg) (T.1 93 0) := k_lastOf5 (ILe_fz (fz_of f rfl) hL) ..
    have lt : v_X5_lastOf T x (T.1 94 m.toNatClampNeg) (T.1 96 m.toNatClampNeg) (T.1 93 0) = lo T0 x (T0.1 94 m.toNatClampNeg) (T0.1 96 m.toNatClampNeg) := by
      rw [lastOf5_cg g, g.1, g.2.1, g.2.2.2.1]; rfl
    have cs : cL T0 x En (j + 1) m = (if T0.1 95 m.toNatClampNeg = x ∧ lo T0 x (T0.1 94 m.toNatClampNeg) (T0.1 96 m.toNatClampNeg) = m then gL T0 x (T0.1 94 m.toNatClampNeg) (T0.1 96 m.toNatClampNeg) En 0 else []) ++ cL T0 x En j (m + 1) := by
      unfold cL
      simp only [ir, List.flatMap_cons]
    rw [cs] at hN ⊢
    by_cases d : T0.1 95 m.toNatClampNeg = x ∧ lo T0 x (T0.1 94 m.toNatClampNeg) (T0.1 96 m.toNatClampNeg) = m
    · rw [if_pos d, List.length_append] at hN
      rw [if_pos d]
      obtain ⟨T1, f1, s1, s2, s3, s4⟩ := hc_in (sz := sz) hL x E m hm hm2 d.2 En T found L 0 f hS (by omega) (by rw [hE, show (0 : Int32).toInt = 0 from rfl]; omega)
      obtain ⟨u, T', found', t1, t2, t3, t4, t5⟩ := ih T1 f1 _ (m + 1) s3 s4 (by omega) m1 (by rw [List.length_append]; omega)
      refine ⟨u + En + 2, T', found', by omega, fun n => ?_, fun n => ?_, t4, Srt_perm t5 (by
        rw [← List.append_assoc]
        exact List.Perm.append_right L List.perm_append_comm)⟩
      · rw [show n + (u + En + 2) + 1 = ((n + u + 1) + En + 1) + 1 by omega, vl_X5_hardnessOf_s0, if_neg c, lt, g.2.2.1, if_pos d.1, if_pos d.2, s1, t2]
      · have := s2 _ (t3 n)
        rw [show n + (u + En + 2) + 1 = ((n + u + 1) + En + 1) + 1 by omega, okl_X5_hardnessOf_s0, lt, g.2.2.1]
        exact ⟨fun q => absurd q c, fun _ => ⟨vm, fun q => absurd d.1 q, fun _ => ⟨vm, vm, kl, fun q => absurd d.2 q, fun _ => this⟩⟩⟩
    · rw [if_neg d, List.nil_append] at hN ⊢
      obtain ⟨u, T', found', t1, t2, t3, t4, t5⟩ := ih T found L (m + 1) f hS (by omega) m1 hN
      refine ⟨u + 2, T', found', by omega, fun n => ?_, fun n => ?_, t4, t5⟩
      · have z : (vl_X5_hardnessOf (n + u + 1 + 1)).2 T x E found m 0 0 = if found' = 0 then (-1000, T') else (T'.1 100 ((found' - 1) / 2).toNatClampNeg, T') := by
          rw [vl_X5_hardnessOf_s1, if_pos rfl, t2]
        rw [show n + (u + 2) + 1 = (n + u + 1) + 1 + 1 by omega, vl_X5_hardnessOf_s0, if_neg c, lt, g.2.2.1]
        by_cases a1 : T0.1 95 m.toNatClampNeg = x
        · rw [if_pos a1, if_neg (fun a2 => d ⟨a1, a2⟩), z]
        · rw [if_neg a1, z]
      · have z : (okl_X5_hardnessOf (n + u + 1 + 1)).2 sz T x E found m 0 0 := by
          rw [okl_X5_hardnessOf_s1]
          exact ⟨fun _ => t3 n, fun q => absurd rfl q⟩
        rw [show n + (u + 2) + 1 = (n + u + 1) + 1 + 1 by omega, okl_X5_hardnessOf_s0, lt, g.2.2.1]
        exact ⟨fun q => absurd q c, fun _ => ⟨vm, fun _ => z, fun a1 => ⟨vm, vm, kl, fun _ => z, fun a2 => absurd ⟨a1, a2⟩ d⟩⟩⟩
