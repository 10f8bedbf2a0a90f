/-! solve -/
theorem tI_at {T : tT} {a i : Nat} {v : Int32} : (tI T a i v).1 a i = v := t2_at
theorem tI_off {T : tT} {a i x y : Nat} {v : Int32} (h : ¬ (x = a ∧ y = i)) : (tI T a i v).1 x y = T.1 x y := t2_off h
theorem tJ_at {T : tT} {a i : Nat} {v : Int64} : (tJ T a i v).2.1 a i = v := t2_at
theorem tJ_off {T : tT} {a i x y : Nat} {v : Int64} (h : ¬ (x = a ∧ y = i)) : (tJ T a i v).2.1 x y = T.2.1 x y := t2_off h
theorem tP_at {T : tT} {a i : Nat} {v : Option Nat} : (tP T a i v).2.2 a i = v := t2_at
theorem tP_off {T : tT} {a i x y : Nat} {v : Option Nat} (h : ¬ (x = a ∧ y = i)) : (tP T a i v).2.2 x y = T.2.2 x y := t2_off h
def slF (T0 : tT) (c : Nat → Nat → Int) (g : Nat → Nat → Prop) (A E : Nat) (r : Int32 × tT) : Prop := fr (wl [148] []) T0 r.2 ∧ Lst c g A E (A - 1) r.1.toInt
def slR (T : tT) (c : Nat → Nat → Int) (g : Nat → Nat → Prop) (A x : Nat) : Prop := ∀ m, m < A → Lst c g A x m (T.1 148 (512 * x + m)).toInt
def slN (T : tT) (c : Nat → Nat → Int) (g : Nat → Nat → Prop) (A x : Nat) (D : Nat → Nat → Prop) : Prop := ∀ m, m < A → Lsp c g A x D m (T.1 148 (512 * (x + 1) + m)).toInt
theorem slR_up {T : tT} {c : Nat → Nat → Int} {g : Nat → Nat → Prop} {A x j : Nat} {v : Int32} (A5 : A ≤ 512) (h : slR T c g A x) : slR (tI T 148 (512 * (x + 1) + j) v) c g A x := by
  intro m hm
  have e : (tI T 148 (512 * (x + 1) + j) v).1 148 (512 * x + m) = T.1 148 (512 * x + m) := tI_off (fun q => by have := q.2; omega)
  rw [e]
  exact h m hm
set_option maxRecDepth 20000 in
theorem e_solve {sz : Nat} {T0 : tT} (hC : ICi T0) {S E A : Nat} (hS : (T0.1 79 2).toInt = S) (hE : (T0.1 79 1).toInt = E) (S9 : S ≤ 9) (E5 : E ≤ 5) (hA : A = 2 ^ S) {a : Int32} (ha : a.toInt = A) (K : Nat) (hK : 270000 ≤ K) {c : Nat → Nat → Int} {g : Nat → Nat → Prop} (hc : ∀ y o, c y o = (T0.1 147 (512 * y + o)).toInt) (hc0 : ∀ y o, y < E → o < A → 0 ≤ c y o ∧ c y o ≤ 1000000) (hg : ∀ y o, g y o ↔ c y o < 1000000 ∧ agr (T0.1 149) S y o) : ∀ n : Nat,
  (∀ (T : tT) (v : Int32) (k : Nat), fr (wl [148] []) T0 T → v.toInt = k → k ≤ A → E * K + 15 + (A - k) < n → (∀ m, m < k → Lst c g A 0 m (T.1 148 m).toInt) → slF T0 c g A E ((vl_X11_solve n).1 T a v) ∧ (okl_X11_solve n).1 sz T a v) ∧
  (∀ (T : tT) (v : Int32) (x r : Nat), fr (wl [148] []) T0 T → v.toInt = x → x + r = E → r * K + 10 < n → slR T c g A x → slF T0 c g A E ((vl_X11_solve n).2.1 T a v) ∧ (okl_X11_solve n).2.1 sz T a v) ∧
  (∀ (T : tT) (v w : Int32) (x k r : Nat), fr (wl [148] []) T0 T → v.toInt = x → w.toInt = k → x + r + 1 = E → k ≤ A → r * K + A * 514 + 25 + (A - k) < n → slR T c g A x → (∀ m, m < k → T.1 148 (512 * (x + 1) + m) = 1000000) → slF T0 c g A E ((vl_X11_solve n).2.2.1 T a v w) ∧ (okl_X11_solve n).2.2.1 sz T a v w) ∧
  (∀ (T : tT) (v w : Int32) (x o r y : Nat), fr (wl [148] []) T0 T → v.toInt = x → w.toInt = o → x + r + 1 = E → o + y = A → r * K + 15 + y * 514 < n → slR T c g A x → slN T c g A x (fun o' _ => o' < o) → slF T0 c g A E ((vl_X11_solve n).2.2.2.1 T a v w) ∧ (okl_X11_solve n).2.2.2.1 sz T a v w) ∧
  (∀ (T : tT) (v w u z : Int32) (x o r y : Nat) (s : Int), fr (wl [148] []) T0 T → v.toInt = x → w.toInt = o → u.toInt = (A - (o + 1) : Nat) → z.toInt = s → x + r + 1 = E → o + y + 1 = A → g x o → -1 ≤ s → s < A → (∀ t : Nat, s = t → t &&& (A - (o + 1)) = t) → r * K + 16 + y * 514 + (s + 1).toNat < n → slR T c g A x → slN T c g A x (fun o' m' => o' < o ∨ (o' = o ∧ s < (m' : Int))) → slF T0 c g A E ((vl_X11_solve n).2.2.2.2 T a v w u z) ∧ (okl_X11_solve n).2.2.2.2 sz T a v w u z) := by
  have A5 : A ≤ 512 := by
    rw [hA]
    exact Nat.pow_le_pow_right (n := 2) (by decide) S9
  have A1 : 0 < A := by rw [hA]; exact Nat.pow_pos (by decide)
  have q57 : ∀ T, fr (wl [148] []) T0 T → T.1 105 57 = T0.1 79 1 := fun T f => (fr_i f (k := 105) (i := 57) rfl).trans hC.1.2.1
  have q147 : ∀ T, fr (wl [148] []) T0 T → ∀ i, T.1 147 i = T0.1 147 i := fun T f i => fr_i f (k := 147) (i := i) rfl
  have q149 : ∀ T, fr (wl [148] []) T0 T → T.1 149 = T0.1 149 := fun T f => fr_ri f (k := 149) (fun _ => rfl)
  have q79 : ∀ T, fr (wl [148] []) T0 T → T.1 79 2 = T0.1 79 2 := fun T f => fr_i f (k := 79) (i := 2) rfl
  have q00 : ∀ T, fr (wl [148] []) T0 T → ICi T := fun T f => ICi_fz (fz_of f rfl) hC
  intro n
  induction n with
  | zero => exact ⟨fun _ _ _ _ _ _ h => absurd h (Nat.not_lt_zero _), fun _ _ _ _ _ _ _ h => absurd h (Nat.not_lt_zero _), fun _ _ _ _ _ _ _ _ _ _ _ h => absurd h (Nat.not_lt_zero _), fun _ _ _ _ _ _ _ _ _ _ _ _ h => absurd h (Nat.not_lt_zero _), fun _ _ _ _ _ _ _ _ _ _ _ _ _ _ _ _ _ _ _ _ _ h => absurd h (Nat.not_lt_zero _)⟩
  | succ n ih =>
    obtain ⟨ih1, ih2, ih3, ih4, ih5⟩ := ih
    refine ⟨?_, ?_, ?_, ?_, ?_⟩
    · intro T v k f hv hk hn hr
      rw [vl_X11_solve_s0, okl_X11_solve_s0]
      by_cases e : k = A
      · have cc : a ≤ v := by rw [tle]; omega
        rw [if_pos cc]
        obtain ⟨u1, u2⟩ := ih2 T 0 0 E f rfl (by omega) (by omega) (fun m hm => by rw [Nat.mul_zero, Nat.zero_add]; exact hr m (by omega))
        exact ⟨u1, fun _ => u2, fun w => absurd cc w⟩
      · have cc : ¬ a ≤ v := by rw [tle]; omega
        have st : (v + 1).toInt = (k + 1 : Nat) := by rw [tinc' (by omega)]; omega
        have vi : vp_in v 3072 := by rw [vp_in_iff]; omega
        rw [if_neg cc, tnN hv]
        by_cases z : v = 0
        · have k0 : k = 0 := by
            rw [z] at hv
            have : (0 : Int32).toInt = 0 := rfl
            omega
          subst k0
          rw [if_pos z]
          obtain ⟨u1, u2⟩ := ih1 (tI T 148 0 0) (v + 1) 1 (fr_I rfl f) st (by omega) (by omega) (fun m hm => by
            have : m = 0 := by omega
            subst this
            rw [show (tI T 148 0 0).1 148 0 = 0 from tI_at]
            exact Lst_init)
          exact ⟨u1, fun w => absurd w cc, fun _ => ⟨fun w => absurd z w, fun _ => ⟨vi, u2⟩⟩⟩
        · rw [if_neg z]
          have k0 : k ≠ 0 := fun q => z (by rw [teq, hv, q]; rfl)
          obtain ⟨u1, u2⟩ := ih1 (tI T 148 k 1000000) (v + 1) (k + 1) (fr_I rfl f) st (by omega) (by omega) (fun m hm => by
            by_cases q : m = k
            · subst q
              rw [show (tI T 148 m 1000000).1 148 m = 1000000 from tI_at]
              have := Lst_init (c := c) (g := g) (A := A) (m := m)
              rw [if_neg k0] at this
              exact this
            · rw [show (tI T 148 k 1000000).1 148 m = T.1 148 m from tI_off (fun w => q w.2)]
              exact hr m (by omega))
          exact ⟨u1, fun w => absurd w cc, fun _ => ⟨fun _ => ⟨vi, u2⟩, fun w => absurd w z⟩⟩
    · intro T v x r f hv hx hn hr
      rw [vl_X11_solve_s1, okl_X11_solve_s1, q57 T f]
      by_cases e : x = E
      · have cc : T0.1 79 1 ≤ v := by rw [tle]; omega
        rw [if_pos cc]
        have i1 := ix512 hE ha (by omega)
        have z1 : (1 : Int32).toInt = 1 := rfl
        have i2 : (512 * T0.1 79 1 + a - 1).toInt = (512 * E + (A - 1) : Nat) := by
          have z : (512 : Int32).toInt = 512 := rfl
          have m : ((512 : Int32) * T0.1 79 1).toInt = 512 * E := by rw [tmul (by rw [z]; omega) (by rw [z]; omega), z, hE]
          have m2 : ((512 : Int32) * T0.1 79 1 + a).toInt = 512 * E + A := by rw [tadd (by omega) (by omega), m, ha]
          rw [tsub (by omega) (by omega), m2, z1]
          omega
        refine ⟨⟨f, ?_⟩, fun _ => ?_, fun w => absurd cc w⟩
        · show Lst c g A E (A - 1) (T.1 148 (512 * T0.1 79 1 + a - 1).toNatClampNeg).toInt
          rw [tnN i2]
          have := hr (A - 1) (by omega)
          rw [e] at this
          exact this
        · rw [vp_in_iff]
          omega
      · have cc : ¬ T0.1 79 1 ≤ v := by rw [tle]; omega
        rw [if_neg cc]
        obtain ⟨r, rfl⟩ : ∃ r', r = r' + 1 := ⟨r - 1, by omega⟩
        rw [Nat.succ_mul] at hn
        obtain ⟨u1, u2⟩ := ih3 T v 0 x 0 r f hv rfl (by omega) (by omega) (by omega) hr (fun m hm => absurd hm (Nat.not_lt_zero _))
        exact ⟨u1, fun w => absurd w cc, fun _ => u2⟩
    · intro T v w x k r f hv hw hx' hk hn hr h1
      have hx : x < E := by omega
      rw [vl_X11_solve_s2, okl_X11_solve_s2]
      by_cases e : k = A
      · have cc : a ≤ w := by rw [tle]; omega
        rw [if_pos cc]
        obtain ⟨u1, u2⟩ := ih4 T v 0 x 0 r A f hv rfl hx' (by omega) (by omega) hr (fun m hm => by
          rw [h1 m (by omega)]
          exact Lsp_mono Lsp_init (fun o' m' q => absurd q (Nat.not_lt_zero _)))
        exact ⟨u1, fun _ => u2, fun w => absurd cc w⟩
      · have cc : ¬ a ≤ w := by rw [tle]; omega
        have st : (w + 1).toInt = (k + 1 : Nat) := by rw [tinc' (by omega)]; omega
        have sx : (v + 1).toInt = (x + 1 : Nat) := by rw [tinc' (by omega)]; omega
        have ix := ix512 sx hw (by omega) (by omega)
        have vi : vp_in (512 * (v + 1) + w) 3072 := by rw [vp_in_iff]; omega
        rw [if_neg cc, tnN ix]
        obtain ⟨u1, u2⟩ := ih3 (tI T 148 (512 * (x + 1) + k) 1000000) v (w + 1) x (k + 1) r (fr_I rfl f) hv st hx' (by omega) (by omega) (slR_up A5 hr) (fun m hm => by
          by_cases q : m = k
          · subst q
            exact tI_at
          · rw [show (tI T 148 (512 * (x + 1) + k) 1000000).1 148 (512 * (x + 1) + m) = T.1 148 (512 * (x + 1) + m) from tI_off (fun w => q (by have := w.2; omega))]
            exact h1 m (by omega))
        exact ⟨u1, fun w => absurd w cc, fun _ => ⟨vi, u2⟩⟩
    · intro T v w x o r y f hv hw hx' ho' hn hr hN
      have hx : x < E := by omega
      have ho : o ≤ A := by omega
      rw [vl_X11_solve_s3, okl_X11_solve_s3]
      by_cases e : o = A
      · have cc : a ≤ w := by rw [tle]; omega
        rw [if_pos cc]
        have sx : (v + 1).toInt = (x + 1 : Nat) := by rw [tinc' (by omega)]; omega
        obtain ⟨u1, u2⟩ := ih2 T (v + 1) (x + 1) r f sx (by omega) (by omega) (fun m hm => Lsp_end (hN m hm) (fun o' m' h _ _ _ => by show o' < o; omega))
        exact ⟨u1, fun _ => u2, fun w => absurd cc w⟩
      · have cc : ¬ a ≤ w := by rw [tle]; omega
        have st : (w + 1).toInt = (o + 1 : Nat) := by rw [tinc' (by omega)]; omega
        have ix := ix512 hv hw (by omega) (by omega)
        have vi : vp_in (512 * v + w) 2560 := by rw [vp_in_iff]; omega
        have rb : (A - (o + 1)) < A := by omega
        obtain ⟨y, rfl⟩ : ∃ y', y = y' + 1 := ⟨y - 1, by omega⟩
        have skip : ¬ g x o → slF T0 c g A E ((vl_X11_solve n).2.2.2.1 T a v (w + 1)) ∧ (okl_X11_solve n).2.2.2.1 sz T a v (w + 1) := fun ng =>
          ih4 T v (w + 1) x (o + 1) r y f hv st hx' (by omega) (by omega) hr (fun m hm => Lsp_mono (hN m hm) (fun o' m' h _ _ _ h' => by
            show o' < o
            have h : o' < o + 1 := h
            by_cases q : o' = o
            · subst q; exact absurd h' ng
            · omega))
        rw [if_neg cc, tnN ix, q147 T f]
        have ce : (T0.1 147 (512 * x + o)).toInt = c x o := (hc x o).symm
        have mil : (1000000 : Int32).toInt = 1000000 := rfl
        by_cases c1 : (1000000 : Int32) ≤ T0.1 147 (512 * x + o)
        · rw [if_pos c1]
          obtain ⟨u1, u2⟩ := skip (fun w => by
            have := ((hg x o).mp w).1
            rw [tle] at c1
            omega)
          exact ⟨u1, fun w => absurd w cc, fun _ => ⟨vi, fun _ => u2, fun w => absurd c1 w⟩⟩
        · rw [if_neg c1]
          obtain ⟨g1, g2, g3⟩ := e_agrees (sz := sz) (q00 T f) (by rw [q79 T f]; exact hS) S9 hw (by omega) hv (by omega)
          rw [q149 T f] at g1 g2
          by_cases c2 : v_X11_agrees T v w = 0
          · rw [if_pos c2]
            obtain ⟨u1, u2⟩ := skip (fun q => by
              have := g1 ((hg x o).mp q).2
              rw [c2] at this
              exact absurd this (by decide))
            exact ⟨u1, fun w => absurd w cc, fun _ => ⟨vi, fun w => absurd w c1, fun _ => ⟨g3, fun w => absurd c2 w, fun _ => u2⟩⟩⟩
          · rw [if_neg c2]
            have gxo : g x o := by
              rw [hg]
              refine ⟨?_, ?_⟩
              · rw [tle] at c1
                omega
              · exact Classical.byContradiction (fun q => c2 (g2 q))
            have rs : ((a - 1) &&& (w ^^^ (-1))).toInt = ((A - (o + 1) : Nat) : Int) := by
              have := i32_rest (a := a) (by rw [ha, hA]) hw S9 (by rw [← hA]; omega)
              rw [← hA] at this
              exact this
            obtain ⟨u1, u2⟩ := ih5 T v w ((a - 1) &&& (w ^^^ (-1))) ((a - 1) &&& (w ^^^ (-1))) x o r y ((A - (o + 1) : Nat) : Int) f hv hw rs rs hx' (by omega) gxo (by omega) (by omega) (fun t ht => by
              have : t = A - (o + 1) := by omega
              rw [this, Nat.and_self]) (by omega) hr (fun m hm => Lsp_mono (hN m hm) (fun o' m' h h1 h2 h3 h4 => by
              show o' < o
              rcases h with h | ⟨h, hh⟩
              · exact h
              · exfalso
                rw [h] at h3
                rw [hA] at hh
                have z := (rest_sub (by rw [← hA]; omega) (by rw [← hA]; omega)).mp h3
                have := Nat.and_le_right (n := m') (m := 2 ^ S - (o + 1))
                rw [z] at this
                omega))
            exact ⟨u1, fun w => absurd w cc, fun _ => ⟨vi, fun w => absurd w c1, fun _ => ⟨g3, fun _ => u2, fun w => absurd w c2⟩⟩⟩
    · intro T v w u z x o r y s f hv hw hu hz hx' ho' hgo s0 sA hsub hn hr hN
      have hx : x < E := by omega
      have ho : o < A := by omega
      rw [vl_X11_solve_s4, okl_X11_solve_s4]
      have st : (w + 1).toInt = (o + 1 : Nat) := by rw [tinc' (by omega)]; omega
      by_cases e : s = -1
      · have cc : z < 0 := by
          rw [tlt]
          have : (0 : Int32).toInt = 0 := rfl
          omega
        rw [if_pos cc]
        obtain ⟨u1, u2⟩ := ih4 T v (w + 1) x (o + 1) r y f hv st hx' (by omega) (by omega) hr (fun m hm => Lsp_mono (hN m hm) (fun o' m' h _ _ _ _ => by
          have h : o' < o + 1 := h
          show o' < o ∨ (o' = o ∧ s < (m' : Int))
          omega))
        exact ⟨u1, fun _ => u2, fun w => absurd cc w⟩
      · obtain ⟨t, rfl⟩ : ∃ t : Nat, s = t := ⟨s.toNat, by omega⟩
        have cc : ¬ z < 0 := by
          rw [tlt]
          have : (0 : Int32).toInt = 0 := rfl
          omega
        have hs := hsub t rfl
        have sx : (v + 1).toInt = (x + 1 : Nat) := by rw [tinc' (by omega)]; omega
        have io := i32_or hz hw (by omega) (by omega)
        have oA : (t ||| o) < A := by
          rw [hA]
          exact Nat.or_lt_two_pow (by rw [← hA]; omega) (by rw [← hA]; omega)
        have ix1 := ix512 hv hz (by omega) (by omega)
        have ix2 := ix512 hv hw (by omega) (by omega)
        have ix3 := ix512 sx io (by omega) (by omega)
        have v1 : vp_in (512 * v + z) 3072 := by rw [vp_in_iff]; omega
        have v2 : vp_in (512 * v + w) 2560 := by rw [vp_in_iff]; omega
        have v3 : vp_in (512 * (v + 1) + (z ||| w)) 3072 := by rw [vp_in_iff]; omega
        have ot : o &&& t = 0 := by
          rw [rest_sub (S := S) (by rw [← hA]; omega) (by rw [← hA]; omega), ← hA]
          exact hs
        have ce : (T0.1 147 (512 * x + o)).toInt = c x o := (hc x o).symm
        have cb := hc0 x o hx ho
        have Lt := hr t (by omega)
        have Lb := Lst_0 (fun y o hy ho => (hc0 y o (by omega) ho).1) Lt
        rw [if_neg cc, tnN ix1, tnN ix2, tnN ix3, q147 T f]
        have sum : (T.1 148 (512 * x + t) + T0.1 147 (512 * x + o)).toInt = (T.1 148 (512 * x + t)).toInt + c x o := by rw [tadd (by omega) (by omega), ce]
        have fin : ∀ (T1 : tT) (z' : Int32), fr (wl [148] []) T0 T1 → ((t = 0 ∧ z' = -1) ∨ (0 < t ∧ z' = (z - 1) &&& u)) → slR T1 c g A x → slN T1 c g A x (fun o' m' => (o' < o ∨ (o' = o ∧ (t : Int) < (m' : Int))) ∨ (o' = o ∧ m' = t)) → slF T0 c g A E ((vl_X11_solve n).2.2.2.2 T1 a v w u z') ∧ (okl_X11_solve n).2.2.2.2 sz T1 a v w u z' := by
          intro T1 z' f1 hz' hr1 hN1
          rcases hz' with ⟨t0, rfl⟩ | ⟨t0, rfl⟩
          · exact ih5 T1 v w u (-1) x o r y (-1) f1 hv hw hu rfl hx' ho' hgo (by omega) (by omega) (fun t ht => by omega) (by omega) hr1 (fun m hm => Lsp_mono (hN1 m hm) (fun o' m' h _ _ _ _ => by
              have h : o' < o ∨ (o' = o ∧ (-1 : Int) < (m' : Int)) := h
              show (o' < o ∨ (o' = o ∧ (t : Int) < (m' : Int))) ∨ (o' = o ∧ m' = t)
              omega))
          · have z1 : (z - 1).toInt = (t - 1 : Nat) := by
              have : (1 : Int32).toInt = 1 := rfl
              rw [tsub (by omega) (by omega)]
              omega
            have za := i32_and z1 hu (by omega) (by omega)
            have lt := sub_lt (r := A - (o + 1)) t0
            exact ih5 T1 v w u ((z - 1) &&& u) x o r y (((t - 1) &&& (A - (o + 1)) : Nat) : Int) f1 hv hw hu za hx' ho' hgo (by omega) (by omega) (fun t' ht => by
              have : t' = (t - 1) &&& (A - (o + 1)) := by omega
              rw [this, Nat.and_assoc, Nat.and_self]) (by omega) hr1 (fun m hm => Lsp_mono (hN1 m hm) (fun o' m' h h1 h2 h3 h4 => by
              have h : o' < o ∨ (o' = o ∧ (((t - 1) &&& (A - (o + 1)) : Nat) : Int) < (m' : Int)) := h
              show (o' < o ∨ (o' = o ∧ (t : Int) < (m' : Int))) ∨ (o' = o ∧ m' = t)
              rcases h with h | ⟨h, hh⟩
              · exact Or.inl (Or.inl h)
              · by_cases q : m' < t
                · exfalso
                  rw [h] at h3
                  have z := (rest_sub (S := S) (by rw [← hA]; omega) (by rw [← hA]; omega)).mp h3
                  rw [← hA] at z
                  have := sub_next hs z q
                  omega
                · omega))
        have nz : ∀ T1 : tT, fr (wl [148] []) T0 T1 → slR T1 c g A x → slN T1 c g A x (fun o' m' => (o' < o ∨ (o' = o ∧ (t : Int) < (m' : Int))) ∨ (o' = o ∧ m' = t)) → slF T0 c g A E (if z = 0 then (vl_X11_solve n).2.2.2.2 T1 a v w u (-1) else (vl_X11_solve n).2.2.2.2 T1 a v w u ((z - 1) &&& u)) ∧ (¬ z = 0 → (okl_X11_solve n).2.2.2.2 sz T1 a v w u ((z - 1) &&& u)) ∧ (z = 0 → (okl_X11_solve n).2.2.2.2 sz T1 a v w u (-1)) := by
          intro T1 f1 hr1 hN1
          have zz : (0 : Int32).toInt = 0 := rfl
          by_cases z0 : z = 0
          · rw [if_pos z0]
            have t0 : t = 0 := by rw [teq] at z0; omega
            obtain ⟨u1, u2⟩ := fin T1 (-1) f1 (Or.inl ⟨t0, rfl⟩) hr1 hN1
            exact ⟨u1, fun w => absurd z0 w, fun _ => u2⟩
          · rw [if_neg z0]
            have t0 : 0 < t := by rw [teq] at z0; omega
            obtain ⟨u1, u2⟩ := fin T1 ((z - 1) &&& u) f1 (Or.inr ⟨t0, rfl⟩) hr1 hN1
            exact ⟨u1, fun _ => u2, fun w => absurd w z0⟩
        by_cases c1 : T.1 148 (512 * (x + 1) + (t ||| o)) ≤ T.1 148 (512 * x + t) + T0.1 147 (512 * x + o)
        · rw [if_pos c1]
          obtain ⟨u1, u2, u3⟩ := nz T f hr (fun m hm => by
            by_cases q : m = t ||| o
            · have := Lsp_relax (hN m hm) Lt ot ho (by omega) hgo q cb.1
              rw [if_pos (by rw [q]; rw [tle, sum] at c1; exact c1)] at this
              exact this
            · exact Lsp_other (hN m hm) q)
          exact ⟨u1, fun w => absurd w cc, fun _ => ⟨v1, v2, v3, fun _ => ⟨u2, u3⟩, fun w => absurd c1 w⟩⟩
        · rw [if_neg c1]
          obtain ⟨u1, u2, u3⟩ := nz (tI T 148 (512 * (x + 1) + (t ||| o)) (T.1 148 (512 * x + t) + T0.1 147 (512 * x + o))) (fr_I rfl f) (slR_up A5 hr) (fun m hm => by
            by_cases q : m = t ||| o
            · have := Lsp_relax (hN m hm) Lt ot ho (by omega) hgo q cb.1
              rw [if_neg (by rw [q]; rw [tle, sum] at c1; exact c1)] at this
              rw [q]
              rw [show (tI T 148 (512 * (x + 1) + (t ||| o)) (T.1 148 (512 * x + t) + T0.1 147 (512 * x + o))).1 148 (512 * (x + 1) + (t ||| o)) = T.1 148 (512 * x + t) + T0.1 147 (512 * x + o) from tI_at, sum]
              rw [q] at this
              exact this
            · rw [show (tI T 148 (512 * (x + 1) + (t ||| o)) (T.1 148 (512 * x + t) + T0.1 147 (512 * x + o))).1 148 (512 * (x + 1) + m) = T.1 148 (512 * (x + 1) + m) from tI_off (fun w => q (by have := w.2; omega))]
              exact Lsp_other (hN m hm) q)
          exact ⟨u1, fun w => absurd w cc, fun _ => ⟨v1, v2, v3, fun w => absurd w c1, fun _ => ⟨v3, u2, u3⟩⟩⟩
theorem i32_pow {S : Nat} {v : Int32} (hv : v.toInt = S) (S9 : S ≤ 9) : ((1 : Int32) <<< (v &&& 31)).toInt = (2 ^ S : Nat) := by
  have e := nI_self hv (by omega)
  rw [e]
  have : ∀ s ∈ List.range 10, ((1 : Int32) <<< (nI s &&& 31)).toInt = (2 ^ s : Nat) := by decide
  exact this S (List.mem_range.mpr (by omega))
/-- solve: the least sum of a sharing out of all sessions; only row 148 changes -/
theorem r_solve {sz : Nat} {T0 : tT} (hC : ICi T0) {S E A : Nat} (hS : (T0.1 79 2).toInt = S) (hE : (T0.1 79 1).toInt = E) (S9 : S ≤ 9) (E5 : E ≤ 5) (hA : A = 2 ^ S) {c : Nat → Nat → Int} {g : Nat → Nat → Prop} (hc : ∀ y o, c y o = (T0.1 147 (512 * y + o)).toInt) (hc0 : ∀ y o, y < E → o < A → 0 ≤ c y o ∧ c y o ≤ 1000000) (hg : ∀ y o, g y o ↔ c y o < 1000000 ∧ agr (T0.1 149) S y o) : slF T0 c g A E (F_X11_solve T0) ∧ ok_X11_solve sz T0 := by
  have q : T0.1 105 58 = T0.1 79 2 := hC.1.2.2
  have A5 : A ≤ 512 := by
    rw [hA]
    exact Nat.pow_le_pow_right (n := 2) (by decide) S9
  unfold F_X11_solve ok_X11_solve
  rw [q]
  obtain ⟨K, hK⟩ : ∃ K : Nat, K = 270000 := ⟨_, rfl⟩
  exact (e_solve (sz := sz) hC hS hE S9 E5 hA (by rw [hA]; exact i32_pow hS S9) K (by omega) hc hc0 hg fu).1 T0 0 0 fr_refl rfl (by omega) (by
    rw [fu_eq]
    have := Nat.mul_le_mul_right K E5
    omega) (fun m hm => absurd hm (Nat.not_lt_zero _))
