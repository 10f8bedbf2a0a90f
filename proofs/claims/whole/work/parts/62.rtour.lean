/-! the reference's tour -/
abbrev cMt : List Nat × List (Nat × Nat) := ([80, 82, 83, 84, 131, 134, 136, 138, 144, 151, 152, 156], [(105, 48), (105, 70)])
theorem hH_fz {T T' : tT} (f : fz cMt.1 cMt.2 T T') (x y : Int32) : ∀ (n : Nat) (v : Int32), vl_X11_hasHeard n T' x y v = vl_X11_hasHeard n T x y v := by
  intro n
  induction n with
  | zero => intro v; rfl
  | succ n ih =>
    intro v
    rw [vl_X11_hasHeard_s, vl_X11_hasHeard_s, fz_i f 105 70 rfl, fz_r f 152 rfl, fz_r f 156 rfl, fz_r f 151 rfl, fz_r f 131 rfl, ih]
theorem mT_fz {T T' : tT} (f : fz cMt.1 cMt.2 T T') (x y : Int32) : v_X11_mayTake T' x y = v_X11_mayTake T x y := by
  have h : ∀ (n : Nat) (v : Int32), vl_X11_mayTake n T' x y v = vl_X11_mayTake n T x y v := by
    intro n
    induction n with
    | zero => intro v; rfl
    | succ n ih =>
      intro v
      have e : v_X11_hasHeard T' x v = v_X11_hasHeard T x v := hH_fz f x v fu 0
      rw [vl_X11_mayTake_s, vl_X11_mayTake_s, fz_i f 105 48 rfl, fz_r f 138 rfl, fz_r f 144 rfl, fz_r f 134 rfl, fz_r f 136 rfl, ih, e]
  exact h fu 0
theorem dy_fz {T T' : tT} (f : fz cMt.1 cMt.2 T T') : dy T' = dy T := by
  unfold dy
  rw [fz_r f 83 rfl]
theorem trv_fz {T T' : tT} (f : fz cMt.1 cMt.2 T T') : trv T' = trv T := by
  unfold trv nx sav dy wy pl hm
  rw [fz_r f 80 rfl, fz_r f 82 rfl, fz_r f 83 rfl, fz_r f 84 rfl]
theorem vst_fz {T T' : tT} (f : fz cMt.1 cMt.2 T T') : vst T' = vst T := by
  funext S x m
  unfold vst
  rw [dy_fz f]
  exact propext ⟨fun h s hs hb => by rw [← mT_fz f]; exact h s hs hb, fun h s hs hb => by rw [mT_fz f]; exact h s hs hb⟩
theorem VA_fz {T T' : tT} (f : fz cMt.1 cMt.2 T T') : VA T' = VA T := by
  funext S E g
  unfold VA
  rw [dy_fz f]
  exact propext ⟨fun h s hs => by rw [← mT_fz f]; exact h s hs, fun h s hs => by rw [mT_fz f]; exact h s hs⟩
theorem WA_fz {T T' : tT} (f : fz cMt.1 cMt.2 T T') : WA T' = WA T := by
  unfold WA
  rw [trv_fz f]
/-- the first of the best -/
def opt (T : tT) (S E : Nat) (f : Nat → Nat) : Prop := VA T S E f ∧ ∀ f', VA T S E f' → WA T S E f ≤ WA T S E f' ∧ (WA T S E f = WA T S E f' → ∀ s, s < S → (∀ t, t < s → f t = f' t) → f s ≤ f' s)
def trG (T0 : tT) (S E : Nat) (f : Nat → Nat) (r : Int32 × tT) : Prop := fr (wl [147, 148, 149, 150] [(105, 63)]) T0 r.2 ∧ ((∀ f, ¬ VA T0 S E f) → r.1 = -2 ∧ r.2.1 150 = T0.1 150 ∧ r.2.1 105 63 = T0.1 105 63) ∧ (opt T0 S E f → r.1.toInt = WA T0 S E f ∧ r.2.1 105 63 = T0.1 79 2 ∧ ∀ s, s < S → r.2.1 150 s = nI (f s))
theorem cst_up {T0 T T' : tT} {S E : Nat} (h : T'.1 147 = T.1 147) (hc : cst T0 T S E) : cst T0 T' S E := by
  unfold cst
  rw [h]
  exact hc
set_option maxRecDepth 20000 in
theorem l_rtour {sz : Nat} {T0 : tT} (hC : ICi T0) (hL : ILe T0) (hE' : IEn T0) {S E : Nat} (hS : (T0.1 79 2).toInt = S) (hE : (T0.1 79 1).toInt = E) (S9 : S ≤ 9) (E5 : E ≤ 5) (f : Nat → Nat) (hy : (∀ f, ¬ VA T0 S E f) ∨ opt T0 S E f) : ∀ n : Nat,
  (∀ (T : tT) (v : Int32) (x : Nat), fr (wl [147] []) T0 T → v.toInt = x → x ≤ E → (E - x) * 600 + 200 < n → cst T0 T S x → trG T0 S E f ((vl_X11_tour n).1 T v) ∧ (okl_X11_tour n).1 sz T v) ∧
  (∀ (T : tT) (v : Int32) (k : Nat), fr (wl [147, 149] []) T0 T → v.toInt = k → k ≤ 9 → (9 - k) + 180 < n → cst T0 T S E → (∀ t, t < k → T.1 149 t = -1) → trG T0 S E f ((vl_X11_tour n).2.1 T v) ∧ (okl_X11_tour n).2.1 sz T v) ∧
  (∀ (T : tT) (v w : Int32) (x k : Nat), fr (wl [147] []) T0 T → v.toInt = x → w.toInt = k → x < E → k ≤ 2 ^ S → (E - x - 1) * 600 + 200 + (2 ^ S - k) + 2 < n → cst T0 T S x → (∀ o, o < k → (vst T0 S x o → (T.1 147 (512 * x + o)).toInt = trv T0 S x (bts o) ∧ 0 ≤ trv T0 S x (bts o) ∧ trv T0 S x (bts o) ≤ 130000) ∧ (¬ vst T0 S x o → T.1 147 (512 * x + o) = 1000000)) → trG T0 S E f ((vl_X11_tour n).2.2.1 T v w) ∧ (okl_X11_tour n).2.2.1 sz T v w) ∧
  (∀ (T : tT) (b v : Int32) (s : Nat), opt T0 S E f → fr (wl [147, 148, 149] []) T0 T → b.toInt = WA T0 S E f → v.toInt = s → s ≤ S → (S - s) * 10 + 20 < n → cst T0 T S E → (∀ t, t < s → T.1 149 t = nI (f t)) → (∀ t, s ≤ t → t < 9 → T.1 149 t = -1) → trG T0 S E f ((vl_X11_tour n).2.2.2.1 T b v) ∧ (okl_X11_tour n).2.2.2.1 sz T b v) ∧
  (∀ (T : tT) (b v : Int32) (k : Nat), opt T0 S E f → fr (wl [147, 148, 149, 150] [(105, 63)]) T0 T → b.toInt = WA T0 S E f → v.toInt = k → k ≤ S → (S - k) + 1 < n → T.1 105 63 = T0.1 79 2 → (∀ t, t < S → T.1 149 t = nI (f t)) → (∀ t, t < k → T.1 150 t = nI (f t)) → trG T0 S E f ((vl_X11_tour n).2.2.2.2.1 T b v) ∧ (okl_X11_tour n).2.2.2.2.1 sz T b v) ∧
  (∀ (T : tT) (b v : Int32) (s j : Nat), opt T0 S E f → fr (wl [147, 148, 149] []) T0 T → b.toInt = WA T0 S E f → v.toInt = s → s < S → j ≤ f s → (S - s - 1) * 10 + 21 + (f s - j) < n → cst T0 T S E → (∀ t, t < s → T.1 149 t = nI (f t)) → T.1 149 s = nI j → (∀ t, s < t → t < 9 → T.1 149 t = -1) → trG T0 S E f ((vl_X11_tour n).2.2.2.2.2 T b v) ∧ (okl_X11_tour n).2.2.2.2.2 sz T b v) := by
  have A5 : 2 ^ S ≤ 512 := Nat.pow_le_pow_right (n := 2) (by decide) S9
  have A1 : 0 < 2 ^ S := Nat.pow_pos (by decide)
  have W : ∀ T, fr (wl [147, 148, 149, 150] [(105, 63)]) T0 T → ICi T ∧ ILe T ∧ IEn T ∧ T.1 79 1 = T0.1 79 1 ∧ T.1 79 2 = T0.1 79 2 ∧ T.1 105 57 = T0.1 79 1 ∧ T.1 105 58 = T0.1 79 2 ∧ fz cMt.1 cMt.2 T0 T := fun T f => ⟨ICi_fz (fz_of f rfl) hC, ILe_fz (fz_of f rfl) hL, IEn_fz (fz_of f rfl) hE', fr_i f (k := 79) (i := 1) rfl, fr_i f (k := 79) (i := 2) rfl, (fr_i f (k := 105) (i := 57) rfl).trans hC.1.2.1, (fr_i f (k := 105) (i := 58) rfl).trans hC.1.2.2, fz_of f rfl⟩
  have sv : ∀ T, fr (wl [147, 148, 149] []) T0 T → cst T0 T S E → fr (wl [148] []) T (F_X11_solve T).2 ∧ ok_X11_solve sz T ∧ (∀ f, VA T0 S E f → cpt (T.1 149) S f → (F_X11_solve T).1.toInt ≤ WA T0 S E f ∧ 0 ≤ WA T0 S E f ∧ WA T0 S E f < 1000000) ∧ ((F_X11_solve T).1.toInt < 1000000 → ∃ f, VA T0 S E f ∧ cpt (T.1 149) S f ∧ (F_X11_solve T).1.toInt = WA T0 S E f) := by
    intro T f hc
    obtain ⟨w1, w2, w3, w4, w5, _⟩ := W T (fr_mono rfl f)
    exact s_solve w1 (by rw [w5]; exact hS) (by rw [w4]; exact hE) S9 E5 hc
  have mil : (1000000 : Int32).toInt = 1000000 := rfl
  have f5 : opt T0 S E f → ∀ s, s < S → f s < 5 := fun h s hs => by
    have := (h.1 s hs).1
    omega
  intro n
  induction n with
  | zero => exact ⟨fun _ _ _ _ _ _ h => absurd h (Nat.not_lt_zero _), fun _ _ _ _ _ _ h => absurd h (Nat.not_lt_zero _), fun _ _ _ _ _ _ _ _ _ _ h => absurd h (Nat.not_lt_zero _), fun _ _ _ _ _ _ _ _ _ h => absurd h (Nat.not_lt_zero _), fun _ _ _ _ _ _ _ _ _ h => absurd h (Nat.not_lt_zero _), fun _ _ _ _ _ _ _ _ _ _ _ h => absurd h (Nat.not_lt_zero _)⟩
  | succ n ih =>
    obtain ⟨ih1, ih2, ih3, ih4, ih5, ih6⟩ := ih
    refine ⟨?_, ?_, ?_, ?_, ?_, ?_⟩
    · intro T v x fT hv hx hn hc
      obtain ⟨w1, w2, w3, w4, w5, w6, w7, w8⟩ := W T (fr_mono rfl fT)
      rw [vl_X11_tour_s0, okl_X11_tour_s0, w6]
      by_cases e : x = E
      · have cc : T0.1 79 1 ≤ v := by rw [tle]; omega
        rw [if_pos cc]
        obtain ⟨u1, u2⟩ := ih2 T 0 0 (fr_mono rfl fT) rfl (by omega) (by omega) (by rw [← e]; exact hc) (fun t h => absurd h (Nat.not_lt_zero _))
        exact ⟨u1, fun _ => u2, fun w => absurd cc w⟩
      · have cc : ¬ T0.1 79 1 ≤ v := by rw [tle]; omega
        rw [if_neg cc]
        obtain ⟨u1, u2⟩ := ih3 T v 0 x 0 fT hv rfl (by omega) (by omega) (by omega) hc (fun o h => absurd h (Nat.not_lt_zero _))
        exact ⟨u1, fun w => absurd w cc, fun _ => u2⟩
    · intro T v k fT hv hk hn hc h1
      rw [vl_X11_tour_s1, okl_X11_tour_s1]
      have z9 : (9 : Int32).toInt = 9 := rfl
      by_cases e : k = 9
      · have cc : (9 : Int32) ≤ v := by rw [tle]; omega
        rw [if_pos cc]
        obtain ⟨s1, s2, s3, s4⟩ := sv T (fr_mono rfl fT) hc
        have cp : ∀ g, cpt (T.1 149) S g := fun g s hs h0 => by
          rw [h1 s (by omega)] at h0
          exact absurd h0 (by decide)
        rcases hy with hy | hy
        · have lt : ¬ (F_X11_solve T).1 < 1000000 := by
            rw [tlt, mil]
            intro q
            obtain ⟨g, g1, _⟩ := s4 q
            exact hy g g1
          rw [if_neg lt]
          have ff : fr (wl [147, 148, 149] []) T0 (F_X11_solve T).2 := fr_trans (fr_mono rfl fT) (fr_mono rfl s1)
          refine ⟨⟨fr_mono rfl ff, fun _ => ⟨rfl, fr_ri ff (k := 150) (fun _ => rfl), fr_i ff (k := 105) (i := 63) rfl⟩, fun h => absurd h.1 (hy f)⟩, fun _ => ⟨s2, fun w => absurd w lt, fun _ => trivial⟩, fun w => absurd cc w⟩
        · have b3 := s3 f hy.1 (cp f)
          have lt : (F_X11_solve T).1 < 1000000 := by
            rw [tlt, mil]
            omega
          rw [if_pos lt]
          rw [tlt, mil] at lt
          obtain ⟨g, g1, g2, g3⟩ := s4 lt
          have := (hy.2 g g1).1
          obtain ⟨u1, u2⟩ := ih4 (F_X11_solve T).2 (F_X11_solve T).1 0 0 hy (fr_trans (fr_mono rfl fT) (fr_mono rfl s1)) (by omega) rfl (by omega) (by omega) (cst_up (fr_ri s1 (k := 147) (fun _ => rfl)) hc) (fun t h => absurd h (Nat.not_lt_zero _)) (fun t _ ht => by
            rw [fr_ri s1 (k := 149) (fun _ => rfl)]
            exact h1 t (by omega))
          exact ⟨u1, fun _ => ⟨s2, fun _ => u2, fun _ => trivial⟩, fun w => absurd cc w⟩
      · have cc : ¬ (9 : Int32) ≤ v := by rw [tle]; omega
        have st : (v + 1).toInt = (k + 1 : Nat) := by rw [tinc' (by omega)]; omega
        have v9 : vp_in v 9 := by rw [vp_in_iff]; omega
        rw [if_neg cc, tnN hv]
        obtain ⟨u1, u2⟩ := ih2 (tI T 149 k (-1)) (v + 1) (k + 1) (fr_I rfl fT) st (by omega) (by omega) (cst_up rfl hc) (fun t ht => by
          by_cases q : t = k
          · subst q; exact tI_at
          · rw [show (tI T 149 k (-1)).1 149 t = T.1 149 t from tI_off (fun w => q w.2)]
            exact h1 t (by omega))
        exact ⟨u1, fun w => absurd w cc, fun _ => ⟨v9, u2⟩⟩
    · intro T v w x k fT hv hw hx hk hn hc hr
      obtain ⟨w1, w2, w3, w4, w5, w6, w7, w8⟩ := W T (fr_mono rfl fT)
      have pw := i32_pow hS S9
      rw [vl_X11_tour_s2, okl_X11_tour_s2, w7]
      by_cases e : k = 2 ^ S
      · have cc : (1 : Int32) <<< ((T0.1 79 2) &&& 31) ≤ w := by rw [tle, pw]; omega
        rw [if_pos cc]
        have sx : (v + 1).toInt = (x + 1 : Nat) := by rw [tinc' (by omega)]; omega
        obtain ⟨u1, u2⟩ := ih1 T (v + 1) (x + 1) fT sx (by omega) (by omega) (fun y o hy ho => by
          by_cases q : y = x
          · subst q
            exact hr o (by omega)
          · exact hc y o (by omega) ho)
        exact ⟨u1, fun _ => u2, fun w => absurd cc w⟩
      · have cc : ¬ (1 : Int32) <<< ((T0.1 79 2) &&& 31) ≤ w := by rw [tle, pw]; omega
        have st : (w + 1).toInt = (k + 1 : Nat) := by rw [tinc' (by omega)]; omega
        have ix := ix512 hv hw (by omega) (by omega)
        have vi : vp_in (512 * v + w) 2560 := by rw [vp_in_iff]; omega
        rw [if_neg cc, tnN ix]
        obtain ⟨t1, t2, t3⟩ := e_travel (sz := sz) w1 w2 w3 (by rw [w5]; exact hS) S9 hw (by omega) hv (by omega)
        rw [vst_fz w8, trv_fz w8] at t1
        rw [vst_fz w8] at t2
        obtain ⟨u1, u2⟩ := ih3 (tI T 147 (512 * x + k) (v_X11_travel T v w)) v (w + 1) x (k + 1) (fr_I rfl fT) hv st hx (by omega) (by omega) (fun y o hy ho => by
          rw [show (tI T 147 (512 * x + k) (v_X11_travel T v w)).1 147 (512 * y + o) = T.1 147 (512 * y + o) from tI_off (fun q => by have := q.2; omega)]
          exact hc y o hy ho) (fun o ho => by
          by_cases q : o = k
          · subst q
            rw [show (tI T 147 (512 * x + o) (v_X11_travel T v w)).1 147 (512 * x + o) = v_X11_travel T v w from tI_at]
            exact ⟨t1, t2⟩
          · rw [show (tI T 147 (512 * x + k) (v_X11_travel T v w)).1 147 (512 * x + o) = T.1 147 (512 * x + o) from tI_off (fun z => q (by have := z.2; omega))]
            exact hr o (by omega))
        exact ⟨u1, fun w => absurd w cc, fun _ => ⟨t3, vi, u2⟩⟩
    · intro T b v s ho fT hb hv hs hn hc h1 h2
      obtain ⟨w1, w2, w3, w4, w5, w6, w7, w8⟩ := W T (fr_mono rfl fT)
      rw [vl_X11_tour_s3, okl_X11_tour_s3, w7]
      by_cases e : s = S
      · have cc : T0.1 79 2 ≤ v := by rw [tle]; omega
        rw [if_pos cc]
        obtain ⟨u1, u2⟩ := ih5 (tI T 105 63 (T0.1 79 2)) b 0 0 ho (fr_I rfl (fr_mono rfl fT)) hb rfl (by omega) (by omega) tI_at (fun t ht => h1 t (by omega)) (fun t h => absurd h (Nat.not_lt_zero _))
        exact ⟨u1, fun _ => u2, fun w => absurd cc w⟩
      · have cc : ¬ T0.1 79 2 ≤ v := by rw [tle]; omega
        have v9 : vp_in v 9 := by rw [vp_in_iff]; omega
        have := f5 ho s (by omega)
        rw [if_neg cc, tnN hv]
        obtain ⟨u1, u2⟩ := ih6 (tI T 149 s 0) b v s 0 ho (fr_I rfl fT) hb hv (by omega) (by omega) (by omega) (cst_up rfl hc) (fun t ht => by
          rw [show (tI T 149 s 0).1 149 t = T.1 149 t from tI_off (fun z => by have := z.2; omega)]
          exact h1 t ht) tI_at (fun t t1 t2 => by
          rw [show (tI T 149 s 0).1 149 t = T.1 149 t from tI_off (fun z => by have := z.2; omega)]
          exact h2 t (by omega) t2)
        exact ⟨u1, fun w => absurd w cc, fun _ => ⟨v9, u2⟩⟩
    · intro T b v k ho fT hb hv hk hn h0 h1 h2
      obtain ⟨w1, w2, w3, w4, w5, w6, w7, w8⟩ := W T fT
      rw [vl_X11_tour_s4, okl_X11_tour_s4, w7]
      by_cases e : k = S
      · have cc : T0.1 79 2 ≤ v := by rw [tle]; omega
        rw [if_pos cc]
        exact ⟨⟨fT, fun h => absurd ho.1 (h f), fun _ => ⟨hb, h0, fun s hs => h2 s (by omega)⟩⟩, fun _ => trivial, fun w => absurd cc w⟩
      · have cc : ¬ T0.1 79 2 ≤ v := by rw [tle]; omega
        have v9 : vp_in v 9 := by rw [vp_in_iff]; omega
        have st : (v + 1).toInt = (k + 1 : Nat) := by rw [tinc' (by omega)]; omega
        rw [if_neg cc, tnN hv]
        obtain ⟨u1, u2⟩ := ih5 (tI T 150 k (T.1 149 k)) b (v + 1) (k + 1) ho (fr_I rfl fT) hb st (by omega) (by omega) h0 (fun t ht => h1 t ht) (fun t ht => by
          by_cases q : t = k
          · subst q
            rw [show (tI T 150 t (T.1 149 t)).1 150 t = T.1 149 t from tI_at]
            exact h1 t (by omega)
          · rw [show (tI T 150 k (T.1 149 k)).1 150 t = T.1 150 t from tI_off (fun z => q z.2)]
            exact h2 t (by omega))
        exact ⟨u1, fun w => absurd w cc, fun _ => ⟨v9, v9, u2⟩⟩
    · intro T b v s j ho fT hb hv hs hj hn hc h1 h2 h3
      rw [vl_X11_tour_s5, okl_X11_tour_s5]
      obtain ⟨s1, s2, s3, s4⟩ := sv T fT hc
      have fs := f5 ho s hs
      have v9 : vp_in v 9 := by rw [vp_in_iff]; omega
      have f149 : (F_X11_solve T).2.1 149 = T.1 149 := fr_ri s1 (k := 149) (fun _ => rfl)
      have f147 : (F_X11_solve T).2.1 147 = T.1 147 := fr_ri s1 (k := 147) (fun _ => rfl)
      have ff : fr (wl [147, 148, 149] []) T0 (F_X11_solve T).2 := fr_trans fT (fr_mono rfl s1)
      have bnd : 0 ≤ WA T0 S E f ∧ WA T0 S E f < 1000000 := by
        have := (F_X11_solve T).1.toInt
        obtain ⟨q1, q2, q3, q4⟩ := sv (tI (tI (tI (tI (tI (tI (tI (tI (tI T 149 0 (-1)) 149 1 (-1)) 149 2 (-1)) 149 3 (-1)) 149 4 (-1)) 149 5 (-1)) 149 6 (-1)) 149 7 (-1)) 149 8 (-1)) (fr_I rfl (fr_I rfl (fr_I rfl (fr_I rfl (fr_I rfl (fr_I rfl (fr_I rfl (fr_I rfl (fr_I rfl fT))))))))) (cst_up rfl hc)
        refine (q3 f ho.1 ?_).2
        intro t ht h0
        exfalso
        have : t = 0 ∨ t = 1 ∨ t = 2 ∨ t = 3 ∨ t = 4 ∨ t = 5 ∨ t = 6 ∨ t = 7 ∨ t = 8 := by omega
        rcases this with rfl | rfl | rfl | rfl | rfl | rfl | rfl | rfl | rfl <;> exact absurd h0 (by show ¬ (0 : Int32) ≤ -1; decide)
      by_cases c : (F_X11_solve T).1 = b
      · rw [if_pos c]
        have lt : (F_X11_solve T).1.toInt < 1000000 := by rw [c]; omega
        obtain ⟨g, g1, g2, g3⟩ := s4 lt
        have gp : ∀ t, t < s → f t = g t := by
          intro t ht
          have k1 := h1 t ht
          have k2 := f5 ho t (by omega)
          have k3 := (g1 t (by omega)).1
          have := g2 t (by omega) (by rw [k1, tle, nI_toInt (by omega), show (0 : Int32).toInt = 0 from rfl]; omega)
          rw [k1] at this
          exact nI_inj (by omega) (by omega) this
        have gs : g s = j := by
          have k3 := (g1 s hs).1
          have := g2 s hs (by rw [h2, tle, nI_toInt (by omega), show (0 : Int32).toInt = 0 from rfl]; omega)
          rw [h2] at this
          exact (nI_inj (by omega) (by omega) this).symm
        have le := (ho.2 g g1).2 (by rw [← g3, c, hb]) s hs gp
        have jf : j = f s := by omega
        have st : (v + 1).toInt = (s + 1 : Nat) := by rw [tinc' (by omega)]; omega
        obtain ⟨u1, u2⟩ := ih4 (F_X11_solve T).2 b (v + 1) (s + 1) ho ff hb st (by omega) (by omega) (cst_up f147 hc) (fun t ht => by
          rw [f149]
          by_cases q : t = s
          · rw [q, h2, jf]
          · exact h1 t (by omega)) (fun t t1 t2 => by
          rw [f149]
          exact h3 t (by omega) t2)
        exact ⟨u1, s2, fun _ => u2, fun w => absurd c w⟩
      · rw [if_neg c]
        have jf : j ≠ f s := by
          intro q
          apply c
          have cp : cpt (T.1 149) S f := by
            intro t ht h0
            rcases Nat.lt_trichotomy t s with z | z | z
            · exact h1 t z
            · rw [z, h2, q]
            · rw [h3 t z (by omega)] at h0
              exact absurd h0 (by decide)
          have k := s3 f ho.1 cp
          obtain ⟨g, g1, g2, g3⟩ := s4 (by omega)
          have := (ho.2 g g1).1
          rw [teq]
          omega
        have e1 : (nI j + 1 : Int32) = nI (j + 1) := by
          rw [teq, tinc' (by rw [nI_toInt (by omega)]; omega), nI_toInt (by omega), nI_toInt (by omega)]
          omega
        rw [tnN hv, f149, h2, e1]
        obtain ⟨u1, u2⟩ := ih6 (tI (F_X11_solve T).2 149 s (nI (j + 1))) b v s (j + 1) ho (fr_I rfl ff) hb hv hs (by omega) (by omega) (cst_up f147 hc) (fun t ht => by
          rw [show (tI (F_X11_solve T).2 149 s (nI (j + 1))).1 149 t = (F_X11_solve T).2.1 149 t from tI_off (fun z => by have := z.2; omega), f149]
          exact h1 t ht) tI_at (fun t t1 t2 => by
          rw [show (tI (F_X11_solve T).2 149 s (nI (j + 1))).1 149 t = (F_X11_solve T).2.1 149 t from tI_off (fun z => by have := z.2; omega), f149]
          exact h3 t t1 t2)
        exact ⟨u1, s2, fun w => absurd w c, fun _ => ⟨v9, v9, u2⟩⟩
theorem e_rtour {sz : Nat} {T0 : tT} (hC : ICi T0) (hL : ILe T0) (hE' : IEn T0) {S E : Nat} (hS : (T0.1 79 2).toInt = S) (hE : (T0.1 79 1).toInt = E) (S9 : S ≤ 9) (E5 : E ≤ 5) (f : Nat → Nat) (hy : (∀ f, ¬ VA T0 S E f) ∨ opt T0 S E f) : trG T0 S E f (F_X11_tour T0) ∧ ok_X11_tour sz T0 := (l_rtour (sz := sz) hC hL hE' hS hE S9 E5 f hy fu).1 T0 0 0 fr_refl rfl (by omega) (by rw [fu_eq]; omega) (fun y o h => absurd h (Nat.not_lt_zero _))
