/-! the class's tour: what is allowed, and the order of the days -/
theorem mT_01 (T : tT) (x y : Int32) : v_X11_mayTake T x y = 0 ∨ v_X11_mayTake T x y = 1 := by
  have h : ∀ (n : Nat) (v : Int32), vl_X11_mayTake n T x y v = 0 ∨ vl_X11_mayTake n T x y v = 1 := by
    intro n
    induction n with
    | zero => intro v; exact Or.inl rfl
    | succ n ih =>
      intro v
      rw [vl_X11_mayTake_s]
      split
      · exact Or.inr rfl
      · split
        · split
          · exact Or.inl rfl
          · split
            · exact Or.inl rfl
            · split
              · exact ih _
              · exact Or.inl rfl
        · exact ih _
  exact h fu 0
/-- the row of what is allowed -/
def alw (T0 T : tT) (s x : Nat) : Prop := T.1 87 (5 * s + x) = 0 ↔ v_X11_mayTake T0 (nI x) (nI s) = 0
theorem ix5 {x y : Int32} {a b : Nat} (hx : x.toInt = a) (hy : y.toInt = b) (ha : a < 9) (hb : b < 5) : (x * 5 + y).toInt = (5 * a + b : Nat) := by
  have z : (5 : Int32).toInt = 5 := rfl
  have m : (x * (5 : Int32)).toInt = 5 * a := by rw [tmul (by rw [z]; omega) (by rw [z]; omega), z, hx]; omega
  rw [tadd (by omega) (by omega)]
  omega
theorem l_allow {sz : Nat} {T0 : tT} (hC : ICi T0) (hL : ILe T0) (hE' : IEn T0) {S E : Nat} (hS : (T0.1 79 2).toInt = S) (hE : (T0.1 79 1).toInt = E) (S9 : S ≤ 9) (E5 : E ≤ 5) {Q : (Int32 × tT) → Prop} (hQ : ∀ T, fr (wl [87] []) T0 T → (∀ s x, s < S → x < E → alw T0 T s x) → Q (F_X7_plan T) ∧ ok_X7_plan sz T) : ∀ n : Nat,
  (∀ (T : tT) (v : Int32) (s : Nat), fr (wl [87] []) T0 T → v.toInt = s → s ≤ S → (S - s) * 10 + 2 < n → (∀ t x, t < s → x < E → alw T0 T t x) → Q ((vl_X10_tour n).1 T v) ∧ (okl_X10_tour n).1 sz T v) ∧
  (∀ (T : tT) (v w : Int32) (s k : Nat), fr (wl [87] []) T0 T → v.toInt = s → w.toInt = k → s < S → k ≤ E → (S - s - 1) * 10 + 3 + (E - k) < n → (∀ t x, t < s → x < E → alw T0 T t x) → (∀ x, x < k → alw T0 T s x) → Q ((vl_X10_tour n).2 T v w) ∧ (okl_X10_tour n).2 sz T v w) := by
  intro n
  induction n with
  | zero => exact ⟨fun _ _ _ _ _ _ h => absurd h (Nat.not_lt_zero _), fun _ _ _ _ _ _ _ _ _ _ h => absurd h (Nat.not_lt_zero _)⟩
  | succ n ih =>
    obtain ⟨ih1, ih2⟩ := ih
    refine ⟨?_, ?_⟩
    · intro T v s fT hv hs hn hc
      rw [vl_X10_tour_s0, okl_X10_tour_s0, fr_i fT (k := 79) (i := 2) rfl]
      by_cases e : s = S
      · have cc : T0.1 79 2 ≤ v := by rw [tle]; omega
        rw [if_pos cc]
        obtain ⟨u1, u2⟩ := hQ T fT (fun t x ht hx => hc t x (by omega) hx)
        exact ⟨u1, fun _ => ⟨u2, trivial⟩, fun w => absurd cc w⟩
      · have cc : ¬ T0.1 79 2 ≤ v := by rw [tle]; omega
        rw [if_neg cc]
        obtain ⟨u1, u2⟩ := ih2 T v 0 s 0 fT hv rfl (by omega) (by omega) (by omega) hc (fun x h => absurd h (Nat.not_lt_zero _))
        exact ⟨u1, fun w => absurd w cc, fun _ => u2⟩
    · intro T v w s k fT hv hw hs hk hn hc hr
      rw [vl_X10_tour_s1, okl_X10_tour_s1, fr_i fT (k := 79) (i := 1) rfl]
      by_cases e : k = E
      · have cc : T0.1 79 1 ≤ w := by rw [tle]; omega
        rw [if_pos cc]
        have st : (v + 1).toInt = (s + 1 : Nat) := by rw [tinc' (by omega)]; omega
        obtain ⟨u1, u2⟩ := ih1 T (v + 1) (s + 1) fT st (by omega) (by omega) (fun t x ht hx => by
          by_cases q : t = s
          · subst q; exact hr x (by omega)
          · exact hc t x (by omega) hx)
        exact ⟨u1, fun _ => u2, fun w => absurd cc w⟩
      · have cc : ¬ T0.1 79 1 ≤ w := by rw [tle]; omega
        have st : (w + 1).toInt = (k + 1 : Nat) := by rw [tinc' (by omega)]; omega
        have ix := ix5 hv hw (by omega) (by omega)
        have vi : vp_in (v * 5 + w) 45 := by rw [vp_in_iff]; omega
        have v5 : vp_in w 5 := by rw [vp_in_iff]; omega
        have w0 : 0 ≤ w := by rw [tle, show (0 : Int32).toInt = 0 from rfl]; omega
        have w5 : w < 5 := by rw [tlt, show (5 : Int32).toInt = 5 from rfl]; omega
        have LT : ILe T := ILe_fz (fz_of fT rfl) hL
        have ET : IEn T := IEn_fz (fz_of fT rfl) hE'
        have CT : ICi T := ICi_fz (fz_of fT rfl) hC
        have me : v_X10_mayTake T w v = v_X11_mayTake T0 (nI k) (nI s) := by
          rw [e_mayTake LT ET CT w v w0 w5, mT_fz (fz_of fT rfl), nI_self hw (by omega), nI_self hv (by omega)]
        have ok1 := k_mayTake10 (sz := sz) LT ET w v v5
        rw [if_neg cc]
        unfold F_X7_allow
        rw [tnN ix, me]
        have al : alw T0 (tI T 87 (5 * s + k) (v_X11_mayTake T0 (nI k) (nI s) &&& 1)) s k := by
          unfold alw
          rw [show (tI T 87 (5 * s + k) (v_X11_mayTake T0 (nI k) (nI s) &&& 1)).1 87 (5 * s + k) = v_X11_mayTake T0 (nI k) (nI s) &&& 1 from tI_at]
          rcases mT_01 T0 (nI k) (nI s) with q | q <;> rw [q] <;> decide
        have off : ∀ t x, x < 5 → ¬ (t = s ∧ x = k) → alw T0 T t x → alw T0 (tI T 87 (5 * s + k) (v_X11_mayTake T0 (nI k) (nI s) &&& 1)) t x := by
          intro t x hx ne h
          unfold alw
          rw [show (tI T 87 (5 * s + k) (v_X11_mayTake T0 (nI k) (nI s) &&& 1)).1 87 (5 * t + x) = T.1 87 (5 * t + x) from tI_off (fun z => ne (by have := z.2; omega))]
          exact h
        obtain ⟨u1, u2⟩ := ih2 (tI T 87 (5 * s + k) (v_X11_mayTake T0 (nI k) (nI s) &&& 1)) v (w + 1) s (k + 1) (fr_I rfl fT) hv st hs (by omega) (by omega) (fun t x ht hx => off t x (by omega) (by omega) (hc t x ht hx)) (fun x hx => by
          by_cases q : x = k
          · subst q; exact al
          · exact off s x (by omega) (by omega) (hr x (by omega)))
        exact ⟨u1, fun w => absurd w cc, fun _ => ⟨ok1, vi, u2⟩⟩
/-- o puts the sessions below k in the order of their days -/
def Ord (T : tT) (k : Nat) (o : Nat → Nat) : Prop := (∀ p, p < k → o p < k) ∧ (∀ s, s < k → ∃ p, p < k ∧ o p = s) ∧ (∀ p q, p < k → q < k → o p = o q → p = q) ∧ (∀ p q, p ≤ q → q < k → dy T (o p) ≤ dy T (o q))
def ins (o : Nat → Nat) (k j p : Nat) : Nat := if p < j then o p else if p = j then k else o (p - 1)
theorem ins_lt {o : Nat → Nat} {k j p : Nat} (h : p < j) : ins o k j p = o p := if_pos h
theorem ins_at {o : Nat → Nat} {k j : Nat} : ins o k j j = k := by unfold ins; rw [if_neg (Nat.lt_irrefl j), if_pos rfl]
theorem ins_gt {o : Nat → Nat} {k j p : Nat} (h : j < p) : ins o k j p = o (p - 1) := by unfold ins; rw [if_neg (by omega), if_neg (by omega)]
theorem Ord_ins {T : tT} {k j : Nat} {o : Nat → Nat} (h : Ord T k o) (hj : j ≤ k) (h1 : ∀ p, j ≤ p → p < k → dy T k < dy T (o p)) (h2 : 0 < j → dy T (o (j - 1)) ≤ dy T k) : Ord T (k + 1) (ins o k j) := by
  obtain ⟨a1, a2, a3, a4⟩ := h
  have tri : ∀ p, p < k + 1 → (p < j ∧ ins o k j p = o p) ∨ (p = j ∧ ins o k j p = k) ∨ (j < p ∧ ins o k j p = o (p - 1)) := by
    intro p hp
    rcases Nat.lt_trichotomy p j with q | q | q
    · exact Or.inl ⟨q, ins_lt q⟩
    · subst q; exact Or.inr (Or.inl ⟨rfl, ins_at⟩)
    · exact Or.inr (Or.inr ⟨q, ins_gt q⟩)
  refine ⟨?_, ?_, ?_, ?_⟩
  · intro p hp
    rcases tri p hp with ⟨q, e⟩ | ⟨q, e⟩ | ⟨q, e⟩ <;> rw [e]
    · have := a1 p (by omega); omega
    · omega
    · have := a1 (p - 1) (by omega); omega
  · intro s hs
    by_cases c : s = k
    · exact ⟨j, by omega, by rw [c]; exact ins_at⟩
    · obtain ⟨p, p1, p2⟩ := a2 s (by omega)
      by_cases q : p < j
      · exact ⟨p, by omega, by rw [ins_lt q]; exact p2⟩
      · exact ⟨p + 1, by omega, by rw [ins_gt (by omega)]; exact p2⟩
  · intro p q hp hq e
    rcases tri p hp with ⟨c1, e1⟩ | ⟨c1, e1⟩ | ⟨c1, e1⟩ <;> rcases tri q hq with ⟨c2, e2⟩ | ⟨c2, e2⟩ | ⟨c2, e2⟩ <;> rw [e1, e2] at e
    · exact a3 p q (by omega) (by omega) e
    · have := a1 p (by omega); omega
    · have := a3 p (q - 1) (by omega) (by omega) e; omega
    · have := a1 q (by omega); omega
    · omega
    · have := a1 (q - 1) (by omega); omega
    · have := a3 (p - 1) q (by omega) (by omega) e; omega
    · have := a1 (p - 1) (by omega); omega
    · have := a3 (p - 1) (q - 1) (by omega) (by omega) e; omega
  · intro p q hpq hq
    rcases tri p (by omega) with ⟨c1, e1⟩ | ⟨c1, e1⟩ | ⟨c1, e1⟩ <;> rcases tri q hq with ⟨c2, e2⟩ | ⟨c2, e2⟩ | ⟨c2, e2⟩ <;> rw [e1, e2]
    · exact a4 p q hpq (by omega)
    · have := h2 (by omega)
      have := a4 p (j - 1) (by omega) (by omega)
      omega
    · exact a4 p (q - 1) (by omega) (by omega)
    · omega
    · omega
    · have := h1 (q - 1) (by omega) (by omega)
      omega
    · omega
    · omega
    · exact a4 (p - 1) (q - 1) (by omega) (by omega)
theorem tdecn {w : Int32} {j : Nat} (hw : w.toInt = j) (h : 0 < j) : (w + -1).toInt = (j - 1 : Nat) := by
  have := w.toInt_lt
  have z : (-1 : Int32).toInt = -1 := rfl
  rw [tadd (by omega) (by omega)]
  omega
theorem l_order {sz : Nat} {T0 : tT} {S : Nat} (hS : (T0.1 79 2).toInt = S) (S9 : S ≤ 9) : ∀ n : Nat,
  (∀ (T : tT) (v : Int32) (k : Nat), fr (wl [88] []) T0 T → v.toInt = k → k ≤ S → (S - k) * 20 + 2 < n → (∃ o, Ord T0 k o ∧ ∀ p, p < k → T.1 88 p = nI (o p)) → (fr (wl [88] []) T0 ((vl_X7_orderByDay n).1 T v) ∧ ∃ o, Ord T0 S o ∧ ∀ p, p < S → ((vl_X7_orderByDay n).1 T v).1 88 p = nI (o p)) ∧ (okl_X7_orderByDay n).1 sz T v) ∧
  (∀ (T : tT) (v w : Int32) (k j : Nat) (o : Nat → Nat), fr (wl [88] []) T0 T → v.toInt = k → w.toInt = j → k < S → j ≤ k → (S - k - 1) * 20 + 3 + j < n → Ord T0 k o → (∀ p, j ≤ p → p < k → dy T0 k < dy T0 (o p)) → (∀ p, p < j → T.1 88 p = nI (o p)) → (∀ p, j < p → p ≤ k → T.1 88 p = nI (o (p - 1))) → (fr (wl [88] []) T0 ((vl_X7_orderByDay n).2 T v w) ∧ ∃ o, Ord T0 S o ∧ ∀ p, p < S → ((vl_X7_orderByDay n).2 T v w).1 88 p = nI (o p)) ∧ (okl_X7_orderByDay n).2 sz T v w) := by
  intro n
  induction n with
  | zero => exact ⟨fun _ _ _ _ _ _ h => absurd h (Nat.not_lt_zero _), fun _ _ _ _ _ _ _ _ _ _ _ h => absurd h (Nat.not_lt_zero _)⟩
  | succ n ih =>
    obtain ⟨ih1, ih2⟩ := ih
    refine ⟨?_, ?_⟩
    · intro T v k fT hv hk hn ho
      rw [vl_X7_orderByDay_s0, okl_X7_orderByDay_s0, fr_i fT (k := 79) (i := 2) rfl]
      by_cases e : k = S
      · have cc : T0.1 79 2 ≤ v := by rw [tle]; omega
        rw [if_pos cc]
        subst e
        exact ⟨⟨fT, ho⟩, fun _ => trivial, fun w => absurd cc w⟩
      · have cc : ¬ T0.1 79 2 ≤ v := by rw [tle]; omega
        rw [if_neg cc]
        obtain ⟨o, o1, o2⟩ := ho
        obtain ⟨u1, u2⟩ := ih2 T v v k k o fT hv hv (by omega) (by omega) (by omega) o1 (fun p h1 h2 => by omega) o2 (fun p h1 h2 => by omega)
        exact ⟨u1, fun w => absurd w cc, fun _ => u2⟩
    · intro T v w k j o fT hv hw hk hj hn hO h1 h2 h3
      have d88 : T.1 83 = T0.1 83 := fr_ri fT (k := 83) (fun _ => rfl)
      rw [vl_X7_orderByDay_s1, okl_X7_orderByDay_s1, d88]
      have st : (v + 1).toInt = (k + 1 : Nat) := by rw [tinc' (by omega)]; omega
      have w9 : vp_in w 9 := by rw [vp_in_iff]; omega
      have v9 : vp_in v 9 := by rw [vp_in_iff]; omega
      have z0 : (0 : Int32).toInt = 0 := rfl
      have put : (0 < j → dy T0 (o (j - 1)) ≤ dy T0 k) → (fr (wl [88] []) T0 ((vl_X7_orderByDay n).1 (tI T 88 j v) (v + 1)) ∧ ∃ o, Ord T0 S o ∧ ∀ p, p < S → ((vl_X7_orderByDay n).1 (tI T 88 j v) (v + 1)).1 88 p = nI (o p)) ∧ (okl_X7_orderByDay n).1 sz (tI T 88 j v) (v + 1) := by
        intro le
        refine ih1 (tI T 88 j v) (v + 1) (k + 1) (fr_I rfl fT) st (by omega) (by omega) ⟨ins o k j, Ord_ins hO hj h1 le, ?_⟩
        intro p hp
        rcases Nat.lt_trichotomy p j with q | q | q
        · rw [ins_lt q, show (tI T 88 j v).1 88 p = T.1 88 p from tI_off (fun z => by have := z.2; omega)]
          exact h2 p q
        · subst q
          rw [ins_at, show (tI T 88 p v).1 88 p = v from tI_at]
          exact nI_self hv (by omega)
        · rw [ins_gt q, show (tI T 88 j v).1 88 p = T.1 88 p from tI_off (fun z => by have := z.2; omega)]
          exact h3 p q (by omega)
      rw [tnN hw]
      by_cases e : j = 0
      · have cc : w ≤ 0 := by rw [tle]; omega
        rw [if_pos cc]
        obtain ⟨u1, u2⟩ := put (fun h => by omega)
        exact ⟨u1, fun _ => ⟨w9, u2⟩, fun q => absurd cc q⟩
      · have cc : ¬ w ≤ 0 := by rw [tle]; omega
        have w1 : (w - 1).toInt = (j - 1 : Nat) := by
          have : (1 : Int32).toInt = 1 := rfl
          rw [tsub (by omega) (by omega)]
          omega
        have wm := tdecn hw (by omega)
        generalize w + -1 = wq at wm ⊢
        have w19 : vp_in (w - 1) 9 := by rw [vp_in_iff]; omega
        have oj := hO.1 (j - 1) (by omega)
        have e88 := h2 (j - 1) (by omega)
        have o9 : vp_in (nI (o (j - 1))) 9 := by rw [vp_in_iff, nI_toInt (by omega)]; omega
        rw [if_neg cc, tnN w1, e88, tnN (nI_toInt (by omega)), tnN hv]
        by_cases d : T0.1 83 (o (j - 1)) ≤ T0.1 83 k
        · rw [if_pos d]
          obtain ⟨u1, u2⟩ := put (fun _ => tle.mp d)
          exact ⟨u1, fun q => absurd q cc, fun _ => ⟨w19, o9, v9, fun _ => ⟨w9, u2⟩, fun q => absurd d q⟩⟩
        · rw [if_neg d]
          obtain ⟨u1, u2⟩ := ih2 (tI T 88 j (nI (o (j - 1)))) v wq k (j - 1) o (fr_I rfl fT) hv wm hk (by omega) (by omega) hO (fun p p1 p2 => by
            by_cases q : p = j - 1
            · rw [q]
              rw [tle] at d
              show (T0.1 83 k).toInt < (T0.1 83 (o (j - 1))).toInt
              omega
            · exact h1 p (by omega) p2) (fun p hp => by
            rw [show (tI T 88 j (nI (o (j - 1)))).1 88 p = T.1 88 p from tI_off (fun z => by have := z.2; omega)]
            exact h2 p (by omega)) (fun p p1 p2 => by
            by_cases q : p = j
            · subst q
              exact tI_at
            · rw [show (tI T 88 j (nI (o (j - 1)))).1 88 p = T.1 88 p from tI_off (fun z => q z.2)]
              exact h3 p (by omega) p2)
          exact ⟨u1, fun q => absurd q cc, fun _ => ⟨w19, o9, v9, fun q => absurd q d, fun _ => ⟨w19, w9, u2⟩⟩⟩
theorem e_order {sz : Nat} {T0 : tT} {S : Nat} (hS : (T0.1 79 2).toInt = S) (S9 : S ≤ 9) : (fr (wl [88] []) T0 (F_X7_orderByDay T0) ∧ ∃ o, Ord T0 S o ∧ ∀ p, p < S → (F_X7_orderByDay T0).1 88 p = nI (o p)) ∧ ok_X7_orderByDay sz T0 := (l_order (sz := sz) hS S9 fu).1 T0 0 0 fr_refl rfl (by omega) (by rw [fu_eq]; omega) ⟨fun _ => 0, ⟨fun p h => absurd h (Nat.not_lt_zero _), fun p h => absurd h (Nat.not_lt_zero _), fun p q h => absurd h (Nat.not_lt_zero _), fun p q _ h => absurd h (Nat.not_lt_zero _)⟩, fun p h => absurd h (Nat.not_lt_zero _)⟩
