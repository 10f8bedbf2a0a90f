/-! sharing out as an assignment -/
def mkS : Nat → (Nat → Bool) → Nat
  | 0, _ => 0
  | n + 1, P => mkS n P ||| (if P n = true then 2 ^ n else 0)
theorem mkS_lt : ∀ (n : Nat) (P : Nat → Bool), mkS n P < 2 ^ n
  | 0, _ => Nat.zero_lt_one
  | n + 1, P => by
    unfold mkS
    have h := mkS_lt n P
    have h2 : 2 ^ n < 2 ^ (n + 1) := Nat.pow_lt_pow_right (by decide) (by omega)
    apply Nat.or_lt_two_pow
    · omega
    · split
      · exact h2
      · omega
theorem mkS_bit (s : Nat) : ∀ (n : Nat) (P : Nat → Bool), bts (mkS n P) s = (decide (s < n) && P s)
  | 0, P => by
    unfold mkS bts
    rw [Nat.zero_testBit]
    simp
  | n + 1, P => by
    have h := mkS_bit s n P
    unfold bts at h
    unfold mkS bts
    rw [Nat.testBit_or, h]
    by_cases c : s = n
    · subst c
      rw [decide_eq_false (Nat.lt_irrefl s), decide_eq_true (Nat.lt_succ_self s), Bool.false_and, Bool.false_or, Bool.true_and]
      by_cases p : P s = true
      · rw [if_pos p, Nat.testBit_two_pow, decide_eq_true rfl, p]
      · rw [if_neg p, Nat.zero_testBit, Bool.eq_false_iff.mpr p]
    · have e : (if P n = true then 2 ^ n else 0).testBit s = false := by
        by_cases p : P n = true
        · rw [if_pos p, Nat.testBit_two_pow, decide_eq_false (by omega)]
        · rw [if_neg p, Nat.zero_testBit]
      rw [e, Bool.or_false]
      by_cases l : s < n
      · rw [decide_eq_true l, decide_eq_true (by omega)]
      · rw [decide_eq_false l, decide_eq_false (by omega)]
theorem bts_hi {m S s : Nat} (hm : m < 2 ^ S) (h : S ≤ s) : bts m s = false := Nat.testBit_lt_two_pow (Nat.lt_of_lt_of_le hm (Nat.pow_le_pow_right (by decide) h))
theorem bts_ext {m m' S : Nat} (hm : m < 2 ^ S) (hm' : m' < 2 ^ S) (h : ∀ s, s < S → bts m s = bts m' s) : m = m' := by
  apply Nat.eq_of_testBit_eq
  intro i
  rcases Nat.lt_or_ge i S with q | q
  · exact h i q
  · rw [show m.testBit i = false from bts_hi hm q, show m'.testBit i = false from bts_hi hm' q]
theorem mkS_eq {m S : Nat} {P : Nat → Bool} (hm : m < 2 ^ S) (h : ∀ s, s < S → P s = bts m s) : mkS S P = m := by
  apply bts_ext (mkS_lt S P) hm
  intro s hs
  rw [mkS_bit, decide_eq_true hs, Bool.true_and]
  exact h s hs
theorem mkS_cg {S : Nat} {P Q : Nat → Bool} (h : ∀ s, s < S → P s = Q s) : mkS S P = mkS S Q := by
  apply mkS_eq (mkS_lt S Q)
  intro s hs
  rw [mkS_bit, decide_eq_true hs, Bool.true_and]
  exact h s hs
theorem bts_or (a b s : Nat) : bts (a ||| b) s = (bts a s || bts b s) := Nat.testBit_or a b s
theorem bts_and (a b s : Nat) : bts (a &&& b) s = (bts a s && bts b s) := Nat.testBit_and a b s
theorem Reach_f {c : Nat → Nat → Int} {g : Nat → Nat → Prop} {S : Nat} : ∀ (E m : Nat) (v : Int), m < 2 ^ S → (Reach c g (2 ^ S) E m v ↔ ∃ f : Nat → Nat, (∀ s, s < S → bts m s = true → f s < E) ∧ (∀ x, x < E → g x (mkS S (fun s => bts m s && f s == x))) ∧ v = sg E (fun x => c x (mkS S (fun s => bts m s && f s == x))))
  | 0, m, v, hm => by
    unfold Reach sg
    constructor
    · rintro ⟨h1, h2⟩
      refine ⟨fun _ => 0, fun s _ h => ?_, fun x h => absurd h (Nat.not_lt_zero _), h2⟩
      rw [h1] at h
      unfold bts at h
      rw [Nat.zero_testBit] at h
      cases h
    · rintro ⟨f, h1, _, h3⟩
      refine ⟨?_, h3⟩
      apply bts_ext hm (Nat.pow_pos (by decide))
      intro s hs
      rw [show bts 0 s = false from Nat.zero_testBit s]
      cases e : bts m s
      · rfl
      · exact absurd (h1 s hs e) (Nat.not_lt_zero _)
  | E + 1, m, v, hm => by
    constructor
    · rintro ⟨o, m', v', h1, h2, h3, h4, h5, h6, h7⟩
      obtain ⟨f, f1, f2, f3⟩ := (Reach_f E m' v' h5).mp h1
      have dj : ∀ s, bts o s = true → bts m' s = false := by
        intro s hs
        have e := bts_and o m' s
        rw [h2, show bts 0 s = false from Nat.zero_testBit s, hs, Bool.true_and] at e
        exact e.symm
      have um : ∀ s, bts m s = (bts m' s || bts o s) := fun s => by rw [h3]; exact bts_or m' o s
      have eo : mkS S (fun s => bts m s && (if bts o s = true then E else f s) == E) = o := by
        apply mkS_eq h4
        intro s hs
        try dsimp only
        rw [um s]
        by_cases q : bts o s = true
        · rw [q, if_pos rfl, Bool.or_true, Bool.true_and, beq_self_eq_true]
        · rw [if_neg q, Bool.eq_false_iff.mpr q, Bool.or_false]
          cases e : bts m' s
          · rfl
          · have := f1 s hs e
            rw [Bool.true_and]
            exact beq_false_of_ne (by omega)
      have ex : ∀ x, x < E → mkS S (fun s => bts m s && (if bts o s = true then E else f s) == x) = mkS S (fun s => bts m' s && f s == x) := by
        intro x hx
        apply mkS_cg
        intro s hs
        try dsimp only
        rw [um s]
        by_cases q : bts o s = true
        · rw [q, if_pos rfl, dj s q, Bool.false_and, Bool.or_true, Bool.true_and]
          exact beq_false_of_ne (by omega)
        · rw [if_neg q, Bool.eq_false_iff.mpr q, Bool.or_false]
      refine ⟨fun s => if bts o s = true then E else f s, ?_, ?_, ?_⟩
      · intro s hs hb
        try dsimp only
        by_cases q : bts o s = true
        · rw [if_pos q]
          omega
        · rw [if_neg q]
          rw [um s, Bool.eq_false_iff.mpr q, Bool.or_false] at hb
          have := f1 s hs hb
          omega
      · intro x hx
        try dsimp only
        by_cases q : x = E
        · subst q
          rw [eo]
          exact h6
        · rw [ex x (by omega)]
          exact f2 x (by omega)
      · unfold sg
        try dsimp only
        rw [eo, sg_cg (g := fun x => c x (mkS S (fun s => bts m' s && f s == x))) E (fun x hx => by (try dsimp only); rw [ex x hx]), ← f3]
        exact h7
    · rintro ⟨f, f1, f2, f3⟩
      have ex : ∀ x, x < E → mkS S (fun s => bts (mkS S (fun s => bts m s && !(f s == E))) s && f s == x) = mkS S (fun s => bts m s && f s == x) := by
        intro x hx
        apply mkS_cg
        intro s hs
        try dsimp only
        rw [mkS_bit, decide_eq_true hs, Bool.true_and]
        by_cases q : f s = x
        · rw [beq_iff_eq.mpr q, beq_false_of_ne (show f s ≠ E by omega)]
          simp
        · rw [beq_false_of_ne q]
          simp
      refine ⟨mkS S (fun s => bts m s && f s == E), mkS S (fun s => bts m s && !(f s == E)), sg E (fun x => c x (mkS S (fun s => bts m s && f s == x))), ?_, ?_, ?_, mkS_lt S _, mkS_lt S _, f2 E (by omega), f3⟩
      · rw [Reach_f E _ _ (mkS_lt S _)]
        refine ⟨f, ?_, ?_, ?_⟩
        · intro s hs hb
          rw [mkS_bit, decide_eq_true hs, Bool.true_and] at hb
          simp only [Bool.and_eq_true, Bool.not_eq_true', beq_eq_false_iff_ne, ne_eq] at hb
          have := f1 s hs hb.1
          omega
        · intro x hx
          rw [ex x hx]
          exact f2 x (by omega)
        · exact sg_cg E (fun x hx => by (try dsimp only); rw [ex x hx])
      · apply Nat.eq_of_testBit_eq
        intro i
        rw [Nat.zero_testBit]
        have e := bts_and (mkS S (fun s => bts m s && f s == E)) (mkS S (fun s => bts m s && !(f s == E))) i
        rw [mkS_bit, mkS_bit] at e
        refine (show _ = _ from e).trans ?_
        cases decide (i < S) <;> cases bts m i <;> cases (f i == E) <;> rfl
      · apply bts_ext hm
        · exact Nat.or_lt_two_pow (mkS_lt S _) (mkS_lt S _)
        · intro s hs
          rw [bts_or, mkS_bit, mkS_bit, decide_eq_true hs]
          cases bts m s <;> cases (f s == E) <;> rfl
theorem Reach_all {c : Nat → Nat → Int} {g : Nat → Nat → Prop} {S E : Nat} {v : Int} : Reach c g (2 ^ S) E (2 ^ S - 1) v ↔ ∃ f : Nat → Nat, (∀ s, s < S → f s < E) ∧ (∀ x, x < E → g x (mkS S (fun s => f s == x))) ∧ v = sg E (fun x => c x (mkS S (fun s => f s == x))) := by
  have p0 : 0 < 2 ^ S := Nat.pow_pos (by decide)
  have all : ∀ s, s < S → bts (2 ^ S - 1) s = true := fun s hs => by
    unfold bts
    rw [Nat.testBit_two_pow_sub_one, decide_eq_true hs]
  have e : ∀ (f : Nat → Nat) (x : Nat), mkS S (fun s => bts (2 ^ S - 1) s && f s == x) = mkS S (fun s => f s == x) := fun f x => mkS_cg (fun s hs => by (try dsimp only); rw [all s hs, Bool.true_and])
  rw [Reach_f E _ v (by omega)]
  constructor
  · rintro ⟨f, h1, h2, h3⟩
    refine ⟨f, fun s hs => h1 s hs (all s hs), fun x hx => ?_, ?_⟩
    · rw [← e f x]
      exact h2 x hx
    · rw [h3]
      exact sg_cg E (fun x _ => by (try dsimp only); rw [e f x])
  · rintro ⟨f, h1, h2, h3⟩
    refine ⟨f, fun s hs _ => h1 s hs, fun x hx => ?_, ?_⟩
    · rw [e f x]
      exact h2 x hx
    · rw [h3]
      exact sg_cg E (fun x _ => by (try dsimp only); rw [e f x])
/-! valid assignments and their travel -/
def VA (T : tT) (S E : Nat) (f : Nat → Nat) : Prop := ∀ s, s < S → f s < E ∧ v_X11_mayTake T (nI (f s)) (nI s) ≠ 0 ∧ ∀ t, t < s → f t = f s → dy T t ≠ dy T s
def WA (T : tT) (S E : Nat) (f : Nat → Nat) : Int := sg E (fun x => trv T S x (fun s => f s == x))
/-- what is fixed already -/
def cpt (F : Nat → Int32) (S : Nat) (f : Nat → Nat) : Prop := ∀ s, s < S → 0 ≤ F s → F s = nI (f s)
/-- the table of costs -/
def cst (T0 T : tT) (S E : Nat) : Prop := ∀ y o, y < E → o < 2 ^ S → (vst T0 S y o → (T.1 147 (512 * y + o)).toInt = trv T0 S y (bts o) ∧ 0 ≤ trv T0 S y (bts o) ∧ trv T0 S y (bts o) ≤ 130000) ∧ (¬ vst T0 S y o → T.1 147 (512 * y + o) = 1000000)
theorem nI_inj {a b : Nat} (ha : a < 1000) (hb : b < 1000) (h : nI a = nI b) : a = b := by
  rw [teq, nI_toInt (by omega), nI_toInt (by omega)] at h
  omega
theorem vst_f {T : tT} {S E : Nat} {f : Nat → Nat} (hf : ∀ s, s < S → f s < E) : (∀ x, x < E → vst T S x (mkS S (fun s => f s == x))) ↔ VA T S E f := by
  constructor
  · intro h s hs
    have k := h (f s) (hf s hs) s hs (by rw [mkS_bit, decide_eq_true hs, Bool.true_and, beq_self_eq_true])
    refine ⟨hf s hs, k.1, fun t ht e => k.2 t ht ?_⟩
    rw [mkS_bit, decide_eq_true (by omega), Bool.true_and]
    exact beq_iff_eq.mpr e
  · intro h x hx s hs hb
    rw [mkS_bit, decide_eq_true hs, Bool.true_and, beq_iff_eq] at hb
    subst hb
    obtain ⟨_, h2, h3⟩ := h s hs
    refine ⟨h2, fun t ht tb => h3 t ht ?_⟩
    rw [mkS_bit, decide_eq_true (by omega), Bool.true_and, beq_iff_eq] at tb
    exact tb
theorem agr_f {F : Nat → Int32} {S E : Nat} {f : Nat → Nat} (E5 : E ≤ 5) (hf : ∀ s, s < S → f s < E) : (∀ x, x < E → agr F S x (mkS S (fun s => f s == x))) ↔ cpt F S f := by
  constructor
  · intro h s hs h0
    exact (h (f s) (hf s hs) s hs h0).mpr (by rw [mkS_bit, decide_eq_true hs, Bool.true_and, beq_self_eq_true])
  · intro h x hx s hs h0
    have := hf s hs
    rw [h s hs h0, mkS_bit, decide_eq_true hs, Bool.true_and, beq_iff_eq]
    exact ⟨fun q => nI_inj (by omega) (by omega) q, fun q => by rw [q]⟩
theorem WA_f {T : tT} {S E : Nat} {f : Nat → Nat} : sg E (fun x => trv T S x (bts (mkS S (fun s => f s == x)))) = WA T S E f := by
  unfold WA
  apply sg_cg
  intro x _
  try dsimp only
  apply trv_cg
  intro s hs
  rw [mkS_bit, decide_eq_true hs, Bool.true_and]
theorem sg_le {f : Nat → Int} {b : Int} : ∀ (n : Nat), (∀ i, i < n → 0 ≤ f i ∧ f i ≤ b) → 0 ≤ sg n f ∧ sg n f ≤ n * b
  | 0, _ => by
    unfold sg
    simp
  | n + 1, h => by
    have i1 := sg_le n (fun i hi => h i (by omega))
    have i2 := h n (by omega)
    unfold sg
    rw [show ((n + 1 : Nat) : Int) * b = n * b + b by rw [Int.natCast_add, Int.add_mul]; simp]
    omega
/-- solve's answer over the table of costs -/
theorem s_solve {sz : Nat} {T0 T : tT} (hC : ICi T) {S E : Nat} (hS : (T.1 79 2).toInt = S) (hE : (T.1 79 1).toInt = E) (S9 : S ≤ 9) (E5 : E ≤ 5) (hc : cst T0 T S E) : fr (wl [148] []) T (F_X11_solve T).2 ∧ ok_X11_solve sz T ∧ (∀ f, VA T0 S E f → cpt (T.1 149) S f → (F_X11_solve T).1.toInt ≤ WA T0 S E f ∧ 0 ≤ WA T0 S E f ∧ WA T0 S E f < 1000000) ∧ ((F_X11_solve T).1.toInt < 1000000 → ∃ f, VA T0 S E f ∧ cpt (T.1 149) S f ∧ (F_X11_solve T).1.toInt = WA T0 S E f) := by
  have c0 : ∀ y o, y < E → o < 2 ^ S → 0 ≤ (T.1 147 (512 * y + o)).toInt ∧ (T.1 147 (512 * y + o)).toInt ≤ 1000000 := by
    intro y o hy ho
    have k := hc y o hy ho
    by_cases q : vst T0 S y o
    · have := k.1 q
      omega
    · rw [k.2 q]
      decide
  obtain ⟨⟨r1, r2⟩, r3⟩ := r_solve (sz := sz) hC hS hE S9 E5 rfl (c := fun y o => (T.1 147 (512 * y + o)).toInt) (g := fun y o => (T.1 147 (512 * y + o)).toInt < 1000000 ∧ agr (T.1 149) S y o) (fun _ _ => rfl) c0 (fun _ _ => Iff.rfl)
  have gv : ∀ x o, x < E → o < 2 ^ S → ((T.1 147 (512 * x + o)).toInt < 1000000 ↔ vst T0 S x o) := by
    intro x o hx ho
    have k := hc x o hx ho
    constructor
    · intro h
      apply Classical.byContradiction
      intro q
      rw [k.2 q] at h
      exact absurd h (by decide)
    · intro q
      have := k.1 q
      omega
  have ev : ∀ f : Nat → Nat, (∀ x, x < E → vst T0 S x (mkS S (fun s => f s == x))) → sg E (fun x => (T.1 147 (512 * x + mkS S (fun s => f s == x))).toInt) = WA T0 S E f := by
    intro f h
    rw [← WA_f]
    apply sg_cg
    intro x hx
    exact ((hc x _ hx (mkS_lt S _)).1 (h x hx)).1
  have ub : ∀ f : Nat → Nat, (∀ x, x < E → vst T0 S x (mkS S (fun s => f s == x))) → 0 ≤ WA T0 S E f ∧ WA T0 S E f < 1000000 := by
    intro f h
    rw [← WA_f]
    have := sg_le (f := fun x => trv T0 S x (bts (mkS S (fun s => f s == x)))) (b := 130000) E (fun x hx => ((hc x _ hx (mkS_lt S _)).1 (h x hx)).2)
    omega
  refine ⟨r1, r3, ?_, ?_⟩
  · intro f hf hF
    have hv := (vst_f (fun s hs => (hf s hs).1)).mpr hf
    have ha := (agr_f E5 (fun s hs => (hf s hs).1)).mpr hF
    refine ⟨r2.2.2 _ ?_, ub f hv⟩
    rw [Reach_all]
    exact ⟨f, fun s hs => (hf s hs).1, fun x hx => ⟨(gv x _ hx (mkS_lt S _)).mpr (hv x hx), ha x hx⟩, (ev f hv).symm⟩
  · intro lt
    obtain ⟨f, f1, f2, f3⟩ := Reach_all.mp (r2.2.1 lt)
    have hv : ∀ x, x < E → vst T0 S x (mkS S (fun s => f s == x)) := fun x hx => (gv x _ hx (mkS_lt S _)).mp (f2 x hx).1
    refine ⟨f, (vst_f f1).mp hv, (agr_f E5 f1).mp (fun x hx => (f2 x hx).2), ?_⟩
    rw [f3]
    exact ev f hv
