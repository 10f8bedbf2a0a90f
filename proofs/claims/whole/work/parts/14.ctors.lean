theorem fq_skip {T : tT} {a ci N c c' : Nat} (h1 : c ≤ c') (h2 : ∀ j, j < c' → c ≤ j → fk ci j < 3) : fq T a ci N c = fq T a ci N c' := by
  funext j
  show (if 3 ≤ fk ci j ∧ j < N ∧ c ≤ j then _ else _) = (if 3 ≤ fk ci j ∧ j < N ∧ c' ≤ j then _ else _)
  by_cases hc : 3 ≤ fk ci j ∧ j < N ∧ c' ≤ j
  · rw [if_pos hc, if_pos ⟨hc.1, hc.2.1, by omega⟩]
  · rw [if_neg hc, if_neg (fun q => hc ⟨q.1, q.2.1, by
      by_cases z : c' ≤ j
      · exact z
      · have := h2 j (by omega) q.2.2
        omega⟩)]
theorem cq_skip {f : Nat → ax_C} {T : tT} {a m ci N c c' : Nat} (h1 : c ≤ c') (h2 : ∀ j, j < c' → c ≤ j → fk ci j < 3) : cq f a m T ci N c = cq f a m T ci N c' := by
  unfold cq
  rw [fq_skip h1 h2]
/-- the layout from a on -/
def lyl (a : Nat) (l : List ((Nat × Nat) ⊕ Nat)) : Prop := ∀ (k : Nat) (x : (Nat × Nat) ⊕ Nat), l[k]? = some x → ly (a + k) = x
theorem lyl.sub {a : Nat} {l l' : List ((Nat × Nat) ⊕ Nat)} (h : lyl a l) (k : Nat) (hs : ∀ j x, l'[j]? = some x → l[k + j]? = some x) : lyl (a + k) l' := fun j x hx => by
  rw [Nat.add_assoc]; exact h _ _ (hs j x hx)
theorem gn_set {f : Nat → ax_C} {a sz b : Nat} {T T' : tT} {c : ax_C} (h1 : a ≤ b) (h2 : b < sz) (hc : tc T' b = c) (ho : ∀ k, k ≠ b → T'.1 k = T.1 k ∧ T'.2.1 k = T.2.1 k ∧ T'.2.2 k = T.2.2 k) : ((gn f a sz T).1, va_up (gn f a sz T).2 b c) = gn f a sz T' := by
  refine Prod.ext rfl (funext fun j => ?_)
  show (if j = b then c else (gn f a sz T).2 j) = _
  by_cases e : j = b
  · subst e; rw [if_pos rfl, gn_at h1 h2, hc]
  · rw [if_neg e, gn_row (T := T) (fun j _ hj => ho j hj) e]
theorem gn_new {f : Nat → ax_C} {a b ci N : Nat} {T : tT} (h : a ≤ b) : ((gn f a b T).1 + 1, va_up (gn f a b T).2 (gn f a b T).1 (ax_ob ci (fq T b ci N 0))) = cq (gn f a b T).2 b 0 T ci N 0 := by
  refine Prod.ext rfl (funext fun j => ?_)
  show (if j = b then _ else (gn f a b T).2 j) = _
  by_cases h1 : j = b
  · subst h1; rw [if_pos rfl, cq_a]
  · rw [if_neg h1, cq_ne h1]
    by_cases h2 : j < b
    · rw [gn_lo h2]
    · rw [gn_hi (by omega) (by omega), gn_hi (by omega) (by omega)]
theorem gn_gn {f : Nat → ax_C} {a b sz : Nat} {T T' : tT} (h : a ≤ b) (hs : b ≤ sz) (ho : ∀ j, j < b → T'.1 j = T.1 j ∧ T'.2.1 j = T.2.1 j ∧ T'.2.2 j = T.2.2 j) : gn (gn f a b T).2 b sz T' = gn f a sz T' := by
  refine Prod.ext rfl (funext fun j => ?_)
  by_cases h2 : j < b
  · rw [gn_lo h2]
    by_cases h3 : j < a
    · rw [gn_lo h3, gn_lo h3]
    · obtain ⟨q1, q2, q3⟩ := ho j h2
      rw [gn_at (by omega) h2, gn_at (by omega) (by omega), tc_off q1 q2 q3]
  · by_cases h4 : j < sz
    · rw [gn_at (by omega) h4, gn_at (by omega) h4]
    · rw [gn_hi (by omega) (by omega), gn_hi (by omega) (by omega)]
def lyC0 : List ((Nat × Nat) ⊕ Nat) := [.inr 0, .inl (0, 60), .inl (0, 60), .inl (0, 60)]
theorem df0 : ∀ j, j < 4 → (fk 0 j = 0 ∧ defaultValue (tyX0 j) = .int 0) ∨ (fk 0 j = 1 ∧ defaultValue (tyX0 j) = .long 0) ∨ (2 ≤ fk 0 j ∧ defaultValue (tyX0 j) = .null) := by decide +kernel
def lyC1 : List ((Nat × Nat) ⊕ Nat) := [.inr 1, .inl (0, 5), .inl (0, 5), .inl (0, 9), .inl (0, 9), .inl (0, 64)]
theorem df1 : ∀ j, j < 8 → (fk 1 j = 0 ∧ defaultValue (tyX1 j) = .int 0) ∨ (fk 1 j = 1 ∧ defaultValue (tyX1 j) = .long 0) ∨ (2 ≤ fk 1 j ∧ defaultValue (tyX1 j) = .null) := by decide +kernel
def lyC2 : List ((Nat × Nat) ⊕ Nat) := [.inr 2, .inl (0, 40), .inl (0, 40), .inl (0, 40), .inl (0, 40), .inl (0, 40), .inl (0, 40), .inl (0, 40), .inl (0, 40), .inl (1, 160)]
theorem df2 : ∀ j, j < 10 → (fk 2 j = 0 ∧ defaultValue (tyX2 j) = .int 0) ∨ (fk 2 j = 1 ∧ defaultValue (tyX2 j) = .long 0) ∨ (2 ≤ fk 2 j ∧ defaultValue (tyX2 j) = .null) := by decide +kernel
def lyC3 : List ((Nat × Nat) ⊕ Nat) := [.inr 3, .inl (1, 6), .inl (0, 6), .inl (1, 72), .inl (1, 6), .inl (0, 6), .inl (0, 8)]
theorem df3 : ∀ j, j < 13 → (fk 3 j = 0 ∧ defaultValue (tyX3 j) = .int 0) ∨ (fk 3 j = 1 ∧ defaultValue (tyX3 j) = .long 0) ∨ (2 ≤ fk 3 j ∧ defaultValue (tyX3 j) = .null) := by decide +kernel
def lyC4 : List ((Nat × Nat) ⊕ Nat) := [.inr 4, .inl (0, 6), .inl (0, 150)]
theorem df4 : ∀ j, j < 3 → (fk 4 j = 0 ∧ defaultValue (tyX4 j) = .int 0) ∨ (fk 4 j = 1 ∧ defaultValue (tyX4 j) = .long 0) ∨ (2 ≤ fk 4 j ∧ defaultValue (tyX4 j) = .null) := by decide +kernel
def lyC5 : List ((Nat × Nat) ⊕ Nat) := [.inr 5, .inl (0, 200), .inl (0, 200), .inl (0, 200), .inl (0, 200), .inl (0, 200), .inl (0, 200), .inl (0, 200)]
theorem df5 : ∀ j, j < 9 → (fk 5 j = 0 ∧ defaultValue (tyX5 j) = .int 0) ∨ (fk 5 j = 1 ∧ defaultValue (tyX5 j) = .long 0) ∨ (2 ≤ fk 5 j ∧ defaultValue (tyX5 j) = .null) := by decide +kernel
def lyC6 : List ((Nat × Nat) ⊕ Nat) := [.inr 6, .inr 9, .inl (2, 1400), .inr 8, .inl (5, 8), .inl (0, 750), .inr 3, .inl (1, 6), .inl (0, 6), .inl (1, 72), .inl (1, 6), .inl (0, 6), .inl (0, 8), .inr 3, .inl (1, 6), .inl (0, 6), .inl (1, 72), .inl (1, 6), .inl (0, 6), .inl (0, 8), .inr 3, .inl (1, 6), .inl (0, 6), .inl (1, 72), .inl (1, 6), .inl (0, 6), .inl (0, 8), .inr 3, .inl (1, 6), .inl (0, 6), .inl (1, 72), .inl (1, 6), .inl (0, 6), .inl (0, 8), .inr 3, .inl (1, 6), .inl (0, 6), .inl (1, 72), .inl (1, 6), .inl (0, 6), .inl (0, 8), .inr 3, .inl (1, 6), .inl (0, 6), .inl (1, 72), .inl (1, 6), .inl (0, 6), .inl (0, 8), .inr 3, .inl (1, 6), .inl (0, 6), .inl (1, 72), .inl (1, 6), .inl (0, 6), .inl (0, 8), .inr 3, .inl (1, 6), .inl (0, 6), .inl (1, 72), .inl (1, 6), .inl (0, 6), .inl (0, 8)]
theorem df6 : ∀ j, j < 6 → (fk 6 j = 0 ∧ defaultValue (tyX6 j) = .int 0) ∨ (fk 6 j = 1 ∧ defaultValue (tyX6 j) = .long 0) ∨ (2 ≤ fk 6 j ∧ defaultValue (tyX6 j) = .null) := by decide +kernel
def lyC7 : List ((Nat × Nat) ⊕ Nat) := [.inr 7, .inl (0, 9), .inl (3, 45), .inl (0, 9), .inl (0, 120), .inl (0, 120), .inl (1, 120), .inl (1, 120)]
theorem df7 : ∀ j, j < 9 → (fk 7 j = 0 ∧ defaultValue (tyX7 j) = .int 0) ∨ (fk 7 j = 1 ∧ defaultValue (tyX7 j) = .long 0) ∨ (2 ≤ fk 7 j ∧ defaultValue (tyX7 j) = .null) := by decide +kernel
def lyC8 : List ((Nat × Nat) ⊕ Nat) := [.inr 8, .inl (5, 8), .inl (0, 750), .inr 3, .inl (1, 6), .inl (0, 6), .inl (1, 72), .inl (1, 6), .inl (0, 6), .inl (0, 8), .inr 3, .inl (1, 6), .inl (0, 6), .inl (1, 72), .inl (1, 6), .inl (0, 6), .inl (0, 8), .inr 3, .inl (1, 6), .inl (0, 6), .inl (1, 72), .inl (1, 6), .inl (0, 6), .inl (0, 8), .inr 3, .inl (1, 6), .inl (0, 6), .inl (1, 72), .inl (1, 6), .inl (0, 6), .inl (0, 8), .inr 3, .inl (1, 6), .inl (0, 6), .inl (1, 72), .inl (1, 6), .inl (0, 6), .inl (0, 8), .inr 3, .inl (1, 6), .inl (0, 6), .inl (1, 72), .inl (1, 6), .inl (0, 6), .inl (0, 8), .inr 3, .inl (1, 6), .inl (0, 6), .inl (1, 72), .inl (1, 6), .inl (0, 6), .inl (0, 8), .inr 3, .inl (1, 6), .inl (0, 6), .inl (1, 72), .inl (1, 6), .inl (0, 6), .inl (0, 8)]
theorem df8 : ∀ j, j < 4 → (fk 8 j = 0 ∧ defaultValue (tyX8 j) = .int 0) ∨ (fk 8 j = 1 ∧ defaultValue (tyX8 j) = .long 0) ∨ (2 ≤ fk 8 j ∧ defaultValue (tyX8 j) = .null) := by decide +kernel
def lyC9 : List ((Nat × Nat) ⊕ Nat) := [.inr 9, .inl (2, 1400)]
theorem df9 : ∀ j, j < 7 → (fk 9 j = 0 ∧ defaultValue (tyX9 j) = .int 0) ∨ (fk 9 j = 1 ∧ defaultValue (tyX9 j) = .long 0) ∨ (2 ≤ fk 9 j ∧ defaultValue (tyX9 j) = .null) := by decide +kernel
def lyC10 : List ((Nat × Nat) ⊕ Nat) := [.inr 10, .inr 6, .inr 9, .inl (2, 1400), .inr 8, .inl (5, 8), .inl (0, 750), .inr 3, .inl (1, 6), .inl (0, 6), .inl (1, 72), .inl (1, 6), .inl (0, 6), .inl (0, 8), .inr 3, .inl (1, 6), .inl (0, 6), .inl (1, 72), .inl (1, 6), .inl (0, 6), .inl (0, 8), .inr 3, .inl (1, 6), .inl (0, 6), .inl (1, 72), .inl (1, 6), .inl (0, 6), .inl (0, 8), .inr 3, .inl (1, 6), .inl (0, 6), .inl (1, 72), .inl (1, 6), .inl (0, 6), .inl (0, 8), .inr 3, .inl (1, 6), .inl (0, 6), .inl (1, 72), .inl (1, 6), .inl (0, 6), .inl (0, 8), .inr 3, .inl (1, 6), .inl (0, 6), .inl (1, 72), .inl (1, 6), .inl (0, 6), .inl (0, 8), .inr 3, .inl (1, 6), .inl (0, 6), .inl (1, 72), .inl (1, 6), .inl (0, 6), .inl (0, 8), .inr 3, .inl (1, 6), .inl (0, 6), .inl (1, 72), .inl (1, 6), .inl (0, 6), .inl (0, 8), .inl (4, 4), .inr 4, .inl (0, 6), .inl (0, 150), .inr 2, .inl (0, 40), .inl (0, 40), .inl (0, 40), .inl (0, 40), .inl (0, 40), .inl (0, 40), .inl (0, 40), .inl (0, 40), .inl (1, 160), .inr 1, .inl (0, 5), .inl (0, 5), .inl (0, 9), .inl (0, 9), .inl (0, 64), .inr 7, .inl (0, 9), .inl (3, 45), .inl (0, 9), .inl (0, 120), .inl (0, 120), .inl (1, 120), .inl (1, 120), .inr 5, .inl (0, 200), .inl (0, 200), .inl (0, 200), .inl (0, 200), .inl (0, 200), .inl (0, 200), .inl (0, 200), .inr 0, .inl (0, 60), .inl (0, 60), .inl (0, 60)]
theorem df10 : ∀ j, j < 8 → (fk 10 j = 0 ∧ defaultValue (tyX10 j) = .int 0) ∨ (fk 10 j = 1 ∧ defaultValue (tyX10 j) = .long 0) ∨ (2 ≤ fk 10 j ∧ defaultValue (tyX10 j) = .null) := by decide +kernel
def lyC11 : List ((Nat × Nat) ⊕ Nat) := [.inr 11, .inl (2, 1420), .inl (2, 1400), .inl (0, 4), .inl (3, 4), .inl (3, 40), .inl (0, 40), .inl (0, 240), .inl (0, 40), .inl (0, 240), .inl (0, 40), .inl (0, 40), .inl (0, 320), .inl (0, 320), .inl (0, 40), .inl (0, 40), .inl (0, 40), .inl (0, 40), .inl (0, 7500), .inl (0, 7500), .inl (0, 5), .inl (1, 240), .inl (1, 2880), .inl (1, 240), .inl (0, 80), .inl (0, 80), .inl (0, 40), .inl (0, 40), .inl (0, 40), .inl (0, 40), .inl (0, 40), .inl (0, 40), .inl (0, 40), .inl (0, 40), .inl (1, 160), .inl (0, 200), .inl (0, 6), .inl (0, 64), .inl (0, 5), .inl (0, 5), .inl (0, 9), .inl (0, 9), .inl (0, 2560), .inl (0, 3072), .inl (0, 9), .inl (0, 9), .inl (0, 200), .inl (0, 200), .inl (0, 200), .inl (0, 200), .inl (0, 200), .inl (0, 200), .inl (0, 1000), .inl (0, 61), .inl (0, 61), .inl (0, 61)]
theorem df11 : ∀ j, j < 77 → (fk 11 j = 0 ∧ defaultValue (tyX11 j) = .int 0) ∨ (fk 11 j = 1 ∧ defaultValue (tyX11 j) = .long 0) ∨ (2 ≤ fk 11 j ∧ defaultValue (tyX11 j) = .null) := by decide +kernel
set_option maxRecDepth 10000 in
theorem ct0 {d a : Nat} {f : Nat → ax_C} {T : tT} (h2 : 2 ≤ a) (hz : nz T a) (hl : lyl a lyC0) : ctK (d + 1) mX0_init a 0 4 4 f T T := by
  refine ax_enter (by decide +kernel) (Nat.le_of_ble_eq_true rfl) (fun X hX hR => ?_)
  refine ax_aload_n hX dX0_init_0 (Or.inr ⟨_, rfl⟩) rfl ?_
  refine ax_obj hX lRX0_3 im_obj cd_obj (Nat.le_of_ble_eq_true rfl) dX0_init_1 ?_
  refine ax_aload_n hX dX0_init_4 (Or.inr ⟨_, rfl⟩) rfl ?_
  refine ax_bipush hX dX0_init_5 (v := 60) (by decide) ?_
  refine cx_newI hX (aty := .int) (t := 0) (N' := 60) (hl 1 _ rfl) (hz.up (by omega)) ac_int rfl (by decide) (by decide) rfl (by decide) (by decide) (by decide) (by decide) (by decide) (by decide) dX0_init_7 ?_
  refine cx_putF hX fRX0_9 rfl h2 (by decide) (by decide) fk_0_1 (by omega) rfl rfl dX0_init_9 ?_
  refine ax_aload_n hX dX0_init_12 (Or.inr ⟨_, rfl⟩) rfl ?_
  refine ax_bipush hX dX0_init_13 (v := 60) (by decide) ?_
  refine cx_newI hX (aty := .int) (t := 0) (N' := 60) (hl 2 _ rfl) (hz.up (by omega)) ac_int rfl (by decide) (by decide) rfl (by decide) (by decide) (by decide) (by decide) (by decide) (by decide) dX0_init_15 ?_
  refine cx_putF hX fRX0_15 rfl h2 (by decide) (by decide) fk_0_2 (by omega) rfl rfl dX0_init_17 ?_
  refine ax_aload_n hX dX0_init_20 (Or.inr ⟨_, rfl⟩) rfl ?_
  refine ax_bipush hX dX0_init_21 (v := 60) (by decide) ?_
  refine cx_newI hX (aty := .int) (t := 0) (N' := 60) (hl 3 _ rfl) (hz.up (by omega)) ac_int rfl (by decide) (by decide) rfl (by decide) (by decide) (by decide) (by decide) (by decide) (by decide) dX0_init_23 ?_
  refine cx_putF hX fRX0_18 rfl h2 (by decide) (by decide) fk_0_3 (by omega) rfl rfl dX0_init_25 ?_
  rw [cq_skip (c' := 4) (by decide) (by decide), cq_end (show ly a = .inr 0 from hl 0 _ rfl)]
  exact hR.2.2.2 _ _ _ _ _ (by decide) (by decide) dX0_init_28 rfl ⟨rfl, rfl⟩
set_option maxRecDepth 10000 in
theorem ct1 {d a : Nat} {f : Nat → ax_C} {T : tT} (h2 : 2 ≤ a) (hz : nz T a) (hl : lyl a lyC1) : ctK (d + 1) mX1_init a 1 8 6 f T T := by
  refine ax_enter (by decide +kernel) (Nat.le_of_ble_eq_true rfl) (fun X hX hR => ?_)
  refine ax_aload_n hX dX1_init_0 (Or.inr ⟨_, rfl⟩) rfl ?_
  refine ax_obj hX lRX1_3 im_obj cd_obj (Nat.le_of_ble_eq_true rfl) dX1_init_1 ?_
  refine ax_aload_n hX dX1_init_4 (Or.inr ⟨_, rfl⟩) rfl ?_
  refine ax_iconst hX dX1_init_5 (v := 5) (by decide) ?_
  refine cx_newI hX (aty := .int) (t := 0) (N' := 5) (hl 1 _ rfl) (hz.up (by omega)) ac_int rfl (by decide) (by decide) rfl (by decide) (by decide) (by decide) (by decide) (by decide) (by decide) dX1_init_6 ?_
  refine cx_putF hX fRX1_9 rfl h2 (by decide) (by decide) fk_1_3 (by omega) rfl rfl dX1_init_8 ?_
  refine ax_aload_n hX dX1_init_11 (Or.inr ⟨_, rfl⟩) rfl ?_
  refine ax_iconst hX dX1_init_12 (v := 5) (by decide) ?_
  refine cx_newI hX (aty := .int) (t := 0) (N' := 5) (hl 2 _ rfl) (hz.up (by omega)) ac_int rfl (by decide) (by decide) rfl (by decide) (by decide) (by decide) (by decide) (by decide) (by decide) dX1_init_13 ?_
  refine cx_putF hX fRX1_15 rfl h2 (by decide) (by decide) fk_1_4 (by omega) rfl rfl dX1_init_15 ?_
  refine ax_aload_n hX dX1_init_18 (Or.inr ⟨_, rfl⟩) rfl ?_
  refine ax_bipush hX dX1_init_19 (v := 9) (by decide) ?_
  refine cx_newI hX (aty := .int) (t := 0) (N' := 9) (hl 3 _ rfl) (hz.up (by omega)) ac_int rfl (by decide) (by decide) rfl (by decide) (by decide) (by decide) (by decide) (by decide) (by decide) dX1_init_21 ?_
  refine cx_putF hX fRX1_18 rfl h2 (by decide) (by decide) fk_1_5 (by omega) rfl rfl dX1_init_23 ?_
  refine ax_aload_n hX dX1_init_26 (Or.inr ⟨_, rfl⟩) rfl ?_
  refine ax_bipush hX dX1_init_27 (v := 9) (by decide) ?_
  refine cx_newI hX (aty := .int) (t := 0) (N' := 9) (hl 4 _ rfl) (hz.up (by omega)) ac_int rfl (by decide) (by decide) rfl (by decide) (by decide) (by decide) (by decide) (by decide) (by decide) dX1_init_29 ?_
  refine cx_putF hX fRX1_21 rfl h2 (by decide) (by decide) fk_1_6 (by omega) rfl rfl dX1_init_31 ?_
  refine ax_aload_n hX dX1_init_34 (Or.inr ⟨_, rfl⟩) rfl ?_
  refine ax_bipush hX dX1_init_35 (v := 64) (by decide) ?_
  refine cx_newI hX (aty := .int) (t := 0) (N' := 64) (hl 5 _ rfl) (hz.up (by omega)) ac_int rfl (by decide) (by decide) rfl (by decide) (by decide) (by decide) (by decide) (by decide) (by decide) dX1_init_37 ?_
  refine cx_putF hX fRX1_24 rfl h2 (by decide) (by decide) fk_1_7 (by omega) rfl rfl dX1_init_39 ?_
  rw [cq_skip (c' := 8) (by decide) (by decide), cq_end (show ly a = .inr 1 from hl 0 _ rfl)]
  exact hR.2.2.2 _ _ _ _ _ (by decide) (by decide) dX1_init_42 rfl ⟨rfl, rfl⟩
set_option maxRecDepth 10000 in
theorem ct2 {d a : Nat} {f : Nat → ax_C} {T : tT} (h2 : 2 ≤ a) (hz : nz T a) (hl : lyl a lyC2) : ctK (d + 1) mX2_init a 2 10 10 f T T := by
  refine ax_enter (by decide +kernel) (Nat.le_of_ble_eq_true rfl) (fun X hX hR => ?_)
  refine ax_aload_n hX dX2_init_0 (Or.inr ⟨_, rfl⟩) rfl ?_
  refine ax_obj hX lRX2_3 im_obj cd_obj (Nat.le_of_ble_eq_true rfl) dX2_init_1 ?_
  refine ax_aload_n hX dX2_init_4 (Or.inr ⟨_, rfl⟩) rfl ?_
  refine ax_bipush hX dX2_init_5 (v := 40) (by decide) ?_
  refine cx_newI hX (aty := .int) (t := 0) (N' := 40) (hl 1 _ rfl) (hz.up (by omega)) ac_int rfl (by decide) (by decide) rfl (by decide) (by decide) (by decide) (by decide) (by decide) (by decide) dX2_init_7 ?_
  refine cx_putF hX fRX2_9 rfl h2 (by decide) (by decide) fk_2_1 (by omega) rfl rfl dX2_init_9 ?_
  refine ax_aload_n hX dX2_init_12 (Or.inr ⟨_, rfl⟩) rfl ?_
  refine ax_bipush hX dX2_init_13 (v := 40) (by decide) ?_
  refine cx_newI hX (aty := .int) (t := 0) (N' := 40) (hl 2 _ rfl) (hz.up (by omega)) ac_int rfl (by decide) (by decide) rfl (by decide) (by decide) (by decide) (by decide) (by decide) (by decide) dX2_init_15 ?_
  refine cx_putF hX fRX2_15 rfl h2 (by decide) (by decide) fk_2_2 (by omega) rfl rfl dX2_init_17 ?_
  refine ax_aload_n hX dX2_init_20 (Or.inr ⟨_, rfl⟩) rfl ?_
  refine ax_bipush hX dX2_init_21 (v := 40) (by decide) ?_
  refine cx_newI hX (aty := .int) (t := 0) (N' := 40) (hl 3 _ rfl) (hz.up (by omega)) ac_int rfl (by decide) (by decide) rfl (by decide) (by decide) (by decide) (by decide) (by decide) (by decide) dX2_init_23 ?_
  refine cx_putF hX fRX2_18 rfl h2 (by decide) (by decide) fk_2_3 (by omega) rfl rfl dX2_init_25 ?_
  refine ax_aload_n hX dX2_init_28 (Or.inr ⟨_, rfl⟩) rfl ?_
  refine ax_bipush hX dX2_init_29 (v := 40) (by decide) ?_
  refine cx_newI hX (aty := .int) (t := 0) (N' := 40) (hl 4 _ rfl) (hz.up (by omega)) ac_int rfl (by decide) (by decide) rfl (by decide) (by decide) (by decide) (by decide) (by decide) (by decide) dX2_init_31 ?_
  refine cx_putF hX fRX2_21 rfl h2 (by decide) (by decide) fk_2_4 (by omega) rfl rfl dX2_init_33 ?_
  refine ax_aload_n hX dX2_init_36 (Or.inr ⟨_, rfl⟩) rfl ?_
  refine ax_bipush hX dX2_init_37 (v := 40) (by decide) ?_
  refine cx_newI hX (aty := .int) (t := 0) (N' := 40) (hl 5 _ rfl) (hz.up (by omega)) ac_int rfl (by decide) (by decide) rfl (by decide) (by decide) (by decide) (by decide) (by decide) (by decide) dX2_init_39 ?_
  refine cx_putF hX fRX2_24 rfl h2 (by decide) (by decide) fk_2_5 (by omega) rfl rfl dX2_init_41 ?_
  refine ax_aload_n hX dX2_init_44 (Or.inr ⟨_, rfl⟩) rfl ?_
  refine ax_bipush hX dX2_init_45 (v := 40) (by decide) ?_
  refine cx_newI hX (aty := .int) (t := 0) (N' := 40) (hl 6 _ rfl) (hz.up (by omega)) ac_int rfl (by decide) (by decide) rfl (by decide) (by decide) (by decide) (by decide) (by decide) (by decide) dX2_init_47 ?_
  refine cx_putF hX fRX2_27 rfl h2 (by decide) (by decide) fk_2_6 (by omega) rfl rfl dX2_init_49 ?_
  refine ax_aload_n hX dX2_init_52 (Or.inr ⟨_, rfl⟩) rfl ?_
  refine ax_bipush hX dX2_init_53 (v := 40) (by decide) ?_
  refine cx_newI hX (aty := .int) (t := 0) (N' := 40) (hl 7 _ rfl) (hz.up (by omega)) ac_int rfl (by decide) (by decide) rfl (by decide) (by decide) (by decide) (by decide) (by decide) (by decide) dX2_init_55 ?_
  refine cx_putF hX fRX2_30 rfl h2 (by decide) (by decide) fk_2_7 (by omega) rfl rfl dX2_init_57 ?_
  refine ax_aload_n hX dX2_init_60 (Or.inr ⟨_, rfl⟩) rfl ?_
  refine ax_bipush hX dX2_init_61 (v := 40) (by decide) ?_
  refine cx_newI hX (aty := .int) (t := 0) (N' := 40) (hl 8 _ rfl) (hz.up (by omega)) ac_int rfl (by decide) (by decide) rfl (by decide) (by decide) (by decide) (by decide) (by decide) (by decide) dX2_init_63 ?_
  refine cx_putF hX fRX2_33 rfl h2 (by decide) (by decide) fk_2_8 (by omega) rfl rfl dX2_init_65 ?_
  refine ax_aload_n hX dX2_init_68 (Or.inr ⟨_, rfl⟩) rfl ?_
  refine ax_sipush hX dX2_init_69 (v := 160) (by decide) ?_
  refine cx_newL hX (N' := 160) (hl 9 _ rfl) (hz.up (by omega)) (by decide) (by decide) (by decide) (by decide) (by decide) dX2_init_72 ?_
  refine cx_putF hX fRX2_36 rfl h2 (by decide) (by decide) fk_2_9 (by omega) rfl rfl dX2_init_74 ?_
  rw [cq_skip (c' := 10) (by decide) (by decide), cq_end (show ly a = .inr 2 from hl 0 _ rfl)]
  exact hR.2.2.2 _ _ _ _ _ (by decide) (by decide) dX2_init_77 rfl ⟨rfl, rfl⟩
set_option maxRecDepth 10000 in
theorem ct3 {d a : Nat} {f : Nat → ax_C} {T : tT} (h2 : 2 ≤ a) (hz : nz T a) (hl : lyl a lyC3) : ctK (d + 1) mX3_init a 3 13 7 f T T := by
  refine ax_enter (by decide +kernel) (Nat.le_of_ble_eq_true rfl) (fun X hX hR => ?_)
  refine ax_aload_n hX dX3_init_0 (Or.inr ⟨_, rfl⟩) rfl ?_
  refine ax_obj hX lRX3_3 im_obj cd_obj (Nat.le_of_ble_eq_true rfl) dX3_init_1 ?_
  refine ax_aload_n hX dX3_init_4 (Or.inr ⟨_, rfl⟩) rfl ?_
  refine ax_bipush hX dX3_init_5 (v := 6) (by decide) ?_
  refine cx_newL hX (N' := 6) (hl 1 _ rfl) (hz.up (by omega)) (by decide) (by decide) (by decide) (by decide) (by decide) dX3_init_7 ?_
  refine cx_putF hX fRX3_9 rfl h2 (by decide) (by decide) fk_3_7 (by omega) rfl rfl dX3_init_9 ?_
  refine ax_aload_n hX dX3_init_12 (Or.inr ⟨_, rfl⟩) rfl ?_
  refine ax_bipush hX dX3_init_13 (v := 6) (by decide) ?_
  refine cx_newI hX (aty := .int) (t := 0) (N' := 6) (hl 2 _ rfl) (hz.up (by omega)) ac_int rfl (by decide) (by decide) rfl (by decide) (by decide) (by decide) (by decide) (by decide) (by decide) dX3_init_15 ?_
  refine cx_putF hX fRX3_15 rfl h2 (by decide) (by decide) fk_3_8 (by omega) rfl rfl dX3_init_17 ?_
  refine ax_aload_n hX dX3_init_20 (Or.inr ⟨_, rfl⟩) rfl ?_
  refine ax_bipush hX dX3_init_21 (v := 72) (by decide) ?_
  refine cx_newL hX (N' := 72) (hl 3 _ rfl) (hz.up (by omega)) (by decide) (by decide) (by decide) (by decide) (by decide) dX3_init_23 ?_
  refine cx_putF hX fRX3_19 rfl h2 (by decide) (by decide) fk_3_9 (by omega) rfl rfl dX3_init_25 ?_
  refine ax_aload_n hX dX3_init_28 (Or.inr ⟨_, rfl⟩) rfl ?_
  refine ax_bipush hX dX3_init_29 (v := 6) (by decide) ?_
  refine cx_newL hX (N' := 6) (hl 4 _ rfl) (hz.up (by omega)) (by decide) (by decide) (by decide) (by decide) (by decide) dX3_init_31 ?_
  refine cx_putF hX fRX3_22 rfl h2 (by decide) (by decide) fk_3_10 (by omega) rfl rfl dX3_init_33 ?_
  refine ax_aload_n hX dX3_init_36 (Or.inr ⟨_, rfl⟩) rfl ?_
  refine ax_bipush hX dX3_init_37 (v := 6) (by decide) ?_
  refine cx_newI hX (aty := .int) (t := 0) (N' := 6) (hl 5 _ rfl) (hz.up (by omega)) ac_int rfl (by decide) (by decide) rfl (by decide) (by decide) (by decide) (by decide) (by decide) (by decide) dX3_init_39 ?_
  refine cx_putF hX fRX3_25 rfl h2 (by decide) (by decide) fk_3_11 (by omega) rfl rfl dX3_init_41 ?_
  refine ax_aload_n hX dX3_init_44 (Or.inr ⟨_, rfl⟩) rfl ?_
  refine ax_bipush hX dX3_init_45 (v := 8) (by decide) ?_
  refine cx_newI hX (aty := .int) (t := 0) (N' := 8) (hl 6 _ rfl) (hz.up (by omega)) ac_int rfl (by decide) (by decide) rfl (by decide) (by decide) (by decide) (by decide) (by decide) (by decide) dX3_init_47 ?_
  refine cx_putF hX fRX3_28 rfl h2 (by decide) (by decide) fk_3_12 (by omega) rfl rfl dX3_init_49 ?_
  rw [cq_skip (c' := 13) (by decide) (by decide), cq_end (show ly a = .inr 3 from hl 0 _ rfl)]
  exact hR.2.2.2 _ _ _ _ _ (by decide) (by decide) dX3_init_52 rfl ⟨rfl, rfl⟩
set_option maxRecDepth 10000 in
theorem ct4 {d a : Nat} {f : Nat → ax_C} {T : tT} (h2 : 2 ≤ a) (hz : nz T a) (hl : lyl a lyC4) : ctK (d + 1) mX4_init a 4 3 3 f T T := by
  refine ax_enter (by decide +kernel) (Nat.le_of_ble_eq_true rfl) (fun X hX hR => ?_)
  refine ax_aload_n hX dX4_init_0 (Or.inr ⟨_, rfl⟩) rfl ?_
  refine ax_obj hX lRX4_3 im_obj cd_obj (Nat.le_of_ble_eq_true rfl) dX4_init_1 ?_
  refine ax_aload_n hX dX4_init_4 (Or.inr ⟨_, rfl⟩) rfl ?_
  refine ax_bipush hX dX4_init_5 (v := 6) (by decide) ?_
  refine cx_newI hX (aty := .int) (t := 0) (N' := 6) (hl 1 _ rfl) (hz.up (by omega)) ac_int rfl (by decide) (by decide) rfl (by decide) (by decide) (by decide) (by decide) (by decide) (by decide) dX4_init_7 ?_
  refine cx_putF hX fRX4_9 rfl h2 (by decide) (by decide) fk_4_0 (by omega) rfl rfl dX4_init_9 ?_
  refine ax_aload_n hX dX4_init_12 (Or.inr ⟨_, rfl⟩) rfl ?_
  refine ax_sipush hX dX4_init_13 (v := 150) (by decide) ?_
  refine cx_newI hX (aty := .int) (t := 0) (N' := 150) (hl 2 _ rfl) (hz.up (by omega)) ac_int rfl (by decide) (by decide) rfl (by decide) (by decide) (by decide) (by decide) (by decide) (by decide) dX4_init_16 ?_
  refine cx_putF hX fRX4_15 rfl h2 (by decide) (by decide) fk_4_1 (by omega) rfl rfl dX4_init_18 ?_
  rw [cq_skip (c' := 3) (by decide) (by decide), cq_end (show ly a = .inr 4 from hl 0 _ rfl)]
  exact hR.2.2.2 _ _ _ _ _ (by decide) (by decide) dX4_init_21 rfl ⟨rfl, rfl⟩
set_option maxRecDepth 10000 in
theorem ct5 {d a : Nat} {f : Nat → ax_C} {T : tT} (h2 : 2 ≤ a) (hz : nz T a) (hl : lyl a lyC5) : ctK (d + 1) mX5_init a 5 9 8 f T T := by
  refine ax_enter (by decide +kernel) (Nat.le_of_ble_eq_true rfl) (fun X hX hR => ?_)
  refine ax_aload_n hX dX5_init_0 (Or.inr ⟨_, rfl⟩) rfl ?_
  refine ax_obj hX lRX5_3 im_obj cd_obj (Nat.le_of_ble_eq_true rfl) dX5_init_1 ?_
  refine ax_aload_n hX dX5_init_4 (Or.inr ⟨_, rfl⟩) rfl ?_
  refine ax_sipush hX dX5_init_5 (v := 200) (by decide) ?_
  refine cx_newI hX (aty := .int) (t := 0) (N' := 200) (hl 1 _ rfl) (hz.up (by omega)) ac_int rfl (by decide) (by decide) rfl (by decide) (by decide) (by decide) (by decide) (by decide) (by decide) dX5_init_8 ?_
  refine cx_putF hX fRX5_9 rfl h2 (by decide) (by decide) fk_5_2 (by omega) rfl rfl dX5_init_10 ?_
  refine ax_aload_n hX dX5_init_13 (Or.inr ⟨_, rfl⟩) rfl ?_
  refine ax_sipush hX dX5_init_14 (v := 200) (by decide) ?_
  refine cx_newI hX (aty := .int) (t := 0) (N' := 200) (hl 2 _ rfl) (hz.up (by omega)) ac_int rfl (by decide) (by decide) rfl (by decide) (by decide) (by decide) (by decide) (by decide) (by decide) dX5_init_17 ?_
  refine cx_putF hX fRX5_15 rfl h2 (by decide) (by decide) fk_5_3 (by omega) rfl rfl dX5_init_19 ?_
  refine ax_aload_n hX dX5_init_22 (Or.inr ⟨_, rfl⟩) rfl ?_
  refine ax_sipush hX dX5_init_23 (v := 200) (by decide) ?_
  refine cx_newI hX (aty := .int) (t := 0) (N' := 200) (hl 3 _ rfl) (hz.up (by omega)) ac_int rfl (by decide) (by decide) rfl (by decide) (by decide) (by decide) (by decide) (by decide) (by decide) dX5_init_26 ?_
  refine cx_putF hX fRX5_18 rfl h2 (by decide) (by decide) fk_5_4 (by omega) rfl rfl dX5_init_28 ?_
  refine ax_aload_n hX dX5_init_31 (Or.inr ⟨_, rfl⟩) rfl ?_
  refine ax_sipush hX dX5_init_32 (v := 200) (by decide) ?_
  refine cx_newI hX (aty := .int) (t := 0) (N' := 200) (hl 4 _ rfl) (hz.up (by omega)) ac_int rfl (by decide) (by decide) rfl (by decide) (by decide) (by decide) (by decide) (by decide) (by decide) dX5_init_35 ?_
  refine cx_putF hX fRX5_21 rfl h2 (by decide) (by decide) fk_5_5 (by omega) rfl rfl dX5_init_37 ?_
  refine ax_aload_n hX dX5_init_40 (Or.inr ⟨_, rfl⟩) rfl ?_
  refine ax_sipush hX dX5_init_41 (v := 200) (by decide) ?_
  refine cx_newI hX (aty := .int) (t := 0) (N' := 200) (hl 5 _ rfl) (hz.up (by omega)) ac_int rfl (by decide) (by decide) rfl (by decide) (by decide) (by decide) (by decide) (by decide) (by decide) dX5_init_44 ?_
  refine cx_putF hX fRX5_24 rfl h2 (by decide) (by decide) fk_5_6 (by omega) rfl rfl dX5_init_46 ?_
  refine ax_aload_n hX dX5_init_49 (Or.inr ⟨_, rfl⟩) rfl ?_
  refine ax_sipush hX dX5_init_50 (v := 200) (by decide) ?_
  refine cx_newI hX (aty := .int) (t := 0) (N' := 200) (hl 6 _ rfl) (hz.up (by omega)) ac_int rfl (by decide) (by decide) rfl (by decide) (by decide) (by decide) (by decide) (by decide) (by decide) dX5_init_53 ?_
  refine cx_putF hX fRX5_27 rfl h2 (by decide) (by decide) fk_5_7 (by omega) rfl rfl dX5_init_55 ?_
  refine ax_aload_n hX dX5_init_58 (Or.inr ⟨_, rfl⟩) rfl ?_
  refine ax_sipush hX dX5_init_59 (v := 200) (by decide) ?_
  refine cx_newI hX (aty := .int) (t := 0) (N' := 200) (hl 7 _ rfl) (hz.up (by omega)) ac_int rfl (by decide) (by decide) rfl (by decide) (by decide) (by decide) (by decide) (by decide) (by decide) dX5_init_62 ?_
  refine cx_putF hX fRX5_30 rfl h2 (by decide) (by decide) fk_5_8 (by omega) rfl rfl dX5_init_64 ?_
  rw [cq_skip (c' := 9) (by decide) (by decide), cq_end (show ly a = .inr 5 from hl 0 _ rfl)]
  exact hR.2.2.2 _ _ _ _ _ (by decide) (by decide) dX5_init_67 rfl ⟨rfl, rfl⟩
set_option maxRecDepth 10000 in
theorem ct9 {d a : Nat} {f : Nat → ax_C} {T : tT} (h2 : 2 ≤ a) (hz : nz T a) (hl : lyl a lyC9) : ctK (d + 1) mX9_init a 9 7 2 f T T := by
  refine ax_enter (by decide +kernel) (Nat.le_of_ble_eq_true rfl) (fun X hX hR => ?_)
  refine ax_aload_n hX dX9_init_0 (Or.inr ⟨_, rfl⟩) rfl ?_
  refine ax_obj hX lRX9_3 im_obj cd_obj (Nat.le_of_ble_eq_true rfl) dX9_init_1 ?_
  refine ax_aload_n hX dX9_init_4 (Or.inr ⟨_, rfl⟩) rfl ?_
  refine ax_sipush hX dX9_init_5 (v := 1400) (by decide) ?_
  refine cx_newI hX (aty := .byte) (t := 2) (N' := 1400) (hl 1 _ rfl) (hz.up (by omega)) ac_byte rfl (by decide) (by decide) rfl (by decide) (by decide) (by decide) (by decide) (by decide) (by decide) dX9_init_8 ?_
  refine cx_putF hX fRX9_9 rfl h2 (by decide) (by decide) fk_9_0 (by omega) rfl rfl dX9_init_10 ?_
  rw [cq_skip (c' := 7) (by decide) (by decide), cq_end (show ly a = .inr 9 from hl 0 _ rfl)]
  exact hR.2.2.2 _ _ _ _ _ (by decide) (by decide) dX9_init_13 rfl ⟨rfl, rfl⟩
