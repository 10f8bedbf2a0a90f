/-! constructors with loops and with objects inside -/
def syTn (T : tT) (p : Nat) : Nat → tT
  | 0 => T
  | i + 1 => tP (syTn T p i) (p + 1) i (some (p + 3 + 7 * i))
theorem syTn_o {T : tT} {p : Nat} : ∀ (i : Nat) {j : Nat}, j ≠ p + 1 → (syTn T p i).1 j = T.1 j ∧ (syTn T p i).2.1 j = T.2.1 j ∧ (syTn T p i).2.2 j = T.2.2 j
  | 0, _, _ => ⟨rfl, rfl, rfl⟩
  | i + 1, j, h => by
    obtain ⟨e1, e2, e3⟩ := syTn_o (T := T) (p := p) i h
    obtain ⟨g1, g2, g3⟩ := tP_o (T := syTn T p i) (a := p + 1) (i := i) (v := some (p + 3 + 7 * i)) j h
    exact ⟨g1.trans e1, g2.trans e2, g3.trans e3⟩
theorem nz_of {T T' : tT} {a b : Nat} (h : nz T a) (ho : ∀ j, b ≤ j → T'.1 j = T.1 j ∧ T'.2.1 j = T.2.1 j ∧ T'.2.2 j = T.2.2 j) (hab : a ≤ b) : nz T' b := fun k hk => by
  obtain ⟨e1, e2, e3⟩ := ho k hk
  rw [e1, e2, e3]
  exact h k (by omega)
theorem lyC8_3 : ∀ i, i < 8 → ∀ j, j < 7 → lyC8[3 + 7 * i + j]? = lyC3[j]? := by decide +kernel
theorem lyl_gr {a i : Nat} (hl : lyl a lyC8) (hi : i < 8) : lyl (a + 3 + 7 * i) lyC3 := by
  intro j x hx
  have hj : j < 7 := (List.getElem?_eq_some_iff.mp hx).1
  have := hl (3 + 7 * i + j) x (by rw [lyC8_3 i hi j hj]; exact hx)
  rw [← this]
  congr 1
  omega
set_option maxRecDepth 10000 in
theorem ct8 {d a : Nat} {f : Nat → ax_C} {T : tT} (h2 : 2 ≤ a) (hz : nz T a) (hl : lyl a lyC8) : ctK (d + 2) mX8_init a 8 4 59 f T (syTn T a 8) := by
  refine ax_enter (by decide +kernel) (Nat.le_of_ble_eq_true rfl) (fun X hX hR => ?_)
  refine ax_aload_n hX dX8_init_0 (Or.inr ⟨_, rfl⟩) rfl ?_
  refine ax_obj hX lRX8_3 im_obj cd_obj (Nat.le_of_ble_eq_true rfl) dX8_init_1 ?_
  refine ax_aload_n hX dX8_init_4 (Or.inr ⟨_, rfl⟩) rfl ?_
  refine ax_bipush hX dX8_init_5 (v := 8) (by decide) ?_
  refine cx_newR hX (t := 5) (N' := 8) kRX8_9 ao_RX3 rfl (by decide) (hl 1 _ rfl) (hz.up (by omega)) (by decide) (by decide) (by decide) (by decide) (by decide) dX8_init_7 ?_
  refine cx_putF hX fRX8_11 rfl h2 (by decide) (by decide) fk_8_0 (by omega) rfl rfl dX8_init_10 ?_
  refine ax_aload_n hX dX8_init_13 (Or.inr ⟨_, rfl⟩) rfl ?_
  refine ax_sipush hX dX8_init_14 (v := 750) (by decide) ?_
  refine cx_newI hX (aty := .int) (t := 0) (N' := 750) (hl 2 _ rfl) (hz.up (by omega)) ac_int rfl (by decide) (by decide) rfl (by decide) (by decide) (by decide) (by decide) (by decide) (by decide) dX8_init_17 ?_
  refine cx_putF hX fRX8_17 rfl h2 (by decide) (by decide) fk_8_1 (by omega) rfl rfl dX8_init_19 ?_
  rw [cq_skip (c' := 4) (by decide) (by decide), cq_end (show ly a = .inr 8 from hl 0 _ rfl)]
  refine ax_iconst hX dX8_init_22 (v := 0) (by decide) ?_
  refine ax_istore_n hX dX8_init_23 (by decide) (L' := [some (.ref a), some (.int 0)]) rfl ?_
  have loop : ∀ r i, i + r = 8 → ax_j X 24 [some (.ref a), some (.int (nI i))] [] (gn f a (a + 3 + 7 * i) (syTn T a i)) (2 + 7 * i) (758 + 117 * i) := by
    intro r
    induction r with
    | zero =>
      intro i hi
      have : i = 8 := by omega
      subst this
      refine ax_iload_n hX dX8_init_24 rfl ?_
      refine ax_bipush hX dX8_init_25 (v := 8) (by decide) ?_
      refine ax_icmp_ge hX dX8_init_27 (tgt := 49) (by decide) (fun _ => ?_) (fun c => absurd (by decide) c)
      exact hR.2.2.2 _ _ _ _ _ (by decide) (by decide) dX8_init_49 rfl ⟨rfl, rfl⟩
    | succ r ih =>
      intro i hi
      have hi8 : i < 8 := by omega
      have hz' : nz (syTn T a i) (a + 3 + 7 * i) := nz_of hz (fun j hj => syTn_o i (by omega)) (by omega)
      refine ax_iload_n hX dX8_init_24 rfl ?_
      refine ax_bipush hX dX8_init_25 (v := 8) (by decide) ?_
      refine ax_icmp_ge hX dX8_init_27 (tgt := 49) (by decide) (fun c => absurd c (show ¬ nI 8 ≤ nI i from nI_ge hi8 (by decide))) (fun _ => ?_)
      refine ax_aload_n hX dX8_init_30 (Or.inr ⟨_, rfl⟩) rfl ?_
      refine ax_getf hX fRX8_11 (v := .ref (a + 1)) ((gn_at (Nat.le_refl _) (by omega)).trans (tc_ob (show ly a = .inr 8 from hl 0 _ rfl))) (by unfold tf; rw [fk_8_0]) dX8_init_31 ?_
      refine ax_iload_n hX dX8_init_34 rfl ?_
      refine ax_new hX cl3 kRX8_9 inRX3 iiRX3 (fq_def hz' df3) (by show _ ≤ 58; omega) (by show _ ≤ 1694; omega) dX8_init_35 ?_
      rw [gn_new (by omega)]
      change ax_j X _ _ (.ref (a + 3 + 7 * i) :: _) _ _ _
      refine ax_dup hX dX8_init_38 rfl ?_
      refine ax_callN hX lRX8_21 im_X3_init cw_X3_init rfl rfl (A := []) rfl rfl (Nat.le_of_ble_eq_true rfl) (by show _ + 6 ≤ 58; omega) (by show _ + 104 ≤ 1694; omega) dX8_init_39 (ct3 (by omega) hz' (lyl_gr hl hi8)) ?_
      rintro _ _ ⟨rfl, rfl⟩
      rw [gn_gn (by omega) (by omega) (fun _ _ => ⟨rfl, rfl, rfl⟩)]
      refine ax_aastore hX (t := 5) (N := 8) (r := (RX3, TX3, 13)) ((gn_at (by omega) (by omega)).trans (tc_ra (hl 1 _ rfl) (by decide))) (by omega) (Or.inr rfl) ((gn_at (by omega) (by show a + 3 + 7 * i < _; omega)).trans (tc_ob (lyl_gr hl hi8 0 _ rfl))) rfl rfl (vp_in_nI hi8 (by decide)) dX8_init_42 ?_
      rw [nI_clamp (by omega : i < 2 ^ 31), gn_set (T' := syTn T a (i + 1)) (by omega) (by omega) (by rw [tc_ra (hl 1 _ rfl) (by decide)]; show ax_ra 5 8 (t2 (syTn T a i).2.2 (a + 1) i _ (a + 1)) = _; rw [t2_eq]) tP_o]
      refine ax_iinc hX dX8_init_43 rfl (w := nI (i + 1)) (nI_1 i) (by decide) (L' := [some (.ref a), some (.int (nI (i + 1)))]) rfl ?_
      refine ax_goto hX dX8_init_46 (tgt := 24) (by decide) ?_
      have := ih (i + 1) (by omega)
      rwa [show a + 3 + 7 * (i + 1) = a + 3 + 7 * i + 7 by omega, show 2 + 7 * (i + 1) = 2 + 7 * i + 1 + 6 by omega, show 758 + 117 * (i + 1) = 758 + 117 * i + 13 + 104 by omega] at this
  exact loop 8 0 (by omega)
