theorem lyl.seg {a : Nat} {l l' : List ((Nat × Nat) ⊕ Nat)} (h : lyl a l) (k : Nat) (hs : ∀ j, j < l'.length → l[k + j]? = l'[j]?) : lyl (a + k) l' := fun j x hx => by
  rw [Nat.add_assoc]; exact h _ _ ((hs j (List.getElem?_eq_some_iff.mp hx).1).trans hx)
def plTn (T : tT) (a : Nat) : Nat → tT
  | 0 => T
  | i + 1 => tI (plTn T a i) (a + 1) i (-1)
theorem plTn_o {T : tT} {a : Nat} : ∀ (i : Nat) {j : Nat}, j ≠ a + 1 → (plTn T a i).1 j = T.1 j ∧ (plTn T a i).2.1 j = T.2.1 j ∧ (plTn T a i).2.2 j = T.2.2 j
  | 0, _, _ => ⟨rfl, rfl, rfl⟩
  | i + 1, j, h => by
    obtain ⟨e1, e2, e3⟩ := plTn_o (T := T) (a := a) i h
    obtain ⟨g1, g2, g3⟩ := tI_o (T := plTn T a i) (a := a + 1) (i := i) (v := -1) j h
    exact ⟨g1.trans e1, g2.trans e2, g3.trans e3⟩
def mdTn (T : tT) (a : Nat) : Nat → tT
  | 0 => T
  | i + 1 => tI (mdTn T a i) (a + 3) i (nI i)
theorem mdTn_o {T : tT} {a : Nat} : ∀ (i : Nat) {j : Nat}, j ≠ a + 3 → (mdTn T a i).1 j = T.1 j ∧ (mdTn T a i).2.1 j = T.2.1 j ∧ (mdTn T a i).2.2 j = T.2.2 j
  | 0, _, _ => ⟨rfl, rfl, rfl⟩
  | i + 1, j, h => by
    obtain ⟨e1, e2, e3⟩ := mdTn_o (T := T) (a := a) i h
    obtain ⟨g1, g2, g3⟩ := tI_o (T := mdTn T a i) (a := a + 3) (i := i) (v := nI i) j h
    exact ⟨g1.trans e1, g2.trans e2, g3.trans e3⟩
def plT (T : tT) (a : Nat) : tT := plTn (tP (tP (tP (tP T a 5 (some (a + 1 + 3))) a 6 (some (a + 1 + 4))) a 7 (some (a + 1 + 5))) a 8 (some (a + 1 + 6))) a 9
set_option maxRecDepth 10000 in
theorem ct7 {d a : Nat} {f : Nat → ax_C} {T : tT} (h2 : 2 ≤ a) (hz : nz T a) (hl : lyl a lyC7) : ctK (d + 1) mX7_init a 7 9 8 f T (plT T a) := by
  refine ax_enter (by decide +kernel) (Nat.le_of_ble_eq_true rfl) (fun X hX hR => ?_)
  refine ax_aload_n hX dX7_init_0 (Or.inr ⟨_, rfl⟩) rfl ?_
  refine ax_obj hX lRX7_3 im_obj cd_obj (Nat.le_of_ble_eq_true rfl) dX7_init_1 ?_
  refine ax_aload_n hX dX7_init_4 (Or.inr ⟨_, rfl⟩) rfl ?_
  refine ax_bipush hX dX7_init_5 (v := 9) (by decide) ?_
  refine cx_newI hX (aty := .int) (t := 0) (N' := 9) (hl 1 _ rfl) (hz.up (by omega)) ac_int rfl (by decide) (by decide) rfl (by decide) (by decide) (by decide) (by decide) (by decide) (by decide) dX7_init_7 ?_
  refine cx_putF hX fRX7_9 rfl h2 (by decide) (by decide) fk_7_0 (by omega) rfl rfl dX7_init_9 ?_
  refine ax_aload_n hX dX7_init_12 (Or.inr ⟨_, rfl⟩) rfl ?_
  refine ax_bipush hX dX7_init_13 (v := 45) (by decide) ?_
  refine cx_newI hX (aty := .boolean) (t := 3) (N' := 45) (hl 2 _ rfl) (hz.up (by omega)) ac_boolean rfl (by decide) (by decide) rfl (by decide) (by decide) (by decide) (by decide) (by decide) (by decide) dX7_init_15 ?_
  refine cx_putF hX fRX7_15 rfl h2 (by decide) (by decide) fk_7_1 (by omega) rfl rfl dX7_init_17 ?_
  refine ax_aload_n hX dX7_init_20 (Or.inr ⟨_, rfl⟩) rfl ?_
  refine ax_bipush hX dX7_init_21 (v := 9) (by decide) ?_
  refine cx_newI hX (aty := .int) (t := 0) (N' := 9) (hl 3 _ rfl) (hz.up (by omega)) ac_int rfl (by decide) (by decide) rfl (by decide) (by decide) (by decide) (by decide) (by decide) (by decide) dX7_init_23 ?_
  refine cx_putF hX fRX7_19 rfl h2 (by decide) (by decide) fk_7_2 (by omega) rfl rfl dX7_init_25 ?_
  refine ax_aload_n hX dX7_init_28 (Or.inr ⟨_, rfl⟩) rfl ?_
  refine ax_bipush hX dX7_init_29 (v := 120) (by decide) ?_
  refine cx_newI hX (aty := .int) (t := 0) (N' := 120) (hl 4 _ rfl) (hz.up (by omega)) ac_int rfl (by decide) (by decide) rfl (by decide) (by decide) (by decide) (by decide) (by decide) (by decide) dX7_init_31 ?_
  refine cx_putP hX fRX7_22 h2 fk_7_5 rfl dX7_init_33 ?_
  have hz18 : nz (tP T a 5 (some (a + 1 + 3))) (a + 1) := fun q hq => by
    obtain ⟨e1, e2, e3⟩ := tP_o (T := T) (a := a) (i := 5) (v := (some (a + 1 + 3))) q (by omega)
    rw [e1, e2, e3]; exact hz.up (by omega) q hq
  refine ax_aload_n hX dX7_init_36 (Or.inr ⟨_, rfl⟩) rfl ?_
  refine ax_bipush hX dX7_init_37 (v := 120) (by decide) ?_
  refine cx_newI hX (aty := .int) (t := 0) (N' := 120) (hl 5 _ rfl) (hz18.up (by omega)) ac_int rfl (by decide) (by decide) rfl (by decide) (by decide) (by decide) (by decide) (by decide) (by decide) dX7_init_39 ?_
  refine cx_putP hX fRX7_25 h2 fk_7_6 rfl dX7_init_41 ?_
  have hz25 : nz (tP (tP T a 5 (some (a + 1 + 3))) a 6 (some (a + 1 + 4))) (a + 1) := fun q hq => by
    obtain ⟨e1, e2, e3⟩ := tP_o (T := (tP T a 5 (some (a + 1 + 3)))) (a := a) (i := 6) (v := (some (a + 1 + 4))) q (by omega)
    rw [e1, e2, e3]; exact hz18 q hq
  refine ax_aload_n hX dX7_init_44 (Or.inr ⟨_, rfl⟩) rfl ?_
  refine ax_bipush hX dX7_init_45 (v := 120) (by decide) ?_
  refine cx_newL hX (N' := 120) (hl 6 _ rfl) (hz25.up (by omega)) (by decide) (by decide) (by decide) (by decide) (by decide) dX7_init_47 ?_
  refine cx_putP hX fRX7_28 h2 fk_7_7 rfl dX7_init_49 ?_
  have hz32 : nz (tP (tP (tP T a 5 (some (a + 1 + 3))) a 6 (some (a + 1 + 4))) a 7 (some (a + 1 + 5))) (a + 1) := fun q hq => by
    obtain ⟨e1, e2, e3⟩ := tP_o (T := (tP (tP T a 5 (some (a + 1 + 3))) a 6 (some (a + 1 + 4)))) (a := a) (i := 7) (v := (some (a + 1 + 5))) q (by omega)
    rw [e1, e2, e3]; exact hz25 q hq
  refine ax_aload_n hX dX7_init_52 (Or.inr ⟨_, rfl⟩) rfl ?_
  refine ax_bipush hX dX7_init_53 (v := 120) (by decide) ?_
  refine cx_newL hX (N' := 120) (hl 7 _ rfl) (hz32.up (by omega)) (by decide) (by decide) (by decide) (by decide) (by decide) dX7_init_55 ?_
  refine cx_putP hX fRX7_32 h2 fk_7_8 rfl dX7_init_57 ?_
  have hz39 : nz (tP (tP (tP (tP T a 5 (some (a + 1 + 3))) a 6 (some (a + 1 + 4))) a 7 (some (a + 1 + 5))) a 8 (some (a + 1 + 6))) (a + 1) := fun q hq => by
    obtain ⟨e1, e2, e3⟩ := tP_o (T := (tP (tP (tP T a 5 (some (a + 1 + 3))) a 6 (some (a + 1 + 4))) a 7 (some (a + 1 + 5)))) (a := a) (i := 8) (v := (some (a + 1 + 6))) q (by omega)
    rw [e1, e2, e3]; exact hz32 q hq
  refine ax_iconst hX dX7_init_60 (v := 0) (by decide) ?_
  rw [cq_skip (c' := 9) (by decide) (by decide), cq_end (show ly a = .inr 7 from hl 0 _ rfl)]
  refine ax_istore_n hX dX7_init_61 (by decide) (L' := [some (.ref a), some (.int 0)]) rfl ?_
  have loop : ∀ r i, i + r = 9 → ax_j X 62 [some (.ref a), some (.int (nI i))] [] (gn f a (a + 8) (plTn (tP (tP (tP (tP T a 5 (some (a + 1 + 3))) a 6 (some (a + 1 + 4))) a 7 (some (a + 1 + 5))) a 8 (some (a + 1 + 6))) a i)) 7 543 := by
    intro r
    induction r with
    | zero =>
      intro i hi
      have : i = 9 := by omega
      subst this
      refine ax_iload_n hX dX7_init_62 rfl ?_
      refine ax_bipush hX dX7_init_63 (v := 9) (by decide) ?_
      refine ax_icmp_ge hX dX7_init_65 (tgt := 81) (by decide) (fun _ => ?_) (fun c => absurd (by decide) c)
      exact hR.2.2.2 _ _ _ _ _ (by decide) (by decide) dX7_init_81 rfl ⟨rfl, rfl⟩
    | succ r ih =>
      intro i hi
      have hi8 : i < 9 := by omega
      refine ax_iload_n hX dX7_init_62 rfl ?_
      refine ax_bipush hX dX7_init_63 (v := 9) (by decide) ?_
      refine ax_icmp_ge hX dX7_init_65 (tgt := 81) (by decide) (fun c => absurd c (show ¬ nI 9 ≤ nI i from nI_ge hi8 (by decide))) (fun _ => ?_)
      refine ax_aload_n hX dX7_init_68 (Or.inr ⟨_, rfl⟩) rfl ?_
      refine ax_getf hX fRX7_9 (v := .ref (a + 1)) ((gn_at (Nat.le_refl _) (by omega)).trans (tc_ob (show ly a = .inr 7 from hl 0 _ rfl))) (by unfold tf; rw [fk_7_0]) dX7_init_69 ?_
      refine ax_iload_n hX dX7_init_72 rfl ?_
      refine ax_iconst hX dX7_init_73 (v := -1) (by decide) ?_
      refine ax_iastore hX (N := 9) ((gn_at (by omega) (by omega)).trans (tc_ia (hl 1 _ rfl) (by decide) (by decide))) (by omega) (vp_in_nI (by omega) (by decide)) dX7_init_74 ?_
      rw [nI_clamp (by omega : i < 2 ^ 31), gn_set (T' := plTn (tP (tP (tP (tP T a 5 (some (a + 1 + 3))) a 6 (some (a + 1 + 4))) a 7 (some (a + 1 + 5))) a 8 (some (a + 1 + 6))) a (i + 1)) (by omega) (by omega) (by rw [tc_ia (hl 1 _ rfl) (by decide) (by decide)]; show ax_ia 0 9 (t2 (plTn (tP (tP (tP (tP T a 5 (some (a + 1 + 3))) a 6 (some (a + 1 + 4))) a 7 (some (a + 1 + 5))) a 8 (some (a + 1 + 6))) a i).1 (a + 1) i _ (a + 1)) = _; rw [t2_eq]; rfl) tI_o]
      refine ax_iinc hX dX7_init_75 rfl (w := nI (i + 1)) (nI_1 i) (by decide) (L' := [some (.ref a), some (.int (nI (i + 1)))]) rfl ?_
      refine ax_goto hX dX7_init_78 (tgt := 62) (by decide) ?_
      exact ih (i + 1) (by omega)
  exact loop 9 0 (by omega)
def mdT (T : tT) (a : Nat) : tT := mdTn (tI (tI T a 5 (-1 : Int32)) a 12 (4 : Int32)) a 4
set_option maxHeartbeats 1000000 in
set_option maxRecDepth 10000 in
theorem ct11 {d a : Nat} {f : Nat → ax_C} {T : tT} (h2 : 2 ≤ a) (hz : nz T a) (hl : lyl a lyC11) : ctK (d + 1) mX11_init a 11 77 56 f T (mdT T a) := by
  refine ax_enter (by decide +kernel) (Nat.le_of_ble_eq_true rfl) (fun X hX hR => ?_)
  refine ax_aload_n hX dX11_init_0 (Or.inr ⟨_, rfl⟩) rfl ?_
  refine ax_obj hX lRX11_99 im_obj cd_obj (Nat.le_of_ble_eq_true rfl) dX11_init_1 ?_
  refine ax_aload_n hX dX11_init_4 (Or.inr ⟨_, rfl⟩) rfl ?_
  refine ax_sipush hX dX11_init_5 (v := 1420) (by decide) ?_
  refine cx_newI hX (aty := .byte) (t := 2) (N' := 1420) (hl 1 _ rfl) (hz.up (by omega)) ac_byte rfl (by decide) (by decide) rfl (by decide) (by decide) (by decide) (by decide) (by decide) (by decide) dX11_init_8 ?_
  refine cx_putF hX fRX11_104 rfl h2 (by decide) (by decide) fk_11_0 (by omega) rfl rfl dX11_init_10 ?_
  refine ax_aload_n hX dX11_init_13 (Or.inr ⟨_, rfl⟩) rfl ?_
  refine ax_sipush hX dX11_init_14 (v := 1400) (by decide) ?_
  refine cx_newI hX (aty := .byte) (t := 2) (N' := 1400) (hl 2 _ rfl) (hz.up (by omega)) ac_byte rfl (by decide) (by decide) rfl (by decide) (by decide) (by decide) (by decide) (by decide) (by decide) dX11_init_17 ?_
  refine cx_putF hX fRX11_7 rfl h2 (by decide) (by decide) fk_11_1 (by omega) rfl rfl dX11_init_19 ?_
  refine ax_aload_n hX dX11_init_22 (Or.inr ⟨_, rfl⟩) rfl ?_
  refine ax_iconst hX dX11_init_23 (v := -1) (by decide) ?_
  refine cx_putI hX fRX11_14 h2 fk_11_5 dX11_init_24 ?_
  have hz13 : nz (tI T a 5 (-1 : Int32)) (a + 1) := fun q hq => by
    obtain ⟨e1, e2, e3⟩ := tI_o (T := T) (a := a) (i := 5) (v := (-1 : Int32)) q (by omega)
    rw [e1, e2, e3]; exact hz.up (by omega) q hq
  refine ax_aload_n hX dX11_init_27 (Or.inr ⟨_, rfl⟩) rfl ?_
  refine ax_iconst hX dX11_init_28 (v := 4) (by decide) ?_
  refine cx_newI hX (aty := .int) (t := 0) (N' := 4) (hl 3 _ rfl) (hz13.up (by omega)) ac_int rfl (by decide) (by decide) rfl (by decide) (by decide) (by decide) (by decide) (by decide) (by decide) dX11_init_29 ?_
  refine cx_putF hX fRX11_107 rfl h2 (by decide) (by decide) fk_11_11 (by omega) rfl rfl dX11_init_31 ?_
  refine ax_aload_n hX dX11_init_34 (Or.inr ⟨_, rfl⟩) rfl ?_
  refine ax_iconst hX dX11_init_35 (v := 4) (by decide) ?_
  refine cx_putI hX fRX11_111 h2 fk_11_12 dX11_init_36 ?_
  have hz23 : nz (tI (tI T a 5 (-1 : Int32)) a 12 (4 : Int32)) (a + 1) := fun q hq => by
    obtain ⟨e1, e2, e3⟩ := tI_o (T := (tI T a 5 (-1 : Int32))) (a := a) (i := 12) (v := (4 : Int32)) q (by omega)
    rw [e1, e2, e3]; exact hz13 q hq
  refine ax_aload_n hX dX11_init_39 (Or.inr ⟨_, rfl⟩) rfl ?_
  refine ax_iconst hX dX11_init_40 (v := 4) (by decide) ?_
  refine cx_newI hX (aty := .boolean) (t := 3) (N' := 4) (hl 4 _ rfl) (hz23.up (by omega)) ac_boolean rfl (by decide) (by decide) rfl (by decide) (by decide) (by decide) (by decide) (by decide) (by decide) dX11_init_41 ?_
  refine cx_putF hX fRX11_114 rfl h2 (by decide) (by decide) fk_11_15 (by omega) rfl rfl dX11_init_43 ?_
  refine ax_aload_n hX dX11_init_46 (Or.inr ⟨_, rfl⟩) rfl ?_
  refine ax_bipush hX dX11_init_47 (v := 40) (by decide) ?_
  refine cx_newI hX (aty := .boolean) (t := 3) (N' := 40) (hl 5 _ rfl) (hz23.up (by omega)) ac_boolean rfl (by decide) (by decide) rfl (by decide) (by decide) (by decide) (by decide) (by decide) (by decide) dX11_init_49 ?_
  refine cx_putF hX fRX11_118 rfl h2 (by decide) (by decide) fk_11_16 (by omega) rfl rfl dX11_init_51 ?_
  refine ax_aload_n hX dX11_init_54 (Or.inr ⟨_, rfl⟩) rfl ?_
  refine ax_bipush hX dX11_init_55 (v := 40) (by decide) ?_
  refine cx_newI hX (aty := .int) (t := 0) (N' := 40) (hl 6 _ rfl) (hz23.up (by omega)) ac_int rfl (by decide) (by decide) rfl (by decide) (by decide) (by decide) (by decide) (by decide) (by decide) dX11_init_57 ?_
  refine cx_putF hX fRX11_121 rfl h2 (by decide) (by decide) fk_11_17 (by omega) rfl rfl dX11_init_59 ?_
  refine ax_aload_n hX dX11_init_62 (Or.inr ⟨_, rfl⟩) rfl ?_
  refine ax_sipush hX dX11_init_63 (v := 240) (by decide) ?_
  refine cx_newI hX (aty := .int) (t := 0) (N' := 240) (hl 7 _ rfl) (hz23.up (by omega)) ac_int rfl (by decide) (by decide) rfl (by decide) (by decide) (by decide) (by decide) (by decide) (by decide) dX11_init_66 ?_
  refine cx_putF hX fRX11_124 rfl h2 (by decide) (by decide) fk_11_18 (by omega) rfl rfl dX11_init_68 ?_
  refine ax_aload_n hX dX11_init_71 (Or.inr ⟨_, rfl⟩) rfl ?_
  refine ax_bipush hX dX11_init_72 (v := 40) (by decide) ?_
  refine cx_newI hX (aty := .int) (t := 0) (N' := 40) (hl 8 _ rfl) (hz23.up (by omega)) ac_int rfl (by decide) (by decide) rfl (by decide) (by decide) (by decide) (by decide) (by decide) (by decide) dX11_init_74 ?_
  refine cx_putF hX fRX11_127 rfl h2 (by decide) (by decide) fk_11_19 (by omega) rfl rfl dX11_init_76 ?_
  refine ax_aload_n hX dX11_init_79 (Or.inr ⟨_, rfl⟩) rfl ?_
  refine ax_sipush hX dX11_init_80 (v := 240) (by decide) ?_
  refine cx_newI hX (aty := .int) (t := 0) (N' := 240) (hl 9 _ rfl) (hz23.up (by omega)) ac_int rfl (by decide) (by decide) rfl (by decide) (by decide) (by decide) (by decide) (by decide) (by decide) dX11_init_83 ?_
  refine cx_putF hX fRX11_130 rfl h2 (by decide) (by decide) fk_11_20 (by omega) rfl rfl dX11_init_85 ?_
  refine ax_aload_n hX dX11_init_88 (Or.inr ⟨_, rfl⟩) rfl ?_
  refine ax_bipush hX dX11_init_89 (v := 40) (by decide) ?_
  refine cx_newI hX (aty := .int) (t := 0) (N' := 40) (hl 10 _ rfl) (hz23.up (by omega)) ac_int rfl (by decide) (by decide) rfl (by decide) (by decide) (by decide) (by decide) (by decide) (by decide) dX11_init_91 ?_
  refine cx_putF hX fRX11_133 rfl h2 (by decide) (by decide) fk_11_21 (by omega) rfl rfl dX11_init_93 ?_
  refine ax_aload_n hX dX11_init_96 (Or.inr ⟨_, rfl⟩) rfl ?_
  refine ax_bipush hX dX11_init_97 (v := 40) (by decide) ?_
  refine cx_newI hX (aty := .int) (t := 0) (N' := 40) (hl 11 _ rfl) (hz23.up (by omega)) ac_int rfl (by decide) (by decide) rfl (by decide) (by decide) (by decide) (by decide) (by decide) (by decide) dX11_init_99 ?_
  refine cx_putF hX fRX11_136 rfl h2 (by decide) (by decide) fk_11_22 (by omega) rfl rfl dX11_init_101 ?_
  refine ax_aload_n hX dX11_init_104 (Or.inr ⟨_, rfl⟩) rfl ?_
  refine ax_sipush hX dX11_init_105 (v := 320) (by decide) ?_
  refine cx_newI hX (aty := .int) (t := 0) (N' := 320) (hl 12 _ rfl) (hz23.up (by omega)) ac_int rfl (by decide) (by decide) rfl (by decide) (by decide) (by decide) (by decide) (by decide) (by decide) dX11_init_108 ?_
  refine cx_putF hX fRX11_139 rfl h2 (by decide) (by decide) fk_11_23 (by omega) rfl rfl dX11_init_110 ?_
  refine ax_aload_n hX dX11_init_113 (Or.inr ⟨_, rfl⟩) rfl ?_
  refine ax_sipush hX dX11_init_114 (v := 320) (by decide) ?_
  refine cx_newI hX (aty := .int) (t := 0) (N' := 320) (hl 13 _ rfl) (hz23.up (by omega)) ac_int rfl (by decide) (by decide) rfl (by decide) (by decide) (by decide) (by decide) (by decide) (by decide) dX11_init_117 ?_
  refine cx_putF hX fRX11_142 rfl h2 (by decide) (by decide) fk_11_24 (by omega) rfl rfl dX11_init_119 ?_
  refine ax_aload_n hX dX11_init_122 (Or.inr ⟨_, rfl⟩) rfl ?_
  refine ax_bipush hX dX11_init_123 (v := 40) (by decide) ?_
  refine cx_newI hX (aty := .int) (t := 0) (N' := 40) (hl 14 _ rfl) (hz23.up (by omega)) ac_int rfl (by decide) (by decide) rfl (by decide) (by decide) (by decide) (by decide) (by decide) (by decide) dX11_init_125 ?_
  refine cx_putF hX fRX11_145 rfl h2 (by decide) (by decide) fk_11_25 (by omega) rfl rfl dX11_init_127 ?_
  refine ax_aload_n hX dX11_init_130 (Or.inr ⟨_, rfl⟩) rfl ?_
  refine ax_bipush hX dX11_init_131 (v := 40) (by decide) ?_
  refine cx_newI hX (aty := .int) (t := 0) (N' := 40) (hl 15 _ rfl) (hz23.up (by omega)) ac_int rfl (by decide) (by decide) rfl (by decide) (by decide) (by decide) (by decide) (by decide) (by decide) dX11_init_133 ?_
  refine cx_putF hX fRX11_148 rfl h2 (by decide) (by decide) fk_11_26 (by omega) rfl rfl dX11_init_135 ?_
  refine ax_aload_n hX dX11_init_138 (Or.inr ⟨_, rfl⟩) rfl ?_
  refine ax_bipush hX dX11_init_139 (v := 40) (by decide) ?_
  refine cx_newI hX (aty := .int) (t := 0) (N' := 40) (hl 16 _ rfl) (hz23.up (by omega)) ac_int rfl (by decide) (by decide) rfl (by decide) (by decide) (by decide) (by decide) (by decide) (by decide) dX11_init_141 ?_
  refine cx_putF hX fRX11_151 rfl h2 (by decide) (by decide) fk_11_27 (by omega) rfl rfl dX11_init_143 ?_
  refine ax_aload_n hX dX11_init_146 (Or.inr ⟨_, rfl⟩) rfl ?_
  refine ax_bipush hX dX11_init_147 (v := 40) (by decide) ?_
  refine cx_newI hX (aty := .int) (t := 0) (N' := 40) (hl 17 _ rfl) (hz23.up (by omega)) ac_int rfl (by decide) (by decide) rfl (by decide) (by decide) (by decide) (by decide) (by decide) (by decide) dX11_init_149 ?_
  refine cx_putF hX fRX11_154 rfl h2 (by decide) (by decide) fk_11_28 (by omega) rfl rfl dX11_init_151 ?_
  refine ax_aload_n hX dX11_init_154 (Or.inr ⟨_, rfl⟩) rfl ?_
  refine ax_sipush hX dX11_init_155 (v := 7500) (by decide) ?_
  refine cx_newI hX (aty := .int) (t := 0) (N' := 7500) (hl 18 _ rfl) (hz23.up (by omega)) ac_int rfl (by decide) (by decide) rfl (by decide) (by decide) (by decide) (by decide) (by decide) (by decide) dX11_init_158 ?_
  refine cx_putF hX fRX11_157 rfl h2 (by decide) (by decide) fk_11_29 (by omega) rfl rfl dX11_init_160 ?_
  refine ax_aload_n hX dX11_init_163 (Or.inr ⟨_, rfl⟩) rfl ?_
  refine ax_sipush hX dX11_init_164 (v := 7500) (by decide) ?_
  refine cx_newI hX (aty := .int) (t := 0) (N' := 7500) (hl 19 _ rfl) (hz23.up (by omega)) ac_int rfl (by decide) (by decide) rfl (by decide) (by decide) (by decide) (by decide) (by decide) (by decide) dX11_init_167 ?_
  refine cx_putF hX fRX11_160 rfl h2 (by decide) (by decide) fk_11_30 (by omega) rfl rfl dX11_init_169 ?_
  refine ax_aload_n hX dX11_init_172 (Or.inr ⟨_, rfl⟩) rfl ?_
  refine ax_iconst hX dX11_init_173 (v := 5) (by decide) ?_
  refine cx_newI hX (aty := .int) (t := 0) (N' := 5) (hl 20 _ rfl) (hz23.up (by omega)) ac_int rfl (by decide) (by decide) rfl (by decide) (by decide) (by decide) (by decide) (by decide) (by decide) dX11_init_174 ?_
  refine cx_putF hX fRX11_163 rfl h2 (by decide) (by decide) fk_11_31 (by omega) rfl rfl dX11_init_176 ?_
  refine ax_aload_n hX dX11_init_179 (Or.inr ⟨_, rfl⟩) rfl ?_
  refine ax_sipush hX dX11_init_180 (v := 240) (by decide) ?_
  refine cx_newL hX (N' := 240) (hl 21 _ rfl) (hz23.up (by omega)) (by decide) (by decide) (by decide) (by decide) (by decide) dX11_init_183 ?_
  refine cx_putF hX fRX11_166 rfl h2 (by decide) (by decide) fk_11_32 (by omega) rfl rfl dX11_init_185 ?_
  refine ax_aload_n hX dX11_init_188 (Or.inr ⟨_, rfl⟩) rfl ?_
  refine ax_sipush hX dX11_init_189 (v := 2880) (by decide) ?_
  refine cx_newL hX (N' := 2880) (hl 22 _ rfl) (hz23.up (by omega)) (by decide) (by decide) (by decide) (by decide) (by decide) dX11_init_192 ?_
  refine cx_putF hX fRX11_170 rfl h2 (by decide) (by decide) fk_11_33 (by omega) rfl rfl dX11_init_194 ?_
  refine ax_aload_n hX dX11_init_197 (Or.inr ⟨_, rfl⟩) rfl ?_
  refine ax_sipush hX dX11_init_198 (v := 240) (by decide) ?_
  refine cx_newL hX (N' := 240) (hl 23 _ rfl) (hz23.up (by omega)) (by decide) (by decide) (by decide) (by decide) (by decide) dX11_init_201 ?_
  refine cx_putF hX fRX11_173 rfl h2 (by decide) (by decide) fk_11_34 (by omega) rfl rfl dX11_init_203 ?_
  refine ax_aload_n hX dX11_init_206 (Or.inr ⟨_, rfl⟩) rfl ?_
  refine ax_bipush hX dX11_init_207 (v := 80) (by decide) ?_
  refine cx_newI hX (aty := .int) (t := 0) (N' := 80) (hl 24 _ rfl) (hz23.up (by omega)) ac_int rfl (by decide) (by decide) rfl (by decide) (by decide) (by decide) (by decide) (by decide) (by decide) dX11_init_209 ?_
  refine cx_putF hX fRX11_176 rfl h2 (by decide) (by decide) fk_11_35 (by omega) rfl rfl dX11_init_211 ?_
  refine ax_aload_n hX dX11_init_214 (Or.inr ⟨_, rfl⟩) rfl ?_
  refine ax_bipush hX dX11_init_215 (v := 80) (by decide) ?_
  refine cx_newI hX (aty := .int) (t := 0) (N' := 80) (hl 25 _ rfl) (hz23.up (by omega)) ac_int rfl (by decide) (by decide) rfl (by decide) (by decide) (by decide) (by decide) (by decide) (by decide) dX11_init_217 ?_
  refine cx_putF hX fRX11_179 rfl h2 (by decide) (by decide) fk_11_36 (by omega) rfl rfl dX11_init_219 ?_
  refine ax_aload_n hX dX11_init_222 (Or.inr ⟨_, rfl⟩) rfl ?_
  refine ax_bipush hX dX11_init_223 (v := 40) (by decide) ?_
  refine cx_newI hX (aty := .int) (t := 0) (N' := 40) (hl 26 _ rfl) (hz23.up (by omega)) ac_int rfl (by decide) (by decide) rfl (by decide) (by decide) (by decide) (by decide) (by decide) (by decide) dX11_init_225 ?_
  refine cx_putF hX fRX11_182 rfl h2 (by decide) (by decide) fk_11_39 (by omega) rfl rfl dX11_init_227 ?_
  refine ax_aload_n hX dX11_init_230 (Or.inr ⟨_, rfl⟩) rfl ?_
  refine ax_bipush hX dX11_init_231 (v := 40) (by decide) ?_
  refine cx_newI hX (aty := .int) (t := 0) (N' := 40) (hl 27 _ rfl) (hz23.up (by omega)) ac_int rfl (by decide) (by decide) rfl (by decide) (by decide) (by decide) (by decide) (by decide) (by decide) dX11_init_233 ?_
  refine cx_putF hX fRX11_185 rfl h2 (by decide) (by decide) fk_11_40 (by omega) rfl rfl dX11_init_235 ?_
  refine ax_aload_n hX dX11_init_238 (Or.inr ⟨_, rfl⟩) rfl ?_
  refine ax_bipush hX dX11_init_239 (v := 40) (by decide) ?_
  refine cx_newI hX (aty := .int) (t := 0) (N' := 40) (hl 28 _ rfl) (hz23.up (by omega)) ac_int rfl (by decide) (by decide) rfl (by decide) (by decide) (by decide) (by decide) (by decide) (by decide) dX11_init_241 ?_
  refine cx_putF hX fRX11_188 rfl h2 (by decide) (by decide) fk_11_41 (by omega) rfl rfl dX11_init_243 ?_
  refine ax_aload_n hX dX11_init_246 (Or.inr ⟨_, rfl⟩) rfl ?_
  refine ax_bipush hX dX11_init_247 (v := 40) (by decide) ?_
  refine cx_newI hX (aty := .int) (t := 0) (N' := 40) (hl 29 _ rfl) (hz23.up (by omega)) ac_int rfl (by decide) (by decide) rfl (by decide) (by decide) (by decide) (by decide) (by decide) (by decide) dX11_init_249 ?_
  refine cx_putF hX fRX11_191 rfl h2 (by decide) (by decide) fk_11_42 (by omega) rfl rfl dX11_init_251 ?_
  refine ax_aload_n hX dX11_init_254 (Or.inr ⟨_, rfl⟩) rfl ?_
  refine ax_bipush hX dX11_init_255 (v := 40) (by decide) ?_
  refine cx_newI hX (aty := .int) (t := 0) (N' := 40) (hl 30 _ rfl) (hz23.up (by omega)) ac_int rfl (by decide) (by decide) rfl (by decide) (by decide) (by decide) (by decide) (by decide) (by decide) dX11_init_257 ?_
  refine cx_putF hX fRX11_194 rfl h2 (by decide) (by decide) fk_11_43 (by omega) rfl rfl dX11_init_259 ?_
  refine ax_aload_n hX dX11_init_262 (Or.inr ⟨_, rfl⟩) rfl ?_
  refine ax_bipush hX dX11_init_263 (v := 40) (by decide) ?_
  refine cx_newI hX (aty := .int) (t := 0) (N' := 40) (hl 31 _ rfl) (hz23.up (by omega)) ac_int rfl (by decide) (by decide) rfl (by decide) (by decide) (by decide) (by decide) (by decide) (by decide) dX11_init_265 ?_
  refine cx_putF hX fRX11_197 rfl h2 (by decide) (by decide) fk_11_44 (by omega) rfl rfl dX11_init_267 ?_
  refine ax_aload_n hX dX11_init_270 (Or.inr ⟨_, rfl⟩) rfl ?_
  refine ax_bipush hX dX11_init_271 (v := 40) (by decide) ?_
  refine cx_newI hX (aty := .int) (t := 0) (N' := 40) (hl 32 _ rfl) (hz23.up (by omega)) ac_int rfl (by decide) (by decide) rfl (by decide) (by decide) (by decide) (by decide) (by decide) (by decide) dX11_init_273 ?_
  refine cx_putF hX fRX11_200 rfl h2 (by decide) (by decide) fk_11_45 (by omega) rfl rfl dX11_init_275 ?_
  refine ax_aload_n hX dX11_init_278 (Or.inr ⟨_, rfl⟩) rfl ?_
  refine ax_bipush hX dX11_init_279 (v := 40) (by decide) ?_
  refine cx_newI hX (aty := .int) (t := 0) (N' := 40) (hl 33 _ rfl) (hz23.up (by omega)) ac_int rfl (by decide) (by decide) rfl (by decide) (by decide) (by decide) (by decide) (by decide) (by decide) dX11_init_281 ?_
  refine cx_putF hX fRX11_203 rfl h2 (by decide) (by decide) fk_11_46 (by omega) rfl rfl dX11_init_283 ?_
  refine ax_aload_n hX dX11_init_286 (Or.inr ⟨_, rfl⟩) rfl ?_
  refine ax_sipush hX dX11_init_287 (v := 160) (by decide) ?_
  refine cx_newL hX (N' := 160) (hl 34 _ rfl) (hz23.up (by omega)) (by decide) (by decide) (by decide) (by decide) (by decide) dX11_init_290 ?_
  refine cx_putF hX fRX11_206 rfl h2 (by decide) (by decide) fk_11_47 (by omega) rfl rfl dX11_init_292 ?_
  refine ax_aload_n hX dX11_init_295 (Or.inr ⟨_, rfl⟩) rfl ?_
  refine ax_sipush hX dX11_init_296 (v := 200) (by decide) ?_
  refine cx_newI hX (aty := .int) (t := 0) (N' := 200) (hl 35 _ rfl) (hz23.up (by omega)) ac_int rfl (by decide) (by decide) rfl (by decide) (by decide) (by decide) (by decide) (by decide) (by decide) dX11_init_299 ?_
  refine cx_putF hX fRX11_209 rfl h2 (by decide) (by decide) fk_11_49 (by omega) rfl rfl dX11_init_301 ?_
  refine ax_aload_n hX dX11_init_304 (Or.inr ⟨_, rfl⟩) rfl ?_
  refine ax_bipush hX dX11_init_305 (v := 6) (by decide) ?_
  refine cx_newI hX (aty := .int) (t := 0) (N' := 6) (hl 36 _ rfl) (hz23.up (by omega)) ac_int rfl (by decide) (by decide) rfl (by decide) (by decide) (by decide) (by decide) (by decide) (by decide) dX11_init_307 ?_
  refine cx_putF hX fRX11_212 rfl h2 (by decide) (by decide) fk_11_50 (by omega) rfl rfl dX11_init_309 ?_
  refine ax_aload_n hX dX11_init_312 (Or.inr ⟨_, rfl⟩) rfl ?_
  refine ax_bipush hX dX11_init_313 (v := 64) (by decide) ?_
  refine cx_newI hX (aty := .int) (t := 0) (N' := 64) (hl 37 _ rfl) (hz23.up (by omega)) ac_int rfl (by decide) (by decide) rfl (by decide) (by decide) (by decide) (by decide) (by decide) (by decide) dX11_init_315 ?_
  refine cx_putF hX fRX11_215 rfl h2 (by decide) (by decide) fk_11_51 (by omega) rfl rfl dX11_init_317 ?_
  refine ax_aload_n hX dX11_init_320 (Or.inr ⟨_, rfl⟩) rfl ?_
  refine ax_iconst hX dX11_init_321 (v := 5) (by decide) ?_
  refine cx_newI hX (aty := .int) (t := 0) (N' := 5) (hl 38 _ rfl) (hz23.up (by omega)) ac_int rfl (by decide) (by decide) rfl (by decide) (by decide) (by decide) (by decide) (by decide) (by decide) dX11_init_322 ?_
  refine cx_putF hX fRX11_218 rfl h2 (by decide) (by decide) fk_11_52 (by omega) rfl rfl dX11_init_324 ?_
  refine ax_aload_n hX dX11_init_327 (Or.inr ⟨_, rfl⟩) rfl ?_
  refine ax_iconst hX dX11_init_328 (v := 5) (by decide) ?_
  refine cx_newI hX (aty := .int) (t := 0) (N' := 5) (hl 39 _ rfl) (hz23.up (by omega)) ac_int rfl (by decide) (by decide) rfl (by decide) (by decide) (by decide) (by decide) (by decide) (by decide) dX11_init_329 ?_
  refine cx_putF hX fRX11_221 rfl h2 (by decide) (by decide) fk_11_53 (by omega) rfl rfl dX11_init_331 ?_
  refine ax_aload_n hX dX11_init_334 (Or.inr ⟨_, rfl⟩) rfl ?_
  refine ax_bipush hX dX11_init_335 (v := 9) (by decide) ?_
  refine cx_newI hX (aty := .int) (t := 0) (N' := 9) (hl 40 _ rfl) (hz23.up (by omega)) ac_int rfl (by decide) (by decide) rfl (by decide) (by decide) (by decide) (by decide) (by decide) (by decide) dX11_init_337 ?_
  refine cx_putF hX fRX11_224 rfl h2 (by decide) (by decide) fk_11_54 (by omega) rfl rfl dX11_init_339 ?_
  refine ax_aload_n hX dX11_init_342 (Or.inr ⟨_, rfl⟩) rfl ?_
  refine ax_bipush hX dX11_init_343 (v := 9) (by decide) ?_
  refine cx_newI hX (aty := .int) (t := 0) (N' := 9) (hl 41 _ rfl) (hz23.up (by omega)) ac_int rfl (by decide) (by decide) rfl (by decide) (by decide) (by decide) (by decide) (by decide) (by decide) dX11_init_345 ?_
  refine cx_putF hX fRX11_227 rfl h2 (by decide) (by decide) fk_11_55 (by omega) rfl rfl dX11_init_347 ?_
  refine ax_aload_n hX dX11_init_350 (Or.inr ⟨_, rfl⟩) rfl ?_
  refine ax_sipush hX dX11_init_351 (v := 2560) (by decide) ?_
  refine cx_newI hX (aty := .int) (t := 0) (N' := 2560) (hl 42 _ rfl) (hz23.up (by omega)) ac_int rfl (by decide) (by decide) rfl (by decide) (by decide) (by decide) (by decide) (by decide) (by decide) dX11_init_354 ?_
  refine cx_putF hX fRX11_230 rfl h2 (by decide) (by decide) fk_11_59 (by omega) rfl rfl dX11_init_356 ?_
  refine ax_aload_n hX dX11_init_359 (Or.inr ⟨_, rfl⟩) rfl ?_
  refine ax_sipush hX dX11_init_360 (v := 3072) (by decide) ?_
  refine cx_newI hX (aty := .int) (t := 0) (N' := 3072) (hl 43 _ rfl) (hz23.up (by omega)) ac_int rfl (by decide) (by decide) rfl (by decide) (by decide) (by decide) (by decide) (by decide) (by decide) dX11_init_363 ?_
  refine cx_putF hX fRX11_233 rfl h2 (by decide) (by decide) fk_11_60 (by omega) rfl rfl dX11_init_365 ?_
  refine ax_aload_n hX dX11_init_368 (Or.inr ⟨_, rfl⟩) rfl ?_
  refine ax_bipush hX dX11_init_369 (v := 9) (by decide) ?_
  refine cx_newI hX (aty := .int) (t := 0) (N' := 9) (hl 44 _ rfl) (hz23.up (by omega)) ac_int rfl (by decide) (by decide) rfl (by decide) (by decide) (by decide) (by decide) (by decide) (by decide) dX11_init_371 ?_
  refine cx_putF hX fRX11_236 rfl h2 (by decide) (by decide) fk_11_61 (by omega) rfl rfl dX11_init_373 ?_
  refine ax_aload_n hX dX11_init_376 (Or.inr ⟨_, rfl⟩) rfl ?_
  refine ax_bipush hX dX11_init_377 (v := 9) (by decide) ?_
  refine cx_newI hX (aty := .int) (t := 0) (N' := 9) (hl 45 _ rfl) (hz23.up (by omega)) ac_int rfl (by decide) (by decide) rfl (by decide) (by decide) (by decide) (by decide) (by decide) (by decide) dX11_init_379 ?_
  refine cx_putF hX fRX11_239 rfl h2 (by decide) (by decide) fk_11_62 (by omega) rfl rfl dX11_init_381 ?_
  refine ax_aload_n hX dX11_init_384 (Or.inr ⟨_, rfl⟩) rfl ?_
  refine ax_sipush hX dX11_init_385 (v := 200) (by decide) ?_
  refine cx_newI hX (aty := .int) (t := 0) (N' := 200) (hl 46 _ rfl) (hz23.up (by omega)) ac_int rfl (by decide) (by decide) rfl (by decide) (by decide) (by decide) (by decide) (by decide) (by decide) dX11_init_388 ?_
  refine cx_putF hX fRX11_242 rfl h2 (by decide) (by decide) fk_11_64 (by omega) rfl rfl dX11_init_390 ?_
  refine ax_aload_n hX dX11_init_393 (Or.inr ⟨_, rfl⟩) rfl ?_
  refine ax_sipush hX dX11_init_394 (v := 200) (by decide) ?_
  refine cx_newI hX (aty := .int) (t := 0) (N' := 200) (hl 47 _ rfl) (hz23.up (by omega)) ac_int rfl (by decide) (by decide) rfl (by decide) (by decide) (by decide) (by decide) (by decide) (by decide) dX11_init_397 ?_
  refine cx_putF hX fRX11_245 rfl h2 (by decide) (by decide) fk_11_65 (by omega) rfl rfl dX11_init_399 ?_
  refine ax_aload_n hX dX11_init_402 (Or.inr ⟨_, rfl⟩) rfl ?_
  refine ax_sipush hX dX11_init_403 (v := 200) (by decide) ?_
  refine cx_newI hX (aty := .int) (t := 0) (N' := 200) (hl 48 _ rfl) (hz23.up (by omega)) ac_int rfl (by decide) (by decide) rfl (by decide) (by decide) (by decide) (by decide) (by decide) (by decide) dX11_init_406 ?_
  refine cx_putF hX fRX11_248 rfl h2 (by decide) (by decide) fk_11_66 (by omega) rfl rfl dX11_init_408 ?_
  refine ax_aload_n hX dX11_init_411 (Or.inr ⟨_, rfl⟩) rfl ?_
  refine ax_sipush hX dX11_init_412 (v := 200) (by decide) ?_
  refine cx_newI hX (aty := .int) (t := 0) (N' := 200) (hl 49 _ rfl) (hz23.up (by omega)) ac_int rfl (by decide) (by decide) rfl (by decide) (by decide) (by decide) (by decide) (by decide) (by decide) dX11_init_415 ?_
  refine cx_putF hX fRX11_251 rfl h2 (by decide) (by decide) fk_11_67 (by omega) rfl rfl dX11_init_417 ?_
  refine ax_aload_n hX dX11_init_420 (Or.inr ⟨_, rfl⟩) rfl ?_
  refine ax_sipush hX dX11_init_421 (v := 200) (by decide) ?_
  refine cx_newI hX (aty := .int) (t := 0) (N' := 200) (hl 50 _ rfl) (hz23.up (by omega)) ac_int rfl (by decide) (by decide) rfl (by decide) (by decide) (by decide) (by decide) (by decide) (by decide) dX11_init_424 ?_
  refine cx_putF hX fRX11_254 rfl h2 (by decide) (by decide) fk_11_68 (by omega) rfl rfl dX11_init_426 ?_
  refine ax_aload_n hX dX11_init_429 (Or.inr ⟨_, rfl⟩) rfl ?_
  refine ax_sipush hX dX11_init_430 (v := 200) (by decide) ?_
  refine cx_newI hX (aty := .int) (t := 0) (N' := 200) (hl 51 _ rfl) (hz23.up (by omega)) ac_int rfl (by decide) (by decide) rfl (by decide) (by decide) (by decide) (by decide) (by decide) (by decide) dX11_init_433 ?_
  refine cx_putF hX fRX11_257 rfl h2 (by decide) (by decide) fk_11_69 (by omega) rfl rfl dX11_init_435 ?_
  refine ax_aload_n hX dX11_init_438 (Or.inr ⟨_, rfl⟩) rfl ?_
  refine ax_sipush hX dX11_init_439 (v := 1000) (by decide) ?_
  refine cx_newI hX (aty := .int) (t := 0) (N' := 1000) (hl 52 _ rfl) (hz23.up (by omega)) ac_int rfl (by decide) (by decide) rfl (by decide) (by decide) (by decide) (by decide) (by decide) (by decide) dX11_init_442 ?_
  refine cx_putF hX fRX11_260 rfl h2 (by decide) (by decide) fk_11_72 (by omega) rfl rfl dX11_init_444 ?_
  refine ax_aload_n hX dX11_init_447 (Or.inr ⟨_, rfl⟩) rfl ?_
  refine ax_bipush hX dX11_init_448 (v := 61) (by decide) ?_
  refine cx_newI hX (aty := .int) (t := 0) (N' := 61) (hl 53 _ rfl) (hz23.up (by omega)) ac_int rfl (by decide) (by decide) rfl (by decide) (by decide) (by decide) (by decide) (by decide) (by decide) dX11_init_450 ?_
  refine cx_putF hX fRX11_263 rfl h2 (by decide) (by decide) fk_11_73 (by omega) rfl rfl dX11_init_452 ?_
  refine ax_aload_n hX dX11_init_455 (Or.inr ⟨_, rfl⟩) rfl ?_
  refine ax_bipush hX dX11_init_456 (v := 61) (by decide) ?_
  refine cx_newI hX (aty := .int) (t := 0) (N' := 61) (hl 54 _ rfl) (hz23.up (by omega)) ac_int rfl (by decide) (by decide) rfl (by decide) (by decide) (by decide) (by decide) (by decide) (by decide) dX11_init_458 ?_
  refine cx_putF hX fRX11_266 rfl h2 (by decide) (by decide) fk_11_74 (by omega) rfl rfl dX11_init_460 ?_
  refine ax_aload_n hX dX11_init_463 (Or.inr ⟨_, rfl⟩) rfl ?_
  refine ax_bipush hX dX11_init_464 (v := 61) (by decide) ?_
  refine cx_newI hX (aty := .int) (t := 0) (N' := 61) (hl 55 _ rfl) (hz23.up (by omega)) ac_int rfl (by decide) (by decide) rfl (by decide) (by decide) (by decide) (by decide) (by decide) (by decide) dX11_init_466 ?_
  refine cx_putF hX fRX11_269 rfl h2 (by decide) (by decide) fk_11_75 (by omega) rfl rfl dX11_init_468 ?_
  refine ax_iconst hX dX11_init_471 (v := 0) (by decide) ?_
  rw [cq_skip (c' := 77) (by decide) (by decide), cq_end (show ly a = .inr 11 from hl 0 _ rfl)]
  refine ax_istore_n hX dX11_init_472 (by decide) (L' := [some (.ref a), some (.int 0)]) rfl ?_
  have loop : ∀ r i, i + r = 4 → ax_j X 473 [some (.ref a), some (.int (nI i))] [] (gn f a (a + 56) (mdTn (tI (tI T a 5 (-1 : Int32)) a 12 (4 : Int32)) a i)) 55 31644 := by
    intro r
    induction r with
    | zero =>
      intro i hi
      have : i = 4 := by omega
      subst this
      refine ax_iload_n hX dX11_init_473 rfl ?_
      refine ax_iconst hX dX11_init_474 (v := 4) (by decide) ?_
      refine ax_icmp_ge hX dX11_init_475 (tgt := 491) (by decide) (fun _ => ?_) (fun c => absurd (by decide) c)
      exact hR.2.2.2 _ _ _ _ _ (by decide) (by decide) dX11_init_491 rfl ⟨rfl, rfl⟩
    | succ r ih =>
      intro i hi
      have hi8 : i < 4 := by omega
      refine ax_iload_n hX dX11_init_473 rfl ?_
      refine ax_iconst hX dX11_init_474 (v := 4) (by decide) ?_
      refine ax_icmp_ge hX dX11_init_475 (tgt := 491) (by decide) (fun c => absurd c (show ¬ nI 4 ≤ nI i from nI_ge hi8 (by decide))) (fun _ => ?_)
      refine ax_aload_n hX dX11_init_478 (Or.inr ⟨_, rfl⟩) rfl ?_
      refine ax_getf hX fRX11_107 (v := .ref (a + 3)) ((gn_at (Nat.le_refl _) (by omega)).trans (tc_ob (show ly a = .inr 11 from hl 0 _ rfl))) (by unfold tf; rw [fk_11_11]) dX11_init_479 ?_
      refine ax_iload_n hX dX11_init_482 rfl ?_
      refine ax_iload_n hX dX11_init_483 rfl ?_
      refine ax_iastore hX (N := 4) ((gn_at (by omega) (by omega)).trans (tc_ia (hl 3 _ rfl) (by decide) (by decide))) (by omega) (vp_in_nI (by omega) (by decide)) dX11_init_484 ?_
      rw [nI_clamp (by omega : i < 2 ^ 31), gn_set (T' := mdTn (tI (tI T a 5 (-1 : Int32)) a 12 (4 : Int32)) a (i + 1)) (by omega) (by omega) (by rw [tc_ia (hl 3 _ rfl) (by decide) (by decide)]; show ax_ia 0 4 (t2 (mdTn (tI (tI T a 5 (-1 : Int32)) a 12 (4 : Int32)) a i).1 (a + 3) i _ (a + 3)) = _; rw [t2_eq]; rfl) tI_o]
      refine ax_iinc hX dX11_init_485 rfl (w := nI (i + 1)) (nI_1 i) (by decide) (L' := [some (.ref a), some (.int (nI (i + 1)))]) rfl ?_
      refine ax_goto hX dX11_init_488 (tgt := 473) (by decide) ?_
      exact ih (i + 1) (by omega)
  exact loop 4 0 (by omega)
def prT (T : tT) (a : Nat) : tT := tP (syTn (tI T a 2 (-1)) (a + 1 + 2) 8) a 3 (some (a + 1 + 2))
theorem prT_o {T : tT} {a j : Nat} (h1 : j ≠ a) (h2 : j ≠ a + 1 + 2 + 1) : (prT T a).1 j = T.1 j ∧ (prT T a).2.1 j = T.2.1 j ∧ (prT T a).2.2 j = T.2.2 j := by
  obtain ⟨e1, e2, e3⟩ := syTn_o (T := tI T a 2 (-1)) (p := a + 1 + 2) 8 h2
  obtain ⟨g1, g2, g3⟩ := tI_o (T := T) (a := a) (i := 2) (v := -1) j h1
  obtain ⟨k1, k2, k3⟩ := tP_o (T := syTn (tI T a 2 (-1)) (a + 1 + 2) 8) (a := a) (i := 3) (v := some (a + 1 + 2)) j h1
  exact ⟨k1.trans (e1.trans g1), k2.trans (e2.trans g2), k3.trans (e3.trans g3)⟩
theorem plT_o {T : tT} {a j : Nat} (h1 : j ≠ a) (h2 : j ≠ a + 1) : (plT T a).1 j = T.1 j ∧ (plT T a).2.1 j = T.2.1 j ∧ (plT T a).2.2 j = T.2.2 j := by
  unfold plT
  obtain ⟨e1, e2, e3⟩ := plTn_o (T := tP (tP (tP (tP T a 5 (some (a + 1 + 3))) a 6 (some (a + 1 + 4))) a 7 (some (a + 1 + 5))) a 8 (some (a + 1 + 6))) (a := a) 9 h2
  rw [e1, e2, e3]
  exact ⟨rfl, rfl, ((tP_o j h1).2.2.trans ((tP_o j h1).2.2.trans ((tP_o j h1).2.2.trans (tP_o j h1).2.2)))⟩
set_option maxRecDepth 10000 in
theorem ct6 {d a : Nat} {f : Nat → ax_C} {T : tT} (h2 : 2 ≤ a) (hz : nz T a) (hl : lyl a lyC6) : ctK (d + 3) mX6_init a 6 6 62 f T (prT T a) := by
  refine ax_enter (by decide +kernel) (Nat.le_of_ble_eq_true rfl) (fun X hX hR => ?_)
  refine ax_aload_n hX dX6_init_0 (Or.inr ⟨_, rfl⟩) rfl ?_
  refine ax_obj hX lRX6_3 im_obj cd_obj (Nat.le_of_ble_eq_true rfl) dX6_init_1 ?_
  refine ax_aload_n hX dX6_init_4 (Or.inr ⟨_, rfl⟩) rfl ?_
  refine cx_new hX cl9 kRX6_9 inRX9 iiRX9 rfl (hz.up (by omega)) df9 (by decide) (by decide) dX6_init_5 ?_
  refine ax_dup hX dX6_init_8 rfl ?_
  refine ax_callN hX lRX6_11 im_X9_init cw_X9_init rfl rfl (A := []) rfl rfl (Nat.le_of_ble_eq_true rfl) (by decide) (by decide) dX6_init_9 (ct9 (by omega) (hz.up (by omega)) (hl.seg 1 (by decide +kernel))) ?_
  rintro _ _ ⟨rfl, rfl⟩
  rw [cq_out (fun _ _ => ⟨rfl, rfl, rfl⟩)]
  refine cx_putF hX fRX6_12 rfl h2 (by decide) (by decide) fk_6_0 (by omega) rfl rfl dX6_init_12 ?_
  refine ax_aload_n hX dX6_init_15 (Or.inr ⟨_, rfl⟩) rfl ?_
  refine ax_iconst hX dX6_init_16 (v := -1) (by decide) ?_
  refine cx_putI hX fRX6_18 h2 fk_6_2 dX6_init_17 ?_
  have hz1 : nz (tI T a 2 (-1)) (a + 1 + 2) := nz_of hz (fun j hj => tI_o j (by omega)) (by omega)
  refine ax_aload_n hX dX6_init_20 (Or.inr ⟨_, rfl⟩) rfl ?_
  refine cx_new hX cl8 kRX6_22 inRX8 iiRX8 rfl hz1 df8 (by decide) (by decide) dX6_init_21 ?_
  refine ax_dup hX dX6_init_24 rfl ?_
  refine ax_callI hX lRX6_24 im_X8_init cw_X8_init rfl rfl (A := []) rfl rfl (Nat.le_of_ble_eq_true rfl) (by decide) (by decide) dX6_init_25 (ct8 (by omega) hz1 (hl.seg 3 (by decide +kernel))) ?_
  rintro _ _ ⟨rfl, rfl⟩
  rw [cq_out (fun j hj => syTn_o 8 (by omega))]
  refine cx_putP hX fRX6_25 h2 fk_6_3 rfl dX6_init_28 ?_
  rw [cq_skip (c' := 6) (by decide) (by decide), cq_end (show ly a = .inr 6 from hl 0 _ rfl)]
  exact hR.2.2.2 _ _ _ _ _ (by decide) (by decide) dX6_init_31 rfl ⟨rfl, rfl⟩
def exT (T : tT) (a : Nat) : tT := (plT (prT T (a + 1 + 0)) (a + 1 + 82))
set_option maxRecDepth 10000 in
theorem ct10 {d a : Nat} {f : Nat → ax_C} {T : tT} (h2 : 2 ≤ a) (hz : nz T a) (hl : lyl a lyC10) : ctK (d + 4) mX10_init a 10 8 103 f T (exT T a) := by
  refine ax_enter (by decide +kernel) (Nat.le_of_ble_eq_true rfl) (fun X hX hR => ?_)
  refine ax_aload_n hX dX10_init_0 (Or.inr ⟨_, rfl⟩) rfl ?_
  refine ax_obj hX lRX10_3 im_obj cd_obj (Nat.le_of_ble_eq_true rfl) dX10_init_1 ?_
  refine ax_aload_n hX dX10_init_4 (Or.inr ⟨_, rfl⟩) rfl ?_
  refine cx_new hX cl6 kRX10_9 inRX6 iiRX6 rfl (hz.up (by omega)) df6 (by decide) (by decide) dX10_init_5 ?_
  refine ax_dup hX dX10_init_8 rfl ?_
  refine ax_callN hX lRX10_11 im_X6_init cw_X6_init rfl rfl (A := []) rfl rfl (Nat.le_of_ble_eq_true rfl) (by decide) (by decide) dX10_init_9 (ct6 (by omega) (hz.up (by omega)) (hl.seg 1 (by decide +kernel))) ?_
  rintro _ _ ⟨rfl, rfl⟩
  rw [cq_out (fun j hj => prT_o (by omega) (by omega))]
  have hz6 : nz (prT T (a + 1 + 0)) (a + 1 + 62) := nz_of (hz.up (by omega) : nz T (a + 1 + 0)) (fun j hj => prT_o (by omega) (by omega)) (by omega)
  refine cx_putF hX fRX10_12 rfl h2 (by decide) (by decide) fk_10_0 (by omega) rfl rfl dX10_init_12 ?_
  refine ax_aload_n hX dX10_init_15 (Or.inr ⟨_, rfl⟩) rfl ?_
  refine ax_iconst hX dX10_init_16 (v := 4) (by decide) ?_
  refine cx_newR hX (t := 4) (N' := 4) kRX10_16 ao_RX8 rfl (by decide) (hl 63 _ rfl) (hz6.up (by omega)) (by decide) (by decide) (by decide) (by decide) (by decide) dX10_init_17 ?_
  refine cx_putF hX fRX10_18 rfl h2 (by decide) (by decide) fk_10_1 (by omega) rfl rfl dX10_init_20 ?_
  refine ax_aload_n hX dX10_init_23 (Or.inr ⟨_, rfl⟩) rfl ?_
  refine cx_new hX cl4 kRX10_22 inRX4 iiRX4 rfl (hz6.up (by omega)) df4 (by decide) (by decide) dX10_init_24 ?_
  refine ax_dup hX dX10_init_27 rfl ?_
  refine ax_callN hX lRX10_24 im_X4_init cw_X4_init rfl rfl (A := []) rfl rfl (Nat.le_of_ble_eq_true rfl) (by decide) (by decide) dX10_init_28 (ct4 (by omega) (hz6.up (by omega)) (hl.seg 64 (by decide +kernel))) ?_
  rintro _ _ ⟨rfl, rfl⟩
  rw [cq_out (fun _ _ => ⟨rfl, rfl, rfl⟩)]
  refine cx_putF hX fRX10_25 rfl h2 (by decide) (by decide) fk_10_2 (by omega) rfl rfl dX10_init_31 ?_
  refine ax_aload_n hX dX10_init_34 (Or.inr ⟨_, rfl⟩) rfl ?_
  refine cx_new hX cl2 kRX10_29 inRX2 iiRX2 rfl (hz6.up (by omega)) df2 (by decide) (by decide) dX10_init_35 ?_
  refine ax_dup hX dX10_init_38 rfl ?_
  refine ax_callN hX lRX10_31 im_X2_init cw_X2_init rfl rfl (A := []) rfl rfl (Nat.le_of_ble_eq_true rfl) (by decide) (by decide) dX10_init_39 (ct2 (by omega) (hz6.up (by omega)) (hl.seg 67 (by decide +kernel))) ?_
  rintro _ _ ⟨rfl, rfl⟩
  rw [cq_out (fun _ _ => ⟨rfl, rfl, rfl⟩)]
  refine cx_putF hX fRX10_32 rfl h2 (by decide) (by decide) fk_10_3 (by omega) rfl rfl dX10_init_42 ?_
  refine ax_aload_n hX dX10_init_45 (Or.inr ⟨_, rfl⟩) rfl ?_
  refine cx_new hX cl1 kRX10_36 inRX1 iiRX1 rfl (hz6.up (by omega)) df1 (by decide) (by decide) dX10_init_46 ?_
  refine ax_dup hX dX10_init_49 rfl ?_
  refine ax_callN hX lRX10_38 im_X1_init cw_X1_init rfl rfl (A := []) rfl rfl (Nat.le_of_ble_eq_true rfl) (by decide) (by decide) dX10_init_50 (ct1 (by omega) (hz6.up (by omega)) (hl.seg 77 (by decide +kernel))) ?_
  rintro _ _ ⟨rfl, rfl⟩
  rw [cq_out (fun _ _ => ⟨rfl, rfl, rfl⟩)]
  refine cx_putF hX fRX10_39 rfl h2 (by decide) (by decide) fk_10_4 (by omega) rfl rfl dX10_init_53 ?_
  refine ax_aload_n hX dX10_init_56 (Or.inr ⟨_, rfl⟩) rfl ?_
  refine cx_new hX cl7 kRX10_43 inRX7 iiRX7 rfl (hz6.up (by omega)) df7 (by decide) (by decide) dX10_init_57 ?_
  refine ax_dup hX dX10_init_60 rfl ?_
  refine ax_callI hX lRX10_45 im_X7_init cw_X7_init rfl rfl (A := []) rfl rfl (Nat.le_of_ble_eq_true rfl) (by decide) (by decide) dX10_init_61 (ct7 (by omega) (hz6.up (by omega)) (hl.seg 83 (by decide +kernel))) ?_
  rintro _ _ ⟨rfl, rfl⟩
  rw [cq_out (fun j hj => plT_o (by omega) (by omega))]
  have hz7 : nz (plT (prT T (a + 1 + 0)) (a + 1 + 82)) (a + 1 + 90) := nz_of (hz6.up (by omega) : nz (prT T (a + 1 + 0)) (a + 1 + 82)) (fun j hj => plT_o (by omega) (by omega)) (by omega)
  refine cx_putF hX fRX10_46 rfl h2 (by decide) (by decide) fk_10_5 (by omega) rfl rfl dX10_init_64 ?_
  refine ax_aload_n hX dX10_init_67 (Or.inr ⟨_, rfl⟩) rfl ?_
  refine cx_new hX cl5 kRX10_50 inRX5 iiRX5 rfl (hz7.up (by omega)) df5 (by decide) (by decide) dX10_init_68 ?_
  refine ax_dup hX dX10_init_71 rfl ?_
  refine ax_callN hX lRX10_52 im_X5_init cw_X5_init rfl rfl (A := []) rfl rfl (Nat.le_of_ble_eq_true rfl) (by decide) (by decide) dX10_init_72 (ct5 (by omega) (hz7.up (by omega)) (hl.seg 91 (by decide +kernel))) ?_
  rintro _ _ ⟨rfl, rfl⟩
  rw [cq_out (fun _ _ => ⟨rfl, rfl, rfl⟩)]
  refine cx_putF hX fRX10_53 rfl h2 (by decide) (by decide) fk_10_6 (by omega) rfl rfl dX10_init_75 ?_
  refine ax_aload_n hX dX10_init_78 (Or.inr ⟨_, rfl⟩) rfl ?_
  refine cx_new hX cl0 kRX10_57 inRX0 iiRX0 rfl (hz7.up (by omega)) df0 (by decide) (by decide) dX10_init_79 ?_
  refine ax_dup hX dX10_init_82 rfl ?_
  refine ax_callN hX lRX10_59 im_X0_init cw_X0_init rfl rfl (A := []) rfl rfl (Nat.le_of_ble_eq_true rfl) (by decide) (by decide) dX10_init_83 (ct0 (by omega) (hz7.up (by omega)) (hl.seg 99 (by decide +kernel))) ?_
  rintro _ _ ⟨rfl, rfl⟩
  rw [cq_out (fun _ _ => ⟨rfl, rfl, rfl⟩)]
  refine cx_putF hX fRX10_60 rfl h2 (by decide) (by decide) fk_10_7 (by omega) rfl rfl dX10_init_86 ?_
  rw [cq_end (show ly a = .inr 10 from hl 0 _ rfl)]
  exact hR.2.2.2 _ _ _ _ _ (by decide) (by decide) dX10_init_89 rfl ⟨rfl, rfl⟩
