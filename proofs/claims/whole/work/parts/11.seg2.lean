set_option maxRecDepth 10000 in
theorem s_X6_readBoth_0 {X : ax_X} {d L sz : Nat} {T : tT} {Q : tT → Prop} (hX : ax_ok X mX6_readBoth (d + 1)) (hR : ax_Ret X mX6_readBoth (tv L sz Q)) (hsz : 161 ≤ sz) {q : Nat} (h_q : tgr sz q) (x1 : Int32) (hyp : ∃ Q1, tvK d mX6_readOne [.ref 3, .ref q, .int x1] L sz T Q1 ∧ ∀ (T1 : tT), Q1 T1 → (ax_j X 8 [some (.ref 3), some (.ref q), some (.int x1), some (.int (0 : Int32))] [] (th L sz T1) 0 0)) : ax_j X 0 [some (.ref 3), some (.ref q), some (.int x1), none] [] (th L sz T) 0 0 := by
  refine ax_aload_n hX dX6_readBoth_0 (Or.inr ⟨_, rfl⟩) rfl ?_
  refine ax_aload_n hX dX6_readBoth_1 (Or.inr ⟨_, rfl⟩) rfl ?_
  refine ax_iload_n hX dX6_readBoth_2 rfl ?_
  obtain ⟨Q1, hK, hyp⟩ := hyp
  refine ax_callV hX lRX6_143 im_X6_readOne sl_X6_readOne cw_X6_readOne ((th_at (by decide) (Nat.lt_of_lt_of_le (by decide) hsz)).trans (tc_ob ly_3)) rfl rfl (A := [.ref q, .int x1]) (st := []) rfl rfl (Nat.le_of_ble_eq_true rfl) (by decide) (by decide) dX6_readBoth_3 hK ?_
  rintro _ _ ⟨T1, rfl, rfl, hq⟩
  replace hyp := hyp T1 hq
  refine ax_iconst hX dX6_readBoth_6 (v := 0) (by decide) ?_
  refine ax_istore_n hX dX6_readBoth_7 (by decide) (L' := [some (.ref 3), some (.ref q), some (.int x1), some (.int (0 : Int32))]) rfl ?_
  exact ax_forget (L' := [some (.ref 3), some (.ref q), some (.int x1), some (.int (0 : Int32))]) (⟨rfl, ⟨rfl, ⟨rfl, ⟨rfl, trivial⟩⟩⟩⟩) hyp
set_option maxRecDepth 10000 in
theorem s_X6_readBoth_8 {X : ax_X} {d L sz : Nat} {T : tT} {Q : tT → Prop} (hX : ax_ok X mX6_readBoth (d + 1)) (hR : ax_Ret X mX6_readBoth (tv L sz Q)) (hsz : 161 ≤ sz) {q : Nat} (h_q : tgr sz q) (v2 : Int32) (v3 : Int32) (hyp : (((1400 : Int32) ≤ v3 → Q T) ∧ (¬ (1400 : Int32) ≤ v3 → ((¬ (T.1 3 1) = 0 → Q T) ∧ ((T.1 3 1) = 0 → ((¬ (T.1 4 2) = (208 : Int32) → Q T) ∧ ((T.1 4 2) = (208 : Int32) → ∃ Q1, tvK d mX9_next [.ref 4] L sz T Q1 ∧ ∀ (T1 : tT), Q1 T1 → (∃ Q1, tvK d mX6_readOne [.ref 3, .ref q, .int v2] L sz T1 Q1 ∧ ∀ (T2 : tT), Q1 T2 → ((((T2.2.2 3 3) = none → False) ∧ (∀ p3, (T2.2.2 3 3) = some p3 → tsy sz p3 ∧ ∃ Q1, tvK d mX8_addCell [.ref p3, .int (208 : Int32), .int (0 : Int32)] L sz T2 Q1 ∧ ∀ (T4 : tT), Q1 T4 → (ax_j X 8 [some (.ref 3), some (.ref q), some (.int v2), some (.int (v3 + (1 : Int32)))] [] (th L sz T4) 0 0)))))))))))) : ax_j X 8 [some (.ref 3), some (.ref q), some (.int v2), some (.int v3)] [] (th L sz T) 0 0 := by
  refine ax_iload_n hX dX6_readBoth_8 rfl ?_
  refine ax_sipush hX dX6_readBoth_9 (v := 1400) (by decide) ?_
  refine ax_icmp_ge hX dX6_readBoth_12 (tgt := 65) (by decide) (fun c => ?_) (fun c => ?_)
  · replace hyp := hyp.1 c
    exact hR.2.2.2 _ _ _ _ _ (by decide) (by decide) dX6_readBoth_65 rfl ⟨_, rfl, rfl, hyp⟩
  · replace hyp := hyp.2 c
    refine ax_aload_n hX dX6_readBoth_15 (Or.inr ⟨_, rfl⟩) rfl ?_
    refine tx_getI hX fRX6_29 ly_3 fk_6_1 (by decide) (Nat.lt_of_lt_of_le (by decide) hsz) dX6_readBoth_16 ?_
    refine ax_if_ne hX dX6_readBoth_19 (tgt := 65) (by decide) (fun c => ?_) (fun c => ?_)
    · replace hyp := hyp.1 c
      exact hR.2.2.2 _ _ _ _ _ (by decide) (by decide) dX6_readBoth_65 rfl ⟨_, rfl, rfl, hyp⟩
    · replace hyp := hyp.2 c
      refine ax_aload_n hX dX6_readBoth_22 (Or.inr ⟨_, rfl⟩) rfl ?_
      refine tx_getF hX fRX6_12 ly_3 (o := 1) (b := 4) fk_6_0 rfl (by decide) (Nat.lt_of_lt_of_le (by decide) hsz) dX6_readBoth_23 ?_
      refine tx_getI hX fRX6_41 ly_4 fk_9_2 (by decide) (Nat.lt_of_lt_of_le (by decide) hsz) dX6_readBoth_26 ?_
      refine ax_sipush hX dX6_readBoth_29 (v := 208) (by decide) ?_
      refine ax_icmp_ne hX dX6_readBoth_32 (tgt := 65) (by decide) (fun c => ?_) (fun c => ?_)
      · replace hyp := hyp.1 c
        exact hR.2.2.2 _ _ _ _ _ (by decide) (by decide) dX6_readBoth_65 rfl ⟨_, rfl, rfl, hyp⟩
      · replace hyp := hyp.2 c
        refine ax_aload_n hX dX6_readBoth_35 (Or.inr ⟨_, rfl⟩) rfl ?_
        refine tx_getF hX fRX6_12 ly_3 (o := 1) (b := 4) fk_6_0 rfl (by decide) (Nat.lt_of_lt_of_le (by decide) hsz) dX6_readBoth_36 ?_
        obtain ⟨Q1, hK, hyp⟩ := hyp
        refine ax_callV hX lRX6_48 im_X9_next sl_X9_next cw_X9_next ((th_at (by decide) (Nat.lt_of_lt_of_le (by decide) hsz)).trans (tc_ob ly_4)) rfl rfl (A := []) (st := []) rfl rfl (Nat.le_of_ble_eq_true rfl) (by decide) (by decide) dX6_readBoth_39 hK ?_
        rintro _ _ ⟨T1, rfl, rfl, hq⟩
        replace hyp := hyp T1 hq
        refine ax_aload_n hX dX6_readBoth_42 (Or.inr ⟨_, rfl⟩) rfl ?_
        refine ax_aload_n hX dX6_readBoth_43 (Or.inr ⟨_, rfl⟩) rfl ?_
        refine ax_iload_n hX dX6_readBoth_44 rfl ?_
        obtain ⟨Q1, hK, hyp⟩ := hyp
        refine ax_callV hX lRX6_143 im_X6_readOne sl_X6_readOne cw_X6_readOne ((th_at (by decide) (Nat.lt_of_lt_of_le (by decide) hsz)).trans (tc_ob ly_3)) rfl rfl (A := [.ref q, .int v2]) (st := []) rfl rfl (Nat.le_of_ble_eq_true rfl) (by decide) (by decide) dX6_readBoth_45 hK ?_
        rintro _ _ ⟨T2, rfl, rfl, hq⟩
        replace hyp := hyp T2 hq
        refine ax_aload_n hX dX6_readBoth_48 (Or.inr ⟨_, rfl⟩) rfl ?_
        rcases ho3 : (T2.2.2 3 3) with _ | p3
        · replace hyp := hyp.1 ho3
          refine tx_getP hX fRX6_25 ly_3 fk_6_3 (by decide) (Nat.lt_of_lt_of_le (by decide) hsz) (v := .null) (congrArg va_rf ho3) dX6_readBoth_49 ?_
          refine ax_sipush hX dX6_readBoth_52 (v := 208) (by decide) ?_
          refine ax_iconst hX dX6_readBoth_55 (v := 0) (by decide) ?_
          exact hyp.elim
        · obtain ⟨h_p3, hyp⟩ := hyp.2 p3 ho3
          refine tx_getP hX fRX6_25 ly_3 fk_6_3 (by decide) (Nat.lt_of_lt_of_le (by decide) hsz) (v := .ref p3) (congrArg va_rf ho3) dX6_readBoth_49 ?_
          refine ax_sipush hX dX6_readBoth_52 (v := 208) (by decide) ?_
          refine ax_iconst hX dX6_readBoth_55 (v := 0) (by decide) ?_
          obtain ⟨Q1, hK, hyp⟩ := hyp
          refine ax_callV hX lRX6_107 im_X8_addCell sl_X8_addCell cw_X8_addCell ((th_at (h_p3.ne 0 (by decide)) (h_p3.lt 0 (by decide))).trans (tc_ob h_p3.ly0)) rfl rfl (A := [.int (208 : Int32), .int (0 : Int32)]) (st := []) rfl rfl (Nat.le_of_ble_eq_true rfl) (by decide) (by decide) dX6_readBoth_56 hK ?_
          rintro _ _ ⟨T4, rfl, rfl, hq⟩
          replace hyp := hyp T4 hq
          refine ax_iinc hX dX6_readBoth_59 rfl (w := (v3 + (1 : Int32))) rfl (by decide) (L' := [some (.ref 3), some (.ref q), some (.int v2), some (.int (v3 + (1 : Int32)))]) rfl ?_
          refine ax_goto hX dX6_readBoth_62 (tgt := 8) (by decide) ?_
          exact ax_forget (L' := [some (.ref 3), some (.ref q), some (.int v2), some (.int (v3 + (1 : Int32)))]) (⟨rfl, ⟨rfl, ⟨rfl, ⟨rfl, trivial⟩⟩⟩⟩) hyp
set_option maxRecDepth 10000 in
theorem s_X6_readCompared_0 {X : ax_X} {d L sz : Nat} {T : tT} {Q : tT → Prop} (hX : ax_ok X mX6_readCompared (d + 1)) (hR : ax_Ret X mX6_readCompared (tv L sz Q)) (hsz : 161 ≤ sz) {q : Nat} (h_q : tgr sz q) (x1 : Int32) (hyp : ∃ Q1, tvK d mX6_readSum [.ref 3, .ref q, .int x1] L sz T Q1 ∧ ∀ (T1 : tT), Q1 T1 → (((¬ (T1.1 3 1) = 0 → Q T1) ∧ ((T1.1 3 1) = 0 → (((T1.1 4 2) = (60 : Int32) → ∃ Q1, tvK d mX9_next [.ref 4] L sz T1 Q1 ∧ ∀ (T2 : tT), Q1 T2 → (∃ Q1, tvK d mX6_readSum [.ref 3, .ref q, .int x1] L sz T2 Q1 ∧ ∀ (T3 : tT), Q1 T3 → ((((T3.2.2 3 3) = none → False) ∧ (∀ p4, (T3.2.2 3 3) = some p4 → tsy sz p4 ∧ ∃ Q1, tvK d mX8_addCell [.ref p4, .int (T1.1 4 2), .int (0 : Int32)] L sz T3 Q1 ∧ ∀ (T5 : tT), Q1 T5 → (Q T5)))))) ∧ (¬ (T1.1 4 2) = (60 : Int32) → (((T1.1 4 2) = (62 : Int32) → ∃ Q1, tvK d mX9_next [.ref 4] L sz T1 Q1 ∧ ∀ (T6 : tT), Q1 T6 → (∃ Q1, tvK d mX6_readSum [.ref 3, .ref q, .int x1] L sz T6 Q1 ∧ ∀ (T7 : tT), Q1 T7 → ((((T7.2.2 3 3) = none → False) ∧ (∀ p8, (T7.2.2 3 3) = some p8 → tsy sz p8 ∧ ∃ Q1, tvK d mX8_addCell [.ref p8, .int (T1.1 4 2), .int (0 : Int32)] L sz T7 Q1 ∧ ∀ (T9 : tT), Q1 T9 → (Q T9)))))) ∧ (¬ (T1.1 4 2) = (62 : Int32) → ((¬ (T1.1 4 2) = (61 : Int32) → Q T1) ∧ ((T1.1 4 2) = (61 : Int32) → ∃ Q1, tvK d mX9_next [.ref 4] L sz T1 Q1 ∧ ∀ (T10 : tT), Q1 T10 → (∃ Q1, tvK d mX6_readSum [.ref 3, .ref q, .int x1] L sz T10 Q1 ∧ ∀ (T11 : tT), Q1 T11 → ((((T11.2.2 3 3) = none → False) ∧ (∀ p12, (T11.2.2 3 3) = some p12 → tsy sz p12 ∧ ∃ Q1, tvK d mX8_addCell [.ref p12, .int (T1.1 4 2), .int (0 : Int32)] L sz T11 Q1 ∧ ∀ (T13 : tT), Q1 T13 → (Q T13))))))))))))))) : ax_j X 0 [some (.ref 3), some (.ref q), some (.int x1), none] [] (th L sz T) 0 0 := by
  refine ax_aload_n hX dX6_readCompared_0 (Or.inr ⟨_, rfl⟩) rfl ?_
  refine ax_aload_n hX dX6_readCompared_1 (Or.inr ⟨_, rfl⟩) rfl ?_
  refine ax_iload_n hX dX6_readCompared_2 rfl ?_
  obtain ⟨Q1, hK, hyp⟩ := hyp
  refine ax_callV hX lRX6_149 im_X6_readSum sl_X6_readSum cw_X6_readSum ((th_at (by decide) (Nat.lt_of_lt_of_le (by decide) hsz)).trans (tc_ob ly_3)) rfl rfl (A := [.ref q, .int x1]) (st := []) rfl rfl (Nat.le_of_ble_eq_true rfl) (by decide) (by decide) dX6_readCompared_3 hK ?_
  rintro _ _ ⟨T1, rfl, rfl, hq⟩
  replace hyp := hyp T1 hq
  refine ax_aload_n hX dX6_readCompared_6 (Or.inr ⟨_, rfl⟩) rfl ?_
  refine tx_getF hX fRX6_12 ly_3 (o := 1) (b := 4) fk_6_0 rfl (by decide) (Nat.lt_of_lt_of_le (by decide) hsz) dX6_readCompared_7 ?_
  refine tx_getI hX fRX6_41 ly_4 fk_9_2 (by decide) (Nat.lt_of_lt_of_le (by decide) hsz) dX6_readCompared_10 ?_
  refine ax_istore_n hX dX6_readCompared_13 (by decide) (L' := [some (.ref 3), some (.ref q), some (.int x1), some (.int (T1.1 4 2))]) rfl ?_
  refine ax_aload_n hX dX6_readCompared_14 (Or.inr ⟨_, rfl⟩) rfl ?_
  refine tx_getI hX fRX6_29 ly_3 fk_6_1 (by decide) (Nat.lt_of_lt_of_le (by decide) hsz) dX6_readCompared_15 ?_
  refine ax_if_ne hX dX6_readCompared_18 (tgt := 61) (by decide) (fun c => ?_) (fun c => ?_)
  · replace hyp := hyp.1 c
    exact hR.2.2.2 _ _ _ _ _ (by decide) (by decide) dX6_readCompared_61 rfl ⟨_, rfl, rfl, hyp⟩
  · replace hyp := hyp.2 c
    refine ax_iload_n hX dX6_readCompared_21 rfl ?_
    refine ax_bipush hX dX6_readCompared_22 (v := 60) (by decide) ?_
    refine ax_icmp_eq hX dX6_readCompared_24 (tgt := 39) (by decide) (fun c => ?_) (fun c => ?_)
    · replace hyp := hyp.1 c
      refine ax_aload_n hX dX6_readCompared_39 (Or.inr ⟨_, rfl⟩) rfl ?_
      refine tx_getF hX fRX6_12 ly_3 (o := 1) (b := 4) fk_6_0 rfl (by decide) (Nat.lt_of_lt_of_le (by decide) hsz) dX6_readCompared_40 ?_
      obtain ⟨Q1, hK, hyp⟩ := hyp
      refine ax_callV hX lRX6_48 im_X9_next sl_X9_next cw_X9_next ((th_at (by decide) (Nat.lt_of_lt_of_le (by decide) hsz)).trans (tc_ob ly_4)) rfl rfl (A := []) (st := []) rfl rfl (Nat.le_of_ble_eq_true rfl) (by decide) (by decide) dX6_readCompared_43 hK ?_
      rintro _ _ ⟨T2, rfl, rfl, hq⟩
      replace hyp := hyp T2 hq
      refine ax_aload_n hX dX6_readCompared_46 (Or.inr ⟨_, rfl⟩) rfl ?_
      refine ax_aload_n hX dX6_readCompared_47 (Or.inr ⟨_, rfl⟩) rfl ?_
      refine ax_iload_n hX dX6_readCompared_48 rfl ?_
      obtain ⟨Q1, hK, hyp⟩ := hyp
      refine ax_callV hX lRX6_149 im_X6_readSum sl_X6_readSum cw_X6_readSum ((th_at (by decide) (Nat.lt_of_lt_of_le (by decide) hsz)).trans (tc_ob ly_3)) rfl rfl (A := [.ref q, .int x1]) (st := []) rfl rfl (Nat.le_of_ble_eq_true rfl) (by decide) (by decide) dX6_readCompared_49 hK ?_
      rintro _ _ ⟨T3, rfl, rfl, hq⟩
      replace hyp := hyp T3 hq
      refine ax_aload_n hX dX6_readCompared_52 (Or.inr ⟨_, rfl⟩) rfl ?_
      rcases ho4 : (T3.2.2 3 3) with _ | p4
      · replace hyp := hyp.1 ho4
        refine tx_getP hX fRX6_25 ly_3 fk_6_3 (by decide) (Nat.lt_of_lt_of_le (by decide) hsz) (v := .null) (congrArg va_rf ho4) dX6_readCompared_53 ?_
        refine ax_iload_n hX dX6_readCompared_56 rfl ?_
        refine ax_iconst hX dX6_readCompared_57 (v := 0) (by decide) ?_
        exact hyp.elim
      · obtain ⟨h_p4, hyp⟩ := hyp.2 p4 ho4
        refine tx_getP hX fRX6_25 ly_3 fk_6_3 (by decide) (Nat.lt_of_lt_of_le (by decide) hsz) (v := .ref p4) (congrArg va_rf ho4) dX6_readCompared_53 ?_
        refine ax_iload_n hX dX6_readCompared_56 rfl ?_
        refine ax_iconst hX dX6_readCompared_57 (v := 0) (by decide) ?_
        obtain ⟨Q1, hK, hyp⟩ := hyp
        refine ax_callV hX lRX6_107 im_X8_addCell sl_X8_addCell cw_X8_addCell ((th_at (h_p4.ne 0 (by decide)) (h_p4.lt 0 (by decide))).trans (tc_ob h_p4.ly0)) rfl rfl (A := [.int (T1.1 4 2), .int (0 : Int32)]) (st := []) rfl rfl (Nat.le_of_ble_eq_true rfl) (by decide) (by decide) dX6_readCompared_58 hK ?_
        rintro _ _ ⟨T5, rfl, rfl, hq⟩
        replace hyp := hyp T5 hq
        exact hR.2.2.2 _ _ _ _ _ (by decide) (by decide) dX6_readCompared_61 rfl ⟨_, rfl, rfl, hyp⟩
    · replace hyp := hyp.2 c
      refine ax_iload_n hX dX6_readCompared_27 rfl ?_
      refine ax_bipush hX dX6_readCompared_28 (v := 62) (by decide) ?_
      refine ax_icmp_eq hX dX6_readCompared_30 (tgt := 39) (by decide) (fun c => ?_) (fun c => ?_)
      · replace hyp := hyp.1 c
        refine ax_aload_n hX dX6_readCompared_39 (Or.inr ⟨_, rfl⟩) rfl ?_
        refine tx_getF hX fRX6_12 ly_3 (o := 1) (b := 4) fk_6_0 rfl (by decide) (Nat.lt_of_lt_of_le (by decide) hsz) dX6_readCompared_40 ?_
        obtain ⟨Q1, hK, hyp⟩ := hyp
        refine ax_callV hX lRX6_48 im_X9_next sl_X9_next cw_X9_next ((th_at (by decide) (Nat.lt_of_lt_of_le (by decide) hsz)).trans (tc_ob ly_4)) rfl rfl (A := []) (st := []) rfl rfl (Nat.le_of_ble_eq_true rfl) (by decide) (by decide) dX6_readCompared_43 hK ?_
        rintro _ _ ⟨T6, rfl, rfl, hq⟩
        replace hyp := hyp T6 hq
        refine ax_aload_n hX dX6_readCompared_46 (Or.inr ⟨_, rfl⟩) rfl ?_
        refine ax_aload_n hX dX6_readCompared_47 (Or.inr ⟨_, rfl⟩) rfl ?_
        refine ax_iload_n hX dX6_readCompared_48 rfl ?_
        obtain ⟨Q1, hK, hyp⟩ := hyp
        refine ax_callV hX lRX6_149 im_X6_readSum sl_X6_readSum cw_X6_readSum ((th_at (by decide) (Nat.lt_of_lt_of_le (by decide) hsz)).trans (tc_ob ly_3)) rfl rfl (A := [.ref q, .int x1]) (st := []) rfl rfl (Nat.le_of_ble_eq_true rfl) (by decide) (by decide) dX6_readCompared_49 hK ?_
        rintro _ _ ⟨T7, rfl, rfl, hq⟩
        replace hyp := hyp T7 hq
        refine ax_aload_n hX dX6_readCompared_52 (Or.inr ⟨_, rfl⟩) rfl ?_
        rcases ho8 : (T7.2.2 3 3) with _ | p8
        · replace hyp := hyp.1 ho8
          refine tx_getP hX fRX6_25 ly_3 fk_6_3 (by decide) (Nat.lt_of_lt_of_le (by decide) hsz) (v := .null) (congrArg va_rf ho8) dX6_readCompared_53 ?_
          refine ax_iload_n hX dX6_readCompared_56 rfl ?_
          refine ax_iconst hX dX6_readCompared_57 (v := 0) (by decide) ?_
          exact hyp.elim
        · obtain ⟨h_p8, hyp⟩ := hyp.2 p8 ho8
          refine tx_getP hX fRX6_25 ly_3 fk_6_3 (by decide) (Nat.lt_of_lt_of_le (by decide) hsz) (v := .ref p8) (congrArg va_rf ho8) dX6_readCompared_53 ?_
          refine ax_iload_n hX dX6_readCompared_56 rfl ?_
          refine ax_iconst hX dX6_readCompared_57 (v := 0) (by decide) ?_
          obtain ⟨Q1, hK, hyp⟩ := hyp
          refine ax_callV hX lRX6_107 im_X8_addCell sl_X8_addCell cw_X8_addCell ((th_at (h_p8.ne 0 (by decide)) (h_p8.lt 0 (by decide))).trans (tc_ob h_p8.ly0)) rfl rfl (A := [.int (T1.1 4 2), .int (0 : Int32)]) (st := []) rfl rfl (Nat.le_of_ble_eq_true rfl) (by decide) (by decide) dX6_readCompared_58 hK ?_
          rintro _ _ ⟨T9, rfl, rfl, hq⟩
          replace hyp := hyp T9 hq
          exact hR.2.2.2 _ _ _ _ _ (by decide) (by decide) dX6_readCompared_61 rfl ⟨_, rfl, rfl, hyp⟩
      · replace hyp := hyp.2 c
        refine ax_iload_n hX dX6_readCompared_33 rfl ?_
        refine ax_bipush hX dX6_readCompared_34 (v := 61) (by decide) ?_
        refine ax_icmp_ne hX dX6_readCompared_36 (tgt := 61) (by decide) (fun c => ?_) (fun c => ?_)
        · replace hyp := hyp.1 c
          exact hR.2.2.2 _ _ _ _ _ (by decide) (by decide) dX6_readCompared_61 rfl ⟨_, rfl, rfl, hyp⟩
        · replace hyp := hyp.2 c
          refine ax_aload_n hX dX6_readCompared_39 (Or.inr ⟨_, rfl⟩) rfl ?_
          refine tx_getF hX fRX6_12 ly_3 (o := 1) (b := 4) fk_6_0 rfl (by decide) (Nat.lt_of_lt_of_le (by decide) hsz) dX6_readCompared_40 ?_
          obtain ⟨Q1, hK, hyp⟩ := hyp
          refine ax_callV hX lRX6_48 im_X9_next sl_X9_next cw_X9_next ((th_at (by decide) (Nat.lt_of_lt_of_le (by decide) hsz)).trans (tc_ob ly_4)) rfl rfl (A := []) (st := []) rfl rfl (Nat.le_of_ble_eq_true rfl) (by decide) (by decide) dX6_readCompared_43 hK ?_
          rintro _ _ ⟨T10, rfl, rfl, hq⟩
          replace hyp := hyp T10 hq
          refine ax_aload_n hX dX6_readCompared_46 (Or.inr ⟨_, rfl⟩) rfl ?_
          refine ax_aload_n hX dX6_readCompared_47 (Or.inr ⟨_, rfl⟩) rfl ?_
          refine ax_iload_n hX dX6_readCompared_48 rfl ?_
          obtain ⟨Q1, hK, hyp⟩ := hyp
          refine ax_callV hX lRX6_149 im_X6_readSum sl_X6_readSum cw_X6_readSum ((th_at (by decide) (Nat.lt_of_lt_of_le (by decide) hsz)).trans (tc_ob ly_3)) rfl rfl (A := [.ref q, .int x1]) (st := []) rfl rfl (Nat.le_of_ble_eq_true rfl) (by decide) (by decide) dX6_readCompared_49 hK ?_
          rintro _ _ ⟨T11, rfl, rfl, hq⟩
          replace hyp := hyp T11 hq
          refine ax_aload_n hX dX6_readCompared_52 (Or.inr ⟨_, rfl⟩) rfl ?_
          rcases ho12 : (T11.2.2 3 3) with _ | p12
          · replace hyp := hyp.1 ho12
            refine tx_getP hX fRX6_25 ly_3 fk_6_3 (by decide) (Nat.lt_of_lt_of_le (by decide) hsz) (v := .null) (congrArg va_rf ho12) dX6_readCompared_53 ?_
            refine ax_iload_n hX dX6_readCompared_56 rfl ?_
            refine ax_iconst hX dX6_readCompared_57 (v := 0) (by decide) ?_
            exact hyp.elim
          · obtain ⟨h_p12, hyp⟩ := hyp.2 p12 ho12
            refine tx_getP hX fRX6_25 ly_3 fk_6_3 (by decide) (Nat.lt_of_lt_of_le (by decide) hsz) (v := .ref p12) (congrArg va_rf ho12) dX6_readCompared_53 ?_
            refine ax_iload_n hX dX6_readCompared_56 rfl ?_
            refine ax_iconst hX dX6_readCompared_57 (v := 0) (by decide) ?_
            obtain ⟨Q1, hK, hyp⟩ := hyp
            refine ax_callV hX lRX6_107 im_X8_addCell sl_X8_addCell cw_X8_addCell ((th_at (h_p12.ne 0 (by decide)) (h_p12.lt 0 (by decide))).trans (tc_ob h_p12.ly0)) rfl rfl (A := [.int (T1.1 4 2), .int (0 : Int32)]) (st := []) rfl rfl (Nat.le_of_ble_eq_true rfl) (by decide) (by decide) dX6_readCompared_58 hK ?_
            rintro _ _ ⟨T13, rfl, rfl, hq⟩
            replace hyp := hyp T13 hq
            exact hR.2.2.2 _ _ _ _ _ (by decide) (by decide) dX6_readCompared_61 rfl ⟨_, rfl, rfl, hyp⟩
set_option maxRecDepth 10000 in
theorem s_X6_readE_0 {X : ax_X} {d L sz : Nat} {T : tT} {Q : tT → Prop} (hX : ax_ok X mX6_readE (d + 1)) (hR : ax_Ret X mX6_readE (tv L sz Q)) (hsz : 161 ≤ sz) {q : Nat} (h_q : tgr sz q) (x1 : Int32) (hyp : ∃ Q1, tvK d mX6_readBoth [.ref 3, .ref q, .int x1] L sz T Q1 ∧ ∀ (T1 : tT), Q1 T1 → (ax_j X 8 [some (.ref 3), some (.ref q), some (.int x1), some (.int (0 : Int32))] [] (th L sz T1) 0 0)) : ax_j X 0 [some (.ref 3), some (.ref q), some (.int x1), none] [] (th L sz T) 0 0 := by
  refine ax_aload_n hX dX6_readE_0 (Or.inr ⟨_, rfl⟩) rfl ?_
  refine ax_aload_n hX dX6_readE_1 (Or.inr ⟨_, rfl⟩) rfl ?_
  refine ax_iload_n hX dX6_readE_2 rfl ?_
  obtain ⟨Q1, hK, hyp⟩ := hyp
  refine ax_callV hX lRX6_140 im_X6_readBoth sl_X6_readBoth cw_X6_readBoth ((th_at (by decide) (Nat.lt_of_lt_of_le (by decide) hsz)).trans (tc_ob ly_3)) rfl rfl (A := [.ref q, .int x1]) (st := []) rfl rfl (Nat.le_of_ble_eq_true rfl) (by decide) (by decide) dX6_readE_3 hK ?_
  rintro _ _ ⟨T1, rfl, rfl, hq⟩
  replace hyp := hyp T1 hq
  refine ax_iconst hX dX6_readE_6 (v := 0) (by decide) ?_
  refine ax_istore_n hX dX6_readE_7 (by decide) (L' := [some (.ref 3), some (.ref q), some (.int x1), some (.int (0 : Int32))]) rfl ?_
  exact ax_forget (L' := [some (.ref 3), some (.ref q), some (.int x1), some (.int (0 : Int32))]) (⟨rfl, ⟨rfl, ⟨rfl, ⟨rfl, trivial⟩⟩⟩⟩) hyp
set_option maxRecDepth 10000 in
theorem s_X6_readE_8 {X : ax_X} {d L sz : Nat} {T : tT} {Q : tT → Prop} (hX : ax_ok X mX6_readE (d + 1)) (hR : ax_Ret X mX6_readE (tv L sz Q)) (hsz : 161 ≤ sz) {q : Nat} (h_q : tgr sz q) (v2 : Int32) (v3 : Int32) (hyp : (((1400 : Int32) ≤ v3 → Q T) ∧ (¬ (1400 : Int32) ≤ v3 → ((¬ (T.1 3 1) = 0 → Q T) ∧ ((T.1 3 1) = 0 → ((¬ (T.1 4 2) = (207 : Int32) → Q T) ∧ ((T.1 4 2) = (207 : Int32) → ∃ Q1, tvK d mX9_next [.ref 4] L sz T Q1 ∧ ∀ (T1 : tT), Q1 T1 → (∃ Q1, tvK d mX6_readBoth [.ref 3, .ref q, .int v2] L sz T1 Q1 ∧ ∀ (T2 : tT), Q1 T2 → ((((T2.2.2 3 3) = none → False) ∧ (∀ p3, (T2.2.2 3 3) = some p3 → tsy sz p3 ∧ ∃ Q1, tvK d mX8_addCell [.ref p3, .int (207 : Int32), .int (0 : Int32)] L sz T2 Q1 ∧ ∀ (T4 : tT), Q1 T4 → (ax_j X 8 [some (.ref 3), some (.ref q), some (.int v2), some (.int (v3 + (1 : Int32)))] [] (th L sz T4) 0 0)))))))))))) : ax_j X 8 [some (.ref 3), some (.ref q), some (.int v2), some (.int v3)] [] (th L sz T) 0 0 := by
  refine ax_iload_n hX dX6_readE_8 rfl ?_
  refine ax_sipush hX dX6_readE_9 (v := 1400) (by decide) ?_
  refine ax_icmp_ge hX dX6_readE_12 (tgt := 65) (by decide) (fun c => ?_) (fun c => ?_)
  · replace hyp := hyp.1 c
    exact hR.2.2.2 _ _ _ _ _ (by decide) (by decide) dX6_readE_65 rfl ⟨_, rfl, rfl, hyp⟩
  · replace hyp := hyp.2 c
    refine ax_aload_n hX dX6_readE_15 (Or.inr ⟨_, rfl⟩) rfl ?_
    refine tx_getI hX fRX6_29 ly_3 fk_6_1 (by decide) (Nat.lt_of_lt_of_le (by decide) hsz) dX6_readE_16 ?_
    refine ax_if_ne hX dX6_readE_19 (tgt := 65) (by decide) (fun c => ?_) (fun c => ?_)
    · replace hyp := hyp.1 c
      exact hR.2.2.2 _ _ _ _ _ (by decide) (by decide) dX6_readE_65 rfl ⟨_, rfl, rfl, hyp⟩
    · replace hyp := hyp.2 c
      refine ax_aload_n hX dX6_readE_22 (Or.inr ⟨_, rfl⟩) rfl ?_
      refine tx_getF hX fRX6_12 ly_3 (o := 1) (b := 4) fk_6_0 rfl (by decide) (Nat.lt_of_lt_of_le (by decide) hsz) dX6_readE_23 ?_
      refine tx_getI hX fRX6_41 ly_4 fk_9_2 (by decide) (Nat.lt_of_lt_of_le (by decide) hsz) dX6_readE_26 ?_
      refine ax_sipush hX dX6_readE_29 (v := 207) (by decide) ?_
      refine ax_icmp_ne hX dX6_readE_32 (tgt := 65) (by decide) (fun c => ?_) (fun c => ?_)
      · replace hyp := hyp.1 c
        exact hR.2.2.2 _ _ _ _ _ (by decide) (by decide) dX6_readE_65 rfl ⟨_, rfl, rfl, hyp⟩
      · replace hyp := hyp.2 c
        refine ax_aload_n hX dX6_readE_35 (Or.inr ⟨_, rfl⟩) rfl ?_
        refine tx_getF hX fRX6_12 ly_3 (o := 1) (b := 4) fk_6_0 rfl (by decide) (Nat.lt_of_lt_of_le (by decide) hsz) dX6_readE_36 ?_
        obtain ⟨Q1, hK, hyp⟩ := hyp
        refine ax_callV hX lRX6_48 im_X9_next sl_X9_next cw_X9_next ((th_at (by decide) (Nat.lt_of_lt_of_le (by decide) hsz)).trans (tc_ob ly_4)) rfl rfl (A := []) (st := []) rfl rfl (Nat.le_of_ble_eq_true rfl) (by decide) (by decide) dX6_readE_39 hK ?_
        rintro _ _ ⟨T1, rfl, rfl, hq⟩
        replace hyp := hyp T1 hq
        refine ax_aload_n hX dX6_readE_42 (Or.inr ⟨_, rfl⟩) rfl ?_
        refine ax_aload_n hX dX6_readE_43 (Or.inr ⟨_, rfl⟩) rfl ?_
        refine ax_iload_n hX dX6_readE_44 rfl ?_
        obtain ⟨Q1, hK, hyp⟩ := hyp
        refine ax_callV hX lRX6_140 im_X6_readBoth sl_X6_readBoth cw_X6_readBoth ((th_at (by decide) (Nat.lt_of_lt_of_le (by decide) hsz)).trans (tc_ob ly_3)) rfl rfl (A := [.ref q, .int v2]) (st := []) rfl rfl (Nat.le_of_ble_eq_true rfl) (by decide) (by decide) dX6_readE_45 hK ?_
        rintro _ _ ⟨T2, rfl, rfl, hq⟩
        replace hyp := hyp T2 hq
        refine ax_aload_n hX dX6_readE_48 (Or.inr ⟨_, rfl⟩) rfl ?_
        rcases ho3 : (T2.2.2 3 3) with _ | p3
        · replace hyp := hyp.1 ho3
          refine tx_getP hX fRX6_25 ly_3 fk_6_3 (by decide) (Nat.lt_of_lt_of_le (by decide) hsz) (v := .null) (congrArg va_rf ho3) dX6_readE_49 ?_
          refine ax_sipush hX dX6_readE_52 (v := 207) (by decide) ?_
          refine ax_iconst hX dX6_readE_55 (v := 0) (by decide) ?_
          exact hyp.elim
        · obtain ⟨h_p3, hyp⟩ := hyp.2 p3 ho3
          refine tx_getP hX fRX6_25 ly_3 fk_6_3 (by decide) (Nat.lt_of_lt_of_le (by decide) hsz) (v := .ref p3) (congrArg va_rf ho3) dX6_readE_49 ?_
          refine ax_sipush hX dX6_readE_52 (v := 207) (by decide) ?_
          refine ax_iconst hX dX6_readE_55 (v := 0) (by decide) ?_
          obtain ⟨Q1, hK, hyp⟩ := hyp
          refine ax_callV hX lRX6_107 im_X8_addCell sl_X8_addCell cw_X8_addCell ((th_at (h_p3.ne 0 (by decide)) (h_p3.lt 0 (by decide))).trans (tc_ob h_p3.ly0)) rfl rfl (A := [.int (207 : Int32), .int (0 : Int32)]) (st := []) rfl rfl (Nat.le_of_ble_eq_true rfl) (by decide) (by decide) dX6_readE_56 hK ?_
          rintro _ _ ⟨T4, rfl, rfl, hq⟩
          replace hyp := hyp T4 hq
          refine ax_iinc hX dX6_readE_59 rfl (w := (v3 + (1 : Int32))) rfl (by decide) (L' := [some (.ref 3), some (.ref q), some (.int v2), some (.int (v3 + (1 : Int32)))]) rfl ?_
          refine ax_goto hX dX6_readE_62 (tgt := 8) (by decide) ?_
          exact ax_forget (L' := [some (.ref 3), some (.ref q), some (.int v2), some (.int (v3 + (1 : Int32)))]) (⟨rfl, ⟨rfl, ⟨rfl, ⟨rfl, trivial⟩⟩⟩⟩) hyp
set_option maxRecDepth 10000 in
theorem s_X6_readItem_0 {X : ax_X} {d L sz : Nat} {T : tT} {Q : tT → Prop} (hX : ax_ok X mX6_readItem (d + 1)) (hR : ax_Ret X mX6_readItem (tv L sz Q)) (hsz : 161 ≤ sz) {q : Nat} (h_q : tgr sz q)  (hyp : ∃ Q1, tiK d mX6_cannotStartItem [.ref 3, .ref q] L sz T Q1 ∧ ∀ (r1 : Int32) (T1 : tT), Q1 r1 T1 → (((r1 = 0 → ∃ Q1, tvK d mX9_next [.ref 4] L sz T1 Q1 ∧ ∀ (T2 : tT), Q1 T2 → (((T1.1 4 2) = 201 → ∃ Q1, tvK d mX6_readList [.ref 3, .ref q] L sz T2 Q1 ∧ ∀ (T3 : tT), Q1 T3 → (∃ Q1, tvK d mX6_take [.ref 3, .int (59 : Int32)] L sz T3 Q1 ∧ ∀ (T4 : tT), Q1 T4 → (Q T4))) ∧ ((T1.1 4 2) = 202 → ∃ Q1, tvK d mX6_readPart [.ref 3, .ref q] L sz T2 Q1 ∧ ∀ (T5 : tT), Q1 T5 → (∃ Q1, tvK d mX6_take [.ref 3, .int (59 : Int32)] L sz T5 Q1 ∧ ∀ (T6 : tT), Q1 T6 → (Q T6))) ∧ ((T1.1 4 2) = 203 → ∃ Q1, tiK d mX6_takeNumber [.ref 3, .int (1 : Int32), .int (120 : Int32)] L sz T2 Q1 ∧ ∀ (r7 : Int32) (T7 : tT), Q1 r7 T7 → (∃ Q1, tvK d mX6_take [.ref 3, .int (59 : Int32)] L sz (tI T7 q 4 r7) Q1 ∧ ∀ (T8 : tT), Q1 T8 → (Q T8))) ∧ (¬ (T1.1 4 2) = 201 → ¬ (T1.1 4 2) = 202 → ¬ (T1.1 4 2) = 203 → (((T2.2.2 3 3) = none → False) ∧ (∀ p9, (T2.2.2 3 3) = some p9 → tsy sz p9 ∧ ∃ Q1, tvK d mX3_addRule [.ref q, .int (T1.1 4 2), .int (T2.1 p9 3)] L sz T2 Q1 ∧ ∀ (T10 : tT), Q1 T10 → (((¬ (T1.1 4 2) = (204 : Int32) → ∃ Q1, tvK d mX6_readE [.ref 3, .ref q, .int (0 : Int32)] L sz (tI T10 3 4 (0 : Int32)) Q1 ∧ ∀ (T11 : tT), Q1 T11 → ((((T11.2.2 3 3) = none → False) ∧ (∀ p12, (T11.2.2 3 3) = some p12 → tsy sz p12 ∧ ∃ Q1, tvK d mX8_addCell [.ref p12, .int (59 : Int32), .int (0 : Int32)] L sz T11 Q1 ∧ ∀ (T13 : tT), Q1 T13 → (∃ Q1, tvK d mX6_take [.ref 3, .int (59 : Int32)] L sz T13 Q1 ∧ ∀ (T14 : tT), Q1 T14 → (Q T14)))))) ∧ ((T1.1 4 2) = (204 : Int32) → ∃ Q1, tvK d mX6_readE [.ref 3, .ref q, .int (0 : Int32)] L sz (tI T10 3 4 (1 : Int32)) Q1 ∧ ∀ (T15 : tT), Q1 T15 → ((((T15.2.2 3 3) = none → False) ∧ (∀ p16, (T15.2.2 3 3) = some p16 → tsy sz p16 ∧ ∃ Q1, tvK d mX8_addCell [.ref p16, .int (59 : Int32), .int (0 : Int32)] L sz T15 Q1 ∧ ∀ (T17 : tT), Q1 T17 → (∃ Q1, tvK d mX6_take [.ref 3, .int (59 : Int32)] L sz T17 Q1 ∧ ∀ (T18 : tT), Q1 T18 → (Q T18))))))))))))) ∧ (¬ r1 = 0 → ∃ Q1, tvK d mX6_refuse [.ref 3] L sz T1 Q1 ∧ ∀ (T19 : tT), Q1 T19 → (Q T19))))) : ax_j X 0 [some (.ref 3), some (.ref q), none] [] (th L sz T) 0 0 := by
  refine ax_aload_n hX dX6_readItem_0 (Or.inr ⟨_, rfl⟩) rfl ?_
  refine ax_aload_n hX dX6_readItem_1 (Or.inr ⟨_, rfl⟩) rfl ?_
  obtain ⟨Q1, hK, hyp⟩ := hyp
  refine ax_callV hX lRX6_78 im_X6_cannotStartItem sl_X6_cannotStartItem cw_X6_cannotStartItem ((th_at (by decide) (Nat.lt_of_lt_of_le (by decide) hsz)).trans (tc_ob ly_3)) rfl rfl (A := [.ref q]) (st := []) rfl rfl (Nat.le_of_ble_eq_true rfl) (by decide) (by decide) dX6_readItem_2 hK ?_
  rintro _ _ ⟨r1, T1, rfl, rfl, hq⟩
  replace hyp := hyp r1 T1 hq
  refine ax_if_eq hX dX6_readItem_5 (tgt := 13) (by decide) (fun c => ?_) (fun c => ?_)
  · replace hyp := hyp.1 c
    refine ax_aload_n hX dX6_readItem_13 (Or.inr ⟨_, rfl⟩) rfl ?_
    refine tx_getF hX fRX6_12 ly_3 (o := 1) (b := 4) fk_6_0 rfl (by decide) (Nat.lt_of_lt_of_le (by decide) hsz) dX6_readItem_14 ?_
    refine tx_getI hX fRX6_41 ly_4 fk_9_2 (by decide) (Nat.lt_of_lt_of_le (by decide) hsz) dX6_readItem_17 ?_
    refine ax_istore_n hX dX6_readItem_20 (by decide) (L' := [some (.ref 3), some (.ref q), some (.int (T1.1 4 2))]) rfl ?_
    refine ax_aload_n hX dX6_readItem_21 (Or.inr ⟨_, rfl⟩) rfl ?_
    refine tx_getF hX fRX6_12 ly_3 (o := 1) (b := 4) fk_6_0 rfl (by decide) (Nat.lt_of_lt_of_le (by decide) hsz) dX6_readItem_22 ?_
    obtain ⟨Q1, hK, hyp⟩ := hyp
    refine ax_callV hX lRX6_48 im_X9_next sl_X9_next cw_X9_next ((th_at (by decide) (Nat.lt_of_lt_of_le (by decide) hsz)).trans (tc_ob ly_4)) rfl rfl (A := []) (st := []) rfl rfl (Nat.le_of_ble_eq_true rfl) (by decide) (by decide) dX6_readItem_25 hK ?_
    rintro _ _ ⟨T2, rfl, rfl, hq⟩
    replace hyp := hyp T2 hq
    refine ax_iload_n hX dX6_readItem_28 rfl ?_
    by_cases q0 : (T1.1 4 2) = 201
    · replace hyp := hyp.1 q0
      refine ax_tableIn hX dX6_readItem_29 (by rw [q0]; decide) (by rw [q0]; decide) (off := 27) (by rw [q0]; rfl) (tgt := 56) (by decide) ?_
      refine ax_aload_n hX dX6_readItem_56 (Or.inr ⟨_, rfl⟩) rfl ?_
      refine ax_aload_n hX dX6_readItem_57 (Or.inr ⟨_, rfl⟩) rfl ?_
      obtain ⟨Q1, hK, hyp⟩ := hyp
      refine ax_callV hX lRX6_82 im_X6_readList sl_X6_readList cw_X6_readList ((th_at (by decide) (Nat.lt_of_lt_of_le (by decide) hsz)).trans (tc_ob ly_3)) rfl rfl (A := [.ref q]) (st := []) rfl rfl (Nat.le_of_ble_eq_true rfl) (by decide) (by decide) dX6_readItem_58 hK ?_
      rintro _ _ ⟨T3, rfl, rfl, hq⟩
      replace hyp := hyp T3 hq
      refine ax_goto hX dX6_readItem_61 (tgt := 130) (by decide) ?_
      refine ax_aload_n hX dX6_readItem_130 (Or.inr ⟨_, rfl⟩) rfl ?_
      refine ax_bipush hX dX6_readItem_131 (v := 59) (by decide) ?_
      obtain ⟨Q1, hK, hyp⟩ := hyp
      refine ax_callV hX lRX6_58 im_X6_take sl_X6_take cw_X6_take ((th_at (by decide) (Nat.lt_of_lt_of_le (by decide) hsz)).trans (tc_ob ly_3)) rfl rfl (A := [.int (59 : Int32)]) (st := []) rfl rfl (Nat.le_of_ble_eq_true rfl) (by decide) (by decide) dX6_readItem_133 hK ?_
      rintro _ _ ⟨T4, rfl, rfl, hq⟩
      replace hyp := hyp T4 hq
      exact hR.2.2.2 _ _ _ _ _ (by decide) (by decide) dX6_readItem_136 rfl ⟨_, rfl, rfl, hyp⟩
    by_cases q1 : (T1.1 4 2) = 202
    · replace hyp := hyp.2.1 q1
      refine ax_tableIn hX dX6_readItem_29 (by rw [q1]; decide) (by rw [q1]; decide) (off := 35) (by rw [q1]; rfl) (tgt := 64) (by decide) ?_
      refine ax_aload_n hX dX6_readItem_64 (Or.inr ⟨_, rfl⟩) rfl ?_
      refine ax_aload_n hX dX6_readItem_65 (Or.inr ⟨_, rfl⟩) rfl ?_
      obtain ⟨Q1, hK, hyp⟩ := hyp
      refine ax_callV hX lRX6_85 im_X6_readPart sl_X6_readPart cw_X6_readPart ((th_at (by decide) (Nat.lt_of_lt_of_le (by decide) hsz)).trans (tc_ob ly_3)) rfl rfl (A := [.ref q]) (st := []) rfl rfl (Nat.le_of_ble_eq_true rfl) (by decide) (by decide) dX6_readItem_66 hK ?_
      rintro _ _ ⟨T5, rfl, rfl, hq⟩
      replace hyp := hyp T5 hq
      refine ax_goto hX dX6_readItem_69 (tgt := 130) (by decide) ?_
      refine ax_aload_n hX dX6_readItem_130 (Or.inr ⟨_, rfl⟩) rfl ?_
      refine ax_bipush hX dX6_readItem_131 (v := 59) (by decide) ?_
      obtain ⟨Q1, hK, hyp⟩ := hyp
      refine ax_callV hX lRX6_58 im_X6_take sl_X6_take cw_X6_take ((th_at (by decide) (Nat.lt_of_lt_of_le (by decide) hsz)).trans (tc_ob ly_3)) rfl rfl (A := [.int (59 : Int32)]) (st := []) rfl rfl (Nat.le_of_ble_eq_true rfl) (by decide) (by decide) dX6_readItem_133 hK ?_
      rintro _ _ ⟨T6, rfl, rfl, hq⟩
      replace hyp := hyp T6 hq
      exact hR.2.2.2 _ _ _ _ _ (by decide) (by decide) dX6_readItem_136 rfl ⟨_, rfl, rfl, hyp⟩
    by_cases q2 : (T1.1 4 2) = 203
    · replace hyp := hyp.2.2.1 q2
      refine ax_tableIn hX dX6_readItem_29 (by rw [q2]; decide) (by rw [q2]; decide) (off := 43) (by rw [q2]; rfl) (tgt := 72) (by decide) ?_
      refine ax_aload_n hX dX6_readItem_72 (Or.inr ⟨_, rfl⟩) rfl ?_
      refine ax_aload_n hX dX6_readItem_73 (Or.inr ⟨_, rfl⟩) rfl ?_
      refine ax_iconst hX dX6_readItem_74 (v := 1) (by decide) ?_
      refine ax_bipush hX dX6_readItem_75 (v := 120) (by decide) ?_
      obtain ⟨Q1, hK, hyp⟩ := hyp
      refine ax_callV hX lRX6_63 im_X6_takeNumber sl_X6_takeNumber cw_X6_takeNumber ((th_at (by decide) (Nat.lt_of_lt_of_le (by decide) hsz)).trans (tc_ob ly_3)) rfl rfl (A := [.int (1 : Int32), .int (120 : Int32)]) (st := [.ref q]) rfl rfl (Nat.le_of_ble_eq_true rfl) (by decide) (by decide) dX6_readItem_77 hK ?_
      rintro _ _ ⟨r7, T7, rfl, rfl, hq⟩
      replace hyp := hyp r7 T7 hq
      refine tx_putI hX fRX6_88 h_q.ly0 fk_3_4 (h_q.ge 0) (h_q.lt 0 (by decide)) rfl rfl dX6_readItem_80 ?_
      refine ax_goto hX dX6_readItem_83 (tgt := 130) (by decide) ?_
      refine ax_aload_n hX dX6_readItem_130 (Or.inr ⟨_, rfl⟩) rfl ?_
      refine ax_bipush hX dX6_readItem_131 (v := 59) (by decide) ?_
      obtain ⟨Q1, hK, hyp⟩ := hyp
      refine ax_callV hX lRX6_58 im_X6_take sl_X6_take cw_X6_take ((th_at (by decide) (Nat.lt_of_lt_of_le (by decide) hsz)).trans (tc_ob ly_3)) rfl rfl (A := [.int (59 : Int32)]) (st := []) rfl rfl (Nat.le_of_ble_eq_true rfl) (by decide) (by decide) dX6_readItem_133 hK ?_
      rintro _ _ ⟨T8, rfl, rfl, hq⟩
      replace hyp := hyp T8 hq
      exact hR.2.2.2 _ _ _ _ _ (by decide) (by decide) dX6_readItem_136 rfl ⟨_, rfl, rfl, hyp⟩
    replace hyp := hyp.2.2.2 q0 q1 q2
    have z0 := lv_neT (a := 201) q0 rfl
    have z1 := lv_neT (a := 202) q1 rfl
    have z2 := lv_neT (a := 203) q2 rfl
    refine ax_tableOut hX dX6_readItem_29 (by omega) (tgt := 86) (by decide) ?_
    refine ax_aload_n hX dX6_readItem_86 (Or.inr ⟨_, rfl⟩) rfl ?_
    refine ax_iload_n hX dX6_readItem_87 rfl ?_
    refine ax_aload_n hX dX6_readItem_88 (Or.inr ⟨_, rfl⟩) rfl ?_
    rcases ho9 : (T2.2.2 3 3) with _ | p9
    · replace hyp := hyp.1 ho9
      refine tx_getP hX fRX6_25 ly_3 fk_6_3 (by decide) (Nat.lt_of_lt_of_le (by decide) hsz) (v := .null) (congrArg va_rf ho9) dX6_readItem_89 ?_
      exact hyp.elim
    · obtain ⟨h_p9, hyp⟩ := hyp.2 p9 ho9
      refine tx_getP hX fRX6_25 ly_3 fk_6_3 (by decide) (Nat.lt_of_lt_of_le (by decide) hsz) (v := .ref p9) (congrArg va_rf ho9) dX6_readItem_89 ?_
      refine tx_getI hX fRX6_93 h_p9.ly0 fk_8_3 (h_p9.ne 0 (by decide)) (h_p9.lt 0 (by decide)) dX6_readItem_92 ?_
      obtain ⟨Q1, hK, hyp⟩ := hyp
      refine ax_callV hX lRX6_96 im_X3_addRule sl_X3_addRule cw_X3_addRule ((th_at (h_q.ne 0 (by decide)) (h_q.lt 0 (by decide))).trans (tc_ob h_q.ly0)) rfl rfl (A := [.int (T1.1 4 2), .int (T2.1 p9 3)]) (st := []) rfl rfl (Nat.le_of_ble_eq_true rfl) (by decide) (by decide) dX6_readItem_95 hK ?_
      rintro _ _ ⟨T10, rfl, rfl, hq⟩
      replace hyp := hyp T10 hq
      refine ax_aload_n hX dX6_readItem_98 (Or.inr ⟨_, rfl⟩) rfl ?_
      refine ax_iload_n hX dX6_readItem_99 rfl ?_
      refine ax_sipush hX dX6_readItem_100 (v := 204) (by decide) ?_
      refine ax_icmp_ne hX dX6_readItem_103 (tgt := 110) (by decide) (fun c => ?_) (fun c => ?_)
      · replace hyp := hyp.1 c
        refine ax_iconst hX dX6_readItem_110 (v := 0) (by decide) ?_
        refine tx_putI hX fRX6_99 ly_3 fk_6_4 (by decide) (Nat.lt_of_lt_of_le (by decide) hsz) rfl rfl dX6_readItem_111 ?_
        refine ax_aload_n hX dX6_readItem_114 (Or.inr ⟨_, rfl⟩) rfl ?_
        refine ax_aload_n hX dX6_readItem_115 (Or.inr ⟨_, rfl⟩) rfl ?_
        refine ax_iconst hX dX6_readItem_116 (v := 0) (by decide) ?_
        obtain ⟨Q1, hK, hyp⟩ := hyp
        refine ax_callV hX lRX6_103 im_X6_readE sl_X6_readE cw_X6_readE ((th_at (by decide) (Nat.lt_of_lt_of_le (by decide) hsz)).trans (tc_ob ly_3)) rfl rfl (A := [.ref q, .int (0 : Int32)]) (st := []) rfl rfl (Nat.le_of_ble_eq_true rfl) (by decide) (by decide) dX6_readItem_117 hK ?_
        rintro _ _ ⟨T11, rfl, rfl, hq⟩
        replace hyp := hyp T11 hq
        refine ax_aload_n hX dX6_readItem_120 (Or.inr ⟨_, rfl⟩) rfl ?_
        rcases ho12 : (T11.2.2 3 3) with _ | p12
        · replace hyp := hyp.1 ho12
          refine tx_getP hX fRX6_25 ly_3 fk_6_3 (by decide) (Nat.lt_of_lt_of_le (by decide) hsz) (v := .null) (congrArg va_rf ho12) dX6_readItem_121 ?_
          refine ax_bipush hX dX6_readItem_124 (v := 59) (by decide) ?_
          refine ax_iconst hX dX6_readItem_126 (v := 0) (by decide) ?_
          exact hyp.elim
        · obtain ⟨h_p12, hyp⟩ := hyp.2 p12 ho12
          refine tx_getP hX fRX6_25 ly_3 fk_6_3 (by decide) (Nat.lt_of_lt_of_le (by decide) hsz) (v := .ref p12) (congrArg va_rf ho12) dX6_readItem_121 ?_
          refine ax_bipush hX dX6_readItem_124 (v := 59) (by decide) ?_
          refine ax_iconst hX dX6_readItem_126 (v := 0) (by decide) ?_
          obtain ⟨Q1, hK, hyp⟩ := hyp
          refine ax_callV hX lRX6_107 im_X8_addCell sl_X8_addCell cw_X8_addCell ((th_at (h_p12.ne 0 (by decide)) (h_p12.lt 0 (by decide))).trans (tc_ob h_p12.ly0)) rfl rfl (A := [.int (59 : Int32), .int (0 : Int32)]) (st := []) rfl rfl (Nat.le_of_ble_eq_true rfl) (by decide) (by decide) dX6_readItem_127 hK ?_
          rintro _ _ ⟨T13, rfl, rfl, hq⟩
          replace hyp := hyp T13 hq
          refine ax_aload_n hX dX6_readItem_130 (Or.inr ⟨_, rfl⟩) rfl ?_
          refine ax_bipush hX dX6_readItem_131 (v := 59) (by decide) ?_
          obtain ⟨Q1, hK, hyp⟩ := hyp
          refine ax_callV hX lRX6_58 im_X6_take sl_X6_take cw_X6_take ((th_at (by decide) (Nat.lt_of_lt_of_le (by decide) hsz)).trans (tc_ob ly_3)) rfl rfl (A := [.int (59 : Int32)]) (st := []) rfl rfl (Nat.le_of_ble_eq_true rfl) (by decide) (by decide) dX6_readItem_133 hK ?_
          rintro _ _ ⟨T14, rfl, rfl, hq⟩
          replace hyp := hyp T14 hq
          exact hR.2.2.2 _ _ _ _ _ (by decide) (by decide) dX6_readItem_136 rfl ⟨_, rfl, rfl, hyp⟩
      · replace hyp := hyp.2 c
        refine ax_iconst hX dX6_readItem_106 (v := 1) (by decide) ?_
        refine ax_goto hX dX6_readItem_107 (tgt := 111) (by decide) ?_
        refine tx_putI hX fRX6_99 ly_3 fk_6_4 (by decide) (Nat.lt_of_lt_of_le (by decide) hsz) rfl rfl dX6_readItem_111 ?_
        refine ax_aload_n hX dX6_readItem_114 (Or.inr ⟨_, rfl⟩) rfl ?_
        refine ax_aload_n hX dX6_readItem_115 (Or.inr ⟨_, rfl⟩) rfl ?_
        refine ax_iconst hX dX6_readItem_116 (v := 0) (by decide) ?_
        obtain ⟨Q1, hK, hyp⟩ := hyp
        refine ax_callV hX lRX6_103 im_X6_readE sl_X6_readE cw_X6_readE ((th_at (by decide) (Nat.lt_of_lt_of_le (by decide) hsz)).trans (tc_ob ly_3)) rfl rfl (A := [.ref q, .int (0 : Int32)]) (st := []) rfl rfl (Nat.le_of_ble_eq_true rfl) (by decide) (by decide) dX6_readItem_117 hK ?_
        rintro _ _ ⟨T15, rfl, rfl, hq⟩
        replace hyp := hyp T15 hq
        refine ax_aload_n hX dX6_readItem_120 (Or.inr ⟨_, rfl⟩) rfl ?_
        rcases ho16 : (T15.2.2 3 3) with _ | p16
        · replace hyp := hyp.1 ho16
          refine tx_getP hX fRX6_25 ly_3 fk_6_3 (by decide) (Nat.lt_of_lt_of_le (by decide) hsz) (v := .null) (congrArg va_rf ho16) dX6_readItem_121 ?_
          refine ax_bipush hX dX6_readItem_124 (v := 59) (by decide) ?_
          refine ax_iconst hX dX6_readItem_126 (v := 0) (by decide) ?_
          exact hyp.elim
        · obtain ⟨h_p16, hyp⟩ := hyp.2 p16 ho16
          refine tx_getP hX fRX6_25 ly_3 fk_6_3 (by decide) (Nat.lt_of_lt_of_le (by decide) hsz) (v := .ref p16) (congrArg va_rf ho16) dX6_readItem_121 ?_
          refine ax_bipush hX dX6_readItem_124 (v := 59) (by decide) ?_
          refine ax_iconst hX dX6_readItem_126 (v := 0) (by decide) ?_
          obtain ⟨Q1, hK, hyp⟩ := hyp
          refine ax_callV hX lRX6_107 im_X8_addCell sl_X8_addCell cw_X8_addCell ((th_at (h_p16.ne 0 (by decide)) (h_p16.lt 0 (by decide))).trans (tc_ob h_p16.ly0)) rfl rfl (A := [.int (59 : Int32), .int (0 : Int32)]) (st := []) rfl rfl (Nat.le_of_ble_eq_true rfl) (by decide) (by decide) dX6_readItem_127 hK ?_
          rintro _ _ ⟨T17, rfl, rfl, hq⟩
          replace hyp := hyp T17 hq
          refine ax_aload_n hX dX6_readItem_130 (Or.inr ⟨_, rfl⟩) rfl ?_
          refine ax_bipush hX dX6_readItem_131 (v := 59) (by decide) ?_
          obtain ⟨Q1, hK, hyp⟩ := hyp
          refine ax_callV hX lRX6_58 im_X6_take sl_X6_take cw_X6_take ((th_at (by decide) (Nat.lt_of_lt_of_le (by decide) hsz)).trans (tc_ob ly_3)) rfl rfl (A := [.int (59 : Int32)]) (st := []) rfl rfl (Nat.le_of_ble_eq_true rfl) (by decide) (by decide) dX6_readItem_133 hK ?_
          rintro _ _ ⟨T18, rfl, rfl, hq⟩
          replace hyp := hyp T18 hq
          exact hR.2.2.2 _ _ _ _ _ (by decide) (by decide) dX6_readItem_136 rfl ⟨_, rfl, rfl, hyp⟩
  · replace hyp := hyp.2 c
    refine ax_aload_n hX dX6_readItem_8 (Or.inr ⟨_, rfl⟩) rfl ?_
    obtain ⟨Q1, hK, hyp⟩ := hyp
    refine ax_callV hX lRX6_55 im_X6_refuse sl_X6_refuse cw_X6_refuse ((th_at (by decide) (Nat.lt_of_lt_of_le (by decide) hsz)).trans (tc_ob ly_3)) rfl rfl (A := []) (st := []) rfl rfl (Nat.le_of_ble_eq_true rfl) (by decide) (by decide) dX6_readItem_9 hK ?_
    rintro _ _ ⟨T19, rfl, rfl, hq⟩
    replace hyp := hyp T19 hq
    exact hR.2.2.2 _ _ _ _ _ (by decide) (by decide) dX6_readItem_12 rfl ⟨_, rfl, rfl, hyp⟩
set_option maxRecDepth 10000 in
theorem s_X6_readLeaf_0 {X : ax_X} {d L sz : Nat} {T : tT} {Q : tT → Prop} (hX : ax_ok X mX6_readLeaf (d + 1)) (hR : ax_Ret X mX6_readLeaf (tv L sz Q)) (hsz : 161 ≤ sz) {q : Nat} (h_q : tgr sz q) (x1 : Int32) (hyp : ((¬ (T.1 4 2) = (40 : Int32) → ∃ Q1, tiK d mX6_isLeaf [.int (T.1 4 2)] L sz T Q1 ∧ ∀ (r1 : Int32) (T1 : tT), Q1 r1 T1 → (((r1 = 0 → ∃ Q1, tvK d mX6_refuse [.ref 3] L sz T1 Q1 ∧ ∀ (T2 : tT), Q1 T2 → (Q T2)) ∧ (¬ r1 = 0 → (((T1.1 3 5) < (150 : Int32) → ∃ Q1, tvK d mX6_addMeaning [.ref 3, .ref q] L sz (tI T1 3 5 ((T1.1 3 5) + (1 : Int32))) Q1 ∧ ∀ (T3 : tT), Q1 T3 → (∃ Q1, tvK d mX9_next [.ref 4] L sz T3 Q1 ∧ ∀ (T4 : tT), Q1 T4 → (Q T4))) ∧ (¬ (T1.1 3 5) < (150 : Int32) → ∃ Q1, tvK d mX6_refuse [.ref 3] L sz T1 Q1 ∧ ∀ (T5 : tT), Q1 T5 → (Q T5))))))) ∧ ((T.1 4 2) = (40 : Int32) → ∃ Q1, tvK d mX9_next [.ref 4] L sz T Q1 ∧ ∀ (T6 : tT), Q1 T6 → (∃ Q1, tvK d mX6_readE [.ref 3, .ref q, .int (x1 + (1 : Int32))] L sz T6 Q1 ∧ ∀ (T7 : tT), Q1 T7 → (∃ Q1, tvK d mX6_take [.ref 3, .int (41 : Int32)] L sz T7 Q1 ∧ ∀ (T8 : tT), Q1 T8 → (Q T8)))))) : ax_j X 0 [some (.ref 3), some (.ref q), some (.int x1)] [] (th L sz T) 0 0 := by
  refine ax_aload_n hX dX6_readLeaf_0 (Or.inr ⟨_, rfl⟩) rfl ?_
  refine tx_getF hX fRX6_12 ly_3 (o := 1) (b := 4) fk_6_0 rfl (by decide) (Nat.lt_of_lt_of_le (by decide) hsz) dX6_readLeaf_1 ?_
  refine tx_getI hX fRX6_41 ly_4 fk_9_2 (by decide) (Nat.lt_of_lt_of_le (by decide) hsz) dX6_readLeaf_4 ?_
  refine ax_bipush hX dX6_readLeaf_7 (v := 40) (by decide) ?_
  refine ax_icmp_ne hX dX6_readLeaf_9 (tgt := 36) (by decide) (fun c => ?_) (fun c => ?_)
  · replace hyp := hyp.1 c
    refine ax_aload_n hX dX6_readLeaf_36 (Or.inr ⟨_, rfl⟩) rfl ?_
    refine tx_getF hX fRX6_12 ly_3 (o := 1) (b := 4) fk_6_0 rfl (by decide) (Nat.lt_of_lt_of_le (by decide) hsz) dX6_readLeaf_37 ?_
    refine tx_getI hX fRX6_41 ly_4 fk_9_2 (by decide) (Nat.lt_of_lt_of_le (by decide) hsz) dX6_readLeaf_40 ?_
    obtain ⟨Q1, hK, hyp⟩ := hyp
    refine ax_callS hX lRX6_155 sm_X6_isLeaf cw_X6_isLeaf (A := [.int (T.1 4 2)]) (st := []) rfl rfl (Nat.le_of_ble_eq_true rfl) (by decide) (by decide) dX6_readLeaf_43 hK ?_
    rintro _ _ ⟨r1, T1, rfl, rfl, hq⟩
    replace hyp := hyp r1 T1 hq
    refine ax_if_eq hX dX6_readLeaf_46 (tgt := 59) (by decide) (fun c => ?_) (fun c => ?_)
    · replace hyp := hyp.1 c
      refine ax_aload_n hX dX6_readLeaf_59 (Or.inr ⟨_, rfl⟩) rfl ?_
      obtain ⟨Q1, hK, hyp⟩ := hyp
      refine ax_callV hX lRX6_55 im_X6_refuse sl_X6_refuse cw_X6_refuse ((th_at (by decide) (Nat.lt_of_lt_of_le (by decide) hsz)).trans (tc_ob ly_3)) rfl rfl (A := []) (st := []) rfl rfl (Nat.le_of_ble_eq_true rfl) (by decide) (by decide) dX6_readLeaf_60 hK ?_
      rintro _ _ ⟨T2, rfl, rfl, hq⟩
      replace hyp := hyp T2 hq
      refine ax_goto hX dX6_readLeaf_63 (tgt := 88) (by decide) ?_
      exact hR.2.2.2 _ _ _ _ _ (by decide) (by decide) dX6_readLeaf_88 rfl ⟨_, rfl, rfl, hyp⟩
    · replace hyp := hyp.2 c
      refine ax_aload_n hX dX6_readLeaf_49 (Or.inr ⟨_, rfl⟩) rfl ?_
      refine tx_getI hX fRX6_32 ly_3 fk_6_5 (by decide) (Nat.lt_of_lt_of_le (by decide) hsz) dX6_readLeaf_50 ?_
      refine ax_sipush hX dX6_readLeaf_53 (v := 150) (by decide) ?_
      refine ax_icmp_lt hX dX6_readLeaf_56 (tgt := 66) (by decide) (fun c => ?_) (fun c => ?_)
      · replace hyp := hyp.1 c
        refine ax_aload_n hX dX6_readLeaf_66 (Or.inr ⟨_, rfl⟩) rfl ?_
        refine ax_dup hX dX6_readLeaf_67 rfl ?_
        refine tx_getI hX fRX6_32 ly_3 fk_6_5 (by decide) (Nat.lt_of_lt_of_le (by decide) hsz) dX6_readLeaf_68 ?_
        refine ax_iconst hX dX6_readLeaf_71 (v := 1) (by decide) ?_
        refine ax_iadd hX dX6_readLeaf_72 ?_
        refine tx_putI hX fRX6_32 ly_3 fk_6_5 (by decide) (Nat.lt_of_lt_of_le (by decide) hsz) rfl rfl dX6_readLeaf_73 ?_
        refine ax_aload_n hX dX6_readLeaf_76 (Or.inr ⟨_, rfl⟩) rfl ?_
        refine ax_aload_n hX dX6_readLeaf_77 (Or.inr ⟨_, rfl⟩) rfl ?_
        obtain ⟨Q1, hK, hyp⟩ := hyp
        refine ax_callV hX lRX6_159 im_X6_addMeaning sl_X6_addMeaning cw_X6_addMeaning ((th_at (by decide) (Nat.lt_of_lt_of_le (by decide) hsz)).trans (tc_ob ly_3)) rfl rfl (A := [.ref q]) (st := []) rfl rfl (Nat.le_of_ble_eq_true rfl) (by decide) (by decide) dX6_readLeaf_78 hK ?_
        rintro _ _ ⟨T3, rfl, rfl, hq⟩
        replace hyp := hyp T3 hq
        refine ax_aload_n hX dX6_readLeaf_81 (Or.inr ⟨_, rfl⟩) rfl ?_
        refine tx_getF hX fRX6_12 ly_3 (o := 1) (b := 4) fk_6_0 rfl (by decide) (Nat.lt_of_lt_of_le (by decide) hsz) dX6_readLeaf_82 ?_
        obtain ⟨Q1, hK, hyp⟩ := hyp
        refine ax_callV hX lRX6_48 im_X9_next sl_X9_next cw_X9_next ((th_at (by decide) (Nat.lt_of_lt_of_le (by decide) hsz)).trans (tc_ob ly_4)) rfl rfl (A := []) (st := []) rfl rfl (Nat.le_of_ble_eq_true rfl) (by decide) (by decide) dX6_readLeaf_85 hK ?_
        rintro _ _ ⟨T4, rfl, rfl, hq⟩
        replace hyp := hyp T4 hq
        exact hR.2.2.2 _ _ _ _ _ (by decide) (by decide) dX6_readLeaf_88 rfl ⟨_, rfl, rfl, hyp⟩
      · replace hyp := hyp.2 c
        refine ax_aload_n hX dX6_readLeaf_59 (Or.inr ⟨_, rfl⟩) rfl ?_
        obtain ⟨Q1, hK, hyp⟩ := hyp
        refine ax_callV hX lRX6_55 im_X6_refuse sl_X6_refuse cw_X6_refuse ((th_at (by decide) (Nat.lt_of_lt_of_le (by decide) hsz)).trans (tc_ob ly_3)) rfl rfl (A := []) (st := []) rfl rfl (Nat.le_of_ble_eq_true rfl) (by decide) (by decide) dX6_readLeaf_60 hK ?_
        rintro _ _ ⟨T5, rfl, rfl, hq⟩
        replace hyp := hyp T5 hq
        refine ax_goto hX dX6_readLeaf_63 (tgt := 88) (by decide) ?_
        exact hR.2.2.2 _ _ _ _ _ (by decide) (by decide) dX6_readLeaf_88 rfl ⟨_, rfl, rfl, hyp⟩
  · replace hyp := hyp.2 c
    refine ax_aload_n hX dX6_readLeaf_12 (Or.inr ⟨_, rfl⟩) rfl ?_
    refine tx_getF hX fRX6_12 ly_3 (o := 1) (b := 4) fk_6_0 rfl (by decide) (Nat.lt_of_lt_of_le (by decide) hsz) dX6_readLeaf_13 ?_
    obtain ⟨Q1, hK, hyp⟩ := hyp
    refine ax_callV hX lRX6_48 im_X9_next sl_X9_next cw_X9_next ((th_at (by decide) (Nat.lt_of_lt_of_le (by decide) hsz)).trans (tc_ob ly_4)) rfl rfl (A := []) (st := []) rfl rfl (Nat.le_of_ble_eq_true rfl) (by decide) (by decide) dX6_readLeaf_16 hK ?_
    rintro _ _ ⟨T6, rfl, rfl, hq⟩
    replace hyp := hyp T6 hq
    refine ax_aload_n hX dX6_readLeaf_19 (Or.inr ⟨_, rfl⟩) rfl ?_
    refine ax_aload_n hX dX6_readLeaf_20 (Or.inr ⟨_, rfl⟩) rfl ?_
    refine ax_iload_n hX dX6_readLeaf_21 rfl ?_
    refine ax_iconst hX dX6_readLeaf_22 (v := 1) (by decide) ?_
    refine ax_iadd hX dX6_readLeaf_23 ?_
    obtain ⟨Q1, hK, hyp⟩ := hyp
    refine ax_callV hX lRX6_103 im_X6_readE sl_X6_readE cw_X6_readE ((th_at (by decide) (Nat.lt_of_lt_of_le (by decide) hsz)).trans (tc_ob ly_3)) rfl rfl (A := [.ref q, .int (x1 + (1 : Int32))]) (st := []) rfl rfl (Nat.le_of_ble_eq_true rfl) (by decide) (by decide) dX6_readLeaf_24 hK ?_
    rintro _ _ ⟨T7, rfl, rfl, hq⟩
    replace hyp := hyp T7 hq
    refine ax_aload_n hX dX6_readLeaf_27 (Or.inr ⟨_, rfl⟩) rfl ?_
    refine ax_bipush hX dX6_readLeaf_28 (v := 41) (by decide) ?_
    obtain ⟨Q1, hK, hyp⟩ := hyp
    refine ax_callV hX lRX6_58 im_X6_take sl_X6_take cw_X6_take ((th_at (by decide) (Nat.lt_of_lt_of_le (by decide) hsz)).trans (tc_ob ly_3)) rfl rfl (A := [.int (41 : Int32)]) (st := []) rfl rfl (Nat.le_of_ble_eq_true rfl) (by decide) (by decide) dX6_readLeaf_30 hK ?_
    rintro _ _ ⟨T8, rfl, rfl, hq⟩
    replace hyp := hyp T8 hq
    refine ax_goto hX dX6_readLeaf_33 (tgt := 88) (by decide) ?_
    exact hR.2.2.2 _ _ _ _ _ (by decide) (by decide) dX6_readLeaf_88 rfl ⟨_, rfl, rfl, hyp⟩
set_option maxRecDepth 10000 in
theorem s_X6_readList_0 {X : ax_X} {d L sz : Nat} {T : tT} {Q : tT → Prop} (hX : ax_ok X mX6_readList (d + 1)) (hR : ax_Ret X mX6_readList (tv L sz Q)) (hsz : 161 ≤ sz) {q : Nat} (h_q : tgr sz q)  (hyp : ∃ Q1, tlK d mX6_takeNewName [.ref 3, .ref q] L sz T Q1 ∧ ∀ (r1 : Int64) (T1 : tT), Q1 r1 T1 → (∃ Q1, tvK d mX6_take [.ref 3, .int (61 : Int32)] L sz T1 Q1 ∧ ∀ (T2 : tT), Q1 T2 → ((((T2.1 3 1) = 0 → ∃ Q1, tvK d mX3_addList [.ref q, .long r1] L sz T2 Q1 ∧ ∀ (T3 : tT), Q1 T3 → (∃ Q1, tvK d mX6_takeListed [.ref 3, .ref q] L sz T3 Q1 ∧ ∀ (T4 : tT), Q1 T4 → (ax_j X 33 [some (.ref 3), some (.ref q), none, none, some (.int (0 : Int32))] [] (th L sz T4) 0 0))) ∧ (¬ (T2.1 3 1) = 0 → Q T2))))) : ax_j X 0 [some (.ref 3), some (.ref q), none, none, none] [] (th L sz T) 0 0 := by
  refine ax_aload_n hX dX6_readList_0 (Or.inr ⟨_, rfl⟩) rfl ?_
  refine ax_aload_n hX dX6_readList_1 (Or.inr ⟨_, rfl⟩) rfl ?_
  obtain ⟨Q1, hK, hyp⟩ := hyp
  refine ax_callV hX lRX6_125 im_X6_takeNewName sl_X6_takeNewName cw_X6_takeNewName ((th_at (by decide) (Nat.lt_of_lt_of_le (by decide) hsz)).trans (tc_ob ly_3)) rfl rfl (A := [.ref q]) (st := []) rfl rfl (Nat.le_of_ble_eq_true rfl) (by decide) (by decide) dX6_readList_2 hK ?_
  rintro _ _ ⟨r1, T1, rfl, rfl, hq⟩
  replace hyp := hyp r1 T1 hq
  refine ax_lstore_n hX dX6_readList_5 (by decide) (L' := [some (.ref 3), some (.ref q), some (.long r1), none, none]) rfl ?_
  refine ax_aload_n hX dX6_readList_6 (Or.inr ⟨_, rfl⟩) rfl ?_
  refine ax_bipush hX dX6_readList_7 (v := 61) (by decide) ?_
  obtain ⟨Q1, hK, hyp⟩ := hyp
  refine ax_callV hX lRX6_58 im_X6_take sl_X6_take cw_X6_take ((th_at (by decide) (Nat.lt_of_lt_of_le (by decide) hsz)).trans (tc_ob ly_3)) rfl rfl (A := [.int (61 : Int32)]) (st := []) rfl rfl (Nat.le_of_ble_eq_true rfl) (by decide) (by decide) dX6_readList_9 hK ?_
  rintro _ _ ⟨T2, rfl, rfl, hq⟩
  replace hyp := hyp T2 hq
  refine ax_aload_n hX dX6_readList_12 (Or.inr ⟨_, rfl⟩) rfl ?_
  refine tx_getI hX fRX6_29 ly_3 fk_6_1 (by decide) (Nat.lt_of_lt_of_le (by decide) hsz) dX6_readList_13 ?_
  refine ax_if_eq hX dX6_readList_16 (tgt := 20) (by decide) (fun c => ?_) (fun c => ?_)
  · replace hyp := hyp.1 c
    refine ax_aload_n hX dX6_readList_20 (Or.inr ⟨_, rfl⟩) rfl ?_
    refine ax_lload_n hX dX6_readList_21 rfl ?_
    obtain ⟨Q1, hK, hyp⟩ := hyp
    refine ax_callV hX lRX6_129 im_X3_addList sl_X3_addList cw_X3_addList ((th_at (h_q.ne 0 (by decide)) (h_q.lt 0 (by decide))).trans (tc_ob h_q.ly0)) rfl rfl (A := [.long r1]) (st := []) rfl rfl (Nat.le_of_ble_eq_true rfl) (by decide) (by decide) dX6_readList_22 hK ?_
    rintro _ _ ⟨T3, rfl, rfl, hq⟩
    replace hyp := hyp T3 hq
    refine ax_aload_n hX dX6_readList_25 (Or.inr ⟨_, rfl⟩) rfl ?_
    refine ax_aload_n hX dX6_readList_26 (Or.inr ⟨_, rfl⟩) rfl ?_
    obtain ⟨Q1, hK, hyp⟩ := hyp
    refine ax_callV hX lRX6_133 im_X6_takeListed sl_X6_takeListed cw_X6_takeListed ((th_at (by decide) (Nat.lt_of_lt_of_le (by decide) hsz)).trans (tc_ob ly_3)) rfl rfl (A := [.ref q]) (st := []) rfl rfl (Nat.le_of_ble_eq_true rfl) (by decide) (by decide) dX6_readList_27 hK ?_
    rintro _ _ ⟨T4, rfl, rfl, hq⟩
    replace hyp := hyp T4 hq
    refine ax_iconst hX dX6_readList_30 (v := 0) (by decide) ?_
    refine ax_istore hX dX6_readList_31 (by decide) (L' := [some (.ref 3), some (.ref q), some (.long r1), none, some (.int (0 : Int32))]) rfl ?_
    exact ax_forget (L' := [some (.ref 3), some (.ref q), none, none, some (.int (0 : Int32))]) (⟨rfl, ⟨rfl, ⟨rfl, trivial⟩⟩⟩) hyp
  · replace hyp := hyp.2 c
    exact hR.2.2.2 _ _ _ _ _ (by decide) (by decide) dX6_readList_19 rfl ⟨_, rfl, rfl, hyp⟩
set_option maxRecDepth 10000 in
theorem s_X6_readList_33 {X : ax_X} {d L sz : Nat} {T : tT} {Q : tT → Prop} (hX : ax_ok X mX6_readList (d + 1)) (hR : ax_Ret X mX6_readList (tv L sz Q)) (hsz : 161 ≤ sz) {q : Nat} (h_q : tgr sz q) (v4 : Int32) (hyp : (((1400 : Int32) ≤ v4 → Q T) ∧ (¬ (1400 : Int32) ≤ v4 → ((¬ (T.1 3 1) = 0 → Q T) ∧ ((T.1 3 1) = 0 → ((¬ (T.1 4 2) = (44 : Int32) → Q T) ∧ ((T.1 4 2) = (44 : Int32) → ∃ Q1, tvK d mX9_next [.ref 4] L sz T Q1 ∧ ∀ (T1 : tT), Q1 T1 → (∃ Q1, tvK d mX6_takeListed [.ref 3, .ref q] L sz T1 Q1 ∧ ∀ (T2 : tT), Q1 T2 → (ax_j X 33 [some (.ref 3), some (.ref q), none, none, some (.int (v4 + (1 : Int32)))] [] (th L sz T2) 0 0))))))))) : ax_j X 33 [some (.ref 3), some (.ref q), none, none, some (.int v4)] [] (th L sz T) 0 0 := by
  refine ax_iload hX dX6_readList_33 rfl ?_
  refine ax_sipush hX dX6_readList_35 (v := 1400) (by decide) ?_
  refine ax_icmp_ge hX dX6_readList_38 (tgt := 78) (by decide) (fun c => ?_) (fun c => ?_)
  · replace hyp := hyp.1 c
    exact hR.2.2.2 _ _ _ _ _ (by decide) (by decide) dX6_readList_78 rfl ⟨_, rfl, rfl, hyp⟩
  · replace hyp := hyp.2 c
    refine ax_aload_n hX dX6_readList_41 (Or.inr ⟨_, rfl⟩) rfl ?_
    refine tx_getI hX fRX6_29 ly_3 fk_6_1 (by decide) (Nat.lt_of_lt_of_le (by decide) hsz) dX6_readList_42 ?_
    refine ax_if_ne hX dX6_readList_45 (tgt := 78) (by decide) (fun c => ?_) (fun c => ?_)
    · replace hyp := hyp.1 c
      exact hR.2.2.2 _ _ _ _ _ (by decide) (by decide) dX6_readList_78 rfl ⟨_, rfl, rfl, hyp⟩
    · replace hyp := hyp.2 c
      refine ax_aload_n hX dX6_readList_48 (Or.inr ⟨_, rfl⟩) rfl ?_
      refine tx_getF hX fRX6_12 ly_3 (o := 1) (b := 4) fk_6_0 rfl (by decide) (Nat.lt_of_lt_of_le (by decide) hsz) dX6_readList_49 ?_
      refine tx_getI hX fRX6_41 ly_4 fk_9_2 (by decide) (Nat.lt_of_lt_of_le (by decide) hsz) dX6_readList_52 ?_
      refine ax_bipush hX dX6_readList_55 (v := 44) (by decide) ?_
      refine ax_icmp_ne hX dX6_readList_57 (tgt := 78) (by decide) (fun c => ?_) (fun c => ?_)
      · replace hyp := hyp.1 c
        exact hR.2.2.2 _ _ _ _ _ (by decide) (by decide) dX6_readList_78 rfl ⟨_, rfl, rfl, hyp⟩
      · replace hyp := hyp.2 c
        refine ax_aload_n hX dX6_readList_60 (Or.inr ⟨_, rfl⟩) rfl ?_
        refine tx_getF hX fRX6_12 ly_3 (o := 1) (b := 4) fk_6_0 rfl (by decide) (Nat.lt_of_lt_of_le (by decide) hsz) dX6_readList_61 ?_
        obtain ⟨Q1, hK, hyp⟩ := hyp
        refine ax_callV hX lRX6_48 im_X9_next sl_X9_next cw_X9_next ((th_at (by decide) (Nat.lt_of_lt_of_le (by decide) hsz)).trans (tc_ob ly_4)) rfl rfl (A := []) (st := []) rfl rfl (Nat.le_of_ble_eq_true rfl) (by decide) (by decide) dX6_readList_64 hK ?_
        rintro _ _ ⟨T1, rfl, rfl, hq⟩
        replace hyp := hyp T1 hq
        refine ax_aload_n hX dX6_readList_67 (Or.inr ⟨_, rfl⟩) rfl ?_
        refine ax_aload_n hX dX6_readList_68 (Or.inr ⟨_, rfl⟩) rfl ?_
        obtain ⟨Q1, hK, hyp⟩ := hyp
        refine ax_callV hX lRX6_133 im_X6_takeListed sl_X6_takeListed cw_X6_takeListed ((th_at (by decide) (Nat.lt_of_lt_of_le (by decide) hsz)).trans (tc_ob ly_3)) rfl rfl (A := [.ref q]) (st := []) rfl rfl (Nat.le_of_ble_eq_true rfl) (by decide) (by decide) dX6_readList_69 hK ?_
        rintro _ _ ⟨T2, rfl, rfl, hq⟩
        replace hyp := hyp T2 hq
        refine ax_iinc hX dX6_readList_72 rfl (w := (v4 + (1 : Int32))) rfl (by decide) (L' := [some (.ref 3), some (.ref q), none, none, some (.int (v4 + (1 : Int32)))]) rfl ?_
        refine ax_goto hX dX6_readList_75 (tgt := 33) (by decide) ?_
        exact ax_forget (L' := [some (.ref 3), some (.ref q), none, none, some (.int (v4 + (1 : Int32)))]) (⟨rfl, ⟨rfl, ⟨rfl, trivial⟩⟩⟩) hyp
set_option maxRecDepth 10000 in
theorem s_X6_readOne_0 {X : ax_X} {d L sz : Nat} {T : tT} {Q : tT → Prop} (hX : ax_ok X mX6_readOne (d + 1)) (hR : ax_Ret X mX6_readOne (tv L sz Q)) (hsz : 161 ≤ sz) {q : Nat} (h_q : tgr sz q) (x1 : Int32) (hyp : ((x1 < (8 : Int32) → ((¬ (T.1 4 2) = (209 : Int32) → ∃ Q1, tvK d mX6_readCompared [.ref 3, .ref q, .int x1] L sz T Q1 ∧ ∀ (T1 : tT), Q1 T1 → (Q T1)) ∧ ((T.1 4 2) = (209 : Int32) → ∃ Q1, tvK d mX9_next [.ref 4] L sz T Q1 ∧ ∀ (T2 : tT), Q1 T2 → (∃ Q1, tvK d mX6_readOne [.ref 3, .ref q, .int (x1 + (1 : Int32))] L sz T2 Q1 ∧ ∀ (T3 : tT), Q1 T3 → ((((T3.2.2 3 3) = none → False) ∧ (∀ p4, (T3.2.2 3 3) = some p4 → tsy sz p4 ∧ ∃ Q1, tvK d mX8_addCell [.ref p4, .int (209 : Int32), .int (0 : Int32)] L sz T3 Q1 ∧ ∀ (T5 : tT), Q1 T5 → (Q T5)))))))) ∧ (¬ x1 < (8 : Int32) → ∃ Q1, tvK d mX6_refuse [.ref 3] L sz T Q1 ∧ ∀ (T6 : tT), Q1 T6 → (Q T6)))) : ax_j X 0 [some (.ref 3), some (.ref q), some (.int x1)] [] (th L sz T) 0 0 := by
  refine ax_iload_n hX dX6_readOne_0 rfl ?_
  refine ax_bipush hX dX6_readOne_1 (v := 8) (by decide) ?_
  refine ax_icmp_lt hX dX6_readOne_3 (tgt := 13) (by decide) (fun c => ?_) (fun c => ?_)
  · replace hyp := hyp.1 c
    refine ax_aload_n hX dX6_readOne_13 (Or.inr ⟨_, rfl⟩) rfl ?_
    refine tx_getF hX fRX6_12 ly_3 (o := 1) (b := 4) fk_6_0 rfl (by decide) (Nat.lt_of_lt_of_le (by decide) hsz) dX6_readOne_14 ?_
    refine tx_getI hX fRX6_41 ly_4 fk_9_2 (by decide) (Nat.lt_of_lt_of_le (by decide) hsz) dX6_readOne_17 ?_
    refine ax_sipush hX dX6_readOne_20 (v := 209) (by decide) ?_
    refine ax_icmp_ne hX dX6_readOne_23 (tgt := 55) (by decide) (fun c => ?_) (fun c => ?_)
    · replace hyp := hyp.1 c
      refine ax_aload_n hX dX6_readOne_55 (Or.inr ⟨_, rfl⟩) rfl ?_
      refine ax_aload_n hX dX6_readOne_56 (Or.inr ⟨_, rfl⟩) rfl ?_
      refine ax_iload_n hX dX6_readOne_57 rfl ?_
      obtain ⟨Q1, hK, hyp⟩ := hyp
      refine ax_callV hX lRX6_146 im_X6_readCompared sl_X6_readCompared cw_X6_readCompared ((th_at (by decide) (Nat.lt_of_lt_of_le (by decide) hsz)).trans (tc_ob ly_3)) rfl rfl (A := [.ref q, .int x1]) (st := []) rfl rfl (Nat.le_of_ble_eq_true rfl) (by decide) (by decide) dX6_readOne_58 hK ?_
      rintro _ _ ⟨T1, rfl, rfl, hq⟩
      replace hyp := hyp T1 hq
      exact hR.2.2.2 _ _ _ _ _ (by decide) (by decide) dX6_readOne_61 rfl ⟨_, rfl, rfl, hyp⟩
    · replace hyp := hyp.2 c
      refine ax_aload_n hX dX6_readOne_26 (Or.inr ⟨_, rfl⟩) rfl ?_
      refine tx_getF hX fRX6_12 ly_3 (o := 1) (b := 4) fk_6_0 rfl (by decide) (Nat.lt_of_lt_of_le (by decide) hsz) dX6_readOne_27 ?_
      obtain ⟨Q1, hK, hyp⟩ := hyp
      refine ax_callV hX lRX6_48 im_X9_next sl_X9_next cw_X9_next ((th_at (by decide) (Nat.lt_of_lt_of_le (by decide) hsz)).trans (tc_ob ly_4)) rfl rfl (A := []) (st := []) rfl rfl (Nat.le_of_ble_eq_true rfl) (by decide) (by decide) dX6_readOne_30 hK ?_
      rintro _ _ ⟨T2, rfl, rfl, hq⟩
      replace hyp := hyp T2 hq
      refine ax_aload_n hX dX6_readOne_33 (Or.inr ⟨_, rfl⟩) rfl ?_
      refine ax_aload_n hX dX6_readOne_34 (Or.inr ⟨_, rfl⟩) rfl ?_
      refine ax_iload_n hX dX6_readOne_35 rfl ?_
      refine ax_iconst hX dX6_readOne_36 (v := 1) (by decide) ?_
      refine ax_iadd hX dX6_readOne_37 ?_
      obtain ⟨Q1, hK, hyp⟩ := hyp
      refine ax_callV hX lRX6_143 im_X6_readOne sl_X6_readOne cw_X6_readOne ((th_at (by decide) (Nat.lt_of_lt_of_le (by decide) hsz)).trans (tc_ob ly_3)) rfl rfl (A := [.ref q, .int (x1 + (1 : Int32))]) (st := []) rfl rfl (Nat.le_of_ble_eq_true rfl) (by decide) (by decide) dX6_readOne_38 hK ?_
      rintro _ _ ⟨T3, rfl, rfl, hq⟩
      replace hyp := hyp T3 hq
      refine ax_aload_n hX dX6_readOne_41 (Or.inr ⟨_, rfl⟩) rfl ?_
      rcases ho4 : (T3.2.2 3 3) with _ | p4
      · replace hyp := hyp.1 ho4
        refine tx_getP hX fRX6_25 ly_3 fk_6_3 (by decide) (Nat.lt_of_lt_of_le (by decide) hsz) (v := .null) (congrArg va_rf ho4) dX6_readOne_42 ?_
        refine ax_sipush hX dX6_readOne_45 (v := 209) (by decide) ?_
        refine ax_iconst hX dX6_readOne_48 (v := 0) (by decide) ?_
        exact hyp.elim
      · obtain ⟨h_p4, hyp⟩ := hyp.2 p4 ho4
        refine tx_getP hX fRX6_25 ly_3 fk_6_3 (by decide) (Nat.lt_of_lt_of_le (by decide) hsz) (v := .ref p4) (congrArg va_rf ho4) dX6_readOne_42 ?_
        refine ax_sipush hX dX6_readOne_45 (v := 209) (by decide) ?_
        refine ax_iconst hX dX6_readOne_48 (v := 0) (by decide) ?_
        obtain ⟨Q1, hK, hyp⟩ := hyp
        refine ax_callV hX lRX6_107 im_X8_addCell sl_X8_addCell cw_X8_addCell ((th_at (h_p4.ne 0 (by decide)) (h_p4.lt 0 (by decide))).trans (tc_ob h_p4.ly0)) rfl rfl (A := [.int (209 : Int32), .int (0 : Int32)]) (st := []) rfl rfl (Nat.le_of_ble_eq_true rfl) (by decide) (by decide) dX6_readOne_49 hK ?_
        rintro _ _ ⟨T5, rfl, rfl, hq⟩
        replace hyp := hyp T5 hq
        refine ax_goto hX dX6_readOne_52 (tgt := 61) (by decide) ?_
        exact hR.2.2.2 _ _ _ _ _ (by decide) (by decide) dX6_readOne_61 rfl ⟨_, rfl, rfl, hyp⟩
  · replace hyp := hyp.2 c
    refine ax_aload_n hX dX6_readOne_6 (Or.inr ⟨_, rfl⟩) rfl ?_
    obtain ⟨Q1, hK, hyp⟩ := hyp
    refine ax_callV hX lRX6_55 im_X6_refuse sl_X6_refuse cw_X6_refuse ((th_at (by decide) (Nat.lt_of_lt_of_le (by decide) hsz)).trans (tc_ob ly_3)) rfl rfl (A := []) (st := []) rfl rfl (Nat.le_of_ble_eq_true rfl) (by decide) (by decide) dX6_readOne_7 hK ?_
    rintro _ _ ⟨T6, rfl, rfl, hq⟩
    replace hyp := hyp T6 hq
    refine ax_goto hX dX6_readOne_10 (tgt := 61) (by decide) ?_
    exact hR.2.2.2 _ _ _ _ _ (by decide) (by decide) dX6_readOne_61 rfl ⟨_, rfl, rfl, hyp⟩
set_option maxRecDepth 10000 in
theorem s_X6_readPart_0 {X : ax_X} {d L sz : Nat} {T : tT} {Q : tT → Prop} (hX : ax_ok X mX6_readPart (d + 1)) (hR : ax_Ret X mX6_readPart (tv L sz Q)) (hsz : 161 ≤ sz) {q : Nat} (h_q : tgr sz q)  (hyp : ∃ Q1, tlK d mX6_takeNewName [.ref 3, .ref q] L sz T Q1 ∧ ∀ (r1 : Int64) (T1 : tT), Q1 r1 T1 → (∃ Q1, tiK d mX6_takeNumber [.ref 3, .int (1 : Int32), .int (200 : Int32)] L sz T1 Q1 ∧ ∀ (r2 : Int32) (T2 : tT), Q1 r2 T2 → (((¬ (T2.1 3 1) = 0 → Q T2) ∧ ((T2.1 3 1) = 0 → ∃ Q1, tvK d mX3_addPart [.ref q, .long r1, .int r2] L sz T2 Q1 ∧ ∀ (T3 : tT), Q1 T3 → (Q T3)))))) : ax_j X 0 [some (.ref 3), some (.ref q), none, none, none] [] (th L sz T) 0 0 := by
  refine ax_aload_n hX dX6_readPart_0 (Or.inr ⟨_, rfl⟩) rfl ?_
  refine ax_aload_n hX dX6_readPart_1 (Or.inr ⟨_, rfl⟩) rfl ?_
  obtain ⟨Q1, hK, hyp⟩ := hyp
  refine ax_callV hX lRX6_125 im_X6_takeNewName sl_X6_takeNewName cw_X6_takeNewName ((th_at (by decide) (Nat.lt_of_lt_of_le (by decide) hsz)).trans (tc_ob ly_3)) rfl rfl (A := [.ref q]) (st := []) rfl rfl (Nat.le_of_ble_eq_true rfl) (by decide) (by decide) dX6_readPart_2 hK ?_
  rintro _ _ ⟨r1, T1, rfl, rfl, hq⟩
  replace hyp := hyp r1 T1 hq
  refine ax_lstore_n hX dX6_readPart_5 (by decide) (L' := [some (.ref 3), some (.ref q), some (.long r1), none, none]) rfl ?_
  refine ax_aload_n hX dX6_readPart_6 (Or.inr ⟨_, rfl⟩) rfl ?_
  refine ax_iconst hX dX6_readPart_7 (v := 1) (by decide) ?_
  refine ax_sipush hX dX6_readPart_8 (v := 200) (by decide) ?_
  obtain ⟨Q1, hK, hyp⟩ := hyp
  refine ax_callV hX lRX6_63 im_X6_takeNumber sl_X6_takeNumber cw_X6_takeNumber ((th_at (by decide) (Nat.lt_of_lt_of_le (by decide) hsz)).trans (tc_ob ly_3)) rfl rfl (A := [.int (1 : Int32), .int (200 : Int32)]) (st := []) rfl rfl (Nat.le_of_ble_eq_true rfl) (by decide) (by decide) dX6_readPart_11 hK ?_
  rintro _ _ ⟨r2, T2, rfl, rfl, hq⟩
  replace hyp := hyp r2 T2 hq
  refine ax_istore hX dX6_readPart_14 (by decide) (L' := [some (.ref 3), some (.ref q), some (.long r1), none, some (.int r2)]) rfl ?_
  refine ax_aload_n hX dX6_readPart_16 (Or.inr ⟨_, rfl⟩) rfl ?_
  refine tx_getI hX fRX6_29 ly_3 fk_6_1 (by decide) (Nat.lt_of_lt_of_le (by decide) hsz) dX6_readPart_17 ?_
  refine ax_if_ne hX dX6_readPart_20 (tgt := 30) (by decide) (fun c => ?_) (fun c => ?_)
  · replace hyp := hyp.1 c
    exact hR.2.2.2 _ _ _ _ _ (by decide) (by decide) dX6_readPart_30 rfl ⟨_, rfl, rfl, hyp⟩
  · replace hyp := hyp.2 c
    refine ax_aload_n hX dX6_readPart_23 (Or.inr ⟨_, rfl⟩) rfl ?_
    refine ax_lload_n hX dX6_readPart_24 rfl ?_
    refine ax_iload hX dX6_readPart_25 rfl ?_
    obtain ⟨Q1, hK, hyp⟩ := hyp
    refine ax_callV hX lRX6_136 im_X3_addPart sl_X3_addPart cw_X3_addPart ((th_at (h_q.ne 0 (by decide)) (h_q.lt 0 (by decide))).trans (tc_ob h_q.ly0)) rfl rfl (A := [.long r1, .int r2]) (st := []) rfl rfl (Nat.le_of_ble_eq_true rfl) (by decide) (by decide) dX6_readPart_27 hK ?_
    rintro _ _ ⟨T3, rfl, rfl, hq⟩
    replace hyp := hyp T3 hq
    exact hR.2.2.2 _ _ _ _ _ (by decide) (by decide) dX6_readPart_30 rfl ⟨_, rfl, rfl, hyp⟩
set_option maxRecDepth 10000 in
theorem s_X6_readSum_0 {X : ax_X} {d L sz : Nat} {T : tT} {Q : tT → Prop} (hX : ax_ok X mX6_readSum (d + 1)) (hR : ax_Ret X mX6_readSum (tv L sz Q)) (hsz : 161 ≤ sz) {q : Nat} (h_q : tgr sz q) (x1 : Int32) (hyp : ∃ Q1, tvK d mX6_readLeaf [.ref 3, .ref q, .int x1] L sz T Q1 ∧ ∀ (T1 : tT), Q1 T1 → (ax_j X 8 [some (.ref 3), some (.ref q), some (.int x1), some (.int (0 : Int32)), none] [] (th L sz T1) 0 0)) : ax_j X 0 [some (.ref 3), some (.ref q), some (.int x1), none, none] [] (th L sz T) 0 0 := by
  refine ax_aload_n hX dX6_readSum_0 (Or.inr ⟨_, rfl⟩) rfl ?_
  refine ax_aload_n hX dX6_readSum_1 (Or.inr ⟨_, rfl⟩) rfl ?_
  refine ax_iload_n hX dX6_readSum_2 rfl ?_
  obtain ⟨Q1, hK, hyp⟩ := hyp
  refine ax_callV hX lRX6_152 im_X6_readLeaf sl_X6_readLeaf cw_X6_readLeaf ((th_at (by decide) (Nat.lt_of_lt_of_le (by decide) hsz)).trans (tc_ob ly_3)) rfl rfl (A := [.ref q, .int x1]) (st := []) rfl rfl (Nat.le_of_ble_eq_true rfl) (by decide) (by decide) dX6_readSum_3 hK ?_
  rintro _ _ ⟨T1, rfl, rfl, hq⟩
  replace hyp := hyp T1 hq
  refine ax_iconst hX dX6_readSum_6 (v := 0) (by decide) ?_
  refine ax_istore_n hX dX6_readSum_7 (by decide) (L' := [some (.ref 3), some (.ref q), some (.int x1), some (.int (0 : Int32)), none]) rfl ?_
  exact ax_forget (L' := [some (.ref 3), some (.ref q), some (.int x1), some (.int (0 : Int32)), none]) (⟨rfl, ⟨rfl, ⟨rfl, ⟨rfl, trivial⟩⟩⟩⟩) hyp
set_option maxRecDepth 10000 in
theorem s_X6_readSum_8 {X : ax_X} {d L sz : Nat} {T : tT} {Q : tT → Prop} (hX : ax_ok X mX6_readSum (d + 1)) (hR : ax_Ret X mX6_readSum (tv L sz Q)) (hsz : 161 ≤ sz) {q : Nat} (h_q : tgr sz q) (v2 : Int32) (v3 : Int32) (hyp : (((1400 : Int32) ≤ v3 → Q T) ∧ (¬ (1400 : Int32) ≤ v3 → ((¬ (T.1 3 1) = 0 → Q T) ∧ ((T.1 3 1) = 0 → (((T.1 4 2) = (43 : Int32) → ∃ Q1, tvK d mX9_next [.ref 4] L sz T Q1 ∧ ∀ (T1 : tT), Q1 T1 → (∃ Q1, tvK d mX6_readLeaf [.ref 3, .ref q, .int v2] L sz T1 Q1 ∧ ∀ (T2 : tT), Q1 T2 → ((((T2.2.2 3 3) = none → False) ∧ (∀ p3, (T2.2.2 3 3) = some p3 → tsy sz p3 ∧ ∃ Q1, tvK d mX8_addCell [.ref p3, .int (T.1 4 2), .int (0 : Int32)] L sz T2 Q1 ∧ ∀ (T4 : tT), Q1 T4 → (ax_j X 8 [some (.ref 3), some (.ref q), some (.int v2), some (.int (v3 + (1 : Int32))), none] [] (th L sz T4) 0 0)))))) ∧ (¬ (T.1 4 2) = (43 : Int32) → (((T.1 4 2) = (45 : Int32) → ∃ Q1, tvK d mX9_next [.ref 4] L sz T Q1 ∧ ∀ (T5 : tT), Q1 T5 → (∃ Q1, tvK d mX6_readLeaf [.ref 3, .ref q, .int v2] L sz T5 Q1 ∧ ∀ (T6 : tT), Q1 T6 → ((((T6.2.2 3 3) = none → False) ∧ (∀ p7, (T6.2.2 3 3) = some p7 → tsy sz p7 ∧ ∃ Q1, tvK d mX8_addCell [.ref p7, .int (T.1 4 2), .int (0 : Int32)] L sz T6 Q1 ∧ ∀ (T8 : tT), Q1 T8 → (ax_j X 8 [some (.ref 3), some (.ref q), some (.int v2), some (.int (v3 + (1 : Int32))), none] [] (th L sz T8) 0 0)))))) ∧ (¬ (T.1 4 2) = (45 : Int32) → Q T))))))))) : ax_j X 8 [some (.ref 3), some (.ref q), some (.int v2), some (.int v3), none] [] (th L sz T) 0 0 := by
  refine ax_iload_n hX dX6_readSum_8 rfl ?_
  refine ax_sipush hX dX6_readSum_9 (v := 1400) (by decide) ?_
  refine ax_icmp_ge hX dX6_readSum_12 (tgt := 75) (by decide) (fun c => ?_) (fun c => ?_)
  · replace hyp := hyp.1 c
    exact hR.2.2.2 _ _ _ _ _ (by decide) (by decide) dX6_readSum_75 rfl ⟨_, rfl, rfl, hyp⟩
  · replace hyp := hyp.2 c
    refine ax_aload_n hX dX6_readSum_15 (Or.inr ⟨_, rfl⟩) rfl ?_
    refine tx_getI hX fRX6_29 ly_3 fk_6_1 (by decide) (Nat.lt_of_lt_of_le (by decide) hsz) dX6_readSum_16 ?_
    refine ax_if_ne hX dX6_readSum_19 (tgt := 75) (by decide) (fun c => ?_) (fun c => ?_)
    · replace hyp := hyp.1 c
      exact hR.2.2.2 _ _ _ _ _ (by decide) (by decide) dX6_readSum_75 rfl ⟨_, rfl, rfl, hyp⟩
    · replace hyp := hyp.2 c
      refine ax_aload_n hX dX6_readSum_22 (Or.inr ⟨_, rfl⟩) rfl ?_
      refine tx_getF hX fRX6_12 ly_3 (o := 1) (b := 4) fk_6_0 rfl (by decide) (Nat.lt_of_lt_of_le (by decide) hsz) dX6_readSum_23 ?_
      refine tx_getI hX fRX6_41 ly_4 fk_9_2 (by decide) (Nat.lt_of_lt_of_le (by decide) hsz) dX6_readSum_26 ?_
      refine ax_istore hX dX6_readSum_29 (by decide) (L' := [some (.ref 3), some (.ref q), some (.int v2), some (.int v3), some (.int (T.1 4 2))]) rfl ?_
      refine ax_iload hX dX6_readSum_31 rfl ?_
      refine ax_bipush hX dX6_readSum_33 (v := 43) (by decide) ?_
      refine ax_icmp_eq hX dX6_readSum_35 (tgt := 46) (by decide) (fun c => ?_) (fun c => ?_)
      · replace hyp := hyp.1 c
        refine ax_aload_n hX dX6_readSum_46 (Or.inr ⟨_, rfl⟩) rfl ?_
        refine tx_getF hX fRX6_12 ly_3 (o := 1) (b := 4) fk_6_0 rfl (by decide) (Nat.lt_of_lt_of_le (by decide) hsz) dX6_readSum_47 ?_
        obtain ⟨Q1, hK, hyp⟩ := hyp
        refine ax_callV hX lRX6_48 im_X9_next sl_X9_next cw_X9_next ((th_at (by decide) (Nat.lt_of_lt_of_le (by decide) hsz)).trans (tc_ob ly_4)) rfl rfl (A := []) (st := []) rfl rfl (Nat.le_of_ble_eq_true rfl) (by decide) (by decide) dX6_readSum_50 hK ?_
        rintro _ _ ⟨T1, rfl, rfl, hq⟩
        replace hyp := hyp T1 hq
        refine ax_aload_n hX dX6_readSum_53 (Or.inr ⟨_, rfl⟩) rfl ?_
        refine ax_aload_n hX dX6_readSum_54 (Or.inr ⟨_, rfl⟩) rfl ?_
        refine ax_iload_n hX dX6_readSum_55 rfl ?_
        obtain ⟨Q1, hK, hyp⟩ := hyp
        refine ax_callV hX lRX6_152 im_X6_readLeaf sl_X6_readLeaf cw_X6_readLeaf ((th_at (by decide) (Nat.lt_of_lt_of_le (by decide) hsz)).trans (tc_ob ly_3)) rfl rfl (A := [.ref q, .int v2]) (st := []) rfl rfl (Nat.le_of_ble_eq_true rfl) (by decide) (by decide) dX6_readSum_56 hK ?_
        rintro _ _ ⟨T2, rfl, rfl, hq⟩
        replace hyp := hyp T2 hq
        refine ax_aload_n hX dX6_readSum_59 (Or.inr ⟨_, rfl⟩) rfl ?_
        rcases ho3 : (T2.2.2 3 3) with _ | p3
        · replace hyp := hyp.1 ho3
          refine tx_getP hX fRX6_25 ly_3 fk_6_3 (by decide) (Nat.lt_of_lt_of_le (by decide) hsz) (v := .null) (congrArg va_rf ho3) dX6_readSum_60 ?_
          refine ax_iload hX dX6_readSum_63 rfl ?_
          refine ax_iconst hX dX6_readSum_65 (v := 0) (by decide) ?_
          exact hyp.elim
        · obtain ⟨h_p3, hyp⟩ := hyp.2 p3 ho3
          refine tx_getP hX fRX6_25 ly_3 fk_6_3 (by decide) (Nat.lt_of_lt_of_le (by decide) hsz) (v := .ref p3) (congrArg va_rf ho3) dX6_readSum_60 ?_
          refine ax_iload hX dX6_readSum_63 rfl ?_
          refine ax_iconst hX dX6_readSum_65 (v := 0) (by decide) ?_
          obtain ⟨Q1, hK, hyp⟩ := hyp
          refine ax_callV hX lRX6_107 im_X8_addCell sl_X8_addCell cw_X8_addCell ((th_at (h_p3.ne 0 (by decide)) (h_p3.lt 0 (by decide))).trans (tc_ob h_p3.ly0)) rfl rfl (A := [.int (T.1 4 2), .int (0 : Int32)]) (st := []) rfl rfl (Nat.le_of_ble_eq_true rfl) (by decide) (by decide) dX6_readSum_66 hK ?_
          rintro _ _ ⟨T4, rfl, rfl, hq⟩
          replace hyp := hyp T4 hq
          refine ax_iinc hX dX6_readSum_69 rfl (w := (v3 + (1 : Int32))) rfl (by decide) (L' := [some (.ref 3), some (.ref q), some (.int v2), some (.int (v3 + (1 : Int32))), some (.int (T.1 4 2))]) rfl ?_
          refine ax_goto hX dX6_readSum_72 (tgt := 8) (by decide) ?_
          exact ax_forget (L' := [some (.ref 3), some (.ref q), some (.int v2), some (.int (v3 + (1 : Int32))), none]) (⟨rfl, ⟨rfl, ⟨rfl, ⟨rfl, trivial⟩⟩⟩⟩) hyp
      · replace hyp := hyp.2 c
        refine ax_iload hX dX6_readSum_38 rfl ?_
        refine ax_bipush hX dX6_readSum_40 (v := 45) (by decide) ?_
        refine ax_icmp_eq hX dX6_readSum_42 (tgt := 46) (by decide) (fun c => ?_) (fun c => ?_)
        · replace hyp := hyp.1 c
          refine ax_aload_n hX dX6_readSum_46 (Or.inr ⟨_, rfl⟩) rfl ?_
          refine tx_getF hX fRX6_12 ly_3 (o := 1) (b := 4) fk_6_0 rfl (by decide) (Nat.lt_of_lt_of_le (by decide) hsz) dX6_readSum_47 ?_
          obtain ⟨Q1, hK, hyp⟩ := hyp
          refine ax_callV hX lRX6_48 im_X9_next sl_X9_next cw_X9_next ((th_at (by decide) (Nat.lt_of_lt_of_le (by decide) hsz)).trans (tc_ob ly_4)) rfl rfl (A := []) (st := []) rfl rfl (Nat.le_of_ble_eq_true rfl) (by decide) (by decide) dX6_readSum_50 hK ?_
          rintro _ _ ⟨T5, rfl, rfl, hq⟩
          replace hyp := hyp T5 hq
          refine ax_aload_n hX dX6_readSum_53 (Or.inr ⟨_, rfl⟩) rfl ?_
          refine ax_aload_n hX dX6_readSum_54 (Or.inr ⟨_, rfl⟩) rfl ?_
          refine ax_iload_n hX dX6_readSum_55 rfl ?_
          obtain ⟨Q1, hK, hyp⟩ := hyp
          refine ax_callV hX lRX6_152 im_X6_readLeaf sl_X6_readLeaf cw_X6_readLeaf ((th_at (by decide) (Nat.lt_of_lt_of_le (by decide) hsz)).trans (tc_ob ly_3)) rfl rfl (A := [.ref q, .int v2]) (st := []) rfl rfl (Nat.le_of_ble_eq_true rfl) (by decide) (by decide) dX6_readSum_56 hK ?_
          rintro _ _ ⟨T6, rfl, rfl, hq⟩
          replace hyp := hyp T6 hq
          refine ax_aload_n hX dX6_readSum_59 (Or.inr ⟨_, rfl⟩) rfl ?_
          rcases ho7 : (T6.2.2 3 3) with _ | p7
          · replace hyp := hyp.1 ho7
            refine tx_getP hX fRX6_25 ly_3 fk_6_3 (by decide) (Nat.lt_of_lt_of_le (by decide) hsz) (v := .null) (congrArg va_rf ho7) dX6_readSum_60 ?_
            refine ax_iload hX dX6_readSum_63 rfl ?_
            refine ax_iconst hX dX6_readSum_65 (v := 0) (by decide) ?_
            exact hyp.elim
          · obtain ⟨h_p7, hyp⟩ := hyp.2 p7 ho7
            refine tx_getP hX fRX6_25 ly_3 fk_6_3 (by decide) (Nat.lt_of_lt_of_le (by decide) hsz) (v := .ref p7) (congrArg va_rf ho7) dX6_readSum_60 ?_
            refine ax_iload hX dX6_readSum_63 rfl ?_
            refine ax_iconst hX dX6_readSum_65 (v := 0) (by decide) ?_
            obtain ⟨Q1, hK, hyp⟩ := hyp
            refine ax_callV hX lRX6_107 im_X8_addCell sl_X8_addCell cw_X8_addCell ((th_at (h_p7.ne 0 (by decide)) (h_p7.lt 0 (by decide))).trans (tc_ob h_p7.ly0)) rfl rfl (A := [.int (T.1 4 2), .int (0 : Int32)]) (st := []) rfl rfl (Nat.le_of_ble_eq_true rfl) (by decide) (by decide) dX6_readSum_66 hK ?_
            rintro _ _ ⟨T8, rfl, rfl, hq⟩
            replace hyp := hyp T8 hq
            refine ax_iinc hX dX6_readSum_69 rfl (w := (v3 + (1 : Int32))) rfl (by decide) (L' := [some (.ref 3), some (.ref q), some (.int v2), some (.int (v3 + (1 : Int32))), some (.int (T.1 4 2))]) rfl ?_
            refine ax_goto hX dX6_readSum_72 (tgt := 8) (by decide) ?_
            exact ax_forget (L' := [some (.ref 3), some (.ref q), some (.int v2), some (.int (v3 + (1 : Int32))), none]) (⟨rfl, ⟨rfl, ⟨rfl, ⟨rfl, trivial⟩⟩⟩⟩) hyp
        · replace hyp := hyp.2 c
          exact hR.2.2.2 _ _ _ _ _ (by decide) (by decide) dX6_readSum_45 rfl ⟨_, rfl, rfl, hyp⟩
set_option maxRecDepth 10000 in
theorem s_X6_refuse_0 {X : ax_X} {d L sz : Nat} {T : tT} {Q : tT → Prop} (hX : ax_ok X mX6_refuse (d + 1)) (hR : ax_Ret X mX6_refuse (tv L sz Q)) (hsz : 161 ≤ sz)  (hyp : ((¬ (T.1 4 2) = (1 : Int32) → ∃ Q1, tvK d mX6_fail [.ref 3, .int (2 : Int32), .int (T.1 4 3)] L sz T Q1 ∧ ∀ (T1 : tT), Q1 T1 → (Q T1)) ∧ ((T.1 4 2) = (1 : Int32) → ∃ Q1, tvK d mX6_fail [.ref 3, .int (1 : Int32), .int (T.1 4 3)] L sz T Q1 ∧ ∀ (T2 : tT), Q1 T2 → (Q T2)))) : ax_j X 0 [some (.ref 3)] [] (th L sz T) 0 0 := by
  refine ax_aload_n hX dX6_refuse_0 (Or.inr ⟨_, rfl⟩) rfl ?_
  refine ax_aload_n hX dX6_refuse_1 (Or.inr ⟨_, rfl⟩) rfl ?_
  refine tx_getF hX fRX6_12 ly_3 (o := 1) (b := 4) fk_6_0 rfl (by decide) (Nat.lt_of_lt_of_le (by decide) hsz) dX6_refuse_2 ?_
  refine tx_getI hX fRX6_41 ly_4 fk_9_2 (by decide) (Nat.lt_of_lt_of_le (by decide) hsz) dX6_refuse_5 ?_
  refine ax_iconst hX dX6_refuse_8 (v := 1) (by decide) ?_
  refine ax_icmp_ne hX dX6_refuse_9 (tgt := 16) (by decide) (fun c => ?_) (fun c => ?_)
  · replace hyp := hyp.1 c
    refine ax_iconst hX dX6_refuse_16 (v := 2) (by decide) ?_
    refine ax_aload_n hX dX6_refuse_17 (Or.inr ⟨_, rfl⟩) rfl ?_
    refine tx_getF hX fRX6_12 ly_3 (o := 1) (b := 4) fk_6_0 rfl (by decide) (Nat.lt_of_lt_of_le (by decide) hsz) dX6_refuse_18 ?_
    refine tx_getI hX fRX6_62 ly_4 fk_9_3 (by decide) (Nat.lt_of_lt_of_le (by decide) hsz) dX6_refuse_21 ?_
    obtain ⟨Q1, hK, hyp⟩ := hyp
    refine ax_callV hX lRX6_71 im_X6_fail sl_X6_fail cw_X6_fail ((th_at (by decide) (Nat.lt_of_lt_of_le (by decide) hsz)).trans (tc_ob ly_3)) rfl rfl (A := [.int (2 : Int32), .int (T.1 4 3)]) (st := []) rfl rfl (Nat.le_of_ble_eq_true rfl) (by decide) (by decide) dX6_refuse_24 hK ?_
    rintro _ _ ⟨T1, rfl, rfl, hq⟩
    replace hyp := hyp T1 hq
    exact hR.2.2.2 _ _ _ _ _ (by decide) (by decide) dX6_refuse_27 rfl ⟨_, rfl, rfl, hyp⟩
  · replace hyp := hyp.2 c
    refine ax_iconst hX dX6_refuse_12 (v := 1) (by decide) ?_
    refine ax_goto hX dX6_refuse_13 (tgt := 17) (by decide) ?_
    refine ax_aload_n hX dX6_refuse_17 (Or.inr ⟨_, rfl⟩) rfl ?_
    refine tx_getF hX fRX6_12 ly_3 (o := 1) (b := 4) fk_6_0 rfl (by decide) (Nat.lt_of_lt_of_le (by decide) hsz) dX6_refuse_18 ?_
    refine tx_getI hX fRX6_62 ly_4 fk_9_3 (by decide) (Nat.lt_of_lt_of_le (by decide) hsz) dX6_refuse_21 ?_
    obtain ⟨Q1, hK, hyp⟩ := hyp
    refine ax_callV hX lRX6_71 im_X6_fail sl_X6_fail cw_X6_fail ((th_at (by decide) (Nat.lt_of_lt_of_le (by decide) hsz)).trans (tc_ob ly_3)) rfl rfl (A := [.int (1 : Int32), .int (T.1 4 3)]) (st := []) rfl rfl (Nat.le_of_ble_eq_true rfl) (by decide) (by decide) dX6_refuse_24 hK ?_
    rintro _ _ ⟨T2, rfl, rfl, hq⟩
    replace hyp := hyp T2 hq
    exact hR.2.2.2 _ _ _ _ _ (by decide) (by decide) dX6_refuse_27 rfl ⟨_, rfl, rfl, hyp⟩
set_option maxRecDepth 10000 in
theorem s_X6_take_0 {X : ax_X} {d L sz : Nat} {T : tT} {Q : tT → Prop} (hX : ax_ok X mX6_take (d + 1)) (hR : ax_Ret X mX6_take (tv L sz Q)) (hsz : 161 ≤ sz) (x0 : Int32) (hyp : (((T.1 3 1) = 0 → ((¬ (T.1 4 2) = x0 → ∃ Q1, tvK d mX6_refuse [.ref 3] L sz T Q1 ∧ ∀ (T1 : tT), Q1 T1 → (Q T1)) ∧ ((T.1 4 2) = x0 → ∃ Q1, tvK d mX9_next [.ref 4] L sz T Q1 ∧ ∀ (T2 : tT), Q1 T2 → (Q T2)))) ∧ (¬ (T.1 3 1) = 0 → Q T))) : ax_j X 0 [some (.ref 3), some (.int x0)] [] (th L sz T) 0 0 := by
  refine ax_aload_n hX dX6_take_0 (Or.inr ⟨_, rfl⟩) rfl ?_
  refine tx_getI hX fRX6_29 ly_3 fk_6_1 (by decide) (Nat.lt_of_lt_of_le (by decide) hsz) dX6_take_1 ?_
  refine ax_if_eq hX dX6_take_4 (tgt := 8) (by decide) (fun c => ?_) (fun c => ?_)
  · replace hyp := hyp.1 c
    refine ax_aload_n hX dX6_take_8 (Or.inr ⟨_, rfl⟩) rfl ?_
    refine tx_getF hX fRX6_12 ly_3 (o := 1) (b := 4) fk_6_0 rfl (by decide) (Nat.lt_of_lt_of_le (by decide) hsz) dX6_take_9 ?_
    refine tx_getI hX fRX6_41 ly_4 fk_9_2 (by decide) (Nat.lt_of_lt_of_le (by decide) hsz) dX6_take_12 ?_
    refine ax_iload_n hX dX6_take_15 rfl ?_
    refine ax_icmp_ne hX dX6_take_16 (tgt := 29) (by decide) (fun c => ?_) (fun c => ?_)
    · replace hyp := hyp.1 c
      refine ax_aload_n hX dX6_take_29 (Or.inr ⟨_, rfl⟩) rfl ?_
      obtain ⟨Q1, hK, hyp⟩ := hyp
      refine ax_callV hX lRX6_55 im_X6_refuse sl_X6_refuse cw_X6_refuse ((th_at (by decide) (Nat.lt_of_lt_of_le (by decide) hsz)).trans (tc_ob ly_3)) rfl rfl (A := []) (st := []) rfl rfl (Nat.le_of_ble_eq_true rfl) (by decide) (by decide) dX6_take_30 hK ?_
      rintro _ _ ⟨T1, rfl, rfl, hq⟩
      replace hyp := hyp T1 hq
      exact hR.2.2.2 _ _ _ _ _ (by decide) (by decide) dX6_take_33 rfl ⟨_, rfl, rfl, hyp⟩
    · replace hyp := hyp.2 c
      refine ax_aload_n hX dX6_take_19 (Or.inr ⟨_, rfl⟩) rfl ?_
      refine tx_getF hX fRX6_12 ly_3 (o := 1) (b := 4) fk_6_0 rfl (by decide) (Nat.lt_of_lt_of_le (by decide) hsz) dX6_take_20 ?_
      obtain ⟨Q1, hK, hyp⟩ := hyp
      refine ax_callV hX lRX6_48 im_X9_next sl_X9_next cw_X9_next ((th_at (by decide) (Nat.lt_of_lt_of_le (by decide) hsz)).trans (tc_ob ly_4)) rfl rfl (A := []) (st := []) rfl rfl (Nat.le_of_ble_eq_true rfl) (by decide) (by decide) dX6_take_23 hK ?_
      rintro _ _ ⟨T2, rfl, rfl, hq⟩
      replace hyp := hyp T2 hq
      refine ax_goto hX dX6_take_26 (tgt := 33) (by decide) ?_
      exact hR.2.2.2 _ _ _ _ _ (by decide) (by decide) dX6_take_33 rfl ⟨_, rfl, rfl, hyp⟩
  · replace hyp := hyp.2 c
    exact hR.2.2.2 _ _ _ _ _ (by decide) (by decide) dX6_take_7 rfl ⟨_, rfl, rfl, hyp⟩
set_option maxRecDepth 10000 in
theorem s_X6_takeListed_0 {X : ax_X} {d L sz : Nat} {T : tT} {Q : tT → Prop} (hX : ax_ok X mX6_takeListed (d + 1)) (hR : ax_Ret X mX6_takeListed (tv L sz Q)) (hsz : 161 ≤ sz) {q : Nat} (h_q : tgr sz q)  (hyp : ((¬ (T.1 4 2) = (3 : Int32) → ∃ Q1, tvK d mX6_refuse [.ref 3] L sz T Q1 ∧ ∀ (T1 : tT), Q1 T1 → (∃ Q1, tvK d mX9_next [.ref 4] L sz T1 Q1 ∧ ∀ (T2 : tT), Q1 T2 → (Q T2))) ∧ ((T.1 4 2) = (3 : Int32) → ∃ Q1, tiK d mX3_isLastListFull [.ref q] L sz T Q1 ∧ ∀ (r3 : Int32) (T3 : tT), Q1 r3 T3 → (((r3 = 0 → ∃ Q1, tiK d mX3_isListed [.ref q, .int ((T3.1 q 1) - (1 : Int32)), .long (T3.2.1 4 5)] L sz T3 Q1 ∧ ∀ (r4 : Int32) (T4 : tT), Q1 r4 T4 → (((r4 = 0 → ∃ Q1, tvK d mX3_addListed [.ref q, .long (T4.2.1 4 5)] L sz T4 Q1 ∧ ∀ (T5 : tT), Q1 T5 → (∃ Q1, tvK d mX9_next [.ref 4] L sz T5 Q1 ∧ ∀ (T6 : tT), Q1 T6 → (Q T6))) ∧ (¬ r4 = 0 → ∃ Q1, tvK d mX6_fail [.ref 3, .int (3 : Int32), .int (T4.1 4 3)] L sz T4 Q1 ∧ ∀ (T7 : tT), Q1 T7 → (∃ Q1, tvK d mX9_next [.ref 4] L sz T7 Q1 ∧ ∀ (T8 : tT), Q1 T8 → (Q T8)))))) ∧ (¬ r3 = 0 → ∃ Q1, tvK d mX6_refuse [.ref 3] L sz T3 Q1 ∧ ∀ (T9 : tT), Q1 T9 → (∃ Q1, tvK d mX9_next [.ref 4] L sz T9 Q1 ∧ ∀ (T10 : tT), Q1 T10 → (Q T10)))))))) : ax_j X 0 [some (.ref 3), some (.ref q)] [] (th L sz T) 0 0 := by
  refine ax_aload_n hX dX6_takeListed_0 (Or.inr ⟨_, rfl⟩) rfl ?_
  refine tx_getF hX fRX6_12 ly_3 (o := 1) (b := 4) fk_6_0 rfl (by decide) (Nat.lt_of_lt_of_le (by decide) hsz) dX6_takeListed_1 ?_
  refine tx_getI hX fRX6_41 ly_4 fk_9_2 (by decide) (Nat.lt_of_lt_of_le (by decide) hsz) dX6_takeListed_4 ?_
  refine ax_iconst hX dX6_takeListed_7 (v := 3) (by decide) ?_
  refine ax_icmp_ne hX dX6_takeListed_8 (tgt := 18) (by decide) (fun c => ?_) (fun c => ?_)
  · replace hyp := hyp.1 c
    refine ax_aload_n hX dX6_takeListed_18 (Or.inr ⟨_, rfl⟩) rfl ?_
    obtain ⟨Q1, hK, hyp⟩ := hyp
    refine ax_callV hX lRX6_55 im_X6_refuse sl_X6_refuse cw_X6_refuse ((th_at (by decide) (Nat.lt_of_lt_of_le (by decide) hsz)).trans (tc_ob ly_3)) rfl rfl (A := []) (st := []) rfl rfl (Nat.le_of_ble_eq_true rfl) (by decide) (by decide) dX6_takeListed_19 hK ?_
    rintro _ _ ⟨T1, rfl, rfl, hq⟩
    replace hyp := hyp T1 hq
    refine ax_goto hX dX6_takeListed_22 (tgt := 71) (by decide) ?_
    refine ax_aload_n hX dX6_takeListed_71 (Or.inr ⟨_, rfl⟩) rfl ?_
    refine tx_getF hX fRX6_12 ly_3 (o := 1) (b := 4) fk_6_0 rfl (by decide) (Nat.lt_of_lt_of_le (by decide) hsz) dX6_takeListed_72 ?_
    obtain ⟨Q1, hK, hyp⟩ := hyp
    refine ax_callV hX lRX6_48 im_X9_next sl_X9_next cw_X9_next ((th_at (by decide) (Nat.lt_of_lt_of_le (by decide) hsz)).trans (tc_ob ly_4)) rfl rfl (A := []) (st := []) rfl rfl (Nat.le_of_ble_eq_true rfl) (by decide) (by decide) dX6_takeListed_75 hK ?_
    rintro _ _ ⟨T2, rfl, rfl, hq⟩
    replace hyp := hyp T2 hq
    exact hR.2.2.2 _ _ _ _ _ (by decide) (by decide) dX6_takeListed_78 rfl ⟨_, rfl, rfl, hyp⟩
  · replace hyp := hyp.2 c
    refine ax_aload_n hX dX6_takeListed_11 (Or.inr ⟨_, rfl⟩) rfl ?_
    obtain ⟨Q1, hK, hyp⟩ := hyp
    refine ax_callV hX lRX6_179 im_X3_isLastListFull sl_X3_isLastListFull cw_X3_isLastListFull ((th_at (h_q.ne 0 (by decide)) (h_q.lt 0 (by decide))).trans (tc_ob h_q.ly0)) rfl rfl (A := []) (st := []) rfl rfl (Nat.le_of_ble_eq_true rfl) (by decide) (by decide) dX6_takeListed_12 hK ?_
    rintro _ _ ⟨r3, T3, rfl, rfl, hq⟩
    replace hyp := hyp r3 T3 hq
    refine ax_if_eq hX dX6_takeListed_15 (tgt := 25) (by decide) (fun c => ?_) (fun c => ?_)
    · replace hyp := hyp.1 c
      refine ax_aload_n hX dX6_takeListed_25 (Or.inr ⟨_, rfl⟩) rfl ?_
      refine ax_aload_n hX dX6_takeListed_26 (Or.inr ⟨_, rfl⟩) rfl ?_
      refine tx_getI hX fRX6_110 h_q.ly0 fk_3_1 (h_q.ne 0 (by decide)) (h_q.lt 0 (by decide)) dX6_takeListed_27 ?_
      refine ax_iconst hX dX6_takeListed_30 (v := 1) (by decide) ?_
      refine ax_isub hX dX6_takeListed_31 ?_
      refine ax_aload_n hX dX6_takeListed_32 (Or.inr ⟨_, rfl⟩) rfl ?_
      refine tx_getF hX fRX6_12 ly_3 (o := 1) (b := 4) fk_6_0 rfl (by decide) (Nat.lt_of_lt_of_le (by decide) hsz) dX6_takeListed_33 ?_
      refine tx_getJ hX fRX6_165 ly_4 fk_9_5 (by decide) (Nat.lt_of_lt_of_le (by decide) hsz) dX6_takeListed_36 ?_
      obtain ⟨Q1, hK, hyp⟩ := hyp
      refine ax_callV hX lRX6_183 im_X3_isListed sl_X3_isListed cw_X3_isListed ((th_at (h_q.ne 0 (by decide)) (h_q.lt 0 (by decide))).trans (tc_ob h_q.ly0)) rfl rfl (A := [.int ((T3.1 q 1) - (1 : Int32)), .long (T3.2.1 4 5)]) (st := []) rfl rfl (Nat.le_of_ble_eq_true rfl) (by decide) (by decide) dX6_takeListed_39 hK ?_
      rintro _ _ ⟨r4, T4, rfl, rfl, hq⟩
      replace hyp := hyp r4 T4 hq
      refine ax_if_eq hX dX6_takeListed_42 (tgt := 60) (by decide) (fun c => ?_) (fun c => ?_)
      · replace hyp := hyp.1 c
        refine ax_aload_n hX dX6_takeListed_60 (Or.inr ⟨_, rfl⟩) rfl ?_
        refine ax_aload_n hX dX6_takeListed_61 (Or.inr ⟨_, rfl⟩) rfl ?_
        refine tx_getF hX fRX6_12 ly_3 (o := 1) (b := 4) fk_6_0 rfl (by decide) (Nat.lt_of_lt_of_le (by decide) hsz) dX6_takeListed_62 ?_
        refine tx_getJ hX fRX6_165 ly_4 fk_9_5 (by decide) (Nat.lt_of_lt_of_le (by decide) hsz) dX6_takeListed_65 ?_
        obtain ⟨Q1, hK, hyp⟩ := hyp
        refine ax_callV hX lRX6_187 im_X3_addListed sl_X3_addListed cw_X3_addListed ((th_at (h_q.ne 0 (by decide)) (h_q.lt 0 (by decide))).trans (tc_ob h_q.ly0)) rfl rfl (A := [.long (T4.2.1 4 5)]) (st := []) rfl rfl (Nat.le_of_ble_eq_true rfl) (by decide) (by decide) dX6_takeListed_68 hK ?_
        rintro _ _ ⟨T5, rfl, rfl, hq⟩
        replace hyp := hyp T5 hq
        refine ax_aload_n hX dX6_takeListed_71 (Or.inr ⟨_, rfl⟩) rfl ?_
        refine tx_getF hX fRX6_12 ly_3 (o := 1) (b := 4) fk_6_0 rfl (by decide) (Nat.lt_of_lt_of_le (by decide) hsz) dX6_takeListed_72 ?_
        obtain ⟨Q1, hK, hyp⟩ := hyp
        refine ax_callV hX lRX6_48 im_X9_next sl_X9_next cw_X9_next ((th_at (by decide) (Nat.lt_of_lt_of_le (by decide) hsz)).trans (tc_ob ly_4)) rfl rfl (A := []) (st := []) rfl rfl (Nat.le_of_ble_eq_true rfl) (by decide) (by decide) dX6_takeListed_75 hK ?_
        rintro _ _ ⟨T6, rfl, rfl, hq⟩
        replace hyp := hyp T6 hq
        exact hR.2.2.2 _ _ _ _ _ (by decide) (by decide) dX6_takeListed_78 rfl ⟨_, rfl, rfl, hyp⟩
      · replace hyp := hyp.2 c
        refine ax_aload_n hX dX6_takeListed_45 (Or.inr ⟨_, rfl⟩) rfl ?_
        refine ax_iconst hX dX6_takeListed_46 (v := 3) (by decide) ?_
        refine ax_aload_n hX dX6_takeListed_47 (Or.inr ⟨_, rfl⟩) rfl ?_
        refine tx_getF hX fRX6_12 ly_3 (o := 1) (b := 4) fk_6_0 rfl (by decide) (Nat.lt_of_lt_of_le (by decide) hsz) dX6_takeListed_48 ?_
        refine tx_getI hX fRX6_62 ly_4 fk_9_3 (by decide) (Nat.lt_of_lt_of_le (by decide) hsz) dX6_takeListed_51 ?_
        obtain ⟨Q1, hK, hyp⟩ := hyp
        refine ax_callV hX lRX6_71 im_X6_fail sl_X6_fail cw_X6_fail ((th_at (by decide) (Nat.lt_of_lt_of_le (by decide) hsz)).trans (tc_ob ly_3)) rfl rfl (A := [.int (3 : Int32), .int (T4.1 4 3)]) (st := []) rfl rfl (Nat.le_of_ble_eq_true rfl) (by decide) (by decide) dX6_takeListed_54 hK ?_
        rintro _ _ ⟨T7, rfl, rfl, hq⟩
        replace hyp := hyp T7 hq
        refine ax_goto hX dX6_takeListed_57 (tgt := 71) (by decide) ?_
        refine ax_aload_n hX dX6_takeListed_71 (Or.inr ⟨_, rfl⟩) rfl ?_
        refine tx_getF hX fRX6_12 ly_3 (o := 1) (b := 4) fk_6_0 rfl (by decide) (Nat.lt_of_lt_of_le (by decide) hsz) dX6_takeListed_72 ?_
        obtain ⟨Q1, hK, hyp⟩ := hyp
        refine ax_callV hX lRX6_48 im_X9_next sl_X9_next cw_X9_next ((th_at (by decide) (Nat.lt_of_lt_of_le (by decide) hsz)).trans (tc_ob ly_4)) rfl rfl (A := []) (st := []) rfl rfl (Nat.le_of_ble_eq_true rfl) (by decide) (by decide) dX6_takeListed_75 hK ?_
        rintro _ _ ⟨T8, rfl, rfl, hq⟩
        replace hyp := hyp T8 hq
        exact hR.2.2.2 _ _ _ _ _ (by decide) (by decide) dX6_takeListed_78 rfl ⟨_, rfl, rfl, hyp⟩
    · replace hyp := hyp.2 c
      refine ax_aload_n hX dX6_takeListed_18 (Or.inr ⟨_, rfl⟩) rfl ?_
      obtain ⟨Q1, hK, hyp⟩ := hyp
      refine ax_callV hX lRX6_55 im_X6_refuse sl_X6_refuse cw_X6_refuse ((th_at (by decide) (Nat.lt_of_lt_of_le (by decide) hsz)).trans (tc_ob ly_3)) rfl rfl (A := []) (st := []) rfl rfl (Nat.le_of_ble_eq_true rfl) (by decide) (by decide) dX6_takeListed_19 hK ?_
      rintro _ _ ⟨T9, rfl, rfl, hq⟩
      replace hyp := hyp T9 hq
      refine ax_goto hX dX6_takeListed_22 (tgt := 71) (by decide) ?_
      refine ax_aload_n hX dX6_takeListed_71 (Or.inr ⟨_, rfl⟩) rfl ?_
      refine tx_getF hX fRX6_12 ly_3 (o := 1) (b := 4) fk_6_0 rfl (by decide) (Nat.lt_of_lt_of_le (by decide) hsz) dX6_takeListed_72 ?_
      obtain ⟨Q1, hK, hyp⟩ := hyp
      refine ax_callV hX lRX6_48 im_X9_next sl_X9_next cw_X9_next ((th_at (by decide) (Nat.lt_of_lt_of_le (by decide) hsz)).trans (tc_ob ly_4)) rfl rfl (A := []) (st := []) rfl rfl (Nat.le_of_ble_eq_true rfl) (by decide) (by decide) dX6_takeListed_75 hK ?_
      rintro _ _ ⟨T10, rfl, rfl, hq⟩
      replace hyp := hyp T10 hq
      exact hR.2.2.2 _ _ _ _ _ (by decide) (by decide) dX6_takeListed_78 rfl ⟨_, rfl, rfl, hyp⟩
set_option maxRecDepth 10000 in
theorem s_X6_takeNewName_0 {X : ax_X} {d L sz : Nat} {T : tT} {Q : Int64 → tT → Prop} (hX : ax_ok X mX6_takeNewName (d + 1)) (hR : ax_Ret X mX6_takeNewName (tl L sz Q)) (hsz : 161 ≤ sz) {q : Nat} (h_q : tgr sz q)  (hyp : (((T.1 4 2) = (3 : Int32) → ∃ Q1, tiK d mX3_findList [.ref q, .long (T.2.1 4 5)] L sz T Q1 ∧ ∀ (r1 : Int32) (T1 : tT), Q1 r1 T1 → (((¬ r1 = (-1 : Int32) → ∃ Q1, tvK d mX6_fail [.ref 3, .int (3 : Int32), .int (T1.1 4 3)] L sz T1 Q1 ∧ ∀ (T2 : tT), Q1 T2 → (∃ Q1, tvK d mX9_next [.ref 4] L sz T2 Q1 ∧ ∀ (T3 : tT), Q1 T3 → (Q (T.2.1 4 5) T3))) ∧ (r1 = (-1 : Int32) → ∃ Q1, tiK d mX3_findPart [.ref q, .long (T.2.1 4 5)] L sz T1 Q1 ∧ ∀ (r4 : Int32) (T4 : tT), Q1 r4 T4 → (((r4 = (-1 : Int32) → ∃ Q1, tvK d mX9_next [.ref 4] L sz T4 Q1 ∧ ∀ (T5 : tT), Q1 T5 → (Q (T.2.1 4 5) T5)) ∧ (¬ r4 = (-1 : Int32) → ∃ Q1, tvK d mX6_fail [.ref 3, .int (3 : Int32), .int (T4.1 4 3)] L sz T4 Q1 ∧ ∀ (T6 : tT), Q1 T6 → (∃ Q1, tvK d mX9_next [.ref 4] L sz T6 Q1 ∧ ∀ (T7 : tT), Q1 T7 → (Q (T.2.1 4 5) T7))))))))) ∧ (¬ (T.1 4 2) = (3 : Int32) → ∃ Q1, tvK d mX6_refuse [.ref 3] L sz T Q1 ∧ ∀ (T8 : tT), Q1 T8 → (∃ Q1, tvK d mX9_next [.ref 4] L sz T8 Q1 ∧ ∀ (T9 : tT), Q1 T9 → (Q (T.2.1 4 5) T9))))) : ax_j X 0 [some (.ref 3), some (.ref q), none, none] [] (th L sz T) 0 0 := by
  refine ax_aload_n hX dX6_takeNewName_0 (Or.inr ⟨_, rfl⟩) rfl ?_
  refine tx_getF hX fRX6_12 ly_3 (o := 1) (b := 4) fk_6_0 rfl (by decide) (Nat.lt_of_lt_of_le (by decide) hsz) dX6_takeNewName_1 ?_
  refine tx_getJ hX fRX6_165 ly_4 fk_9_5 (by decide) (Nat.lt_of_lt_of_le (by decide) hsz) dX6_takeNewName_4 ?_
  refine ax_lstore_n hX dX6_takeNewName_7 (by decide) (L' := [some (.ref 3), some (.ref q), some (.long (T.2.1 4 5)), none]) rfl ?_
  refine ax_aload_n hX dX6_takeNewName_8 (Or.inr ⟨_, rfl⟩) rfl ?_
  refine tx_getF hX fRX6_12 ly_3 (o := 1) (b := 4) fk_6_0 rfl (by decide) (Nat.lt_of_lt_of_le (by decide) hsz) dX6_takeNewName_9 ?_
  refine tx_getI hX fRX6_41 ly_4 fk_9_2 (by decide) (Nat.lt_of_lt_of_le (by decide) hsz) dX6_takeNewName_12 ?_
  refine ax_iconst hX dX6_takeNewName_15 (v := 3) (by decide) ?_
  refine ax_icmp_eq hX dX6_takeNewName_16 (tgt := 26) (by decide) (fun c => ?_) (fun c => ?_)
  · replace hyp := hyp.1 c
    refine ax_aload_n hX dX6_takeNewName_26 (Or.inr ⟨_, rfl⟩) rfl ?_
    refine ax_lload_n hX dX6_takeNewName_27 rfl ?_
    obtain ⟨Q1, hK, hyp⟩ := hyp
    refine ax_callV hX lRX6_169 im_X3_findList sl_X3_findList cw_X3_findList ((th_at (h_q.ne 0 (by decide)) (h_q.lt 0 (by decide))).trans (tc_ob h_q.ly0)) rfl rfl (A := [.long (T.2.1 4 5)]) (st := []) rfl rfl (Nat.le_of_ble_eq_true rfl) (by decide) (by decide) dX6_takeNewName_28 hK ?_
    rintro _ _ ⟨r1, T1, rfl, rfl, hq⟩
    replace hyp := hyp r1 T1 hq
    refine ax_iconst hX dX6_takeNewName_31 (v := -1) (by decide) ?_
    refine ax_icmp_ne hX dX6_takeNewName_32 (tgt := 44) (by decide) (fun c => ?_) (fun c => ?_)
    · replace hyp := hyp.1 c
      refine ax_aload_n hX dX6_takeNewName_44 (Or.inr ⟨_, rfl⟩) rfl ?_
      refine ax_iconst hX dX6_takeNewName_45 (v := 3) (by decide) ?_
      refine ax_aload_n hX dX6_takeNewName_46 (Or.inr ⟨_, rfl⟩) rfl ?_
      refine tx_getF hX fRX6_12 ly_3 (o := 1) (b := 4) fk_6_0 rfl (by decide) (Nat.lt_of_lt_of_le (by decide) hsz) dX6_takeNewName_47 ?_
      refine tx_getI hX fRX6_62 ly_4 fk_9_3 (by decide) (Nat.lt_of_lt_of_le (by decide) hsz) dX6_takeNewName_50 ?_
      obtain ⟨Q1, hK, hyp⟩ := hyp
      refine ax_callV hX lRX6_71 im_X6_fail sl_X6_fail cw_X6_fail ((th_at (by decide) (Nat.lt_of_lt_of_le (by decide) hsz)).trans (tc_ob ly_3)) rfl rfl (A := [.int (3 : Int32), .int (T1.1 4 3)]) (st := []) rfl rfl (Nat.le_of_ble_eq_true rfl) (by decide) (by decide) dX6_takeNewName_53 hK ?_
      rintro _ _ ⟨T2, rfl, rfl, hq⟩
      replace hyp := hyp T2 hq
      refine ax_aload_n hX dX6_takeNewName_56 (Or.inr ⟨_, rfl⟩) rfl ?_
      refine tx_getF hX fRX6_12 ly_3 (o := 1) (b := 4) fk_6_0 rfl (by decide) (Nat.lt_of_lt_of_le (by decide) hsz) dX6_takeNewName_57 ?_
      obtain ⟨Q1, hK, hyp⟩ := hyp
      refine ax_callV hX lRX6_48 im_X9_next sl_X9_next cw_X9_next ((th_at (by decide) (Nat.lt_of_lt_of_le (by decide) hsz)).trans (tc_ob ly_4)) rfl rfl (A := []) (st := []) rfl rfl (Nat.le_of_ble_eq_true rfl) (by decide) (by decide) dX6_takeNewName_60 hK ?_
      rintro _ _ ⟨T3, rfl, rfl, hq⟩
      replace hyp := hyp T3 hq
      refine ax_lload_n hX dX6_takeNewName_63 rfl ?_
      exact hR.2.1 _ _ _ _ _ _ (by decide) (by decide) dX6_takeNewName_64 rfl ⟨_, _, rfl, rfl, hyp⟩
    · replace hyp := hyp.2 c
      refine ax_aload_n hX dX6_takeNewName_35 (Or.inr ⟨_, rfl⟩) rfl ?_
      refine ax_lload_n hX dX6_takeNewName_36 rfl ?_
      obtain ⟨Q1, hK, hyp⟩ := hyp
      refine ax_callV hX lRX6_173 im_X3_findPart sl_X3_findPart cw_X3_findPart ((th_at (h_q.ne 0 (by decide)) (h_q.lt 0 (by decide))).trans (tc_ob h_q.ly0)) rfl rfl (A := [.long (T.2.1 4 5)]) (st := []) rfl rfl (Nat.le_of_ble_eq_true rfl) (by decide) (by decide) dX6_takeNewName_37 hK ?_
      rintro _ _ ⟨r4, T4, rfl, rfl, hq⟩
      replace hyp := hyp r4 T4 hq
      refine ax_iconst hX dX6_takeNewName_40 (v := -1) (by decide) ?_
      refine ax_icmp_eq hX dX6_takeNewName_41 (tgt := 56) (by decide) (fun c => ?_) (fun c => ?_)
      · replace hyp := hyp.1 c
        refine ax_aload_n hX dX6_takeNewName_56 (Or.inr ⟨_, rfl⟩) rfl ?_
        refine tx_getF hX fRX6_12 ly_3 (o := 1) (b := 4) fk_6_0 rfl (by decide) (Nat.lt_of_lt_of_le (by decide) hsz) dX6_takeNewName_57 ?_
        obtain ⟨Q1, hK, hyp⟩ := hyp
        refine ax_callV hX lRX6_48 im_X9_next sl_X9_next cw_X9_next ((th_at (by decide) (Nat.lt_of_lt_of_le (by decide) hsz)).trans (tc_ob ly_4)) rfl rfl (A := []) (st := []) rfl rfl (Nat.le_of_ble_eq_true rfl) (by decide) (by decide) dX6_takeNewName_60 hK ?_
        rintro _ _ ⟨T5, rfl, rfl, hq⟩
        replace hyp := hyp T5 hq
        refine ax_lload_n hX dX6_takeNewName_63 rfl ?_
        exact hR.2.1 _ _ _ _ _ _ (by decide) (by decide) dX6_takeNewName_64 rfl ⟨_, _, rfl, rfl, hyp⟩
      · replace hyp := hyp.2 c
        refine ax_aload_n hX dX6_takeNewName_44 (Or.inr ⟨_, rfl⟩) rfl ?_
        refine ax_iconst hX dX6_takeNewName_45 (v := 3) (by decide) ?_
        refine ax_aload_n hX dX6_takeNewName_46 (Or.inr ⟨_, rfl⟩) rfl ?_
        refine tx_getF hX fRX6_12 ly_3 (o := 1) (b := 4) fk_6_0 rfl (by decide) (Nat.lt_of_lt_of_le (by decide) hsz) dX6_takeNewName_47 ?_
        refine tx_getI hX fRX6_62 ly_4 fk_9_3 (by decide) (Nat.lt_of_lt_of_le (by decide) hsz) dX6_takeNewName_50 ?_
        obtain ⟨Q1, hK, hyp⟩ := hyp
        refine ax_callV hX lRX6_71 im_X6_fail sl_X6_fail cw_X6_fail ((th_at (by decide) (Nat.lt_of_lt_of_le (by decide) hsz)).trans (tc_ob ly_3)) rfl rfl (A := [.int (3 : Int32), .int (T4.1 4 3)]) (st := []) rfl rfl (Nat.le_of_ble_eq_true rfl) (by decide) (by decide) dX6_takeNewName_53 hK ?_
        rintro _ _ ⟨T6, rfl, rfl, hq⟩
        replace hyp := hyp T6 hq
        refine ax_aload_n hX dX6_takeNewName_56 (Or.inr ⟨_, rfl⟩) rfl ?_
        refine tx_getF hX fRX6_12 ly_3 (o := 1) (b := 4) fk_6_0 rfl (by decide) (Nat.lt_of_lt_of_le (by decide) hsz) dX6_takeNewName_57 ?_
        obtain ⟨Q1, hK, hyp⟩ := hyp
        refine ax_callV hX lRX6_48 im_X9_next sl_X9_next cw_X9_next ((th_at (by decide) (Nat.lt_of_lt_of_le (by decide) hsz)).trans (tc_ob ly_4)) rfl rfl (A := []) (st := []) rfl rfl (Nat.le_of_ble_eq_true rfl) (by decide) (by decide) dX6_takeNewName_60 hK ?_
        rintro _ _ ⟨T7, rfl, rfl, hq⟩
        replace hyp := hyp T7 hq
        refine ax_lload_n hX dX6_takeNewName_63 rfl ?_
        exact hR.2.1 _ _ _ _ _ _ (by decide) (by decide) dX6_takeNewName_64 rfl ⟨_, _, rfl, rfl, hyp⟩
  · replace hyp := hyp.2 c
    refine ax_aload_n hX dX6_takeNewName_19 (Or.inr ⟨_, rfl⟩) rfl ?_
    obtain ⟨Q1, hK, hyp⟩ := hyp
    refine ax_callV hX lRX6_55 im_X6_refuse sl_X6_refuse cw_X6_refuse ((th_at (by decide) (Nat.lt_of_lt_of_le (by decide) hsz)).trans (tc_ob ly_3)) rfl rfl (A := []) (st := []) rfl rfl (Nat.le_of_ble_eq_true rfl) (by decide) (by decide) dX6_takeNewName_20 hK ?_
    rintro _ _ ⟨T8, rfl, rfl, hq⟩
    replace hyp := hyp T8 hq
    refine ax_goto hX dX6_takeNewName_23 (tgt := 56) (by decide) ?_
    refine ax_aload_n hX dX6_takeNewName_56 (Or.inr ⟨_, rfl⟩) rfl ?_
    refine tx_getF hX fRX6_12 ly_3 (o := 1) (b := 4) fk_6_0 rfl (by decide) (Nat.lt_of_lt_of_le (by decide) hsz) dX6_takeNewName_57 ?_
    obtain ⟨Q1, hK, hyp⟩ := hyp
    refine ax_callV hX lRX6_48 im_X9_next sl_X9_next cw_X9_next ((th_at (by decide) (Nat.lt_of_lt_of_le (by decide) hsz)).trans (tc_ob ly_4)) rfl rfl (A := []) (st := []) rfl rfl (Nat.le_of_ble_eq_true rfl) (by decide) (by decide) dX6_takeNewName_60 hK ?_
    rintro _ _ ⟨T9, rfl, rfl, hq⟩
    replace hyp := hyp T9 hq
    refine ax_lload_n hX dX6_takeNewName_63 rfl ?_
    exact hR.2.1 _ _ _ _ _ _ (by decide) (by decide) dX6_takeNewName_64 rfl ⟨_, _, rfl, rfl, hyp⟩
set_option maxRecDepth 10000 in
theorem s_X6_takeNumber_0 {X : ax_X} {d L sz : Nat} {T : tT} {Q : Int32 → tT → Prop} (hX : ax_ok X mX6_takeNumber (d + 1)) (hR : ax_Ret X mX6_takeNumber (ti L sz Q)) (hsz : 161 ≤ sz) (x0 : Int32) (x1 : Int32) (hyp : (((T.1 4 2) = (2 : Int32) → (((T.1 4 4) < x0 → ∃ Q1, tvK d mX6_fail [.ref 3, .int (5 : Int32), .int (T.1 4 3)] L sz T Q1 ∧ ∀ (T1 : tT), Q1 T1 → (∃ Q1, tvK d mX9_next [.ref 4] L sz T1 Q1 ∧ ∀ (T2 : tT), Q1 T2 → (((¬ (T2.1 3 1) = 0 → Q (0 : Int32) T2) ∧ ((T2.1 3 1) = 0 → Q (T.1 4 4) T2))))) ∧ (¬ (T.1 4 4) < x0 → (((T.1 4 4) ≤ x1 → ∃ Q1, tvK d mX9_next [.ref 4] L sz T Q1 ∧ ∀ (T3 : tT), Q1 T3 → (((¬ (T3.1 3 1) = 0 → Q (0 : Int32) T3) ∧ ((T3.1 3 1) = 0 → Q (T.1 4 4) T3)))) ∧ (¬ (T.1 4 4) ≤ x1 → ∃ Q1, tvK d mX6_fail [.ref 3, .int (5 : Int32), .int (T.1 4 3)] L sz T Q1 ∧ ∀ (T4 : tT), Q1 T4 → (∃ Q1, tvK d mX9_next [.ref 4] L sz T4 Q1 ∧ ∀ (T5 : tT), Q1 T5 → (((¬ (T5.1 3 1) = 0 → Q (0 : Int32) T5) ∧ ((T5.1 3 1) = 0 → Q (T.1 4 4) T5))))))))) ∧ (¬ (T.1 4 2) = (2 : Int32) → ∃ Q1, tvK d mX6_refuse [.ref 3] L sz T Q1 ∧ ∀ (T6 : tT), Q1 T6 → (∃ Q1, tvK d mX9_next [.ref 4] L sz T6 Q1 ∧ ∀ (T7 : tT), Q1 T7 → (((¬ (T7.1 3 1) = 0 → Q (0 : Int32) T7) ∧ ((T7.1 3 1) = 0 → Q (T.1 4 4) T7))))))) : ax_j X 0 [some (.ref 3), some (.int x0), some (.int x1), none] [] (th L sz T) 0 0 := by
  refine ax_aload_n hX dX6_takeNumber_0 (Or.inr ⟨_, rfl⟩) rfl ?_
  refine tx_getF hX fRX6_12 ly_3 (o := 1) (b := 4) fk_6_0 rfl (by decide) (Nat.lt_of_lt_of_le (by decide) hsz) dX6_takeNumber_1 ?_
  refine tx_getI hX fRX6_162 ly_4 fk_9_4 (by decide) (Nat.lt_of_lt_of_le (by decide) hsz) dX6_takeNumber_4 ?_
  refine ax_istore_n hX dX6_takeNumber_7 (by decide) (L' := [some (.ref 3), some (.int x0), some (.int x1), some (.int (T.1 4 4))]) rfl ?_
  refine ax_aload_n hX dX6_takeNumber_8 (Or.inr ⟨_, rfl⟩) rfl ?_
  refine tx_getF hX fRX6_12 ly_3 (o := 1) (b := 4) fk_6_0 rfl (by decide) (Nat.lt_of_lt_of_le (by decide) hsz) dX6_takeNumber_9 ?_
  refine tx_getI hX fRX6_41 ly_4 fk_9_2 (by decide) (Nat.lt_of_lt_of_le (by decide) hsz) dX6_takeNumber_12 ?_
  refine ax_iconst hX dX6_takeNumber_15 (v := 2) (by decide) ?_
  refine ax_icmp_eq hX dX6_takeNumber_16 (tgt := 26) (by decide) (fun c => ?_) (fun c => ?_)
  · replace hyp := hyp.1 c
    refine ax_iload_n hX dX6_takeNumber_26 rfl ?_
    refine ax_iload_n hX dX6_takeNumber_27 rfl ?_
    refine ax_icmp_lt hX dX6_takeNumber_28 (tgt := 36) (by decide) (fun c => ?_) (fun c => ?_)
    · replace hyp := hyp.1 c
      refine ax_aload_n hX dX6_takeNumber_36 (Or.inr ⟨_, rfl⟩) rfl ?_
      refine ax_iconst hX dX6_takeNumber_37 (v := 5) (by decide) ?_
      refine ax_aload_n hX dX6_takeNumber_38 (Or.inr ⟨_, rfl⟩) rfl ?_
      refine tx_getF hX fRX6_12 ly_3 (o := 1) (b := 4) fk_6_0 rfl (by decide) (Nat.lt_of_lt_of_le (by decide) hsz) dX6_takeNumber_39 ?_
      refine tx_getI hX fRX6_62 ly_4 fk_9_3 (by decide) (Nat.lt_of_lt_of_le (by decide) hsz) dX6_takeNumber_42 ?_
      obtain ⟨Q1, hK, hyp⟩ := hyp
      refine ax_callV hX lRX6_71 im_X6_fail sl_X6_fail cw_X6_fail ((th_at (by decide) (Nat.lt_of_lt_of_le (by decide) hsz)).trans (tc_ob ly_3)) rfl rfl (A := [.int (5 : Int32), .int (T.1 4 3)]) (st := []) rfl rfl (Nat.le_of_ble_eq_true rfl) (by decide) (by decide) dX6_takeNumber_45 hK ?_
      rintro _ _ ⟨T1, rfl, rfl, hq⟩
      replace hyp := hyp T1 hq
      refine ax_aload_n hX dX6_takeNumber_48 (Or.inr ⟨_, rfl⟩) rfl ?_
      refine tx_getF hX fRX6_12 ly_3 (o := 1) (b := 4) fk_6_0 rfl (by decide) (Nat.lt_of_lt_of_le (by decide) hsz) dX6_takeNumber_49 ?_
      obtain ⟨Q1, hK, hyp⟩ := hyp
      refine ax_callV hX lRX6_48 im_X9_next sl_X9_next cw_X9_next ((th_at (by decide) (Nat.lt_of_lt_of_le (by decide) hsz)).trans (tc_ob ly_4)) rfl rfl (A := []) (st := []) rfl rfl (Nat.le_of_ble_eq_true rfl) (by decide) (by decide) dX6_takeNumber_52 hK ?_
      rintro _ _ ⟨T2, rfl, rfl, hq⟩
      replace hyp := hyp T2 hq
      refine ax_aload_n hX dX6_takeNumber_55 (Or.inr ⟨_, rfl⟩) rfl ?_
      refine tx_getI hX fRX6_29 ly_3 fk_6_1 (by decide) (Nat.lt_of_lt_of_le (by decide) hsz) dX6_takeNumber_56 ?_
      refine ax_if_ne hX dX6_takeNumber_59 (tgt := 66) (by decide) (fun c => ?_) (fun c => ?_)
      · replace hyp := hyp.1 c
        refine ax_iconst hX dX6_takeNumber_66 (v := 0) (by decide) ?_
        exact hR.1 _ _ _ _ _ _ (by decide) (by decide) dX6_takeNumber_67 ⟨_, rfl, rfl⟩ ⟨_, _, rfl, rfl, hyp⟩
      · replace hyp := hyp.2 c
        refine ax_iload_n hX dX6_takeNumber_62 rfl ?_
        refine ax_goto hX dX6_takeNumber_63 (tgt := 67) (by decide) ?_
        exact hR.1 _ _ _ _ _ _ (by decide) (by decide) dX6_takeNumber_67 ⟨_, rfl, rfl⟩ ⟨_, _, rfl, rfl, hyp⟩
    · replace hyp := hyp.2 c
      refine ax_iload_n hX dX6_takeNumber_31 rfl ?_
      refine ax_iload_n hX dX6_takeNumber_32 rfl ?_
      refine ax_icmp_le hX dX6_takeNumber_33 (tgt := 48) (by decide) (fun c => ?_) (fun c => ?_)
      · replace hyp := hyp.1 c
        refine ax_aload_n hX dX6_takeNumber_48 (Or.inr ⟨_, rfl⟩) rfl ?_
        refine tx_getF hX fRX6_12 ly_3 (o := 1) (b := 4) fk_6_0 rfl (by decide) (Nat.lt_of_lt_of_le (by decide) hsz) dX6_takeNumber_49 ?_
        obtain ⟨Q1, hK, hyp⟩ := hyp
        refine ax_callV hX lRX6_48 im_X9_next sl_X9_next cw_X9_next ((th_at (by decide) (Nat.lt_of_lt_of_le (by decide) hsz)).trans (tc_ob ly_4)) rfl rfl (A := []) (st := []) rfl rfl (Nat.le_of_ble_eq_true rfl) (by decide) (by decide) dX6_takeNumber_52 hK ?_
        rintro _ _ ⟨T3, rfl, rfl, hq⟩
        replace hyp := hyp T3 hq
        refine ax_aload_n hX dX6_takeNumber_55 (Or.inr ⟨_, rfl⟩) rfl ?_
        refine tx_getI hX fRX6_29 ly_3 fk_6_1 (by decide) (Nat.lt_of_lt_of_le (by decide) hsz) dX6_takeNumber_56 ?_
        refine ax_if_ne hX dX6_takeNumber_59 (tgt := 66) (by decide) (fun c => ?_) (fun c => ?_)
        · replace hyp := hyp.1 c
          refine ax_iconst hX dX6_takeNumber_66 (v := 0) (by decide) ?_
          exact hR.1 _ _ _ _ _ _ (by decide) (by decide) dX6_takeNumber_67 ⟨_, rfl, rfl⟩ ⟨_, _, rfl, rfl, hyp⟩
        · replace hyp := hyp.2 c
          refine ax_iload_n hX dX6_takeNumber_62 rfl ?_
          refine ax_goto hX dX6_takeNumber_63 (tgt := 67) (by decide) ?_
          exact hR.1 _ _ _ _ _ _ (by decide) (by decide) dX6_takeNumber_67 ⟨_, rfl, rfl⟩ ⟨_, _, rfl, rfl, hyp⟩
      · replace hyp := hyp.2 c
        refine ax_aload_n hX dX6_takeNumber_36 (Or.inr ⟨_, rfl⟩) rfl ?_
        refine ax_iconst hX dX6_takeNumber_37 (v := 5) (by decide) ?_
        refine ax_aload_n hX dX6_takeNumber_38 (Or.inr ⟨_, rfl⟩) rfl ?_
        refine tx_getF hX fRX6_12 ly_3 (o := 1) (b := 4) fk_6_0 rfl (by decide) (Nat.lt_of_lt_of_le (by decide) hsz) dX6_takeNumber_39 ?_
        refine tx_getI hX fRX6_62 ly_4 fk_9_3 (by decide) (Nat.lt_of_lt_of_le (by decide) hsz) dX6_takeNumber_42 ?_
        obtain ⟨Q1, hK, hyp⟩ := hyp
        refine ax_callV hX lRX6_71 im_X6_fail sl_X6_fail cw_X6_fail ((th_at (by decide) (Nat.lt_of_lt_of_le (by decide) hsz)).trans (tc_ob ly_3)) rfl rfl (A := [.int (5 : Int32), .int (T.1 4 3)]) (st := []) rfl rfl (Nat.le_of_ble_eq_true rfl) (by decide) (by decide) dX6_takeNumber_45 hK ?_
        rintro _ _ ⟨T4, rfl, rfl, hq⟩
        replace hyp := hyp T4 hq
        refine ax_aload_n hX dX6_takeNumber_48 (Or.inr ⟨_, rfl⟩) rfl ?_
        refine tx_getF hX fRX6_12 ly_3 (o := 1) (b := 4) fk_6_0 rfl (by decide) (Nat.lt_of_lt_of_le (by decide) hsz) dX6_takeNumber_49 ?_
        obtain ⟨Q1, hK, hyp⟩ := hyp
        refine ax_callV hX lRX6_48 im_X9_next sl_X9_next cw_X9_next ((th_at (by decide) (Nat.lt_of_lt_of_le (by decide) hsz)).trans (tc_ob ly_4)) rfl rfl (A := []) (st := []) rfl rfl (Nat.le_of_ble_eq_true rfl) (by decide) (by decide) dX6_takeNumber_52 hK ?_
        rintro _ _ ⟨T5, rfl, rfl, hq⟩
        replace hyp := hyp T5 hq
        refine ax_aload_n hX dX6_takeNumber_55 (Or.inr ⟨_, rfl⟩) rfl ?_
        refine tx_getI hX fRX6_29 ly_3 fk_6_1 (by decide) (Nat.lt_of_lt_of_le (by decide) hsz) dX6_takeNumber_56 ?_
        refine ax_if_ne hX dX6_takeNumber_59 (tgt := 66) (by decide) (fun c => ?_) (fun c => ?_)
        · replace hyp := hyp.1 c
          refine ax_iconst hX dX6_takeNumber_66 (v := 0) (by decide) ?_
          exact hR.1 _ _ _ _ _ _ (by decide) (by decide) dX6_takeNumber_67 ⟨_, rfl, rfl⟩ ⟨_, _, rfl, rfl, hyp⟩
        · replace hyp := hyp.2 c
          refine ax_iload_n hX dX6_takeNumber_62 rfl ?_
          refine ax_goto hX dX6_takeNumber_63 (tgt := 67) (by decide) ?_
          exact hR.1 _ _ _ _ _ _ (by decide) (by decide) dX6_takeNumber_67 ⟨_, rfl, rfl⟩ ⟨_, _, rfl, rfl, hyp⟩
  · replace hyp := hyp.2 c
    refine ax_aload_n hX dX6_takeNumber_19 (Or.inr ⟨_, rfl⟩) rfl ?_
    obtain ⟨Q1, hK, hyp⟩ := hyp
    refine ax_callV hX lRX6_55 im_X6_refuse sl_X6_refuse cw_X6_refuse ((th_at (by decide) (Nat.lt_of_lt_of_le (by decide) hsz)).trans (tc_ob ly_3)) rfl rfl (A := []) (st := []) rfl rfl (Nat.le_of_ble_eq_true rfl) (by decide) (by decide) dX6_takeNumber_20 hK ?_
    rintro _ _ ⟨T6, rfl, rfl, hq⟩
    replace hyp := hyp T6 hq
    refine ax_goto hX dX6_takeNumber_23 (tgt := 48) (by decide) ?_
    refine ax_aload_n hX dX6_takeNumber_48 (Or.inr ⟨_, rfl⟩) rfl ?_
    refine tx_getF hX fRX6_12 ly_3 (o := 1) (b := 4) fk_6_0 rfl (by decide) (Nat.lt_of_lt_of_le (by decide) hsz) dX6_takeNumber_49 ?_
    obtain ⟨Q1, hK, hyp⟩ := hyp
    refine ax_callV hX lRX6_48 im_X9_next sl_X9_next cw_X9_next ((th_at (by decide) (Nat.lt_of_lt_of_le (by decide) hsz)).trans (tc_ob ly_4)) rfl rfl (A := []) (st := []) rfl rfl (Nat.le_of_ble_eq_true rfl) (by decide) (by decide) dX6_takeNumber_52 hK ?_
    rintro _ _ ⟨T7, rfl, rfl, hq⟩
    replace hyp := hyp T7 hq
    refine ax_aload_n hX dX6_takeNumber_55 (Or.inr ⟨_, rfl⟩) rfl ?_
    refine tx_getI hX fRX6_29 ly_3 fk_6_1 (by decide) (Nat.lt_of_lt_of_le (by decide) hsz) dX6_takeNumber_56 ?_
    refine ax_if_ne hX dX6_takeNumber_59 (tgt := 66) (by decide) (fun c => ?_) (fun c => ?_)
    · replace hyp := hyp.1 c
      refine ax_iconst hX dX6_takeNumber_66 (v := 0) (by decide) ?_
      exact hR.1 _ _ _ _ _ _ (by decide) (by decide) dX6_takeNumber_67 ⟨_, rfl, rfl⟩ ⟨_, _, rfl, rfl, hyp⟩
    · replace hyp := hyp.2 c
      refine ax_iload_n hX dX6_takeNumber_62 rfl ?_
      refine ax_goto hX dX6_takeNumber_63 (tgt := 67) (by decide) ?_
      exact hR.1 _ _ _ _ _ _ (by decide) (by decide) dX6_takeNumber_67 ⟨_, rfl, rfl⟩ ⟨_, _, rfl, rfl, hyp⟩
set_option maxRecDepth 10000 in
theorem s_X7_addState_0 {X : ax_X} {d L sz : Nat} {T : tT} {Q : tT → Prop} (hX : ax_ok X mX7_addState (d + 1)) (hR : ax_Ret X mX7_addState (tv L sz Q)) (hsz : 161 ≤ sz) (x1 : Int32) (x2 : Int64) (hyp : (((T.1 85 4) ≤ 0 → Q T) ∧ (¬ (T.1 85 4) ≤ 0 → (((T.1 85 3) < (120 : Int32) → (((T.2.2 85 8) = none → False) ∧ (∀ p1, (T.2.2 85 8) = some p1 → tar sz p1 1 120 ∧ vp_in (0 : Int32) 120 ∧ (((T.2.2 85 6) = none → False) ∧ (∀ p2, (T.2.2 85 6) = some p2 → tar sz p2 0 120 ∧ vp_in (0 : Int32) 120 ∧ ∃ Q1, tlK d mX7_savedBetween [.ref 79, .int (T.1 p2 (0 : Int32).toNatClampNeg), .int x1] L sz T Q1 ∧ ∀ (r3 : Int64) (T3 : tT), Q1 r3 T3 → (ax_j X 40 [some (.ref 85), some (.ref 79), some (.int x1), some (.long x2), none, some (.long ((T.2.1 p1 (0 : Int32).toNatClampNeg) - r3)), none, some (.int (1 : Int32)), none, none] [] (th L sz T3) 0 0)))))) ∧ (¬ (T.1 85 3) < (120 : Int32) → Q T))))) : ax_j X 0 [some (.ref 85), some (.ref 79), some (.int x1), some (.long x2), none, none, none, none, none, none] [] (th L sz T) 0 0 := by
  refine ax_aload_n hX dX7_addState_0 (Or.inr ⟨_, rfl⟩) rfl ?_
  refine tx_getI hX fRX7_66 ly_85 fk_7_4 (by decide) (Nat.lt_of_lt_of_le (by decide) hsz) dX7_addState_1 ?_
  refine ax_if_le hX dX7_addState_4 (tgt := 16) (by decide) (fun c => ?_) (fun c => ?_)
  · replace hyp := hyp.1 c
    exact hR.2.2.2 _ _ _ _ _ (by decide) (by decide) dX7_addState_16 rfl ⟨_, rfl, rfl, hyp⟩
  · replace hyp := hyp.2 c
    refine ax_aload_n hX dX7_addState_7 (Or.inr ⟨_, rfl⟩) rfl ?_
    refine tx_getI hX fRX7_39 ly_85 fk_7_3 (by decide) (Nat.lt_of_lt_of_le (by decide) hsz) dX7_addState_8 ?_
    refine ax_bipush hX dX7_addState_11 (v := 120) (by decide) ?_
    refine ax_icmp_lt hX dX7_addState_13 (tgt := 17) (by decide) (fun c => ?_) (fun c => ?_)
    · replace hyp := hyp.1 c
      refine ax_aload_n hX dX7_addState_17 (Or.inr ⟨_, rfl⟩) rfl ?_
      rcases ho1 : (T.2.2 85 8) with _ | p1
      · replace hyp := hyp.1 ho1
        refine tx_getP hX fRX7_32 ly_85 fk_7_8 (by decide) (Nat.lt_of_lt_of_le (by decide) hsz) (v := .null) (congrArg va_rf ho1) dX7_addState_18 ?_
        refine ax_iconst hX dX7_addState_21 (v := 0) (by decide) ?_
        exact hyp.elim
      · obtain ⟨h_p1, hyp⟩ := hyp.2 p1 ho1
        refine tx_getP hX fRX7_32 ly_85 fk_7_8 (by decide) (Nat.lt_of_lt_of_le (by decide) hsz) (v := .ref p1) (congrArg va_rf ho1) dX7_addState_18 ?_
        refine ax_iconst hX dX7_addState_21 (v := 0) (by decide) ?_
        refine tx_lal hX h_p1.ly h_p1.ne h_p1.lt hyp.1 dX7_addState_22 ?_
        replace hyp := hyp.2
        refine ax_aload_n hX dX7_addState_23 (Or.inr ⟨_, rfl⟩) rfl ?_
        refine ax_aload_n hX dX7_addState_24 (Or.inr ⟨_, rfl⟩) rfl ?_
        rcases ho2 : (T.2.2 85 6) with _ | p2
        · replace hyp := hyp.1 ho2
          refine tx_getP hX fRX7_25 ly_85 fk_7_6 (by decide) (Nat.lt_of_lt_of_le (by decide) hsz) (v := .null) (congrArg va_rf ho2) dX7_addState_25 ?_
          refine ax_iconst hX dX7_addState_28 (v := 0) (by decide) ?_
          exact hyp.elim
        · obtain ⟨h_p2, hyp⟩ := hyp.2 p2 ho2
          refine tx_getP hX fRX7_25 ly_85 fk_7_6 (by decide) (Nat.lt_of_lt_of_le (by decide) hsz) (v := .ref p2) (congrArg va_rf ho2) dX7_addState_25 ?_
          refine ax_iconst hX dX7_addState_28 (v := 0) (by decide) ?_
          refine tx_ial hX h_p2.ly h_p2.ne h_p2.lt hyp.1 dX7_addState_29 ?_
          replace hyp := hyp.2
          refine ax_iload_n hX dX7_addState_30 rfl ?_
          obtain ⟨Q1, hK, hyp⟩ := hyp
          refine ax_callS hX lRX7_95 sm_X7_savedBetween cw_X7_savedBetween (A := [.ref 79, .int (T.1 p2 (0 : Int32).toNatClampNeg), .int x1]) (st := [.long (T.2.1 p1 (0 : Int32).toNatClampNeg)]) rfl rfl (Nat.le_of_ble_eq_true rfl) (by decide) (by decide) dX7_addState_31 hK ?_
          rintro _ _ ⟨r3, T3, rfl, rfl, hq⟩
          replace hyp := hyp r3 T3 hq
          refine ax_lsub hX dX7_addState_34 ?_
          refine ax_lstore hX dX7_addState_35 (by decide) (L' := [some (.ref 85), some (.ref 79), some (.int x1), some (.long x2), none, some (.long ((T.2.1 p1 (0 : Int32).toNatClampNeg) - r3)), none, none, none, none]) rfl ?_
          refine ax_iconst hX dX7_addState_37 (v := 1) (by decide) ?_
          refine ax_istore hX dX7_addState_38 (by decide) (L' := [some (.ref 85), some (.ref 79), some (.int x1), some (.long x2), none, some (.long ((T.2.1 p1 (0 : Int32).toNatClampNeg) - r3)), none, some (.int (1 : Int32)), none, none]) rfl ?_
          exact ax_forget (L' := [some (.ref 85), some (.ref 79), some (.int x1), some (.long x2), none, some (.long ((T.2.1 p1 (0 : Int32).toNatClampNeg) - r3)), none, some (.int (1 : Int32)), none, none]) (⟨rfl, ⟨rfl, ⟨rfl, ⟨rfl, ⟨rfl, ⟨rfl, trivial⟩⟩⟩⟩⟩⟩) hyp
    · replace hyp := hyp.2 c
      exact hR.2.2.2 _ _ _ _ _ (by decide) (by decide) dX7_addState_16 rfl ⟨_, rfl, rfl, hyp⟩
set_option maxRecDepth 10000 in
theorem s_X7_addState_40 {X : ax_X} {d L sz : Nat} {T : tT} {Q : tT → Prop} (hX : ax_ok X mX7_addState (d + 1)) (hR : ax_Ret X mX7_addState (tv L sz Q)) (hsz : 161 ≤ sz) (v2 : Int32) (v3 : Int64) (v5 : Int64) (v7 : Int32) (hyp : (((T.1 85 4) ≤ v7 → (((T.2.2 85 5) = none → False) ∧ (∀ p1, (T.2.2 85 5) = some p1 → tar sz p1 0 120 ∧ vp_in (T.1 85 3) 120 ∧ (((T.2.2 85 7) = none → False) ∧ (∀ p2, (T.2.2 85 7) = some p2 → tar sz p2 1 120 ∧ vp_in ((tI T p1 ((T.1 85 3).toNatClampNeg) v2).1 85 3) 120 ∧ Q (tI (tJ (tI T p1 ((T.1 85 3).toNatClampNeg) v2) p2 (((tI T p1 ((T.1 85 3).toNatClampNeg) v2).1 85 3).toNatClampNeg) (v5 + v3)) 85 3 (((tI T p1 ((T.1 85 3).toNatClampNeg) v2).1 85 3) + (1 : Int32)))))))) ∧ (¬ (T.1 85 4) ≤ v7 → (((T.2.2 85 8) = none → False) ∧ (∀ p3, (T.2.2 85 8) = some p3 → tar sz p3 1 120 ∧ vp_in v7 120 ∧ (((T.2.2 85 6) = none → False) ∧ (∀ p4, (T.2.2 85 6) = some p4 → tar sz p4 0 120 ∧ vp_in v7 120 ∧ ∃ Q1, tlK d mX7_savedBetween [.ref 79, .int (T.1 p4 (v7.toNatClampNeg)), .int v2] L sz T Q1 ∧ ∀ (r5 : Int64) (T5 : tT), Q1 r5 T5 → (ax_j X 40 [some (.ref 85), some (.ref 79), some (.int v2), some (.long v3), none, some (.long (if ((T.2.1 p3 (v7.toNatClampNeg)) - r5) < v5 then ((T.2.1 p3 (v7.toNatClampNeg)) - r5) else v5)), none, some (.int (v7 + (1 : Int32))), none, none] [] (th L sz T5) 0 0)))))))) : ax_j X 40 [some (.ref 85), some (.ref 79), some (.int v2), some (.long v3), none, some (.long v5), none, some (.int v7), none, none] [] (th L sz T) 0 0 := by
  refine ax_iload hX dX7_addState_40 rfl ?_
  refine ax_aload_n hX dX7_addState_42 (Or.inr ⟨_, rfl⟩) rfl ?_
  refine tx_getI hX fRX7_66 ly_85 fk_7_4 (by decide) (Nat.lt_of_lt_of_le (by decide) hsz) dX7_addState_43 ?_
  refine ax_icmp_ge hX dX7_addState_46 (tgt := 86) (by decide) (fun c => ?_) (fun c => ?_)
  · replace hyp := hyp.1 c
    refine ax_aload_n hX dX7_addState_86 (Or.inr ⟨_, rfl⟩) rfl ?_
    rcases ho1 : (T.2.2 85 5) with _ | p1
    · replace hyp := hyp.1 ho1
      refine tx_getP hX fRX7_22 ly_85 fk_7_5 (by decide) (Nat.lt_of_lt_of_le (by decide) hsz) (v := .null) (congrArg va_rf ho1) dX7_addState_87 ?_
      refine ax_aload_n hX dX7_addState_90 (Or.inr ⟨_, rfl⟩) rfl ?_
      refine tx_getI hX fRX7_39 ly_85 fk_7_3 (by decide) (Nat.lt_of_lt_of_le (by decide) hsz) dX7_addState_91 ?_
      refine ax_iload_n hX dX7_addState_94 rfl ?_
      exact hyp.elim
    · obtain ⟨h_p1, hyp⟩ := hyp.2 p1 ho1
      refine tx_getP hX fRX7_22 ly_85 fk_7_5 (by decide) (Nat.lt_of_lt_of_le (by decide) hsz) (v := .ref p1) (congrArg va_rf ho1) dX7_addState_87 ?_
      refine ax_aload_n hX dX7_addState_90 (Or.inr ⟨_, rfl⟩) rfl ?_
      refine tx_getI hX fRX7_39 ly_85 fk_7_3 (by decide) (Nat.lt_of_lt_of_le (by decide) hsz) dX7_addState_91 ?_
      refine ax_iload_n hX dX7_addState_94 rfl ?_
      refine tx_ias hX h_p1.ly h_p1.ge h_p1.lt hyp.1 dX7_addState_95 ?_
      replace hyp := hyp.2
      refine ax_aload_n hX dX7_addState_96 (Or.inr ⟨_, rfl⟩) rfl ?_
      rcases ho2 : (T.2.2 85 7) with _ | p2
      · replace hyp := hyp.1 ho2
        refine tx_getP hX fRX7_28 ly_85 fk_7_7 (by decide) (Nat.lt_of_lt_of_le (by decide) hsz) (v := .null) (congrArg va_rf ho2) dX7_addState_97 ?_
        refine ax_aload_n hX dX7_addState_100 (Or.inr ⟨_, rfl⟩) rfl ?_
        refine tx_getI hX fRX7_39 ly_85 fk_7_3 (by decide) (Nat.lt_of_lt_of_le (by decide) hsz) dX7_addState_101 ?_
        refine ax_lload hX dX7_addState_104 rfl ?_
        refine ax_lload_n hX dX7_addState_106 rfl ?_
        refine ax_ladd hX dX7_addState_107 ?_
        exact hyp.elim
      · obtain ⟨h_p2, hyp⟩ := hyp.2 p2 ho2
        refine tx_getP hX fRX7_28 ly_85 fk_7_7 (by decide) (Nat.lt_of_lt_of_le (by decide) hsz) (v := .ref p2) (congrArg va_rf ho2) dX7_addState_97 ?_
        refine ax_aload_n hX dX7_addState_100 (Or.inr ⟨_, rfl⟩) rfl ?_
        refine tx_getI hX fRX7_39 ly_85 fk_7_3 (by decide) (Nat.lt_of_lt_of_le (by decide) hsz) dX7_addState_101 ?_
        refine ax_lload hX dX7_addState_104 rfl ?_
        refine ax_lload_n hX dX7_addState_106 rfl ?_
        refine ax_ladd hX dX7_addState_107 ?_
        refine tx_las hX h_p2.ly h_p2.ge h_p2.lt hyp.1 dX7_addState_108 ?_
        replace hyp := hyp.2
        refine ax_aload_n hX dX7_addState_109 (Or.inr ⟨_, rfl⟩) rfl ?_
        refine ax_dup hX dX7_addState_110 rfl ?_
        refine tx_getI hX fRX7_39 ly_85 fk_7_3 (by decide) (Nat.lt_of_lt_of_le (by decide) hsz) dX7_addState_111 ?_
        refine ax_iconst hX dX7_addState_114 (v := 1) (by decide) ?_
        refine ax_iadd hX dX7_addState_115 ?_
        refine tx_putI hX fRX7_39 ly_85 fk_7_3 (by decide) (Nat.lt_of_lt_of_le (by decide) hsz) rfl rfl dX7_addState_116 ?_
        exact hR.2.2.2 _ _ _ _ _ (by decide) (by decide) dX7_addState_119 rfl ⟨_, rfl, rfl, hyp⟩
  · replace hyp := hyp.2 c
    refine ax_aload_n hX dX7_addState_49 (Or.inr ⟨_, rfl⟩) rfl ?_
    rcases ho3 : (T.2.2 85 8) with _ | p3
    · replace hyp := hyp.1 ho3
      refine tx_getP hX fRX7_32 ly_85 fk_7_8 (by decide) (Nat.lt_of_lt_of_le (by decide) hsz) (v := .null) (congrArg va_rf ho3) dX7_addState_50 ?_
      refine ax_iload hX dX7_addState_53 rfl ?_
      exact hyp.elim
    · obtain ⟨h_p3, hyp⟩ := hyp.2 p3 ho3
      refine tx_getP hX fRX7_32 ly_85 fk_7_8 (by decide) (Nat.lt_of_lt_of_le (by decide) hsz) (v := .ref p3) (congrArg va_rf ho3) dX7_addState_50 ?_
      refine ax_iload hX dX7_addState_53 rfl ?_
      refine tx_lal hX h_p3.ly h_p3.ne h_p3.lt hyp.1 dX7_addState_55 ?_
      replace hyp := hyp.2
      refine ax_aload_n hX dX7_addState_56 (Or.inr ⟨_, rfl⟩) rfl ?_
      refine ax_aload_n hX dX7_addState_57 (Or.inr ⟨_, rfl⟩) rfl ?_
      rcases ho4 : (T.2.2 85 6) with _ | p4
      · replace hyp := hyp.1 ho4
        refine tx_getP hX fRX7_25 ly_85 fk_7_6 (by decide) (Nat.lt_of_lt_of_le (by decide) hsz) (v := .null) (congrArg va_rf ho4) dX7_addState_58 ?_
        refine ax_iload hX dX7_addState_61 rfl ?_
        exact hyp.elim
      · obtain ⟨h_p4, hyp⟩ := hyp.2 p4 ho4
        refine tx_getP hX fRX7_25 ly_85 fk_7_6 (by decide) (Nat.lt_of_lt_of_le (by decide) hsz) (v := .ref p4) (congrArg va_rf ho4) dX7_addState_58 ?_
        refine ax_iload hX dX7_addState_61 rfl ?_
        refine tx_ial hX h_p4.ly h_p4.ne h_p4.lt hyp.1 dX7_addState_63 ?_
        replace hyp := hyp.2
        refine ax_iload_n hX dX7_addState_64 rfl ?_
        obtain ⟨Q1, hK, hyp⟩ := hyp
        refine ax_callS hX lRX7_95 sm_X7_savedBetween cw_X7_savedBetween (A := [.ref 79, .int (T.1 p4 (v7.toNatClampNeg)), .int v2]) (st := [.long (T.2.1 p3 (v7.toNatClampNeg))]) rfl rfl (Nat.le_of_ble_eq_true rfl) (by decide) (by decide) dX7_addState_65 hK ?_
        rintro _ _ ⟨r5, T5, rfl, rfl, hq⟩
        replace hyp := hyp r5 T5 hq
        refine ax_lsub hX dX7_addState_68 ?_
        refine ax_lstore hX dX7_addState_69 (by decide) (L' := [some (.ref 85), some (.ref 79), some (.int v2), some (.long v3), none, some (.long v5), none, some (.int v7), some (.long ((T.2.1 p3 (v7.toNatClampNeg)) - r5)), none]) rfl ?_
        refine ax_lload hX dX7_addState_71 rfl ?_
        refine ax_lload hX dX7_addState_73 rfl ?_
        refine ax_mminl hX mlRX7_69 (Nat.le_of_ble_eq_true rfl) (by decide) (by decide) dX7_addState_75 ?_
        refine ax_lstore hX dX7_addState_78 (by decide) (L' := [some (.ref 85), some (.ref 79), some (.int v2), some (.long v3), none, some (.long (if ((T.2.1 p3 (v7.toNatClampNeg)) - r5) < v5 then ((T.2.1 p3 (v7.toNatClampNeg)) - r5) else v5)), none, some (.int v7), some (.long ((T.2.1 p3 (v7.toNatClampNeg)) - r5)), none]) rfl ?_
        refine ax_iinc hX dX7_addState_80 rfl (w := (v7 + (1 : Int32))) rfl (by decide) (L' := [some (.ref 85), some (.ref 79), some (.int v2), some (.long v3), none, some (.long (if ((T.2.1 p3 (v7.toNatClampNeg)) - r5) < v5 then ((T.2.1 p3 (v7.toNatClampNeg)) - r5) else v5)), none, some (.int (v7 + (1 : Int32))), some (.long ((T.2.1 p3 (v7.toNatClampNeg)) - r5)), none]) rfl ?_
        refine ax_goto hX dX7_addState_83 (tgt := 40) (by decide) ?_
        exact ax_forget (L' := [some (.ref 85), some (.ref 79), some (.int v2), some (.long v3), none, some (.long (if ((T.2.1 p3 (v7.toNatClampNeg)) - r5) < v5 then ((T.2.1 p3 (v7.toNatClampNeg)) - r5) else v5)), none, some (.int (v7 + (1 : Int32))), none, none]) (⟨rfl, ⟨rfl, ⟨rfl, ⟨rfl, ⟨rfl, ⟨rfl, trivial⟩⟩⟩⟩⟩⟩) hyp
set_option maxRecDepth 10000 in
theorem s_X7_allow_0 {X : ax_X} {d L sz : Nat} {T : tT} {Q : tT → Prop} (hX : ax_ok X mX7_allow d) (hR : ax_Ret X mX7_allow (tv L sz Q)) (hsz : 161 ≤ sz) (x0 : Int32) (x1 : Int32) (x2 : Int32) (hyp : vp_in ((x1 * (5 : Int32)) + x0) 45 ∧ Q (tI T 87 (((x1 * (5 : Int32)) + x0).toNatClampNeg) (x2 &&& 1))) : ax_j X 0 [some (.ref 85), some (.int x0), some (.int x1), some (.int x2)] [] (th L sz T) 0 0 := by
  refine ax_aload_n hX dX7_allow_0 (Or.inr ⟨_, rfl⟩) rfl ?_
  refine tx_getF hX fRX7_15 ly_85 (o := 2) (b := 87) fk_7_1 rfl (by decide) (Nat.lt_of_lt_of_le (by decide) hsz) dX7_allow_1 ?_
  refine ax_iload_n hX dX7_allow_4 rfl ?_
  refine ax_iconst hX dX7_allow_5 (v := 5) (by decide) ?_
  refine ax_imul hX dX7_allow_6 ?_
  refine ax_iload_n hX dX7_allow_7 rfl ?_
  refine ax_iadd hX dX7_allow_8 ?_
  refine ax_iload_n hX dX7_allow_9 rfl ?_
  refine tx_zas hX ly_87 (by decide) (Nat.lt_of_lt_of_le (by decide) hsz) hyp.1 dX7_allow_10 ?_
  replace hyp := hyp.2
  exact hR.2.2.2 _ _ _ _ _ (by decide) (by decide) dX7_allow_11 rfl ⟨_, rfl, rfl, hyp⟩
set_option maxRecDepth 10000 in
theorem s_X7_choose_0 {X : ax_X} {d L sz : Nat} {T : tT} {Q : tT → Prop} (hX : ax_ok X mX7_choose d) (hR : ax_Ret X mX7_choose (tv L sz Q)) (hsz : 161 ≤ sz) (x0 : Int32) (x1 : Int64) (hyp : ax_j X 3 [some (.ref 85), some (.int x0), some (.long x1), none, some (.int (0 : Int32))] [] (th L sz T) 0 0) : ax_j X 0 [some (.ref 85), some (.int x0), some (.long x1), none, none] [] (th L sz T) 0 0 := by
  refine ax_iconst hX dX7_choose_0 (v := 0) (by decide) ?_
  refine ax_istore hX dX7_choose_1 (by decide) (L' := [some (.ref 85), some (.int x0), some (.long x1), none, some (.int (0 : Int32))]) rfl ?_
  exact ax_forget (L' := [some (.ref 85), some (.int x0), some (.long x1), none, some (.int (0 : Int32))]) (⟨rfl, ⟨rfl, ⟨rfl, ⟨rfl, trivial⟩⟩⟩⟩) hyp
set_option maxRecDepth 10000 in
theorem s_X7_choose_3 {X : ax_X} {d L sz : Nat} {T : tT} {Q : tT → Prop} (hX : ax_ok X mX7_choose d) (hR : ax_Ret X mX7_choose (tv L sz Q)) (hsz : 161 ≤ sz) (v1 : Int32) (v2 : Int64) (v4 : Int32) (hyp : ((v1 ≤ v4 → Q T) ∧ (¬ v1 ≤ v4 → vp_in v4 9 ∧ ax_j X 3 [some (.ref 85), some (.int v1), some (.long v2), none, some (.int (v4 + (1 : Int32)))] [] (th L sz (tI T 86 (v4.toNatClampNeg) ((v2 >>> (((3 : Int32) * ((8 : Int32) - v4)).toInt64 &&& 63)).toInt32 &&& (7 : Int32)))) 0 0))) : ax_j X 3 [some (.ref 85), some (.int v1), some (.long v2), none, some (.int v4)] [] (th L sz T) 0 0 := by
  refine ax_iload hX dX7_choose_3 rfl ?_
  refine ax_iload_n hX dX7_choose_5 rfl ?_
  refine ax_icmp_ge hX dX7_choose_6 (tgt := 35) (by decide) (fun c => ?_) (fun c => ?_)
  · replace hyp := hyp.1 c
    exact hR.2.2.2 _ _ _ _ _ (by decide) (by decide) dX7_choose_35 rfl ⟨_, rfl, rfl, hyp⟩
  · replace hyp := hyp.2 c
    refine ax_aload_n hX dX7_choose_9 (Or.inr ⟨_, rfl⟩) rfl ?_
    refine tx_getF hX fRX7_9 ly_85 (o := 1) (b := 86) fk_7_0 rfl (by decide) (Nat.lt_of_lt_of_le (by decide) hsz) dX7_choose_10 ?_
    refine ax_iload hX dX7_choose_13 rfl ?_
    refine ax_lload_n hX dX7_choose_15 rfl ?_
    refine ax_iconst hX dX7_choose_16 (v := 3) (by decide) ?_
    refine ax_bipush hX dX7_choose_17 (v := 8) (by decide) ?_
    refine ax_iload hX dX7_choose_19 rfl ?_
    refine ax_isub hX dX7_choose_21 ?_
    refine ax_imul hX dX7_choose_22 ?_
    refine ax_lshr hX dX7_choose_23 ?_
    refine ax_l2i hX dX7_choose_24 ?_
    refine ax_bipush hX dX7_choose_25 (v := 7) (by decide) ?_
    refine ax_iand hX dX7_choose_27 ?_
    refine tx_ias hX ly_86 (by decide) (Nat.lt_of_lt_of_le (by decide) hsz) hyp.1 dX7_choose_28 ?_
    replace hyp := hyp.2
    refine ax_iinc hX dX7_choose_29 rfl (w := (v4 + (1 : Int32))) rfl (by decide) (L' := [some (.ref 85), some (.int v1), some (.long v2), none, some (.int (v4 + (1 : Int32)))]) rfl ?_
    refine ax_goto hX dX7_choose_32 (tgt := 3) (by decide) ?_
    exact ax_forget (L' := [some (.ref 85), some (.int v1), some (.long v2), none, some (.int (v4 + (1 : Int32)))]) (⟨rfl, ⟨rfl, ⟨rfl, ⟨rfl, trivial⟩⟩⟩⟩) hyp
set_option maxRecDepth 10000 in
theorem s_X7_costOf_0 {X : ax_X} {d L sz : Nat} {T : tT} {Q : Int64 → tT → Prop} (hX : ax_ok X mX7_costOf (d + 1)) (hR : ax_Ret X mX7_costOf (tl L sz Q)) (hsz : 161 ≤ sz) (x1 : Int32) (x2 : Int32) (hyp : vp_in x1 5 ∧ vp_in x2 9 ∧ ∃ Q1, tiK d mX1_minutesBetween [.ref 79, .int (T.1 80 (x1.toNatClampNeg)), .int (T.1 82 (x2.toNatClampNeg))] L sz T Q1 ∧ ∀ (r1 : Int32) (T1 : tT), Q1 r1 T1 → (Q ((((2 : Int64) * r1.toInt64) <<< ((27 : Int32).toInt64 &&& 63)) + (x1.toInt64 <<< (((3 : Int32) * ((8 : Int32) - x2)).toInt64 &&& 63))) T1)) : ax_j X 0 [some (.ref 79), some (.int x1), some (.int x2), none, none, none] [] (th L sz T) 0 0 := by
  refine ax_aload_n hX dX7_costOf_0 (Or.inr ⟨_, rfl⟩) rfl ?_
  refine ax_aload_n hX dX7_costOf_1 (Or.inr ⟨_, rfl⟩) rfl ?_
  refine tx_getF hX fRX7_98 ly_79 (o := 1) (b := 80) fk_1_3 rfl (by decide) (Nat.lt_of_lt_of_le (by decide) hsz) dX7_costOf_2 ?_
  refine ax_iload_n hX dX7_costOf_5 rfl ?_
  refine tx_ial hX ly_80 (by decide) (Nat.lt_of_lt_of_le (by decide) hsz) hyp.1 dX7_costOf_6 ?_
  replace hyp := hyp.2
  refine ax_aload_n hX dX7_costOf_7 (Or.inr ⟨_, rfl⟩) rfl ?_
  refine tx_getF hX fRX7_88 ly_79 (o := 3) (b := 82) fk_1_5 rfl (by decide) (Nat.lt_of_lt_of_le (by decide) hsz) dX7_costOf_8 ?_
  refine ax_iload_n hX dX7_costOf_11 rfl ?_
  refine tx_ial hX ly_82 (by decide) (Nat.lt_of_lt_of_le (by decide) hsz) hyp.1 dX7_costOf_12 ?_
  replace hyp := hyp.2
  obtain ⟨Q1, hK, hyp⟩ := hyp
  refine ax_callV hX lRX7_101 im_X1_minutesBetween sl_X1_minutesBetween cw_X1_minutesBetween ((th_at (by decide) (Nat.lt_of_lt_of_le (by decide) hsz)).trans (tc_ob ly_79)) rfl rfl (A := [.int (T.1 80 (x1.toNatClampNeg)), .int (T.1 82 (x2.toNatClampNeg))]) (st := []) rfl rfl (Nat.le_of_ble_eq_true rfl) (by decide) (by decide) dX7_costOf_13 hK ?_
  rintro _ _ ⟨r1, T1, rfl, rfl, hq⟩
  replace hyp := hyp r1 T1 hq
  refine ax_istore_n hX dX7_costOf_16 (by decide) (L' := [some (.ref 79), some (.int x1), some (.int x2), some (.int r1), none, none]) rfl ?_
  refine ax_iload_n hX dX7_costOf_17 rfl ?_
  refine ax_i2l hX dX7_costOf_18 ?_
  refine ax_iconst hX dX7_costOf_19 (v := 3) (by decide) ?_
  refine ax_bipush hX dX7_costOf_20 (v := 8) (by decide) ?_
  refine ax_iload_n hX dX7_costOf_22 rfl ?_
  refine ax_isub hX dX7_costOf_23 ?_
  refine ax_imul hX dX7_costOf_24 ?_
  refine ax_lshl hX dX7_costOf_25 ?_
  refine ax_lstore hX dX7_costOf_26 (by decide) (L' := [some (.ref 79), some (.int x1), some (.int x2), some (.int r1), some (.long (x1.toInt64 <<< (((3 : Int32) * ((8 : Int32) - x2)).toInt64 &&& 63))), none]) rfl ?_
  refine ax_ldc2 hX vRX7_104 dX7_costOf_28 ?_
  refine ax_iload_n hX dX7_costOf_31 rfl ?_
  refine ax_i2l hX dX7_costOf_32 ?_
  refine ax_lmul hX dX7_costOf_33 ?_
  refine ax_bipush hX dX7_costOf_34 (v := 27) (by decide) ?_
  refine ax_lshl hX dX7_costOf_36 ?_
  refine ax_lload hX dX7_costOf_37 rfl ?_
  refine ax_ladd hX dX7_costOf_39 ?_
  exact hR.2.1 _ _ _ _ _ _ (by decide) (by decide) dX7_costOf_40 rfl ⟨_, _, rfl, rfl, hyp⟩
set_option maxRecDepth 10000 in
theorem s_X7_giveDay_0 {X : ax_X} {d L sz : Nat} {T : tT} {Q : tT → Prop} (hX : ax_ok X mX7_giveDay (d + 1)) (hR : ax_Ret X mX7_giveDay (tv L sz Q)) (hsz : 161 ≤ sz) (x1 : Int32) (x2 : Int32) (x3 : Int32) (x4 : Int64) (hyp : (((T.1 79 2) ≤ x1 → ∃ Q1, tvK d mX7_addState [.ref 85, .ref 79, .int x3, .long x4] L sz T Q1 ∧ ∀ (T1 : tT), Q1 T1 → (Q T1)) ∧ (¬ (T.1 79 2) ≤ x1 → vp_in x1 9 ∧ vp_in (T.1 88 (x1.toNatClampNeg)) 9 ∧ (((T.1 83 (T.1 88 (x1.toNatClampNeg)).toNatClampNeg) = x2 → vp_in x1 9 ∧ ax_j X 44 [some (.ref 85), some (.ref 79), some (.int x1), some (.int x2), some (.int x3), some (.long x4), none, some (.int (T.1 88 (x1.toNatClampNeg))), some (.int (0 : Int32)), none, none, none, none] [] (th L sz T) 0 0) ∧ (¬ (T.1 83 (T.1 88 (x1.toNatClampNeg)).toNatClampNeg) = x2 → ∃ Q1, tvK d mX7_addState [.ref 85, .ref 79, .int x3, .long x4] L sz T Q1 ∧ ∀ (T2 : tT), Q1 T2 → (Q T2)))))) : ax_j X 0 [some (.ref 85), some (.ref 79), some (.int x1), some (.int x2), some (.int x3), some (.long x4), none, none, none, none, none, none, none] [] (th L sz T) 0 0 := by
  refine ax_iload_n hX dX7_giveDay_0 rfl ?_
  refine ax_aload_n hX dX7_giveDay_1 (Or.inr ⟨_, rfl⟩) rfl ?_
  refine tx_getI hX fRX7_43 ly_79 fk_1_2 (by decide) (Nat.lt_of_lt_of_le (by decide) hsz) dX7_giveDay_2 ?_
  refine ax_icmp_ge hX dX7_giveDay_5 (tgt := 23) (by decide) (fun c => ?_) (fun c => ?_)
  · replace hyp := hyp.1 c
    refine ax_aload_n hX dX7_giveDay_23 (Or.inr ⟨_, rfl⟩) rfl ?_
    refine ax_aload_n hX dX7_giveDay_24 (Or.inr ⟨_, rfl⟩) rfl ?_
    refine ax_iload hX dX7_giveDay_25 rfl ?_
    refine ax_lload hX dX7_giveDay_27 rfl ?_
    obtain ⟨Q1, hK, hyp⟩ := hyp
    refine ax_callV hX lRX7_78 im_X7_addState sl_X7_addState cw_X7_addState ((th_at (by decide) (Nat.lt_of_lt_of_le (by decide) hsz)).trans (tc_ob ly_85)) rfl rfl (A := [.ref 79, .int x3, .long x4]) (st := []) rfl rfl (Nat.le_of_ble_eq_true rfl) (by decide) (by decide) dX7_giveDay_29 hK ?_
    rintro _ _ ⟨T1, rfl, rfl, hq⟩
    replace hyp := hyp T1 hq
    exact hR.2.2.2 _ _ _ _ _ (by decide) (by decide) dX7_giveDay_32 rfl ⟨_, rfl, rfl, hyp⟩
  · replace hyp := hyp.2 c
    refine ax_aload_n hX dX7_giveDay_8 (Or.inr ⟨_, rfl⟩) rfl ?_
    refine tx_getF hX fRX7_48 ly_79 (o := 4) (b := 83) fk_1_6 rfl (by decide) (Nat.lt_of_lt_of_le (by decide) hsz) dX7_giveDay_9 ?_
    refine ax_aload_n hX dX7_giveDay_12 (Or.inr ⟨_, rfl⟩) rfl ?_
    refine tx_getF hX fRX7_19 ly_85 (o := 3) (b := 88) fk_7_2 rfl (by decide) (Nat.lt_of_lt_of_le (by decide) hsz) dX7_giveDay_13 ?_
    refine ax_iload_n hX dX7_giveDay_16 rfl ?_
    refine tx_ial hX ly_88 (by decide) (Nat.lt_of_lt_of_le (by decide) hsz) hyp.1 dX7_giveDay_17 ?_
    replace hyp := hyp.2
    refine tx_ial hX ly_83 (by decide) (Nat.lt_of_lt_of_le (by decide) hsz) hyp.1 dX7_giveDay_18 ?_
    replace hyp := hyp.2
    refine ax_iload_n hX dX7_giveDay_19 rfl ?_
    refine ax_icmp_eq hX dX7_giveDay_20 (tgt := 33) (by decide) (fun c => ?_) (fun c => ?_)
    · replace hyp := hyp.1 c
      refine ax_aload_n hX dX7_giveDay_33 (Or.inr ⟨_, rfl⟩) rfl ?_
      refine tx_getF hX fRX7_19 ly_85 (o := 3) (b := 88) fk_7_2 rfl (by decide) (Nat.lt_of_lt_of_le (by decide) hsz) dX7_giveDay_34 ?_
      refine ax_iload_n hX dX7_giveDay_37 rfl ?_
      refine tx_ial hX ly_88 (by decide) (Nat.lt_of_lt_of_le (by decide) hsz) hyp.1 dX7_giveDay_38 ?_
      replace hyp := hyp.2
      refine ax_istore hX dX7_giveDay_39 (by decide) (L' := [some (.ref 85), some (.ref 79), some (.int x1), some (.int x2), some (.int x3), some (.long x4), none, some (.int (T.1 88 (x1.toNatClampNeg))), none, none, none, none, none]) rfl ?_
      refine ax_iconst hX dX7_giveDay_41 (v := 0) (by decide) ?_
      refine ax_istore hX dX7_giveDay_42 (by decide) (L' := [some (.ref 85), some (.ref 79), some (.int x1), some (.int x2), some (.int x3), some (.long x4), none, some (.int (T.1 88 (x1.toNatClampNeg))), some (.int (0 : Int32)), none, none, none, none]) rfl ?_
      exact ax_forget (L' := [some (.ref 85), some (.ref 79), some (.int x1), some (.int x2), some (.int x3), some (.long x4), none, some (.int (T.1 88 (x1.toNatClampNeg))), some (.int (0 : Int32)), none, none, none, none]) (⟨rfl, ⟨rfl, ⟨rfl, ⟨rfl, ⟨rfl, ⟨rfl, ⟨rfl, ⟨rfl, trivial⟩⟩⟩⟩⟩⟩⟩⟩) hyp
    · replace hyp := hyp.2 c
      refine ax_aload_n hX dX7_giveDay_23 (Or.inr ⟨_, rfl⟩) rfl ?_
      refine ax_aload_n hX dX7_giveDay_24 (Or.inr ⟨_, rfl⟩) rfl ?_
      refine ax_iload hX dX7_giveDay_25 rfl ?_
      refine ax_lload hX dX7_giveDay_27 rfl ?_
      obtain ⟨Q1, hK, hyp⟩ := hyp
      refine ax_callV hX lRX7_78 im_X7_addState sl_X7_addState cw_X7_addState ((th_at (by decide) (Nat.lt_of_lt_of_le (by decide) hsz)).trans (tc_ob ly_85)) rfl rfl (A := [.ref 79, .int x3, .long x4]) (st := []) rfl rfl (Nat.le_of_ble_eq_true rfl) (by decide) (by decide) dX7_giveDay_29 hK ?_
      rintro _ _ ⟨T2, rfl, rfl, hq⟩
      replace hyp := hyp T2 hq
      exact hR.2.2.2 _ _ _ _ _ (by decide) (by decide) dX7_giveDay_32 rfl ⟨_, rfl, rfl, hyp⟩
set_option maxRecDepth 10000 in
theorem s_X7_giveDay_44 {X : ax_X} {d L sz : Nat} {T : tT} {Q : tT → Prop} (hX : ax_ok X mX7_giveDay (d + 1)) (hR : ax_Ret X mX7_giveDay (tv L sz Q)) (hsz : 161 ≤ sz) (v2 : Int32) (v3 : Int32) (v4 : Int32) (v5 : Int64) (v7 : Int32) (v8 : Int32) (hyp : (((T.1 79 1) ≤ v8 → Q T) ∧ (¬ (T.1 79 1) ≤ v8 → ∃ Q1, tiK d mX7_placeOf [.int v4, .int v8] L sz T Q1 ∧ ∀ (r1 : Int32) (T1 : tT), Q1 r1 T1 → (((¬ r1 = 0 → ax_j X 44 [some (.ref 85), some (.ref 79), some (.int v2), some (.int v3), some (.int v4), some (.long v5), none, some (.int v7), some (.int (v8 + (1 : Int32))), none, none, none, none] [] (th L sz T1) 0 0) ∧ (r1 = 0 → vp_in ((v7 * (5 : Int32)) + v8) 45 ∧ (((T1.1 87 ((v7 * (5 : Int32)) + v8).toNatClampNeg) = 0 → ax_j X 44 [some (.ref 85), some (.ref 79), some (.int v2), some (.int v3), some (.int v4), some (.long v5), none, some (.int v7), some (.int (v8 + (1 : Int32))), none, none, none, none] [] (th L sz T1) 0 0) ∧ (¬ (T1.1 87 ((v7 * (5 : Int32)) + v8).toNatClampNeg) = 0 → vp_in v7 9 ∧ ∃ Q1, tlK d mX7_costOf [.ref 79, .int v8, .int v7] L sz T1 Q1 ∧ ∀ (r2 : Int64) (T2 : tT), Q1 r2 T2 → (∃ Q1, tvK d mX7_giveDay [.ref 85, .ref 79, .int (v2 + (1 : Int32)), .int v3, .int (v4 ||| (((T1.1 82 (v7.toNatClampNeg)) + (1 : Int32)) <<< (((4 : Int32) * v8) &&& 31))), .long (v5 + r2)] L sz T2 Q1 ∧ ∀ (T3 : tT), Q1 T3 → (ax_j X 44 [some (.ref 85), some (.ref 79), some (.int v2), some (.int v3), some (.int v4), some (.long v5), none, some (.int v7), some (.int (v8 + (1 : Int32))), none, none, none, none] [] (th L sz T3) 0 0)))))))))) : ax_j X 44 [some (.ref 85), some (.ref 79), some (.int v2), some (.int v3), some (.int v4), some (.long v5), none, some (.int v7), some (.int v8), none, none, none, none] [] (th L sz T) 0 0 := by
  refine ax_iload hX dX7_giveDay_44 rfl ?_
  refine ax_aload_n hX dX7_giveDay_46 (Or.inr ⟨_, rfl⟩) rfl ?_
  refine tx_getI hX fRX7_82 ly_79 fk_1_1 (by decide) (Nat.lt_of_lt_of_le (by decide) hsz) dX7_giveDay_47 ?_
  refine ax_icmp_ge hX dX7_giveDay_50 (tgt := 141) (by decide) (fun c => ?_) (fun c => ?_)
  · replace hyp := hyp.1 c
    exact hR.2.2.2 _ _ _ _ _ (by decide) (by decide) dX7_giveDay_141 rfl ⟨_, rfl, rfl, hyp⟩
  · replace hyp := hyp.2 c
    refine ax_iload hX dX7_giveDay_53 rfl ?_
    refine ax_iload hX dX7_giveDay_55 rfl ?_
    obtain ⟨Q1, hK, hyp⟩ := hyp
    refine ax_callS hX lRX7_85 sm_X7_placeOf cw_X7_placeOf (A := [.int v4, .int v8]) (st := []) rfl rfl (Nat.le_of_ble_eq_true rfl) (by decide) (by decide) dX7_giveDay_57 hK ?_
    rintro _ _ ⟨r1, T1, rfl, rfl, hq⟩
    replace hyp := hyp r1 T1 hq
    refine ax_if_ne hX dX7_giveDay_60 (tgt := 67) (by decide) (fun c => ?_) (fun c => ?_)
    · replace hyp := hyp.1 c
      refine ax_iconst hX dX7_giveDay_67 (v := 0) (by decide) ?_
      refine ax_istore hX dX7_giveDay_68 (by decide) (L' := [some (.ref 85), some (.ref 79), some (.int v2), some (.int v3), some (.int v4), some (.long v5), none, some (.int v7), some (.int v8), some (.int (0 : Int32)), none, none, none]) rfl ?_
      refine ax_iload hX dX7_giveDay_70 rfl ?_
      refine ax_if_eq hX dX7_giveDay_72 (tgt := 135) (by decide) (fun c => ?_) (fun c => ?_)
      rotate_left
      · exact absurd c (by decide)
      refine ax_iinc hX dX7_giveDay_135 rfl (w := (v8 + (1 : Int32))) rfl (by decide) (L' := [some (.ref 85), some (.ref 79), some (.int v2), some (.int v3), some (.int v4), some (.long v5), none, some (.int v7), some (.int (v8 + (1 : Int32))), some (.int (0 : Int32)), none, none, none]) rfl ?_
      refine ax_goto hX dX7_giveDay_138 (tgt := 44) (by decide) ?_
      exact ax_forget (L' := [some (.ref 85), some (.ref 79), some (.int v2), some (.int v3), some (.int v4), some (.long v5), none, some (.int v7), some (.int (v8 + (1 : Int32))), none, none, none, none]) (⟨rfl, ⟨rfl, ⟨rfl, ⟨rfl, ⟨rfl, ⟨rfl, ⟨rfl, ⟨rfl, trivial⟩⟩⟩⟩⟩⟩⟩⟩) hyp
    · replace hyp := hyp.2 c
      refine ax_iconst hX dX7_giveDay_63 (v := 1) (by decide) ?_
      refine ax_goto hX dX7_giveDay_64 (tgt := 68) (by decide) ?_
      refine ax_istore hX dX7_giveDay_68 (by decide) (L' := [some (.ref 85), some (.ref 79), some (.int v2), some (.int v3), some (.int v4), some (.long v5), none, some (.int v7), some (.int v8), some (.int (1 : Int32)), none, none, none]) rfl ?_
      refine ax_iload hX dX7_giveDay_70 rfl ?_
      refine ax_if_eq hX dX7_giveDay_72 (tgt := 135) (by decide) (fun c => ?_) (fun c => ?_)
      · exact absurd c (by decide)
      refine ax_aload_n hX dX7_giveDay_75 (Or.inr ⟨_, rfl⟩) rfl ?_
      refine tx_getF hX fRX7_15 ly_85 (o := 2) (b := 87) fk_7_1 rfl (by decide) (Nat.lt_of_lt_of_le (by decide) hsz) dX7_giveDay_76 ?_
      refine ax_iload hX dX7_giveDay_79 rfl ?_
      refine ax_iconst hX dX7_giveDay_81 (v := 5) (by decide) ?_
      refine ax_imul hX dX7_giveDay_82 ?_
      refine ax_iload hX dX7_giveDay_83 rfl ?_
      refine ax_iadd hX dX7_giveDay_85 ?_
      refine tx_zal hX ly_87 (by decide) (Nat.lt_of_lt_of_le (by decide) hsz) hyp.1 dX7_giveDay_86 ?_
      replace hyp := hyp.2
      refine ax_if_eq hX dX7_giveDay_87 (tgt := 135) (by decide) (fun c => ?_) (fun c => ?_)
      · replace hyp := hyp.1 c
        refine ax_iinc hX dX7_giveDay_135 rfl (w := (v8 + (1 : Int32))) rfl (by decide) (L' := [some (.ref 85), some (.ref 79), some (.int v2), some (.int v3), some (.int v4), some (.long v5), none, some (.int v7), some (.int (v8 + (1 : Int32))), some (.int (1 : Int32)), none, none, none]) rfl ?_
        refine ax_goto hX dX7_giveDay_138 (tgt := 44) (by decide) ?_
        exact ax_forget (L' := [some (.ref 85), some (.ref 79), some (.int v2), some (.int v3), some (.int v4), some (.long v5), none, some (.int v7), some (.int (v8 + (1 : Int32))), none, none, none, none]) (⟨rfl, ⟨rfl, ⟨rfl, ⟨rfl, ⟨rfl, ⟨rfl, ⟨rfl, ⟨rfl, trivial⟩⟩⟩⟩⟩⟩⟩⟩) hyp
      · replace hyp := hyp.2 c
        refine ax_aload_n hX dX7_giveDay_90 (Or.inr ⟨_, rfl⟩) rfl ?_
        refine tx_getF hX fRX7_88 ly_79 (o := 3) (b := 82) fk_1_5 rfl (by decide) (Nat.lt_of_lt_of_le (by decide) hsz) dX7_giveDay_91 ?_
        refine ax_iload hX dX7_giveDay_94 rfl ?_
        refine tx_ial hX ly_82 (by decide) (Nat.lt_of_lt_of_le (by decide) hsz) hyp.1 dX7_giveDay_96 ?_
        replace hyp := hyp.2
        refine ax_iconst hX dX7_giveDay_97 (v := 1) (by decide) ?_
        refine ax_iadd hX dX7_giveDay_98 ?_
        refine ax_iconst hX dX7_giveDay_99 (v := 4) (by decide) ?_
        refine ax_iload hX dX7_giveDay_100 rfl ?_
        refine ax_imul hX dX7_giveDay_102 ?_
        refine ax_ishl hX dX7_giveDay_103 ?_
        refine ax_istore hX dX7_giveDay_104 (by decide) (L' := [some (.ref 85), some (.ref 79), some (.int v2), some (.int v3), some (.int v4), some (.long v5), none, some (.int v7), some (.int v8), some (.int (1 : Int32)), some (.int (((T1.1 82 (v7.toNatClampNeg)) + (1 : Int32)) <<< (((4 : Int32) * v8) &&& 31))), none, none]) rfl ?_
        refine ax_aload_n hX dX7_giveDay_106 (Or.inr ⟨_, rfl⟩) rfl ?_
        refine ax_iload hX dX7_giveDay_107 rfl ?_
        refine ax_iload hX dX7_giveDay_109 rfl ?_
        obtain ⟨Q1, hK, hyp⟩ := hyp
        refine ax_callS hX lRX7_91 sm_X7_costOf cw_X7_costOf (A := [.ref 79, .int v8, .int v7]) (st := []) rfl rfl (Nat.le_of_ble_eq_true rfl) (by decide) (by decide) dX7_giveDay_111 hK ?_
        rintro _ _ ⟨r2, T2, rfl, rfl, hq⟩
        replace hyp := hyp r2 T2 hq
        refine ax_lstore hX dX7_giveDay_114 (by decide) (L' := [some (.ref 85), some (.ref 79), some (.int v2), some (.int v3), some (.int v4), some (.long v5), none, some (.int v7), some (.int v8), some (.int (1 : Int32)), some (.int (((T1.1 82 (v7.toNatClampNeg)) + (1 : Int32)) <<< (((4 : Int32) * v8) &&& 31))), some (.long r2), none]) rfl ?_
        refine ax_aload_n hX dX7_giveDay_116 (Or.inr ⟨_, rfl⟩) rfl ?_
        refine ax_aload_n hX dX7_giveDay_117 (Or.inr ⟨_, rfl⟩) rfl ?_
        refine ax_iload_n hX dX7_giveDay_118 rfl ?_
        refine ax_iconst hX dX7_giveDay_119 (v := 1) (by decide) ?_
        refine ax_iadd hX dX7_giveDay_120 ?_
        refine ax_iload_n hX dX7_giveDay_121 rfl ?_
        refine ax_iload hX dX7_giveDay_122 rfl ?_
        refine ax_iload hX dX7_giveDay_124 rfl ?_
        refine ax_ior hX dX7_giveDay_126 ?_
        refine ax_lload hX dX7_giveDay_127 rfl ?_
        refine ax_lload hX dX7_giveDay_129 rfl ?_
        refine ax_ladd hX dX7_giveDay_131 ?_
        obtain ⟨Q1, hK, hyp⟩ := hyp
        refine ax_callV hX lRX7_55 im_X7_giveDay sl_X7_giveDay cw_X7_giveDay ((th_at (by decide) (Nat.lt_of_lt_of_le (by decide) hsz)).trans (tc_ob ly_85)) rfl rfl (A := [.ref 79, .int (v2 + (1 : Int32)), .int v3, .int (v4 ||| (((T1.1 82 (v7.toNatClampNeg)) + (1 : Int32)) <<< (((4 : Int32) * v8) &&& 31))), .long (v5 + r2)]) (st := []) rfl rfl (Nat.le_of_ble_eq_true rfl) (by decide) (by decide) dX7_giveDay_132 hK ?_
        rintro _ _ ⟨T3, rfl, rfl, hq⟩
        replace hyp := hyp T3 hq
        refine ax_iinc hX dX7_giveDay_135 rfl (w := (v8 + (1 : Int32))) rfl (by decide) (L' := [some (.ref 85), some (.ref 79), some (.int v2), some (.int v3), some (.int v4), some (.long v5), none, some (.int v7), some (.int (v8 + (1 : Int32))), some (.int (1 : Int32)), some (.int (((T1.1 82 (v7.toNatClampNeg)) + (1 : Int32)) <<< (((4 : Int32) * v8) &&& 31))), some (.long r2), none]) rfl ?_
        refine ax_goto hX dX7_giveDay_138 (tgt := 44) (by decide) ?_
        exact ax_forget (L' := [some (.ref 85), some (.ref 79), some (.int v2), some (.int v3), some (.int v4), some (.long v5), none, some (.int v7), some (.int (v8 + (1 : Int32))), none, none, none, none]) (⟨rfl, ⟨rfl, ⟨rfl, ⟨rfl, ⟨rfl, ⟨rfl, ⟨rfl, ⟨rfl, trivial⟩⟩⟩⟩⟩⟩⟩⟩) hyp
set_option maxRecDepth 10000 in
theorem s_X7_orderByDay_0 {X : ax_X} {d L sz : Nat} {T : tT} {Q : tT → Prop} (hX : ax_ok X mX7_orderByDay d) (hR : ax_Ret X mX7_orderByDay (tv L sz Q)) (hsz : 161 ≤ sz)  (hyp : ax_j X 2 [some (.ref 85), some (.ref 79), some (.int (0 : Int32)), none] [] (th L sz T) 0 0) : ax_j X 0 [some (.ref 85), some (.ref 79), none, none] [] (th L sz T) 0 0 := by
  refine ax_iconst hX dX7_orderByDay_0 (v := 0) (by decide) ?_
  refine ax_istore_n hX dX7_orderByDay_1 (by decide) (L' := [some (.ref 85), some (.ref 79), some (.int (0 : Int32)), none]) rfl ?_
  exact ax_forget (L' := [some (.ref 85), some (.ref 79), some (.int (0 : Int32)), none]) (⟨rfl, ⟨rfl, ⟨rfl, trivial⟩⟩⟩) hyp
set_option maxRecDepth 10000 in
theorem s_X7_orderByDay_2 {X : ax_X} {d L sz : Nat} {T : tT} {Q : tT → Prop} (hX : ax_ok X mX7_orderByDay d) (hR : ax_Ret X mX7_orderByDay (tv L sz Q)) (hsz : 161 ≤ sz) (v2 : Int32) (hyp : (((T.1 79 2) ≤ v2 → Q T) ∧ (¬ (T.1 79 2) ≤ v2 → ax_j X 12 [some (.ref 85), some (.ref 79), some (.int v2), some (.int v2)] [] (th L sz T) 0 0))) : ax_j X 2 [some (.ref 85), some (.ref 79), some (.int v2), none] [] (th L sz T) 0 0 := by
  refine ax_iload_n hX dX7_orderByDay_2 rfl ?_
  refine ax_aload_n hX dX7_orderByDay_3 (Or.inr ⟨_, rfl⟩) rfl ?_
  refine tx_getI hX fRX7_43 ly_79 fk_1_2 (by decide) (Nat.lt_of_lt_of_le (by decide) hsz) dX7_orderByDay_4 ?_
  refine ax_icmp_ge hX dX7_orderByDay_7 (tgt := 71) (by decide) (fun c => ?_) (fun c => ?_)
  · replace hyp := hyp.1 c
    exact hR.2.2.2 _ _ _ _ _ (by decide) (by decide) dX7_orderByDay_71 rfl ⟨_, rfl, rfl, hyp⟩
  · replace hyp := hyp.2 c
    refine ax_iload_n hX dX7_orderByDay_10 rfl ?_
    refine ax_istore_n hX dX7_orderByDay_11 (by decide) (L' := [some (.ref 85), some (.ref 79), some (.int v2), some (.int v2)]) rfl ?_
    exact ax_forget (L' := [some (.ref 85), some (.ref 79), some (.int v2), some (.int v2)]) (⟨rfl, ⟨rfl, ⟨rfl, ⟨rfl, trivial⟩⟩⟩⟩) hyp
set_option maxRecDepth 10000 in
theorem s_X7_orderByDay_12 {X : ax_X} {d L sz : Nat} {T : tT} {Q : tT → Prop} (hX : ax_ok X mX7_orderByDay d) (hR : ax_Ret X mX7_orderByDay (tv L sz Q)) (hsz : 161 ≤ sz) (v2 : Int32) (v3 : Int32) (hyp : ((v3 ≤ 0 → vp_in v3 9 ∧ ax_j X 2 [some (.ref 85), some (.ref 79), some (.int (v2 + (1 : Int32))), none] [] (th L sz (tI T 88 (v3.toNatClampNeg) v2)) 0 0) ∧ (¬ v3 ≤ 0 → vp_in (v3 - (1 : Int32)) 9 ∧ vp_in (T.1 88 (v3 - (1 : Int32)).toNatClampNeg) 9 ∧ vp_in v2 9 ∧ (((T.1 83 (T.1 88 (v3 - (1 : Int32)).toNatClampNeg).toNatClampNeg) ≤ (T.1 83 (v2.toNatClampNeg)) → vp_in v3 9 ∧ ax_j X 2 [some (.ref 85), some (.ref 79), some (.int (v2 + (1 : Int32))), none] [] (th L sz (tI T 88 (v3.toNatClampNeg) v2)) 0 0) ∧ (¬ (T.1 83 (T.1 88 (v3 - (1 : Int32)).toNatClampNeg).toNatClampNeg) ≤ (T.1 83 (v2.toNatClampNeg)) → vp_in (v3 - (1 : Int32)) 9 ∧ vp_in v3 9 ∧ ax_j X 12 [some (.ref 85), some (.ref 79), some (.int v2), some (.int (v3 + (-1 : Int32)))] [] (th L sz (tI T 88 (v3.toNatClampNeg) (T.1 88 (v3 - (1 : Int32)).toNatClampNeg))) 0 0))))) : ax_j X 12 [some (.ref 85), some (.ref 79), some (.int v2), some (.int v3)] [] (th L sz T) 0 0 := by
  refine ax_iload_n hX dX7_orderByDay_12 rfl ?_
  refine ax_if_le hX dX7_orderByDay_13 (tgt := 58) (by decide) (fun c => ?_) (fun c => ?_)
  · replace hyp := hyp.1 c
    refine ax_aload_n hX dX7_orderByDay_58 (Or.inr ⟨_, rfl⟩) rfl ?_
    refine tx_getF hX fRX7_19 ly_85 (o := 3) (b := 88) fk_7_2 rfl (by decide) (Nat.lt_of_lt_of_le (by decide) hsz) dX7_orderByDay_59 ?_
    refine ax_iload_n hX dX7_orderByDay_62 rfl ?_
    refine ax_iload_n hX dX7_orderByDay_63 rfl ?_
    refine tx_ias hX ly_88 (by decide) (Nat.lt_of_lt_of_le (by decide) hsz) hyp.1 dX7_orderByDay_64 ?_
    replace hyp := hyp.2
    refine ax_iinc hX dX7_orderByDay_65 rfl (w := (v2 + (1 : Int32))) rfl (by decide) (L' := [some (.ref 85), some (.ref 79), some (.int (v2 + (1 : Int32))), some (.int v3)]) rfl ?_
    refine ax_goto hX dX7_orderByDay_68 (tgt := 2) (by decide) ?_
    exact ax_forget (L' := [some (.ref 85), some (.ref 79), some (.int (v2 + (1 : Int32))), none]) (⟨rfl, ⟨rfl, ⟨rfl, trivial⟩⟩⟩) hyp
  · replace hyp := hyp.2 c
    refine ax_aload_n hX dX7_orderByDay_16 (Or.inr ⟨_, rfl⟩) rfl ?_
    refine tx_getF hX fRX7_48 ly_79 (o := 4) (b := 83) fk_1_6 rfl (by decide) (Nat.lt_of_lt_of_le (by decide) hsz) dX7_orderByDay_17 ?_
    refine ax_aload_n hX dX7_orderByDay_20 (Or.inr ⟨_, rfl⟩) rfl ?_
    refine tx_getF hX fRX7_19 ly_85 (o := 3) (b := 88) fk_7_2 rfl (by decide) (Nat.lt_of_lt_of_le (by decide) hsz) dX7_orderByDay_21 ?_
    refine ax_iload_n hX dX7_orderByDay_24 rfl ?_
    refine ax_iconst hX dX7_orderByDay_25 (v := 1) (by decide) ?_
    refine ax_isub hX dX7_orderByDay_26 ?_
    refine tx_ial hX ly_88 (by decide) (Nat.lt_of_lt_of_le (by decide) hsz) hyp.1 dX7_orderByDay_27 ?_
    replace hyp := hyp.2
    refine tx_ial hX ly_83 (by decide) (Nat.lt_of_lt_of_le (by decide) hsz) hyp.1 dX7_orderByDay_28 ?_
    replace hyp := hyp.2
    refine ax_aload_n hX dX7_orderByDay_29 (Or.inr ⟨_, rfl⟩) rfl ?_
    refine tx_getF hX fRX7_48 ly_79 (o := 4) (b := 83) fk_1_6 rfl (by decide) (Nat.lt_of_lt_of_le (by decide) hsz) dX7_orderByDay_30 ?_
    refine ax_iload_n hX dX7_orderByDay_33 rfl ?_
    refine tx_ial hX ly_83 (by decide) (Nat.lt_of_lt_of_le (by decide) hsz) hyp.1 dX7_orderByDay_34 ?_
    replace hyp := hyp.2
    refine ax_icmp_le hX dX7_orderByDay_35 (tgt := 58) (by decide) (fun c => ?_) (fun c => ?_)
    · replace hyp := hyp.1 c
      refine ax_aload_n hX dX7_orderByDay_58 (Or.inr ⟨_, rfl⟩) rfl ?_
      refine tx_getF hX fRX7_19 ly_85 (o := 3) (b := 88) fk_7_2 rfl (by decide) (Nat.lt_of_lt_of_le (by decide) hsz) dX7_orderByDay_59 ?_
      refine ax_iload_n hX dX7_orderByDay_62 rfl ?_
      refine ax_iload_n hX dX7_orderByDay_63 rfl ?_
      refine tx_ias hX ly_88 (by decide) (Nat.lt_of_lt_of_le (by decide) hsz) hyp.1 dX7_orderByDay_64 ?_
      replace hyp := hyp.2
      refine ax_iinc hX dX7_orderByDay_65 rfl (w := (v2 + (1 : Int32))) rfl (by decide) (L' := [some (.ref 85), some (.ref 79), some (.int (v2 + (1 : Int32))), some (.int v3)]) rfl ?_
      refine ax_goto hX dX7_orderByDay_68 (tgt := 2) (by decide) ?_
      exact ax_forget (L' := [some (.ref 85), some (.ref 79), some (.int (v2 + (1 : Int32))), none]) (⟨rfl, ⟨rfl, ⟨rfl, trivial⟩⟩⟩) hyp
    · replace hyp := hyp.2 c
      refine ax_aload_n hX dX7_orderByDay_38 (Or.inr ⟨_, rfl⟩) rfl ?_
      refine tx_getF hX fRX7_19 ly_85 (o := 3) (b := 88) fk_7_2 rfl (by decide) (Nat.lt_of_lt_of_le (by decide) hsz) dX7_orderByDay_39 ?_
      refine ax_iload_n hX dX7_orderByDay_42 rfl ?_
      refine ax_aload_n hX dX7_orderByDay_43 (Or.inr ⟨_, rfl⟩) rfl ?_
      refine tx_getF hX fRX7_19 ly_85 (o := 3) (b := 88) fk_7_2 rfl (by decide) (Nat.lt_of_lt_of_le (by decide) hsz) dX7_orderByDay_44 ?_
      refine ax_iload_n hX dX7_orderByDay_47 rfl ?_
      refine ax_iconst hX dX7_orderByDay_48 (v := 1) (by decide) ?_
      refine ax_isub hX dX7_orderByDay_49 ?_
      refine tx_ial hX ly_88 (by decide) (Nat.lt_of_lt_of_le (by decide) hsz) hyp.1 dX7_orderByDay_50 ?_
      replace hyp := hyp.2
      refine tx_ias hX ly_88 (by decide) (Nat.lt_of_lt_of_le (by decide) hsz) hyp.1 dX7_orderByDay_51 ?_
      replace hyp := hyp.2
      refine ax_iinc hX dX7_orderByDay_52 rfl (w := (v3 + (-1 : Int32))) rfl (by decide) (L' := [some (.ref 85), some (.ref 79), some (.int v2), some (.int (v3 + (-1 : Int32)))]) rfl ?_
      refine ax_goto hX dX7_orderByDay_55 (tgt := 12) (by decide) ?_
      exact ax_forget (L' := [some (.ref 85), some (.ref 79), some (.int v2), some (.int (v3 + (-1 : Int32)))]) (⟨rfl, ⟨rfl, ⟨rfl, ⟨rfl, trivial⟩⟩⟩⟩) hyp
set_option maxRecDepth 10000 in
theorem s_X7_placeOf_0 {X : ax_X} {d L sz : Nat} {T : tT} {Q : Int32 → tT → Prop} (hX : ax_ok X mX7_placeOf d) (hR : ax_Ret X mX7_placeOf (ti L sz Q)) (hsz : 161 ≤ sz) (x0 : Int32) (x1 : Int32) (hyp : Q ((x0 >>> (((4 : Int32) * x1) &&& 31)) &&& (15 : Int32)) T) : ax_j X 0 [some (.int x0), some (.int x1)] [] (th L sz T) 0 0 := by
  refine ax_iload_n hX dX7_placeOf_0 rfl ?_
  refine ax_iconst hX dX7_placeOf_1 (v := 4) (by decide) ?_
  refine ax_iload_n hX dX7_placeOf_2 rfl ?_
  refine ax_imul hX dX7_placeOf_3 ?_
  refine ax_ishr hX dX7_placeOf_4 ?_
  refine ax_bipush hX dX7_placeOf_5 (v := 15) (by decide) ?_
  refine ax_iand hX dX7_placeOf_7 ?_
  exact hR.1 _ _ _ _ _ _ (by decide) (by decide) dX7_placeOf_8 ⟨_, rfl, rfl⟩ ⟨_, _, rfl, rfl, hyp⟩
set_option maxRecDepth 10000 in
theorem s_X7_plan_0 {X : ax_X} {d L sz : Nat} {T : tT} {Q : Int32 → tT → Prop} (hX : ax_ok X mX7_plan (d + 1)) (hR : ax_Ret X mX7_plan (ti L sz Q)) (hsz : 161 ≤ sz)  (hyp : ∃ Q1, tvK d mX7_orderByDay [.ref 85, .ref 79] L sz T Q1 ∧ ∀ (T1 : tT), Q1 T1 → ((((T1.2.2 85 7) = none → False) ∧ (∀ p2, (T1.2.2 85 7) = some p2 → tar sz p2 1 120 ∧ vp_in (0 : Int32) 120 ∧ ax_j X 19 [some (.ref 85), some (.ref 79), some (.int (0 : Int32)), none] [] (th L sz (tJ (tI T1 85 3 (1 : Int32)) p2 ((0 : Int32).toNatClampNeg) (0 : Int64))) 0 0)))) : ax_j X 0 [some (.ref 85), some (.ref 79), none, none] [] (th L sz T) 0 0 := by
  refine ax_aload_n hX dX7_plan_0 (Or.inr ⟨_, rfl⟩) rfl ?_
  refine ax_aload_n hX dX7_plan_1 (Or.inr ⟨_, rfl⟩) rfl ?_
  obtain ⟨Q1, hK, hyp⟩ := hyp
  refine ax_callV hX lRX7_35 im_X7_orderByDay sl_X7_orderByDay cw_X7_orderByDay ((th_at (by decide) (Nat.lt_of_lt_of_le (by decide) hsz)).trans (tc_ob ly_85)) rfl rfl (A := [.ref 79]) (st := []) rfl rfl (Nat.le_of_ble_eq_true rfl) (by decide) (by decide) dX7_plan_2 hK ?_
  rintro _ _ ⟨T1, rfl, rfl, hq⟩
  replace hyp := hyp T1 hq
  refine ax_aload_n hX dX7_plan_5 (Or.inr ⟨_, rfl⟩) rfl ?_
  refine ax_iconst hX dX7_plan_6 (v := 1) (by decide) ?_
  refine tx_putI hX fRX7_39 ly_85 fk_7_3 (by decide) (Nat.lt_of_lt_of_le (by decide) hsz) rfl rfl dX7_plan_7 ?_
  refine ax_aload_n hX dX7_plan_10 (Or.inr ⟨_, rfl⟩) rfl ?_
  rcases ho2 : (T1.2.2 85 7) with _ | p2
  · replace hyp := hyp.1 ho2
    refine tx_getP hX fRX7_28 ly_85 fk_7_7 (by decide) (Nat.lt_of_lt_of_le (by decide) hsz) (v := .null) (congrArg va_rf ho2) dX7_plan_11 ?_
    refine ax_iconst hX dX7_plan_14 (v := 0) (by decide) ?_
    refine ax_lconst hX dX7_plan_15 (v := 0) (by decide) ?_
    exact hyp.elim
  · obtain ⟨h_p2, hyp⟩ := hyp.2 p2 ho2
    refine tx_getP hX fRX7_28 ly_85 fk_7_7 (by decide) (Nat.lt_of_lt_of_le (by decide) hsz) (v := .ref p2) (congrArg va_rf ho2) dX7_plan_11 ?_
    refine ax_iconst hX dX7_plan_14 (v := 0) (by decide) ?_
    refine ax_lconst hX dX7_plan_15 (v := 0) (by decide) ?_
    refine tx_las hX h_p2.ly h_p2.ge h_p2.lt hyp.1 dX7_plan_16 ?_
    replace hyp := hyp.2
    refine ax_iconst hX dX7_plan_17 (v := 0) (by decide) ?_
    refine ax_istore_n hX dX7_plan_18 (by decide) (L' := [some (.ref 85), some (.ref 79), some (.int (0 : Int32)), none]) rfl ?_
    exact ax_forget (L' := [some (.ref 85), some (.ref 79), some (.int (0 : Int32)), none]) (⟨rfl, ⟨rfl, ⟨rfl, trivial⟩⟩⟩) hyp
set_option maxRecDepth 10000 in
theorem s_X7_plan_19 {X : ax_X} {d L sz : Nat} {T : tT} {Q : Int32 → tT → Prop} (hX : ax_ok X mX7_plan (d + 1)) (hR : ax_Ret X mX7_plan (ti L sz Q)) (hsz : 161 ≤ sz) (v2 : Int32) (hyp : (((T.1 79 2) ≤ v2 → ((¬ (T.1 85 3) = 0 → ∃ Q1, tvK d mX7_sendAllHome [.ref 85] L sz T Q1 ∧ ∀ (T1 : tT), Q1 T1 → ((((T1.2.2 85 7) = none → False) ∧ (∀ p2, (T1.2.2 85 7) = some p2 → tar sz p2 1 120 ∧ vp_in (0 : Int32) 120 ∧ ∃ Q1, tvK d mX7_choose [.ref 85, .int (T1.1 79 2), .long (T1.2.1 p2 (0 : Int32).toNatClampNeg)] L sz T1 Q1 ∧ ∀ (T3 : tT), Q1 T3 → ((((T3.2.2 85 7) = none → False) ∧ (∀ p4, (T3.2.2 85 7) = some p4 → tar sz p4 1 120 ∧ vp_in (0 : Int32) 120 ∧ Q (((T3.2.1 p4 (0 : Int32).toNatClampNeg) >>> ((27 : Int32).toInt64 &&& 63)).toInt32) T3))))))) ∧ ((T.1 85 3) = 0 → Q (-2 : Int32) T))) ∧ (¬ (T.1 79 2) ≤ v2 → vp_in v2 9 ∧ vp_in (T.1 88 (v2.toNatClampNeg)) 9 ∧ ((v2 = 0 → ((v2 ≤ 0 → ∃ Q1, tvK d mX7_startDay [.ref 85, .int (0 : Int32)] L sz T Q1 ∧ ∀ (T5 : tT), Q1 T5 → (∃ Q1, tvK d mX7_giveDay [.ref 85, .ref 79, .int v2, .int (T.1 83 (T.1 88 (v2.toNatClampNeg)).toNatClampNeg), .int (0 : Int32), .long (0 : Int64)] L sz T5 Q1 ∧ ∀ (T6 : tT), Q1 T6 → (ax_j X 19 [some (.ref 85), some (.ref 79), some (.int (v2 + (1 : Int32))), none] [] (th L sz T6) 0 0))) ∧ (¬ v2 ≤ 0 → vp_in (v2 - (1 : Int32)) 9 ∧ vp_in (T.1 88 (v2 - (1 : Int32)).toNatClampNeg) 9 ∧ ((¬ (T.1 83 (T.1 88 (v2 - (1 : Int32)).toNatClampNeg).toNatClampNeg) = ((T.1 83 (T.1 88 (v2.toNatClampNeg)).toNatClampNeg) - (1 : Int32)) → ∃ Q1, tvK d mX7_startDay [.ref 85, .int (0 : Int32)] L sz T Q1 ∧ ∀ (T7 : tT), Q1 T7 → (∃ Q1, tvK d mX7_giveDay [.ref 85, .ref 79, .int v2, .int (T.1 83 (T.1 88 (v2.toNatClampNeg)).toNatClampNeg), .int (0 : Int32), .long (0 : Int64)] L sz T7 Q1 ∧ ∀ (T8 : tT), Q1 T8 → (ax_j X 19 [some (.ref 85), some (.ref 79), some (.int (v2 + (1 : Int32))), none] [] (th L sz T8) 0 0))) ∧ ((T.1 83 (T.1 88 (v2 - (1 : Int32)).toNatClampNeg).toNatClampNeg) = ((T.1 83 (T.1 88 (v2.toNatClampNeg)).toNatClampNeg) - (1 : Int32)) → ∃ Q1, tvK d mX7_startDay [.ref 85, .int (1 : Int32)] L sz T Q1 ∧ ∀ (T9 : tT), Q1 T9 → (∃ Q1, tvK d mX7_giveDay [.ref 85, .ref 79, .int v2, .int (T.1 83 (T.1 88 (v2.toNatClampNeg)).toNatClampNeg), .int (0 : Int32), .long (0 : Int64)] L sz T9 Q1 ∧ ∀ (T10 : tT), Q1 T10 → (ax_j X 19 [some (.ref 85), some (.ref 79), some (.int (v2 + (1 : Int32))), none] [] (th L sz T10) 0 0))))))) ∧ (¬ v2 = 0 → vp_in (v2 - (1 : Int32)) 9 ∧ vp_in (T.1 88 (v2 - (1 : Int32)).toNatClampNeg) 9 ∧ (((T.1 83 (T.1 88 (v2 - (1 : Int32)).toNatClampNeg).toNatClampNeg) = (T.1 83 (T.1 88 (v2.toNatClampNeg)).toNatClampNeg) → ax_j X 19 [some (.ref 85), some (.ref 79), some (.int (v2 + (1 : Int32))), none] [] (th L sz T) 0 0) ∧ (¬ (T.1 83 (T.1 88 (v2 - (1 : Int32)).toNatClampNeg).toNatClampNeg) = (T.1 83 (T.1 88 (v2.toNatClampNeg)).toNatClampNeg) → ((v2 ≤ 0 → ∃ Q1, tvK d mX7_startDay [.ref 85, .int (0 : Int32)] L sz T Q1 ∧ ∀ (T11 : tT), Q1 T11 → (∃ Q1, tvK d mX7_giveDay [.ref 85, .ref 79, .int v2, .int (T.1 83 (T.1 88 (v2.toNatClampNeg)).toNatClampNeg), .int (0 : Int32), .long (0 : Int64)] L sz T11 Q1 ∧ ∀ (T12 : tT), Q1 T12 → (ax_j X 19 [some (.ref 85), some (.ref 79), some (.int (v2 + (1 : Int32))), none] [] (th L sz T12) 0 0))) ∧ (¬ v2 ≤ 0 → vp_in (v2 - (1 : Int32)) 9 ∧ vp_in (T.1 88 (v2 - (1 : Int32)).toNatClampNeg) 9 ∧ ((¬ (T.1 83 (T.1 88 (v2 - (1 : Int32)).toNatClampNeg).toNatClampNeg) = ((T.1 83 (T.1 88 (v2.toNatClampNeg)).toNatClampNeg) - (1 : Int32)) → ∃ Q1, tvK d mX7_startDay [.ref 85, .int (0 : Int32)] L sz T Q1 ∧ ∀ (T13 : tT), Q1 T13 → (∃ Q1, tvK d mX7_giveDay [.ref 85, .ref 79, .int v2, .int (T.1 83 (T.1 88 (v2.toNatClampNeg)).toNatClampNeg), .int (0 : Int32), .long (0 : Int64)] L sz T13 Q1 ∧ ∀ (T14 : tT), Q1 T14 → (ax_j X 19 [some (.ref 85), some (.ref 79), some (.int (v2 + (1 : Int32))), none] [] (th L sz T14) 0 0))) ∧ ((T.1 83 (T.1 88 (v2 - (1 : Int32)).toNatClampNeg).toNatClampNeg) = ((T.1 83 (T.1 88 (v2.toNatClampNeg)).toNatClampNeg) - (1 : Int32)) → ∃ Q1, tvK d mX7_startDay [.ref 85, .int (1 : Int32)] L sz T Q1 ∧ ∀ (T15 : tT), Q1 T15 → (∃ Q1, tvK d mX7_giveDay [.ref 85, .ref 79, .int v2, .int (T.1 83 (T.1 88 (v2.toNatClampNeg)).toNatClampNeg), .int (0 : Int32), .long (0 : Int64)] L sz T15 Q1 ∧ ∀ (T16 : tT), Q1 T16 → (ax_j X 19 [some (.ref 85), some (.ref 79), some (.int (v2 + (1 : Int32))), none] [] (th L sz T16) 0 0))))))))))))) : ax_j X 19 [some (.ref 85), some (.ref 79), some (.int v2), none] [] (th L sz T) 0 0 := by
  refine ax_iload_n hX dX7_plan_19 rfl ?_
  refine ax_aload_n hX dX7_plan_20 (Or.inr ⟨_, rfl⟩) rfl ?_
  refine tx_getI hX fRX7_43 ly_79 fk_1_2 (by decide) (Nat.lt_of_lt_of_le (by decide) hsz) dX7_plan_21 ?_
  refine ax_icmp_ge hX dX7_plan_24 (tgt := 107) (by decide) (fun c => ?_) (fun c => ?_)
  · replace hyp := hyp.1 c
    refine ax_aload_n hX dX7_plan_107 (Or.inr ⟨_, rfl⟩) rfl ?_
    refine tx_getI hX fRX7_39 ly_85 fk_7_3 (by decide) (Nat.lt_of_lt_of_le (by decide) hsz) dX7_plan_108 ?_
    refine ax_if_ne hX dX7_plan_111 (tgt := 117) (by decide) (fun c => ?_) (fun c => ?_)
    · replace hyp := hyp.1 c
      refine ax_aload_n hX dX7_plan_117 (Or.inr ⟨_, rfl⟩) rfl ?_
      obtain ⟨Q1, hK, hyp⟩ := hyp
      refine ax_callV hX lRX7_59 im_X7_sendAllHome sl_X7_sendAllHome cw_X7_sendAllHome ((th_at (by decide) (Nat.lt_of_lt_of_le (by decide) hsz)).trans (tc_ob ly_85)) rfl rfl (A := []) (st := []) rfl rfl (Nat.le_of_ble_eq_true rfl) (by decide) (by decide) dX7_plan_118 hK ?_
      rintro _ _ ⟨T1, rfl, rfl, hq⟩
      replace hyp := hyp T1 hq
      refine ax_aload_n hX dX7_plan_121 (Or.inr ⟨_, rfl⟩) rfl ?_
      refine ax_aload_n hX dX7_plan_122 (Or.inr ⟨_, rfl⟩) rfl ?_
      refine tx_getI hX fRX7_43 ly_79 fk_1_2 (by decide) (Nat.lt_of_lt_of_le (by decide) hsz) dX7_plan_123 ?_
      refine ax_aload_n hX dX7_plan_126 (Or.inr ⟨_, rfl⟩) rfl ?_
      rcases ho2 : (T1.2.2 85 7) with _ | p2
      · replace hyp := hyp.1 ho2
        refine tx_getP hX fRX7_28 ly_85 fk_7_7 (by decide) (Nat.lt_of_lt_of_le (by decide) hsz) (v := .null) (congrArg va_rf ho2) dX7_plan_127 ?_
        refine ax_iconst hX dX7_plan_130 (v := 0) (by decide) ?_
        exact hyp.elim
      · obtain ⟨h_p2, hyp⟩ := hyp.2 p2 ho2
        refine tx_getP hX fRX7_28 ly_85 fk_7_7 (by decide) (Nat.lt_of_lt_of_le (by decide) hsz) (v := .ref p2) (congrArg va_rf ho2) dX7_plan_127 ?_
        refine ax_iconst hX dX7_plan_130 (v := 0) (by decide) ?_
        refine tx_lal hX h_p2.ly h_p2.ne h_p2.lt hyp.1 dX7_plan_131 ?_
        replace hyp := hyp.2
        obtain ⟨Q1, hK, hyp⟩ := hyp
        refine ax_callV hX lRX7_62 im_X7_choose sl_X7_choose cw_X7_choose ((th_at (by decide) (Nat.lt_of_lt_of_le (by decide) hsz)).trans (tc_ob ly_85)) rfl rfl (A := [.int (T1.1 79 2), .long (T1.2.1 p2 (0 : Int32).toNatClampNeg)]) (st := []) rfl rfl (Nat.le_of_ble_eq_true rfl) (by decide) (by decide) dX7_plan_132 hK ?_
        rintro _ _ ⟨T3, rfl, rfl, hq⟩
        replace hyp := hyp T3 hq
        refine ax_aload_n hX dX7_plan_135 (Or.inr ⟨_, rfl⟩) rfl ?_
        rcases ho4 : (T3.2.2 85 7) with _ | p4
        · replace hyp := hyp.1 ho4
          refine tx_getP hX fRX7_28 ly_85 fk_7_7 (by decide) (Nat.lt_of_lt_of_le (by decide) hsz) (v := .null) (congrArg va_rf ho4) dX7_plan_136 ?_
          refine ax_iconst hX dX7_plan_139 (v := 0) (by decide) ?_
          exact hyp.elim
        · obtain ⟨h_p4, hyp⟩ := hyp.2 p4 ho4
          refine tx_getP hX fRX7_28 ly_85 fk_7_7 (by decide) (Nat.lt_of_lt_of_le (by decide) hsz) (v := .ref p4) (congrArg va_rf ho4) dX7_plan_136 ?_
          refine ax_iconst hX dX7_plan_139 (v := 0) (by decide) ?_
          refine tx_lal hX h_p4.ly h_p4.ne h_p4.lt hyp.1 dX7_plan_140 ?_
          replace hyp := hyp.2
          refine ax_bipush hX dX7_plan_141 (v := 27) (by decide) ?_
          refine ax_lshr hX dX7_plan_143 ?_
          refine ax_l2i hX dX7_plan_144 ?_
          exact hR.1 _ _ _ _ _ _ (by decide) (by decide) dX7_plan_145 ⟨_, rfl, rfl⟩ ⟨_, _, rfl, rfl, hyp⟩
    · replace hyp := hyp.2 c
      refine ax_bipush hX dX7_plan_114 (v := -2) (by decide) ?_
      exact hR.1 _ _ _ _ _ _ (by decide) (by decide) dX7_plan_116 ⟨_, rfl, rfl⟩ ⟨_, _, rfl, rfl, hyp⟩
  · replace hyp := hyp.2 c
    refine ax_aload_n hX dX7_plan_27 (Or.inr ⟨_, rfl⟩) rfl ?_
    refine tx_getF hX fRX7_48 ly_79 (o := 4) (b := 83) fk_1_6 rfl (by decide) (Nat.lt_of_lt_of_le (by decide) hsz) dX7_plan_28 ?_
    refine ax_aload_n hX dX7_plan_31 (Or.inr ⟨_, rfl⟩) rfl ?_
    refine tx_getF hX fRX7_19 ly_85 (o := 3) (b := 88) fk_7_2 rfl (by decide) (Nat.lt_of_lt_of_le (by decide) hsz) dX7_plan_32 ?_
    refine ax_iload_n hX dX7_plan_35 rfl ?_
    refine tx_ial hX ly_88 (by decide) (Nat.lt_of_lt_of_le (by decide) hsz) hyp.1 dX7_plan_36 ?_
    replace hyp := hyp.2
    refine tx_ial hX ly_83 (by decide) (Nat.lt_of_lt_of_le (by decide) hsz) hyp.1 dX7_plan_37 ?_
    replace hyp := hyp.2
    refine ax_istore_n hX dX7_plan_38 (by decide) (L' := [some (.ref 85), some (.ref 79), some (.int v2), some (.int (T.1 83 (T.1 88 (v2.toNatClampNeg)).toNatClampNeg))]) rfl ?_
    refine ax_iload_n hX dX7_plan_39 rfl ?_
    refine ax_if_eq hX dX7_plan_40 (tgt := 60) (by decide) (fun c => ?_) (fun c => ?_)
    · replace hyp := hyp.1 c
      refine ax_aload_n hX dX7_plan_60 (Or.inr ⟨_, rfl⟩) rfl ?_
      refine ax_iload_n hX dX7_plan_61 rfl ?_
      refine ax_if_le hX dX7_plan_62 (tgt := 88) (by decide) (fun c => ?_) (fun c => ?_)
      · replace hyp := hyp.1 c
        refine ax_iconst hX dX7_plan_88 (v := 0) (by decide) ?_
        obtain ⟨Q1, hK, hyp⟩ := hyp
        refine ax_callV hX lRX7_51 im_X7_startDay sl_X7_startDay cw_X7_startDay ((th_at (by decide) (Nat.lt_of_lt_of_le (by decide) hsz)).trans (tc_ob ly_85)) rfl rfl (A := [.int (0 : Int32)]) (st := []) rfl rfl (Nat.le_of_ble_eq_true rfl) (by decide) (by decide) dX7_plan_89 hK ?_
        rintro _ _ ⟨T5, rfl, rfl, hq⟩
        replace hyp := hyp T5 hq
        refine ax_aload_n hX dX7_plan_92 (Or.inr ⟨_, rfl⟩) rfl ?_
        refine ax_aload_n hX dX7_plan_93 (Or.inr ⟨_, rfl⟩) rfl ?_
        refine ax_iload_n hX dX7_plan_94 rfl ?_
        refine ax_iload_n hX dX7_plan_95 rfl ?_
        refine ax_iconst hX dX7_plan_96 (v := 0) (by decide) ?_
        refine ax_lconst hX dX7_plan_97 (v := 0) (by decide) ?_
        obtain ⟨Q1, hK, hyp⟩ := hyp
        refine ax_callV hX lRX7_55 im_X7_giveDay sl_X7_giveDay cw_X7_giveDay ((th_at (by decide) (Nat.lt_of_lt_of_le (by decide) hsz)).trans (tc_ob ly_85)) rfl rfl (A := [.ref 79, .int v2, .int (T.1 83 (T.1 88 (v2.toNatClampNeg)).toNatClampNeg), .int (0 : Int32), .long (0 : Int64)]) (st := []) rfl rfl (Nat.le_of_ble_eq_true rfl) (by decide) (by decide) dX7_plan_98 hK ?_
        rintro _ _ ⟨T6, rfl, rfl, hq⟩
        replace hyp := hyp T6 hq
        refine ax_iinc hX dX7_plan_101 rfl (w := (v2 + (1 : Int32))) rfl (by decide) (L' := [some (.ref 85), some (.ref 79), some (.int (v2 + (1 : Int32))), some (.int (T.1 83 (T.1 88 (v2.toNatClampNeg)).toNatClampNeg))]) rfl ?_
        refine ax_goto hX dX7_plan_104 (tgt := 19) (by decide) ?_
        exact ax_forget (L' := [some (.ref 85), some (.ref 79), some (.int (v2 + (1 : Int32))), none]) (⟨rfl, ⟨rfl, ⟨rfl, trivial⟩⟩⟩) hyp
      · replace hyp := hyp.2 c
        refine ax_aload_n hX dX7_plan_65 (Or.inr ⟨_, rfl⟩) rfl ?_
        refine tx_getF hX fRX7_48 ly_79 (o := 4) (b := 83) fk_1_6 rfl (by decide) (Nat.lt_of_lt_of_le (by decide) hsz) dX7_plan_66 ?_
        refine ax_aload_n hX dX7_plan_69 (Or.inr ⟨_, rfl⟩) rfl ?_
        refine tx_getF hX fRX7_19 ly_85 (o := 3) (b := 88) fk_7_2 rfl (by decide) (Nat.lt_of_lt_of_le (by decide) hsz) dX7_plan_70 ?_
        refine ax_iload_n hX dX7_plan_73 rfl ?_
        refine ax_iconst hX dX7_plan_74 (v := 1) (by decide) ?_
        refine ax_isub hX dX7_plan_75 ?_
        refine tx_ial hX ly_88 (by decide) (Nat.lt_of_lt_of_le (by decide) hsz) hyp.1 dX7_plan_76 ?_
        replace hyp := hyp.2
        refine tx_ial hX ly_83 (by decide) (Nat.lt_of_lt_of_le (by decide) hsz) hyp.1 dX7_plan_77 ?_
        replace hyp := hyp.2
        refine ax_iload_n hX dX7_plan_78 rfl ?_
        refine ax_iconst hX dX7_plan_79 (v := 1) (by decide) ?_
        refine ax_isub hX dX7_plan_80 ?_
        refine ax_icmp_ne hX dX7_plan_81 (tgt := 88) (by decide) (fun c => ?_) (fun c => ?_)
        · replace hyp := hyp.1 c
          refine ax_iconst hX dX7_plan_88 (v := 0) (by decide) ?_
          obtain ⟨Q1, hK, hyp⟩ := hyp
          refine ax_callV hX lRX7_51 im_X7_startDay sl_X7_startDay cw_X7_startDay ((th_at (by decide) (Nat.lt_of_lt_of_le (by decide) hsz)).trans (tc_ob ly_85)) rfl rfl (A := [.int (0 : Int32)]) (st := []) rfl rfl (Nat.le_of_ble_eq_true rfl) (by decide) (by decide) dX7_plan_89 hK ?_
          rintro _ _ ⟨T7, rfl, rfl, hq⟩
          replace hyp := hyp T7 hq
          refine ax_aload_n hX dX7_plan_92 (Or.inr ⟨_, rfl⟩) rfl ?_
          refine ax_aload_n hX dX7_plan_93 (Or.inr ⟨_, rfl⟩) rfl ?_
          refine ax_iload_n hX dX7_plan_94 rfl ?_
          refine ax_iload_n hX dX7_plan_95 rfl ?_
          refine ax_iconst hX dX7_plan_96 (v := 0) (by decide) ?_
          refine ax_lconst hX dX7_plan_97 (v := 0) (by decide) ?_
          obtain ⟨Q1, hK, hyp⟩ := hyp
          refine ax_callV hX lRX7_55 im_X7_giveDay sl_X7_giveDay cw_X7_giveDay ((th_at (by decide) (Nat.lt_of_lt_of_le (by decide) hsz)).trans (tc_ob ly_85)) rfl rfl (A := [.ref 79, .int v2, .int (T.1 83 (T.1 88 (v2.toNatClampNeg)).toNatClampNeg), .int (0 : Int32), .long (0 : Int64)]) (st := []) rfl rfl (Nat.le_of_ble_eq_true rfl) (by decide) (by decide) dX7_plan_98 hK ?_
          rintro _ _ ⟨T8, rfl, rfl, hq⟩
          replace hyp := hyp T8 hq
          refine ax_iinc hX dX7_plan_101 rfl (w := (v2 + (1 : Int32))) rfl (by decide) (L' := [some (.ref 85), some (.ref 79), some (.int (v2 + (1 : Int32))), some (.int (T.1 83 (T.1 88 (v2.toNatClampNeg)).toNatClampNeg))]) rfl ?_
          refine ax_goto hX dX7_plan_104 (tgt := 19) (by decide) ?_
          exact ax_forget (L' := [some (.ref 85), some (.ref 79), some (.int (v2 + (1 : Int32))), none]) (⟨rfl, ⟨rfl, ⟨rfl, trivial⟩⟩⟩) hyp
        · replace hyp := hyp.2 c
          refine ax_iconst hX dX7_plan_84 (v := 1) (by decide) ?_
          refine ax_goto hX dX7_plan_85 (tgt := 89) (by decide) ?_
          obtain ⟨Q1, hK, hyp⟩ := hyp
          refine ax_callV hX lRX7_51 im_X7_startDay sl_X7_startDay cw_X7_startDay ((th_at (by decide) (Nat.lt_of_lt_of_le (by decide) hsz)).trans (tc_ob ly_85)) rfl rfl (A := [.int (1 : Int32)]) (st := []) rfl rfl (Nat.le_of_ble_eq_true rfl) (by decide) (by decide) dX7_plan_89 hK ?_
          rintro _ _ ⟨T9, rfl, rfl, hq⟩
          replace hyp := hyp T9 hq
          refine ax_aload_n hX dX7_plan_92 (Or.inr ⟨_, rfl⟩) rfl ?_
          refine ax_aload_n hX dX7_plan_93 (Or.inr ⟨_, rfl⟩) rfl ?_
          refine ax_iload_n hX dX7_plan_94 rfl ?_
          refine ax_iload_n hX dX7_plan_95 rfl ?_
          refine ax_iconst hX dX7_plan_96 (v := 0) (by decide) ?_
          refine ax_lconst hX dX7_plan_97 (v := 0) (by decide) ?_
          obtain ⟨Q1, hK, hyp⟩ := hyp
          refine ax_callV hX lRX7_55 im_X7_giveDay sl_X7_giveDay cw_X7_giveDay ((th_at (by decide) (Nat.lt_of_lt_of_le (by decide) hsz)).trans (tc_ob ly_85)) rfl rfl (A := [.ref 79, .int v2, .int (T.1 83 (T.1 88 (v2.toNatClampNeg)).toNatClampNeg), .int (0 : Int32), .long (0 : Int64)]) (st := []) rfl rfl (Nat.le_of_ble_eq_true rfl) (by decide) (by decide) dX7_plan_98 hK ?_
          rintro _ _ ⟨T10, rfl, rfl, hq⟩
          replace hyp := hyp T10 hq
          refine ax_iinc hX dX7_plan_101 rfl (w := (v2 + (1 : Int32))) rfl (by decide) (L' := [some (.ref 85), some (.ref 79), some (.int (v2 + (1 : Int32))), some (.int (T.1 83 (T.1 88 (v2.toNatClampNeg)).toNatClampNeg))]) rfl ?_
          refine ax_goto hX dX7_plan_104 (tgt := 19) (by decide) ?_
          exact ax_forget (L' := [some (.ref 85), some (.ref 79), some (.int (v2 + (1 : Int32))), none]) (⟨rfl, ⟨rfl, ⟨rfl, trivial⟩⟩⟩) hyp
    · replace hyp := hyp.2 c
      refine ax_aload_n hX dX7_plan_43 (Or.inr ⟨_, rfl⟩) rfl ?_
      refine tx_getF hX fRX7_48 ly_79 (o := 4) (b := 83) fk_1_6 rfl (by decide) (Nat.lt_of_lt_of_le (by decide) hsz) dX7_plan_44 ?_
      refine ax_aload_n hX dX7_plan_47 (Or.inr ⟨_, rfl⟩) rfl ?_
      refine tx_getF hX fRX7_19 ly_85 (o := 3) (b := 88) fk_7_2 rfl (by decide) (Nat.lt_of_lt_of_le (by decide) hsz) dX7_plan_48 ?_
      refine ax_iload_n hX dX7_plan_51 rfl ?_
      refine ax_iconst hX dX7_plan_52 (v := 1) (by decide) ?_
      refine ax_isub hX dX7_plan_53 ?_
      refine tx_ial hX ly_88 (by decide) (Nat.lt_of_lt_of_le (by decide) hsz) hyp.1 dX7_plan_54 ?_
      replace hyp := hyp.2
      refine tx_ial hX ly_83 (by decide) (Nat.lt_of_lt_of_le (by decide) hsz) hyp.1 dX7_plan_55 ?_
      replace hyp := hyp.2
      refine ax_iload_n hX dX7_plan_56 rfl ?_
      refine ax_icmp_eq hX dX7_plan_57 (tgt := 101) (by decide) (fun c => ?_) (fun c => ?_)
      · replace hyp := hyp.1 c
        refine ax_iinc hX dX7_plan_101 rfl (w := (v2 + (1 : Int32))) rfl (by decide) (L' := [some (.ref 85), some (.ref 79), some (.int (v2 + (1 : Int32))), some (.int (T.1 83 (T.1 88 (v2.toNatClampNeg)).toNatClampNeg))]) rfl ?_
        refine ax_goto hX dX7_plan_104 (tgt := 19) (by decide) ?_
        exact ax_forget (L' := [some (.ref 85), some (.ref 79), some (.int (v2 + (1 : Int32))), none]) (⟨rfl, ⟨rfl, ⟨rfl, trivial⟩⟩⟩) hyp
      · replace hyp := hyp.2 c
        refine ax_aload_n hX dX7_plan_60 (Or.inr ⟨_, rfl⟩) rfl ?_
        refine ax_iload_n hX dX7_plan_61 rfl ?_
        refine ax_if_le hX dX7_plan_62 (tgt := 88) (by decide) (fun c => ?_) (fun c => ?_)
        · replace hyp := hyp.1 c
          refine ax_iconst hX dX7_plan_88 (v := 0) (by decide) ?_
          obtain ⟨Q1, hK, hyp⟩ := hyp
          refine ax_callV hX lRX7_51 im_X7_startDay sl_X7_startDay cw_X7_startDay ((th_at (by decide) (Nat.lt_of_lt_of_le (by decide) hsz)).trans (tc_ob ly_85)) rfl rfl (A := [.int (0 : Int32)]) (st := []) rfl rfl (Nat.le_of_ble_eq_true rfl) (by decide) (by decide) dX7_plan_89 hK ?_
          rintro _ _ ⟨T11, rfl, rfl, hq⟩
          replace hyp := hyp T11 hq
          refine ax_aload_n hX dX7_plan_92 (Or.inr ⟨_, rfl⟩) rfl ?_
          refine ax_aload_n hX dX7_plan_93 (Or.inr ⟨_, rfl⟩) rfl ?_
          refine ax_iload_n hX dX7_plan_94 rfl ?_
          refine ax_iload_n hX dX7_plan_95 rfl ?_
          refine ax_iconst hX dX7_plan_96 (v := 0) (by decide) ?_
          refine ax_lconst hX dX7_plan_97 (v := 0) (by decide) ?_
          obtain ⟨Q1, hK, hyp⟩ := hyp
          refine ax_callV hX lRX7_55 im_X7_giveDay sl_X7_giveDay cw_X7_giveDay ((th_at (by decide) (Nat.lt_of_lt_of_le (by decide) hsz)).trans (tc_ob ly_85)) rfl rfl (A := [.ref 79, .int v2, .int (T.1 83 (T.1 88 (v2.toNatClampNeg)).toNatClampNeg), .int (0 : Int32), .long (0 : Int64)]) (st := []) rfl rfl (Nat.le_of_ble_eq_true rfl) (by decide) (by decide) dX7_plan_98 hK ?_
          rintro _ _ ⟨T12, rfl, rfl, hq⟩
          replace hyp := hyp T12 hq
          refine ax_iinc hX dX7_plan_101 rfl (w := (v2 + (1 : Int32))) rfl (by decide) (L' := [some (.ref 85), some (.ref 79), some (.int (v2 + (1 : Int32))), some (.int (T.1 83 (T.1 88 (v2.toNatClampNeg)).toNatClampNeg))]) rfl ?_
          refine ax_goto hX dX7_plan_104 (tgt := 19) (by decide) ?_
          exact ax_forget (L' := [some (.ref 85), some (.ref 79), some (.int (v2 + (1 : Int32))), none]) (⟨rfl, ⟨rfl, ⟨rfl, trivial⟩⟩⟩) hyp
        · replace hyp := hyp.2 c
          refine ax_aload_n hX dX7_plan_65 (Or.inr ⟨_, rfl⟩) rfl ?_
          refine tx_getF hX fRX7_48 ly_79 (o := 4) (b := 83) fk_1_6 rfl (by decide) (Nat.lt_of_lt_of_le (by decide) hsz) dX7_plan_66 ?_
          refine ax_aload_n hX dX7_plan_69 (Or.inr ⟨_, rfl⟩) rfl ?_
          refine tx_getF hX fRX7_19 ly_85 (o := 3) (b := 88) fk_7_2 rfl (by decide) (Nat.lt_of_lt_of_le (by decide) hsz) dX7_plan_70 ?_
          refine ax_iload_n hX dX7_plan_73 rfl ?_
          refine ax_iconst hX dX7_plan_74 (v := 1) (by decide) ?_
          refine ax_isub hX dX7_plan_75 ?_
          refine tx_ial hX ly_88 (by decide) (Nat.lt_of_lt_of_le (by decide) hsz) hyp.1 dX7_plan_76 ?_
          replace hyp := hyp.2
          refine tx_ial hX ly_83 (by decide) (Nat.lt_of_lt_of_le (by decide) hsz) hyp.1 dX7_plan_77 ?_
          replace hyp := hyp.2
          refine ax_iload_n hX dX7_plan_78 rfl ?_
          refine ax_iconst hX dX7_plan_79 (v := 1) (by decide) ?_
          refine ax_isub hX dX7_plan_80 ?_
          refine ax_icmp_ne hX dX7_plan_81 (tgt := 88) (by decide) (fun c => ?_) (fun c => ?_)
          · replace hyp := hyp.1 c
            refine ax_iconst hX dX7_plan_88 (v := 0) (by decide) ?_
            obtain ⟨Q1, hK, hyp⟩ := hyp
            refine ax_callV hX lRX7_51 im_X7_startDay sl_X7_startDay cw_X7_startDay ((th_at (by decide) (Nat.lt_of_lt_of_le (by decide) hsz)).trans (tc_ob ly_85)) rfl rfl (A := [.int (0 : Int32)]) (st := []) rfl rfl (Nat.le_of_ble_eq_true rfl) (by decide) (by decide) dX7_plan_89 hK ?_
            rintro _ _ ⟨T13, rfl, rfl, hq⟩
            replace hyp := hyp T13 hq
            refine ax_aload_n hX dX7_plan_92 (Or.inr ⟨_, rfl⟩) rfl ?_
            refine ax_aload_n hX dX7_plan_93 (Or.inr ⟨_, rfl⟩) rfl ?_
            refine ax_iload_n hX dX7_plan_94 rfl ?_
            refine ax_iload_n hX dX7_plan_95 rfl ?_
            refine ax_iconst hX dX7_plan_96 (v := 0) (by decide) ?_
            refine ax_lconst hX dX7_plan_97 (v := 0) (by decide) ?_
            obtain ⟨Q1, hK, hyp⟩ := hyp
            refine ax_callV hX lRX7_55 im_X7_giveDay sl_X7_giveDay cw_X7_giveDay ((th_at (by decide) (Nat.lt_of_lt_of_le (by decide) hsz)).trans (tc_ob ly_85)) rfl rfl (A := [.ref 79, .int v2, .int (T.1 83 (T.1 88 (v2.toNatClampNeg)).toNatClampNeg), .int (0 : Int32), .long (0 : Int64)]) (st := []) rfl rfl (Nat.le_of_ble_eq_true rfl) (by decide) (by decide) dX7_plan_98 hK ?_
            rintro _ _ ⟨T14, rfl, rfl, hq⟩
            replace hyp := hyp T14 hq
            refine ax_iinc hX dX7_plan_101 rfl (w := (v2 + (1 : Int32))) rfl (by decide) (L' := [some (.ref 85), some (.ref 79), some (.int (v2 + (1 : Int32))), some (.int (T.1 83 (T.1 88 (v2.toNatClampNeg)).toNatClampNeg))]) rfl ?_
            refine ax_goto hX dX7_plan_104 (tgt := 19) (by decide) ?_
            exact ax_forget (L' := [some (.ref 85), some (.ref 79), some (.int (v2 + (1 : Int32))), none]) (⟨rfl, ⟨rfl, ⟨rfl, trivial⟩⟩⟩) hyp
          · replace hyp := hyp.2 c
            refine ax_iconst hX dX7_plan_84 (v := 1) (by decide) ?_
            refine ax_goto hX dX7_plan_85 (tgt := 89) (by decide) ?_
            obtain ⟨Q1, hK, hyp⟩ := hyp
            refine ax_callV hX lRX7_51 im_X7_startDay sl_X7_startDay cw_X7_startDay ((th_at (by decide) (Nat.lt_of_lt_of_le (by decide) hsz)).trans (tc_ob ly_85)) rfl rfl (A := [.int (1 : Int32)]) (st := []) rfl rfl (Nat.le_of_ble_eq_true rfl) (by decide) (by decide) dX7_plan_89 hK ?_
            rintro _ _ ⟨T15, rfl, rfl, hq⟩
            replace hyp := hyp T15 hq
            refine ax_aload_n hX dX7_plan_92 (Or.inr ⟨_, rfl⟩) rfl ?_
            refine ax_aload_n hX dX7_plan_93 (Or.inr ⟨_, rfl⟩) rfl ?_
            refine ax_iload_n hX dX7_plan_94 rfl ?_
            refine ax_iload_n hX dX7_plan_95 rfl ?_
            refine ax_iconst hX dX7_plan_96 (v := 0) (by decide) ?_
            refine ax_lconst hX dX7_plan_97 (v := 0) (by decide) ?_
            obtain ⟨Q1, hK, hyp⟩ := hyp
            refine ax_callV hX lRX7_55 im_X7_giveDay sl_X7_giveDay cw_X7_giveDay ((th_at (by decide) (Nat.lt_of_lt_of_le (by decide) hsz)).trans (tc_ob ly_85)) rfl rfl (A := [.ref 79, .int v2, .int (T.1 83 (T.1 88 (v2.toNatClampNeg)).toNatClampNeg), .int (0 : Int32), .long (0 : Int64)]) (st := []) rfl rfl (Nat.le_of_ble_eq_true rfl) (by decide) (by decide) dX7_plan_98 hK ?_
            rintro _ _ ⟨T16, rfl, rfl, hq⟩
            replace hyp := hyp T16 hq
            refine ax_iinc hX dX7_plan_101 rfl (w := (v2 + (1 : Int32))) rfl (by decide) (L' := [some (.ref 85), some (.ref 79), some (.int (v2 + (1 : Int32))), some (.int (T.1 83 (T.1 88 (v2.toNatClampNeg)).toNatClampNeg))]) rfl ?_
            refine ax_goto hX dX7_plan_104 (tgt := 19) (by decide) ?_
            exact ax_forget (L' := [some (.ref 85), some (.ref 79), some (.int (v2 + (1 : Int32))), none]) (⟨rfl, ⟨rfl, ⟨rfl, trivial⟩⟩⟩) hyp
set_option maxRecDepth 10000 in
theorem s_X7_savedBetween_0 {X : ax_X} {d L sz : Nat} {T : tT} {Q : Int64 → tT → Prop} (hX : ax_ok X mX7_savedBetween (d + 1)) (hR : ax_Ret X mX7_savedBetween (tl L sz Q)) (hsz : 161 ≤ sz) (x1 : Int32) (x2 : Int32) (hyp : ax_j X 5 [some (.ref 79), some (.int x1), some (.int x2), some (.long (0 : Int64)), none, some (.int (0 : Int32)), none, none, none] [] (th L sz T) 0 0) : ax_j X 0 [some (.ref 79), some (.int x1), some (.int x2), none, none, none, none, none, none] [] (th L sz T) 0 0 := by
  refine ax_lconst hX dX7_savedBetween_0 (v := 0) (by decide) ?_
  refine ax_lstore_n hX dX7_savedBetween_1 (by decide) (L' := [some (.ref 79), some (.int x1), some (.int x2), some (.long (0 : Int64)), none, none, none, none, none]) rfl ?_
  refine ax_iconst hX dX7_savedBetween_2 (v := 0) (by decide) ?_
  refine ax_istore hX dX7_savedBetween_3 (by decide) (L' := [some (.ref 79), some (.int x1), some (.int x2), some (.long (0 : Int64)), none, some (.int (0 : Int32)), none, none, none]) rfl ?_
  exact ax_forget (L' := [some (.ref 79), some (.int x1), some (.int x2), some (.long (0 : Int64)), none, some (.int (0 : Int32)), none, none, none]) (⟨rfl, ⟨rfl, ⟨rfl, ⟨rfl, ⟨rfl, trivial⟩⟩⟩⟩⟩) hyp
set_option maxRecDepth 10000 in
theorem s_X7_savedBetween_5 {X : ax_X} {d L sz : Nat} {T : tT} {Q : Int64 → tT → Prop} (hX : ax_ok X mX7_savedBetween (d + 1)) (hR : ax_Ret X mX7_savedBetween (tl L sz Q)) (hsz : 161 ≤ sz) (v1 : Int32) (v2 : Int32) (v3 : Int64) (v5 : Int32) (hyp : (((T.1 79 1) ≤ v5 → Q (v3 <<< ((27 : Int32).toInt64 &&& 63)) T) ∧ (¬ (T.1 79 1) ≤ v5 → ∃ Q1, tiK d mX7_placeOf [.int v1, .int v5] L sz T Q1 ∧ ∀ (r1 : Int32) (T1 : tT), Q1 r1 T1 → (∃ Q1, tiK d mX7_placeOf [.int v2, .int v5] L sz T1 Q1 ∧ ∀ (r2 : Int32) (T2 : tT), Q1 r2 T2 → (∃ Q1, tiK d mX1_hasCentre [.ref 79, .int (r1 - (1 : Int32))] L sz T2 Q1 ∧ ∀ (r3 : Int32) (T3 : tT), Q1 r3 T3 → (((r3 = 0 → ax_j X 5 [some (.ref 79), some (.int v1), some (.int v2), some (.long v3), none, some (.int (v5 + (1 : Int32))), none, none, none] [] (th L sz T3) 0 0) ∧ (¬ r3 = 0 → ∃ Q1, tiK d mX1_hasCentre [.ref 79, .int (r2 - (1 : Int32))] L sz T3 Q1 ∧ ∀ (r4 : Int32) (T4 : tT), Q1 r4 T4 → (((r4 = 0 → ax_j X 5 [some (.ref 79), some (.int v1), some (.int v2), some (.long v3), none, some (.int (v5 + (1 : Int32))), none, none, none] [] (th L sz T4) 0 0) ∧ (¬ r4 = 0 → vp_in v5 5 ∧ ∃ Q1, tiK d mX1_minutesBetween [.ref 79, .int (r1 - (1 : Int32)), .int (T4.1 80 (v5.toNatClampNeg))] L sz T4 Q1 ∧ ∀ (r5 : Int32) (T5 : tT), Q1 r5 T5 → (∃ Q1, tiK d mX1_minutesBetween [.ref 79, .int (T4.1 80 (v5.toNatClampNeg)), .int (r2 - (1 : Int32))] L sz T5 Q1 ∧ ∀ (r6 : Int32) (T6 : tT), Q1 r6 T6 → (∃ Q1, tiK d mX1_minutesBetween [.ref 79, .int (r1 - (1 : Int32)), .int (r2 - (1 : Int32))] L sz T6 Q1 ∧ ∀ (r7 : Int32) (T7 : tT), Q1 r7 T7 → (ax_j X 5 [some (.ref 79), some (.int v1), some (.int v2), some (.long (v3 + ((r5 + r6) - r7).toInt64)), none, some (.int (v5 + (1 : Int32))), none, none, none] [] (th L sz T7) 0 0)))))))))))))) : ax_j X 5 [some (.ref 79), some (.int v1), some (.int v2), some (.long v3), none, some (.int v5), none, none, none] [] (th L sz T) 0 0 := by
  refine ax_iload hX dX7_savedBetween_5 rfl ?_
  refine ax_aload_n hX dX7_savedBetween_7 (Or.inr ⟨_, rfl⟩) rfl ?_
  refine tx_getI hX fRX7_82 ly_79 fk_1_1 (by decide) (Nat.lt_of_lt_of_le (by decide) hsz) dX7_savedBetween_8 ?_
  refine ax_icmp_ge hX dX7_savedBetween_11 (tgt := 97) (by decide) (fun c => ?_) (fun c => ?_)
  · replace hyp := hyp.1 c
    refine ax_lload_n hX dX7_savedBetween_97 rfl ?_
    refine ax_bipush hX dX7_savedBetween_98 (v := 27) (by decide) ?_
    refine ax_lshl hX dX7_savedBetween_100 ?_
    exact hR.2.1 _ _ _ _ _ _ (by decide) (by decide) dX7_savedBetween_101 rfl ⟨_, _, rfl, rfl, hyp⟩
  · replace hyp := hyp.2 c
    refine ax_iload_n hX dX7_savedBetween_14 rfl ?_
    refine ax_iload hX dX7_savedBetween_15 rfl ?_
    obtain ⟨Q1, hK, hyp⟩ := hyp
    refine ax_callS hX lRX7_85 sm_X7_placeOf cw_X7_placeOf (A := [.int v1, .int v5]) (st := []) rfl rfl (Nat.le_of_ble_eq_true rfl) (by decide) (by decide) dX7_savedBetween_17 hK ?_
    rintro _ _ ⟨r1, T1, rfl, rfl, hq⟩
    replace hyp := hyp r1 T1 hq
    refine ax_iconst hX dX7_savedBetween_20 (v := 1) (by decide) ?_
    refine ax_isub hX dX7_savedBetween_21 ?_
    refine ax_istore hX dX7_savedBetween_22 (by decide) (L' := [some (.ref 79), some (.int v1), some (.int v2), some (.long v3), none, some (.int v5), some (.int (r1 - (1 : Int32))), none, none]) rfl ?_
    refine ax_iload_n hX dX7_savedBetween_24 rfl ?_
    refine ax_iload hX dX7_savedBetween_25 rfl ?_
    obtain ⟨Q1, hK, hyp⟩ := hyp
    refine ax_callS hX lRX7_85 sm_X7_placeOf cw_X7_placeOf (A := [.int v2, .int v5]) (st := []) rfl rfl (Nat.le_of_ble_eq_true rfl) (by decide) (by decide) dX7_savedBetween_27 hK ?_
    rintro _ _ ⟨r2, T2, rfl, rfl, hq⟩
    replace hyp := hyp r2 T2 hq
    refine ax_iconst hX dX7_savedBetween_30 (v := 1) (by decide) ?_
    refine ax_isub hX dX7_savedBetween_31 ?_
    refine ax_istore hX dX7_savedBetween_32 (by decide) (L' := [some (.ref 79), some (.int v1), some (.int v2), some (.long v3), none, some (.int v5), some (.int (r1 - (1 : Int32))), some (.int (r2 - (1 : Int32))), none]) rfl ?_
    refine ax_aload_n hX dX7_savedBetween_34 (Or.inr ⟨_, rfl⟩) rfl ?_
    refine ax_iload hX dX7_savedBetween_35 rfl ?_
    obtain ⟨Q1, hK, hyp⟩ := hyp
    refine ax_callV hX lRX7_106 im_X1_hasCentre sl_X1_hasCentre cw_X1_hasCentre ((th_at (by decide) (Nat.lt_of_lt_of_le (by decide) hsz)).trans (tc_ob ly_79)) rfl rfl (A := [.int (r1 - (1 : Int32))]) (st := []) rfl rfl (Nat.le_of_ble_eq_true rfl) (by decide) (by decide) dX7_savedBetween_37 hK ?_
    rintro _ _ ⟨r3, T3, rfl, rfl, hq⟩
    replace hyp := hyp r3 T3 hq
    refine ax_if_eq hX dX7_savedBetween_40 (tgt := 91) (by decide) (fun c => ?_) (fun c => ?_)
    · replace hyp := hyp.1 c
      refine ax_iinc hX dX7_savedBetween_91 rfl (w := (v5 + (1 : Int32))) rfl (by decide) (L' := [some (.ref 79), some (.int v1), some (.int v2), some (.long v3), none, some (.int (v5 + (1 : Int32))), some (.int (r1 - (1 : Int32))), some (.int (r2 - (1 : Int32))), none]) rfl ?_
      refine ax_goto hX dX7_savedBetween_94 (tgt := 5) (by decide) ?_
      exact ax_forget (L' := [some (.ref 79), some (.int v1), some (.int v2), some (.long v3), none, some (.int (v5 + (1 : Int32))), none, none, none]) (⟨rfl, ⟨rfl, ⟨rfl, ⟨rfl, ⟨rfl, trivial⟩⟩⟩⟩⟩) hyp
    · replace hyp := hyp.2 c
      refine ax_aload_n hX dX7_savedBetween_43 (Or.inr ⟨_, rfl⟩) rfl ?_
      refine ax_iload hX dX7_savedBetween_44 rfl ?_
      obtain ⟨Q1, hK, hyp⟩ := hyp
      refine ax_callV hX lRX7_106 im_X1_hasCentre sl_X1_hasCentre cw_X1_hasCentre ((th_at (by decide) (Nat.lt_of_lt_of_le (by decide) hsz)).trans (tc_ob ly_79)) rfl rfl (A := [.int (r2 - (1 : Int32))]) (st := []) rfl rfl (Nat.le_of_ble_eq_true rfl) (by decide) (by decide) dX7_savedBetween_46 hK ?_
      rintro _ _ ⟨r4, T4, rfl, rfl, hq⟩
      replace hyp := hyp r4 T4 hq
      refine ax_if_eq hX dX7_savedBetween_49 (tgt := 91) (by decide) (fun c => ?_) (fun c => ?_)
      · replace hyp := hyp.1 c
        refine ax_iinc hX dX7_savedBetween_91 rfl (w := (v5 + (1 : Int32))) rfl (by decide) (L' := [some (.ref 79), some (.int v1), some (.int v2), some (.long v3), none, some (.int (v5 + (1 : Int32))), some (.int (r1 - (1 : Int32))), some (.int (r2 - (1 : Int32))), none]) rfl ?_
        refine ax_goto hX dX7_savedBetween_94 (tgt := 5) (by decide) ?_
        exact ax_forget (L' := [some (.ref 79), some (.int v1), some (.int v2), some (.long v3), none, some (.int (v5 + (1 : Int32))), none, none, none]) (⟨rfl, ⟨rfl, ⟨rfl, ⟨rfl, ⟨rfl, trivial⟩⟩⟩⟩⟩) hyp
      · replace hyp := hyp.2 c
        refine ax_aload_n hX dX7_savedBetween_52 (Or.inr ⟨_, rfl⟩) rfl ?_
        refine tx_getF hX fRX7_98 ly_79 (o := 1) (b := 80) fk_1_3 rfl (by decide) (Nat.lt_of_lt_of_le (by decide) hsz) dX7_savedBetween_53 ?_
        refine ax_iload hX dX7_savedBetween_56 rfl ?_
        refine tx_ial hX ly_80 (by decide) (Nat.lt_of_lt_of_le (by decide) hsz) hyp.1 dX7_savedBetween_58 ?_
        replace hyp := hyp.2
        refine ax_istore hX dX7_savedBetween_59 (by decide) (L' := [some (.ref 79), some (.int v1), some (.int v2), some (.long v3), none, some (.int v5), some (.int (r1 - (1 : Int32))), some (.int (r2 - (1 : Int32))), some (.int (T4.1 80 (v5.toNatClampNeg)))]) rfl ?_
        refine ax_lload_n hX dX7_savedBetween_61 rfl ?_
        refine ax_aload_n hX dX7_savedBetween_62 (Or.inr ⟨_, rfl⟩) rfl ?_
        refine ax_iload hX dX7_savedBetween_63 rfl ?_
        refine ax_iload hX dX7_savedBetween_65 rfl ?_
        obtain ⟨Q1, hK, hyp⟩ := hyp
        refine ax_callV hX lRX7_101 im_X1_minutesBetween sl_X1_minutesBetween cw_X1_minutesBetween ((th_at (by decide) (Nat.lt_of_lt_of_le (by decide) hsz)).trans (tc_ob ly_79)) rfl rfl (A := [.int (r1 - (1 : Int32)), .int (T4.1 80 (v5.toNatClampNeg))]) (st := [.long v3]) rfl rfl (Nat.le_of_ble_eq_true rfl) (by decide) (by decide) dX7_savedBetween_67 hK ?_
        rintro _ _ ⟨r5, T5, rfl, rfl, hq⟩
        replace hyp := hyp r5 T5 hq
        refine ax_aload_n hX dX7_savedBetween_70 (Or.inr ⟨_, rfl⟩) rfl ?_
        refine ax_iload hX dX7_savedBetween_71 rfl ?_
        refine ax_iload hX dX7_savedBetween_73 rfl ?_
        obtain ⟨Q1, hK, hyp⟩ := hyp
        refine ax_callV hX lRX7_101 im_X1_minutesBetween sl_X1_minutesBetween cw_X1_minutesBetween ((th_at (by decide) (Nat.lt_of_lt_of_le (by decide) hsz)).trans (tc_ob ly_79)) rfl rfl (A := [.int (T4.1 80 (v5.toNatClampNeg)), .int (r2 - (1 : Int32))]) (st := [.int r5, .long v3]) rfl rfl (Nat.le_of_ble_eq_true rfl) (by decide) (by decide) dX7_savedBetween_75 hK ?_
        rintro _ _ ⟨r6, T6, rfl, rfl, hq⟩
        replace hyp := hyp r6 T6 hq
        refine ax_iadd hX dX7_savedBetween_78 ?_
        refine ax_aload_n hX dX7_savedBetween_79 (Or.inr ⟨_, rfl⟩) rfl ?_
        refine ax_iload hX dX7_savedBetween_80 rfl ?_
        refine ax_iload hX dX7_savedBetween_82 rfl ?_
        obtain ⟨Q1, hK, hyp⟩ := hyp
        refine ax_callV hX lRX7_101 im_X1_minutesBetween sl_X1_minutesBetween cw_X1_minutesBetween ((th_at (by decide) (Nat.lt_of_lt_of_le (by decide) hsz)).trans (tc_ob ly_79)) rfl rfl (A := [.int (r1 - (1 : Int32)), .int (r2 - (1 : Int32))]) (st := [.int (r5 + r6), .long v3]) rfl rfl (Nat.le_of_ble_eq_true rfl) (by decide) (by decide) dX7_savedBetween_84 hK ?_
        rintro _ _ ⟨r7, T7, rfl, rfl, hq⟩
        replace hyp := hyp r7 T7 hq
        refine ax_isub hX dX7_savedBetween_87 ?_
        refine ax_i2l hX dX7_savedBetween_88 ?_
        refine ax_ladd hX dX7_savedBetween_89 ?_
        refine ax_lstore_n hX dX7_savedBetween_90 (by decide) (L' := [some (.ref 79), some (.int v1), some (.int v2), some (.long (v3 + ((r5 + r6) - r7).toInt64)), none, some (.int v5), some (.int (r1 - (1 : Int32))), some (.int (r2 - (1 : Int32))), some (.int (T4.1 80 (v5.toNatClampNeg)))]) rfl ?_
        refine ax_iinc hX dX7_savedBetween_91 rfl (w := (v5 + (1 : Int32))) rfl (by decide) (L' := [some (.ref 79), some (.int v1), some (.int v2), some (.long (v3 + ((r5 + r6) - r7).toInt64)), none, some (.int (v5 + (1 : Int32))), some (.int (r1 - (1 : Int32))), some (.int (r2 - (1 : Int32))), some (.int (T4.1 80 (v5.toNatClampNeg)))]) rfl ?_
        refine ax_goto hX dX7_savedBetween_94 (tgt := 5) (by decide) ?_
        exact ax_forget (L' := [some (.ref 79), some (.int v1), some (.int v2), some (.long (v3 + ((r5 + r6) - r7).toInt64)), none, some (.int (v5 + (1 : Int32))), none, none, none]) (⟨rfl, ⟨rfl, ⟨rfl, ⟨rfl, ⟨rfl, trivial⟩⟩⟩⟩⟩) hyp
set_option maxRecDepth 10000 in
theorem s_X7_sendAllHome_0 {X : ax_X} {d L sz : Nat} {T : tT} {Q : tT → Prop} (hX : ax_ok X mX7_sendAllHome (d + 1)) (hR : ax_Ret X mX7_sendAllHome (tv L sz Q)) (hsz : 161 ≤ sz)  (hyp : ax_j X 2 [some (.ref 85), some (.int (1 : Int32))] [] (th L sz T) 0 0) : ax_j X 0 [some (.ref 85), none] [] (th L sz T) 0 0 := by
  refine ax_iconst hX dX7_sendAllHome_0 (v := 1) (by decide) ?_
  refine ax_istore_n hX dX7_sendAllHome_1 (by decide) (L' := [some (.ref 85), some (.int (1 : Int32))]) rfl ?_
  exact ax_forget (L' := [some (.ref 85), some (.int (1 : Int32))]) (⟨rfl, ⟨rfl, trivial⟩⟩) hyp
set_option maxRecDepth 10000 in
theorem s_X7_sendAllHome_2 {X : ax_X} {d L sz : Nat} {T : tT} {Q : tT → Prop} (hX : ax_ok X mX7_sendAllHome (d + 1)) (hR : ax_Ret X mX7_sendAllHome (tv L sz Q)) (hsz : 161 ≤ sz) (v1 : Int32) (hyp : (((T.1 85 3) ≤ v1 → (((T.2.2 85 5) = none → False) ∧ (∀ p1, (T.2.2 85 5) = some p1 → tar sz p1 0 120 ∧ vp_in (0 : Int32) 120 ∧ Q (tI (tI T p1 ((0 : Int32).toNatClampNeg) (0 : Int32)) 85 3 (if (1 : Int32) < ((tI T p1 ((0 : Int32).toNatClampNeg) (0 : Int32)).1 85 3) then (1 : Int32) else ((tI T p1 ((0 : Int32).toNatClampNeg) (0 : Int32)).1 85 3)))))) ∧ (¬ (T.1 85 3) ≤ v1 → (((T.2.2 85 7) = none → False) ∧ (∀ p2, (T.2.2 85 7) = some p2 → tar sz p2 1 120 ∧ vp_in (0 : Int32) 120 ∧ vp_in v1 120 ∧ vp_in (0 : Int32) 120 ∧ ax_j X 2 [some (.ref 85), some (.int (v1 + (1 : Int32)))] [] (th L sz (tJ T p2 ((0 : Int32).toNatClampNeg) (if (T.2.1 p2 (v1.toNatClampNeg)) < (T.2.1 p2 (0 : Int32).toNatClampNeg) then (T.2.1 p2 (v1.toNatClampNeg)) else (T.2.1 p2 (0 : Int32).toNatClampNeg)))) 0 0))))) : ax_j X 2 [some (.ref 85), some (.int v1)] [] (th L sz T) 0 0 := by
  refine ax_iload_n hX dX7_sendAllHome_2 rfl ?_
  refine ax_aload_n hX dX7_sendAllHome_3 (Or.inr ⟨_, rfl⟩) rfl ?_
  refine tx_getI hX fRX7_39 ly_85 fk_7_3 (by decide) (Nat.lt_of_lt_of_le (by decide) hsz) dX7_sendAllHome_4 ?_
  refine ax_icmp_ge hX dX7_sendAllHome_7 (tgt := 37) (by decide) (fun c => ?_) (fun c => ?_)
  · replace hyp := hyp.1 c
    refine ax_aload_n hX dX7_sendAllHome_37 (Or.inr ⟨_, rfl⟩) rfl ?_
    rcases ho1 : (T.2.2 85 5) with _ | p1
    · replace hyp := hyp.1 ho1
      refine tx_getP hX fRX7_22 ly_85 fk_7_5 (by decide) (Nat.lt_of_lt_of_le (by decide) hsz) (v := .null) (congrArg va_rf ho1) dX7_sendAllHome_38 ?_
      refine ax_iconst hX dX7_sendAllHome_41 (v := 0) (by decide) ?_
      refine ax_iconst hX dX7_sendAllHome_42 (v := 0) (by decide) ?_
      exact hyp.elim
    · obtain ⟨h_p1, hyp⟩ := hyp.2 p1 ho1
      refine tx_getP hX fRX7_22 ly_85 fk_7_5 (by decide) (Nat.lt_of_lt_of_le (by decide) hsz) (v := .ref p1) (congrArg va_rf ho1) dX7_sendAllHome_38 ?_
      refine ax_iconst hX dX7_sendAllHome_41 (v := 0) (by decide) ?_
      refine ax_iconst hX dX7_sendAllHome_42 (v := 0) (by decide) ?_
      refine tx_ias hX h_p1.ly h_p1.ge h_p1.lt hyp.1 dX7_sendAllHome_43 ?_
      replace hyp := hyp.2
      refine ax_aload_n hX dX7_sendAllHome_44 (Or.inr ⟨_, rfl⟩) rfl ?_
      refine ax_aload_n hX dX7_sendAllHome_45 (Or.inr ⟨_, rfl⟩) rfl ?_
      refine tx_getI hX fRX7_39 ly_85 fk_7_3 (by decide) (Nat.lt_of_lt_of_le (by decide) hsz) dX7_sendAllHome_46 ?_
      refine ax_iconst hX dX7_sendAllHome_49 (v := 1) (by decide) ?_
      refine ax_mmin hX mlRX7_75 (Nat.le_of_ble_eq_true rfl) (by decide) (by decide) dX7_sendAllHome_50 ?_
      refine tx_putI hX fRX7_39 ly_85 fk_7_3 (by decide) (Nat.lt_of_lt_of_le (by decide) hsz) rfl rfl dX7_sendAllHome_53 ?_
      exact hR.2.2.2 _ _ _ _ _ (by decide) (by decide) dX7_sendAllHome_56 rfl ⟨_, rfl, rfl, hyp⟩
  · replace hyp := hyp.2 c
    refine ax_aload_n hX dX7_sendAllHome_10 (Or.inr ⟨_, rfl⟩) rfl ?_
    rcases ho2 : (T.2.2 85 7) with _ | p2
    · replace hyp := hyp.1 ho2
      refine tx_getP hX fRX7_28 ly_85 fk_7_7 (by decide) (Nat.lt_of_lt_of_le (by decide) hsz) (v := .null) (congrArg va_rf ho2) dX7_sendAllHome_11 ?_
      refine ax_iconst hX dX7_sendAllHome_14 (v := 0) (by decide) ?_
      refine ax_aload_n hX dX7_sendAllHome_15 (Or.inr ⟨_, rfl⟩) rfl ?_
      refine tx_getP hX fRX7_28 ly_85 fk_7_7 (by decide) (Nat.lt_of_lt_of_le (by decide) hsz) (v := .null) (congrArg va_rf ho2) dX7_sendAllHome_16 ?_
      refine ax_iconst hX dX7_sendAllHome_19 (v := 0) (by decide) ?_
      exact hyp.elim
    · obtain ⟨h_p2, hyp⟩ := hyp.2 p2 ho2
      refine tx_getP hX fRX7_28 ly_85 fk_7_7 (by decide) (Nat.lt_of_lt_of_le (by decide) hsz) (v := .ref p2) (congrArg va_rf ho2) dX7_sendAllHome_11 ?_
      refine ax_iconst hX dX7_sendAllHome_14 (v := 0) (by decide) ?_
      refine ax_aload_n hX dX7_sendAllHome_15 (Or.inr ⟨_, rfl⟩) rfl ?_
      refine tx_getP hX fRX7_28 ly_85 fk_7_7 (by decide) (Nat.lt_of_lt_of_le (by decide) hsz) (v := .ref p2) (congrArg va_rf ho2) dX7_sendAllHome_16 ?_
      refine ax_iconst hX dX7_sendAllHome_19 (v := 0) (by decide) ?_
      refine tx_lal hX h_p2.ly h_p2.ne h_p2.lt hyp.1 dX7_sendAllHome_20 ?_
      replace hyp := hyp.2
      refine ax_aload_n hX dX7_sendAllHome_21 (Or.inr ⟨_, rfl⟩) rfl ?_
      refine tx_getP hX fRX7_28 ly_85 fk_7_7 (by decide) (Nat.lt_of_lt_of_le (by decide) hsz) (v := .ref p2) (congrArg va_rf ho2) dX7_sendAllHome_22 ?_
      refine ax_iload_n hX dX7_sendAllHome_25 rfl ?_
      refine tx_lal hX h_p2.ly h_p2.ne h_p2.lt hyp.1 dX7_sendAllHome_26 ?_
      replace hyp := hyp.2
      refine ax_mminl hX mlRX7_69 (Nat.le_of_ble_eq_true rfl) (by decide) (by decide) dX7_sendAllHome_27 ?_
      refine tx_las hX h_p2.ly h_p2.ge h_p2.lt hyp.1 dX7_sendAllHome_30 ?_
      replace hyp := hyp.2
      refine ax_iinc hX dX7_sendAllHome_31 rfl (w := (v1 + (1 : Int32))) rfl (by decide) (L' := [some (.ref 85), some (.int (v1 + (1 : Int32)))]) rfl ?_
      refine ax_goto hX dX7_sendAllHome_34 (tgt := 2) (by decide) ?_
      exact ax_forget (L' := [some (.ref 85), some (.int (v1 + (1 : Int32)))]) (⟨rfl, ⟨rfl, trivial⟩⟩) hyp
set_option maxRecDepth 10000 in
theorem s_X7_startDay_0 {X : ax_X} {d L sz : Nat} {T : tT} {Q : tT → Prop} (hX : ax_ok X mX7_startDay (d + 1)) (hR : ax_Ret X mX7_startDay (tv L sz Q)) (hsz : 161 ≤ sz) (x0 : Int32) (hyp : ((¬ x0 = 0 → (((T.2.2 85 6) = none → (((T.2.2 85 8) = none → (((T.2.2 85 5) = none → False) ∧ (∀ p3, (T.2.2 85 5) = some p3 → tar sz p3 0 120 ∧ (((T.2.2 85 7) = none → False) ∧ (∀ p4, (T.2.2 85 7) = some p4 → tar sz p4 1 120 ∧ False))))) ∧ (∀ p2, (T.2.2 85 8) = some p2 → tar sz p2 1 120 ∧ (((T.2.2 85 5) = none → False) ∧ (∀ p5, (T.2.2 85 5) = some p5 → tar sz p5 0 120 ∧ (((T.2.2 85 7) = none → False) ∧ (∀ p6, (T.2.2 85 7) = some p6 → tar sz p6 1 120 ∧ False))))))) ∧ (∀ p1, (T.2.2 85 6) = some p1 → tar sz p1 0 120 ∧ (((T.2.2 85 8) = none → (((T.2.2 85 5) = none → False) ∧ (∀ p8, (T.2.2 85 5) = some p8 → tar sz p8 0 120 ∧ (((T.2.2 85 7) = none → False) ∧ (∀ p9, (T.2.2 85 7) = some p9 → tar sz p9 1 120 ∧ False))))) ∧ (∀ p7, (T.2.2 85 8) = some p7 → tar sz p7 1 120 ∧ (((T.2.2 85 5) = none → False) ∧ (∀ p10, (T.2.2 85 5) = some p10 → tar sz p10 0 120 ∧ (((T.2.2 85 7) = none → False) ∧ (∀ p11, (T.2.2 85 7) = some p11 → tar sz p11 1 120 ∧ Q (tI (tP (tP (tI (tP (tP T 85 6 (some p10)) 85 8 (some p11)) 85 4 (T.1 85 3)) 85 5 (some p1)) 85 7 (some p7)) 85 3 (0 : Int32))))))))))) ∧ (x0 = 0 → ∃ Q1, tvK d mX7_sendAllHome [.ref 85] L sz T Q1 ∧ ∀ (T12 : tT), Q1 T12 → ((((T12.2.2 85 6) = none → (((T12.2.2 85 8) = none → (((T12.2.2 85 5) = none → False) ∧ (∀ p15, (T12.2.2 85 5) = some p15 → tar sz p15 0 120 ∧ (((T12.2.2 85 7) = none → False) ∧ (∀ p16, (T12.2.2 85 7) = some p16 → tar sz p16 1 120 ∧ False))))) ∧ (∀ p14, (T12.2.2 85 8) = some p14 → tar sz p14 1 120 ∧ (((T12.2.2 85 5) = none → False) ∧ (∀ p17, (T12.2.2 85 5) = some p17 → tar sz p17 0 120 ∧ (((T12.2.2 85 7) = none → False) ∧ (∀ p18, (T12.2.2 85 7) = some p18 → tar sz p18 1 120 ∧ False))))))) ∧ (∀ p13, (T12.2.2 85 6) = some p13 → tar sz p13 0 120 ∧ (((T12.2.2 85 8) = none → (((T12.2.2 85 5) = none → False) ∧ (∀ p20, (T12.2.2 85 5) = some p20 → tar sz p20 0 120 ∧ (((T12.2.2 85 7) = none → False) ∧ (∀ p21, (T12.2.2 85 7) = some p21 → tar sz p21 1 120 ∧ False))))) ∧ (∀ p19, (T12.2.2 85 8) = some p19 → tar sz p19 1 120 ∧ (((T12.2.2 85 5) = none → False) ∧ (∀ p22, (T12.2.2 85 5) = some p22 → tar sz p22 0 120 ∧ (((T12.2.2 85 7) = none → False) ∧ (∀ p23, (T12.2.2 85 7) = some p23 → tar sz p23 1 120 ∧ Q (tI (tP (tP (tI (tP (tP T12 85 6 (some p22)) 85 8 (some p23)) 85 4 (T12.1 85 3)) 85 5 (some p13)) 85 7 (some p19)) 85 3 (0 : Int32)))))))))))))) : ax_j X 0 [some (.ref 85), some (.int x0), none, none] [] (th L sz T) 0 0 := by
  refine ax_iload_n hX dX7_startDay_0 rfl ?_
  refine ax_if_ne hX dX7_startDay_1 (tgt := 8) (by decide) (fun c => ?_) (fun c => ?_)
  · replace hyp := hyp.1 c
    refine ax_aload_n hX dX7_startDay_8 (Or.inr ⟨_, rfl⟩) rfl ?_
    rcases ho1 : (T.2.2 85 6) with _ | p1
    · replace hyp := hyp.1 ho1
      refine tx_getP hX fRX7_25 ly_85 fk_7_6 (by decide) (Nat.lt_of_lt_of_le (by decide) hsz) (v := .null) (congrArg va_rf ho1) dX7_startDay_9 ?_
      refine ax_astore_n hX dX7_startDay_12 (Or.inl rfl) (by decide) (L' := [some (.ref 85), some (.int x0), some (.null), none]) rfl ?_
      refine ax_aload_n hX dX7_startDay_13 (Or.inr ⟨_, rfl⟩) rfl ?_
      rcases ho2 : (T.2.2 85 8) with _ | p2
      · replace hyp := hyp.1 ho2
        refine tx_getP hX fRX7_32 ly_85 fk_7_8 (by decide) (Nat.lt_of_lt_of_le (by decide) hsz) (v := .null) (congrArg va_rf ho2) dX7_startDay_14 ?_
        refine ax_astore_n hX dX7_startDay_17 (Or.inl rfl) (by decide) (L' := [some (.ref 85), some (.int x0), some (.null), some (.null)]) rfl ?_
        refine ax_aload_n hX dX7_startDay_18 (Or.inr ⟨_, rfl⟩) rfl ?_
        refine ax_aload_n hX dX7_startDay_19 (Or.inr ⟨_, rfl⟩) rfl ?_
        rcases ho3 : (T.2.2 85 5) with _ | p3
        · replace hyp := hyp.1 ho3
          refine tx_getP hX fRX7_22 ly_85 fk_7_5 (by decide) (Nat.lt_of_lt_of_le (by decide) hsz) (v := .null) (congrArg va_rf ho3) dX7_startDay_20 ?_
          exact hyp.elim
        · obtain ⟨h_p3, hyp⟩ := hyp.2 p3 ho3
          refine tx_getP hX fRX7_22 ly_85 fk_7_5 (by decide) (Nat.lt_of_lt_of_le (by decide) hsz) (v := .ref p3) (congrArg va_rf ho3) dX7_startDay_20 ?_
          refine tx_putP hX fRX7_25 ly_85 fk_7_6 (by decide) (Nat.lt_of_lt_of_le (by decide) hsz) rfl rfl dX7_startDay_23 ?_
          refine ax_aload_n hX dX7_startDay_26 (Or.inr ⟨_, rfl⟩) rfl ?_
          refine ax_aload_n hX dX7_startDay_27 (Or.inr ⟨_, rfl⟩) rfl ?_
          rcases ho4 : (T.2.2 85 7) with _ | p4
          · replace hyp := hyp.1 ho4
            refine tx_getP hX fRX7_28 ly_85 fk_7_7 (by decide) (Nat.lt_of_lt_of_le (by decide) hsz) (v := .null) (congrArg va_rf ho4) dX7_startDay_28 ?_
            exact hyp.elim
          · obtain ⟨h_p4, hyp⟩ := hyp.2 p4 ho4
            refine tx_getP hX fRX7_28 ly_85 fk_7_7 (by decide) (Nat.lt_of_lt_of_le (by decide) hsz) (v := .ref p4) (congrArg va_rf ho4) dX7_startDay_28 ?_
            refine tx_putP hX fRX7_32 ly_85 fk_7_8 (by decide) (Nat.lt_of_lt_of_le (by decide) hsz) rfl rfl dX7_startDay_31 ?_
            refine ax_aload_n hX dX7_startDay_34 (Or.inr ⟨_, rfl⟩) rfl ?_
            refine ax_aload_n hX dX7_startDay_35 (Or.inr ⟨_, rfl⟩) rfl ?_
            refine tx_getI hX fRX7_39 ly_85 fk_7_3 (by decide) (Nat.lt_of_lt_of_le (by decide) hsz) dX7_startDay_36 ?_
            refine tx_putI hX fRX7_66 ly_85 fk_7_4 (by decide) (Nat.lt_of_lt_of_le (by decide) hsz) rfl rfl dX7_startDay_39 ?_
            refine ax_aload_n hX dX7_startDay_42 (Or.inr ⟨_, rfl⟩) rfl ?_
            refine ax_aload_n hX dX7_startDay_43 (Or.inl rfl) rfl ?_
            exact hyp.elim
      · obtain ⟨h_p2, hyp⟩ := hyp.2 p2 ho2
        refine tx_getP hX fRX7_32 ly_85 fk_7_8 (by decide) (Nat.lt_of_lt_of_le (by decide) hsz) (v := .ref p2) (congrArg va_rf ho2) dX7_startDay_14 ?_
        refine ax_astore_n hX dX7_startDay_17 (Or.inr ⟨_, rfl⟩) (by decide) (L' := [some (.ref 85), some (.int x0), some (.null), some (.ref p2)]) rfl ?_
        refine ax_aload_n hX dX7_startDay_18 (Or.inr ⟨_, rfl⟩) rfl ?_
        refine ax_aload_n hX dX7_startDay_19 (Or.inr ⟨_, rfl⟩) rfl ?_
        rcases ho5 : (T.2.2 85 5) with _ | p5
        · replace hyp := hyp.1 ho5
          refine tx_getP hX fRX7_22 ly_85 fk_7_5 (by decide) (Nat.lt_of_lt_of_le (by decide) hsz) (v := .null) (congrArg va_rf ho5) dX7_startDay_20 ?_
          exact hyp.elim
        · obtain ⟨h_p5, hyp⟩ := hyp.2 p5 ho5
          refine tx_getP hX fRX7_22 ly_85 fk_7_5 (by decide) (Nat.lt_of_lt_of_le (by decide) hsz) (v := .ref p5) (congrArg va_rf ho5) dX7_startDay_20 ?_
          refine tx_putP hX fRX7_25 ly_85 fk_7_6 (by decide) (Nat.lt_of_lt_of_le (by decide) hsz) rfl rfl dX7_startDay_23 ?_
          refine ax_aload_n hX dX7_startDay_26 (Or.inr ⟨_, rfl⟩) rfl ?_
          refine ax_aload_n hX dX7_startDay_27 (Or.inr ⟨_, rfl⟩) rfl ?_
          rcases ho6 : (T.2.2 85 7) with _ | p6
          · replace hyp := hyp.1 ho6
            refine tx_getP hX fRX7_28 ly_85 fk_7_7 (by decide) (Nat.lt_of_lt_of_le (by decide) hsz) (v := .null) (congrArg va_rf ho6) dX7_startDay_28 ?_
            exact hyp.elim
          · obtain ⟨h_p6, hyp⟩ := hyp.2 p6 ho6
            refine tx_getP hX fRX7_28 ly_85 fk_7_7 (by decide) (Nat.lt_of_lt_of_le (by decide) hsz) (v := .ref p6) (congrArg va_rf ho6) dX7_startDay_28 ?_
            refine tx_putP hX fRX7_32 ly_85 fk_7_8 (by decide) (Nat.lt_of_lt_of_le (by decide) hsz) rfl rfl dX7_startDay_31 ?_
            refine ax_aload_n hX dX7_startDay_34 (Or.inr ⟨_, rfl⟩) rfl ?_
            refine ax_aload_n hX dX7_startDay_35 (Or.inr ⟨_, rfl⟩) rfl ?_
            refine tx_getI hX fRX7_39 ly_85 fk_7_3 (by decide) (Nat.lt_of_lt_of_le (by decide) hsz) dX7_startDay_36 ?_
            refine tx_putI hX fRX7_66 ly_85 fk_7_4 (by decide) (Nat.lt_of_lt_of_le (by decide) hsz) rfl rfl dX7_startDay_39 ?_
            refine ax_aload_n hX dX7_startDay_42 (Or.inr ⟨_, rfl⟩) rfl ?_
            refine ax_aload_n hX dX7_startDay_43 (Or.inl rfl) rfl ?_
            exact hyp.elim
    · obtain ⟨h_p1, hyp⟩ := hyp.2 p1 ho1
      refine tx_getP hX fRX7_25 ly_85 fk_7_6 (by decide) (Nat.lt_of_lt_of_le (by decide) hsz) (v := .ref p1) (congrArg va_rf ho1) dX7_startDay_9 ?_
      refine ax_astore_n hX dX7_startDay_12 (Or.inr ⟨_, rfl⟩) (by decide) (L' := [some (.ref 85), some (.int x0), some (.ref p1), none]) rfl ?_
      refine ax_aload_n hX dX7_startDay_13 (Or.inr ⟨_, rfl⟩) rfl ?_
      rcases ho7 : (T.2.2 85 8) with _ | p7
      · replace hyp := hyp.1 ho7
        refine tx_getP hX fRX7_32 ly_85 fk_7_8 (by decide) (Nat.lt_of_lt_of_le (by decide) hsz) (v := .null) (congrArg va_rf ho7) dX7_startDay_14 ?_
        refine ax_astore_n hX dX7_startDay_17 (Or.inl rfl) (by decide) (L' := [some (.ref 85), some (.int x0), some (.ref p1), some (.null)]) rfl ?_
        refine ax_aload_n hX dX7_startDay_18 (Or.inr ⟨_, rfl⟩) rfl ?_
        refine ax_aload_n hX dX7_startDay_19 (Or.inr ⟨_, rfl⟩) rfl ?_
        rcases ho8 : (T.2.2 85 5) with _ | p8
        · replace hyp := hyp.1 ho8
          refine tx_getP hX fRX7_22 ly_85 fk_7_5 (by decide) (Nat.lt_of_lt_of_le (by decide) hsz) (v := .null) (congrArg va_rf ho8) dX7_startDay_20 ?_
          exact hyp.elim
        · obtain ⟨h_p8, hyp⟩ := hyp.2 p8 ho8
          refine tx_getP hX fRX7_22 ly_85 fk_7_5 (by decide) (Nat.lt_of_lt_of_le (by decide) hsz) (v := .ref p8) (congrArg va_rf ho8) dX7_startDay_20 ?_
          refine tx_putP hX fRX7_25 ly_85 fk_7_6 (by decide) (Nat.lt_of_lt_of_le (by decide) hsz) rfl rfl dX7_startDay_23 ?_
          refine ax_aload_n hX dX7_startDay_26 (Or.inr ⟨_, rfl⟩) rfl ?_
          refine ax_aload_n hX dX7_startDay_27 (Or.inr ⟨_, rfl⟩) rfl ?_
          rcases ho9 : (T.2.2 85 7) with _ | p9
          · replace hyp := hyp.1 ho9
            refine tx_getP hX fRX7_28 ly_85 fk_7_7 (by decide) (Nat.lt_of_lt_of_le (by decide) hsz) (v := .null) (congrArg va_rf ho9) dX7_startDay_28 ?_
            exact hyp.elim
          · obtain ⟨h_p9, hyp⟩ := hyp.2 p9 ho9
            refine tx_getP hX fRX7_28 ly_85 fk_7_7 (by decide) (Nat.lt_of_lt_of_le (by decide) hsz) (v := .ref p9) (congrArg va_rf ho9) dX7_startDay_28 ?_
            refine tx_putP hX fRX7_32 ly_85 fk_7_8 (by decide) (Nat.lt_of_lt_of_le (by decide) hsz) rfl rfl dX7_startDay_31 ?_
            refine ax_aload_n hX dX7_startDay_34 (Or.inr ⟨_, rfl⟩) rfl ?_
            refine ax_aload_n hX dX7_startDay_35 (Or.inr ⟨_, rfl⟩) rfl ?_
            refine tx_getI hX fRX7_39 ly_85 fk_7_3 (by decide) (Nat.lt_of_lt_of_le (by decide) hsz) dX7_startDay_36 ?_
            refine tx_putI hX fRX7_66 ly_85 fk_7_4 (by decide) (Nat.lt_of_lt_of_le (by decide) hsz) rfl rfl dX7_startDay_39 ?_
            refine ax_aload_n hX dX7_startDay_42 (Or.inr ⟨_, rfl⟩) rfl ?_
            refine ax_aload_n hX dX7_startDay_43 (Or.inr ⟨_, rfl⟩) rfl ?_
            refine tx_putP hX fRX7_22 ly_85 fk_7_5 (by decide) (Nat.lt_of_lt_of_le (by decide) hsz) rfl rfl dX7_startDay_44 ?_
            refine ax_aload_n hX dX7_startDay_47 (Or.inr ⟨_, rfl⟩) rfl ?_
            refine ax_aload_n hX dX7_startDay_48 (Or.inl rfl) rfl ?_
            exact hyp.elim
      · obtain ⟨h_p7, hyp⟩ := hyp.2 p7 ho7
        refine tx_getP hX fRX7_32 ly_85 fk_7_8 (by decide) (Nat.lt_of_lt_of_le (by decide) hsz) (v := .ref p7) (congrArg va_rf ho7) dX7_startDay_14 ?_
        refine ax_astore_n hX dX7_startDay_17 (Or.inr ⟨_, rfl⟩) (by decide) (L' := [some (.ref 85), some (.int x0), some (.ref p1), some (.ref p7)]) rfl ?_
        refine ax_aload_n hX dX7_startDay_18 (Or.inr ⟨_, rfl⟩) rfl ?_
        refine ax_aload_n hX dX7_startDay_19 (Or.inr ⟨_, rfl⟩) rfl ?_
        rcases ho10 : (T.2.2 85 5) with _ | p10
        · replace hyp := hyp.1 ho10
          refine tx_getP hX fRX7_22 ly_85 fk_7_5 (by decide) (Nat.lt_of_lt_of_le (by decide) hsz) (v := .null) (congrArg va_rf ho10) dX7_startDay_20 ?_
          exact hyp.elim
        · obtain ⟨h_p10, hyp⟩ := hyp.2 p10 ho10
          refine tx_getP hX fRX7_22 ly_85 fk_7_5 (by decide) (Nat.lt_of_lt_of_le (by decide) hsz) (v := .ref p10) (congrArg va_rf ho10) dX7_startDay_20 ?_
          refine tx_putP hX fRX7_25 ly_85 fk_7_6 (by decide) (Nat.lt_of_lt_of_le (by decide) hsz) rfl rfl dX7_startDay_23 ?_
          refine ax_aload_n hX dX7_startDay_26 (Or.inr ⟨_, rfl⟩) rfl ?_
          refine ax_aload_n hX dX7_startDay_27 (Or.inr ⟨_, rfl⟩) rfl ?_
          rcases ho11 : (T.2.2 85 7) with _ | p11
          · replace hyp := hyp.1 ho11
            refine tx_getP hX fRX7_28 ly_85 fk_7_7 (by decide) (Nat.lt_of_lt_of_le (by decide) hsz) (v := .null) (congrArg va_rf ho11) dX7_startDay_28 ?_
            exact hyp.elim
          · obtain ⟨h_p11, hyp⟩ := hyp.2 p11 ho11
            refine tx_getP hX fRX7_28 ly_85 fk_7_7 (by decide) (Nat.lt_of_lt_of_le (by decide) hsz) (v := .ref p11) (congrArg va_rf ho11) dX7_startDay_28 ?_
            refine tx_putP hX fRX7_32 ly_85 fk_7_8 (by decide) (Nat.lt_of_lt_of_le (by decide) hsz) rfl rfl dX7_startDay_31 ?_
            refine ax_aload_n hX dX7_startDay_34 (Or.inr ⟨_, rfl⟩) rfl ?_
            refine ax_aload_n hX dX7_startDay_35 (Or.inr ⟨_, rfl⟩) rfl ?_
            refine tx_getI hX fRX7_39 ly_85 fk_7_3 (by decide) (Nat.lt_of_lt_of_le (by decide) hsz) dX7_startDay_36 ?_
            refine tx_putI hX fRX7_66 ly_85 fk_7_4 (by decide) (Nat.lt_of_lt_of_le (by decide) hsz) rfl rfl dX7_startDay_39 ?_
            refine ax_aload_n hX dX7_startDay_42 (Or.inr ⟨_, rfl⟩) rfl ?_
            refine ax_aload_n hX dX7_startDay_43 (Or.inr ⟨_, rfl⟩) rfl ?_
            refine tx_putP hX fRX7_22 ly_85 fk_7_5 (by decide) (Nat.lt_of_lt_of_le (by decide) hsz) rfl rfl dX7_startDay_44 ?_
            refine ax_aload_n hX dX7_startDay_47 (Or.inr ⟨_, rfl⟩) rfl ?_
            refine ax_aload_n hX dX7_startDay_48 (Or.inr ⟨_, rfl⟩) rfl ?_
            refine tx_putP hX fRX7_28 ly_85 fk_7_7 (by decide) (Nat.lt_of_lt_of_le (by decide) hsz) rfl rfl dX7_startDay_49 ?_
            refine ax_aload_n hX dX7_startDay_52 (Or.inr ⟨_, rfl⟩) rfl ?_
            refine ax_iconst hX dX7_startDay_53 (v := 0) (by decide) ?_
            refine tx_putI hX fRX7_39 ly_85 fk_7_3 (by decide) (Nat.lt_of_lt_of_le (by decide) hsz) rfl rfl dX7_startDay_54 ?_
            exact hR.2.2.2 _ _ _ _ _ (by decide) (by decide) dX7_startDay_57 rfl ⟨_, rfl, rfl, hyp⟩
  · replace hyp := hyp.2 c
    refine ax_aload_n hX dX7_startDay_4 (Or.inr ⟨_, rfl⟩) rfl ?_
    obtain ⟨Q1, hK, hyp⟩ := hyp
    refine ax_callV hX lRX7_59 im_X7_sendAllHome sl_X7_sendAllHome cw_X7_sendAllHome ((th_at (by decide) (Nat.lt_of_lt_of_le (by decide) hsz)).trans (tc_ob ly_85)) rfl rfl (A := []) (st := []) rfl rfl (Nat.le_of_ble_eq_true rfl) (by decide) (by decide) dX7_startDay_5 hK ?_
    rintro _ _ ⟨T12, rfl, rfl, hq⟩
    replace hyp := hyp T12 hq
    refine ax_aload_n hX dX7_startDay_8 (Or.inr ⟨_, rfl⟩) rfl ?_
    rcases ho13 : (T12.2.2 85 6) with _ | p13
    · replace hyp := hyp.1 ho13
      refine tx_getP hX fRX7_25 ly_85 fk_7_6 (by decide) (Nat.lt_of_lt_of_le (by decide) hsz) (v := .null) (congrArg va_rf ho13) dX7_startDay_9 ?_
      refine ax_astore_n hX dX7_startDay_12 (Or.inl rfl) (by decide) (L' := [some (.ref 85), some (.int x0), some (.null), none]) rfl ?_
      refine ax_aload_n hX dX7_startDay_13 (Or.inr ⟨_, rfl⟩) rfl ?_
      rcases ho14 : (T12.2.2 85 8) with _ | p14
      · replace hyp := hyp.1 ho14
        refine tx_getP hX fRX7_32 ly_85 fk_7_8 (by decide) (Nat.lt_of_lt_of_le (by decide) hsz) (v := .null) (congrArg va_rf ho14) dX7_startDay_14 ?_
        refine ax_astore_n hX dX7_startDay_17 (Or.inl rfl) (by decide) (L' := [some (.ref 85), some (.int x0), some (.null), some (.null)]) rfl ?_
        refine ax_aload_n hX dX7_startDay_18 (Or.inr ⟨_, rfl⟩) rfl ?_
        refine ax_aload_n hX dX7_startDay_19 (Or.inr ⟨_, rfl⟩) rfl ?_
        rcases ho15 : (T12.2.2 85 5) with _ | p15
        · replace hyp := hyp.1 ho15
          refine tx_getP hX fRX7_22 ly_85 fk_7_5 (by decide) (Nat.lt_of_lt_of_le (by decide) hsz) (v := .null) (congrArg va_rf ho15) dX7_startDay_20 ?_
          exact hyp.elim
        · obtain ⟨h_p15, hyp⟩ := hyp.2 p15 ho15
          refine tx_getP hX fRX7_22 ly_85 fk_7_5 (by decide) (Nat.lt_of_lt_of_le (by decide) hsz) (v := .ref p15) (congrArg va_rf ho15) dX7_startDay_20 ?_
          refine tx_putP hX fRX7_25 ly_85 fk_7_6 (by decide) (Nat.lt_of_lt_of_le (by decide) hsz) rfl rfl dX7_startDay_23 ?_
          refine ax_aload_n hX dX7_startDay_26 (Or.inr ⟨_, rfl⟩) rfl ?_
          refine ax_aload_n hX dX7_startDay_27 (Or.inr ⟨_, rfl⟩) rfl ?_
          rcases ho16 : (T12.2.2 85 7) with _ | p16
          · replace hyp := hyp.1 ho16
            refine tx_getP hX fRX7_28 ly_85 fk_7_7 (by decide) (Nat.lt_of_lt_of_le (by decide) hsz) (v := .null) (congrArg va_rf ho16) dX7_startDay_28 ?_
            exact hyp.elim
          · obtain ⟨h_p16, hyp⟩ := hyp.2 p16 ho16
            refine tx_getP hX fRX7_28 ly_85 fk_7_7 (by decide) (Nat.lt_of_lt_of_le (by decide) hsz) (v := .ref p16) (congrArg va_rf ho16) dX7_startDay_28 ?_
            refine tx_putP hX fRX7_32 ly_85 fk_7_8 (by decide) (Nat.lt_of_lt_of_le (by decide) hsz) rfl rfl dX7_startDay_31 ?_
            refine ax_aload_n hX dX7_startDay_34 (Or.inr ⟨_, rfl⟩) rfl ?_
            refine ax_aload_n hX dX7_startDay_35 (Or.inr ⟨_, rfl⟩) rfl ?_
            refine tx_getI hX fRX7_39 ly_85 fk_7_3 (by decide) (Nat.lt_of_lt_of_le (by decide) hsz) dX7_startDay_36 ?_
            refine tx_putI hX fRX7_66 ly_85 fk_7_4 (by decide) (Nat.lt_of_lt_of_le (by decide) hsz) rfl rfl dX7_startDay_39 ?_
            refine ax_aload_n hX dX7_startDay_42 (Or.inr ⟨_, rfl⟩) rfl ?_
            refine ax_aload_n hX dX7_startDay_43 (Or.inl rfl) rfl ?_
            exact hyp.elim
      · obtain ⟨h_p14, hyp⟩ := hyp.2 p14 ho14
        refine tx_getP hX fRX7_32 ly_85 fk_7_8 (by decide) (Nat.lt_of_lt_of_le (by decide) hsz) (v := .ref p14) (congrArg va_rf ho14) dX7_startDay_14 ?_
        refine ax_astore_n hX dX7_startDay_17 (Or.inr ⟨_, rfl⟩) (by decide) (L' := [some (.ref 85), some (.int x0), some (.null), some (.ref p14)]) rfl ?_
        refine ax_aload_n hX dX7_startDay_18 (Or.inr ⟨_, rfl⟩) rfl ?_
        refine ax_aload_n hX dX7_startDay_19 (Or.inr ⟨_, rfl⟩) rfl ?_
        rcases ho17 : (T12.2.2 85 5) with _ | p17
        · replace hyp := hyp.1 ho17
          refine tx_getP hX fRX7_22 ly_85 fk_7_5 (by decide) (Nat.lt_of_lt_of_le (by decide) hsz) (v := .null) (congrArg va_rf ho17) dX7_startDay_20 ?_
          exact hyp.elim
        · obtain ⟨h_p17, hyp⟩ := hyp.2 p17 ho17
          refine tx_getP hX fRX7_22 ly_85 fk_7_5 (by decide) (Nat.lt_of_lt_of_le (by decide) hsz) (v := .ref p17) (congrArg va_rf ho17) dX7_startDay_20 ?_
          refine tx_putP hX fRX7_25 ly_85 fk_7_6 (by decide) (Nat.lt_of_lt_of_le (by decide) hsz) rfl rfl dX7_startDay_23 ?_
          refine ax_aload_n hX dX7_startDay_26 (Or.inr ⟨_, rfl⟩) rfl ?_
          refine ax_aload_n hX dX7_startDay_27 (Or.inr ⟨_, rfl⟩) rfl ?_
          rcases ho18 : (T12.2.2 85 7) with _ | p18
          · replace hyp := hyp.1 ho18
            refine tx_getP hX fRX7_28 ly_85 fk_7_7 (by decide) (Nat.lt_of_lt_of_le (by decide) hsz) (v := .null) (congrArg va_rf ho18) dX7_startDay_28 ?_
            exact hyp.elim
          · obtain ⟨h_p18, hyp⟩ := hyp.2 p18 ho18
            refine tx_getP hX fRX7_28 ly_85 fk_7_7 (by decide) (Nat.lt_of_lt_of_le (by decide) hsz) (v := .ref p18) (congrArg va_rf ho18) dX7_startDay_28 ?_
            refine tx_putP hX fRX7_32 ly_85 fk_7_8 (by decide) (Nat.lt_of_lt_of_le (by decide) hsz) rfl rfl dX7_startDay_31 ?_
            refine ax_aload_n hX dX7_startDay_34 (Or.inr ⟨_, rfl⟩) rfl ?_
            refine ax_aload_n hX dX7_startDay_35 (Or.inr ⟨_, rfl⟩) rfl ?_
            refine tx_getI hX fRX7_39 ly_85 fk_7_3 (by decide) (Nat.lt_of_lt_of_le (by decide) hsz) dX7_startDay_36 ?_
            refine tx_putI hX fRX7_66 ly_85 fk_7_4 (by decide) (Nat.lt_of_lt_of_le (by decide) hsz) rfl rfl dX7_startDay_39 ?_
            refine ax_aload_n hX dX7_startDay_42 (Or.inr ⟨_, rfl⟩) rfl ?_
            refine ax_aload_n hX dX7_startDay_43 (Or.inl rfl) rfl ?_
            exact hyp.elim
    · obtain ⟨h_p13, hyp⟩ := hyp.2 p13 ho13
      refine tx_getP hX fRX7_25 ly_85 fk_7_6 (by decide) (Nat.lt_of_lt_of_le (by decide) hsz) (v := .ref p13) (congrArg va_rf ho13) dX7_startDay_9 ?_
      refine ax_astore_n hX dX7_startDay_12 (Or.inr ⟨_, rfl⟩) (by decide) (L' := [some (.ref 85), some (.int x0), some (.ref p13), none]) rfl ?_
      refine ax_aload_n hX dX7_startDay_13 (Or.inr ⟨_, rfl⟩) rfl ?_
      rcases ho19 : (T12.2.2 85 8) with _ | p19
      · replace hyp := hyp.1 ho19
        refine tx_getP hX fRX7_32 ly_85 fk_7_8 (by decide) (Nat.lt_of_lt_of_le (by decide) hsz) (v := .null) (congrArg va_rf ho19) dX7_startDay_14 ?_
        refine ax_astore_n hX dX7_startDay_17 (Or.inl rfl) (by decide) (L' := [some (.ref 85), some (.int x0), some (.ref p13), some (.null)]) rfl ?_
        refine ax_aload_n hX dX7_startDay_18 (Or.inr ⟨_, rfl⟩) rfl ?_
        refine ax_aload_n hX dX7_startDay_19 (Or.inr ⟨_, rfl⟩) rfl ?_
        rcases ho20 : (T12.2.2 85 5) with _ | p20
        · replace hyp := hyp.1 ho20
          refine tx_getP hX fRX7_22 ly_85 fk_7_5 (by decide) (Nat.lt_of_lt_of_le (by decide) hsz) (v := .null) (congrArg va_rf ho20) dX7_startDay_20 ?_
          exact hyp.elim
        · obtain ⟨h_p20, hyp⟩ := hyp.2 p20 ho20
          refine tx_getP hX fRX7_22 ly_85 fk_7_5 (by decide) (Nat.lt_of_lt_of_le (by decide) hsz) (v := .ref p20) (congrArg va_rf ho20) dX7_startDay_20 ?_
          refine tx_putP hX fRX7_25 ly_85 fk_7_6 (by decide) (Nat.lt_of_lt_of_le (by decide) hsz) rfl rfl dX7_startDay_23 ?_
          refine ax_aload_n hX dX7_startDay_26 (Or.inr ⟨_, rfl⟩) rfl ?_
          refine ax_aload_n hX dX7_startDay_27 (Or.inr ⟨_, rfl⟩) rfl ?_
          rcases ho21 : (T12.2.2 85 7) with _ | p21
          · replace hyp := hyp.1 ho21
            refine tx_getP hX fRX7_28 ly_85 fk_7_7 (by decide) (Nat.lt_of_lt_of_le (by decide) hsz) (v := .null) (congrArg va_rf ho21) dX7_startDay_28 ?_
            exact hyp.elim
          · obtain ⟨h_p21, hyp⟩ := hyp.2 p21 ho21
            refine tx_getP hX fRX7_28 ly_85 fk_7_7 (by decide) (Nat.lt_of_lt_of_le (by decide) hsz) (v := .ref p21) (congrArg va_rf ho21) dX7_startDay_28 ?_
            refine tx_putP hX fRX7_32 ly_85 fk_7_8 (by decide) (Nat.lt_of_lt_of_le (by decide) hsz) rfl rfl dX7_startDay_31 ?_
            refine ax_aload_n hX dX7_startDay_34 (Or.inr ⟨_, rfl⟩) rfl ?_
            refine ax_aload_n hX dX7_startDay_35 (Or.inr ⟨_, rfl⟩) rfl ?_
            refine tx_getI hX fRX7_39 ly_85 fk_7_3 (by decide) (Nat.lt_of_lt_of_le (by decide) hsz) dX7_startDay_36 ?_
            refine tx_putI hX fRX7_66 ly_85 fk_7_4 (by decide) (Nat.lt_of_lt_of_le (by decide) hsz) rfl rfl dX7_startDay_39 ?_
            refine ax_aload_n hX dX7_startDay_42 (Or.inr ⟨_, rfl⟩) rfl ?_
            refine ax_aload_n hX dX7_startDay_43 (Or.inr ⟨_, rfl⟩) rfl ?_
            refine tx_putP hX fRX7_22 ly_85 fk_7_5 (by decide) (Nat.lt_of_lt_of_le (by decide) hsz) rfl rfl dX7_startDay_44 ?_
            refine ax_aload_n hX dX7_startDay_47 (Or.inr ⟨_, rfl⟩) rfl ?_
            refine ax_aload_n hX dX7_startDay_48 (Or.inl rfl) rfl ?_
            exact hyp.elim
      · obtain ⟨h_p19, hyp⟩ := hyp.2 p19 ho19
        refine tx_getP hX fRX7_32 ly_85 fk_7_8 (by decide) (Nat.lt_of_lt_of_le (by decide) hsz) (v := .ref p19) (congrArg va_rf ho19) dX7_startDay_14 ?_
        refine ax_astore_n hX dX7_startDay_17 (Or.inr ⟨_, rfl⟩) (by decide) (L' := [some (.ref 85), some (.int x0), some (.ref p13), some (.ref p19)]) rfl ?_
        refine ax_aload_n hX dX7_startDay_18 (Or.inr ⟨_, rfl⟩) rfl ?_
        refine ax_aload_n hX dX7_startDay_19 (Or.inr ⟨_, rfl⟩) rfl ?_
        rcases ho22 : (T12.2.2 85 5) with _ | p22
        · replace hyp := hyp.1 ho22
          refine tx_getP hX fRX7_22 ly_85 fk_7_5 (by decide) (Nat.lt_of_lt_of_le (by decide) hsz) (v := .null) (congrArg va_rf ho22) dX7_startDay_20 ?_
          exact hyp.elim
        · obtain ⟨h_p22, hyp⟩ := hyp.2 p22 ho22
          refine tx_getP hX fRX7_22 ly_85 fk_7_5 (by decide) (Nat.lt_of_lt_of_le (by decide) hsz) (v := .ref p22) (congrArg va_rf ho22) dX7_startDay_20 ?_
          refine tx_putP hX fRX7_25 ly_85 fk_7_6 (by decide) (Nat.lt_of_lt_of_le (by decide) hsz) rfl rfl dX7_startDay_23 ?_
          refine ax_aload_n hX dX7_startDay_26 (Or.inr ⟨_, rfl⟩) rfl ?_
          refine ax_aload_n hX dX7_startDay_27 (Or.inr ⟨_, rfl⟩) rfl ?_
          rcases ho23 : (T12.2.2 85 7) with _ | p23
          · replace hyp := hyp.1 ho23
            refine tx_getP hX fRX7_28 ly_85 fk_7_7 (by decide) (Nat.lt_of_lt_of_le (by decide) hsz) (v := .null) (congrArg va_rf ho23) dX7_startDay_28 ?_
            exact hyp.elim
          · obtain ⟨h_p23, hyp⟩ := hyp.2 p23 ho23
            refine tx_getP hX fRX7_28 ly_85 fk_7_7 (by decide) (Nat.lt_of_lt_of_le (by decide) hsz) (v := .ref p23) (congrArg va_rf ho23) dX7_startDay_28 ?_
            refine tx_putP hX fRX7_32 ly_85 fk_7_8 (by decide) (Nat.lt_of_lt_of_le (by decide) hsz) rfl rfl dX7_startDay_31 ?_
            refine ax_aload_n hX dX7_startDay_34 (Or.inr ⟨_, rfl⟩) rfl ?_
            refine ax_aload_n hX dX7_startDay_35 (Or.inr ⟨_, rfl⟩) rfl ?_
            refine tx_getI hX fRX7_39 ly_85 fk_7_3 (by decide) (Nat.lt_of_lt_of_le (by decide) hsz) dX7_startDay_36 ?_
            refine tx_putI hX fRX7_66 ly_85 fk_7_4 (by decide) (Nat.lt_of_lt_of_le (by decide) hsz) rfl rfl dX7_startDay_39 ?_
            refine ax_aload_n hX dX7_startDay_42 (Or.inr ⟨_, rfl⟩) rfl ?_
            refine ax_aload_n hX dX7_startDay_43 (Or.inr ⟨_, rfl⟩) rfl ?_
            refine tx_putP hX fRX7_22 ly_85 fk_7_5 (by decide) (Nat.lt_of_lt_of_le (by decide) hsz) rfl rfl dX7_startDay_44 ?_
            refine ax_aload_n hX dX7_startDay_47 (Or.inr ⟨_, rfl⟩) rfl ?_
            refine ax_aload_n hX dX7_startDay_48 (Or.inr ⟨_, rfl⟩) rfl ?_
            refine tx_putP hX fRX7_28 ly_85 fk_7_7 (by decide) (Nat.lt_of_lt_of_le (by decide) hsz) rfl rfl dX7_startDay_49 ?_
            refine ax_aload_n hX dX7_startDay_52 (Or.inr ⟨_, rfl⟩) rfl ?_
            refine ax_iconst hX dX7_startDay_53 (v := 0) (by decide) ?_
            refine tx_putI hX fRX7_39 ly_85 fk_7_3 (by decide) (Nat.lt_of_lt_of_le (by decide) hsz) rfl rfl dX7_startDay_54 ?_
            exact hR.2.2.2 _ _ _ _ _ (by decide) (by decide) dX7_startDay_57 rfl ⟨_, rfl, rfl, hyp⟩
set_option maxRecDepth 10000 in
theorem s_X8_addCell_0 {X : ax_X} {d L sz : Nat} {T : tT} {Q : tT → Prop} (hX : ax_ok X mX8_addCell d) (hR : ax_Ret X mX8_addCell (tv L sz Q)) (hsz : 161 ≤ sz) {p : Nat} (h_p : tsy sz p) (x0 : Int32) (x1 : Int32) (hyp : (((750 : Int32) ≤ (T.1 p 3) → Q T) ∧ (¬ (750 : Int32) ≤ (T.1 p 3) → vp_in (T.1 p 3) 750 ∧ Q (tI (tI T (p + 2) ((T.1 p 3).toNatClampNeg) ((x0 <<< ((20 : Int32) &&& 31)) ||| x1)) p 3 (((tI T (p + 2) ((T.1 p 3).toNatClampNeg) ((x0 <<< ((20 : Int32) &&& 31)) ||| x1)).1 p 3) + (1 : Int32)))))) : ax_j X 0 [some (.ref p), some (.int x0), some (.int x1)] [] (th L sz T) 0 0 := by
  refine ax_aload_n hX dX8_addCell_0 (Or.inr ⟨_, rfl⟩) rfl ?_
  refine tx_getI hX fRX8_26 h_p.ly0 fk_8_3 (h_p.ne 0 (by decide)) (h_p.lt 0 (by decide)) dX8_addCell_1 ?_
  refine ax_sipush hX dX8_addCell_4 (v := 750) (by decide) ?_
  refine ax_icmp_ge hX dX8_addCell_7 (tgt := 35) (by decide) (fun c => ?_) (fun c => ?_)
  · replace hyp := hyp.1 c
    exact hR.2.2.2 _ _ _ _ _ (by decide) (by decide) dX8_addCell_35 rfl ⟨_, rfl, rfl, hyp⟩
  · replace hyp := hyp.2 c
    refine ax_aload_n hX dX8_addCell_10 (Or.inr ⟨_, rfl⟩) rfl ?_
    refine tx_getF hX fRX8_17 h_p.ly0 (o := 2) (b := (p + 2)) fk_8_1 rfl (h_p.ne 0 (by decide)) (h_p.lt 0 (by decide)) dX8_addCell_11 ?_
    refine ax_aload_n hX dX8_addCell_14 (Or.inr ⟨_, rfl⟩) rfl ?_
    refine tx_getI hX fRX8_26 h_p.ly0 fk_8_3 (h_p.ne 0 (by decide)) (h_p.lt 0 (by decide)) dX8_addCell_15 ?_
    refine ax_iload_n hX dX8_addCell_18 rfl ?_
    refine ax_bipush hX dX8_addCell_19 (v := 20) (by decide) ?_
    refine ax_ishl hX dX8_addCell_21 ?_
    refine ax_iload_n hX dX8_addCell_22 rfl ?_
    refine ax_ior hX dX8_addCell_23 ?_
    refine tx_ias hX h_p.ly2 (h_p.ge 2) (h_p.lt 2 (by decide)) hyp.1 dX8_addCell_24 ?_
    replace hyp := hyp.2
    refine ax_aload_n hX dX8_addCell_25 (Or.inr ⟨_, rfl⟩) rfl ?_
    refine ax_dup hX dX8_addCell_26 rfl ?_
    refine tx_getI hX fRX8_26 h_p.ly0 fk_8_3 (h_p.ne 0 (by decide)) (h_p.lt 0 (by decide)) dX8_addCell_27 ?_
    refine ax_iconst hX dX8_addCell_30 (v := 1) (by decide) ?_
    refine ax_iadd hX dX8_addCell_31 ?_
    refine tx_putI hX fRX8_26 h_p.ly0 fk_8_3 (h_p.ge 0) (h_p.lt 0 (by decide)) rfl rfl dX8_addCell_32 ?_
    exact hR.2.2.2 _ _ _ _ _ (by decide) (by decide) dX8_addCell_35 rfl ⟨_, rfl, rfl, hyp⟩
set_option maxRecDepth 10000 in
theorem s_X8_clear_0 {X : ax_X} {d L sz : Nat} {T : tT} {Q : tT → Prop} (hX : ax_ok X mX8_clear (d + 1)) (hR : ax_Ret X mX8_clear (tv L sz Q)) (hsz : 161 ≤ sz) {p : Nat} (h_p : tsy sz p)  (hyp : ax_j X 12 [some (.ref p), some (.int (0 : Int32))] [] (th L sz (tI (tI T p 2 (0 : Int32)) p 3 (0 : Int32))) 0 0) : ax_j X 0 [some (.ref p), none] [] (th L sz T) 0 0 := by
  refine ax_aload_n hX dX8_clear_0 (Or.inr ⟨_, rfl⟩) rfl ?_
  refine ax_iconst hX dX8_clear_1 (v := 0) (by decide) ?_
  refine tx_putI hX fRX8_22 h_p.ly0 fk_8_2 (h_p.ge 0) (h_p.lt 0 (by decide)) rfl rfl dX8_clear_2 ?_
  refine ax_aload_n hX dX8_clear_5 (Or.inr ⟨_, rfl⟩) rfl ?_
  refine ax_iconst hX dX8_clear_6 (v := 0) (by decide) ?_
  refine tx_putI hX fRX8_26 h_p.ly0 fk_8_3 (h_p.ge 0) (h_p.lt 0 (by decide)) rfl rfl dX8_clear_7 ?_
  refine ax_iconst hX dX8_clear_10 (v := 0) (by decide) ?_
  refine ax_istore_n hX dX8_clear_11 (by decide) (L' := [some (.ref p), some (.int (0 : Int32))]) rfl ?_
  exact ax_forget (L' := [some (.ref p), some (.int (0 : Int32))]) (⟨rfl, ⟨rfl, trivial⟩⟩) hyp
set_option maxRecDepth 10000 in
theorem s_X8_clear_12 {X : ax_X} {d L sz : Nat} {T : tT} {Q : tT → Prop} (hX : ax_ok X mX8_clear (d + 1)) (hR : ax_Ret X mX8_clear (tv L sz Q)) (hsz : 161 ≤ sz) {p : Nat} (h_p : tsy sz p) (v1 : Int32) (hyp : (((8 : Int32) ≤ v1 → Q T) ∧ (¬ (8 : Int32) ≤ v1 → vp_in v1 8 ∧ (((T.2.2 (p + 1) (v1.toNatClampNeg)) = none → False) ∧ (∀ p1, (T.2.2 (p + 1) (v1.toNatClampNeg)) = some p1 → tgr sz p1 ∧ ∃ Q1, tvK d mX3_clear [.ref p1] L sz T Q1 ∧ ∀ (T2 : tT), Q1 T2 → (ax_j X 12 [some (.ref p), some (.int (v1 + (1 : Int32)))] [] (th L sz T2) 0 0)))))) : ax_j X 12 [some (.ref p), some (.int v1)] [] (th L sz T) 0 0 := by
  refine ax_iload_n hX dX8_clear_12 rfl ?_
  refine ax_bipush hX dX8_clear_13 (v := 8) (by decide) ?_
  refine ax_icmp_ge hX dX8_clear_15 (tgt := 33) (by decide) (fun c => ?_) (fun c => ?_)
  · replace hyp := hyp.1 c
    exact hR.2.2.2 _ _ _ _ _ (by decide) (by decide) dX8_clear_33 rfl ⟨_, rfl, rfl, hyp⟩
  · replace hyp := hyp.2 c
    refine ax_aload_n hX dX8_clear_18 (Or.inr ⟨_, rfl⟩) rfl ?_
    refine tx_getF hX fRX8_11 h_p.ly0 (o := 1) (b := (p + 1)) fk_8_0 rfl (h_p.ne 0 (by decide)) (h_p.lt 0 (by decide)) dX8_clear_19 ?_
    refine ax_iload_n hX dX8_clear_22 rfl ?_
    have hin := hyp.1
    replace hyp := hyp.2
    rcases ho1 : (T.2.2 (p + 1) (v1.toNatClampNeg)) with _ | p1
    · replace hyp := hyp.1 ho1
      refine tx_aal hX h_p.ly1 (by decide) (h_p.ne 1 (by decide)) (h_p.lt 1 (by decide)) hin (v := .null) (congrArg va_rf ho1) dX8_clear_23 ?_
      exact hyp.elim
    · obtain ⟨h_p1, hyp⟩ := hyp.2 p1 ho1
      refine tx_aal hX h_p.ly1 (by decide) (h_p.ne 1 (by decide)) (h_p.lt 1 (by decide)) hin (v := .ref p1) (congrArg va_rf ho1) dX8_clear_23 ?_
      obtain ⟨Q1, hK, hyp⟩ := hyp
      refine ax_callV hX lRX8_29 im_X3_clear sl_X3_clear cw_X3_clear ((th_at (h_p1.ne 0 (by decide)) (h_p1.lt 0 (by decide))).trans (tc_ob h_p1.ly0)) rfl rfl (A := []) (st := []) rfl rfl (Nat.le_of_ble_eq_true rfl) (by decide) (by decide) dX8_clear_24 hK ?_
      rintro _ _ ⟨T2, rfl, rfl, hq⟩
      replace hyp := hyp T2 hq
      refine ax_iinc hX dX8_clear_27 rfl (w := (v1 + (1 : Int32))) rfl (by decide) (L' := [some (.ref p), some (.int (v1 + (1 : Int32)))]) rfl ?_
      refine ax_goto hX dX8_clear_30 (tgt := 12) (by decide) ?_
      exact ax_forget (L' := [some (.ref p), some (.int (v1 + (1 : Int32)))]) (⟨rfl, ⟨rfl, trivial⟩⟩) hyp
set_option maxRecDepth 10000 in
theorem s_X8_find_0 {X : ax_X} {d L sz : Nat} {T : tT} {Q : Option Nat → tT → Prop} (hX : ax_ok X mX8_find d) (hR : ax_Ret X mX8_find (to L sz Q)) (hsz : 161 ≤ sz) {p : Nat} (h_p : tsy sz p) (x0 : Int32) (hyp : ((x0 < (1 : Int32) → Q none T) ∧ (¬ x0 < (1 : Int32) → (((8 : Int32) < x0 → Q none T) ∧ (¬ (8 : Int32) < x0 → vp_in (x0 - (1 : Int32)) 8 ∧ (((T.2.2 (p + 1) (x0 - (1 : Int32)).toNatClampNeg) = none → False) ∧ (∀ p1, (T.2.2 (p + 1) (x0 - (1 : Int32)).toNatClampNeg) = some p1 → tgr sz p1 ∧ (((T.1 p1 0) = 0 → Q none T) ∧ (¬ (T.1 p1 0) = 0 → vp_in (x0 - (1 : Int32)) 8 ∧ Q (some p1) T))))))))) : ax_j X 0 [some (.ref p), some (.int x0), none] [] (th L sz T) 0 0 := by
  refine ax_iload_n hX dX8_find_0 rfl ?_
  refine ax_iconst hX dX8_find_1 (v := 1) (by decide) ?_
  refine ax_icmp_lt hX dX8_find_2 (tgt := 29) (by decide) (fun c => ?_) (fun c => ?_)
  · replace hyp := hyp.1 c
    refine ax_iconst hX dX8_find_29 (v := 0) (by decide) ?_
    refine ax_istore_n hX dX8_find_30 (by decide) (L' := [some (.ref p), some (.int x0), some (.int (0 : Int32))]) rfl ?_
    refine ax_iload_n hX dX8_find_31 rfl ?_
    refine ax_if_eq hX dX8_find_32 (tgt := 46) (by decide) (fun c => ?_) (fun c => ?_)
    rotate_left
    · exact absurd c (by decide)
    refine ax_null hX dX8_find_46 ?_
    exact hR.2.2.1 _ _ _ _ _ _ (by decide) (by decide) dX8_find_47 ⟨_, rfl⟩ (Or.inl rfl) ⟨none, _, rfl, rfl, hyp⟩
  · replace hyp := hyp.2 c
    refine ax_iload_n hX dX8_find_5 rfl ?_
    refine ax_bipush hX dX8_find_6 (v := 8) (by decide) ?_
    refine ax_icmp_gt hX dX8_find_8 (tgt := 29) (by decide) (fun c => ?_) (fun c => ?_)
    · replace hyp := hyp.1 c
      refine ax_iconst hX dX8_find_29 (v := 0) (by decide) ?_
      refine ax_istore_n hX dX8_find_30 (by decide) (L' := [some (.ref p), some (.int x0), some (.int (0 : Int32))]) rfl ?_
      refine ax_iload_n hX dX8_find_31 rfl ?_
      refine ax_if_eq hX dX8_find_32 (tgt := 46) (by decide) (fun c => ?_) (fun c => ?_)
      rotate_left
      · exact absurd c (by decide)
      refine ax_null hX dX8_find_46 ?_
      exact hR.2.2.1 _ _ _ _ _ _ (by decide) (by decide) dX8_find_47 ⟨_, rfl⟩ (Or.inl rfl) ⟨none, _, rfl, rfl, hyp⟩
    · replace hyp := hyp.2 c
      refine ax_aload_n hX dX8_find_11 (Or.inr ⟨_, rfl⟩) rfl ?_
      refine tx_getF hX fRX8_11 h_p.ly0 (o := 1) (b := (p + 1)) fk_8_0 rfl (h_p.ne 0 (by decide)) (h_p.lt 0 (by decide)) dX8_find_12 ?_
      refine ax_iload_n hX dX8_find_15 rfl ?_
      refine ax_iconst hX dX8_find_16 (v := 1) (by decide) ?_
      refine ax_isub hX dX8_find_17 ?_
      have hin := hyp.1
      replace hyp := hyp.2
      rcases ho1 : (T.2.2 (p + 1) (x0 - (1 : Int32)).toNatClampNeg) with _ | p1
      · replace hyp := hyp.1 ho1
        refine tx_aal hX h_p.ly1 (by decide) (h_p.ne 1 (by decide)) (h_p.lt 1 (by decide)) hin (v := .null) (congrArg va_rf ho1) dX8_find_18 ?_
        exact hyp.elim
      · obtain ⟨h_p1, hyp⟩ := hyp.2 p1 ho1
        refine tx_aal hX h_p.ly1 (by decide) (h_p.ne 1 (by decide)) (h_p.lt 1 (by decide)) hin (v := .ref p1) (congrArg va_rf ho1) dX8_find_18 ?_
        refine tx_getI hX fRX8_32 h_p1.ly0 fk_3_0 (h_p1.ne 0 (by decide)) (h_p1.lt 0 (by decide)) dX8_find_19 ?_
        refine ax_if_eq hX dX8_find_22 (tgt := 29) (by decide) (fun c => ?_) (fun c => ?_)
        · replace hyp := hyp.1 c
          refine ax_iconst hX dX8_find_29 (v := 0) (by decide) ?_
          refine ax_istore_n hX dX8_find_30 (by decide) (L' := [some (.ref p), some (.int x0), some (.int (0 : Int32))]) rfl ?_
          refine ax_iload_n hX dX8_find_31 rfl ?_
          refine ax_if_eq hX dX8_find_32 (tgt := 46) (by decide) (fun c => ?_) (fun c => ?_)
          rotate_left
          · exact absurd c (by decide)
          refine ax_null hX dX8_find_46 ?_
          exact hR.2.2.1 _ _ _ _ _ _ (by decide) (by decide) dX8_find_47 ⟨_, rfl⟩ (Or.inl rfl) ⟨none, _, rfl, rfl, hyp⟩
        · replace hyp := hyp.2 c
          refine ax_iconst hX dX8_find_25 (v := 1) (by decide) ?_
          refine ax_goto hX dX8_find_26 (tgt := 30) (by decide) ?_
          refine ax_istore_n hX dX8_find_30 (by decide) (L' := [some (.ref p), some (.int x0), some (.int (1 : Int32))]) rfl ?_
          refine ax_iload_n hX dX8_find_31 rfl ?_
          refine ax_if_eq hX dX8_find_32 (tgt := 46) (by decide) (fun c => ?_) (fun c => ?_)
          · exact absurd c (by decide)
          refine ax_aload_n hX dX8_find_35 (Or.inr ⟨_, rfl⟩) rfl ?_
          refine tx_getF hX fRX8_11 h_p.ly0 (o := 1) (b := (p + 1)) fk_8_0 rfl (h_p.ne 0 (by decide)) (h_p.lt 0 (by decide)) dX8_find_36 ?_
          refine ax_iload_n hX dX8_find_39 rfl ?_
          refine ax_iconst hX dX8_find_40 (v := 1) (by decide) ?_
          refine ax_isub hX dX8_find_41 ?_
          have hin := hyp.1
          replace hyp := hyp.2
          refine tx_aal hX h_p.ly1 (by decide) (h_p.ne 1 (by decide)) (h_p.lt 1 (by decide)) hin (v := .ref p1) (congrArg va_rf ho1) dX8_find_42 ?_
          refine ax_goto hX dX8_find_43 (tgt := 47) (by decide) ?_
          exact hR.2.2.1 _ _ _ _ _ _ (by decide) (by decide) dX8_find_47 ⟨_, rfl⟩ (Or.inr ⟨_, rfl⟩) ⟨(some p1), _, rfl, rfl, hyp⟩
set_option maxRecDepth 10000 in
theorem s_X8_open_0 {X : ax_X} {d L sz : Nat} {T : tT} {Q : Option Nat → tT → Prop} (hX : ax_ok X mX8_open d) (hR : ax_Ret X mX8_open (to L sz Q)) (hsz : 161 ≤ sz) {p : Nat} (h_p : tsy sz p) (x0 : Int32) (hyp : ((x0 < (1 : Int32) → Q none T) ∧ (¬ x0 < (1 : Int32) → ((x0 ≤ (8 : Int32) → vp_in (x0 - (1 : Int32)) 8 ∧ (((T.2.2 (p + 1) (x0 - (1 : Int32)).toNatClampNeg) = none → False) ∧ (∀ p1, (T.2.2 (p + 1) (x0 - (1 : Int32)).toNatClampNeg) = some p1 → tgr sz p1 ∧ vp_in (x0 - (1 : Int32)) 8 ∧ Q (some p1) (tI (tI T p1 0 (1 : Int32)) p 2 (((tI T p1 0 (1 : Int32)).1 p 2) + (1 : Int32)))))) ∧ (¬ x0 ≤ (8 : Int32) → Q none T))))) : ax_j X 0 [some (.ref p), some (.int x0)] [] (th L sz T) 0 0 := by
  refine ax_iload_n hX dX8_open_0 rfl ?_
  refine ax_iconst hX dX8_open_1 (v := 1) (by decide) ?_
  refine ax_icmp_lt hX dX8_open_2 (tgt := 11) (by decide) (fun c => ?_) (fun c => ?_)
  · replace hyp := hyp.1 c
    refine ax_null hX dX8_open_11 ?_
    exact hR.2.2.1 _ _ _ _ _ _ (by decide) (by decide) dX8_open_12 ⟨_, rfl⟩ (Or.inl rfl) ⟨none, _, rfl, rfl, hyp⟩
  · replace hyp := hyp.2 c
    refine ax_iload_n hX dX8_open_5 rfl ?_
    refine ax_bipush hX dX8_open_6 (v := 8) (by decide) ?_
    refine ax_icmp_le hX dX8_open_8 (tgt := 13) (by decide) (fun c => ?_) (fun c => ?_)
    · replace hyp := hyp.1 c
      refine ax_aload_n hX dX8_open_13 (Or.inr ⟨_, rfl⟩) rfl ?_
      refine tx_getF hX fRX8_11 h_p.ly0 (o := 1) (b := (p + 1)) fk_8_0 rfl (h_p.ne 0 (by decide)) (h_p.lt 0 (by decide)) dX8_open_14 ?_
      refine ax_iload_n hX dX8_open_17 rfl ?_
      refine ax_iconst hX dX8_open_18 (v := 1) (by decide) ?_
      refine ax_isub hX dX8_open_19 ?_
      have hin := hyp.1
      replace hyp := hyp.2
      rcases ho1 : (T.2.2 (p + 1) (x0 - (1 : Int32)).toNatClampNeg) with _ | p1
      · replace hyp := hyp.1 ho1
        refine tx_aal hX h_p.ly1 (by decide) (h_p.ne 1 (by decide)) (h_p.lt 1 (by decide)) hin (v := .null) (congrArg va_rf ho1) dX8_open_20 ?_
        refine ax_iconst hX dX8_open_21 (v := 1) (by decide) ?_
        exact hyp.elim
      · obtain ⟨h_p1, hyp⟩ := hyp.2 p1 ho1
        refine tx_aal hX h_p.ly1 (by decide) (h_p.ne 1 (by decide)) (h_p.lt 1 (by decide)) hin (v := .ref p1) (congrArg va_rf ho1) dX8_open_20 ?_
        refine ax_iconst hX dX8_open_21 (v := 1) (by decide) ?_
        refine tx_putI hX fRX8_32 h_p1.ly0 fk_3_0 (h_p1.ge 0) (h_p1.lt 0 (by decide)) rfl rfl dX8_open_22 ?_
        refine ax_aload_n hX dX8_open_25 (Or.inr ⟨_, rfl⟩) rfl ?_
        refine ax_dup hX dX8_open_26 rfl ?_
        refine tx_getI hX fRX8_22 h_p.ly0 fk_8_2 (h_p.ne 0 (by decide)) (h_p.lt 0 (by decide)) dX8_open_27 ?_
        refine ax_iconst hX dX8_open_30 (v := 1) (by decide) ?_
        refine ax_iadd hX dX8_open_31 ?_
        refine tx_putI hX fRX8_22 h_p.ly0 fk_8_2 (h_p.ge 0) (h_p.lt 0 (by decide)) rfl rfl dX8_open_32 ?_
        refine ax_aload_n hX dX8_open_35 (Or.inr ⟨_, rfl⟩) rfl ?_
        refine tx_getF hX fRX8_11 h_p.ly0 (o := 1) (b := (p + 1)) fk_8_0 rfl (h_p.ne 0 (by decide)) (h_p.lt 0 (by decide)) dX8_open_36 ?_
        refine ax_iload_n hX dX8_open_39 rfl ?_
        refine ax_iconst hX dX8_open_40 (v := 1) (by decide) ?_
        refine ax_isub hX dX8_open_41 ?_
        have hin := hyp.1
        replace hyp := hyp.2
        refine tx_aal hX h_p.ly1 (by decide) (h_p.ne 1 (by decide)) (h_p.lt 1 (by decide)) hin (v := .ref p1) (congrArg va_rf ho1) dX8_open_42 ?_
        exact hR.2.2.1 _ _ _ _ _ _ (by decide) (by decide) dX8_open_43 ⟨_, rfl⟩ (Or.inr ⟨_, rfl⟩) ⟨(some p1), _, rfl, rfl, hyp⟩
    · replace hyp := hyp.2 c
      refine ax_null hX dX8_open_11 ?_
      exact hR.2.2.1 _ _ _ _ _ _ (by decide) (by decide) dX8_open_12 ⟨_, rfl⟩ (Or.inl rfl) ⟨none, _, rfl, rfl, hyp⟩
set_option maxRecDepth 10000 in
theorem s_X9_append_0 {X : ax_X} {d L sz : Nat} {T : tT} {Q : tT → Prop} (hX : ax_ok X mX9_append d) (hR : ax_Ret X mX9_append (tv L sz Q)) (hsz : 161 ≤ sz) (x0 : Int32) (hyp : ax_j X 3 [some (.ref 4), some (.int x0), some (.int (24 : Int32))] [] (th L sz T) 0 0) : ax_j X 0 [some (.ref 4), some (.int x0), none] [] (th L sz T) 0 0 := by
  refine ax_bipush hX dX9_append_0 (v := 24) (by decide) ?_
  refine ax_istore_n hX dX9_append_2 (by decide) (L' := [some (.ref 4), some (.int x0), some (.int (24 : Int32))]) rfl ?_
  exact ax_forget (L' := [some (.ref 4), some (.int x0), some (.int (24 : Int32))]) (⟨rfl, ⟨rfl, ⟨rfl, trivial⟩⟩⟩) hyp
set_option maxRecDepth 10000 in
theorem s_X9_append_3 {X : ax_X} {d L sz : Nat} {T : tT} {Q : tT → Prop} (hX : ax_ok X mX9_append d) (hR : ax_Ret X mX9_append (tv L sz Q)) (hsz : 161 ≤ sz) (v1 : Int32) (v2 : Int32) (hyp : ((v2 < 0 → Q T) ∧ (¬ v2 < 0 → (((1400 : Int32) ≤ (T.1 4 1) → Q T) ∧ (¬ (1400 : Int32) ≤ (T.1 4 1) → vp_in (T.1 4 1) 1400 ∧ ax_j X 3 [some (.ref 4), some (.int v1), some (.int (v2 + (-8 : Int32)))] [] (th L sz (tI (tI T 5 ((T.1 4 1).toNatClampNeg) ((v1 >>> (v2 &&& 31)).toInt8.toInt32).toInt8.toInt32) 4 1 ((T.1 4 1) + (1 : Int32)))) 0 0))))) : ax_j X 3 [some (.ref 4), some (.int v1), some (.int v2)] [] (th L sz T) 0 0 := by
  refine ax_iload_n hX dX9_append_3 rfl ?_
  refine ax_if_lt hX dX9_append_4 (tgt := 46) (by decide) (fun c => ?_) (fun c => ?_)
  · replace hyp := hyp.1 c
    exact hR.2.2.2 _ _ _ _ _ (by decide) (by decide) dX9_append_46 rfl ⟨_, rfl, rfl, hyp⟩
  · replace hyp := hyp.2 c
    refine ax_aload_n hX dX9_append_7 (Or.inr ⟨_, rfl⟩) rfl ?_
    refine tx_getI hX fRX9_15 ly_4 fk_9_1 (by decide) (Nat.lt_of_lt_of_le (by decide) hsz) dX9_append_8 ?_
    refine ax_sipush hX dX9_append_11 (v := 1400) (by decide) ?_
    refine ax_icmp_ge hX dX9_append_14 (tgt := 46) (by decide) (fun c => ?_) (fun c => ?_)
    · replace hyp := hyp.1 c
      exact hR.2.2.2 _ _ _ _ _ (by decide) (by decide) dX9_append_46 rfl ⟨_, rfl, rfl, hyp⟩
    · replace hyp := hyp.2 c
      refine ax_aload_n hX dX9_append_17 (Or.inr ⟨_, rfl⟩) rfl ?_
      refine tx_getF hX fRX9_9 ly_4 (o := 1) (b := 5) fk_9_0 rfl (by decide) (Nat.lt_of_lt_of_le (by decide) hsz) dX9_append_18 ?_
      refine ax_aload_n hX dX9_append_21 (Or.inr ⟨_, rfl⟩) rfl ?_
      refine tx_getI hX fRX9_15 ly_4 fk_9_1 (by decide) (Nat.lt_of_lt_of_le (by decide) hsz) dX9_append_22 ?_
      refine ax_iload_n hX dX9_append_25 rfl ?_
      refine ax_iload_n hX dX9_append_26 rfl ?_
      refine ax_ishr hX dX9_append_27 ?_
      refine ax_i2b hX dX9_append_28 ?_
      refine tx_bas hX ly_5 (by decide) (Nat.lt_of_lt_of_le (by decide) hsz) hyp.1 dX9_append_29 ?_
      replace hyp := hyp.2
      refine ax_aload_n hX dX9_append_30 (Or.inr ⟨_, rfl⟩) rfl ?_
      refine ax_dup hX dX9_append_31 rfl ?_
      refine tx_getI hX fRX9_15 ly_4 fk_9_1 (by decide) (Nat.lt_of_lt_of_le (by decide) hsz) dX9_append_32 ?_
      refine ax_iconst hX dX9_append_35 (v := 1) (by decide) ?_
      refine ax_iadd hX dX9_append_36 ?_
      refine tx_putI hX fRX9_15 ly_4 fk_9_1 (by decide) (Nat.lt_of_lt_of_le (by decide) hsz) rfl rfl dX9_append_37 ?_
      refine ax_iinc hX dX9_append_40 rfl (w := (v2 + (-8 : Int32))) rfl (by decide) (L' := [some (.ref 4), some (.int v1), some (.int (v2 + (-8 : Int32)))]) rfl ?_
      refine ax_goto hX dX9_append_43 (tgt := 3) (by decide) ?_
      exact ax_forget (L' := [some (.ref 4), some (.int v1), some (.int (v2 + (-8 : Int32)))]) (⟨rfl, ⟨rfl, ⟨rfl, trivial⟩⟩⟩) hyp
set_option maxRecDepth 10000 in
theorem s_X9_byteAt_0 {X : ax_X} {d L sz : Nat} {T : tT} {Q : Int32 → tT → Prop} (hX : ax_ok X mX9_byteAt d) (hR : ax_Ret X mX9_byteAt (ti L sz Q)) (hsz : 161 ≤ sz) (x0 : Int32) (hyp : ((x0 < 0 → Q (-1 : Int32) T) ∧ (¬ x0 < 0 → (((T.1 4 1) ≤ x0 → Q (-1 : Int32) T) ∧ (¬ (T.1 4 1) ≤ x0 → (((1400 : Int32) ≤ x0 → Q (-1 : Int32) T) ∧ (¬ (1400 : Int32) ≤ x0 → vp_in x0 1400 ∧ Q ((T.1 5 (x0.toNatClampNeg)) &&& (255 : Int32)) T))))))) : ax_j X 0 [some (.ref 4), some (.int x0)] [] (th L sz T) 0 0 := by
  refine ax_iload_n hX dX9_byteAt_0 rfl ?_
  refine ax_if_lt hX dX9_byteAt_1 (tgt := 32) (by decide) (fun c => ?_) (fun c => ?_)
  · replace hyp := hyp.1 c
    refine ax_iconst hX dX9_byteAt_32 (v := -1) (by decide) ?_
    exact hR.1 _ _ _ _ _ _ (by decide) (by decide) dX9_byteAt_33 ⟨_, rfl, rfl⟩ ⟨_, _, rfl, rfl, hyp⟩
  · replace hyp := hyp.2 c
    refine ax_iload_n hX dX9_byteAt_4 rfl ?_
    refine ax_aload_n hX dX9_byteAt_5 (Or.inr ⟨_, rfl⟩) rfl ?_
    refine tx_getI hX fRX9_15 ly_4 fk_9_1 (by decide) (Nat.lt_of_lt_of_le (by decide) hsz) dX9_byteAt_6 ?_
    refine ax_icmp_ge hX dX9_byteAt_9 (tgt := 32) (by decide) (fun c => ?_) (fun c => ?_)
    · replace hyp := hyp.1 c
      refine ax_iconst hX dX9_byteAt_32 (v := -1) (by decide) ?_
      exact hR.1 _ _ _ _ _ _ (by decide) (by decide) dX9_byteAt_33 ⟨_, rfl, rfl⟩ ⟨_, _, rfl, rfl, hyp⟩
    · replace hyp := hyp.2 c
      refine ax_iload_n hX dX9_byteAt_12 rfl ?_
      refine ax_sipush hX dX9_byteAt_13 (v := 1400) (by decide) ?_
      refine ax_icmp_ge hX dX9_byteAt_16 (tgt := 32) (by decide) (fun c => ?_) (fun c => ?_)
      · replace hyp := hyp.1 c
        refine ax_iconst hX dX9_byteAt_32 (v := -1) (by decide) ?_
        exact hR.1 _ _ _ _ _ _ (by decide) (by decide) dX9_byteAt_33 ⟨_, rfl, rfl⟩ ⟨_, _, rfl, rfl, hyp⟩
      · replace hyp := hyp.2 c
        refine ax_aload_n hX dX9_byteAt_19 (Or.inr ⟨_, rfl⟩) rfl ?_
        refine tx_getF hX fRX9_9 ly_4 (o := 1) (b := 5) fk_9_0 rfl (by decide) (Nat.lt_of_lt_of_le (by decide) hsz) dX9_byteAt_20 ?_
        refine ax_iload_n hX dX9_byteAt_23 rfl ?_
        refine tx_bal hX ly_5 (by decide) (Nat.lt_of_lt_of_le (by decide) hsz) hyp.1 dX9_byteAt_24 ?_
        replace hyp := hyp.2
        refine ax_sipush hX dX9_byteAt_25 (v := 255) (by decide) ?_
        refine ax_iand hX dX9_byteAt_28 ?_
        refine ax_goto hX dX9_byteAt_29 (tgt := 33) (by decide) ?_
        exact hR.1 _ _ _ _ _ _ (by decide) (by decide) dX9_byteAt_33 ⟨_, rfl, rfl⟩ ⟨_, _, rfl, rfl, hyp⟩
set_option maxRecDepth 10000 in
theorem s_X9_isBlank_0 {X : ax_X} {d L sz : Nat} {T : tT} {Q : Int32 → tT → Prop} (hX : ax_ok X mX9_isBlank d) (hR : ax_Ret X mX9_isBlank (ti L sz Q)) (hsz : 161 ≤ sz) (x0 : Int32) (hyp : ((x0 = (32 : Int32) → Q (1 : Int32) T) ∧ (¬ x0 = (32 : Int32) → ((¬ x0 = (10 : Int32) → Q (0 : Int32) T) ∧ (x0 = (10 : Int32) → Q (1 : Int32) T))))) : ax_j X 0 [some (.int x0)] [] (th L sz T) 0 0 := by
  refine ax_iload_n hX dX9_isBlank_0 rfl ?_
  refine ax_bipush hX dX9_isBlank_1 (v := 32) (by decide) ?_
  refine ax_icmp_eq hX dX9_isBlank_3 (tgt := 12) (by decide) (fun c => ?_) (fun c => ?_)
  · replace hyp := hyp.1 c
    refine ax_iconst hX dX9_isBlank_12 (v := 1) (by decide) ?_
    refine ax_goto hX dX9_isBlank_13 (tgt := 17) (by decide) ?_
    exact hR.1 _ _ _ _ _ _ (by decide) (by decide) dX9_isBlank_17 ⟨_, rfl, rfl⟩ ⟨_, _, rfl, rfl, hyp⟩
  · replace hyp := hyp.2 c
    refine ax_iload_n hX dX9_isBlank_6 rfl ?_
    refine ax_bipush hX dX9_isBlank_7 (v := 10) (by decide) ?_
    refine ax_icmp_ne hX dX9_isBlank_9 (tgt := 16) (by decide) (fun c => ?_) (fun c => ?_)
    · replace hyp := hyp.1 c
      refine ax_iconst hX dX9_isBlank_16 (v := 0) (by decide) ?_
      exact hR.1 _ _ _ _ _ _ (by decide) (by decide) dX9_isBlank_17 ⟨_, rfl, rfl⟩ ⟨_, _, rfl, rfl, hyp⟩
    · replace hyp := hyp.2 c
      refine ax_iconst hX dX9_isBlank_12 (v := 1) (by decide) ?_
      refine ax_goto hX dX9_isBlank_13 (tgt := 17) (by decide) ?_
      exact hR.1 _ _ _ _ _ _ (by decide) (by decide) dX9_isBlank_17 ⟨_, rfl, rfl⟩ ⟨_, _, rfl, rfl, hyp⟩
set_option maxRecDepth 10000 in
theorem s_X9_isDigit_0 {X : ax_X} {d L sz : Nat} {T : tT} {Q : Int32 → tT → Prop} (hX : ax_ok X mX9_isDigit d) (hR : ax_Ret X mX9_isDigit (ti L sz Q)) (hsz : 161 ≤ sz) (x0 : Int32) (hyp : ((x0 < (48 : Int32) → Q (0 : Int32) T) ∧ (¬ x0 < (48 : Int32) → (((57 : Int32) < x0 → Q (0 : Int32) T) ∧ (¬ (57 : Int32) < x0 → Q (1 : Int32) T))))) : ax_j X 0 [some (.int x0)] [] (th L sz T) 0 0 := by
  refine ax_iload_n hX dX9_isDigit_0 rfl ?_
  refine ax_bipush hX dX9_isDigit_1 (v := 48) (by decide) ?_
  refine ax_icmp_lt hX dX9_isDigit_3 (tgt := 16) (by decide) (fun c => ?_) (fun c => ?_)
  · replace hyp := hyp.1 c
    refine ax_iconst hX dX9_isDigit_16 (v := 0) (by decide) ?_
    exact hR.1 _ _ _ _ _ _ (by decide) (by decide) dX9_isDigit_17 ⟨_, rfl, rfl⟩ ⟨_, _, rfl, rfl, hyp⟩
  · replace hyp := hyp.2 c
    refine ax_iload_n hX dX9_isDigit_6 rfl ?_
    refine ax_bipush hX dX9_isDigit_7 (v := 57) (by decide) ?_
    refine ax_icmp_gt hX dX9_isDigit_9 (tgt := 16) (by decide) (fun c => ?_) (fun c => ?_)
    · replace hyp := hyp.1 c
      refine ax_iconst hX dX9_isDigit_16 (v := 0) (by decide) ?_
      exact hR.1 _ _ _ _ _ _ (by decide) (by decide) dX9_isDigit_17 ⟨_, rfl, rfl⟩ ⟨_, _, rfl, rfl, hyp⟩
    · replace hyp := hyp.2 c
      refine ax_iconst hX dX9_isDigit_12 (v := 1) (by decide) ?_
      refine ax_goto hX dX9_isDigit_13 (tgt := 17) (by decide) ?_
      exact hR.1 _ _ _ _ _ _ (by decide) (by decide) dX9_isDigit_17 ⟨_, rfl, rfl⟩ ⟨_, _, rfl, rfl, hyp⟩
set_option maxRecDepth 10000 in
theorem s_X9_isLetter_0 {X : ax_X} {d L sz : Nat} {T : tT} {Q : Int32 → tT → Prop} (hX : ax_ok X mX9_isLetter d) (hR : ax_Ret X mX9_isLetter (ti L sz Q)) (hsz : 161 ≤ sz) (x0 : Int32) (hyp : ((x0 < (97 : Int32) → Q (0 : Int32) T) ∧ (¬ x0 < (97 : Int32) → (((122 : Int32) < x0 → Q (0 : Int32) T) ∧ (¬ (122 : Int32) < x0 → Q (1 : Int32) T))))) : ax_j X 0 [some (.int x0)] [] (th L sz T) 0 0 := by
  refine ax_iload_n hX dX9_isLetter_0 rfl ?_
  refine ax_bipush hX dX9_isLetter_1 (v := 97) (by decide) ?_
  refine ax_icmp_lt hX dX9_isLetter_3 (tgt := 16) (by decide) (fun c => ?_) (fun c => ?_)
  · replace hyp := hyp.1 c
    refine ax_iconst hX dX9_isLetter_16 (v := 0) (by decide) ?_
    exact hR.1 _ _ _ _ _ _ (by decide) (by decide) dX9_isLetter_17 ⟨_, rfl, rfl⟩ ⟨_, _, rfl, rfl, hyp⟩
  · replace hyp := hyp.2 c
    refine ax_iload_n hX dX9_isLetter_6 rfl ?_
    refine ax_bipush hX dX9_isLetter_7 (v := 122) (by decide) ?_
    refine ax_icmp_gt hX dX9_isLetter_9 (tgt := 16) (by decide) (fun c => ?_) (fun c => ?_)
    · replace hyp := hyp.1 c
      refine ax_iconst hX dX9_isLetter_16 (v := 0) (by decide) ?_
      exact hR.1 _ _ _ _ _ _ (by decide) (by decide) dX9_isLetter_17 ⟨_, rfl, rfl⟩ ⟨_, _, rfl, rfl, hyp⟩
    · replace hyp := hyp.2 c
      refine ax_iconst hX dX9_isLetter_12 (v := 1) (by decide) ?_
      refine ax_goto hX dX9_isLetter_13 (tgt := 17) (by decide) ?_
      exact hR.1 _ _ _ _ _ _ (by decide) (by decide) dX9_isLetter_17 ⟨_, rfl, rfl⟩ ⟨_, _, rfl, rfl, hyp⟩
set_option maxRecDepth 10000 in
theorem s_X9_isLetterOrDigit_0 {X : ax_X} {d L sz : Nat} {T : tT} {Q : Int32 → tT → Prop} (hX : ax_ok X mX9_isLetterOrDigit d) (hR : ax_Ret X mX9_isLetterOrDigit (ti L sz Q)) (hsz : 161 ≤ sz) (x0 : Int32) (hyp : ((x0 < (97 : Int32) → ((x0 < (48 : Int32) → Q (0 : Int32) T) ∧ (¬ x0 < (48 : Int32) → (((57 : Int32) < x0 → Q (0 : Int32) T) ∧ (¬ (57 : Int32) < x0 → Q (1 : Int32) T))))) ∧ (¬ x0 < (97 : Int32) → ((x0 ≤ (122 : Int32) → Q (1 : Int32) T) ∧ (¬ x0 ≤ (122 : Int32) → ((x0 < (48 : Int32) → Q (0 : Int32) T) ∧ (¬ x0 < (48 : Int32) → (((57 : Int32) < x0 → Q (0 : Int32) T) ∧ (¬ (57 : Int32) < x0 → Q (1 : Int32) T))))))))) : ax_j X 0 [some (.int x0)] [] (th L sz T) 0 0 := by
  refine ax_iload_n hX dX9_isLetterOrDigit_0 rfl ?_
  refine ax_bipush hX dX9_isLetterOrDigit_1 (v := 97) (by decide) ?_
  refine ax_icmp_lt hX dX9_isLetterOrDigit_3 (tgt := 12) (by decide) (fun c => ?_) (fun c => ?_)
  · replace hyp := hyp.1 c
    refine ax_iload_n hX dX9_isLetterOrDigit_12 rfl ?_
    refine ax_bipush hX dX9_isLetterOrDigit_13 (v := 48) (by decide) ?_
    refine ax_icmp_lt hX dX9_isLetterOrDigit_15 (tgt := 28) (by decide) (fun c => ?_) (fun c => ?_)
    · replace hyp := hyp.1 c
      refine ax_iconst hX dX9_isLetterOrDigit_28 (v := 0) (by decide) ?_
      exact hR.1 _ _ _ _ _ _ (by decide) (by decide) dX9_isLetterOrDigit_29 ⟨_, rfl, rfl⟩ ⟨_, _, rfl, rfl, hyp⟩
    · replace hyp := hyp.2 c
      refine ax_iload_n hX dX9_isLetterOrDigit_18 rfl ?_
      refine ax_bipush hX dX9_isLetterOrDigit_19 (v := 57) (by decide) ?_
      refine ax_icmp_gt hX dX9_isLetterOrDigit_21 (tgt := 28) (by decide) (fun c => ?_) (fun c => ?_)
      · replace hyp := hyp.1 c
        refine ax_iconst hX dX9_isLetterOrDigit_28 (v := 0) (by decide) ?_
        exact hR.1 _ _ _ _ _ _ (by decide) (by decide) dX9_isLetterOrDigit_29 ⟨_, rfl, rfl⟩ ⟨_, _, rfl, rfl, hyp⟩
      · replace hyp := hyp.2 c
        refine ax_iconst hX dX9_isLetterOrDigit_24 (v := 1) (by decide) ?_
        refine ax_goto hX dX9_isLetterOrDigit_25 (tgt := 29) (by decide) ?_
        exact hR.1 _ _ _ _ _ _ (by decide) (by decide) dX9_isLetterOrDigit_29 ⟨_, rfl, rfl⟩ ⟨_, _, rfl, rfl, hyp⟩
  · replace hyp := hyp.2 c
    refine ax_iload_n hX dX9_isLetterOrDigit_6 rfl ?_
    refine ax_bipush hX dX9_isLetterOrDigit_7 (v := 122) (by decide) ?_
    refine ax_icmp_le hX dX9_isLetterOrDigit_9 (tgt := 24) (by decide) (fun c => ?_) (fun c => ?_)
    · replace hyp := hyp.1 c
      refine ax_iconst hX dX9_isLetterOrDigit_24 (v := 1) (by decide) ?_
      refine ax_goto hX dX9_isLetterOrDigit_25 (tgt := 29) (by decide) ?_
      exact hR.1 _ _ _ _ _ _ (by decide) (by decide) dX9_isLetterOrDigit_29 ⟨_, rfl, rfl⟩ ⟨_, _, rfl, rfl, hyp⟩
    · replace hyp := hyp.2 c
      refine ax_iload_n hX dX9_isLetterOrDigit_12 rfl ?_
      refine ax_bipush hX dX9_isLetterOrDigit_13 (v := 48) (by decide) ?_
      refine ax_icmp_lt hX dX9_isLetterOrDigit_15 (tgt := 28) (by decide) (fun c => ?_) (fun c => ?_)
      · replace hyp := hyp.1 c
        refine ax_iconst hX dX9_isLetterOrDigit_28 (v := 0) (by decide) ?_
        exact hR.1 _ _ _ _ _ _ (by decide) (by decide) dX9_isLetterOrDigit_29 ⟨_, rfl, rfl⟩ ⟨_, _, rfl, rfl, hyp⟩
      · replace hyp := hyp.2 c
        refine ax_iload_n hX dX9_isLetterOrDigit_18 rfl ?_
        refine ax_bipush hX dX9_isLetterOrDigit_19 (v := 57) (by decide) ?_
        refine ax_icmp_gt hX dX9_isLetterOrDigit_21 (tgt := 28) (by decide) (fun c => ?_) (fun c => ?_)
        · replace hyp := hyp.1 c
          refine ax_iconst hX dX9_isLetterOrDigit_28 (v := 0) (by decide) ?_
          exact hR.1 _ _ _ _ _ _ (by decide) (by decide) dX9_isLetterOrDigit_29 ⟨_, rfl, rfl⟩ ⟨_, _, rfl, rfl, hyp⟩
        · replace hyp := hyp.2 c
          refine ax_iconst hX dX9_isLetterOrDigit_24 (v := 1) (by decide) ?_
          refine ax_goto hX dX9_isLetterOrDigit_25 (tgt := 29) (by decide) ?_
          exact hR.1 _ _ _ _ _ _ (by decide) (by decide) dX9_isLetterOrDigit_29 ⟨_, rfl, rfl⟩ ⟨_, _, rfl, rfl, hyp⟩
set_option maxRecDepth 10000 in
theorem s_X9_isSign_0 {X : ax_X} {d L sz : Nat} {T : tT} {Q : Int32 → tT → Prop} (hX : ax_ok X mX9_isSign d) (hR : ax_Ret X mX9_isSign (ti L sz Q)) (hsz : 161 ≤ sz) (x0 : Int32) (hyp : ((x0 = (123 : Int32) → Q (1 : Int32) T) ∧ (¬ x0 = (123 : Int32) → ((x0 = (125 : Int32) → Q (1 : Int32) T) ∧ (¬ x0 = (125 : Int32) → ((x0 = (40 : Int32) → Q (1 : Int32) T) ∧ (¬ x0 = (40 : Int32) → ((x0 = (41 : Int32) → Q (1 : Int32) T) ∧ (¬ x0 = (41 : Int32) → ((x0 = (61 : Int32) → Q (1 : Int32) T) ∧ (¬ x0 = (61 : Int32) → ((x0 = (44 : Int32) → Q (1 : Int32) T) ∧ (¬ x0 = (44 : Int32) → ((x0 = (59 : Int32) → Q (1 : Int32) T) ∧ (¬ x0 = (59 : Int32) → ((x0 = (60 : Int32) → Q (1 : Int32) T) ∧ (¬ x0 = (60 : Int32) → ((x0 = (62 : Int32) → Q (1 : Int32) T) ∧ (¬ x0 = (62 : Int32) → ((x0 = (43 : Int32) → Q (1 : Int32) T) ∧ (¬ x0 = (43 : Int32) → ((¬ x0 = (45 : Int32) → Q (0 : Int32) T) ∧ (x0 = (45 : Int32) → Q (1 : Int32) T))))))))))))))))))))))) : ax_j X 0 [some (.int x0)] [] (th L sz T) 0 0 := by
  refine ax_iload_n hX dX9_isSign_0 rfl ?_
  refine ax_bipush hX dX9_isSign_1 (v := 123) (by decide) ?_
  refine ax_icmp_eq hX dX9_isSign_3 (tgt := 66) (by decide) (fun c => ?_) (fun c => ?_)
  · replace hyp := hyp.1 c
    refine ax_iconst hX dX9_isSign_66 (v := 1) (by decide) ?_
    refine ax_goto hX dX9_isSign_67 (tgt := 71) (by decide) ?_
    exact hR.1 _ _ _ _ _ _ (by decide) (by decide) dX9_isSign_71 ⟨_, rfl, rfl⟩ ⟨_, _, rfl, rfl, hyp⟩
  · replace hyp := hyp.2 c
    refine ax_iload_n hX dX9_isSign_6 rfl ?_
    refine ax_bipush hX dX9_isSign_7 (v := 125) (by decide) ?_
    refine ax_icmp_eq hX dX9_isSign_9 (tgt := 66) (by decide) (fun c => ?_) (fun c => ?_)
    · replace hyp := hyp.1 c
      refine ax_iconst hX dX9_isSign_66 (v := 1) (by decide) ?_
      refine ax_goto hX dX9_isSign_67 (tgt := 71) (by decide) ?_
      exact hR.1 _ _ _ _ _ _ (by decide) (by decide) dX9_isSign_71 ⟨_, rfl, rfl⟩ ⟨_, _, rfl, rfl, hyp⟩
    · replace hyp := hyp.2 c
      refine ax_iload_n hX dX9_isSign_12 rfl ?_
      refine ax_bipush hX dX9_isSign_13 (v := 40) (by decide) ?_
      refine ax_icmp_eq hX dX9_isSign_15 (tgt := 66) (by decide) (fun c => ?_) (fun c => ?_)
      · replace hyp := hyp.1 c
        refine ax_iconst hX dX9_isSign_66 (v := 1) (by decide) ?_
        refine ax_goto hX dX9_isSign_67 (tgt := 71) (by decide) ?_
        exact hR.1 _ _ _ _ _ _ (by decide) (by decide) dX9_isSign_71 ⟨_, rfl, rfl⟩ ⟨_, _, rfl, rfl, hyp⟩
      · replace hyp := hyp.2 c
        refine ax_iload_n hX dX9_isSign_18 rfl ?_
        refine ax_bipush hX dX9_isSign_19 (v := 41) (by decide) ?_
        refine ax_icmp_eq hX dX9_isSign_21 (tgt := 66) (by decide) (fun c => ?_) (fun c => ?_)
        · replace hyp := hyp.1 c
          refine ax_iconst hX dX9_isSign_66 (v := 1) (by decide) ?_
          refine ax_goto hX dX9_isSign_67 (tgt := 71) (by decide) ?_
          exact hR.1 _ _ _ _ _ _ (by decide) (by decide) dX9_isSign_71 ⟨_, rfl, rfl⟩ ⟨_, _, rfl, rfl, hyp⟩
        · replace hyp := hyp.2 c
          refine ax_iload_n hX dX9_isSign_24 rfl ?_
          refine ax_bipush hX dX9_isSign_25 (v := 61) (by decide) ?_
          refine ax_icmp_eq hX dX9_isSign_27 (tgt := 66) (by decide) (fun c => ?_) (fun c => ?_)
          · replace hyp := hyp.1 c
            refine ax_iconst hX dX9_isSign_66 (v := 1) (by decide) ?_
            refine ax_goto hX dX9_isSign_67 (tgt := 71) (by decide) ?_
            exact hR.1 _ _ _ _ _ _ (by decide) (by decide) dX9_isSign_71 ⟨_, rfl, rfl⟩ ⟨_, _, rfl, rfl, hyp⟩
          · replace hyp := hyp.2 c
            refine ax_iload_n hX dX9_isSign_30 rfl ?_
            refine ax_bipush hX dX9_isSign_31 (v := 44) (by decide) ?_
            refine ax_icmp_eq hX dX9_isSign_33 (tgt := 66) (by decide) (fun c => ?_) (fun c => ?_)
            · replace hyp := hyp.1 c
              refine ax_iconst hX dX9_isSign_66 (v := 1) (by decide) ?_
              refine ax_goto hX dX9_isSign_67 (tgt := 71) (by decide) ?_
              exact hR.1 _ _ _ _ _ _ (by decide) (by decide) dX9_isSign_71 ⟨_, rfl, rfl⟩ ⟨_, _, rfl, rfl, hyp⟩
            · replace hyp := hyp.2 c
              refine ax_iload_n hX dX9_isSign_36 rfl ?_
              refine ax_bipush hX dX9_isSign_37 (v := 59) (by decide) ?_
              refine ax_icmp_eq hX dX9_isSign_39 (tgt := 66) (by decide) (fun c => ?_) (fun c => ?_)
              · replace hyp := hyp.1 c
                refine ax_iconst hX dX9_isSign_66 (v := 1) (by decide) ?_
                refine ax_goto hX dX9_isSign_67 (tgt := 71) (by decide) ?_
                exact hR.1 _ _ _ _ _ _ (by decide) (by decide) dX9_isSign_71 ⟨_, rfl, rfl⟩ ⟨_, _, rfl, rfl, hyp⟩
              · replace hyp := hyp.2 c
                refine ax_iload_n hX dX9_isSign_42 rfl ?_
                refine ax_bipush hX dX9_isSign_43 (v := 60) (by decide) ?_
                refine ax_icmp_eq hX dX9_isSign_45 (tgt := 66) (by decide) (fun c => ?_) (fun c => ?_)
                · replace hyp := hyp.1 c
                  refine ax_iconst hX dX9_isSign_66 (v := 1) (by decide) ?_
                  refine ax_goto hX dX9_isSign_67 (tgt := 71) (by decide) ?_
                  exact hR.1 _ _ _ _ _ _ (by decide) (by decide) dX9_isSign_71 ⟨_, rfl, rfl⟩ ⟨_, _, rfl, rfl, hyp⟩
                · replace hyp := hyp.2 c
                  refine ax_iload_n hX dX9_isSign_48 rfl ?_
                  refine ax_bipush hX dX9_isSign_49 (v := 62) (by decide) ?_
                  refine ax_icmp_eq hX dX9_isSign_51 (tgt := 66) (by decide) (fun c => ?_) (fun c => ?_)
                  · replace hyp := hyp.1 c
                    refine ax_iconst hX dX9_isSign_66 (v := 1) (by decide) ?_
                    refine ax_goto hX dX9_isSign_67 (tgt := 71) (by decide) ?_
                    exact hR.1 _ _ _ _ _ _ (by decide) (by decide) dX9_isSign_71 ⟨_, rfl, rfl⟩ ⟨_, _, rfl, rfl, hyp⟩
                  · replace hyp := hyp.2 c
                    refine ax_iload_n hX dX9_isSign_54 rfl ?_
                    refine ax_bipush hX dX9_isSign_55 (v := 43) (by decide) ?_
                    refine ax_icmp_eq hX dX9_isSign_57 (tgt := 66) (by decide) (fun c => ?_) (fun c => ?_)
                    · replace hyp := hyp.1 c
                      refine ax_iconst hX dX9_isSign_66 (v := 1) (by decide) ?_
                      refine ax_goto hX dX9_isSign_67 (tgt := 71) (by decide) ?_
                      exact hR.1 _ _ _ _ _ _ (by decide) (by decide) dX9_isSign_71 ⟨_, rfl, rfl⟩ ⟨_, _, rfl, rfl, hyp⟩
                    · replace hyp := hyp.2 c
                      refine ax_iload_n hX dX9_isSign_60 rfl ?_
                      refine ax_bipush hX dX9_isSign_61 (v := 45) (by decide) ?_
                      refine ax_icmp_ne hX dX9_isSign_63 (tgt := 70) (by decide) (fun c => ?_) (fun c => ?_)
                      · replace hyp := hyp.1 c
                        refine ax_iconst hX dX9_isSign_70 (v := 0) (by decide) ?_
                        exact hR.1 _ _ _ _ _ _ (by decide) (by decide) dX9_isSign_71 ⟨_, rfl, rfl⟩ ⟨_, _, rfl, rfl, hyp⟩
                      · replace hyp := hyp.2 c
                        refine ax_iconst hX dX9_isSign_66 (v := 1) (by decide) ?_
                        refine ax_goto hX dX9_isSign_67 (tgt := 71) (by decide) ?_
                        exact hR.1 _ _ _ _ _ _ (by decide) (by decide) dX9_isSign_71 ⟨_, rfl, rfl⟩ ⟨_, _, rfl, rfl, hyp⟩
