set_option maxRecDepth 10000 in
theorem s_X11_readPart_0 {X : ax_X} {d L sz : Nat} {T : tT} {Q : tT → Prop} (hX : ax_ok X mX11_readPart (d + 1)) (hR : ax_Ret X mX11_readPart (tv L sz Q)) (hsz : 161 ≤ sz) (x0 : Int32) (hyp : ∃ Q1, tiK d mX11_canName [.ref 105, .int x0] L sz T Q1 ∧ ∀ (r1 : Int32) (T1 : tT), Q1 r1 T1 → (((¬ r1 = 0 → vp_in x0 40 ∧ vp_in (((6 : Int32) * x0) + (T1.1 113 (x0.toNatClampNeg))) 240 ∧ ∃ Q1, tvK d mX11_next [.ref 105] L sz (tJ T1 128 ((((6 : Int32) * x0) + (T1.1 113 (x0.toNatClampNeg))).toNatClampNeg) (T1.2.1 105 10)) Q1 ∧ ∀ (T2 : tT), Q1 T2 → (∃ Q1, tiK d mX11_numberOf [.ref 105, .int (1 : Int32), .int (200 : Int32)] L sz T2 Q1 ∧ ∀ (r3 : Int32) (T3 : tT), Q1 r3 T3 → (vp_in (((6 : Int32) * x0) + (T1.1 113 (x0.toNatClampNeg))) 240 ∧ vp_in x0 40 ∧ vp_in x0 40 ∧ Q (tI (tI T3 114 ((((6 : Int32) * x0) + (T1.1 113 (x0.toNatClampNeg))).toNatClampNeg) r3) 113 (x0.toNatClampNeg) ((T3.1 113 (x0.toNatClampNeg)) + (1 : Int32)))))) ∧ (r1 = 0 → Q T1)))) : ax_j X 0 [some (.ref 105), some (.int x0), none] [] (th L sz T) 0 0 := by
  refine ax_aload_n hX dX11_readPart_0 (Or.inr ⟨_, rfl⟩) rfl ?_
  refine ax_iload_n hX dX11_readPart_1 rfl ?_
  obtain ⟨Q1, hK, hyp⟩ := hyp
  refine ax_callV hX lRX11_315 im_X11_canName sl_X11_canName cw_X11_canName ((th_at (by decide) (Nat.lt_of_lt_of_le (by decide) hsz)).trans (tc_ob ly_105)) rfl rfl (A := [.int x0]) (st := []) rfl rfl (Nat.le_of_ble_eq_true rfl) (by decide) (by decide) dX11_readPart_2 hK ?_
  rintro _ _ ⟨r1, T1, rfl, rfl, hq⟩
  replace hyp := hyp r1 T1 hq
  refine ax_if_ne hX dX11_readPart_5 (tgt := 9) (by decide) (fun c => ?_) (fun c => ?_)
  · replace hyp := hyp.1 c
    refine ax_bipush hX dX11_readPart_9 (v := 6) (by decide) ?_
    refine ax_iload_n hX dX11_readPart_11 rfl ?_
    refine ax_imul hX dX11_readPart_12 ?_
    refine ax_aload_n hX dX11_readPart_13 (Or.inr ⟨_, rfl⟩) rfl ?_
    refine tx_getF hX fRX11_127 ly_105 (o := 8) (b := 113) fk_11_19 rfl (by decide) (Nat.lt_of_lt_of_le (by decide) hsz) dX11_readPart_14 ?_
    refine ax_iload_n hX dX11_readPart_17 rfl ?_
    refine tx_ial hX ly_113 (by decide) (Nat.lt_of_lt_of_le (by decide) hsz) hyp.1 dX11_readPart_18 ?_
    replace hyp := hyp.2
    refine ax_iadd hX dX11_readPart_19 ?_
    refine ax_istore_n hX dX11_readPart_20 (by decide) (L' := [some (.ref 105), some (.int x0), some (.int (((6 : Int32) * x0) + (T1.1 113 (x0.toNatClampNeg))))]) rfl ?_
    refine ax_aload_n hX dX11_readPart_21 (Or.inr ⟨_, rfl⟩) rfl ?_
    refine tx_getF hX fRX11_173 ly_105 (o := 23) (b := 128) fk_11_34 rfl (by decide) (Nat.lt_of_lt_of_le (by decide) hsz) dX11_readPart_22 ?_
    refine ax_iload_n hX dX11_readPart_25 rfl ?_
    refine ax_aload_n hX dX11_readPart_26 (Or.inr ⟨_, rfl⟩) rfl ?_
    refine tx_getJ hX fRX11_71 ly_105 fk_11_10 (by decide) (Nat.lt_of_lt_of_le (by decide) hsz) dX11_readPart_27 ?_
    refine tx_las hX ly_128 (by decide) (Nat.lt_of_lt_of_le (by decide) hsz) hyp.1 dX11_readPart_30 ?_
    replace hyp := hyp.2
    refine ax_aload_n hX dX11_readPart_31 (Or.inr ⟨_, rfl⟩) rfl ?_
    obtain ⟨Q1, hK, hyp⟩ := hyp
    refine ax_callV hX lRX11_88 im_X11_next sl_X11_next cw_X11_next ((th_at (by decide) (Nat.lt_of_lt_of_le (by decide) hsz)).trans (tc_ob ly_105)) rfl rfl (A := []) (st := []) rfl rfl (Nat.le_of_ble_eq_true rfl) (by decide) (by decide) dX11_readPart_32 hK ?_
    rintro _ _ ⟨T2, rfl, rfl, hq⟩
    replace hyp := hyp T2 hq
    refine ax_aload_n hX dX11_readPart_35 (Or.inr ⟨_, rfl⟩) rfl ?_
    refine tx_getF hX fRX11_130 ly_105 (o := 9) (b := 114) fk_11_20 rfl (by decide) (Nat.lt_of_lt_of_le (by decide) hsz) dX11_readPart_36 ?_
    refine ax_iload_n hX dX11_readPart_39 rfl ?_
    refine ax_aload_n hX dX11_readPart_40 (Or.inr ⟨_, rfl⟩) rfl ?_
    refine ax_iconst hX dX11_readPart_41 (v := 1) (by decide) ?_
    refine ax_sipush hX dX11_readPart_42 (v := 200) (by decide) ?_
    obtain ⟨Q1, hK, hyp⟩ := hyp
    refine ax_callV hX lRX11_287 im_X11_numberOf sl_X11_numberOf cw_X11_numberOf ((th_at (by decide) (Nat.lt_of_lt_of_le (by decide) hsz)).trans (tc_ob ly_105)) rfl rfl (A := [.int (1 : Int32), .int (200 : Int32)]) (st := [.int (((6 : Int32) * x0) + (T1.1 113 (x0.toNatClampNeg))), .ref 114]) rfl rfl (Nat.le_of_ble_eq_true rfl) (by decide) (by decide) dX11_readPart_45 hK ?_
    rintro _ _ ⟨r3, T3, rfl, rfl, hq⟩
    replace hyp := hyp r3 T3 hq
    refine tx_ias hX ly_114 (by decide) (Nat.lt_of_lt_of_le (by decide) hsz) hyp.1 dX11_readPart_48 ?_
    replace hyp := hyp.2
    refine ax_aload_n hX dX11_readPart_49 (Or.inr ⟨_, rfl⟩) rfl ?_
    refine tx_getF hX fRX11_127 ly_105 (o := 8) (b := 113) fk_11_19 rfl (by decide) (Nat.lt_of_lt_of_le (by decide) hsz) dX11_readPart_50 ?_
    refine ax_iload_n hX dX11_readPart_53 rfl ?_
    refine ax_dup2 hX dX11_readPart_54 rfl rfl ?_
    refine tx_ial hX ly_113 (by decide) (Nat.lt_of_lt_of_le (by decide) hsz) hyp.1 dX11_readPart_55 ?_
    replace hyp := hyp.2
    refine ax_iconst hX dX11_readPart_56 (v := 1) (by decide) ?_
    refine ax_iadd hX dX11_readPart_57 ?_
    refine tx_ias hX ly_113 (by decide) (Nat.lt_of_lt_of_le (by decide) hsz) hyp.1 dX11_readPart_58 ?_
    replace hyp := hyp.2
    exact hR.2.2.2 _ _ _ _ _ (by decide) (by decide) dX11_readPart_59 rfl ⟨_, rfl, rfl, hyp⟩
  · replace hyp := hyp.2 c
    exact hR.2.2.2 _ _ _ _ _ (by decide) (by decide) dX11_readPart_8 rfl ⟨_, rfl, rfl, hyp⟩
set_option maxRecDepth 10000 in
theorem s_X11_result_0 {X : ax_X} {d L sz : Nat} {T : tT} {Q : Int32 → tT → Prop} (hX : ax_ok X mX11_result (d + 1)) (hR : ax_Ret X mX11_result (ti L sz Q)) (hsz : 161 ≤ sz) (x0 : Int32) (x1 : Int32) (hyp : ∃ Q1, tiK d mX11_isEntry [.ref 105, .int x0] L sz T Q1 ∧ ∀ (r1 : Int32) (T1 : tT), Q1 r1 T1 → (((r1 = 0 → Q (-1 : Int32) T1) ∧ (¬ r1 = 0 → ∃ Q1, tiK d mX11_judge [.ref 105, .int x0] L sz T1 Q1 ∧ ∀ (r2 : Int32) (T2 : tT), Q1 r2 T2 → (((r2 = (-1 : Int32) → ∃ Q1, tiK d mX11_spotOf [.ref 105, .int x0] L sz T2 Q1 ∧ ∀ (r3 : Int32) (T3 : tT), Q1 r3 T3 → (ax_j X 28 [some (.ref 105), some (.int x0), some (.int x1), some (.int r3), some (.int (0 : Int32))] [] (th L sz T3) 0 0)) ∧ (¬ r2 = (-1 : Int32) → Q (-1 : Int32) T2))))))) : ax_j X 0 [some (.ref 105), some (.int x0), some (.int x1), none, none] [] (th L sz T) 0 0 := by
  refine ax_aload_n hX dX11_result_0 (Or.inr ⟨_, rfl⟩) rfl ?_
  refine ax_iload_n hX dX11_result_1 rfl ?_
  obtain ⟨Q1, hK, hyp⟩ := hyp
  refine ax_callV hX lRX11_362 im_X11_isEntry sl_X11_isEntry cw_X11_isEntry ((th_at (by decide) (Nat.lt_of_lt_of_le (by decide) hsz)).trans (tc_ob ly_105)) rfl rfl (A := [.int x0]) (st := []) rfl rfl (Nat.le_of_ble_eq_true rfl) (by decide) (by decide) dX11_result_2 hK ?_
  rintro _ _ ⟨r1, T1, rfl, rfl, hq⟩
  replace hyp := hyp r1 T1 hq
  refine ax_if_eq hX dX11_result_5 (tgt := 17) (by decide) (fun c => ?_) (fun c => ?_)
  · replace hyp := hyp.1 c
    refine ax_iconst hX dX11_result_17 (v := -1) (by decide) ?_
    exact hR.1 _ _ _ _ _ _ (by decide) (by decide) dX11_result_18 ⟨_, rfl, rfl⟩ ⟨_, _, rfl, rfl, hyp⟩
  · replace hyp := hyp.2 c
    refine ax_aload_n hX dX11_result_8 (Or.inr ⟨_, rfl⟩) rfl ?_
    refine ax_iload_n hX dX11_result_9 rfl ?_
    obtain ⟨Q1, hK, hyp⟩ := hyp
    refine ax_callV hX lRX11_457 im_X11_judge sl_X11_judge cw_X11_judge ((th_at (by decide) (Nat.lt_of_lt_of_le (by decide) hsz)).trans (tc_ob ly_105)) rfl rfl (A := [.int x0]) (st := []) rfl rfl (Nat.le_of_ble_eq_true rfl) (by decide) (by decide) dX11_result_10 hK ?_
    rintro _ _ ⟨r2, T2, rfl, rfl, hq⟩
    replace hyp := hyp r2 T2 hq
    refine ax_iconst hX dX11_result_13 (v := -1) (by decide) ?_
    refine ax_icmp_eq hX dX11_result_14 (tgt := 19) (by decide) (fun c => ?_) (fun c => ?_)
    · replace hyp := hyp.1 c
      refine ax_aload_n hX dX11_result_19 (Or.inr ⟨_, rfl⟩) rfl ?_
      refine ax_iload_n hX dX11_result_20 rfl ?_
      obtain ⟨Q1, hK, hyp⟩ := hyp
      refine ax_callV hX lRX11_388 im_X11_spotOf sl_X11_spotOf cw_X11_spotOf ((th_at (by decide) (Nat.lt_of_lt_of_le (by decide) hsz)).trans (tc_ob ly_105)) rfl rfl (A := [.int x0]) (st := []) rfl rfl (Nat.le_of_ble_eq_true rfl) (by decide) (by decide) dX11_result_21 hK ?_
      rintro _ _ ⟨r3, T3, rfl, rfl, hq⟩
      replace hyp := hyp r3 T3 hq
      refine ax_istore_n hX dX11_result_24 (by decide) (L' := [some (.ref 105), some (.int x0), some (.int x1), some (.int r3), none]) rfl ?_
      refine ax_iconst hX dX11_result_25 (v := 0) (by decide) ?_
      refine ax_istore hX dX11_result_26 (by decide) (L' := [some (.ref 105), some (.int x0), some (.int x1), some (.int r3), some (.int (0 : Int32))]) rfl ?_
      exact ax_forget (L' := [some (.ref 105), some (.int x0), some (.int x1), some (.int r3), some (.int (0 : Int32))]) (⟨rfl, ⟨rfl, ⟨rfl, ⟨rfl, ⟨rfl, trivial⟩⟩⟩⟩⟩) hyp
    · replace hyp := hyp.2 c
      refine ax_iconst hX dX11_result_17 (v := -1) (by decide) ?_
      exact hR.1 _ _ _ _ _ _ (by decide) (by decide) dX11_result_18 ⟨_, rfl, rfl⟩ ⟨_, _, rfl, rfl, hyp⟩
set_option maxRecDepth 10000 in
theorem s_X11_result_28 {X : ax_X} {d L sz : Nat} {T : tT} {Q : Int32 → tT → Prop} (hX : ax_ok X mX11_result (d + 1)) (hR : ax_Ret X mX11_result (ti L sz Q)) (hsz : 161 ≤ sz) (v1 : Int32) (v2 : Int32) (v3 : Int32) (v4 : Int32) (hyp : vp_in v3 40 ∧ (((T.1 113 (v3.toNatClampNeg)) ≤ v4 → vp_in v3 40 ∧ (((T.1 119 (v3.toNatClampNeg)) < 0 → vp_in v3 40 ∧ (((T.1 121 (v3.toNatClampNeg)) < 0 → Q (1 : Int32) T) ∧ (¬ (T.1 121 (v3.toNatClampNeg)) < 0 → vp_in v3 40 ∧ vp_in v3 40 ∧ ∃ Q1, tiK d mX11_work [.ref 105, .int (T.1 121 (v3.toNatClampNeg)), .int (T.1 122 (v3.toNatClampNeg)), .int v3, .int v1] L sz T Q1 ∧ ∀ (r1 : Int32) (T1 : tT), Q1 r1 T1 → (((r1 = 0 → Q (1 : Int32) T1) ∧ (¬ r1 = 0 → Q (2 : Int32) T1)))))) ∧ (¬ (T.1 119 (v3.toNatClampNeg)) < 0 → vp_in v3 40 ∧ vp_in v3 40 ∧ ∃ Q1, tiK d mX11_work [.ref 105, .int (T.1 119 (v3.toNatClampNeg)), .int (T.1 120 (v3.toNatClampNeg)), .int v3, .int v1] L sz T Q1 ∧ ∀ (r2 : Int32) (T2 : tT), Q1 r2 T2 → (((¬ r2 = 0 → vp_in v3 40 ∧ (((T2.1 121 (v3.toNatClampNeg)) < 0 → Q (1 : Int32) T2) ∧ (¬ (T2.1 121 (v3.toNatClampNeg)) < 0 → vp_in v3 40 ∧ vp_in v3 40 ∧ ∃ Q1, tiK d mX11_work [.ref 105, .int (T2.1 121 (v3.toNatClampNeg)), .int (T2.1 122 (v3.toNatClampNeg)), .int v3, .int v1] L sz T2 Q1 ∧ ∀ (r3 : Int32) (T3 : tT), Q1 r3 T3 → (((r3 = 0 → Q (1 : Int32) T3) ∧ (¬ r3 = 0 → Q (2 : Int32) T3)))))) ∧ (r2 = 0 → Q (0 : Int32) T2)))))) ∧ (¬ (T.1 113 (v3.toNatClampNeg)) ≤ v4 → ∃ Q1, tiK d mX11_known [.ref 105, .int v1, .int v4, .int v2] L sz T Q1 ∧ ∀ (r4 : Int32) (T4 : tT), Q1 r4 T4 → (vp_in v4 6 ∧ vp_in v4 6 ∧ ((0 ≤ ((tI T4 141 (v4.toNatClampNeg) r4).1 141 (v4.toNatClampNeg)) → ax_j X 28 [some (.ref 105), some (.int v1), some (.int v2), some (.int v3), some (.int (v4 + (1 : Int32)))] [] (th L sz (tI T4 141 (v4.toNatClampNeg) r4)) 0 0) ∧ (¬ 0 ≤ ((tI T4 141 (v4.toNatClampNeg) r4).1 141 (v4.toNatClampNeg)) → Q (-1 : Int32) (tI T4 141 (v4.toNatClampNeg) r4))))))) : ax_j X 28 [some (.ref 105), some (.int v1), some (.int v2), some (.int v3), some (.int v4)] [] (th L sz T) 0 0 := by
  refine ax_iload hX dX11_result_28 rfl ?_
  refine ax_aload_n hX dX11_result_30 (Or.inr ⟨_, rfl⟩) rfl ?_
  refine tx_getF hX fRX11_127 ly_105 (o := 8) (b := 113) fk_11_19 rfl (by decide) (Nat.lt_of_lt_of_le (by decide) hsz) dX11_result_31 ?_
  refine ax_iload_n hX dX11_result_34 rfl ?_
  refine tx_ial hX ly_113 (by decide) (Nat.lt_of_lt_of_le (by decide) hsz) hyp.1 dX11_result_35 ?_
  replace hyp := hyp.2
  refine ax_icmp_ge hX dX11_result_36 (tgt := 72) (by decide) (fun c => ?_) (fun c => ?_)
  · replace hyp := hyp.1 c
    refine ax_aload_n hX dX11_result_72 (Or.inr ⟨_, rfl⟩) rfl ?_
    refine tx_getF hX fRX11_145 ly_105 (o := 14) (b := 119) fk_11_25 rfl (by decide) (Nat.lt_of_lt_of_le (by decide) hsz) dX11_result_73 ?_
    refine ax_iload_n hX dX11_result_76 rfl ?_
    refine tx_ial hX ly_119 (by decide) (Nat.lt_of_lt_of_le (by decide) hsz) hyp.1 dX11_result_77 ?_
    replace hyp := hyp.2
    refine ax_if_lt hX dX11_result_78 (tgt := 104) (by decide) (fun c => ?_) (fun c => ?_)
    · replace hyp := hyp.1 c
      refine ax_aload_n hX dX11_result_104 (Or.inr ⟨_, rfl⟩) rfl ?_
      refine tx_getF hX fRX11_151 ly_105 (o := 16) (b := 121) fk_11_27 rfl (by decide) (Nat.lt_of_lt_of_le (by decide) hsz) dX11_result_105 ?_
      refine ax_iload_n hX dX11_result_108 rfl ?_
      refine tx_ial hX ly_121 (by decide) (Nat.lt_of_lt_of_le (by decide) hsz) hyp.1 dX11_result_109 ?_
      replace hyp := hyp.2
      refine ax_if_lt hX dX11_result_110 (tgt := 138) (by decide) (fun c => ?_) (fun c => ?_)
      · replace hyp := hyp.1 c
        refine ax_iconst hX dX11_result_138 (v := 1) (by decide) ?_
        exact hR.1 _ _ _ _ _ _ (by decide) (by decide) dX11_result_139 ⟨_, rfl, rfl⟩ ⟨_, _, rfl, rfl, hyp⟩
      · replace hyp := hyp.2 c
        refine ax_aload_n hX dX11_result_113 (Or.inr ⟨_, rfl⟩) rfl ?_
        refine ax_aload_n hX dX11_result_114 (Or.inr ⟨_, rfl⟩) rfl ?_
        refine tx_getF hX fRX11_151 ly_105 (o := 16) (b := 121) fk_11_27 rfl (by decide) (Nat.lt_of_lt_of_le (by decide) hsz) dX11_result_115 ?_
        refine ax_iload_n hX dX11_result_118 rfl ?_
        refine tx_ial hX ly_121 (by decide) (Nat.lt_of_lt_of_le (by decide) hsz) hyp.1 dX11_result_119 ?_
        replace hyp := hyp.2
        refine ax_aload_n hX dX11_result_120 (Or.inr ⟨_, rfl⟩) rfl ?_
        refine tx_getF hX fRX11_154 ly_105 (o := 17) (b := 122) fk_11_28 rfl (by decide) (Nat.lt_of_lt_of_le (by decide) hsz) dX11_result_121 ?_
        refine ax_iload_n hX dX11_result_124 rfl ?_
        refine tx_ial hX ly_122 (by decide) (Nat.lt_of_lt_of_le (by decide) hsz) hyp.1 dX11_result_125 ?_
        replace hyp := hyp.2
        refine ax_iload_n hX dX11_result_126 rfl ?_
        refine ax_iload_n hX dX11_result_127 rfl ?_
        obtain ⟨Q1, hK, hyp⟩ := hyp
        refine ax_callV hX lRX11_391 im_X11_work sl_X11_work cw_X11_work ((th_at (by decide) (Nat.lt_of_lt_of_le (by decide) hsz)).trans (tc_ob ly_105)) rfl rfl (A := [.int (T.1 121 (v3.toNatClampNeg)), .int (T.1 122 (v3.toNatClampNeg)), .int v3, .int v1]) (st := []) rfl rfl (Nat.le_of_ble_eq_true rfl) (by decide) (by decide) dX11_result_128 hK ?_
        rintro _ _ ⟨r1, T1, rfl, rfl, hq⟩
        replace hyp := hyp r1 T1 hq
        refine ax_if_eq hX dX11_result_131 (tgt := 138) (by decide) (fun c => ?_) (fun c => ?_)
        · replace hyp := hyp.1 c
          refine ax_iconst hX dX11_result_138 (v := 1) (by decide) ?_
          exact hR.1 _ _ _ _ _ _ (by decide) (by decide) dX11_result_139 ⟨_, rfl, rfl⟩ ⟨_, _, rfl, rfl, hyp⟩
        · replace hyp := hyp.2 c
          refine ax_iconst hX dX11_result_134 (v := 2) (by decide) ?_
          refine ax_goto hX dX11_result_135 (tgt := 139) (by decide) ?_
          exact hR.1 _ _ _ _ _ _ (by decide) (by decide) dX11_result_139 ⟨_, rfl, rfl⟩ ⟨_, _, rfl, rfl, hyp⟩
    · replace hyp := hyp.2 c
      refine ax_aload_n hX dX11_result_81 (Or.inr ⟨_, rfl⟩) rfl ?_
      refine ax_aload_n hX dX11_result_82 (Or.inr ⟨_, rfl⟩) rfl ?_
      refine tx_getF hX fRX11_145 ly_105 (o := 14) (b := 119) fk_11_25 rfl (by decide) (Nat.lt_of_lt_of_le (by decide) hsz) dX11_result_83 ?_
      refine ax_iload_n hX dX11_result_86 rfl ?_
      refine tx_ial hX ly_119 (by decide) (Nat.lt_of_lt_of_le (by decide) hsz) hyp.1 dX11_result_87 ?_
      replace hyp := hyp.2
      refine ax_aload_n hX dX11_result_88 (Or.inr ⟨_, rfl⟩) rfl ?_
      refine tx_getF hX fRX11_148 ly_105 (o := 15) (b := 120) fk_11_26 rfl (by decide) (Nat.lt_of_lt_of_le (by decide) hsz) dX11_result_89 ?_
      refine ax_iload_n hX dX11_result_92 rfl ?_
      refine tx_ial hX ly_120 (by decide) (Nat.lt_of_lt_of_le (by decide) hsz) hyp.1 dX11_result_93 ?_
      replace hyp := hyp.2
      refine ax_iload_n hX dX11_result_94 rfl ?_
      refine ax_iload_n hX dX11_result_95 rfl ?_
      obtain ⟨Q1, hK, hyp⟩ := hyp
      refine ax_callV hX lRX11_391 im_X11_work sl_X11_work cw_X11_work ((th_at (by decide) (Nat.lt_of_lt_of_le (by decide) hsz)).trans (tc_ob ly_105)) rfl rfl (A := [.int (T.1 119 (v3.toNatClampNeg)), .int (T.1 120 (v3.toNatClampNeg)), .int v3, .int v1]) (st := []) rfl rfl (Nat.le_of_ble_eq_true rfl) (by decide) (by decide) dX11_result_96 hK ?_
      rintro _ _ ⟨r2, T2, rfl, rfl, hq⟩
      replace hyp := hyp r2 T2 hq
      refine ax_if_ne hX dX11_result_99 (tgt := 104) (by decide) (fun c => ?_) (fun c => ?_)
      · replace hyp := hyp.1 c
        refine ax_aload_n hX dX11_result_104 (Or.inr ⟨_, rfl⟩) rfl ?_
        refine tx_getF hX fRX11_151 ly_105 (o := 16) (b := 121) fk_11_27 rfl (by decide) (Nat.lt_of_lt_of_le (by decide) hsz) dX11_result_105 ?_
        refine ax_iload_n hX dX11_result_108 rfl ?_
        refine tx_ial hX ly_121 (by decide) (Nat.lt_of_lt_of_le (by decide) hsz) hyp.1 dX11_result_109 ?_
        replace hyp := hyp.2
        refine ax_if_lt hX dX11_result_110 (tgt := 138) (by decide) (fun c => ?_) (fun c => ?_)
        · replace hyp := hyp.1 c
          refine ax_iconst hX dX11_result_138 (v := 1) (by decide) ?_
          exact hR.1 _ _ _ _ _ _ (by decide) (by decide) dX11_result_139 ⟨_, rfl, rfl⟩ ⟨_, _, rfl, rfl, hyp⟩
        · replace hyp := hyp.2 c
          refine ax_aload_n hX dX11_result_113 (Or.inr ⟨_, rfl⟩) rfl ?_
          refine ax_aload_n hX dX11_result_114 (Or.inr ⟨_, rfl⟩) rfl ?_
          refine tx_getF hX fRX11_151 ly_105 (o := 16) (b := 121) fk_11_27 rfl (by decide) (Nat.lt_of_lt_of_le (by decide) hsz) dX11_result_115 ?_
          refine ax_iload_n hX dX11_result_118 rfl ?_
          refine tx_ial hX ly_121 (by decide) (Nat.lt_of_lt_of_le (by decide) hsz) hyp.1 dX11_result_119 ?_
          replace hyp := hyp.2
          refine ax_aload_n hX dX11_result_120 (Or.inr ⟨_, rfl⟩) rfl ?_
          refine tx_getF hX fRX11_154 ly_105 (o := 17) (b := 122) fk_11_28 rfl (by decide) (Nat.lt_of_lt_of_le (by decide) hsz) dX11_result_121 ?_
          refine ax_iload_n hX dX11_result_124 rfl ?_
          refine tx_ial hX ly_122 (by decide) (Nat.lt_of_lt_of_le (by decide) hsz) hyp.1 dX11_result_125 ?_
          replace hyp := hyp.2
          refine ax_iload_n hX dX11_result_126 rfl ?_
          refine ax_iload_n hX dX11_result_127 rfl ?_
          obtain ⟨Q1, hK, hyp⟩ := hyp
          refine ax_callV hX lRX11_391 im_X11_work sl_X11_work cw_X11_work ((th_at (by decide) (Nat.lt_of_lt_of_le (by decide) hsz)).trans (tc_ob ly_105)) rfl rfl (A := [.int (T2.1 121 (v3.toNatClampNeg)), .int (T2.1 122 (v3.toNatClampNeg)), .int v3, .int v1]) (st := []) rfl rfl (Nat.le_of_ble_eq_true rfl) (by decide) (by decide) dX11_result_128 hK ?_
          rintro _ _ ⟨r3, T3, rfl, rfl, hq⟩
          replace hyp := hyp r3 T3 hq
          refine ax_if_eq hX dX11_result_131 (tgt := 138) (by decide) (fun c => ?_) (fun c => ?_)
          · replace hyp := hyp.1 c
            refine ax_iconst hX dX11_result_138 (v := 1) (by decide) ?_
            exact hR.1 _ _ _ _ _ _ (by decide) (by decide) dX11_result_139 ⟨_, rfl, rfl⟩ ⟨_, _, rfl, rfl, hyp⟩
          · replace hyp := hyp.2 c
            refine ax_iconst hX dX11_result_134 (v := 2) (by decide) ?_
            refine ax_goto hX dX11_result_135 (tgt := 139) (by decide) ?_
            exact hR.1 _ _ _ _ _ _ (by decide) (by decide) dX11_result_139 ⟨_, rfl, rfl⟩ ⟨_, _, rfl, rfl, hyp⟩
      · replace hyp := hyp.2 c
        refine ax_iconst hX dX11_result_102 (v := 0) (by decide) ?_
        exact hR.1 _ _ _ _ _ _ (by decide) (by decide) dX11_result_103 ⟨_, rfl, rfl⟩ ⟨_, _, rfl, rfl, hyp⟩
  · replace hyp := hyp.2 c
    refine ax_aload_n hX dX11_result_39 (Or.inr ⟨_, rfl⟩) rfl ?_
    refine tx_getF hX fRX11_212 ly_105 (o := 36) (b := 141) fk_11_50 rfl (by decide) (Nat.lt_of_lt_of_le (by decide) hsz) dX11_result_40 ?_
    refine ax_iload hX dX11_result_43 rfl ?_
    refine ax_aload_n hX dX11_result_45 (Or.inr ⟨_, rfl⟩) rfl ?_
    refine ax_iload_n hX dX11_result_46 rfl ?_
    refine ax_iload hX dX11_result_47 rfl ?_
    refine ax_iload_n hX dX11_result_49 rfl ?_
    obtain ⟨Q1, hK, hyp⟩ := hyp
    refine ax_callV hX lRX11_445 im_X11_known sl_X11_known cw_X11_known ((th_at (by decide) (Nat.lt_of_lt_of_le (by decide) hsz)).trans (tc_ob ly_105)) rfl rfl (A := [.int v1, .int v4, .int v2]) (st := [.int v4, .ref 141]) rfl rfl (Nat.le_of_ble_eq_true rfl) (by decide) (by decide) dX11_result_50 hK ?_
    rintro _ _ ⟨r4, T4, rfl, rfl, hq⟩
    replace hyp := hyp r4 T4 hq
    refine tx_ias hX ly_141 (by decide) (Nat.lt_of_lt_of_le (by decide) hsz) hyp.1 dX11_result_53 ?_
    replace hyp := hyp.2
    refine ax_aload_n hX dX11_result_54 (Or.inr ⟨_, rfl⟩) rfl ?_
    refine tx_getF hX fRX11_212 ly_105 (o := 36) (b := 141) fk_11_50 rfl (by decide) (Nat.lt_of_lt_of_le (by decide) hsz) dX11_result_55 ?_
    refine ax_iload hX dX11_result_58 rfl ?_
    refine tx_ial hX ly_141 (by decide) (Nat.lt_of_lt_of_le (by decide) hsz) hyp.1 dX11_result_60 ?_
    replace hyp := hyp.2
    refine ax_if_ge hX dX11_result_61 (tgt := 66) (by decide) (fun c => ?_) (fun c => ?_)
    · replace hyp := hyp.1 c
      refine ax_iinc hX dX11_result_66 rfl (w := (v4 + (1 : Int32))) rfl (by decide) (L' := [some (.ref 105), some (.int v1), some (.int v2), some (.int v3), some (.int (v4 + (1 : Int32)))]) rfl ?_
      refine ax_goto hX dX11_result_69 (tgt := 28) (by decide) ?_
      exact ax_forget (L' := [some (.ref 105), some (.int v1), some (.int v2), some (.int v3), some (.int (v4 + (1 : Int32)))]) (⟨rfl, ⟨rfl, ⟨rfl, ⟨rfl, ⟨rfl, trivial⟩⟩⟩⟩⟩) hyp
    · replace hyp := hyp.2 c
      refine ax_iconst hX dX11_result_64 (v := -1) (by decide) ?_
      exact hR.1 _ _ _ _ _ _ (by decide) (by decide) dX11_result_65 ⟨_, rfl, rfl⟩ ⟨_, _, rfl, rfl, hyp⟩
set_option maxRecDepth 10000 in
theorem s_X11_session_0 {X : ax_X} {d L sz : Nat} {T : tT} {Q : Int32 → tT → Prop} (hX : ax_ok X mX11_session (d + 1)) (hR : ax_Ret X mX11_session (ti L sz Q)) (hsz : 161 ≤ sz) (x0 : Int32) (x1 : Int32) (hyp : ∃ Q1, tiK d mX11_isCentre [.ref 105, .int x0] L sz T Q1 ∧ ∀ (r1 : Int32) (T1 : tT), Q1 r1 T1 → (((r1 = 0 → Q (-1 : Int32) T1) ∧ (¬ r1 = 0 → ((x1 < 0 → Q (-1 : Int32) T1) ∧ (¬ x1 < 0 → (((99 : Int32) < x1 → Q (-1 : Int32) T1) ∧ (¬ (99 : Int32) < x1 → ((¬ (T1.1 105 58) = (9 : Int32) → vp_in (T1.1 105 58) 9 ∧ vp_in (T1.1 105 58) 9 ∧ Q (((T1.1 105 58) + (1 : Int32)) - (1 : Int32)) (tI (tI (tI T1 145 ((T1.1 105 58).toNatClampNeg) x0) 146 ((T1.1 105 58).toNatClampNeg) x1) 105 58 ((T1.1 105 58) + (1 : Int32)))) ∧ ((T1.1 105 58) = (9 : Int32) → Q (-1 : Int32) T1)))))))))) : ax_j X 0 [some (.ref 105), some (.int x0), some (.int x1)] [] (th L sz T) 0 0 := by
  refine ax_aload_n hX dX11_session_0 (Or.inr ⟨_, rfl⟩) rfl ?_
  refine ax_iload_n hX dX11_session_1 rfl ?_
  obtain ⟨Q1, hK, hyp⟩ := hyp
  refine ax_callV hX lRX11_397 im_X11_isCentre sl_X11_isCentre cw_X11_isCentre ((th_at (by decide) (Nat.lt_of_lt_of_le (by decide) hsz)).trans (tc_ob ly_105)) rfl rfl (A := [.int x0]) (st := []) rfl rfl (Nat.le_of_ble_eq_true rfl) (by decide) (by decide) dX11_session_2 hK ?_
  rintro _ _ ⟨r1, T1, rfl, rfl, hq⟩
  replace hyp := hyp r1 T1 hq
  refine ax_if_eq hX dX11_session_5 (tgt := 27) (by decide) (fun c => ?_) (fun c => ?_)
  · replace hyp := hyp.1 c
    refine ax_iconst hX dX11_session_27 (v := -1) (by decide) ?_
    exact hR.1 _ _ _ _ _ _ (by decide) (by decide) dX11_session_28 ⟨_, rfl, rfl⟩ ⟨_, _, rfl, rfl, hyp⟩
  · replace hyp := hyp.2 c
    refine ax_iload_n hX dX11_session_8 rfl ?_
    refine ax_if_lt hX dX11_session_9 (tgt := 27) (by decide) (fun c => ?_) (fun c => ?_)
    · replace hyp := hyp.1 c
      refine ax_iconst hX dX11_session_27 (v := -1) (by decide) ?_
      exact hR.1 _ _ _ _ _ _ (by decide) (by decide) dX11_session_28 ⟨_, rfl, rfl⟩ ⟨_, _, rfl, rfl, hyp⟩
    · replace hyp := hyp.2 c
      refine ax_iload_n hX dX11_session_12 rfl ?_
      refine ax_bipush hX dX11_session_13 (v := 99) (by decide) ?_
      refine ax_icmp_gt hX dX11_session_15 (tgt := 27) (by decide) (fun c => ?_) (fun c => ?_)
      · replace hyp := hyp.1 c
        refine ax_iconst hX dX11_session_27 (v := -1) (by decide) ?_
        exact hR.1 _ _ _ _ _ _ (by decide) (by decide) dX11_session_28 ⟨_, rfl, rfl⟩ ⟨_, _, rfl, rfl, hyp⟩
      · replace hyp := hyp.2 c
        refine ax_aload_n hX dX11_session_18 (Or.inr ⟨_, rfl⟩) rfl ?_
        refine tx_getI hX fRX11_400 ly_105 fk_11_58 (by decide) (Nat.lt_of_lt_of_le (by decide) hsz) dX11_session_19 ?_
        refine ax_bipush hX dX11_session_22 (v := 9) (by decide) ?_
        refine ax_icmp_ne hX dX11_session_24 (tgt := 29) (by decide) (fun c => ?_) (fun c => ?_)
        · replace hyp := hyp.1 c
          refine ax_aload_n hX dX11_session_29 (Or.inr ⟨_, rfl⟩) rfl ?_
          refine tx_getF hX fRX11_224 ly_105 (o := 40) (b := 145) fk_11_54 rfl (by decide) (Nat.lt_of_lt_of_le (by decide) hsz) dX11_session_30 ?_
          refine ax_aload_n hX dX11_session_33 (Or.inr ⟨_, rfl⟩) rfl ?_
          refine tx_getI hX fRX11_400 ly_105 fk_11_58 (by decide) (Nat.lt_of_lt_of_le (by decide) hsz) dX11_session_34 ?_
          refine ax_iload_n hX dX11_session_37 rfl ?_
          refine tx_ias hX ly_145 (by decide) (Nat.lt_of_lt_of_le (by decide) hsz) hyp.1 dX11_session_38 ?_
          replace hyp := hyp.2
          refine ax_aload_n hX dX11_session_39 (Or.inr ⟨_, rfl⟩) rfl ?_
          refine tx_getF hX fRX11_227 ly_105 (o := 41) (b := 146) fk_11_55 rfl (by decide) (Nat.lt_of_lt_of_le (by decide) hsz) dX11_session_40 ?_
          refine ax_aload_n hX dX11_session_43 (Or.inr ⟨_, rfl⟩) rfl ?_
          refine tx_getI hX fRX11_400 ly_105 fk_11_58 (by decide) (Nat.lt_of_lt_of_le (by decide) hsz) dX11_session_44 ?_
          refine ax_iload_n hX dX11_session_47 rfl ?_
          refine tx_ias hX ly_146 (by decide) (Nat.lt_of_lt_of_le (by decide) hsz) hyp.1 dX11_session_48 ?_
          replace hyp := hyp.2
          refine ax_aload_n hX dX11_session_49 (Or.inr ⟨_, rfl⟩) rfl ?_
          refine ax_dup hX dX11_session_50 rfl ?_
          refine tx_getI hX fRX11_400 ly_105 fk_11_58 (by decide) (Nat.lt_of_lt_of_le (by decide) hsz) dX11_session_51 ?_
          refine ax_iconst hX dX11_session_54 (v := 1) (by decide) ?_
          refine ax_iadd hX dX11_session_55 ?_
          refine tx_putI hX fRX11_400 ly_105 fk_11_58 (by decide) (Nat.lt_of_lt_of_le (by decide) hsz) rfl rfl dX11_session_56 ?_
          refine ax_aload_n hX dX11_session_59 (Or.inr ⟨_, rfl⟩) rfl ?_
          refine tx_getI hX fRX11_400 ly_105 fk_11_58 (by decide) (Nat.lt_of_lt_of_le (by decide) hsz) dX11_session_60 ?_
          refine ax_iconst hX dX11_session_63 (v := 1) (by decide) ?_
          refine ax_isub hX dX11_session_64 ?_
          exact hR.1 _ _ _ _ _ _ (by decide) (by decide) dX11_session_65 ⟨_, rfl, rfl⟩ ⟨_, _, rfl, rfl, hyp⟩
        · replace hyp := hyp.2 c
          refine ax_iconst hX dX11_session_27 (v := -1) (by decide) ?_
          exact hR.1 _ _ _ _ _ _ (by decide) (by decide) dX11_session_28 ⟨_, rfl, rfl⟩ ⟨_, _, rfl, rfl, hyp⟩
set_option maxRecDepth 10000 in
theorem s_X11_sign_0 {X : ax_X} {d L sz : Nat} {T : tT} {Q : Int32 → tT → Prop} (hX : ax_ok X mX11_sign d) (hR : ax_Ret X mX11_sign (ti L sz Q)) (hsz : 161 ≤ sz) (x0 : Int32) (hyp : (((T.1 105 3) ≤ x0 → Q (0 : Int32) T) ∧ (¬ (T.1 105 3) ≤ x0 → vp_in x0 1400 ∧ Q ((T.1 107 (x0.toNatClampNeg)) &&& (255 : Int32)) T))) : ax_j X 0 [some (.ref 105), some (.int x0)] [] (th L sz T) 0 0 := by
  refine ax_iload_n hX dX11_sign_0 rfl ?_
  refine ax_aload_n hX dX11_sign_1 (Or.inr ⟨_, rfl⟩) rfl ?_
  refine tx_getI hX fRX11_1 ly_105 fk_11_3 (by decide) (Nat.lt_of_lt_of_le (by decide) hsz) dX11_sign_2 ?_
  refine ax_icmp_ge hX dX11_sign_5 (tgt := 21) (by decide) (fun c => ?_) (fun c => ?_)
  · replace hyp := hyp.1 c
    refine ax_iconst hX dX11_sign_21 (v := 0) (by decide) ?_
    exact hR.1 _ _ _ _ _ _ (by decide) (by decide) dX11_sign_22 ⟨_, rfl, rfl⟩ ⟨_, _, rfl, rfl, hyp⟩
  · replace hyp := hyp.2 c
    refine ax_aload_n hX dX11_sign_8 (Or.inr ⟨_, rfl⟩) rfl ?_
    refine tx_getF hX fRX11_7 ly_105 (o := 2) (b := 107) fk_11_1 rfl (by decide) (Nat.lt_of_lt_of_le (by decide) hsz) dX11_sign_9 ?_
    refine ax_iload_n hX dX11_sign_12 rfl ?_
    refine tx_bal hX ly_107 (by decide) (Nat.lt_of_lt_of_le (by decide) hsz) hyp.1 dX11_sign_13 ?_
    replace hyp := hyp.2
    refine ax_sipush hX dX11_sign_14 (v := 255) (by decide) ?_
    refine ax_iand hX dX11_sign_17 ?_
    refine ax_goto hX dX11_sign_18 (tgt := 22) (by decide) ?_
    exact hR.1 _ _ _ _ _ _ (by decide) (by decide) dX11_sign_22 ⟨_, rfl, rfl⟩ ⟨_, _, rfl, rfl, hyp⟩
set_option maxRecDepth 10000 in
theorem s_X11_solve_0 {X : ax_X} {d L sz : Nat} {T : tT} {Q : Int32 → tT → Prop} (hX : ax_ok X mX11_solve (d + 1)) (hR : ax_Ret X mX11_solve (ti L sz Q)) (hsz : 161 ≤ sz)  (hyp : ax_j X 9 [some (.ref 105), some (.int ((1 : Int32) <<< ((T.1 105 58) &&& 31))), some (.int (0 : Int32)), none, none, none, none] [] (th L sz T) 0 0) : ax_j X 0 [some (.ref 105), none, none, none, none, none, none] [] (th L sz T) 0 0 := by
  refine ax_iconst hX dX11_solve_0 (v := 1) (by decide) ?_
  refine ax_aload_n hX dX11_solve_1 (Or.inr ⟨_, rfl⟩) rfl ?_
  refine tx_getI hX fRX11_400 ly_105 fk_11_58 (by decide) (Nat.lt_of_lt_of_le (by decide) hsz) dX11_solve_2 ?_
  refine ax_ishl hX dX11_solve_5 ?_
  refine ax_istore_n hX dX11_solve_6 (by decide) (L' := [some (.ref 105), some (.int ((1 : Int32) <<< ((T.1 105 58) &&& 31))), none, none, none, none, none]) rfl ?_
  refine ax_iconst hX dX11_solve_7 (v := 0) (by decide) ?_
  refine ax_istore_n hX dX11_solve_8 (by decide) (L' := [some (.ref 105), some (.int ((1 : Int32) <<< ((T.1 105 58) &&& 31))), some (.int (0 : Int32)), none, none, none, none]) rfl ?_
  exact ax_forget (L' := [some (.ref 105), some (.int ((1 : Int32) <<< ((T.1 105 58) &&& 31))), some (.int (0 : Int32)), none, none, none, none]) (⟨rfl, ⟨rfl, ⟨rfl, trivial⟩⟩⟩) hyp
set_option maxRecDepth 10000 in
theorem s_X11_solve_9 {X : ax_X} {d L sz : Nat} {T : tT} {Q : Int32 → tT → Prop} (hX : ax_ok X mX11_solve (d + 1)) (hR : ax_Ret X mX11_solve (ti L sz Q)) (hsz : 161 ≤ sz) (v1 : Int32) (v2 : Int32) (hyp : ((v1 ≤ v2 → ax_j X 39 [some (.ref 105), some (.int v1), some (.int (0 : Int32)), none, none, none, none] [] (th L sz T) 0 0) ∧ (¬ v1 ≤ v2 → ((¬ v2 = 0 → vp_in v2 3072 ∧ ax_j X 9 [some (.ref 105), some (.int v1), some (.int (v2 + (1 : Int32))), none, none, none, none] [] (th L sz (tI T 148 (v2.toNatClampNeg) (1000000 : Int32))) 0 0) ∧ (v2 = 0 → vp_in v2 3072 ∧ ax_j X 9 [some (.ref 105), some (.int v1), some (.int (v2 + (1 : Int32))), none, none, none, none] [] (th L sz (tI T 148 (v2.toNatClampNeg) (0 : Int32))) 0 0))))) : ax_j X 9 [some (.ref 105), some (.int v1), some (.int v2), none, none, none, none] [] (th L sz T) 0 0 := by
  refine ax_iload_n hX dX11_solve_9 rfl ?_
  refine ax_iload_n hX dX11_solve_10 rfl ?_
  refine ax_icmp_ge hX dX11_solve_11 (tgt := 37) (by decide) (fun c => ?_) (fun c => ?_)
  · replace hyp := hyp.1 c
    refine ax_iconst hX dX11_solve_37 (v := 0) (by decide) ?_
    refine ax_istore_n hX dX11_solve_38 (by decide) (L' := [some (.ref 105), some (.int v1), some (.int (0 : Int32)), none, none, none, none]) rfl ?_
    exact ax_forget (L' := [some (.ref 105), some (.int v1), some (.int (0 : Int32)), none, none, none, none]) (⟨rfl, ⟨rfl, ⟨rfl, trivial⟩⟩⟩) hyp
  · replace hyp := hyp.2 c
    refine ax_aload_n hX dX11_solve_14 (Or.inr ⟨_, rfl⟩) rfl ?_
    refine tx_getF hX fRX11_233 ly_105 (o := 43) (b := 148) fk_11_60 rfl (by decide) (Nat.lt_of_lt_of_le (by decide) hsz) dX11_solve_15 ?_
    refine ax_iload_n hX dX11_solve_18 rfl ?_
    refine ax_iload_n hX dX11_solve_19 rfl ?_
    refine ax_if_ne hX dX11_solve_20 (tgt := 27) (by decide) (fun c => ?_) (fun c => ?_)
    · replace hyp := hyp.1 c
      refine ax_ldcw hX vRX11_422 dX11_solve_27 ?_
      refine tx_ias hX ly_148 (by decide) (Nat.lt_of_lt_of_le (by decide) hsz) hyp.1 dX11_solve_30 ?_
      replace hyp := hyp.2
      refine ax_iinc hX dX11_solve_31 rfl (w := (v2 + (1 : Int32))) rfl (by decide) (L' := [some (.ref 105), some (.int v1), some (.int (v2 + (1 : Int32))), none, none, none, none]) rfl ?_
      refine ax_goto hX dX11_solve_34 (tgt := 9) (by decide) ?_
      exact ax_forget (L' := [some (.ref 105), some (.int v1), some (.int (v2 + (1 : Int32))), none, none, none, none]) (⟨rfl, ⟨rfl, ⟨rfl, trivial⟩⟩⟩) hyp
    · replace hyp := hyp.2 c
      refine ax_iconst hX dX11_solve_23 (v := 0) (by decide) ?_
      refine ax_goto hX dX11_solve_24 (tgt := 30) (by decide) ?_
      refine tx_ias hX ly_148 (by decide) (Nat.lt_of_lt_of_le (by decide) hsz) hyp.1 dX11_solve_30 ?_
      replace hyp := hyp.2
      refine ax_iinc hX dX11_solve_31 rfl (w := (v2 + (1 : Int32))) rfl (by decide) (L' := [some (.ref 105), some (.int v1), some (.int (v2 + (1 : Int32))), none, none, none, none]) rfl ?_
      refine ax_goto hX dX11_solve_34 (tgt := 9) (by decide) ?_
      exact ax_forget (L' := [some (.ref 105), some (.int v1), some (.int (v2 + (1 : Int32))), none, none, none, none]) (⟨rfl, ⟨rfl, ⟨rfl, trivial⟩⟩⟩) hyp
set_option maxRecDepth 10000 in
theorem s_X11_solve_39 {X : ax_X} {d L sz : Nat} {T : tT} {Q : Int32 → tT → Prop} (hX : ax_ok X mX11_solve (d + 1)) (hR : ax_Ret X mX11_solve (ti L sz Q)) (hsz : 161 ≤ sz) (v1 : Int32) (v2 : Int32) (hyp : (((T.1 105 57) ≤ v2 → vp_in ((((512 : Int32) * (T.1 105 57)) + v1) - (1 : Int32)) 3072 ∧ Q (T.1 148 ((((512 : Int32) * (T.1 105 57)) + v1) - (1 : Int32)).toNatClampNeg) T) ∧ (¬ (T.1 105 57) ≤ v2 → ax_j X 49 [some (.ref 105), some (.int v1), some (.int v2), some (.int (0 : Int32)), none, none, none] [] (th L sz T) 0 0))) : ax_j X 39 [some (.ref 105), some (.int v1), some (.int v2), none, none, none, none] [] (th L sz T) 0 0 := by
  refine ax_iload_n hX dX11_solve_39 rfl ?_
  refine ax_aload_n hX dX11_solve_40 (Or.inr ⟨_, rfl⟩) rfl ?_
  refine tx_getI hX fRX11_357 ly_105 fk_11_57 (by decide) (Nat.lt_of_lt_of_le (by decide) hsz) dX11_solve_41 ?_
  refine ax_icmp_ge hX dX11_solve_44 (tgt := 234) (by decide) (fun c => ?_) (fun c => ?_)
  · replace hyp := hyp.1 c
    refine ax_aload_n hX dX11_solve_234 (Or.inr ⟨_, rfl⟩) rfl ?_
    refine tx_getF hX fRX11_233 ly_105 (o := 43) (b := 148) fk_11_60 rfl (by decide) (Nat.lt_of_lt_of_le (by decide) hsz) dX11_solve_235 ?_
    refine ax_sipush hX dX11_solve_238 (v := 512) (by decide) ?_
    refine ax_aload_n hX dX11_solve_241 (Or.inr ⟨_, rfl⟩) rfl ?_
    refine tx_getI hX fRX11_357 ly_105 fk_11_57 (by decide) (Nat.lt_of_lt_of_le (by decide) hsz) dX11_solve_242 ?_
    refine ax_imul hX dX11_solve_245 ?_
    refine ax_iload_n hX dX11_solve_246 rfl ?_
    refine ax_iadd hX dX11_solve_247 ?_
    refine ax_iconst hX dX11_solve_248 (v := 1) (by decide) ?_
    refine ax_isub hX dX11_solve_249 ?_
    refine tx_ial hX ly_148 (by decide) (Nat.lt_of_lt_of_le (by decide) hsz) hyp.1 dX11_solve_250 ?_
    replace hyp := hyp.2
    exact hR.1 _ _ _ _ _ _ (by decide) (by decide) dX11_solve_251 ⟨_, rfl, rfl⟩ ⟨_, _, rfl, rfl, hyp⟩
  · replace hyp := hyp.2 c
    refine ax_iconst hX dX11_solve_47 (v := 0) (by decide) ?_
    refine ax_istore_n hX dX11_solve_48 (by decide) (L' := [some (.ref 105), some (.int v1), some (.int v2), some (.int (0 : Int32)), none, none, none]) rfl ?_
    exact ax_forget (L' := [some (.ref 105), some (.int v1), some (.int v2), some (.int (0 : Int32)), none, none, none]) (⟨rfl, ⟨rfl, ⟨rfl, ⟨rfl, trivial⟩⟩⟩⟩) hyp
set_option maxRecDepth 10000 in
theorem s_X11_solve_49 {X : ax_X} {d L sz : Nat} {T : tT} {Q : Int32 → tT → Prop} (hX : ax_ok X mX11_solve (d + 1)) (hR : ax_Ret X mX11_solve (ti L sz Q)) (hsz : 161 ≤ sz) (v1 : Int32) (v2 : Int32) (v3 : Int32) (hyp : ((v1 ≤ v3 → ax_j X 79 [some (.ref 105), some (.int v1), some (.int v2), some (.int (0 : Int32)), none, none, none] [] (th L sz T) 0 0) ∧ (¬ v1 ≤ v3 → vp_in (((512 : Int32) * (v2 + (1 : Int32))) + v3) 3072 ∧ ax_j X 49 [some (.ref 105), some (.int v1), some (.int v2), some (.int (v3 + (1 : Int32))), none, none, none] [] (th L sz (tI T 148 ((((512 : Int32) * (v2 + (1 : Int32))) + v3).toNatClampNeg) (1000000 : Int32))) 0 0))) : ax_j X 49 [some (.ref 105), some (.int v1), some (.int v2), some (.int v3), none, none, none] [] (th L sz T) 0 0 := by
  refine ax_iload_n hX dX11_solve_49 rfl ?_
  refine ax_iload_n hX dX11_solve_50 rfl ?_
  refine ax_icmp_ge hX dX11_solve_51 (tgt := 77) (by decide) (fun c => ?_) (fun c => ?_)
  · replace hyp := hyp.1 c
    refine ax_iconst hX dX11_solve_77 (v := 0) (by decide) ?_
    refine ax_istore_n hX dX11_solve_78 (by decide) (L' := [some (.ref 105), some (.int v1), some (.int v2), some (.int (0 : Int32)), none, none, none]) rfl ?_
    exact ax_forget (L' := [some (.ref 105), some (.int v1), some (.int v2), some (.int (0 : Int32)), none, none, none]) (⟨rfl, ⟨rfl, ⟨rfl, ⟨rfl, trivial⟩⟩⟩⟩) hyp
  · replace hyp := hyp.2 c
    refine ax_aload_n hX dX11_solve_54 (Or.inr ⟨_, rfl⟩) rfl ?_
    refine tx_getF hX fRX11_233 ly_105 (o := 43) (b := 148) fk_11_60 rfl (by decide) (Nat.lt_of_lt_of_le (by decide) hsz) dX11_solve_55 ?_
    refine ax_sipush hX dX11_solve_58 (v := 512) (by decide) ?_
    refine ax_iload_n hX dX11_solve_61 rfl ?_
    refine ax_iconst hX dX11_solve_62 (v := 1) (by decide) ?_
    refine ax_iadd hX dX11_solve_63 ?_
    refine ax_imul hX dX11_solve_64 ?_
    refine ax_iload_n hX dX11_solve_65 rfl ?_
    refine ax_iadd hX dX11_solve_66 ?_
    refine ax_ldcw hX vRX11_422 dX11_solve_67 ?_
    refine tx_ias hX ly_148 (by decide) (Nat.lt_of_lt_of_le (by decide) hsz) hyp.1 dX11_solve_70 ?_
    replace hyp := hyp.2
    refine ax_iinc hX dX11_solve_71 rfl (w := (v3 + (1 : Int32))) rfl (by decide) (L' := [some (.ref 105), some (.int v1), some (.int v2), some (.int (v3 + (1 : Int32))), none, none, none]) rfl ?_
    refine ax_goto hX dX11_solve_74 (tgt := 49) (by decide) ?_
    exact ax_forget (L' := [some (.ref 105), some (.int v1), some (.int v2), some (.int (v3 + (1 : Int32))), none, none, none]) (⟨rfl, ⟨rfl, ⟨rfl, ⟨rfl, trivial⟩⟩⟩⟩) hyp
set_option maxRecDepth 10000 in
theorem s_X11_solve_79 {X : ax_X} {d L sz : Nat} {T : tT} {Q : Int32 → tT → Prop} (hX : ax_ok X mX11_solve (d + 1)) (hR : ax_Ret X mX11_solve (ti L sz Q)) (hsz : 161 ≤ sz) (v1 : Int32) (v2 : Int32) (v3 : Int32) (hyp : ((v1 ≤ v3 → ax_j X 39 [some (.ref 105), some (.int v1), some (.int (v2 + (1 : Int32))), none, none, none, none] [] (th L sz T) 0 0) ∧ (¬ v1 ≤ v3 → vp_in (((512 : Int32) * v2) + v3) 2560 ∧ (((1000000 : Int32) ≤ (T.1 147 (((512 : Int32) * v2) + v3).toNatClampNeg) → ax_j X 79 [some (.ref 105), some (.int v1), some (.int v2), some (.int (v3 + (1 : Int32))), none, none, none] [] (th L sz T) 0 0) ∧ (¬ (1000000 : Int32) ≤ (T.1 147 (((512 : Int32) * v2) + v3).toNatClampNeg) → ∃ Q1, tiK d mX11_agrees [.ref 105, .int v2, .int v3] L sz T Q1 ∧ ∀ (r1 : Int32) (T1 : tT), Q1 r1 T1 → (((¬ r1 = 0 → ax_j X 127 [some (.ref 105), some (.int v1), some (.int v2), some (.int v3), some (.int ((v1 - (1 : Int32)) &&& (v3 ^^^ (-1 : Int32)))), some (.int ((v1 - (1 : Int32)) &&& (v3 ^^^ (-1 : Int32)))), none] [] (th L sz T1) 0 0) ∧ (r1 = 0 → ax_j X 79 [some (.ref 105), some (.int v1), some (.int v2), some (.int (v3 + (1 : Int32))), none, none, none] [] (th L sz T1) 0 0)))))))) : ax_j X 79 [some (.ref 105), some (.int v1), some (.int v2), some (.int v3), none, none, none] [] (th L sz T) 0 0 := by
  refine ax_iload_n hX dX11_solve_79 rfl ?_
  refine ax_iload_n hX dX11_solve_80 rfl ?_
  refine ax_icmp_ge hX dX11_solve_81 (tgt := 228) (by decide) (fun c => ?_) (fun c => ?_)
  · replace hyp := hyp.1 c
    refine ax_iinc hX dX11_solve_228 rfl (w := (v2 + (1 : Int32))) rfl (by decide) (L' := [some (.ref 105), some (.int v1), some (.int (v2 + (1 : Int32))), some (.int v3), none, none, none]) rfl ?_
    refine ax_goto hX dX11_solve_231 (tgt := 39) (by decide) ?_
    exact ax_forget (L' := [some (.ref 105), some (.int v1), some (.int (v2 + (1 : Int32))), none, none, none, none]) (⟨rfl, ⟨rfl, ⟨rfl, trivial⟩⟩⟩) hyp
  · replace hyp := hyp.2 c
    refine ax_aload_n hX dX11_solve_84 (Or.inr ⟨_, rfl⟩) rfl ?_
    refine tx_getF hX fRX11_230 ly_105 (o := 42) (b := 147) fk_11_59 rfl (by decide) (Nat.lt_of_lt_of_le (by decide) hsz) dX11_solve_85 ?_
    refine ax_sipush hX dX11_solve_88 (v := 512) (by decide) ?_
    refine ax_iload_n hX dX11_solve_91 rfl ?_
    refine ax_imul hX dX11_solve_92 ?_
    refine ax_iload_n hX dX11_solve_93 rfl ?_
    refine ax_iadd hX dX11_solve_94 ?_
    refine tx_ial hX ly_147 (by decide) (Nat.lt_of_lt_of_le (by decide) hsz) hyp.1 dX11_solve_95 ?_
    replace hyp := hyp.2
    refine ax_ldcw hX vRX11_422 dX11_solve_96 ?_
    refine ax_icmp_ge hX dX11_solve_99 (tgt := 222) (by decide) (fun c => ?_) (fun c => ?_)
    · replace hyp := hyp.1 c
      refine ax_iinc hX dX11_solve_222 rfl (w := (v3 + (1 : Int32))) rfl (by decide) (L' := [some (.ref 105), some (.int v1), some (.int v2), some (.int (v3 + (1 : Int32))), none, none, none]) rfl ?_
      refine ax_goto hX dX11_solve_225 (tgt := 79) (by decide) ?_
      exact ax_forget (L' := [some (.ref 105), some (.int v1), some (.int v2), some (.int (v3 + (1 : Int32))), none, none, none]) (⟨rfl, ⟨rfl, ⟨rfl, ⟨rfl, trivial⟩⟩⟩⟩) hyp
    · replace hyp := hyp.2 c
      refine ax_aload_n hX dX11_solve_102 (Or.inr ⟨_, rfl⟩) rfl ?_
      refine ax_iload_n hX dX11_solve_103 rfl ?_
      refine ax_iload_n hX dX11_solve_104 rfl ?_
      obtain ⟨Q1, hK, hyp⟩ := hyp
      refine ax_callV hX lRX11_426 im_X11_agrees sl_X11_agrees cw_X11_agrees ((th_at (by decide) (Nat.lt_of_lt_of_le (by decide) hsz)).trans (tc_ob ly_105)) rfl rfl (A := [.int v2, .int v3]) (st := []) rfl rfl (Nat.le_of_ble_eq_true rfl) (by decide) (by decide) dX11_solve_105 hK ?_
      rintro _ _ ⟨r1, T1, rfl, rfl, hq⟩
      replace hyp := hyp r1 T1 hq
      refine ax_if_ne hX dX11_solve_108 (tgt := 114) (by decide) (fun c => ?_) (fun c => ?_)
      · replace hyp := hyp.1 c
        refine ax_iload_n hX dX11_solve_114 rfl ?_
        refine ax_iconst hX dX11_solve_115 (v := 1) (by decide) ?_
        refine ax_isub hX dX11_solve_116 ?_
        refine ax_iload_n hX dX11_solve_117 rfl ?_
        refine ax_iconst hX dX11_solve_118 (v := -1) (by decide) ?_
        refine ax_ixor hX dX11_solve_119 ?_
        refine ax_iand hX dX11_solve_120 ?_
        refine ax_istore hX dX11_solve_121 (by decide) (L' := [some (.ref 105), some (.int v1), some (.int v2), some (.int v3), some (.int ((v1 - (1 : Int32)) &&& (v3 ^^^ (-1 : Int32)))), none, none]) rfl ?_
        refine ax_iload hX dX11_solve_123 rfl ?_
        refine ax_istore hX dX11_solve_125 (by decide) (L' := [some (.ref 105), some (.int v1), some (.int v2), some (.int v3), some (.int ((v1 - (1 : Int32)) &&& (v3 ^^^ (-1 : Int32)))), some (.int ((v1 - (1 : Int32)) &&& (v3 ^^^ (-1 : Int32)))), none]) rfl ?_
        exact ax_forget (L' := [some (.ref 105), some (.int v1), some (.int v2), some (.int v3), some (.int ((v1 - (1 : Int32)) &&& (v3 ^^^ (-1 : Int32)))), some (.int ((v1 - (1 : Int32)) &&& (v3 ^^^ (-1 : Int32)))), none]) (⟨rfl, ⟨rfl, ⟨rfl, ⟨rfl, ⟨rfl, ⟨rfl, trivial⟩⟩⟩⟩⟩⟩) hyp
      · replace hyp := hyp.2 c
        refine ax_goto hX dX11_solve_111 (tgt := 222) (by decide) ?_
        refine ax_iinc hX dX11_solve_222 rfl (w := (v3 + (1 : Int32))) rfl (by decide) (L' := [some (.ref 105), some (.int v1), some (.int v2), some (.int (v3 + (1 : Int32))), none, none, none]) rfl ?_
        refine ax_goto hX dX11_solve_225 (tgt := 79) (by decide) ?_
        exact ax_forget (L' := [some (.ref 105), some (.int v1), some (.int v2), some (.int (v3 + (1 : Int32))), none, none, none]) (⟨rfl, ⟨rfl, ⟨rfl, ⟨rfl, trivial⟩⟩⟩⟩) hyp
set_option maxRecDepth 10000 in
theorem s_X11_solve_127 {X : ax_X} {d L sz : Nat} {T : tT} {Q : Int32 → tT → Prop} (hX : ax_ok X mX11_solve (d + 1)) (hR : ax_Ret X mX11_solve (ti L sz Q)) (hsz : 161 ≤ sz) (v1 : Int32) (v2 : Int32) (v3 : Int32) (v4 : Int32) (v5 : Int32) (hyp : ((v5 < 0 → ax_j X 79 [some (.ref 105), some (.int v1), some (.int v2), some (.int (v3 + (1 : Int32))), none, none, none] [] (th L sz T) 0 0) ∧ (¬ v5 < 0 → vp_in (((512 : Int32) * v2) + v5) 3072 ∧ vp_in (((512 : Int32) * v2) + v3) 2560 ∧ vp_in (((512 : Int32) * (v2 + (1 : Int32))) + (v5 ||| v3)) 3072 ∧ (((T.1 148 (((512 : Int32) * (v2 + (1 : Int32))) + (v5 ||| v3)).toNatClampNeg) ≤ ((T.1 148 (((512 : Int32) * v2) + v5).toNatClampNeg) + (T.1 147 (((512 : Int32) * v2) + v3).toNatClampNeg)) → ((¬ v5 = 0 → ax_j X 127 [some (.ref 105), some (.int v1), some (.int v2), some (.int v3), some (.int v4), some (.int ((v5 - (1 : Int32)) &&& v4)), none] [] (th L sz T) 0 0) ∧ (v5 = 0 → ax_j X 127 [some (.ref 105), some (.int v1), some (.int v2), some (.int v3), some (.int v4), some (.int (-1 : Int32)), none] [] (th L sz T) 0 0))) ∧ (¬ (T.1 148 (((512 : Int32) * (v2 + (1 : Int32))) + (v5 ||| v3)).toNatClampNeg) ≤ ((T.1 148 (((512 : Int32) * v2) + v5).toNatClampNeg) + (T.1 147 (((512 : Int32) * v2) + v3).toNatClampNeg)) → vp_in (((512 : Int32) * (v2 + (1 : Int32))) + (v5 ||| v3)) 3072 ∧ ((¬ v5 = 0 → ax_j X 127 [some (.ref 105), some (.int v1), some (.int v2), some (.int v3), some (.int v4), some (.int ((v5 - (1 : Int32)) &&& v4)), none] [] (th L sz (tI T 148 ((((512 : Int32) * (v2 + (1 : Int32))) + (v5 ||| v3)).toNatClampNeg) ((T.1 148 (((512 : Int32) * v2) + v5).toNatClampNeg) + (T.1 147 (((512 : Int32) * v2) + v3).toNatClampNeg)))) 0 0) ∧ (v5 = 0 → ax_j X 127 [some (.ref 105), some (.int v1), some (.int v2), some (.int v3), some (.int v4), some (.int (-1 : Int32)), none] [] (th L sz (tI T 148 ((((512 : Int32) * (v2 + (1 : Int32))) + (v5 ||| v3)).toNatClampNeg) ((T.1 148 (((512 : Int32) * v2) + v5).toNatClampNeg) + (T.1 147 (((512 : Int32) * v2) + v3).toNatClampNeg)))) 0 0))))))) : ax_j X 127 [some (.ref 105), some (.int v1), some (.int v2), some (.int v3), some (.int v4), some (.int v5), none] [] (th L sz T) 0 0 := by
  refine ax_iload hX dX11_solve_127 rfl ?_
  refine ax_if_lt hX dX11_solve_129 (tgt := 222) (by decide) (fun c => ?_) (fun c => ?_)
  · replace hyp := hyp.1 c
    refine ax_iinc hX dX11_solve_222 rfl (w := (v3 + (1 : Int32))) rfl (by decide) (L' := [some (.ref 105), some (.int v1), some (.int v2), some (.int (v3 + (1 : Int32))), some (.int v4), some (.int v5), none]) rfl ?_
    refine ax_goto hX dX11_solve_225 (tgt := 79) (by decide) ?_
    exact ax_forget (L' := [some (.ref 105), some (.int v1), some (.int v2), some (.int (v3 + (1 : Int32))), none, none, none]) (⟨rfl, ⟨rfl, ⟨rfl, ⟨rfl, trivial⟩⟩⟩⟩) hyp
  · replace hyp := hyp.2 c
    refine ax_aload_n hX dX11_solve_132 (Or.inr ⟨_, rfl⟩) rfl ?_
    refine tx_getF hX fRX11_233 ly_105 (o := 43) (b := 148) fk_11_60 rfl (by decide) (Nat.lt_of_lt_of_le (by decide) hsz) dX11_solve_133 ?_
    refine ax_sipush hX dX11_solve_136 (v := 512) (by decide) ?_
    refine ax_iload_n hX dX11_solve_139 rfl ?_
    refine ax_imul hX dX11_solve_140 ?_
    refine ax_iload hX dX11_solve_141 rfl ?_
    refine ax_iadd hX dX11_solve_143 ?_
    refine tx_ial hX ly_148 (by decide) (Nat.lt_of_lt_of_le (by decide) hsz) hyp.1 dX11_solve_144 ?_
    replace hyp := hyp.2
    refine ax_aload_n hX dX11_solve_145 (Or.inr ⟨_, rfl⟩) rfl ?_
    refine tx_getF hX fRX11_230 ly_105 (o := 42) (b := 147) fk_11_59 rfl (by decide) (Nat.lt_of_lt_of_le (by decide) hsz) dX11_solve_146 ?_
    refine ax_sipush hX dX11_solve_149 (v := 512) (by decide) ?_
    refine ax_iload_n hX dX11_solve_152 rfl ?_
    refine ax_imul hX dX11_solve_153 ?_
    refine ax_iload_n hX dX11_solve_154 rfl ?_
    refine ax_iadd hX dX11_solve_155 ?_
    refine tx_ial hX ly_147 (by decide) (Nat.lt_of_lt_of_le (by decide) hsz) hyp.1 dX11_solve_156 ?_
    replace hyp := hyp.2
    refine ax_iadd hX dX11_solve_157 ?_
    refine ax_istore hX dX11_solve_158 (by decide) (L' := [some (.ref 105), some (.int v1), some (.int v2), some (.int v3), some (.int v4), some (.int v5), some (.int ((T.1 148 (((512 : Int32) * v2) + v5).toNatClampNeg) + (T.1 147 (((512 : Int32) * v2) + v3).toNatClampNeg)))]) rfl ?_
    refine ax_iload hX dX11_solve_160 rfl ?_
    refine ax_aload_n hX dX11_solve_162 (Or.inr ⟨_, rfl⟩) rfl ?_
    refine tx_getF hX fRX11_233 ly_105 (o := 43) (b := 148) fk_11_60 rfl (by decide) (Nat.lt_of_lt_of_le (by decide) hsz) dX11_solve_163 ?_
    refine ax_sipush hX dX11_solve_166 (v := 512) (by decide) ?_
    refine ax_iload_n hX dX11_solve_169 rfl ?_
    refine ax_iconst hX dX11_solve_170 (v := 1) (by decide) ?_
    refine ax_iadd hX dX11_solve_171 ?_
    refine ax_imul hX dX11_solve_172 ?_
    refine ax_iload hX dX11_solve_173 rfl ?_
    refine ax_iload_n hX dX11_solve_175 rfl ?_
    refine ax_ior hX dX11_solve_176 ?_
    refine ax_iadd hX dX11_solve_177 ?_
    refine tx_ial hX ly_148 (by decide) (Nat.lt_of_lt_of_le (by decide) hsz) hyp.1 dX11_solve_178 ?_
    replace hyp := hyp.2
    refine ax_icmp_ge hX dX11_solve_179 (tgt := 201) (by decide) (fun c => ?_) (fun c => ?_)
    · replace hyp := hyp.1 c
      refine ax_iload hX dX11_solve_201 rfl ?_
      refine ax_if_ne hX dX11_solve_203 (tgt := 210) (by decide) (fun c => ?_) (fun c => ?_)
      · replace hyp := hyp.1 c
        refine ax_iload hX dX11_solve_210 rfl ?_
        refine ax_iconst hX dX11_solve_212 (v := 1) (by decide) ?_
        refine ax_isub hX dX11_solve_213 ?_
        refine ax_iload hX dX11_solve_214 rfl ?_
        refine ax_iand hX dX11_solve_216 ?_
        refine ax_istore hX dX11_solve_217 (by decide) (L' := [some (.ref 105), some (.int v1), some (.int v2), some (.int v3), some (.int v4), some (.int ((v5 - (1 : Int32)) &&& v4)), some (.int ((T.1 148 (((512 : Int32) * v2) + v5).toNatClampNeg) + (T.1 147 (((512 : Int32) * v2) + v3).toNatClampNeg)))]) rfl ?_
        refine ax_goto hX dX11_solve_219 (tgt := 127) (by decide) ?_
        exact ax_forget (L' := [some (.ref 105), some (.int v1), some (.int v2), some (.int v3), some (.int v4), some (.int ((v5 - (1 : Int32)) &&& v4)), none]) (⟨rfl, ⟨rfl, ⟨rfl, ⟨rfl, ⟨rfl, ⟨rfl, trivial⟩⟩⟩⟩⟩⟩) hyp
      · replace hyp := hyp.2 c
        refine ax_iconst hX dX11_solve_206 (v := -1) (by decide) ?_
        refine ax_goto hX dX11_solve_207 (tgt := 217) (by decide) ?_
        refine ax_istore hX dX11_solve_217 (by decide) (L' := [some (.ref 105), some (.int v1), some (.int v2), some (.int v3), some (.int v4), some (.int (-1 : Int32)), some (.int ((T.1 148 (((512 : Int32) * v2) + v5).toNatClampNeg) + (T.1 147 (((512 : Int32) * v2) + v3).toNatClampNeg)))]) rfl ?_
        refine ax_goto hX dX11_solve_219 (tgt := 127) (by decide) ?_
        exact ax_forget (L' := [some (.ref 105), some (.int v1), some (.int v2), some (.int v3), some (.int v4), some (.int (-1 : Int32)), none]) (⟨rfl, ⟨rfl, ⟨rfl, ⟨rfl, ⟨rfl, ⟨rfl, trivial⟩⟩⟩⟩⟩⟩) hyp
    · replace hyp := hyp.2 c
      refine ax_aload_n hX dX11_solve_182 (Or.inr ⟨_, rfl⟩) rfl ?_
      refine tx_getF hX fRX11_233 ly_105 (o := 43) (b := 148) fk_11_60 rfl (by decide) (Nat.lt_of_lt_of_le (by decide) hsz) dX11_solve_183 ?_
      refine ax_sipush hX dX11_solve_186 (v := 512) (by decide) ?_
      refine ax_iload_n hX dX11_solve_189 rfl ?_
      refine ax_iconst hX dX11_solve_190 (v := 1) (by decide) ?_
      refine ax_iadd hX dX11_solve_191 ?_
      refine ax_imul hX dX11_solve_192 ?_
      refine ax_iload hX dX11_solve_193 rfl ?_
      refine ax_iload_n hX dX11_solve_195 rfl ?_
      refine ax_ior hX dX11_solve_196 ?_
      refine ax_iadd hX dX11_solve_197 ?_
      refine ax_iload hX dX11_solve_198 rfl ?_
      refine tx_ias hX ly_148 (by decide) (Nat.lt_of_lt_of_le (by decide) hsz) hyp.1 dX11_solve_200 ?_
      replace hyp := hyp.2
      refine ax_iload hX dX11_solve_201 rfl ?_
      refine ax_if_ne hX dX11_solve_203 (tgt := 210) (by decide) (fun c => ?_) (fun c => ?_)
      · replace hyp := hyp.1 c
        refine ax_iload hX dX11_solve_210 rfl ?_
        refine ax_iconst hX dX11_solve_212 (v := 1) (by decide) ?_
        refine ax_isub hX dX11_solve_213 ?_
        refine ax_iload hX dX11_solve_214 rfl ?_
        refine ax_iand hX dX11_solve_216 ?_
        refine ax_istore hX dX11_solve_217 (by decide) (L' := [some (.ref 105), some (.int v1), some (.int v2), some (.int v3), some (.int v4), some (.int ((v5 - (1 : Int32)) &&& v4)), some (.int ((T.1 148 (((512 : Int32) * v2) + v5).toNatClampNeg) + (T.1 147 (((512 : Int32) * v2) + v3).toNatClampNeg)))]) rfl ?_
        refine ax_goto hX dX11_solve_219 (tgt := 127) (by decide) ?_
        exact ax_forget (L' := [some (.ref 105), some (.int v1), some (.int v2), some (.int v3), some (.int v4), some (.int ((v5 - (1 : Int32)) &&& v4)), none]) (⟨rfl, ⟨rfl, ⟨rfl, ⟨rfl, ⟨rfl, ⟨rfl, trivial⟩⟩⟩⟩⟩⟩) hyp
      · replace hyp := hyp.2 c
        refine ax_iconst hX dX11_solve_206 (v := -1) (by decide) ?_
        refine ax_goto hX dX11_solve_207 (tgt := 217) (by decide) ?_
        refine ax_istore hX dX11_solve_217 (by decide) (L' := [some (.ref 105), some (.int v1), some (.int v2), some (.int v3), some (.int v4), some (.int (-1 : Int32)), some (.int ((T.1 148 (((512 : Int32) * v2) + v5).toNatClampNeg) + (T.1 147 (((512 : Int32) * v2) + v3).toNatClampNeg)))]) rfl ?_
        refine ax_goto hX dX11_solve_219 (tgt := 127) (by decide) ?_
        exact ax_forget (L' := [some (.ref 105), some (.int v1), some (.int v2), some (.int v3), some (.int v4), some (.int (-1 : Int32)), none]) (⟨rfl, ⟨rfl, ⟨rfl, ⟨rfl, ⟨rfl, ⟨rfl, trivial⟩⟩⟩⟩⟩⟩) hyp
set_option maxRecDepth 10000 in
theorem s_X11_spot_0 {X : ax_X} {d L sz : Nat} {T : tT} {Q : Int32 → tT → Prop} (hX : ax_ok X mX11_spot d) (hR : ax_Ret X mX11_spot (ti L sz Q)) (hsz : 161 ≤ sz) (x0 : Int32) (x1 : Int32) (hyp : ((x0 < 0 → Q (-1 : Int32) T) ∧ (¬ x0 < 0 → (((4 : Int32) ≤ x0 → Q (-1 : Int32) T) ∧ (¬ (4 : Int32) ≤ x0 → vp_in x0 4 ∧ (((T.1 109 (x0.toNatClampNeg)) = 0 → Q (-1 : Int32) T) ∧ (¬ (T.1 109 (x0.toNatClampNeg)) = 0 → ((x1 < (1 : Int32) → Q (-1 : Int32) T) ∧ (¬ x1 < (1 : Int32) → ((x1 ≤ (8 : Int32) → vp_in x0 4 ∧ vp_in ((((8 : Int32) * (T.1 108 (x0.toNatClampNeg))) + x1) - (1 : Int32)) 40 ∧ (((T.1 110 ((((8 : Int32) * (T.1 108 (x0.toNatClampNeg))) + x1) - (1 : Int32)).toNatClampNeg) = 0 → Q (-1 : Int32) T) ∧ (¬ (T.1 110 ((((8 : Int32) * (T.1 108 (x0.toNatClampNeg))) + x1) - (1 : Int32)).toNatClampNeg) = 0 → Q ((((8 : Int32) * (T.1 108 (x0.toNatClampNeg))) + x1) - (1 : Int32)) T))) ∧ (¬ x1 ≤ (8 : Int32) → Q (-1 : Int32) T))))))))))) : ax_j X 0 [some (.ref 105), some (.int x0), some (.int x1), none] [] (th L sz T) 0 0 := by
  refine ax_iload_n hX dX11_spot_0 rfl ?_
  refine ax_if_lt hX dX11_spot_1 (tgt := 29) (by decide) (fun c => ?_) (fun c => ?_)
  · replace hyp := hyp.1 c
    refine ax_iconst hX dX11_spot_29 (v := -1) (by decide) ?_
    exact hR.1 _ _ _ _ _ _ (by decide) (by decide) dX11_spot_30 ⟨_, rfl, rfl⟩ ⟨_, _, rfl, rfl, hyp⟩
  · replace hyp := hyp.2 c
    refine ax_iload_n hX dX11_spot_4 rfl ?_
    refine ax_iconst hX dX11_spot_5 (v := 4) (by decide) ?_
    refine ax_icmp_ge hX dX11_spot_6 (tgt := 29) (by decide) (fun c => ?_) (fun c => ?_)
    · replace hyp := hyp.1 c
      refine ax_iconst hX dX11_spot_29 (v := -1) (by decide) ?_
      exact hR.1 _ _ _ _ _ _ (by decide) (by decide) dX11_spot_30 ⟨_, rfl, rfl⟩ ⟨_, _, rfl, rfl, hyp⟩
    · replace hyp := hyp.2 c
      refine ax_aload_n hX dX11_spot_9 (Or.inr ⟨_, rfl⟩) rfl ?_
      refine tx_getF hX fRX11_114 ly_105 (o := 4) (b := 109) fk_11_15 rfl (by decide) (Nat.lt_of_lt_of_le (by decide) hsz) dX11_spot_10 ?_
      refine ax_iload_n hX dX11_spot_13 rfl ?_
      refine tx_zal hX ly_109 (by decide) (Nat.lt_of_lt_of_le (by decide) hsz) hyp.1 dX11_spot_14 ?_
      replace hyp := hyp.2
      refine ax_if_eq hX dX11_spot_15 (tgt := 29) (by decide) (fun c => ?_) (fun c => ?_)
      · replace hyp := hyp.1 c
        refine ax_iconst hX dX11_spot_29 (v := -1) (by decide) ?_
        exact hR.1 _ _ _ _ _ _ (by decide) (by decide) dX11_spot_30 ⟨_, rfl, rfl⟩ ⟨_, _, rfl, rfl, hyp⟩
      · replace hyp := hyp.2 c
        refine ax_iload_n hX dX11_spot_18 rfl ?_
        refine ax_iconst hX dX11_spot_19 (v := 1) (by decide) ?_
        refine ax_icmp_lt hX dX11_spot_20 (tgt := 29) (by decide) (fun c => ?_) (fun c => ?_)
        · replace hyp := hyp.1 c
          refine ax_iconst hX dX11_spot_29 (v := -1) (by decide) ?_
          exact hR.1 _ _ _ _ _ _ (by decide) (by decide) dX11_spot_30 ⟨_, rfl, rfl⟩ ⟨_, _, rfl, rfl, hyp⟩
        · replace hyp := hyp.2 c
          refine ax_iload_n hX dX11_spot_23 rfl ?_
          refine ax_bipush hX dX11_spot_24 (v := 8) (by decide) ?_
          refine ax_icmp_le hX dX11_spot_26 (tgt := 31) (by decide) (fun c => ?_) (fun c => ?_)
          · replace hyp := hyp.1 c
            refine ax_bipush hX dX11_spot_31 (v := 8) (by decide) ?_
            refine ax_aload_n hX dX11_spot_33 (Or.inr ⟨_, rfl⟩) rfl ?_
            refine tx_getF hX fRX11_107 ly_105 (o := 3) (b := 108) fk_11_11 rfl (by decide) (Nat.lt_of_lt_of_le (by decide) hsz) dX11_spot_34 ?_
            refine ax_iload_n hX dX11_spot_37 rfl ?_
            refine tx_ial hX ly_108 (by decide) (Nat.lt_of_lt_of_le (by decide) hsz) hyp.1 dX11_spot_38 ?_
            replace hyp := hyp.2
            refine ax_imul hX dX11_spot_39 ?_
            refine ax_iload_n hX dX11_spot_40 rfl ?_
            refine ax_iadd hX dX11_spot_41 ?_
            refine ax_iconst hX dX11_spot_42 (v := 1) (by decide) ?_
            refine ax_isub hX dX11_spot_43 ?_
            refine ax_istore_n hX dX11_spot_44 (by decide) (L' := [some (.ref 105), some (.int x0), some (.int x1), some (.int ((((8 : Int32) * (T.1 108 (x0.toNatClampNeg))) + x1) - (1 : Int32)))]) rfl ?_
            refine ax_aload_n hX dX11_spot_45 (Or.inr ⟨_, rfl⟩) rfl ?_
            refine tx_getF hX fRX11_118 ly_105 (o := 5) (b := 110) fk_11_16 rfl (by decide) (Nat.lt_of_lt_of_le (by decide) hsz) dX11_spot_46 ?_
            refine ax_iload_n hX dX11_spot_49 rfl ?_
            refine tx_zal hX ly_110 (by decide) (Nat.lt_of_lt_of_le (by decide) hsz) hyp.1 dX11_spot_50 ?_
            replace hyp := hyp.2
            refine ax_if_eq hX dX11_spot_51 (tgt := 58) (by decide) (fun c => ?_) (fun c => ?_)
            · replace hyp := hyp.1 c
              refine ax_iconst hX dX11_spot_58 (v := -1) (by decide) ?_
              exact hR.1 _ _ _ _ _ _ (by decide) (by decide) dX11_spot_59 ⟨_, rfl, rfl⟩ ⟨_, _, rfl, rfl, hyp⟩
            · replace hyp := hyp.2 c
              refine ax_iload_n hX dX11_spot_54 rfl ?_
              refine ax_goto hX dX11_spot_55 (tgt := 59) (by decide) ?_
              exact hR.1 _ _ _ _ _ _ (by decide) (by decide) dX11_spot_59 ⟨_, rfl, rfl⟩ ⟨_, _, rfl, rfl, hyp⟩
          · replace hyp := hyp.2 c
            refine ax_iconst hX dX11_spot_29 (v := -1) (by decide) ?_
            exact hR.1 _ _ _ _ _ _ (by decide) (by decide) dX11_spot_30 ⟨_, rfl, rfl⟩ ⟨_, _, rfl, rfl, hyp⟩
set_option maxRecDepth 10000 in
theorem s_X11_spotOf_0 {X : ax_X} {d L sz : Nat} {T : tT} {Q : Int32 → tT → Prop} (hX : ax_ok X mX11_spotOf (d + 1)) (hR : ax_Ret X mX11_spotOf (ti L sz Q)) (hsz : 161 ≤ sz) (x0 : Int32) (hyp : vp_in x0 40 ∧ vp_in x0 40 ∧ ∃ Q1, tiK d mX11_spot [.ref 105, .int (T.1 132 (x0.toNatClampNeg)), .int (T.1 133 (x0.toNatClampNeg))] L sz T Q1 ∧ ∀ (r1 : Int32) (T1 : tT), Q1 r1 T1 → (Q r1 T1)) : ax_j X 0 [some (.ref 105), some (.int x0)] [] (th L sz T) 0 0 := by
  refine ax_aload_n hX dX11_spotOf_0 (Or.inr ⟨_, rfl⟩) rfl ?_
  refine ax_aload_n hX dX11_spotOf_1 (Or.inr ⟨_, rfl⟩) rfl ?_
  refine tx_getF hX fRX11_185 ly_105 (o := 27) (b := 132) fk_11_40 rfl (by decide) (Nat.lt_of_lt_of_le (by decide) hsz) dX11_spotOf_2 ?_
  refine ax_iload_n hX dX11_spotOf_5 rfl ?_
  refine tx_ial hX ly_132 (by decide) (Nat.lt_of_lt_of_le (by decide) hsz) hyp.1 dX11_spotOf_6 ?_
  replace hyp := hyp.2
  refine ax_aload_n hX dX11_spotOf_7 (Or.inr ⟨_, rfl⟩) rfl ?_
  refine tx_getF hX fRX11_188 ly_105 (o := 28) (b := 133) fk_11_41 rfl (by decide) (Nat.lt_of_lt_of_le (by decide) hsz) dX11_spotOf_8 ?_
  refine ax_iload_n hX dX11_spotOf_11 rfl ?_
  refine tx_ial hX ly_133 (by decide) (Nat.lt_of_lt_of_le (by decide) hsz) hyp.1 dX11_spotOf_12 ?_
  replace hyp := hyp.2
  obtain ⟨Q1, hK, hyp⟩ := hyp
  refine ax_callV hX lRX11_348 im_X11_spot sl_X11_spot cw_X11_spot ((th_at (by decide) (Nat.lt_of_lt_of_le (by decide) hsz)).trans (tc_ob ly_105)) rfl rfl (A := [.int (T.1 132 (x0.toNatClampNeg)), .int (T.1 133 (x0.toNatClampNeg))]) (st := []) rfl rfl (Nat.le_of_ble_eq_true rfl) (by decide) (by decide) dX11_spotOf_13 hK ?_
  rintro _ _ ⟨r1, T1, rfl, rfl, hq⟩
  replace hyp := hyp r1 T1 hq
  exact hR.1 _ _ _ _ _ _ (by decide) (by decide) dX11_spotOf_16 ⟨_, rfl, rfl⟩ ⟨_, _, rfl, rfl, hyp⟩
set_option maxRecDepth 10000 in
theorem s_X11_step_0 {X : ax_X} {d L sz : Nat} {T : tT} {Q : tT → Prop} (hX : ax_ok X mX11_step d) (hR : ax_Ret X mX11_step (tv L sz Q)) (hsz : 161 ≤ sz) (x0 : Int32) (x1 : Int32) (hyp : vp_in (((1500 : Int32) * (T.1 105 12)) + (T.1 105 14)) 7500 ∧ vp_in (((1500 : Int32) * (T.1 105 12)) + (T.1 105 14)) 7500 ∧ Q (tI (tI (tI T 123 ((((1500 : Int32) * (T.1 105 12)) + (T.1 105 14)).toNatClampNeg) x0) 124 ((((1500 : Int32) * (T.1 105 12)) + (T.1 105 14)).toNatClampNeg) x1) 105 14 ((T.1 105 14) + (1 : Int32)))) : ax_j X 0 [some (.ref 105), some (.int x0), some (.int x1)] [] (th L sz T) 0 0 := by
  refine ax_aload_n hX dX11_step_0 (Or.inr ⟨_, rfl⟩) rfl ?_
  refine tx_getF hX fRX11_157 ly_105 (o := 18) (b := 123) fk_11_29 rfl (by decide) (Nat.lt_of_lt_of_le (by decide) hsz) dX11_step_1 ?_
  refine ax_sipush hX dX11_step_4 (v := 1500) (by decide) ?_
  refine ax_aload_n hX dX11_step_7 (Or.inr ⟨_, rfl⟩) rfl ?_
  refine tx_getI hX fRX11_111 ly_105 fk_11_12 (by decide) (Nat.lt_of_lt_of_le (by decide) hsz) dX11_step_8 ?_
  refine ax_imul hX dX11_step_11 ?_
  refine ax_aload_n hX dX11_step_12 (Or.inr ⟨_, rfl⟩) rfl ?_
  refine tx_getI hX fRX11_278 ly_105 fk_11_14 (by decide) (Nat.lt_of_lt_of_le (by decide) hsz) dX11_step_13 ?_
  refine ax_iadd hX dX11_step_16 ?_
  refine ax_iload_n hX dX11_step_17 rfl ?_
  refine tx_ias hX ly_123 (by decide) (Nat.lt_of_lt_of_le (by decide) hsz) hyp.1 dX11_step_18 ?_
  replace hyp := hyp.2
  refine ax_aload_n hX dX11_step_19 (Or.inr ⟨_, rfl⟩) rfl ?_
  refine tx_getF hX fRX11_160 ly_105 (o := 19) (b := 124) fk_11_30 rfl (by decide) (Nat.lt_of_lt_of_le (by decide) hsz) dX11_step_20 ?_
  refine ax_sipush hX dX11_step_23 (v := 1500) (by decide) ?_
  refine ax_aload_n hX dX11_step_26 (Or.inr ⟨_, rfl⟩) rfl ?_
  refine tx_getI hX fRX11_111 ly_105 fk_11_12 (by decide) (Nat.lt_of_lt_of_le (by decide) hsz) dX11_step_27 ?_
  refine ax_imul hX dX11_step_30 ?_
  refine ax_aload_n hX dX11_step_31 (Or.inr ⟨_, rfl⟩) rfl ?_
  refine tx_getI hX fRX11_278 ly_105 fk_11_14 (by decide) (Nat.lt_of_lt_of_le (by decide) hsz) dX11_step_32 ?_
  refine ax_iadd hX dX11_step_35 ?_
  refine ax_iload_n hX dX11_step_36 rfl ?_
  refine tx_ias hX ly_124 (by decide) (Nat.lt_of_lt_of_le (by decide) hsz) hyp.1 dX11_step_37 ?_
  replace hyp := hyp.2
  refine ax_aload_n hX dX11_step_38 (Or.inr ⟨_, rfl⟩) rfl ?_
  refine ax_dup hX dX11_step_39 rfl ?_
  refine tx_getI hX fRX11_278 ly_105 fk_11_14 (by decide) (Nat.lt_of_lt_of_le (by decide) hsz) dX11_step_40 ?_
  refine ax_iconst hX dX11_step_43 (v := 1) (by decide) ?_
  refine ax_iadd hX dX11_step_44 ?_
  refine tx_putI hX fRX11_278 ly_105 fk_11_14 (by decide) (Nat.lt_of_lt_of_le (by decide) hsz) rfl rfl dX11_step_45 ?_
  exact hR.2.2.2 _ _ _ _ _ (by decide) (by decide) dX11_step_48 rfl ⟨_, rfl, rfl, hyp⟩
set_option maxRecDepth 10000 in
theorem s_X11_stuck_0 {X : ax_X} {d L sz : Nat} {T : tT} {Q : Int32 → tT → Prop} (hX : ax_ok X mX11_stuck (d + 1)) (hR : ax_Ret X mX11_stuck (ti L sz Q)) (hsz : 161 ≤ sz)  (hyp : ax_j X 2 [some (.ref 105), some (.int (0 : Int32)), none, none] [] (th L sz T) 0 0) : ax_j X 0 [some (.ref 105), none, none, none] [] (th L sz T) 0 0 := by
  refine ax_iconst hX dX11_stuck_0 (v := 0) (by decide) ?_
  refine ax_istore_n hX dX11_stuck_1 (by decide) (L' := [some (.ref 105), some (.int (0 : Int32)), none, none]) rfl ?_
  exact ax_forget (L' := [some (.ref 105), some (.int (0 : Int32)), none, none]) (⟨rfl, ⟨rfl, trivial⟩⟩) hyp
set_option maxRecDepth 10000 in
theorem s_X11_stuck_2 {X : ax_X} {d L sz : Nat} {T : tT} {Q : Int32 → tT → Prop} (hX : ax_ok X mX11_stuck (d + 1)) (hR : ax_Ret X mX11_stuck (ti L sz Q)) (hsz : 161 ≤ sz) (v1 : Int32) (hyp : (((T.1 105 58) ≤ v1 → Q (-1 : Int32) T) ∧ (¬ (T.1 105 58) ≤ v1 → ax_j X 14 [some (.ref 105), some (.int v1), some (.int (0 : Int32)), some (.int (0 : Int32))] [] (th L sz T) 0 0))) : ax_j X 2 [some (.ref 105), some (.int v1), none, none] [] (th L sz T) 0 0 := by
  refine ax_iload_n hX dX11_stuck_2 rfl ?_
  refine ax_aload_n hX dX11_stuck_3 (Or.inr ⟨_, rfl⟩) rfl ?_
  refine tx_getI hX fRX11_400 ly_105 fk_11_58 (by decide) (Nat.lt_of_lt_of_le (by decide) hsz) dX11_stuck_4 ?_
  refine ax_icmp_ge hX dX11_stuck_7 (tgt := 59) (by decide) (fun c => ?_) (fun c => ?_)
  · replace hyp := hyp.1 c
    refine ax_iconst hX dX11_stuck_59 (v := -1) (by decide) ?_
    exact hR.1 _ _ _ _ _ _ (by decide) (by decide) dX11_stuck_60 ⟨_, rfl, rfl⟩ ⟨_, _, rfl, rfl, hyp⟩
  · replace hyp := hyp.2 c
    refine ax_iconst hX dX11_stuck_10 (v := 0) (by decide) ?_
    refine ax_istore_n hX dX11_stuck_11 (by decide) (L' := [some (.ref 105), some (.int v1), some (.int (0 : Int32)), none]) rfl ?_
    refine ax_iconst hX dX11_stuck_12 (v := 0) (by decide) ?_
    refine ax_istore_n hX dX11_stuck_13 (by decide) (L' := [some (.ref 105), some (.int v1), some (.int (0 : Int32)), some (.int (0 : Int32))]) rfl ?_
    exact ax_forget (L' := [some (.ref 105), some (.int v1), some (.int (0 : Int32)), some (.int (0 : Int32))]) (⟨rfl, ⟨rfl, ⟨rfl, ⟨rfl, trivial⟩⟩⟩⟩) hyp
set_option maxRecDepth 10000 in
theorem s_X11_stuck_14 {X : ax_X} {d L sz : Nat} {T : tT} {Q : Int32 → tT → Prop} (hX : ax_ok X mX11_stuck (d + 1)) (hR : ax_Ret X mX11_stuck (ti L sz Q)) (hsz : 161 ≤ sz) (v1 : Int32) (v2 : Int32) (v3 : Int32) (hyp : (((T.1 105 57) ≤ v3 → ((¬ v2 = 0 → ax_j X 2 [some (.ref 105), some (.int (v1 + (1 : Int32))), none, none] [] (th L sz T) 0 0) ∧ (v2 = 0 → Q v1 T))) ∧ (¬ (T.1 105 57) ≤ v3 → ((¬ v2 = 0 → ax_j X 14 [some (.ref 105), some (.int v1), some (.int (1 : Int32)), some (.int (v3 + (1 : Int32)))] [] (th L sz T) 0 0) ∧ (v2 = 0 → ∃ Q1, tiK d mX11_mayTake [.ref 105, .int v3, .int v1] L sz T Q1 ∧ ∀ (r1 : Int32) (T1 : tT), Q1 r1 T1 → (((r1 = 0 → ax_j X 14 [some (.ref 105), some (.int v1), some (.int (0 : Int32)), some (.int (v3 + (1 : Int32)))] [] (th L sz T1) 0 0) ∧ (¬ r1 = 0 → ax_j X 14 [some (.ref 105), some (.int v1), some (.int (1 : Int32)), some (.int (v3 + (1 : Int32)))] [] (th L sz T1) 0 0)))))))) : ax_j X 14 [some (.ref 105), some (.int v1), some (.int v2), some (.int v3)] [] (th L sz T) 0 0 := by
  refine ax_iload_n hX dX11_stuck_14 rfl ?_
  refine ax_aload_n hX dX11_stuck_15 (Or.inr ⟨_, rfl⟩) rfl ?_
  refine tx_getI hX fRX11_357 ly_105 fk_11_57 (by decide) (Nat.lt_of_lt_of_le (by decide) hsz) dX11_stuck_16 ?_
  refine ax_icmp_ge hX dX11_stuck_19 (tgt := 47) (by decide) (fun c => ?_) (fun c => ?_)
  · replace hyp := hyp.1 c
    refine ax_iload_n hX dX11_stuck_47 rfl ?_
    refine ax_if_ne hX dX11_stuck_48 (tgt := 53) (by decide) (fun c => ?_) (fun c => ?_)
    · replace hyp := hyp.1 c
      refine ax_iinc hX dX11_stuck_53 rfl (w := (v1 + (1 : Int32))) rfl (by decide) (L' := [some (.ref 105), some (.int (v1 + (1 : Int32))), some (.int v2), some (.int v3)]) rfl ?_
      refine ax_goto hX dX11_stuck_56 (tgt := 2) (by decide) ?_
      exact ax_forget (L' := [some (.ref 105), some (.int (v1 + (1 : Int32))), none, none]) (⟨rfl, ⟨rfl, trivial⟩⟩) hyp
    · replace hyp := hyp.2 c
      refine ax_iload_n hX dX11_stuck_51 rfl ?_
      exact hR.1 _ _ _ _ _ _ (by decide) (by decide) dX11_stuck_52 ⟨_, rfl, rfl⟩ ⟨_, _, rfl, rfl, hyp⟩
  · replace hyp := hyp.2 c
    refine ax_iload_n hX dX11_stuck_22 rfl ?_
    refine ax_if_ne hX dX11_stuck_23 (tgt := 35) (by decide) (fun c => ?_) (fun c => ?_)
    · replace hyp := hyp.1 c
      refine ax_iconst hX dX11_stuck_35 (v := 1) (by decide) ?_
      refine ax_goto hX dX11_stuck_36 (tgt := 40) (by decide) ?_
      refine ax_istore_n hX dX11_stuck_40 (by decide) (L' := [some (.ref 105), some (.int v1), some (.int (1 : Int32)), some (.int v3)]) rfl ?_
      refine ax_iinc hX dX11_stuck_41 rfl (w := (v3 + (1 : Int32))) rfl (by decide) (L' := [some (.ref 105), some (.int v1), some (.int (1 : Int32)), some (.int (v3 + (1 : Int32)))]) rfl ?_
      refine ax_goto hX dX11_stuck_44 (tgt := 14) (by decide) ?_
      exact ax_forget (L' := [some (.ref 105), some (.int v1), some (.int (1 : Int32)), some (.int (v3 + (1 : Int32)))]) (⟨rfl, ⟨rfl, ⟨rfl, ⟨rfl, trivial⟩⟩⟩⟩) hyp
    · replace hyp := hyp.2 c
      refine ax_aload_n hX dX11_stuck_26 (Or.inr ⟨_, rfl⟩) rfl ?_
      refine ax_iload_n hX dX11_stuck_27 rfl ?_
      refine ax_iload_n hX dX11_stuck_28 rfl ?_
      obtain ⟨Q1, hK, hyp⟩ := hyp
      refine ax_callV hX lRX11_419 im_X11_mayTake sl_X11_mayTake cw_X11_mayTake ((th_at (by decide) (Nat.lt_of_lt_of_le (by decide) hsz)).trans (tc_ob ly_105)) rfl rfl (A := [.int v3, .int v1]) (st := []) rfl rfl (Nat.le_of_ble_eq_true rfl) (by decide) (by decide) dX11_stuck_29 hK ?_
      rintro _ _ ⟨r1, T1, rfl, rfl, hq⟩
      replace hyp := hyp r1 T1 hq
      refine ax_if_eq hX dX11_stuck_32 (tgt := 39) (by decide) (fun c => ?_) (fun c => ?_)
      · replace hyp := hyp.1 c
        refine ax_iconst hX dX11_stuck_39 (v := 0) (by decide) ?_
        refine ax_istore_n hX dX11_stuck_40 (by decide) (L' := [some (.ref 105), some (.int v1), some (.int (0 : Int32)), some (.int v3)]) rfl ?_
        refine ax_iinc hX dX11_stuck_41 rfl (w := (v3 + (1 : Int32))) rfl (by decide) (L' := [some (.ref 105), some (.int v1), some (.int (0 : Int32)), some (.int (v3 + (1 : Int32)))]) rfl ?_
        refine ax_goto hX dX11_stuck_44 (tgt := 14) (by decide) ?_
        exact ax_forget (L' := [some (.ref 105), some (.int v1), some (.int (0 : Int32)), some (.int (v3 + (1 : Int32)))]) (⟨rfl, ⟨rfl, ⟨rfl, ⟨rfl, trivial⟩⟩⟩⟩) hyp
      · replace hyp := hyp.2 c
        refine ax_iconst hX dX11_stuck_35 (v := 1) (by decide) ?_
        refine ax_goto hX dX11_stuck_36 (tgt := 40) (by decide) ?_
        refine ax_istore_n hX dX11_stuck_40 (by decide) (L' := [some (.ref 105), some (.int v1), some (.int (1 : Int32)), some (.int v3)]) rfl ?_
        refine ax_iinc hX dX11_stuck_41 rfl (w := (v3 + (1 : Int32))) rfl (by decide) (L' := [some (.ref 105), some (.int v1), some (.int (1 : Int32)), some (.int (v3 + (1 : Int32)))]) rfl ?_
        refine ax_goto hX dX11_stuck_44 (tgt := 14) (by decide) ?_
        exact ax_forget (L' := [some (.ref 105), some (.int v1), some (.int (1 : Int32)), some (.int (v3 + (1 : Int32)))]) (⟨rfl, ⟨rfl, ⟨rfl, ⟨rfl, trivial⟩⟩⟩⟩) hyp
set_option maxRecDepth 10000 in
theorem s_X11_syllabus_0 {X : ax_X} {d L sz : Nat} {T : tT} {Q : Int32 → tT → Prop} (hX : ax_ok X mX11_syllabus (d + 1)) (hR : ax_Ret X mX11_syllabus (ti L sz Q)) (hsz : 161 ≤ sz) (x0 : Int32) (hyp : ((x0 < 0 → Q (-2 : Int32) T) ∧ (¬ x0 < 0 → ((x0 < (4 : Int32) → ax_j X 32 [some (.ref 105), some (.int x0), some (.int (0 : Int32))] [] (th L sz (tI (tI (tI T 105 4 (0 : Int32)) 105 5 (-1 : Int32)) 105 3 (T.1 105 2))) 0 0) ∧ (¬ x0 < (4 : Int32) → Q (-2 : Int32) T))))) : ax_j X 0 [some (.ref 105), some (.int x0), none] [] (th L sz T) 0 0 := by
  refine ax_iload_n hX dX11_syllabus_0 rfl ?_
  refine ax_if_lt hX dX11_syllabus_1 (tgt := 9) (by decide) (fun c => ?_) (fun c => ?_)
  · replace hyp := hyp.1 c
    refine ax_bipush hX dX11_syllabus_9 (v := -2) (by decide) ?_
    exact hR.1 _ _ _ _ _ _ (by decide) (by decide) dX11_syllabus_11 ⟨_, rfl, rfl⟩ ⟨_, _, rfl, rfl, hyp⟩
  · replace hyp := hyp.2 c
    refine ax_iload_n hX dX11_syllabus_4 rfl ?_
    refine ax_iconst hX dX11_syllabus_5 (v := 4) (by decide) ?_
    refine ax_icmp_lt hX dX11_syllabus_6 (tgt := 12) (by decide) (fun c => ?_) (fun c => ?_)
    · replace hyp := hyp.1 c
      refine ax_aload_n hX dX11_syllabus_12 (Or.inr ⟨_, rfl⟩) rfl ?_
      refine ax_iconst hX dX11_syllabus_13 (v := 0) (by decide) ?_
      refine tx_putI hX fRX11_11 ly_105 fk_11_4 (by decide) (Nat.lt_of_lt_of_le (by decide) hsz) rfl rfl dX11_syllabus_14 ?_
      refine ax_aload_n hX dX11_syllabus_17 (Or.inr ⟨_, rfl⟩) rfl ?_
      refine ax_iconst hX dX11_syllabus_18 (v := -1) (by decide) ?_
      refine tx_putI hX fRX11_14 ly_105 fk_11_5 (by decide) (Nat.lt_of_lt_of_le (by decide) hsz) rfl rfl dX11_syllabus_19 ?_
      refine ax_aload_n hX dX11_syllabus_22 (Or.inr ⟨_, rfl⟩) rfl ?_
      refine ax_aload_n hX dX11_syllabus_23 (Or.inr ⟨_, rfl⟩) rfl ?_
      refine tx_getI hX fRX11_272 ly_105 fk_11_2 (by decide) (Nat.lt_of_lt_of_le (by decide) hsz) dX11_syllabus_24 ?_
      refine tx_putI hX fRX11_1 ly_105 fk_11_3 (by decide) (Nat.lt_of_lt_of_le (by decide) hsz) rfl rfl dX11_syllabus_27 ?_
      refine ax_iconst hX dX11_syllabus_30 (v := 0) (by decide) ?_
      refine ax_istore_n hX dX11_syllabus_31 (by decide) (L' := [some (.ref 105), some (.int x0), some (.int (0 : Int32))]) rfl ?_
      exact ax_forget (L' := [some (.ref 105), some (.int x0), some (.int (0 : Int32))]) (⟨rfl, ⟨rfl, ⟨rfl, trivial⟩⟩⟩) hyp
    · replace hyp := hyp.2 c
      refine ax_bipush hX dX11_syllabus_9 (v := -2) (by decide) ?_
      exact hR.1 _ _ _ _ _ _ (by decide) (by decide) dX11_syllabus_11 ⟨_, rfl, rfl⟩ ⟨_, _, rfl, rfl, hyp⟩
set_option maxRecDepth 10000 in
theorem s_X11_syllabus_32 {X : ax_X} {d L sz : Nat} {T : tT} {Q : Int32 → tT → Prop} (hX : ax_ok X mX11_syllabus (d + 1)) (hR : ax_Ret X mX11_syllabus (ti L sz Q)) (hsz : 161 ≤ sz) (v1 : Int32) (v2 : Int32) (hyp : (((T.1 105 3) ≤ v2 → vp_in (T.1 105 12) 5 ∧ ax_j X 90 [some (.ref 105), some (.int v1), some (.int (0 : Int32))] [] (th L sz (tI (tI (tI (tI (tI T 105 2 (0 : Int32)) 105 7 (0 : Int32)) 105 13 (0 : Int32)) 105 14 (0 : Int32)) 125 ((T.1 105 12).toNatClampNeg) (0 : Int32))) 0 0) ∧ (¬ (T.1 105 3) ≤ v2 → vp_in v2 1420 ∧ vp_in v2 1400 ∧ ax_j X 32 [some (.ref 105), some (.int v1), some (.int (v2 + (1 : Int32)))] [] (th L sz (tI T 107 (v2.toNatClampNeg) (T.1 106 (v2.toNatClampNeg)).toInt8.toInt32)) 0 0))) : ax_j X 32 [some (.ref 105), some (.int v1), some (.int v2)] [] (th L sz T) 0 0 := by
  refine ax_iload_n hX dX11_syllabus_32 rfl ?_
  refine ax_aload_n hX dX11_syllabus_33 (Or.inr ⟨_, rfl⟩) rfl ?_
  refine tx_getI hX fRX11_1 ly_105 fk_11_3 (by decide) (Nat.lt_of_lt_of_le (by decide) hsz) dX11_syllabus_34 ?_
  refine ax_icmp_ge hX dX11_syllabus_37 (tgt := 58) (by decide) (fun c => ?_) (fun c => ?_)
  · replace hyp := hyp.1 c
    refine ax_aload_n hX dX11_syllabus_58 (Or.inr ⟨_, rfl⟩) rfl ?_
    refine ax_iconst hX dX11_syllabus_59 (v := 0) (by decide) ?_
    refine tx_putI hX fRX11_272 ly_105 fk_11_2 (by decide) (Nat.lt_of_lt_of_le (by decide) hsz) rfl rfl dX11_syllabus_60 ?_
    refine ax_aload_n hX dX11_syllabus_63 (Or.inr ⟨_, rfl⟩) rfl ?_
    refine ax_iconst hX dX11_syllabus_64 (v := 0) (by decide) ?_
    refine tx_putI hX fRX11_51 ly_105 fk_11_7 (by decide) (Nat.lt_of_lt_of_le (by decide) hsz) rfl rfl dX11_syllabus_65 ?_
    refine ax_aload_n hX dX11_syllabus_68 (Or.inr ⟨_, rfl⟩) rfl ?_
    refine ax_iconst hX dX11_syllabus_69 (v := 0) (by decide) ?_
    refine tx_putI hX fRX11_275 ly_105 fk_11_13 (by decide) (Nat.lt_of_lt_of_le (by decide) hsz) rfl rfl dX11_syllabus_70 ?_
    refine ax_aload_n hX dX11_syllabus_73 (Or.inr ⟨_, rfl⟩) rfl ?_
    refine ax_iconst hX dX11_syllabus_74 (v := 0) (by decide) ?_
    refine tx_putI hX fRX11_278 ly_105 fk_11_14 (by decide) (Nat.lt_of_lt_of_le (by decide) hsz) rfl rfl dX11_syllabus_75 ?_
    refine ax_aload_n hX dX11_syllabus_78 (Or.inr ⟨_, rfl⟩) rfl ?_
    refine tx_getF hX fRX11_163 ly_105 (o := 20) (b := 125) fk_11_31 rfl (by decide) (Nat.lt_of_lt_of_le (by decide) hsz) dX11_syllabus_79 ?_
    refine ax_aload_n hX dX11_syllabus_82 (Or.inr ⟨_, rfl⟩) rfl ?_
    refine tx_getI hX fRX11_111 ly_105 fk_11_12 (by decide) (Nat.lt_of_lt_of_le (by decide) hsz) dX11_syllabus_83 ?_
    refine ax_iconst hX dX11_syllabus_86 (v := 0) (by decide) ?_
    refine tx_ias hX ly_125 (by decide) (Nat.lt_of_lt_of_le (by decide) hsz) hyp.1 dX11_syllabus_87 ?_
    replace hyp := hyp.2
    refine ax_iconst hX dX11_syllabus_88 (v := 0) (by decide) ?_
    refine ax_istore_n hX dX11_syllabus_89 (by decide) (L' := [some (.ref 105), some (.int v1), some (.int (0 : Int32))]) rfl ?_
    exact ax_forget (L' := [some (.ref 105), some (.int v1), some (.int (0 : Int32))]) (⟨rfl, ⟨rfl, ⟨rfl, trivial⟩⟩⟩) hyp
  · replace hyp := hyp.2 c
    refine ax_aload_n hX dX11_syllabus_40 (Or.inr ⟨_, rfl⟩) rfl ?_
    refine tx_getF hX fRX11_7 ly_105 (o := 2) (b := 107) fk_11_1 rfl (by decide) (Nat.lt_of_lt_of_le (by decide) hsz) dX11_syllabus_41 ?_
    refine ax_iload_n hX dX11_syllabus_44 rfl ?_
    refine ax_aload_n hX dX11_syllabus_45 (Or.inr ⟨_, rfl⟩) rfl ?_
    refine tx_getF hX fRX11_104 ly_105 (o := 1) (b := 106) fk_11_0 rfl (by decide) (Nat.lt_of_lt_of_le (by decide) hsz) dX11_syllabus_46 ?_
    refine ax_iload_n hX dX11_syllabus_49 rfl ?_
    refine tx_bal hX ly_106 (by decide) (Nat.lt_of_lt_of_le (by decide) hsz) hyp.1 dX11_syllabus_50 ?_
    replace hyp := hyp.2
    refine tx_bas hX ly_107 (by decide) (Nat.lt_of_lt_of_le (by decide) hsz) hyp.1 dX11_syllabus_51 ?_
    replace hyp := hyp.2
    refine ax_iinc hX dX11_syllabus_52 rfl (w := (v2 + (1 : Int32))) rfl (by decide) (L' := [some (.ref 105), some (.int v1), some (.int (v2 + (1 : Int32)))]) rfl ?_
    refine ax_goto hX dX11_syllabus_55 (tgt := 32) (by decide) ?_
    exact ax_forget (L' := [some (.ref 105), some (.int v1), some (.int (v2 + (1 : Int32)))]) (⟨rfl, ⟨rfl, ⟨rfl, trivial⟩⟩⟩) hyp
set_option maxRecDepth 10000 in
theorem s_X11_syllabus_90 {X : ax_X} {d L sz : Nat} {T : tT} {Q : Int32 → tT → Prop} (hX : ax_ok X mX11_syllabus (d + 1)) (hR : ax_Ret X mX11_syllabus (ti L sz Q)) (hsz : 161 ≤ sz) (v1 : Int32) (v2 : Int32) (hyp : (((8 : Int32) ≤ v2 → ∃ Q1, tvK d mX11_next [.ref 105] L sz T Q1 ∧ ∀ (T1 : tT), Q1 T1 → (ax_j X 121 [some (.ref 105), some (.int v1), none] [] (th L sz T1) 0 0)) ∧ (¬ (8 : Int32) ≤ v2 → vp_in (((8 : Int32) * (T.1 105 12)) + v2) 40 ∧ ax_j X 90 [some (.ref 105), some (.int v1), some (.int (v2 + (1 : Int32)))] [] (th L sz (tI T 110 ((((8 : Int32) * (T.1 105 12)) + v2).toNatClampNeg) ((0 : Int32) &&& 1))) 0 0))) : ax_j X 90 [some (.ref 105), some (.int v1), some (.int v2)] [] (th L sz T) 0 0 := by
  refine ax_iload_n hX dX11_syllabus_90 rfl ?_
  refine ax_bipush hX dX11_syllabus_91 (v := 8) (by decide) ?_
  refine ax_icmp_ge hX dX11_syllabus_93 (tgt := 117) (by decide) (fun c => ?_) (fun c => ?_)
  · replace hyp := hyp.1 c
    refine ax_aload_n hX dX11_syllabus_117 (Or.inr ⟨_, rfl⟩) rfl ?_
    obtain ⟨Q1, hK, hyp⟩ := hyp
    refine ax_callV hX lRX11_88 im_X11_next sl_X11_next cw_X11_next ((th_at (by decide) (Nat.lt_of_lt_of_le (by decide) hsz)).trans (tc_ob ly_105)) rfl rfl (A := []) (st := []) rfl rfl (Nat.le_of_ble_eq_true rfl) (by decide) (by decide) dX11_syllabus_118 hK ?_
    rintro _ _ ⟨T1, rfl, rfl, hq⟩
    replace hyp := hyp T1 hq
    exact ax_forget (L' := [some (.ref 105), some (.int v1), none]) (⟨rfl, ⟨rfl, trivial⟩⟩) hyp
  · replace hyp := hyp.2 c
    refine ax_aload_n hX dX11_syllabus_96 (Or.inr ⟨_, rfl⟩) rfl ?_
    refine tx_getF hX fRX11_118 ly_105 (o := 5) (b := 110) fk_11_16 rfl (by decide) (Nat.lt_of_lt_of_le (by decide) hsz) dX11_syllabus_97 ?_
    refine ax_bipush hX dX11_syllabus_100 (v := 8) (by decide) ?_
    refine ax_aload_n hX dX11_syllabus_102 (Or.inr ⟨_, rfl⟩) rfl ?_
    refine tx_getI hX fRX11_111 ly_105 fk_11_12 (by decide) (Nat.lt_of_lt_of_le (by decide) hsz) dX11_syllabus_103 ?_
    refine ax_imul hX dX11_syllabus_106 ?_
    refine ax_iload_n hX dX11_syllabus_107 rfl ?_
    refine ax_iadd hX dX11_syllabus_108 ?_
    refine ax_iconst hX dX11_syllabus_109 (v := 0) (by decide) ?_
    refine tx_zas hX ly_110 (by decide) (Nat.lt_of_lt_of_le (by decide) hsz) hyp.1 dX11_syllabus_110 ?_
    replace hyp := hyp.2
    refine ax_iinc hX dX11_syllabus_111 rfl (w := (v2 + (1 : Int32))) rfl (by decide) (L' := [some (.ref 105), some (.int v1), some (.int (v2 + (1 : Int32)))]) rfl ?_
    refine ax_goto hX dX11_syllabus_114 (tgt := 90) (by decide) ?_
    exact ax_forget (L' := [some (.ref 105), some (.int v1), some (.int (v2 + (1 : Int32)))]) (⟨rfl, ⟨rfl, ⟨rfl, trivial⟩⟩⟩) hyp
set_option maxRecDepth 10000 in
theorem s_X11_syllabus_121 {X : ax_X} {d L sz : Nat} {T : tT} {Q : Int32 → tT → Prop} (hX : ax_ok X mX11_syllabus (d + 1)) (hR : ax_Ret X mX11_syllabus (ti L sz Q)) (hsz : 161 ≤ sz) (v1 : Int32) (hyp : ∃ Q1, tiK d mX11_isGood [.ref 105] L sz T Q1 ∧ ∀ (r1 : Int32) (T1 : tT), Q1 r1 T1 → (((r1 = 0 → ax_j X 142 [some (.ref 105), some (.int v1), none] [] (th L sz T1) 0 0) ∧ (¬ r1 = 0 → (((T1.1 105 8) = 0 → ax_j X 142 [some (.ref 105), some (.int v1), none] [] (th L sz T1) 0 0) ∧ (¬ (T1.1 105 8) = 0 → ∃ Q1, tvK d mX11_readGrade [.ref 105] L sz T1 Q1 ∧ ∀ (T2 : tT), Q1 T2 → (ax_j X 121 [some (.ref 105), some (.int v1), none] [] (th L sz T2) 0 0))))))) : ax_j X 121 [some (.ref 105), some (.int v1), none] [] (th L sz T) 0 0 := by
  refine ax_aload_n hX dX11_syllabus_121 (Or.inr ⟨_, rfl⟩) rfl ?_
  obtain ⟨Q1, hK, hyp⟩ := hyp
  refine ax_callV hX lRX11_95 im_X11_isGood sl_X11_isGood cw_X11_isGood ((th_at (by decide) (Nat.lt_of_lt_of_le (by decide) hsz)).trans (tc_ob ly_105)) rfl rfl (A := []) (st := []) rfl rfl (Nat.le_of_ble_eq_true rfl) (by decide) (by decide) dX11_syllabus_122 hK ?_
  rintro _ _ ⟨r1, T1, rfl, rfl, hq⟩
  replace hyp := hyp r1 T1 hq
  refine ax_if_eq hX dX11_syllabus_125 (tgt := 142) (by decide) (fun c => ?_) (fun c => ?_)
  · replace hyp := hyp.1 c
    exact ax_forget (L' := [some (.ref 105), some (.int v1), none]) (⟨rfl, ⟨rfl, trivial⟩⟩) hyp
  · replace hyp := hyp.2 c
    refine ax_aload_n hX dX11_syllabus_128 (Or.inr ⟨_, rfl⟩) rfl ?_
    refine tx_getI hX fRX11_61 ly_105 fk_11_8 (by decide) (Nat.lt_of_lt_of_le (by decide) hsz) dX11_syllabus_129 ?_
    refine ax_if_eq hX dX11_syllabus_132 (tgt := 142) (by decide) (fun c => ?_) (fun c => ?_)
    · replace hyp := hyp.1 c
      exact ax_forget (L' := [some (.ref 105), some (.int v1), none]) (⟨rfl, ⟨rfl, trivial⟩⟩) hyp
    · replace hyp := hyp.2 c
      refine ax_aload_n hX dX11_syllabus_135 (Or.inr ⟨_, rfl⟩) rfl ?_
      obtain ⟨Q1, hK, hyp⟩ := hyp
      refine ax_callV hX lRX11_281 im_X11_readGrade sl_X11_readGrade cw_X11_readGrade ((th_at (by decide) (Nat.lt_of_lt_of_le (by decide) hsz)).trans (tc_ob ly_105)) rfl rfl (A := []) (st := []) rfl rfl (Nat.le_of_ble_eq_true rfl) (by decide) (by decide) dX11_syllabus_136 hK ?_
      rintro _ _ ⟨T2, rfl, rfl, hq⟩
      replace hyp := hyp T2 hq
      refine ax_goto hX dX11_syllabus_139 (tgt := 121) (by decide) ?_
      exact ax_forget (L' := [some (.ref 105), some (.int v1), none]) (⟨rfl, ⟨rfl, trivial⟩⟩) hyp
set_option maxRecDepth 10000 in
theorem s_X11_syllabus_142 {X : ax_X} {d L sz : Nat} {T : tT} {Q : Int32 → tT → Prop} (hX : ax_ok X mX11_syllabus (d + 1)) (hR : ax_Ret X mX11_syllabus (ti L sz Q)) (hsz : 161 ≤ sz) (v1 : Int32) (hyp : ∃ Q1, tiK d mX11_isGood [.ref 105] L sz T Q1 ∧ ∀ (r1 : Int32) (T1 : tT), Q1 r1 T1 → (((¬ r1 = 0 → vp_in v1 4 ∧ vp_in v1 4 ∧ vp_in v1 4 ∧ vp_in v1 4 ∧ vp_in ((tI T1 108 (v1.toNatClampNeg) (T1.1 105 12)).1 108 (v1.toNatClampNeg)) 5 ∧ Q (T1.1 125 ((tI T1 108 (v1.toNatClampNeg) (T1.1 105 12)).1 108 (v1.toNatClampNeg)).toNatClampNeg) (tI (tI (tI T1 108 (v1.toNatClampNeg) (T1.1 105 12)) 105 12 (T1.1 108 (v1.toNatClampNeg))) 109 (v1.toNatClampNeg) ((1 : Int32) &&& 1))) ∧ (r1 = 0 → Q (-1 : Int32) T1)))) : ax_j X 142 [some (.ref 105), some (.int v1), none] [] (th L sz T) 0 0 := by
  refine ax_aload_n hX dX11_syllabus_142 (Or.inr ⟨_, rfl⟩) rfl ?_
  obtain ⟨Q1, hK, hyp⟩ := hyp
  refine ax_callV hX lRX11_95 im_X11_isGood sl_X11_isGood cw_X11_isGood ((th_at (by decide) (Nat.lt_of_lt_of_le (by decide) hsz)).trans (tc_ob ly_105)) rfl rfl (A := []) (st := []) rfl rfl (Nat.le_of_ble_eq_true rfl) (by decide) (by decide) dX11_syllabus_143 hK ?_
  rintro _ _ ⟨r1, T1, rfl, rfl, hq⟩
  replace hyp := hyp r1 T1 hq
  refine ax_if_ne hX dX11_syllabus_146 (tgt := 151) (by decide) (fun c => ?_) (fun c => ?_)
  · replace hyp := hyp.1 c
    refine ax_aload_n hX dX11_syllabus_151 (Or.inr ⟨_, rfl⟩) rfl ?_
    refine tx_getF hX fRX11_107 ly_105 (o := 3) (b := 108) fk_11_11 rfl (by decide) (Nat.lt_of_lt_of_le (by decide) hsz) dX11_syllabus_152 ?_
    refine ax_iload_n hX dX11_syllabus_155 rfl ?_
    refine tx_ial hX ly_108 (by decide) (Nat.lt_of_lt_of_le (by decide) hsz) hyp.1 dX11_syllabus_156 ?_
    replace hyp := hyp.2
    refine ax_istore_n hX dX11_syllabus_157 (by decide) (L' := [some (.ref 105), some (.int v1), some (.int (T1.1 108 (v1.toNatClampNeg)))]) rfl ?_
    refine ax_aload_n hX dX11_syllabus_158 (Or.inr ⟨_, rfl⟩) rfl ?_
    refine tx_getF hX fRX11_107 ly_105 (o := 3) (b := 108) fk_11_11 rfl (by decide) (Nat.lt_of_lt_of_le (by decide) hsz) dX11_syllabus_159 ?_
    refine ax_iload_n hX dX11_syllabus_162 rfl ?_
    refine ax_aload_n hX dX11_syllabus_163 (Or.inr ⟨_, rfl⟩) rfl ?_
    refine tx_getI hX fRX11_111 ly_105 fk_11_12 (by decide) (Nat.lt_of_lt_of_le (by decide) hsz) dX11_syllabus_164 ?_
    refine tx_ias hX ly_108 (by decide) (Nat.lt_of_lt_of_le (by decide) hsz) hyp.1 dX11_syllabus_167 ?_
    replace hyp := hyp.2
    refine ax_aload_n hX dX11_syllabus_168 (Or.inr ⟨_, rfl⟩) rfl ?_
    refine ax_iload_n hX dX11_syllabus_169 rfl ?_
    refine tx_putI hX fRX11_111 ly_105 fk_11_12 (by decide) (Nat.lt_of_lt_of_le (by decide) hsz) rfl rfl dX11_syllabus_170 ?_
    refine ax_aload_n hX dX11_syllabus_173 (Or.inr ⟨_, rfl⟩) rfl ?_
    refine tx_getF hX fRX11_114 ly_105 (o := 4) (b := 109) fk_11_15 rfl (by decide) (Nat.lt_of_lt_of_le (by decide) hsz) dX11_syllabus_174 ?_
    refine ax_iload_n hX dX11_syllabus_177 rfl ?_
    refine ax_iconst hX dX11_syllabus_178 (v := 1) (by decide) ?_
    refine tx_zas hX ly_109 (by decide) (Nat.lt_of_lt_of_le (by decide) hsz) hyp.1 dX11_syllabus_179 ?_
    replace hyp := hyp.2
    refine ax_aload_n hX dX11_syllabus_180 (Or.inr ⟨_, rfl⟩) rfl ?_
    refine tx_getF hX fRX11_163 ly_105 (o := 20) (b := 125) fk_11_31 rfl (by decide) (Nat.lt_of_lt_of_le (by decide) hsz) dX11_syllabus_181 ?_
    refine ax_aload_n hX dX11_syllabus_184 (Or.inr ⟨_, rfl⟩) rfl ?_
    refine tx_getF hX fRX11_107 ly_105 (o := 3) (b := 108) fk_11_11 rfl (by decide) (Nat.lt_of_lt_of_le (by decide) hsz) dX11_syllabus_185 ?_
    refine ax_iload_n hX dX11_syllabus_188 rfl ?_
    refine tx_ial hX ly_108 (by decide) (Nat.lt_of_lt_of_le (by decide) hsz) hyp.1 dX11_syllabus_189 ?_
    replace hyp := hyp.2
    refine tx_ial hX ly_125 (by decide) (Nat.lt_of_lt_of_le (by decide) hsz) hyp.1 dX11_syllabus_190 ?_
    replace hyp := hyp.2
    exact hR.1 _ _ _ _ _ _ (by decide) (by decide) dX11_syllabus_191 ⟨_, rfl, rfl⟩ ⟨_, _, rfl, rfl, hyp⟩
  · replace hyp := hyp.2 c
    refine ax_iconst hX dX11_syllabus_149 (v := -1) (by decide) ?_
    exact hR.1 _ _ _ _ _ _ (by decide) (by decide) dX11_syllabus_150 ⟨_, rfl, rfl⟩ ⟨_, _, rfl, rfl, hyp⟩
set_option maxRecDepth 10000 in
theorem s_X11_tell_0 {X : ax_X} {d L sz : Nat} {T : tT} {Q : Int32 → tT → Prop} (hX : ax_ok X mX11_tell (d + 1)) (hR : ax_Ret X mX11_tell (ti L sz Q)) (hsz : 161 ≤ sz) (x0 : Int32) (x1 : Int32) (x2 : Int32) (x3 : Int32) (hyp : ∃ Q1, tiK d mX11_isEntry [.ref 105, .int x0] L sz T Q1 ∧ ∀ (r1 : Int32) (T1 : tT), Q1 r1 T1 → (((r1 = 0 → Q (-1 : Int32) T1) ∧ (¬ r1 = 0 → ∃ Q1, tiK d mX11_spotOf [.ref 105, .int x0] L sz T1 Q1 ∧ ∀ (r2 : Int32) (T2 : tT), Q1 r2 T2 → (((r2 < 0 → Q (-1 : Int32) T2) ∧ (¬ r2 < 0 → ((x2 < 0 → Q (-1 : Int32) T2) ∧ (¬ x2 < 0 → vp_in r2 40 ∧ (((T2.1 113 (r2.toNatClampNeg)) ≤ x2 → Q (-1 : Int32) T2) ∧ (¬ (T2.1 113 (r2.toNatClampNeg)) ≤ x2 → ((x3 < 0 → Q (-1 : Int32) T2) ∧ (¬ x3 < 0 → vp_in (((6 : Int32) * r2) + x2) 240 ∧ (((T2.1 114 (((6 : Int32) * r2) + x2).toNatClampNeg) < x3 → Q (-1 : Int32) T2) ∧ (¬ (T2.1 114 (((6 : Int32) * r2) + x2).toNatClampNeg) < x3 → ((¬ (T2.1 105 70) = (200 : Int32) → vp_in (T2.1 105 70) 200 ∧ vp_in (T2.1 105 70) 200 ∧ vp_in (T2.1 105 70) 200 ∧ vp_in (T2.1 105 70) 200 ∧ vp_in (T2.1 105 70) 200 ∧ vp_in (T2.1 105 70) 200 ∧ Q (((T2.1 105 70) + (1 : Int32)) - (1 : Int32)) (tI (tI (tI (tI (tI (tI (tI T2 151 ((T2.1 105 70).toNatClampNeg) x0) 152 ((T2.1 105 70).toNatClampNeg) x1) 153 ((T2.1 105 70).toNatClampNeg) x2) 154 ((T2.1 105 70).toNatClampNeg) x3) 155 ((T2.1 105 70).toNatClampNeg) (T2.1 105 71)) 156 ((T2.1 105 70).toNatClampNeg) (-1 : Int32)) 105 70 ((T2.1 105 70) + (1 : Int32)))) ∧ ((T2.1 105 70) = (200 : Int32) → Q (-1 : Int32) T2))))))))))))))))) : ax_j X 0 [some (.ref 105), some (.int x0), some (.int x1), some (.int x2), some (.int x3), none] [] (th L sz T) 0 0 := by
  refine ax_aload_n hX dX11_tell_0 (Or.inr ⟨_, rfl⟩) rfl ?_
  refine ax_iload_n hX dX11_tell_1 rfl ?_
  obtain ⟨Q1, hK, hyp⟩ := hyp
  refine ax_callV hX lRX11_362 im_X11_isEntry sl_X11_isEntry cw_X11_isEntry ((th_at (by decide) (Nat.lt_of_lt_of_le (by decide) hsz)).trans (tc_ob ly_105)) rfl rfl (A := [.int x0]) (st := []) rfl rfl (Nat.le_of_ble_eq_true rfl) (by decide) (by decide) dX11_tell_2 hK ?_
  rintro _ _ ⟨r1, T1, rfl, rfl, hq⟩
  replace hyp := hyp r1 T1 hq
  refine ax_if_eq hX dX11_tell_5 (tgt := 16) (by decide) (fun c => ?_) (fun c => ?_)
  · replace hyp := hyp.1 c
    refine ax_iconst hX dX11_tell_16 (v := -1) (by decide) ?_
    refine ax_istore hX dX11_tell_17 (by decide) (L' := [some (.ref 105), some (.int x0), some (.int x1), some (.int x2), some (.int x3), some (.int (-1 : Int32))]) rfl ?_
    refine ax_iload hX dX11_tell_19 rfl ?_
    refine ax_if_lt hX dX11_tell_21 (tgt := 71) (by decide) (fun c => ?_) (fun c => ?_)
    rotate_left
    · exact absurd c (by decide)
    refine ax_iconst hX dX11_tell_71 (v := -1) (by decide) ?_
    exact hR.1 _ _ _ _ _ _ (by decide) (by decide) dX11_tell_72 ⟨_, rfl, rfl⟩ ⟨_, _, rfl, rfl, hyp⟩
  · replace hyp := hyp.2 c
    refine ax_aload_n hX dX11_tell_8 (Or.inr ⟨_, rfl⟩) rfl ?_
    refine ax_iload_n hX dX11_tell_9 rfl ?_
    obtain ⟨Q1, hK, hyp⟩ := hyp
    refine ax_callV hX lRX11_388 im_X11_spotOf sl_X11_spotOf cw_X11_spotOf ((th_at (by decide) (Nat.lt_of_lt_of_le (by decide) hsz)).trans (tc_ob ly_105)) rfl rfl (A := [.int x0]) (st := []) rfl rfl (Nat.le_of_ble_eq_true rfl) (by decide) (by decide) dX11_tell_10 hK ?_
    rintro _ _ ⟨r2, T2, rfl, rfl, hq⟩
    replace hyp := hyp r2 T2 hq
    refine ax_goto hX dX11_tell_13 (tgt := 17) (by decide) ?_
    refine ax_istore hX dX11_tell_17 (by decide) (L' := [some (.ref 105), some (.int x0), some (.int x1), some (.int x2), some (.int x3), some (.int r2)]) rfl ?_
    refine ax_iload hX dX11_tell_19 rfl ?_
    refine ax_if_lt hX dX11_tell_21 (tgt := 71) (by decide) (fun c => ?_) (fun c => ?_)
    · replace hyp := hyp.1 c
      refine ax_iconst hX dX11_tell_71 (v := -1) (by decide) ?_
      exact hR.1 _ _ _ _ _ _ (by decide) (by decide) dX11_tell_72 ⟨_, rfl, rfl⟩ ⟨_, _, rfl, rfl, hyp⟩
    · replace hyp := hyp.2 c
      refine ax_iload_n hX dX11_tell_24 rfl ?_
      refine ax_if_lt hX dX11_tell_25 (tgt := 71) (by decide) (fun c => ?_) (fun c => ?_)
      · replace hyp := hyp.1 c
        refine ax_iconst hX dX11_tell_71 (v := -1) (by decide) ?_
        exact hR.1 _ _ _ _ _ _ (by decide) (by decide) dX11_tell_72 ⟨_, rfl, rfl⟩ ⟨_, _, rfl, rfl, hyp⟩
      · replace hyp := hyp.2 c
        refine ax_iload_n hX dX11_tell_28 rfl ?_
        refine ax_aload_n hX dX11_tell_29 (Or.inr ⟨_, rfl⟩) rfl ?_
        refine tx_getF hX fRX11_127 ly_105 (o := 8) (b := 113) fk_11_19 rfl (by decide) (Nat.lt_of_lt_of_le (by decide) hsz) dX11_tell_30 ?_
        refine ax_iload hX dX11_tell_33 rfl ?_
        refine tx_ial hX ly_113 (by decide) (Nat.lt_of_lt_of_le (by decide) hsz) hyp.1 dX11_tell_35 ?_
        replace hyp := hyp.2
        refine ax_icmp_ge hX dX11_tell_36 (tgt := 71) (by decide) (fun c => ?_) (fun c => ?_)
        · replace hyp := hyp.1 c
          refine ax_iconst hX dX11_tell_71 (v := -1) (by decide) ?_
          exact hR.1 _ _ _ _ _ _ (by decide) (by decide) dX11_tell_72 ⟨_, rfl, rfl⟩ ⟨_, _, rfl, rfl, hyp⟩
        · replace hyp := hyp.2 c
          refine ax_iload hX dX11_tell_39 rfl ?_
          refine ax_if_lt hX dX11_tell_41 (tgt := 71) (by decide) (fun c => ?_) (fun c => ?_)
          · replace hyp := hyp.1 c
            refine ax_iconst hX dX11_tell_71 (v := -1) (by decide) ?_
            exact hR.1 _ _ _ _ _ _ (by decide) (by decide) dX11_tell_72 ⟨_, rfl, rfl⟩ ⟨_, _, rfl, rfl, hyp⟩
          · replace hyp := hyp.2 c
            refine ax_iload hX dX11_tell_44 rfl ?_
            refine ax_aload_n hX dX11_tell_46 (Or.inr ⟨_, rfl⟩) rfl ?_
            refine tx_getF hX fRX11_130 ly_105 (o := 9) (b := 114) fk_11_20 rfl (by decide) (Nat.lt_of_lt_of_le (by decide) hsz) dX11_tell_47 ?_
            refine ax_bipush hX dX11_tell_50 (v := 6) (by decide) ?_
            refine ax_iload hX dX11_tell_52 rfl ?_
            refine ax_imul hX dX11_tell_54 ?_
            refine ax_iload_n hX dX11_tell_55 rfl ?_
            refine ax_iadd hX dX11_tell_56 ?_
            refine tx_ial hX ly_114 (by decide) (Nat.lt_of_lt_of_le (by decide) hsz) hyp.1 dX11_tell_57 ?_
            replace hyp := hyp.2
            refine ax_icmp_gt hX dX11_tell_58 (tgt := 71) (by decide) (fun c => ?_) (fun c => ?_)
            · replace hyp := hyp.1 c
              refine ax_iconst hX dX11_tell_71 (v := -1) (by decide) ?_
              exact hR.1 _ _ _ _ _ _ (by decide) (by decide) dX11_tell_72 ⟨_, rfl, rfl⟩ ⟨_, _, rfl, rfl, hyp⟩
            · replace hyp := hyp.2 c
              refine ax_aload_n hX dX11_tell_61 (Or.inr ⟨_, rfl⟩) rfl ?_
              refine tx_getI hX fRX11_409 ly_105 fk_11_70 (by decide) (Nat.lt_of_lt_of_le (by decide) hsz) dX11_tell_62 ?_
              refine ax_sipush hX dX11_tell_65 (v := 200) (by decide) ?_
              refine ax_icmp_ne hX dX11_tell_68 (tgt := 73) (by decide) (fun c => ?_) (fun c => ?_)
              · replace hyp := hyp.1 c
                refine ax_aload_n hX dX11_tell_73 (Or.inr ⟨_, rfl⟩) rfl ?_
                refine tx_getF hX fRX11_242 ly_105 (o := 46) (b := 151) fk_11_64 rfl (by decide) (Nat.lt_of_lt_of_le (by decide) hsz) dX11_tell_74 ?_
                refine ax_aload_n hX dX11_tell_77 (Or.inr ⟨_, rfl⟩) rfl ?_
                refine tx_getI hX fRX11_409 ly_105 fk_11_70 (by decide) (Nat.lt_of_lt_of_le (by decide) hsz) dX11_tell_78 ?_
                refine ax_iload_n hX dX11_tell_81 rfl ?_
                refine tx_ias hX ly_151 (by decide) (Nat.lt_of_lt_of_le (by decide) hsz) hyp.1 dX11_tell_82 ?_
                replace hyp := hyp.2
                refine ax_aload_n hX dX11_tell_83 (Or.inr ⟨_, rfl⟩) rfl ?_
                refine tx_getF hX fRX11_245 ly_105 (o := 47) (b := 152) fk_11_65 rfl (by decide) (Nat.lt_of_lt_of_le (by decide) hsz) dX11_tell_84 ?_
                refine ax_aload_n hX dX11_tell_87 (Or.inr ⟨_, rfl⟩) rfl ?_
                refine tx_getI hX fRX11_409 ly_105 fk_11_70 (by decide) (Nat.lt_of_lt_of_le (by decide) hsz) dX11_tell_88 ?_
                refine ax_iload_n hX dX11_tell_91 rfl ?_
                refine tx_ias hX ly_152 (by decide) (Nat.lt_of_lt_of_le (by decide) hsz) hyp.1 dX11_tell_92 ?_
                replace hyp := hyp.2
                refine ax_aload_n hX dX11_tell_93 (Or.inr ⟨_, rfl⟩) rfl ?_
                refine tx_getF hX fRX11_248 ly_105 (o := 48) (b := 153) fk_11_66 rfl (by decide) (Nat.lt_of_lt_of_le (by decide) hsz) dX11_tell_94 ?_
                refine ax_aload_n hX dX11_tell_97 (Or.inr ⟨_, rfl⟩) rfl ?_
                refine tx_getI hX fRX11_409 ly_105 fk_11_70 (by decide) (Nat.lt_of_lt_of_le (by decide) hsz) dX11_tell_98 ?_
                refine ax_iload_n hX dX11_tell_101 rfl ?_
                refine tx_ias hX ly_153 (by decide) (Nat.lt_of_lt_of_le (by decide) hsz) hyp.1 dX11_tell_102 ?_
                replace hyp := hyp.2
                refine ax_aload_n hX dX11_tell_103 (Or.inr ⟨_, rfl⟩) rfl ?_
                refine tx_getF hX fRX11_251 ly_105 (o := 49) (b := 154) fk_11_67 rfl (by decide) (Nat.lt_of_lt_of_le (by decide) hsz) dX11_tell_104 ?_
                refine ax_aload_n hX dX11_tell_107 (Or.inr ⟨_, rfl⟩) rfl ?_
                refine tx_getI hX fRX11_409 ly_105 fk_11_70 (by decide) (Nat.lt_of_lt_of_le (by decide) hsz) dX11_tell_108 ?_
                refine ax_iload hX dX11_tell_111 rfl ?_
                refine tx_ias hX ly_154 (by decide) (Nat.lt_of_lt_of_le (by decide) hsz) hyp.1 dX11_tell_113 ?_
                replace hyp := hyp.2
                refine ax_aload_n hX dX11_tell_114 (Or.inr ⟨_, rfl⟩) rfl ?_
                refine tx_getF hX fRX11_254 ly_105 (o := 50) (b := 155) fk_11_68 rfl (by decide) (Nat.lt_of_lt_of_le (by decide) hsz) dX11_tell_115 ?_
                refine ax_aload_n hX dX11_tell_118 (Or.inr ⟨_, rfl⟩) rfl ?_
                refine tx_getI hX fRX11_409 ly_105 fk_11_70 (by decide) (Nat.lt_of_lt_of_le (by decide) hsz) dX11_tell_119 ?_
                refine ax_aload_n hX dX11_tell_122 (Or.inr ⟨_, rfl⟩) rfl ?_
                refine tx_getI hX fRX11_438 ly_105 fk_11_71 (by decide) (Nat.lt_of_lt_of_le (by decide) hsz) dX11_tell_123 ?_
                refine tx_ias hX ly_155 (by decide) (Nat.lt_of_lt_of_le (by decide) hsz) hyp.1 dX11_tell_126 ?_
                replace hyp := hyp.2
                refine ax_aload_n hX dX11_tell_127 (Or.inr ⟨_, rfl⟩) rfl ?_
                refine tx_getF hX fRX11_257 ly_105 (o := 51) (b := 156) fk_11_69 rfl (by decide) (Nat.lt_of_lt_of_le (by decide) hsz) dX11_tell_128 ?_
                refine ax_aload_n hX dX11_tell_131 (Or.inr ⟨_, rfl⟩) rfl ?_
                refine tx_getI hX fRX11_409 ly_105 fk_11_70 (by decide) (Nat.lt_of_lt_of_le (by decide) hsz) dX11_tell_132 ?_
                refine ax_iconst hX dX11_tell_135 (v := -1) (by decide) ?_
                refine tx_ias hX ly_156 (by decide) (Nat.lt_of_lt_of_le (by decide) hsz) hyp.1 dX11_tell_136 ?_
                replace hyp := hyp.2
                refine ax_aload_n hX dX11_tell_137 (Or.inr ⟨_, rfl⟩) rfl ?_
                refine ax_dup hX dX11_tell_138 rfl ?_
                refine tx_getI hX fRX11_409 ly_105 fk_11_70 (by decide) (Nat.lt_of_lt_of_le (by decide) hsz) dX11_tell_139 ?_
                refine ax_iconst hX dX11_tell_142 (v := 1) (by decide) ?_
                refine ax_iadd hX dX11_tell_143 ?_
                refine tx_putI hX fRX11_409 ly_105 fk_11_70 (by decide) (Nat.lt_of_lt_of_le (by decide) hsz) rfl rfl dX11_tell_144 ?_
                refine ax_aload_n hX dX11_tell_147 (Or.inr ⟨_, rfl⟩) rfl ?_
                refine tx_getI hX fRX11_409 ly_105 fk_11_70 (by decide) (Nat.lt_of_lt_of_le (by decide) hsz) dX11_tell_148 ?_
                refine ax_iconst hX dX11_tell_151 (v := 1) (by decide) ?_
                refine ax_isub hX dX11_tell_152 ?_
                exact hR.1 _ _ _ _ _ _ (by decide) (by decide) dX11_tell_153 ⟨_, rfl, rfl⟩ ⟨_, _, rfl, rfl, hyp⟩
              · replace hyp := hyp.2 c
                refine ax_iconst hX dX11_tell_71 (v := -1) (by decide) ?_
                exact hR.1 _ _ _ _ _ _ (by decide) (by decide) dX11_tell_72 ⟨_, rfl, rfl⟩ ⟨_, _, rfl, rfl, hyp⟩
set_option maxRecDepth 10000 in
theorem s_X11_total_0 {X : ax_X} {d L sz : Nat} {T : tT} {Q : Int32 → tT → Prop} (hX : ax_ok X mX11_total d) (hR : ax_Ret X mX11_total (ti L sz Q)) (hsz : 161 ≤ sz) (x0 : Int32) (hyp : ax_j X 4 [some (.ref 105), some (.int x0), some (.int (0 : Int32)), some (.int (0 : Int32))] [] (th L sz T) 0 0) : ax_j X 0 [some (.ref 105), some (.int x0), none, none] [] (th L sz T) 0 0 := by
  refine ax_iconst hX dX11_total_0 (v := 0) (by decide) ?_
  refine ax_istore_n hX dX11_total_1 (by decide) (L' := [some (.ref 105), some (.int x0), some (.int (0 : Int32)), none]) rfl ?_
  refine ax_iconst hX dX11_total_2 (v := 0) (by decide) ?_
  refine ax_istore_n hX dX11_total_3 (by decide) (L' := [some (.ref 105), some (.int x0), some (.int (0 : Int32)), some (.int (0 : Int32))]) rfl ?_
  exact ax_forget (L' := [some (.ref 105), some (.int x0), some (.int (0 : Int32)), some (.int (0 : Int32))]) (⟨rfl, ⟨rfl, ⟨rfl, ⟨rfl, trivial⟩⟩⟩⟩) hyp
set_option maxRecDepth 10000 in
theorem s_X11_total_4 {X : ax_X} {d L sz : Nat} {T : tT} {Q : Int32 → tT → Prop} (hX : ax_ok X mX11_total d) (hR : ax_Ret X mX11_total (ti L sz Q)) (hsz : 161 ≤ sz) (v1 : Int32) (v2 : Int32) (v3 : Int32) (hyp : vp_in v1 40 ∧ (((T.1 113 (v1.toNatClampNeg)) ≤ v3 → Q v2 T) ∧ (¬ (T.1 113 (v1.toNatClampNeg)) ≤ v3 → vp_in v3 6 ∧ ax_j X 4 [some (.ref 105), some (.int v1), some (.int (v2 + (T.1 141 (v3.toNatClampNeg)))), some (.int (v3 + (1 : Int32)))] [] (th L sz T) 0 0))) : ax_j X 4 [some (.ref 105), some (.int v1), some (.int v2), some (.int v3)] [] (th L sz T) 0 0 := by
  refine ax_iload_n hX dX11_total_4 rfl ?_
  refine ax_aload_n hX dX11_total_5 (Or.inr ⟨_, rfl⟩) rfl ?_
  refine tx_getF hX fRX11_127 ly_105 (o := 8) (b := 113) fk_11_19 rfl (by decide) (Nat.lt_of_lt_of_le (by decide) hsz) dX11_total_6 ?_
  refine ax_iload_n hX dX11_total_9 rfl ?_
  refine tx_ial hX ly_113 (by decide) (Nat.lt_of_lt_of_le (by decide) hsz) hyp.1 dX11_total_10 ?_
  replace hyp := hyp.2
  refine ax_icmp_ge hX dX11_total_11 (tgt := 29) (by decide) (fun c => ?_) (fun c => ?_)
  · replace hyp := hyp.1 c
    refine ax_iload_n hX dX11_total_29 rfl ?_
    exact hR.1 _ _ _ _ _ _ (by decide) (by decide) dX11_total_30 ⟨_, rfl, rfl⟩ ⟨_, _, rfl, rfl, hyp⟩
  · replace hyp := hyp.2 c
    refine ax_iload_n hX dX11_total_14 rfl ?_
    refine ax_aload_n hX dX11_total_15 (Or.inr ⟨_, rfl⟩) rfl ?_
    refine tx_getF hX fRX11_212 ly_105 (o := 36) (b := 141) fk_11_50 rfl (by decide) (Nat.lt_of_lt_of_le (by decide) hsz) dX11_total_16 ?_
    refine ax_iload_n hX dX11_total_19 rfl ?_
    refine tx_ial hX ly_141 (by decide) (Nat.lt_of_lt_of_le (by decide) hsz) hyp.1 dX11_total_20 ?_
    replace hyp := hyp.2
    refine ax_iadd hX dX11_total_21 ?_
    refine ax_istore_n hX dX11_total_22 (by decide) (L' := [some (.ref 105), some (.int v1), some (.int (v2 + (T.1 141 (v3.toNatClampNeg)))), some (.int v3)]) rfl ?_
    refine ax_iinc hX dX11_total_23 rfl (w := (v3 + (1 : Int32))) rfl (by decide) (L' := [some (.ref 105), some (.int v1), some (.int (v2 + (T.1 141 (v3.toNatClampNeg)))), some (.int (v3 + (1 : Int32)))]) rfl ?_
    refine ax_goto hX dX11_total_26 (tgt := 4) (by decide) ?_
    exact ax_forget (L' := [some (.ref 105), some (.int v1), some (.int (v2 + (T.1 141 (v3.toNatClampNeg)))), some (.int (v3 + (1 : Int32)))]) (⟨rfl, ⟨rfl, ⟨rfl, ⟨rfl, trivial⟩⟩⟩⟩) hyp
set_option maxRecDepth 10000 in
theorem s_X11_tour_0 {X : ax_X} {d L sz : Nat} {T : tT} {Q : Int32 → tT → Prop} (hX : ax_ok X mX11_tour (d + 1)) (hR : ax_Ret X mX11_tour (ti L sz Q)) (hsz : 161 ≤ sz)  (hyp : ax_j X 2 [some (.ref 105), some (.int (0 : Int32)), none] [] (th L sz T) 0 0) : ax_j X 0 [some (.ref 105), none, none] [] (th L sz T) 0 0 := by
  refine ax_iconst hX dX11_tour_0 (v := 0) (by decide) ?_
  refine ax_istore_n hX dX11_tour_1 (by decide) (L' := [some (.ref 105), some (.int (0 : Int32)), none]) rfl ?_
  exact ax_forget (L' := [some (.ref 105), some (.int (0 : Int32)), none]) (⟨rfl, ⟨rfl, trivial⟩⟩) hyp
set_option maxRecDepth 10000 in
theorem s_X11_tour_2 {X : ax_X} {d L sz : Nat} {T : tT} {Q : Int32 → tT → Prop} (hX : ax_ok X mX11_tour (d + 1)) (hR : ax_Ret X mX11_tour (ti L sz Q)) (hsz : 161 ≤ sz) (v1 : Int32) (hyp : (((T.1 105 57) ≤ v1 → ax_j X 54 [some (.ref 105), some (.int (0 : Int32)), none] [] (th L sz T) 0 0) ∧ (¬ (T.1 105 57) ≤ v1 → ax_j X 12 [some (.ref 105), some (.int v1), some (.int (0 : Int32))] [] (th L sz T) 0 0))) : ax_j X 2 [some (.ref 105), some (.int v1), none] [] (th L sz T) 0 0 := by
  refine ax_iload_n hX dX11_tour_2 rfl ?_
  refine ax_aload_n hX dX11_tour_3 (Or.inr ⟨_, rfl⟩) rfl ?_
  refine tx_getI hX fRX11_357 ly_105 fk_11_57 (by decide) (Nat.lt_of_lt_of_le (by decide) hsz) dX11_tour_4 ?_
  refine ax_icmp_ge hX dX11_tour_7 (tgt := 52) (by decide) (fun c => ?_) (fun c => ?_)
  · replace hyp := hyp.1 c
    refine ax_iconst hX dX11_tour_52 (v := 0) (by decide) ?_
    refine ax_istore_n hX dX11_tour_53 (by decide) (L' := [some (.ref 105), some (.int (0 : Int32)), none]) rfl ?_
    exact ax_forget (L' := [some (.ref 105), some (.int (0 : Int32)), none]) (⟨rfl, ⟨rfl, trivial⟩⟩) hyp
  · replace hyp := hyp.2 c
    refine ax_iconst hX dX11_tour_10 (v := 0) (by decide) ?_
    refine ax_istore_n hX dX11_tour_11 (by decide) (L' := [some (.ref 105), some (.int v1), some (.int (0 : Int32))]) rfl ?_
    exact ax_forget (L' := [some (.ref 105), some (.int v1), some (.int (0 : Int32))]) (⟨rfl, ⟨rfl, ⟨rfl, trivial⟩⟩⟩) hyp
set_option maxRecDepth 10000 in
theorem s_X11_tour_54 {X : ax_X} {d L sz : Nat} {T : tT} {Q : Int32 → tT → Prop} (hX : ax_ok X mX11_tour (d + 1)) (hR : ax_Ret X mX11_tour (ti L sz Q)) (hsz : 161 ≤ sz) (v1 : Int32) (hyp : (((9 : Int32) ≤ v1 → ∃ Q1, tiK d mX11_solve [.ref 105] L sz T Q1 ∧ ∀ (r1 : Int32) (T1 : tT), Q1 r1 T1 → (((r1 < (1000000 : Int32) → ax_j X 90 [some (.ref 105), some (.int r1), some (.int (0 : Int32))] [] (th L sz T1) 0 0) ∧ (¬ r1 < (1000000 : Int32) → Q (-2 : Int32) T1)))) ∧ (¬ (9 : Int32) ≤ v1 → vp_in v1 9 ∧ ax_j X 54 [some (.ref 105), some (.int (v1 + (1 : Int32))), none] [] (th L sz (tI T 149 (v1.toNatClampNeg) (-1 : Int32))) 0 0))) : ax_j X 54 [some (.ref 105), some (.int v1), none] [] (th L sz T) 0 0 := by
  refine ax_iload_n hX dX11_tour_54 rfl ?_
  refine ax_bipush hX dX11_tour_55 (v := 9) (by decide) ?_
  refine ax_icmp_ge hX dX11_tour_57 (tgt := 73) (by decide) (fun c => ?_) (fun c => ?_)
  · replace hyp := hyp.1 c
    refine ax_aload_n hX dX11_tour_73 (Or.inr ⟨_, rfl⟩) rfl ?_
    obtain ⟨Q1, hK, hyp⟩ := hyp
    refine ax_callV hX lRX11_432 im_X11_solve sl_X11_solve cw_X11_solve ((th_at (by decide) (Nat.lt_of_lt_of_le (by decide) hsz)).trans (tc_ob ly_105)) rfl rfl (A := []) (st := []) rfl rfl (Nat.le_of_ble_eq_true rfl) (by decide) (by decide) dX11_tour_74 hK ?_
    rintro _ _ ⟨r1, T1, rfl, rfl, hq⟩
    replace hyp := hyp r1 T1 hq
    refine ax_istore_n hX dX11_tour_77 (by decide) (L' := [some (.ref 105), some (.int r1), none]) rfl ?_
    refine ax_iload_n hX dX11_tour_78 rfl ?_
    refine ax_ldcw hX vRX11_422 dX11_tour_79 ?_
    refine ax_icmp_lt hX dX11_tour_82 (tgt := 88) (by decide) (fun c => ?_) (fun c => ?_)
    · replace hyp := hyp.1 c
      refine ax_iconst hX dX11_tour_88 (v := 0) (by decide) ?_
      refine ax_istore_n hX dX11_tour_89 (by decide) (L' := [some (.ref 105), some (.int r1), some (.int (0 : Int32))]) rfl ?_
      exact ax_forget (L' := [some (.ref 105), some (.int r1), some (.int (0 : Int32))]) (⟨rfl, ⟨rfl, ⟨rfl, trivial⟩⟩⟩) hyp
    · replace hyp := hyp.2 c
      refine ax_bipush hX dX11_tour_85 (v := -2) (by decide) ?_
      exact hR.1 _ _ _ _ _ _ (by decide) (by decide) dX11_tour_87 ⟨_, rfl, rfl⟩ ⟨_, _, rfl, rfl, hyp⟩
  · replace hyp := hyp.2 c
    refine ax_aload_n hX dX11_tour_60 (Or.inr ⟨_, rfl⟩) rfl ?_
    refine tx_getF hX fRX11_236 ly_105 (o := 44) (b := 149) fk_11_61 rfl (by decide) (Nat.lt_of_lt_of_le (by decide) hsz) dX11_tour_61 ?_
    refine ax_iload_n hX dX11_tour_64 rfl ?_
    refine ax_iconst hX dX11_tour_65 (v := -1) (by decide) ?_
    refine tx_ias hX ly_149 (by decide) (Nat.lt_of_lt_of_le (by decide) hsz) hyp.1 dX11_tour_66 ?_
    replace hyp := hyp.2
    refine ax_iinc hX dX11_tour_67 rfl (w := (v1 + (1 : Int32))) rfl (by decide) (L' := [some (.ref 105), some (.int (v1 + (1 : Int32))), none]) rfl ?_
    refine ax_goto hX dX11_tour_70 (tgt := 54) (by decide) ?_
    exact ax_forget (L' := [some (.ref 105), some (.int (v1 + (1 : Int32))), none]) (⟨rfl, ⟨rfl, trivial⟩⟩) hyp
set_option maxRecDepth 10000 in
theorem s_X11_tour_12 {X : ax_X} {d L sz : Nat} {T : tT} {Q : Int32 → tT → Prop} (hX : ax_ok X mX11_tour (d + 1)) (hR : ax_Ret X mX11_tour (ti L sz Q)) (hsz : 161 ≤ sz) (v1 : Int32) (v2 : Int32) (hyp : ((((1 : Int32) <<< ((T.1 105 58) &&& 31)) ≤ v2 → ax_j X 2 [some (.ref 105), some (.int (v1 + (1 : Int32))), none] [] (th L sz T) 0 0) ∧ (¬ ((1 : Int32) <<< ((T.1 105 58) &&& 31)) ≤ v2 → ∃ Q1, tiK d mX11_travel [.ref 105, .int v1, .int v2] L sz T Q1 ∧ ∀ (r1 : Int32) (T1 : tT), Q1 r1 T1 → (vp_in (((512 : Int32) * v1) + v2) 2560 ∧ ax_j X 12 [some (.ref 105), some (.int v1), some (.int (v2 + (1 : Int32)))] [] (th L sz (tI T1 147 ((((512 : Int32) * v1) + v2).toNatClampNeg) r1)) 0 0)))) : ax_j X 12 [some (.ref 105), some (.int v1), some (.int v2)] [] (th L sz T) 0 0 := by
  refine ax_iload_n hX dX11_tour_12 rfl ?_
  refine ax_iconst hX dX11_tour_13 (v := 1) (by decide) ?_
  refine ax_aload_n hX dX11_tour_14 (Or.inr ⟨_, rfl⟩) rfl ?_
  refine tx_getI hX fRX11_400 ly_105 fk_11_58 (by decide) (Nat.lt_of_lt_of_le (by decide) hsz) dX11_tour_15 ?_
  refine ax_ishl hX dX11_tour_18 ?_
  refine ax_icmp_ge hX dX11_tour_19 (tgt := 46) (by decide) (fun c => ?_) (fun c => ?_)
  · replace hyp := hyp.1 c
    refine ax_iinc hX dX11_tour_46 rfl (w := (v1 + (1 : Int32))) rfl (by decide) (L' := [some (.ref 105), some (.int (v1 + (1 : Int32))), some (.int v2)]) rfl ?_
    refine ax_goto hX dX11_tour_49 (tgt := 2) (by decide) ?_
    exact ax_forget (L' := [some (.ref 105), some (.int (v1 + (1 : Int32))), none]) (⟨rfl, ⟨rfl, trivial⟩⟩) hyp
  · replace hyp := hyp.2 c
    refine ax_aload_n hX dX11_tour_22 (Or.inr ⟨_, rfl⟩) rfl ?_
    refine tx_getF hX fRX11_230 ly_105 (o := 42) (b := 147) fk_11_59 rfl (by decide) (Nat.lt_of_lt_of_le (by decide) hsz) dX11_tour_23 ?_
    refine ax_sipush hX dX11_tour_26 (v := 512) (by decide) ?_
    refine ax_iload_n hX dX11_tour_29 rfl ?_
    refine ax_imul hX dX11_tour_30 ?_
    refine ax_iload_n hX dX11_tour_31 rfl ?_
    refine ax_iadd hX dX11_tour_32 ?_
    refine ax_aload_n hX dX11_tour_33 (Or.inr ⟨_, rfl⟩) rfl ?_
    refine ax_iload_n hX dX11_tour_34 rfl ?_
    refine ax_iload_n hX dX11_tour_35 rfl ?_
    obtain ⟨Q1, hK, hyp⟩ := hyp
    refine ax_callV hX lRX11_429 im_X11_travel sl_X11_travel cw_X11_travel ((th_at (by decide) (Nat.lt_of_lt_of_le (by decide) hsz)).trans (tc_ob ly_105)) rfl rfl (A := [.int v1, .int v2]) (st := [.int (((512 : Int32) * v1) + v2), .ref 147]) rfl rfl (Nat.le_of_ble_eq_true rfl) (by decide) (by decide) dX11_tour_36 hK ?_
    rintro _ _ ⟨r1, T1, rfl, rfl, hq⟩
    replace hyp := hyp r1 T1 hq
    refine tx_ias hX ly_147 (by decide) (Nat.lt_of_lt_of_le (by decide) hsz) hyp.1 dX11_tour_39 ?_
    replace hyp := hyp.2
    refine ax_iinc hX dX11_tour_40 rfl (w := (v2 + (1 : Int32))) rfl (by decide) (L' := [some (.ref 105), some (.int v1), some (.int (v2 + (1 : Int32)))]) rfl ?_
    refine ax_goto hX dX11_tour_43 (tgt := 12) (by decide) ?_
    exact ax_forget (L' := [some (.ref 105), some (.int v1), some (.int (v2 + (1 : Int32)))]) (⟨rfl, ⟨rfl, ⟨rfl, trivial⟩⟩⟩) hyp
set_option maxRecDepth 10000 in
theorem s_X11_tour_90 {X : ax_X} {d L sz : Nat} {T : tT} {Q : Int32 → tT → Prop} (hX : ax_ok X mX11_tour (d + 1)) (hR : ax_Ret X mX11_tour (ti L sz Q)) (hsz : 161 ≤ sz) (v1 : Int32) (v2 : Int32) (hyp : (((T.1 105 58) ≤ v2 → ax_j X 142 [some (.ref 105), some (.int v1), some (.int (0 : Int32))] [] (th L sz (tI T 105 63 (T.1 105 58))) 0 0) ∧ (¬ (T.1 105 58) ≤ v2 → vp_in v2 9 ∧ ax_j X 105 [some (.ref 105), some (.int v1), some (.int v2)] [] (th L sz (tI T 149 (v2.toNatClampNeg) (0 : Int32))) 0 0))) : ax_j X 90 [some (.ref 105), some (.int v1), some (.int v2)] [] (th L sz T) 0 0 := by
  refine ax_iload_n hX dX11_tour_90 rfl ?_
  refine ax_aload_n hX dX11_tour_91 (Or.inr ⟨_, rfl⟩) rfl ?_
  refine tx_getI hX fRX11_400 ly_105 fk_11_58 (by decide) (Nat.lt_of_lt_of_le (by decide) hsz) dX11_tour_92 ?_
  refine ax_icmp_ge hX dX11_tour_95 (tgt := 132) (by decide) (fun c => ?_) (fun c => ?_)
  · replace hyp := hyp.1 c
    refine ax_aload_n hX dX11_tour_132 (Or.inr ⟨_, rfl⟩) rfl ?_
    refine ax_aload_n hX dX11_tour_133 (Or.inr ⟨_, rfl⟩) rfl ?_
    refine tx_getI hX fRX11_400 ly_105 fk_11_58 (by decide) (Nat.lt_of_lt_of_le (by decide) hsz) dX11_tour_134 ?_
    refine tx_putI hX fRX11_435 ly_105 fk_11_63 (by decide) (Nat.lt_of_lt_of_le (by decide) hsz) rfl rfl dX11_tour_137 ?_
    refine ax_iconst hX dX11_tour_140 (v := 0) (by decide) ?_
    refine ax_istore_n hX dX11_tour_141 (by decide) (L' := [some (.ref 105), some (.int v1), some (.int (0 : Int32))]) rfl ?_
    exact ax_forget (L' := [some (.ref 105), some (.int v1), some (.int (0 : Int32))]) (⟨rfl, ⟨rfl, ⟨rfl, trivial⟩⟩⟩) hyp
  · replace hyp := hyp.2 c
    refine ax_aload_n hX dX11_tour_98 (Or.inr ⟨_, rfl⟩) rfl ?_
    refine tx_getF hX fRX11_236 ly_105 (o := 44) (b := 149) fk_11_61 rfl (by decide) (Nat.lt_of_lt_of_le (by decide) hsz) dX11_tour_99 ?_
    refine ax_iload_n hX dX11_tour_102 rfl ?_
    refine ax_iconst hX dX11_tour_103 (v := 0) (by decide) ?_
    refine tx_ias hX ly_149 (by decide) (Nat.lt_of_lt_of_le (by decide) hsz) hyp.1 dX11_tour_104 ?_
    replace hyp := hyp.2
    exact ax_forget (L' := [some (.ref 105), some (.int v1), some (.int v2)]) (⟨rfl, ⟨rfl, ⟨rfl, trivial⟩⟩⟩) hyp
set_option maxRecDepth 10000 in
theorem s_X11_tour_142 {X : ax_X} {d L sz : Nat} {T : tT} {Q : Int32 → tT → Prop} (hX : ax_ok X mX11_tour (d + 1)) (hR : ax_Ret X mX11_tour (ti L sz Q)) (hsz : 161 ≤ sz) (v1 : Int32) (v2 : Int32) (hyp : (((T.1 105 58) ≤ v2 → Q v1 T) ∧ (¬ (T.1 105 58) ≤ v2 → vp_in v2 9 ∧ vp_in v2 9 ∧ ax_j X 142 [some (.ref 105), some (.int v1), some (.int (v2 + (1 : Int32)))] [] (th L sz (tI T 150 (v2.toNatClampNeg) (T.1 149 (v2.toNatClampNeg)))) 0 0))) : ax_j X 142 [some (.ref 105), some (.int v1), some (.int v2)] [] (th L sz T) 0 0 := by
  refine ax_iload_n hX dX11_tour_142 rfl ?_
  refine ax_aload_n hX dX11_tour_143 (Or.inr ⟨_, rfl⟩) rfl ?_
  refine tx_getI hX fRX11_400 ly_105 fk_11_58 (by decide) (Nat.lt_of_lt_of_le (by decide) hsz) dX11_tour_144 ?_
  refine ax_icmp_ge hX dX11_tour_147 (tgt := 168) (by decide) (fun c => ?_) (fun c => ?_)
  · replace hyp := hyp.1 c
    refine ax_iload_n hX dX11_tour_168 rfl ?_
    exact hR.1 _ _ _ _ _ _ (by decide) (by decide) dX11_tour_169 ⟨_, rfl, rfl⟩ ⟨_, _, rfl, rfl, hyp⟩
  · replace hyp := hyp.2 c
    refine ax_aload_n hX dX11_tour_150 (Or.inr ⟨_, rfl⟩) rfl ?_
    refine tx_getF hX fRX11_239 ly_105 (o := 45) (b := 150) fk_11_62 rfl (by decide) (Nat.lt_of_lt_of_le (by decide) hsz) dX11_tour_151 ?_
    refine ax_iload_n hX dX11_tour_154 rfl ?_
    refine ax_aload_n hX dX11_tour_155 (Or.inr ⟨_, rfl⟩) rfl ?_
    refine tx_getF hX fRX11_236 ly_105 (o := 44) (b := 149) fk_11_61 rfl (by decide) (Nat.lt_of_lt_of_le (by decide) hsz) dX11_tour_156 ?_
    refine ax_iload_n hX dX11_tour_159 rfl ?_
    refine tx_ial hX ly_149 (by decide) (Nat.lt_of_lt_of_le (by decide) hsz) hyp.1 dX11_tour_160 ?_
    replace hyp := hyp.2
    refine tx_ias hX ly_150 (by decide) (Nat.lt_of_lt_of_le (by decide) hsz) hyp.1 dX11_tour_161 ?_
    replace hyp := hyp.2
    refine ax_iinc hX dX11_tour_162 rfl (w := (v2 + (1 : Int32))) rfl (by decide) (L' := [some (.ref 105), some (.int v1), some (.int (v2 + (1 : Int32)))]) rfl ?_
    refine ax_goto hX dX11_tour_165 (tgt := 142) (by decide) ?_
    exact ax_forget (L' := [some (.ref 105), some (.int v1), some (.int (v2 + (1 : Int32)))]) (⟨rfl, ⟨rfl, ⟨rfl, trivial⟩⟩⟩) hyp
set_option maxRecDepth 10000 in
theorem s_X11_tour_105 {X : ax_X} {d L sz : Nat} {T : tT} {Q : Int32 → tT → Prop} (hX : ax_ok X mX11_tour (d + 1)) (hR : ax_Ret X mX11_tour (ti L sz Q)) (hsz : 161 ≤ sz) (v1 : Int32) (v2 : Int32) (hyp : ∃ Q1, tiK d mX11_solve [.ref 105] L sz T Q1 ∧ ∀ (r1 : Int32) (T1 : tT), Q1 r1 T1 → (((r1 = v1 → ax_j X 90 [some (.ref 105), some (.int v1), some (.int (v2 + (1 : Int32)))] [] (th L sz T1) 0 0) ∧ (¬ r1 = v1 → vp_in v2 9 ∧ vp_in v2 9 ∧ ax_j X 105 [some (.ref 105), some (.int v1), some (.int v2)] [] (th L sz (tI T1 149 (v2.toNatClampNeg) ((T1.1 149 (v2.toNatClampNeg)) + (1 : Int32)))) 0 0)))) : ax_j X 105 [some (.ref 105), some (.int v1), some (.int v2)] [] (th L sz T) 0 0 := by
  refine ax_aload_n hX dX11_tour_105 (Or.inr ⟨_, rfl⟩) rfl ?_
  obtain ⟨Q1, hK, hyp⟩ := hyp
  refine ax_callV hX lRX11_432 im_X11_solve sl_X11_solve cw_X11_solve ((th_at (by decide) (Nat.lt_of_lt_of_le (by decide) hsz)).trans (tc_ob ly_105)) rfl rfl (A := []) (st := []) rfl rfl (Nat.le_of_ble_eq_true rfl) (by decide) (by decide) dX11_tour_106 hK ?_
  rintro _ _ ⟨r1, T1, rfl, rfl, hq⟩
  replace hyp := hyp r1 T1 hq
  refine ax_iload_n hX dX11_tour_109 rfl ?_
  refine ax_icmp_eq hX dX11_tour_110 (tgt := 126) (by decide) (fun c => ?_) (fun c => ?_)
  · replace hyp := hyp.1 c
    refine ax_iinc hX dX11_tour_126 rfl (w := (v2 + (1 : Int32))) rfl (by decide) (L' := [some (.ref 105), some (.int v1), some (.int (v2 + (1 : Int32)))]) rfl ?_
    refine ax_goto hX dX11_tour_129 (tgt := 90) (by decide) ?_
    exact ax_forget (L' := [some (.ref 105), some (.int v1), some (.int (v2 + (1 : Int32)))]) (⟨rfl, ⟨rfl, ⟨rfl, trivial⟩⟩⟩) hyp
  · replace hyp := hyp.2 c
    refine ax_aload_n hX dX11_tour_113 (Or.inr ⟨_, rfl⟩) rfl ?_
    refine tx_getF hX fRX11_236 ly_105 (o := 44) (b := 149) fk_11_61 rfl (by decide) (Nat.lt_of_lt_of_le (by decide) hsz) dX11_tour_114 ?_
    refine ax_iload_n hX dX11_tour_117 rfl ?_
    refine ax_dup2 hX dX11_tour_118 rfl rfl ?_
    refine tx_ial hX ly_149 (by decide) (Nat.lt_of_lt_of_le (by decide) hsz) hyp.1 dX11_tour_119 ?_
    replace hyp := hyp.2
    refine ax_iconst hX dX11_tour_120 (v := 1) (by decide) ?_
    refine ax_iadd hX dX11_tour_121 ?_
    refine tx_ias hX ly_149 (by decide) (Nat.lt_of_lt_of_le (by decide) hsz) hyp.1 dX11_tour_122 ?_
    replace hyp := hyp.2
    refine ax_goto hX dX11_tour_123 (tgt := 105) (by decide) ?_
    exact ax_forget (L' := [some (.ref 105), some (.int v1), some (.int v2)]) (⟨rfl, ⟨rfl, ⟨rfl, trivial⟩⟩⟩) hyp
set_option maxRecDepth 10000 in
theorem s_X11_toured_0 {X : ax_X} {d L sz : Nat} {T : tT} {Q : Int32 → tT → Prop} (hX : ax_ok X mX11_toured d) (hR : ax_Ret X mX11_toured (ti L sz Q)) (hsz : 161 ≤ sz) (x0 : Int32) (hyp : ((x0 < 0 → Q (-1 : Int32) T) ∧ (¬ x0 < 0 → ((x0 < (T.1 105 63) → vp_in x0 9 ∧ Q (T.1 150 (x0.toNatClampNeg)) T) ∧ (¬ x0 < (T.1 105 63) → Q (-1 : Int32) T))))) : ax_j X 0 [some (.ref 105), some (.int x0)] [] (th L sz T) 0 0 := by
  refine ax_iload_n hX dX11_toured_0 rfl ?_
  refine ax_if_lt hX dX11_toured_1 (tgt := 12) (by decide) (fun c => ?_) (fun c => ?_)
  · replace hyp := hyp.1 c
    refine ax_iconst hX dX11_toured_12 (v := -1) (by decide) ?_
    refine ax_goto hX dX11_toured_13 (tgt := 22) (by decide) ?_
    exact hR.1 _ _ _ _ _ _ (by decide) (by decide) dX11_toured_22 ⟨_, rfl, rfl⟩ ⟨_, _, rfl, rfl, hyp⟩
  · replace hyp := hyp.2 c
    refine ax_iload_n hX dX11_toured_4 rfl ?_
    refine ax_aload_n hX dX11_toured_5 (Or.inr ⟨_, rfl⟩) rfl ?_
    refine tx_getI hX fRX11_435 ly_105 fk_11_63 (by decide) (Nat.lt_of_lt_of_le (by decide) hsz) dX11_toured_6 ?_
    refine ax_icmp_lt hX dX11_toured_9 (tgt := 16) (by decide) (fun c => ?_) (fun c => ?_)
    · replace hyp := hyp.1 c
      refine ax_aload_n hX dX11_toured_16 (Or.inr ⟨_, rfl⟩) rfl ?_
      refine tx_getF hX fRX11_239 ly_105 (o := 45) (b := 150) fk_11_62 rfl (by decide) (Nat.lt_of_lt_of_le (by decide) hsz) dX11_toured_17 ?_
      refine ax_iload_n hX dX11_toured_20 rfl ?_
      refine tx_ial hX ly_150 (by decide) (Nat.lt_of_lt_of_le (by decide) hsz) hyp.1 dX11_toured_21 ?_
      replace hyp := hyp.2
      exact hR.1 _ _ _ _ _ _ (by decide) (by decide) dX11_toured_22 ⟨_, rfl, rfl⟩ ⟨_, _, rfl, rfl, hyp⟩
    · replace hyp := hyp.2 c
      refine ax_iconst hX dX11_toured_12 (v := -1) (by decide) ?_
      refine ax_goto hX dX11_toured_13 (tgt := 22) (by decide) ?_
      exact hR.1 _ _ _ _ _ _ (by decide) (by decide) dX11_toured_22 ⟨_, rfl, rfl⟩ ⟨_, _, rfl, rfl, hyp⟩
set_option maxRecDepth 10000 in
theorem s_X11_travel_0 {X : ax_X} {d L sz : Nat} {T : tT} {Q : Int32 → tT → Prop} (hX : ax_ok X mX11_travel (d + 1)) (hR : ax_Ret X mX11_travel (ti L sz Q)) (hsz : 161 ≤ sz) (x0 : Int32) (x1 : Int32) (hyp : ax_j X 2 [some (.ref 105), some (.int x0), some (.int x1), some (.int (0 : Int32)), none, none, none] [] (th L sz T) 0 0) : ax_j X 0 [some (.ref 105), some (.int x0), some (.int x1), none, none, none, none] [] (th L sz T) 0 0 := by
  refine ax_iconst hX dX11_travel_0 (v := 0) (by decide) ?_
  refine ax_istore_n hX dX11_travel_1 (by decide) (L' := [some (.ref 105), some (.int x0), some (.int x1), some (.int (0 : Int32)), none, none, none]) rfl ?_
  exact ax_forget (L' := [some (.ref 105), some (.int x0), some (.int x1), some (.int (0 : Int32)), none, none, none]) (⟨rfl, ⟨rfl, ⟨rfl, ⟨rfl, trivial⟩⟩⟩⟩) hyp
set_option maxRecDepth 10000 in
theorem s_X11_travel_2 {X : ax_X} {d L sz : Nat} {T : tT} {Q : Int32 → tT → Prop} (hX : ax_ok X mX11_travel (d + 1)) (hR : ax_Ret X mX11_travel (ti L sz Q)) (hsz : 161 ≤ sz) (v1 : Int32) (v2 : Int32) (v3 : Int32) (hyp : (((T.1 105 58) ≤ v3 → vp_in v1 5 ∧ ∃ Q1, tiK d mX11_nextOf [.ref 105, .int v2, .int (0 : Int32)] L sz T Q1 ∧ ∀ (r1 : Int32) (T1 : tT), Q1 r1 T1 → (ax_j X 106 [some (.ref 105), some (.int v1), some (.int v2), some (.int (T.1 143 (v1.toNatClampNeg))), some (.int (0 : Int32)), some (.int (-1 : Int32)), some (.int r1)] [] (th L sz T1) 0 0)) ∧ (¬ (T.1 105 58) ≤ v3 → ((¬ ((v2 >>> (v3 &&& 31)) &&& (1 : Int32)) = 0 → ∃ Q1, tiK d mX11_mayTake [.ref 105, .int v1, .int v3] L sz T Q1 ∧ ∀ (r2 : Int32) (T2 : tT), Q1 r2 T2 → (((¬ r2 = 0 → ax_j X 37 [some (.ref 105), some (.int v1), some (.int v2), some (.int v3), some (.int (0 : Int32)), none, none] [] (th L sz T2) 0 0) ∧ (r2 = 0 → Q (1000000 : Int32) T2)))) ∧ (((v2 >>> (v3 &&& 31)) &&& (1 : Int32)) = 0 → ax_j X 2 [some (.ref 105), some (.int v1), some (.int v2), some (.int (v3 + (1 : Int32))), none, none, none] [] (th L sz T) 0 0))))) : ax_j X 2 [some (.ref 105), some (.int v1), some (.int v2), some (.int v3), none, none, none] [] (th L sz T) 0 0 := by
  refine ax_iload_n hX dX11_travel_2 rfl ?_
  refine ax_aload_n hX dX11_travel_3 (Or.inr ⟨_, rfl⟩) rfl ?_
  refine tx_getI hX fRX11_400 ly_105 fk_11_58 (by decide) (Nat.lt_of_lt_of_le (by decide) hsz) dX11_travel_4 ?_
  refine ax_icmp_ge hX dX11_travel_7 (tgt := 85) (by decide) (fun c => ?_) (fun c => ?_)
  · replace hyp := hyp.1 c
    refine ax_aload_n hX dX11_travel_85 (Or.inr ⟨_, rfl⟩) rfl ?_
    refine tx_getF hX fRX11_218 ly_105 (o := 38) (b := 143) fk_11_52 rfl (by decide) (Nat.lt_of_lt_of_le (by decide) hsz) dX11_travel_86 ?_
    refine ax_iload_n hX dX11_travel_89 rfl ?_
    refine tx_ial hX ly_143 (by decide) (Nat.lt_of_lt_of_le (by decide) hsz) hyp.1 dX11_travel_90 ?_
    replace hyp := hyp.2
    refine ax_istore_n hX dX11_travel_91 (by decide) (L' := [some (.ref 105), some (.int v1), some (.int v2), some (.int (T.1 143 (v1.toNatClampNeg))), none, none, none]) rfl ?_
    refine ax_iconst hX dX11_travel_92 (v := 0) (by decide) ?_
    refine ax_istore hX dX11_travel_93 (by decide) (L' := [some (.ref 105), some (.int v1), some (.int v2), some (.int (T.1 143 (v1.toNatClampNeg))), some (.int (0 : Int32)), none, none]) rfl ?_
    refine ax_iconst hX dX11_travel_95 (v := -1) (by decide) ?_
    refine ax_istore hX dX11_travel_96 (by decide) (L' := [some (.ref 105), some (.int v1), some (.int v2), some (.int (T.1 143 (v1.toNatClampNeg))), some (.int (0 : Int32)), some (.int (-1 : Int32)), none]) rfl ?_
    refine ax_aload_n hX dX11_travel_98 (Or.inr ⟨_, rfl⟩) rfl ?_
    refine ax_iload_n hX dX11_travel_99 rfl ?_
    refine ax_iconst hX dX11_travel_100 (v := 0) (by decide) ?_
    obtain ⟨Q1, hK, hyp⟩ := hyp
    refine ax_callV hX lRX11_423 im_X11_nextOf sl_X11_nextOf cw_X11_nextOf ((th_at (by decide) (Nat.lt_of_lt_of_le (by decide) hsz)).trans (tc_ob ly_105)) rfl rfl (A := [.int v2, .int (0 : Int32)]) (st := []) rfl rfl (Nat.le_of_ble_eq_true rfl) (by decide) (by decide) dX11_travel_101 hK ?_
    rintro _ _ ⟨r1, T1, rfl, rfl, hq⟩
    replace hyp := hyp r1 T1 hq
    refine ax_istore hX dX11_travel_104 (by decide) (L' := [some (.ref 105), some (.int v1), some (.int v2), some (.int (T.1 143 (v1.toNatClampNeg))), some (.int (0 : Int32)), some (.int (-1 : Int32)), some (.int r1)]) rfl ?_
    exact ax_forget (L' := [some (.ref 105), some (.int v1), some (.int v2), some (.int (T.1 143 (v1.toNatClampNeg))), some (.int (0 : Int32)), some (.int (-1 : Int32)), some (.int r1)]) (⟨rfl, ⟨rfl, ⟨rfl, ⟨rfl, ⟨rfl, ⟨rfl, ⟨rfl, trivial⟩⟩⟩⟩⟩⟩⟩) hyp
  · replace hyp := hyp.2 c
    refine ax_iload_n hX dX11_travel_10 rfl ?_
    refine ax_iload_n hX dX11_travel_11 rfl ?_
    refine ax_ishr hX dX11_travel_12 ?_
    refine ax_iconst hX dX11_travel_13 (v := 1) (by decide) ?_
    refine ax_iand hX dX11_travel_14 ?_
    refine ax_if_ne hX dX11_travel_15 (tgt := 21) (by decide) (fun c => ?_) (fun c => ?_)
    · replace hyp := hyp.1 c
      refine ax_aload_n hX dX11_travel_21 (Or.inr ⟨_, rfl⟩) rfl ?_
      refine ax_iload_n hX dX11_travel_22 rfl ?_
      refine ax_iload_n hX dX11_travel_23 rfl ?_
      obtain ⟨Q1, hK, hyp⟩ := hyp
      refine ax_callV hX lRX11_419 im_X11_mayTake sl_X11_mayTake cw_X11_mayTake ((th_at (by decide) (Nat.lt_of_lt_of_le (by decide) hsz)).trans (tc_ob ly_105)) rfl rfl (A := [.int v1, .int v3]) (st := []) rfl rfl (Nat.le_of_ble_eq_true rfl) (by decide) (by decide) dX11_travel_24 hK ?_
      rintro _ _ ⟨r2, T2, rfl, rfl, hq⟩
      replace hyp := hyp r2 T2 hq
      refine ax_if_ne hX dX11_travel_27 (tgt := 34) (by decide) (fun c => ?_) (fun c => ?_)
      · replace hyp := hyp.1 c
        refine ax_iconst hX dX11_travel_34 (v := 0) (by decide) ?_
        refine ax_istore hX dX11_travel_35 (by decide) (L' := [some (.ref 105), some (.int v1), some (.int v2), some (.int v3), some (.int (0 : Int32)), none, none]) rfl ?_
        exact ax_forget (L' := [some (.ref 105), some (.int v1), some (.int v2), some (.int v3), some (.int (0 : Int32)), none, none]) (⟨rfl, ⟨rfl, ⟨rfl, ⟨rfl, ⟨rfl, trivial⟩⟩⟩⟩⟩) hyp
      · replace hyp := hyp.2 c
        refine ax_ldcw hX vRX11_422 dX11_travel_30 ?_
        exact hR.1 _ _ _ _ _ _ (by decide) (by decide) dX11_travel_33 ⟨_, rfl, rfl⟩ ⟨_, _, rfl, rfl, hyp⟩
    · replace hyp := hyp.2 c
      refine ax_goto hX dX11_travel_18 (tgt := 79) (by decide) ?_
      refine ax_iinc hX dX11_travel_79 rfl (w := (v3 + (1 : Int32))) rfl (by decide) (L' := [some (.ref 105), some (.int v1), some (.int v2), some (.int (v3 + (1 : Int32))), none, none, none]) rfl ?_
      refine ax_goto hX dX11_travel_82 (tgt := 2) (by decide) ?_
      exact ax_forget (L' := [some (.ref 105), some (.int v1), some (.int v2), some (.int (v3 + (1 : Int32))), none, none, none]) (⟨rfl, ⟨rfl, ⟨rfl, ⟨rfl, trivial⟩⟩⟩⟩) hyp
set_option maxRecDepth 10000 in
theorem s_X11_travel_106 {X : ax_X} {d L sz : Nat} {T : tT} {Q : Int32 → tT → Prop} (hX : ax_ok X mX11_travel (d + 1)) (hR : ax_Ret X mX11_travel (ti L sz Q)) (hsz : 161 ≤ sz) (v1 : Int32) (v2 : Int32) (v3 : Int32) (v4 : Int32) (v5 : Int32) (v6 : Int32) (hyp : ((v6 < 0 → vp_in v1 5 ∧ vp_in (((8 : Int32) * v3) + (T.1 143 (v1.toNatClampNeg))) 64 ∧ Q (v4 + (T.1 142 (((8 : Int32) * v3) + (T.1 143 (v1.toNatClampNeg))).toNatClampNeg)) T) ∧ (¬ v6 < 0 → ((v5 < 0 → vp_in v6 9 ∧ vp_in (((8 : Int32) * v3) + (T.1 145 (v6.toNatClampNeg))) 64 ∧ vp_in v6 9 ∧ vp_in v6 9 ∧ ∃ Q1, tiK d mX11_nextOf [.ref 105, .int v2, .int ((T.1 146 (v6.toNatClampNeg)) + (1 : Int32))] L sz T Q1 ∧ ∀ (r1 : Int32) (T1 : tT), Q1 r1 T1 → (ax_j X 106 [some (.ref 105), some (.int v1), some (.int v2), some (.int (T.1 145 (v6.toNatClampNeg))), some (.int (v4 + (T.1 142 (((8 : Int32) * v3) + (T.1 145 (v6.toNatClampNeg))).toNatClampNeg))), some (.int (T.1 146 (v6.toNatClampNeg))), some (.int r1)] [] (th L sz T1) 0 0)) ∧ (¬ v5 < 0 → vp_in v6 9 ∧ (((T.1 146 (v6.toNatClampNeg)) ≤ (v5 + (1 : Int32)) → vp_in v6 9 ∧ vp_in (((8 : Int32) * v3) + (T.1 145 (v6.toNatClampNeg))) 64 ∧ vp_in v6 9 ∧ vp_in v6 9 ∧ ∃ Q1, tiK d mX11_nextOf [.ref 105, .int v2, .int ((T.1 146 (v6.toNatClampNeg)) + (1 : Int32))] L sz T Q1 ∧ ∀ (r2 : Int32) (T2 : tT), Q1 r2 T2 → (ax_j X 106 [some (.ref 105), some (.int v1), some (.int v2), some (.int (T.1 145 (v6.toNatClampNeg))), some (.int (v4 + (T.1 142 (((8 : Int32) * v3) + (T.1 145 (v6.toNatClampNeg))).toNatClampNeg))), some (.int (T.1 146 (v6.toNatClampNeg))), some (.int r2)] [] (th L sz T2) 0 0)) ∧ (¬ (T.1 146 (v6.toNatClampNeg)) ≤ (v5 + (1 : Int32)) → vp_in v1 5 ∧ vp_in (((8 : Int32) * v3) + (T.1 143 (v1.toNatClampNeg))) 64 ∧ vp_in v1 5 ∧ vp_in v6 9 ∧ vp_in (((8 : Int32) * (T.1 143 (v1.toNatClampNeg))) + (T.1 145 (v6.toNatClampNeg))) 64 ∧ vp_in v6 9 ∧ vp_in v6 9 ∧ ∃ Q1, tiK d mX11_nextOf [.ref 105, .int v2, .int ((T.1 146 (v6.toNatClampNeg)) + (1 : Int32))] L sz T Q1 ∧ ∀ (r3 : Int32) (T3 : tT), Q1 r3 T3 → (ax_j X 106 [some (.ref 105), some (.int v1), some (.int v2), some (.int (T.1 145 (v6.toNatClampNeg))), some (.int ((v4 + (T.1 142 (((8 : Int32) * v3) + (T.1 143 (v1.toNatClampNeg))).toNatClampNeg)) + (T.1 142 (((8 : Int32) * (T.1 143 (v1.toNatClampNeg))) + (T.1 145 (v6.toNatClampNeg))).toNatClampNeg))), some (.int (T.1 146 (v6.toNatClampNeg))), some (.int r3)] [] (th L sz T3) 0 0)))))))) : ax_j X 106 [some (.ref 105), some (.int v1), some (.int v2), some (.int v3), some (.int v4), some (.int v5), some (.int v6)] [] (th L sz T) 0 0 := by
  refine ax_iload hX dX11_travel_106 rfl ?_
  refine ax_if_lt hX dX11_travel_108 (tgt := 211) (by decide) (fun c => ?_) (fun c => ?_)
  · replace hyp := hyp.1 c
    refine ax_iload hX dX11_travel_211 rfl ?_
    refine ax_aload_n hX dX11_travel_213 (Or.inr ⟨_, rfl⟩) rfl ?_
    refine tx_getF hX fRX11_215 ly_105 (o := 37) (b := 142) fk_11_51 rfl (by decide) (Nat.lt_of_lt_of_le (by decide) hsz) dX11_travel_214 ?_
    refine ax_bipush hX dX11_travel_217 (v := 8) (by decide) ?_
    refine ax_iload_n hX dX11_travel_219 rfl ?_
    refine ax_imul hX dX11_travel_220 ?_
    refine ax_aload_n hX dX11_travel_221 (Or.inr ⟨_, rfl⟩) rfl ?_
    refine tx_getF hX fRX11_218 ly_105 (o := 38) (b := 143) fk_11_52 rfl (by decide) (Nat.lt_of_lt_of_le (by decide) hsz) dX11_travel_222 ?_
    refine ax_iload_n hX dX11_travel_225 rfl ?_
    refine tx_ial hX ly_143 (by decide) (Nat.lt_of_lt_of_le (by decide) hsz) hyp.1 dX11_travel_226 ?_
    replace hyp := hyp.2
    refine ax_iadd hX dX11_travel_227 ?_
    refine tx_ial hX ly_142 (by decide) (Nat.lt_of_lt_of_le (by decide) hsz) hyp.1 dX11_travel_228 ?_
    replace hyp := hyp.2
    refine ax_iadd hX dX11_travel_229 ?_
    exact hR.1 _ _ _ _ _ _ (by decide) (by decide) dX11_travel_230 ⟨_, rfl, rfl⟩ ⟨_, _, rfl, rfl, hyp⟩
  · replace hyp := hyp.2 c
    refine ax_iload hX dX11_travel_111 rfl ?_
    refine ax_if_lt hX dX11_travel_113 (tgt := 158) (by decide) (fun c => ?_) (fun c => ?_)
    · replace hyp := hyp.1 c
      refine ax_iload hX dX11_travel_158 rfl ?_
      refine ax_aload_n hX dX11_travel_160 (Or.inr ⟨_, rfl⟩) rfl ?_
      refine tx_getF hX fRX11_215 ly_105 (o := 37) (b := 142) fk_11_51 rfl (by decide) (Nat.lt_of_lt_of_le (by decide) hsz) dX11_travel_161 ?_
      refine ax_bipush hX dX11_travel_164 (v := 8) (by decide) ?_
      refine ax_iload_n hX dX11_travel_166 rfl ?_
      refine ax_imul hX dX11_travel_167 ?_
      refine ax_aload_n hX dX11_travel_168 (Or.inr ⟨_, rfl⟩) rfl ?_
      refine tx_getF hX fRX11_224 ly_105 (o := 40) (b := 145) fk_11_54 rfl (by decide) (Nat.lt_of_lt_of_le (by decide) hsz) dX11_travel_169 ?_
      refine ax_iload hX dX11_travel_172 rfl ?_
      refine tx_ial hX ly_145 (by decide) (Nat.lt_of_lt_of_le (by decide) hsz) hyp.1 dX11_travel_174 ?_
      replace hyp := hyp.2
      refine ax_iadd hX dX11_travel_175 ?_
      refine tx_ial hX ly_142 (by decide) (Nat.lt_of_lt_of_le (by decide) hsz) hyp.1 dX11_travel_176 ?_
      replace hyp := hyp.2
      refine ax_iadd hX dX11_travel_177 ?_
      refine ax_istore hX dX11_travel_178 (by decide) (L' := [some (.ref 105), some (.int v1), some (.int v2), some (.int v3), some (.int (v4 + (T.1 142 (((8 : Int32) * v3) + (T.1 145 (v6.toNatClampNeg))).toNatClampNeg))), some (.int v5), some (.int v6)]) rfl ?_
      refine ax_aload_n hX dX11_travel_180 (Or.inr ⟨_, rfl⟩) rfl ?_
      refine tx_getF hX fRX11_224 ly_105 (o := 40) (b := 145) fk_11_54 rfl (by decide) (Nat.lt_of_lt_of_le (by decide) hsz) dX11_travel_181 ?_
      refine ax_iload hX dX11_travel_184 rfl ?_
      refine tx_ial hX ly_145 (by decide) (Nat.lt_of_lt_of_le (by decide) hsz) hyp.1 dX11_travel_186 ?_
      replace hyp := hyp.2
      refine ax_istore_n hX dX11_travel_187 (by decide) (L' := [some (.ref 105), some (.int v1), some (.int v2), some (.int (T.1 145 (v6.toNatClampNeg))), some (.int (v4 + (T.1 142 (((8 : Int32) * v3) + (T.1 145 (v6.toNatClampNeg))).toNatClampNeg))), some (.int v5), some (.int v6)]) rfl ?_
      refine ax_aload_n hX dX11_travel_188 (Or.inr ⟨_, rfl⟩) rfl ?_
      refine tx_getF hX fRX11_227 ly_105 (o := 41) (b := 146) fk_11_55 rfl (by decide) (Nat.lt_of_lt_of_le (by decide) hsz) dX11_travel_189 ?_
      refine ax_iload hX dX11_travel_192 rfl ?_
      refine tx_ial hX ly_146 (by decide) (Nat.lt_of_lt_of_le (by decide) hsz) hyp.1 dX11_travel_194 ?_
      replace hyp := hyp.2
      refine ax_istore hX dX11_travel_195 (by decide) (L' := [some (.ref 105), some (.int v1), some (.int v2), some (.int (T.1 145 (v6.toNatClampNeg))), some (.int (v4 + (T.1 142 (((8 : Int32) * v3) + (T.1 145 (v6.toNatClampNeg))).toNatClampNeg))), some (.int (T.1 146 (v6.toNatClampNeg))), some (.int v6)]) rfl ?_
      refine ax_aload_n hX dX11_travel_197 (Or.inr ⟨_, rfl⟩) rfl ?_
      refine ax_iload_n hX dX11_travel_198 rfl ?_
      refine ax_iload hX dX11_travel_199 rfl ?_
      refine ax_iconst hX dX11_travel_201 (v := 1) (by decide) ?_
      refine ax_iadd hX dX11_travel_202 ?_
      obtain ⟨Q1, hK, hyp⟩ := hyp
      refine ax_callV hX lRX11_423 im_X11_nextOf sl_X11_nextOf cw_X11_nextOf ((th_at (by decide) (Nat.lt_of_lt_of_le (by decide) hsz)).trans (tc_ob ly_105)) rfl rfl (A := [.int v2, .int ((T.1 146 (v6.toNatClampNeg)) + (1 : Int32))]) (st := []) rfl rfl (Nat.le_of_ble_eq_true rfl) (by decide) (by decide) dX11_travel_203 hK ?_
      rintro _ _ ⟨r1, T1, rfl, rfl, hq⟩
      replace hyp := hyp r1 T1 hq
      refine ax_istore hX dX11_travel_206 (by decide) (L' := [some (.ref 105), some (.int v1), some (.int v2), some (.int (T.1 145 (v6.toNatClampNeg))), some (.int (v4 + (T.1 142 (((8 : Int32) * v3) + (T.1 145 (v6.toNatClampNeg))).toNatClampNeg))), some (.int (T.1 146 (v6.toNatClampNeg))), some (.int r1)]) rfl ?_
      refine ax_goto hX dX11_travel_208 (tgt := 106) (by decide) ?_
      exact ax_forget (L' := [some (.ref 105), some (.int v1), some (.int v2), some (.int (T.1 145 (v6.toNatClampNeg))), some (.int (v4 + (T.1 142 (((8 : Int32) * v3) + (T.1 145 (v6.toNatClampNeg))).toNatClampNeg))), some (.int (T.1 146 (v6.toNatClampNeg))), some (.int r1)]) (⟨rfl, ⟨rfl, ⟨rfl, ⟨rfl, ⟨rfl, ⟨rfl, ⟨rfl, trivial⟩⟩⟩⟩⟩⟩⟩) hyp
    · replace hyp := hyp.2 c
      refine ax_aload_n hX dX11_travel_116 (Or.inr ⟨_, rfl⟩) rfl ?_
      refine tx_getF hX fRX11_227 ly_105 (o := 41) (b := 146) fk_11_55 rfl (by decide) (Nat.lt_of_lt_of_le (by decide) hsz) dX11_travel_117 ?_
      refine ax_iload hX dX11_travel_120 rfl ?_
      refine tx_ial hX ly_146 (by decide) (Nat.lt_of_lt_of_le (by decide) hsz) hyp.1 dX11_travel_122 ?_
      replace hyp := hyp.2
      refine ax_iload hX dX11_travel_123 rfl ?_
      refine ax_iconst hX dX11_travel_125 (v := 1) (by decide) ?_
      refine ax_iadd hX dX11_travel_126 ?_
      refine ax_icmp_le hX dX11_travel_127 (tgt := 158) (by decide) (fun c => ?_) (fun c => ?_)
      · replace hyp := hyp.1 c
        refine ax_iload hX dX11_travel_158 rfl ?_
        refine ax_aload_n hX dX11_travel_160 (Or.inr ⟨_, rfl⟩) rfl ?_
        refine tx_getF hX fRX11_215 ly_105 (o := 37) (b := 142) fk_11_51 rfl (by decide) (Nat.lt_of_lt_of_le (by decide) hsz) dX11_travel_161 ?_
        refine ax_bipush hX dX11_travel_164 (v := 8) (by decide) ?_
        refine ax_iload_n hX dX11_travel_166 rfl ?_
        refine ax_imul hX dX11_travel_167 ?_
        refine ax_aload_n hX dX11_travel_168 (Or.inr ⟨_, rfl⟩) rfl ?_
        refine tx_getF hX fRX11_224 ly_105 (o := 40) (b := 145) fk_11_54 rfl (by decide) (Nat.lt_of_lt_of_le (by decide) hsz) dX11_travel_169 ?_
        refine ax_iload hX dX11_travel_172 rfl ?_
        refine tx_ial hX ly_145 (by decide) (Nat.lt_of_lt_of_le (by decide) hsz) hyp.1 dX11_travel_174 ?_
        replace hyp := hyp.2
        refine ax_iadd hX dX11_travel_175 ?_
        refine tx_ial hX ly_142 (by decide) (Nat.lt_of_lt_of_le (by decide) hsz) hyp.1 dX11_travel_176 ?_
        replace hyp := hyp.2
        refine ax_iadd hX dX11_travel_177 ?_
        refine ax_istore hX dX11_travel_178 (by decide) (L' := [some (.ref 105), some (.int v1), some (.int v2), some (.int v3), some (.int (v4 + (T.1 142 (((8 : Int32) * v3) + (T.1 145 (v6.toNatClampNeg))).toNatClampNeg))), some (.int v5), some (.int v6)]) rfl ?_
        refine ax_aload_n hX dX11_travel_180 (Or.inr ⟨_, rfl⟩) rfl ?_
        refine tx_getF hX fRX11_224 ly_105 (o := 40) (b := 145) fk_11_54 rfl (by decide) (Nat.lt_of_lt_of_le (by decide) hsz) dX11_travel_181 ?_
        refine ax_iload hX dX11_travel_184 rfl ?_
        refine tx_ial hX ly_145 (by decide) (Nat.lt_of_lt_of_le (by decide) hsz) hyp.1 dX11_travel_186 ?_
        replace hyp := hyp.2
        refine ax_istore_n hX dX11_travel_187 (by decide) (L' := [some (.ref 105), some (.int v1), some (.int v2), some (.int (T.1 145 (v6.toNatClampNeg))), some (.int (v4 + (T.1 142 (((8 : Int32) * v3) + (T.1 145 (v6.toNatClampNeg))).toNatClampNeg))), some (.int v5), some (.int v6)]) rfl ?_
        refine ax_aload_n hX dX11_travel_188 (Or.inr ⟨_, rfl⟩) rfl ?_
        refine tx_getF hX fRX11_227 ly_105 (o := 41) (b := 146) fk_11_55 rfl (by decide) (Nat.lt_of_lt_of_le (by decide) hsz) dX11_travel_189 ?_
        refine ax_iload hX dX11_travel_192 rfl ?_
        refine tx_ial hX ly_146 (by decide) (Nat.lt_of_lt_of_le (by decide) hsz) hyp.1 dX11_travel_194 ?_
        replace hyp := hyp.2
        refine ax_istore hX dX11_travel_195 (by decide) (L' := [some (.ref 105), some (.int v1), some (.int v2), some (.int (T.1 145 (v6.toNatClampNeg))), some (.int (v4 + (T.1 142 (((8 : Int32) * v3) + (T.1 145 (v6.toNatClampNeg))).toNatClampNeg))), some (.int (T.1 146 (v6.toNatClampNeg))), some (.int v6)]) rfl ?_
        refine ax_aload_n hX dX11_travel_197 (Or.inr ⟨_, rfl⟩) rfl ?_
        refine ax_iload_n hX dX11_travel_198 rfl ?_
        refine ax_iload hX dX11_travel_199 rfl ?_
        refine ax_iconst hX dX11_travel_201 (v := 1) (by decide) ?_
        refine ax_iadd hX dX11_travel_202 ?_
        obtain ⟨Q1, hK, hyp⟩ := hyp
        refine ax_callV hX lRX11_423 im_X11_nextOf sl_X11_nextOf cw_X11_nextOf ((th_at (by decide) (Nat.lt_of_lt_of_le (by decide) hsz)).trans (tc_ob ly_105)) rfl rfl (A := [.int v2, .int ((T.1 146 (v6.toNatClampNeg)) + (1 : Int32))]) (st := []) rfl rfl (Nat.le_of_ble_eq_true rfl) (by decide) (by decide) dX11_travel_203 hK ?_
        rintro _ _ ⟨r2, T2, rfl, rfl, hq⟩
        replace hyp := hyp r2 T2 hq
        refine ax_istore hX dX11_travel_206 (by decide) (L' := [some (.ref 105), some (.int v1), some (.int v2), some (.int (T.1 145 (v6.toNatClampNeg))), some (.int (v4 + (T.1 142 (((8 : Int32) * v3) + (T.1 145 (v6.toNatClampNeg))).toNatClampNeg))), some (.int (T.1 146 (v6.toNatClampNeg))), some (.int r2)]) rfl ?_
        refine ax_goto hX dX11_travel_208 (tgt := 106) (by decide) ?_
        exact ax_forget (L' := [some (.ref 105), some (.int v1), some (.int v2), some (.int (T.1 145 (v6.toNatClampNeg))), some (.int (v4 + (T.1 142 (((8 : Int32) * v3) + (T.1 145 (v6.toNatClampNeg))).toNatClampNeg))), some (.int (T.1 146 (v6.toNatClampNeg))), some (.int r2)]) (⟨rfl, ⟨rfl, ⟨rfl, ⟨rfl, ⟨rfl, ⟨rfl, ⟨rfl, trivial⟩⟩⟩⟩⟩⟩⟩) hyp
      · replace hyp := hyp.2 c
        refine ax_iload hX dX11_travel_130 rfl ?_
        refine ax_aload_n hX dX11_travel_132 (Or.inr ⟨_, rfl⟩) rfl ?_
        refine tx_getF hX fRX11_215 ly_105 (o := 37) (b := 142) fk_11_51 rfl (by decide) (Nat.lt_of_lt_of_le (by decide) hsz) dX11_travel_133 ?_
        refine ax_bipush hX dX11_travel_136 (v := 8) (by decide) ?_
        refine ax_iload_n hX dX11_travel_138 rfl ?_
        refine ax_imul hX dX11_travel_139 ?_
        refine ax_aload_n hX dX11_travel_140 (Or.inr ⟨_, rfl⟩) rfl ?_
        refine tx_getF hX fRX11_218 ly_105 (o := 38) (b := 143) fk_11_52 rfl (by decide) (Nat.lt_of_lt_of_le (by decide) hsz) dX11_travel_141 ?_
        refine ax_iload_n hX dX11_travel_144 rfl ?_
        refine tx_ial hX ly_143 (by decide) (Nat.lt_of_lt_of_le (by decide) hsz) hyp.1 dX11_travel_145 ?_
        replace hyp := hyp.2
        refine ax_iadd hX dX11_travel_146 ?_
        refine tx_ial hX ly_142 (by decide) (Nat.lt_of_lt_of_le (by decide) hsz) hyp.1 dX11_travel_147 ?_
        replace hyp := hyp.2
        refine ax_iadd hX dX11_travel_148 ?_
        refine ax_istore hX dX11_travel_149 (by decide) (L' := [some (.ref 105), some (.int v1), some (.int v2), some (.int v3), some (.int (v4 + (T.1 142 (((8 : Int32) * v3) + (T.1 143 (v1.toNatClampNeg))).toNatClampNeg))), some (.int v5), some (.int v6)]) rfl ?_
        refine ax_aload_n hX dX11_travel_151 (Or.inr ⟨_, rfl⟩) rfl ?_
        refine tx_getF hX fRX11_218 ly_105 (o := 38) (b := 143) fk_11_52 rfl (by decide) (Nat.lt_of_lt_of_le (by decide) hsz) dX11_travel_152 ?_
        refine ax_iload_n hX dX11_travel_155 rfl ?_
        refine tx_ial hX ly_143 (by decide) (Nat.lt_of_lt_of_le (by decide) hsz) hyp.1 dX11_travel_156 ?_
        replace hyp := hyp.2
        refine ax_istore_n hX dX11_travel_157 (by decide) (L' := [some (.ref 105), some (.int v1), some (.int v2), some (.int (T.1 143 (v1.toNatClampNeg))), some (.int (v4 + (T.1 142 (((8 : Int32) * v3) + (T.1 143 (v1.toNatClampNeg))).toNatClampNeg))), some (.int v5), some (.int v6)]) rfl ?_
        refine ax_iload hX dX11_travel_158 rfl ?_
        refine ax_aload_n hX dX11_travel_160 (Or.inr ⟨_, rfl⟩) rfl ?_
        refine tx_getF hX fRX11_215 ly_105 (o := 37) (b := 142) fk_11_51 rfl (by decide) (Nat.lt_of_lt_of_le (by decide) hsz) dX11_travel_161 ?_
        refine ax_bipush hX dX11_travel_164 (v := 8) (by decide) ?_
        refine ax_iload_n hX dX11_travel_166 rfl ?_
        refine ax_imul hX dX11_travel_167 ?_
        refine ax_aload_n hX dX11_travel_168 (Or.inr ⟨_, rfl⟩) rfl ?_
        refine tx_getF hX fRX11_224 ly_105 (o := 40) (b := 145) fk_11_54 rfl (by decide) (Nat.lt_of_lt_of_le (by decide) hsz) dX11_travel_169 ?_
        refine ax_iload hX dX11_travel_172 rfl ?_
        refine tx_ial hX ly_145 (by decide) (Nat.lt_of_lt_of_le (by decide) hsz) hyp.1 dX11_travel_174 ?_
        replace hyp := hyp.2
        refine ax_iadd hX dX11_travel_175 ?_
        refine tx_ial hX ly_142 (by decide) (Nat.lt_of_lt_of_le (by decide) hsz) hyp.1 dX11_travel_176 ?_
        replace hyp := hyp.2
        refine ax_iadd hX dX11_travel_177 ?_
        refine ax_istore hX dX11_travel_178 (by decide) (L' := [some (.ref 105), some (.int v1), some (.int v2), some (.int (T.1 143 (v1.toNatClampNeg))), some (.int ((v4 + (T.1 142 (((8 : Int32) * v3) + (T.1 143 (v1.toNatClampNeg))).toNatClampNeg)) + (T.1 142 (((8 : Int32) * (T.1 143 (v1.toNatClampNeg))) + (T.1 145 (v6.toNatClampNeg))).toNatClampNeg))), some (.int v5), some (.int v6)]) rfl ?_
        refine ax_aload_n hX dX11_travel_180 (Or.inr ⟨_, rfl⟩) rfl ?_
        refine tx_getF hX fRX11_224 ly_105 (o := 40) (b := 145) fk_11_54 rfl (by decide) (Nat.lt_of_lt_of_le (by decide) hsz) dX11_travel_181 ?_
        refine ax_iload hX dX11_travel_184 rfl ?_
        refine tx_ial hX ly_145 (by decide) (Nat.lt_of_lt_of_le (by decide) hsz) hyp.1 dX11_travel_186 ?_
        replace hyp := hyp.2
        refine ax_istore_n hX dX11_travel_187 (by decide) (L' := [some (.ref 105), some (.int v1), some (.int v2), some (.int (T.1 145 (v6.toNatClampNeg))), some (.int ((v4 + (T.1 142 (((8 : Int32) * v3) + (T.1 143 (v1.toNatClampNeg))).toNatClampNeg)) + (T.1 142 (((8 : Int32) * (T.1 143 (v1.toNatClampNeg))) + (T.1 145 (v6.toNatClampNeg))).toNatClampNeg))), some (.int v5), some (.int v6)]) rfl ?_
        refine ax_aload_n hX dX11_travel_188 (Or.inr ⟨_, rfl⟩) rfl ?_
        refine tx_getF hX fRX11_227 ly_105 (o := 41) (b := 146) fk_11_55 rfl (by decide) (Nat.lt_of_lt_of_le (by decide) hsz) dX11_travel_189 ?_
        refine ax_iload hX dX11_travel_192 rfl ?_
        refine tx_ial hX ly_146 (by decide) (Nat.lt_of_lt_of_le (by decide) hsz) hyp.1 dX11_travel_194 ?_
        replace hyp := hyp.2
        refine ax_istore hX dX11_travel_195 (by decide) (L' := [some (.ref 105), some (.int v1), some (.int v2), some (.int (T.1 145 (v6.toNatClampNeg))), some (.int ((v4 + (T.1 142 (((8 : Int32) * v3) + (T.1 143 (v1.toNatClampNeg))).toNatClampNeg)) + (T.1 142 (((8 : Int32) * (T.1 143 (v1.toNatClampNeg))) + (T.1 145 (v6.toNatClampNeg))).toNatClampNeg))), some (.int (T.1 146 (v6.toNatClampNeg))), some (.int v6)]) rfl ?_
        refine ax_aload_n hX dX11_travel_197 (Or.inr ⟨_, rfl⟩) rfl ?_
        refine ax_iload_n hX dX11_travel_198 rfl ?_
        refine ax_iload hX dX11_travel_199 rfl ?_
        refine ax_iconst hX dX11_travel_201 (v := 1) (by decide) ?_
        refine ax_iadd hX dX11_travel_202 ?_
        obtain ⟨Q1, hK, hyp⟩ := hyp
        refine ax_callV hX lRX11_423 im_X11_nextOf sl_X11_nextOf cw_X11_nextOf ((th_at (by decide) (Nat.lt_of_lt_of_le (by decide) hsz)).trans (tc_ob ly_105)) rfl rfl (A := [.int v2, .int ((T.1 146 (v6.toNatClampNeg)) + (1 : Int32))]) (st := []) rfl rfl (Nat.le_of_ble_eq_true rfl) (by decide) (by decide) dX11_travel_203 hK ?_
        rintro _ _ ⟨r3, T3, rfl, rfl, hq⟩
        replace hyp := hyp r3 T3 hq
        refine ax_istore hX dX11_travel_206 (by decide) (L' := [some (.ref 105), some (.int v1), some (.int v2), some (.int (T.1 145 (v6.toNatClampNeg))), some (.int ((v4 + (T.1 142 (((8 : Int32) * v3) + (T.1 143 (v1.toNatClampNeg))).toNatClampNeg)) + (T.1 142 (((8 : Int32) * (T.1 143 (v1.toNatClampNeg))) + (T.1 145 (v6.toNatClampNeg))).toNatClampNeg))), some (.int (T.1 146 (v6.toNatClampNeg))), some (.int r3)]) rfl ?_
        refine ax_goto hX dX11_travel_208 (tgt := 106) (by decide) ?_
        exact ax_forget (L' := [some (.ref 105), some (.int v1), some (.int v2), some (.int (T.1 145 (v6.toNatClampNeg))), some (.int ((v4 + (T.1 142 (((8 : Int32) * v3) + (T.1 143 (v1.toNatClampNeg))).toNatClampNeg)) + (T.1 142 (((8 : Int32) * (T.1 143 (v1.toNatClampNeg))) + (T.1 145 (v6.toNatClampNeg))).toNatClampNeg))), some (.int (T.1 146 (v6.toNatClampNeg))), some (.int r3)]) (⟨rfl, ⟨rfl, ⟨rfl, ⟨rfl, ⟨rfl, ⟨rfl, ⟨rfl, trivial⟩⟩⟩⟩⟩⟩⟩) hyp
set_option maxRecDepth 10000 in
theorem s_X11_travel_37 {X : ax_X} {d L sz : Nat} {T : tT} {Q : Int32 → tT → Prop} (hX : ax_ok X mX11_travel (d + 1)) (hR : ax_Ret X mX11_travel (ti L sz Q)) (hsz : 161 ≤ sz) (v1 : Int32) (v2 : Int32) (v3 : Int32) (v4 : Int32) (hyp : ((v3 ≤ v4 → ax_j X 2 [some (.ref 105), some (.int v1), some (.int v2), some (.int (v3 + (1 : Int32))), none, none, none] [] (th L sz T) 0 0) ∧ (¬ v3 ≤ v4 → ((¬ ((v2 >>> (v4 &&& 31)) &&& (1 : Int32)) = (1 : Int32) → ax_j X 37 [some (.ref 105), some (.int v1), some (.int v2), some (.int v3), some (.int (v4 + (1 : Int32))), none, none] [] (th L sz T) 0 0) ∧ (((v2 >>> (v4 &&& 31)) &&& (1 : Int32)) = (1 : Int32) → vp_in v4 9 ∧ vp_in v3 9 ∧ ((¬ (T.1 146 (v4.toNatClampNeg)) = (T.1 146 (v3.toNatClampNeg)) → ax_j X 37 [some (.ref 105), some (.int v1), some (.int v2), some (.int v3), some (.int (v4 + (1 : Int32))), none, none] [] (th L sz T) 0 0) ∧ ((T.1 146 (v4.toNatClampNeg)) = (T.1 146 (v3.toNatClampNeg)) → Q (1000000 : Int32) T))))))) : ax_j X 37 [some (.ref 105), some (.int v1), some (.int v2), some (.int v3), some (.int v4), none, none] [] (th L sz T) 0 0 := by
  refine ax_iload hX dX11_travel_37 rfl ?_
  refine ax_iload_n hX dX11_travel_39 rfl ?_
  refine ax_icmp_ge hX dX11_travel_40 (tgt := 79) (by decide) (fun c => ?_) (fun c => ?_)
  · replace hyp := hyp.1 c
    refine ax_iinc hX dX11_travel_79 rfl (w := (v3 + (1 : Int32))) rfl (by decide) (L' := [some (.ref 105), some (.int v1), some (.int v2), some (.int (v3 + (1 : Int32))), some (.int v4), none, none]) rfl ?_
    refine ax_goto hX dX11_travel_82 (tgt := 2) (by decide) ?_
    exact ax_forget (L' := [some (.ref 105), some (.int v1), some (.int v2), some (.int (v3 + (1 : Int32))), none, none, none]) (⟨rfl, ⟨rfl, ⟨rfl, ⟨rfl, trivial⟩⟩⟩⟩) hyp
  · replace hyp := hyp.2 c
    refine ax_iload_n hX dX11_travel_43 rfl ?_
    refine ax_iload hX dX11_travel_44 rfl ?_
    refine ax_ishr hX dX11_travel_46 ?_
    refine ax_iconst hX dX11_travel_47 (v := 1) (by decide) ?_
    refine ax_iand hX dX11_travel_48 ?_
    refine ax_iconst hX dX11_travel_49 (v := 1) (by decide) ?_
    refine ax_icmp_ne hX dX11_travel_50 (tgt := 73) (by decide) (fun c => ?_) (fun c => ?_)
    · replace hyp := hyp.1 c
      refine ax_iinc hX dX11_travel_73 rfl (w := (v4 + (1 : Int32))) rfl (by decide) (L' := [some (.ref 105), some (.int v1), some (.int v2), some (.int v3), some (.int (v4 + (1 : Int32))), none, none]) rfl ?_
      refine ax_goto hX dX11_travel_76 (tgt := 37) (by decide) ?_
      exact ax_forget (L' := [some (.ref 105), some (.int v1), some (.int v2), some (.int v3), some (.int (v4 + (1 : Int32))), none, none]) (⟨rfl, ⟨rfl, ⟨rfl, ⟨rfl, ⟨rfl, trivial⟩⟩⟩⟩⟩) hyp
    · replace hyp := hyp.2 c
      refine ax_aload_n hX dX11_travel_53 (Or.inr ⟨_, rfl⟩) rfl ?_
      refine tx_getF hX fRX11_227 ly_105 (o := 41) (b := 146) fk_11_55 rfl (by decide) (Nat.lt_of_lt_of_le (by decide) hsz) dX11_travel_54 ?_
      refine ax_iload hX dX11_travel_57 rfl ?_
      refine tx_ial hX ly_146 (by decide) (Nat.lt_of_lt_of_le (by decide) hsz) hyp.1 dX11_travel_59 ?_
      replace hyp := hyp.2
      refine ax_aload_n hX dX11_travel_60 (Or.inr ⟨_, rfl⟩) rfl ?_
      refine tx_getF hX fRX11_227 ly_105 (o := 41) (b := 146) fk_11_55 rfl (by decide) (Nat.lt_of_lt_of_le (by decide) hsz) dX11_travel_61 ?_
      refine ax_iload_n hX dX11_travel_64 rfl ?_
      refine tx_ial hX ly_146 (by decide) (Nat.lt_of_lt_of_le (by decide) hsz) hyp.1 dX11_travel_65 ?_
      replace hyp := hyp.2
      refine ax_icmp_ne hX dX11_travel_66 (tgt := 73) (by decide) (fun c => ?_) (fun c => ?_)
      · replace hyp := hyp.1 c
        refine ax_iinc hX dX11_travel_73 rfl (w := (v4 + (1 : Int32))) rfl (by decide) (L' := [some (.ref 105), some (.int v1), some (.int v2), some (.int v3), some (.int (v4 + (1 : Int32))), none, none]) rfl ?_
        refine ax_goto hX dX11_travel_76 (tgt := 37) (by decide) ?_
        exact ax_forget (L' := [some (.ref 105), some (.int v1), some (.int v2), some (.int v3), some (.int (v4 + (1 : Int32))), none, none]) (⟨rfl, ⟨rfl, ⟨rfl, ⟨rfl, ⟨rfl, trivial⟩⟩⟩⟩⟩) hyp
      · replace hyp := hyp.2 c
        refine ax_ldcw hX vRX11_422 dX11_travel_69 ?_
        exact hR.1 _ _ _ _ _ _ (by decide) (by decide) dX11_travel_72 ⟨_, rfl, rfl⟩ ⟨_, _, rfl, rfl, hyp⟩
set_option maxRecDepth 10000 in
theorem s_X11_two_0 {X : ax_X} {d L sz : Nat} {T : tT} {Q : Int32 → tT → Prop} (hX : ax_ok X mX11_two d) (hR : ax_Ret X mX11_two (ti L sz Q)) (hsz : 161 ≤ sz) (x0 : Int32) (x1 : Int32) (x2 : Int32) (hyp : (x0 = 38 → ((x1 = 0 → Q (0 : Int32) T) ∧ (¬ x1 = 0 → ((x2 = 0 → Q (0 : Int32) T) ∧ (¬ x2 = 0 → Q (1 : Int32) T))))) ∧ (x0 = 43 → Q (x1 + x2) T) ∧ (x0 = 45 → Q (x1 - x2) T) ∧ (x0 = 60 → ((x2 ≤ x1 → Q (0 : Int32) T) ∧ (¬ x2 ≤ x1 → Q (1 : Int32) T))) ∧ (x0 = 61 → ((¬ x1 = x2 → Q (0 : Int32) T) ∧ (x1 = x2 → Q (1 : Int32) T))) ∧ (x0 = 62 → ((x1 ≤ x2 → Q (0 : Int32) T) ∧ (¬ x1 ≤ x2 → Q (1 : Int32) T))) ∧ (¬ x0 = 38 → ¬ x0 = 43 → ¬ x0 = 45 → ¬ x0 = 60 → ¬ x0 = 61 → ¬ x0 = 62 → ((¬ x1 = 0 → Q (1 : Int32) T) ∧ (x1 = 0 → ((x2 = 0 → Q (0 : Int32) T) ∧ (¬ x2 = 0 → Q (1 : Int32) T)))))) : ax_j X 0 [some (.int x0), some (.int x1), some (.int x2)] [] (th L sz T) 0 0 := by
  refine ax_iload_n hX dX11_two_0 rfl ?_
  by_cases q0 : x0 = 38
  · replace hyp := hyp.1 q0
    refine ax_lookup hX dX11_two_1 (by decide) (off := 100) (by rw [q0]; decide) (tgt := 101) (by decide) ?_
    refine ax_iload_n hX dX11_two_101 rfl ?_
    refine ax_if_eq hX dX11_two_102 (tgt := 113) (by decide) (fun c => ?_) (fun c => ?_)
    · replace hyp := hyp.1 c
      refine ax_iconst hX dX11_two_113 (v := 0) (by decide) ?_
      exact hR.1 _ _ _ _ _ _ (by decide) (by decide) dX11_two_114 ⟨_, rfl, rfl⟩ ⟨_, _, rfl, rfl, hyp⟩
    · replace hyp := hyp.2 c
      refine ax_iload_n hX dX11_two_105 rfl ?_
      refine ax_if_eq hX dX11_two_106 (tgt := 113) (by decide) (fun c => ?_) (fun c => ?_)
      · replace hyp := hyp.1 c
        refine ax_iconst hX dX11_two_113 (v := 0) (by decide) ?_
        exact hR.1 _ _ _ _ _ _ (by decide) (by decide) dX11_two_114 ⟨_, rfl, rfl⟩ ⟨_, _, rfl, rfl, hyp⟩
      · replace hyp := hyp.2 c
        refine ax_iconst hX dX11_two_109 (v := 1) (by decide) ?_
        refine ax_goto hX dX11_two_110 (tgt := 114) (by decide) ?_
        exact hR.1 _ _ _ _ _ _ (by decide) (by decide) dX11_two_114 ⟨_, rfl, rfl⟩ ⟨_, _, rfl, rfl, hyp⟩
  by_cases q1 : x0 = 43
  · replace hyp := hyp.2.1 q1
    refine ax_lookup hX dX11_two_1 (by decide) (off := 59) (by rw [q1]; decide) (tgt := 60) (by decide) ?_
    refine ax_iload_n hX dX11_two_60 rfl ?_
    refine ax_iload_n hX dX11_two_61 rfl ?_
    refine ax_iadd hX dX11_two_62 ?_
    exact hR.1 _ _ _ _ _ _ (by decide) (by decide) dX11_two_63 ⟨_, rfl, rfl⟩ ⟨_, _, rfl, rfl, hyp⟩
  by_cases q2 : x0 = 45
  · replace hyp := hyp.2.2.1 q2
    refine ax_lookup hX dX11_two_1 (by decide) (off := 63) (by rw [q2]; decide) (tgt := 64) (by decide) ?_
    refine ax_iload_n hX dX11_two_64 rfl ?_
    refine ax_iload_n hX dX11_two_65 rfl ?_
    refine ax_isub hX dX11_two_66 ?_
    exact hR.1 _ _ _ _ _ _ (by decide) (by decide) dX11_two_67 ⟨_, rfl, rfl⟩ ⟨_, _, rfl, rfl, hyp⟩
  by_cases q3 : x0 = 60
  · replace hyp := hyp.2.2.2.1 q3
    refine ax_lookup hX dX11_two_1 (by decide) (off := 67) (by rw [q3]; decide) (tgt := 68) (by decide) ?_
    refine ax_iload_n hX dX11_two_68 rfl ?_
    refine ax_iload_n hX dX11_two_69 rfl ?_
    refine ax_icmp_ge hX dX11_two_70 (tgt := 77) (by decide) (fun c => ?_) (fun c => ?_)
    · replace hyp := hyp.1 c
      refine ax_iconst hX dX11_two_77 (v := 0) (by decide) ?_
      exact hR.1 _ _ _ _ _ _ (by decide) (by decide) dX11_two_78 ⟨_, rfl, rfl⟩ ⟨_, _, rfl, rfl, hyp⟩
    · replace hyp := hyp.2 c
      refine ax_iconst hX dX11_two_73 (v := 1) (by decide) ?_
      refine ax_goto hX dX11_two_74 (tgt := 78) (by decide) ?_
      exact hR.1 _ _ _ _ _ _ (by decide) (by decide) dX11_two_78 ⟨_, rfl, rfl⟩ ⟨_, _, rfl, rfl, hyp⟩
  by_cases q4 : x0 = 61
  · replace hyp := hyp.2.2.2.2.1 q4
    refine ax_lookup hX dX11_two_1 (by decide) (off := 89) (by rw [q4]; decide) (tgt := 90) (by decide) ?_
    refine ax_iload_n hX dX11_two_90 rfl ?_
    refine ax_iload_n hX dX11_two_91 rfl ?_
    refine ax_icmp_ne hX dX11_two_92 (tgt := 99) (by decide) (fun c => ?_) (fun c => ?_)
    · replace hyp := hyp.1 c
      refine ax_iconst hX dX11_two_99 (v := 0) (by decide) ?_
      exact hR.1 _ _ _ _ _ _ (by decide) (by decide) dX11_two_100 ⟨_, rfl, rfl⟩ ⟨_, _, rfl, rfl, hyp⟩
    · replace hyp := hyp.2 c
      refine ax_iconst hX dX11_two_95 (v := 1) (by decide) ?_
      refine ax_goto hX dX11_two_96 (tgt := 100) (by decide) ?_
      exact hR.1 _ _ _ _ _ _ (by decide) (by decide) dX11_two_100 ⟨_, rfl, rfl⟩ ⟨_, _, rfl, rfl, hyp⟩
  by_cases q5 : x0 = 62
  · replace hyp := hyp.2.2.2.2.2.1 q5
    refine ax_lookup hX dX11_two_1 (by decide) (off := 78) (by rw [q5]; decide) (tgt := 79) (by decide) ?_
    refine ax_iload_n hX dX11_two_79 rfl ?_
    refine ax_iload_n hX dX11_two_80 rfl ?_
    refine ax_icmp_le hX dX11_two_81 (tgt := 88) (by decide) (fun c => ?_) (fun c => ?_)
    · replace hyp := hyp.1 c
      refine ax_iconst hX dX11_two_88 (v := 0) (by decide) ?_
      exact hR.1 _ _ _ _ _ _ (by decide) (by decide) dX11_two_89 ⟨_, rfl, rfl⟩ ⟨_, _, rfl, rfl, hyp⟩
    · replace hyp := hyp.2 c
      refine ax_iconst hX dX11_two_84 (v := 1) (by decide) ?_
      refine ax_goto hX dX11_two_85 (tgt := 89) (by decide) ?_
      exact hR.1 _ _ _ _ _ _ (by decide) (by decide) dX11_two_89 ⟨_, rfl, rfl⟩ ⟨_, _, rfl, rfl, hyp⟩
  replace hyp := hyp.2.2.2.2.2.2 q0 q1 q2 q3 q4 q5
  refine ax_lookup hX dX11_two_1 (by decide) (off := 114) ((Eq.trans (lv_osw (a := 38) (o := 100) (d := 114) (k := 38) q0 rfl) (Eq.trans (lv_osw (a := 43) (o := 59) (d := 114) (k := 43) q1 rfl) (Eq.trans (lv_osw (a := 45) (o := 63) (d := 114) (k := 45) q2 rfl) (Eq.trans (lv_osw (a := 60) (o := 67) (d := 114) (k := 60) q3 rfl) (Eq.trans (lv_osw (a := 61) (o := 89) (d := 114) (k := 61) q4 rfl) (Eq.trans (lv_osw (a := 62) (o := 78) (d := 114) (k := 62) q5 rfl) rfl))))))) (tgt := 115) (by decide) ?_
  refine ax_iload_n hX dX11_two_115 rfl ?_
  refine ax_if_ne hX dX11_two_116 (tgt := 123) (by decide) (fun c => ?_) (fun c => ?_)
  · replace hyp := hyp.1 c
    refine ax_iconst hX dX11_two_123 (v := 1) (by decide) ?_
    refine ax_goto hX dX11_two_124 (tgt := 128) (by decide) ?_
    exact hR.1 _ _ _ _ _ _ (by decide) (by decide) dX11_two_128 ⟨_, rfl, rfl⟩ ⟨_, _, rfl, rfl, hyp⟩
  · replace hyp := hyp.2 c
    refine ax_iload_n hX dX11_two_119 rfl ?_
    refine ax_if_eq hX dX11_two_120 (tgt := 127) (by decide) (fun c => ?_) (fun c => ?_)
    · replace hyp := hyp.1 c
      refine ax_iconst hX dX11_two_127 (v := 0) (by decide) ?_
      exact hR.1 _ _ _ _ _ _ (by decide) (by decide) dX11_two_128 ⟨_, rfl, rfl⟩ ⟨_, _, rfl, rfl, hyp⟩
    · replace hyp := hyp.2 c
      refine ax_iconst hX dX11_two_123 (v := 1) (by decide) ?_
      refine ax_goto hX dX11_two_124 (tgt := 128) (by decide) ?_
      exact hR.1 _ _ _ _ _ _ (by decide) (by decide) dX11_two_128 ⟨_, rfl, rfl⟩ ⟨_, _, rfl, rfl, hyp⟩
set_option maxRecDepth 10000 in
theorem s_X11_untell_0 {X : ax_X} {d L sz : Nat} {T : tT} {Q : Int32 → tT → Prop} (hX : ax_ok X mX11_untell d) (hR : ax_Ret X mX11_untell (ti L sz Q)) (hsz : 161 ≤ sz) (x0 : Int32) (hyp : ((x0 < 0 → Q (0 : Int32) T) ∧ (¬ x0 < 0 → (((T.1 105 70) ≤ x0 → Q (0 : Int32) T) ∧ (¬ (T.1 105 70) ≤ x0 → vp_in x0 200 ∧ (((T.1 156 (x0.toNatClampNeg)) < 0 → vp_in x0 200 ∧ Q (1 : Int32) (tI T 156 (x0.toNatClampNeg) (T.1 105 71))) ∧ (¬ (T.1 156 (x0.toNatClampNeg)) < 0 → Q (0 : Int32) T))))))) : ax_j X 0 [some (.ref 105), some (.int x0)] [] (th L sz T) 0 0 := by
  refine ax_iload_n hX dX11_untell_0 rfl ?_
  refine ax_if_lt hX dX11_untell_1 (tgt := 21) (by decide) (fun c => ?_) (fun c => ?_)
  · replace hyp := hyp.1 c
    refine ax_iconst hX dX11_untell_21 (v := 0) (by decide) ?_
    exact hR.1 _ _ _ _ _ _ (by decide) (by decide) dX11_untell_22 ⟨_, rfl, rfl⟩ ⟨_, _, rfl, rfl, hyp⟩
  · replace hyp := hyp.2 c
    refine ax_iload_n hX dX11_untell_4 rfl ?_
    refine ax_aload_n hX dX11_untell_5 (Or.inr ⟨_, rfl⟩) rfl ?_
    refine tx_getI hX fRX11_409 ly_105 fk_11_70 (by decide) (Nat.lt_of_lt_of_le (by decide) hsz) dX11_untell_6 ?_
    refine ax_icmp_ge hX dX11_untell_9 (tgt := 21) (by decide) (fun c => ?_) (fun c => ?_)
    · replace hyp := hyp.1 c
      refine ax_iconst hX dX11_untell_21 (v := 0) (by decide) ?_
      exact hR.1 _ _ _ _ _ _ (by decide) (by decide) dX11_untell_22 ⟨_, rfl, rfl⟩ ⟨_, _, rfl, rfl, hyp⟩
    · replace hyp := hyp.2 c
      refine ax_aload_n hX dX11_untell_12 (Or.inr ⟨_, rfl⟩) rfl ?_
      refine tx_getF hX fRX11_257 ly_105 (o := 51) (b := 156) fk_11_69 rfl (by decide) (Nat.lt_of_lt_of_le (by decide) hsz) dX11_untell_13 ?_
      refine ax_iload_n hX dX11_untell_16 rfl ?_
      refine tx_ial hX ly_156 (by decide) (Nat.lt_of_lt_of_le (by decide) hsz) hyp.1 dX11_untell_17 ?_
      replace hyp := hyp.2
      refine ax_if_lt hX dX11_untell_18 (tgt := 23) (by decide) (fun c => ?_) (fun c => ?_)
      · replace hyp := hyp.1 c
        refine ax_aload_n hX dX11_untell_23 (Or.inr ⟨_, rfl⟩) rfl ?_
        refine tx_getF hX fRX11_257 ly_105 (o := 51) (b := 156) fk_11_69 rfl (by decide) (Nat.lt_of_lt_of_le (by decide) hsz) dX11_untell_24 ?_
        refine ax_iload_n hX dX11_untell_27 rfl ?_
        refine ax_aload_n hX dX11_untell_28 (Or.inr ⟨_, rfl⟩) rfl ?_
        refine tx_getI hX fRX11_438 ly_105 fk_11_71 (by decide) (Nat.lt_of_lt_of_le (by decide) hsz) dX11_untell_29 ?_
        refine tx_ias hX ly_156 (by decide) (Nat.lt_of_lt_of_le (by decide) hsz) hyp.1 dX11_untell_32 ?_
        replace hyp := hyp.2
        refine ax_iconst hX dX11_untell_33 (v := 1) (by decide) ?_
        exact hR.1 _ _ _ _ _ _ (by decide) (by decide) dX11_untell_34 ⟨_, rfl, rfl⟩ ⟨_, _, rfl, rfl, hyp⟩
      · replace hyp := hyp.2 c
        refine ax_iconst hX dX11_untell_21 (v := 0) (by decide) ?_
        exact hR.1 _ _ _ _ _ _ (by decide) (by decide) dX11_untell_22 ⟨_, rfl, rfl⟩ ⟨_, _, rfl, rfl, hyp⟩
set_option maxRecDepth 10000 in
theorem s_X11_value_0 {X : ax_X} {d L sz : Nat} {T : tT} {Q : Int32 → tT → Prop} (hX : ax_ok X mX11_value (d + 1)) (hR : ax_Ret X mX11_value (ti L sz Q)) (hsz : 161 ≤ sz) (x0 : Int32) (x1 : Int32) (x2 : Int32) (hyp : ∃ Q1, tiK d mX11_is [.ref 105, .int (40 : Int32)] L sz T Q1 ∧ ∀ (r1 : Int32) (T1 : tT), Q1 r1 T1 → (((¬ r1 = 0 → ax_j X 23 [some (.ref 105), none, none, none, none] [] (th L sz T1) 0 0) ∧ (r1 = 0 → ((¬ x0 = 0 → ax_j X 73 [some (.ref 105), none, some (.int x1), some (.int x2), none] [] (th L sz T1) 0 0) ∧ (x0 = 0 → ∃ Q1, tiK d mX11_isWord [.ref 105, .long (7237492 : Int64)] L sz T1 Q1 ∧ ∀ (r2 : Int32) (T2 : tT), Q1 r2 T2 → (((r2 = 0 → ax_j X 73 [some (.ref 105), none, some (.int x1), some (.int x2), none] [] (th L sz T2) 0 0) ∧ (¬ r2 = 0 → ax_j X 23 [some (.ref 105), none, none, none, none] [] (th L sz T2) 0 0))))))))) : ax_j X 0 [some (.ref 105), some (.int x0), some (.int x1), some (.int x2), none] [] (th L sz T) 0 0 := by
  refine ax_aload_n hX dX11_value_0 (Or.inr ⟨_, rfl⟩) rfl ?_
  refine ax_bipush hX dX11_value_1 (v := 40) (by decide) ?_
  obtain ⟨Q1, hK, hyp⟩ := hyp
  refine ax_callV hX lRX11_85 im_X11_is sl_X11_is cw_X11_is ((th_at (by decide) (Nat.lt_of_lt_of_le (by decide) hsz)).trans (tc_ob ly_105)) rfl rfl (A := [.int (40 : Int32)]) (st := []) rfl rfl (Nat.le_of_ble_eq_true rfl) (by decide) (by decide) dX11_value_3 hK ?_
  rintro _ _ ⟨r1, T1, rfl, rfl, hq⟩
  replace hyp := hyp r1 T1 hq
  refine ax_if_ne hX dX11_value_6 (tgt := 23) (by decide) (fun c => ?_) (fun c => ?_)
  · replace hyp := hyp.1 c
    exact ax_forget (L' := [some (.ref 105), none, none, none, none]) (⟨rfl, trivial⟩) hyp
  · replace hyp := hyp.2 c
    refine ax_iload_n hX dX11_value_9 rfl ?_
    refine ax_if_ne hX dX11_value_10 (tgt := 73) (by decide) (fun c => ?_) (fun c => ?_)
    · replace hyp := hyp.1 c
      exact ax_forget (L' := [some (.ref 105), none, some (.int x1), some (.int x2), none]) (⟨rfl, ⟨rfl, ⟨rfl, trivial⟩⟩⟩) hyp
    · replace hyp := hyp.2 c
      refine ax_aload_n hX dX11_value_13 (Or.inr ⟨_, rfl⟩) rfl ?_
      refine ax_ldc2 hX vRX11_49 dX11_value_14 ?_
      obtain ⟨Q1, hK, hyp⟩ := hyp
      refine ax_callV hX lRX11_284 im_X11_isWord sl_X11_isWord cw_X11_isWord ((th_at (by decide) (Nat.lt_of_lt_of_le (by decide) hsz)).trans (tc_ob ly_105)) rfl rfl (A := [.long (7237492 : Int64)]) (st := []) rfl rfl (Nat.le_of_ble_eq_true rfl) (by decide) (by decide) dX11_value_17 hK ?_
      rintro _ _ ⟨r2, T2, rfl, rfl, hq⟩
      replace hyp := hyp r2 T2 hq
      refine ax_if_eq hX dX11_value_20 (tgt := 73) (by decide) (fun c => ?_) (fun c => ?_)
      · replace hyp := hyp.1 c
        exact ax_forget (L' := [some (.ref 105), none, some (.int x1), some (.int x2), none]) (⟨rfl, ⟨rfl, ⟨rfl, trivial⟩⟩⟩) hyp
      · replace hyp := hyp.2 c
        exact ax_forget (L' := [some (.ref 105), none, none, none, none]) (⟨rfl, trivial⟩) hyp
set_option maxRecDepth 10000 in
theorem s_X11_value_23 {X : ax_X} {d L sz : Nat} {T : tT} {Q : Int32 → tT → Prop} (hX : ax_ok X mX11_value (d + 1)) (hR : ax_Ret X mX11_value (ti L sz Q)) (hsz : 161 ≤ sz)  (hyp : ∃ Q1, tiK d mX11_is [.ref 105, .int (40 : Int32)] L sz T Q1 ∧ ∀ (r1 : Int32) (T1 : tT), Q1 r1 T1 → (((r1 = 0 → ax_j X 39 [some (.ref 105), none, none, none, none] [.int (3 : Int32), .ref 105] (th L sz T1) 0 0) ∧ (¬ r1 = 0 → ax_j X 39 [some (.ref 105), none, none, none, none] [.int (6 : Int32), .ref 105] (th L sz T1) 0 0)))) : ax_j X 23 [some (.ref 105), none, none, none, none] [] (th L sz T) 0 0 := by
  refine ax_aload_n hX dX11_value_23 (Or.inr ⟨_, rfl⟩) rfl ?_
  refine ax_aload_n hX dX11_value_24 (Or.inr ⟨_, rfl⟩) rfl ?_
  refine ax_bipush hX dX11_value_25 (v := 40) (by decide) ?_
  obtain ⟨Q1, hK, hyp⟩ := hyp
  refine ax_callV hX lRX11_85 im_X11_is sl_X11_is cw_X11_is ((th_at (by decide) (Nat.lt_of_lt_of_le (by decide) hsz)).trans (tc_ob ly_105)) rfl rfl (A := [.int (40 : Int32)]) (st := [.ref 105]) rfl rfl (Nat.le_of_ble_eq_true rfl) (by decide) (by decide) dX11_value_27 hK ?_
  rintro _ _ ⟨r1, T1, rfl, rfl, hq⟩
  replace hyp := hyp r1 T1 hq
  refine ax_if_eq hX dX11_value_30 (tgt := 38) (by decide) (fun c => ?_) (fun c => ?_)
  · replace hyp := hyp.1 c
    refine ax_iconst hX dX11_value_38 (v := 3) (by decide) ?_
    exact ax_forget (L' := [some (.ref 105), none, none, none, none]) (⟨rfl, trivial⟩) hyp
  · replace hyp := hyp.2 c
    refine ax_bipush hX dX11_value_33 (v := 6) (by decide) ?_
    refine ax_goto hX dX11_value_35 (tgt := 39) (by decide) ?_
    exact ax_forget (L' := [some (.ref 105), none, none, none, none]) (⟨rfl, trivial⟩) hyp
set_option maxRecDepth 10000 in
theorem s_X11_value_73 {X : ax_X} {d L sz : Nat} {T : tT} {Q : Int32 → tT → Prop} (hX : ax_ok X mX11_value (d + 1)) (hR : ax_Ret X mX11_value (ti L sz Q)) (hsz : 161 ≤ sz) (v2 : Int32) (v3 : Int32) (hyp : (((T.1 105 8) = (2 : Int32) → ax_j X 99 [some (.ref 105), none, some (.int v2), some (.int v3), none] [] (th L sz T) 0 0) ∧ (¬ (T.1 105 8) = (2 : Int32) → ((¬ (T.1 105 8) = (3 : Int32) → ax_j X 103 [some (.ref 105), none, some (.int v2), some (.int v3), none] [] (th L sz T) 0 0) ∧ ((T.1 105 8) = (3 : Int32) → ∃ Q1, tiK d mX11_isMeant [.long (T.2.1 105 10)] L sz T Q1 ∧ ∀ (r1 : Int32) (T1 : tT), Q1 r1 T1 → (((r1 = 0 → ax_j X 103 [some (.ref 105), none, some (.int v2), some (.int v3), none] [] (th L sz T1) 0 0) ∧ (¬ r1 = 0 → ax_j X 99 [some (.ref 105), none, some (.int v2), some (.int v3), none] [] (th L sz T1) 0 0)))))))) : ax_j X 73 [some (.ref 105), none, some (.int v2), some (.int v3), none] [] (th L sz T) 0 0 := by
  refine ax_aload_n hX dX11_value_73 (Or.inr ⟨_, rfl⟩) rfl ?_
  refine tx_getI hX fRX11_61 ly_105 fk_11_8 (by decide) (Nat.lt_of_lt_of_le (by decide) hsz) dX11_value_74 ?_
  refine ax_iconst hX dX11_value_77 (v := 2) (by decide) ?_
  refine ax_icmp_eq hX dX11_value_78 (tgt := 99) (by decide) (fun c => ?_) (fun c => ?_)
  · replace hyp := hyp.1 c
    exact ax_forget (L' := [some (.ref 105), none, some (.int v2), some (.int v3), none]) (⟨rfl, ⟨rfl, ⟨rfl, trivial⟩⟩⟩) hyp
  · replace hyp := hyp.2 c
    refine ax_aload_n hX dX11_value_81 (Or.inr ⟨_, rfl⟩) rfl ?_
    refine tx_getI hX fRX11_61 ly_105 fk_11_8 (by decide) (Nat.lt_of_lt_of_le (by decide) hsz) dX11_value_82 ?_
    refine ax_iconst hX dX11_value_85 (v := 3) (by decide) ?_
    refine ax_icmp_ne hX dX11_value_86 (tgt := 103) (by decide) (fun c => ?_) (fun c => ?_)
    · replace hyp := hyp.1 c
      exact ax_forget (L' := [some (.ref 105), none, some (.int v2), some (.int v3), none]) (⟨rfl, ⟨rfl, ⟨rfl, trivial⟩⟩⟩) hyp
    · replace hyp := hyp.2 c
      refine ax_aload_n hX dX11_value_89 (Or.inr ⟨_, rfl⟩) rfl ?_
      refine tx_getJ hX fRX11_71 ly_105 fk_11_10 (by decide) (Nat.lt_of_lt_of_le (by decide) hsz) dX11_value_90 ?_
      obtain ⟨Q1, hK, hyp⟩ := hyp
      refine ax_callS hX lRX11_27 sm_X11_isMeant cw_X11_isMeant (A := [.long (T.2.1 105 10)]) (st := []) rfl rfl (Nat.le_of_ble_eq_true rfl) (by decide) (by decide) dX11_value_93 hK ?_
      rintro _ _ ⟨r1, T1, rfl, rfl, hq⟩
      replace hyp := hyp r1 T1 hq
      refine ax_if_eq hX dX11_value_96 (tgt := 103) (by decide) (fun c => ?_) (fun c => ?_)
      · replace hyp := hyp.1 c
        exact ax_forget (L' := [some (.ref 105), none, some (.int v2), some (.int v3), none]) (⟨rfl, ⟨rfl, ⟨rfl, trivial⟩⟩⟩) hyp
      · replace hyp := hyp.2 c
        exact ax_forget (L' := [some (.ref 105), none, some (.int v2), some (.int v3), none]) (⟨rfl, ⟨rfl, ⟨rfl, trivial⟩⟩⟩) hyp
set_option maxRecDepth 10000 in
theorem s_X11_value_39 {X : ax_X} {d L sz : Nat} {T : tT} {Q : Int32 → tT → Prop} (hX : ax_ok X mX11_value (d + 1)) (hR : ax_Ret X mX11_value (ti L sz Q)) (hsz : 161 ≤ sz) (w0 : Int32) (hyp : ∃ Q1, tvK d mX11_pile [.ref 105, .int w0, .int (126 : Int32)] L sz T Q1 ∧ ∀ (T1 : tT), Q1 T1 → (∃ Q1, tvK d mX11_next [.ref 105] L sz T1 Q1 ∧ ∀ (T2 : tT), Q1 T2 → (((((T2.1 105 38) + (1 : Int32)) < (8 : Int32) → Q (0 : Int32) (tI T2 105 38 ((T2.1 105 38) + (1 : Int32)))) ∧ (¬ ((T2.1 105 38) + (1 : Int32)) < (8 : Int32) → ∃ Q1, tvK d mX11_wrong [.ref 105] L sz (tI T2 105 38 ((T2.1 105 38) + (1 : Int32))) Q1 ∧ ∀ (T3 : tT), Q1 T3 → (Q (0 : Int32) T3)))))) : ax_j X 39 [some (.ref 105), none, none, none, none] [.int w0, .ref 105] (th L sz T) 0 0 := by
  refine ax_bipush hX dX11_value_39 (v := 126) (by decide) ?_
  obtain ⟨Q1, hK, hyp⟩ := hyp
  refine ax_callV hX lRX11_328 im_X11_pile sl_X11_pile cw_X11_pile ((th_at (by decide) (Nat.lt_of_lt_of_le (by decide) hsz)).trans (tc_ob ly_105)) rfl rfl (A := [.int w0, .int (126 : Int32)]) (st := []) rfl rfl (Nat.le_of_ble_eq_true rfl) (by decide) (by decide) dX11_value_41 hK ?_
  rintro _ _ ⟨T1, rfl, rfl, hq⟩
  replace hyp := hyp T1 hq
  refine ax_aload_n hX dX11_value_44 (Or.inr ⟨_, rfl⟩) rfl ?_
  obtain ⟨Q1, hK, hyp⟩ := hyp
  refine ax_callV hX lRX11_88 im_X11_next sl_X11_next cw_X11_next ((th_at (by decide) (Nat.lt_of_lt_of_le (by decide) hsz)).trans (tc_ob ly_105)) rfl rfl (A := []) (st := []) rfl rfl (Nat.le_of_ble_eq_true rfl) (by decide) (by decide) dX11_value_45 hK ?_
  rintro _ _ ⟨T2, rfl, rfl, hq⟩
  replace hyp := hyp T2 hq
  refine ax_aload_n hX dX11_value_48 (Or.inr ⟨_, rfl⟩) rfl ?_
  refine ax_dup hX dX11_value_49 rfl ?_
  refine tx_getI hX fRX11_325 ly_105 fk_11_38 (by decide) (Nat.lt_of_lt_of_le (by decide) hsz) dX11_value_50 ?_
  refine ax_iconst hX dX11_value_53 (v := 1) (by decide) ?_
  refine ax_iadd hX dX11_value_54 ?_
  refine tx_putI hX fRX11_325 ly_105 fk_11_38 (by decide) (Nat.lt_of_lt_of_le (by decide) hsz) rfl rfl dX11_value_55 ?_
  refine ax_aload_n hX dX11_value_58 (Or.inr ⟨_, rfl⟩) rfl ?_
  refine tx_getI hX fRX11_325 ly_105 fk_11_38 (by decide) (Nat.lt_of_lt_of_le (by decide) hsz) dX11_value_59 ?_
  refine ax_bipush hX dX11_value_62 (v := 8) (by decide) ?_
  refine ax_icmp_lt hX dX11_value_64 (tgt := 71) (by decide) (fun c => ?_) (fun c => ?_)
  · replace hyp := hyp.1 c
    refine ax_iconst hX dX11_value_71 (v := 0) (by decide) ?_
    exact hR.1 _ _ _ _ _ _ (by decide) (by decide) dX11_value_72 ⟨_, rfl, rfl⟩ ⟨_, _, rfl, rfl, hyp⟩
  · replace hyp := hyp.2 c
    refine ax_aload_n hX dX11_value_67 (Or.inr ⟨_, rfl⟩) rfl ?_
    obtain ⟨Q1, hK, hyp⟩ := hyp
    refine ax_callV hX lRX11_92 im_X11_wrong sl_X11_wrong cw_X11_wrong ((th_at (by decide) (Nat.lt_of_lt_of_le (by decide) hsz)).trans (tc_ob ly_105)) rfl rfl (A := []) (st := []) rfl rfl (Nat.le_of_ble_eq_true rfl) (by decide) (by decide) dX11_value_68 hK ?_
    rintro _ _ ⟨T3, rfl, rfl, hq⟩
    replace hyp := hyp T3 hq
    refine ax_iconst hX dX11_value_71 (v := 0) (by decide) ?_
    exact hR.1 _ _ _ _ _ _ (by decide) (by decide) dX11_value_72 ⟨_, rfl, rfl⟩ ⟨_, _, rfl, rfl, hyp⟩
set_option maxRecDepth 10000 in
theorem s_X11_value_99 {X : ax_X} {d L sz : Nat} {T : tT} {Q : Int32 → tT → Prop} (hX : ax_ok X mX11_value (d + 1)) (hR : ax_Ret X mX11_value (ti L sz Q)) (hsz : 161 ≤ sz) (v2 : Int32) (v3 : Int32) (hyp : ax_j X 104 [some (.ref 105), none, some (.int v2), some (.int v3), none] [.int (1 : Int32)] (th L sz T) 0 0) : ax_j X 99 [some (.ref 105), none, some (.int v2), some (.int v3), none] [] (th L sz T) 0 0 := by
  refine ax_iconst hX dX11_value_99 (v := 1) (by decide) ?_
  refine ax_goto hX dX11_value_100 (tgt := 104) (by decide) ?_
  exact ax_forget (L' := [some (.ref 105), none, some (.int v2), some (.int v3), none]) (⟨rfl, ⟨rfl, ⟨rfl, trivial⟩⟩⟩) hyp
set_option maxRecDepth 10000 in
theorem s_X11_value_103 {X : ax_X} {d L sz : Nat} {T : tT} {Q : Int32 → tT → Prop} (hX : ax_ok X mX11_value (d + 1)) (hR : ax_Ret X mX11_value (ti L sz Q)) (hsz : 161 ≤ sz) (v2 : Int32) (v3 : Int32) (hyp : ax_j X 104 [some (.ref 105), none, some (.int v2), some (.int v3), none] [.int (0 : Int32)] (th L sz T) 0 0) : ax_j X 103 [some (.ref 105), none, some (.int v2), some (.int v3), none] [] (th L sz T) 0 0 := by
  refine ax_iconst hX dX11_value_103 (v := 0) (by decide) ?_
  exact ax_forget (L' := [some (.ref 105), none, some (.int v2), some (.int v3), none]) (⟨rfl, ⟨rfl, ⟨rfl, trivial⟩⟩⟩) hyp
set_option maxRecDepth 10000 in
theorem s_X11_value_104 {X : ax_X} {d L sz : Nat} {T : tT} {Q : Int32 → tT → Prop} (hX : ax_ok X mX11_value (d + 1)) (hR : ax_Ret X mX11_value (ti L sz Q)) (hsz : 161 ≤ sz) (v2 : Int32) (v3 : Int32) (w0 : Int32) (hyp : (((T.1 105 8) = (4 : Int32) → ax_j X 119 [some (.ref 105), none, some (.int v2), some (.int v3), some (.int w0)] [] (th L sz T) 0 0) ∧ (¬ (T.1 105 8) = (4 : Int32) → ((w0 = 0 → ax_j X 129 [some (.ref 105), none, some (.int v2), some (.int v3), some (.int w0)] [] (th L sz T) 0 0) ∧ (¬ w0 = 0 → ax_j X 119 [some (.ref 105), none, some (.int v2), some (.int v3), some (.int w0)] [] (th L sz T) 0 0))))) : ax_j X 104 [some (.ref 105), none, some (.int v2), some (.int v3), none] [.int w0] (th L sz T) 0 0 := by
  refine ax_istore hX dX11_value_104 (by decide) (L' := [some (.ref 105), none, some (.int v2), some (.int v3), some (.int w0)]) rfl ?_
  refine ax_aload_n hX dX11_value_106 (Or.inr ⟨_, rfl⟩) rfl ?_
  refine tx_getI hX fRX11_61 ly_105 fk_11_8 (by decide) (Nat.lt_of_lt_of_le (by decide) hsz) dX11_value_107 ?_
  refine ax_iconst hX dX11_value_110 (v := 4) (by decide) ?_
  refine ax_icmp_eq hX dX11_value_111 (tgt := 119) (by decide) (fun c => ?_) (fun c => ?_)
  · replace hyp := hyp.1 c
    exact ax_forget (L' := [some (.ref 105), none, some (.int v2), some (.int v3), some (.int w0)]) (⟨rfl, ⟨rfl, ⟨rfl, ⟨rfl, trivial⟩⟩⟩⟩) hyp
  · replace hyp := hyp.2 c
    refine ax_iload hX dX11_value_114 rfl ?_
    refine ax_if_eq hX dX11_value_116 (tgt := 129) (by decide) (fun c => ?_) (fun c => ?_)
    · replace hyp := hyp.1 c
      exact ax_forget (L' := [some (.ref 105), none, some (.int v2), some (.int v3), some (.int w0)]) (⟨rfl, ⟨rfl, ⟨rfl, ⟨rfl, trivial⟩⟩⟩⟩) hyp
    · replace hyp := hyp.2 c
      exact ax_forget (L' := [some (.ref 105), none, some (.int v2), some (.int v3), some (.int w0)]) (⟨rfl, ⟨rfl, ⟨rfl, ⟨rfl, trivial⟩⟩⟩⟩) hyp
set_option maxRecDepth 10000 in
theorem s_X11_value_119 {X : ax_X} {d L sz : Nat} {T : tT} {Q : Int32 → tT → Prop} (hX : ax_ok X mX11_value (d + 1)) (hR : ax_Ret X mX11_value (ti L sz Q)) (hsz : 161 ≤ sz) (v2 : Int32) (v3 : Int32) (v4 : Int32) (hyp : ((¬ (T.1 105 13) = (150 : Int32) → ax_j X 133 [some (.ref 105), none, some (.int v2), some (.int v3), some (.int v4)] [] (th L sz T) 0 0) ∧ ((T.1 105 13) = (150 : Int32) → ax_j X 129 [some (.ref 105), none, some (.int v2), some (.int v3), some (.int v4)] [] (th L sz T) 0 0))) : ax_j X 119 [some (.ref 105), none, some (.int v2), some (.int v3), some (.int v4)] [] (th L sz T) 0 0 := by
  refine ax_aload_n hX dX11_value_119 (Or.inr ⟨_, rfl⟩) rfl ?_
  refine tx_getI hX fRX11_275 ly_105 fk_11_13 (by decide) (Nat.lt_of_lt_of_le (by decide) hsz) dX11_value_120 ?_
  refine ax_sipush hX dX11_value_123 (v := 150) (by decide) ?_
  refine ax_icmp_ne hX dX11_value_126 (tgt := 133) (by decide) (fun c => ?_) (fun c => ?_)
  · replace hyp := hyp.1 c
    exact ax_forget (L' := [some (.ref 105), none, some (.int v2), some (.int v3), some (.int v4)]) (⟨rfl, ⟨rfl, ⟨rfl, ⟨rfl, trivial⟩⟩⟩⟩) hyp
  · replace hyp := hyp.2 c
    exact ax_forget (L' := [some (.ref 105), none, some (.int v2), some (.int v3), some (.int v4)]) (⟨rfl, ⟨rfl, ⟨rfl, ⟨rfl, trivial⟩⟩⟩⟩) hyp
set_option maxRecDepth 10000 in
theorem s_X11_value_129 {X : ax_X} {d L sz : Nat} {T : tT} {Q : Int32 → tT → Prop} (hX : ax_ok X mX11_value (d + 1)) (hR : ax_Ret X mX11_value (ti L sz Q)) (hsz : 161 ≤ sz) (v2 : Int32) (v3 : Int32) (v4 : Int32) (hyp : ∃ Q1, tvK d mX11_wrong [.ref 105] L sz T Q1 ∧ ∀ (T1 : tT), Q1 T1 → (ax_j X 133 [some (.ref 105), none, some (.int v2), some (.int v3), some (.int v4)] [] (th L sz T1) 0 0)) : ax_j X 129 [some (.ref 105), none, some (.int v2), some (.int v3), some (.int v4)] [] (th L sz T) 0 0 := by
  refine ax_aload_n hX dX11_value_129 (Or.inr ⟨_, rfl⟩) rfl ?_
  obtain ⟨Q1, hK, hyp⟩ := hyp
  refine ax_callV hX lRX11_92 im_X11_wrong sl_X11_wrong cw_X11_wrong ((th_at (by decide) (Nat.lt_of_lt_of_le (by decide) hsz)).trans (tc_ob ly_105)) rfl rfl (A := []) (st := []) rfl rfl (Nat.le_of_ble_eq_true rfl) (by decide) (by decide) dX11_value_130 hK ?_
  rintro _ _ ⟨T1, rfl, rfl, hq⟩
  replace hyp := hyp T1 hq
  exact ax_forget (L' := [some (.ref 105), none, some (.int v2), some (.int v3), some (.int v4)]) (⟨rfl, ⟨rfl, ⟨rfl, ⟨rfl, trivial⟩⟩⟩⟩) hyp
set_option maxRecDepth 10000 in
theorem s_X11_value_133 {X : ax_X} {d L sz : Nat} {T : tT} {Q : Int32 → tT → Prop} (hX : ax_ok X mX11_value (d + 1)) (hR : ax_Ret X mX11_value (ti L sz Q)) (hsz : 161 ≤ sz) (v2 : Int32) (v3 : Int32) (v4 : Int32) (hyp : ∃ Q1, tiK d mX11_isGood [.ref 105] L sz T Q1 ∧ ∀ (r1 : Int32) (T1 : tT), Q1 r1 T1 → (((¬ r1 = 0 → ((v4 = 0 → ∃ Q1, tvK d mX11_step [.ref 105, .int (110 : Int32), .int (T1.1 105 9)] L sz (tI T1 105 13 ((T1.1 105 13) + (1 : Int32))) Q1 ∧ ∀ (T2 : tT), Q1 T2 → (∃ Q1, tiK d mX11_isGood [.ref 105] L sz T2 Q1 ∧ ∀ (r3 : Int32) (T3 : tT), Q1 r3 T3 → (((r3 = 0 → Q (2 : Int32) T3) ∧ (¬ r3 = 0 → ∃ Q1, tvK d mX11_next [.ref 105] L sz T3 Q1 ∧ ∀ (T4 : tT), Q1 T4 → (Q (2 : Int32) T4)))))) ∧ (¬ v4 = 0 → ∃ Q1, tvK d mX11_meant [.ref 105, .int v2, .int v3] L sz (tI T1 105 13 ((T1.1 105 13) + (1 : Int32))) Q1 ∧ ∀ (T5 : tT), Q1 T5 → (∃ Q1, tiK d mX11_isGood [.ref 105] L sz T5 Q1 ∧ ∀ (r6 : Int32) (T6 : tT), Q1 r6 T6 → (((r6 = 0 → Q (2 : Int32) T6) ∧ (¬ r6 = 0 → ∃ Q1, tvK d mX11_next [.ref 105] L sz T6 Q1 ∧ ∀ (T7 : tT), Q1 T7 → (Q (2 : Int32) T7)))))))) ∧ (r1 = 0 → Q (0 : Int32) T1)))) : ax_j X 133 [some (.ref 105), none, some (.int v2), some (.int v3), some (.int v4)] [] (th L sz T) 0 0 := by
  refine ax_aload_n hX dX11_value_133 (Or.inr ⟨_, rfl⟩) rfl ?_
  obtain ⟨Q1, hK, hyp⟩ := hyp
  refine ax_callV hX lRX11_95 im_X11_isGood sl_X11_isGood cw_X11_isGood ((th_at (by decide) (Nat.lt_of_lt_of_le (by decide) hsz)).trans (tc_ob ly_105)) rfl rfl (A := []) (st := []) rfl rfl (Nat.le_of_ble_eq_true rfl) (by decide) (by decide) dX11_value_134 hK ?_
  rintro _ _ ⟨r1, T1, rfl, rfl, hq⟩
  replace hyp := hyp r1 T1 hq
  refine ax_if_ne hX dX11_value_137 (tgt := 142) (by decide) (fun c => ?_) (fun c => ?_)
  · replace hyp := hyp.1 c
    refine ax_aload_n hX dX11_value_142 (Or.inr ⟨_, rfl⟩) rfl ?_
    refine ax_dup hX dX11_value_143 rfl ?_
    refine tx_getI hX fRX11_275 ly_105 fk_11_13 (by decide) (Nat.lt_of_lt_of_le (by decide) hsz) dX11_value_144 ?_
    refine ax_iconst hX dX11_value_147 (v := 1) (by decide) ?_
    refine ax_iadd hX dX11_value_148 ?_
    refine tx_putI hX fRX11_275 ly_105 fk_11_13 (by decide) (Nat.lt_of_lt_of_le (by decide) hsz) rfl rfl dX11_value_149 ?_
    refine ax_iload hX dX11_value_152 rfl ?_
    refine ax_if_eq hX dX11_value_154 (tgt := 166) (by decide) (fun c => ?_) (fun c => ?_)
    · replace hyp := hyp.1 c
      refine ax_aload_n hX dX11_value_166 (Or.inr ⟨_, rfl⟩) rfl ?_
      refine ax_bipush hX dX11_value_167 (v := 110) (by decide) ?_
      refine ax_aload_n hX dX11_value_169 (Or.inr ⟨_, rfl⟩) rfl ?_
      refine tx_getI hX fRX11_78 ly_105 fk_11_9 (by decide) (Nat.lt_of_lt_of_le (by decide) hsz) dX11_value_170 ?_
      obtain ⟨Q1, hK, hyp⟩ := hyp
      refine ax_callV hX lRX11_342 im_X11_step sl_X11_step cw_X11_step ((th_at (by decide) (Nat.lt_of_lt_of_le (by decide) hsz)).trans (tc_ob ly_105)) rfl rfl (A := [.int (110 : Int32), .int (T1.1 105 9)]) (st := []) rfl rfl (Nat.le_of_ble_eq_true rfl) (by decide) (by decide) dX11_value_173 hK ?_
      rintro _ _ ⟨T2, rfl, rfl, hq⟩
      replace hyp := hyp T2 hq
      refine ax_aload_n hX dX11_value_176 (Or.inr ⟨_, rfl⟩) rfl ?_
      obtain ⟨Q1, hK, hyp⟩ := hyp
      refine ax_callV hX lRX11_95 im_X11_isGood sl_X11_isGood cw_X11_isGood ((th_at (by decide) (Nat.lt_of_lt_of_le (by decide) hsz)).trans (tc_ob ly_105)) rfl rfl (A := []) (st := []) rfl rfl (Nat.le_of_ble_eq_true rfl) (by decide) (by decide) dX11_value_177 hK ?_
      rintro _ _ ⟨r3, T3, rfl, rfl, hq⟩
      replace hyp := hyp r3 T3 hq
      refine ax_if_eq hX dX11_value_180 (tgt := 187) (by decide) (fun c => ?_) (fun c => ?_)
      · replace hyp := hyp.1 c
        refine ax_iconst hX dX11_value_187 (v := 2) (by decide) ?_
        exact hR.1 _ _ _ _ _ _ (by decide) (by decide) dX11_value_188 ⟨_, rfl, rfl⟩ ⟨_, _, rfl, rfl, hyp⟩
      · replace hyp := hyp.2 c
        refine ax_aload_n hX dX11_value_183 (Or.inr ⟨_, rfl⟩) rfl ?_
        obtain ⟨Q1, hK, hyp⟩ := hyp
        refine ax_callV hX lRX11_88 im_X11_next sl_X11_next cw_X11_next ((th_at (by decide) (Nat.lt_of_lt_of_le (by decide) hsz)).trans (tc_ob ly_105)) rfl rfl (A := []) (st := []) rfl rfl (Nat.le_of_ble_eq_true rfl) (by decide) (by decide) dX11_value_184 hK ?_
        rintro _ _ ⟨T4, rfl, rfl, hq⟩
        replace hyp := hyp T4 hq
        refine ax_iconst hX dX11_value_187 (v := 2) (by decide) ?_
        exact hR.1 _ _ _ _ _ _ (by decide) (by decide) dX11_value_188 ⟨_, rfl, rfl⟩ ⟨_, _, rfl, rfl, hyp⟩
    · replace hyp := hyp.2 c
      refine ax_aload_n hX dX11_value_157 (Or.inr ⟨_, rfl⟩) rfl ?_
      refine ax_iload_n hX dX11_value_158 rfl ?_
      refine ax_iload_n hX dX11_value_159 rfl ?_
      obtain ⟨Q1, hK, hyp⟩ := hyp
      refine ax_callV hX lRX11_339 im_X11_meant sl_X11_meant cw_X11_meant ((th_at (by decide) (Nat.lt_of_lt_of_le (by decide) hsz)).trans (tc_ob ly_105)) rfl rfl (A := [.int v2, .int v3]) (st := []) rfl rfl (Nat.le_of_ble_eq_true rfl) (by decide) (by decide) dX11_value_160 hK ?_
      rintro _ _ ⟨T5, rfl, rfl, hq⟩
      replace hyp := hyp T5 hq
      refine ax_goto hX dX11_value_163 (tgt := 176) (by decide) ?_
      refine ax_aload_n hX dX11_value_176 (Or.inr ⟨_, rfl⟩) rfl ?_
      obtain ⟨Q1, hK, hyp⟩ := hyp
      refine ax_callV hX lRX11_95 im_X11_isGood sl_X11_isGood cw_X11_isGood ((th_at (by decide) (Nat.lt_of_lt_of_le (by decide) hsz)).trans (tc_ob ly_105)) rfl rfl (A := []) (st := []) rfl rfl (Nat.le_of_ble_eq_true rfl) (by decide) (by decide) dX11_value_177 hK ?_
      rintro _ _ ⟨r6, T6, rfl, rfl, hq⟩
      replace hyp := hyp r6 T6 hq
      refine ax_if_eq hX dX11_value_180 (tgt := 187) (by decide) (fun c => ?_) (fun c => ?_)
      · replace hyp := hyp.1 c
        refine ax_iconst hX dX11_value_187 (v := 2) (by decide) ?_
        exact hR.1 _ _ _ _ _ _ (by decide) (by decide) dX11_value_188 ⟨_, rfl, rfl⟩ ⟨_, _, rfl, rfl, hyp⟩
      · replace hyp := hyp.2 c
        refine ax_aload_n hX dX11_value_183 (Or.inr ⟨_, rfl⟩) rfl ?_
        obtain ⟨Q1, hK, hyp⟩ := hyp
        refine ax_callV hX lRX11_88 im_X11_next sl_X11_next cw_X11_next ((th_at (by decide) (Nat.lt_of_lt_of_le (by decide) hsz)).trans (tc_ob ly_105)) rfl rfl (A := []) (st := []) rfl rfl (Nat.le_of_ble_eq_true rfl) (by decide) (by decide) dX11_value_184 hK ?_
        rintro _ _ ⟨T7, rfl, rfl, hq⟩
        replace hyp := hyp T7 hq
        refine ax_iconst hX dX11_value_187 (v := 2) (by decide) ?_
        exact hR.1 _ _ _ _ _ _ (by decide) (by decide) dX11_value_188 ⟨_, rfl, rfl⟩ ⟨_, _, rfl, rfl, hyp⟩
  · replace hyp := hyp.2 c
    refine ax_iconst hX dX11_value_140 (v := 0) (by decide) ?_
    exact hR.1 _ _ _ _ _ _ (by decide) (by decide) dX11_value_141 ⟨_, rfl, rfl⟩ ⟨_, _, rfl, rfl, hyp⟩
set_option maxRecDepth 10000 in
theorem s_X11_way_0 {X : ax_X} {d L sz : Nat} {T : tT} {Q : Int32 → tT → Prop} (hX : ax_ok X mX11_way (d + 1)) (hR : ax_Ret X mX11_way (ti L sz Q)) (hsz : 161 ≤ sz) (x0 : Int32) (x1 : Int32) (x2 : Int32) (hyp : ∃ Q1, tiK d mX11_isCentre [.ref 105, .int x0] L sz T Q1 ∧ ∀ (r1 : Int32) (T1 : tT), Q1 r1 T1 → (((r1 = 0 → Q (0 : Int32) T1) ∧ (¬ r1 = 0 → ∃ Q1, tiK d mX11_isCentre [.ref 105, .int x1] L sz T1 Q1 ∧ ∀ (r2 : Int32) (T2 : tT), Q1 r2 T2 → (((r2 = 0 → Q (0 : Int32) T2) ∧ (¬ r2 = 0 → ((x0 = x1 → Q (0 : Int32) T2) ∧ (¬ x0 = x1 → ((x2 < 0 → Q (0 : Int32) T2) ∧ (¬ x2 < 0 → ((x2 ≤ (600 : Int32) → vp_in (((8 : Int32) * x0) + x1) 64 ∧ vp_in (((8 : Int32) * x1) + x0) 64 ∧ Q (1 : Int32) (tI (tI T2 142 ((((8 : Int32) * x0) + x1).toNatClampNeg) x2) 142 ((((8 : Int32) * x1) + x0).toNatClampNeg) x2)) ∧ (¬ x2 ≤ (600 : Int32) → Q (0 : Int32) T2))))))))))))) : ax_j X 0 [some (.ref 105), some (.int x0), some (.int x1), some (.int x2)] [] (th L sz T) 0 0 := by
  refine ax_aload_n hX dX11_way_0 (Or.inr ⟨_, rfl⟩) rfl ?_
  refine ax_iload_n hX dX11_way_1 rfl ?_
  obtain ⟨Q1, hK, hyp⟩ := hyp
  refine ax_callV hX lRX11_397 im_X11_isCentre sl_X11_isCentre cw_X11_isCentre ((th_at (by decide) (Nat.lt_of_lt_of_le (by decide) hsz)).trans (tc_ob ly_105)) rfl rfl (A := [.int x0]) (st := []) rfl rfl (Nat.le_of_ble_eq_true rfl) (by decide) (by decide) dX11_way_2 hK ?_
  rintro _ _ ⟨r1, T1, rfl, rfl, hq⟩
  replace hyp := hyp r1 T1 hq
  refine ax_if_eq hX dX11_way_5 (tgt := 32) (by decide) (fun c => ?_) (fun c => ?_)
  · replace hyp := hyp.1 c
    refine ax_iconst hX dX11_way_32 (v := 0) (by decide) ?_
    exact hR.1 _ _ _ _ _ _ (by decide) (by decide) dX11_way_33 ⟨_, rfl, rfl⟩ ⟨_, _, rfl, rfl, hyp⟩
  · replace hyp := hyp.2 c
    refine ax_aload_n hX dX11_way_8 (Or.inr ⟨_, rfl⟩) rfl ?_
    refine ax_iload_n hX dX11_way_9 rfl ?_
    obtain ⟨Q1, hK, hyp⟩ := hyp
    refine ax_callV hX lRX11_397 im_X11_isCentre sl_X11_isCentre cw_X11_isCentre ((th_at (by decide) (Nat.lt_of_lt_of_le (by decide) hsz)).trans (tc_ob ly_105)) rfl rfl (A := [.int x1]) (st := []) rfl rfl (Nat.le_of_ble_eq_true rfl) (by decide) (by decide) dX11_way_10 hK ?_
    rintro _ _ ⟨r2, T2, rfl, rfl, hq⟩
    replace hyp := hyp r2 T2 hq
    refine ax_if_eq hX dX11_way_13 (tgt := 32) (by decide) (fun c => ?_) (fun c => ?_)
    · replace hyp := hyp.1 c
      refine ax_iconst hX dX11_way_32 (v := 0) (by decide) ?_
      exact hR.1 _ _ _ _ _ _ (by decide) (by decide) dX11_way_33 ⟨_, rfl, rfl⟩ ⟨_, _, rfl, rfl, hyp⟩
    · replace hyp := hyp.2 c
      refine ax_iload_n hX dX11_way_16 rfl ?_
      refine ax_iload_n hX dX11_way_17 rfl ?_
      refine ax_icmp_eq hX dX11_way_18 (tgt := 32) (by decide) (fun c => ?_) (fun c => ?_)
      · replace hyp := hyp.1 c
        refine ax_iconst hX dX11_way_32 (v := 0) (by decide) ?_
        exact hR.1 _ _ _ _ _ _ (by decide) (by decide) dX11_way_33 ⟨_, rfl, rfl⟩ ⟨_, _, rfl, rfl, hyp⟩
      · replace hyp := hyp.2 c
        refine ax_iload_n hX dX11_way_21 rfl ?_
        refine ax_if_lt hX dX11_way_22 (tgt := 32) (by decide) (fun c => ?_) (fun c => ?_)
        · replace hyp := hyp.1 c
          refine ax_iconst hX dX11_way_32 (v := 0) (by decide) ?_
          exact hR.1 _ _ _ _ _ _ (by decide) (by decide) dX11_way_33 ⟨_, rfl, rfl⟩ ⟨_, _, rfl, rfl, hyp⟩
        · replace hyp := hyp.2 c
          refine ax_iload_n hX dX11_way_25 rfl ?_
          refine ax_sipush hX dX11_way_26 (v := 600) (by decide) ?_
          refine ax_icmp_le hX dX11_way_29 (tgt := 34) (by decide) (fun c => ?_) (fun c => ?_)
          · replace hyp := hyp.1 c
            refine ax_aload_n hX dX11_way_34 (Or.inr ⟨_, rfl⟩) rfl ?_
            refine tx_getF hX fRX11_215 ly_105 (o := 37) (b := 142) fk_11_51 rfl (by decide) (Nat.lt_of_lt_of_le (by decide) hsz) dX11_way_35 ?_
            refine ax_bipush hX dX11_way_38 (v := 8) (by decide) ?_
            refine ax_iload_n hX dX11_way_40 rfl ?_
            refine ax_imul hX dX11_way_41 ?_
            refine ax_iload_n hX dX11_way_42 rfl ?_
            refine ax_iadd hX dX11_way_43 ?_
            refine ax_iload_n hX dX11_way_44 rfl ?_
            refine tx_ias hX ly_142 (by decide) (Nat.lt_of_lt_of_le (by decide) hsz) hyp.1 dX11_way_45 ?_
            replace hyp := hyp.2
            refine ax_aload_n hX dX11_way_46 (Or.inr ⟨_, rfl⟩) rfl ?_
            refine tx_getF hX fRX11_215 ly_105 (o := 37) (b := 142) fk_11_51 rfl (by decide) (Nat.lt_of_lt_of_le (by decide) hsz) dX11_way_47 ?_
            refine ax_bipush hX dX11_way_50 (v := 8) (by decide) ?_
            refine ax_iload_n hX dX11_way_52 rfl ?_
            refine ax_imul hX dX11_way_53 ?_
            refine ax_iload_n hX dX11_way_54 rfl ?_
            refine ax_iadd hX dX11_way_55 ?_
            refine ax_iload_n hX dX11_way_56 rfl ?_
            refine tx_ias hX ly_142 (by decide) (Nat.lt_of_lt_of_le (by decide) hsz) hyp.1 dX11_way_57 ?_
            replace hyp := hyp.2
            refine ax_iconst hX dX11_way_58 (v := 1) (by decide) ?_
            exact hR.1 _ _ _ _ _ _ (by decide) (by decide) dX11_way_59 ⟨_, rfl, rfl⟩ ⟨_, _, rfl, rfl, hyp⟩
          · replace hyp := hyp.2 c
            refine ax_iconst hX dX11_way_32 (v := 0) (by decide) ?_
            exact hR.1 _ _ _ _ _ _ (by decide) (by decide) dX11_way_33 ⟨_, rfl, rfl⟩ ⟨_, _, rfl, rfl, hyp⟩
set_option maxRecDepth 10000 in
theorem s_X11_work_0 {X : ax_X} {d L sz : Nat} {T : tT} {Q : Int32 → tT → Prop} (hX : ax_ok X mX11_work (d + 1)) (hR : ax_Ret X mX11_work (ti L sz Q)) (hsz : 161 ≤ sz) (x0 : Int32) (x1 : Int32) (x2 : Int32) (x3 : Int32) (hyp : ax_j X 19 [some (.ref 105), none, some (.int x1), some (.int x2), some (.int x3), some (.int (0 : Int32)), some (.int ((1500 : Int32) * (x2 / (8 : Int32)))), some (.int (((1500 : Int32) * (x2 / (8 : Int32))) + x0)), none] [] (th L sz T) 0 0) : ax_j X 0 [some (.ref 105), some (.int x0), some (.int x1), some (.int x2), some (.int x3), none, none, none, none] [] (th L sz T) 0 0 := by
  refine ax_iconst hX dX11_work_0 (v := 0) (by decide) ?_
  refine ax_istore hX dX11_work_1 (by decide) (L' := [some (.ref 105), some (.int x0), some (.int x1), some (.int x2), some (.int x3), some (.int (0 : Int32)), none, none, none]) rfl ?_
  refine ax_sipush hX dX11_work_3 (v := 1500) (by decide) ?_
  refine ax_iload_n hX dX11_work_6 rfl ?_
  refine ax_bipush hX dX11_work_7 (v := 8) (by decide) ?_
  refine ax_idiv hX dX11_work_9 (by decide) ?_
  refine ax_imul hX dX11_work_10 ?_
  refine ax_istore hX dX11_work_11 (by decide) (L' := [some (.ref 105), some (.int x0), some (.int x1), some (.int x2), some (.int x3), some (.int (0 : Int32)), some (.int ((1500 : Int32) * (x2 / (8 : Int32)))), none, none]) rfl ?_
  refine ax_iload hX dX11_work_13 rfl ?_
  refine ax_iload_n hX dX11_work_15 rfl ?_
  refine ax_iadd hX dX11_work_16 ?_
  refine ax_istore hX dX11_work_17 (by decide) (L' := [some (.ref 105), some (.int x0), some (.int x1), some (.int x2), some (.int x3), some (.int (0 : Int32)), some (.int ((1500 : Int32) * (x2 / (8 : Int32)))), some (.int (((1500 : Int32) * (x2 / (8 : Int32))) + x0)), none]) rfl ?_
  exact ax_forget (L' := [some (.ref 105), none, some (.int x1), some (.int x2), some (.int x3), some (.int (0 : Int32)), some (.int ((1500 : Int32) * (x2 / (8 : Int32)))), some (.int (((1500 : Int32) * (x2 / (8 : Int32))) + x0)), none]) (⟨rfl, ⟨rfl, ⟨rfl, ⟨rfl, ⟨rfl, ⟨rfl, ⟨rfl, trivial⟩⟩⟩⟩⟩⟩⟩) hyp
set_option maxRecDepth 10000 in
theorem s_X11_work_19 {X : ax_X} {d L sz : Nat} {T : tT} {Q : Int32 → tT → Prop} (hX : ax_ok X mX11_work (d + 1)) (hR : ax_Ret X mX11_work (ti L sz Q)) (hsz : 161 ≤ sz) (v2 : Int32) (v3 : Int32) (v4 : Int32) (v5 : Int32) (v6 : Int32) (v7 : Int32) (hyp : (((v6 + v2) ≤ v7 → vp_in (0 : Int32) 200 ∧ Q (T.1 140 (0 : Int32).toNatClampNeg) T) ∧ (¬ (v6 + v2) ≤ v7 → vp_in v7 7500 ∧ ((¬ (T.1 123 (v7.toNatClampNeg)) = (126 : Int32) → (((T.1 123 (v7.toNatClampNeg)) < (97 : Int32) → vp_in ((v5 + (-1 : Int32)) - (1 : Int32)) 200 ∧ vp_in (v5 + (-1 : Int32)) 200 ∧ ∃ Q1, tiK d mX11_two [.int (T.1 123 (v7.toNatClampNeg)), .int (T.1 140 ((v5 + (-1 : Int32)) - (1 : Int32)).toNatClampNeg), .int (T.1 140 (v5 + (-1 : Int32)).toNatClampNeg)] L sz T Q1 ∧ ∀ (r1 : Int32) (T1 : tT), Q1 r1 T1 → (vp_in ((v5 + (-1 : Int32)) - (1 : Int32)) 200 ∧ ax_j X 19 [some (.ref 105), none, some (.int v2), some (.int v3), some (.int v4), some (.int (v5 + (-1 : Int32))), some (.int v6), some (.int (v7 + (1 : Int32))), none] [] (th L sz (tI T1 140 (((v5 + (-1 : Int32)) - (1 : Int32)).toNatClampNeg) r1)) 0 0)) ∧ (¬ (T.1 123 (v7.toNatClampNeg)) < (97 : Int32) → (((122 : Int32) < (T.1 123 (v7.toNatClampNeg)) → vp_in ((v5 + (-1 : Int32)) - (1 : Int32)) 200 ∧ vp_in (v5 + (-1 : Int32)) 200 ∧ ∃ Q1, tiK d mX11_two [.int (T.1 123 (v7.toNatClampNeg)), .int (T.1 140 ((v5 + (-1 : Int32)) - (1 : Int32)).toNatClampNeg), .int (T.1 140 (v5 + (-1 : Int32)).toNatClampNeg)] L sz T Q1 ∧ ∀ (r2 : Int32) (T2 : tT), Q1 r2 T2 → (vp_in ((v5 + (-1 : Int32)) - (1 : Int32)) 200 ∧ ax_j X 19 [some (.ref 105), none, some (.int v2), some (.int v3), some (.int v4), some (.int (v5 + (-1 : Int32))), some (.int v6), some (.int (v7 + (1 : Int32))), none] [] (th L sz (tI T2 140 (((v5 + (-1 : Int32)) - (1 : Int32)).toNatClampNeg) r2)) 0 0)) ∧ (¬ (122 : Int32) < (T.1 123 (v7.toNatClampNeg)) → vp_in v7 7500 ∧ ∃ Q1, tiK d mX11_leaf [.ref 105, .int (T.1 123 (v7.toNatClampNeg)), .int (T.1 124 (v7.toNatClampNeg)), .int v3, .int v4] L sz T Q1 ∧ ∀ (r3 : Int32) (T3 : tT), Q1 r3 T3 → (vp_in v5 200 ∧ ax_j X 19 [some (.ref 105), none, some (.int v2), some (.int v3), some (.int v4), some (.int (v5 + (1 : Int32))), some (.int v6), some (.int (v7 + (1 : Int32))), none] [] (th L sz (tI T3 140 (v5.toNatClampNeg) r3)) 0 0)))))) ∧ ((T.1 123 (v7.toNatClampNeg)) = (126 : Int32) → vp_in (v5 - (1 : Int32)) 200 ∧ ((¬ (T.1 140 (v5 - (1 : Int32)).toNatClampNeg) = 0 → vp_in (v5 - (1 : Int32)) 200 ∧ ax_j X 19 [some (.ref 105), none, some (.int v2), some (.int v3), some (.int v4), some (.int v5), some (.int v6), some (.int (v7 + (1 : Int32))), none] [] (th L sz (tI T 140 ((v5 - (1 : Int32)).toNatClampNeg) (0 : Int32))) 0 0) ∧ ((T.1 140 (v5 - (1 : Int32)).toNatClampNeg) = 0 → vp_in (v5 - (1 : Int32)) 200 ∧ ax_j X 19 [some (.ref 105), none, some (.int v2), some (.int v3), some (.int v4), some (.int v5), some (.int v6), some (.int (v7 + (1 : Int32))), none] [] (th L sz (tI T 140 ((v5 - (1 : Int32)).toNatClampNeg) (1 : Int32))) 0 0))))))) : ax_j X 19 [some (.ref 105), none, some (.int v2), some (.int v3), some (.int v4), some (.int v5), some (.int v6), some (.int v7), none] [] (th L sz T) 0 0 := by
  refine ax_iload hX dX11_work_19 rfl ?_
  refine ax_iload hX dX11_work_21 rfl ?_
  refine ax_iload_n hX dX11_work_23 rfl ?_
  refine ax_iadd hX dX11_work_24 ?_
  refine ax_icmp_ge hX dX11_work_25 (tgt := 155) (by decide) (fun c => ?_) (fun c => ?_)
  · replace hyp := hyp.1 c
    refine ax_aload_n hX dX11_work_155 (Or.inr ⟨_, rfl⟩) rfl ?_
    refine tx_getF hX fRX11_209 ly_105 (o := 35) (b := 140) fk_11_49 rfl (by decide) (Nat.lt_of_lt_of_le (by decide) hsz) dX11_work_156 ?_
    refine ax_iconst hX dX11_work_159 (v := 0) (by decide) ?_
    refine tx_ial hX ly_140 (by decide) (Nat.lt_of_lt_of_le (by decide) hsz) hyp.1 dX11_work_160 ?_
    replace hyp := hyp.2
    exact hR.1 _ _ _ _ _ _ (by decide) (by decide) dX11_work_161 ⟨_, rfl, rfl⟩ ⟨_, _, rfl, rfl, hyp⟩
  · replace hyp := hyp.2 c
    refine ax_aload_n hX dX11_work_28 (Or.inr ⟨_, rfl⟩) rfl ?_
    refine tx_getF hX fRX11_157 ly_105 (o := 18) (b := 123) fk_11_29 rfl (by decide) (Nat.lt_of_lt_of_le (by decide) hsz) dX11_work_29 ?_
    refine ax_iload hX dX11_work_32 rfl ?_
    refine tx_ial hX ly_123 (by decide) (Nat.lt_of_lt_of_le (by decide) hsz) hyp.1 dX11_work_34 ?_
    replace hyp := hyp.2
    refine ax_istore hX dX11_work_35 (by decide) (L' := [some (.ref 105), none, some (.int v2), some (.int v3), some (.int v4), some (.int v5), some (.int v6), some (.int v7), some (.int (T.1 123 (v7.toNatClampNeg)))]) rfl ?_
    refine ax_iload hX dX11_work_37 rfl ?_
    refine ax_bipush hX dX11_work_39 (v := 126) (by decide) ?_
    refine ax_icmp_ne hX dX11_work_41 (tgt := 73) (by decide) (fun c => ?_) (fun c => ?_)
    · replace hyp := hyp.1 c
      refine ax_iload hX dX11_work_73 rfl ?_
      refine ax_bipush hX dX11_work_75 (v := 97) (by decide) ?_
      refine ax_icmp_lt hX dX11_work_77 (tgt := 116) (by decide) (fun c => ?_) (fun c => ?_)
      · replace hyp := hyp.1 c
        refine ax_iinc hX dX11_work_116 rfl (w := (v5 + (-1 : Int32))) rfl (by decide) (L' := [some (.ref 105), none, some (.int v2), some (.int v3), some (.int v4), some (.int (v5 + (-1 : Int32))), some (.int v6), some (.int v7), some (.int (T.1 123 (v7.toNatClampNeg)))]) rfl ?_
        refine ax_aload_n hX dX11_work_119 (Or.inr ⟨_, rfl⟩) rfl ?_
        refine tx_getF hX fRX11_209 ly_105 (o := 35) (b := 140) fk_11_49 rfl (by decide) (Nat.lt_of_lt_of_le (by decide) hsz) dX11_work_120 ?_
        refine ax_iload hX dX11_work_123 rfl ?_
        refine ax_iconst hX dX11_work_125 (v := 1) (by decide) ?_
        refine ax_isub hX dX11_work_126 ?_
        refine ax_iload hX dX11_work_127 rfl ?_
        refine ax_aload_n hX dX11_work_129 (Or.inr ⟨_, rfl⟩) rfl ?_
        refine tx_getF hX fRX11_209 ly_105 (o := 35) (b := 140) fk_11_49 rfl (by decide) (Nat.lt_of_lt_of_le (by decide) hsz) dX11_work_130 ?_
        refine ax_iload hX dX11_work_133 rfl ?_
        refine ax_iconst hX dX11_work_135 (v := 1) (by decide) ?_
        refine ax_isub hX dX11_work_136 ?_
        refine tx_ial hX ly_140 (by decide) (Nat.lt_of_lt_of_le (by decide) hsz) hyp.1 dX11_work_137 ?_
        replace hyp := hyp.2
        refine ax_aload_n hX dX11_work_138 (Or.inr ⟨_, rfl⟩) rfl ?_
        refine tx_getF hX fRX11_209 ly_105 (o := 35) (b := 140) fk_11_49 rfl (by decide) (Nat.lt_of_lt_of_le (by decide) hsz) dX11_work_139 ?_
        refine ax_iload hX dX11_work_142 rfl ?_
        refine tx_ial hX ly_140 (by decide) (Nat.lt_of_lt_of_le (by decide) hsz) hyp.1 dX11_work_144 ?_
        replace hyp := hyp.2
        obtain ⟨Q1, hK, hyp⟩ := hyp
        refine ax_callS hX lRX11_372 sm_X11_two cw_X11_two (A := [.int (T.1 123 (v7.toNatClampNeg)), .int (T.1 140 ((v5 + (-1 : Int32)) - (1 : Int32)).toNatClampNeg), .int (T.1 140 (v5 + (-1 : Int32)).toNatClampNeg)]) (st := [.int ((v5 + (-1 : Int32)) - (1 : Int32)), .ref 140]) rfl rfl (Nat.le_of_ble_eq_true rfl) (by decide) (by decide) dX11_work_145 hK ?_
        rintro _ _ ⟨r1, T1, rfl, rfl, hq⟩
        replace hyp := hyp r1 T1 hq
        refine tx_ias hX ly_140 (by decide) (Nat.lt_of_lt_of_le (by decide) hsz) hyp.1 dX11_work_148 ?_
        replace hyp := hyp.2
        refine ax_iinc hX dX11_work_149 rfl (w := (v7 + (1 : Int32))) rfl (by decide) (L' := [some (.ref 105), none, some (.int v2), some (.int v3), some (.int v4), some (.int (v5 + (-1 : Int32))), some (.int v6), some (.int (v7 + (1 : Int32))), some (.int (T.1 123 (v7.toNatClampNeg)))]) rfl ?_
        refine ax_goto hX dX11_work_152 (tgt := 19) (by decide) ?_
        exact ax_forget (L' := [some (.ref 105), none, some (.int v2), some (.int v3), some (.int v4), some (.int (v5 + (-1 : Int32))), some (.int v6), some (.int (v7 + (1 : Int32))), none]) (⟨rfl, ⟨rfl, ⟨rfl, ⟨rfl, ⟨rfl, ⟨rfl, ⟨rfl, trivial⟩⟩⟩⟩⟩⟩⟩) hyp
      · replace hyp := hyp.2 c
        refine ax_iload hX dX11_work_80 rfl ?_
        refine ax_bipush hX dX11_work_82 (v := 122) (by decide) ?_
        refine ax_icmp_gt hX dX11_work_84 (tgt := 116) (by decide) (fun c => ?_) (fun c => ?_)
        · replace hyp := hyp.1 c
          refine ax_iinc hX dX11_work_116 rfl (w := (v5 + (-1 : Int32))) rfl (by decide) (L' := [some (.ref 105), none, some (.int v2), some (.int v3), some (.int v4), some (.int (v5 + (-1 : Int32))), some (.int v6), some (.int v7), some (.int (T.1 123 (v7.toNatClampNeg)))]) rfl ?_
          refine ax_aload_n hX dX11_work_119 (Or.inr ⟨_, rfl⟩) rfl ?_
          refine tx_getF hX fRX11_209 ly_105 (o := 35) (b := 140) fk_11_49 rfl (by decide) (Nat.lt_of_lt_of_le (by decide) hsz) dX11_work_120 ?_
          refine ax_iload hX dX11_work_123 rfl ?_
          refine ax_iconst hX dX11_work_125 (v := 1) (by decide) ?_
          refine ax_isub hX dX11_work_126 ?_
          refine ax_iload hX dX11_work_127 rfl ?_
          refine ax_aload_n hX dX11_work_129 (Or.inr ⟨_, rfl⟩) rfl ?_
          refine tx_getF hX fRX11_209 ly_105 (o := 35) (b := 140) fk_11_49 rfl (by decide) (Nat.lt_of_lt_of_le (by decide) hsz) dX11_work_130 ?_
          refine ax_iload hX dX11_work_133 rfl ?_
          refine ax_iconst hX dX11_work_135 (v := 1) (by decide) ?_
          refine ax_isub hX dX11_work_136 ?_
          refine tx_ial hX ly_140 (by decide) (Nat.lt_of_lt_of_le (by decide) hsz) hyp.1 dX11_work_137 ?_
          replace hyp := hyp.2
          refine ax_aload_n hX dX11_work_138 (Or.inr ⟨_, rfl⟩) rfl ?_
          refine tx_getF hX fRX11_209 ly_105 (o := 35) (b := 140) fk_11_49 rfl (by decide) (Nat.lt_of_lt_of_le (by decide) hsz) dX11_work_139 ?_
          refine ax_iload hX dX11_work_142 rfl ?_
          refine tx_ial hX ly_140 (by decide) (Nat.lt_of_lt_of_le (by decide) hsz) hyp.1 dX11_work_144 ?_
          replace hyp := hyp.2
          obtain ⟨Q1, hK, hyp⟩ := hyp
          refine ax_callS hX lRX11_372 sm_X11_two cw_X11_two (A := [.int (T.1 123 (v7.toNatClampNeg)), .int (T.1 140 ((v5 + (-1 : Int32)) - (1 : Int32)).toNatClampNeg), .int (T.1 140 (v5 + (-1 : Int32)).toNatClampNeg)]) (st := [.int ((v5 + (-1 : Int32)) - (1 : Int32)), .ref 140]) rfl rfl (Nat.le_of_ble_eq_true rfl) (by decide) (by decide) dX11_work_145 hK ?_
          rintro _ _ ⟨r2, T2, rfl, rfl, hq⟩
          replace hyp := hyp r2 T2 hq
          refine tx_ias hX ly_140 (by decide) (Nat.lt_of_lt_of_le (by decide) hsz) hyp.1 dX11_work_148 ?_
          replace hyp := hyp.2
          refine ax_iinc hX dX11_work_149 rfl (w := (v7 + (1 : Int32))) rfl (by decide) (L' := [some (.ref 105), none, some (.int v2), some (.int v3), some (.int v4), some (.int (v5 + (-1 : Int32))), some (.int v6), some (.int (v7 + (1 : Int32))), some (.int (T.1 123 (v7.toNatClampNeg)))]) rfl ?_
          refine ax_goto hX dX11_work_152 (tgt := 19) (by decide) ?_
          exact ax_forget (L' := [some (.ref 105), none, some (.int v2), some (.int v3), some (.int v4), some (.int (v5 + (-1 : Int32))), some (.int v6), some (.int (v7 + (1 : Int32))), none]) (⟨rfl, ⟨rfl, ⟨rfl, ⟨rfl, ⟨rfl, ⟨rfl, ⟨rfl, trivial⟩⟩⟩⟩⟩⟩⟩) hyp
        · replace hyp := hyp.2 c
          refine ax_aload_n hX dX11_work_87 (Or.inr ⟨_, rfl⟩) rfl ?_
          refine tx_getF hX fRX11_209 ly_105 (o := 35) (b := 140) fk_11_49 rfl (by decide) (Nat.lt_of_lt_of_le (by decide) hsz) dX11_work_88 ?_
          refine ax_iload hX dX11_work_91 rfl ?_
          refine ax_aload_n hX dX11_work_93 (Or.inr ⟨_, rfl⟩) rfl ?_
          refine ax_iload hX dX11_work_94 rfl ?_
          refine ax_aload_n hX dX11_work_96 (Or.inr ⟨_, rfl⟩) rfl ?_
          refine tx_getF hX fRX11_160 ly_105 (o := 19) (b := 124) fk_11_30 rfl (by decide) (Nat.lt_of_lt_of_le (by decide) hsz) dX11_work_97 ?_
          refine ax_iload hX dX11_work_100 rfl ?_
          refine tx_ial hX ly_124 (by decide) (Nat.lt_of_lt_of_le (by decide) hsz) hyp.1 dX11_work_102 ?_
          replace hyp := hyp.2
          refine ax_iload_n hX dX11_work_103 rfl ?_
          refine ax_iload hX dX11_work_104 rfl ?_
          obtain ⟨Q1, hK, hyp⟩ := hyp
          refine ax_callV hX lRX11_368 im_X11_leaf sl_X11_leaf cw_X11_leaf ((th_at (by decide) (Nat.lt_of_lt_of_le (by decide) hsz)).trans (tc_ob ly_105)) rfl rfl (A := [.int (T.1 123 (v7.toNatClampNeg)), .int (T.1 124 (v7.toNatClampNeg)), .int v3, .int v4]) (st := [.int v5, .ref 140]) rfl rfl (Nat.le_of_ble_eq_true rfl) (by decide) (by decide) dX11_work_106 hK ?_
          rintro _ _ ⟨r3, T3, rfl, rfl, hq⟩
          replace hyp := hyp r3 T3 hq
          refine tx_ias hX ly_140 (by decide) (Nat.lt_of_lt_of_le (by decide) hsz) hyp.1 dX11_work_109 ?_
          replace hyp := hyp.2
          refine ax_iinc hX dX11_work_110 rfl (w := (v5 + (1 : Int32))) rfl (by decide) (L' := [some (.ref 105), none, some (.int v2), some (.int v3), some (.int v4), some (.int (v5 + (1 : Int32))), some (.int v6), some (.int v7), some (.int (T.1 123 (v7.toNatClampNeg)))]) rfl ?_
          refine ax_goto hX dX11_work_113 (tgt := 149) (by decide) ?_
          refine ax_iinc hX dX11_work_149 rfl (w := (v7 + (1 : Int32))) rfl (by decide) (L' := [some (.ref 105), none, some (.int v2), some (.int v3), some (.int v4), some (.int (v5 + (1 : Int32))), some (.int v6), some (.int (v7 + (1 : Int32))), some (.int (T.1 123 (v7.toNatClampNeg)))]) rfl ?_
          refine ax_goto hX dX11_work_152 (tgt := 19) (by decide) ?_
          exact ax_forget (L' := [some (.ref 105), none, some (.int v2), some (.int v3), some (.int v4), some (.int (v5 + (1 : Int32))), some (.int v6), some (.int (v7 + (1 : Int32))), none]) (⟨rfl, ⟨rfl, ⟨rfl, ⟨rfl, ⟨rfl, ⟨rfl, ⟨rfl, trivial⟩⟩⟩⟩⟩⟩⟩) hyp
    · replace hyp := hyp.2 c
      refine ax_aload_n hX dX11_work_44 (Or.inr ⟨_, rfl⟩) rfl ?_
      refine tx_getF hX fRX11_209 ly_105 (o := 35) (b := 140) fk_11_49 rfl (by decide) (Nat.lt_of_lt_of_le (by decide) hsz) dX11_work_45 ?_
      refine ax_iload hX dX11_work_48 rfl ?_
      refine ax_iconst hX dX11_work_50 (v := 1) (by decide) ?_
      refine ax_isub hX dX11_work_51 ?_
      refine ax_aload_n hX dX11_work_52 (Or.inr ⟨_, rfl⟩) rfl ?_
      refine tx_getF hX fRX11_209 ly_105 (o := 35) (b := 140) fk_11_49 rfl (by decide) (Nat.lt_of_lt_of_le (by decide) hsz) dX11_work_53 ?_
      refine ax_iload hX dX11_work_56 rfl ?_
      refine ax_iconst hX dX11_work_58 (v := 1) (by decide) ?_
      refine ax_isub hX dX11_work_59 ?_
      refine tx_ial hX ly_140 (by decide) (Nat.lt_of_lt_of_le (by decide) hsz) hyp.1 dX11_work_60 ?_
      replace hyp := hyp.2
      refine ax_if_ne hX dX11_work_61 (tgt := 68) (by decide) (fun c => ?_) (fun c => ?_)
      · replace hyp := hyp.1 c
        refine ax_iconst hX dX11_work_68 (v := 0) (by decide) ?_
        refine tx_ias hX ly_140 (by decide) (Nat.lt_of_lt_of_le (by decide) hsz) hyp.1 dX11_work_69 ?_
        replace hyp := hyp.2
        refine ax_goto hX dX11_work_70 (tgt := 149) (by decide) ?_
        refine ax_iinc hX dX11_work_149 rfl (w := (v7 + (1 : Int32))) rfl (by decide) (L' := [some (.ref 105), none, some (.int v2), some (.int v3), some (.int v4), some (.int v5), some (.int v6), some (.int (v7 + (1 : Int32))), some (.int (T.1 123 (v7.toNatClampNeg)))]) rfl ?_
        refine ax_goto hX dX11_work_152 (tgt := 19) (by decide) ?_
        exact ax_forget (L' := [some (.ref 105), none, some (.int v2), some (.int v3), some (.int v4), some (.int v5), some (.int v6), some (.int (v7 + (1 : Int32))), none]) (⟨rfl, ⟨rfl, ⟨rfl, ⟨rfl, ⟨rfl, ⟨rfl, ⟨rfl, trivial⟩⟩⟩⟩⟩⟩⟩) hyp
      · replace hyp := hyp.2 c
        refine ax_iconst hX dX11_work_64 (v := 1) (by decide) ?_
        refine ax_goto hX dX11_work_65 (tgt := 69) (by decide) ?_
        refine tx_ias hX ly_140 (by decide) (Nat.lt_of_lt_of_le (by decide) hsz) hyp.1 dX11_work_69 ?_
        replace hyp := hyp.2
        refine ax_goto hX dX11_work_70 (tgt := 149) (by decide) ?_
        refine ax_iinc hX dX11_work_149 rfl (w := (v7 + (1 : Int32))) rfl (by decide) (L' := [some (.ref 105), none, some (.int v2), some (.int v3), some (.int v4), some (.int v5), some (.int v6), some (.int (v7 + (1 : Int32))), some (.int (T.1 123 (v7.toNatClampNeg)))]) rfl ?_
        refine ax_goto hX dX11_work_152 (tgt := 19) (by decide) ?_
        exact ax_forget (L' := [some (.ref 105), none, some (.int v2), some (.int v3), some (.int v4), some (.int v5), some (.int v6), some (.int (v7 + (1 : Int32))), none]) (⟨rfl, ⟨rfl, ⟨rfl, ⟨rfl, ⟨rfl, ⟨rfl, ⟨rfl, trivial⟩⟩⟩⟩⟩⟩⟩) hyp
set_option maxRecDepth 10000 in
theorem s_X11_wrong_0 {X : ax_X} {d L sz : Nat} {T : tT} {Q : tT → Prop} (hX : ax_ok X mX11_wrong (d + 1)) (hR : ax_Ret X mX11_wrong (tv L sz Q)) (hsz : 161 ≤ sz)  (hyp : ((¬ (T.1 105 8) = (1 : Int32) → ∃ Q1, tvK d mX11_fails [.ref 105, .int (2 : Int32), .int (T.1 105 6)] L sz T Q1 ∧ ∀ (T1 : tT), Q1 T1 → (Q T1)) ∧ ((T.1 105 8) = (1 : Int32) → ∃ Q1, tvK d mX11_fails [.ref 105, .int (1 : Int32), .int (T.1 105 6)] L sz T Q1 ∧ ∀ (T2 : tT), Q1 T2 → (Q T2)))) : ax_j X 0 [some (.ref 105)] [] (th L sz T) 0 0 := by
  refine ax_aload_n hX dX11_wrong_0 (Or.inr ⟨_, rfl⟩) rfl ?_
  refine ax_aload_n hX dX11_wrong_1 (Or.inr ⟨_, rfl⟩) rfl ?_
  refine tx_getI hX fRX11_61 ly_105 fk_11_8 (by decide) (Nat.lt_of_lt_of_le (by decide) hsz) dX11_wrong_2 ?_
  refine ax_iconst hX dX11_wrong_5 (v := 1) (by decide) ?_
  refine ax_icmp_ne hX dX11_wrong_6 (tgt := 13) (by decide) (fun c => ?_) (fun c => ?_)
  · replace hyp := hyp.1 c
    refine ax_iconst hX dX11_wrong_13 (v := 2) (by decide) ?_
    refine ax_aload_n hX dX11_wrong_14 (Or.inr ⟨_, rfl⟩) rfl ?_
    refine tx_getI hX fRX11_54 ly_105 fk_11_6 (by decide) (Nat.lt_of_lt_of_le (by decide) hsz) dX11_wrong_15 ?_
    obtain ⟨Q1, hK, hyp⟩ := hyp
    refine ax_callV hX lRX11_81 im_X11_fails sl_X11_fails cw_X11_fails ((th_at (by decide) (Nat.lt_of_lt_of_le (by decide) hsz)).trans (tc_ob ly_105)) rfl rfl (A := [.int (2 : Int32), .int (T.1 105 6)]) (st := []) rfl rfl (Nat.le_of_ble_eq_true rfl) (by decide) (by decide) dX11_wrong_18 hK ?_
    rintro _ _ ⟨T1, rfl, rfl, hq⟩
    replace hyp := hyp T1 hq
    exact hR.2.2.2 _ _ _ _ _ (by decide) (by decide) dX11_wrong_21 rfl ⟨_, rfl, rfl, hyp⟩
  · replace hyp := hyp.2 c
    refine ax_iconst hX dX11_wrong_9 (v := 1) (by decide) ?_
    refine ax_goto hX dX11_wrong_10 (tgt := 14) (by decide) ?_
    refine ax_aload_n hX dX11_wrong_14 (Or.inr ⟨_, rfl⟩) rfl ?_
    refine tx_getI hX fRX11_54 ly_105 fk_11_6 (by decide) (Nat.lt_of_lt_of_le (by decide) hsz) dX11_wrong_15 ?_
    obtain ⟨Q1, hK, hyp⟩ := hyp
    refine ax_callV hX lRX11_81 im_X11_fails sl_X11_fails cw_X11_fails ((th_at (by decide) (Nat.lt_of_lt_of_le (by decide) hsz)).trans (tc_ob ly_105)) rfl rfl (A := [.int (1 : Int32), .int (T.1 105 6)]) (st := []) rfl rfl (Nat.le_of_ble_eq_true rfl) (by decide) (by decide) dX11_wrong_18 hK ?_
    rintro _ _ ⟨T2, rfl, rfl, hq⟩
    replace hyp := hyp T2 hq
    exact hR.2.2.2 _ _ _ _ _ (by decide) (by decide) dX11_wrong_21 rfl ⟨_, rfl, rfl, hyp⟩
