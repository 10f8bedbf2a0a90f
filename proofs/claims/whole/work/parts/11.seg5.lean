set_option maxRecDepth 10000 in
theorem s_X11_known_0 {X : ax_X} {d L sz : Nat} {T : tT} {Q : Int32 → tT → Prop} (hX : ax_ok X mX11_known (d + 1)) (hR : ax_Ret X mX11_known (ti L sz Q)) (hsz : 161 ≤ sz) (x0 : Int32) (x1 : Int32) (x2 : Int32) (hyp : ∃ Q1, tiK d mX11_isEntry [.ref 105, .int x0] L sz T Q1 ∧ ∀ (r1 : Int32) (T1 : tT), Q1 r1 T1 → (((¬ r1 = 0 → ∃ Q1, tiK d mX11_lastOf [.ref 105, .int x0, .int x1, .int (-1 : Int32), .int x2] L sz T1 Q1 ∧ ∀ (r2 : Int32) (T2 : tT), Q1 r2 T2 → (∃ Q1, tiK d mX11_main [.ref 105, .int x0, .int x2] L sz T2 Q1 ∧ ∀ (r3 : Int32) (T3 : tT), Q1 r3 T3 → (((r2 < 0 → ((0 ≤ r3 → ∃ Q1, tiK d mX11_lastOf [.ref 105, .int x0, .int x1, .int r3, .int x2] L sz T3 Q1 ∧ ∀ (r4 : Int32) (T4 : tT), Q1 r4 T4 → (Q r4 T4)) ∧ (¬ 0 ≤ r3 → Q (-1 : Int32) T3))) ∧ (¬ r2 < 0 → Q r2 T3))))) ∧ (r1 = 0 → Q (-1 : Int32) T1)))) : ax_j X 0 [some (.ref 105), some (.int x0), some (.int x1), some (.int x2), none, none] [] (th L sz T) 0 0 := by
  refine ax_aload_n hX dX11_known_0 (Or.inr ⟨_, rfl⟩) rfl ?_
  refine ax_iload_n hX dX11_known_1 rfl ?_
  obtain ⟨Q1, hK, hyp⟩ := hyp
  refine ax_callV hX lRX11_362 im_X11_isEntry sl_X11_isEntry cw_X11_isEntry ((th_at (by decide) (Nat.lt_of_lt_of_le (by decide) hsz)).trans (tc_ob ly_105)) rfl rfl (A := [.int x0]) (st := []) rfl rfl (Nat.le_of_ble_eq_true rfl) (by decide) (by decide) dX11_known_2 hK ?_
  rintro _ _ ⟨r1, T1, rfl, rfl, hq⟩
  replace hyp := hyp r1 T1 hq
  refine ax_if_ne hX dX11_known_5 (tgt := 10) (by decide) (fun c => ?_) (fun c => ?_)
  · replace hyp := hyp.1 c
    refine ax_aload_n hX dX11_known_10 (Or.inr ⟨_, rfl⟩) rfl ?_
    refine ax_iload_n hX dX11_known_11 rfl ?_
    refine ax_iload_n hX dX11_known_12 rfl ?_
    refine ax_iconst hX dX11_known_13 (v := -1) (by decide) ?_
    refine ax_iload_n hX dX11_known_14 rfl ?_
    obtain ⟨Q1, hK, hyp⟩ := hyp
    refine ax_callV hX lRX11_451 im_X11_lastOf sl_X11_lastOf cw_X11_lastOf ((th_at (by decide) (Nat.lt_of_lt_of_le (by decide) hsz)).trans (tc_ob ly_105)) rfl rfl (A := [.int x0, .int x1, .int (-1 : Int32), .int x2]) (st := []) rfl rfl (Nat.le_of_ble_eq_true rfl) (by decide) (by decide) dX11_known_15 hK ?_
    rintro _ _ ⟨r2, T2, rfl, rfl, hq⟩
    replace hyp := hyp r2 T2 hq
    refine ax_istore hX dX11_known_18 (by decide) (L' := [some (.ref 105), some (.int x0), some (.int x1), some (.int x2), some (.int r2), none]) rfl ?_
    refine ax_aload_n hX dX11_known_20 (Or.inr ⟨_, rfl⟩) rfl ?_
    refine ax_iload_n hX dX11_known_21 rfl ?_
    refine ax_iload_n hX dX11_known_22 rfl ?_
    obtain ⟨Q1, hK, hyp⟩ := hyp
    refine ax_callV hX lRX11_454 im_X11_main sl_X11_main cw_X11_main ((th_at (by decide) (Nat.lt_of_lt_of_le (by decide) hsz)).trans (tc_ob ly_105)) rfl rfl (A := [.int x0, .int x2]) (st := []) rfl rfl (Nat.le_of_ble_eq_true rfl) (by decide) (by decide) dX11_known_23 hK ?_
    rintro _ _ ⟨r3, T3, rfl, rfl, hq⟩
    replace hyp := hyp r3 T3 hq
    refine ax_istore hX dX11_known_26 (by decide) (L' := [some (.ref 105), some (.int x0), some (.int x1), some (.int x2), some (.int r2), some (.int r3)]) rfl ?_
    refine ax_iload hX dX11_known_28 rfl ?_
    refine ax_if_lt hX dX11_known_30 (tgt := 38) (by decide) (fun c => ?_) (fun c => ?_)
    · replace hyp := hyp.1 c
      refine ax_iload hX dX11_known_38 rfl ?_
      refine ax_if_ge hX dX11_known_40 (tgt := 47) (by decide) (fun c => ?_) (fun c => ?_)
      · replace hyp := hyp.1 c
        refine ax_aload_n hX dX11_known_47 (Or.inr ⟨_, rfl⟩) rfl ?_
        refine ax_iload_n hX dX11_known_48 rfl ?_
        refine ax_iload_n hX dX11_known_49 rfl ?_
        refine ax_iload hX dX11_known_50 rfl ?_
        refine ax_iload_n hX dX11_known_52 rfl ?_
        obtain ⟨Q1, hK, hyp⟩ := hyp
        refine ax_callV hX lRX11_451 im_X11_lastOf sl_X11_lastOf cw_X11_lastOf ((th_at (by decide) (Nat.lt_of_lt_of_le (by decide) hsz)).trans (tc_ob ly_105)) rfl rfl (A := [.int x0, .int x1, .int r3, .int x2]) (st := []) rfl rfl (Nat.le_of_ble_eq_true rfl) (by decide) (by decide) dX11_known_53 hK ?_
        rintro _ _ ⟨r4, T4, rfl, rfl, hq⟩
        replace hyp := hyp r4 T4 hq
        exact hR.1 _ _ _ _ _ _ (by decide) (by decide) dX11_known_56 ⟨_, rfl, rfl⟩ ⟨_, _, rfl, rfl, hyp⟩
      · replace hyp := hyp.2 c
        refine ax_iconst hX dX11_known_43 (v := -1) (by decide) ?_
        refine ax_goto hX dX11_known_44 (tgt := 56) (by decide) ?_
        exact hR.1 _ _ _ _ _ _ (by decide) (by decide) dX11_known_56 ⟨_, rfl, rfl⟩ ⟨_, _, rfl, rfl, hyp⟩
    · replace hyp := hyp.2 c
      refine ax_iload hX dX11_known_33 rfl ?_
      refine ax_goto hX dX11_known_35 (tgt := 56) (by decide) ?_
      exact hR.1 _ _ _ _ _ _ (by decide) (by decide) dX11_known_56 ⟨_, rfl, rfl⟩ ⟨_, _, rfl, rfl, hyp⟩
  · replace hyp := hyp.2 c
    refine ax_iconst hX dX11_known_8 (v := -1) (by decide) ?_
    exact hR.1 _ _ _ _ _ _ (by decide) (by decide) dX11_known_9 ⟨_, rfl, rfl⟩ ⟨_, _, rfl, rfl, hyp⟩
set_option maxRecDepth 10000 in
theorem s_X11_lastOf_0 {X : ax_X} {d L sz : Nat} {T : tT} {Q : Int32 → tT → Prop} (hX : ax_ok X mX11_lastOf (d + 1)) (hR : ax_Ret X mX11_lastOf (ti L sz Q)) (hsz : 161 ≤ sz) (x0 : Int32) (x1 : Int32) (x2 : Int32) (x3 : Int32) (hyp : ax_j X 6 [some (.ref 105), some (.int x0), some (.int x1), some (.int x2), some (.int x3), some (.int (-1 : Int32)), some (.int (0 : Int32))] [] (th L sz T) 0 0) : ax_j X 0 [some (.ref 105), some (.int x0), some (.int x1), some (.int x2), some (.int x3), none, none] [] (th L sz T) 0 0 := by
  refine ax_iconst hX dX11_lastOf_0 (v := -1) (by decide) ?_
  refine ax_istore hX dX11_lastOf_1 (by decide) (L' := [some (.ref 105), some (.int x0), some (.int x1), some (.int x2), some (.int x3), some (.int (-1 : Int32)), none]) rfl ?_
  refine ax_iconst hX dX11_lastOf_3 (v := 0) (by decide) ?_
  refine ax_istore hX dX11_lastOf_4 (by decide) (L' := [some (.ref 105), some (.int x0), some (.int x1), some (.int x2), some (.int x3), some (.int (-1 : Int32)), some (.int (0 : Int32))]) rfl ?_
  exact ax_forget (L' := [some (.ref 105), some (.int x0), some (.int x1), some (.int x2), some (.int x3), some (.int (-1 : Int32)), some (.int (0 : Int32))]) (⟨rfl, ⟨rfl, ⟨rfl, ⟨rfl, ⟨rfl, ⟨rfl, ⟨rfl, trivial⟩⟩⟩⟩⟩⟩⟩) hyp
set_option maxRecDepth 10000 in
theorem s_X11_lastOf_6 {X : ax_X} {d L sz : Nat} {T : tT} {Q : Int32 → tT → Prop} (hX : ax_ok X mX11_lastOf (d + 1)) (hR : ax_Ret X mX11_lastOf (ti L sz Q)) (hsz : 161 ≤ sz) (v1 : Int32) (v2 : Int32) (v3 : Int32) (v4 : Int32) (v5 : Int32) (v6 : Int32) (hyp : (((T.1 105 70) ≤ v6 → Q v5 T) ∧ (¬ (T.1 105 70) ≤ v6 → vp_in v6 200 ∧ ((¬ (T.1 151 (v6.toNatClampNeg)) = v1 → ax_j X 6 [some (.ref 105), some (.int v1), some (.int v2), some (.int v3), some (.int v4), some (.int v5), some (.int (v6 + (1 : Int32)))] [] (th L sz T) 0 0) ∧ ((T.1 151 (v6.toNatClampNeg)) = v1 → vp_in v6 200 ∧ ((¬ (T.1 153 (v6.toNatClampNeg)) = v2 → ax_j X 6 [some (.ref 105), some (.int v1), some (.int v2), some (.int v3), some (.int v4), some (.int v5), some (.int (v6 + (1 : Int32)))] [] (th L sz T) 0 0) ∧ ((T.1 153 (v6.toNatClampNeg)) = v2 → vp_in v6 200 ∧ ((¬ (T.1 152 (v6.toNatClampNeg)) = v3 → ax_j X 6 [some (.ref 105), some (.int v1), some (.int v2), some (.int v3), some (.int v4), some (.int v5), some (.int (v6 + (1 : Int32)))] [] (th L sz T) 0 0) ∧ ((T.1 152 (v6.toNatClampNeg)) = v3 → ∃ Q1, tiK d mX11_isKnown [.ref 105, .int v6, .int v4] L sz T Q1 ∧ ∀ (r1 : Int32) (T1 : tT), Q1 r1 T1 → (((r1 = 0 → ax_j X 6 [some (.ref 105), some (.int v1), some (.int v2), some (.int v3), some (.int v4), some (.int v5), some (.int (v6 + (1 : Int32)))] [] (th L sz T1) 0 0) ∧ (¬ r1 = 0 → vp_in v6 200 ∧ ax_j X 6 [some (.ref 105), some (.int v1), some (.int v2), some (.int v3), some (.int v4), some (.int (T1.1 154 (v6.toNatClampNeg))), some (.int (v6 + (1 : Int32)))] [] (th L sz T1) 0 0)))))))))))) : ax_j X 6 [some (.ref 105), some (.int v1), some (.int v2), some (.int v3), some (.int v4), some (.int v5), some (.int v6)] [] (th L sz T) 0 0 := by
  refine ax_iload hX dX11_lastOf_6 rfl ?_
  refine ax_aload_n hX dX11_lastOf_8 (Or.inr ⟨_, rfl⟩) rfl ?_
  refine tx_getI hX fRX11_409 ly_105 fk_11_70 (by decide) (Nat.lt_of_lt_of_le (by decide) hsz) dX11_lastOf_9 ?_
  refine ax_icmp_ge hX dX11_lastOf_12 (tgt := 74) (by decide) (fun c => ?_) (fun c => ?_)
  · replace hyp := hyp.1 c
    refine ax_iload hX dX11_lastOf_74 rfl ?_
    exact hR.1 _ _ _ _ _ _ (by decide) (by decide) dX11_lastOf_76 ⟨_, rfl, rfl⟩ ⟨_, _, rfl, rfl, hyp⟩
  · replace hyp := hyp.2 c
    refine ax_aload_n hX dX11_lastOf_15 (Or.inr ⟨_, rfl⟩) rfl ?_
    refine tx_getF hX fRX11_242 ly_105 (o := 46) (b := 151) fk_11_64 rfl (by decide) (Nat.lt_of_lt_of_le (by decide) hsz) dX11_lastOf_16 ?_
    refine ax_iload hX dX11_lastOf_19 rfl ?_
    refine tx_ial hX ly_151 (by decide) (Nat.lt_of_lt_of_le (by decide) hsz) hyp.1 dX11_lastOf_21 ?_
    replace hyp := hyp.2
    refine ax_iload_n hX dX11_lastOf_22 rfl ?_
    refine ax_icmp_ne hX dX11_lastOf_23 (tgt := 68) (by decide) (fun c => ?_) (fun c => ?_)
    · replace hyp := hyp.1 c
      refine ax_iinc hX dX11_lastOf_68 rfl (w := (v6 + (1 : Int32))) rfl (by decide) (L' := [some (.ref 105), some (.int v1), some (.int v2), some (.int v3), some (.int v4), some (.int v5), some (.int (v6 + (1 : Int32)))]) rfl ?_
      refine ax_goto hX dX11_lastOf_71 (tgt := 6) (by decide) ?_
      exact ax_forget (L' := [some (.ref 105), some (.int v1), some (.int v2), some (.int v3), some (.int v4), some (.int v5), some (.int (v6 + (1 : Int32)))]) (⟨rfl, ⟨rfl, ⟨rfl, ⟨rfl, ⟨rfl, ⟨rfl, ⟨rfl, trivial⟩⟩⟩⟩⟩⟩⟩) hyp
    · replace hyp := hyp.2 c
      refine ax_aload_n hX dX11_lastOf_26 (Or.inr ⟨_, rfl⟩) rfl ?_
      refine tx_getF hX fRX11_248 ly_105 (o := 48) (b := 153) fk_11_66 rfl (by decide) (Nat.lt_of_lt_of_le (by decide) hsz) dX11_lastOf_27 ?_
      refine ax_iload hX dX11_lastOf_30 rfl ?_
      refine tx_ial hX ly_153 (by decide) (Nat.lt_of_lt_of_le (by decide) hsz) hyp.1 dX11_lastOf_32 ?_
      replace hyp := hyp.2
      refine ax_iload_n hX dX11_lastOf_33 rfl ?_
      refine ax_icmp_ne hX dX11_lastOf_34 (tgt := 68) (by decide) (fun c => ?_) (fun c => ?_)
      · replace hyp := hyp.1 c
        refine ax_iinc hX dX11_lastOf_68 rfl (w := (v6 + (1 : Int32))) rfl (by decide) (L' := [some (.ref 105), some (.int v1), some (.int v2), some (.int v3), some (.int v4), some (.int v5), some (.int (v6 + (1 : Int32)))]) rfl ?_
        refine ax_goto hX dX11_lastOf_71 (tgt := 6) (by decide) ?_
        exact ax_forget (L' := [some (.ref 105), some (.int v1), some (.int v2), some (.int v3), some (.int v4), some (.int v5), some (.int (v6 + (1 : Int32)))]) (⟨rfl, ⟨rfl, ⟨rfl, ⟨rfl, ⟨rfl, ⟨rfl, ⟨rfl, trivial⟩⟩⟩⟩⟩⟩⟩) hyp
      · replace hyp := hyp.2 c
        refine ax_aload_n hX dX11_lastOf_37 (Or.inr ⟨_, rfl⟩) rfl ?_
        refine tx_getF hX fRX11_245 ly_105 (o := 47) (b := 152) fk_11_65 rfl (by decide) (Nat.lt_of_lt_of_le (by decide) hsz) dX11_lastOf_38 ?_
        refine ax_iload hX dX11_lastOf_41 rfl ?_
        refine tx_ial hX ly_152 (by decide) (Nat.lt_of_lt_of_le (by decide) hsz) hyp.1 dX11_lastOf_43 ?_
        replace hyp := hyp.2
        refine ax_iload_n hX dX11_lastOf_44 rfl ?_
        refine ax_icmp_ne hX dX11_lastOf_45 (tgt := 68) (by decide) (fun c => ?_) (fun c => ?_)
        · replace hyp := hyp.1 c
          refine ax_iinc hX dX11_lastOf_68 rfl (w := (v6 + (1 : Int32))) rfl (by decide) (L' := [some (.ref 105), some (.int v1), some (.int v2), some (.int v3), some (.int v4), some (.int v5), some (.int (v6 + (1 : Int32)))]) rfl ?_
          refine ax_goto hX dX11_lastOf_71 (tgt := 6) (by decide) ?_
          exact ax_forget (L' := [some (.ref 105), some (.int v1), some (.int v2), some (.int v3), some (.int v4), some (.int v5), some (.int (v6 + (1 : Int32)))]) (⟨rfl, ⟨rfl, ⟨rfl, ⟨rfl, ⟨rfl, ⟨rfl, ⟨rfl, trivial⟩⟩⟩⟩⟩⟩⟩) hyp
        · replace hyp := hyp.2 c
          refine ax_aload_n hX dX11_lastOf_48 (Or.inr ⟨_, rfl⟩) rfl ?_
          refine ax_iload hX dX11_lastOf_49 rfl ?_
          refine ax_iload hX dX11_lastOf_51 rfl ?_
          obtain ⟨Q1, hK, hyp⟩ := hyp
          refine ax_callV hX lRX11_448 im_X11_isKnown sl_X11_isKnown cw_X11_isKnown ((th_at (by decide) (Nat.lt_of_lt_of_le (by decide) hsz)).trans (tc_ob ly_105)) rfl rfl (A := [.int v6, .int v4]) (st := []) rfl rfl (Nat.le_of_ble_eq_true rfl) (by decide) (by decide) dX11_lastOf_53 hK ?_
          rintro _ _ ⟨r1, T1, rfl, rfl, hq⟩
          replace hyp := hyp r1 T1 hq
          refine ax_if_eq hX dX11_lastOf_56 (tgt := 68) (by decide) (fun c => ?_) (fun c => ?_)
          · replace hyp := hyp.1 c
            refine ax_iinc hX dX11_lastOf_68 rfl (w := (v6 + (1 : Int32))) rfl (by decide) (L' := [some (.ref 105), some (.int v1), some (.int v2), some (.int v3), some (.int v4), some (.int v5), some (.int (v6 + (1 : Int32)))]) rfl ?_
            refine ax_goto hX dX11_lastOf_71 (tgt := 6) (by decide) ?_
            exact ax_forget (L' := [some (.ref 105), some (.int v1), some (.int v2), some (.int v3), some (.int v4), some (.int v5), some (.int (v6 + (1 : Int32)))]) (⟨rfl, ⟨rfl, ⟨rfl, ⟨rfl, ⟨rfl, ⟨rfl, ⟨rfl, trivial⟩⟩⟩⟩⟩⟩⟩) hyp
          · replace hyp := hyp.2 c
            refine ax_aload_n hX dX11_lastOf_59 (Or.inr ⟨_, rfl⟩) rfl ?_
            refine tx_getF hX fRX11_251 ly_105 (o := 49) (b := 154) fk_11_67 rfl (by decide) (Nat.lt_of_lt_of_le (by decide) hsz) dX11_lastOf_60 ?_
            refine ax_iload hX dX11_lastOf_63 rfl ?_
            refine tx_ial hX ly_154 (by decide) (Nat.lt_of_lt_of_le (by decide) hsz) hyp.1 dX11_lastOf_65 ?_
            replace hyp := hyp.2
            refine ax_istore hX dX11_lastOf_66 (by decide) (L' := [some (.ref 105), some (.int v1), some (.int v2), some (.int v3), some (.int v4), some (.int (T1.1 154 (v6.toNatClampNeg))), some (.int v6)]) rfl ?_
            refine ax_iinc hX dX11_lastOf_68 rfl (w := (v6 + (1 : Int32))) rfl (by decide) (L' := [some (.ref 105), some (.int v1), some (.int v2), some (.int v3), some (.int v4), some (.int (T1.1 154 (v6.toNatClampNeg))), some (.int (v6 + (1 : Int32)))]) rfl ?_
            refine ax_goto hX dX11_lastOf_71 (tgt := 6) (by decide) ?_
            exact ax_forget (L' := [some (.ref 105), some (.int v1), some (.int v2), some (.int v3), some (.int v4), some (.int (T1.1 154 (v6.toNatClampNeg))), some (.int (v6 + (1 : Int32)))]) (⟨rfl, ⟨rfl, ⟨rfl, ⟨rfl, ⟨rfl, ⟨rfl, ⟨rfl, trivial⟩⟩⟩⟩⟩⟩⟩) hyp
set_option maxRecDepth 10000 in
theorem s_X11_later_0 {X : ax_X} {d L sz : Nat} {T : tT} {Q : Int32 → tT → Prop} (hX : ax_ok X mX11_later d) (hR : ax_Ret X mX11_later (ti L sz Q)) (hsz : 161 ≤ sz) (x0 : Int32) (hyp : ((x0 < 0 → Q (-1 : Int32) T) ∧ (¬ x0 < 0 → (((1000 : Int32) < x0 → Q (-1 : Int32) T) ∧ (¬ (1000 : Int32) < x0 → ((((T.1 105 71) + x0) ≤ (100000 : Int32) → Q ((T.1 105 71) + x0) (tI T 105 71 ((T.1 105 71) + x0))) ∧ (¬ ((T.1 105 71) + x0) ≤ (100000 : Int32) → Q (-1 : Int32) T))))))) : ax_j X 0 [some (.ref 105), some (.int x0)] [] (th L sz T) 0 0 := by
  refine ax_iload_n hX dX11_later_0 rfl ?_
  refine ax_if_lt hX dX11_later_1 (tgt := 23) (by decide) (fun c => ?_) (fun c => ?_)
  · replace hyp := hyp.1 c
    refine ax_iconst hX dX11_later_23 (v := -1) (by decide) ?_
    exact hR.1 _ _ _ _ _ _ (by decide) (by decide) dX11_later_24 ⟨_, rfl, rfl⟩ ⟨_, _, rfl, rfl, hyp⟩
  · replace hyp := hyp.2 c
    refine ax_iload_n hX dX11_later_4 rfl ?_
    refine ax_sipush hX dX11_later_5 (v := 1000) (by decide) ?_
    refine ax_icmp_gt hX dX11_later_8 (tgt := 23) (by decide) (fun c => ?_) (fun c => ?_)
    · replace hyp := hyp.1 c
      refine ax_iconst hX dX11_later_23 (v := -1) (by decide) ?_
      exact hR.1 _ _ _ _ _ _ (by decide) (by decide) dX11_later_24 ⟨_, rfl, rfl⟩ ⟨_, _, rfl, rfl, hyp⟩
    · replace hyp := hyp.2 c
      refine ax_aload_n hX dX11_later_11 (Or.inr ⟨_, rfl⟩) rfl ?_
      refine tx_getI hX fRX11_438 ly_105 fk_11_71 (by decide) (Nat.lt_of_lt_of_le (by decide) hsz) dX11_later_12 ?_
      refine ax_iload_n hX dX11_later_15 rfl ?_
      refine ax_iadd hX dX11_later_16 ?_
      refine ax_ldcw hX vRX11_441 dX11_later_17 ?_
      refine ax_icmp_le hX dX11_later_20 (tgt := 25) (by decide) (fun c => ?_) (fun c => ?_)
      · replace hyp := hyp.1 c
        refine ax_aload_n hX dX11_later_25 (Or.inr ⟨_, rfl⟩) rfl ?_
        refine ax_dup hX dX11_later_26 rfl ?_
        refine tx_getI hX fRX11_438 ly_105 fk_11_71 (by decide) (Nat.lt_of_lt_of_le (by decide) hsz) dX11_later_27 ?_
        refine ax_iload_n hX dX11_later_30 rfl ?_
        refine ax_iadd hX dX11_later_31 ?_
        refine tx_putI hX fRX11_438 ly_105 fk_11_71 (by decide) (Nat.lt_of_lt_of_le (by decide) hsz) rfl rfl dX11_later_32 ?_
        refine ax_aload_n hX dX11_later_35 (Or.inr ⟨_, rfl⟩) rfl ?_
        refine tx_getI hX fRX11_438 ly_105 fk_11_71 (by decide) (Nat.lt_of_lt_of_le (by decide) hsz) dX11_later_36 ?_
        exact hR.1 _ _ _ _ _ _ (by decide) (by decide) dX11_later_39 ⟨_, rfl, rfl⟩ ⟨_, _, rfl, rfl, hyp⟩
      · replace hyp := hyp.2 c
        refine ax_iconst hX dX11_later_23 (v := -1) (by decide) ?_
        exact hR.1 _ _ _ _ _ _ (by decide) (by decide) dX11_later_24 ⟨_, rfl, rfl⟩ ⟨_, _, rfl, rfl, hyp⟩
set_option maxRecDepth 10000 in
theorem s_X11_leaf_0 {X : ax_X} {d L sz : Nat} {T : tT} {Q : Int32 → tT → Prop} (hX : ax_ok X mX11_leaf (d + 1)) (hR : ax_Ret X mX11_leaf (ti L sz Q)) (hsz : 161 ≤ sz) (x0 : Int32) (x1 : Int32) (x2 : Int32) (x3 : Int32) (hyp : (x0 = 97 → vp_in x3 40 ∧ Q (T.1 135 (x3.toNatClampNeg)) T) ∧ (x0 = 99 → vp_in x3 40 ∧ Q (T.1 137 (x3.toNatClampNeg)) T) ∧ (x0 = 108 → ∃ Q1, tiK d mX11_inList [.ref 105, .int x3, .int (((6 : Int32) * x2) + x1)] L sz T Q1 ∧ ∀ (r1 : Int32) (T1 : tT), Q1 r1 T1 → (Q r1 T1)) ∧ (x0 = 110 → Q x1 T) ∧ (x0 = 111 → ∃ Q1, tiK d mX11_inNone [.ref 105, .int x3, .int x2] L sz T Q1 ∧ ∀ (r2 : Int32) (T2 : tT), Q1 r2 T2 → (Q r2 T2)) ∧ (x0 = 112 → vp_in x1 6 ∧ Q (T.1 141 (x1.toNatClampNeg)) T) ∧ (x0 = 116 → ∃ Q1, tiK d mX11_total [.ref 105, .int x2] L sz T Q1 ∧ ∀ (r3 : Int32) (T3 : tT), Q1 r3 T3 → (Q r3 T3)) ∧ (¬ x0 = 97 → ¬ x0 = 99 → ¬ x0 = 108 → ¬ x0 = 110 → ¬ x0 = 111 → ¬ x0 = 112 → ¬ x0 = 116 → ∃ Q1, tiK d mX11_leastMark [.ref 105, .int x2] L sz T Q1 ∧ ∀ (r4 : Int32) (T4 : tT), Q1 r4 T4 → (Q r4 T4))) : ax_j X 0 [some (.ref 105), some (.int x0), some (.int x1), some (.int x2), some (.int x3)] [] (th L sz T) 0 0 := by
  refine ax_iload_n hX dX11_leaf_0 rfl ?_
  by_cases q0 : x0 = 97
  · replace hyp := hyp.1 q0
    refine ax_tableIn hX dX11_leaf_1 (by rw [q0]; decide) (by rw [q0]; decide) (off := 126) (by rw [q0]; rfl) (tgt := 127) (by decide) ?_
    refine ax_aload_n hX dX11_leaf_127 (Or.inr ⟨_, rfl⟩) rfl ?_
    refine tx_getF hX fRX11_194 ly_105 (o := 30) (b := 135) fk_11_43 rfl (by decide) (Nat.lt_of_lt_of_le (by decide) hsz) dX11_leaf_128 ?_
    refine ax_iload hX dX11_leaf_131 rfl ?_
    refine tx_ial hX ly_135 (by decide) (Nat.lt_of_lt_of_le (by decide) hsz) hyp.1 dX11_leaf_133 ?_
    replace hyp := hyp.2
    exact hR.1 _ _ _ _ _ _ (by decide) (by decide) dX11_leaf_134 ⟨_, rfl, rfl⟩ ⟨_, _, rfl, rfl, hyp⟩
  by_cases q1 : x0 = 99
  · replace hyp := hyp.2.1 q1
    refine ax_tableIn hX dX11_leaf_1 (by rw [q1]; decide) (by rw [q1]; decide) (off := 118) (by rw [q1]; rfl) (tgt := 119) (by decide) ?_
    refine ax_aload_n hX dX11_leaf_119 (Or.inr ⟨_, rfl⟩) rfl ?_
    refine tx_getF hX fRX11_200 ly_105 (o := 32) (b := 137) fk_11_45 rfl (by decide) (Nat.lt_of_lt_of_le (by decide) hsz) dX11_leaf_120 ?_
    refine ax_iload hX dX11_leaf_123 rfl ?_
    refine tx_ial hX ly_137 (by decide) (Nat.lt_of_lt_of_le (by decide) hsz) hyp.1 dX11_leaf_125 ?_
    replace hyp := hyp.2
    exact hR.1 _ _ _ _ _ _ (by decide) (by decide) dX11_leaf_126 ⟨_, rfl, rfl⟩ ⟨_, _, rfl, rfl, hyp⟩
  by_cases q2 : x0 = 108
  · replace hyp := hyp.2.2.1 q2
    refine ax_tableIn hX dX11_leaf_1 (by rw [q2]; decide) (by rw [q2]; decide) (off := 97) (by rw [q2]; rfl) (tgt := 98) (by decide) ?_
    refine ax_aload_n hX dX11_leaf_98 (Or.inr ⟨_, rfl⟩) rfl ?_
    refine ax_iload hX dX11_leaf_99 rfl ?_
    refine ax_bipush hX dX11_leaf_101 (v := 6) (by decide) ?_
    refine ax_iload_n hX dX11_leaf_103 rfl ?_
    refine ax_imul hX dX11_leaf_104 ?_
    refine ax_iload_n hX dX11_leaf_105 rfl ?_
    refine ax_iadd hX dX11_leaf_106 ?_
    obtain ⟨Q1, hK, hyp⟩ := hyp
    refine ax_callV hX lRX11_376 im_X11_inList sl_X11_inList cw_X11_inList ((th_at (by decide) (Nat.lt_of_lt_of_le (by decide) hsz)).trans (tc_ob ly_105)) rfl rfl (A := [.int x3, .int (((6 : Int32) * x2) + x1)]) (st := []) rfl rfl (Nat.le_of_ble_eq_true rfl) (by decide) (by decide) dX11_leaf_107 hK ?_
    rintro _ _ ⟨r1, T1, rfl, rfl, hq⟩
    replace hyp := hyp r1 T1 hq
    exact hR.1 _ _ _ _ _ _ (by decide) (by decide) dX11_leaf_110 ⟨_, rfl, rfl⟩ ⟨_, _, rfl, rfl, hyp⟩
  by_cases q3 : x0 = 110
  · replace hyp := hyp.2.2.2.1 q3
    refine ax_tableIn hX dX11_leaf_1 (by rw [q3]; decide) (by rw [q3]; decide) (off := 95) (by rw [q3]; rfl) (tgt := 96) (by decide) ?_
    refine ax_iload_n hX dX11_leaf_96 rfl ?_
    exact hR.1 _ _ _ _ _ _ (by decide) (by decide) dX11_leaf_97 ⟨_, rfl, rfl⟩ ⟨_, _, rfl, rfl, hyp⟩
  by_cases q4 : x0 = 111
  · replace hyp := hyp.2.2.2.2.1 q4
    refine ax_tableIn hX dX11_leaf_1 (by rw [q4]; decide) (by rw [q4]; decide) (off := 110) (by rw [q4]; rfl) (tgt := 111) (by decide) ?_
    refine ax_aload_n hX dX11_leaf_111 (Or.inr ⟨_, rfl⟩) rfl ?_
    refine ax_iload hX dX11_leaf_112 rfl ?_
    refine ax_iload_n hX dX11_leaf_114 rfl ?_
    obtain ⟨Q1, hK, hyp⟩ := hyp
    refine ax_callV hX lRX11_379 im_X11_inNone sl_X11_inNone cw_X11_inNone ((th_at (by decide) (Nat.lt_of_lt_of_le (by decide) hsz)).trans (tc_ob ly_105)) rfl rfl (A := [.int x3, .int x2]) (st := []) rfl rfl (Nat.le_of_ble_eq_true rfl) (by decide) (by decide) dX11_leaf_115 hK ?_
    rintro _ _ ⟨r2, T2, rfl, rfl, hq⟩
    replace hyp := hyp r2 T2 hq
    exact hR.1 _ _ _ _ _ _ (by decide) (by decide) dX11_leaf_118 ⟨_, rfl, rfl⟩ ⟨_, _, rfl, rfl, hyp⟩
  by_cases q5 : x0 = 112
  · replace hyp := hyp.2.2.2.2.2.1 q5
    refine ax_tableIn hX dX11_leaf_1 (by rw [q5]; decide) (by rw [q5]; decide) (off := 134) (by rw [q5]; rfl) (tgt := 135) (by decide) ?_
    refine ax_aload_n hX dX11_leaf_135 (Or.inr ⟨_, rfl⟩) rfl ?_
    refine tx_getF hX fRX11_212 ly_105 (o := 36) (b := 141) fk_11_50 rfl (by decide) (Nat.lt_of_lt_of_le (by decide) hsz) dX11_leaf_136 ?_
    refine ax_iload_n hX dX11_leaf_139 rfl ?_
    refine tx_ial hX ly_141 (by decide) (Nat.lt_of_lt_of_le (by decide) hsz) hyp.1 dX11_leaf_140 ?_
    replace hyp := hyp.2
    exact hR.1 _ _ _ _ _ _ (by decide) (by decide) dX11_leaf_141 ⟨_, rfl, rfl⟩ ⟨_, _, rfl, rfl, hyp⟩
  by_cases q6 : x0 = 116
  · replace hyp := hyp.2.2.2.2.2.2.1 q6
    refine ax_tableIn hX dX11_leaf_1 (by rw [q6]; decide) (by rw [q6]; decide) (off := 141) (by rw [q6]; rfl) (tgt := 142) (by decide) ?_
    refine ax_aload_n hX dX11_leaf_142 (Or.inr ⟨_, rfl⟩) rfl ?_
    refine ax_iload_n hX dX11_leaf_143 rfl ?_
    obtain ⟨Q1, hK, hyp⟩ := hyp
    refine ax_callV hX lRX11_382 im_X11_total sl_X11_total cw_X11_total ((th_at (by decide) (Nat.lt_of_lt_of_le (by decide) hsz)).trans (tc_ob ly_105)) rfl rfl (A := [.int x2]) (st := []) rfl rfl (Nat.le_of_ble_eq_true rfl) (by decide) (by decide) dX11_leaf_144 hK ?_
    rintro _ _ ⟨r3, T3, rfl, rfl, hq⟩
    replace hyp := hyp r3 T3 hq
    exact hR.1 _ _ _ _ _ _ (by decide) (by decide) dX11_leaf_147 ⟨_, rfl, rfl⟩ ⟨_, _, rfl, rfl, hyp⟩
  replace hyp := hyp.2.2.2.2.2.2.2 q0 q1 q2 q3 q4 q5 q6
  have z0 := lv_neT (a := 97) q0 rfl
  have z1 := lv_neT (a := 99) q1 rfl
  have z2 := lv_neT (a := 108) q2 rfl
  have z3 := lv_neT (a := 110) q3 rfl
  have z4 := lv_neT (a := 111) q4 rfl
  have z5 := lv_neT (a := 112) q5 rfl
  have z6 := lv_neT (a := 116) q6 rfl
  have fin : ax_j X 148 [some (.ref 105), some (.int x0), some (.int x1), some (.int x2), some (.int x3)] [] (th L sz T) 0 0 := by
    refine ax_aload_n hX dX11_leaf_148 (Or.inr ⟨_, rfl⟩) rfl ?_
    refine ax_iload_n hX dX11_leaf_149 rfl ?_
    obtain ⟨Q1, hK, hyp⟩ := hyp
    refine ax_callV hX lRX11_385 im_X11_leastMark sl_X11_leastMark cw_X11_leastMark ((th_at (by decide) (Nat.lt_of_lt_of_le (by decide) hsz)).trans (tc_ob ly_105)) rfl rfl (A := [.int x2]) (st := []) rfl rfl (Nat.le_of_ble_eq_true rfl) (by decide) (by decide) dX11_leaf_150 hK ?_
    rintro _ _ ⟨r4, T4, rfl, rfl, hq⟩
    replace hyp := hyp r4 T4 hq
    exact hR.1 _ _ _ _ _ _ (by decide) (by decide) dX11_leaf_153 ⟨_, rfl, rfl⟩ ⟨_, _, rfl, rfl, hyp⟩
  rcases (show (x0.toInt < 97 ∨ 116 < x0.toInt) ∨ x0.toInt = 98 ∨ x0.toInt = 100 ∨ x0.toInt = 101 ∨ x0.toInt = 102 ∨ x0.toInt = 103 ∨ x0.toInt = 104 ∨ x0.toInt = 105 ∨ x0.toInt = 106 ∨ x0.toInt = 107 ∨ x0.toInt = 109 ∨ x0.toInt = 113 ∨ x0.toInt = 114 ∨ x0.toInt = 115 by omega) with e | e | e | e | e | e | e | e | e | e | e | e | e | e
  · exact ax_tableOut hX dX11_leaf_1 e (tgt := 148) (by decide) fin
  · exact ax_tableIn hX dX11_leaf_1 (by rw [e]; decide) (by rw [e]; decide) (off := 147) (by rw [e]; rfl) (tgt := 148) (by decide) fin
  · exact ax_tableIn hX dX11_leaf_1 (by rw [e]; decide) (by rw [e]; decide) (off := 147) (by rw [e]; rfl) (tgt := 148) (by decide) fin
  · exact ax_tableIn hX dX11_leaf_1 (by rw [e]; decide) (by rw [e]; decide) (off := 147) (by rw [e]; rfl) (tgt := 148) (by decide) fin
  · exact ax_tableIn hX dX11_leaf_1 (by rw [e]; decide) (by rw [e]; decide) (off := 147) (by rw [e]; rfl) (tgt := 148) (by decide) fin
  · exact ax_tableIn hX dX11_leaf_1 (by rw [e]; decide) (by rw [e]; decide) (off := 147) (by rw [e]; rfl) (tgt := 148) (by decide) fin
  · exact ax_tableIn hX dX11_leaf_1 (by rw [e]; decide) (by rw [e]; decide) (off := 147) (by rw [e]; rfl) (tgt := 148) (by decide) fin
  · exact ax_tableIn hX dX11_leaf_1 (by rw [e]; decide) (by rw [e]; decide) (off := 147) (by rw [e]; rfl) (tgt := 148) (by decide) fin
  · exact ax_tableIn hX dX11_leaf_1 (by rw [e]; decide) (by rw [e]; decide) (off := 147) (by rw [e]; rfl) (tgt := 148) (by decide) fin
  · exact ax_tableIn hX dX11_leaf_1 (by rw [e]; decide) (by rw [e]; decide) (off := 147) (by rw [e]; rfl) (tgt := 148) (by decide) fin
  · exact ax_tableIn hX dX11_leaf_1 (by rw [e]; decide) (by rw [e]; decide) (off := 147) (by rw [e]; rfl) (tgt := 148) (by decide) fin
  · exact ax_tableIn hX dX11_leaf_1 (by rw [e]; decide) (by rw [e]; decide) (off := 147) (by rw [e]; rfl) (tgt := 148) (by decide) fin
  · exact ax_tableIn hX dX11_leaf_1 (by rw [e]; decide) (by rw [e]; decide) (off := 147) (by rw [e]; rfl) (tgt := 148) (by decide) fin
  · exact ax_tableIn hX dX11_leaf_1 (by rw [e]; decide) (by rw [e]; decide) (off := 147) (by rw [e]; rfl) (tgt := 148) (by decide) fin
set_option maxRecDepth 10000 in
theorem s_X11_leastMark_0 {X : ax_X} {d L sz : Nat} {T : tT} {Q : Int32 → tT → Prop} (hX : ax_ok X mX11_leastMark d) (hR : ax_Ret X mX11_leastMark (ti L sz Q)) (hsz : 161 ≤ sz) (x0 : Int32) (hyp : vp_in x0 40 ∧ ((¬ (T.1 113 (x0.toNatClampNeg)) = 0 → vp_in (0 : Int32) 6 ∧ ax_j X 22 [some (.ref 105), some (.int x0), some (.int (T.1 141 (0 : Int32).toNatClampNeg)), some (.int (1 : Int32))] [] (th L sz T) 0 0) ∧ ((T.1 113 (x0.toNatClampNeg)) = 0 → ax_j X 22 [some (.ref 105), some (.int x0), some (.int (0 : Int32)), some (.int (1 : Int32))] [] (th L sz T) 0 0))) : ax_j X 0 [some (.ref 105), some (.int x0), none, none] [] (th L sz T) 0 0 := by
  refine ax_aload_n hX dX11_leastMark_0 (Or.inr ⟨_, rfl⟩) rfl ?_
  refine tx_getF hX fRX11_127 ly_105 (o := 8) (b := 113) fk_11_19 rfl (by decide) (Nat.lt_of_lt_of_le (by decide) hsz) dX11_leastMark_1 ?_
  refine ax_iload_n hX dX11_leastMark_4 rfl ?_
  refine tx_ial hX ly_113 (by decide) (Nat.lt_of_lt_of_le (by decide) hsz) hyp.1 dX11_leastMark_5 ?_
  replace hyp := hyp.2
  refine ax_if_ne hX dX11_leastMark_6 (tgt := 13) (by decide) (fun c => ?_) (fun c => ?_)
  · replace hyp := hyp.1 c
    refine ax_aload_n hX dX11_leastMark_13 (Or.inr ⟨_, rfl⟩) rfl ?_
    refine tx_getF hX fRX11_212 ly_105 (o := 36) (b := 141) fk_11_50 rfl (by decide) (Nat.lt_of_lt_of_le (by decide) hsz) dX11_leastMark_14 ?_
    refine ax_iconst hX dX11_leastMark_17 (v := 0) (by decide) ?_
    refine tx_ial hX ly_141 (by decide) (Nat.lt_of_lt_of_le (by decide) hsz) hyp.1 dX11_leastMark_18 ?_
    replace hyp := hyp.2
    refine ax_istore_n hX dX11_leastMark_19 (by decide) (L' := [some (.ref 105), some (.int x0), some (.int (T.1 141 (0 : Int32).toNatClampNeg)), none]) rfl ?_
    refine ax_iconst hX dX11_leastMark_20 (v := 1) (by decide) ?_
    refine ax_istore_n hX dX11_leastMark_21 (by decide) (L' := [some (.ref 105), some (.int x0), some (.int (T.1 141 (0 : Int32).toNatClampNeg)), some (.int (1 : Int32))]) rfl ?_
    exact ax_forget (L' := [some (.ref 105), some (.int x0), some (.int (T.1 141 (0 : Int32).toNatClampNeg)), some (.int (1 : Int32))]) (⟨rfl, ⟨rfl, ⟨rfl, ⟨rfl, trivial⟩⟩⟩⟩) hyp
  · replace hyp := hyp.2 c
    refine ax_iconst hX dX11_leastMark_9 (v := 0) (by decide) ?_
    refine ax_goto hX dX11_leastMark_10 (tgt := 19) (by decide) ?_
    refine ax_istore_n hX dX11_leastMark_19 (by decide) (L' := [some (.ref 105), some (.int x0), some (.int (0 : Int32)), none]) rfl ?_
    refine ax_iconst hX dX11_leastMark_20 (v := 1) (by decide) ?_
    refine ax_istore_n hX dX11_leastMark_21 (by decide) (L' := [some (.ref 105), some (.int x0), some (.int (0 : Int32)), some (.int (1 : Int32))]) rfl ?_
    exact ax_forget (L' := [some (.ref 105), some (.int x0), some (.int (0 : Int32)), some (.int (1 : Int32))]) (⟨rfl, ⟨rfl, ⟨rfl, ⟨rfl, trivial⟩⟩⟩⟩) hyp
set_option maxRecDepth 10000 in
theorem s_X11_leastMark_22 {X : ax_X} {d L sz : Nat} {T : tT} {Q : Int32 → tT → Prop} (hX : ax_ok X mX11_leastMark d) (hR : ax_Ret X mX11_leastMark (ti L sz Q)) (hsz : 161 ≤ sz) (v1 : Int32) (v2 : Int32) (v3 : Int32) (hyp : vp_in v1 40 ∧ (((T.1 113 (v1.toNatClampNeg)) ≤ v3 → Q v2 T) ∧ (¬ (T.1 113 (v1.toNatClampNeg)) ≤ v3 → vp_in v3 6 ∧ ((v2 ≤ (T.1 141 (v3.toNatClampNeg)) → ax_j X 22 [some (.ref 105), some (.int v1), some (.int v2), some (.int (v3 + (1 : Int32)))] [] (th L sz T) 0 0) ∧ (¬ v2 ≤ (T.1 141 (v3.toNatClampNeg)) → vp_in v3 6 ∧ ax_j X 22 [some (.ref 105), some (.int v1), some (.int (T.1 141 (v3.toNatClampNeg))), some (.int (v3 + (1 : Int32)))] [] (th L sz T) 0 0))))) : ax_j X 22 [some (.ref 105), some (.int v1), some (.int v2), some (.int v3)] [] (th L sz T) 0 0 := by
  refine ax_iload_n hX dX11_leastMark_22 rfl ?_
  refine ax_aload_n hX dX11_leastMark_23 (Or.inr ⟨_, rfl⟩) rfl ?_
  refine tx_getF hX fRX11_127 ly_105 (o := 8) (b := 113) fk_11_19 rfl (by decide) (Nat.lt_of_lt_of_le (by decide) hsz) dX11_leastMark_24 ?_
  refine ax_iload_n hX dX11_leastMark_27 rfl ?_
  refine tx_ial hX ly_113 (by decide) (Nat.lt_of_lt_of_le (by decide) hsz) hyp.1 dX11_leastMark_28 ?_
  replace hyp := hyp.2
  refine ax_icmp_ge hX dX11_leastMark_29 (tgt := 59) (by decide) (fun c => ?_) (fun c => ?_)
  · replace hyp := hyp.1 c
    refine ax_iload_n hX dX11_leastMark_59 rfl ?_
    exact hR.1 _ _ _ _ _ _ (by decide) (by decide) dX11_leastMark_60 ⟨_, rfl, rfl⟩ ⟨_, _, rfl, rfl, hyp⟩
  · replace hyp := hyp.2 c
    refine ax_aload_n hX dX11_leastMark_32 (Or.inr ⟨_, rfl⟩) rfl ?_
    refine tx_getF hX fRX11_212 ly_105 (o := 36) (b := 141) fk_11_50 rfl (by decide) (Nat.lt_of_lt_of_le (by decide) hsz) dX11_leastMark_33 ?_
    refine ax_iload_n hX dX11_leastMark_36 rfl ?_
    refine tx_ial hX ly_141 (by decide) (Nat.lt_of_lt_of_le (by decide) hsz) hyp.1 dX11_leastMark_37 ?_
    replace hyp := hyp.2
    refine ax_iload_n hX dX11_leastMark_38 rfl ?_
    refine ax_icmp_ge hX dX11_leastMark_39 (tgt := 51) (by decide) (fun c => ?_) (fun c => ?_)
    · replace hyp := hyp.1 c
      refine ax_iload_n hX dX11_leastMark_51 rfl ?_
      refine ax_istore_n hX dX11_leastMark_52 (by decide) (L' := [some (.ref 105), some (.int v1), some (.int v2), some (.int v3)]) rfl ?_
      refine ax_iinc hX dX11_leastMark_53 rfl (w := (v3 + (1 : Int32))) rfl (by decide) (L' := [some (.ref 105), some (.int v1), some (.int v2), some (.int (v3 + (1 : Int32)))]) rfl ?_
      refine ax_goto hX dX11_leastMark_56 (tgt := 22) (by decide) ?_
      exact ax_forget (L' := [some (.ref 105), some (.int v1), some (.int v2), some (.int (v3 + (1 : Int32)))]) (⟨rfl, ⟨rfl, ⟨rfl, ⟨rfl, trivial⟩⟩⟩⟩) hyp
    · replace hyp := hyp.2 c
      refine ax_aload_n hX dX11_leastMark_42 (Or.inr ⟨_, rfl⟩) rfl ?_
      refine tx_getF hX fRX11_212 ly_105 (o := 36) (b := 141) fk_11_50 rfl (by decide) (Nat.lt_of_lt_of_le (by decide) hsz) dX11_leastMark_43 ?_
      refine ax_iload_n hX dX11_leastMark_46 rfl ?_
      refine tx_ial hX ly_141 (by decide) (Nat.lt_of_lt_of_le (by decide) hsz) hyp.1 dX11_leastMark_47 ?_
      replace hyp := hyp.2
      refine ax_goto hX dX11_leastMark_48 (tgt := 52) (by decide) ?_
      refine ax_istore_n hX dX11_leastMark_52 (by decide) (L' := [some (.ref 105), some (.int v1), some (.int (T.1 141 (v3.toNatClampNeg))), some (.int v3)]) rfl ?_
      refine ax_iinc hX dX11_leastMark_53 rfl (w := (v3 + (1 : Int32))) rfl (by decide) (L' := [some (.ref 105), some (.int v1), some (.int (T.1 141 (v3.toNatClampNeg))), some (.int (v3 + (1 : Int32)))]) rfl ?_
      refine ax_goto hX dX11_leastMark_56 (tgt := 22) (by decide) ?_
      exact ax_forget (L' := [some (.ref 105), some (.int v1), some (.int (T.1 141 (v3.toNatClampNeg))), some (.int (v3 + (1 : Int32)))]) (⟨rfl, ⟨rfl, ⟨rfl, ⟨rfl, trivial⟩⟩⟩⟩) hyp
set_option maxRecDepth 10000 in
theorem s_X11_listOf_0 {X : ax_X} {d L sz : Nat} {T : tT} {Q : Int32 → tT → Prop} (hX : ax_ok X mX11_listOf d) (hR : ax_Ret X mX11_listOf (ti L sz Q)) (hsz : 161 ≤ sz) (x0 : Int32) (x1 : Int64) (hyp : ax_j X 3 [some (.ref 105), some (.int x0), some (.long x1), none, some (.int (0 : Int32))] [] (th L sz T) 0 0) : ax_j X 0 [some (.ref 105), some (.int x0), some (.long x1), none, none] [] (th L sz T) 0 0 := by
  refine ax_iconst hX dX11_listOf_0 (v := 0) (by decide) ?_
  refine ax_istore hX dX11_listOf_1 (by decide) (L' := [some (.ref 105), some (.int x0), some (.long x1), none, some (.int (0 : Int32))]) rfl ?_
  exact ax_forget (L' := [some (.ref 105), some (.int x0), some (.long x1), none, some (.int (0 : Int32))]) (⟨rfl, ⟨rfl, ⟨rfl, ⟨rfl, trivial⟩⟩⟩⟩) hyp
set_option maxRecDepth 10000 in
theorem s_X11_listOf_3 {X : ax_X} {d L sz : Nat} {T : tT} {Q : Int32 → tT → Prop} (hX : ax_ok X mX11_listOf d) (hR : ax_Ret X mX11_listOf (ti L sz Q)) (hsz : 161 ≤ sz) (v1 : Int32) (v2 : Int64) (v4 : Int32) (hyp : vp_in v1 40 ∧ (((T.1 111 (v1.toNatClampNeg)) ≤ v4 → Q (-1 : Int32) T) ∧ (¬ (T.1 111 (v1.toNatClampNeg)) ≤ v4 → vp_in (((6 : Int32) * v1) + v4) 240 ∧ ((¬ (T.2.1 126 (((6 : Int32) * v1) + v4).toNatClampNeg) = v2 → ax_j X 3 [some (.ref 105), some (.int v1), some (.long v2), none, some (.int (v4 + (1 : Int32)))] [] (th L sz T) 0 0) ∧ ((T.2.1 126 (((6 : Int32) * v1) + v4).toNatClampNeg) = v2 → Q v4 T))))) : ax_j X 3 [some (.ref 105), some (.int v1), some (.long v2), none, some (.int v4)] [] (th L sz T) 0 0 := by
  refine ax_iload hX dX11_listOf_3 rfl ?_
  refine ax_aload_n hX dX11_listOf_5 (Or.inr ⟨_, rfl⟩) rfl ?_
  refine tx_getF hX fRX11_121 ly_105 (o := 6) (b := 111) fk_11_17 rfl (by decide) (Nat.lt_of_lt_of_le (by decide) hsz) dX11_listOf_6 ?_
  refine ax_iload_n hX dX11_listOf_9 rfl ?_
  refine tx_ial hX ly_111 (by decide) (Nat.lt_of_lt_of_le (by decide) hsz) hyp.1 dX11_listOf_10 ?_
  replace hyp := hyp.2
  refine ax_icmp_ge hX dX11_listOf_11 (tgt := 40) (by decide) (fun c => ?_) (fun c => ?_)
  · replace hyp := hyp.1 c
    refine ax_iconst hX dX11_listOf_40 (v := -1) (by decide) ?_
    exact hR.1 _ _ _ _ _ _ (by decide) (by decide) dX11_listOf_41 ⟨_, rfl, rfl⟩ ⟨_, _, rfl, rfl, hyp⟩
  · replace hyp := hyp.2 c
    refine ax_aload_n hX dX11_listOf_14 (Or.inr ⟨_, rfl⟩) rfl ?_
    refine tx_getF hX fRX11_166 ly_105 (o := 21) (b := 126) fk_11_32 rfl (by decide) (Nat.lt_of_lt_of_le (by decide) hsz) dX11_listOf_15 ?_
    refine ax_bipush hX dX11_listOf_18 (v := 6) (by decide) ?_
    refine ax_iload_n hX dX11_listOf_20 rfl ?_
    refine ax_imul hX dX11_listOf_21 ?_
    refine ax_iload hX dX11_listOf_22 rfl ?_
    refine ax_iadd hX dX11_listOf_24 ?_
    refine tx_lal hX ly_126 (by decide) (Nat.lt_of_lt_of_le (by decide) hsz) hyp.1 dX11_listOf_25 ?_
    replace hyp := hyp.2
    refine ax_lload_n hX dX11_listOf_26 rfl ?_
    refine tx_lcmp_ne hX dX11_listOf_27 dX11_listOf_28 (tgt := 34) (by decide) (fun c => ?_) (fun c => ?_)
    · replace hyp := hyp.1 c
      refine ax_iinc hX dX11_listOf_34 rfl (w := (v4 + (1 : Int32))) rfl (by decide) (L' := [some (.ref 105), some (.int v1), some (.long v2), none, some (.int (v4 + (1 : Int32)))]) rfl ?_
      refine ax_goto hX dX11_listOf_37 (tgt := 3) (by decide) ?_
      exact ax_forget (L' := [some (.ref 105), some (.int v1), some (.long v2), none, some (.int (v4 + (1 : Int32)))]) (⟨rfl, ⟨rfl, ⟨rfl, ⟨rfl, trivial⟩⟩⟩⟩) hyp
    · replace hyp := hyp.2 c
      refine ax_iload hX dX11_listOf_31 rfl ?_
      exact hR.1 _ _ _ _ _ _ (by decide) (by decide) dX11_listOf_33 ⟨_, rfl, rfl⟩ ⟨_, _, rfl, rfl, hyp⟩
set_option maxRecDepth 10000 in
theorem s_X11_main_0 {X : ax_X} {d L sz : Nat} {T : tT} {Q : Int32 → tT → Prop} (hX : ax_ok X mX11_main (d + 1)) (hR : ax_Ret X mX11_main (ti L sz Q)) (hsz : 161 ≤ sz) (x0 : Int32) (x1 : Int32) (hyp : ax_j X 2 [some (.ref 105), some (.int x0), some (.int x1), some (.int (0 : Int32))] [] (th L sz T) 0 0) : ax_j X 0 [some (.ref 105), some (.int x0), some (.int x1), none] [] (th L sz T) 0 0 := by
  refine ax_iconst hX dX11_main_0 (v := 0) (by decide) ?_
  refine ax_istore_n hX dX11_main_1 (by decide) (L' := [some (.ref 105), some (.int x0), some (.int x1), some (.int (0 : Int32))]) rfl ?_
  exact ax_forget (L' := [some (.ref 105), some (.int x0), some (.int x1), some (.int (0 : Int32))]) (⟨rfl, ⟨rfl, ⟨rfl, ⟨rfl, trivial⟩⟩⟩⟩) hyp
set_option maxRecDepth 10000 in
theorem s_X11_main_2 {X : ax_X} {d L sz : Nat} {T : tT} {Q : Int32 → tT → Prop} (hX : ax_ok X mX11_main (d + 1)) (hR : ax_Ret X mX11_main (ti L sz Q)) (hsz : 161 ≤ sz) (v1 : Int32) (v2 : Int32) (v3 : Int32) (hyp : (((T.1 105 70) ≤ v3 → Q (-1 : Int32) T) ∧ (¬ (T.1 105 70) ≤ v3 → vp_in v3 200 ∧ ((¬ (T.1 151 (v3.toNatClampNeg)) = v1 → ax_j X 2 [some (.ref 105), some (.int v1), some (.int v2), some (.int (v3 + (1 : Int32)))] [] (th L sz T) 0 0) ∧ ((T.1 151 (v3.toNatClampNeg)) = v1 → vp_in v3 200 ∧ (((T.1 152 (v3.toNatClampNeg)) < 0 → ax_j X 2 [some (.ref 105), some (.int v1), some (.int v2), some (.int (v3 + (1 : Int32)))] [] (th L sz T) 0 0) ∧ (¬ (T.1 152 (v3.toNatClampNeg)) < 0 → ∃ Q1, tiK d mX11_isKnown [.ref 105, .int v3, .int v2] L sz T Q1 ∧ ∀ (r1 : Int32) (T1 : tT), Q1 r1 T1 → (((r1 = 0 → ax_j X 2 [some (.ref 105), some (.int v1), some (.int v2), some (.int (v3 + (1 : Int32)))] [] (th L sz T1) 0 0) ∧ (¬ r1 = 0 → vp_in v3 200 ∧ Q (T1.1 152 (v3.toNatClampNeg)) T1)))))))))) : ax_j X 2 [some (.ref 105), some (.int v1), some (.int v2), some (.int v3)] [] (th L sz T) 0 0 := by
  refine ax_iload_n hX dX11_main_2 rfl ?_
  refine ax_aload_n hX dX11_main_3 (Or.inr ⟨_, rfl⟩) rfl ?_
  refine tx_getI hX fRX11_409 ly_105 fk_11_70 (by decide) (Nat.lt_of_lt_of_le (by decide) hsz) dX11_main_4 ?_
  refine ax_icmp_ge hX dX11_main_7 (tgt := 51) (by decide) (fun c => ?_) (fun c => ?_)
  · replace hyp := hyp.1 c
    refine ax_iconst hX dX11_main_51 (v := -1) (by decide) ?_
    exact hR.1 _ _ _ _ _ _ (by decide) (by decide) dX11_main_52 ⟨_, rfl, rfl⟩ ⟨_, _, rfl, rfl, hyp⟩
  · replace hyp := hyp.2 c
    refine ax_aload_n hX dX11_main_10 (Or.inr ⟨_, rfl⟩) rfl ?_
    refine tx_getF hX fRX11_242 ly_105 (o := 46) (b := 151) fk_11_64 rfl (by decide) (Nat.lt_of_lt_of_le (by decide) hsz) dX11_main_11 ?_
    refine ax_iload_n hX dX11_main_14 rfl ?_
    refine tx_ial hX ly_151 (by decide) (Nat.lt_of_lt_of_le (by decide) hsz) hyp.1 dX11_main_15 ?_
    replace hyp := hyp.2
    refine ax_iload_n hX dX11_main_16 rfl ?_
    refine ax_icmp_ne hX dX11_main_17 (tgt := 45) (by decide) (fun c => ?_) (fun c => ?_)
    · replace hyp := hyp.1 c
      refine ax_iinc hX dX11_main_45 rfl (w := (v3 + (1 : Int32))) rfl (by decide) (L' := [some (.ref 105), some (.int v1), some (.int v2), some (.int (v3 + (1 : Int32)))]) rfl ?_
      refine ax_goto hX dX11_main_48 (tgt := 2) (by decide) ?_
      exact ax_forget (L' := [some (.ref 105), some (.int v1), some (.int v2), some (.int (v3 + (1 : Int32)))]) (⟨rfl, ⟨rfl, ⟨rfl, ⟨rfl, trivial⟩⟩⟩⟩) hyp
    · replace hyp := hyp.2 c
      refine ax_aload_n hX dX11_main_20 (Or.inr ⟨_, rfl⟩) rfl ?_
      refine tx_getF hX fRX11_245 ly_105 (o := 47) (b := 152) fk_11_65 rfl (by decide) (Nat.lt_of_lt_of_le (by decide) hsz) dX11_main_21 ?_
      refine ax_iload_n hX dX11_main_24 rfl ?_
      refine tx_ial hX ly_152 (by decide) (Nat.lt_of_lt_of_le (by decide) hsz) hyp.1 dX11_main_25 ?_
      replace hyp := hyp.2
      refine ax_if_lt hX dX11_main_26 (tgt := 45) (by decide) (fun c => ?_) (fun c => ?_)
      · replace hyp := hyp.1 c
        refine ax_iinc hX dX11_main_45 rfl (w := (v3 + (1 : Int32))) rfl (by decide) (L' := [some (.ref 105), some (.int v1), some (.int v2), some (.int (v3 + (1 : Int32)))]) rfl ?_
        refine ax_goto hX dX11_main_48 (tgt := 2) (by decide) ?_
        exact ax_forget (L' := [some (.ref 105), some (.int v1), some (.int v2), some (.int (v3 + (1 : Int32)))]) (⟨rfl, ⟨rfl, ⟨rfl, ⟨rfl, trivial⟩⟩⟩⟩) hyp
      · replace hyp := hyp.2 c
        refine ax_aload_n hX dX11_main_29 (Or.inr ⟨_, rfl⟩) rfl ?_
        refine ax_iload_n hX dX11_main_30 rfl ?_
        refine ax_iload_n hX dX11_main_31 rfl ?_
        obtain ⟨Q1, hK, hyp⟩ := hyp
        refine ax_callV hX lRX11_448 im_X11_isKnown sl_X11_isKnown cw_X11_isKnown ((th_at (by decide) (Nat.lt_of_lt_of_le (by decide) hsz)).trans (tc_ob ly_105)) rfl rfl (A := [.int v3, .int v2]) (st := []) rfl rfl (Nat.le_of_ble_eq_true rfl) (by decide) (by decide) dX11_main_32 hK ?_
        rintro _ _ ⟨r1, T1, rfl, rfl, hq⟩
        replace hyp := hyp r1 T1 hq
        refine ax_if_eq hX dX11_main_35 (tgt := 45) (by decide) (fun c => ?_) (fun c => ?_)
        · replace hyp := hyp.1 c
          refine ax_iinc hX dX11_main_45 rfl (w := (v3 + (1 : Int32))) rfl (by decide) (L' := [some (.ref 105), some (.int v1), some (.int v2), some (.int (v3 + (1 : Int32)))]) rfl ?_
          refine ax_goto hX dX11_main_48 (tgt := 2) (by decide) ?_
          exact ax_forget (L' := [some (.ref 105), some (.int v1), some (.int v2), some (.int (v3 + (1 : Int32)))]) (⟨rfl, ⟨rfl, ⟨rfl, ⟨rfl, trivial⟩⟩⟩⟩) hyp
        · replace hyp := hyp.2 c
          refine ax_aload_n hX dX11_main_38 (Or.inr ⟨_, rfl⟩) rfl ?_
          refine tx_getF hX fRX11_245 ly_105 (o := 47) (b := 152) fk_11_65 rfl (by decide) (Nat.lt_of_lt_of_le (by decide) hsz) dX11_main_39 ?_
          refine ax_iload_n hX dX11_main_42 rfl ?_
          refine tx_ial hX ly_152 (by decide) (Nat.lt_of_lt_of_le (by decide) hsz) hyp.1 dX11_main_43 ?_
          replace hyp := hyp.2
          exact hR.1 _ _ _ _ _ _ (by decide) (by decide) dX11_main_44 ⟨_, rfl, rfl⟩ ⟨_, _, rfl, rfl, hyp⟩
set_option maxRecDepth 10000 in
theorem s_X11_mark_0 {X : ax_X} {d L sz : Nat} {T : tT} {Q : Int32 → tT → Prop} (hX : ax_ok X mX11_mark (d + 1)) (hR : ax_Ret X mX11_mark (ti L sz Q)) (hsz : 161 ≤ sz) (x0 : Int32) (x1 : Int32) (x2 : Int32) (x3 : Int32) (hyp : ∃ Q1, tiK d mX11_isExaminer [.ref 105, .int x1] L sz T Q1 ∧ ∀ (r1 : Int32) (T1 : tT), Q1 r1 T1 → (((r1 = 0 → Q (-1 : Int32) T1) ∧ (¬ r1 = 0 → ∃ Q1, tiK d mX11_tell [.ref 105, .int x0, .int x1, .int x2, .int x3] L sz T1 Q1 ∧ ∀ (r2 : Int32) (T2 : tT), Q1 r2 T2 → (Q r2 T2))))) : ax_j X 0 [some (.ref 105), some (.int x0), some (.int x1), some (.int x2), some (.int x3)] [] (th L sz T) 0 0 := by
  refine ax_aload_n hX dX11_mark_0 (Or.inr ⟨_, rfl⟩) rfl ?_
  refine ax_iload_n hX dX11_mark_1 rfl ?_
  obtain ⟨Q1, hK, hyp⟩ := hyp
  refine ax_callV hX lRX11_416 im_X11_isExaminer sl_X11_isExaminer cw_X11_isExaminer ((th_at (by decide) (Nat.lt_of_lt_of_le (by decide) hsz)).trans (tc_ob ly_105)) rfl rfl (A := [.int x1]) (st := []) rfl rfl (Nat.le_of_ble_eq_true rfl) (by decide) (by decide) dX11_mark_2 hK ?_
  rintro _ _ ⟨r1, T1, rfl, rfl, hq⟩
  replace hyp := hyp r1 T1 hq
  refine ax_if_eq hX dX11_mark_5 (tgt := 20) (by decide) (fun c => ?_) (fun c => ?_)
  · replace hyp := hyp.1 c
    refine ax_iconst hX dX11_mark_20 (v := -1) (by decide) ?_
    exact hR.1 _ _ _ _ _ _ (by decide) (by decide) dX11_mark_21 ⟨_, rfl, rfl⟩ ⟨_, _, rfl, rfl, hyp⟩
  · replace hyp := hyp.2 c
    refine ax_aload_n hX dX11_mark_8 (Or.inr ⟨_, rfl⟩) rfl ?_
    refine ax_iload_n hX dX11_mark_9 rfl ?_
    refine ax_iload_n hX dX11_mark_10 rfl ?_
    refine ax_iload_n hX dX11_mark_11 rfl ?_
    refine ax_iload hX dX11_mark_12 rfl ?_
    obtain ⟨Q1, hK, hyp⟩ := hyp
    refine ax_callV hX lRX11_442 im_X11_tell sl_X11_tell cw_X11_tell ((th_at (by decide) (Nat.lt_of_lt_of_le (by decide) hsz)).trans (tc_ob ly_105)) rfl rfl (A := [.int x0, .int x1, .int x2, .int x3]) (st := []) rfl rfl (Nat.le_of_ble_eq_true rfl) (by decide) (by decide) dX11_mark_14 hK ?_
    rintro _ _ ⟨r2, T2, rfl, rfl, hq⟩
    replace hyp := hyp r2 T2 hq
    refine ax_goto hX dX11_mark_17 (tgt := 21) (by decide) ?_
    exact hR.1 _ _ _ _ _ _ (by decide) (by decide) dX11_mark_21 ⟨_, rfl, rfl⟩ ⟨_, _, rfl, rfl, hyp⟩
set_option maxRecDepth 10000 in
theorem s_X11_may_0 {X : ax_X} {d L sz : Nat} {T : tT} {Q : Int32 → tT → Prop} (hX : ax_ok X mX11_may (d + 1)) (hR : ax_Ret X mX11_may (ti L sz Q)) (hsz : 161 ≤ sz) (x0 : Int32) (x1 : Int32) (hyp : ∃ Q1, tiK d mX11_isExaminer [.ref 105, .int x0] L sz T Q1 ∧ ∀ (r1 : Int32) (T1 : tT), Q1 r1 T1 → (((r1 = 0 → Q (-1 : Int32) T1) ∧ (¬ r1 = 0 → ∃ Q1, tiK d mX11_isSession [.ref 105, .int x1] L sz T1 Q1 ∧ ∀ (r2 : Int32) (T2 : tT), Q1 r2 T2 → (((¬ r2 = 0 → ∃ Q1, tiK d mX11_mayTake [.ref 105, .int x0, .int x1] L sz T2 Q1 ∧ ∀ (r3 : Int32) (T3 : tT), Q1 r3 T3 → (((r3 = 0 → Q (0 : Int32) T3) ∧ (¬ r3 = 0 → Q (1 : Int32) T3)))) ∧ (r2 = 0 → Q (-1 : Int32) T2))))))) : ax_j X 0 [some (.ref 105), some (.int x0), some (.int x1)] [] (th L sz T) 0 0 := by
  refine ax_aload_n hX dX11_may_0 (Or.inr ⟨_, rfl⟩) rfl ?_
  refine ax_iload_n hX dX11_may_1 rfl ?_
  obtain ⟨Q1, hK, hyp⟩ := hyp
  refine ax_callV hX lRX11_416 im_X11_isExaminer sl_X11_isExaminer cw_X11_isExaminer ((th_at (by decide) (Nat.lt_of_lt_of_le (by decide) hsz)).trans (tc_ob ly_105)) rfl rfl (A := [.int x0]) (st := []) rfl rfl (Nat.le_of_ble_eq_true rfl) (by decide) (by decide) dX11_may_2 hK ?_
  rintro _ _ ⟨r1, T1, rfl, rfl, hq⟩
  replace hyp := hyp r1 T1 hq
  refine ax_if_eq hX dX11_may_5 (tgt := 16) (by decide) (fun c => ?_) (fun c => ?_)
  · replace hyp := hyp.1 c
    refine ax_iconst hX dX11_may_16 (v := -1) (by decide) ?_
    refine ax_goto hX dX11_may_17 (tgt := 34) (by decide) ?_
    exact hR.1 _ _ _ _ _ _ (by decide) (by decide) dX11_may_34 ⟨_, rfl, rfl⟩ ⟨_, _, rfl, rfl, hyp⟩
  · replace hyp := hyp.2 c
    refine ax_aload_n hX dX11_may_8 (Or.inr ⟨_, rfl⟩) rfl ?_
    refine ax_iload_n hX dX11_may_9 rfl ?_
    obtain ⟨Q1, hK, hyp⟩ := hyp
    refine ax_callV hX lRX11_403 im_X11_isSession sl_X11_isSession cw_X11_isSession ((th_at (by decide) (Nat.lt_of_lt_of_le (by decide) hsz)).trans (tc_ob ly_105)) rfl rfl (A := [.int x1]) (st := []) rfl rfl (Nat.le_of_ble_eq_true rfl) (by decide) (by decide) dX11_may_10 hK ?_
    rintro _ _ ⟨r2, T2, rfl, rfl, hq⟩
    replace hyp := hyp r2 T2 hq
    refine ax_if_ne hX dX11_may_13 (tgt := 20) (by decide) (fun c => ?_) (fun c => ?_)
    · replace hyp := hyp.1 c
      refine ax_aload_n hX dX11_may_20 (Or.inr ⟨_, rfl⟩) rfl ?_
      refine ax_iload_n hX dX11_may_21 rfl ?_
      refine ax_iload_n hX dX11_may_22 rfl ?_
      obtain ⟨Q1, hK, hyp⟩ := hyp
      refine ax_callV hX lRX11_419 im_X11_mayTake sl_X11_mayTake cw_X11_mayTake ((th_at (by decide) (Nat.lt_of_lt_of_le (by decide) hsz)).trans (tc_ob ly_105)) rfl rfl (A := [.int x0, .int x1]) (st := []) rfl rfl (Nat.le_of_ble_eq_true rfl) (by decide) (by decide) dX11_may_23 hK ?_
      rintro _ _ ⟨r3, T3, rfl, rfl, hq⟩
      replace hyp := hyp r3 T3 hq
      refine ax_if_eq hX dX11_may_26 (tgt := 33) (by decide) (fun c => ?_) (fun c => ?_)
      · replace hyp := hyp.1 c
        refine ax_iconst hX dX11_may_33 (v := 0) (by decide) ?_
        exact hR.1 _ _ _ _ _ _ (by decide) (by decide) dX11_may_34 ⟨_, rfl, rfl⟩ ⟨_, _, rfl, rfl, hyp⟩
      · replace hyp := hyp.2 c
        refine ax_iconst hX dX11_may_29 (v := 1) (by decide) ?_
        refine ax_goto hX dX11_may_30 (tgt := 34) (by decide) ?_
        exact hR.1 _ _ _ _ _ _ (by decide) (by decide) dX11_may_34 ⟨_, rfl, rfl⟩ ⟨_, _, rfl, rfl, hyp⟩
    · replace hyp := hyp.2 c
      refine ax_iconst hX dX11_may_16 (v := -1) (by decide) ?_
      refine ax_goto hX dX11_may_17 (tgt := 34) (by decide) ?_
      exact hR.1 _ _ _ _ _ _ (by decide) (by decide) dX11_may_34 ⟨_, rfl, rfl⟩ ⟨_, _, rfl, rfl, hyp⟩
set_option maxRecDepth 10000 in
theorem s_X11_mayTake_0 {X : ax_X} {d L sz : Nat} {T : tT} {Q : Int32 → tT → Prop} (hX : ax_ok X mX11_mayTake (d + 1)) (hR : ax_Ret X mX11_mayTake (ti L sz Q)) (hsz : 161 ≤ sz) (x0 : Int32) (x1 : Int32) (hyp : ax_j X 2 [some (.ref 105), some (.int x0), some (.int x1), some (.int (0 : Int32))] [] (th L sz T) 0 0) : ax_j X 0 [some (.ref 105), some (.int x0), some (.int x1), none] [] (th L sz T) 0 0 := by
  refine ax_iconst hX dX11_mayTake_0 (v := 0) (by decide) ?_
  refine ax_istore_n hX dX11_mayTake_1 (by decide) (L' := [some (.ref 105), some (.int x0), some (.int x1), some (.int (0 : Int32))]) rfl ?_
  exact ax_forget (L' := [some (.ref 105), some (.int x0), some (.int x1), some (.int (0 : Int32))]) (⟨rfl, ⟨rfl, ⟨rfl, ⟨rfl, trivial⟩⟩⟩⟩) hyp
set_option maxRecDepth 10000 in
theorem s_X11_mayTake_2 {X : ax_X} {d L sz : Nat} {T : tT} {Q : Int32 → tT → Prop} (hX : ax_ok X mX11_mayTake (d + 1)) (hR : ax_Ret X mX11_mayTake (ti L sz Q)) (hsz : 161 ≤ sz) (v1 : Int32) (v2 : Int32) (v3 : Int32) (hyp : (((T.1 105 48) ≤ v3 → Q (1 : Int32) T) ∧ (¬ (T.1 105 48) ≤ v3 → vp_in v3 40 ∧ (((T.1 138 (v3.toNatClampNeg)) = v2 → vp_in v1 5 ∧ vp_in v3 40 ∧ (((((T.1 144 (v1.toNatClampNeg)) >>> ((T.1 134 (v3.toNatClampNeg)) &&& 31)) &&& (1 : Int32)) = 0 → Q (0 : Int32) T) ∧ (¬ (((T.1 144 (v1.toNatClampNeg)) >>> ((T.1 134 (v3.toNatClampNeg)) &&& 31)) &&& (1 : Int32)) = 0 → vp_in v3 40 ∧ (((T.1 136 (v3.toNatClampNeg)) = v1 → Q (0 : Int32) T) ∧ (¬ (T.1 136 (v3.toNatClampNeg)) = v1 → ∃ Q1, tiK d mX11_hasHeard [.ref 105, .int v1, .int v3] L sz T Q1 ∧ ∀ (r1 : Int32) (T1 : tT), Q1 r1 T1 → (((r1 = 0 → ax_j X 2 [some (.ref 105), some (.int v1), some (.int v2), some (.int (v3 + (1 : Int32)))] [] (th L sz T1) 0 0) ∧ (¬ r1 = 0 → Q (0 : Int32) T1)))))))) ∧ (¬ (T.1 138 (v3.toNatClampNeg)) = v2 → ax_j X 2 [some (.ref 105), some (.int v1), some (.int v2), some (.int (v3 + (1 : Int32)))] [] (th L sz T) 0 0))))) : ax_j X 2 [some (.ref 105), some (.int v1), some (.int v2), some (.int v3)] [] (th L sz T) 0 0 := by
  refine ax_iload_n hX dX11_mayTake_2 rfl ?_
  refine ax_aload_n hX dX11_mayTake_3 (Or.inr ⟨_, rfl⟩) rfl ?_
  refine tx_getI hX fRX11_354 ly_105 fk_11_48 (by decide) (Nat.lt_of_lt_of_le (by decide) hsz) dX11_mayTake_4 ?_
  refine ax_icmp_ge hX dX11_mayTake_7 (tgt := 68) (by decide) (fun c => ?_) (fun c => ?_)
  · replace hyp := hyp.1 c
    refine ax_iconst hX dX11_mayTake_68 (v := 1) (by decide) ?_
    exact hR.1 _ _ _ _ _ _ (by decide) (by decide) dX11_mayTake_69 ⟨_, rfl, rfl⟩ ⟨_, _, rfl, rfl, hyp⟩
  · replace hyp := hyp.2 c
    refine ax_aload_n hX dX11_mayTake_10 (Or.inr ⟨_, rfl⟩) rfl ?_
    refine tx_getF hX fRX11_203 ly_105 (o := 33) (b := 138) fk_11_46 rfl (by decide) (Nat.lt_of_lt_of_le (by decide) hsz) dX11_mayTake_11 ?_
    refine ax_iload_n hX dX11_mayTake_14 rfl ?_
    refine tx_ial hX ly_138 (by decide) (Nat.lt_of_lt_of_le (by decide) hsz) hyp.1 dX11_mayTake_15 ?_
    replace hyp := hyp.2
    refine ax_iload_n hX dX11_mayTake_16 rfl ?_
    refine ax_icmp_eq hX dX11_mayTake_17 (tgt := 23) (by decide) (fun c => ?_) (fun c => ?_)
    · replace hyp := hyp.1 c
      refine ax_aload_n hX dX11_mayTake_23 (Or.inr ⟨_, rfl⟩) rfl ?_
      refine tx_getF hX fRX11_221 ly_105 (o := 39) (b := 144) fk_11_53 rfl (by decide) (Nat.lt_of_lt_of_le (by decide) hsz) dX11_mayTake_24 ?_
      refine ax_iload_n hX dX11_mayTake_27 rfl ?_
      refine tx_ial hX ly_144 (by decide) (Nat.lt_of_lt_of_le (by decide) hsz) hyp.1 dX11_mayTake_28 ?_
      replace hyp := hyp.2
      refine ax_aload_n hX dX11_mayTake_29 (Or.inr ⟨_, rfl⟩) rfl ?_
      refine tx_getF hX fRX11_191 ly_105 (o := 29) (b := 134) fk_11_42 rfl (by decide) (Nat.lt_of_lt_of_le (by decide) hsz) dX11_mayTake_30 ?_
      refine ax_iload_n hX dX11_mayTake_33 rfl ?_
      refine tx_ial hX ly_134 (by decide) (Nat.lt_of_lt_of_le (by decide) hsz) hyp.1 dX11_mayTake_34 ?_
      replace hyp := hyp.2
      refine ax_ishr hX dX11_mayTake_35 ?_
      refine ax_iconst hX dX11_mayTake_36 (v := 1) (by decide) ?_
      refine ax_iand hX dX11_mayTake_37 ?_
      refine ax_if_eq hX dX11_mayTake_38 (tgt := 60) (by decide) (fun c => ?_) (fun c => ?_)
      · replace hyp := hyp.1 c
        refine ax_iconst hX dX11_mayTake_60 (v := 0) (by decide) ?_
        exact hR.1 _ _ _ _ _ _ (by decide) (by decide) dX11_mayTake_61 ⟨_, rfl, rfl⟩ ⟨_, _, rfl, rfl, hyp⟩
      · replace hyp := hyp.2 c
        refine ax_aload_n hX dX11_mayTake_41 (Or.inr ⟨_, rfl⟩) rfl ?_
        refine tx_getF hX fRX11_197 ly_105 (o := 31) (b := 136) fk_11_44 rfl (by decide) (Nat.lt_of_lt_of_le (by decide) hsz) dX11_mayTake_42 ?_
        refine ax_iload_n hX dX11_mayTake_45 rfl ?_
        refine tx_ial hX ly_136 (by decide) (Nat.lt_of_lt_of_le (by decide) hsz) hyp.1 dX11_mayTake_46 ?_
        replace hyp := hyp.2
        refine ax_iload_n hX dX11_mayTake_47 rfl ?_
        refine ax_icmp_eq hX dX11_mayTake_48 (tgt := 60) (by decide) (fun c => ?_) (fun c => ?_)
        · replace hyp := hyp.1 c
          refine ax_iconst hX dX11_mayTake_60 (v := 0) (by decide) ?_
          exact hR.1 _ _ _ _ _ _ (by decide) (by decide) dX11_mayTake_61 ⟨_, rfl, rfl⟩ ⟨_, _, rfl, rfl, hyp⟩
        · replace hyp := hyp.2 c
          refine ax_aload_n hX dX11_mayTake_51 (Or.inr ⟨_, rfl⟩) rfl ?_
          refine ax_iload_n hX dX11_mayTake_52 rfl ?_
          refine ax_iload_n hX dX11_mayTake_53 rfl ?_
          obtain ⟨Q1, hK, hyp⟩ := hyp
          refine ax_callV hX lRX11_412 im_X11_hasHeard sl_X11_hasHeard cw_X11_hasHeard ((th_at (by decide) (Nat.lt_of_lt_of_le (by decide) hsz)).trans (tc_ob ly_105)) rfl rfl (A := [.int v1, .int v3]) (st := []) rfl rfl (Nat.le_of_ble_eq_true rfl) (by decide) (by decide) dX11_mayTake_54 hK ?_
          rintro _ _ ⟨r1, T1, rfl, rfl, hq⟩
          replace hyp := hyp r1 T1 hq
          refine ax_if_eq hX dX11_mayTake_57 (tgt := 62) (by decide) (fun c => ?_) (fun c => ?_)
          · replace hyp := hyp.1 c
            refine ax_iinc hX dX11_mayTake_62 rfl (w := (v3 + (1 : Int32))) rfl (by decide) (L' := [some (.ref 105), some (.int v1), some (.int v2), some (.int (v3 + (1 : Int32)))]) rfl ?_
            refine ax_goto hX dX11_mayTake_65 (tgt := 2) (by decide) ?_
            exact ax_forget (L' := [some (.ref 105), some (.int v1), some (.int v2), some (.int (v3 + (1 : Int32)))]) (⟨rfl, ⟨rfl, ⟨rfl, ⟨rfl, trivial⟩⟩⟩⟩) hyp
          · replace hyp := hyp.2 c
            refine ax_iconst hX dX11_mayTake_60 (v := 0) (by decide) ?_
            exact hR.1 _ _ _ _ _ _ (by decide) (by decide) dX11_mayTake_61 ⟨_, rfl, rfl⟩ ⟨_, _, rfl, rfl, hyp⟩
    · replace hyp := hyp.2 c
      refine ax_goto hX dX11_mayTake_20 (tgt := 62) (by decide) ?_
      refine ax_iinc hX dX11_mayTake_62 rfl (w := (v3 + (1 : Int32))) rfl (by decide) (L' := [some (.ref 105), some (.int v1), some (.int v2), some (.int (v3 + (1 : Int32)))]) rfl ?_
      refine ax_goto hX dX11_mayTake_65 (tgt := 2) (by decide) ?_
      exact ax_forget (L' := [some (.ref 105), some (.int v1), some (.int v2), some (.int (v3 + (1 : Int32)))]) (⟨rfl, ⟨rfl, ⟨rfl, ⟨rfl, trivial⟩⟩⟩⟩) hyp
set_option maxRecDepth 10000 in
theorem s_X11_meant_0 {X : ax_X} {d L sz : Nat} {T : tT} {Q : tT → Prop} (hX : ax_ok X mX11_meant (d + 1)) (hR : ax_Ret X mX11_meant (tv L sz Q)) (hsz : 161 ≤ sz) (x0 : Int32) (x1 : Int32) (hyp : ((¬ (T.1 105 8) = (3 : Int32) → ((x1 = 0 → ∃ Q1, tiK d mX11_partOf [.ref 105, .int x0, .long (T.2.1 105 10)] L sz T Q1 ∧ ∀ (r1 : Int32) (T1 : tT), Q1 r1 T1 → (ax_j X 169 [some (.ref 105), none, some (.int x1), none] [.int r1] (th L sz T1) 0 0)) ∧ (¬ x1 = 0 → ∃ Q1, tiK d mX11_listOf [.ref 105, .int x0, .long (T.2.1 105 10)] L sz T Q1 ∧ ∀ (r2 : Int32) (T2 : tT), Q1 r2 T2 → (ax_j X 169 [some (.ref 105), none, some (.int x1), none] [.int r2] (th L sz T2) 0 0)))) ∧ ((T.1 105 8) = (3 : Int32) → (((T.2.1 105 10) = (7305070 : Int64) → ax_j X 42 [some (.ref 105), none, none, none] [.int x1] (th L sz T) 0 0) ∧ (¬ (T.2.1 105 10) = (7305070 : Int64) → (((T.2.1 105 10) = (123597974889843 : Int64) → ax_j X 42 [some (.ref 105), none, none, none] [.int x1] (th L sz T) 0 0) ∧ (¬ (T.2.1 105 10) = (123597974889843 : Int64) → ((¬ (T.2.1 105 10) = (6383461 : Int64) → ax_j X 47 [some (.ref 105), none, none, none] [.int (0 : Int32), .int x1] (th L sz T) 0 0) ∧ ((T.2.1 105 10) = (6383461 : Int64) → ax_j X 42 [some (.ref 105), none, none, none] [.int x1] (th L sz T) 0 0))))))))) : ax_j X 0 [some (.ref 105), some (.int x0), some (.int x1), none] [] (th L sz T) 0 0 := by
  refine ax_aload_n hX dX11_meant_0 (Or.inr ⟨_, rfl⟩) rfl ?_
  refine tx_getI hX fRX11_61 ly_105 fk_11_8 (by decide) (Nat.lt_of_lt_of_le (by decide) hsz) dX11_meant_1 ?_
  refine ax_iconst hX dX11_meant_4 (v := 3) (by decide) ?_
  refine ax_icmp_ne hX dX11_meant_5 (tgt := 144) (by decide) (fun c => ?_) (fun c => ?_)
  · replace hyp := hyp.1 c
    refine ax_iload_n hX dX11_meant_144 rfl ?_
    refine ax_if_eq hX dX11_meant_145 (tgt := 160) (by decide) (fun c => ?_) (fun c => ?_)
    · replace hyp := hyp.1 c
      refine ax_aload_n hX dX11_meant_160 (Or.inr ⟨_, rfl⟩) rfl ?_
      refine ax_iload_n hX dX11_meant_161 rfl ?_
      refine ax_aload_n hX dX11_meant_162 (Or.inr ⟨_, rfl⟩) rfl ?_
      refine tx_getJ hX fRX11_71 ly_105 fk_11_10 (by decide) (Nat.lt_of_lt_of_le (by decide) hsz) dX11_meant_163 ?_
      obtain ⟨Q1, hK, hyp⟩ := hyp
      refine ax_callV hX lRX11_312 im_X11_partOf sl_X11_partOf cw_X11_partOf ((th_at (by decide) (Nat.lt_of_lt_of_le (by decide) hsz)).trans (tc_ob ly_105)) rfl rfl (A := [.int x0, .long (T.2.1 105 10)]) (st := []) rfl rfl (Nat.le_of_ble_eq_true rfl) (by decide) (by decide) dX11_meant_166 hK ?_
      rintro _ _ ⟨r1, T1, rfl, rfl, hq⟩
      replace hyp := hyp r1 T1 hq
      exact ax_forget (L' := [some (.ref 105), none, some (.int x1), none]) (⟨rfl, ⟨rfl, trivial⟩⟩) hyp
    · replace hyp := hyp.2 c
      refine ax_aload_n hX dX11_meant_148 (Or.inr ⟨_, rfl⟩) rfl ?_
      refine ax_iload_n hX dX11_meant_149 rfl ?_
      refine ax_aload_n hX dX11_meant_150 (Or.inr ⟨_, rfl⟩) rfl ?_
      refine tx_getJ hX fRX11_71 ly_105 fk_11_10 (by decide) (Nat.lt_of_lt_of_le (by decide) hsz) dX11_meant_151 ?_
      obtain ⟨Q1, hK, hyp⟩ := hyp
      refine ax_callV hX lRX11_308 im_X11_listOf sl_X11_listOf cw_X11_listOf ((th_at (by decide) (Nat.lt_of_lt_of_le (by decide) hsz)).trans (tc_ob ly_105)) rfl rfl (A := [.int x0, .long (T.2.1 105 10)]) (st := []) rfl rfl (Nat.le_of_ble_eq_true rfl) (by decide) (by decide) dX11_meant_154 hK ?_
      rintro _ _ ⟨r2, T2, rfl, rfl, hq⟩
      replace hyp := hyp r2 T2 hq
      refine ax_goto hX dX11_meant_157 (tgt := 169) (by decide) ?_
      exact ax_forget (L' := [some (.ref 105), none, some (.int x1), none]) (⟨rfl, ⟨rfl, trivial⟩⟩) hyp
  · replace hyp := hyp.2 c
    refine ax_iload_n hX dX11_meant_8 rfl ?_
    refine ax_aload_n hX dX11_meant_9 (Or.inr ⟨_, rfl⟩) rfl ?_
    refine tx_getJ hX fRX11_71 ly_105 fk_11_10 (by decide) (Nat.lt_of_lt_of_le (by decide) hsz) dX11_meant_10 ?_
    refine ax_ldc2 hX vRX11_17 dX11_meant_13 ?_
    refine tx_lcmp_eq hX dX11_meant_16 dX11_meant_17 (tgt := 42) (by decide) (fun c => ?_) (fun c => ?_)
    · replace hyp := hyp.1 c
      exact ax_forget (L' := [some (.ref 105), none, none, none]) (⟨rfl, trivial⟩) hyp
    · replace hyp := hyp.2 c
      refine ax_aload_n hX dX11_meant_20 (Or.inr ⟨_, rfl⟩) rfl ?_
      refine tx_getJ hX fRX11_71 ly_105 fk_11_10 (by decide) (Nat.lt_of_lt_of_le (by decide) hsz) dX11_meant_21 ?_
      refine ax_ldc2 hX vRX11_19 dX11_meant_24 ?_
      refine tx_lcmp_eq hX dX11_meant_27 dX11_meant_28 (tgt := 42) (by decide) (fun c => ?_) (fun c => ?_)
      · replace hyp := hyp.1 c
        exact ax_forget (L' := [some (.ref 105), none, none, none]) (⟨rfl, trivial⟩) hyp
      · replace hyp := hyp.2 c
        refine ax_aload_n hX dX11_meant_31 (Or.inr ⟨_, rfl⟩) rfl ?_
        refine tx_getJ hX fRX11_71 ly_105 fk_11_10 (by decide) (Nat.lt_of_lt_of_le (by decide) hsz) dX11_meant_32 ?_
        refine ax_ldc2 hX vRX11_21 dX11_meant_35 ?_
        refine tx_lcmp_ne hX dX11_meant_38 dX11_meant_39 (tgt := 46) (by decide) (fun c => ?_) (fun c => ?_)
        · replace hyp := hyp.1 c
          refine ax_iconst hX dX11_meant_46 (v := 0) (by decide) ?_
          exact ax_forget (L' := [some (.ref 105), none, none, none]) (⟨rfl, trivial⟩) hyp
        · replace hyp := hyp.2 c
          exact ax_forget (L' := [some (.ref 105), none, none, none]) (⟨rfl, trivial⟩) hyp
set_option maxRecDepth 10000 in
theorem s_X11_meant_169 {X : ax_X} {d L sz : Nat} {T : tT} {Q : tT → Prop} (hX : ax_ok X mX11_meant (d + 1)) (hR : ax_Ret X mX11_meant (tv L sz Q)) (hsz : 161 ≤ sz) (v2 : Int32) (w0 : Int32) (hyp : ((0 ≤ w0 → ((v2 = 0 → ∃ Q1, tvK d mX11_step [.ref 105, .int (112 : Int32), .int w0] L sz T Q1 ∧ ∀ (T1 : tT), Q1 T1 → (Q T1)) ∧ (¬ v2 = 0 → ∃ Q1, tvK d mX11_step [.ref 105, .int (108 : Int32), .int w0] L sz T Q1 ∧ ∀ (T2 : tT), Q1 T2 → (Q T2)))) ∧ (¬ 0 ≤ w0 → ∃ Q1, tvK d mX11_fails [.ref 105, .int (4 : Int32), .int (T.1 105 6)] L sz T Q1 ∧ ∀ (T3 : tT), Q1 T3 → (Q T3)))) : ax_j X 169 [some (.ref 105), none, some (.int v2), none] [.int w0] (th L sz T) 0 0 := by
  refine ax_istore_n hX dX11_meant_169 (by decide) (L' := [some (.ref 105), none, some (.int v2), some (.int w0)]) rfl ?_
  refine ax_iload_n hX dX11_meant_170 rfl ?_
  refine ax_if_ge hX dX11_meant_171 (tgt := 186) (by decide) (fun c => ?_) (fun c => ?_)
  · replace hyp := hyp.1 c
    refine ax_aload_n hX dX11_meant_186 (Or.inr ⟨_, rfl⟩) rfl ?_
    refine ax_iload_n hX dX11_meant_187 rfl ?_
    refine ax_if_eq hX dX11_meant_188 (tgt := 196) (by decide) (fun c => ?_) (fun c => ?_)
    · replace hyp := hyp.1 c
      refine ax_bipush hX dX11_meant_196 (v := 112) (by decide) ?_
      refine ax_iload_n hX dX11_meant_198 rfl ?_
      obtain ⟨Q1, hK, hyp⟩ := hyp
      refine ax_callV hX lRX11_342 im_X11_step sl_X11_step cw_X11_step ((th_at (by decide) (Nat.lt_of_lt_of_le (by decide) hsz)).trans (tc_ob ly_105)) rfl rfl (A := [.int (112 : Int32), .int w0]) (st := []) rfl rfl (Nat.le_of_ble_eq_true rfl) (by decide) (by decide) dX11_meant_199 hK ?_
      rintro _ _ ⟨T1, rfl, rfl, hq⟩
      replace hyp := hyp T1 hq
      exact hR.2.2.2 _ _ _ _ _ (by decide) (by decide) dX11_meant_202 rfl ⟨_, rfl, rfl, hyp⟩
    · replace hyp := hyp.2 c
      refine ax_bipush hX dX11_meant_191 (v := 108) (by decide) ?_
      refine ax_goto hX dX11_meant_193 (tgt := 198) (by decide) ?_
      refine ax_iload_n hX dX11_meant_198 rfl ?_
      obtain ⟨Q1, hK, hyp⟩ := hyp
      refine ax_callV hX lRX11_342 im_X11_step sl_X11_step cw_X11_step ((th_at (by decide) (Nat.lt_of_lt_of_le (by decide) hsz)).trans (tc_ob ly_105)) rfl rfl (A := [.int (108 : Int32), .int w0]) (st := []) rfl rfl (Nat.le_of_ble_eq_true rfl) (by decide) (by decide) dX11_meant_199 hK ?_
      rintro _ _ ⟨T2, rfl, rfl, hq⟩
      replace hyp := hyp T2 hq
      exact hR.2.2.2 _ _ _ _ _ (by decide) (by decide) dX11_meant_202 rfl ⟨_, rfl, rfl, hyp⟩
  · replace hyp := hyp.2 c
    refine ax_aload_n hX dX11_meant_174 (Or.inr ⟨_, rfl⟩) rfl ?_
    refine ax_iconst hX dX11_meant_175 (v := 4) (by decide) ?_
    refine ax_aload_n hX dX11_meant_176 (Or.inr ⟨_, rfl⟩) rfl ?_
    refine tx_getI hX fRX11_54 ly_105 fk_11_6 (by decide) (Nat.lt_of_lt_of_le (by decide) hsz) dX11_meant_177 ?_
    obtain ⟨Q1, hK, hyp⟩ := hyp
    refine ax_callV hX lRX11_81 im_X11_fails sl_X11_fails cw_X11_fails ((th_at (by decide) (Nat.lt_of_lt_of_le (by decide) hsz)).trans (tc_ob ly_105)) rfl rfl (A := [.int (4 : Int32), .int (T.1 105 6)]) (st := []) rfl rfl (Nat.le_of_ble_eq_true rfl) (by decide) (by decide) dX11_meant_180 hK ?_
    rintro _ _ ⟨T3, rfl, rfl, hq⟩
    replace hyp := hyp T3 hq
    refine ax_goto hX dX11_meant_183 (tgt := 202) (by decide) ?_
    exact hR.2.2.2 _ _ _ _ _ (by decide) (by decide) dX11_meant_202 rfl ⟨_, rfl, rfl, hyp⟩
set_option maxRecDepth 10000 in
theorem s_X11_meant_42 {X : ax_X} {d L sz : Nat} {T : tT} {Q : tT → Prop} (hX : ax_ok X mX11_meant (d + 1)) (hR : ax_Ret X mX11_meant (tv L sz Q)) (hsz : 161 ≤ sz) (w0 : Int32) (hyp : ax_j X 47 [some (.ref 105), none, none, none] [.int (1 : Int32), .int w0] (th L sz T) 0 0) : ax_j X 42 [some (.ref 105), none, none, none] [.int w0] (th L sz T) 0 0 := by
  refine ax_iconst hX dX11_meant_42 (v := 1) (by decide) ?_
  refine ax_goto hX dX11_meant_43 (tgt := 47) (by decide) ?_
  exact ax_forget (L' := [some (.ref 105), none, none, none]) (⟨rfl, trivial⟩) hyp
set_option maxRecDepth 10000 in
theorem s_X11_meant_47 {X : ax_X} {d L sz : Nat} {T : tT} {Q : tT → Prop} (hX : ax_ok X mX11_meant (d + 1)) (hR : ax_Ret X mX11_meant (tv L sz Q)) (hsz : 161 ≤ sz) (w0 : Int32) (w1 : Int32) (hyp : ((¬ w1 = w0 → ax_j X 55 [some (.ref 105), none, none, none] [.int (0 : Int32)] (th L sz T) 0 0) ∧ (w1 = w0 → ax_j X 55 [some (.ref 105), none, none, none] [.int (1 : Int32)] (th L sz T) 0 0))) : ax_j X 47 [some (.ref 105), none, none, none] [.int w0, .int w1] (th L sz T) 0 0 := by
  refine ax_icmp_ne hX dX11_meant_47 (tgt := 54) (by decide) (fun c => ?_) (fun c => ?_)
  · replace hyp := hyp.1 c
    refine ax_iconst hX dX11_meant_54 (v := 0) (by decide) ?_
    exact ax_forget (L' := [some (.ref 105), none, none, none]) (⟨rfl, trivial⟩) hyp
  · replace hyp := hyp.2 c
    refine ax_iconst hX dX11_meant_50 (v := 1) (by decide) ?_
    refine ax_goto hX dX11_meant_51 (tgt := 55) (by decide) ?_
    exact ax_forget (L' := [some (.ref 105), none, none, none]) (⟨rfl, trivial⟩) hyp
set_option maxRecDepth 10000 in
theorem s_X11_meant_55 {X : ax_X} {d L sz : Nat} {T : tT} {Q : tT → Prop} (hX : ax_ok X mX11_meant (d + 1)) (hR : ax_Ret X mX11_meant (tv L sz Q)) (hsz : 161 ≤ sz) (w0 : Int32) (hyp : ((w0 = 0 → ∃ Q1, tvK d mX11_fails [.ref 105, .int (4 : Int32), .int (T.1 105 6)] L sz T Q1 ∧ ∀ (T1 : tT), Q1 T1 → (Q T1)) ∧ (¬ w0 = 0 → ((¬ (T.2.1 105 10) = (7305070 : Int64) → ((¬ (T.2.1 105 10) = (123597974889843 : Int64) → ((¬ (T.2.1 105 10) = (6383461 : Int64) → ((¬ (T.2.1 105 10) = (500086104428 : Int64) → ∃ Q1, tvK d mX11_step [.ref 105, .int (109 : Int32), .int (0 : Int32)] L sz T Q1 ∧ ∀ (T2 : tT), Q1 T2 → (Q T2)) ∧ ((T.2.1 105 10) = (500086104428 : Int64) → ∃ Q1, tvK d mX11_step [.ref 105, .int (116 : Int32), .int (0 : Int32)] L sz T Q1 ∧ ∀ (T3 : tT), Q1 T3 → (Q T3)))) ∧ ((T.2.1 105 10) = (6383461 : Int64) → ∃ Q1, tvK d mX11_step [.ref 105, .int (97 : Int32), .int (0 : Int32)] L sz T Q1 ∧ ∀ (T4 : tT), Q1 T4 → (Q T4)))) ∧ ((T.2.1 105 10) = (123597974889843 : Int64) → ∃ Q1, tvK d mX11_step [.ref 105, .int (99 : Int32), .int (0 : Int32)] L sz T Q1 ∧ ∀ (T5 : tT), Q1 T5 → (Q T5)))) ∧ ((T.2.1 105 10) = (7305070 : Int64) → ∃ Q1, tvK d mX11_step [.ref 105, .int (111 : Int32), .int (0 : Int32)] L sz T Q1 ∧ ∀ (T6 : tT), Q1 T6 → (Q T6)))))) : ax_j X 55 [some (.ref 105), none, none, none] [.int w0] (th L sz T) 0 0 := by
  refine ax_istore_n hX dX11_meant_55 (by decide) (L' := [some (.ref 105), none, none, some (.int w0)]) rfl ?_
  refine ax_iload_n hX dX11_meant_56 rfl ?_
  refine ax_if_eq hX dX11_meant_57 (tgt := 134) (by decide) (fun c => ?_) (fun c => ?_)
  · replace hyp := hyp.1 c
    refine ax_aload_n hX dX11_meant_134 (Or.inr ⟨_, rfl⟩) rfl ?_
    refine ax_iconst hX dX11_meant_135 (v := 4) (by decide) ?_
    refine ax_aload_n hX dX11_meant_136 (Or.inr ⟨_, rfl⟩) rfl ?_
    refine tx_getI hX fRX11_54 ly_105 fk_11_6 (by decide) (Nat.lt_of_lt_of_le (by decide) hsz) dX11_meant_137 ?_
    obtain ⟨Q1, hK, hyp⟩ := hyp
    refine ax_callV hX lRX11_81 im_X11_fails sl_X11_fails cw_X11_fails ((th_at (by decide) (Nat.lt_of_lt_of_le (by decide) hsz)).trans (tc_ob ly_105)) rfl rfl (A := [.int (4 : Int32), .int (T.1 105 6)]) (st := []) rfl rfl (Nat.le_of_ble_eq_true rfl) (by decide) (by decide) dX11_meant_140 hK ?_
    rintro _ _ ⟨T1, rfl, rfl, hq⟩
    replace hyp := hyp T1 hq
    exact hR.2.2.2 _ _ _ _ _ (by decide) (by decide) dX11_meant_143 rfl ⟨_, rfl, rfl, hyp⟩
  · replace hyp := hyp.2 c
    refine ax_aload_n hX dX11_meant_60 (Or.inr ⟨_, rfl⟩) rfl ?_
    refine ax_aload_n hX dX11_meant_61 (Or.inr ⟨_, rfl⟩) rfl ?_
    refine tx_getJ hX fRX11_71 ly_105 fk_11_10 (by decide) (Nat.lt_of_lt_of_le (by decide) hsz) dX11_meant_62 ?_
    refine ax_ldc2 hX vRX11_17 dX11_meant_65 ?_
    refine tx_lcmp_ne hX dX11_meant_68 dX11_meant_69 (tgt := 77) (by decide) (fun c => ?_) (fun c => ?_)
    · replace hyp := hyp.1 c
      refine ax_aload_n hX dX11_meant_77 (Or.inr ⟨_, rfl⟩) rfl ?_
      refine tx_getJ hX fRX11_71 ly_105 fk_11_10 (by decide) (Nat.lt_of_lt_of_le (by decide) hsz) dX11_meant_78 ?_
      refine ax_ldc2 hX vRX11_19 dX11_meant_81 ?_
      refine tx_lcmp_ne hX dX11_meant_84 dX11_meant_85 (tgt := 93) (by decide) (fun c => ?_) (fun c => ?_)
      · replace hyp := hyp.1 c
        refine ax_aload_n hX dX11_meant_93 (Or.inr ⟨_, rfl⟩) rfl ?_
        refine tx_getJ hX fRX11_71 ly_105 fk_11_10 (by decide) (Nat.lt_of_lt_of_le (by decide) hsz) dX11_meant_94 ?_
        refine ax_ldc2 hX vRX11_21 dX11_meant_97 ?_
        refine tx_lcmp_ne hX dX11_meant_100 dX11_meant_101 (tgt := 109) (by decide) (fun c => ?_) (fun c => ?_)
        · replace hyp := hyp.1 c
          refine ax_aload_n hX dX11_meant_109 (Or.inr ⟨_, rfl⟩) rfl ?_
          refine tx_getJ hX fRX11_71 ly_105 fk_11_10 (by decide) (Nat.lt_of_lt_of_le (by decide) hsz) dX11_meant_110 ?_
          refine ax_ldc2 hX vRX11_23 dX11_meant_113 ?_
          refine tx_lcmp_ne hX dX11_meant_116 dX11_meant_117 (tgt := 125) (by decide) (fun c => ?_) (fun c => ?_)
          · replace hyp := hyp.1 c
            refine ax_bipush hX dX11_meant_125 (v := 109) (by decide) ?_
            refine ax_iconst hX dX11_meant_127 (v := 0) (by decide) ?_
            obtain ⟨Q1, hK, hyp⟩ := hyp
            refine ax_callV hX lRX11_342 im_X11_step sl_X11_step cw_X11_step ((th_at (by decide) (Nat.lt_of_lt_of_le (by decide) hsz)).trans (tc_ob ly_105)) rfl rfl (A := [.int (109 : Int32), .int (0 : Int32)]) (st := []) rfl rfl (Nat.le_of_ble_eq_true rfl) (by decide) (by decide) dX11_meant_128 hK ?_
            rintro _ _ ⟨T2, rfl, rfl, hq⟩
            replace hyp := hyp T2 hq
            refine ax_goto hX dX11_meant_131 (tgt := 143) (by decide) ?_
            exact hR.2.2.2 _ _ _ _ _ (by decide) (by decide) dX11_meant_143 rfl ⟨_, rfl, rfl, hyp⟩
          · replace hyp := hyp.2 c
            refine ax_bipush hX dX11_meant_120 (v := 116) (by decide) ?_
            refine ax_goto hX dX11_meant_122 (tgt := 127) (by decide) ?_
            refine ax_iconst hX dX11_meant_127 (v := 0) (by decide) ?_
            obtain ⟨Q1, hK, hyp⟩ := hyp
            refine ax_callV hX lRX11_342 im_X11_step sl_X11_step cw_X11_step ((th_at (by decide) (Nat.lt_of_lt_of_le (by decide) hsz)).trans (tc_ob ly_105)) rfl rfl (A := [.int (116 : Int32), .int (0 : Int32)]) (st := []) rfl rfl (Nat.le_of_ble_eq_true rfl) (by decide) (by decide) dX11_meant_128 hK ?_
            rintro _ _ ⟨T3, rfl, rfl, hq⟩
            replace hyp := hyp T3 hq
            refine ax_goto hX dX11_meant_131 (tgt := 143) (by decide) ?_
            exact hR.2.2.2 _ _ _ _ _ (by decide) (by decide) dX11_meant_143 rfl ⟨_, rfl, rfl, hyp⟩
        · replace hyp := hyp.2 c
          refine ax_bipush hX dX11_meant_104 (v := 97) (by decide) ?_
          refine ax_goto hX dX11_meant_106 (tgt := 127) (by decide) ?_
          refine ax_iconst hX dX11_meant_127 (v := 0) (by decide) ?_
          obtain ⟨Q1, hK, hyp⟩ := hyp
          refine ax_callV hX lRX11_342 im_X11_step sl_X11_step cw_X11_step ((th_at (by decide) (Nat.lt_of_lt_of_le (by decide) hsz)).trans (tc_ob ly_105)) rfl rfl (A := [.int (97 : Int32), .int (0 : Int32)]) (st := []) rfl rfl (Nat.le_of_ble_eq_true rfl) (by decide) (by decide) dX11_meant_128 hK ?_
          rintro _ _ ⟨T4, rfl, rfl, hq⟩
          replace hyp := hyp T4 hq
          refine ax_goto hX dX11_meant_131 (tgt := 143) (by decide) ?_
          exact hR.2.2.2 _ _ _ _ _ (by decide) (by decide) dX11_meant_143 rfl ⟨_, rfl, rfl, hyp⟩
      · replace hyp := hyp.2 c
        refine ax_bipush hX dX11_meant_88 (v := 99) (by decide) ?_
        refine ax_goto hX dX11_meant_90 (tgt := 127) (by decide) ?_
        refine ax_iconst hX dX11_meant_127 (v := 0) (by decide) ?_
        obtain ⟨Q1, hK, hyp⟩ := hyp
        refine ax_callV hX lRX11_342 im_X11_step sl_X11_step cw_X11_step ((th_at (by decide) (Nat.lt_of_lt_of_le (by decide) hsz)).trans (tc_ob ly_105)) rfl rfl (A := [.int (99 : Int32), .int (0 : Int32)]) (st := []) rfl rfl (Nat.le_of_ble_eq_true rfl) (by decide) (by decide) dX11_meant_128 hK ?_
        rintro _ _ ⟨T5, rfl, rfl, hq⟩
        replace hyp := hyp T5 hq
        refine ax_goto hX dX11_meant_131 (tgt := 143) (by decide) ?_
        exact hR.2.2.2 _ _ _ _ _ (by decide) (by decide) dX11_meant_143 rfl ⟨_, rfl, rfl, hyp⟩
    · replace hyp := hyp.2 c
      refine ax_bipush hX dX11_meant_72 (v := 111) (by decide) ?_
      refine ax_goto hX dX11_meant_74 (tgt := 127) (by decide) ?_
      refine ax_iconst hX dX11_meant_127 (v := 0) (by decide) ?_
      obtain ⟨Q1, hK, hyp⟩ := hyp
      refine ax_callV hX lRX11_342 im_X11_step sl_X11_step cw_X11_step ((th_at (by decide) (Nat.lt_of_lt_of_le (by decide) hsz)).trans (tc_ob ly_105)) rfl rfl (A := [.int (111 : Int32), .int (0 : Int32)]) (st := []) rfl rfl (Nat.le_of_ble_eq_true rfl) (by decide) (by decide) dX11_meant_128 hK ?_
      rintro _ _ ⟨T6, rfl, rfl, hq⟩
      replace hyp := hyp T6 hq
      refine ax_goto hX dX11_meant_131 (tgt := 143) (by decide) ?_
      exact hR.2.2.2 _ _ _ _ _ (by decide) (by decide) dX11_meant_143 rfl ⟨_, rfl, rfl, hyp⟩
set_option maxRecDepth 10000 in
theorem s_X11_minutesIn_0 {X : ax_X} {d L sz : Nat} {T : tT} {Q : Int32 → tT → Prop} (hX : ax_ok X mX11_minutesIn (d + 1)) (hR : ax_Ret X mX11_minutesIn (ti L sz Q)) (hsz : 161 ≤ sz) (x0 : Int32) (x1 : Int32) (hyp : ax_j X 5 [some (.ref 105), some (.int x0), some (.int x1), some (.int (0 : Int32)), some (.int (0 : Int32))] [] (th L sz T) 0 0) : ax_j X 0 [some (.ref 105), some (.int x0), some (.int x1), none, none] [] (th L sz T) 0 0 := by
  refine ax_iconst hX dX11_minutesIn_0 (v := 0) (by decide) ?_
  refine ax_istore_n hX dX11_minutesIn_1 (by decide) (L' := [some (.ref 105), some (.int x0), some (.int x1), some (.int (0 : Int32)), none]) rfl ?_
  refine ax_iconst hX dX11_minutesIn_2 (v := 0) (by decide) ?_
  refine ax_istore hX dX11_minutesIn_3 (by decide) (L' := [some (.ref 105), some (.int x0), some (.int x1), some (.int (0 : Int32)), some (.int (0 : Int32))]) rfl ?_
  exact ax_forget (L' := [some (.ref 105), some (.int x0), some (.int x1), some (.int (0 : Int32)), some (.int (0 : Int32))]) (⟨rfl, ⟨rfl, ⟨rfl, ⟨rfl, ⟨rfl, trivial⟩⟩⟩⟩⟩) hyp
set_option maxRecDepth 10000 in
theorem s_X11_minutesIn_5 {X : ax_X} {d L sz : Nat} {T : tT} {Q : Int32 → tT → Prop} (hX : ax_ok X mX11_minutesIn (d + 1)) (hR : ax_Ret X mX11_minutesIn (ti L sz Q)) (hsz : 161 ≤ sz) (v1 : Int32) (v2 : Int32) (v3 : Int32) (v4 : Int32) (hyp : (((T.1 105 48) ≤ v4 → Q v3 T) ∧ (¬ (T.1 105 48) ≤ v4 → vp_in v4 40 ∧ ((¬ (T.1 138 (v4.toNatClampNeg)) = v1 → ax_j X 5 [some (.ref 105), some (.int v1), some (.int v2), some (.int (v3 + (0 : Int32))), some (.int (v4 + (1 : Int32)))] [] (th L sz T) 0 0) ∧ ((T.1 138 (v4.toNatClampNeg)) = v1 → ((v4 = v2 → ax_j X 5 [some (.ref 105), some (.int v1), some (.int v2), some (.int (v3 + (0 : Int32))), some (.int (v4 + (1 : Int32)))] [] (th L sz T) 0 0) ∧ (¬ v4 = v2 → ∃ Q1, tiK d mX11_spotOf [.ref 105, .int v4] L sz T Q1 ∧ ∀ (r1 : Int32) (T1 : tT), Q1 r1 T1 → (∃ Q1, tiK d mX11_minutesOf [.ref 105, .int r1] L sz T1 Q1 ∧ ∀ (r2 : Int32) (T2 : tT), Q1 r2 T2 → (ax_j X 5 [some (.ref 105), some (.int v1), some (.int v2), some (.int (v3 + r2)), some (.int (v4 + (1 : Int32)))] [] (th L sz T2) 0 0))))))))) : ax_j X 5 [some (.ref 105), some (.int v1), some (.int v2), some (.int v3), some (.int v4)] [] (th L sz T) 0 0 := by
  refine ax_iload hX dX11_minutesIn_5 rfl ?_
  refine ax_aload_n hX dX11_minutesIn_7 (Or.inr ⟨_, rfl⟩) rfl ?_
  refine tx_getI hX fRX11_354 ly_105 fk_11_48 (by decide) (Nat.lt_of_lt_of_le (by decide) hsz) dX11_minutesIn_8 ?_
  refine ax_icmp_ge hX dX11_minutesIn_11 (tgt := 54) (by decide) (fun c => ?_) (fun c => ?_)
  · replace hyp := hyp.1 c
    refine ax_iload_n hX dX11_minutesIn_54 rfl ?_
    exact hR.1 _ _ _ _ _ _ (by decide) (by decide) dX11_minutesIn_55 ⟨_, rfl, rfl⟩ ⟨_, _, rfl, rfl, hyp⟩
  · replace hyp := hyp.2 c
    refine ax_iload_n hX dX11_minutesIn_14 rfl ?_
    refine ax_aload_n hX dX11_minutesIn_15 (Or.inr ⟨_, rfl⟩) rfl ?_
    refine tx_getF hX fRX11_203 ly_105 (o := 33) (b := 138) fk_11_46 rfl (by decide) (Nat.lt_of_lt_of_le (by decide) hsz) dX11_minutesIn_16 ?_
    refine ax_iload hX dX11_minutesIn_19 rfl ?_
    refine tx_ial hX ly_138 (by decide) (Nat.lt_of_lt_of_le (by decide) hsz) hyp.1 dX11_minutesIn_21 ?_
    replace hyp := hyp.2
    refine ax_iload_n hX dX11_minutesIn_22 rfl ?_
    refine ax_icmp_ne hX dX11_minutesIn_23 (tgt := 45) (by decide) (fun c => ?_) (fun c => ?_)
    · replace hyp := hyp.1 c
      refine ax_iconst hX dX11_minutesIn_45 (v := 0) (by decide) ?_
      refine ax_iadd hX dX11_minutesIn_46 ?_
      refine ax_istore_n hX dX11_minutesIn_47 (by decide) (L' := [some (.ref 105), some (.int v1), some (.int v2), some (.int (v3 + (0 : Int32))), some (.int v4)]) rfl ?_
      refine ax_iinc hX dX11_minutesIn_48 rfl (w := (v4 + (1 : Int32))) rfl (by decide) (L' := [some (.ref 105), some (.int v1), some (.int v2), some (.int (v3 + (0 : Int32))), some (.int (v4 + (1 : Int32)))]) rfl ?_
      refine ax_goto hX dX11_minutesIn_51 (tgt := 5) (by decide) ?_
      exact ax_forget (L' := [some (.ref 105), some (.int v1), some (.int v2), some (.int (v3 + (0 : Int32))), some (.int (v4 + (1 : Int32)))]) (⟨rfl, ⟨rfl, ⟨rfl, ⟨rfl, ⟨rfl, trivial⟩⟩⟩⟩⟩) hyp
    · replace hyp := hyp.2 c
      refine ax_iload hX dX11_minutesIn_26 rfl ?_
      refine ax_iload_n hX dX11_minutesIn_28 rfl ?_
      refine ax_icmp_eq hX dX11_minutesIn_29 (tgt := 45) (by decide) (fun c => ?_) (fun c => ?_)
      · replace hyp := hyp.1 c
        refine ax_iconst hX dX11_minutesIn_45 (v := 0) (by decide) ?_
        refine ax_iadd hX dX11_minutesIn_46 ?_
        refine ax_istore_n hX dX11_minutesIn_47 (by decide) (L' := [some (.ref 105), some (.int v1), some (.int v2), some (.int (v3 + (0 : Int32))), some (.int v4)]) rfl ?_
        refine ax_iinc hX dX11_minutesIn_48 rfl (w := (v4 + (1 : Int32))) rfl (by decide) (L' := [some (.ref 105), some (.int v1), some (.int v2), some (.int (v3 + (0 : Int32))), some (.int (v4 + (1 : Int32)))]) rfl ?_
        refine ax_goto hX dX11_minutesIn_51 (tgt := 5) (by decide) ?_
        exact ax_forget (L' := [some (.ref 105), some (.int v1), some (.int v2), some (.int (v3 + (0 : Int32))), some (.int (v4 + (1 : Int32)))]) (⟨rfl, ⟨rfl, ⟨rfl, ⟨rfl, ⟨rfl, trivial⟩⟩⟩⟩⟩) hyp
      · replace hyp := hyp.2 c
        refine ax_aload_n hX dX11_minutesIn_32 (Or.inr ⟨_, rfl⟩) rfl ?_
        refine ax_aload_n hX dX11_minutesIn_33 (Or.inr ⟨_, rfl⟩) rfl ?_
        refine ax_iload hX dX11_minutesIn_34 rfl ?_
        obtain ⟨Q1, hK, hyp⟩ := hyp
        refine ax_callV hX lRX11_388 im_X11_spotOf sl_X11_spotOf cw_X11_spotOf ((th_at (by decide) (Nat.lt_of_lt_of_le (by decide) hsz)).trans (tc_ob ly_105)) rfl rfl (A := [.int v4]) (st := [.ref 105, .int v3]) rfl rfl (Nat.le_of_ble_eq_true rfl) (by decide) (by decide) dX11_minutesIn_36 hK ?_
        rintro _ _ ⟨r1, T1, rfl, rfl, hq⟩
        replace hyp := hyp r1 T1 hq
        obtain ⟨Q1, hK, hyp⟩ := hyp
        refine ax_callV hX lRX11_351 im_X11_minutesOf sl_X11_minutesOf cw_X11_minutesOf ((th_at (by decide) (Nat.lt_of_lt_of_le (by decide) hsz)).trans (tc_ob ly_105)) rfl rfl (A := [.int r1]) (st := [.int v3]) rfl rfl (Nat.le_of_ble_eq_true rfl) (by decide) (by decide) dX11_minutesIn_39 hK ?_
        rintro _ _ ⟨r2, T2, rfl, rfl, hq⟩
        replace hyp := hyp r2 T2 hq
        refine ax_goto hX dX11_minutesIn_42 (tgt := 46) (by decide) ?_
        refine ax_iadd hX dX11_minutesIn_46 ?_
        refine ax_istore_n hX dX11_minutesIn_47 (by decide) (L' := [some (.ref 105), some (.int v1), some (.int v2), some (.int (v3 + r2)), some (.int v4)]) rfl ?_
        refine ax_iinc hX dX11_minutesIn_48 rfl (w := (v4 + (1 : Int32))) rfl (by decide) (L' := [some (.ref 105), some (.int v1), some (.int v2), some (.int (v3 + r2)), some (.int (v4 + (1 : Int32)))]) rfl ?_
        refine ax_goto hX dX11_minutesIn_51 (tgt := 5) (by decide) ?_
        exact ax_forget (L' := [some (.ref 105), some (.int v1), some (.int v2), some (.int (v3 + r2)), some (.int (v4 + (1 : Int32)))]) (⟨rfl, ⟨rfl, ⟨rfl, ⟨rfl, ⟨rfl, trivial⟩⟩⟩⟩⟩) hyp
set_option maxRecDepth 10000 in
theorem s_X11_minutesOf_0 {X : ax_X} {d L sz : Nat} {T : tT} {Q : Int32 → tT → Prop} (hX : ax_ok X mX11_minutesOf d) (hR : ax_Ret X mX11_minutesOf (ti L sz Q)) (hsz : 161 ≤ sz) (x0 : Int32) (hyp : ((x0 < 0 → Q (10 : Int32) T) ∧ (¬ x0 < 0 → vp_in x0 40 ∧ ((¬ (T.1 116 (x0.toNatClampNeg)) = 0 → vp_in x0 40 ∧ Q (T.1 116 (x0.toNatClampNeg)) T) ∧ ((T.1 116 (x0.toNatClampNeg)) = 0 → Q (10 : Int32) T))))) : ax_j X 0 [some (.ref 105), some (.int x0)] [] (th L sz T) 0 0 := by
  refine ax_iload_n hX dX11_minutesOf_0 rfl ?_
  refine ax_if_lt hX dX11_minutesOf_1 (tgt := 13) (by decide) (fun c => ?_) (fun c => ?_)
  · replace hyp := hyp.1 c
    refine ax_bipush hX dX11_minutesOf_13 (v := 10) (by decide) ?_
    refine ax_goto hX dX11_minutesOf_15 (tgt := 24) (by decide) ?_
    exact hR.1 _ _ _ _ _ _ (by decide) (by decide) dX11_minutesOf_24 ⟨_, rfl, rfl⟩ ⟨_, _, rfl, rfl, hyp⟩
  · replace hyp := hyp.2 c
    refine ax_aload_n hX dX11_minutesOf_4 (Or.inr ⟨_, rfl⟩) rfl ?_
    refine tx_getF hX fRX11_136 ly_105 (o := 11) (b := 116) fk_11_22 rfl (by decide) (Nat.lt_of_lt_of_le (by decide) hsz) dX11_minutesOf_5 ?_
    refine ax_iload_n hX dX11_minutesOf_8 rfl ?_
    refine tx_ial hX ly_116 (by decide) (Nat.lt_of_lt_of_le (by decide) hsz) hyp.1 dX11_minutesOf_9 ?_
    replace hyp := hyp.2
    refine ax_if_ne hX dX11_minutesOf_10 (tgt := 18) (by decide) (fun c => ?_) (fun c => ?_)
    · replace hyp := hyp.1 c
      refine ax_aload_n hX dX11_minutesOf_18 (Or.inr ⟨_, rfl⟩) rfl ?_
      refine tx_getF hX fRX11_136 ly_105 (o := 11) (b := 116) fk_11_22 rfl (by decide) (Nat.lt_of_lt_of_le (by decide) hsz) dX11_minutesOf_19 ?_
      refine ax_iload_n hX dX11_minutesOf_22 rfl ?_
      refine tx_ial hX ly_116 (by decide) (Nat.lt_of_lt_of_le (by decide) hsz) hyp.1 dX11_minutesOf_23 ?_
      replace hyp := hyp.2
      exact hR.1 _ _ _ _ _ _ (by decide) (by decide) dX11_minutesOf_24 ⟨_, rfl, rfl⟩ ⟨_, _, rfl, rfl, hyp⟩
    · replace hyp := hyp.2 c
      refine ax_bipush hX dX11_minutesOf_13 (v := 10) (by decide) ?_
      refine ax_goto hX dX11_minutesOf_15 (tgt := 24) (by decide) ?_
      exact hR.1 _ _ _ _ _ _ (by decide) (by decide) dX11_minutesOf_24 ⟨_, rfl, rfl⟩ ⟨_, _, rfl, rfl, hyp⟩
set_option maxRecDepth 10000 in
theorem s_X11_must_0 {X : ax_X} {d L sz : Nat} {T : tT} {Q : tT → Prop} (hX : ax_ok X mX11_must (d + 1)) (hR : ax_Ret X mX11_must (tv L sz Q)) (hsz : 161 ≤ sz) (x0 : Int32) (hyp : ∃ Q1, tiK d mX11_is [.ref 105, .int x0] L sz T Q1 ∧ ∀ (r1 : Int32) (T1 : tT), Q1 r1 T1 → (((r1 = 0 → ∃ Q1, tvK d mX11_wrong [.ref 105] L sz T1 Q1 ∧ ∀ (T2 : tT), Q1 T2 → (Q T2)) ∧ (¬ r1 = 0 → ∃ Q1, tvK d mX11_next [.ref 105] L sz T1 Q1 ∧ ∀ (T3 : tT), Q1 T3 → (Q T3))))) : ax_j X 0 [some (.ref 105), some (.int x0)] [] (th L sz T) 0 0 := by
  refine ax_aload_n hX dX11_must_0 (Or.inr ⟨_, rfl⟩) rfl ?_
  refine ax_iload_n hX dX11_must_1 rfl ?_
  obtain ⟨Q1, hK, hyp⟩ := hyp
  refine ax_callV hX lRX11_85 im_X11_is sl_X11_is cw_X11_is ((th_at (by decide) (Nat.lt_of_lt_of_le (by decide) hsz)).trans (tc_ob ly_105)) rfl rfl (A := [.int x0]) (st := []) rfl rfl (Nat.le_of_ble_eq_true rfl) (by decide) (by decide) dX11_must_2 hK ?_
  rintro _ _ ⟨r1, T1, rfl, rfl, hq⟩
  replace hyp := hyp r1 T1 hq
  refine ax_if_eq hX dX11_must_5 (tgt := 15) (by decide) (fun c => ?_) (fun c => ?_)
  · replace hyp := hyp.1 c
    refine ax_aload_n hX dX11_must_15 (Or.inr ⟨_, rfl⟩) rfl ?_
    obtain ⟨Q1, hK, hyp⟩ := hyp
    refine ax_callV hX lRX11_92 im_X11_wrong sl_X11_wrong cw_X11_wrong ((th_at (by decide) (Nat.lt_of_lt_of_le (by decide) hsz)).trans (tc_ob ly_105)) rfl rfl (A := []) (st := []) rfl rfl (Nat.le_of_ble_eq_true rfl) (by decide) (by decide) dX11_must_16 hK ?_
    rintro _ _ ⟨T2, rfl, rfl, hq⟩
    replace hyp := hyp T2 hq
    exact hR.2.2.2 _ _ _ _ _ (by decide) (by decide) dX11_must_19 rfl ⟨_, rfl, rfl, hyp⟩
  · replace hyp := hyp.2 c
    refine ax_aload_n hX dX11_must_8 (Or.inr ⟨_, rfl⟩) rfl ?_
    obtain ⟨Q1, hK, hyp⟩ := hyp
    refine ax_callV hX lRX11_88 im_X11_next sl_X11_next cw_X11_next ((th_at (by decide) (Nat.lt_of_lt_of_le (by decide) hsz)).trans (tc_ob ly_105)) rfl rfl (A := []) (st := []) rfl rfl (Nat.le_of_ble_eq_true rfl) (by decide) (by decide) dX11_must_9 hK ?_
    rintro _ _ ⟨T3, rfl, rfl, hq⟩
    replace hyp := hyp T3 hq
    refine ax_goto hX dX11_must_12 (tgt := 19) (by decide) ?_
    exact hR.2.2.2 _ _ _ _ _ (by decide) (by decide) dX11_must_19 rfl ⟨_, rfl, rfl, hyp⟩
set_option maxRecDepth 10000 in
theorem s_X11_next_0 {X : ax_X} {d L sz : Nat} {T : tT} {Q : tT → Prop} (hX : ax_ok X mX11_next (d + 1)) (hR : ax_Ret X mX11_next (tv L sz Q)) (hsz : 161 ≤ sz)  (hyp : ax_j X 8 [some (.ref 105), none, none] [] (th L sz (tI T 105 6 (T.1 105 7))) 0 0) : ax_j X 0 [some (.ref 105), none, none] [] (th L sz T) 0 0 := by
  refine ax_aload_n hX dX11_next_0 (Or.inr ⟨_, rfl⟩) rfl ?_
  refine ax_aload_n hX dX11_next_1 (Or.inr ⟨_, rfl⟩) rfl ?_
  refine tx_getI hX fRX11_51 ly_105 fk_11_7 (by decide) (Nat.lt_of_lt_of_le (by decide) hsz) dX11_next_2 ?_
  refine tx_putI hX fRX11_54 ly_105 fk_11_6 (by decide) (Nat.lt_of_lt_of_le (by decide) hsz) rfl rfl dX11_next_5 ?_
  exact ax_forget (L' := [some (.ref 105), none, none]) (⟨rfl, trivial⟩) hyp
set_option maxRecDepth 10000 in
theorem s_X11_next_8 {X : ax_X} {d L sz : Nat} {T : tT} {Q : tT → Prop} (hX : ax_ok X mX11_next (d + 1)) (hR : ax_Ret X mX11_next (tv L sz Q)) (hsz : 161 ≤ sz)  (hyp : (((T.1 105 3) ≤ (T.1 105 6) → ax_j X 58 [some (.ref 105), none, none] [] (th L sz T) 0 0) ∧ (¬ (T.1 105 3) ≤ (T.1 105 6) → ∃ Q1, tiK d mX11_sign [.ref 105, .int (T.1 105 6)] L sz T Q1 ∧ ∀ (r1 : Int32) (T1 : tT), Q1 r1 T1 → (((r1 = (32 : Int32) → ax_j X 45 [some (.ref 105), none, none] [] (th L sz T1) 0 0) ∧ (¬ r1 = (32 : Int32) → ∃ Q1, tiK d mX11_sign [.ref 105, .int (T1.1 105 6)] L sz T1 Q1 ∧ ∀ (r2 : Int32) (T2 : tT), Q1 r2 T2 → (((¬ r2 = (10 : Int32) → ax_j X 58 [some (.ref 105), none, none] [] (th L sz T2) 0 0) ∧ (r2 = (10 : Int32) → ax_j X 45 [some (.ref 105), none, none] [] (th L sz T2) 0 0))))))))) : ax_j X 8 [some (.ref 105), none, none] [] (th L sz T) 0 0 := by
  refine ax_aload_n hX dX11_next_8 (Or.inr ⟨_, rfl⟩) rfl ?_
  refine tx_getI hX fRX11_54 ly_105 fk_11_6 (by decide) (Nat.lt_of_lt_of_le (by decide) hsz) dX11_next_9 ?_
  refine ax_aload_n hX dX11_next_12 (Or.inr ⟨_, rfl⟩) rfl ?_
  refine tx_getI hX fRX11_1 ly_105 fk_11_3 (by decide) (Nat.lt_of_lt_of_le (by decide) hsz) dX11_next_13 ?_
  refine ax_icmp_ge hX dX11_next_16 (tgt := 58) (by decide) (fun c => ?_) (fun c => ?_)
  · replace hyp := hyp.1 c
    exact ax_forget (L' := [some (.ref 105), none, none]) (⟨rfl, trivial⟩) hyp
  · replace hyp := hyp.2 c
    refine ax_aload_n hX dX11_next_19 (Or.inr ⟨_, rfl⟩) rfl ?_
    refine ax_aload_n hX dX11_next_20 (Or.inr ⟨_, rfl⟩) rfl ?_
    refine tx_getI hX fRX11_54 ly_105 fk_11_6 (by decide) (Nat.lt_of_lt_of_le (by decide) hsz) dX11_next_21 ?_
    obtain ⟨Q1, hK, hyp⟩ := hyp
    refine ax_callV hX lRX11_57 im_X11_sign sl_X11_sign cw_X11_sign ((th_at (by decide) (Nat.lt_of_lt_of_le (by decide) hsz)).trans (tc_ob ly_105)) rfl rfl (A := [.int (T.1 105 6)]) (st := []) rfl rfl (Nat.le_of_ble_eq_true rfl) (by decide) (by decide) dX11_next_24 hK ?_
    rintro _ _ ⟨r1, T1, rfl, rfl, hq⟩
    replace hyp := hyp r1 T1 hq
    refine ax_bipush hX dX11_next_27 (v := 32) (by decide) ?_
    refine ax_icmp_eq hX dX11_next_29 (tgt := 45) (by decide) (fun c => ?_) (fun c => ?_)
    · replace hyp := hyp.1 c
      exact ax_forget (L' := [some (.ref 105), none, none]) (⟨rfl, trivial⟩) hyp
    · replace hyp := hyp.2 c
      refine ax_aload_n hX dX11_next_32 (Or.inr ⟨_, rfl⟩) rfl ?_
      refine ax_aload_n hX dX11_next_33 (Or.inr ⟨_, rfl⟩) rfl ?_
      refine tx_getI hX fRX11_54 ly_105 fk_11_6 (by decide) (Nat.lt_of_lt_of_le (by decide) hsz) dX11_next_34 ?_
      obtain ⟨Q1, hK, hyp⟩ := hyp
      refine ax_callV hX lRX11_57 im_X11_sign sl_X11_sign cw_X11_sign ((th_at (by decide) (Nat.lt_of_lt_of_le (by decide) hsz)).trans (tc_ob ly_105)) rfl rfl (A := [.int (T1.1 105 6)]) (st := []) rfl rfl (Nat.le_of_ble_eq_true rfl) (by decide) (by decide) dX11_next_37 hK ?_
      rintro _ _ ⟨r2, T2, rfl, rfl, hq⟩
      replace hyp := hyp r2 T2 hq
      refine ax_bipush hX dX11_next_40 (v := 10) (by decide) ?_
      refine ax_icmp_ne hX dX11_next_42 (tgt := 58) (by decide) (fun c => ?_) (fun c => ?_)
      · replace hyp := hyp.1 c
        exact ax_forget (L' := [some (.ref 105), none, none]) (⟨rfl, trivial⟩) hyp
      · replace hyp := hyp.2 c
        exact ax_forget (L' := [some (.ref 105), none, none]) (⟨rfl, trivial⟩) hyp
set_option maxRecDepth 10000 in
theorem s_X11_next_58 {X : ax_X} {d L sz : Nat} {T : tT} {Q : tT → Prop} (hX : ax_ok X mX11_next (d + 1)) (hR : ax_Ret X mX11_next (tv L sz Q)) (hsz : 161 ≤ sz)  (hyp : ∃ Q1, tiK d mX11_sign [.ref 105, .int (T.1 105 6)] L sz T Q1 ∧ ∀ (r1 : Int32) (T1 : tT), Q1 r1 T1 → ((((T1.1 105 6) < (T1.1 105 3) → ∃ Q1, tiK d mX11_isLetter [.int r1] L sz (tI T1 105 7 ((T1.1 105 6) + (1 : Int32))) Q1 ∧ ∀ (r2 : Int32) (T2 : tT), Q1 r2 T2 → (((r2 = 0 → ∃ Q1, tiK d mX11_isDigit [.int r1] L sz T2 Q1 ∧ ∀ (r3 : Int32) (T3 : tT), Q1 r3 T3 → (((r3 = 0 → ((r1 = (123 : Int32) → Q (tI T3 105 8 (5 : Int32))) ∧ (¬ r1 = (123 : Int32) → ((r1 = (125 : Int32) → Q (tI T3 105 8 (5 : Int32))) ∧ (¬ r1 = (125 : Int32) → ((r1 = (40 : Int32) → Q (tI T3 105 8 (5 : Int32))) ∧ (¬ r1 = (40 : Int32) → ((r1 = (41 : Int32) → Q (tI T3 105 8 (5 : Int32))) ∧ (¬ r1 = (41 : Int32) → ((r1 = (61 : Int32) → Q (tI T3 105 8 (5 : Int32))) ∧ (¬ r1 = (61 : Int32) → ((r1 = (44 : Int32) → Q (tI T3 105 8 (5 : Int32))) ∧ (¬ r1 = (44 : Int32) → ((r1 = (59 : Int32) → Q (tI T3 105 8 (5 : Int32))) ∧ (¬ r1 = (59 : Int32) → ((r1 = (60 : Int32) → Q (tI T3 105 8 (5 : Int32))) ∧ (¬ r1 = (60 : Int32) → ((r1 = (62 : Int32) → Q (tI T3 105 8 (5 : Int32))) ∧ (¬ r1 = (62 : Int32) → ((r1 = (43 : Int32) → Q (tI T3 105 8 (5 : Int32))) ∧ (¬ r1 = (43 : Int32) → ((¬ r1 = (45 : Int32) → Q (tI T3 105 8 (1 : Int32))) ∧ (r1 = (45 : Int32) → Q (tI T3 105 8 (5 : Int32))))))))))))))))))))))))) ∧ (¬ r3 = 0 → ax_j X 273 [some (.ref 105), none, none] [] (th L sz (tI (tI T3 105 9 (0 : Int32)) 105 7 (T3.1 105 6))) 0 0)))) ∧ (¬ r2 = 0 → ax_j X 119 [some (.ref 105), none, none] [] (th L sz T2) 0 0)))) ∧ (¬ (T1.1 105 6) < (T1.1 105 3) → Q (tI (tI (tI (tI T1 105 7 ((T1.1 105 6) + (1 : Int32))) 105 8 (0 : Int32)) 105 6 (T1.1 105 3)) 105 7 (T1.1 105 3)))))) : ax_j X 58 [some (.ref 105), none, none] [] (th L sz T) 0 0 := by
  refine ax_aload_n hX dX11_next_58 (Or.inr ⟨_, rfl⟩) rfl ?_
  refine ax_aload_n hX dX11_next_59 (Or.inr ⟨_, rfl⟩) rfl ?_
  refine tx_getI hX fRX11_54 ly_105 fk_11_6 (by decide) (Nat.lt_of_lt_of_le (by decide) hsz) dX11_next_60 ?_
  obtain ⟨Q1, hK, hyp⟩ := hyp
  refine ax_callV hX lRX11_57 im_X11_sign sl_X11_sign cw_X11_sign ((th_at (by decide) (Nat.lt_of_lt_of_le (by decide) hsz)).trans (tc_ob ly_105)) rfl rfl (A := [.int (T.1 105 6)]) (st := []) rfl rfl (Nat.le_of_ble_eq_true rfl) (by decide) (by decide) dX11_next_63 hK ?_
  rintro _ _ ⟨r1, T1, rfl, rfl, hq⟩
  replace hyp := hyp r1 T1 hq
  refine ax_istore_n hX dX11_next_66 (by decide) (L' := [some (.ref 105), some (.int r1), none]) rfl ?_
  refine ax_aload_n hX dX11_next_67 (Or.inr ⟨_, rfl⟩) rfl ?_
  refine ax_aload_n hX dX11_next_68 (Or.inr ⟨_, rfl⟩) rfl ?_
  refine tx_getI hX fRX11_54 ly_105 fk_11_6 (by decide) (Nat.lt_of_lt_of_le (by decide) hsz) dX11_next_69 ?_
  refine ax_iconst hX dX11_next_72 (v := 1) (by decide) ?_
  refine ax_iadd hX dX11_next_73 ?_
  refine tx_putI hX fRX11_51 ly_105 fk_11_7 (by decide) (Nat.lt_of_lt_of_le (by decide) hsz) rfl rfl dX11_next_74 ?_
  refine ax_aload_n hX dX11_next_77 (Or.inr ⟨_, rfl⟩) rfl ?_
  refine tx_getI hX fRX11_54 ly_105 fk_11_6 (by decide) (Nat.lt_of_lt_of_le (by decide) hsz) dX11_next_78 ?_
  refine ax_aload_n hX dX11_next_81 (Or.inr ⟨_, rfl⟩) rfl ?_
  refine tx_getI hX fRX11_1 ly_105 fk_11_3 (by decide) (Nat.lt_of_lt_of_le (by decide) hsz) dX11_next_82 ?_
  refine ax_icmp_lt hX dX11_next_85 (tgt := 112) (by decide) (fun c => ?_) (fun c => ?_)
  · replace hyp := hyp.1 c
    refine ax_iload_n hX dX11_next_112 rfl ?_
    obtain ⟨Q1, hK, hyp⟩ := hyp
    refine ax_callS hX lRX11_64 sm_X11_isLetter cw_X11_isLetter (A := [.int r1]) (st := []) rfl rfl (Nat.le_of_ble_eq_true rfl) (by decide) (by decide) dX11_next_113 hK ?_
    rintro _ _ ⟨r2, T2, rfl, rfl, hq⟩
    replace hyp := hyp r2 T2 hq
    refine ax_if_eq hX dX11_next_116 (tgt := 253) (by decide) (fun c => ?_) (fun c => ?_)
    · replace hyp := hyp.1 c
      refine ax_iload_n hX dX11_next_253 rfl ?_
      obtain ⟨Q1, hK, hyp⟩ := hyp
      refine ax_callS hX lRX11_68 sm_X11_isDigit cw_X11_isDigit (A := [.int r1]) (st := []) rfl rfl (Nat.le_of_ble_eq_true rfl) (by decide) (by decide) dX11_next_254 hK ?_
      rintro _ _ ⟨r3, T3, rfl, rfl, hq⟩
      replace hyp := hyp r3 T3 hq
      refine ax_if_eq hX dX11_next_257 (tgt := 377) (by decide) (fun c => ?_) (fun c => ?_)
      · replace hyp := hyp.1 c
        refine ax_aload_n hX dX11_next_377 (Or.inr ⟨_, rfl⟩) rfl ?_
        refine ax_iload_n hX dX11_next_378 rfl ?_
        refine ax_bipush hX dX11_next_379 (v := 123) (by decide) ?_
        refine ax_icmp_eq hX dX11_next_381 (tgt := 444) (by decide) (fun c => ?_) (fun c => ?_)
        · replace hyp := hyp.1 c
          refine ax_iconst hX dX11_next_444 (v := 5) (by decide) ?_
          refine ax_goto hX dX11_next_445 (tgt := 449) (by decide) ?_
          refine tx_putI hX fRX11_61 ly_105 fk_11_8 (by decide) (Nat.lt_of_lt_of_le (by decide) hsz) rfl rfl dX11_next_449 ?_
          exact hR.2.2.2 _ _ _ _ _ (by decide) (by decide) dX11_next_452 rfl ⟨_, rfl, rfl, hyp⟩
        · replace hyp := hyp.2 c
          refine ax_iload_n hX dX11_next_384 rfl ?_
          refine ax_bipush hX dX11_next_385 (v := 125) (by decide) ?_
          refine ax_icmp_eq hX dX11_next_387 (tgt := 444) (by decide) (fun c => ?_) (fun c => ?_)
          · replace hyp := hyp.1 c
            refine ax_iconst hX dX11_next_444 (v := 5) (by decide) ?_
            refine ax_goto hX dX11_next_445 (tgt := 449) (by decide) ?_
            refine tx_putI hX fRX11_61 ly_105 fk_11_8 (by decide) (Nat.lt_of_lt_of_le (by decide) hsz) rfl rfl dX11_next_449 ?_
            exact hR.2.2.2 _ _ _ _ _ (by decide) (by decide) dX11_next_452 rfl ⟨_, rfl, rfl, hyp⟩
          · replace hyp := hyp.2 c
            refine ax_iload_n hX dX11_next_390 rfl ?_
            refine ax_bipush hX dX11_next_391 (v := 40) (by decide) ?_
            refine ax_icmp_eq hX dX11_next_393 (tgt := 444) (by decide) (fun c => ?_) (fun c => ?_)
            · replace hyp := hyp.1 c
              refine ax_iconst hX dX11_next_444 (v := 5) (by decide) ?_
              refine ax_goto hX dX11_next_445 (tgt := 449) (by decide) ?_
              refine tx_putI hX fRX11_61 ly_105 fk_11_8 (by decide) (Nat.lt_of_lt_of_le (by decide) hsz) rfl rfl dX11_next_449 ?_
              exact hR.2.2.2 _ _ _ _ _ (by decide) (by decide) dX11_next_452 rfl ⟨_, rfl, rfl, hyp⟩
            · replace hyp := hyp.2 c
              refine ax_iload_n hX dX11_next_396 rfl ?_
              refine ax_bipush hX dX11_next_397 (v := 41) (by decide) ?_
              refine ax_icmp_eq hX dX11_next_399 (tgt := 444) (by decide) (fun c => ?_) (fun c => ?_)
              · replace hyp := hyp.1 c
                refine ax_iconst hX dX11_next_444 (v := 5) (by decide) ?_
                refine ax_goto hX dX11_next_445 (tgt := 449) (by decide) ?_
                refine tx_putI hX fRX11_61 ly_105 fk_11_8 (by decide) (Nat.lt_of_lt_of_le (by decide) hsz) rfl rfl dX11_next_449 ?_
                exact hR.2.2.2 _ _ _ _ _ (by decide) (by decide) dX11_next_452 rfl ⟨_, rfl, rfl, hyp⟩
              · replace hyp := hyp.2 c
                refine ax_iload_n hX dX11_next_402 rfl ?_
                refine ax_bipush hX dX11_next_403 (v := 61) (by decide) ?_
                refine ax_icmp_eq hX dX11_next_405 (tgt := 444) (by decide) (fun c => ?_) (fun c => ?_)
                · replace hyp := hyp.1 c
                  refine ax_iconst hX dX11_next_444 (v := 5) (by decide) ?_
                  refine ax_goto hX dX11_next_445 (tgt := 449) (by decide) ?_
                  refine tx_putI hX fRX11_61 ly_105 fk_11_8 (by decide) (Nat.lt_of_lt_of_le (by decide) hsz) rfl rfl dX11_next_449 ?_
                  exact hR.2.2.2 _ _ _ _ _ (by decide) (by decide) dX11_next_452 rfl ⟨_, rfl, rfl, hyp⟩
                · replace hyp := hyp.2 c
                  refine ax_iload_n hX dX11_next_408 rfl ?_
                  refine ax_bipush hX dX11_next_409 (v := 44) (by decide) ?_
                  refine ax_icmp_eq hX dX11_next_411 (tgt := 444) (by decide) (fun c => ?_) (fun c => ?_)
                  · replace hyp := hyp.1 c
                    refine ax_iconst hX dX11_next_444 (v := 5) (by decide) ?_
                    refine ax_goto hX dX11_next_445 (tgt := 449) (by decide) ?_
                    refine tx_putI hX fRX11_61 ly_105 fk_11_8 (by decide) (Nat.lt_of_lt_of_le (by decide) hsz) rfl rfl dX11_next_449 ?_
                    exact hR.2.2.2 _ _ _ _ _ (by decide) (by decide) dX11_next_452 rfl ⟨_, rfl, rfl, hyp⟩
                  · replace hyp := hyp.2 c
                    refine ax_iload_n hX dX11_next_414 rfl ?_
                    refine ax_bipush hX dX11_next_415 (v := 59) (by decide) ?_
                    refine ax_icmp_eq hX dX11_next_417 (tgt := 444) (by decide) (fun c => ?_) (fun c => ?_)
                    · replace hyp := hyp.1 c
                      refine ax_iconst hX dX11_next_444 (v := 5) (by decide) ?_
                      refine ax_goto hX dX11_next_445 (tgt := 449) (by decide) ?_
                      refine tx_putI hX fRX11_61 ly_105 fk_11_8 (by decide) (Nat.lt_of_lt_of_le (by decide) hsz) rfl rfl dX11_next_449 ?_
                      exact hR.2.2.2 _ _ _ _ _ (by decide) (by decide) dX11_next_452 rfl ⟨_, rfl, rfl, hyp⟩
                    · replace hyp := hyp.2 c
                      refine ax_iload_n hX dX11_next_420 rfl ?_
                      refine ax_bipush hX dX11_next_421 (v := 60) (by decide) ?_
                      refine ax_icmp_eq hX dX11_next_423 (tgt := 444) (by decide) (fun c => ?_) (fun c => ?_)
                      · replace hyp := hyp.1 c
                        refine ax_iconst hX dX11_next_444 (v := 5) (by decide) ?_
                        refine ax_goto hX dX11_next_445 (tgt := 449) (by decide) ?_
                        refine tx_putI hX fRX11_61 ly_105 fk_11_8 (by decide) (Nat.lt_of_lt_of_le (by decide) hsz) rfl rfl dX11_next_449 ?_
                        exact hR.2.2.2 _ _ _ _ _ (by decide) (by decide) dX11_next_452 rfl ⟨_, rfl, rfl, hyp⟩
                      · replace hyp := hyp.2 c
                        refine ax_iload_n hX dX11_next_426 rfl ?_
                        refine ax_bipush hX dX11_next_427 (v := 62) (by decide) ?_
                        refine ax_icmp_eq hX dX11_next_429 (tgt := 444) (by decide) (fun c => ?_) (fun c => ?_)
                        · replace hyp := hyp.1 c
                          refine ax_iconst hX dX11_next_444 (v := 5) (by decide) ?_
                          refine ax_goto hX dX11_next_445 (tgt := 449) (by decide) ?_
                          refine tx_putI hX fRX11_61 ly_105 fk_11_8 (by decide) (Nat.lt_of_lt_of_le (by decide) hsz) rfl rfl dX11_next_449 ?_
                          exact hR.2.2.2 _ _ _ _ _ (by decide) (by decide) dX11_next_452 rfl ⟨_, rfl, rfl, hyp⟩
                        · replace hyp := hyp.2 c
                          refine ax_iload_n hX dX11_next_432 rfl ?_
                          refine ax_bipush hX dX11_next_433 (v := 43) (by decide) ?_
                          refine ax_icmp_eq hX dX11_next_435 (tgt := 444) (by decide) (fun c => ?_) (fun c => ?_)
                          · replace hyp := hyp.1 c
                            refine ax_iconst hX dX11_next_444 (v := 5) (by decide) ?_
                            refine ax_goto hX dX11_next_445 (tgt := 449) (by decide) ?_
                            refine tx_putI hX fRX11_61 ly_105 fk_11_8 (by decide) (Nat.lt_of_lt_of_le (by decide) hsz) rfl rfl dX11_next_449 ?_
                            exact hR.2.2.2 _ _ _ _ _ (by decide) (by decide) dX11_next_452 rfl ⟨_, rfl, rfl, hyp⟩
                          · replace hyp := hyp.2 c
                            refine ax_iload_n hX dX11_next_438 rfl ?_
                            refine ax_bipush hX dX11_next_439 (v := 45) (by decide) ?_
                            refine ax_icmp_ne hX dX11_next_441 (tgt := 448) (by decide) (fun c => ?_) (fun c => ?_)
                            · replace hyp := hyp.1 c
                              refine ax_iconst hX dX11_next_448 (v := 1) (by decide) ?_
                              refine tx_putI hX fRX11_61 ly_105 fk_11_8 (by decide) (Nat.lt_of_lt_of_le (by decide) hsz) rfl rfl dX11_next_449 ?_
                              exact hR.2.2.2 _ _ _ _ _ (by decide) (by decide) dX11_next_452 rfl ⟨_, rfl, rfl, hyp⟩
                            · replace hyp := hyp.2 c
                              refine ax_iconst hX dX11_next_444 (v := 5) (by decide) ?_
                              refine ax_goto hX dX11_next_445 (tgt := 449) (by decide) ?_
                              refine tx_putI hX fRX11_61 ly_105 fk_11_8 (by decide) (Nat.lt_of_lt_of_le (by decide) hsz) rfl rfl dX11_next_449 ?_
                              exact hR.2.2.2 _ _ _ _ _ (by decide) (by decide) dX11_next_452 rfl ⟨_, rfl, rfl, hyp⟩
      · replace hyp := hyp.2 c
        refine ax_aload_n hX dX11_next_260 (Or.inr ⟨_, rfl⟩) rfl ?_
        refine ax_iconst hX dX11_next_261 (v := 0) (by decide) ?_
        refine tx_putI hX fRX11_78 ly_105 fk_11_9 (by decide) (Nat.lt_of_lt_of_le (by decide) hsz) rfl rfl dX11_next_262 ?_
        refine ax_aload_n hX dX11_next_265 (Or.inr ⟨_, rfl⟩) rfl ?_
        refine ax_aload_n hX dX11_next_266 (Or.inr ⟨_, rfl⟩) rfl ?_
        refine tx_getI hX fRX11_54 ly_105 fk_11_6 (by decide) (Nat.lt_of_lt_of_le (by decide) hsz) dX11_next_267 ?_
        refine tx_putI hX fRX11_51 ly_105 fk_11_7 (by decide) (Nat.lt_of_lt_of_le (by decide) hsz) rfl rfl dX11_next_270 ?_
        exact ax_forget (L' := [some (.ref 105), none, none]) (⟨rfl, trivial⟩) hyp
    · replace hyp := hyp.2 c
      exact ax_forget (L' := [some (.ref 105), none, none]) (⟨rfl, trivial⟩) hyp
  · replace hyp := hyp.2 c
    refine ax_aload_n hX dX11_next_88 (Or.inr ⟨_, rfl⟩) rfl ?_
    refine ax_iconst hX dX11_next_89 (v := 0) (by decide) ?_
    refine tx_putI hX fRX11_61 ly_105 fk_11_8 (by decide) (Nat.lt_of_lt_of_le (by decide) hsz) rfl rfl dX11_next_90 ?_
    refine ax_aload_n hX dX11_next_93 (Or.inr ⟨_, rfl⟩) rfl ?_
    refine ax_aload_n hX dX11_next_94 (Or.inr ⟨_, rfl⟩) rfl ?_
    refine tx_getI hX fRX11_1 ly_105 fk_11_3 (by decide) (Nat.lt_of_lt_of_le (by decide) hsz) dX11_next_95 ?_
    refine tx_putI hX fRX11_54 ly_105 fk_11_6 (by decide) (Nat.lt_of_lt_of_le (by decide) hsz) rfl rfl dX11_next_98 ?_
    refine ax_aload_n hX dX11_next_101 (Or.inr ⟨_, rfl⟩) rfl ?_
    refine ax_aload_n hX dX11_next_102 (Or.inr ⟨_, rfl⟩) rfl ?_
    refine tx_getI hX fRX11_1 ly_105 fk_11_3 (by decide) (Nat.lt_of_lt_of_le (by decide) hsz) dX11_next_103 ?_
    refine tx_putI hX fRX11_51 ly_105 fk_11_7 (by decide) (Nat.lt_of_lt_of_le (by decide) hsz) rfl rfl dX11_next_106 ?_
    refine ax_goto hX dX11_next_109 (tgt := 452) (by decide) ?_
    exact hR.2.2.2 _ _ _ _ _ (by decide) (by decide) dX11_next_452 rfl ⟨_, rfl, rfl, hyp⟩
set_option maxRecDepth 10000 in
theorem s_X11_next_45 {X : ax_X} {d L sz : Nat} {T : tT} {Q : tT → Prop} (hX : ax_ok X mX11_next (d + 1)) (hR : ax_Ret X mX11_next (tv L sz Q)) (hsz : 161 ≤ sz)  (hyp : ax_j X 8 [some (.ref 105), none, none] [] (th L sz (tI T 105 6 ((T.1 105 6) + (1 : Int32)))) 0 0) : ax_j X 45 [some (.ref 105), none, none] [] (th L sz T) 0 0 := by
  refine ax_aload_n hX dX11_next_45 (Or.inr ⟨_, rfl⟩) rfl ?_
  refine ax_dup hX dX11_next_46 rfl ?_
  refine tx_getI hX fRX11_54 ly_105 fk_11_6 (by decide) (Nat.lt_of_lt_of_le (by decide) hsz) dX11_next_47 ?_
  refine ax_iconst hX dX11_next_50 (v := 1) (by decide) ?_
  refine ax_iadd hX dX11_next_51 ?_
  refine tx_putI hX fRX11_54 ly_105 fk_11_6 (by decide) (Nat.lt_of_lt_of_le (by decide) hsz) rfl rfl dX11_next_52 ?_
  refine ax_goto hX dX11_next_55 (tgt := 8) (by decide) ?_
  exact ax_forget (L' := [some (.ref 105), none, none]) (⟨rfl, trivial⟩) hyp
set_option maxRecDepth 10000 in
theorem s_X11_next_273 {X : ax_X} {d L sz : Nat} {T : tT} {Q : tT → Prop} (hX : ax_ok X mX11_next (d + 1)) (hR : ax_Ret X mX11_next (tv L sz Q)) (hsz : 161 ≤ sz)  (hyp : ∃ Q1, tiK d mX11_sign [.ref 105, .int (T.1 105 7)] L sz T Q1 ∧ ∀ (r1 : Int32) (T1 : tT), Q1 r1 T1 → (∃ Q1, tiK d mX11_isDigit [.int r1] L sz T1 Q1 ∧ ∀ (r2 : Int32) (T2 : tT), Q1 r2 T2 → (((r2 = 0 → (((6 : Int32) < ((T2.1 105 7) - (T2.1 105 6)) → Q (tI T2 105 8 (1 : Int32))) ∧ (¬ (6 : Int32) < ((T2.1 105 7) - (T2.1 105 6)) → ∃ Q1, tiK d mX11_sign [.ref 105, .int (T2.1 105 7)] L sz T2 Q1 ∧ ∀ (r3 : Int32) (T3 : tT), Q1 r3 T3 → (∃ Q1, tiK d mX11_isLetter [.int r3] L sz T3 Q1 ∧ ∀ (r4 : Int32) (T4 : tT), Q1 r4 T4 → (((r4 = 0 → Q (tI T4 105 8 (4 : Int32))) ∧ (¬ r4 = 0 → Q (tI T4 105 8 (1 : Int32))))))))) ∧ (¬ r2 = 0 → (((6 : Int32) ≤ ((T2.1 105 7) - (T2.1 105 6)) → ax_j X 324 [some (.ref 105), none, none] [] (th L sz T2) 0 0) ∧ (¬ (6 : Int32) ≤ ((T2.1 105 7) - (T2.1 105 6)) → ∃ Q1, tiK d mX11_sign [.ref 105, .int (T2.1 105 7)] L sz T2 Q1 ∧ ∀ (r5 : Int32) (T5 : tT), Q1 r5 T5 → (ax_j X 324 [some (.ref 105), none, none] [] (th L sz (tI T5 105 9 ((((10 : Int32) * (T2.1 105 9)) + r5) - (48 : Int32)))) 0 0)))))))) : ax_j X 273 [some (.ref 105), none, none] [] (th L sz T) 0 0 := by
  refine ax_aload_n hX dX11_next_273 (Or.inr ⟨_, rfl⟩) rfl ?_
  refine ax_aload_n hX dX11_next_274 (Or.inr ⟨_, rfl⟩) rfl ?_
  refine tx_getI hX fRX11_51 ly_105 fk_11_7 (by decide) (Nat.lt_of_lt_of_le (by decide) hsz) dX11_next_275 ?_
  obtain ⟨Q1, hK, hyp⟩ := hyp
  refine ax_callV hX lRX11_57 im_X11_sign sl_X11_sign cw_X11_sign ((th_at (by decide) (Nat.lt_of_lt_of_le (by decide) hsz)).trans (tc_ob ly_105)) rfl rfl (A := [.int (T.1 105 7)]) (st := []) rfl rfl (Nat.le_of_ble_eq_true rfl) (by decide) (by decide) dX11_next_278 hK ?_
  rintro _ _ ⟨r1, T1, rfl, rfl, hq⟩
  replace hyp := hyp r1 T1 hq
  obtain ⟨Q1, hK, hyp⟩ := hyp
  refine ax_callS hX lRX11_68 sm_X11_isDigit cw_X11_isDigit (A := [.int r1]) (st := []) rfl rfl (Nat.le_of_ble_eq_true rfl) (by decide) (by decide) dX11_next_281 hK ?_
  rintro _ _ ⟨r2, T2, rfl, rfl, hq⟩
  replace hyp := hyp r2 T2 hq
  refine ax_if_eq hX dX11_next_284 (tgt := 337) (by decide) (fun c => ?_) (fun c => ?_)
  · replace hyp := hyp.1 c
    refine ax_aload_n hX dX11_next_337 (Or.inr ⟨_, rfl⟩) rfl ?_
    refine ax_aload_n hX dX11_next_338 (Or.inr ⟨_, rfl⟩) rfl ?_
    refine tx_getI hX fRX11_51 ly_105 fk_11_7 (by decide) (Nat.lt_of_lt_of_le (by decide) hsz) dX11_next_339 ?_
    refine ax_aload_n hX dX11_next_342 (Or.inr ⟨_, rfl⟩) rfl ?_
    refine tx_getI hX fRX11_54 ly_105 fk_11_6 (by decide) (Nat.lt_of_lt_of_le (by decide) hsz) dX11_next_343 ?_
    refine ax_isub hX dX11_next_346 ?_
    refine ax_bipush hX dX11_next_347 (v := 6) (by decide) ?_
    refine ax_icmp_gt hX dX11_next_349 (tgt := 366) (by decide) (fun c => ?_) (fun c => ?_)
    · replace hyp := hyp.1 c
      refine ax_iconst hX dX11_next_366 (v := 1) (by decide) ?_
      refine ax_goto hX dX11_next_367 (tgt := 371) (by decide) ?_
      refine tx_putI hX fRX11_61 ly_105 fk_11_8 (by decide) (Nat.lt_of_lt_of_le (by decide) hsz) rfl rfl dX11_next_371 ?_
      refine ax_goto hX dX11_next_374 (tgt := 452) (by decide) ?_
      exact hR.2.2.2 _ _ _ _ _ (by decide) (by decide) dX11_next_452 rfl ⟨_, rfl, rfl, hyp⟩
    · replace hyp := hyp.2 c
      refine ax_aload_n hX dX11_next_352 (Or.inr ⟨_, rfl⟩) rfl ?_
      refine ax_aload_n hX dX11_next_353 (Or.inr ⟨_, rfl⟩) rfl ?_
      refine tx_getI hX fRX11_51 ly_105 fk_11_7 (by decide) (Nat.lt_of_lt_of_le (by decide) hsz) dX11_next_354 ?_
      obtain ⟨Q1, hK, hyp⟩ := hyp
      refine ax_callV hX lRX11_57 im_X11_sign sl_X11_sign cw_X11_sign ((th_at (by decide) (Nat.lt_of_lt_of_le (by decide) hsz)).trans (tc_ob ly_105)) rfl rfl (A := [.int (T2.1 105 7)]) (st := [.ref 105]) rfl rfl (Nat.le_of_ble_eq_true rfl) (by decide) (by decide) dX11_next_357 hK ?_
      rintro _ _ ⟨r3, T3, rfl, rfl, hq⟩
      replace hyp := hyp r3 T3 hq
      obtain ⟨Q1, hK, hyp⟩ := hyp
      refine ax_callS hX lRX11_64 sm_X11_isLetter cw_X11_isLetter (A := [.int r3]) (st := [.ref 105]) rfl rfl (Nat.le_of_ble_eq_true rfl) (by decide) (by decide) dX11_next_360 hK ?_
      rintro _ _ ⟨r4, T4, rfl, rfl, hq⟩
      replace hyp := hyp r4 T4 hq
      refine ax_if_eq hX dX11_next_363 (tgt := 370) (by decide) (fun c => ?_) (fun c => ?_)
      · replace hyp := hyp.1 c
        refine ax_iconst hX dX11_next_370 (v := 4) (by decide) ?_
        refine tx_putI hX fRX11_61 ly_105 fk_11_8 (by decide) (Nat.lt_of_lt_of_le (by decide) hsz) rfl rfl dX11_next_371 ?_
        refine ax_goto hX dX11_next_374 (tgt := 452) (by decide) ?_
        exact hR.2.2.2 _ _ _ _ _ (by decide) (by decide) dX11_next_452 rfl ⟨_, rfl, rfl, hyp⟩
      · replace hyp := hyp.2 c
        refine ax_iconst hX dX11_next_366 (v := 1) (by decide) ?_
        refine ax_goto hX dX11_next_367 (tgt := 371) (by decide) ?_
        refine tx_putI hX fRX11_61 ly_105 fk_11_8 (by decide) (Nat.lt_of_lt_of_le (by decide) hsz) rfl rfl dX11_next_371 ?_
        refine ax_goto hX dX11_next_374 (tgt := 452) (by decide) ?_
        exact hR.2.2.2 _ _ _ _ _ (by decide) (by decide) dX11_next_452 rfl ⟨_, rfl, rfl, hyp⟩
  · replace hyp := hyp.2 c
    refine ax_aload_n hX dX11_next_287 (Or.inr ⟨_, rfl⟩) rfl ?_
    refine tx_getI hX fRX11_51 ly_105 fk_11_7 (by decide) (Nat.lt_of_lt_of_le (by decide) hsz) dX11_next_288 ?_
    refine ax_aload_n hX dX11_next_291 (Or.inr ⟨_, rfl⟩) rfl ?_
    refine tx_getI hX fRX11_54 ly_105 fk_11_6 (by decide) (Nat.lt_of_lt_of_le (by decide) hsz) dX11_next_292 ?_
    refine ax_isub hX dX11_next_295 ?_
    refine ax_bipush hX dX11_next_296 (v := 6) (by decide) ?_
    refine ax_icmp_ge hX dX11_next_298 (tgt := 324) (by decide) (fun c => ?_) (fun c => ?_)
    · replace hyp := hyp.1 c
      exact ax_forget (L' := [some (.ref 105), none, none]) (⟨rfl, trivial⟩) hyp
    · replace hyp := hyp.2 c
      refine ax_aload_n hX dX11_next_301 (Or.inr ⟨_, rfl⟩) rfl ?_
      refine ax_bipush hX dX11_next_302 (v := 10) (by decide) ?_
      refine ax_aload_n hX dX11_next_304 (Or.inr ⟨_, rfl⟩) rfl ?_
      refine tx_getI hX fRX11_78 ly_105 fk_11_9 (by decide) (Nat.lt_of_lt_of_le (by decide) hsz) dX11_next_305 ?_
      refine ax_imul hX dX11_next_308 ?_
      refine ax_aload_n hX dX11_next_309 (Or.inr ⟨_, rfl⟩) rfl ?_
      refine ax_aload_n hX dX11_next_310 (Or.inr ⟨_, rfl⟩) rfl ?_
      refine tx_getI hX fRX11_51 ly_105 fk_11_7 (by decide) (Nat.lt_of_lt_of_le (by decide) hsz) dX11_next_311 ?_
      obtain ⟨Q1, hK, hyp⟩ := hyp
      refine ax_callV hX lRX11_57 im_X11_sign sl_X11_sign cw_X11_sign ((th_at (by decide) (Nat.lt_of_lt_of_le (by decide) hsz)).trans (tc_ob ly_105)) rfl rfl (A := [.int (T2.1 105 7)]) (st := [.int ((10 : Int32) * (T2.1 105 9)), .ref 105]) rfl rfl (Nat.le_of_ble_eq_true rfl) (by decide) (by decide) dX11_next_314 hK ?_
      rintro _ _ ⟨r5, T5, rfl, rfl, hq⟩
      replace hyp := hyp r5 T5 hq
      refine ax_iadd hX dX11_next_317 ?_
      refine ax_bipush hX dX11_next_318 (v := 48) (by decide) ?_
      refine ax_isub hX dX11_next_320 ?_
      refine tx_putI hX fRX11_78 ly_105 fk_11_9 (by decide) (Nat.lt_of_lt_of_le (by decide) hsz) rfl rfl dX11_next_321 ?_
      exact ax_forget (L' := [some (.ref 105), none, none]) (⟨rfl, trivial⟩) hyp
set_option maxRecDepth 10000 in
theorem s_X11_next_119 {X : ax_X} {d L sz : Nat} {T : tT} {Q : tT → Prop} (hX : ax_ok X mX11_next (d + 1)) (hR : ax_Ret X mX11_next (tv L sz Q)) (hsz : 161 ≤ sz)  (hyp : ∃ Q1, tiK d mX11_sign [.ref 105, .int (T.1 105 7)] L sz T Q1 ∧ ∀ (r1 : Int32) (T1 : tT), Q1 r1 T1 → (∃ Q1, tiK d mX11_isLetter [.int r1] L sz T1 Q1 ∧ ∀ (r2 : Int32) (T2 : tT), Q1 r2 T2 → (((¬ r2 = 0 → ax_j X 147 [some (.ref 105), none, none] [] (th L sz T2) 0 0) ∧ (r2 = 0 → ∃ Q1, tiK d mX11_sign [.ref 105, .int (T2.1 105 7)] L sz T2 Q1 ∧ ∀ (r3 : Int32) (T3 : tT), Q1 r3 T3 → (∃ Q1, tiK d mX11_isDigit [.int r3] L sz T3 Q1 ∧ ∀ (r4 : Int32) (T4 : tT), Q1 r4 T4 → (((r4 = 0 → ax_j X 170 [some (.ref 105), none, some (.int (T4.1 105 6))] [] (th L sz (tJ T4 105 10 (0 : Int64))) 0 0) ∧ (¬ r4 = 0 → ax_j X 147 [some (.ref 105), none, none] [] (th L sz T4) 0 0))))))))) : ax_j X 119 [some (.ref 105), none, none] [] (th L sz T) 0 0 := by
  refine ax_aload_n hX dX11_next_119 (Or.inr ⟨_, rfl⟩) rfl ?_
  refine ax_aload_n hX dX11_next_120 (Or.inr ⟨_, rfl⟩) rfl ?_
  refine tx_getI hX fRX11_51 ly_105 fk_11_7 (by decide) (Nat.lt_of_lt_of_le (by decide) hsz) dX11_next_121 ?_
  obtain ⟨Q1, hK, hyp⟩ := hyp
  refine ax_callV hX lRX11_57 im_X11_sign sl_X11_sign cw_X11_sign ((th_at (by decide) (Nat.lt_of_lt_of_le (by decide) hsz)).trans (tc_ob ly_105)) rfl rfl (A := [.int (T.1 105 7)]) (st := []) rfl rfl (Nat.le_of_ble_eq_true rfl) (by decide) (by decide) dX11_next_124 hK ?_
  rintro _ _ ⟨r1, T1, rfl, rfl, hq⟩
  replace hyp := hyp r1 T1 hq
  obtain ⟨Q1, hK, hyp⟩ := hyp
  refine ax_callS hX lRX11_64 sm_X11_isLetter cw_X11_isLetter (A := [.int r1]) (st := []) rfl rfl (Nat.le_of_ble_eq_true rfl) (by decide) (by decide) dX11_next_127 hK ?_
  rintro _ _ ⟨r2, T2, rfl, rfl, hq⟩
  replace hyp := hyp r2 T2 hq
  refine ax_if_ne hX dX11_next_130 (tgt := 147) (by decide) (fun c => ?_) (fun c => ?_)
  · replace hyp := hyp.1 c
    exact ax_forget (L' := [some (.ref 105), none, none]) (⟨rfl, trivial⟩) hyp
  · replace hyp := hyp.2 c
    refine ax_aload_n hX dX11_next_133 (Or.inr ⟨_, rfl⟩) rfl ?_
    refine ax_aload_n hX dX11_next_134 (Or.inr ⟨_, rfl⟩) rfl ?_
    refine tx_getI hX fRX11_51 ly_105 fk_11_7 (by decide) (Nat.lt_of_lt_of_le (by decide) hsz) dX11_next_135 ?_
    obtain ⟨Q1, hK, hyp⟩ := hyp
    refine ax_callV hX lRX11_57 im_X11_sign sl_X11_sign cw_X11_sign ((th_at (by decide) (Nat.lt_of_lt_of_le (by decide) hsz)).trans (tc_ob ly_105)) rfl rfl (A := [.int (T2.1 105 7)]) (st := []) rfl rfl (Nat.le_of_ble_eq_true rfl) (by decide) (by decide) dX11_next_138 hK ?_
    rintro _ _ ⟨r3, T3, rfl, rfl, hq⟩
    replace hyp := hyp r3 T3 hq
    obtain ⟨Q1, hK, hyp⟩ := hyp
    refine ax_callS hX lRX11_68 sm_X11_isDigit cw_X11_isDigit (A := [.int r3]) (st := []) rfl rfl (Nat.le_of_ble_eq_true rfl) (by decide) (by decide) dX11_next_141 hK ?_
    rintro _ _ ⟨r4, T4, rfl, rfl, hq⟩
    replace hyp := hyp r4 T4 hq
    refine ax_if_eq hX dX11_next_144 (tgt := 160) (by decide) (fun c => ?_) (fun c => ?_)
    · replace hyp := hyp.1 c
      refine ax_aload_n hX dX11_next_160 (Or.inr ⟨_, rfl⟩) rfl ?_
      refine ax_lconst hX dX11_next_161 (v := 0) (by decide) ?_
      refine tx_putJ hX fRX11_71 ly_105 fk_11_10 (by decide) (Nat.lt_of_lt_of_le (by decide) hsz) dX11_next_162 ?_
      refine ax_aload_n hX dX11_next_165 (Or.inr ⟨_, rfl⟩) rfl ?_
      refine tx_getI hX fRX11_54 ly_105 fk_11_6 (by decide) (Nat.lt_of_lt_of_le (by decide) hsz) dX11_next_166 ?_
      refine ax_istore_n hX dX11_next_169 (by decide) (L' := [some (.ref 105), none, some (.int (T4.1 105 6))]) rfl ?_
      exact ax_forget (L' := [some (.ref 105), none, some (.int (T4.1 105 6))]) (⟨rfl, ⟨rfl, trivial⟩⟩) hyp
    · replace hyp := hyp.2 c
      exact ax_forget (L' := [some (.ref 105), none, none]) (⟨rfl, trivial⟩) hyp
set_option maxRecDepth 10000 in
theorem s_X11_next_324 {X : ax_X} {d L sz : Nat} {T : tT} {Q : tT → Prop} (hX : ax_ok X mX11_next (d + 1)) (hR : ax_Ret X mX11_next (tv L sz Q)) (hsz : 161 ≤ sz)  (hyp : ax_j X 273 [some (.ref 105), none, none] [] (th L sz (tI T 105 7 ((T.1 105 7) + (1 : Int32)))) 0 0) : ax_j X 324 [some (.ref 105), none, none] [] (th L sz T) 0 0 := by
  refine ax_aload_n hX dX11_next_324 (Or.inr ⟨_, rfl⟩) rfl ?_
  refine ax_dup hX dX11_next_325 rfl ?_
  refine tx_getI hX fRX11_51 ly_105 fk_11_7 (by decide) (Nat.lt_of_lt_of_le (by decide) hsz) dX11_next_326 ?_
  refine ax_iconst hX dX11_next_329 (v := 1) (by decide) ?_
  refine ax_iadd hX dX11_next_330 ?_
  refine tx_putI hX fRX11_51 ly_105 fk_11_7 (by decide) (Nat.lt_of_lt_of_le (by decide) hsz) rfl rfl dX11_next_331 ?_
  refine ax_goto hX dX11_next_334 (tgt := 273) (by decide) ?_
  exact ax_forget (L' := [some (.ref 105), none, none]) (⟨rfl, trivial⟩) hyp
set_option maxRecDepth 10000 in
theorem s_X11_next_147 {X : ax_X} {d L sz : Nat} {T : tT} {Q : tT → Prop} (hX : ax_ok X mX11_next (d + 1)) (hR : ax_Ret X mX11_next (tv L sz Q)) (hsz : 161 ≤ sz)  (hyp : ax_j X 119 [some (.ref 105), none, none] [] (th L sz (tI T 105 7 ((T.1 105 7) + (1 : Int32)))) 0 0) : ax_j X 147 [some (.ref 105), none, none] [] (th L sz T) 0 0 := by
  refine ax_aload_n hX dX11_next_147 (Or.inr ⟨_, rfl⟩) rfl ?_
  refine ax_dup hX dX11_next_148 rfl ?_
  refine tx_getI hX fRX11_51 ly_105 fk_11_7 (by decide) (Nat.lt_of_lt_of_le (by decide) hsz) dX11_next_149 ?_
  refine ax_iconst hX dX11_next_152 (v := 1) (by decide) ?_
  refine ax_iadd hX dX11_next_153 ?_
  refine tx_putI hX fRX11_51 ly_105 fk_11_7 (by decide) (Nat.lt_of_lt_of_le (by decide) hsz) rfl rfl dX11_next_154 ?_
  refine ax_goto hX dX11_next_157 (tgt := 119) (by decide) ?_
  exact ax_forget (L' := [some (.ref 105), none, none]) (⟨rfl, trivial⟩) hyp
set_option maxRecDepth 10000 in
theorem s_X11_next_170 {X : ax_X} {d L sz : Nat} {T : tT} {Q : tT → Prop} (hX : ax_ok X mX11_next (d + 1)) (hR : ax_Ret X mX11_next (tv L sz Q)) (hsz : 161 ≤ sz) (v2 : Int32) (hyp : (((T.1 105 7) ≤ v2 → ax_j X 213 [some (.ref 105), none, none] [] (th L sz T) 0 0) ∧ (¬ (T.1 105 7) ≤ v2 → ((((T.1 105 6) + (8 : Int32)) ≤ v2 → ax_j X 213 [some (.ref 105), none, none] [] (th L sz T) 0 0) ∧ (¬ ((T.1 105 6) + (8 : Int32)) ≤ v2 → ∃ Q1, tiK d mX11_sign [.ref 105, .int v2] L sz T Q1 ∧ ∀ (r1 : Int32) (T1 : tT), Q1 r1 T1 → (ax_j X 170 [some (.ref 105), none, some (.int (v2 + (1 : Int32)))] [] (th L sz (tJ T1 105 10 (((T.2.1 105 10) <<< ((8 : Int32).toInt64 &&& 63)) ||| r1.toInt64))) 0 0)))))) : ax_j X 170 [some (.ref 105), none, some (.int v2)] [] (th L sz T) 0 0 := by
  refine ax_iload_n hX dX11_next_170 rfl ?_
  refine ax_aload_n hX dX11_next_171 (Or.inr ⟨_, rfl⟩) rfl ?_
  refine tx_getI hX fRX11_51 ly_105 fk_11_7 (by decide) (Nat.lt_of_lt_of_le (by decide) hsz) dX11_next_172 ?_
  refine ax_icmp_ge hX dX11_next_175 (tgt := 213) (by decide) (fun c => ?_) (fun c => ?_)
  · replace hyp := hyp.1 c
    exact ax_forget (L' := [some (.ref 105), none, none]) (⟨rfl, trivial⟩) hyp
  · replace hyp := hyp.2 c
    refine ax_iload_n hX dX11_next_178 rfl ?_
    refine ax_aload_n hX dX11_next_179 (Or.inr ⟨_, rfl⟩) rfl ?_
    refine tx_getI hX fRX11_54 ly_105 fk_11_6 (by decide) (Nat.lt_of_lt_of_le (by decide) hsz) dX11_next_180 ?_
    refine ax_bipush hX dX11_next_183 (v := 8) (by decide) ?_
    refine ax_iadd hX dX11_next_185 ?_
    refine ax_icmp_ge hX dX11_next_186 (tgt := 213) (by decide) (fun c => ?_) (fun c => ?_)
    · replace hyp := hyp.1 c
      exact ax_forget (L' := [some (.ref 105), none, none]) (⟨rfl, trivial⟩) hyp
    · replace hyp := hyp.2 c
      refine ax_aload_n hX dX11_next_189 (Or.inr ⟨_, rfl⟩) rfl ?_
      refine ax_aload_n hX dX11_next_190 (Or.inr ⟨_, rfl⟩) rfl ?_
      refine tx_getJ hX fRX11_71 ly_105 fk_11_10 (by decide) (Nat.lt_of_lt_of_le (by decide) hsz) dX11_next_191 ?_
      refine ax_bipush hX dX11_next_194 (v := 8) (by decide) ?_
      refine ax_lshl hX dX11_next_196 ?_
      refine ax_aload_n hX dX11_next_197 (Or.inr ⟨_, rfl⟩) rfl ?_
      refine ax_iload_n hX dX11_next_198 rfl ?_
      obtain ⟨Q1, hK, hyp⟩ := hyp
      refine ax_callV hX lRX11_57 im_X11_sign sl_X11_sign cw_X11_sign ((th_at (by decide) (Nat.lt_of_lt_of_le (by decide) hsz)).trans (tc_ob ly_105)) rfl rfl (A := [.int v2]) (st := [.long ((T.2.1 105 10) <<< ((8 : Int32).toInt64 &&& 63)), .ref 105]) rfl rfl (Nat.le_of_ble_eq_true rfl) (by decide) (by decide) dX11_next_199 hK ?_
      rintro _ _ ⟨r1, T1, rfl, rfl, hq⟩
      replace hyp := hyp r1 T1 hq
      refine ax_i2l hX dX11_next_202 ?_
      refine ax_lor hX dX11_next_203 ?_
      refine tx_putJ hX fRX11_71 ly_105 fk_11_10 (by decide) (Nat.lt_of_lt_of_le (by decide) hsz) dX11_next_204 ?_
      refine ax_iinc hX dX11_next_207 rfl (w := (v2 + (1 : Int32))) rfl (by decide) (L' := [some (.ref 105), none, some (.int (v2 + (1 : Int32)))]) rfl ?_
      refine ax_goto hX dX11_next_210 (tgt := 170) (by decide) ?_
      exact ax_forget (L' := [some (.ref 105), none, some (.int (v2 + (1 : Int32)))]) (⟨rfl, ⟨rfl, trivial⟩⟩) hyp
set_option maxRecDepth 10000 in
theorem s_X11_next_213 {X : ax_X} {d L sz : Nat} {T : tT} {Q : tT → Prop} (hX : ax_ok X mX11_next (d + 1)) (hR : ax_Ret X mX11_next (tv L sz Q)) (hsz : 161 ≤ sz)  (hyp : ((((T.1 105 7) - (T.1 105 6)) ≤ (8 : Int32) → ∃ Q1, tiK d mX11_isKept [.long (T.2.1 105 10)] L sz T Q1 ∧ ∀ (r1 : Int32) (T1 : tT), Q1 r1 T1 → (((r1 = 0 → Q (tI T1 105 8 (2 : Int32))) ∧ (¬ r1 = 0 → Q (tI T1 105 8 (3 : Int32)))))) ∧ (¬ ((T.1 105 7) - (T.1 105 6)) ≤ (8 : Int32) → Q (tI T 105 8 (1 : Int32))))) : ax_j X 213 [some (.ref 105), none, none] [] (th L sz T) 0 0 := by
  refine ax_aload_n hX dX11_next_213 (Or.inr ⟨_, rfl⟩) rfl ?_
  refine ax_aload_n hX dX11_next_214 (Or.inr ⟨_, rfl⟩) rfl ?_
  refine tx_getI hX fRX11_51 ly_105 fk_11_7 (by decide) (Nat.lt_of_lt_of_le (by decide) hsz) dX11_next_215 ?_
  refine ax_aload_n hX dX11_next_218 (Or.inr ⟨_, rfl⟩) rfl ?_
  refine tx_getI hX fRX11_54 ly_105 fk_11_6 (by decide) (Nat.lt_of_lt_of_le (by decide) hsz) dX11_next_219 ?_
  refine ax_isub hX dX11_next_222 ?_
  refine ax_bipush hX dX11_next_223 (v := 8) (by decide) ?_
  refine ax_icmp_le hX dX11_next_225 (tgt := 232) (by decide) (fun c => ?_) (fun c => ?_)
  · replace hyp := hyp.1 c
    refine ax_aload_n hX dX11_next_232 (Or.inr ⟨_, rfl⟩) rfl ?_
    refine tx_getJ hX fRX11_71 ly_105 fk_11_10 (by decide) (Nat.lt_of_lt_of_le (by decide) hsz) dX11_next_233 ?_
    obtain ⟨Q1, hK, hyp⟩ := hyp
    refine ax_callS hX lRX11_75 sm_X11_isKept cw_X11_isKept (A := [.long (T.2.1 105 10)]) (st := [.ref 105]) rfl rfl (Nat.le_of_ble_eq_true rfl) (by decide) (by decide) dX11_next_236 hK ?_
    rintro _ _ ⟨r1, T1, rfl, rfl, hq⟩
    replace hyp := hyp r1 T1 hq
    refine ax_if_eq hX dX11_next_239 (tgt := 246) (by decide) (fun c => ?_) (fun c => ?_)
    · replace hyp := hyp.1 c
      refine ax_iconst hX dX11_next_246 (v := 2) (by decide) ?_
      refine tx_putI hX fRX11_61 ly_105 fk_11_8 (by decide) (Nat.lt_of_lt_of_le (by decide) hsz) rfl rfl dX11_next_247 ?_
      refine ax_goto hX dX11_next_250 (tgt := 452) (by decide) ?_
      exact hR.2.2.2 _ _ _ _ _ (by decide) (by decide) dX11_next_452 rfl ⟨_, rfl, rfl, hyp⟩
    · replace hyp := hyp.2 c
      refine ax_iconst hX dX11_next_242 (v := 3) (by decide) ?_
      refine ax_goto hX dX11_next_243 (tgt := 247) (by decide) ?_
      refine tx_putI hX fRX11_61 ly_105 fk_11_8 (by decide) (Nat.lt_of_lt_of_le (by decide) hsz) rfl rfl dX11_next_247 ?_
      refine ax_goto hX dX11_next_250 (tgt := 452) (by decide) ?_
      exact hR.2.2.2 _ _ _ _ _ (by decide) (by decide) dX11_next_452 rfl ⟨_, rfl, rfl, hyp⟩
  · replace hyp := hyp.2 c
    refine ax_iconst hX dX11_next_228 (v := 1) (by decide) ?_
    refine ax_goto hX dX11_next_229 (tgt := 247) (by decide) ?_
    refine tx_putI hX fRX11_61 ly_105 fk_11_8 (by decide) (Nat.lt_of_lt_of_le (by decide) hsz) rfl rfl dX11_next_247 ?_
    refine ax_goto hX dX11_next_250 (tgt := 452) (by decide) ?_
    exact hR.2.2.2 _ _ _ _ _ (by decide) (by decide) dX11_next_452 rfl ⟨_, rfl, rfl, hyp⟩
set_option maxRecDepth 10000 in
theorem s_X11_nextOf_0 {X : ax_X} {d L sz : Nat} {T : tT} {Q : Int32 → tT → Prop} (hX : ax_ok X mX11_nextOf d) (hR : ax_Ret X mX11_nextOf (ti L sz Q)) (hsz : 161 ≤ sz) (x0 : Int32) (x1 : Int32) (hyp : ax_j X 5 [some (.ref 105), some (.int x0), some (.int x1), some (.int (-1 : Int32)), some (.int (0 : Int32))] [] (th L sz T) 0 0) : ax_j X 0 [some (.ref 105), some (.int x0), some (.int x1), none, none] [] (th L sz T) 0 0 := by
  refine ax_iconst hX dX11_nextOf_0 (v := -1) (by decide) ?_
  refine ax_istore_n hX dX11_nextOf_1 (by decide) (L' := [some (.ref 105), some (.int x0), some (.int x1), some (.int (-1 : Int32)), none]) rfl ?_
  refine ax_iconst hX dX11_nextOf_2 (v := 0) (by decide) ?_
  refine ax_istore hX dX11_nextOf_3 (by decide) (L' := [some (.ref 105), some (.int x0), some (.int x1), some (.int (-1 : Int32)), some (.int (0 : Int32))]) rfl ?_
  exact ax_forget (L' := [some (.ref 105), some (.int x0), some (.int x1), some (.int (-1 : Int32)), some (.int (0 : Int32))]) (⟨rfl, ⟨rfl, ⟨rfl, ⟨rfl, ⟨rfl, trivial⟩⟩⟩⟩⟩) hyp
set_option maxRecDepth 10000 in
theorem s_X11_nextOf_5 {X : ax_X} {d L sz : Nat} {T : tT} {Q : Int32 → tT → Prop} (hX : ax_ok X mX11_nextOf d) (hR : ax_Ret X mX11_nextOf (ti L sz Q)) (hsz : 161 ≤ sz) (v1 : Int32) (v2 : Int32) (v3 : Int32) (v4 : Int32) (hyp : (((T.1 105 58) ≤ v4 → Q v3 T) ∧ (¬ (T.1 105 58) ≤ v4 → ((¬ ((v1 >>> (v4 &&& 31)) &&& (1 : Int32)) = (1 : Int32) → ax_j X 5 [some (.ref 105), some (.int v1), some (.int v2), some (.int v3), some (.int (v4 + (1 : Int32)))] [] (th L sz T) 0 0) ∧ (((v1 >>> (v4 &&& 31)) &&& (1 : Int32)) = (1 : Int32) → vp_in v4 9 ∧ (((T.1 146 (v4.toNatClampNeg)) < v2 → ax_j X 5 [some (.ref 105), some (.int v1), some (.int v2), some (.int v3), some (.int (v4 + (1 : Int32)))] [] (th L sz T) 0 0) ∧ (¬ (T.1 146 (v4.toNatClampNeg)) < v2 → ((v3 < 0 → ax_j X 5 [some (.ref 105), some (.int v1), some (.int v2), some (.int v4), some (.int (v4 + (1 : Int32)))] [] (th L sz T) 0 0) ∧ (¬ v3 < 0 → vp_in v4 9 ∧ vp_in v3 9 ∧ (((T.1 146 (v3.toNatClampNeg)) ≤ (T.1 146 (v4.toNatClampNeg)) → ax_j X 5 [some (.ref 105), some (.int v1), some (.int v2), some (.int v3), some (.int (v4 + (1 : Int32)))] [] (th L sz T) 0 0) ∧ (¬ (T.1 146 (v3.toNatClampNeg)) ≤ (T.1 146 (v4.toNatClampNeg)) → ax_j X 5 [some (.ref 105), some (.int v1), some (.int v2), some (.int v4), some (.int (v4 + (1 : Int32)))] [] (th L sz T) 0 0))))))))))) : ax_j X 5 [some (.ref 105), some (.int v1), some (.int v2), some (.int v3), some (.int v4)] [] (th L sz T) 0 0 := by
  refine ax_iload hX dX11_nextOf_5 rfl ?_
  refine ax_aload_n hX dX11_nextOf_7 (Or.inr ⟨_, rfl⟩) rfl ?_
  refine tx_getI hX fRX11_400 ly_105 fk_11_58 (by decide) (Nat.lt_of_lt_of_le (by decide) hsz) dX11_nextOf_8 ?_
  refine ax_icmp_ge hX dX11_nextOf_11 (tgt := 64) (by decide) (fun c => ?_) (fun c => ?_)
  · replace hyp := hyp.1 c
    refine ax_iload_n hX dX11_nextOf_64 rfl ?_
    exact hR.1 _ _ _ _ _ _ (by decide) (by decide) dX11_nextOf_65 ⟨_, rfl, rfl⟩ ⟨_, _, rfl, rfl, hyp⟩
  · replace hyp := hyp.2 c
    refine ax_iload_n hX dX11_nextOf_14 rfl ?_
    refine ax_iload hX dX11_nextOf_15 rfl ?_
    refine ax_ishr hX dX11_nextOf_17 ?_
    refine ax_iconst hX dX11_nextOf_18 (v := 1) (by decide) ?_
    refine ax_iand hX dX11_nextOf_19 ?_
    refine ax_iconst hX dX11_nextOf_20 (v := 1) (by decide) ?_
    refine ax_icmp_ne hX dX11_nextOf_21 (tgt := 58) (by decide) (fun c => ?_) (fun c => ?_)
    · replace hyp := hyp.1 c
      refine ax_iinc hX dX11_nextOf_58 rfl (w := (v4 + (1 : Int32))) rfl (by decide) (L' := [some (.ref 105), some (.int v1), some (.int v2), some (.int v3), some (.int (v4 + (1 : Int32)))]) rfl ?_
      refine ax_goto hX dX11_nextOf_61 (tgt := 5) (by decide) ?_
      exact ax_forget (L' := [some (.ref 105), some (.int v1), some (.int v2), some (.int v3), some (.int (v4 + (1 : Int32)))]) (⟨rfl, ⟨rfl, ⟨rfl, ⟨rfl, ⟨rfl, trivial⟩⟩⟩⟩⟩) hyp
    · replace hyp := hyp.2 c
      refine ax_aload_n hX dX11_nextOf_24 (Or.inr ⟨_, rfl⟩) rfl ?_
      refine tx_getF hX fRX11_227 ly_105 (o := 41) (b := 146) fk_11_55 rfl (by decide) (Nat.lt_of_lt_of_le (by decide) hsz) dX11_nextOf_25 ?_
      refine ax_iload hX dX11_nextOf_28 rfl ?_
      refine tx_ial hX ly_146 (by decide) (Nat.lt_of_lt_of_le (by decide) hsz) hyp.1 dX11_nextOf_30 ?_
      replace hyp := hyp.2
      refine ax_iload_n hX dX11_nextOf_31 rfl ?_
      refine ax_icmp_lt hX dX11_nextOf_32 (tgt := 58) (by decide) (fun c => ?_) (fun c => ?_)
      · replace hyp := hyp.1 c
        refine ax_iinc hX dX11_nextOf_58 rfl (w := (v4 + (1 : Int32))) rfl (by decide) (L' := [some (.ref 105), some (.int v1), some (.int v2), some (.int v3), some (.int (v4 + (1 : Int32)))]) rfl ?_
        refine ax_goto hX dX11_nextOf_61 (tgt := 5) (by decide) ?_
        exact ax_forget (L' := [some (.ref 105), some (.int v1), some (.int v2), some (.int v3), some (.int (v4 + (1 : Int32)))]) (⟨rfl, ⟨rfl, ⟨rfl, ⟨rfl, ⟨rfl, trivial⟩⟩⟩⟩⟩) hyp
      · replace hyp := hyp.2 c
        refine ax_iload_n hX dX11_nextOf_35 rfl ?_
        refine ax_if_lt hX dX11_nextOf_36 (tgt := 55) (by decide) (fun c => ?_) (fun c => ?_)
        · replace hyp := hyp.1 c
          refine ax_iload hX dX11_nextOf_55 rfl ?_
          refine ax_istore_n hX dX11_nextOf_57 (by decide) (L' := [some (.ref 105), some (.int v1), some (.int v2), some (.int v4), some (.int v4)]) rfl ?_
          refine ax_iinc hX dX11_nextOf_58 rfl (w := (v4 + (1 : Int32))) rfl (by decide) (L' := [some (.ref 105), some (.int v1), some (.int v2), some (.int v4), some (.int (v4 + (1 : Int32)))]) rfl ?_
          refine ax_goto hX dX11_nextOf_61 (tgt := 5) (by decide) ?_
          exact ax_forget (L' := [some (.ref 105), some (.int v1), some (.int v2), some (.int v4), some (.int (v4 + (1 : Int32)))]) (⟨rfl, ⟨rfl, ⟨rfl, ⟨rfl, ⟨rfl, trivial⟩⟩⟩⟩⟩) hyp
        · replace hyp := hyp.2 c
          refine ax_aload_n hX dX11_nextOf_39 (Or.inr ⟨_, rfl⟩) rfl ?_
          refine tx_getF hX fRX11_227 ly_105 (o := 41) (b := 146) fk_11_55 rfl (by decide) (Nat.lt_of_lt_of_le (by decide) hsz) dX11_nextOf_40 ?_
          refine ax_iload hX dX11_nextOf_43 rfl ?_
          refine tx_ial hX ly_146 (by decide) (Nat.lt_of_lt_of_le (by decide) hsz) hyp.1 dX11_nextOf_45 ?_
          replace hyp := hyp.2
          refine ax_aload_n hX dX11_nextOf_46 (Or.inr ⟨_, rfl⟩) rfl ?_
          refine tx_getF hX fRX11_227 ly_105 (o := 41) (b := 146) fk_11_55 rfl (by decide) (Nat.lt_of_lt_of_le (by decide) hsz) dX11_nextOf_47 ?_
          refine ax_iload_n hX dX11_nextOf_50 rfl ?_
          refine tx_ial hX ly_146 (by decide) (Nat.lt_of_lt_of_le (by decide) hsz) hyp.1 dX11_nextOf_51 ?_
          replace hyp := hyp.2
          refine ax_icmp_ge hX dX11_nextOf_52 (tgt := 58) (by decide) (fun c => ?_) (fun c => ?_)
          · replace hyp := hyp.1 c
            refine ax_iinc hX dX11_nextOf_58 rfl (w := (v4 + (1 : Int32))) rfl (by decide) (L' := [some (.ref 105), some (.int v1), some (.int v2), some (.int v3), some (.int (v4 + (1 : Int32)))]) rfl ?_
            refine ax_goto hX dX11_nextOf_61 (tgt := 5) (by decide) ?_
            exact ax_forget (L' := [some (.ref 105), some (.int v1), some (.int v2), some (.int v3), some (.int (v4 + (1 : Int32)))]) (⟨rfl, ⟨rfl, ⟨rfl, ⟨rfl, ⟨rfl, trivial⟩⟩⟩⟩⟩) hyp
          · replace hyp := hyp.2 c
            refine ax_iload hX dX11_nextOf_55 rfl ?_
            refine ax_istore_n hX dX11_nextOf_57 (by decide) (L' := [some (.ref 105), some (.int v1), some (.int v2), some (.int v4), some (.int v4)]) rfl ?_
            refine ax_iinc hX dX11_nextOf_58 rfl (w := (v4 + (1 : Int32))) rfl (by decide) (L' := [some (.ref 105), some (.int v1), some (.int v2), some (.int v4), some (.int (v4 + (1 : Int32)))]) rfl ?_
            refine ax_goto hX dX11_nextOf_61 (tgt := 5) (by decide) ?_
            exact ax_forget (L' := [some (.ref 105), some (.int v1), some (.int v2), some (.int v4), some (.int (v4 + (1 : Int32)))]) (⟨rfl, ⟨rfl, ⟨rfl, ⟨rfl, ⟨rfl, trivial⟩⟩⟩⟩⟩) hyp
set_option maxRecDepth 10000 in
theorem s_X11_numberOf_0 {X : ax_X} {d L sz : Nat} {T : tT} {Q : Int32 → tT → Prop} (hX : ax_ok X mX11_numberOf (d + 1)) (hR : ax_Ret X mX11_numberOf (ti L sz Q)) (hsz : 161 ≤ sz) (x0 : Int32) (x1 : Int32) (hyp : (((T.1 105 8) = (4 : Int32) → ax_j X 12 [some (.ref 105), some (.int x0), some (.int x1), none] [] (th L sz T) 0 0) ∧ (¬ (T.1 105 8) = (4 : Int32) → ∃ Q1, tvK d mX11_wrong [.ref 105] L sz T Q1 ∧ ∀ (T1 : tT), Q1 T1 → (ax_j X 12 [some (.ref 105), some (.int x0), some (.int x1), none] [] (th L sz T1) 0 0)))) : ax_j X 0 [some (.ref 105), some (.int x0), some (.int x1), none] [] (th L sz T) 0 0 := by
  refine ax_aload_n hX dX11_numberOf_0 (Or.inr ⟨_, rfl⟩) rfl ?_
  refine tx_getI hX fRX11_61 ly_105 fk_11_8 (by decide) (Nat.lt_of_lt_of_le (by decide) hsz) dX11_numberOf_1 ?_
  refine ax_iconst hX dX11_numberOf_4 (v := 4) (by decide) ?_
  refine ax_icmp_eq hX dX11_numberOf_5 (tgt := 12) (by decide) (fun c => ?_) (fun c => ?_)
  · replace hyp := hyp.1 c
    exact ax_forget (L' := [some (.ref 105), some (.int x0), some (.int x1), none]) (⟨rfl, ⟨rfl, ⟨rfl, trivial⟩⟩⟩) hyp
  · replace hyp := hyp.2 c
    refine ax_aload_n hX dX11_numberOf_8 (Or.inr ⟨_, rfl⟩) rfl ?_
    obtain ⟨Q1, hK, hyp⟩ := hyp
    refine ax_callV hX lRX11_92 im_X11_wrong sl_X11_wrong cw_X11_wrong ((th_at (by decide) (Nat.lt_of_lt_of_le (by decide) hsz)).trans (tc_ob ly_105)) rfl rfl (A := []) (st := []) rfl rfl (Nat.le_of_ble_eq_true rfl) (by decide) (by decide) dX11_numberOf_9 hK ?_
    rintro _ _ ⟨T1, rfl, rfl, hq⟩
    replace hyp := hyp T1 hq
    exact ax_forget (L' := [some (.ref 105), some (.int x0), some (.int x1), none]) (⟨rfl, ⟨rfl, ⟨rfl, trivial⟩⟩⟩) hyp
set_option maxRecDepth 10000 in
theorem s_X11_numberOf_12 {X : ax_X} {d L sz : Nat} {T : tT} {Q : Int32 → tT → Prop} (hX : ax_ok X mX11_numberOf (d + 1)) (hR : ax_Ret X mX11_numberOf (ti L sz Q)) (hsz : 161 ≤ sz) (v1 : Int32) (v2 : Int32) (hyp : ∃ Q1, tiK d mX11_isGood [.ref 105] L sz T Q1 ∧ ∀ (r1 : Int32) (T1 : tT), Q1 r1 T1 → (((r1 = 0 → ax_j X 44 [some (.ref 105), none, none, none] [] (th L sz T1) 0 0) ∧ (¬ r1 = 0 → (((T1.1 105 9) < v1 → ax_j X 35 [some (.ref 105), none, none, none] [] (th L sz T1) 0 0) ∧ (¬ (T1.1 105 9) < v1 → (((T1.1 105 9) ≤ v2 → ax_j X 44 [some (.ref 105), none, none, none] [] (th L sz T1) 0 0) ∧ (¬ (T1.1 105 9) ≤ v2 → ax_j X 35 [some (.ref 105), none, none, none] [] (th L sz T1) 0 0)))))))) : ax_j X 12 [some (.ref 105), some (.int v1), some (.int v2), none] [] (th L sz T) 0 0 := by
  refine ax_aload_n hX dX11_numberOf_12 (Or.inr ⟨_, rfl⟩) rfl ?_
  obtain ⟨Q1, hK, hyp⟩ := hyp
  refine ax_callV hX lRX11_95 im_X11_isGood sl_X11_isGood cw_X11_isGood ((th_at (by decide) (Nat.lt_of_lt_of_le (by decide) hsz)).trans (tc_ob ly_105)) rfl rfl (A := []) (st := []) rfl rfl (Nat.le_of_ble_eq_true rfl) (by decide) (by decide) dX11_numberOf_13 hK ?_
  rintro _ _ ⟨r1, T1, rfl, rfl, hq⟩
  replace hyp := hyp r1 T1 hq
  refine ax_if_eq hX dX11_numberOf_16 (tgt := 44) (by decide) (fun c => ?_) (fun c => ?_)
  · replace hyp := hyp.1 c
    exact ax_forget (L' := [some (.ref 105), none, none, none]) (⟨rfl, trivial⟩) hyp
  · replace hyp := hyp.2 c
    refine ax_aload_n hX dX11_numberOf_19 (Or.inr ⟨_, rfl⟩) rfl ?_
    refine tx_getI hX fRX11_78 ly_105 fk_11_9 (by decide) (Nat.lt_of_lt_of_le (by decide) hsz) dX11_numberOf_20 ?_
    refine ax_iload_n hX dX11_numberOf_23 rfl ?_
    refine ax_icmp_lt hX dX11_numberOf_24 (tgt := 35) (by decide) (fun c => ?_) (fun c => ?_)
    · replace hyp := hyp.1 c
      exact ax_forget (L' := [some (.ref 105), none, none, none]) (⟨rfl, trivial⟩) hyp
    · replace hyp := hyp.2 c
      refine ax_aload_n hX dX11_numberOf_27 (Or.inr ⟨_, rfl⟩) rfl ?_
      refine tx_getI hX fRX11_78 ly_105 fk_11_9 (by decide) (Nat.lt_of_lt_of_le (by decide) hsz) dX11_numberOf_28 ?_
      refine ax_iload_n hX dX11_numberOf_31 rfl ?_
      refine ax_icmp_le hX dX11_numberOf_32 (tgt := 44) (by decide) (fun c => ?_) (fun c => ?_)
      · replace hyp := hyp.1 c
        exact ax_forget (L' := [some (.ref 105), none, none, none]) (⟨rfl, trivial⟩) hyp
      · replace hyp := hyp.2 c
        exact ax_forget (L' := [some (.ref 105), none, none, none]) (⟨rfl, trivial⟩) hyp
set_option maxRecDepth 10000 in
theorem s_X11_numberOf_44 {X : ax_X} {d L sz : Nat} {T : tT} {Q : Int32 → tT → Prop} (hX : ax_ok X mX11_numberOf (d + 1)) (hR : ax_Ret X mX11_numberOf (ti L sz Q)) (hsz : 161 ≤ sz)  (hyp : ∃ Q1, tiK d mX11_isGood [.ref 105] L sz T Q1 ∧ ∀ (r1 : Int32) (T1 : tT), Q1 r1 T1 → (((r1 = 0 → Q (T.1 105 9) T1) ∧ (¬ r1 = 0 → ∃ Q1, tvK d mX11_next [.ref 105] L sz T1 Q1 ∧ ∀ (T2 : tT), Q1 T2 → (Q (T.1 105 9) T2))))) : ax_j X 44 [some (.ref 105), none, none, none] [] (th L sz T) 0 0 := by
  refine ax_aload_n hX dX11_numberOf_44 (Or.inr ⟨_, rfl⟩) rfl ?_
  refine tx_getI hX fRX11_78 ly_105 fk_11_9 (by decide) (Nat.lt_of_lt_of_le (by decide) hsz) dX11_numberOf_45 ?_
  refine ax_istore_n hX dX11_numberOf_48 (by decide) (L' := [some (.ref 105), none, none, some (.int (T.1 105 9))]) rfl ?_
  refine ax_aload_n hX dX11_numberOf_49 (Or.inr ⟨_, rfl⟩) rfl ?_
  obtain ⟨Q1, hK, hyp⟩ := hyp
  refine ax_callV hX lRX11_95 im_X11_isGood sl_X11_isGood cw_X11_isGood ((th_at (by decide) (Nat.lt_of_lt_of_le (by decide) hsz)).trans (tc_ob ly_105)) rfl rfl (A := []) (st := []) rfl rfl (Nat.le_of_ble_eq_true rfl) (by decide) (by decide) dX11_numberOf_50 hK ?_
  rintro _ _ ⟨r1, T1, rfl, rfl, hq⟩
  replace hyp := hyp r1 T1 hq
  refine ax_if_eq hX dX11_numberOf_53 (tgt := 60) (by decide) (fun c => ?_) (fun c => ?_)
  · replace hyp := hyp.1 c
    refine ax_iload_n hX dX11_numberOf_60 rfl ?_
    exact hR.1 _ _ _ _ _ _ (by decide) (by decide) dX11_numberOf_61 ⟨_, rfl, rfl⟩ ⟨_, _, rfl, rfl, hyp⟩
  · replace hyp := hyp.2 c
    refine ax_aload_n hX dX11_numberOf_56 (Or.inr ⟨_, rfl⟩) rfl ?_
    obtain ⟨Q1, hK, hyp⟩ := hyp
    refine ax_callV hX lRX11_88 im_X11_next sl_X11_next cw_X11_next ((th_at (by decide) (Nat.lt_of_lt_of_le (by decide) hsz)).trans (tc_ob ly_105)) rfl rfl (A := []) (st := []) rfl rfl (Nat.le_of_ble_eq_true rfl) (by decide) (by decide) dX11_numberOf_57 hK ?_
    rintro _ _ ⟨T2, rfl, rfl, hq⟩
    replace hyp := hyp T2 hq
    refine ax_iload_n hX dX11_numberOf_60 rfl ?_
    exact hR.1 _ _ _ _ _ _ (by decide) (by decide) dX11_numberOf_61 ⟨_, rfl, rfl⟩ ⟨_, _, rfl, rfl, hyp⟩
set_option maxRecDepth 10000 in
theorem s_X11_numberOf_35 {X : ax_X} {d L sz : Nat} {T : tT} {Q : Int32 → tT → Prop} (hX : ax_ok X mX11_numberOf (d + 1)) (hR : ax_Ret X mX11_numberOf (ti L sz Q)) (hsz : 161 ≤ sz)  (hyp : ∃ Q1, tvK d mX11_fails [.ref 105, .int (5 : Int32), .int (T.1 105 6)] L sz T Q1 ∧ ∀ (T1 : tT), Q1 T1 → (ax_j X 44 [some (.ref 105), none, none, none] [] (th L sz T1) 0 0)) : ax_j X 35 [some (.ref 105), none, none, none] [] (th L sz T) 0 0 := by
  refine ax_aload_n hX dX11_numberOf_35 (Or.inr ⟨_, rfl⟩) rfl ?_
  refine ax_iconst hX dX11_numberOf_36 (v := 5) (by decide) ?_
  refine ax_aload_n hX dX11_numberOf_37 (Or.inr ⟨_, rfl⟩) rfl ?_
  refine tx_getI hX fRX11_54 ly_105 fk_11_6 (by decide) (Nat.lt_of_lt_of_le (by decide) hsz) dX11_numberOf_38 ?_
  obtain ⟨Q1, hK, hyp⟩ := hyp
  refine ax_callV hX lRX11_81 im_X11_fails sl_X11_fails cw_X11_fails ((th_at (by decide) (Nat.lt_of_lt_of_le (by decide) hsz)).trans (tc_ob ly_105)) rfl rfl (A := [.int (5 : Int32), .int (T.1 105 6)]) (st := []) rfl rfl (Nat.le_of_ble_eq_true rfl) (by decide) (by decide) dX11_numberOf_41 hK ?_
  rintro _ _ ⟨T1, rfl, rfl, hq⟩
  replace hyp := hyp T1 hq
  exact ax_forget (L' := [some (.ref 105), none, none, none]) (⟨rfl, trivial⟩) hyp
set_option maxRecDepth 10000 in
theorem s_X11_of_0 {X : ax_X} {d L sz : Nat} {T : tT} {Q : Int32 → tT → Prop} (hX : ax_ok X mX11_of (d + 1)) (hR : ax_Ret X mX11_of (ti L sz Q)) (hsz : 161 ≤ sz) (x0 : Int32) (x1 : Int32) (hyp : ∃ Q1, tiK d mX11_isSession [.ref 105, .int x0] L sz T Q1 ∧ ∀ (r1 : Int32) (T1 : tT), Q1 r1 T1 → (((¬ r1 = 0 → ax_j X 15 [some (.ref 105), some (.int x0), some (.int x1), some (.int (0 : Int32)), some (.int (0 : Int32))] [] (th L sz T1) 0 0) ∧ (r1 = 0 → Q (-1 : Int32) T1)))) : ax_j X 0 [some (.ref 105), some (.int x0), some (.int x1), none, none] [] (th L sz T) 0 0 := by
  refine ax_aload_n hX dX11_of_0 (Or.inr ⟨_, rfl⟩) rfl ?_
  refine ax_iload_n hX dX11_of_1 rfl ?_
  obtain ⟨Q1, hK, hyp⟩ := hyp
  refine ax_callV hX lRX11_403 im_X11_isSession sl_X11_isSession cw_X11_isSession ((th_at (by decide) (Nat.lt_of_lt_of_le (by decide) hsz)).trans (tc_ob ly_105)) rfl rfl (A := [.int x0]) (st := []) rfl rfl (Nat.le_of_ble_eq_true rfl) (by decide) (by decide) dX11_of_2 hK ?_
  rintro _ _ ⟨r1, T1, rfl, rfl, hq⟩
  replace hyp := hyp r1 T1 hq
  refine ax_if_ne hX dX11_of_5 (tgt := 10) (by decide) (fun c => ?_) (fun c => ?_)
  · replace hyp := hyp.1 c
    refine ax_iconst hX dX11_of_10 (v := 0) (by decide) ?_
    refine ax_istore_n hX dX11_of_11 (by decide) (L' := [some (.ref 105), some (.int x0), some (.int x1), some (.int (0 : Int32)), none]) rfl ?_
    refine ax_iconst hX dX11_of_12 (v := 0) (by decide) ?_
    refine ax_istore hX dX11_of_13 (by decide) (L' := [some (.ref 105), some (.int x0), some (.int x1), some (.int (0 : Int32)), some (.int (0 : Int32))]) rfl ?_
    exact ax_forget (L' := [some (.ref 105), some (.int x0), some (.int x1), some (.int (0 : Int32)), some (.int (0 : Int32))]) (⟨rfl, ⟨rfl, ⟨rfl, ⟨rfl, ⟨rfl, trivial⟩⟩⟩⟩⟩) hyp
  · replace hyp := hyp.2 c
    refine ax_iconst hX dX11_of_8 (v := -1) (by decide) ?_
    exact hR.1 _ _ _ _ _ _ (by decide) (by decide) dX11_of_9 ⟨_, rfl, rfl⟩ ⟨_, _, rfl, rfl, hyp⟩
set_option maxRecDepth 10000 in
theorem s_X11_of_15 {X : ax_X} {d L sz : Nat} {T : tT} {Q : Int32 → tT → Prop} (hX : ax_ok X mX11_of (d + 1)) (hR : ax_Ret X mX11_of (ti L sz Q)) (hsz : 161 ≤ sz) (v1 : Int32) (v2 : Int32) (v3 : Int32) (v4 : Int32) (hyp : (((T.1 105 48) ≤ v4 → (v2 = 0 → vp_in v1 9 ∧ Q (T.1 145 (v1.toNatClampNeg)) T) ∧ (v2 = 1 → vp_in v1 9 ∧ Q (T.1 146 (v1.toNatClampNeg)) T) ∧ (v2 = 2 → Q v3 T) ∧ (v2 = 3 → ∃ Q1, tiK d mX11_minutesIn [.ref 105, .int v1, .int (-1 : Int32)] L sz T Q1 ∧ ∀ (r1 : Int32) (T1 : tT), Q1 r1 T1 → (Q r1 T1)) ∧ (¬ v2 = 0 → ¬ v2 = 1 → ¬ v2 = 2 → ¬ v2 = 3 → Q (-1 : Int32) T)) ∧ (¬ (T.1 105 48) ≤ v4 → vp_in v4 40 ∧ ((¬ (T.1 138 (v4.toNatClampNeg)) = v1 → ax_j X 15 [some (.ref 105), some (.int v1), some (.int v2), some (.int (v3 + (0 : Int32))), some (.int (v4 + (1 : Int32)))] [] (th L sz T) 0 0) ∧ ((T.1 138 (v4.toNatClampNeg)) = v1 → ax_j X 15 [some (.ref 105), some (.int v1), some (.int v2), some (.int (v3 + (1 : Int32))), some (.int (v4 + (1 : Int32)))] [] (th L sz T) 0 0))))) : ax_j X 15 [some (.ref 105), some (.int v1), some (.int v2), some (.int v3), some (.int v4)] [] (th L sz T) 0 0 := by
  refine ax_iload hX dX11_of_15 rfl ?_
  refine ax_aload_n hX dX11_of_17 (Or.inr ⟨_, rfl⟩) rfl ?_
  refine tx_getI hX fRX11_354 ly_105 fk_11_48 (by decide) (Nat.lt_of_lt_of_le (by decide) hsz) dX11_of_18 ?_
  refine ax_icmp_ge hX dX11_of_21 (tgt := 49) (by decide) (fun c => ?_) (fun c => ?_)
  · replace hyp := hyp.1 c
    refine ax_iload_n hX dX11_of_49 rfl ?_
    by_cases q0 : v2 = 0
    · replace hyp := hyp.1 q0
      refine ax_tableIn hX dX11_of_50 (by rw [q0]; decide) (by rw [q0]; decide) (off := 30) (by rw [q0]; rfl) (tgt := 80) (by decide) ?_
      refine ax_aload_n hX dX11_of_80 (Or.inr ⟨_, rfl⟩) rfl ?_
      refine tx_getF hX fRX11_224 ly_105 (o := 40) (b := 145) fk_11_54 rfl (by decide) (Nat.lt_of_lt_of_le (by decide) hsz) dX11_of_81 ?_
      refine ax_iload_n hX dX11_of_84 rfl ?_
      refine tx_ial hX ly_145 (by decide) (Nat.lt_of_lt_of_le (by decide) hsz) hyp.1 dX11_of_85 ?_
      replace hyp := hyp.2
      exact hR.1 _ _ _ _ _ _ (by decide) (by decide) dX11_of_86 ⟨_, rfl, rfl⟩ ⟨_, _, rfl, rfl, hyp⟩
    by_cases q1 : v2 = 1
    · replace hyp := hyp.2.1 q1
      refine ax_tableIn hX dX11_of_50 (by rw [q1]; decide) (by rw [q1]; decide) (off := 37) (by rw [q1]; rfl) (tgt := 87) (by decide) ?_
      refine ax_aload_n hX dX11_of_87 (Or.inr ⟨_, rfl⟩) rfl ?_
      refine tx_getF hX fRX11_227 ly_105 (o := 41) (b := 146) fk_11_55 rfl (by decide) (Nat.lt_of_lt_of_le (by decide) hsz) dX11_of_88 ?_
      refine ax_iload_n hX dX11_of_91 rfl ?_
      refine tx_ial hX ly_146 (by decide) (Nat.lt_of_lt_of_le (by decide) hsz) hyp.1 dX11_of_92 ?_
      replace hyp := hyp.2
      exact hR.1 _ _ _ _ _ _ (by decide) (by decide) dX11_of_93 ⟨_, rfl, rfl⟩ ⟨_, _, rfl, rfl, hyp⟩
    by_cases q2 : v2 = 2
    · replace hyp := hyp.2.2.1 q2
      refine ax_tableIn hX dX11_of_50 (by rw [q2]; decide) (by rw [q2]; decide) (off := 44) (by rw [q2]; rfl) (tgt := 94) (by decide) ?_
      refine ax_iload_n hX dX11_of_94 rfl ?_
      exact hR.1 _ _ _ _ _ _ (by decide) (by decide) dX11_of_95 ⟨_, rfl, rfl⟩ ⟨_, _, rfl, rfl, hyp⟩
    by_cases q3 : v2 = 3
    · replace hyp := hyp.2.2.2.1 q3
      refine ax_tableIn hX dX11_of_50 (by rw [q3]; decide) (by rw [q3]; decide) (off := 46) (by rw [q3]; rfl) (tgt := 96) (by decide) ?_
      refine ax_aload_n hX dX11_of_96 (Or.inr ⟨_, rfl⟩) rfl ?_
      refine ax_iload_n hX dX11_of_97 rfl ?_
      refine ax_iconst hX dX11_of_98 (v := -1) (by decide) ?_
      obtain ⟨Q1, hK, hyp⟩ := hyp
      refine ax_callV hX lRX11_406 im_X11_minutesIn sl_X11_minutesIn cw_X11_minutesIn ((th_at (by decide) (Nat.lt_of_lt_of_le (by decide) hsz)).trans (tc_ob ly_105)) rfl rfl (A := [.int v1, .int (-1 : Int32)]) (st := []) rfl rfl (Nat.le_of_ble_eq_true rfl) (by decide) (by decide) dX11_of_99 hK ?_
      rintro _ _ ⟨r1, T1, rfl, rfl, hq⟩
      replace hyp := hyp r1 T1 hq
      exact hR.1 _ _ _ _ _ _ (by decide) (by decide) dX11_of_102 ⟨_, rfl, rfl⟩ ⟨_, _, rfl, rfl, hyp⟩
    replace hyp := hyp.2.2.2.2 q0 q1 q2 q3
    have z0 := lv_neT (a := 0) q0 rfl
    have z1 := lv_neT (a := 1) q1 rfl
    have z2 := lv_neT (a := 2) q2 rfl
    have z3 := lv_neT (a := 3) q3 rfl
    refine ax_tableOut hX dX11_of_50 (by omega) (tgt := 103) (by decide) ?_
    refine ax_iconst hX dX11_of_103 (v := -1) (by decide) ?_
    exact hR.1 _ _ _ _ _ _ (by decide) (by decide) dX11_of_104 ⟨_, rfl, rfl⟩ ⟨_, _, rfl, rfl, hyp⟩
  · replace hyp := hyp.2 c
    refine ax_iload_n hX dX11_of_24 rfl ?_
    refine ax_aload_n hX dX11_of_25 (Or.inr ⟨_, rfl⟩) rfl ?_
    refine tx_getF hX fRX11_203 ly_105 (o := 33) (b := 138) fk_11_46 rfl (by decide) (Nat.lt_of_lt_of_le (by decide) hsz) dX11_of_26 ?_
    refine ax_iload hX dX11_of_29 rfl ?_
    refine tx_ial hX ly_138 (by decide) (Nat.lt_of_lt_of_le (by decide) hsz) hyp.1 dX11_of_31 ?_
    replace hyp := hyp.2
    refine ax_iload_n hX dX11_of_32 rfl ?_
    refine ax_icmp_ne hX dX11_of_33 (tgt := 40) (by decide) (fun c => ?_) (fun c => ?_)
    · replace hyp := hyp.1 c
      refine ax_iconst hX dX11_of_40 (v := 0) (by decide) ?_
      refine ax_iadd hX dX11_of_41 ?_
      refine ax_istore_n hX dX11_of_42 (by decide) (L' := [some (.ref 105), some (.int v1), some (.int v2), some (.int (v3 + (0 : Int32))), some (.int v4)]) rfl ?_
      refine ax_iinc hX dX11_of_43 rfl (w := (v4 + (1 : Int32))) rfl (by decide) (L' := [some (.ref 105), some (.int v1), some (.int v2), some (.int (v3 + (0 : Int32))), some (.int (v4 + (1 : Int32)))]) rfl ?_
      refine ax_goto hX dX11_of_46 (tgt := 15) (by decide) ?_
      exact ax_forget (L' := [some (.ref 105), some (.int v1), some (.int v2), some (.int (v3 + (0 : Int32))), some (.int (v4 + (1 : Int32)))]) (⟨rfl, ⟨rfl, ⟨rfl, ⟨rfl, ⟨rfl, trivial⟩⟩⟩⟩⟩) hyp
    · replace hyp := hyp.2 c
      refine ax_iconst hX dX11_of_36 (v := 1) (by decide) ?_
      refine ax_goto hX dX11_of_37 (tgt := 41) (by decide) ?_
      refine ax_iadd hX dX11_of_41 ?_
      refine ax_istore_n hX dX11_of_42 (by decide) (L' := [some (.ref 105), some (.int v1), some (.int v2), some (.int (v3 + (1 : Int32))), some (.int v4)]) rfl ?_
      refine ax_iinc hX dX11_of_43 rfl (w := (v4 + (1 : Int32))) rfl (by decide) (L' := [some (.ref 105), some (.int v1), some (.int v2), some (.int (v3 + (1 : Int32))), some (.int (v4 + (1 : Int32)))]) rfl ?_
      refine ax_goto hX dX11_of_46 (tgt := 15) (by decide) ?_
      exact ax_forget (L' := [some (.ref 105), some (.int v1), some (.int v2), some (.int (v3 + (1 : Int32))), some (.int (v4 + (1 : Int32)))]) (⟨rfl, ⟨rfl, ⟨rfl, ⟨rfl, ⟨rfl, trivial⟩⟩⟩⟩⟩) hyp
set_option maxRecDepth 10000 in
theorem s_X11_partOf_0 {X : ax_X} {d L sz : Nat} {T : tT} {Q : Int32 → tT → Prop} (hX : ax_ok X mX11_partOf d) (hR : ax_Ret X mX11_partOf (ti L sz Q)) (hsz : 161 ≤ sz) (x0 : Int32) (x1 : Int64) (hyp : ax_j X 3 [some (.ref 105), some (.int x0), some (.long x1), none, some (.int (0 : Int32))] [] (th L sz T) 0 0) : ax_j X 0 [some (.ref 105), some (.int x0), some (.long x1), none, none] [] (th L sz T) 0 0 := by
  refine ax_iconst hX dX11_partOf_0 (v := 0) (by decide) ?_
  refine ax_istore hX dX11_partOf_1 (by decide) (L' := [some (.ref 105), some (.int x0), some (.long x1), none, some (.int (0 : Int32))]) rfl ?_
  exact ax_forget (L' := [some (.ref 105), some (.int x0), some (.long x1), none, some (.int (0 : Int32))]) (⟨rfl, ⟨rfl, ⟨rfl, ⟨rfl, trivial⟩⟩⟩⟩) hyp
set_option maxRecDepth 10000 in
theorem s_X11_partOf_3 {X : ax_X} {d L sz : Nat} {T : tT} {Q : Int32 → tT → Prop} (hX : ax_ok X mX11_partOf d) (hR : ax_Ret X mX11_partOf (ti L sz Q)) (hsz : 161 ≤ sz) (v1 : Int32) (v2 : Int64) (v4 : Int32) (hyp : vp_in v1 40 ∧ (((T.1 113 (v1.toNatClampNeg)) ≤ v4 → Q (-1 : Int32) T) ∧ (¬ (T.1 113 (v1.toNatClampNeg)) ≤ v4 → vp_in (((6 : Int32) * v1) + v4) 240 ∧ ((¬ (T.2.1 128 (((6 : Int32) * v1) + v4).toNatClampNeg) = v2 → ax_j X 3 [some (.ref 105), some (.int v1), some (.long v2), none, some (.int (v4 + (1 : Int32)))] [] (th L sz T) 0 0) ∧ ((T.2.1 128 (((6 : Int32) * v1) + v4).toNatClampNeg) = v2 → Q v4 T))))) : ax_j X 3 [some (.ref 105), some (.int v1), some (.long v2), none, some (.int v4)] [] (th L sz T) 0 0 := by
  refine ax_iload hX dX11_partOf_3 rfl ?_
  refine ax_aload_n hX dX11_partOf_5 (Or.inr ⟨_, rfl⟩) rfl ?_
  refine tx_getF hX fRX11_127 ly_105 (o := 8) (b := 113) fk_11_19 rfl (by decide) (Nat.lt_of_lt_of_le (by decide) hsz) dX11_partOf_6 ?_
  refine ax_iload_n hX dX11_partOf_9 rfl ?_
  refine tx_ial hX ly_113 (by decide) (Nat.lt_of_lt_of_le (by decide) hsz) hyp.1 dX11_partOf_10 ?_
  replace hyp := hyp.2
  refine ax_icmp_ge hX dX11_partOf_11 (tgt := 40) (by decide) (fun c => ?_) (fun c => ?_)
  · replace hyp := hyp.1 c
    refine ax_iconst hX dX11_partOf_40 (v := -1) (by decide) ?_
    exact hR.1 _ _ _ _ _ _ (by decide) (by decide) dX11_partOf_41 ⟨_, rfl, rfl⟩ ⟨_, _, rfl, rfl, hyp⟩
  · replace hyp := hyp.2 c
    refine ax_aload_n hX dX11_partOf_14 (Or.inr ⟨_, rfl⟩) rfl ?_
    refine tx_getF hX fRX11_173 ly_105 (o := 23) (b := 128) fk_11_34 rfl (by decide) (Nat.lt_of_lt_of_le (by decide) hsz) dX11_partOf_15 ?_
    refine ax_bipush hX dX11_partOf_18 (v := 6) (by decide) ?_
    refine ax_iload_n hX dX11_partOf_20 rfl ?_
    refine ax_imul hX dX11_partOf_21 ?_
    refine ax_iload hX dX11_partOf_22 rfl ?_
    refine ax_iadd hX dX11_partOf_24 ?_
    refine tx_lal hX ly_128 (by decide) (Nat.lt_of_lt_of_le (by decide) hsz) hyp.1 dX11_partOf_25 ?_
    replace hyp := hyp.2
    refine ax_lload_n hX dX11_partOf_26 rfl ?_
    refine tx_lcmp_ne hX dX11_partOf_27 dX11_partOf_28 (tgt := 34) (by decide) (fun c => ?_) (fun c => ?_)
    · replace hyp := hyp.1 c
      refine ax_iinc hX dX11_partOf_34 rfl (w := (v4 + (1 : Int32))) rfl (by decide) (L' := [some (.ref 105), some (.int v1), some (.long v2), none, some (.int (v4 + (1 : Int32)))]) rfl ?_
      refine ax_goto hX dX11_partOf_37 (tgt := 3) (by decide) ?_
      exact ax_forget (L' := [some (.ref 105), some (.int v1), some (.long v2), none, some (.int (v4 + (1 : Int32)))]) (⟨rfl, ⟨rfl, ⟨rfl, ⟨rfl, trivial⟩⟩⟩⟩) hyp
    · replace hyp := hyp.2 c
      refine ax_iload hX dX11_partOf_31 rfl ?_
      exact hR.1 _ _ _ _ _ _ (by decide) (by decide) dX11_partOf_33 ⟨_, rfl, rfl⟩ ⟨_, _, rfl, rfl, hyp⟩
set_option maxRecDepth 10000 in
theorem s_X11_piece_0 {X : ax_X} {d L sz : Nat} {T : tT} {Q : Int32 → tT → Prop} (hX : ax_ok X mX11_piece (d + 1)) (hR : ax_Ret X mX11_piece (ti L sz Q)) (hsz : 161 ≤ sz) (x0 : Int32) (x1 : Int64) (hyp : ∃ Q1, tiK d mX11_isEntry [.ref 105, .int x0] L sz T Q1 ∧ ∀ (r1 : Int32) (T1 : tT), Q1 r1 T1 → (((r1 = 0 → Q (-1 : Int32) T1) ∧ (¬ r1 = 0 → ∃ Q1, tiK d mX11_isName [.long x1] L sz T1 Q1 ∧ ∀ (r2 : Int32) (T2 : tT), Q1 r2 T2 → (((r2 = 0 → Q (-1 : Int32) T2) ∧ (¬ r2 = 0 → vp_in x0 40 ∧ ((¬ (T2.1 137 (x0.toNatClampNeg)) = (4 : Int32) → ax_j X 30 [some (.ref 105), some (.int x0), some (.long x1), none, some (.int (0 : Int32))] [] (th L sz T2) 0 0) ∧ ((T2.1 137 (x0.toNatClampNeg)) = (4 : Int32) → Q (-1 : Int32) T2))))))))) : ax_j X 0 [some (.ref 105), some (.int x0), some (.long x1), none, none] [] (th L sz T) 0 0 := by
  refine ax_aload_n hX dX11_piece_0 (Or.inr ⟨_, rfl⟩) rfl ?_
  refine ax_iload_n hX dX11_piece_1 rfl ?_
  obtain ⟨Q1, hK, hyp⟩ := hyp
  refine ax_callV hX lRX11_362 im_X11_isEntry sl_X11_isEntry cw_X11_isEntry ((th_at (by decide) (Nat.lt_of_lt_of_le (by decide) hsz)).trans (tc_ob ly_105)) rfl rfl (A := [.int x0]) (st := []) rfl rfl (Nat.le_of_ble_eq_true rfl) (by decide) (by decide) dX11_piece_2 hK ?_
  rintro _ _ ⟨r1, T1, rfl, rfl, hq⟩
  replace hyp := hyp r1 T1 hq
  refine ax_if_eq hX dX11_piece_5 (tgt := 25) (by decide) (fun c => ?_) (fun c => ?_)
  · replace hyp := hyp.1 c
    refine ax_iconst hX dX11_piece_25 (v := -1) (by decide) ?_
    exact hR.1 _ _ _ _ _ _ (by decide) (by decide) dX11_piece_26 ⟨_, rfl, rfl⟩ ⟨_, _, rfl, rfl, hyp⟩
  · replace hyp := hyp.2 c
    refine ax_lload_n hX dX11_piece_8 rfl ?_
    obtain ⟨Q1, hK, hyp⟩ := hyp
    refine ax_callS hX lRX11_365 sm_X11_isName cw_X11_isName (A := [.long x1]) (st := []) rfl rfl (Nat.le_of_ble_eq_true rfl) (by decide) (by decide) dX11_piece_9 hK ?_
    rintro _ _ ⟨r2, T2, rfl, rfl, hq⟩
    replace hyp := hyp r2 T2 hq
    refine ax_if_eq hX dX11_piece_12 (tgt := 25) (by decide) (fun c => ?_) (fun c => ?_)
    · replace hyp := hyp.1 c
      refine ax_iconst hX dX11_piece_25 (v := -1) (by decide) ?_
      exact hR.1 _ _ _ _ _ _ (by decide) (by decide) dX11_piece_26 ⟨_, rfl, rfl⟩ ⟨_, _, rfl, rfl, hyp⟩
    · replace hyp := hyp.2 c
      refine ax_aload_n hX dX11_piece_15 (Or.inr ⟨_, rfl⟩) rfl ?_
      refine tx_getF hX fRX11_200 ly_105 (o := 32) (b := 137) fk_11_45 rfl (by decide) (Nat.lt_of_lt_of_le (by decide) hsz) dX11_piece_16 ?_
      refine ax_iload_n hX dX11_piece_19 rfl ?_
      refine tx_ial hX ly_137 (by decide) (Nat.lt_of_lt_of_le (by decide) hsz) hyp.1 dX11_piece_20 ?_
      replace hyp := hyp.2
      refine ax_iconst hX dX11_piece_21 (v := 4) (by decide) ?_
      refine ax_icmp_ne hX dX11_piece_22 (tgt := 27) (by decide) (fun c => ?_) (fun c => ?_)
      · replace hyp := hyp.1 c
        refine ax_iconst hX dX11_piece_27 (v := 0) (by decide) ?_
        refine ax_istore hX dX11_piece_28 (by decide) (L' := [some (.ref 105), some (.int x0), some (.long x1), none, some (.int (0 : Int32))]) rfl ?_
        exact ax_forget (L' := [some (.ref 105), some (.int x0), some (.long x1), none, some (.int (0 : Int32))]) (⟨rfl, ⟨rfl, ⟨rfl, ⟨rfl, trivial⟩⟩⟩⟩) hyp
      · replace hyp := hyp.2 c
        refine ax_iconst hX dX11_piece_25 (v := -1) (by decide) ?_
        exact hR.1 _ _ _ _ _ _ (by decide) (by decide) dX11_piece_26 ⟨_, rfl, rfl⟩ ⟨_, _, rfl, rfl, hyp⟩
set_option maxRecDepth 10000 in
theorem s_X11_piece_30 {X : ax_X} {d L sz : Nat} {T : tT} {Q : Int32 → tT → Prop} (hX : ax_ok X mX11_piece (d + 1)) (hR : ax_Ret X mX11_piece (ti L sz Q)) (hsz : 161 ≤ sz) (v1 : Int32) (v2 : Int64) (v4 : Int32) (hyp : vp_in v1 40 ∧ (((T.1 137 (v1.toNatClampNeg)) ≤ v4 → vp_in v1 40 ∧ vp_in (((4 : Int32) * v1) + (T.1 137 (v1.toNatClampNeg))) 160 ∧ vp_in v1 40 ∧ vp_in v1 40 ∧ vp_in v1 40 ∧ Q ((tI (tJ T 139 ((((4 : Int32) * v1) + (T.1 137 (v1.toNatClampNeg))).toNatClampNeg) v2) 137 (v1.toNatClampNeg) ((T.1 137 (v1.toNatClampNeg)) + (1 : Int32))).1 137 (v1.toNatClampNeg)) (tI (tJ T 139 ((((4 : Int32) * v1) + (T.1 137 (v1.toNatClampNeg))).toNatClampNeg) v2) 137 (v1.toNatClampNeg) ((T.1 137 (v1.toNatClampNeg)) + (1 : Int32)))) ∧ (¬ (T.1 137 (v1.toNatClampNeg)) ≤ v4 → vp_in (((4 : Int32) * v1) + v4) 160 ∧ ((¬ (T.2.1 139 (((4 : Int32) * v1) + v4).toNatClampNeg) = v2 → ax_j X 30 [some (.ref 105), some (.int v1), some (.long v2), none, some (.int (v4 + (1 : Int32)))] [] (th L sz T) 0 0) ∧ ((T.2.1 139 (((4 : Int32) * v1) + v4).toNatClampNeg) = v2 → Q (-1 : Int32) T))))) : ax_j X 30 [some (.ref 105), some (.int v1), some (.long v2), none, some (.int v4)] [] (th L sz T) 0 0 := by
  refine ax_iload hX dX11_piece_30 rfl ?_
  refine ax_aload_n hX dX11_piece_32 (Or.inr ⟨_, rfl⟩) rfl ?_
  refine tx_getF hX fRX11_200 ly_105 (o := 32) (b := 137) fk_11_45 rfl (by decide) (Nat.lt_of_lt_of_le (by decide) hsz) dX11_piece_33 ?_
  refine ax_iload_n hX dX11_piece_36 rfl ?_
  refine tx_ial hX ly_137 (by decide) (Nat.lt_of_lt_of_le (by decide) hsz) hyp.1 dX11_piece_37 ?_
  replace hyp := hyp.2
  refine ax_icmp_ge hX dX11_piece_38 (tgt := 65) (by decide) (fun c => ?_) (fun c => ?_)
  · replace hyp := hyp.1 c
    refine ax_aload_n hX dX11_piece_65 (Or.inr ⟨_, rfl⟩) rfl ?_
    refine tx_getF hX fRX11_206 ly_105 (o := 34) (b := 139) fk_11_47 rfl (by decide) (Nat.lt_of_lt_of_le (by decide) hsz) dX11_piece_66 ?_
    refine ax_iconst hX dX11_piece_69 (v := 4) (by decide) ?_
    refine ax_iload_n hX dX11_piece_70 rfl ?_
    refine ax_imul hX dX11_piece_71 ?_
    refine ax_aload_n hX dX11_piece_72 (Or.inr ⟨_, rfl⟩) rfl ?_
    refine tx_getF hX fRX11_200 ly_105 (o := 32) (b := 137) fk_11_45 rfl (by decide) (Nat.lt_of_lt_of_le (by decide) hsz) dX11_piece_73 ?_
    refine ax_iload_n hX dX11_piece_76 rfl ?_
    refine tx_ial hX ly_137 (by decide) (Nat.lt_of_lt_of_le (by decide) hsz) hyp.1 dX11_piece_77 ?_
    replace hyp := hyp.2
    refine ax_iadd hX dX11_piece_78 ?_
    refine ax_lload_n hX dX11_piece_79 rfl ?_
    refine tx_las hX ly_139 (by decide) (Nat.lt_of_lt_of_le (by decide) hsz) hyp.1 dX11_piece_80 ?_
    replace hyp := hyp.2
    refine ax_aload_n hX dX11_piece_81 (Or.inr ⟨_, rfl⟩) rfl ?_
    refine tx_getF hX fRX11_200 ly_105 (o := 32) (b := 137) fk_11_45 rfl (by decide) (Nat.lt_of_lt_of_le (by decide) hsz) dX11_piece_82 ?_
    refine ax_iload_n hX dX11_piece_85 rfl ?_
    refine ax_dup2 hX dX11_piece_86 rfl rfl ?_
    refine tx_ial hX ly_137 (by decide) (Nat.lt_of_lt_of_le (by decide) hsz) hyp.1 dX11_piece_87 ?_
    replace hyp := hyp.2
    refine ax_iconst hX dX11_piece_88 (v := 1) (by decide) ?_
    refine ax_iadd hX dX11_piece_89 ?_
    refine tx_ias hX ly_137 (by decide) (Nat.lt_of_lt_of_le (by decide) hsz) hyp.1 dX11_piece_90 ?_
    replace hyp := hyp.2
    refine ax_aload_n hX dX11_piece_91 (Or.inr ⟨_, rfl⟩) rfl ?_
    refine tx_getF hX fRX11_200 ly_105 (o := 32) (b := 137) fk_11_45 rfl (by decide) (Nat.lt_of_lt_of_le (by decide) hsz) dX11_piece_92 ?_
    refine ax_iload_n hX dX11_piece_95 rfl ?_
    refine tx_ial hX ly_137 (by decide) (Nat.lt_of_lt_of_le (by decide) hsz) hyp.1 dX11_piece_96 ?_
    replace hyp := hyp.2
    exact hR.1 _ _ _ _ _ _ (by decide) (by decide) dX11_piece_97 ⟨_, rfl, rfl⟩ ⟨_, _, rfl, rfl, hyp⟩
  · replace hyp := hyp.2 c
    refine ax_aload_n hX dX11_piece_41 (Or.inr ⟨_, rfl⟩) rfl ?_
    refine tx_getF hX fRX11_206 ly_105 (o := 34) (b := 139) fk_11_47 rfl (by decide) (Nat.lt_of_lt_of_le (by decide) hsz) dX11_piece_42 ?_
    refine ax_iconst hX dX11_piece_45 (v := 4) (by decide) ?_
    refine ax_iload_n hX dX11_piece_46 rfl ?_
    refine ax_imul hX dX11_piece_47 ?_
    refine ax_iload hX dX11_piece_48 rfl ?_
    refine ax_iadd hX dX11_piece_50 ?_
    refine tx_lal hX ly_139 (by decide) (Nat.lt_of_lt_of_le (by decide) hsz) hyp.1 dX11_piece_51 ?_
    replace hyp := hyp.2
    refine ax_lload_n hX dX11_piece_52 rfl ?_
    refine tx_lcmp_ne hX dX11_piece_53 dX11_piece_54 (tgt := 59) (by decide) (fun c => ?_) (fun c => ?_)
    · replace hyp := hyp.1 c
      refine ax_iinc hX dX11_piece_59 rfl (w := (v4 + (1 : Int32))) rfl (by decide) (L' := [some (.ref 105), some (.int v1), some (.long v2), none, some (.int (v4 + (1 : Int32)))]) rfl ?_
      refine ax_goto hX dX11_piece_62 (tgt := 30) (by decide) ?_
      exact ax_forget (L' := [some (.ref 105), some (.int v1), some (.long v2), none, some (.int (v4 + (1 : Int32)))]) (⟨rfl, ⟨rfl, ⟨rfl, ⟨rfl, trivial⟩⟩⟩⟩) hyp
    · replace hyp := hyp.2 c
      refine ax_iconst hX dX11_piece_57 (v := -1) (by decide) ?_
      exact hR.1 _ _ _ _ _ _ (by decide) (by decide) dX11_piece_58 ⟨_, rfl, rfl⟩ ⟨_, _, rfl, rfl, hyp⟩
set_option maxRecDepth 10000 in
theorem s_X11_pile_0 {X : ax_X} {d L sz : Nat} {T : tT} {Q : tT → Prop} (hX : ax_ok X mX11_pile d) (hR : ax_Ret X mX11_pile (tv L sz Q)) (hsz : 161 ≤ sz) (x0 : Int32) (x1 : Int32) (hyp : vp_in (T.1 105 37) 80 ∧ vp_in (T.1 105 37) 80 ∧ Q (tI (tI (tI T 129 ((T.1 105 37).toNatClampNeg) x0) 130 ((T.1 105 37).toNatClampNeg) x1) 105 37 ((T.1 105 37) + (1 : Int32)))) : ax_j X 0 [some (.ref 105), some (.int x0), some (.int x1)] [] (th L sz T) 0 0 := by
  refine ax_aload_n hX dX11_pile_0 (Or.inr ⟨_, rfl⟩) rfl ?_
  refine tx_getF hX fRX11_176 ly_105 (o := 24) (b := 129) fk_11_35 rfl (by decide) (Nat.lt_of_lt_of_le (by decide) hsz) dX11_pile_1 ?_
  refine ax_aload_n hX dX11_pile_4 (Or.inr ⟨_, rfl⟩) rfl ?_
  refine tx_getI hX fRX11_322 ly_105 fk_11_37 (by decide) (Nat.lt_of_lt_of_le (by decide) hsz) dX11_pile_5 ?_
  refine ax_iload_n hX dX11_pile_8 rfl ?_
  refine tx_ias hX ly_129 (by decide) (Nat.lt_of_lt_of_le (by decide) hsz) hyp.1 dX11_pile_9 ?_
  replace hyp := hyp.2
  refine ax_aload_n hX dX11_pile_10 (Or.inr ⟨_, rfl⟩) rfl ?_
  refine tx_getF hX fRX11_179 ly_105 (o := 25) (b := 130) fk_11_36 rfl (by decide) (Nat.lt_of_lt_of_le (by decide) hsz) dX11_pile_11 ?_
  refine ax_aload_n hX dX11_pile_14 (Or.inr ⟨_, rfl⟩) rfl ?_
  refine tx_getI hX fRX11_322 ly_105 fk_11_37 (by decide) (Nat.lt_of_lt_of_le (by decide) hsz) dX11_pile_15 ?_
  refine ax_iload_n hX dX11_pile_18 rfl ?_
  refine tx_ias hX ly_130 (by decide) (Nat.lt_of_lt_of_le (by decide) hsz) hyp.1 dX11_pile_19 ?_
  replace hyp := hyp.2
  refine ax_aload_n hX dX11_pile_20 (Or.inr ⟨_, rfl⟩) rfl ?_
  refine ax_dup hX dX11_pile_21 rfl ?_
  refine tx_getI hX fRX11_322 ly_105 fk_11_37 (by decide) (Nat.lt_of_lt_of_le (by decide) hsz) dX11_pile_22 ?_
  refine ax_iconst hX dX11_pile_25 (v := 1) (by decide) ?_
  refine ax_iadd hX dX11_pile_26 ?_
  refine tx_putI hX fRX11_322 ly_105 fk_11_37 (by decide) (Nat.lt_of_lt_of_le (by decide) hsz) rfl rfl dX11_pile_27 ?_
  exact hR.2.2.2 _ _ _ _ _ (by decide) (by decide) dX11_pile_30 rfl ⟨_, rfl, rfl, hyp⟩
set_option maxRecDepth 10000 in
theorem s_X11_put_0 {X : ax_X} {d L sz : Nat} {T : tT} {Q : Int32 → tT → Prop} (hX : ax_ok X mX11_put (d + 1)) (hR : ax_Ret X mX11_put (ti L sz Q)) (hsz : 161 ≤ sz) (x0 : Int32) (x1 : Int32) (hyp : ∃ Q1, tiK d mX11_isEntry [.ref 105, .int x0] L sz T Q1 ∧ ∀ (r1 : Int32) (T1 : tT), Q1 r1 T1 → (((r1 = 0 → Q (0 : Int32) T1) ∧ (¬ r1 = 0 → ((x1 = (-1 : Int32) → vp_in x0 40 ∧ Q (1 : Int32) (tI T1 138 (x0.toNatClampNeg) x1)) ∧ (¬ x1 = (-1 : Int32) → ∃ Q1, tiK d mX11_isSession [.ref 105, .int x1] L sz T1 Q1 ∧ ∀ (r2 : Int32) (T2 : tT), Q1 r2 T2 → (((r2 = 0 → Q (0 : Int32) T2) ∧ (¬ r2 = 0 → ∃ Q1, tiK d mX11_minutesIn [.ref 105, .int x1, .int x0] L sz T2 Q1 ∧ ∀ (r3 : Int32) (T3 : tT), Q1 r3 T3 → (∃ Q1, tiK d mX11_spotOf [.ref 105, .int x0] L sz T3 Q1 ∧ ∀ (r4 : Int32) (T4 : tT), Q1 r4 T4 → (∃ Q1, tiK d mX11_minutesOf [.ref 105, .int r4] L sz T4 Q1 ∧ ∀ (r5 : Int32) (T5 : tT), Q1 r5 T5 → ((((r3 + r5) ≤ (300 : Int32) → vp_in x0 40 ∧ Q (1 : Int32) (tI T5 138 (x0.toNatClampNeg) x1)) ∧ (¬ (r3 + r5) ≤ (300 : Int32) → Q (0 : Int32) T5)))))))))))))) : ax_j X 0 [some (.ref 105), some (.int x0), some (.int x1)] [] (th L sz T) 0 0 := by
  refine ax_aload_n hX dX11_put_0 (Or.inr ⟨_, rfl⟩) rfl ?_
  refine ax_iload_n hX dX11_put_1 rfl ?_
  obtain ⟨Q1, hK, hyp⟩ := hyp
  refine ax_callV hX lRX11_362 im_X11_isEntry sl_X11_isEntry cw_X11_isEntry ((th_at (by decide) (Nat.lt_of_lt_of_le (by decide) hsz)).trans (tc_ob ly_105)) rfl rfl (A := [.int x0]) (st := []) rfl rfl (Nat.le_of_ble_eq_true rfl) (by decide) (by decide) dX11_put_2 hK ?_
  rintro _ _ ⟨r1, T1, rfl, rfl, hq⟩
  replace hyp := hyp r1 T1 hq
  refine ax_if_eq hX dX11_put_5 (tgt := 43) (by decide) (fun c => ?_) (fun c => ?_)
  · replace hyp := hyp.1 c
    refine ax_iconst hX dX11_put_43 (v := 0) (by decide) ?_
    exact hR.1 _ _ _ _ _ _ (by decide) (by decide) dX11_put_44 ⟨_, rfl, rfl⟩ ⟨_, _, rfl, rfl, hyp⟩
  · replace hyp := hyp.2 c
    refine ax_iload_n hX dX11_put_8 rfl ?_
    refine ax_iconst hX dX11_put_9 (v := -1) (by decide) ?_
    refine ax_icmp_eq hX dX11_put_10 (tgt := 45) (by decide) (fun c => ?_) (fun c => ?_)
    · replace hyp := hyp.1 c
      refine ax_aload_n hX dX11_put_45 (Or.inr ⟨_, rfl⟩) rfl ?_
      refine tx_getF hX fRX11_203 ly_105 (o := 33) (b := 138) fk_11_46 rfl (by decide) (Nat.lt_of_lt_of_le (by decide) hsz) dX11_put_46 ?_
      refine ax_iload_n hX dX11_put_49 rfl ?_
      refine ax_iload_n hX dX11_put_50 rfl ?_
      refine tx_ias hX ly_138 (by decide) (Nat.lt_of_lt_of_le (by decide) hsz) hyp.1 dX11_put_51 ?_
      replace hyp := hyp.2
      refine ax_iconst hX dX11_put_52 (v := 1) (by decide) ?_
      exact hR.1 _ _ _ _ _ _ (by decide) (by decide) dX11_put_53 ⟨_, rfl, rfl⟩ ⟨_, _, rfl, rfl, hyp⟩
    · replace hyp := hyp.2 c
      refine ax_aload_n hX dX11_put_13 (Or.inr ⟨_, rfl⟩) rfl ?_
      refine ax_iload_n hX dX11_put_14 rfl ?_
      obtain ⟨Q1, hK, hyp⟩ := hyp
      refine ax_callV hX lRX11_403 im_X11_isSession sl_X11_isSession cw_X11_isSession ((th_at (by decide) (Nat.lt_of_lt_of_le (by decide) hsz)).trans (tc_ob ly_105)) rfl rfl (A := [.int x1]) (st := []) rfl rfl (Nat.le_of_ble_eq_true rfl) (by decide) (by decide) dX11_put_15 hK ?_
      rintro _ _ ⟨r2, T2, rfl, rfl, hq⟩
      replace hyp := hyp r2 T2 hq
      refine ax_if_eq hX dX11_put_18 (tgt := 43) (by decide) (fun c => ?_) (fun c => ?_)
      · replace hyp := hyp.1 c
        refine ax_iconst hX dX11_put_43 (v := 0) (by decide) ?_
        exact hR.1 _ _ _ _ _ _ (by decide) (by decide) dX11_put_44 ⟨_, rfl, rfl⟩ ⟨_, _, rfl, rfl, hyp⟩
      · replace hyp := hyp.2 c
        refine ax_aload_n hX dX11_put_21 (Or.inr ⟨_, rfl⟩) rfl ?_
        refine ax_iload_n hX dX11_put_22 rfl ?_
        refine ax_iload_n hX dX11_put_23 rfl ?_
        obtain ⟨Q1, hK, hyp⟩ := hyp
        refine ax_callV hX lRX11_406 im_X11_minutesIn sl_X11_minutesIn cw_X11_minutesIn ((th_at (by decide) (Nat.lt_of_lt_of_le (by decide) hsz)).trans (tc_ob ly_105)) rfl rfl (A := [.int x1, .int x0]) (st := []) rfl rfl (Nat.le_of_ble_eq_true rfl) (by decide) (by decide) dX11_put_24 hK ?_
        rintro _ _ ⟨r3, T3, rfl, rfl, hq⟩
        replace hyp := hyp r3 T3 hq
        refine ax_aload_n hX dX11_put_27 (Or.inr ⟨_, rfl⟩) rfl ?_
        refine ax_aload_n hX dX11_put_28 (Or.inr ⟨_, rfl⟩) rfl ?_
        refine ax_iload_n hX dX11_put_29 rfl ?_
        obtain ⟨Q1, hK, hyp⟩ := hyp
        refine ax_callV hX lRX11_388 im_X11_spotOf sl_X11_spotOf cw_X11_spotOf ((th_at (by decide) (Nat.lt_of_lt_of_le (by decide) hsz)).trans (tc_ob ly_105)) rfl rfl (A := [.int x0]) (st := [.ref 105, .int r3]) rfl rfl (Nat.le_of_ble_eq_true rfl) (by decide) (by decide) dX11_put_30 hK ?_
        rintro _ _ ⟨r4, T4, rfl, rfl, hq⟩
        replace hyp := hyp r4 T4 hq
        obtain ⟨Q1, hK, hyp⟩ := hyp
        refine ax_callV hX lRX11_351 im_X11_minutesOf sl_X11_minutesOf cw_X11_minutesOf ((th_at (by decide) (Nat.lt_of_lt_of_le (by decide) hsz)).trans (tc_ob ly_105)) rfl rfl (A := [.int r4]) (st := [.int r3]) rfl rfl (Nat.le_of_ble_eq_true rfl) (by decide) (by decide) dX11_put_33 hK ?_
        rintro _ _ ⟨r5, T5, rfl, rfl, hq⟩
        replace hyp := hyp r5 T5 hq
        refine ax_iadd hX dX11_put_36 ?_
        refine ax_sipush hX dX11_put_37 (v := 300) (by decide) ?_
        refine ax_icmp_le hX dX11_put_40 (tgt := 45) (by decide) (fun c => ?_) (fun c => ?_)
        · replace hyp := hyp.1 c
          refine ax_aload_n hX dX11_put_45 (Or.inr ⟨_, rfl⟩) rfl ?_
          refine tx_getF hX fRX11_203 ly_105 (o := 33) (b := 138) fk_11_46 rfl (by decide) (Nat.lt_of_lt_of_le (by decide) hsz) dX11_put_46 ?_
          refine ax_iload_n hX dX11_put_49 rfl ?_
          refine ax_iload_n hX dX11_put_50 rfl ?_
          refine tx_ias hX ly_138 (by decide) (Nat.lt_of_lt_of_le (by decide) hsz) hyp.1 dX11_put_51 ?_
          replace hyp := hyp.2
          refine ax_iconst hX dX11_put_52 (v := 1) (by decide) ?_
          exact hR.1 _ _ _ _ _ _ (by decide) (by decide) dX11_put_53 ⟨_, rfl, rfl⟩ ⟨_, _, rfl, rfl, hyp⟩
        · replace hyp := hyp.2 c
          refine ax_iconst hX dX11_put_43 (v := 0) (by decide) ?_
          exact hR.1 _ _ _ _ _ _ (by decide) (by decide) dX11_put_44 ⟨_, rfl, rfl⟩ ⟨_, _, rfl, rfl, hyp⟩
set_option maxRecDepth 10000 in
theorem s_X11_rankHere_0 {X : ax_X} {d L sz : Nat} {T : tT} {Q : Int32 → tT → Prop} (hX : ax_ok X mX11_rankHere (d + 1)) (hR : ax_Ret X mX11_rankHere (ti L sz Q)) (hsz : 161 ≤ sz)  (hyp : ∃ Q1, tiK d mX11_is [.ref 105, .int (43 : Int32)] L sz T Q1 ∧ ∀ (r1 : Int32) (T1 : tT), Q1 r1 T1 → (((¬ r1 = 0 → Q (5 : Int32) T1) ∧ (r1 = 0 → ∃ Q1, tiK d mX11_is [.ref 105, .int (45 : Int32)] L sz T1 Q1 ∧ ∀ (r2 : Int32) (T2 : tT), Q1 r2 T2 → (((r2 = 0 → ∃ Q1, tiK d mX11_is [.ref 105, .int (60 : Int32)] L sz T2 Q1 ∧ ∀ (r3 : Int32) (T3 : tT), Q1 r3 T3 → (((¬ r3 = 0 → Q (4 : Int32) T3) ∧ (r3 = 0 → ∃ Q1, tiK d mX11_is [.ref 105, .int (62 : Int32)] L sz T3 Q1 ∧ ∀ (r4 : Int32) (T4 : tT), Q1 r4 T4 → (((¬ r4 = 0 → Q (4 : Int32) T4) ∧ (r4 = 0 → ∃ Q1, tiK d mX11_is [.ref 105, .int (61 : Int32)] L sz T4 Q1 ∧ ∀ (r5 : Int32) (T5 : tT), Q1 r5 T5 → (((r5 = 0 → ∃ Q1, tiK d mX11_isWord [.ref 105, .long (6385252 : Int64)] L sz T5 Q1 ∧ ∀ (r6 : Int32) (T6 : tT), Q1 r6 T6 → (((r6 = 0 → ∃ Q1, tiK d mX11_isWord [.ref 105, .long (28530 : Int64)] L sz T6 Q1 ∧ ∀ (r7 : Int32) (T7 : tT), Q1 r7 T7 → (((r7 = 0 → Q (0 : Int32) T7) ∧ (¬ r7 = 0 → Q (1 : Int32) T7)))) ∧ (¬ r6 = 0 → Q (2 : Int32) T6)))) ∧ (¬ r5 = 0 → Q (4 : Int32) T5)))))))))) ∧ (¬ r2 = 0 → Q (5 : Int32) T2))))))) : ax_j X 0 [some (.ref 105)] [] (th L sz T) 0 0 := by
  refine ax_aload_n hX dX11_rankHere_0 (Or.inr ⟨_, rfl⟩) rfl ?_
  refine ax_bipush hX dX11_rankHere_1 (v := 43) (by decide) ?_
  obtain ⟨Q1, hK, hyp⟩ := hyp
  refine ax_callV hX lRX11_85 im_X11_is sl_X11_is cw_X11_is ((th_at (by decide) (Nat.lt_of_lt_of_le (by decide) hsz)).trans (tc_ob ly_105)) rfl rfl (A := [.int (43 : Int32)]) (st := []) rfl rfl (Nat.le_of_ble_eq_true rfl) (by decide) (by decide) dX11_rankHere_3 hK ?_
  rintro _ _ ⟨r1, T1, rfl, rfl, hq⟩
  replace hyp := hyp r1 T1 hq
  refine ax_if_ne hX dX11_rankHere_6 (tgt := 18) (by decide) (fun c => ?_) (fun c => ?_)
  · replace hyp := hyp.1 c
    refine ax_iconst hX dX11_rankHere_18 (v := 5) (by decide) ?_
    refine ax_goto hX dX11_rankHere_19 (tgt := 82) (by decide) ?_
    exact hR.1 _ _ _ _ _ _ (by decide) (by decide) dX11_rankHere_82 ⟨_, rfl, rfl⟩ ⟨_, _, rfl, rfl, hyp⟩
  · replace hyp := hyp.2 c
    refine ax_aload_n hX dX11_rankHere_9 (Or.inr ⟨_, rfl⟩) rfl ?_
    refine ax_bipush hX dX11_rankHere_10 (v := 45) (by decide) ?_
    obtain ⟨Q1, hK, hyp⟩ := hyp
    refine ax_callV hX lRX11_85 im_X11_is sl_X11_is cw_X11_is ((th_at (by decide) (Nat.lt_of_lt_of_le (by decide) hsz)).trans (tc_ob ly_105)) rfl rfl (A := [.int (45 : Int32)]) (st := []) rfl rfl (Nat.le_of_ble_eq_true rfl) (by decide) (by decide) dX11_rankHere_12 hK ?_
    rintro _ _ ⟨r2, T2, rfl, rfl, hq⟩
    replace hyp := hyp r2 T2 hq
    refine ax_if_eq hX dX11_rankHere_15 (tgt := 22) (by decide) (fun c => ?_) (fun c => ?_)
    · replace hyp := hyp.1 c
      refine ax_aload_n hX dX11_rankHere_22 (Or.inr ⟨_, rfl⟩) rfl ?_
      refine ax_bipush hX dX11_rankHere_23 (v := 60) (by decide) ?_
      obtain ⟨Q1, hK, hyp⟩ := hyp
      refine ax_callV hX lRX11_85 im_X11_is sl_X11_is cw_X11_is ((th_at (by decide) (Nat.lt_of_lt_of_le (by decide) hsz)).trans (tc_ob ly_105)) rfl rfl (A := [.int (60 : Int32)]) (st := []) rfl rfl (Nat.le_of_ble_eq_true rfl) (by decide) (by decide) dX11_rankHere_25 hK ?_
      rintro _ _ ⟨r3, T3, rfl, rfl, hq⟩
      replace hyp := hyp r3 T3 hq
      refine ax_if_ne hX dX11_rankHere_28 (tgt := 49) (by decide) (fun c => ?_) (fun c => ?_)
      · replace hyp := hyp.1 c
        refine ax_iconst hX dX11_rankHere_49 (v := 4) (by decide) ?_
        refine ax_goto hX dX11_rankHere_50 (tgt := 82) (by decide) ?_
        exact hR.1 _ _ _ _ _ _ (by decide) (by decide) dX11_rankHere_82 ⟨_, rfl, rfl⟩ ⟨_, _, rfl, rfl, hyp⟩
      · replace hyp := hyp.2 c
        refine ax_aload_n hX dX11_rankHere_31 (Or.inr ⟨_, rfl⟩) rfl ?_
        refine ax_bipush hX dX11_rankHere_32 (v := 62) (by decide) ?_
        obtain ⟨Q1, hK, hyp⟩ := hyp
        refine ax_callV hX lRX11_85 im_X11_is sl_X11_is cw_X11_is ((th_at (by decide) (Nat.lt_of_lt_of_le (by decide) hsz)).trans (tc_ob ly_105)) rfl rfl (A := [.int (62 : Int32)]) (st := []) rfl rfl (Nat.le_of_ble_eq_true rfl) (by decide) (by decide) dX11_rankHere_34 hK ?_
        rintro _ _ ⟨r4, T4, rfl, rfl, hq⟩
        replace hyp := hyp r4 T4 hq
        refine ax_if_ne hX dX11_rankHere_37 (tgt := 49) (by decide) (fun c => ?_) (fun c => ?_)
        · replace hyp := hyp.1 c
          refine ax_iconst hX dX11_rankHere_49 (v := 4) (by decide) ?_
          refine ax_goto hX dX11_rankHere_50 (tgt := 82) (by decide) ?_
          exact hR.1 _ _ _ _ _ _ (by decide) (by decide) dX11_rankHere_82 ⟨_, rfl, rfl⟩ ⟨_, _, rfl, rfl, hyp⟩
        · replace hyp := hyp.2 c
          refine ax_aload_n hX dX11_rankHere_40 (Or.inr ⟨_, rfl⟩) rfl ?_
          refine ax_bipush hX dX11_rankHere_41 (v := 61) (by decide) ?_
          obtain ⟨Q1, hK, hyp⟩ := hyp
          refine ax_callV hX lRX11_85 im_X11_is sl_X11_is cw_X11_is ((th_at (by decide) (Nat.lt_of_lt_of_le (by decide) hsz)).trans (tc_ob ly_105)) rfl rfl (A := [.int (61 : Int32)]) (st := []) rfl rfl (Nat.le_of_ble_eq_true rfl) (by decide) (by decide) dX11_rankHere_43 hK ?_
          rintro _ _ ⟨r5, T5, rfl, rfl, hq⟩
          replace hyp := hyp r5 T5 hq
          refine ax_if_eq hX dX11_rankHere_46 (tgt := 53) (by decide) (fun c => ?_) (fun c => ?_)
          · replace hyp := hyp.1 c
            refine ax_aload_n hX dX11_rankHere_53 (Or.inr ⟨_, rfl⟩) rfl ?_
            refine ax_ldc2 hX vRX11_47 dX11_rankHere_54 ?_
            obtain ⟨Q1, hK, hyp⟩ := hyp
            refine ax_callV hX lRX11_284 im_X11_isWord sl_X11_isWord cw_X11_isWord ((th_at (by decide) (Nat.lt_of_lt_of_le (by decide) hsz)).trans (tc_ob ly_105)) rfl rfl (A := [.long (6385252 : Int64)]) (st := []) rfl rfl (Nat.le_of_ble_eq_true rfl) (by decide) (by decide) dX11_rankHere_57 hK ?_
            rintro _ _ ⟨r6, T6, rfl, rfl, hq⟩
            replace hyp := hyp r6 T6 hq
            refine ax_if_eq hX dX11_rankHere_60 (tgt := 67) (by decide) (fun c => ?_) (fun c => ?_)
            · replace hyp := hyp.1 c
              refine ax_aload_n hX dX11_rankHere_67 (Or.inr ⟨_, rfl⟩) rfl ?_
              refine ax_ldc2 hX vRX11_45 dX11_rankHere_68 ?_
              obtain ⟨Q1, hK, hyp⟩ := hyp
              refine ax_callV hX lRX11_284 im_X11_isWord sl_X11_isWord cw_X11_isWord ((th_at (by decide) (Nat.lt_of_lt_of_le (by decide) hsz)).trans (tc_ob ly_105)) rfl rfl (A := [.long (28530 : Int64)]) (st := []) rfl rfl (Nat.le_of_ble_eq_true rfl) (by decide) (by decide) dX11_rankHere_71 hK ?_
              rintro _ _ ⟨r7, T7, rfl, rfl, hq⟩
              replace hyp := hyp r7 T7 hq
              refine ax_if_eq hX dX11_rankHere_74 (tgt := 81) (by decide) (fun c => ?_) (fun c => ?_)
              · replace hyp := hyp.1 c
                refine ax_iconst hX dX11_rankHere_81 (v := 0) (by decide) ?_
                exact hR.1 _ _ _ _ _ _ (by decide) (by decide) dX11_rankHere_82 ⟨_, rfl, rfl⟩ ⟨_, _, rfl, rfl, hyp⟩
              · replace hyp := hyp.2 c
                refine ax_iconst hX dX11_rankHere_77 (v := 1) (by decide) ?_
                refine ax_goto hX dX11_rankHere_78 (tgt := 82) (by decide) ?_
                exact hR.1 _ _ _ _ _ _ (by decide) (by decide) dX11_rankHere_82 ⟨_, rfl, rfl⟩ ⟨_, _, rfl, rfl, hyp⟩
            · replace hyp := hyp.2 c
              refine ax_iconst hX dX11_rankHere_63 (v := 2) (by decide) ?_
              refine ax_goto hX dX11_rankHere_64 (tgt := 82) (by decide) ?_
              exact hR.1 _ _ _ _ _ _ (by decide) (by decide) dX11_rankHere_82 ⟨_, rfl, rfl⟩ ⟨_, _, rfl, rfl, hyp⟩
          · replace hyp := hyp.2 c
            refine ax_iconst hX dX11_rankHere_49 (v := 4) (by decide) ?_
            refine ax_goto hX dX11_rankHere_50 (tgt := 82) (by decide) ?_
            exact hR.1 _ _ _ _ _ _ (by decide) (by decide) dX11_rankHere_82 ⟨_, rfl, rfl⟩ ⟨_, _, rfl, rfl, hyp⟩
    · replace hyp := hyp.2 c
      refine ax_iconst hX dX11_rankHere_18 (v := 5) (by decide) ?_
      refine ax_goto hX dX11_rankHere_19 (tgt := 82) (by decide) ?_
      exact hR.1 _ _ _ _ _ _ (by decide) (by decide) dX11_rankHere_82 ⟨_, rfl, rfl⟩ ⟨_, _, rfl, rfl, hyp⟩
set_option maxRecDepth 10000 in
theorem s_X11_readGrade_0 {X : ax_X} {d L sz : Nat} {T : tT} {Q : tT → Prop} (hX : ax_ok X mX11_readGrade (d + 1)) (hR : ax_Ret X mX11_readGrade (tv L sz Q)) (hsz : 161 ≤ sz)  (hyp : ∃ Q1, tiK d mX11_isWord [.ref 105, .long (444300616805 : Int64)] L sz T Q1 ∧ ∀ (r1 : Int32) (T1 : tT), Q1 r1 T1 → (((r1 = 0 → ∃ Q1, tvK d mX11_wrong [.ref 105] L sz T1 Q1 ∧ ∀ (T2 : tT), Q1 T2 → (ax_j X 21 [some (.ref 105), none, none] [] (th L sz T2) 0 0)) ∧ (¬ r1 = 0 → ∃ Q1, tvK d mX11_next [.ref 105] L sz T1 Q1 ∧ ∀ (T3 : tT), Q1 T3 → (ax_j X 21 [some (.ref 105), none, none] [] (th L sz T3) 0 0))))) : ax_j X 0 [some (.ref 105), none, none] [] (th L sz T) 0 0 := by
  refine ax_aload_n hX dX11_readGrade_0 (Or.inr ⟨_, rfl⟩) rfl ?_
  refine ax_ldc2 hX vRX11_31 dX11_readGrade_1 ?_
  obtain ⟨Q1, hK, hyp⟩ := hyp
  refine ax_callV hX lRX11_284 im_X11_isWord sl_X11_isWord cw_X11_isWord ((th_at (by decide) (Nat.lt_of_lt_of_le (by decide) hsz)).trans (tc_ob ly_105)) rfl rfl (A := [.long (444300616805 : Int64)]) (st := []) rfl rfl (Nat.le_of_ble_eq_true rfl) (by decide) (by decide) dX11_readGrade_4 hK ?_
  rintro _ _ ⟨r1, T1, rfl, rfl, hq⟩
  replace hyp := hyp r1 T1 hq
  refine ax_if_eq hX dX11_readGrade_7 (tgt := 17) (by decide) (fun c => ?_) (fun c => ?_)
  · replace hyp := hyp.1 c
    refine ax_aload_n hX dX11_readGrade_17 (Or.inr ⟨_, rfl⟩) rfl ?_
    obtain ⟨Q1, hK, hyp⟩ := hyp
    refine ax_callV hX lRX11_92 im_X11_wrong sl_X11_wrong cw_X11_wrong ((th_at (by decide) (Nat.lt_of_lt_of_le (by decide) hsz)).trans (tc_ob ly_105)) rfl rfl (A := []) (st := []) rfl rfl (Nat.le_of_ble_eq_true rfl) (by decide) (by decide) dX11_readGrade_18 hK ?_
    rintro _ _ ⟨T2, rfl, rfl, hq⟩
    replace hyp := hyp T2 hq
    exact ax_forget (L' := [some (.ref 105), none, none]) (⟨rfl, trivial⟩) hyp
  · replace hyp := hyp.2 c
    refine ax_aload_n hX dX11_readGrade_10 (Or.inr ⟨_, rfl⟩) rfl ?_
    obtain ⟨Q1, hK, hyp⟩ := hyp
    refine ax_callV hX lRX11_88 im_X11_next sl_X11_next cw_X11_next ((th_at (by decide) (Nat.lt_of_lt_of_le (by decide) hsz)).trans (tc_ob ly_105)) rfl rfl (A := []) (st := []) rfl rfl (Nat.le_of_ble_eq_true rfl) (by decide) (by decide) dX11_readGrade_11 hK ?_
    rintro _ _ ⟨T3, rfl, rfl, hq⟩
    replace hyp := hyp T3 hq
    refine ax_goto hX dX11_readGrade_14 (tgt := 21) (by decide) ?_
    exact ax_forget (L' := [some (.ref 105), none, none]) (⟨rfl, trivial⟩) hyp
set_option maxRecDepth 10000 in
theorem s_X11_readGrade_21 {X : ax_X} {d L sz : Nat} {T : tT} {Q : tT → Prop} (hX : ax_ok X mX11_readGrade (d + 1)) (hR : ax_Ret X mX11_readGrade (tv L sz Q)) (hsz : 161 ≤ sz)  (hyp : ∃ Q1, tiK d mX11_isGood [.ref 105] L sz T Q1 ∧ ∀ (r1 : Int32) (T1 : tT), Q1 r1 T1 → (((r1 = 0 → ax_j X 40 [some (.ref 105), none, none] [] (th L sz T1) 0 0) ∧ (¬ r1 = 0 → (((T1.1 105 8) = (4 : Int32) → ax_j X 40 [some (.ref 105), none, none] [] (th L sz T1) 0 0) ∧ (¬ (T1.1 105 8) = (4 : Int32) → ∃ Q1, tvK d mX11_wrong [.ref 105] L sz T1 Q1 ∧ ∀ (T2 : tT), Q1 T2 → (ax_j X 40 [some (.ref 105), none, none] [] (th L sz T2) 0 0))))))) : ax_j X 21 [some (.ref 105), none, none] [] (th L sz T) 0 0 := by
  refine ax_aload_n hX dX11_readGrade_21 (Or.inr ⟨_, rfl⟩) rfl ?_
  obtain ⟨Q1, hK, hyp⟩ := hyp
  refine ax_callV hX lRX11_95 im_X11_isGood sl_X11_isGood cw_X11_isGood ((th_at (by decide) (Nat.lt_of_lt_of_le (by decide) hsz)).trans (tc_ob ly_105)) rfl rfl (A := []) (st := []) rfl rfl (Nat.le_of_ble_eq_true rfl) (by decide) (by decide) dX11_readGrade_22 hK ?_
  rintro _ _ ⟨r1, T1, rfl, rfl, hq⟩
  replace hyp := hyp r1 T1 hq
  refine ax_if_eq hX dX11_readGrade_25 (tgt := 40) (by decide) (fun c => ?_) (fun c => ?_)
  · replace hyp := hyp.1 c
    exact ax_forget (L' := [some (.ref 105), none, none]) (⟨rfl, trivial⟩) hyp
  · replace hyp := hyp.2 c
    refine ax_aload_n hX dX11_readGrade_28 (Or.inr ⟨_, rfl⟩) rfl ?_
    refine tx_getI hX fRX11_61 ly_105 fk_11_8 (by decide) (Nat.lt_of_lt_of_le (by decide) hsz) dX11_readGrade_29 ?_
    refine ax_iconst hX dX11_readGrade_32 (v := 4) (by decide) ?_
    refine ax_icmp_eq hX dX11_readGrade_33 (tgt := 40) (by decide) (fun c => ?_) (fun c => ?_)
    · replace hyp := hyp.1 c
      exact ax_forget (L' := [some (.ref 105), none, none]) (⟨rfl, trivial⟩) hyp
    · replace hyp := hyp.2 c
      refine ax_aload_n hX dX11_readGrade_36 (Or.inr ⟨_, rfl⟩) rfl ?_
      obtain ⟨Q1, hK, hyp⟩ := hyp
      refine ax_callV hX lRX11_92 im_X11_wrong sl_X11_wrong cw_X11_wrong ((th_at (by decide) (Nat.lt_of_lt_of_le (by decide) hsz)).trans (tc_ob ly_105)) rfl rfl (A := []) (st := []) rfl rfl (Nat.le_of_ble_eq_true rfl) (by decide) (by decide) dX11_readGrade_37 hK ?_
      rintro _ _ ⟨T2, rfl, rfl, hq⟩
      replace hyp := hyp T2 hq
      exact ax_forget (L' := [some (.ref 105), none, none]) (⟨rfl, trivial⟩) hyp
set_option maxRecDepth 10000 in
theorem s_X11_readGrade_40 {X : ax_X} {d L sz : Nat} {T : tT} {Q : tT → Prop} (hX : ax_ok X mX11_readGrade (d + 1)) (hR : ax_Ret X mX11_readGrade (tv L sz Q)) (hsz : 161 ≤ sz)  (hyp : ∃ Q1, tiK d mX11_isGood [.ref 105] L sz T Q1 ∧ ∀ (r1 : Int32) (T1 : tT), Q1 r1 T1 → (((r1 = 0 → ax_j X 95 [some (.ref 105), none, none] [] (th L sz T1) 0 0) ∧ (¬ r1 = 0 → (((T1.1 105 9) < (1 : Int32) → ax_j X 95 [some (.ref 105), none, none] [] (th L sz T1) 0 0) ∧ (¬ (T1.1 105 9) < (1 : Int32) → (((8 : Int32) < (T1.1 105 9) → ax_j X 95 [some (.ref 105), none, none] [] (th L sz T1) 0 0) ∧ (¬ (8 : Int32) < (T1.1 105 9) → vp_in ((((8 : Int32) * (T1.1 105 12)) + (T1.1 105 9)) - (1 : Int32)) 40 ∧ (((T1.1 110 ((((8 : Int32) * (T1.1 105 12)) + (T1.1 105 9)) - (1 : Int32)).toNatClampNeg) = 0 → ax_j X 95 [some (.ref 105), none, none] [] (th L sz T1) 0 0) ∧ (¬ (T1.1 110 ((((8 : Int32) * (T1.1 105 12)) + (T1.1 105 9)) - (1 : Int32)).toNatClampNeg) = 0 → ∃ Q1, tvK d mX11_fails [.ref 105, .int (3 : Int32), .int (T1.1 105 6)] L sz T1 Q1 ∧ ∀ (T2 : tT), Q1 T2 → (ax_j X 95 [some (.ref 105), none, none] [] (th L sz T2) 0 0))))))))))) : ax_j X 40 [some (.ref 105), none, none] [] (th L sz T) 0 0 := by
  refine ax_aload_n hX dX11_readGrade_40 (Or.inr ⟨_, rfl⟩) rfl ?_
  obtain ⟨Q1, hK, hyp⟩ := hyp
  refine ax_callV hX lRX11_95 im_X11_isGood sl_X11_isGood cw_X11_isGood ((th_at (by decide) (Nat.lt_of_lt_of_le (by decide) hsz)).trans (tc_ob ly_105)) rfl rfl (A := []) (st := []) rfl rfl (Nat.le_of_ble_eq_true rfl) (by decide) (by decide) dX11_readGrade_41 hK ?_
  rintro _ _ ⟨r1, T1, rfl, rfl, hq⟩
  replace hyp := hyp r1 T1 hq
  refine ax_if_eq hX dX11_readGrade_44 (tgt := 95) (by decide) (fun c => ?_) (fun c => ?_)
  · replace hyp := hyp.1 c
    exact ax_forget (L' := [some (.ref 105), none, none]) (⟨rfl, trivial⟩) hyp
  · replace hyp := hyp.2 c
    refine ax_aload_n hX dX11_readGrade_47 (Or.inr ⟨_, rfl⟩) rfl ?_
    refine tx_getI hX fRX11_78 ly_105 fk_11_9 (by decide) (Nat.lt_of_lt_of_le (by decide) hsz) dX11_readGrade_48 ?_
    refine ax_iconst hX dX11_readGrade_51 (v := 1) (by decide) ?_
    refine ax_icmp_lt hX dX11_readGrade_52 (tgt := 95) (by decide) (fun c => ?_) (fun c => ?_)
    · replace hyp := hyp.1 c
      exact ax_forget (L' := [some (.ref 105), none, none]) (⟨rfl, trivial⟩) hyp
    · replace hyp := hyp.2 c
      refine ax_aload_n hX dX11_readGrade_55 (Or.inr ⟨_, rfl⟩) rfl ?_
      refine tx_getI hX fRX11_78 ly_105 fk_11_9 (by decide) (Nat.lt_of_lt_of_le (by decide) hsz) dX11_readGrade_56 ?_
      refine ax_bipush hX dX11_readGrade_59 (v := 8) (by decide) ?_
      refine ax_icmp_gt hX dX11_readGrade_61 (tgt := 95) (by decide) (fun c => ?_) (fun c => ?_)
      · replace hyp := hyp.1 c
        exact ax_forget (L' := [some (.ref 105), none, none]) (⟨rfl, trivial⟩) hyp
      · replace hyp := hyp.2 c
        refine ax_aload_n hX dX11_readGrade_64 (Or.inr ⟨_, rfl⟩) rfl ?_
        refine tx_getF hX fRX11_118 ly_105 (o := 5) (b := 110) fk_11_16 rfl (by decide) (Nat.lt_of_lt_of_le (by decide) hsz) dX11_readGrade_65 ?_
        refine ax_bipush hX dX11_readGrade_68 (v := 8) (by decide) ?_
        refine ax_aload_n hX dX11_readGrade_70 (Or.inr ⟨_, rfl⟩) rfl ?_
        refine tx_getI hX fRX11_111 ly_105 fk_11_12 (by decide) (Nat.lt_of_lt_of_le (by decide) hsz) dX11_readGrade_71 ?_
        refine ax_imul hX dX11_readGrade_74 ?_
        refine ax_aload_n hX dX11_readGrade_75 (Or.inr ⟨_, rfl⟩) rfl ?_
        refine tx_getI hX fRX11_78 ly_105 fk_11_9 (by decide) (Nat.lt_of_lt_of_le (by decide) hsz) dX11_readGrade_76 ?_
        refine ax_iadd hX dX11_readGrade_79 ?_
        refine ax_iconst hX dX11_readGrade_80 (v := 1) (by decide) ?_
        refine ax_isub hX dX11_readGrade_81 ?_
        refine tx_zal hX ly_110 (by decide) (Nat.lt_of_lt_of_le (by decide) hsz) hyp.1 dX11_readGrade_82 ?_
        replace hyp := hyp.2
        refine ax_if_eq hX dX11_readGrade_83 (tgt := 95) (by decide) (fun c => ?_) (fun c => ?_)
        · replace hyp := hyp.1 c
          exact ax_forget (L' := [some (.ref 105), none, none]) (⟨rfl, trivial⟩) hyp
        · replace hyp := hyp.2 c
          refine ax_aload_n hX dX11_readGrade_86 (Or.inr ⟨_, rfl⟩) rfl ?_
          refine ax_iconst hX dX11_readGrade_87 (v := 3) (by decide) ?_
          refine ax_aload_n hX dX11_readGrade_88 (Or.inr ⟨_, rfl⟩) rfl ?_
          refine tx_getI hX fRX11_54 ly_105 fk_11_6 (by decide) (Nat.lt_of_lt_of_le (by decide) hsz) dX11_readGrade_89 ?_
          obtain ⟨Q1, hK, hyp⟩ := hyp
          refine ax_callV hX lRX11_81 im_X11_fails sl_X11_fails cw_X11_fails ((th_at (by decide) (Nat.lt_of_lt_of_le (by decide) hsz)).trans (tc_ob ly_105)) rfl rfl (A := [.int (3 : Int32), .int (T1.1 105 6)]) (st := []) rfl rfl (Nat.le_of_ble_eq_true rfl) (by decide) (by decide) dX11_readGrade_92 hK ?_
          rintro _ _ ⟨T2, rfl, rfl, hq⟩
          replace hyp := hyp T2 hq
          exact ax_forget (L' := [some (.ref 105), none, none]) (⟨rfl, trivial⟩) hyp
set_option maxRecDepth 10000 in
theorem s_X11_readGrade_95 {X : ax_X} {d L sz : Nat} {T : tT} {Q : tT → Prop} (hX : ax_ok X mX11_readGrade (d + 1)) (hR : ax_Ret X mX11_readGrade (tv L sz Q)) (hsz : 161 ≤ sz)  (hyp : ∃ Q1, tiK d mX11_isGood [.ref 105] L sz T Q1 ∧ ∀ (r1 : Int32) (T1 : tT), Q1 r1 T1 → (((¬ r1 = 0 → ∃ Q1, tiK d mX11_numberOf [.ref 105, .int (1 : Int32), .int (8 : Int32)] L sz T1 Q1 ∧ ∀ (r2 : Int32) (T2 : tT), Q1 r2 T2 → (∃ Q1, tiK d mX11_isGood [.ref 105] L sz T2 Q1 ∧ ∀ (r3 : Int32) (T3 : tT), Q1 r3 T3 → (((¬ r3 = 0 → vp_in ((((8 : Int32) * (T3.1 105 12)) + r2) - (1 : Int32)) 40 ∧ vp_in (T3.1 105 12) 5 ∧ vp_in (T3.1 105 12) 5 ∧ vp_in ((((8 : Int32) * (T3.1 105 12)) + r2) - (1 : Int32)) 40 ∧ vp_in ((((8 : Int32) * (T3.1 105 12)) + r2) - (1 : Int32)) 40 ∧ vp_in ((((8 : Int32) * (T3.1 105 12)) + r2) - (1 : Int32)) 40 ∧ vp_in ((((8 : Int32) * (T3.1 105 12)) + r2) - (1 : Int32)) 40 ∧ vp_in ((((8 : Int32) * (T3.1 105 12)) + r2) - (1 : Int32)) 40 ∧ vp_in ((((8 : Int32) * (T3.1 105 12)) + r2) - (1 : Int32)) 40 ∧ ∃ Q1, tvK d mX11_must [.ref 105, .int (123 : Int32)] L sz (tI (tI (tI (tI (tI (tI (tI (tI T3 110 (((((8 : Int32) * (T3.1 105 12)) + r2) - (1 : Int32)).toNatClampNeg) ((1 : Int32) &&& 1)) 125 ((T3.1 105 12).toNatClampNeg) ((T3.1 125 (T3.1 105 12).toNatClampNeg) + (1 : Int32))) 111 (((((8 : Int32) * (T3.1 105 12)) + r2) - (1 : Int32)).toNatClampNeg) (0 : Int32)) 113 (((((8 : Int32) * (T3.1 105 12)) + r2) - (1 : Int32)).toNatClampNeg) (0 : Int32)) 115 (((((8 : Int32) * (T3.1 105 12)) + r2) - (1 : Int32)).toNatClampNeg) (0 : Int32)) 116 (((((8 : Int32) * (T3.1 105 12)) + r2) - (1 : Int32)).toNatClampNeg) (0 : Int32)) 119 (((((8 : Int32) * (T3.1 105 12)) + r2) - (1 : Int32)).toNatClampNeg) (-1 : Int32)) 121 (((((8 : Int32) * (T3.1 105 12)) + r2) - (1 : Int32)).toNatClampNeg) (-1 : Int32)) Q1 ∧ ∀ (T4 : tT), Q1 T4 → (ax_j X 199 [some (.ref 105), none, some (.int ((((8 : Int32) * (T3.1 105 12)) + r2) - (1 : Int32)))] [] (th L sz T4) 0 0)) ∧ (r3 = 0 → Q T3))))) ∧ (r1 = 0 → Q T1)))) : ax_j X 95 [some (.ref 105), none, none] [] (th L sz T) 0 0 := by
  refine ax_aload_n hX dX11_readGrade_95 (Or.inr ⟨_, rfl⟩) rfl ?_
  obtain ⟨Q1, hK, hyp⟩ := hyp
  refine ax_callV hX lRX11_95 im_X11_isGood sl_X11_isGood cw_X11_isGood ((th_at (by decide) (Nat.lt_of_lt_of_le (by decide) hsz)).trans (tc_ob ly_105)) rfl rfl (A := []) (st := []) rfl rfl (Nat.le_of_ble_eq_true rfl) (by decide) (by decide) dX11_readGrade_96 hK ?_
  rintro _ _ ⟨r1, T1, rfl, rfl, hq⟩
  replace hyp := hyp r1 T1 hq
  refine ax_if_ne hX dX11_readGrade_99 (tgt := 103) (by decide) (fun c => ?_) (fun c => ?_)
  · replace hyp := hyp.1 c
    refine ax_aload_n hX dX11_readGrade_103 (Or.inr ⟨_, rfl⟩) rfl ?_
    refine ax_iconst hX dX11_readGrade_104 (v := 1) (by decide) ?_
    refine ax_bipush hX dX11_readGrade_105 (v := 8) (by decide) ?_
    obtain ⟨Q1, hK, hyp⟩ := hyp
    refine ax_callV hX lRX11_287 im_X11_numberOf sl_X11_numberOf cw_X11_numberOf ((th_at (by decide) (Nat.lt_of_lt_of_le (by decide) hsz)).trans (tc_ob ly_105)) rfl rfl (A := [.int (1 : Int32), .int (8 : Int32)]) (st := []) rfl rfl (Nat.le_of_ble_eq_true rfl) (by decide) (by decide) dX11_readGrade_107 hK ?_
    rintro _ _ ⟨r2, T2, rfl, rfl, hq⟩
    replace hyp := hyp r2 T2 hq
    refine ax_istore_n hX dX11_readGrade_110 (by decide) (L' := [some (.ref 105), some (.int r2), none]) rfl ?_
    refine ax_aload_n hX dX11_readGrade_111 (Or.inr ⟨_, rfl⟩) rfl ?_
    obtain ⟨Q1, hK, hyp⟩ := hyp
    refine ax_callV hX lRX11_95 im_X11_isGood sl_X11_isGood cw_X11_isGood ((th_at (by decide) (Nat.lt_of_lt_of_le (by decide) hsz)).trans (tc_ob ly_105)) rfl rfl (A := []) (st := []) rfl rfl (Nat.le_of_ble_eq_true rfl) (by decide) (by decide) dX11_readGrade_112 hK ?_
    rintro _ _ ⟨r3, T3, rfl, rfl, hq⟩
    replace hyp := hyp r3 T3 hq
    refine ax_if_ne hX dX11_readGrade_115 (tgt := 119) (by decide) (fun c => ?_) (fun c => ?_)
    · replace hyp := hyp.1 c
      refine ax_bipush hX dX11_readGrade_119 (v := 8) (by decide) ?_
      refine ax_aload_n hX dX11_readGrade_121 (Or.inr ⟨_, rfl⟩) rfl ?_
      refine tx_getI hX fRX11_111 ly_105 fk_11_12 (by decide) (Nat.lt_of_lt_of_le (by decide) hsz) dX11_readGrade_122 ?_
      refine ax_imul hX dX11_readGrade_125 ?_
      refine ax_iload_n hX dX11_readGrade_126 rfl ?_
      refine ax_iadd hX dX11_readGrade_127 ?_
      refine ax_iconst hX dX11_readGrade_128 (v := 1) (by decide) ?_
      refine ax_isub hX dX11_readGrade_129 ?_
      refine ax_istore_n hX dX11_readGrade_130 (by decide) (L' := [some (.ref 105), some (.int r2), some (.int ((((8 : Int32) * (T3.1 105 12)) + r2) - (1 : Int32)))]) rfl ?_
      refine ax_aload_n hX dX11_readGrade_131 (Or.inr ⟨_, rfl⟩) rfl ?_
      refine tx_getF hX fRX11_118 ly_105 (o := 5) (b := 110) fk_11_16 rfl (by decide) (Nat.lt_of_lt_of_le (by decide) hsz) dX11_readGrade_132 ?_
      refine ax_iload_n hX dX11_readGrade_135 rfl ?_
      refine ax_iconst hX dX11_readGrade_136 (v := 1) (by decide) ?_
      refine tx_zas hX ly_110 (by decide) (Nat.lt_of_lt_of_le (by decide) hsz) hyp.1 dX11_readGrade_137 ?_
      replace hyp := hyp.2
      refine ax_aload_n hX dX11_readGrade_138 (Or.inr ⟨_, rfl⟩) rfl ?_
      refine tx_getF hX fRX11_163 ly_105 (o := 20) (b := 125) fk_11_31 rfl (by decide) (Nat.lt_of_lt_of_le (by decide) hsz) dX11_readGrade_139 ?_
      refine ax_aload_n hX dX11_readGrade_142 (Or.inr ⟨_, rfl⟩) rfl ?_
      refine tx_getI hX fRX11_111 ly_105 fk_11_12 (by decide) (Nat.lt_of_lt_of_le (by decide) hsz) dX11_readGrade_143 ?_
      refine ax_dup2 hX dX11_readGrade_146 rfl rfl ?_
      refine tx_ial hX ly_125 (by decide) (Nat.lt_of_lt_of_le (by decide) hsz) hyp.1 dX11_readGrade_147 ?_
      replace hyp := hyp.2
      refine ax_iconst hX dX11_readGrade_148 (v := 1) (by decide) ?_
      refine ax_iadd hX dX11_readGrade_149 ?_
      refine tx_ias hX ly_125 (by decide) (Nat.lt_of_lt_of_le (by decide) hsz) hyp.1 dX11_readGrade_150 ?_
      replace hyp := hyp.2
      refine ax_aload_n hX dX11_readGrade_151 (Or.inr ⟨_, rfl⟩) rfl ?_
      refine tx_getF hX fRX11_121 ly_105 (o := 6) (b := 111) fk_11_17 rfl (by decide) (Nat.lt_of_lt_of_le (by decide) hsz) dX11_readGrade_152 ?_
      refine ax_iload_n hX dX11_readGrade_155 rfl ?_
      refine ax_iconst hX dX11_readGrade_156 (v := 0) (by decide) ?_
      refine tx_ias hX ly_111 (by decide) (Nat.lt_of_lt_of_le (by decide) hsz) hyp.1 dX11_readGrade_157 ?_
      replace hyp := hyp.2
      refine ax_aload_n hX dX11_readGrade_158 (Or.inr ⟨_, rfl⟩) rfl ?_
      refine tx_getF hX fRX11_127 ly_105 (o := 8) (b := 113) fk_11_19 rfl (by decide) (Nat.lt_of_lt_of_le (by decide) hsz) dX11_readGrade_159 ?_
      refine ax_iload_n hX dX11_readGrade_162 rfl ?_
      refine ax_iconst hX dX11_readGrade_163 (v := 0) (by decide) ?_
      refine tx_ias hX ly_113 (by decide) (Nat.lt_of_lt_of_le (by decide) hsz) hyp.1 dX11_readGrade_164 ?_
      replace hyp := hyp.2
      refine ax_aload_n hX dX11_readGrade_165 (Or.inr ⟨_, rfl⟩) rfl ?_
      refine tx_getF hX fRX11_133 ly_105 (o := 10) (b := 115) fk_11_21 rfl (by decide) (Nat.lt_of_lt_of_le (by decide) hsz) dX11_readGrade_166 ?_
      refine ax_iload_n hX dX11_readGrade_169 rfl ?_
      refine ax_iconst hX dX11_readGrade_170 (v := 0) (by decide) ?_
      refine tx_ias hX ly_115 (by decide) (Nat.lt_of_lt_of_le (by decide) hsz) hyp.1 dX11_readGrade_171 ?_
      replace hyp := hyp.2
      refine ax_aload_n hX dX11_readGrade_172 (Or.inr ⟨_, rfl⟩) rfl ?_
      refine tx_getF hX fRX11_136 ly_105 (o := 11) (b := 116) fk_11_22 rfl (by decide) (Nat.lt_of_lt_of_le (by decide) hsz) dX11_readGrade_173 ?_
      refine ax_iload_n hX dX11_readGrade_176 rfl ?_
      refine ax_iconst hX dX11_readGrade_177 (v := 0) (by decide) ?_
      refine tx_ias hX ly_116 (by decide) (Nat.lt_of_lt_of_le (by decide) hsz) hyp.1 dX11_readGrade_178 ?_
      replace hyp := hyp.2
      refine ax_aload_n hX dX11_readGrade_179 (Or.inr ⟨_, rfl⟩) rfl ?_
      refine tx_getF hX fRX11_145 ly_105 (o := 14) (b := 119) fk_11_25 rfl (by decide) (Nat.lt_of_lt_of_le (by decide) hsz) dX11_readGrade_180 ?_
      refine ax_iload_n hX dX11_readGrade_183 rfl ?_
      refine ax_iconst hX dX11_readGrade_184 (v := -1) (by decide) ?_
      refine tx_ias hX ly_119 (by decide) (Nat.lt_of_lt_of_le (by decide) hsz) hyp.1 dX11_readGrade_185 ?_
      replace hyp := hyp.2
      refine ax_aload_n hX dX11_readGrade_186 (Or.inr ⟨_, rfl⟩) rfl ?_
      refine tx_getF hX fRX11_151 ly_105 (o := 16) (b := 121) fk_11_27 rfl (by decide) (Nat.lt_of_lt_of_le (by decide) hsz) dX11_readGrade_187 ?_
      refine ax_iload_n hX dX11_readGrade_190 rfl ?_
      refine ax_iconst hX dX11_readGrade_191 (v := -1) (by decide) ?_
      refine tx_ias hX ly_121 (by decide) (Nat.lt_of_lt_of_le (by decide) hsz) hyp.1 dX11_readGrade_192 ?_
      replace hyp := hyp.2
      refine ax_aload_n hX dX11_readGrade_193 (Or.inr ⟨_, rfl⟩) rfl ?_
      refine ax_bipush hX dX11_readGrade_194 (v := 123) (by decide) ?_
      obtain ⟨Q1, hK, hyp⟩ := hyp
      refine ax_callV hX lRX11_291 im_X11_must sl_X11_must cw_X11_must ((th_at (by decide) (Nat.lt_of_lt_of_le (by decide) hsz)).trans (tc_ob ly_105)) rfl rfl (A := [.int (123 : Int32)]) (st := []) rfl rfl (Nat.le_of_ble_eq_true rfl) (by decide) (by decide) dX11_readGrade_196 hK ?_
      rintro _ _ ⟨T4, rfl, rfl, hq⟩
      replace hyp := hyp T4 hq
      exact ax_forget (L' := [some (.ref 105), none, some (.int ((((8 : Int32) * (T3.1 105 12)) + r2) - (1 : Int32)))]) (⟨rfl, ⟨rfl, trivial⟩⟩) hyp
    · replace hyp := hyp.2 c
      exact hR.2.2.2 _ _ _ _ _ (by decide) (by decide) dX11_readGrade_118 rfl ⟨_, rfl, rfl, hyp⟩
  · replace hyp := hyp.2 c
    exact hR.2.2.2 _ _ _ _ _ (by decide) (by decide) dX11_readGrade_102 rfl ⟨_, rfl, rfl, hyp⟩
set_option maxRecDepth 10000 in
theorem s_X11_readGrade_199 {X : ax_X} {d L sz : Nat} {T : tT} {Q : tT → Prop} (hX : ax_ok X mX11_readGrade (d + 1)) (hR : ax_Ret X mX11_readGrade (tv L sz Q)) (hsz : 161 ≤ sz) (v2 : Int32) (hyp : ∃ Q1, tiK d mX11_isGood [.ref 105] L sz T Q1 ∧ ∀ (r1 : Int32) (T1 : tT), Q1 r1 T1 → (((r1 = 0 → ∃ Q1, tiK d mX11_isGood [.ref 105] L sz T1 Q1 ∧ ∀ (r2 : Int32) (T2 : tT), Q1 r2 T2 → (((r2 = 0 → Q T2) ∧ (¬ r2 = 0 → ∃ Q1, tvK d mX11_next [.ref 105] L sz T2 Q1 ∧ ∀ (T3 : tT), Q1 T3 → (Q T3))))) ∧ (¬ r1 = 0 → ∃ Q1, tiK d mX11_is [.ref 105, .int (125 : Int32)] L sz T1 Q1 ∧ ∀ (r4 : Int32) (T4 : tT), Q1 r4 T4 → (((¬ r4 = 0 → ∃ Q1, tiK d mX11_isGood [.ref 105] L sz T4 Q1 ∧ ∀ (r5 : Int32) (T5 : tT), Q1 r5 T5 → (((r5 = 0 → Q T5) ∧ (¬ r5 = 0 → ∃ Q1, tvK d mX11_next [.ref 105] L sz T5 Q1 ∧ ∀ (T6 : tT), Q1 T6 → (Q T6))))) ∧ (r4 = 0 → ∃ Q1, tvK d mX11_readItem [.ref 105, .int v2] L sz T4 Q1 ∧ ∀ (T7 : tT), Q1 T7 → (ax_j X 199 [some (.ref 105), none, some (.int v2)] [] (th L sz T7) 0 0)))))))) : ax_j X 199 [some (.ref 105), none, some (.int v2)] [] (th L sz T) 0 0 := by
  refine ax_aload_n hX dX11_readGrade_199 (Or.inr ⟨_, rfl⟩) rfl ?_
  obtain ⟨Q1, hK, hyp⟩ := hyp
  refine ax_callV hX lRX11_95 im_X11_isGood sl_X11_isGood cw_X11_isGood ((th_at (by decide) (Nat.lt_of_lt_of_le (by decide) hsz)).trans (tc_ob ly_105)) rfl rfl (A := []) (st := []) rfl rfl (Nat.le_of_ble_eq_true rfl) (by decide) (by decide) dX11_readGrade_200 hK ?_
  rintro _ _ ⟨r1, T1, rfl, rfl, hq⟩
  replace hyp := hyp r1 T1 hq
  refine ax_if_eq hX dX11_readGrade_203 (tgt := 223) (by decide) (fun c => ?_) (fun c => ?_)
  · replace hyp := hyp.1 c
    refine ax_aload_n hX dX11_readGrade_223 (Or.inr ⟨_, rfl⟩) rfl ?_
    obtain ⟨Q1, hK, hyp⟩ := hyp
    refine ax_callV hX lRX11_95 im_X11_isGood sl_X11_isGood cw_X11_isGood ((th_at (by decide) (Nat.lt_of_lt_of_le (by decide) hsz)).trans (tc_ob ly_105)) rfl rfl (A := []) (st := []) rfl rfl (Nat.le_of_ble_eq_true rfl) (by decide) (by decide) dX11_readGrade_224 hK ?_
    rintro _ _ ⟨r2, T2, rfl, rfl, hq⟩
    replace hyp := hyp r2 T2 hq
    refine ax_if_eq hX dX11_readGrade_227 (tgt := 234) (by decide) (fun c => ?_) (fun c => ?_)
    · replace hyp := hyp.1 c
      exact hR.2.2.2 _ _ _ _ _ (by decide) (by decide) dX11_readGrade_234 rfl ⟨_, rfl, rfl, hyp⟩
    · replace hyp := hyp.2 c
      refine ax_aload_n hX dX11_readGrade_230 (Or.inr ⟨_, rfl⟩) rfl ?_
      obtain ⟨Q1, hK, hyp⟩ := hyp
      refine ax_callV hX lRX11_88 im_X11_next sl_X11_next cw_X11_next ((th_at (by decide) (Nat.lt_of_lt_of_le (by decide) hsz)).trans (tc_ob ly_105)) rfl rfl (A := []) (st := []) rfl rfl (Nat.le_of_ble_eq_true rfl) (by decide) (by decide) dX11_readGrade_231 hK ?_
      rintro _ _ ⟨T3, rfl, rfl, hq⟩
      replace hyp := hyp T3 hq
      exact hR.2.2.2 _ _ _ _ _ (by decide) (by decide) dX11_readGrade_234 rfl ⟨_, rfl, rfl, hyp⟩
  · replace hyp := hyp.2 c
    refine ax_aload_n hX dX11_readGrade_206 (Or.inr ⟨_, rfl⟩) rfl ?_
    refine ax_bipush hX dX11_readGrade_207 (v := 125) (by decide) ?_
    obtain ⟨Q1, hK, hyp⟩ := hyp
    refine ax_callV hX lRX11_85 im_X11_is sl_X11_is cw_X11_is ((th_at (by decide) (Nat.lt_of_lt_of_le (by decide) hsz)).trans (tc_ob ly_105)) rfl rfl (A := [.int (125 : Int32)]) (st := []) rfl rfl (Nat.le_of_ble_eq_true rfl) (by decide) (by decide) dX11_readGrade_209 hK ?_
    rintro _ _ ⟨r4, T4, rfl, rfl, hq⟩
    replace hyp := hyp r4 T4 hq
    refine ax_if_ne hX dX11_readGrade_212 (tgt := 223) (by decide) (fun c => ?_) (fun c => ?_)
    · replace hyp := hyp.1 c
      refine ax_aload_n hX dX11_readGrade_223 (Or.inr ⟨_, rfl⟩) rfl ?_
      obtain ⟨Q1, hK, hyp⟩ := hyp
      refine ax_callV hX lRX11_95 im_X11_isGood sl_X11_isGood cw_X11_isGood ((th_at (by decide) (Nat.lt_of_lt_of_le (by decide) hsz)).trans (tc_ob ly_105)) rfl rfl (A := []) (st := []) rfl rfl (Nat.le_of_ble_eq_true rfl) (by decide) (by decide) dX11_readGrade_224 hK ?_
      rintro _ _ ⟨r5, T5, rfl, rfl, hq⟩
      replace hyp := hyp r5 T5 hq
      refine ax_if_eq hX dX11_readGrade_227 (tgt := 234) (by decide) (fun c => ?_) (fun c => ?_)
      · replace hyp := hyp.1 c
        exact hR.2.2.2 _ _ _ _ _ (by decide) (by decide) dX11_readGrade_234 rfl ⟨_, rfl, rfl, hyp⟩
      · replace hyp := hyp.2 c
        refine ax_aload_n hX dX11_readGrade_230 (Or.inr ⟨_, rfl⟩) rfl ?_
        obtain ⟨Q1, hK, hyp⟩ := hyp
        refine ax_callV hX lRX11_88 im_X11_next sl_X11_next cw_X11_next ((th_at (by decide) (Nat.lt_of_lt_of_le (by decide) hsz)).trans (tc_ob ly_105)) rfl rfl (A := []) (st := []) rfl rfl (Nat.le_of_ble_eq_true rfl) (by decide) (by decide) dX11_readGrade_231 hK ?_
        rintro _ _ ⟨T6, rfl, rfl, hq⟩
        replace hyp := hyp T6 hq
        exact hR.2.2.2 _ _ _ _ _ (by decide) (by decide) dX11_readGrade_234 rfl ⟨_, rfl, rfl, hyp⟩
    · replace hyp := hyp.2 c
      refine ax_aload_n hX dX11_readGrade_215 (Or.inr ⟨_, rfl⟩) rfl ?_
      refine ax_iload_n hX dX11_readGrade_216 rfl ?_
      obtain ⟨Q1, hK, hyp⟩ := hyp
      refine ax_callV hX lRX11_295 im_X11_readItem sl_X11_readItem cw_X11_readItem ((th_at (by decide) (Nat.lt_of_lt_of_le (by decide) hsz)).trans (tc_ob ly_105)) rfl rfl (A := [.int v2]) (st := []) rfl rfl (Nat.le_of_ble_eq_true rfl) (by decide) (by decide) dX11_readGrade_217 hK ?_
      rintro _ _ ⟨T7, rfl, rfl, hq⟩
      replace hyp := hyp T7 hq
      refine ax_goto hX dX11_readGrade_220 (tgt := 199) (by decide) ?_
      exact ax_forget (L' := [some (.ref 105), none, some (.int v2)]) (⟨rfl, ⟨rfl, trivial⟩⟩) hyp
set_option maxRecDepth 10000 in
theorem s_X11_readItem_0 {X : ax_X} {d L sz : Nat} {T : tT} {Q : tT → Prop} (hX : ax_ok X mX11_readItem (d + 1)) (hR : ax_Ret X mX11_readItem (tv L sz Q)) (hsz : 161 ≤ sz) (x0 : Int32) (hyp : ((¬ (T.1 105 8) = (3 : Int32) → ax_j X 16 [some (.ref 105), some (.int x0), none, none, none, none] [.long (0 : Int64)] (th L sz T) 0 0) ∧ ((T.1 105 8) = (3 : Int32) → ax_j X 16 [some (.ref 105), some (.int x0), none, none, none, none] [.long (T.2.1 105 10)] (th L sz T) 0 0))) : ax_j X 0 [some (.ref 105), some (.int x0), none, none, none, none] [] (th L sz T) 0 0 := by
  refine ax_aload_n hX dX11_readItem_0 (Or.inr ⟨_, rfl⟩) rfl ?_
  refine tx_getI hX fRX11_61 ly_105 fk_11_8 (by decide) (Nat.lt_of_lt_of_le (by decide) hsz) dX11_readItem_1 ?_
  refine ax_iconst hX dX11_readItem_4 (v := 3) (by decide) ?_
  refine ax_icmp_ne hX dX11_readItem_5 (tgt := 15) (by decide) (fun c => ?_) (fun c => ?_)
  · replace hyp := hyp.1 c
    refine ax_lconst hX dX11_readItem_15 (v := 0) (by decide) ?_
    exact ax_forget (L' := [some (.ref 105), some (.int x0), none, none, none, none]) (⟨rfl, ⟨rfl, trivial⟩⟩) hyp
  · replace hyp := hyp.2 c
    refine ax_aload_n hX dX11_readItem_8 (Or.inr ⟨_, rfl⟩) rfl ?_
    refine tx_getJ hX fRX11_71 ly_105 fk_11_10 (by decide) (Nat.lt_of_lt_of_le (by decide) hsz) dX11_readItem_9 ?_
    refine ax_goto hX dX11_readItem_12 (tgt := 16) (by decide) ?_
    exact ax_forget (L' := [some (.ref 105), some (.int x0), none, none, none, none]) (⟨rfl, ⟨rfl, trivial⟩⟩) hyp
set_option maxRecDepth 10000 in
theorem s_X11_readItem_16 {X : ax_X} {d L sz : Nat} {T : tT} {Q : tT → Prop} (hX : ax_ok X mX11_readItem (d + 1)) (hR : ax_Ret X mX11_readItem (tv L sz Q)) (hsz : 161 ≤ sz) (v1 : Int32) (w0 : Int64) (hyp : ((¬ w0 = (1818850164 : Int64) → ((¬ w0 = (1885434484 : Int64) → ((¬ w0 = (1836413812 : Int64) → ((¬ w0 = (30796695599342963 : Int64) → ((¬ w0 = (1885434739 : Int64) → ((¬ w0 = (469853432180 : Int64) → ax_j X 174 [some (.ref 105), some (.int v1), some (.long w0), none, none, none] [.int (1 : Int32)] (th L sz T) 0 0) ∧ (w0 = (469853432180 : Int64) → vp_in v1 40 ∧ (((T.1 121 (v1.toNatClampNeg)) < 0 → ax_j X 174 [some (.ref 105), some (.int v1), some (.long w0), none, none, none] [.int (0 : Int32)] (th L sz T) 0 0) ∧ (¬ (T.1 121 (v1.toNatClampNeg)) < 0 → ax_j X 174 [some (.ref 105), some (.int v1), some (.long w0), none, none, none] [.int (1 : Int32)] (th L sz T) 0 0))))) ∧ (w0 = (1885434739 : Int64) → vp_in v1 40 ∧ (((T.1 119 (v1.toNatClampNeg)) < 0 → ax_j X 174 [some (.ref 105), some (.int v1), some (.long w0), none, none, none] [.int (0 : Int32)] (th L sz T) 0 0) ∧ (¬ (T.1 119 (v1.toNatClampNeg)) < 0 → ax_j X 174 [some (.ref 105), some (.int v1), some (.long w0), none, none, none] [.int (1 : Int32)] (th L sz T) 0 0))))) ∧ (w0 = (30796695599342963 : Int64) → vp_in v1 40 ∧ (((T.1 116 (v1.toNatClampNeg)) ≤ 0 → ax_j X 174 [some (.ref 105), some (.int v1), some (.long w0), none, none, none] [.int (0 : Int32)] (th L sz T) 0 0) ∧ (¬ (T.1 116 (v1.toNatClampNeg)) ≤ 0 → ax_j X 174 [some (.ref 105), some (.int v1), some (.long w0), none, none, none] [.int (1 : Int32)] (th L sz T) 0 0))))) ∧ (w0 = (1836413812 : Int64) → vp_in v1 40 ∧ ((¬ (T.1 115 (v1.toNatClampNeg)) = (8 : Int32) → ax_j X 174 [some (.ref 105), some (.int v1), some (.long w0), none, none, none] [.int (0 : Int32)] (th L sz T) 0 0) ∧ ((T.1 115 (v1.toNatClampNeg)) = (8 : Int32) → ax_j X 174 [some (.ref 105), some (.int v1), some (.long w0), none, none, none] [.int (1 : Int32)] (th L sz T) 0 0))))) ∧ (w0 = (1885434484 : Int64) → vp_in v1 40 ∧ ((¬ (T.1 113 (v1.toNatClampNeg)) = (6 : Int32) → ax_j X 174 [some (.ref 105), some (.int v1), some (.long w0), none, none, none] [.int (0 : Int32)] (th L sz T) 0 0) ∧ ((T.1 113 (v1.toNatClampNeg)) = (6 : Int32) → ax_j X 174 [some (.ref 105), some (.int v1), some (.long w0), none, none, none] [.int (1 : Int32)] (th L sz T) 0 0))))) ∧ (w0 = (1818850164 : Int64) → vp_in v1 40 ∧ ((¬ (T.1 111 (v1.toNatClampNeg)) = (6 : Int32) → ax_j X 174 [some (.ref 105), some (.int v1), some (.long w0), none, none, none] [.int (0 : Int32)] (th L sz T) 0 0) ∧ ((T.1 111 (v1.toNatClampNeg)) = (6 : Int32) → ax_j X 174 [some (.ref 105), some (.int v1), some (.long w0), none, none, none] [.int (1 : Int32)] (th L sz T) 0 0))))) : ax_j X 16 [some (.ref 105), some (.int v1), none, none, none, none] [.long w0] (th L sz T) 0 0 := by
  refine ax_lstore_n hX dX11_readItem_16 (by decide) (L' := [some (.ref 105), some (.int v1), some (.long w0), none, none, none]) rfl ?_
  refine ax_lload_n hX dX11_readItem_17 rfl ?_
  refine ax_ldc2 hX vRX11_33 dX11_readItem_18 ?_
  refine tx_lcmp_ne hX dX11_readItem_21 dX11_readItem_22 (tgt := 44) (by decide) (fun c => ?_) (fun c => ?_)
  · replace hyp := hyp.1 c
    refine ax_lload_n hX dX11_readItem_44 rfl ?_
    refine ax_ldc2 hX vRX11_35 dX11_readItem_45 ?_
    refine tx_lcmp_ne hX dX11_readItem_48 dX11_readItem_49 (tgt := 71) (by decide) (fun c => ?_) (fun c => ?_)
    · replace hyp := hyp.1 c
      refine ax_lload_n hX dX11_readItem_71 rfl ?_
      refine ax_ldc2 hX vRX11_39 dX11_readItem_72 ?_
      refine tx_lcmp_ne hX dX11_readItem_75 dX11_readItem_76 (tgt := 98) (by decide) (fun c => ?_) (fun c => ?_)
      · replace hyp := hyp.1 c
        refine ax_lload_n hX dX11_readItem_98 rfl ?_
        refine ax_ldc2 hX vRX11_37 dX11_readItem_99 ?_
        refine tx_lcmp_ne hX dX11_readItem_102 dX11_readItem_103 (tgt := 123) (by decide) (fun c => ?_) (fun c => ?_)
        · replace hyp := hyp.1 c
          refine ax_lload_n hX dX11_readItem_123 rfl ?_
          refine ax_ldc2 hX vRX11_41 dX11_readItem_124 ?_
          refine tx_lcmp_ne hX dX11_readItem_127 dX11_readItem_128 (tgt := 148) (by decide) (fun c => ?_) (fun c => ?_)
          · replace hyp := hyp.1 c
            refine ax_lload_n hX dX11_readItem_148 rfl ?_
            refine ax_ldc2 hX vRX11_43 dX11_readItem_149 ?_
            refine tx_lcmp_ne hX dX11_readItem_152 dX11_readItem_153 (tgt := 173) (by decide) (fun c => ?_) (fun c => ?_)
            · replace hyp := hyp.1 c
              refine ax_iconst hX dX11_readItem_173 (v := 1) (by decide) ?_
              exact ax_forget (L' := [some (.ref 105), some (.int v1), some (.long w0), none, none, none]) (⟨rfl, ⟨rfl, ⟨rfl, trivial⟩⟩⟩) hyp
            · replace hyp := hyp.2 c
              refine ax_aload_n hX dX11_readItem_156 (Or.inr ⟨_, rfl⟩) rfl ?_
              refine tx_getF hX fRX11_151 ly_105 (o := 16) (b := 121) fk_11_27 rfl (by decide) (Nat.lt_of_lt_of_le (by decide) hsz) dX11_readItem_157 ?_
              refine ax_iload_n hX dX11_readItem_160 rfl ?_
              refine tx_ial hX ly_121 (by decide) (Nat.lt_of_lt_of_le (by decide) hsz) hyp.1 dX11_readItem_161 ?_
              replace hyp := hyp.2
              refine ax_if_lt hX dX11_readItem_162 (tgt := 169) (by decide) (fun c => ?_) (fun c => ?_)
              · replace hyp := hyp.1 c
                refine ax_iconst hX dX11_readItem_169 (v := 0) (by decide) ?_
                refine ax_goto hX dX11_readItem_170 (tgt := 174) (by decide) ?_
                exact ax_forget (L' := [some (.ref 105), some (.int v1), some (.long w0), none, none, none]) (⟨rfl, ⟨rfl, ⟨rfl, trivial⟩⟩⟩) hyp
              · replace hyp := hyp.2 c
                refine ax_iconst hX dX11_readItem_165 (v := 1) (by decide) ?_
                refine ax_goto hX dX11_readItem_166 (tgt := 174) (by decide) ?_
                exact ax_forget (L' := [some (.ref 105), some (.int v1), some (.long w0), none, none, none]) (⟨rfl, ⟨rfl, ⟨rfl, trivial⟩⟩⟩) hyp
          · replace hyp := hyp.2 c
            refine ax_aload_n hX dX11_readItem_131 (Or.inr ⟨_, rfl⟩) rfl ?_
            refine tx_getF hX fRX11_145 ly_105 (o := 14) (b := 119) fk_11_25 rfl (by decide) (Nat.lt_of_lt_of_le (by decide) hsz) dX11_readItem_132 ?_
            refine ax_iload_n hX dX11_readItem_135 rfl ?_
            refine tx_ial hX ly_119 (by decide) (Nat.lt_of_lt_of_le (by decide) hsz) hyp.1 dX11_readItem_136 ?_
            replace hyp := hyp.2
            refine ax_if_lt hX dX11_readItem_137 (tgt := 144) (by decide) (fun c => ?_) (fun c => ?_)
            · replace hyp := hyp.1 c
              refine ax_iconst hX dX11_readItem_144 (v := 0) (by decide) ?_
              refine ax_goto hX dX11_readItem_145 (tgt := 174) (by decide) ?_
              exact ax_forget (L' := [some (.ref 105), some (.int v1), some (.long w0), none, none, none]) (⟨rfl, ⟨rfl, ⟨rfl, trivial⟩⟩⟩) hyp
            · replace hyp := hyp.2 c
              refine ax_iconst hX dX11_readItem_140 (v := 1) (by decide) ?_
              refine ax_goto hX dX11_readItem_141 (tgt := 174) (by decide) ?_
              exact ax_forget (L' := [some (.ref 105), some (.int v1), some (.long w0), none, none, none]) (⟨rfl, ⟨rfl, ⟨rfl, trivial⟩⟩⟩) hyp
        · replace hyp := hyp.2 c
          refine ax_aload_n hX dX11_readItem_106 (Or.inr ⟨_, rfl⟩) rfl ?_
          refine tx_getF hX fRX11_136 ly_105 (o := 11) (b := 116) fk_11_22 rfl (by decide) (Nat.lt_of_lt_of_le (by decide) hsz) dX11_readItem_107 ?_
          refine ax_iload_n hX dX11_readItem_110 rfl ?_
          refine tx_ial hX ly_116 (by decide) (Nat.lt_of_lt_of_le (by decide) hsz) hyp.1 dX11_readItem_111 ?_
          replace hyp := hyp.2
          refine ax_if_le hX dX11_readItem_112 (tgt := 119) (by decide) (fun c => ?_) (fun c => ?_)
          · replace hyp := hyp.1 c
            refine ax_iconst hX dX11_readItem_119 (v := 0) (by decide) ?_
            refine ax_goto hX dX11_readItem_120 (tgt := 174) (by decide) ?_
            exact ax_forget (L' := [some (.ref 105), some (.int v1), some (.long w0), none, none, none]) (⟨rfl, ⟨rfl, ⟨rfl, trivial⟩⟩⟩) hyp
          · replace hyp := hyp.2 c
            refine ax_iconst hX dX11_readItem_115 (v := 1) (by decide) ?_
            refine ax_goto hX dX11_readItem_116 (tgt := 174) (by decide) ?_
            exact ax_forget (L' := [some (.ref 105), some (.int v1), some (.long w0), none, none, none]) (⟨rfl, ⟨rfl, ⟨rfl, trivial⟩⟩⟩) hyp
      · replace hyp := hyp.2 c
        refine ax_aload_n hX dX11_readItem_79 (Or.inr ⟨_, rfl⟩) rfl ?_
        refine tx_getF hX fRX11_133 ly_105 (o := 10) (b := 115) fk_11_21 rfl (by decide) (Nat.lt_of_lt_of_le (by decide) hsz) dX11_readItem_80 ?_
        refine ax_iload_n hX dX11_readItem_83 rfl ?_
        refine tx_ial hX ly_115 (by decide) (Nat.lt_of_lt_of_le (by decide) hsz) hyp.1 dX11_readItem_84 ?_
        replace hyp := hyp.2
        refine ax_bipush hX dX11_readItem_85 (v := 8) (by decide) ?_
        refine ax_icmp_ne hX dX11_readItem_87 (tgt := 94) (by decide) (fun c => ?_) (fun c => ?_)
        · replace hyp := hyp.1 c
          refine ax_iconst hX dX11_readItem_94 (v := 0) (by decide) ?_
          refine ax_goto hX dX11_readItem_95 (tgt := 174) (by decide) ?_
          exact ax_forget (L' := [some (.ref 105), some (.int v1), some (.long w0), none, none, none]) (⟨rfl, ⟨rfl, ⟨rfl, trivial⟩⟩⟩) hyp
        · replace hyp := hyp.2 c
          refine ax_iconst hX dX11_readItem_90 (v := 1) (by decide) ?_
          refine ax_goto hX dX11_readItem_91 (tgt := 174) (by decide) ?_
          exact ax_forget (L' := [some (.ref 105), some (.int v1), some (.long w0), none, none, none]) (⟨rfl, ⟨rfl, ⟨rfl, trivial⟩⟩⟩) hyp
    · replace hyp := hyp.2 c
      refine ax_aload_n hX dX11_readItem_52 (Or.inr ⟨_, rfl⟩) rfl ?_
      refine tx_getF hX fRX11_127 ly_105 (o := 8) (b := 113) fk_11_19 rfl (by decide) (Nat.lt_of_lt_of_le (by decide) hsz) dX11_readItem_53 ?_
      refine ax_iload_n hX dX11_readItem_56 rfl ?_
      refine tx_ial hX ly_113 (by decide) (Nat.lt_of_lt_of_le (by decide) hsz) hyp.1 dX11_readItem_57 ?_
      replace hyp := hyp.2
      refine ax_bipush hX dX11_readItem_58 (v := 6) (by decide) ?_
      refine ax_icmp_ne hX dX11_readItem_60 (tgt := 67) (by decide) (fun c => ?_) (fun c => ?_)
      · replace hyp := hyp.1 c
        refine ax_iconst hX dX11_readItem_67 (v := 0) (by decide) ?_
        refine ax_goto hX dX11_readItem_68 (tgt := 174) (by decide) ?_
        exact ax_forget (L' := [some (.ref 105), some (.int v1), some (.long w0), none, none, none]) (⟨rfl, ⟨rfl, ⟨rfl, trivial⟩⟩⟩) hyp
      · replace hyp := hyp.2 c
        refine ax_iconst hX dX11_readItem_63 (v := 1) (by decide) ?_
        refine ax_goto hX dX11_readItem_64 (tgt := 174) (by decide) ?_
        exact ax_forget (L' := [some (.ref 105), some (.int v1), some (.long w0), none, none, none]) (⟨rfl, ⟨rfl, ⟨rfl, trivial⟩⟩⟩) hyp
  · replace hyp := hyp.2 c
    refine ax_aload_n hX dX11_readItem_25 (Or.inr ⟨_, rfl⟩) rfl ?_
    refine tx_getF hX fRX11_121 ly_105 (o := 6) (b := 111) fk_11_17 rfl (by decide) (Nat.lt_of_lt_of_le (by decide) hsz) dX11_readItem_26 ?_
    refine ax_iload_n hX dX11_readItem_29 rfl ?_
    refine tx_ial hX ly_111 (by decide) (Nat.lt_of_lt_of_le (by decide) hsz) hyp.1 dX11_readItem_30 ?_
    replace hyp := hyp.2
    refine ax_bipush hX dX11_readItem_31 (v := 6) (by decide) ?_
    refine ax_icmp_ne hX dX11_readItem_33 (tgt := 40) (by decide) (fun c => ?_) (fun c => ?_)
    · replace hyp := hyp.1 c
      refine ax_iconst hX dX11_readItem_40 (v := 0) (by decide) ?_
      refine ax_goto hX dX11_readItem_41 (tgt := 174) (by decide) ?_
      exact ax_forget (L' := [some (.ref 105), some (.int v1), some (.long w0), none, none, none]) (⟨rfl, ⟨rfl, ⟨rfl, trivial⟩⟩⟩) hyp
    · replace hyp := hyp.2 c
      refine ax_iconst hX dX11_readItem_36 (v := 1) (by decide) ?_
      refine ax_goto hX dX11_readItem_37 (tgt := 174) (by decide) ?_
      exact ax_forget (L' := [some (.ref 105), some (.int v1), some (.long w0), none, none, none]) (⟨rfl, ⟨rfl, ⟨rfl, trivial⟩⟩⟩) hyp
set_option maxRecDepth 10000 in
theorem s_X11_readItem_174 {X : ax_X} {d L sz : Nat} {T : tT} {Q : tT → Prop} (hX : ax_ok X mX11_readItem (d + 1)) (hR : ax_Ret X mX11_readItem (tv L sz Q)) (hsz : 161 ≤ sz) (v1 : Int32) (v2 : Int64) (w0 : Int32) (hyp : ((w0 = 0 → ax_j X 185 [some (.ref 105), some (.int v1), some (.long v2), none, none, none] [] (th L sz T) 0 0) ∧ (¬ w0 = 0 → ∃ Q1, tvK d mX11_wrong [.ref 105] L sz T Q1 ∧ ∀ (T1 : tT), Q1 T1 → (ax_j X 185 [some (.ref 105), some (.int v1), some (.long v2), none, none, none] [] (th L sz T1) 0 0)))) : ax_j X 174 [some (.ref 105), some (.int v1), some (.long v2), none, none, none] [.int w0] (th L sz T) 0 0 := by
  refine ax_istore hX dX11_readItem_174 (by decide) (L' := [some (.ref 105), some (.int v1), some (.long v2), none, some (.int w0), none]) rfl ?_
  refine ax_iload hX dX11_readItem_176 rfl ?_
  refine ax_if_eq hX dX11_readItem_178 (tgt := 185) (by decide) (fun c => ?_) (fun c => ?_)
  · replace hyp := hyp.1 c
    exact ax_forget (L' := [some (.ref 105), some (.int v1), some (.long v2), none, none, none]) (⟨rfl, ⟨rfl, ⟨rfl, trivial⟩⟩⟩) hyp
  · replace hyp := hyp.2 c
    refine ax_aload_n hX dX11_readItem_181 (Or.inr ⟨_, rfl⟩) rfl ?_
    obtain ⟨Q1, hK, hyp⟩ := hyp
    refine ax_callV hX lRX11_92 im_X11_wrong sl_X11_wrong cw_X11_wrong ((th_at (by decide) (Nat.lt_of_lt_of_le (by decide) hsz)).trans (tc_ob ly_105)) rfl rfl (A := []) (st := []) rfl rfl (Nat.le_of_ble_eq_true rfl) (by decide) (by decide) dX11_readItem_182 hK ?_
    rintro _ _ ⟨T1, rfl, rfl, hq⟩
    replace hyp := hyp T1 hq
    exact ax_forget (L' := [some (.ref 105), some (.int v1), some (.long v2), none, none, none]) (⟨rfl, ⟨rfl, ⟨rfl, trivial⟩⟩⟩) hyp
set_option maxRecDepth 10000 in
theorem s_X11_readItem_185 {X : ax_X} {d L sz : Nat} {T : tT} {Q : tT → Prop} (hX : ax_ok X mX11_readItem (d + 1)) (hR : ax_Ret X mX11_readItem (tv L sz Q)) (hsz : 161 ≤ sz) (v1 : Int32) (v2 : Int64) (hyp : ∃ Q1, tiK d mX11_isGood [.ref 105] L sz T Q1 ∧ ∀ (r1 : Int32) (T1 : tT), Q1 r1 T1 → (((¬ r1 = 0 → ∃ Q1, tvK d mX11_next [.ref 105] L sz T1 Q1 ∧ ∀ (T2 : tT), Q1 T2 → (((¬ v2 = (1818850164 : Int64) → ((¬ v2 = (1885434484 : Int64) → ((¬ v2 = (30796695599342963 : Int64) → ((¬ v2 = (1836413812 : Int64) → ax_j X 274 [some (.ref 105), some (.int v1), some (.long v2), none, none, some (.int (T2.1 105 14))] [.int (0 : Int32), .int v1, .ref 105] (th L sz T2) 0 0) ∧ (v2 = (1836413812 : Int64) → ax_j X 274 [some (.ref 105), some (.int v1), some (.long v2), none, none, some (.int (T2.1 105 14))] [.int (1 : Int32), .int v1, .ref 105] (th L sz T2) 0 0))) ∧ (v2 = (30796695599342963 : Int64) → ∃ Q1, tiK d mX11_numberOf [.ref 105, .int (1 : Int32), .int (120 : Int32)] L sz T2 Q1 ∧ ∀ (r3 : Int32) (T3 : tT), Q1 r3 T3 → (vp_in v1 40 ∧ ∃ Q1, tiK d mX11_isGood [.ref 105] L sz (tI T3 116 (v1.toNatClampNeg) r3) Q1 ∧ ∀ (r4 : Int32) (T4 : tT), Q1 r4 T4 → (((r4 = 0 → Q T4) ∧ (¬ r4 = 0 → ∃ Q1, tvK d mX11_must [.ref 105, .int (59 : Int32)] L sz T4 Q1 ∧ ∀ (T5 : tT), Q1 T5 → (Q T5)))))))) ∧ (v2 = (1885434484 : Int64) → ∃ Q1, tvK d mX11_readPart [.ref 105, .int v1] L sz T2 Q1 ∧ ∀ (T6 : tT), Q1 T6 → (∃ Q1, tiK d mX11_isGood [.ref 105] L sz T6 Q1 ∧ ∀ (r7 : Int32) (T7 : tT), Q1 r7 T7 → (((r7 = 0 → Q T7) ∧ (¬ r7 = 0 → ∃ Q1, tvK d mX11_must [.ref 105, .int (59 : Int32)] L sz T7 Q1 ∧ ∀ (T8 : tT), Q1 T8 → (Q T8)))))))) ∧ (v2 = (1818850164 : Int64) → ∃ Q1, tvK d mX11_readList [.ref 105, .int v1] L sz T2 Q1 ∧ ∀ (T9 : tT), Q1 T9 → (∃ Q1, tiK d mX11_isGood [.ref 105] L sz T9 Q1 ∧ ∀ (r10 : Int32) (T10 : tT), Q1 r10 T10 → (((r10 = 0 → Q T10) ∧ (¬ r10 = 0 → ∃ Q1, tvK d mX11_must [.ref 105, .int (59 : Int32)] L sz T10 Q1 ∧ ∀ (T11 : tT), Q1 T11 → (Q T11))))))))) ∧ (r1 = 0 → Q T1)))) : ax_j X 185 [some (.ref 105), some (.int v1), some (.long v2), none, none, none] [] (th L sz T) 0 0 := by
  refine ax_aload_n hX dX11_readItem_185 (Or.inr ⟨_, rfl⟩) rfl ?_
  obtain ⟨Q1, hK, hyp⟩ := hyp
  refine ax_callV hX lRX11_95 im_X11_isGood sl_X11_isGood cw_X11_isGood ((th_at (by decide) (Nat.lt_of_lt_of_le (by decide) hsz)).trans (tc_ob ly_105)) rfl rfl (A := []) (st := []) rfl rfl (Nat.le_of_ble_eq_true rfl) (by decide) (by decide) dX11_readItem_186 hK ?_
  rintro _ _ ⟨r1, T1, rfl, rfl, hq⟩
  replace hyp := hyp r1 T1 hq
  refine ax_if_ne hX dX11_readItem_189 (tgt := 193) (by decide) (fun c => ?_) (fun c => ?_)
  · replace hyp := hyp.1 c
    refine ax_aload_n hX dX11_readItem_193 (Or.inr ⟨_, rfl⟩) rfl ?_
    obtain ⟨Q1, hK, hyp⟩ := hyp
    refine ax_callV hX lRX11_88 im_X11_next sl_X11_next cw_X11_next ((th_at (by decide) (Nat.lt_of_lt_of_le (by decide) hsz)).trans (tc_ob ly_105)) rfl rfl (A := []) (st := []) rfl rfl (Nat.le_of_ble_eq_true rfl) (by decide) (by decide) dX11_readItem_194 hK ?_
    rintro _ _ ⟨T2, rfl, rfl, hq⟩
    replace hyp := hyp T2 hq
    refine ax_lload_n hX dX11_readItem_197 rfl ?_
    refine ax_ldc2 hX vRX11_33 dX11_readItem_198 ?_
    refine tx_lcmp_ne hX dX11_readItem_201 dX11_readItem_202 (tgt := 213) (by decide) (fun c => ?_) (fun c => ?_)
    · replace hyp := hyp.1 c
      refine ax_lload_n hX dX11_readItem_213 rfl ?_
      refine ax_ldc2 hX vRX11_35 dX11_readItem_214 ?_
      refine tx_lcmp_ne hX dX11_readItem_217 dX11_readItem_218 (tgt := 229) (by decide) (fun c => ?_) (fun c => ?_)
      · replace hyp := hyp.1 c
        refine ax_lload_n hX dX11_readItem_229 rfl ?_
        refine ax_ldc2 hX vRX11_37 dX11_readItem_230 ?_
        refine tx_lcmp_ne hX dX11_readItem_233 dX11_readItem_234 (tgt := 253) (by decide) (fun c => ?_) (fun c => ?_)
        · replace hyp := hyp.1 c
          refine ax_aload_n hX dX11_readItem_253 (Or.inr ⟨_, rfl⟩) rfl ?_
          refine tx_getI hX fRX11_278 ly_105 fk_11_14 (by decide) (Nat.lt_of_lt_of_le (by decide) hsz) dX11_readItem_254 ?_
          refine ax_istore hX dX11_readItem_257 (by decide) (L' := [some (.ref 105), some (.int v1), some (.long v2), none, none, some (.int (T2.1 105 14))]) rfl ?_
          refine ax_aload_n hX dX11_readItem_259 (Or.inr ⟨_, rfl⟩) rfl ?_
          refine ax_iload_n hX dX11_readItem_260 rfl ?_
          refine ax_lload_n hX dX11_readItem_261 rfl ?_
          refine ax_ldc2 hX vRX11_39 dX11_readItem_262 ?_
          refine tx_lcmp_ne hX dX11_readItem_265 dX11_readItem_266 (tgt := 273) (by decide) (fun c => ?_) (fun c => ?_)
          · replace hyp := hyp.1 c
            refine ax_iconst hX dX11_readItem_273 (v := 0) (by decide) ?_
            exact ax_forget (L' := [some (.ref 105), some (.int v1), some (.long v2), none, none, some (.int (T2.1 105 14))]) (⟨rfl, ⟨rfl, ⟨rfl, ⟨rfl, trivial⟩⟩⟩⟩) hyp
          · replace hyp := hyp.2 c
            refine ax_iconst hX dX11_readItem_269 (v := 1) (by decide) ?_
            refine ax_goto hX dX11_readItem_270 (tgt := 274) (by decide) ?_
            exact ax_forget (L' := [some (.ref 105), some (.int v1), some (.long v2), none, none, some (.int (T2.1 105 14))]) (⟨rfl, ⟨rfl, ⟨rfl, ⟨rfl, trivial⟩⟩⟩⟩) hyp
        · replace hyp := hyp.2 c
          refine ax_aload_n hX dX11_readItem_237 (Or.inr ⟨_, rfl⟩) rfl ?_
          refine tx_getF hX fRX11_136 ly_105 (o := 11) (b := 116) fk_11_22 rfl (by decide) (Nat.lt_of_lt_of_le (by decide) hsz) dX11_readItem_238 ?_
          refine ax_iload_n hX dX11_readItem_241 rfl ?_
          refine ax_aload_n hX dX11_readItem_242 (Or.inr ⟨_, rfl⟩) rfl ?_
          refine ax_iconst hX dX11_readItem_243 (v := 1) (by decide) ?_
          refine ax_bipush hX dX11_readItem_244 (v := 120) (by decide) ?_
          obtain ⟨Q1, hK, hyp⟩ := hyp
          refine ax_callV hX lRX11_287 im_X11_numberOf sl_X11_numberOf cw_X11_numberOf ((th_at (by decide) (Nat.lt_of_lt_of_le (by decide) hsz)).trans (tc_ob ly_105)) rfl rfl (A := [.int (1 : Int32), .int (120 : Int32)]) (st := [.int v1, .ref 116]) rfl rfl (Nat.le_of_ble_eq_true rfl) (by decide) (by decide) dX11_readItem_246 hK ?_
          rintro _ _ ⟨r3, T3, rfl, rfl, hq⟩
          replace hyp := hyp r3 T3 hq
          refine tx_ias hX ly_116 (by decide) (Nat.lt_of_lt_of_le (by decide) hsz) hyp.1 dX11_readItem_249 ?_
          replace hyp := hyp.2
          refine ax_goto hX dX11_readItem_250 (tgt := 383) (by decide) ?_
          refine ax_aload_n hX dX11_readItem_383 (Or.inr ⟨_, rfl⟩) rfl ?_
          obtain ⟨Q1, hK, hyp⟩ := hyp
          refine ax_callV hX lRX11_95 im_X11_isGood sl_X11_isGood cw_X11_isGood ((th_at (by decide) (Nat.lt_of_lt_of_le (by decide) hsz)).trans (tc_ob ly_105)) rfl rfl (A := []) (st := []) rfl rfl (Nat.le_of_ble_eq_true rfl) (by decide) (by decide) dX11_readItem_384 hK ?_
          rintro _ _ ⟨r4, T4, rfl, rfl, hq⟩
          replace hyp := hyp r4 T4 hq
          refine ax_if_eq hX dX11_readItem_387 (tgt := 396) (by decide) (fun c => ?_) (fun c => ?_)
          · replace hyp := hyp.1 c
            exact hR.2.2.2 _ _ _ _ _ (by decide) (by decide) dX11_readItem_396 rfl ⟨_, rfl, rfl, hyp⟩
          · replace hyp := hyp.2 c
            refine ax_aload_n hX dX11_readItem_390 (Or.inr ⟨_, rfl⟩) rfl ?_
            refine ax_bipush hX dX11_readItem_391 (v := 59) (by decide) ?_
            obtain ⟨Q1, hK, hyp⟩ := hyp
            refine ax_callV hX lRX11_291 im_X11_must sl_X11_must cw_X11_must ((th_at (by decide) (Nat.lt_of_lt_of_le (by decide) hsz)).trans (tc_ob ly_105)) rfl rfl (A := [.int (59 : Int32)]) (st := []) rfl rfl (Nat.le_of_ble_eq_true rfl) (by decide) (by decide) dX11_readItem_393 hK ?_
            rintro _ _ ⟨T5, rfl, rfl, hq⟩
            replace hyp := hyp T5 hq
            exact hR.2.2.2 _ _ _ _ _ (by decide) (by decide) dX11_readItem_396 rfl ⟨_, rfl, rfl, hyp⟩
      · replace hyp := hyp.2 c
        refine ax_aload_n hX dX11_readItem_221 (Or.inr ⟨_, rfl⟩) rfl ?_
        refine ax_iload_n hX dX11_readItem_222 rfl ?_
        obtain ⟨Q1, hK, hyp⟩ := hyp
        refine ax_callV hX lRX11_301 im_X11_readPart sl_X11_readPart cw_X11_readPart ((th_at (by decide) (Nat.lt_of_lt_of_le (by decide) hsz)).trans (tc_ob ly_105)) rfl rfl (A := [.int v1]) (st := []) rfl rfl (Nat.le_of_ble_eq_true rfl) (by decide) (by decide) dX11_readItem_223 hK ?_
        rintro _ _ ⟨T6, rfl, rfl, hq⟩
        replace hyp := hyp T6 hq
        refine ax_goto hX dX11_readItem_226 (tgt := 383) (by decide) ?_
        refine ax_aload_n hX dX11_readItem_383 (Or.inr ⟨_, rfl⟩) rfl ?_
        obtain ⟨Q1, hK, hyp⟩ := hyp
        refine ax_callV hX lRX11_95 im_X11_isGood sl_X11_isGood cw_X11_isGood ((th_at (by decide) (Nat.lt_of_lt_of_le (by decide) hsz)).trans (tc_ob ly_105)) rfl rfl (A := []) (st := []) rfl rfl (Nat.le_of_ble_eq_true rfl) (by decide) (by decide) dX11_readItem_384 hK ?_
        rintro _ _ ⟨r7, T7, rfl, rfl, hq⟩
        replace hyp := hyp r7 T7 hq
        refine ax_if_eq hX dX11_readItem_387 (tgt := 396) (by decide) (fun c => ?_) (fun c => ?_)
        · replace hyp := hyp.1 c
          exact hR.2.2.2 _ _ _ _ _ (by decide) (by decide) dX11_readItem_396 rfl ⟨_, rfl, rfl, hyp⟩
        · replace hyp := hyp.2 c
          refine ax_aload_n hX dX11_readItem_390 (Or.inr ⟨_, rfl⟩) rfl ?_
          refine ax_bipush hX dX11_readItem_391 (v := 59) (by decide) ?_
          obtain ⟨Q1, hK, hyp⟩ := hyp
          refine ax_callV hX lRX11_291 im_X11_must sl_X11_must cw_X11_must ((th_at (by decide) (Nat.lt_of_lt_of_le (by decide) hsz)).trans (tc_ob ly_105)) rfl rfl (A := [.int (59 : Int32)]) (st := []) rfl rfl (Nat.le_of_ble_eq_true rfl) (by decide) (by decide) dX11_readItem_393 hK ?_
          rintro _ _ ⟨T8, rfl, rfl, hq⟩
          replace hyp := hyp T8 hq
          exact hR.2.2.2 _ _ _ _ _ (by decide) (by decide) dX11_readItem_396 rfl ⟨_, rfl, rfl, hyp⟩
    · replace hyp := hyp.2 c
      refine ax_aload_n hX dX11_readItem_205 (Or.inr ⟨_, rfl⟩) rfl ?_
      refine ax_iload_n hX dX11_readItem_206 rfl ?_
      obtain ⟨Q1, hK, hyp⟩ := hyp
      refine ax_callV hX lRX11_298 im_X11_readList sl_X11_readList cw_X11_readList ((th_at (by decide) (Nat.lt_of_lt_of_le (by decide) hsz)).trans (tc_ob ly_105)) rfl rfl (A := [.int v1]) (st := []) rfl rfl (Nat.le_of_ble_eq_true rfl) (by decide) (by decide) dX11_readItem_207 hK ?_
      rintro _ _ ⟨T9, rfl, rfl, hq⟩
      replace hyp := hyp T9 hq
      refine ax_goto hX dX11_readItem_210 (tgt := 383) (by decide) ?_
      refine ax_aload_n hX dX11_readItem_383 (Or.inr ⟨_, rfl⟩) rfl ?_
      obtain ⟨Q1, hK, hyp⟩ := hyp
      refine ax_callV hX lRX11_95 im_X11_isGood sl_X11_isGood cw_X11_isGood ((th_at (by decide) (Nat.lt_of_lt_of_le (by decide) hsz)).trans (tc_ob ly_105)) rfl rfl (A := []) (st := []) rfl rfl (Nat.le_of_ble_eq_true rfl) (by decide) (by decide) dX11_readItem_384 hK ?_
      rintro _ _ ⟨r10, T10, rfl, rfl, hq⟩
      replace hyp := hyp r10 T10 hq
      refine ax_if_eq hX dX11_readItem_387 (tgt := 396) (by decide) (fun c => ?_) (fun c => ?_)
      · replace hyp := hyp.1 c
        exact hR.2.2.2 _ _ _ _ _ (by decide) (by decide) dX11_readItem_396 rfl ⟨_, rfl, rfl, hyp⟩
      · replace hyp := hyp.2 c
        refine ax_aload_n hX dX11_readItem_390 (Or.inr ⟨_, rfl⟩) rfl ?_
        refine ax_bipush hX dX11_readItem_391 (v := 59) (by decide) ?_
        obtain ⟨Q1, hK, hyp⟩ := hyp
        refine ax_callV hX lRX11_291 im_X11_must sl_X11_must cw_X11_must ((th_at (by decide) (Nat.lt_of_lt_of_le (by decide) hsz)).trans (tc_ob ly_105)) rfl rfl (A := [.int (59 : Int32)]) (st := []) rfl rfl (Nat.le_of_ble_eq_true rfl) (by decide) (by decide) dX11_readItem_393 hK ?_
        rintro _ _ ⟨T11, rfl, rfl, hq⟩
        replace hyp := hyp T11 hq
        exact hR.2.2.2 _ _ _ _ _ (by decide) (by decide) dX11_readItem_396 rfl ⟨_, rfl, rfl, hyp⟩
  · replace hyp := hyp.2 c
    exact hR.2.2.2 _ _ _ _ _ (by decide) (by decide) dX11_readItem_192 rfl ⟨_, rfl, rfl, hyp⟩
set_option maxRecDepth 10000 in
theorem s_X11_readItem_274 {X : ax_X} {d L sz : Nat} {T : tT} {Q : tT → Prop} (hX : ax_ok X mX11_readItem (d + 1)) (hR : ax_Ret X mX11_readItem (tv L sz Q)) (hsz : 161 ≤ sz) (v1 : Int32) (v2 : Int64) (v5 : Int32) (w0 : Int32) (w1 : Int32) (hyp : ∃ Q1, tvK d mX11_e [.ref 105, .int w1, .int w0] L sz T Q1 ∧ ∀ (T1 : tT), Q1 T1 → (((¬ v2 = (1836413812 : Int64) → ((¬ v2 = (1885434739 : Int64) → vp_in v1 40 ∧ vp_in v1 40 ∧ ∃ Q1, tiK d mX11_isGood [.ref 105] L sz (tI (tI T1 121 (v1.toNatClampNeg) v5) 122 (v1.toNatClampNeg) (T1.1 105 14)) Q1 ∧ ∀ (r2 : Int32) (T2 : tT), Q1 r2 T2 → (((r2 = 0 → Q T2) ∧ (¬ r2 = 0 → ∃ Q1, tvK d mX11_must [.ref 105, .int (59 : Int32)] L sz T2 Q1 ∧ ∀ (T3 : tT), Q1 T3 → (Q T3))))) ∧ (v2 = (1885434739 : Int64) → vp_in v1 40 ∧ vp_in v1 40 ∧ ∃ Q1, tiK d mX11_isGood [.ref 105] L sz (tI (tI T1 119 (v1.toNatClampNeg) v5) 120 (v1.toNatClampNeg) (T1.1 105 14)) Q1 ∧ ∀ (r4 : Int32) (T4 : tT), Q1 r4 T4 → (((r4 = 0 → Q T4) ∧ (¬ r4 = 0 → ∃ Q1, tvK d mX11_must [.ref 105, .int (59 : Int32)] L sz T4 Q1 ∧ ∀ (T5 : tT), Q1 T5 → (Q T5))))))) ∧ (v2 = (1836413812 : Int64) → vp_in v1 40 ∧ vp_in (((8 : Int32) * v1) + (T1.1 115 (v1.toNatClampNeg))) 320 ∧ vp_in v1 40 ∧ vp_in (((8 : Int32) * v1) + (T1.1 115 (v1.toNatClampNeg))) 320 ∧ vp_in v1 40 ∧ vp_in v1 40 ∧ ∃ Q1, tiK d mX11_isGood [.ref 105] L sz (tI (tI (tI T1 117 ((((8 : Int32) * v1) + (T1.1 115 (v1.toNatClampNeg))).toNatClampNeg) v5) 118 ((((8 : Int32) * v1) + (T1.1 115 (v1.toNatClampNeg))).toNatClampNeg) (T1.1 105 14)) 115 (v1.toNatClampNeg) ((T1.1 115 (v1.toNatClampNeg)) + (1 : Int32))) Q1 ∧ ∀ (r6 : Int32) (T6 : tT), Q1 r6 T6 → (((r6 = 0 → Q T6) ∧ (¬ r6 = 0 → ∃ Q1, tvK d mX11_must [.ref 105, .int (59 : Int32)] L sz T6 Q1 ∧ ∀ (T7 : tT), Q1 T7 → (Q T7)))))))) : ax_j X 274 [some (.ref 105), some (.int v1), some (.long v2), none, none, some (.int v5)] [.int w0, .int w1, .ref 105] (th L sz T) 0 0 := by
  obtain ⟨Q1, hK, hyp⟩ := hyp
  refine ax_callV hX lRX11_304 im_X11_e sl_X11_e cw_X11_e ((th_at (by decide) (Nat.lt_of_lt_of_le (by decide) hsz)).trans (tc_ob ly_105)) rfl rfl (A := [.int w1, .int w0]) (st := []) rfl rfl (Nat.le_of_ble_eq_true rfl) (by decide) (by decide) dX11_readItem_274 hK ?_
  rintro _ _ ⟨T1, rfl, rfl, hq⟩
  replace hyp := hyp T1 hq
  refine ax_lload_n hX dX11_readItem_277 rfl ?_
  refine ax_ldc2 hX vRX11_39 dX11_readItem_278 ?_
  refine tx_lcmp_ne hX dX11_readItem_281 dX11_readItem_282 (tgt := 336) (by decide) (fun c => ?_) (fun c => ?_)
  · replace hyp := hyp.1 c
    refine ax_lload_n hX dX11_readItem_336 rfl ?_
    refine ax_ldc2 hX vRX11_41 dX11_readItem_337 ?_
    refine tx_lcmp_ne hX dX11_readItem_340 dX11_readItem_341 (tgt := 365) (by decide) (fun c => ?_) (fun c => ?_)
    · replace hyp := hyp.1 c
      refine ax_aload_n hX dX11_readItem_365 (Or.inr ⟨_, rfl⟩) rfl ?_
      refine tx_getF hX fRX11_151 ly_105 (o := 16) (b := 121) fk_11_27 rfl (by decide) (Nat.lt_of_lt_of_le (by decide) hsz) dX11_readItem_366 ?_
      refine ax_iload_n hX dX11_readItem_369 rfl ?_
      refine ax_iload hX dX11_readItem_370 rfl ?_
      refine tx_ias hX ly_121 (by decide) (Nat.lt_of_lt_of_le (by decide) hsz) hyp.1 dX11_readItem_372 ?_
      replace hyp := hyp.2
      refine ax_aload_n hX dX11_readItem_373 (Or.inr ⟨_, rfl⟩) rfl ?_
      refine tx_getF hX fRX11_154 ly_105 (o := 17) (b := 122) fk_11_28 rfl (by decide) (Nat.lt_of_lt_of_le (by decide) hsz) dX11_readItem_374 ?_
      refine ax_iload_n hX dX11_readItem_377 rfl ?_
      refine ax_aload_n hX dX11_readItem_378 (Or.inr ⟨_, rfl⟩) rfl ?_
      refine tx_getI hX fRX11_278 ly_105 fk_11_14 (by decide) (Nat.lt_of_lt_of_le (by decide) hsz) dX11_readItem_379 ?_
      refine tx_ias hX ly_122 (by decide) (Nat.lt_of_lt_of_le (by decide) hsz) hyp.1 dX11_readItem_382 ?_
      replace hyp := hyp.2
      refine ax_aload_n hX dX11_readItem_383 (Or.inr ⟨_, rfl⟩) rfl ?_
      obtain ⟨Q1, hK, hyp⟩ := hyp
      refine ax_callV hX lRX11_95 im_X11_isGood sl_X11_isGood cw_X11_isGood ((th_at (by decide) (Nat.lt_of_lt_of_le (by decide) hsz)).trans (tc_ob ly_105)) rfl rfl (A := []) (st := []) rfl rfl (Nat.le_of_ble_eq_true rfl) (by decide) (by decide) dX11_readItem_384 hK ?_
      rintro _ _ ⟨r2, T2, rfl, rfl, hq⟩
      replace hyp := hyp r2 T2 hq
      refine ax_if_eq hX dX11_readItem_387 (tgt := 396) (by decide) (fun c => ?_) (fun c => ?_)
      · replace hyp := hyp.1 c
        exact hR.2.2.2 _ _ _ _ _ (by decide) (by decide) dX11_readItem_396 rfl ⟨_, rfl, rfl, hyp⟩
      · replace hyp := hyp.2 c
        refine ax_aload_n hX dX11_readItem_390 (Or.inr ⟨_, rfl⟩) rfl ?_
        refine ax_bipush hX dX11_readItem_391 (v := 59) (by decide) ?_
        obtain ⟨Q1, hK, hyp⟩ := hyp
        refine ax_callV hX lRX11_291 im_X11_must sl_X11_must cw_X11_must ((th_at (by decide) (Nat.lt_of_lt_of_le (by decide) hsz)).trans (tc_ob ly_105)) rfl rfl (A := [.int (59 : Int32)]) (st := []) rfl rfl (Nat.le_of_ble_eq_true rfl) (by decide) (by decide) dX11_readItem_393 hK ?_
        rintro _ _ ⟨T3, rfl, rfl, hq⟩
        replace hyp := hyp T3 hq
        exact hR.2.2.2 _ _ _ _ _ (by decide) (by decide) dX11_readItem_396 rfl ⟨_, rfl, rfl, hyp⟩
    · replace hyp := hyp.2 c
      refine ax_aload_n hX dX11_readItem_344 (Or.inr ⟨_, rfl⟩) rfl ?_
      refine tx_getF hX fRX11_145 ly_105 (o := 14) (b := 119) fk_11_25 rfl (by decide) (Nat.lt_of_lt_of_le (by decide) hsz) dX11_readItem_345 ?_
      refine ax_iload_n hX dX11_readItem_348 rfl ?_
      refine ax_iload hX dX11_readItem_349 rfl ?_
      refine tx_ias hX ly_119 (by decide) (Nat.lt_of_lt_of_le (by decide) hsz) hyp.1 dX11_readItem_351 ?_
      replace hyp := hyp.2
      refine ax_aload_n hX dX11_readItem_352 (Or.inr ⟨_, rfl⟩) rfl ?_
      refine tx_getF hX fRX11_148 ly_105 (o := 15) (b := 120) fk_11_26 rfl (by decide) (Nat.lt_of_lt_of_le (by decide) hsz) dX11_readItem_353 ?_
      refine ax_iload_n hX dX11_readItem_356 rfl ?_
      refine ax_aload_n hX dX11_readItem_357 (Or.inr ⟨_, rfl⟩) rfl ?_
      refine tx_getI hX fRX11_278 ly_105 fk_11_14 (by decide) (Nat.lt_of_lt_of_le (by decide) hsz) dX11_readItem_358 ?_
      refine tx_ias hX ly_120 (by decide) (Nat.lt_of_lt_of_le (by decide) hsz) hyp.1 dX11_readItem_361 ?_
      replace hyp := hyp.2
      refine ax_goto hX dX11_readItem_362 (tgt := 383) (by decide) ?_
      refine ax_aload_n hX dX11_readItem_383 (Or.inr ⟨_, rfl⟩) rfl ?_
      obtain ⟨Q1, hK, hyp⟩ := hyp
      refine ax_callV hX lRX11_95 im_X11_isGood sl_X11_isGood cw_X11_isGood ((th_at (by decide) (Nat.lt_of_lt_of_le (by decide) hsz)).trans (tc_ob ly_105)) rfl rfl (A := []) (st := []) rfl rfl (Nat.le_of_ble_eq_true rfl) (by decide) (by decide) dX11_readItem_384 hK ?_
      rintro _ _ ⟨r4, T4, rfl, rfl, hq⟩
      replace hyp := hyp r4 T4 hq
      refine ax_if_eq hX dX11_readItem_387 (tgt := 396) (by decide) (fun c => ?_) (fun c => ?_)
      · replace hyp := hyp.1 c
        exact hR.2.2.2 _ _ _ _ _ (by decide) (by decide) dX11_readItem_396 rfl ⟨_, rfl, rfl, hyp⟩
      · replace hyp := hyp.2 c
        refine ax_aload_n hX dX11_readItem_390 (Or.inr ⟨_, rfl⟩) rfl ?_
        refine ax_bipush hX dX11_readItem_391 (v := 59) (by decide) ?_
        obtain ⟨Q1, hK, hyp⟩ := hyp
        refine ax_callV hX lRX11_291 im_X11_must sl_X11_must cw_X11_must ((th_at (by decide) (Nat.lt_of_lt_of_le (by decide) hsz)).trans (tc_ob ly_105)) rfl rfl (A := [.int (59 : Int32)]) (st := []) rfl rfl (Nat.le_of_ble_eq_true rfl) (by decide) (by decide) dX11_readItem_393 hK ?_
        rintro _ _ ⟨T5, rfl, rfl, hq⟩
        replace hyp := hyp T5 hq
        exact hR.2.2.2 _ _ _ _ _ (by decide) (by decide) dX11_readItem_396 rfl ⟨_, rfl, rfl, hyp⟩
  · replace hyp := hyp.2 c
    refine ax_aload_n hX dX11_readItem_285 (Or.inr ⟨_, rfl⟩) rfl ?_
    refine tx_getF hX fRX11_139 ly_105 (o := 12) (b := 117) fk_11_23 rfl (by decide) (Nat.lt_of_lt_of_le (by decide) hsz) dX11_readItem_286 ?_
    refine ax_bipush hX dX11_readItem_289 (v := 8) (by decide) ?_
    refine ax_iload_n hX dX11_readItem_291 rfl ?_
    refine ax_imul hX dX11_readItem_292 ?_
    refine ax_aload_n hX dX11_readItem_293 (Or.inr ⟨_, rfl⟩) rfl ?_
    refine tx_getF hX fRX11_133 ly_105 (o := 10) (b := 115) fk_11_21 rfl (by decide) (Nat.lt_of_lt_of_le (by decide) hsz) dX11_readItem_294 ?_
    refine ax_iload_n hX dX11_readItem_297 rfl ?_
    refine tx_ial hX ly_115 (by decide) (Nat.lt_of_lt_of_le (by decide) hsz) hyp.1 dX11_readItem_298 ?_
    replace hyp := hyp.2
    refine ax_iadd hX dX11_readItem_299 ?_
    refine ax_iload hX dX11_readItem_300 rfl ?_
    refine tx_ias hX ly_117 (by decide) (Nat.lt_of_lt_of_le (by decide) hsz) hyp.1 dX11_readItem_302 ?_
    replace hyp := hyp.2
    refine ax_aload_n hX dX11_readItem_303 (Or.inr ⟨_, rfl⟩) rfl ?_
    refine tx_getF hX fRX11_142 ly_105 (o := 13) (b := 118) fk_11_24 rfl (by decide) (Nat.lt_of_lt_of_le (by decide) hsz) dX11_readItem_304 ?_
    refine ax_bipush hX dX11_readItem_307 (v := 8) (by decide) ?_
    refine ax_iload_n hX dX11_readItem_309 rfl ?_
    refine ax_imul hX dX11_readItem_310 ?_
    refine ax_aload_n hX dX11_readItem_311 (Or.inr ⟨_, rfl⟩) rfl ?_
    refine tx_getF hX fRX11_133 ly_105 (o := 10) (b := 115) fk_11_21 rfl (by decide) (Nat.lt_of_lt_of_le (by decide) hsz) dX11_readItem_312 ?_
    refine ax_iload_n hX dX11_readItem_315 rfl ?_
    refine tx_ial hX ly_115 (by decide) (Nat.lt_of_lt_of_le (by decide) hsz) hyp.1 dX11_readItem_316 ?_
    replace hyp := hyp.2
    refine ax_iadd hX dX11_readItem_317 ?_
    refine ax_aload_n hX dX11_readItem_318 (Or.inr ⟨_, rfl⟩) rfl ?_
    refine tx_getI hX fRX11_278 ly_105 fk_11_14 (by decide) (Nat.lt_of_lt_of_le (by decide) hsz) dX11_readItem_319 ?_
    refine tx_ias hX ly_118 (by decide) (Nat.lt_of_lt_of_le (by decide) hsz) hyp.1 dX11_readItem_322 ?_
    replace hyp := hyp.2
    refine ax_aload_n hX dX11_readItem_323 (Or.inr ⟨_, rfl⟩) rfl ?_
    refine tx_getF hX fRX11_133 ly_105 (o := 10) (b := 115) fk_11_21 rfl (by decide) (Nat.lt_of_lt_of_le (by decide) hsz) dX11_readItem_324 ?_
    refine ax_iload_n hX dX11_readItem_327 rfl ?_
    refine ax_dup2 hX dX11_readItem_328 rfl rfl ?_
    refine tx_ial hX ly_115 (by decide) (Nat.lt_of_lt_of_le (by decide) hsz) hyp.1 dX11_readItem_329 ?_
    replace hyp := hyp.2
    refine ax_iconst hX dX11_readItem_330 (v := 1) (by decide) ?_
    refine ax_iadd hX dX11_readItem_331 ?_
    refine tx_ias hX ly_115 (by decide) (Nat.lt_of_lt_of_le (by decide) hsz) hyp.1 dX11_readItem_332 ?_
    replace hyp := hyp.2
    refine ax_goto hX dX11_readItem_333 (tgt := 383) (by decide) ?_
    refine ax_aload_n hX dX11_readItem_383 (Or.inr ⟨_, rfl⟩) rfl ?_
    obtain ⟨Q1, hK, hyp⟩ := hyp
    refine ax_callV hX lRX11_95 im_X11_isGood sl_X11_isGood cw_X11_isGood ((th_at (by decide) (Nat.lt_of_lt_of_le (by decide) hsz)).trans (tc_ob ly_105)) rfl rfl (A := []) (st := []) rfl rfl (Nat.le_of_ble_eq_true rfl) (by decide) (by decide) dX11_readItem_384 hK ?_
    rintro _ _ ⟨r6, T6, rfl, rfl, hq⟩
    replace hyp := hyp r6 T6 hq
    refine ax_if_eq hX dX11_readItem_387 (tgt := 396) (by decide) (fun c => ?_) (fun c => ?_)
    · replace hyp := hyp.1 c
      exact hR.2.2.2 _ _ _ _ _ (by decide) (by decide) dX11_readItem_396 rfl ⟨_, rfl, rfl, hyp⟩
    · replace hyp := hyp.2 c
      refine ax_aload_n hX dX11_readItem_390 (Or.inr ⟨_, rfl⟩) rfl ?_
      refine ax_bipush hX dX11_readItem_391 (v := 59) (by decide) ?_
      obtain ⟨Q1, hK, hyp⟩ := hyp
      refine ax_callV hX lRX11_291 im_X11_must sl_X11_must cw_X11_must ((th_at (by decide) (Nat.lt_of_lt_of_le (by decide) hsz)).trans (tc_ob ly_105)) rfl rfl (A := [.int (59 : Int32)]) (st := []) rfl rfl (Nat.le_of_ble_eq_true rfl) (by decide) (by decide) dX11_readItem_393 hK ?_
      rintro _ _ ⟨T7, rfl, rfl, hq⟩
      replace hyp := hyp T7 hq
      exact hR.2.2.2 _ _ _ _ _ (by decide) (by decide) dX11_readItem_396 rfl ⟨_, rfl, rfl, hyp⟩
set_option maxRecDepth 10000 in
theorem s_X11_readList_0 {X : ax_X} {d L sz : Nat} {T : tT} {Q : tT → Prop} (hX : ax_ok X mX11_readList (d + 1)) (hR : ax_Ret X mX11_readList (tv L sz Q)) (hsz : 161 ≤ sz) (x0 : Int32) (hyp : ∃ Q1, tiK d mX11_canName [.ref 105, .int x0] L sz T Q1 ∧ ∀ (r1 : Int32) (T1 : tT), Q1 r1 T1 → (((¬ r1 = 0 → vp_in x0 40 ∧ vp_in (((6 : Int32) * x0) + (T1.1 111 (x0.toNatClampNeg))) 240 ∧ vp_in (((6 : Int32) * x0) + (T1.1 111 (x0.toNatClampNeg))) 240 ∧ vp_in x0 40 ∧ vp_in x0 40 ∧ ∃ Q1, tvK d mX11_next [.ref 105] L sz (tI (tI (tJ T1 126 ((((6 : Int32) * x0) + (T1.1 111 (x0.toNatClampNeg))).toNatClampNeg) (T1.2.1 105 10)) 112 ((((6 : Int32) * x0) + (T1.1 111 (x0.toNatClampNeg))).toNatClampNeg) (0 : Int32)) 111 (x0.toNatClampNeg) ((T1.1 111 (x0.toNatClampNeg)) + (1 : Int32))) Q1 ∧ ∀ (T2 : tT), Q1 T2 → (∃ Q1, tvK d mX11_must [.ref 105, .int (61 : Int32)] L sz T2 Q1 ∧ ∀ (T3 : tT), Q1 T3 → (ax_j X 60 [some (.ref 105), none, some (.int (((6 : Int32) * x0) + (T1.1 111 (x0.toNatClampNeg)))), some (.int (1 : Int32))] [] (th L sz T3) 0 0))) ∧ (r1 = 0 → Q T1)))) : ax_j X 0 [some (.ref 105), some (.int x0), none, none] [] (th L sz T) 0 0 := by
  refine ax_aload_n hX dX11_readList_0 (Or.inr ⟨_, rfl⟩) rfl ?_
  refine ax_iload_n hX dX11_readList_1 rfl ?_
  obtain ⟨Q1, hK, hyp⟩ := hyp
  refine ax_callV hX lRX11_315 im_X11_canName sl_X11_canName cw_X11_canName ((th_at (by decide) (Nat.lt_of_lt_of_le (by decide) hsz)).trans (tc_ob ly_105)) rfl rfl (A := [.int x0]) (st := []) rfl rfl (Nat.le_of_ble_eq_true rfl) (by decide) (by decide) dX11_readList_2 hK ?_
  rintro _ _ ⟨r1, T1, rfl, rfl, hq⟩
  replace hyp := hyp r1 T1 hq
  refine ax_if_ne hX dX11_readList_5 (tgt := 9) (by decide) (fun c => ?_) (fun c => ?_)
  · replace hyp := hyp.1 c
    refine ax_bipush hX dX11_readList_9 (v := 6) (by decide) ?_
    refine ax_iload_n hX dX11_readList_11 rfl ?_
    refine ax_imul hX dX11_readList_12 ?_
    refine ax_aload_n hX dX11_readList_13 (Or.inr ⟨_, rfl⟩) rfl ?_
    refine tx_getF hX fRX11_121 ly_105 (o := 6) (b := 111) fk_11_17 rfl (by decide) (Nat.lt_of_lt_of_le (by decide) hsz) dX11_readList_14 ?_
    refine ax_iload_n hX dX11_readList_17 rfl ?_
    refine tx_ial hX ly_111 (by decide) (Nat.lt_of_lt_of_le (by decide) hsz) hyp.1 dX11_readList_18 ?_
    replace hyp := hyp.2
    refine ax_iadd hX dX11_readList_19 ?_
    refine ax_istore_n hX dX11_readList_20 (by decide) (L' := [some (.ref 105), some (.int x0), some (.int (((6 : Int32) * x0) + (T1.1 111 (x0.toNatClampNeg)))), none]) rfl ?_
    refine ax_aload_n hX dX11_readList_21 (Or.inr ⟨_, rfl⟩) rfl ?_
    refine tx_getF hX fRX11_166 ly_105 (o := 21) (b := 126) fk_11_32 rfl (by decide) (Nat.lt_of_lt_of_le (by decide) hsz) dX11_readList_22 ?_
    refine ax_iload_n hX dX11_readList_25 rfl ?_
    refine ax_aload_n hX dX11_readList_26 (Or.inr ⟨_, rfl⟩) rfl ?_
    refine tx_getJ hX fRX11_71 ly_105 fk_11_10 (by decide) (Nat.lt_of_lt_of_le (by decide) hsz) dX11_readList_27 ?_
    refine tx_las hX ly_126 (by decide) (Nat.lt_of_lt_of_le (by decide) hsz) hyp.1 dX11_readList_30 ?_
    replace hyp := hyp.2
    refine ax_aload_n hX dX11_readList_31 (Or.inr ⟨_, rfl⟩) rfl ?_
    refine tx_getF hX fRX11_124 ly_105 (o := 7) (b := 112) fk_11_18 rfl (by decide) (Nat.lt_of_lt_of_le (by decide) hsz) dX11_readList_32 ?_
    refine ax_iload_n hX dX11_readList_35 rfl ?_
    refine ax_iconst hX dX11_readList_36 (v := 0) (by decide) ?_
    refine tx_ias hX ly_112 (by decide) (Nat.lt_of_lt_of_le (by decide) hsz) hyp.1 dX11_readList_37 ?_
    replace hyp := hyp.2
    refine ax_aload_n hX dX11_readList_38 (Or.inr ⟨_, rfl⟩) rfl ?_
    refine tx_getF hX fRX11_121 ly_105 (o := 6) (b := 111) fk_11_17 rfl (by decide) (Nat.lt_of_lt_of_le (by decide) hsz) dX11_readList_39 ?_
    refine ax_iload_n hX dX11_readList_42 rfl ?_
    refine ax_dup2 hX dX11_readList_43 rfl rfl ?_
    refine tx_ial hX ly_111 (by decide) (Nat.lt_of_lt_of_le (by decide) hsz) hyp.1 dX11_readList_44 ?_
    replace hyp := hyp.2
    refine ax_iconst hX dX11_readList_45 (v := 1) (by decide) ?_
    refine ax_iadd hX dX11_readList_46 ?_
    refine tx_ias hX ly_111 (by decide) (Nat.lt_of_lt_of_le (by decide) hsz) hyp.1 dX11_readList_47 ?_
    replace hyp := hyp.2
    refine ax_aload_n hX dX11_readList_48 (Or.inr ⟨_, rfl⟩) rfl ?_
    obtain ⟨Q1, hK, hyp⟩ := hyp
    refine ax_callV hX lRX11_88 im_X11_next sl_X11_next cw_X11_next ((th_at (by decide) (Nat.lt_of_lt_of_le (by decide) hsz)).trans (tc_ob ly_105)) rfl rfl (A := []) (st := []) rfl rfl (Nat.le_of_ble_eq_true rfl) (by decide) (by decide) dX11_readList_49 hK ?_
    rintro _ _ ⟨T2, rfl, rfl, hq⟩
    replace hyp := hyp T2 hq
    refine ax_aload_n hX dX11_readList_52 (Or.inr ⟨_, rfl⟩) rfl ?_
    refine ax_bipush hX dX11_readList_53 (v := 61) (by decide) ?_
    obtain ⟨Q1, hK, hyp⟩ := hyp
    refine ax_callV hX lRX11_291 im_X11_must sl_X11_must cw_X11_must ((th_at (by decide) (Nat.lt_of_lt_of_le (by decide) hsz)).trans (tc_ob ly_105)) rfl rfl (A := [.int (61 : Int32)]) (st := []) rfl rfl (Nat.le_of_ble_eq_true rfl) (by decide) (by decide) dX11_readList_55 hK ?_
    rintro _ _ ⟨T3, rfl, rfl, hq⟩
    replace hyp := hyp T3 hq
    refine ax_iconst hX dX11_readList_58 (v := 1) (by decide) ?_
    refine ax_istore_n hX dX11_readList_59 (by decide) (L' := [some (.ref 105), some (.int x0), some (.int (((6 : Int32) * x0) + (T1.1 111 (x0.toNatClampNeg)))), some (.int (1 : Int32))]) rfl ?_
    exact ax_forget (L' := [some (.ref 105), none, some (.int (((6 : Int32) * x0) + (T1.1 111 (x0.toNatClampNeg)))), some (.int (1 : Int32))]) (⟨rfl, ⟨rfl, ⟨rfl, trivial⟩⟩⟩) hyp
  · replace hyp := hyp.2 c
    exact hR.2.2.2 _ _ _ _ _ (by decide) (by decide) dX11_readList_8 rfl ⟨_, rfl, rfl, hyp⟩
set_option maxRecDepth 10000 in
theorem s_X11_readList_60 {X : ax_X} {d L sz : Nat} {T : tT} {Q : tT → Prop} (hX : ax_ok X mX11_readList (d + 1)) (hR : ax_Ret X mX11_readList (tv L sz Q)) (hsz : 161 ≤ sz) (v2 : Int32) (v3 : Int32) (hyp : ((v3 = 0 → Q T) ∧ (¬ v3 = 0 → ∃ Q1, tiK d mX11_isGood [.ref 105] L sz T Q1 ∧ ∀ (r1 : Int32) (T1 : tT), Q1 r1 T1 → (((r1 = 0 → Q T1) ∧ (¬ r1 = 0 → ((¬ (T1.1 105 8) = (2 : Int32) → ax_j X 90 [some (.ref 105), none, some (.int v2), none] [] (th L sz T1) 0 0) ∧ ((T1.1 105 8) = (2 : Int32) → vp_in v2 240 ∧ ((¬ (T1.1 112 (v2.toNatClampNeg)) = (12 : Int32) → ax_j X 94 [some (.ref 105), none, some (.int v2), none] [] (th L sz T1) 0 0) ∧ ((T1.1 112 (v2.toNatClampNeg)) = (12 : Int32) → ax_j X 90 [some (.ref 105), none, some (.int v2), none] [] (th L sz T1) 0 0)))))))))) : ax_j X 60 [some (.ref 105), none, some (.int v2), some (.int v3)] [] (th L sz T) 0 0 := by
  refine ax_iload_n hX dX11_readList_60 rfl ?_
  refine ax_if_eq hX dX11_readList_61 (tgt := 182) (by decide) (fun c => ?_) (fun c => ?_)
  · replace hyp := hyp.1 c
    exact hR.2.2.2 _ _ _ _ _ (by decide) (by decide) dX11_readList_182 rfl ⟨_, rfl, rfl, hyp⟩
  · replace hyp := hyp.2 c
    refine ax_aload_n hX dX11_readList_64 (Or.inr ⟨_, rfl⟩) rfl ?_
    obtain ⟨Q1, hK, hyp⟩ := hyp
    refine ax_callV hX lRX11_95 im_X11_isGood sl_X11_isGood cw_X11_isGood ((th_at (by decide) (Nat.lt_of_lt_of_le (by decide) hsz)).trans (tc_ob ly_105)) rfl rfl (A := []) (st := []) rfl rfl (Nat.le_of_ble_eq_true rfl) (by decide) (by decide) dX11_readList_65 hK ?_
    rintro _ _ ⟨r1, T1, rfl, rfl, hq⟩
    replace hyp := hyp r1 T1 hq
    refine ax_if_eq hX dX11_readList_68 (tgt := 182) (by decide) (fun c => ?_) (fun c => ?_)
    · replace hyp := hyp.1 c
      exact hR.2.2.2 _ _ _ _ _ (by decide) (by decide) dX11_readList_182 rfl ⟨_, rfl, rfl, hyp⟩
    · replace hyp := hyp.2 c
      refine ax_aload_n hX dX11_readList_71 (Or.inr ⟨_, rfl⟩) rfl ?_
      refine tx_getI hX fRX11_61 ly_105 fk_11_8 (by decide) (Nat.lt_of_lt_of_le (by decide) hsz) dX11_readList_72 ?_
      refine ax_iconst hX dX11_readList_75 (v := 2) (by decide) ?_
      refine ax_icmp_ne hX dX11_readList_76 (tgt := 90) (by decide) (fun c => ?_) (fun c => ?_)
      · replace hyp := hyp.1 c
        exact ax_forget (L' := [some (.ref 105), none, some (.int v2), none]) (⟨rfl, ⟨rfl, trivial⟩⟩) hyp
      · replace hyp := hyp.2 c
        refine ax_aload_n hX dX11_readList_79 (Or.inr ⟨_, rfl⟩) rfl ?_
        refine tx_getF hX fRX11_124 ly_105 (o := 7) (b := 112) fk_11_18 rfl (by decide) (Nat.lt_of_lt_of_le (by decide) hsz) dX11_readList_80 ?_
        refine ax_iload_n hX dX11_readList_83 rfl ?_
        refine tx_ial hX ly_112 (by decide) (Nat.lt_of_lt_of_le (by decide) hsz) hyp.1 dX11_readList_84 ?_
        replace hyp := hyp.2
        refine ax_bipush hX dX11_readList_85 (v := 12) (by decide) ?_
        refine ax_icmp_ne hX dX11_readList_87 (tgt := 94) (by decide) (fun c => ?_) (fun c => ?_)
        · replace hyp := hyp.1 c
          exact ax_forget (L' := [some (.ref 105), none, some (.int v2), none]) (⟨rfl, ⟨rfl, trivial⟩⟩) hyp
        · replace hyp := hyp.2 c
          exact ax_forget (L' := [some (.ref 105), none, some (.int v2), none]) (⟨rfl, ⟨rfl, trivial⟩⟩) hyp
set_option maxRecDepth 10000 in
theorem s_X11_readList_90 {X : ax_X} {d L sz : Nat} {T : tT} {Q : tT → Prop} (hX : ax_ok X mX11_readList (d + 1)) (hR : ax_Ret X mX11_readList (tv L sz Q)) (hsz : 161 ≤ sz) (v2 : Int32) (hyp : ∃ Q1, tvK d mX11_wrong [.ref 105] L sz T Q1 ∧ ∀ (T1 : tT), Q1 T1 → (ax_j X 94 [some (.ref 105), none, some (.int v2), none] [] (th L sz T1) 0 0)) : ax_j X 90 [some (.ref 105), none, some (.int v2), none] [] (th L sz T) 0 0 := by
  refine ax_aload_n hX dX11_readList_90 (Or.inr ⟨_, rfl⟩) rfl ?_
  obtain ⟨Q1, hK, hyp⟩ := hyp
  refine ax_callV hX lRX11_92 im_X11_wrong sl_X11_wrong cw_X11_wrong ((th_at (by decide) (Nat.lt_of_lt_of_le (by decide) hsz)).trans (tc_ob ly_105)) rfl rfl (A := []) (st := []) rfl rfl (Nat.le_of_ble_eq_true rfl) (by decide) (by decide) dX11_readList_91 hK ?_
  rintro _ _ ⟨T1, rfl, rfl, hq⟩
  replace hyp := hyp T1 hq
  exact ax_forget (L' := [some (.ref 105), none, some (.int v2), none]) (⟨rfl, ⟨rfl, trivial⟩⟩) hyp
set_option maxRecDepth 10000 in
theorem s_X11_readList_94 {X : ax_X} {d L sz : Nat} {T : tT} {Q : tT → Prop} (hX : ax_ok X mX11_readList (d + 1)) (hR : ax_Ret X mX11_readList (tv L sz Q)) (hsz : 161 ≤ sz) (v2 : Int32) (hyp : ∃ Q1, tiK d mX11_isGood [.ref 105] L sz T Q1 ∧ ∀ (r1 : Int32) (T1 : tT), Q1 r1 T1 → (((r1 = 0 → ax_j X 122 [some (.ref 105), none, some (.int v2), none] [] (th L sz T1) 0 0) ∧ (¬ r1 = 0 → ∃ Q1, tiK d mX11_hasPiece [.ref 105, .int v2, .long (T1.2.1 105 10)] L sz T1 Q1 ∧ ∀ (r2 : Int32) (T2 : tT), Q1 r2 T2 → (((r2 = 0 → ax_j X 122 [some (.ref 105), none, some (.int v2), none] [] (th L sz T2) 0 0) ∧ (¬ r2 = 0 → ∃ Q1, tvK d mX11_fails [.ref 105, .int (3 : Int32), .int (T2.1 105 6)] L sz T2 Q1 ∧ ∀ (T3 : tT), Q1 T3 → (ax_j X 122 [some (.ref 105), none, some (.int v2), none] [] (th L sz T3) 0 0)))))))) : ax_j X 94 [some (.ref 105), none, some (.int v2), none] [] (th L sz T) 0 0 := by
  refine ax_aload_n hX dX11_readList_94 (Or.inr ⟨_, rfl⟩) rfl ?_
  obtain ⟨Q1, hK, hyp⟩ := hyp
  refine ax_callV hX lRX11_95 im_X11_isGood sl_X11_isGood cw_X11_isGood ((th_at (by decide) (Nat.lt_of_lt_of_le (by decide) hsz)).trans (tc_ob ly_105)) rfl rfl (A := []) (st := []) rfl rfl (Nat.le_of_ble_eq_true rfl) (by decide) (by decide) dX11_readList_95 hK ?_
  rintro _ _ ⟨r1, T1, rfl, rfl, hq⟩
  replace hyp := hyp r1 T1 hq
  refine ax_if_eq hX dX11_readList_98 (tgt := 122) (by decide) (fun c => ?_) (fun c => ?_)
  · replace hyp := hyp.1 c
    exact ax_forget (L' := [some (.ref 105), none, some (.int v2), none]) (⟨rfl, ⟨rfl, trivial⟩⟩) hyp
  · replace hyp := hyp.2 c
    refine ax_aload_n hX dX11_readList_101 (Or.inr ⟨_, rfl⟩) rfl ?_
    refine ax_iload_n hX dX11_readList_102 rfl ?_
    refine ax_aload_n hX dX11_readList_103 (Or.inr ⟨_, rfl⟩) rfl ?_
    refine tx_getJ hX fRX11_71 ly_105 fk_11_10 (by decide) (Nat.lt_of_lt_of_le (by decide) hsz) dX11_readList_104 ?_
    obtain ⟨Q1, hK, hyp⟩ := hyp
    refine ax_callV hX lRX11_318 im_X11_hasPiece sl_X11_hasPiece cw_X11_hasPiece ((th_at (by decide) (Nat.lt_of_lt_of_le (by decide) hsz)).trans (tc_ob ly_105)) rfl rfl (A := [.int v2, .long (T1.2.1 105 10)]) (st := []) rfl rfl (Nat.le_of_ble_eq_true rfl) (by decide) (by decide) dX11_readList_107 hK ?_
    rintro _ _ ⟨r2, T2, rfl, rfl, hq⟩
    replace hyp := hyp r2 T2 hq
    refine ax_if_eq hX dX11_readList_110 (tgt := 122) (by decide) (fun c => ?_) (fun c => ?_)
    · replace hyp := hyp.1 c
      exact ax_forget (L' := [some (.ref 105), none, some (.int v2), none]) (⟨rfl, ⟨rfl, trivial⟩⟩) hyp
    · replace hyp := hyp.2 c
      refine ax_aload_n hX dX11_readList_113 (Or.inr ⟨_, rfl⟩) rfl ?_
      refine ax_iconst hX dX11_readList_114 (v := 3) (by decide) ?_
      refine ax_aload_n hX dX11_readList_115 (Or.inr ⟨_, rfl⟩) rfl ?_
      refine tx_getI hX fRX11_54 ly_105 fk_11_6 (by decide) (Nat.lt_of_lt_of_le (by decide) hsz) dX11_readList_116 ?_
      obtain ⟨Q1, hK, hyp⟩ := hyp
      refine ax_callV hX lRX11_81 im_X11_fails sl_X11_fails cw_X11_fails ((th_at (by decide) (Nat.lt_of_lt_of_le (by decide) hsz)).trans (tc_ob ly_105)) rfl rfl (A := [.int (3 : Int32), .int (T2.1 105 6)]) (st := []) rfl rfl (Nat.le_of_ble_eq_true rfl) (by decide) (by decide) dX11_readList_119 hK ?_
      rintro _ _ ⟨T3, rfl, rfl, hq⟩
      replace hyp := hyp T3 hq
      exact ax_forget (L' := [some (.ref 105), none, some (.int v2), none]) (⟨rfl, ⟨rfl, trivial⟩⟩) hyp
set_option maxRecDepth 10000 in
theorem s_X11_readList_122 {X : ax_X} {d L sz : Nat} {T : tT} {Q : tT → Prop} (hX : ax_ok X mX11_readList (d + 1)) (hR : ax_Ret X mX11_readList (tv L sz Q)) (hsz : 161 ≤ sz) (v2 : Int32) (hyp : ∃ Q1, tiK d mX11_isGood [.ref 105] L sz T Q1 ∧ ∀ (r1 : Int32) (T1 : tT), Q1 r1 T1 → (((¬ r1 = 0 → vp_in v2 240 ∧ vp_in (((12 : Int32) * v2) + (T1.1 112 (v2.toNatClampNeg))) 2880 ∧ vp_in v2 240 ∧ vp_in v2 240 ∧ ∃ Q1, tvK d mX11_next [.ref 105] L sz (tI (tJ T1 127 ((((12 : Int32) * v2) + (T1.1 112 (v2.toNatClampNeg))).toNatClampNeg) (T1.2.1 105 10)) 112 (v2.toNatClampNeg) ((T1.1 112 (v2.toNatClampNeg)) + (1 : Int32))) Q1 ∧ ∀ (T2 : tT), Q1 T2 → (∃ Q1, tiK d mX11_is [.ref 105, .int (44 : Int32)] L sz T2 Q1 ∧ ∀ (r3 : Int32) (T3 : tT), Q1 r3 T3 → (((r3 = 0 → ax_j X 60 [some (.ref 105), none, some (.int v2), some (.int r3)] [] (th L sz T3) 0 0) ∧ (¬ r3 = 0 → ∃ Q1, tvK d mX11_next [.ref 105] L sz T3 Q1 ∧ ∀ (T4 : tT), Q1 T4 → (ax_j X 60 [some (.ref 105), none, some (.int v2), some (.int r3)] [] (th L sz T4) 0 0)))))) ∧ (r1 = 0 → Q T1)))) : ax_j X 122 [some (.ref 105), none, some (.int v2), none] [] (th L sz T) 0 0 := by
  refine ax_aload_n hX dX11_readList_122 (Or.inr ⟨_, rfl⟩) rfl ?_
  obtain ⟨Q1, hK, hyp⟩ := hyp
  refine ax_callV hX lRX11_95 im_X11_isGood sl_X11_isGood cw_X11_isGood ((th_at (by decide) (Nat.lt_of_lt_of_le (by decide) hsz)).trans (tc_ob ly_105)) rfl rfl (A := []) (st := []) rfl rfl (Nat.le_of_ble_eq_true rfl) (by decide) (by decide) dX11_readList_123 hK ?_
  rintro _ _ ⟨r1, T1, rfl, rfl, hq⟩
  replace hyp := hyp r1 T1 hq
  refine ax_if_ne hX dX11_readList_126 (tgt := 130) (by decide) (fun c => ?_) (fun c => ?_)
  · replace hyp := hyp.1 c
    refine ax_aload_n hX dX11_readList_130 (Or.inr ⟨_, rfl⟩) rfl ?_
    refine tx_getF hX fRX11_170 ly_105 (o := 22) (b := 127) fk_11_33 rfl (by decide) (Nat.lt_of_lt_of_le (by decide) hsz) dX11_readList_131 ?_
    refine ax_bipush hX dX11_readList_134 (v := 12) (by decide) ?_
    refine ax_iload_n hX dX11_readList_136 rfl ?_
    refine ax_imul hX dX11_readList_137 ?_
    refine ax_aload_n hX dX11_readList_138 (Or.inr ⟨_, rfl⟩) rfl ?_
    refine tx_getF hX fRX11_124 ly_105 (o := 7) (b := 112) fk_11_18 rfl (by decide) (Nat.lt_of_lt_of_le (by decide) hsz) dX11_readList_139 ?_
    refine ax_iload_n hX dX11_readList_142 rfl ?_
    refine tx_ial hX ly_112 (by decide) (Nat.lt_of_lt_of_le (by decide) hsz) hyp.1 dX11_readList_143 ?_
    replace hyp := hyp.2
    refine ax_iadd hX dX11_readList_144 ?_
    refine ax_aload_n hX dX11_readList_145 (Or.inr ⟨_, rfl⟩) rfl ?_
    refine tx_getJ hX fRX11_71 ly_105 fk_11_10 (by decide) (Nat.lt_of_lt_of_le (by decide) hsz) dX11_readList_146 ?_
    refine tx_las hX ly_127 (by decide) (Nat.lt_of_lt_of_le (by decide) hsz) hyp.1 dX11_readList_149 ?_
    replace hyp := hyp.2
    refine ax_aload_n hX dX11_readList_150 (Or.inr ⟨_, rfl⟩) rfl ?_
    refine tx_getF hX fRX11_124 ly_105 (o := 7) (b := 112) fk_11_18 rfl (by decide) (Nat.lt_of_lt_of_le (by decide) hsz) dX11_readList_151 ?_
    refine ax_iload_n hX dX11_readList_154 rfl ?_
    refine ax_dup2 hX dX11_readList_155 rfl rfl ?_
    refine tx_ial hX ly_112 (by decide) (Nat.lt_of_lt_of_le (by decide) hsz) hyp.1 dX11_readList_156 ?_
    replace hyp := hyp.2
    refine ax_iconst hX dX11_readList_157 (v := 1) (by decide) ?_
    refine ax_iadd hX dX11_readList_158 ?_
    refine tx_ias hX ly_112 (by decide) (Nat.lt_of_lt_of_le (by decide) hsz) hyp.1 dX11_readList_159 ?_
    replace hyp := hyp.2
    refine ax_aload_n hX dX11_readList_160 (Or.inr ⟨_, rfl⟩) rfl ?_
    obtain ⟨Q1, hK, hyp⟩ := hyp
    refine ax_callV hX lRX11_88 im_X11_next sl_X11_next cw_X11_next ((th_at (by decide) (Nat.lt_of_lt_of_le (by decide) hsz)).trans (tc_ob ly_105)) rfl rfl (A := []) (st := []) rfl rfl (Nat.le_of_ble_eq_true rfl) (by decide) (by decide) dX11_readList_161 hK ?_
    rintro _ _ ⟨T2, rfl, rfl, hq⟩
    replace hyp := hyp T2 hq
    refine ax_aload_n hX dX11_readList_164 (Or.inr ⟨_, rfl⟩) rfl ?_
    refine ax_bipush hX dX11_readList_165 (v := 44) (by decide) ?_
    obtain ⟨Q1, hK, hyp⟩ := hyp
    refine ax_callV hX lRX11_85 im_X11_is sl_X11_is cw_X11_is ((th_at (by decide) (Nat.lt_of_lt_of_le (by decide) hsz)).trans (tc_ob ly_105)) rfl rfl (A := [.int (44 : Int32)]) (st := []) rfl rfl (Nat.le_of_ble_eq_true rfl) (by decide) (by decide) dX11_readList_167 hK ?_
    rintro _ _ ⟨r3, T3, rfl, rfl, hq⟩
    replace hyp := hyp r3 T3 hq
    refine ax_istore_n hX dX11_readList_170 (by decide) (L' := [some (.ref 105), none, some (.int v2), some (.int r3)]) rfl ?_
    refine ax_iload_n hX dX11_readList_171 rfl ?_
    refine ax_if_eq hX dX11_readList_172 (tgt := 60) (by decide) (fun c => ?_) (fun c => ?_)
    · replace hyp := hyp.1 c
      exact ax_forget (L' := [some (.ref 105), none, some (.int v2), some (.int r3)]) (⟨rfl, ⟨rfl, ⟨rfl, trivial⟩⟩⟩) hyp
    · replace hyp := hyp.2 c
      refine ax_aload_n hX dX11_readList_175 (Or.inr ⟨_, rfl⟩) rfl ?_
      obtain ⟨Q1, hK, hyp⟩ := hyp
      refine ax_callV hX lRX11_88 im_X11_next sl_X11_next cw_X11_next ((th_at (by decide) (Nat.lt_of_lt_of_le (by decide) hsz)).trans (tc_ob ly_105)) rfl rfl (A := []) (st := []) rfl rfl (Nat.le_of_ble_eq_true rfl) (by decide) (by decide) dX11_readList_176 hK ?_
      rintro _ _ ⟨T4, rfl, rfl, hq⟩
      replace hyp := hyp T4 hq
      refine ax_goto hX dX11_readList_179 (tgt := 60) (by decide) ?_
      exact ax_forget (L' := [some (.ref 105), none, some (.int v2), some (.int r3)]) (⟨rfl, ⟨rfl, ⟨rfl, trivial⟩⟩⟩) hyp
  · replace hyp := hyp.2 c
    exact hR.2.2.2 _ _ _ _ _ (by decide) (by decide) dX11_readList_129 rfl ⟨_, rfl, rfl, hyp⟩
