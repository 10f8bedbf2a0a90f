set_option maxRecDepth 10000 in
theorem s_X10_session_0 {X : ax_X} {d L sz : Nat} {T : tT} {Q : Int32 → tT → Prop} (hX : ax_ok X mX10_session (d + 1)) (hR : ax_Ret X mX10_session (ti L sz Q)) (hsz : 161 ≤ sz) (x0 : Int32) (x1 : Int32) (hyp : ∃ Q1, tiK d mX1_hasCentre [.ref 79, .int x0] L sz T Q1 ∧ ∀ (r1 : Int32) (T1 : tT), Q1 r1 T1 → (((r1 = 0 → Q (-1 : Int32) T1) ∧ (¬ r1 = 0 → ∃ Q1, tiK d mX10_isWithin [.int x1, .int (0 : Int32), .int (99 : Int32)] L sz T1 Q1 ∧ ∀ (r2 : Int32) (T2 : tT), Q1 r2 T2 → (((r2 = 0 → Q (-1 : Int32) T2) ∧ (¬ r2 = 0 → ∃ Q1, tiK d mX1_addSession [.ref 79, .int x0, .int x1] L sz T2 Q1 ∧ ∀ (r3 : Int32) (T3 : tT), Q1 r3 T3 → (Q r3 T3)))))))) : ax_j X 0 [some (.ref 2), some (.int x0), some (.int x1), none] [] (th L sz T) 0 0 := by
  refine ax_aload_n hX dX10_session_0 (Or.inr ⟨_, rfl⟩) rfl ?_
  refine tx_getF hX fRX10_39 ly_2 (o := 77) (b := 79) fk_10_4 rfl (by decide) (Nat.lt_of_lt_of_le (by decide) hsz) dX10_session_1 ?_
  refine ax_iload_n hX dX10_session_4 rfl ?_
  obtain ⟨Q1, hK, hyp⟩ := hyp
  refine ax_callV hX lRX10_150 im_X1_hasCentre sl_X1_hasCentre cw_X1_hasCentre ((th_at (by decide) (Nat.lt_of_lt_of_le (by decide) hsz)).trans (tc_ob ly_79)) rfl rfl (A := [.int x0]) (st := []) rfl rfl (Nat.le_of_ble_eq_true rfl) (by decide) (by decide) dX10_session_5 hK ?_
  rintro _ _ ⟨r1, T1, rfl, rfl, hq⟩
  replace hyp := hyp r1 T1 hq
  refine ax_if_eq hX dX10_session_8 (tgt := 25) (by decide) (fun c => ?_) (fun c => ?_)
  · replace hyp := hyp.1 c
    refine ax_iconst hX dX10_session_25 (v := 0) (by decide) ?_
    refine ax_istore_n hX dX10_session_26 (by decide) (L' := [some (.ref 2), some (.int x0), some (.int x1), some (.int (0 : Int32))]) rfl ?_
    refine ax_iload_n hX dX10_session_27 rfl ?_
    refine ax_if_eq hX dX10_session_28 (tgt := 43) (by decide) (fun c => ?_) (fun c => ?_)
    rotate_left
    · exact absurd c (by decide)
    refine ax_iconst hX dX10_session_43 (v := -1) (by decide) ?_
    exact hR.1 _ _ _ _ _ _ (by decide) (by decide) dX10_session_44 ⟨_, rfl, rfl⟩ ⟨_, _, rfl, rfl, hyp⟩
  · replace hyp := hyp.2 c
    refine ax_iload_n hX dX10_session_11 rfl ?_
    refine ax_iconst hX dX10_session_12 (v := 0) (by decide) ?_
    refine ax_bipush hX dX10_session_13 (v := 99) (by decide) ?_
    obtain ⟨Q1, hK, hyp⟩ := hyp
    refine ax_callS hX lRX10_122 sm_X10_isWithin cw_X10_isWithin (A := [.int x1, .int (0 : Int32), .int (99 : Int32)]) (st := []) rfl rfl (Nat.le_of_ble_eq_true rfl) (by decide) (by decide) dX10_session_15 hK ?_
    rintro _ _ ⟨r2, T2, rfl, rfl, hq⟩
    replace hyp := hyp r2 T2 hq
    refine ax_if_eq hX dX10_session_18 (tgt := 25) (by decide) (fun c => ?_) (fun c => ?_)
    · replace hyp := hyp.1 c
      refine ax_iconst hX dX10_session_25 (v := 0) (by decide) ?_
      refine ax_istore_n hX dX10_session_26 (by decide) (L' := [some (.ref 2), some (.int x0), some (.int x1), some (.int (0 : Int32))]) rfl ?_
      refine ax_iload_n hX dX10_session_27 rfl ?_
      refine ax_if_eq hX dX10_session_28 (tgt := 43) (by decide) (fun c => ?_) (fun c => ?_)
      rotate_left
      · exact absurd c (by decide)
      refine ax_iconst hX dX10_session_43 (v := -1) (by decide) ?_
      exact hR.1 _ _ _ _ _ _ (by decide) (by decide) dX10_session_44 ⟨_, rfl, rfl⟩ ⟨_, _, rfl, rfl, hyp⟩
    · replace hyp := hyp.2 c
      refine ax_iconst hX dX10_session_21 (v := 1) (by decide) ?_
      refine ax_goto hX dX10_session_22 (tgt := 26) (by decide) ?_
      refine ax_istore_n hX dX10_session_26 (by decide) (L' := [some (.ref 2), some (.int x0), some (.int x1), some (.int (1 : Int32))]) rfl ?_
      refine ax_iload_n hX dX10_session_27 rfl ?_
      refine ax_if_eq hX dX10_session_28 (tgt := 43) (by decide) (fun c => ?_) (fun c => ?_)
      · exact absurd c (by decide)
      refine ax_aload_n hX dX10_session_31 (Or.inr ⟨_, rfl⟩) rfl ?_
      refine tx_getF hX fRX10_39 ly_2 (o := 77) (b := 79) fk_10_4 rfl (by decide) (Nat.lt_of_lt_of_le (by decide) hsz) dX10_session_32 ?_
      refine ax_iload_n hX dX10_session_35 rfl ?_
      refine ax_iload_n hX dX10_session_36 rfl ?_
      obtain ⟨Q1, hK, hyp⟩ := hyp
      refine ax_callV hX lRX10_161 im_X1_addSession sl_X1_addSession cw_X1_addSession ((th_at (by decide) (Nat.lt_of_lt_of_le (by decide) hsz)).trans (tc_ob ly_79)) rfl rfl (A := [.int x0, .int x1]) (st := []) rfl rfl (Nat.le_of_ble_eq_true rfl) (by decide) (by decide) dX10_session_37 hK ?_
      rintro _ _ ⟨r3, T3, rfl, rfl, hq⟩
      replace hyp := hyp r3 T3 hq
      refine ax_goto hX dX10_session_40 (tgt := 44) (by decide) ?_
      exact hR.1 _ _ _ _ _ _ (by decide) (by decide) dX10_session_44 ⟨_, rfl, rfl⟩ ⟨_, _, rfl, rfl, hyp⟩
set_option maxRecDepth 10000 in
theorem s_X10_stuck_0 {X : ax_X} {d L sz : Nat} {T : tT} {Q : Int32 → tT → Prop} (hX : ax_ok X mX10_stuck (d + 1)) (hR : ax_Ret X mX10_stuck (ti L sz Q)) (hsz : 161 ≤ sz)  (hyp : ax_j X 2 [some (.ref 2), some (.int (0 : Int32))] [] (th L sz T) 0 0) : ax_j X 0 [some (.ref 2), none] [] (th L sz T) 0 0 := by
  refine ax_iconst hX dX10_stuck_0 (v := 0) (by decide) ?_
  refine ax_istore_n hX dX10_stuck_1 (by decide) (L' := [some (.ref 2), some (.int (0 : Int32))]) rfl ?_
  exact ax_forget (L' := [some (.ref 2), some (.int (0 : Int32))]) (⟨rfl, ⟨rfl, trivial⟩⟩) hyp
set_option maxRecDepth 10000 in
theorem s_X10_stuck_2 {X : ax_X} {d L sz : Nat} {T : tT} {Q : Int32 → tT → Prop} (hX : ax_ok X mX10_stuck (d + 1)) (hR : ax_Ret X mX10_stuck (ti L sz Q)) (hsz : 161 ≤ sz) (v1 : Int32) (hyp : (((T.1 79 2) ≤ v1 → Q (-1 : Int32) T) ∧ (¬ (T.1 79 2) ≤ v1 → ∃ Q1, tiK d mX10_canBeTaken [.ref 2, .int v1] L sz T Q1 ∧ ∀ (r1 : Int32) (T1 : tT), Q1 r1 T1 → (((¬ r1 = 0 → ax_j X 2 [some (.ref 2), some (.int (v1 + (1 : Int32)))] [] (th L sz T1) 0 0) ∧ (r1 = 0 → Q v1 T1)))))) : ax_j X 2 [some (.ref 2), some (.int v1)] [] (th L sz T) 0 0 := by
  refine ax_iload_n hX dX10_stuck_2 rfl ?_
  refine ax_aload_n hX dX10_stuck_3 (Or.inr ⟨_, rfl⟩) rfl ?_
  refine tx_getF hX fRX10_39 ly_2 (o := 77) (b := 79) fk_10_4 rfl (by decide) (Nat.lt_of_lt_of_le (by decide) hsz) dX10_stuck_4 ?_
  refine tx_getI hX fRX10_186 ly_79 fk_1_2 (by decide) (Nat.lt_of_lt_of_le (by decide) hsz) dX10_stuck_7 ?_
  refine ax_icmp_ge hX dX10_stuck_10 (tgt := 29) (by decide) (fun c => ?_) (fun c => ?_)
  · replace hyp := hyp.1 c
    refine ax_iconst hX dX10_stuck_29 (v := -1) (by decide) ?_
    exact hR.1 _ _ _ _ _ _ (by decide) (by decide) dX10_stuck_30 ⟨_, rfl, rfl⟩ ⟨_, _, rfl, rfl, hyp⟩
  · replace hyp := hyp.2 c
    refine ax_aload_n hX dX10_stuck_13 (Or.inr ⟨_, rfl⟩) rfl ?_
    refine ax_iload_n hX dX10_stuck_14 rfl ?_
    obtain ⟨Q1, hK, hyp⟩ := hyp
    refine ax_callV hX lRX10_202 im_X10_canBeTaken sl_X10_canBeTaken cw_X10_canBeTaken ((th_at (by decide) (Nat.lt_of_lt_of_le (by decide) hsz)).trans (tc_ob ly_2)) rfl rfl (A := [.int v1]) (st := []) rfl rfl (Nat.le_of_ble_eq_true rfl) (by decide) (by decide) dX10_stuck_15 hK ?_
    rintro _ _ ⟨r1, T1, rfl, rfl, hq⟩
    replace hyp := hyp r1 T1 hq
    refine ax_if_ne hX dX10_stuck_18 (tgt := 23) (by decide) (fun c => ?_) (fun c => ?_)
    · replace hyp := hyp.1 c
      refine ax_iinc hX dX10_stuck_23 rfl (w := (v1 + (1 : Int32))) rfl (by decide) (L' := [some (.ref 2), some (.int (v1 + (1 : Int32)))]) rfl ?_
      refine ax_goto hX dX10_stuck_26 (tgt := 2) (by decide) ?_
      exact ax_forget (L' := [some (.ref 2), some (.int (v1 + (1 : Int32)))]) (⟨rfl, ⟨rfl, trivial⟩⟩) hyp
    · replace hyp := hyp.2 c
      refine ax_iload_n hX dX10_stuck_21 rfl ?_
      exact hR.1 _ _ _ _ _ _ (by decide) (by decide) dX10_stuck_22 ⟨_, rfl, rfl⟩ ⟨_, _, rfl, rfl, hyp⟩
set_option maxRecDepth 10000 in
theorem s_X10_tour_0 {X : ax_X} {d L sz : Nat} {T : tT} {Q : Int32 → tT → Prop} (hX : ax_ok X mX10_tour (d + 1)) (hR : ax_Ret X mX10_tour (ti L sz Q)) (hsz : 161 ≤ sz)  (hyp : ax_j X 2 [some (.ref 2), some (.int (0 : Int32)), none] [] (th L sz T) 0 0) : ax_j X 0 [some (.ref 2), none, none] [] (th L sz T) 0 0 := by
  refine ax_iconst hX dX10_tour_0 (v := 0) (by decide) ?_
  refine ax_istore_n hX dX10_tour_1 (by decide) (L' := [some (.ref 2), some (.int (0 : Int32)), none]) rfl ?_
  exact ax_forget (L' := [some (.ref 2), some (.int (0 : Int32)), none]) (⟨rfl, ⟨rfl, trivial⟩⟩) hyp
set_option maxRecDepth 10000 in
theorem s_X10_tour_2 {X : ax_X} {d L sz : Nat} {T : tT} {Q : Int32 → tT → Prop} (hX : ax_ok X mX10_tour (d + 1)) (hR : ax_Ret X mX10_tour (ti L sz Q)) (hsz : 161 ≤ sz) (v1 : Int32) (hyp : (((T.1 79 2) ≤ v1 → ∃ Q1, tiK d mX7_plan [.ref 85, .ref 79] L sz T Q1 ∧ ∀ (r1 : Int32) (T1 : tT), Q1 r1 T1 → (Q r1 T1)) ∧ (¬ (T.1 79 2) ≤ v1 → ax_j X 15 [some (.ref 2), some (.int v1), some (.int (0 : Int32))] [] (th L sz T) 0 0))) : ax_j X 2 [some (.ref 2), some (.int v1), none] [] (th L sz T) 0 0 := by
  refine ax_iload_n hX dX10_tour_2 rfl ?_
  refine ax_aload_n hX dX10_tour_3 (Or.inr ⟨_, rfl⟩) rfl ?_
  refine tx_getF hX fRX10_39 ly_2 (o := 77) (b := 79) fk_10_4 rfl (by decide) (Nat.lt_of_lt_of_le (by decide) hsz) dX10_tour_4 ?_
  refine tx_getI hX fRX10_186 ly_79 fk_1_2 (by decide) (Nat.lt_of_lt_of_le (by decide) hsz) dX10_tour_7 ?_
  refine ax_icmp_ge hX dX10_tour_10 (tgt := 53) (by decide) (fun c => ?_) (fun c => ?_)
  · replace hyp := hyp.1 c
    refine ax_aload_n hX dX10_tour_53 (Or.inr ⟨_, rfl⟩) rfl ?_
    refine tx_getF hX fRX10_46 ly_2 (o := 83) (b := 85) fk_10_5 rfl (by decide) (Nat.lt_of_lt_of_le (by decide) hsz) dX10_tour_54 ?_
    refine ax_aload_n hX dX10_tour_57 (Or.inr ⟨_, rfl⟩) rfl ?_
    refine tx_getF hX fRX10_39 ly_2 (o := 77) (b := 79) fk_10_4 rfl (by decide) (Nat.lt_of_lt_of_le (by decide) hsz) dX10_tour_58 ?_
    obtain ⟨Q1, hK, hyp⟩ := hyp
    refine ax_callV hX lRX10_195 im_X7_plan sl_X7_plan cw_X7_plan ((th_at (by decide) (Nat.lt_of_lt_of_le (by decide) hsz)).trans (tc_ob ly_85)) rfl rfl (A := [.ref 79]) (st := []) rfl rfl (Nat.le_of_ble_eq_true rfl) (by decide) (by decide) dX10_tour_61 hK ?_
    rintro _ _ ⟨r1, T1, rfl, rfl, hq⟩
    replace hyp := hyp r1 T1 hq
    exact hR.1 _ _ _ _ _ _ (by decide) (by decide) dX10_tour_64 ⟨_, rfl, rfl⟩ ⟨_, _, rfl, rfl, hyp⟩
  · replace hyp := hyp.2 c
    refine ax_iconst hX dX10_tour_13 (v := 0) (by decide) ?_
    refine ax_istore_n hX dX10_tour_14 (by decide) (L' := [some (.ref 2), some (.int v1), some (.int (0 : Int32))]) rfl ?_
    exact ax_forget (L' := [some (.ref 2), some (.int v1), some (.int (0 : Int32))]) (⟨rfl, ⟨rfl, ⟨rfl, trivial⟩⟩⟩) hyp
set_option maxRecDepth 10000 in
theorem s_X10_tour_15 {X : ax_X} {d L sz : Nat} {T : tT} {Q : Int32 → tT → Prop} (hX : ax_ok X mX10_tour (d + 1)) (hR : ax_Ret X mX10_tour (ti L sz Q)) (hsz : 161 ≤ sz) (v1 : Int32) (v2 : Int32) (hyp : (((T.1 79 1) ≤ v2 → ax_j X 2 [some (.ref 2), some (.int (v1 + (1 : Int32))), none] [] (th L sz T) 0 0) ∧ (¬ (T.1 79 1) ≤ v2 → ∃ Q1, tiK d mX10_mayTake [.ref 2, .int v2, .int v1] L sz T Q1 ∧ ∀ (r1 : Int32) (T1 : tT), Q1 r1 T1 → (∃ Q1, tvK d mX7_allow [.ref 85, .int v2, .int v1, .int r1] L sz T1 Q1 ∧ ∀ (T2 : tT), Q1 T2 → (ax_j X 15 [some (.ref 2), some (.int v1), some (.int (v2 + (1 : Int32)))] [] (th L sz T2) 0 0))))) : ax_j X 15 [some (.ref 2), some (.int v1), some (.int v2)] [] (th L sz T) 0 0 := by
  refine ax_iload_n hX dX10_tour_15 rfl ?_
  refine ax_aload_n hX dX10_tour_16 (Or.inr ⟨_, rfl⟩) rfl ?_
  refine tx_getF hX fRX10_39 ly_2 (o := 77) (b := 79) fk_10_4 rfl (by decide) (Nat.lt_of_lt_of_le (by decide) hsz) dX10_tour_17 ?_
  refine tx_getI hX fRX10_188 ly_79 fk_1_1 (by decide) (Nat.lt_of_lt_of_le (by decide) hsz) dX10_tour_20 ?_
  refine ax_icmp_ge hX dX10_tour_23 (tgt := 47) (by decide) (fun c => ?_) (fun c => ?_)
  · replace hyp := hyp.1 c
    refine ax_iinc hX dX10_tour_47 rfl (w := (v1 + (1 : Int32))) rfl (by decide) (L' := [some (.ref 2), some (.int (v1 + (1 : Int32))), some (.int v2)]) rfl ?_
    refine ax_goto hX dX10_tour_50 (tgt := 2) (by decide) ?_
    exact ax_forget (L' := [some (.ref 2), some (.int (v1 + (1 : Int32))), none]) (⟨rfl, ⟨rfl, trivial⟩⟩) hyp
  · replace hyp := hyp.2 c
    refine ax_aload_n hX dX10_tour_26 (Or.inr ⟨_, rfl⟩) rfl ?_
    refine tx_getF hX fRX10_46 ly_2 (o := 83) (b := 85) fk_10_5 rfl (by decide) (Nat.lt_of_lt_of_le (by decide) hsz) dX10_tour_27 ?_
    refine ax_iload_n hX dX10_tour_30 rfl ?_
    refine ax_iload_n hX dX10_tour_31 rfl ?_
    refine ax_aload_n hX dX10_tour_32 (Or.inr ⟨_, rfl⟩) rfl ?_
    refine ax_iload_n hX dX10_tour_33 rfl ?_
    refine ax_iload_n hX dX10_tour_34 rfl ?_
    obtain ⟨Q1, hK, hyp⟩ := hyp
    refine ax_callV hX lRX10_182 im_X10_mayTake sl_X10_mayTake cw_X10_mayTake ((th_at (by decide) (Nat.lt_of_lt_of_le (by decide) hsz)).trans (tc_ob ly_2)) rfl rfl (A := [.int v2, .int v1]) (st := [.int v1, .int v2, .ref 85]) rfl rfl (Nat.le_of_ble_eq_true rfl) (by decide) (by decide) dX10_tour_35 hK ?_
    rintro _ _ ⟨r1, T1, rfl, rfl, hq⟩
    replace hyp := hyp r1 T1 hq
    obtain ⟨Q1, hK, hyp⟩ := hyp
    refine ax_callV hX lRX10_191 im_X7_allow sl_X7_allow cw_X7_allow ((th_at (by decide) (Nat.lt_of_lt_of_le (by decide) hsz)).trans (tc_ob ly_85)) rfl rfl (A := [.int v2, .int v1, .int r1]) (st := []) rfl rfl (Nat.le_of_ble_eq_true rfl) (by decide) (by decide) dX10_tour_38 hK ?_
    rintro _ _ ⟨T2, rfl, rfl, hq⟩
    replace hyp := hyp T2 hq
    refine ax_iinc hX dX10_tour_41 rfl (w := (v2 + (1 : Int32))) rfl (by decide) (L' := [some (.ref 2), some (.int v1), some (.int (v2 + (1 : Int32)))]) rfl ?_
    refine ax_goto hX dX10_tour_44 (tgt := 15) (by decide) ?_
    exact ax_forget (L' := [some (.ref 2), some (.int v1), some (.int (v2 + (1 : Int32)))]) (⟨rfl, ⟨rfl, ⟨rfl, trivial⟩⟩⟩) hyp
set_option maxRecDepth 10000 in
theorem s_X10_toured_0 {X : ax_X} {d L sz : Nat} {T : tT} {Q : Int32 → tT → Prop} (hX : ax_ok X mX10_toured (d + 1)) (hR : ax_Ret X mX10_toured (ti L sz Q)) (hsz : 161 ≤ sz) (x0 : Int32) (hyp : ∃ Q1, tiK d mX1_hasSession [.ref 79, .int x0] L sz T Q1 ∧ ∀ (r1 : Int32) (T1 : tT), Q1 r1 T1 → (((r1 = 0 → Q (-1 : Int32) T1) ∧ (¬ r1 = 0 → vp_in x0 9 ∧ Q (T1.1 86 (x0.toNatClampNeg)) T1)))) : ax_j X 0 [some (.ref 2), some (.int x0)] [] (th L sz T) 0 0 := by
  refine ax_aload_n hX dX10_toured_0 (Or.inr ⟨_, rfl⟩) rfl ?_
  refine tx_getF hX fRX10_39 ly_2 (o := 77) (b := 79) fk_10_4 rfl (by decide) (Nat.lt_of_lt_of_le (by decide) hsz) dX10_toured_1 ?_
  refine ax_iload_n hX dX10_toured_4 rfl ?_
  obtain ⟨Q1, hK, hyp⟩ := hyp
  refine ax_callV hX lRX10_164 im_X1_hasSession sl_X1_hasSession cw_X1_hasSession ((th_at (by decide) (Nat.lt_of_lt_of_le (by decide) hsz)).trans (tc_ob ly_79)) rfl rfl (A := [.int x0]) (st := []) rfl rfl (Nat.le_of_ble_eq_true rfl) (by decide) (by decide) dX10_toured_5 hK ?_
  rintro _ _ ⟨r1, T1, rfl, rfl, hq⟩
  replace hyp := hyp r1 T1 hq
  refine ax_if_eq hX dX10_toured_8 (tgt := 23) (by decide) (fun c => ?_) (fun c => ?_)
  · replace hyp := hyp.1 c
    refine ax_iconst hX dX10_toured_23 (v := -1) (by decide) ?_
    exact hR.1 _ _ _ _ _ _ (by decide) (by decide) dX10_toured_24 ⟨_, rfl, rfl⟩ ⟨_, _, rfl, rfl, hyp⟩
  · replace hyp := hyp.2 c
    refine ax_aload_n hX dX10_toured_11 (Or.inr ⟨_, rfl⟩) rfl ?_
    refine tx_getF hX fRX10_46 ly_2 (o := 83) (b := 85) fk_10_5 rfl (by decide) (Nat.lt_of_lt_of_le (by decide) hsz) dX10_toured_12 ?_
    refine tx_getF hX fRX10_199 ly_85 (o := 1) (b := 86) fk_7_0 rfl (by decide) (Nat.lt_of_lt_of_le (by decide) hsz) dX10_toured_15 ?_
    refine ax_iload_n hX dX10_toured_18 rfl ?_
    refine tx_ial hX ly_86 (by decide) (Nat.lt_of_lt_of_le (by decide) hsz) hyp.1 dX10_toured_19 ?_
    replace hyp := hyp.2
    refine ax_goto hX dX10_toured_20 (tgt := 24) (by decide) ?_
    exact hR.1 _ _ _ _ _ _ (by decide) (by decide) dX10_toured_24 ⟨_, rfl, rfl⟩ ⟨_, _, rfl, rfl, hyp⟩
set_option maxRecDepth 10000 in
theorem s_X10_untell_0 {X : ax_X} {d L sz : Nat} {T : tT} {Q : Int32 → tT → Prop} (hX : ax_ok X mX10_untell (d + 1)) (hR : ax_Ret X mX10_untell (ti L sz Q)) (hsz : 161 ≤ sz) (x0 : Int32) (hyp : ∃ Q1, tiK d mX5_takeBack [.ref 93, .int x0] L sz T Q1 ∧ ∀ (r1 : Int32) (T1 : tT), Q1 r1 T1 → ((r1 &&& 1 = r1) ∧ Q r1 T1)) : ax_j X 0 [some (.ref 2), some (.int x0)] [] (th L sz T) 0 0 := by
  refine ax_aload_n hX dX10_untell_0 (Or.inr ⟨_, rfl⟩) rfl ?_
  refine tx_getF hX fRX10_53 ly_2 (o := 91) (b := 93) fk_10_6 rfl (by decide) (Nat.lt_of_lt_of_le (by decide) hsz) dX10_untell_1 ?_
  refine ax_iload_n hX dX10_untell_4 rfl ?_
  obtain ⟨Q1, hK, hyp⟩ := hyp
  refine ax_callV hX lRX10_220 im_X5_takeBack sl_X5_takeBack cw_X5_takeBack ((th_at (by decide) (Nat.lt_of_lt_of_le (by decide) hsz)).trans (tc_ob ly_93)) rfl rfl (A := [.int x0]) (st := []) rfl rfl (Nat.le_of_ble_eq_true rfl) (by decide) (by decide) dX10_untell_5 hK ?_
  rintro _ _ ⟨r1, T1, rfl, rfl, hq⟩
  replace hyp := hyp r1 T1 hq
  exact hR.1 _ _ _ _ _ _ (by decide) (by decide) dX10_untell_8 ⟨_, rfl, congrArg Value.int hyp.1⟩ ⟨_, _, rfl, rfl, hyp.2⟩
set_option maxRecDepth 10000 in
theorem s_X10_way_0 {X : ax_X} {d L sz : Nat} {T : tT} {Q : Int32 → tT → Prop} (hX : ax_ok X mX10_way (d + 1)) (hR : ax_Ret X mX10_way (ti L sz Q)) (hsz : 161 ≤ sz) (x0 : Int32) (x1 : Int32) (x2 : Int32) (hyp : ∃ Q1, tiK d mX1_hasCentre [.ref 79, .int x0] L sz T Q1 ∧ ∀ (r1 : Int32) (T1 : tT), Q1 r1 T1 → (((r1 = 0 → Q (0 : Int32) T1) ∧ (¬ r1 = 0 → ∃ Q1, tiK d mX1_hasCentre [.ref 79, .int x1] L sz T1 Q1 ∧ ∀ (r2 : Int32) (T2 : tT), Q1 r2 T2 → (((r2 = 0 → Q (0 : Int32) T2) ∧ (¬ r2 = 0 → ((x0 = x1 → Q (0 : Int32) T2) ∧ (¬ x0 = x1 → ∃ Q1, tiK d mX10_isWithin [.int x2, .int (0 : Int32), .int (600 : Int32)] L sz T2 Q1 ∧ ∀ (r3 : Int32) (T3 : tT), Q1 r3 T3 → (((r3 = 0 → Q (0 : Int32) T3) ∧ (¬ r3 = 0 → ∃ Q1, tvK d mX1_setWay [.ref 79, .int x0, .int x1, .int x2] L sz T3 Q1 ∧ ∀ (T4 : tT), Q1 T4 → (Q (1 : Int32) T4))))))))))))) : ax_j X 0 [some (.ref 2), some (.int x0), some (.int x1), some (.int x2), none] [] (th L sz T) 0 0 := by
  refine ax_aload_n hX dX10_way_0 (Or.inr ⟨_, rfl⟩) rfl ?_
  refine tx_getF hX fRX10_39 ly_2 (o := 77) (b := 79) fk_10_4 rfl (by decide) (Nat.lt_of_lt_of_le (by decide) hsz) dX10_way_1 ?_
  refine ax_iload_n hX dX10_way_4 rfl ?_
  obtain ⟨Q1, hK, hyp⟩ := hyp
  refine ax_callV hX lRX10_150 im_X1_hasCentre sl_X1_hasCentre cw_X1_hasCentre ((th_at (by decide) (Nat.lt_of_lt_of_le (by decide) hsz)).trans (tc_ob ly_79)) rfl rfl (A := [.int x0]) (st := []) rfl rfl (Nat.le_of_ble_eq_true rfl) (by decide) (by decide) dX10_way_5 hK ?_
  rintro _ _ ⟨r1, T1, rfl, rfl, hq⟩
  replace hyp := hyp r1 T1 hq
  refine ax_if_eq hX dX10_way_8 (tgt := 42) (by decide) (fun c => ?_) (fun c => ?_)
  · replace hyp := hyp.1 c
    refine ax_iconst hX dX10_way_42 (v := 0) (by decide) ?_
    refine ax_istore hX dX10_way_43 (by decide) (L' := [some (.ref 2), some (.int x0), some (.int x1), some (.int x2), some (.int (0 : Int32))]) rfl ?_
    refine ax_iload hX dX10_way_45 rfl ?_
    refine ax_if_eq hX dX10_way_47 (tgt := 60) (by decide) (fun c => ?_) (fun c => ?_)
    rotate_left
    · exact absurd c (by decide)
    refine ax_iload hX dX10_way_60 rfl ?_
    exact hR.1 _ _ _ _ _ _ (by decide) (by decide) dX10_way_62 ⟨_, rfl, rfl⟩ ⟨_, _, rfl, rfl, hyp⟩
  · replace hyp := hyp.2 c
    refine ax_aload_n hX dX10_way_11 (Or.inr ⟨_, rfl⟩) rfl ?_
    refine tx_getF hX fRX10_39 ly_2 (o := 77) (b := 79) fk_10_4 rfl (by decide) (Nat.lt_of_lt_of_le (by decide) hsz) dX10_way_12 ?_
    refine ax_iload_n hX dX10_way_15 rfl ?_
    obtain ⟨Q1, hK, hyp⟩ := hyp
    refine ax_callV hX lRX10_150 im_X1_hasCentre sl_X1_hasCentre cw_X1_hasCentre ((th_at (by decide) (Nat.lt_of_lt_of_le (by decide) hsz)).trans (tc_ob ly_79)) rfl rfl (A := [.int x1]) (st := []) rfl rfl (Nat.le_of_ble_eq_true rfl) (by decide) (by decide) dX10_way_16 hK ?_
    rintro _ _ ⟨r2, T2, rfl, rfl, hq⟩
    replace hyp := hyp r2 T2 hq
    refine ax_if_eq hX dX10_way_19 (tgt := 42) (by decide) (fun c => ?_) (fun c => ?_)
    · replace hyp := hyp.1 c
      refine ax_iconst hX dX10_way_42 (v := 0) (by decide) ?_
      refine ax_istore hX dX10_way_43 (by decide) (L' := [some (.ref 2), some (.int x0), some (.int x1), some (.int x2), some (.int (0 : Int32))]) rfl ?_
      refine ax_iload hX dX10_way_45 rfl ?_
      refine ax_if_eq hX dX10_way_47 (tgt := 60) (by decide) (fun c => ?_) (fun c => ?_)
      rotate_left
      · exact absurd c (by decide)
      refine ax_iload hX dX10_way_60 rfl ?_
      exact hR.1 _ _ _ _ _ _ (by decide) (by decide) dX10_way_62 ⟨_, rfl, rfl⟩ ⟨_, _, rfl, rfl, hyp⟩
    · replace hyp := hyp.2 c
      refine ax_iload_n hX dX10_way_22 rfl ?_
      refine ax_iload_n hX dX10_way_23 rfl ?_
      refine ax_icmp_eq hX dX10_way_24 (tgt := 42) (by decide) (fun c => ?_) (fun c => ?_)
      · replace hyp := hyp.1 c
        refine ax_iconst hX dX10_way_42 (v := 0) (by decide) ?_
        refine ax_istore hX dX10_way_43 (by decide) (L' := [some (.ref 2), some (.int x0), some (.int x1), some (.int x2), some (.int (0 : Int32))]) rfl ?_
        refine ax_iload hX dX10_way_45 rfl ?_
        refine ax_if_eq hX dX10_way_47 (tgt := 60) (by decide) (fun c => ?_) (fun c => ?_)
        rotate_left
        · exact absurd c (by decide)
        refine ax_iload hX dX10_way_60 rfl ?_
        exact hR.1 _ _ _ _ _ _ (by decide) (by decide) dX10_way_62 ⟨_, rfl, rfl⟩ ⟨_, _, rfl, rfl, hyp⟩
      · replace hyp := hyp.2 c
        refine ax_iload_n hX dX10_way_27 rfl ?_
        refine ax_iconst hX dX10_way_28 (v := 0) (by decide) ?_
        refine ax_sipush hX dX10_way_29 (v := 600) (by decide) ?_
        obtain ⟨Q1, hK, hyp⟩ := hyp
        refine ax_callS hX lRX10_122 sm_X10_isWithin cw_X10_isWithin (A := [.int x2, .int (0 : Int32), .int (600 : Int32)]) (st := []) rfl rfl (Nat.le_of_ble_eq_true rfl) (by decide) (by decide) dX10_way_32 hK ?_
        rintro _ _ ⟨r3, T3, rfl, rfl, hq⟩
        replace hyp := hyp r3 T3 hq
        refine ax_if_eq hX dX10_way_35 (tgt := 42) (by decide) (fun c => ?_) (fun c => ?_)
        · replace hyp := hyp.1 c
          refine ax_iconst hX dX10_way_42 (v := 0) (by decide) ?_
          refine ax_istore hX dX10_way_43 (by decide) (L' := [some (.ref 2), some (.int x0), some (.int x1), some (.int x2), some (.int (0 : Int32))]) rfl ?_
          refine ax_iload hX dX10_way_45 rfl ?_
          refine ax_if_eq hX dX10_way_47 (tgt := 60) (by decide) (fun c => ?_) (fun c => ?_)
          rotate_left
          · exact absurd c (by decide)
          refine ax_iload hX dX10_way_60 rfl ?_
          exact hR.1 _ _ _ _ _ _ (by decide) (by decide) dX10_way_62 ⟨_, rfl, rfl⟩ ⟨_, _, rfl, rfl, hyp⟩
        · replace hyp := hyp.2 c
          refine ax_iconst hX dX10_way_38 (v := 1) (by decide) ?_
          refine ax_goto hX dX10_way_39 (tgt := 43) (by decide) ?_
          refine ax_istore hX dX10_way_43 (by decide) (L' := [some (.ref 2), some (.int x0), some (.int x1), some (.int x2), some (.int (1 : Int32))]) rfl ?_
          refine ax_iload hX dX10_way_45 rfl ?_
          refine ax_if_eq hX dX10_way_47 (tgt := 60) (by decide) (fun c => ?_) (fun c => ?_)
          · exact absurd c (by decide)
          refine ax_aload_n hX dX10_way_50 (Or.inr ⟨_, rfl⟩) rfl ?_
          refine tx_getF hX fRX10_39 ly_2 (o := 77) (b := 79) fk_10_4 rfl (by decide) (Nat.lt_of_lt_of_le (by decide) hsz) dX10_way_51 ?_
          refine ax_iload_n hX dX10_way_54 rfl ?_
          refine ax_iload_n hX dX10_way_55 rfl ?_
          refine ax_iload_n hX dX10_way_56 rfl ?_
          obtain ⟨Q1, hK, hyp⟩ := hyp
          refine ax_callV hX lRX10_153 im_X1_setWay sl_X1_setWay cw_X1_setWay ((th_at (by decide) (Nat.lt_of_lt_of_le (by decide) hsz)).trans (tc_ob ly_79)) rfl rfl (A := [.int x0, .int x1, .int x2]) (st := []) rfl rfl (Nat.le_of_ble_eq_true rfl) (by decide) (by decide) dX10_way_57 hK ?_
          rintro _ _ ⟨T4, rfl, rfl, hq⟩
          replace hyp := hyp T4 hq
          refine ax_iload hX dX10_way_60 rfl ?_
          exact hR.1 _ _ _ _ _ _ (by decide) (by decide) dX10_way_62 ⟨_, rfl, rfl⟩ ⟨_, _, rfl, rfl, hyp⟩
set_option maxRecDepth 10000 in
theorem s_X11_about_0 {X : ax_X} {d L sz : Nat} {T : tT} {Q : Int32 → tT → Prop} (hX : ax_ok X mX11_about d) (hR : ax_Ret X mX11_about (ti L sz Q)) (hsz : 161 ≤ sz) (x0 : Int32) (hyp : (x0 = 0 → Q (T.1 105 71) T) ∧ (x0 = 1 → Q (T.1 105 48) T) ∧ (x0 = 2 → Q (T.1 105 56) T) ∧ (x0 = 3 → Q (T.1 105 57) T) ∧ (x0 = 4 → Q (T.1 105 58) T) ∧ (x0 = 5 → Q (T.1 105 70) T) ∧ (x0 = 6 → Q (T.1 105 76) T) ∧ (x0 = 7 → Q (T.1 105 2) T) ∧ (¬ x0 = 0 → ¬ x0 = 1 → ¬ x0 = 2 → ¬ x0 = 3 → ¬ x0 = 4 → ¬ x0 = 5 → ¬ x0 = 6 → ¬ x0 = 7 → ((x0 < (10 : Int32) → Q (-1 : Int32) T) ∧ (¬ x0 < (10 : Int32) → ((x0 < (14 : Int32) → vp_in (x0 - (10 : Int32)) 4 ∧ (((T.1 109 (x0 - (10 : Int32)).toNatClampNeg) = 0 → Q (0 : Int32) T) ∧ (¬ (T.1 109 (x0 - (10 : Int32)).toNatClampNeg) = 0 → vp_in (x0 - (10 : Int32)) 4 ∧ vp_in (T.1 108 (x0 - (10 : Int32)).toNatClampNeg) 5 ∧ Q (T.1 125 (T.1 108 (x0 - (10 : Int32)).toNatClampNeg).toNatClampNeg) T))) ∧ (¬ x0 < (14 : Int32) → Q (-1 : Int32) T)))))) : ax_j X 0 [some (.ref 105), some (.int x0)] [] (th L sz T) 0 0 := by
  refine ax_iload_n hX dX11_about_0 rfl ?_
  by_cases q0 : x0 = 0
  · replace hyp := hyp.1 q0
    refine ax_tableIn hX dX11_about_1 (by rw [q0]; decide) (by rw [q0]; decide) (off := 47) (by rw [q0]; rfl) (tgt := 48) (by decide) ?_
    refine ax_aload_n hX dX11_about_48 (Or.inr ⟨_, rfl⟩) rfl ?_
    refine tx_getI hX fRX11_438 ly_105 fk_11_71 (by decide) (Nat.lt_of_lt_of_le (by decide) hsz) dX11_about_49 ?_
    exact hR.1 _ _ _ _ _ _ (by decide) (by decide) dX11_about_52 ⟨_, rfl, rfl⟩ ⟨_, _, rfl, rfl, hyp⟩
  by_cases q1 : x0 = 1
  · replace hyp := hyp.2.1 q1
    refine ax_tableIn hX dX11_about_1 (by rw [q1]; decide) (by rw [q1]; decide) (off := 52) (by rw [q1]; rfl) (tgt := 53) (by decide) ?_
    refine ax_aload_n hX dX11_about_53 (Or.inr ⟨_, rfl⟩) rfl ?_
    refine tx_getI hX fRX11_354 ly_105 fk_11_48 (by decide) (Nat.lt_of_lt_of_le (by decide) hsz) dX11_about_54 ?_
    exact hR.1 _ _ _ _ _ _ (by decide) (by decide) dX11_about_57 ⟨_, rfl, rfl⟩ ⟨_, _, rfl, rfl, hyp⟩
  by_cases q2 : x0 = 2
  · replace hyp := hyp.2.2.1 q2
    refine ax_tableIn hX dX11_about_1 (by rw [q2]; decide) (by rw [q2]; decide) (off := 57) (by rw [q2]; rfl) (tgt := 58) (by decide) ?_
    refine ax_aload_n hX dX11_about_58 (Or.inr ⟨_, rfl⟩) rfl ?_
    refine tx_getI hX fRX11_394 ly_105 fk_11_56 (by decide) (Nat.lt_of_lt_of_le (by decide) hsz) dX11_about_59 ?_
    exact hR.1 _ _ _ _ _ _ (by decide) (by decide) dX11_about_62 ⟨_, rfl, rfl⟩ ⟨_, _, rfl, rfl, hyp⟩
  by_cases q3 : x0 = 3
  · replace hyp := hyp.2.2.2.1 q3
    refine ax_tableIn hX dX11_about_1 (by rw [q3]; decide) (by rw [q3]; decide) (off := 62) (by rw [q3]; rfl) (tgt := 63) (by decide) ?_
    refine ax_aload_n hX dX11_about_63 (Or.inr ⟨_, rfl⟩) rfl ?_
    refine tx_getI hX fRX11_357 ly_105 fk_11_57 (by decide) (Nat.lt_of_lt_of_le (by decide) hsz) dX11_about_64 ?_
    exact hR.1 _ _ _ _ _ _ (by decide) (by decide) dX11_about_67 ⟨_, rfl, rfl⟩ ⟨_, _, rfl, rfl, hyp⟩
  by_cases q4 : x0 = 4
  · replace hyp := hyp.2.2.2.2.1 q4
    refine ax_tableIn hX dX11_about_1 (by rw [q4]; decide) (by rw [q4]; decide) (off := 67) (by rw [q4]; rfl) (tgt := 68) (by decide) ?_
    refine ax_aload_n hX dX11_about_68 (Or.inr ⟨_, rfl⟩) rfl ?_
    refine tx_getI hX fRX11_400 ly_105 fk_11_58 (by decide) (Nat.lt_of_lt_of_le (by decide) hsz) dX11_about_69 ?_
    exact hR.1 _ _ _ _ _ _ (by decide) (by decide) dX11_about_72 ⟨_, rfl, rfl⟩ ⟨_, _, rfl, rfl, hyp⟩
  by_cases q5 : x0 = 5
  · replace hyp := hyp.2.2.2.2.2.1 q5
    refine ax_tableIn hX dX11_about_1 (by rw [q5]; decide) (by rw [q5]; decide) (off := 72) (by rw [q5]; rfl) (tgt := 73) (by decide) ?_
    refine ax_aload_n hX dX11_about_73 (Or.inr ⟨_, rfl⟩) rfl ?_
    refine tx_getI hX fRX11_409 ly_105 fk_11_70 (by decide) (Nat.lt_of_lt_of_le (by decide) hsz) dX11_about_74 ?_
    exact hR.1 _ _ _ _ _ _ (by decide) (by decide) dX11_about_77 ⟨_, rfl, rfl⟩ ⟨_, _, rfl, rfl, hyp⟩
  by_cases q6 : x0 = 6
  · replace hyp := hyp.2.2.2.2.2.2.1 q6
    refine ax_tableIn hX dX11_about_1 (by rw [q6]; decide) (by rw [q6]; decide) (off := 77) (by rw [q6]; rfl) (tgt := 78) (by decide) ?_
    refine ax_aload_n hX dX11_about_78 (Or.inr ⟨_, rfl⟩) rfl ?_
    refine tx_getI hX fRX11_463 ly_105 fk_11_76 (by decide) (Nat.lt_of_lt_of_le (by decide) hsz) dX11_about_79 ?_
    exact hR.1 _ _ _ _ _ _ (by decide) (by decide) dX11_about_82 ⟨_, rfl, rfl⟩ ⟨_, _, rfl, rfl, hyp⟩
  by_cases q7 : x0 = 7
  · replace hyp := hyp.2.2.2.2.2.2.2.1 q7
    refine ax_tableIn hX dX11_about_1 (by rw [q7]; decide) (by rw [q7]; decide) (off := 82) (by rw [q7]; rfl) (tgt := 83) (by decide) ?_
    refine ax_aload_n hX dX11_about_83 (Or.inr ⟨_, rfl⟩) rfl ?_
    refine tx_getI hX fRX11_272 ly_105 fk_11_2 (by decide) (Nat.lt_of_lt_of_le (by decide) hsz) dX11_about_84 ?_
    exact hR.1 _ _ _ _ _ _ (by decide) (by decide) dX11_about_87 ⟨_, rfl, rfl⟩ ⟨_, _, rfl, rfl, hyp⟩
  replace hyp := hyp.2.2.2.2.2.2.2.2 q0 q1 q2 q3 q4 q5 q6 q7
  have z0 := lv_neT (a := 0) q0 rfl
  have z1 := lv_neT (a := 1) q1 rfl
  have z2 := lv_neT (a := 2) q2 rfl
  have z3 := lv_neT (a := 3) q3 rfl
  have z4 := lv_neT (a := 4) q4 rfl
  have z5 := lv_neT (a := 5) q5 rfl
  have z6 := lv_neT (a := 6) q6 rfl
  have z7 := lv_neT (a := 7) q7 rfl
  refine ax_tableOut hX dX11_about_1 (by omega) (tgt := 88) (by decide) ?_
  refine ax_iload_n hX dX11_about_88 rfl ?_
  refine ax_bipush hX dX11_about_89 (v := 10) (by decide) ?_
  refine ax_icmp_lt hX dX11_about_91 (tgt := 100) (by decide) (fun c => ?_) (fun c => ?_)
  · replace hyp := hyp.1 c
    refine ax_iconst hX dX11_about_100 (v := -1) (by decide) ?_
    refine ax_goto hX dX11_about_101 (tgt := 134) (by decide) ?_
    exact hR.1 _ _ _ _ _ _ (by decide) (by decide) dX11_about_134 ⟨_, rfl, rfl⟩ ⟨_, _, rfl, rfl, hyp⟩
  · replace hyp := hyp.2 c
    refine ax_iload_n hX dX11_about_94 rfl ?_
    refine ax_bipush hX dX11_about_95 (v := 14) (by decide) ?_
    refine ax_icmp_lt hX dX11_about_97 (tgt := 104) (by decide) (fun c => ?_) (fun c => ?_)
    · replace hyp := hyp.1 c
      refine ax_aload_n hX dX11_about_104 (Or.inr ⟨_, rfl⟩) rfl ?_
      refine tx_getF hX fRX11_114 ly_105 (o := 4) (b := 109) fk_11_15 rfl (by decide) (Nat.lt_of_lt_of_le (by decide) hsz) dX11_about_105 ?_
      refine ax_iload_n hX dX11_about_108 rfl ?_
      refine ax_bipush hX dX11_about_109 (v := 10) (by decide) ?_
      refine ax_isub hX dX11_about_111 ?_
      refine tx_zal hX ly_109 (by decide) (Nat.lt_of_lt_of_le (by decide) hsz) hyp.1 dX11_about_112 ?_
      replace hyp := hyp.2
      refine ax_if_eq hX dX11_about_113 (tgt := 133) (by decide) (fun c => ?_) (fun c => ?_)
      · replace hyp := hyp.1 c
        refine ax_iconst hX dX11_about_133 (v := 0) (by decide) ?_
        exact hR.1 _ _ _ _ _ _ (by decide) (by decide) dX11_about_134 ⟨_, rfl, rfl⟩ ⟨_, _, rfl, rfl, hyp⟩
      · replace hyp := hyp.2 c
        refine ax_aload_n hX dX11_about_116 (Or.inr ⟨_, rfl⟩) rfl ?_
        refine tx_getF hX fRX11_163 ly_105 (o := 20) (b := 125) fk_11_31 rfl (by decide) (Nat.lt_of_lt_of_le (by decide) hsz) dX11_about_117 ?_
        refine ax_aload_n hX dX11_about_120 (Or.inr ⟨_, rfl⟩) rfl ?_
        refine tx_getF hX fRX11_107 ly_105 (o := 3) (b := 108) fk_11_11 rfl (by decide) (Nat.lt_of_lt_of_le (by decide) hsz) dX11_about_121 ?_
        refine ax_iload_n hX dX11_about_124 rfl ?_
        refine ax_bipush hX dX11_about_125 (v := 10) (by decide) ?_
        refine ax_isub hX dX11_about_127 ?_
        refine tx_ial hX ly_108 (by decide) (Nat.lt_of_lt_of_le (by decide) hsz) hyp.1 dX11_about_128 ?_
        replace hyp := hyp.2
        refine tx_ial hX ly_125 (by decide) (Nat.lt_of_lt_of_le (by decide) hsz) hyp.1 dX11_about_129 ?_
        replace hyp := hyp.2
        refine ax_goto hX dX11_about_130 (tgt := 134) (by decide) ?_
        exact hR.1 _ _ _ _ _ _ (by decide) (by decide) dX11_about_134 ⟨_, rfl, rfl⟩ ⟨_, _, rfl, rfl, hyp⟩
    · replace hyp := hyp.2 c
      refine ax_iconst hX dX11_about_100 (v := -1) (by decide) ?_
      refine ax_goto hX dX11_about_101 (tgt := 134) (by decide) ?_
      exact hR.1 _ _ _ _ _ _ (by decide) (by decide) dX11_about_134 ⟨_, rfl, rfl⟩ ⟨_, _, rfl, rfl, hyp⟩
set_option maxRecDepth 10000 in
theorem s_X11_agrees_0 {X : ax_X} {d L sz : Nat} {T : tT} {Q : Int32 → tT → Prop} (hX : ax_ok X mX11_agrees d) (hR : ax_Ret X mX11_agrees (ti L sz Q)) (hsz : 161 ≤ sz) (x0 : Int32) (x1 : Int32) (hyp : ax_j X 2 [some (.ref 105), some (.int x0), some (.int x1), some (.int (0 : Int32))] [] (th L sz T) 0 0) : ax_j X 0 [some (.ref 105), some (.int x0), some (.int x1), none] [] (th L sz T) 0 0 := by
  refine ax_iconst hX dX11_agrees_0 (v := 0) (by decide) ?_
  refine ax_istore_n hX dX11_agrees_1 (by decide) (L' := [some (.ref 105), some (.int x0), some (.int x1), some (.int (0 : Int32))]) rfl ?_
  exact ax_forget (L' := [some (.ref 105), some (.int x0), some (.int x1), some (.int (0 : Int32))]) (⟨rfl, ⟨rfl, ⟨rfl, ⟨rfl, trivial⟩⟩⟩⟩) hyp
set_option maxRecDepth 10000 in
theorem s_X11_agrees_2 {X : ax_X} {d L sz : Nat} {T : tT} {Q : Int32 → tT → Prop} (hX : ax_ok X mX11_agrees d) (hR : ax_Ret X mX11_agrees (ti L sz Q)) (hsz : 161 ≤ sz) (v1 : Int32) (v2 : Int32) (v3 : Int32) (hyp : (((T.1 105 58) ≤ v3 → Q (1 : Int32) T) ∧ (¬ (T.1 105 58) ≤ v3 → vp_in v3 9 ∧ (((T.1 149 (v3.toNatClampNeg)) < 0 → ax_j X 2 [some (.ref 105), some (.int v1), some (.int v2), some (.int (v3 + (1 : Int32)))] [] (th L sz T) 0 0) ∧ (¬ (T.1 149 (v3.toNatClampNeg)) < 0 → vp_in v3 9 ∧ ((¬ (T.1 149 (v3.toNatClampNeg)) = v1 → ((¬ ((v2 >>> (v3 &&& 31)) &&& (1 : Int32)) = (1 : Int32) → ax_j X 2 [some (.ref 105), some (.int v1), some (.int v2), some (.int (v3 + (1 : Int32)))] [] (th L sz T) 0 0) ∧ (((v2 >>> (v3 &&& 31)) &&& (1 : Int32)) = (1 : Int32) → Q (0 : Int32) T))) ∧ ((T.1 149 (v3.toNatClampNeg)) = v1 → ((¬ ((v2 >>> (v3 &&& 31)) &&& (1 : Int32)) = (1 : Int32) → Q (0 : Int32) T) ∧ (((v2 >>> (v3 &&& 31)) &&& (1 : Int32)) = (1 : Int32) → ax_j X 2 [some (.ref 105), some (.int v1), some (.int v2), some (.int (v3 + (1 : Int32)))] [] (th L sz T) 0 0))))))))) : ax_j X 2 [some (.ref 105), some (.int v1), some (.int v2), some (.int v3)] [] (th L sz T) 0 0 := by
  refine ax_iload_n hX dX11_agrees_2 rfl ?_
  refine ax_aload_n hX dX11_agrees_3 (Or.inr ⟨_, rfl⟩) rfl ?_
  refine tx_getI hX fRX11_400 ly_105 fk_11_58 (by decide) (Nat.lt_of_lt_of_le (by decide) hsz) dX11_agrees_4 ?_
  refine ax_icmp_ge hX dX11_agrees_7 (tgt := 59) (by decide) (fun c => ?_) (fun c => ?_)
  · replace hyp := hyp.1 c
    refine ax_iconst hX dX11_agrees_59 (v := 1) (by decide) ?_
    exact hR.1 _ _ _ _ _ _ (by decide) (by decide) dX11_agrees_60 ⟨_, rfl, rfl⟩ ⟨_, _, rfl, rfl, hyp⟩
  · replace hyp := hyp.2 c
    refine ax_aload_n hX dX11_agrees_10 (Or.inr ⟨_, rfl⟩) rfl ?_
    refine tx_getF hX fRX11_236 ly_105 (o := 44) (b := 149) fk_11_61 rfl (by decide) (Nat.lt_of_lt_of_le (by decide) hsz) dX11_agrees_11 ?_
    refine ax_iload_n hX dX11_agrees_14 rfl ?_
    refine tx_ial hX ly_149 (by decide) (Nat.lt_of_lt_of_le (by decide) hsz) hyp.1 dX11_agrees_15 ?_
    replace hyp := hyp.2
    refine ax_if_lt hX dX11_agrees_16 (tgt := 53) (by decide) (fun c => ?_) (fun c => ?_)
    · replace hyp := hyp.1 c
      refine ax_iinc hX dX11_agrees_53 rfl (w := (v3 + (1 : Int32))) rfl (by decide) (L' := [some (.ref 105), some (.int v1), some (.int v2), some (.int (v3 + (1 : Int32)))]) rfl ?_
      refine ax_goto hX dX11_agrees_56 (tgt := 2) (by decide) ?_
      exact ax_forget (L' := [some (.ref 105), some (.int v1), some (.int v2), some (.int (v3 + (1 : Int32)))]) (⟨rfl, ⟨rfl, ⟨rfl, ⟨rfl, trivial⟩⟩⟩⟩) hyp
    · replace hyp := hyp.2 c
      refine ax_aload_n hX dX11_agrees_19 (Or.inr ⟨_, rfl⟩) rfl ?_
      refine tx_getF hX fRX11_236 ly_105 (o := 44) (b := 149) fk_11_61 rfl (by decide) (Nat.lt_of_lt_of_le (by decide) hsz) dX11_agrees_20 ?_
      refine ax_iload_n hX dX11_agrees_23 rfl ?_
      refine tx_ial hX ly_149 (by decide) (Nat.lt_of_lt_of_le (by decide) hsz) hyp.1 dX11_agrees_24 ?_
      replace hyp := hyp.2
      refine ax_iload_n hX dX11_agrees_25 rfl ?_
      refine ax_icmp_ne hX dX11_agrees_26 (tgt := 33) (by decide) (fun c => ?_) (fun c => ?_)
      · replace hyp := hyp.1 c
        refine ax_iconst hX dX11_agrees_33 (v := 0) (by decide) ?_
        refine ax_iload_n hX dX11_agrees_34 rfl ?_
        refine ax_iload_n hX dX11_agrees_35 rfl ?_
        refine ax_ishr hX dX11_agrees_36 ?_
        refine ax_iconst hX dX11_agrees_37 (v := 1) (by decide) ?_
        refine ax_iand hX dX11_agrees_38 ?_
        refine ax_iconst hX dX11_agrees_39 (v := 1) (by decide) ?_
        refine ax_icmp_ne hX dX11_agrees_40 (tgt := 47) (by decide) (fun c => ?_) (fun c => ?_)
        · replace hyp := hyp.1 c
          refine ax_iconst hX dX11_agrees_47 (v := 0) (by decide) ?_
          refine ax_icmp_eq hX dX11_agrees_48 (tgt := 53) (by decide) (fun c => ?_) (fun c => ?_)
          rotate_left
          · exact absurd c (by decide)
          refine ax_iinc hX dX11_agrees_53 rfl (w := (v3 + (1 : Int32))) rfl (by decide) (L' := [some (.ref 105), some (.int v1), some (.int v2), some (.int (v3 + (1 : Int32)))]) rfl ?_
          refine ax_goto hX dX11_agrees_56 (tgt := 2) (by decide) ?_
          exact ax_forget (L' := [some (.ref 105), some (.int v1), some (.int v2), some (.int (v3 + (1 : Int32)))]) (⟨rfl, ⟨rfl, ⟨rfl, ⟨rfl, trivial⟩⟩⟩⟩) hyp
        · replace hyp := hyp.2 c
          refine ax_iconst hX dX11_agrees_43 (v := 1) (by decide) ?_
          refine ax_goto hX dX11_agrees_44 (tgt := 48) (by decide) ?_
          refine ax_icmp_eq hX dX11_agrees_48 (tgt := 53) (by decide) (fun c => ?_) (fun c => ?_)
          · exact absurd c (by decide)
          refine ax_iconst hX dX11_agrees_51 (v := 0) (by decide) ?_
          exact hR.1 _ _ _ _ _ _ (by decide) (by decide) dX11_agrees_52 ⟨_, rfl, rfl⟩ ⟨_, _, rfl, rfl, hyp⟩
      · replace hyp := hyp.2 c
        refine ax_iconst hX dX11_agrees_29 (v := 1) (by decide) ?_
        refine ax_goto hX dX11_agrees_30 (tgt := 34) (by decide) ?_
        refine ax_iload_n hX dX11_agrees_34 rfl ?_
        refine ax_iload_n hX dX11_agrees_35 rfl ?_
        refine ax_ishr hX dX11_agrees_36 ?_
        refine ax_iconst hX dX11_agrees_37 (v := 1) (by decide) ?_
        refine ax_iand hX dX11_agrees_38 ?_
        refine ax_iconst hX dX11_agrees_39 (v := 1) (by decide) ?_
        refine ax_icmp_ne hX dX11_agrees_40 (tgt := 47) (by decide) (fun c => ?_) (fun c => ?_)
        · replace hyp := hyp.1 c
          refine ax_iconst hX dX11_agrees_47 (v := 0) (by decide) ?_
          refine ax_icmp_eq hX dX11_agrees_48 (tgt := 53) (by decide) (fun c => ?_) (fun c => ?_)
          · exact absurd c (by decide)
          refine ax_iconst hX dX11_agrees_51 (v := 0) (by decide) ?_
          exact hR.1 _ _ _ _ _ _ (by decide) (by decide) dX11_agrees_52 ⟨_, rfl, rfl⟩ ⟨_, _, rfl, rfl, hyp⟩
        · replace hyp := hyp.2 c
          refine ax_iconst hX dX11_agrees_43 (v := 1) (by decide) ?_
          refine ax_goto hX dX11_agrees_44 (tgt := 48) (by decide) ?_
          refine ax_icmp_eq hX dX11_agrees_48 (tgt := 53) (by decide) (fun c => ?_) (fun c => ?_)
          rotate_left
          · exact absurd c (by decide)
          refine ax_iinc hX dX11_agrees_53 rfl (w := (v3 + (1 : Int32))) rfl (by decide) (L' := [some (.ref 105), some (.int v1), some (.int v2), some (.int (v3 + (1 : Int32)))]) rfl ?_
          refine ax_goto hX dX11_agrees_56 (tgt := 2) (by decide) ?_
          exact ax_forget (L' := [some (.ref 105), some (.int v1), some (.int v2), some (.int (v3 + (1 : Int32)))]) (⟨rfl, ⟨rfl, ⟨rfl, ⟨rfl, trivial⟩⟩⟩⟩) hyp
set_option maxRecDepth 10000 in
theorem s_X11_appeal_0 {X : ax_X} {d L sz : Nat} {T : tT} {Q : Int32 → tT → Prop} (hX : ax_ok X mX11_appeal (d + 1)) (hR : ax_Ret X mX11_appeal (ti L sz Q)) (hsz : 161 ≤ sz) (x0 : Int32) (x1 : Int32) (x2 : Int32) (hyp : ∃ Q1, tiK d mX11_known [.ref 105, .int x0, .int x1, .int (T.1 105 71)] L sz T Q1 ∧ ∀ (r1 : Int32) (T1 : tT), Q1 r1 T1 → (((0 ≤ r1 → ∃ Q1, tiK d mX11_tell [.ref 105, .int x0, .int (-1 : Int32), .int x1, .int x2] L sz T1 Q1 ∧ ∀ (r2 : Int32) (T2 : tT), Q1 r2 T2 → (Q r2 T2)) ∧ (¬ 0 ≤ r1 → Q (-1 : Int32) T1)))) : ax_j X 0 [some (.ref 105), some (.int x0), some (.int x1), some (.int x2)] [] (th L sz T) 0 0 := by
  refine ax_aload_n hX dX11_appeal_0 (Or.inr ⟨_, rfl⟩) rfl ?_
  refine ax_iload_n hX dX11_appeal_1 rfl ?_
  refine ax_iload_n hX dX11_appeal_2 rfl ?_
  refine ax_aload_n hX dX11_appeal_3 (Or.inr ⟨_, rfl⟩) rfl ?_
  refine tx_getI hX fRX11_438 ly_105 fk_11_71 (by decide) (Nat.lt_of_lt_of_le (by decide) hsz) dX11_appeal_4 ?_
  obtain ⟨Q1, hK, hyp⟩ := hyp
  refine ax_callV hX lRX11_445 im_X11_known sl_X11_known cw_X11_known ((th_at (by decide) (Nat.lt_of_lt_of_le (by decide) hsz)).trans (tc_ob ly_105)) rfl rfl (A := [.int x0, .int x1, .int (T.1 105 71)]) (st := []) rfl rfl (Nat.le_of_ble_eq_true rfl) (by decide) (by decide) dX11_appeal_7 hK ?_
  rintro _ _ ⟨r1, T1, rfl, rfl, hq⟩
  replace hyp := hyp r1 T1 hq
  refine ax_if_ge hX dX11_appeal_10 (tgt := 17) (by decide) (fun c => ?_) (fun c => ?_)
  · replace hyp := hyp.1 c
    refine ax_aload_n hX dX11_appeal_17 (Or.inr ⟨_, rfl⟩) rfl ?_
    refine ax_iload_n hX dX11_appeal_18 rfl ?_
    refine ax_iconst hX dX11_appeal_19 (v := -1) (by decide) ?_
    refine ax_iload_n hX dX11_appeal_20 rfl ?_
    refine ax_iload_n hX dX11_appeal_21 rfl ?_
    obtain ⟨Q1, hK, hyp⟩ := hyp
    refine ax_callV hX lRX11_442 im_X11_tell sl_X11_tell cw_X11_tell ((th_at (by decide) (Nat.lt_of_lt_of_le (by decide) hsz)).trans (tc_ob ly_105)) rfl rfl (A := [.int x0, .int (-1 : Int32), .int x1, .int x2]) (st := []) rfl rfl (Nat.le_of_ble_eq_true rfl) (by decide) (by decide) dX11_appeal_22 hK ?_
    rintro _ _ ⟨r2, T2, rfl, rfl, hq⟩
    replace hyp := hyp r2 T2 hq
    exact hR.1 _ _ _ _ _ _ (by decide) (by decide) dX11_appeal_25 ⟨_, rfl, rfl⟩ ⟨_, _, rfl, rfl, hyp⟩
  · replace hyp := hyp.2 c
    refine ax_iconst hX dX11_appeal_13 (v := -1) (by decide) ?_
    refine ax_goto hX dX11_appeal_14 (tgt := 25) (by decide) ?_
    exact hR.1 _ _ _ _ _ _ (by decide) (by decide) dX11_appeal_25 ⟨_, rfl, rfl⟩ ⟨_, _, rfl, rfl, hyp⟩
set_option maxRecDepth 10000 in
theorem s_X11_behind_0 {X : ax_X} {d L sz : Nat} {T : tT} {Q : Int32 → tT → Prop} (hX : ax_ok X mX11_behind (d + 1)) (hR : ax_Ret X mX11_behind (ti L sz Q)) (hsz : 161 ≤ sz)  (hyp : ∃ Q1, tiK d mX11_rankHere [.ref 105] L sz T Q1 ∧ ∀ (r1 : Int32) (T1 : tT), Q1 r1 T1 → (ax_j X 5 [some (.ref 105), some (.int r1), none] [] (th L sz T1) 0 0)) : ax_j X 0 [some (.ref 105), none, none] [] (th L sz T) 0 0 := by
  refine ax_aload_n hX dX11_behind_0 (Or.inr ⟨_, rfl⟩) rfl ?_
  obtain ⟨Q1, hK, hyp⟩ := hyp
  refine ax_callV hX lRX11_345 im_X11_rankHere sl_X11_rankHere cw_X11_rankHere ((th_at (by decide) (Nat.lt_of_lt_of_le (by decide) hsz)).trans (tc_ob ly_105)) rfl rfl (A := []) (st := []) rfl rfl (Nat.le_of_ble_eq_true rfl) (by decide) (by decide) dX11_behind_1 hK ?_
  rintro _ _ ⟨r1, T1, rfl, rfl, hq⟩
  replace hyp := hyp r1 T1 hq
  refine ax_istore_n hX dX11_behind_4 (by decide) (L' := [some (.ref 105), some (.int r1), none]) rfl ?_
  exact ax_forget (L' := [some (.ref 105), some (.int r1), none]) (⟨rfl, ⟨rfl, trivial⟩⟩) hyp
set_option maxRecDepth 10000 in
theorem s_X11_behind_5 {X : ax_X} {d L sz : Nat} {T : tT} {Q : Int32 → tT → Prop} (hX : ax_ok X mX11_behind (d + 1)) (hR : ax_Ret X mX11_behind (ti L sz Q)) (hsz : 161 ≤ sz) (v1 : Int32) (hyp : vp_in ((T.1 105 37) - (1 : Int32)) 80 ∧ (((5 : Int32) < (T.1 129 ((T.1 105 37) - (1 : Int32)).toNatClampNeg) → ax_j X 105 [some (.ref 105), some (.int v1), none] [] (th L sz T) 0 0) ∧ (¬ (5 : Int32) < (T.1 129 ((T.1 105 37) - (1 : Int32)).toNatClampNeg) → vp_in ((T.1 105 37) - (1 : Int32)) 80 ∧ (((T.1 129 ((T.1 105 37) - (1 : Int32)).toNatClampNeg) < v1 → ax_j X 105 [some (.ref 105), some (.int v1), none] [] (th L sz T) 0 0) ∧ (¬ (T.1 129 ((T.1 105 37) - (1 : Int32)).toNatClampNeg) < v1 → vp_in ((T.1 105 37) - (1 : Int32)) 80 ∧ ((¬ v1 = (4 : Int32) → ax_j X 63 [some (.ref 105), some (.int v1), some (.int (T.1 129 ((T.1 105 37) - (1 : Int32)).toNatClampNeg))] [] (th L sz T) 0 0) ∧ (v1 = (4 : Int32) → ((¬ (T.1 129 ((T.1 105 37) - (1 : Int32)).toNatClampNeg) = (4 : Int32) → ax_j X 63 [some (.ref 105), some (.int v1), some (.int (T.1 129 ((T.1 105 37) - (1 : Int32)).toNatClampNeg))] [] (th L sz T) 0 0) ∧ ((T.1 129 ((T.1 105 37) - (1 : Int32)).toNatClampNeg) = (4 : Int32) → ∃ Q1, tvK d mX11_wrong [.ref 105] L sz T Q1 ∧ ∀ (T1 : tT), Q1 T1 → (Q (2 : Int32) T1)))))))))) : ax_j X 5 [some (.ref 105), some (.int v1), none] [] (th L sz T) 0 0 := by
  refine ax_aload_n hX dX11_behind_5 (Or.inr ⟨_, rfl⟩) rfl ?_
  refine tx_getF hX fRX11_176 ly_105 (o := 24) (b := 129) fk_11_35 rfl (by decide) (Nat.lt_of_lt_of_le (by decide) hsz) dX11_behind_6 ?_
  refine ax_aload_n hX dX11_behind_9 (Or.inr ⟨_, rfl⟩) rfl ?_
  refine tx_getI hX fRX11_322 ly_105 fk_11_37 (by decide) (Nat.lt_of_lt_of_le (by decide) hsz) dX11_behind_10 ?_
  refine ax_iconst hX dX11_behind_13 (v := 1) (by decide) ?_
  refine ax_isub hX dX11_behind_14 ?_
  refine tx_ial hX ly_129 (by decide) (Nat.lt_of_lt_of_le (by decide) hsz) hyp.1 dX11_behind_15 ?_
  replace hyp := hyp.2
  refine ax_iconst hX dX11_behind_16 (v := 5) (by decide) ?_
  refine ax_icmp_gt hX dX11_behind_17 (tgt := 105) (by decide) (fun c => ?_) (fun c => ?_)
  · replace hyp := hyp.1 c
    exact ax_forget (L' := [some (.ref 105), some (.int v1), none]) (⟨rfl, ⟨rfl, trivial⟩⟩) hyp
  · replace hyp := hyp.2 c
    refine ax_aload_n hX dX11_behind_20 (Or.inr ⟨_, rfl⟩) rfl ?_
    refine tx_getF hX fRX11_176 ly_105 (o := 24) (b := 129) fk_11_35 rfl (by decide) (Nat.lt_of_lt_of_le (by decide) hsz) dX11_behind_21 ?_
    refine ax_aload_n hX dX11_behind_24 (Or.inr ⟨_, rfl⟩) rfl ?_
    refine tx_getI hX fRX11_322 ly_105 fk_11_37 (by decide) (Nat.lt_of_lt_of_le (by decide) hsz) dX11_behind_25 ?_
    refine ax_iconst hX dX11_behind_28 (v := 1) (by decide) ?_
    refine ax_isub hX dX11_behind_29 ?_
    refine tx_ial hX ly_129 (by decide) (Nat.lt_of_lt_of_le (by decide) hsz) hyp.1 dX11_behind_30 ?_
    replace hyp := hyp.2
    refine ax_iload_n hX dX11_behind_31 rfl ?_
    refine ax_icmp_lt hX dX11_behind_32 (tgt := 105) (by decide) (fun c => ?_) (fun c => ?_)
    · replace hyp := hyp.1 c
      exact ax_forget (L' := [some (.ref 105), some (.int v1), none]) (⟨rfl, ⟨rfl, trivial⟩⟩) hyp
    · replace hyp := hyp.2 c
      refine ax_aload_n hX dX11_behind_35 (Or.inr ⟨_, rfl⟩) rfl ?_
      refine tx_getF hX fRX11_176 ly_105 (o := 24) (b := 129) fk_11_35 rfl (by decide) (Nat.lt_of_lt_of_le (by decide) hsz) dX11_behind_36 ?_
      refine ax_aload_n hX dX11_behind_39 (Or.inr ⟨_, rfl⟩) rfl ?_
      refine tx_getI hX fRX11_322 ly_105 fk_11_37 (by decide) (Nat.lt_of_lt_of_le (by decide) hsz) dX11_behind_40 ?_
      refine ax_iconst hX dX11_behind_43 (v := 1) (by decide) ?_
      refine ax_isub hX dX11_behind_44 ?_
      refine tx_ial hX ly_129 (by decide) (Nat.lt_of_lt_of_le (by decide) hsz) hyp.1 dX11_behind_45 ?_
      replace hyp := hyp.2
      refine ax_istore_n hX dX11_behind_46 (by decide) (L' := [some (.ref 105), some (.int v1), some (.int (T.1 129 ((T.1 105 37) - (1 : Int32)).toNatClampNeg))]) rfl ?_
      refine ax_iload_n hX dX11_behind_47 rfl ?_
      refine ax_iconst hX dX11_behind_48 (v := 4) (by decide) ?_
      refine ax_icmp_ne hX dX11_behind_49 (tgt := 63) (by decide) (fun c => ?_) (fun c => ?_)
      · replace hyp := hyp.1 c
        exact ax_forget (L' := [some (.ref 105), some (.int v1), some (.int (T.1 129 ((T.1 105 37) - (1 : Int32)).toNatClampNeg))]) (⟨rfl, ⟨rfl, ⟨rfl, trivial⟩⟩⟩) hyp
      · replace hyp := hyp.2 c
        refine ax_iload_n hX dX11_behind_52 rfl ?_
        refine ax_iconst hX dX11_behind_53 (v := 4) (by decide) ?_
        refine ax_icmp_ne hX dX11_behind_54 (tgt := 63) (by decide) (fun c => ?_) (fun c => ?_)
        · replace hyp := hyp.1 c
          exact ax_forget (L' := [some (.ref 105), some (.int v1), some (.int (T.1 129 ((T.1 105 37) - (1 : Int32)).toNatClampNeg))]) (⟨rfl, ⟨rfl, ⟨rfl, trivial⟩⟩⟩) hyp
        · replace hyp := hyp.2 c
          refine ax_aload_n hX dX11_behind_57 (Or.inr ⟨_, rfl⟩) rfl ?_
          obtain ⟨Q1, hK, hyp⟩ := hyp
          refine ax_callV hX lRX11_92 im_X11_wrong sl_X11_wrong cw_X11_wrong ((th_at (by decide) (Nat.lt_of_lt_of_le (by decide) hsz)).trans (tc_ob ly_105)) rfl rfl (A := []) (st := []) rfl rfl (Nat.le_of_ble_eq_true rfl) (by decide) (by decide) dX11_behind_58 hK ?_
          rintro _ _ ⟨T1, rfl, rfl, hq⟩
          replace hyp := hyp T1 hq
          refine ax_iconst hX dX11_behind_61 (v := 2) (by decide) ?_
          exact hR.1 _ _ _ _ _ _ (by decide) (by decide) dX11_behind_62 ⟨_, rfl, rfl⟩ ⟨_, _, rfl, rfl, hyp⟩
set_option maxRecDepth 10000 in
theorem s_X11_behind_105 {X : ax_X} {d L sz : Nat} {T : tT} {Q : Int32 → tT → Prop} (hX : ax_ok X mX11_behind (d + 1)) (hR : ax_Ret X mX11_behind (ti L sz Q)) (hsz : 161 ≤ sz) (v1 : Int32) (hyp : ((v1 ≤ 0 → vp_in ((T.1 105 37) - (1 : Int32)) 80 ∧ ((¬ (T.1 129 ((T.1 105 37) - (1 : Int32)).toNatClampNeg) = (6 : Int32) → Q (2 : Int32) (tI T 105 37 ((T.1 105 37) - (1 : Int32)))) ∧ ((T.1 129 ((T.1 105 37) - (1 : Int32)).toNatClampNeg) = (6 : Int32) → ∃ Q1, tvK d mX11_must [.ref 105, .int (41 : Int32)] L sz (tI (tI T 105 37 ((T.1 105 37) - (1 : Int32))) 105 38 ((T.1 105 38) - (1 : Int32))) Q1 ∧ ∀ (T1 : tT), Q1 T1 → (Q (2 : Int32) T1)))) ∧ (¬ v1 ≤ 0 → ((¬ v1 = (1 : Int32) → ((¬ v1 = (2 : Int32) → ∃ Q1, tiK d mX11_sign [.ref 105, .int (T.1 105 6)] L sz T Q1 ∧ ∀ (r2 : Int32) (T2 : tT), Q1 r2 T2 → (ax_j X 139 [some (.ref 105), some (.int v1), none] [.int r2, .int v1, .ref 105] (th L sz T2) 0 0)) ∧ (v1 = (2 : Int32) → ax_j X 139 [some (.ref 105), some (.int v1), none] [.int (38 : Int32), .int v1, .ref 105] (th L sz T) 0 0))) ∧ (v1 = (1 : Int32) → ax_j X 139 [some (.ref 105), some (.int v1), none] [.int (124 : Int32), .int v1, .ref 105] (th L sz T) 0 0))))) : ax_j X 105 [some (.ref 105), some (.int v1), none] [] (th L sz T) 0 0 := by
  refine ax_iload_n hX dX11_behind_105 rfl ?_
  refine ax_if_le hX dX11_behind_106 (tgt := 157) (by decide) (fun c => ?_) (fun c => ?_)
  · replace hyp := hyp.1 c
    refine ax_aload_n hX dX11_behind_157 (Or.inr ⟨_, rfl⟩) rfl ?_
    refine ax_dup hX dX11_behind_158 rfl ?_
    refine tx_getI hX fRX11_322 ly_105 fk_11_37 (by decide) (Nat.lt_of_lt_of_le (by decide) hsz) dX11_behind_159 ?_
    refine ax_iconst hX dX11_behind_162 (v := 1) (by decide) ?_
    refine ax_isub hX dX11_behind_163 ?_
    refine tx_putI hX fRX11_322 ly_105 fk_11_37 (by decide) (Nat.lt_of_lt_of_le (by decide) hsz) rfl rfl dX11_behind_164 ?_
    refine ax_aload_n hX dX11_behind_167 (Or.inr ⟨_, rfl⟩) rfl ?_
    refine tx_getF hX fRX11_176 ly_105 (o := 24) (b := 129) fk_11_35 rfl (by decide) (Nat.lt_of_lt_of_le (by decide) hsz) dX11_behind_168 ?_
    refine ax_aload_n hX dX11_behind_171 (Or.inr ⟨_, rfl⟩) rfl ?_
    refine tx_getI hX fRX11_322 ly_105 fk_11_37 (by decide) (Nat.lt_of_lt_of_le (by decide) hsz) dX11_behind_172 ?_
    refine tx_ial hX ly_129 (by decide) (Nat.lt_of_lt_of_le (by decide) hsz) hyp.1 dX11_behind_175 ?_
    replace hyp := hyp.2
    refine ax_bipush hX dX11_behind_176 (v := 6) (by decide) ?_
    refine ax_icmp_ne hX dX11_behind_178 (tgt := 197) (by decide) (fun c => ?_) (fun c => ?_)
    · replace hyp := hyp.1 c
      refine ax_iconst hX dX11_behind_197 (v := 2) (by decide) ?_
      exact hR.1 _ _ _ _ _ _ (by decide) (by decide) dX11_behind_198 ⟨_, rfl, rfl⟩ ⟨_, _, rfl, rfl, hyp⟩
    · replace hyp := hyp.2 c
      refine ax_aload_n hX dX11_behind_181 (Or.inr ⟨_, rfl⟩) rfl ?_
      refine ax_dup hX dX11_behind_182 rfl ?_
      refine tx_getI hX fRX11_325 ly_105 fk_11_38 (by decide) (Nat.lt_of_lt_of_le (by decide) hsz) dX11_behind_183 ?_
      refine ax_iconst hX dX11_behind_186 (v := 1) (by decide) ?_
      refine ax_isub hX dX11_behind_187 ?_
      refine tx_putI hX fRX11_325 ly_105 fk_11_38 (by decide) (Nat.lt_of_lt_of_le (by decide) hsz) rfl rfl dX11_behind_188 ?_
      refine ax_aload_n hX dX11_behind_191 (Or.inr ⟨_, rfl⟩) rfl ?_
      refine ax_bipush hX dX11_behind_192 (v := 41) (by decide) ?_
      obtain ⟨Q1, hK, hyp⟩ := hyp
      refine ax_callV hX lRX11_291 im_X11_must sl_X11_must cw_X11_must ((th_at (by decide) (Nat.lt_of_lt_of_le (by decide) hsz)).trans (tc_ob ly_105)) rfl rfl (A := [.int (41 : Int32)]) (st := []) rfl rfl (Nat.le_of_ble_eq_true rfl) (by decide) (by decide) dX11_behind_194 hK ?_
      rintro _ _ ⟨T1, rfl, rfl, hq⟩
      replace hyp := hyp T1 hq
      refine ax_iconst hX dX11_behind_197 (v := 2) (by decide) ?_
      exact hR.1 _ _ _ _ _ _ (by decide) (by decide) dX11_behind_198 ⟨_, rfl, rfl⟩ ⟨_, _, rfl, rfl, hyp⟩
  · replace hyp := hyp.2 c
    refine ax_aload_n hX dX11_behind_109 (Or.inr ⟨_, rfl⟩) rfl ?_
    refine ax_iload_n hX dX11_behind_110 rfl ?_
    refine ax_iload_n hX dX11_behind_111 rfl ?_
    refine ax_iconst hX dX11_behind_112 (v := 1) (by decide) ?_
    refine ax_icmp_ne hX dX11_behind_113 (tgt := 121) (by decide) (fun c => ?_) (fun c => ?_)
    · replace hyp := hyp.1 c
      refine ax_iload_n hX dX11_behind_121 rfl ?_
      refine ax_iconst hX dX11_behind_122 (v := 2) (by decide) ?_
      refine ax_icmp_ne hX dX11_behind_123 (tgt := 131) (by decide) (fun c => ?_) (fun c => ?_)
      · replace hyp := hyp.1 c
        refine ax_aload_n hX dX11_behind_131 (Or.inr ⟨_, rfl⟩) rfl ?_
        refine ax_aload_n hX dX11_behind_132 (Or.inr ⟨_, rfl⟩) rfl ?_
        refine tx_getI hX fRX11_54 ly_105 fk_11_6 (by decide) (Nat.lt_of_lt_of_le (by decide) hsz) dX11_behind_133 ?_
        obtain ⟨Q1, hK, hyp⟩ := hyp
        refine ax_callV hX lRX11_57 im_X11_sign sl_X11_sign cw_X11_sign ((th_at (by decide) (Nat.lt_of_lt_of_le (by decide) hsz)).trans (tc_ob ly_105)) rfl rfl (A := [.int (T.1 105 6)]) (st := [.int v1, .ref 105]) rfl rfl (Nat.le_of_ble_eq_true rfl) (by decide) (by decide) dX11_behind_136 hK ?_
        rintro _ _ ⟨r2, T2, rfl, rfl, hq⟩
        replace hyp := hyp r2 T2 hq
        exact ax_forget (L' := [some (.ref 105), some (.int v1), none]) (⟨rfl, ⟨rfl, trivial⟩⟩) hyp
      · replace hyp := hyp.2 c
        refine ax_bipush hX dX11_behind_126 (v := 38) (by decide) ?_
        refine ax_goto hX dX11_behind_128 (tgt := 139) (by decide) ?_
        exact ax_forget (L' := [some (.ref 105), some (.int v1), none]) (⟨rfl, ⟨rfl, trivial⟩⟩) hyp
    · replace hyp := hyp.2 c
      refine ax_bipush hX dX11_behind_116 (v := 124) (by decide) ?_
      refine ax_goto hX dX11_behind_118 (tgt := 139) (by decide) ?_
      exact ax_forget (L' := [some (.ref 105), some (.int v1), none]) (⟨rfl, ⟨rfl, trivial⟩⟩) hyp
set_option maxRecDepth 10000 in
theorem s_X11_behind_63 {X : ax_X} {d L sz : Nat} {T : tT} {Q : Int32 → tT → Prop} (hX : ax_ok X mX11_behind (d + 1)) (hR : ax_Ret X mX11_behind (ti L sz Q)) (hsz : 161 ≤ sz) (v1 : Int32) (v2 : Int32) (hyp : ((¬ v2 = (3 : Int32) → ax_j X 88 [some (.ref 105), some (.int v1), none] [] (th L sz (tI T 105 37 ((T.1 105 37) - (1 : Int32)))) 0 0) ∧ (v2 = (3 : Int32) → ax_j X 88 [some (.ref 105), some (.int v1), none] [] (th L sz (tI (tI T 105 37 ((T.1 105 37) - (1 : Int32))) 105 38 ((T.1 105 38) - (1 : Int32)))) 0 0))) : ax_j X 63 [some (.ref 105), some (.int v1), some (.int v2)] [] (th L sz T) 0 0 := by
  refine ax_aload_n hX dX11_behind_63 (Or.inr ⟨_, rfl⟩) rfl ?_
  refine ax_dup hX dX11_behind_64 rfl ?_
  refine tx_getI hX fRX11_322 ly_105 fk_11_37 (by decide) (Nat.lt_of_lt_of_le (by decide) hsz) dX11_behind_65 ?_
  refine ax_iconst hX dX11_behind_68 (v := 1) (by decide) ?_
  refine ax_isub hX dX11_behind_69 ?_
  refine tx_putI hX fRX11_322 ly_105 fk_11_37 (by decide) (Nat.lt_of_lt_of_le (by decide) hsz) rfl rfl dX11_behind_70 ?_
  refine ax_iload_n hX dX11_behind_73 rfl ?_
  refine ax_iconst hX dX11_behind_74 (v := 3) (by decide) ?_
  refine ax_icmp_ne hX dX11_behind_75 (tgt := 88) (by decide) (fun c => ?_) (fun c => ?_)
  · replace hyp := hyp.1 c
    exact ax_forget (L' := [some (.ref 105), some (.int v1), none]) (⟨rfl, ⟨rfl, trivial⟩⟩) hyp
  · replace hyp := hyp.2 c
    refine ax_aload_n hX dX11_behind_78 (Or.inr ⟨_, rfl⟩) rfl ?_
    refine ax_dup hX dX11_behind_79 rfl ?_
    refine tx_getI hX fRX11_325 ly_105 fk_11_38 (by decide) (Nat.lt_of_lt_of_le (by decide) hsz) dX11_behind_80 ?_
    refine ax_iconst hX dX11_behind_83 (v := 1) (by decide) ?_
    refine ax_isub hX dX11_behind_84 ?_
    refine tx_putI hX fRX11_325 ly_105 fk_11_38 (by decide) (Nat.lt_of_lt_of_le (by decide) hsz) rfl rfl dX11_behind_85 ?_
    exact ax_forget (L' := [some (.ref 105), some (.int v1), none]) (⟨rfl, ⟨rfl, trivial⟩⟩) hyp
set_option maxRecDepth 10000 in
theorem s_X11_behind_139 {X : ax_X} {d L sz : Nat} {T : tT} {Q : Int32 → tT → Prop} (hX : ax_ok X mX11_behind (d + 1)) (hR : ax_Ret X mX11_behind (ti L sz Q)) (hsz : 161 ≤ sz) (v1 : Int32) (w0 : Int32) (w1 : Int32) (hyp : ∃ Q1, tvK d mX11_pile [.ref 105, .int w1, .int w0] L sz T Q1 ∧ ∀ (T1 : tT), Q1 T1 → (∃ Q1, tvK d mX11_next [.ref 105] L sz T1 Q1 ∧ ∀ (T2 : tT), Q1 T2 → ((((3 : Int32) ≤ v1 → Q (1 : Int32) T2) ∧ (¬ (3 : Int32) ≤ v1 → Q (0 : Int32) T2))))) : ax_j X 139 [some (.ref 105), some (.int v1), none] [.int w0, .int w1, .ref 105] (th L sz T) 0 0 := by
  obtain ⟨Q1, hK, hyp⟩ := hyp
  refine ax_callV hX lRX11_328 im_X11_pile sl_X11_pile cw_X11_pile ((th_at (by decide) (Nat.lt_of_lt_of_le (by decide) hsz)).trans (tc_ob ly_105)) rfl rfl (A := [.int w1, .int w0]) (st := []) rfl rfl (Nat.le_of_ble_eq_true rfl) (by decide) (by decide) dX11_behind_139 hK ?_
  rintro _ _ ⟨T1, rfl, rfl, hq⟩
  replace hyp := hyp T1 hq
  refine ax_aload_n hX dX11_behind_142 (Or.inr ⟨_, rfl⟩) rfl ?_
  obtain ⟨Q1, hK, hyp⟩ := hyp
  refine ax_callV hX lRX11_88 im_X11_next sl_X11_next cw_X11_next ((th_at (by decide) (Nat.lt_of_lt_of_le (by decide) hsz)).trans (tc_ob ly_105)) rfl rfl (A := []) (st := []) rfl rfl (Nat.le_of_ble_eq_true rfl) (by decide) (by decide) dX11_behind_143 hK ?_
  rintro _ _ ⟨T2, rfl, rfl, hq⟩
  replace hyp := hyp T2 hq
  refine ax_iload_n hX dX11_behind_146 rfl ?_
  refine ax_iconst hX dX11_behind_147 (v := 3) (by decide) ?_
  refine ax_icmp_ge hX dX11_behind_148 (tgt := 155) (by decide) (fun c => ?_) (fun c => ?_)
  · replace hyp := hyp.1 c
    refine ax_iconst hX dX11_behind_155 (v := 1) (by decide) ?_
    exact hR.1 _ _ _ _ _ _ (by decide) (by decide) dX11_behind_156 ⟨_, rfl, rfl⟩ ⟨_, _, rfl, rfl, hyp⟩
  · replace hyp := hyp.2 c
    refine ax_iconst hX dX11_behind_151 (v := 0) (by decide) ?_
    refine ax_goto hX dX11_behind_152 (tgt := 156) (by decide) ?_
    exact hR.1 _ _ _ _ _ _ (by decide) (by decide) dX11_behind_156 ⟨_, rfl, rfl⟩ ⟨_, _, rfl, rfl, hyp⟩
set_option maxRecDepth 10000 in
theorem s_X11_behind_88 {X : ax_X} {d L sz : Nat} {T : tT} {Q : Int32 → tT → Prop} (hX : ax_ok X mX11_behind (d + 1)) (hR : ax_Ret X mX11_behind (ti L sz Q)) (hsz : 161 ≤ sz) (v1 : Int32) (hyp : vp_in (T.1 105 37) 80 ∧ ∃ Q1, tvK d mX11_step [.ref 105, .int (T.1 130 (T.1 105 37).toNatClampNeg), .int (0 : Int32)] L sz T Q1 ∧ ∀ (T1 : tT), Q1 T1 → (ax_j X 5 [some (.ref 105), some (.int v1), none] [] (th L sz T1) 0 0)) : ax_j X 88 [some (.ref 105), some (.int v1), none] [] (th L sz T) 0 0 := by
  refine ax_aload_n hX dX11_behind_88 (Or.inr ⟨_, rfl⟩) rfl ?_
  refine ax_aload_n hX dX11_behind_89 (Or.inr ⟨_, rfl⟩) rfl ?_
  refine tx_getF hX fRX11_179 ly_105 (o := 25) (b := 130) fk_11_36 rfl (by decide) (Nat.lt_of_lt_of_le (by decide) hsz) dX11_behind_90 ?_
  refine ax_aload_n hX dX11_behind_93 (Or.inr ⟨_, rfl⟩) rfl ?_
  refine tx_getI hX fRX11_322 ly_105 fk_11_37 (by decide) (Nat.lt_of_lt_of_le (by decide) hsz) dX11_behind_94 ?_
  refine tx_ial hX ly_130 (by decide) (Nat.lt_of_lt_of_le (by decide) hsz) hyp.1 dX11_behind_97 ?_
  replace hyp := hyp.2
  refine ax_iconst hX dX11_behind_98 (v := 0) (by decide) ?_
  obtain ⟨Q1, hK, hyp⟩ := hyp
  refine ax_callV hX lRX11_342 im_X11_step sl_X11_step cw_X11_step ((th_at (by decide) (Nat.lt_of_lt_of_le (by decide) hsz)).trans (tc_ob ly_105)) rfl rfl (A := [.int (T.1 130 (T.1 105 37).toNatClampNeg), .int (0 : Int32)]) (st := []) rfl rfl (Nat.le_of_ble_eq_true rfl) (by decide) (by decide) dX11_behind_99 hK ?_
  rintro _ _ ⟨T1, rfl, rfl, hq⟩
  replace hyp := hyp T1 hq
  refine ax_goto hX dX11_behind_102 (tgt := 5) (by decide) ?_
  exact ax_forget (L' := [some (.ref 105), some (.int v1), none]) (⟨rfl, ⟨rfl, trivial⟩⟩) hyp
set_option maxRecDepth 10000 in
theorem s_X11_canName_0 {X : ax_X} {d L sz : Nat} {T : tT} {Q : Int32 → tT → Prop} (hX : ax_ok X mX11_canName (d + 1)) (hR : ax_Ret X mX11_canName (ti L sz Q)) (hsz : 161 ≤ sz) (x0 : Int32) (hyp : (((T.1 105 8) = (2 : Int32) → ∃ Q1, tiK d mX11_isGood [.ref 105] L sz T Q1 ∧ ∀ (r1 : Int32) (T1 : tT), Q1 r1 T1 → (((r1 = 0 → ∃ Q1, tiK d mX11_isGood [.ref 105] L sz T1 Q1 ∧ ∀ (r2 : Int32) (T2 : tT), Q1 r2 T2 → ((r2 &&& 1 = r2) ∧ Q r2 T2)) ∧ (¬ r1 = 0 → ∃ Q1, tiK d mX11_listOf [.ref 105, .int x0, .long (T1.2.1 105 10)] L sz T1 Q1 ∧ ∀ (r3 : Int32) (T3 : tT), Q1 r3 T3 → (((0 ≤ r3 → ∃ Q1, tvK d mX11_fails [.ref 105, .int (3 : Int32), .int (T3.1 105 6)] L sz T3 Q1 ∧ ∀ (T4 : tT), Q1 T4 → (∃ Q1, tiK d mX11_isGood [.ref 105] L sz T4 Q1 ∧ ∀ (r5 : Int32) (T5 : tT), Q1 r5 T5 → ((r5 &&& 1 = r5) ∧ Q r5 T5))) ∧ (¬ 0 ≤ r3 → ∃ Q1, tiK d mX11_partOf [.ref 105, .int x0, .long (T3.2.1 105 10)] L sz T3 Q1 ∧ ∀ (r6 : Int32) (T6 : tT), Q1 r6 T6 → (((r6 < 0 → ∃ Q1, tiK d mX11_isGood [.ref 105] L sz T6 Q1 ∧ ∀ (r7 : Int32) (T7 : tT), Q1 r7 T7 → ((r7 &&& 1 = r7) ∧ Q r7 T7)) ∧ (¬ r6 < 0 → ∃ Q1, tvK d mX11_fails [.ref 105, .int (3 : Int32), .int (T6.1 105 6)] L sz T6 Q1 ∧ ∀ (T8 : tT), Q1 T8 → (∃ Q1, tiK d mX11_isGood [.ref 105] L sz T8 Q1 ∧ ∀ (r9 : Int32) (T9 : tT), Q1 r9 T9 → ((r9 &&& 1 = r9) ∧ Q r9 T9)))))))))))) ∧ (¬ (T.1 105 8) = (2 : Int32) → ∃ Q1, tvK d mX11_wrong [.ref 105] L sz T Q1 ∧ ∀ (T10 : tT), Q1 T10 → (∃ Q1, tiK d mX11_isGood [.ref 105] L sz T10 Q1 ∧ ∀ (r11 : Int32) (T11 : tT), Q1 r11 T11 → (((r11 = 0 → ∃ Q1, tiK d mX11_isGood [.ref 105] L sz T11 Q1 ∧ ∀ (r12 : Int32) (T12 : tT), Q1 r12 T12 → ((r12 &&& 1 = r12) ∧ Q r12 T12)) ∧ (¬ r11 = 0 → ∃ Q1, tiK d mX11_listOf [.ref 105, .int x0, .long (T11.2.1 105 10)] L sz T11 Q1 ∧ ∀ (r13 : Int32) (T13 : tT), Q1 r13 T13 → (((0 ≤ r13 → ∃ Q1, tvK d mX11_fails [.ref 105, .int (3 : Int32), .int (T13.1 105 6)] L sz T13 Q1 ∧ ∀ (T14 : tT), Q1 T14 → (∃ Q1, tiK d mX11_isGood [.ref 105] L sz T14 Q1 ∧ ∀ (r15 : Int32) (T15 : tT), Q1 r15 T15 → ((r15 &&& 1 = r15) ∧ Q r15 T15))) ∧ (¬ 0 ≤ r13 → ∃ Q1, tiK d mX11_partOf [.ref 105, .int x0, .long (T13.2.1 105 10)] L sz T13 Q1 ∧ ∀ (r16 : Int32) (T16 : tT), Q1 r16 T16 → (((r16 < 0 → ∃ Q1, tiK d mX11_isGood [.ref 105] L sz T16 Q1 ∧ ∀ (r17 : Int32) (T17 : tT), Q1 r17 T17 → ((r17 &&& 1 = r17) ∧ Q r17 T17)) ∧ (¬ r16 < 0 → ∃ Q1, tvK d mX11_fails [.ref 105, .int (3 : Int32), .int (T16.1 105 6)] L sz T16 Q1 ∧ ∀ (T18 : tT), Q1 T18 → (∃ Q1, tiK d mX11_isGood [.ref 105] L sz T18 Q1 ∧ ∀ (r19 : Int32) (T19 : tT), Q1 r19 T19 → ((r19 &&& 1 = r19) ∧ Q r19 T19))))))))))))))) : ax_j X 0 [some (.ref 105), some (.int x0)] [] (th L sz T) 0 0 := by
  refine ax_aload_n hX dX11_canName_0 (Or.inr ⟨_, rfl⟩) rfl ?_
  refine tx_getI hX fRX11_61 ly_105 fk_11_8 (by decide) (Nat.lt_of_lt_of_le (by decide) hsz) dX11_canName_1 ?_
  refine ax_iconst hX dX11_canName_4 (v := 2) (by decide) ?_
  refine ax_icmp_eq hX dX11_canName_5 (tgt := 12) (by decide) (fun c => ?_) (fun c => ?_)
  · replace hyp := hyp.1 c
    refine ax_aload_n hX dX11_canName_12 (Or.inr ⟨_, rfl⟩) rfl ?_
    obtain ⟨Q1, hK, hyp⟩ := hyp
    refine ax_callV hX lRX11_95 im_X11_isGood sl_X11_isGood cw_X11_isGood ((th_at (by decide) (Nat.lt_of_lt_of_le (by decide) hsz)).trans (tc_ob ly_105)) rfl rfl (A := []) (st := []) rfl rfl (Nat.le_of_ble_eq_true rfl) (by decide) (by decide) dX11_canName_13 hK ?_
    rintro _ _ ⟨r1, T1, rfl, rfl, hq⟩
    replace hyp := hyp r1 T1 hq
    refine ax_if_eq hX dX11_canName_16 (tgt := 52) (by decide) (fun c => ?_) (fun c => ?_)
    · replace hyp := hyp.1 c
      refine ax_aload_n hX dX11_canName_52 (Or.inr ⟨_, rfl⟩) rfl ?_
      obtain ⟨Q1, hK, hyp⟩ := hyp
      refine ax_callV hX lRX11_95 im_X11_isGood sl_X11_isGood cw_X11_isGood ((th_at (by decide) (Nat.lt_of_lt_of_le (by decide) hsz)).trans (tc_ob ly_105)) rfl rfl (A := []) (st := []) rfl rfl (Nat.le_of_ble_eq_true rfl) (by decide) (by decide) dX11_canName_53 hK ?_
      rintro _ _ ⟨r2, T2, rfl, rfl, hq⟩
      replace hyp := hyp r2 T2 hq
      exact hR.1 _ _ _ _ _ _ (by decide) (by decide) dX11_canName_56 ⟨_, rfl, congrArg Value.int hyp.1⟩ ⟨_, _, rfl, rfl, hyp.2⟩
    · replace hyp := hyp.2 c
      refine ax_aload_n hX dX11_canName_19 (Or.inr ⟨_, rfl⟩) rfl ?_
      refine ax_iload_n hX dX11_canName_20 rfl ?_
      refine ax_aload_n hX dX11_canName_21 (Or.inr ⟨_, rfl⟩) rfl ?_
      refine tx_getJ hX fRX11_71 ly_105 fk_11_10 (by decide) (Nat.lt_of_lt_of_le (by decide) hsz) dX11_canName_22 ?_
      obtain ⟨Q1, hK, hyp⟩ := hyp
      refine ax_callV hX lRX11_308 im_X11_listOf sl_X11_listOf cw_X11_listOf ((th_at (by decide) (Nat.lt_of_lt_of_le (by decide) hsz)).trans (tc_ob ly_105)) rfl rfl (A := [.int x0, .long (T1.2.1 105 10)]) (st := []) rfl rfl (Nat.le_of_ble_eq_true rfl) (by decide) (by decide) dX11_canName_25 hK ?_
      rintro _ _ ⟨r3, T3, rfl, rfl, hq⟩
      replace hyp := hyp r3 T3 hq
      refine ax_if_ge hX dX11_canName_28 (tgt := 43) (by decide) (fun c => ?_) (fun c => ?_)
      · replace hyp := hyp.1 c
        refine ax_aload_n hX dX11_canName_43 (Or.inr ⟨_, rfl⟩) rfl ?_
        refine ax_iconst hX dX11_canName_44 (v := 3) (by decide) ?_
        refine ax_aload_n hX dX11_canName_45 (Or.inr ⟨_, rfl⟩) rfl ?_
        refine tx_getI hX fRX11_54 ly_105 fk_11_6 (by decide) (Nat.lt_of_lt_of_le (by decide) hsz) dX11_canName_46 ?_
        obtain ⟨Q1, hK, hyp⟩ := hyp
        refine ax_callV hX lRX11_81 im_X11_fails sl_X11_fails cw_X11_fails ((th_at (by decide) (Nat.lt_of_lt_of_le (by decide) hsz)).trans (tc_ob ly_105)) rfl rfl (A := [.int (3 : Int32), .int (T3.1 105 6)]) (st := []) rfl rfl (Nat.le_of_ble_eq_true rfl) (by decide) (by decide) dX11_canName_49 hK ?_
        rintro _ _ ⟨T4, rfl, rfl, hq⟩
        replace hyp := hyp T4 hq
        refine ax_aload_n hX dX11_canName_52 (Or.inr ⟨_, rfl⟩) rfl ?_
        obtain ⟨Q1, hK, hyp⟩ := hyp
        refine ax_callV hX lRX11_95 im_X11_isGood sl_X11_isGood cw_X11_isGood ((th_at (by decide) (Nat.lt_of_lt_of_le (by decide) hsz)).trans (tc_ob ly_105)) rfl rfl (A := []) (st := []) rfl rfl (Nat.le_of_ble_eq_true rfl) (by decide) (by decide) dX11_canName_53 hK ?_
        rintro _ _ ⟨r5, T5, rfl, rfl, hq⟩
        replace hyp := hyp r5 T5 hq
        exact hR.1 _ _ _ _ _ _ (by decide) (by decide) dX11_canName_56 ⟨_, rfl, congrArg Value.int hyp.1⟩ ⟨_, _, rfl, rfl, hyp.2⟩
      · replace hyp := hyp.2 c
        refine ax_aload_n hX dX11_canName_31 (Or.inr ⟨_, rfl⟩) rfl ?_
        refine ax_iload_n hX dX11_canName_32 rfl ?_
        refine ax_aload_n hX dX11_canName_33 (Or.inr ⟨_, rfl⟩) rfl ?_
        refine tx_getJ hX fRX11_71 ly_105 fk_11_10 (by decide) (Nat.lt_of_lt_of_le (by decide) hsz) dX11_canName_34 ?_
        obtain ⟨Q1, hK, hyp⟩ := hyp
        refine ax_callV hX lRX11_312 im_X11_partOf sl_X11_partOf cw_X11_partOf ((th_at (by decide) (Nat.lt_of_lt_of_le (by decide) hsz)).trans (tc_ob ly_105)) rfl rfl (A := [.int x0, .long (T3.2.1 105 10)]) (st := []) rfl rfl (Nat.le_of_ble_eq_true rfl) (by decide) (by decide) dX11_canName_37 hK ?_
        rintro _ _ ⟨r6, T6, rfl, rfl, hq⟩
        replace hyp := hyp r6 T6 hq
        refine ax_if_lt hX dX11_canName_40 (tgt := 52) (by decide) (fun c => ?_) (fun c => ?_)
        · replace hyp := hyp.1 c
          refine ax_aload_n hX dX11_canName_52 (Or.inr ⟨_, rfl⟩) rfl ?_
          obtain ⟨Q1, hK, hyp⟩ := hyp
          refine ax_callV hX lRX11_95 im_X11_isGood sl_X11_isGood cw_X11_isGood ((th_at (by decide) (Nat.lt_of_lt_of_le (by decide) hsz)).trans (tc_ob ly_105)) rfl rfl (A := []) (st := []) rfl rfl (Nat.le_of_ble_eq_true rfl) (by decide) (by decide) dX11_canName_53 hK ?_
          rintro _ _ ⟨r7, T7, rfl, rfl, hq⟩
          replace hyp := hyp r7 T7 hq
          exact hR.1 _ _ _ _ _ _ (by decide) (by decide) dX11_canName_56 ⟨_, rfl, congrArg Value.int hyp.1⟩ ⟨_, _, rfl, rfl, hyp.2⟩
        · replace hyp := hyp.2 c
          refine ax_aload_n hX dX11_canName_43 (Or.inr ⟨_, rfl⟩) rfl ?_
          refine ax_iconst hX dX11_canName_44 (v := 3) (by decide) ?_
          refine ax_aload_n hX dX11_canName_45 (Or.inr ⟨_, rfl⟩) rfl ?_
          refine tx_getI hX fRX11_54 ly_105 fk_11_6 (by decide) (Nat.lt_of_lt_of_le (by decide) hsz) dX11_canName_46 ?_
          obtain ⟨Q1, hK, hyp⟩ := hyp
          refine ax_callV hX lRX11_81 im_X11_fails sl_X11_fails cw_X11_fails ((th_at (by decide) (Nat.lt_of_lt_of_le (by decide) hsz)).trans (tc_ob ly_105)) rfl rfl (A := [.int (3 : Int32), .int (T6.1 105 6)]) (st := []) rfl rfl (Nat.le_of_ble_eq_true rfl) (by decide) (by decide) dX11_canName_49 hK ?_
          rintro _ _ ⟨T8, rfl, rfl, hq⟩
          replace hyp := hyp T8 hq
          refine ax_aload_n hX dX11_canName_52 (Or.inr ⟨_, rfl⟩) rfl ?_
          obtain ⟨Q1, hK, hyp⟩ := hyp
          refine ax_callV hX lRX11_95 im_X11_isGood sl_X11_isGood cw_X11_isGood ((th_at (by decide) (Nat.lt_of_lt_of_le (by decide) hsz)).trans (tc_ob ly_105)) rfl rfl (A := []) (st := []) rfl rfl (Nat.le_of_ble_eq_true rfl) (by decide) (by decide) dX11_canName_53 hK ?_
          rintro _ _ ⟨r9, T9, rfl, rfl, hq⟩
          replace hyp := hyp r9 T9 hq
          exact hR.1 _ _ _ _ _ _ (by decide) (by decide) dX11_canName_56 ⟨_, rfl, congrArg Value.int hyp.1⟩ ⟨_, _, rfl, rfl, hyp.2⟩
  · replace hyp := hyp.2 c
    refine ax_aload_n hX dX11_canName_8 (Or.inr ⟨_, rfl⟩) rfl ?_
    obtain ⟨Q1, hK, hyp⟩ := hyp
    refine ax_callV hX lRX11_92 im_X11_wrong sl_X11_wrong cw_X11_wrong ((th_at (by decide) (Nat.lt_of_lt_of_le (by decide) hsz)).trans (tc_ob ly_105)) rfl rfl (A := []) (st := []) rfl rfl (Nat.le_of_ble_eq_true rfl) (by decide) (by decide) dX11_canName_9 hK ?_
    rintro _ _ ⟨T10, rfl, rfl, hq⟩
    replace hyp := hyp T10 hq
    refine ax_aload_n hX dX11_canName_12 (Or.inr ⟨_, rfl⟩) rfl ?_
    obtain ⟨Q1, hK, hyp⟩ := hyp
    refine ax_callV hX lRX11_95 im_X11_isGood sl_X11_isGood cw_X11_isGood ((th_at (by decide) (Nat.lt_of_lt_of_le (by decide) hsz)).trans (tc_ob ly_105)) rfl rfl (A := []) (st := []) rfl rfl (Nat.le_of_ble_eq_true rfl) (by decide) (by decide) dX11_canName_13 hK ?_
    rintro _ _ ⟨r11, T11, rfl, rfl, hq⟩
    replace hyp := hyp r11 T11 hq
    refine ax_if_eq hX dX11_canName_16 (tgt := 52) (by decide) (fun c => ?_) (fun c => ?_)
    · replace hyp := hyp.1 c
      refine ax_aload_n hX dX11_canName_52 (Or.inr ⟨_, rfl⟩) rfl ?_
      obtain ⟨Q1, hK, hyp⟩ := hyp
      refine ax_callV hX lRX11_95 im_X11_isGood sl_X11_isGood cw_X11_isGood ((th_at (by decide) (Nat.lt_of_lt_of_le (by decide) hsz)).trans (tc_ob ly_105)) rfl rfl (A := []) (st := []) rfl rfl (Nat.le_of_ble_eq_true rfl) (by decide) (by decide) dX11_canName_53 hK ?_
      rintro _ _ ⟨r12, T12, rfl, rfl, hq⟩
      replace hyp := hyp r12 T12 hq
      exact hR.1 _ _ _ _ _ _ (by decide) (by decide) dX11_canName_56 ⟨_, rfl, congrArg Value.int hyp.1⟩ ⟨_, _, rfl, rfl, hyp.2⟩
    · replace hyp := hyp.2 c
      refine ax_aload_n hX dX11_canName_19 (Or.inr ⟨_, rfl⟩) rfl ?_
      refine ax_iload_n hX dX11_canName_20 rfl ?_
      refine ax_aload_n hX dX11_canName_21 (Or.inr ⟨_, rfl⟩) rfl ?_
      refine tx_getJ hX fRX11_71 ly_105 fk_11_10 (by decide) (Nat.lt_of_lt_of_le (by decide) hsz) dX11_canName_22 ?_
      obtain ⟨Q1, hK, hyp⟩ := hyp
      refine ax_callV hX lRX11_308 im_X11_listOf sl_X11_listOf cw_X11_listOf ((th_at (by decide) (Nat.lt_of_lt_of_le (by decide) hsz)).trans (tc_ob ly_105)) rfl rfl (A := [.int x0, .long (T11.2.1 105 10)]) (st := []) rfl rfl (Nat.le_of_ble_eq_true rfl) (by decide) (by decide) dX11_canName_25 hK ?_
      rintro _ _ ⟨r13, T13, rfl, rfl, hq⟩
      replace hyp := hyp r13 T13 hq
      refine ax_if_ge hX dX11_canName_28 (tgt := 43) (by decide) (fun c => ?_) (fun c => ?_)
      · replace hyp := hyp.1 c
        refine ax_aload_n hX dX11_canName_43 (Or.inr ⟨_, rfl⟩) rfl ?_
        refine ax_iconst hX dX11_canName_44 (v := 3) (by decide) ?_
        refine ax_aload_n hX dX11_canName_45 (Or.inr ⟨_, rfl⟩) rfl ?_
        refine tx_getI hX fRX11_54 ly_105 fk_11_6 (by decide) (Nat.lt_of_lt_of_le (by decide) hsz) dX11_canName_46 ?_
        obtain ⟨Q1, hK, hyp⟩ := hyp
        refine ax_callV hX lRX11_81 im_X11_fails sl_X11_fails cw_X11_fails ((th_at (by decide) (Nat.lt_of_lt_of_le (by decide) hsz)).trans (tc_ob ly_105)) rfl rfl (A := [.int (3 : Int32), .int (T13.1 105 6)]) (st := []) rfl rfl (Nat.le_of_ble_eq_true rfl) (by decide) (by decide) dX11_canName_49 hK ?_
        rintro _ _ ⟨T14, rfl, rfl, hq⟩
        replace hyp := hyp T14 hq
        refine ax_aload_n hX dX11_canName_52 (Or.inr ⟨_, rfl⟩) rfl ?_
        obtain ⟨Q1, hK, hyp⟩ := hyp
        refine ax_callV hX lRX11_95 im_X11_isGood sl_X11_isGood cw_X11_isGood ((th_at (by decide) (Nat.lt_of_lt_of_le (by decide) hsz)).trans (tc_ob ly_105)) rfl rfl (A := []) (st := []) rfl rfl (Nat.le_of_ble_eq_true rfl) (by decide) (by decide) dX11_canName_53 hK ?_
        rintro _ _ ⟨r15, T15, rfl, rfl, hq⟩
        replace hyp := hyp r15 T15 hq
        exact hR.1 _ _ _ _ _ _ (by decide) (by decide) dX11_canName_56 ⟨_, rfl, congrArg Value.int hyp.1⟩ ⟨_, _, rfl, rfl, hyp.2⟩
      · replace hyp := hyp.2 c
        refine ax_aload_n hX dX11_canName_31 (Or.inr ⟨_, rfl⟩) rfl ?_
        refine ax_iload_n hX dX11_canName_32 rfl ?_
        refine ax_aload_n hX dX11_canName_33 (Or.inr ⟨_, rfl⟩) rfl ?_
        refine tx_getJ hX fRX11_71 ly_105 fk_11_10 (by decide) (Nat.lt_of_lt_of_le (by decide) hsz) dX11_canName_34 ?_
        obtain ⟨Q1, hK, hyp⟩ := hyp
        refine ax_callV hX lRX11_312 im_X11_partOf sl_X11_partOf cw_X11_partOf ((th_at (by decide) (Nat.lt_of_lt_of_le (by decide) hsz)).trans (tc_ob ly_105)) rfl rfl (A := [.int x0, .long (T13.2.1 105 10)]) (st := []) rfl rfl (Nat.le_of_ble_eq_true rfl) (by decide) (by decide) dX11_canName_37 hK ?_
        rintro _ _ ⟨r16, T16, rfl, rfl, hq⟩
        replace hyp := hyp r16 T16 hq
        refine ax_if_lt hX dX11_canName_40 (tgt := 52) (by decide) (fun c => ?_) (fun c => ?_)
        · replace hyp := hyp.1 c
          refine ax_aload_n hX dX11_canName_52 (Or.inr ⟨_, rfl⟩) rfl ?_
          obtain ⟨Q1, hK, hyp⟩ := hyp
          refine ax_callV hX lRX11_95 im_X11_isGood sl_X11_isGood cw_X11_isGood ((th_at (by decide) (Nat.lt_of_lt_of_le (by decide) hsz)).trans (tc_ob ly_105)) rfl rfl (A := []) (st := []) rfl rfl (Nat.le_of_ble_eq_true rfl) (by decide) (by decide) dX11_canName_53 hK ?_
          rintro _ _ ⟨r17, T17, rfl, rfl, hq⟩
          replace hyp := hyp r17 T17 hq
          exact hR.1 _ _ _ _ _ _ (by decide) (by decide) dX11_canName_56 ⟨_, rfl, congrArg Value.int hyp.1⟩ ⟨_, _, rfl, rfl, hyp.2⟩
        · replace hyp := hyp.2 c
          refine ax_aload_n hX dX11_canName_43 (Or.inr ⟨_, rfl⟩) rfl ?_
          refine ax_iconst hX dX11_canName_44 (v := 3) (by decide) ?_
          refine ax_aload_n hX dX11_canName_45 (Or.inr ⟨_, rfl⟩) rfl ?_
          refine tx_getI hX fRX11_54 ly_105 fk_11_6 (by decide) (Nat.lt_of_lt_of_le (by decide) hsz) dX11_canName_46 ?_
          obtain ⟨Q1, hK, hyp⟩ := hyp
          refine ax_callV hX lRX11_81 im_X11_fails sl_X11_fails cw_X11_fails ((th_at (by decide) (Nat.lt_of_lt_of_le (by decide) hsz)).trans (tc_ob ly_105)) rfl rfl (A := [.int (3 : Int32), .int (T16.1 105 6)]) (st := []) rfl rfl (Nat.le_of_ble_eq_true rfl) (by decide) (by decide) dX11_canName_49 hK ?_
          rintro _ _ ⟨T18, rfl, rfl, hq⟩
          replace hyp := hyp T18 hq
          refine ax_aload_n hX dX11_canName_52 (Or.inr ⟨_, rfl⟩) rfl ?_
          obtain ⟨Q1, hK, hyp⟩ := hyp
          refine ax_callV hX lRX11_95 im_X11_isGood sl_X11_isGood cw_X11_isGood ((th_at (by decide) (Nat.lt_of_lt_of_le (by decide) hsz)).trans (tc_ob ly_105)) rfl rfl (A := []) (st := []) rfl rfl (Nat.le_of_ble_eq_true rfl) (by decide) (by decide) dX11_canName_53 hK ?_
          rintro _ _ ⟨r19, T19, rfl, rfl, hq⟩
          replace hyp := hyp r19 T19 hq
          exact hR.1 _ _ _ _ _ _ (by decide) (by decide) dX11_canName_56 ⟨_, rfl, congrArg Value.int hyp.1⟩ ⟨_, _, rfl, rfl, hyp.2⟩
set_option maxRecDepth 10000 in
theorem s_X11_centre_0 {X : ax_X} {d L sz : Nat} {T : tT} {Q : Int32 → tT → Prop} (hX : ax_ok X mX11_centre d) (hR : ax_Ret X mX11_centre (ti L sz Q)) (hsz : 161 ≤ sz)  (hyp : ((¬ (T.1 105 56) = (8 : Int32) → Q (((T.1 105 56) + (1 : Int32)) - (1 : Int32)) (tI T 105 56 ((T.1 105 56) + (1 : Int32)))) ∧ ((T.1 105 56) = (8 : Int32) → Q (-1 : Int32) T))) : ax_j X 0 [some (.ref 105)] [] (th L sz T) 0 0 := by
  refine ax_aload_n hX dX11_centre_0 (Or.inr ⟨_, rfl⟩) rfl ?_
  refine tx_getI hX fRX11_394 ly_105 fk_11_56 (by decide) (Nat.lt_of_lt_of_le (by decide) hsz) dX11_centre_1 ?_
  refine ax_bipush hX dX11_centre_4 (v := 8) (by decide) ?_
  refine ax_icmp_ne hX dX11_centre_6 (tgt := 11) (by decide) (fun c => ?_) (fun c => ?_)
  · replace hyp := hyp.1 c
    refine ax_aload_n hX dX11_centre_11 (Or.inr ⟨_, rfl⟩) rfl ?_
    refine ax_dup hX dX11_centre_12 rfl ?_
    refine tx_getI hX fRX11_394 ly_105 fk_11_56 (by decide) (Nat.lt_of_lt_of_le (by decide) hsz) dX11_centre_13 ?_
    refine ax_iconst hX dX11_centre_16 (v := 1) (by decide) ?_
    refine ax_iadd hX dX11_centre_17 ?_
    refine tx_putI hX fRX11_394 ly_105 fk_11_56 (by decide) (Nat.lt_of_lt_of_le (by decide) hsz) rfl rfl dX11_centre_18 ?_
    refine ax_aload_n hX dX11_centre_21 (Or.inr ⟨_, rfl⟩) rfl ?_
    refine tx_getI hX fRX11_394 ly_105 fk_11_56 (by decide) (Nat.lt_of_lt_of_le (by decide) hsz) dX11_centre_22 ?_
    refine ax_iconst hX dX11_centre_25 (v := 1) (by decide) ?_
    refine ax_isub hX dX11_centre_26 ?_
    exact hR.1 _ _ _ _ _ _ (by decide) (by decide) dX11_centre_27 ⟨_, rfl, rfl⟩ ⟨_, _, rfl, rfl, hyp⟩
  · replace hyp := hyp.2 c
    refine ax_iconst hX dX11_centre_9 (v := -1) (by decide) ?_
    exact hR.1 _ _ _ _ _ _ (by decide) (by decide) dX11_centre_10 ⟨_, rfl, rfl⟩ ⟨_, _, rfl, rfl, hyp⟩
set_option maxRecDepth 10000 in
theorem s_X11_certificate_0 {X : ax_X} {d L sz : Nat} {T : tT} {Q : Int32 → tT → Prop} (hX : ax_ok X mX11_certificate d) (hR : ax_Ret X mX11_certificate (ti L sz Q)) (hsz : 161 ≤ sz) (x0 : Int32) (x1 : Int32) (hyp : ((x0 < (1 : Int32) → Q (-1 : Int32) T) ∧ (¬ x0 < (1 : Int32) → ((x0 ≤ (T.1 105 76) → ((¬ x1 = 0 → ((¬ x1 = (1 : Int32) → ((¬ x1 = (2 : Int32) → Q (-1 : Int32) T) ∧ (x1 = (2 : Int32) → vp_in x0 61 ∧ Q (T.1 160 (x0.toNatClampNeg)) T))) ∧ (x1 = (1 : Int32) → vp_in x0 61 ∧ Q (T.1 159 (x0.toNatClampNeg)) T))) ∧ (x1 = 0 → vp_in x0 61 ∧ Q (T.1 158 (x0.toNatClampNeg)) T))) ∧ (¬ x0 ≤ (T.1 105 76) → Q (-1 : Int32) T))))) : ax_j X 0 [some (.ref 105), some (.int x0), some (.int x1)] [] (th L sz T) 0 0 := by
  refine ax_iload_n hX dX11_certificate_0 rfl ?_
  refine ax_iconst hX dX11_certificate_1 (v := 1) (by decide) ?_
  refine ax_icmp_lt hX dX11_certificate_2 (tgt := 13) (by decide) (fun c => ?_) (fun c => ?_)
  · replace hyp := hyp.1 c
    refine ax_iconst hX dX11_certificate_13 (v := -1) (by decide) ?_
    exact hR.1 _ _ _ _ _ _ (by decide) (by decide) dX11_certificate_14 ⟨_, rfl, rfl⟩ ⟨_, _, rfl, rfl, hyp⟩
  · replace hyp := hyp.2 c
    refine ax_iload_n hX dX11_certificate_5 rfl ?_
    refine ax_aload_n hX dX11_certificate_6 (Or.inr ⟨_, rfl⟩) rfl ?_
    refine tx_getI hX fRX11_463 ly_105 fk_11_76 (by decide) (Nat.lt_of_lt_of_le (by decide) hsz) dX11_certificate_7 ?_
    refine ax_icmp_le hX dX11_certificate_10 (tgt := 15) (by decide) (fun c => ?_) (fun c => ?_)
    · replace hyp := hyp.1 c
      refine ax_iload_n hX dX11_certificate_15 rfl ?_
      refine ax_if_ne hX dX11_certificate_16 (tgt := 28) (by decide) (fun c => ?_) (fun c => ?_)
      · replace hyp := hyp.1 c
        refine ax_iload_n hX dX11_certificate_28 rfl ?_
        refine ax_iconst hX dX11_certificate_29 (v := 1) (by decide) ?_
        refine ax_icmp_ne hX dX11_certificate_30 (tgt := 42) (by decide) (fun c => ?_) (fun c => ?_)
        · replace hyp := hyp.1 c
          refine ax_iload_n hX dX11_certificate_42 rfl ?_
          refine ax_iconst hX dX11_certificate_43 (v := 2) (by decide) ?_
          refine ax_icmp_ne hX dX11_certificate_44 (tgt := 56) (by decide) (fun c => ?_) (fun c => ?_)
          · replace hyp := hyp.1 c
            refine ax_iconst hX dX11_certificate_56 (v := -1) (by decide) ?_
            exact hR.1 _ _ _ _ _ _ (by decide) (by decide) dX11_certificate_57 ⟨_, rfl, rfl⟩ ⟨_, _, rfl, rfl, hyp⟩
          · replace hyp := hyp.2 c
            refine ax_aload_n hX dX11_certificate_47 (Or.inr ⟨_, rfl⟩) rfl ?_
            refine tx_getF hX fRX11_269 ly_105 (o := 55) (b := 160) fk_11_75 rfl (by decide) (Nat.lt_of_lt_of_le (by decide) hsz) dX11_certificate_48 ?_
            refine ax_iload_n hX dX11_certificate_51 rfl ?_
            refine tx_ial hX ly_160 (by decide) (Nat.lt_of_lt_of_le (by decide) hsz) hyp.1 dX11_certificate_52 ?_
            replace hyp := hyp.2
            refine ax_goto hX dX11_certificate_53 (tgt := 57) (by decide) ?_
            exact hR.1 _ _ _ _ _ _ (by decide) (by decide) dX11_certificate_57 ⟨_, rfl, rfl⟩ ⟨_, _, rfl, rfl, hyp⟩
        · replace hyp := hyp.2 c
          refine ax_aload_n hX dX11_certificate_33 (Or.inr ⟨_, rfl⟩) rfl ?_
          refine tx_getF hX fRX11_266 ly_105 (o := 54) (b := 159) fk_11_74 rfl (by decide) (Nat.lt_of_lt_of_le (by decide) hsz) dX11_certificate_34 ?_
          refine ax_iload_n hX dX11_certificate_37 rfl ?_
          refine tx_ial hX ly_159 (by decide) (Nat.lt_of_lt_of_le (by decide) hsz) hyp.1 dX11_certificate_38 ?_
          replace hyp := hyp.2
          refine ax_goto hX dX11_certificate_39 (tgt := 57) (by decide) ?_
          exact hR.1 _ _ _ _ _ _ (by decide) (by decide) dX11_certificate_57 ⟨_, rfl, rfl⟩ ⟨_, _, rfl, rfl, hyp⟩
      · replace hyp := hyp.2 c
        refine ax_aload_n hX dX11_certificate_19 (Or.inr ⟨_, rfl⟩) rfl ?_
        refine tx_getF hX fRX11_263 ly_105 (o := 53) (b := 158) fk_11_73 rfl (by decide) (Nat.lt_of_lt_of_le (by decide) hsz) dX11_certificate_20 ?_
        refine ax_iload_n hX dX11_certificate_23 rfl ?_
        refine tx_ial hX ly_158 (by decide) (Nat.lt_of_lt_of_le (by decide) hsz) hyp.1 dX11_certificate_24 ?_
        replace hyp := hyp.2
        refine ax_goto hX dX11_certificate_25 (tgt := 57) (by decide) ?_
        exact hR.1 _ _ _ _ _ _ (by decide) (by decide) dX11_certificate_57 ⟨_, rfl, rfl⟩ ⟨_, _, rfl, rfl, hyp⟩
    · replace hyp := hyp.2 c
      refine ax_iconst hX dX11_certificate_13 (v := -1) (by decide) ?_
      exact hR.1 _ _ _ _ _ _ (by decide) (by decide) dX11_certificate_14 ⟨_, rfl, rfl⟩ ⟨_, _, rfl, rfl, hyp⟩
set_option maxRecDepth 10000 in
theorem s_X11_certify_0 {X : ax_X} {d L sz : Nat} {T : tT} {Q : Int32 → tT → Prop} (hX : ax_ok X mX11_certify (d + 1)) (hR : ax_Ret X mX11_certify (ti L sz Q)) (hsz : 161 ≤ sz) (x0 : Int32) (hyp : ∃ Q1, tiK d mX11_result [.ref 105, .int x0, .int (T.1 105 71)] L sz T Q1 ∧ ∀ (r1 : Int32) (T1 : tT), Q1 r1 T1 → (((r1 < (1 : Int32) → Q (-1 : Int32) T1) ∧ (¬ r1 < (1 : Int32) → ((¬ (T1.1 105 76) = (60 : Int32) → ax_j X 28 [some (.ref 105), some (.int x0), some (.int r1), some (.int (1 : Int32))] [] (th L sz T1) 0 0) ∧ ((T1.1 105 76) = (60 : Int32) → Q (-1 : Int32) T1)))))) : ax_j X 0 [some (.ref 105), some (.int x0), none, none] [] (th L sz T) 0 0 := by
  refine ax_aload_n hX dX11_certify_0 (Or.inr ⟨_, rfl⟩) rfl ?_
  refine ax_iload_n hX dX11_certify_1 rfl ?_
  refine ax_aload_n hX dX11_certify_2 (Or.inr ⟨_, rfl⟩) rfl ?_
  refine tx_getI hX fRX11_438 ly_105 fk_11_71 (by decide) (Nat.lt_of_lt_of_le (by decide) hsz) dX11_certify_3 ?_
  obtain ⟨Q1, hK, hyp⟩ := hyp
  refine ax_callV hX lRX11_460 im_X11_result sl_X11_result cw_X11_result ((th_at (by decide) (Nat.lt_of_lt_of_le (by decide) hsz)).trans (tc_ob ly_105)) rfl rfl (A := [.int x0, .int (T.1 105 71)]) (st := []) rfl rfl (Nat.le_of_ble_eq_true rfl) (by decide) (by decide) dX11_certify_6 hK ?_
  rintro _ _ ⟨r1, T1, rfl, rfl, hq⟩
  replace hyp := hyp r1 T1 hq
  refine ax_istore_n hX dX11_certify_9 (by decide) (L' := [some (.ref 105), some (.int x0), some (.int r1), none]) rfl ?_
  refine ax_iload_n hX dX11_certify_10 rfl ?_
  refine ax_iconst hX dX11_certify_11 (v := 1) (by decide) ?_
  refine ax_icmp_lt hX dX11_certify_12 (tgt := 24) (by decide) (fun c => ?_) (fun c => ?_)
  · replace hyp := hyp.1 c
    refine ax_iconst hX dX11_certify_24 (v := -1) (by decide) ?_
    exact hR.1 _ _ _ _ _ _ (by decide) (by decide) dX11_certify_25 ⟨_, rfl, rfl⟩ ⟨_, _, rfl, rfl, hyp⟩
  · replace hyp := hyp.2 c
    refine ax_aload_n hX dX11_certify_15 (Or.inr ⟨_, rfl⟩) rfl ?_
    refine tx_getI hX fRX11_463 ly_105 fk_11_76 (by decide) (Nat.lt_of_lt_of_le (by decide) hsz) dX11_certify_16 ?_
    refine ax_bipush hX dX11_certify_19 (v := 60) (by decide) ?_
    refine ax_icmp_ne hX dX11_certify_21 (tgt := 26) (by decide) (fun c => ?_) (fun c => ?_)
    · replace hyp := hyp.1 c
      refine ax_iconst hX dX11_certify_26 (v := 1) (by decide) ?_
      refine ax_istore_n hX dX11_certify_27 (by decide) (L' := [some (.ref 105), some (.int x0), some (.int r1), some (.int (1 : Int32))]) rfl ?_
      exact ax_forget (L' := [some (.ref 105), some (.int x0), some (.int r1), some (.int (1 : Int32))]) (⟨rfl, ⟨rfl, ⟨rfl, ⟨rfl, trivial⟩⟩⟩⟩) hyp
    · replace hyp := hyp.2 c
      refine ax_iconst hX dX11_certify_24 (v := -1) (by decide) ?_
      exact hR.1 _ _ _ _ _ _ (by decide) (by decide) dX11_certify_25 ⟨_, rfl, rfl⟩ ⟨_, _, rfl, rfl, hyp⟩
set_option maxRecDepth 10000 in
theorem s_X11_certify_28 {X : ax_X} {d L sz : Nat} {T : tT} {Q : Int32 → tT → Prop} (hX : ax_ok X mX11_certify (d + 1)) (hR : ax_Ret X mX11_certify (ti L sz Q)) (hsz : 161 ≤ sz) (v1 : Int32) (v2 : Int32) (v3 : Int32) (hyp : (((T.1 105 76) < v3 → vp_in ((T.1 105 76) + (1 : Int32)) 61 ∧ vp_in ((T.1 105 76) + (1 : Int32)) 61 ∧ vp_in ((T.1 105 76) + (1 : Int32)) 61 ∧ Q ((T.1 105 76) + (1 : Int32)) (tI (tI (tI (tI T 105 76 ((T.1 105 76) + (1 : Int32))) 158 (((T.1 105 76) + (1 : Int32)).toNatClampNeg) v1) 159 (((T.1 105 76) + (1 : Int32)).toNatClampNeg) (T.1 105 71)) 160 (((T.1 105 76) + (1 : Int32)).toNatClampNeg) v2)) ∧ (¬ (T.1 105 76) < v3 → vp_in v3 61 ∧ ((¬ (T.1 158 (v3.toNatClampNeg)) = v1 → ax_j X 28 [some (.ref 105), some (.int v1), some (.int v2), some (.int (v3 + (1 : Int32)))] [] (th L sz T) 0 0) ∧ ((T.1 158 (v3.toNatClampNeg)) = v1 → ∃ Q1, tiK d mX11_doesHold [.ref 105, .int v3, .int (T.1 105 71)] L sz T Q1 ∧ ∀ (r1 : Int32) (T1 : tT), Q1 r1 T1 → (((r1 = 0 → ax_j X 28 [some (.ref 105), some (.int v1), some (.int v2), some (.int (v3 + (1 : Int32)))] [] (th L sz T1) 0 0) ∧ (¬ r1 = 0 → Q (-1 : Int32) T1)))))))) : ax_j X 28 [some (.ref 105), some (.int v1), some (.int v2), some (.int v3)] [] (th L sz T) 0 0 := by
  refine ax_iload_n hX dX11_certify_28 rfl ?_
  refine ax_aload_n hX dX11_certify_29 (Or.inr ⟨_, rfl⟩) rfl ?_
  refine tx_getI hX fRX11_463 ly_105 fk_11_76 (by decide) (Nat.lt_of_lt_of_le (by decide) hsz) dX11_certify_30 ?_
  refine ax_icmp_gt hX dX11_certify_33 (tgt := 66) (by decide) (fun c => ?_) (fun c => ?_)
  · replace hyp := hyp.1 c
    refine ax_aload_n hX dX11_certify_66 (Or.inr ⟨_, rfl⟩) rfl ?_
    refine ax_dup hX dX11_certify_67 rfl ?_
    refine tx_getI hX fRX11_463 ly_105 fk_11_76 (by decide) (Nat.lt_of_lt_of_le (by decide) hsz) dX11_certify_68 ?_
    refine ax_iconst hX dX11_certify_71 (v := 1) (by decide) ?_
    refine ax_iadd hX dX11_certify_72 ?_
    refine tx_putI hX fRX11_463 ly_105 fk_11_76 (by decide) (Nat.lt_of_lt_of_le (by decide) hsz) rfl rfl dX11_certify_73 ?_
    refine ax_aload_n hX dX11_certify_76 (Or.inr ⟨_, rfl⟩) rfl ?_
    refine tx_getF hX fRX11_263 ly_105 (o := 53) (b := 158) fk_11_73 rfl (by decide) (Nat.lt_of_lt_of_le (by decide) hsz) dX11_certify_77 ?_
    refine ax_aload_n hX dX11_certify_80 (Or.inr ⟨_, rfl⟩) rfl ?_
    refine tx_getI hX fRX11_463 ly_105 fk_11_76 (by decide) (Nat.lt_of_lt_of_le (by decide) hsz) dX11_certify_81 ?_
    refine ax_iload_n hX dX11_certify_84 rfl ?_
    refine tx_ias hX ly_158 (by decide) (Nat.lt_of_lt_of_le (by decide) hsz) hyp.1 dX11_certify_85 ?_
    replace hyp := hyp.2
    refine ax_aload_n hX dX11_certify_86 (Or.inr ⟨_, rfl⟩) rfl ?_
    refine tx_getF hX fRX11_266 ly_105 (o := 54) (b := 159) fk_11_74 rfl (by decide) (Nat.lt_of_lt_of_le (by decide) hsz) dX11_certify_87 ?_
    refine ax_aload_n hX dX11_certify_90 (Or.inr ⟨_, rfl⟩) rfl ?_
    refine tx_getI hX fRX11_463 ly_105 fk_11_76 (by decide) (Nat.lt_of_lt_of_le (by decide) hsz) dX11_certify_91 ?_
    refine ax_aload_n hX dX11_certify_94 (Or.inr ⟨_, rfl⟩) rfl ?_
    refine tx_getI hX fRX11_438 ly_105 fk_11_71 (by decide) (Nat.lt_of_lt_of_le (by decide) hsz) dX11_certify_95 ?_
    refine tx_ias hX ly_159 (by decide) (Nat.lt_of_lt_of_le (by decide) hsz) hyp.1 dX11_certify_98 ?_
    replace hyp := hyp.2
    refine ax_aload_n hX dX11_certify_99 (Or.inr ⟨_, rfl⟩) rfl ?_
    refine tx_getF hX fRX11_269 ly_105 (o := 55) (b := 160) fk_11_75 rfl (by decide) (Nat.lt_of_lt_of_le (by decide) hsz) dX11_certify_100 ?_
    refine ax_aload_n hX dX11_certify_103 (Or.inr ⟨_, rfl⟩) rfl ?_
    refine tx_getI hX fRX11_463 ly_105 fk_11_76 (by decide) (Nat.lt_of_lt_of_le (by decide) hsz) dX11_certify_104 ?_
    refine ax_iload_n hX dX11_certify_107 rfl ?_
    refine tx_ias hX ly_160 (by decide) (Nat.lt_of_lt_of_le (by decide) hsz) hyp.1 dX11_certify_108 ?_
    replace hyp := hyp.2
    refine ax_aload_n hX dX11_certify_109 (Or.inr ⟨_, rfl⟩) rfl ?_
    refine tx_getI hX fRX11_463 ly_105 fk_11_76 (by decide) (Nat.lt_of_lt_of_le (by decide) hsz) dX11_certify_110 ?_
    exact hR.1 _ _ _ _ _ _ (by decide) (by decide) dX11_certify_113 ⟨_, rfl, rfl⟩ ⟨_, _, rfl, rfl, hyp⟩
  · replace hyp := hyp.2 c
    refine ax_aload_n hX dX11_certify_36 (Or.inr ⟨_, rfl⟩) rfl ?_
    refine tx_getF hX fRX11_263 ly_105 (o := 53) (b := 158) fk_11_73 rfl (by decide) (Nat.lt_of_lt_of_le (by decide) hsz) dX11_certify_37 ?_
    refine ax_iload_n hX dX11_certify_40 rfl ?_
    refine tx_ial hX ly_158 (by decide) (Nat.lt_of_lt_of_le (by decide) hsz) hyp.1 dX11_certify_41 ?_
    replace hyp := hyp.2
    refine ax_iload_n hX dX11_certify_42 rfl ?_
    refine ax_icmp_ne hX dX11_certify_43 (tgt := 60) (by decide) (fun c => ?_) (fun c => ?_)
    · replace hyp := hyp.1 c
      refine ax_iinc hX dX11_certify_60 rfl (w := (v3 + (1 : Int32))) rfl (by decide) (L' := [some (.ref 105), some (.int v1), some (.int v2), some (.int (v3 + (1 : Int32)))]) rfl ?_
      refine ax_goto hX dX11_certify_63 (tgt := 28) (by decide) ?_
      exact ax_forget (L' := [some (.ref 105), some (.int v1), some (.int v2), some (.int (v3 + (1 : Int32)))]) (⟨rfl, ⟨rfl, ⟨rfl, ⟨rfl, trivial⟩⟩⟩⟩) hyp
    · replace hyp := hyp.2 c
      refine ax_aload_n hX dX11_certify_46 (Or.inr ⟨_, rfl⟩) rfl ?_
      refine ax_iload_n hX dX11_certify_47 rfl ?_
      refine ax_aload_n hX dX11_certify_48 (Or.inr ⟨_, rfl⟩) rfl ?_
      refine tx_getI hX fRX11_438 ly_105 fk_11_71 (by decide) (Nat.lt_of_lt_of_le (by decide) hsz) dX11_certify_49 ?_
      obtain ⟨Q1, hK, hyp⟩ := hyp
      refine ax_callV hX lRX11_466 im_X11_doesHold sl_X11_doesHold cw_X11_doesHold ((th_at (by decide) (Nat.lt_of_lt_of_le (by decide) hsz)).trans (tc_ob ly_105)) rfl rfl (A := [.int v3, .int (T.1 105 71)]) (st := []) rfl rfl (Nat.le_of_ble_eq_true rfl) (by decide) (by decide) dX11_certify_52 hK ?_
      rintro _ _ ⟨r1, T1, rfl, rfl, hq⟩
      replace hyp := hyp r1 T1 hq
      refine ax_if_eq hX dX11_certify_55 (tgt := 60) (by decide) (fun c => ?_) (fun c => ?_)
      · replace hyp := hyp.1 c
        refine ax_iinc hX dX11_certify_60 rfl (w := (v3 + (1 : Int32))) rfl (by decide) (L' := [some (.ref 105), some (.int v1), some (.int v2), some (.int (v3 + (1 : Int32)))]) rfl ?_
        refine ax_goto hX dX11_certify_63 (tgt := 28) (by decide) ?_
        exact ax_forget (L' := [some (.ref 105), some (.int v1), some (.int v2), some (.int (v3 + (1 : Int32)))]) (⟨rfl, ⟨rfl, ⟨rfl, ⟨rfl, trivial⟩⟩⟩⟩) hyp
      · replace hyp := hyp.2 c
        refine ax_iconst hX dX11_certify_58 (v := -1) (by decide) ?_
        exact hR.1 _ _ _ _ _ _ (by decide) (by decide) dX11_certify_59 ⟨_, rfl, rfl⟩ ⟨_, _, rfl, rfl, hyp⟩
set_option maxRecDepth 10000 in
theorem s_X11_doesHold_0 {X : ax_X} {d L sz : Nat} {T : tT} {Q : Int32 → tT → Prop} (hX : ax_ok X mX11_doesHold (d + 1)) (hR : ax_Ret X mX11_doesHold (ti L sz Q)) (hsz : 161 ≤ sz) (x0 : Int32) (x1 : Int32) (hyp : vp_in x0 61 ∧ ((x1 < (T.1 159 (x0.toNatClampNeg)) → Q (0 : Int32) T) ∧ (¬ x1 < (T.1 159 (x0.toNatClampNeg)) → vp_in x0 61 ∧ ∃ Q1, tiK d mX11_result [.ref 105, .int (T.1 158 (x0.toNatClampNeg)), .int x1] L sz T Q1 ∧ ∀ (r1 : Int32) (T1 : tT), Q1 r1 T1 → (vp_in x0 61 ∧ ((r1 < (T1.1 160 (x0.toNatClampNeg)) → Q (0 : Int32) T1) ∧ (¬ r1 < (T1.1 160 (x0.toNatClampNeg)) → Q (1 : Int32) T1)))))) : ax_j X 0 [some (.ref 105), some (.int x0), some (.int x1)] [] (th L sz T) 0 0 := by
  refine ax_iload_n hX dX11_doesHold_0 rfl ?_
  refine ax_aload_n hX dX11_doesHold_1 (Or.inr ⟨_, rfl⟩) rfl ?_
  refine tx_getF hX fRX11_266 ly_105 (o := 54) (b := 159) fk_11_74 rfl (by decide) (Nat.lt_of_lt_of_le (by decide) hsz) dX11_doesHold_2 ?_
  refine ax_iload_n hX dX11_doesHold_5 rfl ?_
  refine tx_ial hX ly_159 (by decide) (Nat.lt_of_lt_of_le (by decide) hsz) hyp.1 dX11_doesHold_6 ?_
  replace hyp := hyp.2
  refine ax_icmp_lt hX dX11_doesHold_7 (tgt := 34) (by decide) (fun c => ?_) (fun c => ?_)
  · replace hyp := hyp.1 c
    refine ax_iconst hX dX11_doesHold_34 (v := 0) (by decide) ?_
    exact hR.1 _ _ _ _ _ _ (by decide) (by decide) dX11_doesHold_35 ⟨_, rfl, rfl⟩ ⟨_, _, rfl, rfl, hyp⟩
  · replace hyp := hyp.2 c
    refine ax_aload_n hX dX11_doesHold_10 (Or.inr ⟨_, rfl⟩) rfl ?_
    refine ax_aload_n hX dX11_doesHold_11 (Or.inr ⟨_, rfl⟩) rfl ?_
    refine tx_getF hX fRX11_263 ly_105 (o := 53) (b := 158) fk_11_73 rfl (by decide) (Nat.lt_of_lt_of_le (by decide) hsz) dX11_doesHold_12 ?_
    refine ax_iload_n hX dX11_doesHold_15 rfl ?_
    refine tx_ial hX ly_158 (by decide) (Nat.lt_of_lt_of_le (by decide) hsz) hyp.1 dX11_doesHold_16 ?_
    replace hyp := hyp.2
    refine ax_iload_n hX dX11_doesHold_17 rfl ?_
    obtain ⟨Q1, hK, hyp⟩ := hyp
    refine ax_callV hX lRX11_460 im_X11_result sl_X11_result cw_X11_result ((th_at (by decide) (Nat.lt_of_lt_of_le (by decide) hsz)).trans (tc_ob ly_105)) rfl rfl (A := [.int (T.1 158 (x0.toNatClampNeg)), .int x1]) (st := []) rfl rfl (Nat.le_of_ble_eq_true rfl) (by decide) (by decide) dX11_doesHold_18 hK ?_
    rintro _ _ ⟨r1, T1, rfl, rfl, hq⟩
    replace hyp := hyp r1 T1 hq
    refine ax_aload_n hX dX11_doesHold_21 (Or.inr ⟨_, rfl⟩) rfl ?_
    refine tx_getF hX fRX11_269 ly_105 (o := 55) (b := 160) fk_11_75 rfl (by decide) (Nat.lt_of_lt_of_le (by decide) hsz) dX11_doesHold_22 ?_
    refine ax_iload_n hX dX11_doesHold_25 rfl ?_
    refine tx_ial hX ly_160 (by decide) (Nat.lt_of_lt_of_le (by decide) hsz) hyp.1 dX11_doesHold_26 ?_
    replace hyp := hyp.2
    refine ax_icmp_lt hX dX11_doesHold_27 (tgt := 34) (by decide) (fun c => ?_) (fun c => ?_)
    · replace hyp := hyp.1 c
      refine ax_iconst hX dX11_doesHold_34 (v := 0) (by decide) ?_
      exact hR.1 _ _ _ _ _ _ (by decide) (by decide) dX11_doesHold_35 ⟨_, rfl, rfl⟩ ⟨_, _, rfl, rfl, hyp⟩
    · replace hyp := hyp.2 c
      refine ax_iconst hX dX11_doesHold_30 (v := 1) (by decide) ?_
      refine ax_goto hX dX11_doesHold_31 (tgt := 35) (by decide) ?_
      exact hR.1 _ _ _ _ _ _ (by decide) (by decide) dX11_doesHold_35 ⟨_, rfl, rfl⟩ ⟨_, _, rfl, rfl, hyp⟩
set_option maxRecDepth 10000 in
theorem s_X11_e_0 {X : ax_X} {d L sz : Nat} {T : tT} {Q : tT → Prop} (hX : ax_ok X mX11_e (d + 1)) (hR : ax_Ret X mX11_e (tv L sz Q)) (hsz : 161 ≤ sz) (x0 : Int32) (x1 : Int32) (hyp : ∃ Q1, tvK d mX11_pile [.ref 105, .int (7 : Int32), .int (0 : Int32)] L sz (tI (tI T 105 37 (0 : Int32)) 105 38 (0 : Int32)) Q1 ∧ ∀ (T1 : tT), Q1 T1 → (ax_j X 19 [some (.ref 105), some (.int x0), some (.int x1), some (.int (0 : Int32))] [] (th L sz T1) 0 0)) : ax_j X 0 [some (.ref 105), some (.int x0), some (.int x1), none] [] (th L sz T) 0 0 := by
  refine ax_aload_n hX dX11_e_0 (Or.inr ⟨_, rfl⟩) rfl ?_
  refine ax_iconst hX dX11_e_1 (v := 0) (by decide) ?_
  refine tx_putI hX fRX11_322 ly_105 fk_11_37 (by decide) (Nat.lt_of_lt_of_le (by decide) hsz) rfl rfl dX11_e_2 ?_
  refine ax_aload_n hX dX11_e_5 (Or.inr ⟨_, rfl⟩) rfl ?_
  refine ax_iconst hX dX11_e_6 (v := 0) (by decide) ?_
  refine tx_putI hX fRX11_325 ly_105 fk_11_38 (by decide) (Nat.lt_of_lt_of_le (by decide) hsz) rfl rfl dX11_e_7 ?_
  refine ax_aload_n hX dX11_e_10 (Or.inr ⟨_, rfl⟩) rfl ?_
  refine ax_bipush hX dX11_e_11 (v := 7) (by decide) ?_
  refine ax_iconst hX dX11_e_13 (v := 0) (by decide) ?_
  obtain ⟨Q1, hK, hyp⟩ := hyp
  refine ax_callV hX lRX11_328 im_X11_pile sl_X11_pile cw_X11_pile ((th_at (by decide) (Nat.lt_of_lt_of_le (by decide) hsz)).trans (tc_ob ly_105)) rfl rfl (A := [.int (7 : Int32), .int (0 : Int32)]) (st := []) rfl rfl (Nat.le_of_ble_eq_true rfl) (by decide) (by decide) dX11_e_14 hK ?_
  rintro _ _ ⟨T1, rfl, rfl, hq⟩
  replace hyp := hyp T1 hq
  refine ax_iconst hX dX11_e_17 (v := 0) (by decide) ?_
  refine ax_istore_n hX dX11_e_18 (by decide) (L' := [some (.ref 105), some (.int x0), some (.int x1), some (.int (0 : Int32))]) rfl ?_
  exact ax_forget (L' := [some (.ref 105), some (.int x0), some (.int x1), some (.int (0 : Int32))]) (⟨rfl, ⟨rfl, ⟨rfl, ⟨rfl, trivial⟩⟩⟩⟩) hyp
set_option maxRecDepth 10000 in
theorem s_X11_e_19 {X : ax_X} {d L sz : Nat} {T : tT} {Q : tT → Prop} (hX : ax_ok X mX11_e (d + 1)) (hR : ax_Ret X mX11_e (tv L sz Q)) (hsz : 161 ≤ sz) (v1 : Int32) (v2 : Int32) (v3 : Int32) (hyp : ∃ Q1, tiK d mX11_isGood [.ref 105] L sz T Q1 ∧ ∀ (r1 : Int32) (T1 : tT), Q1 r1 T1 → (((r1 = 0 → Q T1) ∧ (¬ r1 = 0 → (((T1.1 105 37) ≤ 0 → Q T1) ∧ (¬ (T1.1 105 37) ≤ 0 → ((¬ v3 = (2 : Int32) → ∃ Q1, tiK d mX11_value [.ref 105, .int v3, .int v1, .int v2] L sz T1 Q1 ∧ ∀ (r2 : Int32) (T2 : tT), Q1 r2 T2 → (ax_j X 19 [some (.ref 105), some (.int v1), some (.int v2), some (.int r2)] [] (th L sz T2) 0 0)) ∧ (v3 = (2 : Int32) → ∃ Q1, tiK d mX11_behind [.ref 105] L sz T1 Q1 ∧ ∀ (r3 : Int32) (T3 : tT), Q1 r3 T3 → (ax_j X 19 [some (.ref 105), some (.int v1), some (.int v2), some (.int r3)] [] (th L sz T3) 0 0))))))))) : ax_j X 19 [some (.ref 105), some (.int v1), some (.int v2), some (.int v3)] [] (th L sz T) 0 0 := by
  refine ax_aload_n hX dX11_e_19 (Or.inr ⟨_, rfl⟩) rfl ?_
  obtain ⟨Q1, hK, hyp⟩ := hyp
  refine ax_callV hX lRX11_95 im_X11_isGood sl_X11_isGood cw_X11_isGood ((th_at (by decide) (Nat.lt_of_lt_of_le (by decide) hsz)).trans (tc_ob ly_105)) rfl rfl (A := []) (st := []) rfl rfl (Nat.le_of_ble_eq_true rfl) (by decide) (by decide) dX11_e_20 hK ?_
  rintro _ _ ⟨r1, T1, rfl, rfl, hq⟩
  replace hyp := hyp r1 T1 hq
  refine ax_if_eq hX dX11_e_23 (tgt := 56) (by decide) (fun c => ?_) (fun c => ?_)
  · replace hyp := hyp.1 c
    exact hR.2.2.2 _ _ _ _ _ (by decide) (by decide) dX11_e_56 rfl ⟨_, rfl, rfl, hyp⟩
  · replace hyp := hyp.2 c
    refine ax_aload_n hX dX11_e_26 (Or.inr ⟨_, rfl⟩) rfl ?_
    refine tx_getI hX fRX11_322 ly_105 fk_11_37 (by decide) (Nat.lt_of_lt_of_le (by decide) hsz) dX11_e_27 ?_
    refine ax_if_le hX dX11_e_30 (tgt := 56) (by decide) (fun c => ?_) (fun c => ?_)
    · replace hyp := hyp.1 c
      exact hR.2.2.2 _ _ _ _ _ (by decide) (by decide) dX11_e_56 rfl ⟨_, rfl, rfl, hyp⟩
    · replace hyp := hyp.2 c
      refine ax_iload_n hX dX11_e_33 rfl ?_
      refine ax_iconst hX dX11_e_34 (v := 2) (by decide) ?_
      refine ax_icmp_ne hX dX11_e_35 (tgt := 45) (by decide) (fun c => ?_) (fun c => ?_)
      · replace hyp := hyp.1 c
        refine ax_aload_n hX dX11_e_45 (Or.inr ⟨_, rfl⟩) rfl ?_
        refine ax_iload_n hX dX11_e_46 rfl ?_
        refine ax_iload_n hX dX11_e_47 rfl ?_
        refine ax_iload_n hX dX11_e_48 rfl ?_
        obtain ⟨Q1, hK, hyp⟩ := hyp
        refine ax_callV hX lRX11_335 im_X11_value sl_X11_value cw_X11_value ((th_at (by decide) (Nat.lt_of_lt_of_le (by decide) hsz)).trans (tc_ob ly_105)) rfl rfl (A := [.int v3, .int v1, .int v2]) (st := []) rfl rfl (Nat.le_of_ble_eq_true rfl) (by decide) (by decide) dX11_e_49 hK ?_
        rintro _ _ ⟨r2, T2, rfl, rfl, hq⟩
        replace hyp := hyp r2 T2 hq
        refine ax_istore_n hX dX11_e_52 (by decide) (L' := [some (.ref 105), some (.int v1), some (.int v2), some (.int r2)]) rfl ?_
        refine ax_goto hX dX11_e_53 (tgt := 19) (by decide) ?_
        exact ax_forget (L' := [some (.ref 105), some (.int v1), some (.int v2), some (.int r2)]) (⟨rfl, ⟨rfl, ⟨rfl, ⟨rfl, trivial⟩⟩⟩⟩) hyp
      · replace hyp := hyp.2 c
        refine ax_aload_n hX dX11_e_38 (Or.inr ⟨_, rfl⟩) rfl ?_
        obtain ⟨Q1, hK, hyp⟩ := hyp
        refine ax_callV hX lRX11_331 im_X11_behind sl_X11_behind cw_X11_behind ((th_at (by decide) (Nat.lt_of_lt_of_le (by decide) hsz)).trans (tc_ob ly_105)) rfl rfl (A := []) (st := []) rfl rfl (Nat.le_of_ble_eq_true rfl) (by decide) (by decide) dX11_e_39 hK ?_
        rintro _ _ ⟨r3, T3, rfl, rfl, hq⟩
        replace hyp := hyp r3 T3 hq
        refine ax_goto hX dX11_e_42 (tgt := 52) (by decide) ?_
        refine ax_istore_n hX dX11_e_52 (by decide) (L' := [some (.ref 105), some (.int v1), some (.int v2), some (.int r3)]) rfl ?_
        refine ax_goto hX dX11_e_53 (tgt := 19) (by decide) ?_
        exact ax_forget (L' := [some (.ref 105), some (.int v1), some (.int v2), some (.int r3)]) (⟨rfl, ⟨rfl, ⟨rfl, ⟨rfl, trivial⟩⟩⟩⟩) hyp
set_option maxRecDepth 10000 in
theorem s_X11_end_0 {X : ax_X} {d L sz : Nat} {T : tT} {Q : Int32 → tT → Prop} (hX : ax_ok X mX11_end d) (hR : ax_Ret X mX11_end (ti L sz Q)) (hsz : 161 ≤ sz) (x0 : Int32) (hyp : ((x0 < 0 → Q (-1 : Int32) T) ∧ (¬ x0 < 0 → ((x0 ≤ (T.1 105 2) → Q x0 (tI T 105 2 x0)) ∧ (¬ x0 ≤ (T.1 105 2) → Q (-1 : Int32) T))))) : ax_j X 0 [some (.ref 105), some (.int x0)] [] (th L sz T) 0 0 := by
  refine ax_iload_n hX dX11_end_0 rfl ?_
  refine ax_if_lt hX dX11_end_1 (tgt := 12) (by decide) (fun c => ?_) (fun c => ?_)
  · replace hyp := hyp.1 c
    refine ax_iconst hX dX11_end_12 (v := -1) (by decide) ?_
    exact hR.1 _ _ _ _ _ _ (by decide) (by decide) dX11_end_13 ⟨_, rfl, rfl⟩ ⟨_, _, rfl, rfl, hyp⟩
  · replace hyp := hyp.2 c
    refine ax_iload_n hX dX11_end_4 rfl ?_
    refine ax_aload_n hX dX11_end_5 (Or.inr ⟨_, rfl⟩) rfl ?_
    refine tx_getI hX fRX11_272 ly_105 fk_11_2 (by decide) (Nat.lt_of_lt_of_le (by decide) hsz) dX11_end_6 ?_
    refine ax_icmp_le hX dX11_end_9 (tgt := 14) (by decide) (fun c => ?_) (fun c => ?_)
    · replace hyp := hyp.1 c
      refine ax_aload_n hX dX11_end_14 (Or.inr ⟨_, rfl⟩) rfl ?_
      refine ax_iload_n hX dX11_end_15 rfl ?_
      refine tx_putI hX fRX11_272 ly_105 fk_11_2 (by decide) (Nat.lt_of_lt_of_le (by decide) hsz) rfl rfl dX11_end_16 ?_
      refine ax_iload_n hX dX11_end_19 rfl ?_
      exact hR.1 _ _ _ _ _ _ (by decide) (by decide) dX11_end_20 ⟨_, rfl, rfl⟩ ⟨_, _, rfl, rfl, hyp⟩
    · replace hyp := hyp.2 c
      refine ax_iconst hX dX11_end_12 (v := -1) (by decide) ?_
      exact hR.1 _ _ _ _ _ _ (by decide) (by decide) dX11_end_13 ⟨_, rfl, rfl⟩ ⟨_, _, rfl, rfl, hyp⟩
set_option maxRecDepth 10000 in
theorem s_X11_entry_0 {X : ax_X} {d L sz : Nat} {T : tT} {Q : Int32 → tT → Prop} (hX : ax_ok X mX11_entry d) (hR : ax_Ret X mX11_entry (ti L sz Q)) (hsz : 161 ≤ sz) (x0 : Int32) (x1 : Int32) (x2 : Int32) (x3 : Int32) (x4 : Int32) (x5 : Int32) (hyp : ((x0 < 0 → Q (-1 : Int32) T) ∧ (¬ x0 < 0 → (((99 : Int32) < x0 → Q (-1 : Int32) T) ∧ (¬ (99 : Int32) < x0 → ((x1 < 0 → Q (-1 : Int32) T) ∧ (¬ x1 < 0 → (((4 : Int32) ≤ x1 → Q (-1 : Int32) T) ∧ (¬ (4 : Int32) ≤ x1 → ((x2 < (1 : Int32) → Q (-1 : Int32) T) ∧ (¬ x2 < (1 : Int32) → (((8 : Int32) < x2 → Q (-1 : Int32) T) ∧ (¬ (8 : Int32) < x2 → ((x3 < 0 → Q (-1 : Int32) T) ∧ (¬ x3 < 0 → (((7 : Int32) < x3 → Q (-1 : Int32) T) ∧ (¬ (7 : Int32) < x3 → ((x4 < (4 : Int32) → Q (-1 : Int32) T) ∧ (¬ x4 < (4 : Int32) → (((99 : Int32) < x4 → Q (-1 : Int32) T) ∧ (¬ (99 : Int32) < x4 → ((x5 < (-1 : Int32) → Q (-1 : Int32) T) ∧ (¬ x5 < (-1 : Int32) → (((T.1 105 57) ≤ x5 → Q (-1 : Int32) T) ∧ (¬ (T.1 105 57) ≤ x5 → ((¬ (T.1 105 48) = (40 : Int32) → vp_in (T.1 105 48) 40 ∧ vp_in (T.1 105 48) 40 ∧ vp_in (T.1 105 48) 40 ∧ vp_in (T.1 105 48) 40 ∧ vp_in (T.1 105 48) 40 ∧ vp_in (T.1 105 48) 40 ∧ vp_in (T.1 105 48) 40 ∧ vp_in (T.1 105 48) 40 ∧ Q (((T.1 105 48) + (1 : Int32)) - (1 : Int32)) (tI (tI (tI (tI (tI (tI (tI (tI (tI T 131 ((T.1 105 48).toNatClampNeg) x0) 132 ((T.1 105 48).toNatClampNeg) x1) 133 ((T.1 105 48).toNatClampNeg) x2) 134 ((T.1 105 48).toNatClampNeg) x3) 135 ((T.1 105 48).toNatClampNeg) x4) 136 ((T.1 105 48).toNatClampNeg) x5) 137 ((T.1 105 48).toNatClampNeg) (0 : Int32)) 138 ((T.1 105 48).toNatClampNeg) (-1 : Int32)) 105 48 ((T.1 105 48) + (1 : Int32)))) ∧ ((T.1 105 48) = (40 : Int32) → Q (-1 : Int32) T))))))))))))))))))))))))))) : ax_j X 0 [some (.ref 105), some (.int x0), some (.int x1), some (.int x2), some (.int x3), some (.int x4), some (.int x5)] [] (th L sz T) 0 0 := by
  refine ax_iload_n hX dX11_entry_0 rfl ?_
  refine ax_if_lt hX dX11_entry_1 (tgt := 79) (by decide) (fun c => ?_) (fun c => ?_)
  · replace hyp := hyp.1 c
    refine ax_iconst hX dX11_entry_79 (v := -1) (by decide) ?_
    exact hR.1 _ _ _ _ _ _ (by decide) (by decide) dX11_entry_80 ⟨_, rfl, rfl⟩ ⟨_, _, rfl, rfl, hyp⟩
  · replace hyp := hyp.2 c
    refine ax_iload_n hX dX11_entry_4 rfl ?_
    refine ax_bipush hX dX11_entry_5 (v := 99) (by decide) ?_
    refine ax_icmp_gt hX dX11_entry_7 (tgt := 79) (by decide) (fun c => ?_) (fun c => ?_)
    · replace hyp := hyp.1 c
      refine ax_iconst hX dX11_entry_79 (v := -1) (by decide) ?_
      exact hR.1 _ _ _ _ _ _ (by decide) (by decide) dX11_entry_80 ⟨_, rfl, rfl⟩ ⟨_, _, rfl, rfl, hyp⟩
    · replace hyp := hyp.2 c
      refine ax_iload_n hX dX11_entry_10 rfl ?_
      refine ax_if_lt hX dX11_entry_11 (tgt := 79) (by decide) (fun c => ?_) (fun c => ?_)
      · replace hyp := hyp.1 c
        refine ax_iconst hX dX11_entry_79 (v := -1) (by decide) ?_
        exact hR.1 _ _ _ _ _ _ (by decide) (by decide) dX11_entry_80 ⟨_, rfl, rfl⟩ ⟨_, _, rfl, rfl, hyp⟩
      · replace hyp := hyp.2 c
        refine ax_iload_n hX dX11_entry_14 rfl ?_
        refine ax_iconst hX dX11_entry_15 (v := 4) (by decide) ?_
        refine ax_icmp_ge hX dX11_entry_16 (tgt := 79) (by decide) (fun c => ?_) (fun c => ?_)
        · replace hyp := hyp.1 c
          refine ax_iconst hX dX11_entry_79 (v := -1) (by decide) ?_
          exact hR.1 _ _ _ _ _ _ (by decide) (by decide) dX11_entry_80 ⟨_, rfl, rfl⟩ ⟨_, _, rfl, rfl, hyp⟩
        · replace hyp := hyp.2 c
          refine ax_iload_n hX dX11_entry_19 rfl ?_
          refine ax_iconst hX dX11_entry_20 (v := 1) (by decide) ?_
          refine ax_icmp_lt hX dX11_entry_21 (tgt := 79) (by decide) (fun c => ?_) (fun c => ?_)
          · replace hyp := hyp.1 c
            refine ax_iconst hX dX11_entry_79 (v := -1) (by decide) ?_
            exact hR.1 _ _ _ _ _ _ (by decide) (by decide) dX11_entry_80 ⟨_, rfl, rfl⟩ ⟨_, _, rfl, rfl, hyp⟩
          · replace hyp := hyp.2 c
            refine ax_iload_n hX dX11_entry_24 rfl ?_
            refine ax_bipush hX dX11_entry_25 (v := 8) (by decide) ?_
            refine ax_icmp_gt hX dX11_entry_27 (tgt := 79) (by decide) (fun c => ?_) (fun c => ?_)
            · replace hyp := hyp.1 c
              refine ax_iconst hX dX11_entry_79 (v := -1) (by decide) ?_
              exact hR.1 _ _ _ _ _ _ (by decide) (by decide) dX11_entry_80 ⟨_, rfl, rfl⟩ ⟨_, _, rfl, rfl, hyp⟩
            · replace hyp := hyp.2 c
              refine ax_iload hX dX11_entry_30 rfl ?_
              refine ax_if_lt hX dX11_entry_32 (tgt := 79) (by decide) (fun c => ?_) (fun c => ?_)
              · replace hyp := hyp.1 c
                refine ax_iconst hX dX11_entry_79 (v := -1) (by decide) ?_
                exact hR.1 _ _ _ _ _ _ (by decide) (by decide) dX11_entry_80 ⟨_, rfl, rfl⟩ ⟨_, _, rfl, rfl, hyp⟩
              · replace hyp := hyp.2 c
                refine ax_iload hX dX11_entry_35 rfl ?_
                refine ax_bipush hX dX11_entry_37 (v := 7) (by decide) ?_
                refine ax_icmp_gt hX dX11_entry_39 (tgt := 79) (by decide) (fun c => ?_) (fun c => ?_)
                · replace hyp := hyp.1 c
                  refine ax_iconst hX dX11_entry_79 (v := -1) (by decide) ?_
                  exact hR.1 _ _ _ _ _ _ (by decide) (by decide) dX11_entry_80 ⟨_, rfl, rfl⟩ ⟨_, _, rfl, rfl, hyp⟩
                · replace hyp := hyp.2 c
                  refine ax_iload hX dX11_entry_42 rfl ?_
                  refine ax_iconst hX dX11_entry_44 (v := 4) (by decide) ?_
                  refine ax_icmp_lt hX dX11_entry_45 (tgt := 79) (by decide) (fun c => ?_) (fun c => ?_)
                  · replace hyp := hyp.1 c
                    refine ax_iconst hX dX11_entry_79 (v := -1) (by decide) ?_
                    exact hR.1 _ _ _ _ _ _ (by decide) (by decide) dX11_entry_80 ⟨_, rfl, rfl⟩ ⟨_, _, rfl, rfl, hyp⟩
                  · replace hyp := hyp.2 c
                    refine ax_iload hX dX11_entry_48 rfl ?_
                    refine ax_bipush hX dX11_entry_50 (v := 99) (by decide) ?_
                    refine ax_icmp_gt hX dX11_entry_52 (tgt := 79) (by decide) (fun c => ?_) (fun c => ?_)
                    · replace hyp := hyp.1 c
                      refine ax_iconst hX dX11_entry_79 (v := -1) (by decide) ?_
                      exact hR.1 _ _ _ _ _ _ (by decide) (by decide) dX11_entry_80 ⟨_, rfl, rfl⟩ ⟨_, _, rfl, rfl, hyp⟩
                    · replace hyp := hyp.2 c
                      refine ax_iload hX dX11_entry_55 rfl ?_
                      refine ax_iconst hX dX11_entry_57 (v := -1) (by decide) ?_
                      refine ax_icmp_lt hX dX11_entry_58 (tgt := 79) (by decide) (fun c => ?_) (fun c => ?_)
                      · replace hyp := hyp.1 c
                        refine ax_iconst hX dX11_entry_79 (v := -1) (by decide) ?_
                        exact hR.1 _ _ _ _ _ _ (by decide) (by decide) dX11_entry_80 ⟨_, rfl, rfl⟩ ⟨_, _, rfl, rfl, hyp⟩
                      · replace hyp := hyp.2 c
                        refine ax_iload hX dX11_entry_61 rfl ?_
                        refine ax_aload_n hX dX11_entry_63 (Or.inr ⟨_, rfl⟩) rfl ?_
                        refine tx_getI hX fRX11_357 ly_105 fk_11_57 (by decide) (Nat.lt_of_lt_of_le (by decide) hsz) dX11_entry_64 ?_
                        refine ax_icmp_ge hX dX11_entry_67 (tgt := 79) (by decide) (fun c => ?_) (fun c => ?_)
                        · replace hyp := hyp.1 c
                          refine ax_iconst hX dX11_entry_79 (v := -1) (by decide) ?_
                          exact hR.1 _ _ _ _ _ _ (by decide) (by decide) dX11_entry_80 ⟨_, rfl, rfl⟩ ⟨_, _, rfl, rfl, hyp⟩
                        · replace hyp := hyp.2 c
                          refine ax_aload_n hX dX11_entry_70 (Or.inr ⟨_, rfl⟩) rfl ?_
                          refine tx_getI hX fRX11_354 ly_105 fk_11_48 (by decide) (Nat.lt_of_lt_of_le (by decide) hsz) dX11_entry_71 ?_
                          refine ax_bipush hX dX11_entry_74 (v := 40) (by decide) ?_
                          refine ax_icmp_ne hX dX11_entry_76 (tgt := 81) (by decide) (fun c => ?_) (fun c => ?_)
                          · replace hyp := hyp.1 c
                            refine ax_aload_n hX dX11_entry_81 (Or.inr ⟨_, rfl⟩) rfl ?_
                            refine tx_getF hX fRX11_182 ly_105 (o := 26) (b := 131) fk_11_39 rfl (by decide) (Nat.lt_of_lt_of_le (by decide) hsz) dX11_entry_82 ?_
                            refine ax_aload_n hX dX11_entry_85 (Or.inr ⟨_, rfl⟩) rfl ?_
                            refine tx_getI hX fRX11_354 ly_105 fk_11_48 (by decide) (Nat.lt_of_lt_of_le (by decide) hsz) dX11_entry_86 ?_
                            refine ax_iload_n hX dX11_entry_89 rfl ?_
                            refine tx_ias hX ly_131 (by decide) (Nat.lt_of_lt_of_le (by decide) hsz) hyp.1 dX11_entry_90 ?_
                            replace hyp := hyp.2
                            refine ax_aload_n hX dX11_entry_91 (Or.inr ⟨_, rfl⟩) rfl ?_
                            refine tx_getF hX fRX11_185 ly_105 (o := 27) (b := 132) fk_11_40 rfl (by decide) (Nat.lt_of_lt_of_le (by decide) hsz) dX11_entry_92 ?_
                            refine ax_aload_n hX dX11_entry_95 (Or.inr ⟨_, rfl⟩) rfl ?_
                            refine tx_getI hX fRX11_354 ly_105 fk_11_48 (by decide) (Nat.lt_of_lt_of_le (by decide) hsz) dX11_entry_96 ?_
                            refine ax_iload_n hX dX11_entry_99 rfl ?_
                            refine tx_ias hX ly_132 (by decide) (Nat.lt_of_lt_of_le (by decide) hsz) hyp.1 dX11_entry_100 ?_
                            replace hyp := hyp.2
                            refine ax_aload_n hX dX11_entry_101 (Or.inr ⟨_, rfl⟩) rfl ?_
                            refine tx_getF hX fRX11_188 ly_105 (o := 28) (b := 133) fk_11_41 rfl (by decide) (Nat.lt_of_lt_of_le (by decide) hsz) dX11_entry_102 ?_
                            refine ax_aload_n hX dX11_entry_105 (Or.inr ⟨_, rfl⟩) rfl ?_
                            refine tx_getI hX fRX11_354 ly_105 fk_11_48 (by decide) (Nat.lt_of_lt_of_le (by decide) hsz) dX11_entry_106 ?_
                            refine ax_iload_n hX dX11_entry_109 rfl ?_
                            refine tx_ias hX ly_133 (by decide) (Nat.lt_of_lt_of_le (by decide) hsz) hyp.1 dX11_entry_110 ?_
                            replace hyp := hyp.2
                            refine ax_aload_n hX dX11_entry_111 (Or.inr ⟨_, rfl⟩) rfl ?_
                            refine tx_getF hX fRX11_191 ly_105 (o := 29) (b := 134) fk_11_42 rfl (by decide) (Nat.lt_of_lt_of_le (by decide) hsz) dX11_entry_112 ?_
                            refine ax_aload_n hX dX11_entry_115 (Or.inr ⟨_, rfl⟩) rfl ?_
                            refine tx_getI hX fRX11_354 ly_105 fk_11_48 (by decide) (Nat.lt_of_lt_of_le (by decide) hsz) dX11_entry_116 ?_
                            refine ax_iload hX dX11_entry_119 rfl ?_
                            refine tx_ias hX ly_134 (by decide) (Nat.lt_of_lt_of_le (by decide) hsz) hyp.1 dX11_entry_121 ?_
                            replace hyp := hyp.2
                            refine ax_aload_n hX dX11_entry_122 (Or.inr ⟨_, rfl⟩) rfl ?_
                            refine tx_getF hX fRX11_194 ly_105 (o := 30) (b := 135) fk_11_43 rfl (by decide) (Nat.lt_of_lt_of_le (by decide) hsz) dX11_entry_123 ?_
                            refine ax_aload_n hX dX11_entry_126 (Or.inr ⟨_, rfl⟩) rfl ?_
                            refine tx_getI hX fRX11_354 ly_105 fk_11_48 (by decide) (Nat.lt_of_lt_of_le (by decide) hsz) dX11_entry_127 ?_
                            refine ax_iload hX dX11_entry_130 rfl ?_
                            refine tx_ias hX ly_135 (by decide) (Nat.lt_of_lt_of_le (by decide) hsz) hyp.1 dX11_entry_132 ?_
                            replace hyp := hyp.2
                            refine ax_aload_n hX dX11_entry_133 (Or.inr ⟨_, rfl⟩) rfl ?_
                            refine tx_getF hX fRX11_197 ly_105 (o := 31) (b := 136) fk_11_44 rfl (by decide) (Nat.lt_of_lt_of_le (by decide) hsz) dX11_entry_134 ?_
                            refine ax_aload_n hX dX11_entry_137 (Or.inr ⟨_, rfl⟩) rfl ?_
                            refine tx_getI hX fRX11_354 ly_105 fk_11_48 (by decide) (Nat.lt_of_lt_of_le (by decide) hsz) dX11_entry_138 ?_
                            refine ax_iload hX dX11_entry_141 rfl ?_
                            refine tx_ias hX ly_136 (by decide) (Nat.lt_of_lt_of_le (by decide) hsz) hyp.1 dX11_entry_143 ?_
                            replace hyp := hyp.2
                            refine ax_aload_n hX dX11_entry_144 (Or.inr ⟨_, rfl⟩) rfl ?_
                            refine tx_getF hX fRX11_200 ly_105 (o := 32) (b := 137) fk_11_45 rfl (by decide) (Nat.lt_of_lt_of_le (by decide) hsz) dX11_entry_145 ?_
                            refine ax_aload_n hX dX11_entry_148 (Or.inr ⟨_, rfl⟩) rfl ?_
                            refine tx_getI hX fRX11_354 ly_105 fk_11_48 (by decide) (Nat.lt_of_lt_of_le (by decide) hsz) dX11_entry_149 ?_
                            refine ax_iconst hX dX11_entry_152 (v := 0) (by decide) ?_
                            refine tx_ias hX ly_137 (by decide) (Nat.lt_of_lt_of_le (by decide) hsz) hyp.1 dX11_entry_153 ?_
                            replace hyp := hyp.2
                            refine ax_aload_n hX dX11_entry_154 (Or.inr ⟨_, rfl⟩) rfl ?_
                            refine tx_getF hX fRX11_203 ly_105 (o := 33) (b := 138) fk_11_46 rfl (by decide) (Nat.lt_of_lt_of_le (by decide) hsz) dX11_entry_155 ?_
                            refine ax_aload_n hX dX11_entry_158 (Or.inr ⟨_, rfl⟩) rfl ?_
                            refine tx_getI hX fRX11_354 ly_105 fk_11_48 (by decide) (Nat.lt_of_lt_of_le (by decide) hsz) dX11_entry_159 ?_
                            refine ax_iconst hX dX11_entry_162 (v := -1) (by decide) ?_
                            refine tx_ias hX ly_138 (by decide) (Nat.lt_of_lt_of_le (by decide) hsz) hyp.1 dX11_entry_163 ?_
                            replace hyp := hyp.2
                            refine ax_aload_n hX dX11_entry_164 (Or.inr ⟨_, rfl⟩) rfl ?_
                            refine ax_dup hX dX11_entry_165 rfl ?_
                            refine tx_getI hX fRX11_354 ly_105 fk_11_48 (by decide) (Nat.lt_of_lt_of_le (by decide) hsz) dX11_entry_166 ?_
                            refine ax_iconst hX dX11_entry_169 (v := 1) (by decide) ?_
                            refine ax_iadd hX dX11_entry_170 ?_
                            refine tx_putI hX fRX11_354 ly_105 fk_11_48 (by decide) (Nat.lt_of_lt_of_le (by decide) hsz) rfl rfl dX11_entry_171 ?_
                            refine ax_aload_n hX dX11_entry_174 (Or.inr ⟨_, rfl⟩) rfl ?_
                            refine tx_getI hX fRX11_354 ly_105 fk_11_48 (by decide) (Nat.lt_of_lt_of_le (by decide) hsz) dX11_entry_175 ?_
                            refine ax_iconst hX dX11_entry_178 (v := 1) (by decide) ?_
                            refine ax_isub hX dX11_entry_179 ?_
                            exact hR.1 _ _ _ _ _ _ (by decide) (by decide) dX11_entry_180 ⟨_, rfl, rfl⟩ ⟨_, _, rfl, rfl, hyp⟩
                          · replace hyp := hyp.2 c
                            refine ax_iconst hX dX11_entry_79 (v := -1) (by decide) ?_
                            exact hR.1 _ _ _ _ _ _ (by decide) (by decide) dX11_entry_80 ⟨_, rfl, rfl⟩ ⟨_, _, rfl, rfl, hyp⟩
set_option maxRecDepth 10000 in
theorem s_X11_examiner_0 {X : ax_X} {d L sz : Nat} {T : tT} {Q : Int32 → tT → Prop} (hX : ax_ok X mX11_examiner (d + 1)) (hR : ax_Ret X mX11_examiner (ti L sz Q)) (hsz : 161 ≤ sz) (x0 : Int32) (x1 : Int32) (hyp : ∃ Q1, tiK d mX11_isCentre [.ref 105, .int x0] L sz T Q1 ∧ ∀ (r1 : Int32) (T1 : tT), Q1 r1 T1 → (((r1 = 0 → Q (-1 : Int32) T1) ∧ (¬ r1 = 0 → ((x1 < 0 → Q (-1 : Int32) T1) ∧ (¬ x1 < 0 → (((255 : Int32) < x1 → Q (-1 : Int32) T1) ∧ (¬ (255 : Int32) < x1 → ((¬ (T1.1 105 57) = (5 : Int32) → vp_in (T1.1 105 57) 5 ∧ vp_in (T1.1 105 57) 5 ∧ Q (((T1.1 105 57) + (1 : Int32)) - (1 : Int32)) (tI (tI (tI T1 143 ((T1.1 105 57).toNatClampNeg) x0) 144 ((T1.1 105 57).toNatClampNeg) x1) 105 57 ((T1.1 105 57) + (1 : Int32)))) ∧ ((T1.1 105 57) = (5 : Int32) → Q (-1 : Int32) T1)))))))))) : ax_j X 0 [some (.ref 105), some (.int x0), some (.int x1)] [] (th L sz T) 0 0 := by
  refine ax_aload_n hX dX11_examiner_0 (Or.inr ⟨_, rfl⟩) rfl ?_
  refine ax_iload_n hX dX11_examiner_1 rfl ?_
  obtain ⟨Q1, hK, hyp⟩ := hyp
  refine ax_callV hX lRX11_397 im_X11_isCentre sl_X11_isCentre cw_X11_isCentre ((th_at (by decide) (Nat.lt_of_lt_of_le (by decide) hsz)).trans (tc_ob ly_105)) rfl rfl (A := [.int x0]) (st := []) rfl rfl (Nat.le_of_ble_eq_true rfl) (by decide) (by decide) dX11_examiner_2 hK ?_
  rintro _ _ ⟨r1, T1, rfl, rfl, hq⟩
  replace hyp := hyp r1 T1 hq
  refine ax_if_eq hX dX11_examiner_5 (tgt := 27) (by decide) (fun c => ?_) (fun c => ?_)
  · replace hyp := hyp.1 c
    refine ax_iconst hX dX11_examiner_27 (v := -1) (by decide) ?_
    exact hR.1 _ _ _ _ _ _ (by decide) (by decide) dX11_examiner_28 ⟨_, rfl, rfl⟩ ⟨_, _, rfl, rfl, hyp⟩
  · replace hyp := hyp.2 c
    refine ax_iload_n hX dX11_examiner_8 rfl ?_
    refine ax_if_lt hX dX11_examiner_9 (tgt := 27) (by decide) (fun c => ?_) (fun c => ?_)
    · replace hyp := hyp.1 c
      refine ax_iconst hX dX11_examiner_27 (v := -1) (by decide) ?_
      exact hR.1 _ _ _ _ _ _ (by decide) (by decide) dX11_examiner_28 ⟨_, rfl, rfl⟩ ⟨_, _, rfl, rfl, hyp⟩
    · replace hyp := hyp.2 c
      refine ax_iload_n hX dX11_examiner_12 rfl ?_
      refine ax_sipush hX dX11_examiner_13 (v := 255) (by decide) ?_
      refine ax_icmp_gt hX dX11_examiner_16 (tgt := 27) (by decide) (fun c => ?_) (fun c => ?_)
      · replace hyp := hyp.1 c
        refine ax_iconst hX dX11_examiner_27 (v := -1) (by decide) ?_
        exact hR.1 _ _ _ _ _ _ (by decide) (by decide) dX11_examiner_28 ⟨_, rfl, rfl⟩ ⟨_, _, rfl, rfl, hyp⟩
      · replace hyp := hyp.2 c
        refine ax_aload_n hX dX11_examiner_19 (Or.inr ⟨_, rfl⟩) rfl ?_
        refine tx_getI hX fRX11_357 ly_105 fk_11_57 (by decide) (Nat.lt_of_lt_of_le (by decide) hsz) dX11_examiner_20 ?_
        refine ax_iconst hX dX11_examiner_23 (v := 5) (by decide) ?_
        refine ax_icmp_ne hX dX11_examiner_24 (tgt := 29) (by decide) (fun c => ?_) (fun c => ?_)
        · replace hyp := hyp.1 c
          refine ax_aload_n hX dX11_examiner_29 (Or.inr ⟨_, rfl⟩) rfl ?_
          refine tx_getF hX fRX11_218 ly_105 (o := 38) (b := 143) fk_11_52 rfl (by decide) (Nat.lt_of_lt_of_le (by decide) hsz) dX11_examiner_30 ?_
          refine ax_aload_n hX dX11_examiner_33 (Or.inr ⟨_, rfl⟩) rfl ?_
          refine tx_getI hX fRX11_357 ly_105 fk_11_57 (by decide) (Nat.lt_of_lt_of_le (by decide) hsz) dX11_examiner_34 ?_
          refine ax_iload_n hX dX11_examiner_37 rfl ?_
          refine tx_ias hX ly_143 (by decide) (Nat.lt_of_lt_of_le (by decide) hsz) hyp.1 dX11_examiner_38 ?_
          replace hyp := hyp.2
          refine ax_aload_n hX dX11_examiner_39 (Or.inr ⟨_, rfl⟩) rfl ?_
          refine tx_getF hX fRX11_221 ly_105 (o := 39) (b := 144) fk_11_53 rfl (by decide) (Nat.lt_of_lt_of_le (by decide) hsz) dX11_examiner_40 ?_
          refine ax_aload_n hX dX11_examiner_43 (Or.inr ⟨_, rfl⟩) rfl ?_
          refine tx_getI hX fRX11_357 ly_105 fk_11_57 (by decide) (Nat.lt_of_lt_of_le (by decide) hsz) dX11_examiner_44 ?_
          refine ax_iload_n hX dX11_examiner_47 rfl ?_
          refine tx_ias hX ly_144 (by decide) (Nat.lt_of_lt_of_le (by decide) hsz) hyp.1 dX11_examiner_48 ?_
          replace hyp := hyp.2
          refine ax_aload_n hX dX11_examiner_49 (Or.inr ⟨_, rfl⟩) rfl ?_
          refine ax_dup hX dX11_examiner_50 rfl ?_
          refine tx_getI hX fRX11_357 ly_105 fk_11_57 (by decide) (Nat.lt_of_lt_of_le (by decide) hsz) dX11_examiner_51 ?_
          refine ax_iconst hX dX11_examiner_54 (v := 1) (by decide) ?_
          refine ax_iadd hX dX11_examiner_55 ?_
          refine tx_putI hX fRX11_357 ly_105 fk_11_57 (by decide) (Nat.lt_of_lt_of_le (by decide) hsz) rfl rfl dX11_examiner_56 ?_
          refine ax_aload_n hX dX11_examiner_59 (Or.inr ⟨_, rfl⟩) rfl ?_
          refine tx_getI hX fRX11_357 ly_105 fk_11_57 (by decide) (Nat.lt_of_lt_of_le (by decide) hsz) dX11_examiner_60 ?_
          refine ax_iconst hX dX11_examiner_63 (v := 1) (by decide) ?_
          refine ax_isub hX dX11_examiner_64 ?_
          exact hR.1 _ _ _ _ _ _ (by decide) (by decide) dX11_examiner_65 ⟨_, rfl, rfl⟩ ⟨_, _, rfl, rfl, hyp⟩
        · replace hyp := hyp.2 c
          refine ax_iconst hX dX11_examiner_27 (v := -1) (by decide) ?_
          exact hR.1 _ _ _ _ _ _ (by decide) (by decide) dX11_examiner_28 ⟨_, rfl, rfl⟩ ⟨_, _, rfl, rfl, hyp⟩
set_option maxRecDepth 10000 in
theorem s_X11_fails_0 {X : ax_X} {d L sz : Nat} {T : tT} {Q : tT → Prop} (hX : ax_ok X mX11_fails d) (hR : ax_Ret X mX11_fails (tv L sz Q)) (hsz : 161 ≤ sz) (x0 : Int32) (x1 : Int32) (hyp : (((T.1 105 4) ≤ 0 → Q (tI (tI T 105 4 x0) 105 5 x1)) ∧ (¬ (T.1 105 4) ≤ 0 → Q T))) : ax_j X 0 [some (.ref 105), some (.int x0), some (.int x1)] [] (th L sz T) 0 0 := by
  refine ax_aload_n hX dX11_fails_0 (Or.inr ⟨_, rfl⟩) rfl ?_
  refine tx_getI hX fRX11_11 ly_105 fk_11_4 (by decide) (Nat.lt_of_lt_of_le (by decide) hsz) dX11_fails_1 ?_
  refine ax_if_le hX dX11_fails_4 (tgt := 8) (by decide) (fun c => ?_) (fun c => ?_)
  · replace hyp := hyp.1 c
    refine ax_aload_n hX dX11_fails_8 (Or.inr ⟨_, rfl⟩) rfl ?_
    refine ax_iload_n hX dX11_fails_9 rfl ?_
    refine tx_putI hX fRX11_11 ly_105 fk_11_4 (by decide) (Nat.lt_of_lt_of_le (by decide) hsz) rfl rfl dX11_fails_10 ?_
    refine ax_aload_n hX dX11_fails_13 (Or.inr ⟨_, rfl⟩) rfl ?_
    refine ax_iload_n hX dX11_fails_14 rfl ?_
    refine tx_putI hX fRX11_14 ly_105 fk_11_5 (by decide) (Nat.lt_of_lt_of_le (by decide) hsz) rfl rfl dX11_fails_15 ?_
    exact hR.2.2.2 _ _ _ _ _ (by decide) (by decide) dX11_fails_18 rfl ⟨_, rfl, rfl, hyp⟩
  · replace hyp := hyp.2 c
    exact hR.2.2.2 _ _ _ _ _ (by decide) (by decide) dX11_fails_7 rfl ⟨_, rfl, rfl, hyp⟩
set_option maxRecDepth 10000 in
theorem s_X11_fault_0 {X : ax_X} {d L sz : Nat} {T : tT} {Q : Int32 → tT → Prop} (hX : ax_ok X mX11_fault d) (hR : ax_Ret X mX11_fault (ti L sz Q)) (hsz : 161 ≤ sz) (x0 : Int32) (hyp : ((¬ x0 = 0 → ((¬ x0 = (1 : Int32) → Q (-1 : Int32) T) ∧ (x0 = (1 : Int32) → Q (T.1 105 5) T))) ∧ (x0 = 0 → Q (T.1 105 4) T))) : ax_j X 0 [some (.ref 105), some (.int x0)] [] (th L sz T) 0 0 := by
  refine ax_iload_n hX dX11_fault_0 rfl ?_
  refine ax_if_ne hX dX11_fault_1 (tgt := 11) (by decide) (fun c => ?_) (fun c => ?_)
  · replace hyp := hyp.1 c
    refine ax_iload_n hX dX11_fault_11 rfl ?_
    refine ax_iconst hX dX11_fault_12 (v := 1) (by decide) ?_
    refine ax_icmp_ne hX dX11_fault_13 (tgt := 23) (by decide) (fun c => ?_) (fun c => ?_)
    · replace hyp := hyp.1 c
      refine ax_iconst hX dX11_fault_23 (v := -1) (by decide) ?_
      exact hR.1 _ _ _ _ _ _ (by decide) (by decide) dX11_fault_24 ⟨_, rfl, rfl⟩ ⟨_, _, rfl, rfl, hyp⟩
    · replace hyp := hyp.2 c
      refine ax_aload_n hX dX11_fault_16 (Or.inr ⟨_, rfl⟩) rfl ?_
      refine tx_getI hX fRX11_14 ly_105 fk_11_5 (by decide) (Nat.lt_of_lt_of_le (by decide) hsz) dX11_fault_17 ?_
      refine ax_goto hX dX11_fault_20 (tgt := 24) (by decide) ?_
      exact hR.1 _ _ _ _ _ _ (by decide) (by decide) dX11_fault_24 ⟨_, rfl, rfl⟩ ⟨_, _, rfl, rfl, hyp⟩
  · replace hyp := hyp.2 c
    refine ax_aload_n hX dX11_fault_4 (Or.inr ⟨_, rfl⟩) rfl ?_
    refine tx_getI hX fRX11_11 ly_105 fk_11_4 (by decide) (Nat.lt_of_lt_of_le (by decide) hsz) dX11_fault_5 ?_
    refine ax_goto hX dX11_fault_8 (tgt := 24) (by decide) ?_
    exact hR.1 _ _ _ _ _ _ (by decide) (by decide) dX11_fault_24 ⟨_, rfl, rfl⟩ ⟨_, _, rfl, rfl, hyp⟩
set_option maxRecDepth 10000 in
theorem s_X11_feed_0 {X : ax_X} {d L sz : Nat} {T : tT} {Q : Int32 → tT → Prop} (hX : ax_ok X mX11_feed d) (hR : ax_Ret X mX11_feed (ti L sz Q)) (hsz : 161 ≤ sz) (x0 : Int32) (x1 : Int32) (x2 : Int32) (x3 : Int32) (x4 : Int32) (hyp : ((((T.1 105 2) + (20 : Int32)) ≤ (1400 : Int32) → ax_j X 18 [some (.ref 105), some (.int x0), some (.int x1), some (.int x2), some (.int x3), some (.int x4), some (.int (0 : Int32)), none] [] (th L sz T) 0 0) ∧ (¬ ((T.1 105 2) + (20 : Int32)) ≤ (1400 : Int32) → Q (-1 : Int32) T))) : ax_j X 0 [some (.ref 105), some (.int x0), some (.int x1), some (.int x2), some (.int x3), some (.int x4), none, none] [] (th L sz T) 0 0 := by
  refine ax_aload_n hX dX11_feed_0 (Or.inr ⟨_, rfl⟩) rfl ?_
  refine tx_getI hX fRX11_272 ly_105 fk_11_2 (by decide) (Nat.lt_of_lt_of_le (by decide) hsz) dX11_feed_1 ?_
  refine ax_bipush hX dX11_feed_4 (v := 20) (by decide) ?_
  refine ax_iadd hX dX11_feed_6 ?_
  refine ax_sipush hX dX11_feed_7 (v := 1400) (by decide) ?_
  refine ax_icmp_le hX dX11_feed_10 (tgt := 15) (by decide) (fun c => ?_) (fun c => ?_)
  · replace hyp := hyp.1 c
    refine ax_iconst hX dX11_feed_15 (v := 0) (by decide) ?_
    refine ax_istore hX dX11_feed_16 (by decide) (L' := [some (.ref 105), some (.int x0), some (.int x1), some (.int x2), some (.int x3), some (.int x4), some (.int (0 : Int32)), none]) rfl ?_
    exact ax_forget (L' := [some (.ref 105), some (.int x0), some (.int x1), some (.int x2), some (.int x3), some (.int x4), some (.int (0 : Int32)), none]) (⟨rfl, ⟨rfl, ⟨rfl, ⟨rfl, ⟨rfl, ⟨rfl, ⟨rfl, trivial⟩⟩⟩⟩⟩⟩⟩) hyp
  · replace hyp := hyp.2 c
    refine ax_iconst hX dX11_feed_13 (v := -1) (by decide) ?_
    exact hR.1 _ _ _ _ _ _ (by decide) (by decide) dX11_feed_14 ⟨_, rfl, rfl⟩ ⟨_, _, rfl, rfl, hyp⟩
set_option maxRecDepth 10000 in
theorem s_X11_feed_18 {X : ax_X} {d L sz : Nat} {T : tT} {Q : Int32 → tT → Prop} (hX : ax_ok X mX11_feed d) (hR : ax_Ret X mX11_feed (ti L sz Q)) (hsz : 161 ≤ sz) (v1 : Int32) (v2 : Int32) (v3 : Int32) (v4 : Int32) (v5 : Int32) (v6 : Int32) (hyp : (((20 : Int32) ≤ v6 → Q ((T.1 105 2) + (20 : Int32)) (tI T 105 2 ((T.1 105 2) + (20 : Int32)))) ∧ (¬ (20 : Int32) ≤ v6 → (((4 : Int32) ≤ v6 → (((8 : Int32) ≤ v6 → (((12 : Int32) ≤ v6 → (((16 : Int32) ≤ v6 → vp_in ((T.1 105 2) + v6) 1420 ∧ ax_j X 18 [some (.ref 105), some (.int v1), some (.int v2), some (.int v3), some (.int v4), some (.int v5), some (.int (v6 + (1 : Int32))), none] [] (th L sz (tI T 106 (((T.1 105 2) + v6).toNatClampNeg) ((v5 >>> (((24 : Int32) - ((8 : Int32) * (v6 &&& (3 : Int32)))) &&& 31)).toInt8.toInt32).toInt8.toInt32)) 0 0) ∧ (¬ (16 : Int32) ≤ v6 → vp_in ((T.1 105 2) + v6) 1420 ∧ ax_j X 18 [some (.ref 105), some (.int v1), some (.int v2), some (.int v3), some (.int v4), some (.int v5), some (.int (v6 + (1 : Int32))), none] [] (th L sz (tI T 106 (((T.1 105 2) + v6).toNatClampNeg) ((v4 >>> (((24 : Int32) - ((8 : Int32) * (v6 &&& (3 : Int32)))) &&& 31)).toInt8.toInt32).toInt8.toInt32)) 0 0))) ∧ (¬ (12 : Int32) ≤ v6 → vp_in ((T.1 105 2) + v6) 1420 ∧ ax_j X 18 [some (.ref 105), some (.int v1), some (.int v2), some (.int v3), some (.int v4), some (.int v5), some (.int (v6 + (1 : Int32))), none] [] (th L sz (tI T 106 (((T.1 105 2) + v6).toNatClampNeg) ((v3 >>> (((24 : Int32) - ((8 : Int32) * (v6 &&& (3 : Int32)))) &&& 31)).toInt8.toInt32).toInt8.toInt32)) 0 0))) ∧ (¬ (8 : Int32) ≤ v6 → vp_in ((T.1 105 2) + v6) 1420 ∧ ax_j X 18 [some (.ref 105), some (.int v1), some (.int v2), some (.int v3), some (.int v4), some (.int v5), some (.int (v6 + (1 : Int32))), none] [] (th L sz (tI T 106 (((T.1 105 2) + v6).toNatClampNeg) ((v2 >>> (((24 : Int32) - ((8 : Int32) * (v6 &&& (3 : Int32)))) &&& 31)).toInt8.toInt32).toInt8.toInt32)) 0 0))) ∧ (¬ (4 : Int32) ≤ v6 → vp_in ((T.1 105 2) + v6) 1420 ∧ ax_j X 18 [some (.ref 105), some (.int v1), some (.int v2), some (.int v3), some (.int v4), some (.int v5), some (.int (v6 + (1 : Int32))), none] [] (th L sz (tI T 106 (((T.1 105 2) + v6).toNatClampNeg) ((v1 >>> (((24 : Int32) - ((8 : Int32) * (v6 &&& (3 : Int32)))) &&& 31)).toInt8.toInt32).toInt8.toInt32)) 0 0))))) : ax_j X 18 [some (.ref 105), some (.int v1), some (.int v2), some (.int v3), some (.int v4), some (.int v5), some (.int v6), none] [] (th L sz T) 0 0 := by
  refine ax_iload hX dX11_feed_18 rfl ?_
  refine ax_bipush hX dX11_feed_20 (v := 20) (by decide) ?_
  refine ax_icmp_ge hX dX11_feed_22 (tgt := 105) (by decide) (fun c => ?_) (fun c => ?_)
  · replace hyp := hyp.1 c
    refine ax_aload_n hX dX11_feed_105 (Or.inr ⟨_, rfl⟩) rfl ?_
    refine ax_dup hX dX11_feed_106 rfl ?_
    refine tx_getI hX fRX11_272 ly_105 fk_11_2 (by decide) (Nat.lt_of_lt_of_le (by decide) hsz) dX11_feed_107 ?_
    refine ax_bipush hX dX11_feed_110 (v := 20) (by decide) ?_
    refine ax_iadd hX dX11_feed_112 ?_
    refine tx_putI hX fRX11_272 ly_105 fk_11_2 (by decide) (Nat.lt_of_lt_of_le (by decide) hsz) rfl rfl dX11_feed_113 ?_
    refine ax_aload_n hX dX11_feed_116 (Or.inr ⟨_, rfl⟩) rfl ?_
    refine tx_getI hX fRX11_272 ly_105 fk_11_2 (by decide) (Nat.lt_of_lt_of_le (by decide) hsz) dX11_feed_117 ?_
    exact hR.1 _ _ _ _ _ _ (by decide) (by decide) dX11_feed_120 ⟨_, rfl, rfl⟩ ⟨_, _, rfl, rfl, hyp⟩
  · replace hyp := hyp.2 c
    refine ax_iload hX dX11_feed_25 rfl ?_
    refine ax_iconst hX dX11_feed_27 (v := 4) (by decide) ?_
    refine ax_icmp_ge hX dX11_feed_28 (tgt := 35) (by decide) (fun c => ?_) (fun c => ?_)
    · replace hyp := hyp.1 c
      refine ax_iload hX dX11_feed_35 rfl ?_
      refine ax_bipush hX dX11_feed_37 (v := 8) (by decide) ?_
      refine ax_icmp_ge hX dX11_feed_39 (tgt := 46) (by decide) (fun c => ?_) (fun c => ?_)
      · replace hyp := hyp.1 c
        refine ax_iload hX dX11_feed_46 rfl ?_
        refine ax_bipush hX dX11_feed_48 (v := 12) (by decide) ?_
        refine ax_icmp_ge hX dX11_feed_50 (tgt := 57) (by decide) (fun c => ?_) (fun c => ?_)
        · replace hyp := hyp.1 c
          refine ax_iload hX dX11_feed_57 rfl ?_
          refine ax_bipush hX dX11_feed_59 (v := 16) (by decide) ?_
          refine ax_icmp_ge hX dX11_feed_61 (tgt := 69) (by decide) (fun c => ?_) (fun c => ?_)
          · replace hyp := hyp.1 c
            refine ax_iload hX dX11_feed_69 rfl ?_
            refine ax_istore hX dX11_feed_71 (by decide) (L' := [some (.ref 105), some (.int v1), some (.int v2), some (.int v3), some (.int v4), some (.int v5), some (.int v6), some (.int v5)]) rfl ?_
            refine ax_aload_n hX dX11_feed_73 (Or.inr ⟨_, rfl⟩) rfl ?_
            refine tx_getF hX fRX11_104 ly_105 (o := 1) (b := 106) fk_11_0 rfl (by decide) (Nat.lt_of_lt_of_le (by decide) hsz) dX11_feed_74 ?_
            refine ax_aload_n hX dX11_feed_77 (Or.inr ⟨_, rfl⟩) rfl ?_
            refine tx_getI hX fRX11_272 ly_105 fk_11_2 (by decide) (Nat.lt_of_lt_of_le (by decide) hsz) dX11_feed_78 ?_
            refine ax_iload hX dX11_feed_81 rfl ?_
            refine ax_iadd hX dX11_feed_83 ?_
            refine ax_iload hX dX11_feed_84 rfl ?_
            refine ax_bipush hX dX11_feed_86 (v := 24) (by decide) ?_
            refine ax_bipush hX dX11_feed_88 (v := 8) (by decide) ?_
            refine ax_iload hX dX11_feed_90 rfl ?_
            refine ax_iconst hX dX11_feed_92 (v := 3) (by decide) ?_
            refine ax_iand hX dX11_feed_93 ?_
            refine ax_imul hX dX11_feed_94 ?_
            refine ax_isub hX dX11_feed_95 ?_
            refine ax_ishr hX dX11_feed_96 ?_
            refine ax_i2b hX dX11_feed_97 ?_
            refine tx_bas hX ly_106 (by decide) (Nat.lt_of_lt_of_le (by decide) hsz) hyp.1 dX11_feed_98 ?_
            replace hyp := hyp.2
            refine ax_iinc hX dX11_feed_99 rfl (w := (v6 + (1 : Int32))) rfl (by decide) (L' := [some (.ref 105), some (.int v1), some (.int v2), some (.int v3), some (.int v4), some (.int v5), some (.int (v6 + (1 : Int32))), some (.int v5)]) rfl ?_
            refine ax_goto hX dX11_feed_102 (tgt := 18) (by decide) ?_
            exact ax_forget (L' := [some (.ref 105), some (.int v1), some (.int v2), some (.int v3), some (.int v4), some (.int v5), some (.int (v6 + (1 : Int32))), none]) (⟨rfl, ⟨rfl, ⟨rfl, ⟨rfl, ⟨rfl, ⟨rfl, ⟨rfl, trivial⟩⟩⟩⟩⟩⟩⟩) hyp
          · replace hyp := hyp.2 c
            refine ax_iload hX dX11_feed_64 rfl ?_
            refine ax_goto hX dX11_feed_66 (tgt := 71) (by decide) ?_
            refine ax_istore hX dX11_feed_71 (by decide) (L' := [some (.ref 105), some (.int v1), some (.int v2), some (.int v3), some (.int v4), some (.int v5), some (.int v6), some (.int v4)]) rfl ?_
            refine ax_aload_n hX dX11_feed_73 (Or.inr ⟨_, rfl⟩) rfl ?_
            refine tx_getF hX fRX11_104 ly_105 (o := 1) (b := 106) fk_11_0 rfl (by decide) (Nat.lt_of_lt_of_le (by decide) hsz) dX11_feed_74 ?_
            refine ax_aload_n hX dX11_feed_77 (Or.inr ⟨_, rfl⟩) rfl ?_
            refine tx_getI hX fRX11_272 ly_105 fk_11_2 (by decide) (Nat.lt_of_lt_of_le (by decide) hsz) dX11_feed_78 ?_
            refine ax_iload hX dX11_feed_81 rfl ?_
            refine ax_iadd hX dX11_feed_83 ?_
            refine ax_iload hX dX11_feed_84 rfl ?_
            refine ax_bipush hX dX11_feed_86 (v := 24) (by decide) ?_
            refine ax_bipush hX dX11_feed_88 (v := 8) (by decide) ?_
            refine ax_iload hX dX11_feed_90 rfl ?_
            refine ax_iconst hX dX11_feed_92 (v := 3) (by decide) ?_
            refine ax_iand hX dX11_feed_93 ?_
            refine ax_imul hX dX11_feed_94 ?_
            refine ax_isub hX dX11_feed_95 ?_
            refine ax_ishr hX dX11_feed_96 ?_
            refine ax_i2b hX dX11_feed_97 ?_
            refine tx_bas hX ly_106 (by decide) (Nat.lt_of_lt_of_le (by decide) hsz) hyp.1 dX11_feed_98 ?_
            replace hyp := hyp.2
            refine ax_iinc hX dX11_feed_99 rfl (w := (v6 + (1 : Int32))) rfl (by decide) (L' := [some (.ref 105), some (.int v1), some (.int v2), some (.int v3), some (.int v4), some (.int v5), some (.int (v6 + (1 : Int32))), some (.int v4)]) rfl ?_
            refine ax_goto hX dX11_feed_102 (tgt := 18) (by decide) ?_
            exact ax_forget (L' := [some (.ref 105), some (.int v1), some (.int v2), some (.int v3), some (.int v4), some (.int v5), some (.int (v6 + (1 : Int32))), none]) (⟨rfl, ⟨rfl, ⟨rfl, ⟨rfl, ⟨rfl, ⟨rfl, ⟨rfl, trivial⟩⟩⟩⟩⟩⟩⟩) hyp
        · replace hyp := hyp.2 c
          refine ax_iload_n hX dX11_feed_53 rfl ?_
          refine ax_goto hX dX11_feed_54 (tgt := 71) (by decide) ?_
          refine ax_istore hX dX11_feed_71 (by decide) (L' := [some (.ref 105), some (.int v1), some (.int v2), some (.int v3), some (.int v4), some (.int v5), some (.int v6), some (.int v3)]) rfl ?_
          refine ax_aload_n hX dX11_feed_73 (Or.inr ⟨_, rfl⟩) rfl ?_
          refine tx_getF hX fRX11_104 ly_105 (o := 1) (b := 106) fk_11_0 rfl (by decide) (Nat.lt_of_lt_of_le (by decide) hsz) dX11_feed_74 ?_
          refine ax_aload_n hX dX11_feed_77 (Or.inr ⟨_, rfl⟩) rfl ?_
          refine tx_getI hX fRX11_272 ly_105 fk_11_2 (by decide) (Nat.lt_of_lt_of_le (by decide) hsz) dX11_feed_78 ?_
          refine ax_iload hX dX11_feed_81 rfl ?_
          refine ax_iadd hX dX11_feed_83 ?_
          refine ax_iload hX dX11_feed_84 rfl ?_
          refine ax_bipush hX dX11_feed_86 (v := 24) (by decide) ?_
          refine ax_bipush hX dX11_feed_88 (v := 8) (by decide) ?_
          refine ax_iload hX dX11_feed_90 rfl ?_
          refine ax_iconst hX dX11_feed_92 (v := 3) (by decide) ?_
          refine ax_iand hX dX11_feed_93 ?_
          refine ax_imul hX dX11_feed_94 ?_
          refine ax_isub hX dX11_feed_95 ?_
          refine ax_ishr hX dX11_feed_96 ?_
          refine ax_i2b hX dX11_feed_97 ?_
          refine tx_bas hX ly_106 (by decide) (Nat.lt_of_lt_of_le (by decide) hsz) hyp.1 dX11_feed_98 ?_
          replace hyp := hyp.2
          refine ax_iinc hX dX11_feed_99 rfl (w := (v6 + (1 : Int32))) rfl (by decide) (L' := [some (.ref 105), some (.int v1), some (.int v2), some (.int v3), some (.int v4), some (.int v5), some (.int (v6 + (1 : Int32))), some (.int v3)]) rfl ?_
          refine ax_goto hX dX11_feed_102 (tgt := 18) (by decide) ?_
          exact ax_forget (L' := [some (.ref 105), some (.int v1), some (.int v2), some (.int v3), some (.int v4), some (.int v5), some (.int (v6 + (1 : Int32))), none]) (⟨rfl, ⟨rfl, ⟨rfl, ⟨rfl, ⟨rfl, ⟨rfl, ⟨rfl, trivial⟩⟩⟩⟩⟩⟩⟩) hyp
      · replace hyp := hyp.2 c
        refine ax_iload_n hX dX11_feed_42 rfl ?_
        refine ax_goto hX dX11_feed_43 (tgt := 71) (by decide) ?_
        refine ax_istore hX dX11_feed_71 (by decide) (L' := [some (.ref 105), some (.int v1), some (.int v2), some (.int v3), some (.int v4), some (.int v5), some (.int v6), some (.int v2)]) rfl ?_
        refine ax_aload_n hX dX11_feed_73 (Or.inr ⟨_, rfl⟩) rfl ?_
        refine tx_getF hX fRX11_104 ly_105 (o := 1) (b := 106) fk_11_0 rfl (by decide) (Nat.lt_of_lt_of_le (by decide) hsz) dX11_feed_74 ?_
        refine ax_aload_n hX dX11_feed_77 (Or.inr ⟨_, rfl⟩) rfl ?_
        refine tx_getI hX fRX11_272 ly_105 fk_11_2 (by decide) (Nat.lt_of_lt_of_le (by decide) hsz) dX11_feed_78 ?_
        refine ax_iload hX dX11_feed_81 rfl ?_
        refine ax_iadd hX dX11_feed_83 ?_
        refine ax_iload hX dX11_feed_84 rfl ?_
        refine ax_bipush hX dX11_feed_86 (v := 24) (by decide) ?_
        refine ax_bipush hX dX11_feed_88 (v := 8) (by decide) ?_
        refine ax_iload hX dX11_feed_90 rfl ?_
        refine ax_iconst hX dX11_feed_92 (v := 3) (by decide) ?_
        refine ax_iand hX dX11_feed_93 ?_
        refine ax_imul hX dX11_feed_94 ?_
        refine ax_isub hX dX11_feed_95 ?_
        refine ax_ishr hX dX11_feed_96 ?_
        refine ax_i2b hX dX11_feed_97 ?_
        refine tx_bas hX ly_106 (by decide) (Nat.lt_of_lt_of_le (by decide) hsz) hyp.1 dX11_feed_98 ?_
        replace hyp := hyp.2
        refine ax_iinc hX dX11_feed_99 rfl (w := (v6 + (1 : Int32))) rfl (by decide) (L' := [some (.ref 105), some (.int v1), some (.int v2), some (.int v3), some (.int v4), some (.int v5), some (.int (v6 + (1 : Int32))), some (.int v2)]) rfl ?_
        refine ax_goto hX dX11_feed_102 (tgt := 18) (by decide) ?_
        exact ax_forget (L' := [some (.ref 105), some (.int v1), some (.int v2), some (.int v3), some (.int v4), some (.int v5), some (.int (v6 + (1 : Int32))), none]) (⟨rfl, ⟨rfl, ⟨rfl, ⟨rfl, ⟨rfl, ⟨rfl, ⟨rfl, trivial⟩⟩⟩⟩⟩⟩⟩) hyp
    · replace hyp := hyp.2 c
      refine ax_iload_n hX dX11_feed_31 rfl ?_
      refine ax_goto hX dX11_feed_32 (tgt := 71) (by decide) ?_
      refine ax_istore hX dX11_feed_71 (by decide) (L' := [some (.ref 105), some (.int v1), some (.int v2), some (.int v3), some (.int v4), some (.int v5), some (.int v6), some (.int v1)]) rfl ?_
      refine ax_aload_n hX dX11_feed_73 (Or.inr ⟨_, rfl⟩) rfl ?_
      refine tx_getF hX fRX11_104 ly_105 (o := 1) (b := 106) fk_11_0 rfl (by decide) (Nat.lt_of_lt_of_le (by decide) hsz) dX11_feed_74 ?_
      refine ax_aload_n hX dX11_feed_77 (Or.inr ⟨_, rfl⟩) rfl ?_
      refine tx_getI hX fRX11_272 ly_105 fk_11_2 (by decide) (Nat.lt_of_lt_of_le (by decide) hsz) dX11_feed_78 ?_
      refine ax_iload hX dX11_feed_81 rfl ?_
      refine ax_iadd hX dX11_feed_83 ?_
      refine ax_iload hX dX11_feed_84 rfl ?_
      refine ax_bipush hX dX11_feed_86 (v := 24) (by decide) ?_
      refine ax_bipush hX dX11_feed_88 (v := 8) (by decide) ?_
      refine ax_iload hX dX11_feed_90 rfl ?_
      refine ax_iconst hX dX11_feed_92 (v := 3) (by decide) ?_
      refine ax_iand hX dX11_feed_93 ?_
      refine ax_imul hX dX11_feed_94 ?_
      refine ax_isub hX dX11_feed_95 ?_
      refine ax_ishr hX dX11_feed_96 ?_
      refine ax_i2b hX dX11_feed_97 ?_
      refine tx_bas hX ly_106 (by decide) (Nat.lt_of_lt_of_le (by decide) hsz) hyp.1 dX11_feed_98 ?_
      replace hyp := hyp.2
      refine ax_iinc hX dX11_feed_99 rfl (w := (v6 + (1 : Int32))) rfl (by decide) (L' := [some (.ref 105), some (.int v1), some (.int v2), some (.int v3), some (.int v4), some (.int v5), some (.int (v6 + (1 : Int32))), some (.int v1)]) rfl ?_
      refine ax_goto hX dX11_feed_102 (tgt := 18) (by decide) ?_
      exact ax_forget (L' := [some (.ref 105), some (.int v1), some (.int v2), some (.int v3), some (.int v4), some (.int v5), some (.int (v6 + (1 : Int32))), none]) (⟨rfl, ⟨rfl, ⟨rfl, ⟨rfl, ⟨rfl, ⟨rfl, ⟨rfl, trivial⟩⟩⟩⟩⟩⟩⟩) hyp
set_option maxRecDepth 10000 in
theorem s_X11_grade_0 {X : ax_X} {d L sz : Nat} {T : tT} {Q : Int32 → tT → Prop} (hX : ax_ok X mX11_grade (d + 1)) (hR : ax_Ret X mX11_grade (ti L sz Q)) (hsz : 161 ≤ sz) (x0 : Int32) (x1 : Int32) (x2 : Int32) (hyp : ∃ Q1, tiK d mX11_spot [.ref 105, .int x0, .int x1] L sz T Q1 ∧ ∀ (r1 : Int32) (T1 : tT), Q1 r1 T1 → (((0 ≤ r1 → (x2 = 0 → vp_in r1 40 ∧ Q (T1.1 111 (r1.toNatClampNeg)) T1) ∧ (x2 = 1 → vp_in r1 40 ∧ Q (T1.1 113 (r1.toNatClampNeg)) T1) ∧ (x2 = 2 → vp_in r1 40 ∧ Q (T1.1 115 (r1.toNatClampNeg)) T1) ∧ (x2 = 3 → ∃ Q1, tiK d mX11_minutesOf [.ref 105, .int r1] L sz T1 Q1 ∧ ∀ (r2 : Int32) (T2 : tT), Q1 r2 T2 → (Q r2 T2)) ∧ (¬ x2 = 0 → ¬ x2 = 1 → ¬ x2 = 2 → ¬ x2 = 3 → ((x2 < (10 : Int32) → Q (-1 : Int32) T1) ∧ (¬ x2 < (10 : Int32) → vp_in r1 40 ∧ (((T1.1 113 (r1.toNatClampNeg)) ≤ (x2 - (10 : Int32)) → Q (-1 : Int32) T1) ∧ (¬ (T1.1 113 (r1.toNatClampNeg)) ≤ (x2 - (10 : Int32)) → vp_in ((((6 : Int32) * r1) + x2) - (10 : Int32)) 240 ∧ Q (T1.1 114 ((((6 : Int32) * r1) + x2) - (10 : Int32)).toNatClampNeg) T1)))))) ∧ (¬ 0 ≤ r1 → Q (-1 : Int32) T1)))) : ax_j X 0 [some (.ref 105), some (.int x0), some (.int x1), some (.int x2), none] [] (th L sz T) 0 0 := by
  refine ax_aload_n hX dX11_grade_0 (Or.inr ⟨_, rfl⟩) rfl ?_
  refine ax_iload_n hX dX11_grade_1 rfl ?_
  refine ax_iload_n hX dX11_grade_2 rfl ?_
  obtain ⟨Q1, hK, hyp⟩ := hyp
  refine ax_callV hX lRX11_348 im_X11_spot sl_X11_spot cw_X11_spot ((th_at (by decide) (Nat.lt_of_lt_of_le (by decide) hsz)).trans (tc_ob ly_105)) rfl rfl (A := [.int x0, .int x1]) (st := []) rfl rfl (Nat.le_of_ble_eq_true rfl) (by decide) (by decide) dX11_grade_3 hK ?_
  rintro _ _ ⟨r1, T1, rfl, rfl, hq⟩
  replace hyp := hyp r1 T1 hq
  refine ax_istore hX dX11_grade_6 (by decide) (L' := [some (.ref 105), some (.int x0), some (.int x1), some (.int x2), some (.int r1)]) rfl ?_
  refine ax_iload hX dX11_grade_8 rfl ?_
  refine ax_if_ge hX dX11_grade_10 (tgt := 15) (by decide) (fun c => ?_) (fun c => ?_)
  · replace hyp := hyp.1 c
    refine ax_iload_n hX dX11_grade_15 rfl ?_
    by_cases q0 : x2 = 0
    · replace hyp := hyp.1 q0
      refine ax_tableIn hX dX11_grade_16 (by rw [q0]; decide) (by rw [q0]; decide) (off := 32) (by rw [q0]; rfl) (tgt := 48) (by decide) ?_
      refine ax_aload_n hX dX11_grade_48 (Or.inr ⟨_, rfl⟩) rfl ?_
      refine tx_getF hX fRX11_121 ly_105 (o := 6) (b := 111) fk_11_17 rfl (by decide) (Nat.lt_of_lt_of_le (by decide) hsz) dX11_grade_49 ?_
      refine ax_iload hX dX11_grade_52 rfl ?_
      refine tx_ial hX ly_111 (by decide) (Nat.lt_of_lt_of_le (by decide) hsz) hyp.1 dX11_grade_54 ?_
      replace hyp := hyp.2
      exact hR.1 _ _ _ _ _ _ (by decide) (by decide) dX11_grade_55 ⟨_, rfl, rfl⟩ ⟨_, _, rfl, rfl, hyp⟩
    by_cases q1 : x2 = 1
    · replace hyp := hyp.2.1 q1
      refine ax_tableIn hX dX11_grade_16 (by rw [q1]; decide) (by rw [q1]; decide) (off := 40) (by rw [q1]; rfl) (tgt := 56) (by decide) ?_
      refine ax_aload_n hX dX11_grade_56 (Or.inr ⟨_, rfl⟩) rfl ?_
      refine tx_getF hX fRX11_127 ly_105 (o := 8) (b := 113) fk_11_19 rfl (by decide) (Nat.lt_of_lt_of_le (by decide) hsz) dX11_grade_57 ?_
      refine ax_iload hX dX11_grade_60 rfl ?_
      refine tx_ial hX ly_113 (by decide) (Nat.lt_of_lt_of_le (by decide) hsz) hyp.1 dX11_grade_62 ?_
      replace hyp := hyp.2
      exact hR.1 _ _ _ _ _ _ (by decide) (by decide) dX11_grade_63 ⟨_, rfl, rfl⟩ ⟨_, _, rfl, rfl, hyp⟩
    by_cases q2 : x2 = 2
    · replace hyp := hyp.2.2.1 q2
      refine ax_tableIn hX dX11_grade_16 (by rw [q2]; decide) (by rw [q2]; decide) (off := 48) (by rw [q2]; rfl) (tgt := 64) (by decide) ?_
      refine ax_aload_n hX dX11_grade_64 (Or.inr ⟨_, rfl⟩) rfl ?_
      refine tx_getF hX fRX11_133 ly_105 (o := 10) (b := 115) fk_11_21 rfl (by decide) (Nat.lt_of_lt_of_le (by decide) hsz) dX11_grade_65 ?_
      refine ax_iload hX dX11_grade_68 rfl ?_
      refine tx_ial hX ly_115 (by decide) (Nat.lt_of_lt_of_le (by decide) hsz) hyp.1 dX11_grade_70 ?_
      replace hyp := hyp.2
      exact hR.1 _ _ _ _ _ _ (by decide) (by decide) dX11_grade_71 ⟨_, rfl, rfl⟩ ⟨_, _, rfl, rfl, hyp⟩
    by_cases q3 : x2 = 3
    · replace hyp := hyp.2.2.2.1 q3
      refine ax_tableIn hX dX11_grade_16 (by rw [q3]; decide) (by rw [q3]; decide) (off := 56) (by rw [q3]; rfl) (tgt := 72) (by decide) ?_
      refine ax_aload_n hX dX11_grade_72 (Or.inr ⟨_, rfl⟩) rfl ?_
      refine ax_iload hX dX11_grade_73 rfl ?_
      obtain ⟨Q1, hK, hyp⟩ := hyp
      refine ax_callV hX lRX11_351 im_X11_minutesOf sl_X11_minutesOf cw_X11_minutesOf ((th_at (by decide) (Nat.lt_of_lt_of_le (by decide) hsz)).trans (tc_ob ly_105)) rfl rfl (A := [.int r1]) (st := []) rfl rfl (Nat.le_of_ble_eq_true rfl) (by decide) (by decide) dX11_grade_75 hK ?_
      rintro _ _ ⟨r2, T2, rfl, rfl, hq⟩
      replace hyp := hyp r2 T2 hq
      exact hR.1 _ _ _ _ _ _ (by decide) (by decide) dX11_grade_78 ⟨_, rfl, rfl⟩ ⟨_, _, rfl, rfl, hyp⟩
    replace hyp := hyp.2.2.2.2 q0 q1 q2 q3
    have z0 := lv_neT (a := 0) q0 rfl
    have z1 := lv_neT (a := 1) q1 rfl
    have z2 := lv_neT (a := 2) q2 rfl
    have z3 := lv_neT (a := 3) q3 rfl
    refine ax_tableOut hX dX11_grade_16 (by omega) (tgt := 79) (by decide) ?_
    refine ax_iload_n hX dX11_grade_79 rfl ?_
    refine ax_bipush hX dX11_grade_80 (v := 10) (by decide) ?_
    refine ax_icmp_lt hX dX11_grade_82 (tgt := 117) (by decide) (fun c => ?_) (fun c => ?_)
    · replace hyp := hyp.1 c
      refine ax_iconst hX dX11_grade_117 (v := -1) (by decide) ?_
      exact hR.1 _ _ _ _ _ _ (by decide) (by decide) dX11_grade_118 ⟨_, rfl, rfl⟩ ⟨_, _, rfl, rfl, hyp⟩
    · replace hyp := hyp.2 c
      refine ax_iload_n hX dX11_grade_85 rfl ?_
      refine ax_bipush hX dX11_grade_86 (v := 10) (by decide) ?_
      refine ax_isub hX dX11_grade_88 ?_
      refine ax_aload_n hX dX11_grade_89 (Or.inr ⟨_, rfl⟩) rfl ?_
      refine tx_getF hX fRX11_127 ly_105 (o := 8) (b := 113) fk_11_19 rfl (by decide) (Nat.lt_of_lt_of_le (by decide) hsz) dX11_grade_90 ?_
      refine ax_iload hX dX11_grade_93 rfl ?_
      refine tx_ial hX ly_113 (by decide) (Nat.lt_of_lt_of_le (by decide) hsz) hyp.1 dX11_grade_95 ?_
      replace hyp := hyp.2
      refine ax_icmp_ge hX dX11_grade_96 (tgt := 117) (by decide) (fun c => ?_) (fun c => ?_)
      · replace hyp := hyp.1 c
        refine ax_iconst hX dX11_grade_117 (v := -1) (by decide) ?_
        exact hR.1 _ _ _ _ _ _ (by decide) (by decide) dX11_grade_118 ⟨_, rfl, rfl⟩ ⟨_, _, rfl, rfl, hyp⟩
      · replace hyp := hyp.2 c
        refine ax_aload_n hX dX11_grade_99 (Or.inr ⟨_, rfl⟩) rfl ?_
        refine tx_getF hX fRX11_130 ly_105 (o := 9) (b := 114) fk_11_20 rfl (by decide) (Nat.lt_of_lt_of_le (by decide) hsz) dX11_grade_100 ?_
        refine ax_bipush hX dX11_grade_103 (v := 6) (by decide) ?_
        refine ax_iload hX dX11_grade_105 rfl ?_
        refine ax_imul hX dX11_grade_107 ?_
        refine ax_iload_n hX dX11_grade_108 rfl ?_
        refine ax_iadd hX dX11_grade_109 ?_
        refine ax_bipush hX dX11_grade_110 (v := 10) (by decide) ?_
        refine ax_isub hX dX11_grade_112 ?_
        refine tx_ial hX ly_114 (by decide) (Nat.lt_of_lt_of_le (by decide) hsz) hyp.1 dX11_grade_113 ?_
        replace hyp := hyp.2
        refine ax_goto hX dX11_grade_114 (tgt := 118) (by decide) ?_
        exact hR.1 _ _ _ _ _ _ (by decide) (by decide) dX11_grade_118 ⟨_, rfl, rfl⟩ ⟨_, _, rfl, rfl, hyp⟩
  · replace hyp := hyp.2 c
    refine ax_iconst hX dX11_grade_13 (v := -1) (by decide) ?_
    exact hR.1 _ _ _ _ _ _ (by decide) (by decide) dX11_grade_14 ⟨_, rfl, rfl⟩ ⟨_, _, rfl, rfl, hyp⟩
set_option maxRecDepth 10000 in
theorem s_X11_hardness_0 {X : ax_X} {d L sz : Nat} {T : tT} {Q : Int32 → tT → Prop} (hX : ax_ok X mX11_hardness (d + 1)) (hR : ax_Ret X mX11_hardness (ti L sz Q)) (hsz : 161 ≤ sz) (x0 : Int32) (hyp : ∃ Q1, tiK d mX11_isExaminer [.ref 105, .int x0] L sz T Q1 ∧ ∀ (r1 : Int32) (T1 : tT), Q1 r1 T1 → (((¬ r1 = 0 → ax_j X 16 [some (.ref 105), some (.int x0), some (.int (0 : Int32)), some (.int (0 : Int32)), none, none, none, none] [] (th L sz T1) 0 0) ∧ (r1 = 0 → Q (-1000 : Int32) T1)))) : ax_j X 0 [some (.ref 105), some (.int x0), none, none, none, none, none, none] [] (th L sz T) 0 0 := by
  refine ax_aload_n hX dX11_hardness_0 (Or.inr ⟨_, rfl⟩) rfl ?_
  refine ax_iload_n hX dX11_hardness_1 rfl ?_
  obtain ⟨Q1, hK, hyp⟩ := hyp
  refine ax_callV hX lRX11_416 im_X11_isExaminer sl_X11_isExaminer cw_X11_isExaminer ((th_at (by decide) (Nat.lt_of_lt_of_le (by decide) hsz)).trans (tc_ob ly_105)) rfl rfl (A := [.int x0]) (st := []) rfl rfl (Nat.le_of_ble_eq_true rfl) (by decide) (by decide) dX11_hardness_2 hK ?_
  rintro _ _ ⟨r1, T1, rfl, rfl, hq⟩
  replace hyp := hyp r1 T1 hq
  refine ax_if_ne hX dX11_hardness_5 (tgt := 12) (by decide) (fun c => ?_) (fun c => ?_)
  · replace hyp := hyp.1 c
    refine ax_iconst hX dX11_hardness_12 (v := 0) (by decide) ?_
    refine ax_istore_n hX dX11_hardness_13 (by decide) (L' := [some (.ref 105), some (.int x0), some (.int (0 : Int32)), none, none, none, none, none]) rfl ?_
    refine ax_iconst hX dX11_hardness_14 (v := 0) (by decide) ?_
    refine ax_istore_n hX dX11_hardness_15 (by decide) (L' := [some (.ref 105), some (.int x0), some (.int (0 : Int32)), some (.int (0 : Int32)), none, none, none, none]) rfl ?_
    exact ax_forget (L' := [some (.ref 105), some (.int x0), some (.int (0 : Int32)), some (.int (0 : Int32)), none, none, none, none]) (⟨rfl, ⟨rfl, ⟨rfl, ⟨rfl, trivial⟩⟩⟩⟩) hyp
  · replace hyp := hyp.2 c
    refine ax_sipush hX dX11_hardness_8 (v := -1000) (by decide) ?_
    exact hR.1 _ _ _ _ _ _ (by decide) (by decide) dX11_hardness_11 ⟨_, rfl, rfl⟩ ⟨_, _, rfl, rfl, hyp⟩
set_option maxRecDepth 10000 in
theorem s_X11_hardness_16 {X : ax_X} {d L sz : Nat} {T : tT} {Q : Int32 → tT → Prop} (hX : ax_ok X mX11_hardness (d + 1)) (hR : ax_Ret X mX11_hardness (ti L sz Q)) (hsz : 161 ≤ sz) (v1 : Int32) (v2 : Int32) (v3 : Int32) (hyp : (((T.1 105 48) ≤ v3 → ((¬ v2 = 0 → ax_j X 147 [some (.ref 105), none, some (.int v2), some (.int ((v2 - (1 : Int32)) / (2 : Int32))), some (.int (0 : Int32)), none, none, none] [] (th L sz T) 0 0) ∧ (v2 = 0 → Q (-1000 : Int32) T))) ∧ (¬ (T.1 105 48) ≤ v3 → ax_j X 27 [some (.ref 105), some (.int v1), some (.int v2), some (.int v3), some (.int (0 : Int32)), none, none, none] [] (th L sz T) 0 0))) : ax_j X 16 [some (.ref 105), some (.int v1), some (.int v2), some (.int v3), none, none, none, none] [] (th L sz T) 0 0 := by
  refine ax_iload_n hX dX11_hardness_16 rfl ?_
  refine ax_aload_n hX dX11_hardness_17 (Or.inr ⟨_, rfl⟩) rfl ?_
  refine tx_getI hX fRX11_354 ly_105 fk_11_48 (by decide) (Nat.lt_of_lt_of_le (by decide) hsz) dX11_hardness_18 ?_
  refine ax_icmp_ge hX dX11_hardness_21 (tgt := 130) (by decide) (fun c => ?_) (fun c => ?_)
  · replace hyp := hyp.1 c
    refine ax_iload_n hX dX11_hardness_130 rfl ?_
    refine ax_if_ne hX dX11_hardness_131 (tgt := 138) (by decide) (fun c => ?_) (fun c => ?_)
    · replace hyp := hyp.1 c
      refine ax_iload_n hX dX11_hardness_138 rfl ?_
      refine ax_iconst hX dX11_hardness_139 (v := 1) (by decide) ?_
      refine ax_isub hX dX11_hardness_140 ?_
      refine ax_iconst hX dX11_hardness_141 (v := 2) (by decide) ?_
      refine ax_idiv hX dX11_hardness_142 (by decide) ?_
      refine ax_istore_n hX dX11_hardness_143 (by decide) (L' := [some (.ref 105), some (.int v1), some (.int v2), some (.int ((v2 - (1 : Int32)) / (2 : Int32))), none, none, none, none]) rfl ?_
      refine ax_iconst hX dX11_hardness_144 (v := 0) (by decide) ?_
      refine ax_istore hX dX11_hardness_145 (by decide) (L' := [some (.ref 105), some (.int v1), some (.int v2), some (.int ((v2 - (1 : Int32)) / (2 : Int32))), some (.int (0 : Int32)), none, none, none]) rfl ?_
      exact ax_forget (L' := [some (.ref 105), none, some (.int v2), some (.int ((v2 - (1 : Int32)) / (2 : Int32))), some (.int (0 : Int32)), none, none, none]) (⟨rfl, ⟨rfl, ⟨rfl, ⟨rfl, trivial⟩⟩⟩⟩) hyp
    · replace hyp := hyp.2 c
      refine ax_sipush hX dX11_hardness_134 (v := -1000) (by decide) ?_
      exact hR.1 _ _ _ _ _ _ (by decide) (by decide) dX11_hardness_137 ⟨_, rfl, rfl⟩ ⟨_, _, rfl, rfl, hyp⟩
  · replace hyp := hyp.2 c
    refine ax_iconst hX dX11_hardness_24 (v := 0) (by decide) ?_
    refine ax_istore hX dX11_hardness_25 (by decide) (L' := [some (.ref 105), some (.int v1), some (.int v2), some (.int v3), some (.int (0 : Int32)), none, none, none]) rfl ?_
    exact ax_forget (L' := [some (.ref 105), some (.int v1), some (.int v2), some (.int v3), some (.int (0 : Int32)), none, none, none]) (⟨rfl, ⟨rfl, ⟨rfl, ⟨rfl, ⟨rfl, trivial⟩⟩⟩⟩⟩) hyp
set_option maxRecDepth 10000 in
theorem s_X11_hardness_147 {X : ax_X} {d L sz : Nat} {T : tT} {Q : Int32 → tT → Prop} (hX : ax_ok X mX11_hardness (d + 1)) (hR : ax_Ret X mX11_hardness (ti L sz Q)) (hsz : 161 ≤ sz) (v2 : Int32) (v3 : Int32) (v4 : Int32) (hyp : ((v2 ≤ v4 → Q (-1000 : Int32) T) ∧ (¬ v2 ≤ v4 → ax_j X 162 [some (.ref 105), none, some (.int v2), some (.int v3), some (.int v4), some (.int (0 : Int32)), some (.int (0 : Int32)), some (.int (0 : Int32))] [] (th L sz T) 0 0))) : ax_j X 147 [some (.ref 105), none, some (.int v2), some (.int v3), some (.int v4), none, none, none] [] (th L sz T) 0 0 := by
  refine ax_iload hX dX11_hardness_147 rfl ?_
  refine ax_iload_n hX dX11_hardness_149 rfl ?_
  refine ax_icmp_ge hX dX11_hardness_150 (tgt := 257) (by decide) (fun c => ?_) (fun c => ?_)
  · replace hyp := hyp.1 c
    refine ax_sipush hX dX11_hardness_257 (v := -1000) (by decide) ?_
    exact hR.1 _ _ _ _ _ _ (by decide) (by decide) dX11_hardness_260 ⟨_, rfl, rfl⟩ ⟨_, _, rfl, rfl, hyp⟩
  · replace hyp := hyp.2 c
    refine ax_iconst hX dX11_hardness_153 (v := 0) (by decide) ?_
    refine ax_istore hX dX11_hardness_154 (by decide) (L' := [some (.ref 105), none, some (.int v2), some (.int v3), some (.int v4), some (.int (0 : Int32)), none, none]) rfl ?_
    refine ax_iconst hX dX11_hardness_156 (v := 0) (by decide) ?_
    refine ax_istore hX dX11_hardness_157 (by decide) (L' := [some (.ref 105), none, some (.int v2), some (.int v3), some (.int v4), some (.int (0 : Int32)), some (.int (0 : Int32)), none]) rfl ?_
    refine ax_iconst hX dX11_hardness_159 (v := 0) (by decide) ?_
    refine ax_istore hX dX11_hardness_160 (by decide) (L' := [some (.ref 105), none, some (.int v2), some (.int v3), some (.int v4), some (.int (0 : Int32)), some (.int (0 : Int32)), some (.int (0 : Int32))]) rfl ?_
    exact ax_forget (L' := [some (.ref 105), none, some (.int v2), some (.int v3), some (.int v4), some (.int (0 : Int32)), some (.int (0 : Int32)), some (.int (0 : Int32))]) (⟨rfl, ⟨rfl, ⟨rfl, ⟨rfl, ⟨rfl, ⟨rfl, ⟨rfl, trivial⟩⟩⟩⟩⟩⟩⟩) hyp
set_option maxRecDepth 10000 in
theorem s_X11_hardness_27 {X : ax_X} {d L sz : Nat} {T : tT} {Q : Int32 → tT → Prop} (hX : ax_ok X mX11_hardness (d + 1)) (hR : ax_Ret X mX11_hardness (ti L sz Q)) (hsz : 161 ≤ sz) (v1 : Int32) (v2 : Int32) (v3 : Int32) (v4 : Int32) (hyp : (((6 : Int32) ≤ v4 → ax_j X 16 [some (.ref 105), some (.int v1), some (.int v2), some (.int (v3 + (1 : Int32))), none, none, none, none] [] (th L sz T) 0 0) ∧ (¬ (6 : Int32) ≤ v4 → ∃ Q1, tiK d mX11_lastOf [.ref 105, .int v3, .int v4, .int v1, .int (T.1 105 71)] L sz T Q1 ∧ ∀ (r1 : Int32) (T1 : tT), Q1 r1 T1 → (ax_j X 51 [some (.ref 105), some (.int v1), some (.int v2), some (.int v3), some (.int v4), some (.int r1), some (.int (0 : Int32)), none] [] (th L sz T1) 0 0)))) : ax_j X 27 [some (.ref 105), some (.int v1), some (.int v2), some (.int v3), some (.int v4), none, none, none] [] (th L sz T) 0 0 := by
  refine ax_iload hX dX11_hardness_27 rfl ?_
  refine ax_bipush hX dX11_hardness_29 (v := 6) (by decide) ?_
  refine ax_icmp_ge hX dX11_hardness_31 (tgt := 124) (by decide) (fun c => ?_) (fun c => ?_)
  · replace hyp := hyp.1 c
    refine ax_iinc hX dX11_hardness_124 rfl (w := (v3 + (1 : Int32))) rfl (by decide) (L' := [some (.ref 105), some (.int v1), some (.int v2), some (.int (v3 + (1 : Int32))), some (.int v4), none, none, none]) rfl ?_
    refine ax_goto hX dX11_hardness_127 (tgt := 16) (by decide) ?_
    exact ax_forget (L' := [some (.ref 105), some (.int v1), some (.int v2), some (.int (v3 + (1 : Int32))), none, none, none, none]) (⟨rfl, ⟨rfl, ⟨rfl, ⟨rfl, trivial⟩⟩⟩⟩) hyp
  · replace hyp := hyp.2 c
    refine ax_aload_n hX dX11_hardness_34 (Or.inr ⟨_, rfl⟩) rfl ?_
    refine ax_iload_n hX dX11_hardness_35 rfl ?_
    refine ax_iload hX dX11_hardness_36 rfl ?_
    refine ax_iload_n hX dX11_hardness_38 rfl ?_
    refine ax_aload_n hX dX11_hardness_39 (Or.inr ⟨_, rfl⟩) rfl ?_
    refine tx_getI hX fRX11_438 ly_105 fk_11_71 (by decide) (Nat.lt_of_lt_of_le (by decide) hsz) dX11_hardness_40 ?_
    obtain ⟨Q1, hK, hyp⟩ := hyp
    refine ax_callV hX lRX11_451 im_X11_lastOf sl_X11_lastOf cw_X11_lastOf ((th_at (by decide) (Nat.lt_of_lt_of_le (by decide) hsz)).trans (tc_ob ly_105)) rfl rfl (A := [.int v3, .int v4, .int v1, .int (T.1 105 71)]) (st := []) rfl rfl (Nat.le_of_ble_eq_true rfl) (by decide) (by decide) dX11_hardness_43 hK ?_
    rintro _ _ ⟨r1, T1, rfl, rfl, hq⟩
    replace hyp := hyp r1 T1 hq
    refine ax_istore hX dX11_hardness_46 (by decide) (L' := [some (.ref 105), some (.int v1), some (.int v2), some (.int v3), some (.int v4), some (.int r1), none, none]) rfl ?_
    refine ax_iconst hX dX11_hardness_48 (v := 0) (by decide) ?_
    refine ax_istore hX dX11_hardness_49 (by decide) (L' := [some (.ref 105), some (.int v1), some (.int v2), some (.int v3), some (.int v4), some (.int r1), some (.int (0 : Int32)), none]) rfl ?_
    exact ax_forget (L' := [some (.ref 105), some (.int v1), some (.int v2), some (.int v3), some (.int v4), some (.int r1), some (.int (0 : Int32)), none]) (⟨rfl, ⟨rfl, ⟨rfl, ⟨rfl, ⟨rfl, ⟨rfl, ⟨rfl, trivial⟩⟩⟩⟩⟩⟩⟩) hyp
set_option maxRecDepth 10000 in
theorem s_X11_hardness_162 {X : ax_X} {d L sz : Nat} {T : tT} {Q : Int32 → tT → Prop} (hX : ax_ok X mX11_hardness (d + 1)) (hR : ax_Ret X mX11_hardness (ti L sz Q)) (hsz : 161 ≤ sz) (v2 : Int32) (v3 : Int32) (v4 : Int32) (v5 : Int32) (v6 : Int32) (v7 : Int32) (hyp : ((v2 ≤ v7 → ((v3 < v5 → ax_j X 147 [some (.ref 105), none, some (.int v2), some (.int v3), some (.int (v4 + (1 : Int32))), none, none, none] [] (th L sz T) 0 0) ∧ (¬ v3 < v5 → (((v5 + v6) ≤ v3 → ax_j X 147 [some (.ref 105), none, some (.int v2), some (.int v3), some (.int (v4 + (1 : Int32))), none, none, none] [] (th L sz T) 0 0) ∧ (¬ (v5 + v6) ≤ v3 → vp_in v4 1000 ∧ Q (T.1 157 (v4.toNatClampNeg)) T))))) ∧ (¬ v2 ≤ v7 → vp_in v7 1000 ∧ vp_in v4 1000 ∧ (((T.1 157 (v4.toNatClampNeg)) ≤ (T.1 157 (v7.toNatClampNeg)) → vp_in v7 1000 ∧ vp_in v4 1000 ∧ ((¬ (T.1 157 (v7.toNatClampNeg)) = (T.1 157 (v4.toNatClampNeg)) → ax_j X 162 [some (.ref 105), none, some (.int v2), some (.int v3), some (.int v4), some (.int (v5 + (0 : Int32))), some (.int (v6 + (0 : Int32))), some (.int (v7 + (1 : Int32)))] [] (th L sz T) 0 0) ∧ ((T.1 157 (v7.toNatClampNeg)) = (T.1 157 (v4.toNatClampNeg)) → ax_j X 162 [some (.ref 105), none, some (.int v2), some (.int v3), some (.int v4), some (.int (v5 + (0 : Int32))), some (.int (v6 + (1 : Int32))), some (.int (v7 + (1 : Int32)))] [] (th L sz T) 0 0))) ∧ (¬ (T.1 157 (v4.toNatClampNeg)) ≤ (T.1 157 (v7.toNatClampNeg)) → vp_in v7 1000 ∧ vp_in v4 1000 ∧ ((¬ (T.1 157 (v7.toNatClampNeg)) = (T.1 157 (v4.toNatClampNeg)) → ax_j X 162 [some (.ref 105), none, some (.int v2), some (.int v3), some (.int v4), some (.int (v5 + (1 : Int32))), some (.int (v6 + (0 : Int32))), some (.int (v7 + (1 : Int32)))] [] (th L sz T) 0 0) ∧ ((T.1 157 (v7.toNatClampNeg)) = (T.1 157 (v4.toNatClampNeg)) → ax_j X 162 [some (.ref 105), none, some (.int v2), some (.int v3), some (.int v4), some (.int (v5 + (1 : Int32))), some (.int (v6 + (1 : Int32))), some (.int (v7 + (1 : Int32)))] [] (th L sz T) 0 0))))))) : ax_j X 162 [some (.ref 105), none, some (.int v2), some (.int v3), some (.int v4), some (.int v5), some (.int v6), some (.int v7)] [] (th L sz T) 0 0 := by
  refine ax_iload hX dX11_hardness_162 rfl ?_
  refine ax_iload_n hX dX11_hardness_164 rfl ?_
  refine ax_icmp_ge hX dX11_hardness_165 (tgt := 228) (by decide) (fun c => ?_) (fun c => ?_)
  · replace hyp := hyp.1 c
    refine ax_iload hX dX11_hardness_228 rfl ?_
    refine ax_iload_n hX dX11_hardness_230 rfl ?_
    refine ax_icmp_gt hX dX11_hardness_231 (tgt := 251) (by decide) (fun c => ?_) (fun c => ?_)
    · replace hyp := hyp.1 c
      refine ax_iinc hX dX11_hardness_251 rfl (w := (v4 + (1 : Int32))) rfl (by decide) (L' := [some (.ref 105), none, some (.int v2), some (.int v3), some (.int (v4 + (1 : Int32))), some (.int v5), some (.int v6), some (.int v7)]) rfl ?_
      refine ax_goto hX dX11_hardness_254 (tgt := 147) (by decide) ?_
      exact ax_forget (L' := [some (.ref 105), none, some (.int v2), some (.int v3), some (.int (v4 + (1 : Int32))), none, none, none]) (⟨rfl, ⟨rfl, ⟨rfl, ⟨rfl, trivial⟩⟩⟩⟩) hyp
    · replace hyp := hyp.2 c
      refine ax_iload_n hX dX11_hardness_234 rfl ?_
      refine ax_iload hX dX11_hardness_235 rfl ?_
      refine ax_iload hX dX11_hardness_237 rfl ?_
      refine ax_iadd hX dX11_hardness_239 ?_
      refine ax_icmp_ge hX dX11_hardness_240 (tgt := 251) (by decide) (fun c => ?_) (fun c => ?_)
      · replace hyp := hyp.1 c
        refine ax_iinc hX dX11_hardness_251 rfl (w := (v4 + (1 : Int32))) rfl (by decide) (L' := [some (.ref 105), none, some (.int v2), some (.int v3), some (.int (v4 + (1 : Int32))), some (.int v5), some (.int v6), some (.int v7)]) rfl ?_
        refine ax_goto hX dX11_hardness_254 (tgt := 147) (by decide) ?_
        exact ax_forget (L' := [some (.ref 105), none, some (.int v2), some (.int v3), some (.int (v4 + (1 : Int32))), none, none, none]) (⟨rfl, ⟨rfl, ⟨rfl, ⟨rfl, trivial⟩⟩⟩⟩) hyp
      · replace hyp := hyp.2 c
        refine ax_aload_n hX dX11_hardness_243 (Or.inr ⟨_, rfl⟩) rfl ?_
        refine tx_getF hX fRX11_260 ly_105 (o := 52) (b := 157) fk_11_72 rfl (by decide) (Nat.lt_of_lt_of_le (by decide) hsz) dX11_hardness_244 ?_
        refine ax_iload hX dX11_hardness_247 rfl ?_
        refine tx_ial hX ly_157 (by decide) (Nat.lt_of_lt_of_le (by decide) hsz) hyp.1 dX11_hardness_249 ?_
        replace hyp := hyp.2
        exact hR.1 _ _ _ _ _ _ (by decide) (by decide) dX11_hardness_250 ⟨_, rfl, rfl⟩ ⟨_, _, rfl, rfl, hyp⟩
  · replace hyp := hyp.2 c
    refine ax_iload hX dX11_hardness_168 rfl ?_
    refine ax_aload_n hX dX11_hardness_170 (Or.inr ⟨_, rfl⟩) rfl ?_
    refine tx_getF hX fRX11_260 ly_105 (o := 52) (b := 157) fk_11_72 rfl (by decide) (Nat.lt_of_lt_of_le (by decide) hsz) dX11_hardness_171 ?_
    refine ax_iload hX dX11_hardness_174 rfl ?_
    refine tx_ial hX ly_157 (by decide) (Nat.lt_of_lt_of_le (by decide) hsz) hyp.1 dX11_hardness_176 ?_
    replace hyp := hyp.2
    refine ax_aload_n hX dX11_hardness_177 (Or.inr ⟨_, rfl⟩) rfl ?_
    refine tx_getF hX fRX11_260 ly_105 (o := 52) (b := 157) fk_11_72 rfl (by decide) (Nat.lt_of_lt_of_le (by decide) hsz) dX11_hardness_178 ?_
    refine ax_iload hX dX11_hardness_181 rfl ?_
    refine tx_ial hX ly_157 (by decide) (Nat.lt_of_lt_of_le (by decide) hsz) hyp.1 dX11_hardness_183 ?_
    replace hyp := hyp.2
    refine ax_icmp_ge hX dX11_hardness_184 (tgt := 191) (by decide) (fun c => ?_) (fun c => ?_)
    · replace hyp := hyp.1 c
      refine ax_iconst hX dX11_hardness_191 (v := 0) (by decide) ?_
      refine ax_iadd hX dX11_hardness_192 ?_
      refine ax_istore hX dX11_hardness_193 (by decide) (L' := [some (.ref 105), none, some (.int v2), some (.int v3), some (.int v4), some (.int (v5 + (0 : Int32))), some (.int v6), some (.int v7)]) rfl ?_
      refine ax_iload hX dX11_hardness_195 rfl ?_
      refine ax_aload_n hX dX11_hardness_197 (Or.inr ⟨_, rfl⟩) rfl ?_
      refine tx_getF hX fRX11_260 ly_105 (o := 52) (b := 157) fk_11_72 rfl (by decide) (Nat.lt_of_lt_of_le (by decide) hsz) dX11_hardness_198 ?_
      refine ax_iload hX dX11_hardness_201 rfl ?_
      refine tx_ial hX ly_157 (by decide) (Nat.lt_of_lt_of_le (by decide) hsz) hyp.1 dX11_hardness_203 ?_
      replace hyp := hyp.2
      refine ax_aload_n hX dX11_hardness_204 (Or.inr ⟨_, rfl⟩) rfl ?_
      refine tx_getF hX fRX11_260 ly_105 (o := 52) (b := 157) fk_11_72 rfl (by decide) (Nat.lt_of_lt_of_le (by decide) hsz) dX11_hardness_205 ?_
      refine ax_iload hX dX11_hardness_208 rfl ?_
      refine tx_ial hX ly_157 (by decide) (Nat.lt_of_lt_of_le (by decide) hsz) hyp.1 dX11_hardness_210 ?_
      replace hyp := hyp.2
      refine ax_icmp_ne hX dX11_hardness_211 (tgt := 218) (by decide) (fun c => ?_) (fun c => ?_)
      · replace hyp := hyp.1 c
        refine ax_iconst hX dX11_hardness_218 (v := 0) (by decide) ?_
        refine ax_iadd hX dX11_hardness_219 ?_
        refine ax_istore hX dX11_hardness_220 (by decide) (L' := [some (.ref 105), none, some (.int v2), some (.int v3), some (.int v4), some (.int (v5 + (0 : Int32))), some (.int (v6 + (0 : Int32))), some (.int v7)]) rfl ?_
        refine ax_iinc hX dX11_hardness_222 rfl (w := (v7 + (1 : Int32))) rfl (by decide) (L' := [some (.ref 105), none, some (.int v2), some (.int v3), some (.int v4), some (.int (v5 + (0 : Int32))), some (.int (v6 + (0 : Int32))), some (.int (v7 + (1 : Int32)))]) rfl ?_
        refine ax_goto hX dX11_hardness_225 (tgt := 162) (by decide) ?_
        exact ax_forget (L' := [some (.ref 105), none, some (.int v2), some (.int v3), some (.int v4), some (.int (v5 + (0 : Int32))), some (.int (v6 + (0 : Int32))), some (.int (v7 + (1 : Int32)))]) (⟨rfl, ⟨rfl, ⟨rfl, ⟨rfl, ⟨rfl, ⟨rfl, ⟨rfl, trivial⟩⟩⟩⟩⟩⟩⟩) hyp
      · replace hyp := hyp.2 c
        refine ax_iconst hX dX11_hardness_214 (v := 1) (by decide) ?_
        refine ax_goto hX dX11_hardness_215 (tgt := 219) (by decide) ?_
        refine ax_iadd hX dX11_hardness_219 ?_
        refine ax_istore hX dX11_hardness_220 (by decide) (L' := [some (.ref 105), none, some (.int v2), some (.int v3), some (.int v4), some (.int (v5 + (0 : Int32))), some (.int (v6 + (1 : Int32))), some (.int v7)]) rfl ?_
        refine ax_iinc hX dX11_hardness_222 rfl (w := (v7 + (1 : Int32))) rfl (by decide) (L' := [some (.ref 105), none, some (.int v2), some (.int v3), some (.int v4), some (.int (v5 + (0 : Int32))), some (.int (v6 + (1 : Int32))), some (.int (v7 + (1 : Int32)))]) rfl ?_
        refine ax_goto hX dX11_hardness_225 (tgt := 162) (by decide) ?_
        exact ax_forget (L' := [some (.ref 105), none, some (.int v2), some (.int v3), some (.int v4), some (.int (v5 + (0 : Int32))), some (.int (v6 + (1 : Int32))), some (.int (v7 + (1 : Int32)))]) (⟨rfl, ⟨rfl, ⟨rfl, ⟨rfl, ⟨rfl, ⟨rfl, ⟨rfl, trivial⟩⟩⟩⟩⟩⟩⟩) hyp
    · replace hyp := hyp.2 c
      refine ax_iconst hX dX11_hardness_187 (v := 1) (by decide) ?_
      refine ax_goto hX dX11_hardness_188 (tgt := 192) (by decide) ?_
      refine ax_iadd hX dX11_hardness_192 ?_
      refine ax_istore hX dX11_hardness_193 (by decide) (L' := [some (.ref 105), none, some (.int v2), some (.int v3), some (.int v4), some (.int (v5 + (1 : Int32))), some (.int v6), some (.int v7)]) rfl ?_
      refine ax_iload hX dX11_hardness_195 rfl ?_
      refine ax_aload_n hX dX11_hardness_197 (Or.inr ⟨_, rfl⟩) rfl ?_
      refine tx_getF hX fRX11_260 ly_105 (o := 52) (b := 157) fk_11_72 rfl (by decide) (Nat.lt_of_lt_of_le (by decide) hsz) dX11_hardness_198 ?_
      refine ax_iload hX dX11_hardness_201 rfl ?_
      refine tx_ial hX ly_157 (by decide) (Nat.lt_of_lt_of_le (by decide) hsz) hyp.1 dX11_hardness_203 ?_
      replace hyp := hyp.2
      refine ax_aload_n hX dX11_hardness_204 (Or.inr ⟨_, rfl⟩) rfl ?_
      refine tx_getF hX fRX11_260 ly_105 (o := 52) (b := 157) fk_11_72 rfl (by decide) (Nat.lt_of_lt_of_le (by decide) hsz) dX11_hardness_205 ?_
      refine ax_iload hX dX11_hardness_208 rfl ?_
      refine tx_ial hX ly_157 (by decide) (Nat.lt_of_lt_of_le (by decide) hsz) hyp.1 dX11_hardness_210 ?_
      replace hyp := hyp.2
      refine ax_icmp_ne hX dX11_hardness_211 (tgt := 218) (by decide) (fun c => ?_) (fun c => ?_)
      · replace hyp := hyp.1 c
        refine ax_iconst hX dX11_hardness_218 (v := 0) (by decide) ?_
        refine ax_iadd hX dX11_hardness_219 ?_
        refine ax_istore hX dX11_hardness_220 (by decide) (L' := [some (.ref 105), none, some (.int v2), some (.int v3), some (.int v4), some (.int (v5 + (1 : Int32))), some (.int (v6 + (0 : Int32))), some (.int v7)]) rfl ?_
        refine ax_iinc hX dX11_hardness_222 rfl (w := (v7 + (1 : Int32))) rfl (by decide) (L' := [some (.ref 105), none, some (.int v2), some (.int v3), some (.int v4), some (.int (v5 + (1 : Int32))), some (.int (v6 + (0 : Int32))), some (.int (v7 + (1 : Int32)))]) rfl ?_
        refine ax_goto hX dX11_hardness_225 (tgt := 162) (by decide) ?_
        exact ax_forget (L' := [some (.ref 105), none, some (.int v2), some (.int v3), some (.int v4), some (.int (v5 + (1 : Int32))), some (.int (v6 + (0 : Int32))), some (.int (v7 + (1 : Int32)))]) (⟨rfl, ⟨rfl, ⟨rfl, ⟨rfl, ⟨rfl, ⟨rfl, ⟨rfl, trivial⟩⟩⟩⟩⟩⟩⟩) hyp
      · replace hyp := hyp.2 c
        refine ax_iconst hX dX11_hardness_214 (v := 1) (by decide) ?_
        refine ax_goto hX dX11_hardness_215 (tgt := 219) (by decide) ?_
        refine ax_iadd hX dX11_hardness_219 ?_
        refine ax_istore hX dX11_hardness_220 (by decide) (L' := [some (.ref 105), none, some (.int v2), some (.int v3), some (.int v4), some (.int (v5 + (1 : Int32))), some (.int (v6 + (1 : Int32))), some (.int v7)]) rfl ?_
        refine ax_iinc hX dX11_hardness_222 rfl (w := (v7 + (1 : Int32))) rfl (by decide) (L' := [some (.ref 105), none, some (.int v2), some (.int v3), some (.int v4), some (.int (v5 + (1 : Int32))), some (.int (v6 + (1 : Int32))), some (.int (v7 + (1 : Int32)))]) rfl ?_
        refine ax_goto hX dX11_hardness_225 (tgt := 162) (by decide) ?_
        exact ax_forget (L' := [some (.ref 105), none, some (.int v2), some (.int v3), some (.int v4), some (.int (v5 + (1 : Int32))), some (.int (v6 + (1 : Int32))), some (.int (v7 + (1 : Int32)))]) (⟨rfl, ⟨rfl, ⟨rfl, ⟨rfl, ⟨rfl, ⟨rfl, ⟨rfl, trivial⟩⟩⟩⟩⟩⟩⟩) hyp
set_option maxRecDepth 10000 in
theorem s_X11_hardness_51 {X : ax_X} {d L sz : Nat} {T : tT} {Q : Int32 → tT → Prop} (hX : ax_ok X mX11_hardness (d + 1)) (hR : ax_Ret X mX11_hardness (ti L sz Q)) (hsz : 161 ≤ sz) (v1 : Int32) (v2 : Int32) (v3 : Int32) (v4 : Int32) (v5 : Int32) (v6 : Int32) (hyp : (((T.1 105 57) ≤ v6 → ax_j X 27 [some (.ref 105), some (.int v1), some (.int v2), some (.int v3), some (.int (v4 + (1 : Int32))), none, none, none] [] (th L sz T) 0 0) ∧ (¬ (T.1 105 57) ≤ v6 → ((v5 < 0 → ax_j X 27 [some (.ref 105), some (.int v1), some (.int v2), some (.int v3), some (.int (v4 + (1 : Int32))), none, none, none] [] (th L sz T) 0 0) ∧ (¬ v5 < 0 → ((¬ v6 = v1 → ∃ Q1, tiK d mX11_lastOf [.ref 105, .int v3, .int v4, .int v6, .int (T.1 105 71)] L sz T Q1 ∧ ∀ (r1 : Int32) (T1 : tT), Q1 r1 T1 → (((0 ≤ r1 → vp_in v2 1000 ∧ ax_j X 51 [some (.ref 105), some (.int v1), some (.int (v2 + (1 : Int32))), some (.int v3), some (.int v4), some (.int v5), some (.int (v6 + (1 : Int32))), none] [] (th L sz (tI T1 157 (v2.toNatClampNeg) (r1 - v5))) 0 0) ∧ (¬ 0 ≤ r1 → ax_j X 51 [some (.ref 105), some (.int v1), some (.int v2), some (.int v3), some (.int v4), some (.int v5), some (.int (v6 + (1 : Int32))), none] [] (th L sz T1) 0 0)))) ∧ (v6 = v1 → ax_j X 51 [some (.ref 105), some (.int v1), some (.int v2), some (.int v3), some (.int v4), some (.int v5), some (.int (v6 + (1 : Int32))), none] [] (th L sz T) 0 0))))))) : ax_j X 51 [some (.ref 105), some (.int v1), some (.int v2), some (.int v3), some (.int v4), some (.int v5), some (.int v6), none] [] (th L sz T) 0 0 := by
  refine ax_iload hX dX11_hardness_51 rfl ?_
  refine ax_aload_n hX dX11_hardness_53 (Or.inr ⟨_, rfl⟩) rfl ?_
  refine tx_getI hX fRX11_357 ly_105 fk_11_57 (by decide) (Nat.lt_of_lt_of_le (by decide) hsz) dX11_hardness_54 ?_
  refine ax_icmp_ge hX dX11_hardness_57 (tgt := 118) (by decide) (fun c => ?_) (fun c => ?_)
  · replace hyp := hyp.1 c
    refine ax_iinc hX dX11_hardness_118 rfl (w := (v4 + (1 : Int32))) rfl (by decide) (L' := [some (.ref 105), some (.int v1), some (.int v2), some (.int v3), some (.int (v4 + (1 : Int32))), some (.int v5), some (.int v6), none]) rfl ?_
    refine ax_goto hX dX11_hardness_121 (tgt := 27) (by decide) ?_
    exact ax_forget (L' := [some (.ref 105), some (.int v1), some (.int v2), some (.int v3), some (.int (v4 + (1 : Int32))), none, none, none]) (⟨rfl, ⟨rfl, ⟨rfl, ⟨rfl, ⟨rfl, trivial⟩⟩⟩⟩⟩) hyp
  · replace hyp := hyp.2 c
    refine ax_iload hX dX11_hardness_60 rfl ?_
    refine ax_if_lt hX dX11_hardness_62 (tgt := 118) (by decide) (fun c => ?_) (fun c => ?_)
    · replace hyp := hyp.1 c
      refine ax_iinc hX dX11_hardness_118 rfl (w := (v4 + (1 : Int32))) rfl (by decide) (L' := [some (.ref 105), some (.int v1), some (.int v2), some (.int v3), some (.int (v4 + (1 : Int32))), some (.int v5), some (.int v6), none]) rfl ?_
      refine ax_goto hX dX11_hardness_121 (tgt := 27) (by decide) ?_
      exact ax_forget (L' := [some (.ref 105), some (.int v1), some (.int v2), some (.int v3), some (.int (v4 + (1 : Int32))), none, none, none]) (⟨rfl, ⟨rfl, ⟨rfl, ⟨rfl, ⟨rfl, trivial⟩⟩⟩⟩⟩) hyp
    · replace hyp := hyp.2 c
      refine ax_iload hX dX11_hardness_65 rfl ?_
      refine ax_iload_n hX dX11_hardness_67 rfl ?_
      refine ax_icmp_ne hX dX11_hardness_68 (tgt := 75) (by decide) (fun c => ?_) (fun c => ?_)
      · replace hyp := hyp.1 c
        refine ax_aload_n hX dX11_hardness_75 (Or.inr ⟨_, rfl⟩) rfl ?_
        refine ax_iload_n hX dX11_hardness_76 rfl ?_
        refine ax_iload hX dX11_hardness_77 rfl ?_
        refine ax_iload hX dX11_hardness_79 rfl ?_
        refine ax_aload_n hX dX11_hardness_81 (Or.inr ⟨_, rfl⟩) rfl ?_
        refine tx_getI hX fRX11_438 ly_105 fk_11_71 (by decide) (Nat.lt_of_lt_of_le (by decide) hsz) dX11_hardness_82 ?_
        obtain ⟨Q1, hK, hyp⟩ := hyp
        refine ax_callV hX lRX11_451 im_X11_lastOf sl_X11_lastOf cw_X11_lastOf ((th_at (by decide) (Nat.lt_of_lt_of_le (by decide) hsz)).trans (tc_ob ly_105)) rfl rfl (A := [.int v3, .int v4, .int v6, .int (T.1 105 71)]) (st := []) rfl rfl (Nat.le_of_ble_eq_true rfl) (by decide) (by decide) dX11_hardness_85 hK ?_
        rintro _ _ ⟨r1, T1, rfl, rfl, hq⟩
        replace hyp := hyp r1 T1 hq
        refine ax_istore hX dX11_hardness_88 (by decide) (L' := [some (.ref 105), some (.int v1), some (.int v2), some (.int v3), some (.int v4), some (.int v5), some (.int v6), some (.int r1)]) rfl ?_
        refine ax_iload hX dX11_hardness_90 rfl ?_
        refine ax_if_ge hX dX11_hardness_92 (tgt := 98) (by decide) (fun c => ?_) (fun c => ?_)
        · replace hyp := hyp.1 c
          refine ax_aload_n hX dX11_hardness_98 (Or.inr ⟨_, rfl⟩) rfl ?_
          refine tx_getF hX fRX11_260 ly_105 (o := 52) (b := 157) fk_11_72 rfl (by decide) (Nat.lt_of_lt_of_le (by decide) hsz) dX11_hardness_99 ?_
          refine ax_iload_n hX dX11_hardness_102 rfl ?_
          refine ax_iload hX dX11_hardness_103 rfl ?_
          refine ax_iload hX dX11_hardness_105 rfl ?_
          refine ax_isub hX dX11_hardness_107 ?_
          refine tx_ias hX ly_157 (by decide) (Nat.lt_of_lt_of_le (by decide) hsz) hyp.1 dX11_hardness_108 ?_
          replace hyp := hyp.2
          refine ax_iinc hX dX11_hardness_109 rfl (w := (v2 + (1 : Int32))) rfl (by decide) (L' := [some (.ref 105), some (.int v1), some (.int (v2 + (1 : Int32))), some (.int v3), some (.int v4), some (.int v5), some (.int v6), some (.int r1)]) rfl ?_
          refine ax_iinc hX dX11_hardness_112 rfl (w := (v6 + (1 : Int32))) rfl (by decide) (L' := [some (.ref 105), some (.int v1), some (.int (v2 + (1 : Int32))), some (.int v3), some (.int v4), some (.int v5), some (.int (v6 + (1 : Int32))), some (.int r1)]) rfl ?_
          refine ax_goto hX dX11_hardness_115 (tgt := 51) (by decide) ?_
          exact ax_forget (L' := [some (.ref 105), some (.int v1), some (.int (v2 + (1 : Int32))), some (.int v3), some (.int v4), some (.int v5), some (.int (v6 + (1 : Int32))), none]) (⟨rfl, ⟨rfl, ⟨rfl, ⟨rfl, ⟨rfl, ⟨rfl, ⟨rfl, trivial⟩⟩⟩⟩⟩⟩⟩) hyp
        · replace hyp := hyp.2 c
          refine ax_goto hX dX11_hardness_95 (tgt := 112) (by decide) ?_
          refine ax_iinc hX dX11_hardness_112 rfl (w := (v6 + (1 : Int32))) rfl (by decide) (L' := [some (.ref 105), some (.int v1), some (.int v2), some (.int v3), some (.int v4), some (.int v5), some (.int (v6 + (1 : Int32))), some (.int r1)]) rfl ?_
          refine ax_goto hX dX11_hardness_115 (tgt := 51) (by decide) ?_
          exact ax_forget (L' := [some (.ref 105), some (.int v1), some (.int v2), some (.int v3), some (.int v4), some (.int v5), some (.int (v6 + (1 : Int32))), none]) (⟨rfl, ⟨rfl, ⟨rfl, ⟨rfl, ⟨rfl, ⟨rfl, ⟨rfl, trivial⟩⟩⟩⟩⟩⟩⟩) hyp
      · replace hyp := hyp.2 c
        refine ax_iconst hX dX11_hardness_71 (v := -1) (by decide) ?_
        refine ax_goto hX dX11_hardness_72 (tgt := 88) (by decide) ?_
        refine ax_istore hX dX11_hardness_88 (by decide) (L' := [some (.ref 105), some (.int v1), some (.int v2), some (.int v3), some (.int v4), some (.int v5), some (.int v6), some (.int (-1 : Int32))]) rfl ?_
        refine ax_iload hX dX11_hardness_90 rfl ?_
        refine ax_if_ge hX dX11_hardness_92 (tgt := 98) (by decide) (fun c => ?_) (fun c => ?_)
        · exact absurd c (by decide)
        refine ax_goto hX dX11_hardness_95 (tgt := 112) (by decide) ?_
        refine ax_iinc hX dX11_hardness_112 rfl (w := (v6 + (1 : Int32))) rfl (by decide) (L' := [some (.ref 105), some (.int v1), some (.int v2), some (.int v3), some (.int v4), some (.int v5), some (.int (v6 + (1 : Int32))), some (.int (-1 : Int32))]) rfl ?_
        refine ax_goto hX dX11_hardness_115 (tgt := 51) (by decide) ?_
        exact ax_forget (L' := [some (.ref 105), some (.int v1), some (.int v2), some (.int v3), some (.int v4), some (.int v5), some (.int (v6 + (1 : Int32))), none]) (⟨rfl, ⟨rfl, ⟨rfl, ⟨rfl, ⟨rfl, ⟨rfl, ⟨rfl, trivial⟩⟩⟩⟩⟩⟩⟩) hyp
set_option maxRecDepth 10000 in
theorem s_X11_hasHeard_0 {X : ax_X} {d L sz : Nat} {T : tT} {Q : Int32 → tT → Prop} (hX : ax_ok X mX11_hasHeard d) (hR : ax_Ret X mX11_hasHeard (ti L sz Q)) (hsz : 161 ≤ sz) (x0 : Int32) (x1 : Int32) (hyp : ax_j X 2 [some (.ref 105), some (.int x0), some (.int x1), some (.int (0 : Int32))] [] (th L sz T) 0 0) : ax_j X 0 [some (.ref 105), some (.int x0), some (.int x1), none] [] (th L sz T) 0 0 := by
  refine ax_iconst hX dX11_hasHeard_0 (v := 0) (by decide) ?_
  refine ax_istore_n hX dX11_hasHeard_1 (by decide) (L' := [some (.ref 105), some (.int x0), some (.int x1), some (.int (0 : Int32))]) rfl ?_
  exact ax_forget (L' := [some (.ref 105), some (.int x0), some (.int x1), some (.int (0 : Int32))]) (⟨rfl, ⟨rfl, ⟨rfl, ⟨rfl, trivial⟩⟩⟩⟩) hyp
set_option maxRecDepth 10000 in
theorem s_X11_hasHeard_2 {X : ax_X} {d L sz : Nat} {T : tT} {Q : Int32 → tT → Prop} (hX : ax_ok X mX11_hasHeard d) (hR : ax_Ret X mX11_hasHeard (ti L sz Q)) (hsz : 161 ≤ sz) (v1 : Int32) (v2 : Int32) (v3 : Int32) (hyp : (((T.1 105 70) ≤ v3 → Q (0 : Int32) T) ∧ (¬ (T.1 105 70) ≤ v3 → vp_in v3 200 ∧ ((¬ (T.1 152 (v3.toNatClampNeg)) = v1 → ax_j X 2 [some (.ref 105), some (.int v1), some (.int v2), some (.int (v3 + (1 : Int32)))] [] (th L sz T) 0 0) ∧ ((T.1 152 (v3.toNatClampNeg)) = v1 → vp_in v3 200 ∧ ((0 ≤ (T.1 156 (v3.toNatClampNeg)) → ax_j X 2 [some (.ref 105), some (.int v1), some (.int v2), some (.int (v3 + (1 : Int32)))] [] (th L sz T) 0 0) ∧ (¬ 0 ≤ (T.1 156 (v3.toNatClampNeg)) → vp_in v3 200 ∧ (((T.1 151 (v3.toNatClampNeg)) = v2 → ax_j X 2 [some (.ref 105), some (.int v1), some (.int v2), some (.int (v3 + (1 : Int32)))] [] (th L sz T) 0 0) ∧ (¬ (T.1 151 (v3.toNatClampNeg)) = v2 → vp_in v3 200 ∧ vp_in (T.1 151 (v3.toNatClampNeg)) 40 ∧ vp_in v2 40 ∧ ((¬ (T.1 131 (T.1 151 (v3.toNatClampNeg)).toNatClampNeg) = (T.1 131 (v2.toNatClampNeg)) → ax_j X 2 [some (.ref 105), some (.int v1), some (.int v2), some (.int (v3 + (1 : Int32)))] [] (th L sz T) 0 0) ∧ ((T.1 131 (T.1 151 (v3.toNatClampNeg)).toNatClampNeg) = (T.1 131 (v2.toNatClampNeg)) → Q (1 : Int32) T))))))))))) : ax_j X 2 [some (.ref 105), some (.int v1), some (.int v2), some (.int v3)] [] (th L sz T) 0 0 := by
  refine ax_iload_n hX dX11_hasHeard_2 rfl ?_
  refine ax_aload_n hX dX11_hasHeard_3 (Or.inr ⟨_, rfl⟩) rfl ?_
  refine tx_getI hX fRX11_409 ly_105 fk_11_70 (by decide) (Nat.lt_of_lt_of_le (by decide) hsz) dX11_hasHeard_4 ?_
  refine ax_icmp_ge hX dX11_hasHeard_7 (tgt := 67) (by decide) (fun c => ?_) (fun c => ?_)
  · replace hyp := hyp.1 c
    refine ax_iconst hX dX11_hasHeard_67 (v := 0) (by decide) ?_
    exact hR.1 _ _ _ _ _ _ (by decide) (by decide) dX11_hasHeard_68 ⟨_, rfl, rfl⟩ ⟨_, _, rfl, rfl, hyp⟩
  · replace hyp := hyp.2 c
    refine ax_aload_n hX dX11_hasHeard_10 (Or.inr ⟨_, rfl⟩) rfl ?_
    refine tx_getF hX fRX11_245 ly_105 (o := 47) (b := 152) fk_11_65 rfl (by decide) (Nat.lt_of_lt_of_le (by decide) hsz) dX11_hasHeard_11 ?_
    refine ax_iload_n hX dX11_hasHeard_14 rfl ?_
    refine tx_ial hX ly_152 (by decide) (Nat.lt_of_lt_of_le (by decide) hsz) hyp.1 dX11_hasHeard_15 ?_
    replace hyp := hyp.2
    refine ax_iload_n hX dX11_hasHeard_16 rfl ?_
    refine ax_icmp_ne hX dX11_hasHeard_17 (tgt := 61) (by decide) (fun c => ?_) (fun c => ?_)
    · replace hyp := hyp.1 c
      refine ax_iinc hX dX11_hasHeard_61 rfl (w := (v3 + (1 : Int32))) rfl (by decide) (L' := [some (.ref 105), some (.int v1), some (.int v2), some (.int (v3 + (1 : Int32)))]) rfl ?_
      refine ax_goto hX dX11_hasHeard_64 (tgt := 2) (by decide) ?_
      exact ax_forget (L' := [some (.ref 105), some (.int v1), some (.int v2), some (.int (v3 + (1 : Int32)))]) (⟨rfl, ⟨rfl, ⟨rfl, ⟨rfl, trivial⟩⟩⟩⟩) hyp
    · replace hyp := hyp.2 c
      refine ax_aload_n hX dX11_hasHeard_20 (Or.inr ⟨_, rfl⟩) rfl ?_
      refine tx_getF hX fRX11_257 ly_105 (o := 51) (b := 156) fk_11_69 rfl (by decide) (Nat.lt_of_lt_of_le (by decide) hsz) dX11_hasHeard_21 ?_
      refine ax_iload_n hX dX11_hasHeard_24 rfl ?_
      refine tx_ial hX ly_156 (by decide) (Nat.lt_of_lt_of_le (by decide) hsz) hyp.1 dX11_hasHeard_25 ?_
      replace hyp := hyp.2
      refine ax_if_ge hX dX11_hasHeard_26 (tgt := 61) (by decide) (fun c => ?_) (fun c => ?_)
      · replace hyp := hyp.1 c
        refine ax_iinc hX dX11_hasHeard_61 rfl (w := (v3 + (1 : Int32))) rfl (by decide) (L' := [some (.ref 105), some (.int v1), some (.int v2), some (.int (v3 + (1 : Int32)))]) rfl ?_
        refine ax_goto hX dX11_hasHeard_64 (tgt := 2) (by decide) ?_
        exact ax_forget (L' := [some (.ref 105), some (.int v1), some (.int v2), some (.int (v3 + (1 : Int32)))]) (⟨rfl, ⟨rfl, ⟨rfl, ⟨rfl, trivial⟩⟩⟩⟩) hyp
      · replace hyp := hyp.2 c
        refine ax_aload_n hX dX11_hasHeard_29 (Or.inr ⟨_, rfl⟩) rfl ?_
        refine tx_getF hX fRX11_242 ly_105 (o := 46) (b := 151) fk_11_64 rfl (by decide) (Nat.lt_of_lt_of_le (by decide) hsz) dX11_hasHeard_30 ?_
        refine ax_iload_n hX dX11_hasHeard_33 rfl ?_
        refine tx_ial hX ly_151 (by decide) (Nat.lt_of_lt_of_le (by decide) hsz) hyp.1 dX11_hasHeard_34 ?_
        replace hyp := hyp.2
        refine ax_iload_n hX dX11_hasHeard_35 rfl ?_
        refine ax_icmp_eq hX dX11_hasHeard_36 (tgt := 61) (by decide) (fun c => ?_) (fun c => ?_)
        · replace hyp := hyp.1 c
          refine ax_iinc hX dX11_hasHeard_61 rfl (w := (v3 + (1 : Int32))) rfl (by decide) (L' := [some (.ref 105), some (.int v1), some (.int v2), some (.int (v3 + (1 : Int32)))]) rfl ?_
          refine ax_goto hX dX11_hasHeard_64 (tgt := 2) (by decide) ?_
          exact ax_forget (L' := [some (.ref 105), some (.int v1), some (.int v2), some (.int (v3 + (1 : Int32)))]) (⟨rfl, ⟨rfl, ⟨rfl, ⟨rfl, trivial⟩⟩⟩⟩) hyp
        · replace hyp := hyp.2 c
          refine ax_aload_n hX dX11_hasHeard_39 (Or.inr ⟨_, rfl⟩) rfl ?_
          refine tx_getF hX fRX11_182 ly_105 (o := 26) (b := 131) fk_11_39 rfl (by decide) (Nat.lt_of_lt_of_le (by decide) hsz) dX11_hasHeard_40 ?_
          refine ax_aload_n hX dX11_hasHeard_43 (Or.inr ⟨_, rfl⟩) rfl ?_
          refine tx_getF hX fRX11_242 ly_105 (o := 46) (b := 151) fk_11_64 rfl (by decide) (Nat.lt_of_lt_of_le (by decide) hsz) dX11_hasHeard_44 ?_
          refine ax_iload_n hX dX11_hasHeard_47 rfl ?_
          refine tx_ial hX ly_151 (by decide) (Nat.lt_of_lt_of_le (by decide) hsz) hyp.1 dX11_hasHeard_48 ?_
          replace hyp := hyp.2
          refine tx_ial hX ly_131 (by decide) (Nat.lt_of_lt_of_le (by decide) hsz) hyp.1 dX11_hasHeard_49 ?_
          replace hyp := hyp.2
          refine ax_aload_n hX dX11_hasHeard_50 (Or.inr ⟨_, rfl⟩) rfl ?_
          refine tx_getF hX fRX11_182 ly_105 (o := 26) (b := 131) fk_11_39 rfl (by decide) (Nat.lt_of_lt_of_le (by decide) hsz) dX11_hasHeard_51 ?_
          refine ax_iload_n hX dX11_hasHeard_54 rfl ?_
          refine tx_ial hX ly_131 (by decide) (Nat.lt_of_lt_of_le (by decide) hsz) hyp.1 dX11_hasHeard_55 ?_
          replace hyp := hyp.2
          refine ax_icmp_ne hX dX11_hasHeard_56 (tgt := 61) (by decide) (fun c => ?_) (fun c => ?_)
          · replace hyp := hyp.1 c
            refine ax_iinc hX dX11_hasHeard_61 rfl (w := (v3 + (1 : Int32))) rfl (by decide) (L' := [some (.ref 105), some (.int v1), some (.int v2), some (.int (v3 + (1 : Int32)))]) rfl ?_
            refine ax_goto hX dX11_hasHeard_64 (tgt := 2) (by decide) ?_
            exact ax_forget (L' := [some (.ref 105), some (.int v1), some (.int v2), some (.int (v3 + (1 : Int32)))]) (⟨rfl, ⟨rfl, ⟨rfl, ⟨rfl, trivial⟩⟩⟩⟩) hyp
          · replace hyp := hyp.2 c
            refine ax_iconst hX dX11_hasHeard_59 (v := 1) (by decide) ?_
            exact hR.1 _ _ _ _ _ _ (by decide) (by decide) dX11_hasHeard_60 ⟨_, rfl, rfl⟩ ⟨_, _, rfl, rfl, hyp⟩
set_option maxRecDepth 10000 in
theorem s_X11_hasPiece_0 {X : ax_X} {d L sz : Nat} {T : tT} {Q : Int32 → tT → Prop} (hX : ax_ok X mX11_hasPiece d) (hR : ax_Ret X mX11_hasPiece (ti L sz Q)) (hsz : 161 ≤ sz) (x0 : Int32) (x1 : Int64) (hyp : ax_j X 3 [some (.ref 105), some (.int x0), some (.long x1), none, some (.int (0 : Int32))] [] (th L sz T) 0 0) : ax_j X 0 [some (.ref 105), some (.int x0), some (.long x1), none, none] [] (th L sz T) 0 0 := by
  refine ax_iconst hX dX11_hasPiece_0 (v := 0) (by decide) ?_
  refine ax_istore hX dX11_hasPiece_1 (by decide) (L' := [some (.ref 105), some (.int x0), some (.long x1), none, some (.int (0 : Int32))]) rfl ?_
  exact ax_forget (L' := [some (.ref 105), some (.int x0), some (.long x1), none, some (.int (0 : Int32))]) (⟨rfl, ⟨rfl, ⟨rfl, ⟨rfl, trivial⟩⟩⟩⟩) hyp
set_option maxRecDepth 10000 in
theorem s_X11_hasPiece_3 {X : ax_X} {d L sz : Nat} {T : tT} {Q : Int32 → tT → Prop} (hX : ax_ok X mX11_hasPiece d) (hR : ax_Ret X mX11_hasPiece (ti L sz Q)) (hsz : 161 ≤ sz) (v1 : Int32) (v2 : Int64) (v4 : Int32) (hyp : vp_in v1 240 ∧ (((T.1 112 (v1.toNatClampNeg)) ≤ v4 → Q (0 : Int32) T) ∧ (¬ (T.1 112 (v1.toNatClampNeg)) ≤ v4 → vp_in (((12 : Int32) * v1) + v4) 2880 ∧ ((¬ (T.2.1 127 (((12 : Int32) * v1) + v4).toNatClampNeg) = v2 → ax_j X 3 [some (.ref 105), some (.int v1), some (.long v2), none, some (.int (v4 + (1 : Int32)))] [] (th L sz T) 0 0) ∧ ((T.2.1 127 (((12 : Int32) * v1) + v4).toNatClampNeg) = v2 → Q (1 : Int32) T))))) : ax_j X 3 [some (.ref 105), some (.int v1), some (.long v2), none, some (.int v4)] [] (th L sz T) 0 0 := by
  refine ax_iload hX dX11_hasPiece_3 rfl ?_
  refine ax_aload_n hX dX11_hasPiece_5 (Or.inr ⟨_, rfl⟩) rfl ?_
  refine tx_getF hX fRX11_124 ly_105 (o := 7) (b := 112) fk_11_18 rfl (by decide) (Nat.lt_of_lt_of_le (by decide) hsz) dX11_hasPiece_6 ?_
  refine ax_iload_n hX dX11_hasPiece_9 rfl ?_
  refine tx_ial hX ly_112 (by decide) (Nat.lt_of_lt_of_le (by decide) hsz) hyp.1 dX11_hasPiece_10 ?_
  replace hyp := hyp.2
  refine ax_icmp_ge hX dX11_hasPiece_11 (tgt := 39) (by decide) (fun c => ?_) (fun c => ?_)
  · replace hyp := hyp.1 c
    refine ax_iconst hX dX11_hasPiece_39 (v := 0) (by decide) ?_
    exact hR.1 _ _ _ _ _ _ (by decide) (by decide) dX11_hasPiece_40 ⟨_, rfl, rfl⟩ ⟨_, _, rfl, rfl, hyp⟩
  · replace hyp := hyp.2 c
    refine ax_aload_n hX dX11_hasPiece_14 (Or.inr ⟨_, rfl⟩) rfl ?_
    refine tx_getF hX fRX11_170 ly_105 (o := 22) (b := 127) fk_11_33 rfl (by decide) (Nat.lt_of_lt_of_le (by decide) hsz) dX11_hasPiece_15 ?_
    refine ax_bipush hX dX11_hasPiece_18 (v := 12) (by decide) ?_
    refine ax_iload_n hX dX11_hasPiece_20 rfl ?_
    refine ax_imul hX dX11_hasPiece_21 ?_
    refine ax_iload hX dX11_hasPiece_22 rfl ?_
    refine ax_iadd hX dX11_hasPiece_24 ?_
    refine tx_lal hX ly_127 (by decide) (Nat.lt_of_lt_of_le (by decide) hsz) hyp.1 dX11_hasPiece_25 ?_
    replace hyp := hyp.2
    refine ax_lload_n hX dX11_hasPiece_26 rfl ?_
    refine tx_lcmp_ne hX dX11_hasPiece_27 dX11_hasPiece_28 (tgt := 33) (by decide) (fun c => ?_) (fun c => ?_)
    · replace hyp := hyp.1 c
      refine ax_iinc hX dX11_hasPiece_33 rfl (w := (v4 + (1 : Int32))) rfl (by decide) (L' := [some (.ref 105), some (.int v1), some (.long v2), none, some (.int (v4 + (1 : Int32)))]) rfl ?_
      refine ax_goto hX dX11_hasPiece_36 (tgt := 3) (by decide) ?_
      exact ax_forget (L' := [some (.ref 105), some (.int v1), some (.long v2), none, some (.int (v4 + (1 : Int32)))]) (⟨rfl, ⟨rfl, ⟨rfl, ⟨rfl, trivial⟩⟩⟩⟩) hyp
    · replace hyp := hyp.2 c
      refine ax_iconst hX dX11_hasPiece_31 (v := 1) (by decide) ?_
      exact hR.1 _ _ _ _ _ _ (by decide) (by decide) dX11_hasPiece_32 ⟨_, rfl, rfl⟩ ⟨_, _, rfl, rfl, hyp⟩
set_option maxRecDepth 10000 in
theorem s_X11_holds_0 {X : ax_X} {d L sz : Nat} {T : tT} {Q : Int32 → tT → Prop} (hX : ax_ok X mX11_holds (d + 1)) (hR : ax_Ret X mX11_holds (ti L sz Q)) (hsz : 161 ≤ sz) (x0 : Int32) (x1 : Int32) (hyp : ((x0 < (1 : Int32) → Q (-1 : Int32) T) ∧ (¬ x0 < (1 : Int32) → ((x0 ≤ (T.1 105 76) → ∃ Q1, tiK d mX11_doesHold [.ref 105, .int x0, .int x1] L sz T Q1 ∧ ∀ (r1 : Int32) (T1 : tT), Q1 r1 T1 → (((r1 = 0 → Q (0 : Int32) T1) ∧ (¬ r1 = 0 → Q (1 : Int32) T1)))) ∧ (¬ x0 ≤ (T.1 105 76) → Q (-1 : Int32) T))))) : ax_j X 0 [some (.ref 105), some (.int x0), some (.int x1)] [] (th L sz T) 0 0 := by
  refine ax_iload_n hX dX11_holds_0 rfl ?_
  refine ax_iconst hX dX11_holds_1 (v := 1) (by decide) ?_
  refine ax_icmp_lt hX dX11_holds_2 (tgt := 13) (by decide) (fun c => ?_) (fun c => ?_)
  · replace hyp := hyp.1 c
    refine ax_iconst hX dX11_holds_13 (v := -1) (by decide) ?_
    refine ax_goto hX dX11_holds_14 (tgt := 31) (by decide) ?_
    exact hR.1 _ _ _ _ _ _ (by decide) (by decide) dX11_holds_31 ⟨_, rfl, rfl⟩ ⟨_, _, rfl, rfl, hyp⟩
  · replace hyp := hyp.2 c
    refine ax_iload_n hX dX11_holds_5 rfl ?_
    refine ax_aload_n hX dX11_holds_6 (Or.inr ⟨_, rfl⟩) rfl ?_
    refine tx_getI hX fRX11_463 ly_105 fk_11_76 (by decide) (Nat.lt_of_lt_of_le (by decide) hsz) dX11_holds_7 ?_
    refine ax_icmp_le hX dX11_holds_10 (tgt := 17) (by decide) (fun c => ?_) (fun c => ?_)
    · replace hyp := hyp.1 c
      refine ax_aload_n hX dX11_holds_17 (Or.inr ⟨_, rfl⟩) rfl ?_
      refine ax_iload_n hX dX11_holds_18 rfl ?_
      refine ax_iload_n hX dX11_holds_19 rfl ?_
      obtain ⟨Q1, hK, hyp⟩ := hyp
      refine ax_callV hX lRX11_466 im_X11_doesHold sl_X11_doesHold cw_X11_doesHold ((th_at (by decide) (Nat.lt_of_lt_of_le (by decide) hsz)).trans (tc_ob ly_105)) rfl rfl (A := [.int x0, .int x1]) (st := []) rfl rfl (Nat.le_of_ble_eq_true rfl) (by decide) (by decide) dX11_holds_20 hK ?_
      rintro _ _ ⟨r1, T1, rfl, rfl, hq⟩
      replace hyp := hyp r1 T1 hq
      refine ax_if_eq hX dX11_holds_23 (tgt := 30) (by decide) (fun c => ?_) (fun c => ?_)
      · replace hyp := hyp.1 c
        refine ax_iconst hX dX11_holds_30 (v := 0) (by decide) ?_
        exact hR.1 _ _ _ _ _ _ (by decide) (by decide) dX11_holds_31 ⟨_, rfl, rfl⟩ ⟨_, _, rfl, rfl, hyp⟩
      · replace hyp := hyp.2 c
        refine ax_iconst hX dX11_holds_26 (v := 1) (by decide) ?_
        refine ax_goto hX dX11_holds_27 (tgt := 31) (by decide) ?_
        exact hR.1 _ _ _ _ _ _ (by decide) (by decide) dX11_holds_31 ⟨_, rfl, rfl⟩ ⟨_, _, rfl, rfl, hyp⟩
    · replace hyp := hyp.2 c
      refine ax_iconst hX dX11_holds_13 (v := -1) (by decide) ?_
      refine ax_goto hX dX11_holds_14 (tgt := 31) (by decide) ?_
      exact hR.1 _ _ _ _ _ _ (by decide) (by decide) dX11_holds_31 ⟨_, rfl, rfl⟩ ⟨_, _, rfl, rfl, hyp⟩
set_option maxRecDepth 10000 in
theorem s_X11_inList_0 {X : ax_X} {d L sz : Nat} {T : tT} {Q : Int32 → tT → Prop} (hX : ax_ok X mX11_inList (d + 1)) (hR : ax_Ret X mX11_inList (ti L sz Q)) (hsz : 161 ≤ sz) (x0 : Int32) (x1 : Int32) (hyp : ax_j X 5 [some (.ref 105), some (.int x0), some (.int x1), some (.int (0 : Int32)), some (.int (0 : Int32))] [] (th L sz T) 0 0) : ax_j X 0 [some (.ref 105), some (.int x0), some (.int x1), none, none] [] (th L sz T) 0 0 := by
  refine ax_iconst hX dX11_inList_0 (v := 0) (by decide) ?_
  refine ax_istore_n hX dX11_inList_1 (by decide) (L' := [some (.ref 105), some (.int x0), some (.int x1), some (.int (0 : Int32)), none]) rfl ?_
  refine ax_iconst hX dX11_inList_2 (v := 0) (by decide) ?_
  refine ax_istore hX dX11_inList_3 (by decide) (L' := [some (.ref 105), some (.int x0), some (.int x1), some (.int (0 : Int32)), some (.int (0 : Int32))]) rfl ?_
  exact ax_forget (L' := [some (.ref 105), some (.int x0), some (.int x1), some (.int (0 : Int32)), some (.int (0 : Int32))]) (⟨rfl, ⟨rfl, ⟨rfl, ⟨rfl, ⟨rfl, trivial⟩⟩⟩⟩⟩) hyp
set_option maxRecDepth 10000 in
theorem s_X11_inList_5 {X : ax_X} {d L sz : Nat} {T : tT} {Q : Int32 → tT → Prop} (hX : ax_ok X mX11_inList (d + 1)) (hR : ax_Ret X mX11_inList (ti L sz Q)) (hsz : 161 ≤ sz) (v1 : Int32) (v2 : Int32) (v3 : Int32) (v4 : Int32) (hyp : vp_in v1 40 ∧ (((T.1 137 (v1.toNatClampNeg)) ≤ v4 → Q v3 T) ∧ (¬ (T.1 137 (v1.toNatClampNeg)) ≤ v4 → vp_in (((4 : Int32) * v1) + v4) 160 ∧ ∃ Q1, tiK d mX11_hasPiece [.ref 105, .int v2, .long (T.2.1 139 (((4 : Int32) * v1) + v4).toNatClampNeg)] L sz T Q1 ∧ ∀ (r1 : Int32) (T1 : tT), Q1 r1 T1 → (((r1 = 0 → ax_j X 5 [some (.ref 105), some (.int v1), some (.int v2), some (.int (v3 + (0 : Int32))), some (.int (v4 + (1 : Int32)))] [] (th L sz T1) 0 0) ∧ (¬ r1 = 0 → ax_j X 5 [some (.ref 105), some (.int v1), some (.int v2), some (.int (v3 + (1 : Int32))), some (.int (v4 + (1 : Int32)))] [] (th L sz T1) 0 0)))))) : ax_j X 5 [some (.ref 105), some (.int v1), some (.int v2), some (.int v3), some (.int v4)] [] (th L sz T) 0 0 := by
  refine ax_iload hX dX11_inList_5 rfl ?_
  refine ax_aload_n hX dX11_inList_7 (Or.inr ⟨_, rfl⟩) rfl ?_
  refine tx_getF hX fRX11_200 ly_105 (o := 32) (b := 137) fk_11_45 rfl (by decide) (Nat.lt_of_lt_of_le (by decide) hsz) dX11_inList_8 ?_
  refine ax_iload_n hX dX11_inList_11 rfl ?_
  refine tx_ial hX ly_137 (by decide) (Nat.lt_of_lt_of_le (by decide) hsz) hyp.1 dX11_inList_12 ?_
  replace hyp := hyp.2
  refine ax_icmp_ge hX dX11_inList_13 (tgt := 49) (by decide) (fun c => ?_) (fun c => ?_)
  · replace hyp := hyp.1 c
    refine ax_iload_n hX dX11_inList_49 rfl ?_
    exact hR.1 _ _ _ _ _ _ (by decide) (by decide) dX11_inList_50 ⟨_, rfl, rfl⟩ ⟨_, _, rfl, rfl, hyp⟩
  · replace hyp := hyp.2 c
    refine ax_iload_n hX dX11_inList_16 rfl ?_
    refine ax_aload_n hX dX11_inList_17 (Or.inr ⟨_, rfl⟩) rfl ?_
    refine ax_iload_n hX dX11_inList_18 rfl ?_
    refine ax_aload_n hX dX11_inList_19 (Or.inr ⟨_, rfl⟩) rfl ?_
    refine tx_getF hX fRX11_206 ly_105 (o := 34) (b := 139) fk_11_47 rfl (by decide) (Nat.lt_of_lt_of_le (by decide) hsz) dX11_inList_20 ?_
    refine ax_iconst hX dX11_inList_23 (v := 4) (by decide) ?_
    refine ax_iload_n hX dX11_inList_24 rfl ?_
    refine ax_imul hX dX11_inList_25 ?_
    refine ax_iload hX dX11_inList_26 rfl ?_
    refine ax_iadd hX dX11_inList_28 ?_
    refine tx_lal hX ly_139 (by decide) (Nat.lt_of_lt_of_le (by decide) hsz) hyp.1 dX11_inList_29 ?_
    replace hyp := hyp.2
    obtain ⟨Q1, hK, hyp⟩ := hyp
    refine ax_callV hX lRX11_318 im_X11_hasPiece sl_X11_hasPiece cw_X11_hasPiece ((th_at (by decide) (Nat.lt_of_lt_of_le (by decide) hsz)).trans (tc_ob ly_105)) rfl rfl (A := [.int v2, .long (T.2.1 139 (((4 : Int32) * v1) + v4).toNatClampNeg)]) (st := [.int v3]) rfl rfl (Nat.le_of_ble_eq_true rfl) (by decide) (by decide) dX11_inList_30 hK ?_
    rintro _ _ ⟨r1, T1, rfl, rfl, hq⟩
    replace hyp := hyp r1 T1 hq
    refine ax_if_eq hX dX11_inList_33 (tgt := 40) (by decide) (fun c => ?_) (fun c => ?_)
    · replace hyp := hyp.1 c
      refine ax_iconst hX dX11_inList_40 (v := 0) (by decide) ?_
      refine ax_iadd hX dX11_inList_41 ?_
      refine ax_istore_n hX dX11_inList_42 (by decide) (L' := [some (.ref 105), some (.int v1), some (.int v2), some (.int (v3 + (0 : Int32))), some (.int v4)]) rfl ?_
      refine ax_iinc hX dX11_inList_43 rfl (w := (v4 + (1 : Int32))) rfl (by decide) (L' := [some (.ref 105), some (.int v1), some (.int v2), some (.int (v3 + (0 : Int32))), some (.int (v4 + (1 : Int32)))]) rfl ?_
      refine ax_goto hX dX11_inList_46 (tgt := 5) (by decide) ?_
      exact ax_forget (L' := [some (.ref 105), some (.int v1), some (.int v2), some (.int (v3 + (0 : Int32))), some (.int (v4 + (1 : Int32)))]) (⟨rfl, ⟨rfl, ⟨rfl, ⟨rfl, ⟨rfl, trivial⟩⟩⟩⟩⟩) hyp
    · replace hyp := hyp.2 c
      refine ax_iconst hX dX11_inList_36 (v := 1) (by decide) ?_
      refine ax_goto hX dX11_inList_37 (tgt := 41) (by decide) ?_
      refine ax_iadd hX dX11_inList_41 ?_
      refine ax_istore_n hX dX11_inList_42 (by decide) (L' := [some (.ref 105), some (.int v1), some (.int v2), some (.int (v3 + (1 : Int32))), some (.int v4)]) rfl ?_
      refine ax_iinc hX dX11_inList_43 rfl (w := (v4 + (1 : Int32))) rfl (by decide) (L' := [some (.ref 105), some (.int v1), some (.int v2), some (.int (v3 + (1 : Int32))), some (.int (v4 + (1 : Int32)))]) rfl ?_
      refine ax_goto hX dX11_inList_46 (tgt := 5) (by decide) ?_
      exact ax_forget (L' := [some (.ref 105), some (.int v1), some (.int v2), some (.int (v3 + (1 : Int32))), some (.int (v4 + (1 : Int32)))]) (⟨rfl, ⟨rfl, ⟨rfl, ⟨rfl, ⟨rfl, trivial⟩⟩⟩⟩⟩) hyp
set_option maxRecDepth 10000 in
theorem s_X11_inNone_0 {X : ax_X} {d L sz : Nat} {T : tT} {Q : Int32 → tT → Prop} (hX : ax_ok X mX11_inNone (d + 1)) (hR : ax_Ret X mX11_inNone (ti L sz Q)) (hsz : 161 ≤ sz) (x0 : Int32) (x1 : Int32) (hyp : ax_j X 5 [some (.ref 105), some (.int x0), some (.int x1), some (.int (0 : Int32)), some (.int (0 : Int32)), none, none] [] (th L sz T) 0 0) : ax_j X 0 [some (.ref 105), some (.int x0), some (.int x1), none, none, none, none] [] (th L sz T) 0 0 := by
  refine ax_iconst hX dX11_inNone_0 (v := 0) (by decide) ?_
  refine ax_istore_n hX dX11_inNone_1 (by decide) (L' := [some (.ref 105), some (.int x0), some (.int x1), some (.int (0 : Int32)), none, none, none]) rfl ?_
  refine ax_iconst hX dX11_inNone_2 (v := 0) (by decide) ?_
  refine ax_istore hX dX11_inNone_3 (by decide) (L' := [some (.ref 105), some (.int x0), some (.int x1), some (.int (0 : Int32)), some (.int (0 : Int32)), none, none]) rfl ?_
  exact ax_forget (L' := [some (.ref 105), some (.int x0), some (.int x1), some (.int (0 : Int32)), some (.int (0 : Int32)), none, none]) (⟨rfl, ⟨rfl, ⟨rfl, ⟨rfl, ⟨rfl, trivial⟩⟩⟩⟩⟩) hyp
set_option maxRecDepth 10000 in
theorem s_X11_inNone_5 {X : ax_X} {d L sz : Nat} {T : tT} {Q : Int32 → tT → Prop} (hX : ax_ok X mX11_inNone (d + 1)) (hR : ax_Ret X mX11_inNone (ti L sz Q)) (hsz : 161 ≤ sz) (v1 : Int32) (v2 : Int32) (v3 : Int32) (v4 : Int32) (hyp : vp_in v1 40 ∧ (((T.1 137 (v1.toNatClampNeg)) ≤ v4 → Q v3 T) ∧ (¬ (T.1 137 (v1.toNatClampNeg)) ≤ v4 → ax_j X 22 [some (.ref 105), some (.int v1), some (.int v2), some (.int v3), some (.int v4), some (.int (0 : Int32)), some (.int (0 : Int32))] [] (th L sz T) 0 0))) : ax_j X 5 [some (.ref 105), some (.int v1), some (.int v2), some (.int v3), some (.int v4), none, none] [] (th L sz T) 0 0 := by
  refine ax_iload hX dX11_inNone_5 rfl ?_
  refine ax_aload_n hX dX11_inNone_7 (Or.inr ⟨_, rfl⟩) rfl ?_
  refine tx_getF hX fRX11_200 ly_105 (o := 32) (b := 137) fk_11_45 rfl (by decide) (Nat.lt_of_lt_of_le (by decide) hsz) dX11_inNone_8 ?_
  refine ax_iload_n hX dX11_inNone_11 rfl ?_
  refine tx_ial hX ly_137 (by decide) (Nat.lt_of_lt_of_le (by decide) hsz) hyp.1 dX11_inNone_12 ?_
  replace hyp := hyp.2
  refine ax_icmp_ge hX dX11_inNone_13 (tgt := 95) (by decide) (fun c => ?_) (fun c => ?_)
  · replace hyp := hyp.1 c
    refine ax_iload_n hX dX11_inNone_95 rfl ?_
    exact hR.1 _ _ _ _ _ _ (by decide) (by decide) dX11_inNone_96 ⟨_, rfl, rfl⟩ ⟨_, _, rfl, rfl, hyp⟩
  · replace hyp := hyp.2 c
    refine ax_iconst hX dX11_inNone_16 (v := 0) (by decide) ?_
    refine ax_istore hX dX11_inNone_17 (by decide) (L' := [some (.ref 105), some (.int v1), some (.int v2), some (.int v3), some (.int v4), some (.int (0 : Int32)), none]) rfl ?_
    refine ax_iconst hX dX11_inNone_19 (v := 0) (by decide) ?_
    refine ax_istore hX dX11_inNone_20 (by decide) (L' := [some (.ref 105), some (.int v1), some (.int v2), some (.int v3), some (.int v4), some (.int (0 : Int32)), some (.int (0 : Int32))]) rfl ?_
    exact ax_forget (L' := [some (.ref 105), some (.int v1), some (.int v2), some (.int v3), some (.int v4), some (.int (0 : Int32)), some (.int (0 : Int32))]) (⟨rfl, ⟨rfl, ⟨rfl, ⟨rfl, ⟨rfl, ⟨rfl, ⟨rfl, trivial⟩⟩⟩⟩⟩⟩⟩) hyp
set_option maxRecDepth 10000 in
theorem s_X11_inNone_22 {X : ax_X} {d L sz : Nat} {T : tT} {Q : Int32 → tT → Prop} (hX : ax_ok X mX11_inNone (d + 1)) (hR : ax_Ret X mX11_inNone (ti L sz Q)) (hsz : 161 ≤ sz) (v1 : Int32) (v2 : Int32) (v3 : Int32) (v4 : Int32) (v5 : Int32) (v6 : Int32) (hyp : vp_in v2 40 ∧ (((T.1 111 (v2.toNatClampNeg)) ≤ v6 → ((v5 = 0 → ax_j X 5 [some (.ref 105), some (.int v1), some (.int v2), some (.int (v3 + (1 : Int32))), some (.int (v4 + (1 : Int32))), none, none] [] (th L sz T) 0 0) ∧ (¬ v5 = 0 → ax_j X 5 [some (.ref 105), some (.int v1), some (.int v2), some (.int (v3 + (0 : Int32))), some (.int (v4 + (1 : Int32))), none, none] [] (th L sz T) 0 0))) ∧ (¬ (T.1 111 (v2.toNatClampNeg)) ≤ v6 → ((¬ v5 = 0 → ax_j X 22 [some (.ref 105), some (.int v1), some (.int v2), some (.int v3), some (.int v4), some (.int (1 : Int32)), some (.int (v6 + (1 : Int32)))] [] (th L sz T) 0 0) ∧ (v5 = 0 → vp_in (((4 : Int32) * v1) + v4) 160 ∧ ∃ Q1, tiK d mX11_hasPiece [.ref 105, .int (((6 : Int32) * v2) + v6), .long (T.2.1 139 (((4 : Int32) * v1) + v4).toNatClampNeg)] L sz T Q1 ∧ ∀ (r1 : Int32) (T1 : tT), Q1 r1 T1 → (((r1 = 0 → ax_j X 22 [some (.ref 105), some (.int v1), some (.int v2), some (.int v3), some (.int v4), some (.int (0 : Int32)), some (.int (v6 + (1 : Int32)))] [] (th L sz T1) 0 0) ∧ (¬ r1 = 0 → ax_j X 22 [some (.ref 105), some (.int v1), some (.int v2), some (.int v3), some (.int v4), some (.int (1 : Int32)), some (.int (v6 + (1 : Int32)))] [] (th L sz T1) 0 0)))))))) : ax_j X 22 [some (.ref 105), some (.int v1), some (.int v2), some (.int v3), some (.int v4), some (.int v5), some (.int v6)] [] (th L sz T) 0 0 := by
  refine ax_iload hX dX11_inNone_22 rfl ?_
  refine ax_aload_n hX dX11_inNone_24 (Or.inr ⟨_, rfl⟩) rfl ?_
  refine tx_getF hX fRX11_121 ly_105 (o := 6) (b := 111) fk_11_17 rfl (by decide) (Nat.lt_of_lt_of_le (by decide) hsz) dX11_inNone_25 ?_
  refine ax_iload_n hX dX11_inNone_28 rfl ?_
  refine tx_ial hX ly_111 (by decide) (Nat.lt_of_lt_of_le (by decide) hsz) hyp.1 dX11_inNone_29 ?_
  replace hyp := hyp.2
  refine ax_icmp_ge hX dX11_inNone_30 (tgt := 76) (by decide) (fun c => ?_) (fun c => ?_)
  · replace hyp := hyp.1 c
    refine ax_iload_n hX dX11_inNone_76 rfl ?_
    refine ax_iload hX dX11_inNone_77 rfl ?_
    refine ax_if_eq hX dX11_inNone_79 (tgt := 86) (by decide) (fun c => ?_) (fun c => ?_)
    · replace hyp := hyp.1 c
      refine ax_iconst hX dX11_inNone_86 (v := 1) (by decide) ?_
      refine ax_iadd hX dX11_inNone_87 ?_
      refine ax_istore_n hX dX11_inNone_88 (by decide) (L' := [some (.ref 105), some (.int v1), some (.int v2), some (.int (v3 + (1 : Int32))), some (.int v4), some (.int v5), some (.int v6)]) rfl ?_
      refine ax_iinc hX dX11_inNone_89 rfl (w := (v4 + (1 : Int32))) rfl (by decide) (L' := [some (.ref 105), some (.int v1), some (.int v2), some (.int (v3 + (1 : Int32))), some (.int (v4 + (1 : Int32))), some (.int v5), some (.int v6)]) rfl ?_
      refine ax_goto hX dX11_inNone_92 (tgt := 5) (by decide) ?_
      exact ax_forget (L' := [some (.ref 105), some (.int v1), some (.int v2), some (.int (v3 + (1 : Int32))), some (.int (v4 + (1 : Int32))), none, none]) (⟨rfl, ⟨rfl, ⟨rfl, ⟨rfl, ⟨rfl, trivial⟩⟩⟩⟩⟩) hyp
    · replace hyp := hyp.2 c
      refine ax_iconst hX dX11_inNone_82 (v := 0) (by decide) ?_
      refine ax_goto hX dX11_inNone_83 (tgt := 87) (by decide) ?_
      refine ax_iadd hX dX11_inNone_87 ?_
      refine ax_istore_n hX dX11_inNone_88 (by decide) (L' := [some (.ref 105), some (.int v1), some (.int v2), some (.int (v3 + (0 : Int32))), some (.int v4), some (.int v5), some (.int v6)]) rfl ?_
      refine ax_iinc hX dX11_inNone_89 rfl (w := (v4 + (1 : Int32))) rfl (by decide) (L' := [some (.ref 105), some (.int v1), some (.int v2), some (.int (v3 + (0 : Int32))), some (.int (v4 + (1 : Int32))), some (.int v5), some (.int v6)]) rfl ?_
      refine ax_goto hX dX11_inNone_92 (tgt := 5) (by decide) ?_
      exact ax_forget (L' := [some (.ref 105), some (.int v1), some (.int v2), some (.int (v3 + (0 : Int32))), some (.int (v4 + (1 : Int32))), none, none]) (⟨rfl, ⟨rfl, ⟨rfl, ⟨rfl, ⟨rfl, trivial⟩⟩⟩⟩⟩) hyp
  · replace hyp := hyp.2 c
    refine ax_iload hX dX11_inNone_33 rfl ?_
    refine ax_if_ne hX dX11_inNone_35 (tgt := 63) (by decide) (fun c => ?_) (fun c => ?_)
    · replace hyp := hyp.1 c
      refine ax_iconst hX dX11_inNone_63 (v := 1) (by decide) ?_
      refine ax_goto hX dX11_inNone_64 (tgt := 68) (by decide) ?_
      refine ax_istore hX dX11_inNone_68 (by decide) (L' := [some (.ref 105), some (.int v1), some (.int v2), some (.int v3), some (.int v4), some (.int (1 : Int32)), some (.int v6)]) rfl ?_
      refine ax_iinc hX dX11_inNone_70 rfl (w := (v6 + (1 : Int32))) rfl (by decide) (L' := [some (.ref 105), some (.int v1), some (.int v2), some (.int v3), some (.int v4), some (.int (1 : Int32)), some (.int (v6 + (1 : Int32)))]) rfl ?_
      refine ax_goto hX dX11_inNone_73 (tgt := 22) (by decide) ?_
      exact ax_forget (L' := [some (.ref 105), some (.int v1), some (.int v2), some (.int v3), some (.int v4), some (.int (1 : Int32)), some (.int (v6 + (1 : Int32)))]) (⟨rfl, ⟨rfl, ⟨rfl, ⟨rfl, ⟨rfl, ⟨rfl, ⟨rfl, trivial⟩⟩⟩⟩⟩⟩⟩) hyp
    · replace hyp := hyp.2 c
      refine ax_aload_n hX dX11_inNone_38 (Or.inr ⟨_, rfl⟩) rfl ?_
      refine ax_bipush hX dX11_inNone_39 (v := 6) (by decide) ?_
      refine ax_iload_n hX dX11_inNone_41 rfl ?_
      refine ax_imul hX dX11_inNone_42 ?_
      refine ax_iload hX dX11_inNone_43 rfl ?_
      refine ax_iadd hX dX11_inNone_45 ?_
      refine ax_aload_n hX dX11_inNone_46 (Or.inr ⟨_, rfl⟩) rfl ?_
      refine tx_getF hX fRX11_206 ly_105 (o := 34) (b := 139) fk_11_47 rfl (by decide) (Nat.lt_of_lt_of_le (by decide) hsz) dX11_inNone_47 ?_
      refine ax_iconst hX dX11_inNone_50 (v := 4) (by decide) ?_
      refine ax_iload_n hX dX11_inNone_51 rfl ?_
      refine ax_imul hX dX11_inNone_52 ?_
      refine ax_iload hX dX11_inNone_53 rfl ?_
      refine ax_iadd hX dX11_inNone_55 ?_
      refine tx_lal hX ly_139 (by decide) (Nat.lt_of_lt_of_le (by decide) hsz) hyp.1 dX11_inNone_56 ?_
      replace hyp := hyp.2
      obtain ⟨Q1, hK, hyp⟩ := hyp
      refine ax_callV hX lRX11_318 im_X11_hasPiece sl_X11_hasPiece cw_X11_hasPiece ((th_at (by decide) (Nat.lt_of_lt_of_le (by decide) hsz)).trans (tc_ob ly_105)) rfl rfl (A := [.int (((6 : Int32) * v2) + v6), .long (T.2.1 139 (((4 : Int32) * v1) + v4).toNatClampNeg)]) (st := []) rfl rfl (Nat.le_of_ble_eq_true rfl) (by decide) (by decide) dX11_inNone_57 hK ?_
      rintro _ _ ⟨r1, T1, rfl, rfl, hq⟩
      replace hyp := hyp r1 T1 hq
      refine ax_if_eq hX dX11_inNone_60 (tgt := 67) (by decide) (fun c => ?_) (fun c => ?_)
      · replace hyp := hyp.1 c
        refine ax_iconst hX dX11_inNone_67 (v := 0) (by decide) ?_
        refine ax_istore hX dX11_inNone_68 (by decide) (L' := [some (.ref 105), some (.int v1), some (.int v2), some (.int v3), some (.int v4), some (.int (0 : Int32)), some (.int v6)]) rfl ?_
        refine ax_iinc hX dX11_inNone_70 rfl (w := (v6 + (1 : Int32))) rfl (by decide) (L' := [some (.ref 105), some (.int v1), some (.int v2), some (.int v3), some (.int v4), some (.int (0 : Int32)), some (.int (v6 + (1 : Int32)))]) rfl ?_
        refine ax_goto hX dX11_inNone_73 (tgt := 22) (by decide) ?_
        exact ax_forget (L' := [some (.ref 105), some (.int v1), some (.int v2), some (.int v3), some (.int v4), some (.int (0 : Int32)), some (.int (v6 + (1 : Int32)))]) (⟨rfl, ⟨rfl, ⟨rfl, ⟨rfl, ⟨rfl, ⟨rfl, ⟨rfl, trivial⟩⟩⟩⟩⟩⟩⟩) hyp
      · replace hyp := hyp.2 c
        refine ax_iconst hX dX11_inNone_63 (v := 1) (by decide) ?_
        refine ax_goto hX dX11_inNone_64 (tgt := 68) (by decide) ?_
        refine ax_istore hX dX11_inNone_68 (by decide) (L' := [some (.ref 105), some (.int v1), some (.int v2), some (.int v3), some (.int v4), some (.int (1 : Int32)), some (.int v6)]) rfl ?_
        refine ax_iinc hX dX11_inNone_70 rfl (w := (v6 + (1 : Int32))) rfl (by decide) (L' := [some (.ref 105), some (.int v1), some (.int v2), some (.int v3), some (.int v4), some (.int (1 : Int32)), some (.int (v6 + (1 : Int32)))]) rfl ?_
        refine ax_goto hX dX11_inNone_73 (tgt := 22) (by decide) ?_
        exact ax_forget (L' := [some (.ref 105), some (.int v1), some (.int v2), some (.int v3), some (.int v4), some (.int (1 : Int32)), some (.int (v6 + (1 : Int32)))]) (⟨rfl, ⟨rfl, ⟨rfl, ⟨rfl, ⟨rfl, ⟨rfl, ⟨rfl, trivial⟩⟩⟩⟩⟩⟩⟩) hyp
set_option maxRecDepth 10000 in
theorem s_X11_is_0 {X : ax_X} {d L sz : Nat} {T : tT} {Q : Int32 → tT → Prop} (hX : ax_ok X mX11_is (d + 1)) (hR : ax_Ret X mX11_is (ti L sz Q)) (hsz : 161 ≤ sz) (x0 : Int32) (hyp : ((¬ (T.1 105 8) = (5 : Int32) → Q (0 : Int32) T) ∧ ((T.1 105 8) = (5 : Int32) → ∃ Q1, tiK d mX11_sign [.ref 105, .int (T.1 105 6)] L sz T Q1 ∧ ∀ (r1 : Int32) (T1 : tT), Q1 r1 T1 → (((¬ r1 = x0 → Q (0 : Int32) T1) ∧ (r1 = x0 → Q (1 : Int32) T1)))))) : ax_j X 0 [some (.ref 105), some (.int x0)] [] (th L sz T) 0 0 := by
  refine ax_aload_n hX dX11_is_0 (Or.inr ⟨_, rfl⟩) rfl ?_
  refine tx_getI hX fRX11_61 ly_105 fk_11_8 (by decide) (Nat.lt_of_lt_of_le (by decide) hsz) dX11_is_1 ?_
  refine ax_iconst hX dX11_is_4 (v := 5) (by decide) ?_
  refine ax_icmp_ne hX dX11_is_5 (tgt := 24) (by decide) (fun c => ?_) (fun c => ?_)
  · replace hyp := hyp.1 c
    refine ax_iconst hX dX11_is_24 (v := 0) (by decide) ?_
    exact hR.1 _ _ _ _ _ _ (by decide) (by decide) dX11_is_25 ⟨_, rfl, rfl⟩ ⟨_, _, rfl, rfl, hyp⟩
  · replace hyp := hyp.2 c
    refine ax_aload_n hX dX11_is_8 (Or.inr ⟨_, rfl⟩) rfl ?_
    refine ax_aload_n hX dX11_is_9 (Or.inr ⟨_, rfl⟩) rfl ?_
    refine tx_getI hX fRX11_54 ly_105 fk_11_6 (by decide) (Nat.lt_of_lt_of_le (by decide) hsz) dX11_is_10 ?_
    obtain ⟨Q1, hK, hyp⟩ := hyp
    refine ax_callV hX lRX11_57 im_X11_sign sl_X11_sign cw_X11_sign ((th_at (by decide) (Nat.lt_of_lt_of_le (by decide) hsz)).trans (tc_ob ly_105)) rfl rfl (A := [.int (T.1 105 6)]) (st := []) rfl rfl (Nat.le_of_ble_eq_true rfl) (by decide) (by decide) dX11_is_13 hK ?_
    rintro _ _ ⟨r1, T1, rfl, rfl, hq⟩
    replace hyp := hyp r1 T1 hq
    refine ax_iload_n hX dX11_is_16 rfl ?_
    refine ax_icmp_ne hX dX11_is_17 (tgt := 24) (by decide) (fun c => ?_) (fun c => ?_)
    · replace hyp := hyp.1 c
      refine ax_iconst hX dX11_is_24 (v := 0) (by decide) ?_
      exact hR.1 _ _ _ _ _ _ (by decide) (by decide) dX11_is_25 ⟨_, rfl, rfl⟩ ⟨_, _, rfl, rfl, hyp⟩
    · replace hyp := hyp.2 c
      refine ax_iconst hX dX11_is_20 (v := 1) (by decide) ?_
      refine ax_goto hX dX11_is_21 (tgt := 25) (by decide) ?_
      exact hR.1 _ _ _ _ _ _ (by decide) (by decide) dX11_is_25 ⟨_, rfl, rfl⟩ ⟨_, _, rfl, rfl, hyp⟩
set_option maxRecDepth 10000 in
theorem s_X11_isCentre_0 {X : ax_X} {d L sz : Nat} {T : tT} {Q : Int32 → tT → Prop} (hX : ax_ok X mX11_isCentre d) (hR : ax_Ret X mX11_isCentre (ti L sz Q)) (hsz : 161 ≤ sz) (x0 : Int32) (hyp : ((x0 < 0 → Q (0 : Int32) T) ∧ (¬ x0 < 0 → (((T.1 105 56) ≤ x0 → Q (0 : Int32) T) ∧ (¬ (T.1 105 56) ≤ x0 → Q (1 : Int32) T))))) : ax_j X 0 [some (.ref 105), some (.int x0)] [] (th L sz T) 0 0 := by
  refine ax_iload_n hX dX11_isCentre_0 rfl ?_
  refine ax_if_lt hX dX11_isCentre_1 (tgt := 16) (by decide) (fun c => ?_) (fun c => ?_)
  · replace hyp := hyp.1 c
    refine ax_iconst hX dX11_isCentre_16 (v := 0) (by decide) ?_
    exact hR.1 _ _ _ _ _ _ (by decide) (by decide) dX11_isCentre_17 ⟨_, rfl, rfl⟩ ⟨_, _, rfl, rfl, hyp⟩
  · replace hyp := hyp.2 c
    refine ax_iload_n hX dX11_isCentre_4 rfl ?_
    refine ax_aload_n hX dX11_isCentre_5 (Or.inr ⟨_, rfl⟩) rfl ?_
    refine tx_getI hX fRX11_394 ly_105 fk_11_56 (by decide) (Nat.lt_of_lt_of_le (by decide) hsz) dX11_isCentre_6 ?_
    refine ax_icmp_ge hX dX11_isCentre_9 (tgt := 16) (by decide) (fun c => ?_) (fun c => ?_)
    · replace hyp := hyp.1 c
      refine ax_iconst hX dX11_isCentre_16 (v := 0) (by decide) ?_
      exact hR.1 _ _ _ _ _ _ (by decide) (by decide) dX11_isCentre_17 ⟨_, rfl, rfl⟩ ⟨_, _, rfl, rfl, hyp⟩
    · replace hyp := hyp.2 c
      refine ax_iconst hX dX11_isCentre_12 (v := 1) (by decide) ?_
      refine ax_goto hX dX11_isCentre_13 (tgt := 17) (by decide) ?_
      exact hR.1 _ _ _ _ _ _ (by decide) (by decide) dX11_isCentre_17 ⟨_, rfl, rfl⟩ ⟨_, _, rfl, rfl, hyp⟩
set_option maxRecDepth 10000 in
theorem s_X11_isDigit_0 {X : ax_X} {d L sz : Nat} {T : tT} {Q : Int32 → tT → Prop} (hX : ax_ok X mX11_isDigit d) (hR : ax_Ret X mX11_isDigit (ti L sz Q)) (hsz : 161 ≤ sz) (x0 : Int32) (hyp : ((x0 < (48 : Int32) → Q (0 : Int32) T) ∧ (¬ x0 < (48 : Int32) → (((57 : Int32) < x0 → Q (0 : Int32) T) ∧ (¬ (57 : Int32) < x0 → Q (1 : Int32) T))))) : ax_j X 0 [some (.int x0)] [] (th L sz T) 0 0 := by
  refine ax_iload_n hX dX11_isDigit_0 rfl ?_
  refine ax_bipush hX dX11_isDigit_1 (v := 48) (by decide) ?_
  refine ax_icmp_lt hX dX11_isDigit_3 (tgt := 16) (by decide) (fun c => ?_) (fun c => ?_)
  · replace hyp := hyp.1 c
    refine ax_iconst hX dX11_isDigit_16 (v := 0) (by decide) ?_
    exact hR.1 _ _ _ _ _ _ (by decide) (by decide) dX11_isDigit_17 ⟨_, rfl, rfl⟩ ⟨_, _, rfl, rfl, hyp⟩
  · replace hyp := hyp.2 c
    refine ax_iload_n hX dX11_isDigit_6 rfl ?_
    refine ax_bipush hX dX11_isDigit_7 (v := 57) (by decide) ?_
    refine ax_icmp_gt hX dX11_isDigit_9 (tgt := 16) (by decide) (fun c => ?_) (fun c => ?_)
    · replace hyp := hyp.1 c
      refine ax_iconst hX dX11_isDigit_16 (v := 0) (by decide) ?_
      exact hR.1 _ _ _ _ _ _ (by decide) (by decide) dX11_isDigit_17 ⟨_, rfl, rfl⟩ ⟨_, _, rfl, rfl, hyp⟩
    · replace hyp := hyp.2 c
      refine ax_iconst hX dX11_isDigit_12 (v := 1) (by decide) ?_
      refine ax_goto hX dX11_isDigit_13 (tgt := 17) (by decide) ?_
      exact hR.1 _ _ _ _ _ _ (by decide) (by decide) dX11_isDigit_17 ⟨_, rfl, rfl⟩ ⟨_, _, rfl, rfl, hyp⟩
set_option maxRecDepth 10000 in
theorem s_X11_isEntry_0 {X : ax_X} {d L sz : Nat} {T : tT} {Q : Int32 → tT → Prop} (hX : ax_ok X mX11_isEntry d) (hR : ax_Ret X mX11_isEntry (ti L sz Q)) (hsz : 161 ≤ sz) (x0 : Int32) (hyp : ((x0 < 0 → Q (0 : Int32) T) ∧ (¬ x0 < 0 → (((T.1 105 48) ≤ x0 → Q (0 : Int32) T) ∧ (¬ (T.1 105 48) ≤ x0 → Q (1 : Int32) T))))) : ax_j X 0 [some (.ref 105), some (.int x0)] [] (th L sz T) 0 0 := by
  refine ax_iload_n hX dX11_isEntry_0 rfl ?_
  refine ax_if_lt hX dX11_isEntry_1 (tgt := 16) (by decide) (fun c => ?_) (fun c => ?_)
  · replace hyp := hyp.1 c
    refine ax_iconst hX dX11_isEntry_16 (v := 0) (by decide) ?_
    exact hR.1 _ _ _ _ _ _ (by decide) (by decide) dX11_isEntry_17 ⟨_, rfl, rfl⟩ ⟨_, _, rfl, rfl, hyp⟩
  · replace hyp := hyp.2 c
    refine ax_iload_n hX dX11_isEntry_4 rfl ?_
    refine ax_aload_n hX dX11_isEntry_5 (Or.inr ⟨_, rfl⟩) rfl ?_
    refine tx_getI hX fRX11_354 ly_105 fk_11_48 (by decide) (Nat.lt_of_lt_of_le (by decide) hsz) dX11_isEntry_6 ?_
    refine ax_icmp_ge hX dX11_isEntry_9 (tgt := 16) (by decide) (fun c => ?_) (fun c => ?_)
    · replace hyp := hyp.1 c
      refine ax_iconst hX dX11_isEntry_16 (v := 0) (by decide) ?_
      exact hR.1 _ _ _ _ _ _ (by decide) (by decide) dX11_isEntry_17 ⟨_, rfl, rfl⟩ ⟨_, _, rfl, rfl, hyp⟩
    · replace hyp := hyp.2 c
      refine ax_iconst hX dX11_isEntry_12 (v := 1) (by decide) ?_
      refine ax_goto hX dX11_isEntry_13 (tgt := 17) (by decide) ?_
      exact hR.1 _ _ _ _ _ _ (by decide) (by decide) dX11_isEntry_17 ⟨_, rfl, rfl⟩ ⟨_, _, rfl, rfl, hyp⟩
set_option maxRecDepth 10000 in
theorem s_X11_isExaminer_0 {X : ax_X} {d L sz : Nat} {T : tT} {Q : Int32 → tT → Prop} (hX : ax_ok X mX11_isExaminer d) (hR : ax_Ret X mX11_isExaminer (ti L sz Q)) (hsz : 161 ≤ sz) (x0 : Int32) (hyp : ((x0 < 0 → Q (0 : Int32) T) ∧ (¬ x0 < 0 → (((T.1 105 57) ≤ x0 → Q (0 : Int32) T) ∧ (¬ (T.1 105 57) ≤ x0 → Q (1 : Int32) T))))) : ax_j X 0 [some (.ref 105), some (.int x0)] [] (th L sz T) 0 0 := by
  refine ax_iload_n hX dX11_isExaminer_0 rfl ?_
  refine ax_if_lt hX dX11_isExaminer_1 (tgt := 16) (by decide) (fun c => ?_) (fun c => ?_)
  · replace hyp := hyp.1 c
    refine ax_iconst hX dX11_isExaminer_16 (v := 0) (by decide) ?_
    exact hR.1 _ _ _ _ _ _ (by decide) (by decide) dX11_isExaminer_17 ⟨_, rfl, rfl⟩ ⟨_, _, rfl, rfl, hyp⟩
  · replace hyp := hyp.2 c
    refine ax_iload_n hX dX11_isExaminer_4 rfl ?_
    refine ax_aload_n hX dX11_isExaminer_5 (Or.inr ⟨_, rfl⟩) rfl ?_
    refine tx_getI hX fRX11_357 ly_105 fk_11_57 (by decide) (Nat.lt_of_lt_of_le (by decide) hsz) dX11_isExaminer_6 ?_
    refine ax_icmp_ge hX dX11_isExaminer_9 (tgt := 16) (by decide) (fun c => ?_) (fun c => ?_)
    · replace hyp := hyp.1 c
      refine ax_iconst hX dX11_isExaminer_16 (v := 0) (by decide) ?_
      exact hR.1 _ _ _ _ _ _ (by decide) (by decide) dX11_isExaminer_17 ⟨_, rfl, rfl⟩ ⟨_, _, rfl, rfl, hyp⟩
    · replace hyp := hyp.2 c
      refine ax_iconst hX dX11_isExaminer_12 (v := 1) (by decide) ?_
      refine ax_goto hX dX11_isExaminer_13 (tgt := 17) (by decide) ?_
      exact hR.1 _ _ _ _ _ _ (by decide) (by decide) dX11_isExaminer_17 ⟨_, rfl, rfl⟩ ⟨_, _, rfl, rfl, hyp⟩
set_option maxRecDepth 10000 in
theorem s_X11_isGood_0 {X : ax_X} {d L sz : Nat} {T : tT} {Q : Int32 → tT → Prop} (hX : ax_ok X mX11_isGood d) (hR : ax_Ret X mX11_isGood (ti L sz Q)) (hsz : 161 ≤ sz)  (hyp : ((¬ (T.1 105 4) = 0 → Q (0 : Int32) T) ∧ ((T.1 105 4) = 0 → Q (1 : Int32) T))) : ax_j X 0 [some (.ref 105)] [] (th L sz T) 0 0 := by
  refine ax_aload_n hX dX11_isGood_0 (Or.inr ⟨_, rfl⟩) rfl ?_
  refine tx_getI hX fRX11_11 ly_105 fk_11_4 (by decide) (Nat.lt_of_lt_of_le (by decide) hsz) dX11_isGood_1 ?_
  refine ax_if_ne hX dX11_isGood_4 (tgt := 11) (by decide) (fun c => ?_) (fun c => ?_)
  · replace hyp := hyp.1 c
    refine ax_iconst hX dX11_isGood_11 (v := 0) (by decide) ?_
    exact hR.1 _ _ _ _ _ _ (by decide) (by decide) dX11_isGood_12 ⟨_, rfl, rfl⟩ ⟨_, _, rfl, rfl, hyp⟩
  · replace hyp := hyp.2 c
    refine ax_iconst hX dX11_isGood_7 (v := 1) (by decide) ?_
    refine ax_goto hX dX11_isGood_8 (tgt := 12) (by decide) ?_
    exact hR.1 _ _ _ _ _ _ (by decide) (by decide) dX11_isGood_12 ⟨_, rfl, rfl⟩ ⟨_, _, rfl, rfl, hyp⟩
set_option maxRecDepth 10000 in
theorem s_X11_isKept_0 {X : ax_X} {d L sz : Nat} {T : tT} {Q : Int32 → tT → Prop} (hX : ax_ok X mX11_isKept (d + 1)) (hR : ax_Ret X mX11_isKept (ti L sz Q)) (hsz : 161 ≤ sz) (x0 : Int64) (hyp : ∃ Q1, tiK d mX11_isMeant [.long x0] L sz T Q1 ∧ ∀ (r1 : Int32) (T1 : tT), Q1 r1 T1 → (((¬ r1 = 0 → Q (1 : Int32) T1) ∧ (r1 = 0 → ((x0 = (444300616805 : Int64) → Q (1 : Int32) T1) ∧ (¬ x0 = (444300616805 : Int64) → ((x0 = (1818850164 : Int64) → Q (1 : Int32) T1) ∧ (¬ x0 = (1818850164 : Int64) → ((x0 = (1885434484 : Int64) → Q (1 : Int32) T1) ∧ (¬ x0 = (1885434484 : Int64) → ((x0 = (30796695599342963 : Int64) → Q (1 : Int32) T1) ∧ (¬ x0 = (30796695599342963 : Int64) → ((x0 = (1836413812 : Int64) → Q (1 : Int32) T1) ∧ (¬ x0 = (1836413812 : Int64) → ((x0 = (1885434739 : Int64) → Q (1 : Int32) T1) ∧ (¬ x0 = (1885434739 : Int64) → ((x0 = (469853432180 : Int64) → Q (1 : Int32) T1) ∧ (¬ x0 = (469853432180 : Int64) → ((x0 = (28530 : Int64) → Q (1 : Int32) T1) ∧ (¬ x0 = (28530 : Int64) → ((x0 = (6385252 : Int64) → Q (1 : Int32) T1) ∧ (¬ x0 = (6385252 : Int64) → ((¬ x0 = (7237492 : Int64) → Q (0 : Int32) T1) ∧ (x0 = (7237492 : Int64) → Q (1 : Int32) T1)))))))))))))))))))))))) : ax_j X 0 [some (.long x0), none] [] (th L sz T) 0 0 := by
  refine ax_lload_n hX dX11_isKept_0 rfl ?_
  obtain ⟨Q1, hK, hyp⟩ := hyp
  refine ax_callS hX lRX11_27 sm_X11_isMeant cw_X11_isMeant (A := [.long x0]) (st := []) rfl rfl (Nat.le_of_ble_eq_true rfl) (by decide) (by decide) dX11_isKept_1 hK ?_
  rintro _ _ ⟨r1, T1, rfl, rfl, hq⟩
  replace hyp := hyp r1 T1 hq
  refine ax_if_ne hX dX11_isKept_4 (tgt := 87) (by decide) (fun c => ?_) (fun c => ?_)
  · replace hyp := hyp.1 c
    refine ax_iconst hX dX11_isKept_87 (v := 1) (by decide) ?_
    refine ax_goto hX dX11_isKept_88 (tgt := 92) (by decide) ?_
    exact hR.1 _ _ _ _ _ _ (by decide) (by decide) dX11_isKept_92 ⟨_, rfl, rfl⟩ ⟨_, _, rfl, rfl, hyp⟩
  · replace hyp := hyp.2 c
    refine ax_lload_n hX dX11_isKept_7 rfl ?_
    refine ax_ldc2 hX vRX11_31 dX11_isKept_8 ?_
    refine tx_lcmp_eq hX dX11_isKept_11 dX11_isKept_12 (tgt := 87) (by decide) (fun c => ?_) (fun c => ?_)
    · replace hyp := hyp.1 c
      refine ax_iconst hX dX11_isKept_87 (v := 1) (by decide) ?_
      refine ax_goto hX dX11_isKept_88 (tgt := 92) (by decide) ?_
      exact hR.1 _ _ _ _ _ _ (by decide) (by decide) dX11_isKept_92 ⟨_, rfl, rfl⟩ ⟨_, _, rfl, rfl, hyp⟩
    · replace hyp := hyp.2 c
      refine ax_lload_n hX dX11_isKept_15 rfl ?_
      refine ax_ldc2 hX vRX11_33 dX11_isKept_16 ?_
      refine tx_lcmp_eq hX dX11_isKept_19 dX11_isKept_20 (tgt := 87) (by decide) (fun c => ?_) (fun c => ?_)
      · replace hyp := hyp.1 c
        refine ax_iconst hX dX11_isKept_87 (v := 1) (by decide) ?_
        refine ax_goto hX dX11_isKept_88 (tgt := 92) (by decide) ?_
        exact hR.1 _ _ _ _ _ _ (by decide) (by decide) dX11_isKept_92 ⟨_, rfl, rfl⟩ ⟨_, _, rfl, rfl, hyp⟩
      · replace hyp := hyp.2 c
        refine ax_lload_n hX dX11_isKept_23 rfl ?_
        refine ax_ldc2 hX vRX11_35 dX11_isKept_24 ?_
        refine tx_lcmp_eq hX dX11_isKept_27 dX11_isKept_28 (tgt := 87) (by decide) (fun c => ?_) (fun c => ?_)
        · replace hyp := hyp.1 c
          refine ax_iconst hX dX11_isKept_87 (v := 1) (by decide) ?_
          refine ax_goto hX dX11_isKept_88 (tgt := 92) (by decide) ?_
          exact hR.1 _ _ _ _ _ _ (by decide) (by decide) dX11_isKept_92 ⟨_, rfl, rfl⟩ ⟨_, _, rfl, rfl, hyp⟩
        · replace hyp := hyp.2 c
          refine ax_lload_n hX dX11_isKept_31 rfl ?_
          refine ax_ldc2 hX vRX11_37 dX11_isKept_32 ?_
          refine tx_lcmp_eq hX dX11_isKept_35 dX11_isKept_36 (tgt := 87) (by decide) (fun c => ?_) (fun c => ?_)
          · replace hyp := hyp.1 c
            refine ax_iconst hX dX11_isKept_87 (v := 1) (by decide) ?_
            refine ax_goto hX dX11_isKept_88 (tgt := 92) (by decide) ?_
            exact hR.1 _ _ _ _ _ _ (by decide) (by decide) dX11_isKept_92 ⟨_, rfl, rfl⟩ ⟨_, _, rfl, rfl, hyp⟩
          · replace hyp := hyp.2 c
            refine ax_lload_n hX dX11_isKept_39 rfl ?_
            refine ax_ldc2 hX vRX11_39 dX11_isKept_40 ?_
            refine tx_lcmp_eq hX dX11_isKept_43 dX11_isKept_44 (tgt := 87) (by decide) (fun c => ?_) (fun c => ?_)
            · replace hyp := hyp.1 c
              refine ax_iconst hX dX11_isKept_87 (v := 1) (by decide) ?_
              refine ax_goto hX dX11_isKept_88 (tgt := 92) (by decide) ?_
              exact hR.1 _ _ _ _ _ _ (by decide) (by decide) dX11_isKept_92 ⟨_, rfl, rfl⟩ ⟨_, _, rfl, rfl, hyp⟩
            · replace hyp := hyp.2 c
              refine ax_lload_n hX dX11_isKept_47 rfl ?_
              refine ax_ldc2 hX vRX11_41 dX11_isKept_48 ?_
              refine tx_lcmp_eq hX dX11_isKept_51 dX11_isKept_52 (tgt := 87) (by decide) (fun c => ?_) (fun c => ?_)
              · replace hyp := hyp.1 c
                refine ax_iconst hX dX11_isKept_87 (v := 1) (by decide) ?_
                refine ax_goto hX dX11_isKept_88 (tgt := 92) (by decide) ?_
                exact hR.1 _ _ _ _ _ _ (by decide) (by decide) dX11_isKept_92 ⟨_, rfl, rfl⟩ ⟨_, _, rfl, rfl, hyp⟩
              · replace hyp := hyp.2 c
                refine ax_lload_n hX dX11_isKept_55 rfl ?_
                refine ax_ldc2 hX vRX11_43 dX11_isKept_56 ?_
                refine tx_lcmp_eq hX dX11_isKept_59 dX11_isKept_60 (tgt := 87) (by decide) (fun c => ?_) (fun c => ?_)
                · replace hyp := hyp.1 c
                  refine ax_iconst hX dX11_isKept_87 (v := 1) (by decide) ?_
                  refine ax_goto hX dX11_isKept_88 (tgt := 92) (by decide) ?_
                  exact hR.1 _ _ _ _ _ _ (by decide) (by decide) dX11_isKept_92 ⟨_, rfl, rfl⟩ ⟨_, _, rfl, rfl, hyp⟩
                · replace hyp := hyp.2 c
                  refine ax_lload_n hX dX11_isKept_63 rfl ?_
                  refine ax_ldc2 hX vRX11_45 dX11_isKept_64 ?_
                  refine tx_lcmp_eq hX dX11_isKept_67 dX11_isKept_68 (tgt := 87) (by decide) (fun c => ?_) (fun c => ?_)
                  · replace hyp := hyp.1 c
                    refine ax_iconst hX dX11_isKept_87 (v := 1) (by decide) ?_
                    refine ax_goto hX dX11_isKept_88 (tgt := 92) (by decide) ?_
                    exact hR.1 _ _ _ _ _ _ (by decide) (by decide) dX11_isKept_92 ⟨_, rfl, rfl⟩ ⟨_, _, rfl, rfl, hyp⟩
                  · replace hyp := hyp.2 c
                    refine ax_lload_n hX dX11_isKept_71 rfl ?_
                    refine ax_ldc2 hX vRX11_47 dX11_isKept_72 ?_
                    refine tx_lcmp_eq hX dX11_isKept_75 dX11_isKept_76 (tgt := 87) (by decide) (fun c => ?_) (fun c => ?_)
                    · replace hyp := hyp.1 c
                      refine ax_iconst hX dX11_isKept_87 (v := 1) (by decide) ?_
                      refine ax_goto hX dX11_isKept_88 (tgt := 92) (by decide) ?_
                      exact hR.1 _ _ _ _ _ _ (by decide) (by decide) dX11_isKept_92 ⟨_, rfl, rfl⟩ ⟨_, _, rfl, rfl, hyp⟩
                    · replace hyp := hyp.2 c
                      refine ax_lload_n hX dX11_isKept_79 rfl ?_
                      refine ax_ldc2 hX vRX11_49 dX11_isKept_80 ?_
                      refine tx_lcmp_ne hX dX11_isKept_83 dX11_isKept_84 (tgt := 91) (by decide) (fun c => ?_) (fun c => ?_)
                      · replace hyp := hyp.1 c
                        refine ax_iconst hX dX11_isKept_91 (v := 0) (by decide) ?_
                        exact hR.1 _ _ _ _ _ _ (by decide) (by decide) dX11_isKept_92 ⟨_, rfl, rfl⟩ ⟨_, _, rfl, rfl, hyp⟩
                      · replace hyp := hyp.2 c
                        refine ax_iconst hX dX11_isKept_87 (v := 1) (by decide) ?_
                        refine ax_goto hX dX11_isKept_88 (tgt := 92) (by decide) ?_
                        exact hR.1 _ _ _ _ _ _ (by decide) (by decide) dX11_isKept_92 ⟨_, rfl, rfl⟩ ⟨_, _, rfl, rfl, hyp⟩
set_option maxRecDepth 10000 in
theorem s_X11_isKnown_0 {X : ax_X} {d L sz : Nat} {T : tT} {Q : Int32 → tT → Prop} (hX : ax_ok X mX11_isKnown d) (hR : ax_Ret X mX11_isKnown (ti L sz Q)) (hsz : 161 ≤ sz) (x0 : Int32) (x1 : Int32) (hyp : vp_in x0 200 ∧ ((x1 < (T.1 155 (x0.toNatClampNeg)) → Q (0 : Int32) T) ∧ (¬ x1 < (T.1 155 (x0.toNatClampNeg)) → vp_in x0 200 ∧ (((T.1 156 (x0.toNatClampNeg)) < 0 → Q (1 : Int32) T) ∧ (¬ (T.1 156 (x0.toNatClampNeg)) < 0 → vp_in x0 200 ∧ (((T.1 156 (x0.toNatClampNeg)) ≤ x1 → Q (0 : Int32) T) ∧ (¬ (T.1 156 (x0.toNatClampNeg)) ≤ x1 → Q (1 : Int32) T))))))) : ax_j X 0 [some (.ref 105), some (.int x0), some (.int x1)] [] (th L sz T) 0 0 := by
  refine ax_aload_n hX dX11_isKnown_0 (Or.inr ⟨_, rfl⟩) rfl ?_
  refine tx_getF hX fRX11_254 ly_105 (o := 50) (b := 155) fk_11_68 rfl (by decide) (Nat.lt_of_lt_of_le (by decide) hsz) dX11_isKnown_1 ?_
  refine ax_iload_n hX dX11_isKnown_4 rfl ?_
  refine tx_ial hX ly_155 (by decide) (Nat.lt_of_lt_of_le (by decide) hsz) hyp.1 dX11_isKnown_5 ?_
  replace hyp := hyp.2
  refine ax_iload_n hX dX11_isKnown_6 rfl ?_
  refine ax_icmp_gt hX dX11_isKnown_7 (tgt := 33) (by decide) (fun c => ?_) (fun c => ?_)
  · replace hyp := hyp.1 c
    refine ax_iconst hX dX11_isKnown_33 (v := 0) (by decide) ?_
    exact hR.1 _ _ _ _ _ _ (by decide) (by decide) dX11_isKnown_34 ⟨_, rfl, rfl⟩ ⟨_, _, rfl, rfl, hyp⟩
  · replace hyp := hyp.2 c
    refine ax_aload_n hX dX11_isKnown_10 (Or.inr ⟨_, rfl⟩) rfl ?_
    refine tx_getF hX fRX11_257 ly_105 (o := 51) (b := 156) fk_11_69 rfl (by decide) (Nat.lt_of_lt_of_le (by decide) hsz) dX11_isKnown_11 ?_
    refine ax_iload_n hX dX11_isKnown_14 rfl ?_
    refine tx_ial hX ly_156 (by decide) (Nat.lt_of_lt_of_le (by decide) hsz) hyp.1 dX11_isKnown_15 ?_
    replace hyp := hyp.2
    refine ax_if_lt hX dX11_isKnown_16 (tgt := 29) (by decide) (fun c => ?_) (fun c => ?_)
    · replace hyp := hyp.1 c
      refine ax_iconst hX dX11_isKnown_29 (v := 1) (by decide) ?_
      refine ax_goto hX dX11_isKnown_30 (tgt := 34) (by decide) ?_
      exact hR.1 _ _ _ _ _ _ (by decide) (by decide) dX11_isKnown_34 ⟨_, rfl, rfl⟩ ⟨_, _, rfl, rfl, hyp⟩
    · replace hyp := hyp.2 c
      refine ax_aload_n hX dX11_isKnown_19 (Or.inr ⟨_, rfl⟩) rfl ?_
      refine tx_getF hX fRX11_257 ly_105 (o := 51) (b := 156) fk_11_69 rfl (by decide) (Nat.lt_of_lt_of_le (by decide) hsz) dX11_isKnown_20 ?_
      refine ax_iload_n hX dX11_isKnown_23 rfl ?_
      refine tx_ial hX ly_156 (by decide) (Nat.lt_of_lt_of_le (by decide) hsz) hyp.1 dX11_isKnown_24 ?_
      replace hyp := hyp.2
      refine ax_iload_n hX dX11_isKnown_25 rfl ?_
      refine ax_icmp_le hX dX11_isKnown_26 (tgt := 33) (by decide) (fun c => ?_) (fun c => ?_)
      · replace hyp := hyp.1 c
        refine ax_iconst hX dX11_isKnown_33 (v := 0) (by decide) ?_
        exact hR.1 _ _ _ _ _ _ (by decide) (by decide) dX11_isKnown_34 ⟨_, rfl, rfl⟩ ⟨_, _, rfl, rfl, hyp⟩
      · replace hyp := hyp.2 c
        refine ax_iconst hX dX11_isKnown_29 (v := 1) (by decide) ?_
        refine ax_goto hX dX11_isKnown_30 (tgt := 34) (by decide) ?_
        exact hR.1 _ _ _ _ _ _ (by decide) (by decide) dX11_isKnown_34 ⟨_, rfl, rfl⟩ ⟨_, _, rfl, rfl, hyp⟩
set_option maxRecDepth 10000 in
theorem s_X11_isLetter_0 {X : ax_X} {d L sz : Nat} {T : tT} {Q : Int32 → tT → Prop} (hX : ax_ok X mX11_isLetter d) (hR : ax_Ret X mX11_isLetter (ti L sz Q)) (hsz : 161 ≤ sz) (x0 : Int32) (hyp : ((x0 < (97 : Int32) → Q (0 : Int32) T) ∧ (¬ x0 < (97 : Int32) → (((122 : Int32) < x0 → Q (0 : Int32) T) ∧ (¬ (122 : Int32) < x0 → Q (1 : Int32) T))))) : ax_j X 0 [some (.int x0)] [] (th L sz T) 0 0 := by
  refine ax_iload_n hX dX11_isLetter_0 rfl ?_
  refine ax_bipush hX dX11_isLetter_1 (v := 97) (by decide) ?_
  refine ax_icmp_lt hX dX11_isLetter_3 (tgt := 16) (by decide) (fun c => ?_) (fun c => ?_)
  · replace hyp := hyp.1 c
    refine ax_iconst hX dX11_isLetter_16 (v := 0) (by decide) ?_
    exact hR.1 _ _ _ _ _ _ (by decide) (by decide) dX11_isLetter_17 ⟨_, rfl, rfl⟩ ⟨_, _, rfl, rfl, hyp⟩
  · replace hyp := hyp.2 c
    refine ax_iload_n hX dX11_isLetter_6 rfl ?_
    refine ax_bipush hX dX11_isLetter_7 (v := 122) (by decide) ?_
    refine ax_icmp_gt hX dX11_isLetter_9 (tgt := 16) (by decide) (fun c => ?_) (fun c => ?_)
    · replace hyp := hyp.1 c
      refine ax_iconst hX dX11_isLetter_16 (v := 0) (by decide) ?_
      exact hR.1 _ _ _ _ _ _ (by decide) (by decide) dX11_isLetter_17 ⟨_, rfl, rfl⟩ ⟨_, _, rfl, rfl, hyp⟩
    · replace hyp := hyp.2 c
      refine ax_iconst hX dX11_isLetter_12 (v := 1) (by decide) ?_
      refine ax_goto hX dX11_isLetter_13 (tgt := 17) (by decide) ?_
      exact hR.1 _ _ _ _ _ _ (by decide) (by decide) dX11_isLetter_17 ⟨_, rfl, rfl⟩ ⟨_, _, rfl, rfl, hyp⟩
set_option maxRecDepth 10000 in
theorem s_X11_isMeant_0 {X : ax_X} {d L sz : Nat} {T : tT} {Q : Int32 → tT → Prop} (hX : ax_ok X mX11_isMeant d) (hR : ax_Ret X mX11_isMeant (ti L sz Q)) (hsz : 161 ≤ sz) (x0 : Int64) (hyp : ((x0 = (7305070 : Int64) → Q (1 : Int32) T) ∧ (¬ x0 = (7305070 : Int64) → ((x0 = (123597974889843 : Int64) → Q (1 : Int32) T) ∧ (¬ x0 = (123597974889843 : Int64) → ((x0 = (6383461 : Int64) → Q (1 : Int32) T) ∧ (¬ x0 = (6383461 : Int64) → ((x0 = (500086104428 : Int64) → Q (1 : Int32) T) ∧ (¬ x0 = (500086104428 : Int64) → ((¬ x0 = (465557353332 : Int64) → Q (0 : Int32) T) ∧ (x0 = (465557353332 : Int64) → Q (1 : Int32) T))))))))))) : ax_j X 0 [some (.long x0), none] [] (th L sz T) 0 0 := by
  refine ax_lload_n hX dX11_isMeant_0 rfl ?_
  refine ax_ldc2 hX vRX11_17 dX11_isMeant_1 ?_
  refine tx_lcmp_eq hX dX11_isMeant_4 dX11_isMeant_5 (tgt := 40) (by decide) (fun c => ?_) (fun c => ?_)
  · replace hyp := hyp.1 c
    refine ax_iconst hX dX11_isMeant_40 (v := 1) (by decide) ?_
    refine ax_goto hX dX11_isMeant_41 (tgt := 45) (by decide) ?_
    exact hR.1 _ _ _ _ _ _ (by decide) (by decide) dX11_isMeant_45 ⟨_, rfl, rfl⟩ ⟨_, _, rfl, rfl, hyp⟩
  · replace hyp := hyp.2 c
    refine ax_lload_n hX dX11_isMeant_8 rfl ?_
    refine ax_ldc2 hX vRX11_19 dX11_isMeant_9 ?_
    refine tx_lcmp_eq hX dX11_isMeant_12 dX11_isMeant_13 (tgt := 40) (by decide) (fun c => ?_) (fun c => ?_)
    · replace hyp := hyp.1 c
      refine ax_iconst hX dX11_isMeant_40 (v := 1) (by decide) ?_
      refine ax_goto hX dX11_isMeant_41 (tgt := 45) (by decide) ?_
      exact hR.1 _ _ _ _ _ _ (by decide) (by decide) dX11_isMeant_45 ⟨_, rfl, rfl⟩ ⟨_, _, rfl, rfl, hyp⟩
    · replace hyp := hyp.2 c
      refine ax_lload_n hX dX11_isMeant_16 rfl ?_
      refine ax_ldc2 hX vRX11_21 dX11_isMeant_17 ?_
      refine tx_lcmp_eq hX dX11_isMeant_20 dX11_isMeant_21 (tgt := 40) (by decide) (fun c => ?_) (fun c => ?_)
      · replace hyp := hyp.1 c
        refine ax_iconst hX dX11_isMeant_40 (v := 1) (by decide) ?_
        refine ax_goto hX dX11_isMeant_41 (tgt := 45) (by decide) ?_
        exact hR.1 _ _ _ _ _ _ (by decide) (by decide) dX11_isMeant_45 ⟨_, rfl, rfl⟩ ⟨_, _, rfl, rfl, hyp⟩
      · replace hyp := hyp.2 c
        refine ax_lload_n hX dX11_isMeant_24 rfl ?_
        refine ax_ldc2 hX vRX11_23 dX11_isMeant_25 ?_
        refine tx_lcmp_eq hX dX11_isMeant_28 dX11_isMeant_29 (tgt := 40) (by decide) (fun c => ?_) (fun c => ?_)
        · replace hyp := hyp.1 c
          refine ax_iconst hX dX11_isMeant_40 (v := 1) (by decide) ?_
          refine ax_goto hX dX11_isMeant_41 (tgt := 45) (by decide) ?_
          exact hR.1 _ _ _ _ _ _ (by decide) (by decide) dX11_isMeant_45 ⟨_, rfl, rfl⟩ ⟨_, _, rfl, rfl, hyp⟩
        · replace hyp := hyp.2 c
          refine ax_lload_n hX dX11_isMeant_32 rfl ?_
          refine ax_ldc2 hX vRX11_25 dX11_isMeant_33 ?_
          refine tx_lcmp_ne hX dX11_isMeant_36 dX11_isMeant_37 (tgt := 44) (by decide) (fun c => ?_) (fun c => ?_)
          · replace hyp := hyp.1 c
            refine ax_iconst hX dX11_isMeant_44 (v := 0) (by decide) ?_
            exact hR.1 _ _ _ _ _ _ (by decide) (by decide) dX11_isMeant_45 ⟨_, rfl, rfl⟩ ⟨_, _, rfl, rfl, hyp⟩
          · replace hyp := hyp.2 c
            refine ax_iconst hX dX11_isMeant_40 (v := 1) (by decide) ?_
            refine ax_goto hX dX11_isMeant_41 (tgt := 45) (by decide) ?_
            exact hR.1 _ _ _ _ _ _ (by decide) (by decide) dX11_isMeant_45 ⟨_, rfl, rfl⟩ ⟨_, _, rfl, rfl, hyp⟩
set_option maxRecDepth 10000 in
theorem s_X11_isName_0 {X : ax_X} {d L sz : Nat} {T : tT} {Q : Int32 → tT → Prop} (hX : ax_ok X mX11_isName (d + 1)) (hR : ax_Ret X mX11_isName (ti L sz Q)) (hsz : 161 ≤ sz) (x0 : Int64) (hyp : ax_j X 5 [some (.long x0), none, some (.int (0 : Int32)), some (.int (56 : Int32)), none] [] (th L sz T) 0 0) : ax_j X 0 [some (.long x0), none, none, none, none] [] (th L sz T) 0 0 := by
  refine ax_iconst hX dX11_isName_0 (v := 0) (by decide) ?_
  refine ax_istore_n hX dX11_isName_1 (by decide) (L' := [some (.long x0), none, some (.int (0 : Int32)), none, none]) rfl ?_
  refine ax_bipush hX dX11_isName_2 (v := 56) (by decide) ?_
  refine ax_istore_n hX dX11_isName_4 (by decide) (L' := [some (.long x0), none, some (.int (0 : Int32)), some (.int (56 : Int32)), none]) rfl ?_
  exact ax_forget (L' := [some (.long x0), none, some (.int (0 : Int32)), some (.int (56 : Int32)), none]) (⟨rfl, ⟨rfl, ⟨rfl, trivial⟩⟩⟩) hyp
set_option maxRecDepth 10000 in
theorem s_X11_isName_5 {X : ax_X} {d L sz : Nat} {T : tT} {Q : Int32 → tT → Prop} (hX : ax_ok X mX11_isName (d + 1)) (hR : ax_Ret X mX11_isName (ti L sz Q)) (hsz : 161 ≤ sz) (v0 : Int64) (v2 : Int32) (v3 : Int32) (hyp : ((v3 < 0 → (v2 &&& 1 = v2) ∧ Q v2 T) ∧ (¬ v3 < 0 → ((¬ ((v0 >>> (v3.toInt64 &&& 63)) &&& (255 : Int64)).toInt32 = 0 → ∃ Q1, tiK d mX11_isLetter [.int (((v0 >>> (v3.toInt64 &&& 63)) &&& (255 : Int64)).toInt32)] L sz T Q1 ∧ ∀ (r1 : Int32) (T1 : tT), Q1 r1 T1 → (((¬ r1 = 0 → ax_j X 5 [some (.long v0), none, some (.int (1 : Int32)), some (.int (v3 + (-8 : Int32))), none] [] (th L sz T1) 0 0) ∧ (r1 = 0 → ((v2 = 0 → Q (0 : Int32) T1) ∧ (¬ v2 = 0 → ∃ Q1, tiK d mX11_isDigit [.int (((v0 >>> (v3.toInt64 &&& 63)) &&& (255 : Int64)).toInt32)] L sz T1 Q1 ∧ ∀ (r2 : Int32) (T2 : tT), Q1 r2 T2 → (((¬ r2 = 0 → ax_j X 5 [some (.long v0), none, some (.int (1 : Int32)), some (.int (v3 + (-8 : Int32))), none] [] (th L sz T2) 0 0) ∧ (r2 = 0 → Q (0 : Int32) T2))))))))) ∧ (((v0 >>> (v3.toInt64 &&& 63)) &&& (255 : Int64)).toInt32 = 0 → ((¬ v2 = 0 → ∃ Q1, tiK d mX11_isLetter [.int (((v0 >>> (v3.toInt64 &&& 63)) &&& (255 : Int64)).toInt32)] L sz T Q1 ∧ ∀ (r3 : Int32) (T3 : tT), Q1 r3 T3 → (((¬ r3 = 0 → ax_j X 5 [some (.long v0), none, some (.int (1 : Int32)), some (.int (v3 + (-8 : Int32))), none] [] (th L sz T3) 0 0) ∧ (r3 = 0 → ((v2 = 0 → Q (0 : Int32) T3) ∧ (¬ v2 = 0 → ∃ Q1, tiK d mX11_isDigit [.int (((v0 >>> (v3.toInt64 &&& 63)) &&& (255 : Int64)).toInt32)] L sz T3 Q1 ∧ ∀ (r4 : Int32) (T4 : tT), Q1 r4 T4 → (((¬ r4 = 0 → ax_j X 5 [some (.long v0), none, some (.int (1 : Int32)), some (.int (v3 + (-8 : Int32))), none] [] (th L sz T4) 0 0) ∧ (r4 = 0 → Q (0 : Int32) T4))))))))) ∧ (v2 = 0 → ax_j X 5 [some (.long v0), none, some (.int v2), some (.int (v3 + (-8 : Int32))), none] [] (th L sz T) 0 0))))))) : ax_j X 5 [some (.long v0), none, some (.int v2), some (.int v3), none] [] (th L sz T) 0 0 := by
  refine ax_iload_n hX dX11_isName_5 rfl ?_
  refine ax_if_lt hX dX11_isName_6 (tgt := 61) (by decide) (fun c => ?_) (fun c => ?_)
  · replace hyp := hyp.1 c
    refine ax_iload_n hX dX11_isName_61 rfl ?_
    exact hR.1 _ _ _ _ _ _ (by decide) (by decide) dX11_isName_62 ⟨_, rfl, congrArg Value.int hyp.1⟩ ⟨_, _, rfl, rfl, hyp.2⟩
  · replace hyp := hyp.2 c
    refine ax_lload_n hX dX11_isName_9 rfl ?_
    refine ax_iload_n hX dX11_isName_10 rfl ?_
    refine ax_lshr hX dX11_isName_11 ?_
    refine ax_ldc2 hX vRX11_360 dX11_isName_12 ?_
    refine ax_land hX dX11_isName_15 ?_
    refine ax_l2i hX dX11_isName_16 ?_
    refine ax_istore hX dX11_isName_17 (by decide) (L' := [some (.long v0), none, some (.int v2), some (.int v3), some (.int (((v0 >>> (v3.toInt64 &&& 63)) &&& (255 : Int64)).toInt32))]) rfl ?_
    refine ax_iload hX dX11_isName_19 rfl ?_
    refine ax_if_ne hX dX11_isName_21 (tgt := 31) (by decide) (fun c => ?_) (fun c => ?_)
    · replace hyp := hyp.1 c
      refine ax_iload hX dX11_isName_31 rfl ?_
      obtain ⟨Q1, hK, hyp⟩ := hyp
      refine ax_callS hX lRX11_64 sm_X11_isLetter cw_X11_isLetter (A := [.int (((v0 >>> (v3.toInt64 &&& 63)) &&& (255 : Int64)).toInt32)]) (st := []) rfl rfl (Nat.le_of_ble_eq_true rfl) (by decide) (by decide) dX11_isName_33 hK ?_
      rintro _ _ ⟨r1, T1, rfl, rfl, hq⟩
      replace hyp := hyp r1 T1 hq
      refine ax_if_ne hX dX11_isName_36 (tgt := 53) (by decide) (fun c => ?_) (fun c => ?_)
      · replace hyp := hyp.1 c
        refine ax_iconst hX dX11_isName_53 (v := 1) (by decide) ?_
        refine ax_istore_n hX dX11_isName_54 (by decide) (L' := [some (.long v0), none, some (.int (1 : Int32)), some (.int v3), some (.int (((v0 >>> (v3.toInt64 &&& 63)) &&& (255 : Int64)).toInt32))]) rfl ?_
        refine ax_iinc hX dX11_isName_55 rfl (w := (v3 + (-8 : Int32))) rfl (by decide) (L' := [some (.long v0), none, some (.int (1 : Int32)), some (.int (v3 + (-8 : Int32))), some (.int (((v0 >>> (v3.toInt64 &&& 63)) &&& (255 : Int64)).toInt32))]) rfl ?_
        refine ax_goto hX dX11_isName_58 (tgt := 5) (by decide) ?_
        exact ax_forget (L' := [some (.long v0), none, some (.int (1 : Int32)), some (.int (v3 + (-8 : Int32))), none]) (⟨rfl, ⟨rfl, ⟨rfl, trivial⟩⟩⟩) hyp
      · replace hyp := hyp.2 c
        refine ax_iload_n hX dX11_isName_39 rfl ?_
        refine ax_if_eq hX dX11_isName_40 (tgt := 51) (by decide) (fun c => ?_) (fun c => ?_)
        · replace hyp := hyp.1 c
          refine ax_iconst hX dX11_isName_51 (v := 0) (by decide) ?_
          exact hR.1 _ _ _ _ _ _ (by decide) (by decide) dX11_isName_52 ⟨_, rfl, rfl⟩ ⟨_, _, rfl, rfl, hyp⟩
        · replace hyp := hyp.2 c
          refine ax_iload hX dX11_isName_43 rfl ?_
          obtain ⟨Q1, hK, hyp⟩ := hyp
          refine ax_callS hX lRX11_68 sm_X11_isDigit cw_X11_isDigit (A := [.int (((v0 >>> (v3.toInt64 &&& 63)) &&& (255 : Int64)).toInt32)]) (st := []) rfl rfl (Nat.le_of_ble_eq_true rfl) (by decide) (by decide) dX11_isName_45 hK ?_
          rintro _ _ ⟨r2, T2, rfl, rfl, hq⟩
          replace hyp := hyp r2 T2 hq
          refine ax_if_ne hX dX11_isName_48 (tgt := 53) (by decide) (fun c => ?_) (fun c => ?_)
          · replace hyp := hyp.1 c
            refine ax_iconst hX dX11_isName_53 (v := 1) (by decide) ?_
            refine ax_istore_n hX dX11_isName_54 (by decide) (L' := [some (.long v0), none, some (.int (1 : Int32)), some (.int v3), some (.int (((v0 >>> (v3.toInt64 &&& 63)) &&& (255 : Int64)).toInt32))]) rfl ?_
            refine ax_iinc hX dX11_isName_55 rfl (w := (v3 + (-8 : Int32))) rfl (by decide) (L' := [some (.long v0), none, some (.int (1 : Int32)), some (.int (v3 + (-8 : Int32))), some (.int (((v0 >>> (v3.toInt64 &&& 63)) &&& (255 : Int64)).toInt32))]) rfl ?_
            refine ax_goto hX dX11_isName_58 (tgt := 5) (by decide) ?_
            exact ax_forget (L' := [some (.long v0), none, some (.int (1 : Int32)), some (.int (v3 + (-8 : Int32))), none]) (⟨rfl, ⟨rfl, ⟨rfl, trivial⟩⟩⟩) hyp
          · replace hyp := hyp.2 c
            refine ax_iconst hX dX11_isName_51 (v := 0) (by decide) ?_
            exact hR.1 _ _ _ _ _ _ (by decide) (by decide) dX11_isName_52 ⟨_, rfl, rfl⟩ ⟨_, _, rfl, rfl, hyp⟩
    · replace hyp := hyp.2 c
      refine ax_iload_n hX dX11_isName_24 rfl ?_
      refine ax_if_ne hX dX11_isName_25 (tgt := 31) (by decide) (fun c => ?_) (fun c => ?_)
      · replace hyp := hyp.1 c
        refine ax_iload hX dX11_isName_31 rfl ?_
        obtain ⟨Q1, hK, hyp⟩ := hyp
        refine ax_callS hX lRX11_64 sm_X11_isLetter cw_X11_isLetter (A := [.int (((v0 >>> (v3.toInt64 &&& 63)) &&& (255 : Int64)).toInt32)]) (st := []) rfl rfl (Nat.le_of_ble_eq_true rfl) (by decide) (by decide) dX11_isName_33 hK ?_
        rintro _ _ ⟨r3, T3, rfl, rfl, hq⟩
        replace hyp := hyp r3 T3 hq
        refine ax_if_ne hX dX11_isName_36 (tgt := 53) (by decide) (fun c => ?_) (fun c => ?_)
        · replace hyp := hyp.1 c
          refine ax_iconst hX dX11_isName_53 (v := 1) (by decide) ?_
          refine ax_istore_n hX dX11_isName_54 (by decide) (L' := [some (.long v0), none, some (.int (1 : Int32)), some (.int v3), some (.int (((v0 >>> (v3.toInt64 &&& 63)) &&& (255 : Int64)).toInt32))]) rfl ?_
          refine ax_iinc hX dX11_isName_55 rfl (w := (v3 + (-8 : Int32))) rfl (by decide) (L' := [some (.long v0), none, some (.int (1 : Int32)), some (.int (v3 + (-8 : Int32))), some (.int (((v0 >>> (v3.toInt64 &&& 63)) &&& (255 : Int64)).toInt32))]) rfl ?_
          refine ax_goto hX dX11_isName_58 (tgt := 5) (by decide) ?_
          exact ax_forget (L' := [some (.long v0), none, some (.int (1 : Int32)), some (.int (v3 + (-8 : Int32))), none]) (⟨rfl, ⟨rfl, ⟨rfl, trivial⟩⟩⟩) hyp
        · replace hyp := hyp.2 c
          refine ax_iload_n hX dX11_isName_39 rfl ?_
          refine ax_if_eq hX dX11_isName_40 (tgt := 51) (by decide) (fun c => ?_) (fun c => ?_)
          · replace hyp := hyp.1 c
            refine ax_iconst hX dX11_isName_51 (v := 0) (by decide) ?_
            exact hR.1 _ _ _ _ _ _ (by decide) (by decide) dX11_isName_52 ⟨_, rfl, rfl⟩ ⟨_, _, rfl, rfl, hyp⟩
          · replace hyp := hyp.2 c
            refine ax_iload hX dX11_isName_43 rfl ?_
            obtain ⟨Q1, hK, hyp⟩ := hyp
            refine ax_callS hX lRX11_68 sm_X11_isDigit cw_X11_isDigit (A := [.int (((v0 >>> (v3.toInt64 &&& 63)) &&& (255 : Int64)).toInt32)]) (st := []) rfl rfl (Nat.le_of_ble_eq_true rfl) (by decide) (by decide) dX11_isName_45 hK ?_
            rintro _ _ ⟨r4, T4, rfl, rfl, hq⟩
            replace hyp := hyp r4 T4 hq
            refine ax_if_ne hX dX11_isName_48 (tgt := 53) (by decide) (fun c => ?_) (fun c => ?_)
            · replace hyp := hyp.1 c
              refine ax_iconst hX dX11_isName_53 (v := 1) (by decide) ?_
              refine ax_istore_n hX dX11_isName_54 (by decide) (L' := [some (.long v0), none, some (.int (1 : Int32)), some (.int v3), some (.int (((v0 >>> (v3.toInt64 &&& 63)) &&& (255 : Int64)).toInt32))]) rfl ?_
              refine ax_iinc hX dX11_isName_55 rfl (w := (v3 + (-8 : Int32))) rfl (by decide) (L' := [some (.long v0), none, some (.int (1 : Int32)), some (.int (v3 + (-8 : Int32))), some (.int (((v0 >>> (v3.toInt64 &&& 63)) &&& (255 : Int64)).toInt32))]) rfl ?_
              refine ax_goto hX dX11_isName_58 (tgt := 5) (by decide) ?_
              exact ax_forget (L' := [some (.long v0), none, some (.int (1 : Int32)), some (.int (v3 + (-8 : Int32))), none]) (⟨rfl, ⟨rfl, ⟨rfl, trivial⟩⟩⟩) hyp
            · replace hyp := hyp.2 c
              refine ax_iconst hX dX11_isName_51 (v := 0) (by decide) ?_
              exact hR.1 _ _ _ _ _ _ (by decide) (by decide) dX11_isName_52 ⟨_, rfl, rfl⟩ ⟨_, _, rfl, rfl, hyp⟩
      · replace hyp := hyp.2 c
        refine ax_goto hX dX11_isName_28 (tgt := 55) (by decide) ?_
        refine ax_iinc hX dX11_isName_55 rfl (w := (v3 + (-8 : Int32))) rfl (by decide) (L' := [some (.long v0), none, some (.int v2), some (.int (v3 + (-8 : Int32))), some (.int (((v0 >>> (v3.toInt64 &&& 63)) &&& (255 : Int64)).toInt32))]) rfl ?_
        refine ax_goto hX dX11_isName_58 (tgt := 5) (by decide) ?_
        exact ax_forget (L' := [some (.long v0), none, some (.int v2), some (.int (v3 + (-8 : Int32))), none]) (⟨rfl, ⟨rfl, ⟨rfl, trivial⟩⟩⟩) hyp
set_option maxRecDepth 10000 in
theorem s_X11_isSession_0 {X : ax_X} {d L sz : Nat} {T : tT} {Q : Int32 → tT → Prop} (hX : ax_ok X mX11_isSession d) (hR : ax_Ret X mX11_isSession (ti L sz Q)) (hsz : 161 ≤ sz) (x0 : Int32) (hyp : ((x0 < 0 → Q (0 : Int32) T) ∧ (¬ x0 < 0 → (((T.1 105 58) ≤ x0 → Q (0 : Int32) T) ∧ (¬ (T.1 105 58) ≤ x0 → Q (1 : Int32) T))))) : ax_j X 0 [some (.ref 105), some (.int x0)] [] (th L sz T) 0 0 := by
  refine ax_iload_n hX dX11_isSession_0 rfl ?_
  refine ax_if_lt hX dX11_isSession_1 (tgt := 16) (by decide) (fun c => ?_) (fun c => ?_)
  · replace hyp := hyp.1 c
    refine ax_iconst hX dX11_isSession_16 (v := 0) (by decide) ?_
    exact hR.1 _ _ _ _ _ _ (by decide) (by decide) dX11_isSession_17 ⟨_, rfl, rfl⟩ ⟨_, _, rfl, rfl, hyp⟩
  · replace hyp := hyp.2 c
    refine ax_iload_n hX dX11_isSession_4 rfl ?_
    refine ax_aload_n hX dX11_isSession_5 (Or.inr ⟨_, rfl⟩) rfl ?_
    refine tx_getI hX fRX11_400 ly_105 fk_11_58 (by decide) (Nat.lt_of_lt_of_le (by decide) hsz) dX11_isSession_6 ?_
    refine ax_icmp_ge hX dX11_isSession_9 (tgt := 16) (by decide) (fun c => ?_) (fun c => ?_)
    · replace hyp := hyp.1 c
      refine ax_iconst hX dX11_isSession_16 (v := 0) (by decide) ?_
      exact hR.1 _ _ _ _ _ _ (by decide) (by decide) dX11_isSession_17 ⟨_, rfl, rfl⟩ ⟨_, _, rfl, rfl, hyp⟩
    · replace hyp := hyp.2 c
      refine ax_iconst hX dX11_isSession_12 (v := 1) (by decide) ?_
      refine ax_goto hX dX11_isSession_13 (tgt := 17) (by decide) ?_
      exact hR.1 _ _ _ _ _ _ (by decide) (by decide) dX11_isSession_17 ⟨_, rfl, rfl⟩ ⟨_, _, rfl, rfl, hyp⟩
set_option maxRecDepth 10000 in
theorem s_X11_isWord_0 {X : ax_X} {d L sz : Nat} {T : tT} {Q : Int32 → tT → Prop} (hX : ax_ok X mX11_isWord d) (hR : ax_Ret X mX11_isWord (ti L sz Q)) (hsz : 161 ≤ sz) (x0 : Int64) (hyp : ((¬ (T.1 105 8) = (3 : Int32) → Q (0 : Int32) T) ∧ ((T.1 105 8) = (3 : Int32) → ((¬ (T.2.1 105 10) = x0 → Q (0 : Int32) T) ∧ ((T.2.1 105 10) = x0 → Q (1 : Int32) T))))) : ax_j X 0 [some (.ref 105), some (.long x0), none] [] (th L sz T) 0 0 := by
  refine ax_aload_n hX dX11_isWord_0 (Or.inr ⟨_, rfl⟩) rfl ?_
  refine tx_getI hX fRX11_61 ly_105 fk_11_8 (by decide) (Nat.lt_of_lt_of_le (by decide) hsz) dX11_isWord_1 ?_
  refine ax_iconst hX dX11_isWord_4 (v := 3) (by decide) ?_
  refine ax_icmp_ne hX dX11_isWord_5 (tgt := 21) (by decide) (fun c => ?_) (fun c => ?_)
  · replace hyp := hyp.1 c
    refine ax_iconst hX dX11_isWord_21 (v := 0) (by decide) ?_
    exact hR.1 _ _ _ _ _ _ (by decide) (by decide) dX11_isWord_22 ⟨_, rfl, rfl⟩ ⟨_, _, rfl, rfl, hyp⟩
  · replace hyp := hyp.2 c
    refine ax_aload_n hX dX11_isWord_8 (Or.inr ⟨_, rfl⟩) rfl ?_
    refine tx_getJ hX fRX11_71 ly_105 fk_11_10 (by decide) (Nat.lt_of_lt_of_le (by decide) hsz) dX11_isWord_9 ?_
    refine ax_lload_n hX dX11_isWord_12 rfl ?_
    refine tx_lcmp_ne hX dX11_isWord_13 dX11_isWord_14 (tgt := 21) (by decide) (fun c => ?_) (fun c => ?_)
    · replace hyp := hyp.1 c
      refine ax_iconst hX dX11_isWord_21 (v := 0) (by decide) ?_
      exact hR.1 _ _ _ _ _ _ (by decide) (by decide) dX11_isWord_22 ⟨_, rfl, rfl⟩ ⟨_, _, rfl, rfl, hyp⟩
    · replace hyp := hyp.2 c
      refine ax_iconst hX dX11_isWord_17 (v := 1) (by decide) ?_
      refine ax_goto hX dX11_isWord_18 (tgt := 22) (by decide) ?_
      exact hR.1 _ _ _ _ _ _ (by decide) (by decide) dX11_isWord_22 ⟨_, rfl, rfl⟩ ⟨_, _, rfl, rfl, hyp⟩
set_option maxRecDepth 10000 in
theorem s_X11_judge_0 {X : ax_X} {d L sz : Nat} {T : tT} {Q : Int32 → tT → Prop} (hX : ax_ok X mX11_judge (d + 1)) (hR : ax_Ret X mX11_judge (ti L sz Q)) (hsz : 161 ≤ sz) (x0 : Int32) (hyp : ∃ Q1, tiK d mX11_isEntry [.ref 105, .int x0] L sz T Q1 ∧ ∀ (r1 : Int32) (T1 : tT), Q1 r1 T1 → (((¬ r1 = 0 → ∃ Q1, tiK d mX11_spotOf [.ref 105, .int x0] L sz T1 Q1 ∧ ∀ (r2 : Int32) (T2 : tT), Q1 r2 T2 → (((0 ≤ r2 → ax_j X 26 [some (.ref 105), some (.int x0), some (.int r2), some (.int (0 : Int32))] [] (th L sz T2) 0 0) ∧ (¬ 0 ≤ r2 → Q (-2 : Int32) T2)))) ∧ (r1 = 0 → Q (-3 : Int32) T1)))) : ax_j X 0 [some (.ref 105), some (.int x0), none, none] [] (th L sz T) 0 0 := by
  refine ax_aload_n hX dX11_judge_0 (Or.inr ⟨_, rfl⟩) rfl ?_
  refine ax_iload_n hX dX11_judge_1 rfl ?_
  obtain ⟨Q1, hK, hyp⟩ := hyp
  refine ax_callV hX lRX11_362 im_X11_isEntry sl_X11_isEntry cw_X11_isEntry ((th_at (by decide) (Nat.lt_of_lt_of_le (by decide) hsz)).trans (tc_ob ly_105)) rfl rfl (A := [.int x0]) (st := []) rfl rfl (Nat.le_of_ble_eq_true rfl) (by decide) (by decide) dX11_judge_2 hK ?_
  rintro _ _ ⟨r1, T1, rfl, rfl, hq⟩
  replace hyp := hyp r1 T1 hq
  refine ax_if_ne hX dX11_judge_5 (tgt := 11) (by decide) (fun c => ?_) (fun c => ?_)
  · replace hyp := hyp.1 c
    refine ax_aload_n hX dX11_judge_11 (Or.inr ⟨_, rfl⟩) rfl ?_
    refine ax_iload_n hX dX11_judge_12 rfl ?_
    obtain ⟨Q1, hK, hyp⟩ := hyp
    refine ax_callV hX lRX11_388 im_X11_spotOf sl_X11_spotOf cw_X11_spotOf ((th_at (by decide) (Nat.lt_of_lt_of_le (by decide) hsz)).trans (tc_ob ly_105)) rfl rfl (A := [.int x0]) (st := []) rfl rfl (Nat.le_of_ble_eq_true rfl) (by decide) (by decide) dX11_judge_13 hK ?_
    rintro _ _ ⟨r2, T2, rfl, rfl, hq⟩
    replace hyp := hyp r2 T2 hq
    refine ax_istore_n hX dX11_judge_16 (by decide) (L' := [some (.ref 105), some (.int x0), some (.int r2), none]) rfl ?_
    refine ax_iload_n hX dX11_judge_17 rfl ?_
    refine ax_if_ge hX dX11_judge_18 (tgt := 24) (by decide) (fun c => ?_) (fun c => ?_)
    · replace hyp := hyp.1 c
      refine ax_iconst hX dX11_judge_24 (v := 0) (by decide) ?_
      refine ax_istore_n hX dX11_judge_25 (by decide) (L' := [some (.ref 105), some (.int x0), some (.int r2), some (.int (0 : Int32))]) rfl ?_
      exact ax_forget (L' := [some (.ref 105), some (.int x0), some (.int r2), some (.int (0 : Int32))]) (⟨rfl, ⟨rfl, ⟨rfl, ⟨rfl, trivial⟩⟩⟩⟩) hyp
    · replace hyp := hyp.2 c
      refine ax_bipush hX dX11_judge_21 (v := -2) (by decide) ?_
      exact hR.1 _ _ _ _ _ _ (by decide) (by decide) dX11_judge_23 ⟨_, rfl, rfl⟩ ⟨_, _, rfl, rfl, hyp⟩
  · replace hyp := hyp.2 c
    refine ax_bipush hX dX11_judge_8 (v := -3) (by decide) ?_
    exact hR.1 _ _ _ _ _ _ (by decide) (by decide) dX11_judge_10 ⟨_, rfl, rfl⟩ ⟨_, _, rfl, rfl, hyp⟩
set_option maxRecDepth 10000 in
theorem s_X11_judge_26 {X : ax_X} {d L sz : Nat} {T : tT} {Q : Int32 → tT → Prop} (hX : ax_ok X mX11_judge (d + 1)) (hR : ax_Ret X mX11_judge (ti L sz Q)) (hsz : 161 ≤ sz) (v1 : Int32) (v2 : Int32) (v3 : Int32) (hyp : vp_in v2 40 ∧ (((T.1 115 (v2.toNatClampNeg)) ≤ v3 → Q (-1 : Int32) T) ∧ (¬ (T.1 115 (v2.toNatClampNeg)) ≤ v3 → vp_in (((8 : Int32) * v2) + v3) 320 ∧ vp_in (((8 : Int32) * v2) + v3) 320 ∧ ∃ Q1, tiK d mX11_work [.ref 105, .int (T.1 117 (((8 : Int32) * v2) + v3).toNatClampNeg), .int (T.1 118 (((8 : Int32) * v2) + v3).toNatClampNeg), .int v2, .int v1] L sz T Q1 ∧ ∀ (r1 : Int32) (T1 : tT), Q1 r1 T1 → (((¬ r1 = 0 → ax_j X 26 [some (.ref 105), some (.int v1), some (.int v2), some (.int (v3 + (1 : Int32)))] [] (th L sz T1) 0 0) ∧ (r1 = 0 → Q v3 T1)))))) : ax_j X 26 [some (.ref 105), some (.int v1), some (.int v2), some (.int v3)] [] (th L sz T) 0 0 := by
  refine ax_iload_n hX dX11_judge_26 rfl ?_
  refine ax_aload_n hX dX11_judge_27 (Or.inr ⟨_, rfl⟩) rfl ?_
  refine tx_getF hX fRX11_133 ly_105 (o := 10) (b := 115) fk_11_21 rfl (by decide) (Nat.lt_of_lt_of_le (by decide) hsz) dX11_judge_28 ?_
  refine ax_iload_n hX dX11_judge_31 rfl ?_
  refine tx_ial hX ly_115 (by decide) (Nat.lt_of_lt_of_le (by decide) hsz) hyp.1 dX11_judge_32 ?_
  replace hyp := hyp.2
  refine ax_icmp_ge hX dX11_judge_33 (tgt := 75) (by decide) (fun c => ?_) (fun c => ?_)
  · replace hyp := hyp.1 c
    refine ax_iconst hX dX11_judge_75 (v := -1) (by decide) ?_
    exact hR.1 _ _ _ _ _ _ (by decide) (by decide) dX11_judge_76 ⟨_, rfl, rfl⟩ ⟨_, _, rfl, rfl, hyp⟩
  · replace hyp := hyp.2 c
    refine ax_aload_n hX dX11_judge_36 (Or.inr ⟨_, rfl⟩) rfl ?_
    refine ax_aload_n hX dX11_judge_37 (Or.inr ⟨_, rfl⟩) rfl ?_
    refine tx_getF hX fRX11_139 ly_105 (o := 12) (b := 117) fk_11_23 rfl (by decide) (Nat.lt_of_lt_of_le (by decide) hsz) dX11_judge_38 ?_
    refine ax_bipush hX dX11_judge_41 (v := 8) (by decide) ?_
    refine ax_iload_n hX dX11_judge_43 rfl ?_
    refine ax_imul hX dX11_judge_44 ?_
    refine ax_iload_n hX dX11_judge_45 rfl ?_
    refine ax_iadd hX dX11_judge_46 ?_
    refine tx_ial hX ly_117 (by decide) (Nat.lt_of_lt_of_le (by decide) hsz) hyp.1 dX11_judge_47 ?_
    replace hyp := hyp.2
    refine ax_aload_n hX dX11_judge_48 (Or.inr ⟨_, rfl⟩) rfl ?_
    refine tx_getF hX fRX11_142 ly_105 (o := 13) (b := 118) fk_11_24 rfl (by decide) (Nat.lt_of_lt_of_le (by decide) hsz) dX11_judge_49 ?_
    refine ax_bipush hX dX11_judge_52 (v := 8) (by decide) ?_
    refine ax_iload_n hX dX11_judge_54 rfl ?_
    refine ax_imul hX dX11_judge_55 ?_
    refine ax_iload_n hX dX11_judge_56 rfl ?_
    refine ax_iadd hX dX11_judge_57 ?_
    refine tx_ial hX ly_118 (by decide) (Nat.lt_of_lt_of_le (by decide) hsz) hyp.1 dX11_judge_58 ?_
    replace hyp := hyp.2
    refine ax_iload_n hX dX11_judge_59 rfl ?_
    refine ax_iload_n hX dX11_judge_60 rfl ?_
    obtain ⟨Q1, hK, hyp⟩ := hyp
    refine ax_callV hX lRX11_391 im_X11_work sl_X11_work cw_X11_work ((th_at (by decide) (Nat.lt_of_lt_of_le (by decide) hsz)).trans (tc_ob ly_105)) rfl rfl (A := [.int (T.1 117 (((8 : Int32) * v2) + v3).toNatClampNeg), .int (T.1 118 (((8 : Int32) * v2) + v3).toNatClampNeg), .int v2, .int v1]) (st := []) rfl rfl (Nat.le_of_ble_eq_true rfl) (by decide) (by decide) dX11_judge_61 hK ?_
    rintro _ _ ⟨r1, T1, rfl, rfl, hq⟩
    replace hyp := hyp r1 T1 hq
    refine ax_if_ne hX dX11_judge_64 (tgt := 69) (by decide) (fun c => ?_) (fun c => ?_)
    · replace hyp := hyp.1 c
      refine ax_iinc hX dX11_judge_69 rfl (w := (v3 + (1 : Int32))) rfl (by decide) (L' := [some (.ref 105), some (.int v1), some (.int v2), some (.int (v3 + (1 : Int32)))]) rfl ?_
      refine ax_goto hX dX11_judge_72 (tgt := 26) (by decide) ?_
      exact ax_forget (L' := [some (.ref 105), some (.int v1), some (.int v2), some (.int (v3 + (1 : Int32)))]) (⟨rfl, ⟨rfl, ⟨rfl, ⟨rfl, trivial⟩⟩⟩⟩) hyp
    · replace hyp := hyp.2 c
      refine ax_iload_n hX dX11_judge_67 rfl ?_
      exact hR.1 _ _ _ _ _ _ (by decide) (by decide) dX11_judge_68 ⟨_, rfl, rfl⟩ ⟨_, _, rfl, rfl, hyp⟩
