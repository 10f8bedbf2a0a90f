set_option maxRecDepth 10000 in
theorem s_X0_anyUpTo_0 {X : ax_X} {d L sz : Nat} {T : tT} {Q : Int32 → tT → Prop} (hX : ax_ok X mX0_anyUpTo d) (hR : ax_Ret X mX0_anyUpTo (ti L sz Q)) (hsz : 161 ≤ sz) (x0 : Int32) (x1 : Int32) (hyp : ax_j X 2 [some (.ref 101), some (.int x0), some (.int x1), some (.int (0 : Int32))] [] (th L sz T) 0 0) : ax_j X 0 [some (.ref 101), some (.int x0), some (.int x1), none] [] (th L sz T) 0 0 := by
  refine ax_iconst hX dX0_anyUpTo_0 (v := 0) (by decide) ?_
  refine ax_istore_n hX dX0_anyUpTo_1 (by decide) (L' := [some (.ref 101), some (.int x0), some (.int x1), some (.int (0 : Int32))]) rfl ?_
  exact ax_forget (L' := [some (.ref 101), some (.int x0), some (.int x1), some (.int (0 : Int32))]) (⟨rfl, ⟨rfl, ⟨rfl, ⟨rfl, trivial⟩⟩⟩⟩) hyp
set_option maxRecDepth 10000 in
theorem s_X0_anyUpTo_2 {X : ax_X} {d L sz : Nat} {T : tT} {Q : Int32 → tT → Prop} (hX : ax_ok X mX0_anyUpTo d) (hR : ax_Ret X mX0_anyUpTo (ti L sz Q)) (hsz : 161 ≤ sz) (v1 : Int32) (v2 : Int32) (v3 : Int32) (hyp : (((T.1 101 0) ≤ v3 → Q (0 : Int32) T) ∧ (¬ (T.1 101 0) ≤ v3 → vp_in v3 60 ∧ ((¬ (T.1 102 (v3.toNatClampNeg)) = v1 → ax_j X 2 [some (.ref 101), some (.int v1), some (.int v2), some (.int (v3 + (1 : Int32)))] [] (th L sz T) 0 0) ∧ ((T.1 102 (v3.toNatClampNeg)) = v1 → vp_in v3 60 ∧ ((v2 < (T.1 104 (v3.toNatClampNeg)) → ax_j X 2 [some (.ref 101), some (.int v1), some (.int v2), some (.int (v3 + (1 : Int32)))] [] (th L sz T) 0 0) ∧ (¬ v2 < (T.1 104 (v3.toNatClampNeg)) → Q (1 : Int32) T))))))) : ax_j X 2 [some (.ref 101), some (.int v1), some (.int v2), some (.int v3)] [] (th L sz T) 0 0 := by
  refine ax_iload_n hX dX0_anyUpTo_2 rfl ?_
  refine ax_aload_n hX dX0_anyUpTo_3 (Or.inr ⟨_, rfl⟩) rfl ?_
  refine tx_getI hX fRX0_21 ly_101 fk_0_0 (by decide) (Nat.lt_of_lt_of_le (by decide) hsz) dX0_anyUpTo_4 ?_
  refine ax_icmp_ge hX dX0_anyUpTo_7 (tgt := 38) (by decide) (fun c => ?_) (fun c => ?_)
  · replace hyp := hyp.1 c
    refine ax_iconst hX dX0_anyUpTo_38 (v := 0) (by decide) ?_
    exact hR.1 _ _ _ _ _ _ (by decide) (by decide) dX0_anyUpTo_39 ⟨_, rfl, rfl⟩ ⟨_, _, rfl, rfl, hyp⟩
  · replace hyp := hyp.2 c
    refine ax_aload_n hX dX0_anyUpTo_10 (Or.inr ⟨_, rfl⟩) rfl ?_
    refine tx_getF hX fRX0_9 ly_101 (o := 1) (b := 102) fk_0_1 rfl (by decide) (Nat.lt_of_lt_of_le (by decide) hsz) dX0_anyUpTo_11 ?_
    refine ax_iload_n hX dX0_anyUpTo_14 rfl ?_
    refine tx_ial hX ly_102 (by decide) (Nat.lt_of_lt_of_le (by decide) hsz) hyp.1 dX0_anyUpTo_15 ?_
    replace hyp := hyp.2
    refine ax_iload_n hX dX0_anyUpTo_16 rfl ?_
    refine ax_icmp_ne hX dX0_anyUpTo_17 (tgt := 32) (by decide) (fun c => ?_) (fun c => ?_)
    · replace hyp := hyp.1 c
      refine ax_iinc hX dX0_anyUpTo_32 rfl (w := (v3 + (1 : Int32))) rfl (by decide) (L' := [some (.ref 101), some (.int v1), some (.int v2), some (.int (v3 + (1 : Int32)))]) rfl ?_
      refine ax_goto hX dX0_anyUpTo_35 (tgt := 2) (by decide) ?_
      exact ax_forget (L' := [some (.ref 101), some (.int v1), some (.int v2), some (.int (v3 + (1 : Int32)))]) (⟨rfl, ⟨rfl, ⟨rfl, ⟨rfl, trivial⟩⟩⟩⟩) hyp
    · replace hyp := hyp.2 c
      refine ax_aload_n hX dX0_anyUpTo_20 (Or.inr ⟨_, rfl⟩) rfl ?_
      refine tx_getF hX fRX0_18 ly_101 (o := 3) (b := 104) fk_0_3 rfl (by decide) (Nat.lt_of_lt_of_le (by decide) hsz) dX0_anyUpTo_21 ?_
      refine ax_iload_n hX dX0_anyUpTo_24 rfl ?_
      refine tx_ial hX ly_104 (by decide) (Nat.lt_of_lt_of_le (by decide) hsz) hyp.1 dX0_anyUpTo_25 ?_
      replace hyp := hyp.2
      refine ax_iload_n hX dX0_anyUpTo_26 rfl ?_
      refine ax_icmp_gt hX dX0_anyUpTo_27 (tgt := 32) (by decide) (fun c => ?_) (fun c => ?_)
      · replace hyp := hyp.1 c
        refine ax_iinc hX dX0_anyUpTo_32 rfl (w := (v3 + (1 : Int32))) rfl (by decide) (L' := [some (.ref 101), some (.int v1), some (.int v2), some (.int (v3 + (1 : Int32)))]) rfl ?_
        refine ax_goto hX dX0_anyUpTo_35 (tgt := 2) (by decide) ?_
        exact ax_forget (L' := [some (.ref 101), some (.int v1), some (.int v2), some (.int (v3 + (1 : Int32)))]) (⟨rfl, ⟨rfl, ⟨rfl, ⟨rfl, trivial⟩⟩⟩⟩) hyp
      · replace hyp := hyp.2 c
        refine ax_iconst hX dX0_anyUpTo_30 (v := 1) (by decide) ?_
        exact hR.1 _ _ _ _ _ _ (by decide) (by decide) dX0_anyUpTo_31 ⟨_, rfl, rfl⟩ ⟨_, _, rfl, rfl, hyp⟩
set_option maxRecDepth 10000 in
theorem s_X0_give_0 {X : ax_X} {d L sz : Nat} {T : tT} {Q : Int32 → tT → Prop} (hX : ax_ok X mX0_give d) (hR : ax_Ret X mX0_give (ti L sz Q)) (hsz : 161 ≤ sz) (x0 : Int32) (x1 : Int32) (x2 : Int32) (hyp : (((T.1 101 0) < (60 : Int32) → vp_in (T.1 101 0) 60 ∧ vp_in (T.1 101 0) 60 ∧ vp_in (T.1 101 0) 60 ∧ Q ((T.1 101 0) + (1 : Int32)) (tI (tI (tI (tI T 102 ((T.1 101 0).toNatClampNeg) x0) 103 ((T.1 101 0).toNatClampNeg) x1) 104 ((T.1 101 0).toNatClampNeg) x2) 101 0 ((T.1 101 0) + (1 : Int32)))) ∧ (¬ (T.1 101 0) < (60 : Int32) → Q (-1 : Int32) T))) : ax_j X 0 [some (.ref 101), some (.int x0), some (.int x1), some (.int x2)] [] (th L sz T) 0 0 := by
  refine ax_aload_n hX dX0_give_0 (Or.inr ⟨_, rfl⟩) rfl ?_
  refine tx_getI hX fRX0_21 ly_101 fk_0_0 (by decide) (Nat.lt_of_lt_of_le (by decide) hsz) dX0_give_1 ?_
  refine ax_bipush hX dX0_give_4 (v := 60) (by decide) ?_
  refine ax_icmp_lt hX dX0_give_6 (tgt := 11) (by decide) (fun c => ?_) (fun c => ?_)
  · replace hyp := hyp.1 c
    refine ax_aload_n hX dX0_give_11 (Or.inr ⟨_, rfl⟩) rfl ?_
    refine tx_getF hX fRX0_9 ly_101 (o := 1) (b := 102) fk_0_1 rfl (by decide) (Nat.lt_of_lt_of_le (by decide) hsz) dX0_give_12 ?_
    refine ax_aload_n hX dX0_give_15 (Or.inr ⟨_, rfl⟩) rfl ?_
    refine tx_getI hX fRX0_21 ly_101 fk_0_0 (by decide) (Nat.lt_of_lt_of_le (by decide) hsz) dX0_give_16 ?_
    refine ax_iload_n hX dX0_give_19 rfl ?_
    refine tx_ias hX ly_102 (by decide) (Nat.lt_of_lt_of_le (by decide) hsz) hyp.1 dX0_give_20 ?_
    replace hyp := hyp.2
    refine ax_aload_n hX dX0_give_21 (Or.inr ⟨_, rfl⟩) rfl ?_
    refine tx_getF hX fRX0_15 ly_101 (o := 2) (b := 103) fk_0_2 rfl (by decide) (Nat.lt_of_lt_of_le (by decide) hsz) dX0_give_22 ?_
    refine ax_aload_n hX dX0_give_25 (Or.inr ⟨_, rfl⟩) rfl ?_
    refine tx_getI hX fRX0_21 ly_101 fk_0_0 (by decide) (Nat.lt_of_lt_of_le (by decide) hsz) dX0_give_26 ?_
    refine ax_iload_n hX dX0_give_29 rfl ?_
    refine tx_ias hX ly_103 (by decide) (Nat.lt_of_lt_of_le (by decide) hsz) hyp.1 dX0_give_30 ?_
    replace hyp := hyp.2
    refine ax_aload_n hX dX0_give_31 (Or.inr ⟨_, rfl⟩) rfl ?_
    refine tx_getF hX fRX0_18 ly_101 (o := 3) (b := 104) fk_0_3 rfl (by decide) (Nat.lt_of_lt_of_le (by decide) hsz) dX0_give_32 ?_
    refine ax_aload_n hX dX0_give_35 (Or.inr ⟨_, rfl⟩) rfl ?_
    refine tx_getI hX fRX0_21 ly_101 fk_0_0 (by decide) (Nat.lt_of_lt_of_le (by decide) hsz) dX0_give_36 ?_
    refine ax_iload_n hX dX0_give_39 rfl ?_
    refine tx_ias hX ly_104 (by decide) (Nat.lt_of_lt_of_le (by decide) hsz) hyp.1 dX0_give_40 ?_
    replace hyp := hyp.2
    refine ax_aload_n hX dX0_give_41 (Or.inr ⟨_, rfl⟩) rfl ?_
    refine ax_dup hX dX0_give_42 rfl ?_
    refine tx_getI hX fRX0_21 ly_101 fk_0_0 (by decide) (Nat.lt_of_lt_of_le (by decide) hsz) dX0_give_43 ?_
    refine ax_iconst hX dX0_give_46 (v := 1) (by decide) ?_
    refine ax_iadd hX dX0_give_47 ?_
    refine tx_putI hX fRX0_21 ly_101 fk_0_0 (by decide) (Nat.lt_of_lt_of_le (by decide) hsz) rfl rfl dX0_give_48 ?_
    refine ax_aload_n hX dX0_give_51 (Or.inr ⟨_, rfl⟩) rfl ?_
    refine tx_getI hX fRX0_21 ly_101 fk_0_0 (by decide) (Nat.lt_of_lt_of_le (by decide) hsz) dX0_give_52 ?_
    exact hR.1 _ _ _ _ _ _ (by decide) (by decide) dX0_give_55 ⟨_, rfl, rfl⟩ ⟨_, _, rfl, rfl, hyp⟩
  · replace hyp := hyp.2 c
    refine ax_iconst hX dX0_give_9 (v := -1) (by decide) ?_
    exact hR.1 _ _ _ _ _ _ (by decide) (by decide) dX0_give_10 ⟨_, rfl, rfl⟩ ⟨_, _, rfl, rfl, hyp⟩
set_option maxRecDepth 10000 in
theorem s_X0_has_0 {X : ax_X} {d L sz : Nat} {T : tT} {Q : Int32 → tT → Prop} (hX : ax_ok X mX0_has d) (hR : ax_Ret X mX0_has (ti L sz Q)) (hsz : 161 ≤ sz) (x0 : Int32) (hyp : ((x0 < (1 : Int32) → Q (0 : Int32) T) ∧ (¬ x0 < (1 : Int32) → (((T.1 101 0) < x0 → Q (0 : Int32) T) ∧ (¬ (T.1 101 0) < x0 → Q (1 : Int32) T))))) : ax_j X 0 [some (.ref 101), some (.int x0)] [] (th L sz T) 0 0 := by
  refine ax_iload_n hX dX0_has_0 rfl ?_
  refine ax_iconst hX dX0_has_1 (v := 1) (by decide) ?_
  refine ax_icmp_lt hX dX0_has_2 (tgt := 17) (by decide) (fun c => ?_) (fun c => ?_)
  · replace hyp := hyp.1 c
    refine ax_iconst hX dX0_has_17 (v := 0) (by decide) ?_
    exact hR.1 _ _ _ _ _ _ (by decide) (by decide) dX0_has_18 ⟨_, rfl, rfl⟩ ⟨_, _, rfl, rfl, hyp⟩
  · replace hyp := hyp.2 c
    refine ax_iload_n hX dX0_has_5 rfl ?_
    refine ax_aload_n hX dX0_has_6 (Or.inr ⟨_, rfl⟩) rfl ?_
    refine tx_getI hX fRX0_21 ly_101 fk_0_0 (by decide) (Nat.lt_of_lt_of_le (by decide) hsz) dX0_has_7 ?_
    refine ax_icmp_gt hX dX0_has_10 (tgt := 17) (by decide) (fun c => ?_) (fun c => ?_)
    · replace hyp := hyp.1 c
      refine ax_iconst hX dX0_has_17 (v := 0) (by decide) ?_
      exact hR.1 _ _ _ _ _ _ (by decide) (by decide) dX0_has_18 ⟨_, rfl, rfl⟩ ⟨_, _, rfl, rfl, hyp⟩
    · replace hyp := hyp.2 c
      refine ax_iconst hX dX0_has_13 (v := 1) (by decide) ?_
      refine ax_goto hX dX0_has_14 (tgt := 18) (by decide) ?_
      exact hR.1 _ _ _ _ _ _ (by decide) (by decide) dX0_has_18 ⟨_, rfl, rfl⟩ ⟨_, _, rfl, rfl, hyp⟩
set_option maxRecDepth 10000 in
theorem s_X1_addCentre_0 {X : ax_X} {d L sz : Nat} {T : tT} {Q : Int32 → tT → Prop} (hX : ax_ok X mX1_addCentre d) (hR : ax_Ret X mX1_addCentre (ti L sz Q)) (hsz : 161 ≤ sz)  (hyp : (((T.1 79 0) < (8 : Int32) → Q (((T.1 79 0) + (1 : Int32)) - (1 : Int32)) (tI T 79 0 ((T.1 79 0) + (1 : Int32)))) ∧ (¬ (T.1 79 0) < (8 : Int32) → Q (-1 : Int32) T))) : ax_j X 0 [some (.ref 79)] [] (th L sz T) 0 0 := by
  refine ax_aload_n hX dX1_addCentre_0 (Or.inr ⟨_, rfl⟩) rfl ?_
  refine tx_getI hX fRX1_27 ly_79 fk_1_0 (by decide) (Nat.lt_of_lt_of_le (by decide) hsz) dX1_addCentre_1 ?_
  refine ax_bipush hX dX1_addCentre_4 (v := 8) (by decide) ?_
  refine ax_icmp_lt hX dX1_addCentre_6 (tgt := 11) (by decide) (fun c => ?_) (fun c => ?_)
  · replace hyp := hyp.1 c
    refine ax_aload_n hX dX1_addCentre_11 (Or.inr ⟨_, rfl⟩) rfl ?_
    refine ax_dup hX dX1_addCentre_12 rfl ?_
    refine tx_getI hX fRX1_27 ly_79 fk_1_0 (by decide) (Nat.lt_of_lt_of_le (by decide) hsz) dX1_addCentre_13 ?_
    refine ax_iconst hX dX1_addCentre_16 (v := 1) (by decide) ?_
    refine ax_iadd hX dX1_addCentre_17 ?_
    refine tx_putI hX fRX1_27 ly_79 fk_1_0 (by decide) (Nat.lt_of_lt_of_le (by decide) hsz) rfl rfl dX1_addCentre_18 ?_
    refine ax_aload_n hX dX1_addCentre_21 (Or.inr ⟨_, rfl⟩) rfl ?_
    refine tx_getI hX fRX1_27 ly_79 fk_1_0 (by decide) (Nat.lt_of_lt_of_le (by decide) hsz) dX1_addCentre_22 ?_
    refine ax_iconst hX dX1_addCentre_25 (v := 1) (by decide) ?_
    refine ax_isub hX dX1_addCentre_26 ?_
    exact hR.1 _ _ _ _ _ _ (by decide) (by decide) dX1_addCentre_27 ⟨_, rfl, rfl⟩ ⟨_, _, rfl, rfl, hyp⟩
  · replace hyp := hyp.2 c
    refine ax_iconst hX dX1_addCentre_9 (v := -1) (by decide) ?_
    exact hR.1 _ _ _ _ _ _ (by decide) (by decide) dX1_addCentre_10 ⟨_, rfl, rfl⟩ ⟨_, _, rfl, rfl, hyp⟩
set_option maxRecDepth 10000 in
theorem s_X1_addExaminer_0 {X : ax_X} {d L sz : Nat} {T : tT} {Q : Int32 → tT → Prop} (hX : ax_ok X mX1_addExaminer d) (hR : ax_Ret X mX1_addExaminer (ti L sz Q)) (hsz : 161 ≤ sz) (x0 : Int32) (x1 : Int32) (hyp : (((T.1 79 1) < (5 : Int32) → vp_in (T.1 79 1) 5 ∧ vp_in (T.1 79 1) 5 ∧ Q (((T.1 79 1) + (1 : Int32)) - (1 : Int32)) (tI (tI (tI T 80 ((T.1 79 1).toNatClampNeg) x0) 81 ((T.1 79 1).toNatClampNeg) x1) 79 1 ((T.1 79 1) + (1 : Int32)))) ∧ (¬ (T.1 79 1) < (5 : Int32) → Q (-1 : Int32) T))) : ax_j X 0 [some (.ref 79), some (.int x0), some (.int x1)] [] (th L sz T) 0 0 := by
  refine ax_aload_n hX dX1_addExaminer_0 (Or.inr ⟨_, rfl⟩) rfl ?_
  refine tx_getI hX fRX1_31 ly_79 fk_1_1 (by decide) (Nat.lt_of_lt_of_le (by decide) hsz) dX1_addExaminer_1 ?_
  refine ax_iconst hX dX1_addExaminer_4 (v := 5) (by decide) ?_
  refine ax_icmp_lt hX dX1_addExaminer_5 (tgt := 10) (by decide) (fun c => ?_) (fun c => ?_)
  · replace hyp := hyp.1 c
    refine ax_aload_n hX dX1_addExaminer_10 (Or.inr ⟨_, rfl⟩) rfl ?_
    refine tx_getF hX fRX1_9 ly_79 (o := 1) (b := 80) fk_1_3 rfl (by decide) (Nat.lt_of_lt_of_le (by decide) hsz) dX1_addExaminer_11 ?_
    refine ax_aload_n hX dX1_addExaminer_14 (Or.inr ⟨_, rfl⟩) rfl ?_
    refine tx_getI hX fRX1_31 ly_79 fk_1_1 (by decide) (Nat.lt_of_lt_of_le (by decide) hsz) dX1_addExaminer_15 ?_
    refine ax_iload_n hX dX1_addExaminer_18 rfl ?_
    refine tx_ias hX ly_80 (by decide) (Nat.lt_of_lt_of_le (by decide) hsz) hyp.1 dX1_addExaminer_19 ?_
    replace hyp := hyp.2
    refine ax_aload_n hX dX1_addExaminer_20 (Or.inr ⟨_, rfl⟩) rfl ?_
    refine tx_getF hX fRX1_15 ly_79 (o := 2) (b := 81) fk_1_4 rfl (by decide) (Nat.lt_of_lt_of_le (by decide) hsz) dX1_addExaminer_21 ?_
    refine ax_aload_n hX dX1_addExaminer_24 (Or.inr ⟨_, rfl⟩) rfl ?_
    refine tx_getI hX fRX1_31 ly_79 fk_1_1 (by decide) (Nat.lt_of_lt_of_le (by decide) hsz) dX1_addExaminer_25 ?_
    refine ax_iload_n hX dX1_addExaminer_28 rfl ?_
    refine tx_ias hX ly_81 (by decide) (Nat.lt_of_lt_of_le (by decide) hsz) hyp.1 dX1_addExaminer_29 ?_
    replace hyp := hyp.2
    refine ax_aload_n hX dX1_addExaminer_30 (Or.inr ⟨_, rfl⟩) rfl ?_
    refine ax_dup hX dX1_addExaminer_31 rfl ?_
    refine tx_getI hX fRX1_31 ly_79 fk_1_1 (by decide) (Nat.lt_of_lt_of_le (by decide) hsz) dX1_addExaminer_32 ?_
    refine ax_iconst hX dX1_addExaminer_35 (v := 1) (by decide) ?_
    refine ax_iadd hX dX1_addExaminer_36 ?_
    refine tx_putI hX fRX1_31 ly_79 fk_1_1 (by decide) (Nat.lt_of_lt_of_le (by decide) hsz) rfl rfl dX1_addExaminer_37 ?_
    refine ax_aload_n hX dX1_addExaminer_40 (Or.inr ⟨_, rfl⟩) rfl ?_
    refine tx_getI hX fRX1_31 ly_79 fk_1_1 (by decide) (Nat.lt_of_lt_of_le (by decide) hsz) dX1_addExaminer_41 ?_
    refine ax_iconst hX dX1_addExaminer_44 (v := 1) (by decide) ?_
    refine ax_isub hX dX1_addExaminer_45 ?_
    exact hR.1 _ _ _ _ _ _ (by decide) (by decide) dX1_addExaminer_46 ⟨_, rfl, rfl⟩ ⟨_, _, rfl, rfl, hyp⟩
  · replace hyp := hyp.2 c
    refine ax_iconst hX dX1_addExaminer_8 (v := -1) (by decide) ?_
    exact hR.1 _ _ _ _ _ _ (by decide) (by decide) dX1_addExaminer_9 ⟨_, rfl, rfl⟩ ⟨_, _, rfl, rfl, hyp⟩
set_option maxRecDepth 10000 in
theorem s_X1_addSession_0 {X : ax_X} {d L sz : Nat} {T : tT} {Q : Int32 → tT → Prop} (hX : ax_ok X mX1_addSession d) (hR : ax_Ret X mX1_addSession (ti L sz Q)) (hsz : 161 ≤ sz) (x0 : Int32) (x1 : Int32) (hyp : (((T.1 79 2) < (9 : Int32) → vp_in (T.1 79 2) 9 ∧ vp_in (T.1 79 2) 9 ∧ Q (((T.1 79 2) + (1 : Int32)) - (1 : Int32)) (tI (tI (tI T 82 ((T.1 79 2).toNatClampNeg) x0) 83 ((T.1 79 2).toNatClampNeg) x1) 79 2 ((T.1 79 2) + (1 : Int32)))) ∧ (¬ (T.1 79 2) < (9 : Int32) → Q (-1 : Int32) T))) : ax_j X 0 [some (.ref 79), some (.int x0), some (.int x1)] [] (th L sz T) 0 0 := by
  refine ax_aload_n hX dX1_addSession_0 (Or.inr ⟨_, rfl⟩) rfl ?_
  refine tx_getI hX fRX1_34 ly_79 fk_1_2 (by decide) (Nat.lt_of_lt_of_le (by decide) hsz) dX1_addSession_1 ?_
  refine ax_bipush hX dX1_addSession_4 (v := 9) (by decide) ?_
  refine ax_icmp_lt hX dX1_addSession_6 (tgt := 11) (by decide) (fun c => ?_) (fun c => ?_)
  · replace hyp := hyp.1 c
    refine ax_aload_n hX dX1_addSession_11 (Or.inr ⟨_, rfl⟩) rfl ?_
    refine tx_getF hX fRX1_18 ly_79 (o := 3) (b := 82) fk_1_5 rfl (by decide) (Nat.lt_of_lt_of_le (by decide) hsz) dX1_addSession_12 ?_
    refine ax_aload_n hX dX1_addSession_15 (Or.inr ⟨_, rfl⟩) rfl ?_
    refine tx_getI hX fRX1_34 ly_79 fk_1_2 (by decide) (Nat.lt_of_lt_of_le (by decide) hsz) dX1_addSession_16 ?_
    refine ax_iload_n hX dX1_addSession_19 rfl ?_
    refine tx_ias hX ly_82 (by decide) (Nat.lt_of_lt_of_le (by decide) hsz) hyp.1 dX1_addSession_20 ?_
    replace hyp := hyp.2
    refine ax_aload_n hX dX1_addSession_21 (Or.inr ⟨_, rfl⟩) rfl ?_
    refine tx_getF hX fRX1_21 ly_79 (o := 4) (b := 83) fk_1_6 rfl (by decide) (Nat.lt_of_lt_of_le (by decide) hsz) dX1_addSession_22 ?_
    refine ax_aload_n hX dX1_addSession_25 (Or.inr ⟨_, rfl⟩) rfl ?_
    refine tx_getI hX fRX1_34 ly_79 fk_1_2 (by decide) (Nat.lt_of_lt_of_le (by decide) hsz) dX1_addSession_26 ?_
    refine ax_iload_n hX dX1_addSession_29 rfl ?_
    refine tx_ias hX ly_83 (by decide) (Nat.lt_of_lt_of_le (by decide) hsz) hyp.1 dX1_addSession_30 ?_
    replace hyp := hyp.2
    refine ax_aload_n hX dX1_addSession_31 (Or.inr ⟨_, rfl⟩) rfl ?_
    refine ax_dup hX dX1_addSession_32 rfl ?_
    refine tx_getI hX fRX1_34 ly_79 fk_1_2 (by decide) (Nat.lt_of_lt_of_le (by decide) hsz) dX1_addSession_33 ?_
    refine ax_iconst hX dX1_addSession_36 (v := 1) (by decide) ?_
    refine ax_iadd hX dX1_addSession_37 ?_
    refine tx_putI hX fRX1_34 ly_79 fk_1_2 (by decide) (Nat.lt_of_lt_of_le (by decide) hsz) rfl rfl dX1_addSession_38 ?_
    refine ax_aload_n hX dX1_addSession_41 (Or.inr ⟨_, rfl⟩) rfl ?_
    refine tx_getI hX fRX1_34 ly_79 fk_1_2 (by decide) (Nat.lt_of_lt_of_le (by decide) hsz) dX1_addSession_42 ?_
    refine ax_iconst hX dX1_addSession_45 (v := 1) (by decide) ?_
    refine ax_isub hX dX1_addSession_46 ?_
    exact hR.1 _ _ _ _ _ _ (by decide) (by decide) dX1_addSession_47 ⟨_, rfl, rfl⟩ ⟨_, _, rfl, rfl, hyp⟩
  · replace hyp := hyp.2 c
    refine ax_iconst hX dX1_addSession_9 (v := -1) (by decide) ?_
    exact hR.1 _ _ _ _ _ _ (by decide) (by decide) dX1_addSession_10 ⟨_, rfl, rfl⟩ ⟨_, _, rfl, rfl, hyp⟩
set_option maxRecDepth 10000 in
theorem s_X1_hasCentre_0 {X : ax_X} {d L sz : Nat} {T : tT} {Q : Int32 → tT → Prop} (hX : ax_ok X mX1_hasCentre d) (hR : ax_Ret X mX1_hasCentre (ti L sz Q)) (hsz : 161 ≤ sz) (x0 : Int32) (hyp : ((x0 < 0 → Q (0 : Int32) T) ∧ (¬ x0 < 0 → (((T.1 79 0) ≤ x0 → Q (0 : Int32) T) ∧ (¬ (T.1 79 0) ≤ x0 → Q (1 : Int32) T))))) : ax_j X 0 [some (.ref 79), some (.int x0)] [] (th L sz T) 0 0 := by
  refine ax_iload_n hX dX1_hasCentre_0 rfl ?_
  refine ax_if_lt hX dX1_hasCentre_1 (tgt := 16) (by decide) (fun c => ?_) (fun c => ?_)
  · replace hyp := hyp.1 c
    refine ax_iconst hX dX1_hasCentre_16 (v := 0) (by decide) ?_
    exact hR.1 _ _ _ _ _ _ (by decide) (by decide) dX1_hasCentre_17 ⟨_, rfl, rfl⟩ ⟨_, _, rfl, rfl, hyp⟩
  · replace hyp := hyp.2 c
    refine ax_iload_n hX dX1_hasCentre_4 rfl ?_
    refine ax_aload_n hX dX1_hasCentre_5 (Or.inr ⟨_, rfl⟩) rfl ?_
    refine tx_getI hX fRX1_27 ly_79 fk_1_0 (by decide) (Nat.lt_of_lt_of_le (by decide) hsz) dX1_hasCentre_6 ?_
    refine ax_icmp_ge hX dX1_hasCentre_9 (tgt := 16) (by decide) (fun c => ?_) (fun c => ?_)
    · replace hyp := hyp.1 c
      refine ax_iconst hX dX1_hasCentre_16 (v := 0) (by decide) ?_
      exact hR.1 _ _ _ _ _ _ (by decide) (by decide) dX1_hasCentre_17 ⟨_, rfl, rfl⟩ ⟨_, _, rfl, rfl, hyp⟩
    · replace hyp := hyp.2 c
      refine ax_iconst hX dX1_hasCentre_12 (v := 1) (by decide) ?_
      refine ax_goto hX dX1_hasCentre_13 (tgt := 17) (by decide) ?_
      exact hR.1 _ _ _ _ _ _ (by decide) (by decide) dX1_hasCentre_17 ⟨_, rfl, rfl⟩ ⟨_, _, rfl, rfl, hyp⟩
set_option maxRecDepth 10000 in
theorem s_X1_hasExaminer_0 {X : ax_X} {d L sz : Nat} {T : tT} {Q : Int32 → tT → Prop} (hX : ax_ok X mX1_hasExaminer d) (hR : ax_Ret X mX1_hasExaminer (ti L sz Q)) (hsz : 161 ≤ sz) (x0 : Int32) (hyp : ((x0 < 0 → Q (0 : Int32) T) ∧ (¬ x0 < 0 → (((T.1 79 1) ≤ x0 → Q (0 : Int32) T) ∧ (¬ (T.1 79 1) ≤ x0 → Q (1 : Int32) T))))) : ax_j X 0 [some (.ref 79), some (.int x0)] [] (th L sz T) 0 0 := by
  refine ax_iload_n hX dX1_hasExaminer_0 rfl ?_
  refine ax_if_lt hX dX1_hasExaminer_1 (tgt := 16) (by decide) (fun c => ?_) (fun c => ?_)
  · replace hyp := hyp.1 c
    refine ax_iconst hX dX1_hasExaminer_16 (v := 0) (by decide) ?_
    exact hR.1 _ _ _ _ _ _ (by decide) (by decide) dX1_hasExaminer_17 ⟨_, rfl, rfl⟩ ⟨_, _, rfl, rfl, hyp⟩
  · replace hyp := hyp.2 c
    refine ax_iload_n hX dX1_hasExaminer_4 rfl ?_
    refine ax_aload_n hX dX1_hasExaminer_5 (Or.inr ⟨_, rfl⟩) rfl ?_
    refine tx_getI hX fRX1_31 ly_79 fk_1_1 (by decide) (Nat.lt_of_lt_of_le (by decide) hsz) dX1_hasExaminer_6 ?_
    refine ax_icmp_ge hX dX1_hasExaminer_9 (tgt := 16) (by decide) (fun c => ?_) (fun c => ?_)
    · replace hyp := hyp.1 c
      refine ax_iconst hX dX1_hasExaminer_16 (v := 0) (by decide) ?_
      exact hR.1 _ _ _ _ _ _ (by decide) (by decide) dX1_hasExaminer_17 ⟨_, rfl, rfl⟩ ⟨_, _, rfl, rfl, hyp⟩
    · replace hyp := hyp.2 c
      refine ax_iconst hX dX1_hasExaminer_12 (v := 1) (by decide) ?_
      refine ax_goto hX dX1_hasExaminer_13 (tgt := 17) (by decide) ?_
      exact hR.1 _ _ _ _ _ _ (by decide) (by decide) dX1_hasExaminer_17 ⟨_, rfl, rfl⟩ ⟨_, _, rfl, rfl, hyp⟩
set_option maxRecDepth 10000 in
theorem s_X1_hasSession_0 {X : ax_X} {d L sz : Nat} {T : tT} {Q : Int32 → tT → Prop} (hX : ax_ok X mX1_hasSession d) (hR : ax_Ret X mX1_hasSession (ti L sz Q)) (hsz : 161 ≤ sz) (x0 : Int32) (hyp : ((x0 < 0 → Q (0 : Int32) T) ∧ (¬ x0 < 0 → (((T.1 79 2) ≤ x0 → Q (0 : Int32) T) ∧ (¬ (T.1 79 2) ≤ x0 → Q (1 : Int32) T))))) : ax_j X 0 [some (.ref 79), some (.int x0)] [] (th L sz T) 0 0 := by
  refine ax_iload_n hX dX1_hasSession_0 rfl ?_
  refine ax_if_lt hX dX1_hasSession_1 (tgt := 16) (by decide) (fun c => ?_) (fun c => ?_)
  · replace hyp := hyp.1 c
    refine ax_iconst hX dX1_hasSession_16 (v := 0) (by decide) ?_
    exact hR.1 _ _ _ _ _ _ (by decide) (by decide) dX1_hasSession_17 ⟨_, rfl, rfl⟩ ⟨_, _, rfl, rfl, hyp⟩
  · replace hyp := hyp.2 c
    refine ax_iload_n hX dX1_hasSession_4 rfl ?_
    refine ax_aload_n hX dX1_hasSession_5 (Or.inr ⟨_, rfl⟩) rfl ?_
    refine tx_getI hX fRX1_34 ly_79 fk_1_2 (by decide) (Nat.lt_of_lt_of_le (by decide) hsz) dX1_hasSession_6 ?_
    refine ax_icmp_ge hX dX1_hasSession_9 (tgt := 16) (by decide) (fun c => ?_) (fun c => ?_)
    · replace hyp := hyp.1 c
      refine ax_iconst hX dX1_hasSession_16 (v := 0) (by decide) ?_
      exact hR.1 _ _ _ _ _ _ (by decide) (by decide) dX1_hasSession_17 ⟨_, rfl, rfl⟩ ⟨_, _, rfl, rfl, hyp⟩
    · replace hyp := hyp.2 c
      refine ax_iconst hX dX1_hasSession_12 (v := 1) (by decide) ?_
      refine ax_goto hX dX1_hasSession_13 (tgt := 17) (by decide) ?_
      exact hR.1 _ _ _ _ _ _ (by decide) (by decide) dX1_hasSession_17 ⟨_, rfl, rfl⟩ ⟨_, _, rfl, rfl, hyp⟩
set_option maxRecDepth 10000 in
theorem s_X1_minutesBetween_0 {X : ax_X} {d L sz : Nat} {T : tT} {Q : Int32 → tT → Prop} (hX : ax_ok X mX1_minutesBetween d) (hR : ax_Ret X mX1_minutesBetween (ti L sz Q)) (hsz : 161 ≤ sz) (x0 : Int32) (x1 : Int32) (hyp : vp_in ((x0 * (8 : Int32)) + x1) 64 ∧ Q (T.1 84 ((x0 * (8 : Int32)) + x1).toNatClampNeg) T) : ax_j X 0 [some (.ref 79), some (.int x0), some (.int x1)] [] (th L sz T) 0 0 := by
  refine ax_aload_n hX dX1_minutesBetween_0 (Or.inr ⟨_, rfl⟩) rfl ?_
  refine tx_getF hX fRX1_24 ly_79 (o := 5) (b := 84) fk_1_7 rfl (by decide) (Nat.lt_of_lt_of_le (by decide) hsz) dX1_minutesBetween_1 ?_
  refine ax_iload_n hX dX1_minutesBetween_4 rfl ?_
  refine ax_bipush hX dX1_minutesBetween_5 (v := 8) (by decide) ?_
  refine ax_imul hX dX1_minutesBetween_7 ?_
  refine ax_iload_n hX dX1_minutesBetween_8 rfl ?_
  refine ax_iadd hX dX1_minutesBetween_9 ?_
  refine tx_ial hX ly_84 (by decide) (Nat.lt_of_lt_of_le (by decide) hsz) hyp.1 dX1_minutesBetween_10 ?_
  replace hyp := hyp.2
  exact hR.1 _ _ _ _ _ _ (by decide) (by decide) dX1_minutesBetween_11 ⟨_, rfl, rfl⟩ ⟨_, _, rfl, rfl, hyp⟩
set_option maxRecDepth 10000 in
theorem s_X1_plays_0 {X : ax_X} {d L sz : Nat} {T : tT} {Q : Int32 → tT → Prop} (hX : ax_ok X mX1_plays d) (hR : ax_Ret X mX1_plays (ti L sz Q)) (hsz : 161 ≤ sz) (x0 : Int32) (x1 : Int32) (hyp : vp_in x0 5 ∧ (((((T.1 81 (x0.toNatClampNeg)) >>> (x1 &&& 31)) &&& (1 : Int32)) = 0 → Q (0 : Int32) T) ∧ (¬ (((T.1 81 (x0.toNatClampNeg)) >>> (x1 &&& 31)) &&& (1 : Int32)) = 0 → Q (1 : Int32) T))) : ax_j X 0 [some (.ref 79), some (.int x0), some (.int x1)] [] (th L sz T) 0 0 := by
  refine ax_aload_n hX dX1_plays_0 (Or.inr ⟨_, rfl⟩) rfl ?_
  refine tx_getF hX fRX1_15 ly_79 (o := 2) (b := 81) fk_1_4 rfl (by decide) (Nat.lt_of_lt_of_le (by decide) hsz) dX1_plays_1 ?_
  refine ax_iload_n hX dX1_plays_4 rfl ?_
  refine tx_ial hX ly_81 (by decide) (Nat.lt_of_lt_of_le (by decide) hsz) hyp.1 dX1_plays_5 ?_
  replace hyp := hyp.2
  refine ax_iload_n hX dX1_plays_6 rfl ?_
  refine ax_ishr hX dX1_plays_7 ?_
  refine ax_iconst hX dX1_plays_8 (v := 1) (by decide) ?_
  refine ax_iand hX dX1_plays_9 ?_
  refine ax_if_eq hX dX1_plays_10 (tgt := 17) (by decide) (fun c => ?_) (fun c => ?_)
  · replace hyp := hyp.1 c
    refine ax_iconst hX dX1_plays_17 (v := 0) (by decide) ?_
    exact hR.1 _ _ _ _ _ _ (by decide) (by decide) dX1_plays_18 ⟨_, rfl, rfl⟩ ⟨_, _, rfl, rfl, hyp⟩
  · replace hyp := hyp.2 c
    refine ax_iconst hX dX1_plays_13 (v := 1) (by decide) ?_
    refine ax_goto hX dX1_plays_14 (tgt := 18) (by decide) ?_
    exact hR.1 _ _ _ _ _ _ (by decide) (by decide) dX1_plays_18 ⟨_, rfl, rfl⟩ ⟨_, _, rfl, rfl, hyp⟩
set_option maxRecDepth 10000 in
theorem s_X1_setWay_0 {X : ax_X} {d L sz : Nat} {T : tT} {Q : tT → Prop} (hX : ax_ok X mX1_setWay d) (hR : ax_Ret X mX1_setWay (tv L sz Q)) (hsz : 161 ≤ sz) (x0 : Int32) (x1 : Int32) (x2 : Int32) (hyp : vp_in ((x0 * (8 : Int32)) + x1) 64 ∧ vp_in ((x1 * (8 : Int32)) + x0) 64 ∧ Q (tI (tI T 84 (((x0 * (8 : Int32)) + x1).toNatClampNeg) x2) 84 (((x1 * (8 : Int32)) + x0).toNatClampNeg) x2)) : ax_j X 0 [some (.ref 79), some (.int x0), some (.int x1), some (.int x2)] [] (th L sz T) 0 0 := by
  refine ax_aload_n hX dX1_setWay_0 (Or.inr ⟨_, rfl⟩) rfl ?_
  refine tx_getF hX fRX1_24 ly_79 (o := 5) (b := 84) fk_1_7 rfl (by decide) (Nat.lt_of_lt_of_le (by decide) hsz) dX1_setWay_1 ?_
  refine ax_iload_n hX dX1_setWay_4 rfl ?_
  refine ax_bipush hX dX1_setWay_5 (v := 8) (by decide) ?_
  refine ax_imul hX dX1_setWay_7 ?_
  refine ax_iload_n hX dX1_setWay_8 rfl ?_
  refine ax_iadd hX dX1_setWay_9 ?_
  refine ax_iload_n hX dX1_setWay_10 rfl ?_
  refine tx_ias hX ly_84 (by decide) (Nat.lt_of_lt_of_le (by decide) hsz) hyp.1 dX1_setWay_11 ?_
  replace hyp := hyp.2
  refine ax_aload_n hX dX1_setWay_12 (Or.inr ⟨_, rfl⟩) rfl ?_
  refine tx_getF hX fRX1_24 ly_79 (o := 5) (b := 84) fk_1_7 rfl (by decide) (Nat.lt_of_lt_of_le (by decide) hsz) dX1_setWay_13 ?_
  refine ax_iload_n hX dX1_setWay_16 rfl ?_
  refine ax_bipush hX dX1_setWay_17 (v := 8) (by decide) ?_
  refine ax_imul hX dX1_setWay_19 ?_
  refine ax_iload_n hX dX1_setWay_20 rfl ?_
  refine ax_iadd hX dX1_setWay_21 ?_
  refine ax_iload_n hX dX1_setWay_22 rfl ?_
  refine tx_ias hX ly_84 (by decide) (Nat.lt_of_lt_of_le (by decide) hsz) hyp.1 dX1_setWay_23 ?_
  replace hyp := hyp.2
  exact hR.2.2.2 _ _ _ _ _ (by decide) (by decide) dX1_setWay_24 rfl ⟨_, rfl, rfl, hyp⟩
set_option maxRecDepth 10000 in
theorem s_X2_add_0 {X : ax_X} {d L sz : Nat} {T : tT} {Q : Int32 → tT → Prop} (hX : ax_ok X mX2_add d) (hR : ax_Ret X mX2_add (ti L sz Q)) (hsz : 161 ≤ sz) (x0 : Int32) (x1 : Int32) (x2 : Int32) (x3 : Int32) (x4 : Int32) (x5 : Int32) (hyp : (((T.1 69 0) < (40 : Int32) → vp_in (T.1 69 0) 40 ∧ vp_in (T.1 69 0) 40 ∧ vp_in (T.1 69 0) 40 ∧ vp_in (T.1 69 0) 40 ∧ vp_in (T.1 69 0) 40 ∧ vp_in (T.1 69 0) 40 ∧ vp_in (T.1 69 0) 40 ∧ Q (((T.1 69 0) + (1 : Int32)) - (1 : Int32)) (tI (tI (tI (tI (tI (tI (tI (tI T 70 ((T.1 69 0).toNatClampNeg) x0) 71 ((T.1 69 0).toNatClampNeg) x1) 72 ((T.1 69 0).toNatClampNeg) x2) 73 ((T.1 69 0).toNatClampNeg) x3) 74 ((T.1 69 0).toNatClampNeg) x4) 75 ((T.1 69 0).toNatClampNeg) x5) 76 ((T.1 69 0).toNatClampNeg) (-1 : Int32)) 69 0 ((T.1 69 0) + (1 : Int32)))) ∧ (¬ (T.1 69 0) < (40 : Int32) → Q (-1 : Int32) T))) : ax_j X 0 [some (.ref 69), some (.int x0), some (.int x1), some (.int x2), some (.int x3), some (.int x4), some (.int x5)] [] (th L sz T) 0 0 := by
  refine ax_aload_n hX dX2_add_0 (Or.inr ⟨_, rfl⟩) rfl ?_
  refine tx_getI hX fRX2_40 ly_69 fk_2_0 (by decide) (Nat.lt_of_lt_of_le (by decide) hsz) dX2_add_1 ?_
  refine ax_bipush hX dX2_add_4 (v := 40) (by decide) ?_
  refine ax_icmp_lt hX dX2_add_6 (tgt := 11) (by decide) (fun c => ?_) (fun c => ?_)
  · replace hyp := hyp.1 c
    refine ax_aload_n hX dX2_add_11 (Or.inr ⟨_, rfl⟩) rfl ?_
    refine tx_getF hX fRX2_9 ly_69 (o := 1) (b := 70) fk_2_1 rfl (by decide) (Nat.lt_of_lt_of_le (by decide) hsz) dX2_add_12 ?_
    refine ax_aload_n hX dX2_add_15 (Or.inr ⟨_, rfl⟩) rfl ?_
    refine tx_getI hX fRX2_40 ly_69 fk_2_0 (by decide) (Nat.lt_of_lt_of_le (by decide) hsz) dX2_add_16 ?_
    refine ax_iload_n hX dX2_add_19 rfl ?_
    refine tx_ias hX ly_70 (by decide) (Nat.lt_of_lt_of_le (by decide) hsz) hyp.1 dX2_add_20 ?_
    replace hyp := hyp.2
    refine ax_aload_n hX dX2_add_21 (Or.inr ⟨_, rfl⟩) rfl ?_
    refine tx_getF hX fRX2_15 ly_69 (o := 2) (b := 71) fk_2_2 rfl (by decide) (Nat.lt_of_lt_of_le (by decide) hsz) dX2_add_22 ?_
    refine ax_aload_n hX dX2_add_25 (Or.inr ⟨_, rfl⟩) rfl ?_
    refine tx_getI hX fRX2_40 ly_69 fk_2_0 (by decide) (Nat.lt_of_lt_of_le (by decide) hsz) dX2_add_26 ?_
    refine ax_iload_n hX dX2_add_29 rfl ?_
    refine tx_ias hX ly_71 (by decide) (Nat.lt_of_lt_of_le (by decide) hsz) hyp.1 dX2_add_30 ?_
    replace hyp := hyp.2
    refine ax_aload_n hX dX2_add_31 (Or.inr ⟨_, rfl⟩) rfl ?_
    refine tx_getF hX fRX2_18 ly_69 (o := 3) (b := 72) fk_2_3 rfl (by decide) (Nat.lt_of_lt_of_le (by decide) hsz) dX2_add_32 ?_
    refine ax_aload_n hX dX2_add_35 (Or.inr ⟨_, rfl⟩) rfl ?_
    refine tx_getI hX fRX2_40 ly_69 fk_2_0 (by decide) (Nat.lt_of_lt_of_le (by decide) hsz) dX2_add_36 ?_
    refine ax_iload_n hX dX2_add_39 rfl ?_
    refine tx_ias hX ly_72 (by decide) (Nat.lt_of_lt_of_le (by decide) hsz) hyp.1 dX2_add_40 ?_
    replace hyp := hyp.2
    refine ax_aload_n hX dX2_add_41 (Or.inr ⟨_, rfl⟩) rfl ?_
    refine tx_getF hX fRX2_21 ly_69 (o := 4) (b := 73) fk_2_4 rfl (by decide) (Nat.lt_of_lt_of_le (by decide) hsz) dX2_add_42 ?_
    refine ax_aload_n hX dX2_add_45 (Or.inr ⟨_, rfl⟩) rfl ?_
    refine tx_getI hX fRX2_40 ly_69 fk_2_0 (by decide) (Nat.lt_of_lt_of_le (by decide) hsz) dX2_add_46 ?_
    refine ax_iload hX dX2_add_49 rfl ?_
    refine tx_ias hX ly_73 (by decide) (Nat.lt_of_lt_of_le (by decide) hsz) hyp.1 dX2_add_51 ?_
    replace hyp := hyp.2
    refine ax_aload_n hX dX2_add_52 (Or.inr ⟨_, rfl⟩) rfl ?_
    refine tx_getF hX fRX2_24 ly_69 (o := 5) (b := 74) fk_2_5 rfl (by decide) (Nat.lt_of_lt_of_le (by decide) hsz) dX2_add_53 ?_
    refine ax_aload_n hX dX2_add_56 (Or.inr ⟨_, rfl⟩) rfl ?_
    refine tx_getI hX fRX2_40 ly_69 fk_2_0 (by decide) (Nat.lt_of_lt_of_le (by decide) hsz) dX2_add_57 ?_
    refine ax_iload hX dX2_add_60 rfl ?_
    refine tx_ias hX ly_74 (by decide) (Nat.lt_of_lt_of_le (by decide) hsz) hyp.1 dX2_add_62 ?_
    replace hyp := hyp.2
    refine ax_aload_n hX dX2_add_63 (Or.inr ⟨_, rfl⟩) rfl ?_
    refine tx_getF hX fRX2_27 ly_69 (o := 6) (b := 75) fk_2_6 rfl (by decide) (Nat.lt_of_lt_of_le (by decide) hsz) dX2_add_64 ?_
    refine ax_aload_n hX dX2_add_67 (Or.inr ⟨_, rfl⟩) rfl ?_
    refine tx_getI hX fRX2_40 ly_69 fk_2_0 (by decide) (Nat.lt_of_lt_of_le (by decide) hsz) dX2_add_68 ?_
    refine ax_iload hX dX2_add_71 rfl ?_
    refine tx_ias hX ly_75 (by decide) (Nat.lt_of_lt_of_le (by decide) hsz) hyp.1 dX2_add_73 ?_
    replace hyp := hyp.2
    refine ax_aload_n hX dX2_add_74 (Or.inr ⟨_, rfl⟩) rfl ?_
    refine tx_getF hX fRX2_30 ly_69 (o := 7) (b := 76) fk_2_7 rfl (by decide) (Nat.lt_of_lt_of_le (by decide) hsz) dX2_add_75 ?_
    refine ax_aload_n hX dX2_add_78 (Or.inr ⟨_, rfl⟩) rfl ?_
    refine tx_getI hX fRX2_40 ly_69 fk_2_0 (by decide) (Nat.lt_of_lt_of_le (by decide) hsz) dX2_add_79 ?_
    refine ax_iconst hX dX2_add_82 (v := -1) (by decide) ?_
    refine tx_ias hX ly_76 (by decide) (Nat.lt_of_lt_of_le (by decide) hsz) hyp.1 dX2_add_83 ?_
    replace hyp := hyp.2
    refine ax_aload_n hX dX2_add_84 (Or.inr ⟨_, rfl⟩) rfl ?_
    refine ax_dup hX dX2_add_85 rfl ?_
    refine tx_getI hX fRX2_40 ly_69 fk_2_0 (by decide) (Nat.lt_of_lt_of_le (by decide) hsz) dX2_add_86 ?_
    refine ax_iconst hX dX2_add_89 (v := 1) (by decide) ?_
    refine ax_iadd hX dX2_add_90 ?_
    refine tx_putI hX fRX2_40 ly_69 fk_2_0 (by decide) (Nat.lt_of_lt_of_le (by decide) hsz) rfl rfl dX2_add_91 ?_
    refine ax_aload_n hX dX2_add_94 (Or.inr ⟨_, rfl⟩) rfl ?_
    refine tx_getI hX fRX2_40 ly_69 fk_2_0 (by decide) (Nat.lt_of_lt_of_le (by decide) hsz) dX2_add_95 ?_
    refine ax_iconst hX dX2_add_98 (v := 1) (by decide) ?_
    refine ax_isub hX dX2_add_99 ?_
    exact hR.1 _ _ _ _ _ _ (by decide) (by decide) dX2_add_100 ⟨_, rfl, rfl⟩ ⟨_, _, rfl, rfl, hyp⟩
  · replace hyp := hyp.2 c
    refine ax_iconst hX dX2_add_9 (v := -1) (by decide) ?_
    exact hR.1 _ _ _ _ _ _ (by decide) (by decide) dX2_add_10 ⟨_, rfl, rfl⟩ ⟨_, _, rfl, rfl, hyp⟩
set_option maxRecDepth 10000 in
theorem s_X2_addPiece_0 {X : ax_X} {d L sz : Nat} {T : tT} {Q : Int32 → tT → Prop} (hX : ax_ok X mX2_addPiece d) (hR : ax_Ret X mX2_addPiece (ti L sz Q)) (hsz : 161 ≤ sz) (x0 : Int32) (x1 : Int64) (hyp : vp_in x0 40 ∧ (((T.1 77 (x0.toNatClampNeg)) < (4 : Int32) → ax_j X 19 [some (.ref 69), some (.int x0), some (.long x1), none, some (.int (T.1 77 (x0.toNatClampNeg))), some (.int (0 : Int32))] [] (th L sz T) 0 0) ∧ (¬ (T.1 77 (x0.toNatClampNeg)) < (4 : Int32) → Q (-1 : Int32) T))) : ax_j X 0 [some (.ref 69), some (.int x0), some (.long x1), none, none, none] [] (th L sz T) 0 0 := by
  refine ax_aload_n hX dX2_addPiece_0 (Or.inr ⟨_, rfl⟩) rfl ?_
  refine tx_getF hX fRX2_33 ly_69 (o := 8) (b := 77) fk_2_8 rfl (by decide) (Nat.lt_of_lt_of_le (by decide) hsz) dX2_addPiece_1 ?_
  refine ax_iload_n hX dX2_addPiece_4 rfl ?_
  refine tx_ial hX ly_77 (by decide) (Nat.lt_of_lt_of_le (by decide) hsz) hyp.1 dX2_addPiece_5 ?_
  replace hyp := hyp.2
  refine ax_istore hX dX2_addPiece_6 (by decide) (L' := [some (.ref 69), some (.int x0), some (.long x1), none, some (.int (T.1 77 (x0.toNatClampNeg))), none]) rfl ?_
  refine ax_iload hX dX2_addPiece_8 rfl ?_
  refine ax_iconst hX dX2_addPiece_10 (v := 4) (by decide) ?_
  refine ax_icmp_lt hX dX2_addPiece_11 (tgt := 16) (by decide) (fun c => ?_) (fun c => ?_)
  · replace hyp := hyp.1 c
    refine ax_iconst hX dX2_addPiece_16 (v := 0) (by decide) ?_
    refine ax_istore hX dX2_addPiece_17 (by decide) (L' := [some (.ref 69), some (.int x0), some (.long x1), none, some (.int (T.1 77 (x0.toNatClampNeg))), some (.int (0 : Int32))]) rfl ?_
    exact ax_forget (L' := [some (.ref 69), some (.int x0), some (.long x1), none, some (.int (T.1 77 (x0.toNatClampNeg))), some (.int (0 : Int32))]) (⟨rfl, ⟨rfl, ⟨rfl, ⟨rfl, ⟨rfl, trivial⟩⟩⟩⟩⟩) hyp
  · replace hyp := hyp.2 c
    refine ax_iconst hX dX2_addPiece_14 (v := -1) (by decide) ?_
    exact hR.1 _ _ _ _ _ _ (by decide) (by decide) dX2_addPiece_15 ⟨_, rfl, rfl⟩ ⟨_, _, rfl, rfl, hyp⟩
set_option maxRecDepth 10000 in
theorem s_X2_addPiece_19 {X : ax_X} {d L sz : Nat} {T : tT} {Q : Int32 → tT → Prop} (hX : ax_ok X mX2_addPiece d) (hR : ax_Ret X mX2_addPiece (ti L sz Q)) (hsz : 161 ≤ sz) (v1 : Int32) (v2 : Int64) (v4 : Int32) (v5 : Int32) (hyp : ((v4 ≤ v5 → vp_in ((v1 * (4 : Int32)) + v4) 160 ∧ vp_in v1 40 ∧ Q (v4 + (1 : Int32)) (tI (tJ T 78 (((v1 * (4 : Int32)) + v4).toNatClampNeg) v2) 77 (v1.toNatClampNeg) (v4 + (1 : Int32)))) ∧ (¬ v4 ≤ v5 → vp_in ((v1 * (4 : Int32)) + v5) 160 ∧ ((¬ (T.2.1 78 ((v1 * (4 : Int32)) + v5).toNatClampNeg) = v2 → ax_j X 19 [some (.ref 69), some (.int v1), some (.long v2), none, some (.int v4), some (.int (v5 + (1 : Int32)))] [] (th L sz T) 0 0) ∧ ((T.2.1 78 ((v1 * (4 : Int32)) + v5).toNatClampNeg) = v2 → Q (-1 : Int32) T))))) : ax_j X 19 [some (.ref 69), some (.int v1), some (.long v2), none, some (.int v4), some (.int v5)] [] (th L sz T) 0 0 := by
  refine ax_iload hX dX2_addPiece_19 rfl ?_
  refine ax_iload hX dX2_addPiece_21 rfl ?_
  refine ax_icmp_ge hX dX2_addPiece_23 (tgt := 50) (by decide) (fun c => ?_) (fun c => ?_)
  · replace hyp := hyp.1 c
    refine ax_aload_n hX dX2_addPiece_50 (Or.inr ⟨_, rfl⟩) rfl ?_
    refine tx_getF hX fRX2_36 ly_69 (o := 9) (b := 78) fk_2_9 rfl (by decide) (Nat.lt_of_lt_of_le (by decide) hsz) dX2_addPiece_51 ?_
    refine ax_iload_n hX dX2_addPiece_54 rfl ?_
    refine ax_iconst hX dX2_addPiece_55 (v := 4) (by decide) ?_
    refine ax_imul hX dX2_addPiece_56 ?_
    refine ax_iload hX dX2_addPiece_57 rfl ?_
    refine ax_iadd hX dX2_addPiece_59 ?_
    refine ax_lload_n hX dX2_addPiece_60 rfl ?_
    refine tx_las hX ly_78 (by decide) (Nat.lt_of_lt_of_le (by decide) hsz) hyp.1 dX2_addPiece_61 ?_
    replace hyp := hyp.2
    refine ax_aload_n hX dX2_addPiece_62 (Or.inr ⟨_, rfl⟩) rfl ?_
    refine tx_getF hX fRX2_33 ly_69 (o := 8) (b := 77) fk_2_8 rfl (by decide) (Nat.lt_of_lt_of_le (by decide) hsz) dX2_addPiece_63 ?_
    refine ax_iload_n hX dX2_addPiece_66 rfl ?_
    refine ax_iload hX dX2_addPiece_67 rfl ?_
    refine ax_iconst hX dX2_addPiece_69 (v := 1) (by decide) ?_
    refine ax_iadd hX dX2_addPiece_70 ?_
    refine tx_ias hX ly_77 (by decide) (Nat.lt_of_lt_of_le (by decide) hsz) hyp.1 dX2_addPiece_71 ?_
    replace hyp := hyp.2
    refine ax_iload hX dX2_addPiece_72 rfl ?_
    refine ax_iconst hX dX2_addPiece_74 (v := 1) (by decide) ?_
    refine ax_iadd hX dX2_addPiece_75 ?_
    exact hR.1 _ _ _ _ _ _ (by decide) (by decide) dX2_addPiece_76 ⟨_, rfl, rfl⟩ ⟨_, _, rfl, rfl, hyp⟩
  · replace hyp := hyp.2 c
    refine ax_aload_n hX dX2_addPiece_26 (Or.inr ⟨_, rfl⟩) rfl ?_
    refine tx_getF hX fRX2_36 ly_69 (o := 9) (b := 78) fk_2_9 rfl (by decide) (Nat.lt_of_lt_of_le (by decide) hsz) dX2_addPiece_27 ?_
    refine ax_iload_n hX dX2_addPiece_30 rfl ?_
    refine ax_iconst hX dX2_addPiece_31 (v := 4) (by decide) ?_
    refine ax_imul hX dX2_addPiece_32 ?_
    refine ax_iload hX dX2_addPiece_33 rfl ?_
    refine ax_iadd hX dX2_addPiece_35 ?_
    refine tx_lal hX ly_78 (by decide) (Nat.lt_of_lt_of_le (by decide) hsz) hyp.1 dX2_addPiece_36 ?_
    replace hyp := hyp.2
    refine ax_lload_n hX dX2_addPiece_37 rfl ?_
    refine tx_lcmp_ne hX dX2_addPiece_38 dX2_addPiece_39 (tgt := 44) (by decide) (fun c => ?_) (fun c => ?_)
    · replace hyp := hyp.1 c
      refine ax_iinc hX dX2_addPiece_44 rfl (w := (v5 + (1 : Int32))) rfl (by decide) (L' := [some (.ref 69), some (.int v1), some (.long v2), none, some (.int v4), some (.int (v5 + (1 : Int32)))]) rfl ?_
      refine ax_goto hX dX2_addPiece_47 (tgt := 19) (by decide) ?_
      exact ax_forget (L' := [some (.ref 69), some (.int v1), some (.long v2), none, some (.int v4), some (.int (v5 + (1 : Int32)))]) (⟨rfl, ⟨rfl, ⟨rfl, ⟨rfl, ⟨rfl, trivial⟩⟩⟩⟩⟩) hyp
    · replace hyp := hyp.2 c
      refine ax_iconst hX dX2_addPiece_42 (v := -1) (by decide) ?_
      exact hR.1 _ _ _ _ _ _ (by decide) (by decide) dX2_addPiece_43 ⟨_, rfl, rfl⟩ ⟨_, _, rfl, rfl, hyp⟩
set_option maxRecDepth 10000 in
theorem s_X2_countIn_0 {X : ax_X} {d L sz : Nat} {T : tT} {Q : Int32 → tT → Prop} (hX : ax_ok X mX2_countIn d) (hR : ax_Ret X mX2_countIn (ti L sz Q)) (hsz : 161 ≤ sz) (x0 : Int32) (hyp : ax_j X 4 [some (.ref 69), some (.int x0), some (.int (0 : Int32)), some (.int (0 : Int32))] [] (th L sz T) 0 0) : ax_j X 0 [some (.ref 69), some (.int x0), none, none] [] (th L sz T) 0 0 := by
  refine ax_iconst hX dX2_countIn_0 (v := 0) (by decide) ?_
  refine ax_istore_n hX dX2_countIn_1 (by decide) (L' := [some (.ref 69), some (.int x0), some (.int (0 : Int32)), none]) rfl ?_
  refine ax_iconst hX dX2_countIn_2 (v := 0) (by decide) ?_
  refine ax_istore_n hX dX2_countIn_3 (by decide) (L' := [some (.ref 69), some (.int x0), some (.int (0 : Int32)), some (.int (0 : Int32))]) rfl ?_
  exact ax_forget (L' := [some (.ref 69), some (.int x0), some (.int (0 : Int32)), some (.int (0 : Int32))]) (⟨rfl, ⟨rfl, ⟨rfl, ⟨rfl, trivial⟩⟩⟩⟩) hyp
set_option maxRecDepth 10000 in
theorem s_X2_countIn_4 {X : ax_X} {d L sz : Nat} {T : tT} {Q : Int32 → tT → Prop} (hX : ax_ok X mX2_countIn d) (hR : ax_Ret X mX2_countIn (ti L sz Q)) (hsz : 161 ≤ sz) (v1 : Int32) (v2 : Int32) (v3 : Int32) (hyp : (((T.1 69 0) ≤ v3 → Q v2 T) ∧ (¬ (T.1 69 0) ≤ v3 → vp_in v3 40 ∧ ((¬ (T.1 76 (v3.toNatClampNeg)) = v1 → ax_j X 4 [some (.ref 69), some (.int v1), some (.int (v2 + (0 : Int32))), some (.int (v3 + (1 : Int32)))] [] (th L sz T) 0 0) ∧ ((T.1 76 (v3.toNatClampNeg)) = v1 → ax_j X 4 [some (.ref 69), some (.int v1), some (.int (v2 + (1 : Int32))), some (.int (v3 + (1 : Int32)))] [] (th L sz T) 0 0))))) : ax_j X 4 [some (.ref 69), some (.int v1), some (.int v2), some (.int v3)] [] (th L sz T) 0 0 := by
  refine ax_iload_n hX dX2_countIn_4 rfl ?_
  refine ax_aload_n hX dX2_countIn_5 (Or.inr ⟨_, rfl⟩) rfl ?_
  refine tx_getI hX fRX2_40 ly_69 fk_2_0 (by decide) (Nat.lt_of_lt_of_le (by decide) hsz) dX2_countIn_6 ?_
  refine ax_icmp_ge hX dX2_countIn_9 (tgt := 36) (by decide) (fun c => ?_) (fun c => ?_)
  · replace hyp := hyp.1 c
    refine ax_iload_n hX dX2_countIn_36 rfl ?_
    exact hR.1 _ _ _ _ _ _ (by decide) (by decide) dX2_countIn_37 ⟨_, rfl, rfl⟩ ⟨_, _, rfl, rfl, hyp⟩
  · replace hyp := hyp.2 c
    refine ax_iload_n hX dX2_countIn_12 rfl ?_
    refine ax_aload_n hX dX2_countIn_13 (Or.inr ⟨_, rfl⟩) rfl ?_
    refine tx_getF hX fRX2_30 ly_69 (o := 7) (b := 76) fk_2_7 rfl (by decide) (Nat.lt_of_lt_of_le (by decide) hsz) dX2_countIn_14 ?_
    refine ax_iload_n hX dX2_countIn_17 rfl ?_
    refine tx_ial hX ly_76 (by decide) (Nat.lt_of_lt_of_le (by decide) hsz) hyp.1 dX2_countIn_18 ?_
    replace hyp := hyp.2
    refine ax_iload_n hX dX2_countIn_19 rfl ?_
    refine ax_icmp_ne hX dX2_countIn_20 (tgt := 27) (by decide) (fun c => ?_) (fun c => ?_)
    · replace hyp := hyp.1 c
      refine ax_iconst hX dX2_countIn_27 (v := 0) (by decide) ?_
      refine ax_iadd hX dX2_countIn_28 ?_
      refine ax_istore_n hX dX2_countIn_29 (by decide) (L' := [some (.ref 69), some (.int v1), some (.int (v2 + (0 : Int32))), some (.int v3)]) rfl ?_
      refine ax_iinc hX dX2_countIn_30 rfl (w := (v3 + (1 : Int32))) rfl (by decide) (L' := [some (.ref 69), some (.int v1), some (.int (v2 + (0 : Int32))), some (.int (v3 + (1 : Int32)))]) rfl ?_
      refine ax_goto hX dX2_countIn_33 (tgt := 4) (by decide) ?_
      exact ax_forget (L' := [some (.ref 69), some (.int v1), some (.int (v2 + (0 : Int32))), some (.int (v3 + (1 : Int32)))]) (⟨rfl, ⟨rfl, ⟨rfl, ⟨rfl, trivial⟩⟩⟩⟩) hyp
    · replace hyp := hyp.2 c
      refine ax_iconst hX dX2_countIn_23 (v := 1) (by decide) ?_
      refine ax_goto hX dX2_countIn_24 (tgt := 28) (by decide) ?_
      refine ax_iadd hX dX2_countIn_28 ?_
      refine ax_istore_n hX dX2_countIn_29 (by decide) (L' := [some (.ref 69), some (.int v1), some (.int (v2 + (1 : Int32))), some (.int v3)]) rfl ?_
      refine ax_iinc hX dX2_countIn_30 rfl (w := (v3 + (1 : Int32))) rfl (by decide) (L' := [some (.ref 69), some (.int v1), some (.int (v2 + (1 : Int32))), some (.int (v3 + (1 : Int32)))]) rfl ?_
      refine ax_goto hX dX2_countIn_33 (tgt := 4) (by decide) ?_
      exact ax_forget (L' := [some (.ref 69), some (.int v1), some (.int (v2 + (1 : Int32))), some (.int (v3 + (1 : Int32)))]) (⟨rfl, ⟨rfl, ⟨rfl, ⟨rfl, trivial⟩⟩⟩⟩) hyp
set_option maxRecDepth 10000 in
theorem s_X2_countListed_0 {X : ax_X} {d L sz : Nat} {T : tT} {Q : Int32 → tT → Prop} (hX : ax_ok X mX2_countListed (d + 1)) (hR : ax_Ret X mX2_countListed (ti L sz Q)) (hsz : 161 ≤ sz) {q : Nat} (h_q : tgr sz q) (x0 : Int32) (x2 : Int32) (hyp : ax_j X 6 [some (.ref 69), some (.int x0), some (.ref q), some (.int x2), some (.int (0 : Int32)), some (.int (0 : Int32))] [] (th L sz T) 0 0) : ax_j X 0 [some (.ref 69), some (.int x0), some (.ref q), some (.int x2), none, none] [] (th L sz T) 0 0 := by
  refine ax_iconst hX dX2_countListed_0 (v := 0) (by decide) ?_
  refine ax_istore hX dX2_countListed_1 (by decide) (L' := [some (.ref 69), some (.int x0), some (.ref q), some (.int x2), some (.int (0 : Int32)), none]) rfl ?_
  refine ax_iconst hX dX2_countListed_3 (v := 0) (by decide) ?_
  refine ax_istore hX dX2_countListed_4 (by decide) (L' := [some (.ref 69), some (.int x0), some (.ref q), some (.int x2), some (.int (0 : Int32)), some (.int (0 : Int32))]) rfl ?_
  exact ax_forget (L' := [some (.ref 69), some (.int x0), some (.ref q), some (.int x2), some (.int (0 : Int32)), some (.int (0 : Int32))]) (⟨rfl, ⟨rfl, ⟨rfl, ⟨rfl, ⟨rfl, ⟨rfl, trivial⟩⟩⟩⟩⟩⟩) hyp
set_option maxRecDepth 10000 in
theorem s_X2_countListed_6 {X : ax_X} {d L sz : Nat} {T : tT} {Q : Int32 → tT → Prop} (hX : ax_ok X mX2_countListed (d + 1)) (hR : ax_Ret X mX2_countListed (ti L sz Q)) (hsz : 161 ≤ sz) {q : Nat} (h_q : tgr sz q) (v1 : Int32) (v3 : Int32) (v4 : Int32) (v5 : Int32) (hyp : vp_in v1 40 ∧ (((T.1 77 (v1.toNatClampNeg)) ≤ v5 → Q v4 T) ∧ (¬ (T.1 77 (v1.toNatClampNeg)) ≤ v5 → vp_in ((v1 * (4 : Int32)) + v5) 160 ∧ ∃ Q1, tiK d mX3_isListed [.ref q, .int v3, .long (T.2.1 78 ((v1 * (4 : Int32)) + v5).toNatClampNeg)] L sz T Q1 ∧ ∀ (r1 : Int32) (T1 : tT), Q1 r1 T1 → (((r1 = 0 → ax_j X 6 [some (.ref 69), some (.int v1), some (.ref q), some (.int v3), some (.int (v4 + (0 : Int32))), some (.int (v5 + (1 : Int32)))] [] (th L sz T1) 0 0) ∧ (¬ r1 = 0 → ax_j X 6 [some (.ref 69), some (.int v1), some (.ref q), some (.int v3), some (.int (v4 + (1 : Int32))), some (.int (v5 + (1 : Int32)))] [] (th L sz T1) 0 0)))))) : ax_j X 6 [some (.ref 69), some (.int v1), some (.ref q), some (.int v3), some (.int v4), some (.int v5)] [] (th L sz T) 0 0 := by
  refine ax_iload hX dX2_countListed_6 rfl ?_
  refine ax_aload_n hX dX2_countListed_8 (Or.inr ⟨_, rfl⟩) rfl ?_
  refine tx_getF hX fRX2_33 ly_69 (o := 8) (b := 77) fk_2_8 rfl (by decide) (Nat.lt_of_lt_of_le (by decide) hsz) dX2_countListed_9 ?_
  refine ax_iload_n hX dX2_countListed_12 rfl ?_
  refine tx_ial hX ly_77 (by decide) (Nat.lt_of_lt_of_le (by decide) hsz) hyp.1 dX2_countListed_13 ?_
  replace hyp := hyp.2
  refine ax_icmp_ge hX dX2_countListed_14 (tgt := 52) (by decide) (fun c => ?_) (fun c => ?_)
  · replace hyp := hyp.1 c
    refine ax_iload hX dX2_countListed_52 rfl ?_
    exact hR.1 _ _ _ _ _ _ (by decide) (by decide) dX2_countListed_54 ⟨_, rfl, rfl⟩ ⟨_, _, rfl, rfl, hyp⟩
  · replace hyp := hyp.2 c
    refine ax_iload hX dX2_countListed_17 rfl ?_
    refine ax_aload_n hX dX2_countListed_19 (Or.inr ⟨_, rfl⟩) rfl ?_
    refine ax_iload_n hX dX2_countListed_20 rfl ?_
    refine ax_aload_n hX dX2_countListed_21 (Or.inr ⟨_, rfl⟩) rfl ?_
    refine tx_getF hX fRX2_36 ly_69 (o := 9) (b := 78) fk_2_9 rfl (by decide) (Nat.lt_of_lt_of_le (by decide) hsz) dX2_countListed_22 ?_
    refine ax_iload_n hX dX2_countListed_25 rfl ?_
    refine ax_iconst hX dX2_countListed_26 (v := 4) (by decide) ?_
    refine ax_imul hX dX2_countListed_27 ?_
    refine ax_iload hX dX2_countListed_28 rfl ?_
    refine ax_iadd hX dX2_countListed_30 ?_
    refine tx_lal hX ly_78 (by decide) (Nat.lt_of_lt_of_le (by decide) hsz) hyp.1 dX2_countListed_31 ?_
    replace hyp := hyp.2
    obtain ⟨Q1, hK, hyp⟩ := hyp
    refine ax_callV hX lRX2_44 im_X3_isListed sl_X3_isListed cw_X3_isListed ((th_at (h_q.ne 0 (by decide)) (h_q.lt 0 (by decide))).trans (tc_ob h_q.ly0)) rfl rfl (A := [.int v3, .long (T.2.1 78 ((v1 * (4 : Int32)) + v5).toNatClampNeg)]) (st := [.int v4]) rfl rfl (Nat.le_of_ble_eq_true rfl) (by decide) (by decide) dX2_countListed_32 hK ?_
    rintro _ _ ⟨r1, T1, rfl, rfl, hq⟩
    replace hyp := hyp r1 T1 hq
    refine ax_if_eq hX dX2_countListed_35 (tgt := 42) (by decide) (fun c => ?_) (fun c => ?_)
    · replace hyp := hyp.1 c
      refine ax_iconst hX dX2_countListed_42 (v := 0) (by decide) ?_
      refine ax_iadd hX dX2_countListed_43 ?_
      refine ax_istore hX dX2_countListed_44 (by decide) (L' := [some (.ref 69), some (.int v1), some (.ref q), some (.int v3), some (.int (v4 + (0 : Int32))), some (.int v5)]) rfl ?_
      refine ax_iinc hX dX2_countListed_46 rfl (w := (v5 + (1 : Int32))) rfl (by decide) (L' := [some (.ref 69), some (.int v1), some (.ref q), some (.int v3), some (.int (v4 + (0 : Int32))), some (.int (v5 + (1 : Int32)))]) rfl ?_
      refine ax_goto hX dX2_countListed_49 (tgt := 6) (by decide) ?_
      exact ax_forget (L' := [some (.ref 69), some (.int v1), some (.ref q), some (.int v3), some (.int (v4 + (0 : Int32))), some (.int (v5 + (1 : Int32)))]) (⟨rfl, ⟨rfl, ⟨rfl, ⟨rfl, ⟨rfl, ⟨rfl, trivial⟩⟩⟩⟩⟩⟩) hyp
    · replace hyp := hyp.2 c
      refine ax_iconst hX dX2_countListed_38 (v := 1) (by decide) ?_
      refine ax_goto hX dX2_countListed_39 (tgt := 43) (by decide) ?_
      refine ax_iadd hX dX2_countListed_43 ?_
      refine ax_istore hX dX2_countListed_44 (by decide) (L' := [some (.ref 69), some (.int v1), some (.ref q), some (.int v3), some (.int (v4 + (1 : Int32))), some (.int v5)]) rfl ?_
      refine ax_iinc hX dX2_countListed_46 rfl (w := (v5 + (1 : Int32))) rfl (by decide) (L' := [some (.ref 69), some (.int v1), some (.ref q), some (.int v3), some (.int (v4 + (1 : Int32))), some (.int (v5 + (1 : Int32)))]) rfl ?_
      refine ax_goto hX dX2_countListed_49 (tgt := 6) (by decide) ?_
      exact ax_forget (L' := [some (.ref 69), some (.int v1), some (.ref q), some (.int v3), some (.int (v4 + (1 : Int32))), some (.int (v5 + (1 : Int32)))]) (⟨rfl, ⟨rfl, ⟨rfl, ⟨rfl, ⟨rfl, ⟨rfl, trivial⟩⟩⟩⟩⟩⟩) hyp
set_option maxRecDepth 10000 in
theorem s_X2_countOwn_0 {X : ax_X} {d L sz : Nat} {T : tT} {Q : Int32 → tT → Prop} (hX : ax_ok X mX2_countOwn (d + 1)) (hR : ax_Ret X mX2_countOwn (ti L sz Q)) (hsz : 161 ≤ sz) {q : Nat} (h_q : tgr sz q) (x0 : Int32) (hyp : ax_j X 5 [some (.ref 69), some (.int x0), some (.ref q), some (.int (0 : Int32)), some (.int (0 : Int32))] [] (th L sz T) 0 0) : ax_j X 0 [some (.ref 69), some (.int x0), some (.ref q), none, none] [] (th L sz T) 0 0 := by
  refine ax_iconst hX dX2_countOwn_0 (v := 0) (by decide) ?_
  refine ax_istore_n hX dX2_countOwn_1 (by decide) (L' := [some (.ref 69), some (.int x0), some (.ref q), some (.int (0 : Int32)), none]) rfl ?_
  refine ax_iconst hX dX2_countOwn_2 (v := 0) (by decide) ?_
  refine ax_istore hX dX2_countOwn_3 (by decide) (L' := [some (.ref 69), some (.int x0), some (.ref q), some (.int (0 : Int32)), some (.int (0 : Int32))]) rfl ?_
  exact ax_forget (L' := [some (.ref 69), some (.int x0), some (.ref q), some (.int (0 : Int32)), some (.int (0 : Int32))]) (⟨rfl, ⟨rfl, ⟨rfl, ⟨rfl, ⟨rfl, trivial⟩⟩⟩⟩⟩) hyp
set_option maxRecDepth 10000 in
theorem s_X2_countOwn_5 {X : ax_X} {d L sz : Nat} {T : tT} {Q : Int32 → tT → Prop} (hX : ax_ok X mX2_countOwn (d + 1)) (hR : ax_Ret X mX2_countOwn (ti L sz Q)) (hsz : 161 ≤ sz) {q : Nat} (h_q : tgr sz q) (v1 : Int32) (v3 : Int32) (v4 : Int32) (hyp : vp_in v1 40 ∧ (((T.1 77 (v1.toNatClampNeg)) ≤ v4 → Q v3 T) ∧ (¬ (T.1 77 (v1.toNatClampNeg)) ≤ v4 → vp_in ((v1 * (4 : Int32)) + v4) 160 ∧ ∃ Q1, tiK d mX3_isListedAnywhere [.ref q, .long (T.2.1 78 ((v1 * (4 : Int32)) + v4).toNatClampNeg)] L sz T Q1 ∧ ∀ (r1 : Int32) (T1 : tT), Q1 r1 T1 → (((r1 = 0 → ax_j X 5 [some (.ref 69), some (.int v1), some (.ref q), some (.int (v3 + (1 : Int32))), some (.int (v4 + (1 : Int32)))] [] (th L sz T1) 0 0) ∧ (¬ r1 = 0 → ax_j X 5 [some (.ref 69), some (.int v1), some (.ref q), some (.int (v3 + (0 : Int32))), some (.int (v4 + (1 : Int32)))] [] (th L sz T1) 0 0)))))) : ax_j X 5 [some (.ref 69), some (.int v1), some (.ref q), some (.int v3), some (.int v4)] [] (th L sz T) 0 0 := by
  refine ax_iload hX dX2_countOwn_5 rfl ?_
  refine ax_aload_n hX dX2_countOwn_7 (Or.inr ⟨_, rfl⟩) rfl ?_
  refine tx_getF hX fRX2_33 ly_69 (o := 8) (b := 77) fk_2_8 rfl (by decide) (Nat.lt_of_lt_of_le (by decide) hsz) dX2_countOwn_8 ?_
  refine ax_iload_n hX dX2_countOwn_11 rfl ?_
  refine tx_ial hX ly_77 (by decide) (Nat.lt_of_lt_of_le (by decide) hsz) hyp.1 dX2_countOwn_12 ?_
  replace hyp := hyp.2
  refine ax_icmp_ge hX dX2_countOwn_13 (tgt := 48) (by decide) (fun c => ?_) (fun c => ?_)
  · replace hyp := hyp.1 c
    refine ax_iload_n hX dX2_countOwn_48 rfl ?_
    exact hR.1 _ _ _ _ _ _ (by decide) (by decide) dX2_countOwn_49 ⟨_, rfl, rfl⟩ ⟨_, _, rfl, rfl, hyp⟩
  · replace hyp := hyp.2 c
    refine ax_iload_n hX dX2_countOwn_16 rfl ?_
    refine ax_aload_n hX dX2_countOwn_17 (Or.inr ⟨_, rfl⟩) rfl ?_
    refine ax_aload_n hX dX2_countOwn_18 (Or.inr ⟨_, rfl⟩) rfl ?_
    refine tx_getF hX fRX2_36 ly_69 (o := 9) (b := 78) fk_2_9 rfl (by decide) (Nat.lt_of_lt_of_le (by decide) hsz) dX2_countOwn_19 ?_
    refine ax_iload_n hX dX2_countOwn_22 rfl ?_
    refine ax_iconst hX dX2_countOwn_23 (v := 4) (by decide) ?_
    refine ax_imul hX dX2_countOwn_24 ?_
    refine ax_iload hX dX2_countOwn_25 rfl ?_
    refine ax_iadd hX dX2_countOwn_27 ?_
    refine tx_lal hX ly_78 (by decide) (Nat.lt_of_lt_of_le (by decide) hsz) hyp.1 dX2_countOwn_28 ?_
    replace hyp := hyp.2
    obtain ⟨Q1, hK, hyp⟩ := hyp
    refine ax_callV hX lRX2_50 im_X3_isListedAnywhere sl_X3_isListedAnywhere cw_X3_isListedAnywhere ((th_at (h_q.ne 0 (by decide)) (h_q.lt 0 (by decide))).trans (tc_ob h_q.ly0)) rfl rfl (A := [.long (T.2.1 78 ((v1 * (4 : Int32)) + v4).toNatClampNeg)]) (st := [.int v3]) rfl rfl (Nat.le_of_ble_eq_true rfl) (by decide) (by decide) dX2_countOwn_29 hK ?_
    rintro _ _ ⟨r1, T1, rfl, rfl, hq⟩
    replace hyp := hyp r1 T1 hq
    refine ax_if_eq hX dX2_countOwn_32 (tgt := 39) (by decide) (fun c => ?_) (fun c => ?_)
    · replace hyp := hyp.1 c
      refine ax_iconst hX dX2_countOwn_39 (v := 1) (by decide) ?_
      refine ax_iadd hX dX2_countOwn_40 ?_
      refine ax_istore_n hX dX2_countOwn_41 (by decide) (L' := [some (.ref 69), some (.int v1), some (.ref q), some (.int (v3 + (1 : Int32))), some (.int v4)]) rfl ?_
      refine ax_iinc hX dX2_countOwn_42 rfl (w := (v4 + (1 : Int32))) rfl (by decide) (L' := [some (.ref 69), some (.int v1), some (.ref q), some (.int (v3 + (1 : Int32))), some (.int (v4 + (1 : Int32)))]) rfl ?_
      refine ax_goto hX dX2_countOwn_45 (tgt := 5) (by decide) ?_
      exact ax_forget (L' := [some (.ref 69), some (.int v1), some (.ref q), some (.int (v3 + (1 : Int32))), some (.int (v4 + (1 : Int32)))]) (⟨rfl, ⟨rfl, ⟨rfl, ⟨rfl, ⟨rfl, trivial⟩⟩⟩⟩⟩) hyp
    · replace hyp := hyp.2 c
      refine ax_iconst hX dX2_countOwn_35 (v := 0) (by decide) ?_
      refine ax_goto hX dX2_countOwn_36 (tgt := 40) (by decide) ?_
      refine ax_iadd hX dX2_countOwn_40 ?_
      refine ax_istore_n hX dX2_countOwn_41 (by decide) (L' := [some (.ref 69), some (.int v1), some (.ref q), some (.int (v3 + (0 : Int32))), some (.int v4)]) rfl ?_
      refine ax_iinc hX dX2_countOwn_42 rfl (w := (v4 + (1 : Int32))) rfl (by decide) (L' := [some (.ref 69), some (.int v1), some (.ref q), some (.int (v3 + (0 : Int32))), some (.int (v4 + (1 : Int32)))]) rfl ?_
      refine ax_goto hX dX2_countOwn_45 (tgt := 5) (by decide) ?_
      exact ax_forget (L' := [some (.ref 69), some (.int v1), some (.ref q), some (.int (v3 + (0 : Int32))), some (.int (v4 + (1 : Int32)))]) (⟨rfl, ⟨rfl, ⟨rfl, ⟨rfl, ⟨rfl, trivial⟩⟩⟩⟩⟩) hyp
set_option maxRecDepth 10000 in
theorem s_X2_has_0 {X : ax_X} {d L sz : Nat} {T : tT} {Q : Int32 → tT → Prop} (hX : ax_ok X mX2_has d) (hR : ax_Ret X mX2_has (ti L sz Q)) (hsz : 161 ≤ sz) (x0 : Int32) (hyp : ((x0 < 0 → Q (0 : Int32) T) ∧ (¬ x0 < 0 → (((T.1 69 0) ≤ x0 → Q (0 : Int32) T) ∧ (¬ (T.1 69 0) ≤ x0 → Q (1 : Int32) T))))) : ax_j X 0 [some (.ref 69), some (.int x0)] [] (th L sz T) 0 0 := by
  refine ax_iload_n hX dX2_has_0 rfl ?_
  refine ax_if_lt hX dX2_has_1 (tgt := 16) (by decide) (fun c => ?_) (fun c => ?_)
  · replace hyp := hyp.1 c
    refine ax_iconst hX dX2_has_16 (v := 0) (by decide) ?_
    exact hR.1 _ _ _ _ _ _ (by decide) (by decide) dX2_has_17 ⟨_, rfl, rfl⟩ ⟨_, _, rfl, rfl, hyp⟩
  · replace hyp := hyp.2 c
    refine ax_iload_n hX dX2_has_4 rfl ?_
    refine ax_aload_n hX dX2_has_5 (Or.inr ⟨_, rfl⟩) rfl ?_
    refine tx_getI hX fRX2_40 ly_69 fk_2_0 (by decide) (Nat.lt_of_lt_of_le (by decide) hsz) dX2_has_6 ?_
    refine ax_icmp_ge hX dX2_has_9 (tgt := 16) (by decide) (fun c => ?_) (fun c => ?_)
    · replace hyp := hyp.1 c
      refine ax_iconst hX dX2_has_16 (v := 0) (by decide) ?_
      exact hR.1 _ _ _ _ _ _ (by decide) (by decide) dX2_has_17 ⟨_, rfl, rfl⟩ ⟨_, _, rfl, rfl, hyp⟩
    · replace hyp := hyp.2 c
      refine ax_iconst hX dX2_has_12 (v := 1) (by decide) ?_
      refine ax_goto hX dX2_has_13 (tgt := 17) (by decide) ?_
      exact hR.1 _ _ _ _ _ _ (by decide) (by decide) dX2_has_17 ⟨_, rfl, rfl⟩ ⟨_, _, rfl, rfl, hyp⟩
set_option maxRecDepth 10000 in
theorem s_X3_addList_0 {X : ax_X} {d L sz : Nat} {T : tT} {Q : tT → Prop} (hX : ax_ok X mX3_addList d) (hR : ax_Ret X mX3_addList (tv L sz Q)) (hsz : 161 ≤ sz) {q : Nat} (h_q : tgr sz q) (x0 : Int64) (hyp : (((6 : Int32) ≤ (T.1 q 1) → Q T) ∧ (¬ (6 : Int32) ≤ (T.1 q 1) → vp_in (T.1 q 1) 6 ∧ vp_in (T.1 q 1) 6 ∧ Q (tI (tI (tJ T (q + 1) ((T.1 q 1).toNatClampNeg) x0) (q + 2) ((T.1 q 1).toNatClampNeg) (0 : Int32)) q 1 (((tI (tJ T (q + 1) ((T.1 q 1).toNatClampNeg) x0) (q + 2) ((T.1 q 1).toNatClampNeg) (0 : Int32)).1 q 1) + (1 : Int32)))))) : ax_j X 0 [some (.ref q), some (.long x0), none] [] (th L sz T) 0 0 := by
  refine ax_aload_n hX dX3_addList_0 (Or.inr ⟨_, rfl⟩) rfl ?_
  refine tx_getI hX fRX3_35 h_q.ly0 fk_3_1 (h_q.ne 0 (by decide)) (h_q.lt 0 (by decide)) dX3_addList_1 ?_
  refine ax_bipush hX dX3_addList_4 (v := 6) (by decide) ?_
  refine ax_icmp_ge hX dX3_addList_6 (tgt := 39) (by decide) (fun c => ?_) (fun c => ?_)
  · replace hyp := hyp.1 c
    exact hR.2.2.2 _ _ _ _ _ (by decide) (by decide) dX3_addList_39 rfl ⟨_, rfl, rfl, hyp⟩
  · replace hyp := hyp.2 c
    refine ax_aload_n hX dX3_addList_9 (Or.inr ⟨_, rfl⟩) rfl ?_
    refine tx_getF hX fRX3_9 h_q.ly0 (o := 1) (b := (q + 1)) fk_3_7 rfl (h_q.ne 0 (by decide)) (h_q.lt 0 (by decide)) dX3_addList_10 ?_
    refine ax_aload_n hX dX3_addList_13 (Or.inr ⟨_, rfl⟩) rfl ?_
    refine tx_getI hX fRX3_35 h_q.ly0 fk_3_1 (h_q.ne 0 (by decide)) (h_q.lt 0 (by decide)) dX3_addList_14 ?_
    refine ax_lload_n hX dX3_addList_17 rfl ?_
    refine tx_las hX h_q.ly1 (h_q.ge 1) (h_q.lt 1 (by decide)) hyp.1 dX3_addList_18 ?_
    replace hyp := hyp.2
    refine ax_aload_n hX dX3_addList_19 (Or.inr ⟨_, rfl⟩) rfl ?_
    refine tx_getF hX fRX3_15 h_q.ly0 (o := 2) (b := (q + 2)) fk_3_8 rfl (h_q.ne 0 (by decide)) (h_q.lt 0 (by decide)) dX3_addList_20 ?_
    refine ax_aload_n hX dX3_addList_23 (Or.inr ⟨_, rfl⟩) rfl ?_
    refine tx_getI hX fRX3_35 h_q.ly0 fk_3_1 (h_q.ne 0 (by decide)) (h_q.lt 0 (by decide)) dX3_addList_24 ?_
    refine ax_iconst hX dX3_addList_27 (v := 0) (by decide) ?_
    refine tx_ias hX h_q.ly2 (h_q.ge 2) (h_q.lt 2 (by decide)) hyp.1 dX3_addList_28 ?_
    replace hyp := hyp.2
    refine ax_aload_n hX dX3_addList_29 (Or.inr ⟨_, rfl⟩) rfl ?_
    refine ax_dup hX dX3_addList_30 rfl ?_
    refine tx_getI hX fRX3_35 h_q.ly0 fk_3_1 (h_q.ne 0 (by decide)) (h_q.lt 0 (by decide)) dX3_addList_31 ?_
    refine ax_iconst hX dX3_addList_34 (v := 1) (by decide) ?_
    refine ax_iadd hX dX3_addList_35 ?_
    refine tx_putI hX fRX3_35 h_q.ly0 fk_3_1 (h_q.ge 0) (h_q.lt 0 (by decide)) rfl rfl dX3_addList_36 ?_
    exact hR.2.2.2 _ _ _ _ _ (by decide) (by decide) dX3_addList_39 rfl ⟨_, rfl, rfl, hyp⟩
set_option maxRecDepth 10000 in
theorem s_X3_addListed_0 {X : ax_X} {d L sz : Nat} {T : tT} {Q : tT → Prop} (hX : ax_ok X mX3_addListed d) (hR : ax_Ret X mX3_addListed (tv L sz Q)) (hsz : 161 ≤ sz) {q : Nat} (h_q : tgr sz q) (x0 : Int64) (hyp : ((((T.1 q 1) - (1 : Int32)) < 0 → Q T) ∧ (¬ ((T.1 q 1) - (1 : Int32)) < 0 → vp_in ((T.1 q 1) - (1 : Int32)) 6 ∧ (((12 : Int32) ≤ (T.1 (q + 2) ((T.1 q 1) - (1 : Int32)).toNatClampNeg) → Q T) ∧ (¬ (12 : Int32) ≤ (T.1 (q + 2) ((T.1 q 1) - (1 : Int32)).toNatClampNeg) → vp_in ((T.1 q 1) - (1 : Int32)) 6 ∧ vp_in ((((T.1 q 1) - (1 : Int32)) * (12 : Int32)) + (T.1 (q + 2) ((T.1 q 1) - (1 : Int32)).toNatClampNeg)) 72 ∧ vp_in ((T.1 q 1) - (1 : Int32)) 6 ∧ vp_in ((T.1 q 1) - (1 : Int32)) 6 ∧ Q (tI (tJ T (q + 3) (((((T.1 q 1) - (1 : Int32)) * (12 : Int32)) + (T.1 (q + 2) ((T.1 q 1) - (1 : Int32)).toNatClampNeg)).toNatClampNeg) x0) (q + 2) (((T.1 q 1) - (1 : Int32)).toNatClampNeg) ((T.1 (q + 2) ((T.1 q 1) - (1 : Int32)).toNatClampNeg) + (1 : Int32)))))))) : ax_j X 0 [some (.ref q), some (.long x0), none, none] [] (th L sz T) 0 0 := by
  refine ax_aload_n hX dX3_addListed_0 (Or.inr ⟨_, rfl⟩) rfl ?_
  refine tx_getI hX fRX3_35 h_q.ly0 fk_3_1 (h_q.ne 0 (by decide)) (h_q.lt 0 (by decide)) dX3_addListed_1 ?_
  refine ax_iconst hX dX3_addListed_4 (v := 1) (by decide) ?_
  refine ax_isub hX dX3_addListed_5 ?_
  refine ax_istore_n hX dX3_addListed_6 (by decide) (L' := [some (.ref q), some (.long x0), none, some (.int ((T.1 q 1) - (1 : Int32)))]) rfl ?_
  refine ax_iload_n hX dX3_addListed_7 rfl ?_
  refine ax_if_lt hX dX3_addListed_8 (tgt := 49) (by decide) (fun c => ?_) (fun c => ?_)
  · replace hyp := hyp.1 c
    exact hR.2.2.2 _ _ _ _ _ (by decide) (by decide) dX3_addListed_49 rfl ⟨_, rfl, rfl, hyp⟩
  · replace hyp := hyp.2 c
    refine ax_aload_n hX dX3_addListed_11 (Or.inr ⟨_, rfl⟩) rfl ?_
    refine tx_getF hX fRX3_15 h_q.ly0 (o := 2) (b := (q + 2)) fk_3_8 rfl (h_q.ne 0 (by decide)) (h_q.lt 0 (by decide)) dX3_addListed_12 ?_
    refine ax_iload_n hX dX3_addListed_15 rfl ?_
    refine tx_ial hX h_q.ly2 (h_q.ne 2 (by decide)) (h_q.lt 2 (by decide)) hyp.1 dX3_addListed_16 ?_
    replace hyp := hyp.2
    refine ax_bipush hX dX3_addListed_17 (v := 12) (by decide) ?_
    refine ax_icmp_ge hX dX3_addListed_19 (tgt := 49) (by decide) (fun c => ?_) (fun c => ?_)
    · replace hyp := hyp.1 c
      exact hR.2.2.2 _ _ _ _ _ (by decide) (by decide) dX3_addListed_49 rfl ⟨_, rfl, rfl, hyp⟩
    · replace hyp := hyp.2 c
      refine ax_aload_n hX dX3_addListed_22 (Or.inr ⟨_, rfl⟩) rfl ?_
      refine tx_getF hX fRX3_19 h_q.ly0 (o := 3) (b := (q + 3)) fk_3_9 rfl (h_q.ne 0 (by decide)) (h_q.lt 0 (by decide)) dX3_addListed_23 ?_
      refine ax_iload_n hX dX3_addListed_26 rfl ?_
      refine ax_bipush hX dX3_addListed_27 (v := 12) (by decide) ?_
      refine ax_imul hX dX3_addListed_29 ?_
      refine ax_aload_n hX dX3_addListed_30 (Or.inr ⟨_, rfl⟩) rfl ?_
      refine tx_getF hX fRX3_15 h_q.ly0 (o := 2) (b := (q + 2)) fk_3_8 rfl (h_q.ne 0 (by decide)) (h_q.lt 0 (by decide)) dX3_addListed_31 ?_
      refine ax_iload_n hX dX3_addListed_34 rfl ?_
      refine tx_ial hX h_q.ly2 (h_q.ne 2 (by decide)) (h_q.lt 2 (by decide)) hyp.1 dX3_addListed_35 ?_
      replace hyp := hyp.2
      refine ax_iadd hX dX3_addListed_36 ?_
      refine ax_lload_n hX dX3_addListed_37 rfl ?_
      refine tx_las hX h_q.ly3 (h_q.ge 3) (h_q.lt 3 (by decide)) hyp.1 dX3_addListed_38 ?_
      replace hyp := hyp.2
      refine ax_aload_n hX dX3_addListed_39 (Or.inr ⟨_, rfl⟩) rfl ?_
      refine tx_getF hX fRX3_15 h_q.ly0 (o := 2) (b := (q + 2)) fk_3_8 rfl (h_q.ne 0 (by decide)) (h_q.lt 0 (by decide)) dX3_addListed_40 ?_
      refine ax_iload_n hX dX3_addListed_43 rfl ?_
      refine ax_dup2 hX dX3_addListed_44 rfl rfl ?_
      refine tx_ial hX h_q.ly2 (h_q.ne 2 (by decide)) (h_q.lt 2 (by decide)) hyp.1 dX3_addListed_45 ?_
      replace hyp := hyp.2
      refine ax_iconst hX dX3_addListed_46 (v := 1) (by decide) ?_
      refine ax_iadd hX dX3_addListed_47 ?_
      refine tx_ias hX h_q.ly2 (h_q.ge 2) (h_q.lt 2 (by decide)) hyp.1 dX3_addListed_48 ?_
      replace hyp := hyp.2
      exact hR.2.2.2 _ _ _ _ _ (by decide) (by decide) dX3_addListed_49 rfl ⟨_, rfl, rfl, hyp⟩
set_option maxRecDepth 10000 in
theorem s_X3_addPart_0 {X : ax_X} {d L sz : Nat} {T : tT} {Q : tT → Prop} (hX : ax_ok X mX3_addPart d) (hR : ax_Ret X mX3_addPart (tv L sz Q)) (hsz : 161 ≤ sz) {q : Nat} (h_q : tgr sz q) (x0 : Int64) (x1 : Int32) (hyp : (((6 : Int32) ≤ (T.1 q 2) → Q T) ∧ (¬ (6 : Int32) ≤ (T.1 q 2) → vp_in (T.1 q 2) 6 ∧ vp_in (T.1 q 2) 6 ∧ Q (tI (tI (tJ T (q + 4) ((T.1 q 2).toNatClampNeg) x0) (q + 5) ((T.1 q 2).toNatClampNeg) x1) q 2 (((tI (tJ T (q + 4) ((T.1 q 2).toNatClampNeg) x0) (q + 5) ((T.1 q 2).toNatClampNeg) x1).1 q 2) + (1 : Int32)))))) : ax_j X 0 [some (.ref q), some (.long x0), none, some (.int x1)] [] (th L sz T) 0 0 := by
  refine ax_aload_n hX dX3_addPart_0 (Or.inr ⟨_, rfl⟩) rfl ?_
  refine tx_getI hX fRX3_39 h_q.ly0 fk_3_2 (h_q.ne 0 (by decide)) (h_q.lt 0 (by decide)) dX3_addPart_1 ?_
  refine ax_bipush hX dX3_addPart_4 (v := 6) (by decide) ?_
  refine ax_icmp_ge hX dX3_addPart_6 (tgt := 39) (by decide) (fun c => ?_) (fun c => ?_)
  · replace hyp := hyp.1 c
    exact hR.2.2.2 _ _ _ _ _ (by decide) (by decide) dX3_addPart_39 rfl ⟨_, rfl, rfl, hyp⟩
  · replace hyp := hyp.2 c
    refine ax_aload_n hX dX3_addPart_9 (Or.inr ⟨_, rfl⟩) rfl ?_
    refine tx_getF hX fRX3_22 h_q.ly0 (o := 4) (b := (q + 4)) fk_3_10 rfl (h_q.ne 0 (by decide)) (h_q.lt 0 (by decide)) dX3_addPart_10 ?_
    refine ax_aload_n hX dX3_addPart_13 (Or.inr ⟨_, rfl⟩) rfl ?_
    refine tx_getI hX fRX3_39 h_q.ly0 fk_3_2 (h_q.ne 0 (by decide)) (h_q.lt 0 (by decide)) dX3_addPart_14 ?_
    refine ax_lload_n hX dX3_addPart_17 rfl ?_
    refine tx_las hX h_q.ly4 (h_q.ge 4) (h_q.lt 4 (by decide)) hyp.1 dX3_addPart_18 ?_
    replace hyp := hyp.2
    refine ax_aload_n hX dX3_addPart_19 (Or.inr ⟨_, rfl⟩) rfl ?_
    refine tx_getF hX fRX3_25 h_q.ly0 (o := 5) (b := (q + 5)) fk_3_11 rfl (h_q.ne 0 (by decide)) (h_q.lt 0 (by decide)) dX3_addPart_20 ?_
    refine ax_aload_n hX dX3_addPart_23 (Or.inr ⟨_, rfl⟩) rfl ?_
    refine tx_getI hX fRX3_39 h_q.ly0 fk_3_2 (h_q.ne 0 (by decide)) (h_q.lt 0 (by decide)) dX3_addPart_24 ?_
    refine ax_iload_n hX dX3_addPart_27 rfl ?_
    refine tx_ias hX h_q.ly5 (h_q.ge 5) (h_q.lt 5 (by decide)) hyp.1 dX3_addPart_28 ?_
    replace hyp := hyp.2
    refine ax_aload_n hX dX3_addPart_29 (Or.inr ⟨_, rfl⟩) rfl ?_
    refine ax_dup hX dX3_addPart_30 rfl ?_
    refine tx_getI hX fRX3_39 h_q.ly0 fk_3_2 (h_q.ne 0 (by decide)) (h_q.lt 0 (by decide)) dX3_addPart_31 ?_
    refine ax_iconst hX dX3_addPart_34 (v := 1) (by decide) ?_
    refine ax_iadd hX dX3_addPart_35 ?_
    refine tx_putI hX fRX3_39 h_q.ly0 fk_3_2 (h_q.ge 0) (h_q.lt 0 (by decide)) rfl rfl dX3_addPart_36 ?_
    exact hR.2.2.2 _ _ _ _ _ (by decide) (by decide) dX3_addPart_39 rfl ⟨_, rfl, rfl, hyp⟩
set_option maxRecDepth 10000 in
theorem s_X3_addRule_0 {X : ax_X} {d L sz : Nat} {T : tT} {Q : tT → Prop} (hX : ax_ok X mX3_addRule d) (hR : ax_Ret X mX3_addRule (tv L sz Q)) (hsz : 161 ≤ sz) {q : Nat} (h_q : tgr sz q) (x0 : Int32) (x1 : Int32) (hyp : ((¬ x0 = (205 : Int32) → ((¬ x0 = (206 : Int32) → (((8 : Int32) ≤ (T.1 q 3) → Q T) ∧ (¬ (8 : Int32) ≤ (T.1 q 3) → vp_in (T.1 q 3) 8 ∧ Q (tI (tI T (q + 6) ((T.1 q 3).toNatClampNeg) x1) q 3 (((tI T (q + 6) ((T.1 q 3).toNatClampNeg) x1).1 q 3) + (1 : Int32)))))) ∧ (x0 = (206 : Int32) → Q (tI T q 6 x1)))) ∧ (x0 = (205 : Int32) → Q (tI T q 5 x1)))) : ax_j X 0 [some (.ref q), some (.int x0), some (.int x1)] [] (th L sz T) 0 0 := by
  refine ax_iload_n hX dX3_addRule_0 rfl ?_
  refine ax_sipush hX dX3_addRule_1 (v := 205) (by decide) ?_
  refine ax_icmp_ne hX dX3_addRule_4 (tgt := 15) (by decide) (fun c => ?_) (fun c => ?_)
  · replace hyp := hyp.1 c
    refine ax_iload_n hX dX3_addRule_15 rfl ?_
    refine ax_sipush hX dX3_addRule_16 (v := 206) (by decide) ?_
    refine ax_icmp_ne hX dX3_addRule_19 (tgt := 30) (by decide) (fun c => ?_) (fun c => ?_)
    · replace hyp := hyp.1 c
      refine ax_aload_n hX dX3_addRule_30 (Or.inr ⟨_, rfl⟩) rfl ?_
      refine tx_getI hX fRX3_42 h_q.ly0 fk_3_3 (h_q.ne 0 (by decide)) (h_q.lt 0 (by decide)) dX3_addRule_31 ?_
      refine ax_bipush hX dX3_addRule_34 (v := 8) (by decide) ?_
      refine ax_icmp_ge hX dX3_addRule_36 (tgt := 59) (by decide) (fun c => ?_) (fun c => ?_)
      · replace hyp := hyp.1 c
        exact hR.2.2.2 _ _ _ _ _ (by decide) (by decide) dX3_addRule_59 rfl ⟨_, rfl, rfl, hyp⟩
      · replace hyp := hyp.2 c
        refine ax_aload_n hX dX3_addRule_39 (Or.inr ⟨_, rfl⟩) rfl ?_
        refine tx_getF hX fRX3_28 h_q.ly0 (o := 6) (b := (q + 6)) fk_3_12 rfl (h_q.ne 0 (by decide)) (h_q.lt 0 (by decide)) dX3_addRule_40 ?_
        refine ax_aload_n hX dX3_addRule_43 (Or.inr ⟨_, rfl⟩) rfl ?_
        refine tx_getI hX fRX3_42 h_q.ly0 fk_3_3 (h_q.ne 0 (by decide)) (h_q.lt 0 (by decide)) dX3_addRule_44 ?_
        refine ax_iload_n hX dX3_addRule_47 rfl ?_
        refine tx_ias hX h_q.ly6 (h_q.ge 6) (h_q.lt 6 (by decide)) hyp.1 dX3_addRule_48 ?_
        replace hyp := hyp.2
        refine ax_aload_n hX dX3_addRule_49 (Or.inr ⟨_, rfl⟩) rfl ?_
        refine ax_dup hX dX3_addRule_50 rfl ?_
        refine tx_getI hX fRX3_42 h_q.ly0 fk_3_3 (h_q.ne 0 (by decide)) (h_q.lt 0 (by decide)) dX3_addRule_51 ?_
        refine ax_iconst hX dX3_addRule_54 (v := 1) (by decide) ?_
        refine ax_iadd hX dX3_addRule_55 ?_
        refine tx_putI hX fRX3_42 h_q.ly0 fk_3_3 (h_q.ge 0) (h_q.lt 0 (by decide)) rfl rfl dX3_addRule_56 ?_
        exact hR.2.2.2 _ _ _ _ _ (by decide) (by decide) dX3_addRule_59 rfl ⟨_, rfl, rfl, hyp⟩
    · replace hyp := hyp.2 c
      refine ax_aload_n hX dX3_addRule_22 (Or.inr ⟨_, rfl⟩) rfl ?_
      refine ax_iload_n hX dX3_addRule_23 rfl ?_
      refine tx_putI hX fRX3_51 h_q.ly0 fk_3_6 (h_q.ge 0) (h_q.lt 0 (by decide)) rfl rfl dX3_addRule_24 ?_
      refine ax_goto hX dX3_addRule_27 (tgt := 59) (by decide) ?_
      exact hR.2.2.2 _ _ _ _ _ (by decide) (by decide) dX3_addRule_59 rfl ⟨_, rfl, rfl, hyp⟩
  · replace hyp := hyp.2 c
    refine ax_aload_n hX dX3_addRule_7 (Or.inr ⟨_, rfl⟩) rfl ?_
    refine ax_iload_n hX dX3_addRule_8 rfl ?_
    refine tx_putI hX fRX3_48 h_q.ly0 fk_3_5 (h_q.ge 0) (h_q.lt 0 (by decide)) rfl rfl dX3_addRule_9 ?_
    refine ax_goto hX dX3_addRule_12 (tgt := 59) (by decide) ?_
    exact hR.2.2.2 _ _ _ _ _ (by decide) (by decide) dX3_addRule_59 rfl ⟨_, rfl, rfl, hyp⟩
set_option maxRecDepth 10000 in
theorem s_X3_clear_0 {X : ax_X} {d L sz : Nat} {T : tT} {Q : tT → Prop} (hX : ax_ok X mX3_clear d) (hR : ax_Ret X mX3_clear (tv L sz Q)) (hsz : 161 ≤ sz) {q : Nat} (h_q : tgr sz q)  (hyp : Q (tI (tI (tI (tI (tI (tI (tI T q 0 (0 : Int32)) q 1 (0 : Int32)) q 2 (0 : Int32)) q 3 (0 : Int32)) q 4 (0 : Int32)) q 5 (-1 : Int32)) q 6 (-1 : Int32))) : ax_j X 0 [some (.ref q)] [] (th L sz T) 0 0 := by
  refine ax_aload_n hX dX3_clear_0 (Or.inr ⟨_, rfl⟩) rfl ?_
  refine ax_iconst hX dX3_clear_1 (v := 0) (by decide) ?_
  refine tx_putI hX fRX3_31 h_q.ly0 fk_3_0 (h_q.ge 0) (h_q.lt 0 (by decide)) rfl rfl dX3_clear_2 ?_
  refine ax_aload_n hX dX3_clear_5 (Or.inr ⟨_, rfl⟩) rfl ?_
  refine ax_iconst hX dX3_clear_6 (v := 0) (by decide) ?_
  refine tx_putI hX fRX3_35 h_q.ly0 fk_3_1 (h_q.ge 0) (h_q.lt 0 (by decide)) rfl rfl dX3_clear_7 ?_
  refine ax_aload_n hX dX3_clear_10 (Or.inr ⟨_, rfl⟩) rfl ?_
  refine ax_iconst hX dX3_clear_11 (v := 0) (by decide) ?_
  refine tx_putI hX fRX3_39 h_q.ly0 fk_3_2 (h_q.ge 0) (h_q.lt 0 (by decide)) rfl rfl dX3_clear_12 ?_
  refine ax_aload_n hX dX3_clear_15 (Or.inr ⟨_, rfl⟩) rfl ?_
  refine ax_iconst hX dX3_clear_16 (v := 0) (by decide) ?_
  refine tx_putI hX fRX3_42 h_q.ly0 fk_3_3 (h_q.ge 0) (h_q.lt 0 (by decide)) rfl rfl dX3_clear_17 ?_
  refine ax_aload_n hX dX3_clear_20 (Or.inr ⟨_, rfl⟩) rfl ?_
  refine ax_iconst hX dX3_clear_21 (v := 0) (by decide) ?_
  refine tx_putI hX fRX3_45 h_q.ly0 fk_3_4 (h_q.ge 0) (h_q.lt 0 (by decide)) rfl rfl dX3_clear_22 ?_
  refine ax_aload_n hX dX3_clear_25 (Or.inr ⟨_, rfl⟩) rfl ?_
  refine ax_iconst hX dX3_clear_26 (v := -1) (by decide) ?_
  refine tx_putI hX fRX3_48 h_q.ly0 fk_3_5 (h_q.ge 0) (h_q.lt 0 (by decide)) rfl rfl dX3_clear_27 ?_
  refine ax_aload_n hX dX3_clear_30 (Or.inr ⟨_, rfl⟩) rfl ?_
  refine ax_iconst hX dX3_clear_31 (v := -1) (by decide) ?_
  refine tx_putI hX fRX3_51 h_q.ly0 fk_3_6 (h_q.ge 0) (h_q.lt 0 (by decide)) rfl rfl dX3_clear_32 ?_
  exact hR.2.2.2 _ _ _ _ _ (by decide) (by decide) dX3_clear_35 rfl ⟨_, rfl, rfl, hyp⟩
set_option maxRecDepth 10000 in
theorem s_X3_find_0 {X : ax_X} {d L sz : Nat} {T : tT} {Q : Int32 → tT → Prop} (hX : ax_ok X mX3_find d) (hR : ax_Ret X mX3_find (ti L sz Q)) (hsz : 161 ≤ sz) {u : Nat} (h_u : tar sz u 1 6) (x1 : Int32) (x2 : Int64) (hyp : ax_j X 3 [some (.ref u), some (.int x1), some (.long x2), none, some (.int (0 : Int32))] [] (th L sz T) 0 0) : ax_j X 0 [some (.ref u), some (.int x1), some (.long x2), none, none] [] (th L sz T) 0 0 := by
  refine ax_iconst hX dX3_find_0 (v := 0) (by decide) ?_
  refine ax_istore hX dX3_find_1 (by decide) (L' := [some (.ref u), some (.int x1), some (.long x2), none, some (.int (0 : Int32))]) rfl ?_
  exact ax_forget (L' := [some (.ref u), some (.int x1), some (.long x2), none, some (.int (0 : Int32))]) (⟨rfl, ⟨rfl, ⟨rfl, ⟨rfl, trivial⟩⟩⟩⟩) hyp
set_option maxRecDepth 10000 in
theorem s_X3_find_3 {X : ax_X} {d L sz : Nat} {T : tT} {Q : Int32 → tT → Prop} (hX : ax_ok X mX3_find d) (hR : ax_Ret X mX3_find (ti L sz Q)) (hsz : 161 ≤ sz) {u : Nat} (h_u : tar sz u 1 6) (v1 : Int32) (v2 : Int64) (v4 : Int32) (hyp : ((v1 ≤ v4 → Q (-1 : Int32) T) ∧ (¬ v1 ≤ v4 → (((nI 6) ≤ v4 → Q (-1 : Int32) T) ∧ (¬ (nI 6) ≤ v4 → vp_in v4 6 ∧ ((¬ (T.2.1 u (v4.toNatClampNeg)) = v2 → ax_j X 3 [some (.ref u), some (.int v1), some (.long v2), none, some (.int (v4 + (1 : Int32)))] [] (th L sz T) 0 0) ∧ ((T.2.1 u (v4.toNatClampNeg)) = v2 → Q v4 T))))))) : ax_j X 3 [some (.ref u), some (.int v1), some (.long v2), none, some (.int v4)] [] (th L sz T) 0 0 := by
  refine ax_iload hX dX3_find_3 rfl ?_
  refine ax_iload_n hX dX3_find_5 rfl ?_
  refine ax_icmp_ge hX dX3_find_6 (tgt := 34) (by decide) (fun c => ?_) (fun c => ?_)
  · replace hyp := hyp.1 c
    refine ax_iconst hX dX3_find_34 (v := -1) (by decide) ?_
    exact hR.1 _ _ _ _ _ _ (by decide) (by decide) dX3_find_35 ⟨_, rfl, rfl⟩ ⟨_, _, rfl, rfl, hyp⟩
  · replace hyp := hyp.2 c
    refine ax_iload hX dX3_find_9 rfl ?_
    refine ax_aload_n hX dX3_find_11 (Or.inr ⟨_, rfl⟩) rfl ?_
    refine tx_len hX h_u.ly h_u.ne h_u.lt dX3_find_12 ?_
    refine ax_icmp_ge hX dX3_find_13 (tgt := 34) (by decide) (fun c => ?_) (fun c => ?_)
    · replace hyp := hyp.1 c
      refine ax_iconst hX dX3_find_34 (v := -1) (by decide) ?_
      exact hR.1 _ _ _ _ _ _ (by decide) (by decide) dX3_find_35 ⟨_, rfl, rfl⟩ ⟨_, _, rfl, rfl, hyp⟩
    · replace hyp := hyp.2 c
      refine ax_aload_n hX dX3_find_16 (Or.inr ⟨_, rfl⟩) rfl ?_
      refine ax_iload hX dX3_find_17 rfl ?_
      refine tx_lal hX h_u.ly h_u.ne h_u.lt hyp.1 dX3_find_19 ?_
      replace hyp := hyp.2
      refine ax_lload_n hX dX3_find_20 rfl ?_
      refine tx_lcmp_ne hX dX3_find_21 dX3_find_22 (tgt := 28) (by decide) (fun c => ?_) (fun c => ?_)
      · replace hyp := hyp.1 c
        refine ax_iinc hX dX3_find_28 rfl (w := (v4 + (1 : Int32))) rfl (by decide) (L' := [some (.ref u), some (.int v1), some (.long v2), none, some (.int (v4 + (1 : Int32)))]) rfl ?_
        refine ax_goto hX dX3_find_31 (tgt := 3) (by decide) ?_
        exact ax_forget (L' := [some (.ref u), some (.int v1), some (.long v2), none, some (.int (v4 + (1 : Int32)))]) (⟨rfl, ⟨rfl, ⟨rfl, ⟨rfl, trivial⟩⟩⟩⟩) hyp
      · replace hyp := hyp.2 c
        refine ax_iload hX dX3_find_25 rfl ?_
        exact hR.1 _ _ _ _ _ _ (by decide) (by decide) dX3_find_27 ⟨_, rfl, rfl⟩ ⟨_, _, rfl, rfl, hyp⟩
set_option maxRecDepth 10000 in
theorem s_X3_findList_0 {X : ax_X} {d L sz : Nat} {T : tT} {Q : Int32 → tT → Prop} (hX : ax_ok X mX3_findList (d + 1)) (hR : ax_Ret X mX3_findList (ti L sz Q)) (hsz : 161 ≤ sz) {q : Nat} (h_q : tgr sz q) (x0 : Int64) (hyp : ∃ Q1, tiK d mX3_find [.ref (q + 1), .int (T.1 q 1), .long x0] L sz T Q1 ∧ ∀ (r1 : Int32) (T1 : tT), Q1 r1 T1 → (Q r1 T1)) : ax_j X 0 [some (.ref q), some (.long x0), none] [] (th L sz T) 0 0 := by
  refine ax_aload_n hX dX3_findList_0 (Or.inr ⟨_, rfl⟩) rfl ?_
  refine tx_getF hX fRX3_9 h_q.ly0 (o := 1) (b := (q + 1)) fk_3_7 rfl (h_q.ne 0 (by decide)) (h_q.lt 0 (by decide)) dX3_findList_1 ?_
  refine ax_aload_n hX dX3_findList_4 (Or.inr ⟨_, rfl⟩) rfl ?_
  refine tx_getI hX fRX3_35 h_q.ly0 fk_3_1 (h_q.ne 0 (by decide)) (h_q.lt 0 (by decide)) dX3_findList_5 ?_
  refine ax_lload_n hX dX3_findList_8 rfl ?_
  obtain ⟨Q1, hK, hyp⟩ := hyp
  refine ax_callS hX lRX3_54 sm_X3_find cw_X3_find (A := [.ref (q + 1), .int (T.1 q 1), .long x0]) (st := []) rfl rfl (Nat.le_of_ble_eq_true rfl) (by decide) (by decide) dX3_findList_9 hK ?_
  rintro _ _ ⟨r1, T1, rfl, rfl, hq⟩
  replace hyp := hyp r1 T1 hq
  exact hR.1 _ _ _ _ _ _ (by decide) (by decide) dX3_findList_12 ⟨_, rfl, rfl⟩ ⟨_, _, rfl, rfl, hyp⟩
set_option maxRecDepth 10000 in
theorem s_X3_findPart_0 {X : ax_X} {d L sz : Nat} {T : tT} {Q : Int32 → tT → Prop} (hX : ax_ok X mX3_findPart (d + 1)) (hR : ax_Ret X mX3_findPart (ti L sz Q)) (hsz : 161 ≤ sz) {q : Nat} (h_q : tgr sz q) (x0 : Int64) (hyp : ∃ Q1, tiK d mX3_find [.ref (q + 4), .int (T.1 q 2), .long x0] L sz T Q1 ∧ ∀ (r1 : Int32) (T1 : tT), Q1 r1 T1 → (Q r1 T1)) : ax_j X 0 [some (.ref q), some (.long x0), none] [] (th L sz T) 0 0 := by
  refine ax_aload_n hX dX3_findPart_0 (Or.inr ⟨_, rfl⟩) rfl ?_
  refine tx_getF hX fRX3_22 h_q.ly0 (o := 4) (b := (q + 4)) fk_3_10 rfl (h_q.ne 0 (by decide)) (h_q.lt 0 (by decide)) dX3_findPart_1 ?_
  refine ax_aload_n hX dX3_findPart_4 (Or.inr ⟨_, rfl⟩) rfl ?_
  refine tx_getI hX fRX3_39 h_q.ly0 fk_3_2 (h_q.ne 0 (by decide)) (h_q.lt 0 (by decide)) dX3_findPart_5 ?_
  refine ax_lload_n hX dX3_findPart_8 rfl ?_
  obtain ⟨Q1, hK, hyp⟩ := hyp
  refine ax_callS hX lRX3_54 sm_X3_find cw_X3_find (A := [.ref (q + 4), .int (T.1 q 2), .long x0]) (st := []) rfl rfl (Nat.le_of_ble_eq_true rfl) (by decide) (by decide) dX3_findPart_9 hK ?_
  rintro _ _ ⟨r1, T1, rfl, rfl, hq⟩
  replace hyp := hyp r1 T1 hq
  exact hR.1 _ _ _ _ _ _ (by decide) (by decide) dX3_findPart_12 ⟨_, rfl, rfl⟩ ⟨_, _, rfl, rfl, hyp⟩
set_option maxRecDepth 10000 in
theorem s_X3_isLastListFull_0 {X : ax_X} {d L sz : Nat} {T : tT} {Q : Int32 → tT → Prop} (hX : ax_ok X mX3_isLastListFull d) (hR : ax_Ret X mX3_isLastListFull (ti L sz Q)) (hsz : 161 ≤ sz) {q : Nat} (h_q : tgr sz q)  (hyp : (((T.1 q 1) ≤ 0 → Q (0 : Int32) T) ∧ (¬ (T.1 q 1) ≤ 0 → vp_in ((T.1 q 1) - (1 : Int32)) 6 ∧ (((T.1 (q + 2) ((T.1 q 1) - (1 : Int32)).toNatClampNeg) < (12 : Int32) → Q (0 : Int32) T) ∧ (¬ (T.1 (q + 2) ((T.1 q 1) - (1 : Int32)).toNatClampNeg) < (12 : Int32) → Q (1 : Int32) T))))) : ax_j X 0 [some (.ref q)] [] (th L sz T) 0 0 := by
  refine ax_aload_n hX dX3_isLastListFull_0 (Or.inr ⟨_, rfl⟩) rfl ?_
  refine tx_getI hX fRX3_35 h_q.ly0 fk_3_1 (h_q.ne 0 (by decide)) (h_q.lt 0 (by decide)) dX3_isLastListFull_1 ?_
  refine ax_if_le hX dX3_isLastListFull_4 (tgt := 27) (by decide) (fun c => ?_) (fun c => ?_)
  · replace hyp := hyp.1 c
    refine ax_iconst hX dX3_isLastListFull_27 (v := 0) (by decide) ?_
    exact hR.1 _ _ _ _ _ _ (by decide) (by decide) dX3_isLastListFull_28 ⟨_, rfl, rfl⟩ ⟨_, _, rfl, rfl, hyp⟩
  · replace hyp := hyp.2 c
    refine ax_aload_n hX dX3_isLastListFull_7 (Or.inr ⟨_, rfl⟩) rfl ?_
    refine tx_getF hX fRX3_15 h_q.ly0 (o := 2) (b := (q + 2)) fk_3_8 rfl (h_q.ne 0 (by decide)) (h_q.lt 0 (by decide)) dX3_isLastListFull_8 ?_
    refine ax_aload_n hX dX3_isLastListFull_11 (Or.inr ⟨_, rfl⟩) rfl ?_
    refine tx_getI hX fRX3_35 h_q.ly0 fk_3_1 (h_q.ne 0 (by decide)) (h_q.lt 0 (by decide)) dX3_isLastListFull_12 ?_
    refine ax_iconst hX dX3_isLastListFull_15 (v := 1) (by decide) ?_
    refine ax_isub hX dX3_isLastListFull_16 ?_
    refine tx_ial hX h_q.ly2 (h_q.ne 2 (by decide)) (h_q.lt 2 (by decide)) hyp.1 dX3_isLastListFull_17 ?_
    replace hyp := hyp.2
    refine ax_bipush hX dX3_isLastListFull_18 (v := 12) (by decide) ?_
    refine ax_icmp_lt hX dX3_isLastListFull_20 (tgt := 27) (by decide) (fun c => ?_) (fun c => ?_)
    · replace hyp := hyp.1 c
      refine ax_iconst hX dX3_isLastListFull_27 (v := 0) (by decide) ?_
      exact hR.1 _ _ _ _ _ _ (by decide) (by decide) dX3_isLastListFull_28 ⟨_, rfl, rfl⟩ ⟨_, _, rfl, rfl, hyp⟩
    · replace hyp := hyp.2 c
      refine ax_iconst hX dX3_isLastListFull_23 (v := 1) (by decide) ?_
      refine ax_goto hX dX3_isLastListFull_24 (tgt := 28) (by decide) ?_
      exact hR.1 _ _ _ _ _ _ (by decide) (by decide) dX3_isLastListFull_28 ⟨_, rfl, rfl⟩ ⟨_, _, rfl, rfl, hyp⟩
set_option maxRecDepth 10000 in
theorem s_X3_isListed_0 {X : ax_X} {d L sz : Nat} {T : tT} {Q : Int32 → tT → Prop} (hX : ax_ok X mX3_isListed d) (hR : ax_Ret X mX3_isListed (ti L sz Q)) (hsz : 161 ≤ sz) {q : Nat} (h_q : tgr sz q) (x0 : Int32) (x1 : Int64) (hyp : ((x0 < 0 → Q (0 : Int32) T) ∧ (¬ x0 < 0 → ((x0 < (T.1 q 1) → ax_j X 17 [some (.ref q), some (.int x0), some (.long x1), none, some (.int (0 : Int32))] [] (th L sz T) 0 0) ∧ (¬ x0 < (T.1 q 1) → Q (0 : Int32) T))))) : ax_j X 0 [some (.ref q), some (.int x0), some (.long x1), none, none] [] (th L sz T) 0 0 := by
  refine ax_iload_n hX dX3_isListed_0 rfl ?_
  refine ax_if_lt hX dX3_isListed_1 (tgt := 12) (by decide) (fun c => ?_) (fun c => ?_)
  · replace hyp := hyp.1 c
    refine ax_iconst hX dX3_isListed_12 (v := 0) (by decide) ?_
    exact hR.1 _ _ _ _ _ _ (by decide) (by decide) dX3_isListed_13 ⟨_, rfl, rfl⟩ ⟨_, _, rfl, rfl, hyp⟩
  · replace hyp := hyp.2 c
    refine ax_iload_n hX dX3_isListed_4 rfl ?_
    refine ax_aload_n hX dX3_isListed_5 (Or.inr ⟨_, rfl⟩) rfl ?_
    refine tx_getI hX fRX3_35 h_q.ly0 fk_3_1 (h_q.ne 0 (by decide)) (h_q.lt 0 (by decide)) dX3_isListed_6 ?_
    refine ax_icmp_lt hX dX3_isListed_9 (tgt := 14) (by decide) (fun c => ?_) (fun c => ?_)
    · replace hyp := hyp.1 c
      refine ax_iconst hX dX3_isListed_14 (v := 0) (by decide) ?_
      refine ax_istore hX dX3_isListed_15 (by decide) (L' := [some (.ref q), some (.int x0), some (.long x1), none, some (.int (0 : Int32))]) rfl ?_
      exact ax_forget (L' := [some (.ref q), some (.int x0), some (.long x1), none, some (.int (0 : Int32))]) (⟨rfl, ⟨rfl, ⟨rfl, ⟨rfl, trivial⟩⟩⟩⟩) hyp
    · replace hyp := hyp.2 c
      refine ax_iconst hX dX3_isListed_12 (v := 0) (by decide) ?_
      exact hR.1 _ _ _ _ _ _ (by decide) (by decide) dX3_isListed_13 ⟨_, rfl, rfl⟩ ⟨_, _, rfl, rfl, hyp⟩
set_option maxRecDepth 10000 in
theorem s_X3_isListed_17 {X : ax_X} {d L sz : Nat} {T : tT} {Q : Int32 → tT → Prop} (hX : ax_ok X mX3_isListed d) (hR : ax_Ret X mX3_isListed (ti L sz Q)) (hsz : 161 ≤ sz) {q : Nat} (h_q : tgr sz q) (v1 : Int32) (v2 : Int64) (v4 : Int32) (hyp : vp_in v1 6 ∧ (((T.1 (q + 2) (v1.toNatClampNeg)) ≤ v4 → Q (0 : Int32) T) ∧ (¬ (T.1 (q + 2) (v1.toNatClampNeg)) ≤ v4 → vp_in ((v1 * (12 : Int32)) + v4) 72 ∧ ((¬ (T.2.1 (q + 3) ((v1 * (12 : Int32)) + v4).toNatClampNeg) = v2 → ax_j X 17 [some (.ref q), some (.int v1), some (.long v2), none, some (.int (v4 + (1 : Int32)))] [] (th L sz T) 0 0) ∧ ((T.2.1 (q + 3) ((v1 * (12 : Int32)) + v4).toNatClampNeg) = v2 → Q (1 : Int32) T))))) : ax_j X 17 [some (.ref q), some (.int v1), some (.long v2), none, some (.int v4)] [] (th L sz T) 0 0 := by
  refine ax_iload hX dX3_isListed_17 rfl ?_
  refine ax_aload_n hX dX3_isListed_19 (Or.inr ⟨_, rfl⟩) rfl ?_
  refine tx_getF hX fRX3_15 h_q.ly0 (o := 2) (b := (q + 2)) fk_3_8 rfl (h_q.ne 0 (by decide)) (h_q.lt 0 (by decide)) dX3_isListed_20 ?_
  refine ax_iload_n hX dX3_isListed_23 rfl ?_
  refine tx_ial hX h_q.ly2 (h_q.ne 2 (by decide)) (h_q.lt 2 (by decide)) hyp.1 dX3_isListed_24 ?_
  replace hyp := hyp.2
  refine ax_icmp_ge hX dX3_isListed_25 (tgt := 53) (by decide) (fun c => ?_) (fun c => ?_)
  · replace hyp := hyp.1 c
    refine ax_iconst hX dX3_isListed_53 (v := 0) (by decide) ?_
    exact hR.1 _ _ _ _ _ _ (by decide) (by decide) dX3_isListed_54 ⟨_, rfl, rfl⟩ ⟨_, _, rfl, rfl, hyp⟩
  · replace hyp := hyp.2 c
    refine ax_aload_n hX dX3_isListed_28 (Or.inr ⟨_, rfl⟩) rfl ?_
    refine tx_getF hX fRX3_19 h_q.ly0 (o := 3) (b := (q + 3)) fk_3_9 rfl (h_q.ne 0 (by decide)) (h_q.lt 0 (by decide)) dX3_isListed_29 ?_
    refine ax_iload_n hX dX3_isListed_32 rfl ?_
    refine ax_bipush hX dX3_isListed_33 (v := 12) (by decide) ?_
    refine ax_imul hX dX3_isListed_35 ?_
    refine ax_iload hX dX3_isListed_36 rfl ?_
    refine ax_iadd hX dX3_isListed_38 ?_
    refine tx_lal hX h_q.ly3 (h_q.ne 3 (by decide)) (h_q.lt 3 (by decide)) hyp.1 dX3_isListed_39 ?_
    replace hyp := hyp.2
    refine ax_lload_n hX dX3_isListed_40 rfl ?_
    refine tx_lcmp_ne hX dX3_isListed_41 dX3_isListed_42 (tgt := 47) (by decide) (fun c => ?_) (fun c => ?_)
    · replace hyp := hyp.1 c
      refine ax_iinc hX dX3_isListed_47 rfl (w := (v4 + (1 : Int32))) rfl (by decide) (L' := [some (.ref q), some (.int v1), some (.long v2), none, some (.int (v4 + (1 : Int32)))]) rfl ?_
      refine ax_goto hX dX3_isListed_50 (tgt := 17) (by decide) ?_
      exact ax_forget (L' := [some (.ref q), some (.int v1), some (.long v2), none, some (.int (v4 + (1 : Int32)))]) (⟨rfl, ⟨rfl, ⟨rfl, ⟨rfl, trivial⟩⟩⟩⟩) hyp
    · replace hyp := hyp.2 c
      refine ax_iconst hX dX3_isListed_45 (v := 1) (by decide) ?_
      exact hR.1 _ _ _ _ _ _ (by decide) (by decide) dX3_isListed_46 ⟨_, rfl, rfl⟩ ⟨_, _, rfl, rfl, hyp⟩
set_option maxRecDepth 10000 in
theorem s_X3_isListedAnywhere_0 {X : ax_X} {d L sz : Nat} {T : tT} {Q : Int32 → tT → Prop} (hX : ax_ok X mX3_isListedAnywhere d) (hR : ax_Ret X mX3_isListedAnywhere (ti L sz Q)) (hsz : 161 ≤ sz) {q : Nat} (h_q : tgr sz q) (x0 : Int64) (hyp : ax_j X 2 [some (.ref q), some (.long x0), none, some (.int (0 : Int32)), none] [] (th L sz T) 0 0) : ax_j X 0 [some (.ref q), some (.long x0), none, none, none] [] (th L sz T) 0 0 := by
  refine ax_iconst hX dX3_isListedAnywhere_0 (v := 0) (by decide) ?_
  refine ax_istore_n hX dX3_isListedAnywhere_1 (by decide) (L' := [some (.ref q), some (.long x0), none, some (.int (0 : Int32)), none]) rfl ?_
  exact ax_forget (L' := [some (.ref q), some (.long x0), none, some (.int (0 : Int32)), none]) (⟨rfl, ⟨rfl, ⟨rfl, trivial⟩⟩⟩) hyp
set_option maxRecDepth 10000 in
theorem s_X3_isListedAnywhere_2 {X : ax_X} {d L sz : Nat} {T : tT} {Q : Int32 → tT → Prop} (hX : ax_ok X mX3_isListedAnywhere d) (hR : ax_Ret X mX3_isListedAnywhere (ti L sz Q)) (hsz : 161 ≤ sz) {q : Nat} (h_q : tgr sz q) (v1 : Int64) (v3 : Int32) (hyp : (((T.1 q 1) ≤ v3 → Q (0 : Int32) T) ∧ (¬ (T.1 q 1) ≤ v3 → ax_j X 13 [some (.ref q), some (.long v1), none, some (.int v3), some (.int (0 : Int32))] [] (th L sz T) 0 0))) : ax_j X 2 [some (.ref q), some (.long v1), none, some (.int v3), none] [] (th L sz T) 0 0 := by
  refine ax_iload_n hX dX3_isListedAnywhere_2 rfl ?_
  refine ax_aload_n hX dX3_isListedAnywhere_3 (Or.inr ⟨_, rfl⟩) rfl ?_
  refine tx_getI hX fRX3_35 h_q.ly0 fk_3_1 (h_q.ne 0 (by decide)) (h_q.lt 0 (by decide)) dX3_isListedAnywhere_4 ?_
  refine ax_icmp_ge hX dX3_isListedAnywhere_7 (tgt := 55) (by decide) (fun c => ?_) (fun c => ?_)
  · replace hyp := hyp.1 c
    refine ax_iconst hX dX3_isListedAnywhere_55 (v := 0) (by decide) ?_
    exact hR.1 _ _ _ _ _ _ (by decide) (by decide) dX3_isListedAnywhere_56 ⟨_, rfl, rfl⟩ ⟨_, _, rfl, rfl, hyp⟩
  · replace hyp := hyp.2 c
    refine ax_iconst hX dX3_isListedAnywhere_10 (v := 0) (by decide) ?_
    refine ax_istore hX dX3_isListedAnywhere_11 (by decide) (L' := [some (.ref q), some (.long v1), none, some (.int v3), some (.int (0 : Int32))]) rfl ?_
    exact ax_forget (L' := [some (.ref q), some (.long v1), none, some (.int v3), some (.int (0 : Int32))]) (⟨rfl, ⟨rfl, ⟨rfl, ⟨rfl, trivial⟩⟩⟩⟩) hyp
set_option maxRecDepth 10000 in
theorem s_X3_isListedAnywhere_13 {X : ax_X} {d L sz : Nat} {T : tT} {Q : Int32 → tT → Prop} (hX : ax_ok X mX3_isListedAnywhere d) (hR : ax_Ret X mX3_isListedAnywhere (ti L sz Q)) (hsz : 161 ≤ sz) {q : Nat} (h_q : tgr sz q) (v1 : Int64) (v3 : Int32) (v4 : Int32) (hyp : vp_in v3 6 ∧ (((T.1 (q + 2) (v3.toNatClampNeg)) ≤ v4 → ax_j X 2 [some (.ref q), some (.long v1), none, some (.int (v3 + (1 : Int32))), none] [] (th L sz T) 0 0) ∧ (¬ (T.1 (q + 2) (v3.toNatClampNeg)) ≤ v4 → vp_in ((v3 * (12 : Int32)) + v4) 72 ∧ ((¬ (T.2.1 (q + 3) ((v3 * (12 : Int32)) + v4).toNatClampNeg) = v1 → ax_j X 13 [some (.ref q), some (.long v1), none, some (.int v3), some (.int (v4 + (1 : Int32)))] [] (th L sz T) 0 0) ∧ ((T.2.1 (q + 3) ((v3 * (12 : Int32)) + v4).toNatClampNeg) = v1 → Q (1 : Int32) T))))) : ax_j X 13 [some (.ref q), some (.long v1), none, some (.int v3), some (.int v4)] [] (th L sz T) 0 0 := by
  refine ax_iload hX dX3_isListedAnywhere_13 rfl ?_
  refine ax_aload_n hX dX3_isListedAnywhere_15 (Or.inr ⟨_, rfl⟩) rfl ?_
  refine tx_getF hX fRX3_15 h_q.ly0 (o := 2) (b := (q + 2)) fk_3_8 rfl (h_q.ne 0 (by decide)) (h_q.lt 0 (by decide)) dX3_isListedAnywhere_16 ?_
  refine ax_iload_n hX dX3_isListedAnywhere_19 rfl ?_
  refine tx_ial hX h_q.ly2 (h_q.ne 2 (by decide)) (h_q.lt 2 (by decide)) hyp.1 dX3_isListedAnywhere_20 ?_
  replace hyp := hyp.2
  refine ax_icmp_ge hX dX3_isListedAnywhere_21 (tgt := 49) (by decide) (fun c => ?_) (fun c => ?_)
  · replace hyp := hyp.1 c
    refine ax_iinc hX dX3_isListedAnywhere_49 rfl (w := (v3 + (1 : Int32))) rfl (by decide) (L' := [some (.ref q), some (.long v1), none, some (.int (v3 + (1 : Int32))), some (.int v4)]) rfl ?_
    refine ax_goto hX dX3_isListedAnywhere_52 (tgt := 2) (by decide) ?_
    exact ax_forget (L' := [some (.ref q), some (.long v1), none, some (.int (v3 + (1 : Int32))), none]) (⟨rfl, ⟨rfl, ⟨rfl, trivial⟩⟩⟩) hyp
  · replace hyp := hyp.2 c
    refine ax_aload_n hX dX3_isListedAnywhere_24 (Or.inr ⟨_, rfl⟩) rfl ?_
    refine tx_getF hX fRX3_19 h_q.ly0 (o := 3) (b := (q + 3)) fk_3_9 rfl (h_q.ne 0 (by decide)) (h_q.lt 0 (by decide)) dX3_isListedAnywhere_25 ?_
    refine ax_iload_n hX dX3_isListedAnywhere_28 rfl ?_
    refine ax_bipush hX dX3_isListedAnywhere_29 (v := 12) (by decide) ?_
    refine ax_imul hX dX3_isListedAnywhere_31 ?_
    refine ax_iload hX dX3_isListedAnywhere_32 rfl ?_
    refine ax_iadd hX dX3_isListedAnywhere_34 ?_
    refine tx_lal hX h_q.ly3 (h_q.ne 3 (by decide)) (h_q.lt 3 (by decide)) hyp.1 dX3_isListedAnywhere_35 ?_
    replace hyp := hyp.2
    refine ax_lload_n hX dX3_isListedAnywhere_36 rfl ?_
    refine tx_lcmp_ne hX dX3_isListedAnywhere_37 dX3_isListedAnywhere_38 (tgt := 43) (by decide) (fun c => ?_) (fun c => ?_)
    · replace hyp := hyp.1 c
      refine ax_iinc hX dX3_isListedAnywhere_43 rfl (w := (v4 + (1 : Int32))) rfl (by decide) (L' := [some (.ref q), some (.long v1), none, some (.int v3), some (.int (v4 + (1 : Int32)))]) rfl ?_
      refine ax_goto hX dX3_isListedAnywhere_46 (tgt := 13) (by decide) ?_
      exact ax_forget (L' := [some (.ref q), some (.long v1), none, some (.int v3), some (.int (v4 + (1 : Int32)))]) (⟨rfl, ⟨rfl, ⟨rfl, ⟨rfl, trivial⟩⟩⟩⟩) hyp
    · replace hyp := hyp.2 c
      refine ax_iconst hX dX3_isListedAnywhere_41 (v := 1) (by decide) ?_
      exact hR.1 _ _ _ _ _ _ (by decide) (by decide) dX3_isListedAnywhere_42 ⟨_, rfl, rfl⟩ ⟨_, _, rfl, rfl, hyp⟩
set_option maxRecDepth 10000 in
theorem s_X3_minutesOrUsual_0 {X : ax_X} {d L sz : Nat} {T : tT} {Q : Int32 → tT → Prop} (hX : ax_ok X mX3_minutesOrUsual d) (hR : ax_Ret X mX3_minutesOrUsual (ti L sz Q)) (hsz : 161 ≤ sz) {q : Nat} (h_q : tgr sz q)  (hyp : ((¬ (T.1 q 4) = 0 → Q (T.1 q 4) T) ∧ ((T.1 q 4) = 0 → Q (10 : Int32) T))) : ax_j X 0 [some (.ref q)] [] (th L sz T) 0 0 := by
  refine ax_aload_n hX dX3_minutesOrUsual_0 (Or.inr ⟨_, rfl⟩) rfl ?_
  refine tx_getI hX fRX3_45 h_q.ly0 fk_3_4 (h_q.ne 0 (by decide)) (h_q.lt 0 (by decide)) dX3_minutesOrUsual_1 ?_
  refine ax_if_ne hX dX3_minutesOrUsual_4 (tgt := 12) (by decide) (fun c => ?_) (fun c => ?_)
  · replace hyp := hyp.1 c
    refine ax_aload_n hX dX3_minutesOrUsual_12 (Or.inr ⟨_, rfl⟩) rfl ?_
    refine tx_getI hX fRX3_45 h_q.ly0 fk_3_4 (h_q.ne 0 (by decide)) (h_q.lt 0 (by decide)) dX3_minutesOrUsual_13 ?_
    exact hR.1 _ _ _ _ _ _ (by decide) (by decide) dX3_minutesOrUsual_16 ⟨_, rfl, rfl⟩ ⟨_, _, rfl, rfl, hyp⟩
  · replace hyp := hyp.2 c
    refine ax_bipush hX dX3_minutesOrUsual_7 (v := 10) (by decide) ?_
    refine ax_goto hX dX3_minutesOrUsual_9 (tgt := 16) (by decide) ?_
    exact hR.1 _ _ _ _ _ _ (by decide) (by decide) dX3_minutesOrUsual_16 ⟨_, rfl, rfl⟩ ⟨_, _, rfl, rfl, hyp⟩
set_option maxRecDepth 10000 in
theorem s_X4_join_0 {X : ax_X} {d L sz : Nat} {T : tT} {Q : Int32 → tT → Prop} (hX : ax_ok X mX4_join d) (hR : ax_Ret X mX4_join (ti L sz Q)) (hsz : 161 ≤ sz) (x0 : Int32) (x1 : Int32) (x2 : Int32) (hyp : (x0 = 43 → Q (x1 + x2) T) ∧ (x0 = 45 → Q (x1 - x2) T) ∧ (x0 = 60 → ((x2 ≤ x1 → Q (0 : Int32) T) ∧ (¬ x2 ≤ x1 → Q (1 : Int32) T))) ∧ (x0 = 61 → ((¬ x1 = x2 → Q (0 : Int32) T) ∧ (x1 = x2 → Q (1 : Int32) T))) ∧ (x0 = 62 → ((x1 ≤ x2 → Q (0 : Int32) T) ∧ (¬ x1 ≤ x2 → Q (1 : Int32) T))) ∧ (x0 = 208 → ((x1 = 0 → Q (0 : Int32) T) ∧ (¬ x1 = 0 → ((x2 = 0 → Q (0 : Int32) T) ∧ (¬ x2 = 0 → Q (1 : Int32) T))))) ∧ (¬ x0 = 43 → ¬ x0 = 45 → ¬ x0 = 60 → ¬ x0 = 61 → ¬ x0 = 62 → ¬ x0 = 208 → ((¬ x1 = 0 → Q (1 : Int32) T) ∧ (x1 = 0 → ((x2 = 0 → Q (0 : Int32) T) ∧ (¬ x2 = 0 → Q (1 : Int32) T)))))) : ax_j X 0 [some (.int x0), some (.int x1), some (.int x2)] [] (th L sz T) 0 0 := by
  refine ax_iload_n hX dX4_join_0 rfl ?_
  by_cases q0 : x0 = 43
  · replace hyp := hyp.1 q0
    refine ax_lookup hX dX4_join_1 (by decide) (off := 59) (by rw [q0]; decide) (tgt := 60) (by decide) ?_
    refine ax_iload_n hX dX4_join_60 rfl ?_
    refine ax_iload_n hX dX4_join_61 rfl ?_
    refine ax_iadd hX dX4_join_62 ?_
    exact hR.1 _ _ _ _ _ _ (by decide) (by decide) dX4_join_63 ⟨_, rfl, rfl⟩ ⟨_, _, rfl, rfl, hyp⟩
  by_cases q1 : x0 = 45
  · replace hyp := hyp.2.1 q1
    refine ax_lookup hX dX4_join_1 (by decide) (off := 63) (by rw [q1]; decide) (tgt := 64) (by decide) ?_
    refine ax_iload_n hX dX4_join_64 rfl ?_
    refine ax_iload_n hX dX4_join_65 rfl ?_
    refine ax_isub hX dX4_join_66 ?_
    exact hR.1 _ _ _ _ _ _ (by decide) (by decide) dX4_join_67 ⟨_, rfl, rfl⟩ ⟨_, _, rfl, rfl, hyp⟩
  by_cases q2 : x0 = 60
  · replace hyp := hyp.2.2.1 q2
    refine ax_lookup hX dX4_join_1 (by decide) (off := 67) (by rw [q2]; decide) (tgt := 68) (by decide) ?_
    refine ax_iload_n hX dX4_join_68 rfl ?_
    refine ax_iload_n hX dX4_join_69 rfl ?_
    refine ax_icmp_ge hX dX4_join_70 (tgt := 77) (by decide) (fun c => ?_) (fun c => ?_)
    · replace hyp := hyp.1 c
      refine ax_iconst hX dX4_join_77 (v := 0) (by decide) ?_
      exact hR.1 _ _ _ _ _ _ (by decide) (by decide) dX4_join_78 ⟨_, rfl, rfl⟩ ⟨_, _, rfl, rfl, hyp⟩
    · replace hyp := hyp.2 c
      refine ax_iconst hX dX4_join_73 (v := 1) (by decide) ?_
      refine ax_goto hX dX4_join_74 (tgt := 78) (by decide) ?_
      exact hR.1 _ _ _ _ _ _ (by decide) (by decide) dX4_join_78 ⟨_, rfl, rfl⟩ ⟨_, _, rfl, rfl, hyp⟩
  by_cases q3 : x0 = 61
  · replace hyp := hyp.2.2.2.1 q3
    refine ax_lookup hX dX4_join_1 (by decide) (off := 89) (by rw [q3]; decide) (tgt := 90) (by decide) ?_
    refine ax_iload_n hX dX4_join_90 rfl ?_
    refine ax_iload_n hX dX4_join_91 rfl ?_
    refine ax_icmp_ne hX dX4_join_92 (tgt := 99) (by decide) (fun c => ?_) (fun c => ?_)
    · replace hyp := hyp.1 c
      refine ax_iconst hX dX4_join_99 (v := 0) (by decide) ?_
      exact hR.1 _ _ _ _ _ _ (by decide) (by decide) dX4_join_100 ⟨_, rfl, rfl⟩ ⟨_, _, rfl, rfl, hyp⟩
    · replace hyp := hyp.2 c
      refine ax_iconst hX dX4_join_95 (v := 1) (by decide) ?_
      refine ax_goto hX dX4_join_96 (tgt := 100) (by decide) ?_
      exact hR.1 _ _ _ _ _ _ (by decide) (by decide) dX4_join_100 ⟨_, rfl, rfl⟩ ⟨_, _, rfl, rfl, hyp⟩
  by_cases q4 : x0 = 62
  · replace hyp := hyp.2.2.2.2.1 q4
    refine ax_lookup hX dX4_join_1 (by decide) (off := 78) (by rw [q4]; decide) (tgt := 79) (by decide) ?_
    refine ax_iload_n hX dX4_join_79 rfl ?_
    refine ax_iload_n hX dX4_join_80 rfl ?_
    refine ax_icmp_le hX dX4_join_81 (tgt := 88) (by decide) (fun c => ?_) (fun c => ?_)
    · replace hyp := hyp.1 c
      refine ax_iconst hX dX4_join_88 (v := 0) (by decide) ?_
      exact hR.1 _ _ _ _ _ _ (by decide) (by decide) dX4_join_89 ⟨_, rfl, rfl⟩ ⟨_, _, rfl, rfl, hyp⟩
    · replace hyp := hyp.2 c
      refine ax_iconst hX dX4_join_84 (v := 1) (by decide) ?_
      refine ax_goto hX dX4_join_85 (tgt := 89) (by decide) ?_
      exact hR.1 _ _ _ _ _ _ (by decide) (by decide) dX4_join_89 ⟨_, rfl, rfl⟩ ⟨_, _, rfl, rfl, hyp⟩
  by_cases q5 : x0 = 208
  · replace hyp := hyp.2.2.2.2.2.1 q5
    refine ax_lookup hX dX4_join_1 (by decide) (off := 100) (by rw [q5]; decide) (tgt := 101) (by decide) ?_
    refine ax_iload_n hX dX4_join_101 rfl ?_
    refine ax_if_eq hX dX4_join_102 (tgt := 113) (by decide) (fun c => ?_) (fun c => ?_)
    · replace hyp := hyp.1 c
      refine ax_iconst hX dX4_join_113 (v := 0) (by decide) ?_
      exact hR.1 _ _ _ _ _ _ (by decide) (by decide) dX4_join_114 ⟨_, rfl, rfl⟩ ⟨_, _, rfl, rfl, hyp⟩
    · replace hyp := hyp.2 c
      refine ax_iload_n hX dX4_join_105 rfl ?_
      refine ax_if_eq hX dX4_join_106 (tgt := 113) (by decide) (fun c => ?_) (fun c => ?_)
      · replace hyp := hyp.1 c
        refine ax_iconst hX dX4_join_113 (v := 0) (by decide) ?_
        exact hR.1 _ _ _ _ _ _ (by decide) (by decide) dX4_join_114 ⟨_, rfl, rfl⟩ ⟨_, _, rfl, rfl, hyp⟩
      · replace hyp := hyp.2 c
        refine ax_iconst hX dX4_join_109 (v := 1) (by decide) ?_
        refine ax_goto hX dX4_join_110 (tgt := 114) (by decide) ?_
        exact hR.1 _ _ _ _ _ _ (by decide) (by decide) dX4_join_114 ⟨_, rfl, rfl⟩ ⟨_, _, rfl, rfl, hyp⟩
  replace hyp := hyp.2.2.2.2.2.2 q0 q1 q2 q3 q4 q5
  refine ax_lookup hX dX4_join_1 (by decide) (off := 114) ((Eq.trans (lv_osw (a := 43) (o := 59) (d := 114) (k := 43) q0 rfl) (Eq.trans (lv_osw (a := 45) (o := 63) (d := 114) (k := 45) q1 rfl) (Eq.trans (lv_osw (a := 60) (o := 67) (d := 114) (k := 60) q2 rfl) (Eq.trans (lv_osw (a := 61) (o := 89) (d := 114) (k := 61) q3 rfl) (Eq.trans (lv_osw (a := 62) (o := 78) (d := 114) (k := 62) q4 rfl) (Eq.trans (lv_osw (a := 208) (o := 100) (d := 114) (k := 208) q5 rfl) rfl))))))) (tgt := 115) (by decide) ?_
  refine ax_iload_n hX dX4_join_115 rfl ?_
  refine ax_if_ne hX dX4_join_116 (tgt := 123) (by decide) (fun c => ?_) (fun c => ?_)
  · replace hyp := hyp.1 c
    refine ax_iconst hX dX4_join_123 (v := 1) (by decide) ?_
    refine ax_goto hX dX4_join_124 (tgt := 128) (by decide) ?_
    exact hR.1 _ _ _ _ _ _ (by decide) (by decide) dX4_join_128 ⟨_, rfl, rfl⟩ ⟨_, _, rfl, rfl, hyp⟩
  · replace hyp := hyp.2 c
    refine ax_iload_n hX dX4_join_119 rfl ?_
    refine ax_if_eq hX dX4_join_120 (tgt := 127) (by decide) (fun c => ?_) (fun c => ?_)
    · replace hyp := hyp.1 c
      refine ax_iconst hX dX4_join_127 (v := 0) (by decide) ?_
      exact hR.1 _ _ _ _ _ _ (by decide) (by decide) dX4_join_128 ⟨_, rfl, rfl⟩ ⟨_, _, rfl, rfl, hyp⟩
    · replace hyp := hyp.2 c
      refine ax_iconst hX dX4_join_123 (v := 1) (by decide) ?_
      refine ax_goto hX dX4_join_124 (tgt := 128) (by decide) ?_
      exact hR.1 _ _ _ _ _ _ (by decide) (by decide) dX4_join_128 ⟨_, rfl, rfl⟩ ⟨_, _, rfl, rfl, hyp⟩
set_option maxRecDepth 10000 in
theorem s_X4_least_0 {X : ax_X} {d L sz : Nat} {T : tT} {Q : Int32 → tT → Prop} (hX : ax_ok X mX4_least (d + 1)) (hR : ax_Ret X mX4_least (ti L sz Q)) (hsz : 161 ≤ sz) (x0 : Int32) (hyp : ((x0 ≤ 0 → ax_j X 17 [some (.ref 66), some (.int x0), some (.int (0 : Int32)), some (.int (1 : Int32))] [] (th L sz T) 0 0) ∧ (¬ x0 ≤ 0 → vp_in (0 : Int32) 6 ∧ ax_j X 17 [some (.ref 66), some (.int x0), some (.int (T.1 67 (0 : Int32).toNatClampNeg)), some (.int (1 : Int32))] [] (th L sz T) 0 0))) : ax_j X 0 [some (.ref 66), some (.int x0), none, none] [] (th L sz T) 0 0 := by
  refine ax_iload_n hX dX4_least_0 rfl ?_
  refine ax_if_le hX dX4_least_1 (tgt := 13) (by decide) (fun c => ?_) (fun c => ?_)
  · replace hyp := hyp.1 c
    refine ax_iconst hX dX4_least_13 (v := 0) (by decide) ?_
    refine ax_istore_n hX dX4_least_14 (by decide) (L' := [some (.ref 66), some (.int x0), some (.int (0 : Int32)), none]) rfl ?_
    refine ax_iconst hX dX4_least_15 (v := 1) (by decide) ?_
    refine ax_istore_n hX dX4_least_16 (by decide) (L' := [some (.ref 66), some (.int x0), some (.int (0 : Int32)), some (.int (1 : Int32))]) rfl ?_
    exact ax_forget (L' := [some (.ref 66), some (.int x0), some (.int (0 : Int32)), some (.int (1 : Int32))]) (⟨rfl, ⟨rfl, ⟨rfl, ⟨rfl, trivial⟩⟩⟩⟩) hyp
  · replace hyp := hyp.2 c
    refine ax_aload_n hX dX4_least_4 (Or.inr ⟨_, rfl⟩) rfl ?_
    refine tx_getF hX fRX4_9 ly_66 (o := 1) (b := 67) fk_4_0 rfl (by decide) (Nat.lt_of_lt_of_le (by decide) hsz) dX4_least_5 ?_
    refine ax_iconst hX dX4_least_8 (v := 0) (by decide) ?_
    refine tx_ial hX ly_67 (by decide) (Nat.lt_of_lt_of_le (by decide) hsz) hyp.1 dX4_least_9 ?_
    replace hyp := hyp.2
    refine ax_goto hX dX4_least_10 (tgt := 14) (by decide) ?_
    refine ax_istore_n hX dX4_least_14 (by decide) (L' := [some (.ref 66), some (.int x0), some (.int (T.1 67 (0 : Int32).toNatClampNeg)), none]) rfl ?_
    refine ax_iconst hX dX4_least_15 (v := 1) (by decide) ?_
    refine ax_istore_n hX dX4_least_16 (by decide) (L' := [some (.ref 66), some (.int x0), some (.int (T.1 67 (0 : Int32).toNatClampNeg)), some (.int (1 : Int32))]) rfl ?_
    exact ax_forget (L' := [some (.ref 66), some (.int x0), some (.int (T.1 67 (0 : Int32).toNatClampNeg)), some (.int (1 : Int32))]) (⟨rfl, ⟨rfl, ⟨rfl, ⟨rfl, trivial⟩⟩⟩⟩) hyp
set_option maxRecDepth 10000 in
theorem s_X4_least_17 {X : ax_X} {d L sz : Nat} {T : tT} {Q : Int32 → tT → Prop} (hX : ax_ok X mX4_least (d + 1)) (hR : ax_Ret X mX4_least (ti L sz Q)) (hsz : 161 ≤ sz) (v1 : Int32) (v2 : Int32) (v3 : Int32) (hyp : ((v1 ≤ v3 → Q v2 T) ∧ (¬ v1 ≤ v3 → (((6 : Int32) ≤ v3 → Q v2 T) ∧ (¬ (6 : Int32) ≤ v3 → vp_in v3 6 ∧ ax_j X 17 [some (.ref 66), some (.int v1), some (.int (if (T.1 67 (v3.toNatClampNeg)) < v2 then (T.1 67 (v3.toNatClampNeg)) else v2)), some (.int (v3 + (1 : Int32)))] [] (th L sz T) 0 0))))) : ax_j X 17 [some (.ref 66), some (.int v1), some (.int v2), some (.int v3)] [] (th L sz T) 0 0 := by
  refine ax_iload_n hX dX4_least_17 rfl ?_
  refine ax_iload_n hX dX4_least_18 rfl ?_
  refine ax_icmp_ge hX dX4_least_19 (tgt := 45) (by decide) (fun c => ?_) (fun c => ?_)
  · replace hyp := hyp.1 c
    refine ax_iload_n hX dX4_least_45 rfl ?_
    exact hR.1 _ _ _ _ _ _ (by decide) (by decide) dX4_least_46 ⟨_, rfl, rfl⟩ ⟨_, _, rfl, rfl, hyp⟩
  · replace hyp := hyp.2 c
    refine ax_iload_n hX dX4_least_22 rfl ?_
    refine ax_bipush hX dX4_least_23 (v := 6) (by decide) ?_
    refine ax_icmp_ge hX dX4_least_25 (tgt := 45) (by decide) (fun c => ?_) (fun c => ?_)
    · replace hyp := hyp.1 c
      refine ax_iload_n hX dX4_least_45 rfl ?_
      exact hR.1 _ _ _ _ _ _ (by decide) (by decide) dX4_least_46 ⟨_, rfl, rfl⟩ ⟨_, _, rfl, rfl, hyp⟩
    · replace hyp := hyp.2 c
      refine ax_iload_n hX dX4_least_28 rfl ?_
      refine ax_aload_n hX dX4_least_29 (Or.inr ⟨_, rfl⟩) rfl ?_
      refine tx_getF hX fRX4_9 ly_66 (o := 1) (b := 67) fk_4_0 rfl (by decide) (Nat.lt_of_lt_of_le (by decide) hsz) dX4_least_30 ?_
      refine ax_iload_n hX dX4_least_33 rfl ?_
      refine tx_ial hX ly_67 (by decide) (Nat.lt_of_lt_of_le (by decide) hsz) hyp.1 dX4_least_34 ?_
      replace hyp := hyp.2
      refine ax_mmin hX mlRX4_85 (Nat.le_of_ble_eq_true rfl) (by decide) (by decide) dX4_least_35 ?_
      refine ax_istore_n hX dX4_least_38 (by decide) (L' := [some (.ref 66), some (.int v1), some (.int (if (T.1 67 (v3.toNatClampNeg)) < v2 then (T.1 67 (v3.toNatClampNeg)) else v2)), some (.int v3)]) rfl ?_
      refine ax_iinc hX dX4_least_39 rfl (w := (v3 + (1 : Int32))) rfl (by decide) (L' := [some (.ref 66), some (.int v1), some (.int (if (T.1 67 (v3.toNatClampNeg)) < v2 then (T.1 67 (v3.toNatClampNeg)) else v2)), some (.int (v3 + (1 : Int32)))]) rfl ?_
      refine ax_goto hX dX4_least_42 (tgt := 17) (by decide) ?_
      exact ax_forget (L' := [some (.ref 66), some (.int v1), some (.int (if (T.1 67 (v3.toNatClampNeg)) < v2 then (T.1 67 (v3.toNatClampNeg)) else v2)), some (.int (v3 + (1 : Int32)))]) (⟨rfl, ⟨rfl, ⟨rfl, ⟨rfl, trivial⟩⟩⟩⟩) hyp
set_option maxRecDepth 10000 in
theorem s_X4_markLeaf_0 {X : ax_X} {d L sz : Nat} {T : tT} {Q : Int32 → tT → Prop} (hX : ax_ok X mX4_markLeaf (d + 1)) (hR : ax_Ret X mX4_markLeaf (ti L sz Q)) (hsz : 161 ≤ sz) {q : Nat} (h_q : tgr sz q) (x0 : Int32) (x1 : Int32) (hyp : (x0 = 202 → (((6 : Int32) ≤ x1 → Q (0 : Int32) T) ∧ (¬ (6 : Int32) ≤ x1 → vp_in x1 6 ∧ Q (T.1 67 (x1.toNatClampNeg)) T))) ∧ (x0 = 213 → ∃ Q1, tiK d mX4_total [.ref 66, .int (T.1 q 2)] L sz T Q1 ∧ ∀ (r1 : Int32) (T1 : tT), Q1 r1 T1 → (Q r1 T1)) ∧ (x0 = 214 → ∃ Q1, tiK d mX4_least [.ref 66, .int (T.1 q 2)] L sz T Q1 ∧ ∀ (r2 : Int32) (T2 : tT), Q1 r2 T2 → (Q r2 T2)) ∧ (¬ x0 = 202 → ¬ x0 = 213 → ¬ x0 = 214 → Q x1 T)) : ax_j X 0 [some (.ref 66), some (.int x0), some (.int x1), some (.ref q)] [] (th L sz T) 0 0 := by
  refine ax_iload_n hX dX4_markLeaf_0 rfl ?_
  by_cases q0 : x0 = 202
  · replace hyp := hyp.1 q0
    refine ax_lookup hX dX4_markLeaf_1 (by decide) (off := 35) (by rw [q0]; decide) (tgt := 36) (by decide) ?_
    refine ax_iload_n hX dX4_markLeaf_36 rfl ?_
    refine ax_bipush hX dX4_markLeaf_37 (v := 6) (by decide) ?_
    refine ax_icmp_ge hX dX4_markLeaf_39 (tgt := 51) (by decide) (fun c => ?_) (fun c => ?_)
    · replace hyp := hyp.1 c
      refine ax_iconst hX dX4_markLeaf_51 (v := 0) (by decide) ?_
      exact hR.1 _ _ _ _ _ _ (by decide) (by decide) dX4_markLeaf_52 ⟨_, rfl, rfl⟩ ⟨_, _, rfl, rfl, hyp⟩
    · replace hyp := hyp.2 c
      refine ax_aload_n hX dX4_markLeaf_42 (Or.inr ⟨_, rfl⟩) rfl ?_
      refine tx_getF hX fRX4_9 ly_66 (o := 1) (b := 67) fk_4_0 rfl (by decide) (Nat.lt_of_lt_of_le (by decide) hsz) dX4_markLeaf_43 ?_
      refine ax_iload_n hX dX4_markLeaf_46 rfl ?_
      refine tx_ial hX ly_67 (by decide) (Nat.lt_of_lt_of_le (by decide) hsz) hyp.1 dX4_markLeaf_47 ?_
      replace hyp := hyp.2
      refine ax_goto hX dX4_markLeaf_48 (tgt := 52) (by decide) ?_
      exact hR.1 _ _ _ _ _ _ (by decide) (by decide) dX4_markLeaf_52 ⟨_, rfl, rfl⟩ ⟨_, _, rfl, rfl, hyp⟩
  by_cases q1 : x0 = 213
  · replace hyp := hyp.2.1 q1
    refine ax_lookup hX dX4_markLeaf_1 (by decide) (off := 52) (by rw [q1]; decide) (tgt := 53) (by decide) ?_
    refine ax_aload_n hX dX4_markLeaf_53 (Or.inr ⟨_, rfl⟩) rfl ?_
    refine ax_aload_n hX dX4_markLeaf_54 (Or.inr ⟨_, rfl⟩) rfl ?_
    refine tx_getI hX fRX4_57 h_q.ly0 fk_3_2 (h_q.ne 0 (by decide)) (h_q.lt 0 (by decide)) dX4_markLeaf_55 ?_
    obtain ⟨Q1, hK, hyp⟩ := hyp
    refine ax_callV hX lRX4_62 im_X4_total sl_X4_total cw_X4_total ((th_at (by decide) (Nat.lt_of_lt_of_le (by decide) hsz)).trans (tc_ob ly_66)) rfl rfl (A := [.int (T.1 q 2)]) (st := []) rfl rfl (Nat.le_of_ble_eq_true rfl) (by decide) (by decide) dX4_markLeaf_58 hK ?_
    rintro _ _ ⟨r1, T1, rfl, rfl, hq⟩
    replace hyp := hyp r1 T1 hq
    exact hR.1 _ _ _ _ _ _ (by decide) (by decide) dX4_markLeaf_61 ⟨_, rfl, rfl⟩ ⟨_, _, rfl, rfl, hyp⟩
  by_cases q2 : x0 = 214
  · replace hyp := hyp.2.2.1 q2
    refine ax_lookup hX dX4_markLeaf_1 (by decide) (off := 61) (by rw [q2]; decide) (tgt := 62) (by decide) ?_
    refine ax_aload_n hX dX4_markLeaf_62 (Or.inr ⟨_, rfl⟩) rfl ?_
    refine ax_aload_n hX dX4_markLeaf_63 (Or.inr ⟨_, rfl⟩) rfl ?_
    refine tx_getI hX fRX4_57 h_q.ly0 fk_3_2 (h_q.ne 0 (by decide)) (h_q.lt 0 (by decide)) dX4_markLeaf_64 ?_
    obtain ⟨Q1, hK, hyp⟩ := hyp
    refine ax_callV hX lRX4_66 im_X4_least sl_X4_least cw_X4_least ((th_at (by decide) (Nat.lt_of_lt_of_le (by decide) hsz)).trans (tc_ob ly_66)) rfl rfl (A := [.int (T.1 q 2)]) (st := []) rfl rfl (Nat.le_of_ble_eq_true rfl) (by decide) (by decide) dX4_markLeaf_67 hK ?_
    rintro _ _ ⟨r2, T2, rfl, rfl, hq⟩
    replace hyp := hyp r2 T2 hq
    exact hR.1 _ _ _ _ _ _ (by decide) (by decide) dX4_markLeaf_70 ⟨_, rfl, rfl⟩ ⟨_, _, rfl, rfl, hyp⟩
  replace hyp := hyp.2.2.2 q0 q1 q2
  refine ax_lookup hX dX4_markLeaf_1 (by decide) (off := 70) ((Eq.trans (lv_osw (a := 202) (o := 35) (d := 70) (k := 202) q0 rfl) (Eq.trans (lv_osw (a := 213) (o := 52) (d := 70) (k := 213) q1 rfl) (Eq.trans (lv_osw (a := 214) (o := 61) (d := 70) (k := 214) q2 rfl) rfl)))) (tgt := 71) (by decide) ?_
  refine ax_iload_n hX dX4_markLeaf_71 rfl ?_
  exact hR.1 _ _ _ _ _ _ (by decide) (by decide) dX4_markLeaf_72 ⟨_, rfl, rfl⟩ ⟨_, _, rfl, rfl, hyp⟩
set_option maxRecDepth 10000 in
theorem s_X4_pieceLeaf_0 {X : ax_X} {d L sz : Nat} {T : tT} {Q : Int32 → tT → Prop} (hX : ax_ok X mX4_pieceLeaf (d + 1)) (hR : ax_Ret X mX4_pieceLeaf (ti L sz Q)) (hsz : 161 ≤ sz) {q : Nat} (h_q : tgr sz q) (x0 : Int32) (x1 : Int32) (x4 : Int32) (hyp : (x0 = 201 → ∃ Q1, tiK d mX2_countListed [.ref 69, .int x4, .ref q, .int x1] L sz T Q1 ∧ ∀ (r1 : Int32) (T1 : tT), Q1 r1 T1 → (Q r1 T1)) ∧ (x0 = 210 → ∃ Q1, tiK d mX2_countOwn [.ref 69, .int x4, .ref q] L sz T Q1 ∧ ∀ (r2 : Int32) (T2 : tT), Q1 r2 T2 → (Q r2 T2)) ∧ (x0 = 211 → vp_in x4 40 ∧ Q (T.1 77 (x4.toNatClampNeg)) T) ∧ (¬ x0 = 201 → ¬ x0 = 210 → ¬ x0 = 211 → vp_in x4 40 ∧ Q (T.1 74 (x4.toNatClampNeg)) T)) : ax_j X 0 [some (.ref 66), some (.int x0), some (.int x1), some (.ref q), some (.ref 69), some (.int x4)] [] (th L sz T) 0 0 := by
  refine ax_iload_n hX dX4_pieceLeaf_0 rfl ?_
  by_cases q0 : x0 = 201
  · replace hyp := hyp.1 q0
    refine ax_lookup hX dX4_pieceLeaf_1 (by decide) (off := 35) (by rw [q0]; decide) (tgt := 36) (by decide) ?_
    refine ax_aload hX dX4_pieceLeaf_36 (Or.inr ⟨_, rfl⟩) rfl ?_
    refine ax_iload hX dX4_pieceLeaf_38 rfl ?_
    refine ax_aload_n hX dX4_pieceLeaf_40 (Or.inr ⟨_, rfl⟩) rfl ?_
    refine ax_iload_n hX dX4_pieceLeaf_41 rfl ?_
    obtain ⟨Q1, hK, hyp⟩ := hyp
    refine ax_callV hX lRX4_69 im_X2_countListed sl_X2_countListed cw_X2_countListed ((th_at (by decide) (Nat.lt_of_lt_of_le (by decide) hsz)).trans (tc_ob ly_69)) rfl rfl (A := [.int x4, .ref q, .int x1]) (st := []) rfl rfl (Nat.le_of_ble_eq_true rfl) (by decide) (by decide) dX4_pieceLeaf_42 hK ?_
    rintro _ _ ⟨r1, T1, rfl, rfl, hq⟩
    replace hyp := hyp r1 T1 hq
    exact hR.1 _ _ _ _ _ _ (by decide) (by decide) dX4_pieceLeaf_45 ⟨_, rfl, rfl⟩ ⟨_, _, rfl, rfl, hyp⟩
  by_cases q1 : x0 = 210
  · replace hyp := hyp.2.1 q1
    refine ax_lookup hX dX4_pieceLeaf_1 (by decide) (off := 45) (by rw [q1]; decide) (tgt := 46) (by decide) ?_
    refine ax_aload hX dX4_pieceLeaf_46 (Or.inr ⟨_, rfl⟩) rfl ?_
    refine ax_iload hX dX4_pieceLeaf_48 rfl ?_
    refine ax_aload_n hX dX4_pieceLeaf_50 (Or.inr ⟨_, rfl⟩) rfl ?_
    obtain ⟨Q1, hK, hyp⟩ := hyp
    refine ax_callV hX lRX4_75 im_X2_countOwn sl_X2_countOwn cw_X2_countOwn ((th_at (by decide) (Nat.lt_of_lt_of_le (by decide) hsz)).trans (tc_ob ly_69)) rfl rfl (A := [.int x4, .ref q]) (st := []) rfl rfl (Nat.le_of_ble_eq_true rfl) (by decide) (by decide) dX4_pieceLeaf_51 hK ?_
    rintro _ _ ⟨r2, T2, rfl, rfl, hq⟩
    replace hyp := hyp r2 T2 hq
    exact hR.1 _ _ _ _ _ _ (by decide) (by decide) dX4_pieceLeaf_54 ⟨_, rfl, rfl⟩ ⟨_, _, rfl, rfl, hyp⟩
  by_cases q2 : x0 = 211
  · replace hyp := hyp.2.2.1 q2
    refine ax_lookup hX dX4_pieceLeaf_1 (by decide) (off := 54) (by rw [q2]; decide) (tgt := 55) (by decide) ?_
    refine ax_aload hX dX4_pieceLeaf_55 (Or.inr ⟨_, rfl⟩) rfl ?_
    refine tx_getF hX fRX4_79 ly_69 (o := 8) (b := 77) fk_2_8 rfl (by decide) (Nat.lt_of_lt_of_le (by decide) hsz) dX4_pieceLeaf_57 ?_
    refine ax_iload hX dX4_pieceLeaf_60 rfl ?_
    refine tx_ial hX ly_77 (by decide) (Nat.lt_of_lt_of_le (by decide) hsz) hyp.1 dX4_pieceLeaf_62 ?_
    replace hyp := hyp.2
    exact hR.1 _ _ _ _ _ _ (by decide) (by decide) dX4_pieceLeaf_63 ⟨_, rfl, rfl⟩ ⟨_, _, rfl, rfl, hyp⟩
  replace hyp := hyp.2.2.2 q0 q1 q2
  refine ax_lookup hX dX4_pieceLeaf_1 (by decide) (off := 63) ((Eq.trans (lv_osw (a := 201) (o := 35) (d := 63) (k := 201) q0 rfl) (Eq.trans (lv_osw (a := 210) (o := 45) (d := 63) (k := 210) q1 rfl) (Eq.trans (lv_osw (a := 211) (o := 54) (d := 63) (k := 211) q2 rfl) rfl)))) (tgt := 64) (by decide) ?_
  refine ax_aload hX dX4_pieceLeaf_64 (Or.inr ⟨_, rfl⟩) rfl ?_
  refine tx_getF hX fRX4_82 ly_69 (o := 5) (b := 74) fk_2_5 rfl (by decide) (Nat.lt_of_lt_of_le (by decide) hsz) dX4_pieceLeaf_66 ?_
  refine ax_iload hX dX4_pieceLeaf_69 rfl ?_
  refine tx_ial hX ly_74 (by decide) (Nat.lt_of_lt_of_le (by decide) hsz) hyp.1 dX4_pieceLeaf_71 ?_
  replace hyp := hyp.2
  exact hR.1 _ _ _ _ _ _ (by decide) (by decide) dX4_pieceLeaf_72 ⟨_, rfl, rfl⟩ ⟨_, _, rfl, rfl, hyp⟩
set_option maxRecDepth 10000 in
theorem s_X4_pop_0 {X : ax_X} {d L sz : Nat} {T : tT} {Q : Int32 → tT → Prop} (hX : ax_ok X mX4_pop d) (hR : ax_Ret X mX4_pop (ti L sz Q)) (hsz : 161 ≤ sz)  (hyp : ((0 < (T.1 66 2) → vp_in ((T.1 66 2) - (1 : Int32)) 150 ∧ Q (T.1 68 ((T.1 66 2) - (1 : Int32)).toNatClampNeg) (tI T 66 2 ((T.1 66 2) - (1 : Int32)))) ∧ (¬ 0 < (T.1 66 2) → Q (0 : Int32) T))) : ax_j X 0 [some (.ref 66)] [] (th L sz T) 0 0 := by
  refine ax_aload_n hX dX4_pop_0 (Or.inr ⟨_, rfl⟩) rfl ?_
  refine tx_getI hX fRX4_18 ly_66 fk_4_2 (by decide) (Nat.lt_of_lt_of_le (by decide) hsz) dX4_pop_1 ?_
  refine ax_if_gt hX dX4_pop_4 (tgt := 9) (by decide) (fun c => ?_) (fun c => ?_)
  · replace hyp := hyp.1 c
    refine ax_aload_n hX dX4_pop_9 (Or.inr ⟨_, rfl⟩) rfl ?_
    refine ax_dup hX dX4_pop_10 rfl ?_
    refine tx_getI hX fRX4_18 ly_66 fk_4_2 (by decide) (Nat.lt_of_lt_of_le (by decide) hsz) dX4_pop_11 ?_
    refine ax_iconst hX dX4_pop_14 (v := 1) (by decide) ?_
    refine ax_isub hX dX4_pop_15 ?_
    refine tx_putI hX fRX4_18 ly_66 fk_4_2 (by decide) (Nat.lt_of_lt_of_le (by decide) hsz) rfl rfl dX4_pop_16 ?_
    refine ax_aload_n hX dX4_pop_19 (Or.inr ⟨_, rfl⟩) rfl ?_
    refine tx_getF hX fRX4_15 ly_66 (o := 2) (b := 68) fk_4_1 rfl (by decide) (Nat.lt_of_lt_of_le (by decide) hsz) dX4_pop_20 ?_
    refine ax_aload_n hX dX4_pop_23 (Or.inr ⟨_, rfl⟩) rfl ?_
    refine tx_getI hX fRX4_18 ly_66 fk_4_2 (by decide) (Nat.lt_of_lt_of_le (by decide) hsz) dX4_pop_24 ?_
    refine tx_ial hX ly_68 (by decide) (Nat.lt_of_lt_of_le (by decide) hsz) hyp.1 dX4_pop_27 ?_
    replace hyp := hyp.2
    exact hR.1 _ _ _ _ _ _ (by decide) (by decide) dX4_pop_28 ⟨_, rfl, rfl⟩ ⟨_, _, rfl, rfl, hyp⟩
  · replace hyp := hyp.2 c
    refine ax_iconst hX dX4_pop_7 (v := 0) (by decide) ?_
    exact hR.1 _ _ _ _ _ _ (by decide) (by decide) dX4_pop_8 ⟨_, rfl, rfl⟩ ⟨_, _, rfl, rfl, hyp⟩
set_option maxRecDepth 10000 in
theorem s_X4_push_0 {X : ax_X} {d L sz : Nat} {T : tT} {Q : tT → Prop} (hX : ax_ok X mX4_push d) (hR : ax_Ret X mX4_push (tv L sz Q)) (hsz : 161 ≤ sz) (x0 : Int32) (hyp : (((150 : Int32) ≤ (T.1 66 2) → Q T) ∧ (¬ (150 : Int32) ≤ (T.1 66 2) → vp_in (T.1 66 2) 150 ∧ Q (tI (tI T 68 ((T.1 66 2).toNatClampNeg) x0) 66 2 ((T.1 66 2) + (1 : Int32)))))) : ax_j X 0 [some (.ref 66), some (.int x0)] [] (th L sz T) 0 0 := by
  refine ax_aload_n hX dX4_push_0 (Or.inr ⟨_, rfl⟩) rfl ?_
  refine tx_getI hX fRX4_18 ly_66 fk_4_2 (by decide) (Nat.lt_of_lt_of_le (by decide) hsz) dX4_push_1 ?_
  refine ax_sipush hX dX4_push_4 (v := 150) (by decide) ?_
  refine ax_icmp_ge hX dX4_push_7 (tgt := 30) (by decide) (fun c => ?_) (fun c => ?_)
  · replace hyp := hyp.1 c
    exact hR.2.2.2 _ _ _ _ _ (by decide) (by decide) dX4_push_30 rfl ⟨_, rfl, rfl, hyp⟩
  · replace hyp := hyp.2 c
    refine ax_aload_n hX dX4_push_10 (Or.inr ⟨_, rfl⟩) rfl ?_
    refine tx_getF hX fRX4_15 ly_66 (o := 2) (b := 68) fk_4_1 rfl (by decide) (Nat.lt_of_lt_of_le (by decide) hsz) dX4_push_11 ?_
    refine ax_aload_n hX dX4_push_14 (Or.inr ⟨_, rfl⟩) rfl ?_
    refine tx_getI hX fRX4_18 ly_66 fk_4_2 (by decide) (Nat.lt_of_lt_of_le (by decide) hsz) dX4_push_15 ?_
    refine ax_iload_n hX dX4_push_18 rfl ?_
    refine tx_ias hX ly_68 (by decide) (Nat.lt_of_lt_of_le (by decide) hsz) hyp.1 dX4_push_19 ?_
    replace hyp := hyp.2
    refine ax_aload_n hX dX4_push_20 (Or.inr ⟨_, rfl⟩) rfl ?_
    refine ax_dup hX dX4_push_21 rfl ?_
    refine tx_getI hX fRX4_18 ly_66 fk_4_2 (by decide) (Nat.lt_of_lt_of_le (by decide) hsz) dX4_push_22 ?_
    refine ax_iconst hX dX4_push_25 (v := 1) (by decide) ?_
    refine ax_iadd hX dX4_push_26 ?_
    refine tx_putI hX fRX4_18 ly_66 fk_4_2 (by decide) (Nat.lt_of_lt_of_le (by decide) hsz) rfl rfl dX4_push_27 ?_
    exact hR.2.2.2 _ _ _ _ _ (by decide) (by decide) dX4_push_30 rfl ⟨_, rfl, rfl, hyp⟩
set_option maxRecDepth 10000 in
theorem s_X4_total_0 {X : ax_X} {d L sz : Nat} {T : tT} {Q : Int32 → tT → Prop} (hX : ax_ok X mX4_total d) (hR : ax_Ret X mX4_total (ti L sz Q)) (hsz : 161 ≤ sz) (x0 : Int32) (hyp : ax_j X 4 [some (.ref 66), some (.int x0), some (.int (0 : Int32)), some (.int (0 : Int32))] [] (th L sz T) 0 0) : ax_j X 0 [some (.ref 66), some (.int x0), none, none] [] (th L sz T) 0 0 := by
  refine ax_iconst hX dX4_total_0 (v := 0) (by decide) ?_
  refine ax_istore_n hX dX4_total_1 (by decide) (L' := [some (.ref 66), some (.int x0), some (.int (0 : Int32)), none]) rfl ?_
  refine ax_iconst hX dX4_total_2 (v := 0) (by decide) ?_
  refine ax_istore_n hX dX4_total_3 (by decide) (L' := [some (.ref 66), some (.int x0), some (.int (0 : Int32)), some (.int (0 : Int32))]) rfl ?_
  exact ax_forget (L' := [some (.ref 66), some (.int x0), some (.int (0 : Int32)), some (.int (0 : Int32))]) (⟨rfl, ⟨rfl, ⟨rfl, ⟨rfl, trivial⟩⟩⟩⟩) hyp
set_option maxRecDepth 10000 in
theorem s_X4_total_4 {X : ax_X} {d L sz : Nat} {T : tT} {Q : Int32 → tT → Prop} (hX : ax_ok X mX4_total d) (hR : ax_Ret X mX4_total (ti L sz Q)) (hsz : 161 ≤ sz) (v1 : Int32) (v2 : Int32) (v3 : Int32) (hyp : ((v1 ≤ v3 → Q v2 T) ∧ (¬ v1 ≤ v3 → (((6 : Int32) ≤ v3 → Q v2 T) ∧ (¬ (6 : Int32) ≤ v3 → vp_in v3 6 ∧ ax_j X 4 [some (.ref 66), some (.int v1), some (.int (v2 + (T.1 67 (v3.toNatClampNeg)))), some (.int (v3 + (1 : Int32)))] [] (th L sz T) 0 0))))) : ax_j X 4 [some (.ref 66), some (.int v1), some (.int v2), some (.int v3)] [] (th L sz T) 0 0 := by
  refine ax_iload_n hX dX4_total_4 rfl ?_
  refine ax_iload_n hX dX4_total_5 rfl ?_
  refine ax_icmp_ge hX dX4_total_6 (tgt := 30) (by decide) (fun c => ?_) (fun c => ?_)
  · replace hyp := hyp.1 c
    refine ax_iload_n hX dX4_total_30 rfl ?_
    exact hR.1 _ _ _ _ _ _ (by decide) (by decide) dX4_total_31 ⟨_, rfl, rfl⟩ ⟨_, _, rfl, rfl, hyp⟩
  · replace hyp := hyp.2 c
    refine ax_iload_n hX dX4_total_9 rfl ?_
    refine ax_bipush hX dX4_total_10 (v := 6) (by decide) ?_
    refine ax_icmp_ge hX dX4_total_12 (tgt := 30) (by decide) (fun c => ?_) (fun c => ?_)
    · replace hyp := hyp.1 c
      refine ax_iload_n hX dX4_total_30 rfl ?_
      exact hR.1 _ _ _ _ _ _ (by decide) (by decide) dX4_total_31 ⟨_, rfl, rfl⟩ ⟨_, _, rfl, rfl, hyp⟩
    · replace hyp := hyp.2 c
      refine ax_iload_n hX dX4_total_15 rfl ?_
      refine ax_aload_n hX dX4_total_16 (Or.inr ⟨_, rfl⟩) rfl ?_
      refine tx_getF hX fRX4_9 ly_66 (o := 1) (b := 67) fk_4_0 rfl (by decide) (Nat.lt_of_lt_of_le (by decide) hsz) dX4_total_17 ?_
      refine ax_iload_n hX dX4_total_20 rfl ?_
      refine tx_ial hX ly_67 (by decide) (Nat.lt_of_lt_of_le (by decide) hsz) hyp.1 dX4_total_21 ?_
      replace hyp := hyp.2
      refine ax_iadd hX dX4_total_22 ?_
      refine ax_istore_n hX dX4_total_23 (by decide) (L' := [some (.ref 66), some (.int v1), some (.int (v2 + (T.1 67 (v3.toNatClampNeg)))), some (.int v3)]) rfl ?_
      refine ax_iinc hX dX4_total_24 rfl (w := (v3 + (1 : Int32))) rfl (by decide) (L' := [some (.ref 66), some (.int v1), some (.int (v2 + (T.1 67 (v3.toNatClampNeg)))), some (.int (v3 + (1 : Int32)))]) rfl ?_
      refine ax_goto hX dX4_total_27 (tgt := 4) (by decide) ?_
      exact ax_forget (L' := [some (.ref 66), some (.int v1), some (.int (v2 + (T.1 67 (v3.toNatClampNeg)))), some (.int (v3 + (1 : Int32)))]) (⟨rfl, ⟨rfl, ⟨rfl, ⟨rfl, trivial⟩⟩⟩⟩) hyp
set_option maxRecDepth 10000 in
theorem s_X4_work_0 {X : ax_X} {d L sz : Nat} {T : tT} {Q : Int32 → tT → Prop} (hX : ax_ok X mX4_work (d + 1)) (hR : ax_Ret X mX4_work (ti L sz Q)) (hsz : 161 ≤ sz) {p : Nat} (h_p : tsy sz p) {q : Nat} (h_q : tgr sz q) (x3 : Int32) (x4 : Int32) (hyp : ax_j X 13 [some (.ref 66), some (.ref p), some (.ref q), some (.ref 69), some (.int x3), none, some (.int (if x4 < (0 : Int32) then (0 : Int32) else x4)), none, none, none] [] (th L sz (tI T 66 2 (0 : Int32))) 0 0) : ax_j X 0 [some (.ref 66), some (.ref p), some (.ref q), some (.ref 69), some (.int x3), some (.int x4), none, none, none, none] [] (th L sz T) 0 0 := by
  refine ax_aload_n hX dX4_work_0 (Or.inr ⟨_, rfl⟩) rfl ?_
  refine ax_iconst hX dX4_work_1 (v := 0) (by decide) ?_
  refine tx_putI hX fRX4_18 ly_66 fk_4_2 (by decide) (Nat.lt_of_lt_of_le (by decide) hsz) rfl rfl dX4_work_2 ?_
  refine ax_iload hX dX4_work_5 rfl ?_
  refine ax_iconst hX dX4_work_7 (v := 0) (by decide) ?_
  refine ax_mmax hX mlRX4_22 (Nat.le_of_ble_eq_true rfl) (by decide) (by decide) dX4_work_8 ?_
  refine ax_istore hX dX4_work_11 (by decide) (L' := [some (.ref 66), some (.ref p), some (.ref q), some (.ref 69), some (.int x3), some (.int x4), some (.int (if x4 < (0 : Int32) then (0 : Int32) else x4)), none, none, none]) rfl ?_
  exact ax_forget (L' := [some (.ref 66), some (.ref p), some (.ref q), some (.ref 69), some (.int x3), none, some (.int (if x4 < (0 : Int32) then (0 : Int32) else x4)), none, none, none]) (⟨rfl, ⟨rfl, ⟨rfl, ⟨rfl, ⟨rfl, ⟨rfl, trivial⟩⟩⟩⟩⟩⟩) hyp
set_option maxRecDepth 10000 in
theorem s_X4_work_13 {X : ax_X} {d L sz : Nat} {T : tT} {Q : Int32 → tT → Prop} (hX : ax_ok X mX4_work (d + 1)) (hR : ax_Ret X mX4_work (ti L sz Q)) (hsz : 161 ≤ sz) {p : Nat} (h_p : tsy sz p) {q : Nat} (h_q : tgr sz q) (v4 : Int32) (v6 : Int32) (hyp : (((T.1 p 3) ≤ v6 → ∃ Q1, tiK d mX4_pop [.ref 66] L sz T Q1 ∧ ∀ (r1 : Int32) (T1 : tT), Q1 r1 T1 → (Q r1 T1)) ∧ (¬ (T.1 p 3) ≤ v6 → vp_in v6 750 ∧ vp_in v6 750 ∧ ((¬ ((T.1 (p + 2) (v6.toNatClampNeg)) >>> ((20 : Int32) &&& 31)) = (59 : Int32) → ((((T.1 (p + 2) (v6.toNatClampNeg)) >>> ((20 : Int32) &&& 31)) = (2 : Int32) → ∃ Q1, tiK d mX4_markLeaf [.ref 66, .int ((T.1 (p + 2) (v6.toNatClampNeg)) >>> ((20 : Int32) &&& 31)), .int ((T.1 (p + 2) (v6.toNatClampNeg)) &&& (1048575 : Int32)), .ref q] L sz T Q1 ∧ ∀ (r2 : Int32) (T2 : tT), Q1 r2 T2 → (∃ Q1, tvK d mX4_push [.ref 66, .int r2] L sz T2 Q1 ∧ ∀ (T3 : tT), Q1 T3 → (ax_j X 13 [some (.ref 66), some (.ref p), some (.ref q), some (.ref 69), some (.int v4), none, some (.int (v6 + (1 : Int32))), none, none, none] [] (th L sz T3) 0 0))) ∧ (¬ ((T.1 (p + 2) (v6.toNatClampNeg)) >>> ((20 : Int32) &&& 31)) = (2 : Int32) → ((((T.1 (p + 2) (v6.toNatClampNeg)) >>> ((20 : Int32) &&& 31)) = (202 : Int32) → ∃ Q1, tiK d mX4_markLeaf [.ref 66, .int ((T.1 (p + 2) (v6.toNatClampNeg)) >>> ((20 : Int32) &&& 31)), .int ((T.1 (p + 2) (v6.toNatClampNeg)) &&& (1048575 : Int32)), .ref q] L sz T Q1 ∧ ∀ (r4 : Int32) (T4 : tT), Q1 r4 T4 → (∃ Q1, tvK d mX4_push [.ref 66, .int r4] L sz T4 Q1 ∧ ∀ (T5 : tT), Q1 T5 → (ax_j X 13 [some (.ref 66), some (.ref p), some (.ref q), some (.ref 69), some (.int v4), none, some (.int (v6 + (1 : Int32))), none, none, none] [] (th L sz T5) 0 0))) ∧ (¬ ((T.1 (p + 2) (v6.toNatClampNeg)) >>> ((20 : Int32) &&& 31)) = (202 : Int32) → ((((T.1 (p + 2) (v6.toNatClampNeg)) >>> ((20 : Int32) &&& 31)) < (213 : Int32) → ((((T.1 (p + 2) (v6.toNatClampNeg)) >>> ((20 : Int32) &&& 31)) = (201 : Int32) → ∃ Q1, tiK d mX4_pieceLeaf [.ref 66, .int ((T.1 (p + 2) (v6.toNatClampNeg)) >>> ((20 : Int32) &&& 31)), .int ((T.1 (p + 2) (v6.toNatClampNeg)) &&& (1048575 : Int32)), .ref q, .ref 69, .int v4] L sz T Q1 ∧ ∀ (r6 : Int32) (T6 : tT), Q1 r6 T6 → (∃ Q1, tvK d mX4_push [.ref 66, .int r6] L sz T6 Q1 ∧ ∀ (T7 : tT), Q1 T7 → (ax_j X 13 [some (.ref 66), some (.ref p), some (.ref q), some (.ref 69), some (.int v4), none, some (.int (v6 + (1 : Int32))), none, none, none] [] (th L sz T7) 0 0))) ∧ (¬ ((T.1 (p + 2) (v6.toNatClampNeg)) >>> ((20 : Int32) &&& 31)) = (201 : Int32) → ((((T.1 (p + 2) (v6.toNatClampNeg)) >>> ((20 : Int32) &&& 31)) < (210 : Int32) → ((¬ ((T.1 (p + 2) (v6.toNatClampNeg)) >>> ((20 : Int32) &&& 31)) = (209 : Int32) → ∃ Q1, tiK d mX4_pop [.ref 66] L sz T Q1 ∧ ∀ (r8 : Int32) (T8 : tT), Q1 r8 T8 → (∃ Q1, tiK d mX4_pop [.ref 66] L sz T8 Q1 ∧ ∀ (r9 : Int32) (T9 : tT), Q1 r9 T9 → (∃ Q1, tiK d mX4_join [.int ((T.1 (p + 2) (v6.toNatClampNeg)) >>> ((20 : Int32) &&& 31)), .int r9, .int r8] L sz T9 Q1 ∧ ∀ (r10 : Int32) (T10 : tT), Q1 r10 T10 → (∃ Q1, tvK d mX4_push [.ref 66, .int r10] L sz T10 Q1 ∧ ∀ (T11 : tT), Q1 T11 → (ax_j X 13 [some (.ref 66), some (.ref p), some (.ref q), some (.ref 69), some (.int v4), none, some (.int (v6 + (1 : Int32))), none, none, none] [] (th L sz T11) 0 0))))) ∧ (((T.1 (p + 2) (v6.toNatClampNeg)) >>> ((20 : Int32) &&& 31)) = (209 : Int32) → ∃ Q1, tiK d mX4_pop [.ref 66] L sz T Q1 ∧ ∀ (r12 : Int32) (T12 : tT), Q1 r12 T12 → (((¬ r12 = 0 → ∃ Q1, tvK d mX4_push [.ref 66, .int (0 : Int32)] L sz T12 Q1 ∧ ∀ (T13 : tT), Q1 T13 → (ax_j X 13 [some (.ref 66), some (.ref p), some (.ref q), some (.ref 69), some (.int v4), none, some (.int (v6 + (1 : Int32))), none, none, none] [] (th L sz T13) 0 0)) ∧ (r12 = 0 → ∃ Q1, tvK d mX4_push [.ref 66, .int (1 : Int32)] L sz T12 Q1 ∧ ∀ (T14 : tT), Q1 T14 → (ax_j X 13 [some (.ref 66), some (.ref p), some (.ref q), some (.ref 69), some (.int v4), none, some (.int (v6 + (1 : Int32))), none, none, none] [] (th L sz T14) 0 0))))))) ∧ (¬ ((T.1 (p + 2) (v6.toNatClampNeg)) >>> ((20 : Int32) &&& 31)) < (210 : Int32) → ∃ Q1, tiK d mX4_pieceLeaf [.ref 66, .int ((T.1 (p + 2) (v6.toNatClampNeg)) >>> ((20 : Int32) &&& 31)), .int ((T.1 (p + 2) (v6.toNatClampNeg)) &&& (1048575 : Int32)), .ref q, .ref 69, .int v4] L sz T Q1 ∧ ∀ (r15 : Int32) (T15 : tT), Q1 r15 T15 → (∃ Q1, tvK d mX4_push [.ref 66, .int r15] L sz T15 Q1 ∧ ∀ (T16 : tT), Q1 T16 → (ax_j X 13 [some (.ref 66), some (.ref p), some (.ref q), some (.ref 69), some (.int v4), none, some (.int (v6 + (1 : Int32))), none, none, none] [] (th L sz T16) 0 0))))))) ∧ (¬ ((T.1 (p + 2) (v6.toNatClampNeg)) >>> ((20 : Int32) &&& 31)) < (213 : Int32) → ∃ Q1, tiK d mX4_markLeaf [.ref 66, .int ((T.1 (p + 2) (v6.toNatClampNeg)) >>> ((20 : Int32) &&& 31)), .int ((T.1 (p + 2) (v6.toNatClampNeg)) &&& (1048575 : Int32)), .ref q] L sz T Q1 ∧ ∀ (r17 : Int32) (T17 : tT), Q1 r17 T17 → (∃ Q1, tvK d mX4_push [.ref 66, .int r17] L sz T17 Q1 ∧ ∀ (T18 : tT), Q1 T18 → (ax_j X 13 [some (.ref 66), some (.ref p), some (.ref q), some (.ref 69), some (.int v4), none, some (.int (v6 + (1 : Int32))), none, none, none] [] (th L sz T18) 0 0))))))))) ∧ (((T.1 (p + 2) (v6.toNatClampNeg)) >>> ((20 : Int32) &&& 31)) = (59 : Int32) → ∃ Q1, tiK d mX4_pop [.ref 66] L sz T Q1 ∧ ∀ (r19 : Int32) (T19 : tT), Q1 r19 T19 → (Q r19 T19)))))) : ax_j X 13 [some (.ref 66), some (.ref p), some (.ref q), some (.ref 69), some (.int v4), none, some (.int v6), none, none, none] [] (th L sz T) 0 0 := by
  refine ax_iload hX dX4_work_13 rfl ?_
  refine ax_aload_n hX dX4_work_15 (Or.inr ⟨_, rfl⟩) rfl ?_
  refine tx_getI hX fRX4_28 h_p.ly0 fk_8_3 (h_p.ne 0 (by decide)) (h_p.lt 0 (by decide)) dX4_work_16 ?_
  refine ax_icmp_ge hX dX4_work_19 (tgt := 183) (by decide) (fun c => ?_) (fun c => ?_)
  · replace hyp := hyp.1 c
    refine ax_aload_n hX dX4_work_183 (Or.inr ⟨_, rfl⟩) rfl ?_
    obtain ⟨Q1, hK, hyp⟩ := hyp
    refine ax_callV hX lRX4_49 im_X4_pop sl_X4_pop cw_X4_pop ((th_at (by decide) (Nat.lt_of_lt_of_le (by decide) hsz)).trans (tc_ob ly_66)) rfl rfl (A := []) (st := []) rfl rfl (Nat.le_of_ble_eq_true rfl) (by decide) (by decide) dX4_work_184 hK ?_
    rintro _ _ ⟨r1, T1, rfl, rfl, hq⟩
    replace hyp := hyp r1 T1 hq
    exact hR.1 _ _ _ _ _ _ (by decide) (by decide) dX4_work_187 ⟨_, rfl, rfl⟩ ⟨_, _, rfl, rfl, hyp⟩
  · replace hyp := hyp.2 c
    refine ax_aload_n hX dX4_work_22 (Or.inr ⟨_, rfl⟩) rfl ?_
    refine tx_getF hX fRX4_33 h_p.ly0 (o := 2) (b := (p + 2)) fk_8_1 rfl (h_p.ne 0 (by decide)) (h_p.lt 0 (by decide)) dX4_work_23 ?_
    refine ax_iload hX dX4_work_26 rfl ?_
    refine tx_ial hX h_p.ly2 (h_p.ne 2 (by decide)) (h_p.lt 2 (by decide)) hyp.1 dX4_work_28 ?_
    replace hyp := hyp.2
    refine ax_bipush hX dX4_work_29 (v := 20) (by decide) ?_
    refine ax_ishr hX dX4_work_31 ?_
    refine ax_istore hX dX4_work_32 (by decide) (L' := [some (.ref 66), some (.ref p), some (.ref q), some (.ref 69), some (.int v4), none, some (.int v6), some (.int ((T.1 (p + 2) (v6.toNatClampNeg)) >>> ((20 : Int32) &&& 31))), none, none]) rfl ?_
    refine ax_aload_n hX dX4_work_34 (Or.inr ⟨_, rfl⟩) rfl ?_
    refine tx_getF hX fRX4_33 h_p.ly0 (o := 2) (b := (p + 2)) fk_8_1 rfl (h_p.ne 0 (by decide)) (h_p.lt 0 (by decide)) dX4_work_35 ?_
    refine ax_iload hX dX4_work_38 rfl ?_
    refine tx_ial hX h_p.ly2 (h_p.ne 2 (by decide)) (h_p.lt 2 (by decide)) hyp.1 dX4_work_40 ?_
    replace hyp := hyp.2
    refine ax_ldc hX vRX4_36 dX4_work_41 ?_
    refine ax_iand hX dX4_work_43 ?_
    refine ax_istore hX dX4_work_44 (by decide) (L' := [some (.ref 66), some (.ref p), some (.ref q), some (.ref 69), some (.int v4), none, some (.int v6), some (.int ((T.1 (p + 2) (v6.toNatClampNeg)) >>> ((20 : Int32) &&& 31))), some (.int ((T.1 (p + 2) (v6.toNatClampNeg)) &&& (1048575 : Int32))), none]) rfl ?_
    refine ax_iload hX dX4_work_46 rfl ?_
    refine ax_bipush hX dX4_work_48 (v := 59) (by decide) ?_
    refine ax_icmp_ne hX dX4_work_50 (tgt := 56) (by decide) (fun c => ?_) (fun c => ?_)
    · replace hyp := hyp.1 c
      refine ax_iload hX dX4_work_56 rfl ?_
      refine ax_iconst hX dX4_work_58 (v := 2) (by decide) ?_
      refine ax_icmp_eq hX dX4_work_59 (tgt := 78) (by decide) (fun c => ?_) (fun c => ?_)
      · replace hyp := hyp.1 c
        refine ax_aload_n hX dX4_work_78 (Or.inr ⟨_, rfl⟩) rfl ?_
        refine ax_aload_n hX dX4_work_79 (Or.inr ⟨_, rfl⟩) rfl ?_
        refine ax_iload hX dX4_work_80 rfl ?_
        refine ax_iload hX dX4_work_82 rfl ?_
        refine ax_aload_n hX dX4_work_84 (Or.inr ⟨_, rfl⟩) rfl ?_
        obtain ⟨Q1, hK, hyp⟩ := hyp
        refine ax_callV hX lRX4_37 im_X4_markLeaf sl_X4_markLeaf cw_X4_markLeaf ((th_at (by decide) (Nat.lt_of_lt_of_le (by decide) hsz)).trans (tc_ob ly_66)) rfl rfl (A := [.int ((T.1 (p + 2) (v6.toNatClampNeg)) >>> ((20 : Int32) &&& 31)), .int ((T.1 (p + 2) (v6.toNatClampNeg)) &&& (1048575 : Int32)), .ref q]) (st := [.ref 66]) rfl rfl (Nat.le_of_ble_eq_true rfl) (by decide) (by decide) dX4_work_85 hK ?_
        rintro _ _ ⟨r2, T2, rfl, rfl, hq⟩
        replace hyp := hyp r2 T2 hq
        obtain ⟨Q1, hK, hyp⟩ := hyp
        refine ax_callV hX lRX4_41 im_X4_push sl_X4_push cw_X4_push ((th_at (by decide) (Nat.lt_of_lt_of_le (by decide) hsz)).trans (tc_ob ly_66)) rfl rfl (A := [.int r2]) (st := []) rfl rfl (Nat.le_of_ble_eq_true rfl) (by decide) (by decide) dX4_work_88 hK ?_
        rintro _ _ ⟨T3, rfl, rfl, hq⟩
        replace hyp := hyp T3 hq
        refine ax_goto hX dX4_work_91 (tgt := 177) (by decide) ?_
        refine ax_iinc hX dX4_work_177 rfl (w := (v6 + (1 : Int32))) rfl (by decide) (L' := [some (.ref 66), some (.ref p), some (.ref q), some (.ref 69), some (.int v4), none, some (.int (v6 + (1 : Int32))), some (.int ((T.1 (p + 2) (v6.toNatClampNeg)) >>> ((20 : Int32) &&& 31))), some (.int ((T.1 (p + 2) (v6.toNatClampNeg)) &&& (1048575 : Int32))), none]) rfl ?_
        refine ax_goto hX dX4_work_180 (tgt := 13) (by decide) ?_
        exact ax_forget (L' := [some (.ref 66), some (.ref p), some (.ref q), some (.ref 69), some (.int v4), none, some (.int (v6 + (1 : Int32))), none, none, none]) (⟨rfl, ⟨rfl, ⟨rfl, ⟨rfl, ⟨rfl, ⟨rfl, trivial⟩⟩⟩⟩⟩⟩) hyp
      · replace hyp := hyp.2 c
        refine ax_iload hX dX4_work_62 rfl ?_
        refine ax_sipush hX dX4_work_64 (v := 202) (by decide) ?_
        refine ax_icmp_eq hX dX4_work_67 (tgt := 78) (by decide) (fun c => ?_) (fun c => ?_)
        · replace hyp := hyp.1 c
          refine ax_aload_n hX dX4_work_78 (Or.inr ⟨_, rfl⟩) rfl ?_
          refine ax_aload_n hX dX4_work_79 (Or.inr ⟨_, rfl⟩) rfl ?_
          refine ax_iload hX dX4_work_80 rfl ?_
          refine ax_iload hX dX4_work_82 rfl ?_
          refine ax_aload_n hX dX4_work_84 (Or.inr ⟨_, rfl⟩) rfl ?_
          obtain ⟨Q1, hK, hyp⟩ := hyp
          refine ax_callV hX lRX4_37 im_X4_markLeaf sl_X4_markLeaf cw_X4_markLeaf ((th_at (by decide) (Nat.lt_of_lt_of_le (by decide) hsz)).trans (tc_ob ly_66)) rfl rfl (A := [.int ((T.1 (p + 2) (v6.toNatClampNeg)) >>> ((20 : Int32) &&& 31)), .int ((T.1 (p + 2) (v6.toNatClampNeg)) &&& (1048575 : Int32)), .ref q]) (st := [.ref 66]) rfl rfl (Nat.le_of_ble_eq_true rfl) (by decide) (by decide) dX4_work_85 hK ?_
          rintro _ _ ⟨r4, T4, rfl, rfl, hq⟩
          replace hyp := hyp r4 T4 hq
          obtain ⟨Q1, hK, hyp⟩ := hyp
          refine ax_callV hX lRX4_41 im_X4_push sl_X4_push cw_X4_push ((th_at (by decide) (Nat.lt_of_lt_of_le (by decide) hsz)).trans (tc_ob ly_66)) rfl rfl (A := [.int r4]) (st := []) rfl rfl (Nat.le_of_ble_eq_true rfl) (by decide) (by decide) dX4_work_88 hK ?_
          rintro _ _ ⟨T5, rfl, rfl, hq⟩
          replace hyp := hyp T5 hq
          refine ax_goto hX dX4_work_91 (tgt := 177) (by decide) ?_
          refine ax_iinc hX dX4_work_177 rfl (w := (v6 + (1 : Int32))) rfl (by decide) (L' := [some (.ref 66), some (.ref p), some (.ref q), some (.ref 69), some (.int v4), none, some (.int (v6 + (1 : Int32))), some (.int ((T.1 (p + 2) (v6.toNatClampNeg)) >>> ((20 : Int32) &&& 31))), some (.int ((T.1 (p + 2) (v6.toNatClampNeg)) &&& (1048575 : Int32))), none]) rfl ?_
          refine ax_goto hX dX4_work_180 (tgt := 13) (by decide) ?_
          exact ax_forget (L' := [some (.ref 66), some (.ref p), some (.ref q), some (.ref 69), some (.int v4), none, some (.int (v6 + (1 : Int32))), none, none, none]) (⟨rfl, ⟨rfl, ⟨rfl, ⟨rfl, ⟨rfl, ⟨rfl, trivial⟩⟩⟩⟩⟩⟩) hyp
        · replace hyp := hyp.2 c
          refine ax_iload hX dX4_work_70 rfl ?_
          refine ax_sipush hX dX4_work_72 (v := 213) (by decide) ?_
          refine ax_icmp_lt hX dX4_work_75 (tgt := 94) (by decide) (fun c => ?_) (fun c => ?_)
          · replace hyp := hyp.1 c
            refine ax_iload hX dX4_work_94 rfl ?_
            refine ax_sipush hX dX4_work_96 (v := 201) (by decide) ?_
            refine ax_icmp_eq hX dX4_work_99 (tgt := 110) (by decide) (fun c => ?_) (fun c => ?_)
            · replace hyp := hyp.1 c
              refine ax_aload_n hX dX4_work_110 (Or.inr ⟨_, rfl⟩) rfl ?_
              refine ax_aload_n hX dX4_work_111 (Or.inr ⟨_, rfl⟩) rfl ?_
              refine ax_iload hX dX4_work_112 rfl ?_
              refine ax_iload hX dX4_work_114 rfl ?_
              refine ax_aload_n hX dX4_work_116 (Or.inr ⟨_, rfl⟩) rfl ?_
              refine ax_aload_n hX dX4_work_117 (Or.inr ⟨_, rfl⟩) rfl ?_
              refine ax_iload hX dX4_work_118 rfl ?_
              obtain ⟨Q1, hK, hyp⟩ := hyp
              refine ax_callV hX lRX4_45 im_X4_pieceLeaf sl_X4_pieceLeaf cw_X4_pieceLeaf ((th_at (by decide) (Nat.lt_of_lt_of_le (by decide) hsz)).trans (tc_ob ly_66)) rfl rfl (A := [.int ((T.1 (p + 2) (v6.toNatClampNeg)) >>> ((20 : Int32) &&& 31)), .int ((T.1 (p + 2) (v6.toNatClampNeg)) &&& (1048575 : Int32)), .ref q, .ref 69, .int v4]) (st := [.ref 66]) rfl rfl (Nat.le_of_ble_eq_true rfl) (by decide) (by decide) dX4_work_120 hK ?_
              rintro _ _ ⟨r6, T6, rfl, rfl, hq⟩
              replace hyp := hyp r6 T6 hq
              obtain ⟨Q1, hK, hyp⟩ := hyp
              refine ax_callV hX lRX4_41 im_X4_push sl_X4_push cw_X4_push ((th_at (by decide) (Nat.lt_of_lt_of_le (by decide) hsz)).trans (tc_ob ly_66)) rfl rfl (A := [.int r6]) (st := []) rfl rfl (Nat.le_of_ble_eq_true rfl) (by decide) (by decide) dX4_work_123 hK ?_
              rintro _ _ ⟨T7, rfl, rfl, hq⟩
              replace hyp := hyp T7 hq
              refine ax_goto hX dX4_work_126 (tgt := 177) (by decide) ?_
              refine ax_iinc hX dX4_work_177 rfl (w := (v6 + (1 : Int32))) rfl (by decide) (L' := [some (.ref 66), some (.ref p), some (.ref q), some (.ref 69), some (.int v4), none, some (.int (v6 + (1 : Int32))), some (.int ((T.1 (p + 2) (v6.toNatClampNeg)) >>> ((20 : Int32) &&& 31))), some (.int ((T.1 (p + 2) (v6.toNatClampNeg)) &&& (1048575 : Int32))), none]) rfl ?_
              refine ax_goto hX dX4_work_180 (tgt := 13) (by decide) ?_
              exact ax_forget (L' := [some (.ref 66), some (.ref p), some (.ref q), some (.ref 69), some (.int v4), none, some (.int (v6 + (1 : Int32))), none, none, none]) (⟨rfl, ⟨rfl, ⟨rfl, ⟨rfl, ⟨rfl, ⟨rfl, trivial⟩⟩⟩⟩⟩⟩) hyp
            · replace hyp := hyp.2 c
              refine ax_iload hX dX4_work_102 rfl ?_
              refine ax_sipush hX dX4_work_104 (v := 210) (by decide) ?_
              refine ax_icmp_lt hX dX4_work_107 (tgt := 129) (by decide) (fun c => ?_) (fun c => ?_)
              · replace hyp := hyp.1 c
                refine ax_iload hX dX4_work_129 rfl ?_
                refine ax_sipush hX dX4_work_131 (v := 209) (by decide) ?_
                refine ax_icmp_ne hX dX4_work_134 (tgt := 156) (by decide) (fun c => ?_) (fun c => ?_)
                · replace hyp := hyp.1 c
                  refine ax_aload_n hX dX4_work_156 (Or.inr ⟨_, rfl⟩) rfl ?_
                  obtain ⟨Q1, hK, hyp⟩ := hyp
                  refine ax_callV hX lRX4_49 im_X4_pop sl_X4_pop cw_X4_pop ((th_at (by decide) (Nat.lt_of_lt_of_le (by decide) hsz)).trans (tc_ob ly_66)) rfl rfl (A := []) (st := []) rfl rfl (Nat.le_of_ble_eq_true rfl) (by decide) (by decide) dX4_work_157 hK ?_
                  rintro _ _ ⟨r8, T8, rfl, rfl, hq⟩
                  replace hyp := hyp r8 T8 hq
                  refine ax_istore hX dX4_work_160 (by decide) (L' := [some (.ref 66), some (.ref p), some (.ref q), some (.ref 69), some (.int v4), none, some (.int v6), some (.int ((T.1 (p + 2) (v6.toNatClampNeg)) >>> ((20 : Int32) &&& 31))), some (.int ((T.1 (p + 2) (v6.toNatClampNeg)) &&& (1048575 : Int32))), some (.int r8)]) rfl ?_
                  refine ax_aload_n hX dX4_work_162 (Or.inr ⟨_, rfl⟩) rfl ?_
                  refine ax_iload hX dX4_work_163 rfl ?_
                  refine ax_aload_n hX dX4_work_165 (Or.inr ⟨_, rfl⟩) rfl ?_
                  obtain ⟨Q1, hK, hyp⟩ := hyp
                  refine ax_callV hX lRX4_49 im_X4_pop sl_X4_pop cw_X4_pop ((th_at (by decide) (Nat.lt_of_lt_of_le (by decide) hsz)).trans (tc_ob ly_66)) rfl rfl (A := []) (st := [.int ((T.1 (p + 2) (v6.toNatClampNeg)) >>> ((20 : Int32) &&& 31)), .ref 66]) rfl rfl (Nat.le_of_ble_eq_true rfl) (by decide) (by decide) dX4_work_166 hK ?_
                  rintro _ _ ⟨r9, T9, rfl, rfl, hq⟩
                  replace hyp := hyp r9 T9 hq
                  refine ax_iload hX dX4_work_169 rfl ?_
                  obtain ⟨Q1, hK, hyp⟩ := hyp
                  refine ax_callS hX lRX4_53 sm_X4_join cw_X4_join (A := [.int ((T.1 (p + 2) (v6.toNatClampNeg)) >>> ((20 : Int32) &&& 31)), .int r9, .int r8]) (st := [.ref 66]) rfl rfl (Nat.le_of_ble_eq_true rfl) (by decide) (by decide) dX4_work_171 hK ?_
                  rintro _ _ ⟨r10, T10, rfl, rfl, hq⟩
                  replace hyp := hyp r10 T10 hq
                  obtain ⟨Q1, hK, hyp⟩ := hyp
                  refine ax_callV hX lRX4_41 im_X4_push sl_X4_push cw_X4_push ((th_at (by decide) (Nat.lt_of_lt_of_le (by decide) hsz)).trans (tc_ob ly_66)) rfl rfl (A := [.int r10]) (st := []) rfl rfl (Nat.le_of_ble_eq_true rfl) (by decide) (by decide) dX4_work_174 hK ?_
                  rintro _ _ ⟨T11, rfl, rfl, hq⟩
                  replace hyp := hyp T11 hq
                  refine ax_iinc hX dX4_work_177 rfl (w := (v6 + (1 : Int32))) rfl (by decide) (L' := [some (.ref 66), some (.ref p), some (.ref q), some (.ref 69), some (.int v4), none, some (.int (v6 + (1 : Int32))), some (.int ((T.1 (p + 2) (v6.toNatClampNeg)) >>> ((20 : Int32) &&& 31))), some (.int ((T.1 (p + 2) (v6.toNatClampNeg)) &&& (1048575 : Int32))), some (.int r8)]) rfl ?_
                  refine ax_goto hX dX4_work_180 (tgt := 13) (by decide) ?_
                  exact ax_forget (L' := [some (.ref 66), some (.ref p), some (.ref q), some (.ref 69), some (.int v4), none, some (.int (v6 + (1 : Int32))), none, none, none]) (⟨rfl, ⟨rfl, ⟨rfl, ⟨rfl, ⟨rfl, ⟨rfl, trivial⟩⟩⟩⟩⟩⟩) hyp
                · replace hyp := hyp.2 c
                  refine ax_aload_n hX dX4_work_137 (Or.inr ⟨_, rfl⟩) rfl ?_
                  refine ax_aload_n hX dX4_work_138 (Or.inr ⟨_, rfl⟩) rfl ?_
                  obtain ⟨Q1, hK, hyp⟩ := hyp
                  refine ax_callV hX lRX4_49 im_X4_pop sl_X4_pop cw_X4_pop ((th_at (by decide) (Nat.lt_of_lt_of_le (by decide) hsz)).trans (tc_ob ly_66)) rfl rfl (A := []) (st := [.ref 66]) rfl rfl (Nat.le_of_ble_eq_true rfl) (by decide) (by decide) dX4_work_139 hK ?_
                  rintro _ _ ⟨r12, T12, rfl, rfl, hq⟩
                  replace hyp := hyp r12 T12 hq
                  refine ax_if_ne hX dX4_work_142 (tgt := 149) (by decide) (fun c => ?_) (fun c => ?_)
                  · replace hyp := hyp.1 c
                    refine ax_iconst hX dX4_work_149 (v := 0) (by decide) ?_
                    obtain ⟨Q1, hK, hyp⟩ := hyp
                    refine ax_callV hX lRX4_41 im_X4_push sl_X4_push cw_X4_push ((th_at (by decide) (Nat.lt_of_lt_of_le (by decide) hsz)).trans (tc_ob ly_66)) rfl rfl (A := [.int (0 : Int32)]) (st := []) rfl rfl (Nat.le_of_ble_eq_true rfl) (by decide) (by decide) dX4_work_150 hK ?_
                    rintro _ _ ⟨T13, rfl, rfl, hq⟩
                    replace hyp := hyp T13 hq
                    refine ax_goto hX dX4_work_153 (tgt := 177) (by decide) ?_
                    refine ax_iinc hX dX4_work_177 rfl (w := (v6 + (1 : Int32))) rfl (by decide) (L' := [some (.ref 66), some (.ref p), some (.ref q), some (.ref 69), some (.int v4), none, some (.int (v6 + (1 : Int32))), some (.int ((T.1 (p + 2) (v6.toNatClampNeg)) >>> ((20 : Int32) &&& 31))), some (.int ((T.1 (p + 2) (v6.toNatClampNeg)) &&& (1048575 : Int32))), none]) rfl ?_
                    refine ax_goto hX dX4_work_180 (tgt := 13) (by decide) ?_
                    exact ax_forget (L' := [some (.ref 66), some (.ref p), some (.ref q), some (.ref 69), some (.int v4), none, some (.int (v6 + (1 : Int32))), none, none, none]) (⟨rfl, ⟨rfl, ⟨rfl, ⟨rfl, ⟨rfl, ⟨rfl, trivial⟩⟩⟩⟩⟩⟩) hyp
                  · replace hyp := hyp.2 c
                    refine ax_iconst hX dX4_work_145 (v := 1) (by decide) ?_
                    refine ax_goto hX dX4_work_146 (tgt := 150) (by decide) ?_
                    obtain ⟨Q1, hK, hyp⟩ := hyp
                    refine ax_callV hX lRX4_41 im_X4_push sl_X4_push cw_X4_push ((th_at (by decide) (Nat.lt_of_lt_of_le (by decide) hsz)).trans (tc_ob ly_66)) rfl rfl (A := [.int (1 : Int32)]) (st := []) rfl rfl (Nat.le_of_ble_eq_true rfl) (by decide) (by decide) dX4_work_150 hK ?_
                    rintro _ _ ⟨T14, rfl, rfl, hq⟩
                    replace hyp := hyp T14 hq
                    refine ax_goto hX dX4_work_153 (tgt := 177) (by decide) ?_
                    refine ax_iinc hX dX4_work_177 rfl (w := (v6 + (1 : Int32))) rfl (by decide) (L' := [some (.ref 66), some (.ref p), some (.ref q), some (.ref 69), some (.int v4), none, some (.int (v6 + (1 : Int32))), some (.int ((T.1 (p + 2) (v6.toNatClampNeg)) >>> ((20 : Int32) &&& 31))), some (.int ((T.1 (p + 2) (v6.toNatClampNeg)) &&& (1048575 : Int32))), none]) rfl ?_
                    refine ax_goto hX dX4_work_180 (tgt := 13) (by decide) ?_
                    exact ax_forget (L' := [some (.ref 66), some (.ref p), some (.ref q), some (.ref 69), some (.int v4), none, some (.int (v6 + (1 : Int32))), none, none, none]) (⟨rfl, ⟨rfl, ⟨rfl, ⟨rfl, ⟨rfl, ⟨rfl, trivial⟩⟩⟩⟩⟩⟩) hyp
              · replace hyp := hyp.2 c
                refine ax_aload_n hX dX4_work_110 (Or.inr ⟨_, rfl⟩) rfl ?_
                refine ax_aload_n hX dX4_work_111 (Or.inr ⟨_, rfl⟩) rfl ?_
                refine ax_iload hX dX4_work_112 rfl ?_
                refine ax_iload hX dX4_work_114 rfl ?_
                refine ax_aload_n hX dX4_work_116 (Or.inr ⟨_, rfl⟩) rfl ?_
                refine ax_aload_n hX dX4_work_117 (Or.inr ⟨_, rfl⟩) rfl ?_
                refine ax_iload hX dX4_work_118 rfl ?_
                obtain ⟨Q1, hK, hyp⟩ := hyp
                refine ax_callV hX lRX4_45 im_X4_pieceLeaf sl_X4_pieceLeaf cw_X4_pieceLeaf ((th_at (by decide) (Nat.lt_of_lt_of_le (by decide) hsz)).trans (tc_ob ly_66)) rfl rfl (A := [.int ((T.1 (p + 2) (v6.toNatClampNeg)) >>> ((20 : Int32) &&& 31)), .int ((T.1 (p + 2) (v6.toNatClampNeg)) &&& (1048575 : Int32)), .ref q, .ref 69, .int v4]) (st := [.ref 66]) rfl rfl (Nat.le_of_ble_eq_true rfl) (by decide) (by decide) dX4_work_120 hK ?_
                rintro _ _ ⟨r15, T15, rfl, rfl, hq⟩
                replace hyp := hyp r15 T15 hq
                obtain ⟨Q1, hK, hyp⟩ := hyp
                refine ax_callV hX lRX4_41 im_X4_push sl_X4_push cw_X4_push ((th_at (by decide) (Nat.lt_of_lt_of_le (by decide) hsz)).trans (tc_ob ly_66)) rfl rfl (A := [.int r15]) (st := []) rfl rfl (Nat.le_of_ble_eq_true rfl) (by decide) (by decide) dX4_work_123 hK ?_
                rintro _ _ ⟨T16, rfl, rfl, hq⟩
                replace hyp := hyp T16 hq
                refine ax_goto hX dX4_work_126 (tgt := 177) (by decide) ?_
                refine ax_iinc hX dX4_work_177 rfl (w := (v6 + (1 : Int32))) rfl (by decide) (L' := [some (.ref 66), some (.ref p), some (.ref q), some (.ref 69), some (.int v4), none, some (.int (v6 + (1 : Int32))), some (.int ((T.1 (p + 2) (v6.toNatClampNeg)) >>> ((20 : Int32) &&& 31))), some (.int ((T.1 (p + 2) (v6.toNatClampNeg)) &&& (1048575 : Int32))), none]) rfl ?_
                refine ax_goto hX dX4_work_180 (tgt := 13) (by decide) ?_
                exact ax_forget (L' := [some (.ref 66), some (.ref p), some (.ref q), some (.ref 69), some (.int v4), none, some (.int (v6 + (1 : Int32))), none, none, none]) (⟨rfl, ⟨rfl, ⟨rfl, ⟨rfl, ⟨rfl, ⟨rfl, trivial⟩⟩⟩⟩⟩⟩) hyp
          · replace hyp := hyp.2 c
            refine ax_aload_n hX dX4_work_78 (Or.inr ⟨_, rfl⟩) rfl ?_
            refine ax_aload_n hX dX4_work_79 (Or.inr ⟨_, rfl⟩) rfl ?_
            refine ax_iload hX dX4_work_80 rfl ?_
            refine ax_iload hX dX4_work_82 rfl ?_
            refine ax_aload_n hX dX4_work_84 (Or.inr ⟨_, rfl⟩) rfl ?_
            obtain ⟨Q1, hK, hyp⟩ := hyp
            refine ax_callV hX lRX4_37 im_X4_markLeaf sl_X4_markLeaf cw_X4_markLeaf ((th_at (by decide) (Nat.lt_of_lt_of_le (by decide) hsz)).trans (tc_ob ly_66)) rfl rfl (A := [.int ((T.1 (p + 2) (v6.toNatClampNeg)) >>> ((20 : Int32) &&& 31)), .int ((T.1 (p + 2) (v6.toNatClampNeg)) &&& (1048575 : Int32)), .ref q]) (st := [.ref 66]) rfl rfl (Nat.le_of_ble_eq_true rfl) (by decide) (by decide) dX4_work_85 hK ?_
            rintro _ _ ⟨r17, T17, rfl, rfl, hq⟩
            replace hyp := hyp r17 T17 hq
            obtain ⟨Q1, hK, hyp⟩ := hyp
            refine ax_callV hX lRX4_41 im_X4_push sl_X4_push cw_X4_push ((th_at (by decide) (Nat.lt_of_lt_of_le (by decide) hsz)).trans (tc_ob ly_66)) rfl rfl (A := [.int r17]) (st := []) rfl rfl (Nat.le_of_ble_eq_true rfl) (by decide) (by decide) dX4_work_88 hK ?_
            rintro _ _ ⟨T18, rfl, rfl, hq⟩
            replace hyp := hyp T18 hq
            refine ax_goto hX dX4_work_91 (tgt := 177) (by decide) ?_
            refine ax_iinc hX dX4_work_177 rfl (w := (v6 + (1 : Int32))) rfl (by decide) (L' := [some (.ref 66), some (.ref p), some (.ref q), some (.ref 69), some (.int v4), none, some (.int (v6 + (1 : Int32))), some (.int ((T.1 (p + 2) (v6.toNatClampNeg)) >>> ((20 : Int32) &&& 31))), some (.int ((T.1 (p + 2) (v6.toNatClampNeg)) &&& (1048575 : Int32))), none]) rfl ?_
            refine ax_goto hX dX4_work_180 (tgt := 13) (by decide) ?_
            exact ax_forget (L' := [some (.ref 66), some (.ref p), some (.ref q), some (.ref 69), some (.int v4), none, some (.int (v6 + (1 : Int32))), none, none, none]) (⟨rfl, ⟨rfl, ⟨rfl, ⟨rfl, ⟨rfl, ⟨rfl, trivial⟩⟩⟩⟩⟩⟩) hyp
    · replace hyp := hyp.2 c
      refine ax_goto hX dX4_work_53 (tgt := 183) (by decide) ?_
      refine ax_aload_n hX dX4_work_183 (Or.inr ⟨_, rfl⟩) rfl ?_
      obtain ⟨Q1, hK, hyp⟩ := hyp
      refine ax_callV hX lRX4_49 im_X4_pop sl_X4_pop cw_X4_pop ((th_at (by decide) (Nat.lt_of_lt_of_le (by decide) hsz)).trans (tc_ob ly_66)) rfl rfl (A := []) (st := []) rfl rfl (Nat.le_of_ble_eq_true rfl) (by decide) (by decide) dX4_work_184 hK ?_
      rintro _ _ ⟨r19, T19, rfl, rfl, hq⟩
      replace hyp := hyp r19 T19 hq
      exact hR.1 _ _ _ _ _ _ (by decide) (by decide) dX4_work_187 ⟨_, rfl, rfl⟩ ⟨_, _, rfl, rfl, hyp⟩
set_option maxRecDepth 10000 in
theorem s_X5_hardnessOf_0 {X : ax_X} {d L sz : Nat} {T : tT} {Q : Int32 → tT → Prop} (hX : ax_ok X mX5_hardnessOf (d + 1)) (hR : ax_Ret X mX5_hardnessOf (ti L sz Q)) (hsz : 161 ≤ sz) (x0 : Int32) (x1 : Int32) (hyp : ax_j X 5 [some (.ref 93), some (.int x0), some (.int x1), some (.int (0 : Int32)), some (.int (0 : Int32)), none, none, none] [] (th L sz T) 0 0) : ax_j X 0 [some (.ref 93), some (.int x0), some (.int x1), none, none, none, none, none] [] (th L sz T) 0 0 := by
  refine ax_iconst hX dX5_hardnessOf_0 (v := 0) (by decide) ?_
  refine ax_istore_n hX dX5_hardnessOf_1 (by decide) (L' := [some (.ref 93), some (.int x0), some (.int x1), some (.int (0 : Int32)), none, none, none, none]) rfl ?_
  refine ax_iconst hX dX5_hardnessOf_2 (v := 0) (by decide) ?_
  refine ax_istore hX dX5_hardnessOf_3 (by decide) (L' := [some (.ref 93), some (.int x0), some (.int x1), some (.int (0 : Int32)), some (.int (0 : Int32)), none, none, none]) rfl ?_
  exact ax_forget (L' := [some (.ref 93), some (.int x0), some (.int x1), some (.int (0 : Int32)), some (.int (0 : Int32)), none, none, none]) (⟨rfl, ⟨rfl, ⟨rfl, ⟨rfl, ⟨rfl, trivial⟩⟩⟩⟩⟩) hyp
set_option maxRecDepth 10000 in
theorem s_X5_hardnessOf_5 {X : ax_X} {d L sz : Nat} {T : tT} {Q : Int32 → tT → Prop} (hX : ax_ok X mX5_hardnessOf (d + 1)) (hR : ax_Ret X mX5_hardnessOf (ti L sz Q)) (hsz : 161 ≤ sz) (v1 : Int32) (v2 : Int32) (v3 : Int32) (v4 : Int32) (hyp : (((T.1 93 1) ≤ v4 → ((¬ v3 = 0 → vp_in ((v3 - (1 : Int32)) / (2 : Int32)) 200 ∧ Q (T.1 100 ((v3 - (1 : Int32)) / (2 : Int32)).toNatClampNeg) T) ∧ (v3 = 0 → Q (-1000 : Int32) T))) ∧ (¬ (T.1 93 1) ≤ v4 → vp_in v4 200 ∧ ((¬ (T.1 95 (v4.toNatClampNeg)) = v1 → ax_j X 63 [some (.ref 93), some (.int v1), some (.int v2), some (.int v3), some (.int v4), some (.int (0 : Int32)), some (.int (0 : Int32)), none] [] (th L sz T) 0 0) ∧ ((T.1 95 (v4.toNatClampNeg)) = v1 → vp_in v4 200 ∧ vp_in v4 200 ∧ ∃ Q1, tiK d mX5_lastOf [.ref 93, .int v1, .int (T.1 94 (v4.toNatClampNeg)), .int (T.1 96 (v4.toNatClampNeg)), .int (T.1 93 0)] L sz T Q1 ∧ ∀ (r1 : Int32) (T1 : tT), Q1 r1 T1 → (((¬ r1 = v4 → ax_j X 63 [some (.ref 93), some (.int v1), some (.int v2), some (.int v3), some (.int v4), some (.int (0 : Int32)), some (.int (0 : Int32)), none] [] (th L sz T1) 0 0) ∧ (r1 = v4 → ax_j X 63 [some (.ref 93), some (.int v1), some (.int v2), some (.int v3), some (.int v4), some (.int (1 : Int32)), some (.int (0 : Int32)), none] [] (th L sz T1) 0 0)))))))) : ax_j X 5 [some (.ref 93), some (.int v1), some (.int v2), some (.int v3), some (.int v4), none, none, none] [] (th L sz T) 0 0 := by
  refine ax_iload hX dX5_hardnessOf_5 rfl ?_
  refine ax_aload_n hX dX5_hardnessOf_7 (Or.inr ⟨_, rfl⟩) rfl ?_
  refine tx_getI hX fRX5_33 ly_93 fk_5_1 (by decide) (Nat.lt_of_lt_of_le (by decide) hsz) dX5_hardnessOf_8 ?_
  refine ax_icmp_ge hX dX5_hardnessOf_11 (tgt := 145) (by decide) (fun c => ?_) (fun c => ?_)
  · replace hyp := hyp.1 c
    refine ax_iload_n hX dX5_hardnessOf_145 rfl ?_
    refine ax_if_ne hX dX5_hardnessOf_146 (tgt := 155) (by decide) (fun c => ?_) (fun c => ?_)
    · replace hyp := hyp.1 c
      refine ax_aload_n hX dX5_hardnessOf_155 (Or.inr ⟨_, rfl⟩) rfl ?_
      refine tx_getF hX fRX5_30 ly_93 (o := 7) (b := 100) fk_5_8 rfl (by decide) (Nat.lt_of_lt_of_le (by decide) hsz) dX5_hardnessOf_156 ?_
      refine ax_iload_n hX dX5_hardnessOf_159 rfl ?_
      refine ax_iconst hX dX5_hardnessOf_160 (v := 1) (by decide) ?_
      refine ax_isub hX dX5_hardnessOf_161 ?_
      refine ax_iconst hX dX5_hardnessOf_162 (v := 2) (by decide) ?_
      refine ax_idiv hX dX5_hardnessOf_163 (by decide) ?_
      refine tx_ial hX ly_100 (by decide) (Nat.lt_of_lt_of_le (by decide) hsz) hyp.1 dX5_hardnessOf_164 ?_
      replace hyp := hyp.2
      exact hR.1 _ _ _ _ _ _ (by decide) (by decide) dX5_hardnessOf_165 ⟨_, rfl, rfl⟩ ⟨_, _, rfl, rfl, hyp⟩
    · replace hyp := hyp.2 c
      refine ax_sipush hX dX5_hardnessOf_149 (v := -1000) (by decide) ?_
      refine ax_goto hX dX5_hardnessOf_152 (tgt := 165) (by decide) ?_
      exact hR.1 _ _ _ _ _ _ (by decide) (by decide) dX5_hardnessOf_165 ⟨_, rfl, rfl⟩ ⟨_, _, rfl, rfl, hyp⟩
  · replace hyp := hyp.2 c
    refine ax_aload_n hX dX5_hardnessOf_14 (Or.inr ⟨_, rfl⟩) rfl ?_
    refine tx_getF hX fRX5_15 ly_93 (o := 2) (b := 95) fk_5_3 rfl (by decide) (Nat.lt_of_lt_of_le (by decide) hsz) dX5_hardnessOf_15 ?_
    refine ax_iload hX dX5_hardnessOf_18 rfl ?_
    refine tx_ial hX ly_95 (by decide) (Nat.lt_of_lt_of_le (by decide) hsz) hyp.1 dX5_hardnessOf_20 ?_
    replace hyp := hyp.2
    refine ax_iload_n hX dX5_hardnessOf_21 rfl ?_
    refine ax_icmp_ne hX dX5_hardnessOf_22 (tgt := 57) (by decide) (fun c => ?_) (fun c => ?_)
    · replace hyp := hyp.1 c
      refine ax_iconst hX dX5_hardnessOf_57 (v := 0) (by decide) ?_
      refine ax_istore hX dX5_hardnessOf_58 (by decide) (L' := [some (.ref 93), some (.int v1), some (.int v2), some (.int v3), some (.int v4), some (.int (0 : Int32)), none, none]) rfl ?_
      refine ax_iconst hX dX5_hardnessOf_60 (v := 0) (by decide) ?_
      refine ax_istore hX dX5_hardnessOf_61 (by decide) (L' := [some (.ref 93), some (.int v1), some (.int v2), some (.int v3), some (.int v4), some (.int (0 : Int32)), some (.int (0 : Int32)), none]) rfl ?_
      exact ax_forget (L' := [some (.ref 93), some (.int v1), some (.int v2), some (.int v3), some (.int v4), some (.int (0 : Int32)), some (.int (0 : Int32)), none]) (⟨rfl, ⟨rfl, ⟨rfl, ⟨rfl, ⟨rfl, ⟨rfl, ⟨rfl, trivial⟩⟩⟩⟩⟩⟩⟩) hyp
    · replace hyp := hyp.2 c
      refine ax_aload_n hX dX5_hardnessOf_25 (Or.inr ⟨_, rfl⟩) rfl ?_
      refine ax_iload_n hX dX5_hardnessOf_26 rfl ?_
      refine ax_aload_n hX dX5_hardnessOf_27 (Or.inr ⟨_, rfl⟩) rfl ?_
      refine tx_getF hX fRX5_9 ly_93 (o := 1) (b := 94) fk_5_2 rfl (by decide) (Nat.lt_of_lt_of_le (by decide) hsz) dX5_hardnessOf_28 ?_
      refine ax_iload hX dX5_hardnessOf_31 rfl ?_
      refine tx_ial hX ly_94 (by decide) (Nat.lt_of_lt_of_le (by decide) hsz) hyp.1 dX5_hardnessOf_33 ?_
      replace hyp := hyp.2
      refine ax_aload_n hX dX5_hardnessOf_34 (Or.inr ⟨_, rfl⟩) rfl ?_
      refine tx_getF hX fRX5_18 ly_93 (o := 3) (b := 96) fk_5_4 rfl (by decide) (Nat.lt_of_lt_of_le (by decide) hsz) dX5_hardnessOf_35 ?_
      refine ax_iload hX dX5_hardnessOf_38 rfl ?_
      refine tx_ial hX ly_96 (by decide) (Nat.lt_of_lt_of_le (by decide) hsz) hyp.1 dX5_hardnessOf_40 ?_
      replace hyp := hyp.2
      refine ax_aload_n hX dX5_hardnessOf_41 (Or.inr ⟨_, rfl⟩) rfl ?_
      refine tx_getI hX fRX5_37 ly_93 fk_5_0 (by decide) (Nat.lt_of_lt_of_le (by decide) hsz) dX5_hardnessOf_42 ?_
      obtain ⟨Q1, hK, hyp⟩ := hyp
      refine ax_callV hX lRX5_48 im_X5_lastOf sl_X5_lastOf cw_X5_lastOf ((th_at (by decide) (Nat.lt_of_lt_of_le (by decide) hsz)).trans (tc_ob ly_93)) rfl rfl (A := [.int v1, .int (T.1 94 (v4.toNatClampNeg)), .int (T.1 96 (v4.toNatClampNeg)), .int (T.1 93 0)]) (st := []) rfl rfl (Nat.le_of_ble_eq_true rfl) (by decide) (by decide) dX5_hardnessOf_45 hK ?_
      rintro _ _ ⟨r1, T1, rfl, rfl, hq⟩
      replace hyp := hyp r1 T1 hq
      refine ax_iload hX dX5_hardnessOf_48 rfl ?_
      refine ax_icmp_ne hX dX5_hardnessOf_50 (tgt := 57) (by decide) (fun c => ?_) (fun c => ?_)
      · replace hyp := hyp.1 c
        refine ax_iconst hX dX5_hardnessOf_57 (v := 0) (by decide) ?_
        refine ax_istore hX dX5_hardnessOf_58 (by decide) (L' := [some (.ref 93), some (.int v1), some (.int v2), some (.int v3), some (.int v4), some (.int (0 : Int32)), none, none]) rfl ?_
        refine ax_iconst hX dX5_hardnessOf_60 (v := 0) (by decide) ?_
        refine ax_istore hX dX5_hardnessOf_61 (by decide) (L' := [some (.ref 93), some (.int v1), some (.int v2), some (.int v3), some (.int v4), some (.int (0 : Int32)), some (.int (0 : Int32)), none]) rfl ?_
        exact ax_forget (L' := [some (.ref 93), some (.int v1), some (.int v2), some (.int v3), some (.int v4), some (.int (0 : Int32)), some (.int (0 : Int32)), none]) (⟨rfl, ⟨rfl, ⟨rfl, ⟨rfl, ⟨rfl, ⟨rfl, ⟨rfl, trivial⟩⟩⟩⟩⟩⟩⟩) hyp
      · replace hyp := hyp.2 c
        refine ax_iconst hX dX5_hardnessOf_53 (v := 1) (by decide) ?_
        refine ax_goto hX dX5_hardnessOf_54 (tgt := 58) (by decide) ?_
        refine ax_istore hX dX5_hardnessOf_58 (by decide) (L' := [some (.ref 93), some (.int v1), some (.int v2), some (.int v3), some (.int v4), some (.int (1 : Int32)), none, none]) rfl ?_
        refine ax_iconst hX dX5_hardnessOf_60 (v := 0) (by decide) ?_
        refine ax_istore hX dX5_hardnessOf_61 (by decide) (L' := [some (.ref 93), some (.int v1), some (.int v2), some (.int v3), some (.int v4), some (.int (1 : Int32)), some (.int (0 : Int32)), none]) rfl ?_
        exact ax_forget (L' := [some (.ref 93), some (.int v1), some (.int v2), some (.int v3), some (.int v4), some (.int (1 : Int32)), some (.int (0 : Int32)), none]) (⟨rfl, ⟨rfl, ⟨rfl, ⟨rfl, ⟨rfl, ⟨rfl, ⟨rfl, trivial⟩⟩⟩⟩⟩⟩⟩) hyp
set_option maxRecDepth 10000 in
theorem s_X5_hardnessOf_63 {X : ax_X} {d L sz : Nat} {T : tT} {Q : Int32 → tT → Prop} (hX : ax_ok X mX5_hardnessOf (d + 1)) (hR : ax_Ret X mX5_hardnessOf (ti L sz Q)) (hsz : 161 ≤ sz) (v1 : Int32) (v2 : Int32) (v3 : Int32) (v4 : Int32) (v5 : Int32) (v6 : Int32) (hyp : ((v5 = 0 → ax_j X 5 [some (.ref 93), some (.int v1), some (.int v2), some (.int v3), some (.int (v4 + (1 : Int32))), none, none, none] [] (th L sz T) 0 0) ∧ (¬ v5 = 0 → ((v2 ≤ v6 → ax_j X 5 [some (.ref 93), some (.int v1), some (.int v2), some (.int v3), some (.int (v4 + (1 : Int32))), none, none, none] [] (th L sz T) 0 0) ∧ (¬ v2 ≤ v6 → vp_in v4 200 ∧ vp_in v4 200 ∧ ∃ Q1, tiK d mX5_lastOf [.ref 93, .int v6, .int (T.1 94 (v4.toNatClampNeg)), .int (T.1 96 (v4.toNatClampNeg)), .int (T.1 93 0)] L sz T Q1 ∧ ∀ (r1 : Int32) (T1 : tT), Q1 r1 T1 → (((v6 = v1 → ax_j X 63 [some (.ref 93), some (.int v1), some (.int v2), some (.int v3), some (.int v4), some (.int v5), some (.int (v6 + (1 : Int32))), none] [] (th L sz T1) 0 0) ∧ (¬ v6 = v1 → ((r1 = (-1 : Int32) → ax_j X 63 [some (.ref 93), some (.int v1), some (.int v2), some (.int v3), some (.int v4), some (.int v5), some (.int (v6 + (1 : Int32))), none] [] (th L sz T1) 0 0) ∧ (¬ r1 = (-1 : Int32) → vp_in r1 200 ∧ vp_in v4 200 ∧ ∃ Q1, tiK d mX5_insertGap [.ref 93, .int ((T1.1 97 (r1.toNatClampNeg)) - (T1.1 97 (v4.toNatClampNeg))), .int v3] L sz T1 Q1 ∧ ∀ (r2 : Int32) (T2 : tT), Q1 r2 T2 → (ax_j X 63 [some (.ref 93), some (.int v1), some (.int v2), some (.int r2), some (.int v4), some (.int v5), some (.int (v6 + (1 : Int32))), none] [] (th L sz T2) 0 0))))))))))) : ax_j X 63 [some (.ref 93), some (.int v1), some (.int v2), some (.int v3), some (.int v4), some (.int v5), some (.int v6), none] [] (th L sz T) 0 0 := by
  refine ax_iload hX dX5_hardnessOf_63 rfl ?_
  refine ax_if_eq hX dX5_hardnessOf_65 (tgt := 139) (by decide) (fun c => ?_) (fun c => ?_)
  · replace hyp := hyp.1 c
    refine ax_iinc hX dX5_hardnessOf_139 rfl (w := (v4 + (1 : Int32))) rfl (by decide) (L' := [some (.ref 93), some (.int v1), some (.int v2), some (.int v3), some (.int (v4 + (1 : Int32))), some (.int v5), some (.int v6), none]) rfl ?_
    refine ax_goto hX dX5_hardnessOf_142 (tgt := 5) (by decide) ?_
    exact ax_forget (L' := [some (.ref 93), some (.int v1), some (.int v2), some (.int v3), some (.int (v4 + (1 : Int32))), none, none, none]) (⟨rfl, ⟨rfl, ⟨rfl, ⟨rfl, ⟨rfl, trivial⟩⟩⟩⟩⟩) hyp
  · replace hyp := hyp.2 c
    refine ax_iload hX dX5_hardnessOf_68 rfl ?_
    refine ax_iload_n hX dX5_hardnessOf_70 rfl ?_
    refine ax_icmp_ge hX dX5_hardnessOf_71 (tgt := 139) (by decide) (fun c => ?_) (fun c => ?_)
    · replace hyp := hyp.1 c
      refine ax_iinc hX dX5_hardnessOf_139 rfl (w := (v4 + (1 : Int32))) rfl (by decide) (L' := [some (.ref 93), some (.int v1), some (.int v2), some (.int v3), some (.int (v4 + (1 : Int32))), some (.int v5), some (.int v6), none]) rfl ?_
      refine ax_goto hX dX5_hardnessOf_142 (tgt := 5) (by decide) ?_
      exact ax_forget (L' := [some (.ref 93), some (.int v1), some (.int v2), some (.int v3), some (.int (v4 + (1 : Int32))), none, none, none]) (⟨rfl, ⟨rfl, ⟨rfl, ⟨rfl, ⟨rfl, trivial⟩⟩⟩⟩⟩) hyp
    · replace hyp := hyp.2 c
      refine ax_aload_n hX dX5_hardnessOf_74 (Or.inr ⟨_, rfl⟩) rfl ?_
      refine ax_iload hX dX5_hardnessOf_75 rfl ?_
      refine ax_aload_n hX dX5_hardnessOf_77 (Or.inr ⟨_, rfl⟩) rfl ?_
      refine tx_getF hX fRX5_9 ly_93 (o := 1) (b := 94) fk_5_2 rfl (by decide) (Nat.lt_of_lt_of_le (by decide) hsz) dX5_hardnessOf_78 ?_
      refine ax_iload hX dX5_hardnessOf_81 rfl ?_
      refine tx_ial hX ly_94 (by decide) (Nat.lt_of_lt_of_le (by decide) hsz) hyp.1 dX5_hardnessOf_83 ?_
      replace hyp := hyp.2
      refine ax_aload_n hX dX5_hardnessOf_84 (Or.inr ⟨_, rfl⟩) rfl ?_
      refine tx_getF hX fRX5_18 ly_93 (o := 3) (b := 96) fk_5_4 rfl (by decide) (Nat.lt_of_lt_of_le (by decide) hsz) dX5_hardnessOf_85 ?_
      refine ax_iload hX dX5_hardnessOf_88 rfl ?_
      refine tx_ial hX ly_96 (by decide) (Nat.lt_of_lt_of_le (by decide) hsz) hyp.1 dX5_hardnessOf_90 ?_
      replace hyp := hyp.2
      refine ax_aload_n hX dX5_hardnessOf_91 (Or.inr ⟨_, rfl⟩) rfl ?_
      refine tx_getI hX fRX5_37 ly_93 fk_5_0 (by decide) (Nat.lt_of_lt_of_le (by decide) hsz) dX5_hardnessOf_92 ?_
      obtain ⟨Q1, hK, hyp⟩ := hyp
      refine ax_callV hX lRX5_48 im_X5_lastOf sl_X5_lastOf cw_X5_lastOf ((th_at (by decide) (Nat.lt_of_lt_of_le (by decide) hsz)).trans (tc_ob ly_93)) rfl rfl (A := [.int v6, .int (T.1 94 (v4.toNatClampNeg)), .int (T.1 96 (v4.toNatClampNeg)), .int (T.1 93 0)]) (st := []) rfl rfl (Nat.le_of_ble_eq_true rfl) (by decide) (by decide) dX5_hardnessOf_95 hK ?_
      rintro _ _ ⟨r1, T1, rfl, rfl, hq⟩
      replace hyp := hyp r1 T1 hq
      refine ax_istore hX dX5_hardnessOf_98 (by decide) (L' := [some (.ref 93), some (.int v1), some (.int v2), some (.int v3), some (.int v4), some (.int v5), some (.int v6), some (.int r1)]) rfl ?_
      refine ax_iload hX dX5_hardnessOf_100 rfl ?_
      refine ax_iload_n hX dX5_hardnessOf_102 rfl ?_
      refine ax_icmp_eq hX dX5_hardnessOf_103 (tgt := 133) (by decide) (fun c => ?_) (fun c => ?_)
      · replace hyp := hyp.1 c
        refine ax_iinc hX dX5_hardnessOf_133 rfl (w := (v6 + (1 : Int32))) rfl (by decide) (L' := [some (.ref 93), some (.int v1), some (.int v2), some (.int v3), some (.int v4), some (.int v5), some (.int (v6 + (1 : Int32))), some (.int r1)]) rfl ?_
        refine ax_goto hX dX5_hardnessOf_136 (tgt := 63) (by decide) ?_
        exact ax_forget (L' := [some (.ref 93), some (.int v1), some (.int v2), some (.int v3), some (.int v4), some (.int v5), some (.int (v6 + (1 : Int32))), none]) (⟨rfl, ⟨rfl, ⟨rfl, ⟨rfl, ⟨rfl, ⟨rfl, ⟨rfl, trivial⟩⟩⟩⟩⟩⟩⟩) hyp
      · replace hyp := hyp.2 c
        refine ax_iload hX dX5_hardnessOf_106 rfl ?_
        refine ax_iconst hX dX5_hardnessOf_108 (v := -1) (by decide) ?_
        refine ax_icmp_eq hX dX5_hardnessOf_109 (tgt := 133) (by decide) (fun c => ?_) (fun c => ?_)
        · replace hyp := hyp.1 c
          refine ax_iinc hX dX5_hardnessOf_133 rfl (w := (v6 + (1 : Int32))) rfl (by decide) (L' := [some (.ref 93), some (.int v1), some (.int v2), some (.int v3), some (.int v4), some (.int v5), some (.int (v6 + (1 : Int32))), some (.int r1)]) rfl ?_
          refine ax_goto hX dX5_hardnessOf_136 (tgt := 63) (by decide) ?_
          exact ax_forget (L' := [some (.ref 93), some (.int v1), some (.int v2), some (.int v3), some (.int v4), some (.int v5), some (.int (v6 + (1 : Int32))), none]) (⟨rfl, ⟨rfl, ⟨rfl, ⟨rfl, ⟨rfl, ⟨rfl, ⟨rfl, trivial⟩⟩⟩⟩⟩⟩⟩) hyp
        · replace hyp := hyp.2 c
          refine ax_aload_n hX dX5_hardnessOf_112 (Or.inr ⟨_, rfl⟩) rfl ?_
          refine ax_aload_n hX dX5_hardnessOf_113 (Or.inr ⟨_, rfl⟩) rfl ?_
          refine tx_getF hX fRX5_21 ly_93 (o := 4) (b := 97) fk_5_5 rfl (by decide) (Nat.lt_of_lt_of_le (by decide) hsz) dX5_hardnessOf_114 ?_
          refine ax_iload hX dX5_hardnessOf_117 rfl ?_
          refine tx_ial hX ly_97 (by decide) (Nat.lt_of_lt_of_le (by decide) hsz) hyp.1 dX5_hardnessOf_119 ?_
          replace hyp := hyp.2
          refine ax_aload_n hX dX5_hardnessOf_120 (Or.inr ⟨_, rfl⟩) rfl ?_
          refine tx_getF hX fRX5_21 ly_93 (o := 4) (b := 97) fk_5_5 rfl (by decide) (Nat.lt_of_lt_of_le (by decide) hsz) dX5_hardnessOf_121 ?_
          refine ax_iload hX dX5_hardnessOf_124 rfl ?_
          refine tx_ial hX ly_97 (by decide) (Nat.lt_of_lt_of_le (by decide) hsz) hyp.1 dX5_hardnessOf_126 ?_
          replace hyp := hyp.2
          refine ax_isub hX dX5_hardnessOf_127 ?_
          refine ax_iload_n hX dX5_hardnessOf_128 rfl ?_
          obtain ⟨Q1, hK, hyp⟩ := hyp
          refine ax_callV hX lRX5_56 im_X5_insertGap sl_X5_insertGap cw_X5_insertGap ((th_at (by decide) (Nat.lt_of_lt_of_le (by decide) hsz)).trans (tc_ob ly_93)) rfl rfl (A := [.int ((T1.1 97 (r1.toNatClampNeg)) - (T1.1 97 (v4.toNatClampNeg))), .int v3]) (st := []) rfl rfl (Nat.le_of_ble_eq_true rfl) (by decide) (by decide) dX5_hardnessOf_129 hK ?_
          rintro _ _ ⟨r2, T2, rfl, rfl, hq⟩
          replace hyp := hyp r2 T2 hq
          refine ax_istore_n hX dX5_hardnessOf_132 (by decide) (L' := [some (.ref 93), some (.int v1), some (.int v2), some (.int r2), some (.int v4), some (.int v5), some (.int v6), some (.int r1)]) rfl ?_
          refine ax_iinc hX dX5_hardnessOf_133 rfl (w := (v6 + (1 : Int32))) rfl (by decide) (L' := [some (.ref 93), some (.int v1), some (.int v2), some (.int r2), some (.int v4), some (.int v5), some (.int (v6 + (1 : Int32))), some (.int r1)]) rfl ?_
          refine ax_goto hX dX5_hardnessOf_136 (tgt := 63) (by decide) ?_
          exact ax_forget (L' := [some (.ref 93), some (.int v1), some (.int v2), some (.int r2), some (.int v4), some (.int v5), some (.int (v6 + (1 : Int32))), none]) (⟨rfl, ⟨rfl, ⟨rfl, ⟨rfl, ⟨rfl, ⟨rfl, ⟨rfl, trivial⟩⟩⟩⟩⟩⟩⟩) hyp
set_option maxRecDepth 10000 in
theorem s_X5_insertGap_0 {X : ax_X} {d L sz : Nat} {T : tT} {Q : Int32 → tT → Prop} (hX : ax_ok X mX5_insertGap d) (hR : ax_Ret X mX5_insertGap (ti L sz Q)) (hsz : 161 ≤ sz) (x0 : Int32) (x1 : Int32) (hyp : ((x1 < (200 : Int32) → ax_j X 11 [some (.ref 93), some (.int x0), some (.int x1), some (.int x1)] [] (th L sz T) 0 0) ∧ (¬ x1 < (200 : Int32) → Q x1 T))) : ax_j X 0 [some (.ref 93), some (.int x0), some (.int x1), none] [] (th L sz T) 0 0 := by
  refine ax_iload_n hX dX5_insertGap_0 rfl ?_
  refine ax_sipush hX dX5_insertGap_1 (v := 200) (by decide) ?_
  refine ax_icmp_lt hX dX5_insertGap_4 (tgt := 9) (by decide) (fun c => ?_) (fun c => ?_)
  · replace hyp := hyp.1 c
    refine ax_iload_n hX dX5_insertGap_9 rfl ?_
    refine ax_istore_n hX dX5_insertGap_10 (by decide) (L' := [some (.ref 93), some (.int x0), some (.int x1), some (.int x1)]) rfl ?_
    exact ax_forget (L' := [some (.ref 93), some (.int x0), some (.int x1), some (.int x1)]) (⟨rfl, ⟨rfl, ⟨rfl, ⟨rfl, trivial⟩⟩⟩⟩) hyp
  · replace hyp := hyp.2 c
    refine ax_iload_n hX dX5_insertGap_7 rfl ?_
    exact hR.1 _ _ _ _ _ _ (by decide) (by decide) dX5_insertGap_8 ⟨_, rfl, rfl⟩ ⟨_, _, rfl, rfl, hyp⟩
set_option maxRecDepth 10000 in
theorem s_X5_insertGap_11 {X : ax_X} {d L sz : Nat} {T : tT} {Q : Int32 → tT → Prop} (hX : ax_ok X mX5_insertGap d) (hR : ax_Ret X mX5_insertGap (ti L sz Q)) (hsz : 161 ≤ sz) (v1 : Int32) (v2 : Int32) (v3 : Int32) (hyp : ((v3 ≤ 0 → vp_in v3 200 ∧ Q (v2 + (1 : Int32)) (tI T 100 (v3.toNatClampNeg) v1)) ∧ (¬ v3 ≤ 0 → vp_in (v3 - (1 : Int32)) 200 ∧ (((T.1 100 (v3 - (1 : Int32)).toNatClampNeg) ≤ v1 → vp_in v3 200 ∧ Q (v2 + (1 : Int32)) (tI T 100 (v3.toNatClampNeg) v1)) ∧ (¬ (T.1 100 (v3 - (1 : Int32)).toNatClampNeg) ≤ v1 → vp_in (v3 - (1 : Int32)) 200 ∧ vp_in v3 200 ∧ ax_j X 11 [some (.ref 93), some (.int v1), some (.int v2), some (.int (v3 + (-1 : Int32)))] [] (th L sz (tI T 100 (v3.toNatClampNeg) (T.1 100 (v3 - (1 : Int32)).toNatClampNeg))) 0 0))))) : ax_j X 11 [some (.ref 93), some (.int v1), some (.int v2), some (.int v3)] [] (th L sz T) 0 0 := by
  refine ax_iload_n hX dX5_insertGap_11 rfl ?_
  refine ax_if_le hX dX5_insertGap_12 (tgt := 47) (by decide) (fun c => ?_) (fun c => ?_)
  · replace hyp := hyp.1 c
    refine ax_aload_n hX dX5_insertGap_47 (Or.inr ⟨_, rfl⟩) rfl ?_
    refine tx_getF hX fRX5_30 ly_93 (o := 7) (b := 100) fk_5_8 rfl (by decide) (Nat.lt_of_lt_of_le (by decide) hsz) dX5_insertGap_48 ?_
    refine ax_iload_n hX dX5_insertGap_51 rfl ?_
    refine ax_iload_n hX dX5_insertGap_52 rfl ?_
    refine tx_ias hX ly_100 (by decide) (Nat.lt_of_lt_of_le (by decide) hsz) hyp.1 dX5_insertGap_53 ?_
    replace hyp := hyp.2
    refine ax_iload_n hX dX5_insertGap_54 rfl ?_
    refine ax_iconst hX dX5_insertGap_55 (v := 1) (by decide) ?_
    refine ax_iadd hX dX5_insertGap_56 ?_
    exact hR.1 _ _ _ _ _ _ (by decide) (by decide) dX5_insertGap_57 ⟨_, rfl, rfl⟩ ⟨_, _, rfl, rfl, hyp⟩
  · replace hyp := hyp.2 c
    refine ax_aload_n hX dX5_insertGap_15 (Or.inr ⟨_, rfl⟩) rfl ?_
    refine tx_getF hX fRX5_30 ly_93 (o := 7) (b := 100) fk_5_8 rfl (by decide) (Nat.lt_of_lt_of_le (by decide) hsz) dX5_insertGap_16 ?_
    refine ax_iload_n hX dX5_insertGap_19 rfl ?_
    refine ax_iconst hX dX5_insertGap_20 (v := 1) (by decide) ?_
    refine ax_isub hX dX5_insertGap_21 ?_
    refine tx_ial hX ly_100 (by decide) (Nat.lt_of_lt_of_le (by decide) hsz) hyp.1 dX5_insertGap_22 ?_
    replace hyp := hyp.2
    refine ax_iload_n hX dX5_insertGap_23 rfl ?_
    refine ax_icmp_le hX dX5_insertGap_24 (tgt := 47) (by decide) (fun c => ?_) (fun c => ?_)
    · replace hyp := hyp.1 c
      refine ax_aload_n hX dX5_insertGap_47 (Or.inr ⟨_, rfl⟩) rfl ?_
      refine tx_getF hX fRX5_30 ly_93 (o := 7) (b := 100) fk_5_8 rfl (by decide) (Nat.lt_of_lt_of_le (by decide) hsz) dX5_insertGap_48 ?_
      refine ax_iload_n hX dX5_insertGap_51 rfl ?_
      refine ax_iload_n hX dX5_insertGap_52 rfl ?_
      refine tx_ias hX ly_100 (by decide) (Nat.lt_of_lt_of_le (by decide) hsz) hyp.1 dX5_insertGap_53 ?_
      replace hyp := hyp.2
      refine ax_iload_n hX dX5_insertGap_54 rfl ?_
      refine ax_iconst hX dX5_insertGap_55 (v := 1) (by decide) ?_
      refine ax_iadd hX dX5_insertGap_56 ?_
      exact hR.1 _ _ _ _ _ _ (by decide) (by decide) dX5_insertGap_57 ⟨_, rfl, rfl⟩ ⟨_, _, rfl, rfl, hyp⟩
    · replace hyp := hyp.2 c
      refine ax_aload_n hX dX5_insertGap_27 (Or.inr ⟨_, rfl⟩) rfl ?_
      refine tx_getF hX fRX5_30 ly_93 (o := 7) (b := 100) fk_5_8 rfl (by decide) (Nat.lt_of_lt_of_le (by decide) hsz) dX5_insertGap_28 ?_
      refine ax_iload_n hX dX5_insertGap_31 rfl ?_
      refine ax_aload_n hX dX5_insertGap_32 (Or.inr ⟨_, rfl⟩) rfl ?_
      refine tx_getF hX fRX5_30 ly_93 (o := 7) (b := 100) fk_5_8 rfl (by decide) (Nat.lt_of_lt_of_le (by decide) hsz) dX5_insertGap_33 ?_
      refine ax_iload_n hX dX5_insertGap_36 rfl ?_
      refine ax_iconst hX dX5_insertGap_37 (v := 1) (by decide) ?_
      refine ax_isub hX dX5_insertGap_38 ?_
      refine tx_ial hX ly_100 (by decide) (Nat.lt_of_lt_of_le (by decide) hsz) hyp.1 dX5_insertGap_39 ?_
      replace hyp := hyp.2
      refine tx_ias hX ly_100 (by decide) (Nat.lt_of_lt_of_le (by decide) hsz) hyp.1 dX5_insertGap_40 ?_
      replace hyp := hyp.2
      refine ax_iinc hX dX5_insertGap_41 rfl (w := (v3 + (-1 : Int32))) rfl (by decide) (L' := [some (.ref 93), some (.int v1), some (.int v2), some (.int (v3 + (-1 : Int32)))]) rfl ?_
      refine ax_goto hX dX5_insertGap_44 (tgt := 11) (by decide) ?_
      exact ax_forget (L' := [some (.ref 93), some (.int v1), some (.int v2), some (.int (v3 + (-1 : Int32)))]) (⟨rfl, ⟨rfl, ⟨rfl, ⟨rfl, trivial⟩⟩⟩⟩) hyp
set_option maxRecDepth 10000 in
theorem s_X5_isKnown_0 {X : ax_X} {d L sz : Nat} {T : tT} {Q : Int32 → tT → Prop} (hX : ax_ok X mX5_isKnown (d + 1)) (hR : ax_Ret X mX5_isKnown (ti L sz Q)) (hsz : 161 ≤ sz) (x0 : Int32) (x1 : Int32) (hyp : vp_in x0 200 ∧ ((x1 < (T.1 98 (x0.toNatClampNeg)) → Q (0 : Int32) T) ∧ (¬ x1 < (T.1 98 (x0.toNatClampNeg)) → ∃ Q1, tiK d mX5_stands [.ref 93, .int x0] L sz T Q1 ∧ ∀ (r1 : Int32) (T1 : tT), Q1 r1 T1 → (((¬ r1 = 0 → Q (1 : Int32) T1) ∧ (r1 = 0 → vp_in x0 200 ∧ (((T1.1 99 (x0.toNatClampNeg)) ≤ x1 → Q (0 : Int32) T1) ∧ (¬ (T1.1 99 (x0.toNatClampNeg)) ≤ x1 → Q (1 : Int32) T1)))))))) : ax_j X 0 [some (.ref 93), some (.int x0), some (.int x1)] [] (th L sz T) 0 0 := by
  refine ax_aload_n hX dX5_isKnown_0 (Or.inr ⟨_, rfl⟩) rfl ?_
  refine tx_getF hX fRX5_24 ly_93 (o := 5) (b := 98) fk_5_6 rfl (by decide) (Nat.lt_of_lt_of_le (by decide) hsz) dX5_isKnown_1 ?_
  refine ax_iload_n hX dX5_isKnown_4 rfl ?_
  refine tx_ial hX ly_98 (by decide) (Nat.lt_of_lt_of_le (by decide) hsz) hyp.1 dX5_isKnown_5 ?_
  replace hyp := hyp.2
  refine ax_iload_n hX dX5_isKnown_6 rfl ?_
  refine ax_icmp_gt hX dX5_isKnown_7 (tgt := 32) (by decide) (fun c => ?_) (fun c => ?_)
  · replace hyp := hyp.1 c
    refine ax_iconst hX dX5_isKnown_32 (v := 0) (by decide) ?_
    exact hR.1 _ _ _ _ _ _ (by decide) (by decide) dX5_isKnown_33 ⟨_, rfl, rfl⟩ ⟨_, _, rfl, rfl, hyp⟩
  · replace hyp := hyp.2 c
    refine ax_aload_n hX dX5_isKnown_10 (Or.inr ⟨_, rfl⟩) rfl ?_
    refine ax_iload_n hX dX5_isKnown_11 rfl ?_
    obtain ⟨Q1, hK, hyp⟩ := hyp
    refine ax_callV hX lRX5_40 im_X5_stands sl_X5_stands cw_X5_stands ((th_at (by decide) (Nat.lt_of_lt_of_le (by decide) hsz)).trans (tc_ob ly_93)) rfl rfl (A := [.int x0]) (st := []) rfl rfl (Nat.le_of_ble_eq_true rfl) (by decide) (by decide) dX5_isKnown_12 hK ?_
    rintro _ _ ⟨r1, T1, rfl, rfl, hq⟩
    replace hyp := hyp r1 T1 hq
    refine ax_if_ne hX dX5_isKnown_15 (tgt := 28) (by decide) (fun c => ?_) (fun c => ?_)
    · replace hyp := hyp.1 c
      refine ax_iconst hX dX5_isKnown_28 (v := 1) (by decide) ?_
      refine ax_goto hX dX5_isKnown_29 (tgt := 33) (by decide) ?_
      exact hR.1 _ _ _ _ _ _ (by decide) (by decide) dX5_isKnown_33 ⟨_, rfl, rfl⟩ ⟨_, _, rfl, rfl, hyp⟩
    · replace hyp := hyp.2 c
      refine ax_aload_n hX dX5_isKnown_18 (Or.inr ⟨_, rfl⟩) rfl ?_
      refine tx_getF hX fRX5_27 ly_93 (o := 6) (b := 99) fk_5_7 rfl (by decide) (Nat.lt_of_lt_of_le (by decide) hsz) dX5_isKnown_19 ?_
      refine ax_iload_n hX dX5_isKnown_22 rfl ?_
      refine tx_ial hX ly_99 (by decide) (Nat.lt_of_lt_of_le (by decide) hsz) hyp.1 dX5_isKnown_23 ?_
      replace hyp := hyp.2
      refine ax_iload_n hX dX5_isKnown_24 rfl ?_
      refine ax_icmp_le hX dX5_isKnown_25 (tgt := 32) (by decide) (fun c => ?_) (fun c => ?_)
      · replace hyp := hyp.1 c
        refine ax_iconst hX dX5_isKnown_32 (v := 0) (by decide) ?_
        exact hR.1 _ _ _ _ _ _ (by decide) (by decide) dX5_isKnown_33 ⟨_, rfl, rfl⟩ ⟨_, _, rfl, rfl, hyp⟩
      · replace hyp := hyp.2 c
        refine ax_iconst hX dX5_isKnown_28 (v := 1) (by decide) ?_
        refine ax_goto hX dX5_isKnown_29 (tgt := 33) (by decide) ?_
        exact hR.1 _ _ _ _ _ _ (by decide) (by decide) dX5_isKnown_33 ⟨_, rfl, rfl⟩ ⟨_, _, rfl, rfl, hyp⟩
set_option maxRecDepth 10000 in
theorem s_X5_knownPoints_0 {X : ax_X} {d L sz : Nat} {T : tT} {Q : Int32 → tT → Prop} (hX : ax_ok X mX5_knownPoints (d + 1)) (hR : ax_Ret X mX5_knownPoints (ti L sz Q)) (hsz : 161 ≤ sz) (x0 : Int32) (x1 : Int32) (x2 : Int32) (hyp : ∃ Q1, tiK d mX5_lastOf [.ref 93, .int (5 : Int32), .int x0, .int x1, .int x2] L sz T Q1 ∧ ∀ (r1 : Int32) (T1 : tT), Q1 r1 T1 → (((¬ r1 = (-1 : Int32) → ((¬ r1 = (-1 : Int32) → vp_in r1 200 ∧ Q (T1.1 97 (r1.toNatClampNeg)) T1) ∧ (r1 = (-1 : Int32) → Q (-1 : Int32) T1))) ∧ (r1 = (-1 : Int32) → ∃ Q1, tiK d mX5_mainOf [.ref 93, .int x0, .int x2] L sz T1 Q1 ∧ ∀ (r2 : Int32) (T2 : tT), Q1 r2 T2 → (∃ Q1, tiK d mX5_lastOf [.ref 93, .int r2, .int x0, .int x1, .int x2] L sz T2 Q1 ∧ ∀ (r3 : Int32) (T3 : tT), Q1 r3 T3 → (((¬ r3 = (-1 : Int32) → vp_in r3 200 ∧ Q (T3.1 97 (r3.toNatClampNeg)) T3) ∧ (r3 = (-1 : Int32) → Q (-1 : Int32) T3)))))))) : ax_j X 0 [some (.ref 93), some (.int x0), some (.int x1), some (.int x2), none] [] (th L sz T) 0 0 := by
  refine ax_aload_n hX dX5_knownPoints_0 (Or.inr ⟨_, rfl⟩) rfl ?_
  refine ax_iconst hX dX5_knownPoints_1 (v := 5) (by decide) ?_
  refine ax_iload_n hX dX5_knownPoints_2 rfl ?_
  refine ax_iload_n hX dX5_knownPoints_3 rfl ?_
  refine ax_iload_n hX dX5_knownPoints_4 rfl ?_
  obtain ⟨Q1, hK, hyp⟩ := hyp
  refine ax_callV hX lRX5_48 im_X5_lastOf sl_X5_lastOf cw_X5_lastOf ((th_at (by decide) (Nat.lt_of_lt_of_le (by decide) hsz)).trans (tc_ob ly_93)) rfl rfl (A := [.int (5 : Int32), .int x0, .int x1, .int x2]) (st := []) rfl rfl (Nat.le_of_ble_eq_true rfl) (by decide) (by decide) dX5_knownPoints_5 hK ?_
  rintro _ _ ⟨r1, T1, rfl, rfl, hq⟩
  replace hyp := hyp r1 T1 hq
  refine ax_istore hX dX5_knownPoints_8 (by decide) (L' := [some (.ref 93), some (.int x0), some (.int x1), some (.int x2), some (.int r1)]) rfl ?_
  refine ax_iload hX dX5_knownPoints_10 rfl ?_
  refine ax_iconst hX dX5_knownPoints_12 (v := -1) (by decide) ?_
  refine ax_icmp_ne hX dX5_knownPoints_13 (tgt := 31) (by decide) (fun c => ?_) (fun c => ?_)
  · replace hyp := hyp.1 c
    refine ax_iload hX dX5_knownPoints_31 rfl ?_
    refine ax_iconst hX dX5_knownPoints_33 (v := -1) (by decide) ?_
    refine ax_icmp_ne hX dX5_knownPoints_34 (tgt := 41) (by decide) (fun c => ?_) (fun c => ?_)
    · replace hyp := hyp.1 c
      refine ax_aload_n hX dX5_knownPoints_41 (Or.inr ⟨_, rfl⟩) rfl ?_
      refine tx_getF hX fRX5_21 ly_93 (o := 4) (b := 97) fk_5_5 rfl (by decide) (Nat.lt_of_lt_of_le (by decide) hsz) dX5_knownPoints_42 ?_
      refine ax_iload hX dX5_knownPoints_45 rfl ?_
      refine tx_ial hX ly_97 (by decide) (Nat.lt_of_lt_of_le (by decide) hsz) hyp.1 dX5_knownPoints_47 ?_
      replace hyp := hyp.2
      exact hR.1 _ _ _ _ _ _ (by decide) (by decide) dX5_knownPoints_48 ⟨_, rfl, rfl⟩ ⟨_, _, rfl, rfl, hyp⟩
    · replace hyp := hyp.2 c
      refine ax_iconst hX dX5_knownPoints_37 (v := -1) (by decide) ?_
      refine ax_goto hX dX5_knownPoints_38 (tgt := 48) (by decide) ?_
      exact hR.1 _ _ _ _ _ _ (by decide) (by decide) dX5_knownPoints_48 ⟨_, rfl, rfl⟩ ⟨_, _, rfl, rfl, hyp⟩
  · replace hyp := hyp.2 c
    refine ax_aload_n hX dX5_knownPoints_16 (Or.inr ⟨_, rfl⟩) rfl ?_
    refine ax_aload_n hX dX5_knownPoints_17 (Or.inr ⟨_, rfl⟩) rfl ?_
    refine ax_iload_n hX dX5_knownPoints_18 rfl ?_
    refine ax_iload_n hX dX5_knownPoints_19 rfl ?_
    obtain ⟨Q1, hK, hyp⟩ := hyp
    refine ax_callV hX lRX5_52 im_X5_mainOf sl_X5_mainOf cw_X5_mainOf ((th_at (by decide) (Nat.lt_of_lt_of_le (by decide) hsz)).trans (tc_ob ly_93)) rfl rfl (A := [.int x0, .int x2]) (st := [.ref 93]) rfl rfl (Nat.le_of_ble_eq_true rfl) (by decide) (by decide) dX5_knownPoints_20 hK ?_
    rintro _ _ ⟨r2, T2, rfl, rfl, hq⟩
    replace hyp := hyp r2 T2 hq
    refine ax_iload_n hX dX5_knownPoints_23 rfl ?_
    refine ax_iload_n hX dX5_knownPoints_24 rfl ?_
    refine ax_iload_n hX dX5_knownPoints_25 rfl ?_
    obtain ⟨Q1, hK, hyp⟩ := hyp
    refine ax_callV hX lRX5_48 im_X5_lastOf sl_X5_lastOf cw_X5_lastOf ((th_at (by decide) (Nat.lt_of_lt_of_le (by decide) hsz)).trans (tc_ob ly_93)) rfl rfl (A := [.int r2, .int x0, .int x1, .int x2]) (st := []) rfl rfl (Nat.le_of_ble_eq_true rfl) (by decide) (by decide) dX5_knownPoints_26 hK ?_
    rintro _ _ ⟨r3, T3, rfl, rfl, hq⟩
    replace hyp := hyp r3 T3 hq
    refine ax_istore hX dX5_knownPoints_29 (by decide) (L' := [some (.ref 93), some (.int x0), some (.int x1), some (.int x2), some (.int r3)]) rfl ?_
    refine ax_iload hX dX5_knownPoints_31 rfl ?_
    refine ax_iconst hX dX5_knownPoints_33 (v := -1) (by decide) ?_
    refine ax_icmp_ne hX dX5_knownPoints_34 (tgt := 41) (by decide) (fun c => ?_) (fun c => ?_)
    · replace hyp := hyp.1 c
      refine ax_aload_n hX dX5_knownPoints_41 (Or.inr ⟨_, rfl⟩) rfl ?_
      refine tx_getF hX fRX5_21 ly_93 (o := 4) (b := 97) fk_5_5 rfl (by decide) (Nat.lt_of_lt_of_le (by decide) hsz) dX5_knownPoints_42 ?_
      refine ax_iload hX dX5_knownPoints_45 rfl ?_
      refine tx_ial hX ly_97 (by decide) (Nat.lt_of_lt_of_le (by decide) hsz) hyp.1 dX5_knownPoints_47 ?_
      replace hyp := hyp.2
      exact hR.1 _ _ _ _ _ _ (by decide) (by decide) dX5_knownPoints_48 ⟨_, rfl, rfl⟩ ⟨_, _, rfl, rfl, hyp⟩
    · replace hyp := hyp.2 c
      refine ax_iconst hX dX5_knownPoints_37 (v := -1) (by decide) ?_
      refine ax_goto hX dX5_knownPoints_38 (tgt := 48) (by decide) ?_
      exact hR.1 _ _ _ _ _ _ (by decide) (by decide) dX5_knownPoints_48 ⟨_, rfl, rfl⟩ ⟨_, _, rfl, rfl, hyp⟩
set_option maxRecDepth 10000 in
theorem s_X5_lastOf_0 {X : ax_X} {d L sz : Nat} {T : tT} {Q : Int32 → tT → Prop} (hX : ax_ok X mX5_lastOf (d + 1)) (hR : ax_Ret X mX5_lastOf (ti L sz Q)) (hsz : 161 ≤ sz) (x0 : Int32) (x1 : Int32) (x2 : Int32) (x3 : Int32) (hyp : ax_j X 8 [some (.ref 93), some (.int x0), some (.int x1), some (.int x2), some (.int x3), some (.int ((T.1 93 1) - (1 : Int32)))] [] (th L sz T) 0 0) : ax_j X 0 [some (.ref 93), some (.int x0), some (.int x1), some (.int x2), some (.int x3), none] [] (th L sz T) 0 0 := by
  refine ax_aload_n hX dX5_lastOf_0 (Or.inr ⟨_, rfl⟩) rfl ?_
  refine tx_getI hX fRX5_33 ly_93 fk_5_1 (by decide) (Nat.lt_of_lt_of_le (by decide) hsz) dX5_lastOf_1 ?_
  refine ax_iconst hX dX5_lastOf_4 (v := 1) (by decide) ?_
  refine ax_isub hX dX5_lastOf_5 ?_
  refine ax_istore hX dX5_lastOf_6 (by decide) (L' := [some (.ref 93), some (.int x0), some (.int x1), some (.int x2), some (.int x3), some (.int ((T.1 93 1) - (1 : Int32)))]) rfl ?_
  exact ax_forget (L' := [some (.ref 93), some (.int x0), some (.int x1), some (.int x2), some (.int x3), some (.int ((T.1 93 1) - (1 : Int32)))]) (⟨rfl, ⟨rfl, ⟨rfl, ⟨rfl, ⟨rfl, ⟨rfl, trivial⟩⟩⟩⟩⟩⟩) hyp
set_option maxRecDepth 10000 in
theorem s_X5_lastOf_8 {X : ax_X} {d L sz : Nat} {T : tT} {Q : Int32 → tT → Prop} (hX : ax_ok X mX5_lastOf (d + 1)) (hR : ax_Ret X mX5_lastOf (ti L sz Q)) (hsz : 161 ≤ sz) (v1 : Int32) (v2 : Int32) (v3 : Int32) (v4 : Int32) (v5 : Int32) (hyp : ((v5 < 0 → Q (-1 : Int32) T) ∧ (¬ v5 < 0 → vp_in v5 200 ∧ ((¬ (T.1 95 (v5.toNatClampNeg)) = v1 → ax_j X 8 [some (.ref 93), some (.int v1), some (.int v2), some (.int v3), some (.int v4), some (.int (v5 + (-1 : Int32)))] [] (th L sz T) 0 0) ∧ ((T.1 95 (v5.toNatClampNeg)) = v1 → vp_in v5 200 ∧ ((¬ (T.1 94 (v5.toNatClampNeg)) = v2 → ax_j X 8 [some (.ref 93), some (.int v1), some (.int v2), some (.int v3), some (.int v4), some (.int (v5 + (-1 : Int32)))] [] (th L sz T) 0 0) ∧ ((T.1 94 (v5.toNatClampNeg)) = v2 → vp_in v5 200 ∧ ((¬ (T.1 96 (v5.toNatClampNeg)) = v3 → ax_j X 8 [some (.ref 93), some (.int v1), some (.int v2), some (.int v3), some (.int v4), some (.int (v5 + (-1 : Int32)))] [] (th L sz T) 0 0) ∧ ((T.1 96 (v5.toNatClampNeg)) = v3 → ∃ Q1, tiK d mX5_isKnown [.ref 93, .int v5, .int v4] L sz T Q1 ∧ ∀ (r1 : Int32) (T1 : tT), Q1 r1 T1 → (((r1 = 0 → ax_j X 8 [some (.ref 93), some (.int v1), some (.int v2), some (.int v3), some (.int v4), some (.int (v5 + (-1 : Int32)))] [] (th L sz T1) 0 0) ∧ (¬ r1 = 0 → Q v5 T1)))))))))))) : ax_j X 8 [some (.ref 93), some (.int v1), some (.int v2), some (.int v3), some (.int v4), some (.int v5)] [] (th L sz T) 0 0 := by
  refine ax_iload hX dX5_lastOf_8 rfl ?_
  refine ax_if_lt hX dX5_lastOf_10 (tgt := 66) (by decide) (fun c => ?_) (fun c => ?_)
  · replace hyp := hyp.1 c
    refine ax_iconst hX dX5_lastOf_66 (v := -1) (by decide) ?_
    exact hR.1 _ _ _ _ _ _ (by decide) (by decide) dX5_lastOf_67 ⟨_, rfl, rfl⟩ ⟨_, _, rfl, rfl, hyp⟩
  · replace hyp := hyp.2 c
    refine ax_aload_n hX dX5_lastOf_13 (Or.inr ⟨_, rfl⟩) rfl ?_
    refine tx_getF hX fRX5_15 ly_93 (o := 2) (b := 95) fk_5_3 rfl (by decide) (Nat.lt_of_lt_of_le (by decide) hsz) dX5_lastOf_14 ?_
    refine ax_iload hX dX5_lastOf_17 rfl ?_
    refine tx_ial hX ly_95 (by decide) (Nat.lt_of_lt_of_le (by decide) hsz) hyp.1 dX5_lastOf_19 ?_
    replace hyp := hyp.2
    refine ax_iload_n hX dX5_lastOf_20 rfl ?_
    refine ax_icmp_ne hX dX5_lastOf_21 (tgt := 60) (by decide) (fun c => ?_) (fun c => ?_)
    · replace hyp := hyp.1 c
      refine ax_iinc hX dX5_lastOf_60 rfl (w := (v5 + (-1 : Int32))) rfl (by decide) (L' := [some (.ref 93), some (.int v1), some (.int v2), some (.int v3), some (.int v4), some (.int (v5 + (-1 : Int32)))]) rfl ?_
      refine ax_goto hX dX5_lastOf_63 (tgt := 8) (by decide) ?_
      exact ax_forget (L' := [some (.ref 93), some (.int v1), some (.int v2), some (.int v3), some (.int v4), some (.int (v5 + (-1 : Int32)))]) (⟨rfl, ⟨rfl, ⟨rfl, ⟨rfl, ⟨rfl, ⟨rfl, trivial⟩⟩⟩⟩⟩⟩) hyp
    · replace hyp := hyp.2 c
      refine ax_aload_n hX dX5_lastOf_24 (Or.inr ⟨_, rfl⟩) rfl ?_
      refine tx_getF hX fRX5_9 ly_93 (o := 1) (b := 94) fk_5_2 rfl (by decide) (Nat.lt_of_lt_of_le (by decide) hsz) dX5_lastOf_25 ?_
      refine ax_iload hX dX5_lastOf_28 rfl ?_
      refine tx_ial hX ly_94 (by decide) (Nat.lt_of_lt_of_le (by decide) hsz) hyp.1 dX5_lastOf_30 ?_
      replace hyp := hyp.2
      refine ax_iload_n hX dX5_lastOf_31 rfl ?_
      refine ax_icmp_ne hX dX5_lastOf_32 (tgt := 60) (by decide) (fun c => ?_) (fun c => ?_)
      · replace hyp := hyp.1 c
        refine ax_iinc hX dX5_lastOf_60 rfl (w := (v5 + (-1 : Int32))) rfl (by decide) (L' := [some (.ref 93), some (.int v1), some (.int v2), some (.int v3), some (.int v4), some (.int (v5 + (-1 : Int32)))]) rfl ?_
        refine ax_goto hX dX5_lastOf_63 (tgt := 8) (by decide) ?_
        exact ax_forget (L' := [some (.ref 93), some (.int v1), some (.int v2), some (.int v3), some (.int v4), some (.int (v5 + (-1 : Int32)))]) (⟨rfl, ⟨rfl, ⟨rfl, ⟨rfl, ⟨rfl, ⟨rfl, trivial⟩⟩⟩⟩⟩⟩) hyp
      · replace hyp := hyp.2 c
        refine ax_aload_n hX dX5_lastOf_35 (Or.inr ⟨_, rfl⟩) rfl ?_
        refine tx_getF hX fRX5_18 ly_93 (o := 3) (b := 96) fk_5_4 rfl (by decide) (Nat.lt_of_lt_of_le (by decide) hsz) dX5_lastOf_36 ?_
        refine ax_iload hX dX5_lastOf_39 rfl ?_
        refine tx_ial hX ly_96 (by decide) (Nat.lt_of_lt_of_le (by decide) hsz) hyp.1 dX5_lastOf_41 ?_
        replace hyp := hyp.2
        refine ax_iload_n hX dX5_lastOf_42 rfl ?_
        refine ax_icmp_ne hX dX5_lastOf_43 (tgt := 60) (by decide) (fun c => ?_) (fun c => ?_)
        · replace hyp := hyp.1 c
          refine ax_iinc hX dX5_lastOf_60 rfl (w := (v5 + (-1 : Int32))) rfl (by decide) (L' := [some (.ref 93), some (.int v1), some (.int v2), some (.int v3), some (.int v4), some (.int (v5 + (-1 : Int32)))]) rfl ?_
          refine ax_goto hX dX5_lastOf_63 (tgt := 8) (by decide) ?_
          exact ax_forget (L' := [some (.ref 93), some (.int v1), some (.int v2), some (.int v3), some (.int v4), some (.int (v5 + (-1 : Int32)))]) (⟨rfl, ⟨rfl, ⟨rfl, ⟨rfl, ⟨rfl, ⟨rfl, trivial⟩⟩⟩⟩⟩⟩) hyp
        · replace hyp := hyp.2 c
          refine ax_aload_n hX dX5_lastOf_46 (Or.inr ⟨_, rfl⟩) rfl ?_
          refine ax_iload hX dX5_lastOf_47 rfl ?_
          refine ax_iload hX dX5_lastOf_49 rfl ?_
          obtain ⟨Q1, hK, hyp⟩ := hyp
          refine ax_callV hX lRX5_44 im_X5_isKnown sl_X5_isKnown cw_X5_isKnown ((th_at (by decide) (Nat.lt_of_lt_of_le (by decide) hsz)).trans (tc_ob ly_93)) rfl rfl (A := [.int v5, .int v4]) (st := []) rfl rfl (Nat.le_of_ble_eq_true rfl) (by decide) (by decide) dX5_lastOf_51 hK ?_
          rintro _ _ ⟨r1, T1, rfl, rfl, hq⟩
          replace hyp := hyp r1 T1 hq
          refine ax_if_eq hX dX5_lastOf_54 (tgt := 60) (by decide) (fun c => ?_) (fun c => ?_)
          · replace hyp := hyp.1 c
            refine ax_iinc hX dX5_lastOf_60 rfl (w := (v5 + (-1 : Int32))) rfl (by decide) (L' := [some (.ref 93), some (.int v1), some (.int v2), some (.int v3), some (.int v4), some (.int (v5 + (-1 : Int32)))]) rfl ?_
            refine ax_goto hX dX5_lastOf_63 (tgt := 8) (by decide) ?_
            exact ax_forget (L' := [some (.ref 93), some (.int v1), some (.int v2), some (.int v3), some (.int v4), some (.int (v5 + (-1 : Int32)))]) (⟨rfl, ⟨rfl, ⟨rfl, ⟨rfl, ⟨rfl, ⟨rfl, trivial⟩⟩⟩⟩⟩⟩) hyp
          · replace hyp := hyp.2 c
            refine ax_iload hX dX5_lastOf_57 rfl ?_
            exact hR.1 _ _ _ _ _ _ (by decide) (by decide) dX5_lastOf_59 ⟨_, rfl, rfl⟩ ⟨_, _, rfl, rfl, hyp⟩
set_option maxRecDepth 10000 in
theorem s_X5_mainOf_0 {X : ax_X} {d L sz : Nat} {T : tT} {Q : Int32 → tT → Prop} (hX : ax_ok X mX5_mainOf (d + 1)) (hR : ax_Ret X mX5_mainOf (ti L sz Q)) (hsz : 161 ≤ sz) (x0 : Int32) (x1 : Int32) (hyp : ax_j X 2 [some (.ref 93), some (.int x0), some (.int x1), some (.int (0 : Int32))] [] (th L sz T) 0 0) : ax_j X 0 [some (.ref 93), some (.int x0), some (.int x1), none] [] (th L sz T) 0 0 := by
  refine ax_iconst hX dX5_mainOf_0 (v := 0) (by decide) ?_
  refine ax_istore_n hX dX5_mainOf_1 (by decide) (L' := [some (.ref 93), some (.int x0), some (.int x1), some (.int (0 : Int32))]) rfl ?_
  exact ax_forget (L' := [some (.ref 93), some (.int x0), some (.int x1), some (.int (0 : Int32))]) (⟨rfl, ⟨rfl, ⟨rfl, ⟨rfl, trivial⟩⟩⟩⟩) hyp
set_option maxRecDepth 10000 in
theorem s_X5_mainOf_2 {X : ax_X} {d L sz : Nat} {T : tT} {Q : Int32 → tT → Prop} (hX : ax_ok X mX5_mainOf (d + 1)) (hR : ax_Ret X mX5_mainOf (ti L sz Q)) (hsz : 161 ≤ sz) (v1 : Int32) (v2 : Int32) (v3 : Int32) (hyp : (((T.1 93 1) ≤ v3 → Q (-1 : Int32) T) ∧ (¬ (T.1 93 1) ≤ v3 → vp_in v3 200 ∧ ((¬ (T.1 94 (v3.toNatClampNeg)) = v1 → ax_j X 2 [some (.ref 93), some (.int v1), some (.int v2), some (.int (v3 + (1 : Int32)))] [] (th L sz T) 0 0) ∧ ((T.1 94 (v3.toNatClampNeg)) = v1 → vp_in v3 200 ∧ (((T.1 95 (v3.toNatClampNeg)) = (5 : Int32) → ax_j X 2 [some (.ref 93), some (.int v1), some (.int v2), some (.int (v3 + (1 : Int32)))] [] (th L sz T) 0 0) ∧ (¬ (T.1 95 (v3.toNatClampNeg)) = (5 : Int32) → ∃ Q1, tiK d mX5_isKnown [.ref 93, .int v3, .int v2] L sz T Q1 ∧ ∀ (r1 : Int32) (T1 : tT), Q1 r1 T1 → (((r1 = 0 → ax_j X 2 [some (.ref 93), some (.int v1), some (.int v2), some (.int (v3 + (1 : Int32)))] [] (th L sz T1) 0 0) ∧ (¬ r1 = 0 → vp_in v3 200 ∧ Q (T1.1 95 (v3.toNatClampNeg)) T1)))))))))) : ax_j X 2 [some (.ref 93), some (.int v1), some (.int v2), some (.int v3)] [] (th L sz T) 0 0 := by
  refine ax_iload_n hX dX5_mainOf_2 rfl ?_
  refine ax_aload_n hX dX5_mainOf_3 (Or.inr ⟨_, rfl⟩) rfl ?_
  refine tx_getI hX fRX5_33 ly_93 fk_5_1 (by decide) (Nat.lt_of_lt_of_le (by decide) hsz) dX5_mainOf_4 ?_
  refine ax_icmp_ge hX dX5_mainOf_7 (tgt := 52) (by decide) (fun c => ?_) (fun c => ?_)
  · replace hyp := hyp.1 c
    refine ax_iconst hX dX5_mainOf_52 (v := -1) (by decide) ?_
    exact hR.1 _ _ _ _ _ _ (by decide) (by decide) dX5_mainOf_53 ⟨_, rfl, rfl⟩ ⟨_, _, rfl, rfl, hyp⟩
  · replace hyp := hyp.2 c
    refine ax_aload_n hX dX5_mainOf_10 (Or.inr ⟨_, rfl⟩) rfl ?_
    refine tx_getF hX fRX5_9 ly_93 (o := 1) (b := 94) fk_5_2 rfl (by decide) (Nat.lt_of_lt_of_le (by decide) hsz) dX5_mainOf_11 ?_
    refine ax_iload_n hX dX5_mainOf_14 rfl ?_
    refine tx_ial hX ly_94 (by decide) (Nat.lt_of_lt_of_le (by decide) hsz) hyp.1 dX5_mainOf_15 ?_
    replace hyp := hyp.2
    refine ax_iload_n hX dX5_mainOf_16 rfl ?_
    refine ax_icmp_ne hX dX5_mainOf_17 (tgt := 46) (by decide) (fun c => ?_) (fun c => ?_)
    · replace hyp := hyp.1 c
      refine ax_iinc hX dX5_mainOf_46 rfl (w := (v3 + (1 : Int32))) rfl (by decide) (L' := [some (.ref 93), some (.int v1), some (.int v2), some (.int (v3 + (1 : Int32)))]) rfl ?_
      refine ax_goto hX dX5_mainOf_49 (tgt := 2) (by decide) ?_
      exact ax_forget (L' := [some (.ref 93), some (.int v1), some (.int v2), some (.int (v3 + (1 : Int32)))]) (⟨rfl, ⟨rfl, ⟨rfl, ⟨rfl, trivial⟩⟩⟩⟩) hyp
    · replace hyp := hyp.2 c
      refine ax_aload_n hX dX5_mainOf_20 (Or.inr ⟨_, rfl⟩) rfl ?_
      refine tx_getF hX fRX5_15 ly_93 (o := 2) (b := 95) fk_5_3 rfl (by decide) (Nat.lt_of_lt_of_le (by decide) hsz) dX5_mainOf_21 ?_
      refine ax_iload_n hX dX5_mainOf_24 rfl ?_
      refine tx_ial hX ly_95 (by decide) (Nat.lt_of_lt_of_le (by decide) hsz) hyp.1 dX5_mainOf_25 ?_
      replace hyp := hyp.2
      refine ax_iconst hX dX5_mainOf_26 (v := 5) (by decide) ?_
      refine ax_icmp_eq hX dX5_mainOf_27 (tgt := 46) (by decide) (fun c => ?_) (fun c => ?_)
      · replace hyp := hyp.1 c
        refine ax_iinc hX dX5_mainOf_46 rfl (w := (v3 + (1 : Int32))) rfl (by decide) (L' := [some (.ref 93), some (.int v1), some (.int v2), some (.int (v3 + (1 : Int32)))]) rfl ?_
        refine ax_goto hX dX5_mainOf_49 (tgt := 2) (by decide) ?_
        exact ax_forget (L' := [some (.ref 93), some (.int v1), some (.int v2), some (.int (v3 + (1 : Int32)))]) (⟨rfl, ⟨rfl, ⟨rfl, ⟨rfl, trivial⟩⟩⟩⟩) hyp
      · replace hyp := hyp.2 c
        refine ax_aload_n hX dX5_mainOf_30 (Or.inr ⟨_, rfl⟩) rfl ?_
        refine ax_iload_n hX dX5_mainOf_31 rfl ?_
        refine ax_iload_n hX dX5_mainOf_32 rfl ?_
        obtain ⟨Q1, hK, hyp⟩ := hyp
        refine ax_callV hX lRX5_44 im_X5_isKnown sl_X5_isKnown cw_X5_isKnown ((th_at (by decide) (Nat.lt_of_lt_of_le (by decide) hsz)).trans (tc_ob ly_93)) rfl rfl (A := [.int v3, .int v2]) (st := []) rfl rfl (Nat.le_of_ble_eq_true rfl) (by decide) (by decide) dX5_mainOf_33 hK ?_
        rintro _ _ ⟨r1, T1, rfl, rfl, hq⟩
        replace hyp := hyp r1 T1 hq
        refine ax_if_eq hX dX5_mainOf_36 (tgt := 46) (by decide) (fun c => ?_) (fun c => ?_)
        · replace hyp := hyp.1 c
          refine ax_iinc hX dX5_mainOf_46 rfl (w := (v3 + (1 : Int32))) rfl (by decide) (L' := [some (.ref 93), some (.int v1), some (.int v2), some (.int (v3 + (1 : Int32)))]) rfl ?_
          refine ax_goto hX dX5_mainOf_49 (tgt := 2) (by decide) ?_
          exact ax_forget (L' := [some (.ref 93), some (.int v1), some (.int v2), some (.int (v3 + (1 : Int32)))]) (⟨rfl, ⟨rfl, ⟨rfl, ⟨rfl, trivial⟩⟩⟩⟩) hyp
        · replace hyp := hyp.2 c
          refine ax_aload_n hX dX5_mainOf_39 (Or.inr ⟨_, rfl⟩) rfl ?_
          refine tx_getF hX fRX5_15 ly_93 (o := 2) (b := 95) fk_5_3 rfl (by decide) (Nat.lt_of_lt_of_le (by decide) hsz) dX5_mainOf_40 ?_
          refine ax_iload_n hX dX5_mainOf_43 rfl ?_
          refine tx_ial hX ly_95 (by decide) (Nat.lt_of_lt_of_le (by decide) hsz) hyp.1 dX5_mainOf_44 ?_
          replace hyp := hyp.2
          exact hR.1 _ _ _ _ _ _ (by decide) (by decide) dX5_mainOf_45 ⟨_, rfl, rfl⟩ ⟨_, _, rfl, rfl, hyp⟩
set_option maxRecDepth 10000 in
theorem s_X5_stands_0 {X : ax_X} {d L sz : Nat} {T : tT} {Q : Int32 → tT → Prop} (hX : ax_ok X mX5_stands d) (hR : ax_Ret X mX5_stands (ti L sz Q)) (hsz : 161 ≤ sz) (x0 : Int32) (hyp : vp_in x0 200 ∧ ((¬ (T.1 99 (x0.toNatClampNeg)) = (-1 : Int32) → Q (0 : Int32) T) ∧ ((T.1 99 (x0.toNatClampNeg)) = (-1 : Int32) → Q (1 : Int32) T))) : ax_j X 0 [some (.ref 93), some (.int x0)] [] (th L sz T) 0 0 := by
  refine ax_aload_n hX dX5_stands_0 (Or.inr ⟨_, rfl⟩) rfl ?_
  refine tx_getF hX fRX5_27 ly_93 (o := 6) (b := 99) fk_5_7 rfl (by decide) (Nat.lt_of_lt_of_le (by decide) hsz) dX5_stands_1 ?_
  refine ax_iload_n hX dX5_stands_4 rfl ?_
  refine tx_ial hX ly_99 (by decide) (Nat.lt_of_lt_of_le (by decide) hsz) hyp.1 dX5_stands_5 ?_
  replace hyp := hyp.2
  refine ax_iconst hX dX5_stands_6 (v := -1) (by decide) ?_
  refine ax_icmp_ne hX dX5_stands_7 (tgt := 14) (by decide) (fun c => ?_) (fun c => ?_)
  · replace hyp := hyp.1 c
    refine ax_iconst hX dX5_stands_14 (v := 0) (by decide) ?_
    exact hR.1 _ _ _ _ _ _ (by decide) (by decide) dX5_stands_15 ⟨_, rfl, rfl⟩ ⟨_, _, rfl, rfl, hyp⟩
  · replace hyp := hyp.2 c
    refine ax_iconst hX dX5_stands_10 (v := 1) (by decide) ?_
    refine ax_goto hX dX5_stands_11 (tgt := 15) (by decide) ?_
    exact hR.1 _ _ _ _ _ _ (by decide) (by decide) dX5_stands_15 ⟨_, rfl, rfl⟩ ⟨_, _, rfl, rfl, hyp⟩
set_option maxRecDepth 10000 in
theorem s_X5_takeBack_0 {X : ax_X} {d L sz : Nat} {T : tT} {Q : Int32 → tT → Prop} (hX : ax_ok X mX5_takeBack (d + 1)) (hR : ax_Ret X mX5_takeBack (ti L sz Q)) (hsz : 161 ≤ sz) (x0 : Int32) (hyp : ((x0 < 0 → Q (0 : Int32) T) ∧ (¬ x0 < 0 → (((T.1 93 1) ≤ x0 → Q (0 : Int32) T) ∧ (¬ (T.1 93 1) ≤ x0 → ∃ Q1, tiK d mX5_stands [.ref 93, .int x0] L sz T Q1 ∧ ∀ (r1 : Int32) (T1 : tT), Q1 r1 T1 → (((¬ r1 = 0 → vp_in x0 200 ∧ Q (1 : Int32) (tI T1 99 (x0.toNatClampNeg) (T1.1 93 0))) ∧ (r1 = 0 → Q (0 : Int32) T1)))))))) : ax_j X 0 [some (.ref 93), some (.int x0)] [] (th L sz T) 0 0 := by
  refine ax_iload_n hX dX5_takeBack_0 rfl ?_
  refine ax_if_lt hX dX5_takeBack_1 (tgt := 20) (by decide) (fun c => ?_) (fun c => ?_)
  · replace hyp := hyp.1 c
    refine ax_iconst hX dX5_takeBack_20 (v := 0) (by decide) ?_
    exact hR.1 _ _ _ _ _ _ (by decide) (by decide) dX5_takeBack_21 ⟨_, rfl, rfl⟩ ⟨_, _, rfl, rfl, hyp⟩
  · replace hyp := hyp.2 c
    refine ax_iload_n hX dX5_takeBack_4 rfl ?_
    refine ax_aload_n hX dX5_takeBack_5 (Or.inr ⟨_, rfl⟩) rfl ?_
    refine tx_getI hX fRX5_33 ly_93 fk_5_1 (by decide) (Nat.lt_of_lt_of_le (by decide) hsz) dX5_takeBack_6 ?_
    refine ax_icmp_ge hX dX5_takeBack_9 (tgt := 20) (by decide) (fun c => ?_) (fun c => ?_)
    · replace hyp := hyp.1 c
      refine ax_iconst hX dX5_takeBack_20 (v := 0) (by decide) ?_
      exact hR.1 _ _ _ _ _ _ (by decide) (by decide) dX5_takeBack_21 ⟨_, rfl, rfl⟩ ⟨_, _, rfl, rfl, hyp⟩
    · replace hyp := hyp.2 c
      refine ax_aload_n hX dX5_takeBack_12 (Or.inr ⟨_, rfl⟩) rfl ?_
      refine ax_iload_n hX dX5_takeBack_13 rfl ?_
      obtain ⟨Q1, hK, hyp⟩ := hyp
      refine ax_callV hX lRX5_40 im_X5_stands sl_X5_stands cw_X5_stands ((th_at (by decide) (Nat.lt_of_lt_of_le (by decide) hsz)).trans (tc_ob ly_93)) rfl rfl (A := [.int x0]) (st := []) rfl rfl (Nat.le_of_ble_eq_true rfl) (by decide) (by decide) dX5_takeBack_14 hK ?_
      rintro _ _ ⟨r1, T1, rfl, rfl, hq⟩
      replace hyp := hyp r1 T1 hq
      refine ax_if_ne hX dX5_takeBack_17 (tgt := 22) (by decide) (fun c => ?_) (fun c => ?_)
      · replace hyp := hyp.1 c
        refine ax_aload_n hX dX5_takeBack_22 (Or.inr ⟨_, rfl⟩) rfl ?_
        refine tx_getF hX fRX5_27 ly_93 (o := 6) (b := 99) fk_5_7 rfl (by decide) (Nat.lt_of_lt_of_le (by decide) hsz) dX5_takeBack_23 ?_
        refine ax_iload_n hX dX5_takeBack_26 rfl ?_
        refine ax_aload_n hX dX5_takeBack_27 (Or.inr ⟨_, rfl⟩) rfl ?_
        refine tx_getI hX fRX5_37 ly_93 fk_5_0 (by decide) (Nat.lt_of_lt_of_le (by decide) hsz) dX5_takeBack_28 ?_
        refine tx_ias hX ly_99 (by decide) (Nat.lt_of_lt_of_le (by decide) hsz) hyp.1 dX5_takeBack_31 ?_
        replace hyp := hyp.2
        refine ax_iconst hX dX5_takeBack_32 (v := 1) (by decide) ?_
        exact hR.1 _ _ _ _ _ _ (by decide) (by decide) dX5_takeBack_33 ⟨_, rfl, rfl⟩ ⟨_, _, rfl, rfl, hyp⟩
      · replace hyp := hyp.2 c
        refine ax_iconst hX dX5_takeBack_20 (v := 0) (by decide) ?_
        exact hR.1 _ _ _ _ _ _ (by decide) (by decide) dX5_takeBack_21 ⟨_, rfl, rfl⟩ ⟨_, _, rfl, rfl, hyp⟩
set_option maxRecDepth 10000 in
theorem s_X5_tell_0 {X : ax_X} {d L sz : Nat} {T : tT} {Q : Int32 → tT → Prop} (hX : ax_ok X mX5_tell d) (hR : ax_Ret X mX5_tell (ti L sz Q)) (hsz : 161 ≤ sz) (x0 : Int32) (x1 : Int32) (x2 : Int32) (x3 : Int32) (hyp : (((T.1 93 1) < (200 : Int32) → vp_in (T.1 93 1) 200 ∧ vp_in (T.1 93 1) 200 ∧ vp_in (T.1 93 1) 200 ∧ vp_in (T.1 93 1) 200 ∧ vp_in (T.1 93 1) 200 ∧ vp_in (T.1 93 1) 200 ∧ Q (((T.1 93 1) + (1 : Int32)) - (1 : Int32)) (tI (tI (tI (tI (tI (tI (tI T 94 ((T.1 93 1).toNatClampNeg) x1) 95 ((T.1 93 1).toNatClampNeg) x0) 96 ((T.1 93 1).toNatClampNeg) x2) 97 ((T.1 93 1).toNatClampNeg) x3) 98 ((T.1 93 1).toNatClampNeg) (T.1 93 0)) 99 ((T.1 93 1).toNatClampNeg) (-1 : Int32)) 93 1 ((T.1 93 1) + (1 : Int32)))) ∧ (¬ (T.1 93 1) < (200 : Int32) → Q (-1 : Int32) T))) : ax_j X 0 [some (.ref 93), some (.int x0), some (.int x1), some (.int x2), some (.int x3)] [] (th L sz T) 0 0 := by
  refine ax_aload_n hX dX5_tell_0 (Or.inr ⟨_, rfl⟩) rfl ?_
  refine tx_getI hX fRX5_33 ly_93 fk_5_1 (by decide) (Nat.lt_of_lt_of_le (by decide) hsz) dX5_tell_1 ?_
  refine ax_sipush hX dX5_tell_4 (v := 200) (by decide) ?_
  refine ax_icmp_lt hX dX5_tell_7 (tgt := 12) (by decide) (fun c => ?_) (fun c => ?_)
  · replace hyp := hyp.1 c
    refine ax_aload_n hX dX5_tell_12 (Or.inr ⟨_, rfl⟩) rfl ?_
    refine tx_getF hX fRX5_9 ly_93 (o := 1) (b := 94) fk_5_2 rfl (by decide) (Nat.lt_of_lt_of_le (by decide) hsz) dX5_tell_13 ?_
    refine ax_aload_n hX dX5_tell_16 (Or.inr ⟨_, rfl⟩) rfl ?_
    refine tx_getI hX fRX5_33 ly_93 fk_5_1 (by decide) (Nat.lt_of_lt_of_le (by decide) hsz) dX5_tell_17 ?_
    refine ax_iload_n hX dX5_tell_20 rfl ?_
    refine tx_ias hX ly_94 (by decide) (Nat.lt_of_lt_of_le (by decide) hsz) hyp.1 dX5_tell_21 ?_
    replace hyp := hyp.2
    refine ax_aload_n hX dX5_tell_22 (Or.inr ⟨_, rfl⟩) rfl ?_
    refine tx_getF hX fRX5_15 ly_93 (o := 2) (b := 95) fk_5_3 rfl (by decide) (Nat.lt_of_lt_of_le (by decide) hsz) dX5_tell_23 ?_
    refine ax_aload_n hX dX5_tell_26 (Or.inr ⟨_, rfl⟩) rfl ?_
    refine tx_getI hX fRX5_33 ly_93 fk_5_1 (by decide) (Nat.lt_of_lt_of_le (by decide) hsz) dX5_tell_27 ?_
    refine ax_iload_n hX dX5_tell_30 rfl ?_
    refine tx_ias hX ly_95 (by decide) (Nat.lt_of_lt_of_le (by decide) hsz) hyp.1 dX5_tell_31 ?_
    replace hyp := hyp.2
    refine ax_aload_n hX dX5_tell_32 (Or.inr ⟨_, rfl⟩) rfl ?_
    refine tx_getF hX fRX5_18 ly_93 (o := 3) (b := 96) fk_5_4 rfl (by decide) (Nat.lt_of_lt_of_le (by decide) hsz) dX5_tell_33 ?_
    refine ax_aload_n hX dX5_tell_36 (Or.inr ⟨_, rfl⟩) rfl ?_
    refine tx_getI hX fRX5_33 ly_93 fk_5_1 (by decide) (Nat.lt_of_lt_of_le (by decide) hsz) dX5_tell_37 ?_
    refine ax_iload_n hX dX5_tell_40 rfl ?_
    refine tx_ias hX ly_96 (by decide) (Nat.lt_of_lt_of_le (by decide) hsz) hyp.1 dX5_tell_41 ?_
    replace hyp := hyp.2
    refine ax_aload_n hX dX5_tell_42 (Or.inr ⟨_, rfl⟩) rfl ?_
    refine tx_getF hX fRX5_21 ly_93 (o := 4) (b := 97) fk_5_5 rfl (by decide) (Nat.lt_of_lt_of_le (by decide) hsz) dX5_tell_43 ?_
    refine ax_aload_n hX dX5_tell_46 (Or.inr ⟨_, rfl⟩) rfl ?_
    refine tx_getI hX fRX5_33 ly_93 fk_5_1 (by decide) (Nat.lt_of_lt_of_le (by decide) hsz) dX5_tell_47 ?_
    refine ax_iload hX dX5_tell_50 rfl ?_
    refine tx_ias hX ly_97 (by decide) (Nat.lt_of_lt_of_le (by decide) hsz) hyp.1 dX5_tell_52 ?_
    replace hyp := hyp.2
    refine ax_aload_n hX dX5_tell_53 (Or.inr ⟨_, rfl⟩) rfl ?_
    refine tx_getF hX fRX5_24 ly_93 (o := 5) (b := 98) fk_5_6 rfl (by decide) (Nat.lt_of_lt_of_le (by decide) hsz) dX5_tell_54 ?_
    refine ax_aload_n hX dX5_tell_57 (Or.inr ⟨_, rfl⟩) rfl ?_
    refine tx_getI hX fRX5_33 ly_93 fk_5_1 (by decide) (Nat.lt_of_lt_of_le (by decide) hsz) dX5_tell_58 ?_
    refine ax_aload_n hX dX5_tell_61 (Or.inr ⟨_, rfl⟩) rfl ?_
    refine tx_getI hX fRX5_37 ly_93 fk_5_0 (by decide) (Nat.lt_of_lt_of_le (by decide) hsz) dX5_tell_62 ?_
    refine tx_ias hX ly_98 (by decide) (Nat.lt_of_lt_of_le (by decide) hsz) hyp.1 dX5_tell_65 ?_
    replace hyp := hyp.2
    refine ax_aload_n hX dX5_tell_66 (Or.inr ⟨_, rfl⟩) rfl ?_
    refine tx_getF hX fRX5_27 ly_93 (o := 6) (b := 99) fk_5_7 rfl (by decide) (Nat.lt_of_lt_of_le (by decide) hsz) dX5_tell_67 ?_
    refine ax_aload_n hX dX5_tell_70 (Or.inr ⟨_, rfl⟩) rfl ?_
    refine tx_getI hX fRX5_33 ly_93 fk_5_1 (by decide) (Nat.lt_of_lt_of_le (by decide) hsz) dX5_tell_71 ?_
    refine ax_iconst hX dX5_tell_74 (v := -1) (by decide) ?_
    refine tx_ias hX ly_99 (by decide) (Nat.lt_of_lt_of_le (by decide) hsz) hyp.1 dX5_tell_75 ?_
    replace hyp := hyp.2
    refine ax_aload_n hX dX5_tell_76 (Or.inr ⟨_, rfl⟩) rfl ?_
    refine ax_dup hX dX5_tell_77 rfl ?_
    refine tx_getI hX fRX5_33 ly_93 fk_5_1 (by decide) (Nat.lt_of_lt_of_le (by decide) hsz) dX5_tell_78 ?_
    refine ax_iconst hX dX5_tell_81 (v := 1) (by decide) ?_
    refine ax_iadd hX dX5_tell_82 ?_
    refine tx_putI hX fRX5_33 ly_93 fk_5_1 (by decide) (Nat.lt_of_lt_of_le (by decide) hsz) rfl rfl dX5_tell_83 ?_
    refine ax_aload_n hX dX5_tell_86 (Or.inr ⟨_, rfl⟩) rfl ?_
    refine tx_getI hX fRX5_33 ly_93 fk_5_1 (by decide) (Nat.lt_of_lt_of_le (by decide) hsz) dX5_tell_87 ?_
    refine ax_iconst hX dX5_tell_90 (v := 1) (by decide) ?_
    refine ax_isub hX dX5_tell_91 ?_
    exact hR.1 _ _ _ _ _ _ (by decide) (by decide) dX5_tell_92 ⟨_, rfl, rfl⟩ ⟨_, _, rfl, rfl, hyp⟩
  · replace hyp := hyp.2 c
    refine ax_iconst hX dX5_tell_10 (v := -1) (by decide) ?_
    exact hR.1 _ _ _ _ _ _ (by decide) (by decide) dX5_tell_11 ⟨_, rfl, rfl⟩ ⟨_, _, rfl, rfl, hyp⟩
set_option maxRecDepth 10000 in
theorem s_X6_addMeaning_0 {X : ax_X} {d L sz : Nat} {T : tT} {Q : tT → Prop} (hX : ax_ok X mX6_addMeaning (d + 1)) (hR : ax_Ret X mX6_addMeaning (tv L sz Q)) (hsz : 161 ≤ sz) {q : Nat} (h_q : tgr sz q)  (hyp : ((¬ (T.1 4 2) = (2 : Int32) → ((¬ (T.1 4 2) = (3 : Int32) → (((T.1 4 2) = (210 : Int32) → ((¬ (T.1 3 4) = (1 : Int32) → ∃ Q1, tvK d mX6_fail [.ref 3, .int (4 : Int32), .int (T.1 4 3)] L sz T Q1 ∧ ∀ (T1 : tT), Q1 T1 → (Q T1)) ∧ ((T.1 3 4) = (1 : Int32) → (((T.2.2 3 3) = none → False) ∧ (∀ p2, (T.2.2 3 3) = some p2 → tsy sz p2 ∧ ∃ Q1, tvK d mX8_addCell [.ref p2, .int (T.1 4 2), .int (0 : Int32)] L sz T Q1 ∧ ∀ (T3 : tT), Q1 T3 → (Q T3)))))) ∧ (¬ (T.1 4 2) = (210 : Int32) → (((T.1 4 2) = (211 : Int32) → ((¬ (T.1 3 4) = (1 : Int32) → ∃ Q1, tvK d mX6_fail [.ref 3, .int (4 : Int32), .int (T.1 4 3)] L sz T Q1 ∧ ∀ (T4 : tT), Q1 T4 → (Q T4)) ∧ ((T.1 3 4) = (1 : Int32) → (((T.2.2 3 3) = none → False) ∧ (∀ p5, (T.2.2 3 3) = some p5 → tsy sz p5 ∧ ∃ Q1, tvK d mX8_addCell [.ref p5, .int (T.1 4 2), .int (0 : Int32)] L sz T Q1 ∧ ∀ (T6 : tT), Q1 T6 → (Q T6)))))) ∧ (¬ (T.1 4 2) = (211 : Int32) → ((¬ (T.1 4 2) = (212 : Int32) → ((¬ (T.1 3 4) = (0 : Int32) → ∃ Q1, tvK d mX6_fail [.ref 3, .int (4 : Int32), .int (T.1 4 3)] L sz T Q1 ∧ ∀ (T7 : tT), Q1 T7 → (Q T7)) ∧ ((T.1 3 4) = (0 : Int32) → (((T.2.2 3 3) = none → False) ∧ (∀ p8, (T.2.2 3 3) = some p8 → tsy sz p8 ∧ ∃ Q1, tvK d mX8_addCell [.ref p8, .int (T.1 4 2), .int (0 : Int32)] L sz T Q1 ∧ ∀ (T9 : tT), Q1 T9 → (Q T9)))))) ∧ ((T.1 4 2) = (212 : Int32) → ((¬ (T.1 3 4) = (1 : Int32) → ∃ Q1, tvK d mX6_fail [.ref 3, .int (4 : Int32), .int (T.1 4 3)] L sz T Q1 ∧ ∀ (T10 : tT), Q1 T10 → (Q T10)) ∧ ((T.1 3 4) = (1 : Int32) → (((T.2.2 3 3) = none → False) ∧ (∀ p11, (T.2.2 3 3) = some p11 → tsy sz p11 ∧ ∃ Q1, tvK d mX8_addCell [.ref p11, .int (T.1 4 2), .int (0 : Int32)] L sz T Q1 ∧ ∀ (T12 : tT), Q1 T12 → (Q T12)))))))))))) ∧ ((T.1 4 2) = (3 : Int32) → (((T.1 3 4) = 0 → (((T.1 3 4) = 0 → ∃ Q1, tiK d mX3_findPart [.ref q, .long (T.2.1 4 5)] L sz T Q1 ∧ ∀ (r13 : Int32) (T13 : tT), Q1 r13 T13 → (∃ Q1, tvK d mX6_addNamed [.ref 3, .int (202 : Int32), .int r13] L sz T13 Q1 ∧ ∀ (T14 : tT), Q1 T14 → (Q T14))) ∧ (¬ (T.1 3 4) = 0 → ∃ Q1, tiK d mX3_findList [.ref q, .long (T.2.1 4 5)] L sz T Q1 ∧ ∀ (r15 : Int32) (T15 : tT), Q1 r15 T15 → (∃ Q1, tvK d mX6_addNamed [.ref 3, .int (202 : Int32), .int r15] L sz T15 Q1 ∧ ∀ (T16 : tT), Q1 T16 → (Q T16))))) ∧ (¬ (T.1 3 4) = 0 → (((T.1 3 4) = 0 → ∃ Q1, tiK d mX3_findPart [.ref q, .long (T.2.1 4 5)] L sz T Q1 ∧ ∀ (r17 : Int32) (T17 : tT), Q1 r17 T17 → (∃ Q1, tvK d mX6_addNamed [.ref 3, .int (201 : Int32), .int r17] L sz T17 Q1 ∧ ∀ (T18 : tT), Q1 T18 → (Q T18))) ∧ (¬ (T.1 3 4) = 0 → ∃ Q1, tiK d mX3_findList [.ref q, .long (T.2.1 4 5)] L sz T Q1 ∧ ∀ (r19 : Int32) (T19 : tT), Q1 r19 T19 → (∃ Q1, tvK d mX6_addNamed [.ref 3, .int (201 : Int32), .int r19] L sz T19 Q1 ∧ ∀ (T20 : tT), Q1 T20 → (Q T20))))))))) ∧ ((T.1 4 2) = (2 : Int32) → (((T.2.2 3 3) = none → False) ∧ (∀ p21, (T.2.2 3 3) = some p21 → tsy sz p21 ∧ ∃ Q1, tvK d mX8_addCell [.ref p21, .int (2 : Int32), .int (T.1 4 4)] L sz T Q1 ∧ ∀ (T22 : tT), Q1 T22 → (Q T22)))))) : ax_j X 0 [some (.ref 3), some (.ref q), none] [] (th L sz T) 0 0 := by
  refine ax_aload_n hX dX6_addMeaning_0 (Or.inr ⟨_, rfl⟩) rfl ?_
  refine tx_getF hX fRX6_12 ly_3 (o := 1) (b := 4) fk_6_0 rfl (by decide) (Nat.lt_of_lt_of_le (by decide) hsz) dX6_addMeaning_1 ?_
  refine tx_getI hX fRX6_41 ly_4 fk_9_2 (by decide) (Nat.lt_of_lt_of_le (by decide) hsz) dX6_addMeaning_4 ?_
  refine ax_istore_n hX dX6_addMeaning_7 (by decide) (L' := [some (.ref 3), some (.ref q), some (.int (T.1 4 2))]) rfl ?_
  refine ax_iload_n hX dX6_addMeaning_8 rfl ?_
  refine ax_iconst hX dX6_addMeaning_9 (v := 2) (by decide) ?_
  refine ax_icmp_ne hX dX6_addMeaning_10 (tgt := 31) (by decide) (fun c => ?_) (fun c => ?_)
  · replace hyp := hyp.1 c
    refine ax_iload_n hX dX6_addMeaning_31 rfl ?_
    refine ax_iconst hX dX6_addMeaning_32 (v := 3) (by decide) ?_
    refine ax_icmp_ne hX dX6_addMeaning_33 (tgt := 91) (by decide) (fun c => ?_) (fun c => ?_)
    · replace hyp := hyp.1 c
      refine ax_aload_n hX dX6_addMeaning_91 (Or.inr ⟨_, rfl⟩) rfl ?_
      refine tx_getI hX fRX6_99 ly_3 fk_6_4 (by decide) (Nat.lt_of_lt_of_le (by decide) hsz) dX6_addMeaning_92 ?_
      refine ax_iload_n hX dX6_addMeaning_95 rfl ?_
      refine ax_sipush hX dX6_addMeaning_96 (v := 210) (by decide) ?_
      refine ax_icmp_eq hX dX6_addMeaning_99 (tgt := 116) (by decide) (fun c => ?_) (fun c => ?_)
      · replace hyp := hyp.1 c
        refine ax_iconst hX dX6_addMeaning_116 (v := 1) (by decide) ?_
        refine ax_goto hX dX6_addMeaning_117 (tgt := 121) (by decide) ?_
        refine ax_icmp_ne hX dX6_addMeaning_121 (tgt := 136) (by decide) (fun c => ?_) (fun c => ?_)
        · replace hyp := hyp.1 c
          refine ax_aload_n hX dX6_addMeaning_136 (Or.inr ⟨_, rfl⟩) rfl ?_
          refine ax_iconst hX dX6_addMeaning_137 (v := 4) (by decide) ?_
          refine ax_aload_n hX dX6_addMeaning_138 (Or.inr ⟨_, rfl⟩) rfl ?_
          refine tx_getF hX fRX6_12 ly_3 (o := 1) (b := 4) fk_6_0 rfl (by decide) (Nat.lt_of_lt_of_le (by decide) hsz) dX6_addMeaning_139 ?_
          refine tx_getI hX fRX6_62 ly_4 fk_9_3 (by decide) (Nat.lt_of_lt_of_le (by decide) hsz) dX6_addMeaning_142 ?_
          obtain ⟨Q1, hK, hyp⟩ := hyp
          refine ax_callV hX lRX6_71 im_X6_fail sl_X6_fail cw_X6_fail ((th_at (by decide) (Nat.lt_of_lt_of_le (by decide) hsz)).trans (tc_ob ly_3)) rfl rfl (A := [.int (4 : Int32), .int (T.1 4 3)]) (st := []) rfl rfl (Nat.le_of_ble_eq_true rfl) (by decide) (by decide) dX6_addMeaning_145 hK ?_
          rintro _ _ ⟨T1, rfl, rfl, hq⟩
          replace hyp := hyp T1 hq
          exact hR.2.2.2 _ _ _ _ _ (by decide) (by decide) dX6_addMeaning_148 rfl ⟨_, rfl, rfl, hyp⟩
        · replace hyp := hyp.2 c
          refine ax_aload_n hX dX6_addMeaning_124 (Or.inr ⟨_, rfl⟩) rfl ?_
          rcases ho2 : (T.2.2 3 3) with _ | p2
          · replace hyp := hyp.1 ho2
            refine tx_getP hX fRX6_25 ly_3 fk_6_3 (by decide) (Nat.lt_of_lt_of_le (by decide) hsz) (v := .null) (congrArg va_rf ho2) dX6_addMeaning_125 ?_
            refine ax_iload_n hX dX6_addMeaning_128 rfl ?_
            refine ax_iconst hX dX6_addMeaning_129 (v := 0) (by decide) ?_
            exact hyp.elim
          · obtain ⟨h_p2, hyp⟩ := hyp.2 p2 ho2
            refine tx_getP hX fRX6_25 ly_3 fk_6_3 (by decide) (Nat.lt_of_lt_of_le (by decide) hsz) (v := .ref p2) (congrArg va_rf ho2) dX6_addMeaning_125 ?_
            refine ax_iload_n hX dX6_addMeaning_128 rfl ?_
            refine ax_iconst hX dX6_addMeaning_129 (v := 0) (by decide) ?_
            obtain ⟨Q1, hK, hyp⟩ := hyp
            refine ax_callV hX lRX6_107 im_X8_addCell sl_X8_addCell cw_X8_addCell ((th_at (h_p2.ne 0 (by decide)) (h_p2.lt 0 (by decide))).trans (tc_ob h_p2.ly0)) rfl rfl (A := [.int (T.1 4 2), .int (0 : Int32)]) (st := []) rfl rfl (Nat.le_of_ble_eq_true rfl) (by decide) (by decide) dX6_addMeaning_130 hK ?_
            rintro _ _ ⟨T3, rfl, rfl, hq⟩
            replace hyp := hyp T3 hq
            refine ax_goto hX dX6_addMeaning_133 (tgt := 148) (by decide) ?_
            exact hR.2.2.2 _ _ _ _ _ (by decide) (by decide) dX6_addMeaning_148 rfl ⟨_, rfl, rfl, hyp⟩
      · replace hyp := hyp.2 c
        refine ax_iload_n hX dX6_addMeaning_102 rfl ?_
        refine ax_sipush hX dX6_addMeaning_103 (v := 211) (by decide) ?_
        refine ax_icmp_eq hX dX6_addMeaning_106 (tgt := 116) (by decide) (fun c => ?_) (fun c => ?_)
        · replace hyp := hyp.1 c
          refine ax_iconst hX dX6_addMeaning_116 (v := 1) (by decide) ?_
          refine ax_goto hX dX6_addMeaning_117 (tgt := 121) (by decide) ?_
          refine ax_icmp_ne hX dX6_addMeaning_121 (tgt := 136) (by decide) (fun c => ?_) (fun c => ?_)
          · replace hyp := hyp.1 c
            refine ax_aload_n hX dX6_addMeaning_136 (Or.inr ⟨_, rfl⟩) rfl ?_
            refine ax_iconst hX dX6_addMeaning_137 (v := 4) (by decide) ?_
            refine ax_aload_n hX dX6_addMeaning_138 (Or.inr ⟨_, rfl⟩) rfl ?_
            refine tx_getF hX fRX6_12 ly_3 (o := 1) (b := 4) fk_6_0 rfl (by decide) (Nat.lt_of_lt_of_le (by decide) hsz) dX6_addMeaning_139 ?_
            refine tx_getI hX fRX6_62 ly_4 fk_9_3 (by decide) (Nat.lt_of_lt_of_le (by decide) hsz) dX6_addMeaning_142 ?_
            obtain ⟨Q1, hK, hyp⟩ := hyp
            refine ax_callV hX lRX6_71 im_X6_fail sl_X6_fail cw_X6_fail ((th_at (by decide) (Nat.lt_of_lt_of_le (by decide) hsz)).trans (tc_ob ly_3)) rfl rfl (A := [.int (4 : Int32), .int (T.1 4 3)]) (st := []) rfl rfl (Nat.le_of_ble_eq_true rfl) (by decide) (by decide) dX6_addMeaning_145 hK ?_
            rintro _ _ ⟨T4, rfl, rfl, hq⟩
            replace hyp := hyp T4 hq
            exact hR.2.2.2 _ _ _ _ _ (by decide) (by decide) dX6_addMeaning_148 rfl ⟨_, rfl, rfl, hyp⟩
          · replace hyp := hyp.2 c
            refine ax_aload_n hX dX6_addMeaning_124 (Or.inr ⟨_, rfl⟩) rfl ?_
            rcases ho5 : (T.2.2 3 3) with _ | p5
            · replace hyp := hyp.1 ho5
              refine tx_getP hX fRX6_25 ly_3 fk_6_3 (by decide) (Nat.lt_of_lt_of_le (by decide) hsz) (v := .null) (congrArg va_rf ho5) dX6_addMeaning_125 ?_
              refine ax_iload_n hX dX6_addMeaning_128 rfl ?_
              refine ax_iconst hX dX6_addMeaning_129 (v := 0) (by decide) ?_
              exact hyp.elim
            · obtain ⟨h_p5, hyp⟩ := hyp.2 p5 ho5
              refine tx_getP hX fRX6_25 ly_3 fk_6_3 (by decide) (Nat.lt_of_lt_of_le (by decide) hsz) (v := .ref p5) (congrArg va_rf ho5) dX6_addMeaning_125 ?_
              refine ax_iload_n hX dX6_addMeaning_128 rfl ?_
              refine ax_iconst hX dX6_addMeaning_129 (v := 0) (by decide) ?_
              obtain ⟨Q1, hK, hyp⟩ := hyp
              refine ax_callV hX lRX6_107 im_X8_addCell sl_X8_addCell cw_X8_addCell ((th_at (h_p5.ne 0 (by decide)) (h_p5.lt 0 (by decide))).trans (tc_ob h_p5.ly0)) rfl rfl (A := [.int (T.1 4 2), .int (0 : Int32)]) (st := []) rfl rfl (Nat.le_of_ble_eq_true rfl) (by decide) (by decide) dX6_addMeaning_130 hK ?_
              rintro _ _ ⟨T6, rfl, rfl, hq⟩
              replace hyp := hyp T6 hq
              refine ax_goto hX dX6_addMeaning_133 (tgt := 148) (by decide) ?_
              exact hR.2.2.2 _ _ _ _ _ (by decide) (by decide) dX6_addMeaning_148 rfl ⟨_, rfl, rfl, hyp⟩
        · replace hyp := hyp.2 c
          refine ax_iload_n hX dX6_addMeaning_109 rfl ?_
          refine ax_sipush hX dX6_addMeaning_110 (v := 212) (by decide) ?_
          refine ax_icmp_ne hX dX6_addMeaning_113 (tgt := 120) (by decide) (fun c => ?_) (fun c => ?_)
          · replace hyp := hyp.1 c
            refine ax_iconst hX dX6_addMeaning_120 (v := 0) (by decide) ?_
            refine ax_icmp_ne hX dX6_addMeaning_121 (tgt := 136) (by decide) (fun c => ?_) (fun c => ?_)
            · replace hyp := hyp.1 c
              refine ax_aload_n hX dX6_addMeaning_136 (Or.inr ⟨_, rfl⟩) rfl ?_
              refine ax_iconst hX dX6_addMeaning_137 (v := 4) (by decide) ?_
              refine ax_aload_n hX dX6_addMeaning_138 (Or.inr ⟨_, rfl⟩) rfl ?_
              refine tx_getF hX fRX6_12 ly_3 (o := 1) (b := 4) fk_6_0 rfl (by decide) (Nat.lt_of_lt_of_le (by decide) hsz) dX6_addMeaning_139 ?_
              refine tx_getI hX fRX6_62 ly_4 fk_9_3 (by decide) (Nat.lt_of_lt_of_le (by decide) hsz) dX6_addMeaning_142 ?_
              obtain ⟨Q1, hK, hyp⟩ := hyp
              refine ax_callV hX lRX6_71 im_X6_fail sl_X6_fail cw_X6_fail ((th_at (by decide) (Nat.lt_of_lt_of_le (by decide) hsz)).trans (tc_ob ly_3)) rfl rfl (A := [.int (4 : Int32), .int (T.1 4 3)]) (st := []) rfl rfl (Nat.le_of_ble_eq_true rfl) (by decide) (by decide) dX6_addMeaning_145 hK ?_
              rintro _ _ ⟨T7, rfl, rfl, hq⟩
              replace hyp := hyp T7 hq
              exact hR.2.2.2 _ _ _ _ _ (by decide) (by decide) dX6_addMeaning_148 rfl ⟨_, rfl, rfl, hyp⟩
            · replace hyp := hyp.2 c
              refine ax_aload_n hX dX6_addMeaning_124 (Or.inr ⟨_, rfl⟩) rfl ?_
              rcases ho8 : (T.2.2 3 3) with _ | p8
              · replace hyp := hyp.1 ho8
                refine tx_getP hX fRX6_25 ly_3 fk_6_3 (by decide) (Nat.lt_of_lt_of_le (by decide) hsz) (v := .null) (congrArg va_rf ho8) dX6_addMeaning_125 ?_
                refine ax_iload_n hX dX6_addMeaning_128 rfl ?_
                refine ax_iconst hX dX6_addMeaning_129 (v := 0) (by decide) ?_
                exact hyp.elim
              · obtain ⟨h_p8, hyp⟩ := hyp.2 p8 ho8
                refine tx_getP hX fRX6_25 ly_3 fk_6_3 (by decide) (Nat.lt_of_lt_of_le (by decide) hsz) (v := .ref p8) (congrArg va_rf ho8) dX6_addMeaning_125 ?_
                refine ax_iload_n hX dX6_addMeaning_128 rfl ?_
                refine ax_iconst hX dX6_addMeaning_129 (v := 0) (by decide) ?_
                obtain ⟨Q1, hK, hyp⟩ := hyp
                refine ax_callV hX lRX6_107 im_X8_addCell sl_X8_addCell cw_X8_addCell ((th_at (h_p8.ne 0 (by decide)) (h_p8.lt 0 (by decide))).trans (tc_ob h_p8.ly0)) rfl rfl (A := [.int (T.1 4 2), .int (0 : Int32)]) (st := []) rfl rfl (Nat.le_of_ble_eq_true rfl) (by decide) (by decide) dX6_addMeaning_130 hK ?_
                rintro _ _ ⟨T9, rfl, rfl, hq⟩
                replace hyp := hyp T9 hq
                refine ax_goto hX dX6_addMeaning_133 (tgt := 148) (by decide) ?_
                exact hR.2.2.2 _ _ _ _ _ (by decide) (by decide) dX6_addMeaning_148 rfl ⟨_, rfl, rfl, hyp⟩
          · replace hyp := hyp.2 c
            refine ax_iconst hX dX6_addMeaning_116 (v := 1) (by decide) ?_
            refine ax_goto hX dX6_addMeaning_117 (tgt := 121) (by decide) ?_
            refine ax_icmp_ne hX dX6_addMeaning_121 (tgt := 136) (by decide) (fun c => ?_) (fun c => ?_)
            · replace hyp := hyp.1 c
              refine ax_aload_n hX dX6_addMeaning_136 (Or.inr ⟨_, rfl⟩) rfl ?_
              refine ax_iconst hX dX6_addMeaning_137 (v := 4) (by decide) ?_
              refine ax_aload_n hX dX6_addMeaning_138 (Or.inr ⟨_, rfl⟩) rfl ?_
              refine tx_getF hX fRX6_12 ly_3 (o := 1) (b := 4) fk_6_0 rfl (by decide) (Nat.lt_of_lt_of_le (by decide) hsz) dX6_addMeaning_139 ?_
              refine tx_getI hX fRX6_62 ly_4 fk_9_3 (by decide) (Nat.lt_of_lt_of_le (by decide) hsz) dX6_addMeaning_142 ?_
              obtain ⟨Q1, hK, hyp⟩ := hyp
              refine ax_callV hX lRX6_71 im_X6_fail sl_X6_fail cw_X6_fail ((th_at (by decide) (Nat.lt_of_lt_of_le (by decide) hsz)).trans (tc_ob ly_3)) rfl rfl (A := [.int (4 : Int32), .int (T.1 4 3)]) (st := []) rfl rfl (Nat.le_of_ble_eq_true rfl) (by decide) (by decide) dX6_addMeaning_145 hK ?_
              rintro _ _ ⟨T10, rfl, rfl, hq⟩
              replace hyp := hyp T10 hq
              exact hR.2.2.2 _ _ _ _ _ (by decide) (by decide) dX6_addMeaning_148 rfl ⟨_, rfl, rfl, hyp⟩
            · replace hyp := hyp.2 c
              refine ax_aload_n hX dX6_addMeaning_124 (Or.inr ⟨_, rfl⟩) rfl ?_
              rcases ho11 : (T.2.2 3 3) with _ | p11
              · replace hyp := hyp.1 ho11
                refine tx_getP hX fRX6_25 ly_3 fk_6_3 (by decide) (Nat.lt_of_lt_of_le (by decide) hsz) (v := .null) (congrArg va_rf ho11) dX6_addMeaning_125 ?_
                refine ax_iload_n hX dX6_addMeaning_128 rfl ?_
                refine ax_iconst hX dX6_addMeaning_129 (v := 0) (by decide) ?_
                exact hyp.elim
              · obtain ⟨h_p11, hyp⟩ := hyp.2 p11 ho11
                refine tx_getP hX fRX6_25 ly_3 fk_6_3 (by decide) (Nat.lt_of_lt_of_le (by decide) hsz) (v := .ref p11) (congrArg va_rf ho11) dX6_addMeaning_125 ?_
                refine ax_iload_n hX dX6_addMeaning_128 rfl ?_
                refine ax_iconst hX dX6_addMeaning_129 (v := 0) (by decide) ?_
                obtain ⟨Q1, hK, hyp⟩ := hyp
                refine ax_callV hX lRX6_107 im_X8_addCell sl_X8_addCell cw_X8_addCell ((th_at (h_p11.ne 0 (by decide)) (h_p11.lt 0 (by decide))).trans (tc_ob h_p11.ly0)) rfl rfl (A := [.int (T.1 4 2), .int (0 : Int32)]) (st := []) rfl rfl (Nat.le_of_ble_eq_true rfl) (by decide) (by decide) dX6_addMeaning_130 hK ?_
                rintro _ _ ⟨T12, rfl, rfl, hq⟩
                replace hyp := hyp T12 hq
                refine ax_goto hX dX6_addMeaning_133 (tgt := 148) (by decide) ?_
                exact hR.2.2.2 _ _ _ _ _ (by decide) (by decide) dX6_addMeaning_148 rfl ⟨_, rfl, rfl, hyp⟩
    · replace hyp := hyp.2 c
      refine ax_aload_n hX dX6_addMeaning_36 (Or.inr ⟨_, rfl⟩) rfl ?_
      refine ax_aload_n hX dX6_addMeaning_37 (Or.inr ⟨_, rfl⟩) rfl ?_
      refine tx_getI hX fRX6_99 ly_3 fk_6_4 (by decide) (Nat.lt_of_lt_of_le (by decide) hsz) dX6_addMeaning_38 ?_
      refine ax_if_eq hX dX6_addMeaning_41 (tgt := 50) (by decide) (fun c => ?_) (fun c => ?_)
      · replace hyp := hyp.1 c
        refine ax_sipush hX dX6_addMeaning_50 (v := 202) (by decide) ?_
        refine ax_aload_n hX dX6_addMeaning_53 (Or.inr ⟨_, rfl⟩) rfl ?_
        refine tx_getI hX fRX6_99 ly_3 fk_6_4 (by decide) (Nat.lt_of_lt_of_le (by decide) hsz) dX6_addMeaning_54 ?_
        refine ax_if_eq hX dX6_addMeaning_57 (tgt := 74) (by decide) (fun c => ?_) (fun c => ?_)
        · replace hyp := hyp.1 c
          refine ax_aload_n hX dX6_addMeaning_74 (Or.inr ⟨_, rfl⟩) rfl ?_
          refine ax_aload_n hX dX6_addMeaning_75 (Or.inr ⟨_, rfl⟩) rfl ?_
          refine tx_getF hX fRX6_12 ly_3 (o := 1) (b := 4) fk_6_0 rfl (by decide) (Nat.lt_of_lt_of_le (by decide) hsz) dX6_addMeaning_76 ?_
          refine tx_getJ hX fRX6_165 ly_4 fk_9_5 (by decide) (Nat.lt_of_lt_of_le (by decide) hsz) dX6_addMeaning_79 ?_
          obtain ⟨Q1, hK, hyp⟩ := hyp
          refine ax_callV hX lRX6_173 im_X3_findPart sl_X3_findPart cw_X3_findPart ((th_at (h_q.ne 0 (by decide)) (h_q.lt 0 (by decide))).trans (tc_ob h_q.ly0)) rfl rfl (A := [.long (T.2.1 4 5)]) (st := [.int (202 : Int32), .ref 3]) rfl rfl (Nat.le_of_ble_eq_true rfl) (by decide) (by decide) dX6_addMeaning_82 hK ?_
          rintro _ _ ⟨r13, T13, rfl, rfl, hq⟩
          replace hyp := hyp r13 T13 hq
          obtain ⟨Q1, hK, hyp⟩ := hyp
          refine ax_callV hX lRX6_176 im_X6_addNamed sl_X6_addNamed cw_X6_addNamed ((th_at (by decide) (Nat.lt_of_lt_of_le (by decide) hsz)).trans (tc_ob ly_3)) rfl rfl (A := [.int (202 : Int32), .int r13]) (st := []) rfl rfl (Nat.le_of_ble_eq_true rfl) (by decide) (by decide) dX6_addMeaning_85 hK ?_
          rintro _ _ ⟨T14, rfl, rfl, hq⟩
          replace hyp := hyp T14 hq
          refine ax_goto hX dX6_addMeaning_88 (tgt := 148) (by decide) ?_
          exact hR.2.2.2 _ _ _ _ _ (by decide) (by decide) dX6_addMeaning_148 rfl ⟨_, rfl, rfl, hyp⟩
        · replace hyp := hyp.2 c
          refine ax_aload_n hX dX6_addMeaning_60 (Or.inr ⟨_, rfl⟩) rfl ?_
          refine ax_aload_n hX dX6_addMeaning_61 (Or.inr ⟨_, rfl⟩) rfl ?_
          refine tx_getF hX fRX6_12 ly_3 (o := 1) (b := 4) fk_6_0 rfl (by decide) (Nat.lt_of_lt_of_le (by decide) hsz) dX6_addMeaning_62 ?_
          refine tx_getJ hX fRX6_165 ly_4 fk_9_5 (by decide) (Nat.lt_of_lt_of_le (by decide) hsz) dX6_addMeaning_65 ?_
          obtain ⟨Q1, hK, hyp⟩ := hyp
          refine ax_callV hX lRX6_169 im_X3_findList sl_X3_findList cw_X3_findList ((th_at (h_q.ne 0 (by decide)) (h_q.lt 0 (by decide))).trans (tc_ob h_q.ly0)) rfl rfl (A := [.long (T.2.1 4 5)]) (st := [.int (202 : Int32), .ref 3]) rfl rfl (Nat.le_of_ble_eq_true rfl) (by decide) (by decide) dX6_addMeaning_68 hK ?_
          rintro _ _ ⟨r15, T15, rfl, rfl, hq⟩
          replace hyp := hyp r15 T15 hq
          refine ax_goto hX dX6_addMeaning_71 (tgt := 85) (by decide) ?_
          obtain ⟨Q1, hK, hyp⟩ := hyp
          refine ax_callV hX lRX6_176 im_X6_addNamed sl_X6_addNamed cw_X6_addNamed ((th_at (by decide) (Nat.lt_of_lt_of_le (by decide) hsz)).trans (tc_ob ly_3)) rfl rfl (A := [.int (202 : Int32), .int r15]) (st := []) rfl rfl (Nat.le_of_ble_eq_true rfl) (by decide) (by decide) dX6_addMeaning_85 hK ?_
          rintro _ _ ⟨T16, rfl, rfl, hq⟩
          replace hyp := hyp T16 hq
          refine ax_goto hX dX6_addMeaning_88 (tgt := 148) (by decide) ?_
          exact hR.2.2.2 _ _ _ _ _ (by decide) (by decide) dX6_addMeaning_148 rfl ⟨_, rfl, rfl, hyp⟩
      · replace hyp := hyp.2 c
        refine ax_sipush hX dX6_addMeaning_44 (v := 201) (by decide) ?_
        refine ax_goto hX dX6_addMeaning_47 (tgt := 53) (by decide) ?_
        refine ax_aload_n hX dX6_addMeaning_53 (Or.inr ⟨_, rfl⟩) rfl ?_
        refine tx_getI hX fRX6_99 ly_3 fk_6_4 (by decide) (Nat.lt_of_lt_of_le (by decide) hsz) dX6_addMeaning_54 ?_
        refine ax_if_eq hX dX6_addMeaning_57 (tgt := 74) (by decide) (fun c => ?_) (fun c => ?_)
        · replace hyp := hyp.1 c
          refine ax_aload_n hX dX6_addMeaning_74 (Or.inr ⟨_, rfl⟩) rfl ?_
          refine ax_aload_n hX dX6_addMeaning_75 (Or.inr ⟨_, rfl⟩) rfl ?_
          refine tx_getF hX fRX6_12 ly_3 (o := 1) (b := 4) fk_6_0 rfl (by decide) (Nat.lt_of_lt_of_le (by decide) hsz) dX6_addMeaning_76 ?_
          refine tx_getJ hX fRX6_165 ly_4 fk_9_5 (by decide) (Nat.lt_of_lt_of_le (by decide) hsz) dX6_addMeaning_79 ?_
          obtain ⟨Q1, hK, hyp⟩ := hyp
          refine ax_callV hX lRX6_173 im_X3_findPart sl_X3_findPart cw_X3_findPart ((th_at (h_q.ne 0 (by decide)) (h_q.lt 0 (by decide))).trans (tc_ob h_q.ly0)) rfl rfl (A := [.long (T.2.1 4 5)]) (st := [.int (201 : Int32), .ref 3]) rfl rfl (Nat.le_of_ble_eq_true rfl) (by decide) (by decide) dX6_addMeaning_82 hK ?_
          rintro _ _ ⟨r17, T17, rfl, rfl, hq⟩
          replace hyp := hyp r17 T17 hq
          obtain ⟨Q1, hK, hyp⟩ := hyp
          refine ax_callV hX lRX6_176 im_X6_addNamed sl_X6_addNamed cw_X6_addNamed ((th_at (by decide) (Nat.lt_of_lt_of_le (by decide) hsz)).trans (tc_ob ly_3)) rfl rfl (A := [.int (201 : Int32), .int r17]) (st := []) rfl rfl (Nat.le_of_ble_eq_true rfl) (by decide) (by decide) dX6_addMeaning_85 hK ?_
          rintro _ _ ⟨T18, rfl, rfl, hq⟩
          replace hyp := hyp T18 hq
          refine ax_goto hX dX6_addMeaning_88 (tgt := 148) (by decide) ?_
          exact hR.2.2.2 _ _ _ _ _ (by decide) (by decide) dX6_addMeaning_148 rfl ⟨_, rfl, rfl, hyp⟩
        · replace hyp := hyp.2 c
          refine ax_aload_n hX dX6_addMeaning_60 (Or.inr ⟨_, rfl⟩) rfl ?_
          refine ax_aload_n hX dX6_addMeaning_61 (Or.inr ⟨_, rfl⟩) rfl ?_
          refine tx_getF hX fRX6_12 ly_3 (o := 1) (b := 4) fk_6_0 rfl (by decide) (Nat.lt_of_lt_of_le (by decide) hsz) dX6_addMeaning_62 ?_
          refine tx_getJ hX fRX6_165 ly_4 fk_9_5 (by decide) (Nat.lt_of_lt_of_le (by decide) hsz) dX6_addMeaning_65 ?_
          obtain ⟨Q1, hK, hyp⟩ := hyp
          refine ax_callV hX lRX6_169 im_X3_findList sl_X3_findList cw_X3_findList ((th_at (h_q.ne 0 (by decide)) (h_q.lt 0 (by decide))).trans (tc_ob h_q.ly0)) rfl rfl (A := [.long (T.2.1 4 5)]) (st := [.int (201 : Int32), .ref 3]) rfl rfl (Nat.le_of_ble_eq_true rfl) (by decide) (by decide) dX6_addMeaning_68 hK ?_
          rintro _ _ ⟨r19, T19, rfl, rfl, hq⟩
          replace hyp := hyp r19 T19 hq
          refine ax_goto hX dX6_addMeaning_71 (tgt := 85) (by decide) ?_
          obtain ⟨Q1, hK, hyp⟩ := hyp
          refine ax_callV hX lRX6_176 im_X6_addNamed sl_X6_addNamed cw_X6_addNamed ((th_at (by decide) (Nat.lt_of_lt_of_le (by decide) hsz)).trans (tc_ob ly_3)) rfl rfl (A := [.int (201 : Int32), .int r19]) (st := []) rfl rfl (Nat.le_of_ble_eq_true rfl) (by decide) (by decide) dX6_addMeaning_85 hK ?_
          rintro _ _ ⟨T20, rfl, rfl, hq⟩
          replace hyp := hyp T20 hq
          refine ax_goto hX dX6_addMeaning_88 (tgt := 148) (by decide) ?_
          exact hR.2.2.2 _ _ _ _ _ (by decide) (by decide) dX6_addMeaning_148 rfl ⟨_, rfl, rfl, hyp⟩
  · replace hyp := hyp.2 c
    refine ax_aload_n hX dX6_addMeaning_13 (Or.inr ⟨_, rfl⟩) rfl ?_
    rcases ho21 : (T.2.2 3 3) with _ | p21
    · replace hyp := hyp.1 ho21
      refine tx_getP hX fRX6_25 ly_3 fk_6_3 (by decide) (Nat.lt_of_lt_of_le (by decide) hsz) (v := .null) (congrArg va_rf ho21) dX6_addMeaning_14 ?_
      refine ax_iconst hX dX6_addMeaning_17 (v := 2) (by decide) ?_
      refine ax_aload_n hX dX6_addMeaning_18 (Or.inr ⟨_, rfl⟩) rfl ?_
      refine tx_getF hX fRX6_12 ly_3 (o := 1) (b := 4) fk_6_0 rfl (by decide) (Nat.lt_of_lt_of_le (by decide) hsz) dX6_addMeaning_19 ?_
      refine tx_getI hX fRX6_162 ly_4 fk_9_4 (by decide) (Nat.lt_of_lt_of_le (by decide) hsz) dX6_addMeaning_22 ?_
      exact hyp.elim
    · obtain ⟨h_p21, hyp⟩ := hyp.2 p21 ho21
      refine tx_getP hX fRX6_25 ly_3 fk_6_3 (by decide) (Nat.lt_of_lt_of_le (by decide) hsz) (v := .ref p21) (congrArg va_rf ho21) dX6_addMeaning_14 ?_
      refine ax_iconst hX dX6_addMeaning_17 (v := 2) (by decide) ?_
      refine ax_aload_n hX dX6_addMeaning_18 (Or.inr ⟨_, rfl⟩) rfl ?_
      refine tx_getF hX fRX6_12 ly_3 (o := 1) (b := 4) fk_6_0 rfl (by decide) (Nat.lt_of_lt_of_le (by decide) hsz) dX6_addMeaning_19 ?_
      refine tx_getI hX fRX6_162 ly_4 fk_9_4 (by decide) (Nat.lt_of_lt_of_le (by decide) hsz) dX6_addMeaning_22 ?_
      obtain ⟨Q1, hK, hyp⟩ := hyp
      refine ax_callV hX lRX6_107 im_X8_addCell sl_X8_addCell cw_X8_addCell ((th_at (h_p21.ne 0 (by decide)) (h_p21.lt 0 (by decide))).trans (tc_ob h_p21.ly0)) rfl rfl (A := [.int (2 : Int32), .int (T.1 4 4)]) (st := []) rfl rfl (Nat.le_of_ble_eq_true rfl) (by decide) (by decide) dX6_addMeaning_25 hK ?_
      rintro _ _ ⟨T22, rfl, rfl, hq⟩
      replace hyp := hyp T22 hq
      refine ax_goto hX dX6_addMeaning_28 (tgt := 148) (by decide) ?_
      exact hR.2.2.2 _ _ _ _ _ (by decide) (by decide) dX6_addMeaning_148 rfl ⟨_, rfl, rfl, hyp⟩
set_option maxRecDepth 10000 in
theorem s_X6_addNamed_0 {X : ax_X} {d L sz : Nat} {T : tT} {Q : tT → Prop} (hX : ax_ok X mX6_addNamed (d + 1)) (hR : ax_Ret X mX6_addNamed (tv L sz Q)) (hsz : 161 ≤ sz) (x0 : Int32) (x1 : Int32) (hyp : ((¬ x1 = (-1 : Int32) → (((T.2.2 3 3) = none → False) ∧ (∀ p1, (T.2.2 3 3) = some p1 → tsy sz p1 ∧ ∃ Q1, tvK d mX8_addCell [.ref p1, .int x0, .int x1] L sz T Q1 ∧ ∀ (T2 : tT), Q1 T2 → (Q T2)))) ∧ (x1 = (-1 : Int32) → ∃ Q1, tvK d mX6_fail [.ref 3, .int (4 : Int32), .int (T.1 4 3)] L sz T Q1 ∧ ∀ (T3 : tT), Q1 T3 → (Q T3)))) : ax_j X 0 [some (.ref 3), some (.int x0), some (.int x1)] [] (th L sz T) 0 0 := by
  refine ax_iload_n hX dX6_addNamed_0 rfl ?_
  refine ax_iconst hX dX6_addNamed_1 (v := -1) (by decide) ?_
  refine ax_icmp_ne hX dX6_addNamed_2 (tgt := 20) (by decide) (fun c => ?_) (fun c => ?_)
  · replace hyp := hyp.1 c
    refine ax_aload_n hX dX6_addNamed_20 (Or.inr ⟨_, rfl⟩) rfl ?_
    rcases ho1 : (T.2.2 3 3) with _ | p1
    · replace hyp := hyp.1 ho1
      refine tx_getP hX fRX6_25 ly_3 fk_6_3 (by decide) (Nat.lt_of_lt_of_le (by decide) hsz) (v := .null) (congrArg va_rf ho1) dX6_addNamed_21 ?_
      refine ax_iload_n hX dX6_addNamed_24 rfl ?_
      refine ax_iload_n hX dX6_addNamed_25 rfl ?_
      exact hyp.elim
    · obtain ⟨h_p1, hyp⟩ := hyp.2 p1 ho1
      refine tx_getP hX fRX6_25 ly_3 fk_6_3 (by decide) (Nat.lt_of_lt_of_le (by decide) hsz) (v := .ref p1) (congrArg va_rf ho1) dX6_addNamed_21 ?_
      refine ax_iload_n hX dX6_addNamed_24 rfl ?_
      refine ax_iload_n hX dX6_addNamed_25 rfl ?_
      obtain ⟨Q1, hK, hyp⟩ := hyp
      refine ax_callV hX lRX6_107 im_X8_addCell sl_X8_addCell cw_X8_addCell ((th_at (h_p1.ne 0 (by decide)) (h_p1.lt 0 (by decide))).trans (tc_ob h_p1.ly0)) rfl rfl (A := [.int x0, .int x1]) (st := []) rfl rfl (Nat.le_of_ble_eq_true rfl) (by decide) (by decide) dX6_addNamed_26 hK ?_
      rintro _ _ ⟨T2, rfl, rfl, hq⟩
      replace hyp := hyp T2 hq
      exact hR.2.2.2 _ _ _ _ _ (by decide) (by decide) dX6_addNamed_29 rfl ⟨_, rfl, rfl, hyp⟩
  · replace hyp := hyp.2 c
    refine ax_aload_n hX dX6_addNamed_5 (Or.inr ⟨_, rfl⟩) rfl ?_
    refine ax_iconst hX dX6_addNamed_6 (v := 4) (by decide) ?_
    refine ax_aload_n hX dX6_addNamed_7 (Or.inr ⟨_, rfl⟩) rfl ?_
    refine tx_getF hX fRX6_12 ly_3 (o := 1) (b := 4) fk_6_0 rfl (by decide) (Nat.lt_of_lt_of_le (by decide) hsz) dX6_addNamed_8 ?_
    refine tx_getI hX fRX6_62 ly_4 fk_9_3 (by decide) (Nat.lt_of_lt_of_le (by decide) hsz) dX6_addNamed_11 ?_
    obtain ⟨Q1, hK, hyp⟩ := hyp
    refine ax_callV hX lRX6_71 im_X6_fail sl_X6_fail cw_X6_fail ((th_at (by decide) (Nat.lt_of_lt_of_le (by decide) hsz)).trans (tc_ob ly_3)) rfl rfl (A := [.int (4 : Int32), .int (T.1 4 3)]) (st := []) rfl rfl (Nat.le_of_ble_eq_true rfl) (by decide) (by decide) dX6_addNamed_14 hK ?_
    rintro _ _ ⟨T3, rfl, rfl, hq⟩
    replace hyp := hyp T3 hq
    refine ax_goto hX dX6_addNamed_17 (tgt := 29) (by decide) ?_
    exact hR.2.2.2 _ _ _ _ _ (by decide) (by decide) dX6_addNamed_29 rfl ⟨_, rfl, rfl, hyp⟩
set_option maxRecDepth 10000 in
theorem s_X6_cannotStartItem_0 {X : ax_X} {d L sz : Nat} {T : tT} {Q : Int32 → tT → Prop} (hX : ax_ok X mX6_cannotStartItem d) (hR : ax_Ret X mX6_cannotStartItem (ti L sz Q)) (hsz : 161 ≤ sz) {q : Nat} (h_q : tgr sz q)  (hyp : ((T.1 4 2) = 201 → (((T.1 q 1) < (6 : Int32) → Q (0 : Int32) T) ∧ (¬ (T.1 q 1) < (6 : Int32) → Q (1 : Int32) T))) ∧ ((T.1 4 2) = 202 → (((T.1 q 2) < (6 : Int32) → Q (0 : Int32) T) ∧ (¬ (T.1 q 2) < (6 : Int32) → Q (1 : Int32) T))) ∧ ((T.1 4 2) = 203 → (((T.1 q 4) = 0 → Q (0 : Int32) T) ∧ (¬ (T.1 q 4) = 0 → Q (1 : Int32) T))) ∧ ((T.1 4 2) = 204 → (((T.1 q 3) < (8 : Int32) → Q (0 : Int32) T) ∧ (¬ (T.1 q 3) < (8 : Int32) → Q (1 : Int32) T))) ∧ ((T.1 4 2) = 205 → (((T.1 q 5) = (-1 : Int32) → Q (0 : Int32) T) ∧ (¬ (T.1 q 5) = (-1 : Int32) → Q (1 : Int32) T))) ∧ ((T.1 4 2) = 206 → (((T.1 q 6) = (-1 : Int32) → Q (0 : Int32) T) ∧ (¬ (T.1 q 6) = (-1 : Int32) → Q (1 : Int32) T))) ∧ (¬ (T.1 4 2) = 201 → ¬ (T.1 4 2) = 202 → ¬ (T.1 4 2) = 203 → ¬ (T.1 4 2) = 204 → ¬ (T.1 4 2) = 205 → ¬ (T.1 4 2) = 206 → Q (1 : Int32) T)) : ax_j X 0 [some (.ref 3), some (.ref q)] [] (th L sz T) 0 0 := by
  refine ax_aload_n hX dX6_cannotStartItem_0 (Or.inr ⟨_, rfl⟩) rfl ?_
  refine tx_getF hX fRX6_12 ly_3 (o := 1) (b := 4) fk_6_0 rfl (by decide) (Nat.lt_of_lt_of_le (by decide) hsz) dX6_cannotStartItem_1 ?_
  refine tx_getI hX fRX6_41 ly_4 fk_9_2 (by decide) (Nat.lt_of_lt_of_le (by decide) hsz) dX6_cannotStartItem_4 ?_
  by_cases q0 : (T.1 4 2) = 201
  · replace hyp := hyp.1 q0
    refine ax_tableIn hX dX6_cannotStartItem_7 (by rw [q0]; decide) (by rw [q0]; decide) (off := 37) (by rw [q0]; rfl) (tgt := 44) (by decide) ?_
    refine ax_aload_n hX dX6_cannotStartItem_44 (Or.inr ⟨_, rfl⟩) rfl ?_
    refine tx_getI hX fRX6_110 h_q.ly0 fk_3_1 (h_q.ne 0 (by decide)) (h_q.lt 0 (by decide)) dX6_cannotStartItem_45 ?_
    refine ax_bipush hX dX6_cannotStartItem_48 (v := 6) (by decide) ?_
    refine ax_icmp_lt hX dX6_cannotStartItem_50 (tgt := 57) (by decide) (fun c => ?_) (fun c => ?_)
    · replace hyp := hyp.1 c
      refine ax_iconst hX dX6_cannotStartItem_57 (v := 0) (by decide) ?_
      exact hR.1 _ _ _ _ _ _ (by decide) (by decide) dX6_cannotStartItem_58 ⟨_, rfl, rfl⟩ ⟨_, _, rfl, rfl, hyp⟩
    · replace hyp := hyp.2 c
      refine ax_iconst hX dX6_cannotStartItem_53 (v := 1) (by decide) ?_
      refine ax_goto hX dX6_cannotStartItem_54 (tgt := 58) (by decide) ?_
      exact hR.1 _ _ _ _ _ _ (by decide) (by decide) dX6_cannotStartItem_58 ⟨_, rfl, rfl⟩ ⟨_, _, rfl, rfl, hyp⟩
  by_cases q1 : (T.1 4 2) = 202
  · replace hyp := hyp.2.1 q1
    refine ax_tableIn hX dX6_cannotStartItem_7 (by rw [q1]; decide) (by rw [q1]; decide) (off := 52) (by rw [q1]; rfl) (tgt := 59) (by decide) ?_
    refine ax_aload_n hX dX6_cannotStartItem_59 (Or.inr ⟨_, rfl⟩) rfl ?_
    refine tx_getI hX fRX6_113 h_q.ly0 fk_3_2 (h_q.ne 0 (by decide)) (h_q.lt 0 (by decide)) dX6_cannotStartItem_60 ?_
    refine ax_bipush hX dX6_cannotStartItem_63 (v := 6) (by decide) ?_
    refine ax_icmp_lt hX dX6_cannotStartItem_65 (tgt := 72) (by decide) (fun c => ?_) (fun c => ?_)
    · replace hyp := hyp.1 c
      refine ax_iconst hX dX6_cannotStartItem_72 (v := 0) (by decide) ?_
      exact hR.1 _ _ _ _ _ _ (by decide) (by decide) dX6_cannotStartItem_73 ⟨_, rfl, rfl⟩ ⟨_, _, rfl, rfl, hyp⟩
    · replace hyp := hyp.2 c
      refine ax_iconst hX dX6_cannotStartItem_68 (v := 1) (by decide) ?_
      refine ax_goto hX dX6_cannotStartItem_69 (tgt := 73) (by decide) ?_
      exact hR.1 _ _ _ _ _ _ (by decide) (by decide) dX6_cannotStartItem_73 ⟨_, rfl, rfl⟩ ⟨_, _, rfl, rfl, hyp⟩
  by_cases q2 : (T.1 4 2) = 203
  · replace hyp := hyp.2.2.1 q2
    refine ax_tableIn hX dX6_cannotStartItem_7 (by rw [q2]; decide) (by rw [q2]; decide) (off := 67) (by rw [q2]; rfl) (tgt := 74) (by decide) ?_
    refine ax_aload_n hX dX6_cannotStartItem_74 (Or.inr ⟨_, rfl⟩) rfl ?_
    refine tx_getI hX fRX6_88 h_q.ly0 fk_3_4 (h_q.ne 0 (by decide)) (h_q.lt 0 (by decide)) dX6_cannotStartItem_75 ?_
    refine ax_if_eq hX dX6_cannotStartItem_78 (tgt := 85) (by decide) (fun c => ?_) (fun c => ?_)
    · replace hyp := hyp.1 c
      refine ax_iconst hX dX6_cannotStartItem_85 (v := 0) (by decide) ?_
      exact hR.1 _ _ _ _ _ _ (by decide) (by decide) dX6_cannotStartItem_86 ⟨_, rfl, rfl⟩ ⟨_, _, rfl, rfl, hyp⟩
    · replace hyp := hyp.2 c
      refine ax_iconst hX dX6_cannotStartItem_81 (v := 1) (by decide) ?_
      refine ax_goto hX dX6_cannotStartItem_82 (tgt := 86) (by decide) ?_
      exact hR.1 _ _ _ _ _ _ (by decide) (by decide) dX6_cannotStartItem_86 ⟨_, rfl, rfl⟩ ⟨_, _, rfl, rfl, hyp⟩
  by_cases q3 : (T.1 4 2) = 204
  · replace hyp := hyp.2.2.2.1 q3
    refine ax_tableIn hX dX6_cannotStartItem_7 (by rw [q3]; decide) (by rw [q3]; decide) (off := 80) (by rw [q3]; rfl) (tgt := 87) (by decide) ?_
    refine ax_aload_n hX dX6_cannotStartItem_87 (Or.inr ⟨_, rfl⟩) rfl ?_
    refine tx_getI hX fRX6_116 h_q.ly0 fk_3_3 (h_q.ne 0 (by decide)) (h_q.lt 0 (by decide)) dX6_cannotStartItem_88 ?_
    refine ax_bipush hX dX6_cannotStartItem_91 (v := 8) (by decide) ?_
    refine ax_icmp_lt hX dX6_cannotStartItem_93 (tgt := 100) (by decide) (fun c => ?_) (fun c => ?_)
    · replace hyp := hyp.1 c
      refine ax_iconst hX dX6_cannotStartItem_100 (v := 0) (by decide) ?_
      exact hR.1 _ _ _ _ _ _ (by decide) (by decide) dX6_cannotStartItem_101 ⟨_, rfl, rfl⟩ ⟨_, _, rfl, rfl, hyp⟩
    · replace hyp := hyp.2 c
      refine ax_iconst hX dX6_cannotStartItem_96 (v := 1) (by decide) ?_
      refine ax_goto hX dX6_cannotStartItem_97 (tgt := 101) (by decide) ?_
      exact hR.1 _ _ _ _ _ _ (by decide) (by decide) dX6_cannotStartItem_101 ⟨_, rfl, rfl⟩ ⟨_, _, rfl, rfl, hyp⟩
  by_cases q4 : (T.1 4 2) = 205
  · replace hyp := hyp.2.2.2.2.1 q4
    refine ax_tableIn hX dX6_cannotStartItem_7 (by rw [q4]; decide) (by rw [q4]; decide) (off := 95) (by rw [q4]; rfl) (tgt := 102) (by decide) ?_
    refine ax_aload_n hX dX6_cannotStartItem_102 (Or.inr ⟨_, rfl⟩) rfl ?_
    refine tx_getI hX fRX6_119 h_q.ly0 fk_3_5 (h_q.ne 0 (by decide)) (h_q.lt 0 (by decide)) dX6_cannotStartItem_103 ?_
    refine ax_iconst hX dX6_cannotStartItem_106 (v := -1) (by decide) ?_
    refine ax_icmp_eq hX dX6_cannotStartItem_107 (tgt := 114) (by decide) (fun c => ?_) (fun c => ?_)
    · replace hyp := hyp.1 c
      refine ax_iconst hX dX6_cannotStartItem_114 (v := 0) (by decide) ?_
      exact hR.1 _ _ _ _ _ _ (by decide) (by decide) dX6_cannotStartItem_115 ⟨_, rfl, rfl⟩ ⟨_, _, rfl, rfl, hyp⟩
    · replace hyp := hyp.2 c
      refine ax_iconst hX dX6_cannotStartItem_110 (v := 1) (by decide) ?_
      refine ax_goto hX dX6_cannotStartItem_111 (tgt := 115) (by decide) ?_
      exact hR.1 _ _ _ _ _ _ (by decide) (by decide) dX6_cannotStartItem_115 ⟨_, rfl, rfl⟩ ⟨_, _, rfl, rfl, hyp⟩
  by_cases q5 : (T.1 4 2) = 206
  · replace hyp := hyp.2.2.2.2.2.1 q5
    refine ax_tableIn hX dX6_cannotStartItem_7 (by rw [q5]; decide) (by rw [q5]; decide) (off := 109) (by rw [q5]; rfl) (tgt := 116) (by decide) ?_
    refine ax_aload_n hX dX6_cannotStartItem_116 (Or.inr ⟨_, rfl⟩) rfl ?_
    refine tx_getI hX fRX6_122 h_q.ly0 fk_3_6 (h_q.ne 0 (by decide)) (h_q.lt 0 (by decide)) dX6_cannotStartItem_117 ?_
    refine ax_iconst hX dX6_cannotStartItem_120 (v := -1) (by decide) ?_
    refine ax_icmp_eq hX dX6_cannotStartItem_121 (tgt := 128) (by decide) (fun c => ?_) (fun c => ?_)
    · replace hyp := hyp.1 c
      refine ax_iconst hX dX6_cannotStartItem_128 (v := 0) (by decide) ?_
      exact hR.1 _ _ _ _ _ _ (by decide) (by decide) dX6_cannotStartItem_129 ⟨_, rfl, rfl⟩ ⟨_, _, rfl, rfl, hyp⟩
    · replace hyp := hyp.2 c
      refine ax_iconst hX dX6_cannotStartItem_124 (v := 1) (by decide) ?_
      refine ax_goto hX dX6_cannotStartItem_125 (tgt := 129) (by decide) ?_
      exact hR.1 _ _ _ _ _ _ (by decide) (by decide) dX6_cannotStartItem_129 ⟨_, rfl, rfl⟩ ⟨_, _, rfl, rfl, hyp⟩
  replace hyp := hyp.2.2.2.2.2.2 q0 q1 q2 q3 q4 q5
  have z0 := lv_neT (a := 201) q0 rfl
  have z1 := lv_neT (a := 202) q1 rfl
  have z2 := lv_neT (a := 203) q2 rfl
  have z3 := lv_neT (a := 204) q3 rfl
  have z4 := lv_neT (a := 205) q4 rfl
  have z5 := lv_neT (a := 206) q5 rfl
  refine ax_tableOut hX dX6_cannotStartItem_7 (by omega) (tgt := 130) (by decide) ?_
  refine ax_iconst hX dX6_cannotStartItem_130 (v := 1) (by decide) ?_
  exact hR.1 _ _ _ _ _ _ (by decide) (by decide) dX6_cannotStartItem_131 ⟨_, rfl, rfl⟩ ⟨_, _, rfl, rfl, hyp⟩
set_option maxRecDepth 10000 in
theorem s_X6_fail_0 {X : ax_X} {d L sz : Nat} {T : tT} {Q : tT → Prop} (hX : ax_ok X mX6_fail d) (hR : ax_Ret X mX6_fail (tv L sz Q)) (hsz : 161 ≤ sz) (x0 : Int32) (x1 : Int32) (hyp : ((¬ (T.1 3 1) = 0 → Q T) ∧ ((T.1 3 1) = 0 → Q (tI (tI T 3 1 x0) 3 2 x1)))) : ax_j X 0 [some (.ref 3), some (.int x0), some (.int x1)] [] (th L sz T) 0 0 := by
  refine ax_aload_n hX dX6_fail_0 (Or.inr ⟨_, rfl⟩) rfl ?_
  refine tx_getI hX fRX6_29 ly_3 fk_6_1 (by decide) (Nat.lt_of_lt_of_le (by decide) hsz) dX6_fail_1 ?_
  refine ax_if_ne hX dX6_fail_4 (tgt := 17) (by decide) (fun c => ?_) (fun c => ?_)
  · replace hyp := hyp.1 c
    exact hR.2.2.2 _ _ _ _ _ (by decide) (by decide) dX6_fail_17 rfl ⟨_, rfl, rfl, hyp⟩
  · replace hyp := hyp.2 c
    refine ax_aload_n hX dX6_fail_7 (Or.inr ⟨_, rfl⟩) rfl ?_
    refine ax_iload_n hX dX6_fail_8 rfl ?_
    refine tx_putI hX fRX6_29 ly_3 fk_6_1 (by decide) (Nat.lt_of_lt_of_le (by decide) hsz) rfl rfl dX6_fail_9 ?_
    refine ax_aload_n hX dX6_fail_12 (Or.inr ⟨_, rfl⟩) rfl ?_
    refine ax_iload_n hX dX6_fail_13 rfl ?_
    refine tx_putI hX fRX6_18 ly_3 fk_6_2 (by decide) (Nat.lt_of_lt_of_le (by decide) hsz) rfl rfl dX6_fail_14 ?_
    exact hR.2.2.2 _ _ _ _ _ (by decide) (by decide) dX6_fail_17 rfl ⟨_, rfl, rfl, hyp⟩
set_option maxRecDepth 10000 in
theorem s_X6_isLeaf_0 {X : ax_X} {d L sz : Nat} {T : tT} {Q : Int32 → tT → Prop} (hX : ax_ok X mX6_isLeaf d) (hR : ax_Ret X mX6_isLeaf (ti L sz Q)) (hsz : 161 ≤ sz) (x0 : Int32) (hyp : ((x0 = (2 : Int32) → Q (1 : Int32) T) ∧ (¬ x0 = (2 : Int32) → ((x0 = (3 : Int32) → Q (1 : Int32) T) ∧ (¬ x0 = (3 : Int32) → ((x0 < (210 : Int32) → Q (0 : Int32) T) ∧ (¬ x0 < (210 : Int32) → (((214 : Int32) < x0 → Q (0 : Int32) T) ∧ (¬ (214 : Int32) < x0 → Q (1 : Int32) T))))))))) : ax_j X 0 [some (.int x0)] [] (th L sz T) 0 0 := by
  refine ax_iload_n hX dX6_isLeaf_0 rfl ?_
  refine ax_iconst hX dX6_isLeaf_1 (v := 2) (by decide) ?_
  refine ax_icmp_eq hX dX6_isLeaf_2 (tgt := 24) (by decide) (fun c => ?_) (fun c => ?_)
  · replace hyp := hyp.1 c
    refine ax_iconst hX dX6_isLeaf_24 (v := 1) (by decide) ?_
    refine ax_goto hX dX6_isLeaf_25 (tgt := 29) (by decide) ?_
    exact hR.1 _ _ _ _ _ _ (by decide) (by decide) dX6_isLeaf_29 ⟨_, rfl, rfl⟩ ⟨_, _, rfl, rfl, hyp⟩
  · replace hyp := hyp.2 c
    refine ax_iload_n hX dX6_isLeaf_5 rfl ?_
    refine ax_iconst hX dX6_isLeaf_6 (v := 3) (by decide) ?_
    refine ax_icmp_eq hX dX6_isLeaf_7 (tgt := 24) (by decide) (fun c => ?_) (fun c => ?_)
    · replace hyp := hyp.1 c
      refine ax_iconst hX dX6_isLeaf_24 (v := 1) (by decide) ?_
      refine ax_goto hX dX6_isLeaf_25 (tgt := 29) (by decide) ?_
      exact hR.1 _ _ _ _ _ _ (by decide) (by decide) dX6_isLeaf_29 ⟨_, rfl, rfl⟩ ⟨_, _, rfl, rfl, hyp⟩
    · replace hyp := hyp.2 c
      refine ax_iload_n hX dX6_isLeaf_10 rfl ?_
      refine ax_sipush hX dX6_isLeaf_11 (v := 210) (by decide) ?_
      refine ax_icmp_lt hX dX6_isLeaf_14 (tgt := 28) (by decide) (fun c => ?_) (fun c => ?_)
      · replace hyp := hyp.1 c
        refine ax_iconst hX dX6_isLeaf_28 (v := 0) (by decide) ?_
        exact hR.1 _ _ _ _ _ _ (by decide) (by decide) dX6_isLeaf_29 ⟨_, rfl, rfl⟩ ⟨_, _, rfl, rfl, hyp⟩
      · replace hyp := hyp.2 c
        refine ax_iload_n hX dX6_isLeaf_17 rfl ?_
        refine ax_sipush hX dX6_isLeaf_18 (v := 214) (by decide) ?_
        refine ax_icmp_gt hX dX6_isLeaf_21 (tgt := 28) (by decide) (fun c => ?_) (fun c => ?_)
        · replace hyp := hyp.1 c
          refine ax_iconst hX dX6_isLeaf_28 (v := 0) (by decide) ?_
          exact hR.1 _ _ _ _ _ _ (by decide) (by decide) dX6_isLeaf_29 ⟨_, rfl, rfl⟩ ⟨_, _, rfl, rfl, hyp⟩
        · replace hyp := hyp.2 c
          refine ax_iconst hX dX6_isLeaf_24 (v := 1) (by decide) ?_
          refine ax_goto hX dX6_isLeaf_25 (tgt := 29) (by decide) ?_
          exact hR.1 _ _ _ _ _ _ (by decide) (by decide) dX6_isLeaf_29 ⟨_, rfl, rfl⟩ ⟨_, _, rfl, rfl, hyp⟩
set_option maxRecDepth 10000 in
theorem s_X6_openGrade_0 {X : ax_X} {d L sz : Nat} {T : tT} {Q : Option Nat → tT → Prop} (hX : ax_ok X mX6_openGrade (d + 1)) (hR : ax_Ret X mX6_openGrade (to L sz Q)) (hsz : 161 ≤ sz)  (hyp : ∃ Q1, tvK d mX6_take [.ref 3, .int (200 : Int32)] L sz T Q1 ∧ ∀ (T1 : tT), Q1 T1 → (∃ Q1, tiK d mX6_takeNumber [.ref 3, .int (1 : Int32), .int (8 : Int32)] L sz T1 Q1 ∧ ∀ (r2 : Int32) (T2 : tT), Q1 r2 T2 → ((((T2.2.2 3 3) = none → False) ∧ (∀ p3, (T2.2.2 3 3) = some p3 → tsy sz p3 ∧ ∃ Q1, toK d mX8_find [.ref p3, .int r2] L sz T2 Q1 ∧ ∀ (r4 : Option Nat) (T4 : tT), Q1 r4 T4 → (((r4 = none → ∃ Q1, tvK d mX6_take [.ref 3, .int (123 : Int32)] L sz T4 Q1 ∧ ∀ (T6 : tT), Q1 T6 → (((¬ (T6.1 3 1) = 0 → Q none T6) ∧ ((T6.1 3 1) = 0 → (((T6.2.2 3 3) = none → False) ∧ (∀ p7, (T6.2.2 3 3) = some p7 → tsy sz p7 ∧ ∃ Q1, toK d mX8_open [.ref p7, .int r2] L sz T6 Q1 ∧ ∀ (r8 : Option Nat) (T8 : tT), Q1 r8 T8 → (((r8 = none → Q none T8) ∧ (∀ p9, r8 = some p9 → tgr sz p9 ∧ Q (some p9) T8))))))))) ∧ (∀ p5, r4 = some p5 → tgr sz p5 ∧ ∃ Q1, tvK d mX6_fail [.ref 3, .int (3 : Int32), .int (T1.1 4 3)] L sz T4 Q1 ∧ ∀ (T10 : tT), Q1 T10 → (∃ Q1, tvK d mX6_take [.ref 3, .int (123 : Int32)] L sz T10 Q1 ∧ ∀ (T11 : tT), Q1 T11 → (((¬ (T11.1 3 1) = 0 → Q none T11) ∧ ((T11.1 3 1) = 0 → (((T11.2.2 3 3) = none → False) ∧ (∀ p12, (T11.2.2 3 3) = some p12 → tsy sz p12 ∧ ∃ Q1, toK d mX8_open [.ref p12, .int r2] L sz T11 Q1 ∧ ∀ (r13 : Option Nat) (T13 : tT), Q1 r13 T13 → (((r13 = none → Q none T13) ∧ (∀ p14, r13 = some p14 → tgr sz p14 ∧ Q (some p14) T13))))))))))))))))) : ax_j X 0 [some (.ref 3), none, none] [] (th L sz T) 0 0 := by
  refine ax_aload_n hX dX6_openGrade_0 (Or.inr ⟨_, rfl⟩) rfl ?_
  refine ax_sipush hX dX6_openGrade_1 (v := 200) (by decide) ?_
  obtain ⟨Q1, hK, hyp⟩ := hyp
  refine ax_callV hX lRX6_58 im_X6_take sl_X6_take cw_X6_take ((th_at (by decide) (Nat.lt_of_lt_of_le (by decide) hsz)).trans (tc_ob ly_3)) rfl rfl (A := [.int (200 : Int32)]) (st := []) rfl rfl (Nat.le_of_ble_eq_true rfl) (by decide) (by decide) dX6_openGrade_4 hK ?_
  rintro _ _ ⟨T1, rfl, rfl, hq⟩
  replace hyp := hyp T1 hq
  refine ax_aload_n hX dX6_openGrade_7 (Or.inr ⟨_, rfl⟩) rfl ?_
  refine tx_getF hX fRX6_12 ly_3 (o := 1) (b := 4) fk_6_0 rfl (by decide) (Nat.lt_of_lt_of_le (by decide) hsz) dX6_openGrade_8 ?_
  refine tx_getI hX fRX6_62 ly_4 fk_9_3 (by decide) (Nat.lt_of_lt_of_le (by decide) hsz) dX6_openGrade_11 ?_
  refine ax_istore_n hX dX6_openGrade_14 (by decide) (L' := [some (.ref 3), some (.int (T1.1 4 3)), none]) rfl ?_
  refine ax_aload_n hX dX6_openGrade_15 (Or.inr ⟨_, rfl⟩) rfl ?_
  refine ax_iconst hX dX6_openGrade_16 (v := 1) (by decide) ?_
  refine ax_bipush hX dX6_openGrade_17 (v := 8) (by decide) ?_
  obtain ⟨Q1, hK, hyp⟩ := hyp
  refine ax_callV hX lRX6_63 im_X6_takeNumber sl_X6_takeNumber cw_X6_takeNumber ((th_at (by decide) (Nat.lt_of_lt_of_le (by decide) hsz)).trans (tc_ob ly_3)) rfl rfl (A := [.int (1 : Int32), .int (8 : Int32)]) (st := []) rfl rfl (Nat.le_of_ble_eq_true rfl) (by decide) (by decide) dX6_openGrade_19 hK ?_
  rintro _ _ ⟨r2, T2, rfl, rfl, hq⟩
  replace hyp := hyp r2 T2 hq
  refine ax_istore_n hX dX6_openGrade_22 (by decide) (L' := [some (.ref 3), some (.int (T1.1 4 3)), some (.int r2)]) rfl ?_
  refine ax_aload_n hX dX6_openGrade_23 (Or.inr ⟨_, rfl⟩) rfl ?_
  rcases ho3 : (T2.2.2 3 3) with _ | p3
  · replace hyp := hyp.1 ho3
    refine tx_getP hX fRX6_25 ly_3 fk_6_3 (by decide) (Nat.lt_of_lt_of_le (by decide) hsz) (v := .null) (congrArg va_rf ho3) dX6_openGrade_24 ?_
    refine ax_iload_n hX dX6_openGrade_27 rfl ?_
    exact hyp.elim
  · obtain ⟨h_p3, hyp⟩ := hyp.2 p3 ho3
    refine tx_getP hX fRX6_25 ly_3 fk_6_3 (by decide) (Nat.lt_of_lt_of_le (by decide) hsz) (v := .ref p3) (congrArg va_rf ho3) dX6_openGrade_24 ?_
    refine ax_iload_n hX dX6_openGrade_27 rfl ?_
    obtain ⟨Q1, hK, hyp⟩ := hyp
    refine ax_callV hX lRX6_67 im_X8_find sl_X8_find cw_X8_find ((th_at (h_p3.ne 0 (by decide)) (h_p3.lt 0 (by decide))).trans (tc_ob h_p3.ly0)) rfl rfl (A := [.int r2]) (st := []) rfl rfl (Nat.le_of_ble_eq_true rfl) (by decide) (by decide) dX6_openGrade_28 hK ?_
    rintro _ _ ⟨r4, T4, rfl, rfl, hq⟩
    replace hyp := hyp r4 T4 hq
    rcases r4 with _ | p5
    · replace hyp := hyp.1 rfl
      refine ax_ifnull hX (r := none) rfl dX6_openGrade_31 (tgt := 40) (by decide) (fun c => ?_) (fun _ c => ?_)
      rotate_left
      · cases c
      refine ax_aload_n hX dX6_openGrade_40 (Or.inr ⟨_, rfl⟩) rfl ?_
      refine ax_bipush hX dX6_openGrade_41 (v := 123) (by decide) ?_
      obtain ⟨Q1, hK, hyp⟩ := hyp
      refine ax_callV hX lRX6_58 im_X6_take sl_X6_take cw_X6_take ((th_at (by decide) (Nat.lt_of_lt_of_le (by decide) hsz)).trans (tc_ob ly_3)) rfl rfl (A := [.int (123 : Int32)]) (st := []) rfl rfl (Nat.le_of_ble_eq_true rfl) (by decide) (by decide) dX6_openGrade_43 hK ?_
      rintro _ _ ⟨T6, rfl, rfl, hq⟩
      replace hyp := hyp T6 hq
      refine ax_aload_n hX dX6_openGrade_46 (Or.inr ⟨_, rfl⟩) rfl ?_
      refine tx_getI hX fRX6_29 ly_3 fk_6_1 (by decide) (Nat.lt_of_lt_of_le (by decide) hsz) dX6_openGrade_47 ?_
      refine ax_if_ne hX dX6_openGrade_50 (tgt := 64) (by decide) (fun c => ?_) (fun c => ?_)
      · replace hyp := hyp.1 c
        refine ax_null hX dX6_openGrade_64 ?_
        exact hR.2.2.1 _ _ _ _ _ _ (by decide) (by decide) dX6_openGrade_65 ⟨_, rfl⟩ (Or.inl rfl) ⟨none, _, rfl, rfl, hyp⟩
      · replace hyp := hyp.2 c
        refine ax_aload_n hX dX6_openGrade_53 (Or.inr ⟨_, rfl⟩) rfl ?_
        rcases ho7 : (T6.2.2 3 3) with _ | p7
        · replace hyp := hyp.1 ho7
          refine tx_getP hX fRX6_25 ly_3 fk_6_3 (by decide) (Nat.lt_of_lt_of_le (by decide) hsz) (v := .null) (congrArg va_rf ho7) dX6_openGrade_54 ?_
          refine ax_iload_n hX dX6_openGrade_57 rfl ?_
          exact hyp.elim
        · obtain ⟨h_p7, hyp⟩ := hyp.2 p7 ho7
          refine tx_getP hX fRX6_25 ly_3 fk_6_3 (by decide) (Nat.lt_of_lt_of_le (by decide) hsz) (v := .ref p7) (congrArg va_rf ho7) dX6_openGrade_54 ?_
          refine ax_iload_n hX dX6_openGrade_57 rfl ?_
          obtain ⟨Q1, hK, hyp⟩ := hyp
          refine ax_callV hX lRX6_75 im_X8_open sl_X8_open cw_X8_open ((th_at (h_p7.ne 0 (by decide)) (h_p7.lt 0 (by decide))).trans (tc_ob h_p7.ly0)) rfl rfl (A := [.int r2]) (st := []) rfl rfl (Nat.le_of_ble_eq_true rfl) (by decide) (by decide) dX6_openGrade_58 hK ?_
          rintro _ _ ⟨r8, T8, rfl, rfl, hq⟩
          replace hyp := hyp r8 T8 hq
          rcases r8 with _ | p9
          · replace hyp := hyp.1 rfl
            refine ax_goto hX dX6_openGrade_61 (tgt := 65) (by decide) ?_
            exact hR.2.2.1 _ _ _ _ _ _ (by decide) (by decide) dX6_openGrade_65 ⟨_, rfl⟩ (Or.inl rfl) ⟨none, _, rfl, rfl, hyp⟩
          · obtain ⟨h_p9, hyp⟩ := hyp.2 p9 rfl
            refine ax_goto hX dX6_openGrade_61 (tgt := 65) (by decide) ?_
            exact hR.2.2.1 _ _ _ _ _ _ (by decide) (by decide) dX6_openGrade_65 ⟨_, rfl⟩ (Or.inr ⟨_, rfl⟩) ⟨(some p9), _, rfl, rfl, hyp⟩
    · obtain ⟨h_p5, hyp⟩ := hyp.2 p5 rfl
      refine ax_ifnull hX (r := (some p5)) rfl dX6_openGrade_31 (tgt := 40) (by decide) (fun c => ?_) (fun _ c => ?_)
      · cases c
      refine ax_aload_n hX dX6_openGrade_34 (Or.inr ⟨_, rfl⟩) rfl ?_
      refine ax_iconst hX dX6_openGrade_35 (v := 3) (by decide) ?_
      refine ax_iload_n hX dX6_openGrade_36 rfl ?_
      obtain ⟨Q1, hK, hyp⟩ := hyp
      refine ax_callV hX lRX6_71 im_X6_fail sl_X6_fail cw_X6_fail ((th_at (by decide) (Nat.lt_of_lt_of_le (by decide) hsz)).trans (tc_ob ly_3)) rfl rfl (A := [.int (3 : Int32), .int (T1.1 4 3)]) (st := []) rfl rfl (Nat.le_of_ble_eq_true rfl) (by decide) (by decide) dX6_openGrade_37 hK ?_
      rintro _ _ ⟨T10, rfl, rfl, hq⟩
      replace hyp := hyp T10 hq
      refine ax_aload_n hX dX6_openGrade_40 (Or.inr ⟨_, rfl⟩) rfl ?_
      refine ax_bipush hX dX6_openGrade_41 (v := 123) (by decide) ?_
      obtain ⟨Q1, hK, hyp⟩ := hyp
      refine ax_callV hX lRX6_58 im_X6_take sl_X6_take cw_X6_take ((th_at (by decide) (Nat.lt_of_lt_of_le (by decide) hsz)).trans (tc_ob ly_3)) rfl rfl (A := [.int (123 : Int32)]) (st := []) rfl rfl (Nat.le_of_ble_eq_true rfl) (by decide) (by decide) dX6_openGrade_43 hK ?_
      rintro _ _ ⟨T11, rfl, rfl, hq⟩
      replace hyp := hyp T11 hq
      refine ax_aload_n hX dX6_openGrade_46 (Or.inr ⟨_, rfl⟩) rfl ?_
      refine tx_getI hX fRX6_29 ly_3 fk_6_1 (by decide) (Nat.lt_of_lt_of_le (by decide) hsz) dX6_openGrade_47 ?_
      refine ax_if_ne hX dX6_openGrade_50 (tgt := 64) (by decide) (fun c => ?_) (fun c => ?_)
      · replace hyp := hyp.1 c
        refine ax_null hX dX6_openGrade_64 ?_
        exact hR.2.2.1 _ _ _ _ _ _ (by decide) (by decide) dX6_openGrade_65 ⟨_, rfl⟩ (Or.inl rfl) ⟨none, _, rfl, rfl, hyp⟩
      · replace hyp := hyp.2 c
        refine ax_aload_n hX dX6_openGrade_53 (Or.inr ⟨_, rfl⟩) rfl ?_
        rcases ho12 : (T11.2.2 3 3) with _ | p12
        · replace hyp := hyp.1 ho12
          refine tx_getP hX fRX6_25 ly_3 fk_6_3 (by decide) (Nat.lt_of_lt_of_le (by decide) hsz) (v := .null) (congrArg va_rf ho12) dX6_openGrade_54 ?_
          refine ax_iload_n hX dX6_openGrade_57 rfl ?_
          exact hyp.elim
        · obtain ⟨h_p12, hyp⟩ := hyp.2 p12 ho12
          refine tx_getP hX fRX6_25 ly_3 fk_6_3 (by decide) (Nat.lt_of_lt_of_le (by decide) hsz) (v := .ref p12) (congrArg va_rf ho12) dX6_openGrade_54 ?_
          refine ax_iload_n hX dX6_openGrade_57 rfl ?_
          obtain ⟨Q1, hK, hyp⟩ := hyp
          refine ax_callV hX lRX6_75 im_X8_open sl_X8_open cw_X8_open ((th_at (h_p12.ne 0 (by decide)) (h_p12.lt 0 (by decide))).trans (tc_ob h_p12.ly0)) rfl rfl (A := [.int r2]) (st := []) rfl rfl (Nat.le_of_ble_eq_true rfl) (by decide) (by decide) dX6_openGrade_58 hK ?_
          rintro _ _ ⟨r13, T13, rfl, rfl, hq⟩
          replace hyp := hyp r13 T13 hq
          rcases r13 with _ | p14
          · replace hyp := hyp.1 rfl
            refine ax_goto hX dX6_openGrade_61 (tgt := 65) (by decide) ?_
            exact hR.2.2.1 _ _ _ _ _ _ (by decide) (by decide) dX6_openGrade_65 ⟨_, rfl⟩ (Or.inl rfl) ⟨none, _, rfl, rfl, hyp⟩
          · obtain ⟨h_p14, hyp⟩ := hyp.2 p14 rfl
            refine ax_goto hX dX6_openGrade_61 (tgt := 65) (by decide) ?_
            exact hR.2.2.1 _ _ _ _ _ _ (by decide) (by decide) dX6_openGrade_65 ⟨_, rfl⟩ (Or.inr ⟨_, rfl⟩) ⟨(some p14), _, rfl, rfl, hyp⟩
set_option maxRecDepth 10000 in
theorem s_X6_read_0 {X : ax_X} {d L sz : Nat} {T : tT} {Q : tT → Prop} (hX : ax_ok X mX6_read (d + 1)) (hR : ax_Ret X mX6_read (tv L sz Q)) (hsz : 161 ≤ sz)  (hyp : (((T.2.2 3 3) = none → False) ∧ (∀ p1, (T.2.2 3 3) = some p1 → tsy sz p1 ∧ ∃ Q1, tvK d mX8_clear [.ref p1] L sz (tI (tI (tI T 3 1 (0 : Int32)) 3 2 (-1 : Int32)) 3 5 (0 : Int32)) Q1 ∧ ∀ (T2 : tT), Q1 T2 → (∃ Q1, tvK d mX9_rewind [.ref 4] L sz T2 Q1 ∧ ∀ (T3 : tT), Q1 T3 → (ax_j X 33 [some (.ref 3), some (.null), some (.int (0 : Int32))] [] (th L sz T3) 0 0))))) : ax_j X 0 [some (.ref 3), none, none] [] (th L sz T) 0 0 := by
  refine ax_aload_n hX dX6_read_0 (Or.inr ⟨_, rfl⟩) rfl ?_
  refine ax_iconst hX dX6_read_1 (v := 0) (by decide) ?_
  refine tx_putI hX fRX6_29 ly_3 fk_6_1 (by decide) (Nat.lt_of_lt_of_le (by decide) hsz) rfl rfl dX6_read_2 ?_
  refine ax_aload_n hX dX6_read_5 (Or.inr ⟨_, rfl⟩) rfl ?_
  refine ax_iconst hX dX6_read_6 (v := -1) (by decide) ?_
  refine tx_putI hX fRX6_18 ly_3 fk_6_2 (by decide) (Nat.lt_of_lt_of_le (by decide) hsz) rfl rfl dX6_read_7 ?_
  refine ax_aload_n hX dX6_read_10 (Or.inr ⟨_, rfl⟩) rfl ?_
  refine ax_iconst hX dX6_read_11 (v := 0) (by decide) ?_
  refine tx_putI hX fRX6_32 ly_3 fk_6_5 (by decide) (Nat.lt_of_lt_of_le (by decide) hsz) rfl rfl dX6_read_12 ?_
  refine ax_aload_n hX dX6_read_15 (Or.inr ⟨_, rfl⟩) rfl ?_
  rcases ho1 : (T.2.2 3 3) with _ | p1
  · replace hyp := hyp.1 ho1
    refine tx_getP hX fRX6_25 ly_3 fk_6_3 (by decide) (Nat.lt_of_lt_of_le (by decide) hsz) (v := .null) (congrArg va_rf ho1) dX6_read_16 ?_
    exact hyp.elim
  · obtain ⟨h_p1, hyp⟩ := hyp.2 p1 ho1
    refine tx_getP hX fRX6_25 ly_3 fk_6_3 (by decide) (Nat.lt_of_lt_of_le (by decide) hsz) (v := .ref p1) (congrArg va_rf ho1) dX6_read_16 ?_
    obtain ⟨Q1, hK, hyp⟩ := hyp
    refine ax_callV hX lRX6_35 im_X8_clear sl_X8_clear cw_X8_clear ((th_at (h_p1.ne 0 (by decide)) (h_p1.lt 0 (by decide))).trans (tc_ob h_p1.ly0)) rfl rfl (A := []) (st := []) rfl rfl (Nat.le_of_ble_eq_true rfl) (by decide) (by decide) dX6_read_19 hK ?_
    rintro _ _ ⟨T2, rfl, rfl, hq⟩
    replace hyp := hyp T2 hq
    refine ax_aload_n hX dX6_read_22 (Or.inr ⟨_, rfl⟩) rfl ?_
    refine tx_getF hX fRX6_12 ly_3 (o := 1) (b := 4) fk_6_0 rfl (by decide) (Nat.lt_of_lt_of_le (by decide) hsz) dX6_read_23 ?_
    obtain ⟨Q1, hK, hyp⟩ := hyp
    refine ax_callV hX lRX6_38 im_X9_rewind sl_X9_rewind cw_X9_rewind ((th_at (by decide) (Nat.lt_of_lt_of_le (by decide) hsz)).trans (tc_ob ly_4)) rfl rfl (A := []) (st := []) rfl rfl (Nat.le_of_ble_eq_true rfl) (by decide) (by decide) dX6_read_26 hK ?_
    rintro _ _ ⟨T3, rfl, rfl, hq⟩
    replace hyp := hyp T3 hq
    refine ax_null hX dX6_read_29 ?_
    refine ax_astore_n hX dX6_read_30 (Or.inl rfl) (by decide) (L' := [some (.ref 3), some (.null), none]) rfl ?_
    refine ax_iconst hX dX6_read_31 (v := 0) (by decide) ?_
    refine ax_istore_n hX dX6_read_32 (by decide) (L' := [some (.ref 3), some (.null), some (.int (0 : Int32))]) rfl ?_
    exact ax_forget (L' := [some (.ref 3), some (.null), some (.int (0 : Int32))]) (⟨rfl, ⟨rfl, ⟨rfl, trivial⟩⟩⟩) hyp
set_option maxRecDepth 10000 in
theorem s_X6_read_33 {X : ax_X} {d L sz : Nat} {T : tT} {Q : tT → Prop} (hX : ax_ok X mX6_read (d + 1)) (hR : ax_Ret X mX6_read (tv L sz Q)) (hsz : 161 ≤ sz) (v2 : Int32) (hyp : (((1400 : Int32) ≤ v2 → Q T) ∧ (¬ (1400 : Int32) ≤ v2 → ((¬ (T.1 3 1) = 0 → Q T) ∧ ((T.1 3 1) = 0 → (((T.1 4 2) = 0 → Q T) ∧ (¬ (T.1 4 2) = 0 → ∃ Q1, toK d mX6_openGrade [.ref 3] L sz T Q1 ∧ ∀ (r1 : Option Nat) (T1 : tT), Q1 r1 T1 → (((r1 = none → ax_j X 33 [some (.ref 3), some (.null), some (.int (v2 + (1 : Int32)))] [] (th L sz T1) 0 0) ∧ (∀ p2, r1 = some p2 → tgr sz p2 ∧ ax_j X 33 [some (.ref 3), some (.ref p2), some (.int (v2 + (1 : Int32)))] [] (th L sz T1) 0 0)))))))))) : ax_j X 33 [some (.ref 3), some (.null), some (.int v2)] [] (th L sz T) 0 0 := by
  refine ax_iload_n hX dX6_read_33 rfl ?_
  refine ax_sipush hX dX6_read_34 (v := 1400) (by decide) ?_
  refine ax_icmp_ge hX dX6_read_37 (tgt := 104) (by decide) (fun c => ?_) (fun c => ?_)
  · replace hyp := hyp.1 c
    refine ax_aload_n hX dX6_read_104 (Or.inl rfl) rfl ?_
    refine ax_ifnull hX (r := none) rfl dX6_read_105 (tgt := 112) (by decide) (fun c => ?_) (fun _ c => ?_)
    rotate_left
    · cases c
    exact hR.2.2.2 _ _ _ _ _ (by decide) (by decide) dX6_read_112 rfl ⟨_, rfl, rfl, hyp⟩
  · replace hyp := hyp.2 c
    refine ax_aload_n hX dX6_read_40 (Or.inr ⟨_, rfl⟩) rfl ?_
    refine tx_getI hX fRX6_29 ly_3 fk_6_1 (by decide) (Nat.lt_of_lt_of_le (by decide) hsz) dX6_read_41 ?_
    refine ax_if_ne hX dX6_read_44 (tgt := 104) (by decide) (fun c => ?_) (fun c => ?_)
    · replace hyp := hyp.1 c
      refine ax_aload_n hX dX6_read_104 (Or.inl rfl) rfl ?_
      refine ax_ifnull hX (r := none) rfl dX6_read_105 (tgt := 112) (by decide) (fun c => ?_) (fun _ c => ?_)
      rotate_left
      · cases c
      exact hR.2.2.2 _ _ _ _ _ (by decide) (by decide) dX6_read_112 rfl ⟨_, rfl, rfl, hyp⟩
    · replace hyp := hyp.2 c
      refine ax_aload_n hX dX6_read_47 (Or.inr ⟨_, rfl⟩) rfl ?_
      refine tx_getF hX fRX6_12 ly_3 (o := 1) (b := 4) fk_6_0 rfl (by decide) (Nat.lt_of_lt_of_le (by decide) hsz) dX6_read_48 ?_
      refine tx_getI hX fRX6_41 ly_4 fk_9_2 (by decide) (Nat.lt_of_lt_of_le (by decide) hsz) dX6_read_51 ?_
      refine ax_if_eq hX dX6_read_54 (tgt := 104) (by decide) (fun c => ?_) (fun c => ?_)
      · replace hyp := hyp.1 c
        refine ax_aload_n hX dX6_read_104 (Or.inl rfl) rfl ?_
        refine ax_ifnull hX (r := none) rfl dX6_read_105 (tgt := 112) (by decide) (fun c => ?_) (fun _ c => ?_)
        rotate_left
        · cases c
        exact hR.2.2.2 _ _ _ _ _ (by decide) (by decide) dX6_read_112 rfl ⟨_, rfl, rfl, hyp⟩
      · replace hyp := hyp.2 c
        refine ax_aload_n hX dX6_read_57 (Or.inl rfl) rfl ?_
        refine ax_ifnonnull hX (r := none) rfl dX6_read_58 (tgt := 69) (by decide) (fun _ c => ?_) (fun c => ?_)
        · cases c
        refine ax_aload_n hX dX6_read_61 (Or.inr ⟨_, rfl⟩) rfl ?_
        obtain ⟨Q1, hK, hyp⟩ := hyp
        refine ax_callV hX lRX6_44 im_X6_openGrade sl_X6_openGrade cw_X6_openGrade ((th_at (by decide) (Nat.lt_of_lt_of_le (by decide) hsz)).trans (tc_ob ly_3)) rfl rfl (A := []) (st := []) rfl rfl (Nat.le_of_ble_eq_true rfl) (by decide) (by decide) dX6_read_62 hK ?_
        rintro _ _ ⟨r1, T1, rfl, rfl, hq⟩
        replace hyp := hyp r1 T1 hq
        rcases r1 with _ | p2
        · replace hyp := hyp.1 rfl
          refine ax_astore_n hX dX6_read_65 (Or.inl rfl) (by decide) (L' := [some (.ref 3), some (.null), some (.int v2)]) rfl ?_
          refine ax_goto hX dX6_read_66 (tgt := 98) (by decide) ?_
          refine ax_iinc hX dX6_read_98 rfl (w := (v2 + (1 : Int32))) rfl (by decide) (L' := [some (.ref 3), some (.null), some (.int (v2 + (1 : Int32)))]) rfl ?_
          refine ax_goto hX dX6_read_101 (tgt := 33) (by decide) ?_
          exact ax_forget (L' := [some (.ref 3), some (.null), some (.int (v2 + (1 : Int32)))]) (⟨rfl, ⟨rfl, ⟨rfl, trivial⟩⟩⟩) hyp
        · obtain ⟨h_p2, hyp⟩ := hyp.2 p2 rfl
          refine ax_astore_n hX dX6_read_65 (Or.inr ⟨_, rfl⟩) (by decide) (L' := [some (.ref 3), some (.ref p2), some (.int v2)]) rfl ?_
          refine ax_goto hX dX6_read_66 (tgt := 98) (by decide) ?_
          refine ax_iinc hX dX6_read_98 rfl (w := (v2 + (1 : Int32))) rfl (by decide) (L' := [some (.ref 3), some (.ref p2), some (.int (v2 + (1 : Int32)))]) rfl ?_
          refine ax_goto hX dX6_read_101 (tgt := 33) (by decide) ?_
          exact ax_forget (L' := [some (.ref 3), some (.ref p2), some (.int (v2 + (1 : Int32)))]) (⟨rfl, ⟨rfl, ⟨rfl, trivial⟩⟩⟩) hyp
set_option maxRecDepth 10000 in
theorem s_X6_read_33_1 {X : ax_X} {d L sz : Nat} {T : tT} {Q : tT → Prop} (hX : ax_ok X mX6_read (d + 1)) (hR : ax_Ret X mX6_read (tv L sz Q)) (hsz : 161 ≤ sz) {c0 : Nat} (h_c0 : tgr sz c0) (v2 : Int32) (hyp : (((1400 : Int32) ≤ v2 → ∃ Q1, tvK d mX6_refuse [.ref 3] L sz T Q1 ∧ ∀ (T1 : tT), Q1 T1 → (Q T1)) ∧ (¬ (1400 : Int32) ≤ v2 → ((¬ (T.1 3 1) = 0 → ∃ Q1, tvK d mX6_refuse [.ref 3] L sz T Q1 ∧ ∀ (T2 : tT), Q1 T2 → (Q T2)) ∧ ((T.1 3 1) = 0 → (((T.1 4 2) = 0 → ∃ Q1, tvK d mX6_refuse [.ref 3] L sz T Q1 ∧ ∀ (T3 : tT), Q1 T3 → (Q T3)) ∧ (¬ (T.1 4 2) = 0 → ((¬ (T.1 4 2) = (125 : Int32) → ∃ Q1, tvK d mX6_readItem [.ref 3, .ref c0] L sz T Q1 ∧ ∀ (T4 : tT), Q1 T4 → (ax_j X 33 [some (.ref 3), some (.ref c0), some (.int (v2 + (1 : Int32)))] [] (th L sz T4) 0 0)) ∧ ((T.1 4 2) = (125 : Int32) → ∃ Q1, tvK d mX9_next [.ref 4] L sz T Q1 ∧ ∀ (T5 : tT), Q1 T5 → (ax_j X 33 [some (.ref 3), some (.null), some (.int (v2 + (1 : Int32)))] [] (th L sz T5) 0 0)))))))))) : ax_j X 33 [some (.ref 3), some (.ref c0), some (.int v2)] [] (th L sz T) 0 0 := by
  refine ax_iload_n hX dX6_read_33 rfl ?_
  refine ax_sipush hX dX6_read_34 (v := 1400) (by decide) ?_
  refine ax_icmp_ge hX dX6_read_37 (tgt := 104) (by decide) (fun c => ?_) (fun c => ?_)
  · replace hyp := hyp.1 c
    refine ax_aload_n hX dX6_read_104 (Or.inr ⟨_, rfl⟩) rfl ?_
    refine ax_ifnull hX (r := (some c0)) rfl dX6_read_105 (tgt := 112) (by decide) (fun c => ?_) (fun _ c => ?_)
    · cases c
    refine ax_aload_n hX dX6_read_108 (Or.inr ⟨_, rfl⟩) rfl ?_
    obtain ⟨Q1, hK, hyp⟩ := hyp
    refine ax_callV hX lRX6_55 im_X6_refuse sl_X6_refuse cw_X6_refuse ((th_at (by decide) (Nat.lt_of_lt_of_le (by decide) hsz)).trans (tc_ob ly_3)) rfl rfl (A := []) (st := []) rfl rfl (Nat.le_of_ble_eq_true rfl) (by decide) (by decide) dX6_read_109 hK ?_
    rintro _ _ ⟨T1, rfl, rfl, hq⟩
    replace hyp := hyp T1 hq
    exact hR.2.2.2 _ _ _ _ _ (by decide) (by decide) dX6_read_112 rfl ⟨_, rfl, rfl, hyp⟩
  · replace hyp := hyp.2 c
    refine ax_aload_n hX dX6_read_40 (Or.inr ⟨_, rfl⟩) rfl ?_
    refine tx_getI hX fRX6_29 ly_3 fk_6_1 (by decide) (Nat.lt_of_lt_of_le (by decide) hsz) dX6_read_41 ?_
    refine ax_if_ne hX dX6_read_44 (tgt := 104) (by decide) (fun c => ?_) (fun c => ?_)
    · replace hyp := hyp.1 c
      refine ax_aload_n hX dX6_read_104 (Or.inr ⟨_, rfl⟩) rfl ?_
      refine ax_ifnull hX (r := (some c0)) rfl dX6_read_105 (tgt := 112) (by decide) (fun c => ?_) (fun _ c => ?_)
      · cases c
      refine ax_aload_n hX dX6_read_108 (Or.inr ⟨_, rfl⟩) rfl ?_
      obtain ⟨Q1, hK, hyp⟩ := hyp
      refine ax_callV hX lRX6_55 im_X6_refuse sl_X6_refuse cw_X6_refuse ((th_at (by decide) (Nat.lt_of_lt_of_le (by decide) hsz)).trans (tc_ob ly_3)) rfl rfl (A := []) (st := []) rfl rfl (Nat.le_of_ble_eq_true rfl) (by decide) (by decide) dX6_read_109 hK ?_
      rintro _ _ ⟨T2, rfl, rfl, hq⟩
      replace hyp := hyp T2 hq
      exact hR.2.2.2 _ _ _ _ _ (by decide) (by decide) dX6_read_112 rfl ⟨_, rfl, rfl, hyp⟩
    · replace hyp := hyp.2 c
      refine ax_aload_n hX dX6_read_47 (Or.inr ⟨_, rfl⟩) rfl ?_
      refine tx_getF hX fRX6_12 ly_3 (o := 1) (b := 4) fk_6_0 rfl (by decide) (Nat.lt_of_lt_of_le (by decide) hsz) dX6_read_48 ?_
      refine tx_getI hX fRX6_41 ly_4 fk_9_2 (by decide) (Nat.lt_of_lt_of_le (by decide) hsz) dX6_read_51 ?_
      refine ax_if_eq hX dX6_read_54 (tgt := 104) (by decide) (fun c => ?_) (fun c => ?_)
      · replace hyp := hyp.1 c
        refine ax_aload_n hX dX6_read_104 (Or.inr ⟨_, rfl⟩) rfl ?_
        refine ax_ifnull hX (r := (some c0)) rfl dX6_read_105 (tgt := 112) (by decide) (fun c => ?_) (fun _ c => ?_)
        · cases c
        refine ax_aload_n hX dX6_read_108 (Or.inr ⟨_, rfl⟩) rfl ?_
        obtain ⟨Q1, hK, hyp⟩ := hyp
        refine ax_callV hX lRX6_55 im_X6_refuse sl_X6_refuse cw_X6_refuse ((th_at (by decide) (Nat.lt_of_lt_of_le (by decide) hsz)).trans (tc_ob ly_3)) rfl rfl (A := []) (st := []) rfl rfl (Nat.le_of_ble_eq_true rfl) (by decide) (by decide) dX6_read_109 hK ?_
        rintro _ _ ⟨T3, rfl, rfl, hq⟩
        replace hyp := hyp T3 hq
        exact hR.2.2.2 _ _ _ _ _ (by decide) (by decide) dX6_read_112 rfl ⟨_, rfl, rfl, hyp⟩
      · replace hyp := hyp.2 c
        refine ax_aload_n hX dX6_read_57 (Or.inr ⟨_, rfl⟩) rfl ?_
        refine ax_ifnonnull hX (r := (some c0)) rfl dX6_read_58 (tgt := 69) (by decide) (fun _ c => ?_) (fun c => ?_)
        rotate_left
        · cases c
        refine ax_aload_n hX dX6_read_69 (Or.inr ⟨_, rfl⟩) rfl ?_
        refine tx_getF hX fRX6_12 ly_3 (o := 1) (b := 4) fk_6_0 rfl (by decide) (Nat.lt_of_lt_of_le (by decide) hsz) dX6_read_70 ?_
        refine tx_getI hX fRX6_41 ly_4 fk_9_2 (by decide) (Nat.lt_of_lt_of_le (by decide) hsz) dX6_read_73 ?_
        refine ax_bipush hX dX6_read_76 (v := 125) (by decide) ?_
        refine ax_icmp_ne hX dX6_read_78 (tgt := 93) (by decide) (fun c => ?_) (fun c => ?_)
        · replace hyp := hyp.1 c
          refine ax_aload_n hX dX6_read_93 (Or.inr ⟨_, rfl⟩) rfl ?_
          refine ax_aload_n hX dX6_read_94 (Or.inr ⟨_, rfl⟩) rfl ?_
          obtain ⟨Q1, hK, hyp⟩ := hyp
          refine ax_callV hX lRX6_51 im_X6_readItem sl_X6_readItem cw_X6_readItem ((th_at (by decide) (Nat.lt_of_lt_of_le (by decide) hsz)).trans (tc_ob ly_3)) rfl rfl (A := [.ref c0]) (st := []) rfl rfl (Nat.le_of_ble_eq_true rfl) (by decide) (by decide) dX6_read_95 hK ?_
          rintro _ _ ⟨T4, rfl, rfl, hq⟩
          replace hyp := hyp T4 hq
          refine ax_iinc hX dX6_read_98 rfl (w := (v2 + (1 : Int32))) rfl (by decide) (L' := [some (.ref 3), some (.ref c0), some (.int (v2 + (1 : Int32)))]) rfl ?_
          refine ax_goto hX dX6_read_101 (tgt := 33) (by decide) ?_
          exact ax_forget (L' := [some (.ref 3), some (.ref c0), some (.int (v2 + (1 : Int32)))]) (⟨rfl, ⟨rfl, ⟨rfl, trivial⟩⟩⟩) hyp
        · replace hyp := hyp.2 c
          refine ax_null hX dX6_read_81 ?_
          refine ax_astore_n hX dX6_read_82 (Or.inl rfl) (by decide) (L' := [some (.ref 3), some (.null), some (.int v2)]) rfl ?_
          refine ax_aload_n hX dX6_read_83 (Or.inr ⟨_, rfl⟩) rfl ?_
          refine tx_getF hX fRX6_12 ly_3 (o := 1) (b := 4) fk_6_0 rfl (by decide) (Nat.lt_of_lt_of_le (by decide) hsz) dX6_read_84 ?_
          obtain ⟨Q1, hK, hyp⟩ := hyp
          refine ax_callV hX lRX6_48 im_X9_next sl_X9_next cw_X9_next ((th_at (by decide) (Nat.lt_of_lt_of_le (by decide) hsz)).trans (tc_ob ly_4)) rfl rfl (A := []) (st := []) rfl rfl (Nat.le_of_ble_eq_true rfl) (by decide) (by decide) dX6_read_87 hK ?_
          rintro _ _ ⟨T5, rfl, rfl, hq⟩
          replace hyp := hyp T5 hq
          refine ax_goto hX dX6_read_90 (tgt := 98) (by decide) ?_
          refine ax_iinc hX dX6_read_98 rfl (w := (v2 + (1 : Int32))) rfl (by decide) (L' := [some (.ref 3), some (.null), some (.int (v2 + (1 : Int32)))]) rfl ?_
          refine ax_goto hX dX6_read_101 (tgt := 33) (by decide) ?_
          exact ax_forget (L' := [some (.ref 3), some (.null), some (.int (v2 + (1 : Int32)))]) (⟨rfl, ⟨rfl, ⟨rfl, trivial⟩⟩⟩) hyp
