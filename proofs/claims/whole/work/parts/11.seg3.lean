set_option maxRecDepth 10000 in
theorem s_X9_isWord_0 {X : ax_X} {d L sz : Nat} {T : tT} {Q : Int32 → tT → Prop} (hX : ax_ok X mX9_isWord (d + 1)) (hR : ax_Ret X mX9_isWord (ti L sz Q)) (hsz : 161 ≤ sz) (x0 : Int64) (hyp : ax_j X 5 [some (.long x0), none, some (.int (0 : Int32)), some (.int (56 : Int32)), none] [] (th L sz T) 0 0) : ax_j X 0 [some (.long x0), none, none, none, none] [] (th L sz T) 0 0 := by
  refine ax_iconst hX dX9_isWord_0 (v := 0) (by decide) ?_
  refine ax_istore_n hX dX9_isWord_1 (by decide) (L' := [some (.long x0), none, some (.int (0 : Int32)), none, none]) rfl ?_
  refine ax_bipush hX dX9_isWord_2 (v := 56) (by decide) ?_
  refine ax_istore_n hX dX9_isWord_4 (by decide) (L' := [some (.long x0), none, some (.int (0 : Int32)), some (.int (56 : Int32)), none]) rfl ?_
  exact ax_forget (L' := [some (.long x0), none, some (.int (0 : Int32)), some (.int (56 : Int32)), none]) (⟨rfl, ⟨rfl, ⟨rfl, trivial⟩⟩⟩) hyp
set_option maxRecDepth 10000 in
theorem s_X9_isWord_5 {X : ax_X} {d L sz : Nat} {T : tT} {Q : Int32 → tT → Prop} (hX : ax_ok X mX9_isWord (d + 1)) (hR : ax_Ret X mX9_isWord (ti L sz Q)) (hsz : 161 ≤ sz) (v0 : Int64) (v2 : Int32) (v3 : Int32) (hyp : ((v3 < 0 → (v2 &&& 1 = v2) ∧ Q v2 T) ∧ (¬ v3 < 0 → ((v2 = 0 → (((((v0.toUInt64 >>> (v3.toInt64.toUInt64 &&& Int64.toUInt64 63)).toInt64).toInt32 &&& (255 : Int32)) = 0 → ((¬ v2 = 0 → ax_j X 5 [some (.long v0), none, some (.int (1 : Int32)), some (.int (v3 + (-8 : Int32))), none] [] (th L sz T) 0 0) ∧ (v2 = 0 → (((((v0.toUInt64 >>> (v3.toInt64.toUInt64 &&& Int64.toUInt64 63)).toInt64).toInt32 &&& (255 : Int32)) = 0 → ax_j X 5 [some (.long v0), none, some (.int (0 : Int32)), some (.int (v3 + (-8 : Int32))), none] [] (th L sz T) 0 0) ∧ (¬ (((v0.toUInt64 >>> (v3.toInt64.toUInt64 &&& Int64.toUInt64 63)).toInt64).toInt32 &&& (255 : Int32)) = 0 → ax_j X 5 [some (.long v0), none, some (.int (1 : Int32)), some (.int (v3 + (-8 : Int32))), none] [] (th L sz T) 0 0))))) ∧ (¬ (((v0.toUInt64 >>> (v3.toInt64.toUInt64 &&& Int64.toUInt64 63)).toInt64).toInt32 &&& (255 : Int32)) = 0 → ∃ Q1, tiK d mX9_isLetter [.int (((v0.toUInt64 >>> (v3.toInt64.toUInt64 &&& Int64.toUInt64 63)).toInt64).toInt32 &&& (255 : Int32))] L sz T Q1 ∧ ∀ (r1 : Int32) (T1 : tT), Q1 r1 T1 → (((¬ r1 = 0 → ((¬ v2 = 0 → ax_j X 5 [some (.long v0), none, some (.int (1 : Int32)), some (.int (v3 + (-8 : Int32))), none] [] (th L sz T1) 0 0) ∧ (v2 = 0 → (((((v0.toUInt64 >>> (v3.toInt64.toUInt64 &&& Int64.toUInt64 63)).toInt64).toInt32 &&& (255 : Int32)) = 0 → ax_j X 5 [some (.long v0), none, some (.int (0 : Int32)), some (.int (v3 + (-8 : Int32))), none] [] (th L sz T1) 0 0) ∧ (¬ (((v0.toUInt64 >>> (v3.toInt64.toUInt64 &&& Int64.toUInt64 63)).toInt64).toInt32 &&& (255 : Int32)) = 0 → ax_j X 5 [some (.long v0), none, some (.int (1 : Int32)), some (.int (v3 + (-8 : Int32))), none] [] (th L sz T1) 0 0))))) ∧ (r1 = 0 → Q (0 : Int32) T1)))))) ∧ (¬ v2 = 0 → ∃ Q1, tiK d mX9_isLetterOrDigit [.int (((v0.toUInt64 >>> (v3.toInt64.toUInt64 &&& Int64.toUInt64 63)).toInt64).toInt32 &&& (255 : Int32))] L sz T Q1 ∧ ∀ (r2 : Int32) (T2 : tT), Q1 r2 T2 → (((¬ r2 = 0 → ((¬ v2 = 0 → ax_j X 5 [some (.long v0), none, some (.int (1 : Int32)), some (.int (v3 + (-8 : Int32))), none] [] (th L sz T2) 0 0) ∧ (v2 = 0 → (((((v0.toUInt64 >>> (v3.toInt64.toUInt64 &&& Int64.toUInt64 63)).toInt64).toInt32 &&& (255 : Int32)) = 0 → ax_j X 5 [some (.long v0), none, some (.int (0 : Int32)), some (.int (v3 + (-8 : Int32))), none] [] (th L sz T2) 0 0) ∧ (¬ (((v0.toUInt64 >>> (v3.toInt64.toUInt64 &&& Int64.toUInt64 63)).toInt64).toInt32 &&& (255 : Int32)) = 0 → ax_j X 5 [some (.long v0), none, some (.int (1 : Int32)), some (.int (v3 + (-8 : Int32))), none] [] (th L sz T2) 0 0))))) ∧ (r2 = 0 → Q (0 : Int32) T2)))))))) : ax_j X 5 [some (.long v0), none, some (.int v2), some (.int v3), none] [] (th L sz T) 0 0 := by
  refine ax_iload_n hX dX9_isWord_5 rfl ?_
  refine ax_if_lt hX dX9_isWord_6 (tgt := 70) (by decide) (fun c => ?_) (fun c => ?_)
  · replace hyp := hyp.1 c
    refine ax_iload_n hX dX9_isWord_70 rfl ?_
    exact hR.1 _ _ _ _ _ _ (by decide) (by decide) dX9_isWord_71 ⟨_, rfl, congrArg Value.int hyp.1⟩ ⟨_, _, rfl, rfl, hyp.2⟩
  · replace hyp := hyp.2 c
    refine ax_lload_n hX dX9_isWord_9 rfl ?_
    refine ax_iload_n hX dX9_isWord_10 rfl ?_
    refine ax_lushr hX dX9_isWord_11 ?_
    refine ax_l2i hX dX9_isWord_12 ?_
    refine ax_sipush hX dX9_isWord_13 (v := 255) (by decide) ?_
    refine ax_iand hX dX9_isWord_16 ?_
    refine ax_istore hX dX9_isWord_17 (by decide) (L' := [some (.long v0), none, some (.int v2), some (.int v3), some (.int (((v0.toUInt64 >>> (v3.toInt64.toUInt64 &&& Int64.toUInt64 63)).toInt64).toInt32 &&& (255 : Int32)))]) rfl ?_
    refine ax_iload_n hX dX9_isWord_19 rfl ?_
    refine ax_if_eq hX dX9_isWord_20 (tgt := 34) (by decide) (fun c => ?_) (fun c => ?_)
    · replace hyp := hyp.1 c
      refine ax_iload hX dX9_isWord_34 rfl ?_
      refine ax_if_eq hX dX9_isWord_36 (tgt := 49) (by decide) (fun c => ?_) (fun c => ?_)
      · replace hyp := hyp.1 c
        refine ax_iload_n hX dX9_isWord_49 rfl ?_
        refine ax_if_ne hX dX9_isWord_50 (tgt := 58) (by decide) (fun c => ?_) (fun c => ?_)
        · replace hyp := hyp.1 c
          refine ax_iconst hX dX9_isWord_58 (v := 1) (by decide) ?_
          refine ax_goto hX dX9_isWord_59 (tgt := 63) (by decide) ?_
          refine ax_istore_n hX dX9_isWord_63 (by decide) (L' := [some (.long v0), none, some (.int (1 : Int32)), some (.int v3), some (.int (((v0.toUInt64 >>> (v3.toInt64.toUInt64 &&& Int64.toUInt64 63)).toInt64).toInt32 &&& (255 : Int32)))]) rfl ?_
          refine ax_iinc hX dX9_isWord_64 rfl (w := (v3 + (-8 : Int32))) rfl (by decide) (L' := [some (.long v0), none, some (.int (1 : Int32)), some (.int (v3 + (-8 : Int32))), some (.int (((v0.toUInt64 >>> (v3.toInt64.toUInt64 &&& Int64.toUInt64 63)).toInt64).toInt32 &&& (255 : Int32)))]) rfl ?_
          refine ax_goto hX dX9_isWord_67 (tgt := 5) (by decide) ?_
          exact ax_forget (L' := [some (.long v0), none, some (.int (1 : Int32)), some (.int (v3 + (-8 : Int32))), none]) (⟨rfl, ⟨rfl, ⟨rfl, trivial⟩⟩⟩) hyp
        · replace hyp := hyp.2 c
          refine ax_iload hX dX9_isWord_53 rfl ?_
          refine ax_if_eq hX dX9_isWord_55 (tgt := 62) (by decide) (fun c => ?_) (fun c => ?_)
          · replace hyp := hyp.1 c
            refine ax_iconst hX dX9_isWord_62 (v := 0) (by decide) ?_
            refine ax_istore_n hX dX9_isWord_63 (by decide) (L' := [some (.long v0), none, some (.int (0 : Int32)), some (.int v3), some (.int (((v0.toUInt64 >>> (v3.toInt64.toUInt64 &&& Int64.toUInt64 63)).toInt64).toInt32 &&& (255 : Int32)))]) rfl ?_
            refine ax_iinc hX dX9_isWord_64 rfl (w := (v3 + (-8 : Int32))) rfl (by decide) (L' := [some (.long v0), none, some (.int (0 : Int32)), some (.int (v3 + (-8 : Int32))), some (.int (((v0.toUInt64 >>> (v3.toInt64.toUInt64 &&& Int64.toUInt64 63)).toInt64).toInt32 &&& (255 : Int32)))]) rfl ?_
            refine ax_goto hX dX9_isWord_67 (tgt := 5) (by decide) ?_
            exact ax_forget (L' := [some (.long v0), none, some (.int (0 : Int32)), some (.int (v3 + (-8 : Int32))), none]) (⟨rfl, ⟨rfl, ⟨rfl, trivial⟩⟩⟩) hyp
          · replace hyp := hyp.2 c
            refine ax_iconst hX dX9_isWord_58 (v := 1) (by decide) ?_
            refine ax_goto hX dX9_isWord_59 (tgt := 63) (by decide) ?_
            refine ax_istore_n hX dX9_isWord_63 (by decide) (L' := [some (.long v0), none, some (.int (1 : Int32)), some (.int v3), some (.int (((v0.toUInt64 >>> (v3.toInt64.toUInt64 &&& Int64.toUInt64 63)).toInt64).toInt32 &&& (255 : Int32)))]) rfl ?_
            refine ax_iinc hX dX9_isWord_64 rfl (w := (v3 + (-8 : Int32))) rfl (by decide) (L' := [some (.long v0), none, some (.int (1 : Int32)), some (.int (v3 + (-8 : Int32))), some (.int (((v0.toUInt64 >>> (v3.toInt64.toUInt64 &&& Int64.toUInt64 63)).toInt64).toInt32 &&& (255 : Int32)))]) rfl ?_
            refine ax_goto hX dX9_isWord_67 (tgt := 5) (by decide) ?_
            exact ax_forget (L' := [some (.long v0), none, some (.int (1 : Int32)), some (.int (v3 + (-8 : Int32))), none]) (⟨rfl, ⟨rfl, ⟨rfl, trivial⟩⟩⟩) hyp
      · replace hyp := hyp.2 c
        refine ax_iload hX dX9_isWord_39 rfl ?_
        obtain ⟨Q1, hK, hyp⟩ := hyp
        refine ax_callS hX lRX9_39 sm_X9_isLetter cw_X9_isLetter (A := [.int (((v0.toUInt64 >>> (v3.toInt64.toUInt64 &&& Int64.toUInt64 63)).toInt64).toInt32 &&& (255 : Int32))]) (st := []) rfl rfl (Nat.le_of_ble_eq_true rfl) (by decide) (by decide) dX9_isWord_41 hK ?_
        rintro _ _ ⟨r1, T1, rfl, rfl, hq⟩
        replace hyp := hyp r1 T1 hq
        refine ax_if_ne hX dX9_isWord_44 (tgt := 49) (by decide) (fun c => ?_) (fun c => ?_)
        · replace hyp := hyp.1 c
          refine ax_iload_n hX dX9_isWord_49 rfl ?_
          refine ax_if_ne hX dX9_isWord_50 (tgt := 58) (by decide) (fun c => ?_) (fun c => ?_)
          · replace hyp := hyp.1 c
            refine ax_iconst hX dX9_isWord_58 (v := 1) (by decide) ?_
            refine ax_goto hX dX9_isWord_59 (tgt := 63) (by decide) ?_
            refine ax_istore_n hX dX9_isWord_63 (by decide) (L' := [some (.long v0), none, some (.int (1 : Int32)), some (.int v3), some (.int (((v0.toUInt64 >>> (v3.toInt64.toUInt64 &&& Int64.toUInt64 63)).toInt64).toInt32 &&& (255 : Int32)))]) rfl ?_
            refine ax_iinc hX dX9_isWord_64 rfl (w := (v3 + (-8 : Int32))) rfl (by decide) (L' := [some (.long v0), none, some (.int (1 : Int32)), some (.int (v3 + (-8 : Int32))), some (.int (((v0.toUInt64 >>> (v3.toInt64.toUInt64 &&& Int64.toUInt64 63)).toInt64).toInt32 &&& (255 : Int32)))]) rfl ?_
            refine ax_goto hX dX9_isWord_67 (tgt := 5) (by decide) ?_
            exact ax_forget (L' := [some (.long v0), none, some (.int (1 : Int32)), some (.int (v3 + (-8 : Int32))), none]) (⟨rfl, ⟨rfl, ⟨rfl, trivial⟩⟩⟩) hyp
          · replace hyp := hyp.2 c
            refine ax_iload hX dX9_isWord_53 rfl ?_
            refine ax_if_eq hX dX9_isWord_55 (tgt := 62) (by decide) (fun c => ?_) (fun c => ?_)
            · replace hyp := hyp.1 c
              refine ax_iconst hX dX9_isWord_62 (v := 0) (by decide) ?_
              refine ax_istore_n hX dX9_isWord_63 (by decide) (L' := [some (.long v0), none, some (.int (0 : Int32)), some (.int v3), some (.int (((v0.toUInt64 >>> (v3.toInt64.toUInt64 &&& Int64.toUInt64 63)).toInt64).toInt32 &&& (255 : Int32)))]) rfl ?_
              refine ax_iinc hX dX9_isWord_64 rfl (w := (v3 + (-8 : Int32))) rfl (by decide) (L' := [some (.long v0), none, some (.int (0 : Int32)), some (.int (v3 + (-8 : Int32))), some (.int (((v0.toUInt64 >>> (v3.toInt64.toUInt64 &&& Int64.toUInt64 63)).toInt64).toInt32 &&& (255 : Int32)))]) rfl ?_
              refine ax_goto hX dX9_isWord_67 (tgt := 5) (by decide) ?_
              exact ax_forget (L' := [some (.long v0), none, some (.int (0 : Int32)), some (.int (v3 + (-8 : Int32))), none]) (⟨rfl, ⟨rfl, ⟨rfl, trivial⟩⟩⟩) hyp
            · replace hyp := hyp.2 c
              refine ax_iconst hX dX9_isWord_58 (v := 1) (by decide) ?_
              refine ax_goto hX dX9_isWord_59 (tgt := 63) (by decide) ?_
              refine ax_istore_n hX dX9_isWord_63 (by decide) (L' := [some (.long v0), none, some (.int (1 : Int32)), some (.int v3), some (.int (((v0.toUInt64 >>> (v3.toInt64.toUInt64 &&& Int64.toUInt64 63)).toInt64).toInt32 &&& (255 : Int32)))]) rfl ?_
              refine ax_iinc hX dX9_isWord_64 rfl (w := (v3 + (-8 : Int32))) rfl (by decide) (L' := [some (.long v0), none, some (.int (1 : Int32)), some (.int (v3 + (-8 : Int32))), some (.int (((v0.toUInt64 >>> (v3.toInt64.toUInt64 &&& Int64.toUInt64 63)).toInt64).toInt32 &&& (255 : Int32)))]) rfl ?_
              refine ax_goto hX dX9_isWord_67 (tgt := 5) (by decide) ?_
              exact ax_forget (L' := [some (.long v0), none, some (.int (1 : Int32)), some (.int (v3 + (-8 : Int32))), none]) (⟨rfl, ⟨rfl, ⟨rfl, trivial⟩⟩⟩) hyp
        · replace hyp := hyp.2 c
          refine ax_iconst hX dX9_isWord_47 (v := 0) (by decide) ?_
          exact hR.1 _ _ _ _ _ _ (by decide) (by decide) dX9_isWord_48 ⟨_, rfl, rfl⟩ ⟨_, _, rfl, rfl, hyp⟩
    · replace hyp := hyp.2 c
      refine ax_iload hX dX9_isWord_23 rfl ?_
      obtain ⟨Q1, hK, hyp⟩ := hyp
      refine ax_callS hX lRX9_58 sm_X9_isLetterOrDigit cw_X9_isLetterOrDigit (A := [.int (((v0.toUInt64 >>> (v3.toInt64.toUInt64 &&& Int64.toUInt64 63)).toInt64).toInt32 &&& (255 : Int32))]) (st := []) rfl rfl (Nat.le_of_ble_eq_true rfl) (by decide) (by decide) dX9_isWord_25 hK ?_
      rintro _ _ ⟨r2, T2, rfl, rfl, hq⟩
      replace hyp := hyp r2 T2 hq
      refine ax_if_ne hX dX9_isWord_28 (tgt := 49) (by decide) (fun c => ?_) (fun c => ?_)
      · replace hyp := hyp.1 c
        refine ax_iload_n hX dX9_isWord_49 rfl ?_
        refine ax_if_ne hX dX9_isWord_50 (tgt := 58) (by decide) (fun c => ?_) (fun c => ?_)
        · replace hyp := hyp.1 c
          refine ax_iconst hX dX9_isWord_58 (v := 1) (by decide) ?_
          refine ax_goto hX dX9_isWord_59 (tgt := 63) (by decide) ?_
          refine ax_istore_n hX dX9_isWord_63 (by decide) (L' := [some (.long v0), none, some (.int (1 : Int32)), some (.int v3), some (.int (((v0.toUInt64 >>> (v3.toInt64.toUInt64 &&& Int64.toUInt64 63)).toInt64).toInt32 &&& (255 : Int32)))]) rfl ?_
          refine ax_iinc hX dX9_isWord_64 rfl (w := (v3 + (-8 : Int32))) rfl (by decide) (L' := [some (.long v0), none, some (.int (1 : Int32)), some (.int (v3 + (-8 : Int32))), some (.int (((v0.toUInt64 >>> (v3.toInt64.toUInt64 &&& Int64.toUInt64 63)).toInt64).toInt32 &&& (255 : Int32)))]) rfl ?_
          refine ax_goto hX dX9_isWord_67 (tgt := 5) (by decide) ?_
          exact ax_forget (L' := [some (.long v0), none, some (.int (1 : Int32)), some (.int (v3 + (-8 : Int32))), none]) (⟨rfl, ⟨rfl, ⟨rfl, trivial⟩⟩⟩) hyp
        · replace hyp := hyp.2 c
          refine ax_iload hX dX9_isWord_53 rfl ?_
          refine ax_if_eq hX dX9_isWord_55 (tgt := 62) (by decide) (fun c => ?_) (fun c => ?_)
          · replace hyp := hyp.1 c
            refine ax_iconst hX dX9_isWord_62 (v := 0) (by decide) ?_
            refine ax_istore_n hX dX9_isWord_63 (by decide) (L' := [some (.long v0), none, some (.int (0 : Int32)), some (.int v3), some (.int (((v0.toUInt64 >>> (v3.toInt64.toUInt64 &&& Int64.toUInt64 63)).toInt64).toInt32 &&& (255 : Int32)))]) rfl ?_
            refine ax_iinc hX dX9_isWord_64 rfl (w := (v3 + (-8 : Int32))) rfl (by decide) (L' := [some (.long v0), none, some (.int (0 : Int32)), some (.int (v3 + (-8 : Int32))), some (.int (((v0.toUInt64 >>> (v3.toInt64.toUInt64 &&& Int64.toUInt64 63)).toInt64).toInt32 &&& (255 : Int32)))]) rfl ?_
            refine ax_goto hX dX9_isWord_67 (tgt := 5) (by decide) ?_
            exact ax_forget (L' := [some (.long v0), none, some (.int (0 : Int32)), some (.int (v3 + (-8 : Int32))), none]) (⟨rfl, ⟨rfl, ⟨rfl, trivial⟩⟩⟩) hyp
          · replace hyp := hyp.2 c
            refine ax_iconst hX dX9_isWord_58 (v := 1) (by decide) ?_
            refine ax_goto hX dX9_isWord_59 (tgt := 63) (by decide) ?_
            refine ax_istore_n hX dX9_isWord_63 (by decide) (L' := [some (.long v0), none, some (.int (1 : Int32)), some (.int v3), some (.int (((v0.toUInt64 >>> (v3.toInt64.toUInt64 &&& Int64.toUInt64 63)).toInt64).toInt32 &&& (255 : Int32)))]) rfl ?_
            refine ax_iinc hX dX9_isWord_64 rfl (w := (v3 + (-8 : Int32))) rfl (by decide) (L' := [some (.long v0), none, some (.int (1 : Int32)), some (.int (v3 + (-8 : Int32))), some (.int (((v0.toUInt64 >>> (v3.toInt64.toUInt64 &&& Int64.toUInt64 63)).toInt64).toInt32 &&& (255 : Int32)))]) rfl ?_
            refine ax_goto hX dX9_isWord_67 (tgt := 5) (by decide) ?_
            exact ax_forget (L' := [some (.long v0), none, some (.int (1 : Int32)), some (.int (v3 + (-8 : Int32))), none]) (⟨rfl, ⟨rfl, ⟨rfl, trivial⟩⟩⟩) hyp
      · replace hyp := hyp.2 c
        refine ax_goto hX dX9_isWord_31 (tgt := 47) (by decide) ?_
        refine ax_iconst hX dX9_isWord_47 (v := 0) (by decide) ?_
        exact hR.1 _ _ _ _ _ _ (by decide) (by decide) dX9_isWord_48 ⟨_, rfl, rfl⟩ ⟨_, _, rfl, rfl, hyp⟩
set_option maxRecDepth 10000 in
theorem s_X9_kindOf_0 {X : ax_X} {d L sz : Nat} {T : tT} {Q : Int32 → tT → Prop} (hX : ax_ok X mX9_kindOf d) (hR : ax_Ret X mX9_kindOf (ti L sz Q)) (hsz : 161 ≤ sz) (x0 : Int64) (hyp : ax_j X 2 [some (.long x0), none, some (.int (0 : Int32))] [] (th L sz T) 0 0) : ax_j X 0 [some (.long x0), none, none] [] (th L sz T) 0 0 := by
  refine ax_iconst hX dX9_kindOf_0 (v := 0) (by decide) ?_
  refine ax_istore_n hX dX9_kindOf_1 (by decide) (L' := [some (.long x0), none, some (.int (0 : Int32))]) rfl ?_
  exact ax_forget (L' := [some (.long x0), none, some (.int (0 : Int32))]) (⟨rfl, ⟨rfl, trivial⟩⟩) hyp
set_option maxRecDepth 10000 in
theorem s_X9_kindOf_2 {X : ax_X} {d L sz : Nat} {T : tT} {Q : Int32 → tT → Prop} (hX : ax_ok X mX9_kindOf d) (hR : ax_Ret X mX9_kindOf (ti L sz Q)) (hsz : 161 ≤ sz) (v0 : Int64) (v2 : Int32) (hyp : (((nI 15) ≤ v2 → Q (3 : Int32) T) ∧ (¬ (nI 15) ≤ v2 → vp_in v2 15 ∧ ((¬ (T.2.1 1 (v2.toNatClampNeg)) = v0 → ax_j X 2 [some (.long v0), none, some (.int (v2 + (1 : Int32)))] [] (th L sz T) 0 0) ∧ ((T.2.1 1 (v2.toNatClampNeg)) = v0 → Q ((200 : Int32) + v2) T))))) : ax_j X 2 [some (.long v0), none, some (.int v2)] [] (th L sz T) 0 0 := by
  refine ax_iload_n hX dX9_kindOf_2 rfl ?_
  refine ax_getst hX gRX9_68 dX9_kindOf_3 ?_
  refine tx_len hX ly_1 (by decide) (Nat.lt_of_lt_of_le (by decide) hsz) dX9_kindOf_6 ?_
  refine ax_icmp_ge hX dX9_kindOf_7 (tgt := 32) (by decide) (fun c => ?_) (fun c => ?_)
  · replace hyp := hyp.1 c
    refine ax_iconst hX dX9_kindOf_32 (v := 3) (by decide) ?_
    exact hR.1 _ _ _ _ _ _ (by decide) (by decide) dX9_kindOf_33 ⟨_, rfl, rfl⟩ ⟨_, _, rfl, rfl, hyp⟩
  · replace hyp := hyp.2 c
    refine ax_getst hX gRX9_68 dX9_kindOf_10 ?_
    refine ax_iload_n hX dX9_kindOf_13 rfl ?_
    refine tx_lal hX ly_1 (by decide) (Nat.lt_of_lt_of_le (by decide) hsz) hyp.1 dX9_kindOf_14 ?_
    replace hyp := hyp.2
    refine ax_lload_n hX dX9_kindOf_15 rfl ?_
    refine tx_lcmp_ne hX dX9_kindOf_16 dX9_kindOf_17 (tgt := 26) (by decide) (fun c => ?_) (fun c => ?_)
    · replace hyp := hyp.1 c
      refine ax_iinc hX dX9_kindOf_26 rfl (w := (v2 + (1 : Int32))) rfl (by decide) (L' := [some (.long v0), none, some (.int (v2 + (1 : Int32)))]) rfl ?_
      refine ax_goto hX dX9_kindOf_29 (tgt := 2) (by decide) ?_
      exact ax_forget (L' := [some (.long v0), none, some (.int (v2 + (1 : Int32)))]) (⟨rfl, ⟨rfl, trivial⟩⟩) hyp
    · replace hyp := hyp.2 c
      refine ax_sipush hX dX9_kindOf_20 (v := 200) (by decide) ?_
      refine ax_iload_n hX dX9_kindOf_23 rfl ?_
      refine ax_iadd hX dX9_kindOf_24 ?_
      exact hR.1 _ _ _ _ _ _ (by decide) (by decide) dX9_kindOf_25 ⟨_, rfl, rfl⟩ ⟨_, _, rfl, rfl, hyp⟩
set_option maxRecDepth 10000 in
theorem s_X9_next_0 {X : ax_X} {d L sz : Nat} {T : tT} {Q : tT → Prop} (hX : ax_ok X mX9_next (d + 1)) (hR : ax_Ret X mX9_next (tv L sz Q)) (hsz : 161 ≤ sz)  (hyp : (((T.1 4 1) ≤ (T.1 4 6) → ∃ Q1, tiK d mX9_byteAt [.ref 4, .int (T.1 4 6)] L sz (tI T 4 3 (T.1 4 6)) Q1 ∧ ∀ (r1 : Int32) (T1 : tT), Q1 r1 T1 → (((¬ r1 = (-1 : Int32) → ∃ Q1, tiK d mX9_isLetter [.int r1] L sz T1 Q1 ∧ ∀ (r2 : Int32) (T2 : tT), Q1 r2 T2 → (((r2 = 0 → ∃ Q1, tiK d mX9_isDigit [.int r1] L sz T2 Q1 ∧ ∀ (r3 : Int32) (T3 : tT), Q1 r3 T3 → (((r3 = 0 → ∃ Q1, tiK d mX9_isSign [.int r1] L sz T3 Q1 ∧ ∀ (r4 : Int32) (T4 : tT), Q1 r4 T4 → (((r4 = 0 → Q (tI (tI T4 4 2 (1 : Int32)) 4 6 ((T4.1 4 6) + (1 : Int32)))) ∧ (¬ r4 = 0 → Q (tI (tI T4 4 2 r1) 4 6 ((T4.1 4 6) + (1 : Int32))))))) ∧ (¬ r3 = 0 → ∃ Q1, tvK d mX9_readNumber [.ref 4] L sz T3 Q1 ∧ ∀ (T5 : tT), Q1 T5 → (Q T5))))) ∧ (¬ r2 = 0 → ∃ Q1, tvK d mX9_readWord [.ref 4] L sz T2 Q1 ∧ ∀ (T6 : tT), Q1 T6 → (Q T6))))) ∧ (r1 = (-1 : Int32) → Q (tI T1 4 2 (0 : Int32)))))) ∧ (¬ (T.1 4 1) ≤ (T.1 4 6) → ∃ Q1, tiK d mX9_byteAt [.ref 4, .int (T.1 4 6)] L sz T Q1 ∧ ∀ (r7 : Int32) (T7 : tT), Q1 r7 T7 → (∃ Q1, tiK d mX9_isBlank [.int r7] L sz T7 Q1 ∧ ∀ (r8 : Int32) (T8 : tT), Q1 r8 T8 → (((r8 = 0 → ∃ Q1, tiK d mX9_byteAt [.ref 4, .int (T8.1 4 6)] L sz (tI T8 4 3 (T8.1 4 6)) Q1 ∧ ∀ (r9 : Int32) (T9 : tT), Q1 r9 T9 → (((¬ r9 = (-1 : Int32) → ∃ Q1, tiK d mX9_isLetter [.int r9] L sz T9 Q1 ∧ ∀ (r10 : Int32) (T10 : tT), Q1 r10 T10 → (((r10 = 0 → ∃ Q1, tiK d mX9_isDigit [.int r9] L sz T10 Q1 ∧ ∀ (r11 : Int32) (T11 : tT), Q1 r11 T11 → (((r11 = 0 → ∃ Q1, tiK d mX9_isSign [.int r9] L sz T11 Q1 ∧ ∀ (r12 : Int32) (T12 : tT), Q1 r12 T12 → (((r12 = 0 → Q (tI (tI T12 4 2 (1 : Int32)) 4 6 ((T12.1 4 6) + (1 : Int32)))) ∧ (¬ r12 = 0 → Q (tI (tI T12 4 2 r9) 4 6 ((T12.1 4 6) + (1 : Int32))))))) ∧ (¬ r11 = 0 → ∃ Q1, tvK d mX9_readNumber [.ref 4] L sz T11 Q1 ∧ ∀ (T13 : tT), Q1 T13 → (Q T13))))) ∧ (¬ r10 = 0 → ∃ Q1, tvK d mX9_readWord [.ref 4] L sz T10 Q1 ∧ ∀ (T14 : tT), Q1 T14 → (Q T14))))) ∧ (r9 = (-1 : Int32) → Q (tI T9 4 2 (0 : Int32)))))) ∧ (¬ r8 = 0 → ax_j X 0 [some (.ref 4), none] [] (th L sz (tI T8 4 6 ((T8.1 4 6) + (1 : Int32)))) 0 0))))))) : ax_j X 0 [some (.ref 4), none] [] (th L sz T) 0 0 := by
  refine ax_aload_n hX dX9_next_0 (Or.inr ⟨_, rfl⟩) rfl ?_
  refine tx_getI hX fRX9_19 ly_4 fk_9_6 (by decide) (Nat.lt_of_lt_of_le (by decide) hsz) dX9_next_1 ?_
  refine ax_aload_n hX dX9_next_4 (Or.inr ⟨_, rfl⟩) rfl ?_
  refine tx_getI hX fRX9_15 ly_4 fk_9_1 (by decide) (Nat.lt_of_lt_of_le (by decide) hsz) dX9_next_5 ?_
  refine ax_icmp_ge hX dX9_next_8 (tgt := 38) (by decide) (fun c => ?_) (fun c => ?_)
  · replace hyp := hyp.1 c
    refine ax_aload_n hX dX9_next_38 (Or.inr ⟨_, rfl⟩) rfl ?_
    refine ax_aload_n hX dX9_next_39 (Or.inr ⟨_, rfl⟩) rfl ?_
    refine tx_getI hX fRX9_19 ly_4 fk_9_6 (by decide) (Nat.lt_of_lt_of_le (by decide) hsz) dX9_next_40 ?_
    refine tx_putI hX fRX9_33 ly_4 fk_9_3 (by decide) (Nat.lt_of_lt_of_le (by decide) hsz) rfl rfl dX9_next_43 ?_
    refine ax_aload_n hX dX9_next_46 (Or.inr ⟨_, rfl⟩) rfl ?_
    refine ax_aload_n hX dX9_next_47 (Or.inr ⟨_, rfl⟩) rfl ?_
    refine tx_getI hX fRX9_19 ly_4 fk_9_6 (by decide) (Nat.lt_of_lt_of_le (by decide) hsz) dX9_next_48 ?_
    obtain ⟨Q1, hK, hyp⟩ := hyp
    refine ax_callV hX lRX9_25 im_X9_byteAt sl_X9_byteAt cw_X9_byteAt ((th_at (by decide) (Nat.lt_of_lt_of_le (by decide) hsz)).trans (tc_ob ly_4)) rfl rfl (A := [.int (T.1 4 6)]) (st := []) rfl rfl (Nat.le_of_ble_eq_true rfl) (by decide) (by decide) dX9_next_51 hK ?_
    rintro _ _ ⟨r1, T1, rfl, rfl, hq⟩
    replace hyp := hyp r1 T1 hq
    refine ax_istore_n hX dX9_next_54 (by decide) (L' := [some (.ref 4), some (.int r1)]) rfl ?_
    refine ax_iload_n hX dX9_next_55 rfl ?_
    refine ax_iconst hX dX9_next_56 (v := -1) (by decide) ?_
    refine ax_icmp_ne hX dX9_next_57 (tgt := 68) (by decide) (fun c => ?_) (fun c => ?_)
    · replace hyp := hyp.1 c
      refine ax_iload_n hX dX9_next_68 rfl ?_
      obtain ⟨Q1, hK, hyp⟩ := hyp
      refine ax_callS hX lRX9_39 sm_X9_isLetter cw_X9_isLetter (A := [.int r1]) (st := []) rfl rfl (Nat.le_of_ble_eq_true rfl) (by decide) (by decide) dX9_next_69 hK ?_
      rintro _ _ ⟨r2, T2, rfl, rfl, hq⟩
      replace hyp := hyp r2 T2 hq
      refine ax_if_eq hX dX9_next_72 (tgt := 82) (by decide) (fun c => ?_) (fun c => ?_)
      · replace hyp := hyp.1 c
        refine ax_iload_n hX dX9_next_82 rfl ?_
        obtain ⟨Q1, hK, hyp⟩ := hyp
        refine ax_callS hX lRX9_45 sm_X9_isDigit cw_X9_isDigit (A := [.int r1]) (st := []) rfl rfl (Nat.le_of_ble_eq_true rfl) (by decide) (by decide) dX9_next_83 hK ?_
        rintro _ _ ⟨r3, T3, rfl, rfl, hq⟩
        replace hyp := hyp r3 T3 hq
        refine ax_if_eq hX dX9_next_86 (tgt := 96) (by decide) (fun c => ?_) (fun c => ?_)
        · replace hyp := hyp.1 c
          refine ax_aload_n hX dX9_next_96 (Or.inr ⟨_, rfl⟩) rfl ?_
          refine ax_iload_n hX dX9_next_97 rfl ?_
          obtain ⟨Q1, hK, hyp⟩ := hyp
          refine ax_callS hX lRX9_51 sm_X9_isSign cw_X9_isSign (A := [.int r1]) (st := [.ref 4]) rfl rfl (Nat.le_of_ble_eq_true rfl) (by decide) (by decide) dX9_next_98 hK ?_
          rintro _ _ ⟨r4, T4, rfl, rfl, hq⟩
          replace hyp := hyp r4 T4 hq
          refine ax_if_eq hX dX9_next_101 (tgt := 108) (by decide) (fun c => ?_) (fun c => ?_)
          · replace hyp := hyp.1 c
            refine ax_iconst hX dX9_next_108 (v := 1) (by decide) ?_
            refine tx_putI hX fRX9_36 ly_4 fk_9_2 (by decide) (Nat.lt_of_lt_of_le (by decide) hsz) rfl rfl dX9_next_109 ?_
            refine ax_aload_n hX dX9_next_112 (Or.inr ⟨_, rfl⟩) rfl ?_
            refine ax_dup hX dX9_next_113 rfl ?_
            refine tx_getI hX fRX9_19 ly_4 fk_9_6 (by decide) (Nat.lt_of_lt_of_le (by decide) hsz) dX9_next_114 ?_
            refine ax_iconst hX dX9_next_117 (v := 1) (by decide) ?_
            refine ax_iadd hX dX9_next_118 ?_
            refine tx_putI hX fRX9_19 ly_4 fk_9_6 (by decide) (Nat.lt_of_lt_of_le (by decide) hsz) rfl rfl dX9_next_119 ?_
            exact hR.2.2.2 _ _ _ _ _ (by decide) (by decide) dX9_next_122 rfl ⟨_, rfl, rfl, hyp⟩
          · replace hyp := hyp.2 c
            refine ax_iload_n hX dX9_next_104 rfl ?_
            refine ax_goto hX dX9_next_105 (tgt := 109) (by decide) ?_
            refine tx_putI hX fRX9_36 ly_4 fk_9_2 (by decide) (Nat.lt_of_lt_of_le (by decide) hsz) rfl rfl dX9_next_109 ?_
            refine ax_aload_n hX dX9_next_112 (Or.inr ⟨_, rfl⟩) rfl ?_
            refine ax_dup hX dX9_next_113 rfl ?_
            refine tx_getI hX fRX9_19 ly_4 fk_9_6 (by decide) (Nat.lt_of_lt_of_le (by decide) hsz) dX9_next_114 ?_
            refine ax_iconst hX dX9_next_117 (v := 1) (by decide) ?_
            refine ax_iadd hX dX9_next_118 ?_
            refine tx_putI hX fRX9_19 ly_4 fk_9_6 (by decide) (Nat.lt_of_lt_of_le (by decide) hsz) rfl rfl dX9_next_119 ?_
            exact hR.2.2.2 _ _ _ _ _ (by decide) (by decide) dX9_next_122 rfl ⟨_, rfl, rfl, hyp⟩
        · replace hyp := hyp.2 c
          refine ax_aload_n hX dX9_next_89 (Or.inr ⟨_, rfl⟩) rfl ?_
          obtain ⟨Q1, hK, hyp⟩ := hyp
          refine ax_callV hX lRX9_48 im_X9_readNumber sl_X9_readNumber cw_X9_readNumber ((th_at (by decide) (Nat.lt_of_lt_of_le (by decide) hsz)).trans (tc_ob ly_4)) rfl rfl (A := []) (st := []) rfl rfl (Nat.le_of_ble_eq_true rfl) (by decide) (by decide) dX9_next_90 hK ?_
          rintro _ _ ⟨T5, rfl, rfl, hq⟩
          replace hyp := hyp T5 hq
          refine ax_goto hX dX9_next_93 (tgt := 122) (by decide) ?_
          exact hR.2.2.2 _ _ _ _ _ (by decide) (by decide) dX9_next_122 rfl ⟨_, rfl, rfl, hyp⟩
      · replace hyp := hyp.2 c
        refine ax_aload_n hX dX9_next_75 (Or.inr ⟨_, rfl⟩) rfl ?_
        obtain ⟨Q1, hK, hyp⟩ := hyp
        refine ax_callV hX lRX9_42 im_X9_readWord sl_X9_readWord cw_X9_readWord ((th_at (by decide) (Nat.lt_of_lt_of_le (by decide) hsz)).trans (tc_ob ly_4)) rfl rfl (A := []) (st := []) rfl rfl (Nat.le_of_ble_eq_true rfl) (by decide) (by decide) dX9_next_76 hK ?_
        rintro _ _ ⟨T6, rfl, rfl, hq⟩
        replace hyp := hyp T6 hq
        refine ax_goto hX dX9_next_79 (tgt := 122) (by decide) ?_
        exact hR.2.2.2 _ _ _ _ _ (by decide) (by decide) dX9_next_122 rfl ⟨_, rfl, rfl, hyp⟩
    · replace hyp := hyp.2 c
      refine ax_aload_n hX dX9_next_60 (Or.inr ⟨_, rfl⟩) rfl ?_
      refine ax_iconst hX dX9_next_61 (v := 0) (by decide) ?_
      refine tx_putI hX fRX9_36 ly_4 fk_9_2 (by decide) (Nat.lt_of_lt_of_le (by decide) hsz) rfl rfl dX9_next_62 ?_
      refine ax_goto hX dX9_next_65 (tgt := 122) (by decide) ?_
      exact hR.2.2.2 _ _ _ _ _ (by decide) (by decide) dX9_next_122 rfl ⟨_, rfl, rfl, hyp⟩
  · replace hyp := hyp.2 c
    refine ax_aload_n hX dX9_next_11 (Or.inr ⟨_, rfl⟩) rfl ?_
    refine ax_aload_n hX dX9_next_12 (Or.inr ⟨_, rfl⟩) rfl ?_
    refine tx_getI hX fRX9_19 ly_4 fk_9_6 (by decide) (Nat.lt_of_lt_of_le (by decide) hsz) dX9_next_13 ?_
    obtain ⟨Q1, hK, hyp⟩ := hyp
    refine ax_callV hX lRX9_25 im_X9_byteAt sl_X9_byteAt cw_X9_byteAt ((th_at (by decide) (Nat.lt_of_lt_of_le (by decide) hsz)).trans (tc_ob ly_4)) rfl rfl (A := [.int (T.1 4 6)]) (st := []) rfl rfl (Nat.le_of_ble_eq_true rfl) (by decide) (by decide) dX9_next_16 hK ?_
    rintro _ _ ⟨r7, T7, rfl, rfl, hq⟩
    replace hyp := hyp r7 T7 hq
    obtain ⟨Q1, hK, hyp⟩ := hyp
    refine ax_callS hX lRX9_29 sm_X9_isBlank cw_X9_isBlank (A := [.int r7]) (st := []) rfl rfl (Nat.le_of_ble_eq_true rfl) (by decide) (by decide) dX9_next_19 hK ?_
    rintro _ _ ⟨r8, T8, rfl, rfl, hq⟩
    replace hyp := hyp r8 T8 hq
    refine ax_if_eq hX dX9_next_22 (tgt := 38) (by decide) (fun c => ?_) (fun c => ?_)
    · replace hyp := hyp.1 c
      refine ax_aload_n hX dX9_next_38 (Or.inr ⟨_, rfl⟩) rfl ?_
      refine ax_aload_n hX dX9_next_39 (Or.inr ⟨_, rfl⟩) rfl ?_
      refine tx_getI hX fRX9_19 ly_4 fk_9_6 (by decide) (Nat.lt_of_lt_of_le (by decide) hsz) dX9_next_40 ?_
      refine tx_putI hX fRX9_33 ly_4 fk_9_3 (by decide) (Nat.lt_of_lt_of_le (by decide) hsz) rfl rfl dX9_next_43 ?_
      refine ax_aload_n hX dX9_next_46 (Or.inr ⟨_, rfl⟩) rfl ?_
      refine ax_aload_n hX dX9_next_47 (Or.inr ⟨_, rfl⟩) rfl ?_
      refine tx_getI hX fRX9_19 ly_4 fk_9_6 (by decide) (Nat.lt_of_lt_of_le (by decide) hsz) dX9_next_48 ?_
      obtain ⟨Q1, hK, hyp⟩ := hyp
      refine ax_callV hX lRX9_25 im_X9_byteAt sl_X9_byteAt cw_X9_byteAt ((th_at (by decide) (Nat.lt_of_lt_of_le (by decide) hsz)).trans (tc_ob ly_4)) rfl rfl (A := [.int (T8.1 4 6)]) (st := []) rfl rfl (Nat.le_of_ble_eq_true rfl) (by decide) (by decide) dX9_next_51 hK ?_
      rintro _ _ ⟨r9, T9, rfl, rfl, hq⟩
      replace hyp := hyp r9 T9 hq
      refine ax_istore_n hX dX9_next_54 (by decide) (L' := [some (.ref 4), some (.int r9)]) rfl ?_
      refine ax_iload_n hX dX9_next_55 rfl ?_
      refine ax_iconst hX dX9_next_56 (v := -1) (by decide) ?_
      refine ax_icmp_ne hX dX9_next_57 (tgt := 68) (by decide) (fun c => ?_) (fun c => ?_)
      · replace hyp := hyp.1 c
        refine ax_iload_n hX dX9_next_68 rfl ?_
        obtain ⟨Q1, hK, hyp⟩ := hyp
        refine ax_callS hX lRX9_39 sm_X9_isLetter cw_X9_isLetter (A := [.int r9]) (st := []) rfl rfl (Nat.le_of_ble_eq_true rfl) (by decide) (by decide) dX9_next_69 hK ?_
        rintro _ _ ⟨r10, T10, rfl, rfl, hq⟩
        replace hyp := hyp r10 T10 hq
        refine ax_if_eq hX dX9_next_72 (tgt := 82) (by decide) (fun c => ?_) (fun c => ?_)
        · replace hyp := hyp.1 c
          refine ax_iload_n hX dX9_next_82 rfl ?_
          obtain ⟨Q1, hK, hyp⟩ := hyp
          refine ax_callS hX lRX9_45 sm_X9_isDigit cw_X9_isDigit (A := [.int r9]) (st := []) rfl rfl (Nat.le_of_ble_eq_true rfl) (by decide) (by decide) dX9_next_83 hK ?_
          rintro _ _ ⟨r11, T11, rfl, rfl, hq⟩
          replace hyp := hyp r11 T11 hq
          refine ax_if_eq hX dX9_next_86 (tgt := 96) (by decide) (fun c => ?_) (fun c => ?_)
          · replace hyp := hyp.1 c
            refine ax_aload_n hX dX9_next_96 (Or.inr ⟨_, rfl⟩) rfl ?_
            refine ax_iload_n hX dX9_next_97 rfl ?_
            obtain ⟨Q1, hK, hyp⟩ := hyp
            refine ax_callS hX lRX9_51 sm_X9_isSign cw_X9_isSign (A := [.int r9]) (st := [.ref 4]) rfl rfl (Nat.le_of_ble_eq_true rfl) (by decide) (by decide) dX9_next_98 hK ?_
            rintro _ _ ⟨r12, T12, rfl, rfl, hq⟩
            replace hyp := hyp r12 T12 hq
            refine ax_if_eq hX dX9_next_101 (tgt := 108) (by decide) (fun c => ?_) (fun c => ?_)
            · replace hyp := hyp.1 c
              refine ax_iconst hX dX9_next_108 (v := 1) (by decide) ?_
              refine tx_putI hX fRX9_36 ly_4 fk_9_2 (by decide) (Nat.lt_of_lt_of_le (by decide) hsz) rfl rfl dX9_next_109 ?_
              refine ax_aload_n hX dX9_next_112 (Or.inr ⟨_, rfl⟩) rfl ?_
              refine ax_dup hX dX9_next_113 rfl ?_
              refine tx_getI hX fRX9_19 ly_4 fk_9_6 (by decide) (Nat.lt_of_lt_of_le (by decide) hsz) dX9_next_114 ?_
              refine ax_iconst hX dX9_next_117 (v := 1) (by decide) ?_
              refine ax_iadd hX dX9_next_118 ?_
              refine tx_putI hX fRX9_19 ly_4 fk_9_6 (by decide) (Nat.lt_of_lt_of_le (by decide) hsz) rfl rfl dX9_next_119 ?_
              exact hR.2.2.2 _ _ _ _ _ (by decide) (by decide) dX9_next_122 rfl ⟨_, rfl, rfl, hyp⟩
            · replace hyp := hyp.2 c
              refine ax_iload_n hX dX9_next_104 rfl ?_
              refine ax_goto hX dX9_next_105 (tgt := 109) (by decide) ?_
              refine tx_putI hX fRX9_36 ly_4 fk_9_2 (by decide) (Nat.lt_of_lt_of_le (by decide) hsz) rfl rfl dX9_next_109 ?_
              refine ax_aload_n hX dX9_next_112 (Or.inr ⟨_, rfl⟩) rfl ?_
              refine ax_dup hX dX9_next_113 rfl ?_
              refine tx_getI hX fRX9_19 ly_4 fk_9_6 (by decide) (Nat.lt_of_lt_of_le (by decide) hsz) dX9_next_114 ?_
              refine ax_iconst hX dX9_next_117 (v := 1) (by decide) ?_
              refine ax_iadd hX dX9_next_118 ?_
              refine tx_putI hX fRX9_19 ly_4 fk_9_6 (by decide) (Nat.lt_of_lt_of_le (by decide) hsz) rfl rfl dX9_next_119 ?_
              exact hR.2.2.2 _ _ _ _ _ (by decide) (by decide) dX9_next_122 rfl ⟨_, rfl, rfl, hyp⟩
          · replace hyp := hyp.2 c
            refine ax_aload_n hX dX9_next_89 (Or.inr ⟨_, rfl⟩) rfl ?_
            obtain ⟨Q1, hK, hyp⟩ := hyp
            refine ax_callV hX lRX9_48 im_X9_readNumber sl_X9_readNumber cw_X9_readNumber ((th_at (by decide) (Nat.lt_of_lt_of_le (by decide) hsz)).trans (tc_ob ly_4)) rfl rfl (A := []) (st := []) rfl rfl (Nat.le_of_ble_eq_true rfl) (by decide) (by decide) dX9_next_90 hK ?_
            rintro _ _ ⟨T13, rfl, rfl, hq⟩
            replace hyp := hyp T13 hq
            refine ax_goto hX dX9_next_93 (tgt := 122) (by decide) ?_
            exact hR.2.2.2 _ _ _ _ _ (by decide) (by decide) dX9_next_122 rfl ⟨_, rfl, rfl, hyp⟩
        · replace hyp := hyp.2 c
          refine ax_aload_n hX dX9_next_75 (Or.inr ⟨_, rfl⟩) rfl ?_
          obtain ⟨Q1, hK, hyp⟩ := hyp
          refine ax_callV hX lRX9_42 im_X9_readWord sl_X9_readWord cw_X9_readWord ((th_at (by decide) (Nat.lt_of_lt_of_le (by decide) hsz)).trans (tc_ob ly_4)) rfl rfl (A := []) (st := []) rfl rfl (Nat.le_of_ble_eq_true rfl) (by decide) (by decide) dX9_next_76 hK ?_
          rintro _ _ ⟨T14, rfl, rfl, hq⟩
          replace hyp := hyp T14 hq
          refine ax_goto hX dX9_next_79 (tgt := 122) (by decide) ?_
          exact hR.2.2.2 _ _ _ _ _ (by decide) (by decide) dX9_next_122 rfl ⟨_, rfl, rfl, hyp⟩
      · replace hyp := hyp.2 c
        refine ax_aload_n hX dX9_next_60 (Or.inr ⟨_, rfl⟩) rfl ?_
        refine ax_iconst hX dX9_next_61 (v := 0) (by decide) ?_
        refine tx_putI hX fRX9_36 ly_4 fk_9_2 (by decide) (Nat.lt_of_lt_of_le (by decide) hsz) rfl rfl dX9_next_62 ?_
        refine ax_goto hX dX9_next_65 (tgt := 122) (by decide) ?_
        exact hR.2.2.2 _ _ _ _ _ (by decide) (by decide) dX9_next_122 rfl ⟨_, rfl, rfl, hyp⟩
    · replace hyp := hyp.2 c
      refine ax_aload_n hX dX9_next_25 (Or.inr ⟨_, rfl⟩) rfl ?_
      refine ax_dup hX dX9_next_26 rfl ?_
      refine tx_getI hX fRX9_19 ly_4 fk_9_6 (by decide) (Nat.lt_of_lt_of_le (by decide) hsz) dX9_next_27 ?_
      refine ax_iconst hX dX9_next_30 (v := 1) (by decide) ?_
      refine ax_iadd hX dX9_next_31 ?_
      refine tx_putI hX fRX9_19 ly_4 fk_9_6 (by decide) (Nat.lt_of_lt_of_le (by decide) hsz) rfl rfl dX9_next_32 ?_
      refine ax_goto hX dX9_next_35 (tgt := 0) (by decide) ?_
      exact ax_forget (L' := [some (.ref 4), none]) (⟨rfl, trivial⟩) hyp
set_option maxRecDepth 10000 in
theorem s_X9_next_0h {X : ax_X} {d L sz : Nat} {T : tT} {Q : tT → Prop} (hX : ax_ok X mX9_next (d + 1)) (hR : ax_Ret X mX9_next (tv L sz Q)) (hsz : 161 ≤ sz)  (hyp : (((T.1 4 1) ≤ (T.1 4 6) → ∃ Q1, tiK d mX9_byteAt [.ref 4, .int (T.1 4 6)] L sz (tI T 4 3 (T.1 4 6)) Q1 ∧ ∀ (r1 : Int32) (T1 : tT), Q1 r1 T1 → (((¬ r1 = (-1 : Int32) → ∃ Q1, tiK d mX9_isLetter [.int r1] L sz T1 Q1 ∧ ∀ (r2 : Int32) (T2 : tT), Q1 r2 T2 → (((r2 = 0 → ∃ Q1, tiK d mX9_isDigit [.int r1] L sz T2 Q1 ∧ ∀ (r3 : Int32) (T3 : tT), Q1 r3 T3 → (((r3 = 0 → ∃ Q1, tiK d mX9_isSign [.int r1] L sz T3 Q1 ∧ ∀ (r4 : Int32) (T4 : tT), Q1 r4 T4 → (((r4 = 0 → Q (tI (tI T4 4 2 (1 : Int32)) 4 6 ((T4.1 4 6) + (1 : Int32)))) ∧ (¬ r4 = 0 → Q (tI (tI T4 4 2 r1) 4 6 ((T4.1 4 6) + (1 : Int32))))))) ∧ (¬ r3 = 0 → ∃ Q1, tvK d mX9_readNumber [.ref 4] L sz T3 Q1 ∧ ∀ (T5 : tT), Q1 T5 → (Q T5))))) ∧ (¬ r2 = 0 → ∃ Q1, tvK d mX9_readWord [.ref 4] L sz T2 Q1 ∧ ∀ (T6 : tT), Q1 T6 → (Q T6))))) ∧ (r1 = (-1 : Int32) → Q (tI T1 4 2 (0 : Int32)))))) ∧ (¬ (T.1 4 1) ≤ (T.1 4 6) → ∃ Q1, tiK d mX9_byteAt [.ref 4, .int (T.1 4 6)] L sz T Q1 ∧ ∀ (r7 : Int32) (T7 : tT), Q1 r7 T7 → (∃ Q1, tiK d mX9_isBlank [.int r7] L sz T7 Q1 ∧ ∀ (r8 : Int32) (T8 : tT), Q1 r8 T8 → (((r8 = 0 → ∃ Q1, tiK d mX9_byteAt [.ref 4, .int (T8.1 4 6)] L sz (tI T8 4 3 (T8.1 4 6)) Q1 ∧ ∀ (r9 : Int32) (T9 : tT), Q1 r9 T9 → (((¬ r9 = (-1 : Int32) → ∃ Q1, tiK d mX9_isLetter [.int r9] L sz T9 Q1 ∧ ∀ (r10 : Int32) (T10 : tT), Q1 r10 T10 → (((r10 = 0 → ∃ Q1, tiK d mX9_isDigit [.int r9] L sz T10 Q1 ∧ ∀ (r11 : Int32) (T11 : tT), Q1 r11 T11 → (((r11 = 0 → ∃ Q1, tiK d mX9_isSign [.int r9] L sz T11 Q1 ∧ ∀ (r12 : Int32) (T12 : tT), Q1 r12 T12 → (((r12 = 0 → Q (tI (tI T12 4 2 (1 : Int32)) 4 6 ((T12.1 4 6) + (1 : Int32)))) ∧ (¬ r12 = 0 → Q (tI (tI T12 4 2 r9) 4 6 ((T12.1 4 6) + (1 : Int32))))))) ∧ (¬ r11 = 0 → ∃ Q1, tvK d mX9_readNumber [.ref 4] L sz T11 Q1 ∧ ∀ (T13 : tT), Q1 T13 → (Q T13))))) ∧ (¬ r10 = 0 → ∃ Q1, tvK d mX9_readWord [.ref 4] L sz T10 Q1 ∧ ∀ (T14 : tT), Q1 T14 → (Q T14))))) ∧ (r9 = (-1 : Int32) → Q (tI T9 4 2 (0 : Int32)))))) ∧ (¬ r8 = 0 → ax_j X 0 [some (.ref 4), none] [] (th L sz (tI T8 4 6 ((T8.1 4 6) + (1 : Int32)))) 0 0))))))) : ax_j X 0 [some (.ref 4), none] [] (th L sz T) 0 0 := by
  refine ax_aload_n hX dX9_next_0 (Or.inr ⟨_, rfl⟩) rfl ?_
  refine tx_getI hX fRX9_19 ly_4 fk_9_6 (by decide) (Nat.lt_of_lt_of_le (by decide) hsz) dX9_next_1 ?_
  refine ax_aload_n hX dX9_next_4 (Or.inr ⟨_, rfl⟩) rfl ?_
  refine tx_getI hX fRX9_15 ly_4 fk_9_1 (by decide) (Nat.lt_of_lt_of_le (by decide) hsz) dX9_next_5 ?_
  refine ax_icmp_ge hX dX9_next_8 (tgt := 38) (by decide) (fun c => ?_) (fun c => ?_)
  · replace hyp := hyp.1 c
    refine ax_aload_n hX dX9_next_38 (Or.inr ⟨_, rfl⟩) rfl ?_
    refine ax_aload_n hX dX9_next_39 (Or.inr ⟨_, rfl⟩) rfl ?_
    refine tx_getI hX fRX9_19 ly_4 fk_9_6 (by decide) (Nat.lt_of_lt_of_le (by decide) hsz) dX9_next_40 ?_
    refine tx_putI hX fRX9_33 ly_4 fk_9_3 (by decide) (Nat.lt_of_lt_of_le (by decide) hsz) rfl rfl dX9_next_43 ?_
    refine ax_aload_n hX dX9_next_46 (Or.inr ⟨_, rfl⟩) rfl ?_
    refine ax_aload_n hX dX9_next_47 (Or.inr ⟨_, rfl⟩) rfl ?_
    refine tx_getI hX fRX9_19 ly_4 fk_9_6 (by decide) (Nat.lt_of_lt_of_le (by decide) hsz) dX9_next_48 ?_
    obtain ⟨Q1, hK, hyp⟩ := hyp
    refine ax_callV hX lRX9_25 im_X9_byteAt sl_X9_byteAt cw_X9_byteAt ((th_at (by decide) (Nat.lt_of_lt_of_le (by decide) hsz)).trans (tc_ob ly_4)) rfl rfl (A := [.int (T.1 4 6)]) (st := []) rfl rfl (Nat.le_of_ble_eq_true rfl) (by decide) (by decide) dX9_next_51 hK ?_
    rintro _ _ ⟨r1, T1, rfl, rfl, hq⟩
    replace hyp := hyp r1 T1 hq
    refine ax_istore_n hX dX9_next_54 (by decide) (L' := [some (.ref 4), some (.int r1)]) rfl ?_
    refine ax_iload_n hX dX9_next_55 rfl ?_
    refine ax_iconst hX dX9_next_56 (v := -1) (by decide) ?_
    refine ax_icmp_ne hX dX9_next_57 (tgt := 68) (by decide) (fun c => ?_) (fun c => ?_)
    · replace hyp := hyp.1 c
      refine ax_iload_n hX dX9_next_68 rfl ?_
      obtain ⟨Q1, hK, hyp⟩ := hyp
      refine ax_callS hX lRX9_39 sm_X9_isLetter cw_X9_isLetter (A := [.int r1]) (st := []) rfl rfl (Nat.le_of_ble_eq_true rfl) (by decide) (by decide) dX9_next_69 hK ?_
      rintro _ _ ⟨r2, T2, rfl, rfl, hq⟩
      replace hyp := hyp r2 T2 hq
      refine ax_if_eq hX dX9_next_72 (tgt := 82) (by decide) (fun c => ?_) (fun c => ?_)
      · replace hyp := hyp.1 c
        refine ax_iload_n hX dX9_next_82 rfl ?_
        obtain ⟨Q1, hK, hyp⟩ := hyp
        refine ax_callS hX lRX9_45 sm_X9_isDigit cw_X9_isDigit (A := [.int r1]) (st := []) rfl rfl (Nat.le_of_ble_eq_true rfl) (by decide) (by decide) dX9_next_83 hK ?_
        rintro _ _ ⟨r3, T3, rfl, rfl, hq⟩
        replace hyp := hyp r3 T3 hq
        refine ax_if_eq hX dX9_next_86 (tgt := 96) (by decide) (fun c => ?_) (fun c => ?_)
        · replace hyp := hyp.1 c
          refine ax_aload_n hX dX9_next_96 (Or.inr ⟨_, rfl⟩) rfl ?_
          refine ax_iload_n hX dX9_next_97 rfl ?_
          obtain ⟨Q1, hK, hyp⟩ := hyp
          refine ax_callS hX lRX9_51 sm_X9_isSign cw_X9_isSign (A := [.int r1]) (st := [.ref 4]) rfl rfl (Nat.le_of_ble_eq_true rfl) (by decide) (by decide) dX9_next_98 hK ?_
          rintro _ _ ⟨r4, T4, rfl, rfl, hq⟩
          replace hyp := hyp r4 T4 hq
          refine ax_if_eq hX dX9_next_101 (tgt := 108) (by decide) (fun c => ?_) (fun c => ?_)
          · replace hyp := hyp.1 c
            refine ax_iconst hX dX9_next_108 (v := 1) (by decide) ?_
            refine tx_putI hX fRX9_36 ly_4 fk_9_2 (by decide) (Nat.lt_of_lt_of_le (by decide) hsz) rfl rfl dX9_next_109 ?_
            refine ax_aload_n hX dX9_next_112 (Or.inr ⟨_, rfl⟩) rfl ?_
            refine ax_dup hX dX9_next_113 rfl ?_
            refine tx_getI hX fRX9_19 ly_4 fk_9_6 (by decide) (Nat.lt_of_lt_of_le (by decide) hsz) dX9_next_114 ?_
            refine ax_iconst hX dX9_next_117 (v := 1) (by decide) ?_
            refine ax_iadd hX dX9_next_118 ?_
            refine tx_putI hX fRX9_19 ly_4 fk_9_6 (by decide) (Nat.lt_of_lt_of_le (by decide) hsz) rfl rfl dX9_next_119 ?_
            exact hR.2.2.2 _ _ _ _ _ (by decide) (by decide) dX9_next_122 rfl ⟨_, rfl, rfl, hyp⟩
          · replace hyp := hyp.2 c
            refine ax_iload_n hX dX9_next_104 rfl ?_
            refine ax_goto hX dX9_next_105 (tgt := 109) (by decide) ?_
            refine tx_putI hX fRX9_36 ly_4 fk_9_2 (by decide) (Nat.lt_of_lt_of_le (by decide) hsz) rfl rfl dX9_next_109 ?_
            refine ax_aload_n hX dX9_next_112 (Or.inr ⟨_, rfl⟩) rfl ?_
            refine ax_dup hX dX9_next_113 rfl ?_
            refine tx_getI hX fRX9_19 ly_4 fk_9_6 (by decide) (Nat.lt_of_lt_of_le (by decide) hsz) dX9_next_114 ?_
            refine ax_iconst hX dX9_next_117 (v := 1) (by decide) ?_
            refine ax_iadd hX dX9_next_118 ?_
            refine tx_putI hX fRX9_19 ly_4 fk_9_6 (by decide) (Nat.lt_of_lt_of_le (by decide) hsz) rfl rfl dX9_next_119 ?_
            exact hR.2.2.2 _ _ _ _ _ (by decide) (by decide) dX9_next_122 rfl ⟨_, rfl, rfl, hyp⟩
        · replace hyp := hyp.2 c
          refine ax_aload_n hX dX9_next_89 (Or.inr ⟨_, rfl⟩) rfl ?_
          obtain ⟨Q1, hK, hyp⟩ := hyp
          refine ax_callV hX lRX9_48 im_X9_readNumber sl_X9_readNumber cw_X9_readNumber ((th_at (by decide) (Nat.lt_of_lt_of_le (by decide) hsz)).trans (tc_ob ly_4)) rfl rfl (A := []) (st := []) rfl rfl (Nat.le_of_ble_eq_true rfl) (by decide) (by decide) dX9_next_90 hK ?_
          rintro _ _ ⟨T5, rfl, rfl, hq⟩
          replace hyp := hyp T5 hq
          refine ax_goto hX dX9_next_93 (tgt := 122) (by decide) ?_
          exact hR.2.2.2 _ _ _ _ _ (by decide) (by decide) dX9_next_122 rfl ⟨_, rfl, rfl, hyp⟩
      · replace hyp := hyp.2 c
        refine ax_aload_n hX dX9_next_75 (Or.inr ⟨_, rfl⟩) rfl ?_
        obtain ⟨Q1, hK, hyp⟩ := hyp
        refine ax_callV hX lRX9_42 im_X9_readWord sl_X9_readWord cw_X9_readWord ((th_at (by decide) (Nat.lt_of_lt_of_le (by decide) hsz)).trans (tc_ob ly_4)) rfl rfl (A := []) (st := []) rfl rfl (Nat.le_of_ble_eq_true rfl) (by decide) (by decide) dX9_next_76 hK ?_
        rintro _ _ ⟨T6, rfl, rfl, hq⟩
        replace hyp := hyp T6 hq
        refine ax_goto hX dX9_next_79 (tgt := 122) (by decide) ?_
        exact hR.2.2.2 _ _ _ _ _ (by decide) (by decide) dX9_next_122 rfl ⟨_, rfl, rfl, hyp⟩
    · replace hyp := hyp.2 c
      refine ax_aload_n hX dX9_next_60 (Or.inr ⟨_, rfl⟩) rfl ?_
      refine ax_iconst hX dX9_next_61 (v := 0) (by decide) ?_
      refine tx_putI hX fRX9_36 ly_4 fk_9_2 (by decide) (Nat.lt_of_lt_of_le (by decide) hsz) rfl rfl dX9_next_62 ?_
      refine ax_goto hX dX9_next_65 (tgt := 122) (by decide) ?_
      exact hR.2.2.2 _ _ _ _ _ (by decide) (by decide) dX9_next_122 rfl ⟨_, rfl, rfl, hyp⟩
  · replace hyp := hyp.2 c
    refine ax_aload_n hX dX9_next_11 (Or.inr ⟨_, rfl⟩) rfl ?_
    refine ax_aload_n hX dX9_next_12 (Or.inr ⟨_, rfl⟩) rfl ?_
    refine tx_getI hX fRX9_19 ly_4 fk_9_6 (by decide) (Nat.lt_of_lt_of_le (by decide) hsz) dX9_next_13 ?_
    obtain ⟨Q1, hK, hyp⟩ := hyp
    refine ax_callV hX lRX9_25 im_X9_byteAt sl_X9_byteAt cw_X9_byteAt ((th_at (by decide) (Nat.lt_of_lt_of_le (by decide) hsz)).trans (tc_ob ly_4)) rfl rfl (A := [.int (T.1 4 6)]) (st := []) rfl rfl (Nat.le_of_ble_eq_true rfl) (by decide) (by decide) dX9_next_16 hK ?_
    rintro _ _ ⟨r7, T7, rfl, rfl, hq⟩
    replace hyp := hyp r7 T7 hq
    obtain ⟨Q1, hK, hyp⟩ := hyp
    refine ax_callS hX lRX9_29 sm_X9_isBlank cw_X9_isBlank (A := [.int r7]) (st := []) rfl rfl (Nat.le_of_ble_eq_true rfl) (by decide) (by decide) dX9_next_19 hK ?_
    rintro _ _ ⟨r8, T8, rfl, rfl, hq⟩
    replace hyp := hyp r8 T8 hq
    refine ax_if_eq hX dX9_next_22 (tgt := 38) (by decide) (fun c => ?_) (fun c => ?_)
    · replace hyp := hyp.1 c
      refine ax_aload_n hX dX9_next_38 (Or.inr ⟨_, rfl⟩) rfl ?_
      refine ax_aload_n hX dX9_next_39 (Or.inr ⟨_, rfl⟩) rfl ?_
      refine tx_getI hX fRX9_19 ly_4 fk_9_6 (by decide) (Nat.lt_of_lt_of_le (by decide) hsz) dX9_next_40 ?_
      refine tx_putI hX fRX9_33 ly_4 fk_9_3 (by decide) (Nat.lt_of_lt_of_le (by decide) hsz) rfl rfl dX9_next_43 ?_
      refine ax_aload_n hX dX9_next_46 (Or.inr ⟨_, rfl⟩) rfl ?_
      refine ax_aload_n hX dX9_next_47 (Or.inr ⟨_, rfl⟩) rfl ?_
      refine tx_getI hX fRX9_19 ly_4 fk_9_6 (by decide) (Nat.lt_of_lt_of_le (by decide) hsz) dX9_next_48 ?_
      obtain ⟨Q1, hK, hyp⟩ := hyp
      refine ax_callV hX lRX9_25 im_X9_byteAt sl_X9_byteAt cw_X9_byteAt ((th_at (by decide) (Nat.lt_of_lt_of_le (by decide) hsz)).trans (tc_ob ly_4)) rfl rfl (A := [.int (T8.1 4 6)]) (st := []) rfl rfl (Nat.le_of_ble_eq_true rfl) (by decide) (by decide) dX9_next_51 hK ?_
      rintro _ _ ⟨r9, T9, rfl, rfl, hq⟩
      replace hyp := hyp r9 T9 hq
      refine ax_istore_n hX dX9_next_54 (by decide) (L' := [some (.ref 4), some (.int r9)]) rfl ?_
      refine ax_iload_n hX dX9_next_55 rfl ?_
      refine ax_iconst hX dX9_next_56 (v := -1) (by decide) ?_
      refine ax_icmp_ne hX dX9_next_57 (tgt := 68) (by decide) (fun c => ?_) (fun c => ?_)
      · replace hyp := hyp.1 c
        refine ax_iload_n hX dX9_next_68 rfl ?_
        obtain ⟨Q1, hK, hyp⟩ := hyp
        refine ax_callS hX lRX9_39 sm_X9_isLetter cw_X9_isLetter (A := [.int r9]) (st := []) rfl rfl (Nat.le_of_ble_eq_true rfl) (by decide) (by decide) dX9_next_69 hK ?_
        rintro _ _ ⟨r10, T10, rfl, rfl, hq⟩
        replace hyp := hyp r10 T10 hq
        refine ax_if_eq hX dX9_next_72 (tgt := 82) (by decide) (fun c => ?_) (fun c => ?_)
        · replace hyp := hyp.1 c
          refine ax_iload_n hX dX9_next_82 rfl ?_
          obtain ⟨Q1, hK, hyp⟩ := hyp
          refine ax_callS hX lRX9_45 sm_X9_isDigit cw_X9_isDigit (A := [.int r9]) (st := []) rfl rfl (Nat.le_of_ble_eq_true rfl) (by decide) (by decide) dX9_next_83 hK ?_
          rintro _ _ ⟨r11, T11, rfl, rfl, hq⟩
          replace hyp := hyp r11 T11 hq
          refine ax_if_eq hX dX9_next_86 (tgt := 96) (by decide) (fun c => ?_) (fun c => ?_)
          · replace hyp := hyp.1 c
            refine ax_aload_n hX dX9_next_96 (Or.inr ⟨_, rfl⟩) rfl ?_
            refine ax_iload_n hX dX9_next_97 rfl ?_
            obtain ⟨Q1, hK, hyp⟩ := hyp
            refine ax_callS hX lRX9_51 sm_X9_isSign cw_X9_isSign (A := [.int r9]) (st := [.ref 4]) rfl rfl (Nat.le_of_ble_eq_true rfl) (by decide) (by decide) dX9_next_98 hK ?_
            rintro _ _ ⟨r12, T12, rfl, rfl, hq⟩
            replace hyp := hyp r12 T12 hq
            refine ax_if_eq hX dX9_next_101 (tgt := 108) (by decide) (fun c => ?_) (fun c => ?_)
            · replace hyp := hyp.1 c
              refine ax_iconst hX dX9_next_108 (v := 1) (by decide) ?_
              refine tx_putI hX fRX9_36 ly_4 fk_9_2 (by decide) (Nat.lt_of_lt_of_le (by decide) hsz) rfl rfl dX9_next_109 ?_
              refine ax_aload_n hX dX9_next_112 (Or.inr ⟨_, rfl⟩) rfl ?_
              refine ax_dup hX dX9_next_113 rfl ?_
              refine tx_getI hX fRX9_19 ly_4 fk_9_6 (by decide) (Nat.lt_of_lt_of_le (by decide) hsz) dX9_next_114 ?_
              refine ax_iconst hX dX9_next_117 (v := 1) (by decide) ?_
              refine ax_iadd hX dX9_next_118 ?_
              refine tx_putI hX fRX9_19 ly_4 fk_9_6 (by decide) (Nat.lt_of_lt_of_le (by decide) hsz) rfl rfl dX9_next_119 ?_
              exact hR.2.2.2 _ _ _ _ _ (by decide) (by decide) dX9_next_122 rfl ⟨_, rfl, rfl, hyp⟩
            · replace hyp := hyp.2 c
              refine ax_iload_n hX dX9_next_104 rfl ?_
              refine ax_goto hX dX9_next_105 (tgt := 109) (by decide) ?_
              refine tx_putI hX fRX9_36 ly_4 fk_9_2 (by decide) (Nat.lt_of_lt_of_le (by decide) hsz) rfl rfl dX9_next_109 ?_
              refine ax_aload_n hX dX9_next_112 (Or.inr ⟨_, rfl⟩) rfl ?_
              refine ax_dup hX dX9_next_113 rfl ?_
              refine tx_getI hX fRX9_19 ly_4 fk_9_6 (by decide) (Nat.lt_of_lt_of_le (by decide) hsz) dX9_next_114 ?_
              refine ax_iconst hX dX9_next_117 (v := 1) (by decide) ?_
              refine ax_iadd hX dX9_next_118 ?_
              refine tx_putI hX fRX9_19 ly_4 fk_9_6 (by decide) (Nat.lt_of_lt_of_le (by decide) hsz) rfl rfl dX9_next_119 ?_
              exact hR.2.2.2 _ _ _ _ _ (by decide) (by decide) dX9_next_122 rfl ⟨_, rfl, rfl, hyp⟩
          · replace hyp := hyp.2 c
            refine ax_aload_n hX dX9_next_89 (Or.inr ⟨_, rfl⟩) rfl ?_
            obtain ⟨Q1, hK, hyp⟩ := hyp
            refine ax_callV hX lRX9_48 im_X9_readNumber sl_X9_readNumber cw_X9_readNumber ((th_at (by decide) (Nat.lt_of_lt_of_le (by decide) hsz)).trans (tc_ob ly_4)) rfl rfl (A := []) (st := []) rfl rfl (Nat.le_of_ble_eq_true rfl) (by decide) (by decide) dX9_next_90 hK ?_
            rintro _ _ ⟨T13, rfl, rfl, hq⟩
            replace hyp := hyp T13 hq
            refine ax_goto hX dX9_next_93 (tgt := 122) (by decide) ?_
            exact hR.2.2.2 _ _ _ _ _ (by decide) (by decide) dX9_next_122 rfl ⟨_, rfl, rfl, hyp⟩
        · replace hyp := hyp.2 c
          refine ax_aload_n hX dX9_next_75 (Or.inr ⟨_, rfl⟩) rfl ?_
          obtain ⟨Q1, hK, hyp⟩ := hyp
          refine ax_callV hX lRX9_42 im_X9_readWord sl_X9_readWord cw_X9_readWord ((th_at (by decide) (Nat.lt_of_lt_of_le (by decide) hsz)).trans (tc_ob ly_4)) rfl rfl (A := []) (st := []) rfl rfl (Nat.le_of_ble_eq_true rfl) (by decide) (by decide) dX9_next_76 hK ?_
          rintro _ _ ⟨T14, rfl, rfl, hq⟩
          replace hyp := hyp T14 hq
          refine ax_goto hX dX9_next_79 (tgt := 122) (by decide) ?_
          exact hR.2.2.2 _ _ _ _ _ (by decide) (by decide) dX9_next_122 rfl ⟨_, rfl, rfl, hyp⟩
      · replace hyp := hyp.2 c
        refine ax_aload_n hX dX9_next_60 (Or.inr ⟨_, rfl⟩) rfl ?_
        refine ax_iconst hX dX9_next_61 (v := 0) (by decide) ?_
        refine tx_putI hX fRX9_36 ly_4 fk_9_2 (by decide) (Nat.lt_of_lt_of_le (by decide) hsz) rfl rfl dX9_next_62 ?_
        refine ax_goto hX dX9_next_65 (tgt := 122) (by decide) ?_
        exact hR.2.2.2 _ _ _ _ _ (by decide) (by decide) dX9_next_122 rfl ⟨_, rfl, rfl, hyp⟩
    · replace hyp := hyp.2 c
      refine ax_aload_n hX dX9_next_25 (Or.inr ⟨_, rfl⟩) rfl ?_
      refine ax_dup hX dX9_next_26 rfl ?_
      refine tx_getI hX fRX9_19 ly_4 fk_9_6 (by decide) (Nat.lt_of_lt_of_le (by decide) hsz) dX9_next_27 ?_
      refine ax_iconst hX dX9_next_30 (v := 1) (by decide) ?_
      refine ax_iadd hX dX9_next_31 ?_
      refine tx_putI hX fRX9_19 ly_4 fk_9_6 (by decide) (Nat.lt_of_lt_of_le (by decide) hsz) rfl rfl dX9_next_32 ?_
      refine ax_goto hX dX9_next_35 (tgt := 0) (by decide) ?_
      exact ax_forget (L' := [some (.ref 4), none]) (⟨rfl, trivial⟩) hyp
set_option maxRecDepth 10000 in
theorem s_X9_readNumber_0 {X : ax_X} {d L sz : Nat} {T : tT} {Q : tT → Prop} (hX : ax_ok X mX9_readNumber (d + 1)) (hR : ax_Ret X mX9_readNumber (tv L sz Q)) (hsz : 161 ≤ sz)  (hyp : ax_j X 5 [some (.ref 4)] [] (th L sz (tI T 4 4 (0 : Int32))) 0 0) : ax_j X 0 [some (.ref 4)] [] (th L sz T) 0 0 := by
  refine ax_aload_n hX dX9_readNumber_0 (Or.inr ⟨_, rfl⟩) rfl ?_
  refine ax_iconst hX dX9_readNumber_1 (v := 0) (by decide) ?_
  refine tx_putI hX fRX9_65 ly_4 fk_9_4 (by decide) (Nat.lt_of_lt_of_le (by decide) hsz) rfl rfl dX9_readNumber_2 ?_
  exact ax_forget (L' := [some (.ref 4)]) (⟨rfl, trivial⟩) hyp
set_option maxRecDepth 10000 in
theorem s_X9_readNumber_5 {X : ax_X} {d L sz : Nat} {T : tT} {Q : tT → Prop} (hX : ax_ok X mX9_readNumber (d + 1)) (hR : ax_Ret X mX9_readNumber (tv L sz Q)) (hsz : 161 ≤ sz)  (hyp : (((T.1 4 1) ≤ (T.1 4 6) → (((6 : Int32) < ((T.1 4 6) - (T.1 4 3)) → Q (tI T 4 2 (1 : Int32))) ∧ (¬ (6 : Int32) < ((T.1 4 6) - (T.1 4 3)) → ∃ Q1, tiK d mX9_byteAt [.ref 4, .int (T.1 4 6)] L sz T Q1 ∧ ∀ (r1 : Int32) (T1 : tT), Q1 r1 T1 → (∃ Q1, tiK d mX9_isLetter [.int r1] L sz T1 Q1 ∧ ∀ (r2 : Int32) (T2 : tT), Q1 r2 T2 → (((r2 = 0 → Q (tI T2 4 2 (2 : Int32))) ∧ (¬ r2 = 0 → Q (tI T2 4 2 (1 : Int32))))))))) ∧ (¬ (T.1 4 1) ≤ (T.1 4 6) → ∃ Q1, tiK d mX9_byteAt [.ref 4, .int (T.1 4 6)] L sz T Q1 ∧ ∀ (r3 : Int32) (T3 : tT), Q1 r3 T3 → (∃ Q1, tiK d mX9_isDigit [.int r3] L sz T3 Q1 ∧ ∀ (r4 : Int32) (T4 : tT), Q1 r4 T4 → (((r4 = 0 → (((6 : Int32) < ((T4.1 4 6) - (T4.1 4 3)) → Q (tI T4 4 2 (1 : Int32))) ∧ (¬ (6 : Int32) < ((T4.1 4 6) - (T4.1 4 3)) → ∃ Q1, tiK d mX9_byteAt [.ref 4, .int (T4.1 4 6)] L sz T4 Q1 ∧ ∀ (r5 : Int32) (T5 : tT), Q1 r5 T5 → (∃ Q1, tiK d mX9_isLetter [.int r5] L sz T5 Q1 ∧ ∀ (r6 : Int32) (T6 : tT), Q1 r6 T6 → (((r6 = 0 → Q (tI T6 4 2 (2 : Int32))) ∧ (¬ r6 = 0 → Q (tI T6 4 2 (1 : Int32))))))))) ∧ (¬ r4 = 0 → ∃ Q1, tiK d mX9_byteAt [.ref 4, .int (T4.1 4 6)] L sz T4 Q1 ∧ ∀ (r7 : Int32) (T7 : tT), Q1 r7 T7 → (ax_j X 5 [some (.ref 4)] [] (th L sz (tI (tI T7 4 4 ((((T4.1 4 4) * (10 : Int32)) + r7) - (48 : Int32))) 4 6 ((T7.1 4 6) + (1 : Int32)))) 0 0)))))))) : ax_j X 5 [some (.ref 4)] [] (th L sz T) 0 0 := by
  refine ax_aload_n hX dX9_readNumber_5 (Or.inr ⟨_, rfl⟩) rfl ?_
  refine tx_getI hX fRX9_19 ly_4 fk_9_6 (by decide) (Nat.lt_of_lt_of_le (by decide) hsz) dX9_readNumber_6 ?_
  refine ax_aload_n hX dX9_readNumber_9 (Or.inr ⟨_, rfl⟩) rfl ?_
  refine tx_getI hX fRX9_15 ly_4 fk_9_1 (by decide) (Nat.lt_of_lt_of_le (by decide) hsz) dX9_readNumber_10 ?_
  refine ax_icmp_ge hX dX9_readNumber_13 (tgt := 66) (by decide) (fun c => ?_) (fun c => ?_)
  · replace hyp := hyp.1 c
    refine ax_aload_n hX dX9_readNumber_66 (Or.inr ⟨_, rfl⟩) rfl ?_
    refine ax_aload_n hX dX9_readNumber_67 (Or.inr ⟨_, rfl⟩) rfl ?_
    refine tx_getI hX fRX9_19 ly_4 fk_9_6 (by decide) (Nat.lt_of_lt_of_le (by decide) hsz) dX9_readNumber_68 ?_
    refine ax_aload_n hX dX9_readNumber_71 (Or.inr ⟨_, rfl⟩) rfl ?_
    refine tx_getI hX fRX9_33 ly_4 fk_9_3 (by decide) (Nat.lt_of_lt_of_le (by decide) hsz) dX9_readNumber_72 ?_
    refine ax_isub hX dX9_readNumber_75 ?_
    refine ax_bipush hX dX9_readNumber_76 (v := 6) (by decide) ?_
    refine ax_icmp_gt hX dX9_readNumber_78 (tgt := 95) (by decide) (fun c => ?_) (fun c => ?_)
    · replace hyp := hyp.1 c
      refine ax_iconst hX dX9_readNumber_95 (v := 1) (by decide) ?_
      refine ax_goto hX dX9_readNumber_96 (tgt := 100) (by decide) ?_
      refine tx_putI hX fRX9_36 ly_4 fk_9_2 (by decide) (Nat.lt_of_lt_of_le (by decide) hsz) rfl rfl dX9_readNumber_100 ?_
      exact hR.2.2.2 _ _ _ _ _ (by decide) (by decide) dX9_readNumber_103 rfl ⟨_, rfl, rfl, hyp⟩
    · replace hyp := hyp.2 c
      refine ax_aload_n hX dX9_readNumber_81 (Or.inr ⟨_, rfl⟩) rfl ?_
      refine ax_aload_n hX dX9_readNumber_82 (Or.inr ⟨_, rfl⟩) rfl ?_
      refine tx_getI hX fRX9_19 ly_4 fk_9_6 (by decide) (Nat.lt_of_lt_of_le (by decide) hsz) dX9_readNumber_83 ?_
      obtain ⟨Q1, hK, hyp⟩ := hyp
      refine ax_callV hX lRX9_25 im_X9_byteAt sl_X9_byteAt cw_X9_byteAt ((th_at (by decide) (Nat.lt_of_lt_of_le (by decide) hsz)).trans (tc_ob ly_4)) rfl rfl (A := [.int (T.1 4 6)]) (st := [.ref 4]) rfl rfl (Nat.le_of_ble_eq_true rfl) (by decide) (by decide) dX9_readNumber_86 hK ?_
      rintro _ _ ⟨r1, T1, rfl, rfl, hq⟩
      replace hyp := hyp r1 T1 hq
      obtain ⟨Q1, hK, hyp⟩ := hyp
      refine ax_callS hX lRX9_39 sm_X9_isLetter cw_X9_isLetter (A := [.int r1]) (st := [.ref 4]) rfl rfl (Nat.le_of_ble_eq_true rfl) (by decide) (by decide) dX9_readNumber_89 hK ?_
      rintro _ _ ⟨r2, T2, rfl, rfl, hq⟩
      replace hyp := hyp r2 T2 hq
      refine ax_if_eq hX dX9_readNumber_92 (tgt := 99) (by decide) (fun c => ?_) (fun c => ?_)
      · replace hyp := hyp.1 c
        refine ax_iconst hX dX9_readNumber_99 (v := 2) (by decide) ?_
        refine tx_putI hX fRX9_36 ly_4 fk_9_2 (by decide) (Nat.lt_of_lt_of_le (by decide) hsz) rfl rfl dX9_readNumber_100 ?_
        exact hR.2.2.2 _ _ _ _ _ (by decide) (by decide) dX9_readNumber_103 rfl ⟨_, rfl, rfl, hyp⟩
      · replace hyp := hyp.2 c
        refine ax_iconst hX dX9_readNumber_95 (v := 1) (by decide) ?_
        refine ax_goto hX dX9_readNumber_96 (tgt := 100) (by decide) ?_
        refine tx_putI hX fRX9_36 ly_4 fk_9_2 (by decide) (Nat.lt_of_lt_of_le (by decide) hsz) rfl rfl dX9_readNumber_100 ?_
        exact hR.2.2.2 _ _ _ _ _ (by decide) (by decide) dX9_readNumber_103 rfl ⟨_, rfl, rfl, hyp⟩
  · replace hyp := hyp.2 c
    refine ax_aload_n hX dX9_readNumber_16 (Or.inr ⟨_, rfl⟩) rfl ?_
    refine ax_aload_n hX dX9_readNumber_17 (Or.inr ⟨_, rfl⟩) rfl ?_
    refine tx_getI hX fRX9_19 ly_4 fk_9_6 (by decide) (Nat.lt_of_lt_of_le (by decide) hsz) dX9_readNumber_18 ?_
    obtain ⟨Q1, hK, hyp⟩ := hyp
    refine ax_callV hX lRX9_25 im_X9_byteAt sl_X9_byteAt cw_X9_byteAt ((th_at (by decide) (Nat.lt_of_lt_of_le (by decide) hsz)).trans (tc_ob ly_4)) rfl rfl (A := [.int (T.1 4 6)]) (st := []) rfl rfl (Nat.le_of_ble_eq_true rfl) (by decide) (by decide) dX9_readNumber_21 hK ?_
    rintro _ _ ⟨r3, T3, rfl, rfl, hq⟩
    replace hyp := hyp r3 T3 hq
    obtain ⟨Q1, hK, hyp⟩ := hyp
    refine ax_callS hX lRX9_45 sm_X9_isDigit cw_X9_isDigit (A := [.int r3]) (st := []) rfl rfl (Nat.le_of_ble_eq_true rfl) (by decide) (by decide) dX9_readNumber_24 hK ?_
    rintro _ _ ⟨r4, T4, rfl, rfl, hq⟩
    replace hyp := hyp r4 T4 hq
    refine ax_if_eq hX dX9_readNumber_27 (tgt := 66) (by decide) (fun c => ?_) (fun c => ?_)
    · replace hyp := hyp.1 c
      refine ax_aload_n hX dX9_readNumber_66 (Or.inr ⟨_, rfl⟩) rfl ?_
      refine ax_aload_n hX dX9_readNumber_67 (Or.inr ⟨_, rfl⟩) rfl ?_
      refine tx_getI hX fRX9_19 ly_4 fk_9_6 (by decide) (Nat.lt_of_lt_of_le (by decide) hsz) dX9_readNumber_68 ?_
      refine ax_aload_n hX dX9_readNumber_71 (Or.inr ⟨_, rfl⟩) rfl ?_
      refine tx_getI hX fRX9_33 ly_4 fk_9_3 (by decide) (Nat.lt_of_lt_of_le (by decide) hsz) dX9_readNumber_72 ?_
      refine ax_isub hX dX9_readNumber_75 ?_
      refine ax_bipush hX dX9_readNumber_76 (v := 6) (by decide) ?_
      refine ax_icmp_gt hX dX9_readNumber_78 (tgt := 95) (by decide) (fun c => ?_) (fun c => ?_)
      · replace hyp := hyp.1 c
        refine ax_iconst hX dX9_readNumber_95 (v := 1) (by decide) ?_
        refine ax_goto hX dX9_readNumber_96 (tgt := 100) (by decide) ?_
        refine tx_putI hX fRX9_36 ly_4 fk_9_2 (by decide) (Nat.lt_of_lt_of_le (by decide) hsz) rfl rfl dX9_readNumber_100 ?_
        exact hR.2.2.2 _ _ _ _ _ (by decide) (by decide) dX9_readNumber_103 rfl ⟨_, rfl, rfl, hyp⟩
      · replace hyp := hyp.2 c
        refine ax_aload_n hX dX9_readNumber_81 (Or.inr ⟨_, rfl⟩) rfl ?_
        refine ax_aload_n hX dX9_readNumber_82 (Or.inr ⟨_, rfl⟩) rfl ?_
        refine tx_getI hX fRX9_19 ly_4 fk_9_6 (by decide) (Nat.lt_of_lt_of_le (by decide) hsz) dX9_readNumber_83 ?_
        obtain ⟨Q1, hK, hyp⟩ := hyp
        refine ax_callV hX lRX9_25 im_X9_byteAt sl_X9_byteAt cw_X9_byteAt ((th_at (by decide) (Nat.lt_of_lt_of_le (by decide) hsz)).trans (tc_ob ly_4)) rfl rfl (A := [.int (T4.1 4 6)]) (st := [.ref 4]) rfl rfl (Nat.le_of_ble_eq_true rfl) (by decide) (by decide) dX9_readNumber_86 hK ?_
        rintro _ _ ⟨r5, T5, rfl, rfl, hq⟩
        replace hyp := hyp r5 T5 hq
        obtain ⟨Q1, hK, hyp⟩ := hyp
        refine ax_callS hX lRX9_39 sm_X9_isLetter cw_X9_isLetter (A := [.int r5]) (st := [.ref 4]) rfl rfl (Nat.le_of_ble_eq_true rfl) (by decide) (by decide) dX9_readNumber_89 hK ?_
        rintro _ _ ⟨r6, T6, rfl, rfl, hq⟩
        replace hyp := hyp r6 T6 hq
        refine ax_if_eq hX dX9_readNumber_92 (tgt := 99) (by decide) (fun c => ?_) (fun c => ?_)
        · replace hyp := hyp.1 c
          refine ax_iconst hX dX9_readNumber_99 (v := 2) (by decide) ?_
          refine tx_putI hX fRX9_36 ly_4 fk_9_2 (by decide) (Nat.lt_of_lt_of_le (by decide) hsz) rfl rfl dX9_readNumber_100 ?_
          exact hR.2.2.2 _ _ _ _ _ (by decide) (by decide) dX9_readNumber_103 rfl ⟨_, rfl, rfl, hyp⟩
        · replace hyp := hyp.2 c
          refine ax_iconst hX dX9_readNumber_95 (v := 1) (by decide) ?_
          refine ax_goto hX dX9_readNumber_96 (tgt := 100) (by decide) ?_
          refine tx_putI hX fRX9_36 ly_4 fk_9_2 (by decide) (Nat.lt_of_lt_of_le (by decide) hsz) rfl rfl dX9_readNumber_100 ?_
          exact hR.2.2.2 _ _ _ _ _ (by decide) (by decide) dX9_readNumber_103 rfl ⟨_, rfl, rfl, hyp⟩
    · replace hyp := hyp.2 c
      refine ax_aload_n hX dX9_readNumber_30 (Or.inr ⟨_, rfl⟩) rfl ?_
      refine ax_aload_n hX dX9_readNumber_31 (Or.inr ⟨_, rfl⟩) rfl ?_
      refine tx_getI hX fRX9_65 ly_4 fk_9_4 (by decide) (Nat.lt_of_lt_of_le (by decide) hsz) dX9_readNumber_32 ?_
      refine ax_bipush hX dX9_readNumber_35 (v := 10) (by decide) ?_
      refine ax_imul hX dX9_readNumber_37 ?_
      refine ax_aload_n hX dX9_readNumber_38 (Or.inr ⟨_, rfl⟩) rfl ?_
      refine ax_aload_n hX dX9_readNumber_39 (Or.inr ⟨_, rfl⟩) rfl ?_
      refine tx_getI hX fRX9_19 ly_4 fk_9_6 (by decide) (Nat.lt_of_lt_of_le (by decide) hsz) dX9_readNumber_40 ?_
      obtain ⟨Q1, hK, hyp⟩ := hyp
      refine ax_callV hX lRX9_25 im_X9_byteAt sl_X9_byteAt cw_X9_byteAt ((th_at (by decide) (Nat.lt_of_lt_of_le (by decide) hsz)).trans (tc_ob ly_4)) rfl rfl (A := [.int (T4.1 4 6)]) (st := [.int ((T4.1 4 4) * (10 : Int32)), .ref 4]) rfl rfl (Nat.le_of_ble_eq_true rfl) (by decide) (by decide) dX9_readNumber_43 hK ?_
      rintro _ _ ⟨r7, T7, rfl, rfl, hq⟩
      replace hyp := hyp r7 T7 hq
      refine ax_iadd hX dX9_readNumber_46 ?_
      refine ax_bipush hX dX9_readNumber_47 (v := 48) (by decide) ?_
      refine ax_isub hX dX9_readNumber_49 ?_
      refine tx_putI hX fRX9_65 ly_4 fk_9_4 (by decide) (Nat.lt_of_lt_of_le (by decide) hsz) rfl rfl dX9_readNumber_50 ?_
      refine ax_aload_n hX dX9_readNumber_53 (Or.inr ⟨_, rfl⟩) rfl ?_
      refine ax_dup hX dX9_readNumber_54 rfl ?_
      refine tx_getI hX fRX9_19 ly_4 fk_9_6 (by decide) (Nat.lt_of_lt_of_le (by decide) hsz) dX9_readNumber_55 ?_
      refine ax_iconst hX dX9_readNumber_58 (v := 1) (by decide) ?_
      refine ax_iadd hX dX9_readNumber_59 ?_
      refine tx_putI hX fRX9_19 ly_4 fk_9_6 (by decide) (Nat.lt_of_lt_of_le (by decide) hsz) rfl rfl dX9_readNumber_60 ?_
      refine ax_goto hX dX9_readNumber_63 (tgt := 5) (by decide) ?_
      exact ax_forget (L' := [some (.ref 4)]) (⟨rfl, trivial⟩) hyp
set_option maxRecDepth 10000 in
theorem s_X9_readWord_0 {X : ax_X} {d L sz : Nat} {T : tT} {Q : tT → Prop} (hX : ax_ok X mX9_readWord (d + 1)) (hR : ax_Ret X mX9_readWord (tv L sz Q)) (hsz : 161 ≤ sz)  (hyp : ax_j X 5 [some (.ref 4)] [] (th L sz (tJ T 4 5 (0 : Int64))) 0 0) : ax_j X 0 [some (.ref 4)] [] (th L sz T) 0 0 := by
  refine ax_aload_n hX dX9_readWord_0 (Or.inr ⟨_, rfl⟩) rfl ?_
  refine ax_lconst hX dX9_readWord_1 (v := 0) (by decide) ?_
  refine tx_putJ hX fRX9_54 ly_4 fk_9_5 (by decide) (Nat.lt_of_lt_of_le (by decide) hsz) dX9_readWord_2 ?_
  exact ax_forget (L' := [some (.ref 4)]) (⟨rfl, trivial⟩) hyp
set_option maxRecDepth 10000 in
theorem s_X9_readWord_5 {X : ax_X} {d L sz : Nat} {T : tT} {Q : tT → Prop} (hX : ax_ok X mX9_readWord (d + 1)) (hR : ax_Ret X mX9_readWord (tv L sz Q)) (hsz : 161 ≤ sz)  (hyp : (((T.1 4 1) ≤ (T.1 4 6) → ((((T.1 4 6) - (T.1 4 3)) ≤ (8 : Int32) → ∃ Q1, tiK d mX9_kindOf [.long (T.2.1 4 5)] L sz T Q1 ∧ ∀ (r1 : Int32) (T1 : tT), Q1 r1 T1 → (Q (tI T1 4 2 r1))) ∧ (¬ ((T.1 4 6) - (T.1 4 3)) ≤ (8 : Int32) → Q (tI T 4 2 (1 : Int32))))) ∧ (¬ (T.1 4 1) ≤ (T.1 4 6) → ∃ Q1, tiK d mX9_byteAt [.ref 4, .int (T.1 4 6)] L sz T Q1 ∧ ∀ (r2 : Int32) (T2 : tT), Q1 r2 T2 → (∃ Q1, tiK d mX9_isLetterOrDigit [.int r2] L sz T2 Q1 ∧ ∀ (r3 : Int32) (T3 : tT), Q1 r3 T3 → (((r3 = 0 → ((((T3.1 4 6) - (T3.1 4 3)) ≤ (8 : Int32) → ∃ Q1, tiK d mX9_kindOf [.long (T3.2.1 4 5)] L sz T3 Q1 ∧ ∀ (r4 : Int32) (T4 : tT), Q1 r4 T4 → (Q (tI T4 4 2 r4))) ∧ (¬ ((T3.1 4 6) - (T3.1 4 3)) ≤ (8 : Int32) → Q (tI T3 4 2 (1 : Int32))))) ∧ (¬ r3 = 0 → ∃ Q1, tiK d mX9_byteAt [.ref 4, .int (T3.1 4 6)] L sz T3 Q1 ∧ ∀ (r5 : Int32) (T5 : tT), Q1 r5 T5 → (ax_j X 5 [some (.ref 4)] [] (th L sz (tI (tJ T5 4 5 (((T3.2.1 4 5) <<< ((8 : Int32).toInt64 &&& 63)) ||| r5.toInt64)) 4 6 ((T5.1 4 6) + (1 : Int32)))) 0 0)))))))) : ax_j X 5 [some (.ref 4)] [] (th L sz T) 0 0 := by
  refine ax_aload_n hX dX9_readWord_5 (Or.inr ⟨_, rfl⟩) rfl ?_
  refine tx_getI hX fRX9_19 ly_4 fk_9_6 (by decide) (Nat.lt_of_lt_of_le (by decide) hsz) dX9_readWord_6 ?_
  refine ax_aload_n hX dX9_readWord_9 (Or.inr ⟨_, rfl⟩) rfl ?_
  refine tx_getI hX fRX9_15 ly_4 fk_9_1 (by decide) (Nat.lt_of_lt_of_le (by decide) hsz) dX9_readWord_10 ?_
  refine ax_icmp_ge hX dX9_readWord_13 (tgt := 64) (by decide) (fun c => ?_) (fun c => ?_)
  · replace hyp := hyp.1 c
    refine ax_aload_n hX dX9_readWord_64 (Or.inr ⟨_, rfl⟩) rfl ?_
    refine ax_aload_n hX dX9_readWord_65 (Or.inr ⟨_, rfl⟩) rfl ?_
    refine tx_getI hX fRX9_19 ly_4 fk_9_6 (by decide) (Nat.lt_of_lt_of_le (by decide) hsz) dX9_readWord_66 ?_
    refine ax_aload_n hX dX9_readWord_69 (Or.inr ⟨_, rfl⟩) rfl ?_
    refine tx_getI hX fRX9_33 ly_4 fk_9_3 (by decide) (Nat.lt_of_lt_of_le (by decide) hsz) dX9_readWord_70 ?_
    refine ax_isub hX dX9_readWord_73 ?_
    refine ax_bipush hX dX9_readWord_74 (v := 8) (by decide) ?_
    refine ax_icmp_le hX dX9_readWord_76 (tgt := 83) (by decide) (fun c => ?_) (fun c => ?_)
    · replace hyp := hyp.1 c
      refine ax_aload_n hX dX9_readWord_83 (Or.inr ⟨_, rfl⟩) rfl ?_
      refine tx_getJ hX fRX9_54 ly_4 fk_9_5 (by decide) (Nat.lt_of_lt_of_le (by decide) hsz) dX9_readWord_84 ?_
      obtain ⟨Q1, hK, hyp⟩ := hyp
      refine ax_callS hX lRX9_61 sm_X9_kindOf cw_X9_kindOf (A := [.long (T.2.1 4 5)]) (st := [.ref 4]) rfl rfl (Nat.le_of_ble_eq_true rfl) (by decide) (by decide) dX9_readWord_87 hK ?_
      rintro _ _ ⟨r1, T1, rfl, rfl, hq⟩
      replace hyp := hyp r1 T1 hq
      refine tx_putI hX fRX9_36 ly_4 fk_9_2 (by decide) (Nat.lt_of_lt_of_le (by decide) hsz) rfl rfl dX9_readWord_90 ?_
      exact hR.2.2.2 _ _ _ _ _ (by decide) (by decide) dX9_readWord_93 rfl ⟨_, rfl, rfl, hyp⟩
    · replace hyp := hyp.2 c
      refine ax_iconst hX dX9_readWord_79 (v := 1) (by decide) ?_
      refine ax_goto hX dX9_readWord_80 (tgt := 90) (by decide) ?_
      refine tx_putI hX fRX9_36 ly_4 fk_9_2 (by decide) (Nat.lt_of_lt_of_le (by decide) hsz) rfl rfl dX9_readWord_90 ?_
      exact hR.2.2.2 _ _ _ _ _ (by decide) (by decide) dX9_readWord_93 rfl ⟨_, rfl, rfl, hyp⟩
  · replace hyp := hyp.2 c
    refine ax_aload_n hX dX9_readWord_16 (Or.inr ⟨_, rfl⟩) rfl ?_
    refine ax_aload_n hX dX9_readWord_17 (Or.inr ⟨_, rfl⟩) rfl ?_
    refine tx_getI hX fRX9_19 ly_4 fk_9_6 (by decide) (Nat.lt_of_lt_of_le (by decide) hsz) dX9_readWord_18 ?_
    obtain ⟨Q1, hK, hyp⟩ := hyp
    refine ax_callV hX lRX9_25 im_X9_byteAt sl_X9_byteAt cw_X9_byteAt ((th_at (by decide) (Nat.lt_of_lt_of_le (by decide) hsz)).trans (tc_ob ly_4)) rfl rfl (A := [.int (T.1 4 6)]) (st := []) rfl rfl (Nat.le_of_ble_eq_true rfl) (by decide) (by decide) dX9_readWord_21 hK ?_
    rintro _ _ ⟨r2, T2, rfl, rfl, hq⟩
    replace hyp := hyp r2 T2 hq
    obtain ⟨Q1, hK, hyp⟩ := hyp
    refine ax_callS hX lRX9_58 sm_X9_isLetterOrDigit cw_X9_isLetterOrDigit (A := [.int r2]) (st := []) rfl rfl (Nat.le_of_ble_eq_true rfl) (by decide) (by decide) dX9_readWord_24 hK ?_
    rintro _ _ ⟨r3, T3, rfl, rfl, hq⟩
    replace hyp := hyp r3 T3 hq
    refine ax_if_eq hX dX9_readWord_27 (tgt := 64) (by decide) (fun c => ?_) (fun c => ?_)
    · replace hyp := hyp.1 c
      refine ax_aload_n hX dX9_readWord_64 (Or.inr ⟨_, rfl⟩) rfl ?_
      refine ax_aload_n hX dX9_readWord_65 (Or.inr ⟨_, rfl⟩) rfl ?_
      refine tx_getI hX fRX9_19 ly_4 fk_9_6 (by decide) (Nat.lt_of_lt_of_le (by decide) hsz) dX9_readWord_66 ?_
      refine ax_aload_n hX dX9_readWord_69 (Or.inr ⟨_, rfl⟩) rfl ?_
      refine tx_getI hX fRX9_33 ly_4 fk_9_3 (by decide) (Nat.lt_of_lt_of_le (by decide) hsz) dX9_readWord_70 ?_
      refine ax_isub hX dX9_readWord_73 ?_
      refine ax_bipush hX dX9_readWord_74 (v := 8) (by decide) ?_
      refine ax_icmp_le hX dX9_readWord_76 (tgt := 83) (by decide) (fun c => ?_) (fun c => ?_)
      · replace hyp := hyp.1 c
        refine ax_aload_n hX dX9_readWord_83 (Or.inr ⟨_, rfl⟩) rfl ?_
        refine tx_getJ hX fRX9_54 ly_4 fk_9_5 (by decide) (Nat.lt_of_lt_of_le (by decide) hsz) dX9_readWord_84 ?_
        obtain ⟨Q1, hK, hyp⟩ := hyp
        refine ax_callS hX lRX9_61 sm_X9_kindOf cw_X9_kindOf (A := [.long (T3.2.1 4 5)]) (st := [.ref 4]) rfl rfl (Nat.le_of_ble_eq_true rfl) (by decide) (by decide) dX9_readWord_87 hK ?_
        rintro _ _ ⟨r4, T4, rfl, rfl, hq⟩
        replace hyp := hyp r4 T4 hq
        refine tx_putI hX fRX9_36 ly_4 fk_9_2 (by decide) (Nat.lt_of_lt_of_le (by decide) hsz) rfl rfl dX9_readWord_90 ?_
        exact hR.2.2.2 _ _ _ _ _ (by decide) (by decide) dX9_readWord_93 rfl ⟨_, rfl, rfl, hyp⟩
      · replace hyp := hyp.2 c
        refine ax_iconst hX dX9_readWord_79 (v := 1) (by decide) ?_
        refine ax_goto hX dX9_readWord_80 (tgt := 90) (by decide) ?_
        refine tx_putI hX fRX9_36 ly_4 fk_9_2 (by decide) (Nat.lt_of_lt_of_le (by decide) hsz) rfl rfl dX9_readWord_90 ?_
        exact hR.2.2.2 _ _ _ _ _ (by decide) (by decide) dX9_readWord_93 rfl ⟨_, rfl, rfl, hyp⟩
    · replace hyp := hyp.2 c
      refine ax_aload_n hX dX9_readWord_30 (Or.inr ⟨_, rfl⟩) rfl ?_
      refine ax_aload_n hX dX9_readWord_31 (Or.inr ⟨_, rfl⟩) rfl ?_
      refine tx_getJ hX fRX9_54 ly_4 fk_9_5 (by decide) (Nat.lt_of_lt_of_le (by decide) hsz) dX9_readWord_32 ?_
      refine ax_bipush hX dX9_readWord_35 (v := 8) (by decide) ?_
      refine ax_lshl hX dX9_readWord_37 ?_
      refine ax_aload_n hX dX9_readWord_38 (Or.inr ⟨_, rfl⟩) rfl ?_
      refine ax_aload_n hX dX9_readWord_39 (Or.inr ⟨_, rfl⟩) rfl ?_
      refine tx_getI hX fRX9_19 ly_4 fk_9_6 (by decide) (Nat.lt_of_lt_of_le (by decide) hsz) dX9_readWord_40 ?_
      obtain ⟨Q1, hK, hyp⟩ := hyp
      refine ax_callV hX lRX9_25 im_X9_byteAt sl_X9_byteAt cw_X9_byteAt ((th_at (by decide) (Nat.lt_of_lt_of_le (by decide) hsz)).trans (tc_ob ly_4)) rfl rfl (A := [.int (T3.1 4 6)]) (st := [.long ((T3.2.1 4 5) <<< ((8 : Int32).toInt64 &&& 63)), .ref 4]) rfl rfl (Nat.le_of_ble_eq_true rfl) (by decide) (by decide) dX9_readWord_43 hK ?_
      rintro _ _ ⟨r5, T5, rfl, rfl, hq⟩
      replace hyp := hyp r5 T5 hq
      refine ax_i2l hX dX9_readWord_46 ?_
      refine ax_lor hX dX9_readWord_47 ?_
      refine tx_putJ hX fRX9_54 ly_4 fk_9_5 (by decide) (Nat.lt_of_lt_of_le (by decide) hsz) dX9_readWord_48 ?_
      refine ax_aload_n hX dX9_readWord_51 (Or.inr ⟨_, rfl⟩) rfl ?_
      refine ax_dup hX dX9_readWord_52 rfl ?_
      refine tx_getI hX fRX9_19 ly_4 fk_9_6 (by decide) (Nat.lt_of_lt_of_le (by decide) hsz) dX9_readWord_53 ?_
      refine ax_iconst hX dX9_readWord_56 (v := 1) (by decide) ?_
      refine ax_iadd hX dX9_readWord_57 ?_
      refine tx_putI hX fRX9_19 ly_4 fk_9_6 (by decide) (Nat.lt_of_lt_of_le (by decide) hsz) rfl rfl dX9_readWord_58 ?_
      refine ax_goto hX dX9_readWord_61 (tgt := 5) (by decide) ?_
      exact ax_forget (L' := [some (.ref 4)]) (⟨rfl, trivial⟩) hyp
set_option maxRecDepth 10000 in
theorem s_X9_rewind_0 {X : ax_X} {d L sz : Nat} {T : tT} {Q : tT → Prop} (hX : ax_ok X mX9_rewind (d + 1)) (hR : ax_Ret X mX9_rewind (tv L sz Q)) (hsz : 161 ≤ sz)  (hyp : ∃ Q1, tvK d mX9_next [.ref 4] L sz (tI T 4 6 (0 : Int32)) Q1 ∧ ∀ (T1 : tT), Q1 T1 → (Q T1)) : ax_j X 0 [some (.ref 4)] [] (th L sz T) 0 0 := by
  refine ax_aload_n hX dX9_rewind_0 (Or.inr ⟨_, rfl⟩) rfl ?_
  refine ax_iconst hX dX9_rewind_1 (v := 0) (by decide) ?_
  refine tx_putI hX fRX9_19 ly_4 fk_9_6 (by decide) (Nat.lt_of_lt_of_le (by decide) hsz) rfl rfl dX9_rewind_2 ?_
  refine ax_aload_n hX dX9_rewind_5 (Or.inr ⟨_, rfl⟩) rfl ?_
  obtain ⟨Q1, hK, hyp⟩ := hyp
  refine ax_callV hX lRX9_22 im_X9_next sl_X9_next cw_X9_next ((th_at (by decide) (Nat.lt_of_lt_of_le (by decide) hsz)).trans (tc_ob ly_4)) rfl rfl (A := []) (st := []) rfl rfl (Nat.le_of_ble_eq_true rfl) (by decide) (by decide) dX9_rewind_6 hK ?_
  rintro _ _ ⟨T1, rfl, rfl, hq⟩
  replace hyp := hyp T1 hq
  exact hR.2.2.2 _ _ _ _ _ (by decide) (by decide) dX9_rewind_9 rfl ⟨_, rfl, rfl, hyp⟩
set_option maxRecDepth 10000 in
theorem s_X10_about_0 {X : ax_X} {d L sz : Nat} {T : tT} {Q : Int32 → tT → Prop} (hX : ax_ok X mX10_about (d + 1)) (hR : ax_Ret X mX10_about (ti L sz Q)) (hsz : 161 ≤ sz) (x0 : Int32) (hyp : (x0 = 0 → Q (T.1 93 0) T) ∧ (x0 = 1 → Q (T.1 69 0) T) ∧ (x0 = 2 → Q (T.1 79 0) T) ∧ (x0 = 3 → Q (T.1 79 1) T) ∧ (x0 = 4 → Q (T.1 79 2) T) ∧ (x0 = 5 → Q (T.1 93 1) T) ∧ (x0 = 6 → Q (T.1 101 0) T) ∧ (x0 = 7 → Q (T.1 4 1) T) ∧ (¬ x0 = 0 → ¬ x0 = 1 → ¬ x0 = 2 → ¬ x0 = 3 → ¬ x0 = 4 → ¬ x0 = 5 → ¬ x0 = 6 → ¬ x0 = 7 → ∃ Q1, tiK d mX10_isWithin [.int x0, .int (10 : Int32), .int (13 : Int32)] L sz T Q1 ∧ ∀ (r1 : Int32) (T1 : tT), Q1 r1 T1 → (((r1 = 0 → Q (-1 : Int32) T1) ∧ (¬ r1 = 0 → ∃ Q1, tiK d mX10_gradesOf [.ref 2, .int (x0 - (10 : Int32))] L sz T1 Q1 ∧ ∀ (r2 : Int32) (T2 : tT), Q1 r2 T2 → (Q r2 T2)))))) : ax_j X 0 [some (.ref 2), some (.int x0)] [] (th L sz T) 0 0 := by
  refine ax_iload_n hX dX10_about_0 rfl ?_
  by_cases q0 : x0 = 0
  · replace hyp := hyp.1 q0
    refine ax_tableIn hX dX10_about_1 (by rw [q0]; decide) (by rw [q0]; decide) (off := 47) (by rw [q0]; rfl) (tgt := 48) (by decide) ?_
    refine ax_aload_n hX dX10_about_48 (Or.inr ⟨_, rfl⟩) rfl ?_
    refine tx_getF hX fRX10_53 ly_2 (o := 91) (b := 93) fk_10_6 rfl (by decide) (Nat.lt_of_lt_of_le (by decide) hsz) dX10_about_49 ?_
    refine tx_getI hX fRX10_205 ly_93 fk_5_0 (by decide) (Nat.lt_of_lt_of_le (by decide) hsz) dX10_about_52 ?_
    exact hR.1 _ _ _ _ _ _ (by decide) (by decide) dX10_about_55 ⟨_, rfl, rfl⟩ ⟨_, _, rfl, rfl, hyp⟩
  by_cases q1 : x0 = 1
  · replace hyp := hyp.2.1 q1
    refine ax_tableIn hX dX10_about_1 (by rw [q1]; decide) (by rw [q1]; decide) (off := 55) (by rw [q1]; rfl) (tgt := 56) (by decide) ?_
    refine ax_aload_n hX dX10_about_56 (Or.inr ⟨_, rfl⟩) rfl ?_
    refine tx_getF hX fRX10_32 ly_2 (o := 67) (b := 69) fk_10_3 rfl (by decide) (Nat.lt_of_lt_of_le (by decide) hsz) dX10_about_57 ?_
    refine tx_getI hX fRX10_245 ly_69 fk_2_0 (by decide) (Nat.lt_of_lt_of_le (by decide) hsz) dX10_about_60 ?_
    exact hR.1 _ _ _ _ _ _ (by decide) (by decide) dX10_about_63 ⟨_, rfl, rfl⟩ ⟨_, _, rfl, rfl, hyp⟩
  by_cases q2 : x0 = 2
  · replace hyp := hyp.2.2.1 q2
    refine ax_tableIn hX dX10_about_1 (by rw [q2]; decide) (by rw [q2]; decide) (off := 63) (by rw [q2]; rfl) (tgt := 64) (by decide) ?_
    refine ax_aload_n hX dX10_about_64 (Or.inr ⟨_, rfl⟩) rfl ?_
    refine tx_getF hX fRX10_39 ly_2 (o := 77) (b := 79) fk_10_4 rfl (by decide) (Nat.lt_of_lt_of_le (by decide) hsz) dX10_about_65 ?_
    refine tx_getI hX fRX10_248 ly_79 fk_1_0 (by decide) (Nat.lt_of_lt_of_le (by decide) hsz) dX10_about_68 ?_
    exact hR.1 _ _ _ _ _ _ (by decide) (by decide) dX10_about_71 ⟨_, rfl, rfl⟩ ⟨_, _, rfl, rfl, hyp⟩
  by_cases q3 : x0 = 3
  · replace hyp := hyp.2.2.2.1 q3
    refine ax_tableIn hX dX10_about_1 (by rw [q3]; decide) (by rw [q3]; decide) (off := 71) (by rw [q3]; rfl) (tgt := 72) (by decide) ?_
    refine ax_aload_n hX dX10_about_72 (Or.inr ⟨_, rfl⟩) rfl ?_
    refine tx_getF hX fRX10_39 ly_2 (o := 77) (b := 79) fk_10_4 rfl (by decide) (Nat.lt_of_lt_of_le (by decide) hsz) dX10_about_73 ?_
    refine tx_getI hX fRX10_188 ly_79 fk_1_1 (by decide) (Nat.lt_of_lt_of_le (by decide) hsz) dX10_about_76 ?_
    exact hR.1 _ _ _ _ _ _ (by decide) (by decide) dX10_about_79 ⟨_, rfl, rfl⟩ ⟨_, _, rfl, rfl, hyp⟩
  by_cases q4 : x0 = 4
  · replace hyp := hyp.2.2.2.2.1 q4
    refine ax_tableIn hX dX10_about_1 (by rw [q4]; decide) (by rw [q4]; decide) (off := 79) (by rw [q4]; rfl) (tgt := 80) (by decide) ?_
    refine ax_aload_n hX dX10_about_80 (Or.inr ⟨_, rfl⟩) rfl ?_
    refine tx_getF hX fRX10_39 ly_2 (o := 77) (b := 79) fk_10_4 rfl (by decide) (Nat.lt_of_lt_of_le (by decide) hsz) dX10_about_81 ?_
    refine tx_getI hX fRX10_186 ly_79 fk_1_2 (by decide) (Nat.lt_of_lt_of_le (by decide) hsz) dX10_about_84 ?_
    exact hR.1 _ _ _ _ _ _ (by decide) (by decide) dX10_about_87 ⟨_, rfl, rfl⟩ ⟨_, _, rfl, rfl, hyp⟩
  by_cases q5 : x0 = 5
  · replace hyp := hyp.2.2.2.2.2.1 q5
    refine ax_tableIn hX dX10_about_1 (by rw [q5]; decide) (by rw [q5]; decide) (off := 87) (by rw [q5]; rfl) (tgt := 88) (by decide) ?_
    refine ax_aload_n hX dX10_about_88 (Or.inr ⟨_, rfl⟩) rfl ?_
    refine tx_getF hX fRX10_53 ly_2 (o := 91) (b := 93) fk_10_6 rfl (by decide) (Nat.lt_of_lt_of_le (by decide) hsz) dX10_about_89 ?_
    refine tx_getI hX fRX10_251 ly_93 fk_5_1 (by decide) (Nat.lt_of_lt_of_le (by decide) hsz) dX10_about_92 ?_
    exact hR.1 _ _ _ _ _ _ (by decide) (by decide) dX10_about_95 ⟨_, rfl, rfl⟩ ⟨_, _, rfl, rfl, hyp⟩
  by_cases q6 : x0 = 6
  · replace hyp := hyp.2.2.2.2.2.2.1 q6
    refine ax_tableIn hX dX10_about_1 (by rw [q6]; decide) (by rw [q6]; decide) (off := 95) (by rw [q6]; rfl) (tgt := 96) (by decide) ?_
    refine ax_aload_n hX dX10_about_96 (Or.inr ⟨_, rfl⟩) rfl ?_
    refine tx_getF hX fRX10_60 ly_2 (o := 99) (b := 101) fk_10_7 rfl (by decide) (Nat.lt_of_lt_of_le (by decide) hsz) dX10_about_97 ?_
    refine tx_getI hX fRX10_252 ly_101 fk_0_0 (by decide) (Nat.lt_of_lt_of_le (by decide) hsz) dX10_about_100 ?_
    exact hR.1 _ _ _ _ _ _ (by decide) (by decide) dX10_about_103 ⟨_, rfl, rfl⟩ ⟨_, _, rfl, rfl, hyp⟩
  by_cases q7 : x0 = 7
  · replace hyp := hyp.2.2.2.2.2.2.2.1 q7
    refine ax_tableIn hX dX10_about_1 (by rw [q7]; decide) (by rw [q7]; decide) (off := 103) (by rw [q7]; rfl) (tgt := 104) (by decide) ?_
    refine ax_aload_n hX dX10_about_104 (Or.inr ⟨_, rfl⟩) rfl ?_
    refine tx_getF hX fRX10_12 ly_2 (o := 1) (b := 3) fk_10_0 rfl (by decide) (Nat.lt_of_lt_of_le (by decide) hsz) dX10_about_105 ?_
    refine tx_getF hX fRX10_64 ly_3 (o := 1) (b := 4) fk_6_0 rfl (by decide) (Nat.lt_of_lt_of_le (by decide) hsz) dX10_about_108 ?_
    refine tx_getI hX fRX10_68 ly_4 fk_9_1 (by decide) (Nat.lt_of_lt_of_le (by decide) hsz) dX10_about_111 ?_
    exact hR.1 _ _ _ _ _ _ (by decide) (by decide) dX10_about_114 ⟨_, rfl, rfl⟩ ⟨_, _, rfl, rfl, hyp⟩
  replace hyp := hyp.2.2.2.2.2.2.2.2 q0 q1 q2 q3 q4 q5 q6 q7
  have z0 := lv_neT (a := 0) q0 rfl
  have z1 := lv_neT (a := 1) q1 rfl
  have z2 := lv_neT (a := 2) q2 rfl
  have z3 := lv_neT (a := 3) q3 rfl
  have z4 := lv_neT (a := 4) q4 rfl
  have z5 := lv_neT (a := 5) q5 rfl
  have z6 := lv_neT (a := 6) q6 rfl
  have z7 := lv_neT (a := 7) q7 rfl
  refine ax_tableOut hX dX10_about_1 (by omega) (tgt := 115) (by decide) ?_
  refine ax_iload_n hX dX10_about_115 rfl ?_
  refine ax_bipush hX dX10_about_116 (v := 10) (by decide) ?_
  refine ax_bipush hX dX10_about_118 (v := 13) (by decide) ?_
  obtain ⟨Q1, hK, hyp⟩ := hyp
  refine ax_callS hX lRX10_122 sm_X10_isWithin cw_X10_isWithin (A := [.int x0, .int (10 : Int32), .int (13 : Int32)]) (st := []) rfl rfl (Nat.le_of_ble_eq_true rfl) (by decide) (by decide) dX10_about_120 hK ?_
  rintro _ _ ⟨r1, T1, rfl, rfl, hq⟩
  replace hyp := hyp r1 T1 hq
  refine ax_if_eq hX dX10_about_123 (tgt := 137) (by decide) (fun c => ?_) (fun c => ?_)
  · replace hyp := hyp.1 c
    refine ax_iconst hX dX10_about_137 (v := -1) (by decide) ?_
    exact hR.1 _ _ _ _ _ _ (by decide) (by decide) dX10_about_138 ⟨_, rfl, rfl⟩ ⟨_, _, rfl, rfl, hyp⟩
  · replace hyp := hyp.2 c
    refine ax_aload_n hX dX10_about_126 (Or.inr ⟨_, rfl⟩) rfl ?_
    refine ax_iload_n hX dX10_about_127 rfl ?_
    refine ax_bipush hX dX10_about_128 (v := 10) (by decide) ?_
    refine ax_isub hX dX10_about_130 ?_
    obtain ⟨Q1, hK, hyp⟩ := hyp
    refine ax_callV hX lRX10_92 im_X10_gradesOf sl_X10_gradesOf cw_X10_gradesOf ((th_at (by decide) (Nat.lt_of_lt_of_le (by decide) hsz)).trans (tc_ob ly_2)) rfl rfl (A := [.int (x0 - (10 : Int32))]) (st := []) rfl rfl (Nat.le_of_ble_eq_true rfl) (by decide) (by decide) dX10_about_131 hK ?_
    rintro _ _ ⟨r2, T2, rfl, rfl, hq⟩
    replace hyp := hyp r2 T2 hq
    refine ax_goto hX dX10_about_134 (tgt := 138) (by decide) ?_
    exact hR.1 _ _ _ _ _ _ (by decide) (by decide) dX10_about_138 ⟨_, rfl, rfl⟩ ⟨_, _, rfl, rfl, hyp⟩
set_option maxRecDepth 10000 in
theorem s_X10_appeal_0 {X : ax_X} {d L sz : Nat} {T : tT} {Q : Int32 → tT → Prop} (hX : ax_ok X mX10_appeal (d + 1)) (hR : ax_Ret X mX10_appeal (ti L sz Q)) (hsz : 161 ≤ sz) (x0 : Int32) (x1 : Int32) (x2 : Int32) (hyp : ∃ Q1, tiK d mX10_canBeMarked [.ref 2, .int x0, .int x1, .int x2] L sz T Q1 ∧ ∀ (r1 : Int32) (T1 : tT), Q1 r1 T1 → (((r1 = 0 → Q (-1 : Int32) T1) ∧ (¬ r1 = 0 → ∃ Q1, tiK d mX5_knownPoints [.ref 93, .int x0, .int x1, .int (T1.1 93 0)] L sz T1 Q1 ∧ ∀ (r2 : Int32) (T2 : tT), Q1 r2 T2 → (((r2 = (-1 : Int32) → Q (-1 : Int32) T2) ∧ (¬ r2 = (-1 : Int32) → ∃ Q1, tiK d mX5_tell [.ref 93, .int (5 : Int32), .int x0, .int x1, .int x2] L sz T2 Q1 ∧ ∀ (r3 : Int32) (T3 : tT), Q1 r3 T3 → (Q r3 T3)))))))) : ax_j X 0 [some (.ref 2), some (.int x0), some (.int x1), some (.int x2), none] [] (th L sz T) 0 0 := by
  refine ax_aload_n hX dX10_appeal_0 (Or.inr ⟨_, rfl⟩) rfl ?_
  refine ax_iload_n hX dX10_appeal_1 rfl ?_
  refine ax_iload_n hX dX10_appeal_2 rfl ?_
  refine ax_iload_n hX dX10_appeal_3 rfl ?_
  obtain ⟨Q1, hK, hyp⟩ := hyp
  refine ax_callV hX lRX10_209 im_X10_canBeMarked sl_X10_canBeMarked cw_X10_canBeMarked ((th_at (by decide) (Nat.lt_of_lt_of_le (by decide) hsz)).trans (tc_ob ly_2)) rfl rfl (A := [.int x0, .int x1, .int x2]) (st := []) rfl rfl (Nat.le_of_ble_eq_true rfl) (by decide) (by decide) dX10_appeal_4 hK ?_
  rintro _ _ ⟨r1, T1, rfl, rfl, hq⟩
  replace hyp := hyp r1 T1 hq
  refine ax_if_eq hX dX10_appeal_7 (tgt := 34) (by decide) (fun c => ?_) (fun c => ?_)
  · replace hyp := hyp.1 c
    refine ax_iconst hX dX10_appeal_34 (v := 0) (by decide) ?_
    refine ax_istore hX dX10_appeal_35 (by decide) (L' := [some (.ref 2), some (.int x0), some (.int x1), some (.int x2), some (.int (0 : Int32))]) rfl ?_
    refine ax_iload hX dX10_appeal_37 rfl ?_
    refine ax_if_eq hX dX10_appeal_39 (tgt := 56) (by decide) (fun c => ?_) (fun c => ?_)
    rotate_left
    · exact absurd c (by decide)
    refine ax_iconst hX dX10_appeal_56 (v := -1) (by decide) ?_
    exact hR.1 _ _ _ _ _ _ (by decide) (by decide) dX10_appeal_57 ⟨_, rfl, rfl⟩ ⟨_, _, rfl, rfl, hyp⟩
  · replace hyp := hyp.2 c
    refine ax_aload_n hX dX10_appeal_10 (Or.inr ⟨_, rfl⟩) rfl ?_
    refine tx_getF hX fRX10_53 ly_2 (o := 91) (b := 93) fk_10_6 rfl (by decide) (Nat.lt_of_lt_of_le (by decide) hsz) dX10_appeal_11 ?_
    refine ax_iload_n hX dX10_appeal_14 rfl ?_
    refine ax_iload_n hX dX10_appeal_15 rfl ?_
    refine ax_aload_n hX dX10_appeal_16 (Or.inr ⟨_, rfl⟩) rfl ?_
    refine tx_getF hX fRX10_53 ly_2 (o := 91) (b := 93) fk_10_6 rfl (by decide) (Nat.lt_of_lt_of_le (by decide) hsz) dX10_appeal_17 ?_
    refine tx_getI hX fRX10_205 ly_93 fk_5_0 (by decide) (Nat.lt_of_lt_of_le (by decide) hsz) dX10_appeal_20 ?_
    obtain ⟨Q1, hK, hyp⟩ := hyp
    refine ax_callV hX lRX10_216 im_X5_knownPoints sl_X5_knownPoints cw_X5_knownPoints ((th_at (by decide) (Nat.lt_of_lt_of_le (by decide) hsz)).trans (tc_ob ly_93)) rfl rfl (A := [.int x0, .int x1, .int (T1.1 93 0)]) (st := []) rfl rfl (Nat.le_of_ble_eq_true rfl) (by decide) (by decide) dX10_appeal_23 hK ?_
    rintro _ _ ⟨r2, T2, rfl, rfl, hq⟩
    replace hyp := hyp r2 T2 hq
    refine ax_iconst hX dX10_appeal_26 (v := -1) (by decide) ?_
    refine ax_icmp_eq hX dX10_appeal_27 (tgt := 34) (by decide) (fun c => ?_) (fun c => ?_)
    · replace hyp := hyp.1 c
      refine ax_iconst hX dX10_appeal_34 (v := 0) (by decide) ?_
      refine ax_istore hX dX10_appeal_35 (by decide) (L' := [some (.ref 2), some (.int x0), some (.int x1), some (.int x2), some (.int (0 : Int32))]) rfl ?_
      refine ax_iload hX dX10_appeal_37 rfl ?_
      refine ax_if_eq hX dX10_appeal_39 (tgt := 56) (by decide) (fun c => ?_) (fun c => ?_)
      rotate_left
      · exact absurd c (by decide)
      refine ax_iconst hX dX10_appeal_56 (v := -1) (by decide) ?_
      exact hR.1 _ _ _ _ _ _ (by decide) (by decide) dX10_appeal_57 ⟨_, rfl, rfl⟩ ⟨_, _, rfl, rfl, hyp⟩
    · replace hyp := hyp.2 c
      refine ax_iconst hX dX10_appeal_30 (v := 1) (by decide) ?_
      refine ax_goto hX dX10_appeal_31 (tgt := 35) (by decide) ?_
      refine ax_istore hX dX10_appeal_35 (by decide) (L' := [some (.ref 2), some (.int x0), some (.int x1), some (.int x2), some (.int (1 : Int32))]) rfl ?_
      refine ax_iload hX dX10_appeal_37 rfl ?_
      refine ax_if_eq hX dX10_appeal_39 (tgt := 56) (by decide) (fun c => ?_) (fun c => ?_)
      · exact absurd c (by decide)
      refine ax_aload_n hX dX10_appeal_42 (Or.inr ⟨_, rfl⟩) rfl ?_
      refine tx_getF hX fRX10_53 ly_2 (o := 91) (b := 93) fk_10_6 rfl (by decide) (Nat.lt_of_lt_of_le (by decide) hsz) dX10_appeal_43 ?_
      refine ax_iconst hX dX10_appeal_46 (v := 5) (by decide) ?_
      refine ax_iload_n hX dX10_appeal_47 rfl ?_
      refine ax_iload_n hX dX10_appeal_48 rfl ?_
      refine ax_iload_n hX dX10_appeal_49 rfl ?_
      obtain ⟨Q1, hK, hyp⟩ := hyp
      refine ax_callV hX lRX10_212 im_X5_tell sl_X5_tell cw_X5_tell ((th_at (by decide) (Nat.lt_of_lt_of_le (by decide) hsz)).trans (tc_ob ly_93)) rfl rfl (A := [.int (5 : Int32), .int x0, .int x1, .int x2]) (st := []) rfl rfl (Nat.le_of_ble_eq_true rfl) (by decide) (by decide) dX10_appeal_50 hK ?_
      rintro _ _ ⟨r3, T3, rfl, rfl, hq⟩
      replace hyp := hyp r3 T3 hq
      refine ax_goto hX dX10_appeal_53 (tgt := 57) (by decide) ?_
      exact hR.1 _ _ _ _ _ _ (by decide) (by decide) dX10_appeal_57 ⟨_, rfl, rfl⟩ ⟨_, _, rfl, rfl, hyp⟩
set_option maxRecDepth 10000 in
theorem s_X10_canBeMarked_0 {X : ax_X} {d L sz : Nat} {T : tT} {Q : Int32 → tT → Prop} (hX : ax_ok X mX10_canBeMarked (d + 1)) (hR : ax_Ret X mX10_canBeMarked (ti L sz Q)) (hsz : 161 ≤ sz) (x0 : Int32) (x1 : Int32) (x2 : Int32) (hyp : ∃ Q1, tiK d mX2_has [.ref 69, .int x0] L sz T Q1 ∧ ∀ (r1 : Int32) (T1 : tT), Q1 r1 T1 → (((r1 = 0 → Q (0 : Int32) T1) ∧ (¬ r1 = 0 → ∃ Q1, toK d mX10_gradeOf [.ref 2, .int x0] L sz T1 Q1 ∧ ∀ (r2 : Option Nat) (T2 : tT), Q1 r2 T2 → (((r2 = none → Q (0 : Int32) T2) ∧ (∀ p3, r2 = some p3 → tgr sz p3 ∧ ((x1 < 0 → Q (0 : Int32) T2) ∧ (¬ x1 < 0 → (((T2.1 p3 2) ≤ x1 → Q (0 : Int32) T2) ∧ (¬ (T2.1 p3 2) ≤ x1 → vp_in x1 6 ∧ ∃ Q1, tiK d mX10_isWithin [.int x2, .int (0 : Int32), .int (T2.1 (p3 + 5) (x1.toNatClampNeg))] L sz T2 Q1 ∧ ∀ (r4 : Int32) (T4 : tT), Q1 r4 T4 → (((r4 = 0 → Q (0 : Int32) T4) ∧ (¬ r4 = 0 → Q (1 : Int32) T4)))))))))))))) : ax_j X 0 [some (.ref 2), some (.int x0), some (.int x1), some (.int x2), none] [] (th L sz T) 0 0 := by
  refine ax_aload_n hX dX10_canBeMarked_0 (Or.inr ⟨_, rfl⟩) rfl ?_
  refine tx_getF hX fRX10_32 ly_2 (o := 67) (b := 69) fk_10_3 rfl (by decide) (Nat.lt_of_lt_of_le (by decide) hsz) dX10_canBeMarked_1 ?_
  refine ax_iload_n hX dX10_canBeMarked_4 rfl ?_
  obtain ⟨Q1, hK, hyp⟩ := hyp
  refine ax_callV hX lRX10_133 im_X2_has sl_X2_has cw_X2_has ((th_at (by decide) (Nat.lt_of_lt_of_le (by decide) hsz)).trans (tc_ob ly_69)) rfl rfl (A := [.int x0]) (st := []) rfl rfl (Nat.le_of_ble_eq_true rfl) (by decide) (by decide) dX10_canBeMarked_5 hK ?_
  rintro _ _ ⟨r1, T1, rfl, rfl, hq⟩
  replace hyp := hyp r1 T1 hq
  refine ax_if_eq hX dX10_canBeMarked_8 (tgt := 19) (by decide) (fun c => ?_) (fun c => ?_)
  · replace hyp := hyp.1 c
    refine ax_null hX dX10_canBeMarked_19 ?_
    refine ax_astore hX dX10_canBeMarked_20 (Or.inl rfl) (by decide) (L' := [some (.ref 2), some (.int x0), some (.int x1), some (.int x2), some (.null)]) rfl ?_
    refine ax_aload hX dX10_canBeMarked_22 (Or.inl rfl) rfl ?_
    refine ax_ifnull hX (r := none) rfl dX10_canBeMarked_24 (tgt := 59) (by decide) (fun c => ?_) (fun _ c => ?_)
    rotate_left
    · cases c
    refine ax_iconst hX dX10_canBeMarked_59 (v := 0) (by decide) ?_
    exact hR.1 _ _ _ _ _ _ (by decide) (by decide) dX10_canBeMarked_60 ⟨_, rfl, rfl⟩ ⟨_, _, rfl, rfl, hyp⟩
  · replace hyp := hyp.2 c
    refine ax_aload_n hX dX10_canBeMarked_11 (Or.inr ⟨_, rfl⟩) rfl ?_
    refine ax_iload_n hX dX10_canBeMarked_12 rfl ?_
    obtain ⟨Q1, hK, hyp⟩ := hyp
    refine ax_callV hX lRX10_266 im_X10_gradeOf sl_X10_gradeOf cw_X10_gradeOf ((th_at (by decide) (Nat.lt_of_lt_of_le (by decide) hsz)).trans (tc_ob ly_2)) rfl rfl (A := [.int x0]) (st := []) rfl rfl (Nat.le_of_ble_eq_true rfl) (by decide) (by decide) dX10_canBeMarked_13 hK ?_
    rintro _ _ ⟨r2, T2, rfl, rfl, hq⟩
    replace hyp := hyp r2 T2 hq
    rcases r2 with _ | p3
    · replace hyp := hyp.1 rfl
      refine ax_goto hX dX10_canBeMarked_16 (tgt := 20) (by decide) ?_
      refine ax_astore hX dX10_canBeMarked_20 (Or.inl rfl) (by decide) (L' := [some (.ref 2), some (.int x0), some (.int x1), some (.int x2), some (.null)]) rfl ?_
      refine ax_aload hX dX10_canBeMarked_22 (Or.inl rfl) rfl ?_
      refine ax_ifnull hX (r := none) rfl dX10_canBeMarked_24 (tgt := 59) (by decide) (fun c => ?_) (fun _ c => ?_)
      rotate_left
      · cases c
      refine ax_iconst hX dX10_canBeMarked_59 (v := 0) (by decide) ?_
      exact hR.1 _ _ _ _ _ _ (by decide) (by decide) dX10_canBeMarked_60 ⟨_, rfl, rfl⟩ ⟨_, _, rfl, rfl, hyp⟩
    · obtain ⟨h_p3, hyp⟩ := hyp.2 p3 rfl
      refine ax_goto hX dX10_canBeMarked_16 (tgt := 20) (by decide) ?_
      refine ax_astore hX dX10_canBeMarked_20 (Or.inr ⟨_, rfl⟩) (by decide) (L' := [some (.ref 2), some (.int x0), some (.int x1), some (.int x2), some (.ref p3)]) rfl ?_
      refine ax_aload hX dX10_canBeMarked_22 (Or.inr ⟨_, rfl⟩) rfl ?_
      refine ax_ifnull hX (r := (some p3)) rfl dX10_canBeMarked_24 (tgt := 59) (by decide) (fun c => ?_) (fun _ c => ?_)
      · cases c
      refine ax_iload_n hX dX10_canBeMarked_27 rfl ?_
      refine ax_if_lt hX dX10_canBeMarked_28 (tgt := 59) (by decide) (fun c => ?_) (fun c => ?_)
      · replace hyp := hyp.1 c
        refine ax_iconst hX dX10_canBeMarked_59 (v := 0) (by decide) ?_
        exact hR.1 _ _ _ _ _ _ (by decide) (by decide) dX10_canBeMarked_60 ⟨_, rfl, rfl⟩ ⟨_, _, rfl, rfl, hyp⟩
      · replace hyp := hyp.2 c
        refine ax_iload_n hX dX10_canBeMarked_31 rfl ?_
        refine ax_aload hX dX10_canBeMarked_32 (Or.inr ⟨_, rfl⟩) rfl ?_
        refine tx_getI hX fRX10_103 h_p3.ly0 fk_3_2 (h_p3.ne 0 (by decide)) (h_p3.lt 0 (by decide)) dX10_canBeMarked_34 ?_
        refine ax_icmp_ge hX dX10_canBeMarked_37 (tgt := 59) (by decide) (fun c => ?_) (fun c => ?_)
        · replace hyp := hyp.1 c
          refine ax_iconst hX dX10_canBeMarked_59 (v := 0) (by decide) ?_
          exact hR.1 _ _ _ _ _ _ (by decide) (by decide) dX10_canBeMarked_60 ⟨_, rfl, rfl⟩ ⟨_, _, rfl, rfl, hyp⟩
        · replace hyp := hyp.2 c
          refine ax_iload_n hX dX10_canBeMarked_40 rfl ?_
          refine ax_iconst hX dX10_canBeMarked_41 (v := 0) (by decide) ?_
          refine ax_aload hX dX10_canBeMarked_42 (Or.inr ⟨_, rfl⟩) rfl ?_
          refine tx_getF hX fRX10_108 h_p3.ly0 (o := 5) (b := (p3 + 5)) fk_3_11 rfl (h_p3.ne 0 (by decide)) (h_p3.lt 0 (by decide)) dX10_canBeMarked_44 ?_
          refine ax_iload_n hX dX10_canBeMarked_47 rfl ?_
          refine tx_ial hX h_p3.ly5 (h_p3.ne 5 (by decide)) (h_p3.lt 5 (by decide)) hyp.1 dX10_canBeMarked_48 ?_
          replace hyp := hyp.2
          obtain ⟨Q1, hK, hyp⟩ := hyp
          refine ax_callS hX lRX10_122 sm_X10_isWithin cw_X10_isWithin (A := [.int x2, .int (0 : Int32), .int (T2.1 (p3 + 5) (x1.toNatClampNeg))]) (st := []) rfl rfl (Nat.le_of_ble_eq_true rfl) (by decide) (by decide) dX10_canBeMarked_49 hK ?_
          rintro _ _ ⟨r4, T4, rfl, rfl, hq⟩
          replace hyp := hyp r4 T4 hq
          refine ax_if_eq hX dX10_canBeMarked_52 (tgt := 59) (by decide) (fun c => ?_) (fun c => ?_)
          · replace hyp := hyp.1 c
            refine ax_iconst hX dX10_canBeMarked_59 (v := 0) (by decide) ?_
            exact hR.1 _ _ _ _ _ _ (by decide) (by decide) dX10_canBeMarked_60 ⟨_, rfl, rfl⟩ ⟨_, _, rfl, rfl, hyp⟩
          · replace hyp := hyp.2 c
            refine ax_iconst hX dX10_canBeMarked_55 (v := 1) (by decide) ?_
            refine ax_goto hX dX10_canBeMarked_56 (tgt := 60) (by decide) ?_
            exact hR.1 _ _ _ _ _ _ (by decide) (by decide) dX10_canBeMarked_60 ⟨_, rfl, rfl⟩ ⟨_, _, rfl, rfl, hyp⟩
set_option maxRecDepth 10000 in
theorem s_X10_canBeTaken_0 {X : ax_X} {d L sz : Nat} {T : tT} {Q : Int32 → tT → Prop} (hX : ax_ok X mX10_canBeTaken (d + 1)) (hR : ax_Ret X mX10_canBeTaken (ti L sz Q)) (hsz : 161 ≤ sz) (x0 : Int32) (hyp : ax_j X 2 [some (.ref 2), some (.int x0), some (.int (0 : Int32))] [] (th L sz T) 0 0) : ax_j X 0 [some (.ref 2), some (.int x0), none] [] (th L sz T) 0 0 := by
  refine ax_iconst hX dX10_canBeTaken_0 (v := 0) (by decide) ?_
  refine ax_istore_n hX dX10_canBeTaken_1 (by decide) (L' := [some (.ref 2), some (.int x0), some (.int (0 : Int32))]) rfl ?_
  exact ax_forget (L' := [some (.ref 2), some (.int x0), some (.int (0 : Int32))]) (⟨rfl, ⟨rfl, ⟨rfl, trivial⟩⟩⟩) hyp
set_option maxRecDepth 10000 in
theorem s_X10_canBeTaken_2 {X : ax_X} {d L sz : Nat} {T : tT} {Q : Int32 → tT → Prop} (hX : ax_ok X mX10_canBeTaken (d + 1)) (hR : ax_Ret X mX10_canBeTaken (ti L sz Q)) (hsz : 161 ≤ sz) (v1 : Int32) (v2 : Int32) (hyp : (((T.1 79 1) ≤ v2 → Q (0 : Int32) T) ∧ (¬ (T.1 79 1) ≤ v2 → ∃ Q1, tiK d mX10_mayTake [.ref 2, .int v2, .int v1] L sz T Q1 ∧ ∀ (r1 : Int32) (T1 : tT), Q1 r1 T1 → (((r1 = 0 → ax_j X 2 [some (.ref 2), some (.int v1), some (.int (v2 + (1 : Int32)))] [] (th L sz T1) 0 0) ∧ (¬ r1 = 0 → Q (1 : Int32) T1)))))) : ax_j X 2 [some (.ref 2), some (.int v1), some (.int v2)] [] (th L sz T) 0 0 := by
  refine ax_iload_n hX dX10_canBeTaken_2 rfl ?_
  refine ax_aload_n hX dX10_canBeTaken_3 (Or.inr ⟨_, rfl⟩) rfl ?_
  refine tx_getF hX fRX10_39 ly_2 (o := 77) (b := 79) fk_10_4 rfl (by decide) (Nat.lt_of_lt_of_le (by decide) hsz) dX10_canBeTaken_4 ?_
  refine tx_getI hX fRX10_188 ly_79 fk_1_1 (by decide) (Nat.lt_of_lt_of_le (by decide) hsz) dX10_canBeTaken_7 ?_
  refine ax_icmp_ge hX dX10_canBeTaken_10 (tgt := 30) (by decide) (fun c => ?_) (fun c => ?_)
  · replace hyp := hyp.1 c
    refine ax_iconst hX dX10_canBeTaken_30 (v := 0) (by decide) ?_
    exact hR.1 _ _ _ _ _ _ (by decide) (by decide) dX10_canBeTaken_31 ⟨_, rfl, rfl⟩ ⟨_, _, rfl, rfl, hyp⟩
  · replace hyp := hyp.2 c
    refine ax_aload_n hX dX10_canBeTaken_13 (Or.inr ⟨_, rfl⟩) rfl ?_
    refine ax_iload_n hX dX10_canBeTaken_14 rfl ?_
    refine ax_iload_n hX dX10_canBeTaken_15 rfl ?_
    obtain ⟨Q1, hK, hyp⟩ := hyp
    refine ax_callV hX lRX10_182 im_X10_mayTake sl_X10_mayTake cw_X10_mayTake ((th_at (by decide) (Nat.lt_of_lt_of_le (by decide) hsz)).trans (tc_ob ly_2)) rfl rfl (A := [.int v2, .int v1]) (st := []) rfl rfl (Nat.le_of_ble_eq_true rfl) (by decide) (by decide) dX10_canBeTaken_16 hK ?_
    rintro _ _ ⟨r1, T1, rfl, rfl, hq⟩
    replace hyp := hyp r1 T1 hq
    refine ax_if_eq hX dX10_canBeTaken_19 (tgt := 24) (by decide) (fun c => ?_) (fun c => ?_)
    · replace hyp := hyp.1 c
      refine ax_iinc hX dX10_canBeTaken_24 rfl (w := (v2 + (1 : Int32))) rfl (by decide) (L' := [some (.ref 2), some (.int v1), some (.int (v2 + (1 : Int32)))]) rfl ?_
      refine ax_goto hX dX10_canBeTaken_27 (tgt := 2) (by decide) ?_
      exact ax_forget (L' := [some (.ref 2), some (.int v1), some (.int (v2 + (1 : Int32)))]) (⟨rfl, ⟨rfl, ⟨rfl, trivial⟩⟩⟩) hyp
    · replace hyp := hyp.2 c
      refine ax_iconst hX dX10_canBeTaken_22 (v := 1) (by decide) ?_
      exact hR.1 _ _ _ _ _ _ (by decide) (by decide) dX10_canBeTaken_23 ⟨_, rfl, rfl⟩ ⟨_, _, rfl, rfl, hyp⟩
set_option maxRecDepth 10000 in
theorem s_X10_centre_0 {X : ax_X} {d L sz : Nat} {T : tT} {Q : Int32 → tT → Prop} (hX : ax_ok X mX10_centre (d + 1)) (hR : ax_Ret X mX10_centre (ti L sz Q)) (hsz : 161 ≤ sz)  (hyp : ∃ Q1, tiK d mX1_addCentre [.ref 79] L sz T Q1 ∧ ∀ (r1 : Int32) (T1 : tT), Q1 r1 T1 → (Q r1 T1)) : ax_j X 0 [some (.ref 2)] [] (th L sz T) 0 0 := by
  refine ax_aload_n hX dX10_centre_0 (Or.inr ⟨_, rfl⟩) rfl ?_
  refine tx_getF hX fRX10_39 ly_2 (o := 77) (b := 79) fk_10_4 rfl (by decide) (Nat.lt_of_lt_of_le (by decide) hsz) dX10_centre_1 ?_
  obtain ⟨Q1, hK, hyp⟩ := hyp
  refine ax_callV hX lRX10_147 im_X1_addCentre sl_X1_addCentre cw_X1_addCentre ((th_at (by decide) (Nat.lt_of_lt_of_le (by decide) hsz)).trans (tc_ob ly_79)) rfl rfl (A := []) (st := []) rfl rfl (Nat.le_of_ble_eq_true rfl) (by decide) (by decide) dX10_centre_4 hK ?_
  rintro _ _ ⟨r1, T1, rfl, rfl, hq⟩
  replace hyp := hyp r1 T1 hq
  exact hR.1 _ _ _ _ _ _ (by decide) (by decide) dX10_centre_7 ⟨_, rfl, rfl⟩ ⟨_, _, rfl, rfl, hyp⟩
set_option maxRecDepth 10000 in
theorem s_X10_certificate_0 {X : ax_X} {d L sz : Nat} {T : tT} {Q : Int32 → tT → Prop} (hX : ax_ok X mX10_certificate (d + 1)) (hR : ax_Ret X mX10_certificate (ti L sz Q)) (hsz : 161 ≤ sz) (x0 : Int32) (x1 : Int32) (hyp : ∃ Q1, tiK d mX0_has [.ref 101, .int x0] L sz T Q1 ∧ ∀ (r1 : Int32) (T1 : tT), Q1 r1 T1 → (((¬ r1 = 0 → (x1 = 0 → vp_in (x0 - (1 : Int32)) 60 ∧ Q (T1.1 102 (x0 - (1 : Int32)).toNatClampNeg) T1) ∧ (x1 = 1 → vp_in (x0 - (1 : Int32)) 60 ∧ Q (T1.1 103 (x0 - (1 : Int32)).toNatClampNeg) T1) ∧ (x1 = 2 → vp_in (x0 - (1 : Int32)) 60 ∧ Q (T1.1 104 (x0 - (1 : Int32)).toNatClampNeg) T1) ∧ (¬ x1 = 0 → ¬ x1 = 1 → ¬ x1 = 2 → Q (-1 : Int32) T1)) ∧ (r1 = 0 → Q (-1 : Int32) T1)))) : ax_j X 0 [some (.ref 2), some (.int x0), some (.int x1)] [] (th L sz T) 0 0 := by
  refine ax_aload_n hX dX10_certificate_0 (Or.inr ⟨_, rfl⟩) rfl ?_
  refine tx_getF hX fRX10_60 ly_2 (o := 99) (b := 101) fk_10_7 rfl (by decide) (Nat.lt_of_lt_of_le (by decide) hsz) dX10_certificate_1 ?_
  refine ax_iload_n hX dX10_certificate_4 rfl ?_
  obtain ⟨Q1, hK, hyp⟩ := hyp
  refine ax_callV hX lRX10_238 im_X0_has sl_X0_has cw_X0_has ((th_at (by decide) (Nat.lt_of_lt_of_le (by decide) hsz)).trans (tc_ob ly_101)) rfl rfl (A := [.int x0]) (st := []) rfl rfl (Nat.le_of_ble_eq_true rfl) (by decide) (by decide) dX10_certificate_5 hK ?_
  rintro _ _ ⟨r1, T1, rfl, rfl, hq⟩
  replace hyp := hyp r1 T1 hq
  refine ax_if_ne hX dX10_certificate_8 (tgt := 13) (by decide) (fun c => ?_) (fun c => ?_)
  · replace hyp := hyp.1 c
    refine ax_iload_n hX dX10_certificate_13 rfl ?_
    by_cases q0 : x1 = 0
    · replace hyp := hyp.1 q0
      refine ax_tableIn hX dX10_certificate_14 (by rw [q0]; decide) (by rw [q0]; decide) (off := 26) (by rw [q0]; rfl) (tgt := 40) (by decide) ?_
      refine ax_aload_n hX dX10_certificate_40 (Or.inr ⟨_, rfl⟩) rfl ?_
      refine tx_getF hX fRX10_60 ly_2 (o := 99) (b := 101) fk_10_7 rfl (by decide) (Nat.lt_of_lt_of_le (by decide) hsz) dX10_certificate_41 ?_
      refine tx_getF hX fRX10_239 ly_101 (o := 1) (b := 102) fk_0_1 rfl (by decide) (Nat.lt_of_lt_of_le (by decide) hsz) dX10_certificate_44 ?_
      refine ax_iload_n hX dX10_certificate_47 rfl ?_
      refine ax_iconst hX dX10_certificate_48 (v := 1) (by decide) ?_
      refine ax_isub hX dX10_certificate_49 ?_
      refine tx_ial hX ly_102 (by decide) (Nat.lt_of_lt_of_le (by decide) hsz) hyp.1 dX10_certificate_50 ?_
      replace hyp := hyp.2
      exact hR.1 _ _ _ _ _ _ (by decide) (by decide) dX10_certificate_51 ⟨_, rfl, rfl⟩ ⟨_, _, rfl, rfl, hyp⟩
    by_cases q1 : x1 = 1
    · replace hyp := hyp.2.1 q1
      refine ax_tableIn hX dX10_certificate_14 (by rw [q1]; decide) (by rw [q1]; decide) (off := 38) (by rw [q1]; rfl) (tgt := 52) (by decide) ?_
      refine ax_aload_n hX dX10_certificate_52 (Or.inr ⟨_, rfl⟩) rfl ?_
      refine tx_getF hX fRX10_60 ly_2 (o := 99) (b := 101) fk_10_7 rfl (by decide) (Nat.lt_of_lt_of_le (by decide) hsz) dX10_certificate_53 ?_
      refine tx_getF hX fRX10_241 ly_101 (o := 2) (b := 103) fk_0_2 rfl (by decide) (Nat.lt_of_lt_of_le (by decide) hsz) dX10_certificate_56 ?_
      refine ax_iload_n hX dX10_certificate_59 rfl ?_
      refine ax_iconst hX dX10_certificate_60 (v := 1) (by decide) ?_
      refine ax_isub hX dX10_certificate_61 ?_
      refine tx_ial hX ly_103 (by decide) (Nat.lt_of_lt_of_le (by decide) hsz) hyp.1 dX10_certificate_62 ?_
      replace hyp := hyp.2
      exact hR.1 _ _ _ _ _ _ (by decide) (by decide) dX10_certificate_63 ⟨_, rfl, rfl⟩ ⟨_, _, rfl, rfl, hyp⟩
    by_cases q2 : x1 = 2
    · replace hyp := hyp.2.2.1 q2
      refine ax_tableIn hX dX10_certificate_14 (by rw [q2]; decide) (by rw [q2]; decide) (off := 50) (by rw [q2]; rfl) (tgt := 64) (by decide) ?_
      refine ax_aload_n hX dX10_certificate_64 (Or.inr ⟨_, rfl⟩) rfl ?_
      refine tx_getF hX fRX10_60 ly_2 (o := 99) (b := 101) fk_10_7 rfl (by decide) (Nat.lt_of_lt_of_le (by decide) hsz) dX10_certificate_65 ?_
      refine tx_getF hX fRX10_242 ly_101 (o := 3) (b := 104) fk_0_3 rfl (by decide) (Nat.lt_of_lt_of_le (by decide) hsz) dX10_certificate_68 ?_
      refine ax_iload_n hX dX10_certificate_71 rfl ?_
      refine ax_iconst hX dX10_certificate_72 (v := 1) (by decide) ?_
      refine ax_isub hX dX10_certificate_73 ?_
      refine tx_ial hX ly_104 (by decide) (Nat.lt_of_lt_of_le (by decide) hsz) hyp.1 dX10_certificate_74 ?_
      replace hyp := hyp.2
      exact hR.1 _ _ _ _ _ _ (by decide) (by decide) dX10_certificate_75 ⟨_, rfl, rfl⟩ ⟨_, _, rfl, rfl, hyp⟩
    replace hyp := hyp.2.2.2 q0 q1 q2
    have z0 := lv_neT (a := 0) q0 rfl
    have z1 := lv_neT (a := 1) q1 rfl
    have z2 := lv_neT (a := 2) q2 rfl
    refine ax_tableOut hX dX10_certificate_14 (by omega) (tgt := 76) (by decide) ?_
    refine ax_iconst hX dX10_certificate_76 (v := -1) (by decide) ?_
    exact hR.1 _ _ _ _ _ _ (by decide) (by decide) dX10_certificate_77 ⟨_, rfl, rfl⟩ ⟨_, _, rfl, rfl, hyp⟩
  · replace hyp := hyp.2 c
    refine ax_iconst hX dX10_certificate_11 (v := -1) (by decide) ?_
    exact hR.1 _ _ _ _ _ _ (by decide) (by decide) dX10_certificate_12 ⟨_, rfl, rfl⟩ ⟨_, _, rfl, rfl, hyp⟩
set_option maxRecDepth 10000 in
theorem s_X10_certify_0 {X : ax_X} {d L sz : Nat} {T : tT} {Q : Int32 → tT → Prop} (hX : ax_ok X mX10_certify (d + 1)) (hR : ax_Ret X mX10_certify (ti L sz Q)) (hsz : 161 ≤ sz) (x0 : Int32) (hyp : ∃ Q1, tiK d mX2_has [.ref 69, .int x0] L sz T Q1 ∧ ∀ (r1 : Int32) (T1 : tT), Q1 r1 T1 → (((¬ r1 = 0 → ∃ Q1, tiK d mX10_resultOf [.ref 2, .int x0, .int (T1.1 93 0)] L sz T1 Q1 ∧ ∀ (r2 : Int32) (T2 : tT), Q1 r2 T2 → (((r2 < (1 : Int32) → Q (-1 : Int32) T2) ∧ (¬ r2 < (1 : Int32) → ∃ Q1, tiK d mX0_anyUpTo [.ref 101, .int x0, .int r2] L sz T2 Q1 ∧ ∀ (r3 : Int32) (T3 : tT), Q1 r3 T3 → (((r3 = 0 → ∃ Q1, tiK d mX0_give [.ref 101, .int x0, .int (T3.1 93 0), .int r2] L sz T3 Q1 ∧ ∀ (r4 : Int32) (T4 : tT), Q1 r4 T4 → (Q r4 T4)) ∧ (¬ r3 = 0 → Q (-1 : Int32) T3))))))) ∧ (r1 = 0 → Q (-1 : Int32) T1)))) : ax_j X 0 [some (.ref 2), some (.int x0), none] [] (th L sz T) 0 0 := by
  refine ax_aload_n hX dX10_certify_0 (Or.inr ⟨_, rfl⟩) rfl ?_
  refine tx_getF hX fRX10_32 ly_2 (o := 67) (b := 69) fk_10_3 rfl (by decide) (Nat.lt_of_lt_of_le (by decide) hsz) dX10_certify_1 ?_
  refine ax_iload_n hX dX10_certify_4 rfl ?_
  obtain ⟨Q1, hK, hyp⟩ := hyp
  refine ax_callV hX lRX10_133 im_X2_has sl_X2_has cw_X2_has ((th_at (by decide) (Nat.lt_of_lt_of_le (by decide) hsz)).trans (tc_ob ly_69)) rfl rfl (A := [.int x0]) (st := []) rfl rfl (Nat.le_of_ble_eq_true rfl) (by decide) (by decide) dX10_certify_5 hK ?_
  rintro _ _ ⟨r1, T1, rfl, rfl, hq⟩
  replace hyp := hyp r1 T1 hq
  refine ax_if_ne hX dX10_certify_8 (tgt := 13) (by decide) (fun c => ?_) (fun c => ?_)
  · replace hyp := hyp.1 c
    refine ax_aload_n hX dX10_certify_13 (Or.inr ⟨_, rfl⟩) rfl ?_
    refine ax_iload_n hX dX10_certify_14 rfl ?_
    refine ax_aload_n hX dX10_certify_15 (Or.inr ⟨_, rfl⟩) rfl ?_
    refine tx_getF hX fRX10_53 ly_2 (o := 91) (b := 93) fk_10_6 rfl (by decide) (Nat.lt_of_lt_of_le (by decide) hsz) dX10_certify_16 ?_
    refine tx_getI hX fRX10_205 ly_93 fk_5_0 (by decide) (Nat.lt_of_lt_of_le (by decide) hsz) dX10_certify_19 ?_
    obtain ⟨Q1, hK, hyp⟩ := hyp
    refine ax_callV hX lRX10_226 im_X10_resultOf sl_X10_resultOf cw_X10_resultOf ((th_at (by decide) (Nat.lt_of_lt_of_le (by decide) hsz)).trans (tc_ob ly_2)) rfl rfl (A := [.int x0, .int (T1.1 93 0)]) (st := []) rfl rfl (Nat.le_of_ble_eq_true rfl) (by decide) (by decide) dX10_certify_22 hK ?_
    rintro _ _ ⟨r2, T2, rfl, rfl, hq⟩
    replace hyp := hyp r2 T2 hq
    refine ax_istore_n hX dX10_certify_25 (by decide) (L' := [some (.ref 2), some (.int x0), some (.int r2)]) rfl ?_
    refine ax_iload_n hX dX10_certify_26 rfl ?_
    refine ax_iconst hX dX10_certify_27 (v := 1) (by decide) ?_
    refine ax_icmp_lt hX dX10_certify_28 (tgt := 43) (by decide) (fun c => ?_) (fun c => ?_)
    · replace hyp := hyp.1 c
      refine ax_iconst hX dX10_certify_43 (v := -1) (by decide) ?_
      exact hR.1 _ _ _ _ _ _ (by decide) (by decide) dX10_certify_44 ⟨_, rfl, rfl⟩ ⟨_, _, rfl, rfl, hyp⟩
    · replace hyp := hyp.2 c
      refine ax_aload_n hX dX10_certify_31 (Or.inr ⟨_, rfl⟩) rfl ?_
      refine tx_getF hX fRX10_60 ly_2 (o := 99) (b := 101) fk_10_7 rfl (by decide) (Nat.lt_of_lt_of_le (by decide) hsz) dX10_certify_32 ?_
      refine ax_iload_n hX dX10_certify_35 rfl ?_
      refine ax_iload_n hX dX10_certify_36 rfl ?_
      obtain ⟨Q1, hK, hyp⟩ := hyp
      refine ax_callV hX lRX10_232 im_X0_anyUpTo sl_X0_anyUpTo cw_X0_anyUpTo ((th_at (by decide) (Nat.lt_of_lt_of_le (by decide) hsz)).trans (tc_ob ly_101)) rfl rfl (A := [.int x0, .int r2]) (st := []) rfl rfl (Nat.le_of_ble_eq_true rfl) (by decide) (by decide) dX10_certify_37 hK ?_
      rintro _ _ ⟨r3, T3, rfl, rfl, hq⟩
      replace hyp := hyp r3 T3 hq
      refine ax_if_eq hX dX10_certify_40 (tgt := 45) (by decide) (fun c => ?_) (fun c => ?_)
      · replace hyp := hyp.1 c
        refine ax_aload_n hX dX10_certify_45 (Or.inr ⟨_, rfl⟩) rfl ?_
        refine tx_getF hX fRX10_60 ly_2 (o := 99) (b := 101) fk_10_7 rfl (by decide) (Nat.lt_of_lt_of_le (by decide) hsz) dX10_certify_46 ?_
        refine ax_iload_n hX dX10_certify_49 rfl ?_
        refine ax_aload_n hX dX10_certify_50 (Or.inr ⟨_, rfl⟩) rfl ?_
        refine tx_getF hX fRX10_53 ly_2 (o := 91) (b := 93) fk_10_6 rfl (by decide) (Nat.lt_of_lt_of_le (by decide) hsz) dX10_certify_51 ?_
        refine tx_getI hX fRX10_205 ly_93 fk_5_0 (by decide) (Nat.lt_of_lt_of_le (by decide) hsz) dX10_certify_54 ?_
        refine ax_iload_n hX dX10_certify_57 rfl ?_
        obtain ⟨Q1, hK, hyp⟩ := hyp
        refine ax_callV hX lRX10_235 im_X0_give sl_X0_give cw_X0_give ((th_at (by decide) (Nat.lt_of_lt_of_le (by decide) hsz)).trans (tc_ob ly_101)) rfl rfl (A := [.int x0, .int (T3.1 93 0), .int r2]) (st := []) rfl rfl (Nat.le_of_ble_eq_true rfl) (by decide) (by decide) dX10_certify_58 hK ?_
        rintro _ _ ⟨r4, T4, rfl, rfl, hq⟩
        replace hyp := hyp r4 T4 hq
        exact hR.1 _ _ _ _ _ _ (by decide) (by decide) dX10_certify_61 ⟨_, rfl, rfl⟩ ⟨_, _, rfl, rfl, hyp⟩
      · replace hyp := hyp.2 c
        refine ax_iconst hX dX10_certify_43 (v := -1) (by decide) ?_
        exact hR.1 _ _ _ _ _ _ (by decide) (by decide) dX10_certify_44 ⟨_, rfl, rfl⟩ ⟨_, _, rfl, rfl, hyp⟩
  · replace hyp := hyp.2 c
    refine ax_iconst hX dX10_certify_11 (v := -1) (by decide) ?_
    exact hR.1 _ _ _ _ _ _ (by decide) (by decide) dX10_certify_12 ⟨_, rfl, rfl⟩ ⟨_, _, rfl, rfl, hyp⟩
set_option maxRecDepth 10000 in
theorem s_X10_end_0 {X : ax_X} {d L sz : Nat} {T : tT} {Q : Int32 → tT → Prop} (hX : ax_ok X mX10_end d) (hR : ax_Ret X mX10_end (ti L sz Q)) (hsz : 161 ≤ sz) (x0 : Int32) (hyp : ((x0 < 0 → Q (-1 : Int32) T) ∧ (¬ x0 < 0 → ((x0 ≤ (T.1 4 1) → Q x0 (tI T 4 1 x0)) ∧ (¬ x0 ≤ (T.1 4 1) → Q (-1 : Int32) T))))) : ax_j X 0 [some (.ref 2), some (.int x0)] [] (th L sz T) 0 0 := by
  refine ax_iload_n hX dX10_end_0 rfl ?_
  refine ax_if_lt hX dX10_end_1 (tgt := 18) (by decide) (fun c => ?_) (fun c => ?_)
  · replace hyp := hyp.1 c
    refine ax_iconst hX dX10_end_18 (v := -1) (by decide) ?_
    exact hR.1 _ _ _ _ _ _ (by decide) (by decide) dX10_end_19 ⟨_, rfl, rfl⟩ ⟨_, _, rfl, rfl, hyp⟩
  · replace hyp := hyp.2 c
    refine ax_iload_n hX dX10_end_4 rfl ?_
    refine ax_aload_n hX dX10_end_5 (Or.inr ⟨_, rfl⟩) rfl ?_
    refine tx_getF hX fRX10_12 ly_2 (o := 1) (b := 3) fk_10_0 rfl (by decide) (Nat.lt_of_lt_of_le (by decide) hsz) dX10_end_6 ?_
    refine tx_getF hX fRX10_64 ly_3 (o := 1) (b := 4) fk_6_0 rfl (by decide) (Nat.lt_of_lt_of_le (by decide) hsz) dX10_end_9 ?_
    refine tx_getI hX fRX10_68 ly_4 fk_9_1 (by decide) (Nat.lt_of_lt_of_le (by decide) hsz) dX10_end_12 ?_
    refine ax_icmp_le hX dX10_end_15 (tgt := 20) (by decide) (fun c => ?_) (fun c => ?_)
    · replace hyp := hyp.1 c
      refine ax_aload_n hX dX10_end_20 (Or.inr ⟨_, rfl⟩) rfl ?_
      refine tx_getF hX fRX10_12 ly_2 (o := 1) (b := 3) fk_10_0 rfl (by decide) (Nat.lt_of_lt_of_le (by decide) hsz) dX10_end_21 ?_
      refine tx_getF hX fRX10_64 ly_3 (o := 1) (b := 4) fk_6_0 rfl (by decide) (Nat.lt_of_lt_of_le (by decide) hsz) dX10_end_24 ?_
      refine ax_iload_n hX dX10_end_27 rfl ?_
      refine tx_putI hX fRX10_68 ly_4 fk_9_1 (by decide) (Nat.lt_of_lt_of_le (by decide) hsz) rfl rfl dX10_end_28 ?_
      refine ax_iload_n hX dX10_end_31 rfl ?_
      exact hR.1 _ _ _ _ _ _ (by decide) (by decide) dX10_end_32 ⟨_, rfl, rfl⟩ ⟨_, _, rfl, rfl, hyp⟩
    · replace hyp := hyp.2 c
      refine ax_iconst hX dX10_end_18 (v := -1) (by decide) ?_
      exact hR.1 _ _ _ _ _ _ (by decide) (by decide) dX10_end_19 ⟨_, rfl, rfl⟩ ⟨_, _, rfl, rfl, hyp⟩
set_option maxRecDepth 10000 in
theorem s_X10_entry_0 {X : ax_X} {d L sz : Nat} {T : tT} {Q : Int32 → tT → Prop} (hX : ax_ok X mX10_entry (d + 1)) (hR : ax_Ret X mX10_entry (ti L sz Q)) (hsz : 161 ≤ sz) (x0 : Int32) (x1 : Int32) (x2 : Int32) (x3 : Int32) (x4 : Int32) (x5 : Int32) (hyp : ∃ Q1, tiK d mX10_isWithin [.int x0, .int (0 : Int32), .int (99 : Int32)] L sz T Q1 ∧ ∀ (r1 : Int32) (T1 : tT), Q1 r1 T1 → (((r1 = 0 → Q (-1 : Int32) T1) ∧ (¬ r1 = 0 → ∃ Q1, tiK d mX10_isTerm [.int x1] L sz T1 Q1 ∧ ∀ (r2 : Int32) (T2 : tT), Q1 r2 T2 → (((r2 = 0 → Q (-1 : Int32) T2) ∧ (¬ r2 = 0 → ∃ Q1, tiK d mX10_isWithin [.int x2, .int (1 : Int32), .int (8 : Int32)] L sz T2 Q1 ∧ ∀ (r3 : Int32) (T3 : tT), Q1 r3 T3 → (((r3 = 0 → Q (-1 : Int32) T3) ∧ (¬ r3 = 0 → ∃ Q1, tiK d mX10_isWithin [.int x3, .int (0 : Int32), .int (7 : Int32)] L sz T3 Q1 ∧ ∀ (r4 : Int32) (T4 : tT), Q1 r4 T4 → (((r4 = 0 → Q (-1 : Int32) T4) ∧ (¬ r4 = 0 → ∃ Q1, tiK d mX10_isWithin [.int x4, .int (4 : Int32), .int (99 : Int32)] L sz T4 Q1 ∧ ∀ (r5 : Int32) (T5 : tT), Q1 r5 T5 → (((r5 = 0 → Q (-1 : Int32) T5) ∧ (¬ r5 = 0 → ((x5 = (-1 : Int32) → ∃ Q1, tiK d mX2_add [.ref 69, .int x0, .int x1, .int x2, .int x3, .int x4, .int x5] L sz T5 Q1 ∧ ∀ (r6 : Int32) (T6 : tT), Q1 r6 T6 → (Q r6 T6)) ∧ (¬ x5 = (-1 : Int32) → ∃ Q1, tiK d mX1_hasExaminer [.ref 79, .int x5] L sz T5 Q1 ∧ ∀ (r7 : Int32) (T7 : tT), Q1 r7 T7 → (((r7 = 0 → Q (-1 : Int32) T7) ∧ (¬ r7 = 0 → ∃ Q1, tiK d mX2_add [.ref 69, .int x0, .int x1, .int x2, .int x3, .int x4, .int x5] L sz T7 Q1 ∧ ∀ (r8 : Int32) (T8 : tT), Q1 r8 T8 → (Q r8 T8)))))))))))))))))))))) : ax_j X 0 [some (.ref 2), some (.int x0), some (.int x1), some (.int x2), some (.int x3), some (.int x4), some (.int x5), none] [] (th L sz T) 0 0 := by
  refine ax_iload_n hX dX10_entry_0 rfl ?_
  refine ax_iconst hX dX10_entry_1 (v := 0) (by decide) ?_
  refine ax_bipush hX dX10_entry_2 (v := 99) (by decide) ?_
  obtain ⟨Q1, hK, hyp⟩ := hyp
  refine ax_callS hX lRX10_122 sm_X10_isWithin cw_X10_isWithin (A := [.int x0, .int (0 : Int32), .int (99 : Int32)]) (st := []) rfl rfl (Nat.le_of_ble_eq_true rfl) (by decide) (by decide) dX10_entry_4 hK ?_
  rintro _ _ ⟨r1, T1, rfl, rfl, hq⟩
  replace hyp := hyp r1 T1 hq
  refine ax_if_eq hX dX10_entry_7 (tgt := 71) (by decide) (fun c => ?_) (fun c => ?_)
  · replace hyp := hyp.1 c
    refine ax_iconst hX dX10_entry_71 (v := 0) (by decide) ?_
    refine ax_istore hX dX10_entry_72 (by decide) (L' := [some (.ref 2), some (.int x0), some (.int x1), some (.int x2), some (.int x3), some (.int x4), some (.int x5), some (.int (0 : Int32))]) rfl ?_
    refine ax_iload hX dX10_entry_74 rfl ?_
    refine ax_if_eq hX dX10_entry_76 (tgt := 98) (by decide) (fun c => ?_) (fun c => ?_)
    rotate_left
    · exact absurd c (by decide)
    refine ax_iconst hX dX10_entry_98 (v := -1) (by decide) ?_
    exact hR.1 _ _ _ _ _ _ (by decide) (by decide) dX10_entry_99 ⟨_, rfl, rfl⟩ ⟨_, _, rfl, rfl, hyp⟩
  · replace hyp := hyp.2 c
    refine ax_iload_n hX dX10_entry_10 rfl ?_
    obtain ⟨Q1, hK, hyp⟩ := hyp
    refine ax_callS hX lRX10_78 sm_X10_isTerm cw_X10_isTerm (A := [.int x1]) (st := []) rfl rfl (Nat.le_of_ble_eq_true rfl) (by decide) (by decide) dX10_entry_11 hK ?_
    rintro _ _ ⟨r2, T2, rfl, rfl, hq⟩
    replace hyp := hyp r2 T2 hq
    refine ax_if_eq hX dX10_entry_14 (tgt := 71) (by decide) (fun c => ?_) (fun c => ?_)
    · replace hyp := hyp.1 c
      refine ax_iconst hX dX10_entry_71 (v := 0) (by decide) ?_
      refine ax_istore hX dX10_entry_72 (by decide) (L' := [some (.ref 2), some (.int x0), some (.int x1), some (.int x2), some (.int x3), some (.int x4), some (.int x5), some (.int (0 : Int32))]) rfl ?_
      refine ax_iload hX dX10_entry_74 rfl ?_
      refine ax_if_eq hX dX10_entry_76 (tgt := 98) (by decide) (fun c => ?_) (fun c => ?_)
      rotate_left
      · exact absurd c (by decide)
      refine ax_iconst hX dX10_entry_98 (v := -1) (by decide) ?_
      exact hR.1 _ _ _ _ _ _ (by decide) (by decide) dX10_entry_99 ⟨_, rfl, rfl⟩ ⟨_, _, rfl, rfl, hyp⟩
    · replace hyp := hyp.2 c
      refine ax_iload_n hX dX10_entry_17 rfl ?_
      refine ax_iconst hX dX10_entry_18 (v := 1) (by decide) ?_
      refine ax_bipush hX dX10_entry_19 (v := 8) (by decide) ?_
      obtain ⟨Q1, hK, hyp⟩ := hyp
      refine ax_callS hX lRX10_122 sm_X10_isWithin cw_X10_isWithin (A := [.int x2, .int (1 : Int32), .int (8 : Int32)]) (st := []) rfl rfl (Nat.le_of_ble_eq_true rfl) (by decide) (by decide) dX10_entry_21 hK ?_
      rintro _ _ ⟨r3, T3, rfl, rfl, hq⟩
      replace hyp := hyp r3 T3 hq
      refine ax_if_eq hX dX10_entry_24 (tgt := 71) (by decide) (fun c => ?_) (fun c => ?_)
      · replace hyp := hyp.1 c
        refine ax_iconst hX dX10_entry_71 (v := 0) (by decide) ?_
        refine ax_istore hX dX10_entry_72 (by decide) (L' := [some (.ref 2), some (.int x0), some (.int x1), some (.int x2), some (.int x3), some (.int x4), some (.int x5), some (.int (0 : Int32))]) rfl ?_
        refine ax_iload hX dX10_entry_74 rfl ?_
        refine ax_if_eq hX dX10_entry_76 (tgt := 98) (by decide) (fun c => ?_) (fun c => ?_)
        rotate_left
        · exact absurd c (by decide)
        refine ax_iconst hX dX10_entry_98 (v := -1) (by decide) ?_
        exact hR.1 _ _ _ _ _ _ (by decide) (by decide) dX10_entry_99 ⟨_, rfl, rfl⟩ ⟨_, _, rfl, rfl, hyp⟩
      · replace hyp := hyp.2 c
        refine ax_iload hX dX10_entry_27 rfl ?_
        refine ax_iconst hX dX10_entry_29 (v := 0) (by decide) ?_
        refine ax_bipush hX dX10_entry_30 (v := 7) (by decide) ?_
        obtain ⟨Q1, hK, hyp⟩ := hyp
        refine ax_callS hX lRX10_122 sm_X10_isWithin cw_X10_isWithin (A := [.int x3, .int (0 : Int32), .int (7 : Int32)]) (st := []) rfl rfl (Nat.le_of_ble_eq_true rfl) (by decide) (by decide) dX10_entry_32 hK ?_
        rintro _ _ ⟨r4, T4, rfl, rfl, hq⟩
        replace hyp := hyp r4 T4 hq
        refine ax_if_eq hX dX10_entry_35 (tgt := 71) (by decide) (fun c => ?_) (fun c => ?_)
        · replace hyp := hyp.1 c
          refine ax_iconst hX dX10_entry_71 (v := 0) (by decide) ?_
          refine ax_istore hX dX10_entry_72 (by decide) (L' := [some (.ref 2), some (.int x0), some (.int x1), some (.int x2), some (.int x3), some (.int x4), some (.int x5), some (.int (0 : Int32))]) rfl ?_
          refine ax_iload hX dX10_entry_74 rfl ?_
          refine ax_if_eq hX dX10_entry_76 (tgt := 98) (by decide) (fun c => ?_) (fun c => ?_)
          rotate_left
          · exact absurd c (by decide)
          refine ax_iconst hX dX10_entry_98 (v := -1) (by decide) ?_
          exact hR.1 _ _ _ _ _ _ (by decide) (by decide) dX10_entry_99 ⟨_, rfl, rfl⟩ ⟨_, _, rfl, rfl, hyp⟩
        · replace hyp := hyp.2 c
          refine ax_iload hX dX10_entry_38 rfl ?_
          refine ax_iconst hX dX10_entry_40 (v := 4) (by decide) ?_
          refine ax_bipush hX dX10_entry_41 (v := 99) (by decide) ?_
          obtain ⟨Q1, hK, hyp⟩ := hyp
          refine ax_callS hX lRX10_122 sm_X10_isWithin cw_X10_isWithin (A := [.int x4, .int (4 : Int32), .int (99 : Int32)]) (st := []) rfl rfl (Nat.le_of_ble_eq_true rfl) (by decide) (by decide) dX10_entry_43 hK ?_
          rintro _ _ ⟨r5, T5, rfl, rfl, hq⟩
          replace hyp := hyp r5 T5 hq
          refine ax_if_eq hX dX10_entry_46 (tgt := 71) (by decide) (fun c => ?_) (fun c => ?_)
          · replace hyp := hyp.1 c
            refine ax_iconst hX dX10_entry_71 (v := 0) (by decide) ?_
            refine ax_istore hX dX10_entry_72 (by decide) (L' := [some (.ref 2), some (.int x0), some (.int x1), some (.int x2), some (.int x3), some (.int x4), some (.int x5), some (.int (0 : Int32))]) rfl ?_
            refine ax_iload hX dX10_entry_74 rfl ?_
            refine ax_if_eq hX dX10_entry_76 (tgt := 98) (by decide) (fun c => ?_) (fun c => ?_)
            rotate_left
            · exact absurd c (by decide)
            refine ax_iconst hX dX10_entry_98 (v := -1) (by decide) ?_
            exact hR.1 _ _ _ _ _ _ (by decide) (by decide) dX10_entry_99 ⟨_, rfl, rfl⟩ ⟨_, _, rfl, rfl, hyp⟩
          · replace hyp := hyp.2 c
            refine ax_iload hX dX10_entry_49 rfl ?_
            refine ax_iconst hX dX10_entry_51 (v := -1) (by decide) ?_
            refine ax_icmp_eq hX dX10_entry_52 (tgt := 67) (by decide) (fun c => ?_) (fun c => ?_)
            · replace hyp := hyp.1 c
              refine ax_iconst hX dX10_entry_67 (v := 1) (by decide) ?_
              refine ax_goto hX dX10_entry_68 (tgt := 72) (by decide) ?_
              refine ax_istore hX dX10_entry_72 (by decide) (L' := [some (.ref 2), some (.int x0), some (.int x1), some (.int x2), some (.int x3), some (.int x4), some (.int x5), some (.int (1 : Int32))]) rfl ?_
              refine ax_iload hX dX10_entry_74 rfl ?_
              refine ax_if_eq hX dX10_entry_76 (tgt := 98) (by decide) (fun c => ?_) (fun c => ?_)
              · exact absurd c (by decide)
              refine ax_aload_n hX dX10_entry_79 (Or.inr ⟨_, rfl⟩) rfl ?_
              refine tx_getF hX fRX10_32 ly_2 (o := 67) (b := 69) fk_10_3 rfl (by decide) (Nat.lt_of_lt_of_le (by decide) hsz) dX10_entry_80 ?_
              refine ax_iload_n hX dX10_entry_83 rfl ?_
              refine ax_iload_n hX dX10_entry_84 rfl ?_
              refine ax_iload_n hX dX10_entry_85 rfl ?_
              refine ax_iload hX dX10_entry_86 rfl ?_
              refine ax_iload hX dX10_entry_88 rfl ?_
              refine ax_iload hX dX10_entry_90 rfl ?_
              obtain ⟨Q1, hK, hyp⟩ := hyp
              refine ax_callV hX lRX10_129 im_X2_add sl_X2_add cw_X2_add ((th_at (by decide) (Nat.lt_of_lt_of_le (by decide) hsz)).trans (tc_ob ly_69)) rfl rfl (A := [.int x0, .int x1, .int x2, .int x3, .int x4, .int x5]) (st := []) rfl rfl (Nat.le_of_ble_eq_true rfl) (by decide) (by decide) dX10_entry_92 hK ?_
              rintro _ _ ⟨r6, T6, rfl, rfl, hq⟩
              replace hyp := hyp r6 T6 hq
              refine ax_goto hX dX10_entry_95 (tgt := 99) (by decide) ?_
              exact hR.1 _ _ _ _ _ _ (by decide) (by decide) dX10_entry_99 ⟨_, rfl, rfl⟩ ⟨_, _, rfl, rfl, hyp⟩
            · replace hyp := hyp.2 c
              refine ax_aload_n hX dX10_entry_55 (Or.inr ⟨_, rfl⟩) rfl ?_
              refine tx_getF hX fRX10_39 ly_2 (o := 77) (b := 79) fk_10_4 rfl (by decide) (Nat.lt_of_lt_of_le (by decide) hsz) dX10_entry_56 ?_
              refine ax_iload hX dX10_entry_59 rfl ?_
              obtain ⟨Q1, hK, hyp⟩ := hyp
              refine ax_callV hX lRX10_126 im_X1_hasExaminer sl_X1_hasExaminer cw_X1_hasExaminer ((th_at (by decide) (Nat.lt_of_lt_of_le (by decide) hsz)).trans (tc_ob ly_79)) rfl rfl (A := [.int x5]) (st := []) rfl rfl (Nat.le_of_ble_eq_true rfl) (by decide) (by decide) dX10_entry_61 hK ?_
              rintro _ _ ⟨r7, T7, rfl, rfl, hq⟩
              replace hyp := hyp r7 T7 hq
              refine ax_if_eq hX dX10_entry_64 (tgt := 71) (by decide) (fun c => ?_) (fun c => ?_)
              · replace hyp := hyp.1 c
                refine ax_iconst hX dX10_entry_71 (v := 0) (by decide) ?_
                refine ax_istore hX dX10_entry_72 (by decide) (L' := [some (.ref 2), some (.int x0), some (.int x1), some (.int x2), some (.int x3), some (.int x4), some (.int x5), some (.int (0 : Int32))]) rfl ?_
                refine ax_iload hX dX10_entry_74 rfl ?_
                refine ax_if_eq hX dX10_entry_76 (tgt := 98) (by decide) (fun c => ?_) (fun c => ?_)
                rotate_left
                · exact absurd c (by decide)
                refine ax_iconst hX dX10_entry_98 (v := -1) (by decide) ?_
                exact hR.1 _ _ _ _ _ _ (by decide) (by decide) dX10_entry_99 ⟨_, rfl, rfl⟩ ⟨_, _, rfl, rfl, hyp⟩
              · replace hyp := hyp.2 c
                refine ax_iconst hX dX10_entry_67 (v := 1) (by decide) ?_
                refine ax_goto hX dX10_entry_68 (tgt := 72) (by decide) ?_
                refine ax_istore hX dX10_entry_72 (by decide) (L' := [some (.ref 2), some (.int x0), some (.int x1), some (.int x2), some (.int x3), some (.int x4), some (.int x5), some (.int (1 : Int32))]) rfl ?_
                refine ax_iload hX dX10_entry_74 rfl ?_
                refine ax_if_eq hX dX10_entry_76 (tgt := 98) (by decide) (fun c => ?_) (fun c => ?_)
                · exact absurd c (by decide)
                refine ax_aload_n hX dX10_entry_79 (Or.inr ⟨_, rfl⟩) rfl ?_
                refine tx_getF hX fRX10_32 ly_2 (o := 67) (b := 69) fk_10_3 rfl (by decide) (Nat.lt_of_lt_of_le (by decide) hsz) dX10_entry_80 ?_
                refine ax_iload_n hX dX10_entry_83 rfl ?_
                refine ax_iload_n hX dX10_entry_84 rfl ?_
                refine ax_iload_n hX dX10_entry_85 rfl ?_
                refine ax_iload hX dX10_entry_86 rfl ?_
                refine ax_iload hX dX10_entry_88 rfl ?_
                refine ax_iload hX dX10_entry_90 rfl ?_
                obtain ⟨Q1, hK, hyp⟩ := hyp
                refine ax_callV hX lRX10_129 im_X2_add sl_X2_add cw_X2_add ((th_at (by decide) (Nat.lt_of_lt_of_le (by decide) hsz)).trans (tc_ob ly_69)) rfl rfl (A := [.int x0, .int x1, .int x2, .int x3, .int x4, .int x5]) (st := []) rfl rfl (Nat.le_of_ble_eq_true rfl) (by decide) (by decide) dX10_entry_92 hK ?_
                rintro _ _ ⟨r8, T8, rfl, rfl, hq⟩
                replace hyp := hyp r8 T8 hq
                refine ax_goto hX dX10_entry_95 (tgt := 99) (by decide) ?_
                exact hR.1 _ _ _ _ _ _ (by decide) (by decide) dX10_entry_99 ⟨_, rfl, rfl⟩ ⟨_, _, rfl, rfl, hyp⟩
set_option maxRecDepth 10000 in
theorem s_X10_examiner_0 {X : ax_X} {d L sz : Nat} {T : tT} {Q : Int32 → tT → Prop} (hX : ax_ok X mX10_examiner (d + 1)) (hR : ax_Ret X mX10_examiner (ti L sz Q)) (hsz : 161 ≤ sz) (x0 : Int32) (x1 : Int32) (hyp : ∃ Q1, tiK d mX1_hasCentre [.ref 79, .int x0] L sz T Q1 ∧ ∀ (r1 : Int32) (T1 : tT), Q1 r1 T1 → (((r1 = 0 → Q (-1 : Int32) T1) ∧ (¬ r1 = 0 → ∃ Q1, tiK d mX10_isWithin [.int x1, .int (0 : Int32), .int (255 : Int32)] L sz T1 Q1 ∧ ∀ (r2 : Int32) (T2 : tT), Q1 r2 T2 → (((r2 = 0 → Q (-1 : Int32) T2) ∧ (¬ r2 = 0 → ∃ Q1, tiK d mX1_addExaminer [.ref 79, .int x0, .int x1] L sz T2 Q1 ∧ ∀ (r3 : Int32) (T3 : tT), Q1 r3 T3 → (Q r3 T3)))))))) : ax_j X 0 [some (.ref 2), some (.int x0), some (.int x1), none] [] (th L sz T) 0 0 := by
  refine ax_aload_n hX dX10_examiner_0 (Or.inr ⟨_, rfl⟩) rfl ?_
  refine tx_getF hX fRX10_39 ly_2 (o := 77) (b := 79) fk_10_4 rfl (by decide) (Nat.lt_of_lt_of_le (by decide) hsz) dX10_examiner_1 ?_
  refine ax_iload_n hX dX10_examiner_4 rfl ?_
  obtain ⟨Q1, hK, hyp⟩ := hyp
  refine ax_callV hX lRX10_150 im_X1_hasCentre sl_X1_hasCentre cw_X1_hasCentre ((th_at (by decide) (Nat.lt_of_lt_of_le (by decide) hsz)).trans (tc_ob ly_79)) rfl rfl (A := [.int x0]) (st := []) rfl rfl (Nat.le_of_ble_eq_true rfl) (by decide) (by decide) dX10_examiner_5 hK ?_
  rintro _ _ ⟨r1, T1, rfl, rfl, hq⟩
  replace hyp := hyp r1 T1 hq
  refine ax_if_eq hX dX10_examiner_8 (tgt := 26) (by decide) (fun c => ?_) (fun c => ?_)
  · replace hyp := hyp.1 c
    refine ax_iconst hX dX10_examiner_26 (v := 0) (by decide) ?_
    refine ax_istore_n hX dX10_examiner_27 (by decide) (L' := [some (.ref 2), some (.int x0), some (.int x1), some (.int (0 : Int32))]) rfl ?_
    refine ax_iload_n hX dX10_examiner_28 rfl ?_
    refine ax_if_eq hX dX10_examiner_29 (tgt := 44) (by decide) (fun c => ?_) (fun c => ?_)
    rotate_left
    · exact absurd c (by decide)
    refine ax_iconst hX dX10_examiner_44 (v := -1) (by decide) ?_
    exact hR.1 _ _ _ _ _ _ (by decide) (by decide) dX10_examiner_45 ⟨_, rfl, rfl⟩ ⟨_, _, rfl, rfl, hyp⟩
  · replace hyp := hyp.2 c
    refine ax_iload_n hX dX10_examiner_11 rfl ?_
    refine ax_iconst hX dX10_examiner_12 (v := 0) (by decide) ?_
    refine ax_sipush hX dX10_examiner_13 (v := 255) (by decide) ?_
    obtain ⟨Q1, hK, hyp⟩ := hyp
    refine ax_callS hX lRX10_122 sm_X10_isWithin cw_X10_isWithin (A := [.int x1, .int (0 : Int32), .int (255 : Int32)]) (st := []) rfl rfl (Nat.le_of_ble_eq_true rfl) (by decide) (by decide) dX10_examiner_16 hK ?_
    rintro _ _ ⟨r2, T2, rfl, rfl, hq⟩
    replace hyp := hyp r2 T2 hq
    refine ax_if_eq hX dX10_examiner_19 (tgt := 26) (by decide) (fun c => ?_) (fun c => ?_)
    · replace hyp := hyp.1 c
      refine ax_iconst hX dX10_examiner_26 (v := 0) (by decide) ?_
      refine ax_istore_n hX dX10_examiner_27 (by decide) (L' := [some (.ref 2), some (.int x0), some (.int x1), some (.int (0 : Int32))]) rfl ?_
      refine ax_iload_n hX dX10_examiner_28 rfl ?_
      refine ax_if_eq hX dX10_examiner_29 (tgt := 44) (by decide) (fun c => ?_) (fun c => ?_)
      rotate_left
      · exact absurd c (by decide)
      refine ax_iconst hX dX10_examiner_44 (v := -1) (by decide) ?_
      exact hR.1 _ _ _ _ _ _ (by decide) (by decide) dX10_examiner_45 ⟨_, rfl, rfl⟩ ⟨_, _, rfl, rfl, hyp⟩
    · replace hyp := hyp.2 c
      refine ax_iconst hX dX10_examiner_22 (v := 1) (by decide) ?_
      refine ax_goto hX dX10_examiner_23 (tgt := 27) (by decide) ?_
      refine ax_istore_n hX dX10_examiner_27 (by decide) (L' := [some (.ref 2), some (.int x0), some (.int x1), some (.int (1 : Int32))]) rfl ?_
      refine ax_iload_n hX dX10_examiner_28 rfl ?_
      refine ax_if_eq hX dX10_examiner_29 (tgt := 44) (by decide) (fun c => ?_) (fun c => ?_)
      · exact absurd c (by decide)
      refine ax_aload_n hX dX10_examiner_32 (Or.inr ⟨_, rfl⟩) rfl ?_
      refine tx_getF hX fRX10_39 ly_2 (o := 77) (b := 79) fk_10_4 rfl (by decide) (Nat.lt_of_lt_of_le (by decide) hsz) dX10_examiner_33 ?_
      refine ax_iload_n hX dX10_examiner_36 rfl ?_
      refine ax_iload_n hX dX10_examiner_37 rfl ?_
      obtain ⟨Q1, hK, hyp⟩ := hyp
      refine ax_callV hX lRX10_157 im_X1_addExaminer sl_X1_addExaminer cw_X1_addExaminer ((th_at (by decide) (Nat.lt_of_lt_of_le (by decide) hsz)).trans (tc_ob ly_79)) rfl rfl (A := [.int x0, .int x1]) (st := []) rfl rfl (Nat.le_of_ble_eq_true rfl) (by decide) (by decide) dX10_examiner_38 hK ?_
      rintro _ _ ⟨r3, T3, rfl, rfl, hq⟩
      replace hyp := hyp r3 T3 hq
      refine ax_goto hX dX10_examiner_41 (tgt := 45) (by decide) ?_
      exact hR.1 _ _ _ _ _ _ (by decide) (by decide) dX10_examiner_45 ⟨_, rfl, rfl⟩ ⟨_, _, rfl, rfl, hyp⟩
set_option maxRecDepth 10000 in
theorem s_X10_fault_0 {X : ax_X} {d L sz : Nat} {T : tT} {Q : Int32 → tT → Prop} (hX : ax_ok X mX10_fault d) (hR : ax_Ret X mX10_fault (ti L sz Q)) (hsz : 161 ≤ sz) (x0 : Int32) (hyp : ((¬ x0 = 0 → ((¬ x0 = (1 : Int32) → Q (-1 : Int32) T) ∧ (x0 = (1 : Int32) → Q (T.1 3 2) T))) ∧ (x0 = 0 → Q (T.1 3 1) T))) : ax_j X 0 [some (.ref 2), some (.int x0)] [] (th L sz T) 0 0 := by
  refine ax_iload_n hX dX10_fault_0 rfl ?_
  refine ax_if_ne hX dX10_fault_1 (tgt := 12) (by decide) (fun c => ?_) (fun c => ?_)
  · replace hyp := hyp.1 c
    refine ax_iload_n hX dX10_fault_12 rfl ?_
    refine ax_iconst hX dX10_fault_13 (v := 1) (by decide) ?_
    refine ax_icmp_ne hX dX10_fault_14 (tgt := 27) (by decide) (fun c => ?_) (fun c => ?_)
    · replace hyp := hyp.1 c
      refine ax_iconst hX dX10_fault_27 (v := -1) (by decide) ?_
      exact hR.1 _ _ _ _ _ _ (by decide) (by decide) dX10_fault_28 ⟨_, rfl, rfl⟩ ⟨_, _, rfl, rfl, hyp⟩
    · replace hyp := hyp.2 c
      refine ax_aload_n hX dX10_fault_17 (Or.inr ⟨_, rfl⟩) rfl ?_
      refine tx_getF hX fRX10_12 ly_2 (o := 1) (b := 3) fk_10_0 rfl (by decide) (Nat.lt_of_lt_of_le (by decide) hsz) dX10_fault_18 ?_
      refine tx_getI hX fRX10_96 ly_3 fk_6_2 (by decide) (Nat.lt_of_lt_of_le (by decide) hsz) dX10_fault_21 ?_
      refine ax_goto hX dX10_fault_24 (tgt := 28) (by decide) ?_
      exact hR.1 _ _ _ _ _ _ (by decide) (by decide) dX10_fault_28 ⟨_, rfl, rfl⟩ ⟨_, _, rfl, rfl, hyp⟩
  · replace hyp := hyp.2 c
    refine ax_aload_n hX dX10_fault_4 (Or.inr ⟨_, rfl⟩) rfl ?_
    refine tx_getF hX fRX10_12 ly_2 (o := 1) (b := 3) fk_10_0 rfl (by decide) (Nat.lt_of_lt_of_le (by decide) hsz) dX10_fault_5 ?_
    refine tx_getI hX fRX10_85 ly_3 fk_6_1 (by decide) (Nat.lt_of_lt_of_le (by decide) hsz) dX10_fault_8 ?_
    exact hR.1 _ _ _ _ _ _ (by decide) (by decide) dX10_fault_11 ⟨_, rfl, rfl⟩ ⟨_, _, rfl, rfl, hyp⟩
set_option maxRecDepth 10000 in
theorem s_X10_feed_0 {X : ax_X} {d L sz : Nat} {T : tT} {Q : Int32 → tT → Prop} (hX : ax_ok X mX10_feed (d + 1)) (hR : ax_Ret X mX10_feed (ti L sz Q)) (hsz : 161 ≤ sz) (x0 : Int32) (x1 : Int32) (x2 : Int32) (x3 : Int32) (x4 : Int32) (hyp : ((((T.1 4 1) + (20 : Int32)) ≤ (1400 : Int32) → ∃ Q1, tvK d mX9_append [.ref 4, .int x0] L sz T Q1 ∧ ∀ (T1 : tT), Q1 T1 → (∃ Q1, tvK d mX9_append [.ref 4, .int x1] L sz T1 Q1 ∧ ∀ (T2 : tT), Q1 T2 → (∃ Q1, tvK d mX9_append [.ref 4, .int x2] L sz T2 Q1 ∧ ∀ (T3 : tT), Q1 T3 → (∃ Q1, tvK d mX9_append [.ref 4, .int x3] L sz T3 Q1 ∧ ∀ (T4 : tT), Q1 T4 → (∃ Q1, tvK d mX9_append [.ref 4, .int x4] L sz T4 Q1 ∧ ∀ (T5 : tT), Q1 T5 → (Q (T5.1 4 1) T5)))))) ∧ (¬ ((T.1 4 1) + (20 : Int32)) ≤ (1400 : Int32) → Q (-1 : Int32) T))) : ax_j X 0 [some (.ref 2), some (.int x0), some (.int x1), some (.int x2), some (.int x3), some (.int x4), none] [] (th L sz T) 0 0 := by
  refine ax_aload_n hX dX10_feed_0 (Or.inr ⟨_, rfl⟩) rfl ?_
  refine tx_getF hX fRX10_12 ly_2 (o := 1) (b := 3) fk_10_0 rfl (by decide) (Nat.lt_of_lt_of_le (by decide) hsz) dX10_feed_1 ?_
  refine tx_getF hX fRX10_64 ly_3 (o := 1) (b := 4) fk_6_0 rfl (by decide) (Nat.lt_of_lt_of_le (by decide) hsz) dX10_feed_4 ?_
  refine ax_astore hX dX10_feed_7 (Or.inr ⟨_, rfl⟩) (by decide) (L' := [some (.ref 2), some (.int x0), some (.int x1), some (.int x2), some (.int x3), some (.int x4), some (.ref 4)]) rfl ?_
  refine ax_aload hX dX10_feed_9 (Or.inr ⟨_, rfl⟩) rfl ?_
  refine tx_getI hX fRX10_68 ly_4 fk_9_1 (by decide) (Nat.lt_of_lt_of_le (by decide) hsz) dX10_feed_11 ?_
  refine ax_bipush hX dX10_feed_14 (v := 20) (by decide) ?_
  refine ax_iadd hX dX10_feed_16 ?_
  refine ax_sipush hX dX10_feed_17 (v := 1400) (by decide) ?_
  refine ax_icmp_le hX dX10_feed_20 (tgt := 25) (by decide) (fun c => ?_) (fun c => ?_)
  · replace hyp := hyp.1 c
    refine ax_aload hX dX10_feed_25 (Or.inr ⟨_, rfl⟩) rfl ?_
    refine ax_iload_n hX dX10_feed_27 rfl ?_
    obtain ⟨Q1, hK, hyp⟩ := hyp
    refine ax_callV hX lRX10_74 im_X9_append sl_X9_append cw_X9_append ((th_at (by decide) (Nat.lt_of_lt_of_le (by decide) hsz)).trans (tc_ob ly_4)) rfl rfl (A := [.int x0]) (st := []) rfl rfl (Nat.le_of_ble_eq_true rfl) (by decide) (by decide) dX10_feed_28 hK ?_
    rintro _ _ ⟨T1, rfl, rfl, hq⟩
    replace hyp := hyp T1 hq
    refine ax_aload hX dX10_feed_31 (Or.inr ⟨_, rfl⟩) rfl ?_
    refine ax_iload_n hX dX10_feed_33 rfl ?_
    obtain ⟨Q1, hK, hyp⟩ := hyp
    refine ax_callV hX lRX10_74 im_X9_append sl_X9_append cw_X9_append ((th_at (by decide) (Nat.lt_of_lt_of_le (by decide) hsz)).trans (tc_ob ly_4)) rfl rfl (A := [.int x1]) (st := []) rfl rfl (Nat.le_of_ble_eq_true rfl) (by decide) (by decide) dX10_feed_34 hK ?_
    rintro _ _ ⟨T2, rfl, rfl, hq⟩
    replace hyp := hyp T2 hq
    refine ax_aload hX dX10_feed_37 (Or.inr ⟨_, rfl⟩) rfl ?_
    refine ax_iload_n hX dX10_feed_39 rfl ?_
    obtain ⟨Q1, hK, hyp⟩ := hyp
    refine ax_callV hX lRX10_74 im_X9_append sl_X9_append cw_X9_append ((th_at (by decide) (Nat.lt_of_lt_of_le (by decide) hsz)).trans (tc_ob ly_4)) rfl rfl (A := [.int x2]) (st := []) rfl rfl (Nat.le_of_ble_eq_true rfl) (by decide) (by decide) dX10_feed_40 hK ?_
    rintro _ _ ⟨T3, rfl, rfl, hq⟩
    replace hyp := hyp T3 hq
    refine ax_aload hX dX10_feed_43 (Or.inr ⟨_, rfl⟩) rfl ?_
    refine ax_iload hX dX10_feed_45 rfl ?_
    obtain ⟨Q1, hK, hyp⟩ := hyp
    refine ax_callV hX lRX10_74 im_X9_append sl_X9_append cw_X9_append ((th_at (by decide) (Nat.lt_of_lt_of_le (by decide) hsz)).trans (tc_ob ly_4)) rfl rfl (A := [.int x3]) (st := []) rfl rfl (Nat.le_of_ble_eq_true rfl) (by decide) (by decide) dX10_feed_47 hK ?_
    rintro _ _ ⟨T4, rfl, rfl, hq⟩
    replace hyp := hyp T4 hq
    refine ax_aload hX dX10_feed_50 (Or.inr ⟨_, rfl⟩) rfl ?_
    refine ax_iload hX dX10_feed_52 rfl ?_
    obtain ⟨Q1, hK, hyp⟩ := hyp
    refine ax_callV hX lRX10_74 im_X9_append sl_X9_append cw_X9_append ((th_at (by decide) (Nat.lt_of_lt_of_le (by decide) hsz)).trans (tc_ob ly_4)) rfl rfl (A := [.int x4]) (st := []) rfl rfl (Nat.le_of_ble_eq_true rfl) (by decide) (by decide) dX10_feed_54 hK ?_
    rintro _ _ ⟨T5, rfl, rfl, hq⟩
    replace hyp := hyp T5 hq
    refine ax_aload hX dX10_feed_57 (Or.inr ⟨_, rfl⟩) rfl ?_
    refine tx_getI hX fRX10_68 ly_4 fk_9_1 (by decide) (Nat.lt_of_lt_of_le (by decide) hsz) dX10_feed_59 ?_
    exact hR.1 _ _ _ _ _ _ (by decide) (by decide) dX10_feed_62 ⟨_, rfl, rfl⟩ ⟨_, _, rfl, rfl, hyp⟩
  · replace hyp := hyp.2 c
    refine ax_iconst hX dX10_feed_23 (v := -1) (by decide) ?_
    exact hR.1 _ _ _ _ _ _ (by decide) (by decide) dX10_feed_24 ⟨_, rfl, rfl⟩ ⟨_, _, rfl, rfl, hyp⟩
set_option maxRecDepth 10000 in
theorem s_X10_findGrade_0 {X : ax_X} {d L sz : Nat} {T : tT} {Q : Option Nat → tT → Prop} (hX : ax_ok X mX10_findGrade (d + 1)) (hR : ax_Ret X mX10_findGrade (to L sz Q)) (hsz : 161 ≤ sz) (x0 : Int32) (x1 : Int32) (hyp : ∃ Q1, tiK d mX10_isTerm [.int x0] L sz T Q1 ∧ ∀ (r1 : Int32) (T1 : tT), Q1 r1 T1 → (((r1 = 0 → Q none T1) ∧ (¬ r1 = 0 → vp_in x0 4 ∧ (((T1.2.2 65 (x0.toNatClampNeg)) = none → Q none T1) ∧ (∀ p2, (T1.2.2 65 (x0.toNatClampNeg)) = some p2 → tsy sz p2 ∧ ∃ Q1, toK d mX8_find [.ref p2, .int x1] L sz T1 Q1 ∧ ∀ (r3 : Option Nat) (T3 : tT), Q1 r3 T3 → (((r3 = none → Q none T3) ∧ (∀ p4, r3 = some p4 → tgr sz p4 ∧ Q (some p4) T3))))))))) : ax_j X 0 [some (.ref 2), some (.int x0), some (.int x1), none] [] (th L sz T) 0 0 := by
  refine ax_iload_n hX dX10_findGrade_0 rfl ?_
  obtain ⟨Q1, hK, hyp⟩ := hyp
  refine ax_callS hX lRX10_78 sm_X10_isTerm cw_X10_isTerm (A := [.int x0]) (st := []) rfl rfl (Nat.le_of_ble_eq_true rfl) (by decide) (by decide) dX10_findGrade_1 hK ?_
  rintro _ _ ⟨r1, T1, rfl, rfl, hq⟩
  replace hyp := hyp r1 T1 hq
  refine ax_if_eq hX dX10_findGrade_4 (tgt := 16) (by decide) (fun c => ?_) (fun c => ?_)
  · replace hyp := hyp.1 c
    refine ax_null hX dX10_findGrade_16 ?_
    refine ax_astore_n hX dX10_findGrade_17 (Or.inl rfl) (by decide) (L' := [some (.ref 2), some (.int x0), some (.int x1), some (.null)]) rfl ?_
    refine ax_aload_n hX dX10_findGrade_18 (Or.inl rfl) rfl ?_
    refine ax_ifnonnull hX (r := none) rfl dX10_findGrade_19 (tgt := 26) (by decide) (fun _ c => ?_) (fun c => ?_)
    · cases c
    refine ax_null hX dX10_findGrade_22 ?_
    refine ax_goto hX dX10_findGrade_23 (tgt := 31) (by decide) ?_
    exact hR.2.2.1 _ _ _ _ _ _ (by decide) (by decide) dX10_findGrade_31 ⟨_, rfl⟩ (Or.inl rfl) ⟨none, _, rfl, rfl, hyp⟩
  · replace hyp := hyp.2 c
    refine ax_aload_n hX dX10_findGrade_7 (Or.inr ⟨_, rfl⟩) rfl ?_
    refine tx_getF hX fRX10_18 ly_2 (o := 63) (b := 65) fk_10_1 rfl (by decide) (Nat.lt_of_lt_of_le (by decide) hsz) dX10_findGrade_8 ?_
    refine ax_iload_n hX dX10_findGrade_11 rfl ?_
    have hin := hyp.1
    replace hyp := hyp.2
    rcases ho2 : (T1.2.2 65 (x0.toNatClampNeg)) with _ | p2
    · replace hyp := hyp.1 ho2
      refine tx_aal hX ly_65 (by decide) (by decide) (Nat.lt_of_lt_of_le (by decide) hsz) hin (v := .null) (congrArg va_rf ho2) dX10_findGrade_12 ?_
      refine ax_goto hX dX10_findGrade_13 (tgt := 17) (by decide) ?_
      refine ax_astore_n hX dX10_findGrade_17 (Or.inl rfl) (by decide) (L' := [some (.ref 2), some (.int x0), some (.int x1), some (.null)]) rfl ?_
      refine ax_aload_n hX dX10_findGrade_18 (Or.inl rfl) rfl ?_
      refine ax_ifnonnull hX (r := none) rfl dX10_findGrade_19 (tgt := 26) (by decide) (fun _ c => ?_) (fun c => ?_)
      · cases c
      refine ax_null hX dX10_findGrade_22 ?_
      refine ax_goto hX dX10_findGrade_23 (tgt := 31) (by decide) ?_
      exact hR.2.2.1 _ _ _ _ _ _ (by decide) (by decide) dX10_findGrade_31 ⟨_, rfl⟩ (Or.inl rfl) ⟨none, _, rfl, rfl, hyp⟩
    · obtain ⟨h_p2, hyp⟩ := hyp.2 p2 ho2
      refine tx_aal hX ly_65 (by decide) (by decide) (Nat.lt_of_lt_of_le (by decide) hsz) hin (v := .ref p2) (congrArg va_rf ho2) dX10_findGrade_12 ?_
      refine ax_goto hX dX10_findGrade_13 (tgt := 17) (by decide) ?_
      refine ax_astore_n hX dX10_findGrade_17 (Or.inr ⟨_, rfl⟩) (by decide) (L' := [some (.ref 2), some (.int x0), some (.int x1), some (.ref p2)]) rfl ?_
      refine ax_aload_n hX dX10_findGrade_18 (Or.inr ⟨_, rfl⟩) rfl ?_
      refine ax_ifnonnull hX (r := (some p2)) rfl dX10_findGrade_19 (tgt := 26) (by decide) (fun _ c => ?_) (fun c => ?_)
      rotate_left
      · cases c
      refine ax_aload_n hX dX10_findGrade_26 (Or.inr ⟨_, rfl⟩) rfl ?_
      refine ax_iload_n hX dX10_findGrade_27 rfl ?_
      obtain ⟨Q1, hK, hyp⟩ := hyp
      refine ax_callV hX lRX10_256 im_X8_find sl_X8_find cw_X8_find ((th_at (h_p2.ne 0 (by decide)) (h_p2.lt 0 (by decide))).trans (tc_ob h_p2.ly0)) rfl rfl (A := [.int x1]) (st := []) rfl rfl (Nat.le_of_ble_eq_true rfl) (by decide) (by decide) dX10_findGrade_28 hK ?_
      rintro _ _ ⟨r3, T3, rfl, rfl, hq⟩
      replace hyp := hyp r3 T3 hq
      rcases r3 with _ | p4
      · replace hyp := hyp.1 rfl
        exact hR.2.2.1 _ _ _ _ _ _ (by decide) (by decide) dX10_findGrade_31 ⟨_, rfl⟩ (Or.inl rfl) ⟨none, _, rfl, rfl, hyp⟩
      · obtain ⟨h_p4, hyp⟩ := hyp.2 p4 rfl
        exact hR.2.2.1 _ _ _ _ _ _ (by decide) (by decide) dX10_findGrade_31 ⟨_, rfl⟩ (Or.inr ⟨_, rfl⟩) ⟨(some p4), _, rfl, rfl, hyp⟩
set_option maxRecDepth 10000 in
theorem s_X10_firstUnmet_0 {X : ax_X} {d L sz : Nat} {T : tT} {Q : Int32 → tT → Prop} (hX : ax_ok X mX10_firstUnmet (d + 1)) (hR : ax_Ret X mX10_firstUnmet (ti L sz Q)) (hsz : 161 ≤ sz) (x0 : Int32) (hyp : vp_in x0 40 ∧ vp_in (T.1 71 (x0.toNatClampNeg)) 4 ∧ (((T.2.2 65 (T.1 71 (x0.toNatClampNeg)).toNatClampNeg) = none → ∃ Q1, toK d mX10_gradeOf [.ref 2, .int x0] L sz T Q1 ∧ ∀ (r2 : Option Nat) (T2 : tT), Q1 r2 T2 → (((r2 = none → Q (-2 : Int32) T2) ∧ (∀ p3, r2 = some p3 → tgr sz p3 ∧ Q (-2 : Int32) T2)))) ∧ (∀ p1, (T.2.2 65 (T.1 71 (x0.toNatClampNeg)).toNatClampNeg) = some p1 → tsy sz p1 ∧ ∃ Q1, toK d mX10_gradeOf [.ref 2, .int x0] L sz T Q1 ∧ ∀ (r4 : Option Nat) (T4 : tT), Q1 r4 T4 → (((r4 = none → Q (-2 : Int32) T4) ∧ (∀ p5, r4 = some p5 → tgr sz p5 ∧ ax_j X 35 [some (.ref 2), some (.int x0), some (.ref p1), some (.ref p5), some (.int (0 : Int32))] [] (th L sz T4) 0 0)))))) : ax_j X 0 [some (.ref 2), some (.int x0), none, none, none] [] (th L sz T) 0 0 := by
  refine ax_aload_n hX dX10_firstUnmet_0 (Or.inr ⟨_, rfl⟩) rfl ?_
  refine tx_getF hX fRX10_18 ly_2 (o := 63) (b := 65) fk_10_1 rfl (by decide) (Nat.lt_of_lt_of_le (by decide) hsz) dX10_firstUnmet_1 ?_
  refine ax_aload_n hX dX10_firstUnmet_4 (Or.inr ⟨_, rfl⟩) rfl ?_
  refine tx_getF hX fRX10_32 ly_2 (o := 67) (b := 69) fk_10_3 rfl (by decide) (Nat.lt_of_lt_of_le (by decide) hsz) dX10_firstUnmet_5 ?_
  refine tx_getF hX fRX10_260 ly_69 (o := 2) (b := 71) fk_2_2 rfl (by decide) (Nat.lt_of_lt_of_le (by decide) hsz) dX10_firstUnmet_8 ?_
  refine ax_iload_n hX dX10_firstUnmet_11 rfl ?_
  refine tx_ial hX ly_71 (by decide) (Nat.lt_of_lt_of_le (by decide) hsz) hyp.1 dX10_firstUnmet_12 ?_
  replace hyp := hyp.2
  have hin := hyp.1
  replace hyp := hyp.2
  rcases ho1 : (T.2.2 65 (T.1 71 (x0.toNatClampNeg)).toNatClampNeg) with _ | p1
  · replace hyp := hyp.1 ho1
    refine tx_aal hX ly_65 (by decide) (by decide) (Nat.lt_of_lt_of_le (by decide) hsz) hin (v := .null) (congrArg va_rf ho1) dX10_firstUnmet_13 ?_
    refine ax_astore_n hX dX10_firstUnmet_14 (Or.inl rfl) (by decide) (L' := [some (.ref 2), some (.int x0), some (.null), none, none]) rfl ?_
    refine ax_aload_n hX dX10_firstUnmet_15 (Or.inr ⟨_, rfl⟩) rfl ?_
    refine ax_iload_n hX dX10_firstUnmet_16 rfl ?_
    obtain ⟨Q1, hK, hyp⟩ := hyp
    refine ax_callV hX lRX10_266 im_X10_gradeOf sl_X10_gradeOf cw_X10_gradeOf ((th_at (by decide) (Nat.lt_of_lt_of_le (by decide) hsz)).trans (tc_ob ly_2)) rfl rfl (A := [.int x0]) (st := []) rfl rfl (Nat.le_of_ble_eq_true rfl) (by decide) (by decide) dX10_firstUnmet_17 hK ?_
    rintro _ _ ⟨r2, T2, rfl, rfl, hq⟩
    replace hyp := hyp r2 T2 hq
    rcases r2 with _ | p3
    · replace hyp := hyp.1 rfl
      refine ax_astore_n hX dX10_firstUnmet_20 (Or.inl rfl) (by decide) (L' := [some (.ref 2), some (.int x0), some (.null), some (.null), none]) rfl ?_
      refine ax_aload_n hX dX10_firstUnmet_21 (Or.inl rfl) rfl ?_
      refine ax_ifnull hX (r := none) rfl dX10_firstUnmet_22 (tgt := 29) (by decide) (fun c => ?_) (fun _ c => ?_)
      rotate_left
      · cases c
      refine ax_bipush hX dX10_firstUnmet_29 (v := -2) (by decide) ?_
      exact hR.1 _ _ _ _ _ _ (by decide) (by decide) dX10_firstUnmet_31 ⟨_, rfl, rfl⟩ ⟨_, _, rfl, rfl, hyp⟩
    · obtain ⟨h_p3, hyp⟩ := hyp.2 p3 rfl
      refine ax_astore_n hX dX10_firstUnmet_20 (Or.inr ⟨_, rfl⟩) (by decide) (L' := [some (.ref 2), some (.int x0), some (.null), some (.ref p3), none]) rfl ?_
      refine ax_aload_n hX dX10_firstUnmet_21 (Or.inl rfl) rfl ?_
      refine ax_ifnull hX (r := none) rfl dX10_firstUnmet_22 (tgt := 29) (by decide) (fun c => ?_) (fun _ c => ?_)
      rotate_left
      · cases c
      refine ax_bipush hX dX10_firstUnmet_29 (v := -2) (by decide) ?_
      exact hR.1 _ _ _ _ _ _ (by decide) (by decide) dX10_firstUnmet_31 ⟨_, rfl, rfl⟩ ⟨_, _, rfl, rfl, hyp⟩
  · obtain ⟨h_p1, hyp⟩ := hyp.2 p1 ho1
    refine tx_aal hX ly_65 (by decide) (by decide) (Nat.lt_of_lt_of_le (by decide) hsz) hin (v := .ref p1) (congrArg va_rf ho1) dX10_firstUnmet_13 ?_
    refine ax_astore_n hX dX10_firstUnmet_14 (Or.inr ⟨_, rfl⟩) (by decide) (L' := [some (.ref 2), some (.int x0), some (.ref p1), none, none]) rfl ?_
    refine ax_aload_n hX dX10_firstUnmet_15 (Or.inr ⟨_, rfl⟩) rfl ?_
    refine ax_iload_n hX dX10_firstUnmet_16 rfl ?_
    obtain ⟨Q1, hK, hyp⟩ := hyp
    refine ax_callV hX lRX10_266 im_X10_gradeOf sl_X10_gradeOf cw_X10_gradeOf ((th_at (by decide) (Nat.lt_of_lt_of_le (by decide) hsz)).trans (tc_ob ly_2)) rfl rfl (A := [.int x0]) (st := []) rfl rfl (Nat.le_of_ble_eq_true rfl) (by decide) (by decide) dX10_firstUnmet_17 hK ?_
    rintro _ _ ⟨r4, T4, rfl, rfl, hq⟩
    replace hyp := hyp r4 T4 hq
    rcases r4 with _ | p5
    · replace hyp := hyp.1 rfl
      refine ax_astore_n hX dX10_firstUnmet_20 (Or.inl rfl) (by decide) (L' := [some (.ref 2), some (.int x0), some (.ref p1), some (.null), none]) rfl ?_
      refine ax_aload_n hX dX10_firstUnmet_21 (Or.inr ⟨_, rfl⟩) rfl ?_
      refine ax_ifnull hX (r := (some p1)) rfl dX10_firstUnmet_22 (tgt := 29) (by decide) (fun c => ?_) (fun _ c => ?_)
      · cases c
      refine ax_aload_n hX dX10_firstUnmet_25 (Or.inl rfl) rfl ?_
      refine ax_ifnonnull hX (r := none) rfl dX10_firstUnmet_26 (tgt := 32) (by decide) (fun _ c => ?_) (fun c => ?_)
      · cases c
      refine ax_bipush hX dX10_firstUnmet_29 (v := -2) (by decide) ?_
      exact hR.1 _ _ _ _ _ _ (by decide) (by decide) dX10_firstUnmet_31 ⟨_, rfl, rfl⟩ ⟨_, _, rfl, rfl, hyp⟩
    · obtain ⟨h_p5, hyp⟩ := hyp.2 p5 rfl
      refine ax_astore_n hX dX10_firstUnmet_20 (Or.inr ⟨_, rfl⟩) (by decide) (L' := [some (.ref 2), some (.int x0), some (.ref p1), some (.ref p5), none]) rfl ?_
      refine ax_aload_n hX dX10_firstUnmet_21 (Or.inr ⟨_, rfl⟩) rfl ?_
      refine ax_ifnull hX (r := (some p1)) rfl dX10_firstUnmet_22 (tgt := 29) (by decide) (fun c => ?_) (fun _ c => ?_)
      · cases c
      refine ax_aload_n hX dX10_firstUnmet_25 (Or.inr ⟨_, rfl⟩) rfl ?_
      refine ax_ifnonnull hX (r := (some p5)) rfl dX10_firstUnmet_26 (tgt := 32) (by decide) (fun _ c => ?_) (fun c => ?_)
      rotate_left
      · cases c
      refine ax_iconst hX dX10_firstUnmet_32 (v := 0) (by decide) ?_
      refine ax_istore hX dX10_firstUnmet_33 (by decide) (L' := [some (.ref 2), some (.int x0), some (.ref p1), some (.ref p5), some (.int (0 : Int32))]) rfl ?_
      exact ax_forget (L' := [some (.ref 2), some (.int x0), some (.ref p1), some (.ref p5), some (.int (0 : Int32))]) (⟨rfl, ⟨rfl, ⟨rfl, ⟨rfl, ⟨rfl, trivial⟩⟩⟩⟩⟩) hyp
set_option maxRecDepth 10000 in
theorem s_X10_firstUnmet_35 {X : ax_X} {d L sz : Nat} {T : tT} {Q : Int32 → tT → Prop} (hX : ax_ok X mX10_firstUnmet (d + 1)) (hR : ax_Ret X mX10_firstUnmet (ti L sz Q)) (hsz : 161 ≤ sz) {c0 : Nat} (h_c0 : tsy sz c0) {c1 : Nat} (h_c1 : tgr sz c1) (v1 : Int32) (v4 : Int32) (hyp : (((T.1 c1 3) ≤ v4 → Q (-1 : Int32) T) ∧ (¬ (T.1 c1 3) ≤ v4 → vp_in v4 8 ∧ ∃ Q1, tiK d mX4_work [.ref 66, .ref c0, .ref c1, .ref 69, .int v1, .int (T.1 (c1 + 6) (v4.toNatClampNeg))] L sz T Q1 ∧ ∀ (r1 : Int32) (T1 : tT), Q1 r1 T1 → (((¬ r1 = 0 → ax_j X 35 [some (.ref 2), some (.int v1), some (.ref c0), some (.ref c1), some (.int (v4 + (1 : Int32)))] [] (th L sz T1) 0 0) ∧ (r1 = 0 → Q v4 T1)))))) : ax_j X 35 [some (.ref 2), some (.int v1), some (.ref c0), some (.ref c1), some (.int v4)] [] (th L sz T) 0 0 := by
  refine ax_iload hX dX10_firstUnmet_35 rfl ?_
  refine ax_aload_n hX dX10_firstUnmet_37 (Or.inr ⟨_, rfl⟩) rfl ?_
  refine tx_getI hX fRX10_115 h_c1.ly0 fk_3_3 (h_c1.ne 0 (by decide)) (h_c1.lt 0 (by decide)) dX10_firstUnmet_38 ?_
  refine ax_icmp_ge hX dX10_firstUnmet_41 (tgt := 77) (by decide) (fun c => ?_) (fun c => ?_)
  · replace hyp := hyp.1 c
    refine ax_iconst hX dX10_firstUnmet_77 (v := -1) (by decide) ?_
    exact hR.1 _ _ _ _ _ _ (by decide) (by decide) dX10_firstUnmet_78 ⟨_, rfl, rfl⟩ ⟨_, _, rfl, rfl, hyp⟩
  · replace hyp := hyp.2 c
    refine ax_aload_n hX dX10_firstUnmet_44 (Or.inr ⟨_, rfl⟩) rfl ?_
    refine tx_getF hX fRX10_25 ly_2 (o := 64) (b := 66) fk_10_2 rfl (by decide) (Nat.lt_of_lt_of_le (by decide) hsz) dX10_firstUnmet_45 ?_
    refine ax_aload_n hX dX10_firstUnmet_48 (Or.inr ⟨_, rfl⟩) rfl ?_
    refine ax_aload_n hX dX10_firstUnmet_49 (Or.inr ⟨_, rfl⟩) rfl ?_
    refine ax_aload_n hX dX10_firstUnmet_50 (Or.inr ⟨_, rfl⟩) rfl ?_
    refine tx_getF hX fRX10_32 ly_2 (o := 67) (b := 69) fk_10_3 rfl (by decide) (Nat.lt_of_lt_of_le (by decide) hsz) dX10_firstUnmet_51 ?_
    refine ax_iload_n hX dX10_firstUnmet_54 rfl ?_
    refine ax_aload_n hX dX10_firstUnmet_55 (Or.inr ⟨_, rfl⟩) rfl ?_
    refine tx_getF hX fRX10_269 h_c1.ly0 (o := 6) (b := (c1 + 6)) fk_3_12 rfl (h_c1.ne 0 (by decide)) (h_c1.lt 0 (by decide)) dX10_firstUnmet_56 ?_
    refine ax_iload hX dX10_firstUnmet_59 rfl ?_
    refine tx_ial hX h_c1.ly6 (h_c1.ne 6 (by decide)) (h_c1.lt 6 (by decide)) hyp.1 dX10_firstUnmet_61 ?_
    replace hyp := hyp.2
    obtain ⟨Q1, hK, hyp⟩ := hyp
    refine ax_callV hX lRX10_272 im_X4_work sl_X4_work cw_X4_work ((th_at (by decide) (Nat.lt_of_lt_of_le (by decide) hsz)).trans (tc_ob ly_66)) rfl rfl (A := [.ref c0, .ref c1, .ref 69, .int v1, .int (T.1 (c1 + 6) (v4.toNatClampNeg))]) (st := []) rfl rfl (Nat.le_of_ble_eq_true rfl) (by decide) (by decide) dX10_firstUnmet_62 hK ?_
    rintro _ _ ⟨r1, T1, rfl, rfl, hq⟩
    replace hyp := hyp r1 T1 hq
    refine ax_if_ne hX dX10_firstUnmet_65 (tgt := 71) (by decide) (fun c => ?_) (fun c => ?_)
    · replace hyp := hyp.1 c
      refine ax_iinc hX dX10_firstUnmet_71 rfl (w := (v4 + (1 : Int32))) rfl (by decide) (L' := [some (.ref 2), some (.int v1), some (.ref c0), some (.ref c1), some (.int (v4 + (1 : Int32)))]) rfl ?_
      refine ax_goto hX dX10_firstUnmet_74 (tgt := 35) (by decide) ?_
      exact ax_forget (L' := [some (.ref 2), some (.int v1), some (.ref c0), some (.ref c1), some (.int (v4 + (1 : Int32)))]) (⟨rfl, ⟨rfl, ⟨rfl, ⟨rfl, ⟨rfl, trivial⟩⟩⟩⟩⟩) hyp
    · replace hyp := hyp.2 c
      refine ax_iload hX dX10_firstUnmet_68 rfl ?_
      exact hR.1 _ _ _ _ _ _ (by decide) (by decide) dX10_firstUnmet_70 ⟨_, rfl, rfl⟩ ⟨_, _, rfl, rfl, hyp⟩
set_option maxRecDepth 10000 in
theorem s_X10_grade_0 {X : ax_X} {d L sz : Nat} {T : tT} {Q : Int32 → tT → Prop} (hX : ax_ok X mX10_grade (d + 1)) (hR : ax_Ret X mX10_grade (ti L sz Q)) (hsz : 161 ≤ sz) (x0 : Int32) (x1 : Int32) (x2 : Int32) (hyp : ∃ Q1, toK d mX10_findGrade [.ref 2, .int x0, .int x1] L sz T Q1 ∧ ∀ (r1 : Option Nat) (T1 : tT), Q1 r1 T1 → (((r1 = none → Q (-1 : Int32) T1) ∧ (∀ p2, r1 = some p2 → tgr sz p2 ∧ ((x2 < (10 : Int32) → (x2 = 0 → Q (T1.1 p2 1) T1) ∧ (x2 = 1 → Q (T1.1 p2 2) T1) ∧ (x2 = 2 → Q (T1.1 p2 3) T1) ∧ (x2 = 3 → ∃ Q1, tiK d mX3_minutesOrUsual [.ref p2] L sz T1 Q1 ∧ ∀ (r3 : Int32) (T3 : tT), Q1 r3 T3 → (Q r3 T3)) ∧ (¬ x2 = 0 → ¬ x2 = 1 → ¬ x2 = 2 → ¬ x2 = 3 → Q (-1 : Int32) T1)) ∧ (¬ x2 < (10 : Int32) → ((((10 : Int32) + (T1.1 p2 2)) ≤ x2 → (x2 = 0 → Q (T1.1 p2 1) T1) ∧ (x2 = 1 → Q (T1.1 p2 2) T1) ∧ (x2 = 2 → Q (T1.1 p2 3) T1) ∧ (x2 = 3 → ∃ Q1, tiK d mX3_minutesOrUsual [.ref p2] L sz T1 Q1 ∧ ∀ (r4 : Int32) (T4 : tT), Q1 r4 T4 → (Q r4 T4)) ∧ (¬ x2 = 0 → ¬ x2 = 1 → ¬ x2 = 2 → ¬ x2 = 3 → Q (-1 : Int32) T1)) ∧ (¬ ((10 : Int32) + (T1.1 p2 2)) ≤ x2 → vp_in (x2 - (10 : Int32)) 6 ∧ Q (T1.1 (p2 + 5) (x2 - (10 : Int32)).toNatClampNeg) T1)))))))) : ax_j X 0 [some (.ref 2), some (.int x0), some (.int x1), some (.int x2), none] [] (th L sz T) 0 0 := by
  refine ax_aload_n hX dX10_grade_0 (Or.inr ⟨_, rfl⟩) rfl ?_
  refine ax_iload_n hX dX10_grade_1 rfl ?_
  refine ax_iload_n hX dX10_grade_2 rfl ?_
  obtain ⟨Q1, hK, hyp⟩ := hyp
  refine ax_callV hX lRX10_99 im_X10_findGrade sl_X10_findGrade cw_X10_findGrade ((th_at (by decide) (Nat.lt_of_lt_of_le (by decide) hsz)).trans (tc_ob ly_2)) rfl rfl (A := [.int x0, .int x1]) (st := []) rfl rfl (Nat.le_of_ble_eq_true rfl) (by decide) (by decide) dX10_grade_3 hK ?_
  rintro _ _ ⟨r1, T1, rfl, rfl, hq⟩
  replace hyp := hyp r1 T1 hq
  rcases r1 with _ | p2
  · replace hyp := hyp.1 rfl
    refine ax_astore hX dX10_grade_6 (Or.inl rfl) (by decide) (L' := [some (.ref 2), some (.int x0), some (.int x1), some (.int x2), some (.null)]) rfl ?_
    refine ax_aload hX dX10_grade_8 (Or.inl rfl) rfl ?_
    refine ax_ifnonnull hX (r := none) rfl dX10_grade_10 (tgt := 15) (by decide) (fun _ c => ?_) (fun c => ?_)
    · cases c
    refine ax_iconst hX dX10_grade_13 (v := -1) (by decide) ?_
    exact hR.1 _ _ _ _ _ _ (by decide) (by decide) dX10_grade_14 ⟨_, rfl, rfl⟩ ⟨_, _, rfl, rfl, hyp⟩
  · obtain ⟨h_p2, hyp⟩ := hyp.2 p2 rfl
    refine ax_astore hX dX10_grade_6 (Or.inr ⟨_, rfl⟩) (by decide) (L' := [some (.ref 2), some (.int x0), some (.int x1), some (.int x2), some (.ref p2)]) rfl ?_
    refine ax_aload hX dX10_grade_8 (Or.inr ⟨_, rfl⟩) rfl ?_
    refine ax_ifnonnull hX (r := (some p2)) rfl dX10_grade_10 (tgt := 15) (by decide) (fun _ c => ?_) (fun c => ?_)
    rotate_left
    · cases c
    refine ax_iload_n hX dX10_grade_15 rfl ?_
    refine ax_bipush hX dX10_grade_16 (v := 10) (by decide) ?_
    refine ax_icmp_lt hX dX10_grade_18 (tgt := 44) (by decide) (fun c => ?_) (fun c => ?_)
    · replace hyp := hyp.1 c
      refine ax_iload_n hX dX10_grade_44 rfl ?_
      by_cases q0 : x2 = 0
      · replace hyp := hyp.1 q0
        refine ax_tableIn hX dX10_grade_45 (by rw [q0]; decide) (by rw [q0]; decide) (off := 31) (by rw [q0]; rfl) (tgt := 76) (by decide) ?_
        refine ax_aload hX dX10_grade_76 (Or.inr ⟨_, rfl⟩) rfl ?_
        refine tx_getI hX fRX10_112 h_p2.ly0 fk_3_1 (h_p2.ne 0 (by decide)) (h_p2.lt 0 (by decide)) dX10_grade_78 ?_
        exact hR.1 _ _ _ _ _ _ (by decide) (by decide) dX10_grade_81 ⟨_, rfl, rfl⟩ ⟨_, _, rfl, rfl, hyp⟩
      by_cases q1 : x2 = 1
      · replace hyp := hyp.2.1 q1
        refine ax_tableIn hX dX10_grade_45 (by rw [q1]; decide) (by rw [q1]; decide) (off := 37) (by rw [q1]; rfl) (tgt := 82) (by decide) ?_
        refine ax_aload hX dX10_grade_82 (Or.inr ⟨_, rfl⟩) rfl ?_
        refine tx_getI hX fRX10_103 h_p2.ly0 fk_3_2 (h_p2.ne 0 (by decide)) (h_p2.lt 0 (by decide)) dX10_grade_84 ?_
        exact hR.1 _ _ _ _ _ _ (by decide) (by decide) dX10_grade_87 ⟨_, rfl, rfl⟩ ⟨_, _, rfl, rfl, hyp⟩
      by_cases q2 : x2 = 2
      · replace hyp := hyp.2.2.1 q2
        refine ax_tableIn hX dX10_grade_45 (by rw [q2]; decide) (by rw [q2]; decide) (off := 43) (by rw [q2]; rfl) (tgt := 88) (by decide) ?_
        refine ax_aload hX dX10_grade_88 (Or.inr ⟨_, rfl⟩) rfl ?_
        refine tx_getI hX fRX10_115 h_p2.ly0 fk_3_3 (h_p2.ne 0 (by decide)) (h_p2.lt 0 (by decide)) dX10_grade_90 ?_
        exact hR.1 _ _ _ _ _ _ (by decide) (by decide) dX10_grade_93 ⟨_, rfl, rfl⟩ ⟨_, _, rfl, rfl, hyp⟩
      by_cases q3 : x2 = 3
      · replace hyp := hyp.2.2.2.1 q3
        refine ax_tableIn hX dX10_grade_45 (by rw [q3]; decide) (by rw [q3]; decide) (off := 49) (by rw [q3]; rfl) (tgt := 94) (by decide) ?_
        refine ax_aload hX dX10_grade_94 (Or.inr ⟨_, rfl⟩) rfl ?_
        obtain ⟨Q1, hK, hyp⟩ := hyp
        refine ax_callV hX lRX10_118 im_X3_minutesOrUsual sl_X3_minutesOrUsual cw_X3_minutesOrUsual ((th_at (h_p2.ne 0 (by decide)) (h_p2.lt 0 (by decide))).trans (tc_ob h_p2.ly0)) rfl rfl (A := []) (st := []) rfl rfl (Nat.le_of_ble_eq_true rfl) (by decide) (by decide) dX10_grade_96 hK ?_
        rintro _ _ ⟨r3, T3, rfl, rfl, hq⟩
        replace hyp := hyp r3 T3 hq
        exact hR.1 _ _ _ _ _ _ (by decide) (by decide) dX10_grade_99 ⟨_, rfl, rfl⟩ ⟨_, _, rfl, rfl, hyp⟩
      replace hyp := hyp.2.2.2.2 q0 q1 q2 q3
      have z0 := lv_neT (a := 0) q0 rfl
      have z1 := lv_neT (a := 1) q1 rfl
      have z2 := lv_neT (a := 2) q2 rfl
      have z3 := lv_neT (a := 3) q3 rfl
      refine ax_tableOut hX dX10_grade_45 (by omega) (tgt := 100) (by decide) ?_
      refine ax_iconst hX dX10_grade_100 (v := -1) (by decide) ?_
      exact hR.1 _ _ _ _ _ _ (by decide) (by decide) dX10_grade_101 ⟨_, rfl, rfl⟩ ⟨_, _, rfl, rfl, hyp⟩
    · replace hyp := hyp.2 c
      refine ax_iload_n hX dX10_grade_21 rfl ?_
      refine ax_bipush hX dX10_grade_22 (v := 10) (by decide) ?_
      refine ax_aload hX dX10_grade_24 (Or.inr ⟨_, rfl⟩) rfl ?_
      refine tx_getI hX fRX10_103 h_p2.ly0 fk_3_2 (h_p2.ne 0 (by decide)) (h_p2.lt 0 (by decide)) dX10_grade_26 ?_
      refine ax_iadd hX dX10_grade_29 ?_
      refine ax_icmp_ge hX dX10_grade_30 (tgt := 44) (by decide) (fun c => ?_) (fun c => ?_)
      · replace hyp := hyp.1 c
        refine ax_iload_n hX dX10_grade_44 rfl ?_
        by_cases q0 : x2 = 0
        · replace hyp := hyp.1 q0
          refine ax_tableIn hX dX10_grade_45 (by rw [q0]; decide) (by rw [q0]; decide) (off := 31) (by rw [q0]; rfl) (tgt := 76) (by decide) ?_
          refine ax_aload hX dX10_grade_76 (Or.inr ⟨_, rfl⟩) rfl ?_
          refine tx_getI hX fRX10_112 h_p2.ly0 fk_3_1 (h_p2.ne 0 (by decide)) (h_p2.lt 0 (by decide)) dX10_grade_78 ?_
          exact hR.1 _ _ _ _ _ _ (by decide) (by decide) dX10_grade_81 ⟨_, rfl, rfl⟩ ⟨_, _, rfl, rfl, hyp⟩
        by_cases q1 : x2 = 1
        · replace hyp := hyp.2.1 q1
          refine ax_tableIn hX dX10_grade_45 (by rw [q1]; decide) (by rw [q1]; decide) (off := 37) (by rw [q1]; rfl) (tgt := 82) (by decide) ?_
          refine ax_aload hX dX10_grade_82 (Or.inr ⟨_, rfl⟩) rfl ?_
          refine tx_getI hX fRX10_103 h_p2.ly0 fk_3_2 (h_p2.ne 0 (by decide)) (h_p2.lt 0 (by decide)) dX10_grade_84 ?_
          exact hR.1 _ _ _ _ _ _ (by decide) (by decide) dX10_grade_87 ⟨_, rfl, rfl⟩ ⟨_, _, rfl, rfl, hyp⟩
        by_cases q2 : x2 = 2
        · replace hyp := hyp.2.2.1 q2
          refine ax_tableIn hX dX10_grade_45 (by rw [q2]; decide) (by rw [q2]; decide) (off := 43) (by rw [q2]; rfl) (tgt := 88) (by decide) ?_
          refine ax_aload hX dX10_grade_88 (Or.inr ⟨_, rfl⟩) rfl ?_
          refine tx_getI hX fRX10_115 h_p2.ly0 fk_3_3 (h_p2.ne 0 (by decide)) (h_p2.lt 0 (by decide)) dX10_grade_90 ?_
          exact hR.1 _ _ _ _ _ _ (by decide) (by decide) dX10_grade_93 ⟨_, rfl, rfl⟩ ⟨_, _, rfl, rfl, hyp⟩
        by_cases q3 : x2 = 3
        · replace hyp := hyp.2.2.2.1 q3
          refine ax_tableIn hX dX10_grade_45 (by rw [q3]; decide) (by rw [q3]; decide) (off := 49) (by rw [q3]; rfl) (tgt := 94) (by decide) ?_
          refine ax_aload hX dX10_grade_94 (Or.inr ⟨_, rfl⟩) rfl ?_
          obtain ⟨Q1, hK, hyp⟩ := hyp
          refine ax_callV hX lRX10_118 im_X3_minutesOrUsual sl_X3_minutesOrUsual cw_X3_minutesOrUsual ((th_at (h_p2.ne 0 (by decide)) (h_p2.lt 0 (by decide))).trans (tc_ob h_p2.ly0)) rfl rfl (A := []) (st := []) rfl rfl (Nat.le_of_ble_eq_true rfl) (by decide) (by decide) dX10_grade_96 hK ?_
          rintro _ _ ⟨r4, T4, rfl, rfl, hq⟩
          replace hyp := hyp r4 T4 hq
          exact hR.1 _ _ _ _ _ _ (by decide) (by decide) dX10_grade_99 ⟨_, rfl, rfl⟩ ⟨_, _, rfl, rfl, hyp⟩
        replace hyp := hyp.2.2.2.2 q0 q1 q2 q3
        have z0 := lv_neT (a := 0) q0 rfl
        have z1 := lv_neT (a := 1) q1 rfl
        have z2 := lv_neT (a := 2) q2 rfl
        have z3 := lv_neT (a := 3) q3 rfl
        refine ax_tableOut hX dX10_grade_45 (by omega) (tgt := 100) (by decide) ?_
        refine ax_iconst hX dX10_grade_100 (v := -1) (by decide) ?_
        exact hR.1 _ _ _ _ _ _ (by decide) (by decide) dX10_grade_101 ⟨_, rfl, rfl⟩ ⟨_, _, rfl, rfl, hyp⟩
      · replace hyp := hyp.2 c
        refine ax_aload hX dX10_grade_33 (Or.inr ⟨_, rfl⟩) rfl ?_
        refine tx_getF hX fRX10_108 h_p2.ly0 (o := 5) (b := (p2 + 5)) fk_3_11 rfl (h_p2.ne 0 (by decide)) (h_p2.lt 0 (by decide)) dX10_grade_35 ?_
        refine ax_iload_n hX dX10_grade_38 rfl ?_
        refine ax_bipush hX dX10_grade_39 (v := 10) (by decide) ?_
        refine ax_isub hX dX10_grade_41 ?_
        refine tx_ial hX h_p2.ly5 (h_p2.ne 5 (by decide)) (h_p2.lt 5 (by decide)) hyp.1 dX10_grade_42 ?_
        replace hyp := hyp.2
        exact hR.1 _ _ _ _ _ _ (by decide) (by decide) dX10_grade_43 ⟨_, rfl, rfl⟩ ⟨_, _, rfl, rfl, hyp⟩
set_option maxRecDepth 10000 in
theorem s_X10_gradeOf_0 {X : ax_X} {d L sz : Nat} {T : tT} {Q : Option Nat → tT → Prop} (hX : ax_ok X mX10_gradeOf (d + 1)) (hR : ax_Ret X mX10_gradeOf (to L sz Q)) (hsz : 161 ≤ sz) (x0 : Int32) (hyp : vp_in x0 40 ∧ vp_in x0 40 ∧ ∃ Q1, toK d mX10_findGrade [.ref 2, .int (T.1 71 (x0.toNatClampNeg)), .int (T.1 72 (x0.toNatClampNeg))] L sz T Q1 ∧ ∀ (r1 : Option Nat) (T1 : tT), Q1 r1 T1 → (((r1 = none → Q none T1) ∧ (∀ p2, r1 = some p2 → tgr sz p2 ∧ Q (some p2) T1)))) : ax_j X 0 [some (.ref 2), some (.int x0)] [] (th L sz T) 0 0 := by
  refine ax_aload_n hX dX10_gradeOf_0 (Or.inr ⟨_, rfl⟩) rfl ?_
  refine ax_aload_n hX dX10_gradeOf_1 (Or.inr ⟨_, rfl⟩) rfl ?_
  refine tx_getF hX fRX10_32 ly_2 (o := 67) (b := 69) fk_10_3 rfl (by decide) (Nat.lt_of_lt_of_le (by decide) hsz) dX10_gradeOf_2 ?_
  refine tx_getF hX fRX10_260 ly_69 (o := 2) (b := 71) fk_2_2 rfl (by decide) (Nat.lt_of_lt_of_le (by decide) hsz) dX10_gradeOf_5 ?_
  refine ax_iload_n hX dX10_gradeOf_8 rfl ?_
  refine tx_ial hX ly_71 (by decide) (Nat.lt_of_lt_of_le (by decide) hsz) hyp.1 dX10_gradeOf_9 ?_
  replace hyp := hyp.2
  refine ax_aload_n hX dX10_gradeOf_10 (Or.inr ⟨_, rfl⟩) rfl ?_
  refine tx_getF hX fRX10_32 ly_2 (o := 67) (b := 69) fk_10_3 rfl (by decide) (Nat.lt_of_lt_of_le (by decide) hsz) dX10_gradeOf_11 ?_
  refine tx_getF hX fRX10_263 ly_69 (o := 3) (b := 72) fk_2_3 rfl (by decide) (Nat.lt_of_lt_of_le (by decide) hsz) dX10_gradeOf_14 ?_
  refine ax_iload_n hX dX10_gradeOf_17 rfl ?_
  refine tx_ial hX ly_72 (by decide) (Nat.lt_of_lt_of_le (by decide) hsz) hyp.1 dX10_gradeOf_18 ?_
  replace hyp := hyp.2
  obtain ⟨Q1, hK, hyp⟩ := hyp
  refine ax_callV hX lRX10_99 im_X10_findGrade sl_X10_findGrade cw_X10_findGrade ((th_at (by decide) (Nat.lt_of_lt_of_le (by decide) hsz)).trans (tc_ob ly_2)) rfl rfl (A := [.int (T.1 71 (x0.toNatClampNeg)), .int (T.1 72 (x0.toNatClampNeg))]) (st := []) rfl rfl (Nat.le_of_ble_eq_true rfl) (by decide) (by decide) dX10_gradeOf_19 hK ?_
  rintro _ _ ⟨r1, T1, rfl, rfl, hq⟩
  replace hyp := hyp r1 T1 hq
  rcases r1 with _ | p2
  · replace hyp := hyp.1 rfl
    exact hR.2.2.1 _ _ _ _ _ _ (by decide) (by decide) dX10_gradeOf_22 ⟨_, rfl⟩ (Or.inl rfl) ⟨none, _, rfl, rfl, hyp⟩
  · obtain ⟨h_p2, hyp⟩ := hyp.2 p2 rfl
    exact hR.2.2.1 _ _ _ _ _ _ (by decide) (by decide) dX10_gradeOf_22 ⟨_, rfl⟩ (Or.inr ⟨_, rfl⟩) ⟨(some p2), _, rfl, rfl, hyp⟩
set_option maxRecDepth 10000 in
theorem s_X10_gradesOf_0 {X : ax_X} {d L sz : Nat} {T : tT} {Q : Int32 → tT → Prop} (hX : ax_ok X mX10_gradesOf (d + 1)) (hR : ax_Ret X mX10_gradesOf (ti L sz Q)) (hsz : 161 ≤ sz) (x0 : Int32) (hyp : ∃ Q1, tiK d mX10_isTerm [.int x0] L sz T Q1 ∧ ∀ (r1 : Int32) (T1 : tT), Q1 r1 T1 → (((r1 = 0 → Q (0 : Int32) T1) ∧ (¬ r1 = 0 → vp_in x0 4 ∧ (((T1.2.2 65 (x0.toNatClampNeg)) = none → Q (0 : Int32) T1) ∧ (∀ p2, (T1.2.2 65 (x0.toNatClampNeg)) = some p2 → tsy sz p2 ∧ Q (T1.1 p2 2) T1)))))) : ax_j X 0 [some (.ref 2), some (.int x0), none] [] (th L sz T) 0 0 := by
  refine ax_iload_n hX dX10_gradesOf_0 rfl ?_
  obtain ⟨Q1, hK, hyp⟩ := hyp
  refine ax_callS hX lRX10_78 sm_X10_isTerm cw_X10_isTerm (A := [.int x0]) (st := []) rfl rfl (Nat.le_of_ble_eq_true rfl) (by decide) (by decide) dX10_gradesOf_1 hK ?_
  rintro _ _ ⟨r1, T1, rfl, rfl, hq⟩
  replace hyp := hyp r1 T1 hq
  refine ax_if_eq hX dX10_gradesOf_4 (tgt := 16) (by decide) (fun c => ?_) (fun c => ?_)
  · replace hyp := hyp.1 c
    refine ax_null hX dX10_gradesOf_16 ?_
    refine ax_astore_n hX dX10_gradesOf_17 (Or.inl rfl) (by decide) (L' := [some (.ref 2), some (.int x0), some (.null)]) rfl ?_
    refine ax_aload_n hX dX10_gradesOf_18 (Or.inl rfl) rfl ?_
    refine ax_ifnonnull hX (r := none) rfl dX10_gradesOf_19 (tgt := 26) (by decide) (fun _ c => ?_) (fun c => ?_)
    · cases c
    refine ax_iconst hX dX10_gradesOf_22 (v := 0) (by decide) ?_
    refine ax_goto hX dX10_gradesOf_23 (tgt := 30) (by decide) ?_
    exact hR.1 _ _ _ _ _ _ (by decide) (by decide) dX10_gradesOf_30 ⟨_, rfl, rfl⟩ ⟨_, _, rfl, rfl, hyp⟩
  · replace hyp := hyp.2 c
    refine ax_aload_n hX dX10_gradesOf_7 (Or.inr ⟨_, rfl⟩) rfl ?_
    refine tx_getF hX fRX10_18 ly_2 (o := 63) (b := 65) fk_10_1 rfl (by decide) (Nat.lt_of_lt_of_le (by decide) hsz) dX10_gradesOf_8 ?_
    refine ax_iload_n hX dX10_gradesOf_11 rfl ?_
    have hin := hyp.1
    replace hyp := hyp.2
    rcases ho2 : (T1.2.2 65 (x0.toNatClampNeg)) with _ | p2
    · replace hyp := hyp.1 ho2
      refine tx_aal hX ly_65 (by decide) (by decide) (Nat.lt_of_lt_of_le (by decide) hsz) hin (v := .null) (congrArg va_rf ho2) dX10_gradesOf_12 ?_
      refine ax_goto hX dX10_gradesOf_13 (tgt := 17) (by decide) ?_
      refine ax_astore_n hX dX10_gradesOf_17 (Or.inl rfl) (by decide) (L' := [some (.ref 2), some (.int x0), some (.null)]) rfl ?_
      refine ax_aload_n hX dX10_gradesOf_18 (Or.inl rfl) rfl ?_
      refine ax_ifnonnull hX (r := none) rfl dX10_gradesOf_19 (tgt := 26) (by decide) (fun _ c => ?_) (fun c => ?_)
      · cases c
      refine ax_iconst hX dX10_gradesOf_22 (v := 0) (by decide) ?_
      refine ax_goto hX dX10_gradesOf_23 (tgt := 30) (by decide) ?_
      exact hR.1 _ _ _ _ _ _ (by decide) (by decide) dX10_gradesOf_30 ⟨_, rfl, rfl⟩ ⟨_, _, rfl, rfl, hyp⟩
    · obtain ⟨h_p2, hyp⟩ := hyp.2 p2 ho2
      refine tx_aal hX ly_65 (by decide) (by decide) (Nat.lt_of_lt_of_le (by decide) hsz) hin (v := .ref p2) (congrArg va_rf ho2) dX10_gradesOf_12 ?_
      refine ax_goto hX dX10_gradesOf_13 (tgt := 17) (by decide) ?_
      refine ax_astore_n hX dX10_gradesOf_17 (Or.inr ⟨_, rfl⟩) (by decide) (L' := [some (.ref 2), some (.int x0), some (.ref p2)]) rfl ?_
      refine ax_aload_n hX dX10_gradesOf_18 (Or.inr ⟨_, rfl⟩) rfl ?_
      refine ax_ifnonnull hX (r := (some p2)) rfl dX10_gradesOf_19 (tgt := 26) (by decide) (fun _ c => ?_) (fun c => ?_)
      rotate_left
      · cases c
      refine ax_aload_n hX dX10_gradesOf_26 (Or.inr ⟨_, rfl⟩) rfl ?_
      refine tx_getI hX fRX10_253 h_p2.ly0 fk_8_2 (h_p2.ne 0 (by decide)) (h_p2.lt 0 (by decide)) dX10_gradesOf_27 ?_
      exact hR.1 _ _ _ _ _ _ (by decide) (by decide) dX10_gradesOf_30 ⟨_, rfl, rfl⟩ ⟨_, _, rfl, rfl, hyp⟩
set_option maxRecDepth 10000 in
theorem s_X10_hardness_0 {X : ax_X} {d L sz : Nat} {T : tT} {Q : Int32 → tT → Prop} (hX : ax_ok X mX10_hardness (d + 1)) (hR : ax_Ret X mX10_hardness (ti L sz Q)) (hsz : 161 ≤ sz) (x0 : Int32) (hyp : ∃ Q1, tiK d mX1_hasExaminer [.ref 79, .int x0] L sz T Q1 ∧ ∀ (r1 : Int32) (T1 : tT), Q1 r1 T1 → (((¬ r1 = 0 → ∃ Q1, tiK d mX5_hardnessOf [.ref 93, .int x0, .int (T1.1 79 1)] L sz T1 Q1 ∧ ∀ (r2 : Int32) (T2 : tT), Q1 r2 T2 → (Q r2 T2)) ∧ (r1 = 0 → Q (-1000 : Int32) T1)))) : ax_j X 0 [some (.ref 2), some (.int x0)] [] (th L sz T) 0 0 := by
  refine ax_aload_n hX dX10_hardness_0 (Or.inr ⟨_, rfl⟩) rfl ?_
  refine tx_getF hX fRX10_39 ly_2 (o := 77) (b := 79) fk_10_4 rfl (by decide) (Nat.lt_of_lt_of_le (by decide) hsz) dX10_hardness_1 ?_
  refine ax_iload_n hX dX10_hardness_4 rfl ?_
  obtain ⟨Q1, hK, hyp⟩ := hyp
  refine ax_callV hX lRX10_126 im_X1_hasExaminer sl_X1_hasExaminer cw_X1_hasExaminer ((th_at (by decide) (Nat.lt_of_lt_of_le (by decide) hsz)).trans (tc_ob ly_79)) rfl rfl (A := [.int x0]) (st := []) rfl rfl (Nat.le_of_ble_eq_true rfl) (by decide) (by decide) dX10_hardness_5 hK ?_
  rintro _ _ ⟨r1, T1, rfl, rfl, hq⟩
  replace hyp := hyp r1 T1 hq
  refine ax_if_ne hX dX10_hardness_8 (tgt := 15) (by decide) (fun c => ?_) (fun c => ?_)
  · replace hyp := hyp.1 c
    refine ax_aload_n hX dX10_hardness_15 (Or.inr ⟨_, rfl⟩) rfl ?_
    refine tx_getF hX fRX10_53 ly_2 (o := 91) (b := 93) fk_10_6 rfl (by decide) (Nat.lt_of_lt_of_le (by decide) hsz) dX10_hardness_16 ?_
    refine ax_iload_n hX dX10_hardness_19 rfl ?_
    refine ax_aload_n hX dX10_hardness_20 (Or.inr ⟨_, rfl⟩) rfl ?_
    refine tx_getF hX fRX10_39 ly_2 (o := 77) (b := 79) fk_10_4 rfl (by decide) (Nat.lt_of_lt_of_le (by decide) hsz) dX10_hardness_21 ?_
    refine tx_getI hX fRX10_188 ly_79 fk_1_1 (by decide) (Nat.lt_of_lt_of_le (by decide) hsz) dX10_hardness_24 ?_
    obtain ⟨Q1, hK, hyp⟩ := hyp
    refine ax_callV hX lRX10_229 im_X5_hardnessOf sl_X5_hardnessOf cw_X5_hardnessOf ((th_at (by decide) (Nat.lt_of_lt_of_le (by decide) hsz)).trans (tc_ob ly_93)) rfl rfl (A := [.int x0, .int (T1.1 79 1)]) (st := []) rfl rfl (Nat.le_of_ble_eq_true rfl) (by decide) (by decide) dX10_hardness_27 hK ?_
    rintro _ _ ⟨r2, T2, rfl, rfl, hq⟩
    replace hyp := hyp r2 T2 hq
    exact hR.1 _ _ _ _ _ _ (by decide) (by decide) dX10_hardness_30 ⟨_, rfl, rfl⟩ ⟨_, _, rfl, rfl, hyp⟩
  · replace hyp := hyp.2 c
    refine ax_sipush hX dX10_hardness_11 (v := -1000) (by decide) ?_
    exact hR.1 _ _ _ _ _ _ (by decide) (by decide) dX10_hardness_14 ⟨_, rfl, rfl⟩ ⟨_, _, rfl, rfl, hyp⟩
set_option maxRecDepth 10000 in
theorem s_X10_heardElsewhere_0 {X : ax_X} {d L sz : Nat} {T : tT} {Q : Int32 → tT → Prop} (hX : ax_ok X mX10_heardElsewhere (d + 1)) (hR : ax_Ret X mX10_heardElsewhere (ti L sz Q)) (hsz : 161 ≤ sz) (x0 : Int32) (x1 : Int32) (hyp : ax_j X 2 [some (.ref 2), some (.int x0), some (.int x1), some (.int (0 : Int32)), none] [] (th L sz T) 0 0) : ax_j X 0 [some (.ref 2), some (.int x0), some (.int x1), none, none] [] (th L sz T) 0 0 := by
  refine ax_iconst hX dX10_heardElsewhere_0 (v := 0) (by decide) ?_
  refine ax_istore_n hX dX10_heardElsewhere_1 (by decide) (L' := [some (.ref 2), some (.int x0), some (.int x1), some (.int (0 : Int32)), none]) rfl ?_
  exact ax_forget (L' := [some (.ref 2), some (.int x0), some (.int x1), some (.int (0 : Int32)), none]) (⟨rfl, ⟨rfl, ⟨rfl, ⟨rfl, trivial⟩⟩⟩⟩) hyp
set_option maxRecDepth 10000 in
theorem s_X10_heardElsewhere_2 {X : ax_X} {d L sz : Nat} {T : tT} {Q : Int32 → tT → Prop} (hX : ax_ok X mX10_heardElsewhere (d + 1)) (hR : ax_Ret X mX10_heardElsewhere (ti L sz Q)) (hsz : 161 ≤ sz) (v1 : Int32) (v2 : Int32) (v3 : Int32) (hyp : (((T.1 93 1) ≤ v3 → Q (0 : Int32) T) ∧ (¬ (T.1 93 1) ≤ v3 → vp_in v3 200 ∧ vp_in v3 200 ∧ ((¬ (T.1 95 (v3.toNatClampNeg)) = v1 → ax_j X 2 [some (.ref 2), some (.int v1), some (.int v2), some (.int (v3 + (1 : Int32))), none] [] (th L sz T) 0 0) ∧ ((T.1 95 (v3.toNatClampNeg)) = v1 → ∃ Q1, tiK d mX5_stands [.ref 93, .int v3] L sz T Q1 ∧ ∀ (r1 : Int32) (T1 : tT), Q1 r1 T1 → (((r1 = 0 → ax_j X 2 [some (.ref 2), some (.int v1), some (.int v2), some (.int (v3 + (1 : Int32))), none] [] (th L sz T1) 0 0) ∧ (¬ r1 = 0 → (((T.1 94 (v3.toNatClampNeg)) = v2 → ax_j X 2 [some (.ref 2), some (.int v1), some (.int v2), some (.int (v3 + (1 : Int32))), none] [] (th L sz T1) 0 0) ∧ (¬ (T.1 94 (v3.toNatClampNeg)) = v2 → vp_in (T.1 94 (v3.toNatClampNeg)) 40 ∧ vp_in v2 40 ∧ ((¬ (T1.1 70 (T.1 94 (v3.toNatClampNeg)).toNatClampNeg) = (T1.1 70 (v2.toNatClampNeg)) → ax_j X 2 [some (.ref 2), some (.int v1), some (.int v2), some (.int (v3 + (1 : Int32))), none] [] (th L sz T1) 0 0) ∧ ((T1.1 70 (T.1 94 (v3.toNatClampNeg)).toNatClampNeg) = (T1.1 70 (v2.toNatClampNeg)) → Q (1 : Int32) T1)))))))))))) : ax_j X 2 [some (.ref 2), some (.int v1), some (.int v2), some (.int v3), none] [] (th L sz T) 0 0 := by
  refine ax_iload_n hX dX10_heardElsewhere_2 rfl ?_
  refine ax_aload_n hX dX10_heardElsewhere_3 (Or.inr ⟨_, rfl⟩) rfl ?_
  refine tx_getF hX fRX10_53 ly_2 (o := 91) (b := 93) fk_10_6 rfl (by decide) (Nat.lt_of_lt_of_le (by decide) hsz) dX10_heardElsewhere_4 ?_
  refine tx_getI hX fRX10_251 ly_93 fk_5_1 (by decide) (Nat.lt_of_lt_of_le (by decide) hsz) dX10_heardElsewhere_7 ?_
  refine ax_icmp_ge hX dX10_heardElsewhere_10 (tgt := 84) (by decide) (fun c => ?_) (fun c => ?_)
  · replace hyp := hyp.1 c
    refine ax_iconst hX dX10_heardElsewhere_84 (v := 0) (by decide) ?_
    exact hR.1 _ _ _ _ _ _ (by decide) (by decide) dX10_heardElsewhere_85 ⟨_, rfl, rfl⟩ ⟨_, _, rfl, rfl, hyp⟩
  · replace hyp := hyp.2 c
    refine ax_aload_n hX dX10_heardElsewhere_13 (Or.inr ⟨_, rfl⟩) rfl ?_
    refine tx_getF hX fRX10_53 ly_2 (o := 91) (b := 93) fk_10_6 rfl (by decide) (Nat.lt_of_lt_of_le (by decide) hsz) dX10_heardElsewhere_14 ?_
    refine tx_getF hX fRX10_303 ly_93 (o := 1) (b := 94) fk_5_2 rfl (by decide) (Nat.lt_of_lt_of_le (by decide) hsz) dX10_heardElsewhere_17 ?_
    refine ax_iload_n hX dX10_heardElsewhere_20 rfl ?_
    refine tx_ial hX ly_94 (by decide) (Nat.lt_of_lt_of_le (by decide) hsz) hyp.1 dX10_heardElsewhere_21 ?_
    replace hyp := hyp.2
    refine ax_istore hX dX10_heardElsewhere_22 (by decide) (L' := [some (.ref 2), some (.int v1), some (.int v2), some (.int v3), some (.int (T.1 94 (v3.toNatClampNeg)))]) rfl ?_
    refine ax_aload_n hX dX10_heardElsewhere_24 (Or.inr ⟨_, rfl⟩) rfl ?_
    refine tx_getF hX fRX10_53 ly_2 (o := 91) (b := 93) fk_10_6 rfl (by decide) (Nat.lt_of_lt_of_le (by decide) hsz) dX10_heardElsewhere_25 ?_
    refine tx_getF hX fRX10_304 ly_93 (o := 2) (b := 95) fk_5_3 rfl (by decide) (Nat.lt_of_lt_of_le (by decide) hsz) dX10_heardElsewhere_28 ?_
    refine ax_iload_n hX dX10_heardElsewhere_31 rfl ?_
    refine tx_ial hX ly_95 (by decide) (Nat.lt_of_lt_of_le (by decide) hsz) hyp.1 dX10_heardElsewhere_32 ?_
    replace hyp := hyp.2
    refine ax_iload_n hX dX10_heardElsewhere_33 rfl ?_
    refine ax_icmp_ne hX dX10_heardElsewhere_34 (tgt := 78) (by decide) (fun c => ?_) (fun c => ?_)
    · replace hyp := hyp.1 c
      refine ax_iinc hX dX10_heardElsewhere_78 rfl (w := (v3 + (1 : Int32))) rfl (by decide) (L' := [some (.ref 2), some (.int v1), some (.int v2), some (.int (v3 + (1 : Int32))), some (.int (T.1 94 (v3.toNatClampNeg)))]) rfl ?_
      refine ax_goto hX dX10_heardElsewhere_81 (tgt := 2) (by decide) ?_
      exact ax_forget (L' := [some (.ref 2), some (.int v1), some (.int v2), some (.int (v3 + (1 : Int32))), none]) (⟨rfl, ⟨rfl, ⟨rfl, ⟨rfl, trivial⟩⟩⟩⟩) hyp
    · replace hyp := hyp.2 c
      refine ax_aload_n hX dX10_heardElsewhere_37 (Or.inr ⟨_, rfl⟩) rfl ?_
      refine tx_getF hX fRX10_53 ly_2 (o := 91) (b := 93) fk_10_6 rfl (by decide) (Nat.lt_of_lt_of_le (by decide) hsz) dX10_heardElsewhere_38 ?_
      refine ax_iload_n hX dX10_heardElsewhere_41 rfl ?_
      obtain ⟨Q1, hK, hyp⟩ := hyp
      refine ax_callV hX lRX10_307 im_X5_stands sl_X5_stands cw_X5_stands ((th_at (by decide) (Nat.lt_of_lt_of_le (by decide) hsz)).trans (tc_ob ly_93)) rfl rfl (A := [.int v3]) (st := []) rfl rfl (Nat.le_of_ble_eq_true rfl) (by decide) (by decide) dX10_heardElsewhere_42 hK ?_
      rintro _ _ ⟨r1, T1, rfl, rfl, hq⟩
      replace hyp := hyp r1 T1 hq
      refine ax_if_eq hX dX10_heardElsewhere_45 (tgt := 78) (by decide) (fun c => ?_) (fun c => ?_)
      · replace hyp := hyp.1 c
        refine ax_iinc hX dX10_heardElsewhere_78 rfl (w := (v3 + (1 : Int32))) rfl (by decide) (L' := [some (.ref 2), some (.int v1), some (.int v2), some (.int (v3 + (1 : Int32))), some (.int (T.1 94 (v3.toNatClampNeg)))]) rfl ?_
        refine ax_goto hX dX10_heardElsewhere_81 (tgt := 2) (by decide) ?_
        exact ax_forget (L' := [some (.ref 2), some (.int v1), some (.int v2), some (.int (v3 + (1 : Int32))), none]) (⟨rfl, ⟨rfl, ⟨rfl, ⟨rfl, trivial⟩⟩⟩⟩) hyp
      · replace hyp := hyp.2 c
        refine ax_iload hX dX10_heardElsewhere_48 rfl ?_
        refine ax_iload_n hX dX10_heardElsewhere_50 rfl ?_
        refine ax_icmp_eq hX dX10_heardElsewhere_51 (tgt := 78) (by decide) (fun c => ?_) (fun c => ?_)
        · replace hyp := hyp.1 c
          refine ax_iinc hX dX10_heardElsewhere_78 rfl (w := (v3 + (1 : Int32))) rfl (by decide) (L' := [some (.ref 2), some (.int v1), some (.int v2), some (.int (v3 + (1 : Int32))), some (.int (T.1 94 (v3.toNatClampNeg)))]) rfl ?_
          refine ax_goto hX dX10_heardElsewhere_81 (tgt := 2) (by decide) ?_
          exact ax_forget (L' := [some (.ref 2), some (.int v1), some (.int v2), some (.int (v3 + (1 : Int32))), none]) (⟨rfl, ⟨rfl, ⟨rfl, ⟨rfl, trivial⟩⟩⟩⟩) hyp
        · replace hyp := hyp.2 c
          refine ax_aload_n hX dX10_heardElsewhere_54 (Or.inr ⟨_, rfl⟩) rfl ?_
          refine tx_getF hX fRX10_32 ly_2 (o := 67) (b := 69) fk_10_3 rfl (by decide) (Nat.lt_of_lt_of_le (by decide) hsz) dX10_heardElsewhere_55 ?_
          refine tx_getF hX fRX10_310 ly_69 (o := 1) (b := 70) fk_2_1 rfl (by decide) (Nat.lt_of_lt_of_le (by decide) hsz) dX10_heardElsewhere_58 ?_
          refine ax_iload hX dX10_heardElsewhere_61 rfl ?_
          refine tx_ial hX ly_70 (by decide) (Nat.lt_of_lt_of_le (by decide) hsz) hyp.1 dX10_heardElsewhere_63 ?_
          replace hyp := hyp.2
          refine ax_aload_n hX dX10_heardElsewhere_64 (Or.inr ⟨_, rfl⟩) rfl ?_
          refine tx_getF hX fRX10_32 ly_2 (o := 67) (b := 69) fk_10_3 rfl (by decide) (Nat.lt_of_lt_of_le (by decide) hsz) dX10_heardElsewhere_65 ?_
          refine tx_getF hX fRX10_310 ly_69 (o := 1) (b := 70) fk_2_1 rfl (by decide) (Nat.lt_of_lt_of_le (by decide) hsz) dX10_heardElsewhere_68 ?_
          refine ax_iload_n hX dX10_heardElsewhere_71 rfl ?_
          refine tx_ial hX ly_70 (by decide) (Nat.lt_of_lt_of_le (by decide) hsz) hyp.1 dX10_heardElsewhere_72 ?_
          replace hyp := hyp.2
          refine ax_icmp_ne hX dX10_heardElsewhere_73 (tgt := 78) (by decide) (fun c => ?_) (fun c => ?_)
          · replace hyp := hyp.1 c
            refine ax_iinc hX dX10_heardElsewhere_78 rfl (w := (v3 + (1 : Int32))) rfl (by decide) (L' := [some (.ref 2), some (.int v1), some (.int v2), some (.int (v3 + (1 : Int32))), some (.int (T.1 94 (v3.toNatClampNeg)))]) rfl ?_
            refine ax_goto hX dX10_heardElsewhere_81 (tgt := 2) (by decide) ?_
            exact ax_forget (L' := [some (.ref 2), some (.int v1), some (.int v2), some (.int (v3 + (1 : Int32))), none]) (⟨rfl, ⟨rfl, ⟨rfl, ⟨rfl, trivial⟩⟩⟩⟩) hyp
          · replace hyp := hyp.2 c
            refine ax_iconst hX dX10_heardElsewhere_76 (v := 1) (by decide) ?_
            exact hR.1 _ _ _ _ _ _ (by decide) (by decide) dX10_heardElsewhere_77 ⟨_, rfl, rfl⟩ ⟨_, _, rfl, rfl, hyp⟩
set_option maxRecDepth 10000 in
theorem s_X10_holds_0 {X : ax_X} {d L sz : Nat} {T : tT} {Q : Int32 → tT → Prop} (hX : ax_ok X mX10_holds (d + 1)) (hR : ax_Ret X mX10_holds (ti L sz Q)) (hsz : 161 ≤ sz) (x0 : Int32) (x1 : Int32) (hyp : ∃ Q1, tiK d mX0_has [.ref 101, .int x0] L sz T Q1 ∧ ∀ (r1 : Int32) (T1 : tT), Q1 r1 T1 → (((¬ r1 = 0 → vp_in (x0 - (1 : Int32)) 60 ∧ ((x1 < (T1.1 103 (x0 - (1 : Int32)).toNatClampNeg) → vp_in (x0 - (1 : Int32)) 60 ∧ Q (0 : Int32) T1) ∧ (¬ x1 < (T1.1 103 (x0 - (1 : Int32)).toNatClampNeg) → vp_in (x0 - (1 : Int32)) 60 ∧ vp_in (x0 - (1 : Int32)) 60 ∧ ∃ Q1, tiK d mX10_resultOf [.ref 2, .int (T1.1 102 (x0 - (1 : Int32)).toNatClampNeg), .int x1] L sz T1 Q1 ∧ ∀ (r2 : Int32) (T2 : tT), Q1 r2 T2 → (((r2 < (T1.1 104 (x0 - (1 : Int32)).toNatClampNeg) → Q (0 : Int32) T2) ∧ (¬ r2 < (T1.1 104 (x0 - (1 : Int32)).toNatClampNeg) → Q (1 : Int32) T2)))))) ∧ (r1 = 0 → Q (-1 : Int32) T1)))) : ax_j X 0 [some (.ref 2), some (.int x0), some (.int x1), none, none] [] (th L sz T) 0 0 := by
  refine ax_aload_n hX dX10_holds_0 (Or.inr ⟨_, rfl⟩) rfl ?_
  refine tx_getF hX fRX10_60 ly_2 (o := 99) (b := 101) fk_10_7 rfl (by decide) (Nat.lt_of_lt_of_le (by decide) hsz) dX10_holds_1 ?_
  refine ax_iload_n hX dX10_holds_4 rfl ?_
  obtain ⟨Q1, hK, hyp⟩ := hyp
  refine ax_callV hX lRX10_238 im_X0_has sl_X0_has cw_X0_has ((th_at (by decide) (Nat.lt_of_lt_of_le (by decide) hsz)).trans (tc_ob ly_101)) rfl rfl (A := [.int x0]) (st := []) rfl rfl (Nat.le_of_ble_eq_true rfl) (by decide) (by decide) dX10_holds_5 hK ?_
  rintro _ _ ⟨r1, T1, rfl, rfl, hq⟩
  replace hyp := hyp r1 T1 hq
  refine ax_if_ne hX dX10_holds_8 (tgt := 13) (by decide) (fun c => ?_) (fun c => ?_)
  · replace hyp := hyp.1 c
    refine ax_iload_n hX dX10_holds_13 rfl ?_
    refine ax_aload_n hX dX10_holds_14 (Or.inr ⟨_, rfl⟩) rfl ?_
    refine tx_getF hX fRX10_60 ly_2 (o := 99) (b := 101) fk_10_7 rfl (by decide) (Nat.lt_of_lt_of_le (by decide) hsz) dX10_holds_15 ?_
    refine tx_getF hX fRX10_241 ly_101 (o := 2) (b := 103) fk_0_2 rfl (by decide) (Nat.lt_of_lt_of_le (by decide) hsz) dX10_holds_18 ?_
    refine ax_iload_n hX dX10_holds_21 rfl ?_
    refine ax_iconst hX dX10_holds_22 (v := 1) (by decide) ?_
    refine ax_isub hX dX10_holds_23 ?_
    refine tx_ial hX ly_103 (by decide) (Nat.lt_of_lt_of_le (by decide) hsz) hyp.1 dX10_holds_24 ?_
    replace hyp := hyp.2
    refine ax_icmp_lt hX dX10_holds_25 (tgt := 32) (by decide) (fun c => ?_) (fun c => ?_)
    · replace hyp := hyp.1 c
      refine ax_iconst hX dX10_holds_32 (v := 0) (by decide) ?_
      refine ax_istore_n hX dX10_holds_33 (by decide) (L' := [some (.ref 2), some (.int x0), some (.int x1), some (.int (0 : Int32)), none]) rfl ?_
      refine ax_aload_n hX dX10_holds_34 (Or.inr ⟨_, rfl⟩) rfl ?_
      refine tx_getF hX fRX10_60 ly_2 (o := 99) (b := 101) fk_10_7 rfl (by decide) (Nat.lt_of_lt_of_le (by decide) hsz) dX10_holds_35 ?_
      refine tx_getF hX fRX10_242 ly_101 (o := 3) (b := 104) fk_0_3 rfl (by decide) (Nat.lt_of_lt_of_le (by decide) hsz) dX10_holds_38 ?_
      refine ax_iload_n hX dX10_holds_41 rfl ?_
      refine ax_iconst hX dX10_holds_42 (v := 1) (by decide) ?_
      refine ax_isub hX dX10_holds_43 ?_
      refine tx_ial hX ly_104 (by decide) (Nat.lt_of_lt_of_le (by decide) hsz) hyp.1 dX10_holds_44 ?_
      replace hyp := hyp.2
      refine ax_istore hX dX10_holds_45 (by decide) (L' := [some (.ref 2), some (.int x0), some (.int x1), some (.int (0 : Int32)), some (.int (T1.1 104 (x0 - (1 : Int32)).toNatClampNeg))]) rfl ?_
      refine ax_iload_n hX dX10_holds_47 rfl ?_
      refine ax_if_eq hX dX10_holds_48 (tgt := 76) (by decide) (fun c => ?_) (fun c => ?_)
      rotate_left
      · exact absurd c (by decide)
      refine ax_iconst hX dX10_holds_76 (v := 0) (by decide) ?_
      exact hR.1 _ _ _ _ _ _ (by decide) (by decide) dX10_holds_77 ⟨_, rfl, rfl⟩ ⟨_, _, rfl, rfl, hyp⟩
    · replace hyp := hyp.2 c
      refine ax_iconst hX dX10_holds_28 (v := 1) (by decide) ?_
      refine ax_goto hX dX10_holds_29 (tgt := 33) (by decide) ?_
      refine ax_istore_n hX dX10_holds_33 (by decide) (L' := [some (.ref 2), some (.int x0), some (.int x1), some (.int (1 : Int32)), none]) rfl ?_
      refine ax_aload_n hX dX10_holds_34 (Or.inr ⟨_, rfl⟩) rfl ?_
      refine tx_getF hX fRX10_60 ly_2 (o := 99) (b := 101) fk_10_7 rfl (by decide) (Nat.lt_of_lt_of_le (by decide) hsz) dX10_holds_35 ?_
      refine tx_getF hX fRX10_242 ly_101 (o := 3) (b := 104) fk_0_3 rfl (by decide) (Nat.lt_of_lt_of_le (by decide) hsz) dX10_holds_38 ?_
      refine ax_iload_n hX dX10_holds_41 rfl ?_
      refine ax_iconst hX dX10_holds_42 (v := 1) (by decide) ?_
      refine ax_isub hX dX10_holds_43 ?_
      refine tx_ial hX ly_104 (by decide) (Nat.lt_of_lt_of_le (by decide) hsz) hyp.1 dX10_holds_44 ?_
      replace hyp := hyp.2
      refine ax_istore hX dX10_holds_45 (by decide) (L' := [some (.ref 2), some (.int x0), some (.int x1), some (.int (1 : Int32)), some (.int (T1.1 104 (x0 - (1 : Int32)).toNatClampNeg))]) rfl ?_
      refine ax_iload_n hX dX10_holds_47 rfl ?_
      refine ax_if_eq hX dX10_holds_48 (tgt := 76) (by decide) (fun c => ?_) (fun c => ?_)
      · exact absurd c (by decide)
      refine ax_aload_n hX dX10_holds_51 (Or.inr ⟨_, rfl⟩) rfl ?_
      refine ax_aload_n hX dX10_holds_52 (Or.inr ⟨_, rfl⟩) rfl ?_
      refine tx_getF hX fRX10_60 ly_2 (o := 99) (b := 101) fk_10_7 rfl (by decide) (Nat.lt_of_lt_of_le (by decide) hsz) dX10_holds_53 ?_
      refine tx_getF hX fRX10_239 ly_101 (o := 1) (b := 102) fk_0_1 rfl (by decide) (Nat.lt_of_lt_of_le (by decide) hsz) dX10_holds_56 ?_
      refine ax_iload_n hX dX10_holds_59 rfl ?_
      refine ax_iconst hX dX10_holds_60 (v := 1) (by decide) ?_
      refine ax_isub hX dX10_holds_61 ?_
      refine tx_ial hX ly_102 (by decide) (Nat.lt_of_lt_of_le (by decide) hsz) hyp.1 dX10_holds_62 ?_
      replace hyp := hyp.2
      refine ax_iload_n hX dX10_holds_63 rfl ?_
      obtain ⟨Q1, hK, hyp⟩ := hyp
      refine ax_callV hX lRX10_226 im_X10_resultOf sl_X10_resultOf cw_X10_resultOf ((th_at (by decide) (Nat.lt_of_lt_of_le (by decide) hsz)).trans (tc_ob ly_2)) rfl rfl (A := [.int (T1.1 102 (x0 - (1 : Int32)).toNatClampNeg), .int x1]) (st := []) rfl rfl (Nat.le_of_ble_eq_true rfl) (by decide) (by decide) dX10_holds_64 hK ?_
      rintro _ _ ⟨r2, T2, rfl, rfl, hq⟩
      replace hyp := hyp r2 T2 hq
      refine ax_iload hX dX10_holds_67 rfl ?_
      refine ax_icmp_lt hX dX10_holds_69 (tgt := 76) (by decide) (fun c => ?_) (fun c => ?_)
      · replace hyp := hyp.1 c
        refine ax_iconst hX dX10_holds_76 (v := 0) (by decide) ?_
        exact hR.1 _ _ _ _ _ _ (by decide) (by decide) dX10_holds_77 ⟨_, rfl, rfl⟩ ⟨_, _, rfl, rfl, hyp⟩
      · replace hyp := hyp.2 c
        refine ax_iconst hX dX10_holds_72 (v := 1) (by decide) ?_
        refine ax_goto hX dX10_holds_73 (tgt := 77) (by decide) ?_
        exact hR.1 _ _ _ _ _ _ (by decide) (by decide) dX10_holds_77 ⟨_, rfl, rfl⟩ ⟨_, _, rfl, rfl, hyp⟩
  · replace hyp := hyp.2 c
    refine ax_iconst hX dX10_holds_11 (v := -1) (by decide) ?_
    exact hR.1 _ _ _ _ _ _ (by decide) (by decide) dX10_holds_12 ⟨_, rfl, rfl⟩ ⟨_, _, rfl, rfl, hyp⟩
set_option maxRecDepth 10000 in
theorem s_X10_isTerm_0 {X : ax_X} {d L sz : Nat} {T : tT} {Q : Int32 → tT → Prop} (hX : ax_ok X mX10_isTerm d) (hR : ax_Ret X mX10_isTerm (ti L sz Q)) (hsz : 161 ≤ sz) (x0 : Int32) (hyp : ((x0 < 0 → Q (0 : Int32) T) ∧ (¬ x0 < 0 → (((4 : Int32) ≤ x0 → Q (0 : Int32) T) ∧ (¬ (4 : Int32) ≤ x0 → Q (1 : Int32) T))))) : ax_j X 0 [some (.int x0)] [] (th L sz T) 0 0 := by
  refine ax_iload_n hX dX10_isTerm_0 rfl ?_
  refine ax_if_lt hX dX10_isTerm_1 (tgt := 13) (by decide) (fun c => ?_) (fun c => ?_)
  · replace hyp := hyp.1 c
    refine ax_iconst hX dX10_isTerm_13 (v := 0) (by decide) ?_
    exact hR.1 _ _ _ _ _ _ (by decide) (by decide) dX10_isTerm_14 ⟨_, rfl, rfl⟩ ⟨_, _, rfl, rfl, hyp⟩
  · replace hyp := hyp.2 c
    refine ax_iload_n hX dX10_isTerm_4 rfl ?_
    refine ax_iconst hX dX10_isTerm_5 (v := 4) (by decide) ?_
    refine ax_icmp_ge hX dX10_isTerm_6 (tgt := 13) (by decide) (fun c => ?_) (fun c => ?_)
    · replace hyp := hyp.1 c
      refine ax_iconst hX dX10_isTerm_13 (v := 0) (by decide) ?_
      exact hR.1 _ _ _ _ _ _ (by decide) (by decide) dX10_isTerm_14 ⟨_, rfl, rfl⟩ ⟨_, _, rfl, rfl, hyp⟩
    · replace hyp := hyp.2 c
      refine ax_iconst hX dX10_isTerm_9 (v := 1) (by decide) ?_
      refine ax_goto hX dX10_isTerm_10 (tgt := 14) (by decide) ?_
      exact hR.1 _ _ _ _ _ _ (by decide) (by decide) dX10_isTerm_14 ⟨_, rfl, rfl⟩ ⟨_, _, rfl, rfl, hyp⟩
set_option maxRecDepth 10000 in
theorem s_X10_isWithin_0 {X : ax_X} {d L sz : Nat} {T : tT} {Q : Int32 → tT → Prop} (hX : ax_ok X mX10_isWithin d) (hR : ax_Ret X mX10_isWithin (ti L sz Q)) (hsz : 161 ≤ sz) (x0 : Int32) (x1 : Int32) (x2 : Int32) (hyp : ((x0 < x1 → Q (0 : Int32) T) ∧ (¬ x0 < x1 → ((x2 < x0 → Q (0 : Int32) T) ∧ (¬ x2 < x0 → Q (1 : Int32) T))))) : ax_j X 0 [some (.int x0), some (.int x1), some (.int x2)] [] (th L sz T) 0 0 := by
  refine ax_iload_n hX dX10_isWithin_0 rfl ?_
  refine ax_iload_n hX dX10_isWithin_1 rfl ?_
  refine ax_icmp_lt hX dX10_isWithin_2 (tgt := 14) (by decide) (fun c => ?_) (fun c => ?_)
  · replace hyp := hyp.1 c
    refine ax_iconst hX dX10_isWithin_14 (v := 0) (by decide) ?_
    exact hR.1 _ _ _ _ _ _ (by decide) (by decide) dX10_isWithin_15 ⟨_, rfl, rfl⟩ ⟨_, _, rfl, rfl, hyp⟩
  · replace hyp := hyp.2 c
    refine ax_iload_n hX dX10_isWithin_5 rfl ?_
    refine ax_iload_n hX dX10_isWithin_6 rfl ?_
    refine ax_icmp_gt hX dX10_isWithin_7 (tgt := 14) (by decide) (fun c => ?_) (fun c => ?_)
    · replace hyp := hyp.1 c
      refine ax_iconst hX dX10_isWithin_14 (v := 0) (by decide) ?_
      exact hR.1 _ _ _ _ _ _ (by decide) (by decide) dX10_isWithin_15 ⟨_, rfl, rfl⟩ ⟨_, _, rfl, rfl, hyp⟩
    · replace hyp := hyp.2 c
      refine ax_iconst hX dX10_isWithin_10 (v := 1) (by decide) ?_
      refine ax_goto hX dX10_isWithin_11 (tgt := 15) (by decide) ?_
      exact hR.1 _ _ _ _ _ _ (by decide) (by decide) dX10_isWithin_15 ⟨_, rfl, rfl⟩ ⟨_, _, rfl, rfl, hyp⟩
set_option maxRecDepth 10000 in
theorem s_X10_judge_0 {X : ax_X} {d L sz : Nat} {T : tT} {Q : Int32 → tT → Prop} (hX : ax_ok X mX10_judge (d + 1)) (hR : ax_Ret X mX10_judge (ti L sz Q)) (hsz : 161 ≤ sz) (x0 : Int32) (hyp : ∃ Q1, tiK d mX2_has [.ref 69, .int x0] L sz T Q1 ∧ ∀ (r1 : Int32) (T1 : tT), Q1 r1 T1 → (((r1 = 0 → Q (-3 : Int32) T1) ∧ (¬ r1 = 0 → ∃ Q1, tiK d mX10_firstUnmet [.ref 2, .int x0] L sz T1 Q1 ∧ ∀ (r2 : Int32) (T2 : tT), Q1 r2 T2 → (Q r2 T2))))) : ax_j X 0 [some (.ref 2), some (.int x0)] [] (th L sz T) 0 0 := by
  refine ax_aload_n hX dX10_judge_0 (Or.inr ⟨_, rfl⟩) rfl ?_
  refine tx_getF hX fRX10_32 ly_2 (o := 67) (b := 69) fk_10_3 rfl (by decide) (Nat.lt_of_lt_of_le (by decide) hsz) dX10_judge_1 ?_
  refine ax_iload_n hX dX10_judge_4 rfl ?_
  obtain ⟨Q1, hK, hyp⟩ := hyp
  refine ax_callV hX lRX10_133 im_X2_has sl_X2_has cw_X2_has ((th_at (by decide) (Nat.lt_of_lt_of_le (by decide) hsz)).trans (tc_ob ly_69)) rfl rfl (A := [.int x0]) (st := []) rfl rfl (Nat.le_of_ble_eq_true rfl) (by decide) (by decide) dX10_judge_5 hK ?_
  rintro _ _ ⟨r1, T1, rfl, rfl, hq⟩
  replace hyp := hyp r1 T1 hq
  refine ax_if_eq hX dX10_judge_8 (tgt := 19) (by decide) (fun c => ?_) (fun c => ?_)
  · replace hyp := hyp.1 c
    refine ax_bipush hX dX10_judge_19 (v := -3) (by decide) ?_
    exact hR.1 _ _ _ _ _ _ (by decide) (by decide) dX10_judge_21 ⟨_, rfl, rfl⟩ ⟨_, _, rfl, rfl, hyp⟩
  · replace hyp := hyp.2 c
    refine ax_aload_n hX dX10_judge_11 (Or.inr ⟨_, rfl⟩) rfl ?_
    refine ax_iload_n hX dX10_judge_12 rfl ?_
    obtain ⟨Q1, hK, hyp⟩ := hyp
    refine ax_callV hX lRX10_144 im_X10_firstUnmet sl_X10_firstUnmet cw_X10_firstUnmet ((th_at (by decide) (Nat.lt_of_lt_of_le (by decide) hsz)).trans (tc_ob ly_2)) rfl rfl (A := [.int x0]) (st := []) rfl rfl (Nat.le_of_ble_eq_true rfl) (by decide) (by decide) dX10_judge_13 hK ?_
    rintro _ _ ⟨r2, T2, rfl, rfl, hq⟩
    replace hyp := hyp r2 T2 hq
    refine ax_goto hX dX10_judge_16 (tgt := 21) (by decide) ?_
    exact hR.1 _ _ _ _ _ _ (by decide) (by decide) dX10_judge_21 ⟨_, rfl, rfl⟩ ⟨_, _, rfl, rfl, hyp⟩
set_option maxRecDepth 10000 in
theorem s_X10_known_0 {X : ax_X} {d L sz : Nat} {T : tT} {Q : Int32 → tT → Prop} (hX : ax_ok X mX10_known (d + 1)) (hR : ax_Ret X mX10_known (ti L sz Q)) (hsz : 161 ≤ sz) (x0 : Int32) (x1 : Int32) (x2 : Int32) (hyp : ∃ Q1, tiK d mX5_knownPoints [.ref 93, .int x0, .int x1, .int x2] L sz T Q1 ∧ ∀ (r1 : Int32) (T1 : tT), Q1 r1 T1 → (Q r1 T1)) : ax_j X 0 [some (.ref 2), some (.int x0), some (.int x1), some (.int x2)] [] (th L sz T) 0 0 := by
  refine ax_aload_n hX dX10_known_0 (Or.inr ⟨_, rfl⟩) rfl ?_
  refine tx_getF hX fRX10_53 ly_2 (o := 91) (b := 93) fk_10_6 rfl (by decide) (Nat.lt_of_lt_of_le (by decide) hsz) dX10_known_1 ?_
  refine ax_iload_n hX dX10_known_4 rfl ?_
  refine ax_iload_n hX dX10_known_5 rfl ?_
  refine ax_iload_n hX dX10_known_6 rfl ?_
  obtain ⟨Q1, hK, hyp⟩ := hyp
  refine ax_callV hX lRX10_216 im_X5_knownPoints sl_X5_knownPoints cw_X5_knownPoints ((th_at (by decide) (Nat.lt_of_lt_of_le (by decide) hsz)).trans (tc_ob ly_93)) rfl rfl (A := [.int x0, .int x1, .int x2]) (st := []) rfl rfl (Nat.le_of_ble_eq_true rfl) (by decide) (by decide) dX10_known_7 hK ?_
  rintro _ _ ⟨r1, T1, rfl, rfl, hq⟩
  replace hyp := hyp r1 T1 hq
  exact hR.1 _ _ _ _ _ _ (by decide) (by decide) dX10_known_10 ⟨_, rfl, rfl⟩ ⟨_, _, rfl, rfl, hyp⟩
set_option maxRecDepth 10000 in
theorem s_X10_later_0 {X : ax_X} {d L sz : Nat} {T : tT} {Q : Int32 → tT → Prop} (hX : ax_ok X mX10_later (d + 1)) (hR : ax_Ret X mX10_later (ti L sz Q)) (hsz : 161 ≤ sz) (x0 : Int32) (hyp : ∃ Q1, tiK d mX10_isWithin [.int x0, .int (0 : Int32), .int (1000 : Int32)] L sz T Q1 ∧ ∀ (r1 : Int32) (T1 : tT), Q1 r1 T1 → (((r1 = 0 → Q (-1 : Int32) T1) ∧ (¬ r1 = 0 → ((((T1.1 93 0) + x0) ≤ (100000 : Int32) → Q ((T1.1 93 0) + x0) (tI T1 93 0 ((T1.1 93 0) + x0))) ∧ (¬ ((T1.1 93 0) + x0) ≤ (100000 : Int32) → Q (-1 : Int32) T1)))))) : ax_j X 0 [some (.ref 2), some (.int x0)] [] (th L sz T) 0 0 := by
  refine ax_iload_n hX dX10_later_0 rfl ?_
  refine ax_iconst hX dX10_later_1 (v := 0) (by decide) ?_
  refine ax_sipush hX dX10_later_2 (v := 1000) (by decide) ?_
  obtain ⟨Q1, hK, hyp⟩ := hyp
  refine ax_callS hX lRX10_122 sm_X10_isWithin cw_X10_isWithin (A := [.int x0, .int (0 : Int32), .int (1000 : Int32)]) (st := []) rfl rfl (Nat.le_of_ble_eq_true rfl) (by decide) (by decide) dX10_later_5 hK ?_
  rintro _ _ ⟨r1, T1, rfl, rfl, hq⟩
  replace hyp := hyp r1 T1 hq
  refine ax_if_eq hX dX10_later_8 (tgt := 25) (by decide) (fun c => ?_) (fun c => ?_)
  · replace hyp := hyp.1 c
    refine ax_iconst hX dX10_later_25 (v := -1) (by decide) ?_
    exact hR.1 _ _ _ _ _ _ (by decide) (by decide) dX10_later_26 ⟨_, rfl, rfl⟩ ⟨_, _, rfl, rfl, hyp⟩
  · replace hyp := hyp.2 c
    refine ax_aload_n hX dX10_later_11 (Or.inr ⟨_, rfl⟩) rfl ?_
    refine tx_getF hX fRX10_53 ly_2 (o := 91) (b := 93) fk_10_6 rfl (by decide) (Nat.lt_of_lt_of_le (by decide) hsz) dX10_later_12 ?_
    refine tx_getI hX fRX10_205 ly_93 fk_5_0 (by decide) (Nat.lt_of_lt_of_le (by decide) hsz) dX10_later_15 ?_
    refine ax_iload_n hX dX10_later_18 rfl ?_
    refine ax_iadd hX dX10_later_19 ?_
    refine ax_ldc hX vRX10_208 dX10_later_20 ?_
    refine ax_icmp_le hX dX10_later_22 (tgt := 27) (by decide) (fun c => ?_) (fun c => ?_)
    · replace hyp := hyp.1 c
      refine ax_aload_n hX dX10_later_27 (Or.inr ⟨_, rfl⟩) rfl ?_
      refine tx_getF hX fRX10_53 ly_2 (o := 91) (b := 93) fk_10_6 rfl (by decide) (Nat.lt_of_lt_of_le (by decide) hsz) dX10_later_28 ?_
      refine ax_dup hX dX10_later_31 rfl ?_
      refine tx_getI hX fRX10_205 ly_93 fk_5_0 (by decide) (Nat.lt_of_lt_of_le (by decide) hsz) dX10_later_32 ?_
      refine ax_iload_n hX dX10_later_35 rfl ?_
      refine ax_iadd hX dX10_later_36 ?_
      refine tx_putI hX fRX10_205 ly_93 fk_5_0 (by decide) (Nat.lt_of_lt_of_le (by decide) hsz) rfl rfl dX10_later_37 ?_
      refine ax_aload_n hX dX10_later_40 (Or.inr ⟨_, rfl⟩) rfl ?_
      refine tx_getF hX fRX10_53 ly_2 (o := 91) (b := 93) fk_10_6 rfl (by decide) (Nat.lt_of_lt_of_le (by decide) hsz) dX10_later_41 ?_
      refine tx_getI hX fRX10_205 ly_93 fk_5_0 (by decide) (Nat.lt_of_lt_of_le (by decide) hsz) dX10_later_44 ?_
      exact hR.1 _ _ _ _ _ _ (by decide) (by decide) dX10_later_47 ⟨_, rfl, rfl⟩ ⟨_, _, rfl, rfl, hyp⟩
    · replace hyp := hyp.2 c
      refine ax_iconst hX dX10_later_25 (v := -1) (by decide) ?_
      exact hR.1 _ _ _ _ _ _ (by decide) (by decide) dX10_later_26 ⟨_, rfl, rfl⟩ ⟨_, _, rfl, rfl, hyp⟩
set_option maxRecDepth 10000 in
theorem s_X10_main_0 {X : ax_X} {d L sz : Nat} {T : tT} {Q : Int32 → tT → Prop} (hX : ax_ok X mX10_main (d + 1)) (hR : ax_Ret X mX10_main (ti L sz Q)) (hsz : 161 ≤ sz) (x0 : Int32) (x1 : Int32) (hyp : ∃ Q1, tiK d mX5_mainOf [.ref 93, .int x0, .int x1] L sz T Q1 ∧ ∀ (r1 : Int32) (T1 : tT), Q1 r1 T1 → (Q r1 T1)) : ax_j X 0 [some (.ref 2), some (.int x0), some (.int x1)] [] (th L sz T) 0 0 := by
  refine ax_aload_n hX dX10_main_0 (Or.inr ⟨_, rfl⟩) rfl ?_
  refine tx_getF hX fRX10_53 ly_2 (o := 91) (b := 93) fk_10_6 rfl (by decide) (Nat.lt_of_lt_of_le (by decide) hsz) dX10_main_1 ?_
  refine ax_iload_n hX dX10_main_4 rfl ?_
  refine ax_iload_n hX dX10_main_5 rfl ?_
  obtain ⟨Q1, hK, hyp⟩ := hyp
  refine ax_callV hX lRX10_223 im_X5_mainOf sl_X5_mainOf cw_X5_mainOf ((th_at (by decide) (Nat.lt_of_lt_of_le (by decide) hsz)).trans (tc_ob ly_93)) rfl rfl (A := [.int x0, .int x1]) (st := []) rfl rfl (Nat.le_of_ble_eq_true rfl) (by decide) (by decide) dX10_main_6 hK ?_
  rintro _ _ ⟨r1, T1, rfl, rfl, hq⟩
  replace hyp := hyp r1 T1 hq
  exact hR.1 _ _ _ _ _ _ (by decide) (by decide) dX10_main_9 ⟨_, rfl, rfl⟩ ⟨_, _, rfl, rfl, hyp⟩
set_option maxRecDepth 10000 in
theorem s_X10_mark_0 {X : ax_X} {d L sz : Nat} {T : tT} {Q : Int32 → tT → Prop} (hX : ax_ok X mX10_mark (d + 1)) (hR : ax_Ret X mX10_mark (ti L sz Q)) (hsz : 161 ≤ sz) (x0 : Int32) (x1 : Int32) (x2 : Int32) (x3 : Int32) (hyp : ∃ Q1, tiK d mX1_hasExaminer [.ref 79, .int x1] L sz T Q1 ∧ ∀ (r1 : Int32) (T1 : tT), Q1 r1 T1 → (((r1 = 0 → Q (-1 : Int32) T1) ∧ (¬ r1 = 0 → ∃ Q1, tiK d mX10_canBeMarked [.ref 2, .int x0, .int x2, .int x3] L sz T1 Q1 ∧ ∀ (r2 : Int32) (T2 : tT), Q1 r2 T2 → (((r2 = 0 → Q (-1 : Int32) T2) ∧ (¬ r2 = 0 → ∃ Q1, tiK d mX5_tell [.ref 93, .int x1, .int x0, .int x2, .int x3] L sz T2 Q1 ∧ ∀ (r3 : Int32) (T3 : tT), Q1 r3 T3 → (Q r3 T3)))))))) : ax_j X 0 [some (.ref 2), some (.int x0), some (.int x1), some (.int x2), some (.int x3), none] [] (th L sz T) 0 0 := by
  refine ax_aload_n hX dX10_mark_0 (Or.inr ⟨_, rfl⟩) rfl ?_
  refine tx_getF hX fRX10_39 ly_2 (o := 77) (b := 79) fk_10_4 rfl (by decide) (Nat.lt_of_lt_of_le (by decide) hsz) dX10_mark_1 ?_
  refine ax_iload_n hX dX10_mark_4 rfl ?_
  obtain ⟨Q1, hK, hyp⟩ := hyp
  refine ax_callV hX lRX10_126 im_X1_hasExaminer sl_X1_hasExaminer cw_X1_hasExaminer ((th_at (by decide) (Nat.lt_of_lt_of_le (by decide) hsz)).trans (tc_ob ly_79)) rfl rfl (A := [.int x1]) (st := []) rfl rfl (Nat.le_of_ble_eq_true rfl) (by decide) (by decide) dX10_mark_5 hK ?_
  rintro _ _ ⟨r1, T1, rfl, rfl, hq⟩
  replace hyp := hyp r1 T1 hq
  refine ax_if_eq hX dX10_mark_8 (tgt := 26) (by decide) (fun c => ?_) (fun c => ?_)
  · replace hyp := hyp.1 c
    refine ax_iconst hX dX10_mark_26 (v := 0) (by decide) ?_
    refine ax_istore hX dX10_mark_27 (by decide) (L' := [some (.ref 2), some (.int x0), some (.int x1), some (.int x2), some (.int x3), some (.int (0 : Int32))]) rfl ?_
    refine ax_iload hX dX10_mark_29 rfl ?_
    refine ax_if_eq hX dX10_mark_31 (tgt := 49) (by decide) (fun c => ?_) (fun c => ?_)
    rotate_left
    · exact absurd c (by decide)
    refine ax_iconst hX dX10_mark_49 (v := -1) (by decide) ?_
    exact hR.1 _ _ _ _ _ _ (by decide) (by decide) dX10_mark_50 ⟨_, rfl, rfl⟩ ⟨_, _, rfl, rfl, hyp⟩
  · replace hyp := hyp.2 c
    refine ax_aload_n hX dX10_mark_11 (Or.inr ⟨_, rfl⟩) rfl ?_
    refine ax_iload_n hX dX10_mark_12 rfl ?_
    refine ax_iload_n hX dX10_mark_13 rfl ?_
    refine ax_iload hX dX10_mark_14 rfl ?_
    obtain ⟨Q1, hK, hyp⟩ := hyp
    refine ax_callV hX lRX10_209 im_X10_canBeMarked sl_X10_canBeMarked cw_X10_canBeMarked ((th_at (by decide) (Nat.lt_of_lt_of_le (by decide) hsz)).trans (tc_ob ly_2)) rfl rfl (A := [.int x0, .int x2, .int x3]) (st := []) rfl rfl (Nat.le_of_ble_eq_true rfl) (by decide) (by decide) dX10_mark_16 hK ?_
    rintro _ _ ⟨r2, T2, rfl, rfl, hq⟩
    replace hyp := hyp r2 T2 hq
    refine ax_if_eq hX dX10_mark_19 (tgt := 26) (by decide) (fun c => ?_) (fun c => ?_)
    · replace hyp := hyp.1 c
      refine ax_iconst hX dX10_mark_26 (v := 0) (by decide) ?_
      refine ax_istore hX dX10_mark_27 (by decide) (L' := [some (.ref 2), some (.int x0), some (.int x1), some (.int x2), some (.int x3), some (.int (0 : Int32))]) rfl ?_
      refine ax_iload hX dX10_mark_29 rfl ?_
      refine ax_if_eq hX dX10_mark_31 (tgt := 49) (by decide) (fun c => ?_) (fun c => ?_)
      rotate_left
      · exact absurd c (by decide)
      refine ax_iconst hX dX10_mark_49 (v := -1) (by decide) ?_
      exact hR.1 _ _ _ _ _ _ (by decide) (by decide) dX10_mark_50 ⟨_, rfl, rfl⟩ ⟨_, _, rfl, rfl, hyp⟩
    · replace hyp := hyp.2 c
      refine ax_iconst hX dX10_mark_22 (v := 1) (by decide) ?_
      refine ax_goto hX dX10_mark_23 (tgt := 27) (by decide) ?_
      refine ax_istore hX dX10_mark_27 (by decide) (L' := [some (.ref 2), some (.int x0), some (.int x1), some (.int x2), some (.int x3), some (.int (1 : Int32))]) rfl ?_
      refine ax_iload hX dX10_mark_29 rfl ?_
      refine ax_if_eq hX dX10_mark_31 (tgt := 49) (by decide) (fun c => ?_) (fun c => ?_)
      · exact absurd c (by decide)
      refine ax_aload_n hX dX10_mark_34 (Or.inr ⟨_, rfl⟩) rfl ?_
      refine tx_getF hX fRX10_53 ly_2 (o := 91) (b := 93) fk_10_6 rfl (by decide) (Nat.lt_of_lt_of_le (by decide) hsz) dX10_mark_35 ?_
      refine ax_iload_n hX dX10_mark_38 rfl ?_
      refine ax_iload_n hX dX10_mark_39 rfl ?_
      refine ax_iload_n hX dX10_mark_40 rfl ?_
      refine ax_iload hX dX10_mark_41 rfl ?_
      obtain ⟨Q1, hK, hyp⟩ := hyp
      refine ax_callV hX lRX10_212 im_X5_tell sl_X5_tell cw_X5_tell ((th_at (by decide) (Nat.lt_of_lt_of_le (by decide) hsz)).trans (tc_ob ly_93)) rfl rfl (A := [.int x1, .int x0, .int x2, .int x3]) (st := []) rfl rfl (Nat.le_of_ble_eq_true rfl) (by decide) (by decide) dX10_mark_43 hK ?_
      rintro _ _ ⟨r3, T3, rfl, rfl, hq⟩
      replace hyp := hyp r3 T3 hq
      refine ax_goto hX dX10_mark_46 (tgt := 50) (by decide) ?_
      exact hR.1 _ _ _ _ _ _ (by decide) (by decide) dX10_mark_50 ⟨_, rfl, rfl⟩ ⟨_, _, rfl, rfl, hyp⟩
set_option maxRecDepth 10000 in
theorem s_X10_may_0 {X : ax_X} {d L sz : Nat} {T : tT} {Q : Int32 → tT → Prop} (hX : ax_ok X mX10_may (d + 1)) (hR : ax_Ret X mX10_may (ti L sz Q)) (hsz : 161 ≤ sz) (x0 : Int32) (x1 : Int32) (hyp : ∃ Q1, tiK d mX1_hasExaminer [.ref 79, .int x0] L sz T Q1 ∧ ∀ (r1 : Int32) (T1 : tT), Q1 r1 T1 → (((r1 = 0 → Q (-1 : Int32) T1) ∧ (¬ r1 = 0 → ∃ Q1, tiK d mX1_hasSession [.ref 79, .int x1] L sz T1 Q1 ∧ ∀ (r2 : Int32) (T2 : tT), Q1 r2 T2 → (((¬ r2 = 0 → ∃ Q1, tiK d mX10_mayTake [.ref 2, .int x0, .int x1] L sz T2 Q1 ∧ ∀ (r3 : Int32) (T3 : tT), Q1 r3 T3 → (((r3 = 0 → Q (0 : Int32) T3) ∧ (¬ r3 = 0 → Q (1 : Int32) T3)))) ∧ (r2 = 0 → Q (-1 : Int32) T2))))))) : ax_j X 0 [some (.ref 2), some (.int x0), some (.int x1)] [] (th L sz T) 0 0 := by
  refine ax_aload_n hX dX10_may_0 (Or.inr ⟨_, rfl⟩) rfl ?_
  refine tx_getF hX fRX10_39 ly_2 (o := 77) (b := 79) fk_10_4 rfl (by decide) (Nat.lt_of_lt_of_le (by decide) hsz) dX10_may_1 ?_
  refine ax_iload_n hX dX10_may_4 rfl ?_
  obtain ⟨Q1, hK, hyp⟩ := hyp
  refine ax_callV hX lRX10_126 im_X1_hasExaminer sl_X1_hasExaminer cw_X1_hasExaminer ((th_at (by decide) (Nat.lt_of_lt_of_le (by decide) hsz)).trans (tc_ob ly_79)) rfl rfl (A := [.int x0]) (st := []) rfl rfl (Nat.le_of_ble_eq_true rfl) (by decide) (by decide) dX10_may_5 hK ?_
  rintro _ _ ⟨r1, T1, rfl, rfl, hq⟩
  replace hyp := hyp r1 T1 hq
  refine ax_if_eq hX dX10_may_8 (tgt := 22) (by decide) (fun c => ?_) (fun c => ?_)
  · replace hyp := hyp.1 c
    refine ax_iconst hX dX10_may_22 (v := -1) (by decide) ?_
    exact hR.1 _ _ _ _ _ _ (by decide) (by decide) dX10_may_23 ⟨_, rfl, rfl⟩ ⟨_, _, rfl, rfl, hyp⟩
  · replace hyp := hyp.2 c
    refine ax_aload_n hX dX10_may_11 (Or.inr ⟨_, rfl⟩) rfl ?_
    refine tx_getF hX fRX10_39 ly_2 (o := 77) (b := 79) fk_10_4 rfl (by decide) (Nat.lt_of_lt_of_le (by decide) hsz) dX10_may_12 ?_
    refine ax_iload_n hX dX10_may_15 rfl ?_
    obtain ⟨Q1, hK, hyp⟩ := hyp
    refine ax_callV hX lRX10_164 im_X1_hasSession sl_X1_hasSession cw_X1_hasSession ((th_at (by decide) (Nat.lt_of_lt_of_le (by decide) hsz)).trans (tc_ob ly_79)) rfl rfl (A := [.int x1]) (st := []) rfl rfl (Nat.le_of_ble_eq_true rfl) (by decide) (by decide) dX10_may_16 hK ?_
    rintro _ _ ⟨r2, T2, rfl, rfl, hq⟩
    replace hyp := hyp r2 T2 hq
    refine ax_if_ne hX dX10_may_19 (tgt := 24) (by decide) (fun c => ?_) (fun c => ?_)
    · replace hyp := hyp.1 c
      refine ax_aload_n hX dX10_may_24 (Or.inr ⟨_, rfl⟩) rfl ?_
      refine ax_iload_n hX dX10_may_25 rfl ?_
      refine ax_iload_n hX dX10_may_26 rfl ?_
      obtain ⟨Q1, hK, hyp⟩ := hyp
      refine ax_callV hX lRX10_182 im_X10_mayTake sl_X10_mayTake cw_X10_mayTake ((th_at (by decide) (Nat.lt_of_lt_of_le (by decide) hsz)).trans (tc_ob ly_2)) rfl rfl (A := [.int x0, .int x1]) (st := []) rfl rfl (Nat.le_of_ble_eq_true rfl) (by decide) (by decide) dX10_may_27 hK ?_
      rintro _ _ ⟨r3, T3, rfl, rfl, hq⟩
      replace hyp := hyp r3 T3 hq
      refine ax_if_eq hX dX10_may_30 (tgt := 37) (by decide) (fun c => ?_) (fun c => ?_)
      · replace hyp := hyp.1 c
        refine ax_iconst hX dX10_may_37 (v := 0) (by decide) ?_
        exact hR.1 _ _ _ _ _ _ (by decide) (by decide) dX10_may_38 ⟨_, rfl, rfl⟩ ⟨_, _, rfl, rfl, hyp⟩
      · replace hyp := hyp.2 c
        refine ax_iconst hX dX10_may_33 (v := 1) (by decide) ?_
        refine ax_goto hX dX10_may_34 (tgt := 38) (by decide) ?_
        exact hR.1 _ _ _ _ _ _ (by decide) (by decide) dX10_may_38 ⟨_, rfl, rfl⟩ ⟨_, _, rfl, rfl, hyp⟩
    · replace hyp := hyp.2 c
      refine ax_iconst hX dX10_may_22 (v := -1) (by decide) ?_
      exact hR.1 _ _ _ _ _ _ (by decide) (by decide) dX10_may_23 ⟨_, rfl, rfl⟩ ⟨_, _, rfl, rfl, hyp⟩
set_option maxRecDepth 10000 in
theorem s_X10_mayHear_0 {X : ax_X} {d L sz : Nat} {T : tT} {Q : Int32 → tT → Prop} (hX : ax_ok X mX10_mayHear (d + 1)) (hR : ax_Ret X mX10_mayHear (ti L sz Q)) (hsz : 161 ≤ sz) (x0 : Int32) (x1 : Int32) (hyp : vp_in x1 40 ∧ ∃ Q1, tiK d mX1_plays [.ref 79, .int x0, .int (T.1 73 (x1.toNatClampNeg))] L sz T Q1 ∧ ∀ (r1 : Int32) (T1 : tT), Q1 r1 T1 → (((r1 = 0 → Q (0 : Int32) T1) ∧ (¬ r1 = 0 → vp_in x1 40 ∧ (((T1.1 75 (x1.toNatClampNeg)) = x0 → Q (0 : Int32) T1) ∧ (¬ (T1.1 75 (x1.toNatClampNeg)) = x0 → ∃ Q1, tiK d mX10_heardElsewhere [.ref 2, .int x0, .int x1] L sz T1 Q1 ∧ ∀ (r2 : Int32) (T2 : tT), Q1 r2 T2 → (((¬ r2 = 0 → Q (0 : Int32) T2) ∧ (r2 = 0 → Q (1 : Int32) T2))))))))) : ax_j X 0 [some (.ref 2), some (.int x0), some (.int x1)] [] (th L sz T) 0 0 := by
  refine ax_aload_n hX dX10_mayHear_0 (Or.inr ⟨_, rfl⟩) rfl ?_
  refine tx_getF hX fRX10_39 ly_2 (o := 77) (b := 79) fk_10_4 rfl (by decide) (Nat.lt_of_lt_of_le (by decide) hsz) dX10_mayHear_1 ?_
  refine ax_iload_n hX dX10_mayHear_4 rfl ?_
  refine ax_aload_n hX dX10_mayHear_5 (Or.inr ⟨_, rfl⟩) rfl ?_
  refine tx_getF hX fRX10_32 ly_2 (o := 67) (b := 69) fk_10_3 rfl (by decide) (Nat.lt_of_lt_of_le (by decide) hsz) dX10_mayHear_6 ?_
  refine tx_getF hX fRX10_291 ly_69 (o := 4) (b := 73) fk_2_4 rfl (by decide) (Nat.lt_of_lt_of_le (by decide) hsz) dX10_mayHear_9 ?_
  refine ax_iload_n hX dX10_mayHear_12 rfl ?_
  refine tx_ial hX ly_73 (by decide) (Nat.lt_of_lt_of_le (by decide) hsz) hyp.1 dX10_mayHear_13 ?_
  replace hyp := hyp.2
  obtain ⟨Q1, hK, hyp⟩ := hyp
  refine ax_callV hX lRX10_294 im_X1_plays sl_X1_plays cw_X1_plays ((th_at (by decide) (Nat.lt_of_lt_of_le (by decide) hsz)).trans (tc_ob ly_79)) rfl rfl (A := [.int x0, .int (T.1 73 (x1.toNatClampNeg))]) (st := []) rfl rfl (Nat.le_of_ble_eq_true rfl) (by decide) (by decide) dX10_mayHear_14 hK ?_
  rintro _ _ ⟨r1, T1, rfl, rfl, hq⟩
  replace hyp := hyp r1 T1 hq
  refine ax_if_eq hX dX10_mayHear_17 (tgt := 46) (by decide) (fun c => ?_) (fun c => ?_)
  · replace hyp := hyp.1 c
    refine ax_iconst hX dX10_mayHear_46 (v := 0) (by decide) ?_
    exact hR.1 _ _ _ _ _ _ (by decide) (by decide) dX10_mayHear_47 ⟨_, rfl, rfl⟩ ⟨_, _, rfl, rfl, hyp⟩
  · replace hyp := hyp.2 c
    refine ax_aload_n hX dX10_mayHear_20 (Or.inr ⟨_, rfl⟩) rfl ?_
    refine tx_getF hX fRX10_32 ly_2 (o := 67) (b := 69) fk_10_3 rfl (by decide) (Nat.lt_of_lt_of_le (by decide) hsz) dX10_mayHear_21 ?_
    refine tx_getF hX fRX10_297 ly_69 (o := 6) (b := 75) fk_2_6 rfl (by decide) (Nat.lt_of_lt_of_le (by decide) hsz) dX10_mayHear_24 ?_
    refine ax_iload_n hX dX10_mayHear_27 rfl ?_
    refine tx_ial hX ly_75 (by decide) (Nat.lt_of_lt_of_le (by decide) hsz) hyp.1 dX10_mayHear_28 ?_
    replace hyp := hyp.2
    refine ax_iload_n hX dX10_mayHear_29 rfl ?_
    refine ax_icmp_eq hX dX10_mayHear_30 (tgt := 46) (by decide) (fun c => ?_) (fun c => ?_)
    · replace hyp := hyp.1 c
      refine ax_iconst hX dX10_mayHear_46 (v := 0) (by decide) ?_
      exact hR.1 _ _ _ _ _ _ (by decide) (by decide) dX10_mayHear_47 ⟨_, rfl, rfl⟩ ⟨_, _, rfl, rfl, hyp⟩
    · replace hyp := hyp.2 c
      refine ax_aload_n hX dX10_mayHear_33 (Or.inr ⟨_, rfl⟩) rfl ?_
      refine ax_iload_n hX dX10_mayHear_34 rfl ?_
      refine ax_iload_n hX dX10_mayHear_35 rfl ?_
      obtain ⟨Q1, hK, hyp⟩ := hyp
      refine ax_callV hX lRX10_300 im_X10_heardElsewhere sl_X10_heardElsewhere cw_X10_heardElsewhere ((th_at (by decide) (Nat.lt_of_lt_of_le (by decide) hsz)).trans (tc_ob ly_2)) rfl rfl (A := [.int x0, .int x1]) (st := []) rfl rfl (Nat.le_of_ble_eq_true rfl) (by decide) (by decide) dX10_mayHear_36 hK ?_
      rintro _ _ ⟨r2, T2, rfl, rfl, hq⟩
      replace hyp := hyp r2 T2 hq
      refine ax_if_ne hX dX10_mayHear_39 (tgt := 46) (by decide) (fun c => ?_) (fun c => ?_)
      · replace hyp := hyp.1 c
        refine ax_iconst hX dX10_mayHear_46 (v := 0) (by decide) ?_
        exact hR.1 _ _ _ _ _ _ (by decide) (by decide) dX10_mayHear_47 ⟨_, rfl, rfl⟩ ⟨_, _, rfl, rfl, hyp⟩
      · replace hyp := hyp.2 c
        refine ax_iconst hX dX10_mayHear_42 (v := 1) (by decide) ?_
        refine ax_goto hX dX10_mayHear_43 (tgt := 47) (by decide) ?_
        exact hR.1 _ _ _ _ _ _ (by decide) (by decide) dX10_mayHear_47 ⟨_, rfl, rfl⟩ ⟨_, _, rfl, rfl, hyp⟩
set_option maxRecDepth 10000 in
theorem s_X10_mayTake_0 {X : ax_X} {d L sz : Nat} {T : tT} {Q : Int32 → tT → Prop} (hX : ax_ok X mX10_mayTake (d + 1)) (hR : ax_Ret X mX10_mayTake (ti L sz Q)) (hsz : 161 ≤ sz) (x0 : Int32) (x1 : Int32) (hyp : ax_j X 2 [some (.ref 2), some (.int x0), some (.int x1), some (.int (0 : Int32))] [] (th L sz T) 0 0) : ax_j X 0 [some (.ref 2), some (.int x0), some (.int x1), none] [] (th L sz T) 0 0 := by
  refine ax_iconst hX dX10_mayTake_0 (v := 0) (by decide) ?_
  refine ax_istore_n hX dX10_mayTake_1 (by decide) (L' := [some (.ref 2), some (.int x0), some (.int x1), some (.int (0 : Int32))]) rfl ?_
  exact ax_forget (L' := [some (.ref 2), some (.int x0), some (.int x1), some (.int (0 : Int32))]) (⟨rfl, ⟨rfl, ⟨rfl, ⟨rfl, trivial⟩⟩⟩⟩) hyp
set_option maxRecDepth 10000 in
theorem s_X10_mayTake_2 {X : ax_X} {d L sz : Nat} {T : tT} {Q : Int32 → tT → Prop} (hX : ax_ok X mX10_mayTake (d + 1)) (hR : ax_Ret X mX10_mayTake (ti L sz Q)) (hsz : 161 ≤ sz) (v1 : Int32) (v2 : Int32) (v3 : Int32) (hyp : (((T.1 69 0) ≤ v3 → Q (1 : Int32) T) ∧ (¬ (T.1 69 0) ≤ v3 → vp_in v3 40 ∧ ((¬ (T.1 76 (v3.toNatClampNeg)) = v2 → ax_j X 2 [some (.ref 2), some (.int v1), some (.int v2), some (.int (v3 + (1 : Int32)))] [] (th L sz T) 0 0) ∧ ((T.1 76 (v3.toNatClampNeg)) = v2 → ∃ Q1, tiK d mX10_mayHear [.ref 2, .int v1, .int v3] L sz T Q1 ∧ ∀ (r1 : Int32) (T1 : tT), Q1 r1 T1 → (((¬ r1 = 0 → ax_j X 2 [some (.ref 2), some (.int v1), some (.int v2), some (.int (v3 + (1 : Int32)))] [] (th L sz T1) 0 0) ∧ (r1 = 0 → Q (0 : Int32) T1)))))))) : ax_j X 2 [some (.ref 2), some (.int v1), some (.int v2), some (.int v3)] [] (th L sz T) 0 0 := by
  refine ax_iload_n hX dX10_mayTake_2 rfl ?_
  refine ax_aload_n hX dX10_mayTake_3 (Or.inr ⟨_, rfl⟩) rfl ?_
  refine tx_getF hX fRX10_32 ly_2 (o := 67) (b := 69) fk_10_3 rfl (by decide) (Nat.lt_of_lt_of_le (by decide) hsz) dX10_mayTake_4 ?_
  refine tx_getI hX fRX10_245 ly_69 fk_2_0 (by decide) (Nat.lt_of_lt_of_le (by decide) hsz) dX10_mayTake_7 ?_
  refine ax_icmp_ge hX dX10_mayTake_10 (tgt := 43) (by decide) (fun c => ?_) (fun c => ?_)
  · replace hyp := hyp.1 c
    refine ax_iconst hX dX10_mayTake_43 (v := 1) (by decide) ?_
    exact hR.1 _ _ _ _ _ _ (by decide) (by decide) dX10_mayTake_44 ⟨_, rfl, rfl⟩ ⟨_, _, rfl, rfl, hyp⟩
  · replace hyp := hyp.2 c
    refine ax_aload_n hX dX10_mayTake_13 (Or.inr ⟨_, rfl⟩) rfl ?_
    refine tx_getF hX fRX10_32 ly_2 (o := 67) (b := 69) fk_10_3 rfl (by decide) (Nat.lt_of_lt_of_le (by decide) hsz) dX10_mayTake_14 ?_
    refine tx_getF hX fRX10_170 ly_69 (o := 7) (b := 76) fk_2_7 rfl (by decide) (Nat.lt_of_lt_of_le (by decide) hsz) dX10_mayTake_17 ?_
    refine ax_iload_n hX dX10_mayTake_20 rfl ?_
    refine tx_ial hX ly_76 (by decide) (Nat.lt_of_lt_of_le (by decide) hsz) hyp.1 dX10_mayTake_21 ?_
    replace hyp := hyp.2
    refine ax_iload_n hX dX10_mayTake_22 rfl ?_
    refine ax_icmp_ne hX dX10_mayTake_23 (tgt := 37) (by decide) (fun c => ?_) (fun c => ?_)
    · replace hyp := hyp.1 c
      refine ax_iinc hX dX10_mayTake_37 rfl (w := (v3 + (1 : Int32))) rfl (by decide) (L' := [some (.ref 2), some (.int v1), some (.int v2), some (.int (v3 + (1 : Int32)))]) rfl ?_
      refine ax_goto hX dX10_mayTake_40 (tgt := 2) (by decide) ?_
      exact ax_forget (L' := [some (.ref 2), some (.int v1), some (.int v2), some (.int (v3 + (1 : Int32)))]) (⟨rfl, ⟨rfl, ⟨rfl, ⟨rfl, trivial⟩⟩⟩⟩) hyp
    · replace hyp := hyp.2 c
      refine ax_aload_n hX dX10_mayTake_26 (Or.inr ⟨_, rfl⟩) rfl ?_
      refine ax_iload_n hX dX10_mayTake_27 rfl ?_
      refine ax_iload_n hX dX10_mayTake_28 rfl ?_
      obtain ⟨Q1, hK, hyp⟩ := hyp
      refine ax_callV hX lRX10_288 im_X10_mayHear sl_X10_mayHear cw_X10_mayHear ((th_at (by decide) (Nat.lt_of_lt_of_le (by decide) hsz)).trans (tc_ob ly_2)) rfl rfl (A := [.int v1, .int v3]) (st := []) rfl rfl (Nat.le_of_ble_eq_true rfl) (by decide) (by decide) dX10_mayTake_29 hK ?_
      rintro _ _ ⟨r1, T1, rfl, rfl, hq⟩
      replace hyp := hyp r1 T1 hq
      refine ax_if_ne hX dX10_mayTake_32 (tgt := 37) (by decide) (fun c => ?_) (fun c => ?_)
      · replace hyp := hyp.1 c
        refine ax_iinc hX dX10_mayTake_37 rfl (w := (v3 + (1 : Int32))) rfl (by decide) (L' := [some (.ref 2), some (.int v1), some (.int v2), some (.int (v3 + (1 : Int32)))]) rfl ?_
        refine ax_goto hX dX10_mayTake_40 (tgt := 2) (by decide) ?_
        exact ax_forget (L' := [some (.ref 2), some (.int v1), some (.int v2), some (.int (v3 + (1 : Int32)))]) (⟨rfl, ⟨rfl, ⟨rfl, ⟨rfl, trivial⟩⟩⟩⟩) hyp
      · replace hyp := hyp.2 c
        refine ax_iconst hX dX10_mayTake_35 (v := 0) (by decide) ?_
        exact hR.1 _ _ _ _ _ _ (by decide) (by decide) dX10_mayTake_36 ⟨_, rfl, rfl⟩ ⟨_, _, rfl, rfl, hyp⟩
set_option maxRecDepth 10000 in
theorem s_X10_minutesOf_0 {X : ax_X} {d L sz : Nat} {T : tT} {Q : Int32 → tT → Prop} (hX : ax_ok X mX10_minutesOf (d + 1)) (hR : ax_Ret X mX10_minutesOf (ti L sz Q)) (hsz : 161 ≤ sz) (x0 : Int32) (hyp : ∃ Q1, toK d mX10_gradeOf [.ref 2, .int x0] L sz T Q1 ∧ ∀ (r1 : Option Nat) (T1 : tT), Q1 r1 T1 → (((r1 = none → Q (10 : Int32) T1) ∧ (∀ p2, r1 = some p2 → tgr sz p2 ∧ ∃ Q1, tiK d mX3_minutesOrUsual [.ref p2] L sz T1 Q1 ∧ ∀ (r3 : Int32) (T3 : tT), Q1 r3 T3 → (Q r3 T3))))) : ax_j X 0 [some (.ref 2), some (.int x0), none] [] (th L sz T) 0 0 := by
  refine ax_aload_n hX dX10_minutesOf_0 (Or.inr ⟨_, rfl⟩) rfl ?_
  refine ax_iload_n hX dX10_minutesOf_1 rfl ?_
  obtain ⟨Q1, hK, hyp⟩ := hyp
  refine ax_callV hX lRX10_266 im_X10_gradeOf sl_X10_gradeOf cw_X10_gradeOf ((th_at (by decide) (Nat.lt_of_lt_of_le (by decide) hsz)).trans (tc_ob ly_2)) rfl rfl (A := [.int x0]) (st := []) rfl rfl (Nat.le_of_ble_eq_true rfl) (by decide) (by decide) dX10_minutesOf_2 hK ?_
  rintro _ _ ⟨r1, T1, rfl, rfl, hq⟩
  replace hyp := hyp r1 T1 hq
  rcases r1 with _ | p2
  · replace hyp := hyp.1 rfl
    refine ax_astore_n hX dX10_minutesOf_5 (Or.inl rfl) (by decide) (L' := [some (.ref 2), some (.int x0), some (.null)]) rfl ?_
    refine ax_aload_n hX dX10_minutesOf_6 (Or.inl rfl) rfl ?_
    refine ax_ifnonnull hX (r := none) rfl dX10_minutesOf_7 (tgt := 15) (by decide) (fun _ c => ?_) (fun c => ?_)
    · cases c
    refine ax_bipush hX dX10_minutesOf_10 (v := 10) (by decide) ?_
    refine ax_goto hX dX10_minutesOf_12 (tgt := 19) (by decide) ?_
    exact hR.1 _ _ _ _ _ _ (by decide) (by decide) dX10_minutesOf_19 ⟨_, rfl, rfl⟩ ⟨_, _, rfl, rfl, hyp⟩
  · obtain ⟨h_p2, hyp⟩ := hyp.2 p2 rfl
    refine ax_astore_n hX dX10_minutesOf_5 (Or.inr ⟨_, rfl⟩) (by decide) (L' := [some (.ref 2), some (.int x0), some (.ref p2)]) rfl ?_
    refine ax_aload_n hX dX10_minutesOf_6 (Or.inr ⟨_, rfl⟩) rfl ?_
    refine ax_ifnonnull hX (r := (some p2)) rfl dX10_minutesOf_7 (tgt := 15) (by decide) (fun _ c => ?_) (fun c => ?_)
    rotate_left
    · cases c
    refine ax_aload_n hX dX10_minutesOf_15 (Or.inr ⟨_, rfl⟩) rfl ?_
    obtain ⟨Q1, hK, hyp⟩ := hyp
    refine ax_callV hX lRX10_118 im_X3_minutesOrUsual sl_X3_minutesOrUsual cw_X3_minutesOrUsual ((th_at (h_p2.ne 0 (by decide)) (h_p2.lt 0 (by decide))).trans (tc_ob h_p2.ly0)) rfl rfl (A := []) (st := []) rfl rfl (Nat.le_of_ble_eq_true rfl) (by decide) (by decide) dX10_minutesOf_16 hK ?_
    rintro _ _ ⟨r3, T3, rfl, rfl, hq⟩
    replace hyp := hyp r3 T3 hq
    exact hR.1 _ _ _ _ _ _ (by decide) (by decide) dX10_minutesOf_19 ⟨_, rfl, rfl⟩ ⟨_, _, rfl, rfl, hyp⟩
set_option maxRecDepth 10000 in
theorem s_X10_minutesWith_0 {X : ax_X} {d L sz : Nat} {T : tT} {Q : Int32 → tT → Prop} (hX : ax_ok X mX10_minutesWith (d + 1)) (hR : ax_Ret X mX10_minutesWith (ti L sz Q)) (hsz : 161 ≤ sz) (x0 : Int32) (x1 : Int32) (hyp : ax_j X 5 [some (.ref 2), some (.int x0), some (.int x1), some (.int (0 : Int32)), some (.int (0 : Int32))] [] (th L sz T) 0 0) : ax_j X 0 [some (.ref 2), some (.int x0), some (.int x1), none, none] [] (th L sz T) 0 0 := by
  refine ax_iconst hX dX10_minutesWith_0 (v := 0) (by decide) ?_
  refine ax_istore_n hX dX10_minutesWith_1 (by decide) (L' := [some (.ref 2), some (.int x0), some (.int x1), some (.int (0 : Int32)), none]) rfl ?_
  refine ax_iconst hX dX10_minutesWith_2 (v := 0) (by decide) ?_
  refine ax_istore hX dX10_minutesWith_3 (by decide) (L' := [some (.ref 2), some (.int x0), some (.int x1), some (.int (0 : Int32)), some (.int (0 : Int32))]) rfl ?_
  exact ax_forget (L' := [some (.ref 2), some (.int x0), some (.int x1), some (.int (0 : Int32)), some (.int (0 : Int32))]) (⟨rfl, ⟨rfl, ⟨rfl, ⟨rfl, ⟨rfl, trivial⟩⟩⟩⟩⟩) hyp
set_option maxRecDepth 10000 in
theorem s_X10_minutesWith_5 {X : ax_X} {d L sz : Nat} {T : tT} {Q : Int32 → tT → Prop} (hX : ax_ok X mX10_minutesWith (d + 1)) (hR : ax_Ret X mX10_minutesWith (ti L sz Q)) (hsz : 161 ≤ sz) (v1 : Int32) (v2 : Int32) (v3 : Int32) (v4 : Int32) (hyp : (((T.1 69 0) ≤ v4 → Q v3 T) ∧ (¬ (T.1 69 0) ≤ v4 → vp_in v4 40 ∧ (((T.1 76 (v4.toNatClampNeg)) = v1 → ∃ Q1, tiK d mX10_minutesOf [.ref 2, .int v4] L sz T Q1 ∧ ∀ (r1 : Int32) (T1 : tT), Q1 r1 T1 → (ax_j X 5 [some (.ref 2), some (.int v1), some (.int v2), some (.int (v3 + r1)), some (.int (v4 + (1 : Int32)))] [] (th L sz T1) 0 0)) ∧ (¬ (T.1 76 (v4.toNatClampNeg)) = v1 → ((¬ v4 = v2 → ax_j X 5 [some (.ref 2), some (.int v1), some (.int v2), some (.int v3), some (.int (v4 + (1 : Int32)))] [] (th L sz T) 0 0) ∧ (v4 = v2 → ∃ Q1, tiK d mX10_minutesOf [.ref 2, .int v4] L sz T Q1 ∧ ∀ (r2 : Int32) (T2 : tT), Q1 r2 T2 → (ax_j X 5 [some (.ref 2), some (.int v1), some (.int v2), some (.int (v3 + r2)), some (.int (v4 + (1 : Int32)))] [] (th L sz T2) 0 0)))))))) : ax_j X 5 [some (.ref 2), some (.int v1), some (.int v2), some (.int v3), some (.int v4)] [] (th L sz T) 0 0 := by
  refine ax_iload hX dX10_minutesWith_5 rfl ?_
  refine ax_aload_n hX dX10_minutesWith_7 (Or.inr ⟨_, rfl⟩) rfl ?_
  refine tx_getF hX fRX10_32 ly_2 (o := 67) (b := 69) fk_10_3 rfl (by decide) (Nat.lt_of_lt_of_le (by decide) hsz) dX10_minutesWith_8 ?_
  refine tx_getI hX fRX10_245 ly_69 fk_2_0 (by decide) (Nat.lt_of_lt_of_le (by decide) hsz) dX10_minutesWith_11 ?_
  refine ax_icmp_ge hX dX10_minutesWith_14 (tgt := 52) (by decide) (fun c => ?_) (fun c => ?_)
  · replace hyp := hyp.1 c
    refine ax_iload_n hX dX10_minutesWith_52 rfl ?_
    exact hR.1 _ _ _ _ _ _ (by decide) (by decide) dX10_minutesWith_53 ⟨_, rfl, rfl⟩ ⟨_, _, rfl, rfl, hyp⟩
  · replace hyp := hyp.2 c
    refine ax_aload_n hX dX10_minutesWith_17 (Or.inr ⟨_, rfl⟩) rfl ?_
    refine tx_getF hX fRX10_32 ly_2 (o := 67) (b := 69) fk_10_3 rfl (by decide) (Nat.lt_of_lt_of_le (by decide) hsz) dX10_minutesWith_18 ?_
    refine tx_getF hX fRX10_170 ly_69 (o := 7) (b := 76) fk_2_7 rfl (by decide) (Nat.lt_of_lt_of_le (by decide) hsz) dX10_minutesWith_21 ?_
    refine ax_iload hX dX10_minutesWith_24 rfl ?_
    refine tx_ial hX ly_76 (by decide) (Nat.lt_of_lt_of_le (by decide) hsz) hyp.1 dX10_minutesWith_26 ?_
    replace hyp := hyp.2
    refine ax_iload_n hX dX10_minutesWith_27 rfl ?_
    refine ax_icmp_eq hX dX10_minutesWith_28 (tgt := 37) (by decide) (fun c => ?_) (fun c => ?_)
    · replace hyp := hyp.1 c
      refine ax_iload_n hX dX10_minutesWith_37 rfl ?_
      refine ax_aload_n hX dX10_minutesWith_38 (Or.inr ⟨_, rfl⟩) rfl ?_
      refine ax_iload hX dX10_minutesWith_39 rfl ?_
      obtain ⟨Q1, hK, hyp⟩ := hyp
      refine ax_callV hX lRX10_285 im_X10_minutesOf sl_X10_minutesOf cw_X10_minutesOf ((th_at (by decide) (Nat.lt_of_lt_of_le (by decide) hsz)).trans (tc_ob ly_2)) rfl rfl (A := [.int v4]) (st := [.int v3]) rfl rfl (Nat.le_of_ble_eq_true rfl) (by decide) (by decide) dX10_minutesWith_41 hK ?_
      rintro _ _ ⟨r1, T1, rfl, rfl, hq⟩
      replace hyp := hyp r1 T1 hq
      refine ax_iadd hX dX10_minutesWith_44 ?_
      refine ax_istore_n hX dX10_minutesWith_45 (by decide) (L' := [some (.ref 2), some (.int v1), some (.int v2), some (.int (v3 + r1)), some (.int v4)]) rfl ?_
      refine ax_iinc hX dX10_minutesWith_46 rfl (w := (v4 + (1 : Int32))) rfl (by decide) (L' := [some (.ref 2), some (.int v1), some (.int v2), some (.int (v3 + r1)), some (.int (v4 + (1 : Int32)))]) rfl ?_
      refine ax_goto hX dX10_minutesWith_49 (tgt := 5) (by decide) ?_
      exact ax_forget (L' := [some (.ref 2), some (.int v1), some (.int v2), some (.int (v3 + r1)), some (.int (v4 + (1 : Int32)))]) (⟨rfl, ⟨rfl, ⟨rfl, ⟨rfl, ⟨rfl, trivial⟩⟩⟩⟩⟩) hyp
    · replace hyp := hyp.2 c
      refine ax_iload hX dX10_minutesWith_31 rfl ?_
      refine ax_iload_n hX dX10_minutesWith_33 rfl ?_
      refine ax_icmp_ne hX dX10_minutesWith_34 (tgt := 46) (by decide) (fun c => ?_) (fun c => ?_)
      · replace hyp := hyp.1 c
        refine ax_iinc hX dX10_minutesWith_46 rfl (w := (v4 + (1 : Int32))) rfl (by decide) (L' := [some (.ref 2), some (.int v1), some (.int v2), some (.int v3), some (.int (v4 + (1 : Int32)))]) rfl ?_
        refine ax_goto hX dX10_minutesWith_49 (tgt := 5) (by decide) ?_
        exact ax_forget (L' := [some (.ref 2), some (.int v1), some (.int v2), some (.int v3), some (.int (v4 + (1 : Int32)))]) (⟨rfl, ⟨rfl, ⟨rfl, ⟨rfl, ⟨rfl, trivial⟩⟩⟩⟩⟩) hyp
      · replace hyp := hyp.2 c
        refine ax_iload_n hX dX10_minutesWith_37 rfl ?_
        refine ax_aload_n hX dX10_minutesWith_38 (Or.inr ⟨_, rfl⟩) rfl ?_
        refine ax_iload hX dX10_minutesWith_39 rfl ?_
        obtain ⟨Q1, hK, hyp⟩ := hyp
        refine ax_callV hX lRX10_285 im_X10_minutesOf sl_X10_minutesOf cw_X10_minutesOf ((th_at (by decide) (Nat.lt_of_lt_of_le (by decide) hsz)).trans (tc_ob ly_2)) rfl rfl (A := [.int v4]) (st := [.int v3]) rfl rfl (Nat.le_of_ble_eq_true rfl) (by decide) (by decide) dX10_minutesWith_41 hK ?_
        rintro _ _ ⟨r2, T2, rfl, rfl, hq⟩
        replace hyp := hyp r2 T2 hq
        refine ax_iadd hX dX10_minutesWith_44 ?_
        refine ax_istore_n hX dX10_minutesWith_45 (by decide) (L' := [some (.ref 2), some (.int v1), some (.int v2), some (.int (v3 + r2)), some (.int v4)]) rfl ?_
        refine ax_iinc hX dX10_minutesWith_46 rfl (w := (v4 + (1 : Int32))) rfl (by decide) (L' := [some (.ref 2), some (.int v1), some (.int v2), some (.int (v3 + r2)), some (.int (v4 + (1 : Int32)))]) rfl ?_
        refine ax_goto hX dX10_minutesWith_49 (tgt := 5) (by decide) ?_
        exact ax_forget (L' := [some (.ref 2), some (.int v1), some (.int v2), some (.int (v3 + r2)), some (.int (v4 + (1 : Int32)))]) (⟨rfl, ⟨rfl, ⟨rfl, ⟨rfl, ⟨rfl, trivial⟩⟩⟩⟩⟩) hyp
set_option maxRecDepth 10000 in
theorem s_X10_of_0 {X : ax_X} {d L sz : Nat} {T : tT} {Q : Int32 → tT → Prop} (hX : ax_ok X mX10_of (d + 1)) (hR : ax_Ret X mX10_of (ti L sz Q)) (hsz : 161 ≤ sz) (x0 : Int32) (x1 : Int32) (hyp : ∃ Q1, tiK d mX1_hasSession [.ref 79, .int x0] L sz T Q1 ∧ ∀ (r1 : Int32) (T1 : tT), Q1 r1 T1 → (((¬ r1 = 0 → (x1 = 0 → vp_in x0 9 ∧ Q (T1.1 82 (x0.toNatClampNeg)) T1) ∧ (x1 = 1 → vp_in x0 9 ∧ Q (T1.1 83 (x0.toNatClampNeg)) T1) ∧ (x1 = 2 → ∃ Q1, tiK d mX2_countIn [.ref 69, .int x0] L sz T1 Q1 ∧ ∀ (r2 : Int32) (T2 : tT), Q1 r2 T2 → (Q r2 T2)) ∧ (x1 = 3 → ∃ Q1, tiK d mX10_minutesWith [.ref 2, .int x0, .int (-1 : Int32)] L sz T1 Q1 ∧ ∀ (r3 : Int32) (T3 : tT), Q1 r3 T3 → (Q r3 T3)) ∧ (¬ x1 = 0 → ¬ x1 = 1 → ¬ x1 = 2 → ¬ x1 = 3 → Q (-1 : Int32) T1)) ∧ (r1 = 0 → Q (-1 : Int32) T1)))) : ax_j X 0 [some (.ref 2), some (.int x0), some (.int x1)] [] (th L sz T) 0 0 := by
  refine ax_aload_n hX dX10_of_0 (Or.inr ⟨_, rfl⟩) rfl ?_
  refine tx_getF hX fRX10_39 ly_2 (o := 77) (b := 79) fk_10_4 rfl (by decide) (Nat.lt_of_lt_of_le (by decide) hsz) dX10_of_1 ?_
  refine ax_iload_n hX dX10_of_4 rfl ?_
  obtain ⟨Q1, hK, hyp⟩ := hyp
  refine ax_callV hX lRX10_164 im_X1_hasSession sl_X1_hasSession cw_X1_hasSession ((th_at (by decide) (Nat.lt_of_lt_of_le (by decide) hsz)).trans (tc_ob ly_79)) rfl rfl (A := [.int x0]) (st := []) rfl rfl (Nat.le_of_ble_eq_true rfl) (by decide) (by decide) dX10_of_5 hK ?_
  rintro _ _ ⟨r1, T1, rfl, rfl, hq⟩
  replace hyp := hyp r1 T1 hq
  refine ax_if_ne hX dX10_of_8 (tgt := 13) (by decide) (fun c => ?_) (fun c => ?_)
  · replace hyp := hyp.1 c
    refine ax_iload_n hX dX10_of_13 rfl ?_
    by_cases q0 : x1 = 0
    · replace hyp := hyp.1 q0
      refine ax_tableIn hX dX10_of_14 (by rw [q0]; decide) (by rw [q0]; decide) (off := 30) (by rw [q0]; rfl) (tgt := 44) (by decide) ?_
      refine ax_aload_n hX dX10_of_44 (Or.inr ⟨_, rfl⟩) rfl ?_
      refine tx_getF hX fRX10_39 ly_2 (o := 77) (b := 79) fk_10_4 rfl (by decide) (Nat.lt_of_lt_of_le (by decide) hsz) dX10_of_45 ?_
      refine tx_getF hX fRX10_173 ly_79 (o := 3) (b := 82) fk_1_5 rfl (by decide) (Nat.lt_of_lt_of_le (by decide) hsz) dX10_of_48 ?_
      refine ax_iload_n hX dX10_of_51 rfl ?_
      refine tx_ial hX ly_82 (by decide) (Nat.lt_of_lt_of_le (by decide) hsz) hyp.1 dX10_of_52 ?_
      replace hyp := hyp.2
      exact hR.1 _ _ _ _ _ _ (by decide) (by decide) dX10_of_53 ⟨_, rfl, rfl⟩ ⟨_, _, rfl, rfl, hyp⟩
    by_cases q1 : x1 = 1
    · replace hyp := hyp.2.1 q1
      refine ax_tableIn hX dX10_of_14 (by rw [q1]; decide) (by rw [q1]; decide) (off := 40) (by rw [q1]; rfl) (tgt := 54) (by decide) ?_
      refine ax_aload_n hX dX10_of_54 (Or.inr ⟨_, rfl⟩) rfl ?_
      refine tx_getF hX fRX10_39 ly_2 (o := 77) (b := 79) fk_10_4 rfl (by decide) (Nat.lt_of_lt_of_le (by decide) hsz) dX10_of_55 ?_
      refine tx_getF hX fRX10_176 ly_79 (o := 4) (b := 83) fk_1_6 rfl (by decide) (Nat.lt_of_lt_of_le (by decide) hsz) dX10_of_58 ?_
      refine ax_iload_n hX dX10_of_61 rfl ?_
      refine tx_ial hX ly_83 (by decide) (Nat.lt_of_lt_of_le (by decide) hsz) hyp.1 dX10_of_62 ?_
      replace hyp := hyp.2
      exact hR.1 _ _ _ _ _ _ (by decide) (by decide) dX10_of_63 ⟨_, rfl, rfl⟩ ⟨_, _, rfl, rfl, hyp⟩
    by_cases q2 : x1 = 2
    · replace hyp := hyp.2.2.1 q2
      refine ax_tableIn hX dX10_of_14 (by rw [q2]; decide) (by rw [q2]; decide) (off := 50) (by rw [q2]; rfl) (tgt := 64) (by decide) ?_
      refine ax_aload_n hX dX10_of_64 (Or.inr ⟨_, rfl⟩) rfl ?_
      refine tx_getF hX fRX10_32 ly_2 (o := 67) (b := 69) fk_10_3 rfl (by decide) (Nat.lt_of_lt_of_le (by decide) hsz) dX10_of_65 ?_
      refine ax_iload_n hX dX10_of_68 rfl ?_
      obtain ⟨Q1, hK, hyp⟩ := hyp
      refine ax_callV hX lRX10_179 im_X2_countIn sl_X2_countIn cw_X2_countIn ((th_at (by decide) (Nat.lt_of_lt_of_le (by decide) hsz)).trans (tc_ob ly_69)) rfl rfl (A := [.int x0]) (st := []) rfl rfl (Nat.le_of_ble_eq_true rfl) (by decide) (by decide) dX10_of_69 hK ?_
      rintro _ _ ⟨r2, T2, rfl, rfl, hq⟩
      replace hyp := hyp r2 T2 hq
      exact hR.1 _ _ _ _ _ _ (by decide) (by decide) dX10_of_72 ⟨_, rfl, rfl⟩ ⟨_, _, rfl, rfl, hyp⟩
    by_cases q3 : x1 = 3
    · replace hyp := hyp.2.2.2.1 q3
      refine ax_tableIn hX dX10_of_14 (by rw [q3]; decide) (by rw [q3]; decide) (off := 59) (by rw [q3]; rfl) (tgt := 73) (by decide) ?_
      refine ax_aload_n hX dX10_of_73 (Or.inr ⟨_, rfl⟩) rfl ?_
      refine ax_iload_n hX dX10_of_74 rfl ?_
      refine ax_iconst hX dX10_of_75 (v := -1) (by decide) ?_
      obtain ⟨Q1, hK, hyp⟩ := hyp
      refine ax_callV hX lRX10_167 im_X10_minutesWith sl_X10_minutesWith cw_X10_minutesWith ((th_at (by decide) (Nat.lt_of_lt_of_le (by decide) hsz)).trans (tc_ob ly_2)) rfl rfl (A := [.int x0, .int (-1 : Int32)]) (st := []) rfl rfl (Nat.le_of_ble_eq_true rfl) (by decide) (by decide) dX10_of_76 hK ?_
      rintro _ _ ⟨r3, T3, rfl, rfl, hq⟩
      replace hyp := hyp r3 T3 hq
      exact hR.1 _ _ _ _ _ _ (by decide) (by decide) dX10_of_79 ⟨_, rfl, rfl⟩ ⟨_, _, rfl, rfl, hyp⟩
    replace hyp := hyp.2.2.2.2 q0 q1 q2 q3
    have z0 := lv_neT (a := 0) q0 rfl
    have z1 := lv_neT (a := 1) q1 rfl
    have z2 := lv_neT (a := 2) q2 rfl
    have z3 := lv_neT (a := 3) q3 rfl
    refine ax_tableOut hX dX10_of_14 (by omega) (tgt := 80) (by decide) ?_
    refine ax_iconst hX dX10_of_80 (v := -1) (by decide) ?_
    exact hR.1 _ _ _ _ _ _ (by decide) (by decide) dX10_of_81 ⟨_, rfl, rfl⟩ ⟨_, _, rfl, rfl, hyp⟩
  · replace hyp := hyp.2 c
    refine ax_iconst hX dX10_of_11 (v := -1) (by decide) ?_
    exact hR.1 _ _ _ _ _ _ (by decide) (by decide) dX10_of_12 ⟨_, rfl, rfl⟩ ⟨_, _, rfl, rfl, hyp⟩
set_option maxRecDepth 10000 in
theorem s_X10_piece_0 {X : ax_X} {d L sz : Nat} {T : tT} {Q : Int32 → tT → Prop} (hX : ax_ok X mX10_piece (d + 1)) (hR : ax_Ret X mX10_piece (ti L sz Q)) (hsz : 161 ≤ sz) (x0 : Int32) (x1 : Int64) (hyp : ∃ Q1, tiK d mX2_has [.ref 69, .int x0] L sz T Q1 ∧ ∀ (r1 : Int32) (T1 : tT), Q1 r1 T1 → (((r1 = 0 → Q (-1 : Int32) T1) ∧ (¬ r1 = 0 → ∃ Q1, tiK d mX9_isWord [.long x1] L sz T1 Q1 ∧ ∀ (r2 : Int32) (T2 : tT), Q1 r2 T2 → (((r2 = 0 → Q (-1 : Int32) T2) ∧ (¬ r2 = 0 → ∃ Q1, tiK d mX2_addPiece [.ref 69, .int x0, .long x1] L sz T2 Q1 ∧ ∀ (r3 : Int32) (T3 : tT), Q1 r3 T3 → (Q r3 T3)))))))) : ax_j X 0 [some (.ref 2), some (.int x0), some (.long x1), none] [] (th L sz T) 0 0 := by
  refine ax_aload_n hX dX10_piece_0 (Or.inr ⟨_, rfl⟩) rfl ?_
  refine tx_getF hX fRX10_32 ly_2 (o := 67) (b := 69) fk_10_3 rfl (by decide) (Nat.lt_of_lt_of_le (by decide) hsz) dX10_piece_1 ?_
  refine ax_iload_n hX dX10_piece_4 rfl ?_
  obtain ⟨Q1, hK, hyp⟩ := hyp
  refine ax_callV hX lRX10_133 im_X2_has sl_X2_has cw_X2_has ((th_at (by decide) (Nat.lt_of_lt_of_le (by decide) hsz)).trans (tc_ob ly_69)) rfl rfl (A := [.int x0]) (st := []) rfl rfl (Nat.le_of_ble_eq_true rfl) (by decide) (by decide) dX10_piece_5 hK ?_
  rintro _ _ ⟨r1, T1, rfl, rfl, hq⟩
  replace hyp := hyp r1 T1 hq
  refine ax_if_eq hX dX10_piece_8 (tgt := 30) (by decide) (fun c => ?_) (fun c => ?_)
  · replace hyp := hyp.1 c
    refine ax_iconst hX dX10_piece_30 (v := -1) (by decide) ?_
    exact hR.1 _ _ _ _ _ _ (by decide) (by decide) dX10_piece_31 ⟨_, rfl, rfl⟩ ⟨_, _, rfl, rfl, hyp⟩
  · replace hyp := hyp.2 c
    refine ax_lload_n hX dX10_piece_11 rfl ?_
    obtain ⟨Q1, hK, hyp⟩ := hyp
    refine ax_callS hX lRX10_136 sm_X9_isWord cw_X9_isWord (A := [.long x1]) (st := []) rfl rfl (Nat.le_of_ble_eq_true rfl) (by decide) (by decide) dX10_piece_12 hK ?_
    rintro _ _ ⟨r2, T2, rfl, rfl, hq⟩
    replace hyp := hyp r2 T2 hq
    refine ax_if_eq hX dX10_piece_15 (tgt := 30) (by decide) (fun c => ?_) (fun c => ?_)
    · replace hyp := hyp.1 c
      refine ax_iconst hX dX10_piece_30 (v := -1) (by decide) ?_
      exact hR.1 _ _ _ _ _ _ (by decide) (by decide) dX10_piece_31 ⟨_, rfl, rfl⟩ ⟨_, _, rfl, rfl, hyp⟩
    · replace hyp := hyp.2 c
      refine ax_aload_n hX dX10_piece_18 (Or.inr ⟨_, rfl⟩) rfl ?_
      refine tx_getF hX fRX10_32 ly_2 (o := 67) (b := 69) fk_10_3 rfl (by decide) (Nat.lt_of_lt_of_le (by decide) hsz) dX10_piece_19 ?_
      refine ax_iload_n hX dX10_piece_22 rfl ?_
      refine ax_lload_n hX dX10_piece_23 rfl ?_
      obtain ⟨Q1, hK, hyp⟩ := hyp
      refine ax_callV hX lRX10_140 im_X2_addPiece sl_X2_addPiece cw_X2_addPiece ((th_at (by decide) (Nat.lt_of_lt_of_le (by decide) hsz)).trans (tc_ob ly_69)) rfl rfl (A := [.int x0, .long x1]) (st := []) rfl rfl (Nat.le_of_ble_eq_true rfl) (by decide) (by decide) dX10_piece_24 hK ?_
      rintro _ _ ⟨r3, T3, rfl, rfl, hq⟩
      replace hyp := hyp r3 T3 hq
      refine ax_goto hX dX10_piece_27 (tgt := 31) (by decide) ?_
      exact hR.1 _ _ _ _ _ _ (by decide) (by decide) dX10_piece_31 ⟨_, rfl, rfl⟩ ⟨_, _, rfl, rfl, hyp⟩
set_option maxRecDepth 10000 in
theorem s_X10_put_0 {X : ax_X} {d L sz : Nat} {T : tT} {Q : Int32 → tT → Prop} (hX : ax_ok X mX10_put (d + 1)) (hR : ax_Ret X mX10_put (ti L sz Q)) (hsz : 161 ≤ sz) (x0 : Int32) (x1 : Int32) (hyp : ∃ Q1, tiK d mX2_has [.ref 69, .int x0] L sz T Q1 ∧ ∀ (r1 : Int32) (T1 : tT), Q1 r1 T1 → (((r1 = 0 → Q (0 : Int32) T1) ∧ (¬ r1 = 0 → ((x1 = (-1 : Int32) → ((x1 = (-1 : Int32) → vp_in x0 40 ∧ Q (1 : Int32) (tI T1 76 (x0.toNatClampNeg) x1)) ∧ (¬ x1 = (-1 : Int32) → ∃ Q1, tiK d mX10_minutesWith [.ref 2, .int x1, .int x0] L sz T1 Q1 ∧ ∀ (r2 : Int32) (T2 : tT), Q1 r2 T2 → (((r2 ≤ (300 : Int32) → vp_in x0 40 ∧ Q (1 : Int32) (tI T2 76 (x0.toNatClampNeg) x1)) ∧ (¬ r2 ≤ (300 : Int32) → Q (0 : Int32) T2)))))) ∧ (¬ x1 = (-1 : Int32) → ∃ Q1, tiK d mX1_hasSession [.ref 79, .int x1] L sz T1 Q1 ∧ ∀ (r3 : Int32) (T3 : tT), Q1 r3 T3 → (((¬ r3 = 0 → ((x1 = (-1 : Int32) → vp_in x0 40 ∧ Q (1 : Int32) (tI T3 76 (x0.toNatClampNeg) x1)) ∧ (¬ x1 = (-1 : Int32) → ∃ Q1, tiK d mX10_minutesWith [.ref 2, .int x1, .int x0] L sz T3 Q1 ∧ ∀ (r4 : Int32) (T4 : tT), Q1 r4 T4 → (((r4 ≤ (300 : Int32) → vp_in x0 40 ∧ Q (1 : Int32) (tI T4 76 (x0.toNatClampNeg) x1)) ∧ (¬ r4 ≤ (300 : Int32) → Q (0 : Int32) T4)))))) ∧ (r3 = 0 → Q (0 : Int32) T3))))))))) : ax_j X 0 [some (.ref 2), some (.int x0), some (.int x1)] [] (th L sz T) 0 0 := by
  refine ax_aload_n hX dX10_put_0 (Or.inr ⟨_, rfl⟩) rfl ?_
  refine tx_getF hX fRX10_32 ly_2 (o := 67) (b := 69) fk_10_3 rfl (by decide) (Nat.lt_of_lt_of_le (by decide) hsz) dX10_put_1 ?_
  refine ax_iload_n hX dX10_put_4 rfl ?_
  obtain ⟨Q1, hK, hyp⟩ := hyp
  refine ax_callV hX lRX10_133 im_X2_has sl_X2_has cw_X2_has ((th_at (by decide) (Nat.lt_of_lt_of_le (by decide) hsz)).trans (tc_ob ly_69)) rfl rfl (A := [.int x0]) (st := []) rfl rfl (Nat.le_of_ble_eq_true rfl) (by decide) (by decide) dX10_put_5 hK ?_
  rintro _ _ ⟨r1, T1, rfl, rfl, hq⟩
  replace hyp := hyp r1 T1 hq
  refine ax_if_eq hX dX10_put_8 (tgt := 27) (by decide) (fun c => ?_) (fun c => ?_)
  · replace hyp := hyp.1 c
    refine ax_iconst hX dX10_put_27 (v := 0) (by decide) ?_
    exact hR.1 _ _ _ _ _ _ (by decide) (by decide) dX10_put_28 ⟨_, rfl, rfl⟩ ⟨_, _, rfl, rfl, hyp⟩
  · replace hyp := hyp.2 c
    refine ax_iload_n hX dX10_put_11 rfl ?_
    refine ax_iconst hX dX10_put_12 (v := -1) (by decide) ?_
    refine ax_icmp_eq hX dX10_put_13 (tgt := 29) (by decide) (fun c => ?_) (fun c => ?_)
    · replace hyp := hyp.1 c
      refine ax_iload_n hX dX10_put_29 rfl ?_
      refine ax_iconst hX dX10_put_30 (v := -1) (by decide) ?_
      refine ax_icmp_eq hX dX10_put_31 (tgt := 48) (by decide) (fun c => ?_) (fun c => ?_)
      · replace hyp := hyp.1 c
        refine ax_aload_n hX dX10_put_48 (Or.inr ⟨_, rfl⟩) rfl ?_
        refine tx_getF hX fRX10_32 ly_2 (o := 67) (b := 69) fk_10_3 rfl (by decide) (Nat.lt_of_lt_of_le (by decide) hsz) dX10_put_49 ?_
        refine tx_getF hX fRX10_170 ly_69 (o := 7) (b := 76) fk_2_7 rfl (by decide) (Nat.lt_of_lt_of_le (by decide) hsz) dX10_put_52 ?_
        refine ax_iload_n hX dX10_put_55 rfl ?_
        refine ax_iload_n hX dX10_put_56 rfl ?_
        refine tx_ias hX ly_76 (by decide) (Nat.lt_of_lt_of_le (by decide) hsz) hyp.1 dX10_put_57 ?_
        replace hyp := hyp.2
        refine ax_iconst hX dX10_put_58 (v := 1) (by decide) ?_
        exact hR.1 _ _ _ _ _ _ (by decide) (by decide) dX10_put_59 ⟨_, rfl, rfl⟩ ⟨_, _, rfl, rfl, hyp⟩
      · replace hyp := hyp.2 c
        refine ax_aload_n hX dX10_put_34 (Or.inr ⟨_, rfl⟩) rfl ?_
        refine ax_iload_n hX dX10_put_35 rfl ?_
        refine ax_iload_n hX dX10_put_36 rfl ?_
        obtain ⟨Q1, hK, hyp⟩ := hyp
        refine ax_callV hX lRX10_167 im_X10_minutesWith sl_X10_minutesWith cw_X10_minutesWith ((th_at (by decide) (Nat.lt_of_lt_of_le (by decide) hsz)).trans (tc_ob ly_2)) rfl rfl (A := [.int x1, .int x0]) (st := []) rfl rfl (Nat.le_of_ble_eq_true rfl) (by decide) (by decide) dX10_put_37 hK ?_
        rintro _ _ ⟨r2, T2, rfl, rfl, hq⟩
        replace hyp := hyp r2 T2 hq
        refine ax_sipush hX dX10_put_40 (v := 300) (by decide) ?_
        refine ax_icmp_le hX dX10_put_43 (tgt := 48) (by decide) (fun c => ?_) (fun c => ?_)
        · replace hyp := hyp.1 c
          refine ax_aload_n hX dX10_put_48 (Or.inr ⟨_, rfl⟩) rfl ?_
          refine tx_getF hX fRX10_32 ly_2 (o := 67) (b := 69) fk_10_3 rfl (by decide) (Nat.lt_of_lt_of_le (by decide) hsz) dX10_put_49 ?_
          refine tx_getF hX fRX10_170 ly_69 (o := 7) (b := 76) fk_2_7 rfl (by decide) (Nat.lt_of_lt_of_le (by decide) hsz) dX10_put_52 ?_
          refine ax_iload_n hX dX10_put_55 rfl ?_
          refine ax_iload_n hX dX10_put_56 rfl ?_
          refine tx_ias hX ly_76 (by decide) (Nat.lt_of_lt_of_le (by decide) hsz) hyp.1 dX10_put_57 ?_
          replace hyp := hyp.2
          refine ax_iconst hX dX10_put_58 (v := 1) (by decide) ?_
          exact hR.1 _ _ _ _ _ _ (by decide) (by decide) dX10_put_59 ⟨_, rfl, rfl⟩ ⟨_, _, rfl, rfl, hyp⟩
        · replace hyp := hyp.2 c
          refine ax_iconst hX dX10_put_46 (v := 0) (by decide) ?_
          exact hR.1 _ _ _ _ _ _ (by decide) (by decide) dX10_put_47 ⟨_, rfl, rfl⟩ ⟨_, _, rfl, rfl, hyp⟩
    · replace hyp := hyp.2 c
      refine ax_aload_n hX dX10_put_16 (Or.inr ⟨_, rfl⟩) rfl ?_
      refine tx_getF hX fRX10_39 ly_2 (o := 77) (b := 79) fk_10_4 rfl (by decide) (Nat.lt_of_lt_of_le (by decide) hsz) dX10_put_17 ?_
      refine ax_iload_n hX dX10_put_20 rfl ?_
      obtain ⟨Q1, hK, hyp⟩ := hyp
      refine ax_callV hX lRX10_164 im_X1_hasSession sl_X1_hasSession cw_X1_hasSession ((th_at (by decide) (Nat.lt_of_lt_of_le (by decide) hsz)).trans (tc_ob ly_79)) rfl rfl (A := [.int x1]) (st := []) rfl rfl (Nat.le_of_ble_eq_true rfl) (by decide) (by decide) dX10_put_21 hK ?_
      rintro _ _ ⟨r3, T3, rfl, rfl, hq⟩
      replace hyp := hyp r3 T3 hq
      refine ax_if_ne hX dX10_put_24 (tgt := 29) (by decide) (fun c => ?_) (fun c => ?_)
      · replace hyp := hyp.1 c
        refine ax_iload_n hX dX10_put_29 rfl ?_
        refine ax_iconst hX dX10_put_30 (v := -1) (by decide) ?_
        refine ax_icmp_eq hX dX10_put_31 (tgt := 48) (by decide) (fun c => ?_) (fun c => ?_)
        · replace hyp := hyp.1 c
          refine ax_aload_n hX dX10_put_48 (Or.inr ⟨_, rfl⟩) rfl ?_
          refine tx_getF hX fRX10_32 ly_2 (o := 67) (b := 69) fk_10_3 rfl (by decide) (Nat.lt_of_lt_of_le (by decide) hsz) dX10_put_49 ?_
          refine tx_getF hX fRX10_170 ly_69 (o := 7) (b := 76) fk_2_7 rfl (by decide) (Nat.lt_of_lt_of_le (by decide) hsz) dX10_put_52 ?_
          refine ax_iload_n hX dX10_put_55 rfl ?_
          refine ax_iload_n hX dX10_put_56 rfl ?_
          refine tx_ias hX ly_76 (by decide) (Nat.lt_of_lt_of_le (by decide) hsz) hyp.1 dX10_put_57 ?_
          replace hyp := hyp.2
          refine ax_iconst hX dX10_put_58 (v := 1) (by decide) ?_
          exact hR.1 _ _ _ _ _ _ (by decide) (by decide) dX10_put_59 ⟨_, rfl, rfl⟩ ⟨_, _, rfl, rfl, hyp⟩
        · replace hyp := hyp.2 c
          refine ax_aload_n hX dX10_put_34 (Or.inr ⟨_, rfl⟩) rfl ?_
          refine ax_iload_n hX dX10_put_35 rfl ?_
          refine ax_iload_n hX dX10_put_36 rfl ?_
          obtain ⟨Q1, hK, hyp⟩ := hyp
          refine ax_callV hX lRX10_167 im_X10_minutesWith sl_X10_minutesWith cw_X10_minutesWith ((th_at (by decide) (Nat.lt_of_lt_of_le (by decide) hsz)).trans (tc_ob ly_2)) rfl rfl (A := [.int x1, .int x0]) (st := []) rfl rfl (Nat.le_of_ble_eq_true rfl) (by decide) (by decide) dX10_put_37 hK ?_
          rintro _ _ ⟨r4, T4, rfl, rfl, hq⟩
          replace hyp := hyp r4 T4 hq
          refine ax_sipush hX dX10_put_40 (v := 300) (by decide) ?_
          refine ax_icmp_le hX dX10_put_43 (tgt := 48) (by decide) (fun c => ?_) (fun c => ?_)
          · replace hyp := hyp.1 c
            refine ax_aload_n hX dX10_put_48 (Or.inr ⟨_, rfl⟩) rfl ?_
            refine tx_getF hX fRX10_32 ly_2 (o := 67) (b := 69) fk_10_3 rfl (by decide) (Nat.lt_of_lt_of_le (by decide) hsz) dX10_put_49 ?_
            refine tx_getF hX fRX10_170 ly_69 (o := 7) (b := 76) fk_2_7 rfl (by decide) (Nat.lt_of_lt_of_le (by decide) hsz) dX10_put_52 ?_
            refine ax_iload_n hX dX10_put_55 rfl ?_
            refine ax_iload_n hX dX10_put_56 rfl ?_
            refine tx_ias hX ly_76 (by decide) (Nat.lt_of_lt_of_le (by decide) hsz) hyp.1 dX10_put_57 ?_
            replace hyp := hyp.2
            refine ax_iconst hX dX10_put_58 (v := 1) (by decide) ?_
            exact hR.1 _ _ _ _ _ _ (by decide) (by decide) dX10_put_59 ⟨_, rfl, rfl⟩ ⟨_, _, rfl, rfl, hyp⟩
          · replace hyp := hyp.2 c
            refine ax_iconst hX dX10_put_46 (v := 0) (by decide) ?_
            exact hR.1 _ _ _ _ _ _ (by decide) (by decide) dX10_put_47 ⟨_, rfl, rfl⟩ ⟨_, _, rfl, rfl, hyp⟩
      · replace hyp := hyp.2 c
        refine ax_iconst hX dX10_put_27 (v := 0) (by decide) ?_
        exact hR.1 _ _ _ _ _ _ (by decide) (by decide) dX10_put_28 ⟨_, rfl, rfl⟩ ⟨_, _, rfl, rfl, hyp⟩
set_option maxRecDepth 10000 in
theorem s_X10_result_0 {X : ax_X} {d L sz : Nat} {T : tT} {Q : Int32 → tT → Prop} (hX : ax_ok X mX10_result (d + 1)) (hR : ax_Ret X mX10_result (ti L sz Q)) (hsz : 161 ≤ sz) (x0 : Int32) (x1 : Int32) (hyp : ∃ Q1, tiK d mX2_has [.ref 69, .int x0] L sz T Q1 ∧ ∀ (r1 : Int32) (T1 : tT), Q1 r1 T1 → (((r1 = 0 → Q (-1 : Int32) T1) ∧ (¬ r1 = 0 → ∃ Q1, tiK d mX10_resultOf [.ref 2, .int x0, .int x1] L sz T1 Q1 ∧ ∀ (r2 : Int32) (T2 : tT), Q1 r2 T2 → (Q r2 T2))))) : ax_j X 0 [some (.ref 2), some (.int x0), some (.int x1)] [] (th L sz T) 0 0 := by
  refine ax_aload_n hX dX10_result_0 (Or.inr ⟨_, rfl⟩) rfl ?_
  refine tx_getF hX fRX10_32 ly_2 (o := 67) (b := 69) fk_10_3 rfl (by decide) (Nat.lt_of_lt_of_le (by decide) hsz) dX10_result_1 ?_
  refine ax_iload_n hX dX10_result_4 rfl ?_
  obtain ⟨Q1, hK, hyp⟩ := hyp
  refine ax_callV hX lRX10_133 im_X2_has sl_X2_has cw_X2_has ((th_at (by decide) (Nat.lt_of_lt_of_le (by decide) hsz)).trans (tc_ob ly_69)) rfl rfl (A := [.int x0]) (st := []) rfl rfl (Nat.le_of_ble_eq_true rfl) (by decide) (by decide) dX10_result_5 hK ?_
  rintro _ _ ⟨r1, T1, rfl, rfl, hq⟩
  replace hyp := hyp r1 T1 hq
  refine ax_if_eq hX dX10_result_8 (tgt := 20) (by decide) (fun c => ?_) (fun c => ?_)
  · replace hyp := hyp.1 c
    refine ax_iconst hX dX10_result_20 (v := -1) (by decide) ?_
    exact hR.1 _ _ _ _ _ _ (by decide) (by decide) dX10_result_21 ⟨_, rfl, rfl⟩ ⟨_, _, rfl, rfl, hyp⟩
  · replace hyp := hyp.2 c
    refine ax_aload_n hX dX10_result_11 (Or.inr ⟨_, rfl⟩) rfl ?_
    refine ax_iload_n hX dX10_result_12 rfl ?_
    refine ax_iload_n hX dX10_result_13 rfl ?_
    obtain ⟨Q1, hK, hyp⟩ := hyp
    refine ax_callV hX lRX10_226 im_X10_resultOf sl_X10_resultOf cw_X10_resultOf ((th_at (by decide) (Nat.lt_of_lt_of_le (by decide) hsz)).trans (tc_ob ly_2)) rfl rfl (A := [.int x0, .int x1]) (st := []) rfl rfl (Nat.le_of_ble_eq_true rfl) (by decide) (by decide) dX10_result_14 hK ?_
    rintro _ _ ⟨r2, T2, rfl, rfl, hq⟩
    replace hyp := hyp r2 T2 hq
    refine ax_goto hX dX10_result_17 (tgt := 21) (by decide) ?_
    exact hR.1 _ _ _ _ _ _ (by decide) (by decide) dX10_result_21 ⟨_, rfl, rfl⟩ ⟨_, _, rfl, rfl, hyp⟩
set_option maxRecDepth 10000 in
theorem s_X10_resultOf_0 {X : ax_X} {d L sz : Nat} {T : tT} {Q : Int32 → tT → Prop} (hX : ax_ok X mX10_resultOf (d + 1)) (hR : ax_Ret X mX10_resultOf (ti L sz Q)) (hsz : 161 ≤ sz) (x0 : Int32) (x1 : Int32) (hyp : vp_in x0 40 ∧ vp_in (T.1 71 (x0.toNatClampNeg)) 4 ∧ (((T.2.2 65 (T.1 71 (x0.toNatClampNeg)).toNatClampNeg) = none → ∃ Q1, toK d mX10_gradeOf [.ref 2, .int x0] L sz T Q1 ∧ ∀ (r2 : Option Nat) (T2 : tT), Q1 r2 T2 → (((r2 = none → Q (-1 : Int32) T2) ∧ (∀ p3, r2 = some p3 → tgr sz p3 ∧ Q (-1 : Int32) T2)))) ∧ (∀ p1, (T.2.2 65 (T.1 71 (x0.toNatClampNeg)).toNatClampNeg) = some p1 → tsy sz p1 ∧ ∃ Q1, toK d mX10_gradeOf [.ref 2, .int x0] L sz T Q1 ∧ ∀ (r4 : Option Nat) (T4 : tT), Q1 r4 T4 → (((r4 = none → Q (-1 : Int32) T4) ∧ (∀ p5, r4 = some p5 → tgr sz p5 ∧ ∃ Q1, tiK d mX10_firstUnmet [.ref 2, .int x0] L sz T4 Q1 ∧ ∀ (r6 : Int32) (T6 : tT), Q1 r6 T6 → (((r6 = (-1 : Int32) → ax_j X 45 [some (.ref 2), some (.int x0), some (.int x1), some (.ref p1), some (.ref p5), some (.int (0 : Int32)), none] [] (th L sz T6) 0 0) ∧ (¬ r6 = (-1 : Int32) → Q (-1 : Int32) T6))))))))) : ax_j X 0 [some (.ref 2), some (.int x0), some (.int x1), none, none, none, none] [] (th L sz T) 0 0 := by
  refine ax_aload_n hX dX10_resultOf_0 (Or.inr ⟨_, rfl⟩) rfl ?_
  refine tx_getF hX fRX10_18 ly_2 (o := 63) (b := 65) fk_10_1 rfl (by decide) (Nat.lt_of_lt_of_le (by decide) hsz) dX10_resultOf_1 ?_
  refine ax_aload_n hX dX10_resultOf_4 (Or.inr ⟨_, rfl⟩) rfl ?_
  refine tx_getF hX fRX10_32 ly_2 (o := 67) (b := 69) fk_10_3 rfl (by decide) (Nat.lt_of_lt_of_le (by decide) hsz) dX10_resultOf_5 ?_
  refine tx_getF hX fRX10_260 ly_69 (o := 2) (b := 71) fk_2_2 rfl (by decide) (Nat.lt_of_lt_of_le (by decide) hsz) dX10_resultOf_8 ?_
  refine ax_iload_n hX dX10_resultOf_11 rfl ?_
  refine tx_ial hX ly_71 (by decide) (Nat.lt_of_lt_of_le (by decide) hsz) hyp.1 dX10_resultOf_12 ?_
  replace hyp := hyp.2
  have hin := hyp.1
  replace hyp := hyp.2
  rcases ho1 : (T.2.2 65 (T.1 71 (x0.toNatClampNeg)).toNatClampNeg) with _ | p1
  · replace hyp := hyp.1 ho1
    refine tx_aal hX ly_65 (by decide) (by decide) (Nat.lt_of_lt_of_le (by decide) hsz) hin (v := .null) (congrArg va_rf ho1) dX10_resultOf_13 ?_
    refine ax_astore_n hX dX10_resultOf_14 (Or.inl rfl) (by decide) (L' := [some (.ref 2), some (.int x0), some (.int x1), some (.null), none, none, none]) rfl ?_
    refine ax_aload_n hX dX10_resultOf_15 (Or.inr ⟨_, rfl⟩) rfl ?_
    refine ax_iload_n hX dX10_resultOf_16 rfl ?_
    obtain ⟨Q1, hK, hyp⟩ := hyp
    refine ax_callV hX lRX10_266 im_X10_gradeOf sl_X10_gradeOf cw_X10_gradeOf ((th_at (by decide) (Nat.lt_of_lt_of_le (by decide) hsz)).trans (tc_ob ly_2)) rfl rfl (A := [.int x0]) (st := []) rfl rfl (Nat.le_of_ble_eq_true rfl) (by decide) (by decide) dX10_resultOf_17 hK ?_
    rintro _ _ ⟨r2, T2, rfl, rfl, hq⟩
    replace hyp := hyp r2 T2 hq
    rcases r2 with _ | p3
    · replace hyp := hyp.1 rfl
      refine ax_astore hX dX10_resultOf_20 (Or.inl rfl) (by decide) (L' := [some (.ref 2), some (.int x0), some (.int x1), some (.null), some (.null), none, none]) rfl ?_
      refine ax_aload_n hX dX10_resultOf_22 (Or.inl rfl) rfl ?_
      refine ax_ifnull hX (r := none) rfl dX10_resultOf_23 (tgt := 40) (by decide) (fun c => ?_) (fun _ c => ?_)
      rotate_left
      · cases c
      refine ax_iconst hX dX10_resultOf_40 (v := -1) (by decide) ?_
      exact hR.1 _ _ _ _ _ _ (by decide) (by decide) dX10_resultOf_41 ⟨_, rfl, rfl⟩ ⟨_, _, rfl, rfl, hyp⟩
    · obtain ⟨h_p3, hyp⟩ := hyp.2 p3 rfl
      refine ax_astore hX dX10_resultOf_20 (Or.inr ⟨_, rfl⟩) (by decide) (L' := [some (.ref 2), some (.int x0), some (.int x1), some (.null), some (.ref p3), none, none]) rfl ?_
      refine ax_aload_n hX dX10_resultOf_22 (Or.inl rfl) rfl ?_
      refine ax_ifnull hX (r := none) rfl dX10_resultOf_23 (tgt := 40) (by decide) (fun c => ?_) (fun _ c => ?_)
      rotate_left
      · cases c
      refine ax_iconst hX dX10_resultOf_40 (v := -1) (by decide) ?_
      exact hR.1 _ _ _ _ _ _ (by decide) (by decide) dX10_resultOf_41 ⟨_, rfl, rfl⟩ ⟨_, _, rfl, rfl, hyp⟩
  · obtain ⟨h_p1, hyp⟩ := hyp.2 p1 ho1
    refine tx_aal hX ly_65 (by decide) (by decide) (Nat.lt_of_lt_of_le (by decide) hsz) hin (v := .ref p1) (congrArg va_rf ho1) dX10_resultOf_13 ?_
    refine ax_astore_n hX dX10_resultOf_14 (Or.inr ⟨_, rfl⟩) (by decide) (L' := [some (.ref 2), some (.int x0), some (.int x1), some (.ref p1), none, none, none]) rfl ?_
    refine ax_aload_n hX dX10_resultOf_15 (Or.inr ⟨_, rfl⟩) rfl ?_
    refine ax_iload_n hX dX10_resultOf_16 rfl ?_
    obtain ⟨Q1, hK, hyp⟩ := hyp
    refine ax_callV hX lRX10_266 im_X10_gradeOf sl_X10_gradeOf cw_X10_gradeOf ((th_at (by decide) (Nat.lt_of_lt_of_le (by decide) hsz)).trans (tc_ob ly_2)) rfl rfl (A := [.int x0]) (st := []) rfl rfl (Nat.le_of_ble_eq_true rfl) (by decide) (by decide) dX10_resultOf_17 hK ?_
    rintro _ _ ⟨r4, T4, rfl, rfl, hq⟩
    replace hyp := hyp r4 T4 hq
    rcases r4 with _ | p5
    · replace hyp := hyp.1 rfl
      refine ax_astore hX dX10_resultOf_20 (Or.inl rfl) (by decide) (L' := [some (.ref 2), some (.int x0), some (.int x1), some (.ref p1), some (.null), none, none]) rfl ?_
      refine ax_aload_n hX dX10_resultOf_22 (Or.inr ⟨_, rfl⟩) rfl ?_
      refine ax_ifnull hX (r := (some p1)) rfl dX10_resultOf_23 (tgt := 40) (by decide) (fun c => ?_) (fun _ c => ?_)
      · cases c
      refine ax_aload hX dX10_resultOf_26 (Or.inl rfl) rfl ?_
      refine ax_ifnull hX (r := none) rfl dX10_resultOf_28 (tgt := 40) (by decide) (fun c => ?_) (fun _ c => ?_)
      rotate_left
      · cases c
      refine ax_iconst hX dX10_resultOf_40 (v := -1) (by decide) ?_
      exact hR.1 _ _ _ _ _ _ (by decide) (by decide) dX10_resultOf_41 ⟨_, rfl, rfl⟩ ⟨_, _, rfl, rfl, hyp⟩
    · obtain ⟨h_p5, hyp⟩ := hyp.2 p5 rfl
      refine ax_astore hX dX10_resultOf_20 (Or.inr ⟨_, rfl⟩) (by decide) (L' := [some (.ref 2), some (.int x0), some (.int x1), some (.ref p1), some (.ref p5), none, none]) rfl ?_
      refine ax_aload_n hX dX10_resultOf_22 (Or.inr ⟨_, rfl⟩) rfl ?_
      refine ax_ifnull hX (r := (some p1)) rfl dX10_resultOf_23 (tgt := 40) (by decide) (fun c => ?_) (fun _ c => ?_)
      · cases c
      refine ax_aload hX dX10_resultOf_26 (Or.inr ⟨_, rfl⟩) rfl ?_
      refine ax_ifnull hX (r := (some p5)) rfl dX10_resultOf_28 (tgt := 40) (by decide) (fun c => ?_) (fun _ c => ?_)
      · cases c
      refine ax_aload_n hX dX10_resultOf_31 (Or.inr ⟨_, rfl⟩) rfl ?_
      refine ax_iload_n hX dX10_resultOf_32 rfl ?_
      obtain ⟨Q1, hK, hyp⟩ := hyp
      refine ax_callV hX lRX10_144 im_X10_firstUnmet sl_X10_firstUnmet cw_X10_firstUnmet ((th_at (by decide) (Nat.lt_of_lt_of_le (by decide) hsz)).trans (tc_ob ly_2)) rfl rfl (A := [.int x0]) (st := []) rfl rfl (Nat.le_of_ble_eq_true rfl) (by decide) (by decide) dX10_resultOf_33 hK ?_
      rintro _ _ ⟨r6, T6, rfl, rfl, hq⟩
      replace hyp := hyp r6 T6 hq
      refine ax_iconst hX dX10_resultOf_36 (v := -1) (by decide) ?_
      refine ax_icmp_eq hX dX10_resultOf_37 (tgt := 42) (by decide) (fun c => ?_) (fun c => ?_)
      · replace hyp := hyp.1 c
        refine ax_iconst hX dX10_resultOf_42 (v := 0) (by decide) ?_
        refine ax_istore hX dX10_resultOf_43 (by decide) (L' := [some (.ref 2), some (.int x0), some (.int x1), some (.ref p1), some (.ref p5), some (.int (0 : Int32)), none]) rfl ?_
        exact ax_forget (L' := [some (.ref 2), some (.int x0), some (.int x1), some (.ref p1), some (.ref p5), some (.int (0 : Int32)), none]) (⟨rfl, ⟨rfl, ⟨rfl, ⟨rfl, ⟨rfl, ⟨rfl, trivial⟩⟩⟩⟩⟩⟩) hyp
      · replace hyp := hyp.2 c
        refine ax_iconst hX dX10_resultOf_40 (v := -1) (by decide) ?_
        exact hR.1 _ _ _ _ _ _ (by decide) (by decide) dX10_resultOf_41 ⟨_, rfl, rfl⟩ ⟨_, _, rfl, rfl, hyp⟩
set_option maxRecDepth 10000 in
theorem s_X10_resultOf_45 {X : ax_X} {d L sz : Nat} {T : tT} {Q : Int32 → tT → Prop} (hX : ax_ok X mX10_resultOf (d + 1)) (hR : ax_Ret X mX10_resultOf (ti L sz Q)) (hsz : 161 ≤ sz) {c0 : Nat} (h_c0 : tsy sz c0) {c1 : Nat} (h_c1 : tgr sz c1) (v1 : Int32) (v2 : Int32) (v5 : Int32) (hyp : (((T.1 c1 2) ≤ v5 → (((T.1 c1 5) = (-1 : Int32) → (((T.1 c1 6) = (-1 : Int32) → Q (1 : Int32) T) ∧ (¬ (T.1 c1 6) = (-1 : Int32) → ∃ Q1, tiK d mX4_work [.ref 66, .ref c0, .ref c1, .ref 69, .int v1, .int (T.1 c1 6)] L sz T Q1 ∧ ∀ (r1 : Int32) (T1 : tT), Q1 r1 T1 → (((r1 = 0 → Q (1 : Int32) T1) ∧ (¬ r1 = 0 → Q (2 : Int32) T1)))))) ∧ (¬ (T.1 c1 5) = (-1 : Int32) → ∃ Q1, tiK d mX4_work [.ref 66, .ref c0, .ref c1, .ref 69, .int v1, .int (T.1 c1 5)] L sz T Q1 ∧ ∀ (r2 : Int32) (T2 : tT), Q1 r2 T2 → (((¬ r2 = 0 → (((T2.1 c1 6) = (-1 : Int32) → Q (1 : Int32) T2) ∧ (¬ (T2.1 c1 6) = (-1 : Int32) → ∃ Q1, tiK d mX4_work [.ref 66, .ref c0, .ref c1, .ref 69, .int v1, .int (T2.1 c1 6)] L sz T2 Q1 ∧ ∀ (r3 : Int32) (T3 : tT), Q1 r3 T3 → (((r3 = 0 → Q (1 : Int32) T3) ∧ (¬ r3 = 0 → Q (2 : Int32) T3)))))) ∧ (r2 = 0 → Q (0 : Int32) T2)))))) ∧ (¬ (T.1 c1 2) ≤ v5 → ∃ Q1, tiK d mX5_knownPoints [.ref 93, .int v1, .int v5, .int v2] L sz T Q1 ∧ ∀ (r4 : Int32) (T4 : tT), Q1 r4 T4 → (((¬ r4 = (-1 : Int32) → vp_in v5 6 ∧ ax_j X 45 [some (.ref 2), some (.int v1), some (.int v2), some (.ref c0), some (.ref c1), some (.int (v5 + (1 : Int32))), none] [] (th L sz (tI T4 67 (v5.toNatClampNeg) r4)) 0 0) ∧ (r4 = (-1 : Int32) → Q (-1 : Int32) T4)))))) : ax_j X 45 [some (.ref 2), some (.int v1), some (.int v2), some (.ref c0), some (.ref c1), some (.int v5), none] [] (th L sz T) 0 0 := by
  refine ax_iload hX dX10_resultOf_45 rfl ?_
  refine ax_aload hX dX10_resultOf_47 (Or.inr ⟨_, rfl⟩) rfl ?_
  refine tx_getI hX fRX10_103 h_c1.ly0 fk_3_2 (h_c1.ne 0 (by decide)) (h_c1.lt 0 (by decide)) dX10_resultOf_49 ?_
  refine ax_icmp_ge hX dX10_resultOf_52 (tgt := 94) (by decide) (fun c => ?_) (fun c => ?_)
  · replace hyp := hyp.1 c
    refine ax_aload hX dX10_resultOf_94 (Or.inr ⟨_, rfl⟩) rfl ?_
    refine tx_getI hX fRX10_279 h_c1.ly0 fk_3_5 (h_c1.ne 0 (by decide)) (h_c1.lt 0 (by decide)) dX10_resultOf_96 ?_
    refine ax_iconst hX dX10_resultOf_99 (v := -1) (by decide) ?_
    refine ax_icmp_eq hX dX10_resultOf_100 (tgt := 128) (by decide) (fun c => ?_) (fun c => ?_)
    · replace hyp := hyp.1 c
      refine ax_aload hX dX10_resultOf_128 (Or.inr ⟨_, rfl⟩) rfl ?_
      refine tx_getI hX fRX10_282 h_c1.ly0 fk_3_6 (h_c1.ne 0 (by decide)) (h_c1.lt 0 (by decide)) dX10_resultOf_130 ?_
      refine ax_iconst hX dX10_resultOf_133 (v := -1) (by decide) ?_
      refine ax_icmp_eq hX dX10_resultOf_134 (tgt := 164) (by decide) (fun c => ?_) (fun c => ?_)
      · replace hyp := hyp.1 c
        refine ax_iconst hX dX10_resultOf_164 (v := 0) (by decide) ?_
        refine ax_istore hX dX10_resultOf_165 (by decide) (L' := [some (.ref 2), some (.int v1), some (.int v2), some (.ref c0), some (.ref c1), some (.int (0 : Int32)), none]) rfl ?_
        refine ax_iload hX dX10_resultOf_167 rfl ?_
        refine ax_if_eq hX dX10_resultOf_169 (tgt := 176) (by decide) (fun c => ?_) (fun c => ?_)
        rotate_left
        · exact absurd c (by decide)
        refine ax_iconst hX dX10_resultOf_176 (v := 1) (by decide) ?_
        exact hR.1 _ _ _ _ _ _ (by decide) (by decide) dX10_resultOf_177 ⟨_, rfl, rfl⟩ ⟨_, _, rfl, rfl, hyp⟩
      · replace hyp := hyp.2 c
        refine ax_aload_n hX dX10_resultOf_137 (Or.inr ⟨_, rfl⟩) rfl ?_
        refine tx_getF hX fRX10_25 ly_2 (o := 64) (b := 66) fk_10_2 rfl (by decide) (Nat.lt_of_lt_of_le (by decide) hsz) dX10_resultOf_138 ?_
        refine ax_aload_n hX dX10_resultOf_141 (Or.inr ⟨_, rfl⟩) rfl ?_
        refine ax_aload hX dX10_resultOf_142 (Or.inr ⟨_, rfl⟩) rfl ?_
        refine ax_aload_n hX dX10_resultOf_144 (Or.inr ⟨_, rfl⟩) rfl ?_
        refine tx_getF hX fRX10_32 ly_2 (o := 67) (b := 69) fk_10_3 rfl (by decide) (Nat.lt_of_lt_of_le (by decide) hsz) dX10_resultOf_145 ?_
        refine ax_iload_n hX dX10_resultOf_148 rfl ?_
        refine ax_aload hX dX10_resultOf_149 (Or.inr ⟨_, rfl⟩) rfl ?_
        refine tx_getI hX fRX10_282 h_c1.ly0 fk_3_6 (h_c1.ne 0 (by decide)) (h_c1.lt 0 (by decide)) dX10_resultOf_151 ?_
        obtain ⟨Q1, hK, hyp⟩ := hyp
        refine ax_callV hX lRX10_272 im_X4_work sl_X4_work cw_X4_work ((th_at (by decide) (Nat.lt_of_lt_of_le (by decide) hsz)).trans (tc_ob ly_66)) rfl rfl (A := [.ref c0, .ref c1, .ref 69, .int v1, .int (T.1 c1 6)]) (st := []) rfl rfl (Nat.le_of_ble_eq_true rfl) (by decide) (by decide) dX10_resultOf_154 hK ?_
        rintro _ _ ⟨r1, T1, rfl, rfl, hq⟩
        replace hyp := hyp r1 T1 hq
        refine ax_if_eq hX dX10_resultOf_157 (tgt := 164) (by decide) (fun c => ?_) (fun c => ?_)
        · replace hyp := hyp.1 c
          refine ax_iconst hX dX10_resultOf_164 (v := 0) (by decide) ?_
          refine ax_istore hX dX10_resultOf_165 (by decide) (L' := [some (.ref 2), some (.int v1), some (.int v2), some (.ref c0), some (.ref c1), some (.int (0 : Int32)), none]) rfl ?_
          refine ax_iload hX dX10_resultOf_167 rfl ?_
          refine ax_if_eq hX dX10_resultOf_169 (tgt := 176) (by decide) (fun c => ?_) (fun c => ?_)
          rotate_left
          · exact absurd c (by decide)
          refine ax_iconst hX dX10_resultOf_176 (v := 1) (by decide) ?_
          exact hR.1 _ _ _ _ _ _ (by decide) (by decide) dX10_resultOf_177 ⟨_, rfl, rfl⟩ ⟨_, _, rfl, rfl, hyp⟩
        · replace hyp := hyp.2 c
          refine ax_iconst hX dX10_resultOf_160 (v := 1) (by decide) ?_
          refine ax_goto hX dX10_resultOf_161 (tgt := 165) (by decide) ?_
          refine ax_istore hX dX10_resultOf_165 (by decide) (L' := [some (.ref 2), some (.int v1), some (.int v2), some (.ref c0), some (.ref c1), some (.int (1 : Int32)), none]) rfl ?_
          refine ax_iload hX dX10_resultOf_167 rfl ?_
          refine ax_if_eq hX dX10_resultOf_169 (tgt := 176) (by decide) (fun c => ?_) (fun c => ?_)
          · exact absurd c (by decide)
          refine ax_iconst hX dX10_resultOf_172 (v := 2) (by decide) ?_
          refine ax_goto hX dX10_resultOf_173 (tgt := 177) (by decide) ?_
          exact hR.1 _ _ _ _ _ _ (by decide) (by decide) dX10_resultOf_177 ⟨_, rfl, rfl⟩ ⟨_, _, rfl, rfl, hyp⟩
    · replace hyp := hyp.2 c
      refine ax_aload_n hX dX10_resultOf_103 (Or.inr ⟨_, rfl⟩) rfl ?_
      refine tx_getF hX fRX10_25 ly_2 (o := 64) (b := 66) fk_10_2 rfl (by decide) (Nat.lt_of_lt_of_le (by decide) hsz) dX10_resultOf_104 ?_
      refine ax_aload_n hX dX10_resultOf_107 (Or.inr ⟨_, rfl⟩) rfl ?_
      refine ax_aload hX dX10_resultOf_108 (Or.inr ⟨_, rfl⟩) rfl ?_
      refine ax_aload_n hX dX10_resultOf_110 (Or.inr ⟨_, rfl⟩) rfl ?_
      refine tx_getF hX fRX10_32 ly_2 (o := 67) (b := 69) fk_10_3 rfl (by decide) (Nat.lt_of_lt_of_le (by decide) hsz) dX10_resultOf_111 ?_
      refine ax_iload_n hX dX10_resultOf_114 rfl ?_
      refine ax_aload hX dX10_resultOf_115 (Or.inr ⟨_, rfl⟩) rfl ?_
      refine tx_getI hX fRX10_279 h_c1.ly0 fk_3_5 (h_c1.ne 0 (by decide)) (h_c1.lt 0 (by decide)) dX10_resultOf_117 ?_
      obtain ⟨Q1, hK, hyp⟩ := hyp
      refine ax_callV hX lRX10_272 im_X4_work sl_X4_work cw_X4_work ((th_at (by decide) (Nat.lt_of_lt_of_le (by decide) hsz)).trans (tc_ob ly_66)) rfl rfl (A := [.ref c0, .ref c1, .ref 69, .int v1, .int (T.1 c1 5)]) (st := []) rfl rfl (Nat.le_of_ble_eq_true rfl) (by decide) (by decide) dX10_resultOf_120 hK ?_
      rintro _ _ ⟨r2, T2, rfl, rfl, hq⟩
      replace hyp := hyp r2 T2 hq
      refine ax_if_ne hX dX10_resultOf_123 (tgt := 128) (by decide) (fun c => ?_) (fun c => ?_)
      · replace hyp := hyp.1 c
        refine ax_aload hX dX10_resultOf_128 (Or.inr ⟨_, rfl⟩) rfl ?_
        refine tx_getI hX fRX10_282 h_c1.ly0 fk_3_6 (h_c1.ne 0 (by decide)) (h_c1.lt 0 (by decide)) dX10_resultOf_130 ?_
        refine ax_iconst hX dX10_resultOf_133 (v := -1) (by decide) ?_
        refine ax_icmp_eq hX dX10_resultOf_134 (tgt := 164) (by decide) (fun c => ?_) (fun c => ?_)
        · replace hyp := hyp.1 c
          refine ax_iconst hX dX10_resultOf_164 (v := 0) (by decide) ?_
          refine ax_istore hX dX10_resultOf_165 (by decide) (L' := [some (.ref 2), some (.int v1), some (.int v2), some (.ref c0), some (.ref c1), some (.int (0 : Int32)), none]) rfl ?_
          refine ax_iload hX dX10_resultOf_167 rfl ?_
          refine ax_if_eq hX dX10_resultOf_169 (tgt := 176) (by decide) (fun c => ?_) (fun c => ?_)
          rotate_left
          · exact absurd c (by decide)
          refine ax_iconst hX dX10_resultOf_176 (v := 1) (by decide) ?_
          exact hR.1 _ _ _ _ _ _ (by decide) (by decide) dX10_resultOf_177 ⟨_, rfl, rfl⟩ ⟨_, _, rfl, rfl, hyp⟩
        · replace hyp := hyp.2 c
          refine ax_aload_n hX dX10_resultOf_137 (Or.inr ⟨_, rfl⟩) rfl ?_
          refine tx_getF hX fRX10_25 ly_2 (o := 64) (b := 66) fk_10_2 rfl (by decide) (Nat.lt_of_lt_of_le (by decide) hsz) dX10_resultOf_138 ?_
          refine ax_aload_n hX dX10_resultOf_141 (Or.inr ⟨_, rfl⟩) rfl ?_
          refine ax_aload hX dX10_resultOf_142 (Or.inr ⟨_, rfl⟩) rfl ?_
          refine ax_aload_n hX dX10_resultOf_144 (Or.inr ⟨_, rfl⟩) rfl ?_
          refine tx_getF hX fRX10_32 ly_2 (o := 67) (b := 69) fk_10_3 rfl (by decide) (Nat.lt_of_lt_of_le (by decide) hsz) dX10_resultOf_145 ?_
          refine ax_iload_n hX dX10_resultOf_148 rfl ?_
          refine ax_aload hX dX10_resultOf_149 (Or.inr ⟨_, rfl⟩) rfl ?_
          refine tx_getI hX fRX10_282 h_c1.ly0 fk_3_6 (h_c1.ne 0 (by decide)) (h_c1.lt 0 (by decide)) dX10_resultOf_151 ?_
          obtain ⟨Q1, hK, hyp⟩ := hyp
          refine ax_callV hX lRX10_272 im_X4_work sl_X4_work cw_X4_work ((th_at (by decide) (Nat.lt_of_lt_of_le (by decide) hsz)).trans (tc_ob ly_66)) rfl rfl (A := [.ref c0, .ref c1, .ref 69, .int v1, .int (T2.1 c1 6)]) (st := []) rfl rfl (Nat.le_of_ble_eq_true rfl) (by decide) (by decide) dX10_resultOf_154 hK ?_
          rintro _ _ ⟨r3, T3, rfl, rfl, hq⟩
          replace hyp := hyp r3 T3 hq
          refine ax_if_eq hX dX10_resultOf_157 (tgt := 164) (by decide) (fun c => ?_) (fun c => ?_)
          · replace hyp := hyp.1 c
            refine ax_iconst hX dX10_resultOf_164 (v := 0) (by decide) ?_
            refine ax_istore hX dX10_resultOf_165 (by decide) (L' := [some (.ref 2), some (.int v1), some (.int v2), some (.ref c0), some (.ref c1), some (.int (0 : Int32)), none]) rfl ?_
            refine ax_iload hX dX10_resultOf_167 rfl ?_
            refine ax_if_eq hX dX10_resultOf_169 (tgt := 176) (by decide) (fun c => ?_) (fun c => ?_)
            rotate_left
            · exact absurd c (by decide)
            refine ax_iconst hX dX10_resultOf_176 (v := 1) (by decide) ?_
            exact hR.1 _ _ _ _ _ _ (by decide) (by decide) dX10_resultOf_177 ⟨_, rfl, rfl⟩ ⟨_, _, rfl, rfl, hyp⟩
          · replace hyp := hyp.2 c
            refine ax_iconst hX dX10_resultOf_160 (v := 1) (by decide) ?_
            refine ax_goto hX dX10_resultOf_161 (tgt := 165) (by decide) ?_
            refine ax_istore hX dX10_resultOf_165 (by decide) (L' := [some (.ref 2), some (.int v1), some (.int v2), some (.ref c0), some (.ref c1), some (.int (1 : Int32)), none]) rfl ?_
            refine ax_iload hX dX10_resultOf_167 rfl ?_
            refine ax_if_eq hX dX10_resultOf_169 (tgt := 176) (by decide) (fun c => ?_) (fun c => ?_)
            · exact absurd c (by decide)
            refine ax_iconst hX dX10_resultOf_172 (v := 2) (by decide) ?_
            refine ax_goto hX dX10_resultOf_173 (tgt := 177) (by decide) ?_
            exact hR.1 _ _ _ _ _ _ (by decide) (by decide) dX10_resultOf_177 ⟨_, rfl, rfl⟩ ⟨_, _, rfl, rfl, hyp⟩
      · replace hyp := hyp.2 c
        refine ax_iconst hX dX10_resultOf_126 (v := 0) (by decide) ?_
        exact hR.1 _ _ _ _ _ _ (by decide) (by decide) dX10_resultOf_127 ⟨_, rfl, rfl⟩ ⟨_, _, rfl, rfl, hyp⟩
  · replace hyp := hyp.2 c
    refine ax_aload_n hX dX10_resultOf_55 (Or.inr ⟨_, rfl⟩) rfl ?_
    refine tx_getF hX fRX10_53 ly_2 (o := 91) (b := 93) fk_10_6 rfl (by decide) (Nat.lt_of_lt_of_le (by decide) hsz) dX10_resultOf_56 ?_
    refine ax_iload_n hX dX10_resultOf_59 rfl ?_
    refine ax_iload hX dX10_resultOf_60 rfl ?_
    refine ax_iload_n hX dX10_resultOf_62 rfl ?_
    obtain ⟨Q1, hK, hyp⟩ := hyp
    refine ax_callV hX lRX10_216 im_X5_knownPoints sl_X5_knownPoints cw_X5_knownPoints ((th_at (by decide) (Nat.lt_of_lt_of_le (by decide) hsz)).trans (tc_ob ly_93)) rfl rfl (A := [.int v1, .int v5, .int v2]) (st := []) rfl rfl (Nat.le_of_ble_eq_true rfl) (by decide) (by decide) dX10_resultOf_63 hK ?_
    rintro _ _ ⟨r4, T4, rfl, rfl, hq⟩
    replace hyp := hyp r4 T4 hq
    refine ax_istore hX dX10_resultOf_66 (by decide) (L' := [some (.ref 2), some (.int v1), some (.int v2), some (.ref c0), some (.ref c1), some (.int v5), some (.int r4)]) rfl ?_
    refine ax_iload hX dX10_resultOf_68 rfl ?_
    refine ax_iconst hX dX10_resultOf_70 (v := -1) (by decide) ?_
    refine ax_icmp_ne hX dX10_resultOf_71 (tgt := 76) (by decide) (fun c => ?_) (fun c => ?_)
    · replace hyp := hyp.1 c
      refine ax_aload_n hX dX10_resultOf_76 (Or.inr ⟨_, rfl⟩) rfl ?_
      refine tx_getF hX fRX10_25 ly_2 (o := 64) (b := 66) fk_10_2 rfl (by decide) (Nat.lt_of_lt_of_le (by decide) hsz) dX10_resultOf_77 ?_
      refine tx_getF hX fRX10_276 ly_66 (o := 1) (b := 67) fk_4_0 rfl (by decide) (Nat.lt_of_lt_of_le (by decide) hsz) dX10_resultOf_80 ?_
      refine ax_iload hX dX10_resultOf_83 rfl ?_
      refine ax_iload hX dX10_resultOf_85 rfl ?_
      refine tx_ias hX ly_67 (by decide) (Nat.lt_of_lt_of_le (by decide) hsz) hyp.1 dX10_resultOf_87 ?_
      replace hyp := hyp.2
      refine ax_iinc hX dX10_resultOf_88 rfl (w := (v5 + (1 : Int32))) rfl (by decide) (L' := [some (.ref 2), some (.int v1), some (.int v2), some (.ref c0), some (.ref c1), some (.int (v5 + (1 : Int32))), some (.int r4)]) rfl ?_
      refine ax_goto hX dX10_resultOf_91 (tgt := 45) (by decide) ?_
      exact ax_forget (L' := [some (.ref 2), some (.int v1), some (.int v2), some (.ref c0), some (.ref c1), some (.int (v5 + (1 : Int32))), none]) (⟨rfl, ⟨rfl, ⟨rfl, ⟨rfl, ⟨rfl, ⟨rfl, trivial⟩⟩⟩⟩⟩⟩) hyp
    · replace hyp := hyp.2 c
      refine ax_iconst hX dX10_resultOf_74 (v := -1) (by decide) ?_
      exact hR.1 _ _ _ _ _ _ (by decide) (by decide) dX10_resultOf_75 ⟨_, rfl, rfl⟩ ⟨_, _, rfl, rfl, hyp⟩
