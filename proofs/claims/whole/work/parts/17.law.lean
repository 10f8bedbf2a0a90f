abbrev mL : ax_M := (x, code, 4, some .boolean, 600000, 7302250)
/-- a method that makes cells too -/
def tiS (d : Nat) (M : ax_M) (A : List Value) (L sz : Nat) (T : tT) (Q : Int32 → Nat → tT → Prop) : Prop := ax_K d M A (th L sz T) (fun r h => ∃ (v : Int32) (sz1 : Nat) (T1 : tT), r = some (.int v) ∧ h = th L sz1 T1 ∧ sz ≤ sz1 ∧ Q v sz1 T1)
set_option maxRecDepth 10000 in
set_option maxHeartbeats 4000000 in
theorem s_L_18 {X : ax_X} {d L sz : Nat} {T : tT} (hX : ax_ok X mL (d + 1)) (hR : ax_Ret X mL (fun r _ => r = some (.int 1))) (hsz : 161 ≤ sz) {k n : Nat} (hk : k ≤ 600000) (hn : n ≤ 7302250)  (v3 : Int32) (hyp : ((((nI L) - (7 : Int32)) < v3 → True) ∧ (¬ ((nI L) - (7 : Int32)) < v3 → vp_in v3 L ∧ (((T.1 0 (v3.toNatClampNeg)) &&& (31 : Int32)) = 0 → vp_in (v3 + (1 : Int32)) L ∧ vp_in (v3 + (2 : Int32)) L ∧ vp_in (v3 + (3 : Int32)) L ∧ vp_in (v3 + (4 : Int32)) L ∧ vp_in (v3 + (5 : Int32)) L ∧ ∃ Q1, tiK d mX10_feed [.ref 2, .int (T.1 0 (v3 + (1 : Int32)).toNatClampNeg), .int (T.1 0 (v3 + (2 : Int32)).toNatClampNeg), .int (T.1 0 (v3 + (3 : Int32)).toNatClampNeg), .int (T.1 0 (v3 + (4 : Int32)).toNatClampNeg), .int (T.1 0 (v3 + (5 : Int32)).toNatClampNeg)] L sz T Q1 ∧ ∀ (r1 : Int32) (T1 : tT), Q1 r1 T1 → (vp_in (v3 + (1 : Int32)) L ∧ vp_in (v3 + (2 : Int32)) L ∧ vp_in (v3 + (3 : Int32)) L ∧ vp_in (v3 + (4 : Int32)) L ∧ vp_in (v3 + (5 : Int32)) L ∧ ∃ Q1, tiK d mX11_feed [.ref 105, .int (T1.1 0 (v3 + (1 : Int32)).toNatClampNeg), .int (T1.1 0 (v3 + (2 : Int32)).toNatClampNeg), .int (T1.1 0 (v3 + (3 : Int32)).toNatClampNeg), .int (T1.1 0 (v3 + (4 : Int32)).toNatClampNeg), .int (T1.1 0 (v3 + (5 : Int32)).toNatClampNeg)] L sz T1 Q1 ∧ ∀ (r2 : Int32) (T2 : tT), Q1 r2 T2 → (((r1 = r2 → ax_j X 18 [some (.ref 0), some (.ref 2), some (.ref 105), some (.int (v3 + (7 : Int32)))] [] (th L sz T2) k n) ∧ (¬ r1 = r2 → False))))) ∧ (((T.1 0 (v3.toNatClampNeg)) &&& (31 : Int32)) = 1 → vp_in (v3 + (1 : Int32)) L ∧ ∃ Q1, tiK d mX10_end [.ref 2, .int (T.1 0 (v3 + (1 : Int32)).toNatClampNeg)] L sz T Q1 ∧ ∀ (r3 : Int32) (T3 : tT), Q1 r3 T3 → (vp_in (v3 + (1 : Int32)) L ∧ ∃ Q1, tiK d mX11_end [.ref 105, .int (T3.1 0 (v3 + (1 : Int32)).toNatClampNeg)] L sz T3 Q1 ∧ ∀ (r4 : Int32) (T4 : tT), Q1 r4 T4 → (((r3 = r4 → ax_j X 18 [some (.ref 0), some (.ref 2), some (.ref 105), some (.int (v3 + (7 : Int32)))] [] (th L sz T4) k n) ∧ (¬ r3 = r4 → False))))) ∧ (((T.1 0 (v3.toNatClampNeg)) &&& (31 : Int32)) = 2 → vp_in (v3 + (1 : Int32)) L ∧ k + 59 ≤ 600000 ∧ n + 1698 ≤ 7302250 ∧ ∃ Q1, tiS d mX10_syllabus [.ref 2, .int (T.1 0 (v3 + (1 : Int32)).toNatClampNeg)] L sz T Q1 ∧ ∀ (r5 : Int32) (sz1 : Nat) (T5 : tT), sz ≤ sz1 → Q1 r5 sz1 T5 → (vp_in (v3 + (1 : Int32)) L ∧ ∃ Q1, tiK d mX11_syllabus [.ref 105, .int (T5.1 0 (v3 + (1 : Int32)).toNatClampNeg)] L sz1 T5 Q1 ∧ ∀ (r6 : Int32) (T6 : tT), Q1 r6 T6 → (((r5 = r6 → ax_j X 18 [some (.ref 0), some (.ref 2), some (.ref 105), some (.int (v3 + (7 : Int32)))] [] (th L sz1 T6) (k + 59) (n + 1698)) ∧ (¬ r5 = r6 → False))))) ∧ (((T.1 0 (v3.toNatClampNeg)) &&& (31 : Int32)) = 3 → vp_in (v3 + (1 : Int32)) L ∧ ∃ Q1, tiK d mX10_fault [.ref 2, .int (T.1 0 (v3 + (1 : Int32)).toNatClampNeg)] L sz T Q1 ∧ ∀ (r7 : Int32) (T7 : tT), Q1 r7 T7 → (vp_in (v3 + (1 : Int32)) L ∧ ∃ Q1, tiK d mX11_fault [.ref 105, .int (T7.1 0 (v3 + (1 : Int32)).toNatClampNeg)] L sz T7 Q1 ∧ ∀ (r8 : Int32) (T8 : tT), Q1 r8 T8 → (((r7 = r8 → ax_j X 18 [some (.ref 0), some (.ref 2), some (.ref 105), some (.int (v3 + (7 : Int32)))] [] (th L sz T8) k n) ∧ (¬ r7 = r8 → False))))) ∧ (((T.1 0 (v3.toNatClampNeg)) &&& (31 : Int32)) = 4 → vp_in (v3 + (1 : Int32)) L ∧ vp_in (v3 + (2 : Int32)) L ∧ vp_in (v3 + (3 : Int32)) L ∧ ∃ Q1, tiK d mX10_grade [.ref 2, .int (T.1 0 (v3 + (1 : Int32)).toNatClampNeg), .int (T.1 0 (v3 + (2 : Int32)).toNatClampNeg), .int (T.1 0 (v3 + (3 : Int32)).toNatClampNeg)] L sz T Q1 ∧ ∀ (r9 : Int32) (T9 : tT), Q1 r9 T9 → (vp_in (v3 + (1 : Int32)) L ∧ vp_in (v3 + (2 : Int32)) L ∧ vp_in (v3 + (3 : Int32)) L ∧ ∃ Q1, tiK d mX11_grade [.ref 105, .int (T9.1 0 (v3 + (1 : Int32)).toNatClampNeg), .int (T9.1 0 (v3 + (2 : Int32)).toNatClampNeg), .int (T9.1 0 (v3 + (3 : Int32)).toNatClampNeg)] L sz T9 Q1 ∧ ∀ (r10 : Int32) (T10 : tT), Q1 r10 T10 → (((r9 = r10 → ax_j X 18 [some (.ref 0), some (.ref 2), some (.ref 105), some (.int (v3 + (7 : Int32)))] [] (th L sz T10) k n) ∧ (¬ r9 = r10 → False))))) ∧ (((T.1 0 (v3.toNatClampNeg)) &&& (31 : Int32)) = 5 → vp_in (v3 + (1 : Int32)) L ∧ vp_in (v3 + (2 : Int32)) L ∧ vp_in (v3 + (3 : Int32)) L ∧ vp_in (v3 + (4 : Int32)) L ∧ vp_in (v3 + (5 : Int32)) L ∧ vp_in (v3 + (6 : Int32)) L ∧ ∃ Q1, tiK d mX10_entry [.ref 2, .int (T.1 0 (v3 + (1 : Int32)).toNatClampNeg), .int (T.1 0 (v3 + (2 : Int32)).toNatClampNeg), .int (T.1 0 (v3 + (3 : Int32)).toNatClampNeg), .int (T.1 0 (v3 + (4 : Int32)).toNatClampNeg), .int (T.1 0 (v3 + (5 : Int32)).toNatClampNeg), .int (T.1 0 (v3 + (6 : Int32)).toNatClampNeg)] L sz T Q1 ∧ ∀ (r11 : Int32) (T11 : tT), Q1 r11 T11 → (vp_in (v3 + (1 : Int32)) L ∧ vp_in (v3 + (2 : Int32)) L ∧ vp_in (v3 + (3 : Int32)) L ∧ vp_in (v3 + (4 : Int32)) L ∧ vp_in (v3 + (5 : Int32)) L ∧ vp_in (v3 + (6 : Int32)) L ∧ ∃ Q1, tiK d mX11_entry [.ref 105, .int (T11.1 0 (v3 + (1 : Int32)).toNatClampNeg), .int (T11.1 0 (v3 + (2 : Int32)).toNatClampNeg), .int (T11.1 0 (v3 + (3 : Int32)).toNatClampNeg), .int (T11.1 0 (v3 + (4 : Int32)).toNatClampNeg), .int (T11.1 0 (v3 + (5 : Int32)).toNatClampNeg), .int (T11.1 0 (v3 + (6 : Int32)).toNatClampNeg)] L sz T11 Q1 ∧ ∀ (r12 : Int32) (T12 : tT), Q1 r12 T12 → (((r11 = r12 → ax_j X 18 [some (.ref 0), some (.ref 2), some (.ref 105), some (.int (v3 + (7 : Int32)))] [] (th L sz T12) k n) ∧ (¬ r11 = r12 → False))))) ∧ (((T.1 0 (v3.toNatClampNeg)) &&& (31 : Int32)) = 6 → vp_in (v3 + (1 : Int32)) L ∧ vp_in (v3 + (2 : Int32)) L ∧ vp_in (v3 + (3 : Int32)) L ∧ ∃ Q1, tiK d mX10_piece [.ref 2, .int (T.1 0 (v3 + (1 : Int32)).toNatClampNeg), .long (((T.1 0 (v3 + (2 : Int32)).toNatClampNeg).toInt64 <<< ((32 : Int32).toInt64 &&& 63)) ||| ((T.1 0 (v3 + (3 : Int32)).toNatClampNeg).toInt64 &&& (4294967295 : Int64)))] L sz T Q1 ∧ ∀ (r13 : Int32) (T13 : tT), Q1 r13 T13 → (vp_in (v3 + (1 : Int32)) L ∧ vp_in (v3 + (2 : Int32)) L ∧ vp_in (v3 + (3 : Int32)) L ∧ ∃ Q1, tiK d mX11_piece [.ref 105, .int (T13.1 0 (v3 + (1 : Int32)).toNatClampNeg), .long (((T13.1 0 (v3 + (2 : Int32)).toNatClampNeg).toInt64 <<< ((32 : Int32).toInt64 &&& 63)) ||| ((T13.1 0 (v3 + (3 : Int32)).toNatClampNeg).toInt64 &&& (4294967295 : Int64)))] L sz T13 Q1 ∧ ∀ (r14 : Int32) (T14 : tT), Q1 r14 T14 → (((r13 = r14 → ax_j X 18 [some (.ref 0), some (.ref 2), some (.ref 105), some (.int (v3 + (7 : Int32)))] [] (th L sz T14) k n) ∧ (¬ r13 = r14 → False))))) ∧ (((T.1 0 (v3.toNatClampNeg)) &&& (31 : Int32)) = 7 → vp_in (v3 + (1 : Int32)) L ∧ ∃ Q1, tiK d mX10_judge [.ref 2, .int (T.1 0 (v3 + (1 : Int32)).toNatClampNeg)] L sz T Q1 ∧ ∀ (r15 : Int32) (T15 : tT), Q1 r15 T15 → (vp_in (v3 + (1 : Int32)) L ∧ ∃ Q1, tiK d mX11_judge [.ref 105, .int (T15.1 0 (v3 + (1 : Int32)).toNatClampNeg)] L sz T15 Q1 ∧ ∀ (r16 : Int32) (T16 : tT), Q1 r16 T16 → (((r15 = r16 → ax_j X 18 [some (.ref 0), some (.ref 2), some (.ref 105), some (.int (v3 + (7 : Int32)))] [] (th L sz T16) k n) ∧ (¬ r15 = r16 → False))))) ∧ (((T.1 0 (v3.toNatClampNeg)) &&& (31 : Int32)) = 8 → ∃ Q1, tiK d mX10_centre [.ref 2] L sz T Q1 ∧ ∀ (r17 : Int32) (T17 : tT), Q1 r17 T17 → (∃ Q1, tiK d mX11_centre [.ref 105] L sz T17 Q1 ∧ ∀ (r18 : Int32) (T18 : tT), Q1 r18 T18 → (((r17 = r18 → ax_j X 18 [some (.ref 0), some (.ref 2), some (.ref 105), some (.int (v3 + (7 : Int32)))] [] (th L sz T18) k n) ∧ (¬ r17 = r18 → False))))) ∧ (((T.1 0 (v3.toNatClampNeg)) &&& (31 : Int32)) = 9 → vp_in (v3 + (1 : Int32)) L ∧ vp_in (v3 + (2 : Int32)) L ∧ vp_in (v3 + (3 : Int32)) L ∧ ∃ Q1, tiK d mX10_way [.ref 2, .int (T.1 0 (v3 + (1 : Int32)).toNatClampNeg), .int (T.1 0 (v3 + (2 : Int32)).toNatClampNeg), .int (T.1 0 (v3 + (3 : Int32)).toNatClampNeg)] L sz T Q1 ∧ ∀ (r19 : Int32) (T19 : tT), Q1 r19 T19 → (vp_in (v3 + (1 : Int32)) L ∧ vp_in (v3 + (2 : Int32)) L ∧ vp_in (v3 + (3 : Int32)) L ∧ ∃ Q1, tiK d mX11_way [.ref 105, .int (T19.1 0 (v3 + (1 : Int32)).toNatClampNeg), .int (T19.1 0 (v3 + (2 : Int32)).toNatClampNeg), .int (T19.1 0 (v3 + (3 : Int32)).toNatClampNeg)] L sz T19 Q1 ∧ ∀ (r20 : Int32) (T20 : tT), Q1 r20 T20 → (((r19 = r20 → ax_j X 18 [some (.ref 0), some (.ref 2), some (.ref 105), some (.int (v3 + (7 : Int32)))] [] (th L sz T20) k n) ∧ (¬ r19 = r20 → False))))) ∧ (((T.1 0 (v3.toNatClampNeg)) &&& (31 : Int32)) = 10 → vp_in (v3 + (1 : Int32)) L ∧ vp_in (v3 + (2 : Int32)) L ∧ ∃ Q1, tiK d mX10_examiner [.ref 2, .int (T.1 0 (v3 + (1 : Int32)).toNatClampNeg), .int (T.1 0 (v3 + (2 : Int32)).toNatClampNeg)] L sz T Q1 ∧ ∀ (r21 : Int32) (T21 : tT), Q1 r21 T21 → (vp_in (v3 + (1 : Int32)) L ∧ vp_in (v3 + (2 : Int32)) L ∧ ∃ Q1, tiK d mX11_examiner [.ref 105, .int (T21.1 0 (v3 + (1 : Int32)).toNatClampNeg), .int (T21.1 0 (v3 + (2 : Int32)).toNatClampNeg)] L sz T21 Q1 ∧ ∀ (r22 : Int32) (T22 : tT), Q1 r22 T22 → (((r21 = r22 → ax_j X 18 [some (.ref 0), some (.ref 2), some (.ref 105), some (.int (v3 + (7 : Int32)))] [] (th L sz T22) k n) ∧ (¬ r21 = r22 → False))))) ∧ (((T.1 0 (v3.toNatClampNeg)) &&& (31 : Int32)) = 11 → vp_in (v3 + (1 : Int32)) L ∧ vp_in (v3 + (2 : Int32)) L ∧ ∃ Q1, tiK d mX10_session [.ref 2, .int (T.1 0 (v3 + (1 : Int32)).toNatClampNeg), .int (T.1 0 (v3 + (2 : Int32)).toNatClampNeg)] L sz T Q1 ∧ ∀ (r23 : Int32) (T23 : tT), Q1 r23 T23 → (vp_in (v3 + (1 : Int32)) L ∧ vp_in (v3 + (2 : Int32)) L ∧ ∃ Q1, tiK d mX11_session [.ref 105, .int (T23.1 0 (v3 + (1 : Int32)).toNatClampNeg), .int (T23.1 0 (v3 + (2 : Int32)).toNatClampNeg)] L sz T23 Q1 ∧ ∀ (r24 : Int32) (T24 : tT), Q1 r24 T24 → (((r23 = r24 → ax_j X 18 [some (.ref 0), some (.ref 2), some (.ref 105), some (.int (v3 + (7 : Int32)))] [] (th L sz T24) k n) ∧ (¬ r23 = r24 → False))))) ∧ (((T.1 0 (v3.toNatClampNeg)) &&& (31 : Int32)) = 12 → vp_in (v3 + (1 : Int32)) L ∧ vp_in (v3 + (2 : Int32)) L ∧ ∃ Q1, tiK d mX10_put [.ref 2, .int (T.1 0 (v3 + (1 : Int32)).toNatClampNeg), .int (T.1 0 (v3 + (2 : Int32)).toNatClampNeg)] L sz T Q1 ∧ ∀ (r25 : Int32) (T25 : tT), Q1 r25 T25 → (vp_in (v3 + (1 : Int32)) L ∧ vp_in (v3 + (2 : Int32)) L ∧ ∃ Q1, tiK d mX11_put [.ref 105, .int (T25.1 0 (v3 + (1 : Int32)).toNatClampNeg), .int (T25.1 0 (v3 + (2 : Int32)).toNatClampNeg)] L sz T25 Q1 ∧ ∀ (r26 : Int32) (T26 : tT), Q1 r26 T26 → (((r25 = r26 → ax_j X 18 [some (.ref 0), some (.ref 2), some (.ref 105), some (.int (v3 + (7 : Int32)))] [] (th L sz T26) k n) ∧ (¬ r25 = r26 → False))))) ∧ (((T.1 0 (v3.toNatClampNeg)) &&& (31 : Int32)) = 13 → vp_in (v3 + (1 : Int32)) L ∧ vp_in (v3 + (2 : Int32)) L ∧ ∃ Q1, tiK d mX10_of [.ref 2, .int (T.1 0 (v3 + (1 : Int32)).toNatClampNeg), .int (T.1 0 (v3 + (2 : Int32)).toNatClampNeg)] L sz T Q1 ∧ ∀ (r27 : Int32) (T27 : tT), Q1 r27 T27 → (vp_in (v3 + (1 : Int32)) L ∧ vp_in (v3 + (2 : Int32)) L ∧ ∃ Q1, tiK d mX11_of [.ref 105, .int (T27.1 0 (v3 + (1 : Int32)).toNatClampNeg), .int (T27.1 0 (v3 + (2 : Int32)).toNatClampNeg)] L sz T27 Q1 ∧ ∀ (r28 : Int32) (T28 : tT), Q1 r28 T28 → (((r27 = r28 → ax_j X 18 [some (.ref 0), some (.ref 2), some (.ref 105), some (.int (v3 + (7 : Int32)))] [] (th L sz T28) k n) ∧ (¬ r27 = r28 → False))))) ∧ (((T.1 0 (v3.toNatClampNeg)) &&& (31 : Int32)) = 14 → vp_in (v3 + (1 : Int32)) L ∧ vp_in (v3 + (2 : Int32)) L ∧ ∃ Q1, tiK d mX10_may [.ref 2, .int (T.1 0 (v3 + (1 : Int32)).toNatClampNeg), .int (T.1 0 (v3 + (2 : Int32)).toNatClampNeg)] L sz T Q1 ∧ ∀ (r29 : Int32) (T29 : tT), Q1 r29 T29 → (vp_in (v3 + (1 : Int32)) L ∧ vp_in (v3 + (2 : Int32)) L ∧ ∃ Q1, tiK d mX11_may [.ref 105, .int (T29.1 0 (v3 + (1 : Int32)).toNatClampNeg), .int (T29.1 0 (v3 + (2 : Int32)).toNatClampNeg)] L sz T29 Q1 ∧ ∀ (r30 : Int32) (T30 : tT), Q1 r30 T30 → (((r29 = r30 → ax_j X 18 [some (.ref 0), some (.ref 2), some (.ref 105), some (.int (v3 + (7 : Int32)))] [] (th L sz T30) k n) ∧ (¬ r29 = r30 → False))))) ∧ (((T.1 0 (v3.toNatClampNeg)) &&& (31 : Int32)) = 15 → ∃ Q1, tiK d mX10_tour [.ref 2] L sz T Q1 ∧ ∀ (r31 : Int32) (T31 : tT), Q1 r31 T31 → (∃ Q1, tiK d mX11_tour [.ref 105] L sz T31 Q1 ∧ ∀ (r32 : Int32) (T32 : tT), Q1 r32 T32 → (((r31 = r32 → ax_j X 18 [some (.ref 0), some (.ref 2), some (.ref 105), some (.int (v3 + (7 : Int32)))] [] (th L sz T32) k n) ∧ (¬ r31 = r32 → False))))) ∧ (((T.1 0 (v3.toNatClampNeg)) &&& (31 : Int32)) = 16 → vp_in (v3 + (1 : Int32)) L ∧ ∃ Q1, tiK d mX10_toured [.ref 2, .int (T.1 0 (v3 + (1 : Int32)).toNatClampNeg)] L sz T Q1 ∧ ∀ (r33 : Int32) (T33 : tT), Q1 r33 T33 → (vp_in (v3 + (1 : Int32)) L ∧ ∃ Q1, tiK d mX11_toured [.ref 105, .int (T33.1 0 (v3 + (1 : Int32)).toNatClampNeg)] L sz T33 Q1 ∧ ∀ (r34 : Int32) (T34 : tT), Q1 r34 T34 → (((r33 = r34 → ax_j X 18 [some (.ref 0), some (.ref 2), some (.ref 105), some (.int (v3 + (7 : Int32)))] [] (th L sz T34) k n) ∧ (¬ r33 = r34 → False))))) ∧ (((T.1 0 (v3.toNatClampNeg)) &&& (31 : Int32)) = 17 → ∃ Q1, tiK d mX10_stuck [.ref 2] L sz T Q1 ∧ ∀ (r35 : Int32) (T35 : tT), Q1 r35 T35 → (∃ Q1, tiK d mX11_stuck [.ref 105] L sz T35 Q1 ∧ ∀ (r36 : Int32) (T36 : tT), Q1 r36 T36 → (((r35 = r36 → ax_j X 18 [some (.ref 0), some (.ref 2), some (.ref 105), some (.int (v3 + (7 : Int32)))] [] (th L sz T36) k n) ∧ (¬ r35 = r36 → False))))) ∧ (((T.1 0 (v3.toNatClampNeg)) &&& (31 : Int32)) = 18 → vp_in (v3 + (1 : Int32)) L ∧ ∃ Q1, tiK d mX10_later [.ref 2, .int (T.1 0 (v3 + (1 : Int32)).toNatClampNeg)] L sz T Q1 ∧ ∀ (r37 : Int32) (T37 : tT), Q1 r37 T37 → (vp_in (v3 + (1 : Int32)) L ∧ ∃ Q1, tiK d mX11_later [.ref 105, .int (T37.1 0 (v3 + (1 : Int32)).toNatClampNeg)] L sz T37 Q1 ∧ ∀ (r38 : Int32) (T38 : tT), Q1 r38 T38 → (((r37 = r38 → ax_j X 18 [some (.ref 0), some (.ref 2), some (.ref 105), some (.int (v3 + (7 : Int32)))] [] (th L sz T38) k n) ∧ (¬ r37 = r38 → False))))) ∧ (((T.1 0 (v3.toNatClampNeg)) &&& (31 : Int32)) = 19 → vp_in (v3 + (1 : Int32)) L ∧ vp_in (v3 + (2 : Int32)) L ∧ vp_in (v3 + (3 : Int32)) L ∧ vp_in (v3 + (4 : Int32)) L ∧ ∃ Q1, tiK d mX10_mark [.ref 2, .int (T.1 0 (v3 + (1 : Int32)).toNatClampNeg), .int (T.1 0 (v3 + (2 : Int32)).toNatClampNeg), .int (T.1 0 (v3 + (3 : Int32)).toNatClampNeg), .int (T.1 0 (v3 + (4 : Int32)).toNatClampNeg)] L sz T Q1 ∧ ∀ (r39 : Int32) (T39 : tT), Q1 r39 T39 → (vp_in (v3 + (1 : Int32)) L ∧ vp_in (v3 + (2 : Int32)) L ∧ vp_in (v3 + (3 : Int32)) L ∧ vp_in (v3 + (4 : Int32)) L ∧ ∃ Q1, tiK d mX11_mark [.ref 105, .int (T39.1 0 (v3 + (1 : Int32)).toNatClampNeg), .int (T39.1 0 (v3 + (2 : Int32)).toNatClampNeg), .int (T39.1 0 (v3 + (3 : Int32)).toNatClampNeg), .int (T39.1 0 (v3 + (4 : Int32)).toNatClampNeg)] L sz T39 Q1 ∧ ∀ (r40 : Int32) (T40 : tT), Q1 r40 T40 → (((r39 = r40 → ax_j X 18 [some (.ref 0), some (.ref 2), some (.ref 105), some (.int (v3 + (7 : Int32)))] [] (th L sz T40) k n) ∧ (¬ r39 = r40 → False))))) ∧ (((T.1 0 (v3.toNatClampNeg)) &&& (31 : Int32)) = 20 → vp_in (v3 + (1 : Int32)) L ∧ vp_in (v3 + (2 : Int32)) L ∧ vp_in (v3 + (3 : Int32)) L ∧ ∃ Q1, tiK d mX10_appeal [.ref 2, .int (T.1 0 (v3 + (1 : Int32)).toNatClampNeg), .int (T.1 0 (v3 + (2 : Int32)).toNatClampNeg), .int (T.1 0 (v3 + (3 : Int32)).toNatClampNeg)] L sz T Q1 ∧ ∀ (r41 : Int32) (T41 : tT), Q1 r41 T41 → (vp_in (v3 + (1 : Int32)) L ∧ vp_in (v3 + (2 : Int32)) L ∧ vp_in (v3 + (3 : Int32)) L ∧ ∃ Q1, tiK d mX11_appeal [.ref 105, .int (T41.1 0 (v3 + (1 : Int32)).toNatClampNeg), .int (T41.1 0 (v3 + (2 : Int32)).toNatClampNeg), .int (T41.1 0 (v3 + (3 : Int32)).toNatClampNeg)] L sz T41 Q1 ∧ ∀ (r42 : Int32) (T42 : tT), Q1 r42 T42 → (((r41 = r42 → ax_j X 18 [some (.ref 0), some (.ref 2), some (.ref 105), some (.int (v3 + (7 : Int32)))] [] (th L sz T42) k n) ∧ (¬ r41 = r42 → False))))) ∧ (((T.1 0 (v3.toNatClampNeg)) &&& (31 : Int32)) = 21 → vp_in (v3 + (1 : Int32)) L ∧ ∃ Q1, tiK d mX10_untell [.ref 2, .int (T.1 0 (v3 + (1 : Int32)).toNatClampNeg)] L sz T Q1 ∧ ∀ (r43 : Int32) (T43 : tT), Q1 r43 T43 → (vp_in (v3 + (1 : Int32)) L ∧ ∃ Q1, tiK d mX11_untell [.ref 105, .int (T43.1 0 (v3 + (1 : Int32)).toNatClampNeg)] L sz T43 Q1 ∧ ∀ (r44 : Int32) (T44 : tT), Q1 r44 T44 → (((r43 = r44 → ax_j X 18 [some (.ref 0), some (.ref 2), some (.ref 105), some (.int (v3 + (7 : Int32)))] [] (th L sz T44) k n) ∧ (¬ r43 = r44 → False))))) ∧ (((T.1 0 (v3.toNatClampNeg)) &&& (31 : Int32)) = 22 → vp_in (v3 + (1 : Int32)) L ∧ vp_in (v3 + (2 : Int32)) L ∧ vp_in (v3 + (3 : Int32)) L ∧ ∃ Q1, tiK d mX10_known [.ref 2, .int (T.1 0 (v3 + (1 : Int32)).toNatClampNeg), .int (T.1 0 (v3 + (2 : Int32)).toNatClampNeg), .int (T.1 0 (v3 + (3 : Int32)).toNatClampNeg)] L sz T Q1 ∧ ∀ (r45 : Int32) (T45 : tT), Q1 r45 T45 → (vp_in (v3 + (1 : Int32)) L ∧ vp_in (v3 + (2 : Int32)) L ∧ vp_in (v3 + (3 : Int32)) L ∧ ∃ Q1, tiK d mX11_known [.ref 105, .int (T45.1 0 (v3 + (1 : Int32)).toNatClampNeg), .int (T45.1 0 (v3 + (2 : Int32)).toNatClampNeg), .int (T45.1 0 (v3 + (3 : Int32)).toNatClampNeg)] L sz T45 Q1 ∧ ∀ (r46 : Int32) (T46 : tT), Q1 r46 T46 → (((r45 = r46 → ax_j X 18 [some (.ref 0), some (.ref 2), some (.ref 105), some (.int (v3 + (7 : Int32)))] [] (th L sz T46) k n) ∧ (¬ r45 = r46 → False))))) ∧ (((T.1 0 (v3.toNatClampNeg)) &&& (31 : Int32)) = 23 → vp_in (v3 + (1 : Int32)) L ∧ vp_in (v3 + (2 : Int32)) L ∧ ∃ Q1, tiK d mX10_main [.ref 2, .int (T.1 0 (v3 + (1 : Int32)).toNatClampNeg), .int (T.1 0 (v3 + (2 : Int32)).toNatClampNeg)] L sz T Q1 ∧ ∀ (r47 : Int32) (T47 : tT), Q1 r47 T47 → (vp_in (v3 + (1 : Int32)) L ∧ vp_in (v3 + (2 : Int32)) L ∧ ∃ Q1, tiK d mX11_main [.ref 105, .int (T47.1 0 (v3 + (1 : Int32)).toNatClampNeg), .int (T47.1 0 (v3 + (2 : Int32)).toNatClampNeg)] L sz T47 Q1 ∧ ∀ (r48 : Int32) (T48 : tT), Q1 r48 T48 → (((r47 = r48 → ax_j X 18 [some (.ref 0), some (.ref 2), some (.ref 105), some (.int (v3 + (7 : Int32)))] [] (th L sz T48) k n) ∧ (¬ r47 = r48 → False))))) ∧ (((T.1 0 (v3.toNatClampNeg)) &&& (31 : Int32)) = 24 → vp_in (v3 + (1 : Int32)) L ∧ vp_in (v3 + (2 : Int32)) L ∧ ∃ Q1, tiK d mX10_result [.ref 2, .int (T.1 0 (v3 + (1 : Int32)).toNatClampNeg), .int (T.1 0 (v3 + (2 : Int32)).toNatClampNeg)] L sz T Q1 ∧ ∀ (r49 : Int32) (T49 : tT), Q1 r49 T49 → (vp_in (v3 + (1 : Int32)) L ∧ vp_in (v3 + (2 : Int32)) L ∧ ∃ Q1, tiK d mX11_result [.ref 105, .int (T49.1 0 (v3 + (1 : Int32)).toNatClampNeg), .int (T49.1 0 (v3 + (2 : Int32)).toNatClampNeg)] L sz T49 Q1 ∧ ∀ (r50 : Int32) (T50 : tT), Q1 r50 T50 → (((r49 = r50 → ax_j X 18 [some (.ref 0), some (.ref 2), some (.ref 105), some (.int (v3 + (7 : Int32)))] [] (th L sz T50) k n) ∧ (¬ r49 = r50 → False))))) ∧ (((T.1 0 (v3.toNatClampNeg)) &&& (31 : Int32)) = 25 → vp_in (v3 + (1 : Int32)) L ∧ ∃ Q1, tiK d mX10_hardness [.ref 2, .int (T.1 0 (v3 + (1 : Int32)).toNatClampNeg)] L sz T Q1 ∧ ∀ (r51 : Int32) (T51 : tT), Q1 r51 T51 → (vp_in (v3 + (1 : Int32)) L ∧ ∃ Q1, tiK d mX11_hardness [.ref 105, .int (T51.1 0 (v3 + (1 : Int32)).toNatClampNeg)] L sz T51 Q1 ∧ ∀ (r52 : Int32) (T52 : tT), Q1 r52 T52 → (((r51 = r52 → ax_j X 18 [some (.ref 0), some (.ref 2), some (.ref 105), some (.int (v3 + (7 : Int32)))] [] (th L sz T52) k n) ∧ (¬ r51 = r52 → False))))) ∧ (((T.1 0 (v3.toNatClampNeg)) &&& (31 : Int32)) = 26 → vp_in (v3 + (1 : Int32)) L ∧ ∃ Q1, tiK d mX10_certify [.ref 2, .int (T.1 0 (v3 + (1 : Int32)).toNatClampNeg)] L sz T Q1 ∧ ∀ (r53 : Int32) (T53 : tT), Q1 r53 T53 → (vp_in (v3 + (1 : Int32)) L ∧ ∃ Q1, tiK d mX11_certify [.ref 105, .int (T53.1 0 (v3 + (1 : Int32)).toNatClampNeg)] L sz T53 Q1 ∧ ∀ (r54 : Int32) (T54 : tT), Q1 r54 T54 → (((r53 = r54 → ax_j X 18 [some (.ref 0), some (.ref 2), some (.ref 105), some (.int (v3 + (7 : Int32)))] [] (th L sz T54) k n) ∧ (¬ r53 = r54 → False))))) ∧ (((T.1 0 (v3.toNatClampNeg)) &&& (31 : Int32)) = 27 → vp_in (v3 + (1 : Int32)) L ∧ vp_in (v3 + (2 : Int32)) L ∧ ∃ Q1, tiK d mX10_certificate [.ref 2, .int (T.1 0 (v3 + (1 : Int32)).toNatClampNeg), .int (T.1 0 (v3 + (2 : Int32)).toNatClampNeg)] L sz T Q1 ∧ ∀ (r55 : Int32) (T55 : tT), Q1 r55 T55 → (vp_in (v3 + (1 : Int32)) L ∧ vp_in (v3 + (2 : Int32)) L ∧ ∃ Q1, tiK d mX11_certificate [.ref 105, .int (T55.1 0 (v3 + (1 : Int32)).toNatClampNeg), .int (T55.1 0 (v3 + (2 : Int32)).toNatClampNeg)] L sz T55 Q1 ∧ ∀ (r56 : Int32) (T56 : tT), Q1 r56 T56 → (((r55 = r56 → ax_j X 18 [some (.ref 0), some (.ref 2), some (.ref 105), some (.int (v3 + (7 : Int32)))] [] (th L sz T56) k n) ∧ (¬ r55 = r56 → False))))) ∧ (((T.1 0 (v3.toNatClampNeg)) &&& (31 : Int32)) = 28 → vp_in (v3 + (1 : Int32)) L ∧ vp_in (v3 + (2 : Int32)) L ∧ ∃ Q1, tiK d mX10_holds [.ref 2, .int (T.1 0 (v3 + (1 : Int32)).toNatClampNeg), .int (T.1 0 (v3 + (2 : Int32)).toNatClampNeg)] L sz T Q1 ∧ ∀ (r57 : Int32) (T57 : tT), Q1 r57 T57 → (vp_in (v3 + (1 : Int32)) L ∧ vp_in (v3 + (2 : Int32)) L ∧ ∃ Q1, tiK d mX11_holds [.ref 105, .int (T57.1 0 (v3 + (1 : Int32)).toNatClampNeg), .int (T57.1 0 (v3 + (2 : Int32)).toNatClampNeg)] L sz T57 Q1 ∧ ∀ (r58 : Int32) (T58 : tT), Q1 r58 T58 → (((r57 = r58 → ax_j X 18 [some (.ref 0), some (.ref 2), some (.ref 105), some (.int (v3 + (7 : Int32)))] [] (th L sz T58) k n) ∧ (¬ r57 = r58 → False))))) ∧ (((T.1 0 (v3.toNatClampNeg)) &&& (31 : Int32)) = 29 → vp_in (v3 + (1 : Int32)) L ∧ ∃ Q1, tiK d mX10_about [.ref 2, .int (T.1 0 (v3 + (1 : Int32)).toNatClampNeg)] L sz T Q1 ∧ ∀ (r59 : Int32) (T59 : tT), Q1 r59 T59 → (vp_in (v3 + (1 : Int32)) L ∧ ∃ Q1, tiK d mX11_about [.ref 105, .int (T59.1 0 (v3 + (1 : Int32)).toNatClampNeg)] L sz T59 Q1 ∧ ∀ (r60 : Int32) (T60 : tT), Q1 r60 T60 → (((r59 = r60 → ax_j X 18 [some (.ref 0), some (.ref 2), some (.ref 105), some (.int (v3 + (7 : Int32)))] [] (th L sz T60) k n) ∧ (¬ r59 = r60 → False))))) ∧ (¬ ((T.1 0 (v3.toNatClampNeg)) &&& (31 : Int32)) = 0 → ¬ ((T.1 0 (v3.toNatClampNeg)) &&& (31 : Int32)) = 1 → ¬ ((T.1 0 (v3.toNatClampNeg)) &&& (31 : Int32)) = 2 → ¬ ((T.1 0 (v3.toNatClampNeg)) &&& (31 : Int32)) = 3 → ¬ ((T.1 0 (v3.toNatClampNeg)) &&& (31 : Int32)) = 4 → ¬ ((T.1 0 (v3.toNatClampNeg)) &&& (31 : Int32)) = 5 → ¬ ((T.1 0 (v3.toNatClampNeg)) &&& (31 : Int32)) = 6 → ¬ ((T.1 0 (v3.toNatClampNeg)) &&& (31 : Int32)) = 7 → ¬ ((T.1 0 (v3.toNatClampNeg)) &&& (31 : Int32)) = 8 → ¬ ((T.1 0 (v3.toNatClampNeg)) &&& (31 : Int32)) = 9 → ¬ ((T.1 0 (v3.toNatClampNeg)) &&& (31 : Int32)) = 10 → ¬ ((T.1 0 (v3.toNatClampNeg)) &&& (31 : Int32)) = 11 → ¬ ((T.1 0 (v3.toNatClampNeg)) &&& (31 : Int32)) = 12 → ¬ ((T.1 0 (v3.toNatClampNeg)) &&& (31 : Int32)) = 13 → ¬ ((T.1 0 (v3.toNatClampNeg)) &&& (31 : Int32)) = 14 → ¬ ((T.1 0 (v3.toNatClampNeg)) &&& (31 : Int32)) = 15 → ¬ ((T.1 0 (v3.toNatClampNeg)) &&& (31 : Int32)) = 16 → ¬ ((T.1 0 (v3.toNatClampNeg)) &&& (31 : Int32)) = 17 → ¬ ((T.1 0 (v3.toNatClampNeg)) &&& (31 : Int32)) = 18 → ¬ ((T.1 0 (v3.toNatClampNeg)) &&& (31 : Int32)) = 19 → ¬ ((T.1 0 (v3.toNatClampNeg)) &&& (31 : Int32)) = 20 → ¬ ((T.1 0 (v3.toNatClampNeg)) &&& (31 : Int32)) = 21 → ¬ ((T.1 0 (v3.toNatClampNeg)) &&& (31 : Int32)) = 22 → ¬ ((T.1 0 (v3.toNatClampNeg)) &&& (31 : Int32)) = 23 → ¬ ((T.1 0 (v3.toNatClampNeg)) &&& (31 : Int32)) = 24 → ¬ ((T.1 0 (v3.toNatClampNeg)) &&& (31 : Int32)) = 25 → ¬ ((T.1 0 (v3.toNatClampNeg)) &&& (31 : Int32)) = 26 → ¬ ((T.1 0 (v3.toNatClampNeg)) &&& (31 : Int32)) = 27 → ¬ ((T.1 0 (v3.toNatClampNeg)) &&& (31 : Int32)) = 28 → ¬ ((T.1 0 (v3.toNatClampNeg)) &&& (31 : Int32)) = 29 → ax_j X 18 [some (.ref 0), some (.ref 2), some (.ref 105), some (.int (v3 + (7 : Int32)))] [] (th L sz T) k n)))) : ax_j X 18 [some (.ref 0), some (.ref 2), some (.ref 105), some (.int v3)] [] (th L sz T) k n := by
  refine ax_iload_n hX dL_law_18 rfl ?_
  refine ax_aload_n hX dL_law_19 (Or.inr ⟨_, rfl⟩) rfl ?_
  refine tx_slen hX dL_law_20 ?_
  refine ax_bipush hX dL_law_21 (v := 7) (by decide) ?_
  refine ax_isub hX dL_law_23 ?_
  refine ax_icmp_gt hX dL_law_24 (tgt := 1166) (by decide) (fun c => ?_) (fun c => ?_)
  · replace hyp := hyp.1 c
    refine ax_iconst hX dL_law_1166 (v := 1) (by decide) ?_
    exact hR.1 _ _ _ _ _ _ hk hn dL_law_1167 ⟨_, rfl, rfl⟩ rfl
  · replace hyp := hyp.2 c
    refine ax_aload_n hX dL_law_27 (Or.inr ⟨_, rfl⟩) rfl ?_
    refine ax_iload_n hX dL_law_28 rfl ?_
    refine tx_sal hX hyp.1 dL_law_29 ?_
    replace hyp := hyp.2
    refine ax_bipush hX dL_law_30 (v := 31) (by decide) ?_
    refine ax_iand hX dL_law_32 ?_
    by_cases q0 : ((T.1 0 (v3.toNatClampNeg)) &&& (31 : Int32)) = 0
    · replace hyp := hyp.1 q0
      refine ax_tableIn hX dL_law_33 (by rw [q0]; decide) (by rw [q0]; decide) (off := 135) (by rw [q0]; rfl) (tgt := 168) (by decide) ?_
      refine ax_aload_n hX dL_law_168 (Or.inr ⟨_, rfl⟩) rfl ?_
      refine ax_aload_n hX dL_law_169 (Or.inr ⟨_, rfl⟩) rfl ?_
      refine ax_iload_n hX dL_law_170 rfl ?_
      refine ax_iconst hX dL_law_171 (v := 1) (by decide) ?_
      refine ax_iadd hX dL_law_172 ?_
      refine tx_sal hX hyp.1 dL_law_173 ?_
      replace hyp := hyp.2
      refine ax_aload_n hX dL_law_174 (Or.inr ⟨_, rfl⟩) rfl ?_
      refine ax_iload_n hX dL_law_175 rfl ?_
      refine ax_iconst hX dL_law_176 (v := 2) (by decide) ?_
      refine ax_iadd hX dL_law_177 ?_
      refine tx_sal hX hyp.1 dL_law_178 ?_
      replace hyp := hyp.2
      refine ax_aload_n hX dL_law_179 (Or.inr ⟨_, rfl⟩) rfl ?_
      refine ax_iload_n hX dL_law_180 rfl ?_
      refine ax_iconst hX dL_law_181 (v := 3) (by decide) ?_
      refine ax_iadd hX dL_law_182 ?_
      refine tx_sal hX hyp.1 dL_law_183 ?_
      replace hyp := hyp.2
      refine ax_aload_n hX dL_law_184 (Or.inr ⟨_, rfl⟩) rfl ?_
      refine ax_iload_n hX dL_law_185 rfl ?_
      refine ax_iconst hX dL_law_186 (v := 4) (by decide) ?_
      refine ax_iadd hX dL_law_187 ?_
      refine tx_sal hX hyp.1 dL_law_188 ?_
      replace hyp := hyp.2
      refine ax_aload_n hX dL_law_189 (Or.inr ⟨_, rfl⟩) rfl ?_
      refine ax_iload_n hX dL_law_190 rfl ?_
      refine ax_iconst hX dL_law_191 (v := 5) (by decide) ?_
      refine ax_iadd hX dL_law_192 ?_
      refine tx_sal hX hyp.1 dL_law_193 ?_
      replace hyp := hyp.2
      obtain ⟨Q1, hK, hyp⟩ := hyp
      refine ax_callV hX lRL_13 im_X10_feed sl_X10_feed cw_X10_feed ((th_at (by decide) (Nat.lt_of_lt_of_le (by decide) hsz)).trans (tc_ob ly_2)) rfl rfl (A := [.int (T.1 0 (v3 + (1 : Int32)).toNatClampNeg), .int (T.1 0 (v3 + (2 : Int32)).toNatClampNeg), .int (T.1 0 (v3 + (3 : Int32)).toNatClampNeg), .int (T.1 0 (v3 + (4 : Int32)).toNatClampNeg), .int (T.1 0 (v3 + (5 : Int32)).toNatClampNeg)]) (st := []) rfl rfl (Nat.le_of_ble_eq_true rfl) hk hn dL_law_194 hK ?_
      rintro _ _ ⟨r1, T1, rfl, rfl, hq⟩
      replace hyp := hyp r1 T1 hq
      refine ax_aload_n hX dL_law_197 (Or.inr ⟨_, rfl⟩) rfl ?_
      refine ax_aload_n hX dL_law_198 (Or.inr ⟨_, rfl⟩) rfl ?_
      refine ax_iload_n hX dL_law_199 rfl ?_
      refine ax_iconst hX dL_law_200 (v := 1) (by decide) ?_
      refine ax_iadd hX dL_law_201 ?_
      refine tx_sal hX hyp.1 dL_law_202 ?_
      replace hyp := hyp.2
      refine ax_aload_n hX dL_law_203 (Or.inr ⟨_, rfl⟩) rfl ?_
      refine ax_iload_n hX dL_law_204 rfl ?_
      refine ax_iconst hX dL_law_205 (v := 2) (by decide) ?_
      refine ax_iadd hX dL_law_206 ?_
      refine tx_sal hX hyp.1 dL_law_207 ?_
      replace hyp := hyp.2
      refine ax_aload_n hX dL_law_208 (Or.inr ⟨_, rfl⟩) rfl ?_
      refine ax_iload_n hX dL_law_209 rfl ?_
      refine ax_iconst hX dL_law_210 (v := 3) (by decide) ?_
      refine ax_iadd hX dL_law_211 ?_
      refine tx_sal hX hyp.1 dL_law_212 ?_
      replace hyp := hyp.2
      refine ax_aload_n hX dL_law_213 (Or.inr ⟨_, rfl⟩) rfl ?_
      refine ax_iload_n hX dL_law_214 rfl ?_
      refine ax_iconst hX dL_law_215 (v := 4) (by decide) ?_
      refine ax_iadd hX dL_law_216 ?_
      refine tx_sal hX hyp.1 dL_law_217 ?_
      replace hyp := hyp.2
      refine ax_aload_n hX dL_law_218 (Or.inr ⟨_, rfl⟩) rfl ?_
      refine ax_iload_n hX dL_law_219 rfl ?_
      refine ax_iconst hX dL_law_220 (v := 5) (by decide) ?_
      refine ax_iadd hX dL_law_221 ?_
      refine tx_sal hX hyp.1 dL_law_222 ?_
      replace hyp := hyp.2
      obtain ⟨Q1, hK, hyp⟩ := hyp
      refine ax_callV hX lRL_17 im_X11_feed sl_X11_feed cw_X11_feed ((th_at (by decide) (Nat.lt_of_lt_of_le (by decide) hsz)).trans (tc_ob ly_105)) rfl rfl (A := [.int (T1.1 0 (v3 + (1 : Int32)).toNatClampNeg), .int (T1.1 0 (v3 + (2 : Int32)).toNatClampNeg), .int (T1.1 0 (v3 + (3 : Int32)).toNatClampNeg), .int (T1.1 0 (v3 + (4 : Int32)).toNatClampNeg), .int (T1.1 0 (v3 + (5 : Int32)).toNatClampNeg)]) (st := [.int r1]) rfl rfl (Nat.le_of_ble_eq_true rfl) hk hn dL_law_223 hK ?_
      rintro _ _ ⟨r2, T2, rfl, rfl, hq⟩
      replace hyp := hyp r2 T2 hq
      refine ax_icmp_eq hX dL_law_226 (tgt := 1160) (by decide) (fun c => ?_) (fun c => ?_)
      · replace hyp := hyp.1 c
        refine ax_iinc hX dL_law_1160 rfl (w := (v3 + (7 : Int32))) rfl (by decide) (L' := [some (.ref 0), some (.ref 2), some (.ref 105), some (.int (v3 + (7 : Int32)))]) rfl ?_
        refine ax_goto hX dL_law_1163 (tgt := 18) (by decide) ?_
        exact ax_forget (L' := [some (.ref 0), some (.ref 2), some (.ref 105), some (.int (v3 + (7 : Int32)))]) (⟨rfl, ⟨rfl, ⟨rfl, ⟨rfl, trivial⟩⟩⟩⟩) hyp
      · replace hyp := hyp.2 c
        refine ax_iconst hX dL_law_229 (v := 0) (by decide) ?_
        exact hyp.elim
    by_cases q1 : ((T.1 0 (v3.toNatClampNeg)) &&& (31 : Int32)) = 1
    · replace hyp := hyp.2.1 q1
      refine ax_tableIn hX dL_law_33 (by rw [q1]; decide) (by rw [q1]; decide) (off := 198) (by rw [q1]; rfl) (tgt := 231) (by decide) ?_
      refine ax_aload_n hX dL_law_231 (Or.inr ⟨_, rfl⟩) rfl ?_
      refine ax_aload_n hX dL_law_232 (Or.inr ⟨_, rfl⟩) rfl ?_
      refine ax_iload_n hX dL_law_233 rfl ?_
      refine ax_iconst hX dL_law_234 (v := 1) (by decide) ?_
      refine ax_iadd hX dL_law_235 ?_
      refine tx_sal hX hyp.1 dL_law_236 ?_
      replace hyp := hyp.2
      obtain ⟨Q1, hK, hyp⟩ := hyp
      refine ax_callV hX lRL_18 im_X10_end sl_X10_end cw_X10_end ((th_at (by decide) (Nat.lt_of_lt_of_le (by decide) hsz)).trans (tc_ob ly_2)) rfl rfl (A := [.int (T.1 0 (v3 + (1 : Int32)).toNatClampNeg)]) (st := []) rfl rfl (Nat.le_of_ble_eq_true rfl) hk hn dL_law_237 hK ?_
      rintro _ _ ⟨r3, T3, rfl, rfl, hq⟩
      replace hyp := hyp r3 T3 hq
      refine ax_aload_n hX dL_law_240 (Or.inr ⟨_, rfl⟩) rfl ?_
      refine ax_aload_n hX dL_law_241 (Or.inr ⟨_, rfl⟩) rfl ?_
      refine ax_iload_n hX dL_law_242 rfl ?_
      refine ax_iconst hX dL_law_243 (v := 1) (by decide) ?_
      refine ax_iadd hX dL_law_244 ?_
      refine tx_sal hX hyp.1 dL_law_245 ?_
      replace hyp := hyp.2
      obtain ⟨Q1, hK, hyp⟩ := hyp
      refine ax_callV hX lRL_22 im_X11_end sl_X11_end cw_X11_end ((th_at (by decide) (Nat.lt_of_lt_of_le (by decide) hsz)).trans (tc_ob ly_105)) rfl rfl (A := [.int (T3.1 0 (v3 + (1 : Int32)).toNatClampNeg)]) (st := [.int r3]) rfl rfl (Nat.le_of_ble_eq_true rfl) hk hn dL_law_246 hK ?_
      rintro _ _ ⟨r4, T4, rfl, rfl, hq⟩
      replace hyp := hyp r4 T4 hq
      refine ax_icmp_eq hX dL_law_249 (tgt := 1160) (by decide) (fun c => ?_) (fun c => ?_)
      · replace hyp := hyp.1 c
        refine ax_iinc hX dL_law_1160 rfl (w := (v3 + (7 : Int32))) rfl (by decide) (L' := [some (.ref 0), some (.ref 2), some (.ref 105), some (.int (v3 + (7 : Int32)))]) rfl ?_
        refine ax_goto hX dL_law_1163 (tgt := 18) (by decide) ?_
        exact ax_forget (L' := [some (.ref 0), some (.ref 2), some (.ref 105), some (.int (v3 + (7 : Int32)))]) (⟨rfl, ⟨rfl, ⟨rfl, ⟨rfl, trivial⟩⟩⟩⟩) hyp
      · replace hyp := hyp.2 c
        refine ax_iconst hX dL_law_252 (v := 0) (by decide) ?_
        exact hyp.elim
    by_cases q2 : ((T.1 0 (v3.toNatClampNeg)) &&& (31 : Int32)) = 2
    · replace hyp := hyp.2.2.1 q2
      refine ax_tableIn hX dL_law_33 (by rw [q2]; decide) (by rw [q2]; decide) (off := 221) (by rw [q2]; rfl) (tgt := 254) (by decide) ?_
      refine ax_aload_n hX dL_law_254 (Or.inr ⟨_, rfl⟩) rfl ?_
      refine ax_aload_n hX dL_law_255 (Or.inr ⟨_, rfl⟩) rfl ?_
      refine ax_iload_n hX dL_law_256 rfl ?_
      refine ax_iconst hX dL_law_257 (v := 1) (by decide) ?_
      refine ax_iadd hX dL_law_258 ?_
      refine tx_sal hX hyp.1 dL_law_259 ?_
      replace hyp := hyp.2
      obtain ⟨hk1, hn1, Q1, hK, hyp⟩ := hyp
      refine ax_callV hX lRL_23 im_X10_syllabus sl_X10_syllabus cw_X10_syllabus ((th_at (by decide) (Nat.lt_of_lt_of_le (by decide) hsz)).trans (tc_ob ly_2)) rfl rfl (A := [.int (T.1 0 (v3 + (1 : Int32)).toNatClampNeg)]) (st := []) rfl rfl (Nat.le_of_ble_eq_true rfl) hk1 hn1 dL_law_260 hK ?_
      rintro _ _ ⟨r5, sz1, T5, rfl, rfl, hle, hq⟩
      replace hyp := hyp r5 sz1 T5 hle hq
      have hsz1 : 161 ≤ sz1 := Nat.le_trans hsz hle
      replace hk := hk1
      replace hn := hn1
      refine ax_aload_n hX dL_law_263 (Or.inr ⟨_, rfl⟩) rfl ?_
      refine ax_aload_n hX dL_law_264 (Or.inr ⟨_, rfl⟩) rfl ?_
      refine ax_iload_n hX dL_law_265 rfl ?_
      refine ax_iconst hX dL_law_266 (v := 1) (by decide) ?_
      refine ax_iadd hX dL_law_267 ?_
      refine tx_sal hX hyp.1 dL_law_268 ?_
      replace hyp := hyp.2
      obtain ⟨Q1, hK, hyp⟩ := hyp
      refine ax_callV hX lRL_26 im_X11_syllabus sl_X11_syllabus cw_X11_syllabus ((th_at (by decide) (Nat.lt_of_lt_of_le (by decide) hsz1)).trans (tc_ob ly_105)) rfl rfl (A := [.int (T5.1 0 (v3 + (1 : Int32)).toNatClampNeg)]) (st := [.int r5]) rfl rfl (Nat.le_of_ble_eq_true rfl) hk hn dL_law_269 hK ?_
      rintro _ _ ⟨r6, T6, rfl, rfl, hq⟩
      replace hyp := hyp r6 T6 hq
      refine ax_icmp_eq hX dL_law_272 (tgt := 1160) (by decide) (fun c => ?_) (fun c => ?_)
      · replace hyp := hyp.1 c
        refine ax_iinc hX dL_law_1160 rfl (w := (v3 + (7 : Int32))) rfl (by decide) (L' := [some (.ref 0), some (.ref 2), some (.ref 105), some (.int (v3 + (7 : Int32)))]) rfl ?_
        refine ax_goto hX dL_law_1163 (tgt := 18) (by decide) ?_
        exact ax_forget (L' := [some (.ref 0), some (.ref 2), some (.ref 105), some (.int (v3 + (7 : Int32)))]) (⟨rfl, ⟨rfl, ⟨rfl, ⟨rfl, trivial⟩⟩⟩⟩) hyp
      · replace hyp := hyp.2 c
        refine ax_iconst hX dL_law_275 (v := 0) (by decide) ?_
        exact hyp.elim
    by_cases q3 : ((T.1 0 (v3.toNatClampNeg)) &&& (31 : Int32)) = 3
    · replace hyp := hyp.2.2.2.1 q3
      refine ax_tableIn hX dL_law_33 (by rw [q3]; decide) (by rw [q3]; decide) (off := 244) (by rw [q3]; rfl) (tgt := 277) (by decide) ?_
      refine ax_aload_n hX dL_law_277 (Or.inr ⟨_, rfl⟩) rfl ?_
      refine ax_aload_n hX dL_law_278 (Or.inr ⟨_, rfl⟩) rfl ?_
      refine ax_iload_n hX dL_law_279 rfl ?_
      refine ax_iconst hX dL_law_280 (v := 1) (by decide) ?_
      refine ax_iadd hX dL_law_281 ?_
      refine tx_sal hX hyp.1 dL_law_282 ?_
      replace hyp := hyp.2
      obtain ⟨Q1, hK, hyp⟩ := hyp
      refine ax_callV hX lRL_27 im_X10_fault sl_X10_fault cw_X10_fault ((th_at (by decide) (Nat.lt_of_lt_of_le (by decide) hsz)).trans (tc_ob ly_2)) rfl rfl (A := [.int (T.1 0 (v3 + (1 : Int32)).toNatClampNeg)]) (st := []) rfl rfl (Nat.le_of_ble_eq_true rfl) hk hn dL_law_283 hK ?_
      rintro _ _ ⟨r7, T7, rfl, rfl, hq⟩
      replace hyp := hyp r7 T7 hq
      refine ax_aload_n hX dL_law_286 (Or.inr ⟨_, rfl⟩) rfl ?_
      refine ax_aload_n hX dL_law_287 (Or.inr ⟨_, rfl⟩) rfl ?_
      refine ax_iload_n hX dL_law_288 rfl ?_
      refine ax_iconst hX dL_law_289 (v := 1) (by decide) ?_
      refine ax_iadd hX dL_law_290 ?_
      refine tx_sal hX hyp.1 dL_law_291 ?_
      replace hyp := hyp.2
      obtain ⟨Q1, hK, hyp⟩ := hyp
      refine ax_callV hX lRL_30 im_X11_fault sl_X11_fault cw_X11_fault ((th_at (by decide) (Nat.lt_of_lt_of_le (by decide) hsz)).trans (tc_ob ly_105)) rfl rfl (A := [.int (T7.1 0 (v3 + (1 : Int32)).toNatClampNeg)]) (st := [.int r7]) rfl rfl (Nat.le_of_ble_eq_true rfl) hk hn dL_law_292 hK ?_
      rintro _ _ ⟨r8, T8, rfl, rfl, hq⟩
      replace hyp := hyp r8 T8 hq
      refine ax_icmp_eq hX dL_law_295 (tgt := 1160) (by decide) (fun c => ?_) (fun c => ?_)
      · replace hyp := hyp.1 c
        refine ax_iinc hX dL_law_1160 rfl (w := (v3 + (7 : Int32))) rfl (by decide) (L' := [some (.ref 0), some (.ref 2), some (.ref 105), some (.int (v3 + (7 : Int32)))]) rfl ?_
        refine ax_goto hX dL_law_1163 (tgt := 18) (by decide) ?_
        exact ax_forget (L' := [some (.ref 0), some (.ref 2), some (.ref 105), some (.int (v3 + (7 : Int32)))]) (⟨rfl, ⟨rfl, ⟨rfl, ⟨rfl, trivial⟩⟩⟩⟩) hyp
      · replace hyp := hyp.2 c
        refine ax_iconst hX dL_law_298 (v := 0) (by decide) ?_
        exact hyp.elim
    by_cases q4 : ((T.1 0 (v3.toNatClampNeg)) &&& (31 : Int32)) = 4
    · replace hyp := hyp.2.2.2.2.1 q4
      refine ax_tableIn hX dL_law_33 (by rw [q4]; decide) (by rw [q4]; decide) (off := 267) (by rw [q4]; rfl) (tgt := 300) (by decide) ?_
      refine ax_aload_n hX dL_law_300 (Or.inr ⟨_, rfl⟩) rfl ?_
      refine ax_aload_n hX dL_law_301 (Or.inr ⟨_, rfl⟩) rfl ?_
      refine ax_iload_n hX dL_law_302 rfl ?_
      refine ax_iconst hX dL_law_303 (v := 1) (by decide) ?_
      refine ax_iadd hX dL_law_304 ?_
      refine tx_sal hX hyp.1 dL_law_305 ?_
      replace hyp := hyp.2
      refine ax_aload_n hX dL_law_306 (Or.inr ⟨_, rfl⟩) rfl ?_
      refine ax_iload_n hX dL_law_307 rfl ?_
      refine ax_iconst hX dL_law_308 (v := 2) (by decide) ?_
      refine ax_iadd hX dL_law_309 ?_
      refine tx_sal hX hyp.1 dL_law_310 ?_
      replace hyp := hyp.2
      refine ax_aload_n hX dL_law_311 (Or.inr ⟨_, rfl⟩) rfl ?_
      refine ax_iload_n hX dL_law_312 rfl ?_
      refine ax_iconst hX dL_law_313 (v := 3) (by decide) ?_
      refine ax_iadd hX dL_law_314 ?_
      refine tx_sal hX hyp.1 dL_law_315 ?_
      replace hyp := hyp.2
      obtain ⟨Q1, hK, hyp⟩ := hyp
      refine ax_callV hX lRL_31 im_X10_grade sl_X10_grade cw_X10_grade ((th_at (by decide) (Nat.lt_of_lt_of_le (by decide) hsz)).trans (tc_ob ly_2)) rfl rfl (A := [.int (T.1 0 (v3 + (1 : Int32)).toNatClampNeg), .int (T.1 0 (v3 + (2 : Int32)).toNatClampNeg), .int (T.1 0 (v3 + (3 : Int32)).toNatClampNeg)]) (st := []) rfl rfl (Nat.le_of_ble_eq_true rfl) hk hn dL_law_316 hK ?_
      rintro _ _ ⟨r9, T9, rfl, rfl, hq⟩
      replace hyp := hyp r9 T9 hq
      refine ax_aload_n hX dL_law_319 (Or.inr ⟨_, rfl⟩) rfl ?_
      refine ax_aload_n hX dL_law_320 (Or.inr ⟨_, rfl⟩) rfl ?_
      refine ax_iload_n hX dL_law_321 rfl ?_
      refine ax_iconst hX dL_law_322 (v := 1) (by decide) ?_
      refine ax_iadd hX dL_law_323 ?_
      refine tx_sal hX hyp.1 dL_law_324 ?_
      replace hyp := hyp.2
      refine ax_aload_n hX dL_law_325 (Or.inr ⟨_, rfl⟩) rfl ?_
      refine ax_iload_n hX dL_law_326 rfl ?_
      refine ax_iconst hX dL_law_327 (v := 2) (by decide) ?_
      refine ax_iadd hX dL_law_328 ?_
      refine tx_sal hX hyp.1 dL_law_329 ?_
      replace hyp := hyp.2
      refine ax_aload_n hX dL_law_330 (Or.inr ⟨_, rfl⟩) rfl ?_
      refine ax_iload_n hX dL_law_331 rfl ?_
      refine ax_iconst hX dL_law_332 (v := 3) (by decide) ?_
      refine ax_iadd hX dL_law_333 ?_
      refine tx_sal hX hyp.1 dL_law_334 ?_
      replace hyp := hyp.2
      obtain ⟨Q1, hK, hyp⟩ := hyp
      refine ax_callV hX lRL_35 im_X11_grade sl_X11_grade cw_X11_grade ((th_at (by decide) (Nat.lt_of_lt_of_le (by decide) hsz)).trans (tc_ob ly_105)) rfl rfl (A := [.int (T9.1 0 (v3 + (1 : Int32)).toNatClampNeg), .int (T9.1 0 (v3 + (2 : Int32)).toNatClampNeg), .int (T9.1 0 (v3 + (3 : Int32)).toNatClampNeg)]) (st := [.int r9]) rfl rfl (Nat.le_of_ble_eq_true rfl) hk hn dL_law_335 hK ?_
      rintro _ _ ⟨r10, T10, rfl, rfl, hq⟩
      replace hyp := hyp r10 T10 hq
      refine ax_icmp_eq hX dL_law_338 (tgt := 1160) (by decide) (fun c => ?_) (fun c => ?_)
      · replace hyp := hyp.1 c
        refine ax_iinc hX dL_law_1160 rfl (w := (v3 + (7 : Int32))) rfl (by decide) (L' := [some (.ref 0), some (.ref 2), some (.ref 105), some (.int (v3 + (7 : Int32)))]) rfl ?_
        refine ax_goto hX dL_law_1163 (tgt := 18) (by decide) ?_
        exact ax_forget (L' := [some (.ref 0), some (.ref 2), some (.ref 105), some (.int (v3 + (7 : Int32)))]) (⟨rfl, ⟨rfl, ⟨rfl, ⟨rfl, trivial⟩⟩⟩⟩) hyp
      · replace hyp := hyp.2 c
        refine ax_iconst hX dL_law_341 (v := 0) (by decide) ?_
        exact hyp.elim
    by_cases q5 : ((T.1 0 (v3.toNatClampNeg)) &&& (31 : Int32)) = 5
    · replace hyp := hyp.2.2.2.2.2.1 q5
      refine ax_tableIn hX dL_law_33 (by rw [q5]; decide) (by rw [q5]; decide) (off := 310) (by rw [q5]; rfl) (tgt := 343) (by decide) ?_
      refine ax_aload_n hX dL_law_343 (Or.inr ⟨_, rfl⟩) rfl ?_
      refine ax_aload_n hX dL_law_344 (Or.inr ⟨_, rfl⟩) rfl ?_
      refine ax_iload_n hX dL_law_345 rfl ?_
      refine ax_iconst hX dL_law_346 (v := 1) (by decide) ?_
      refine ax_iadd hX dL_law_347 ?_
      refine tx_sal hX hyp.1 dL_law_348 ?_
      replace hyp := hyp.2
      refine ax_aload_n hX dL_law_349 (Or.inr ⟨_, rfl⟩) rfl ?_
      refine ax_iload_n hX dL_law_350 rfl ?_
      refine ax_iconst hX dL_law_351 (v := 2) (by decide) ?_
      refine ax_iadd hX dL_law_352 ?_
      refine tx_sal hX hyp.1 dL_law_353 ?_
      replace hyp := hyp.2
      refine ax_aload_n hX dL_law_354 (Or.inr ⟨_, rfl⟩) rfl ?_
      refine ax_iload_n hX dL_law_355 rfl ?_
      refine ax_iconst hX dL_law_356 (v := 3) (by decide) ?_
      refine ax_iadd hX dL_law_357 ?_
      refine tx_sal hX hyp.1 dL_law_358 ?_
      replace hyp := hyp.2
      refine ax_aload_n hX dL_law_359 (Or.inr ⟨_, rfl⟩) rfl ?_
      refine ax_iload_n hX dL_law_360 rfl ?_
      refine ax_iconst hX dL_law_361 (v := 4) (by decide) ?_
      refine ax_iadd hX dL_law_362 ?_
      refine tx_sal hX hyp.1 dL_law_363 ?_
      replace hyp := hyp.2
      refine ax_aload_n hX dL_law_364 (Or.inr ⟨_, rfl⟩) rfl ?_
      refine ax_iload_n hX dL_law_365 rfl ?_
      refine ax_iconst hX dL_law_366 (v := 5) (by decide) ?_
      refine ax_iadd hX dL_law_367 ?_
      refine tx_sal hX hyp.1 dL_law_368 ?_
      replace hyp := hyp.2
      refine ax_aload_n hX dL_law_369 (Or.inr ⟨_, rfl⟩) rfl ?_
      refine ax_iload_n hX dL_law_370 rfl ?_
      refine ax_bipush hX dL_law_371 (v := 6) (by decide) ?_
      refine ax_iadd hX dL_law_373 ?_
      refine tx_sal hX hyp.1 dL_law_374 ?_
      replace hyp := hyp.2
      obtain ⟨Q1, hK, hyp⟩ := hyp
      refine ax_callV hX lRL_36 im_X10_entry sl_X10_entry cw_X10_entry ((th_at (by decide) (Nat.lt_of_lt_of_le (by decide) hsz)).trans (tc_ob ly_2)) rfl rfl (A := [.int (T.1 0 (v3 + (1 : Int32)).toNatClampNeg), .int (T.1 0 (v3 + (2 : Int32)).toNatClampNeg), .int (T.1 0 (v3 + (3 : Int32)).toNatClampNeg), .int (T.1 0 (v3 + (4 : Int32)).toNatClampNeg), .int (T.1 0 (v3 + (5 : Int32)).toNatClampNeg), .int (T.1 0 (v3 + (6 : Int32)).toNatClampNeg)]) (st := []) rfl rfl (Nat.le_of_ble_eq_true rfl) hk hn dL_law_375 hK ?_
      rintro _ _ ⟨r11, T11, rfl, rfl, hq⟩
      replace hyp := hyp r11 T11 hq
      refine ax_aload_n hX dL_law_378 (Or.inr ⟨_, rfl⟩) rfl ?_
      refine ax_aload_n hX dL_law_379 (Or.inr ⟨_, rfl⟩) rfl ?_
      refine ax_iload_n hX dL_law_380 rfl ?_
      refine ax_iconst hX dL_law_381 (v := 1) (by decide) ?_
      refine ax_iadd hX dL_law_382 ?_
      refine tx_sal hX hyp.1 dL_law_383 ?_
      replace hyp := hyp.2
      refine ax_aload_n hX dL_law_384 (Or.inr ⟨_, rfl⟩) rfl ?_
      refine ax_iload_n hX dL_law_385 rfl ?_
      refine ax_iconst hX dL_law_386 (v := 2) (by decide) ?_
      refine ax_iadd hX dL_law_387 ?_
      refine tx_sal hX hyp.1 dL_law_388 ?_
      replace hyp := hyp.2
      refine ax_aload_n hX dL_law_389 (Or.inr ⟨_, rfl⟩) rfl ?_
      refine ax_iload_n hX dL_law_390 rfl ?_
      refine ax_iconst hX dL_law_391 (v := 3) (by decide) ?_
      refine ax_iadd hX dL_law_392 ?_
      refine tx_sal hX hyp.1 dL_law_393 ?_
      replace hyp := hyp.2
      refine ax_aload_n hX dL_law_394 (Or.inr ⟨_, rfl⟩) rfl ?_
      refine ax_iload_n hX dL_law_395 rfl ?_
      refine ax_iconst hX dL_law_396 (v := 4) (by decide) ?_
      refine ax_iadd hX dL_law_397 ?_
      refine tx_sal hX hyp.1 dL_law_398 ?_
      replace hyp := hyp.2
      refine ax_aload_n hX dL_law_399 (Or.inr ⟨_, rfl⟩) rfl ?_
      refine ax_iload_n hX dL_law_400 rfl ?_
      refine ax_iconst hX dL_law_401 (v := 5) (by decide) ?_
      refine ax_iadd hX dL_law_402 ?_
      refine tx_sal hX hyp.1 dL_law_403 ?_
      replace hyp := hyp.2
      refine ax_aload_n hX dL_law_404 (Or.inr ⟨_, rfl⟩) rfl ?_
      refine ax_iload_n hX dL_law_405 rfl ?_
      refine ax_bipush hX dL_law_406 (v := 6) (by decide) ?_
      refine ax_iadd hX dL_law_408 ?_
      refine tx_sal hX hyp.1 dL_law_409 ?_
      replace hyp := hyp.2
      obtain ⟨Q1, hK, hyp⟩ := hyp
      refine ax_callV hX lRL_40 im_X11_entry sl_X11_entry cw_X11_entry ((th_at (by decide) (Nat.lt_of_lt_of_le (by decide) hsz)).trans (tc_ob ly_105)) rfl rfl (A := [.int (T11.1 0 (v3 + (1 : Int32)).toNatClampNeg), .int (T11.1 0 (v3 + (2 : Int32)).toNatClampNeg), .int (T11.1 0 (v3 + (3 : Int32)).toNatClampNeg), .int (T11.1 0 (v3 + (4 : Int32)).toNatClampNeg), .int (T11.1 0 (v3 + (5 : Int32)).toNatClampNeg), .int (T11.1 0 (v3 + (6 : Int32)).toNatClampNeg)]) (st := [.int r11]) rfl rfl (Nat.le_of_ble_eq_true rfl) hk hn dL_law_410 hK ?_
      rintro _ _ ⟨r12, T12, rfl, rfl, hq⟩
      replace hyp := hyp r12 T12 hq
      refine ax_icmp_eq hX dL_law_413 (tgt := 1160) (by decide) (fun c => ?_) (fun c => ?_)
      · replace hyp := hyp.1 c
        refine ax_iinc hX dL_law_1160 rfl (w := (v3 + (7 : Int32))) rfl (by decide) (L' := [some (.ref 0), some (.ref 2), some (.ref 105), some (.int (v3 + (7 : Int32)))]) rfl ?_
        refine ax_goto hX dL_law_1163 (tgt := 18) (by decide) ?_
        exact ax_forget (L' := [some (.ref 0), some (.ref 2), some (.ref 105), some (.int (v3 + (7 : Int32)))]) (⟨rfl, ⟨rfl, ⟨rfl, ⟨rfl, trivial⟩⟩⟩⟩) hyp
      · replace hyp := hyp.2 c
        refine ax_iconst hX dL_law_416 (v := 0) (by decide) ?_
        exact hyp.elim
    by_cases q6 : ((T.1 0 (v3.toNatClampNeg)) &&& (31 : Int32)) = 6
    · replace hyp := hyp.2.2.2.2.2.2.1 q6
      refine ax_tableIn hX dL_law_33 (by rw [q6]; decide) (by rw [q6]; decide) (off := 385) (by rw [q6]; rfl) (tgt := 418) (by decide) ?_
      refine ax_aload_n hX dL_law_418 (Or.inr ⟨_, rfl⟩) rfl ?_
      refine ax_aload_n hX dL_law_419 (Or.inr ⟨_, rfl⟩) rfl ?_
      refine ax_iload_n hX dL_law_420 rfl ?_
      refine ax_iconst hX dL_law_421 (v := 1) (by decide) ?_
      refine ax_iadd hX dL_law_422 ?_
      refine tx_sal hX hyp.1 dL_law_423 ?_
      replace hyp := hyp.2
      refine ax_aload_n hX dL_law_424 (Or.inr ⟨_, rfl⟩) rfl ?_
      refine ax_iload_n hX dL_law_425 rfl ?_
      refine ax_iconst hX dL_law_426 (v := 2) (by decide) ?_
      refine ax_iadd hX dL_law_427 ?_
      refine tx_sal hX hyp.1 dL_law_428 ?_
      replace hyp := hyp.2
      refine ax_i2l hX dL_law_429 ?_
      refine ax_bipush hX dL_law_430 (v := 32) (by decide) ?_
      refine ax_lshl hX dL_law_432 ?_
      refine ax_aload_n hX dL_law_433 (Or.inr ⟨_, rfl⟩) rfl ?_
      refine ax_iload_n hX dL_law_434 rfl ?_
      refine ax_iconst hX dL_law_435 (v := 3) (by decide) ?_
      refine ax_iadd hX dL_law_436 ?_
      refine tx_sal hX hyp.1 dL_law_437 ?_
      replace hyp := hyp.2
      refine ax_i2l hX dL_law_438 ?_
      refine ax_ldc2 hX vRL_41 dL_law_439 ?_
      refine ax_land hX dL_law_442 ?_
      refine ax_lor hX dL_law_443 ?_
      obtain ⟨Q1, hK, hyp⟩ := hyp
      refine ax_callV hX lRL_43 im_X10_piece sl_X10_piece cw_X10_piece ((th_at (by decide) (Nat.lt_of_lt_of_le (by decide) hsz)).trans (tc_ob ly_2)) rfl rfl (A := [.int (T.1 0 (v3 + (1 : Int32)).toNatClampNeg), .long (((T.1 0 (v3 + (2 : Int32)).toNatClampNeg).toInt64 <<< ((32 : Int32).toInt64 &&& 63)) ||| ((T.1 0 (v3 + (3 : Int32)).toNatClampNeg).toInt64 &&& (4294967295 : Int64)))]) (st := []) rfl rfl (Nat.le_of_ble_eq_true rfl) hk hn dL_law_444 hK ?_
      rintro _ _ ⟨r13, T13, rfl, rfl, hq⟩
      replace hyp := hyp r13 T13 hq
      refine ax_aload_n hX dL_law_447 (Or.inr ⟨_, rfl⟩) rfl ?_
      refine ax_aload_n hX dL_law_448 (Or.inr ⟨_, rfl⟩) rfl ?_
      refine ax_iload_n hX dL_law_449 rfl ?_
      refine ax_iconst hX dL_law_450 (v := 1) (by decide) ?_
      refine ax_iadd hX dL_law_451 ?_
      refine tx_sal hX hyp.1 dL_law_452 ?_
      replace hyp := hyp.2
      refine ax_aload_n hX dL_law_453 (Or.inr ⟨_, rfl⟩) rfl ?_
      refine ax_iload_n hX dL_law_454 rfl ?_
      refine ax_iconst hX dL_law_455 (v := 2) (by decide) ?_
      refine ax_iadd hX dL_law_456 ?_
      refine tx_sal hX hyp.1 dL_law_457 ?_
      replace hyp := hyp.2
      refine ax_i2l hX dL_law_458 ?_
      refine ax_bipush hX dL_law_459 (v := 32) (by decide) ?_
      refine ax_lshl hX dL_law_461 ?_
      refine ax_aload_n hX dL_law_462 (Or.inr ⟨_, rfl⟩) rfl ?_
      refine ax_iload_n hX dL_law_463 rfl ?_
      refine ax_iconst hX dL_law_464 (v := 3) (by decide) ?_
      refine ax_iadd hX dL_law_465 ?_
      refine tx_sal hX hyp.1 dL_law_466 ?_
      replace hyp := hyp.2
      refine ax_i2l hX dL_law_467 ?_
      refine ax_ldc2 hX vRL_41 dL_law_468 ?_
      refine ax_land hX dL_law_471 ?_
      refine ax_lor hX dL_law_472 ?_
      obtain ⟨Q1, hK, hyp⟩ := hyp
      refine ax_callV hX lRL_47 im_X11_piece sl_X11_piece cw_X11_piece ((th_at (by decide) (Nat.lt_of_lt_of_le (by decide) hsz)).trans (tc_ob ly_105)) rfl rfl (A := [.int (T13.1 0 (v3 + (1 : Int32)).toNatClampNeg), .long (((T13.1 0 (v3 + (2 : Int32)).toNatClampNeg).toInt64 <<< ((32 : Int32).toInt64 &&& 63)) ||| ((T13.1 0 (v3 + (3 : Int32)).toNatClampNeg).toInt64 &&& (4294967295 : Int64)))]) (st := [.int r13]) rfl rfl (Nat.le_of_ble_eq_true rfl) hk hn dL_law_473 hK ?_
      rintro _ _ ⟨r14, T14, rfl, rfl, hq⟩
      replace hyp := hyp r14 T14 hq
      refine ax_icmp_eq hX dL_law_476 (tgt := 1160) (by decide) (fun c => ?_) (fun c => ?_)
      · replace hyp := hyp.1 c
        refine ax_iinc hX dL_law_1160 rfl (w := (v3 + (7 : Int32))) rfl (by decide) (L' := [some (.ref 0), some (.ref 2), some (.ref 105), some (.int (v3 + (7 : Int32)))]) rfl ?_
        refine ax_goto hX dL_law_1163 (tgt := 18) (by decide) ?_
        exact ax_forget (L' := [some (.ref 0), some (.ref 2), some (.ref 105), some (.int (v3 + (7 : Int32)))]) (⟨rfl, ⟨rfl, ⟨rfl, ⟨rfl, trivial⟩⟩⟩⟩) hyp
      · replace hyp := hyp.2 c
        refine ax_iconst hX dL_law_479 (v := 0) (by decide) ?_
        exact hyp.elim
    by_cases q7 : ((T.1 0 (v3.toNatClampNeg)) &&& (31 : Int32)) = 7
    · replace hyp := hyp.2.2.2.2.2.2.2.1 q7
      refine ax_tableIn hX dL_law_33 (by rw [q7]; decide) (by rw [q7]; decide) (off := 448) (by rw [q7]; rfl) (tgt := 481) (by decide) ?_
      refine ax_aload_n hX dL_law_481 (Or.inr ⟨_, rfl⟩) rfl ?_
      refine ax_aload_n hX dL_law_482 (Or.inr ⟨_, rfl⟩) rfl ?_
      refine ax_iload_n hX dL_law_483 rfl ?_
      refine ax_iconst hX dL_law_484 (v := 1) (by decide) ?_
      refine ax_iadd hX dL_law_485 ?_
      refine tx_sal hX hyp.1 dL_law_486 ?_
      replace hyp := hyp.2
      obtain ⟨Q1, hK, hyp⟩ := hyp
      refine ax_callV hX lRL_48 im_X10_judge sl_X10_judge cw_X10_judge ((th_at (by decide) (Nat.lt_of_lt_of_le (by decide) hsz)).trans (tc_ob ly_2)) rfl rfl (A := [.int (T.1 0 (v3 + (1 : Int32)).toNatClampNeg)]) (st := []) rfl rfl (Nat.le_of_ble_eq_true rfl) hk hn dL_law_487 hK ?_
      rintro _ _ ⟨r15, T15, rfl, rfl, hq⟩
      replace hyp := hyp r15 T15 hq
      refine ax_aload_n hX dL_law_490 (Or.inr ⟨_, rfl⟩) rfl ?_
      refine ax_aload_n hX dL_law_491 (Or.inr ⟨_, rfl⟩) rfl ?_
      refine ax_iload_n hX dL_law_492 rfl ?_
      refine ax_iconst hX dL_law_493 (v := 1) (by decide) ?_
      refine ax_iadd hX dL_law_494 ?_
      refine tx_sal hX hyp.1 dL_law_495 ?_
      replace hyp := hyp.2
      obtain ⟨Q1, hK, hyp⟩ := hyp
      refine ax_callV hX lRL_51 im_X11_judge sl_X11_judge cw_X11_judge ((th_at (by decide) (Nat.lt_of_lt_of_le (by decide) hsz)).trans (tc_ob ly_105)) rfl rfl (A := [.int (T15.1 0 (v3 + (1 : Int32)).toNatClampNeg)]) (st := [.int r15]) rfl rfl (Nat.le_of_ble_eq_true rfl) hk hn dL_law_496 hK ?_
      rintro _ _ ⟨r16, T16, rfl, rfl, hq⟩
      replace hyp := hyp r16 T16 hq
      refine ax_icmp_eq hX dL_law_499 (tgt := 1160) (by decide) (fun c => ?_) (fun c => ?_)
      · replace hyp := hyp.1 c
        refine ax_iinc hX dL_law_1160 rfl (w := (v3 + (7 : Int32))) rfl (by decide) (L' := [some (.ref 0), some (.ref 2), some (.ref 105), some (.int (v3 + (7 : Int32)))]) rfl ?_
        refine ax_goto hX dL_law_1163 (tgt := 18) (by decide) ?_
        exact ax_forget (L' := [some (.ref 0), some (.ref 2), some (.ref 105), some (.int (v3 + (7 : Int32)))]) (⟨rfl, ⟨rfl, ⟨rfl, ⟨rfl, trivial⟩⟩⟩⟩) hyp
      · replace hyp := hyp.2 c
        refine ax_iconst hX dL_law_502 (v := 0) (by decide) ?_
        exact hyp.elim
    by_cases q8 : ((T.1 0 (v3.toNatClampNeg)) &&& (31 : Int32)) = 8
    · replace hyp := hyp.2.2.2.2.2.2.2.2.1 q8
      refine ax_tableIn hX dL_law_33 (by rw [q8]; decide) (by rw [q8]; decide) (off := 471) (by rw [q8]; rfl) (tgt := 504) (by decide) ?_
      refine ax_aload_n hX dL_law_504 (Or.inr ⟨_, rfl⟩) rfl ?_
      obtain ⟨Q1, hK, hyp⟩ := hyp
      refine ax_callV hX lRL_52 im_X10_centre sl_X10_centre cw_X10_centre ((th_at (by decide) (Nat.lt_of_lt_of_le (by decide) hsz)).trans (tc_ob ly_2)) rfl rfl (A := []) (st := []) rfl rfl (Nat.le_of_ble_eq_true rfl) hk hn dL_law_505 hK ?_
      rintro _ _ ⟨r17, T17, rfl, rfl, hq⟩
      replace hyp := hyp r17 T17 hq
      refine ax_aload_n hX dL_law_508 (Or.inr ⟨_, rfl⟩) rfl ?_
      obtain ⟨Q1, hK, hyp⟩ := hyp
      refine ax_callV hX lRL_56 im_X11_centre sl_X11_centre cw_X11_centre ((th_at (by decide) (Nat.lt_of_lt_of_le (by decide) hsz)).trans (tc_ob ly_105)) rfl rfl (A := []) (st := [.int r17]) rfl rfl (Nat.le_of_ble_eq_true rfl) hk hn dL_law_509 hK ?_
      rintro _ _ ⟨r18, T18, rfl, rfl, hq⟩
      replace hyp := hyp r18 T18 hq
      refine ax_icmp_eq hX dL_law_512 (tgt := 1160) (by decide) (fun c => ?_) (fun c => ?_)
      · replace hyp := hyp.1 c
        refine ax_iinc hX dL_law_1160 rfl (w := (v3 + (7 : Int32))) rfl (by decide) (L' := [some (.ref 0), some (.ref 2), some (.ref 105), some (.int (v3 + (7 : Int32)))]) rfl ?_
        refine ax_goto hX dL_law_1163 (tgt := 18) (by decide) ?_
        exact ax_forget (L' := [some (.ref 0), some (.ref 2), some (.ref 105), some (.int (v3 + (7 : Int32)))]) (⟨rfl, ⟨rfl, ⟨rfl, ⟨rfl, trivial⟩⟩⟩⟩) hyp
      · replace hyp := hyp.2 c
        refine ax_iconst hX dL_law_515 (v := 0) (by decide) ?_
        exact hyp.elim
    by_cases q9 : ((T.1 0 (v3.toNatClampNeg)) &&& (31 : Int32)) = 9
    · replace hyp := hyp.2.2.2.2.2.2.2.2.2.1 q9
      refine ax_tableIn hX dL_law_33 (by rw [q9]; decide) (by rw [q9]; decide) (off := 484) (by rw [q9]; rfl) (tgt := 517) (by decide) ?_
      refine ax_aload_n hX dL_law_517 (Or.inr ⟨_, rfl⟩) rfl ?_
      refine ax_aload_n hX dL_law_518 (Or.inr ⟨_, rfl⟩) rfl ?_
      refine ax_iload_n hX dL_law_519 rfl ?_
      refine ax_iconst hX dL_law_520 (v := 1) (by decide) ?_
      refine ax_iadd hX dL_law_521 ?_
      refine tx_sal hX hyp.1 dL_law_522 ?_
      replace hyp := hyp.2
      refine ax_aload_n hX dL_law_523 (Or.inr ⟨_, rfl⟩) rfl ?_
      refine ax_iload_n hX dL_law_524 rfl ?_
      refine ax_iconst hX dL_law_525 (v := 2) (by decide) ?_
      refine ax_iadd hX dL_law_526 ?_
      refine tx_sal hX hyp.1 dL_law_527 ?_
      replace hyp := hyp.2
      refine ax_aload_n hX dL_law_528 (Or.inr ⟨_, rfl⟩) rfl ?_
      refine ax_iload_n hX dL_law_529 rfl ?_
      refine ax_iconst hX dL_law_530 (v := 3) (by decide) ?_
      refine ax_iadd hX dL_law_531 ?_
      refine tx_sal hX hyp.1 dL_law_532 ?_
      replace hyp := hyp.2
      obtain ⟨Q1, hK, hyp⟩ := hyp
      refine ax_callV hX lRL_57 im_X10_way sl_X10_way cw_X10_way ((th_at (by decide) (Nat.lt_of_lt_of_le (by decide) hsz)).trans (tc_ob ly_2)) rfl rfl (A := [.int (T.1 0 (v3 + (1 : Int32)).toNatClampNeg), .int (T.1 0 (v3 + (2 : Int32)).toNatClampNeg), .int (T.1 0 (v3 + (3 : Int32)).toNatClampNeg)]) (st := []) rfl rfl (Nat.le_of_ble_eq_true rfl) hk hn dL_law_533 hK ?_
      rintro _ _ ⟨r19, T19, rfl, rfl, hq⟩
      replace hyp := hyp r19 T19 hq
      refine ax_aload_n hX dL_law_536 (Or.inr ⟨_, rfl⟩) rfl ?_
      refine ax_aload_n hX dL_law_537 (Or.inr ⟨_, rfl⟩) rfl ?_
      refine ax_iload_n hX dL_law_538 rfl ?_
      refine ax_iconst hX dL_law_539 (v := 1) (by decide) ?_
      refine ax_iadd hX dL_law_540 ?_
      refine tx_sal hX hyp.1 dL_law_541 ?_
      replace hyp := hyp.2
      refine ax_aload_n hX dL_law_542 (Or.inr ⟨_, rfl⟩) rfl ?_
      refine ax_iload_n hX dL_law_543 rfl ?_
      refine ax_iconst hX dL_law_544 (v := 2) (by decide) ?_
      refine ax_iadd hX dL_law_545 ?_
      refine tx_sal hX hyp.1 dL_law_546 ?_
      replace hyp := hyp.2
      refine ax_aload_n hX dL_law_547 (Or.inr ⟨_, rfl⟩) rfl ?_
      refine ax_iload_n hX dL_law_548 rfl ?_
      refine ax_iconst hX dL_law_549 (v := 3) (by decide) ?_
      refine ax_iadd hX dL_law_550 ?_
      refine tx_sal hX hyp.1 dL_law_551 ?_
      replace hyp := hyp.2
      obtain ⟨Q1, hK, hyp⟩ := hyp
      refine ax_callV hX lRL_61 im_X11_way sl_X11_way cw_X11_way ((th_at (by decide) (Nat.lt_of_lt_of_le (by decide) hsz)).trans (tc_ob ly_105)) rfl rfl (A := [.int (T19.1 0 (v3 + (1 : Int32)).toNatClampNeg), .int (T19.1 0 (v3 + (2 : Int32)).toNatClampNeg), .int (T19.1 0 (v3 + (3 : Int32)).toNatClampNeg)]) (st := [.int r19]) rfl rfl (Nat.le_of_ble_eq_true rfl) hk hn dL_law_552 hK ?_
      rintro _ _ ⟨r20, T20, rfl, rfl, hq⟩
      replace hyp := hyp r20 T20 hq
      refine ax_icmp_eq hX dL_law_555 (tgt := 1160) (by decide) (fun c => ?_) (fun c => ?_)
      · replace hyp := hyp.1 c
        refine ax_iinc hX dL_law_1160 rfl (w := (v3 + (7 : Int32))) rfl (by decide) (L' := [some (.ref 0), some (.ref 2), some (.ref 105), some (.int (v3 + (7 : Int32)))]) rfl ?_
        refine ax_goto hX dL_law_1163 (tgt := 18) (by decide) ?_
        exact ax_forget (L' := [some (.ref 0), some (.ref 2), some (.ref 105), some (.int (v3 + (7 : Int32)))]) (⟨rfl, ⟨rfl, ⟨rfl, ⟨rfl, trivial⟩⟩⟩⟩) hyp
      · replace hyp := hyp.2 c
        refine ax_iconst hX dL_law_558 (v := 0) (by decide) ?_
        exact hyp.elim
    by_cases q10 : ((T.1 0 (v3.toNatClampNeg)) &&& (31 : Int32)) = 10
    · replace hyp := hyp.2.2.2.2.2.2.2.2.2.2.1 q10
      refine ax_tableIn hX dL_law_33 (by rw [q10]; decide) (by rw [q10]; decide) (off := 527) (by rw [q10]; rfl) (tgt := 560) (by decide) ?_
      refine ax_aload_n hX dL_law_560 (Or.inr ⟨_, rfl⟩) rfl ?_
      refine ax_aload_n hX dL_law_561 (Or.inr ⟨_, rfl⟩) rfl ?_
      refine ax_iload_n hX dL_law_562 rfl ?_
      refine ax_iconst hX dL_law_563 (v := 1) (by decide) ?_
      refine ax_iadd hX dL_law_564 ?_
      refine tx_sal hX hyp.1 dL_law_565 ?_
      replace hyp := hyp.2
      refine ax_aload_n hX dL_law_566 (Or.inr ⟨_, rfl⟩) rfl ?_
      refine ax_iload_n hX dL_law_567 rfl ?_
      refine ax_iconst hX dL_law_568 (v := 2) (by decide) ?_
      refine ax_iadd hX dL_law_569 ?_
      refine tx_sal hX hyp.1 dL_law_570 ?_
      replace hyp := hyp.2
      obtain ⟨Q1, hK, hyp⟩ := hyp
      refine ax_callV hX lRL_62 im_X10_examiner sl_X10_examiner cw_X10_examiner ((th_at (by decide) (Nat.lt_of_lt_of_le (by decide) hsz)).trans (tc_ob ly_2)) rfl rfl (A := [.int (T.1 0 (v3 + (1 : Int32)).toNatClampNeg), .int (T.1 0 (v3 + (2 : Int32)).toNatClampNeg)]) (st := []) rfl rfl (Nat.le_of_ble_eq_true rfl) hk hn dL_law_571 hK ?_
      rintro _ _ ⟨r21, T21, rfl, rfl, hq⟩
      replace hyp := hyp r21 T21 hq
      refine ax_aload_n hX dL_law_574 (Or.inr ⟨_, rfl⟩) rfl ?_
      refine ax_aload_n hX dL_law_575 (Or.inr ⟨_, rfl⟩) rfl ?_
      refine ax_iload_n hX dL_law_576 rfl ?_
      refine ax_iconst hX dL_law_577 (v := 1) (by decide) ?_
      refine ax_iadd hX dL_law_578 ?_
      refine tx_sal hX hyp.1 dL_law_579 ?_
      replace hyp := hyp.2
      refine ax_aload_n hX dL_law_580 (Or.inr ⟨_, rfl⟩) rfl ?_
      refine ax_iload_n hX dL_law_581 rfl ?_
      refine ax_iconst hX dL_law_582 (v := 2) (by decide) ?_
      refine ax_iadd hX dL_law_583 ?_
      refine tx_sal hX hyp.1 dL_law_584 ?_
      replace hyp := hyp.2
      obtain ⟨Q1, hK, hyp⟩ := hyp
      refine ax_callV hX lRL_66 im_X11_examiner sl_X11_examiner cw_X11_examiner ((th_at (by decide) (Nat.lt_of_lt_of_le (by decide) hsz)).trans (tc_ob ly_105)) rfl rfl (A := [.int (T21.1 0 (v3 + (1 : Int32)).toNatClampNeg), .int (T21.1 0 (v3 + (2 : Int32)).toNatClampNeg)]) (st := [.int r21]) rfl rfl (Nat.le_of_ble_eq_true rfl) hk hn dL_law_585 hK ?_
      rintro _ _ ⟨r22, T22, rfl, rfl, hq⟩
      replace hyp := hyp r22 T22 hq
      refine ax_icmp_eq hX dL_law_588 (tgt := 1160) (by decide) (fun c => ?_) (fun c => ?_)
      · replace hyp := hyp.1 c
        refine ax_iinc hX dL_law_1160 rfl (w := (v3 + (7 : Int32))) rfl (by decide) (L' := [some (.ref 0), some (.ref 2), some (.ref 105), some (.int (v3 + (7 : Int32)))]) rfl ?_
        refine ax_goto hX dL_law_1163 (tgt := 18) (by decide) ?_
        exact ax_forget (L' := [some (.ref 0), some (.ref 2), some (.ref 105), some (.int (v3 + (7 : Int32)))]) (⟨rfl, ⟨rfl, ⟨rfl, ⟨rfl, trivial⟩⟩⟩⟩) hyp
      · replace hyp := hyp.2 c
        refine ax_iconst hX dL_law_591 (v := 0) (by decide) ?_
        exact hyp.elim
    by_cases q11 : ((T.1 0 (v3.toNatClampNeg)) &&& (31 : Int32)) = 11
    · replace hyp := hyp.2.2.2.2.2.2.2.2.2.2.2.1 q11
      refine ax_tableIn hX dL_law_33 (by rw [q11]; decide) (by rw [q11]; decide) (off := 560) (by rw [q11]; rfl) (tgt := 593) (by decide) ?_
      refine ax_aload_n hX dL_law_593 (Or.inr ⟨_, rfl⟩) rfl ?_
      refine ax_aload_n hX dL_law_594 (Or.inr ⟨_, rfl⟩) rfl ?_
      refine ax_iload_n hX dL_law_595 rfl ?_
      refine ax_iconst hX dL_law_596 (v := 1) (by decide) ?_
      refine ax_iadd hX dL_law_597 ?_
      refine tx_sal hX hyp.1 dL_law_598 ?_
      replace hyp := hyp.2
      refine ax_aload_n hX dL_law_599 (Or.inr ⟨_, rfl⟩) rfl ?_
      refine ax_iload_n hX dL_law_600 rfl ?_
      refine ax_iconst hX dL_law_601 (v := 2) (by decide) ?_
      refine ax_iadd hX dL_law_602 ?_
      refine tx_sal hX hyp.1 dL_law_603 ?_
      replace hyp := hyp.2
      obtain ⟨Q1, hK, hyp⟩ := hyp
      refine ax_callV hX lRL_67 im_X10_session sl_X10_session cw_X10_session ((th_at (by decide) (Nat.lt_of_lt_of_le (by decide) hsz)).trans (tc_ob ly_2)) rfl rfl (A := [.int (T.1 0 (v3 + (1 : Int32)).toNatClampNeg), .int (T.1 0 (v3 + (2 : Int32)).toNatClampNeg)]) (st := []) rfl rfl (Nat.le_of_ble_eq_true rfl) hk hn dL_law_604 hK ?_
      rintro _ _ ⟨r23, T23, rfl, rfl, hq⟩
      replace hyp := hyp r23 T23 hq
      refine ax_aload_n hX dL_law_607 (Or.inr ⟨_, rfl⟩) rfl ?_
      refine ax_aload_n hX dL_law_608 (Or.inr ⟨_, rfl⟩) rfl ?_
      refine ax_iload_n hX dL_law_609 rfl ?_
      refine ax_iconst hX dL_law_610 (v := 1) (by decide) ?_
      refine ax_iadd hX dL_law_611 ?_
      refine tx_sal hX hyp.1 dL_law_612 ?_
      replace hyp := hyp.2
      refine ax_aload_n hX dL_law_613 (Or.inr ⟨_, rfl⟩) rfl ?_
      refine ax_iload_n hX dL_law_614 rfl ?_
      refine ax_iconst hX dL_law_615 (v := 2) (by decide) ?_
      refine ax_iadd hX dL_law_616 ?_
      refine tx_sal hX hyp.1 dL_law_617 ?_
      replace hyp := hyp.2
      obtain ⟨Q1, hK, hyp⟩ := hyp
      refine ax_callV hX lRL_70 im_X11_session sl_X11_session cw_X11_session ((th_at (by decide) (Nat.lt_of_lt_of_le (by decide) hsz)).trans (tc_ob ly_105)) rfl rfl (A := [.int (T23.1 0 (v3 + (1 : Int32)).toNatClampNeg), .int (T23.1 0 (v3 + (2 : Int32)).toNatClampNeg)]) (st := [.int r23]) rfl rfl (Nat.le_of_ble_eq_true rfl) hk hn dL_law_618 hK ?_
      rintro _ _ ⟨r24, T24, rfl, rfl, hq⟩
      replace hyp := hyp r24 T24 hq
      refine ax_icmp_eq hX dL_law_621 (tgt := 1160) (by decide) (fun c => ?_) (fun c => ?_)
      · replace hyp := hyp.1 c
        refine ax_iinc hX dL_law_1160 rfl (w := (v3 + (7 : Int32))) rfl (by decide) (L' := [some (.ref 0), some (.ref 2), some (.ref 105), some (.int (v3 + (7 : Int32)))]) rfl ?_
        refine ax_goto hX dL_law_1163 (tgt := 18) (by decide) ?_
        exact ax_forget (L' := [some (.ref 0), some (.ref 2), some (.ref 105), some (.int (v3 + (7 : Int32)))]) (⟨rfl, ⟨rfl, ⟨rfl, ⟨rfl, trivial⟩⟩⟩⟩) hyp
      · replace hyp := hyp.2 c
        refine ax_iconst hX dL_law_624 (v := 0) (by decide) ?_
        exact hyp.elim
    by_cases q12 : ((T.1 0 (v3.toNatClampNeg)) &&& (31 : Int32)) = 12
    · replace hyp := hyp.2.2.2.2.2.2.2.2.2.2.2.2.1 q12
      refine ax_tableIn hX dL_law_33 (by rw [q12]; decide) (by rw [q12]; decide) (off := 593) (by rw [q12]; rfl) (tgt := 626) (by decide) ?_
      refine ax_aload_n hX dL_law_626 (Or.inr ⟨_, rfl⟩) rfl ?_
      refine ax_aload_n hX dL_law_627 (Or.inr ⟨_, rfl⟩) rfl ?_
      refine ax_iload_n hX dL_law_628 rfl ?_
      refine ax_iconst hX dL_law_629 (v := 1) (by decide) ?_
      refine ax_iadd hX dL_law_630 ?_
      refine tx_sal hX hyp.1 dL_law_631 ?_
      replace hyp := hyp.2
      refine ax_aload_n hX dL_law_632 (Or.inr ⟨_, rfl⟩) rfl ?_
      refine ax_iload_n hX dL_law_633 rfl ?_
      refine ax_iconst hX dL_law_634 (v := 2) (by decide) ?_
      refine ax_iadd hX dL_law_635 ?_
      refine tx_sal hX hyp.1 dL_law_636 ?_
      replace hyp := hyp.2
      obtain ⟨Q1, hK, hyp⟩ := hyp
      refine ax_callV hX lRL_71 im_X10_put sl_X10_put cw_X10_put ((th_at (by decide) (Nat.lt_of_lt_of_le (by decide) hsz)).trans (tc_ob ly_2)) rfl rfl (A := [.int (T.1 0 (v3 + (1 : Int32)).toNatClampNeg), .int (T.1 0 (v3 + (2 : Int32)).toNatClampNeg)]) (st := []) rfl rfl (Nat.le_of_ble_eq_true rfl) hk hn dL_law_637 hK ?_
      rintro _ _ ⟨r25, T25, rfl, rfl, hq⟩
      replace hyp := hyp r25 T25 hq
      refine ax_aload_n hX dL_law_640 (Or.inr ⟨_, rfl⟩) rfl ?_
      refine ax_aload_n hX dL_law_641 (Or.inr ⟨_, rfl⟩) rfl ?_
      refine ax_iload_n hX dL_law_642 rfl ?_
      refine ax_iconst hX dL_law_643 (v := 1) (by decide) ?_
      refine ax_iadd hX dL_law_644 ?_
      refine tx_sal hX hyp.1 dL_law_645 ?_
      replace hyp := hyp.2
      refine ax_aload_n hX dL_law_646 (Or.inr ⟨_, rfl⟩) rfl ?_
      refine ax_iload_n hX dL_law_647 rfl ?_
      refine ax_iconst hX dL_law_648 (v := 2) (by decide) ?_
      refine ax_iadd hX dL_law_649 ?_
      refine tx_sal hX hyp.1 dL_law_650 ?_
      replace hyp := hyp.2
      obtain ⟨Q1, hK, hyp⟩ := hyp
      refine ax_callV hX lRL_75 im_X11_put sl_X11_put cw_X11_put ((th_at (by decide) (Nat.lt_of_lt_of_le (by decide) hsz)).trans (tc_ob ly_105)) rfl rfl (A := [.int (T25.1 0 (v3 + (1 : Int32)).toNatClampNeg), .int (T25.1 0 (v3 + (2 : Int32)).toNatClampNeg)]) (st := [.int r25]) rfl rfl (Nat.le_of_ble_eq_true rfl) hk hn dL_law_651 hK ?_
      rintro _ _ ⟨r26, T26, rfl, rfl, hq⟩
      replace hyp := hyp r26 T26 hq
      refine ax_icmp_eq hX dL_law_654 (tgt := 1160) (by decide) (fun c => ?_) (fun c => ?_)
      · replace hyp := hyp.1 c
        refine ax_iinc hX dL_law_1160 rfl (w := (v3 + (7 : Int32))) rfl (by decide) (L' := [some (.ref 0), some (.ref 2), some (.ref 105), some (.int (v3 + (7 : Int32)))]) rfl ?_
        refine ax_goto hX dL_law_1163 (tgt := 18) (by decide) ?_
        exact ax_forget (L' := [some (.ref 0), some (.ref 2), some (.ref 105), some (.int (v3 + (7 : Int32)))]) (⟨rfl, ⟨rfl, ⟨rfl, ⟨rfl, trivial⟩⟩⟩⟩) hyp
      · replace hyp := hyp.2 c
        refine ax_iconst hX dL_law_657 (v := 0) (by decide) ?_
        exact hyp.elim
    by_cases q13 : ((T.1 0 (v3.toNatClampNeg)) &&& (31 : Int32)) = 13
    · replace hyp := hyp.2.2.2.2.2.2.2.2.2.2.2.2.2.1 q13
      refine ax_tableIn hX dL_law_33 (by rw [q13]; decide) (by rw [q13]; decide) (off := 626) (by rw [q13]; rfl) (tgt := 659) (by decide) ?_
      refine ax_aload_n hX dL_law_659 (Or.inr ⟨_, rfl⟩) rfl ?_
      refine ax_aload_n hX dL_law_660 (Or.inr ⟨_, rfl⟩) rfl ?_
      refine ax_iload_n hX dL_law_661 rfl ?_
      refine ax_iconst hX dL_law_662 (v := 1) (by decide) ?_
      refine ax_iadd hX dL_law_663 ?_
      refine tx_sal hX hyp.1 dL_law_664 ?_
      replace hyp := hyp.2
      refine ax_aload_n hX dL_law_665 (Or.inr ⟨_, rfl⟩) rfl ?_
      refine ax_iload_n hX dL_law_666 rfl ?_
      refine ax_iconst hX dL_law_667 (v := 2) (by decide) ?_
      refine ax_iadd hX dL_law_668 ?_
      refine tx_sal hX hyp.1 dL_law_669 ?_
      replace hyp := hyp.2
      obtain ⟨Q1, hK, hyp⟩ := hyp
      refine ax_callV hX lRL_76 im_X10_of sl_X10_of cw_X10_of ((th_at (by decide) (Nat.lt_of_lt_of_le (by decide) hsz)).trans (tc_ob ly_2)) rfl rfl (A := [.int (T.1 0 (v3 + (1 : Int32)).toNatClampNeg), .int (T.1 0 (v3 + (2 : Int32)).toNatClampNeg)]) (st := []) rfl rfl (Nat.le_of_ble_eq_true rfl) hk hn dL_law_670 hK ?_
      rintro _ _ ⟨r27, T27, rfl, rfl, hq⟩
      replace hyp := hyp r27 T27 hq
      refine ax_aload_n hX dL_law_673 (Or.inr ⟨_, rfl⟩) rfl ?_
      refine ax_aload_n hX dL_law_674 (Or.inr ⟨_, rfl⟩) rfl ?_
      refine ax_iload_n hX dL_law_675 rfl ?_
      refine ax_iconst hX dL_law_676 (v := 1) (by decide) ?_
      refine ax_iadd hX dL_law_677 ?_
      refine tx_sal hX hyp.1 dL_law_678 ?_
      replace hyp := hyp.2
      refine ax_aload_n hX dL_law_679 (Or.inr ⟨_, rfl⟩) rfl ?_
      refine ax_iload_n hX dL_law_680 rfl ?_
      refine ax_iconst hX dL_law_681 (v := 2) (by decide) ?_
      refine ax_iadd hX dL_law_682 ?_
      refine tx_sal hX hyp.1 dL_law_683 ?_
      replace hyp := hyp.2
      obtain ⟨Q1, hK, hyp⟩ := hyp
      refine ax_callV hX lRL_79 im_X11_of sl_X11_of cw_X11_of ((th_at (by decide) (Nat.lt_of_lt_of_le (by decide) hsz)).trans (tc_ob ly_105)) rfl rfl (A := [.int (T27.1 0 (v3 + (1 : Int32)).toNatClampNeg), .int (T27.1 0 (v3 + (2 : Int32)).toNatClampNeg)]) (st := [.int r27]) rfl rfl (Nat.le_of_ble_eq_true rfl) hk hn dL_law_684 hK ?_
      rintro _ _ ⟨r28, T28, rfl, rfl, hq⟩
      replace hyp := hyp r28 T28 hq
      refine ax_icmp_eq hX dL_law_687 (tgt := 1160) (by decide) (fun c => ?_) (fun c => ?_)
      · replace hyp := hyp.1 c
        refine ax_iinc hX dL_law_1160 rfl (w := (v3 + (7 : Int32))) rfl (by decide) (L' := [some (.ref 0), some (.ref 2), some (.ref 105), some (.int (v3 + (7 : Int32)))]) rfl ?_
        refine ax_goto hX dL_law_1163 (tgt := 18) (by decide) ?_
        exact ax_forget (L' := [some (.ref 0), some (.ref 2), some (.ref 105), some (.int (v3 + (7 : Int32)))]) (⟨rfl, ⟨rfl, ⟨rfl, ⟨rfl, trivial⟩⟩⟩⟩) hyp
      · replace hyp := hyp.2 c
        refine ax_iconst hX dL_law_690 (v := 0) (by decide) ?_
        exact hyp.elim
    by_cases q14 : ((T.1 0 (v3.toNatClampNeg)) &&& (31 : Int32)) = 14
    · replace hyp := hyp.2.2.2.2.2.2.2.2.2.2.2.2.2.2.1 q14
      refine ax_tableIn hX dL_law_33 (by rw [q14]; decide) (by rw [q14]; decide) (off := 659) (by rw [q14]; rfl) (tgt := 692) (by decide) ?_
      refine ax_aload_n hX dL_law_692 (Or.inr ⟨_, rfl⟩) rfl ?_
      refine ax_aload_n hX dL_law_693 (Or.inr ⟨_, rfl⟩) rfl ?_
      refine ax_iload_n hX dL_law_694 rfl ?_
      refine ax_iconst hX dL_law_695 (v := 1) (by decide) ?_
      refine ax_iadd hX dL_law_696 ?_
      refine tx_sal hX hyp.1 dL_law_697 ?_
      replace hyp := hyp.2
      refine ax_aload_n hX dL_law_698 (Or.inr ⟨_, rfl⟩) rfl ?_
      refine ax_iload_n hX dL_law_699 rfl ?_
      refine ax_iconst hX dL_law_700 (v := 2) (by decide) ?_
      refine ax_iadd hX dL_law_701 ?_
      refine tx_sal hX hyp.1 dL_law_702 ?_
      replace hyp := hyp.2
      obtain ⟨Q1, hK, hyp⟩ := hyp
      refine ax_callV hX lRL_80 im_X10_may sl_X10_may cw_X10_may ((th_at (by decide) (Nat.lt_of_lt_of_le (by decide) hsz)).trans (tc_ob ly_2)) rfl rfl (A := [.int (T.1 0 (v3 + (1 : Int32)).toNatClampNeg), .int (T.1 0 (v3 + (2 : Int32)).toNatClampNeg)]) (st := []) rfl rfl (Nat.le_of_ble_eq_true rfl) hk hn dL_law_703 hK ?_
      rintro _ _ ⟨r29, T29, rfl, rfl, hq⟩
      replace hyp := hyp r29 T29 hq
      refine ax_aload_n hX dL_law_706 (Or.inr ⟨_, rfl⟩) rfl ?_
      refine ax_aload_n hX dL_law_707 (Or.inr ⟨_, rfl⟩) rfl ?_
      refine ax_iload_n hX dL_law_708 rfl ?_
      refine ax_iconst hX dL_law_709 (v := 1) (by decide) ?_
      refine ax_iadd hX dL_law_710 ?_
      refine tx_sal hX hyp.1 dL_law_711 ?_
      replace hyp := hyp.2
      refine ax_aload_n hX dL_law_712 (Or.inr ⟨_, rfl⟩) rfl ?_
      refine ax_iload_n hX dL_law_713 rfl ?_
      refine ax_iconst hX dL_law_714 (v := 2) (by decide) ?_
      refine ax_iadd hX dL_law_715 ?_
      refine tx_sal hX hyp.1 dL_law_716 ?_
      replace hyp := hyp.2
      obtain ⟨Q1, hK, hyp⟩ := hyp
      refine ax_callV hX lRL_83 im_X11_may sl_X11_may cw_X11_may ((th_at (by decide) (Nat.lt_of_lt_of_le (by decide) hsz)).trans (tc_ob ly_105)) rfl rfl (A := [.int (T29.1 0 (v3 + (1 : Int32)).toNatClampNeg), .int (T29.1 0 (v3 + (2 : Int32)).toNatClampNeg)]) (st := [.int r29]) rfl rfl (Nat.le_of_ble_eq_true rfl) hk hn dL_law_717 hK ?_
      rintro _ _ ⟨r30, T30, rfl, rfl, hq⟩
      replace hyp := hyp r30 T30 hq
      refine ax_icmp_eq hX dL_law_720 (tgt := 1160) (by decide) (fun c => ?_) (fun c => ?_)
      · replace hyp := hyp.1 c
        refine ax_iinc hX dL_law_1160 rfl (w := (v3 + (7 : Int32))) rfl (by decide) (L' := [some (.ref 0), some (.ref 2), some (.ref 105), some (.int (v3 + (7 : Int32)))]) rfl ?_
        refine ax_goto hX dL_law_1163 (tgt := 18) (by decide) ?_
        exact ax_forget (L' := [some (.ref 0), some (.ref 2), some (.ref 105), some (.int (v3 + (7 : Int32)))]) (⟨rfl, ⟨rfl, ⟨rfl, ⟨rfl, trivial⟩⟩⟩⟩) hyp
      · replace hyp := hyp.2 c
        refine ax_iconst hX dL_law_723 (v := 0) (by decide) ?_
        exact hyp.elim
    by_cases q15 : ((T.1 0 (v3.toNatClampNeg)) &&& (31 : Int32)) = 15
    · replace hyp := hyp.2.2.2.2.2.2.2.2.2.2.2.2.2.2.2.1 q15
      refine ax_tableIn hX dL_law_33 (by rw [q15]; decide) (by rw [q15]; decide) (off := 692) (by rw [q15]; rfl) (tgt := 725) (by decide) ?_
      refine ax_aload_n hX dL_law_725 (Or.inr ⟨_, rfl⟩) rfl ?_
      obtain ⟨Q1, hK, hyp⟩ := hyp
      refine ax_callV hX lRL_84 im_X10_tour sl_X10_tour cw_X10_tour ((th_at (by decide) (Nat.lt_of_lt_of_le (by decide) hsz)).trans (tc_ob ly_2)) rfl rfl (A := []) (st := []) rfl rfl (Nat.le_of_ble_eq_true rfl) hk hn dL_law_726 hK ?_
      rintro _ _ ⟨r31, T31, rfl, rfl, hq⟩
      replace hyp := hyp r31 T31 hq
      refine ax_aload_n hX dL_law_729 (Or.inr ⟨_, rfl⟩) rfl ?_
      obtain ⟨Q1, hK, hyp⟩ := hyp
      refine ax_callV hX lRL_87 im_X11_tour sl_X11_tour cw_X11_tour ((th_at (by decide) (Nat.lt_of_lt_of_le (by decide) hsz)).trans (tc_ob ly_105)) rfl rfl (A := []) (st := [.int r31]) rfl rfl (Nat.le_of_ble_eq_true rfl) hk hn dL_law_730 hK ?_
      rintro _ _ ⟨r32, T32, rfl, rfl, hq⟩
      replace hyp := hyp r32 T32 hq
      refine ax_icmp_eq hX dL_law_733 (tgt := 1160) (by decide) (fun c => ?_) (fun c => ?_)
      · replace hyp := hyp.1 c
        refine ax_iinc hX dL_law_1160 rfl (w := (v3 + (7 : Int32))) rfl (by decide) (L' := [some (.ref 0), some (.ref 2), some (.ref 105), some (.int (v3 + (7 : Int32)))]) rfl ?_
        refine ax_goto hX dL_law_1163 (tgt := 18) (by decide) ?_
        exact ax_forget (L' := [some (.ref 0), some (.ref 2), some (.ref 105), some (.int (v3 + (7 : Int32)))]) (⟨rfl, ⟨rfl, ⟨rfl, ⟨rfl, trivial⟩⟩⟩⟩) hyp
      · replace hyp := hyp.2 c
        refine ax_iconst hX dL_law_736 (v := 0) (by decide) ?_
        exact hyp.elim
    by_cases q16 : ((T.1 0 (v3.toNatClampNeg)) &&& (31 : Int32)) = 16
    · replace hyp := hyp.2.2.2.2.2.2.2.2.2.2.2.2.2.2.2.2.1 q16
      refine ax_tableIn hX dL_law_33 (by rw [q16]; decide) (by rw [q16]; decide) (off := 705) (by rw [q16]; rfl) (tgt := 738) (by decide) ?_
      refine ax_aload_n hX dL_law_738 (Or.inr ⟨_, rfl⟩) rfl ?_
      refine ax_aload_n hX dL_law_739 (Or.inr ⟨_, rfl⟩) rfl ?_
      refine ax_iload_n hX dL_law_740 rfl ?_
      refine ax_iconst hX dL_law_741 (v := 1) (by decide) ?_
      refine ax_iadd hX dL_law_742 ?_
      refine tx_sal hX hyp.1 dL_law_743 ?_
      replace hyp := hyp.2
      obtain ⟨Q1, hK, hyp⟩ := hyp
      refine ax_callV hX lRL_88 im_X10_toured sl_X10_toured cw_X10_toured ((th_at (by decide) (Nat.lt_of_lt_of_le (by decide) hsz)).trans (tc_ob ly_2)) rfl rfl (A := [.int (T.1 0 (v3 + (1 : Int32)).toNatClampNeg)]) (st := []) rfl rfl (Nat.le_of_ble_eq_true rfl) hk hn dL_law_744 hK ?_
      rintro _ _ ⟨r33, T33, rfl, rfl, hq⟩
      replace hyp := hyp r33 T33 hq
      refine ax_aload_n hX dL_law_747 (Or.inr ⟨_, rfl⟩) rfl ?_
      refine ax_aload_n hX dL_law_748 (Or.inr ⟨_, rfl⟩) rfl ?_
      refine ax_iload_n hX dL_law_749 rfl ?_
      refine ax_iconst hX dL_law_750 (v := 1) (by decide) ?_
      refine ax_iadd hX dL_law_751 ?_
      refine tx_sal hX hyp.1 dL_law_752 ?_
      replace hyp := hyp.2
      obtain ⟨Q1, hK, hyp⟩ := hyp
      refine ax_callV hX lRL_91 im_X11_toured sl_X11_toured cw_X11_toured ((th_at (by decide) (Nat.lt_of_lt_of_le (by decide) hsz)).trans (tc_ob ly_105)) rfl rfl (A := [.int (T33.1 0 (v3 + (1 : Int32)).toNatClampNeg)]) (st := [.int r33]) rfl rfl (Nat.le_of_ble_eq_true rfl) hk hn dL_law_753 hK ?_
      rintro _ _ ⟨r34, T34, rfl, rfl, hq⟩
      replace hyp := hyp r34 T34 hq
      refine ax_icmp_eq hX dL_law_756 (tgt := 1160) (by decide) (fun c => ?_) (fun c => ?_)
      · replace hyp := hyp.1 c
        refine ax_iinc hX dL_law_1160 rfl (w := (v3 + (7 : Int32))) rfl (by decide) (L' := [some (.ref 0), some (.ref 2), some (.ref 105), some (.int (v3 + (7 : Int32)))]) rfl ?_
        refine ax_goto hX dL_law_1163 (tgt := 18) (by decide) ?_
        exact ax_forget (L' := [some (.ref 0), some (.ref 2), some (.ref 105), some (.int (v3 + (7 : Int32)))]) (⟨rfl, ⟨rfl, ⟨rfl, ⟨rfl, trivial⟩⟩⟩⟩) hyp
      · replace hyp := hyp.2 c
        refine ax_iconst hX dL_law_759 (v := 0) (by decide) ?_
        exact hyp.elim
    by_cases q17 : ((T.1 0 (v3.toNatClampNeg)) &&& (31 : Int32)) = 17
    · replace hyp := hyp.2.2.2.2.2.2.2.2.2.2.2.2.2.2.2.2.2.1 q17
      refine ax_tableIn hX dL_law_33 (by rw [q17]; decide) (by rw [q17]; decide) (off := 728) (by rw [q17]; rfl) (tgt := 761) (by decide) ?_
      refine ax_aload_n hX dL_law_761 (Or.inr ⟨_, rfl⟩) rfl ?_
      obtain ⟨Q1, hK, hyp⟩ := hyp
      refine ax_callV hX lRL_92 im_X10_stuck sl_X10_stuck cw_X10_stuck ((th_at (by decide) (Nat.lt_of_lt_of_le (by decide) hsz)).trans (tc_ob ly_2)) rfl rfl (A := []) (st := []) rfl rfl (Nat.le_of_ble_eq_true rfl) hk hn dL_law_762 hK ?_
      rintro _ _ ⟨r35, T35, rfl, rfl, hq⟩
      replace hyp := hyp r35 T35 hq
      refine ax_aload_n hX dL_law_765 (Or.inr ⟨_, rfl⟩) rfl ?_
      obtain ⟨Q1, hK, hyp⟩ := hyp
      refine ax_callV hX lRL_95 im_X11_stuck sl_X11_stuck cw_X11_stuck ((th_at (by decide) (Nat.lt_of_lt_of_le (by decide) hsz)).trans (tc_ob ly_105)) rfl rfl (A := []) (st := [.int r35]) rfl rfl (Nat.le_of_ble_eq_true rfl) hk hn dL_law_766 hK ?_
      rintro _ _ ⟨r36, T36, rfl, rfl, hq⟩
      replace hyp := hyp r36 T36 hq
      refine ax_icmp_eq hX dL_law_769 (tgt := 1160) (by decide) (fun c => ?_) (fun c => ?_)
      · replace hyp := hyp.1 c
        refine ax_iinc hX dL_law_1160 rfl (w := (v3 + (7 : Int32))) rfl (by decide) (L' := [some (.ref 0), some (.ref 2), some (.ref 105), some (.int (v3 + (7 : Int32)))]) rfl ?_
        refine ax_goto hX dL_law_1163 (tgt := 18) (by decide) ?_
        exact ax_forget (L' := [some (.ref 0), some (.ref 2), some (.ref 105), some (.int (v3 + (7 : Int32)))]) (⟨rfl, ⟨rfl, ⟨rfl, ⟨rfl, trivial⟩⟩⟩⟩) hyp
      · replace hyp := hyp.2 c
        refine ax_iconst hX dL_law_772 (v := 0) (by decide) ?_
        exact hyp.elim
    by_cases q18 : ((T.1 0 (v3.toNatClampNeg)) &&& (31 : Int32)) = 18
    · replace hyp := hyp.2.2.2.2.2.2.2.2.2.2.2.2.2.2.2.2.2.2.1 q18
      refine ax_tableIn hX dL_law_33 (by rw [q18]; decide) (by rw [q18]; decide) (off := 741) (by rw [q18]; rfl) (tgt := 774) (by decide) ?_
      refine ax_aload_n hX dL_law_774 (Or.inr ⟨_, rfl⟩) rfl ?_
      refine ax_aload_n hX dL_law_775 (Or.inr ⟨_, rfl⟩) rfl ?_
      refine ax_iload_n hX dL_law_776 rfl ?_
      refine ax_iconst hX dL_law_777 (v := 1) (by decide) ?_
      refine ax_iadd hX dL_law_778 ?_
      refine tx_sal hX hyp.1 dL_law_779 ?_
      replace hyp := hyp.2
      obtain ⟨Q1, hK, hyp⟩ := hyp
      refine ax_callV hX lRL_96 im_X10_later sl_X10_later cw_X10_later ((th_at (by decide) (Nat.lt_of_lt_of_le (by decide) hsz)).trans (tc_ob ly_2)) rfl rfl (A := [.int (T.1 0 (v3 + (1 : Int32)).toNatClampNeg)]) (st := []) rfl rfl (Nat.le_of_ble_eq_true rfl) hk hn dL_law_780 hK ?_
      rintro _ _ ⟨r37, T37, rfl, rfl, hq⟩
      replace hyp := hyp r37 T37 hq
      refine ax_aload_n hX dL_law_783 (Or.inr ⟨_, rfl⟩) rfl ?_
      refine ax_aload_n hX dL_law_784 (Or.inr ⟨_, rfl⟩) rfl ?_
      refine ax_iload_n hX dL_law_785 rfl ?_
      refine ax_iconst hX dL_law_786 (v := 1) (by decide) ?_
      refine ax_iadd hX dL_law_787 ?_
      refine tx_sal hX hyp.1 dL_law_788 ?_
      replace hyp := hyp.2
      obtain ⟨Q1, hK, hyp⟩ := hyp
      refine ax_callV hX lRL_99 im_X11_later sl_X11_later cw_X11_later ((th_at (by decide) (Nat.lt_of_lt_of_le (by decide) hsz)).trans (tc_ob ly_105)) rfl rfl (A := [.int (T37.1 0 (v3 + (1 : Int32)).toNatClampNeg)]) (st := [.int r37]) rfl rfl (Nat.le_of_ble_eq_true rfl) hk hn dL_law_789 hK ?_
      rintro _ _ ⟨r38, T38, rfl, rfl, hq⟩
      replace hyp := hyp r38 T38 hq
      refine ax_icmp_eq hX dL_law_792 (tgt := 1160) (by decide) (fun c => ?_) (fun c => ?_)
      · replace hyp := hyp.1 c
        refine ax_iinc hX dL_law_1160 rfl (w := (v3 + (7 : Int32))) rfl (by decide) (L' := [some (.ref 0), some (.ref 2), some (.ref 105), some (.int (v3 + (7 : Int32)))]) rfl ?_
        refine ax_goto hX dL_law_1163 (tgt := 18) (by decide) ?_
        exact ax_forget (L' := [some (.ref 0), some (.ref 2), some (.ref 105), some (.int (v3 + (7 : Int32)))]) (⟨rfl, ⟨rfl, ⟨rfl, ⟨rfl, trivial⟩⟩⟩⟩) hyp
      · replace hyp := hyp.2 c
        refine ax_iconst hX dL_law_795 (v := 0) (by decide) ?_
        exact hyp.elim
    by_cases q19 : ((T.1 0 (v3.toNatClampNeg)) &&& (31 : Int32)) = 19
    · replace hyp := hyp.2.2.2.2.2.2.2.2.2.2.2.2.2.2.2.2.2.2.2.1 q19
      refine ax_tableIn hX dL_law_33 (by rw [q19]; decide) (by rw [q19]; decide) (off := 764) (by rw [q19]; rfl) (tgt := 797) (by decide) ?_
      refine ax_aload_n hX dL_law_797 (Or.inr ⟨_, rfl⟩) rfl ?_
      refine ax_aload_n hX dL_law_798 (Or.inr ⟨_, rfl⟩) rfl ?_
      refine ax_iload_n hX dL_law_799 rfl ?_
      refine ax_iconst hX dL_law_800 (v := 1) (by decide) ?_
      refine ax_iadd hX dL_law_801 ?_
      refine tx_sal hX hyp.1 dL_law_802 ?_
      replace hyp := hyp.2
      refine ax_aload_n hX dL_law_803 (Or.inr ⟨_, rfl⟩) rfl ?_
      refine ax_iload_n hX dL_law_804 rfl ?_
      refine ax_iconst hX dL_law_805 (v := 2) (by decide) ?_
      refine ax_iadd hX dL_law_806 ?_
      refine tx_sal hX hyp.1 dL_law_807 ?_
      replace hyp := hyp.2
      refine ax_aload_n hX dL_law_808 (Or.inr ⟨_, rfl⟩) rfl ?_
      refine ax_iload_n hX dL_law_809 rfl ?_
      refine ax_iconst hX dL_law_810 (v := 3) (by decide) ?_
      refine ax_iadd hX dL_law_811 ?_
      refine tx_sal hX hyp.1 dL_law_812 ?_
      replace hyp := hyp.2
      refine ax_aload_n hX dL_law_813 (Or.inr ⟨_, rfl⟩) rfl ?_
      refine ax_iload_n hX dL_law_814 rfl ?_
      refine ax_iconst hX dL_law_815 (v := 4) (by decide) ?_
      refine ax_iadd hX dL_law_816 ?_
      refine tx_sal hX hyp.1 dL_law_817 ?_
      replace hyp := hyp.2
      obtain ⟨Q1, hK, hyp⟩ := hyp
      refine ax_callV hX lRL_100 im_X10_mark sl_X10_mark cw_X10_mark ((th_at (by decide) (Nat.lt_of_lt_of_le (by decide) hsz)).trans (tc_ob ly_2)) rfl rfl (A := [.int (T.1 0 (v3 + (1 : Int32)).toNatClampNeg), .int (T.1 0 (v3 + (2 : Int32)).toNatClampNeg), .int (T.1 0 (v3 + (3 : Int32)).toNatClampNeg), .int (T.1 0 (v3 + (4 : Int32)).toNatClampNeg)]) (st := []) rfl rfl (Nat.le_of_ble_eq_true rfl) hk hn dL_law_818 hK ?_
      rintro _ _ ⟨r39, T39, rfl, rfl, hq⟩
      replace hyp := hyp r39 T39 hq
      refine ax_aload_n hX dL_law_821 (Or.inr ⟨_, rfl⟩) rfl ?_
      refine ax_aload_n hX dL_law_822 (Or.inr ⟨_, rfl⟩) rfl ?_
      refine ax_iload_n hX dL_law_823 rfl ?_
      refine ax_iconst hX dL_law_824 (v := 1) (by decide) ?_
      refine ax_iadd hX dL_law_825 ?_
      refine tx_sal hX hyp.1 dL_law_826 ?_
      replace hyp := hyp.2
      refine ax_aload_n hX dL_law_827 (Or.inr ⟨_, rfl⟩) rfl ?_
      refine ax_iload_n hX dL_law_828 rfl ?_
      refine ax_iconst hX dL_law_829 (v := 2) (by decide) ?_
      refine ax_iadd hX dL_law_830 ?_
      refine tx_sal hX hyp.1 dL_law_831 ?_
      replace hyp := hyp.2
      refine ax_aload_n hX dL_law_832 (Or.inr ⟨_, rfl⟩) rfl ?_
      refine ax_iload_n hX dL_law_833 rfl ?_
      refine ax_iconst hX dL_law_834 (v := 3) (by decide) ?_
      refine ax_iadd hX dL_law_835 ?_
      refine tx_sal hX hyp.1 dL_law_836 ?_
      replace hyp := hyp.2
      refine ax_aload_n hX dL_law_837 (Or.inr ⟨_, rfl⟩) rfl ?_
      refine ax_iload_n hX dL_law_838 rfl ?_
      refine ax_iconst hX dL_law_839 (v := 4) (by decide) ?_
      refine ax_iadd hX dL_law_840 ?_
      refine tx_sal hX hyp.1 dL_law_841 ?_
      replace hyp := hyp.2
      obtain ⟨Q1, hK, hyp⟩ := hyp
      refine ax_callV hX lRL_104 im_X11_mark sl_X11_mark cw_X11_mark ((th_at (by decide) (Nat.lt_of_lt_of_le (by decide) hsz)).trans (tc_ob ly_105)) rfl rfl (A := [.int (T39.1 0 (v3 + (1 : Int32)).toNatClampNeg), .int (T39.1 0 (v3 + (2 : Int32)).toNatClampNeg), .int (T39.1 0 (v3 + (3 : Int32)).toNatClampNeg), .int (T39.1 0 (v3 + (4 : Int32)).toNatClampNeg)]) (st := [.int r39]) rfl rfl (Nat.le_of_ble_eq_true rfl) hk hn dL_law_842 hK ?_
      rintro _ _ ⟨r40, T40, rfl, rfl, hq⟩
      replace hyp := hyp r40 T40 hq
      refine ax_icmp_eq hX dL_law_845 (tgt := 1160) (by decide) (fun c => ?_) (fun c => ?_)
      · replace hyp := hyp.1 c
        refine ax_iinc hX dL_law_1160 rfl (w := (v3 + (7 : Int32))) rfl (by decide) (L' := [some (.ref 0), some (.ref 2), some (.ref 105), some (.int (v3 + (7 : Int32)))]) rfl ?_
        refine ax_goto hX dL_law_1163 (tgt := 18) (by decide) ?_
        exact ax_forget (L' := [some (.ref 0), some (.ref 2), some (.ref 105), some (.int (v3 + (7 : Int32)))]) (⟨rfl, ⟨rfl, ⟨rfl, ⟨rfl, trivial⟩⟩⟩⟩) hyp
      · replace hyp := hyp.2 c
        refine ax_iconst hX dL_law_848 (v := 0) (by decide) ?_
        exact hyp.elim
    by_cases q20 : ((T.1 0 (v3.toNatClampNeg)) &&& (31 : Int32)) = 20
    · replace hyp := hyp.2.2.2.2.2.2.2.2.2.2.2.2.2.2.2.2.2.2.2.2.1 q20
      refine ax_tableIn hX dL_law_33 (by rw [q20]; decide) (by rw [q20]; decide) (off := 817) (by rw [q20]; rfl) (tgt := 850) (by decide) ?_
      refine ax_aload_n hX dL_law_850 (Or.inr ⟨_, rfl⟩) rfl ?_
      refine ax_aload_n hX dL_law_851 (Or.inr ⟨_, rfl⟩) rfl ?_
      refine ax_iload_n hX dL_law_852 rfl ?_
      refine ax_iconst hX dL_law_853 (v := 1) (by decide) ?_
      refine ax_iadd hX dL_law_854 ?_
      refine tx_sal hX hyp.1 dL_law_855 ?_
      replace hyp := hyp.2
      refine ax_aload_n hX dL_law_856 (Or.inr ⟨_, rfl⟩) rfl ?_
      refine ax_iload_n hX dL_law_857 rfl ?_
      refine ax_iconst hX dL_law_858 (v := 2) (by decide) ?_
      refine ax_iadd hX dL_law_859 ?_
      refine tx_sal hX hyp.1 dL_law_860 ?_
      replace hyp := hyp.2
      refine ax_aload_n hX dL_law_861 (Or.inr ⟨_, rfl⟩) rfl ?_
      refine ax_iload_n hX dL_law_862 rfl ?_
      refine ax_iconst hX dL_law_863 (v := 3) (by decide) ?_
      refine ax_iadd hX dL_law_864 ?_
      refine tx_sal hX hyp.1 dL_law_865 ?_
      replace hyp := hyp.2
      obtain ⟨Q1, hK, hyp⟩ := hyp
      refine ax_callV hX lRL_105 im_X10_appeal sl_X10_appeal cw_X10_appeal ((th_at (by decide) (Nat.lt_of_lt_of_le (by decide) hsz)).trans (tc_ob ly_2)) rfl rfl (A := [.int (T.1 0 (v3 + (1 : Int32)).toNatClampNeg), .int (T.1 0 (v3 + (2 : Int32)).toNatClampNeg), .int (T.1 0 (v3 + (3 : Int32)).toNatClampNeg)]) (st := []) rfl rfl (Nat.le_of_ble_eq_true rfl) hk hn dL_law_866 hK ?_
      rintro _ _ ⟨r41, T41, rfl, rfl, hq⟩
      replace hyp := hyp r41 T41 hq
      refine ax_aload_n hX dL_law_869 (Or.inr ⟨_, rfl⟩) rfl ?_
      refine ax_aload_n hX dL_law_870 (Or.inr ⟨_, rfl⟩) rfl ?_
      refine ax_iload_n hX dL_law_871 rfl ?_
      refine ax_iconst hX dL_law_872 (v := 1) (by decide) ?_
      refine ax_iadd hX dL_law_873 ?_
      refine tx_sal hX hyp.1 dL_law_874 ?_
      replace hyp := hyp.2
      refine ax_aload_n hX dL_law_875 (Or.inr ⟨_, rfl⟩) rfl ?_
      refine ax_iload_n hX dL_law_876 rfl ?_
      refine ax_iconst hX dL_law_877 (v := 2) (by decide) ?_
      refine ax_iadd hX dL_law_878 ?_
      refine tx_sal hX hyp.1 dL_law_879 ?_
      replace hyp := hyp.2
      refine ax_aload_n hX dL_law_880 (Or.inr ⟨_, rfl⟩) rfl ?_
      refine ax_iload_n hX dL_law_881 rfl ?_
      refine ax_iconst hX dL_law_882 (v := 3) (by decide) ?_
      refine ax_iadd hX dL_law_883 ?_
      refine tx_sal hX hyp.1 dL_law_884 ?_
      replace hyp := hyp.2
      obtain ⟨Q1, hK, hyp⟩ := hyp
      refine ax_callV hX lRL_108 im_X11_appeal sl_X11_appeal cw_X11_appeal ((th_at (by decide) (Nat.lt_of_lt_of_le (by decide) hsz)).trans (tc_ob ly_105)) rfl rfl (A := [.int (T41.1 0 (v3 + (1 : Int32)).toNatClampNeg), .int (T41.1 0 (v3 + (2 : Int32)).toNatClampNeg), .int (T41.1 0 (v3 + (3 : Int32)).toNatClampNeg)]) (st := [.int r41]) rfl rfl (Nat.le_of_ble_eq_true rfl) hk hn dL_law_885 hK ?_
      rintro _ _ ⟨r42, T42, rfl, rfl, hq⟩
      replace hyp := hyp r42 T42 hq
      refine ax_icmp_eq hX dL_law_888 (tgt := 1160) (by decide) (fun c => ?_) (fun c => ?_)
      · replace hyp := hyp.1 c
        refine ax_iinc hX dL_law_1160 rfl (w := (v3 + (7 : Int32))) rfl (by decide) (L' := [some (.ref 0), some (.ref 2), some (.ref 105), some (.int (v3 + (7 : Int32)))]) rfl ?_
        refine ax_goto hX dL_law_1163 (tgt := 18) (by decide) ?_
        exact ax_forget (L' := [some (.ref 0), some (.ref 2), some (.ref 105), some (.int (v3 + (7 : Int32)))]) (⟨rfl, ⟨rfl, ⟨rfl, ⟨rfl, trivial⟩⟩⟩⟩) hyp
      · replace hyp := hyp.2 c
        refine ax_iconst hX dL_law_891 (v := 0) (by decide) ?_
        exact hyp.elim
    by_cases q21 : ((T.1 0 (v3.toNatClampNeg)) &&& (31 : Int32)) = 21
    · replace hyp := hyp.2.2.2.2.2.2.2.2.2.2.2.2.2.2.2.2.2.2.2.2.2.1 q21
      refine ax_tableIn hX dL_law_33 (by rw [q21]; decide) (by rw [q21]; decide) (off := 860) (by rw [q21]; rfl) (tgt := 893) (by decide) ?_
      refine ax_aload_n hX dL_law_893 (Or.inr ⟨_, rfl⟩) rfl ?_
      refine ax_aload_n hX dL_law_894 (Or.inr ⟨_, rfl⟩) rfl ?_
      refine ax_iload_n hX dL_law_895 rfl ?_
      refine ax_iconst hX dL_law_896 (v := 1) (by decide) ?_
      refine ax_iadd hX dL_law_897 ?_
      refine tx_sal hX hyp.1 dL_law_898 ?_
      replace hyp := hyp.2
      obtain ⟨Q1, hK, hyp⟩ := hyp
      refine ax_callV hX lRL_109 im_X10_untell sl_X10_untell cw_X10_untell ((th_at (by decide) (Nat.lt_of_lt_of_le (by decide) hsz)).trans (tc_ob ly_2)) rfl rfl (A := [.int (T.1 0 (v3 + (1 : Int32)).toNatClampNeg)]) (st := []) rfl rfl (Nat.le_of_ble_eq_true rfl) hk hn dL_law_899 hK ?_
      rintro _ _ ⟨r43, T43, rfl, rfl, hq⟩
      replace hyp := hyp r43 T43 hq
      refine ax_aload_n hX dL_law_902 (Or.inr ⟨_, rfl⟩) rfl ?_
      refine ax_aload_n hX dL_law_903 (Or.inr ⟨_, rfl⟩) rfl ?_
      refine ax_iload_n hX dL_law_904 rfl ?_
      refine ax_iconst hX dL_law_905 (v := 1) (by decide) ?_
      refine ax_iadd hX dL_law_906 ?_
      refine tx_sal hX hyp.1 dL_law_907 ?_
      replace hyp := hyp.2
      obtain ⟨Q1, hK, hyp⟩ := hyp
      refine ax_callV hX lRL_113 im_X11_untell sl_X11_untell cw_X11_untell ((th_at (by decide) (Nat.lt_of_lt_of_le (by decide) hsz)).trans (tc_ob ly_105)) rfl rfl (A := [.int (T43.1 0 (v3 + (1 : Int32)).toNatClampNeg)]) (st := [.int r43]) rfl rfl (Nat.le_of_ble_eq_true rfl) hk hn dL_law_908 hK ?_
      rintro _ _ ⟨r44, T44, rfl, rfl, hq⟩
      replace hyp := hyp r44 T44 hq
      refine ax_icmp_eq hX dL_law_911 (tgt := 1160) (by decide) (fun c => ?_) (fun c => ?_)
      · replace hyp := hyp.1 c
        refine ax_iinc hX dL_law_1160 rfl (w := (v3 + (7 : Int32))) rfl (by decide) (L' := [some (.ref 0), some (.ref 2), some (.ref 105), some (.int (v3 + (7 : Int32)))]) rfl ?_
        refine ax_goto hX dL_law_1163 (tgt := 18) (by decide) ?_
        exact ax_forget (L' := [some (.ref 0), some (.ref 2), some (.ref 105), some (.int (v3 + (7 : Int32)))]) (⟨rfl, ⟨rfl, ⟨rfl, ⟨rfl, trivial⟩⟩⟩⟩) hyp
      · replace hyp := hyp.2 c
        refine ax_iconst hX dL_law_914 (v := 0) (by decide) ?_
        exact hyp.elim
    by_cases q22 : ((T.1 0 (v3.toNatClampNeg)) &&& (31 : Int32)) = 22
    · replace hyp := hyp.2.2.2.2.2.2.2.2.2.2.2.2.2.2.2.2.2.2.2.2.2.2.1 q22
      refine ax_tableIn hX dL_law_33 (by rw [q22]; decide) (by rw [q22]; decide) (off := 883) (by rw [q22]; rfl) (tgt := 916) (by decide) ?_
      refine ax_aload_n hX dL_law_916 (Or.inr ⟨_, rfl⟩) rfl ?_
      refine ax_aload_n hX dL_law_917 (Or.inr ⟨_, rfl⟩) rfl ?_
      refine ax_iload_n hX dL_law_918 rfl ?_
      refine ax_iconst hX dL_law_919 (v := 1) (by decide) ?_
      refine ax_iadd hX dL_law_920 ?_
      refine tx_sal hX hyp.1 dL_law_921 ?_
      replace hyp := hyp.2
      refine ax_aload_n hX dL_law_922 (Or.inr ⟨_, rfl⟩) rfl ?_
      refine ax_iload_n hX dL_law_923 rfl ?_
      refine ax_iconst hX dL_law_924 (v := 2) (by decide) ?_
      refine ax_iadd hX dL_law_925 ?_
      refine tx_sal hX hyp.1 dL_law_926 ?_
      replace hyp := hyp.2
      refine ax_aload_n hX dL_law_927 (Or.inr ⟨_, rfl⟩) rfl ?_
      refine ax_iload_n hX dL_law_928 rfl ?_
      refine ax_iconst hX dL_law_929 (v := 3) (by decide) ?_
      refine ax_iadd hX dL_law_930 ?_
      refine tx_sal hX hyp.1 dL_law_931 ?_
      replace hyp := hyp.2
      obtain ⟨Q1, hK, hyp⟩ := hyp
      refine ax_callV hX lRL_114 im_X10_known sl_X10_known cw_X10_known ((th_at (by decide) (Nat.lt_of_lt_of_le (by decide) hsz)).trans (tc_ob ly_2)) rfl rfl (A := [.int (T.1 0 (v3 + (1 : Int32)).toNatClampNeg), .int (T.1 0 (v3 + (2 : Int32)).toNatClampNeg), .int (T.1 0 (v3 + (3 : Int32)).toNatClampNeg)]) (st := []) rfl rfl (Nat.le_of_ble_eq_true rfl) hk hn dL_law_932 hK ?_
      rintro _ _ ⟨r45, T45, rfl, rfl, hq⟩
      replace hyp := hyp r45 T45 hq
      refine ax_aload_n hX dL_law_935 (Or.inr ⟨_, rfl⟩) rfl ?_
      refine ax_aload_n hX dL_law_936 (Or.inr ⟨_, rfl⟩) rfl ?_
      refine ax_iload_n hX dL_law_937 rfl ?_
      refine ax_iconst hX dL_law_938 (v := 1) (by decide) ?_
      refine ax_iadd hX dL_law_939 ?_
      refine tx_sal hX hyp.1 dL_law_940 ?_
      replace hyp := hyp.2
      refine ax_aload_n hX dL_law_941 (Or.inr ⟨_, rfl⟩) rfl ?_
      refine ax_iload_n hX dL_law_942 rfl ?_
      refine ax_iconst hX dL_law_943 (v := 2) (by decide) ?_
      refine ax_iadd hX dL_law_944 ?_
      refine tx_sal hX hyp.1 dL_law_945 ?_
      replace hyp := hyp.2
      refine ax_aload_n hX dL_law_946 (Or.inr ⟨_, rfl⟩) rfl ?_
      refine ax_iload_n hX dL_law_947 rfl ?_
      refine ax_iconst hX dL_law_948 (v := 3) (by decide) ?_
      refine ax_iadd hX dL_law_949 ?_
      refine tx_sal hX hyp.1 dL_law_950 ?_
      replace hyp := hyp.2
      obtain ⟨Q1, hK, hyp⟩ := hyp
      refine ax_callV hX lRL_117 im_X11_known sl_X11_known cw_X11_known ((th_at (by decide) (Nat.lt_of_lt_of_le (by decide) hsz)).trans (tc_ob ly_105)) rfl rfl (A := [.int (T45.1 0 (v3 + (1 : Int32)).toNatClampNeg), .int (T45.1 0 (v3 + (2 : Int32)).toNatClampNeg), .int (T45.1 0 (v3 + (3 : Int32)).toNatClampNeg)]) (st := [.int r45]) rfl rfl (Nat.le_of_ble_eq_true rfl) hk hn dL_law_951 hK ?_
      rintro _ _ ⟨r46, T46, rfl, rfl, hq⟩
      replace hyp := hyp r46 T46 hq
      refine ax_icmp_eq hX dL_law_954 (tgt := 1160) (by decide) (fun c => ?_) (fun c => ?_)
      · replace hyp := hyp.1 c
        refine ax_iinc hX dL_law_1160 rfl (w := (v3 + (7 : Int32))) rfl (by decide) (L' := [some (.ref 0), some (.ref 2), some (.ref 105), some (.int (v3 + (7 : Int32)))]) rfl ?_
        refine ax_goto hX dL_law_1163 (tgt := 18) (by decide) ?_
        exact ax_forget (L' := [some (.ref 0), some (.ref 2), some (.ref 105), some (.int (v3 + (7 : Int32)))]) (⟨rfl, ⟨rfl, ⟨rfl, ⟨rfl, trivial⟩⟩⟩⟩) hyp
      · replace hyp := hyp.2 c
        refine ax_iconst hX dL_law_957 (v := 0) (by decide) ?_
        exact hyp.elim
    by_cases q23 : ((T.1 0 (v3.toNatClampNeg)) &&& (31 : Int32)) = 23
    · replace hyp := hyp.2.2.2.2.2.2.2.2.2.2.2.2.2.2.2.2.2.2.2.2.2.2.2.1 q23
      refine ax_tableIn hX dL_law_33 (by rw [q23]; decide) (by rw [q23]; decide) (off := 926) (by rw [q23]; rfl) (tgt := 959) (by decide) ?_
      refine ax_aload_n hX dL_law_959 (Or.inr ⟨_, rfl⟩) rfl ?_
      refine ax_aload_n hX dL_law_960 (Or.inr ⟨_, rfl⟩) rfl ?_
      refine ax_iload_n hX dL_law_961 rfl ?_
      refine ax_iconst hX dL_law_962 (v := 1) (by decide) ?_
      refine ax_iadd hX dL_law_963 ?_
      refine tx_sal hX hyp.1 dL_law_964 ?_
      replace hyp := hyp.2
      refine ax_aload_n hX dL_law_965 (Or.inr ⟨_, rfl⟩) rfl ?_
      refine ax_iload_n hX dL_law_966 rfl ?_
      refine ax_iconst hX dL_law_967 (v := 2) (by decide) ?_
      refine ax_iadd hX dL_law_968 ?_
      refine tx_sal hX hyp.1 dL_law_969 ?_
      replace hyp := hyp.2
      obtain ⟨Q1, hK, hyp⟩ := hyp
      refine ax_callV hX lRL_118 im_X10_main sl_X10_main cw_X10_main ((th_at (by decide) (Nat.lt_of_lt_of_le (by decide) hsz)).trans (tc_ob ly_2)) rfl rfl (A := [.int (T.1 0 (v3 + (1 : Int32)).toNatClampNeg), .int (T.1 0 (v3 + (2 : Int32)).toNatClampNeg)]) (st := []) rfl rfl (Nat.le_of_ble_eq_true rfl) hk hn dL_law_970 hK ?_
      rintro _ _ ⟨r47, T47, rfl, rfl, hq⟩
      replace hyp := hyp r47 T47 hq
      refine ax_aload_n hX dL_law_973 (Or.inr ⟨_, rfl⟩) rfl ?_
      refine ax_aload_n hX dL_law_974 (Or.inr ⟨_, rfl⟩) rfl ?_
      refine ax_iload_n hX dL_law_975 rfl ?_
      refine ax_iconst hX dL_law_976 (v := 1) (by decide) ?_
      refine ax_iadd hX dL_law_977 ?_
      refine tx_sal hX hyp.1 dL_law_978 ?_
      replace hyp := hyp.2
      refine ax_aload_n hX dL_law_979 (Or.inr ⟨_, rfl⟩) rfl ?_
      refine ax_iload_n hX dL_law_980 rfl ?_
      refine ax_iconst hX dL_law_981 (v := 2) (by decide) ?_
      refine ax_iadd hX dL_law_982 ?_
      refine tx_sal hX hyp.1 dL_law_983 ?_
      replace hyp := hyp.2
      obtain ⟨Q1, hK, hyp⟩ := hyp
      refine ax_callV hX lRL_121 im_X11_main sl_X11_main cw_X11_main ((th_at (by decide) (Nat.lt_of_lt_of_le (by decide) hsz)).trans (tc_ob ly_105)) rfl rfl (A := [.int (T47.1 0 (v3 + (1 : Int32)).toNatClampNeg), .int (T47.1 0 (v3 + (2 : Int32)).toNatClampNeg)]) (st := [.int r47]) rfl rfl (Nat.le_of_ble_eq_true rfl) hk hn dL_law_984 hK ?_
      rintro _ _ ⟨r48, T48, rfl, rfl, hq⟩
      replace hyp := hyp r48 T48 hq
      refine ax_icmp_eq hX dL_law_987 (tgt := 1160) (by decide) (fun c => ?_) (fun c => ?_)
      · replace hyp := hyp.1 c
        refine ax_iinc hX dL_law_1160 rfl (w := (v3 + (7 : Int32))) rfl (by decide) (L' := [some (.ref 0), some (.ref 2), some (.ref 105), some (.int (v3 + (7 : Int32)))]) rfl ?_
        refine ax_goto hX dL_law_1163 (tgt := 18) (by decide) ?_
        exact ax_forget (L' := [some (.ref 0), some (.ref 2), some (.ref 105), some (.int (v3 + (7 : Int32)))]) (⟨rfl, ⟨rfl, ⟨rfl, ⟨rfl, trivial⟩⟩⟩⟩) hyp
      · replace hyp := hyp.2 c
        refine ax_iconst hX dL_law_990 (v := 0) (by decide) ?_
        exact hyp.elim
    by_cases q24 : ((T.1 0 (v3.toNatClampNeg)) &&& (31 : Int32)) = 24
    · replace hyp := hyp.2.2.2.2.2.2.2.2.2.2.2.2.2.2.2.2.2.2.2.2.2.2.2.2.1 q24
      refine ax_tableIn hX dL_law_33 (by rw [q24]; decide) (by rw [q24]; decide) (off := 959) (by rw [q24]; rfl) (tgt := 992) (by decide) ?_
      refine ax_aload_n hX dL_law_992 (Or.inr ⟨_, rfl⟩) rfl ?_
      refine ax_aload_n hX dL_law_993 (Or.inr ⟨_, rfl⟩) rfl ?_
      refine ax_iload_n hX dL_law_994 rfl ?_
      refine ax_iconst hX dL_law_995 (v := 1) (by decide) ?_
      refine ax_iadd hX dL_law_996 ?_
      refine tx_sal hX hyp.1 dL_law_997 ?_
      replace hyp := hyp.2
      refine ax_aload_n hX dL_law_998 (Or.inr ⟨_, rfl⟩) rfl ?_
      refine ax_iload_n hX dL_law_999 rfl ?_
      refine ax_iconst hX dL_law_1000 (v := 2) (by decide) ?_
      refine ax_iadd hX dL_law_1001 ?_
      refine tx_sal hX hyp.1 dL_law_1002 ?_
      replace hyp := hyp.2
      obtain ⟨Q1, hK, hyp⟩ := hyp
      refine ax_callV hX lRL_122 im_X10_result sl_X10_result cw_X10_result ((th_at (by decide) (Nat.lt_of_lt_of_le (by decide) hsz)).trans (tc_ob ly_2)) rfl rfl (A := [.int (T.1 0 (v3 + (1 : Int32)).toNatClampNeg), .int (T.1 0 (v3 + (2 : Int32)).toNatClampNeg)]) (st := []) rfl rfl (Nat.le_of_ble_eq_true rfl) hk hn dL_law_1003 hK ?_
      rintro _ _ ⟨r49, T49, rfl, rfl, hq⟩
      replace hyp := hyp r49 T49 hq
      refine ax_aload_n hX dL_law_1006 (Or.inr ⟨_, rfl⟩) rfl ?_
      refine ax_aload_n hX dL_law_1007 (Or.inr ⟨_, rfl⟩) rfl ?_
      refine ax_iload_n hX dL_law_1008 rfl ?_
      refine ax_iconst hX dL_law_1009 (v := 1) (by decide) ?_
      refine ax_iadd hX dL_law_1010 ?_
      refine tx_sal hX hyp.1 dL_law_1011 ?_
      replace hyp := hyp.2
      refine ax_aload_n hX dL_law_1012 (Or.inr ⟨_, rfl⟩) rfl ?_
      refine ax_iload_n hX dL_law_1013 rfl ?_
      refine ax_iconst hX dL_law_1014 (v := 2) (by decide) ?_
      refine ax_iadd hX dL_law_1015 ?_
      refine tx_sal hX hyp.1 dL_law_1016 ?_
      replace hyp := hyp.2
      obtain ⟨Q1, hK, hyp⟩ := hyp
      refine ax_callV hX lRL_125 im_X11_result sl_X11_result cw_X11_result ((th_at (by decide) (Nat.lt_of_lt_of_le (by decide) hsz)).trans (tc_ob ly_105)) rfl rfl (A := [.int (T49.1 0 (v3 + (1 : Int32)).toNatClampNeg), .int (T49.1 0 (v3 + (2 : Int32)).toNatClampNeg)]) (st := [.int r49]) rfl rfl (Nat.le_of_ble_eq_true rfl) hk hn dL_law_1017 hK ?_
      rintro _ _ ⟨r50, T50, rfl, rfl, hq⟩
      replace hyp := hyp r50 T50 hq
      refine ax_icmp_eq hX dL_law_1020 (tgt := 1160) (by decide) (fun c => ?_) (fun c => ?_)
      · replace hyp := hyp.1 c
        refine ax_iinc hX dL_law_1160 rfl (w := (v3 + (7 : Int32))) rfl (by decide) (L' := [some (.ref 0), some (.ref 2), some (.ref 105), some (.int (v3 + (7 : Int32)))]) rfl ?_
        refine ax_goto hX dL_law_1163 (tgt := 18) (by decide) ?_
        exact ax_forget (L' := [some (.ref 0), some (.ref 2), some (.ref 105), some (.int (v3 + (7 : Int32)))]) (⟨rfl, ⟨rfl, ⟨rfl, ⟨rfl, trivial⟩⟩⟩⟩) hyp
      · replace hyp := hyp.2 c
        refine ax_iconst hX dL_law_1023 (v := 0) (by decide) ?_
        exact hyp.elim
    by_cases q25 : ((T.1 0 (v3.toNatClampNeg)) &&& (31 : Int32)) = 25
    · replace hyp := hyp.2.2.2.2.2.2.2.2.2.2.2.2.2.2.2.2.2.2.2.2.2.2.2.2.2.1 q25
      refine ax_tableIn hX dL_law_33 (by rw [q25]; decide) (by rw [q25]; decide) (off := 992) (by rw [q25]; rfl) (tgt := 1025) (by decide) ?_
      refine ax_aload_n hX dL_law_1025 (Or.inr ⟨_, rfl⟩) rfl ?_
      refine ax_aload_n hX dL_law_1026 (Or.inr ⟨_, rfl⟩) rfl ?_
      refine ax_iload_n hX dL_law_1027 rfl ?_
      refine ax_iconst hX dL_law_1028 (v := 1) (by decide) ?_
      refine ax_iadd hX dL_law_1029 ?_
      refine tx_sal hX hyp.1 dL_law_1030 ?_
      replace hyp := hyp.2
      obtain ⟨Q1, hK, hyp⟩ := hyp
      refine ax_callV hX lRL_126 im_X10_hardness sl_X10_hardness cw_X10_hardness ((th_at (by decide) (Nat.lt_of_lt_of_le (by decide) hsz)).trans (tc_ob ly_2)) rfl rfl (A := [.int (T.1 0 (v3 + (1 : Int32)).toNatClampNeg)]) (st := []) rfl rfl (Nat.le_of_ble_eq_true rfl) hk hn dL_law_1031 hK ?_
      rintro _ _ ⟨r51, T51, rfl, rfl, hq⟩
      replace hyp := hyp r51 T51 hq
      refine ax_aload_n hX dL_law_1034 (Or.inr ⟨_, rfl⟩) rfl ?_
      refine ax_aload_n hX dL_law_1035 (Or.inr ⟨_, rfl⟩) rfl ?_
      refine ax_iload_n hX dL_law_1036 rfl ?_
      refine ax_iconst hX dL_law_1037 (v := 1) (by decide) ?_
      refine ax_iadd hX dL_law_1038 ?_
      refine tx_sal hX hyp.1 dL_law_1039 ?_
      replace hyp := hyp.2
      obtain ⟨Q1, hK, hyp⟩ := hyp
      refine ax_callV hX lRL_129 im_X11_hardness sl_X11_hardness cw_X11_hardness ((th_at (by decide) (Nat.lt_of_lt_of_le (by decide) hsz)).trans (tc_ob ly_105)) rfl rfl (A := [.int (T51.1 0 (v3 + (1 : Int32)).toNatClampNeg)]) (st := [.int r51]) rfl rfl (Nat.le_of_ble_eq_true rfl) hk hn dL_law_1040 hK ?_
      rintro _ _ ⟨r52, T52, rfl, rfl, hq⟩
      replace hyp := hyp r52 T52 hq
      refine ax_icmp_eq hX dL_law_1043 (tgt := 1160) (by decide) (fun c => ?_) (fun c => ?_)
      · replace hyp := hyp.1 c
        refine ax_iinc hX dL_law_1160 rfl (w := (v3 + (7 : Int32))) rfl (by decide) (L' := [some (.ref 0), some (.ref 2), some (.ref 105), some (.int (v3 + (7 : Int32)))]) rfl ?_
        refine ax_goto hX dL_law_1163 (tgt := 18) (by decide) ?_
        exact ax_forget (L' := [some (.ref 0), some (.ref 2), some (.ref 105), some (.int (v3 + (7 : Int32)))]) (⟨rfl, ⟨rfl, ⟨rfl, ⟨rfl, trivial⟩⟩⟩⟩) hyp
      · replace hyp := hyp.2 c
        refine ax_iconst hX dL_law_1046 (v := 0) (by decide) ?_
        exact hyp.elim
    by_cases q26 : ((T.1 0 (v3.toNatClampNeg)) &&& (31 : Int32)) = 26
    · replace hyp := hyp.2.2.2.2.2.2.2.2.2.2.2.2.2.2.2.2.2.2.2.2.2.2.2.2.2.2.1 q26
      refine ax_tableIn hX dL_law_33 (by rw [q26]; decide) (by rw [q26]; decide) (off := 1015) (by rw [q26]; rfl) (tgt := 1048) (by decide) ?_
      refine ax_aload_n hX dL_law_1048 (Or.inr ⟨_, rfl⟩) rfl ?_
      refine ax_aload_n hX dL_law_1049 (Or.inr ⟨_, rfl⟩) rfl ?_
      refine ax_iload_n hX dL_law_1050 rfl ?_
      refine ax_iconst hX dL_law_1051 (v := 1) (by decide) ?_
      refine ax_iadd hX dL_law_1052 ?_
      refine tx_sal hX hyp.1 dL_law_1053 ?_
      replace hyp := hyp.2
      obtain ⟨Q1, hK, hyp⟩ := hyp
      refine ax_callV hX lRL_130 im_X10_certify sl_X10_certify cw_X10_certify ((th_at (by decide) (Nat.lt_of_lt_of_le (by decide) hsz)).trans (tc_ob ly_2)) rfl rfl (A := [.int (T.1 0 (v3 + (1 : Int32)).toNatClampNeg)]) (st := []) rfl rfl (Nat.le_of_ble_eq_true rfl) hk hn dL_law_1054 hK ?_
      rintro _ _ ⟨r53, T53, rfl, rfl, hq⟩
      replace hyp := hyp r53 T53 hq
      refine ax_aload_n hX dL_law_1057 (Or.inr ⟨_, rfl⟩) rfl ?_
      refine ax_aload_n hX dL_law_1058 (Or.inr ⟨_, rfl⟩) rfl ?_
      refine ax_iload_n hX dL_law_1059 rfl ?_
      refine ax_iconst hX dL_law_1060 (v := 1) (by decide) ?_
      refine ax_iadd hX dL_law_1061 ?_
      refine tx_sal hX hyp.1 dL_law_1062 ?_
      replace hyp := hyp.2
      obtain ⟨Q1, hK, hyp⟩ := hyp
      refine ax_callV hX lRL_133 im_X11_certify sl_X11_certify cw_X11_certify ((th_at (by decide) (Nat.lt_of_lt_of_le (by decide) hsz)).trans (tc_ob ly_105)) rfl rfl (A := [.int (T53.1 0 (v3 + (1 : Int32)).toNatClampNeg)]) (st := [.int r53]) rfl rfl (Nat.le_of_ble_eq_true rfl) hk hn dL_law_1063 hK ?_
      rintro _ _ ⟨r54, T54, rfl, rfl, hq⟩
      replace hyp := hyp r54 T54 hq
      refine ax_icmp_eq hX dL_law_1066 (tgt := 1160) (by decide) (fun c => ?_) (fun c => ?_)
      · replace hyp := hyp.1 c
        refine ax_iinc hX dL_law_1160 rfl (w := (v3 + (7 : Int32))) rfl (by decide) (L' := [some (.ref 0), some (.ref 2), some (.ref 105), some (.int (v3 + (7 : Int32)))]) rfl ?_
        refine ax_goto hX dL_law_1163 (tgt := 18) (by decide) ?_
        exact ax_forget (L' := [some (.ref 0), some (.ref 2), some (.ref 105), some (.int (v3 + (7 : Int32)))]) (⟨rfl, ⟨rfl, ⟨rfl, ⟨rfl, trivial⟩⟩⟩⟩) hyp
      · replace hyp := hyp.2 c
        refine ax_iconst hX dL_law_1069 (v := 0) (by decide) ?_
        exact hyp.elim
    by_cases q27 : ((T.1 0 (v3.toNatClampNeg)) &&& (31 : Int32)) = 27
    · replace hyp := hyp.2.2.2.2.2.2.2.2.2.2.2.2.2.2.2.2.2.2.2.2.2.2.2.2.2.2.2.1 q27
      refine ax_tableIn hX dL_law_33 (by rw [q27]; decide) (by rw [q27]; decide) (off := 1038) (by rw [q27]; rfl) (tgt := 1071) (by decide) ?_
      refine ax_aload_n hX dL_law_1071 (Or.inr ⟨_, rfl⟩) rfl ?_
      refine ax_aload_n hX dL_law_1072 (Or.inr ⟨_, rfl⟩) rfl ?_
      refine ax_iload_n hX dL_law_1073 rfl ?_
      refine ax_iconst hX dL_law_1074 (v := 1) (by decide) ?_
      refine ax_iadd hX dL_law_1075 ?_
      refine tx_sal hX hyp.1 dL_law_1076 ?_
      replace hyp := hyp.2
      refine ax_aload_n hX dL_law_1077 (Or.inr ⟨_, rfl⟩) rfl ?_
      refine ax_iload_n hX dL_law_1078 rfl ?_
      refine ax_iconst hX dL_law_1079 (v := 2) (by decide) ?_
      refine ax_iadd hX dL_law_1080 ?_
      refine tx_sal hX hyp.1 dL_law_1081 ?_
      replace hyp := hyp.2
      obtain ⟨Q1, hK, hyp⟩ := hyp
      refine ax_callV hX lRL_134 im_X10_certificate sl_X10_certificate cw_X10_certificate ((th_at (by decide) (Nat.lt_of_lt_of_le (by decide) hsz)).trans (tc_ob ly_2)) rfl rfl (A := [.int (T.1 0 (v3 + (1 : Int32)).toNatClampNeg), .int (T.1 0 (v3 + (2 : Int32)).toNatClampNeg)]) (st := []) rfl rfl (Nat.le_of_ble_eq_true rfl) hk hn dL_law_1082 hK ?_
      rintro _ _ ⟨r55, T55, rfl, rfl, hq⟩
      replace hyp := hyp r55 T55 hq
      refine ax_aload_n hX dL_law_1085 (Or.inr ⟨_, rfl⟩) rfl ?_
      refine ax_aload_n hX dL_law_1086 (Or.inr ⟨_, rfl⟩) rfl ?_
      refine ax_iload_n hX dL_law_1087 rfl ?_
      refine ax_iconst hX dL_law_1088 (v := 1) (by decide) ?_
      refine ax_iadd hX dL_law_1089 ?_
      refine tx_sal hX hyp.1 dL_law_1090 ?_
      replace hyp := hyp.2
      refine ax_aload_n hX dL_law_1091 (Or.inr ⟨_, rfl⟩) rfl ?_
      refine ax_iload_n hX dL_law_1092 rfl ?_
      refine ax_iconst hX dL_law_1093 (v := 2) (by decide) ?_
      refine ax_iadd hX dL_law_1094 ?_
      refine tx_sal hX hyp.1 dL_law_1095 ?_
      replace hyp := hyp.2
      obtain ⟨Q1, hK, hyp⟩ := hyp
      refine ax_callV hX lRL_137 im_X11_certificate sl_X11_certificate cw_X11_certificate ((th_at (by decide) (Nat.lt_of_lt_of_le (by decide) hsz)).trans (tc_ob ly_105)) rfl rfl (A := [.int (T55.1 0 (v3 + (1 : Int32)).toNatClampNeg), .int (T55.1 0 (v3 + (2 : Int32)).toNatClampNeg)]) (st := [.int r55]) rfl rfl (Nat.le_of_ble_eq_true rfl) hk hn dL_law_1096 hK ?_
      rintro _ _ ⟨r56, T56, rfl, rfl, hq⟩
      replace hyp := hyp r56 T56 hq
      refine ax_icmp_eq hX dL_law_1099 (tgt := 1160) (by decide) (fun c => ?_) (fun c => ?_)
      · replace hyp := hyp.1 c
        refine ax_iinc hX dL_law_1160 rfl (w := (v3 + (7 : Int32))) rfl (by decide) (L' := [some (.ref 0), some (.ref 2), some (.ref 105), some (.int (v3 + (7 : Int32)))]) rfl ?_
        refine ax_goto hX dL_law_1163 (tgt := 18) (by decide) ?_
        exact ax_forget (L' := [some (.ref 0), some (.ref 2), some (.ref 105), some (.int (v3 + (7 : Int32)))]) (⟨rfl, ⟨rfl, ⟨rfl, ⟨rfl, trivial⟩⟩⟩⟩) hyp
      · replace hyp := hyp.2 c
        refine ax_iconst hX dL_law_1102 (v := 0) (by decide) ?_
        exact hyp.elim
    by_cases q28 : ((T.1 0 (v3.toNatClampNeg)) &&& (31 : Int32)) = 28
    · replace hyp := hyp.2.2.2.2.2.2.2.2.2.2.2.2.2.2.2.2.2.2.2.2.2.2.2.2.2.2.2.2.1 q28
      refine ax_tableIn hX dL_law_33 (by rw [q28]; decide) (by rw [q28]; decide) (off := 1071) (by rw [q28]; rfl) (tgt := 1104) (by decide) ?_
      refine ax_aload_n hX dL_law_1104 (Or.inr ⟨_, rfl⟩) rfl ?_
      refine ax_aload_n hX dL_law_1105 (Or.inr ⟨_, rfl⟩) rfl ?_
      refine ax_iload_n hX dL_law_1106 rfl ?_
      refine ax_iconst hX dL_law_1107 (v := 1) (by decide) ?_
      refine ax_iadd hX dL_law_1108 ?_
      refine tx_sal hX hyp.1 dL_law_1109 ?_
      replace hyp := hyp.2
      refine ax_aload_n hX dL_law_1110 (Or.inr ⟨_, rfl⟩) rfl ?_
      refine ax_iload_n hX dL_law_1111 rfl ?_
      refine ax_iconst hX dL_law_1112 (v := 2) (by decide) ?_
      refine ax_iadd hX dL_law_1113 ?_
      refine tx_sal hX hyp.1 dL_law_1114 ?_
      replace hyp := hyp.2
      obtain ⟨Q1, hK, hyp⟩ := hyp
      refine ax_callV hX lRL_138 im_X10_holds sl_X10_holds cw_X10_holds ((th_at (by decide) (Nat.lt_of_lt_of_le (by decide) hsz)).trans (tc_ob ly_2)) rfl rfl (A := [.int (T.1 0 (v3 + (1 : Int32)).toNatClampNeg), .int (T.1 0 (v3 + (2 : Int32)).toNatClampNeg)]) (st := []) rfl rfl (Nat.le_of_ble_eq_true rfl) hk hn dL_law_1115 hK ?_
      rintro _ _ ⟨r57, T57, rfl, rfl, hq⟩
      replace hyp := hyp r57 T57 hq
      refine ax_aload_n hX dL_law_1118 (Or.inr ⟨_, rfl⟩) rfl ?_
      refine ax_aload_n hX dL_law_1119 (Or.inr ⟨_, rfl⟩) rfl ?_
      refine ax_iload_n hX dL_law_1120 rfl ?_
      refine ax_iconst hX dL_law_1121 (v := 1) (by decide) ?_
      refine ax_iadd hX dL_law_1122 ?_
      refine tx_sal hX hyp.1 dL_law_1123 ?_
      replace hyp := hyp.2
      refine ax_aload_n hX dL_law_1124 (Or.inr ⟨_, rfl⟩) rfl ?_
      refine ax_iload_n hX dL_law_1125 rfl ?_
      refine ax_iconst hX dL_law_1126 (v := 2) (by decide) ?_
      refine ax_iadd hX dL_law_1127 ?_
      refine tx_sal hX hyp.1 dL_law_1128 ?_
      replace hyp := hyp.2
      obtain ⟨Q1, hK, hyp⟩ := hyp
      refine ax_callV hX lRL_141 im_X11_holds sl_X11_holds cw_X11_holds ((th_at (by decide) (Nat.lt_of_lt_of_le (by decide) hsz)).trans (tc_ob ly_105)) rfl rfl (A := [.int (T57.1 0 (v3 + (1 : Int32)).toNatClampNeg), .int (T57.1 0 (v3 + (2 : Int32)).toNatClampNeg)]) (st := [.int r57]) rfl rfl (Nat.le_of_ble_eq_true rfl) hk hn dL_law_1129 hK ?_
      rintro _ _ ⟨r58, T58, rfl, rfl, hq⟩
      replace hyp := hyp r58 T58 hq
      refine ax_icmp_eq hX dL_law_1132 (tgt := 1160) (by decide) (fun c => ?_) (fun c => ?_)
      · replace hyp := hyp.1 c
        refine ax_iinc hX dL_law_1160 rfl (w := (v3 + (7 : Int32))) rfl (by decide) (L' := [some (.ref 0), some (.ref 2), some (.ref 105), some (.int (v3 + (7 : Int32)))]) rfl ?_
        refine ax_goto hX dL_law_1163 (tgt := 18) (by decide) ?_
        exact ax_forget (L' := [some (.ref 0), some (.ref 2), some (.ref 105), some (.int (v3 + (7 : Int32)))]) (⟨rfl, ⟨rfl, ⟨rfl, ⟨rfl, trivial⟩⟩⟩⟩) hyp
      · replace hyp := hyp.2 c
        refine ax_iconst hX dL_law_1135 (v := 0) (by decide) ?_
        exact hyp.elim
    by_cases q29 : ((T.1 0 (v3.toNatClampNeg)) &&& (31 : Int32)) = 29
    · replace hyp := hyp.2.2.2.2.2.2.2.2.2.2.2.2.2.2.2.2.2.2.2.2.2.2.2.2.2.2.2.2.2.1 q29
      refine ax_tableIn hX dL_law_33 (by rw [q29]; decide) (by rw [q29]; decide) (off := 1104) (by rw [q29]; rfl) (tgt := 1137) (by decide) ?_
      refine ax_aload_n hX dL_law_1137 (Or.inr ⟨_, rfl⟩) rfl ?_
      refine ax_aload_n hX dL_law_1138 (Or.inr ⟨_, rfl⟩) rfl ?_
      refine ax_iload_n hX dL_law_1139 rfl ?_
      refine ax_iconst hX dL_law_1140 (v := 1) (by decide) ?_
      refine ax_iadd hX dL_law_1141 ?_
      refine tx_sal hX hyp.1 dL_law_1142 ?_
      replace hyp := hyp.2
      obtain ⟨Q1, hK, hyp⟩ := hyp
      refine ax_callV hX lRL_142 im_X10_about sl_X10_about cw_X10_about ((th_at (by decide) (Nat.lt_of_lt_of_le (by decide) hsz)).trans (tc_ob ly_2)) rfl rfl (A := [.int (T.1 0 (v3 + (1 : Int32)).toNatClampNeg)]) (st := []) rfl rfl (Nat.le_of_ble_eq_true rfl) hk hn dL_law_1143 hK ?_
      rintro _ _ ⟨r59, T59, rfl, rfl, hq⟩
      replace hyp := hyp r59 T59 hq
      refine ax_aload_n hX dL_law_1146 (Or.inr ⟨_, rfl⟩) rfl ?_
      refine ax_aload_n hX dL_law_1147 (Or.inr ⟨_, rfl⟩) rfl ?_
      refine ax_iload_n hX dL_law_1148 rfl ?_
      refine ax_iconst hX dL_law_1149 (v := 1) (by decide) ?_
      refine ax_iadd hX dL_law_1150 ?_
      refine tx_sal hX hyp.1 dL_law_1151 ?_
      replace hyp := hyp.2
      obtain ⟨Q1, hK, hyp⟩ := hyp
      refine ax_callV hX lRL_145 im_X11_about sl_X11_about cw_X11_about ((th_at (by decide) (Nat.lt_of_lt_of_le (by decide) hsz)).trans (tc_ob ly_105)) rfl rfl (A := [.int (T59.1 0 (v3 + (1 : Int32)).toNatClampNeg)]) (st := [.int r59]) rfl rfl (Nat.le_of_ble_eq_true rfl) hk hn dL_law_1152 hK ?_
      rintro _ _ ⟨r60, T60, rfl, rfl, hq⟩
      replace hyp := hyp r60 T60 hq
      refine ax_icmp_eq hX dL_law_1155 (tgt := 1160) (by decide) (fun c => ?_) (fun c => ?_)
      · replace hyp := hyp.1 c
        refine ax_iinc hX dL_law_1160 rfl (w := (v3 + (7 : Int32))) rfl (by decide) (L' := [some (.ref 0), some (.ref 2), some (.ref 105), some (.int (v3 + (7 : Int32)))]) rfl ?_
        refine ax_goto hX dL_law_1163 (tgt := 18) (by decide) ?_
        exact ax_forget (L' := [some (.ref 0), some (.ref 2), some (.ref 105), some (.int (v3 + (7 : Int32)))]) (⟨rfl, ⟨rfl, ⟨rfl, ⟨rfl, trivial⟩⟩⟩⟩) hyp
      · replace hyp := hyp.2 c
        refine ax_iconst hX dL_law_1158 (v := 0) (by decide) ?_
        exact hyp.elim
    replace hyp := hyp.2.2.2.2.2.2.2.2.2.2.2.2.2.2.2.2.2.2.2.2.2.2.2.2.2.2.2.2.2.2 q0 q1 q2 q3 q4 q5 q6 q7 q8 q9 q10 q11 q12 q13 q14 q15 q16 q17 q18 q19 q20 q21 q22 q23 q24 q25 q26 q27 q28 q29
    have z0 := lv_neT (a := 0) q0 rfl
    have z1 := lv_neT (a := 1) q1 rfl
    have z2 := lv_neT (a := 2) q2 rfl
    have z3 := lv_neT (a := 3) q3 rfl
    have z4 := lv_neT (a := 4) q4 rfl
    have z5 := lv_neT (a := 5) q5 rfl
    have z6 := lv_neT (a := 6) q6 rfl
    have z7 := lv_neT (a := 7) q7 rfl
    have z8 := lv_neT (a := 8) q8 rfl
    have z9 := lv_neT (a := 9) q9 rfl
    have z10 := lv_neT (a := 10) q10 rfl
    have z11 := lv_neT (a := 11) q11 rfl
    have z12 := lv_neT (a := 12) q12 rfl
    have z13 := lv_neT (a := 13) q13 rfl
    have z14 := lv_neT (a := 14) q14 rfl
    have z15 := lv_neT (a := 15) q15 rfl
    have z16 := lv_neT (a := 16) q16 rfl
    have z17 := lv_neT (a := 17) q17 rfl
    have z18 := lv_neT (a := 18) q18 rfl
    have z19 := lv_neT (a := 19) q19 rfl
    have z20 := lv_neT (a := 20) q20 rfl
    have z21 := lv_neT (a := 21) q21 rfl
    have z22 := lv_neT (a := 22) q22 rfl
    have z23 := lv_neT (a := 23) q23 rfl
    have z24 := lv_neT (a := 24) q24 rfl
    have z25 := lv_neT (a := 25) q25 rfl
    have z26 := lv_neT (a := 26) q26 rfl
    have z27 := lv_neT (a := 27) q27 rfl
    have z28 := lv_neT (a := 28) q28 rfl
    have z29 := lv_neT (a := 29) q29 rfl
    refine ax_tableOut hX dL_law_33 (by omega) (tgt := 1160) (by decide) ?_
    refine ax_iinc hX dL_law_1160 rfl (w := (v3 + (7 : Int32))) rfl (by decide) (L' := [some (.ref 0), some (.ref 2), some (.ref 105), some (.int (v3 + (7 : Int32)))]) rfl ?_
    refine ax_goto hX dL_law_1163 (tgt := 18) (by decide) ?_
    exact ax_forget (L' := [some (.ref 0), some (.ref 2), some (.ref 105), some (.int (v3 + (7 : Int32)))]) (⟨rfl, ⟨rfl, ⟨rfl, ⟨rfl, trivial⟩⟩⟩⟩) hyp
def toS (d : Nat) (M : ax_M) (A : List Value) (L sz : Nat) (T : tT) (Q : Option Nat → Nat → tT → Prop) : Prop := ax_K d M A (th L sz T) (fun r h => ∃ (v : Option Nat) (sz1 : Nat) (T1 : tT), r = some (va_rf v) ∧ h = th L sz1 T1 ∧ sz ≤ sz1 ∧ Q v sz1 T1)
set_option maxRecDepth 10000 in
theorem s_X10_syllabus_0 {X : ax_X} {d L sz : Nat} {T : tT} {Q : Int32 → Nat → tT → Prop} (hX : ax_ok X mX10_syllabus (d + 1)) (hR : ax_Ret X mX10_syllabus (fun r h => ∃ (v : Int32) (sz1 : Nat) (T1 : tT), r = some (.int v) ∧ h = th L sz1 T1 ∧ sz ≤ sz1 ∧ Q v sz1 T1)) (hsz : 161 ≤ sz) (x0 : Int32) (hyp : ∃ Q1, tiK d mX10_isTerm [.int x0] L sz T Q1 ∧ ∀ (r1 : Int32) (T1 : tT), Q1 r1 T1 → (((¬ r1 = 0 → ∃ Q1, tvK d mX6_read [.ref 3] L sz T1 Q1 ∧ ∀ (T2 : tT), Q1 T2 → ((((T2.1 3 1) = 0 → vp_in x0 4 ∧ (((T2.2.2 65 (x0.toNatClampNeg)) = none → ∃ Q1, toS d mX6_exchange [.ref 3, .null] L sz (tI T2 4 1 (0 : Int32)) Q1 ∧ ∀ (r4 : Option Nat) (sz1 : Nat) (T4 : tT), sz ≤ sz1 → Q1 r4 sz1 T4 → (((r4 = none → False) ∧ (∀ p5, r4 = some p5 → tsy sz1 p5 ∧ vp_in x0 4 ∧ ∃ Q1, tiK d mX10_gradesOf [.ref 2, .int x0] L sz1 (tP T4 65 (x0.toNatClampNeg) (some p5)) Q1 ∧ ∀ (r6 : Int32) (T6 : tT), Q1 r6 T6 → (Q r6 sz1 T6))))) ∧ (∀ p3, (T2.2.2 65 (x0.toNatClampNeg)) = some p3 → tsy sz p3 ∧ ∃ Q1, toS d mX6_exchange [.ref 3, .ref p3] L sz (tI T2 4 1 (0 : Int32)) Q1 ∧ ∀ (r7 : Option Nat) (sz1 : Nat) (T7 : tT), sz ≤ sz1 → Q1 r7 sz1 T7 → (((r7 = none → False) ∧ (∀ p8, r7 = some p8 → tsy sz1 p8 ∧ vp_in x0 4 ∧ ∃ Q1, tiK d mX10_gradesOf [.ref 2, .int x0] L sz1 (tP T7 65 (x0.toNatClampNeg) (some p8)) Q1 ∧ ∀ (r9 : Int32) (T9 : tT), Q1 r9 T9 → (Q r9 sz1 T9))))))) ∧ (¬ (T2.1 3 1) = 0 → Q (-1 : Int32) sz (tI T2 4 1 (0 : Int32)))))) ∧ (r1 = 0 → Q (-2 : Int32) sz T1)))) : ax_j X 0 [some (.ref 2), some (.int x0)] [] (th L sz T) 0 0 := by
  refine ax_iload_n hX dX10_syllabus_0 rfl ?_
  obtain ⟨Q1, hK, hyp⟩ := hyp
  refine ax_callS hX lRX10_78 sm_X10_isTerm cw_X10_isTerm (A := [.int x0]) (st := []) rfl rfl (Nat.le_of_ble_eq_true rfl) (by decide) (by decide) dX10_syllabus_1 hK ?_
  rintro _ _ ⟨r1, T1, rfl, rfl, hq⟩
  replace hyp := hyp r1 T1 hq
  refine ax_if_ne hX dX10_syllabus_4 (tgt := 10) (by decide) (fun c => ?_) (fun c => ?_)
  · replace hyp := hyp.1 c
    refine ax_aload_n hX dX10_syllabus_10 (Or.inr ⟨_, rfl⟩) rfl ?_
    refine tx_getF hX fRX10_12 ly_2 (o := 1) (b := 3) fk_10_0 rfl (by decide) (Nat.lt_of_lt_of_le (by decide) hsz) dX10_syllabus_11 ?_
    obtain ⟨Q1, hK, hyp⟩ := hyp
    refine ax_callV hX lRX10_82 im_X6_read sl_X6_read cw_X6_read ((th_at (by decide) (Nat.lt_of_lt_of_le (by decide) hsz)).trans (tc_ob ly_3)) rfl rfl (A := []) (st := []) rfl rfl (Nat.le_of_ble_eq_true rfl) (by decide) (by decide) dX10_syllabus_14 hK ?_
    rintro _ _ ⟨T2, rfl, rfl, hq⟩
    replace hyp := hyp T2 hq
    refine ax_aload_n hX dX10_syllabus_17 (Or.inr ⟨_, rfl⟩) rfl ?_
    refine tx_getF hX fRX10_12 ly_2 (o := 1) (b := 3) fk_10_0 rfl (by decide) (Nat.lt_of_lt_of_le (by decide) hsz) dX10_syllabus_18 ?_
    refine tx_getF hX fRX10_64 ly_3 (o := 1) (b := 4) fk_6_0 rfl (by decide) (Nat.lt_of_lt_of_le (by decide) hsz) dX10_syllabus_21 ?_
    refine ax_iconst hX dX10_syllabus_24 (v := 0) (by decide) ?_
    refine tx_putI hX fRX10_68 ly_4 fk_9_1 (by decide) (Nat.lt_of_lt_of_le (by decide) hsz) rfl rfl dX10_syllabus_25 ?_
    refine ax_aload_n hX dX10_syllabus_28 (Or.inr ⟨_, rfl⟩) rfl ?_
    refine tx_getF hX fRX10_12 ly_2 (o := 1) (b := 3) fk_10_0 rfl (by decide) (Nat.lt_of_lt_of_le (by decide) hsz) dX10_syllabus_29 ?_
    refine tx_getI hX fRX10_85 ly_3 fk_6_1 (by decide) (Nat.lt_of_lt_of_le (by decide) hsz) dX10_syllabus_32 ?_
    refine ax_if_eq hX dX10_syllabus_35 (tgt := 40) (by decide) (fun c => ?_) (fun c => ?_)
    · replace hyp := hyp.1 c
      refine ax_aload_n hX dX10_syllabus_40 (Or.inr ⟨_, rfl⟩) rfl ?_
      refine tx_getF hX fRX10_18 ly_2 (o := 63) (b := 65) fk_10_1 rfl (by decide) (Nat.lt_of_lt_of_le (by decide) hsz) dX10_syllabus_41 ?_
      refine ax_iload_n hX dX10_syllabus_44 rfl ?_
      refine ax_aload_n hX dX10_syllabus_45 (Or.inr ⟨_, rfl⟩) rfl ?_
      refine tx_getF hX fRX10_12 ly_2 (o := 1) (b := 3) fk_10_0 rfl (by decide) (Nat.lt_of_lt_of_le (by decide) hsz) dX10_syllabus_46 ?_
      refine ax_aload_n hX dX10_syllabus_49 (Or.inr ⟨_, rfl⟩) rfl ?_
      refine tx_getF hX fRX10_18 ly_2 (o := 63) (b := 65) fk_10_1 rfl (by decide) (Nat.lt_of_lt_of_le (by decide) hsz) dX10_syllabus_50 ?_
      refine ax_iload_n hX dX10_syllabus_53 rfl ?_
      have hin := hyp.1
      replace hyp := hyp.2
      rcases ho3 : (T2.2.2 65 (x0.toNatClampNeg)) with _ | p3
      · replace hyp := hyp.1 ho3
        refine tx_aal hX ly_65 (by decide) (by decide) (Nat.lt_of_lt_of_le (by decide) hsz) hin (v := .null) (congrArg va_rf ho3) dX10_syllabus_54 ?_
        obtain ⟨Q1, hK, hyp⟩ := hyp
        refine ax_callV hX lRX10_88 im_X6_exchange sl_X6_exchange cw_X6_exchange ((th_at (by decide) (Nat.lt_of_lt_of_le (by decide) hsz)).trans (tc_ob ly_3)) rfl rfl (A := [.null]) (st := [.int x0, .ref 65]) rfl rfl (Nat.le_of_ble_eq_true rfl) (by decide) (by decide) dX10_syllabus_55 hK ?_
        rintro _ _ ⟨r4, sz1, T4, rfl, rfl, hle, hq⟩
        replace hyp := hyp r4 sz1 T4 hle hq
        have hsz1 : 161 ≤ sz1 := Nat.le_trans hsz hle
        rcases r4 with _ | p5
        · replace hyp := hyp.1 rfl
          exact hyp.elim
        · obtain ⟨h_p5, hyp⟩ := hyp.2 p5 rfl
          refine tx_aas hX ly_65 (by decide) h_p5.ly0 rfl rfl (by decide) (Nat.lt_of_lt_of_le (by decide) hsz1) (h_p5.ne 0 (by decide)) (h_p5.lt 0 (by decide)) hyp.1 dX10_syllabus_58 ?_
          replace hyp := hyp.2
          refine ax_aload_n hX dX10_syllabus_59 (Or.inr ⟨_, rfl⟩) rfl ?_
          refine ax_iload_n hX dX10_syllabus_60 rfl ?_
          obtain ⟨Q1, hK, hyp⟩ := hyp
          refine ax_callV hX lRX10_92 im_X10_gradesOf sl_X10_gradesOf cw_X10_gradesOf ((th_at (by decide) (Nat.lt_of_lt_of_le (by decide) hsz1)).trans (tc_ob ly_2)) rfl rfl (A := [.int x0]) (st := []) rfl rfl (Nat.le_of_ble_eq_true rfl) (by decide) (by decide) dX10_syllabus_61 hK ?_
          rintro _ _ ⟨r6, T6, rfl, rfl, hq⟩
          replace hyp := hyp r6 T6 hq
          exact hR.1 _ _ _ _ _ _ (by decide) (by decide) dX10_syllabus_64 ⟨_, rfl, rfl⟩ ⟨_, _, _, rfl, rfl, hle, hyp⟩
      · obtain ⟨h_p3, hyp⟩ := hyp.2 p3 ho3
        refine tx_aal hX ly_65 (by decide) (by decide) (Nat.lt_of_lt_of_le (by decide) hsz) hin (v := .ref p3) (congrArg va_rf ho3) dX10_syllabus_54 ?_
        obtain ⟨Q1, hK, hyp⟩ := hyp
        refine ax_callV hX lRX10_88 im_X6_exchange sl_X6_exchange cw_X6_exchange ((th_at (by decide) (Nat.lt_of_lt_of_le (by decide) hsz)).trans (tc_ob ly_3)) rfl rfl (A := [.ref p3]) (st := [.int x0, .ref 65]) rfl rfl (Nat.le_of_ble_eq_true rfl) (by decide) (by decide) dX10_syllabus_55 hK ?_
        rintro _ _ ⟨r7, sz1, T7, rfl, rfl, hle, hq⟩
        replace hyp := hyp r7 sz1 T7 hle hq
        have hsz1 : 161 ≤ sz1 := Nat.le_trans hsz hle
        rcases r7 with _ | p8
        · replace hyp := hyp.1 rfl
          exact hyp.elim
        · obtain ⟨h_p8, hyp⟩ := hyp.2 p8 rfl
          refine tx_aas hX ly_65 (by decide) h_p8.ly0 rfl rfl (by decide) (Nat.lt_of_lt_of_le (by decide) hsz1) (h_p8.ne 0 (by decide)) (h_p8.lt 0 (by decide)) hyp.1 dX10_syllabus_58 ?_
          replace hyp := hyp.2
          refine ax_aload_n hX dX10_syllabus_59 (Or.inr ⟨_, rfl⟩) rfl ?_
          refine ax_iload_n hX dX10_syllabus_60 rfl ?_
          obtain ⟨Q1, hK, hyp⟩ := hyp
          refine ax_callV hX lRX10_92 im_X10_gradesOf sl_X10_gradesOf cw_X10_gradesOf ((th_at (by decide) (Nat.lt_of_lt_of_le (by decide) hsz1)).trans (tc_ob ly_2)) rfl rfl (A := [.int x0]) (st := []) rfl rfl (Nat.le_of_ble_eq_true rfl) (by decide) (by decide) dX10_syllabus_61 hK ?_
          rintro _ _ ⟨r9, T9, rfl, rfl, hq⟩
          replace hyp := hyp r9 T9 hq
          exact hR.1 _ _ _ _ _ _ (by decide) (by decide) dX10_syllabus_64 ⟨_, rfl, rfl⟩ ⟨_, _, _, rfl, rfl, hle, hyp⟩
    · replace hyp := hyp.2 c
      refine ax_iconst hX dX10_syllabus_38 (v := -1) (by decide) ?_
      exact hR.1 _ _ _ _ _ _ (by decide) (by decide) dX10_syllabus_39 ⟨_, rfl, rfl⟩ ⟨_, _, _, rfl, rfl, (Nat.le_refl _), hyp⟩
  · replace hyp := hyp.2 c
    refine ax_bipush hX dX10_syllabus_7 (v := -2) (by decide) ?_
    exact hR.1 _ _ _ _ _ _ (by decide) (by decide) dX10_syllabus_9 ⟨_, rfl, rfl⟩ ⟨_, _, _, rfl, rfl, (Nat.le_refl _), hyp⟩
theorem k_X10_syllabus {d L sz : Nat} {T : tT} {Q : Int32 → Nat → tT → Prop} (hsz : 161 ≤ sz) (x0 : Int32) (hyp : ∃ Q1, tiK d mX10_isTerm [.int x0] L sz T Q1 ∧ ∀ (r1 : Int32) (T1 : tT), Q1 r1 T1 → (((¬ r1 = 0 → ∃ Q1, tvK d mX6_read [.ref 3] L sz T1 Q1 ∧ ∀ (T2 : tT), Q1 T2 → ((((T2.1 3 1) = 0 → vp_in x0 4 ∧ (((T2.2.2 65 (x0.toNatClampNeg)) = none → ∃ Q1, toS d mX6_exchange [.ref 3, .null] L sz (tI T2 4 1 (0 : Int32)) Q1 ∧ ∀ (r4 : Option Nat) (sz1 : Nat) (T4 : tT), sz ≤ sz1 → Q1 r4 sz1 T4 → (((r4 = none → False) ∧ (∀ p5, r4 = some p5 → tsy sz1 p5 ∧ vp_in x0 4 ∧ ∃ Q1, tiK d mX10_gradesOf [.ref 2, .int x0] L sz1 (tP T4 65 (x0.toNatClampNeg) (some p5)) Q1 ∧ ∀ (r6 : Int32) (T6 : tT), Q1 r6 T6 → (Q r6 sz1 T6))))) ∧ (∀ p3, (T2.2.2 65 (x0.toNatClampNeg)) = some p3 → tsy sz p3 ∧ ∃ Q1, toS d mX6_exchange [.ref 3, .ref p3] L sz (tI T2 4 1 (0 : Int32)) Q1 ∧ ∀ (r7 : Option Nat) (sz1 : Nat) (T7 : tT), sz ≤ sz1 → Q1 r7 sz1 T7 → (((r7 = none → False) ∧ (∀ p8, r7 = some p8 → tsy sz1 p8 ∧ vp_in x0 4 ∧ ∃ Q1, tiK d mX10_gradesOf [.ref 2, .int x0] L sz1 (tP T7 65 (x0.toNatClampNeg) (some p8)) Q1 ∧ ∀ (r9 : Int32) (T9 : tT), Q1 r9 T9 → (Q r9 sz1 T9))))))) ∧ (¬ (T2.1 3 1) = 0 → Q (-1 : Int32) sz (tI T2 4 1 (0 : Int32)))))) ∧ (r1 = 0 → Q (-2 : Int32) sz T1)))) : tiS (d + 1) mX10_syllabus [.ref 2, .int x0] L sz T Q := ax_enter (by decide +kernel) (Nat.le_of_ble_eq_true rfl) (fun X hX hR => s_X10_syllabus_0 hX hR hsz x0 hyp)
