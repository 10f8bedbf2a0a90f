noncomputable def vl_X3_isListedAnywhere : Nat → (tT → Nat → Int64 → Int32 → Int32) × (tT → Nat → Int64 → Int32 → Int32 → Int32)
  | 0 => ((fun (T : tT) (q : Nat) (v1 : Int64) (v3 : Int32) => 0), (fun (T : tT) (q : Nat) (v1 : Int64) (v3 : Int32) (v4 : Int32) => 0))
  | n + 1 => ((fun (T : tT) (q : Nat) (v1 : Int64) (v3 : Int32) => (if (T.1 q 1) ≤ v3 then (0 : Int32) else (vl_X3_isListedAnywhere n).2 T q v1 v3 (0 : Int32))), (fun (T : tT) (q : Nat) (v1 : Int64) (v3 : Int32) (v4 : Int32) => (if (T.1 (q + 2) (v3.toNatClampNeg)) ≤ v4 then (vl_X3_isListedAnywhere n).1 T q v1 (v3 + (1 : Int32)) else (if (T.2.1 (q + 3) ((v3 * (12 : Int32)) + v4).toNatClampNeg) = v1 then (1 : Int32) else (vl_X3_isListedAnywhere n).2 T q v1 v3 (v4 + (1 : Int32))))))
noncomputable def okl_X3_isListedAnywhere : Nat → (Nat → tT → Nat → Int64 → Int32 → Prop) × (Nat → tT → Nat → Int64 → Int32 → Int32 → Prop)
  | 0 => ((fun (sz : Nat) (T : tT) (q : Nat) (v1 : Int64) (v3 : Int32) => False), (fun (sz : Nat) (T : tT) (q : Nat) (v1 : Int64) (v3 : Int32) (v4 : Int32) => False))
  | n + 1 => ((fun (sz : Nat) (T : tT) (q : Nat) (v1 : Int64) (v3 : Int32) => (((T.1 q 1) ≤ v3 → True) ∧ (¬ (T.1 q 1) ≤ v3 → (okl_X3_isListedAnywhere n).2 sz T q v1 v3 (0 : Int32)))), (fun (sz : Nat) (T : tT) (q : Nat) (v1 : Int64) (v3 : Int32) (v4 : Int32) => (vp_in v3 6 ∧ (((T.1 (q + 2) (v3.toNatClampNeg)) ≤ v4 → (okl_X3_isListedAnywhere n).1 sz T q v1 (v3 + (1 : Int32))) ∧ (¬ (T.1 (q + 2) (v3.toNatClampNeg)) ≤ v4 → (vp_in ((v3 * (12 : Int32)) + v4) 72 ∧ ((¬ (T.2.1 (q + 3) ((v3 * (12 : Int32)) + v4).toNatClampNeg) = v1 → (okl_X3_isListedAnywhere n).2 sz T q v1 v3 (v4 + (1 : Int32))) ∧ ((T.2.1 (q + 3) ((v3 * (12 : Int32)) + v4).toNatClampNeg) = v1 → True))))))))
theorem vl_X3_isListedAnywhere_s0 (n : Nat) (T : tT) (q : Nat) (v1 : Int64) (v3 : Int32) : (vl_X3_isListedAnywhere (n + 1)).1 T q v1 v3 = (if (T.1 q 1) ≤ v3 then (0 : Int32) else (vl_X3_isListedAnywhere n).2 T q v1 v3 (0 : Int32)) := rfl
theorem okl_X3_isListedAnywhere_s0 (n sz : Nat) (T : tT) (q : Nat) (v1 : Int64) (v3 : Int32) : (okl_X3_isListedAnywhere (n + 1)).1 sz T q v1 v3 = (((T.1 q 1) ≤ v3 → True) ∧ (¬ (T.1 q 1) ≤ v3 → (okl_X3_isListedAnywhere n).2 sz T q v1 v3 (0 : Int32))) := rfl
theorem vl_X3_isListedAnywhere_s1 (n : Nat) (T : tT) (q : Nat) (v1 : Int64) (v3 : Int32) (v4 : Int32) : (vl_X3_isListedAnywhere (n + 1)).2 T q v1 v3 v4 = (if (T.1 (q + 2) (v3.toNatClampNeg)) ≤ v4 then (vl_X3_isListedAnywhere n).1 T q v1 (v3 + (1 : Int32)) else (if (T.2.1 (q + 3) ((v3 * (12 : Int32)) + v4).toNatClampNeg) = v1 then (1 : Int32) else (vl_X3_isListedAnywhere n).2 T q v1 v3 (v4 + (1 : Int32)))) := rfl
theorem okl_X3_isListedAnywhere_s1 (n sz : Nat) (T : tT) (q : Nat) (v1 : Int64) (v3 : Int32) (v4 : Int32) : (okl_X3_isListedAnywhere (n + 1)).2 sz T q v1 v3 v4 = (vp_in v3 6 ∧ (((T.1 (q + 2) (v3.toNatClampNeg)) ≤ v4 → (okl_X3_isListedAnywhere n).1 sz T q v1 (v3 + (1 : Int32))) ∧ (¬ (T.1 (q + 2) (v3.toNatClampNeg)) ≤ v4 → (vp_in ((v3 * (12 : Int32)) + v4) 72 ∧ ((¬ (T.2.1 (q + 3) ((v3 * (12 : Int32)) + v4).toNatClampNeg) = v1 → (okl_X3_isListedAnywhere n).2 sz T q v1 v3 (v4 + (1 : Int32))) ∧ ((T.2.1 (q + 3) ((v3 * (12 : Int32)) + v4).toNatClampNeg) = v1 → True)))))) := rfl
set_option maxRecDepth 10000 in
set_option maxHeartbeats 1000000 in
theorem lj_X3_isListedAnywhere {X : ax_X} {d L sz : Nat} {Q : Int32 → tT → Prop} (hX : ax_ok X mX3_isListedAnywhere d) (hsz : 161 ≤ sz) {q : Nat} (h_q : tgr sz q) (hR : ax_Ret X mX3_isListedAnywhere (ti L sz Q)) : ∀ n : Nat, (∀ (T : tT)  (v1 : Int64) (v3 : Int32), (okl_X3_isListedAnywhere n).1 sz T q v1 v3 → Q ((vl_X3_isListedAnywhere n).1 T q v1 v3) T → ax_j X 2 [some (.ref q), some (.long v1), none, some (.int v3), none] [] (th L sz T) 0 0) ∧ (∀ (T : tT)  (v1 : Int64) (v3 : Int32) (v4 : Int32), (okl_X3_isListedAnywhere n).2 sz T q v1 v3 v4 → Q ((vl_X3_isListedAnywhere n).2 T q v1 v3 v4) T → ax_j X 13 [some (.ref q), some (.long v1), none, some (.int v3), some (.int v4)] [] (th L sz T) 0 0) := by
  intro n
  induction n with
  | zero => exact ⟨(by intros; rename_i ok _; exact False.elim ok), (by intros; rename_i ok _; exact False.elim ok)⟩
  | succ n ih =>
    refine ⟨?_, ?_⟩
    · intro T  v1 v3 ok hq
      refine s_X3_isListedAnywhere_2 hX hR hsz h_q  v1 v3 ?_
      rw [okl_X3_isListedAnywhere_s0] at ok
      refine ⟨fun kq0 => ?_, fun kq0 => ?_⟩
      · replace ok := ok.1 kq0
        have z := hq; rw [vl_X3_isListedAnywhere_s0, if_pos kq0] at z; exact z
      · replace ok := ok.2 kq0
        have z := hq; rw [vl_X3_isListedAnywhere_s0, if_neg kq0] at z; exact ih.2 _  v1 v3 (0 : Int32) ok z
    · intro T  v1 v3 v4 ok hq
      refine s_X3_isListedAnywhere_13 hX hR hsz h_q  v1 v3 v4 ?_
      rw [okl_X3_isListedAnywhere_s1] at ok
      refine ⟨ok.1, ?_⟩
      replace ok := ok.2
      refine ⟨fun kq0 => ?_, fun kq0 => ?_⟩
      · replace ok := ok.1 kq0
        have z := hq; rw [vl_X3_isListedAnywhere_s1, if_pos kq0] at z; exact ih.1 _  v1 (v3 + (1 : Int32)) ok z
      · replace ok := ok.2 kq0
        refine ⟨ok.1, ?_⟩
        replace ok := ok.2
        refine ⟨fun kq1 => ?_, fun kq1 => ?_⟩
        · replace ok := ok.1 kq1
          have z := hq; rw [vl_X3_isListedAnywhere_s1, if_neg kq0, if_neg kq1] at z; exact ih.2 _  v1 v3 (v4 + (1 : Int32)) ok z
        · replace ok := ok.2 kq1
          have z := hq; rw [vl_X3_isListedAnywhere_s1, if_neg kq0, if_pos kq1] at z; exact z
noncomputable def v_X3_isListedAnywhere (T : tT) (q : Nat) (x0 : Int64) : Int32 := (vl_X3_isListedAnywhere fu).1 T q x0 (0 : Int32)
noncomputable def ok_X3_isListedAnywhere (sz : Nat) (T : tT) (q : Nat) (x0 : Int64) : Prop := (okl_X3_isListedAnywhere fu).1 sz T q x0 (0 : Int32)
set_option maxRecDepth 10000 in
theorem c_X3_isListedAnywhere {d L sz : Nat} {T : tT} (hsz : 161 ≤ sz) {q : Nat} (h_q : tgr sz q) (x0 : Int64) (ok : ok_X3_isListedAnywhere sz T q x0) : tiK d mX3_isListedAnywhere [.ref q, .long x0] L sz T (fun r T' => r = v_X3_isListedAnywhere T q x0 ∧ T = T') := by
  refine k_X3_isListedAnywhere hsz h_q x0 (fun X hX hR => ?_)
  unfold ok_X3_isListedAnywhere at ok
  exact (lj_X3_isListedAnywhere hX hsz h_q hR _).1 _  x0 (0 : Int32) ok ⟨by unfold v_X3_isListedAnywhere; rfl, rfl⟩
noncomputable def vl_X2_countOwn : Nat → tT → Nat → Int32 → Int32 → Int32 → Int32
  | 0, T, q, v1, v3, v4 => 0
  | n + 1, T, q, v1, v3, v4 => (if (T.1 77 (v1.toNatClampNeg)) ≤ v4 then v3 else (if (v_X3_isListedAnywhere T q (T.2.1 78 ((v1 * (4 : Int32)) + v4).toNatClampNeg)) = 0 then vl_X2_countOwn n T q v1 (v3 + (1 : Int32)) (v4 + (1 : Int32)) else vl_X2_countOwn n T q v1 (v3 + (0 : Int32)) (v4 + (1 : Int32))))
noncomputable def okl_X2_countOwn : Nat → Nat → tT → Nat → Int32 → Int32 → Int32 → Prop
  | 0, _, T, q, v1, v3, v4 => False
  | n + 1, sz, T, q, v1, v3, v4 => (vp_in v1 40 ∧ (((T.1 77 (v1.toNatClampNeg)) ≤ v4 → True) ∧ (¬ (T.1 77 (v1.toNatClampNeg)) ≤ v4 → (vp_in ((v1 * (4 : Int32)) + v4) 160 ∧ (ok_X3_isListedAnywhere sz T q (T.2.1 78 ((v1 * (4 : Int32)) + v4).toNatClampNeg) ∧ (((v_X3_isListedAnywhere T q (T.2.1 78 ((v1 * (4 : Int32)) + v4).toNatClampNeg)) = 0 → okl_X2_countOwn n sz T q v1 (v3 + (1 : Int32)) (v4 + (1 : Int32))) ∧ (¬ (v_X3_isListedAnywhere T q (T.2.1 78 ((v1 * (4 : Int32)) + v4).toNatClampNeg)) = 0 → okl_X2_countOwn n sz T q v1 (v3 + (0 : Int32)) (v4 + (1 : Int32)))))))))
theorem vl_X2_countOwn_s (n : Nat) (T : tT) (q : Nat) (v1 : Int32) (v3 : Int32) (v4 : Int32) : vl_X2_countOwn (n + 1) T q v1 v3 v4 = (if (T.1 77 (v1.toNatClampNeg)) ≤ v4 then v3 else (if (v_X3_isListedAnywhere T q (T.2.1 78 ((v1 * (4 : Int32)) + v4).toNatClampNeg)) = 0 then vl_X2_countOwn n T q v1 (v3 + (1 : Int32)) (v4 + (1 : Int32)) else vl_X2_countOwn n T q v1 (v3 + (0 : Int32)) (v4 + (1 : Int32)))) := rfl
set_option maxRecDepth 10000 in
theorem lj_X2_countOwn {X : ax_X} {d L sz : Nat} {Q : Int32 → tT → Prop} (hX : ax_ok X mX2_countOwn (d + 1)) (hsz : 161 ≤ sz) {q : Nat} (h_q : tgr sz q) (hR : ax_Ret X mX2_countOwn (ti L sz Q)) : ∀ (n : Nat) (T : tT) (v1 : Int32) (v3 : Int32) (v4 : Int32), okl_X2_countOwn n sz T q v1 v3 v4 → Q (vl_X2_countOwn n T q v1 v3 v4) T → ax_j X 5 [some (.ref 69), some (.int v1), some (.ref q), some (.int v3), some (.int v4)] [] (th L sz T) 0 0 := by
  intro n
  induction n with
  | zero => intro T v1 v3 v4 ok; exact False.elim ok
  | succ n ih =>
    intro T v1 v3 v4 ok hq
    refine s_X2_countOwn_5 hX hR hsz h_q v1 v3 v4 ?_
    unfold okl_X2_countOwn at ok
    refine ⟨ok.1, ?_⟩
    replace ok := ok.2
    refine ⟨fun kq0 => ?_, fun kq0 => ?_⟩
    · replace ok := ok.1 kq0
      have z := hq; rw [vl_X2_countOwn_s, if_pos kq0] at z; exact z
    · replace ok := ok.2 kq0
      refine ⟨ok.1, ?_⟩
      replace ok := ok.2
      refine ⟨_, c_X3_isListedAnywhere hsz h_q (T.2.1 78 ((v1 * (4 : Int32)) + v4).toNatClampNeg) ok.1, ?_⟩
      rintro _ _ ⟨rfl, rfl⟩
      replace ok := ok.2
      refine ⟨fun kq1 => ?_, fun kq1 => ?_⟩
      · replace ok := ok.1 kq1
        have z := hq; rw [vl_X2_countOwn_s, if_neg kq0, if_pos kq1] at z; exact ih _ v1 (v3 + (1 : Int32)) (v4 + (1 : Int32)) ok z
      · replace ok := ok.2 kq1
        have z := hq; rw [vl_X2_countOwn_s, if_neg kq0, if_neg kq1] at z; exact ih _ v1 (v3 + (0 : Int32)) (v4 + (1 : Int32)) ok z
noncomputable def v_X2_countOwn (T : tT) (q : Nat) (x0 : Int32) : Int32 := vl_X2_countOwn fu T q x0 (0 : Int32) (0 : Int32)
noncomputable def ok_X2_countOwn (sz : Nat) (T : tT) (q : Nat) (x0 : Int32) : Prop := okl_X2_countOwn fu sz T q x0 (0 : Int32) (0 : Int32)
set_option maxRecDepth 10000 in
theorem c_X2_countOwn {d L sz : Nat} {T : tT} (hsz : 161 ≤ sz) {q : Nat} (h_q : tgr sz q) (x0 : Int32) (ok : ok_X2_countOwn sz T q x0) : tiK (d + 1) mX2_countOwn [.ref 69, .int x0, .ref q] L sz T (fun r T' => r = v_X2_countOwn T q x0 ∧ T = T') := by
  refine k_X2_countOwn hsz h_q x0 (fun X hX hR => ?_)
  unfold ok_X2_countOwn at ok
  exact lj_X2_countOwn hX hsz h_q hR _ _ x0 (0 : Int32) (0 : Int32) ok ⟨by unfold v_X2_countOwn; rfl, rfl⟩
noncomputable def v_X4_pieceLeaf (T : tT) (q : Nat) (x0 : Int32) (x1 : Int32) (x4 : Int32) : Int32 := (if x0 = 201 then (v_X2_countListed T q x4 x1) else (if x0 = 210 then (v_X2_countOwn T q x4) else (if x0 = 211 then (T.1 77 (x4.toNatClampNeg)) else (T.1 74 (x4.toNatClampNeg)))))
noncomputable def ok_X4_pieceLeaf (sz : Nat) (T : tT) (q : Nat) (x0 : Int32) (x1 : Int32) (x4 : Int32) : Prop := ((x0 = 201 → (ok_X2_countListed sz T q x4 x1 ∧ True)) ∧ (x0 = 210 → (ok_X2_countOwn sz T q x4 ∧ True)) ∧ (x0 = 211 → vp_in x4 40) ∧ (¬ x0 = 201 → ¬ x0 = 210 → ¬ x0 = 211 → vp_in x4 40))
set_option maxRecDepth 10000 in
theorem c_X4_pieceLeaf {d L sz : Nat} {T : tT} (hsz : 161 ≤ sz) {q : Nat} (h_q : tgr sz q) (x0 : Int32) (x1 : Int32) (x4 : Int32) (ok : ok_X4_pieceLeaf sz T q x0 x1 x4) : tiK (d + 2) mX4_pieceLeaf [.ref 66, .int x0, .int x1, .ref q, .ref 69, .int x4] L sz T (fun r T' => r = v_X4_pieceLeaf T q x0 x1 x4 ∧ T = T') := by
  refine k_X4_pieceLeaf hsz h_q x0 x1 x4 ?_
  unfold ok_X4_pieceLeaf at ok
  refine ⟨fun kq0 => ?_, fun kq0 => ?_, fun kq0 => ?_, fun kq0_0 kq0_1 kq0_2 => ?_⟩
  · replace ok := ok.1 kq0
    refine ⟨_, c_X2_countListed hsz h_q x4 x1 ok.1, ?_⟩
    rintro _ _ ⟨rfl, rfl⟩
    replace ok := ok.2
    exact ⟨by unfold v_X4_pieceLeaf; first | (rw [if_pos kq0]; done) | (rw [if_pos kq0]; rfl), rfl⟩
  · replace ok := ok.2.1 kq0
    refine ⟨_, c_X2_countOwn hsz h_q x4 ok.1, ?_⟩
    rintro _ _ ⟨rfl, rfl⟩
    replace ok := ok.2
    exact ⟨by unfold v_X4_pieceLeaf; first | (rw [if_neg (show ¬ x0 = 201 by rw [kq0]; decide), if_pos kq0]; done) | (rw [if_neg (show ¬ x0 = 201 by rw [kq0]; decide), if_pos kq0]; rfl), rfl⟩
  · replace ok := ok.2.2.1 kq0
    refine ⟨ok, ?_⟩
    exact ⟨by unfold v_X4_pieceLeaf; first | (rw [if_neg (show ¬ x0 = 201 by rw [kq0]; decide), if_neg (show ¬ x0 = 210 by rw [kq0]; decide), if_pos kq0]; done) | (rw [if_neg (show ¬ x0 = 201 by rw [kq0]; decide), if_neg (show ¬ x0 = 210 by rw [kq0]; decide), if_pos kq0]; rfl), rfl⟩
  · replace ok := ok.2.2.2 kq0_0 kq0_1 kq0_2
    refine ⟨ok, ?_⟩
    exact ⟨by unfold v_X4_pieceLeaf; first | (rw [if_neg kq0_0, if_neg kq0_1, if_neg kq0_2]; done) | (rw [if_neg kq0_0, if_neg kq0_1, if_neg kq0_2]; rfl), rfl⟩
noncomputable def vl_X4_work : Nat → tT → Nat → Nat → Int32 → Int32 → Int32 × tT
  | 0, T, p, q, v4, v6 => (0, T)
  | n + 1, T, p, q, v4, v6 => (if (T.1 p 3) ≤ v6 then ((F_X4_pop T).1, (F_X4_pop T).2) else (if ((T.1 (p + 2) (v6.toNatClampNeg)) >>> ((20 : Int32) &&& 31)) = (59 : Int32) then ((F_X4_pop T).1, (F_X4_pop T).2) else (if ((T.1 (p + 2) (v6.toNatClampNeg)) >>> ((20 : Int32) &&& 31)) = (2 : Int32) then vl_X4_work n (F_X4_push T (v_X4_markLeaf T q ((T.1 (p + 2) (v6.toNatClampNeg)) >>> ((20 : Int32) &&& 31)) ((T.1 (p + 2) (v6.toNatClampNeg)) &&& (1048575 : Int32)))) p q v4 (v6 + (1 : Int32)) else (if ((T.1 (p + 2) (v6.toNatClampNeg)) >>> ((20 : Int32) &&& 31)) = (202 : Int32) then vl_X4_work n (F_X4_push T (v_X4_markLeaf T q ((T.1 (p + 2) (v6.toNatClampNeg)) >>> ((20 : Int32) &&& 31)) ((T.1 (p + 2) (v6.toNatClampNeg)) &&& (1048575 : Int32)))) p q v4 (v6 + (1 : Int32)) else (if ((T.1 (p + 2) (v6.toNatClampNeg)) >>> ((20 : Int32) &&& 31)) < (213 : Int32) then (if ((T.1 (p + 2) (v6.toNatClampNeg)) >>> ((20 : Int32) &&& 31)) = (201 : Int32) then vl_X4_work n (F_X4_push T (v_X4_pieceLeaf T q ((T.1 (p + 2) (v6.toNatClampNeg)) >>> ((20 : Int32) &&& 31)) ((T.1 (p + 2) (v6.toNatClampNeg)) &&& (1048575 : Int32)) v4)) p q v4 (v6 + (1 : Int32)) else (if ((T.1 (p + 2) (v6.toNatClampNeg)) >>> ((20 : Int32) &&& 31)) < (210 : Int32) then (if ((T.1 (p + 2) (v6.toNatClampNeg)) >>> ((20 : Int32) &&& 31)) = (209 : Int32) then (if (F_X4_pop T).1 = 0 then vl_X4_work n (F_X4_push ((F_X4_pop T).2) (1 : Int32)) p q v4 (v6 + (1 : Int32)) else vl_X4_work n (F_X4_push ((F_X4_pop T).2) (0 : Int32)) p q v4 (v6 + (1 : Int32))) else vl_X4_work n (F_X4_push ((F_X4_pop ((F_X4_pop T).2)).2) (v_X4_join ((F_X4_pop ((F_X4_pop T).2)).2) ((T.1 (p + 2) (v6.toNatClampNeg)) >>> ((20 : Int32) &&& 31)) (F_X4_pop ((F_X4_pop T).2)).1 (F_X4_pop T).1)) p q v4 (v6 + (1 : Int32))) else vl_X4_work n (F_X4_push T (v_X4_pieceLeaf T q ((T.1 (p + 2) (v6.toNatClampNeg)) >>> ((20 : Int32) &&& 31)) ((T.1 (p + 2) (v6.toNatClampNeg)) &&& (1048575 : Int32)) v4)) p q v4 (v6 + (1 : Int32)))) else vl_X4_work n (F_X4_push T (v_X4_markLeaf T q ((T.1 (p + 2) (v6.toNatClampNeg)) >>> ((20 : Int32) &&& 31)) ((T.1 (p + 2) (v6.toNatClampNeg)) &&& (1048575 : Int32)))) p q v4 (v6 + (1 : Int32)))))))
noncomputable def okl_X4_work : Nat → Nat → tT → Nat → Nat → Int32 → Int32 → Prop
  | 0, _, T, p, q, v4, v6 => False
  | n + 1, sz, T, p, q, v4, v6 => (((T.1 p 3) ≤ v6 → (ok_X4_pop sz T ∧ True)) ∧ (¬ (T.1 p 3) ≤ v6 → (vp_in v6 750 ∧ (vp_in v6 750 ∧ ((¬ ((T.1 (p + 2) (v6.toNatClampNeg)) >>> ((20 : Int32) &&& 31)) = (59 : Int32) → ((((T.1 (p + 2) (v6.toNatClampNeg)) >>> ((20 : Int32) &&& 31)) = (2 : Int32) → (ok_X4_markLeaf sz T q ((T.1 (p + 2) (v6.toNatClampNeg)) >>> ((20 : Int32) &&& 31)) ((T.1 (p + 2) (v6.toNatClampNeg)) &&& (1048575 : Int32)) ∧ (ok_X4_push sz T (v_X4_markLeaf T q ((T.1 (p + 2) (v6.toNatClampNeg)) >>> ((20 : Int32) &&& 31)) ((T.1 (p + 2) (v6.toNatClampNeg)) &&& (1048575 : Int32))) ∧ okl_X4_work n sz (F_X4_push T (v_X4_markLeaf T q ((T.1 (p + 2) (v6.toNatClampNeg)) >>> ((20 : Int32) &&& 31)) ((T.1 (p + 2) (v6.toNatClampNeg)) &&& (1048575 : Int32)))) p q v4 (v6 + (1 : Int32))))) ∧ (¬ ((T.1 (p + 2) (v6.toNatClampNeg)) >>> ((20 : Int32) &&& 31)) = (2 : Int32) → ((((T.1 (p + 2) (v6.toNatClampNeg)) >>> ((20 : Int32) &&& 31)) = (202 : Int32) → (ok_X4_markLeaf sz T q ((T.1 (p + 2) (v6.toNatClampNeg)) >>> ((20 : Int32) &&& 31)) ((T.1 (p + 2) (v6.toNatClampNeg)) &&& (1048575 : Int32)) ∧ (ok_X4_push sz T (v_X4_markLeaf T q ((T.1 (p + 2) (v6.toNatClampNeg)) >>> ((20 : Int32) &&& 31)) ((T.1 (p + 2) (v6.toNatClampNeg)) &&& (1048575 : Int32))) ∧ okl_X4_work n sz (F_X4_push T (v_X4_markLeaf T q ((T.1 (p + 2) (v6.toNatClampNeg)) >>> ((20 : Int32) &&& 31)) ((T.1 (p + 2) (v6.toNatClampNeg)) &&& (1048575 : Int32)))) p q v4 (v6 + (1 : Int32))))) ∧ (¬ ((T.1 (p + 2) (v6.toNatClampNeg)) >>> ((20 : Int32) &&& 31)) = (202 : Int32) → ((((T.1 (p + 2) (v6.toNatClampNeg)) >>> ((20 : Int32) &&& 31)) < (213 : Int32) → ((((T.1 (p + 2) (v6.toNatClampNeg)) >>> ((20 : Int32) &&& 31)) = (201 : Int32) → (ok_X4_pieceLeaf sz T q ((T.1 (p + 2) (v6.toNatClampNeg)) >>> ((20 : Int32) &&& 31)) ((T.1 (p + 2) (v6.toNatClampNeg)) &&& (1048575 : Int32)) v4 ∧ (ok_X4_push sz T (v_X4_pieceLeaf T q ((T.1 (p + 2) (v6.toNatClampNeg)) >>> ((20 : Int32) &&& 31)) ((T.1 (p + 2) (v6.toNatClampNeg)) &&& (1048575 : Int32)) v4) ∧ okl_X4_work n sz (F_X4_push T (v_X4_pieceLeaf T q ((T.1 (p + 2) (v6.toNatClampNeg)) >>> ((20 : Int32) &&& 31)) ((T.1 (p + 2) (v6.toNatClampNeg)) &&& (1048575 : Int32)) v4)) p q v4 (v6 + (1 : Int32))))) ∧ (¬ ((T.1 (p + 2) (v6.toNatClampNeg)) >>> ((20 : Int32) &&& 31)) = (201 : Int32) → ((((T.1 (p + 2) (v6.toNatClampNeg)) >>> ((20 : Int32) &&& 31)) < (210 : Int32) → ((¬ ((T.1 (p + 2) (v6.toNatClampNeg)) >>> ((20 : Int32) &&& 31)) = (209 : Int32) → (ok_X4_pop sz T ∧ (ok_X4_pop sz ((F_X4_pop T).2) ∧ (ok_X4_push sz ((F_X4_pop ((F_X4_pop T).2)).2) (v_X4_join ((F_X4_pop ((F_X4_pop T).2)).2) ((T.1 (p + 2) (v6.toNatClampNeg)) >>> ((20 : Int32) &&& 31)) (F_X4_pop ((F_X4_pop T).2)).1 (F_X4_pop T).1) ∧ okl_X4_work n sz (F_X4_push ((F_X4_pop ((F_X4_pop T).2)).2) (v_X4_join ((F_X4_pop ((F_X4_pop T).2)).2) ((T.1 (p + 2) (v6.toNatClampNeg)) >>> ((20 : Int32) &&& 31)) (F_X4_pop ((F_X4_pop T).2)).1 (F_X4_pop T).1)) p q v4 (v6 + (1 : Int32)))))) ∧ (((T.1 (p + 2) (v6.toNatClampNeg)) >>> ((20 : Int32) &&& 31)) = (209 : Int32) → (ok_X4_pop sz T ∧ ((¬ (F_X4_pop T).1 = 0 → (ok_X4_push sz ((F_X4_pop T).2) (0 : Int32) ∧ okl_X4_work n sz (F_X4_push ((F_X4_pop T).2) (0 : Int32)) p q v4 (v6 + (1 : Int32)))) ∧ ((F_X4_pop T).1 = 0 → (ok_X4_push sz ((F_X4_pop T).2) (1 : Int32) ∧ okl_X4_work n sz (F_X4_push ((F_X4_pop T).2) (1 : Int32)) p q v4 (v6 + (1 : Int32))))))))) ∧ (¬ ((T.1 (p + 2) (v6.toNatClampNeg)) >>> ((20 : Int32) &&& 31)) < (210 : Int32) → (ok_X4_pieceLeaf sz T q ((T.1 (p + 2) (v6.toNatClampNeg)) >>> ((20 : Int32) &&& 31)) ((T.1 (p + 2) (v6.toNatClampNeg)) &&& (1048575 : Int32)) v4 ∧ (ok_X4_push sz T (v_X4_pieceLeaf T q ((T.1 (p + 2) (v6.toNatClampNeg)) >>> ((20 : Int32) &&& 31)) ((T.1 (p + 2) (v6.toNatClampNeg)) &&& (1048575 : Int32)) v4) ∧ okl_X4_work n sz (F_X4_push T (v_X4_pieceLeaf T q ((T.1 (p + 2) (v6.toNatClampNeg)) >>> ((20 : Int32) &&& 31)) ((T.1 (p + 2) (v6.toNatClampNeg)) &&& (1048575 : Int32)) v4)) p q v4 (v6 + (1 : Int32))))))))) ∧ (¬ ((T.1 (p + 2) (v6.toNatClampNeg)) >>> ((20 : Int32) &&& 31)) < (213 : Int32) → (ok_X4_markLeaf sz T q ((T.1 (p + 2) (v6.toNatClampNeg)) >>> ((20 : Int32) &&& 31)) ((T.1 (p + 2) (v6.toNatClampNeg)) &&& (1048575 : Int32)) ∧ (ok_X4_push sz T (v_X4_markLeaf T q ((T.1 (p + 2) (v6.toNatClampNeg)) >>> ((20 : Int32) &&& 31)) ((T.1 (p + 2) (v6.toNatClampNeg)) &&& (1048575 : Int32))) ∧ okl_X4_work n sz (F_X4_push T (v_X4_markLeaf T q ((T.1 (p + 2) (v6.toNatClampNeg)) >>> ((20 : Int32) &&& 31)) ((T.1 (p + 2) (v6.toNatClampNeg)) &&& (1048575 : Int32)))) p q v4 (v6 + (1 : Int32))))))))))) ∧ (((T.1 (p + 2) (v6.toNatClampNeg)) >>> ((20 : Int32) &&& 31)) = (59 : Int32) → (ok_X4_pop sz T ∧ True)))))))
theorem vl_X4_work_s (n : Nat) (T : tT) (p : Nat) (q : Nat) (v4 : Int32) (v6 : Int32) : vl_X4_work (n + 1) T p q v4 v6 = (if (T.1 p 3) ≤ v6 then ((F_X4_pop T).1, (F_X4_pop T).2) else (if ((T.1 (p + 2) (v6.toNatClampNeg)) >>> ((20 : Int32) &&& 31)) = (59 : Int32) then ((F_X4_pop T).1, (F_X4_pop T).2) else (if ((T.1 (p + 2) (v6.toNatClampNeg)) >>> ((20 : Int32) &&& 31)) = (2 : Int32) then vl_X4_work n (F_X4_push T (v_X4_markLeaf T q ((T.1 (p + 2) (v6.toNatClampNeg)) >>> ((20 : Int32) &&& 31)) ((T.1 (p + 2) (v6.toNatClampNeg)) &&& (1048575 : Int32)))) p q v4 (v6 + (1 : Int32)) else (if ((T.1 (p + 2) (v6.toNatClampNeg)) >>> ((20 : Int32) &&& 31)) = (202 : Int32) then vl_X4_work n (F_X4_push T (v_X4_markLeaf T q ((T.1 (p + 2) (v6.toNatClampNeg)) >>> ((20 : Int32) &&& 31)) ((T.1 (p + 2) (v6.toNatClampNeg)) &&& (1048575 : Int32)))) p q v4 (v6 + (1 : Int32)) else (if ((T.1 (p + 2) (v6.toNatClampNeg)) >>> ((20 : Int32) &&& 31)) < (213 : Int32) then (if ((T.1 (p + 2) (v6.toNatClampNeg)) >>> ((20 : Int32) &&& 31)) = (201 : Int32) then vl_X4_work n (F_X4_push T (v_X4_pieceLeaf T q ((T.1 (p + 2) (v6.toNatClampNeg)) >>> ((20 : Int32) &&& 31)) ((T.1 (p + 2) (v6.toNatClampNeg)) &&& (1048575 : Int32)) v4)) p q v4 (v6 + (1 : Int32)) else (if ((T.1 (p + 2) (v6.toNatClampNeg)) >>> ((20 : Int32) &&& 31)) < (210 : Int32) then (if ((T.1 (p + 2) (v6.toNatClampNeg)) >>> ((20 : Int32) &&& 31)) = (209 : Int32) then (if (F_X4_pop T).1 = 0 then vl_X4_work n (F_X4_push ((F_X4_pop T).2) (1 : Int32)) p q v4 (v6 + (1 : Int32)) else vl_X4_work n (F_X4_push ((F_X4_pop T).2) (0 : Int32)) p q v4 (v6 + (1 : Int32))) else vl_X4_work n (F_X4_push ((F_X4_pop ((F_X4_pop T).2)).2) (v_X4_join ((F_X4_pop ((F_X4_pop T).2)).2) ((T.1 (p + 2) (v6.toNatClampNeg)) >>> ((20 : Int32) &&& 31)) (F_X4_pop ((F_X4_pop T).2)).1 (F_X4_pop T).1)) p q v4 (v6 + (1 : Int32))) else vl_X4_work n (F_X4_push T (v_X4_pieceLeaf T q ((T.1 (p + 2) (v6.toNatClampNeg)) >>> ((20 : Int32) &&& 31)) ((T.1 (p + 2) (v6.toNatClampNeg)) &&& (1048575 : Int32)) v4)) p q v4 (v6 + (1 : Int32)))) else vl_X4_work n (F_X4_push T (v_X4_markLeaf T q ((T.1 (p + 2) (v6.toNatClampNeg)) >>> ((20 : Int32) &&& 31)) ((T.1 (p + 2) (v6.toNatClampNeg)) &&& (1048575 : Int32)))) p q v4 (v6 + (1 : Int32))))))) := rfl
set_option maxRecDepth 10000 in
theorem lj_X4_work {X : ax_X} {d L sz : Nat} {Q : Int32 → tT → Prop} (hX : ax_ok X mX4_work (d + 3)) (hsz : 161 ≤ sz) {p : Nat} (h_p : tsy sz p) {q : Nat} (h_q : tgr sz q) (hR : ax_Ret X mX4_work (ti L sz Q)) : ∀ (n : Nat) (T : tT) (v4 : Int32) (v6 : Int32), okl_X4_work n sz T p q v4 v6 → Q (vl_X4_work n T p q v4 v6).1 (vl_X4_work n T p q v4 v6).2 → ax_j X 13 [some (.ref 66), some (.ref p), some (.ref q), some (.ref 69), some (.int v4), none, some (.int v6), none, none, none] [] (th L sz T) 0 0 := by
  intro n
  induction n with
  | zero => intro T v4 v6 ok; exact False.elim ok
  | succ n ih =>
    intro T v4 v6 ok hq
    refine s_X4_work_13 hX hR hsz h_p h_q v4 v6 ?_
    unfold okl_X4_work at ok
    refine ⟨fun kq0 => ?_, fun kq0 => ?_⟩
    · replace ok := ok.1 kq0
      refine ⟨_, c_X4_pop hsz   ok.1, ?_⟩
      rintro _ _ ⟨rfl, rfl⟩
      replace ok := ok.2
      have z := hq; rw [vl_X4_work_s, if_pos kq0] at z; exact z
    · replace ok := ok.2 kq0
      refine ⟨ok.1, ?_⟩
      replace ok := ok.2
      refine ⟨ok.1, ?_⟩
      replace ok := ok.2
      refine ⟨fun kq1 => ?_, fun kq1 => ?_⟩
      · replace ok := ok.1 kq1
        refine ⟨fun kq2 => ?_, fun kq2 => ?_⟩
        · replace ok := ok.1 kq2
          refine ⟨_, c_X4_markLeaf hsz h_q ((T.1 (p + 2) (v6.toNatClampNeg)) >>> ((20 : Int32) &&& 31)) ((T.1 (p + 2) (v6.toNatClampNeg)) &&& (1048575 : Int32)) ok.1, ?_⟩
          rintro _ _ ⟨rfl, rfl⟩
          replace ok := ok.2
          refine ⟨_, c_X4_push hsz  (v_X4_markLeaf T q ((T.1 (p + 2) (v6.toNatClampNeg)) >>> ((20 : Int32) &&& 31)) ((T.1 (p + 2) (v6.toNatClampNeg)) &&& (1048575 : Int32))) ok.1, ?_⟩
          rintro _ rfl
          replace ok := ok.2
          have z := hq; rw [vl_X4_work_s, if_neg kq0, if_neg kq1, if_pos kq2] at z; exact ih _ v4 (v6 + (1 : Int32)) ok z
        · replace ok := ok.2 kq2
          refine ⟨fun kq3 => ?_, fun kq3 => ?_⟩
          · replace ok := ok.1 kq3
            refine ⟨_, c_X4_markLeaf hsz h_q ((T.1 (p + 2) (v6.toNatClampNeg)) >>> ((20 : Int32) &&& 31)) ((T.1 (p + 2) (v6.toNatClampNeg)) &&& (1048575 : Int32)) ok.1, ?_⟩
            rintro _ _ ⟨rfl, rfl⟩
            replace ok := ok.2
            refine ⟨_, c_X4_push hsz  (v_X4_markLeaf T q ((T.1 (p + 2) (v6.toNatClampNeg)) >>> ((20 : Int32) &&& 31)) ((T.1 (p + 2) (v6.toNatClampNeg)) &&& (1048575 : Int32))) ok.1, ?_⟩
            rintro _ rfl
            replace ok := ok.2
            have z := hq; rw [vl_X4_work_s, if_neg kq0, if_neg kq1, if_neg kq2, if_pos kq3] at z; exact ih _ v4 (v6 + (1 : Int32)) ok z
          · replace ok := ok.2 kq3
            refine ⟨fun kq4 => ?_, fun kq4 => ?_⟩
            · replace ok := ok.1 kq4
              refine ⟨fun kq5 => ?_, fun kq5 => ?_⟩
              · replace ok := ok.1 kq5
                refine ⟨_, c_X4_pieceLeaf hsz h_q ((T.1 (p + 2) (v6.toNatClampNeg)) >>> ((20 : Int32) &&& 31)) ((T.1 (p + 2) (v6.toNatClampNeg)) &&& (1048575 : Int32)) v4 ok.1, ?_⟩
                rintro _ _ ⟨rfl, rfl⟩
                replace ok := ok.2
                refine ⟨_, c_X4_push hsz  (v_X4_pieceLeaf T q ((T.1 (p + 2) (v6.toNatClampNeg)) >>> ((20 : Int32) &&& 31)) ((T.1 (p + 2) (v6.toNatClampNeg)) &&& (1048575 : Int32)) v4) ok.1, ?_⟩
                rintro _ rfl
                replace ok := ok.2
                have z := hq; rw [vl_X4_work_s, if_neg kq0, if_neg kq1, if_neg kq2, if_neg kq3, if_pos kq4, if_pos kq5] at z; exact ih _ v4 (v6 + (1 : Int32)) ok z
              · replace ok := ok.2 kq5
                refine ⟨fun kq6 => ?_, fun kq6 => ?_⟩
                · replace ok := ok.1 kq6
                  refine ⟨fun kq7 => ?_, fun kq7 => ?_⟩
                  · replace ok := ok.1 kq7
                    refine ⟨_, c_X4_pop hsz   ok.1, ?_⟩
                    rintro _ _ ⟨rfl, rfl⟩
                    replace ok := ok.2
                    refine ⟨_, c_X4_pop hsz   ok.1, ?_⟩
                    rintro _ _ ⟨rfl, rfl⟩
                    replace ok := ok.2
                    refine ⟨_, c_X4_join hsz  ((T.1 (p + 2) (v6.toNatClampNeg)) >>> ((20 : Int32) &&& 31)) (F_X4_pop ((F_X4_pop T).2)).1 (F_X4_pop T).1 , ?_⟩
                    rintro _ _ ⟨rfl, rfl⟩
                    refine ⟨_, c_X4_push hsz  (v_X4_join ((F_X4_pop ((F_X4_pop T).2)).2) ((T.1 (p + 2) (v6.toNatClampNeg)) >>> ((20 : Int32) &&& 31)) (F_X4_pop ((F_X4_pop T).2)).1 (F_X4_pop T).1) ok.1, ?_⟩
                    rintro _ rfl
                    replace ok := ok.2
                    have z := hq; rw [vl_X4_work_s, if_neg kq0, if_neg kq1, if_neg kq2, if_neg kq3, if_pos kq4, if_neg kq5, if_pos kq6, if_neg kq7] at z; exact ih _ v4 (v6 + (1 : Int32)) ok z
                  · replace ok := ok.2 kq7
                    refine ⟨_, c_X4_pop hsz   ok.1, ?_⟩
                    rintro _ _ ⟨rfl, rfl⟩
                    replace ok := ok.2
                    refine ⟨fun kq8 => ?_, fun kq8 => ?_⟩
                    · replace ok := ok.1 kq8
                      refine ⟨_, c_X4_push hsz  (0 : Int32) ok.1, ?_⟩
                      rintro _ rfl
                      replace ok := ok.2
                      have z := hq; rw [vl_X4_work_s, if_neg kq0, if_neg kq1, if_neg kq2, if_neg kq3, if_pos kq4, if_neg kq5, if_pos kq6, if_pos kq7, if_neg kq8] at z; exact ih _ v4 (v6 + (1 : Int32)) ok z
                    · replace ok := ok.2 kq8
                      refine ⟨_, c_X4_push hsz  (1 : Int32) ok.1, ?_⟩
                      rintro _ rfl
                      replace ok := ok.2
                      have z := hq; rw [vl_X4_work_s, if_neg kq0, if_neg kq1, if_neg kq2, if_neg kq3, if_pos kq4, if_neg kq5, if_pos kq6, if_pos kq7, if_pos kq8] at z; exact ih _ v4 (v6 + (1 : Int32)) ok z
                · replace ok := ok.2 kq6
                  refine ⟨_, c_X4_pieceLeaf hsz h_q ((T.1 (p + 2) (v6.toNatClampNeg)) >>> ((20 : Int32) &&& 31)) ((T.1 (p + 2) (v6.toNatClampNeg)) &&& (1048575 : Int32)) v4 ok.1, ?_⟩
                  rintro _ _ ⟨rfl, rfl⟩
                  replace ok := ok.2
                  refine ⟨_, c_X4_push hsz  (v_X4_pieceLeaf T q ((T.1 (p + 2) (v6.toNatClampNeg)) >>> ((20 : Int32) &&& 31)) ((T.1 (p + 2) (v6.toNatClampNeg)) &&& (1048575 : Int32)) v4) ok.1, ?_⟩
                  rintro _ rfl
                  replace ok := ok.2
                  have z := hq; rw [vl_X4_work_s, if_neg kq0, if_neg kq1, if_neg kq2, if_neg kq3, if_pos kq4, if_neg kq5, if_neg kq6] at z; exact ih _ v4 (v6 + (1 : Int32)) ok z
            · replace ok := ok.2 kq4
              refine ⟨_, c_X4_markLeaf hsz h_q ((T.1 (p + 2) (v6.toNatClampNeg)) >>> ((20 : Int32) &&& 31)) ((T.1 (p + 2) (v6.toNatClampNeg)) &&& (1048575 : Int32)) ok.1, ?_⟩
              rintro _ _ ⟨rfl, rfl⟩
              replace ok := ok.2
              refine ⟨_, c_X4_push hsz  (v_X4_markLeaf T q ((T.1 (p + 2) (v6.toNatClampNeg)) >>> ((20 : Int32) &&& 31)) ((T.1 (p + 2) (v6.toNatClampNeg)) &&& (1048575 : Int32))) ok.1, ?_⟩
              rintro _ rfl
              replace ok := ok.2
              have z := hq; rw [vl_X4_work_s, if_neg kq0, if_neg kq1, if_neg kq2, if_neg kq3, if_neg kq4] at z; exact ih _ v4 (v6 + (1 : Int32)) ok z
      · replace ok := ok.2 kq1
        refine ⟨_, c_X4_pop hsz   ok.1, ?_⟩
        rintro _ _ ⟨rfl, rfl⟩
        replace ok := ok.2
        have z := hq; rw [vl_X4_work_s, if_neg kq0, if_pos kq1] at z; exact z
noncomputable def F_X4_work (T : tT) (p : Nat) (q : Nat) (x3 : Int32) (x4 : Int32) : Int32 × tT := vl_X4_work fu (tI T 66 2 (0 : Int32)) p q x3 (if x4 < (0 : Int32) then (0 : Int32) else x4)
noncomputable def ok_X4_work (sz : Nat) (T : tT) (p : Nat) (q : Nat) (x3 : Int32) (x4 : Int32) : Prop := okl_X4_work fu sz (tI T 66 2 (0 : Int32)) p q x3 (if x4 < (0 : Int32) then (0 : Int32) else x4)
set_option maxRecDepth 10000 in
theorem c_X4_work {d L sz : Nat} {T : tT} (hsz : 161 ≤ sz) {p : Nat} (h_p : tsy sz p) {q : Nat} (h_q : tgr sz q) (x3 : Int32) (x4 : Int32) (ok : ok_X4_work sz T p q x3 x4) : tiK (d + 3) mX4_work [.ref 66, .ref p, .ref q, .ref 69, .int x3, .int x4] L sz T (fun r T' => r = (F_X4_work T p q x3 x4).1 ∧ T' = (F_X4_work T p q x3 x4).2) := by
  refine k_X4_work hsz h_p h_q x3 x4 (fun X hX hR => ?_)
  unfold ok_X4_work at ok
  exact lj_X4_work hX hsz h_p h_q hR _ _ x3 (if x4 < (0 : Int32) then (0 : Int32) else x4) ok ⟨by unfold F_X4_work; rfl, by unfold F_X4_work; rfl⟩
noncomputable def vl_X5_hardnessOf : Nat → (tT → Int32 → Int32 → Int32 → Int32 → (Int32 × tT)) × (tT → Int32 → Int32 → Int32 → Int32 → Int32 → Int32 → (Int32 × tT))
  | 0 => ((fun (T : tT)  (v1 : Int32) (v2 : Int32) (v3 : Int32) (v4 : Int32) => (0, T)), (fun (T : tT)  (v1 : Int32) (v2 : Int32) (v3 : Int32) (v4 : Int32) (v5 : Int32) (v6 : Int32) => (0, T)))
  | n + 1 => ((fun (T : tT)  (v1 : Int32) (v2 : Int32) (v3 : Int32) (v4 : Int32) => (if (T.1 93 1) ≤ v4 then (if v3 = 0 then ((-1000 : Int32), T) else ((T.1 100 ((v3 - (1 : Int32)) / (2 : Int32)).toNatClampNeg), T)) else (if (T.1 95 (v4.toNatClampNeg)) = v1 then (if (v_X5_lastOf T v1 (T.1 94 (v4.toNatClampNeg)) (T.1 96 (v4.toNatClampNeg)) (T.1 93 0)) = v4 then (vl_X5_hardnessOf n).2 T v1 v2 v3 v4 (1 : Int32) (0 : Int32) else (vl_X5_hardnessOf n).2 T v1 v2 v3 v4 (0 : Int32) (0 : Int32)) else (vl_X5_hardnessOf n).2 T v1 v2 v3 v4 (0 : Int32) (0 : Int32)))), (fun (T : tT)  (v1 : Int32) (v2 : Int32) (v3 : Int32) (v4 : Int32) (v5 : Int32) (v6 : Int32) => (if v5 = 0 then (vl_X5_hardnessOf n).1 T v1 v2 v3 (v4 + (1 : Int32)) else (if v2 ≤ v6 then (vl_X5_hardnessOf n).1 T v1 v2 v3 (v4 + (1 : Int32)) else (if v6 = v1 then (vl_X5_hardnessOf n).2 T v1 v2 v3 v4 v5 (v6 + (1 : Int32)) else (if (v_X5_lastOf T v6 (T.1 94 (v4.toNatClampNeg)) (T.1 96 (v4.toNatClampNeg)) (T.1 93 0)) = (-1 : Int32) then (vl_X5_hardnessOf n).2 T v1 v2 v3 v4 v5 (v6 + (1 : Int32)) else (vl_X5_hardnessOf n).2 ((F_X5_insertGap T ((T.1 97 ((v_X5_lastOf T v6 (T.1 94 (v4.toNatClampNeg)) (T.1 96 (v4.toNatClampNeg)) (T.1 93 0)).toNatClampNeg)) - (T.1 97 (v4.toNatClampNeg))) v3).2) v1 v2 ((F_X5_insertGap T ((T.1 97 ((v_X5_lastOf T v6 (T.1 94 (v4.toNatClampNeg)) (T.1 96 (v4.toNatClampNeg)) (T.1 93 0)).toNatClampNeg)) - (T.1 97 (v4.toNatClampNeg))) v3).1) v4 v5 (v6 + (1 : Int32))))))))
noncomputable def okl_X5_hardnessOf : Nat → (Nat → tT → Int32 → Int32 → Int32 → Int32 → Prop) × (Nat → tT → Int32 → Int32 → Int32 → Int32 → Int32 → Int32 → Prop)
  | 0 => ((fun (sz : Nat) (T : tT)  (v1 : Int32) (v2 : Int32) (v3 : Int32) (v4 : Int32) => False), (fun (sz : Nat) (T : tT)  (v1 : Int32) (v2 : Int32) (v3 : Int32) (v4 : Int32) (v5 : Int32) (v6 : Int32) => False))
  | n + 1 => ((fun (sz : Nat) (T : tT)  (v1 : Int32) (v2 : Int32) (v3 : Int32) (v4 : Int32) => (((T.1 93 1) ≤ v4 → ((¬ v3 = 0 → vp_in ((v3 - (1 : Int32)) / (2 : Int32)) 200) ∧ (v3 = 0 → True))) ∧ (¬ (T.1 93 1) ≤ v4 → (vp_in v4 200 ∧ ((¬ (T.1 95 (v4.toNatClampNeg)) = v1 → (okl_X5_hardnessOf n).2 sz T v1 v2 v3 v4 (0 : Int32) (0 : Int32)) ∧ ((T.1 95 (v4.toNatClampNeg)) = v1 → (vp_in v4 200 ∧ (vp_in v4 200 ∧ (ok_X5_lastOf sz T v1 (T.1 94 (v4.toNatClampNeg)) (T.1 96 (v4.toNatClampNeg)) (T.1 93 0) ∧ ((¬ (v_X5_lastOf T v1 (T.1 94 (v4.toNatClampNeg)) (T.1 96 (v4.toNatClampNeg)) (T.1 93 0)) = v4 → (okl_X5_hardnessOf n).2 sz T v1 v2 v3 v4 (0 : Int32) (0 : Int32)) ∧ ((v_X5_lastOf T v1 (T.1 94 (v4.toNatClampNeg)) (T.1 96 (v4.toNatClampNeg)) (T.1 93 0)) = v4 → (okl_X5_hardnessOf n).2 sz T v1 v2 v3 v4 (1 : Int32) (0 : Int32)))))))))))), (fun (sz : Nat) (T : tT)  (v1 : Int32) (v2 : Int32) (v3 : Int32) (v4 : Int32) (v5 : Int32) (v6 : Int32) => ((v5 = 0 → (okl_X5_hardnessOf n).1 sz T v1 v2 v3 (v4 + (1 : Int32))) ∧ (¬ v5 = 0 → ((v2 ≤ v6 → (okl_X5_hardnessOf n).1 sz T v1 v2 v3 (v4 + (1 : Int32))) ∧ (¬ v2 ≤ v6 → (vp_in v4 200 ∧ (vp_in v4 200 ∧ (ok_X5_lastOf sz T v6 (T.1 94 (v4.toNatClampNeg)) (T.1 96 (v4.toNatClampNeg)) (T.1 93 0) ∧ ((v6 = v1 → (okl_X5_hardnessOf n).2 sz T v1 v2 v3 v4 v5 (v6 + (1 : Int32))) ∧ (¬ v6 = v1 → (((v_X5_lastOf T v6 (T.1 94 (v4.toNatClampNeg)) (T.1 96 (v4.toNatClampNeg)) (T.1 93 0)) = (-1 : Int32) → (okl_X5_hardnessOf n).2 sz T v1 v2 v3 v4 v5 (v6 + (1 : Int32))) ∧ (¬ (v_X5_lastOf T v6 (T.1 94 (v4.toNatClampNeg)) (T.1 96 (v4.toNatClampNeg)) (T.1 93 0)) = (-1 : Int32) → (vp_in (v_X5_lastOf T v6 (T.1 94 (v4.toNatClampNeg)) (T.1 96 (v4.toNatClampNeg)) (T.1 93 0)) 200 ∧ (vp_in v4 200 ∧ (ok_X5_insertGap sz T ((T.1 97 ((v_X5_lastOf T v6 (T.1 94 (v4.toNatClampNeg)) (T.1 96 (v4.toNatClampNeg)) (T.1 93 0)).toNatClampNeg)) - (T.1 97 (v4.toNatClampNeg))) v3 ∧ (okl_X5_hardnessOf n).2 sz ((F_X5_insertGap T ((T.1 97 ((v_X5_lastOf T v6 (T.1 94 (v4.toNatClampNeg)) (T.1 96 (v4.toNatClampNeg)) (T.1 93 0)).toNatClampNeg)) - (T.1 97 (v4.toNatClampNeg))) v3).2) v1 v2 ((F_X5_insertGap T ((T.1 97 ((v_X5_lastOf T v6 (T.1 94 (v4.toNatClampNeg)) (T.1 96 (v4.toNatClampNeg)) (T.1 93 0)).toNatClampNeg)) - (T.1 97 (v4.toNatClampNeg))) v3).1) v4 v5 (v6 + (1 : Int32))))))))))))))))))
theorem vl_X5_hardnessOf_s0 (n : Nat) (T : tT)  (v1 : Int32) (v2 : Int32) (v3 : Int32) (v4 : Int32) : (vl_X5_hardnessOf (n + 1)).1 T v1 v2 v3 v4 = (if (T.1 93 1) ≤ v4 then (if v3 = 0 then ((-1000 : Int32), T) else ((T.1 100 ((v3 - (1 : Int32)) / (2 : Int32)).toNatClampNeg), T)) else (if (T.1 95 (v4.toNatClampNeg)) = v1 then (if (v_X5_lastOf T v1 (T.1 94 (v4.toNatClampNeg)) (T.1 96 (v4.toNatClampNeg)) (T.1 93 0)) = v4 then (vl_X5_hardnessOf n).2 T v1 v2 v3 v4 (1 : Int32) (0 : Int32) else (vl_X5_hardnessOf n).2 T v1 v2 v3 v4 (0 : Int32) (0 : Int32)) else (vl_X5_hardnessOf n).2 T v1 v2 v3 v4 (0 : Int32) (0 : Int32))) := rfl
theorem okl_X5_hardnessOf_s0 (n sz : Nat) (T : tT)  (v1 : Int32) (v2 : Int32) (v3 : Int32) (v4 : Int32) : (okl_X5_hardnessOf (n + 1)).1 sz T v1 v2 v3 v4 = (((T.1 93 1) ≤ v4 → ((¬ v3 = 0 → vp_in ((v3 - (1 : Int32)) / (2 : Int32)) 200) ∧ (v3 = 0 → True))) ∧ (¬ (T.1 93 1) ≤ v4 → (vp_in v4 200 ∧ ((¬ (T.1 95 (v4.toNatClampNeg)) = v1 → (okl_X5_hardnessOf n).2 sz T v1 v2 v3 v4 (0 : Int32) (0 : Int32)) ∧ ((T.1 95 (v4.toNatClampNeg)) = v1 → (vp_in v4 200 ∧ (vp_in v4 200 ∧ (ok_X5_lastOf sz T v1 (T.1 94 (v4.toNatClampNeg)) (T.1 96 (v4.toNatClampNeg)) (T.1 93 0) ∧ ((¬ (v_X5_lastOf T v1 (T.1 94 (v4.toNatClampNeg)) (T.1 96 (v4.toNatClampNeg)) (T.1 93 0)) = v4 → (okl_X5_hardnessOf n).2 sz T v1 v2 v3 v4 (0 : Int32) (0 : Int32)) ∧ ((v_X5_lastOf T v1 (T.1 94 (v4.toNatClampNeg)) (T.1 96 (v4.toNatClampNeg)) (T.1 93 0)) = v4 → (okl_X5_hardnessOf n).2 sz T v1 v2 v3 v4 (1 : Int32) (0 : Int32))))))))))) := rfl
theorem vl_X5_hardnessOf_s1 (n : Nat) (T : tT)  (v1 : Int32) (v2 : Int32) (v3 : Int32) (v4 : Int32) (v5 : Int32) (v6 : Int32) : (vl_X5_hardnessOf (n + 1)).2 T v1 v2 v3 v4 v5 v6 = (if v5 = 0 then (vl_X5_hardnessOf n).1 T v1 v2 v3 (v4 + (1 : Int32)) else (if v2 ≤ v6 then (vl_X5_hardnessOf n).1 T v1 v2 v3 (v4 + (1 : Int32)) else (if v6 = v1 then (vl_X5_hardnessOf n).2 T v1 v2 v3 v4 v5 (v6 + (1 : Int32)) else (if (v_X5_lastOf T v6 (T.1 94 (v4.toNatClampNeg)) (T.1 96 (v4.toNatClampNeg)) (T.1 93 0)) = (-1 : Int32) then (vl_X5_hardnessOf n).2 T v1 v2 v3 v4 v5 (v6 + (1 : Int32)) else (vl_X5_hardnessOf n).2 ((F_X5_insertGap T ((T.1 97 ((v_X5_lastOf T v6 (T.1 94 (v4.toNatClampNeg)) (T.1 96 (v4.toNatClampNeg)) (T.1 93 0)).toNatClampNeg)) - (T.1 97 (v4.toNatClampNeg))) v3).2) v1 v2 ((F_X5_insertGap T ((T.1 97 ((v_X5_lastOf T v6 (T.1 94 (v4.toNatClampNeg)) (T.1 96 (v4.toNatClampNeg)) (T.1 93 0)).toNatClampNeg)) - (T.1 97 (v4.toNatClampNeg))) v3).1) v4 v5 (v6 + (1 : Int32)))))) := rfl
theorem okl_X5_hardnessOf_s1 (n sz : Nat) (T : tT)  (v1 : Int32) (v2 : Int32) (v3 : Int32) (v4 : Int32) (v5 : Int32) (v6 : Int32) : (okl_X5_hardnessOf (n + 1)).2 sz T v1 v2 v3 v4 v5 v6 = ((v5 = 0 → (okl_X5_hardnessOf n).1 sz T v1 v2 v3 (v4 + (1 : Int32))) ∧ (¬ v5 = 0 → ((v2 ≤ v6 → (okl_X5_hardnessOf n).1 sz T v1 v2 v3 (v4 + (1 : Int32))) ∧ (¬ v2 ≤ v6 → (vp_in v4 200 ∧ (vp_in v4 200 ∧ (ok_X5_lastOf sz T v6 (T.1 94 (v4.toNatClampNeg)) (T.1 96 (v4.toNatClampNeg)) (T.1 93 0) ∧ ((v6 = v1 → (okl_X5_hardnessOf n).2 sz T v1 v2 v3 v4 v5 (v6 + (1 : Int32))) ∧ (¬ v6 = v1 → (((v_X5_lastOf T v6 (T.1 94 (v4.toNatClampNeg)) (T.1 96 (v4.toNatClampNeg)) (T.1 93 0)) = (-1 : Int32) → (okl_X5_hardnessOf n).2 sz T v1 v2 v3 v4 v5 (v6 + (1 : Int32))) ∧ (¬ (v_X5_lastOf T v6 (T.1 94 (v4.toNatClampNeg)) (T.1 96 (v4.toNatClampNeg)) (T.1 93 0)) = (-1 : Int32) → (vp_in (v_X5_lastOf T v6 (T.1 94 (v4.toNatClampNeg)) (T.1 96 (v4.toNatClampNeg)) (T.1 93 0)) 200 ∧ (vp_in v4 200 ∧ (ok_X5_insertGap sz T ((T.1 97 ((v_X5_lastOf T v6 (T.1 94 (v4.toNatClampNeg)) (T.1 96 (v4.toNatClampNeg)) (T.1 93 0)).toNatClampNeg)) - (T.1 97 (v4.toNatClampNeg))) v3 ∧ (okl_X5_hardnessOf n).2 sz ((F_X5_insertGap T ((T.1 97 ((v_X5_lastOf T v6 (T.1 94 (v4.toNatClampNeg)) (T.1 96 (v4.toNatClampNeg)) (T.1 93 0)).toNatClampNeg)) - (T.1 97 (v4.toNatClampNeg))) v3).2) v1 v2 ((F_X5_insertGap T ((T.1 97 ((v_X5_lastOf T v6 (T.1 94 (v4.toNatClampNeg)) (T.1 96 (v4.toNatClampNeg)) (T.1 93 0)).toNatClampNeg)) - (T.1 97 (v4.toNatClampNeg))) v3).1) v4 v5 (v6 + (1 : Int32)))))))))))))))) := rfl
set_option maxRecDepth 10000 in
set_option maxHeartbeats 1000000 in
theorem lj_X5_hardnessOf {X : ax_X} {d L sz : Nat} {Q : Int32 → tT → Prop} (hX : ax_ok X mX5_hardnessOf (d + 3)) (hsz : 161 ≤ sz) (hR : ax_Ret X mX5_hardnessOf (ti L sz Q)) : ∀ n : Nat, (∀ (T : tT)  (v1 : Int32) (v2 : Int32) (v3 : Int32) (v4 : Int32), (okl_X5_hardnessOf n).1 sz T v1 v2 v3 v4 → Q ((vl_X5_hardnessOf n).1 T v1 v2 v3 v4).1 ((vl_X5_hardnessOf n).1 T v1 v2 v3 v4).2 → ax_j X 5 [some (.ref 93), some (.int v1), some (.int v2), some (.int v3), some (.int v4), none, none, none] [] (th L sz T) 0 0) ∧ (∀ (T : tT)  (v1 : Int32) (v2 : Int32) (v3 : Int32) (v4 : Int32) (v5 : Int32) (v6 : Int32), (okl_X5_hardnessOf n).2 sz T v1 v2 v3 v4 v5 v6 → Q ((vl_X5_hardnessOf n).2 T v1 v2 v3 v4 v5 v6).1 ((vl_X5_hardnessOf n).2 T v1 v2 v3 v4 v5 v6).2 → ax_j X 63 [some (.ref 93), some (.int v1), some (.int v2), some (.int v3), some (.int v4), some (.int v5), some (.int v6), none] [] (th L sz T) 0 0) := by
  intro n
  induction n with
  | zero => exact ⟨(by intros; rename_i ok _; exact False.elim ok), (by intros; rename_i ok _; exact False.elim ok)⟩
  | succ n ih =>
    refine ⟨?_, ?_⟩
    · intro T  v1 v2 v3 v4 ok hq
      refine s_X5_hardnessOf_5 hX hR hsz   v1 v2 v3 v4 ?_
      rw [okl_X5_hardnessOf_s0] at ok
      refine ⟨fun kq0 => ?_, fun kq0 => ?_⟩
      · replace ok := ok.1 kq0
        refine ⟨fun kq1 => ?_, fun kq1 => ?_⟩
        · replace ok := ok.1 kq1
          refine ⟨ok, ?_⟩
          have z := hq; rw [vl_X5_hardnessOf_s0, if_pos kq0, if_neg kq1] at z; exact z
        · replace ok := ok.2 kq1
          have z := hq; rw [vl_X5_hardnessOf_s0, if_pos kq0, if_pos kq1] at z; exact z
      · replace ok := ok.2 kq0
        refine ⟨ok.1, ?_⟩
        replace ok := ok.2
        refine ⟨fun kq1 => ?_, fun kq1 => ?_⟩
        · replace ok := ok.1 kq1
          have z := hq; rw [vl_X5_hardnessOf_s0, if_neg kq0, if_neg kq1] at z; exact ih.2 _  v1 v2 v3 v4 (0 : Int32) (0 : Int32) ok z
        · replace ok := ok.2 kq1
          refine ⟨ok.1, ?_⟩
          replace ok := ok.2
          refine ⟨ok.1, ?_⟩
          replace ok := ok.2
          refine ⟨_, c_X5_lastOf hsz  v1 (T.1 94 (v4.toNatClampNeg)) (T.1 96 (v4.toNatClampNeg)) (T.1 93 0) ok.1, ?_⟩
          rintro _ _ ⟨rfl, rfl⟩
          replace ok := ok.2
          refine ⟨fun kq2 => ?_, fun kq2 => ?_⟩
          · replace ok := ok.1 kq2
            have z := hq; rw [vl_X5_hardnessOf_s0, if_neg kq0, if_pos kq1, if_neg kq2] at z; exact ih.2 _  v1 v2 v3 v4 (0 : Int32) (0 : Int32) ok z
          · replace ok := ok.2 kq2
            have z := hq; rw [vl_X5_hardnessOf_s0, if_neg kq0, if_pos kq1, if_pos kq2] at z; exact ih.2 _  v1 v2 v3 v4 (1 : Int32) (0 : Int32) ok z
    · intro T  v1 v2 v3 v4 v5 v6 ok hq
      refine s_X5_hardnessOf_63 hX hR hsz   v1 v2 v3 v4 v5 v6 ?_
      rw [okl_X5_hardnessOf_s1] at ok
      refine ⟨fun kq0 => ?_, fun kq0 => ?_⟩
      · replace ok := ok.1 kq0
        have z := hq; rw [vl_X5_hardnessOf_s1, if_pos kq0] at z; exact ih.1 _  v1 v2 v3 (v4 + (1 : Int32)) ok z
      · replace ok := ok.2 kq0
        refine ⟨fun kq1 => ?_, fun kq1 => ?_⟩
        · replace ok := ok.1 kq1
          have z := hq; rw [vl_X5_hardnessOf_s1, if_neg kq0, if_pos kq1] at z; exact ih.1 _  v1 v2 v3 (v4 + (1 : Int32)) ok z
        · replace ok := ok.2 kq1
          refine ⟨ok.1, ?_⟩
          replace ok := ok.2
          refine ⟨ok.1, ?_⟩
          replace ok := ok.2
          refine ⟨_, c_X5_lastOf hsz  v6 (T.1 94 (v4.toNatClampNeg)) (T.1 96 (v4.toNatClampNeg)) (T.1 93 0) ok.1, ?_⟩
          rintro _ _ ⟨rfl, rfl⟩
          replace ok := ok.2
          refine ⟨fun kq2 => ?_, fun kq2 => ?_⟩
          · replace ok := ok.1 kq2
            have z := hq; rw [vl_X5_hardnessOf_s1, if_neg kq0, if_neg kq1, if_pos kq2] at z; exact ih.2 _  v1 v2 v3 v4 v5 (v6 + (1 : Int32)) ok z
          · replace ok := ok.2 kq2
            refine ⟨fun kq3 => ?_, fun kq3 => ?_⟩
            · replace ok := ok.1 kq3
              have z := hq; rw [vl_X5_hardnessOf_s1, if_neg kq0, if_neg kq1, if_neg kq2, if_pos kq3] at z; exact ih.2 _  v1 v2 v3 v4 v5 (v6 + (1 : Int32)) ok z
            · replace ok := ok.2 kq3
              refine ⟨ok.1, ?_⟩
              replace ok := ok.2
              refine ⟨ok.1, ?_⟩
              replace ok := ok.2
              refine ⟨_, c_X5_insertGap hsz  ((T.1 97 ((v_X5_lastOf T v6 (T.1 94 (v4.toNatClampNeg)) (T.1 96 (v4.toNatClampNeg)) (T.1 93 0)).toNatClampNeg)) - (T.1 97 (v4.toNatClampNeg))) v3 ok.1, ?_⟩
              rintro _ _ ⟨rfl, rfl⟩
              replace ok := ok.2
              have z := hq; rw [vl_X5_hardnessOf_s1, if_neg kq0, if_neg kq1, if_neg kq2, if_neg kq3] at z; exact ih.2 _  v1 v2 ((F_X5_insertGap T ((T.1 97 ((v_X5_lastOf T v6 (T.1 94 (v4.toNatClampNeg)) (T.1 96 (v4.toNatClampNeg)) (T.1 93 0)).toNatClampNeg)) - (T.1 97 (v4.toNatClampNeg))) v3).1) v4 v5 (v6 + (1 : Int32)) ok z
noncomputable def F_X5_hardnessOf (T : tT)  (x0 : Int32) (x1 : Int32) : (Int32 × tT) := (vl_X5_hardnessOf fu).1 T x0 x1 (0 : Int32) (0 : Int32)
noncomputable def ok_X5_hardnessOf (sz : Nat) (T : tT)  (x0 : Int32) (x1 : Int32) : Prop := (okl_X5_hardnessOf fu).1 sz T x0 x1 (0 : Int32) (0 : Int32)
set_option maxRecDepth 10000 in
theorem c_X5_hardnessOf {d L sz : Nat} {T : tT} (hsz : 161 ≤ sz) (x0 : Int32) (x1 : Int32) (ok : ok_X5_hardnessOf sz T x0 x1) : tiK (d + 3) mX5_hardnessOf [.ref 93, .int x0, .int x1] L sz T (fun r T' => r = (F_X5_hardnessOf T x0 x1).1 ∧ T' = (F_X5_hardnessOf T x0 x1).2) := by
  refine k_X5_hardnessOf hsz  x0 x1 (fun X hX hR => ?_)
  unfold ok_X5_hardnessOf at ok
  exact (lj_X5_hardnessOf hX hsz  hR _).1 _  x0 x1 (0 : Int32) (0 : Int32) ok ⟨by unfold F_X5_hardnessOf; rfl, by unfold F_X5_hardnessOf; rfl⟩
noncomputable def F_X10_hardness (T : tT)  (x0 : Int32) : Int32 × tT := (if (v_X1_hasExaminer T x0) = 0 then ((-1000 : Int32), T) else ((F_X5_hardnessOf T x0 (T.1 79 1)).1, (F_X5_hardnessOf T x0 (T.1 79 1)).2))
noncomputable def ok_X10_hardness (sz : Nat) (T : tT)  (x0 : Int32) : Prop := ((¬ (v_X1_hasExaminer T x0) = 0 → (ok_X5_hardnessOf sz T x0 (T.1 79 1) ∧ True)) ∧ ((v_X1_hasExaminer T x0) = 0 → True))
set_option maxRecDepth 10000 in
theorem c_X10_hardness {d L sz : Nat} {T : tT} (hsz : 161 ≤ sz) (x0 : Int32) (ok : ok_X10_hardness sz T x0) : tiK (d + 4) mX10_hardness [.ref 2, .int x0] L sz T (fun r T' => r = (F_X10_hardness T x0).1 ∧ T' = (F_X10_hardness T x0).2) := by
  refine k_X10_hardness hsz  x0 ?_
  unfold ok_X10_hardness at ok
  refine ⟨_, c_X1_hasExaminer hsz  x0 , ?_⟩
  rintro _ _ ⟨rfl, rfl⟩
  refine ⟨fun kq0 => ?_, fun kq0 => ?_⟩
  · replace ok := ok.1 kq0
    refine ⟨_, c_X5_hardnessOf hsz  x0 (T.1 79 1) ok.1, ?_⟩
    rintro _ _ ⟨rfl, rfl⟩
    replace ok := ok.2
    exact ⟨by unfold F_X10_hardness; first | (rw [if_neg kq0]; done) | (rw [if_neg kq0]; rfl), by unfold F_X10_hardness; first | (rw [if_neg kq0]; done) | (rw [if_neg kq0]; rfl)⟩
  · replace ok := ok.2 kq0
    exact ⟨by unfold F_X10_hardness; first | (rw [if_pos kq0]; done) | (rw [if_pos kq0]; rfl), by unfold F_X10_hardness; first | (rw [if_pos kq0]; done) | (rw [if_pos kq0]; rfl)⟩
noncomputable def vl_X7_orderByDay : Nat → (tT → Int32 → tT) × (tT → Int32 → Int32 → tT)
  | 0 => ((fun (T : tT)  (v2 : Int32) => T), (fun (T : tT)  (v2 : Int32) (v3 : Int32) => T))
  | n + 1 => ((fun (T : tT)  (v2 : Int32) => (if (T.1 79 2) ≤ v2 then T else (vl_X7_orderByDay n).2 T v2 v2)), (fun (T : tT)  (v2 : Int32) (v3 : Int32) => (if v3 ≤ 0 then (vl_X7_orderByDay n).1 (tI T 88 (v3.toNatClampNeg) v2) (v2 + (1 : Int32)) else (if (T.1 83 (T.1 88 (v3 - (1 : Int32)).toNatClampNeg).toNatClampNeg) ≤ (T.1 83 (v2.toNatClampNeg)) then (vl_X7_orderByDay n).1 (tI T 88 (v3.toNatClampNeg) v2) (v2 + (1 : Int32)) else (vl_X7_orderByDay n).2 (tI T 88 (v3.toNatClampNeg) (T.1 88 (v3 - (1 : Int32)).toNatClampNeg)) v2 (v3 + (-1 : Int32))))))
noncomputable def okl_X7_orderByDay : Nat → (Nat → tT → Int32 → Prop) × (Nat → tT → Int32 → Int32 → Prop)
  | 0 => ((fun (sz : Nat) (T : tT)  (v2 : Int32) => False), (fun (sz : Nat) (T : tT)  (v2 : Int32) (v3 : Int32) => False))
  | n + 1 => ((fun (sz : Nat) (T : tT)  (v2 : Int32) => (((T.1 79 2) ≤ v2 → True) ∧ (¬ (T.1 79 2) ≤ v2 → (okl_X7_orderByDay n).2 sz T v2 v2))), (fun (sz : Nat) (T : tT)  (v2 : Int32) (v3 : Int32) => ((v3 ≤ 0 → (vp_in v3 9 ∧ (okl_X7_orderByDay n).1 sz (tI T 88 (v3.toNatClampNeg) v2) (v2 + (1 : Int32)))) ∧ (¬ v3 ≤ 0 → (vp_in (v3 - (1 : Int32)) 9 ∧ (vp_in (T.1 88 (v3 - (1 : Int32)).toNatClampNeg) 9 ∧ (vp_in v2 9 ∧ (((T.1 83 (T.1 88 (v3 - (1 : Int32)).toNatClampNeg).toNatClampNeg) ≤ (T.1 83 (v2.toNatClampNeg)) → (vp_in v3 9 ∧ (okl_X7_orderByDay n).1 sz (tI T 88 (v3.toNatClampNeg) v2) (v2 + (1 : Int32)))) ∧ (¬ (T.1 83 (T.1 88 (v3 - (1 : Int32)).toNatClampNeg).toNatClampNeg) ≤ (T.1 83 (v2.toNatClampNeg)) → (vp_in (v3 - (1 : Int32)) 9 ∧ (vp_in v3 9 ∧ (okl_X7_orderByDay n).2 sz (tI T 88 (v3.toNatClampNeg) (T.1 88 (v3 - (1 : Int32)).toNatClampNeg)) v2 (v3 + (-1 : Int32)))))))))))))
theorem vl_X7_orderByDay_s0 (n : Nat) (T : tT)  (v2 : Int32) : (vl_X7_orderByDay (n + 1)).1 T v2 = (if (T.1 79 2) ≤ v2 then T else (vl_X7_orderByDay n).2 T v2 v2) := rfl
theorem okl_X7_orderByDay_s0 (n sz : Nat) (T : tT)  (v2 : Int32) : (okl_X7_orderByDay (n + 1)).1 sz T v2 = (((T.1 79 2) ≤ v2 → True) ∧ (¬ (T.1 79 2) ≤ v2 → (okl_X7_orderByDay n).2 sz T v2 v2)) := rfl
theorem vl_X7_orderByDay_s1 (n : Nat) (T : tT)  (v2 : Int32) (v3 : Int32) : (vl_X7_orderByDay (n + 1)).2 T v2 v3 = (if v3 ≤ 0 then (vl_X7_orderByDay n).1 (tI T 88 (v3.toNatClampNeg) v2) (v2 + (1 : Int32)) else (if (T.1 83 (T.1 88 (v3 - (1 : Int32)).toNatClampNeg).toNatClampNeg) ≤ (T.1 83 (v2.toNatClampNeg)) then (vl_X7_orderByDay n).1 (tI T 88 (v3.toNatClampNeg) v2) (v2 + (1 : Int32)) else (vl_X7_orderByDay n).2 (tI T 88 (v3.toNatClampNeg) (T.1 88 (v3 - (1 : Int32)).toNatClampNeg)) v2 (v3 + (-1 : Int32)))) := rfl
theorem okl_X7_orderByDay_s1 (n sz : Nat) (T : tT)  (v2 : Int32) (v3 : Int32) : (okl_X7_orderByDay (n + 1)).2 sz T v2 v3 = ((v3 ≤ 0 → (vp_in v3 9 ∧ (okl_X7_orderByDay n).1 sz (tI T 88 (v3.toNatClampNeg) v2) (v2 + (1 : Int32)))) ∧ (¬ v3 ≤ 0 → (vp_in (v3 - (1 : Int32)) 9 ∧ (vp_in (T.1 88 (v3 - (1 : Int32)).toNatClampNeg) 9 ∧ (vp_in v2 9 ∧ (((T.1 83 (T.1 88 (v3 - (1 : Int32)).toNatClampNeg).toNatClampNeg) ≤ (T.1 83 (v2.toNatClampNeg)) → (vp_in v3 9 ∧ (okl_X7_orderByDay n).1 sz (tI T 88 (v3.toNatClampNeg) v2) (v2 + (1 : Int32)))) ∧ (¬ (T.1 83 (T.1 88 (v3 - (1 : Int32)).toNatClampNeg).toNatClampNeg) ≤ (T.1 83 (v2.toNatClampNeg)) → (vp_in (v3 - (1 : Int32)) 9 ∧ (vp_in v3 9 ∧ (okl_X7_orderByDay n).2 sz (tI T 88 (v3.toNatClampNeg) (T.1 88 (v3 - (1 : Int32)).toNatClampNeg)) v2 (v3 + (-1 : Int32))))))))))) := rfl
set_option maxRecDepth 10000 in
set_option maxHeartbeats 1000000 in
theorem lj_X7_orderByDay {X : ax_X} {d L sz : Nat} {Q : tT → Prop} (hX : ax_ok X mX7_orderByDay d) (hsz : 161 ≤ sz) (hR : ax_Ret X mX7_orderByDay (tv L sz Q)) : ∀ n : Nat, (∀ (T : tT)  (v2 : Int32), (okl_X7_orderByDay n).1 sz T v2 → Q ((vl_X7_orderByDay n).1 T v2) → ax_j X 2 [some (.ref 85), some (.ref 79), some (.int v2), none] [] (th L sz T) 0 0) ∧ (∀ (T : tT)  (v2 : Int32) (v3 : Int32), (okl_X7_orderByDay n).2 sz T v2 v3 → Q ((vl_X7_orderByDay n).2 T v2 v3) → ax_j X 12 [some (.ref 85), some (.ref 79), some (.int v2), some (.int v3)] [] (th L sz T) 0 0) := by
  intro n
  induction n with
  | zero => exact ⟨(by intros; rename_i ok _; exact False.elim ok), (by intros; rename_i ok _; exact False.elim ok)⟩
  | succ n ih =>
    refine ⟨?_, ?_⟩
    · intro T  v2 ok hq
      refine s_X7_orderByDay_2 hX hR hsz   v2 ?_
      rw [okl_X7_orderByDay_s0] at ok
      refine ⟨fun kq0 => ?_, fun kq0 => ?_⟩
      · replace ok := ok.1 kq0
        have z := hq; rw [vl_X7_orderByDay_s0, if_pos kq0] at z; exact z
      · replace ok := ok.2 kq0
        have z := hq; rw [vl_X7_orderByDay_s0, if_neg kq0] at z; exact ih.2 _  v2 v2 ok z
    · intro T  v2 v3 ok hq
      refine s_X7_orderByDay_12 hX hR hsz   v2 v3 ?_
      rw [okl_X7_orderByDay_s1] at ok
      refine ⟨fun kq0 => ?_, fun kq0 => ?_⟩
      · replace ok := ok.1 kq0
        refine ⟨ok.1, ?_⟩
        replace ok := ok.2
        have z := hq; rw [vl_X7_orderByDay_s1, if_pos kq0] at z; exact ih.1 _  (v2 + (1 : Int32)) ok z
      · replace ok := ok.2 kq0
        refine ⟨ok.1, ?_⟩
        replace ok := ok.2
        refine ⟨ok.1, ?_⟩
        replace ok := ok.2
        refine ⟨ok.1, ?_⟩
        replace ok := ok.2
        refine ⟨fun kq1 => ?_, fun kq1 => ?_⟩
        · replace ok := ok.1 kq1
          refine ⟨ok.1, ?_⟩
          replace ok := ok.2
          have z := hq; rw [vl_X7_orderByDay_s1, if_neg kq0, if_pos kq1] at z; exact ih.1 _  (v2 + (1 : Int32)) ok z
        · replace ok := ok.2 kq1
          refine ⟨ok.1, ?_⟩
          replace ok := ok.2
          refine ⟨ok.1, ?_⟩
          replace ok := ok.2
          have z := hq; rw [vl_X7_orderByDay_s1, if_neg kq0, if_neg kq1] at z; exact ih.2 _  v2 (v3 + (-1 : Int32)) ok z
noncomputable def F_X7_orderByDay (T : tT)   : tT := (vl_X7_orderByDay fu).1 T (0 : Int32)
noncomputable def ok_X7_orderByDay (sz : Nat) (T : tT)   : Prop := (okl_X7_orderByDay fu).1 sz T (0 : Int32)
set_option maxRecDepth 10000 in
theorem c_X7_orderByDay {d L sz : Nat} {T : tT} (hsz : 161 ≤ sz)  (ok : ok_X7_orderByDay sz T) : tvK d mX7_orderByDay [.ref 85, .ref 79] L sz T (fun T' => T' = F_X7_orderByDay T) := by
  refine k_X7_orderByDay hsz   (fun X hX hR => ?_)
  unfold ok_X7_orderByDay at ok
  exact (lj_X7_orderByDay hX hsz  hR _).1 _  (0 : Int32) ok (by unfold F_X7_orderByDay; rfl)
noncomputable def vl_X10_firstUnmet : Nat → (tT → Nat → Nat → Int32 → Int32 → (Int32 × tT))
  | 0 => (fun (T : tT) (c0 : Nat) (c1 : Nat) (v1 : Int32) (v4 : Int32) => (0, T))
  | n + 1 => (fun (T : tT) (c0 : Nat) (c1 : Nat) (v1 : Int32) (v4 : Int32) => (if (T.1 c1 3) ≤ v4 then ((-1 : Int32), T) else (if (F_X4_work T c0 c1 v1 (T.1 (c1 + 6) (v4.toNatClampNeg))).1 = 0 then (v4, (F_X4_work T c0 c1 v1 (T.1 (c1 + 6) (v4.toNatClampNeg))).2) else (vl_X10_firstUnmet n) ((F_X4_work T c0 c1 v1 (T.1 (c1 + 6) (v4.toNatClampNeg))).2) c0 c1 v1 (v4 + (1 : Int32)))))
noncomputable def okl_X10_firstUnmet : Nat → (Nat → tT → Nat → Nat → Int32 → Int32 → Prop)
  | 0 => (fun (sz : Nat) (T : tT) (c0 : Nat) (c1 : Nat) (v1 : Int32) (v4 : Int32) => False)
  | n + 1 => (fun (sz : Nat) (T : tT) (c0 : Nat) (c1 : Nat) (v1 : Int32) (v4 : Int32) => (((T.1 c1 3) ≤ v4 → True) ∧ (¬ (T.1 c1 3) ≤ v4 → (vp_in v4 8 ∧ (ok_X4_work sz T c0 c1 v1 (T.1 (c1 + 6) (v4.toNatClampNeg)) ∧ ((¬ (F_X4_work T c0 c1 v1 (T.1 (c1 + 6) (v4.toNatClampNeg))).1 = 0 → (okl_X10_firstUnmet n) sz ((F_X4_work T c0 c1 v1 (T.1 (c1 + 6) (v4.toNatClampNeg))).2) c0 c1 v1 (v4 + (1 : Int32))) ∧ ((F_X4_work T c0 c1 v1 (T.1 (c1 + 6) (v4.toNatClampNeg))).1 = 0 → True)))))))
theorem vl_X10_firstUnmet_s0 (n : Nat) (T : tT) (c0 : Nat) (c1 : Nat) (v1 : Int32) (v4 : Int32) : (vl_X10_firstUnmet (n + 1)) T c0 c1 v1 v4 = (if (T.1 c1 3) ≤ v4 then ((-1 : Int32), T) else (if (F_X4_work T c0 c1 v1 (T.1 (c1 + 6) (v4.toNatClampNeg))).1 = 0 then (v4, (F_X4_work T c0 c1 v1 (T.1 (c1 + 6) (v4.toNatClampNeg))).2) else (vl_X10_firstUnmet n) ((F_X4_work T c0 c1 v1 (T.1 (c1 + 6) (v4.toNatClampNeg))).2) c0 c1 v1 (v4 + (1 : Int32)))) := rfl
theorem okl_X10_firstUnmet_s0 (n sz : Nat) (T : tT) (c0 : Nat) (c1 : Nat) (v1 : Int32) (v4 : Int32) : (okl_X10_firstUnmet (n + 1)) sz T c0 c1 v1 v4 = (((T.1 c1 3) ≤ v4 → True) ∧ (¬ (T.1 c1 3) ≤ v4 → (vp_in v4 8 ∧ (ok_X4_work sz T c0 c1 v1 (T.1 (c1 + 6) (v4.toNatClampNeg)) ∧ ((¬ (F_X4_work T c0 c1 v1 (T.1 (c1 + 6) (v4.toNatClampNeg))).1 = 0 → (okl_X10_firstUnmet n) sz ((F_X4_work T c0 c1 v1 (T.1 (c1 + 6) (v4.toNatClampNeg))).2) c0 c1 v1 (v4 + (1 : Int32))) ∧ ((F_X4_work T c0 c1 v1 (T.1 (c1 + 6) (v4.toNatClampNeg))).1 = 0 → True)))))) := rfl
set_option maxRecDepth 10000 in
set_option maxHeartbeats 1000000 in
theorem lj_X10_firstUnmet {X : ax_X} {d L sz : Nat} {Q : Int32 → tT → Prop} (hX : ax_ok X mX10_firstUnmet (d + 4)) (hsz : 161 ≤ sz) (hR : ax_Ret X mX10_firstUnmet (ti L sz Q)) : ∀ n : Nat, (∀ (T : tT) (c0 : Nat) (h_c0 : tsy sz c0) (c1 : Nat) (h_c1 : tgr sz c1) (v1 : Int32) (v4 : Int32), (okl_X10_firstUnmet n) sz T c0 c1 v1 v4 → Q ((vl_X10_firstUnmet n) T c0 c1 v1 v4).1 ((vl_X10_firstUnmet n) T c0 c1 v1 v4).2 → ax_j X 35 [some (.ref 2), some (.int v1), some (.ref c0), some (.ref c1), some (.int v4)] [] (th L sz T) 0 0) := by
  intro n
  induction n with
  | zero => exact (by intros; rename_i ok _; exact False.elim ok)
  | succ n ih =>
    intro T c0 h_c0 c1 h_c1 v1 v4 ok hq
    refine s_X10_firstUnmet_35 hX hR hsz  h_c0 h_c1 v1 v4 ?_
    rw [okl_X10_firstUnmet_s0] at ok
    refine ⟨fun kq0 => ?_, fun kq0 => ?_⟩
    · replace ok := ok.1 kq0
      have z := hq; rw [vl_X10_firstUnmet_s0, if_pos kq0] at z; exact z
    · replace ok := ok.2 kq0
      refine ⟨ok.1, ?_⟩
      replace ok := ok.2
      refine ⟨_, c_X4_work hsz h_c0 h_c1 v1 (T.1 (c1 + 6) (v4.toNatClampNeg)) ok.1, ?_⟩
      rintro _ _ ⟨rfl, rfl⟩
      replace ok := ok.2
      refine ⟨fun kq1 => ?_, fun kq1 => ?_⟩
      · replace ok := ok.1 kq1
        have z := hq; rw [vl_X10_firstUnmet_s0, if_neg kq0, if_neg kq1] at z; exact ih _ c0 h_c0 c1 h_c1 v1 (v4 + (1 : Int32)) ok z
      · replace ok := ok.2 kq1
        have z := hq; rw [vl_X10_firstUnmet_s0, if_neg kq0, if_pos kq1] at z; exact z
noncomputable def F_X10_firstUnmet (T : tT)  (x0 : Int32) : (Int32 × tT) := (match (T.2.2 65 (T.1 71 (x0.toNatClampNeg)).toNatClampNeg) with | none => (match (v_X10_gradeOf T x0) with | none => ((-2 : Int32), T) | some p3 => ((-2 : Int32), T)) | some p1 => (match (v_X10_gradeOf T x0) with | none => ((-2 : Int32), T) | some p5 => (vl_X10_firstUnmet fu) T p1 p5 x0 (0 : Int32)))
noncomputable def ok_X10_firstUnmet (sz : Nat) (T : tT)  (x0 : Int32) : Prop := (vp_in x0 40 ∧ (vp_in (T.1 71 (x0.toNatClampNeg)) 4 ∧ (((T.2.2 65 (T.1 71 (x0.toNatClampNeg)).toNatClampNeg) = none → (ok_X10_gradeOf sz T x0 ∧ (((v_X10_gradeOf T x0) = none → True) ∧ (∀ p3, (v_X10_gradeOf T x0) = some p3 → tgr sz p3 ∧ True)))) ∧ (∀ p1, (T.2.2 65 (T.1 71 (x0.toNatClampNeg)).toNatClampNeg) = some p1 → tsy sz p1 ∧ (ok_X10_gradeOf sz T x0 ∧ (((v_X10_gradeOf T x0) = none → True) ∧ (∀ p5, (v_X10_gradeOf T x0) = some p5 → tgr sz p5 ∧ (okl_X10_firstUnmet fu) sz T p1 p5 x0 (0 : Int32))))))))
set_option maxRecDepth 10000 in
theorem c_X10_firstUnmet {d L sz : Nat} {T : tT} (hsz : 161 ≤ sz) (x0 : Int32) (ok : ok_X10_firstUnmet sz T x0) : tiK (d + 4) mX10_firstUnmet [.ref 2, .int x0] L sz T (fun r T' => r = (F_X10_firstUnmet T x0).1 ∧ T' = (F_X10_firstUnmet T x0).2) := by
  refine k_X10_firstUnmet hsz  x0 (fun X hX hR => ?_)
  unfold ok_X10_firstUnmet at ok
  refine ⟨ok.1, ?_⟩
  replace ok := ok.2
  refine ⟨ok.1, ?_⟩
  replace ok := ok.2
  refine ⟨fun kq0 => ?_, fun p1 kq0 => ?_⟩
  · replace ok := ok.1 kq0
    refine ⟨_, c_X10_gradeOf hsz  x0 ok.1, ?_⟩
    rintro _ _ ⟨rfl, rfl⟩
    replace ok := ok.2
    refine ⟨fun kq1 => ?_, fun p3 kq1 => ?_⟩
    · replace ok := ok.1 kq1
      exact ⟨by unfold F_X10_firstUnmet; first | (simp only [kq0, kq1]; done) | (simp only [kq0, kq1]; rfl), by unfold F_X10_firstUnmet; first | (simp only [kq0, kq1]; done) | (simp only [kq0, kq1]; rfl)⟩
    · obtain ⟨h_p3, ok⟩ := ok.2 p3 kq1
      refine ⟨h_p3, ?_⟩
      exact ⟨by unfold F_X10_firstUnmet; first | (simp only [kq0, kq1]; done) | (simp only [kq0, kq1]; rfl), by unfold F_X10_firstUnmet; first | (simp only [kq0, kq1]; done) | (simp only [kq0, kq1]; rfl)⟩
  · obtain ⟨h_p1, ok⟩ := ok.2 p1 kq0
    refine ⟨h_p1, ?_⟩
    refine ⟨_, c_X10_gradeOf hsz  x0 ok.1, ?_⟩
    rintro _ _ ⟨rfl, rfl⟩
    replace ok := ok.2
    refine ⟨fun kq1 => ?_, fun p5 kq1 => ?_⟩
    · replace ok := ok.1 kq1
      exact ⟨by unfold F_X10_firstUnmet; first | (simp only [kq0, kq1]; done) | (simp only [kq0, kq1]; rfl), by unfold F_X10_firstUnmet; first | (simp only [kq0, kq1]; done) | (simp only [kq0, kq1]; rfl)⟩
    · obtain ⟨h_p5, ok⟩ := ok.2 p5 kq1
      refine ⟨h_p5, ?_⟩
      exact (lj_X10_firstUnmet hX hsz  hR _) _ p1 h_p1 p5 h_p5 x0 (0 : Int32) ok ⟨by unfold F_X10_firstUnmet; simp only [kq0, kq1], by unfold F_X10_firstUnmet; simp only [kq0, kq1]⟩
noncomputable def F_X10_judge (T : tT)  (x0 : Int32) : Int32 × tT := (if (v_X2_has T x0) = 0 then ((-3 : Int32), T) else ((F_X10_firstUnmet T x0).1, (F_X10_firstUnmet T x0).2))
noncomputable def ok_X10_judge (sz : Nat) (T : tT)  (x0 : Int32) : Prop := (((v_X2_has T x0) = 0 → True) ∧ (¬ (v_X2_has T x0) = 0 → (ok_X10_firstUnmet sz T x0 ∧ True)))
set_option maxRecDepth 10000 in
theorem c_X10_judge {d L sz : Nat} {T : tT} (hsz : 161 ≤ sz) (x0 : Int32) (ok : ok_X10_judge sz T x0) : tiK (d + 5) mX10_judge [.ref 2, .int x0] L sz T (fun r T' => r = (F_X10_judge T x0).1 ∧ T' = (F_X10_judge T x0).2) := by
  refine k_X10_judge hsz  x0 ?_
  unfold ok_X10_judge at ok
  refine ⟨_, c_X2_has hsz  x0 , ?_⟩
  rintro _ _ ⟨rfl, rfl⟩
  refine ⟨fun kq0 => ?_, fun kq0 => ?_⟩
  · replace ok := ok.1 kq0
    exact ⟨by unfold F_X10_judge; first | (rw [if_pos kq0]; done) | (rw [if_pos kq0]; rfl), by unfold F_X10_judge; first | (rw [if_pos kq0]; done) | (rw [if_pos kq0]; rfl)⟩
  · replace ok := ok.2 kq0
    refine ⟨_, c_X10_firstUnmet hsz  x0 ok.1, ?_⟩
    rintro _ _ ⟨rfl, rfl⟩
    replace ok := ok.2
    exact ⟨by unfold F_X10_judge; first | (rw [if_neg kq0]; done) | (rw [if_neg kq0]; rfl), by unfold F_X10_judge; first | (rw [if_neg kq0]; done) | (rw [if_neg kq0]; rfl)⟩
noncomputable def vl_X10_resultOf : Nat → (tT → Nat → Nat → Int32 → Int32 → Int32 → (Int32 × tT))
  | 0 => (fun (T : tT) (c0 : Nat) (c1 : Nat) (v1 : Int32) (v2 : Int32) (v5 : Int32) => (0, T))
  | n + 1 => (fun (T : tT) (c0 : Nat) (c1 : Nat) (v1 : Int32) (v2 : Int32) (v5 : Int32) => (if (T.1 c1 2) ≤ v5 then (if (T.1 c1 5) = (-1 : Int32) then (if (T.1 c1 6) = (-1 : Int32) then ((1 : Int32), T) else (if (F_X4_work T c0 c1 v1 (T.1 c1 6)).1 = 0 then ((1 : Int32), (F_X4_work T c0 c1 v1 (T.1 c1 6)).2) else ((2 : Int32), (F_X4_work T c0 c1 v1 (T.1 c1 6)).2))) else (if (F_X4_work T c0 c1 v1 (T.1 c1 5)).1 = 0 then ((0 : Int32), (F_X4_work T c0 c1 v1 (T.1 c1 5)).2) else (if ((F_X4_work T c0 c1 v1 (T.1 c1 5)).2.1 c1 6) = (-1 : Int32) then ((1 : Int32), (F_X4_work T c0 c1 v1 (T.1 c1 5)).2) else (if (F_X4_work ((F_X4_work T c0 c1 v1 (T.1 c1 5)).2) c0 c1 v1 ((F_X4_work T c0 c1 v1 (T.1 c1 5)).2.1 c1 6)).1 = 0 then ((1 : Int32), (F_X4_work ((F_X4_work T c0 c1 v1 (T.1 c1 5)).2) c0 c1 v1 ((F_X4_work T c0 c1 v1 (T.1 c1 5)).2.1 c1 6)).2) else ((2 : Int32), (F_X4_work ((F_X4_work T c0 c1 v1 (T.1 c1 5)).2) c0 c1 v1 ((F_X4_work T c0 c1 v1 (T.1 c1 5)).2.1 c1 6)).2))))) else (if (v_X5_knownPoints T v1 v5 v2) = (-1 : Int32) then ((-1 : Int32), T) else (vl_X10_resultOf n) (tI T 67 (v5.toNatClampNeg) (v_X5_knownPoints T v1 v5 v2)) c0 c1 v1 v2 (v5 + (1 : Int32)))))
noncomputable def okl_X10_resultOf : Nat → (Nat → tT → Nat → Nat → Int32 → Int32 → Int32 → Prop)
  | 0 => (fun (sz : Nat) (T : tT) (c0 : Nat) (c1 : Nat) (v1 : Int32) (v2 : Int32) (v5 : Int32) => False)
  | n + 1 => (fun (sz : Nat) (T : tT) (c0 : Nat) (c1 : Nat) (v1 : Int32) (v2 : Int32) (v5 : Int32) => (((T.1 c1 2) ≤ v5 → (((T.1 c1 5) = (-1 : Int32) → (((T.1 c1 6) = (-1 : Int32) → True) ∧ (¬ (T.1 c1 6) = (-1 : Int32) → (ok_X4_work sz T c0 c1 v1 (T.1 c1 6) ∧ True)))) ∧ (¬ (T.1 c1 5) = (-1 : Int32) → (ok_X4_work sz T c0 c1 v1 (T.1 c1 5) ∧ ((¬ (F_X4_work T c0 c1 v1 (T.1 c1 5)).1 = 0 → ((((F_X4_work T c0 c1 v1 (T.1 c1 5)).2.1 c1 6) = (-1 : Int32) → True) ∧ (¬ ((F_X4_work T c0 c1 v1 (T.1 c1 5)).2.1 c1 6) = (-1 : Int32) → (ok_X4_work sz ((F_X4_work T c0 c1 v1 (T.1 c1 5)).2) c0 c1 v1 ((F_X4_work T c0 c1 v1 (T.1 c1 5)).2.1 c1 6) ∧ True)))) ∧ ((F_X4_work T c0 c1 v1 (T.1 c1 5)).1 = 0 → True)))))) ∧ (¬ (T.1 c1 2) ≤ v5 → (ok_X5_knownPoints sz T v1 v5 v2 ∧ ((¬ (v_X5_knownPoints T v1 v5 v2) = (-1 : Int32) → (vp_in v5 6 ∧ (okl_X10_resultOf n) sz (tI T 67 (v5.toNatClampNeg) (v_X5_knownPoints T v1 v5 v2)) c0 c1 v1 v2 (v5 + (1 : Int32)))) ∧ ((v_X5_knownPoints T v1 v5 v2) = (-1 : Int32) → True))))))
theorem vl_X10_resultOf_s0 (n : Nat) (T : tT) (c0 : Nat) (c1 : Nat) (v1 : Int32) (v2 : Int32) (v5 : Int32) : (vl_X10_resultOf (n + 1)) T c0 c1 v1 v2 v5 = (if (T.1 c1 2) ≤ v5 then (if (T.1 c1 5) = (-1 : Int32) then (if (T.1 c1 6) = (-1 : Int32) then ((1 : Int32), T) else (if (F_X4_work T c0 c1 v1 (T.1 c1 6)).1 = 0 then ((1 : Int32), (F_X4_work T c0 c1 v1 (T.1 c1 6)).2) else ((2 : Int32), (F_X4_work T c0 c1 v1 (T.1 c1 6)).2))) else (if (F_X4_work T c0 c1 v1 (T.1 c1 5)).1 = 0 then ((0 : Int32), (F_X4_work T c0 c1 v1 (T.1 c1 5)).2) else (if ((F_X4_work T c0 c1 v1 (T.1 c1 5)).2.1 c1 6) = (-1 : Int32) then ((1 : Int32), (F_X4_work T c0 c1 v1 (T.1 c1 5)).2) else (if (F_X4_work ((F_X4_work T c0 c1 v1 (T.1 c1 5)).2) c0 c1 v1 ((F_X4_work T c0 c1 v1 (T.1 c1 5)).2.1 c1 6)).1 = 0 then ((1 : Int32), (F_X4_work ((F_X4_work T c0 c1 v1 (T.1 c1 5)).2) c0 c1 v1 ((F_X4_work T c0 c1 v1 (T.1 c1 5)).2.1 c1 6)).2) else ((2 : Int32), (F_X4_work ((F_X4_work T c0 c1 v1 (T.1 c1 5)).2) c0 c1 v1 ((F_X4_work T c0 c1 v1 (T.1 c1 5)).2.1 c1 6)).2))))) else (if (v_X5_knownPoints T v1 v5 v2) = (-1 : Int32) then ((-1 : Int32), T) else (vl_X10_resultOf n) (tI T 67 (v5.toNatClampNeg) (v_X5_knownPoints T v1 v5 v2)) c0 c1 v1 v2 (v5 + (1 : Int32)))) := rfl
theorem okl_X10_resultOf_s0 (n sz : Nat) (T : tT) (c0 : Nat) (c1 : Nat) (v1 : Int32) (v2 : Int32) (v5 : Int32) : (okl_X10_resultOf (n + 1)) sz T c0 c1 v1 v2 v5 = (((T.1 c1 2) ≤ v5 → (((T.1 c1 5) = (-1 : Int32) → (((T.1 c1 6) = (-1 : Int32) → True) ∧ (¬ (T.1 c1 6) = (-1 : Int32) → (ok_X4_work sz T c0 c1 v1 (T.1 c1 6) ∧ True)))) ∧ (¬ (T.1 c1 5) = (-1 : Int32) → (ok_X4_work sz T c0 c1 v1 (T.1 c1 5) ∧ ((¬ (F_X4_work T c0 c1 v1 (T.1 c1 5)).1 = 0 → ((((F_X4_work T c0 c1 v1 (T.1 c1 5)).2.1 c1 6) = (-1 : Int32) → True) ∧ (¬ ((F_X4_work T c0 c1 v1 (T.1 c1 5)).2.1 c1 6) = (-1 : Int32) → (ok_X4_work sz ((F_X4_work T c0 c1 v1 (T.1 c1 5)).2) c0 c1 v1 ((F_X4_work T c0 c1 v1 (T.1 c1 5)).2.1 c1 6) ∧ True)))) ∧ ((F_X4_work T c0 c1 v1 (T.1 c1 5)).1 = 0 → True)))))) ∧ (¬ (T.1 c1 2) ≤ v5 → (ok_X5_knownPoints sz T v1 v5 v2 ∧ ((¬ (v_X5_knownPoints T v1 v5 v2) = (-1 : Int32) → (vp_in v5 6 ∧ (okl_X10_resultOf n) sz (tI T 67 (v5.toNatClampNeg) (v_X5_knownPoints T v1 v5 v2)) c0 c1 v1 v2 (v5 + (1 : Int32)))) ∧ ((v_X5_knownPoints T v1 v5 v2) = (-1 : Int32) → True))))) := rfl
set_option maxRecDepth 10000 in
set_option maxHeartbeats 1000000 in
theorem lj_X10_resultOf {X : ax_X} {d L sz : Nat} {Q : Int32 → tT → Prop} (hX : ax_ok X mX10_resultOf (d + 5)) (hsz : 161 ≤ sz) (hR : ax_Ret X mX10_resultOf (ti L sz Q)) : ∀ n : Nat, (∀ (T : tT) (c0 : Nat) (h_c0 : tsy sz c0) (c1 : Nat) (h_c1 : tgr sz c1) (v1 : Int32) (v2 : Int32) (v5 : Int32), (okl_X10_resultOf n) sz T c0 c1 v1 v2 v5 → Q ((vl_X10_resultOf n) T c0 c1 v1 v2 v5).1 ((vl_X10_resultOf n) T c0 c1 v1 v2 v5).2 → ax_j X 45 [some (.ref 2), some (.int v1), some (.int v2), some (.ref c0), some (.ref c1), some (.int v5), none] [] (th L sz T) 0 0) := by
  intro n
  induction n with
  | zero => exact (by intros; rename_i ok _; exact False.elim ok)
  | succ n ih =>
    intro T c0 h_c0 c1 h_c1 v1 v2 v5 ok hq
    refine s_X10_resultOf_45 hX hR hsz  h_c0 h_c1 v1 v2 v5 ?_
    rw [okl_X10_resultOf_s0] at ok
    refine ⟨fun kq0 => ?_, fun kq0 => ?_⟩
    · replace ok := ok.1 kq0
      refine ⟨fun kq1 => ?_, fun kq1 => ?_⟩
      · replace ok := ok.1 kq1
        refine ⟨fun kq2 => ?_, fun kq2 => ?_⟩
        · replace ok := ok.1 kq2
          have z := hq; rw [vl_X10_resultOf_s0, if_pos kq0, if_pos kq1, if_pos kq2] at z; exact z
        · replace ok := ok.2 kq2
          refine ⟨_, c_X4_work hsz h_c0 h_c1 v1 (T.1 c1 6) ok.1, ?_⟩
          rintro _ _ ⟨rfl, rfl⟩
          replace ok := ok.2
          refine ⟨fun kq3 => ?_, fun kq3 => ?_⟩
          · have z := hq; rw [vl_X10_resultOf_s0, if_pos kq0, if_pos kq1, if_neg kq2, if_pos kq3] at z; exact z
          · have z := hq; rw [vl_X10_resultOf_s0, if_pos kq0, if_pos kq1, if_neg kq2, if_neg kq3] at z; exact z
      · replace ok := ok.2 kq1
        refine ⟨_, c_X4_work hsz h_c0 h_c1 v1 (T.1 c1 5) ok.1, ?_⟩
        rintro _ _ ⟨rfl, rfl⟩
        replace ok := ok.2
        refine ⟨fun kq2 => ?_, fun kq2 => ?_⟩
        · replace ok := ok.1 kq2
          refine ⟨fun kq3 => ?_, fun kq3 => ?_⟩
          · replace ok := ok.1 kq3
            have z := hq; rw [vl_X10_resultOf_s0, if_pos kq0, if_neg kq1, if_neg kq2, if_pos kq3] at z; exact z
          · replace ok := ok.2 kq3
            refine ⟨_, c_X4_work hsz h_c0 h_c1 v1 ((F_X4_work T c0 c1 v1 (T.1 c1 5)).2.1 c1 6) ok.1, ?_⟩
            rintro _ _ ⟨rfl, rfl⟩
            replace ok := ok.2
            refine ⟨fun kq4 => ?_, fun kq4 => ?_⟩
            · have z := hq; rw [vl_X10_resultOf_s0, if_pos kq0, if_neg kq1, if_neg kq2, if_neg kq3, if_pos kq4] at z; exact z
            · have z := hq; rw [vl_X10_resultOf_s0, if_pos kq0, if_neg kq1, if_neg kq2, if_neg kq3, if_neg kq4] at z; exact z
        · replace ok := ok.2 kq2
          have z := hq; rw [vl_X10_resultOf_s0, if_pos kq0, if_neg kq1, if_pos kq2] at z; exact z
    · replace ok := ok.2 kq0
      refine ⟨_, c_X5_knownPoints hsz  v1 v5 v2 ok.1, ?_⟩
      rintro _ _ ⟨rfl, rfl⟩
      replace ok := ok.2
      refine ⟨fun kq1 => ?_, fun kq1 => ?_⟩
      · replace ok := ok.1 kq1
        refine ⟨ok.1, ?_⟩
        replace ok := ok.2
        have z := hq; rw [vl_X10_resultOf_s0, if_neg kq0, if_neg kq1] at z; exact ih _ c0 h_c0 c1 h_c1 v1 v2 (v5 + (1 : Int32)) ok z
      · replace ok := ok.2 kq1
        have z := hq; rw [vl_X10_resultOf_s0, if_neg kq0, if_pos kq1] at z; exact z
noncomputable def F_X10_resultOf (T : tT)  (x0 : Int32) (x1 : Int32) : (Int32 × tT) := (match (T.2.2 65 (T.1 71 (x0.toNatClampNeg)).toNatClampNeg) with | none => (match (v_X10_gradeOf T x0) with | none => ((-1 : Int32), T) | some p3 => ((-1 : Int32), T)) | some p1 => (match (v_X10_gradeOf T x0) with | none => ((-1 : Int32), T) | some p5 => (if (F_X10_firstUnmet T x0).1 = (-1 : Int32) then (vl_X10_resultOf fu) ((F_X10_firstUnmet T x0).2) p1 p5 x0 x1 (0 : Int32) else ((-1 : Int32), (F_X10_firstUnmet T x0).2))))
noncomputable def ok_X10_resultOf (sz : Nat) (T : tT)  (x0 : Int32) (x1 : Int32) : Prop := (vp_in x0 40 ∧ (vp_in (T.1 71 (x0.toNatClampNeg)) 4 ∧ (((T.2.2 65 (T.1 71 (x0.toNatClampNeg)).toNatClampNeg) = none → (ok_X10_gradeOf sz T x0 ∧ (((v_X10_gradeOf T x0) = none → True) ∧ (∀ p3, (v_X10_gradeOf T x0) = some p3 → tgr sz p3 ∧ True)))) ∧ (∀ p1, (T.2.2 65 (T.1 71 (x0.toNatClampNeg)).toNatClampNeg) = some p1 → tsy sz p1 ∧ (ok_X10_gradeOf sz T x0 ∧ (((v_X10_gradeOf T x0) = none → True) ∧ (∀ p5, (v_X10_gradeOf T x0) = some p5 → tgr sz p5 ∧ (ok_X10_firstUnmet sz T x0 ∧ (((F_X10_firstUnmet T x0).1 = (-1 : Int32) → (okl_X10_resultOf fu) sz ((F_X10_firstUnmet T x0).2) p1 p5 x0 x1 (0 : Int32)) ∧ (¬ (F_X10_firstUnmet T x0).1 = (-1 : Int32) → True))))))))))
set_option maxRecDepth 10000 in
theorem c_X10_resultOf {d L sz : Nat} {T : tT} (hsz : 161 ≤ sz) (x0 : Int32) (x1 : Int32) (ok : ok_X10_resultOf sz T x0 x1) : tiK (d + 5) mX10_resultOf [.ref 2, .int x0, .int x1] L sz T (fun r T' => r = (F_X10_resultOf T x0 x1).1 ∧ T' = (F_X10_resultOf T x0 x1).2) := by
  refine k_X10_resultOf hsz  x0 x1 (fun X hX hR => ?_)
  unfold ok_X10_resultOf at ok
  refine ⟨ok.1, ?_⟩
  replace ok := ok.2
  refine ⟨ok.1, ?_⟩
  replace ok := ok.2
  refine ⟨fun kq0 => ?_, fun p1 kq0 => ?_⟩
  · replace ok := ok.1 kq0
    refine ⟨_, c_X10_gradeOf hsz  x0 ok.1, ?_⟩
    rintro _ _ ⟨rfl, rfl⟩
    replace ok := ok.2
    refine ⟨fun kq1 => ?_, fun p3 kq1 => ?_⟩
    · replace ok := ok.1 kq1
      exact ⟨by unfold F_X10_resultOf; first | (simp only [kq0, kq1]; done) | (simp only [kq0, kq1]; rfl), by unfold F_X10_resultOf; first | (simp only [kq0, kq1]; done) | (simp only [kq0, kq1]; rfl)⟩
    · obtain ⟨h_p3, ok⟩ := ok.2 p3 kq1
      refine ⟨h_p3, ?_⟩
      exact ⟨by unfold F_X10_resultOf; first | (simp only [kq0, kq1]; done) | (simp only [kq0, kq1]; rfl), by unfold F_X10_resultOf; first | (simp only [kq0, kq1]; done) | (simp only [kq0, kq1]; rfl)⟩
  · obtain ⟨h_p1, ok⟩ := ok.2 p1 kq0
    refine ⟨h_p1, ?_⟩
    refine ⟨_, c_X10_gradeOf hsz  x0 ok.1, ?_⟩
    rintro _ _ ⟨rfl, rfl⟩
    replace ok := ok.2
    refine ⟨fun kq1 => ?_, fun p5 kq1 => ?_⟩
    · replace ok := ok.1 kq1
      exact ⟨by unfold F_X10_resultOf; first | (simp only [kq0, kq1]; done) | (simp only [kq0, kq1]; rfl), by unfold F_X10_resultOf; first | (simp only [kq0, kq1]; done) | (simp only [kq0, kq1]; rfl)⟩
    · obtain ⟨h_p5, ok⟩ := ok.2 p5 kq1
      refine ⟨h_p5, ?_⟩
      refine ⟨_, c_X10_firstUnmet hsz  x0 ok.1, ?_⟩
      rintro _ _ ⟨rfl, rfl⟩
      replace ok := ok.2
      refine ⟨fun kq2 => ?_, fun kq2 => ?_⟩
      · replace ok := ok.1 kq2
        exact (lj_X10_resultOf hX hsz  hR _) _ p1 h_p1 p5 h_p5 x0 x1 (0 : Int32) ok ⟨by unfold F_X10_resultOf; simp only [kq0, kq1, if_pos kq2], by unfold F_X10_resultOf; simp only [kq0, kq1, if_pos kq2]⟩
      · replace ok := ok.2 kq2
        exact ⟨by unfold F_X10_resultOf; first | (simp only [kq0, kq1, if_neg kq2]; done) | (simp only [kq0, kq1, if_neg kq2]; rfl), by unfold F_X10_resultOf; first | (simp only [kq0, kq1, if_neg kq2]; done) | (simp only [kq0, kq1, if_neg kq2]; rfl)⟩
noncomputable def F_X10_certify (T : tT)  (x0 : Int32) : Int32 × tT := (if (v_X2_has T x0) = 0 then ((-1 : Int32), T) else (if (F_X10_resultOf T x0 (T.1 93 0)).1 < (1 : Int32) then ((-1 : Int32), (F_X10_resultOf T x0 (T.1 93 0)).2) else (if (v_X0_anyUpTo ((F_X10_resultOf T x0 (T.1 93 0)).2) x0 (F_X10_resultOf T x0 (T.1 93 0)).1) = 0 then ((F_X0_give ((F_X10_resultOf T x0 (T.1 93 0)).2) x0 ((F_X10_resultOf T x0 (T.1 93 0)).2.1 93 0) (F_X10_resultOf T x0 (T.1 93 0)).1).1, (F_X0_give ((F_X10_resultOf T x0 (T.1 93 0)).2) x0 ((F_X10_resultOf T x0 (T.1 93 0)).2.1 93 0) (F_X10_resultOf T x0 (T.1 93 0)).1).2) else ((-1 : Int32), (F_X10_resultOf T x0 (T.1 93 0)).2))))
noncomputable def ok_X10_certify (sz : Nat) (T : tT)  (x0 : Int32) : Prop := ((¬ (v_X2_has T x0) = 0 → (ok_X10_resultOf sz T x0 (T.1 93 0) ∧ (((F_X10_resultOf T x0 (T.1 93 0)).1 < (1 : Int32) → True) ∧ (¬ (F_X10_resultOf T x0 (T.1 93 0)).1 < (1 : Int32) → (ok_X0_anyUpTo sz ((F_X10_resultOf T x0 (T.1 93 0)).2) x0 (F_X10_resultOf T x0 (T.1 93 0)).1 ∧ (((v_X0_anyUpTo ((F_X10_resultOf T x0 (T.1 93 0)).2) x0 (F_X10_resultOf T x0 (T.1 93 0)).1) = 0 → (ok_X0_give sz ((F_X10_resultOf T x0 (T.1 93 0)).2) x0 ((F_X10_resultOf T x0 (T.1 93 0)).2.1 93 0) (F_X10_resultOf T x0 (T.1 93 0)).1 ∧ True)) ∧ (¬ (v_X0_anyUpTo ((F_X10_resultOf T x0 (T.1 93 0)).2) x0 (F_X10_resultOf T x0 (T.1 93 0)).1) = 0 → True))))))) ∧ ((v_X2_has T x0) = 0 → True))
set_option maxRecDepth 10000 in
theorem c_X10_certify {d L sz : Nat} {T : tT} (hsz : 161 ≤ sz) (x0 : Int32) (ok : ok_X10_certify sz T x0) : tiK (d + 6) mX10_certify [.ref 2, .int x0] L sz T (fun r T' => r = (F_X10_certify T x0).1 ∧ T' = (F_X10_certify T x0).2) := by
  refine k_X10_certify hsz  x0 ?_
  unfold ok_X10_certify at ok
  refine ⟨_, c_X2_has hsz  x0 , ?_⟩
  rintro _ _ ⟨rfl, rfl⟩
  refine ⟨fun kq0 => ?_, fun kq0 => ?_⟩
  · replace ok := ok.1 kq0
    refine ⟨_, c_X10_resultOf hsz  x0 (T.1 93 0) ok.1, ?_⟩
    rintro _ _ ⟨rfl, rfl⟩
    replace ok := ok.2
    refine ⟨fun kq1 => ?_, fun kq1 => ?_⟩
    · replace ok := ok.1 kq1
      exact ⟨by unfold F_X10_certify; first | (rw [if_neg kq0, if_pos kq1]; done) | (rw [if_neg kq0, if_pos kq1]; rfl), by unfold F_X10_certify; first | (rw [if_neg kq0, if_pos kq1]; done) | (rw [if_neg kq0, if_pos kq1]; rfl)⟩
    · replace ok := ok.2 kq1
      refine ⟨_, c_X0_anyUpTo hsz  x0 (F_X10_resultOf T x0 (T.1 93 0)).1 ok.1, ?_⟩
      rintro _ _ ⟨rfl, rfl⟩
      replace ok := ok.2
      refine ⟨fun kq2 => ?_, fun kq2 => ?_⟩
      · replace ok := ok.1 kq2
        refine ⟨_, c_X0_give hsz  x0 ((F_X10_resultOf T x0 (T.1 93 0)).2.1 93 0) (F_X10_resultOf T x0 (T.1 93 0)).1 ok.1, ?_⟩
        rintro _ _ ⟨rfl, rfl⟩
        replace ok := ok.2
        exact ⟨by unfold F_X10_certify; first | (rw [if_neg kq0, if_neg kq1, if_pos kq2]; done) | (rw [if_neg kq0, if_neg kq1, if_pos kq2]; rfl), by unfold F_X10_certify; first | (rw [if_neg kq0, if_neg kq1, if_pos kq2]; done) | (rw [if_neg kq0, if_neg kq1, if_pos kq2]; rfl)⟩
      · replace ok := ok.2 kq2
        exact ⟨by unfold F_X10_certify; first | (rw [if_neg kq0, if_neg kq1, if_neg kq2]; done) | (rw [if_neg kq0, if_neg kq1, if_neg kq2]; rfl), by unfold F_X10_certify; first | (rw [if_neg kq0, if_neg kq1, if_neg kq2]; done) | (rw [if_neg kq0, if_neg kq1, if_neg kq2]; rfl)⟩
  · replace ok := ok.2 kq0
    exact ⟨by unfold F_X10_certify; first | (rw [if_pos kq0]; done) | (rw [if_pos kq0]; rfl), by unfold F_X10_certify; first | (rw [if_pos kq0]; done) | (rw [if_pos kq0]; rfl)⟩
noncomputable def F_X10_holds (T : tT)  (x0 : Int32) (x1 : Int32) : Int32 × tT := (if (v_X0_has T x0) = 0 then ((-1 : Int32), T) else (if x1 < (T.1 103 (x0 - (1 : Int32)).toNatClampNeg) then ((0 : Int32), T) else (if (F_X10_resultOf T (T.1 102 (x0 - (1 : Int32)).toNatClampNeg) x1).1 < (T.1 104 (x0 - (1 : Int32)).toNatClampNeg) then ((0 : Int32), (F_X10_resultOf T (T.1 102 (x0 - (1 : Int32)).toNatClampNeg) x1).2) else ((1 : Int32), (F_X10_resultOf T (T.1 102 (x0 - (1 : Int32)).toNatClampNeg) x1).2))))
noncomputable def ok_X10_holds (sz : Nat) (T : tT)  (x0 : Int32) (x1 : Int32) : Prop := ((¬ (v_X0_has T x0) = 0 → (vp_in (x0 - (1 : Int32)) 60 ∧ ((x1 < (T.1 103 (x0 - (1 : Int32)).toNatClampNeg) → vp_in (x0 - (1 : Int32)) 60) ∧ (¬ x1 < (T.1 103 (x0 - (1 : Int32)).toNatClampNeg) → (vp_in (x0 - (1 : Int32)) 60 ∧ (vp_in (x0 - (1 : Int32)) 60 ∧ (ok_X10_resultOf sz T (T.1 102 (x0 - (1 : Int32)).toNatClampNeg) x1 ∧ True))))))) ∧ ((v_X0_has T x0) = 0 → True))
set_option maxRecDepth 10000 in
theorem c_X10_holds {d L sz : Nat} {T : tT} (hsz : 161 ≤ sz) (x0 : Int32) (x1 : Int32) (ok : ok_X10_holds sz T x0 x1) : tiK (d + 6) mX10_holds [.ref 2, .int x0, .int x1] L sz T (fun r T' => r = (F_X10_holds T x0 x1).1 ∧ T' = (F_X10_holds T x0 x1).2) := by
  refine k_X10_holds hsz  x0 x1 ?_
  unfold ok_X10_holds at ok
  refine ⟨_, c_X0_has hsz  x0 , ?_⟩
  rintro _ _ ⟨rfl, rfl⟩
  refine ⟨fun kq0 => ?_, fun kq0 => ?_⟩
  · replace ok := ok.1 kq0
    refine ⟨ok.1, ?_⟩
    replace ok := ok.2
    refine ⟨fun kq1 => ?_, fun kq1 => ?_⟩
    · replace ok := ok.1 kq1
      refine ⟨ok, ?_⟩
      exact ⟨by unfold F_X10_holds; first | (rw [if_neg kq0, if_pos kq1]; done) | (rw [if_neg kq0, if_pos kq1]; rfl), by unfold F_X10_holds; first | (rw [if_neg kq0, if_pos kq1]; done) | (rw [if_neg kq0, if_pos kq1]; rfl)⟩
    · replace ok := ok.2 kq1
      refine ⟨ok.1, ?_⟩
      replace ok := ok.2
      refine ⟨ok.1, ?_⟩
      replace ok := ok.2
      refine ⟨_, c_X10_resultOf hsz  (T.1 102 (x0 - (1 : Int32)).toNatClampNeg) x1 ok.1, ?_⟩
      rintro _ _ ⟨rfl, rfl⟩
      replace ok := ok.2
      refine ⟨fun kq2 => ?_, fun kq2 => ?_⟩
      · exact ⟨by unfold F_X10_holds; first | (rw [if_neg kq0, if_neg kq1, if_pos kq2]; done) | (rw [if_neg kq0, if_neg kq1, if_pos kq2]; rfl), by unfold F_X10_holds; first | (rw [if_neg kq0, if_neg kq1, if_pos kq2]; done) | (rw [if_neg kq0, if_neg kq1, if_pos kq2]; rfl)⟩
      · exact ⟨by unfold F_X10_holds; first | (rw [if_neg kq0, if_neg kq1, if_neg kq2]; done) | (rw [if_neg kq0, if_neg kq1, if_neg kq2]; rfl), by unfold F_X10_holds; first | (rw [if_neg kq0, if_neg kq1, if_neg kq2]; done) | (rw [if_neg kq0, if_neg kq1, if_neg kq2]; rfl)⟩
  · replace ok := ok.2 kq0
    exact ⟨by unfold F_X10_holds; first | (rw [if_pos kq0]; done) | (rw [if_pos kq0]; rfl), by unfold F_X10_holds; first | (rw [if_pos kq0]; done) | (rw [if_pos kq0]; rfl)⟩
noncomputable def F_X10_result (T : tT)  (x0 : Int32) (x1 : Int32) : Int32 × tT := (if (v_X2_has T x0) = 0 then ((-1 : Int32), T) else ((F_X10_resultOf T x0 x1).1, (F_X10_resultOf T x0 x1).2))
noncomputable def ok_X10_result (sz : Nat) (T : tT)  (x0 : Int32) (x1 : Int32) : Prop := (((v_X2_has T x0) = 0 → True) ∧ (¬ (v_X2_has T x0) = 0 → (ok_X10_resultOf sz T x0 x1 ∧ True)))
set_option maxRecDepth 10000 in
theorem c_X10_result {d L sz : Nat} {T : tT} (hsz : 161 ≤ sz) (x0 : Int32) (x1 : Int32) (ok : ok_X10_result sz T x0 x1) : tiK (d + 6) mX10_result [.ref 2, .int x0, .int x1] L sz T (fun r T' => r = (F_X10_result T x0 x1).1 ∧ T' = (F_X10_result T x0 x1).2) := by
  refine k_X10_result hsz  x0 x1 ?_
  unfold ok_X10_result at ok
  refine ⟨_, c_X2_has hsz  x0 , ?_⟩
  rintro _ _ ⟨rfl, rfl⟩
  refine ⟨fun kq0 => ?_, fun kq0 => ?_⟩
  · replace ok := ok.1 kq0
    exact ⟨by unfold F_X10_result; first | (rw [if_pos kq0]; done) | (rw [if_pos kq0]; rfl), by unfold F_X10_result; first | (rw [if_pos kq0]; done) | (rw [if_pos kq0]; rfl)⟩
  · replace ok := ok.2 kq0
    refine ⟨_, c_X10_resultOf hsz  x0 x1 ok.1, ?_⟩
    rintro _ _ ⟨rfl, rfl⟩
    replace ok := ok.2
    exact ⟨by unfold F_X10_result; first | (rw [if_neg kq0]; done) | (rw [if_neg kq0]; rfl), by unfold F_X10_result; first | (rw [if_neg kq0]; done) | (rw [if_neg kq0]; rfl)⟩
noncomputable def vl_X11_hardness : Nat → (tT → Int32 → Int32 → Int32 → (Int32 × tT)) × (tT → Int32 → Int32 → Int32 → (Int32 × tT)) × (tT → Int32 → Int32 → Int32 → Int32 → (Int32 × tT)) × (tT → Int32 → Int32 → Int32 → Int32 → Int32 → Int32 → (Int32 × tT)) × (tT → Int32 → Int32 → Int32 → Int32 → Int32 → Int32 → (Int32 × tT))
  | 0 => ((fun (T : tT)  (v1 : Int32) (v2 : Int32) (v3 : Int32) => (0, T)), (fun (T : tT)  (v2 : Int32) (v3 : Int32) (v4 : Int32) => (0, T)), (fun (T : tT)  (v1 : Int32) (v2 : Int32) (v3 : Int32) (v4 : Int32) => (0, T)), (fun (T : tT)  (v2 : Int32) (v3 : Int32) (v4 : Int32) (v5 : Int32) (v6 : Int32) (v7 : Int32) => (0, T)), (fun (T : tT)  (v1 : Int32) (v2 : Int32) (v3 : Int32) (v4 : Int32) (v5 : Int32) (v6 : Int32) => (0, T)))
  | n + 1 => ((fun (T : tT)  (v1 : Int32) (v2 : Int32) (v3 : Int32) => (if (T.1 105 48) ≤ v3 then (if v2 = 0 then ((-1000 : Int32), T) else (vl_X11_hardness n).2.1 T v2 ((v2 - (1 : Int32)) / (2 : Int32)) (0 : Int32)) else (vl_X11_hardness n).2.2.1 T v1 v2 v3 (0 : Int32))), (fun (T : tT)  (v2 : Int32) (v3 : Int32) (v4 : Int32) => (if v2 ≤ v4 then ((-1000 : Int32), T) else (vl_X11_hardness n).2.2.2.1 T v2 v3 v4 (0 : Int32) (0 : Int32) (0 : Int32))), (fun (T : tT)  (v1 : Int32) (v2 : Int32) (v3 : Int32) (v4 : Int32) => (if (6 : Int32) ≤ v4 then (vl_X11_hardness n).1 T v1 v2 (v3 + (1 : Int32)) else (vl_X11_hardness n).2.2.2.2 T v1 v2 v3 v4 (v_X11_lastOf T v3 v4 v1 (T.1 105 71)) (0 : Int32))), (fun (T : tT)  (v2 : Int32) (v3 : Int32) (v4 : Int32) (v5 : Int32) (v6 : Int32) (v7 : Int32) => (if v2 ≤ v7 then (if v3 < v5 then (vl_X11_hardness n).2.1 T v2 v3 (v4 + (1 : Int32)) else (if (v5 + v6) ≤ v3 then (vl_X11_hardness n).2.1 T v2 v3 (v4 + (1 : Int32)) else ((T.1 157 (v4.toNatClampNeg)), T))) else (if (T.1 157 (v4.toNatClampNeg)) ≤ (T.1 157 (v7.toNatClampNeg)) then (if (T.1 157 (v7.toNatClampNeg)) = (T.1 157 (v4.toNatClampNeg)) then (vl_X11_hardness n).2.2.2.1 T v2 v3 v4 (v5 + (0 : Int32)) (v6 + (1 : Int32)) (v7 + (1 : Int32)) else (vl_X11_hardness n).2.2.2.1 T v2 v3 v4 (v5 + (0 : Int32)) (v6 + (0 : Int32)) (v7 + (1 : Int32))) else (if (T.1 157 (v7.toNatClampNeg)) = (T.1 157 (v4.toNatClampNeg)) then (vl_X11_hardness n).2.2.2.1 T v2 v3 v4 (v5 + (1 : Int32)) (v6 + (1 : Int32)) (v7 + (1 : Int32)) else (vl_X11_hardness n).2.2.2.1 T v2 v3 v4 (v5 + (1 : Int32)) (v6 + (0 : Int32)) (v7 + (1 : Int32)))))), (fun (T : tT)  (v1 : Int32) (v2 : Int32) (v3 : Int32) (v4 : Int32) (v5 : Int32) (v6 : Int32) => (if (T.1 105 57) ≤ v6 then (vl_X11_hardness n).2.2.1 T v1 v2 v3 (v4 + (1 : Int32)) else (if v5 < 0 then (vl_X11_hardness n).2.2.1 T v1 v2 v3 (v4 + (1 : Int32)) else (if v6 = v1 then (vl_X11_hardness n).2.2.2.2 T v1 v2 v3 v4 v5 (v6 + (1 : Int32)) else (if 0 ≤ (v_X11_lastOf T v3 v4 v6 (T.1 105 71)) then (vl_X11_hardness n).2.2.2.2 (tI T 157 (v2.toNatClampNeg) ((v_X11_lastOf T v3 v4 v6 (T.1 105 71)) - v5)) v1 (v2 + (1 : Int32)) v3 v4 v5 (v6 + (1 : Int32)) else (vl_X11_hardness n).2.2.2.2 T v1 v2 v3 v4 v5 (v6 + (1 : Int32))))))))
noncomputable def okl_X11_hardness : Nat → (Nat → tT → Int32 → Int32 → Int32 → Prop) × (Nat → tT → Int32 → Int32 → Int32 → Prop) × (Nat → tT → Int32 → Int32 → Int32 → Int32 → Prop) × (Nat → tT → Int32 → Int32 → Int32 → Int32 → Int32 → Int32 → Prop) × (Nat → tT → Int32 → Int32 → Int32 → Int32 → Int32 → Int32 → Prop)
  | 0 => ((fun (sz : Nat) (T : tT)  (v1 : Int32) (v2 : Int32) (v3 : Int32) => False), (fun (sz : Nat) (T : tT)  (v2 : Int32) (v3 : Int32) (v4 : Int32) => False), (fun (sz : Nat) (T : tT)  (v1 : Int32) (v2 : Int32) (v3 : Int32) (v4 : Int32) => False), (fun (sz : Nat) (T : tT)  (v2 : Int32) (v3 : Int32) (v4 : Int32) (v5 : Int32) (v6 : Int32) (v7 : Int32) => False), (fun (sz : Nat) (T : tT)  (v1 : Int32) (v2 : Int32) (v3 : Int32) (v4 : Int32) (v5 : Int32) (v6 : Int32) => False))
  | n + 1 => ((fun (sz : Nat) (T : tT)  (v1 : Int32) (v2 : Int32) (v3 : Int32) => (((T.1 105 48) ≤ v3 → ((¬ v2 = 0 → (okl_X11_hardness n).2.1 sz T v2 ((v2 - (1 : Int32)) / (2 : Int32)) (0 : Int32)) ∧ (v2 = 0 → True))) ∧ (¬ (T.1 105 48) ≤ v3 → (okl_X11_hardness n).2.2.1 sz T v1 v2 v3 (0 : Int32)))), (fun (sz : Nat) (T : tT)  (v2 : Int32) (v3 : Int32) (v4 : Int32) => ((v2 ≤ v4 → True) ∧ (¬ v2 ≤ v4 → (okl_X11_hardness n).2.2.2.1 sz T v2 v3 v4 (0 : Int32) (0 : Int32) (0 : Int32)))), (fun (sz : Nat) (T : tT)  (v1 : Int32) (v2 : Int32) (v3 : Int32) (v4 : Int32) => (((6 : Int32) ≤ v4 → (okl_X11_hardness n).1 sz T v1 v2 (v3 + (1 : Int32))) ∧ (¬ (6 : Int32) ≤ v4 → (ok_X11_lastOf sz T v3 v4 v1 (T.1 105 71) ∧ (okl_X11_hardness n).2.2.2.2 sz T v1 v2 v3 v4 (v_X11_lastOf T v3 v4 v1 (T.1 105 71)) (0 : Int32))))), (fun (sz : Nat) (T : tT)  (v2 : Int32) (v3 : Int32) (v4 : Int32) (v5 : Int32) (v6 : Int32) (v7 : Int32) => ((v2 ≤ v7 → ((v3 < v5 → (okl_X11_hardness n).2.1 sz T v2 v3 (v4 + (1 : Int32))) ∧ (¬ v3 < v5 → (((v5 + v6) ≤ v3 → (okl_X11_hardness n).2.1 sz T v2 v3 (v4 + (1 : Int32))) ∧ (¬ (v5 + v6) ≤ v3 → vp_in v4 1000))))) ∧ (¬ v2 ≤ v7 → (vp_in v7 1000 ∧ (vp_in v4 1000 ∧ (((T.1 157 (v4.toNatClampNeg)) ≤ (T.1 157 (v7.toNatClampNeg)) → (vp_in v7 1000 ∧ (vp_in v4 1000 ∧ ((¬ (T.1 157 (v7.toNatClampNeg)) = (T.1 157 (v4.toNatClampNeg)) → (okl_X11_hardness n).2.2.2.1 sz T v2 v3 v4 (v5 + (0 : Int32)) (v6 + (0 : Int32)) (v7 + (1 : Int32))) ∧ ((T.1 157 (v7.toNatClampNeg)) = (T.1 157 (v4.toNatClampNeg)) → (okl_X11_hardness n).2.2.2.1 sz T v2 v3 v4 (v5 + (0 : Int32)) (v6 + (1 : Int32)) (v7 + (1 : Int32))))))) ∧ (¬ (T.1 157 (v4.toNatClampNeg)) ≤ (T.1 157 (v7.toNatClampNeg)) → (vp_in v7 1000 ∧ (vp_in v4 1000 ∧ ((¬ (T.1 157 (v7.toNatClampNeg)) = (T.1 157 (v4.toNatClampNeg)) → (okl_X11_hardness n).2.2.2.1 sz T v2 v3 v4 (v5 + (1 : Int32)) (v6 + (0 : Int32)) (v7 + (1 : Int32))) ∧ ((T.1 157 (v7.toNatClampNeg)) = (T.1 157 (v4.toNatClampNeg)) → (okl_X11_hardness n).2.2.2.1 sz T v2 v3 v4 (v5 + (1 : Int32)) (v6 + (1 : Int32)) (v7 + (1 : Int32))))))))))))), (fun (sz : Nat) (T : tT)  (v1 : Int32) (v2 : Int32) (v3 : Int32) (v4 : Int32) (v5 : Int32) (v6 : Int32) => (((T.1 105 57) ≤ v6 → (okl_X11_hardness n).2.2.1 sz T v1 v2 v3 (v4 + (1 : Int32))) ∧ (¬ (T.1 105 57) ≤ v6 → ((v5 < 0 → (okl_X11_hardness n).2.2.1 sz T v1 v2 v3 (v4 + (1 : Int32))) ∧ (¬ v5 < 0 → ((¬ v6 = v1 → (ok_X11_lastOf sz T v3 v4 v6 (T.1 105 71) ∧ ((0 ≤ (v_X11_lastOf T v3 v4 v6 (T.1 105 71)) → (vp_in v2 1000 ∧ (okl_X11_hardness n).2.2.2.2 sz (tI T 157 (v2.toNatClampNeg) ((v_X11_lastOf T v3 v4 v6 (T.1 105 71)) - v5)) v1 (v2 + (1 : Int32)) v3 v4 v5 (v6 + (1 : Int32)))) ∧ (¬ 0 ≤ (v_X11_lastOf T v3 v4 v6 (T.1 105 71)) → (okl_X11_hardness n).2.2.2.2 sz T v1 v2 v3 v4 v5 (v6 + (1 : Int32)))))) ∧ (v6 = v1 → (okl_X11_hardness n).2.2.2.2 sz T v1 v2 v3 v4 v5 (v6 + (1 : Int32))))))))))
theorem vl_X11_hardness_s0 (n : Nat) (T : tT)  (v1 : Int32) (v2 : Int32) (v3 : Int32) : (vl_X11_hardness (n + 1)).1 T v1 v2 v3 = (if (T.1 105 48) ≤ v3 then (if v2 = 0 then ((-1000 : Int32), T) else (vl_X11_hardness n).2.1 T v2 ((v2 - (1 : Int32)) / (2 : Int32)) (0 : Int32)) else (vl_X11_hardness n).2.2.1 T v1 v2 v3 (0 : Int32)) := rfl
theorem okl_X11_hardness_s0 (n sz : Nat) (T : tT)  (v1 : Int32) (v2 : Int32) (v3 : Int32) : (okl_X11_hardness (n + 1)).1 sz T v1 v2 v3 = (((T.1 105 48) ≤ v3 → ((¬ v2 = 0 → (okl_X11_hardness n).2.1 sz T v2 ((v2 - (1 : Int32)) / (2 : Int32)) (0 : Int32)) ∧ (v2 = 0 → True))) ∧ (¬ (T.1 105 48) ≤ v3 → (okl_X11_hardness n).2.2.1 sz T v1 v2 v3 (0 : Int32))) := rfl
theorem vl_X11_hardness_s1 (n : Nat) (T : tT)  (v2 : Int32) (v3 : Int32) (v4 : Int32) : (vl_X11_hardness (n + 1)).2.1 T v2 v3 v4 = (if v2 ≤ v4 then ((-1000 : Int32), T) else (vl_X11_hardness n).2.2.2.1 T v2 v3 v4 (0 : Int32) (0 : Int32) (0 : Int32)) := rfl
theorem okl_X11_hardness_s1 (n sz : Nat) (T : tT)  (v2 : Int32) (v3 : Int32) (v4 : Int32) : (okl_X11_hardness (n + 1)).2.1 sz T v2 v3 v4 = ((v2 ≤ v4 → True) ∧ (¬ v2 ≤ v4 → (okl_X11_hardness n).2.2.2.1 sz T v2 v3 v4 (0 : Int32) (0 : Int32) (0 : Int32))) := rfl
theorem vl_X11_hardness_s2 (n : Nat) (T : tT)  (v1 : Int32) (v2 : Int32) (v3 : Int32) (v4 : Int32) : (vl_X11_hardness (n + 1)).2.2.1 T v1 v2 v3 v4 = (if (6 : Int32) ≤ v4 then (vl_X11_hardness n).1 T v1 v2 (v3 + (1 : Int32)) else (vl_X11_hardness n).2.2.2.2 T v1 v2 v3 v4 (v_X11_lastOf T v3 v4 v1 (T.1 105 71)) (0 : Int32)) := rfl
theorem okl_X11_hardness_s2 (n sz : Nat) (T : tT)  (v1 : Int32) (v2 : Int32) (v3 : Int32) (v4 : Int32) : (okl_X11_hardness (n + 1)).2.2.1 sz T v1 v2 v3 v4 = (((6 : Int32) ≤ v4 → (okl_X11_hardness n).1 sz T v1 v2 (v3 + (1 : Int32))) ∧ (¬ (6 : Int32) ≤ v4 → (ok_X11_lastOf sz T v3 v4 v1 (T.1 105 71) ∧ (okl_X11_hardness n).2.2.2.2 sz T v1 v2 v3 v4 (v_X11_lastOf T v3 v4 v1 (T.1 105 71)) (0 : Int32)))) := rfl
theorem vl_X11_hardness_s3 (n : Nat) (T : tT)  (v2 : Int32) (v3 : Int32) (v4 : Int32) (v5 : Int32) (v6 : Int32) (v7 : Int32) : (vl_X11_hardness (n + 1)).2.2.2.1 T v2 v3 v4 v5 v6 v7 = (if v2 ≤ v7 then (if v3 < v5 then (vl_X11_hardness n).2.1 T v2 v3 (v4 + (1 : Int32)) else (if (v5 + v6) ≤ v3 then (vl_X11_hardness n).2.1 T v2 v3 (v4 + (1 : Int32)) else ((T.1 157 (v4.toNatClampNeg)), T))) else (if (T.1 157 (v4.toNatClampNeg)) ≤ (T.1 157 (v7.toNatClampNeg)) then (if (T.1 157 (v7.toNatClampNeg)) = (T.1 157 (v4.toNatClampNeg)) then (vl_X11_hardness n).2.2.2.1 T v2 v3 v4 (v5 + (0 : Int32)) (v6 + (1 : Int32)) (v7 + (1 : Int32)) else (vl_X11_hardness n).2.2.2.1 T v2 v3 v4 (v5 + (0 : Int32)) (v6 + (0 : Int32)) (v7 + (1 : Int32))) else (if (T.1 157 (v7.toNatClampNeg)) = (T.1 157 (v4.toNatClampNeg)) then (vl_X11_hardness n).2.2.2.1 T v2 v3 v4 (v5 + (1 : Int32)) (v6 + (1 : Int32)) (v7 + (1 : Int32)) else (vl_X11_hardness n).2.2.2.1 T v2 v3 v4 (v5 + (1 : Int32)) (v6 + (0 : Int32)) (v7 + (1 : Int32))))) := rfl
theorem okl_X11_hardness_s3 (n sz : Nat) (T : tT)  (v2 : Int32) (v3 : Int32) (v4 : Int32) (v5 : Int32) (v6 : Int32) (v7 : Int32) : (okl_X11_hardness (n + 1)).2.2.2.1 sz T v2 v3 v4 v5 v6 v7 = ((v2 ≤ v7 → ((v3 < v5 → (okl_X11_hardness n).2.1 sz T v2 v3 (v4 + (1 : Int32))) ∧ (¬ v3 < v5 → (((v5 + v6) ≤ v3 → (okl_X11_hardness n).2.1 sz T v2 v3 (v4 + (1 : Int32))) ∧ (¬ (v5 + v6) ≤ v3 → vp_in v4 1000))))) ∧ (¬ v2 ≤ v7 → (vp_in v7 1000 ∧ (vp_in v4 1000 ∧ (((T.1 157 (v4.toNatClampNeg)) ≤ (T.1 157 (v7.toNatClampNeg)) → (vp_in v7 1000 ∧ (vp_in v4 1000 ∧ ((¬ (T.1 157 (v7.toNatClampNeg)) = (T.1 157 (v4.toNatClampNeg)) → (okl_X11_hardness n).2.2.2.1 sz T v2 v3 v4 (v5 + (0 : Int32)) (v6 + (0 : Int32)) (v7 + (1 : Int32))) ∧ ((T.1 157 (v7.toNatClampNeg)) = (T.1 157 (v4.toNatClampNeg)) → (okl_X11_hardness n).2.2.2.1 sz T v2 v3 v4 (v5 + (0 : Int32)) (v6 + (1 : Int32)) (v7 + (1 : Int32))))))) ∧ (¬ (T.1 157 (v4.toNatClampNeg)) ≤ (T.1 157 (v7.toNatClampNeg)) → (vp_in v7 1000 ∧ (vp_in v4 1000 ∧ ((¬ (T.1 157 (v7.toNatClampNeg)) = (T.1 157 (v4.toNatClampNeg)) → (okl_X11_hardness n).2.2.2.1 sz T v2 v3 v4 (v5 + (1 : Int32)) (v6 + (0 : Int32)) (v7 + (1 : Int32))) ∧ ((T.1 157 (v7.toNatClampNeg)) = (T.1 157 (v4.toNatClampNeg)) → (okl_X11_hardness n).2.2.2.1 sz T v2 v3 v4 (v5 + (1 : Int32)) (v6 + (1 : Int32)) (v7 + (1 : Int32)))))))))))) := rfl
theorem vl_X11_hardness_s4 (n : Nat) (T : tT)  (v1 : Int32) (v2 : Int32) (v3 : Int32) (v4 : Int32) (v5 : Int32) (v6 : Int32) : (vl_X11_hardness (n + 1)).2.2.2.2 T v1 v2 v3 v4 v5 v6 = (if (T.1 105 57) ≤ v6 then (vl_X11_hardness n).2.2.1 T v1 v2 v3 (v4 + (1 : Int32)) else (if v5 < 0 then (vl_X11_hardness n).2.2.1 T v1 v2 v3 (v4 + (1 : Int32)) else (if v6 = v1 then (vl_X11_hardness n).2.2.2.2 T v1 v2 v3 v4 v5 (v6 + (1 : Int32)) else (if 0 ≤ (v_X11_lastOf T v3 v4 v6 (T.1 105 71)) then (vl_X11_hardness n).2.2.2.2 (tI T 157 (v2.toNatClampNeg) ((v_X11_lastOf T v3 v4 v6 (T.1 105 71)) - v5)) v1 (v2 + (1 : Int32)) v3 v4 v5 (v6 + (1 : Int32)) else (vl_X11_hardness n).2.2.2.2 T v1 v2 v3 v4 v5 (v6 + (1 : Int32)))))) := rfl
theorem okl_X11_hardness_s4 (n sz : Nat) (T : tT)  (v1 : Int32) (v2 : Int32) (v3 : Int32) (v4 : Int32) (v5 : Int32) (v6 : Int32) : (okl_X11_hardness (n + 1)).2.2.2.2 sz T v1 v2 v3 v4 v5 v6 = (((T.1 105 57) ≤ v6 → (okl_X11_hardness n).2.2.1 sz T v1 v2 v3 (v4 + (1 : Int32))) ∧ (¬ (T.1 105 57) ≤ v6 → ((v5 < 0 → (okl_X11_hardness n).2.2.1 sz T v1 v2 v3 (v4 + (1 : Int32))) ∧ (¬ v5 < 0 → ((¬ v6 = v1 → (ok_X11_lastOf sz T v3 v4 v6 (T.1 105 71) ∧ ((0 ≤ (v_X11_lastOf T v3 v4 v6 (T.1 105 71)) → (vp_in v2 1000 ∧ (okl_X11_hardness n).2.2.2.2 sz (tI T 157 (v2.toNatClampNeg) ((v_X11_lastOf T v3 v4 v6 (T.1 105 71)) - v5)) v1 (v2 + (1 : Int32)) v3 v4 v5 (v6 + (1 : Int32)))) ∧ (¬ 0 ≤ (v_X11_lastOf T v3 v4 v6 (T.1 105 71)) → (okl_X11_hardness n).2.2.2.2 sz T v1 v2 v3 v4 v5 (v6 + (1 : Int32)))))) ∧ (v6 = v1 → (okl_X11_hardness n).2.2.2.2 sz T v1 v2 v3 v4 v5 (v6 + (1 : Int32)))))))) := rfl
set_option maxRecDepth 10000 in
set_option maxHeartbeats 1000000 in
theorem lj_X11_hardness {X : ax_X} {d L sz : Nat} {Q : Int32 → tT → Prop} (hX : ax_ok X mX11_hardness (d + 2)) (hsz : 161 ≤ sz) (hR : ax_Ret X mX11_hardness (ti L sz Q)) : ∀ n : Nat, (∀ (T : tT)  (v1 : Int32) (v2 : Int32) (v3 : Int32), (okl_X11_hardness n).1 sz T v1 v2 v3 → Q ((vl_X11_hardness n).1 T v1 v2 v3).1 ((vl_X11_hardness n).1 T v1 v2 v3).2 → ax_j X 16 [some (.ref 105), some (.int v1), some (.int v2), some (.int v3), none, none, none, none] [] (th L sz T) 0 0) ∧ (∀ (T : tT)  (v2 : Int32) (v3 : Int32) (v4 : Int32), (okl_X11_hardness n).2.1 sz T v2 v3 v4 → Q ((vl_X11_hardness n).2.1 T v2 v3 v4).1 ((vl_X11_hardness n).2.1 T v2 v3 v4).2 → ax_j X 147 [some (.ref 105), none, some (.int v2), some (.int v3), some (.int v4), none, none, none] [] (th L sz T) 0 0) ∧ (∀ (T : tT)  (v1 : Int32) (v2 : Int32) (v3 : Int32) (v4 : Int32), (okl_X11_hardness n).2.2.1 sz T v1 v2 v3 v4 → Q ((vl_X11_hardness n).2.2.1 T v1 v2 v3 v4).1 ((vl_X11_hardness n).2.2.1 T v1 v2 v3 v4).2 → ax_j X 27 [some (.ref 105), some (.int v1), some (.int v2), some (.int v3), some (.int v4), none, none, none] [] (th L sz T) 0 0) ∧ (∀ (T : tT)  (v2 : Int32) (v3 : Int32) (v4 : Int32) (v5 : Int32) (v6 : Int32) (v7 : Int32), (okl_X11_hardness n).2.2.2.1 sz T v2 v3 v4 v5 v6 v7 → Q ((vl_X11_hardness n).2.2.2.1 T v2 v3 v4 v5 v6 v7).1 ((vl_X11_hardness n).2.2.2.1 T v2 v3 v4 v5 v6 v7).2 → ax_j X 162 [some (.ref 105), none, some (.int v2), some (.int v3), some (.int v4), some (.int v5), some (.int v6), some (.int v7)] [] (th L sz T) 0 0) ∧ (∀ (T : tT)  (v1 : Int32) (v2 : Int32) (v3 : Int32) (v4 : Int32) (v5 : Int32) (v6 : Int32), (okl_X11_hardness n).2.2.2.2 sz T v1 v2 v3 v4 v5 v6 → Q ((vl_X11_hardness n).2.2.2.2 T v1 v2 v3 v4 v5 v6).1 ((vl_X11_hardness n).2.2.2.2 T v1 v2 v3 v4 v5 v6).2 → ax_j X 51 [some (.ref 105), some (.int v1), some (.int v2), some (.int v3), some (.int v4), some (.int v5), some (.int v6), none] [] (th L sz T) 0 0) := by
  intro n
  induction n with
  | zero => exact ⟨(by intros; rename_i ok _; exact False.elim ok), (by intros; rename_i ok _; exact False.elim ok), (by intros; rename_i ok _; exact False.elim ok), (by intros; rename_i ok _; exact False.elim ok), (by intros; rename_i ok _; exact False.elim ok)⟩
  | succ n ih =>
    refine ⟨?_, ?_, ?_, ?_, ?_⟩
    · intro T  v1 v2 v3 ok hq
      refine s_X11_hardness_16 hX hR hsz   v1 v2 v3 ?_
      rw [okl_X11_hardness_s0] at ok
      refine ⟨fun kq0 => ?_, fun kq0 => ?_⟩
      · replace ok := ok.1 kq0
        refine ⟨fun kq1 => ?_, fun kq1 => ?_⟩
        · replace ok := ok.1 kq1
          have z := hq; rw [vl_X11_hardness_s0, if_pos kq0, if_neg kq1] at z; exact ih.2.1 _  v2 ((v2 - (1 : Int32)) / (2 : Int32)) (0 : Int32) ok z
        · replace ok := ok.2 kq1
          have z := hq; rw [vl_X11_hardness_s0, if_pos kq0, if_pos kq1] at z; exact z
      · replace ok := ok.2 kq0
        have z := hq; rw [vl_X11_hardness_s0, if_neg kq0] at z; exact ih.2.2.1 _  v1 v2 v3 (0 : Int32) ok z
    · intro T  v2 v3 v4 ok hq
      refine s_X11_hardness_147 hX hR hsz   v2 v3 v4 ?_
      rw [okl_X11_hardness_s1] at ok
      refine ⟨fun kq0 => ?_, fun kq0 => ?_⟩
      · replace ok := ok.1 kq0
        have z := hq; rw [vl_X11_hardness_s1, if_pos kq0] at z; exact z
      · replace ok := ok.2 kq0
        have z := hq; rw [vl_X11_hardness_s1, if_neg kq0] at z; exact ih.2.2.2.1 _  v2 v3 v4 (0 : Int32) (0 : Int32) (0 : Int32) ok z
    · intro T  v1 v2 v3 v4 ok hq
      refine s_X11_hardness_27 hX hR hsz   v1 v2 v3 v4 ?_
      rw [okl_X11_hardness_s2] at ok
      refine ⟨fun kq0 => ?_, fun kq0 => ?_⟩
      · replace ok := ok.1 kq0
        have z := hq; rw [vl_X11_hardness_s2, if_pos kq0] at z; exact ih.1 _  v1 v2 (v3 + (1 : Int32)) ok z
      · replace ok := ok.2 kq0
        refine ⟨_, c_X11_lastOf hsz  v3 v4 v1 (T.1 105 71) ok.1, ?_⟩
        rintro _ _ ⟨rfl, rfl⟩
        replace ok := ok.2
        have z := hq; rw [vl_X11_hardness_s2, if_neg kq0] at z; exact ih.2.2.2.2 _  v1 v2 v3 v4 (v_X11_lastOf T v3 v4 v1 (T.1 105 71)) (0 : Int32) ok z
    · intro T  v2 v3 v4 v5 v6 v7 ok hq
      refine s_X11_hardness_162 hX hR hsz   v2 v3 v4 v5 v6 v7 ?_
      rw [okl_X11_hardness_s3] at ok
      refine ⟨fun kq0 => ?_, fun kq0 => ?_⟩
      · replace ok := ok.1 kq0
        refine ⟨fun kq1 => ?_, fun kq1 => ?_⟩
        · replace ok := ok.1 kq1
          have z := hq; rw [vl_X11_hardness_s3, if_pos kq0, if_pos kq1] at z; exact ih.2.1 _  v2 v3 (v4 + (1 : Int32)) ok z
        · replace ok := ok.2 kq1
          refine ⟨fun kq2 => ?_, fun kq2 => ?_⟩
          · replace ok := ok.1 kq2
            have z := hq; rw [vl_X11_hardness_s3, if_pos kq0, if_neg kq1, if_pos kq2] at z; exact ih.2.1 _  v2 v3 (v4 + (1 : Int32)) ok z
          · replace ok := ok.2 kq2
            refine ⟨ok, ?_⟩
            have z := hq; rw [vl_X11_hardness_s3, if_pos kq0, if_neg kq1, if_neg kq2] at z; exact z
      · replace ok := ok.2 kq0
        refine ⟨ok.1, ?_⟩
        replace ok := ok.2
        refine ⟨ok.1, ?_⟩
        replace ok := ok.2
        refine ⟨fun kq1 => ?_, fun kq1 => ?_⟩
        · replace ok := ok.1 kq1
          refine ⟨ok.1, ?_⟩
          replace ok := ok.2
          refine ⟨ok.1, ?_⟩
          replace ok := ok.2
          refine ⟨fun kq2 => ?_, fun kq2 => ?_⟩
          · replace ok := ok.1 kq2
            have z := hq; rw [vl_X11_hardness_s3, if_neg kq0, if_pos kq1, if_neg kq2] at z; exact ih.2.2.2.1 _  v2 v3 v4 (v5 + (0 : Int32)) (v6 + (0 : Int32)) (v7 + (1 : Int32)) ok z
          · replace ok := ok.2 kq2
            have z := hq; rw [vl_X11_hardness_s3, if_neg kq0, if_pos kq1, if_pos kq2] at z; exact ih.2.2.2.1 _  v2 v3 v4 (v5 + (0 : Int32)) (v6 + (1 : Int32)) (v7 + (1 : Int32)) ok z
        · replace ok := ok.2 kq1
          refine ⟨ok.1, ?_⟩
          replace ok := ok.2
          refine ⟨ok.1, ?_⟩
          replace ok := ok.2
          refine ⟨fun kq2 => ?_, fun kq2 => ?_⟩
          · replace ok := ok.1 kq2
            have z := hq; rw [vl_X11_hardness_s3, if_neg kq0, if_neg kq1, if_neg kq2] at z; exact ih.2.2.2.1 _  v2 v3 v4 (v5 + (1 : Int32)) (v6 + (0 : Int32)) (v7 + (1 : Int32)) ok z
          · replace ok := ok.2 kq2
            have z := hq; rw [vl_X11_hardness_s3, if_neg kq0, if_neg kq1, if_pos kq2] at z; exact ih.2.2.2.1 _  v2 v3 v4 (v5 + (1 : Int32)) (v6 + (1 : Int32)) (v7 + (1 : Int32)) ok z
    · intro T  v1 v2 v3 v4 v5 v6 ok hq
      refine s_X11_hardness_51 hX hR hsz   v1 v2 v3 v4 v5 v6 ?_
      rw [okl_X11_hardness_s4] at ok
      refine ⟨fun kq0 => ?_, fun kq0 => ?_⟩
      · replace ok := ok.1 kq0
        have z := hq; rw [vl_X11_hardness_s4, if_pos kq0] at z; exact ih.2.2.1 _  v1 v2 v3 (v4 + (1 : Int32)) ok z
      · replace ok := ok.2 kq0
        refine ⟨fun kq1 => ?_, fun kq1 => ?_⟩
        · replace ok := ok.1 kq1
          have z := hq; rw [vl_X11_hardness_s4, if_neg kq0, if_pos kq1] at z; exact ih.2.2.1 _  v1 v2 v3 (v4 + (1 : Int32)) ok z
        · replace ok := ok.2 kq1
          refine ⟨fun kq2 => ?_, fun kq2 => ?_⟩
          · replace ok := ok.1 kq2
            refine ⟨_, c_X11_lastOf hsz  v3 v4 v6 (T.1 105 71) ok.1, ?_⟩
            rintro _ _ ⟨rfl, rfl⟩
            replace ok := ok.2
            refine ⟨fun kq3 => ?_, fun kq3 => ?_⟩
            · replace ok := ok.1 kq3
              refine ⟨ok.1, ?_⟩
              replace ok := ok.2
              have z := hq; rw [vl_X11_hardness_s4, if_neg kq0, if_neg kq1, if_neg kq2, if_pos kq3] at z; exact ih.2.2.2.2 _  v1 (v2 + (1 : Int32)) v3 v4 v5 (v6 + (1 : Int32)) ok z
            · replace ok := ok.2 kq3
              have z := hq; rw [vl_X11_hardness_s4, if_neg kq0, if_neg kq1, if_neg kq2, if_neg kq3] at z; exact ih.2.2.2.2 _  v1 v2 v3 v4 v5 (v6 + (1 : Int32)) ok z
          · replace ok := ok.2 kq2
            have z := hq; rw [vl_X11_hardness_s4, if_neg kq0, if_neg kq1, if_pos kq2] at z; exact ih.2.2.2.2 _  v1 v2 v3 v4 v5 (v6 + (1 : Int32)) ok z
noncomputable def F_X11_hardness (T : tT)  (x0 : Int32) : (Int32 × tT) := (if (v_X11_isExaminer T x0) = 0 then ((-1000 : Int32), T) else (vl_X11_hardness fu).1 T x0 (0 : Int32) (0 : Int32))
noncomputable def ok_X11_hardness (sz : Nat) (T : tT)  (x0 : Int32) : Prop := ((¬ (v_X11_isExaminer T x0) = 0 → (okl_X11_hardness fu).1 sz T x0 (0 : Int32) (0 : Int32)) ∧ ((v_X11_isExaminer T x0) = 0 → True))
set_option maxRecDepth 10000 in
theorem c_X11_hardness {d L sz : Nat} {T : tT} (hsz : 161 ≤ sz) (x0 : Int32) (ok : ok_X11_hardness sz T x0) : tiK (d + 2) mX11_hardness [.ref 105, .int x0] L sz T (fun r T' => r = (F_X11_hardness T x0).1 ∧ T' = (F_X11_hardness T x0).2) := by
  refine k_X11_hardness hsz  x0 (fun X hX hR => ?_)
  unfold ok_X11_hardness at ok
  refine ⟨_, c_X11_isExaminer hsz  x0 , ?_⟩
  rintro _ _ ⟨rfl, rfl⟩
  refine ⟨fun kq0 => ?_, fun kq0 => ?_⟩
  · replace ok := ok.1 kq0
    exact (lj_X11_hardness hX hsz  hR _).1 _  x0 (0 : Int32) (0 : Int32) ok ⟨by unfold F_X11_hardness; first | (rw [if_neg kq0]; done) | (rw [if_neg kq0]; rfl), by unfold F_X11_hardness; first | (rw [if_neg kq0]; done) | (rw [if_neg kq0]; rfl)⟩
  · replace ok := ok.2 kq0
    exact ⟨by unfold F_X11_hardness; first | (rw [if_pos kq0]; done) | (rw [if_pos kq0]; rfl), by unfold F_X11_hardness; first | (rw [if_pos kq0]; done) | (rw [if_pos kq0]; rfl)⟩
noncomputable def vl_X11_inNone : Nat → (tT → Int32 → Int32 → Int32 → Int32 → Int32) × (tT → Int32 → Int32 → Int32 → Int32 → Int32 → Int32 → Int32)
  | 0 => ((fun (T : tT)  (v1 : Int32) (v2 : Int32) (v3 : Int32) (v4 : Int32) => 0), (fun (T : tT)  (v1 : Int32) (v2 : Int32) (v3 : Int32) (v4 : Int32) (v5 : Int32) (v6 : Int32) => 0))
  | n + 1 => ((fun (T : tT)  (v1 : Int32) (v2 : Int32) (v3 : Int32) (v4 : Int32) => (if (T.1 137 (v1.toNatClampNeg)) ≤ v4 then v3 else (vl_X11_inNone n).2 T v1 v2 v3 v4 (0 : Int32) (0 : Int32))), (fun (T : tT)  (v1 : Int32) (v2 : Int32) (v3 : Int32) (v4 : Int32) (v5 : Int32) (v6 : Int32) => (if (T.1 111 (v2.toNatClampNeg)) ≤ v6 then (if v5 = 0 then (vl_X11_inNone n).1 T v1 v2 (v3 + (1 : Int32)) (v4 + (1 : Int32)) else (vl_X11_inNone n).1 T v1 v2 (v3 + (0 : Int32)) (v4 + (1 : Int32))) else (if v5 = 0 then (if (v_X11_hasPiece T (((6 : Int32) * v2) + v6) (T.2.1 139 (((4 : Int32) * v1) + v4).toNatClampNeg)) = 0 then (vl_X11_inNone n).2 T v1 v2 v3 v4 (0 : Int32) (v6 + (1 : Int32)) else (vl_X11_inNone n).2 T v1 v2 v3 v4 (1 : Int32) (v6 + (1 : Int32))) else (vl_X11_inNone n).2 T v1 v2 v3 v4 (1 : Int32) (v6 + (1 : Int32))))))
noncomputable def okl_X11_inNone : Nat → (Nat → tT → Int32 → Int32 → Int32 → Int32 → Prop) × (Nat → tT → Int32 → Int32 → Int32 → Int32 → Int32 → Int32 → Prop)
  | 0 => ((fun (sz : Nat) (T : tT)  (v1 : Int32) (v2 : Int32) (v3 : Int32) (v4 : Int32) => False), (fun (sz : Nat) (T : tT)  (v1 : Int32) (v2 : Int32) (v3 : Int32) (v4 : Int32) (v5 : Int32) (v6 : Int32) => False))
  | n + 1 => ((fun (sz : Nat) (T : tT)  (v1 : Int32) (v2 : Int32) (v3 : Int32) (v4 : Int32) => (vp_in v1 40 ∧ (((T.1 137 (v1.toNatClampNeg)) ≤ v4 → True) ∧ (¬ (T.1 137 (v1.toNatClampNeg)) ≤ v4 → (okl_X11_inNone n).2 sz T v1 v2 v3 v4 (0 : Int32) (0 : Int32))))), (fun (sz : Nat) (T : tT)  (v1 : Int32) (v2 : Int32) (v3 : Int32) (v4 : Int32) (v5 : Int32) (v6 : Int32) => (vp_in v2 40 ∧ (((T.1 111 (v2.toNatClampNeg)) ≤ v6 → ((v5 = 0 → (okl_X11_inNone n).1 sz T v1 v2 (v3 + (1 : Int32)) (v4 + (1 : Int32))) ∧ (¬ v5 = 0 → (okl_X11_inNone n).1 sz T v1 v2 (v3 + (0 : Int32)) (v4 + (1 : Int32))))) ∧ (¬ (T.1 111 (v2.toNatClampNeg)) ≤ v6 → ((¬ v5 = 0 → (okl_X11_inNone n).2 sz T v1 v2 v3 v4 (1 : Int32) (v6 + (1 : Int32))) ∧ (v5 = 0 → (vp_in (((4 : Int32) * v1) + v4) 160 ∧ (ok_X11_hasPiece sz T (((6 : Int32) * v2) + v6) (T.2.1 139 (((4 : Int32) * v1) + v4).toNatClampNeg) ∧ (((v_X11_hasPiece T (((6 : Int32) * v2) + v6) (T.2.1 139 (((4 : Int32) * v1) + v4).toNatClampNeg)) = 0 → (okl_X11_inNone n).2 sz T v1 v2 v3 v4 (0 : Int32) (v6 + (1 : Int32))) ∧ (¬ (v_X11_hasPiece T (((6 : Int32) * v2) + v6) (T.2.1 139 (((4 : Int32) * v1) + v4).toNatClampNeg)) = 0 → (okl_X11_inNone n).2 sz T v1 v2 v3 v4 (1 : Int32) (v6 + (1 : Int32)))))))))))))
theorem vl_X11_inNone_s0 (n : Nat) (T : tT)  (v1 : Int32) (v2 : Int32) (v3 : Int32) (v4 : Int32) : (vl_X11_inNone (n + 1)).1 T v1 v2 v3 v4 = (if (T.1 137 (v1.toNatClampNeg)) ≤ v4 then v3 else (vl_X11_inNone n).2 T v1 v2 v3 v4 (0 : Int32) (0 : Int32)) := rfl
theorem okl_X11_inNone_s0 (n sz : Nat) (T : tT)  (v1 : Int32) (v2 : Int32) (v3 : Int32) (v4 : Int32) : (okl_X11_inNone (n + 1)).1 sz T v1 v2 v3 v4 = (vp_in v1 40 ∧ (((T.1 137 (v1.toNatClampNeg)) ≤ v4 → True) ∧ (¬ (T.1 137 (v1.toNatClampNeg)) ≤ v4 → (okl_X11_inNone n).2 sz T v1 v2 v3 v4 (0 : Int32) (0 : Int32)))) := rfl
theorem vl_X11_inNone_s1 (n : Nat) (T : tT)  (v1 : Int32) (v2 : Int32) (v3 : Int32) (v4 : Int32) (v5 : Int32) (v6 : Int32) : (vl_X11_inNone (n + 1)).2 T v1 v2 v3 v4 v5 v6 = (if (T.1 111 (v2.toNatClampNeg)) ≤ v6 then (if v5 = 0 then (vl_X11_inNone n).1 T v1 v2 (v3 + (1 : Int32)) (v4 + (1 : Int32)) else (vl_X11_inNone n).1 T v1 v2 (v3 + (0 : Int32)) (v4 + (1 : Int32))) else (if v5 = 0 then (if (v_X11_hasPiece T (((6 : Int32) * v2) + v6) (T.2.1 139 (((4 : Int32) * v1) + v4).toNatClampNeg)) = 0 then (vl_X11_inNone n).2 T v1 v2 v3 v4 (0 : Int32) (v6 + (1 : Int32)) else (vl_X11_inNone n).2 T v1 v2 v3 v4 (1 : Int32) (v6 + (1 : Int32))) else (vl_X11_inNone n).2 T v1 v2 v3 v4 (1 : Int32) (v6 + (1 : Int32)))) := rfl
theorem okl_X11_inNone_s1 (n sz : Nat) (T : tT)  (v1 : Int32) (v2 : Int32) (v3 : Int32) (v4 : Int32) (v5 : Int32) (v6 : Int32) : (okl_X11_inNone (n + 1)).2 sz T v1 v2 v3 v4 v5 v6 = (vp_in v2 40 ∧ (((T.1 111 (v2.toNatClampNeg)) ≤ v6 → ((v5 = 0 → (okl_X11_inNone n).1 sz T v1 v2 (v3 + (1 : Int32)) (v4 + (1 : Int32))) ∧ (¬ v5 = 0 → (okl_X11_inNone n).1 sz T v1 v2 (v3 + (0 : Int32)) (v4 + (1 : Int32))))) ∧ (¬ (T.1 111 (v2.toNatClampNeg)) ≤ v6 → ((¬ v5 = 0 → (okl_X11_inNone n).2 sz T v1 v2 v3 v4 (1 : Int32) (v6 + (1 : Int32))) ∧ (v5 = 0 → (vp_in (((4 : Int32) * v1) + v4) 160 ∧ (ok_X11_hasPiece sz T (((6 : Int32) * v2) + v6) (T.2.1 139 (((4 : Int32) * v1) + v4).toNatClampNeg) ∧ (((v_X11_hasPiece T (((6 : Int32) * v2) + v6) (T.2.1 139 (((4 : Int32) * v1) + v4).toNatClampNeg)) = 0 → (okl_X11_inNone n).2 sz T v1 v2 v3 v4 (0 : Int32) (v6 + (1 : Int32))) ∧ (¬ (v_X11_hasPiece T (((6 : Int32) * v2) + v6) (T.2.1 139 (((4 : Int32) * v1) + v4).toNatClampNeg)) = 0 → (okl_X11_inNone n).2 sz T v1 v2 v3 v4 (1 : Int32) (v6 + (1 : Int32))))))))))) := rfl
set_option maxRecDepth 10000 in
set_option maxHeartbeats 1000000 in
theorem lj_X11_inNone {X : ax_X} {d L sz : Nat} {Q : Int32 → tT → Prop} (hX : ax_ok X mX11_inNone (d + 1)) (hsz : 161 ≤ sz) (hR : ax_Ret X mX11_inNone (ti L sz Q)) : ∀ n : Nat, (∀ (T : tT)  (v1 : Int32) (v2 : Int32) (v3 : Int32) (v4 : Int32), (okl_X11_inNone n).1 sz T v1 v2 v3 v4 → Q ((vl_X11_inNone n).1 T v1 v2 v3 v4) T → ax_j X 5 [some (.ref 105), some (.int v1), some (.int v2), some (.int v3), some (.int v4), none, none] [] (th L sz T) 0 0) ∧ (∀ (T : tT)  (v1 : Int32) (v2 : Int32) (v3 : Int32) (v4 : Int32) (v5 : Int32) (v6 : Int32), (okl_X11_inNone n).2 sz T v1 v2 v3 v4 v5 v6 → Q ((vl_X11_inNone n).2 T v1 v2 v3 v4 v5 v6) T → ax_j X 22 [some (.ref 105), some (.int v1), some (.int v2), some (.int v3), some (.int v4), some (.int v5), some (.int v6)] [] (th L sz T) 0 0) := by
  intro n
  induction n with
  | zero => exact ⟨(by intros; rename_i ok _; exact False.elim ok), (by intros; rename_i ok _; exact False.elim ok)⟩
  | succ n ih =>
    refine ⟨?_, ?_⟩
    · intro T  v1 v2 v3 v4 ok hq
      refine s_X11_inNone_5 hX hR hsz   v1 v2 v3 v4 ?_
      rw [okl_X11_inNone_s0] at ok
      refine ⟨ok.1, ?_⟩
      replace ok := ok.2
      refine ⟨fun kq0 => ?_, fun kq0 => ?_⟩
      · replace ok := ok.1 kq0
        have z := hq; rw [vl_X11_inNone_s0, if_pos kq0] at z; exact z
      · replace ok := ok.2 kq0
        have z := hq; rw [vl_X11_inNone_s0, if_neg kq0] at z; exact ih.2 _  v1 v2 v3 v4 (0 : Int32) (0 : Int32) ok z
    · intro T  v1 v2 v3 v4 v5 v6 ok hq
      refine s_X11_inNone_22 hX hR hsz   v1 v2 v3 v4 v5 v6 ?_
      rw [okl_X11_inNone_s1] at ok
      refine ⟨ok.1, ?_⟩
      replace ok := ok.2
      refine ⟨fun kq0 => ?_, fun kq0 => ?_⟩
      · replace ok := ok.1 kq0
        refine ⟨fun kq1 => ?_, fun kq1 => ?_⟩
        · replace ok := ok.1 kq1
          have z := hq; rw [vl_X11_inNone_s1, if_pos kq0, if_pos kq1] at z; exact ih.1 _  v1 v2 (v3 + (1 : Int32)) (v4 + (1 : Int32)) ok z
        · replace ok := ok.2 kq1
          have z := hq; rw [vl_X11_inNone_s1, if_pos kq0, if_neg kq1] at z; exact ih.1 _  v1 v2 (v3 + (0 : Int32)) (v4 + (1 : Int32)) ok z
      · replace ok := ok.2 kq0
        refine ⟨fun kq1 => ?_, fun kq1 => ?_⟩
        · replace ok := ok.1 kq1
          have z := hq; rw [vl_X11_inNone_s1, if_neg kq0, if_neg kq1] at z; exact ih.2 _  v1 v2 v3 v4 (1 : Int32) (v6 + (1 : Int32)) ok z
        · replace ok := ok.2 kq1
          refine ⟨ok.1, ?_⟩
          replace ok := ok.2
          refine ⟨_, c_X11_hasPiece hsz  (((6 : Int32) * v2) + v6) (T.2.1 139 (((4 : Int32) * v1) + v4).toNatClampNeg) ok.1, ?_⟩
          rintro _ _ ⟨rfl, rfl⟩
          replace ok := ok.2
          refine ⟨fun kq2 => ?_, fun kq2 => ?_⟩
          · replace ok := ok.1 kq2
            have z := hq; rw [vl_X11_inNone_s1, if_neg kq0, if_pos kq1, if_pos kq2] at z; exact ih.2 _  v1 v2 v3 v4 (0 : Int32) (v6 + (1 : Int32)) ok z
          · replace ok := ok.2 kq2
            have z := hq; rw [vl_X11_inNone_s1, if_neg kq0, if_pos kq1, if_neg kq2] at z; exact ih.2 _  v1 v2 v3 v4 (1 : Int32) (v6 + (1 : Int32)) ok z
noncomputable def v_X11_inNone (T : tT)  (x0 : Int32) (x1 : Int32) : Int32 := (vl_X11_inNone fu).1 T x0 x1 (0 : Int32) (0 : Int32)
noncomputable def ok_X11_inNone (sz : Nat) (T : tT)  (x0 : Int32) (x1 : Int32) : Prop := (okl_X11_inNone fu).1 sz T x0 x1 (0 : Int32) (0 : Int32)
set_option maxRecDepth 10000 in
theorem c_X11_inNone {d L sz : Nat} {T : tT} (hsz : 161 ≤ sz) (x0 : Int32) (x1 : Int32) (ok : ok_X11_inNone sz T x0 x1) : tiK (d + 1) mX11_inNone [.ref 105, .int x0, .int x1] L sz T (fun r T' => r = v_X11_inNone T x0 x1 ∧ T = T') := by
  refine k_X11_inNone hsz  x0 x1 (fun X hX hR => ?_)
  unfold ok_X11_inNone at ok
  exact (lj_X11_inNone hX hsz  hR _).1 _  x0 x1 (0 : Int32) (0 : Int32) ok ⟨by unfold v_X11_inNone; rfl, rfl⟩
noncomputable def v_X11_leaf (T : tT)  (x0 : Int32) (x1 : Int32) (x2 : Int32) (x3 : Int32) : Int32 := (if x0 = 97 then (T.1 135 (x3.toNatClampNeg)) else (if x0 = 99 then (T.1 137 (x3.toNatClampNeg)) else (if x0 = 108 then (v_X11_inList T x3 (((6 : Int32) * x2) + x1)) else (if x0 = 110 then x1 else (if x0 = 111 then (v_X11_inNone T x3 x2) else (if x0 = 112 then (T.1 141 (x1.toNatClampNeg)) else (if x0 = 116 then (v_X11_total T x2) else (v_X11_leastMark T x2))))))))
noncomputable def ok_X11_leaf (sz : Nat) (T : tT)  (x0 : Int32) (x1 : Int32) (x2 : Int32) (x3 : Int32) : Prop := ((x0 = 97 → vp_in x3 40) ∧ (x0 = 99 → vp_in x3 40) ∧ (x0 = 108 → (ok_X11_inList sz T x3 (((6 : Int32) * x2) + x1) ∧ True)) ∧ (x0 = 110 → True) ∧ (x0 = 111 → (ok_X11_inNone sz T x3 x2 ∧ True)) ∧ (x0 = 112 → vp_in x1 6) ∧ (x0 = 116 → (ok_X11_total sz T x2 ∧ True)) ∧ (¬ x0 = 97 → ¬ x0 = 99 → ¬ x0 = 108 → ¬ x0 = 110 → ¬ x0 = 111 → ¬ x0 = 112 → ¬ x0 = 116 → (ok_X11_leastMark sz T x2 ∧ True)))
set_option maxRecDepth 10000 in
theorem c_X11_leaf {d L sz : Nat} {T : tT} (hsz : 161 ≤ sz) (x0 : Int32) (x1 : Int32) (x2 : Int32) (x3 : Int32) (ok : ok_X11_leaf sz T x0 x1 x2 x3) : tiK (d + 2) mX11_leaf [.ref 105, .int x0, .int x1, .int x2, .int x3] L sz T (fun r T' => r = v_X11_leaf T x0 x1 x2 x3 ∧ T = T') := by
  refine k_X11_leaf hsz  x0 x1 x2 x3 ?_
  unfold ok_X11_leaf at ok
  refine ⟨fun kq0 => ?_, fun kq0 => ?_, fun kq0 => ?_, fun kq0 => ?_, fun kq0 => ?_, fun kq0 => ?_, fun kq0 => ?_, fun kq0_0 kq0_1 kq0_2 kq0_3 kq0_4 kq0_5 kq0_6 => ?_⟩
  · replace ok := ok.1 kq0
    refine ⟨ok, ?_⟩
    exact ⟨by unfold v_X11_leaf; first | (rw [if_pos kq0]; done) | (rw [if_pos kq0]; rfl), rfl⟩
  · replace ok := ok.2.1 kq0
    refine ⟨ok, ?_⟩
    exact ⟨by unfold v_X11_leaf; first | (rw [if_neg (show ¬ x0 = 97 by rw [kq0]; decide), if_pos kq0]; done) | (rw [if_neg (show ¬ x0 = 97 by rw [kq0]; decide), if_pos kq0]; rfl), rfl⟩
  · replace ok := ok.2.2.1 kq0
    refine ⟨_, c_X11_inList hsz  x3 (((6 : Int32) * x2) + x1) ok.1, ?_⟩
    rintro _ _ ⟨rfl, rfl⟩
    replace ok := ok.2
    exact ⟨by unfold v_X11_leaf; first | (rw [if_neg (show ¬ x0 = 97 by rw [kq0]; decide), if_neg (show ¬ x0 = 99 by rw [kq0]; decide), if_pos kq0]; done) | (rw [if_neg (show ¬ x0 = 97 by rw [kq0]; decide), if_neg (show ¬ x0 = 99 by rw [kq0]; decide), if_pos kq0]; rfl), rfl⟩
  · replace ok := ok.2.2.2.1 kq0
    exact ⟨by unfold v_X11_leaf; first | (rw [if_neg (show ¬ x0 = 97 by rw [kq0]; decide), if_neg (show ¬ x0 = 99 by rw [kq0]; decide), if_neg (show ¬ x0 = 108 by rw [kq0]; decide), if_pos kq0]; done) | (rw [if_neg (show ¬ x0 = 97 by rw [kq0]; decide), if_neg (show ¬ x0 = 99 by rw [kq0]; decide), if_neg (show ¬ x0 = 108 by rw [kq0]; decide), if_pos kq0]; rfl), rfl⟩
  · replace ok := ok.2.2.2.2.1 kq0
    refine ⟨_, c_X11_inNone hsz  x3 x2 ok.1, ?_⟩
    rintro _ _ ⟨rfl, rfl⟩
    replace ok := ok.2
    exact ⟨by unfold v_X11_leaf; first | (rw [if_neg (show ¬ x0 = 97 by rw [kq0]; decide), if_neg (show ¬ x0 = 99 by rw [kq0]; decide), if_neg (show ¬ x0 = 108 by rw [kq0]; decide), if_neg (show ¬ x0 = 110 by rw [kq0]; decide), if_pos kq0]; done) | (rw [if_neg (show ¬ x0 = 97 by rw [kq0]; decide), if_neg (show ¬ x0 = 99 by rw [kq0]; decide), if_neg (show ¬ x0 = 108 by rw [kq0]; decide), if_neg (show ¬ x0 = 110 by rw [kq0]; decide), if_pos kq0]; rfl), rfl⟩
  · replace ok := ok.2.2.2.2.2.1 kq0
    refine ⟨ok, ?_⟩
    exact ⟨by unfold v_X11_leaf; first | (rw [if_neg (show ¬ x0 = 97 by rw [kq0]; decide), if_neg (show ¬ x0 = 99 by rw [kq0]; decide), if_neg (show ¬ x0 = 108 by rw [kq0]; decide), if_neg (show ¬ x0 = 110 by rw [kq0]; decide), if_neg (show ¬ x0 = 111 by rw [kq0]; decide), if_pos kq0]; done) | (rw [if_neg (show ¬ x0 = 97 by rw [kq0]; decide), if_neg (show ¬ x0 = 99 by rw [kq0]; decide), if_neg (show ¬ x0 = 108 by rw [kq0]; decide), if_neg (show ¬ x0 = 110 by rw [kq0]; decide), if_neg (show ¬ x0 = 111 by rw [kq0]; decide), if_pos kq0]; rfl), rfl⟩
  · replace ok := ok.2.2.2.2.2.2.1 kq0
    refine ⟨_, c_X11_total hsz  x2 ok.1, ?_⟩
    rintro _ _ ⟨rfl, rfl⟩
    replace ok := ok.2
    exact ⟨by unfold v_X11_leaf; first | (rw [if_neg (show ¬ x0 = 97 by rw [kq0]; decide), if_neg (show ¬ x0 = 99 by rw [kq0]; decide), if_neg (show ¬ x0 = 108 by rw [kq0]; decide), if_neg (show ¬ x0 = 110 by rw [kq0]; decide), if_neg (show ¬ x0 = 111 by rw [kq0]; decide), if_neg (show ¬ x0 = 112 by rw [kq0]; decide), if_pos kq0]; done) | (rw [if_neg (show ¬ x0 = 97 by rw [kq0]; decide), if_neg (show ¬ x0 = 99 by rw [kq0]; decide), if_neg (show ¬ x0 = 108 by rw [kq0]; decide), if_neg (show ¬ x0 = 110 by rw [kq0]; decide), if_neg (show ¬ x0 = 111 by rw [kq0]; decide), if_neg (show ¬ x0 = 112 by rw [kq0]; decide), if_pos kq0]; rfl), rfl⟩
  · replace ok := ok.2.2.2.2.2.2.2 kq0_0 kq0_1 kq0_2 kq0_3 kq0_4 kq0_5 kq0_6
    refine ⟨_, c_X11_leastMark hsz  x2 ok.1, ?_⟩
    rintro _ _ ⟨rfl, rfl⟩
    replace ok := ok.2
    exact ⟨by unfold v_X11_leaf; first | (rw [if_neg kq0_0, if_neg kq0_1, if_neg kq0_2, if_neg kq0_3, if_neg kq0_4, if_neg kq0_5, if_neg kq0_6]; done) | (rw [if_neg kq0_0, if_neg kq0_1, if_neg kq0_2, if_neg kq0_3, if_neg kq0_4, if_neg kq0_5, if_neg kq0_6]; rfl), rfl⟩
noncomputable def vl_X11_work : Nat → tT → Int32 → Int32 → Int32 → Int32 → Int32 → Int32 → Int32 × tT
  | 0, T, v2, v3, v4, v5, v6, v7 => (0, T)
  | n + 1, T, v2, v3, v4, v5, v6, v7 => (if (v6 + v2) ≤ v7 then ((T.1 140 (0 : Int32).toNatClampNeg), T) else (if (T.1 123 (v7.toNatClampNeg)) = (126 : Int32) then (if (T.1 140 (v5 - (1 : Int32)).toNatClampNeg) = 0 then vl_X11_work n (tI T 140 ((v5 - (1 : Int32)).toNatClampNeg) (1 : Int32)) v2 v3 v4 v5 v6 (v7 + (1 : Int32)) else vl_X11_work n (tI T 140 ((v5 - (1 : Int32)).toNatClampNeg) (0 : Int32)) v2 v3 v4 v5 v6 (v7 + (1 : Int32))) else (if (T.1 123 (v7.toNatClampNeg)) < (97 : Int32) then vl_X11_work n (tI T 140 (((v5 + (-1 : Int32)) - (1 : Int32)).toNatClampNeg) (v_X11_two T (T.1 123 (v7.toNatClampNeg)) (T.1 140 ((v5 + (-1 : Int32)) - (1 : Int32)).toNatClampNeg) (T.1 140 (v5 + (-1 : Int32)).toNatClampNeg))) v2 v3 v4 (v5 + (-1 : Int32)) v6 (v7 + (1 : Int32)) else (if (122 : Int32) < (T.1 123 (v7.toNatClampNeg)) then vl_X11_work n (tI T 140 (((v5 + (-1 : Int32)) - (1 : Int32)).toNatClampNeg) (v_X11_two T (T.1 123 (v7.toNatClampNeg)) (T.1 140 ((v5 + (-1 : Int32)) - (1 : Int32)).toNatClampNeg) (T.1 140 (v5 + (-1 : Int32)).toNatClampNeg))) v2 v3 v4 (v5 + (-1 : Int32)) v6 (v7 + (1 : Int32)) else vl_X11_work n (tI T 140 (v5.toNatClampNeg) (v_X11_leaf T (T.1 123 (v7.toNatClampNeg)) (T.1 124 (v7.toNatClampNeg)) v3 v4)) v2 v3 v4 (v5 + (1 : Int32)) v6 (v7 + (1 : Int32))))))
noncomputable def okl_X11_work : Nat → Nat → tT → Int32 → Int32 → Int32 → Int32 → Int32 → Int32 → Prop
  | 0, _, T, v2, v3, v4, v5, v6, v7 => False
  | n + 1, sz, T, v2, v3, v4, v5, v6, v7 => (((v6 + v2) ≤ v7 → vp_in (0 : Int32) 200) ∧ (¬ (v6 + v2) ≤ v7 → (vp_in v7 7500 ∧ ((¬ (T.1 123 (v7.toNatClampNeg)) = (126 : Int32) → (((T.1 123 (v7.toNatClampNeg)) < (97 : Int32) → (vp_in ((v5 + (-1 : Int32)) - (1 : Int32)) 200 ∧ (vp_in (v5 + (-1 : Int32)) 200 ∧ (vp_in ((v5 + (-1 : Int32)) - (1 : Int32)) 200 ∧ okl_X11_work n sz (tI T 140 (((v5 + (-1 : Int32)) - (1 : Int32)).toNatClampNeg) (v_X11_two T (T.1 123 (v7.toNatClampNeg)) (T.1 140 ((v5 + (-1 : Int32)) - (1 : Int32)).toNatClampNeg) (T.1 140 (v5 + (-1 : Int32)).toNatClampNeg))) v2 v3 v4 (v5 + (-1 : Int32)) v6 (v7 + (1 : Int32)))))) ∧ (¬ (T.1 123 (v7.toNatClampNeg)) < (97 : Int32) → (((122 : Int32) < (T.1 123 (v7.toNatClampNeg)) → (vp_in ((v5 + (-1 : Int32)) - (1 : Int32)) 200 ∧ (vp_in (v5 + (-1 : Int32)) 200 ∧ (vp_in ((v5 + (-1 : Int32)) - (1 : Int32)) 200 ∧ okl_X11_work n sz (tI T 140 (((v5 + (-1 : Int32)) - (1 : Int32)).toNatClampNeg) (v_X11_two T (T.1 123 (v7.toNatClampNeg)) (T.1 140 ((v5 + (-1 : Int32)) - (1 : Int32)).toNatClampNeg) (T.1 140 (v5 + (-1 : Int32)).toNatClampNeg))) v2 v3 v4 (v5 + (-1 : Int32)) v6 (v7 + (1 : Int32)))))) ∧ (¬ (122 : Int32) < (T.1 123 (v7.toNatClampNeg)) → (vp_in v7 7500 ∧ (ok_X11_leaf sz T (T.1 123 (v7.toNatClampNeg)) (T.1 124 (v7.toNatClampNeg)) v3 v4 ∧ (vp_in v5 200 ∧ okl_X11_work n sz (tI T 140 (v5.toNatClampNeg) (v_X11_leaf T (T.1 123 (v7.toNatClampNeg)) (T.1 124 (v7.toNatClampNeg)) v3 v4)) v2 v3 v4 (v5 + (1 : Int32)) v6 (v7 + (1 : Int32)))))))))) ∧ ((T.1 123 (v7.toNatClampNeg)) = (126 : Int32) → (vp_in (v5 - (1 : Int32)) 200 ∧ ((¬ (T.1 140 (v5 - (1 : Int32)).toNatClampNeg) = 0 → (vp_in (v5 - (1 : Int32)) 200 ∧ okl_X11_work n sz (tI T 140 ((v5 - (1 : Int32)).toNatClampNeg) (0 : Int32)) v2 v3 v4 v5 v6 (v7 + (1 : Int32)))) ∧ ((T.1 140 (v5 - (1 : Int32)).toNatClampNeg) = 0 → (vp_in (v5 - (1 : Int32)) 200 ∧ okl_X11_work n sz (tI T 140 ((v5 - (1 : Int32)).toNatClampNeg) (1 : Int32)) v2 v3 v4 v5 v6 (v7 + (1 : Int32)))))))))))
theorem vl_X11_work_s (n : Nat) (T : tT)  (v2 : Int32) (v3 : Int32) (v4 : Int32) (v5 : Int32) (v6 : Int32) (v7 : Int32) : vl_X11_work (n + 1) T v2 v3 v4 v5 v6 v7 = (if (v6 + v2) ≤ v7 then ((T.1 140 (0 : Int32).toNatClampNeg), T) else (if (T.1 123 (v7.toNatClampNeg)) = (126 : Int32) then (if (T.1 140 (v5 - (1 : Int32)).toNatClampNeg) = 0 then vl_X11_work n (tI T 140 ((v5 - (1 : Int32)).toNatClampNeg) (1 : Int32)) v2 v3 v4 v5 v6 (v7 + (1 : Int32)) else vl_X11_work n (tI T 140 ((v5 - (1 : Int32)).toNatClampNeg) (0 : Int32)) v2 v3 v4 v5 v6 (v7 + (1 : Int32))) else (if (T.1 123 (v7.toNatClampNeg)) < (97 : Int32) then vl_X11_work n (tI T 140 (((v5 + (-1 : Int32)) - (1 : Int32)).toNatClampNeg) (v_X11_two T (T.1 123 (v7.toNatClampNeg)) (T.1 140 ((v5 + (-1 : Int32)) - (1 : Int32)).toNatClampNeg) (T.1 140 (v5 + (-1 : Int32)).toNatClampNeg))) v2 v3 v4 (v5 + (-1 : Int32)) v6 (v7 + (1 : Int32)) else (if (122 : Int32) < (T.1 123 (v7.toNatClampNeg)) then vl_X11_work n (tI T 140 (((v5 + (-1 : Int32)) - (1 : Int32)).toNatClampNeg) (v_X11_two T (T.1 123 (v7.toNatClampNeg)) (T.1 140 ((v5 + (-1 : Int32)) - (1 : Int32)).toNatClampNeg) (T.1 140 (v5 + (-1 : Int32)).toNatClampNeg))) v2 v3 v4 (v5 + (-1 : Int32)) v6 (v7 + (1 : Int32)) else vl_X11_work n (tI T 140 (v5.toNatClampNeg) (v_X11_leaf T (T.1 123 (v7.toNatClampNeg)) (T.1 124 (v7.toNatClampNeg)) v3 v4)) v2 v3 v4 (v5 + (1 : Int32)) v6 (v7 + (1 : Int32)))))) := rfl
set_option maxRecDepth 10000 in
theorem lj_X11_work {X : ax_X} {d L sz : Nat} {Q : Int32 → tT → Prop} (hX : ax_ok X mX11_work (d + 3)) (hsz : 161 ≤ sz) (hR : ax_Ret X mX11_work (ti L sz Q)) : ∀ (n : Nat) (T : tT) (v2 : Int32) (v3 : Int32) (v4 : Int32) (v5 : Int32) (v6 : Int32) (v7 : Int32), okl_X11_work n sz T v2 v3 v4 v5 v6 v7 → Q (vl_X11_work n T v2 v3 v4 v5 v6 v7).1 (vl_X11_work n T v2 v3 v4 v5 v6 v7).2 → ax_j X 19 [some (.ref 105), none, some (.int v2), some (.int v3), some (.int v4), some (.int v5), some (.int v6), some (.int v7), none] [] (th L sz T) 0 0 := by
  intro n
  induction n with
  | zero => intro T v2 v3 v4 v5 v6 v7 ok; exact False.elim ok
  | succ n ih =>
    intro T v2 v3 v4 v5 v6 v7 ok hq
    refine s_X11_work_19 hX hR hsz  v2 v3 v4 v5 v6 v7 ?_
    unfold okl_X11_work at ok
    refine ⟨fun kq0 => ?_, fun kq0 => ?_⟩
    · replace ok := ok.1 kq0
      refine ⟨ok, ?_⟩
      have z := hq; rw [vl_X11_work_s, if_pos kq0] at z; exact z
    · replace ok := ok.2 kq0
      refine ⟨ok.1, ?_⟩
      replace ok := ok.2
      refine ⟨fun kq1 => ?_, fun kq1 => ?_⟩
      · replace ok := ok.1 kq1
        refine ⟨fun kq2 => ?_, fun kq2 => ?_⟩
        · replace ok := ok.1 kq2
          refine ⟨ok.1, ?_⟩
          replace ok := ok.2
          refine ⟨ok.1, ?_⟩
          replace ok := ok.2
          refine ⟨_, c_X11_two hsz  (T.1 123 (v7.toNatClampNeg)) (T.1 140 ((v5 + (-1 : Int32)) - (1 : Int32)).toNatClampNeg) (T.1 140 (v5 + (-1 : Int32)).toNatClampNeg) , ?_⟩
          rintro _ _ ⟨rfl, rfl⟩
          refine ⟨ok.1, ?_⟩
          replace ok := ok.2
          have z := hq; rw [vl_X11_work_s, if_neg kq0, if_neg kq1, if_pos kq2] at z; exact ih _ v2 v3 v4 (v5 + (-1 : Int32)) v6 (v7 + (1 : Int32)) ok z
        · replace ok := ok.2 kq2
          refine ⟨fun kq3 => ?_, fun kq3 => ?_⟩
          · replace ok := ok.1 kq3
            refine ⟨ok.1, ?_⟩
            replace ok := ok.2
            refine ⟨ok.1, ?_⟩
            replace ok := ok.2
            refine ⟨_, c_X11_two hsz  (T.1 123 (v7.toNatClampNeg)) (T.1 140 ((v5 + (-1 : Int32)) - (1 : Int32)).toNatClampNeg) (T.1 140 (v5 + (-1 : Int32)).toNatClampNeg) , ?_⟩
            rintro _ _ ⟨rfl, rfl⟩
            refine ⟨ok.1, ?_⟩
            replace ok := ok.2
            have z := hq; rw [vl_X11_work_s, if_neg kq0, if_neg kq1, if_neg kq2, if_pos kq3] at z; exact ih _ v2 v3 v4 (v5 + (-1 : Int32)) v6 (v7 + (1 : Int32)) ok z
          · replace ok := ok.2 kq3
            refine ⟨ok.1, ?_⟩
            replace ok := ok.2
            refine ⟨_, c_X11_leaf hsz  (T.1 123 (v7.toNatClampNeg)) (T.1 124 (v7.toNatClampNeg)) v3 v4 ok.1, ?_⟩
            rintro _ _ ⟨rfl, rfl⟩
            replace ok := ok.2
            refine ⟨ok.1, ?_⟩
            replace ok := ok.2
            have z := hq; rw [vl_X11_work_s, if_neg kq0, if_neg kq1, if_neg kq2, if_neg kq3] at z; exact ih _ v2 v3 v4 (v5 + (1 : Int32)) v6 (v7 + (1 : Int32)) ok z
      · replace ok := ok.2 kq1
        refine ⟨ok.1, ?_⟩
        replace ok := ok.2
        refine ⟨fun kq2 => ?_, fun kq2 => ?_⟩
        · replace ok := ok.1 kq2
          refine ⟨ok.1, ?_⟩
          replace ok := ok.2
          have z := hq; rw [vl_X11_work_s, if_neg kq0, if_pos kq1, if_neg kq2] at z; exact ih _ v2 v3 v4 v5 v6 (v7 + (1 : Int32)) ok z
        · replace ok := ok.2 kq2
          refine ⟨ok.1, ?_⟩
          replace ok := ok.2
          have z := hq; rw [vl_X11_work_s, if_neg kq0, if_pos kq1, if_pos kq2] at z; exact ih _ v2 v3 v4 v5 v6 (v7 + (1 : Int32)) ok z
noncomputable def F_X11_work (T : tT)  (x0 : Int32) (x1 : Int32) (x2 : Int32) (x3 : Int32) : Int32 × tT := vl_X11_work fu T x1 x2 x3 (0 : Int32) ((1500 : Int32) * (x2 / (8 : Int32))) (((1500 : Int32) * (x2 / (8 : Int32))) + x0)
noncomputable def ok_X11_work (sz : Nat) (T : tT)  (x0 : Int32) (x1 : Int32) (x2 : Int32) (x3 : Int32) : Prop := okl_X11_work fu sz T x1 x2 x3 (0 : Int32) ((1500 : Int32) * (x2 / (8 : Int32))) (((1500 : Int32) * (x2 / (8 : Int32))) + x0)
set_option maxRecDepth 10000 in
theorem c_X11_work {d L sz : Nat} {T : tT} (hsz : 161 ≤ sz) (x0 : Int32) (x1 : Int32) (x2 : Int32) (x3 : Int32) (ok : ok_X11_work sz T x0 x1 x2 x3) : tiK (d + 3) mX11_work [.ref 105, .int x0, .int x1, .int x2, .int x3] L sz T (fun r T' => r = (F_X11_work T x0 x1 x2 x3).1 ∧ T' = (F_X11_work T x0 x1 x2 x3).2) := by
  refine k_X11_work hsz  x0 x1 x2 x3 (fun X hX hR => ?_)
  unfold ok_X11_work at ok
  exact lj_X11_work hX hsz  hR _ _ x1 x2 x3 (0 : Int32) ((1500 : Int32) * (x2 / (8 : Int32))) (((1500 : Int32) * (x2 / (8 : Int32))) + x0) ok ⟨by unfold F_X11_work; rfl, by unfold F_X11_work; rfl⟩
noncomputable def vl_X11_judge : Nat → tT → Int32 → Int32 → Int32 → Int32 × tT
  | 0, T, v1, v2, v3 => (0, T)
  | n + 1, T, v1, v2, v3 => (if (T.1 115 (v2.toNatClampNeg)) ≤ v3 then ((-1 : Int32), T) else (if (F_X11_work T (T.1 117 (((8 : Int32) * v2) + v3).toNatClampNeg) (T.1 118 (((8 : Int32) * v2) + v3).toNatClampNeg) v2 v1).1 = 0 then (v3, (F_X11_work T (T.1 117 (((8 : Int32) * v2) + v3).toNatClampNeg) (T.1 118 (((8 : Int32) * v2) + v3).toNatClampNeg) v2 v1).2) else vl_X11_judge n ((F_X11_work T (T.1 117 (((8 : Int32) * v2) + v3).toNatClampNeg) (T.1 118 (((8 : Int32) * v2) + v3).toNatClampNeg) v2 v1).2) v1 v2 (v3 + (1 : Int32))))
noncomputable def okl_X11_judge : Nat → Nat → tT → Int32 → Int32 → Int32 → Prop
  | 0, _, T, v1, v2, v3 => False
  | n + 1, sz, T, v1, v2, v3 => (vp_in v2 40 ∧ (((T.1 115 (v2.toNatClampNeg)) ≤ v3 → True) ∧ (¬ (T.1 115 (v2.toNatClampNeg)) ≤ v3 → (vp_in (((8 : Int32) * v2) + v3) 320 ∧ (vp_in (((8 : Int32) * v2) + v3) 320 ∧ (ok_X11_work sz T (T.1 117 (((8 : Int32) * v2) + v3).toNatClampNeg) (T.1 118 (((8 : Int32) * v2) + v3).toNatClampNeg) v2 v1 ∧ ((¬ (F_X11_work T (T.1 117 (((8 : Int32) * v2) + v3).toNatClampNeg) (T.1 118 (((8 : Int32) * v2) + v3).toNatClampNeg) v2 v1).1 = 0 → okl_X11_judge n sz ((F_X11_work T (T.1 117 (((8 : Int32) * v2) + v3).toNatClampNeg) (T.1 118 (((8 : Int32) * v2) + v3).toNatClampNeg) v2 v1).2) v1 v2 (v3 + (1 : Int32))) ∧ ((F_X11_work T (T.1 117 (((8 : Int32) * v2) + v3).toNatClampNeg) (T.1 118 (((8 : Int32) * v2) + v3).toNatClampNeg) v2 v1).1 = 0 → True))))))))
theorem vl_X11_judge_s (n : Nat) (T : tT)  (v1 : Int32) (v2 : Int32) (v3 : Int32) : vl_X11_judge (n + 1) T v1 v2 v3 = (if (T.1 115 (v2.toNatClampNeg)) ≤ v3 then ((-1 : Int32), T) else (if (F_X11_work T (T.1 117 (((8 : Int32) * v2) + v3).toNatClampNeg) (T.1 118 (((8 : Int32) * v2) + v3).toNatClampNeg) v2 v1).1 = 0 then (v3, (F_X11_work T (T.1 117 (((8 : Int32) * v2) + v3).toNatClampNeg) (T.1 118 (((8 : Int32) * v2) + v3).toNatClampNeg) v2 v1).2) else vl_X11_judge n ((F_X11_work T (T.1 117 (((8 : Int32) * v2) + v3).toNatClampNeg) (T.1 118 (((8 : Int32) * v2) + v3).toNatClampNeg) v2 v1).2) v1 v2 (v3 + (1 : Int32)))) := rfl
set_option maxRecDepth 10000 in
theorem lj_X11_judge {X : ax_X} {d L sz : Nat} {Q : Int32 → tT → Prop} (hX : ax_ok X mX11_judge (d + 4)) (hsz : 161 ≤ sz) (hR : ax_Ret X mX11_judge (ti L sz Q)) : ∀ (n : Nat) (T : tT) (v1 : Int32) (v2 : Int32) (v3 : Int32), okl_X11_judge n sz T v1 v2 v3 → Q (vl_X11_judge n T v1 v2 v3).1 (vl_X11_judge n T v1 v2 v3).2 → ax_j X 26 [some (.ref 105), some (.int v1), some (.int v2), some (.int v3)] [] (th L sz T) 0 0 := by
  intro n
  induction n with
  | zero => intro T v1 v2 v3 ok; exact False.elim ok
  | succ n ih =>
    intro T v1 v2 v3 ok hq
    refine s_X11_judge_26 hX hR hsz  v1 v2 v3 ?_
    unfold okl_X11_judge at ok
    refine ⟨ok.1, ?_⟩
    replace ok := ok.2
    refine ⟨fun kq0 => ?_, fun kq0 => ?_⟩
    · replace ok := ok.1 kq0
      have z := hq; rw [vl_X11_judge_s, if_pos kq0] at z; exact z
    · replace ok := ok.2 kq0
      refine ⟨ok.1, ?_⟩
      replace ok := ok.2
      refine ⟨ok.1, ?_⟩
      replace ok := ok.2
      refine ⟨_, c_X11_work hsz  (T.1 117 (((8 : Int32) * v2) + v3).toNatClampNeg) (T.1 118 (((8 : Int32) * v2) + v3).toNatClampNeg) v2 v1 ok.1, ?_⟩
      rintro _ _ ⟨rfl, rfl⟩
      replace ok := ok.2
      refine ⟨fun kq1 => ?_, fun kq1 => ?_⟩
      · replace ok := ok.1 kq1
        have z := hq; rw [vl_X11_judge_s, if_neg kq0, if_neg kq1] at z; exact ih _ v1 v2 (v3 + (1 : Int32)) ok z
      · replace ok := ok.2 kq1
        have z := hq; rw [vl_X11_judge_s, if_neg kq0, if_pos kq1] at z; exact z
noncomputable def F_X11_judge (T : tT)  (x0 : Int32) : Int32 × tT := (if (v_X11_isEntry T x0) = 0 then ((-3 : Int32), T) else (if 0 ≤ (v_X11_spotOf T x0) then vl_X11_judge fu T x0 (v_X11_spotOf T x0) (0 : Int32) else ((-2 : Int32), T)))
noncomputable def ok_X11_judge (sz : Nat) (T : tT)  (x0 : Int32) : Prop := ((¬ (v_X11_isEntry T x0) = 0 → (ok_X11_spotOf sz T x0 ∧ ((0 ≤ (v_X11_spotOf T x0) → okl_X11_judge fu sz T x0 (v_X11_spotOf T x0) (0 : Int32)) ∧ (¬ 0 ≤ (v_X11_spotOf T x0) → True)))) ∧ ((v_X11_isEntry T x0) = 0 → True))
set_option maxRecDepth 10000 in
theorem c_X11_judge {d L sz : Nat} {T : tT} (hsz : 161 ≤ sz) (x0 : Int32) (ok : ok_X11_judge sz T x0) : tiK (d + 4) mX11_judge [.ref 105, .int x0] L sz T (fun r T' => r = (F_X11_judge T x0).1 ∧ T' = (F_X11_judge T x0).2) := by
  refine k_X11_judge hsz  x0 (fun X hX hR => ?_)
  unfold ok_X11_judge at ok
  refine ⟨_, c_X11_isEntry hsz  x0 , ?_⟩
  rintro _ _ ⟨rfl, rfl⟩
  refine ⟨fun kq0 => ?_, fun kq0 => ?_⟩
  · replace ok := ok.1 kq0
    refine ⟨_, c_X11_spotOf hsz  x0 ok.1, ?_⟩
    rintro _ _ ⟨rfl, rfl⟩
    replace ok := ok.2
    refine ⟨fun kq1 => ?_, fun kq1 => ?_⟩
    · replace ok := ok.1 kq1
      exact lj_X11_judge hX hsz  hR _ _ x0 (v_X11_spotOf T x0) (0 : Int32) ok ⟨by unfold F_X11_judge; first | (rw [if_neg kq0, if_pos kq1]; done) | (rw [if_neg kq0, if_pos kq1]; rfl), by unfold F_X11_judge; first | (rw [if_neg kq0, if_pos kq1]; done) | (rw [if_neg kq0, if_pos kq1]; rfl)⟩
    · replace ok := ok.2 kq1
      exact ⟨by unfold F_X11_judge; first | (rw [if_neg kq0, if_neg kq1]; done) | (rw [if_neg kq0, if_neg kq1]; rfl), by unfold F_X11_judge; first | (rw [if_neg kq0, if_neg kq1]; done) | (rw [if_neg kq0, if_neg kq1]; rfl)⟩
  · replace ok := ok.2 kq0
    exact ⟨by unfold F_X11_judge; first | (rw [if_pos kq0]; done) | (rw [if_pos kq0]; rfl), by unfold F_X11_judge; first | (rw [if_pos kq0]; done) | (rw [if_pos kq0]; rfl)⟩
noncomputable def vl_X11_result : Nat → tT → Int32 → Int32 → Int32 → Int32 → Int32 × tT
  | 0, T, v1, v2, v3, v4 => (0, T)
  | n + 1, T, v1, v2, v3, v4 => (if (T.1 113 (v3.toNatClampNeg)) ≤ v4 then (if (T.1 119 (v3.toNatClampNeg)) < 0 then (if (T.1 121 (v3.toNatClampNeg)) < 0 then ((1 : Int32), T) else (if (F_X11_work T (T.1 121 (v3.toNatClampNeg)) (T.1 122 (v3.toNatClampNeg)) v3 v1).1 = 0 then ((1 : Int32), (F_X11_work T (T.1 121 (v3.toNatClampNeg)) (T.1 122 (v3.toNatClampNeg)) v3 v1).2) else ((2 : Int32), (F_X11_work T (T.1 121 (v3.toNatClampNeg)) (T.1 122 (v3.toNatClampNeg)) v3 v1).2))) else (if (F_X11_work T (T.1 119 (v3.toNatClampNeg)) (T.1 120 (v3.toNatClampNeg)) v3 v1).1 = 0 then ((0 : Int32), (F_X11_work T (T.1 119 (v3.toNatClampNeg)) (T.1 120 (v3.toNatClampNeg)) v3 v1).2) else (if ((F_X11_work T (T.1 119 (v3.toNatClampNeg)) (T.1 120 (v3.toNatClampNeg)) v3 v1).2.1 121 (v3.toNatClampNeg)) < 0 then ((1 : Int32), (F_X11_work T (T.1 119 (v3.toNatClampNeg)) (T.1 120 (v3.toNatClampNeg)) v3 v1).2) else (if (F_X11_work ((F_X11_work T (T.1 119 (v3.toNatClampNeg)) (T.1 120 (v3.toNatClampNeg)) v3 v1).2) ((F_X11_work T (T.1 119 (v3.toNatClampNeg)) (T.1 120 (v3.toNatClampNeg)) v3 v1).2.1 121 (v3.toNatClampNeg)) ((F_X11_work T (T.1 119 (v3.toNatClampNeg)) (T.1 120 (v3.toNatClampNeg)) v3 v1).2.1 122 (v3.toNatClampNeg)) v3 v1).1 = 0 then ((1 : Int32), (F_X11_work ((F_X11_work T (T.1 119 (v3.toNatClampNeg)) (T.1 120 (v3.toNatClampNeg)) v3 v1).2) ((F_X11_work T (T.1 119 (v3.toNatClampNeg)) (T.1 120 (v3.toNatClampNeg)) v3 v1).2.1 121 (v3.toNatClampNeg)) ((F_X11_work T (T.1 119 (v3.toNatClampNeg)) (T.1 120 (v3.toNatClampNeg)) v3 v1).2.1 122 (v3.toNatClampNeg)) v3 v1).2) else ((2 : Int32), (F_X11_work ((F_X11_work T (T.1 119 (v3.toNatClampNeg)) (T.1 120 (v3.toNatClampNeg)) v3 v1).2) ((F_X11_work T (T.1 119 (v3.toNatClampNeg)) (T.1 120 (v3.toNatClampNeg)) v3 v1).2.1 121 (v3.toNatClampNeg)) ((F_X11_work T (T.1 119 (v3.toNatClampNeg)) (T.1 120 (v3.toNatClampNeg)) v3 v1).2.1 122 (v3.toNatClampNeg)) v3 v1).2))))) else (if 0 ≤ ((tI T 141 (v4.toNatClampNeg) (v_X11_known T v1 v4 v2)).1 141 (v4.toNatClampNeg)) then vl_X11_result n (tI T 141 (v4.toNatClampNeg) (v_X11_known T v1 v4 v2)) v1 v2 v3 (v4 + (1 : Int32)) else ((-1 : Int32), (tI T 141 (v4.toNatClampNeg) (v_X11_known T v1 v4 v2)))))
noncomputable def okl_X11_result : Nat → Nat → tT → Int32 → Int32 → Int32 → Int32 → Prop
  | 0, _, T, v1, v2, v3, v4 => False
  | n + 1, sz, T, v1, v2, v3, v4 => (vp_in v3 40 ∧ (((T.1 113 (v3.toNatClampNeg)) ≤ v4 → (vp_in v3 40 ∧ (((T.1 119 (v3.toNatClampNeg)) < 0 → (vp_in v3 40 ∧ (((T.1 121 (v3.toNatClampNeg)) < 0 → True) ∧ (¬ (T.1 121 (v3.toNatClampNeg)) < 0 → (vp_in v3 40 ∧ (vp_in v3 40 ∧ (ok_X11_work sz T (T.1 121 (v3.toNatClampNeg)) (T.1 122 (v3.toNatClampNeg)) v3 v1 ∧ True))))))) ∧ (¬ (T.1 119 (v3.toNatClampNeg)) < 0 → (vp_in v3 40 ∧ (vp_in v3 40 ∧ (ok_X11_work sz T (T.1 119 (v3.toNatClampNeg)) (T.1 120 (v3.toNatClampNeg)) v3 v1 ∧ ((¬ (F_X11_work T (T.1 119 (v3.toNatClampNeg)) (T.1 120 (v3.toNatClampNeg)) v3 v1).1 = 0 → (vp_in v3 40 ∧ ((((F_X11_work T (T.1 119 (v3.toNatClampNeg)) (T.1 120 (v3.toNatClampNeg)) v3 v1).2.1 121 (v3.toNatClampNeg)) < 0 → True) ∧ (¬ ((F_X11_work T (T.1 119 (v3.toNatClampNeg)) (T.1 120 (v3.toNatClampNeg)) v3 v1).2.1 121 (v3.toNatClampNeg)) < 0 → (vp_in v3 40 ∧ (vp_in v3 40 ∧ (ok_X11_work sz ((F_X11_work T (T.1 119 (v3.toNatClampNeg)) (T.1 120 (v3.toNatClampNeg)) v3 v1).2) ((F_X11_work T (T.1 119 (v3.toNatClampNeg)) (T.1 120 (v3.toNatClampNeg)) v3 v1).2.1 121 (v3.toNatClampNeg)) ((F_X11_work T (T.1 119 (v3.toNatClampNeg)) (T.1 120 (v3.toNatClampNeg)) v3 v1).2.1 122 (v3.toNatClampNeg)) v3 v1 ∧ True))))))) ∧ ((F_X11_work T (T.1 119 (v3.toNatClampNeg)) (T.1 120 (v3.toNatClampNeg)) v3 v1).1 = 0 → True))))))))) ∧ (¬ (T.1 113 (v3.toNatClampNeg)) ≤ v4 → (ok_X11_known sz T v1 v4 v2 ∧ (vp_in v4 6 ∧ (vp_in v4 6 ∧ ((0 ≤ ((tI T 141 (v4.toNatClampNeg) (v_X11_known T v1 v4 v2)).1 141 (v4.toNatClampNeg)) → okl_X11_result n sz (tI T 141 (v4.toNatClampNeg) (v_X11_known T v1 v4 v2)) v1 v2 v3 (v4 + (1 : Int32))) ∧ (¬ 0 ≤ ((tI T 141 (v4.toNatClampNeg) (v_X11_known T v1 v4 v2)).1 141 (v4.toNatClampNeg)) → True))))))))
theorem vl_X11_result_s (n : Nat) (T : tT)  (v1 : Int32) (v2 : Int32) (v3 : Int32) (v4 : Int32) : vl_X11_result (n + 1) T v1 v2 v3 v4 = (if (T.1 113 (v3.toNatClampNeg)) ≤ v4 then (if (T.1 119 (v3.toNatClampNeg)) < 0 then (if (T.1 121 (v3.toNatClampNeg)) < 0 then ((1 : Int32), T) else (if (F_X11_work T (T.1 121 (v3.toNatClampNeg)) (T.1 122 (v3.toNatClampNeg)) v3 v1).1 = 0 then ((1 : Int32), (F_X11_work T (T.1 121 (v3.toNatClampNeg)) (T.1 122 (v3.toNatClampNeg)) v3 v1).2) else ((2 : Int32), (F_X11_work T (T.1 121 (v3.toNatClampNeg)) (T.1 122 (v3.toNatClampNeg)) v3 v1).2))) else (if (F_X11_work T (T.1 119 (v3.toNatClampNeg)) (T.1 120 (v3.toNatClampNeg)) v3 v1).1 = 0 then ((0 : Int32), (F_X11_work T (T.1 119 (v3.toNatClampNeg)) (T.1 120 (v3.toNatClampNeg)) v3 v1).2) else (if ((F_X11_work T (T.1 119 (v3.toNatClampNeg)) (T.1 120 (v3.toNatClampNeg)) v3 v1).2.1 121 (v3.toNatClampNeg)) < 0 then ((1 : Int32), (F_X11_work T (T.1 119 (v3.toNatClampNeg)) (T.1 120 (v3.toNatClampNeg)) v3 v1).2) else (if (F_X11_work ((F_X11_work T (T.1 119 (v3.toNatClampNeg)) (T.1 120 (v3.toNatClampNeg)) v3 v1).2) ((F_X11_work T (T.1 119 (v3.toNatClampNeg)) (T.1 120 (v3.toNatClampNeg)) v3 v1).2.1 121 (v3.toNatClampNeg)) ((F_X11_work T (T.1 119 (v3.toNatClampNeg)) (T.1 120 (v3.toNatClampNeg)) v3 v1).2.1 122 (v3.toNatClampNeg)) v3 v1).1 = 0 then ((1 : Int32), (F_X11_work ((F_X11_work T (T.1 119 (v3.toNatClampNeg)) (T.1 120 (v3.toNatClampNeg)) v3 v1).2) ((F_X11_work T (T.1 119 (v3.toNatClampNeg)) (T.1 120 (v3.toNatClampNeg)) v3 v1).2.1 121 (v3.toNatClampNeg)) ((F_X11_work T (T.1 119 (v3.toNatClampNeg)) (T.1 120 (v3.toNatClampNeg)) v3 v1).2.1 122 (v3.toNatClampNeg)) v3 v1).2) else ((2 : Int32), (F_X11_work ((F_X11_work T (T.1 119 (v3.toNatClampNeg)) (T.1 120 (v3.toNatClampNeg)) v3 v1).2) ((F_X11_work T (T.1 119 (v3.toNatClampNeg)) (T.1 120 (v3.toNatClampNeg)) v3 v1).2.1 121 (v3.toNatClampNeg)) ((F_X11_work T (T.1 119 (v3.toNatClampNeg)) (T.1 120 (v3.toNatClampNeg)) v3 v1).2.1 122 (v3.toNatClampNeg)) v3 v1).2))))) else (if 0 ≤ ((tI T 141 (v4.toNatClampNeg) (v_X11_known T v1 v4 v2)).1 141 (v4.toNatClampNeg)) then vl_X11_result n (tI T 141 (v4.toNatClampNeg) (v_X11_known T v1 v4 v2)) v1 v2 v3 (v4 + (1 : Int32)) else ((-1 : Int32), (tI T 141 (v4.toNatClampNeg) (v_X11_known T v1 v4 v2))))) := rfl
set_option maxRecDepth 10000 in
theorem lj_X11_result {X : ax_X} {d L sz : Nat} {Q : Int32 → tT → Prop} (hX : ax_ok X mX11_result (d + 5)) (hsz : 161 ≤ sz) (hR : ax_Ret X mX11_result (ti L sz Q)) : ∀ (n : Nat) (T : tT) (v1 : Int32) (v2 : Int32) (v3 : Int32) (v4 : Int32), okl_X11_result n sz T v1 v2 v3 v4 → Q (vl_X11_result n T v1 v2 v3 v4).1 (vl_X11_result n T v1 v2 v3 v4).2 → ax_j X 28 [some (.ref 105), some (.int v1), some (.int v2), some (.int v3), some (.int v4)] [] (th L sz T) 0 0 := by
  intro n
  induction n with
  | zero => intro T v1 v2 v3 v4 ok; exact False.elim ok
  | succ n ih =>
    intro T v1 v2 v3 v4 ok hq
    refine s_X11_result_28 hX hR hsz  v1 v2 v3 v4 ?_
    unfold okl_X11_result at ok
    refine ⟨ok.1, ?_⟩
    replace ok := ok.2
    refine ⟨fun kq0 => ?_, fun kq0 => ?_⟩
    · replace ok := ok.1 kq0
      refine ⟨ok.1, ?_⟩
      replace ok := ok.2
      refine ⟨fun kq1 => ?_, fun kq1 => ?_⟩
      · replace ok := ok.1 kq1
        refine ⟨ok.1, ?_⟩
        replace ok := ok.2
        refine ⟨fun kq2 => ?_, fun kq2 => ?_⟩
        · replace ok := ok.1 kq2
          have z := hq; rw [vl_X11_result_s, if_pos kq0, if_pos kq1, if_pos kq2] at z; exact z
        · replace ok := ok.2 kq2
          refine ⟨ok.1, ?_⟩
          replace ok := ok.2
          refine ⟨ok.1, ?_⟩
          replace ok := ok.2
          refine ⟨_, c_X11_work hsz  (T.1 121 (v3.toNatClampNeg)) (T.1 122 (v3.toNatClampNeg)) v3 v1 ok.1, ?_⟩
          rintro _ _ ⟨rfl, rfl⟩
          replace ok := ok.2
          refine ⟨fun kq3 => ?_, fun kq3 => ?_⟩
          · have z := hq; rw [vl_X11_result_s, if_pos kq0, if_pos kq1, if_neg kq2, if_pos kq3] at z; exact z
          · have z := hq; rw [vl_X11_result_s, if_pos kq0, if_pos kq1, if_neg kq2, if_neg kq3] at z; exact z
      · replace ok := ok.2 kq1
        refine ⟨ok.1, ?_⟩
        replace ok := ok.2
        refine ⟨ok.1, ?_⟩
        replace ok := ok.2
        refine ⟨_, c_X11_work hsz  (T.1 119 (v3.toNatClampNeg)) (T.1 120 (v3.toNatClampNeg)) v3 v1 ok.1, ?_⟩
        rintro _ _ ⟨rfl, rfl⟩
        replace ok := ok.2
        refine ⟨fun kq2 => ?_, fun kq2 => ?_⟩
        · replace ok := ok.1 kq2
          refine ⟨ok.1, ?_⟩
          replace ok := ok.2
          refine ⟨fun kq3 => ?_, fun kq3 => ?_⟩
          · replace ok := ok.1 kq3
            have z := hq; rw [vl_X11_result_s, if_pos kq0, if_neg kq1, if_neg kq2, if_pos kq3] at z; exact z
          · replace ok := ok.2 kq3
            refine ⟨ok.1, ?_⟩
            replace ok := ok.2
            refine ⟨ok.1, ?_⟩
            replace ok := ok.2
            refine ⟨_, c_X11_work hsz  ((F_X11_work T (T.1 119 (v3.toNatClampNeg)) (T.1 120 (v3.toNatClampNeg)) v3 v1).2.1 121 (v3.toNatClampNeg)) ((F_X11_work T (T.1 119 (v3.toNatClampNeg)) (T.1 120 (v3.toNatClampNeg)) v3 v1).2.1 122 (v3.toNatClampNeg)) v3 v1 ok.1, ?_⟩
            rintro _ _ ⟨rfl, rfl⟩
            replace ok := ok.2
            refine ⟨fun kq4 => ?_, fun kq4 => ?_⟩
            · have z := hq; rw [vl_X11_result_s, if_pos kq0, if_neg kq1, if_neg kq2, if_neg kq3, if_pos kq4] at z; exact z
            · have z := hq; rw [vl_X11_result_s, if_pos kq0, if_neg kq1, if_neg kq2, if_neg kq3, if_neg kq4] at z; exact z
        · replace ok := ok.2 kq2
          have z := hq; rw [vl_X11_result_s, if_pos kq0, if_neg kq1, if_pos kq2] at z; exact z
    · replace ok := ok.2 kq0
      refine ⟨_, c_X11_known hsz  v1 v4 v2 ok.1, ?_⟩
      rintro _ _ ⟨rfl, rfl⟩
      replace ok := ok.2
      refine ⟨ok.1, ?_⟩
      replace ok := ok.2
      refine ⟨ok.1, ?_⟩
      replace ok := ok.2
      refine ⟨fun kq1 => ?_, fun kq1 => ?_⟩
      · replace ok := ok.1 kq1
        have z := hq; rw [vl_X11_result_s, if_neg kq0, if_pos kq1] at z; exact ih _ v1 v2 v3 (v4 + (1 : Int32)) ok z
      · replace ok := ok.2 kq1
        have z := hq; rw [vl_X11_result_s, if_neg kq0, if_neg kq1] at z; exact z
noncomputable def F_X11_result (T : tT)  (x0 : Int32) (x1 : Int32) : Int32 × tT := (if (v_X11_isEntry T x0) = 0 then ((-1 : Int32), T) else (if (F_X11_judge T x0).1 = (-1 : Int32) then vl_X11_result fu ((F_X11_judge T x0).2) x0 x1 (v_X11_spotOf ((F_X11_judge T x0).2) x0) (0 : Int32) else ((-1 : Int32), (F_X11_judge T x0).2)))
noncomputable def ok_X11_result (sz : Nat) (T : tT)  (x0 : Int32) (x1 : Int32) : Prop := (((v_X11_isEntry T x0) = 0 → True) ∧ (¬ (v_X11_isEntry T x0) = 0 → (ok_X11_judge sz T x0 ∧ (((F_X11_judge T x0).1 = (-1 : Int32) → (ok_X11_spotOf sz ((F_X11_judge T x0).2) x0 ∧ okl_X11_result fu sz ((F_X11_judge T x0).2) x0 x1 (v_X11_spotOf ((F_X11_judge T x0).2) x0) (0 : Int32))) ∧ (¬ (F_X11_judge T x0).1 = (-1 : Int32) → True)))))
set_option maxRecDepth 10000 in
theorem c_X11_result {d L sz : Nat} {T : tT} (hsz : 161 ≤ sz) (x0 : Int32) (x1 : Int32) (ok : ok_X11_result sz T x0 x1) : tiK (d + 5) mX11_result [.ref 105, .int x0, .int x1] L sz T (fun r T' => r = (F_X11_result T x0 x1).1 ∧ T' = (F_X11_result T x0 x1).2) := by
  refine k_X11_result hsz  x0 x1 (fun X hX hR => ?_)
  unfold ok_X11_result at ok
  refine ⟨_, c_X11_isEntry hsz  x0 , ?_⟩
  rintro _ _ ⟨rfl, rfl⟩
  refine ⟨fun kq0 => ?_, fun kq0 => ?_⟩
  · replace ok := ok.1 kq0
    exact ⟨by unfold F_X11_result; first | (rw [if_pos kq0]; done) | (rw [if_pos kq0]; rfl), by unfold F_X11_result; first | (rw [if_pos kq0]; done) | (rw [if_pos kq0]; rfl)⟩
  · replace ok := ok.2 kq0
    refine ⟨_, c_X11_judge hsz  x0 ok.1, ?_⟩
    rintro _ _ ⟨rfl, rfl⟩
    replace ok := ok.2
    refine ⟨fun kq1 => ?_, fun kq1 => ?_⟩
    · replace ok := ok.1 kq1
      refine ⟨_, c_X11_spotOf hsz  x0 ok.1, ?_⟩
      rintro _ _ ⟨rfl, rfl⟩
      replace ok := ok.2
      exact lj_X11_result hX hsz  hR _ _ x0 x1 (v_X11_spotOf ((F_X11_judge T x0).2) x0) (0 : Int32) ok ⟨by unfold F_X11_result; first | (rw [if_neg kq0, if_pos kq1]; done) | (rw [if_neg kq0, if_pos kq1]; rfl), by unfold F_X11_result; first | (rw [if_neg kq0, if_pos kq1]; done) | (rw [if_neg kq0, if_pos kq1]; rfl)⟩
    · replace ok := ok.2 kq1
      exact ⟨by unfold F_X11_result; first | (rw [if_neg kq0, if_neg kq1]; done) | (rw [if_neg kq0, if_neg kq1]; rfl), by unfold F_X11_result; first | (rw [if_neg kq0, if_neg kq1]; done) | (rw [if_neg kq0, if_neg kq1]; rfl)⟩
noncomputable def F_X11_doesHold (T : tT)  (x0 : Int32) (x1 : Int32) : Int32 × tT := (if x1 < (T.1 159 (x0.toNatClampNeg)) then ((0 : Int32), T) else (if (F_X11_result T (T.1 158 (x0.toNatClampNeg)) x1).1 < ((F_X11_result T (T.1 158 (x0.toNatClampNeg)) x1).2.1 160 (x0.toNatClampNeg)) then ((0 : Int32), (F_X11_result T (T.1 158 (x0.toNatClampNeg)) x1).2) else ((1 : Int32), (F_X11_result T (T.1 158 (x0.toNatClampNeg)) x1).2)))
noncomputable def ok_X11_doesHold (sz : Nat) (T : tT)  (x0 : Int32) (x1 : Int32) : Prop := (vp_in x0 61 ∧ ((x1 < (T.1 159 (x0.toNatClampNeg)) → True) ∧ (¬ x1 < (T.1 159 (x0.toNatClampNeg)) → (vp_in x0 61 ∧ (ok_X11_result sz T (T.1 158 (x0.toNatClampNeg)) x1 ∧ vp_in x0 61)))))
set_option maxRecDepth 10000 in
theorem c_X11_doesHold {d L sz : Nat} {T : tT} (hsz : 161 ≤ sz) (x0 : Int32) (x1 : Int32) (ok : ok_X11_doesHold sz T x0 x1) : tiK (d + 6) mX11_doesHold [.ref 105, .int x0, .int x1] L sz T (fun r T' => r = (F_X11_doesHold T x0 x1).1 ∧ T' = (F_X11_doesHold T x0 x1).2) := by
  refine k_X11_doesHold hsz  x0 x1 ?_
  unfold ok_X11_doesHold at ok
  refine ⟨ok.1, ?_⟩
  replace ok := ok.2
  refine ⟨fun kq0 => ?_, fun kq0 => ?_⟩
  · replace ok := ok.1 kq0
    exact ⟨by unfold F_X11_doesHold; first | (rw [if_pos kq0]; done) | (rw [if_pos kq0]; rfl), by unfold F_X11_doesHold; first | (rw [if_pos kq0]; done) | (rw [if_pos kq0]; rfl)⟩
  · replace ok := ok.2 kq0
    refine ⟨ok.1, ?_⟩
    replace ok := ok.2
    refine ⟨_, c_X11_result hsz  (T.1 158 (x0.toNatClampNeg)) x1 ok.1, ?_⟩
    rintro _ _ ⟨rfl, rfl⟩
    replace ok := ok.2
    refine ⟨ok, ?_⟩
    refine ⟨fun kq1 => ?_, fun kq1 => ?_⟩
    · exact ⟨by unfold F_X11_doesHold; first | (rw [if_neg kq0, if_pos kq1]; done) | (rw [if_neg kq0, if_pos kq1]; rfl), by unfold F_X11_doesHold; first | (rw [if_neg kq0, if_pos kq1]; done) | (rw [if_neg kq0, if_pos kq1]; rfl)⟩
    · exact ⟨by unfold F_X11_doesHold; first | (rw [if_neg kq0, if_neg kq1]; done) | (rw [if_neg kq0, if_neg kq1]; rfl), by unfold F_X11_doesHold; first | (rw [if_neg kq0, if_neg kq1]; done) | (rw [if_neg kq0, if_neg kq1]; rfl)⟩
noncomputable def F_X11_holds (T : tT)  (x0 : Int32) (x1 : Int32) : Int32 × tT := (if x0 < (1 : Int32) then ((-1 : Int32), T) else (if x0 ≤ (T.1 105 76) then (if (F_X11_doesHold T x0 x1).1 = 0 then ((0 : Int32), (F_X11_doesHold T x0 x1).2) else ((1 : Int32), (F_X11_doesHold T x0 x1).2)) else ((-1 : Int32), T)))
noncomputable def ok_X11_holds (sz : Nat) (T : tT)  (x0 : Int32) (x1 : Int32) : Prop := ((x0 < (1 : Int32) → True) ∧ (¬ x0 < (1 : Int32) → ((x0 ≤ (T.1 105 76) → (ok_X11_doesHold sz T x0 x1 ∧ True)) ∧ (¬ x0 ≤ (T.1 105 76) → True))))
set_option maxRecDepth 10000 in
theorem c_X11_holds {d L sz : Nat} {T : tT} (hsz : 161 ≤ sz) (x0 : Int32) (x1 : Int32) (ok : ok_X11_holds sz T x0 x1) : tiK (d + 7) mX11_holds [.ref 105, .int x0, .int x1] L sz T (fun r T' => r = (F_X11_holds T x0 x1).1 ∧ T' = (F_X11_holds T x0 x1).2) := by
  refine k_X11_holds hsz  x0 x1 ?_
  unfold ok_X11_holds at ok
  refine ⟨fun kq0 => ?_, fun kq0 => ?_⟩
  · replace ok := ok.1 kq0
    exact ⟨by unfold F_X11_holds; first | (rw [if_pos kq0]; done) | (rw [if_pos kq0]; rfl), by unfold F_X11_holds; first | (rw [if_pos kq0]; done) | (rw [if_pos kq0]; rfl)⟩
  · replace ok := ok.2 kq0
    refine ⟨fun kq1 => ?_, fun kq1 => ?_⟩
    · replace ok := ok.1 kq1
      refine ⟨_, c_X11_doesHold hsz  x0 x1 ok.1, ?_⟩
      rintro _ _ ⟨rfl, rfl⟩
      replace ok := ok.2
      refine ⟨fun kq2 => ?_, fun kq2 => ?_⟩
      · exact ⟨by unfold F_X11_holds; first | (rw [if_neg kq0, if_pos kq1, if_pos kq2]; done) | (rw [if_neg kq0, if_pos kq1, if_pos kq2]; rfl), by unfold F_X11_holds; first | (rw [if_neg kq0, if_pos kq1, if_pos kq2]; done) | (rw [if_neg kq0, if_pos kq1, if_pos kq2]; rfl)⟩
      · exact ⟨by unfold F_X11_holds; first | (rw [if_neg kq0, if_pos kq1, if_neg kq2]; done) | (rw [if_neg kq0, if_pos kq1, if_neg kq2]; rfl), by unfold F_X11_holds; first | (rw [if_neg kq0, if_pos kq1, if_neg kq2]; done) | (rw [if_neg kq0, if_pos kq1, if_neg kq2]; rfl)⟩
    · replace ok := ok.2 kq1
      exact ⟨by unfold F_X11_holds; first | (rw [if_neg kq0, if_neg kq1]; done) | (rw [if_neg kq0, if_neg kq1]; rfl), by unfold F_X11_holds; first | (rw [if_neg kq0, if_neg kq1]; done) | (rw [if_neg kq0, if_neg kq1]; rfl)⟩
noncomputable def vl_X11_certify : Nat → tT → Int32 → Int32 → Int32 → Int32 × tT
  | 0, T, v1, v2, v3 => (0, T)
  | n + 1, T, v1, v2, v3 => (if (T.1 105 76) < v3 then (((T.1 105 76) + (1 : Int32)), (tI (tI (tI (tI T 105 76 ((T.1 105 76) + (1 : Int32))) 158 (((T.1 105 76) + (1 : Int32)).toNatClampNeg) v1) 159 (((T.1 105 76) + (1 : Int32)).toNatClampNeg) (T.1 105 71)) 160 (((T.1 105 76) + (1 : Int32)).toNatClampNeg) v2)) else (if (T.1 158 (v3.toNatClampNeg)) = v1 then (if (F_X11_doesHold T v3 (T.1 105 71)).1 = 0 then vl_X11_certify n ((F_X11_doesHold T v3 (T.1 105 71)).2) v1 v2 (v3 + (1 : Int32)) else ((-1 : Int32), (F_X11_doesHold T v3 (T.1 105 71)).2)) else vl_X11_certify n T v1 v2 (v3 + (1 : Int32))))
noncomputable def okl_X11_certify : Nat → Nat → tT → Int32 → Int32 → Int32 → Prop
  | 0, _, T, v1, v2, v3 => False
  | n + 1, sz, T, v1, v2, v3 => (((T.1 105 76) < v3 → (vp_in ((T.1 105 76) + (1 : Int32)) 61 ∧ (vp_in ((T.1 105 76) + (1 : Int32)) 61 ∧ vp_in ((T.1 105 76) + (1 : Int32)) 61))) ∧ (¬ (T.1 105 76) < v3 → (vp_in v3 61 ∧ ((¬ (T.1 158 (v3.toNatClampNeg)) = v1 → okl_X11_certify n sz T v1 v2 (v3 + (1 : Int32))) ∧ ((T.1 158 (v3.toNatClampNeg)) = v1 → (ok_X11_doesHold sz T v3 (T.1 105 71) ∧ (((F_X11_doesHold T v3 (T.1 105 71)).1 = 0 → okl_X11_certify n sz ((F_X11_doesHold T v3 (T.1 105 71)).2) v1 v2 (v3 + (1 : Int32))) ∧ (¬ (F_X11_doesHold T v3 (T.1 105 71)).1 = 0 → True))))))))
theorem vl_X11_certify_s (n : Nat) (T : tT)  (v1 : Int32) (v2 : Int32) (v3 : Int32) : vl_X11_certify (n + 1) T v1 v2 v3 = (if (T.1 105 76) < v3 then (((T.1 105 76) + (1 : Int32)), (tI (tI (tI (tI T 105 76 ((T.1 105 76) + (1 : Int32))) 158 (((T.1 105 76) + (1 : Int32)).toNatClampNeg) v1) 159 (((T.1 105 76) + (1 : Int32)).toNatClampNeg) (T.1 105 71)) 160 (((T.1 105 76) + (1 : Int32)).toNatClampNeg) v2)) else (if (T.1 158 (v3.toNatClampNeg)) = v1 then (if (F_X11_doesHold T v3 (T.1 105 71)).1 = 0 then vl_X11_certify n ((F_X11_doesHold T v3 (T.1 105 71)).2) v1 v2 (v3 + (1 : Int32)) else ((-1 : Int32), (F_X11_doesHold T v3 (T.1 105 71)).2)) else vl_X11_certify n T v1 v2 (v3 + (1 : Int32)))) := rfl
set_option maxRecDepth 10000 in
theorem lj_X11_certify {X : ax_X} {d L sz : Nat} {Q : Int32 → tT → Prop} (hX : ax_ok X mX11_certify (d + 7)) (hsz : 161 ≤ sz) (hR : ax_Ret X mX11_certify (ti L sz Q)) : ∀ (n : Nat) (T : tT) (v1 : Int32) (v2 : Int32) (v3 : Int32), okl_X11_certify n sz T v1 v2 v3 → Q (vl_X11_certify n T v1 v2 v3).1 (vl_X11_certify n T v1 v2 v3).2 → ax_j X 28 [some (.ref 105), some (.int v1), some (.int v2), some (.int v3)] [] (th L sz T) 0 0 := by
  intro n
  induction n with
  | zero => intro T v1 v2 v3 ok; exact False.elim ok
  | succ n ih =>
    intro T v1 v2 v3 ok hq
    refine s_X11_certify_28 hX hR hsz  v1 v2 v3 ?_
    unfold okl_X11_certify at ok
    refine ⟨fun kq0 => ?_, fun kq0 => ?_⟩
    · replace ok := ok.1 kq0
      refine ⟨ok.1, ?_⟩
      replace ok := ok.2
      refine ⟨ok.1, ?_⟩
      replace ok := ok.2
      refine ⟨ok, ?_⟩
      have z := hq; rw [vl_X11_certify_s, if_pos kq0] at z; exact z
    · replace ok := ok.2 kq0
      refine ⟨ok.1, ?_⟩
      replace ok := ok.2
      refine ⟨fun kq1 => ?_, fun kq1 => ?_⟩
      · replace ok := ok.1 kq1
        have z := hq; rw [vl_X11_certify_s, if_neg kq0, if_neg kq1] at z; exact ih _ v1 v2 (v3 + (1 : Int32)) ok z
      · replace ok := ok.2 kq1
        refine ⟨_, c_X11_doesHold hsz  v3 (T.1 105 71) ok.1, ?_⟩
        rintro _ _ ⟨rfl, rfl⟩
        replace ok := ok.2
        refine ⟨fun kq2 => ?_, fun kq2 => ?_⟩
        · replace ok := ok.1 kq2
          have z := hq; rw [vl_X11_certify_s, if_neg kq0, if_pos kq1, if_pos kq2] at z; exact ih _ v1 v2 (v3 + (1 : Int32)) ok z
        · replace ok := ok.2 kq2
          have z := hq; rw [vl_X11_certify_s, if_neg kq0, if_pos kq1, if_neg kq2] at z; exact z
noncomputable def F_X11_certify (T : tT)  (x0 : Int32) : Int32 × tT := (if (F_X11_result T x0 (T.1 105 71)).1 < (1 : Int32) then ((-1 : Int32), (F_X11_result T x0 (T.1 105 71)).2) else (if ((F_X11_result T x0 (T.1 105 71)).2.1 105 76) = (60 : Int32) then ((-1 : Int32), (F_X11_result T x0 (T.1 105 71)).2) else vl_X11_certify fu ((F_X11_result T x0 (T.1 105 71)).2) x0 ((F_X11_result T x0 (T.1 105 71)).1) (1 : Int32)))
noncomputable def ok_X11_certify (sz : Nat) (T : tT)  (x0 : Int32) : Prop := (ok_X11_result sz T x0 (T.1 105 71) ∧ (((F_X11_result T x0 (T.1 105 71)).1 < (1 : Int32) → True) ∧ (¬ (F_X11_result T x0 (T.1 105 71)).1 < (1 : Int32) → ((¬ ((F_X11_result T x0 (T.1 105 71)).2.1 105 76) = (60 : Int32) → okl_X11_certify fu sz ((F_X11_result T x0 (T.1 105 71)).2) x0 ((F_X11_result T x0 (T.1 105 71)).1) (1 : Int32)) ∧ (((F_X11_result T x0 (T.1 105 71)).2.1 105 76) = (60 : Int32) → True)))))
set_option maxRecDepth 10000 in
theorem c_X11_certify {d L sz : Nat} {T : tT} (hsz : 161 ≤ sz) (x0 : Int32) (ok : ok_X11_certify sz T x0) : tiK (d + 7) mX11_certify [.ref 105, .int x0] L sz T (fun r T' => r = (F_X11_certify T x0).1 ∧ T' = (F_X11_certify T x0).2) := by
  refine k_X11_certify hsz  x0 (fun X hX hR => ?_)
  unfold ok_X11_certify at ok
  refine ⟨_, c_X11_result hsz  x0 (T.1 105 71) ok.1, ?_⟩
  rintro _ _ ⟨rfl, rfl⟩
  replace ok := ok.2
  refine ⟨fun kq0 => ?_, fun kq0 => ?_⟩
  · replace ok := ok.1 kq0
    exact ⟨by unfold F_X11_certify; first | (rw [if_pos kq0]; done) | (rw [if_pos kq0]; rfl), by unfold F_X11_certify; first | (rw [if_pos kq0]; done) | (rw [if_pos kq0]; rfl)⟩
  · replace ok := ok.2 kq0
    refine ⟨fun kq1 => ?_, fun kq1 => ?_⟩
    · replace ok := ok.1 kq1
      exact lj_X11_certify hX hsz  hR _ _ x0 ((F_X11_result T x0 (T.1 105 71)).1) (1 : Int32) ok ⟨by unfold F_X11_certify; first | (rw [if_neg kq0, if_neg kq1]; done) | (rw [if_neg kq0, if_neg kq1]; rfl), by unfold F_X11_certify; first | (rw [if_neg kq0, if_neg kq1]; done) | (rw [if_neg kq0, if_neg kq1]; rfl)⟩
    · replace ok := ok.2 kq1
      exact ⟨by unfold F_X11_certify; first | (rw [if_neg kq0, if_pos kq1]; done) | (rw [if_neg kq0, if_pos kq1]; rfl), by unfold F_X11_certify; first | (rw [if_neg kq0, if_pos kq1]; done) | (rw [if_neg kq0, if_pos kq1]; rfl)⟩
noncomputable def vl_X11_meant : Nat → (tT → Int32 → Int32 → tT) × (tT → Int32 → tT) × (tT → Int32 → Int32 → tT) × (tT → Int32 → tT)
  | 0 => ((fun (T : tT)  (v2 : Int32) (w0 : Int32) => T), (fun (T : tT)  (w0 : Int32) => T), (fun (T : tT)  (w0 : Int32) (w1 : Int32) => T), (fun (T : tT)  (w0 : Int32) => T))
  | n + 1 => ((fun (T : tT)  (v2 : Int32) (w0 : Int32) => (if 0 ≤ w0 then (if v2 = 0 then (F_X11_step T (112 : Int32) w0) else (F_X11_step T (108 : Int32) w0)) else (F_X11_fails T (4 : Int32) (T.1 105 6)))), (fun (T : tT)  (w0 : Int32) => (vl_X11_meant n).2.2.1 T (1 : Int32) w0), (fun (T : tT)  (w0 : Int32) (w1 : Int32) => (if w1 = w0 then (vl_X11_meant n).2.2.2 T (1 : Int32) else (vl_X11_meant n).2.2.2 T (0 : Int32))), (fun (T : tT)  (w0 : Int32) => (if w0 = 0 then (F_X11_fails T (4 : Int32) (T.1 105 6)) else (if (T.2.1 105 10) = (7305070 : Int64) then (F_X11_step T (111 : Int32) (0 : Int32)) else (if (T.2.1 105 10) = (123597974889843 : Int64) then (F_X11_step T (99 : Int32) (0 : Int32)) else (if (T.2.1 105 10) = (6383461 : Int64) then (F_X11_step T (97 : Int32) (0 : Int32)) else (if (T.2.1 105 10) = (500086104428 : Int64) then (F_X11_step T (116 : Int32) (0 : Int32)) else (F_X11_step T (109 : Int32) (0 : Int32)))))))))
noncomputable def okl_X11_meant : Nat → (Nat → tT → Int32 → Int32 → Prop) × (Nat → tT → Int32 → Prop) × (Nat → tT → Int32 → Int32 → Prop) × (Nat → tT → Int32 → Prop)
  | 0 => ((fun (sz : Nat) (T : tT)  (v2 : Int32) (w0 : Int32) => False), (fun (sz : Nat) (T : tT)  (w0 : Int32) => False), (fun (sz : Nat) (T : tT)  (w0 : Int32) (w1 : Int32) => False), (fun (sz : Nat) (T : tT)  (w0 : Int32) => False))
  | n + 1 => ((fun (sz : Nat) (T : tT)  (v2 : Int32) (w0 : Int32) => ((0 ≤ w0 → ((v2 = 0 → (ok_X11_step sz T (112 : Int32) w0 ∧ True)) ∧ (¬ v2 = 0 → (ok_X11_step sz T (108 : Int32) w0 ∧ True)))) ∧ (¬ 0 ≤ w0 → True))), (fun (sz : Nat) (T : tT)  (w0 : Int32) => (okl_X11_meant n).2.2.1 sz T (1 : Int32) w0), (fun (sz : Nat) (T : tT)  (w0 : Int32) (w1 : Int32) => ((¬ w1 = w0 → (okl_X11_meant n).2.2.2 sz T (0 : Int32)) ∧ (w1 = w0 → (okl_X11_meant n).2.2.2 sz T (1 : Int32)))), (fun (sz : Nat) (T : tT)  (w0 : Int32) => ((w0 = 0 → True) ∧ (¬ w0 = 0 → ((¬ (T.2.1 105 10) = (7305070 : Int64) → ((¬ (T.2.1 105 10) = (123597974889843 : Int64) → ((¬ (T.2.1 105 10) = (6383461 : Int64) → ((¬ (T.2.1 105 10) = (500086104428 : Int64) → (ok_X11_step sz T (109 : Int32) (0 : Int32) ∧ True)) ∧ ((T.2.1 105 10) = (500086104428 : Int64) → (ok_X11_step sz T (116 : Int32) (0 : Int32) ∧ True)))) ∧ ((T.2.1 105 10) = (6383461 : Int64) → (ok_X11_step sz T (97 : Int32) (0 : Int32) ∧ True)))) ∧ ((T.2.1 105 10) = (123597974889843 : Int64) → (ok_X11_step sz T (99 : Int32) (0 : Int32) ∧ True)))) ∧ ((T.2.1 105 10) = (7305070 : Int64) → (ok_X11_step sz T (111 : Int32) (0 : Int32) ∧ True)))))))
theorem vl_X11_meant_s0 (n : Nat) (T : tT)  (v2 : Int32) (w0 : Int32) : (vl_X11_meant (n + 1)).1 T v2 w0 = (if 0 ≤ w0 then (if v2 = 0 then (F_X11_step T (112 : Int32) w0) else (F_X11_step T (108 : Int32) w0)) else (F_X11_fails T (4 : Int32) (T.1 105 6))) := rfl
theorem okl_X11_meant_s0 (n sz : Nat) (T : tT)  (v2 : Int32) (w0 : Int32) : (okl_X11_meant (n + 1)).1 sz T v2 w0 = ((0 ≤ w0 → ((v2 = 0 → (ok_X11_step sz T (112 : Int32) w0 ∧ True)) ∧ (¬ v2 = 0 → (ok_X11_step sz T (108 : Int32) w0 ∧ True)))) ∧ (¬ 0 ≤ w0 → True)) := rfl
theorem vl_X11_meant_s1 (n : Nat) (T : tT)  (w0 : Int32) : (vl_X11_meant (n + 1)).2.1 T w0 = (vl_X11_meant n).2.2.1 T (1 : Int32) w0 := rfl
theorem okl_X11_meant_s1 (n sz : Nat) (T : tT)  (w0 : Int32) : (okl_X11_meant (n + 1)).2.1 sz T w0 = (okl_X11_meant n).2.2.1 sz T (1 : Int32) w0 := rfl
theorem vl_X11_meant_s2 (n : Nat) (T : tT)  (w0 : Int32) (w1 : Int32) : (vl_X11_meant (n + 1)).2.2.1 T w0 w1 = (if w1 = w0 then (vl_X11_meant n).2.2.2 T (1 : Int32) else (vl_X11_meant n).2.2.2 T (0 : Int32)) := rfl
theorem okl_X11_meant_s2 (n sz : Nat) (T : tT)  (w0 : Int32) (w1 : Int32) : (okl_X11_meant (n + 1)).2.2.1 sz T w0 w1 = ((¬ w1 = w0 → (okl_X11_meant n).2.2.2 sz T (0 : Int32)) ∧ (w1 = w0 → (okl_X11_meant n).2.2.2 sz T (1 : Int32))) := rfl
theorem vl_X11_meant_s3 (n : Nat) (T : tT)  (w0 : Int32) : (vl_X11_meant (n + 1)).2.2.2 T w0 = (if w0 = 0 then (F_X11_fails T (4 : Int32) (T.1 105 6)) else (if (T.2.1 105 10) = (7305070 : Int64) then (F_X11_step T (111 : Int32) (0 : Int32)) else (if (T.2.1 105 10) = (123597974889843 : Int64) then (F_X11_step T (99 : Int32) (0 : Int32)) else (if (T.2.1 105 10) = (6383461 : Int64) then (F_X11_step T (97 : Int32) (0 : Int32)) else (if (T.2.1 105 10) = (500086104428 : Int64) then (F_X11_step T (116 : Int32) (0 : Int32)) else (F_X11_step T (109 : Int32) (0 : Int32))))))) := rfl
theorem okl_X11_meant_s3 (n sz : Nat) (T : tT)  (w0 : Int32) : (okl_X11_meant (n + 1)).2.2.2 sz T w0 = ((w0 = 0 → True) ∧ (¬ w0 = 0 → ((¬ (T.2.1 105 10) = (7305070 : Int64) → ((¬ (T.2.1 105 10) = (123597974889843 : Int64) → ((¬ (T.2.1 105 10) = (6383461 : Int64) → ((¬ (T.2.1 105 10) = (500086104428 : Int64) → (ok_X11_step sz T (109 : Int32) (0 : Int32) ∧ True)) ∧ ((T.2.1 105 10) = (500086104428 : Int64) → (ok_X11_step sz T (116 : Int32) (0 : Int32) ∧ True)))) ∧ ((T.2.1 105 10) = (6383461 : Int64) → (ok_X11_step sz T (97 : Int32) (0 : Int32) ∧ True)))) ∧ ((T.2.1 105 10) = (123597974889843 : Int64) → (ok_X11_step sz T (99 : Int32) (0 : Int32) ∧ True)))) ∧ ((T.2.1 105 10) = (7305070 : Int64) → (ok_X11_step sz T (111 : Int32) (0 : Int32) ∧ True))))) := rfl
set_option maxRecDepth 10000 in
set_option maxHeartbeats 1000000 in
theorem lj_X11_meant {X : ax_X} {d L sz : Nat} {Q : tT → Prop} (hX : ax_ok X mX11_meant (d + 1)) (hsz : 161 ≤ sz) (hR : ax_Ret X mX11_meant (tv L sz Q)) : ∀ n : Nat, (∀ (T : tT)  (v2 : Int32) (w0 : Int32), (okl_X11_meant n).1 sz T v2 w0 → Q ((vl_X11_meant n).1 T v2 w0) → ax_j X 169 [some (.ref 105), none, some (.int v2), none] [.int w0] (th L sz T) 0 0) ∧ (∀ (T : tT)  (w0 : Int32), (okl_X11_meant n).2.1 sz T w0 → Q ((vl_X11_meant n).2.1 T w0) → ax_j X 42 [some (.ref 105), none, none, none] [.int w0] (th L sz T) 0 0) ∧ (∀ (T : tT)  (w0 : Int32) (w1 : Int32), (okl_X11_meant n).2.2.1 sz T w0 w1 → Q ((vl_X11_meant n).2.2.1 T w0 w1) → ax_j X 47 [some (.ref 105), none, none, none] [.int w0, .int w1] (th L sz T) 0 0) ∧ (∀ (T : tT)  (w0 : Int32), (okl_X11_meant n).2.2.2 sz T w0 → Q ((vl_X11_meant n).2.2.2 T w0) → ax_j X 55 [some (.ref 105), none, none, none] [.int w0] (th L sz T) 0 0) := by
  intro n
  induction n with
  | zero => exact ⟨(by intros; rename_i ok _; exact False.elim ok), (by intros; rename_i ok _; exact False.elim ok), (by intros; rename_i ok _; exact False.elim ok), (by intros; rename_i ok _; exact False.elim ok)⟩
  | succ n ih =>
    refine ⟨?_, ?_, ?_, ?_⟩
    · intro T  v2 w0 ok hq
      refine s_X11_meant_169 hX hR hsz   v2 w0 ?_
      rw [okl_X11_meant_s0] at ok
      refine ⟨fun kq0 => ?_, fun kq0 => ?_⟩
      · replace ok := ok.1 kq0
        refine ⟨fun kq1 => ?_, fun kq1 => ?_⟩
        · replace ok := ok.1 kq1
          refine ⟨_, c_X11_step hsz  (112 : Int32) w0 ok.1, ?_⟩
          rintro _ rfl
          replace ok := ok.2
          have z := hq; rw [vl_X11_meant_s0, if_pos kq0, if_pos kq1] at z; exact z
        · replace ok := ok.2 kq1
          refine ⟨_, c_X11_step hsz  (108 : Int32) w0 ok.1, ?_⟩
          rintro _ rfl
          replace ok := ok.2
          have z := hq; rw [vl_X11_meant_s0, if_pos kq0, if_neg kq1] at z; exact z
      · replace ok := ok.2 kq0
        refine ⟨_, c_X11_fails hsz  (4 : Int32) (T.1 105 6) , ?_⟩
        rintro _ rfl
        have z := hq; rw [vl_X11_meant_s0, if_neg kq0] at z; exact z
    · intro T  w0 ok hq
      refine s_X11_meant_42 hX hR hsz   w0 ?_
      rw [okl_X11_meant_s1] at ok
      have z := hq; rw [vl_X11_meant_s1] at z; exact ih.2.2.1 _  (1 : Int32) w0 ok z
    · intro T  w0 w1 ok hq
      refine s_X11_meant_47 hX hR hsz   w0 w1 ?_
      rw [okl_X11_meant_s2] at ok
      refine ⟨fun kq0 => ?_, fun kq0 => ?_⟩
      · replace ok := ok.1 kq0
        have z := hq; rw [vl_X11_meant_s2, if_neg kq0] at z; exact ih.2.2.2 _  (0 : Int32) ok z
      · replace ok := ok.2 kq0
        have z := hq; rw [vl_X11_meant_s2, if_pos kq0] at z; exact ih.2.2.2 _  (1 : Int32) ok z
    · intro T  w0 ok hq
      refine s_X11_meant_55 hX hR hsz   w0 ?_
      rw [okl_X11_meant_s3] at ok
      refine ⟨fun kq0 => ?_, fun kq0 => ?_⟩
      · replace ok := ok.1 kq0
        refine ⟨_, c_X11_fails hsz  (4 : Int32) (T.1 105 6) , ?_⟩
        rintro _ rfl
        have z := hq; rw [vl_X11_meant_s3, if_pos kq0] at z; exact z
      · replace ok := ok.2 kq0
        refine ⟨fun kq1 => ?_, fun kq1 => ?_⟩
        · replace ok := ok.1 kq1
          refine ⟨fun kq2 => ?_, fun kq2 => ?_⟩
          · replace ok := ok.1 kq2
            refine ⟨fun kq3 => ?_, fun kq3 => ?_⟩
            · replace ok := ok.1 kq3
              refine ⟨fun kq4 => ?_, fun kq4 => ?_⟩
              · replace ok := ok.1 kq4
                refine ⟨_, c_X11_step hsz  (109 : Int32) (0 : Int32) ok.1, ?_⟩
                rintro _ rfl
                replace ok := ok.2
                have z := hq; rw [vl_X11_meant_s3, if_neg kq0, if_neg kq1, if_neg kq2, if_neg kq3, if_neg kq4] at z; exact z
              · replace ok := ok.2 kq4
                refine ⟨_, c_X11_step hsz  (116 : Int32) (0 : Int32) ok.1, ?_⟩
                rintro _ rfl
                replace ok := ok.2
                have z := hq; rw [vl_X11_meant_s3, if_neg kq0, if_neg kq1, if_neg kq2, if_neg kq3, if_pos kq4] at z; exact z
            · replace ok := ok.2 kq3
              refine ⟨_, c_X11_step hsz  (97 : Int32) (0 : Int32) ok.1, ?_⟩
              rintro _ rfl
              replace ok := ok.2
              have z := hq; rw [vl_X11_meant_s3, if_neg kq0, if_neg kq1, if_neg kq2, if_pos kq3] at z; exact z
          · replace ok := ok.2 kq2
            refine ⟨_, c_X11_step hsz  (99 : Int32) (0 : Int32) ok.1, ?_⟩
            rintro _ rfl
            replace ok := ok.2
            have z := hq; rw [vl_X11_meant_s3, if_neg kq0, if_neg kq1, if_pos kq2] at z; exact z
        · replace ok := ok.2 kq1
          refine ⟨_, c_X11_step hsz  (111 : Int32) (0 : Int32) ok.1, ?_⟩
          rintro _ rfl
          replace ok := ok.2
          have z := hq; rw [vl_X11_meant_s3, if_neg kq0, if_pos kq1] at z; exact z
noncomputable def F_X11_meant (T : tT)  (x0 : Int32) (x1 : Int32) : tT := (if (T.1 105 8) = (3 : Int32) then (if (T.2.1 105 10) = (7305070 : Int64) then (vl_X11_meant fu).2.1 T x1 else (if (T.2.1 105 10) = (123597974889843 : Int64) then (vl_X11_meant fu).2.1 T x1 else (if (T.2.1 105 10) = (6383461 : Int64) then (vl_X11_meant fu).2.1 T x1 else (vl_X11_meant fu).2.2.1 T (0 : Int32) x1))) else (if x1 = 0 then (vl_X11_meant fu).1 T x1 (v_X11_partOf T x0 (T.2.1 105 10)) else (vl_X11_meant fu).1 T x1 (v_X11_listOf T x0 (T.2.1 105 10))))
noncomputable def ok_X11_meant (sz : Nat) (T : tT)  (x0 : Int32) (x1 : Int32) : Prop := ((¬ (T.1 105 8) = (3 : Int32) → ((x1 = 0 → (ok_X11_partOf sz T x0 (T.2.1 105 10) ∧ (okl_X11_meant fu).1 sz T x1 (v_X11_partOf T x0 (T.2.1 105 10)))) ∧ (¬ x1 = 0 → (ok_X11_listOf sz T x0 (T.2.1 105 10) ∧ (okl_X11_meant fu).1 sz T x1 (v_X11_listOf T x0 (T.2.1 105 10)))))) ∧ ((T.1 105 8) = (3 : Int32) → (((T.2.1 105 10) = (7305070 : Int64) → (okl_X11_meant fu).2.1 sz T x1) ∧ (¬ (T.2.1 105 10) = (7305070 : Int64) → (((T.2.1 105 10) = (123597974889843 : Int64) → (okl_X11_meant fu).2.1 sz T x1) ∧ (¬ (T.2.1 105 10) = (123597974889843 : Int64) → ((¬ (T.2.1 105 10) = (6383461 : Int64) → (okl_X11_meant fu).2.2.1 sz T (0 : Int32) x1) ∧ ((T.2.1 105 10) = (6383461 : Int64) → (okl_X11_meant fu).2.1 sz T x1))))))))
set_option maxRecDepth 10000 in
theorem c_X11_meant {d L sz : Nat} {T : tT} (hsz : 161 ≤ sz) (x0 : Int32) (x1 : Int32) (ok : ok_X11_meant sz T x0 x1) : tvK (d + 1) mX11_meant [.ref 105, .int x0, .int x1] L sz T (fun T' => T' = F_X11_meant T x0 x1) := by
  refine k_X11_meant hsz  x0 x1 (fun X hX hR => ?_)
  unfold ok_X11_meant at ok
  refine ⟨fun kq0 => ?_, fun kq0 => ?_⟩
  · replace ok := ok.1 kq0
    refine ⟨fun kq1 => ?_, fun kq1 => ?_⟩
    · replace ok := ok.1 kq1
      refine ⟨_, c_X11_partOf hsz  x0 (T.2.1 105 10) ok.1, ?_⟩
      rintro _ _ ⟨rfl, rfl⟩
      replace ok := ok.2
      exact (lj_X11_meant hX hsz  hR _).1 _  x1 (v_X11_partOf T x0 (T.2.1 105 10)) ok (by unfold F_X11_meant; first | (rw [if_neg kq0, if_pos kq1]; done) | (rw [if_neg kq0, if_pos kq1]; rfl))
    · replace ok := ok.2 kq1
      refine ⟨_, c_X11_listOf hsz  x0 (T.2.1 105 10) ok.1, ?_⟩
      rintro _ _ ⟨rfl, rfl⟩
      replace ok := ok.2
      exact (lj_X11_meant hX hsz  hR _).1 _  x1 (v_X11_listOf T x0 (T.2.1 105 10)) ok (by unfold F_X11_meant; first | (rw [if_neg kq0, if_neg kq1]; done) | (rw [if_neg kq0, if_neg kq1]; rfl))
  · replace ok := ok.2 kq0
    refine ⟨fun kq1 => ?_, fun kq1 => ?_⟩
    · replace ok := ok.1 kq1
      exact (lj_X11_meant hX hsz  hR _).2.1 _  x1 ok (by unfold F_X11_meant; first | (rw [if_pos kq0, if_pos kq1]; done) | (rw [if_pos kq0, if_pos kq1]; rfl))
    · replace ok := ok.2 kq1
      refine ⟨fun kq2 => ?_, fun kq2 => ?_⟩
      · replace ok := ok.1 kq2
        exact (lj_X11_meant hX hsz  hR _).2.1 _  x1 ok (by unfold F_X11_meant; first | (rw [if_pos kq0, if_neg kq1, if_pos kq2]; done) | (rw [if_pos kq0, if_neg kq1, if_pos kq2]; rfl))
      · replace ok := ok.2 kq2
        refine ⟨fun kq3 => ?_, fun kq3 => ?_⟩
        · replace ok := ok.1 kq3
          exact (lj_X11_meant hX hsz  hR _).2.2.1 _  (0 : Int32) x1 ok (by unfold F_X11_meant; first | (rw [if_pos kq0, if_neg kq1, if_neg kq2, if_neg kq3]; done) | (rw [if_pos kq0, if_neg kq1, if_neg kq2, if_neg kq3]; rfl))
        · replace ok := ok.2 kq3
          exact (lj_X11_meant hX hsz  hR _).2.1 _  x1 ok (by unfold F_X11_meant; first | (rw [if_pos kq0, if_neg kq1, if_neg kq2, if_pos kq3]; done) | (rw [if_pos kq0, if_neg kq1, if_neg kq2, if_pos kq3]; rfl))
noncomputable def vl_X11_next : Nat → (tT → tT) × (tT → tT) × (tT → tT) × (tT → tT) × (tT → tT) × (tT → tT) × (tT → tT) × (tT → Int32 → tT) × (tT → tT)
  | 0 => ((fun (T : tT)   => T), (fun (T : tT)   => T), (fun (T : tT)   => T), (fun (T : tT)   => T), (fun (T : tT)   => T), (fun (T : tT)   => T), (fun (T : tT)   => T), (fun (T : tT)  (v2 : Int32) => T), (fun (T : tT)   => T))
  | n + 1 => ((fun (T : tT)   => (if (T.1 105 3) ≤ (T.1 105 6) then (vl_X11_next n).2.1 T else (if (v_X11_sign T (T.1 105 6)) = (32 : Int32) then (vl_X11_next n).2.2.1 T else (if (v_X11_sign T (T.1 105 6)) = (10 : Int32) then (vl_X11_next n).2.2.1 T else (vl_X11_next n).2.1 T)))), (fun (T : tT)   => (if (T.1 105 6) < (T.1 105 3) then (if (v_X11_isLetter (tI T 105 7 ((T.1 105 6) + (1 : Int32))) (v_X11_sign T (T.1 105 6))) = 0 then (if (v_X11_isDigit (tI T 105 7 ((T.1 105 6) + (1 : Int32))) (v_X11_sign T (T.1 105 6))) = 0 then (if (v_X11_sign T (T.1 105 6)) = (123 : Int32) then (tI (tI T 105 7 ((T.1 105 6) + (1 : Int32))) 105 8 (5 : Int32)) else (if (v_X11_sign T (T.1 105 6)) = (125 : Int32) then (tI (tI T 105 7 ((T.1 105 6) + (1 : Int32))) 105 8 (5 : Int32)) else (if (v_X11_sign T (T.1 105 6)) = (40 : Int32) then (tI (tI T 105 7 ((T.1 105 6) + (1 : Int32))) 105 8 (5 : Int32)) else (if (v_X11_sign T (T.1 105 6)) = (41 : Int32) then (tI (tI T 105 7 ((T.1 105 6) + (1 : Int32))) 105 8 (5 : Int32)) else (if (v_X11_sign T (T.1 105 6)) = (61 : Int32) then (tI (tI T 105 7 ((T.1 105 6) + (1 : Int32))) 105 8 (5 : Int32)) else (if (v_X11_sign T (T.1 105 6)) = (44 : Int32) then (tI (tI T 105 7 ((T.1 105 6) + (1 : Int32))) 105 8 (5 : Int32)) else (if (v_X11_sign T (T.1 105 6)) = (59 : Int32) then (tI (tI T 105 7 ((T.1 105 6) + (1 : Int32))) 105 8 (5 : Int32)) else (if (v_X11_sign T (T.1 105 6)) = (60 : Int32) then (tI (tI T 105 7 ((T.1 105 6) + (1 : Int32))) 105 8 (5 : Int32)) else (if (v_X11_sign T (T.1 105 6)) = (62 : Int32) then (tI (tI T 105 7 ((T.1 105 6) + (1 : Int32))) 105 8 (5 : Int32)) else (if (v_X11_sign T (T.1 105 6)) = (43 : Int32) then (tI (tI T 105 7 ((T.1 105 6) + (1 : Int32))) 105 8 (5 : Int32)) else (if (v_X11_sign T (T.1 105 6)) = (45 : Int32) then (tI (tI T 105 7 ((T.1 105 6) + (1 : Int32))) 105 8 (5 : Int32)) else (tI (tI T 105 7 ((T.1 105 6) + (1 : Int32))) 105 8 (1 : Int32))))))))))))) else (vl_X11_next n).2.2.2.1 (tI (tI (tI T 105 7 ((T.1 105 6) + (1 : Int32))) 105 9 (0 : Int32)) 105 7 ((tI T 105 7 ((T.1 105 6) + (1 : Int32))).1 105 6))) else (vl_X11_next n).2.2.2.2.1 (tI T 105 7 ((T.1 105 6) + (1 : Int32)))) else (tI (tI (tI (tI T 105 7 ((T.1 105 6) + (1 : Int32))) 105 8 (0 : Int32)) 105 6 (T.1 105 3)) 105 7 (T.1 105 3)))), (fun (T : tT)   => (vl_X11_next n).1 (tI T 105 6 ((T.1 105 6) + (1 : Int32)))), (fun (T : tT)   => (if (v_X11_isDigit T (v_X11_sign T (T.1 105 7))) = 0 then (if (6 : Int32) < ((T.1 105 7) - (T.1 105 6)) then (tI T 105 8 (1 : Int32)) else (if (v_X11_isLetter T (v_X11_sign T (T.1 105 7))) = 0 then (tI T 105 8 (4 : Int32)) else (tI T 105 8 (1 : Int32)))) else (if (6 : Int32) ≤ ((T.1 105 7) - (T.1 105 6)) then (vl_X11_next n).2.2.2.2.2.1 T else (vl_X11_next n).2.2.2.2.2.1 (tI T 105 9 ((((10 : Int32) * (T.1 105 9)) + (v_X11_sign T (T.1 105 7))) - (48 : Int32)))))), (fun (T : tT)   => (if (v_X11_isLetter T (v_X11_sign T (T.1 105 7))) = 0 then (if (v_X11_isDigit T (v_X11_sign T (T.1 105 7))) = 0 then (vl_X11_next n).2.2.2.2.2.2.2.1 (tJ T 105 10 (0 : Int64)) (T.1 105 6) else (vl_X11_next n).2.2.2.2.2.2.1 T) else (vl_X11_next n).2.2.2.2.2.2.1 T)), (fun (T : tT)   => (vl_X11_next n).2.2.2.1 (tI T 105 7 ((T.1 105 7) + (1 : Int32)))), (fun (T : tT)   => (vl_X11_next n).2.2.2.2.1 (tI T 105 7 ((T.1 105 7) + (1 : Int32)))), (fun (T : tT)  (v2 : Int32) => (if (T.1 105 7) ≤ v2 then (vl_X11_next n).2.2.2.2.2.2.2.2 T else (if ((T.1 105 6) + (8 : Int32)) ≤ v2 then (vl_X11_next n).2.2.2.2.2.2.2.2 T else (vl_X11_next n).2.2.2.2.2.2.2.1 (tJ T 105 10 (((T.2.1 105 10) <<< ((8 : Int32).toInt64 &&& 63)) ||| (v_X11_sign T v2).toInt64)) (v2 + (1 : Int32))))), (fun (T : tT)   => (if ((T.1 105 7) - (T.1 105 6)) ≤ (8 : Int32) then (if (v_X11_isKept T (T.2.1 105 10)) = 0 then (tI T 105 8 (2 : Int32)) else (tI T 105 8 (3 : Int32))) else (tI T 105 8 (1 : Int32)))))
noncomputable def okl_X11_next : Nat → (Nat → tT → Prop) × (Nat → tT → Prop) × (Nat → tT → Prop) × (Nat → tT → Prop) × (Nat → tT → Prop) × (Nat → tT → Prop) × (Nat → tT → Prop) × (Nat → tT → Int32 → Prop) × (Nat → tT → Prop)
  | 0 => ((fun (sz : Nat) (T : tT)   => False), (fun (sz : Nat) (T : tT)   => False), (fun (sz : Nat) (T : tT)   => False), (fun (sz : Nat) (T : tT)   => False), (fun (sz : Nat) (T : tT)   => False), (fun (sz : Nat) (T : tT)   => False), (fun (sz : Nat) (T : tT)   => False), (fun (sz : Nat) (T : tT)  (v2 : Int32) => False), (fun (sz : Nat) (T : tT)   => False))
  | n + 1 => ((fun (sz : Nat) (T : tT)   => (((T.1 105 3) ≤ (T.1 105 6) → (okl_X11_next n).2.1 sz T) ∧ (¬ (T.1 105 3) ≤ (T.1 105 6) → (ok_X11_sign sz T (T.1 105 6) ∧ (((v_X11_sign T (T.1 105 6)) = (32 : Int32) → (okl_X11_next n).2.2.1 sz T) ∧ (¬ (v_X11_sign T (T.1 105 6)) = (32 : Int32) → (ok_X11_sign sz T (T.1 105 6) ∧ ((¬ (v_X11_sign T (T.1 105 6)) = (10 : Int32) → (okl_X11_next n).2.1 sz T) ∧ ((v_X11_sign T (T.1 105 6)) = (10 : Int32) → (okl_X11_next n).2.2.1 sz T))))))))), (fun (sz : Nat) (T : tT)   => (ok_X11_sign sz T (T.1 105 6) ∧ (((T.1 105 6) < (T.1 105 3) → (((v_X11_isLetter (tI T 105 7 ((T.1 105 6) + (1 : Int32))) (v_X11_sign T (T.1 105 6))) = 0 → (((v_X11_isDigit (tI T 105 7 ((T.1 105 6) + (1 : Int32))) (v_X11_sign T (T.1 105 6))) = 0 → True) ∧ (¬ (v_X11_isDigit (tI T 105 7 ((T.1 105 6) + (1 : Int32))) (v_X11_sign T (T.1 105 6))) = 0 → (okl_X11_next n).2.2.2.1 sz (tI (tI (tI T 105 7 ((T.1 105 6) + (1 : Int32))) 105 9 (0 : Int32)) 105 7 ((tI T 105 7 ((T.1 105 6) + (1 : Int32))).1 105 6))))) ∧ (¬ (v_X11_isLetter (tI T 105 7 ((T.1 105 6) + (1 : Int32))) (v_X11_sign T (T.1 105 6))) = 0 → (okl_X11_next n).2.2.2.2.1 sz (tI T 105 7 ((T.1 105 6) + (1 : Int32)))))) ∧ (¬ (T.1 105 6) < (T.1 105 3) → True)))), (fun (sz : Nat) (T : tT)   => (okl_X11_next n).1 sz (tI T 105 6 ((T.1 105 6) + (1 : Int32)))), (fun (sz : Nat) (T : tT)   => (ok_X11_sign sz T (T.1 105 7) ∧ (((v_X11_isDigit T (v_X11_sign T (T.1 105 7))) = 0 → (((6 : Int32) < ((T.1 105 7) - (T.1 105 6)) → True) ∧ (¬ (6 : Int32) < ((T.1 105 7) - (T.1 105 6)) → (ok_X11_sign sz T (T.1 105 7) ∧ True)))) ∧ (¬ (v_X11_isDigit T (v_X11_sign T (T.1 105 7))) = 0 → (((6 : Int32) ≤ ((T.1 105 7) - (T.1 105 6)) → (okl_X11_next n).2.2.2.2.2.1 sz T) ∧ (¬ (6 : Int32) ≤ ((T.1 105 7) - (T.1 105 6)) → (ok_X11_sign sz T (T.1 105 7) ∧ (okl_X11_next n).2.2.2.2.2.1 sz (tI T 105 9 ((((10 : Int32) * (T.1 105 9)) + (v_X11_sign T (T.1 105 7))) - (48 : Int32)))))))))), (fun (sz : Nat) (T : tT)   => (ok_X11_sign sz T (T.1 105 7) ∧ ((¬ (v_X11_isLetter T (v_X11_sign T (T.1 105 7))) = 0 → (okl_X11_next n).2.2.2.2.2.2.1 sz T) ∧ ((v_X11_isLetter T (v_X11_sign T (T.1 105 7))) = 0 → (ok_X11_sign sz T (T.1 105 7) ∧ (((v_X11_isDigit T (v_X11_sign T (T.1 105 7))) = 0 → (okl_X11_next n).2.2.2.2.2.2.2.1 sz (tJ T 105 10 (0 : Int64)) (T.1 105 6)) ∧ (¬ (v_X11_isDigit T (v_X11_sign T (T.1 105 7))) = 0 → (okl_X11_next n).2.2.2.2.2.2.1 sz T))))))), (fun (sz : Nat) (T : tT)   => (okl_X11_next n).2.2.2.1 sz (tI T 105 7 ((T.1 105 7) + (1 : Int32)))), (fun (sz : Nat) (T : tT)   => (okl_X11_next n).2.2.2.2.1 sz (tI T 105 7 ((T.1 105 7) + (1 : Int32)))), (fun (sz : Nat) (T : tT)  (v2 : Int32) => (((T.1 105 7) ≤ v2 → (okl_X11_next n).2.2.2.2.2.2.2.2 sz T) ∧ (¬ (T.1 105 7) ≤ v2 → ((((T.1 105 6) + (8 : Int32)) ≤ v2 → (okl_X11_next n).2.2.2.2.2.2.2.2 sz T) ∧ (¬ ((T.1 105 6) + (8 : Int32)) ≤ v2 → (ok_X11_sign sz T v2 ∧ (okl_X11_next n).2.2.2.2.2.2.2.1 sz (tJ T 105 10 (((T.2.1 105 10) <<< ((8 : Int32).toInt64 &&& 63)) ||| (v_X11_sign T v2).toInt64)) (v2 + (1 : Int32)))))))), (fun (sz : Nat) (T : tT)   => True))
theorem vl_X11_next_s0 (n : Nat) (T : tT)   : (vl_X11_next (n + 1)).1 T = (if (T.1 105 3) ≤ (T.1 105 6) then (vl_X11_next n).2.1 T else (if (v_X11_sign T (T.1 105 6)) = (32 : Int32) then (vl_X11_next n).2.2.1 T else (if (v_X11_sign T (T.1 105 6)) = (10 : Int32) then (vl_X11_next n).2.2.1 T else (vl_X11_next n).2.1 T))) := rfl
theorem okl_X11_next_s0 (n sz : Nat) (T : tT)   : (okl_X11_next (n + 1)).1 sz T = (((T.1 105 3) ≤ (T.1 105 6) → (okl_X11_next n).2.1 sz T) ∧ (¬ (T.1 105 3) ≤ (T.1 105 6) → (ok_X11_sign sz T (T.1 105 6) ∧ (((v_X11_sign T (T.1 105 6)) = (32 : Int32) → (okl_X11_next n).2.2.1 sz T) ∧ (¬ (v_X11_sign T (T.1 105 6)) = (32 : Int32) → (ok_X11_sign sz T (T.1 105 6) ∧ ((¬ (v_X11_sign T (T.1 105 6)) = (10 : Int32) → (okl_X11_next n).2.1 sz T) ∧ ((v_X11_sign T (T.1 105 6)) = (10 : Int32) → (okl_X11_next n).2.2.1 sz T)))))))) := rfl
theorem vl_X11_next_s1 (n : Nat) (T : tT)   : (vl_X11_next (n + 1)).2.1 T = (if (T.1 105 6) < (T.1 105 3) then (if (v_X11_isLetter (tI T 105 7 ((T.1 105 6) + (1 : Int32))) (v_X11_sign T (T.1 105 6))) = 0 then (if (v_X11_isDigit (tI T 105 7 ((T.1 105 6) + (1 : Int32))) (v_X11_sign T (T.1 105 6))) = 0 then (if (v_X11_sign T (T.1 105 6)) = (123 : Int32) then (tI (tI T 105 7 ((T.1 105 6) + (1 : Int32))) 105 8 (5 : Int32)) else (if (v_X11_sign T (T.1 105 6)) = (125 : Int32) then (tI (tI T 105 7 ((T.1 105 6) + (1 : Int32))) 105 8 (5 : Int32)) else (if (v_X11_sign T (T.1 105 6)) = (40 : Int32) then (tI (tI T 105 7 ((T.1 105 6) + (1 : Int32))) 105 8 (5 : Int32)) else (if (v_X11_sign T (T.1 105 6)) = (41 : Int32) then (tI (tI T 105 7 ((T.1 105 6) + (1 : Int32))) 105 8 (5 : Int32)) else (if (v_X11_sign T (T.1 105 6)) = (61 : Int32) then (tI (tI T 105 7 ((T.1 105 6) + (1 : Int32))) 105 8 (5 : Int32)) else (if (v_X11_sign T (T.1 105 6)) = (44 : Int32) then (tI (tI T 105 7 ((T.1 105 6) + (1 : Int32))) 105 8 (5 : Int32)) else (if (v_X11_sign T (T.1 105 6)) = (59 : Int32) then (tI (tI T 105 7 ((T.1 105 6) + (1 : Int32))) 105 8 (5 : Int32)) else (if (v_X11_sign T (T.1 105 6)) = (60 : Int32) then (tI (tI T 105 7 ((T.1 105 6) + (1 : Int32))) 105 8 (5 : Int32)) else (if (v_X11_sign T (T.1 105 6)) = (62 : Int32) then (tI (tI T 105 7 ((T.1 105 6) + (1 : Int32))) 105 8 (5 : Int32)) else (if (v_X11_sign T (T.1 105 6)) = (43 : Int32) then (tI (tI T 105 7 ((T.1 105 6) + (1 : Int32))) 105 8 (5 : Int32)) else (if (v_X11_sign T (T.1 105 6)) = (45 : Int32) then (tI (tI T 105 7 ((T.1 105 6) + (1 : Int32))) 105 8 (5 : Int32)) else (tI (tI T 105 7 ((T.1 105 6) + (1 : Int32))) 105 8 (1 : Int32))))))))))))) else (vl_X11_next n).2.2.2.1 (tI (tI (tI T 105 7 ((T.1 105 6) + (1 : Int32))) 105 9 (0 : Int32)) 105 7 ((tI T 105 7 ((T.1 105 6) + (1 : Int32))).1 105 6))) else (vl_X11_next n).2.2.2.2.1 (tI T 105 7 ((T.1 105 6) + (1 : Int32)))) else (tI (tI (tI (tI T 105 7 ((T.1 105 6) + (1 : Int32))) 105 8 (0 : Int32)) 105 6 (T.1 105 3)) 105 7 (T.1 105 3))) := rfl
theorem okl_X11_next_s1 (n sz : Nat) (T : tT)   : (okl_X11_next (n + 1)).2.1 sz T = (ok_X11_sign sz T (T.1 105 6) ∧ (((T.1 105 6) < (T.1 105 3) → (((v_X11_isLetter (tI T 105 7 ((T.1 105 6) + (1 : Int32))) (v_X11_sign T (T.1 105 6))) = 0 → (((v_X11_isDigit (tI T 105 7 ((T.1 105 6) + (1 : Int32))) (v_X11_sign T (T.1 105 6))) = 0 → True) ∧ (¬ (v_X11_isDigit (tI T 105 7 ((T.1 105 6) + (1 : Int32))) (v_X11_sign T (T.1 105 6))) = 0 → (okl_X11_next n).2.2.2.1 sz (tI (tI (tI T 105 7 ((T.1 105 6) + (1 : Int32))) 105 9 (0 : Int32)) 105 7 ((tI T 105 7 ((T.1 105 6) + (1 : Int32))).1 105 6))))) ∧ (¬ (v_X11_isLetter (tI T 105 7 ((T.1 105 6) + (1 : Int32))) (v_X11_sign T (T.1 105 6))) = 0 → (okl_X11_next n).2.2.2.2.1 sz (tI T 105 7 ((T.1 105 6) + (1 : Int32)))))) ∧ (¬ (T.1 105 6) < (T.1 105 3) → True))) := rfl
theorem vl_X11_next_s2 (n : Nat) (T : tT)   : (vl_X11_next (n + 1)).2.2.1 T = (vl_X11_next n).1 (tI T 105 6 ((T.1 105 6) + (1 : Int32))) := rfl
theorem okl_X11_next_s2 (n sz : Nat) (T : tT)   : (okl_X11_next (n + 1)).2.2.1 sz T = (okl_X11_next n).1 sz (tI T 105 6 ((T.1 105 6) + (1 : Int32))) := rfl
theorem vl_X11_next_s3 (n : Nat) (T : tT)   : (vl_X11_next (n + 1)).2.2.2.1 T = (if (v_X11_isDigit T (v_X11_sign T (T.1 105 7))) = 0 then (if (6 : Int32) < ((T.1 105 7) - (T.1 105 6)) then (tI T 105 8 (1 : Int32)) else (if (v_X11_isLetter T (v_X11_sign T (T.1 105 7))) = 0 then (tI T 105 8 (4 : Int32)) else (tI T 105 8 (1 : Int32)))) else (if (6 : Int32) ≤ ((T.1 105 7) - (T.1 105 6)) then (vl_X11_next n).2.2.2.2.2.1 T else (vl_X11_next n).2.2.2.2.2.1 (tI T 105 9 ((((10 : Int32) * (T.1 105 9)) + (v_X11_sign T (T.1 105 7))) - (48 : Int32))))) := rfl
theorem okl_X11_next_s3 (n sz : Nat) (T : tT)   : (okl_X11_next (n + 1)).2.2.2.1 sz T = (ok_X11_sign sz T (T.1 105 7) ∧ (((v_X11_isDigit T (v_X11_sign T (T.1 105 7))) = 0 → (((6 : Int32) < ((T.1 105 7) - (T.1 105 6)) → True) ∧ (¬ (6 : Int32) < ((T.1 105 7) - (T.1 105 6)) → (ok_X11_sign sz T (T.1 105 7) ∧ True)))) ∧ (¬ (v_X11_isDigit T (v_X11_sign T (T.1 105 7))) = 0 → (((6 : Int32) ≤ ((T.1 105 7) - (T.1 105 6)) → (okl_X11_next n).2.2.2.2.2.1 sz T) ∧ (¬ (6 : Int32) ≤ ((T.1 105 7) - (T.1 105 6)) → (ok_X11_sign sz T (T.1 105 7) ∧ (okl_X11_next n).2.2.2.2.2.1 sz (tI T 105 9 ((((10 : Int32) * (T.1 105 9)) + (v_X11_sign T (T.1 105 7))) - (48 : Int32))))))))) := rfl
theorem vl_X11_next_s4 (n : Nat) (T : tT)   : (vl_X11_next (n + 1)).2.2.2.2.1 T = (if (v_X11_isLetter T (v_X11_sign T (T.1 105 7))) = 0 then (if (v_X11_isDigit T (v_X11_sign T (T.1 105 7))) = 0 then (vl_X11_next n).2.2.2.2.2.2.2.1 (tJ T 105 10 (0 : Int64)) (T.1 105 6) else (vl_X11_next n).2.2.2.2.2.2.1 T) else (vl_X11_next n).2.2.2.2.2.2.1 T) := rfl
theorem okl_X11_next_s4 (n sz : Nat) (T : tT)   : (okl_X11_next (n + 1)).2.2.2.2.1 sz T = (ok_X11_sign sz T (T.1 105 7) ∧ ((¬ (v_X11_isLetter T (v_X11_sign T (T.1 105 7))) = 0 → (okl_X11_next n).2.2.2.2.2.2.1 sz T) ∧ ((v_X11_isLetter T (v_X11_sign T (T.1 105 7))) = 0 → (ok_X11_sign sz T (T.1 105 7) ∧ (((v_X11_isDigit T (v_X11_sign T (T.1 105 7))) = 0 → (okl_X11_next n).2.2.2.2.2.2.2.1 sz (tJ T 105 10 (0 : Int64)) (T.1 105 6)) ∧ (¬ (v_X11_isDigit T (v_X11_sign T (T.1 105 7))) = 0 → (okl_X11_next n).2.2.2.2.2.2.1 sz T)))))) := rfl
theorem vl_X11_next_s5 (n : Nat) (T : tT)   : (vl_X11_next (n + 1)).2.2.2.2.2.1 T = (vl_X11_next n).2.2.2.1 (tI T 105 7 ((T.1 105 7) + (1 : Int32))) := rfl
theorem okl_X11_next_s5 (n sz : Nat) (T : tT)   : (okl_X11_next (n + 1)).2.2.2.2.2.1 sz T = (okl_X11_next n).2.2.2.1 sz (tI T 105 7 ((T.1 105 7) + (1 : Int32))) := rfl
theorem vl_X11_next_s6 (n : Nat) (T : tT)   : (vl_X11_next (n + 1)).2.2.2.2.2.2.1 T = (vl_X11_next n).2.2.2.2.1 (tI T 105 7 ((T.1 105 7) + (1 : Int32))) := rfl
theorem okl_X11_next_s6 (n sz : Nat) (T : tT)   : (okl_X11_next (n + 1)).2.2.2.2.2.2.1 sz T = (okl_X11_next n).2.2.2.2.1 sz (tI T 105 7 ((T.1 105 7) + (1 : Int32))) := rfl
theorem vl_X11_next_s7 (n : Nat) (T : tT)  (v2 : Int32) : (vl_X11_next (n + 1)).2.2.2.2.2.2.2.1 T v2 = (if (T.1 105 7) ≤ v2 then (vl_X11_next n).2.2.2.2.2.2.2.2 T else (if ((T.1 105 6) + (8 : Int32)) ≤ v2 then (vl_X11_next n).2.2.2.2.2.2.2.2 T else (vl_X11_next n).2.2.2.2.2.2.2.1 (tJ T 105 10 (((T.2.1 105 10) <<< ((8 : Int32).toInt64 &&& 63)) ||| (v_X11_sign T v2).toInt64)) (v2 + (1 : Int32)))) := rfl
theorem okl_X11_next_s7 (n sz : Nat) (T : tT)  (v2 : Int32) : (okl_X11_next (n + 1)).2.2.2.2.2.2.2.1 sz T v2 = (((T.1 105 7) ≤ v2 → (okl_X11_next n).2.2.2.2.2.2.2.2 sz T) ∧ (¬ (T.1 105 7) ≤ v2 → ((((T.1 105 6) + (8 : Int32)) ≤ v2 → (okl_X11_next n).2.2.2.2.2.2.2.2 sz T) ∧ (¬ ((T.1 105 6) + (8 : Int32)) ≤ v2 → (ok_X11_sign sz T v2 ∧ (okl_X11_next n).2.2.2.2.2.2.2.1 sz (tJ T 105 10 (((T.2.1 105 10) <<< ((8 : Int32).toInt64 &&& 63)) ||| (v_X11_sign T v2).toInt64)) (v2 + (1 : Int32))))))) := rfl
theorem vl_X11_next_s8 (n : Nat) (T : tT)   : (vl_X11_next (n + 1)).2.2.2.2.2.2.2.2 T = (if ((T.1 105 7) - (T.1 105 6)) ≤ (8 : Int32) then (if (v_X11_isKept T (T.2.1 105 10)) = 0 then (tI T 105 8 (2 : Int32)) else (tI T 105 8 (3 : Int32))) else (tI T 105 8 (1 : Int32))) := rfl
theorem okl_X11_next_s8 (n sz : Nat) (T : tT)   : (okl_X11_next (n + 1)).2.2.2.2.2.2.2.2 sz T = True := rfl
set_option maxRecDepth 10000 in
set_option maxHeartbeats 1000000 in
theorem lj_X11_next {X : ax_X} {d L sz : Nat} {Q : tT → Prop} (hX : ax_ok X mX11_next (d + 2)) (hsz : 161 ≤ sz) (hR : ax_Ret X mX11_next (tv L sz Q)) : ∀ n : Nat, (∀ (T : tT)  , (okl_X11_next n).1 sz T → Q ((vl_X11_next n).1 T) → ax_j X 8 [some (.ref 105), none, none] [] (th L sz T) 0 0) ∧ (∀ (T : tT)  , (okl_X11_next n).2.1 sz T → Q ((vl_X11_next n).2.1 T) → ax_j X 58 [some (.ref 105), none, none] [] (th L sz T) 0 0) ∧ (∀ (T : tT)  , (okl_X11_next n).2.2.1 sz T → Q ((vl_X11_next n).2.2.1 T) → ax_j X 45 [some (.ref 105), none, none] [] (th L sz T) 0 0) ∧ (∀ (T : tT)  , (okl_X11_next n).2.2.2.1 sz T → Q ((vl_X11_next n).2.2.2.1 T) → ax_j X 273 [some (.ref 105), none, none] [] (th L sz T) 0 0) ∧ (∀ (T : tT)  , (okl_X11_next n).2.2.2.2.1 sz T → Q ((vl_X11_next n).2.2.2.2.1 T) → ax_j X 119 [some (.ref 105), none, none] [] (th L sz T) 0 0) ∧ (∀ (T : tT)  , (okl_X11_next n).2.2.2.2.2.1 sz T → Q ((vl_X11_next n).2.2.2.2.2.1 T) → ax_j X 324 [some (.ref 105), none, none] [] (th L sz T) 0 0) ∧ (∀ (T : tT)  , (okl_X11_next n).2.2.2.2.2.2.1 sz T → Q ((vl_X11_next n).2.2.2.2.2.2.1 T) → ax_j X 147 [some (.ref 105), none, none] [] (th L sz T) 0 0) ∧ (∀ (T : tT)  (v2 : Int32), (okl_X11_next n).2.2.2.2.2.2.2.1 sz T v2 → Q ((vl_X11_next n).2.2.2.2.2.2.2.1 T v2) → ax_j X 170 [some (.ref 105), none, some (.int v2)] [] (th L sz T) 0 0) ∧ (∀ (T : tT)  , (okl_X11_next n).2.2.2.2.2.2.2.2 sz T → Q ((vl_X11_next n).2.2.2.2.2.2.2.2 T) → ax_j X 213 [some (.ref 105), none, none] [] (th L sz T) 0 0) := by
  intro n
  induction n with
  | zero => exact ⟨(by intros; rename_i ok _; exact False.elim ok), (by intros; rename_i ok _; exact False.elim ok), (by intros; rename_i ok _; exact False.elim ok), (by intros; rename_i ok _; exact False.elim ok), (by intros; rename_i ok _; exact False.elim ok), (by intros; rename_i ok _; exact False.elim ok), (by intros; rename_i ok _; exact False.elim ok), (by intros; rename_i ok _; exact False.elim ok), (by intros; rename_i ok _; exact False.elim ok)⟩
  | succ n ih =>
    refine ⟨?_, ?_, ?_, ?_, ?_, ?_, ?_, ?_, ?_⟩
    · intro T   ok hq
      refine s_X11_next_8 hX hR hsz    ?_
      rw [okl_X11_next_s0] at ok
      refine ⟨fun kq0 => ?_, fun kq0 => ?_⟩
      · replace ok := ok.1 kq0
        have z := hq; rw [vl_X11_next_s0, if_pos kq0] at z; exact ih.2.1 _   ok z
      · replace ok := ok.2 kq0
        refine ⟨_, c_X11_sign hsz  (T.1 105 6) ok.1, ?_⟩
        rintro _ _ ⟨rfl, rfl⟩
        replace ok := ok.2
        refine ⟨fun kq1 => ?_, fun kq1 => ?_⟩
        · replace ok := ok.1 kq1
          have z := hq; rw [vl_X11_next_s0, if_neg kq0, if_pos kq1] at z; exact ih.2.2.1 _   ok z
        · replace ok := ok.2 kq1
          refine ⟨_, c_X11_sign hsz  (T.1 105 6) ok.1, ?_⟩
          rintro _ _ ⟨rfl, rfl⟩
          replace ok := ok.2
          refine ⟨fun kq2 => ?_, fun kq2 => ?_⟩
          · replace ok := ok.1 kq2
            have z := hq; rw [vl_X11_next_s0, if_neg kq0, if_neg kq1, if_neg kq2] at z; exact ih.2.1 _   ok z
          · replace ok := ok.2 kq2
            have z := hq; rw [vl_X11_next_s0, if_neg kq0, if_neg kq1, if_pos kq2] at z; exact ih.2.2.1 _   ok z
    · intro T   ok hq
      refine s_X11_next_58 hX hR hsz    ?_
      rw [okl_X11_next_s1] at ok
      refine ⟨_, c_X11_sign hsz  (T.1 105 6) ok.1, ?_⟩
      rintro _ _ ⟨rfl, rfl⟩
      replace ok := ok.2
      refine ⟨fun kq0 => ?_, fun kq0 => ?_⟩
      · replace ok := ok.1 kq0
        refine ⟨_, c_X11_isLetter hsz  (v_X11_sign T (T.1 105 6)) , ?_⟩
        rintro _ _ ⟨rfl, rfl⟩
        refine ⟨fun kq1 => ?_, fun kq1 => ?_⟩
        · replace ok := ok.1 kq1
          refine ⟨_, c_X11_isDigit hsz  (v_X11_sign T (T.1 105 6)) , ?_⟩
          rintro _ _ ⟨rfl, rfl⟩
          refine ⟨fun kq2 => ?_, fun kq2 => ?_⟩
          · replace ok := ok.1 kq2
            refine ⟨fun kq3 => ?_, fun kq3 => ?_⟩
            · have z := hq; rw [vl_X11_next_s1, if_pos kq0, if_pos kq1, if_pos kq2, if_pos kq3] at z; exact z
            · refine ⟨fun kq4 => ?_, fun kq4 => ?_⟩
              · have z := hq; rw [vl_X11_next_s1, if_pos kq0, if_pos kq1, if_pos kq2, if_neg kq3, if_pos kq4] at z; exact z
              · refine ⟨fun kq5 => ?_, fun kq5 => ?_⟩
                · have z := hq; rw [vl_X11_next_s1, if_pos kq0, if_pos kq1, if_pos kq2, if_neg kq3, if_neg kq4, if_pos kq5] at z; exact z
                · refine ⟨fun kq6 => ?_, fun kq6 => ?_⟩
                  · have z := hq; rw [vl_X11_next_s1, if_pos kq0, if_pos kq1, if_pos kq2, if_neg kq3, if_neg kq4, if_neg kq5, if_pos kq6] at z; exact z
                  · refine ⟨fun kq7 => ?_, fun kq7 => ?_⟩
                    · have z := hq; rw [vl_X11_next_s1, if_pos kq0, if_pos kq1, if_pos kq2, if_neg kq3, if_neg kq4, if_neg kq5, if_neg kq6, if_pos kq7] at z; exact z
                    · refine ⟨fun kq8 => ?_, fun kq8 => ?_⟩
                      · have z := hq; rw [vl_X11_next_s1, if_pos kq0, if_pos kq1, if_pos kq2, if_neg kq3, if_neg kq4, if_neg kq5, if_neg kq6, if_neg kq7, if_pos kq8] at z; exact z
                      · refine ⟨fun kq9 => ?_, fun kq9 => ?_⟩
                        · have z := hq; rw [vl_X11_next_s1, if_pos kq0, if_pos kq1, if_pos kq2, if_neg kq3, if_neg kq4, if_neg kq5, if_neg kq6, if_neg kq7, if_neg kq8, if_pos kq9] at z; exact z
                        · refine ⟨fun kq10 => ?_, fun kq10 => ?_⟩
                          · have z := hq; rw [vl_X11_next_s1, if_pos kq0, if_pos kq1, if_pos kq2, if_neg kq3, if_neg kq4, if_neg kq5, if_neg kq6, if_neg kq7, if_neg kq8, if_neg kq9, if_pos kq10] at z; exact z
                          · refine ⟨fun kq11 => ?_, fun kq11 => ?_⟩
                            · have z := hq; rw [vl_X11_next_s1, if_pos kq0, if_pos kq1, if_pos kq2, if_neg kq3, if_neg kq4, if_neg kq5, if_neg kq6, if_neg kq7, if_neg kq8, if_neg kq9, if_neg kq10, if_pos kq11] at z; exact z
                            · refine ⟨fun kq12 => ?_, fun kq12 => ?_⟩
                              · have z := hq; rw [vl_X11_next_s1, if_pos kq0, if_pos kq1, if_pos kq2, if_neg kq3, if_neg kq4, if_neg kq5, if_neg kq6, if_neg kq7, if_neg kq8, if_neg kq9, if_neg kq10, if_neg kq11, if_pos kq12] at z; exact z
                              · refine ⟨fun kq13 => ?_, fun kq13 => ?_⟩
                                · have z := hq; rw [vl_X11_next_s1, if_pos kq0, if_pos kq1, if_pos kq2, if_neg kq3, if_neg kq4, if_neg kq5, if_neg kq6, if_neg kq7, if_neg kq8, if_neg kq9, if_neg kq10, if_neg kq11, if_neg kq12, if_neg kq13] at z; exact z
                                · have z := hq; rw [vl_X11_next_s1, if_pos kq0, if_pos kq1, if_pos kq2, if_neg kq3, if_neg kq4, if_neg kq5, if_neg kq6, if_neg kq7, if_neg kq8, if_neg kq9, if_neg kq10, if_neg kq11, if_neg kq12, if_pos kq13] at z; exact z
          · replace ok := ok.2 kq2
            have z := hq; rw [vl_X11_next_s1, if_pos kq0, if_pos kq1, if_neg kq2] at z; exact ih.2.2.2.1 _   ok z
        · replace ok := ok.2 kq1
          have z := hq; rw [vl_X11_next_s1, if_pos kq0, if_neg kq1] at z; exact ih.2.2.2.2.1 _   ok z
      · replace ok := ok.2 kq0
        have z := hq; rw [vl_X11_next_s1, if_neg kq0] at z; exact z
    · intro T   ok hq
      refine s_X11_next_45 hX hR hsz    ?_
      rw [okl_X11_next_s2] at ok
      have z := hq; rw [vl_X11_next_s2] at z; exact ih.1 _   ok z
    · intro T   ok hq
      refine s_X11_next_273 hX hR hsz    ?_
      rw [okl_X11_next_s3] at ok
      refine ⟨_, c_X11_sign hsz  (T.1 105 7) ok.1, ?_⟩
      rintro _ _ ⟨rfl, rfl⟩
      replace ok := ok.2
      refine ⟨_, c_X11_isDigit hsz  (v_X11_sign T (T.1 105 7)) , ?_⟩
      rintro _ _ ⟨rfl, rfl⟩
      refine ⟨fun kq0 => ?_, fun kq0 => ?_⟩
      · replace ok := ok.1 kq0
        refine ⟨fun kq1 => ?_, fun kq1 => ?_⟩
        · replace ok := ok.1 kq1
          have z := hq; rw [vl_X11_next_s3, if_pos kq0, if_pos kq1] at z; exact z
        · replace ok := ok.2 kq1
          refine ⟨_, c_X11_sign hsz  (T.1 105 7) ok.1, ?_⟩
          rintro _ _ ⟨rfl, rfl⟩
          replace ok := ok.2
          refine ⟨_, c_X11_isLetter hsz  (v_X11_sign T (T.1 105 7)) , ?_⟩
          rintro _ _ ⟨rfl, rfl⟩
          refine ⟨fun kq2 => ?_, fun kq2 => ?_⟩
          · have z := hq; rw [vl_X11_next_s3, if_pos kq0, if_neg kq1, if_pos kq2] at z; exact z
          · have z := hq; rw [vl_X11_next_s3, if_pos kq0, if_neg kq1, if_neg kq2] at z; exact z
      · replace ok := ok.2 kq0
        refine ⟨fun kq1 => ?_, fun kq1 => ?_⟩
        · replace ok := ok.1 kq1
          have z := hq; rw [vl_X11_next_s3, if_neg kq0, if_pos kq1] at z; exact ih.2.2.2.2.2.1 _   ok z
        · replace ok := ok.2 kq1
          refine ⟨_, c_X11_sign hsz  (T.1 105 7) ok.1, ?_⟩
          rintro _ _ ⟨rfl, rfl⟩
          replace ok := ok.2
          have z := hq; rw [vl_X11_next_s3, if_neg kq0, if_neg kq1] at z; exact ih.2.2.2.2.2.1 _   ok z
    · intro T   ok hq
      refine s_X11_next_119 hX hR hsz    ?_
      rw [okl_X11_next_s4] at ok
      refine ⟨_, c_X11_sign hsz  (T.1 105 7) ok.1, ?_⟩
      rintro _ _ ⟨rfl, rfl⟩
      replace ok := ok.2
      refine ⟨_, c_X11_isLetter hsz  (v_X11_sign T (T.1 105 7)) , ?_⟩
      rintro _ _ ⟨rfl, rfl⟩
      refine ⟨fun kq0 => ?_, fun kq0 => ?_⟩
      · replace ok := ok.1 kq0
        have z := hq; rw [vl_X11_next_s4, if_neg kq0] at z; exact ih.2.2.2.2.2.2.1 _   ok z
      · replace ok := ok.2 kq0
        refine ⟨_, c_X11_sign hsz  (T.1 105 7) ok.1, ?_⟩
        rintro _ _ ⟨rfl, rfl⟩
        replace ok := ok.2
        refine ⟨_, c_X11_isDigit hsz  (v_X11_sign T (T.1 105 7)) , ?_⟩
        rintro _ _ ⟨rfl, rfl⟩
        refine ⟨fun kq1 => ?_, fun kq1 => ?_⟩
        · replace ok := ok.1 kq1
          have z := hq; rw [vl_X11_next_s4, if_pos kq0, if_pos kq1] at z; exact ih.2.2.2.2.2.2.2.1 _  (T.1 105 6) ok z
        · replace ok := ok.2 kq1
          have z := hq; rw [vl_X11_next_s4, if_pos kq0, if_neg kq1] at z; exact ih.2.2.2.2.2.2.1 _   ok z
    · intro T   ok hq
      refine s_X11_next_324 hX hR hsz    ?_
      rw [okl_X11_next_s5] at ok
      have z := hq; rw [vl_X11_next_s5] at z; exact ih.2.2.2.1 _   ok z
    · intro T   ok hq
      refine s_X11_next_147 hX hR hsz    ?_
      rw [okl_X11_next_s6] at ok
      have z := hq; rw [vl_X11_next_s6] at z; exact ih.2.2.2.2.1 _   ok z
    · intro T  v2 ok hq
      refine s_X11_next_170 hX hR hsz   v2 ?_
      rw [okl_X11_next_s7] at ok
      refine ⟨fun kq0 => ?_, fun kq0 => ?_⟩
      · replace ok := ok.1 kq0
        have z := hq; rw [vl_X11_next_s7, if_pos kq0] at z; exact ih.2.2.2.2.2.2.2.2 _   ok z
      · replace ok := ok.2 kq0
        refine ⟨fun kq1 => ?_, fun kq1 => ?_⟩
        · replace ok := ok.1 kq1
          have z := hq; rw [vl_X11_next_s7, if_neg kq0, if_pos kq1] at z; exact ih.2.2.2.2.2.2.2.2 _   ok z
        · replace ok := ok.2 kq1
          refine ⟨_, c_X11_sign hsz  v2 ok.1, ?_⟩
          rintro _ _ ⟨rfl, rfl⟩
          replace ok := ok.2
          have z := hq; rw [vl_X11_next_s7, if_neg kq0, if_neg kq1] at z; exact ih.2.2.2.2.2.2.2.1 _  (v2 + (1 : Int32)) ok z
    · intro T   ok hq
      refine s_X11_next_213 hX hR hsz    ?_
      rw [okl_X11_next_s8] at ok
      refine ⟨fun kq0 => ?_, fun kq0 => ?_⟩
      · refine ⟨_, c_X11_isKept hsz  (T.2.1 105 10) , ?_⟩
        rintro _ _ ⟨rfl, rfl⟩
        refine ⟨fun kq1 => ?_, fun kq1 => ?_⟩
        · have z := hq; rw [vl_X11_next_s8, if_pos kq0, if_pos kq1] at z; exact z
        · have z := hq; rw [vl_X11_next_s8, if_pos kq0, if_neg kq1] at z; exact z
      · have z := hq; rw [vl_X11_next_s8, if_neg kq0] at z; exact z
noncomputable def F_X11_next (T : tT)   : tT := (vl_X11_next fu).1 (tI T 105 6 (T.1 105 7))
noncomputable def ok_X11_next (sz : Nat) (T : tT)   : Prop := (okl_X11_next fu).1 sz (tI T 105 6 (T.1 105 7))
set_option maxRecDepth 10000 in
theorem c_X11_next {d L sz : Nat} {T : tT} (hsz : 161 ≤ sz)  (ok : ok_X11_next sz T) : tvK (d + 2) mX11_next [.ref 105] L sz T (fun T' => T' = F_X11_next T) := by
  refine k_X11_next hsz   (fun X hX hR => ?_)
  unfold ok_X11_next at ok
  exact (lj_X11_next hX hsz  hR _).1 _   ok (by unfold F_X11_next; rfl)
noncomputable def F_X11_must (T : tT)  (x0 : Int32) : tT := (if (v_X11_is T x0) = 0 then (F_X11_wrong T) else (F_X11_next T))
noncomputable def ok_X11_must (sz : Nat) (T : tT)  (x0 : Int32) : Prop := (ok_X11_is sz T x0 ∧ (((v_X11_is T x0) = 0 → True) ∧ (¬ (v_X11_is T x0) = 0 → (ok_X11_next sz T ∧ True))))
set_option maxRecDepth 10000 in
theorem c_X11_must {d L sz : Nat} {T : tT} (hsz : 161 ≤ sz) (x0 : Int32) (ok : ok_X11_must sz T x0) : tvK (d + 3) mX11_must [.ref 105, .int x0] L sz T (fun T' => T' = F_X11_must T x0) := by
  refine k_X11_must hsz  x0 ?_
  unfold ok_X11_must at ok
  refine ⟨_, c_X11_is hsz  x0 ok.1, ?_⟩
  rintro _ _ ⟨rfl, rfl⟩
  replace ok := ok.2
  refine ⟨fun kq0 => ?_, fun kq0 => ?_⟩
  · replace ok := ok.1 kq0
    refine ⟨_, c_X11_wrong hsz   , ?_⟩
    rintro _ rfl
    exact (by unfold F_X11_must; first | (rw [if_pos kq0]; done) | (rw [if_pos kq0]; rfl))
  · replace ok := ok.2 kq0
    refine ⟨_, c_X11_next hsz   ok.1, ?_⟩
    rintro _ rfl
    replace ok := ok.2
    exact (by unfold F_X11_must; first | (rw [if_neg kq0]; done) | (rw [if_neg kq0]; rfl))
noncomputable def vl_X11_behind : Nat → (tT → Int32 → (Int32 × tT)) × (tT → Int32 → (Int32 × tT)) × (tT → Int32 → Int32 → (Int32 × tT)) × (tT → Int32 → Int32 → Int32 → (Int32 × tT)) × (tT → Int32 → (Int32 × tT))
  | 0 => ((fun (T : tT)  (v1 : Int32) => (0, T)), (fun (T : tT)  (v1 : Int32) => (0, T)), (fun (T : tT)  (v1 : Int32) (v2 : Int32) => (0, T)), (fun (T : tT)  (v1 : Int32) (w0 : Int32) (w1 : Int32) => (0, T)), (fun (T : tT)  (v1 : Int32) => (0, T)))
  | n + 1 => ((fun (T : tT)  (v1 : Int32) => (if (5 : Int32) < (T.1 129 ((T.1 105 37) - (1 : Int32)).toNatClampNeg) then (vl_X11_behind n).2.1 T v1 else (if (T.1 129 ((T.1 105 37) - (1 : Int32)).toNatClampNeg) < v1 then (vl_X11_behind n).2.1 T v1 else (if v1 = (4 : Int32) then (if (T.1 129 ((T.1 105 37) - (1 : Int32)).toNatClampNeg) = (4 : Int32) then ((2 : Int32), (F_X11_wrong T)) else (vl_X11_behind n).2.2.1 T v1 (T.1 129 ((T.1 105 37) - (1 : Int32)).toNatClampNeg)) else (vl_X11_behind n).2.2.1 T v1 (T.1 129 ((T.1 105 37) - (1 : Int32)).toNatClampNeg))))), (fun (T : tT)  (v1 : Int32) => (if v1 ≤ 0 then (if (T.1 129 ((T.1 105 37) - (1 : Int32)).toNatClampNeg) = (6 : Int32) then ((2 : Int32), (F_X11_must (tI (tI T 105 37 ((T.1 105 37) - (1 : Int32))) 105 38 ((T.1 105 38) - (1 : Int32))) (41 : Int32))) else ((2 : Int32), (tI T 105 37 ((T.1 105 37) - (1 : Int32))))) else (if v1 = (1 : Int32) then (vl_X11_behind n).2.2.2.1 T v1 (124 : Int32) v1 else (if v1 = (2 : Int32) then (vl_X11_behind n).2.2.2.1 T v1 (38 : Int32) v1 else (vl_X11_behind n).2.2.2.1 T v1 (v_X11_sign T (T.1 105 6)) v1)))), (fun (T : tT)  (v1 : Int32) (v2 : Int32) => (if v2 = (3 : Int32) then (vl_X11_behind n).2.2.2.2 (tI (tI T 105 37 ((T.1 105 37) - (1 : Int32))) 105 38 ((T.1 105 38) - (1 : Int32))) v1 else (vl_X11_behind n).2.2.2.2 (tI T 105 37 ((T.1 105 37) - (1 : Int32))) v1)), (fun (T : tT)  (v1 : Int32) (w0 : Int32) (w1 : Int32) => (if (3 : Int32) ≤ v1 then ((1 : Int32), (F_X11_next (F_X11_pile T w1 w0))) else ((0 : Int32), (F_X11_next (F_X11_pile T w1 w0))))), (fun (T : tT)  (v1 : Int32) => (vl_X11_behind n).1 (F_X11_step T (T.1 130 (T.1 105 37).toNatClampNeg) (0 : Int32)) v1))
noncomputable def okl_X11_behind : Nat → (Nat → tT → Int32 → Prop) × (Nat → tT → Int32 → Prop) × (Nat → tT → Int32 → Int32 → Prop) × (Nat → tT → Int32 → Int32 → Int32 → Prop) × (Nat → tT → Int32 → Prop)
  | 0 => ((fun (sz : Nat) (T : tT)  (v1 : Int32) => False), (fun (sz : Nat) (T : tT)  (v1 : Int32) => False), (fun (sz : Nat) (T : tT)  (v1 : Int32) (v2 : Int32) => False), (fun (sz : Nat) (T : tT)  (v1 : Int32) (w0 : Int32) (w1 : Int32) => False), (fun (sz : Nat) (T : tT)  (v1 : Int32) => False))
  | n + 1 => ((fun (sz : Nat) (T : tT)  (v1 : Int32) => (vp_in ((T.1 105 37) - (1 : Int32)) 80 ∧ (((5 : Int32) < (T.1 129 ((T.1 105 37) - (1 : Int32)).toNatClampNeg) → (okl_X11_behind n).2.1 sz T v1) ∧ (¬ (5 : Int32) < (T.1 129 ((T.1 105 37) - (1 : Int32)).toNatClampNeg) → (vp_in ((T.1 105 37) - (1 : Int32)) 80 ∧ (((T.1 129 ((T.1 105 37) - (1 : Int32)).toNatClampNeg) < v1 → (okl_X11_behind n).2.1 sz T v1) ∧ (¬ (T.1 129 ((T.1 105 37) - (1 : Int32)).toNatClampNeg) < v1 → (vp_in ((T.1 105 37) - (1 : Int32)) 80 ∧ ((¬ v1 = (4 : Int32) → (okl_X11_behind n).2.2.1 sz T v1 (T.1 129 ((T.1 105 37) - (1 : Int32)).toNatClampNeg)) ∧ (v1 = (4 : Int32) → ((¬ (T.1 129 ((T.1 105 37) - (1 : Int32)).toNatClampNeg) = (4 : Int32) → (okl_X11_behind n).2.2.1 sz T v1 (T.1 129 ((T.1 105 37) - (1 : Int32)).toNatClampNeg)) ∧ ((T.1 129 ((T.1 105 37) - (1 : Int32)).toNatClampNeg) = (4 : Int32) → True)))))))))))), (fun (sz : Nat) (T : tT)  (v1 : Int32) => ((v1 ≤ 0 → (vp_in ((T.1 105 37) - (1 : Int32)) 80 ∧ ((¬ (T.1 129 ((T.1 105 37) - (1 : Int32)).toNatClampNeg) = (6 : Int32) → True) ∧ ((T.1 129 ((T.1 105 37) - (1 : Int32)).toNatClampNeg) = (6 : Int32) → (ok_X11_must sz (tI (tI T 105 37 ((T.1 105 37) - (1 : Int32))) 105 38 ((T.1 105 38) - (1 : Int32))) (41 : Int32) ∧ True))))) ∧ (¬ v1 ≤ 0 → ((¬ v1 = (1 : Int32) → ((¬ v1 = (2 : Int32) → (ok_X11_sign sz T (T.1 105 6) ∧ (okl_X11_behind n).2.2.2.1 sz T v1 (v_X11_sign T (T.1 105 6)) v1)) ∧ (v1 = (2 : Int32) → (okl_X11_behind n).2.2.2.1 sz T v1 (38 : Int32) v1))) ∧ (v1 = (1 : Int32) → (okl_X11_behind n).2.2.2.1 sz T v1 (124 : Int32) v1))))), (fun (sz : Nat) (T : tT)  (v1 : Int32) (v2 : Int32) => ((¬ v2 = (3 : Int32) → (okl_X11_behind n).2.2.2.2 sz (tI T 105 37 ((T.1 105 37) - (1 : Int32))) v1) ∧ (v2 = (3 : Int32) → (okl_X11_behind n).2.2.2.2 sz (tI (tI T 105 37 ((T.1 105 37) - (1 : Int32))) 105 38 ((T.1 105 38) - (1 : Int32))) v1))), (fun (sz : Nat) (T : tT)  (v1 : Int32) (w0 : Int32) (w1 : Int32) => (ok_X11_pile sz T w1 w0 ∧ (ok_X11_next sz (F_X11_pile T w1 w0) ∧ True))), (fun (sz : Nat) (T : tT)  (v1 : Int32) => (vp_in (T.1 105 37) 80 ∧ (ok_X11_step sz T (T.1 130 (T.1 105 37).toNatClampNeg) (0 : Int32) ∧ (okl_X11_behind n).1 sz (F_X11_step T (T.1 130 (T.1 105 37).toNatClampNeg) (0 : Int32)) v1))))
theorem vl_X11_behind_s0 (n : Nat) (T : tT)  (v1 : Int32) : (vl_X11_behind (n + 1)).1 T v1 = (if (5 : Int32) < (T.1 129 ((T.1 105 37) - (1 : Int32)).toNatClampNeg) then (vl_X11_behind n).2.1 T v1 else (if (T.1 129 ((T.1 105 37) - (1 : Int32)).toNatClampNeg) < v1 then (vl_X11_behind n).2.1 T v1 else (if v1 = (4 : Int32) then (if (T.1 129 ((T.1 105 37) - (1 : Int32)).toNatClampNeg) = (4 : Int32) then ((2 : Int32), (F_X11_wrong T)) else (vl_X11_behind n).2.2.1 T v1 (T.1 129 ((T.1 105 37) - (1 : Int32)).toNatClampNeg)) else (vl_X11_behind n).2.2.1 T v1 (T.1 129 ((T.1 105 37) - (1 : Int32)).toNatClampNeg)))) := rfl
theorem okl_X11_behind_s0 (n sz : Nat) (T : tT)  (v1 : Int32) : (okl_X11_behind (n + 1)).1 sz T v1 = (vp_in ((T.1 105 37) - (1 : Int32)) 80 ∧ (((5 : Int32) < (T.1 129 ((T.1 105 37) - (1 : Int32)).toNatClampNeg) → (okl_X11_behind n).2.1 sz T v1) ∧ (¬ (5 : Int32) < (T.1 129 ((T.1 105 37) - (1 : Int32)).toNatClampNeg) → (vp_in ((T.1 105 37) - (1 : Int32)) 80 ∧ (((T.1 129 ((T.1 105 37) - (1 : Int32)).toNatClampNeg) < v1 → (okl_X11_behind n).2.1 sz T v1) ∧ (¬ (T.1 129 ((T.1 105 37) - (1 : Int32)).toNatClampNeg) < v1 → (vp_in ((T.1 105 37) - (1 : Int32)) 80 ∧ ((¬ v1 = (4 : Int32) → (okl_X11_behind n).2.2.1 sz T v1 (T.1 129 ((T.1 105 37) - (1 : Int32)).toNatClampNeg)) ∧ (v1 = (4 : Int32) → ((¬ (T.1 129 ((T.1 105 37) - (1 : Int32)).toNatClampNeg) = (4 : Int32) → (okl_X11_behind n).2.2.1 sz T v1 (T.1 129 ((T.1 105 37) - (1 : Int32)).toNatClampNeg)) ∧ ((T.1 129 ((T.1 105 37) - (1 : Int32)).toNatClampNeg) = (4 : Int32) → True))))))))))) := rfl
theorem vl_X11_behind_s1 (n : Nat) (T : tT)  (v1 : Int32) : (vl_X11_behind (n + 1)).2.1 T v1 = (if v1 ≤ 0 then (if (T.1 129 ((T.1 105 37) - (1 : Int32)).toNatClampNeg) = (6 : Int32) then ((2 : Int32), (F_X11_must (tI (tI T 105 37 ((T.1 105 37) - (1 : Int32))) 105 38 ((T.1 105 38) - (1 : Int32))) (41 : Int32))) else ((2 : Int32), (tI T 105 37 ((T.1 105 37) - (1 : Int32))))) else (if v1 = (1 : Int32) then (vl_X11_behind n).2.2.2.1 T v1 (124 : Int32) v1 else (if v1 = (2 : Int32) then (vl_X11_behind n).2.2.2.1 T v1 (38 : Int32) v1 else (vl_X11_behind n).2.2.2.1 T v1 (v_X11_sign T (T.1 105 6)) v1))) := rfl
theorem okl_X11_behind_s1 (n sz : Nat) (T : tT)  (v1 : Int32) : (okl_X11_behind (n + 1)).2.1 sz T v1 = ((v1 ≤ 0 → (vp_in ((T.1 105 37) - (1 : Int32)) 80 ∧ ((¬ (T.1 129 ((T.1 105 37) - (1 : Int32)).toNatClampNeg) = (6 : Int32) → True) ∧ ((T.1 129 ((T.1 105 37) - (1 : Int32)).toNatClampNeg) = (6 : Int32) → (ok_X11_must sz (tI (tI T 105 37 ((T.1 105 37) - (1 : Int32))) 105 38 ((T.1 105 38) - (1 : Int32))) (41 : Int32) ∧ True))))) ∧ (¬ v1 ≤ 0 → ((¬ v1 = (1 : Int32) → ((¬ v1 = (2 : Int32) → (ok_X11_sign sz T (T.1 105 6) ∧ (okl_X11_behind n).2.2.2.1 sz T v1 (v_X11_sign T (T.1 105 6)) v1)) ∧ (v1 = (2 : Int32) → (okl_X11_behind n).2.2.2.1 sz T v1 (38 : Int32) v1))) ∧ (v1 = (1 : Int32) → (okl_X11_behind n).2.2.2.1 sz T v1 (124 : Int32) v1)))) := rfl
theorem vl_X11_behind_s2 (n : Nat) (T : tT)  (v1 : Int32) (v2 : Int32) : (vl_X11_behind (n + 1)).2.2.1 T v1 v2 = (if v2 = (3 : Int32) then (vl_X11_behind n).2.2.2.2 (tI (tI T 105 37 ((T.1 105 37) - (1 : Int32))) 105 38 ((T.1 105 38) - (1 : Int32))) v1 else (vl_X11_behind n).2.2.2.2 (tI T 105 37 ((T.1 105 37) - (1 : Int32))) v1) := rfl
theorem okl_X11_behind_s2 (n sz : Nat) (T : tT)  (v1 : Int32) (v2 : Int32) : (okl_X11_behind (n + 1)).2.2.1 sz T v1 v2 = ((¬ v2 = (3 : Int32) → (okl_X11_behind n).2.2.2.2 sz (tI T 105 37 ((T.1 105 37) - (1 : Int32))) v1) ∧ (v2 = (3 : Int32) → (okl_X11_behind n).2.2.2.2 sz (tI (tI T 105 37 ((T.1 105 37) - (1 : Int32))) 105 38 ((T.1 105 38) - (1 : Int32))) v1)) := rfl
theorem vl_X11_behind_s3 (n : Nat) (T : tT)  (v1 : Int32) (w0 : Int32) (w1 : Int32) : (vl_X11_behind (n + 1)).2.2.2.1 T v1 w0 w1 = (if (3 : Int32) ≤ v1 then ((1 : Int32), (F_X11_next (F_X11_pile T w1 w0))) else ((0 : Int32), (F_X11_next (F_X11_pile T w1 w0)))) := rfl
theorem okl_X11_behind_s3 (n sz : Nat) (T : tT)  (v1 : Int32) (w0 : Int32) (w1 : Int32) : (okl_X11_behind (n + 1)).2.2.2.1 sz T v1 w0 w1 = (ok_X11_pile sz T w1 w0 ∧ (ok_X11_next sz (F_X11_pile T w1 w0) ∧ True)) := rfl
theorem vl_X11_behind_s4 (n : Nat) (T : tT)  (v1 : Int32) : (vl_X11_behind (n + 1)).2.2.2.2 T v1 = (vl_X11_behind n).1 (F_X11_step T (T.1 130 (T.1 105 37).toNatClampNeg) (0 : Int32)) v1 := rfl
theorem okl_X11_behind_s4 (n sz : Nat) (T : tT)  (v1 : Int32) : (okl_X11_behind (n + 1)).2.2.2.2 sz T v1 = (vp_in (T.1 105 37) 80 ∧ (ok_X11_step sz T (T.1 130 (T.1 105 37).toNatClampNeg) (0 : Int32) ∧ (okl_X11_behind n).1 sz (F_X11_step T (T.1 130 (T.1 105 37).toNatClampNeg) (0 : Int32)) v1)) := rfl
set_option maxRecDepth 10000 in
set_option maxHeartbeats 1000000 in
theorem lj_X11_behind {X : ax_X} {d L sz : Nat} {Q : Int32 → tT → Prop} (hX : ax_ok X mX11_behind (d + 4)) (hsz : 161 ≤ sz) (hR : ax_Ret X mX11_behind (ti L sz Q)) : ∀ n : Nat, (∀ (T : tT)  (v1 : Int32), (okl_X11_behind n).1 sz T v1 → Q ((vl_X11_behind n).1 T v1).1 ((vl_X11_behind n).1 T v1).2 → ax_j X 5 [some (.ref 105), some (.int v1), none] [] (th L sz T) 0 0) ∧ (∀ (T : tT)  (v1 : Int32), (okl_X11_behind n).2.1 sz T v1 → Q ((vl_X11_behind n).2.1 T v1).1 ((vl_X11_behind n).2.1 T v1).2 → ax_j X 105 [some (.ref 105), some (.int v1), none] [] (th L sz T) 0 0) ∧ (∀ (T : tT)  (v1 : Int32) (v2 : Int32), (okl_X11_behind n).2.2.1 sz T v1 v2 → Q ((vl_X11_behind n).2.2.1 T v1 v2).1 ((vl_X11_behind n).2.2.1 T v1 v2).2 → ax_j X 63 [some (.ref 105), some (.int v1), some (.int v2)] [] (th L sz T) 0 0) ∧ (∀ (T : tT)  (v1 : Int32) (w0 : Int32) (w1 : Int32), (okl_X11_behind n).2.2.2.1 sz T v1 w0 w1 → Q ((vl_X11_behind n).2.2.2.1 T v1 w0 w1).1 ((vl_X11_behind n).2.2.2.1 T v1 w0 w1).2 → ax_j X 139 [some (.ref 105), some (.int v1), none] [.int w0, .int w1, .ref 105] (th L sz T) 0 0) ∧ (∀ (T : tT)  (v1 : Int32), (okl_X11_behind n).2.2.2.2 sz T v1 → Q ((vl_X11_behind n).2.2.2.2 T v1).1 ((vl_X11_behind n).2.2.2.2 T v1).2 → ax_j X 88 [some (.ref 105), some (.int v1), none] [] (th L sz T) 0 0) := by
  intro n
  induction n with
  | zero => exact ⟨(by intros; rename_i ok _; exact False.elim ok), (by intros; rename_i ok _; exact False.elim ok), (by intros; rename_i ok _; exact False.elim ok), (by intros; rename_i ok _; exact False.elim ok), (by intros; rename_i ok _; exact False.elim ok)⟩
  | succ n ih =>
    refine ⟨?_, ?_, ?_, ?_, ?_⟩
    · intro T  v1 ok hq
      refine s_X11_behind_5 hX hR hsz   v1 ?_
      rw [okl_X11_behind_s0] at ok
      refine ⟨ok.1, ?_⟩
      replace ok := ok.2
      refine ⟨fun kq0 => ?_, fun kq0 => ?_⟩
      · replace ok := ok.1 kq0
        have z := hq; rw [vl_X11_behind_s0, if_pos kq0] at z; exact ih.2.1 _  v1 ok z
      · replace ok := ok.2 kq0
        refine ⟨ok.1, ?_⟩
        replace ok := ok.2
        refine ⟨fun kq1 => ?_, fun kq1 => ?_⟩
        · replace ok := ok.1 kq1
          have z := hq; rw [vl_X11_behind_s0, if_neg kq0, if_pos kq1] at z; exact ih.2.1 _  v1 ok z
        · replace ok := ok.2 kq1
          refine ⟨ok.1, ?_⟩
          replace ok := ok.2
          refine ⟨fun kq2 => ?_, fun kq2 => ?_⟩
          · replace ok := ok.1 kq2
            have z := hq; rw [vl_X11_behind_s0, if_neg kq0, if_neg kq1, if_neg kq2] at z; exact ih.2.2.1 _  v1 (T.1 129 ((T.1 105 37) - (1 : Int32)).toNatClampNeg) ok z
          · replace ok := ok.2 kq2
            refine ⟨fun kq3 => ?_, fun kq3 => ?_⟩
            · replace ok := ok.1 kq3
              have z := hq; rw [vl_X11_behind_s0, if_neg kq0, if_neg kq1, if_pos kq2, if_neg kq3] at z; exact ih.2.2.1 _  v1 (T.1 129 ((T.1 105 37) - (1 : Int32)).toNatClampNeg) ok z
            · replace ok := ok.2 kq3
              refine ⟨_, c_X11_wrong hsz   , ?_⟩
              rintro _ rfl
              have z := hq; rw [vl_X11_behind_s0, if_neg kq0, if_neg kq1, if_pos kq2, if_pos kq3] at z; exact z
    · intro T  v1 ok hq
      refine s_X11_behind_105 hX hR hsz   v1 ?_
      rw [okl_X11_behind_s1] at ok
      refine ⟨fun kq0 => ?_, fun kq0 => ?_⟩
      · replace ok := ok.1 kq0
        refine ⟨ok.1, ?_⟩
        replace ok := ok.2
        refine ⟨fun kq1 => ?_, fun kq1 => ?_⟩
        · replace ok := ok.1 kq1
          have z := hq; rw [vl_X11_behind_s1, if_pos kq0, if_neg kq1] at z; exact z
        · replace ok := ok.2 kq1
          refine ⟨_, c_X11_must hsz  (41 : Int32) ok.1, ?_⟩
          rintro _ rfl
          replace ok := ok.2
          have z := hq; rw [vl_X11_behind_s1, if_pos kq0, if_pos kq1] at z; exact z
      · replace ok := ok.2 kq0
        refine ⟨fun kq1 => ?_, fun kq1 => ?_⟩
        · replace ok := ok.1 kq1
          refine ⟨fun kq2 => ?_, fun kq2 => ?_⟩
          · replace ok := ok.1 kq2
            refine ⟨_, c_X11_sign hsz  (T.1 105 6) ok.1, ?_⟩
            rintro _ _ ⟨rfl, rfl⟩
            replace ok := ok.2
            have z := hq; rw [vl_X11_behind_s1, if_neg kq0, if_neg kq1, if_neg kq2] at z; exact ih.2.2.2.1 _  v1 (v_X11_sign T (T.1 105 6)) v1 ok z
          · replace ok := ok.2 kq2
            have z := hq; rw [vl_X11_behind_s1, if_neg kq0, if_neg kq1, if_pos kq2] at z; exact ih.2.2.2.1 _  v1 (38 : Int32) v1 ok z
        · replace ok := ok.2 kq1
          have z := hq; rw [vl_X11_behind_s1, if_neg kq0, if_pos kq1] at z; exact ih.2.2.2.1 _  v1 (124 : Int32) v1 ok z
    · intro T  v1 v2 ok hq
      refine s_X11_behind_63 hX hR hsz   v1 v2 ?_
      rw [okl_X11_behind_s2] at ok
      refine ⟨fun kq0 => ?_, fun kq0 => ?_⟩
      · replace ok := ok.1 kq0
        have z := hq; rw [vl_X11_behind_s2, if_neg kq0] at z; exact ih.2.2.2.2 _  v1 ok z
      · replace ok := ok.2 kq0
        have z := hq; rw [vl_X11_behind_s2, if_pos kq0] at z; exact ih.2.2.2.2 _  v1 ok z
    · intro T  v1 w0 w1 ok hq
      refine s_X11_behind_139 hX hR hsz   v1 w0 w1 ?_
      rw [okl_X11_behind_s3] at ok
      refine ⟨_, c_X11_pile hsz  w1 w0 ok.1, ?_⟩
      rintro _ rfl
      replace ok := ok.2
      refine ⟨_, c_X11_next hsz   ok.1, ?_⟩
      rintro _ rfl
      replace ok := ok.2
      refine ⟨fun kq0 => ?_, fun kq0 => ?_⟩
      · have z := hq; rw [vl_X11_behind_s3, if_pos kq0] at z; exact z
      · have z := hq; rw [vl_X11_behind_s3, if_neg kq0] at z; exact z
    · intro T  v1 ok hq
      refine s_X11_behind_88 hX hR hsz   v1 ?_
      rw [okl_X11_behind_s4] at ok
      refine ⟨ok.1, ?_⟩
      replace ok := ok.2
      refine ⟨_, c_X11_step hsz  (T.1 130 (T.1 105 37).toNatClampNeg) (0 : Int32) ok.1, ?_⟩
      rintro _ rfl
      replace ok := ok.2
      have z := hq; rw [vl_X11_behind_s4] at z; exact ih.1 _  v1 ok z
noncomputable def F_X11_behind (T : tT)   : (Int32 × tT) := (vl_X11_behind fu).1 T (v_X11_rankHere T)
noncomputable def ok_X11_behind (sz : Nat) (T : tT)   : Prop := (ok_X11_rankHere sz T ∧ (okl_X11_behind fu).1 sz T (v_X11_rankHere T))
set_option maxRecDepth 10000 in
theorem c_X11_behind {d L sz : Nat} {T : tT} (hsz : 161 ≤ sz)  (ok : ok_X11_behind sz T) : tiK (d + 4) mX11_behind [.ref 105] L sz T (fun r T' => r = (F_X11_behind T).1 ∧ T' = (F_X11_behind T).2) := by
  refine k_X11_behind hsz   (fun X hX hR => ?_)
  unfold ok_X11_behind at ok
  refine ⟨_, c_X11_rankHere hsz   ok.1, ?_⟩
  rintro _ _ ⟨rfl, rfl⟩
  replace ok := ok.2
  exact (lj_X11_behind hX hsz  hR _).1 _  (v_X11_rankHere T) ok ⟨by unfold F_X11_behind; rfl, by unfold F_X11_behind; rfl⟩
noncomputable def vl_X11_numberOf : Nat → (tT → Int32 → Int32 → (Int32 × tT)) × (tT → (Int32 × tT)) × (tT → (Int32 × tT))
  | 0 => ((fun (T : tT)  (v1 : Int32) (v2 : Int32) => (0, T)), (fun (T : tT)   => (0, T)), (fun (T : tT)   => (0, T)))
  | n + 1 => ((fun (T : tT)  (v1 : Int32) (v2 : Int32) => (if (v_X11_isGood T) = 0 then (vl_X11_numberOf n).2.1 T else (if (T.1 105 9) < v1 then (vl_X11_numberOf n).2.2 T else (if (T.1 105 9) ≤ v2 then (vl_X11_numberOf n).2.1 T else (vl_X11_numberOf n).2.2 T)))), (fun (T : tT)   => (if (v_X11_isGood T) = 0 then ((T.1 105 9), T) else ((T.1 105 9), (F_X11_next T)))), (fun (T : tT)   => (vl_X11_numberOf n).2.1 (F_X11_fails T (5 : Int32) (T.1 105 6))))
noncomputable def okl_X11_numberOf : Nat → (Nat → tT → Int32 → Int32 → Prop) × (Nat → tT → Prop) × (Nat → tT → Prop)
  | 0 => ((fun (sz : Nat) (T : tT)  (v1 : Int32) (v2 : Int32) => False), (fun (sz : Nat) (T : tT)   => False), (fun (sz : Nat) (T : tT)   => False))
  | n + 1 => ((fun (sz : Nat) (T : tT)  (v1 : Int32) (v2 : Int32) => (((v_X11_isGood T) = 0 → (okl_X11_numberOf n).2.1 sz T) ∧ (¬ (v_X11_isGood T) = 0 → (((T.1 105 9) < v1 → (okl_X11_numberOf n).2.2 sz T) ∧ (¬ (T.1 105 9) < v1 → (((T.1 105 9) ≤ v2 → (okl_X11_numberOf n).2.1 sz T) ∧ (¬ (T.1 105 9) ≤ v2 → (okl_X11_numberOf n).2.2 sz T))))))), (fun (sz : Nat) (T : tT)   => (((v_X11_isGood T) = 0 → True) ∧ (¬ (v_X11_isGood T) = 0 → (ok_X11_next sz T ∧ True)))), (fun (sz : Nat) (T : tT)   => (okl_X11_numberOf n).2.1 sz (F_X11_fails T (5 : Int32) (T.1 105 6))))
theorem vl_X11_numberOf_s0 (n : Nat) (T : tT)  (v1 : Int32) (v2 : Int32) : (vl_X11_numberOf (n + 1)).1 T v1 v2 = (if (v_X11_isGood T) = 0 then (vl_X11_numberOf n).2.1 T else (if (T.1 105 9) < v1 then (vl_X11_numberOf n).2.2 T else (if (T.1 105 9) ≤ v2 then (vl_X11_numberOf n).2.1 T else (vl_X11_numberOf n).2.2 T))) := rfl
theorem okl_X11_numberOf_s0 (n sz : Nat) (T : tT)  (v1 : Int32) (v2 : Int32) : (okl_X11_numberOf (n + 1)).1 sz T v1 v2 = (((v_X11_isGood T) = 0 → (okl_X11_numberOf n).2.1 sz T) ∧ (¬ (v_X11_isGood T) = 0 → (((T.1 105 9) < v1 → (okl_X11_numberOf n).2.2 sz T) ∧ (¬ (T.1 105 9) < v1 → (((T.1 105 9) ≤ v2 → (okl_X11_numberOf n).2.1 sz T) ∧ (¬ (T.1 105 9) ≤ v2 → (okl_X11_numberOf n).2.2 sz T)))))) := rfl
theorem vl_X11_numberOf_s1 (n : Nat) (T : tT)   : (vl_X11_numberOf (n + 1)).2.1 T = (if (v_X11_isGood T) = 0 then ((T.1 105 9), T) else ((T.1 105 9), (F_X11_next T))) := rfl
theorem okl_X11_numberOf_s1 (n sz : Nat) (T : tT)   : (okl_X11_numberOf (n + 1)).2.1 sz T = (((v_X11_isGood T) = 0 → True) ∧ (¬ (v_X11_isGood T) = 0 → (ok_X11_next sz T ∧ True))) := rfl
theorem vl_X11_numberOf_s2 (n : Nat) (T : tT)   : (vl_X11_numberOf (n + 1)).2.2 T = (vl_X11_numberOf n).2.1 (F_X11_fails T (5 : Int32) (T.1 105 6)) := rfl
theorem okl_X11_numberOf_s2 (n sz : Nat) (T : tT)   : (okl_X11_numberOf (n + 1)).2.2 sz T = (okl_X11_numberOf n).2.1 sz (F_X11_fails T (5 : Int32) (T.1 105 6)) := rfl
set_option maxRecDepth 10000 in
set_option maxHeartbeats 1000000 in
theorem lj_X11_numberOf {X : ax_X} {d L sz : Nat} {Q : Int32 → tT → Prop} (hX : ax_ok X mX11_numberOf (d + 3)) (hsz : 161 ≤ sz) (hR : ax_Ret X mX11_numberOf (ti L sz Q)) : ∀ n : Nat, (∀ (T : tT)  (v1 : Int32) (v2 : Int32), (okl_X11_numberOf n).1 sz T v1 v2 → Q ((vl_X11_numberOf n).1 T v1 v2).1 ((vl_X11_numberOf n).1 T v1 v2).2 → ax_j X 12 [some (.ref 105), some (.int v1), some (.int v2), none] [] (th L sz T) 0 0) ∧ (∀ (T : tT)  , (okl_X11_numberOf n).2.1 sz T → Q ((vl_X11_numberOf n).2.1 T).1 ((vl_X11_numberOf n).2.1 T).2 → ax_j X 44 [some (.ref 105), none, none, none] [] (th L sz T) 0 0) ∧ (∀ (T : tT)  , (okl_X11_numberOf n).2.2 sz T → Q ((vl_X11_numberOf n).2.2 T).1 ((vl_X11_numberOf n).2.2 T).2 → ax_j X 35 [some (.ref 105), none, none, none] [] (th L sz T) 0 0) := by
  intro n
  induction n with
  | zero => exact ⟨(by intros; rename_i ok _; exact False.elim ok), (by intros; rename_i ok _; exact False.elim ok), (by intros; rename_i ok _; exact False.elim ok)⟩
  | succ n ih =>
    refine ⟨?_, ?_, ?_⟩
    · intro T  v1 v2 ok hq
      refine s_X11_numberOf_12 hX hR hsz   v1 v2 ?_
      rw [okl_X11_numberOf_s0] at ok
      refine ⟨_, c_X11_isGood hsz   , ?_⟩
      rintro _ _ ⟨rfl, rfl⟩
      refine ⟨fun kq0 => ?_, fun kq0 => ?_⟩
      · replace ok := ok.1 kq0
        have z := hq; rw [vl_X11_numberOf_s0, if_pos kq0] at z; exact ih.2.1 _   ok z
      · replace ok := ok.2 kq0
        refine ⟨fun kq1 => ?_, fun kq1 => ?_⟩
        · replace ok := ok.1 kq1
          have z := hq; rw [vl_X11_numberOf_s0, if_neg kq0, if_pos kq1] at z; exact ih.2.2 _   ok z
        · replace ok := ok.2 kq1
          refine ⟨fun kq2 => ?_, fun kq2 => ?_⟩
          · replace ok := ok.1 kq2
            have z := hq; rw [vl_X11_numberOf_s0, if_neg kq0, if_neg kq1, if_pos kq2] at z; exact ih.2.1 _   ok z
          · replace ok := ok.2 kq2
            have z := hq; rw [vl_X11_numberOf_s0, if_neg kq0, if_neg kq1, if_neg kq2] at z; exact ih.2.2 _   ok z
    · intro T   ok hq
      refine s_X11_numberOf_44 hX hR hsz    ?_
      rw [okl_X11_numberOf_s1] at ok
      refine ⟨_, c_X11_isGood hsz   , ?_⟩
      rintro _ _ ⟨rfl, rfl⟩
      refine ⟨fun kq0 => ?_, fun kq0 => ?_⟩
      · replace ok := ok.1 kq0
        have z := hq; rw [vl_X11_numberOf_s1, if_pos kq0] at z; exact z
      · replace ok := ok.2 kq0
        refine ⟨_, c_X11_next hsz   ok.1, ?_⟩
        rintro _ rfl
        replace ok := ok.2
        have z := hq; rw [vl_X11_numberOf_s1, if_neg kq0] at z; exact z
    · intro T   ok hq
      refine s_X11_numberOf_35 hX hR hsz    ?_
      rw [okl_X11_numberOf_s2] at ok
      refine ⟨_, c_X11_fails hsz  (5 : Int32) (T.1 105 6) , ?_⟩
      rintro _ rfl
      have z := hq; rw [vl_X11_numberOf_s2] at z; exact ih.2.1 _   ok z
noncomputable def F_X11_numberOf (T : tT)  (x0 : Int32) (x1 : Int32) : (Int32 × tT) := (if (T.1 105 8) = (4 : Int32) then (vl_X11_numberOf fu).1 T x0 x1 else (vl_X11_numberOf fu).1 (F_X11_wrong T) x0 x1)
noncomputable def ok_X11_numberOf (sz : Nat) (T : tT)  (x0 : Int32) (x1 : Int32) : Prop := (((T.1 105 8) = (4 : Int32) → (okl_X11_numberOf fu).1 sz T x0 x1) ∧ (¬ (T.1 105 8) = (4 : Int32) → (okl_X11_numberOf fu).1 sz (F_X11_wrong T) x0 x1))
set_option maxRecDepth 10000 in
theorem c_X11_numberOf {d L sz : Nat} {T : tT} (hsz : 161 ≤ sz) (x0 : Int32) (x1 : Int32) (ok : ok_X11_numberOf sz T x0 x1) : tiK (d + 3) mX11_numberOf [.ref 105, .int x0, .int x1] L sz T (fun r T' => r = (F_X11_numberOf T x0 x1).1 ∧ T' = (F_X11_numberOf T x0 x1).2) := by
  refine k_X11_numberOf hsz  x0 x1 (fun X hX hR => ?_)
  unfold ok_X11_numberOf at ok
  refine ⟨fun kq0 => ?_, fun kq0 => ?_⟩
  · replace ok := ok.1 kq0
    exact (lj_X11_numberOf hX hsz  hR _).1 _  x0 x1 ok ⟨by unfold F_X11_numberOf; first | (rw [if_pos kq0]; done) | (rw [if_pos kq0]; rfl), by unfold F_X11_numberOf; first | (rw [if_pos kq0]; done) | (rw [if_pos kq0]; rfl)⟩
  · replace ok := ok.2 kq0
    refine ⟨_, c_X11_wrong hsz   , ?_⟩
    rintro _ rfl
    exact (lj_X11_numberOf hX hsz  hR _).1 _  x0 x1 ok ⟨by unfold F_X11_numberOf; first | (rw [if_neg kq0]; done) | (rw [if_neg kq0]; rfl), by unfold F_X11_numberOf; first | (rw [if_neg kq0]; done) | (rw [if_neg kq0]; rfl)⟩
noncomputable def F_X11_readPart (T : tT)  (x0 : Int32) : tT := (if (F_X11_canName T x0).1 = 0 then (F_X11_canName T x0).2 else (tI (tI (F_X11_numberOf (F_X11_next (tJ (F_X11_canName T x0).2 128 ((((6 : Int32) * x0) + ((F_X11_canName T x0).2.1 113 (x0.toNatClampNeg))).toNatClampNeg) ((F_X11_canName T x0).2.2.1 105 10))) (1 : Int32) (200 : Int32)).2 114 ((((6 : Int32) * x0) + ((F_X11_canName T x0).2.1 113 (x0.toNatClampNeg))).toNatClampNeg) (F_X11_numberOf (F_X11_next (tJ (F_X11_canName T x0).2 128 ((((6 : Int32) * x0) + ((F_X11_canName T x0).2.1 113 (x0.toNatClampNeg))).toNatClampNeg) ((F_X11_canName T x0).2.2.1 105 10))) (1 : Int32) (200 : Int32)).1) 113 (x0.toNatClampNeg) (((F_X11_numberOf (F_X11_next (tJ (F_X11_canName T x0).2 128 ((((6 : Int32) * x0) + ((F_X11_canName T x0).2.1 113 (x0.toNatClampNeg))).toNatClampNeg) ((F_X11_canName T x0).2.2.1 105 10))) (1 : Int32) (200 : Int32)).2.1 113 (x0.toNatClampNeg)) + (1 : Int32))))
noncomputable def ok_X11_readPart (sz : Nat) (T : tT)  (x0 : Int32) : Prop := (ok_X11_canName sz T x0 ∧ ((¬ (F_X11_canName T x0).1 = 0 → (vp_in x0 40 ∧ (vp_in (((6 : Int32) * x0) + ((F_X11_canName T x0).2.1 113 (x0.toNatClampNeg))) 240 ∧ (ok_X11_next sz (tJ (F_X11_canName T x0).2 128 ((((6 : Int32) * x0) + ((F_X11_canName T x0).2.1 113 (x0.toNatClampNeg))).toNatClampNeg) ((F_X11_canName T x0).2.2.1 105 10)) ∧ (ok_X11_numberOf sz (F_X11_next (tJ (F_X11_canName T x0).2 128 ((((6 : Int32) * x0) + ((F_X11_canName T x0).2.1 113 (x0.toNatClampNeg))).toNatClampNeg) ((F_X11_canName T x0).2.2.1 105 10))) (1 : Int32) (200 : Int32) ∧ (vp_in (((6 : Int32) * x0) + ((F_X11_canName T x0).2.1 113 (x0.toNatClampNeg))) 240 ∧ (vp_in x0 40 ∧ vp_in x0 40))))))) ∧ ((F_X11_canName T x0).1 = 0 → True)))
set_option maxRecDepth 10000 in
theorem c_X11_readPart {d L sz : Nat} {T : tT} (hsz : 161 ≤ sz) (x0 : Int32) (ok : ok_X11_readPart sz T x0) : tvK (d + 4) mX11_readPart [.ref 105, .int x0] L sz T (fun T' => T' = F_X11_readPart T x0) := by
  refine k_X11_readPart hsz  x0 ?_
  unfold ok_X11_readPart at ok
  refine ⟨_, c_X11_canName hsz  x0 ok.1, ?_⟩
  rintro _ _ ⟨rfl, rfl⟩
  replace ok := ok.2
  refine ⟨fun kq0 => ?_, fun kq0 => ?_⟩
  · replace ok := ok.1 kq0
    refine ⟨ok.1, ?_⟩
    replace ok := ok.2
    refine ⟨ok.1, ?_⟩
    replace ok := ok.2
    refine ⟨_, c_X11_next hsz   ok.1, ?_⟩
    rintro _ rfl
    replace ok := ok.2
    refine ⟨_, c_X11_numberOf hsz  (1 : Int32) (200 : Int32) ok.1, ?_⟩
    rintro _ _ ⟨rfl, rfl⟩
    replace ok := ok.2
    refine ⟨ok.1, ?_⟩
    replace ok := ok.2
    refine ⟨ok.1, ?_⟩
    replace ok := ok.2
    refine ⟨ok, ?_⟩
    exact (by unfold F_X11_readPart; first | (rw [if_neg kq0]; done) | (rw [if_neg kq0]; rfl))
  · replace ok := ok.2 kq0
    exact (by unfold F_X11_readPart; first | (rw [if_pos kq0]; done) | (rw [if_pos kq0]; rfl))
noncomputable def vl_X11_readList : Nat → (tT → Int32 → Int32 → tT) × (tT → Int32 → tT) × (tT → Int32 → tT) × (tT → Int32 → tT)
  | 0 => ((fun (T : tT)  (v2 : Int32) (v3 : Int32) => T), (fun (T : tT)  (v2 : Int32) => T), (fun (T : tT)  (v2 : Int32) => T), (fun (T : tT)  (v2 : Int32) => T))
  | n + 1 => ((fun (T : tT)  (v2 : Int32) (v3 : Int32) => (if v3 = 0 then T else (if (v_X11_isGood T) = 0 then T else (if (T.1 105 8) = (2 : Int32) then (if (T.1 112 (v2.toNatClampNeg)) = (12 : Int32) then (vl_X11_readList n).2.1 T v2 else (vl_X11_readList n).2.2.1 T v2) else (vl_X11_readList n).2.1 T v2)))), (fun (T : tT)  (v2 : Int32) => (vl_X11_readList n).2.2.1 (F_X11_wrong T) v2), (fun (T : tT)  (v2 : Int32) => (if (v_X11_isGood T) = 0 then (vl_X11_readList n).2.2.2 T v2 else (if (v_X11_hasPiece T v2 (T.2.1 105 10)) = 0 then (vl_X11_readList n).2.2.2 T v2 else (vl_X11_readList n).2.2.2 (F_X11_fails T (3 : Int32) (T.1 105 6)) v2))), (fun (T : tT)  (v2 : Int32) => (if (v_X11_isGood T) = 0 then T else (if (v_X11_is (F_X11_next (tI (tJ T 127 ((((12 : Int32) * v2) + (T.1 112 (v2.toNatClampNeg))).toNatClampNeg) (T.2.1 105 10)) 112 (v2.toNatClampNeg) ((T.1 112 (v2.toNatClampNeg)) + (1 : Int32)))) (44 : Int32)) = 0 then (vl_X11_readList n).1 (F_X11_next (tI (tJ T 127 ((((12 : Int32) * v2) + (T.1 112 (v2.toNatClampNeg))).toNatClampNeg) (T.2.1 105 10)) 112 (v2.toNatClampNeg) ((T.1 112 (v2.toNatClampNeg)) + (1 : Int32)))) v2 (v_X11_is (F_X11_next (tI (tJ T 127 ((((12 : Int32) * v2) + (T.1 112 (v2.toNatClampNeg))).toNatClampNeg) (T.2.1 105 10)) 112 (v2.toNatClampNeg) ((T.1 112 (v2.toNatClampNeg)) + (1 : Int32)))) (44 : Int32)) else (vl_X11_readList n).1 (F_X11_next (F_X11_next (tI (tJ T 127 ((((12 : Int32) * v2) + (T.1 112 (v2.toNatClampNeg))).toNatClampNeg) (T.2.1 105 10)) 112 (v2.toNatClampNeg) ((T.1 112 (v2.toNatClampNeg)) + (1 : Int32))))) v2 (v_X11_is (F_X11_next (tI (tJ T 127 ((((12 : Int32) * v2) + (T.1 112 (v2.toNatClampNeg))).toNatClampNeg) (T.2.1 105 10)) 112 (v2.toNatClampNeg) ((T.1 112 (v2.toNatClampNeg)) + (1 : Int32)))) (44 : Int32))))))
noncomputable def okl_X11_readList : Nat → (Nat → tT → Int32 → Int32 → Prop) × (Nat → tT → Int32 → Prop) × (Nat → tT → Int32 → Prop) × (Nat → tT → Int32 → Prop)
  | 0 => ((fun (sz : Nat) (T : tT)  (v2 : Int32) (v3 : Int32) => False), (fun (sz : Nat) (T : tT)  (v2 : Int32) => False), (fun (sz : Nat) (T : tT)  (v2 : Int32) => False), (fun (sz : Nat) (T : tT)  (v2 : Int32) => False))
  | n + 1 => ((fun (sz : Nat) (T : tT)  (v2 : Int32) (v3 : Int32) => ((v3 = 0 → True) ∧ (¬ v3 = 0 → (((v_X11_isGood T) = 0 → True) ∧ (¬ (v_X11_isGood T) = 0 → ((¬ (T.1 105 8) = (2 : Int32) → (okl_X11_readList n).2.1 sz T v2) ∧ ((T.1 105 8) = (2 : Int32) → (vp_in v2 240 ∧ ((¬ (T.1 112 (v2.toNatClampNeg)) = (12 : Int32) → (okl_X11_readList n).2.2.1 sz T v2) ∧ ((T.1 112 (v2.toNatClampNeg)) = (12 : Int32) → (okl_X11_readList n).2.1 sz T v2)))))))))), (fun (sz : Nat) (T : tT)  (v2 : Int32) => (okl_X11_readList n).2.2.1 sz (F_X11_wrong T) v2), (fun (sz : Nat) (T : tT)  (v2 : Int32) => (((v_X11_isGood T) = 0 → (okl_X11_readList n).2.2.2 sz T v2) ∧ (¬ (v_X11_isGood T) = 0 → (ok_X11_hasPiece sz T v2 (T.2.1 105 10) ∧ (((v_X11_hasPiece T v2 (T.2.1 105 10)) = 0 → (okl_X11_readList n).2.2.2 sz T v2) ∧ (¬ (v_X11_hasPiece T v2 (T.2.1 105 10)) = 0 → (okl_X11_readList n).2.2.2 sz (F_X11_fails T (3 : Int32) (T.1 105 6)) v2)))))), (fun (sz : Nat) (T : tT)  (v2 : Int32) => ((¬ (v_X11_isGood T) = 0 → (vp_in v2 240 ∧ (vp_in (((12 : Int32) * v2) + (T.1 112 (v2.toNatClampNeg))) 2880 ∧ (vp_in v2 240 ∧ (vp_in v2 240 ∧ (ok_X11_next sz (tI (tJ T 127 ((((12 : Int32) * v2) + (T.1 112 (v2.toNatClampNeg))).toNatClampNeg) (T.2.1 105 10)) 112 (v2.toNatClampNeg) ((T.1 112 (v2.toNatClampNeg)) + (1 : Int32))) ∧ (ok_X11_is sz (F_X11_next (tI (tJ T 127 ((((12 : Int32) * v2) + (T.1 112 (v2.toNatClampNeg))).toNatClampNeg) (T.2.1 105 10)) 112 (v2.toNatClampNeg) ((T.1 112 (v2.toNatClampNeg)) + (1 : Int32)))) (44 : Int32) ∧ (((v_X11_is (F_X11_next (tI (tJ T 127 ((((12 : Int32) * v2) + (T.1 112 (v2.toNatClampNeg))).toNatClampNeg) (T.2.1 105 10)) 112 (v2.toNatClampNeg) ((T.1 112 (v2.toNatClampNeg)) + (1 : Int32)))) (44 : Int32)) = 0 → (okl_X11_readList n).1 sz (F_X11_next (tI (tJ T 127 ((((12 : Int32) * v2) + (T.1 112 (v2.toNatClampNeg))).toNatClampNeg) (T.2.1 105 10)) 112 (v2.toNatClampNeg) ((T.1 112 (v2.toNatClampNeg)) + (1 : Int32)))) v2 (v_X11_is (F_X11_next (tI (tJ T 127 ((((12 : Int32) * v2) + (T.1 112 (v2.toNatClampNeg))).toNatClampNeg) (T.2.1 105 10)) 112 (v2.toNatClampNeg) ((T.1 112 (v2.toNatClampNeg)) + (1 : Int32)))) (44 : Int32))) ∧ (¬ (v_X11_is (F_X11_next (tI (tJ T 127 ((((12 : Int32) * v2) + (T.1 112 (v2.toNatClampNeg))).toNatClampNeg) (T.2.1 105 10)) 112 (v2.toNatClampNeg) ((T.1 112 (v2.toNatClampNeg)) + (1 : Int32)))) (44 : Int32)) = 0 → (ok_X11_next sz (F_X11_next (tI (tJ T 127 ((((12 : Int32) * v2) + (T.1 112 (v2.toNatClampNeg))).toNatClampNeg) (T.2.1 105 10)) 112 (v2.toNatClampNeg) ((T.1 112 (v2.toNatClampNeg)) + (1 : Int32)))) ∧ (okl_X11_readList n).1 sz (F_X11_next (F_X11_next (tI (tJ T 127 ((((12 : Int32) * v2) + (T.1 112 (v2.toNatClampNeg))).toNatClampNeg) (T.2.1 105 10)) 112 (v2.toNatClampNeg) ((T.1 112 (v2.toNatClampNeg)) + (1 : Int32))))) v2 (v_X11_is (F_X11_next (tI (tJ T 127 ((((12 : Int32) * v2) + (T.1 112 (v2.toNatClampNeg))).toNatClampNeg) (T.2.1 105 10)) 112 (v2.toNatClampNeg) ((T.1 112 (v2.toNatClampNeg)) + (1 : Int32)))) (44 : Int32)))))))))))) ∧ ((v_X11_isGood T) = 0 → True))))
theorem vl_X11_readList_s0 (n : Nat) (T : tT)  (v2 : Int32) (v3 : Int32) : (vl_X11_readList (n + 1)).1 T v2 v3 = (if v3 = 0 then T else (if (v_X11_isGood T) = 0 then T else (if (T.1 105 8) = (2 : Int32) then (if (T.1 112 (v2.toNatClampNeg)) = (12 : Int32) then (vl_X11_readList n).2.1 T v2 else (vl_X11_readList n).2.2.1 T v2) else (vl_X11_readList n).2.1 T v2))) := rfl
theorem okl_X11_readList_s0 (n sz : Nat) (T : tT)  (v2 : Int32) (v3 : Int32) : (okl_X11_readList (n + 1)).1 sz T v2 v3 = ((v3 = 0 → True) ∧ (¬ v3 = 0 → (((v_X11_isGood T) = 0 → True) ∧ (¬ (v_X11_isGood T) = 0 → ((¬ (T.1 105 8) = (2 : Int32) → (okl_X11_readList n).2.1 sz T v2) ∧ ((T.1 105 8) = (2 : Int32) → (vp_in v2 240 ∧ ((¬ (T.1 112 (v2.toNatClampNeg)) = (12 : Int32) → (okl_X11_readList n).2.2.1 sz T v2) ∧ ((T.1 112 (v2.toNatClampNeg)) = (12 : Int32) → (okl_X11_readList n).2.1 sz T v2))))))))) := rfl
theorem vl_X11_readList_s1 (n : Nat) (T : tT)  (v2 : Int32) : (vl_X11_readList (n + 1)).2.1 T v2 = (vl_X11_readList n).2.2.1 (F_X11_wrong T) v2 := rfl
theorem okl_X11_readList_s1 (n sz : Nat) (T : tT)  (v2 : Int32) : (okl_X11_readList (n + 1)).2.1 sz T v2 = (okl_X11_readList n).2.2.1 sz (F_X11_wrong T) v2 := rfl
theorem vl_X11_readList_s2 (n : Nat) (T : tT)  (v2 : Int32) : (vl_X11_readList (n + 1)).2.2.1 T v2 = (if (v_X11_isGood T) = 0 then (vl_X11_readList n).2.2.2 T v2 else (if (v_X11_hasPiece T v2 (T.2.1 105 10)) = 0 then (vl_X11_readList n).2.2.2 T v2 else (vl_X11_readList n).2.2.2 (F_X11_fails T (3 : Int32) (T.1 105 6)) v2)) := rfl
theorem okl_X11_readList_s2 (n sz : Nat) (T : tT)  (v2 : Int32) : (okl_X11_readList (n + 1)).2.2.1 sz T v2 = (((v_X11_isGood T) = 0 → (okl_X11_readList n).2.2.2 sz T v2) ∧ (¬ (v_X11_isGood T) = 0 → (ok_X11_hasPiece sz T v2 (T.2.1 105 10) ∧ (((v_X11_hasPiece T v2 (T.2.1 105 10)) = 0 → (okl_X11_readList n).2.2.2 sz T v2) ∧ (¬ (v_X11_hasPiece T v2 (T.2.1 105 10)) = 0 → (okl_X11_readList n).2.2.2 sz (F_X11_fails T (3 : Int32) (T.1 105 6)) v2))))) := rfl
theorem vl_X11_readList_s3 (n : Nat) (T : tT)  (v2 : Int32) : (vl_X11_readList (n + 1)).2.2.2 T v2 = (if (v_X11_isGood T) = 0 then T else (if (v_X11_is (F_X11_next (tI (tJ T 127 ((((12 : Int32) * v2) + (T.1 112 (v2.toNatClampNeg))).toNatClampNeg) (T.2.1 105 10)) 112 (v2.toNatClampNeg) ((T.1 112 (v2.toNatClampNeg)) + (1 : Int32)))) (44 : Int32)) = 0 then (vl_X11_readList n).1 (F_X11_next (tI (tJ T 127 ((((12 : Int32) * v2) + (T.1 112 (v2.toNatClampNeg))).toNatClampNeg) (T.2.1 105 10)) 112 (v2.toNatClampNeg) ((T.1 112 (v2.toNatClampNeg)) + (1 : Int32)))) v2 (v_X11_is (F_X11_next (tI (tJ T 127 ((((12 : Int32) * v2) + (T.1 112 (v2.toNatClampNeg))).toNatClampNeg) (T.2.1 105 10)) 112 (v2.toNatClampNeg) ((T.1 112 (v2.toNatClampNeg)) + (1 : Int32)))) (44 : Int32)) else (vl_X11_readList n).1 (F_X11_next (F_X11_next (tI (tJ T 127 ((((12 : Int32) * v2) + (T.1 112 (v2.toNatClampNeg))).toNatClampNeg) (T.2.1 105 10)) 112 (v2.toNatClampNeg) ((T.1 112 (v2.toNatClampNeg)) + (1 : Int32))))) v2 (v_X11_is (F_X11_next (tI (tJ T 127 ((((12 : Int32) * v2) + (T.1 112 (v2.toNatClampNeg))).toNatClampNeg) (T.2.1 105 10)) 112 (v2.toNatClampNeg) ((T.1 112 (v2.toNatClampNeg)) + (1 : Int32)))) (44 : Int32)))) := rfl
theorem okl_X11_readList_s3 (n sz : Nat) (T : tT)  (v2 : Int32) : (okl_X11_readList (n + 1)).2.2.2 sz T v2 = ((¬ (v_X11_isGood T) = 0 → (vp_in v2 240 ∧ (vp_in (((12 : Int32) * v2) + (T.1 112 (v2.toNatClampNeg))) 2880 ∧ (vp_in v2 240 ∧ (vp_in v2 240 ∧ (ok_X11_next sz (tI (tJ T 127 ((((12 : Int32) * v2) + (T.1 112 (v2.toNatClampNeg))).toNatClampNeg) (T.2.1 105 10)) 112 (v2.toNatClampNeg) ((T.1 112 (v2.toNatClampNeg)) + (1 : Int32))) ∧ (ok_X11_is sz (F_X11_next (tI (tJ T 127 ((((12 : Int32) * v2) + (T.1 112 (v2.toNatClampNeg))).toNatClampNeg) (T.2.1 105 10)) 112 (v2.toNatClampNeg) ((T.1 112 (v2.toNatClampNeg)) + (1 : Int32)))) (44 : Int32) ∧ (((v_X11_is (F_X11_next (tI (tJ T 127 ((((12 : Int32) * v2) + (T.1 112 (v2.toNatClampNeg))).toNatClampNeg) (T.2.1 105 10)) 112 (v2.toNatClampNeg) ((T.1 112 (v2.toNatClampNeg)) + (1 : Int32)))) (44 : Int32)) = 0 → (okl_X11_readList n).1 sz (F_X11_next (tI (tJ T 127 ((((12 : Int32) * v2) + (T.1 112 (v2.toNatClampNeg))).toNatClampNeg) (T.2.1 105 10)) 112 (v2.toNatClampNeg) ((T.1 112 (v2.toNatClampNeg)) + (1 : Int32)))) v2 (v_X11_is (F_X11_next (tI (tJ T 127 ((((12 : Int32) * v2) + (T.1 112 (v2.toNatClampNeg))).toNatClampNeg) (T.2.1 105 10)) 112 (v2.toNatClampNeg) ((T.1 112 (v2.toNatClampNeg)) + (1 : Int32)))) (44 : Int32))) ∧ (¬ (v_X11_is (F_X11_next (tI (tJ T 127 ((((12 : Int32) * v2) + (T.1 112 (v2.toNatClampNeg))).toNatClampNeg) (T.2.1 105 10)) 112 (v2.toNatClampNeg) ((T.1 112 (v2.toNatClampNeg)) + (1 : Int32)))) (44 : Int32)) = 0 → (ok_X11_next sz (F_X11_next (tI (tJ T 127 ((((12 : Int32) * v2) + (T.1 112 (v2.toNatClampNeg))).toNatClampNeg) (T.2.1 105 10)) 112 (v2.toNatClampNeg) ((T.1 112 (v2.toNatClampNeg)) + (1 : Int32)))) ∧ (okl_X11_readList n).1 sz (F_X11_next (F_X11_next (tI (tJ T 127 ((((12 : Int32) * v2) + (T.1 112 (v2.toNatClampNeg))).toNatClampNeg) (T.2.1 105 10)) 112 (v2.toNatClampNeg) ((T.1 112 (v2.toNatClampNeg)) + (1 : Int32))))) v2 (v_X11_is (F_X11_next (tI (tJ T 127 ((((12 : Int32) * v2) + (T.1 112 (v2.toNatClampNeg))).toNatClampNeg) (T.2.1 105 10)) 112 (v2.toNatClampNeg) ((T.1 112 (v2.toNatClampNeg)) + (1 : Int32)))) (44 : Int32)))))))))))) ∧ ((v_X11_isGood T) = 0 → True)) := rfl
set_option maxRecDepth 10000 in
set_option maxHeartbeats 1000000 in
theorem lj_X11_readList {X : ax_X} {d L sz : Nat} {Q : tT → Prop} (hX : ax_ok X mX11_readList (d + 4)) (hsz : 161 ≤ sz) (hR : ax_Ret X mX11_readList (tv L sz Q)) : ∀ n : Nat, (∀ (T : tT)  (v2 : Int32) (v3 : Int32), (okl_X11_readList n).1 sz T v2 v3 → Q ((vl_X11_readList n).1 T v2 v3) → ax_j X 60 [some (.ref 105), none, some (.int v2), some (.int v3)] [] (th L sz T) 0 0) ∧ (∀ (T : tT)  (v2 : Int32), (okl_X11_readList n).2.1 sz T v2 → Q ((vl_X11_readList n).2.1 T v2) → ax_j X 90 [some (.ref 105), none, some (.int v2), none] [] (th L sz T) 0 0) ∧ (∀ (T : tT)  (v2 : Int32), (okl_X11_readList n).2.2.1 sz T v2 → Q ((vl_X11_readList n).2.2.1 T v2) → ax_j X 94 [some (.ref 105), none, some (.int v2), none] [] (th L sz T) 0 0) ∧ (∀ (T : tT)  (v2 : Int32), (okl_X11_readList n).2.2.2 sz T v2 → Q ((vl_X11_readList n).2.2.2 T v2) → ax_j X 122 [some (.ref 105), none, some (.int v2), none] [] (th L sz T) 0 0) := by
  intro n
  induction n with
  | zero => exact ⟨(by intros; rename_i ok _; exact False.elim ok), (by intros; rename_i ok _; exact False.elim ok), (by intros; rename_i ok _; exact False.elim ok), (by intros; rename_i ok _; exact False.elim ok)⟩
  | succ n ih =>
    refine ⟨?_, ?_, ?_, ?_⟩
    · intro T  v2 v3 ok hq
      refine s_X11_readList_60 hX hR hsz   v2 v3 ?_
      rw [okl_X11_readList_s0] at ok
      refine ⟨fun kq0 => ?_, fun kq0 => ?_⟩
      · replace ok := ok.1 kq0
        have z := hq; rw [vl_X11_readList_s0, if_pos kq0] at z; exact z
      · replace ok := ok.2 kq0
        refine ⟨_, c_X11_isGood hsz   , ?_⟩
        rintro _ _ ⟨rfl, rfl⟩
        refine ⟨fun kq1 => ?_, fun kq1 => ?_⟩
        · replace ok := ok.1 kq1
          have z := hq; rw [vl_X11_readList_s0, if_neg kq0, if_pos kq1] at z; exact z
        · replace ok := ok.2 kq1
          refine ⟨fun kq2 => ?_, fun kq2 => ?_⟩
          · replace ok := ok.1 kq2
            have z := hq; rw [vl_X11_readList_s0, if_neg kq0, if_neg kq1, if_neg kq2] at z; exact ih.2.1 _  v2 ok z
          · replace ok := ok.2 kq2
            refine ⟨ok.1, ?_⟩
            replace ok := ok.2
            refine ⟨fun kq3 => ?_, fun kq3 => ?_⟩
            · replace ok := ok.1 kq3
              have z := hq; rw [vl_X11_readList_s0, if_neg kq0, if_neg kq1, if_pos kq2, if_neg kq3] at z; exact ih.2.2.1 _  v2 ok z
            · replace ok := ok.2 kq3
              have z := hq; rw [vl_X11_readList_s0, if_neg kq0, if_neg kq1, if_pos kq2, if_pos kq3] at z; exact ih.2.1 _  v2 ok z
    · intro T  v2 ok hq
      refine s_X11_readList_90 hX hR hsz   v2 ?_
      rw [okl_X11_readList_s1] at ok
      refine ⟨_, c_X11_wrong hsz   , ?_⟩
      rintro _ rfl
      have z := hq; rw [vl_X11_readList_s1] at z; exact ih.2.2.1 _  v2 ok z
    · intro T  v2 ok hq
      refine s_X11_readList_94 hX hR hsz   v2 ?_
      rw [okl_X11_readList_s2] at ok
      refine ⟨_, c_X11_isGood hsz   , ?_⟩
      rintro _ _ ⟨rfl, rfl⟩
      refine ⟨fun kq0 => ?_, fun kq0 => ?_⟩
      · replace ok := ok.1 kq0
        have z := hq; rw [vl_X11_readList_s2, if_pos kq0] at z; exact ih.2.2.2 _  v2 ok z
      · replace ok := ok.2 kq0
        refine ⟨_, c_X11_hasPiece hsz  v2 (T.2.1 105 10) ok.1, ?_⟩
        rintro _ _ ⟨rfl, rfl⟩
        replace ok := ok.2
        refine ⟨fun kq1 => ?_, fun kq1 => ?_⟩
        · replace ok := ok.1 kq1
          have z := hq; rw [vl_X11_readList_s2, if_neg kq0, if_pos kq1] at z; exact ih.2.2.2 _  v2 ok z
        · replace ok := ok.2 kq1
          refine ⟨_, c_X11_fails hsz  (3 : Int32) (T.1 105 6) , ?_⟩
          rintro _ rfl
          have z := hq; rw [vl_X11_readList_s2, if_neg kq0, if_neg kq1] at z; exact ih.2.2.2 _  v2 ok z
    · intro T  v2 ok hq
      refine s_X11_readList_122 hX hR hsz   v2 ?_
      rw [okl_X11_readList_s3] at ok
      refine ⟨_, c_X11_isGood hsz   , ?_⟩
      rintro _ _ ⟨rfl, rfl⟩
      refine ⟨fun kq0 => ?_, fun kq0 => ?_⟩
      · replace ok := ok.1 kq0
        refine ⟨ok.1, ?_⟩
        replace ok := ok.2
        refine ⟨ok.1, ?_⟩
        replace ok := ok.2
        refine ⟨ok.1, ?_⟩
        replace ok := ok.2
        refine ⟨ok.1, ?_⟩
        replace ok := ok.2
        refine ⟨_, c_X11_next hsz   ok.1, ?_⟩
        rintro _ rfl
        replace ok := ok.2
        refine ⟨_, c_X11_is hsz  (44 : Int32) ok.1, ?_⟩
        rintro _ _ ⟨rfl, rfl⟩
        replace ok := ok.2
        refine ⟨fun kq1 => ?_, fun kq1 => ?_⟩
        · replace ok := ok.1 kq1
          have z := hq; rw [vl_X11_readList_s3, if_neg kq0, if_pos kq1] at z; exact ih.1 _  v2 (v_X11_is (F_X11_next (tI (tJ T 127 ((((12 : Int32) * v2) + (T.1 112 (v2.toNatClampNeg))).toNatClampNeg) (T.2.1 105 10)) 112 (v2.toNatClampNeg) ((T.1 112 (v2.toNatClampNeg)) + (1 : Int32)))) (44 : Int32)) ok z
        · replace ok := ok.2 kq1
          refine ⟨_, c_X11_next hsz   ok.1, ?_⟩
          rintro _ rfl
          replace ok := ok.2
          have z := hq; rw [vl_X11_readList_s3, if_neg kq0, if_neg kq1] at z; exact ih.1 _  v2 (v_X11_is (F_X11_next (tI (tJ T 127 ((((12 : Int32) * v2) + (T.1 112 (v2.toNatClampNeg))).toNatClampNeg) (T.2.1 105 10)) 112 (v2.toNatClampNeg) ((T.1 112 (v2.toNatClampNeg)) + (1 : Int32)))) (44 : Int32)) ok z
      · replace ok := ok.2 kq0
        have z := hq; rw [vl_X11_readList_s3, if_pos kq0] at z; exact z
noncomputable def F_X11_readList (T : tT)  (x0 : Int32) : tT := (if (F_X11_canName T x0).1 = 0 then (F_X11_canName T x0).2 else (vl_X11_readList fu).1 (F_X11_must (F_X11_next (tI (tI (tJ (F_X11_canName T x0).2 126 ((((6 : Int32) * x0) + ((F_X11_canName T x0).2.1 111 (x0.toNatClampNeg))).toNatClampNeg) ((F_X11_canName T x0).2.2.1 105 10)) 112 ((((6 : Int32) * x0) + ((F_X11_canName T x0).2.1 111 (x0.toNatClampNeg))).toNatClampNeg) (0 : Int32)) 111 (x0.toNatClampNeg) (((F_X11_canName T x0).2.1 111 (x0.toNatClampNeg)) + (1 : Int32)))) (61 : Int32)) (((6 : Int32) * x0) + ((F_X11_canName T x0).2.1 111 (x0.toNatClampNeg))) (1 : Int32))
noncomputable def ok_X11_readList (sz : Nat) (T : tT)  (x0 : Int32) : Prop := (ok_X11_canName sz T x0 ∧ ((¬ (F_X11_canName T x0).1 = 0 → (vp_in x0 40 ∧ (vp_in (((6 : Int32) * x0) + ((F_X11_canName T x0).2.1 111 (x0.toNatClampNeg))) 240 ∧ (vp_in (((6 : Int32) * x0) + ((F_X11_canName T x0).2.1 111 (x0.toNatClampNeg))) 240 ∧ (vp_in x0 40 ∧ (vp_in x0 40 ∧ (ok_X11_next sz (tI (tI (tJ (F_X11_canName T x0).2 126 ((((6 : Int32) * x0) + ((F_X11_canName T x0).2.1 111 (x0.toNatClampNeg))).toNatClampNeg) ((F_X11_canName T x0).2.2.1 105 10)) 112 ((((6 : Int32) * x0) + ((F_X11_canName T x0).2.1 111 (x0.toNatClampNeg))).toNatClampNeg) (0 : Int32)) 111 (x0.toNatClampNeg) (((F_X11_canName T x0).2.1 111 (x0.toNatClampNeg)) + (1 : Int32))) ∧ (ok_X11_must sz (F_X11_next (tI (tI (tJ (F_X11_canName T x0).2 126 ((((6 : Int32) * x0) + ((F_X11_canName T x0).2.1 111 (x0.toNatClampNeg))).toNatClampNeg) ((F_X11_canName T x0).2.2.1 105 10)) 112 ((((6 : Int32) * x0) + ((F_X11_canName T x0).2.1 111 (x0.toNatClampNeg))).toNatClampNeg) (0 : Int32)) 111 (x0.toNatClampNeg) (((F_X11_canName T x0).2.1 111 (x0.toNatClampNeg)) + (1 : Int32)))) (61 : Int32) ∧ (okl_X11_readList fu).1 sz (F_X11_must (F_X11_next (tI (tI (tJ (F_X11_canName T x0).2 126 ((((6 : Int32) * x0) + ((F_X11_canName T x0).2.1 111 (x0.toNatClampNeg))).toNatClampNeg) ((F_X11_canName T x0).2.2.1 105 10)) 112 ((((6 : Int32) * x0) + ((F_X11_canName T x0).2.1 111 (x0.toNatClampNeg))).toNatClampNeg) (0 : Int32)) 111 (x0.toNatClampNeg) (((F_X11_canName T x0).2.1 111 (x0.toNatClampNeg)) + (1 : Int32)))) (61 : Int32)) (((6 : Int32) * x0) + ((F_X11_canName T x0).2.1 111 (x0.toNatClampNeg))) (1 : Int32))))))))) ∧ ((F_X11_canName T x0).1 = 0 → True)))
set_option maxRecDepth 10000 in
theorem c_X11_readList {d L sz : Nat} {T : tT} (hsz : 161 ≤ sz) (x0 : Int32) (ok : ok_X11_readList sz T x0) : tvK (d + 4) mX11_readList [.ref 105, .int x0] L sz T (fun T' => T' = F_X11_readList T x0) := by
  refine k_X11_readList hsz  x0 (fun X hX hR => ?_)
  unfold ok_X11_readList at ok
  refine ⟨_, c_X11_canName hsz  x0 ok.1, ?_⟩
  rintro _ _ ⟨rfl, rfl⟩
  replace ok := ok.2
  refine ⟨fun kq0 => ?_, fun kq0 => ?_⟩
  · replace ok := ok.1 kq0
    refine ⟨ok.1, ?_⟩
    replace ok := ok.2
    refine ⟨ok.1, ?_⟩
    replace ok := ok.2
    refine ⟨ok.1, ?_⟩
    replace ok := ok.2
    refine ⟨ok.1, ?_⟩
    replace ok := ok.2
    refine ⟨ok.1, ?_⟩
    replace ok := ok.2
    refine ⟨_, c_X11_next hsz   ok.1, ?_⟩
    rintro _ rfl
    replace ok := ok.2
    refine ⟨_, c_X11_must hsz  (61 : Int32) ok.1, ?_⟩
    rintro _ rfl
    replace ok := ok.2
    exact (lj_X11_readList hX hsz  hR _).1 _  (((6 : Int32) * x0) + ((F_X11_canName T x0).2.1 111 (x0.toNatClampNeg))) (1 : Int32) ok (by unfold F_X11_readList; first | (rw [if_neg kq0]; done) | (rw [if_neg kq0]; rfl))
  · replace ok := ok.2 kq0
    exact (by unfold F_X11_readList; first | (rw [if_pos kq0]; done) | (rw [if_pos kq0]; rfl))
noncomputable def vl_X11_solve : Nat → (tT → Int32 → Int32 → (Int32 × tT)) × (tT → Int32 → Int32 → (Int32 × tT)) × (tT → Int32 → Int32 → Int32 → (Int32 × tT)) × (tT → Int32 → Int32 → Int32 → (Int32 × tT)) × (tT → Int32 → Int32 → Int32 → Int32 → Int32 → (Int32 × tT))
  | 0 => ((fun (T : tT)  (v1 : Int32) (v2 : Int32) => (0, T)), (fun (T : tT)  (v1 : Int32) (v2 : Int32) => (0, T)), (fun (T : tT)  (v1 : Int32) (v2 : Int32) (v3 : Int32) => (0, T)), (fun (T : tT)  (v1 : Int32) (v2 : Int32) (v3 : Int32) => (0, T)), (fun (T : tT)  (v1 : Int32) (v2 : Int32) (v3 : Int32) (v4 : Int32) (v5 : Int32) => (0, T)))
  | n + 1 => ((fun (T : tT)  (v1 : Int32) (v2 : Int32) => (if v1 ≤ v2 then (vl_X11_solve n).2.1 T v1 (0 : Int32) else (if v2 = 0 then (vl_X11_solve n).1 (tI T 148 (v2.toNatClampNeg) (0 : Int32)) v1 (v2 + (1 : Int32)) else (vl_X11_solve n).1 (tI T 148 (v2.toNatClampNeg) (1000000 : Int32)) v1 (v2 + (1 : Int32))))), (fun (T : tT)  (v1 : Int32) (v2 : Int32) => (if (T.1 105 57) ≤ v2 then ((T.1 148 ((((512 : Int32) * (T.1 105 57)) + v1) - (1 : Int32)).toNatClampNeg), T) else (vl_X11_solve n).2.2.1 T v1 v2 (0 : Int32))), (fun (T : tT)  (v1 : Int32) (v2 : Int32) (v3 : Int32) => (if v1 ≤ v3 then (vl_X11_solve n).2.2.2.1 T v1 v2 (0 : Int32) else (vl_X11_solve n).2.2.1 (tI T 148 ((((512 : Int32) * (v2 + (1 : Int32))) + v3).toNatClampNeg) (1000000 : Int32)) v1 v2 (v3 + (1 : Int32)))), (fun (T : tT)  (v1 : Int32) (v2 : Int32) (v3 : Int32) => (if v1 ≤ v3 then (vl_X11_solve n).2.1 T v1 (v2 + (1 : Int32)) else (if (1000000 : Int32) ≤ (T.1 147 (((512 : Int32) * v2) + v3).toNatClampNeg) then (vl_X11_solve n).2.2.2.1 T v1 v2 (v3 + (1 : Int32)) else (if (v_X11_agrees T v2 v3) = 0 then (vl_X11_solve n).2.2.2.1 T v1 v2 (v3 + (1 : Int32)) else (vl_X11_solve n).2.2.2.2 T v1 v2 v3 ((v1 - (1 : Int32)) &&& (v3 ^^^ (-1 : Int32))) ((v1 - (1 : Int32)) &&& (v3 ^^^ (-1 : Int32))))))), (fun (T : tT)  (v1 : Int32) (v2 : Int32) (v3 : Int32) (v4 : Int32) (v5 : Int32) => (if v5 < 0 then (vl_X11_solve n).2.2.2.1 T v1 v2 (v3 + (1 : Int32)) else (if (T.1 148 (((512 : Int32) * (v2 + (1 : Int32))) + (v5 ||| v3)).toNatClampNeg) ≤ ((T.1 148 (((512 : Int32) * v2) + v5).toNatClampNeg) + (T.1 147 (((512 : Int32) * v2) + v3).toNatClampNeg)) then (if v5 = 0 then (vl_X11_solve n).2.2.2.2 T v1 v2 v3 v4 (-1 : Int32) else (vl_X11_solve n).2.2.2.2 T v1 v2 v3 v4 ((v5 - (1 : Int32)) &&& v4)) else (if v5 = 0 then (vl_X11_solve n).2.2.2.2 (tI T 148 ((((512 : Int32) * (v2 + (1 : Int32))) + (v5 ||| v3)).toNatClampNeg) ((T.1 148 (((512 : Int32) * v2) + v5).toNatClampNeg) + (T.1 147 (((512 : Int32) * v2) + v3).toNatClampNeg))) v1 v2 v3 v4 (-1 : Int32) else (vl_X11_solve n).2.2.2.2 (tI T 148 ((((512 : Int32) * (v2 + (1 : Int32))) + (v5 ||| v3)).toNatClampNeg) ((T.1 148 (((512 : Int32) * v2) + v5).toNatClampNeg) + (T.1 147 (((512 : Int32) * v2) + v3).toNatClampNeg))) v1 v2 v3 v4 ((v5 - (1 : Int32)) &&& v4))))))
noncomputable def okl_X11_solve : Nat → (Nat → tT → Int32 → Int32 → Prop) × (Nat → tT → Int32 → Int32 → Prop) × (Nat → tT → Int32 → Int32 → Int32 → Prop) × (Nat → tT → Int32 → Int32 → Int32 → Prop) × (Nat → tT → Int32 → Int32 → Int32 → Int32 → Int32 → Prop)
  | 0 => ((fun (sz : Nat) (T : tT)  (v1 : Int32) (v2 : Int32) => False), (fun (sz : Nat) (T : tT)  (v1 : Int32) (v2 : Int32) => False), (fun (sz : Nat) (T : tT)  (v1 : Int32) (v2 : Int32) (v3 : Int32) => False), (fun (sz : Nat) (T : tT)  (v1 : Int32) (v2 : Int32) (v3 : Int32) => False), (fun (sz : Nat) (T : tT)  (v1 : Int32) (v2 : Int32) (v3 : Int32) (v4 : Int32) (v5 : Int32) => False))
  | n + 1 => ((fun (sz : Nat) (T : tT)  (v1 : Int32) (v2 : Int32) => ((v1 ≤ v2 → (okl_X11_solve n).2.1 sz T v1 (0 : Int32)) ∧ (¬ v1 ≤ v2 → ((¬ v2 = 0 → (vp_in v2 3072 ∧ (okl_X11_solve n).1 sz (tI T 148 (v2.toNatClampNeg) (1000000 : Int32)) v1 (v2 + (1 : Int32)))) ∧ (v2 = 0 → (vp_in v2 3072 ∧ (okl_X11_solve n).1 sz (tI T 148 (v2.toNatClampNeg) (0 : Int32)) v1 (v2 + (1 : Int32)))))))), (fun (sz : Nat) (T : tT)  (v1 : Int32) (v2 : Int32) => (((T.1 105 57) ≤ v2 → vp_in ((((512 : Int32) * (T.1 105 57)) + v1) - (1 : Int32)) 3072) ∧ (¬ (T.1 105 57) ≤ v2 → (okl_X11_solve n).2.2.1 sz T v1 v2 (0 : Int32)))), (fun (sz : Nat) (T : tT)  (v1 : Int32) (v2 : Int32) (v3 : Int32) => ((v1 ≤ v3 → (okl_X11_solve n).2.2.2.1 sz T v1 v2 (0 : Int32)) ∧ (¬ v1 ≤ v3 → (vp_in (((512 : Int32) * (v2 + (1 : Int32))) + v3) 3072 ∧ (okl_X11_solve n).2.2.1 sz (tI T 148 ((((512 : Int32) * (v2 + (1 : Int32))) + v3).toNatClampNeg) (1000000 : Int32)) v1 v2 (v3 + (1 : Int32)))))), (fun (sz : Nat) (T : tT)  (v1 : Int32) (v2 : Int32) (v3 : Int32) => ((v1 ≤ v3 → (okl_X11_solve n).2.1 sz T v1 (v2 + (1 : Int32))) ∧ (¬ v1 ≤ v3 → (vp_in (((512 : Int32) * v2) + v3) 2560 ∧ (((1000000 : Int32) ≤ (T.1 147 (((512 : Int32) * v2) + v3).toNatClampNeg) → (okl_X11_solve n).2.2.2.1 sz T v1 v2 (v3 + (1 : Int32))) ∧ (¬ (1000000 : Int32) ≤ (T.1 147 (((512 : Int32) * v2) + v3).toNatClampNeg) → (ok_X11_agrees sz T v2 v3 ∧ ((¬ (v_X11_agrees T v2 v3) = 0 → (okl_X11_solve n).2.2.2.2 sz T v1 v2 v3 ((v1 - (1 : Int32)) &&& (v3 ^^^ (-1 : Int32))) ((v1 - (1 : Int32)) &&& (v3 ^^^ (-1 : Int32)))) ∧ ((v_X11_agrees T v2 v3) = 0 → (okl_X11_solve n).2.2.2.1 sz T v1 v2 (v3 + (1 : Int32))))))))))), (fun (sz : Nat) (T : tT)  (v1 : Int32) (v2 : Int32) (v3 : Int32) (v4 : Int32) (v5 : Int32) => ((v5 < 0 → (okl_X11_solve n).2.2.2.1 sz T v1 v2 (v3 + (1 : Int32))) ∧ (¬ v5 < 0 → (vp_in (((512 : Int32) * v2) + v5) 3072 ∧ (vp_in (((512 : Int32) * v2) + v3) 2560 ∧ (vp_in (((512 : Int32) * (v2 + (1 : Int32))) + (v5 ||| v3)) 3072 ∧ (((T.1 148 (((512 : Int32) * (v2 + (1 : Int32))) + (v5 ||| v3)).toNatClampNeg) ≤ ((T.1 148 (((512 : Int32) * v2) + v5).toNatClampNeg) + (T.1 147 (((512 : Int32) * v2) + v3).toNatClampNeg)) → ((¬ v5 = 0 → (okl_X11_solve n).2.2.2.2 sz T v1 v2 v3 v4 ((v5 - (1 : Int32)) &&& v4)) ∧ (v5 = 0 → (okl_X11_solve n).2.2.2.2 sz T v1 v2 v3 v4 (-1 : Int32)))) ∧ (¬ (T.1 148 (((512 : Int32) * (v2 + (1 : Int32))) + (v5 ||| v3)).toNatClampNeg) ≤ ((T.1 148 (((512 : Int32) * v2) + v5).toNatClampNeg) + (T.1 147 (((512 : Int32) * v2) + v3).toNatClampNeg)) → (vp_in (((512 : Int32) * (v2 + (1 : Int32))) + (v5 ||| v3)) 3072 ∧ ((¬ v5 = 0 → (okl_X11_solve n).2.2.2.2 sz (tI T 148 ((((512 : Int32) * (v2 + (1 : Int32))) + (v5 ||| v3)).toNatClampNeg) ((T.1 148 (((512 : Int32) * v2) + v5).toNatClampNeg) + (T.1 147 (((512 : Int32) * v2) + v3).toNatClampNeg))) v1 v2 v3 v4 ((v5 - (1 : Int32)) &&& v4)) ∧ (v5 = 0 → (okl_X11_solve n).2.2.2.2 sz (tI T 148 ((((512 : Int32) * (v2 + (1 : Int32))) + (v5 ||| v3)).toNatClampNeg) ((T.1 148 (((512 : Int32) * v2) + v5).toNatClampNeg) + (T.1 147 (((512 : Int32) * v2) + v3).toNatClampNeg))) v1 v2 v3 v4 (-1 : Int32)))))))))))))
theorem vl_X11_solve_s0 (n : Nat) (T : tT)  (v1 : Int32) (v2 : Int32) : (vl_X11_solve (n + 1)).1 T v1 v2 = (if v1 ≤ v2 then (vl_X11_solve n).2.1 T v1 (0 : Int32) else (if v2 = 0 then (vl_X11_solve n).1 (tI T 148 (v2.toNatClampNeg) (0 : Int32)) v1 (v2 + (1 : Int32)) else (vl_X11_solve n).1 (tI T 148 (v2.toNatClampNeg) (1000000 : Int32)) v1 (v2 + (1 : Int32)))) := rfl
theorem okl_X11_solve_s0 (n sz : Nat) (T : tT)  (v1 : Int32) (v2 : Int32) : (okl_X11_solve (n + 1)).1 sz T v1 v2 = ((v1 ≤ v2 → (okl_X11_solve n).2.1 sz T v1 (0 : Int32)) ∧ (¬ v1 ≤ v2 → ((¬ v2 = 0 → (vp_in v2 3072 ∧ (okl_X11_solve n).1 sz (tI T 148 (v2.toNatClampNeg) (1000000 : Int32)) v1 (v2 + (1 : Int32)))) ∧ (v2 = 0 → (vp_in v2 3072 ∧ (okl_X11_solve n).1 sz (tI T 148 (v2.toNatClampNeg) (0 : Int32)) v1 (v2 + (1 : Int32))))))) := rfl
theorem vl_X11_solve_s1 (n : Nat) (T : tT)  (v1 : Int32) (v2 : Int32) : (vl_X11_solve (n + 1)).2.1 T v1 v2 = (if (T.1 105 57) ≤ v2 then ((T.1 148 ((((512 : Int32) * (T.1 105 57)) + v1) - (1 : Int32)).toNatClampNeg), T) else (vl_X11_solve n).2.2.1 T v1 v2 (0 : Int32)) := rfl
theorem okl_X11_solve_s1 (n sz : Nat) (T : tT)  (v1 : Int32) (v2 : Int32) : (okl_X11_solve (n + 1)).2.1 sz T v1 v2 = (((T.1 105 57) ≤ v2 → vp_in ((((512 : Int32) * (T.1 105 57)) + v1) - (1 : Int32)) 3072) ∧ (¬ (T.1 105 57) ≤ v2 → (okl_X11_solve n).2.2.1 sz T v1 v2 (0 : Int32))) := rfl
theorem vl_X11_solve_s2 (n : Nat) (T : tT)  (v1 : Int32) (v2 : Int32) (v3 : Int32) : (vl_X11_solve (n + 1)).2.2.1 T v1 v2 v3 = (if v1 ≤ v3 then (vl_X11_solve n).2.2.2.1 T v1 v2 (0 : Int32) else (vl_X11_solve n).2.2.1 (tI T 148 ((((512 : Int32) * (v2 + (1 : Int32))) + v3).toNatClampNeg) (1000000 : Int32)) v1 v2 (v3 + (1 : Int32))) := rfl
theorem okl_X11_solve_s2 (n sz : Nat) (T : tT)  (v1 : Int32) (v2 : Int32) (v3 : Int32) : (okl_X11_solve (n + 1)).2.2.1 sz T v1 v2 v3 = ((v1 ≤ v3 → (okl_X11_solve n).2.2.2.1 sz T v1 v2 (0 : Int32)) ∧ (¬ v1 ≤ v3 → (vp_in (((512 : Int32) * (v2 + (1 : Int32))) + v3) 3072 ∧ (okl_X11_solve n).2.2.1 sz (tI T 148 ((((512 : Int32) * (v2 + (1 : Int32))) + v3).toNatClampNeg) (1000000 : Int32)) v1 v2 (v3 + (1 : Int32))))) := rfl
theorem vl_X11_solve_s3 (n : Nat) (T : tT)  (v1 : Int32) (v2 : Int32) (v3 : Int32) : (vl_X11_solve (n + 1)).2.2.2.1 T v1 v2 v3 = (if v1 ≤ v3 then (vl_X11_solve n).2.1 T v1 (v2 + (1 : Int32)) else (if (1000000 : Int32) ≤ (T.1 147 (((512 : Int32) * v2) + v3).toNatClampNeg) then (vl_X11_solve n).2.2.2.1 T v1 v2 (v3 + (1 : Int32)) else (if (v_X11_agrees T v2 v3) = 0 then (vl_X11_solve n).2.2.2.1 T v1 v2 (v3 + (1 : Int32)) else (vl_X11_solve n).2.2.2.2 T v1 v2 v3 ((v1 - (1 : Int32)) &&& (v3 ^^^ (-1 : Int32))) ((v1 - (1 : Int32)) &&& (v3 ^^^ (-1 : Int32)))))) := rfl
theorem okl_X11_solve_s3 (n sz : Nat) (T : tT)  (v1 : Int32) (v2 : Int32) (v3 : Int32) : (okl_X11_solve (n + 1)).2.2.2.1 sz T v1 v2 v3 = ((v1 ≤ v3 → (okl_X11_solve n).2.1 sz T v1 (v2 + (1 : Int32))) ∧ (¬ v1 ≤ v3 → (vp_in (((512 : Int32) * v2) + v3) 2560 ∧ (((1000000 : Int32) ≤ (T.1 147 (((512 : Int32) * v2) + v3).toNatClampNeg) → (okl_X11_solve n).2.2.2.1 sz T v1 v2 (v3 + (1 : Int32))) ∧ (¬ (1000000 : Int32) ≤ (T.1 147 (((512 : Int32) * v2) + v3).toNatClampNeg) → (ok_X11_agrees sz T v2 v3 ∧ ((¬ (v_X11_agrees T v2 v3) = 0 → (okl_X11_solve n).2.2.2.2 sz T v1 v2 v3 ((v1 - (1 : Int32)) &&& (v3 ^^^ (-1 : Int32))) ((v1 - (1 : Int32)) &&& (v3 ^^^ (-1 : Int32)))) ∧ ((v_X11_agrees T v2 v3) = 0 → (okl_X11_solve n).2.2.2.1 sz T v1 v2 (v3 + (1 : Int32)))))))))) := rfl
theorem vl_X11_solve_s4 (n : Nat) (T : tT)  (v1 : Int32) (v2 : Int32) (v3 : Int32) (v4 : Int32) (v5 : Int32) : (vl_X11_solve (n + 1)).2.2.2.2 T v1 v2 v3 v4 v5 = (if v5 < 0 then (vl_X11_solve n).2.2.2.1 T v1 v2 (v3 + (1 : Int32)) else (if (T.1 148 (((512 : Int32) * (v2 + (1 : Int32))) + (v5 ||| v3)).toNatClampNeg) ≤ ((T.1 148 (((512 : Int32) * v2) + v5).toNatClampNeg) + (T.1 147 (((512 : Int32) * v2) + v3).toNatClampNeg)) then (if v5 = 0 then (vl_X11_solve n).2.2.2.2 T v1 v2 v3 v4 (-1 : Int32) else (vl_X11_solve n).2.2.2.2 T v1 v2 v3 v4 ((v5 - (1 : Int32)) &&& v4)) else (if v5 = 0 then (vl_X11_solve n).2.2.2.2 (tI T 148 ((((512 : Int32) * (v2 + (1 : Int32))) + (v5 ||| v3)).toNatClampNeg) ((T.1 148 (((512 : Int32) * v2) + v5).toNatClampNeg) + (T.1 147 (((512 : Int32) * v2) + v3).toNatClampNeg))) v1 v2 v3 v4 (-1 : Int32) else (vl_X11_solve n).2.2.2.2 (tI T 148 ((((512 : Int32) * (v2 + (1 : Int32))) + (v5 ||| v3)).toNatClampNeg) ((T.1 148 (((512 : Int32) * v2) + v5).toNatClampNeg) + (T.1 147 (((512 : Int32) * v2) + v3).toNatClampNeg))) v1 v2 v3 v4 ((v5 - (1 : Int32)) &&& v4)))) := rfl
theorem okl_X11_solve_s4 (n sz : Nat) (T : tT)  (v1 : Int32) (v2 : Int32) (v3 : Int32) (v4 : Int32) (v5 : Int32) : (okl_X11_solve (n + 1)).2.2.2.2 sz T v1 v2 v3 v4 v5 = ((v5 < 0 → (okl_X11_solve n).2.2.2.1 sz T v1 v2 (v3 + (1 : Int32))) ∧ (¬ v5 < 0 → (vp_in (((512 : Int32) * v2) + v5) 3072 ∧ (vp_in (((512 : Int32) * v2) + v3) 2560 ∧ (vp_in (((512 : Int32) * (v2 + (1 : Int32))) + (v5 ||| v3)) 3072 ∧ (((T.1 148 (((512 : Int32) * (v2 + (1 : Int32))) + (v5 ||| v3)).toNatClampNeg) ≤ ((T.1 148 (((512 : Int32) * v2) + v5).toNatClampNeg) + (T.1 147 (((512 : Int32) * v2) + v3).toNatClampNeg)) → ((¬ v5 = 0 → (okl_X11_solve n).2.2.2.2 sz T v1 v2 v3 v4 ((v5 - (1 : Int32)) &&& v4)) ∧ (v5 = 0 → (okl_X11_solve n).2.2.2.2 sz T v1 v2 v3 v4 (-1 : Int32)))) ∧ (¬ (T.1 148 (((512 : Int32) * (v2 + (1 : Int32))) + (v5 ||| v3)).toNatClampNeg) ≤ ((T.1 148 (((512 : Int32) * v2) + v5).toNatClampNeg) + (T.1 147 (((512 : Int32) * v2) + v3).toNatClampNeg)) → (vp_in (((512 : Int32) * (v2 + (1 : Int32))) + (v5 ||| v3)) 3072 ∧ ((¬ v5 = 0 → (okl_X11_solve n).2.2.2.2 sz (tI T 148 ((((512 : Int32) * (v2 + (1 : Int32))) + (v5 ||| v3)).toNatClampNeg) ((T.1 148 (((512 : Int32) * v2) + v5).toNatClampNeg) + (T.1 147 (((512 : Int32) * v2) + v3).toNatClampNeg))) v1 v2 v3 v4 ((v5 - (1 : Int32)) &&& v4)) ∧ (v5 = 0 → (okl_X11_solve n).2.2.2.2 sz (tI T 148 ((((512 : Int32) * (v2 + (1 : Int32))) + (v5 ||| v3)).toNatClampNeg) ((T.1 148 (((512 : Int32) * v2) + v5).toNatClampNeg) + (T.1 147 (((512 : Int32) * v2) + v3).toNatClampNeg))) v1 v2 v3 v4 (-1 : Int32))))))))))) := rfl
set_option maxRecDepth 10000 in
set_option maxHeartbeats 1000000 in
theorem lj_X11_solve {X : ax_X} {d L sz : Nat} {Q : Int32 → tT → Prop} (hX : ax_ok X mX11_solve (d + 1)) (hsz : 161 ≤ sz) (hR : ax_Ret X mX11_solve (ti L sz Q)) : ∀ n : Nat, (∀ (T : tT)  (v1 : Int32) (v2 : Int32), (okl_X11_solve n).1 sz T v1 v2 → Q ((vl_X11_solve n).1 T v1 v2).1 ((vl_X11_solve n).1 T v1 v2).2 → ax_j X 9 [some (.ref 105), some (.int v1), some (.int v2), none, none, none, none] [] (th L sz T) 0 0) ∧ (∀ (T : tT)  (v1 : Int32) (v2 : Int32), (okl_X11_solve n).2.1 sz T v1 v2 → Q ((vl_X11_solve n).2.1 T v1 v2).1 ((vl_X11_solve n).2.1 T v1 v2).2 → ax_j X 39 [some (.ref 105), some (.int v1), some (.int v2), none, none, none, none] [] (th L sz T) 0 0) ∧ (∀ (T : tT)  (v1 : Int32) (v2 : Int32) (v3 : Int32), (okl_X11_solve n).2.2.1 sz T v1 v2 v3 → Q ((vl_X11_solve n).2.2.1 T v1 v2 v3).1 ((vl_X11_solve n).2.2.1 T v1 v2 v3).2 → ax_j X 49 [some (.ref 105), some (.int v1), some (.int v2), some (.int v3), none, none, none] [] (th L sz T) 0 0) ∧ (∀ (T : tT)  (v1 : Int32) (v2 : Int32) (v3 : Int32), (okl_X11_solve n).2.2.2.1 sz T v1 v2 v3 → Q ((vl_X11_solve n).2.2.2.1 T v1 v2 v3).1 ((vl_X11_solve n).2.2.2.1 T v1 v2 v3).2 → ax_j X 79 [some (.ref 105), some (.int v1), some (.int v2), some (.int v3), none, none, none] [] (th L sz T) 0 0) ∧ (∀ (T : tT)  (v1 : Int32) (v2 : Int32) (v3 : Int32) (v4 : Int32) (v5 : Int32), (okl_X11_solve n).2.2.2.2 sz T v1 v2 v3 v4 v5 → Q ((vl_X11_solve n).2.2.2.2 T v1 v2 v3 v4 v5).1 ((vl_X11_solve n).2.2.2.2 T v1 v2 v3 v4 v5).2 → ax_j X 127 [some (.ref 105), some (.int v1), some (.int v2), some (.int v3), some (.int v4), some (.int v5), none] [] (th L sz T) 0 0) := by
  intro n
  induction n with
  | zero => exact ⟨(by intros; rename_i ok _; exact False.elim ok), (by intros; rename_i ok _; exact False.elim ok), (by intros; rename_i ok _; exact False.elim ok), (by intros; rename_i ok _; exact False.elim ok), (by intros; rename_i ok _; exact False.elim ok)⟩
  | succ n ih =>
    refine ⟨?_, ?_, ?_, ?_, ?_⟩
    · intro T  v1 v2 ok hq
      refine s_X11_solve_9 hX hR hsz   v1 v2 ?_
      rw [okl_X11_solve_s0] at ok
      refine ⟨fun kq0 => ?_, fun kq0 => ?_⟩
      · replace ok := ok.1 kq0
        have z := hq; rw [vl_X11_solve_s0, if_pos kq0] at z; exact ih.2.1 _  v1 (0 : Int32) ok z
      · replace ok := ok.2 kq0
        refine ⟨fun kq1 => ?_, fun kq1 => ?_⟩
        · replace ok := ok.1 kq1
          refine ⟨ok.1, ?_⟩
          replace ok := ok.2
          have z := hq; rw [vl_X11_solve_s0, if_neg kq0, if_neg kq1] at z; exact ih.1 _  v1 (v2 + (1 : Int32)) ok z
        · replace ok := ok.2 kq1
          refine ⟨ok.1, ?_⟩
          replace ok := ok.2
          have z := hq; rw [vl_X11_solve_s0, if_neg kq0, if_pos kq1] at z; exact ih.1 _  v1 (v2 + (1 : Int32)) ok z
    · intro T  v1 v2 ok hq
      refine s_X11_solve_39 hX hR hsz   v1 v2 ?_
      rw [okl_X11_solve_s1] at ok
      refine ⟨fun kq0 => ?_, fun kq0 => ?_⟩
      · replace ok := ok.1 kq0
        refine ⟨ok, ?_⟩
        have z := hq; rw [vl_X11_solve_s1, if_pos kq0] at z; exact z
      · replace ok := ok.2 kq0
        have z := hq; rw [vl_X11_solve_s1, if_neg kq0] at z; exact ih.2.2.1 _  v1 v2 (0 : Int32) ok z
    · intro T  v1 v2 v3 ok hq
      refine s_X11_solve_49 hX hR hsz   v1 v2 v3 ?_
      rw [okl_X11_solve_s2] at ok
      refine ⟨fun kq0 => ?_, fun kq0 => ?_⟩
      · replace ok := ok.1 kq0
        have z := hq; rw [vl_X11_solve_s2, if_pos kq0] at z; exact ih.2.2.2.1 _  v1 v2 (0 : Int32) ok z
      · replace ok := ok.2 kq0
        refine ⟨ok.1, ?_⟩
        replace ok := ok.2
        have z := hq; rw [vl_X11_solve_s2, if_neg kq0] at z; exact ih.2.2.1 _  v1 v2 (v3 + (1 : Int32)) ok z
    · intro T  v1 v2 v3 ok hq
      refine s_X11_solve_79 hX hR hsz   v1 v2 v3 ?_
      rw [okl_X11_solve_s3] at ok
      refine ⟨fun kq0 => ?_, fun kq0 => ?_⟩
      · replace ok := ok.1 kq0
        have z := hq; rw [vl_X11_solve_s3, if_pos kq0] at z; exact ih.2.1 _  v1 (v2 + (1 : Int32)) ok z
      · replace ok := ok.2 kq0
        refine ⟨ok.1, ?_⟩
        replace ok := ok.2
        refine ⟨fun kq1 => ?_, fun kq1 => ?_⟩
        · replace ok := ok.1 kq1
          have z := hq; rw [vl_X11_solve_s3, if_neg kq0, if_pos kq1] at z; exact ih.2.2.2.1 _  v1 v2 (v3 + (1 : Int32)) ok z
        · replace ok := ok.2 kq1
          refine ⟨_, c_X11_agrees hsz  v2 v3 ok.1, ?_⟩
          rintro _ _ ⟨rfl, rfl⟩
          replace ok := ok.2
          refine ⟨fun kq2 => ?_, fun kq2 => ?_⟩
          · replace ok := ok.1 kq2
            have z := hq; rw [vl_X11_solve_s3, if_neg kq0, if_neg kq1, if_neg kq2] at z; exact ih.2.2.2.2 _  v1 v2 v3 ((v1 - (1 : Int32)) &&& (v3 ^^^ (-1 : Int32))) ((v1 - (1 : Int32)) &&& (v3 ^^^ (-1 : Int32))) ok z
          · replace ok := ok.2 kq2
            have z := hq; rw [vl_X11_solve_s3, if_neg kq0, if_neg kq1, if_pos kq2] at z; exact ih.2.2.2.1 _  v1 v2 (v3 + (1 : Int32)) ok z
    · intro T  v1 v2 v3 v4 v5 ok hq
      refine s_X11_solve_127 hX hR hsz   v1 v2 v3 v4 v5 ?_
      rw [okl_X11_solve_s4] at ok
      refine ⟨fun kq0 => ?_, fun kq0 => ?_⟩
      · replace ok := ok.1 kq0
        have z := hq; rw [vl_X11_solve_s4, if_pos kq0] at z; exact ih.2.2.2.1 _  v1 v2 (v3 + (1 : Int32)) ok z
      · replace ok := ok.2 kq0
        refine ⟨ok.1, ?_⟩
        replace ok := ok.2
        refine ⟨ok.1, ?_⟩
        replace ok := ok.2
        refine ⟨ok.1, ?_⟩
        replace ok := ok.2
        refine ⟨fun kq1 => ?_, fun kq1 => ?_⟩
        · replace ok := ok.1 kq1
          refine ⟨fun kq2 => ?_, fun kq2 => ?_⟩
          · replace ok := ok.1 kq2
            have z := hq; rw [vl_X11_solve_s4, if_neg kq0, if_pos kq1, if_neg kq2] at z; exact ih.2.2.2.2 _  v1 v2 v3 v4 ((v5 - (1 : Int32)) &&& v4) ok z
          · replace ok := ok.2 kq2
            have z := hq; rw [vl_X11_solve_s4, if_neg kq0, if_pos kq1, if_pos kq2] at z; exact ih.2.2.2.2 _  v1 v2 v3 v4 (-1 : Int32) ok z
        · replace ok := ok.2 kq1
          refine ⟨ok.1, ?_⟩
          replace ok := ok.2
          refine ⟨fun kq2 => ?_, fun kq2 => ?_⟩
          · replace ok := ok.1 kq2
            have z := hq; rw [vl_X11_solve_s4, if_neg kq0, if_neg kq1, if_neg kq2] at z; exact ih.2.2.2.2 _  v1 v2 v3 v4 ((v5 - (1 : Int32)) &&& v4) ok z
          · replace ok := ok.2 kq2
            have z := hq; rw [vl_X11_solve_s4, if_neg kq0, if_neg kq1, if_pos kq2] at z; exact ih.2.2.2.2 _  v1 v2 v3 v4 (-1 : Int32) ok z
noncomputable def F_X11_solve (T : tT)   : (Int32 × tT) := (vl_X11_solve fu).1 T ((1 : Int32) <<< ((T.1 105 58) &&& 31)) (0 : Int32)
noncomputable def ok_X11_solve (sz : Nat) (T : tT)   : Prop := (okl_X11_solve fu).1 sz T ((1 : Int32) <<< ((T.1 105 58) &&& 31)) (0 : Int32)
set_option maxRecDepth 10000 in
theorem c_X11_solve {d L sz : Nat} {T : tT} (hsz : 161 ≤ sz)  (ok : ok_X11_solve sz T) : tiK (d + 1) mX11_solve [.ref 105] L sz T (fun r T' => r = (F_X11_solve T).1 ∧ T' = (F_X11_solve T).2) := by
  refine k_X11_solve hsz   (fun X hX hR => ?_)
  unfold ok_X11_solve at ok
  exact (lj_X11_solve hX hsz  hR _).1 _  ((1 : Int32) <<< ((T.1 105 58) &&& 31)) (0 : Int32) ok ⟨by unfold F_X11_solve; rfl, by unfold F_X11_solve; rfl⟩
noncomputable def vl_X11_stuck : Nat → (tT → Int32 → Int32) × (tT → Int32 → Int32 → Int32 → Int32)
  | 0 => ((fun (T : tT)  (v1 : Int32) => 0), (fun (T : tT)  (v1 : Int32) (v2 : Int32) (v3 : Int32) => 0))
  | n + 1 => ((fun (T : tT)  (v1 : Int32) => (if (T.1 105 58) ≤ v1 then (-1 : Int32) else (vl_X11_stuck n).2 T v1 (0 : Int32) (0 : Int32))), (fun (T : tT)  (v1 : Int32) (v2 : Int32) (v3 : Int32) => (if (T.1 105 57) ≤ v3 then (if v2 = 0 then v1 else (vl_X11_stuck n).1 T (v1 + (1 : Int32))) else (if v2 = 0 then (if (v_X11_mayTake T v3 v1) = 0 then (vl_X11_stuck n).2 T v1 (0 : Int32) (v3 + (1 : Int32)) else (vl_X11_stuck n).2 T v1 (1 : Int32) (v3 + (1 : Int32))) else (vl_X11_stuck n).2 T v1 (1 : Int32) (v3 + (1 : Int32))))))
noncomputable def okl_X11_stuck : Nat → (Nat → tT → Int32 → Prop) × (Nat → tT → Int32 → Int32 → Int32 → Prop)
  | 0 => ((fun (sz : Nat) (T : tT)  (v1 : Int32) => False), (fun (sz : Nat) (T : tT)  (v1 : Int32) (v2 : Int32) (v3 : Int32) => False))
  | n + 1 => ((fun (sz : Nat) (T : tT)  (v1 : Int32) => (((T.1 105 58) ≤ v1 → True) ∧ (¬ (T.1 105 58) ≤ v1 → (okl_X11_stuck n).2 sz T v1 (0 : Int32) (0 : Int32)))), (fun (sz : Nat) (T : tT)  (v1 : Int32) (v2 : Int32) (v3 : Int32) => (((T.1 105 57) ≤ v3 → ((¬ v2 = 0 → (okl_X11_stuck n).1 sz T (v1 + (1 : Int32))) ∧ (v2 = 0 → True))) ∧ (¬ (T.1 105 57) ≤ v3 → ((¬ v2 = 0 → (okl_X11_stuck n).2 sz T v1 (1 : Int32) (v3 + (1 : Int32))) ∧ (v2 = 0 → (ok_X11_mayTake sz T v3 v1 ∧ (((v_X11_mayTake T v3 v1) = 0 → (okl_X11_stuck n).2 sz T v1 (0 : Int32) (v3 + (1 : Int32))) ∧ (¬ (v_X11_mayTake T v3 v1) = 0 → (okl_X11_stuck n).2 sz T v1 (1 : Int32) (v3 + (1 : Int32)))))))))))
theorem vl_X11_stuck_s0 (n : Nat) (T : tT)  (v1 : Int32) : (vl_X11_stuck (n + 1)).1 T v1 = (if (T.1 105 58) ≤ v1 then (-1 : Int32) else (vl_X11_stuck n).2 T v1 (0 : Int32) (0 : Int32)) := rfl
theorem okl_X11_stuck_s0 (n sz : Nat) (T : tT)  (v1 : Int32) : (okl_X11_stuck (n + 1)).1 sz T v1 = (((T.1 105 58) ≤ v1 → True) ∧ (¬ (T.1 105 58) ≤ v1 → (okl_X11_stuck n).2 sz T v1 (0 : Int32) (0 : Int32))) := rfl
theorem vl_X11_stuck_s1 (n : Nat) (T : tT)  (v1 : Int32) (v2 : Int32) (v3 : Int32) : (vl_X11_stuck (n + 1)).2 T v1 v2 v3 = (if (T.1 105 57) ≤ v3 then (if v2 = 0 then v1 else (vl_X11_stuck n).1 T (v1 + (1 : Int32))) else (if v2 = 0 then (if (v_X11_mayTake T v3 v1) = 0 then (vl_X11_stuck n).2 T v1 (0 : Int32) (v3 + (1 : Int32)) else (vl_X11_stuck n).2 T v1 (1 : Int32) (v3 + (1 : Int32))) else (vl_X11_stuck n).2 T v1 (1 : Int32) (v3 + (1 : Int32)))) := rfl
theorem okl_X11_stuck_s1 (n sz : Nat) (T : tT)  (v1 : Int32) (v2 : Int32) (v3 : Int32) : (okl_X11_stuck (n + 1)).2 sz T v1 v2 v3 = (((T.1 105 57) ≤ v3 → ((¬ v2 = 0 → (okl_X11_stuck n).1 sz T (v1 + (1 : Int32))) ∧ (v2 = 0 → True))) ∧ (¬ (T.1 105 57) ≤ v3 → ((¬ v2 = 0 → (okl_X11_stuck n).2 sz T v1 (1 : Int32) (v3 + (1 : Int32))) ∧ (v2 = 0 → (ok_X11_mayTake sz T v3 v1 ∧ (((v_X11_mayTake T v3 v1) = 0 → (okl_X11_stuck n).2 sz T v1 (0 : Int32) (v3 + (1 : Int32))) ∧ (¬ (v_X11_mayTake T v3 v1) = 0 → (okl_X11_stuck n).2 sz T v1 (1 : Int32) (v3 + (1 : Int32))))))))) := rfl
set_option maxRecDepth 10000 in
set_option maxHeartbeats 1000000 in
theorem lj_X11_stuck {X : ax_X} {d L sz : Nat} {Q : Int32 → tT → Prop} (hX : ax_ok X mX11_stuck (d + 2)) (hsz : 161 ≤ sz) (hR : ax_Ret X mX11_stuck (ti L sz Q)) : ∀ n : Nat, (∀ (T : tT)  (v1 : Int32), (okl_X11_stuck n).1 sz T v1 → Q ((vl_X11_stuck n).1 T v1) T → ax_j X 2 [some (.ref 105), some (.int v1), none, none] [] (th L sz T) 0 0) ∧ (∀ (T : tT)  (v1 : Int32) (v2 : Int32) (v3 : Int32), (okl_X11_stuck n).2 sz T v1 v2 v3 → Q ((vl_X11_stuck n).2 T v1 v2 v3) T → ax_j X 14 [some (.ref 105), some (.int v1), some (.int v2), some (.int v3)] [] (th L sz T) 0 0) := by
  intro n
  induction n with
  | zero => exact ⟨(by intros; rename_i ok _; exact False.elim ok), (by intros; rename_i ok _; exact False.elim ok)⟩
  | succ n ih =>
    refine ⟨?_, ?_⟩
    · intro T  v1 ok hq
      refine s_X11_stuck_2 hX hR hsz   v1 ?_
      rw [okl_X11_stuck_s0] at ok
      refine ⟨fun kq0 => ?_, fun kq0 => ?_⟩
      · replace ok := ok.1 kq0
        have z := hq; rw [vl_X11_stuck_s0, if_pos kq0] at z; exact z
      · replace ok := ok.2 kq0
        have z := hq; rw [vl_X11_stuck_s0, if_neg kq0] at z; exact ih.2 _  v1 (0 : Int32) (0 : Int32) ok z
    · intro T  v1 v2 v3 ok hq
      refine s_X11_stuck_14 hX hR hsz   v1 v2 v3 ?_
      rw [okl_X11_stuck_s1] at ok
      refine ⟨fun kq0 => ?_, fun kq0 => ?_⟩
      · replace ok := ok.1 kq0
        refine ⟨fun kq1 => ?_, fun kq1 => ?_⟩
        · replace ok := ok.1 kq1
          have z := hq; rw [vl_X11_stuck_s1, if_pos kq0, if_neg kq1] at z; exact ih.1 _  (v1 + (1 : Int32)) ok z
        · replace ok := ok.2 kq1
          have z := hq; rw [vl_X11_stuck_s1, if_pos kq0, if_pos kq1] at z; exact z
      · replace ok := ok.2 kq0
        refine ⟨fun kq1 => ?_, fun kq1 => ?_⟩
        · replace ok := ok.1 kq1
          have z := hq; rw [vl_X11_stuck_s1, if_neg kq0, if_neg kq1] at z; exact ih.2 _  v1 (1 : Int32) (v3 + (1 : Int32)) ok z
        · replace ok := ok.2 kq1
          refine ⟨_, c_X11_mayTake hsz  v3 v1 ok.1, ?_⟩
          rintro _ _ ⟨rfl, rfl⟩
          replace ok := ok.2
          refine ⟨fun kq2 => ?_, fun kq2 => ?_⟩
          · replace ok := ok.1 kq2
            have z := hq; rw [vl_X11_stuck_s1, if_neg kq0, if_pos kq1, if_pos kq2] at z; exact ih.2 _  v1 (0 : Int32) (v3 + (1 : Int32)) ok z
          · replace ok := ok.2 kq2
            have z := hq; rw [vl_X11_stuck_s1, if_neg kq0, if_pos kq1, if_neg kq2] at z; exact ih.2 _  v1 (1 : Int32) (v3 + (1 : Int32)) ok z
noncomputable def v_X11_stuck (T : tT)   : Int32 := (vl_X11_stuck fu).1 T (0 : Int32)
noncomputable def ok_X11_stuck (sz : Nat) (T : tT)   : Prop := (okl_X11_stuck fu).1 sz T (0 : Int32)
set_option maxRecDepth 10000 in
theorem c_X11_stuck {d L sz : Nat} {T : tT} (hsz : 161 ≤ sz)  (ok : ok_X11_stuck sz T) : tiK (d + 2) mX11_stuck [.ref 105] L sz T (fun r T' => r = v_X11_stuck T ∧ T = T') := by
  refine k_X11_stuck hsz   (fun X hX hR => ?_)
  unfold ok_X11_stuck at ok
  exact (lj_X11_stuck hX hsz  hR _).1 _  (0 : Int32) ok ⟨by unfold v_X11_stuck; rfl, rfl⟩
noncomputable def vl_X11_travel : Nat → (tT → Int32 → Int32 → Int32 → Int32) × (tT → Int32 → Int32 → Int32 → Int32 → Int32 → Int32 → Int32) × (tT → Int32 → Int32 → Int32 → Int32 → Int32)
  | 0 => ((fun (T : tT)  (v1 : Int32) (v2 : Int32) (v3 : Int32) => 0), (fun (T : tT)  (v1 : Int32) (v2 : Int32) (v3 : Int32) (v4 : Int32) (v5 : Int32) (v6 : Int32) => 0), (fun (T : tT)  (v1 : Int32) (v2 : Int32) (v3 : Int32) (v4 : Int32) => 0))
  | n + 1 => ((fun (T : tT)  (v1 : Int32) (v2 : Int32) (v3 : Int32) => (if (T.1 105 58) ≤ v3 then (vl_X11_travel n).2.1 T v1 v2 (T.1 143 (v1.toNatClampNeg)) (0 : Int32) (-1 : Int32) (v_X11_nextOf T v2 (0 : Int32)) else (if ((v2 >>> (v3 &&& 31)) &&& (1 : Int32)) = 0 then (vl_X11_travel n).1 T v1 v2 (v3 + (1 : Int32)) else (if (v_X11_mayTake T v1 v3) = 0 then (1000000 : Int32) else (vl_X11_travel n).2.2 T v1 v2 v3 (0 : Int32))))), (fun (T : tT)  (v1 : Int32) (v2 : Int32) (v3 : Int32) (v4 : Int32) (v5 : Int32) (v6 : Int32) => (if v6 < 0 then (v4 + (T.1 142 (((8 : Int32) * v3) + (T.1 143 (v1.toNatClampNeg))).toNatClampNeg)) else (if v5 < 0 then (vl_X11_travel n).2.1 T v1 v2 (T.1 145 (v6.toNatClampNeg)) (v4 + (T.1 142 (((8 : Int32) * v3) + (T.1 145 (v6.toNatClampNeg))).toNatClampNeg)) (T.1 146 (v6.toNatClampNeg)) (v_X11_nextOf T v2 ((T.1 146 (v6.toNatClampNeg)) + (1 : Int32))) else (if (T.1 146 (v6.toNatClampNeg)) ≤ (v5 + (1 : Int32)) then (vl_X11_travel n).2.1 T v1 v2 (T.1 145 (v6.toNatClampNeg)) (v4 + (T.1 142 (((8 : Int32) * v3) + (T.1 145 (v6.toNatClampNeg))).toNatClampNeg)) (T.1 146 (v6.toNatClampNeg)) (v_X11_nextOf T v2 ((T.1 146 (v6.toNatClampNeg)) + (1 : Int32))) else (vl_X11_travel n).2.1 T v1 v2 (T.1 145 (v6.toNatClampNeg)) ((v4 + (T.1 142 (((8 : Int32) * v3) + (T.1 143 (v1.toNatClampNeg))).toNatClampNeg)) + (T.1 142 (((8 : Int32) * (T.1 143 (v1.toNatClampNeg))) + (T.1 145 (v6.toNatClampNeg))).toNatClampNeg)) (T.1 146 (v6.toNatClampNeg)) (v_X11_nextOf T v2 ((T.1 146 (v6.toNatClampNeg)) + (1 : Int32))))))), (fun (T : tT)  (v1 : Int32) (v2 : Int32) (v3 : Int32) (v4 : Int32) => (if v3 ≤ v4 then (vl_X11_travel n).1 T v1 v2 (v3 + (1 : Int32)) else (if ((v2 >>> (v4 &&& 31)) &&& (1 : Int32)) = (1 : Int32) then (if (T.1 146 (v4.toNatClampNeg)) = (T.1 146 (v3.toNatClampNeg)) then (1000000 : Int32) else (vl_X11_travel n).2.2 T v1 v2 v3 (v4 + (1 : Int32))) else (vl_X11_travel n).2.2 T v1 v2 v3 (v4 + (1 : Int32))))))
noncomputable def okl_X11_travel : Nat → (Nat → tT → Int32 → Int32 → Int32 → Prop) × (Nat → tT → Int32 → Int32 → Int32 → Int32 → Int32 → Int32 → Prop) × (Nat → tT → Int32 → Int32 → Int32 → Int32 → Prop)
  | 0 => ((fun (sz : Nat) (T : tT)  (v1 : Int32) (v2 : Int32) (v3 : Int32) => False), (fun (sz : Nat) (T : tT)  (v1 : Int32) (v2 : Int32) (v3 : Int32) (v4 : Int32) (v5 : Int32) (v6 : Int32) => False), (fun (sz : Nat) (T : tT)  (v1 : Int32) (v2 : Int32) (v3 : Int32) (v4 : Int32) => False))
  | n + 1 => ((fun (sz : Nat) (T : tT)  (v1 : Int32) (v2 : Int32) (v3 : Int32) => (((T.1 105 58) ≤ v3 → (vp_in v1 5 ∧ (ok_X11_nextOf sz T v2 (0 : Int32) ∧ (okl_X11_travel n).2.1 sz T v1 v2 (T.1 143 (v1.toNatClampNeg)) (0 : Int32) (-1 : Int32) (v_X11_nextOf T v2 (0 : Int32))))) ∧ (¬ (T.1 105 58) ≤ v3 → ((¬ ((v2 >>> (v3 &&& 31)) &&& (1 : Int32)) = 0 → (ok_X11_mayTake sz T v1 v3 ∧ ((¬ (v_X11_mayTake T v1 v3) = 0 → (okl_X11_travel n).2.2 sz T v1 v2 v3 (0 : Int32)) ∧ ((v_X11_mayTake T v1 v3) = 0 → True)))) ∧ (((v2 >>> (v3 &&& 31)) &&& (1 : Int32)) = 0 → (okl_X11_travel n).1 sz T v1 v2 (v3 + (1 : Int32))))))), (fun (sz : Nat) (T : tT)  (v1 : Int32) (v2 : Int32) (v3 : Int32) (v4 : Int32) (v5 : Int32) (v6 : Int32) => ((v6 < 0 → (vp_in v1 5 ∧ vp_in (((8 : Int32) * v3) + (T.1 143 (v1.toNatClampNeg))) 64)) ∧ (¬ v6 < 0 → ((v5 < 0 → (vp_in v6 9 ∧ (vp_in (((8 : Int32) * v3) + (T.1 145 (v6.toNatClampNeg))) 64 ∧ (vp_in v6 9 ∧ (vp_in v6 9 ∧ (ok_X11_nextOf sz T v2 ((T.1 146 (v6.toNatClampNeg)) + (1 : Int32)) ∧ (okl_X11_travel n).2.1 sz T v1 v2 (T.1 145 (v6.toNatClampNeg)) (v4 + (T.1 142 (((8 : Int32) * v3) + (T.1 145 (v6.toNatClampNeg))).toNatClampNeg)) (T.1 146 (v6.toNatClampNeg)) (v_X11_nextOf T v2 ((T.1 146 (v6.toNatClampNeg)) + (1 : Int32))))))))) ∧ (¬ v5 < 0 → (vp_in v6 9 ∧ (((T.1 146 (v6.toNatClampNeg)) ≤ (v5 + (1 : Int32)) → (vp_in v6 9 ∧ (vp_in (((8 : Int32) * v3) + (T.1 145 (v6.toNatClampNeg))) 64 ∧ (vp_in v6 9 ∧ (vp_in v6 9 ∧ (ok_X11_nextOf sz T v2 ((T.1 146 (v6.toNatClampNeg)) + (1 : Int32)) ∧ (okl_X11_travel n).2.1 sz T v1 v2 (T.1 145 (v6.toNatClampNeg)) (v4 + (T.1 142 (((8 : Int32) * v3) + (T.1 145 (v6.toNatClampNeg))).toNatClampNeg)) (T.1 146 (v6.toNatClampNeg)) (v_X11_nextOf T v2 ((T.1 146 (v6.toNatClampNeg)) + (1 : Int32))))))))) ∧ (¬ (T.1 146 (v6.toNatClampNeg)) ≤ (v5 + (1 : Int32)) → (vp_in v1 5 ∧ (vp_in (((8 : Int32) * v3) + (T.1 143 (v1.toNatClampNeg))) 64 ∧ (vp_in v1 5 ∧ (vp_in v6 9 ∧ (vp_in (((8 : Int32) * (T.1 143 (v1.toNatClampNeg))) + (T.1 145 (v6.toNatClampNeg))) 64 ∧ (vp_in v6 9 ∧ (vp_in v6 9 ∧ (ok_X11_nextOf sz T v2 ((T.1 146 (v6.toNatClampNeg)) + (1 : Int32)) ∧ (okl_X11_travel n).2.1 sz T v1 v2 (T.1 145 (v6.toNatClampNeg)) ((v4 + (T.1 142 (((8 : Int32) * v3) + (T.1 143 (v1.toNatClampNeg))).toNatClampNeg)) + (T.1 142 (((8 : Int32) * (T.1 143 (v1.toNatClampNeg))) + (T.1 145 (v6.toNatClampNeg))).toNatClampNeg)) (T.1 146 (v6.toNatClampNeg)) (v_X11_nextOf T v2 ((T.1 146 (v6.toNatClampNeg)) + (1 : Int32))))))))))))))))))), (fun (sz : Nat) (T : tT)  (v1 : Int32) (v2 : Int32) (v3 : Int32) (v4 : Int32) => ((v3 ≤ v4 → (okl_X11_travel n).1 sz T v1 v2 (v3 + (1 : Int32))) ∧ (¬ v3 ≤ v4 → ((¬ ((v2 >>> (v4 &&& 31)) &&& (1 : Int32)) = (1 : Int32) → (okl_X11_travel n).2.2 sz T v1 v2 v3 (v4 + (1 : Int32))) ∧ (((v2 >>> (v4 &&& 31)) &&& (1 : Int32)) = (1 : Int32) → (vp_in v4 9 ∧ (vp_in v3 9 ∧ ((¬ (T.1 146 (v4.toNatClampNeg)) = (T.1 146 (v3.toNatClampNeg)) → (okl_X11_travel n).2.2 sz T v1 v2 v3 (v4 + (1 : Int32))) ∧ ((T.1 146 (v4.toNatClampNeg)) = (T.1 146 (v3.toNatClampNeg)) → True))))))))))
theorem vl_X11_travel_s0 (n : Nat) (T : tT)  (v1 : Int32) (v2 : Int32) (v3 : Int32) : (vl_X11_travel (n + 1)).1 T v1 v2 v3 = (if (T.1 105 58) ≤ v3 then (vl_X11_travel n).2.1 T v1 v2 (T.1 143 (v1.toNatClampNeg)) (0 : Int32) (-1 : Int32) (v_X11_nextOf T v2 (0 : Int32)) else (if ((v2 >>> (v3 &&& 31)) &&& (1 : Int32)) = 0 then (vl_X11_travel n).1 T v1 v2 (v3 + (1 : Int32)) else (if (v_X11_mayTake T v1 v3) = 0 then (1000000 : Int32) else (vl_X11_travel n).2.2 T v1 v2 v3 (0 : Int32)))) := rfl
theorem okl_X11_travel_s0 (n sz : Nat) (T : tT)  (v1 : Int32) (v2 : Int32) (v3 : Int32) : (okl_X11_travel (n + 1)).1 sz T v1 v2 v3 = (((T.1 105 58) ≤ v3 → (vp_in v1 5 ∧ (ok_X11_nextOf sz T v2 (0 : Int32) ∧ (okl_X11_travel n).2.1 sz T v1 v2 (T.1 143 (v1.toNatClampNeg)) (0 : Int32) (-1 : Int32) (v_X11_nextOf T v2 (0 : Int32))))) ∧ (¬ (T.1 105 58) ≤ v3 → ((¬ ((v2 >>> (v3 &&& 31)) &&& (1 : Int32)) = 0 → (ok_X11_mayTake sz T v1 v3 ∧ ((¬ (v_X11_mayTake T v1 v3) = 0 → (okl_X11_travel n).2.2 sz T v1 v2 v3 (0 : Int32)) ∧ ((v_X11_mayTake T v1 v3) = 0 → True)))) ∧ (((v2 >>> (v3 &&& 31)) &&& (1 : Int32)) = 0 → (okl_X11_travel n).1 sz T v1 v2 (v3 + (1 : Int32)))))) := rfl
theorem vl_X11_travel_s1 (n : Nat) (T : tT)  (v1 : Int32) (v2 : Int32) (v3 : Int32) (v4 : Int32) (v5 : Int32) (v6 : Int32) : (vl_X11_travel (n + 1)).2.1 T v1 v2 v3 v4 v5 v6 = (if v6 < 0 then (v4 + (T.1 142 (((8 : Int32) * v3) + (T.1 143 (v1.toNatClampNeg))).toNatClampNeg)) else (if v5 < 0 then (vl_X11_travel n).2.1 T v1 v2 (T.1 145 (v6.toNatClampNeg)) (v4 + (T.1 142 (((8 : Int32) * v3) + (T.1 145 (v6.toNatClampNeg))).toNatClampNeg)) (T.1 146 (v6.toNatClampNeg)) (v_X11_nextOf T v2 ((T.1 146 (v6.toNatClampNeg)) + (1 : Int32))) else (if (T.1 146 (v6.toNatClampNeg)) ≤ (v5 + (1 : Int32)) then (vl_X11_travel n).2.1 T v1 v2 (T.1 145 (v6.toNatClampNeg)) (v4 + (T.1 142 (((8 : Int32) * v3) + (T.1 145 (v6.toNatClampNeg))).toNatClampNeg)) (T.1 146 (v6.toNatClampNeg)) (v_X11_nextOf T v2 ((T.1 146 (v6.toNatClampNeg)) + (1 : Int32))) else (vl_X11_travel n).2.1 T v1 v2 (T.1 145 (v6.toNatClampNeg)) ((v4 + (T.1 142 (((8 : Int32) * v3) + (T.1 143 (v1.toNatClampNeg))).toNatClampNeg)) + (T.1 142 (((8 : Int32) * (T.1 143 (v1.toNatClampNeg))) + (T.1 145 (v6.toNatClampNeg))).toNatClampNeg)) (T.1 146 (v6.toNatClampNeg)) (v_X11_nextOf T v2 ((T.1 146 (v6.toNatClampNeg)) + (1 : Int32)))))) := rfl
theorem okl_X11_travel_s1 (n sz : Nat) (T : tT)  (v1 : Int32) (v2 : Int32) (v3 : Int32) (v4 : Int32) (v5 : Int32) (v6 : Int32) : (okl_X11_travel (n + 1)).2.1 sz T v1 v2 v3 v4 v5 v6 = ((v6 < 0 → (vp_in v1 5 ∧ vp_in (((8 : Int32) * v3) + (T.1 143 (v1.toNatClampNeg))) 64)) ∧ (¬ v6 < 0 → ((v5 < 0 → (vp_in v6 9 ∧ (vp_in (((8 : Int32) * v3) + (T.1 145 (v6.toNatClampNeg))) 64 ∧ (vp_in v6 9 ∧ (vp_in v6 9 ∧ (ok_X11_nextOf sz T v2 ((T.1 146 (v6.toNatClampNeg)) + (1 : Int32)) ∧ (okl_X11_travel n).2.1 sz T v1 v2 (T.1 145 (v6.toNatClampNeg)) (v4 + (T.1 142 (((8 : Int32) * v3) + (T.1 145 (v6.toNatClampNeg))).toNatClampNeg)) (T.1 146 (v6.toNatClampNeg)) (v_X11_nextOf T v2 ((T.1 146 (v6.toNatClampNeg)) + (1 : Int32))))))))) ∧ (¬ v5 < 0 → (vp_in v6 9 ∧ (((T.1 146 (v6.toNatClampNeg)) ≤ (v5 + (1 : Int32)) → (vp_in v6 9 ∧ (vp_in (((8 : Int32) * v3) + (T.1 145 (v6.toNatClampNeg))) 64 ∧ (vp_in v6 9 ∧ (vp_in v6 9 ∧ (ok_X11_nextOf sz T v2 ((T.1 146 (v6.toNatClampNeg)) + (1 : Int32)) ∧ (okl_X11_travel n).2.1 sz T v1 v2 (T.1 145 (v6.toNatClampNeg)) (v4 + (T.1 142 (((8 : Int32) * v3) + (T.1 145 (v6.toNatClampNeg))).toNatClampNeg)) (T.1 146 (v6.toNatClampNeg)) (v_X11_nextOf T v2 ((T.1 146 (v6.toNatClampNeg)) + (1 : Int32))))))))) ∧ (¬ (T.1 146 (v6.toNatClampNeg)) ≤ (v5 + (1 : Int32)) → (vp_in v1 5 ∧ (vp_in (((8 : Int32) * v3) + (T.1 143 (v1.toNatClampNeg))) 64 ∧ (vp_in v1 5 ∧ (vp_in v6 9 ∧ (vp_in (((8 : Int32) * (T.1 143 (v1.toNatClampNeg))) + (T.1 145 (v6.toNatClampNeg))) 64 ∧ (vp_in v6 9 ∧ (vp_in v6 9 ∧ (ok_X11_nextOf sz T v2 ((T.1 146 (v6.toNatClampNeg)) + (1 : Int32)) ∧ (okl_X11_travel n).2.1 sz T v1 v2 (T.1 145 (v6.toNatClampNeg)) ((v4 + (T.1 142 (((8 : Int32) * v3) + (T.1 143 (v1.toNatClampNeg))).toNatClampNeg)) + (T.1 142 (((8 : Int32) * (T.1 143 (v1.toNatClampNeg))) + (T.1 145 (v6.toNatClampNeg))).toNatClampNeg)) (T.1 146 (v6.toNatClampNeg)) (v_X11_nextOf T v2 ((T.1 146 (v6.toNatClampNeg)) + (1 : Int32)))))))))))))))))) := rfl
theorem vl_X11_travel_s2 (n : Nat) (T : tT)  (v1 : Int32) (v2 : Int32) (v3 : Int32) (v4 : Int32) : (vl_X11_travel (n + 1)).2.2 T v1 v2 v3 v4 = (if v3 ≤ v4 then (vl_X11_travel n).1 T v1 v2 (v3 + (1 : Int32)) else (if ((v2 >>> (v4 &&& 31)) &&& (1 : Int32)) = (1 : Int32) then (if (T.1 146 (v4.toNatClampNeg)) = (T.1 146 (v3.toNatClampNeg)) then (1000000 : Int32) else (vl_X11_travel n).2.2 T v1 v2 v3 (v4 + (1 : Int32))) else (vl_X11_travel n).2.2 T v1 v2 v3 (v4 + (1 : Int32)))) := rfl
theorem okl_X11_travel_s2 (n sz : Nat) (T : tT)  (v1 : Int32) (v2 : Int32) (v3 : Int32) (v4 : Int32) : (okl_X11_travel (n + 1)).2.2 sz T v1 v2 v3 v4 = ((v3 ≤ v4 → (okl_X11_travel n).1 sz T v1 v2 (v3 + (1 : Int32))) ∧ (¬ v3 ≤ v4 → ((¬ ((v2 >>> (v4 &&& 31)) &&& (1 : Int32)) = (1 : Int32) → (okl_X11_travel n).2.2 sz T v1 v2 v3 (v4 + (1 : Int32))) ∧ (((v2 >>> (v4 &&& 31)) &&& (1 : Int32)) = (1 : Int32) → (vp_in v4 9 ∧ (vp_in v3 9 ∧ ((¬ (T.1 146 (v4.toNatClampNeg)) = (T.1 146 (v3.toNatClampNeg)) → (okl_X11_travel n).2.2 sz T v1 v2 v3 (v4 + (1 : Int32))) ∧ ((T.1 146 (v4.toNatClampNeg)) = (T.1 146 (v3.toNatClampNeg)) → True)))))))) := rfl
set_option maxRecDepth 10000 in
set_option maxHeartbeats 1000000 in
theorem lj_X11_travel {X : ax_X} {d L sz : Nat} {Q : Int32 → tT → Prop} (hX : ax_ok X mX11_travel (d + 2)) (hsz : 161 ≤ sz) (hR : ax_Ret X mX11_travel (ti L sz Q)) : ∀ n : Nat, (∀ (T : tT)  (v1 : Int32) (v2 : Int32) (v3 : Int32), (okl_X11_travel n).1 sz T v1 v2 v3 → Q ((vl_X11_travel n).1 T v1 v2 v3) T → ax_j X 2 [some (.ref 105), some (.int v1), some (.int v2), some (.int v3), none, none, none] [] (th L sz T) 0 0) ∧ (∀ (T : tT)  (v1 : Int32) (v2 : Int32) (v3 : Int32) (v4 : Int32) (v5 : Int32) (v6 : Int32), (okl_X11_travel n).2.1 sz T v1 v2 v3 v4 v5 v6 → Q ((vl_X11_travel n).2.1 T v1 v2 v3 v4 v5 v6) T → ax_j X 106 [some (.ref 105), some (.int v1), some (.int v2), some (.int v3), some (.int v4), some (.int v5), some (.int v6)] [] (th L sz T) 0 0) ∧ (∀ (T : tT)  (v1 : Int32) (v2 : Int32) (v3 : Int32) (v4 : Int32), (okl_X11_travel n).2.2 sz T v1 v2 v3 v4 → Q ((vl_X11_travel n).2.2 T v1 v2 v3 v4) T → ax_j X 37 [some (.ref 105), some (.int v1), some (.int v2), some (.int v3), some (.int v4), none, none] [] (th L sz T) 0 0) := by
  intro n
  induction n with
  | zero => exact ⟨(by intros; rename_i ok _; exact False.elim ok), (by intros; rename_i ok _; exact False.elim ok), (by intros; rename_i ok _; exact False.elim ok)⟩
  | succ n ih =>
    refine ⟨?_, ?_, ?_⟩
    · intro T  v1 v2 v3 ok hq
      refine s_X11_travel_2 hX hR hsz   v1 v2 v3 ?_
      rw [okl_X11_travel_s0] at ok
      refine ⟨fun kq0 => ?_, fun kq0 => ?_⟩
      · replace ok := ok.1 kq0
        refine ⟨ok.1, ?_⟩
        replace ok := ok.2
        refine ⟨_, c_X11_nextOf hsz  v2 (0 : Int32) ok.1, ?_⟩
        rintro _ _ ⟨rfl, rfl⟩
        replace ok := ok.2
        have z := hq; rw [vl_X11_travel_s0, if_pos kq0] at z; exact ih.2.1 _  v1 v2 (T.1 143 (v1.toNatClampNeg)) (0 : Int32) (-1 : Int32) (v_X11_nextOf T v2 (0 : Int32)) ok z
      · replace ok := ok.2 kq0
        refine ⟨fun kq1 => ?_, fun kq1 => ?_⟩
        · replace ok := ok.1 kq1
          refine ⟨_, c_X11_mayTake hsz  v1 v3 ok.1, ?_⟩
          rintro _ _ ⟨rfl, rfl⟩
          replace ok := ok.2
          refine ⟨fun kq2 => ?_, fun kq2 => ?_⟩
          · replace ok := ok.1 kq2
            have z := hq; rw [vl_X11_travel_s0, if_neg kq0, if_neg kq1, if_neg kq2] at z; exact ih.2.2 _  v1 v2 v3 (0 : Int32) ok z
          · replace ok := ok.2 kq2
            have z := hq; rw [vl_X11_travel_s0, if_neg kq0, if_neg kq1, if_pos kq2] at z; exact z
        · replace ok := ok.2 kq1
          have z := hq; rw [vl_X11_travel_s0, if_neg kq0, if_pos kq1] at z; exact ih.1 _  v1 v2 (v3 + (1 : Int32)) ok z
    · intro T  v1 v2 v3 v4 v5 v6 ok hq
      refine s_X11_travel_106 hX hR hsz   v1 v2 v3 v4 v5 v6 ?_
      rw [okl_X11_travel_s1] at ok
      refine ⟨fun kq0 => ?_, fun kq0 => ?_⟩
      · replace ok := ok.1 kq0
        refine ⟨ok.1, ?_⟩
        replace ok := ok.2
        refine ⟨ok, ?_⟩
        have z := hq; rw [vl_X11_travel_s1, if_pos kq0] at z; exact z
      · replace ok := ok.2 kq0
        refine ⟨fun kq1 => ?_, fun kq1 => ?_⟩
        · replace ok := ok.1 kq1
          refine ⟨ok.1, ?_⟩
          replace ok := ok.2
          refine ⟨ok.1, ?_⟩
          replace ok := ok.2
          refine ⟨ok.1, ?_⟩
          replace ok := ok.2
          refine ⟨ok.1, ?_⟩
          replace ok := ok.2
          refine ⟨_, c_X11_nextOf hsz  v2 ((T.1 146 (v6.toNatClampNeg)) + (1 : Int32)) ok.1, ?_⟩
          rintro _ _ ⟨rfl, rfl⟩
          replace ok := ok.2
          have z := hq; rw [vl_X11_travel_s1, if_neg kq0, if_pos kq1] at z; exact ih.2.1 _  v1 v2 (T.1 145 (v6.toNatClampNeg)) (v4 + (T.1 142 (((8 : Int32) * v3) + (T.1 145 (v6.toNatClampNeg))).toNatClampNeg)) (T.1 146 (v6.toNatClampNeg)) (v_X11_nextOf T v2 ((T.1 146 (v6.toNatClampNeg)) + (1 : Int32))) ok z
        · replace ok := ok.2 kq1
          refine ⟨ok.1, ?_⟩
          replace ok := ok.2
          refine ⟨fun kq2 => ?_, fun kq2 => ?_⟩
          · replace ok := ok.1 kq2
            refine ⟨ok.1, ?_⟩
            replace ok := ok.2
            refine ⟨ok.1, ?_⟩
            replace ok := ok.2
            refine ⟨ok.1, ?_⟩
            replace ok := ok.2
            refine ⟨ok.1, ?_⟩
            replace ok := ok.2
            refine ⟨_, c_X11_nextOf hsz  v2 ((T.1 146 (v6.toNatClampNeg)) + (1 : Int32)) ok.1, ?_⟩
            rintro _ _ ⟨rfl, rfl⟩
            replace ok := ok.2
            have z := hq; rw [vl_X11_travel_s1, if_neg kq0, if_neg kq1, if_pos kq2] at z; exact ih.2.1 _  v1 v2 (T.1 145 (v6.toNatClampNeg)) (v4 + (T.1 142 (((8 : Int32) * v3) + (T.1 145 (v6.toNatClampNeg))).toNatClampNeg)) (T.1 146 (v6.toNatClampNeg)) (v_X11_nextOf T v2 ((T.1 146 (v6.toNatClampNeg)) + (1 : Int32))) ok z
          · replace ok := ok.2 kq2
            refine ⟨ok.1, ?_⟩
            replace ok := ok.2
            refine ⟨ok.1, ?_⟩
            replace ok := ok.2
            refine ⟨ok.1, ?_⟩
            replace ok := ok.2
            refine ⟨ok.1, ?_⟩
            replace ok := ok.2
            refine ⟨ok.1, ?_⟩
            replace ok := ok.2
            refine ⟨ok.1, ?_⟩
            replace ok := ok.2
            refine ⟨ok.1, ?_⟩
            replace ok := ok.2
            refine ⟨_, c_X11_nextOf hsz  v2 ((T.1 146 (v6.toNatClampNeg)) + (1 : Int32)) ok.1, ?_⟩
            rintro _ _ ⟨rfl, rfl⟩
            replace ok := ok.2
            have z := hq; rw [vl_X11_travel_s1, if_neg kq0, if_neg kq1, if_neg kq2] at z; exact ih.2.1 _  v1 v2 (T.1 145 (v6.toNatClampNeg)) ((v4 + (T.1 142 (((8 : Int32) * v3) + (T.1 143 (v1.toNatClampNeg))).toNatClampNeg)) + (T.1 142 (((8 : Int32) * (T.1 143 (v1.toNatClampNeg))) + (T.1 145 (v6.toNatClampNeg))).toNatClampNeg)) (T.1 146 (v6.toNatClampNeg)) (v_X11_nextOf T v2 ((T.1 146 (v6.toNatClampNeg)) + (1 : Int32))) ok z
    · intro T  v1 v2 v3 v4 ok hq
      refine s_X11_travel_37 hX hR hsz   v1 v2 v3 v4 ?_
      rw [okl_X11_travel_s2] at ok
      refine ⟨fun kq0 => ?_, fun kq0 => ?_⟩
      · replace ok := ok.1 kq0
        have z := hq; rw [vl_X11_travel_s2, if_pos kq0] at z; exact ih.1 _  v1 v2 (v3 + (1 : Int32)) ok z
      · replace ok := ok.2 kq0
        refine ⟨fun kq1 => ?_, fun kq1 => ?_⟩
        · replace ok := ok.1 kq1
          have z := hq; rw [vl_X11_travel_s2, if_neg kq0, if_neg kq1] at z; exact ih.2.2 _  v1 v2 v3 (v4 + (1 : Int32)) ok z
        · replace ok := ok.2 kq1
          refine ⟨ok.1, ?_⟩
          replace ok := ok.2
          refine ⟨ok.1, ?_⟩
          replace ok := ok.2
          refine ⟨fun kq2 => ?_, fun kq2 => ?_⟩
          · replace ok := ok.1 kq2
            have z := hq; rw [vl_X11_travel_s2, if_neg kq0, if_pos kq1, if_neg kq2] at z; exact ih.2.2 _  v1 v2 v3 (v4 + (1 : Int32)) ok z
          · replace ok := ok.2 kq2
            have z := hq; rw [vl_X11_travel_s2, if_neg kq0, if_pos kq1, if_pos kq2] at z; exact z
noncomputable def v_X11_travel (T : tT)  (x0 : Int32) (x1 : Int32) : Int32 := (vl_X11_travel fu).1 T x0 x1 (0 : Int32)
noncomputable def ok_X11_travel (sz : Nat) (T : tT)  (x0 : Int32) (x1 : Int32) : Prop := (okl_X11_travel fu).1 sz T x0 x1 (0 : Int32)
set_option maxRecDepth 10000 in
theorem c_X11_travel {d L sz : Nat} {T : tT} (hsz : 161 ≤ sz) (x0 : Int32) (x1 : Int32) (ok : ok_X11_travel sz T x0 x1) : tiK (d + 2) mX11_travel [.ref 105, .int x0, .int x1] L sz T (fun r T' => r = v_X11_travel T x0 x1 ∧ T = T') := by
  refine k_X11_travel hsz  x0 x1 (fun X hX hR => ?_)
  unfold ok_X11_travel at ok
  exact (lj_X11_travel hX hsz  hR _).1 _  x0 x1 (0 : Int32) ok ⟨by unfold v_X11_travel; rfl, rfl⟩
noncomputable def vl_X11_tour : Nat → (tT → Int32 → (Int32 × tT)) × (tT → Int32 → (Int32 × tT)) × (tT → Int32 → Int32 → (Int32 × tT)) × (tT → Int32 → Int32 → (Int32 × tT)) × (tT → Int32 → Int32 → (Int32 × tT)) × (tT → Int32 → Int32 → (Int32 × tT))
  | 0 => ((fun (T : tT)  (v1 : Int32) => (0, T)), (fun (T : tT)  (v1 : Int32) => (0, T)), (fun (T : tT)  (v1 : Int32) (v2 : Int32) => (0, T)), (fun (T : tT)  (v1 : Int32) (v2 : Int32) => (0, T)), (fun (T : tT)  (v1 : Int32) (v2 : Int32) => (0, T)), (fun (T : tT)  (v1 : Int32) (v2 : Int32) => (0, T)))
  | n + 1 => ((fun (T : tT)  (v1 : Int32) => (if (T.1 105 57) ≤ v1 then (vl_X11_tour n).2.1 T (0 : Int32) else (vl_X11_tour n).2.2.1 T v1 (0 : Int32))), (fun (T : tT)  (v1 : Int32) => (if (9 : Int32) ≤ v1 then (if (F_X11_solve T).1 < (1000000 : Int32) then (vl_X11_tour n).2.2.2.1 ((F_X11_solve T).2) ((F_X11_solve T).1) (0 : Int32) else ((-2 : Int32), (F_X11_solve T).2)) else (vl_X11_tour n).2.1 (tI T 149 (v1.toNatClampNeg) (-1 : Int32)) (v1 + (1 : Int32)))), (fun (T : tT)  (v1 : Int32) (v2 : Int32) => (if ((1 : Int32) <<< ((T.1 105 58) &&& 31)) ≤ v2 then (vl_X11_tour n).1 T (v1 + (1 : Int32)) else (vl_X11_tour n).2.2.1 (tI T 147 ((((512 : Int32) * v1) + v2).toNatClampNeg) (v_X11_travel T v1 v2)) v1 (v2 + (1 : Int32)))), (fun (T : tT)  (v1 : Int32) (v2 : Int32) => (if (T.1 105 58) ≤ v2 then (vl_X11_tour n).2.2.2.2.1 (tI T 105 63 (T.1 105 58)) v1 (0 : Int32) else (vl_X11_tour n).2.2.2.2.2 (tI T 149 (v2.toNatClampNeg) (0 : Int32)) v1 v2)), (fun (T : tT)  (v1 : Int32) (v2 : Int32) => (if (T.1 105 58) ≤ v2 then (v1, T) else (vl_X11_tour n).2.2.2.2.1 (tI T 150 (v2.toNatClampNeg) (T.1 149 (v2.toNatClampNeg))) v1 (v2 + (1 : Int32)))), (fun (T : tT)  (v1 : Int32) (v2 : Int32) => (if (F_X11_solve T).1 = v1 then (vl_X11_tour n).2.2.2.1 ((F_X11_solve T).2) v1 (v2 + (1 : Int32)) else (vl_X11_tour n).2.2.2.2.2 (tI (F_X11_solve T).2 149 (v2.toNatClampNeg) (((F_X11_solve T).2.1 149 (v2.toNatClampNeg)) + (1 : Int32))) v1 v2)))
noncomputable def okl_X11_tour : Nat → (Nat → tT → Int32 → Prop) × (Nat → tT → Int32 → Prop) × (Nat → tT → Int32 → Int32 → Prop) × (Nat → tT → Int32 → Int32 → Prop) × (Nat → tT → Int32 → Int32 → Prop) × (Nat → tT → Int32 → Int32 → Prop)
  | 0 => ((fun (sz : Nat) (T : tT)  (v1 : Int32) => False), (fun (sz : Nat) (T : tT)  (v1 : Int32) => False), (fun (sz : Nat) (T : tT)  (v1 : Int32) (v2 : Int32) => False), (fun (sz : Nat) (T : tT)  (v1 : Int32) (v2 : Int32) => False), (fun (sz : Nat) (T : tT)  (v1 : Int32) (v2 : Int32) => False), (fun (sz : Nat) (T : tT)  (v1 : Int32) (v2 : Int32) => False))
  | n + 1 => ((fun (sz : Nat) (T : tT)  (v1 : Int32) => (((T.1 105 57) ≤ v1 → (okl_X11_tour n).2.1 sz T (0 : Int32)) ∧ (¬ (T.1 105 57) ≤ v1 → (okl_X11_tour n).2.2.1 sz T v1 (0 : Int32)))), (fun (sz : Nat) (T : tT)  (v1 : Int32) => (((9 : Int32) ≤ v1 → (ok_X11_solve sz T ∧ (((F_X11_solve T).1 < (1000000 : Int32) → (okl_X11_tour n).2.2.2.1 sz ((F_X11_solve T).2) ((F_X11_solve T).1) (0 : Int32)) ∧ (¬ (F_X11_solve T).1 < (1000000 : Int32) → True)))) ∧ (¬ (9 : Int32) ≤ v1 → (vp_in v1 9 ∧ (okl_X11_tour n).2.1 sz (tI T 149 (v1.toNatClampNeg) (-1 : Int32)) (v1 + (1 : Int32)))))), (fun (sz : Nat) (T : tT)  (v1 : Int32) (v2 : Int32) => ((((1 : Int32) <<< ((T.1 105 58) &&& 31)) ≤ v2 → (okl_X11_tour n).1 sz T (v1 + (1 : Int32))) ∧ (¬ ((1 : Int32) <<< ((T.1 105 58) &&& 31)) ≤ v2 → (ok_X11_travel sz T v1 v2 ∧ (vp_in (((512 : Int32) * v1) + v2) 2560 ∧ (okl_X11_tour n).2.2.1 sz (tI T 147 ((((512 : Int32) * v1) + v2).toNatClampNeg) (v_X11_travel T v1 v2)) v1 (v2 + (1 : Int32))))))), (fun (sz : Nat) (T : tT)  (v1 : Int32) (v2 : Int32) => (((T.1 105 58) ≤ v2 → (okl_X11_tour n).2.2.2.2.1 sz (tI T 105 63 (T.1 105 58)) v1 (0 : Int32)) ∧ (¬ (T.1 105 58) ≤ v2 → (vp_in v2 9 ∧ (okl_X11_tour n).2.2.2.2.2 sz (tI T 149 (v2.toNatClampNeg) (0 : Int32)) v1 v2)))), (fun (sz : Nat) (T : tT)  (v1 : Int32) (v2 : Int32) => (((T.1 105 58) ≤ v2 → True) ∧ (¬ (T.1 105 58) ≤ v2 → (vp_in v2 9 ∧ (vp_in v2 9 ∧ (okl_X11_tour n).2.2.2.2.1 sz (tI T 150 (v2.toNatClampNeg) (T.1 149 (v2.toNatClampNeg))) v1 (v2 + (1 : Int32))))))), (fun (sz : Nat) (T : tT)  (v1 : Int32) (v2 : Int32) => (ok_X11_solve sz T ∧ (((F_X11_solve T).1 = v1 → (okl_X11_tour n).2.2.2.1 sz ((F_X11_solve T).2) v1 (v2 + (1 : Int32))) ∧ (¬ (F_X11_solve T).1 = v1 → (vp_in v2 9 ∧ (vp_in v2 9 ∧ (okl_X11_tour n).2.2.2.2.2 sz (tI (F_X11_solve T).2 149 (v2.toNatClampNeg) (((F_X11_solve T).2.1 149 (v2.toNatClampNeg)) + (1 : Int32))) v1 v2)))))))
theorem vl_X11_tour_s0 (n : Nat) (T : tT)  (v1 : Int32) : (vl_X11_tour (n + 1)).1 T v1 = (if (T.1 105 57) ≤ v1 then (vl_X11_tour n).2.1 T (0 : Int32) else (vl_X11_tour n).2.2.1 T v1 (0 : Int32)) := rfl
theorem okl_X11_tour_s0 (n sz : Nat) (T : tT)  (v1 : Int32) : (okl_X11_tour (n + 1)).1 sz T v1 = (((T.1 105 57) ≤ v1 → (okl_X11_tour n).2.1 sz T (0 : Int32)) ∧ (¬ (T.1 105 57) ≤ v1 → (okl_X11_tour n).2.2.1 sz T v1 (0 : Int32))) := rfl
theorem vl_X11_tour_s1 (n : Nat) (T : tT)  (v1 : Int32) : (vl_X11_tour (n + 1)).2.1 T v1 = (if (9 : Int32) ≤ v1 then (if (F_X11_solve T).1 < (1000000 : Int32) then (vl_X11_tour n).2.2.2.1 ((F_X11_solve T).2) ((F_X11_solve T).1) (0 : Int32) else ((-2 : Int32), (F_X11_solve T).2)) else (vl_X11_tour n).2.1 (tI T 149 (v1.toNatClampNeg) (-1 : Int32)) (v1 + (1 : Int32))) := rfl
theorem okl_X11_tour_s1 (n sz : Nat) (T : tT)  (v1 : Int32) : (okl_X11_tour (n + 1)).2.1 sz T v1 = (((9 : Int32) ≤ v1 → (ok_X11_solve sz T ∧ (((F_X11_solve T).1 < (1000000 : Int32) → (okl_X11_tour n).2.2.2.1 sz ((F_X11_solve T).2) ((F_X11_solve T).1) (0 : Int32)) ∧ (¬ (F_X11_solve T).1 < (1000000 : Int32) → True)))) ∧ (¬ (9 : Int32) ≤ v1 → (vp_in v1 9 ∧ (okl_X11_tour n).2.1 sz (tI T 149 (v1.toNatClampNeg) (-1 : Int32)) (v1 + (1 : Int32))))) := rfl
theorem vl_X11_tour_s2 (n : Nat) (T : tT)  (v1 : Int32) (v2 : Int32) : (vl_X11_tour (n + 1)).2.2.1 T v1 v2 = (if ((1 : Int32) <<< ((T.1 105 58) &&& 31)) ≤ v2 then (vl_X11_tour n).1 T (v1 + (1 : Int32)) else (vl_X11_tour n).2.2.1 (tI T 147 ((((512 : Int32) * v1) + v2).toNatClampNeg) (v_X11_travel T v1 v2)) v1 (v2 + (1 : Int32))) := rfl
theorem okl_X11_tour_s2 (n sz : Nat) (T : tT)  (v1 : Int32) (v2 : Int32) : (okl_X11_tour (n + 1)).2.2.1 sz T v1 v2 = ((((1 : Int32) <<< ((T.1 105 58) &&& 31)) ≤ v2 → (okl_X11_tour n).1 sz T (v1 + (1 : Int32))) ∧ (¬ ((1 : Int32) <<< ((T.1 105 58) &&& 31)) ≤ v2 → (ok_X11_travel sz T v1 v2 ∧ (vp_in (((512 : Int32) * v1) + v2) 2560 ∧ (okl_X11_tour n).2.2.1 sz (tI T 147 ((((512 : Int32) * v1) + v2).toNatClampNeg) (v_X11_travel T v1 v2)) v1 (v2 + (1 : Int32)))))) := rfl
theorem vl_X11_tour_s3 (n : Nat) (T : tT)  (v1 : Int32) (v2 : Int32) : (vl_X11_tour (n + 1)).2.2.2.1 T v1 v2 = (if (T.1 105 58) ≤ v2 then (vl_X11_tour n).2.2.2.2.1 (tI T 105 63 (T.1 105 58)) v1 (0 : Int32) else (vl_X11_tour n).2.2.2.2.2 (tI T 149 (v2.toNatClampNeg) (0 : Int32)) v1 v2) := rfl
theorem okl_X11_tour_s3 (n sz : Nat) (T : tT)  (v1 : Int32) (v2 : Int32) : (okl_X11_tour (n + 1)).2.2.2.1 sz T v1 v2 = (((T.1 105 58) ≤ v2 → (okl_X11_tour n).2.2.2.2.1 sz (tI T 105 63 (T.1 105 58)) v1 (0 : Int32)) ∧ (¬ (T.1 105 58) ≤ v2 → (vp_in v2 9 ∧ (okl_X11_tour n).2.2.2.2.2 sz (tI T 149 (v2.toNatClampNeg) (0 : Int32)) v1 v2))) := rfl
theorem vl_X11_tour_s4 (n : Nat) (T : tT)  (v1 : Int32) (v2 : Int32) : (vl_X11_tour (n + 1)).2.2.2.2.1 T v1 v2 = (if (T.1 105 58) ≤ v2 then (v1, T) else (vl_X11_tour n).2.2.2.2.1 (tI T 150 (v2.toNatClampNeg) (T.1 149 (v2.toNatClampNeg))) v1 (v2 + (1 : Int32))) := rfl
theorem okl_X11_tour_s4 (n sz : Nat) (T : tT)  (v1 : Int32) (v2 : Int32) : (okl_X11_tour (n + 1)).2.2.2.2.1 sz T v1 v2 = (((T.1 105 58) ≤ v2 → True) ∧ (¬ (T.1 105 58) ≤ v2 → (vp_in v2 9 ∧ (vp_in v2 9 ∧ (okl_X11_tour n).2.2.2.2.1 sz (tI T 150 (v2.toNatClampNeg) (T.1 149 (v2.toNatClampNeg))) v1 (v2 + (1 : Int32)))))) := rfl
theorem vl_X11_tour_s5 (n : Nat) (T : tT)  (v1 : Int32) (v2 : Int32) : (vl_X11_tour (n + 1)).2.2.2.2.2 T v1 v2 = (if (F_X11_solve T).1 = v1 then (vl_X11_tour n).2.2.2.1 ((F_X11_solve T).2) v1 (v2 + (1 : Int32)) else (vl_X11_tour n).2.2.2.2.2 (tI (F_X11_solve T).2 149 (v2.toNatClampNeg) (((F_X11_solve T).2.1 149 (v2.toNatClampNeg)) + (1 : Int32))) v1 v2) := rfl
theorem okl_X11_tour_s5 (n sz : Nat) (T : tT)  (v1 : Int32) (v2 : Int32) : (okl_X11_tour (n + 1)).2.2.2.2.2 sz T v1 v2 = (ok_X11_solve sz T ∧ (((F_X11_solve T).1 = v1 → (okl_X11_tour n).2.2.2.1 sz ((F_X11_solve T).2) v1 (v2 + (1 : Int32))) ∧ (¬ (F_X11_solve T).1 = v1 → (vp_in v2 9 ∧ (vp_in v2 9 ∧ (okl_X11_tour n).2.2.2.2.2 sz (tI (F_X11_solve T).2 149 (v2.toNatClampNeg) (((F_X11_solve T).2.1 149 (v2.toNatClampNeg)) + (1 : Int32))) v1 v2))))) := rfl
set_option maxRecDepth 10000 in
set_option maxHeartbeats 1000000 in
theorem lj_X11_tour {X : ax_X} {d L sz : Nat} {Q : Int32 → tT → Prop} (hX : ax_ok X mX11_tour (d + 3)) (hsz : 161 ≤ sz) (hR : ax_Ret X mX11_tour (ti L sz Q)) : ∀ n : Nat, (∀ (T : tT)  (v1 : Int32), (okl_X11_tour n).1 sz T v1 → Q ((vl_X11_tour n).1 T v1).1 ((vl_X11_tour n).1 T v1).2 → ax_j X 2 [some (.ref 105), some (.int v1), none] [] (th L sz T) 0 0) ∧ (∀ (T : tT)  (v1 : Int32), (okl_X11_tour n).2.1 sz T v1 → Q ((vl_X11_tour n).2.1 T v1).1 ((vl_X11_tour n).2.1 T v1).2 → ax_j X 54 [some (.ref 105), some (.int v1), none] [] (th L sz T) 0 0) ∧ (∀ (T : tT)  (v1 : Int32) (v2 : Int32), (okl_X11_tour n).2.2.1 sz T v1 v2 → Q ((vl_X11_tour n).2.2.1 T v1 v2).1 ((vl_X11_tour n).2.2.1 T v1 v2).2 → ax_j X 12 [some (.ref 105), some (.int v1), some (.int v2)] [] (th L sz T) 0 0) ∧ (∀ (T : tT)  (v1 : Int32) (v2 : Int32), (okl_X11_tour n).2.2.2.1 sz T v1 v2 → Q ((vl_X11_tour n).2.2.2.1 T v1 v2).1 ((vl_X11_tour n).2.2.2.1 T v1 v2).2 → ax_j X 90 [some (.ref 105), some (.int v1), some (.int v2)] [] (th L sz T) 0 0) ∧ (∀ (T : tT)  (v1 : Int32) (v2 : Int32), (okl_X11_tour n).2.2.2.2.1 sz T v1 v2 → Q ((vl_X11_tour n).2.2.2.2.1 T v1 v2).1 ((vl_X11_tour n).2.2.2.2.1 T v1 v2).2 → ax_j X 142 [some (.ref 105), some (.int v1), some (.int v2)] [] (th L sz T) 0 0) ∧ (∀ (T : tT)  (v1 : Int32) (v2 : Int32), (okl_X11_tour n).2.2.2.2.2 sz T v1 v2 → Q ((vl_X11_tour n).2.2.2.2.2 T v1 v2).1 ((vl_X11_tour n).2.2.2.2.2 T v1 v2).2 → ax_j X 105 [some (.ref 105), some (.int v1), some (.int v2)] [] (th L sz T) 0 0) := by
  intro n
  induction n with
  | zero => exact ⟨(by intros; rename_i ok _; exact False.elim ok), (by intros; rename_i ok _; exact False.elim ok), (by intros; rename_i ok _; exact False.elim ok), (by intros; rename_i ok _; exact False.elim ok), (by intros; rename_i ok _; exact False.elim ok), (by intros; rename_i ok _; exact False.elim ok)⟩
  | succ n ih =>
    refine ⟨?_, ?_, ?_, ?_, ?_, ?_⟩
    · intro T  v1 ok hq
      refine s_X11_tour_2 hX hR hsz   v1 ?_
      rw [okl_X11_tour_s0] at ok
      refine ⟨fun kq0 => ?_, fun kq0 => ?_⟩
      · replace ok := ok.1 kq0
        have z := hq; rw [vl_X11_tour_s0, if_pos kq0] at z; exact ih.2.1 _  (0 : Int32) ok z
      · replace ok := ok.2 kq0
        have z := hq; rw [vl_X11_tour_s0, if_neg kq0] at z; exact ih.2.2.1 _  v1 (0 : Int32) ok z
    · intro T  v1 ok hq
      refine s_X11_tour_54 hX hR hsz   v1 ?_
      rw [okl_X11_tour_s1] at ok
      refine ⟨fun kq0 => ?_, fun kq0 => ?_⟩
      · replace ok := ok.1 kq0
        refine ⟨_, c_X11_solve hsz   ok.1, ?_⟩
        rintro _ _ ⟨rfl, rfl⟩
        replace ok := ok.2
        refine ⟨fun kq1 => ?_, fun kq1 => ?_⟩
        · replace ok := ok.1 kq1
          have z := hq; rw [vl_X11_tour_s1, if_pos kq0, if_pos kq1] at z; exact ih.2.2.2.1 _  ((F_X11_solve T).1) (0 : Int32) ok z
        · replace ok := ok.2 kq1
          have z := hq; rw [vl_X11_tour_s1, if_pos kq0, if_neg kq1] at z; exact z
      · replace ok := ok.2 kq0
        refine ⟨ok.1, ?_⟩
        replace ok := ok.2
        have z := hq; rw [vl_X11_tour_s1, if_neg kq0] at z; exact ih.2.1 _  (v1 + (1 : Int32)) ok z
    · intro T  v1 v2 ok hq
      refine s_X11_tour_12 hX hR hsz   v1 v2 ?_
      rw [okl_X11_tour_s2] at ok
      refine ⟨fun kq0 => ?_, fun kq0 => ?_⟩
      · replace ok := ok.1 kq0
        have z := hq; rw [vl_X11_tour_s2, if_pos kq0] at z; exact ih.1 _  (v1 + (1 : Int32)) ok z
      · replace ok := ok.2 kq0
        refine ⟨_, c_X11_travel hsz  v1 v2 ok.1, ?_⟩
        rintro _ _ ⟨rfl, rfl⟩
        replace ok := ok.2
        refine ⟨ok.1, ?_⟩
        replace ok := ok.2
        have z := hq; rw [vl_X11_tour_s2, if_neg kq0] at z; exact ih.2.2.1 _  v1 (v2 + (1 : Int32)) ok z
    · intro T  v1 v2 ok hq
      refine s_X11_tour_90 hX hR hsz   v1 v2 ?_
      rw [okl_X11_tour_s3] at ok
      refine ⟨fun kq0 => ?_, fun kq0 => ?_⟩
      · replace ok := ok.1 kq0
        have z := hq; rw [vl_X11_tour_s3, if_pos kq0] at z; exact ih.2.2.2.2.1 _  v1 (0 : Int32) ok z
      · replace ok := ok.2 kq0
        refine ⟨ok.1, ?_⟩
        replace ok := ok.2
        have z := hq; rw [vl_X11_tour_s3, if_neg kq0] at z; exact ih.2.2.2.2.2 _  v1 v2 ok z
    · intro T  v1 v2 ok hq
      refine s_X11_tour_142 hX hR hsz   v1 v2 ?_
      rw [okl_X11_tour_s4] at ok
      refine ⟨fun kq0 => ?_, fun kq0 => ?_⟩
      · replace ok := ok.1 kq0
        have z := hq; rw [vl_X11_tour_s4, if_pos kq0] at z; exact z
      · replace ok := ok.2 kq0
        refine ⟨ok.1, ?_⟩
        replace ok := ok.2
        refine ⟨ok.1, ?_⟩
        replace ok := ok.2
        have z := hq; rw [vl_X11_tour_s4, if_neg kq0] at z; exact ih.2.2.2.2.1 _  v1 (v2 + (1 : Int32)) ok z
    · intro T  v1 v2 ok hq
      refine s_X11_tour_105 hX hR hsz   v1 v2 ?_
      rw [okl_X11_tour_s5] at ok
      refine ⟨_, c_X11_solve hsz   ok.1, ?_⟩
      rintro _ _ ⟨rfl, rfl⟩
      replace ok := ok.2
      refine ⟨fun kq0 => ?_, fun kq0 => ?_⟩
      · replace ok := ok.1 kq0
        have z := hq; rw [vl_X11_tour_s5, if_pos kq0] at z; exact ih.2.2.2.1 _  v1 (v2 + (1 : Int32)) ok z
      · replace ok := ok.2 kq0
        refine ⟨ok.1, ?_⟩
        replace ok := ok.2
        refine ⟨ok.1, ?_⟩
        replace ok := ok.2
        have z := hq; rw [vl_X11_tour_s5, if_neg kq0] at z; exact ih.2.2.2.2.2 _  v1 v2 ok z
noncomputable def F_X11_tour (T : tT)   : (Int32 × tT) := (vl_X11_tour fu).1 T (0 : Int32)
noncomputable def ok_X11_tour (sz : Nat) (T : tT)   : Prop := (okl_X11_tour fu).1 sz T (0 : Int32)
set_option maxRecDepth 10000 in
theorem c_X11_tour {d L sz : Nat} {T : tT} (hsz : 161 ≤ sz)  (ok : ok_X11_tour sz T) : tiK (d + 3) mX11_tour [.ref 105] L sz T (fun r T' => r = (F_X11_tour T).1 ∧ T' = (F_X11_tour T).2) := by
  refine k_X11_tour hsz   (fun X hX hR => ?_)
  unfold ok_X11_tour at ok
  exact (lj_X11_tour hX hsz  hR _).1 _  (0 : Int32) ok ⟨by unfold F_X11_tour; rfl, by unfold F_X11_tour; rfl⟩
noncomputable def vl_X11_value : Nat → (tT → (Int32 × tT)) × (tT → Int32 → Int32 → (Int32 × tT)) × (tT → Int32 → (Int32 × tT)) × (tT → Int32 → Int32 → (Int32 × tT)) × (tT → Int32 → Int32 → (Int32 × tT)) × (tT → Int32 → Int32 → Int32 → (Int32 × tT)) × (tT → Int32 → Int32 → Int32 → (Int32 × tT)) × (tT → Int32 → Int32 → Int32 → (Int32 × tT)) × (tT → Int32 → Int32 → Int32 → (Int32 × tT))
  | 0 => ((fun (T : tT)   => (0, T)), (fun (T : tT)  (v2 : Int32) (v3 : Int32) => (0, T)), (fun (T : tT)  (w0 : Int32) => (0, T)), (fun (T : tT)  (v2 : Int32) (v3 : Int32) => (0, T)), (fun (T : tT)  (v2 : Int32) (v3 : Int32) => (0, T)), (fun (T : tT)  (v2 : Int32) (v3 : Int32) (w0 : Int32) => (0, T)), (fun (T : tT)  (v2 : Int32) (v3 : Int32) (v4 : Int32) => (0, T)), (fun (T : tT)  (v2 : Int32) (v3 : Int32) (v4 : Int32) => (0, T)), (fun (T : tT)  (v2 : Int32) (v3 : Int32) (v4 : Int32) => (0, T)))
  | n + 1 => ((fun (T : tT)   => (if (v_X11_is T (40 : Int32)) = 0 then (vl_X11_value n).2.2.1 T (3 : Int32) else (vl_X11_value n).2.2.1 T (6 : Int32))), (fun (T : tT)  (v2 : Int32) (v3 : Int32) => (if (T.1 105 8) = (2 : Int32) then (vl_X11_value n).2.2.2.1 T v2 v3 else (if (T.1 105 8) = (3 : Int32) then (if (v_X11_isMeant T (T.2.1 105 10)) = 0 then (vl_X11_value n).2.2.2.2.1 T v2 v3 else (vl_X11_value n).2.2.2.1 T v2 v3) else (vl_X11_value n).2.2.2.2.1 T v2 v3))), (fun (T : tT)  (w0 : Int32) => (if (((F_X11_next (F_X11_pile T w0 (126 : Int32))).1 105 38) + (1 : Int32)) < (8 : Int32) then ((0 : Int32), (tI (F_X11_next (F_X11_pile T w0 (126 : Int32))) 105 38 (((F_X11_next (F_X11_pile T w0 (126 : Int32))).1 105 38) + (1 : Int32)))) else ((0 : Int32), (F_X11_wrong (tI (F_X11_next (F_X11_pile T w0 (126 : Int32))) 105 38 (((F_X11_next (F_X11_pile T w0 (126 : Int32))).1 105 38) + (1 : Int32))))))), (fun (T : tT)  (v2 : Int32) (v3 : Int32) => (vl_X11_value n).2.2.2.2.2.1 T v2 v3 (1 : Int32)), (fun (T : tT)  (v2 : Int32) (v3 : Int32) => (vl_X11_value n).2.2.2.2.2.1 T v2 v3 (0 : Int32)), (fun (T : tT)  (v2 : Int32) (v3 : Int32) (w0 : Int32) => (if (T.1 105 8) = (4 : Int32) then (vl_X11_value n).2.2.2.2.2.2.1 T v2 v3 w0 else (if w0 = 0 then (vl_X11_value n).2.2.2.2.2.2.2.1 T v2 v3 w0 else (vl_X11_value n).2.2.2.2.2.2.1 T v2 v3 w0))), (fun (T : tT)  (v2 : Int32) (v3 : Int32) (v4 : Int32) => (if (T.1 105 13) = (150 : Int32) then (vl_X11_value n).2.2.2.2.2.2.2.1 T v2 v3 v4 else (vl_X11_value n).2.2.2.2.2.2.2.2 T v2 v3 v4)), (fun (T : tT)  (v2 : Int32) (v3 : Int32) (v4 : Int32) => (vl_X11_value n).2.2.2.2.2.2.2.2 (F_X11_wrong T) v2 v3 v4), (fun (T : tT)  (v2 : Int32) (v3 : Int32) (v4 : Int32) => (if (v_X11_isGood T) = 0 then ((0 : Int32), T) else (if v4 = 0 then (if (v_X11_isGood (F_X11_step (tI T 105 13 ((T.1 105 13) + (1 : Int32))) (110 : Int32) (T.1 105 9))) = 0 then ((2 : Int32), (F_X11_step (tI T 105 13 ((T.1 105 13) + (1 : Int32))) (110 : Int32) (T.1 105 9))) else ((2 : Int32), (F_X11_next (F_X11_step (tI T 105 13 ((T.1 105 13) + (1 : Int32))) (110 : Int32) (T.1 105 9))))) else (if (v_X11_isGood (F_X11_meant (tI T 105 13 ((T.1 105 13) + (1 : Int32))) v2 v3)) = 0 then ((2 : Int32), (F_X11_meant (tI T 105 13 ((T.1 105 13) + (1 : Int32))) v2 v3)) else ((2 : Int32), (F_X11_next (F_X11_meant (tI T 105 13 ((T.1 105 13) + (1 : Int32))) v2 v3))))))))
noncomputable def okl_X11_value : Nat → (Nat → tT → Prop) × (Nat → tT → Int32 → Int32 → Prop) × (Nat → tT → Int32 → Prop) × (Nat → tT → Int32 → Int32 → Prop) × (Nat → tT → Int32 → Int32 → Prop) × (Nat → tT → Int32 → Int32 → Int32 → Prop) × (Nat → tT → Int32 → Int32 → Int32 → Prop) × (Nat → tT → Int32 → Int32 → Int32 → Prop) × (Nat → tT → Int32 → Int32 → Int32 → Prop)
  | 0 => ((fun (sz : Nat) (T : tT)   => False), (fun (sz : Nat) (T : tT)  (v2 : Int32) (v3 : Int32) => False), (fun (sz : Nat) (T : tT)  (w0 : Int32) => False), (fun (sz : Nat) (T : tT)  (v2 : Int32) (v3 : Int32) => False), (fun (sz : Nat) (T : tT)  (v2 : Int32) (v3 : Int32) => False), (fun (sz : Nat) (T : tT)  (v2 : Int32) (v3 : Int32) (w0 : Int32) => False), (fun (sz : Nat) (T : tT)  (v2 : Int32) (v3 : Int32) (v4 : Int32) => False), (fun (sz : Nat) (T : tT)  (v2 : Int32) (v3 : Int32) (v4 : Int32) => False), (fun (sz : Nat) (T : tT)  (v2 : Int32) (v3 : Int32) (v4 : Int32) => False))
  | n + 1 => ((fun (sz : Nat) (T : tT)   => (ok_X11_is sz T (40 : Int32) ∧ (((v_X11_is T (40 : Int32)) = 0 → (okl_X11_value n).2.2.1 sz T (3 : Int32)) ∧ (¬ (v_X11_is T (40 : Int32)) = 0 → (okl_X11_value n).2.2.1 sz T (6 : Int32))))), (fun (sz : Nat) (T : tT)  (v2 : Int32) (v3 : Int32) => (((T.1 105 8) = (2 : Int32) → (okl_X11_value n).2.2.2.1 sz T v2 v3) ∧ (¬ (T.1 105 8) = (2 : Int32) → ((¬ (T.1 105 8) = (3 : Int32) → (okl_X11_value n).2.2.2.2.1 sz T v2 v3) ∧ ((T.1 105 8) = (3 : Int32) → (((v_X11_isMeant T (T.2.1 105 10)) = 0 → (okl_X11_value n).2.2.2.2.1 sz T v2 v3) ∧ (¬ (v_X11_isMeant T (T.2.1 105 10)) = 0 → (okl_X11_value n).2.2.2.1 sz T v2 v3))))))), (fun (sz : Nat) (T : tT)  (w0 : Int32) => (ok_X11_pile sz T w0 (126 : Int32) ∧ (ok_X11_next sz (F_X11_pile T w0 (126 : Int32)) ∧ True))), (fun (sz : Nat) (T : tT)  (v2 : Int32) (v3 : Int32) => (okl_X11_value n).2.2.2.2.2.1 sz T v2 v3 (1 : Int32)), (fun (sz : Nat) (T : tT)  (v2 : Int32) (v3 : Int32) => (okl_X11_value n).2.2.2.2.2.1 sz T v2 v3 (0 : Int32)), (fun (sz : Nat) (T : tT)  (v2 : Int32) (v3 : Int32) (w0 : Int32) => (((T.1 105 8) = (4 : Int32) → (okl_X11_value n).2.2.2.2.2.2.1 sz T v2 v3 w0) ∧ (¬ (T.1 105 8) = (4 : Int32) → ((w0 = 0 → (okl_X11_value n).2.2.2.2.2.2.2.1 sz T v2 v3 w0) ∧ (¬ w0 = 0 → (okl_X11_value n).2.2.2.2.2.2.1 sz T v2 v3 w0))))), (fun (sz : Nat) (T : tT)  (v2 : Int32) (v3 : Int32) (v4 : Int32) => ((¬ (T.1 105 13) = (150 : Int32) → (okl_X11_value n).2.2.2.2.2.2.2.2 sz T v2 v3 v4) ∧ ((T.1 105 13) = (150 : Int32) → (okl_X11_value n).2.2.2.2.2.2.2.1 sz T v2 v3 v4))), (fun (sz : Nat) (T : tT)  (v2 : Int32) (v3 : Int32) (v4 : Int32) => (okl_X11_value n).2.2.2.2.2.2.2.2 sz (F_X11_wrong T) v2 v3 v4), (fun (sz : Nat) (T : tT)  (v2 : Int32) (v3 : Int32) (v4 : Int32) => ((¬ (v_X11_isGood T) = 0 → ((v4 = 0 → (ok_X11_step sz (tI T 105 13 ((T.1 105 13) + (1 : Int32))) (110 : Int32) (T.1 105 9) ∧ (((v_X11_isGood (F_X11_step (tI T 105 13 ((T.1 105 13) + (1 : Int32))) (110 : Int32) (T.1 105 9))) = 0 → True) ∧ (¬ (v_X11_isGood (F_X11_step (tI T 105 13 ((T.1 105 13) + (1 : Int32))) (110 : Int32) (T.1 105 9))) = 0 → (ok_X11_next sz (F_X11_step (tI T 105 13 ((T.1 105 13) + (1 : Int32))) (110 : Int32) (T.1 105 9)) ∧ True))))) ∧ (¬ v4 = 0 → (ok_X11_meant sz (tI T 105 13 ((T.1 105 13) + (1 : Int32))) v2 v3 ∧ (((v_X11_isGood (F_X11_meant (tI T 105 13 ((T.1 105 13) + (1 : Int32))) v2 v3)) = 0 → True) ∧ (¬ (v_X11_isGood (F_X11_meant (tI T 105 13 ((T.1 105 13) + (1 : Int32))) v2 v3)) = 0 → (ok_X11_next sz (F_X11_meant (tI T 105 13 ((T.1 105 13) + (1 : Int32))) v2 v3) ∧ True))))))) ∧ ((v_X11_isGood T) = 0 → True))))
theorem vl_X11_value_s0 (n : Nat) (T : tT)   : (vl_X11_value (n + 1)).1 T = (if (v_X11_is T (40 : Int32)) = 0 then (vl_X11_value n).2.2.1 T (3 : Int32) else (vl_X11_value n).2.2.1 T (6 : Int32)) := rfl
theorem okl_X11_value_s0 (n sz : Nat) (T : tT)   : (okl_X11_value (n + 1)).1 sz T = (ok_X11_is sz T (40 : Int32) ∧ (((v_X11_is T (40 : Int32)) = 0 → (okl_X11_value n).2.2.1 sz T (3 : Int32)) ∧ (¬ (v_X11_is T (40 : Int32)) = 0 → (okl_X11_value n).2.2.1 sz T (6 : Int32)))) := rfl
theorem vl_X11_value_s1 (n : Nat) (T : tT)  (v2 : Int32) (v3 : Int32) : (vl_X11_value (n + 1)).2.1 T v2 v3 = (if (T.1 105 8) = (2 : Int32) then (vl_X11_value n).2.2.2.1 T v2 v3 else (if (T.1 105 8) = (3 : Int32) then (if (v_X11_isMeant T (T.2.1 105 10)) = 0 then (vl_X11_value n).2.2.2.2.1 T v2 v3 else (vl_X11_value n).2.2.2.1 T v2 v3) else (vl_X11_value n).2.2.2.2.1 T v2 v3)) := rfl
theorem okl_X11_value_s1 (n sz : Nat) (T : tT)  (v2 : Int32) (v3 : Int32) : (okl_X11_value (n + 1)).2.1 sz T v2 v3 = (((T.1 105 8) = (2 : Int32) → (okl_X11_value n).2.2.2.1 sz T v2 v3) ∧ (¬ (T.1 105 8) = (2 : Int32) → ((¬ (T.1 105 8) = (3 : Int32) → (okl_X11_value n).2.2.2.2.1 sz T v2 v3) ∧ ((T.1 105 8) = (3 : Int32) → (((v_X11_isMeant T (T.2.1 105 10)) = 0 → (okl_X11_value n).2.2.2.2.1 sz T v2 v3) ∧ (¬ (v_X11_isMeant T (T.2.1 105 10)) = 0 → (okl_X11_value n).2.2.2.1 sz T v2 v3)))))) := rfl
theorem vl_X11_value_s2 (n : Nat) (T : tT)  (w0 : Int32) : (vl_X11_value (n + 1)).2.2.1 T w0 = (if (((F_X11_next (F_X11_pile T w0 (126 : Int32))).1 105 38) + (1 : Int32)) < (8 : Int32) then ((0 : Int32), (tI (F_X11_next (F_X11_pile T w0 (126 : Int32))) 105 38 (((F_X11_next (F_X11_pile T w0 (126 : Int32))).1 105 38) + (1 : Int32)))) else ((0 : Int32), (F_X11_wrong (tI (F_X11_next (F_X11_pile T w0 (126 : Int32))) 105 38 (((F_X11_next (F_X11_pile T w0 (126 : Int32))).1 105 38) + (1 : Int32)))))) := rfl
theorem okl_X11_value_s2 (n sz : Nat) (T : tT)  (w0 : Int32) : (okl_X11_value (n + 1)).2.2.1 sz T w0 = (ok_X11_pile sz T w0 (126 : Int32) ∧ (ok_X11_next sz (F_X11_pile T w0 (126 : Int32)) ∧ True)) := rfl
theorem vl_X11_value_s3 (n : Nat) (T : tT)  (v2 : Int32) (v3 : Int32) : (vl_X11_value (n + 1)).2.2.2.1 T v2 v3 = (vl_X11_value n).2.2.2.2.2.1 T v2 v3 (1 : Int32) := rfl
theorem okl_X11_value_s3 (n sz : Nat) (T : tT)  (v2 : Int32) (v3 : Int32) : (okl_X11_value (n + 1)).2.2.2.1 sz T v2 v3 = (okl_X11_value n).2.2.2.2.2.1 sz T v2 v3 (1 : Int32) := rfl
theorem vl_X11_value_s4 (n : Nat) (T : tT)  (v2 : Int32) (v3 : Int32) : (vl_X11_value (n + 1)).2.2.2.2.1 T v2 v3 = (vl_X11_value n).2.2.2.2.2.1 T v2 v3 (0 : Int32) := rfl
theorem okl_X11_value_s4 (n sz : Nat) (T : tT)  (v2 : Int32) (v3 : Int32) : (okl_X11_value (n + 1)).2.2.2.2.1 sz T v2 v3 = (okl_X11_value n).2.2.2.2.2.1 sz T v2 v3 (0 : Int32) := rfl
theorem vl_X11_value_s5 (n : Nat) (T : tT)  (v2 : Int32) (v3 : Int32) (w0 : Int32) : (vl_X11_value (n + 1)).2.2.2.2.2.1 T v2 v3 w0 = (if (T.1 105 8) = (4 : Int32) then (vl_X11_value n).2.2.2.2.2.2.1 T v2 v3 w0 else (if w0 = 0 then (vl_X11_value n).2.2.2.2.2.2.2.1 T v2 v3 w0 else (vl_X11_value n).2.2.2.2.2.2.1 T v2 v3 w0)) := rfl
theorem okl_X11_value_s5 (n sz : Nat) (T : tT)  (v2 : Int32) (v3 : Int32) (w0 : Int32) : (okl_X11_value (n + 1)).2.2.2.2.2.1 sz T v2 v3 w0 = (((T.1 105 8) = (4 : Int32) → (okl_X11_value n).2.2.2.2.2.2.1 sz T v2 v3 w0) ∧ (¬ (T.1 105 8) = (4 : Int32) → ((w0 = 0 → (okl_X11_value n).2.2.2.2.2.2.2.1 sz T v2 v3 w0) ∧ (¬ w0 = 0 → (okl_X11_value n).2.2.2.2.2.2.1 sz T v2 v3 w0)))) := rfl
theorem vl_X11_value_s6 (n : Nat) (T : tT)  (v2 : Int32) (v3 : Int32) (v4 : Int32) : (vl_X11_value (n + 1)).2.2.2.2.2.2.1 T v2 v3 v4 = (if (T.1 105 13) = (150 : Int32) then (vl_X11_value n).2.2.2.2.2.2.2.1 T v2 v3 v4 else (vl_X11_value n).2.2.2.2.2.2.2.2 T v2 v3 v4) := rfl
theorem okl_X11_value_s6 (n sz : Nat) (T : tT)  (v2 : Int32) (v3 : Int32) (v4 : Int32) : (okl_X11_value (n + 1)).2.2.2.2.2.2.1 sz T v2 v3 v4 = ((¬ (T.1 105 13) = (150 : Int32) → (okl_X11_value n).2.2.2.2.2.2.2.2 sz T v2 v3 v4) ∧ ((T.1 105 13) = (150 : Int32) → (okl_X11_value n).2.2.2.2.2.2.2.1 sz T v2 v3 v4)) := rfl
theorem vl_X11_value_s7 (n : Nat) (T : tT)  (v2 : Int32) (v3 : Int32) (v4 : Int32) : (vl_X11_value (n + 1)).2.2.2.2.2.2.2.1 T v2 v3 v4 = (vl_X11_value n).2.2.2.2.2.2.2.2 (F_X11_wrong T) v2 v3 v4 := rfl
theorem okl_X11_value_s7 (n sz : Nat) (T : tT)  (v2 : Int32) (v3 : Int32) (v4 : Int32) : (okl_X11_value (n + 1)).2.2.2.2.2.2.2.1 sz T v2 v3 v4 = (okl_X11_value n).2.2.2.2.2.2.2.2 sz (F_X11_wrong T) v2 v3 v4 := rfl
theorem vl_X11_value_s8 (n : Nat) (T : tT)  (v2 : Int32) (v3 : Int32) (v4 : Int32) : (vl_X11_value (n + 1)).2.2.2.2.2.2.2.2 T v2 v3 v4 = (if (v_X11_isGood T) = 0 then ((0 : Int32), T) else (if v4 = 0 then (if (v_X11_isGood (F_X11_step (tI T 105 13 ((T.1 105 13) + (1 : Int32))) (110 : Int32) (T.1 105 9))) = 0 then ((2 : Int32), (F_X11_step (tI T 105 13 ((T.1 105 13) + (1 : Int32))) (110 : Int32) (T.1 105 9))) else ((2 : Int32), (F_X11_next (F_X11_step (tI T 105 13 ((T.1 105 13) + (1 : Int32))) (110 : Int32) (T.1 105 9))))) else (if (v_X11_isGood (F_X11_meant (tI T 105 13 ((T.1 105 13) + (1 : Int32))) v2 v3)) = 0 then ((2 : Int32), (F_X11_meant (tI T 105 13 ((T.1 105 13) + (1 : Int32))) v2 v3)) else ((2 : Int32), (F_X11_next (F_X11_meant (tI T 105 13 ((T.1 105 13) + (1 : Int32))) v2 v3)))))) := rfl
theorem okl_X11_value_s8 (n sz : Nat) (T : tT)  (v2 : Int32) (v3 : Int32) (v4 : Int32) : (okl_X11_value (n + 1)).2.2.2.2.2.2.2.2 sz T v2 v3 v4 = ((¬ (v_X11_isGood T) = 0 → ((v4 = 0 → (ok_X11_step sz (tI T 105 13 ((T.1 105 13) + (1 : Int32))) (110 : Int32) (T.1 105 9) ∧ (((v_X11_isGood (F_X11_step (tI T 105 13 ((T.1 105 13) + (1 : Int32))) (110 : Int32) (T.1 105 9))) = 0 → True) ∧ (¬ (v_X11_isGood (F_X11_step (tI T 105 13 ((T.1 105 13) + (1 : Int32))) (110 : Int32) (T.1 105 9))) = 0 → (ok_X11_next sz (F_X11_step (tI T 105 13 ((T.1 105 13) + (1 : Int32))) (110 : Int32) (T.1 105 9)) ∧ True))))) ∧ (¬ v4 = 0 → (ok_X11_meant sz (tI T 105 13 ((T.1 105 13) + (1 : Int32))) v2 v3 ∧ (((v_X11_isGood (F_X11_meant (tI T 105 13 ((T.1 105 13) + (1 : Int32))) v2 v3)) = 0 → True) ∧ (¬ (v_X11_isGood (F_X11_meant (tI T 105 13 ((T.1 105 13) + (1 : Int32))) v2 v3)) = 0 → (ok_X11_next sz (F_X11_meant (tI T 105 13 ((T.1 105 13) + (1 : Int32))) v2 v3) ∧ True))))))) ∧ ((v_X11_isGood T) = 0 → True)) := rfl
set_option maxRecDepth 10000 in
set_option maxHeartbeats 1000000 in
theorem lj_X11_value {X : ax_X} {d L sz : Nat} {Q : Int32 → tT → Prop} (hX : ax_ok X mX11_value (d + 3)) (hsz : 161 ≤ sz) (hR : ax_Ret X mX11_value (ti L sz Q)) : ∀ n : Nat, (∀ (T : tT)  , (okl_X11_value n).1 sz T → Q ((vl_X11_value n).1 T).1 ((vl_X11_value n).1 T).2 → ax_j X 23 [some (.ref 105), none, none, none, none] [] (th L sz T) 0 0) ∧ (∀ (T : tT)  (v2 : Int32) (v3 : Int32), (okl_X11_value n).2.1 sz T v2 v3 → Q ((vl_X11_value n).2.1 T v2 v3).1 ((vl_X11_value n).2.1 T v2 v3).2 → ax_j X 73 [some (.ref 105), none, some (.int v2), some (.int v3), none] [] (th L sz T) 0 0) ∧ (∀ (T : tT)  (w0 : Int32), (okl_X11_value n).2.2.1 sz T w0 → Q ((vl_X11_value n).2.2.1 T w0).1 ((vl_X11_value n).2.2.1 T w0).2 → ax_j X 39 [some (.ref 105), none, none, none, none] [.int w0, .ref 105] (th L sz T) 0 0) ∧ (∀ (T : tT)  (v2 : Int32) (v3 : Int32), (okl_X11_value n).2.2.2.1 sz T v2 v3 → Q ((vl_X11_value n).2.2.2.1 T v2 v3).1 ((vl_X11_value n).2.2.2.1 T v2 v3).2 → ax_j X 99 [some (.ref 105), none, some (.int v2), some (.int v3), none] [] (th L sz T) 0 0) ∧ (∀ (T : tT)  (v2 : Int32) (v3 : Int32), (okl_X11_value n).2.2.2.2.1 sz T v2 v3 → Q ((vl_X11_value n).2.2.2.2.1 T v2 v3).1 ((vl_X11_value n).2.2.2.2.1 T v2 v3).2 → ax_j X 103 [some (.ref 105), none, some (.int v2), some (.int v3), none] [] (th L sz T) 0 0) ∧ (∀ (T : tT)  (v2 : Int32) (v3 : Int32) (w0 : Int32), (okl_X11_value n).2.2.2.2.2.1 sz T v2 v3 w0 → Q ((vl_X11_value n).2.2.2.2.2.1 T v2 v3 w0).1 ((vl_X11_value n).2.2.2.2.2.1 T v2 v3 w0).2 → ax_j X 104 [some (.ref 105), none, some (.int v2), some (.int v3), none] [.int w0] (th L sz T) 0 0) ∧ (∀ (T : tT)  (v2 : Int32) (v3 : Int32) (v4 : Int32), (okl_X11_value n).2.2.2.2.2.2.1 sz T v2 v3 v4 → Q ((vl_X11_value n).2.2.2.2.2.2.1 T v2 v3 v4).1 ((vl_X11_value n).2.2.2.2.2.2.1 T v2 v3 v4).2 → ax_j X 119 [some (.ref 105), none, some (.int v2), some (.int v3), some (.int v4)] [] (th L sz T) 0 0) ∧ (∀ (T : tT)  (v2 : Int32) (v3 : Int32) (v4 : Int32), (okl_X11_value n).2.2.2.2.2.2.2.1 sz T v2 v3 v4 → Q ((vl_X11_value n).2.2.2.2.2.2.2.1 T v2 v3 v4).1 ((vl_X11_value n).2.2.2.2.2.2.2.1 T v2 v3 v4).2 → ax_j X 129 [some (.ref 105), none, some (.int v2), some (.int v3), some (.int v4)] [] (th L sz T) 0 0) ∧ (∀ (T : tT)  (v2 : Int32) (v3 : Int32) (v4 : Int32), (okl_X11_value n).2.2.2.2.2.2.2.2 sz T v2 v3 v4 → Q ((vl_X11_value n).2.2.2.2.2.2.2.2 T v2 v3 v4).1 ((vl_X11_value n).2.2.2.2.2.2.2.2 T v2 v3 v4).2 → ax_j X 133 [some (.ref 105), none, some (.int v2), some (.int v3), some (.int v4)] [] (th L sz T) 0 0) := by
  intro n
  induction n with
  | zero => exact ⟨(by intros; rename_i ok _; exact False.elim ok), (by intros; rename_i ok _; exact False.elim ok), (by intros; rename_i ok _; exact False.elim ok), (by intros; rename_i ok _; exact False.elim ok), (by intros; rename_i ok _; exact False.elim ok), (by intros; rename_i ok _; exact False.elim ok), (by intros; rename_i ok _; exact False.elim ok), (by intros; rename_i ok _; exact False.elim ok), (by intros; rename_i ok _; exact False.elim ok)⟩
  | succ n ih =>
    refine ⟨?_, ?_, ?_, ?_, ?_, ?_, ?_, ?_, ?_⟩
    · intro T   ok hq
      refine s_X11_value_23 hX hR hsz    ?_
      rw [okl_X11_value_s0] at ok
      refine ⟨_, c_X11_is hsz  (40 : Int32) ok.1, ?_⟩
      rintro _ _ ⟨rfl, rfl⟩
      replace ok := ok.2
      refine ⟨fun kq0 => ?_, fun kq0 => ?_⟩
      · replace ok := ok.1 kq0
        have z := hq; rw [vl_X11_value_s0, if_pos kq0] at z; exact ih.2.2.1 _  (3 : Int32) ok z
      · replace ok := ok.2 kq0
        have z := hq; rw [vl_X11_value_s0, if_neg kq0] at z; exact ih.2.2.1 _  (6 : Int32) ok z
    · intro T  v2 v3 ok hq
      refine s_X11_value_73 hX hR hsz   v2 v3 ?_
      rw [okl_X11_value_s1] at ok
      refine ⟨fun kq0 => ?_, fun kq0 => ?_⟩
      · replace ok := ok.1 kq0
        have z := hq; rw [vl_X11_value_s1, if_pos kq0] at z; exact ih.2.2.2.1 _  v2 v3 ok z
      · replace ok := ok.2 kq0
        refine ⟨fun kq1 => ?_, fun kq1 => ?_⟩
        · replace ok := ok.1 kq1
          have z := hq; rw [vl_X11_value_s1, if_neg kq0, if_neg kq1] at z; exact ih.2.2.2.2.1 _  v2 v3 ok z
        · replace ok := ok.2 kq1
          refine ⟨_, c_X11_isMeant hsz  (T.2.1 105 10) , ?_⟩
          rintro _ _ ⟨rfl, rfl⟩
          refine ⟨fun kq2 => ?_, fun kq2 => ?_⟩
          · replace ok := ok.1 kq2
            have z := hq; rw [vl_X11_value_s1, if_neg kq0, if_pos kq1, if_pos kq2] at z; exact ih.2.2.2.2.1 _  v2 v3 ok z
          · replace ok := ok.2 kq2
            have z := hq; rw [vl_X11_value_s1, if_neg kq0, if_pos kq1, if_neg kq2] at z; exact ih.2.2.2.1 _  v2 v3 ok z
    · intro T  w0 ok hq
      refine s_X11_value_39 hX hR hsz   w0 ?_
      rw [okl_X11_value_s2] at ok
      refine ⟨_, c_X11_pile hsz  w0 (126 : Int32) ok.1, ?_⟩
      rintro _ rfl
      replace ok := ok.2
      refine ⟨_, c_X11_next hsz   ok.1, ?_⟩
      rintro _ rfl
      replace ok := ok.2
      refine ⟨fun kq0 => ?_, fun kq0 => ?_⟩
      · have z := hq; rw [vl_X11_value_s2, if_pos kq0] at z; exact z
      · refine ⟨_, c_X11_wrong hsz   , ?_⟩
        rintro _ rfl
        have z := hq; rw [vl_X11_value_s2, if_neg kq0] at z; exact z
    · intro T  v2 v3 ok hq
      refine s_X11_value_99 hX hR hsz   v2 v3 ?_
      rw [okl_X11_value_s3] at ok
      have z := hq; rw [vl_X11_value_s3] at z; exact ih.2.2.2.2.2.1 _  v2 v3 (1 : Int32) ok z
    · intro T  v2 v3 ok hq
      refine s_X11_value_103 hX hR hsz   v2 v3 ?_
      rw [okl_X11_value_s4] at ok
      have z := hq; rw [vl_X11_value_s4] at z; exact ih.2.2.2.2.2.1 _  v2 v3 (0 : Int32) ok z
    · intro T  v2 v3 w0 ok hq
      refine s_X11_value_104 hX hR hsz   v2 v3 w0 ?_
      rw [okl_X11_value_s5] at ok
      refine ⟨fun kq0 => ?_, fun kq0 => ?_⟩
      · replace ok := ok.1 kq0
        have z := hq; rw [vl_X11_value_s5, if_pos kq0] at z; exact ih.2.2.2.2.2.2.1 _  v2 v3 w0 ok z
      · replace ok := ok.2 kq0
        refine ⟨fun kq1 => ?_, fun kq1 => ?_⟩
        · replace ok := ok.1 kq1
          have z := hq; rw [vl_X11_value_s5, if_neg kq0, if_pos kq1] at z; exact ih.2.2.2.2.2.2.2.1 _  v2 v3 w0 ok z
        · replace ok := ok.2 kq1
          have z := hq; rw [vl_X11_value_s5, if_neg kq0, if_neg kq1] at z; exact ih.2.2.2.2.2.2.1 _  v2 v3 w0 ok z
    · intro T  v2 v3 v4 ok hq
      refine s_X11_value_119 hX hR hsz   v2 v3 v4 ?_
      rw [okl_X11_value_s6] at ok
      refine ⟨fun kq0 => ?_, fun kq0 => ?_⟩
      · replace ok := ok.1 kq0
        have z := hq; rw [vl_X11_value_s6, if_neg kq0] at z; exact ih.2.2.2.2.2.2.2.2 _  v2 v3 v4 ok z
      · replace ok := ok.2 kq0
        have z := hq; rw [vl_X11_value_s6, if_pos kq0] at z; exact ih.2.2.2.2.2.2.2.1 _  v2 v3 v4 ok z
    · intro T  v2 v3 v4 ok hq
      refine s_X11_value_129 hX hR hsz   v2 v3 v4 ?_
      rw [okl_X11_value_s7] at ok
      refine ⟨_, c_X11_wrong hsz   , ?_⟩
      rintro _ rfl
      have z := hq; rw [vl_X11_value_s7] at z; exact ih.2.2.2.2.2.2.2.2 _  v2 v3 v4 ok z
    · intro T  v2 v3 v4 ok hq
      refine s_X11_value_133 hX hR hsz   v2 v3 v4 ?_
      rw [okl_X11_value_s8] at ok
      refine ⟨_, c_X11_isGood hsz   , ?_⟩
      rintro _ _ ⟨rfl, rfl⟩
      refine ⟨fun kq0 => ?_, fun kq0 => ?_⟩
      · replace ok := ok.1 kq0
        refine ⟨fun kq1 => ?_, fun kq1 => ?_⟩
        · replace ok := ok.1 kq1
          refine ⟨_, c_X11_step hsz  (110 : Int32) (T.1 105 9) ok.1, ?_⟩
          rintro _ rfl
          replace ok := ok.2
          refine ⟨_, c_X11_isGood hsz   , ?_⟩
          rintro _ _ ⟨rfl, rfl⟩
          refine ⟨fun kq2 => ?_, fun kq2 => ?_⟩
          · replace ok := ok.1 kq2
            have z := hq; rw [vl_X11_value_s8, if_neg kq0, if_pos kq1, if_pos kq2] at z; exact z
          · replace ok := ok.2 kq2
            refine ⟨_, c_X11_next hsz   ok.1, ?_⟩
            rintro _ rfl
            replace ok := ok.2
            have z := hq; rw [vl_X11_value_s8, if_neg kq0, if_pos kq1, if_neg kq2] at z; exact z
        · replace ok := ok.2 kq1
          refine ⟨_, c_X11_meant hsz  v2 v3 ok.1, ?_⟩
          rintro _ rfl
          replace ok := ok.2
          refine ⟨_, c_X11_isGood hsz   , ?_⟩
          rintro _ _ ⟨rfl, rfl⟩
          refine ⟨fun kq2 => ?_, fun kq2 => ?_⟩
          · replace ok := ok.1 kq2
            have z := hq; rw [vl_X11_value_s8, if_neg kq0, if_neg kq1, if_pos kq2] at z; exact z
          · replace ok := ok.2 kq2
            refine ⟨_, c_X11_next hsz   ok.1, ?_⟩
            rintro _ rfl
            replace ok := ok.2
            have z := hq; rw [vl_X11_value_s8, if_neg kq0, if_neg kq1, if_neg kq2] at z; exact z
      · replace ok := ok.2 kq0
        have z := hq; rw [vl_X11_value_s8, if_pos kq0] at z; exact z
noncomputable def F_X11_value (T : tT)  (x0 : Int32) (x1 : Int32) (x2 : Int32) : (Int32 × tT) := (if (v_X11_is T (40 : Int32)) = 0 then (if x0 = 0 then (if (v_X11_isWord T (7237492 : Int64)) = 0 then (vl_X11_value fu).2.1 T x1 x2 else (vl_X11_value fu).1 T) else (vl_X11_value fu).2.1 T x1 x2) else (vl_X11_value fu).1 T)
noncomputable def ok_X11_value (sz : Nat) (T : tT)  (x0 : Int32) (x1 : Int32) (x2 : Int32) : Prop := (ok_X11_is sz T (40 : Int32) ∧ ((¬ (v_X11_is T (40 : Int32)) = 0 → (okl_X11_value fu).1 sz T) ∧ ((v_X11_is T (40 : Int32)) = 0 → ((¬ x0 = 0 → (okl_X11_value fu).2.1 sz T x1 x2) ∧ (x0 = 0 → (((v_X11_isWord T (7237492 : Int64)) = 0 → (okl_X11_value fu).2.1 sz T x1 x2) ∧ (¬ (v_X11_isWord T (7237492 : Int64)) = 0 → (okl_X11_value fu).1 sz T)))))))
set_option maxRecDepth 10000 in
theorem c_X11_value {d L sz : Nat} {T : tT} (hsz : 161 ≤ sz) (x0 : Int32) (x1 : Int32) (x2 : Int32) (ok : ok_X11_value sz T x0 x1 x2) : tiK (d + 3) mX11_value [.ref 105, .int x0, .int x1, .int x2] L sz T (fun r T' => r = (F_X11_value T x0 x1 x2).1 ∧ T' = (F_X11_value T x0 x1 x2).2) := by
  refine k_X11_value hsz  x0 x1 x2 (fun X hX hR => ?_)
  unfold ok_X11_value at ok
  refine ⟨_, c_X11_is hsz  (40 : Int32) ok.1, ?_⟩
  rintro _ _ ⟨rfl, rfl⟩
  replace ok := ok.2
  refine ⟨fun kq0 => ?_, fun kq0 => ?_⟩
  · replace ok := ok.1 kq0
    exact (lj_X11_value hX hsz  hR _).1 _   ok ⟨by unfold F_X11_value; first | (rw [if_neg kq0]; done) | (rw [if_neg kq0]; rfl), by unfold F_X11_value; first | (rw [if_neg kq0]; done) | (rw [if_neg kq0]; rfl)⟩
  · replace ok := ok.2 kq0
    refine ⟨fun kq1 => ?_, fun kq1 => ?_⟩
    · replace ok := ok.1 kq1
      exact (lj_X11_value hX hsz  hR _).2.1 _  x1 x2 ok ⟨by unfold F_X11_value; first | (rw [if_pos kq0, if_neg kq1]; done) | (rw [if_pos kq0, if_neg kq1]; rfl), by unfold F_X11_value; first | (rw [if_pos kq0, if_neg kq1]; done) | (rw [if_pos kq0, if_neg kq1]; rfl)⟩
    · replace ok := ok.2 kq1
      refine ⟨_, c_X11_isWord hsz  (7237492 : Int64) , ?_⟩
      rintro _ _ ⟨rfl, rfl⟩
      refine ⟨fun kq2 => ?_, fun kq2 => ?_⟩
      · replace ok := ok.1 kq2
        exact (lj_X11_value hX hsz  hR _).2.1 _  x1 x2 ok ⟨by unfold F_X11_value; first | (rw [if_pos kq0, if_pos kq1, if_pos kq2]; done) | (rw [if_pos kq0, if_pos kq1, if_pos kq2]; rfl), by unfold F_X11_value; first | (rw [if_pos kq0, if_pos kq1, if_pos kq2]; done) | (rw [if_pos kq0, if_pos kq1, if_pos kq2]; rfl)⟩
      · replace ok := ok.2 kq2
        exact (lj_X11_value hX hsz  hR _).1 _   ok ⟨by unfold F_X11_value; first | (rw [if_pos kq0, if_pos kq1, if_neg kq2]; done) | (rw [if_pos kq0, if_pos kq1, if_neg kq2]; rfl), by unfold F_X11_value; first | (rw [if_pos kq0, if_pos kq1, if_neg kq2]; done) | (rw [if_pos kq0, if_pos kq1, if_neg kq2]; rfl)⟩
noncomputable def vl_X11_e : Nat → tT → Int32 → Int32 → Int32 → tT
  | 0, T, v1, v2, v3 => T
  | n + 1, T, v1, v2, v3 => (if (v_X11_isGood T) = 0 then T else (if (T.1 105 37) ≤ 0 then T else (if v3 = (2 : Int32) then vl_X11_e n ((F_X11_behind T).2) v1 v2 ((F_X11_behind T).1) else vl_X11_e n ((F_X11_value T v3 v1 v2).2) v1 v2 ((F_X11_value T v3 v1 v2).1))))
noncomputable def okl_X11_e : Nat → Nat → tT → Int32 → Int32 → Int32 → Prop
  | 0, _, T, v1, v2, v3 => False
  | n + 1, sz, T, v1, v2, v3 => (((v_X11_isGood T) = 0 → True) ∧ (¬ (v_X11_isGood T) = 0 → (((T.1 105 37) ≤ 0 → True) ∧ (¬ (T.1 105 37) ≤ 0 → ((¬ v3 = (2 : Int32) → (ok_X11_value sz T v3 v1 v2 ∧ okl_X11_e n sz ((F_X11_value T v3 v1 v2).2) v1 v2 ((F_X11_value T v3 v1 v2).1))) ∧ (v3 = (2 : Int32) → (ok_X11_behind sz T ∧ okl_X11_e n sz ((F_X11_behind T).2) v1 v2 ((F_X11_behind T).1))))))))
theorem vl_X11_e_s (n : Nat) (T : tT)  (v1 : Int32) (v2 : Int32) (v3 : Int32) : vl_X11_e (n + 1) T v1 v2 v3 = (if (v_X11_isGood T) = 0 then T else (if (T.1 105 37) ≤ 0 then T else (if v3 = (2 : Int32) then vl_X11_e n ((F_X11_behind T).2) v1 v2 ((F_X11_behind T).1) else vl_X11_e n ((F_X11_value T v3 v1 v2).2) v1 v2 ((F_X11_value T v3 v1 v2).1)))) := rfl
set_option maxRecDepth 10000 in
theorem lj_X11_e {X : ax_X} {d L sz : Nat} {Q : tT → Prop} (hX : ax_ok X mX11_e (d + 5)) (hsz : 161 ≤ sz) (hR : ax_Ret X mX11_e (tv L sz Q)) : ∀ (n : Nat) (T : tT) (v1 : Int32) (v2 : Int32) (v3 : Int32), okl_X11_e n sz T v1 v2 v3 → Q (vl_X11_e n T v1 v2 v3) → ax_j X 19 [some (.ref 105), some (.int v1), some (.int v2), some (.int v3)] [] (th L sz T) 0 0 := by
  intro n
  induction n with
  | zero => intro T v1 v2 v3 ok; exact False.elim ok
  | succ n ih =>
    intro T v1 v2 v3 ok hq
    refine s_X11_e_19 hX hR hsz  v1 v2 v3 ?_
    unfold okl_X11_e at ok
    refine ⟨_, c_X11_isGood hsz   , ?_⟩
    rintro _ _ ⟨rfl, rfl⟩
    refine ⟨fun kq0 => ?_, fun kq0 => ?_⟩
    · replace ok := ok.1 kq0
      have z := hq; rw [vl_X11_e_s, if_pos kq0] at z; exact z
    · replace ok := ok.2 kq0
      refine ⟨fun kq1 => ?_, fun kq1 => ?_⟩
      · replace ok := ok.1 kq1
        have z := hq; rw [vl_X11_e_s, if_neg kq0, if_pos kq1] at z; exact z
      · replace ok := ok.2 kq1
        refine ⟨fun kq2 => ?_, fun kq2 => ?_⟩
        · replace ok := ok.1 kq2
          refine ⟨_, c_X11_value hsz  v3 v1 v2 ok.1, ?_⟩
          rintro _ _ ⟨rfl, rfl⟩
          replace ok := ok.2
          have z := hq; rw [vl_X11_e_s, if_neg kq0, if_neg kq1, if_neg kq2] at z; exact ih _ v1 v2 ((F_X11_value T v3 v1 v2).1) ok z
        · replace ok := ok.2 kq2
          refine ⟨_, c_X11_behind hsz   ok.1, ?_⟩
          rintro _ _ ⟨rfl, rfl⟩
          replace ok := ok.2
          have z := hq; rw [vl_X11_e_s, if_neg kq0, if_neg kq1, if_pos kq2] at z; exact ih _ v1 v2 ((F_X11_behind T).1) ok z
noncomputable def F_X11_e (T : tT)  (x0 : Int32) (x1 : Int32) : tT := vl_X11_e fu (F_X11_pile (tI (tI T 105 37 (0 : Int32)) 105 38 (0 : Int32)) (7 : Int32) (0 : Int32)) x0 x1 (0 : Int32)
noncomputable def ok_X11_e (sz : Nat) (T : tT)  (x0 : Int32) (x1 : Int32) : Prop := (ok_X11_pile sz (tI (tI T 105 37 (0 : Int32)) 105 38 (0 : Int32)) (7 : Int32) (0 : Int32) ∧ okl_X11_e fu sz (F_X11_pile (tI (tI T 105 37 (0 : Int32)) 105 38 (0 : Int32)) (7 : Int32) (0 : Int32)) x0 x1 (0 : Int32))
set_option maxRecDepth 10000 in
theorem c_X11_e {d L sz : Nat} {T : tT} (hsz : 161 ≤ sz) (x0 : Int32) (x1 : Int32) (ok : ok_X11_e sz T x0 x1) : tvK (d + 5) mX11_e [.ref 105, .int x0, .int x1] L sz T (fun T' => T' = F_X11_e T x0 x1) := by
  refine k_X11_e hsz  x0 x1 (fun X hX hR => ?_)
  unfold ok_X11_e at ok
  refine ⟨_, c_X11_pile hsz  (7 : Int32) (0 : Int32) ok.1, ?_⟩
  rintro _ rfl
  replace ok := ok.2
  exact lj_X11_e hX hsz  hR _ _ x0 x1 (0 : Int32) ok (by unfold F_X11_e; rfl)
noncomputable def vl_X11_readItem : Nat → (tT → Int32 → Int64 → tT) × (tT → Int32 → Int64 → Int32 → tT) × (tT → Int32 → Int64 → tT) × (tT → Int32 → Int64 → Int32 → Int32 → Int32 → tT)
  | 0 => ((fun (T : tT)  (v1 : Int32) (w0 : Int64) => T), (fun (T : tT)  (v1 : Int32) (v2 : Int64) (w0 : Int32) => T), (fun (T : tT)  (v1 : Int32) (v2 : Int64) => T), (fun (T : tT)  (v1 : Int32) (v2 : Int64) (v5 : Int32) (w0 : Int32) (w1 : Int32) => T))
  | n + 1 => ((fun (T : tT)  (v1 : Int32) (w0 : Int64) => (if w0 = (1818850164 : Int64) then (if (T.1 111 (v1.toNatClampNeg)) = (6 : Int32) then (vl_X11_readItem n).2.1 T v1 w0 (1 : Int32) else (vl_X11_readItem n).2.1 T v1 w0 (0 : Int32)) else (if w0 = (1885434484 : Int64) then (if (T.1 113 (v1.toNatClampNeg)) = (6 : Int32) then (vl_X11_readItem n).2.1 T v1 w0 (1 : Int32) else (vl_X11_readItem n).2.1 T v1 w0 (0 : Int32)) else (if w0 = (1836413812 : Int64) then (if (T.1 115 (v1.toNatClampNeg)) = (8 : Int32) then (vl_X11_readItem n).2.1 T v1 w0 (1 : Int32) else (vl_X11_readItem n).2.1 T v1 w0 (0 : Int32)) else (if w0 = (30796695599342963 : Int64) then (if (T.1 116 (v1.toNatClampNeg)) ≤ 0 then (vl_X11_readItem n).2.1 T v1 w0 (0 : Int32) else (vl_X11_readItem n).2.1 T v1 w0 (1 : Int32)) else (if w0 = (1885434739 : Int64) then (if (T.1 119 (v1.toNatClampNeg)) < 0 then (vl_X11_readItem n).2.1 T v1 w0 (0 : Int32) else (vl_X11_readItem n).2.1 T v1 w0 (1 : Int32)) else (if w0 = (469853432180 : Int64) then (if (T.1 121 (v1.toNatClampNeg)) < 0 then (vl_X11_readItem n).2.1 T v1 w0 (0 : Int32) else (vl_X11_readItem n).2.1 T v1 w0 (1 : Int32)) else (vl_X11_readItem n).2.1 T v1 w0 (1 : Int32)))))))), (fun (T : tT)  (v1 : Int32) (v2 : Int64) (w0 : Int32) => (if w0 = 0 then (vl_X11_readItem n).2.2.1 T v1 v2 else (vl_X11_readItem n).2.2.1 (F_X11_wrong T) v1 v2)), (fun (T : tT)  (v1 : Int32) (v2 : Int64) => (if (v_X11_isGood T) = 0 then T else (if v2 = (1818850164 : Int64) then (if (v_X11_isGood (F_X11_readList (F_X11_next T) v1)) = 0 then (F_X11_readList (F_X11_next T) v1) else (F_X11_must (F_X11_readList (F_X11_next T) v1) (59 : Int32))) else (if v2 = (1885434484 : Int64) then (if (v_X11_isGood (F_X11_readPart (F_X11_next T) v1)) = 0 then (F_X11_readPart (F_X11_next T) v1) else (F_X11_must (F_X11_readPart (F_X11_next T) v1) (59 : Int32))) else (if v2 = (30796695599342963 : Int64) then (if (v_X11_isGood (tI (F_X11_numberOf (F_X11_next T) (1 : Int32) (120 : Int32)).2 116 (v1.toNatClampNeg) (F_X11_numberOf (F_X11_next T) (1 : Int32) (120 : Int32)).1)) = 0 then (tI (F_X11_numberOf (F_X11_next T) (1 : Int32) (120 : Int32)).2 116 (v1.toNatClampNeg) (F_X11_numberOf (F_X11_next T) (1 : Int32) (120 : Int32)).1) else (F_X11_must (tI (F_X11_numberOf (F_X11_next T) (1 : Int32) (120 : Int32)).2 116 (v1.toNatClampNeg) (F_X11_numberOf (F_X11_next T) (1 : Int32) (120 : Int32)).1) (59 : Int32))) else (if v2 = (1836413812 : Int64) then (vl_X11_readItem n).2.2.2 (F_X11_next T) v1 v2 ((F_X11_next T).1 105 14) (1 : Int32) v1 else (vl_X11_readItem n).2.2.2 (F_X11_next T) v1 v2 ((F_X11_next T).1 105 14) (0 : Int32) v1)))))), (fun (T : tT)  (v1 : Int32) (v2 : Int64) (v5 : Int32) (w0 : Int32) (w1 : Int32) => (if v2 = (1836413812 : Int64) then (if (v_X11_isGood (tI (tI (tI (F_X11_e T w1 w0) 117 ((((8 : Int32) * v1) + ((F_X11_e T w1 w0).1 115 (v1.toNatClampNeg))).toNatClampNeg) v5) 118 ((((8 : Int32) * v1) + ((F_X11_e T w1 w0).1 115 (v1.toNatClampNeg))).toNatClampNeg) ((F_X11_e T w1 w0).1 105 14)) 115 (v1.toNatClampNeg) (((F_X11_e T w1 w0).1 115 (v1.toNatClampNeg)) + (1 : Int32)))) = 0 then (tI (tI (tI (F_X11_e T w1 w0) 117 ((((8 : Int32) * v1) + ((F_X11_e T w1 w0).1 115 (v1.toNatClampNeg))).toNatClampNeg) v5) 118 ((((8 : Int32) * v1) + ((F_X11_e T w1 w0).1 115 (v1.toNatClampNeg))).toNatClampNeg) ((F_X11_e T w1 w0).1 105 14)) 115 (v1.toNatClampNeg) (((F_X11_e T w1 w0).1 115 (v1.toNatClampNeg)) + (1 : Int32))) else (F_X11_must (tI (tI (tI (F_X11_e T w1 w0) 117 ((((8 : Int32) * v1) + ((F_X11_e T w1 w0).1 115 (v1.toNatClampNeg))).toNatClampNeg) v5) 118 ((((8 : Int32) * v1) + ((F_X11_e T w1 w0).1 115 (v1.toNatClampNeg))).toNatClampNeg) ((F_X11_e T w1 w0).1 105 14)) 115 (v1.toNatClampNeg) (((F_X11_e T w1 w0).1 115 (v1.toNatClampNeg)) + (1 : Int32))) (59 : Int32))) else (if v2 = (1885434739 : Int64) then (if (v_X11_isGood (tI (tI (F_X11_e T w1 w0) 119 (v1.toNatClampNeg) v5) 120 (v1.toNatClampNeg) ((F_X11_e T w1 w0).1 105 14))) = 0 then (tI (tI (F_X11_e T w1 w0) 119 (v1.toNatClampNeg) v5) 120 (v1.toNatClampNeg) ((F_X11_e T w1 w0).1 105 14)) else (F_X11_must (tI (tI (F_X11_e T w1 w0) 119 (v1.toNatClampNeg) v5) 120 (v1.toNatClampNeg) ((F_X11_e T w1 w0).1 105 14)) (59 : Int32))) else (if (v_X11_isGood (tI (tI (F_X11_e T w1 w0) 121 (v1.toNatClampNeg) v5) 122 (v1.toNatClampNeg) ((F_X11_e T w1 w0).1 105 14))) = 0 then (tI (tI (F_X11_e T w1 w0) 121 (v1.toNatClampNeg) v5) 122 (v1.toNatClampNeg) ((F_X11_e T w1 w0).1 105 14)) else (F_X11_must (tI (tI (F_X11_e T w1 w0) 121 (v1.toNatClampNeg) v5) 122 (v1.toNatClampNeg) ((F_X11_e T w1 w0).1 105 14)) (59 : Int32)))))))
noncomputable def okl_X11_readItem : Nat → (Nat → tT → Int32 → Int64 → Prop) × (Nat → tT → Int32 → Int64 → Int32 → Prop) × (Nat → tT → Int32 → Int64 → Prop) × (Nat → tT → Int32 → Int64 → Int32 → Int32 → Int32 → Prop)
  | 0 => ((fun (sz : Nat) (T : tT)  (v1 : Int32) (w0 : Int64) => False), (fun (sz : Nat) (T : tT)  (v1 : Int32) (v2 : Int64) (w0 : Int32) => False), (fun (sz : Nat) (T : tT)  (v1 : Int32) (v2 : Int64) => False), (fun (sz : Nat) (T : tT)  (v1 : Int32) (v2 : Int64) (v5 : Int32) (w0 : Int32) (w1 : Int32) => False))
  | n + 1 => ((fun (sz : Nat) (T : tT)  (v1 : Int32) (w0 : Int64) => ((¬ w0 = (1818850164 : Int64) → ((¬ w0 = (1885434484 : Int64) → ((¬ w0 = (1836413812 : Int64) → ((¬ w0 = (30796695599342963 : Int64) → ((¬ w0 = (1885434739 : Int64) → ((¬ w0 = (469853432180 : Int64) → (okl_X11_readItem n).2.1 sz T v1 w0 (1 : Int32)) ∧ (w0 = (469853432180 : Int64) → (vp_in v1 40 ∧ (((T.1 121 (v1.toNatClampNeg)) < 0 → (okl_X11_readItem n).2.1 sz T v1 w0 (0 : Int32)) ∧ (¬ (T.1 121 (v1.toNatClampNeg)) < 0 → (okl_X11_readItem n).2.1 sz T v1 w0 (1 : Int32))))))) ∧ (w0 = (1885434739 : Int64) → (vp_in v1 40 ∧ (((T.1 119 (v1.toNatClampNeg)) < 0 → (okl_X11_readItem n).2.1 sz T v1 w0 (0 : Int32)) ∧ (¬ (T.1 119 (v1.toNatClampNeg)) < 0 → (okl_X11_readItem n).2.1 sz T v1 w0 (1 : Int32))))))) ∧ (w0 = (30796695599342963 : Int64) → (vp_in v1 40 ∧ (((T.1 116 (v1.toNatClampNeg)) ≤ 0 → (okl_X11_readItem n).2.1 sz T v1 w0 (0 : Int32)) ∧ (¬ (T.1 116 (v1.toNatClampNeg)) ≤ 0 → (okl_X11_readItem n).2.1 sz T v1 w0 (1 : Int32))))))) ∧ (w0 = (1836413812 : Int64) → (vp_in v1 40 ∧ ((¬ (T.1 115 (v1.toNatClampNeg)) = (8 : Int32) → (okl_X11_readItem n).2.1 sz T v1 w0 (0 : Int32)) ∧ ((T.1 115 (v1.toNatClampNeg)) = (8 : Int32) → (okl_X11_readItem n).2.1 sz T v1 w0 (1 : Int32))))))) ∧ (w0 = (1885434484 : Int64) → (vp_in v1 40 ∧ ((¬ (T.1 113 (v1.toNatClampNeg)) = (6 : Int32) → (okl_X11_readItem n).2.1 sz T v1 w0 (0 : Int32)) ∧ ((T.1 113 (v1.toNatClampNeg)) = (6 : Int32) → (okl_X11_readItem n).2.1 sz T v1 w0 (1 : Int32))))))) ∧ (w0 = (1818850164 : Int64) → (vp_in v1 40 ∧ ((¬ (T.1 111 (v1.toNatClampNeg)) = (6 : Int32) → (okl_X11_readItem n).2.1 sz T v1 w0 (0 : Int32)) ∧ ((T.1 111 (v1.toNatClampNeg)) = (6 : Int32) → (okl_X11_readItem n).2.1 sz T v1 w0 (1 : Int32))))))), (fun (sz : Nat) (T : tT)  (v1 : Int32) (v2 : Int64) (w0 : Int32) => ((w0 = 0 → (okl_X11_readItem n).2.2.1 sz T v1 v2) ∧ (¬ w0 = 0 → (okl_X11_readItem n).2.2.1 sz (F_X11_wrong T) v1 v2))), (fun (sz : Nat) (T : tT)  (v1 : Int32) (v2 : Int64) => ((¬ (v_X11_isGood T) = 0 → (ok_X11_next sz T ∧ ((¬ v2 = (1818850164 : Int64) → ((¬ v2 = (1885434484 : Int64) → ((¬ v2 = (30796695599342963 : Int64) → ((¬ v2 = (1836413812 : Int64) → (okl_X11_readItem n).2.2.2 sz (F_X11_next T) v1 v2 ((F_X11_next T).1 105 14) (0 : Int32) v1) ∧ (v2 = (1836413812 : Int64) → (okl_X11_readItem n).2.2.2 sz (F_X11_next T) v1 v2 ((F_X11_next T).1 105 14) (1 : Int32) v1))) ∧ (v2 = (30796695599342963 : Int64) → (ok_X11_numberOf sz (F_X11_next T) (1 : Int32) (120 : Int32) ∧ (vp_in v1 40 ∧ (((v_X11_isGood (tI (F_X11_numberOf (F_X11_next T) (1 : Int32) (120 : Int32)).2 116 (v1.toNatClampNeg) (F_X11_numberOf (F_X11_next T) (1 : Int32) (120 : Int32)).1)) = 0 → True) ∧ (¬ (v_X11_isGood (tI (F_X11_numberOf (F_X11_next T) (1 : Int32) (120 : Int32)).2 116 (v1.toNatClampNeg) (F_X11_numberOf (F_X11_next T) (1 : Int32) (120 : Int32)).1)) = 0 → (ok_X11_must sz (tI (F_X11_numberOf (F_X11_next T) (1 : Int32) (120 : Int32)).2 116 (v1.toNatClampNeg) (F_X11_numberOf (F_X11_next T) (1 : Int32) (120 : Int32)).1) (59 : Int32) ∧ True)))))))) ∧ (v2 = (1885434484 : Int64) → (ok_X11_readPart sz (F_X11_next T) v1 ∧ (((v_X11_isGood (F_X11_readPart (F_X11_next T) v1)) = 0 → True) ∧ (¬ (v_X11_isGood (F_X11_readPart (F_X11_next T) v1)) = 0 → (ok_X11_must sz (F_X11_readPart (F_X11_next T) v1) (59 : Int32) ∧ True))))))) ∧ (v2 = (1818850164 : Int64) → (ok_X11_readList sz (F_X11_next T) v1 ∧ (((v_X11_isGood (F_X11_readList (F_X11_next T) v1)) = 0 → True) ∧ (¬ (v_X11_isGood (F_X11_readList (F_X11_next T) v1)) = 0 → (ok_X11_must sz (F_X11_readList (F_X11_next T) v1) (59 : Int32) ∧ True)))))))) ∧ ((v_X11_isGood T) = 0 → True))), (fun (sz : Nat) (T : tT)  (v1 : Int32) (v2 : Int64) (v5 : Int32) (w0 : Int32) (w1 : Int32) => (ok_X11_e sz T w1 w0 ∧ ((¬ v2 = (1836413812 : Int64) → ((¬ v2 = (1885434739 : Int64) → (vp_in v1 40 ∧ (vp_in v1 40 ∧ (((v_X11_isGood (tI (tI (F_X11_e T w1 w0) 121 (v1.toNatClampNeg) v5) 122 (v1.toNatClampNeg) ((F_X11_e T w1 w0).1 105 14))) = 0 → True) ∧ (¬ (v_X11_isGood (tI (tI (F_X11_e T w1 w0) 121 (v1.toNatClampNeg) v5) 122 (v1.toNatClampNeg) ((F_X11_e T w1 w0).1 105 14))) = 0 → (ok_X11_must sz (tI (tI (F_X11_e T w1 w0) 121 (v1.toNatClampNeg) v5) 122 (v1.toNatClampNeg) ((F_X11_e T w1 w0).1 105 14)) (59 : Int32) ∧ True)))))) ∧ (v2 = (1885434739 : Int64) → (vp_in v1 40 ∧ (vp_in v1 40 ∧ (((v_X11_isGood (tI (tI (F_X11_e T w1 w0) 119 (v1.toNatClampNeg) v5) 120 (v1.toNatClampNeg) ((F_X11_e T w1 w0).1 105 14))) = 0 → True) ∧ (¬ (v_X11_isGood (tI (tI (F_X11_e T w1 w0) 119 (v1.toNatClampNeg) v5) 120 (v1.toNatClampNeg) ((F_X11_e T w1 w0).1 105 14))) = 0 → (ok_X11_must sz (tI (tI (F_X11_e T w1 w0) 119 (v1.toNatClampNeg) v5) 120 (v1.toNatClampNeg) ((F_X11_e T w1 w0).1 105 14)) (59 : Int32) ∧ True)))))))) ∧ (v2 = (1836413812 : Int64) → (vp_in v1 40 ∧ (vp_in (((8 : Int32) * v1) + ((F_X11_e T w1 w0).1 115 (v1.toNatClampNeg))) 320 ∧ (vp_in v1 40 ∧ (vp_in (((8 : Int32) * v1) + ((F_X11_e T w1 w0).1 115 (v1.toNatClampNeg))) 320 ∧ (vp_in v1 40 ∧ (vp_in v1 40 ∧ (((v_X11_isGood (tI (tI (tI (F_X11_e T w1 w0) 117 ((((8 : Int32) * v1) + ((F_X11_e T w1 w0).1 115 (v1.toNatClampNeg))).toNatClampNeg) v5) 118 ((((8 : Int32) * v1) + ((F_X11_e T w1 w0).1 115 (v1.toNatClampNeg))).toNatClampNeg) ((F_X11_e T w1 w0).1 105 14)) 115 (v1.toNatClampNeg) (((F_X11_e T w1 w0).1 115 (v1.toNatClampNeg)) + (1 : Int32)))) = 0 → True) ∧ (¬ (v_X11_isGood (tI (tI (tI (F_X11_e T w1 w0) 117 ((((8 : Int32) * v1) + ((F_X11_e T w1 w0).1 115 (v1.toNatClampNeg))).toNatClampNeg) v5) 118 ((((8 : Int32) * v1) + ((F_X11_e T w1 w0).1 115 (v1.toNatClampNeg))).toNatClampNeg) ((F_X11_e T w1 w0).1 105 14)) 115 (v1.toNatClampNeg) (((F_X11_e T w1 w0).1 115 (v1.toNatClampNeg)) + (1 : Int32)))) = 0 → (ok_X11_must sz (tI (tI (tI (F_X11_e T w1 w0) 117 ((((8 : Int32) * v1) + ((F_X11_e T w1 w0).1 115 (v1.toNatClampNeg))).toNatClampNeg) v5) 118 ((((8 : Int32) * v1) + ((F_X11_e T w1 w0).1 115 (v1.toNatClampNeg))).toNatClampNeg) ((F_X11_e T w1 w0).1 105 14)) 115 (v1.toNatClampNeg) (((F_X11_e T w1 w0).1 115 (v1.toNatClampNeg)) + (1 : Int32))) (59 : Int32) ∧ True))))))))))))))
theorem vl_X11_readItem_s0 (n : Nat) (T : tT)  (v1 : Int32) (w0 : Int64) : (vl_X11_readItem (n + 1)).1 T v1 w0 = (if w0 = (1818850164 : Int64) then (if (T.1 111 (v1.toNatClampNeg)) = (6 : Int32) then (vl_X11_readItem n).2.1 T v1 w0 (1 : Int32) else (vl_X11_readItem n).2.1 T v1 w0 (0 : Int32)) else (if w0 = (1885434484 : Int64) then (if (T.1 113 (v1.toNatClampNeg)) = (6 : Int32) then (vl_X11_readItem n).2.1 T v1 w0 (1 : Int32) else (vl_X11_readItem n).2.1 T v1 w0 (0 : Int32)) else (if w0 = (1836413812 : Int64) then (if (T.1 115 (v1.toNatClampNeg)) = (8 : Int32) then (vl_X11_readItem n).2.1 T v1 w0 (1 : Int32) else (vl_X11_readItem n).2.1 T v1 w0 (0 : Int32)) else (if w0 = (30796695599342963 : Int64) then (if (T.1 116 (v1.toNatClampNeg)) ≤ 0 then (vl_X11_readItem n).2.1 T v1 w0 (0 : Int32) else (vl_X11_readItem n).2.1 T v1 w0 (1 : Int32)) else (if w0 = (1885434739 : Int64) then (if (T.1 119 (v1.toNatClampNeg)) < 0 then (vl_X11_readItem n).2.1 T v1 w0 (0 : Int32) else (vl_X11_readItem n).2.1 T v1 w0 (1 : Int32)) else (if w0 = (469853432180 : Int64) then (if (T.1 121 (v1.toNatClampNeg)) < 0 then (vl_X11_readItem n).2.1 T v1 w0 (0 : Int32) else (vl_X11_readItem n).2.1 T v1 w0 (1 : Int32)) else (vl_X11_readItem n).2.1 T v1 w0 (1 : Int32))))))) := rfl
theorem okl_X11_readItem_s0 (n sz : Nat) (T : tT)  (v1 : Int32) (w0 : Int64) : (okl_X11_readItem (n + 1)).1 sz T v1 w0 = ((¬ w0 = (1818850164 : Int64) → ((¬ w0 = (1885434484 : Int64) → ((¬ w0 = (1836413812 : Int64) → ((¬ w0 = (30796695599342963 : Int64) → ((¬ w0 = (1885434739 : Int64) → ((¬ w0 = (469853432180 : Int64) → (okl_X11_readItem n).2.1 sz T v1 w0 (1 : Int32)) ∧ (w0 = (469853432180 : Int64) → (vp_in v1 40 ∧ (((T.1 121 (v1.toNatClampNeg)) < 0 → (okl_X11_readItem n).2.1 sz T v1 w0 (0 : Int32)) ∧ (¬ (T.1 121 (v1.toNatClampNeg)) < 0 → (okl_X11_readItem n).2.1 sz T v1 w0 (1 : Int32))))))) ∧ (w0 = (1885434739 : Int64) → (vp_in v1 40 ∧ (((T.1 119 (v1.toNatClampNeg)) < 0 → (okl_X11_readItem n).2.1 sz T v1 w0 (0 : Int32)) ∧ (¬ (T.1 119 (v1.toNatClampNeg)) < 0 → (okl_X11_readItem n).2.1 sz T v1 w0 (1 : Int32))))))) ∧ (w0 = (30796695599342963 : Int64) → (vp_in v1 40 ∧ (((T.1 116 (v1.toNatClampNeg)) ≤ 0 → (okl_X11_readItem n).2.1 sz T v1 w0 (0 : Int32)) ∧ (¬ (T.1 116 (v1.toNatClampNeg)) ≤ 0 → (okl_X11_readItem n).2.1 sz T v1 w0 (1 : Int32))))))) ∧ (w0 = (1836413812 : Int64) → (vp_in v1 40 ∧ ((¬ (T.1 115 (v1.toNatClampNeg)) = (8 : Int32) → (okl_X11_readItem n).2.1 sz T v1 w0 (0 : Int32)) ∧ ((T.1 115 (v1.toNatClampNeg)) = (8 : Int32) → (okl_X11_readItem n).2.1 sz T v1 w0 (1 : Int32))))))) ∧ (w0 = (1885434484 : Int64) → (vp_in v1 40 ∧ ((¬ (T.1 113 (v1.toNatClampNeg)) = (6 : Int32) → (okl_X11_readItem n).2.1 sz T v1 w0 (0 : Int32)) ∧ ((T.1 113 (v1.toNatClampNeg)) = (6 : Int32) → (okl_X11_readItem n).2.1 sz T v1 w0 (1 : Int32))))))) ∧ (w0 = (1818850164 : Int64) → (vp_in v1 40 ∧ ((¬ (T.1 111 (v1.toNatClampNeg)) = (6 : Int32) → (okl_X11_readItem n).2.1 sz T v1 w0 (0 : Int32)) ∧ ((T.1 111 (v1.toNatClampNeg)) = (6 : Int32) → (okl_X11_readItem n).2.1 sz T v1 w0 (1 : Int32)))))) := rfl
theorem vl_X11_readItem_s1 (n : Nat) (T : tT)  (v1 : Int32) (v2 : Int64) (w0 : Int32) : (vl_X11_readItem (n + 1)).2.1 T v1 v2 w0 = (if w0 = 0 then (vl_X11_readItem n).2.2.1 T v1 v2 else (vl_X11_readItem n).2.2.1 (F_X11_wrong T) v1 v2) := rfl
theorem okl_X11_readItem_s1 (n sz : Nat) (T : tT)  (v1 : Int32) (v2 : Int64) (w0 : Int32) : (okl_X11_readItem (n + 1)).2.1 sz T v1 v2 w0 = ((w0 = 0 → (okl_X11_readItem n).2.2.1 sz T v1 v2) ∧ (¬ w0 = 0 → (okl_X11_readItem n).2.2.1 sz (F_X11_wrong T) v1 v2)) := rfl
theorem vl_X11_readItem_s2 (n : Nat) (T : tT)  (v1 : Int32) (v2 : Int64) : (vl_X11_readItem (n + 1)).2.2.1 T v1 v2 = (if (v_X11_isGood T) = 0 then T else (if v2 = (1818850164 : Int64) then (if (v_X11_isGood (F_X11_readList (F_X11_next T) v1)) = 0 then (F_X11_readList (F_X11_next T) v1) else (F_X11_must (F_X11_readList (F_X11_next T) v1) (59 : Int32))) else (if v2 = (1885434484 : Int64) then (if (v_X11_isGood (F_X11_readPart (F_X11_next T) v1)) = 0 then (F_X11_readPart (F_X11_next T) v1) else (F_X11_must (F_X11_readPart (F_X11_next T) v1) (59 : Int32))) else (if v2 = (30796695599342963 : Int64) then (if (v_X11_isGood (tI (F_X11_numberOf (F_X11_next T) (1 : Int32) (120 : Int32)).2 116 (v1.toNatClampNeg) (F_X11_numberOf (F_X11_next T) (1 : Int32) (120 : Int32)).1)) = 0 then (tI (F_X11_numberOf (F_X11_next T) (1 : Int32) (120 : Int32)).2 116 (v1.toNatClampNeg) (F_X11_numberOf (F_X11_next T) (1 : Int32) (120 : Int32)).1) else (F_X11_must (tI (F_X11_numberOf (F_X11_next T) (1 : Int32) (120 : Int32)).2 116 (v1.toNatClampNeg) (F_X11_numberOf (F_X11_next T) (1 : Int32) (120 : Int32)).1) (59 : Int32))) else (if v2 = (1836413812 : Int64) then (vl_X11_readItem n).2.2.2 (F_X11_next T) v1 v2 ((F_X11_next T).1 105 14) (1 : Int32) v1 else (vl_X11_readItem n).2.2.2 (F_X11_next T) v1 v2 ((F_X11_next T).1 105 14) (0 : Int32) v1))))) := rfl
theorem okl_X11_readItem_s2 (n sz : Nat) (T : tT)  (v1 : Int32) (v2 : Int64) : (okl_X11_readItem (n + 1)).2.2.1 sz T v1 v2 = ((¬ (v_X11_isGood T) = 0 → (ok_X11_next sz T ∧ ((¬ v2 = (1818850164 : Int64) → ((¬ v2 = (1885434484 : Int64) → ((¬ v2 = (30796695599342963 : Int64) → ((¬ v2 = (1836413812 : Int64) → (okl_X11_readItem n).2.2.2 sz (F_X11_next T) v1 v2 ((F_X11_next T).1 105 14) (0 : Int32) v1) ∧ (v2 = (1836413812 : Int64) → (okl_X11_readItem n).2.2.2 sz (F_X11_next T) v1 v2 ((F_X11_next T).1 105 14) (1 : Int32) v1))) ∧ (v2 = (30796695599342963 : Int64) → (ok_X11_numberOf sz (F_X11_next T) (1 : Int32) (120 : Int32) ∧ (vp_in v1 40 ∧ (((v_X11_isGood (tI (F_X11_numberOf (F_X11_next T) (1 : Int32) (120 : Int32)).2 116 (v1.toNatClampNeg) (F_X11_numberOf (F_X11_next T) (1 : Int32) (120 : Int32)).1)) = 0 → True) ∧ (¬ (v_X11_isGood (tI (F_X11_numberOf (F_X11_next T) (1 : Int32) (120 : Int32)).2 116 (v1.toNatClampNeg) (F_X11_numberOf (F_X11_next T) (1 : Int32) (120 : Int32)).1)) = 0 → (ok_X11_must sz (tI (F_X11_numberOf (F_X11_next T) (1 : Int32) (120 : Int32)).2 116 (v1.toNatClampNeg) (F_X11_numberOf (F_X11_next T) (1 : Int32) (120 : Int32)).1) (59 : Int32) ∧ True)))))))) ∧ (v2 = (1885434484 : Int64) → (ok_X11_readPart sz (F_X11_next T) v1 ∧ (((v_X11_isGood (F_X11_readPart (F_X11_next T) v1)) = 0 → True) ∧ (¬ (v_X11_isGood (F_X11_readPart (F_X11_next T) v1)) = 0 → (ok_X11_must sz (F_X11_readPart (F_X11_next T) v1) (59 : Int32) ∧ True))))))) ∧ (v2 = (1818850164 : Int64) → (ok_X11_readList sz (F_X11_next T) v1 ∧ (((v_X11_isGood (F_X11_readList (F_X11_next T) v1)) = 0 → True) ∧ (¬ (v_X11_isGood (F_X11_readList (F_X11_next T) v1)) = 0 → (ok_X11_must sz (F_X11_readList (F_X11_next T) v1) (59 : Int32) ∧ True)))))))) ∧ ((v_X11_isGood T) = 0 → True)) := rfl
theorem vl_X11_readItem_s3 (n : Nat) (T : tT)  (v1 : Int32) (v2 : Int64) (v5 : Int32) (w0 : Int32) (w1 : Int32) : (vl_X11_readItem (n + 1)).2.2.2 T v1 v2 v5 w0 w1 = (if v2 = (1836413812 : Int64) then (if (v_X11_isGood (tI (tI (tI (F_X11_e T w1 w0) 117 ((((8 : Int32) * v1) + ((F_X11_e T w1 w0).1 115 (v1.toNatClampNeg))).toNatClampNeg) v5) 118 ((((8 : Int32) * v1) + ((F_X11_e T w1 w0).1 115 (v1.toNatClampNeg))).toNatClampNeg) ((F_X11_e T w1 w0).1 105 14)) 115 (v1.toNatClampNeg) (((F_X11_e T w1 w0).1 115 (v1.toNatClampNeg)) + (1 : Int32)))) = 0 then (tI (tI (tI (F_X11_e T w1 w0) 117 ((((8 : Int32) * v1) + ((F_X11_e T w1 w0).1 115 (v1.toNatClampNeg))).toNatClampNeg) v5) 118 ((((8 : Int32) * v1) + ((F_X11_e T w1 w0).1 115 (v1.toNatClampNeg))).toNatClampNeg) ((F_X11_e T w1 w0).1 105 14)) 115 (v1.toNatClampNeg) (((F_X11_e T w1 w0).1 115 (v1.toNatClampNeg)) + (1 : Int32))) else (F_X11_must (tI (tI (tI (F_X11_e T w1 w0) 117 ((((8 : Int32) * v1) + ((F_X11_e T w1 w0).1 115 (v1.toNatClampNeg))).toNatClampNeg) v5) 118 ((((8 : Int32) * v1) + ((F_X11_e T w1 w0).1 115 (v1.toNatClampNeg))).toNatClampNeg) ((F_X11_e T w1 w0).1 105 14)) 115 (v1.toNatClampNeg) (((F_X11_e T w1 w0).1 115 (v1.toNatClampNeg)) + (1 : Int32))) (59 : Int32))) else (if v2 = (1885434739 : Int64) then (if (v_X11_isGood (tI (tI (F_X11_e T w1 w0) 119 (v1.toNatClampNeg) v5) 120 (v1.toNatClampNeg) ((F_X11_e T w1 w0).1 105 14))) = 0 then (tI (tI (F_X11_e T w1 w0) 119 (v1.toNatClampNeg) v5) 120 (v1.toNatClampNeg) ((F_X11_e T w1 w0).1 105 14)) else (F_X11_must (tI (tI (F_X11_e T w1 w0) 119 (v1.toNatClampNeg) v5) 120 (v1.toNatClampNeg) ((F_X11_e T w1 w0).1 105 14)) (59 : Int32))) else (if (v_X11_isGood (tI (tI (F_X11_e T w1 w0) 121 (v1.toNatClampNeg) v5) 122 (v1.toNatClampNeg) ((F_X11_e T w1 w0).1 105 14))) = 0 then (tI (tI (F_X11_e T w1 w0) 121 (v1.toNatClampNeg) v5) 122 (v1.toNatClampNeg) ((F_X11_e T w1 w0).1 105 14)) else (F_X11_must (tI (tI (F_X11_e T w1 w0) 121 (v1.toNatClampNeg) v5) 122 (v1.toNatClampNeg) ((F_X11_e T w1 w0).1 105 14)) (59 : Int32))))) := rfl
theorem okl_X11_readItem_s3 (n sz : Nat) (T : tT)  (v1 : Int32) (v2 : Int64) (v5 : Int32) (w0 : Int32) (w1 : Int32) : (okl_X11_readItem (n + 1)).2.2.2 sz T v1 v2 v5 w0 w1 = (ok_X11_e sz T w1 w0 ∧ ((¬ v2 = (1836413812 : Int64) → ((¬ v2 = (1885434739 : Int64) → (vp_in v1 40 ∧ (vp_in v1 40 ∧ (((v_X11_isGood (tI (tI (F_X11_e T w1 w0) 121 (v1.toNatClampNeg) v5) 122 (v1.toNatClampNeg) ((F_X11_e T w1 w0).1 105 14))) = 0 → True) ∧ (¬ (v_X11_isGood (tI (tI (F_X11_e T w1 w0) 121 (v1.toNatClampNeg) v5) 122 (v1.toNatClampNeg) ((F_X11_e T w1 w0).1 105 14))) = 0 → (ok_X11_must sz (tI (tI (F_X11_e T w1 w0) 121 (v1.toNatClampNeg) v5) 122 (v1.toNatClampNeg) ((F_X11_e T w1 w0).1 105 14)) (59 : Int32) ∧ True)))))) ∧ (v2 = (1885434739 : Int64) → (vp_in v1 40 ∧ (vp_in v1 40 ∧ (((v_X11_isGood (tI (tI (F_X11_e T w1 w0) 119 (v1.toNatClampNeg) v5) 120 (v1.toNatClampNeg) ((F_X11_e T w1 w0).1 105 14))) = 0 → True) ∧ (¬ (v_X11_isGood (tI (tI (F_X11_e T w1 w0) 119 (v1.toNatClampNeg) v5) 120 (v1.toNatClampNeg) ((F_X11_e T w1 w0).1 105 14))) = 0 → (ok_X11_must sz (tI (tI (F_X11_e T w1 w0) 119 (v1.toNatClampNeg) v5) 120 (v1.toNatClampNeg) ((F_X11_e T w1 w0).1 105 14)) (59 : Int32) ∧ True)))))))) ∧ (v2 = (1836413812 : Int64) → (vp_in v1 40 ∧ (vp_in (((8 : Int32) * v1) + ((F_X11_e T w1 w0).1 115 (v1.toNatClampNeg))) 320 ∧ (vp_in v1 40 ∧ (vp_in (((8 : Int32) * v1) + ((F_X11_e T w1 w0).1 115 (v1.toNatClampNeg))) 320 ∧ (vp_in v1 40 ∧ (vp_in v1 40 ∧ (((v_X11_isGood (tI (tI (tI (F_X11_e T w1 w0) 117 ((((8 : Int32) * v1) + ((F_X11_e T w1 w0).1 115 (v1.toNatClampNeg))).toNatClampNeg) v5) 118 ((((8 : Int32) * v1) + ((F_X11_e T w1 w0).1 115 (v1.toNatClampNeg))).toNatClampNeg) ((F_X11_e T w1 w0).1 105 14)) 115 (v1.toNatClampNeg) (((F_X11_e T w1 w0).1 115 (v1.toNatClampNeg)) + (1 : Int32)))) = 0 → True) ∧ (¬ (v_X11_isGood (tI (tI (tI (F_X11_e T w1 w0) 117 ((((8 : Int32) * v1) + ((F_X11_e T w1 w0).1 115 (v1.toNatClampNeg))).toNatClampNeg) v5) 118 ((((8 : Int32) * v1) + ((F_X11_e T w1 w0).1 115 (v1.toNatClampNeg))).toNatClampNeg) ((F_X11_e T w1 w0).1 105 14)) 115 (v1.toNatClampNeg) (((F_X11_e T w1 w0).1 115 (v1.toNatClampNeg)) + (1 : Int32)))) = 0 → (ok_X11_must sz (tI (tI (tI (F_X11_e T w1 w0) 117 ((((8 : Int32) * v1) + ((F_X11_e T w1 w0).1 115 (v1.toNatClampNeg))).toNatClampNeg) v5) 118 ((((8 : Int32) * v1) + ((F_X11_e T w1 w0).1 115 (v1.toNatClampNeg))).toNatClampNeg) ((F_X11_e T w1 w0).1 105 14)) 115 (v1.toNatClampNeg) (((F_X11_e T w1 w0).1 115 (v1.toNatClampNeg)) + (1 : Int32))) (59 : Int32) ∧ True)))))))))))) := rfl
set_option maxRecDepth 10000 in
set_option maxHeartbeats 1000000 in
theorem lj_X11_readItem {X : ax_X} {d L sz : Nat} {Q : tT → Prop} (hX : ax_ok X mX11_readItem (d + 6)) (hsz : 161 ≤ sz) (hR : ax_Ret X mX11_readItem (tv L sz Q)) : ∀ n : Nat, (∀ (T : tT)  (v1 : Int32) (w0 : Int64), (okl_X11_readItem n).1 sz T v1 w0 → Q ((vl_X11_readItem n).1 T v1 w0) → ax_j X 16 [some (.ref 105), some (.int v1), none, none, none, none] [.long w0] (th L sz T) 0 0) ∧ (∀ (T : tT)  (v1 : Int32) (v2 : Int64) (w0 : Int32), (okl_X11_readItem n).2.1 sz T v1 v2 w0 → Q ((vl_X11_readItem n).2.1 T v1 v2 w0) → ax_j X 174 [some (.ref 105), some (.int v1), some (.long v2), none, none, none] [.int w0] (th L sz T) 0 0) ∧ (∀ (T : tT)  (v1 : Int32) (v2 : Int64), (okl_X11_readItem n).2.2.1 sz T v1 v2 → Q ((vl_X11_readItem n).2.2.1 T v1 v2) → ax_j X 185 [some (.ref 105), some (.int v1), some (.long v2), none, none, none] [] (th L sz T) 0 0) ∧ (∀ (T : tT)  (v1 : Int32) (v2 : Int64) (v5 : Int32) (w0 : Int32) (w1 : Int32), (okl_X11_readItem n).2.2.2 sz T v1 v2 v5 w0 w1 → Q ((vl_X11_readItem n).2.2.2 T v1 v2 v5 w0 w1) → ax_j X 274 [some (.ref 105), some (.int v1), some (.long v2), none, none, some (.int v5)] [.int w0, .int w1, .ref 105] (th L sz T) 0 0) := by
  intro n
  induction n with
  | zero => exact ⟨(by intros; rename_i ok _; exact False.elim ok), (by intros; rename_i ok _; exact False.elim ok), (by intros; rename_i ok _; exact False.elim ok), (by intros; rename_i ok _; exact False.elim ok)⟩
  | succ n ih =>
    refine ⟨?_, ?_, ?_, ?_⟩
    · intro T  v1 w0 ok hq
      refine s_X11_readItem_16 hX hR hsz   v1 w0 ?_
      rw [okl_X11_readItem_s0] at ok
      refine ⟨fun kq0 => ?_, fun kq0 => ?_⟩
      · replace ok := ok.1 kq0
        refine ⟨fun kq1 => ?_, fun kq1 => ?_⟩
        · replace ok := ok.1 kq1
          refine ⟨fun kq2 => ?_, fun kq2 => ?_⟩
          · replace ok := ok.1 kq2
            refine ⟨fun kq3 => ?_, fun kq3 => ?_⟩
            · replace ok := ok.1 kq3
              refine ⟨fun kq4 => ?_, fun kq4 => ?_⟩
              · replace ok := ok.1 kq4
                refine ⟨fun kq5 => ?_, fun kq5 => ?_⟩
                · replace ok := ok.1 kq5
                  have z := hq; rw [vl_X11_readItem_s0, if_neg kq0, if_neg kq1, if_neg kq2, if_neg kq3, if_neg kq4, if_neg kq5] at z; exact ih.2.1 _  v1 w0 (1 : Int32) ok z
                · replace ok := ok.2 kq5
                  refine ⟨ok.1, ?_⟩
                  replace ok := ok.2
                  refine ⟨fun kq6 => ?_, fun kq6 => ?_⟩
                  · replace ok := ok.1 kq6
                    have z := hq; rw [vl_X11_readItem_s0, if_neg kq0, if_neg kq1, if_neg kq2, if_neg kq3, if_neg kq4, if_pos kq5, if_pos kq6] at z; exact ih.2.1 _  v1 w0 (0 : Int32) ok z
                  · replace ok := ok.2 kq6
                    have z := hq; rw [vl_X11_readItem_s0, if_neg kq0, if_neg kq1, if_neg kq2, if_neg kq3, if_neg kq4, if_pos kq5, if_neg kq6] at z; exact ih.2.1 _  v1 w0 (1 : Int32) ok z
              · replace ok := ok.2 kq4
                refine ⟨ok.1, ?_⟩
                replace ok := ok.2
                refine ⟨fun kq5 => ?_, fun kq5 => ?_⟩
                · replace ok := ok.1 kq5
                  have z := hq; rw [vl_X11_readItem_s0, if_neg kq0, if_neg kq1, if_neg kq2, if_neg kq3, if_pos kq4, if_pos kq5] at z; exact ih.2.1 _  v1 w0 (0 : Int32) ok z
                · replace ok := ok.2 kq5
                  have z := hq; rw [vl_X11_readItem_s0, if_neg kq0, if_neg kq1, if_neg kq2, if_neg kq3, if_pos kq4, if_neg kq5] at z; exact ih.2.1 _  v1 w0 (1 : Int32) ok z
            · replace ok := ok.2 kq3
              refine ⟨ok.1, ?_⟩
              replace ok := ok.2
              refine ⟨fun kq4 => ?_, fun kq4 => ?_⟩
              · replace ok := ok.1 kq4
                have z := hq; rw [vl_X11_readItem_s0, if_neg kq0, if_neg kq1, if_neg kq2, if_pos kq3, if_pos kq4] at z; exact ih.2.1 _  v1 w0 (0 : Int32) ok z
              · replace ok := ok.2 kq4
                have z := hq; rw [vl_X11_readItem_s0, if_neg kq0, if_neg kq1, if_neg kq2, if_pos kq3, if_neg kq4] at z; exact ih.2.1 _  v1 w0 (1 : Int32) ok z
          · replace ok := ok.2 kq2
            refine ⟨ok.1, ?_⟩
            replace ok := ok.2
            refine ⟨fun kq3 => ?_, fun kq3 => ?_⟩
            · replace ok := ok.1 kq3
              have z := hq; rw [vl_X11_readItem_s0, if_neg kq0, if_neg kq1, if_pos kq2, if_neg kq3] at z; exact ih.2.1 _  v1 w0 (0 : Int32) ok z
            · replace ok := ok.2 kq3
              have z := hq; rw [vl_X11_readItem_s0, if_neg kq0, if_neg kq1, if_pos kq2, if_pos kq3] at z; exact ih.2.1 _  v1 w0 (1 : Int32) ok z
        · replace ok := ok.2 kq1
          refine ⟨ok.1, ?_⟩
          replace ok := ok.2
          refine ⟨fun kq2 => ?_, fun kq2 => ?_⟩
          · replace ok := ok.1 kq2
            have z := hq; rw [vl_X11_readItem_s0, if_neg kq0, if_pos kq1, if_neg kq2] at z; exact ih.2.1 _  v1 w0 (0 : Int32) ok z
          · replace ok := ok.2 kq2
            have z := hq; rw [vl_X11_readItem_s0, if_neg kq0, if_pos kq1, if_pos kq2] at z; exact ih.2.1 _  v1 w0 (1 : Int32) ok z
      · replace ok := ok.2 kq0
        refine ⟨ok.1, ?_⟩
        replace ok := ok.2
        refine ⟨fun kq1 => ?_, fun kq1 => ?_⟩
        · replace ok := ok.1 kq1
          have z := hq; rw [vl_X11_readItem_s0, if_pos kq0, if_neg kq1] at z; exact ih.2.1 _  v1 w0 (0 : Int32) ok z
        · replace ok := ok.2 kq1
          have z := hq; rw [vl_X11_readItem_s0, if_pos kq0, if_pos kq1] at z; exact ih.2.1 _  v1 w0 (1 : Int32) ok z
    · intro T  v1 v2 w0 ok hq
      refine s_X11_readItem_174 hX hR hsz   v1 v2 w0 ?_
      rw [okl_X11_readItem_s1] at ok
      refine ⟨fun kq0 => ?_, fun kq0 => ?_⟩
      · replace ok := ok.1 kq0
        have z := hq; rw [vl_X11_readItem_s1, if_pos kq0] at z; exact ih.2.2.1 _  v1 v2 ok z
      · replace ok := ok.2 kq0
        refine ⟨_, c_X11_wrong hsz   , ?_⟩
        rintro _ rfl
        have z := hq; rw [vl_X11_readItem_s1, if_neg kq0] at z; exact ih.2.2.1 _  v1 v2 ok z
    · intro T  v1 v2 ok hq
      refine s_X11_readItem_185 hX hR hsz   v1 v2 ?_
      rw [okl_X11_readItem_s2] at ok
      refine ⟨_, c_X11_isGood hsz   , ?_⟩
      rintro _ _ ⟨rfl, rfl⟩
      refine ⟨fun kq0 => ?_, fun kq0 => ?_⟩
      · replace ok := ok.1 kq0
        refine ⟨_, c_X11_next hsz   ok.1, ?_⟩
        rintro _ rfl
        replace ok := ok.2
        refine ⟨fun kq1 => ?_, fun kq1 => ?_⟩
        · replace ok := ok.1 kq1
          refine ⟨fun kq2 => ?_, fun kq2 => ?_⟩
          · replace ok := ok.1 kq2
            refine ⟨fun kq3 => ?_, fun kq3 => ?_⟩
            · replace ok := ok.1 kq3
              refine ⟨fun kq4 => ?_, fun kq4 => ?_⟩
              · replace ok := ok.1 kq4
                have z := hq; rw [vl_X11_readItem_s2, if_neg kq0, if_neg kq1, if_neg kq2, if_neg kq3, if_neg kq4] at z; exact ih.2.2.2 _  v1 v2 ((F_X11_next T).1 105 14) (0 : Int32) v1 ok z
              · replace ok := ok.2 kq4
                have z := hq; rw [vl_X11_readItem_s2, if_neg kq0, if_neg kq1, if_neg kq2, if_neg kq3, if_pos kq4] at z; exact ih.2.2.2 _  v1 v2 ((F_X11_next T).1 105 14) (1 : Int32) v1 ok z
            · replace ok := ok.2 kq3
              refine ⟨_, c_X11_numberOf hsz  (1 : Int32) (120 : Int32) ok.1, ?_⟩
              rintro _ _ ⟨rfl, rfl⟩
              replace ok := ok.2
              refine ⟨ok.1, ?_⟩
              replace ok := ok.2
              refine ⟨_, c_X11_isGood hsz   , ?_⟩
              rintro _ _ ⟨rfl, rfl⟩
              refine ⟨fun kq4 => ?_, fun kq4 => ?_⟩
              · replace ok := ok.1 kq4
                have z := hq; rw [vl_X11_readItem_s2, if_neg kq0, if_neg kq1, if_neg kq2, if_pos kq3, if_pos kq4] at z; exact z
              · replace ok := ok.2 kq4
                refine ⟨_, c_X11_must hsz  (59 : Int32) ok.1, ?_⟩
                rintro _ rfl
                replace ok := ok.2
                have z := hq; rw [vl_X11_readItem_s2, if_neg kq0, if_neg kq1, if_neg kq2, if_pos kq3, if_neg kq4] at z; exact z
          · replace ok := ok.2 kq2
            refine ⟨_, c_X11_readPart hsz  v1 ok.1, ?_⟩
            rintro _ rfl
            replace ok := ok.2
            refine ⟨_, c_X11_isGood hsz   , ?_⟩
            rintro _ _ ⟨rfl, rfl⟩
            refine ⟨fun kq3 => ?_, fun kq3 => ?_⟩
            · replace ok := ok.1 kq3
              have z := hq; rw [vl_X11_readItem_s2, if_neg kq0, if_neg kq1, if_pos kq2, if_pos kq3] at z; exact z
            · replace ok := ok.2 kq3
              refine ⟨_, c_X11_must hsz  (59 : Int32) ok.1, ?_⟩
              rintro _ rfl
              replace ok := ok.2
              have z := hq; rw [vl_X11_readItem_s2, if_neg kq0, if_neg kq1, if_pos kq2, if_neg kq3] at z; exact z
        · replace ok := ok.2 kq1
          refine ⟨_, c_X11_readList hsz  v1 ok.1, ?_⟩
          rintro _ rfl
          replace ok := ok.2
          refine ⟨_, c_X11_isGood hsz   , ?_⟩
          rintro _ _ ⟨rfl, rfl⟩
          refine ⟨fun kq2 => ?_, fun kq2 => ?_⟩
          · replace ok := ok.1 kq2
            have z := hq; rw [vl_X11_readItem_s2, if_neg kq0, if_pos kq1, if_pos kq2] at z; exact z
          · replace ok := ok.2 kq2
            refine ⟨_, c_X11_must hsz  (59 : Int32) ok.1, ?_⟩
            rintro _ rfl
            replace ok := ok.2
            have z := hq; rw [vl_X11_readItem_s2, if_neg kq0, if_pos kq1, if_neg kq2] at z; exact z
      · replace ok := ok.2 kq0
        have z := hq; rw [vl_X11_readItem_s2, if_pos kq0] at z; exact z
    · intro T  v1 v2 v5 w0 w1 ok hq
      refine s_X11_readItem_274 hX hR hsz   v1 v2 v5 w0 w1 ?_
      rw [okl_X11_readItem_s3] at ok
      refine ⟨_, c_X11_e hsz  w1 w0 ok.1, ?_⟩
      rintro _ rfl
      replace ok := ok.2
      refine ⟨fun kq0 => ?_, fun kq0 => ?_⟩
      · replace ok := ok.1 kq0
        refine ⟨fun kq1 => ?_, fun kq1 => ?_⟩
        · replace ok := ok.1 kq1
          refine ⟨ok.1, ?_⟩
          replace ok := ok.2
          refine ⟨ok.1, ?_⟩
          replace ok := ok.2
          refine ⟨_, c_X11_isGood hsz   , ?_⟩
          rintro _ _ ⟨rfl, rfl⟩
          refine ⟨fun kq2 => ?_, fun kq2 => ?_⟩
          · replace ok := ok.1 kq2
            have z := hq; rw [vl_X11_readItem_s3, if_neg kq0, if_neg kq1, if_pos kq2] at z; exact z
          · replace ok := ok.2 kq2
            refine ⟨_, c_X11_must hsz  (59 : Int32) ok.1, ?_⟩
            rintro _ rfl
            replace ok := ok.2
            have z := hq; rw [vl_X11_readItem_s3, if_neg kq0, if_neg kq1, if_neg kq2] at z; exact z
        · replace ok := ok.2 kq1
          refine ⟨ok.1, ?_⟩
          replace ok := ok.2
          refine ⟨ok.1, ?_⟩
          replace ok := ok.2
          refine ⟨_, c_X11_isGood hsz   , ?_⟩
          rintro _ _ ⟨rfl, rfl⟩
          refine ⟨fun kq2 => ?_, fun kq2 => ?_⟩
          · replace ok := ok.1 kq2
            have z := hq; rw [vl_X11_readItem_s3, if_neg kq0, if_pos kq1, if_pos kq2] at z; exact z
          · replace ok := ok.2 kq2
            refine ⟨_, c_X11_must hsz  (59 : Int32) ok.1, ?_⟩
            rintro _ rfl
            replace ok := ok.2
            have z := hq; rw [vl_X11_readItem_s3, if_neg kq0, if_pos kq1, if_neg kq2] at z; exact z
      · replace ok := ok.2 kq0
        refine ⟨ok.1, ?_⟩
        replace ok := ok.2
        refine ⟨ok.1, ?_⟩
        replace ok := ok.2
        refine ⟨ok.1, ?_⟩
        replace ok := ok.2
        refine ⟨ok.1, ?_⟩
        replace ok := ok.2
        refine ⟨ok.1, ?_⟩
        replace ok := ok.2
        refine ⟨ok.1, ?_⟩
        replace ok := ok.2
        refine ⟨_, c_X11_isGood hsz   , ?_⟩
        rintro _ _ ⟨rfl, rfl⟩
        refine ⟨fun kq1 => ?_, fun kq1 => ?_⟩
        · replace ok := ok.1 kq1
          have z := hq; rw [vl_X11_readItem_s3, if_pos kq0, if_pos kq1] at z; exact z
        · replace ok := ok.2 kq1
          refine ⟨_, c_X11_must hsz  (59 : Int32) ok.1, ?_⟩
          rintro _ rfl
          replace ok := ok.2
          have z := hq; rw [vl_X11_readItem_s3, if_pos kq0, if_neg kq1] at z; exact z
noncomputable def F_X11_readItem (T : tT)  (x0 : Int32) : tT := (if (T.1 105 8) = (3 : Int32) then (vl_X11_readItem fu).1 T x0 (T.2.1 105 10) else (vl_X11_readItem fu).1 T x0 (0 : Int64))
noncomputable def ok_X11_readItem (sz : Nat) (T : tT)  (x0 : Int32) : Prop := ((¬ (T.1 105 8) = (3 : Int32) → (okl_X11_readItem fu).1 sz T x0 (0 : Int64)) ∧ ((T.1 105 8) = (3 : Int32) → (okl_X11_readItem fu).1 sz T x0 (T.2.1 105 10)))
set_option maxRecDepth 10000 in
theorem c_X11_readItem {d L sz : Nat} {T : tT} (hsz : 161 ≤ sz) (x0 : Int32) (ok : ok_X11_readItem sz T x0) : tvK (d + 6) mX11_readItem [.ref 105, .int x0] L sz T (fun T' => T' = F_X11_readItem T x0) := by
  refine k_X11_readItem hsz  x0 (fun X hX hR => ?_)
  unfold ok_X11_readItem at ok
  refine ⟨fun kq0 => ?_, fun kq0 => ?_⟩
  · replace ok := ok.1 kq0
    exact (lj_X11_readItem hX hsz  hR _).1 _  x0 (0 : Int64) ok (by unfold F_X11_readItem; first | (rw [if_neg kq0]; done) | (rw [if_neg kq0]; rfl))
  · replace ok := ok.2 kq0
    exact (lj_X11_readItem hX hsz  hR _).1 _  x0 (T.2.1 105 10) ok (by unfold F_X11_readItem; first | (rw [if_pos kq0]; done) | (rw [if_pos kq0]; rfl))
noncomputable def vl_X11_readGrade : Nat → (tT → tT) × (tT → tT) × (tT → tT) × (tT → Int32 → tT)
  | 0 => ((fun (T : tT)   => T), (fun (T : tT)   => T), (fun (T : tT)   => T), (fun (T : tT)  (v2 : Int32) => T))
  | n + 1 => ((fun (T : tT)   => (if (v_X11_isGood T) = 0 then (vl_X11_readGrade n).2.1 T else (if (T.1 105 8) = (4 : Int32) then (vl_X11_readGrade n).2.1 T else (vl_X11_readGrade n).2.1 (F_X11_wrong T)))), (fun (T : tT)   => (if (v_X11_isGood T) = 0 then (vl_X11_readGrade n).2.2.1 T else (if (T.1 105 9) < (1 : Int32) then (vl_X11_readGrade n).2.2.1 T else (if (8 : Int32) < (T.1 105 9) then (vl_X11_readGrade n).2.2.1 T else (if (T.1 110 ((((8 : Int32) * (T.1 105 12)) + (T.1 105 9)) - (1 : Int32)).toNatClampNeg) = 0 then (vl_X11_readGrade n).2.2.1 T else (vl_X11_readGrade n).2.2.1 (F_X11_fails T (3 : Int32) (T.1 105 6))))))), (fun (T : tT)   => (if (v_X11_isGood T) = 0 then T else (if (v_X11_isGood ((F_X11_numberOf T (1 : Int32) (8 : Int32)).2)) = 0 then (F_X11_numberOf T (1 : Int32) (8 : Int32)).2 else (vl_X11_readGrade n).2.2.2 (F_X11_must (tI (tI (tI (tI (tI (tI (tI (tI (F_X11_numberOf T (1 : Int32) (8 : Int32)).2 110 (((((8 : Int32) * ((F_X11_numberOf T (1 : Int32) (8 : Int32)).2.1 105 12)) + (F_X11_numberOf T (1 : Int32) (8 : Int32)).1) - (1 : Int32)).toNatClampNeg) ((1 : Int32) &&& 1)) 125 (((F_X11_numberOf T (1 : Int32) (8 : Int32)).2.1 105 12).toNatClampNeg) (((F_X11_numberOf T (1 : Int32) (8 : Int32)).2.1 125 ((F_X11_numberOf T (1 : Int32) (8 : Int32)).2.1 105 12).toNatClampNeg) + (1 : Int32))) 111 (((((8 : Int32) * ((F_X11_numberOf T (1 : Int32) (8 : Int32)).2.1 105 12)) + (F_X11_numberOf T (1 : Int32) (8 : Int32)).1) - (1 : Int32)).toNatClampNeg) (0 : Int32)) 113 (((((8 : Int32) * ((F_X11_numberOf T (1 : Int32) (8 : Int32)).2.1 105 12)) + (F_X11_numberOf T (1 : Int32) (8 : Int32)).1) - (1 : Int32)).toNatClampNeg) (0 : Int32)) 115 (((((8 : Int32) * ((F_X11_numberOf T (1 : Int32) (8 : Int32)).2.1 105 12)) + (F_X11_numberOf T (1 : Int32) (8 : Int32)).1) - (1 : Int32)).toNatClampNeg) (0 : Int32)) 116 (((((8 : Int32) * ((F_X11_numberOf T (1 : Int32) (8 : Int32)).2.1 105 12)) + (F_X11_numberOf T (1 : Int32) (8 : Int32)).1) - (1 : Int32)).toNatClampNeg) (0 : Int32)) 119 (((((8 : Int32) * ((F_X11_numberOf T (1 : Int32) (8 : Int32)).2.1 105 12)) + (F_X11_numberOf T (1 : Int32) (8 : Int32)).1) - (1 : Int32)).toNatClampNeg) (-1 : Int32)) 121 (((((8 : Int32) * ((F_X11_numberOf T (1 : Int32) (8 : Int32)).2.1 105 12)) + (F_X11_numberOf T (1 : Int32) (8 : Int32)).1) - (1 : Int32)).toNatClampNeg) (-1 : Int32)) (123 : Int32)) ((((8 : Int32) * ((F_X11_numberOf T (1 : Int32) (8 : Int32)).2.1 105 12)) + (F_X11_numberOf T (1 : Int32) (8 : Int32)).1) - (1 : Int32))))), (fun (T : tT)  (v2 : Int32) => (if (v_X11_isGood T) = 0 then (if (v_X11_isGood T) = 0 then T else (F_X11_next T)) else (if (v_X11_is T (125 : Int32)) = 0 then (vl_X11_readGrade n).2.2.2 (F_X11_readItem T v2) v2 else (if (v_X11_isGood T) = 0 then T else (F_X11_next T))))))
noncomputable def okl_X11_readGrade : Nat → (Nat → tT → Prop) × (Nat → tT → Prop) × (Nat → tT → Prop) × (Nat → tT → Int32 → Prop)
  | 0 => ((fun (sz : Nat) (T : tT)   => False), (fun (sz : Nat) (T : tT)   => False), (fun (sz : Nat) (T : tT)   => False), (fun (sz : Nat) (T : tT)  (v2 : Int32) => False))
  | n + 1 => ((fun (sz : Nat) (T : tT)   => (((v_X11_isGood T) = 0 → (okl_X11_readGrade n).2.1 sz T) ∧ (¬ (v_X11_isGood T) = 0 → (((T.1 105 8) = (4 : Int32) → (okl_X11_readGrade n).2.1 sz T) ∧ (¬ (T.1 105 8) = (4 : Int32) → (okl_X11_readGrade n).2.1 sz (F_X11_wrong T)))))), (fun (sz : Nat) (T : tT)   => (((v_X11_isGood T) = 0 → (okl_X11_readGrade n).2.2.1 sz T) ∧ (¬ (v_X11_isGood T) = 0 → (((T.1 105 9) < (1 : Int32) → (okl_X11_readGrade n).2.2.1 sz T) ∧ (¬ (T.1 105 9) < (1 : Int32) → (((8 : Int32) < (T.1 105 9) → (okl_X11_readGrade n).2.2.1 sz T) ∧ (¬ (8 : Int32) < (T.1 105 9) → (vp_in ((((8 : Int32) * (T.1 105 12)) + (T.1 105 9)) - (1 : Int32)) 40 ∧ (((T.1 110 ((((8 : Int32) * (T.1 105 12)) + (T.1 105 9)) - (1 : Int32)).toNatClampNeg) = 0 → (okl_X11_readGrade n).2.2.1 sz T) ∧ (¬ (T.1 110 ((((8 : Int32) * (T.1 105 12)) + (T.1 105 9)) - (1 : Int32)).toNatClampNeg) = 0 → (okl_X11_readGrade n).2.2.1 sz (F_X11_fails T (3 : Int32) (T.1 105 6)))))))))))), (fun (sz : Nat) (T : tT)   => ((¬ (v_X11_isGood T) = 0 → (ok_X11_numberOf sz T (1 : Int32) (8 : Int32) ∧ ((¬ (v_X11_isGood ((F_X11_numberOf T (1 : Int32) (8 : Int32)).2)) = 0 → (vp_in ((((8 : Int32) * ((F_X11_numberOf T (1 : Int32) (8 : Int32)).2.1 105 12)) + (F_X11_numberOf T (1 : Int32) (8 : Int32)).1) - (1 : Int32)) 40 ∧ (vp_in ((F_X11_numberOf T (1 : Int32) (8 : Int32)).2.1 105 12) 5 ∧ (vp_in ((F_X11_numberOf T (1 : Int32) (8 : Int32)).2.1 105 12) 5 ∧ (vp_in ((((8 : Int32) * ((F_X11_numberOf T (1 : Int32) (8 : Int32)).2.1 105 12)) + (F_X11_numberOf T (1 : Int32) (8 : Int32)).1) - (1 : Int32)) 40 ∧ (vp_in ((((8 : Int32) * ((F_X11_numberOf T (1 : Int32) (8 : Int32)).2.1 105 12)) + (F_X11_numberOf T (1 : Int32) (8 : Int32)).1) - (1 : Int32)) 40 ∧ (vp_in ((((8 : Int32) * ((F_X11_numberOf T (1 : Int32) (8 : Int32)).2.1 105 12)) + (F_X11_numberOf T (1 : Int32) (8 : Int32)).1) - (1 : Int32)) 40 ∧ (vp_in ((((8 : Int32) * ((F_X11_numberOf T (1 : Int32) (8 : Int32)).2.1 105 12)) + (F_X11_numberOf T (1 : Int32) (8 : Int32)).1) - (1 : Int32)) 40 ∧ (vp_in ((((8 : Int32) * ((F_X11_numberOf T (1 : Int32) (8 : Int32)).2.1 105 12)) + (F_X11_numberOf T (1 : Int32) (8 : Int32)).1) - (1 : Int32)) 40 ∧ (vp_in ((((8 : Int32) * ((F_X11_numberOf T (1 : Int32) (8 : Int32)).2.1 105 12)) + (F_X11_numberOf T (1 : Int32) (8 : Int32)).1) - (1 : Int32)) 40 ∧ (ok_X11_must sz (tI (tI (tI (tI (tI (tI (tI (tI (F_X11_numberOf T (1 : Int32) (8 : Int32)).2 110 (((((8 : Int32) * ((F_X11_numberOf T (1 : Int32) (8 : Int32)).2.1 105 12)) + (F_X11_numberOf T (1 : Int32) (8 : Int32)).1) - (1 : Int32)).toNatClampNeg) ((1 : Int32) &&& 1)) 125 (((F_X11_numberOf T (1 : Int32) (8 : Int32)).2.1 105 12).toNatClampNeg) (((F_X11_numberOf T (1 : Int32) (8 : Int32)).2.1 125 ((F_X11_numberOf T (1 : Int32) (8 : Int32)).2.1 105 12).toNatClampNeg) + (1 : Int32))) 111 (((((8 : Int32) * ((F_X11_numberOf T (1 : Int32) (8 : Int32)).2.1 105 12)) + (F_X11_numberOf T (1 : Int32) (8 : Int32)).1) - (1 : Int32)).toNatClampNeg) (0 : Int32)) 113 (((((8 : Int32) * ((F_X11_numberOf T (1 : Int32) (8 : Int32)).2.1 105 12)) + (F_X11_numberOf T (1 : Int32) (8 : Int32)).1) - (1 : Int32)).toNatClampNeg) (0 : Int32)) 115 (((((8 : Int32) * ((F_X11_numberOf T (1 : Int32) (8 : Int32)).2.1 105 12)) + (F_X11_numberOf T (1 : Int32) (8 : Int32)).1) - (1 : Int32)).toNatClampNeg) (0 : Int32)) 116 (((((8 : Int32) * ((F_X11_numberOf T (1 : Int32) (8 : Int32)).2.1 105 12)) + (F_X11_numberOf T (1 : Int32) (8 : Int32)).1) - (1 : Int32)).toNatClampNeg) (0 : Int32)) 119 (((((8 : Int32) * ((F_X11_numberOf T (1 : Int32) (8 : Int32)).2.1 105 12)) + (F_X11_numberOf T (1 : Int32) (8 : Int32)).1) - (1 : Int32)).toNatClampNeg) (-1 : Int32)) 121 (((((8 : Int32) * ((F_X11_numberOf T (1 : Int32) (8 : Int32)).2.1 105 12)) + (F_X11_numberOf T (1 : Int32) (8 : Int32)).1) - (1 : Int32)).toNatClampNeg) (-1 : Int32)) (123 : Int32) ∧ (okl_X11_readGrade n).2.2.2 sz (F_X11_must (tI (tI (tI (tI (tI (tI (tI (tI (F_X11_numberOf T (1 : Int32) (8 : Int32)).2 110 (((((8 : Int32) * ((F_X11_numberOf T (1 : Int32) (8 : Int32)).2.1 105 12)) + (F_X11_numberOf T (1 : Int32) (8 : Int32)).1) - (1 : Int32)).toNatClampNeg) ((1 : Int32) &&& 1)) 125 (((F_X11_numberOf T (1 : Int32) (8 : Int32)).2.1 105 12).toNatClampNeg) (((F_X11_numberOf T (1 : Int32) (8 : Int32)).2.1 125 ((F_X11_numberOf T (1 : Int32) (8 : Int32)).2.1 105 12).toNatClampNeg) + (1 : Int32))) 111 (((((8 : Int32) * ((F_X11_numberOf T (1 : Int32) (8 : Int32)).2.1 105 12)) + (F_X11_numberOf T (1 : Int32) (8 : Int32)).1) - (1 : Int32)).toNatClampNeg) (0 : Int32)) 113 (((((8 : Int32) * ((F_X11_numberOf T (1 : Int32) (8 : Int32)).2.1 105 12)) + (F_X11_numberOf T (1 : Int32) (8 : Int32)).1) - (1 : Int32)).toNatClampNeg) (0 : Int32)) 115 (((((8 : Int32) * ((F_X11_numberOf T (1 : Int32) (8 : Int32)).2.1 105 12)) + (F_X11_numberOf T (1 : Int32) (8 : Int32)).1) - (1 : Int32)).toNatClampNeg) (0 : Int32)) 116 (((((8 : Int32) * ((F_X11_numberOf T (1 : Int32) (8 : Int32)).2.1 105 12)) + (F_X11_numberOf T (1 : Int32) (8 : Int32)).1) - (1 : Int32)).toNatClampNeg) (0 : Int32)) 119 (((((8 : Int32) * ((F_X11_numberOf T (1 : Int32) (8 : Int32)).2.1 105 12)) + (F_X11_numberOf T (1 : Int32) (8 : Int32)).1) - (1 : Int32)).toNatClampNeg) (-1 : Int32)) 121 (((((8 : Int32) * ((F_X11_numberOf T (1 : Int32) (8 : Int32)).2.1 105 12)) + (F_X11_numberOf T (1 : Int32) (8 : Int32)).1) - (1 : Int32)).toNatClampNeg) (-1 : Int32)) (123 : Int32)) ((((8 : Int32) * ((F_X11_numberOf T (1 : Int32) (8 : Int32)).2.1 105 12)) + (F_X11_numberOf T (1 : Int32) (8 : Int32)).1) - (1 : Int32))))))))))))) ∧ ((v_X11_isGood ((F_X11_numberOf T (1 : Int32) (8 : Int32)).2)) = 0 → True)))) ∧ ((v_X11_isGood T) = 0 → True))), (fun (sz : Nat) (T : tT)  (v2 : Int32) => (((v_X11_isGood T) = 0 → (((v_X11_isGood T) = 0 → True) ∧ (¬ (v_X11_isGood T) = 0 → (ok_X11_next sz T ∧ True)))) ∧ (¬ (v_X11_isGood T) = 0 → (ok_X11_is sz T (125 : Int32) ∧ ((¬ (v_X11_is T (125 : Int32)) = 0 → (((v_X11_isGood T) = 0 → True) ∧ (¬ (v_X11_isGood T) = 0 → (ok_X11_next sz T ∧ True)))) ∧ ((v_X11_is T (125 : Int32)) = 0 → (ok_X11_readItem sz T v2 ∧ (okl_X11_readGrade n).2.2.2 sz (F_X11_readItem T v2) v2))))))))
theorem vl_X11_readGrade_s0 (n : Nat) (T : tT)   : (vl_X11_readGrade (n + 1)).1 T = (if (v_X11_isGood T) = 0 then (vl_X11_readGrade n).2.1 T else (if (T.1 105 8) = (4 : Int32) then (vl_X11_readGrade n).2.1 T else (vl_X11_readGrade n).2.1 (F_X11_wrong T))) := rfl
theorem okl_X11_readGrade_s0 (n sz : Nat) (T : tT)   : (okl_X11_readGrade (n + 1)).1 sz T = (((v_X11_isGood T) = 0 → (okl_X11_readGrade n).2.1 sz T) ∧ (¬ (v_X11_isGood T) = 0 → (((T.1 105 8) = (4 : Int32) → (okl_X11_readGrade n).2.1 sz T) ∧ (¬ (T.1 105 8) = (4 : Int32) → (okl_X11_readGrade n).2.1 sz (F_X11_wrong T))))) := rfl
theorem vl_X11_readGrade_s1 (n : Nat) (T : tT)   : (vl_X11_readGrade (n + 1)).2.1 T = (if (v_X11_isGood T) = 0 then (vl_X11_readGrade n).2.2.1 T else (if (T.1 105 9) < (1 : Int32) then (vl_X11_readGrade n).2.2.1 T else (if (8 : Int32) < (T.1 105 9) then (vl_X11_readGrade n).2.2.1 T else (if (T.1 110 ((((8 : Int32) * (T.1 105 12)) + (T.1 105 9)) - (1 : Int32)).toNatClampNeg) = 0 then (vl_X11_readGrade n).2.2.1 T else (vl_X11_readGrade n).2.2.1 (F_X11_fails T (3 : Int32) (T.1 105 6)))))) := rfl
theorem okl_X11_readGrade_s1 (n sz : Nat) (T : tT)   : (okl_X11_readGrade (n + 1)).2.1 sz T = (((v_X11_isGood T) = 0 → (okl_X11_readGrade n).2.2.1 sz T) ∧ (¬ (v_X11_isGood T) = 0 → (((T.1 105 9) < (1 : Int32) → (okl_X11_readGrade n).2.2.1 sz T) ∧ (¬ (T.1 105 9) < (1 : Int32) → (((8 : Int32) < (T.1 105 9) → (okl_X11_readGrade n).2.2.1 sz T) ∧ (¬ (8 : Int32) < (T.1 105 9) → (vp_in ((((8 : Int32) * (T.1 105 12)) + (T.1 105 9)) - (1 : Int32)) 40 ∧ (((T.1 110 ((((8 : Int32) * (T.1 105 12)) + (T.1 105 9)) - (1 : Int32)).toNatClampNeg) = 0 → (okl_X11_readGrade n).2.2.1 sz T) ∧ (¬ (T.1 110 ((((8 : Int32) * (T.1 105 12)) + (T.1 105 9)) - (1 : Int32)).toNatClampNeg) = 0 → (okl_X11_readGrade n).2.2.1 sz (F_X11_fails T (3 : Int32) (T.1 105 6))))))))))) := rfl
theorem vl_X11_readGrade_s2 (n : Nat) (T : tT)   : (vl_X11_readGrade (n + 1)).2.2.1 T = (if (v_X11_isGood T) = 0 then T else (if (v_X11_isGood ((F_X11_numberOf T (1 : Int32) (8 : Int32)).2)) = 0 then (F_X11_numberOf T (1 : Int32) (8 : Int32)).2 else (vl_X11_readGrade n).2.2.2 (F_X11_must (tI (tI (tI (tI (tI (tI (tI (tI (F_X11_numberOf T (1 : Int32) (8 : Int32)).2 110 (((((8 : Int32) * ((F_X11_numberOf T (1 : Int32) (8 : Int32)).2.1 105 12)) + (F_X11_numberOf T (1 : Int32) (8 : Int32)).1) - (1 : Int32)).toNatClampNeg) ((1 : Int32) &&& 1)) 125 (((F_X11_numberOf T (1 : Int32) (8 : Int32)).2.1 105 12).toNatClampNeg) (((F_X11_numberOf T (1 : Int32) (8 : Int32)).2.1 125 ((F_X11_numberOf T (1 : Int32) (8 : Int32)).2.1 105 12).toNatClampNeg) + (1 : Int32))) 111 (((((8 : Int32) * ((F_X11_numberOf T (1 : Int32) (8 : Int32)).2.1 105 12)) + (F_X11_numberOf T (1 : Int32) (8 : Int32)).1) - (1 : Int32)).toNatClampNeg) (0 : Int32)) 113 (((((8 : Int32) * ((F_X11_numberOf T (1 : Int32) (8 : Int32)).2.1 105 12)) + (F_X11_numberOf T (1 : Int32) (8 : Int32)).1) - (1 : Int32)).toNatClampNeg) (0 : Int32)) 115 (((((8 : Int32) * ((F_X11_numberOf T (1 : Int32) (8 : Int32)).2.1 105 12)) + (F_X11_numberOf T (1 : Int32) (8 : Int32)).1) - (1 : Int32)).toNatClampNeg) (0 : Int32)) 116 (((((8 : Int32) * ((F_X11_numberOf T (1 : Int32) (8 : Int32)).2.1 105 12)) + (F_X11_numberOf T (1 : Int32) (8 : Int32)).1) - (1 : Int32)).toNatClampNeg) (0 : Int32)) 119 (((((8 : Int32) * ((F_X11_numberOf T (1 : Int32) (8 : Int32)).2.1 105 12)) + (F_X11_numberOf T (1 : Int32) (8 : Int32)).1) - (1 : Int32)).toNatClampNeg) (-1 : Int32)) 121 (((((8 : Int32) * ((F_X11_numberOf T (1 : Int32) (8 : Int32)).2.1 105 12)) + (F_X11_numberOf T (1 : Int32) (8 : Int32)).1) - (1 : Int32)).toNatClampNeg) (-1 : Int32)) (123 : Int32)) ((((8 : Int32) * ((F_X11_numberOf T (1 : Int32) (8 : Int32)).2.1 105 12)) + (F_X11_numberOf T (1 : Int32) (8 : Int32)).1) - (1 : Int32)))) := rfl
theorem okl_X11_readGrade_s2 (n sz : Nat) (T : tT)   : (okl_X11_readGrade (n + 1)).2.2.1 sz T = ((¬ (v_X11_isGood T) = 0 → (ok_X11_numberOf sz T (1 : Int32) (8 : Int32) ∧ ((¬ (v_X11_isGood ((F_X11_numberOf T (1 : Int32) (8 : Int32)).2)) = 0 → (vp_in ((((8 : Int32) * ((F_X11_numberOf T (1 : Int32) (8 : Int32)).2.1 105 12)) + (F_X11_numberOf T (1 : Int32) (8 : Int32)).1) - (1 : Int32)) 40 ∧ (vp_in ((F_X11_numberOf T (1 : Int32) (8 : Int32)).2.1 105 12) 5 ∧ (vp_in ((F_X11_numberOf T (1 : Int32) (8 : Int32)).2.1 105 12) 5 ∧ (vp_in ((((8 : Int32) * ((F_X11_numberOf T (1 : Int32) (8 : Int32)).2.1 105 12)) + (F_X11_numberOf T (1 : Int32) (8 : Int32)).1) - (1 : Int32)) 40 ∧ (vp_in ((((8 : Int32) * ((F_X11_numberOf T (1 : Int32) (8 : Int32)).2.1 105 12)) + (F_X11_numberOf T (1 : Int32) (8 : Int32)).1) - (1 : Int32)) 40 ∧ (vp_in ((((8 : Int32) * ((F_X11_numberOf T (1 : Int32) (8 : Int32)).2.1 105 12)) + (F_X11_numberOf T (1 : Int32) (8 : Int32)).1) - (1 : Int32)) 40 ∧ (vp_in ((((8 : Int32) * ((F_X11_numberOf T (1 : Int32) (8 : Int32)).2.1 105 12)) + (F_X11_numberOf T (1 : Int32) (8 : Int32)).1) - (1 : Int32)) 40 ∧ (vp_in ((((8 : Int32) * ((F_X11_numberOf T (1 : Int32) (8 : Int32)).2.1 105 12)) + (F_X11_numberOf T (1 : Int32) (8 : Int32)).1) - (1 : Int32)) 40 ∧ (vp_in ((((8 : Int32) * ((F_X11_numberOf T (1 : Int32) (8 : Int32)).2.1 105 12)) + (F_X11_numberOf T (1 : Int32) (8 : Int32)).1) - (1 : Int32)) 40 ∧ (ok_X11_must sz (tI (tI (tI (tI (tI (tI (tI (tI (F_X11_numberOf T (1 : Int32) (8 : Int32)).2 110 (((((8 : Int32) * ((F_X11_numberOf T (1 : Int32) (8 : Int32)).2.1 105 12)) + (F_X11_numberOf T (1 : Int32) (8 : Int32)).1) - (1 : Int32)).toNatClampNeg) ((1 : Int32) &&& 1)) 125 (((F_X11_numberOf T (1 : Int32) (8 : Int32)).2.1 105 12).toNatClampNeg) (((F_X11_numberOf T (1 : Int32) (8 : Int32)).2.1 125 ((F_X11_numberOf T (1 : Int32) (8 : Int32)).2.1 105 12).toNatClampNeg) + (1 : Int32))) 111 (((((8 : Int32) * ((F_X11_numberOf T (1 : Int32) (8 : Int32)).2.1 105 12)) + (F_X11_numberOf T (1 : Int32) (8 : Int32)).1) - (1 : Int32)).toNatClampNeg) (0 : Int32)) 113 (((((8 : Int32) * ((F_X11_numberOf T (1 : Int32) (8 : Int32)).2.1 105 12)) + (F_X11_numberOf T (1 : Int32) (8 : Int32)).1) - (1 : Int32)).toNatClampNeg) (0 : Int32)) 115 (((((8 : Int32) * ((F_X11_numberOf T (1 : Int32) (8 : Int32)).2.1 105 12)) + (F_X11_numberOf T (1 : Int32) (8 : Int32)).1) - (1 : Int32)).toNatClampNeg) (0 : Int32)) 116 (((((8 : Int32) * ((F_X11_numberOf T (1 : Int32) (8 : Int32)).2.1 105 12)) + (F_X11_numberOf T (1 : Int32) (8 : Int32)).1) - (1 : Int32)).toNatClampNeg) (0 : Int32)) 119 (((((8 : Int32) * ((F_X11_numberOf T (1 : Int32) (8 : Int32)).2.1 105 12)) + (F_X11_numberOf T (1 : Int32) (8 : Int32)).1) - (1 : Int32)).toNatClampNeg) (-1 : Int32)) 121 (((((8 : Int32) * ((F_X11_numberOf T (1 : Int32) (8 : Int32)).2.1 105 12)) + (F_X11_numberOf T (1 : Int32) (8 : Int32)).1) - (1 : Int32)).toNatClampNeg) (-1 : Int32)) (123 : Int32) ∧ (okl_X11_readGrade n).2.2.2 sz (F_X11_must (tI (tI (tI (tI (tI (tI (tI (tI (F_X11_numberOf T (1 : Int32) (8 : Int32)).2 110 (((((8 : Int32) * ((F_X11_numberOf T (1 : Int32) (8 : Int32)).2.1 105 12)) + (F_X11_numberOf T (1 : Int32) (8 : Int32)).1) - (1 : Int32)).toNatClampNeg) ((1 : Int32) &&& 1)) 125 (((F_X11_numberOf T (1 : Int32) (8 : Int32)).2.1 105 12).toNatClampNeg) (((F_X11_numberOf T (1 : Int32) (8 : Int32)).2.1 125 ((F_X11_numberOf T (1 : Int32) (8 : Int32)).2.1 105 12).toNatClampNeg) + (1 : Int32))) 111 (((((8 : Int32) * ((F_X11_numberOf T (1 : Int32) (8 : Int32)).2.1 105 12)) + (F_X11_numberOf T (1 : Int32) (8 : Int32)).1) - (1 : Int32)).toNatClampNeg) (0 : Int32)) 113 (((((8 : Int32) * ((F_X11_numberOf T (1 : Int32) (8 : Int32)).2.1 105 12)) + (F_X11_numberOf T (1 : Int32) (8 : Int32)).1) - (1 : Int32)).toNatClampNeg) (0 : Int32)) 115 (((((8 : Int32) * ((F_X11_numberOf T (1 : Int32) (8 : Int32)).2.1 105 12)) + (F_X11_numberOf T (1 : Int32) (8 : Int32)).1) - (1 : Int32)).toNatClampNeg) (0 : Int32)) 116 (((((8 : Int32) * ((F_X11_numberOf T (1 : Int32) (8 : Int32)).2.1 105 12)) + (F_X11_numberOf T (1 : Int32) (8 : Int32)).1) - (1 : Int32)).toNatClampNeg) (0 : Int32)) 119 (((((8 : Int32) * ((F_X11_numberOf T (1 : Int32) (8 : Int32)).2.1 105 12)) + (F_X11_numberOf T (1 : Int32) (8 : Int32)).1) - (1 : Int32)).toNatClampNeg) (-1 : Int32)) 121 (((((8 : Int32) * ((F_X11_numberOf T (1 : Int32) (8 : Int32)).2.1 105 12)) + (F_X11_numberOf T (1 : Int32) (8 : Int32)).1) - (1 : Int32)).toNatClampNeg) (-1 : Int32)) (123 : Int32)) ((((8 : Int32) * ((F_X11_numberOf T (1 : Int32) (8 : Int32)).2.1 105 12)) + (F_X11_numberOf T (1 : Int32) (8 : Int32)).1) - (1 : Int32))))))))))))) ∧ ((v_X11_isGood ((F_X11_numberOf T (1 : Int32) (8 : Int32)).2)) = 0 → True)))) ∧ ((v_X11_isGood T) = 0 → True)) := rfl
theorem vl_X11_readGrade_s3 (n : Nat) (T : tT)  (v2 : Int32) : (vl_X11_readGrade (n + 1)).2.2.2 T v2 = (if (v_X11_isGood T) = 0 then (if (v_X11_isGood T) = 0 then T else (F_X11_next T)) else (if (v_X11_is T (125 : Int32)) = 0 then (vl_X11_readGrade n).2.2.2 (F_X11_readItem T v2) v2 else (if (v_X11_isGood T) = 0 then T else (F_X11_next T)))) := rfl
theorem okl_X11_readGrade_s3 (n sz : Nat) (T : tT)  (v2 : Int32) : (okl_X11_readGrade (n + 1)).2.2.2 sz T v2 = (((v_X11_isGood T) = 0 → (((v_X11_isGood T) = 0 → True) ∧ (¬ (v_X11_isGood T) = 0 → (ok_X11_next sz T ∧ True)))) ∧ (¬ (v_X11_isGood T) = 0 → (ok_X11_is sz T (125 : Int32) ∧ ((¬ (v_X11_is T (125 : Int32)) = 0 → (((v_X11_isGood T) = 0 → True) ∧ (¬ (v_X11_isGood T) = 0 → (ok_X11_next sz T ∧ True)))) ∧ ((v_X11_is T (125 : Int32)) = 0 → (ok_X11_readItem sz T v2 ∧ (okl_X11_readGrade n).2.2.2 sz (F_X11_readItem T v2) v2)))))) := rfl
set_option maxRecDepth 10000 in
set_option maxHeartbeats 1000000 in
theorem lj_X11_readGrade {X : ax_X} {d L sz : Nat} {Q : tT → Prop} (hX : ax_ok X mX11_readGrade (d + 7)) (hsz : 161 ≤ sz) (hR : ax_Ret X mX11_readGrade (tv L sz Q)) : ∀ n : Nat, (∀ (T : tT)  , (okl_X11_readGrade n).1 sz T → Q ((vl_X11_readGrade n).1 T) → ax_j X 21 [some (.ref 105), none, none] [] (th L sz T) 0 0) ∧ (∀ (T : tT)  , (okl_X11_readGrade n).2.1 sz T → Q ((vl_X11_readGrade n).2.1 T) → ax_j X 40 [some (.ref 105), none, none] [] (th L sz T) 0 0) ∧ (∀ (T : tT)  , (okl_X11_readGrade n).2.2.1 sz T → Q ((vl_X11_readGrade n).2.2.1 T) → ax_j X 95 [some (.ref 105), none, none] [] (th L sz T) 0 0) ∧ (∀ (T : tT)  (v2 : Int32), (okl_X11_readGrade n).2.2.2 sz T v2 → Q ((vl_X11_readGrade n).2.2.2 T v2) → ax_j X 199 [some (.ref 105), none, some (.int v2)] [] (th L sz T) 0 0) := by
  intro n
  induction n with
  | zero => exact ⟨(by intros; rename_i ok _; exact False.elim ok), (by intros; rename_i ok _; exact False.elim ok), (by intros; rename_i ok _; exact False.elim ok), (by intros; rename_i ok _; exact False.elim ok)⟩
  | succ n ih =>
    refine ⟨?_, ?_, ?_, ?_⟩
    · intro T   ok hq
      refine s_X11_readGrade_21 hX hR hsz    ?_
      rw [okl_X11_readGrade_s0] at ok
      refine ⟨_, c_X11_isGood hsz   , ?_⟩
      rintro _ _ ⟨rfl, rfl⟩
      refine ⟨fun kq0 => ?_, fun kq0 => ?_⟩
      · replace ok := ok.1 kq0
        have z := hq; rw [vl_X11_readGrade_s0, if_pos kq0] at z; exact ih.2.1 _   ok z
      · replace ok := ok.2 kq0
        refine ⟨fun kq1 => ?_, fun kq1 => ?_⟩
        · replace ok := ok.1 kq1
          have z := hq; rw [vl_X11_readGrade_s0, if_neg kq0, if_pos kq1] at z; exact ih.2.1 _   ok z
        · replace ok := ok.2 kq1
          refine ⟨_, c_X11_wrong hsz   , ?_⟩
          rintro _ rfl
          have z := hq; rw [vl_X11_readGrade_s0, if_neg kq0, if_neg kq1] at z; exact ih.2.1 _   ok z
    · intro T   ok hq
      refine s_X11_readGrade_40 hX hR hsz    ?_
      rw [okl_X11_readGrade_s1] at ok
      refine ⟨_, c_X11_isGood hsz   , ?_⟩
      rintro _ _ ⟨rfl, rfl⟩
      refine ⟨fun kq0 => ?_, fun kq0 => ?_⟩
      · replace ok := ok.1 kq0
        have z := hq; rw [vl_X11_readGrade_s1, if_pos kq0] at z; exact ih.2.2.1 _   ok z
      · replace ok := ok.2 kq0
        refine ⟨fun kq1 => ?_, fun kq1 => ?_⟩
        · replace ok := ok.1 kq1
          have z := hq; rw [vl_X11_readGrade_s1, if_neg kq0, if_pos kq1] at z; exact ih.2.2.1 _   ok z
        · replace ok := ok.2 kq1
          refine ⟨fun kq2 => ?_, fun kq2 => ?_⟩
          · replace ok := ok.1 kq2
            have z := hq; rw [vl_X11_readGrade_s1, if_neg kq0, if_neg kq1, if_pos kq2] at z; exact ih.2.2.1 _   ok z
          · replace ok := ok.2 kq2
            refine ⟨ok.1, ?_⟩
            replace ok := ok.2
            refine ⟨fun kq3 => ?_, fun kq3 => ?_⟩
            · replace ok := ok.1 kq3
              have z := hq; rw [vl_X11_readGrade_s1, if_neg kq0, if_neg kq1, if_neg kq2, if_pos kq3] at z; exact ih.2.2.1 _   ok z
            · replace ok := ok.2 kq3
              refine ⟨_, c_X11_fails hsz  (3 : Int32) (T.1 105 6) , ?_⟩
              rintro _ rfl
              have z := hq; rw [vl_X11_readGrade_s1, if_neg kq0, if_neg kq1, if_neg kq2, if_neg kq3] at z; exact ih.2.2.1 _   ok z
    · intro T   ok hq
      refine s_X11_readGrade_95 hX hR hsz    ?_
      rw [okl_X11_readGrade_s2] at ok
      refine ⟨_, c_X11_isGood hsz   , ?_⟩
      rintro _ _ ⟨rfl, rfl⟩
      refine ⟨fun kq0 => ?_, fun kq0 => ?_⟩
      · replace ok := ok.1 kq0
        refine ⟨_, c_X11_numberOf hsz  (1 : Int32) (8 : Int32) ok.1, ?_⟩
        rintro _ _ ⟨rfl, rfl⟩
        replace ok := ok.2
        refine ⟨_, c_X11_isGood hsz   , ?_⟩
        rintro _ _ ⟨rfl, rfl⟩
        refine ⟨fun kq1 => ?_, fun kq1 => ?_⟩
        · replace ok := ok.1 kq1
          refine ⟨ok.1, ?_⟩
          replace ok := ok.2
          refine ⟨ok.1, ?_⟩
          replace ok := ok.2
          refine ⟨ok.1, ?_⟩
          replace ok := ok.2
          refine ⟨ok.1, ?_⟩
          replace ok := ok.2
          refine ⟨ok.1, ?_⟩
          replace ok := ok.2
          refine ⟨ok.1, ?_⟩
          replace ok := ok.2
          refine ⟨ok.1, ?_⟩
          replace ok := ok.2
          refine ⟨ok.1, ?_⟩
          replace ok := ok.2
          refine ⟨ok.1, ?_⟩
          replace ok := ok.2
          refine ⟨_, c_X11_must hsz  (123 : Int32) ok.1, ?_⟩
          rintro _ rfl
          replace ok := ok.2
          have z := hq; rw [vl_X11_readGrade_s2, if_neg kq0, if_neg kq1] at z; exact ih.2.2.2 _  ((((8 : Int32) * ((F_X11_numberOf T (1 : Int32) (8 : Int32)).2.1 105 12)) + (F_X11_numberOf T (1 : Int32) (8 : Int32)).1) - (1 : Int32)) ok z
        · replace ok := ok.2 kq1
          have z := hq; rw [vl_X11_readGrade_s2, if_neg kq0, if_pos kq1] at z; exact z
      · replace ok := ok.2 kq0
        have z := hq; rw [vl_X11_readGrade_s2, if_pos kq0] at z; exact z
    · intro T  v2 ok hq
      refine s_X11_readGrade_199 hX hR hsz   v2 ?_
      rw [okl_X11_readGrade_s3] at ok
      refine ⟨_, c_X11_isGood hsz   , ?_⟩
      rintro _ _ ⟨rfl, rfl⟩
      refine ⟨fun kq0 => ?_, fun kq0 => ?_⟩
      · replace ok := ok.1 kq0
        refine ⟨_, c_X11_isGood hsz   , ?_⟩
        rintro _ _ ⟨rfl, rfl⟩
        refine ⟨fun kq1 => ?_, fun kq1 => ?_⟩
        · replace ok := ok.1 kq1
          have z := hq; rw [vl_X11_readGrade_s3, if_pos kq0, if_pos kq1] at z; exact z
        · replace ok := ok.2 kq1
          refine ⟨_, c_X11_next hsz   ok.1, ?_⟩
          rintro _ rfl
          replace ok := ok.2
          have z := hq; rw [vl_X11_readGrade_s3, if_pos kq0, if_neg kq1] at z; exact z
      · replace ok := ok.2 kq0
        refine ⟨_, c_X11_is hsz  (125 : Int32) ok.1, ?_⟩
        rintro _ _ ⟨rfl, rfl⟩
        replace ok := ok.2
        refine ⟨fun kq1 => ?_, fun kq1 => ?_⟩
        · replace ok := ok.1 kq1
          refine ⟨_, c_X11_isGood hsz   , ?_⟩
          rintro _ _ ⟨rfl, rfl⟩
          refine ⟨fun kq2 => ?_, fun kq2 => ?_⟩
          · replace ok := ok.1 kq2
            have z := hq; rw [vl_X11_readGrade_s3, if_neg kq0, if_neg kq1, if_pos kq2] at z; exact z
          · replace ok := ok.2 kq2
            refine ⟨_, c_X11_next hsz   ok.1, ?_⟩
            rintro _ rfl
            replace ok := ok.2
            have z := hq; rw [vl_X11_readGrade_s3, if_neg kq0, if_neg kq1, if_neg kq2] at z; exact z
        · replace ok := ok.2 kq1
          refine ⟨_, c_X11_readItem hsz  v2 ok.1, ?_⟩
          rintro _ rfl
          replace ok := ok.2
          have z := hq; rw [vl_X11_readGrade_s3, if_neg kq0, if_pos kq1] at z; exact ih.2.2.2 _  v2 ok z
noncomputable def F_X11_readGrade (T : tT)   : tT := (if (v_X11_isWord T (444300616805 : Int64)) = 0 then (vl_X11_readGrade fu).1 (F_X11_wrong T) else (vl_X11_readGrade fu).1 (F_X11_next T))
noncomputable def ok_X11_readGrade (sz : Nat) (T : tT)   : Prop := (((v_X11_isWord T (444300616805 : Int64)) = 0 → (okl_X11_readGrade fu).1 sz (F_X11_wrong T)) ∧ (¬ (v_X11_isWord T (444300616805 : Int64)) = 0 → (ok_X11_next sz T ∧ (okl_X11_readGrade fu).1 sz (F_X11_next T))))
set_option maxRecDepth 10000 in
theorem c_X11_readGrade {d L sz : Nat} {T : tT} (hsz : 161 ≤ sz)  (ok : ok_X11_readGrade sz T) : tvK (d + 7) mX11_readGrade [.ref 105] L sz T (fun T' => T' = F_X11_readGrade T) := by
  refine k_X11_readGrade hsz   (fun X hX hR => ?_)
  unfold ok_X11_readGrade at ok
  refine ⟨_, c_X11_isWord hsz  (444300616805 : Int64) , ?_⟩
  rintro _ _ ⟨rfl, rfl⟩
  refine ⟨fun kq0 => ?_, fun kq0 => ?_⟩
  · replace ok := ok.1 kq0
    refine ⟨_, c_X11_wrong hsz   , ?_⟩
    rintro _ rfl
    exact (lj_X11_readGrade hX hsz  hR _).1 _   ok (by unfold F_X11_readGrade; first | (rw [if_pos kq0]; done) | (rw [if_pos kq0]; rfl))
  · replace ok := ok.2 kq0
    refine ⟨_, c_X11_next hsz   ok.1, ?_⟩
    rintro _ rfl
    replace ok := ok.2
    exact (lj_X11_readGrade hX hsz  hR _).1 _   ok (by unfold F_X11_readGrade; first | (rw [if_neg kq0]; done) | (rw [if_neg kq0]; rfl))
noncomputable def vl_X11_syllabus : Nat → (tT → Int32 → Int32 → (Int32 × tT)) × (tT → Int32 → Int32 → (Int32 × tT)) × (tT → Int32 → (Int32 × tT)) × (tT → Int32 → (Int32 × tT))
  | 0 => ((fun (T : tT)  (v1 : Int32) (v2 : Int32) => (0, T)), (fun (T : tT)  (v1 : Int32) (v2 : Int32) => (0, T)), (fun (T : tT)  (v1 : Int32) => (0, T)), (fun (T : tT)  (v1 : Int32) => (0, T)))
  | n + 1 => ((fun (T : tT)  (v1 : Int32) (v2 : Int32) => (if (T.1 105 3) ≤ v2 then (vl_X11_syllabus n).2.1 (tI (tI (tI (tI (tI T 105 2 (0 : Int32)) 105 7 (0 : Int32)) 105 13 (0 : Int32)) 105 14 (0 : Int32)) 125 ((T.1 105 12).toNatClampNeg) (0 : Int32)) v1 (0 : Int32) else (vl_X11_syllabus n).1 (tI T 107 (v2.toNatClampNeg) (T.1 106 (v2.toNatClampNeg)).toInt8.toInt32) v1 (v2 + (1 : Int32)))), (fun (T : tT)  (v1 : Int32) (v2 : Int32) => (if (8 : Int32) ≤ v2 then (vl_X11_syllabus n).2.2.1 (F_X11_next T) v1 else (vl_X11_syllabus n).2.1 (tI T 110 ((((8 : Int32) * (T.1 105 12)) + v2).toNatClampNeg) ((0 : Int32) &&& 1)) v1 (v2 + (1 : Int32)))), (fun (T : tT)  (v1 : Int32) => (if (v_X11_isGood T) = 0 then (vl_X11_syllabus n).2.2.2 T v1 else (if (T.1 105 8) = 0 then (vl_X11_syllabus n).2.2.2 T v1 else (vl_X11_syllabus n).2.2.1 (F_X11_readGrade T) v1))), (fun (T : tT)  (v1 : Int32) => (if (v_X11_isGood T) = 0 then ((-1 : Int32), T) else ((T.1 125 ((tI T 108 (v1.toNatClampNeg) (T.1 105 12)).1 108 (v1.toNatClampNeg)).toNatClampNeg), (tI (tI (tI T 108 (v1.toNatClampNeg) (T.1 105 12)) 105 12 (T.1 108 (v1.toNatClampNeg))) 109 (v1.toNatClampNeg) ((1 : Int32) &&& 1))))))
noncomputable def okl_X11_syllabus : Nat → (Nat → tT → Int32 → Int32 → Prop) × (Nat → tT → Int32 → Int32 → Prop) × (Nat → tT → Int32 → Prop) × (Nat → tT → Int32 → Prop)
  | 0 => ((fun (sz : Nat) (T : tT)  (v1 : Int32) (v2 : Int32) => False), (fun (sz : Nat) (T : tT)  (v1 : Int32) (v2 : Int32) => False), (fun (sz : Nat) (T : tT)  (v1 : Int32) => False), (fun (sz : Nat) (T : tT)  (v1 : Int32) => False))
  | n + 1 => ((fun (sz : Nat) (T : tT)  (v1 : Int32) (v2 : Int32) => (((T.1 105 3) ≤ v2 → (vp_in (T.1 105 12) 5 ∧ (okl_X11_syllabus n).2.1 sz (tI (tI (tI (tI (tI T 105 2 (0 : Int32)) 105 7 (0 : Int32)) 105 13 (0 : Int32)) 105 14 (0 : Int32)) 125 ((T.1 105 12).toNatClampNeg) (0 : Int32)) v1 (0 : Int32))) ∧ (¬ (T.1 105 3) ≤ v2 → (vp_in v2 1420 ∧ (vp_in v2 1400 ∧ (okl_X11_syllabus n).1 sz (tI T 107 (v2.toNatClampNeg) (T.1 106 (v2.toNatClampNeg)).toInt8.toInt32) v1 (v2 + (1 : Int32))))))), (fun (sz : Nat) (T : tT)  (v1 : Int32) (v2 : Int32) => (((8 : Int32) ≤ v2 → (ok_X11_next sz T ∧ (okl_X11_syllabus n).2.2.1 sz (F_X11_next T) v1)) ∧ (¬ (8 : Int32) ≤ v2 → (vp_in (((8 : Int32) * (T.1 105 12)) + v2) 40 ∧ (okl_X11_syllabus n).2.1 sz (tI T 110 ((((8 : Int32) * (T.1 105 12)) + v2).toNatClampNeg) ((0 : Int32) &&& 1)) v1 (v2 + (1 : Int32)))))), (fun (sz : Nat) (T : tT)  (v1 : Int32) => (((v_X11_isGood T) = 0 → (okl_X11_syllabus n).2.2.2 sz T v1) ∧ (¬ (v_X11_isGood T) = 0 → (((T.1 105 8) = 0 → (okl_X11_syllabus n).2.2.2 sz T v1) ∧ (¬ (T.1 105 8) = 0 → (ok_X11_readGrade sz T ∧ (okl_X11_syllabus n).2.2.1 sz (F_X11_readGrade T) v1)))))), (fun (sz : Nat) (T : tT)  (v1 : Int32) => ((¬ (v_X11_isGood T) = 0 → (vp_in v1 4 ∧ (vp_in v1 4 ∧ (vp_in v1 4 ∧ (vp_in v1 4 ∧ vp_in ((tI T 108 (v1.toNatClampNeg) (T.1 105 12)).1 108 (v1.toNatClampNeg)) 5))))) ∧ ((v_X11_isGood T) = 0 → True))))
theorem vl_X11_syllabus_s0 (n : Nat) (T : tT)  (v1 : Int32) (v2 : Int32) : (vl_X11_syllabus (n + 1)).1 T v1 v2 = (if (T.1 105 3) ≤ v2 then (vl_X11_syllabus n).2.1 (tI (tI (tI (tI (tI T 105 2 (0 : Int32)) 105 7 (0 : Int32)) 105 13 (0 : Int32)) 105 14 (0 : Int32)) 125 ((T.1 105 12).toNatClampNeg) (0 : Int32)) v1 (0 : Int32) else (vl_X11_syllabus n).1 (tI T 107 (v2.toNatClampNeg) (T.1 106 (v2.toNatClampNeg)).toInt8.toInt32) v1 (v2 + (1 : Int32))) := rfl
theorem okl_X11_syllabus_s0 (n sz : Nat) (T : tT)  (v1 : Int32) (v2 : Int32) : (okl_X11_syllabus (n + 1)).1 sz T v1 v2 = (((T.1 105 3) ≤ v2 → (vp_in (T.1 105 12) 5 ∧ (okl_X11_syllabus n).2.1 sz (tI (tI (tI (tI (tI T 105 2 (0 : Int32)) 105 7 (0 : Int32)) 105 13 (0 : Int32)) 105 14 (0 : Int32)) 125 ((T.1 105 12).toNatClampNeg) (0 : Int32)) v1 (0 : Int32))) ∧ (¬ (T.1 105 3) ≤ v2 → (vp_in v2 1420 ∧ (vp_in v2 1400 ∧ (okl_X11_syllabus n).1 sz (tI T 107 (v2.toNatClampNeg) (T.1 106 (v2.toNatClampNeg)).toInt8.toInt32) v1 (v2 + (1 : Int32)))))) := rfl
theorem vl_X11_syllabus_s1 (n : Nat) (T : tT)  (v1 : Int32) (v2 : Int32) : (vl_X11_syllabus (n + 1)).2.1 T v1 v2 = (if (8 : Int32) ≤ v2 then (vl_X11_syllabus n).2.2.1 (F_X11_next T) v1 else (vl_X11_syllabus n).2.1 (tI T 110 ((((8 : Int32) * (T.1 105 12)) + v2).toNatClampNeg) ((0 : Int32) &&& 1)) v1 (v2 + (1 : Int32))) := rfl
theorem okl_X11_syllabus_s1 (n sz : Nat) (T : tT)  (v1 : Int32) (v2 : Int32) : (okl_X11_syllabus (n + 1)).2.1 sz T v1 v2 = (((8 : Int32) ≤ v2 → (ok_X11_next sz T ∧ (okl_X11_syllabus n).2.2.1 sz (F_X11_next T) v1)) ∧ (¬ (8 : Int32) ≤ v2 → (vp_in (((8 : Int32) * (T.1 105 12)) + v2) 40 ∧ (okl_X11_syllabus n).2.1 sz (tI T 110 ((((8 : Int32) * (T.1 105 12)) + v2).toNatClampNeg) ((0 : Int32) &&& 1)) v1 (v2 + (1 : Int32))))) := rfl
theorem vl_X11_syllabus_s2 (n : Nat) (T : tT)  (v1 : Int32) : (vl_X11_syllabus (n + 1)).2.2.1 T v1 = (if (v_X11_isGood T) = 0 then (vl_X11_syllabus n).2.2.2 T v1 else (if (T.1 105 8) = 0 then (vl_X11_syllabus n).2.2.2 T v1 else (vl_X11_syllabus n).2.2.1 (F_X11_readGrade T) v1)) := rfl
theorem okl_X11_syllabus_s2 (n sz : Nat) (T : tT)  (v1 : Int32) : (okl_X11_syllabus (n + 1)).2.2.1 sz T v1 = (((v_X11_isGood T) = 0 → (okl_X11_syllabus n).2.2.2 sz T v1) ∧ (¬ (v_X11_isGood T) = 0 → (((T.1 105 8) = 0 → (okl_X11_syllabus n).2.2.2 sz T v1) ∧ (¬ (T.1 105 8) = 0 → (ok_X11_readGrade sz T ∧ (okl_X11_syllabus n).2.2.1 sz (F_X11_readGrade T) v1))))) := rfl
theorem vl_X11_syllabus_s3 (n : Nat) (T : tT)  (v1 : Int32) : (vl_X11_syllabus (n + 1)).2.2.2 T v1 = (if (v_X11_isGood T) = 0 then ((-1 : Int32), T) else ((T.1 125 ((tI T 108 (v1.toNatClampNeg) (T.1 105 12)).1 108 (v1.toNatClampNeg)).toNatClampNeg), (tI (tI (tI T 108 (v1.toNatClampNeg) (T.1 105 12)) 105 12 (T.1 108 (v1.toNatClampNeg))) 109 (v1.toNatClampNeg) ((1 : Int32) &&& 1)))) := rfl
theorem okl_X11_syllabus_s3 (n sz : Nat) (T : tT)  (v1 : Int32) : (okl_X11_syllabus (n + 1)).2.2.2 sz T v1 = ((¬ (v_X11_isGood T) = 0 → (vp_in v1 4 ∧ (vp_in v1 4 ∧ (vp_in v1 4 ∧ (vp_in v1 4 ∧ vp_in ((tI T 108 (v1.toNatClampNeg) (T.1 105 12)).1 108 (v1.toNatClampNeg)) 5))))) ∧ ((v_X11_isGood T) = 0 → True)) := rfl
set_option maxRecDepth 10000 in
set_option maxHeartbeats 1000000 in
theorem lj_X11_syllabus {X : ax_X} {d L sz : Nat} {Q : Int32 → tT → Prop} (hX : ax_ok X mX11_syllabus (d + 8)) (hsz : 161 ≤ sz) (hR : ax_Ret X mX11_syllabus (ti L sz Q)) : ∀ n : Nat, (∀ (T : tT)  (v1 : Int32) (v2 : Int32), (okl_X11_syllabus n).1 sz T v1 v2 → Q ((vl_X11_syllabus n).1 T v1 v2).1 ((vl_X11_syllabus n).1 T v1 v2).2 → ax_j X 32 [some (.ref 105), some (.int v1), some (.int v2)] [] (th L sz T) 0 0) ∧ (∀ (T : tT)  (v1 : Int32) (v2 : Int32), (okl_X11_syllabus n).2.1 sz T v1 v2 → Q ((vl_X11_syllabus n).2.1 T v1 v2).1 ((vl_X11_syllabus n).2.1 T v1 v2).2 → ax_j X 90 [some (.ref 105), some (.int v1), some (.int v2)] [] (th L sz T) 0 0) ∧ (∀ (T : tT)  (v1 : Int32), (okl_X11_syllabus n).2.2.1 sz T v1 → Q ((vl_X11_syllabus n).2.2.1 T v1).1 ((vl_X11_syllabus n).2.2.1 T v1).2 → ax_j X 121 [some (.ref 105), some (.int v1), none] [] (th L sz T) 0 0) ∧ (∀ (T : tT)  (v1 : Int32), (okl_X11_syllabus n).2.2.2 sz T v1 → Q ((vl_X11_syllabus n).2.2.2 T v1).1 ((vl_X11_syllabus n).2.2.2 T v1).2 → ax_j X 142 [some (.ref 105), some (.int v1), none] [] (th L sz T) 0 0) := by
  intro n
  induction n with
  | zero => exact ⟨(by intros; rename_i ok _; exact False.elim ok), (by intros; rename_i ok _; exact False.elim ok), (by intros; rename_i ok _; exact False.elim ok), (by intros; rename_i ok _; exact False.elim ok)⟩
  | succ n ih =>
    refine ⟨?_, ?_, ?_, ?_⟩
    · intro T  v1 v2 ok hq
      refine s_X11_syllabus_32 hX hR hsz   v1 v2 ?_
      rw [okl_X11_syllabus_s0] at ok
      refine ⟨fun kq0 => ?_, fun kq0 => ?_⟩
      · replace ok := ok.1 kq0
        refine ⟨ok.1, ?_⟩
        replace ok := ok.2
        have z := hq; rw [vl_X11_syllabus_s0, if_pos kq0] at z; exact ih.2.1 _  v1 (0 : Int32) ok z
      · replace ok := ok.2 kq0
        refine ⟨ok.1, ?_⟩
        replace ok := ok.2
        refine ⟨ok.1, ?_⟩
        replace ok := ok.2
        have z := hq; rw [vl_X11_syllabus_s0, if_neg kq0] at z; exact ih.1 _  v1 (v2 + (1 : Int32)) ok z
    · intro T  v1 v2 ok hq
      refine s_X11_syllabus_90 hX hR hsz   v1 v2 ?_
      rw [okl_X11_syllabus_s1] at ok
      refine ⟨fun kq0 => ?_, fun kq0 => ?_⟩
      · replace ok := ok.1 kq0
        refine ⟨_, c_X11_next hsz   ok.1, ?_⟩
        rintro _ rfl
        replace ok := ok.2
        have z := hq; rw [vl_X11_syllabus_s1, if_pos kq0] at z; exact ih.2.2.1 _  v1 ok z
      · replace ok := ok.2 kq0
        refine ⟨ok.1, ?_⟩
        replace ok := ok.2
        have z := hq; rw [vl_X11_syllabus_s1, if_neg kq0] at z; exact ih.2.1 _  v1 (v2 + (1 : Int32)) ok z
    · intro T  v1 ok hq
      refine s_X11_syllabus_121 hX hR hsz   v1 ?_
      rw [okl_X11_syllabus_s2] at ok
      refine ⟨_, c_X11_isGood hsz   , ?_⟩
      rintro _ _ ⟨rfl, rfl⟩
      refine ⟨fun kq0 => ?_, fun kq0 => ?_⟩
      · replace ok := ok.1 kq0
        have z := hq; rw [vl_X11_syllabus_s2, if_pos kq0] at z; exact ih.2.2.2 _  v1 ok z
      · replace ok := ok.2 kq0
        refine ⟨fun kq1 => ?_, fun kq1 => ?_⟩
        · replace ok := ok.1 kq1
          have z := hq; rw [vl_X11_syllabus_s2, if_neg kq0, if_pos kq1] at z; exact ih.2.2.2 _  v1 ok z
        · replace ok := ok.2 kq1
          refine ⟨_, c_X11_readGrade hsz   ok.1, ?_⟩
          rintro _ rfl
          replace ok := ok.2
          have z := hq; rw [vl_X11_syllabus_s2, if_neg kq0, if_neg kq1] at z; exact ih.2.2.1 _  v1 ok z
    · intro T  v1 ok hq
      refine s_X11_syllabus_142 hX hR hsz   v1 ?_
      rw [okl_X11_syllabus_s3] at ok
      refine ⟨_, c_X11_isGood hsz   , ?_⟩
      rintro _ _ ⟨rfl, rfl⟩
      refine ⟨fun kq0 => ?_, fun kq0 => ?_⟩
      · replace ok := ok.1 kq0
        refine ⟨ok.1, ?_⟩
        replace ok := ok.2
        refine ⟨ok.1, ?_⟩
        replace ok := ok.2
        refine ⟨ok.1, ?_⟩
        replace ok := ok.2
        refine ⟨ok.1, ?_⟩
        replace ok := ok.2
        refine ⟨ok, ?_⟩
        have z := hq; rw [vl_X11_syllabus_s3, if_neg kq0] at z; exact z
      · replace ok := ok.2 kq0
        have z := hq; rw [vl_X11_syllabus_s3, if_pos kq0] at z; exact z
noncomputable def F_X11_syllabus (T : tT)  (x0 : Int32) : (Int32 × tT) := (if x0 < 0 then ((-2 : Int32), T) else (if x0 < (4 : Int32) then (vl_X11_syllabus fu).1 (tI (tI (tI T 105 4 (0 : Int32)) 105 5 (-1 : Int32)) 105 3 (T.1 105 2)) x0 (0 : Int32) else ((-2 : Int32), T)))
noncomputable def ok_X11_syllabus (sz : Nat) (T : tT)  (x0 : Int32) : Prop := ((x0 < 0 → True) ∧ (¬ x0 < 0 → ((x0 < (4 : Int32) → (okl_X11_syllabus fu).1 sz (tI (tI (tI T 105 4 (0 : Int32)) 105 5 (-1 : Int32)) 105 3 (T.1 105 2)) x0 (0 : Int32)) ∧ (¬ x0 < (4 : Int32) → True))))
set_option maxRecDepth 10000 in
theorem c_X11_syllabus {d L sz : Nat} {T : tT} (hsz : 161 ≤ sz) (x0 : Int32) (ok : ok_X11_syllabus sz T x0) : tiK (d + 8) mX11_syllabus [.ref 105, .int x0] L sz T (fun r T' => r = (F_X11_syllabus T x0).1 ∧ T' = (F_X11_syllabus T x0).2) := by
  refine k_X11_syllabus hsz  x0 (fun X hX hR => ?_)
  unfold ok_X11_syllabus at ok
  refine ⟨fun kq0 => ?_, fun kq0 => ?_⟩
  · replace ok := ok.1 kq0
    exact ⟨by unfold F_X11_syllabus; first | (rw [if_pos kq0]; done) | (rw [if_pos kq0]; rfl), by unfold F_X11_syllabus; first | (rw [if_pos kq0]; done) | (rw [if_pos kq0]; rfl)⟩
  · replace ok := ok.2 kq0
    refine ⟨fun kq1 => ?_, fun kq1 => ?_⟩
    · replace ok := ok.1 kq1
      exact (lj_X11_syllabus hX hsz  hR _).1 _  x0 (0 : Int32) ok ⟨by unfold F_X11_syllabus; first | (rw [if_neg kq0, if_pos kq1]; done) | (rw [if_neg kq0, if_pos kq1]; rfl), by unfold F_X11_syllabus; first | (rw [if_neg kq0, if_pos kq1]; done) | (rw [if_neg kq0, if_pos kq1]; rfl)⟩
    · replace ok := ok.2 kq1
      exact ⟨by unfold F_X11_syllabus; first | (rw [if_neg kq0, if_neg kq1]; done) | (rw [if_neg kq0, if_neg kq1]; rfl), by unfold F_X11_syllabus; first | (rw [if_neg kq0, if_neg kq1]; done) | (rw [if_neg kq0, if_neg kq1]; rfl)⟩
