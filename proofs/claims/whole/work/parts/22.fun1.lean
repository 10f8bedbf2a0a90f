/-- the fuel of loops: more than any of them takes -/
noncomputable def fu : Nat := Classical.choose (⟨10000000, rfl⟩ : ∃ n : Nat, n = 10000000)
theorem fu_eq : fu = 10000000 := Classical.choose_spec (⟨10000000, rfl⟩ : ∃ n : Nat, n = 10000000)
noncomputable def vl_X0_anyUpTo : Nat → tT → Int32 → Int32 → Int32 → Int32
  | 0, T, v1, v2, v3 => 0
  | n + 1, T, v1, v2, v3 => (if (T.1 101 0) ≤ v3 then (0 : Int32) else (if (T.1 102 (v3.toNatClampNeg)) = v1 then (if v2 < (T.1 104 (v3.toNatClampNeg)) then vl_X0_anyUpTo n T v1 v2 (v3 + (1 : Int32)) else (1 : Int32)) else vl_X0_anyUpTo n T v1 v2 (v3 + (1 : Int32))))
noncomputable def okl_X0_anyUpTo : Nat → Nat → tT → Int32 → Int32 → Int32 → Prop
  | 0, _, T, v1, v2, v3 => False
  | n + 1, sz, T, v1, v2, v3 => (((T.1 101 0) ≤ v3 → True) ∧ (¬ (T.1 101 0) ≤ v3 → (vp_in v3 60 ∧ ((¬ (T.1 102 (v3.toNatClampNeg)) = v1 → okl_X0_anyUpTo n sz T v1 v2 (v3 + (1 : Int32))) ∧ ((T.1 102 (v3.toNatClampNeg)) = v1 → (vp_in v3 60 ∧ ((v2 < (T.1 104 (v3.toNatClampNeg)) → okl_X0_anyUpTo n sz T v1 v2 (v3 + (1 : Int32))) ∧ (¬ v2 < (T.1 104 (v3.toNatClampNeg)) → True))))))))
theorem vl_X0_anyUpTo_s (n : Nat) (T : tT)  (v1 : Int32) (v2 : Int32) (v3 : Int32) : vl_X0_anyUpTo (n + 1) T v1 v2 v3 = (if (T.1 101 0) ≤ v3 then (0 : Int32) else (if (T.1 102 (v3.toNatClampNeg)) = v1 then (if v2 < (T.1 104 (v3.toNatClampNeg)) then vl_X0_anyUpTo n T v1 v2 (v3 + (1 : Int32)) else (1 : Int32)) else vl_X0_anyUpTo n T v1 v2 (v3 + (1 : Int32)))) := rfl
set_option maxRecDepth 10000 in
theorem lj_X0_anyUpTo {X : ax_X} {d L sz : Nat} {Q : Int32 → tT → Prop} (hX : ax_ok X mX0_anyUpTo d) (hsz : 161 ≤ sz) (hR : ax_Ret X mX0_anyUpTo (ti L sz Q)) : ∀ (n : Nat) (T : tT) (v1 : Int32) (v2 : Int32) (v3 : Int32), okl_X0_anyUpTo n sz T v1 v2 v3 → Q (vl_X0_anyUpTo n T v1 v2 v3) T → ax_j X 2 [some (.ref 101), some (.int v1), some (.int v2), some (.int v3)] [] (th L sz T) 0 0 := by
  intro n
  induction n with
  | zero => intro T v1 v2 v3 ok; exact False.elim ok
  | succ n ih =>
    intro T v1 v2 v3 ok hq
    refine s_X0_anyUpTo_2 hX hR hsz  v1 v2 v3 ?_
    unfold okl_X0_anyUpTo at ok
    refine ⟨fun kq0 => ?_, fun kq0 => ?_⟩
    · replace ok := ok.1 kq0
      have z := hq; rw [vl_X0_anyUpTo_s, if_pos kq0] at z; exact z
    · replace ok := ok.2 kq0
      refine ⟨ok.1, ?_⟩
      replace ok := ok.2
      refine ⟨fun kq1 => ?_, fun kq1 => ?_⟩
      · replace ok := ok.1 kq1
        have z := hq; rw [vl_X0_anyUpTo_s, if_neg kq0, if_neg kq1] at z; exact ih _ v1 v2 (v3 + (1 : Int32)) ok z
      · replace ok := ok.2 kq1
        refine ⟨ok.1, ?_⟩
        replace ok := ok.2
        refine ⟨fun kq2 => ?_, fun kq2 => ?_⟩
        · replace ok := ok.1 kq2
          have z := hq; rw [vl_X0_anyUpTo_s, if_neg kq0, if_pos kq1, if_pos kq2] at z; exact ih _ v1 v2 (v3 + (1 : Int32)) ok z
        · replace ok := ok.2 kq2
          have z := hq; rw [vl_X0_anyUpTo_s, if_neg kq0, if_pos kq1, if_neg kq2] at z; exact z
noncomputable def v_X0_anyUpTo (T : tT)  (x0 : Int32) (x1 : Int32) : Int32 := vl_X0_anyUpTo fu T x0 x1 (0 : Int32)
noncomputable def ok_X0_anyUpTo (sz : Nat) (T : tT)  (x0 : Int32) (x1 : Int32) : Prop := okl_X0_anyUpTo fu sz T x0 x1 (0 : Int32)
set_option maxRecDepth 10000 in
theorem c_X0_anyUpTo {d L sz : Nat} {T : tT} (hsz : 161 ≤ sz) (x0 : Int32) (x1 : Int32) (ok : ok_X0_anyUpTo sz T x0 x1) : tiK d mX0_anyUpTo [.ref 101, .int x0, .int x1] L sz T (fun r T' => r = v_X0_anyUpTo T x0 x1 ∧ T = T') := by
  refine k_X0_anyUpTo hsz  x0 x1 (fun X hX hR => ?_)
  unfold ok_X0_anyUpTo at ok
  exact lj_X0_anyUpTo hX hsz  hR _ _ x0 x1 (0 : Int32) ok ⟨by unfold v_X0_anyUpTo; rfl, rfl⟩
noncomputable def vl_X2_addPiece : Nat → tT → Int32 → Int64 → Int32 → Int32 → Int32 × tT
  | 0, T, v1, v2, v4, v5 => (0, T)
  | n + 1, T, v1, v2, v4, v5 => (if v4 ≤ v5 then ((v4 + (1 : Int32)), (tI (tJ T 78 (((v1 * (4 : Int32)) + v4).toNatClampNeg) v2) 77 (v1.toNatClampNeg) (v4 + (1 : Int32)))) else (if (T.2.1 78 ((v1 * (4 : Int32)) + v5).toNatClampNeg) = v2 then ((-1 : Int32), T) else vl_X2_addPiece n T v1 v2 v4 (v5 + (1 : Int32))))
noncomputable def okl_X2_addPiece : Nat → Nat → tT → Int32 → Int64 → Int32 → Int32 → Prop
  | 0, _, T, v1, v2, v4, v5 => False
  | n + 1, sz, T, v1, v2, v4, v5 => ((v4 ≤ v5 → (vp_in ((v1 * (4 : Int32)) + v4) 160 ∧ vp_in v1 40)) ∧ (¬ v4 ≤ v5 → (vp_in ((v1 * (4 : Int32)) + v5) 160 ∧ ((¬ (T.2.1 78 ((v1 * (4 : Int32)) + v5).toNatClampNeg) = v2 → okl_X2_addPiece n sz T v1 v2 v4 (v5 + (1 : Int32))) ∧ ((T.2.1 78 ((v1 * (4 : Int32)) + v5).toNatClampNeg) = v2 → True)))))
theorem vl_X2_addPiece_s (n : Nat) (T : tT)  (v1 : Int32) (v2 : Int64) (v4 : Int32) (v5 : Int32) : vl_X2_addPiece (n + 1) T v1 v2 v4 v5 = (if v4 ≤ v5 then ((v4 + (1 : Int32)), (tI (tJ T 78 (((v1 * (4 : Int32)) + v4).toNatClampNeg) v2) 77 (v1.toNatClampNeg) (v4 + (1 : Int32)))) else (if (T.2.1 78 ((v1 * (4 : Int32)) + v5).toNatClampNeg) = v2 then ((-1 : Int32), T) else vl_X2_addPiece n T v1 v2 v4 (v5 + (1 : Int32)))) := rfl
set_option maxRecDepth 10000 in
theorem lj_X2_addPiece {X : ax_X} {d L sz : Nat} {Q : Int32 → tT → Prop} (hX : ax_ok X mX2_addPiece d) (hsz : 161 ≤ sz) (hR : ax_Ret X mX2_addPiece (ti L sz Q)) : ∀ (n : Nat) (T : tT) (v1 : Int32) (v2 : Int64) (v4 : Int32) (v5 : Int32), okl_X2_addPiece n sz T v1 v2 v4 v5 → Q (vl_X2_addPiece n T v1 v2 v4 v5).1 (vl_X2_addPiece n T v1 v2 v4 v5).2 → ax_j X 19 [some (.ref 69), some (.int v1), some (.long v2), none, some (.int v4), some (.int v5)] [] (th L sz T) 0 0 := by
  intro n
  induction n with
  | zero => intro T v1 v2 v4 v5 ok; exact False.elim ok
  | succ n ih =>
    intro T v1 v2 v4 v5 ok hq
    refine s_X2_addPiece_19 hX hR hsz  v1 v2 v4 v5 ?_
    unfold okl_X2_addPiece at ok
    refine ⟨fun kq0 => ?_, fun kq0 => ?_⟩
    · replace ok := ok.1 kq0
      refine ⟨ok.1, ?_⟩
      replace ok := ok.2
      refine ⟨ok, ?_⟩
      have z := hq; rw [vl_X2_addPiece_s, if_pos kq0] at z; exact z
    · replace ok := ok.2 kq0
      refine ⟨ok.1, ?_⟩
      replace ok := ok.2
      refine ⟨fun kq1 => ?_, fun kq1 => ?_⟩
      · replace ok := ok.1 kq1
        have z := hq; rw [vl_X2_addPiece_s, if_neg kq0, if_neg kq1] at z; exact ih _ v1 v2 v4 (v5 + (1 : Int32)) ok z
      · replace ok := ok.2 kq1
        have z := hq; rw [vl_X2_addPiece_s, if_neg kq0, if_pos kq1] at z; exact z
noncomputable def F_X2_addPiece (T : tT)  (x0 : Int32) (x1 : Int64) : Int32 × tT := (if (T.1 77 (x0.toNatClampNeg)) < (4 : Int32) then vl_X2_addPiece fu T x0 x1 (T.1 77 (x0.toNatClampNeg)) (0 : Int32) else ((-1 : Int32), T))
noncomputable def ok_X2_addPiece (sz : Nat) (T : tT)  (x0 : Int32) (x1 : Int64) : Prop := (vp_in x0 40 ∧ (((T.1 77 (x0.toNatClampNeg)) < (4 : Int32) → okl_X2_addPiece fu sz T x0 x1 (T.1 77 (x0.toNatClampNeg)) (0 : Int32)) ∧ (¬ (T.1 77 (x0.toNatClampNeg)) < (4 : Int32) → True)))
set_option maxRecDepth 10000 in
theorem c_X2_addPiece {d L sz : Nat} {T : tT} (hsz : 161 ≤ sz) (x0 : Int32) (x1 : Int64) (ok : ok_X2_addPiece sz T x0 x1) : tiK d mX2_addPiece [.ref 69, .int x0, .long x1] L sz T (fun r T' => r = (F_X2_addPiece T x0 x1).1 ∧ T' = (F_X2_addPiece T x0 x1).2) := by
  refine k_X2_addPiece hsz  x0 x1 (fun X hX hR => ?_)
  unfold ok_X2_addPiece at ok
  refine ⟨ok.1, ?_⟩
  replace ok := ok.2
  refine ⟨fun kq0 => ?_, fun kq0 => ?_⟩
  · replace ok := ok.1 kq0
    exact lj_X2_addPiece hX hsz  hR _ _ x0 x1 (T.1 77 (x0.toNatClampNeg)) (0 : Int32) ok ⟨by unfold F_X2_addPiece; first | (rw [if_pos kq0]; done) | (rw [if_pos kq0]; rfl), by unfold F_X2_addPiece; first | (rw [if_pos kq0]; done) | (rw [if_pos kq0]; rfl)⟩
  · replace ok := ok.2 kq0
    exact ⟨by unfold F_X2_addPiece; first | (rw [if_neg kq0]; done) | (rw [if_neg kq0]; rfl), by unfold F_X2_addPiece; first | (rw [if_neg kq0]; done) | (rw [if_neg kq0]; rfl)⟩
noncomputable def vl_X2_countIn : Nat → tT → Int32 → Int32 → Int32 → Int32
  | 0, T, v1, v2, v3 => 0
  | n + 1, T, v1, v2, v3 => (if (T.1 69 0) ≤ v3 then v2 else (if (T.1 76 (v3.toNatClampNeg)) = v1 then vl_X2_countIn n T v1 (v2 + (1 : Int32)) (v3 + (1 : Int32)) else vl_X2_countIn n T v1 (v2 + (0 : Int32)) (v3 + (1 : Int32))))
noncomputable def okl_X2_countIn : Nat → Nat → tT → Int32 → Int32 → Int32 → Prop
  | 0, _, T, v1, v2, v3 => False
  | n + 1, sz, T, v1, v2, v3 => (((T.1 69 0) ≤ v3 → True) ∧ (¬ (T.1 69 0) ≤ v3 → (vp_in v3 40 ∧ ((¬ (T.1 76 (v3.toNatClampNeg)) = v1 → okl_X2_countIn n sz T v1 (v2 + (0 : Int32)) (v3 + (1 : Int32))) ∧ ((T.1 76 (v3.toNatClampNeg)) = v1 → okl_X2_countIn n sz T v1 (v2 + (1 : Int32)) (v3 + (1 : Int32)))))))
theorem vl_X2_countIn_s (n : Nat) (T : tT)  (v1 : Int32) (v2 : Int32) (v3 : Int32) : vl_X2_countIn (n + 1) T v1 v2 v3 = (if (T.1 69 0) ≤ v3 then v2 else (if (T.1 76 (v3.toNatClampNeg)) = v1 then vl_X2_countIn n T v1 (v2 + (1 : Int32)) (v3 + (1 : Int32)) else vl_X2_countIn n T v1 (v2 + (0 : Int32)) (v3 + (1 : Int32)))) := rfl
set_option maxRecDepth 10000 in
theorem lj_X2_countIn {X : ax_X} {d L sz : Nat} {Q : Int32 → tT → Prop} (hX : ax_ok X mX2_countIn d) (hsz : 161 ≤ sz) (hR : ax_Ret X mX2_countIn (ti L sz Q)) : ∀ (n : Nat) (T : tT) (v1 : Int32) (v2 : Int32) (v3 : Int32), okl_X2_countIn n sz T v1 v2 v3 → Q (vl_X2_countIn n T v1 v2 v3) T → ax_j X 4 [some (.ref 69), some (.int v1), some (.int v2), some (.int v3)] [] (th L sz T) 0 0 := by
  intro n
  induction n with
  | zero => intro T v1 v2 v3 ok; exact False.elim ok
  | succ n ih =>
    intro T v1 v2 v3 ok hq
    refine s_X2_countIn_4 hX hR hsz  v1 v2 v3 ?_
    unfold okl_X2_countIn at ok
    refine ⟨fun kq0 => ?_, fun kq0 => ?_⟩
    · replace ok := ok.1 kq0
      have z := hq; rw [vl_X2_countIn_s, if_pos kq0] at z; exact z
    · replace ok := ok.2 kq0
      refine ⟨ok.1, ?_⟩
      replace ok := ok.2
      refine ⟨fun kq1 => ?_, fun kq1 => ?_⟩
      · replace ok := ok.1 kq1
        have z := hq; rw [vl_X2_countIn_s, if_neg kq0, if_neg kq1] at z; exact ih _ v1 (v2 + (0 : Int32)) (v3 + (1 : Int32)) ok z
      · replace ok := ok.2 kq1
        have z := hq; rw [vl_X2_countIn_s, if_neg kq0, if_pos kq1] at z; exact ih _ v1 (v2 + (1 : Int32)) (v3 + (1 : Int32)) ok z
noncomputable def v_X2_countIn (T : tT)  (x0 : Int32) : Int32 := vl_X2_countIn fu T x0 (0 : Int32) (0 : Int32)
noncomputable def ok_X2_countIn (sz : Nat) (T : tT)  (x0 : Int32) : Prop := okl_X2_countIn fu sz T x0 (0 : Int32) (0 : Int32)
set_option maxRecDepth 10000 in
theorem c_X2_countIn {d L sz : Nat} {T : tT} (hsz : 161 ≤ sz) (x0 : Int32) (ok : ok_X2_countIn sz T x0) : tiK d mX2_countIn [.ref 69, .int x0] L sz T (fun r T' => r = v_X2_countIn T x0 ∧ T = T') := by
  refine k_X2_countIn hsz  x0 (fun X hX hR => ?_)
  unfold ok_X2_countIn at ok
  exact lj_X2_countIn hX hsz  hR _ _ x0 (0 : Int32) (0 : Int32) ok ⟨by unfold v_X2_countIn; rfl, rfl⟩
noncomputable def vl_X3_find : Nat → tT → Nat → Int32 → Int64 → Int32 → Int32
  | 0, T, u, v1, v2, v4 => 0
  | n + 1, T, u, v1, v2, v4 => (if v1 ≤ v4 then (-1 : Int32) else (if (nI 6) ≤ v4 then (-1 : Int32) else (if (T.2.1 u (v4.toNatClampNeg)) = v2 then v4 else vl_X3_find n T u v1 v2 (v4 + (1 : Int32)))))
noncomputable def okl_X3_find : Nat → Nat → tT → Nat → Int32 → Int64 → Int32 → Prop
  | 0, _, T, u, v1, v2, v4 => False
  | n + 1, sz, T, u, v1, v2, v4 => ((v1 ≤ v4 → True) ∧ (¬ v1 ≤ v4 → (((nI 6) ≤ v4 → True) ∧ (¬ (nI 6) ≤ v4 → (vp_in v4 6 ∧ ((¬ (T.2.1 u (v4.toNatClampNeg)) = v2 → okl_X3_find n sz T u v1 v2 (v4 + (1 : Int32))) ∧ ((T.2.1 u (v4.toNatClampNeg)) = v2 → True)))))))
theorem vl_X3_find_s (n : Nat) (T : tT) (u : Nat) (v1 : Int32) (v2 : Int64) (v4 : Int32) : vl_X3_find (n + 1) T u v1 v2 v4 = (if v1 ≤ v4 then (-1 : Int32) else (if (nI 6) ≤ v4 then (-1 : Int32) else (if (T.2.1 u (v4.toNatClampNeg)) = v2 then v4 else vl_X3_find n T u v1 v2 (v4 + (1 : Int32))))) := rfl
set_option maxRecDepth 10000 in
theorem lj_X3_find {X : ax_X} {d L sz : Nat} {Q : Int32 → tT → Prop} (hX : ax_ok X mX3_find d) (hsz : 161 ≤ sz) {u : Nat} (h_u : tar sz u 1 6) (hR : ax_Ret X mX3_find (ti L sz Q)) : ∀ (n : Nat) (T : tT) (v1 : Int32) (v2 : Int64) (v4 : Int32), okl_X3_find n sz T u v1 v2 v4 → Q (vl_X3_find n T u v1 v2 v4) T → ax_j X 3 [some (.ref u), some (.int v1), some (.long v2), none, some (.int v4)] [] (th L sz T) 0 0 := by
  intro n
  induction n with
  | zero => intro T v1 v2 v4 ok; exact False.elim ok
  | succ n ih =>
    intro T v1 v2 v4 ok hq
    refine s_X3_find_3 hX hR hsz h_u v1 v2 v4 ?_
    unfold okl_X3_find at ok
    refine ⟨fun kq0 => ?_, fun kq0 => ?_⟩
    · replace ok := ok.1 kq0
      have z := hq; rw [vl_X3_find_s, if_pos kq0] at z; exact z
    · replace ok := ok.2 kq0
      refine ⟨fun kq1 => ?_, fun kq1 => ?_⟩
      · replace ok := ok.1 kq1
        have z := hq; rw [vl_X3_find_s, if_neg kq0, if_pos kq1] at z; exact z
      · replace ok := ok.2 kq1
        refine ⟨ok.1, ?_⟩
        replace ok := ok.2
        refine ⟨fun kq2 => ?_, fun kq2 => ?_⟩
        · replace ok := ok.1 kq2
          have z := hq; rw [vl_X3_find_s, if_neg kq0, if_neg kq1, if_neg kq2] at z; exact ih _ v1 v2 (v4 + (1 : Int32)) ok z
        · replace ok := ok.2 kq2
          have z := hq; rw [vl_X3_find_s, if_neg kq0, if_neg kq1, if_pos kq2] at z; exact z
noncomputable def v_X3_find (T : tT) (u : Nat) (x1 : Int32) (x2 : Int64) : Int32 := vl_X3_find fu T u x1 x2 (0 : Int32)
noncomputable def ok_X3_find (sz : Nat) (T : tT) (u : Nat) (x1 : Int32) (x2 : Int64) : Prop := okl_X3_find fu sz T u x1 x2 (0 : Int32)
set_option maxRecDepth 10000 in
theorem c_X3_find {d L sz : Nat} {T : tT} (hsz : 161 ≤ sz) {u : Nat} (h_u : tar sz u 1 6) (x1 : Int32) (x2 : Int64) (ok : ok_X3_find sz T u x1 x2) : tiK d mX3_find [.ref u, .int x1, .long x2] L sz T (fun r T' => r = v_X3_find T u x1 x2 ∧ T = T') := by
  refine k_X3_find hsz h_u x1 x2 (fun X hX hR => ?_)
  unfold ok_X3_find at ok
  exact lj_X3_find hX hsz h_u hR _ _ x1 x2 (0 : Int32) ok ⟨by unfold v_X3_find; rfl, rfl⟩
noncomputable def vl_X3_isListed : Nat → tT → Nat → Int32 → Int64 → Int32 → Int32
  | 0, T, q, v1, v2, v4 => 0
  | n + 1, T, q, v1, v2, v4 => (if (T.1 (q + 2) (v1.toNatClampNeg)) ≤ v4 then (0 : Int32) else (if (T.2.1 (q + 3) ((v1 * (12 : Int32)) + v4).toNatClampNeg) = v2 then (1 : Int32) else vl_X3_isListed n T q v1 v2 (v4 + (1 : Int32))))
noncomputable def okl_X3_isListed : Nat → Nat → tT → Nat → Int32 → Int64 → Int32 → Prop
  | 0, _, T, q, v1, v2, v4 => False
  | n + 1, sz, T, q, v1, v2, v4 => (vp_in v1 6 ∧ (((T.1 (q + 2) (v1.toNatClampNeg)) ≤ v4 → True) ∧ (¬ (T.1 (q + 2) (v1.toNatClampNeg)) ≤ v4 → (vp_in ((v1 * (12 : Int32)) + v4) 72 ∧ ((¬ (T.2.1 (q + 3) ((v1 * (12 : Int32)) + v4).toNatClampNeg) = v2 → okl_X3_isListed n sz T q v1 v2 (v4 + (1 : Int32))) ∧ ((T.2.1 (q + 3) ((v1 * (12 : Int32)) + v4).toNatClampNeg) = v2 → True))))))
theorem vl_X3_isListed_s (n : Nat) (T : tT) (q : Nat) (v1 : Int32) (v2 : Int64) (v4 : Int32) : vl_X3_isListed (n + 1) T q v1 v2 v4 = (if (T.1 (q + 2) (v1.toNatClampNeg)) ≤ v4 then (0 : Int32) else (if (T.2.1 (q + 3) ((v1 * (12 : Int32)) + v4).toNatClampNeg) = v2 then (1 : Int32) else vl_X3_isListed n T q v1 v2 (v4 + (1 : Int32)))) := rfl
set_option maxRecDepth 10000 in
theorem lj_X3_isListed {X : ax_X} {d L sz : Nat} {Q : Int32 → tT → Prop} (hX : ax_ok X mX3_isListed d) (hsz : 161 ≤ sz) {q : Nat} (h_q : tgr sz q) (hR : ax_Ret X mX3_isListed (ti L sz Q)) : ∀ (n : Nat) (T : tT) (v1 : Int32) (v2 : Int64) (v4 : Int32), okl_X3_isListed n sz T q v1 v2 v4 → Q (vl_X3_isListed n T q v1 v2 v4) T → ax_j X 17 [some (.ref q), some (.int v1), some (.long v2), none, some (.int v4)] [] (th L sz T) 0 0 := by
  intro n
  induction n with
  | zero => intro T v1 v2 v4 ok; exact False.elim ok
  | succ n ih =>
    intro T v1 v2 v4 ok hq
    refine s_X3_isListed_17 hX hR hsz h_q v1 v2 v4 ?_
    unfold okl_X3_isListed at ok
    refine ⟨ok.1, ?_⟩
    replace ok := ok.2
    refine ⟨fun kq0 => ?_, fun kq0 => ?_⟩
    · replace ok := ok.1 kq0
      have z := hq; rw [vl_X3_isListed_s, if_pos kq0] at z; exact z
    · replace ok := ok.2 kq0
      refine ⟨ok.1, ?_⟩
      replace ok := ok.2
      refine ⟨fun kq1 => ?_, fun kq1 => ?_⟩
      · replace ok := ok.1 kq1
        have z := hq; rw [vl_X3_isListed_s, if_neg kq0, if_neg kq1] at z; exact ih _ v1 v2 (v4 + (1 : Int32)) ok z
      · replace ok := ok.2 kq1
        have z := hq; rw [vl_X3_isListed_s, if_neg kq0, if_pos kq1] at z; exact z
noncomputable def v_X3_isListed (T : tT) (q : Nat) (x0 : Int32) (x1 : Int64) : Int32 := (if x0 < 0 then (0 : Int32) else (if x0 < (T.1 q 1) then vl_X3_isListed fu T q x0 x1 (0 : Int32) else (0 : Int32)))
noncomputable def ok_X3_isListed (sz : Nat) (T : tT) (q : Nat) (x0 : Int32) (x1 : Int64) : Prop := ((x0 < 0 → True) ∧ (¬ x0 < 0 → ((x0 < (T.1 q 1) → okl_X3_isListed fu sz T q x0 x1 (0 : Int32)) ∧ (¬ x0 < (T.1 q 1) → True))))
set_option maxRecDepth 10000 in
theorem c_X3_isListed {d L sz : Nat} {T : tT} (hsz : 161 ≤ sz) {q : Nat} (h_q : tgr sz q) (x0 : Int32) (x1 : Int64) (ok : ok_X3_isListed sz T q x0 x1) : tiK d mX3_isListed [.ref q, .int x0, .long x1] L sz T (fun r T' => r = v_X3_isListed T q x0 x1 ∧ T = T') := by
  refine k_X3_isListed hsz h_q x0 x1 (fun X hX hR => ?_)
  unfold ok_X3_isListed at ok
  refine ⟨fun kq0 => ?_, fun kq0 => ?_⟩
  · replace ok := ok.1 kq0
    exact ⟨by unfold v_X3_isListed; first | (rw [if_pos kq0]; done) | (rw [if_pos kq0]; rfl), rfl⟩
  · replace ok := ok.2 kq0
    refine ⟨fun kq1 => ?_, fun kq1 => ?_⟩
    · replace ok := ok.1 kq1
      exact lj_X3_isListed hX hsz h_q hR _ _ x0 x1 (0 : Int32) ok ⟨by unfold v_X3_isListed; first | (rw [if_neg kq0, if_pos kq1]; done) | (rw [if_neg kq0, if_pos kq1]; rfl), rfl⟩
    · replace ok := ok.2 kq1
      exact ⟨by unfold v_X3_isListed; first | (rw [if_neg kq0, if_neg kq1]; done) | (rw [if_neg kq0, if_neg kq1]; rfl), rfl⟩
noncomputable def vl_X4_least : Nat → tT → Int32 → Int32 → Int32 → Int32
  | 0, T, v1, v2, v3 => 0
  | n + 1, T, v1, v2, v3 => (if v1 ≤ v3 then v2 else (if (6 : Int32) ≤ v3 then v2 else vl_X4_least n T v1 (if (T.1 67 (v3.toNatClampNeg)) < v2 then (T.1 67 (v3.toNatClampNeg)) else v2) (v3 + (1 : Int32))))
noncomputable def okl_X4_least : Nat → Nat → tT → Int32 → Int32 → Int32 → Prop
  | 0, _, T, v1, v2, v3 => False
  | n + 1, sz, T, v1, v2, v3 => ((v1 ≤ v3 → True) ∧ (¬ v1 ≤ v3 → (((6 : Int32) ≤ v3 → True) ∧ (¬ (6 : Int32) ≤ v3 → (vp_in v3 6 ∧ okl_X4_least n sz T v1 (if (T.1 67 (v3.toNatClampNeg)) < v2 then (T.1 67 (v3.toNatClampNeg)) else v2) (v3 + (1 : Int32)))))))
theorem vl_X4_least_s (n : Nat) (T : tT)  (v1 : Int32) (v2 : Int32) (v3 : Int32) : vl_X4_least (n + 1) T v1 v2 v3 = (if v1 ≤ v3 then v2 else (if (6 : Int32) ≤ v3 then v2 else vl_X4_least n T v1 (if (T.1 67 (v3.toNatClampNeg)) < v2 then (T.1 67 (v3.toNatClampNeg)) else v2) (v3 + (1 : Int32)))) := rfl
set_option maxRecDepth 10000 in
theorem lj_X4_least {X : ax_X} {d L sz : Nat} {Q : Int32 → tT → Prop} (hX : ax_ok X mX4_least (d + 1)) (hsz : 161 ≤ sz) (hR : ax_Ret X mX4_least (ti L sz Q)) : ∀ (n : Nat) (T : tT) (v1 : Int32) (v2 : Int32) (v3 : Int32), okl_X4_least n sz T v1 v2 v3 → Q (vl_X4_least n T v1 v2 v3) T → ax_j X 17 [some (.ref 66), some (.int v1), some (.int v2), some (.int v3)] [] (th L sz T) 0 0 := by
  intro n
  induction n with
  | zero => intro T v1 v2 v3 ok; exact False.elim ok
  | succ n ih =>
    intro T v1 v2 v3 ok hq
    refine s_X4_least_17 hX hR hsz  v1 v2 v3 ?_
    unfold okl_X4_least at ok
    refine ⟨fun kq0 => ?_, fun kq0 => ?_⟩
    · replace ok := ok.1 kq0
      have z := hq; rw [vl_X4_least_s, if_pos kq0] at z; exact z
    · replace ok := ok.2 kq0
      refine ⟨fun kq1 => ?_, fun kq1 => ?_⟩
      · replace ok := ok.1 kq1
        have z := hq; rw [vl_X4_least_s, if_neg kq0, if_pos kq1] at z; exact z
      · replace ok := ok.2 kq1
        refine ⟨ok.1, ?_⟩
        replace ok := ok.2
        have z := hq; rw [vl_X4_least_s, if_neg kq0, if_neg kq1] at z; exact ih _ v1 (if (T.1 67 (v3.toNatClampNeg)) < v2 then (T.1 67 (v3.toNatClampNeg)) else v2) (v3 + (1 : Int32)) ok z
noncomputable def v_X4_least (T : tT)  (x0 : Int32) : Int32 := (if x0 ≤ 0 then vl_X4_least fu T x0 (0 : Int32) (1 : Int32) else vl_X4_least fu T x0 (T.1 67 (0 : Int32).toNatClampNeg) (1 : Int32))
noncomputable def ok_X4_least (sz : Nat) (T : tT)  (x0 : Int32) : Prop := ((x0 ≤ 0 → okl_X4_least fu sz T x0 (0 : Int32) (1 : Int32)) ∧ (¬ x0 ≤ 0 → (vp_in (0 : Int32) 6 ∧ okl_X4_least fu sz T x0 (T.1 67 (0 : Int32).toNatClampNeg) (1 : Int32))))
set_option maxRecDepth 10000 in
theorem c_X4_least {d L sz : Nat} {T : tT} (hsz : 161 ≤ sz) (x0 : Int32) (ok : ok_X4_least sz T x0) : tiK (d + 1) mX4_least [.ref 66, .int x0] L sz T (fun r T' => r = v_X4_least T x0 ∧ T = T') := by
  refine k_X4_least hsz  x0 (fun X hX hR => ?_)
  unfold ok_X4_least at ok
  refine ⟨fun kq0 => ?_, fun kq0 => ?_⟩
  · replace ok := ok.1 kq0
    exact lj_X4_least hX hsz  hR _ _ x0 (0 : Int32) (1 : Int32) ok ⟨by unfold v_X4_least; first | (rw [if_pos kq0]; done) | (rw [if_pos kq0]; rfl), rfl⟩
  · replace ok := ok.2 kq0
    refine ⟨ok.1, ?_⟩
    replace ok := ok.2
    exact lj_X4_least hX hsz  hR _ _ x0 (T.1 67 (0 : Int32).toNatClampNeg) (1 : Int32) ok ⟨by unfold v_X4_least; first | (rw [if_neg kq0]; done) | (rw [if_neg kq0]; rfl), rfl⟩
noncomputable def vl_X4_total : Nat → tT → Int32 → Int32 → Int32 → Int32
  | 0, T, v1, v2, v3 => 0
  | n + 1, T, v1, v2, v3 => (if v1 ≤ v3 then v2 else (if (6 : Int32) ≤ v3 then v2 else vl_X4_total n T v1 (v2 + (T.1 67 (v3.toNatClampNeg))) (v3 + (1 : Int32))))
noncomputable def okl_X4_total : Nat → Nat → tT → Int32 → Int32 → Int32 → Prop
  | 0, _, T, v1, v2, v3 => False
  | n + 1, sz, T, v1, v2, v3 => ((v1 ≤ v3 → True) ∧ (¬ v1 ≤ v3 → (((6 : Int32) ≤ v3 → True) ∧ (¬ (6 : Int32) ≤ v3 → (vp_in v3 6 ∧ okl_X4_total n sz T v1 (v2 + (T.1 67 (v3.toNatClampNeg))) (v3 + (1 : Int32)))))))
theorem vl_X4_total_s (n : Nat) (T : tT)  (v1 : Int32) (v2 : Int32) (v3 : Int32) : vl_X4_total (n + 1) T v1 v2 v3 = (if v1 ≤ v3 then v2 else (if (6 : Int32) ≤ v3 then v2 else vl_X4_total n T v1 (v2 + (T.1 67 (v3.toNatClampNeg))) (v3 + (1 : Int32)))) := rfl
set_option maxRecDepth 10000 in
theorem lj_X4_total {X : ax_X} {d L sz : Nat} {Q : Int32 → tT → Prop} (hX : ax_ok X mX4_total d) (hsz : 161 ≤ sz) (hR : ax_Ret X mX4_total (ti L sz Q)) : ∀ (n : Nat) (T : tT) (v1 : Int32) (v2 : Int32) (v3 : Int32), okl_X4_total n sz T v1 v2 v3 → Q (vl_X4_total n T v1 v2 v3) T → ax_j X 4 [some (.ref 66), some (.int v1), some (.int v2), some (.int v3)] [] (th L sz T) 0 0 := by
  intro n
  induction n with
  | zero => intro T v1 v2 v3 ok; exact False.elim ok
  | succ n ih =>
    intro T v1 v2 v3 ok hq
    refine s_X4_total_4 hX hR hsz  v1 v2 v3 ?_
    unfold okl_X4_total at ok
    refine ⟨fun kq0 => ?_, fun kq0 => ?_⟩
    · replace ok := ok.1 kq0
      have z := hq; rw [vl_X4_total_s, if_pos kq0] at z; exact z
    · replace ok := ok.2 kq0
      refine ⟨fun kq1 => ?_, fun kq1 => ?_⟩
      · replace ok := ok.1 kq1
        have z := hq; rw [vl_X4_total_s, if_neg kq0, if_pos kq1] at z; exact z
      · replace ok := ok.2 kq1
        refine ⟨ok.1, ?_⟩
        replace ok := ok.2
        have z := hq; rw [vl_X4_total_s, if_neg kq0, if_neg kq1] at z; exact ih _ v1 (v2 + (T.1 67 (v3.toNatClampNeg))) (v3 + (1 : Int32)) ok z
noncomputable def v_X4_total (T : tT)  (x0 : Int32) : Int32 := vl_X4_total fu T x0 (0 : Int32) (0 : Int32)
noncomputable def ok_X4_total (sz : Nat) (T : tT)  (x0 : Int32) : Prop := okl_X4_total fu sz T x0 (0 : Int32) (0 : Int32)
set_option maxRecDepth 10000 in
theorem c_X4_total {d L sz : Nat} {T : tT} (hsz : 161 ≤ sz) (x0 : Int32) (ok : ok_X4_total sz T x0) : tiK d mX4_total [.ref 66, .int x0] L sz T (fun r T' => r = v_X4_total T x0 ∧ T = T') := by
  refine k_X4_total hsz  x0 (fun X hX hR => ?_)
  unfold ok_X4_total at ok
  exact lj_X4_total hX hsz  hR _ _ x0 (0 : Int32) (0 : Int32) ok ⟨by unfold v_X4_total; rfl, rfl⟩
noncomputable def vl_X5_insertGap : Nat → tT → Int32 → Int32 → Int32 → Int32 × tT
  | 0, T, v1, v2, v3 => (0, T)
  | n + 1, T, v1, v2, v3 => (if v3 ≤ 0 then ((v2 + (1 : Int32)), (tI T 100 (v3.toNatClampNeg) v1)) else (if (T.1 100 (v3 - (1 : Int32)).toNatClampNeg) ≤ v1 then ((v2 + (1 : Int32)), (tI T 100 (v3.toNatClampNeg) v1)) else vl_X5_insertGap n (tI T 100 (v3.toNatClampNeg) (T.1 100 (v3 - (1 : Int32)).toNatClampNeg)) v1 v2 (v3 + (-1 : Int32))))
noncomputable def okl_X5_insertGap : Nat → Nat → tT → Int32 → Int32 → Int32 → Prop
  | 0, _, T, v1, v2, v3 => False
  | n + 1, sz, T, v1, v2, v3 => ((v3 ≤ 0 → vp_in v3 200) ∧ (¬ v3 ≤ 0 → (vp_in (v3 - (1 : Int32)) 200 ∧ (((T.1 100 (v3 - (1 : Int32)).toNatClampNeg) ≤ v1 → vp_in v3 200) ∧ (¬ (T.1 100 (v3 - (1 : Int32)).toNatClampNeg) ≤ v1 → (vp_in (v3 - (1 : Int32)) 200 ∧ (vp_in v3 200 ∧ okl_X5_insertGap n sz (tI T 100 (v3.toNatClampNeg) (T.1 100 (v3 - (1 : Int32)).toNatClampNeg)) v1 v2 (v3 + (-1 : Int32)))))))))
theorem vl_X5_insertGap_s (n : Nat) (T : tT)  (v1 : Int32) (v2 : Int32) (v3 : Int32) : vl_X5_insertGap (n + 1) T v1 v2 v3 = (if v3 ≤ 0 then ((v2 + (1 : Int32)), (tI T 100 (v3.toNatClampNeg) v1)) else (if (T.1 100 (v3 - (1 : Int32)).toNatClampNeg) ≤ v1 then ((v2 + (1 : Int32)), (tI T 100 (v3.toNatClampNeg) v1)) else vl_X5_insertGap n (tI T 100 (v3.toNatClampNeg) (T.1 100 (v3 - (1 : Int32)).toNatClampNeg)) v1 v2 (v3 + (-1 : Int32)))) := rfl
set_option maxRecDepth 10000 in
theorem lj_X5_insertGap {X : ax_X} {d L sz : Nat} {Q : Int32 → tT → Prop} (hX : ax_ok X mX5_insertGap d) (hsz : 161 ≤ sz) (hR : ax_Ret X mX5_insertGap (ti L sz Q)) : ∀ (n : Nat) (T : tT) (v1 : Int32) (v2 : Int32) (v3 : Int32), okl_X5_insertGap n sz T v1 v2 v3 → Q (vl_X5_insertGap n T v1 v2 v3).1 (vl_X5_insertGap n T v1 v2 v3).2 → ax_j X 11 [some (.ref 93), some (.int v1), some (.int v2), some (.int v3)] [] (th L sz T) 0 0 := by
  intro n
  induction n with
  | zero => intro T v1 v2 v3 ok; exact False.elim ok
  | succ n ih =>
    intro T v1 v2 v3 ok hq
    refine s_X5_insertGap_11 hX hR hsz  v1 v2 v3 ?_
    unfold okl_X5_insertGap at ok
    refine ⟨fun kq0 => ?_, fun kq0 => ?_⟩
    · replace ok := ok.1 kq0
      refine ⟨ok, ?_⟩
      have z := hq; rw [vl_X5_insertGap_s, if_pos kq0] at z; exact z
    · replace ok := ok.2 kq0
      refine ⟨ok.1, ?_⟩
      replace ok := ok.2
      refine ⟨fun kq1 => ?_, fun kq1 => ?_⟩
      · replace ok := ok.1 kq1
        refine ⟨ok, ?_⟩
        have z := hq; rw [vl_X5_insertGap_s, if_neg kq0, if_pos kq1] at z; exact z
      · replace ok := ok.2 kq1
        refine ⟨ok.1, ?_⟩
        replace ok := ok.2
        refine ⟨ok.1, ?_⟩
        replace ok := ok.2
        have z := hq; rw [vl_X5_insertGap_s, if_neg kq0, if_neg kq1] at z; exact ih _ v1 v2 (v3 + (-1 : Int32)) ok z
noncomputable def F_X5_insertGap (T : tT)  (x0 : Int32) (x1 : Int32) : Int32 × tT := (if x1 < (200 : Int32) then vl_X5_insertGap fu T x0 x1 x1 else (x1, T))
noncomputable def ok_X5_insertGap (sz : Nat) (T : tT)  (x0 : Int32) (x1 : Int32) : Prop := ((x1 < (200 : Int32) → okl_X5_insertGap fu sz T x0 x1 x1) ∧ (¬ x1 < (200 : Int32) → True))
set_option maxRecDepth 10000 in
theorem c_X5_insertGap {d L sz : Nat} {T : tT} (hsz : 161 ≤ sz) (x0 : Int32) (x1 : Int32) (ok : ok_X5_insertGap sz T x0 x1) : tiK d mX5_insertGap [.ref 93, .int x0, .int x1] L sz T (fun r T' => r = (F_X5_insertGap T x0 x1).1 ∧ T' = (F_X5_insertGap T x0 x1).2) := by
  refine k_X5_insertGap hsz  x0 x1 (fun X hX hR => ?_)
  unfold ok_X5_insertGap at ok
  refine ⟨fun kq0 => ?_, fun kq0 => ?_⟩
  · replace ok := ok.1 kq0
    exact lj_X5_insertGap hX hsz  hR _ _ x0 x1 x1 ok ⟨by unfold F_X5_insertGap; first | (rw [if_pos kq0]; done) | (rw [if_pos kq0]; rfl), by unfold F_X5_insertGap; first | (rw [if_pos kq0]; done) | (rw [if_pos kq0]; rfl)⟩
  · replace ok := ok.2 kq0
    exact ⟨by unfold F_X5_insertGap; first | (rw [if_neg kq0]; done) | (rw [if_neg kq0]; rfl), by unfold F_X5_insertGap; first | (rw [if_neg kq0]; done) | (rw [if_neg kq0]; rfl)⟩
noncomputable def vl_X5_lastOf : Nat → tT → Int32 → Int32 → Int32 → Int32 → Int32 → Int32
  | 0, T, v1, v2, v3, v4, v5 => 0
  | n + 1, T, v1, v2, v3, v4, v5 => (if v5 < 0 then (-1 : Int32) else (if (T.1 95 (v5.toNatClampNeg)) = v1 then (if (T.1 94 (v5.toNatClampNeg)) = v2 then (if (T.1 96 (v5.toNatClampNeg)) = v3 then (if (v_X5_isKnown T v5 v4) = 0 then vl_X5_lastOf n T v1 v2 v3 v4 (v5 + (-1 : Int32)) else v5) else vl_X5_lastOf n T v1 v2 v3 v4 (v5 + (-1 : Int32))) else vl_X5_lastOf n T v1 v2 v3 v4 (v5 + (-1 : Int32))) else vl_X5_lastOf n T v1 v2 v3 v4 (v5 + (-1 : Int32))))
noncomputable def okl_X5_lastOf : Nat → Nat → tT → Int32 → Int32 → Int32 → Int32 → Int32 → Prop
  | 0, _, T, v1, v2, v3, v4, v5 => False
  | n + 1, sz, T, v1, v2, v3, v4, v5 => ((v5 < 0 → True) ∧ (¬ v5 < 0 → (vp_in v5 200 ∧ ((¬ (T.1 95 (v5.toNatClampNeg)) = v1 → okl_X5_lastOf n sz T v1 v2 v3 v4 (v5 + (-1 : Int32))) ∧ ((T.1 95 (v5.toNatClampNeg)) = v1 → (vp_in v5 200 ∧ ((¬ (T.1 94 (v5.toNatClampNeg)) = v2 → okl_X5_lastOf n sz T v1 v2 v3 v4 (v5 + (-1 : Int32))) ∧ ((T.1 94 (v5.toNatClampNeg)) = v2 → (vp_in v5 200 ∧ ((¬ (T.1 96 (v5.toNatClampNeg)) = v3 → okl_X5_lastOf n sz T v1 v2 v3 v4 (v5 + (-1 : Int32))) ∧ ((T.1 96 (v5.toNatClampNeg)) = v3 → (ok_X5_isKnown sz T v5 v4 ∧ (((v_X5_isKnown T v5 v4) = 0 → okl_X5_lastOf n sz T v1 v2 v3 v4 (v5 + (-1 : Int32))) ∧ (¬ (v_X5_isKnown T v5 v4) = 0 → True))))))))))))))
theorem vl_X5_lastOf_s (n : Nat) (T : tT)  (v1 : Int32) (v2 : Int32) (v3 : Int32) (v4 : Int32) (v5 : Int32) : vl_X5_lastOf (n + 1) T v1 v2 v3 v4 v5 = (if v5 < 0 then (-1 : Int32) else (if (T.1 95 (v5.toNatClampNeg)) = v1 then (if (T.1 94 (v5.toNatClampNeg)) = v2 then (if (T.1 96 (v5.toNatClampNeg)) = v3 then (if (v_X5_isKnown T v5 v4) = 0 then vl_X5_lastOf n T v1 v2 v3 v4 (v5 + (-1 : Int32)) else v5) else vl_X5_lastOf n T v1 v2 v3 v4 (v5 + (-1 : Int32))) else vl_X5_lastOf n T v1 v2 v3 v4 (v5 + (-1 : Int32))) else vl_X5_lastOf n T v1 v2 v3 v4 (v5 + (-1 : Int32)))) := rfl
set_option maxRecDepth 10000 in
theorem lj_X5_lastOf {X : ax_X} {d L sz : Nat} {Q : Int32 → tT → Prop} (hX : ax_ok X mX5_lastOf (d + 2)) (hsz : 161 ≤ sz) (hR : ax_Ret X mX5_lastOf (ti L sz Q)) : ∀ (n : Nat) (T : tT) (v1 : Int32) (v2 : Int32) (v3 : Int32) (v4 : Int32) (v5 : Int32), okl_X5_lastOf n sz T v1 v2 v3 v4 v5 → Q (vl_X5_lastOf n T v1 v2 v3 v4 v5) T → ax_j X 8 [some (.ref 93), some (.int v1), some (.int v2), some (.int v3), some (.int v4), some (.int v5)] [] (th L sz T) 0 0 := by
  intro n
  induction n with
  | zero => intro T v1 v2 v3 v4 v5 ok; exact False.elim ok
  | succ n ih =>
    intro T v1 v2 v3 v4 v5 ok hq
    refine s_X5_lastOf_8 hX hR hsz  v1 v2 v3 v4 v5 ?_
    unfold okl_X5_lastOf at ok
    refine ⟨fun kq0 => ?_, fun kq0 => ?_⟩
    · replace ok := ok.1 kq0
      have z := hq; rw [vl_X5_lastOf_s, if_pos kq0] at z; exact z
    · replace ok := ok.2 kq0
      refine ⟨ok.1, ?_⟩
      replace ok := ok.2
      refine ⟨fun kq1 => ?_, fun kq1 => ?_⟩
      · replace ok := ok.1 kq1
        have z := hq; rw [vl_X5_lastOf_s, if_neg kq0, if_neg kq1] at z; exact ih _ v1 v2 v3 v4 (v5 + (-1 : Int32)) ok z
      · replace ok := ok.2 kq1
        refine ⟨ok.1, ?_⟩
        replace ok := ok.2
        refine ⟨fun kq2 => ?_, fun kq2 => ?_⟩
        · replace ok := ok.1 kq2
          have z := hq; rw [vl_X5_lastOf_s, if_neg kq0, if_pos kq1, if_neg kq2] at z; exact ih _ v1 v2 v3 v4 (v5 + (-1 : Int32)) ok z
        · replace ok := ok.2 kq2
          refine ⟨ok.1, ?_⟩
          replace ok := ok.2
          refine ⟨fun kq3 => ?_, fun kq3 => ?_⟩
          · replace ok := ok.1 kq3
            have z := hq; rw [vl_X5_lastOf_s, if_neg kq0, if_pos kq1, if_pos kq2, if_neg kq3] at z; exact ih _ v1 v2 v3 v4 (v5 + (-1 : Int32)) ok z
          · replace ok := ok.2 kq3
            refine ⟨_, c_X5_isKnown hsz  v5 v4 ok.1, ?_⟩
            rintro _ _ ⟨rfl, rfl⟩
            replace ok := ok.2
            refine ⟨fun kq4 => ?_, fun kq4 => ?_⟩
            · replace ok := ok.1 kq4
              have z := hq; rw [vl_X5_lastOf_s, if_neg kq0, if_pos kq1, if_pos kq2, if_pos kq3, if_pos kq4] at z; exact ih _ v1 v2 v3 v4 (v5 + (-1 : Int32)) ok z
            · replace ok := ok.2 kq4
              have z := hq; rw [vl_X5_lastOf_s, if_neg kq0, if_pos kq1, if_pos kq2, if_pos kq3, if_neg kq4] at z; exact z
noncomputable def v_X5_lastOf (T : tT)  (x0 : Int32) (x1 : Int32) (x2 : Int32) (x3 : Int32) : Int32 := vl_X5_lastOf fu T x0 x1 x2 x3 ((T.1 93 1) - (1 : Int32))
noncomputable def ok_X5_lastOf (sz : Nat) (T : tT)  (x0 : Int32) (x1 : Int32) (x2 : Int32) (x3 : Int32) : Prop := okl_X5_lastOf fu sz T x0 x1 x2 x3 ((T.1 93 1) - (1 : Int32))
set_option maxRecDepth 10000 in
theorem c_X5_lastOf {d L sz : Nat} {T : tT} (hsz : 161 ≤ sz) (x0 : Int32) (x1 : Int32) (x2 : Int32) (x3 : Int32) (ok : ok_X5_lastOf sz T x0 x1 x2 x3) : tiK (d + 2) mX5_lastOf [.ref 93, .int x0, .int x1, .int x2, .int x3] L sz T (fun r T' => r = v_X5_lastOf T x0 x1 x2 x3 ∧ T = T') := by
  refine k_X5_lastOf hsz  x0 x1 x2 x3 (fun X hX hR => ?_)
  unfold ok_X5_lastOf at ok
  exact lj_X5_lastOf hX hsz  hR _ _ x0 x1 x2 x3 ((T.1 93 1) - (1 : Int32)) ok ⟨by unfold v_X5_lastOf; rfl, rfl⟩
noncomputable def vl_X5_mainOf : Nat → tT → Int32 → Int32 → Int32 → Int32
  | 0, T, v1, v2, v3 => 0
  | n + 1, T, v1, v2, v3 => (if (T.1 93 1) ≤ v3 then (-1 : Int32) else (if (T.1 94 (v3.toNatClampNeg)) = v1 then (if (T.1 95 (v3.toNatClampNeg)) = (5 : Int32) then vl_X5_mainOf n T v1 v2 (v3 + (1 : Int32)) else (if (v_X5_isKnown T v3 v2) = 0 then vl_X5_mainOf n T v1 v2 (v3 + (1 : Int32)) else (T.1 95 (v3.toNatClampNeg)))) else vl_X5_mainOf n T v1 v2 (v3 + (1 : Int32))))
noncomputable def okl_X5_mainOf : Nat → Nat → tT → Int32 → Int32 → Int32 → Prop
  | 0, _, T, v1, v2, v3 => False
  | n + 1, sz, T, v1, v2, v3 => (((T.1 93 1) ≤ v3 → True) ∧ (¬ (T.1 93 1) ≤ v3 → (vp_in v3 200 ∧ ((¬ (T.1 94 (v3.toNatClampNeg)) = v1 → okl_X5_mainOf n sz T v1 v2 (v3 + (1 : Int32))) ∧ ((T.1 94 (v3.toNatClampNeg)) = v1 → (vp_in v3 200 ∧ (((T.1 95 (v3.toNatClampNeg)) = (5 : Int32) → okl_X5_mainOf n sz T v1 v2 (v3 + (1 : Int32))) ∧ (¬ (T.1 95 (v3.toNatClampNeg)) = (5 : Int32) → (ok_X5_isKnown sz T v3 v2 ∧ (((v_X5_isKnown T v3 v2) = 0 → okl_X5_mainOf n sz T v1 v2 (v3 + (1 : Int32))) ∧ (¬ (v_X5_isKnown T v3 v2) = 0 → vp_in v3 200)))))))))))
theorem vl_X5_mainOf_s (n : Nat) (T : tT)  (v1 : Int32) (v2 : Int32) (v3 : Int32) : vl_X5_mainOf (n + 1) T v1 v2 v3 = (if (T.1 93 1) ≤ v3 then (-1 : Int32) else (if (T.1 94 (v3.toNatClampNeg)) = v1 then (if (T.1 95 (v3.toNatClampNeg)) = (5 : Int32) then vl_X5_mainOf n T v1 v2 (v3 + (1 : Int32)) else (if (v_X5_isKnown T v3 v2) = 0 then vl_X5_mainOf n T v1 v2 (v3 + (1 : Int32)) else (T.1 95 (v3.toNatClampNeg)))) else vl_X5_mainOf n T v1 v2 (v3 + (1 : Int32)))) := rfl
set_option maxRecDepth 10000 in
theorem lj_X5_mainOf {X : ax_X} {d L sz : Nat} {Q : Int32 → tT → Prop} (hX : ax_ok X mX5_mainOf (d + 2)) (hsz : 161 ≤ sz) (hR : ax_Ret X mX5_mainOf (ti L sz Q)) : ∀ (n : Nat) (T : tT) (v1 : Int32) (v2 : Int32) (v3 : Int32), okl_X5_mainOf n sz T v1 v2 v3 → Q (vl_X5_mainOf n T v1 v2 v3) T → ax_j X 2 [some (.ref 93), some (.int v1), some (.int v2), some (.int v3)] [] (th L sz T) 0 0 := by
  intro n
  induction n with
  | zero => intro T v1 v2 v3 ok; exact False.elim ok
  | succ n ih =>
    intro T v1 v2 v3 ok hq
    refine s_X5_mainOf_2 hX hR hsz  v1 v2 v3 ?_
    unfold okl_X5_mainOf at ok
    refine ⟨fun kq0 => ?_, fun kq0 => ?_⟩
    · replace ok := ok.1 kq0
      have z := hq; rw [vl_X5_mainOf_s, if_pos kq0] at z; exact z
    · replace ok := ok.2 kq0
      refine ⟨ok.1, ?_⟩
      replace ok := ok.2
      refine ⟨fun kq1 => ?_, fun kq1 => ?_⟩
      · replace ok := ok.1 kq1
        have z := hq; rw [vl_X5_mainOf_s, if_neg kq0, if_neg kq1] at z; exact ih _ v1 v2 (v3 + (1 : Int32)) ok z
      · replace ok := ok.2 kq1
        refine ⟨ok.1, ?_⟩
        replace ok := ok.2
        refine ⟨fun kq2 => ?_, fun kq2 => ?_⟩
        · replace ok := ok.1 kq2
          have z := hq; rw [vl_X5_mainOf_s, if_neg kq0, if_pos kq1, if_pos kq2] at z; exact ih _ v1 v2 (v3 + (1 : Int32)) ok z
        · replace ok := ok.2 kq2
          refine ⟨_, c_X5_isKnown hsz  v3 v2 ok.1, ?_⟩
          rintro _ _ ⟨rfl, rfl⟩
          replace ok := ok.2
          refine ⟨fun kq3 => ?_, fun kq3 => ?_⟩
          · replace ok := ok.1 kq3
            have z := hq; rw [vl_X5_mainOf_s, if_neg kq0, if_pos kq1, if_neg kq2, if_pos kq3] at z; exact ih _ v1 v2 (v3 + (1 : Int32)) ok z
          · replace ok := ok.2 kq3
            refine ⟨ok, ?_⟩
            have z := hq; rw [vl_X5_mainOf_s, if_neg kq0, if_pos kq1, if_neg kq2, if_neg kq3] at z; exact z
noncomputable def v_X5_mainOf (T : tT)  (x0 : Int32) (x1 : Int32) : Int32 := vl_X5_mainOf fu T x0 x1 (0 : Int32)
noncomputable def ok_X5_mainOf (sz : Nat) (T : tT)  (x0 : Int32) (x1 : Int32) : Prop := okl_X5_mainOf fu sz T x0 x1 (0 : Int32)
set_option maxRecDepth 10000 in
theorem c_X5_mainOf {d L sz : Nat} {T : tT} (hsz : 161 ≤ sz) (x0 : Int32) (x1 : Int32) (ok : ok_X5_mainOf sz T x0 x1) : tiK (d + 2) mX5_mainOf [.ref 93, .int x0, .int x1] L sz T (fun r T' => r = v_X5_mainOf T x0 x1 ∧ T = T') := by
  refine k_X5_mainOf hsz  x0 x1 (fun X hX hR => ?_)
  unfold ok_X5_mainOf at ok
  exact lj_X5_mainOf hX hsz  hR _ _ x0 x1 (0 : Int32) ok ⟨by unfold v_X5_mainOf; rfl, rfl⟩
noncomputable def vl_X7_choose : Nat → tT → Int32 → Int64 → Int32 → tT
  | 0, T, v1, v2, v4 => T
  | n + 1, T, v1, v2, v4 => (if v1 ≤ v4 then T else vl_X7_choose n (tI T 86 (v4.toNatClampNeg) ((v2 >>> (((3 : Int32) * ((8 : Int32) - v4)).toInt64 &&& 63)).toInt32 &&& (7 : Int32))) v1 v2 (v4 + (1 : Int32)))
noncomputable def okl_X7_choose : Nat → Nat → tT → Int32 → Int64 → Int32 → Prop
  | 0, _, T, v1, v2, v4 => False
  | n + 1, sz, T, v1, v2, v4 => ((v1 ≤ v4 → True) ∧ (¬ v1 ≤ v4 → (vp_in v4 9 ∧ okl_X7_choose n sz (tI T 86 (v4.toNatClampNeg) ((v2 >>> (((3 : Int32) * ((8 : Int32) - v4)).toInt64 &&& 63)).toInt32 &&& (7 : Int32))) v1 v2 (v4 + (1 : Int32)))))
theorem vl_X7_choose_s (n : Nat) (T : tT)  (v1 : Int32) (v2 : Int64) (v4 : Int32) : vl_X7_choose (n + 1) T v1 v2 v4 = (if v1 ≤ v4 then T else vl_X7_choose n (tI T 86 (v4.toNatClampNeg) ((v2 >>> (((3 : Int32) * ((8 : Int32) - v4)).toInt64 &&& 63)).toInt32 &&& (7 : Int32))) v1 v2 (v4 + (1 : Int32))) := rfl
set_option maxRecDepth 10000 in
theorem lj_X7_choose {X : ax_X} {d L sz : Nat} {Q : tT → Prop} (hX : ax_ok X mX7_choose d) (hsz : 161 ≤ sz) (hR : ax_Ret X mX7_choose (tv L sz Q)) : ∀ (n : Nat) (T : tT) (v1 : Int32) (v2 : Int64) (v4 : Int32), okl_X7_choose n sz T v1 v2 v4 → Q (vl_X7_choose n T v1 v2 v4) → ax_j X 3 [some (.ref 85), some (.int v1), some (.long v2), none, some (.int v4)] [] (th L sz T) 0 0 := by
  intro n
  induction n with
  | zero => intro T v1 v2 v4 ok; exact False.elim ok
  | succ n ih =>
    intro T v1 v2 v4 ok hq
    refine s_X7_choose_3 hX hR hsz  v1 v2 v4 ?_
    unfold okl_X7_choose at ok
    refine ⟨fun kq0 => ?_, fun kq0 => ?_⟩
    · replace ok := ok.1 kq0
      have z := hq; rw [vl_X7_choose_s, if_pos kq0] at z; exact z
    · replace ok := ok.2 kq0
      refine ⟨ok.1, ?_⟩
      replace ok := ok.2
      have z := hq; rw [vl_X7_choose_s, if_neg kq0] at z; exact ih _ v1 v2 (v4 + (1 : Int32)) ok z
noncomputable def F_X7_choose (T : tT)  (x0 : Int32) (x1 : Int64) : tT := vl_X7_choose fu T x0 x1 (0 : Int32)
noncomputable def ok_X7_choose (sz : Nat) (T : tT)  (x0 : Int32) (x1 : Int64) : Prop := okl_X7_choose fu sz T x0 x1 (0 : Int32)
set_option maxRecDepth 10000 in
theorem c_X7_choose {d L sz : Nat} {T : tT} (hsz : 161 ≤ sz) (x0 : Int32) (x1 : Int64) (ok : ok_X7_choose sz T x0 x1) : tvK d mX7_choose [.ref 85, .int x0, .long x1] L sz T (fun T' => T' = F_X7_choose T x0 x1) := by
  refine k_X7_choose hsz  x0 x1 (fun X hX hR => ?_)
  unfold ok_X7_choose at ok
  exact lj_X7_choose hX hsz  hR _ _ x0 x1 (0 : Int32) ok (by unfold F_X7_choose; rfl)
noncomputable def vl_X7_savedBetween : Nat → tT → Int32 → Int32 → Int64 → Int32 → Int64
  | 0, T, v1, v2, v3, v5 => 0
  | n + 1, T, v1, v2, v3, v5 => (if (T.1 79 1) ≤ v5 then (v3 <<< ((27 : Int32).toInt64 &&& 63)) else (if (v_X1_hasCentre T ((v_X7_placeOf T v1 v5) - (1 : Int32))) = 0 then vl_X7_savedBetween n T v1 v2 v3 (v5 + (1 : Int32)) else (if (v_X1_hasCentre T ((v_X7_placeOf T v2 v5) - (1 : Int32))) = 0 then vl_X7_savedBetween n T v1 v2 v3 (v5 + (1 : Int32)) else vl_X7_savedBetween n T v1 v2 (v3 + (((v_X1_minutesBetween T ((v_X7_placeOf T v1 v5) - (1 : Int32)) (T.1 80 (v5.toNatClampNeg))) + (v_X1_minutesBetween T (T.1 80 (v5.toNatClampNeg)) ((v_X7_placeOf T v2 v5) - (1 : Int32)))) - (v_X1_minutesBetween T ((v_X7_placeOf T v1 v5) - (1 : Int32)) ((v_X7_placeOf T v2 v5) - (1 : Int32)))).toInt64) (v5 + (1 : Int32)))))
noncomputable def okl_X7_savedBetween : Nat → Nat → tT → Int32 → Int32 → Int64 → Int32 → Prop
  | 0, _, T, v1, v2, v3, v5 => False
  | n + 1, sz, T, v1, v2, v3, v5 => (((T.1 79 1) ≤ v5 → True) ∧ (¬ (T.1 79 1) ≤ v5 → (((v_X1_hasCentre T ((v_X7_placeOf T v1 v5) - (1 : Int32))) = 0 → okl_X7_savedBetween n sz T v1 v2 v3 (v5 + (1 : Int32))) ∧ (¬ (v_X1_hasCentre T ((v_X7_placeOf T v1 v5) - (1 : Int32))) = 0 → (((v_X1_hasCentre T ((v_X7_placeOf T v2 v5) - (1 : Int32))) = 0 → okl_X7_savedBetween n sz T v1 v2 v3 (v5 + (1 : Int32))) ∧ (¬ (v_X1_hasCentre T ((v_X7_placeOf T v2 v5) - (1 : Int32))) = 0 → (vp_in v5 5 ∧ (ok_X1_minutesBetween sz T ((v_X7_placeOf T v1 v5) - (1 : Int32)) (T.1 80 (v5.toNatClampNeg)) ∧ (ok_X1_minutesBetween sz T (T.1 80 (v5.toNatClampNeg)) ((v_X7_placeOf T v2 v5) - (1 : Int32)) ∧ (ok_X1_minutesBetween sz T ((v_X7_placeOf T v1 v5) - (1 : Int32)) ((v_X7_placeOf T v2 v5) - (1 : Int32)) ∧ okl_X7_savedBetween n sz T v1 v2 (v3 + (((v_X1_minutesBetween T ((v_X7_placeOf T v1 v5) - (1 : Int32)) (T.1 80 (v5.toNatClampNeg))) + (v_X1_minutesBetween T (T.1 80 (v5.toNatClampNeg)) ((v_X7_placeOf T v2 v5) - (1 : Int32)))) - (v_X1_minutesBetween T ((v_X7_placeOf T v1 v5) - (1 : Int32)) ((v_X7_placeOf T v2 v5) - (1 : Int32)))).toInt64) (v5 + (1 : Int32))))))))))))
theorem vl_X7_savedBetween_s (n : Nat) (T : tT)  (v1 : Int32) (v2 : Int32) (v3 : Int64) (v5 : Int32) : vl_X7_savedBetween (n + 1) T v1 v2 v3 v5 = (if (T.1 79 1) ≤ v5 then (v3 <<< ((27 : Int32).toInt64 &&& 63)) else (if (v_X1_hasCentre T ((v_X7_placeOf T v1 v5) - (1 : Int32))) = 0 then vl_X7_savedBetween n T v1 v2 v3 (v5 + (1 : Int32)) else (if (v_X1_hasCentre T ((v_X7_placeOf T v2 v5) - (1 : Int32))) = 0 then vl_X7_savedBetween n T v1 v2 v3 (v5 + (1 : Int32)) else vl_X7_savedBetween n T v1 v2 (v3 + (((v_X1_minutesBetween T ((v_X7_placeOf T v1 v5) - (1 : Int32)) (T.1 80 (v5.toNatClampNeg))) + (v_X1_minutesBetween T (T.1 80 (v5.toNatClampNeg)) ((v_X7_placeOf T v2 v5) - (1 : Int32)))) - (v_X1_minutesBetween T ((v_X7_placeOf T v1 v5) - (1 : Int32)) ((v_X7_placeOf T v2 v5) - (1 : Int32)))).toInt64) (v5 + (1 : Int32))))) := rfl
set_option maxRecDepth 10000 in
theorem lj_X7_savedBetween {X : ax_X} {d L sz : Nat} {Q : Int64 → tT → Prop} (hX : ax_ok X mX7_savedBetween (d + 1)) (hsz : 161 ≤ sz) (hR : ax_Ret X mX7_savedBetween (tl L sz Q)) : ∀ (n : Nat) (T : tT) (v1 : Int32) (v2 : Int32) (v3 : Int64) (v5 : Int32), okl_X7_savedBetween n sz T v1 v2 v3 v5 → Q (vl_X7_savedBetween n T v1 v2 v3 v5) T → ax_j X 5 [some (.ref 79), some (.int v1), some (.int v2), some (.long v3), none, some (.int v5), none, none, none] [] (th L sz T) 0 0 := by
  intro n
  induction n with
  | zero => intro T v1 v2 v3 v5 ok; exact False.elim ok
  | succ n ih =>
    intro T v1 v2 v3 v5 ok hq
    refine s_X7_savedBetween_5 hX hR hsz  v1 v2 v3 v5 ?_
    unfold okl_X7_savedBetween at ok
    refine ⟨fun kq0 => ?_, fun kq0 => ?_⟩
    · replace ok := ok.1 kq0
      have z := hq; rw [vl_X7_savedBetween_s, if_pos kq0] at z; exact z
    · replace ok := ok.2 kq0
      refine ⟨_, c_X7_placeOf hsz  v1 v5 , ?_⟩
      rintro _ _ ⟨rfl, rfl⟩
      refine ⟨_, c_X7_placeOf hsz  v2 v5 , ?_⟩
      rintro _ _ ⟨rfl, rfl⟩
      refine ⟨_, c_X1_hasCentre hsz  ((v_X7_placeOf T v1 v5) - (1 : Int32)) , ?_⟩
      rintro _ _ ⟨rfl, rfl⟩
      refine ⟨fun kq1 => ?_, fun kq1 => ?_⟩
      · replace ok := ok.1 kq1
        have z := hq; rw [vl_X7_savedBetween_s, if_neg kq0, if_pos kq1] at z; exact ih _ v1 v2 v3 (v5 + (1 : Int32)) ok z
      · replace ok := ok.2 kq1
        refine ⟨_, c_X1_hasCentre hsz  ((v_X7_placeOf T v2 v5) - (1 : Int32)) , ?_⟩
        rintro _ _ ⟨rfl, rfl⟩
        refine ⟨fun kq2 => ?_, fun kq2 => ?_⟩
        · replace ok := ok.1 kq2
          have z := hq; rw [vl_X7_savedBetween_s, if_neg kq0, if_neg kq1, if_pos kq2] at z; exact ih _ v1 v2 v3 (v5 + (1 : Int32)) ok z
        · replace ok := ok.2 kq2
          refine ⟨ok.1, ?_⟩
          replace ok := ok.2
          refine ⟨_, c_X1_minutesBetween hsz  ((v_X7_placeOf T v1 v5) - (1 : Int32)) (T.1 80 (v5.toNatClampNeg)) ok.1, ?_⟩
          rintro _ _ ⟨rfl, rfl⟩
          replace ok := ok.2
          refine ⟨_, c_X1_minutesBetween hsz  (T.1 80 (v5.toNatClampNeg)) ((v_X7_placeOf T v2 v5) - (1 : Int32)) ok.1, ?_⟩
          rintro _ _ ⟨rfl, rfl⟩
          replace ok := ok.2
          refine ⟨_, c_X1_minutesBetween hsz  ((v_X7_placeOf T v1 v5) - (1 : Int32)) ((v_X7_placeOf T v2 v5) - (1 : Int32)) ok.1, ?_⟩
          rintro _ _ ⟨rfl, rfl⟩
          replace ok := ok.2
          have z := hq; rw [vl_X7_savedBetween_s, if_neg kq0, if_neg kq1, if_neg kq2] at z; exact ih _ v1 v2 (v3 + (((v_X1_minutesBetween T ((v_X7_placeOf T v1 v5) - (1 : Int32)) (T.1 80 (v5.toNatClampNeg))) + (v_X1_minutesBetween T (T.1 80 (v5.toNatClampNeg)) ((v_X7_placeOf T v2 v5) - (1 : Int32)))) - (v_X1_minutesBetween T ((v_X7_placeOf T v1 v5) - (1 : Int32)) ((v_X7_placeOf T v2 v5) - (1 : Int32)))).toInt64) (v5 + (1 : Int32)) ok z
noncomputable def v_X7_savedBetween (T : tT)  (x1 : Int32) (x2 : Int32) : Int64 := vl_X7_savedBetween fu T x1 x2 (0 : Int64) (0 : Int32)
noncomputable def ok_X7_savedBetween (sz : Nat) (T : tT)  (x1 : Int32) (x2 : Int32) : Prop := okl_X7_savedBetween fu sz T x1 x2 (0 : Int64) (0 : Int32)
set_option maxRecDepth 10000 in
theorem c_X7_savedBetween {d L sz : Nat} {T : tT} (hsz : 161 ≤ sz) (x1 : Int32) (x2 : Int32) (ok : ok_X7_savedBetween sz T x1 x2) : tlK (d + 1) mX7_savedBetween [.ref 79, .int x1, .int x2] L sz T (fun r T' => r = v_X7_savedBetween T x1 x2 ∧ T = T') := by
  refine k_X7_savedBetween hsz  x1 x2 (fun X hX hR => ?_)
  unfold ok_X7_savedBetween at ok
  exact lj_X7_savedBetween hX hsz  hR _ _ x1 x2 (0 : Int64) (0 : Int32) ok ⟨by unfold v_X7_savedBetween; rfl, rfl⟩
noncomputable def vl_X7_sendAllHome : Nat → tT → Int32 → tT
  | 0, T, v1 => T
  | n + 1, T, v1 => (if (T.1 85 3) ≤ v1 then (match (T.2.2 85 5) with | none => T | some p1 => (tI (tI T p1 ((0 : Int32).toNatClampNeg) (0 : Int32)) 85 3 (if (1 : Int32) < ((tI T p1 ((0 : Int32).toNatClampNeg) (0 : Int32)).1 85 3) then (1 : Int32) else ((tI T p1 ((0 : Int32).toNatClampNeg) (0 : Int32)).1 85 3)))) else (match (T.2.2 85 7) with | none => T | some p2 => vl_X7_sendAllHome n (tJ T p2 ((0 : Int32).toNatClampNeg) (if (T.2.1 p2 (v1.toNatClampNeg)) < (T.2.1 p2 (0 : Int32).toNatClampNeg) then (T.2.1 p2 (v1.toNatClampNeg)) else (T.2.1 p2 (0 : Int32).toNatClampNeg))) (v1 + (1 : Int32))))
noncomputable def okl_X7_sendAllHome : Nat → Nat → tT → Int32 → Prop
  | 0, _, T, v1 => False
  | n + 1, sz, T, v1 => (((T.1 85 3) ≤ v1 → (((T.2.2 85 5) = none → False) ∧ (∀ p1, (T.2.2 85 5) = some p1 → tar sz p1 0 120 ∧ vp_in (0 : Int32) 120))) ∧ (¬ (T.1 85 3) ≤ v1 → (((T.2.2 85 7) = none → False) ∧ (∀ p2, (T.2.2 85 7) = some p2 → tar sz p2 1 120 ∧ (vp_in (0 : Int32) 120 ∧ (vp_in v1 120 ∧ (vp_in (0 : Int32) 120 ∧ okl_X7_sendAllHome n sz (tJ T p2 ((0 : Int32).toNatClampNeg) (if (T.2.1 p2 (v1.toNatClampNeg)) < (T.2.1 p2 (0 : Int32).toNatClampNeg) then (T.2.1 p2 (v1.toNatClampNeg)) else (T.2.1 p2 (0 : Int32).toNatClampNeg))) (v1 + (1 : Int32)))))))))
theorem vl_X7_sendAllHome_s (n : Nat) (T : tT)  (v1 : Int32) : vl_X7_sendAllHome (n + 1) T v1 = (if (T.1 85 3) ≤ v1 then (match (T.2.2 85 5) with | none => T | some p1 => (tI (tI T p1 ((0 : Int32).toNatClampNeg) (0 : Int32)) 85 3 (if (1 : Int32) < ((tI T p1 ((0 : Int32).toNatClampNeg) (0 : Int32)).1 85 3) then (1 : Int32) else ((tI T p1 ((0 : Int32).toNatClampNeg) (0 : Int32)).1 85 3)))) else (match (T.2.2 85 7) with | none => T | some p2 => vl_X7_sendAllHome n (tJ T p2 ((0 : Int32).toNatClampNeg) (if (T.2.1 p2 (v1.toNatClampNeg)) < (T.2.1 p2 (0 : Int32).toNatClampNeg) then (T.2.1 p2 (v1.toNatClampNeg)) else (T.2.1 p2 (0 : Int32).toNatClampNeg))) (v1 + (1 : Int32)))) := rfl
set_option maxRecDepth 10000 in
theorem lj_X7_sendAllHome {X : ax_X} {d L sz : Nat} {Q : tT → Prop} (hX : ax_ok X mX7_sendAllHome (d + 1)) (hsz : 161 ≤ sz) (hR : ax_Ret X mX7_sendAllHome (tv L sz Q)) : ∀ (n : Nat) (T : tT) (v1 : Int32), okl_X7_sendAllHome n sz T v1 → Q (vl_X7_sendAllHome n T v1) → ax_j X 2 [some (.ref 85), some (.int v1)] [] (th L sz T) 0 0 := by
  intro n
  induction n with
  | zero => intro T v1 ok; exact False.elim ok
  | succ n ih =>
    intro T v1 ok hq
    refine s_X7_sendAllHome_2 hX hR hsz  v1 ?_
    unfold okl_X7_sendAllHome at ok
    refine ⟨fun kq0 => ?_, fun kq0 => ?_⟩
    · replace ok := ok.1 kq0
      refine ⟨fun kq1 => ?_, fun p1 kq1 => ?_⟩
      · replace ok := ok.1 kq1
        exact ok.elim
      · obtain ⟨h_p1, ok⟩ := ok.2 p1 kq1
        refine ⟨h_p1, ?_⟩
        refine ⟨ok, ?_⟩
        have z := hq; rw [vl_X7_sendAllHome_s] at z; simp only [if_pos kq0, kq1] at z; exact z
    · replace ok := ok.2 kq0
      refine ⟨fun kq1 => ?_, fun p2 kq1 => ?_⟩
      · replace ok := ok.1 kq1
        exact ok.elim
      · obtain ⟨h_p2, ok⟩ := ok.2 p2 kq1
        refine ⟨h_p2, ?_⟩
        refine ⟨ok.1, ?_⟩
        replace ok := ok.2
        refine ⟨ok.1, ?_⟩
        replace ok := ok.2
        refine ⟨ok.1, ?_⟩
        replace ok := ok.2
        have z := hq; rw [vl_X7_sendAllHome_s] at z; simp only [if_neg kq0, kq1] at z; exact ih _ (v1 + (1 : Int32)) ok z
noncomputable def F_X7_sendAllHome (T : tT)   : tT := vl_X7_sendAllHome fu T (1 : Int32)
noncomputable def ok_X7_sendAllHome (sz : Nat) (T : tT)   : Prop := okl_X7_sendAllHome fu sz T (1 : Int32)
set_option maxRecDepth 10000 in
theorem c_X7_sendAllHome {d L sz : Nat} {T : tT} (hsz : 161 ≤ sz)  (ok : ok_X7_sendAllHome sz T) : tvK (d + 1) mX7_sendAllHome [.ref 85] L sz T (fun T' => T' = F_X7_sendAllHome T) := by
  refine k_X7_sendAllHome hsz   (fun X hX hR => ?_)
  unfold ok_X7_sendAllHome at ok
  exact lj_X7_sendAllHome hX hsz  hR _ _ (1 : Int32) ok (by unfold F_X7_sendAllHome; rfl)
noncomputable def vl_X8_clear : Nat → tT → Nat → Int32 → tT
  | 0, T, p, v1 => T
  | n + 1, T, p, v1 => (if (8 : Int32) ≤ v1 then T else (match (T.2.2 (p + 1) (v1.toNatClampNeg)) with | none => T | some p1 => vl_X8_clear n (F_X3_clear T p1) p (v1 + (1 : Int32))))
noncomputable def okl_X8_clear : Nat → Nat → tT → Nat → Int32 → Prop
  | 0, _, T, p, v1 => False
  | n + 1, sz, T, p, v1 => (((8 : Int32) ≤ v1 → True) ∧ (¬ (8 : Int32) ≤ v1 → (vp_in v1 8 ∧ (((T.2.2 (p + 1) (v1.toNatClampNeg)) = none → False) ∧ (∀ p1, (T.2.2 (p + 1) (v1.toNatClampNeg)) = some p1 → tgr sz p1 ∧ okl_X8_clear n sz (F_X3_clear T p1) p (v1 + (1 : Int32)))))))
theorem vl_X8_clear_s (n : Nat) (T : tT) (p : Nat) (v1 : Int32) : vl_X8_clear (n + 1) T p v1 = (if (8 : Int32) ≤ v1 then T else (match (T.2.2 (p + 1) (v1.toNatClampNeg)) with | none => T | some p1 => vl_X8_clear n (F_X3_clear T p1) p (v1 + (1 : Int32)))) := rfl
set_option maxRecDepth 10000 in
theorem lj_X8_clear {X : ax_X} {d L sz : Nat} {Q : tT → Prop} (hX : ax_ok X mX8_clear (d + 1)) (hsz : 161 ≤ sz) {p : Nat} (h_p : tsy sz p) (hR : ax_Ret X mX8_clear (tv L sz Q)) : ∀ (n : Nat) (T : tT) (v1 : Int32), okl_X8_clear n sz T p v1 → Q (vl_X8_clear n T p v1) → ax_j X 12 [some (.ref p), some (.int v1)] [] (th L sz T) 0 0 := by
  intro n
  induction n with
  | zero => intro T v1 ok; exact False.elim ok
  | succ n ih =>
    intro T v1 ok hq
    refine s_X8_clear_12 hX hR hsz h_p v1 ?_
    unfold okl_X8_clear at ok
    refine ⟨fun kq0 => ?_, fun kq0 => ?_⟩
    · replace ok := ok.1 kq0
      have z := hq; rw [vl_X8_clear_s, if_pos kq0] at z; exact z
    · replace ok := ok.2 kq0
      refine ⟨ok.1, ?_⟩
      replace ok := ok.2
      refine ⟨fun kq1 => ?_, fun p1 kq1 => ?_⟩
      · replace ok := ok.1 kq1
        exact ok.elim
      · obtain ⟨h_p1, ok⟩ := ok.2 p1 kq1
        refine ⟨h_p1, ?_⟩
        refine ⟨_, c_X3_clear hsz h_p1  , ?_⟩
        rintro _ rfl
        have z := hq; rw [vl_X8_clear_s] at z; simp only [if_neg kq0, kq1] at z; exact ih _ (v1 + (1 : Int32)) ok z
noncomputable def F_X8_clear (T : tT) (p : Nat)  : tT := vl_X8_clear fu (tI (tI T p 2 (0 : Int32)) p 3 (0 : Int32)) p (0 : Int32)
noncomputable def ok_X8_clear (sz : Nat) (T : tT) (p : Nat)  : Prop := okl_X8_clear fu sz (tI (tI T p 2 (0 : Int32)) p 3 (0 : Int32)) p (0 : Int32)
set_option maxRecDepth 10000 in
theorem c_X8_clear {d L sz : Nat} {T : tT} (hsz : 161 ≤ sz) {p : Nat} (h_p : tsy sz p)  (ok : ok_X8_clear sz T p) : tvK (d + 1) mX8_clear [.ref p] L sz T (fun T' => T' = F_X8_clear T p) := by
  refine k_X8_clear hsz h_p  (fun X hX hR => ?_)
  unfold ok_X8_clear at ok
  exact lj_X8_clear hX hsz h_p hR _ _ (0 : Int32) ok (by unfold F_X8_clear; rfl)
noncomputable def vl_X9_append : Nat → tT → Int32 → Int32 → tT
  | 0, T, v1, v2 => T
  | n + 1, T, v1, v2 => (if v2 < 0 then T else (if (1400 : Int32) ≤ (T.1 4 1) then T else vl_X9_append n (tI (tI T 5 ((T.1 4 1).toNatClampNeg) ((v1 >>> (v2 &&& 31)).toInt8.toInt32).toInt8.toInt32) 4 1 ((T.1 4 1) + (1 : Int32))) v1 (v2 + (-8 : Int32))))
noncomputable def okl_X9_append : Nat → Nat → tT → Int32 → Int32 → Prop
  | 0, _, T, v1, v2 => False
  | n + 1, sz, T, v1, v2 => ((v2 < 0 → True) ∧ (¬ v2 < 0 → (((1400 : Int32) ≤ (T.1 4 1) → True) ∧ (¬ (1400 : Int32) ≤ (T.1 4 1) → (vp_in (T.1 4 1) 1400 ∧ okl_X9_append n sz (tI (tI T 5 ((T.1 4 1).toNatClampNeg) ((v1 >>> (v2 &&& 31)).toInt8.toInt32).toInt8.toInt32) 4 1 ((T.1 4 1) + (1 : Int32))) v1 (v2 + (-8 : Int32)))))))
theorem vl_X9_append_s (n : Nat) (T : tT)  (v1 : Int32) (v2 : Int32) : vl_X9_append (n + 1) T v1 v2 = (if v2 < 0 then T else (if (1400 : Int32) ≤ (T.1 4 1) then T else vl_X9_append n (tI (tI T 5 ((T.1 4 1).toNatClampNeg) ((v1 >>> (v2 &&& 31)).toInt8.toInt32).toInt8.toInt32) 4 1 ((T.1 4 1) + (1 : Int32))) v1 (v2 + (-8 : Int32)))) := rfl
set_option maxRecDepth 10000 in
theorem lj_X9_append {X : ax_X} {d L sz : Nat} {Q : tT → Prop} (hX : ax_ok X mX9_append d) (hsz : 161 ≤ sz) (hR : ax_Ret X mX9_append (tv L sz Q)) : ∀ (n : Nat) (T : tT) (v1 : Int32) (v2 : Int32), okl_X9_append n sz T v1 v2 → Q (vl_X9_append n T v1 v2) → ax_j X 3 [some (.ref 4), some (.int v1), some (.int v2)] [] (th L sz T) 0 0 := by
  intro n
  induction n with
  | zero => intro T v1 v2 ok; exact False.elim ok
  | succ n ih =>
    intro T v1 v2 ok hq
    refine s_X9_append_3 hX hR hsz  v1 v2 ?_
    unfold okl_X9_append at ok
    refine ⟨fun kq0 => ?_, fun kq0 => ?_⟩
    · replace ok := ok.1 kq0
      have z := hq; rw [vl_X9_append_s, if_pos kq0] at z; exact z
    · replace ok := ok.2 kq0
      refine ⟨fun kq1 => ?_, fun kq1 => ?_⟩
      · replace ok := ok.1 kq1
        have z := hq; rw [vl_X9_append_s, if_neg kq0, if_pos kq1] at z; exact z
      · replace ok := ok.2 kq1
        refine ⟨ok.1, ?_⟩
        replace ok := ok.2
        have z := hq; rw [vl_X9_append_s, if_neg kq0, if_neg kq1] at z; exact ih _ v1 (v2 + (-8 : Int32)) ok z
noncomputable def F_X9_append (T : tT)  (x0 : Int32) : tT := vl_X9_append fu T x0 (24 : Int32)
noncomputable def ok_X9_append (sz : Nat) (T : tT)  (x0 : Int32) : Prop := okl_X9_append fu sz T x0 (24 : Int32)
set_option maxRecDepth 10000 in
theorem c_X9_append {d L sz : Nat} {T : tT} (hsz : 161 ≤ sz) (x0 : Int32) (ok : ok_X9_append sz T x0) : tvK d mX9_append [.ref 4, .int x0] L sz T (fun T' => T' = F_X9_append T x0) := by
  refine k_X9_append hsz  x0 (fun X hX hR => ?_)
  unfold ok_X9_append at ok
  exact lj_X9_append hX hsz  hR _ _ x0 (24 : Int32) ok (by unfold F_X9_append; rfl)
noncomputable def vl_X9_isWord : Nat → tT → Int64 → Int32 → Int32 → Int32
  | 0, T, v0, v2, v3 => 0
  | n + 1, T, v0, v2, v3 => (if v3 < 0 then v2 else (if v2 = 0 then (if (((v0.toUInt64 >>> (v3.toInt64.toUInt64 &&& Int64.toUInt64 63)).toInt64).toInt32 &&& (255 : Int32)) = 0 then (if v2 = 0 then (if (((v0.toUInt64 >>> (v3.toInt64.toUInt64 &&& Int64.toUInt64 63)).toInt64).toInt32 &&& (255 : Int32)) = 0 then vl_X9_isWord n T v0 (0 : Int32) (v3 + (-8 : Int32)) else vl_X9_isWord n T v0 (1 : Int32) (v3 + (-8 : Int32))) else vl_X9_isWord n T v0 (1 : Int32) (v3 + (-8 : Int32))) else (if (v_X9_isLetter T (((v0.toUInt64 >>> (v3.toInt64.toUInt64 &&& Int64.toUInt64 63)).toInt64).toInt32 &&& (255 : Int32))) = 0 then (0 : Int32) else (if v2 = 0 then (if (((v0.toUInt64 >>> (v3.toInt64.toUInt64 &&& Int64.toUInt64 63)).toInt64).toInt32 &&& (255 : Int32)) = 0 then vl_X9_isWord n T v0 (0 : Int32) (v3 + (-8 : Int32)) else vl_X9_isWord n T v0 (1 : Int32) (v3 + (-8 : Int32))) else vl_X9_isWord n T v0 (1 : Int32) (v3 + (-8 : Int32))))) else (if (v_X9_isLetterOrDigit T (((v0.toUInt64 >>> (v3.toInt64.toUInt64 &&& Int64.toUInt64 63)).toInt64).toInt32 &&& (255 : Int32))) = 0 then (0 : Int32) else (if v2 = 0 then (if (((v0.toUInt64 >>> (v3.toInt64.toUInt64 &&& Int64.toUInt64 63)).toInt64).toInt32 &&& (255 : Int32)) = 0 then vl_X9_isWord n T v0 (0 : Int32) (v3 + (-8 : Int32)) else vl_X9_isWord n T v0 (1 : Int32) (v3 + (-8 : Int32))) else vl_X9_isWord n T v0 (1 : Int32) (v3 + (-8 : Int32))))))
noncomputable def okl_X9_isWord : Nat → Nat → tT → Int64 → Int32 → Int32 → Prop
  | 0, _, T, v0, v2, v3 => False
  | n + 1, sz, T, v0, v2, v3 => ((v3 < 0 → (v2 &&& 1 = v2)) ∧ (¬ v3 < 0 → ((v2 = 0 → (((((v0.toUInt64 >>> (v3.toInt64.toUInt64 &&& Int64.toUInt64 63)).toInt64).toInt32 &&& (255 : Int32)) = 0 → ((¬ v2 = 0 → okl_X9_isWord n sz T v0 (1 : Int32) (v3 + (-8 : Int32))) ∧ (v2 = 0 → (((((v0.toUInt64 >>> (v3.toInt64.toUInt64 &&& Int64.toUInt64 63)).toInt64).toInt32 &&& (255 : Int32)) = 0 → okl_X9_isWord n sz T v0 (0 : Int32) (v3 + (-8 : Int32))) ∧ (¬ (((v0.toUInt64 >>> (v3.toInt64.toUInt64 &&& Int64.toUInt64 63)).toInt64).toInt32 &&& (255 : Int32)) = 0 → okl_X9_isWord n sz T v0 (1 : Int32) (v3 + (-8 : Int32))))))) ∧ (¬ (((v0.toUInt64 >>> (v3.toInt64.toUInt64 &&& Int64.toUInt64 63)).toInt64).toInt32 &&& (255 : Int32)) = 0 → ((¬ (v_X9_isLetter T (((v0.toUInt64 >>> (v3.toInt64.toUInt64 &&& Int64.toUInt64 63)).toInt64).toInt32 &&& (255 : Int32))) = 0 → ((¬ v2 = 0 → okl_X9_isWord n sz T v0 (1 : Int32) (v3 + (-8 : Int32))) ∧ (v2 = 0 → (((((v0.toUInt64 >>> (v3.toInt64.toUInt64 &&& Int64.toUInt64 63)).toInt64).toInt32 &&& (255 : Int32)) = 0 → okl_X9_isWord n sz T v0 (0 : Int32) (v3 + (-8 : Int32))) ∧ (¬ (((v0.toUInt64 >>> (v3.toInt64.toUInt64 &&& Int64.toUInt64 63)).toInt64).toInt32 &&& (255 : Int32)) = 0 → okl_X9_isWord n sz T v0 (1 : Int32) (v3 + (-8 : Int32))))))) ∧ ((v_X9_isLetter T (((v0.toUInt64 >>> (v3.toInt64.toUInt64 &&& Int64.toUInt64 63)).toInt64).toInt32 &&& (255 : Int32))) = 0 → True))))) ∧ (¬ v2 = 0 → ((¬ (v_X9_isLetterOrDigit T (((v0.toUInt64 >>> (v3.toInt64.toUInt64 &&& Int64.toUInt64 63)).toInt64).toInt32 &&& (255 : Int32))) = 0 → ((¬ v2 = 0 → okl_X9_isWord n sz T v0 (1 : Int32) (v3 + (-8 : Int32))) ∧ (v2 = 0 → (((((v0.toUInt64 >>> (v3.toInt64.toUInt64 &&& Int64.toUInt64 63)).toInt64).toInt32 &&& (255 : Int32)) = 0 → okl_X9_isWord n sz T v0 (0 : Int32) (v3 + (-8 : Int32))) ∧ (¬ (((v0.toUInt64 >>> (v3.toInt64.toUInt64 &&& Int64.toUInt64 63)).toInt64).toInt32 &&& (255 : Int32)) = 0 → okl_X9_isWord n sz T v0 (1 : Int32) (v3 + (-8 : Int32))))))) ∧ ((v_X9_isLetterOrDigit T (((v0.toUInt64 >>> (v3.toInt64.toUInt64 &&& Int64.toUInt64 63)).toInt64).toInt32 &&& (255 : Int32))) = 0 → True))))))
theorem vl_X9_isWord_s (n : Nat) (T : tT)  (v0 : Int64) (v2 : Int32) (v3 : Int32) : vl_X9_isWord (n + 1) T v0 v2 v3 = (if v3 < 0 then v2 else (if v2 = 0 then (if (((v0.toUInt64 >>> (v3.toInt64.toUInt64 &&& Int64.toUInt64 63)).toInt64).toInt32 &&& (255 : Int32)) = 0 then (if v2 = 0 then (if (((v0.toUInt64 >>> (v3.toInt64.toUInt64 &&& Int64.toUInt64 63)).toInt64).toInt32 &&& (255 : Int32)) = 0 then vl_X9_isWord n T v0 (0 : Int32) (v3 + (-8 : Int32)) else vl_X9_isWord n T v0 (1 : Int32) (v3 + (-8 : Int32))) else vl_X9_isWord n T v0 (1 : Int32) (v3 + (-8 : Int32))) else (if (v_X9_isLetter T (((v0.toUInt64 >>> (v3.toInt64.toUInt64 &&& Int64.toUInt64 63)).toInt64).toInt32 &&& (255 : Int32))) = 0 then (0 : Int32) else (if v2 = 0 then (if (((v0.toUInt64 >>> (v3.toInt64.toUInt64 &&& Int64.toUInt64 63)).toInt64).toInt32 &&& (255 : Int32)) = 0 then vl_X9_isWord n T v0 (0 : Int32) (v3 + (-8 : Int32)) else vl_X9_isWord n T v0 (1 : Int32) (v3 + (-8 : Int32))) else vl_X9_isWord n T v0 (1 : Int32) (v3 + (-8 : Int32))))) else (if (v_X9_isLetterOrDigit T (((v0.toUInt64 >>> (v3.toInt64.toUInt64 &&& Int64.toUInt64 63)).toInt64).toInt32 &&& (255 : Int32))) = 0 then (0 : Int32) else (if v2 = 0 then (if (((v0.toUInt64 >>> (v3.toInt64.toUInt64 &&& Int64.toUInt64 63)).toInt64).toInt32 &&& (255 : Int32)) = 0 then vl_X9_isWord n T v0 (0 : Int32) (v3 + (-8 : Int32)) else vl_X9_isWord n T v0 (1 : Int32) (v3 + (-8 : Int32))) else vl_X9_isWord n T v0 (1 : Int32) (v3 + (-8 : Int32)))))) := rfl
set_option maxRecDepth 10000 in
theorem lj_X9_isWord {X : ax_X} {d L sz : Nat} {Q : Int32 → tT → Prop} (hX : ax_ok X mX9_isWord (d + 1)) (hsz : 161 ≤ sz) (hR : ax_Ret X mX9_isWord (ti L sz Q)) : ∀ (n : Nat) (T : tT) (v0 : Int64) (v2 : Int32) (v3 : Int32), okl_X9_isWord n sz T v0 v2 v3 → Q (vl_X9_isWord n T v0 v2 v3) T → ax_j X 5 [some (.long v0), none, some (.int v2), some (.int v3), none] [] (th L sz T) 0 0 := by
  intro n
  induction n with
  | zero => intro T v0 v2 v3 ok; exact False.elim ok
  | succ n ih =>
    intro T v0 v2 v3 ok hq
    refine s_X9_isWord_5 hX hR hsz  v0 v2 v3 ?_
    unfold okl_X9_isWord at ok
    refine ⟨fun kq0 => ?_, fun kq0 => ?_⟩
    · replace ok := ok.1 kq0
      have z := hq; rw [vl_X9_isWord_s, if_pos kq0] at z; exact ⟨ok, z⟩
    · replace ok := ok.2 kq0
      refine ⟨fun kq1 => ?_, fun kq1 => ?_⟩
      · replace ok := ok.1 kq1
        refine ⟨fun kq2 => ?_, fun kq2 => ?_⟩
        · replace ok := ok.1 kq2
          refine ⟨fun kq3 => ?_, fun kq3 => ?_⟩
          · replace ok := ok.1 kq3
            have z := hq; rw [vl_X9_isWord_s, if_neg kq0, if_pos kq1, if_pos kq2, if_neg kq3] at z; exact ih _ v0 (1 : Int32) (v3 + (-8 : Int32)) ok z
          · replace ok := ok.2 kq3
            refine ⟨fun kq4 => ?_, fun kq4 => ?_⟩
            · replace ok := ok.1 kq4
              have z := hq; rw [vl_X9_isWord_s, if_neg kq0, if_pos kq1, if_pos kq2, if_pos kq3, if_pos kq4] at z; exact ih _ v0 (0 : Int32) (v3 + (-8 : Int32)) ok z
            · replace ok := ok.2 kq4
              have z := hq; rw [vl_X9_isWord_s, if_neg kq0, if_pos kq1, if_pos kq2, if_pos kq3, if_neg kq4] at z; exact ih _ v0 (1 : Int32) (v3 + (-8 : Int32)) ok z
        · replace ok := ok.2 kq2
          refine ⟨_, c_X9_isLetter hsz  (((v0.toUInt64 >>> (v3.toInt64.toUInt64 &&& Int64.toUInt64 63)).toInt64).toInt32 &&& (255 : Int32)) , ?_⟩
          rintro _ _ ⟨rfl, rfl⟩
          refine ⟨fun kq3 => ?_, fun kq3 => ?_⟩
          · replace ok := ok.1 kq3
            refine ⟨fun kq4 => ?_, fun kq4 => ?_⟩
            · replace ok := ok.1 kq4
              have z := hq; rw [vl_X9_isWord_s, if_neg kq0, if_pos kq1, if_neg kq2, if_neg kq3, if_neg kq4] at z; exact ih _ v0 (1 : Int32) (v3 + (-8 : Int32)) ok z
            · replace ok := ok.2 kq4
              refine ⟨fun kq5 => ?_, fun kq5 => ?_⟩
              · replace ok := ok.1 kq5
                have z := hq; rw [vl_X9_isWord_s, if_neg kq0, if_pos kq1, if_neg kq2, if_neg kq3, if_pos kq4, if_pos kq5] at z; exact ih _ v0 (0 : Int32) (v3 + (-8 : Int32)) ok z
              · replace ok := ok.2 kq5
                have z := hq; rw [vl_X9_isWord_s, if_neg kq0, if_pos kq1, if_neg kq2, if_neg kq3, if_pos kq4, if_neg kq5] at z; exact ih _ v0 (1 : Int32) (v3 + (-8 : Int32)) ok z
          · replace ok := ok.2 kq3
            have z := hq; rw [vl_X9_isWord_s, if_neg kq0, if_pos kq1, if_neg kq2, if_pos kq3] at z; exact z
      · replace ok := ok.2 kq1
        refine ⟨_, c_X9_isLetterOrDigit hsz  (((v0.toUInt64 >>> (v3.toInt64.toUInt64 &&& Int64.toUInt64 63)).toInt64).toInt32 &&& (255 : Int32)) , ?_⟩
        rintro _ _ ⟨rfl, rfl⟩
        refine ⟨fun kq2 => ?_, fun kq2 => ?_⟩
        · replace ok := ok.1 kq2
          refine ⟨fun kq3 => ?_, fun kq3 => ?_⟩
          · replace ok := ok.1 kq3
            have z := hq; rw [vl_X9_isWord_s, if_neg kq0, if_neg kq1, if_neg kq2, if_neg kq3] at z; exact ih _ v0 (1 : Int32) (v3 + (-8 : Int32)) ok z
          · replace ok := ok.2 kq3
            refine ⟨fun kq4 => ?_, fun kq4 => ?_⟩
            · replace ok := ok.1 kq4
              have z := hq; rw [vl_X9_isWord_s, if_neg kq0, if_neg kq1, if_neg kq2, if_pos kq3, if_pos kq4] at z; exact ih _ v0 (0 : Int32) (v3 + (-8 : Int32)) ok z
            · replace ok := ok.2 kq4
              have z := hq; rw [vl_X9_isWord_s, if_neg kq0, if_neg kq1, if_neg kq2, if_pos kq3, if_neg kq4] at z; exact ih _ v0 (1 : Int32) (v3 + (-8 : Int32)) ok z
        · replace ok := ok.2 kq2
          have z := hq; rw [vl_X9_isWord_s, if_neg kq0, if_neg kq1, if_pos kq2] at z; exact z
noncomputable def v_X9_isWord (T : tT)  (x0 : Int64) : Int32 := vl_X9_isWord fu T x0 (0 : Int32) (56 : Int32)
noncomputable def ok_X9_isWord (sz : Nat) (T : tT)  (x0 : Int64) : Prop := okl_X9_isWord fu sz T x0 (0 : Int32) (56 : Int32)
set_option maxRecDepth 10000 in
theorem c_X9_isWord {d L sz : Nat} {T : tT} (hsz : 161 ≤ sz) (x0 : Int64) (ok : ok_X9_isWord sz T x0) : tiK (d + 1) mX9_isWord [.long x0] L sz T (fun r T' => r = v_X9_isWord T x0 ∧ T = T') := by
  refine k_X9_isWord hsz  x0 (fun X hX hR => ?_)
  unfold ok_X9_isWord at ok
  exact lj_X9_isWord hX hsz  hR _ _ x0 (0 : Int32) (56 : Int32) ok ⟨by unfold v_X9_isWord; rfl, rfl⟩
noncomputable def vl_X9_kindOf : Nat → tT → Int64 → Int32 → Int32
  | 0, T, v0, v2 => 0
  | n + 1, T, v0, v2 => (if (nI 15) ≤ v2 then (3 : Int32) else (if (T.2.1 1 (v2.toNatClampNeg)) = v0 then ((200 : Int32) + v2) else vl_X9_kindOf n T v0 (v2 + (1 : Int32))))
noncomputable def okl_X9_kindOf : Nat → Nat → tT → Int64 → Int32 → Prop
  | 0, _, T, v0, v2 => False
  | n + 1, sz, T, v0, v2 => (((nI 15) ≤ v2 → True) ∧ (¬ (nI 15) ≤ v2 → (vp_in v2 15 ∧ ((¬ (T.2.1 1 (v2.toNatClampNeg)) = v0 → okl_X9_kindOf n sz T v0 (v2 + (1 : Int32))) ∧ ((T.2.1 1 (v2.toNatClampNeg)) = v0 → True)))))
theorem vl_X9_kindOf_s (n : Nat) (T : tT)  (v0 : Int64) (v2 : Int32) : vl_X9_kindOf (n + 1) T v0 v2 = (if (nI 15) ≤ v2 then (3 : Int32) else (if (T.2.1 1 (v2.toNatClampNeg)) = v0 then ((200 : Int32) + v2) else vl_X9_kindOf n T v0 (v2 + (1 : Int32)))) := rfl
set_option maxRecDepth 10000 in
theorem lj_X9_kindOf {X : ax_X} {d L sz : Nat} {Q : Int32 → tT → Prop} (hX : ax_ok X mX9_kindOf d) (hsz : 161 ≤ sz) (hR : ax_Ret X mX9_kindOf (ti L sz Q)) : ∀ (n : Nat) (T : tT) (v0 : Int64) (v2 : Int32), okl_X9_kindOf n sz T v0 v2 → Q (vl_X9_kindOf n T v0 v2) T → ax_j X 2 [some (.long v0), none, some (.int v2)] [] (th L sz T) 0 0 := by
  intro n
  induction n with
  | zero => intro T v0 v2 ok; exact False.elim ok
  | succ n ih =>
    intro T v0 v2 ok hq
    refine s_X9_kindOf_2 hX hR hsz  v0 v2 ?_
    unfold okl_X9_kindOf at ok
    refine ⟨fun kq0 => ?_, fun kq0 => ?_⟩
    · replace ok := ok.1 kq0
      have z := hq; rw [vl_X9_kindOf_s, if_pos kq0] at z; exact z
    · replace ok := ok.2 kq0
      refine ⟨ok.1, ?_⟩
      replace ok := ok.2
      refine ⟨fun kq1 => ?_, fun kq1 => ?_⟩
      · replace ok := ok.1 kq1
        have z := hq; rw [vl_X9_kindOf_s, if_neg kq0, if_neg kq1] at z; exact ih _ v0 (v2 + (1 : Int32)) ok z
      · replace ok := ok.2 kq1
        have z := hq; rw [vl_X9_kindOf_s, if_neg kq0, if_pos kq1] at z; exact z
noncomputable def v_X9_kindOf (T : tT)  (x0 : Int64) : Int32 := vl_X9_kindOf fu T x0 (0 : Int32)
noncomputable def ok_X9_kindOf (sz : Nat) (T : tT)  (x0 : Int64) : Prop := okl_X9_kindOf fu sz T x0 (0 : Int32)
set_option maxRecDepth 10000 in
theorem c_X9_kindOf {d L sz : Nat} {T : tT} (hsz : 161 ≤ sz) (x0 : Int64) (ok : ok_X9_kindOf sz T x0) : tiK d mX9_kindOf [.long x0] L sz T (fun r T' => r = v_X9_kindOf T x0 ∧ T = T') := by
  refine k_X9_kindOf hsz  x0 (fun X hX hR => ?_)
  unfold ok_X9_kindOf at ok
  exact lj_X9_kindOf hX hsz  hR _ _ x0 (0 : Int32) ok ⟨by unfold v_X9_kindOf; rfl, rfl⟩
noncomputable def vl_X9_readNumber : Nat → tT → tT
  | 0, T => T
  | n + 1, T => (if (T.1 4 1) ≤ (T.1 4 6) then (if (6 : Int32) < ((T.1 4 6) - (T.1 4 3)) then (tI T 4 2 (1 : Int32)) else (if (v_X9_isLetter T (v_X9_byteAt T (T.1 4 6))) = 0 then (tI T 4 2 (2 : Int32)) else (tI T 4 2 (1 : Int32)))) else (if (v_X9_isDigit T (v_X9_byteAt T (T.1 4 6))) = 0 then (if (6 : Int32) < ((T.1 4 6) - (T.1 4 3)) then (tI T 4 2 (1 : Int32)) else (if (v_X9_isLetter T (v_X9_byteAt T (T.1 4 6))) = 0 then (tI T 4 2 (2 : Int32)) else (tI T 4 2 (1 : Int32)))) else vl_X9_readNumber n (tI (tI T 4 4 ((((T.1 4 4) * (10 : Int32)) + (v_X9_byteAt T (T.1 4 6))) - (48 : Int32))) 4 6 ((T.1 4 6) + (1 : Int32)))))
noncomputable def okl_X9_readNumber : Nat → Nat → tT → Prop
  | 0, _, T => False
  | n + 1, sz, T => (((T.1 4 1) ≤ (T.1 4 6) → (((6 : Int32) < ((T.1 4 6) - (T.1 4 3)) → True) ∧ (¬ (6 : Int32) < ((T.1 4 6) - (T.1 4 3)) → (ok_X9_byteAt sz T (T.1 4 6) ∧ True)))) ∧ (¬ (T.1 4 1) ≤ (T.1 4 6) → (ok_X9_byteAt sz T (T.1 4 6) ∧ (((v_X9_isDigit T (v_X9_byteAt T (T.1 4 6))) = 0 → (((6 : Int32) < ((T.1 4 6) - (T.1 4 3)) → True) ∧ (¬ (6 : Int32) < ((T.1 4 6) - (T.1 4 3)) → (ok_X9_byteAt sz T (T.1 4 6) ∧ True)))) ∧ (¬ (v_X9_isDigit T (v_X9_byteAt T (T.1 4 6))) = 0 → (ok_X9_byteAt sz T (T.1 4 6) ∧ okl_X9_readNumber n sz (tI (tI T 4 4 ((((T.1 4 4) * (10 : Int32)) + (v_X9_byteAt T (T.1 4 6))) - (48 : Int32))) 4 6 ((T.1 4 6) + (1 : Int32)))))))))
theorem vl_X9_readNumber_s (n : Nat) (T : tT)   : vl_X9_readNumber (n + 1) T = (if (T.1 4 1) ≤ (T.1 4 6) then (if (6 : Int32) < ((T.1 4 6) - (T.1 4 3)) then (tI T 4 2 (1 : Int32)) else (if (v_X9_isLetter T (v_X9_byteAt T (T.1 4 6))) = 0 then (tI T 4 2 (2 : Int32)) else (tI T 4 2 (1 : Int32)))) else (if (v_X9_isDigit T (v_X9_byteAt T (T.1 4 6))) = 0 then (if (6 : Int32) < ((T.1 4 6) - (T.1 4 3)) then (tI T 4 2 (1 : Int32)) else (if (v_X9_isLetter T (v_X9_byteAt T (T.1 4 6))) = 0 then (tI T 4 2 (2 : Int32)) else (tI T 4 2 (1 : Int32)))) else vl_X9_readNumber n (tI (tI T 4 4 ((((T.1 4 4) * (10 : Int32)) + (v_X9_byteAt T (T.1 4 6))) - (48 : Int32))) 4 6 ((T.1 4 6) + (1 : Int32))))) := rfl
set_option maxRecDepth 10000 in
theorem lj_X9_readNumber {X : ax_X} {d L sz : Nat} {Q : tT → Prop} (hX : ax_ok X mX9_readNumber (d + 1)) (hsz : 161 ≤ sz) (hR : ax_Ret X mX9_readNumber (tv L sz Q)) : ∀ (n : Nat) (T : tT) , okl_X9_readNumber n sz T → Q (vl_X9_readNumber n T) → ax_j X 5 [some (.ref 4)] [] (th L sz T) 0 0 := by
  intro n
  induction n with
  | zero => intro T  ok; exact False.elim ok
  | succ n ih =>
    intro T  ok hq
    refine s_X9_readNumber_5 hX hR hsz   ?_
    unfold okl_X9_readNumber at ok
    refine ⟨fun kq0 => ?_, fun kq0 => ?_⟩
    · replace ok := ok.1 kq0
      refine ⟨fun kq1 => ?_, fun kq1 => ?_⟩
      · replace ok := ok.1 kq1
        have z := hq; rw [vl_X9_readNumber_s, if_pos kq0, if_pos kq1] at z; exact z
      · replace ok := ok.2 kq1
        refine ⟨_, c_X9_byteAt hsz  (T.1 4 6) ok.1, ?_⟩
        rintro _ _ ⟨rfl, rfl⟩
        replace ok := ok.2
        refine ⟨_, c_X9_isLetter hsz  (v_X9_byteAt T (T.1 4 6)) , ?_⟩
        rintro _ _ ⟨rfl, rfl⟩
        refine ⟨fun kq2 => ?_, fun kq2 => ?_⟩
        · have z := hq; rw [vl_X9_readNumber_s, if_pos kq0, if_neg kq1, if_pos kq2] at z; exact z
        · have z := hq; rw [vl_X9_readNumber_s, if_pos kq0, if_neg kq1, if_neg kq2] at z; exact z
    · replace ok := ok.2 kq0
      refine ⟨_, c_X9_byteAt hsz  (T.1 4 6) ok.1, ?_⟩
      rintro _ _ ⟨rfl, rfl⟩
      replace ok := ok.2
      refine ⟨_, c_X9_isDigit hsz  (v_X9_byteAt T (T.1 4 6)) , ?_⟩
      rintro _ _ ⟨rfl, rfl⟩
      refine ⟨fun kq1 => ?_, fun kq1 => ?_⟩
      · replace ok := ok.1 kq1
        refine ⟨fun kq2 => ?_, fun kq2 => ?_⟩
        · replace ok := ok.1 kq2
          have z := hq; rw [vl_X9_readNumber_s, if_neg kq0, if_pos kq1, if_pos kq2] at z; exact z
        · replace ok := ok.2 kq2
          refine ⟨_, c_X9_byteAt hsz  (T.1 4 6) ok.1, ?_⟩
          rintro _ _ ⟨rfl, rfl⟩
          replace ok := ok.2
          refine ⟨_, c_X9_isLetter hsz  (v_X9_byteAt T (T.1 4 6)) , ?_⟩
          rintro _ _ ⟨rfl, rfl⟩
          refine ⟨fun kq3 => ?_, fun kq3 => ?_⟩
          · have z := hq; rw [vl_X9_readNumber_s, if_neg kq0, if_pos kq1, if_neg kq2, if_pos kq3] at z; exact z
          · have z := hq; rw [vl_X9_readNumber_s, if_neg kq0, if_pos kq1, if_neg kq2, if_neg kq3] at z; exact z
      · replace ok := ok.2 kq1
        refine ⟨_, c_X9_byteAt hsz  (T.1 4 6) ok.1, ?_⟩
        rintro _ _ ⟨rfl, rfl⟩
        replace ok := ok.2
        have z := hq; rw [vl_X9_readNumber_s, if_neg kq0, if_neg kq1] at z; exact ih _  ok z
noncomputable def F_X9_readNumber (T : tT)   : tT := vl_X9_readNumber fu (tI T 4 4 (0 : Int32))
noncomputable def ok_X9_readNumber (sz : Nat) (T : tT)   : Prop := okl_X9_readNumber fu sz (tI T 4 4 (0 : Int32))
set_option maxRecDepth 10000 in
theorem c_X9_readNumber {d L sz : Nat} {T : tT} (hsz : 161 ≤ sz)  (ok : ok_X9_readNumber sz T) : tvK (d + 1) mX9_readNumber [.ref 4] L sz T (fun T' => T' = F_X9_readNumber T) := by
  refine k_X9_readNumber hsz   (fun X hX hR => ?_)
  unfold ok_X9_readNumber at ok
  exact lj_X9_readNumber hX hsz  hR _ _  ok (by unfold F_X9_readNumber; rfl)
noncomputable def vl_X9_readWord : Nat → tT → tT
  | 0, T => T
  | n + 1, T => (if (T.1 4 1) ≤ (T.1 4 6) then (if ((T.1 4 6) - (T.1 4 3)) ≤ (8 : Int32) then (tI T 4 2 (v_X9_kindOf T (T.2.1 4 5))) else (tI T 4 2 (1 : Int32))) else (if (v_X9_isLetterOrDigit T (v_X9_byteAt T (T.1 4 6))) = 0 then (if ((T.1 4 6) - (T.1 4 3)) ≤ (8 : Int32) then (tI T 4 2 (v_X9_kindOf T (T.2.1 4 5))) else (tI T 4 2 (1 : Int32))) else vl_X9_readWord n (tI (tJ T 4 5 (((T.2.1 4 5) <<< ((8 : Int32).toInt64 &&& 63)) ||| (v_X9_byteAt T (T.1 4 6)).toInt64)) 4 6 ((T.1 4 6) + (1 : Int32)))))
noncomputable def okl_X9_readWord : Nat → Nat → tT → Prop
  | 0, _, T => False
  | n + 1, sz, T => (((T.1 4 1) ≤ (T.1 4 6) → ((((T.1 4 6) - (T.1 4 3)) ≤ (8 : Int32) → (ok_X9_kindOf sz T (T.2.1 4 5) ∧ True)) ∧ (¬ ((T.1 4 6) - (T.1 4 3)) ≤ (8 : Int32) → True))) ∧ (¬ (T.1 4 1) ≤ (T.1 4 6) → (ok_X9_byteAt sz T (T.1 4 6) ∧ (((v_X9_isLetterOrDigit T (v_X9_byteAt T (T.1 4 6))) = 0 → ((((T.1 4 6) - (T.1 4 3)) ≤ (8 : Int32) → (ok_X9_kindOf sz T (T.2.1 4 5) ∧ True)) ∧ (¬ ((T.1 4 6) - (T.1 4 3)) ≤ (8 : Int32) → True))) ∧ (¬ (v_X9_isLetterOrDigit T (v_X9_byteAt T (T.1 4 6))) = 0 → (ok_X9_byteAt sz T (T.1 4 6) ∧ okl_X9_readWord n sz (tI (tJ T 4 5 (((T.2.1 4 5) <<< ((8 : Int32).toInt64 &&& 63)) ||| (v_X9_byteAt T (T.1 4 6)).toInt64)) 4 6 ((T.1 4 6) + (1 : Int32)))))))))
theorem vl_X9_readWord_s (n : Nat) (T : tT)   : vl_X9_readWord (n + 1) T = (if (T.1 4 1) ≤ (T.1 4 6) then (if ((T.1 4 6) - (T.1 4 3)) ≤ (8 : Int32) then (tI T 4 2 (v_X9_kindOf T (T.2.1 4 5))) else (tI T 4 2 (1 : Int32))) else (if (v_X9_isLetterOrDigit T (v_X9_byteAt T (T.1 4 6))) = 0 then (if ((T.1 4 6) - (T.1 4 3)) ≤ (8 : Int32) then (tI T 4 2 (v_X9_kindOf T (T.2.1 4 5))) else (tI T 4 2 (1 : Int32))) else vl_X9_readWord n (tI (tJ T 4 5 (((T.2.1 4 5) <<< ((8 : Int32).toInt64 &&& 63)) ||| (v_X9_byteAt T (T.1 4 6)).toInt64)) 4 6 ((T.1 4 6) + (1 : Int32))))) := rfl
set_option maxRecDepth 10000 in
theorem lj_X9_readWord {X : ax_X} {d L sz : Nat} {Q : tT → Prop} (hX : ax_ok X mX9_readWord (d + 1)) (hsz : 161 ≤ sz) (hR : ax_Ret X mX9_readWord (tv L sz Q)) : ∀ (n : Nat) (T : tT) , okl_X9_readWord n sz T → Q (vl_X9_readWord n T) → ax_j X 5 [some (.ref 4)] [] (th L sz T) 0 0 := by
  intro n
  induction n with
  | zero => intro T  ok; exact False.elim ok
  | succ n ih =>
    intro T  ok hq
    refine s_X9_readWord_5 hX hR hsz   ?_
    unfold okl_X9_readWord at ok
    refine ⟨fun kq0 => ?_, fun kq0 => ?_⟩
    · replace ok := ok.1 kq0
      refine ⟨fun kq1 => ?_, fun kq1 => ?_⟩
      · replace ok := ok.1 kq1
        refine ⟨_, c_X9_kindOf hsz  (T.2.1 4 5) ok.1, ?_⟩
        rintro _ _ ⟨rfl, rfl⟩
        replace ok := ok.2
        have z := hq; rw [vl_X9_readWord_s, if_pos kq0, if_pos kq1] at z; exact z
      · replace ok := ok.2 kq1
        have z := hq; rw [vl_X9_readWord_s, if_pos kq0, if_neg kq1] at z; exact z
    · replace ok := ok.2 kq0
      refine ⟨_, c_X9_byteAt hsz  (T.1 4 6) ok.1, ?_⟩
      rintro _ _ ⟨rfl, rfl⟩
      replace ok := ok.2
      refine ⟨_, c_X9_isLetterOrDigit hsz  (v_X9_byteAt T (T.1 4 6)) , ?_⟩
      rintro _ _ ⟨rfl, rfl⟩
      refine ⟨fun kq1 => ?_, fun kq1 => ?_⟩
      · replace ok := ok.1 kq1
        refine ⟨fun kq2 => ?_, fun kq2 => ?_⟩
        · replace ok := ok.1 kq2
          refine ⟨_, c_X9_kindOf hsz  (T.2.1 4 5) ok.1, ?_⟩
          rintro _ _ ⟨rfl, rfl⟩
          replace ok := ok.2
          have z := hq; rw [vl_X9_readWord_s, if_neg kq0, if_pos kq1, if_pos kq2] at z; exact z
        · replace ok := ok.2 kq2
          have z := hq; rw [vl_X9_readWord_s, if_neg kq0, if_pos kq1, if_neg kq2] at z; exact z
      · replace ok := ok.2 kq1
        refine ⟨_, c_X9_byteAt hsz  (T.1 4 6) ok.1, ?_⟩
        rintro _ _ ⟨rfl, rfl⟩
        replace ok := ok.2
        have z := hq; rw [vl_X9_readWord_s, if_neg kq0, if_neg kq1] at z; exact ih _  ok z
noncomputable def F_X9_readWord (T : tT)   : tT := vl_X9_readWord fu (tJ T 4 5 (0 : Int64))
noncomputable def ok_X9_readWord (sz : Nat) (T : tT)   : Prop := okl_X9_readWord fu sz (tJ T 4 5 (0 : Int64))
set_option maxRecDepth 10000 in
theorem c_X9_readWord {d L sz : Nat} {T : tT} (hsz : 161 ≤ sz)  (ok : ok_X9_readWord sz T) : tvK (d + 1) mX9_readWord [.ref 4] L sz T (fun T' => T' = F_X9_readWord T) := by
  refine k_X9_readWord hsz   (fun X hX hR => ?_)
  unfold ok_X9_readWord at ok
  exact lj_X9_readWord hX hsz  hR _ _  ok (by unfold F_X9_readWord; rfl)
noncomputable def vl_X10_heardElsewhere : Nat → tT → Int32 → Int32 → Int32 → Int32
  | 0, T, v1, v2, v3 => 0
  | n + 1, T, v1, v2, v3 => (if (T.1 93 1) ≤ v3 then (0 : Int32) else (if (T.1 95 (v3.toNatClampNeg)) = v1 then (if (v_X5_stands T v3) = 0 then vl_X10_heardElsewhere n T v1 v2 (v3 + (1 : Int32)) else (if (T.1 94 (v3.toNatClampNeg)) = v2 then vl_X10_heardElsewhere n T v1 v2 (v3 + (1 : Int32)) else (if (T.1 70 (T.1 94 (v3.toNatClampNeg)).toNatClampNeg) = (T.1 70 (v2.toNatClampNeg)) then (1 : Int32) else vl_X10_heardElsewhere n T v1 v2 (v3 + (1 : Int32))))) else vl_X10_heardElsewhere n T v1 v2 (v3 + (1 : Int32))))
noncomputable def okl_X10_heardElsewhere : Nat → Nat → tT → Int32 → Int32 → Int32 → Prop
  | 0, _, T, v1, v2, v3 => False
  | n + 1, sz, T, v1, v2, v3 => (((T.1 93 1) ≤ v3 → True) ∧ (¬ (T.1 93 1) ≤ v3 → (vp_in v3 200 ∧ (vp_in v3 200 ∧ ((¬ (T.1 95 (v3.toNatClampNeg)) = v1 → okl_X10_heardElsewhere n sz T v1 v2 (v3 + (1 : Int32))) ∧ ((T.1 95 (v3.toNatClampNeg)) = v1 → (ok_X5_stands sz T v3 ∧ (((v_X5_stands T v3) = 0 → okl_X10_heardElsewhere n sz T v1 v2 (v3 + (1 : Int32))) ∧ (¬ (v_X5_stands T v3) = 0 → (((T.1 94 (v3.toNatClampNeg)) = v2 → okl_X10_heardElsewhere n sz T v1 v2 (v3 + (1 : Int32))) ∧ (¬ (T.1 94 (v3.toNatClampNeg)) = v2 → (vp_in (T.1 94 (v3.toNatClampNeg)) 40 ∧ (vp_in v2 40 ∧ ((¬ (T.1 70 (T.1 94 (v3.toNatClampNeg)).toNatClampNeg) = (T.1 70 (v2.toNatClampNeg)) → okl_X10_heardElsewhere n sz T v1 v2 (v3 + (1 : Int32))) ∧ ((T.1 70 (T.1 94 (v3.toNatClampNeg)).toNatClampNeg) = (T.1 70 (v2.toNatClampNeg)) → True)))))))))))))))
theorem vl_X10_heardElsewhere_s (n : Nat) (T : tT)  (v1 : Int32) (v2 : Int32) (v3 : Int32) : vl_X10_heardElsewhere (n + 1) T v1 v2 v3 = (if (T.1 93 1) ≤ v3 then (0 : Int32) else (if (T.1 95 (v3.toNatClampNeg)) = v1 then (if (v_X5_stands T v3) = 0 then vl_X10_heardElsewhere n T v1 v2 (v3 + (1 : Int32)) else (if (T.1 94 (v3.toNatClampNeg)) = v2 then vl_X10_heardElsewhere n T v1 v2 (v3 + (1 : Int32)) else (if (T.1 70 (T.1 94 (v3.toNatClampNeg)).toNatClampNeg) = (T.1 70 (v2.toNatClampNeg)) then (1 : Int32) else vl_X10_heardElsewhere n T v1 v2 (v3 + (1 : Int32))))) else vl_X10_heardElsewhere n T v1 v2 (v3 + (1 : Int32)))) := rfl
set_option maxRecDepth 10000 in
theorem lj_X10_heardElsewhere {X : ax_X} {d L sz : Nat} {Q : Int32 → tT → Prop} (hX : ax_ok X mX10_heardElsewhere (d + 1)) (hsz : 161 ≤ sz) (hR : ax_Ret X mX10_heardElsewhere (ti L sz Q)) : ∀ (n : Nat) (T : tT) (v1 : Int32) (v2 : Int32) (v3 : Int32), okl_X10_heardElsewhere n sz T v1 v2 v3 → Q (vl_X10_heardElsewhere n T v1 v2 v3) T → ax_j X 2 [some (.ref 2), some (.int v1), some (.int v2), some (.int v3), none] [] (th L sz T) 0 0 := by
  intro n
  induction n with
  | zero => intro T v1 v2 v3 ok; exact False.elim ok
  | succ n ih =>
    intro T v1 v2 v3 ok hq
    refine s_X10_heardElsewhere_2 hX hR hsz  v1 v2 v3 ?_
    unfold okl_X10_heardElsewhere at ok
    refine ⟨fun kq0 => ?_, fun kq0 => ?_⟩
    · replace ok := ok.1 kq0
      have z := hq; rw [vl_X10_heardElsewhere_s, if_pos kq0] at z; exact z
    · replace ok := ok.2 kq0
      refine ⟨ok.1, ?_⟩
      replace ok := ok.2
      refine ⟨ok.1, ?_⟩
      replace ok := ok.2
      refine ⟨fun kq1 => ?_, fun kq1 => ?_⟩
      · replace ok := ok.1 kq1
        have z := hq; rw [vl_X10_heardElsewhere_s, if_neg kq0, if_neg kq1] at z; exact ih _ v1 v2 (v3 + (1 : Int32)) ok z
      · replace ok := ok.2 kq1
        refine ⟨_, c_X5_stands hsz  v3 ok.1, ?_⟩
        rintro _ _ ⟨rfl, rfl⟩
        replace ok := ok.2
        refine ⟨fun kq2 => ?_, fun kq2 => ?_⟩
        · replace ok := ok.1 kq2
          have z := hq; rw [vl_X10_heardElsewhere_s, if_neg kq0, if_pos kq1, if_pos kq2] at z; exact ih _ v1 v2 (v3 + (1 : Int32)) ok z
        · replace ok := ok.2 kq2
          refine ⟨fun kq3 => ?_, fun kq3 => ?_⟩
          · replace ok := ok.1 kq3
            have z := hq; rw [vl_X10_heardElsewhere_s, if_neg kq0, if_pos kq1, if_neg kq2, if_pos kq3] at z; exact ih _ v1 v2 (v3 + (1 : Int32)) ok z
          · replace ok := ok.2 kq3
            refine ⟨ok.1, ?_⟩
            replace ok := ok.2
            refine ⟨ok.1, ?_⟩
            replace ok := ok.2
            refine ⟨fun kq4 => ?_, fun kq4 => ?_⟩
            · replace ok := ok.1 kq4
              have z := hq; rw [vl_X10_heardElsewhere_s, if_neg kq0, if_pos kq1, if_neg kq2, if_neg kq3, if_neg kq4] at z; exact ih _ v1 v2 (v3 + (1 : Int32)) ok z
            · replace ok := ok.2 kq4
              have z := hq; rw [vl_X10_heardElsewhere_s, if_neg kq0, if_pos kq1, if_neg kq2, if_neg kq3, if_pos kq4] at z; exact z
noncomputable def v_X10_heardElsewhere (T : tT)  (x0 : Int32) (x1 : Int32) : Int32 := vl_X10_heardElsewhere fu T x0 x1 (0 : Int32)
noncomputable def ok_X10_heardElsewhere (sz : Nat) (T : tT)  (x0 : Int32) (x1 : Int32) : Prop := okl_X10_heardElsewhere fu sz T x0 x1 (0 : Int32)
set_option maxRecDepth 10000 in
theorem c_X10_heardElsewhere {d L sz : Nat} {T : tT} (hsz : 161 ≤ sz) (x0 : Int32) (x1 : Int32) (ok : ok_X10_heardElsewhere sz T x0 x1) : tiK (d + 1) mX10_heardElsewhere [.ref 2, .int x0, .int x1] L sz T (fun r T' => r = v_X10_heardElsewhere T x0 x1 ∧ T = T') := by
  refine k_X10_heardElsewhere hsz  x0 x1 (fun X hX hR => ?_)
  unfold ok_X10_heardElsewhere at ok
  exact lj_X10_heardElsewhere hX hsz  hR _ _ x0 x1 (0 : Int32) ok ⟨by unfold v_X10_heardElsewhere; rfl, rfl⟩
noncomputable def vl_X10_minutesWith : Nat → tT → Int32 → Int32 → Int32 → Int32 → Int32
  | 0, T, v1, v2, v3, v4 => 0
  | n + 1, T, v1, v2, v3, v4 => (if (T.1 69 0) ≤ v4 then v3 else (if (T.1 76 (v4.toNatClampNeg)) = v1 then vl_X10_minutesWith n T v1 v2 (v3 + (v_X10_minutesOf T v4)) (v4 + (1 : Int32)) else (if v4 = v2 then vl_X10_minutesWith n T v1 v2 (v3 + (v_X10_minutesOf T v4)) (v4 + (1 : Int32)) else vl_X10_minutesWith n T v1 v2 v3 (v4 + (1 : Int32)))))
noncomputable def okl_X10_minutesWith : Nat → Nat → tT → Int32 → Int32 → Int32 → Int32 → Prop
  | 0, _, T, v1, v2, v3, v4 => False
  | n + 1, sz, T, v1, v2, v3, v4 => (((T.1 69 0) ≤ v4 → True) ∧ (¬ (T.1 69 0) ≤ v4 → (vp_in v4 40 ∧ (((T.1 76 (v4.toNatClampNeg)) = v1 → (ok_X10_minutesOf sz T v4 ∧ okl_X10_minutesWith n sz T v1 v2 (v3 + (v_X10_minutesOf T v4)) (v4 + (1 : Int32)))) ∧ (¬ (T.1 76 (v4.toNatClampNeg)) = v1 → ((¬ v4 = v2 → okl_X10_minutesWith n sz T v1 v2 v3 (v4 + (1 : Int32))) ∧ (v4 = v2 → (ok_X10_minutesOf sz T v4 ∧ okl_X10_minutesWith n sz T v1 v2 (v3 + (v_X10_minutesOf T v4)) (v4 + (1 : Int32))))))))))
theorem vl_X10_minutesWith_s (n : Nat) (T : tT)  (v1 : Int32) (v2 : Int32) (v3 : Int32) (v4 : Int32) : vl_X10_minutesWith (n + 1) T v1 v2 v3 v4 = (if (T.1 69 0) ≤ v4 then v3 else (if (T.1 76 (v4.toNatClampNeg)) = v1 then vl_X10_minutesWith n T v1 v2 (v3 + (v_X10_minutesOf T v4)) (v4 + (1 : Int32)) else (if v4 = v2 then vl_X10_minutesWith n T v1 v2 (v3 + (v_X10_minutesOf T v4)) (v4 + (1 : Int32)) else vl_X10_minutesWith n T v1 v2 v3 (v4 + (1 : Int32))))) := rfl
set_option maxRecDepth 10000 in
theorem lj_X10_minutesWith {X : ax_X} {d L sz : Nat} {Q : Int32 → tT → Prop} (hX : ax_ok X mX10_minutesWith (d + 4)) (hsz : 161 ≤ sz) (hR : ax_Ret X mX10_minutesWith (ti L sz Q)) : ∀ (n : Nat) (T : tT) (v1 : Int32) (v2 : Int32) (v3 : Int32) (v4 : Int32), okl_X10_minutesWith n sz T v1 v2 v3 v4 → Q (vl_X10_minutesWith n T v1 v2 v3 v4) T → ax_j X 5 [some (.ref 2), some (.int v1), some (.int v2), some (.int v3), some (.int v4)] [] (th L sz T) 0 0 := by
  intro n
  induction n with
  | zero => intro T v1 v2 v3 v4 ok; exact False.elim ok
  | succ n ih =>
    intro T v1 v2 v3 v4 ok hq
    refine s_X10_minutesWith_5 hX hR hsz  v1 v2 v3 v4 ?_
    unfold okl_X10_minutesWith at ok
    refine ⟨fun kq0 => ?_, fun kq0 => ?_⟩
    · replace ok := ok.1 kq0
      have z := hq; rw [vl_X10_minutesWith_s, if_pos kq0] at z; exact z
    · replace ok := ok.2 kq0
      refine ⟨ok.1, ?_⟩
      replace ok := ok.2
      refine ⟨fun kq1 => ?_, fun kq1 => ?_⟩
      · replace ok := ok.1 kq1
        refine ⟨_, c_X10_minutesOf hsz  v4 ok.1, ?_⟩
        rintro _ _ ⟨rfl, rfl⟩
        replace ok := ok.2
        have z := hq; rw [vl_X10_minutesWith_s, if_neg kq0, if_pos kq1] at z; exact ih _ v1 v2 (v3 + (v_X10_minutesOf T v4)) (v4 + (1 : Int32)) ok z
      · replace ok := ok.2 kq1
        refine ⟨fun kq2 => ?_, fun kq2 => ?_⟩
        · replace ok := ok.1 kq2
          have z := hq; rw [vl_X10_minutesWith_s, if_neg kq0, if_neg kq1, if_neg kq2] at z; exact ih _ v1 v2 v3 (v4 + (1 : Int32)) ok z
        · replace ok := ok.2 kq2
          refine ⟨_, c_X10_minutesOf hsz  v4 ok.1, ?_⟩
          rintro _ _ ⟨rfl, rfl⟩
          replace ok := ok.2
          have z := hq; rw [vl_X10_minutesWith_s, if_neg kq0, if_neg kq1, if_pos kq2] at z; exact ih _ v1 v2 (v3 + (v_X10_minutesOf T v4)) (v4 + (1 : Int32)) ok z
noncomputable def v_X10_minutesWith (T : tT)  (x0 : Int32) (x1 : Int32) : Int32 := vl_X10_minutesWith fu T x0 x1 (0 : Int32) (0 : Int32)
noncomputable def ok_X10_minutesWith (sz : Nat) (T : tT)  (x0 : Int32) (x1 : Int32) : Prop := okl_X10_minutesWith fu sz T x0 x1 (0 : Int32) (0 : Int32)
set_option maxRecDepth 10000 in
theorem c_X10_minutesWith {d L sz : Nat} {T : tT} (hsz : 161 ≤ sz) (x0 : Int32) (x1 : Int32) (ok : ok_X10_minutesWith sz T x0 x1) : tiK (d + 4) mX10_minutesWith [.ref 2, .int x0, .int x1] L sz T (fun r T' => r = v_X10_minutesWith T x0 x1 ∧ T = T') := by
  refine k_X10_minutesWith hsz  x0 x1 (fun X hX hR => ?_)
  unfold ok_X10_minutesWith at ok
  exact lj_X10_minutesWith hX hsz  hR _ _ x0 x1 (0 : Int32) (0 : Int32) ok ⟨by unfold v_X10_minutesWith; rfl, rfl⟩
noncomputable def vl_X11_agrees : Nat → tT → Int32 → Int32 → Int32 → Int32
  | 0, T, v1, v2, v3 => 0
  | n + 1, T, v1, v2, v3 => (if (T.1 105 58) ≤ v3 then (1 : Int32) else (if (T.1 149 (v3.toNatClampNeg)) < 0 then vl_X11_agrees n T v1 v2 (v3 + (1 : Int32)) else (if (T.1 149 (v3.toNatClampNeg)) = v1 then (if ((v2 >>> (v3 &&& 31)) &&& (1 : Int32)) = (1 : Int32) then vl_X11_agrees n T v1 v2 (v3 + (1 : Int32)) else (0 : Int32)) else (if ((v2 >>> (v3 &&& 31)) &&& (1 : Int32)) = (1 : Int32) then (0 : Int32) else vl_X11_agrees n T v1 v2 (v3 + (1 : Int32))))))
noncomputable def okl_X11_agrees : Nat → Nat → tT → Int32 → Int32 → Int32 → Prop
  | 0, _, T, v1, v2, v3 => False
  | n + 1, sz, T, v1, v2, v3 => (((T.1 105 58) ≤ v3 → True) ∧ (¬ (T.1 105 58) ≤ v3 → (vp_in v3 9 ∧ (((T.1 149 (v3.toNatClampNeg)) < 0 → okl_X11_agrees n sz T v1 v2 (v3 + (1 : Int32))) ∧ (¬ (T.1 149 (v3.toNatClampNeg)) < 0 → (vp_in v3 9 ∧ ((¬ (T.1 149 (v3.toNatClampNeg)) = v1 → ((¬ ((v2 >>> (v3 &&& 31)) &&& (1 : Int32)) = (1 : Int32) → okl_X11_agrees n sz T v1 v2 (v3 + (1 : Int32))) ∧ (((v2 >>> (v3 &&& 31)) &&& (1 : Int32)) = (1 : Int32) → True))) ∧ ((T.1 149 (v3.toNatClampNeg)) = v1 → ((¬ ((v2 >>> (v3 &&& 31)) &&& (1 : Int32)) = (1 : Int32) → True) ∧ (((v2 >>> (v3 &&& 31)) &&& (1 : Int32)) = (1 : Int32) → okl_X11_agrees n sz T v1 v2 (v3 + (1 : Int32))))))))))))
theorem vl_X11_agrees_s (n : Nat) (T : tT)  (v1 : Int32) (v2 : Int32) (v3 : Int32) : vl_X11_agrees (n + 1) T v1 v2 v3 = (if (T.1 105 58) ≤ v3 then (1 : Int32) else (if (T.1 149 (v3.toNatClampNeg)) < 0 then vl_X11_agrees n T v1 v2 (v3 + (1 : Int32)) else (if (T.1 149 (v3.toNatClampNeg)) = v1 then (if ((v2 >>> (v3 &&& 31)) &&& (1 : Int32)) = (1 : Int32) then vl_X11_agrees n T v1 v2 (v3 + (1 : Int32)) else (0 : Int32)) else (if ((v2 >>> (v3 &&& 31)) &&& (1 : Int32)) = (1 : Int32) then (0 : Int32) else vl_X11_agrees n T v1 v2 (v3 + (1 : Int32)))))) := rfl
set_option maxRecDepth 10000 in
theorem lj_X11_agrees {X : ax_X} {d L sz : Nat} {Q : Int32 → tT → Prop} (hX : ax_ok X mX11_agrees d) (hsz : 161 ≤ sz) (hR : ax_Ret X mX11_agrees (ti L sz Q)) : ∀ (n : Nat) (T : tT) (v1 : Int32) (v2 : Int32) (v3 : Int32), okl_X11_agrees n sz T v1 v2 v3 → Q (vl_X11_agrees n T v1 v2 v3) T → ax_j X 2 [some (.ref 105), some (.int v1), some (.int v2), some (.int v3)] [] (th L sz T) 0 0 := by
  intro n
  induction n with
  | zero => intro T v1 v2 v3 ok; exact False.elim ok
  | succ n ih =>
    intro T v1 v2 v3 ok hq
    refine s_X11_agrees_2 hX hR hsz  v1 v2 v3 ?_
    unfold okl_X11_agrees at ok
    refine ⟨fun kq0 => ?_, fun kq0 => ?_⟩
    · replace ok := ok.1 kq0
      have z := hq; rw [vl_X11_agrees_s, if_pos kq0] at z; exact z
    · replace ok := ok.2 kq0
      refine ⟨ok.1, ?_⟩
      replace ok := ok.2
      refine ⟨fun kq1 => ?_, fun kq1 => ?_⟩
      · replace ok := ok.1 kq1
        have z := hq; rw [vl_X11_agrees_s, if_neg kq0, if_pos kq1] at z; exact ih _ v1 v2 (v3 + (1 : Int32)) ok z
      · replace ok := ok.2 kq1
        refine ⟨ok.1, ?_⟩
        replace ok := ok.2
        refine ⟨fun kq2 => ?_, fun kq2 => ?_⟩
        · replace ok := ok.1 kq2
          refine ⟨fun kq3 => ?_, fun kq3 => ?_⟩
          · replace ok := ok.1 kq3
            have z := hq; rw [vl_X11_agrees_s, if_neg kq0, if_neg kq1, if_neg kq2, if_neg kq3] at z; exact ih _ v1 v2 (v3 + (1 : Int32)) ok z
          · replace ok := ok.2 kq3
            have z := hq; rw [vl_X11_agrees_s, if_neg kq0, if_neg kq1, if_neg kq2, if_pos kq3] at z; exact z
        · replace ok := ok.2 kq2
          refine ⟨fun kq3 => ?_, fun kq3 => ?_⟩
          · replace ok := ok.1 kq3
            have z := hq; rw [vl_X11_agrees_s, if_neg kq0, if_neg kq1, if_pos kq2, if_neg kq3] at z; exact z
          · replace ok := ok.2 kq3
            have z := hq; rw [vl_X11_agrees_s, if_neg kq0, if_neg kq1, if_pos kq2, if_pos kq3] at z; exact ih _ v1 v2 (v3 + (1 : Int32)) ok z
noncomputable def v_X11_agrees (T : tT)  (x0 : Int32) (x1 : Int32) : Int32 := vl_X11_agrees fu T x0 x1 (0 : Int32)
noncomputable def ok_X11_agrees (sz : Nat) (T : tT)  (x0 : Int32) (x1 : Int32) : Prop := okl_X11_agrees fu sz T x0 x1 (0 : Int32)
set_option maxRecDepth 10000 in
theorem c_X11_agrees {d L sz : Nat} {T : tT} (hsz : 161 ≤ sz) (x0 : Int32) (x1 : Int32) (ok : ok_X11_agrees sz T x0 x1) : tiK d mX11_agrees [.ref 105, .int x0, .int x1] L sz T (fun r T' => r = v_X11_agrees T x0 x1 ∧ T = T') := by
  refine k_X11_agrees hsz  x0 x1 (fun X hX hR => ?_)
  unfold ok_X11_agrees at ok
  exact lj_X11_agrees hX hsz  hR _ _ x0 x1 (0 : Int32) ok ⟨by unfold v_X11_agrees; rfl, rfl⟩
noncomputable def vl_X11_feed : Nat → tT → Int32 → Int32 → Int32 → Int32 → Int32 → Int32 → Int32 × tT
  | 0, T, v1, v2, v3, v4, v5, v6 => (0, T)
  | n + 1, T, v1, v2, v3, v4, v5, v6 => (if (20 : Int32) ≤ v6 then (((T.1 105 2) + (20 : Int32)), (tI T 105 2 ((T.1 105 2) + (20 : Int32)))) else (if (4 : Int32) ≤ v6 then (if (8 : Int32) ≤ v6 then (if (12 : Int32) ≤ v6 then (if (16 : Int32) ≤ v6 then vl_X11_feed n (tI T 106 (((T.1 105 2) + v6).toNatClampNeg) ((v5 >>> (((24 : Int32) - ((8 : Int32) * (v6 &&& (3 : Int32)))) &&& 31)).toInt8.toInt32).toInt8.toInt32) v1 v2 v3 v4 v5 (v6 + (1 : Int32)) else vl_X11_feed n (tI T 106 (((T.1 105 2) + v6).toNatClampNeg) ((v4 >>> (((24 : Int32) - ((8 : Int32) * (v6 &&& (3 : Int32)))) &&& 31)).toInt8.toInt32).toInt8.toInt32) v1 v2 v3 v4 v5 (v6 + (1 : Int32))) else vl_X11_feed n (tI T 106 (((T.1 105 2) + v6).toNatClampNeg) ((v3 >>> (((24 : Int32) - ((8 : Int32) * (v6 &&& (3 : Int32)))) &&& 31)).toInt8.toInt32).toInt8.toInt32) v1 v2 v3 v4 v5 (v6 + (1 : Int32))) else vl_X11_feed n (tI T 106 (((T.1 105 2) + v6).toNatClampNeg) ((v2 >>> (((24 : Int32) - ((8 : Int32) * (v6 &&& (3 : Int32)))) &&& 31)).toInt8.toInt32).toInt8.toInt32) v1 v2 v3 v4 v5 (v6 + (1 : Int32))) else vl_X11_feed n (tI T 106 (((T.1 105 2) + v6).toNatClampNeg) ((v1 >>> (((24 : Int32) - ((8 : Int32) * (v6 &&& (3 : Int32)))) &&& 31)).toInt8.toInt32).toInt8.toInt32) v1 v2 v3 v4 v5 (v6 + (1 : Int32))))
noncomputable def okl_X11_feed : Nat → Nat → tT → Int32 → Int32 → Int32 → Int32 → Int32 → Int32 → Prop
  | 0, _, T, v1, v2, v3, v4, v5, v6 => False
  | n + 1, sz, T, v1, v2, v3, v4, v5, v6 => (((20 : Int32) ≤ v6 → True) ∧ (¬ (20 : Int32) ≤ v6 → (((4 : Int32) ≤ v6 → (((8 : Int32) ≤ v6 → (((12 : Int32) ≤ v6 → (((16 : Int32) ≤ v6 → (vp_in ((T.1 105 2) + v6) 1420 ∧ okl_X11_feed n sz (tI T 106 (((T.1 105 2) + v6).toNatClampNeg) ((v5 >>> (((24 : Int32) - ((8 : Int32) * (v6 &&& (3 : Int32)))) &&& 31)).toInt8.toInt32).toInt8.toInt32) v1 v2 v3 v4 v5 (v6 + (1 : Int32)))) ∧ (¬ (16 : Int32) ≤ v6 → (vp_in ((T.1 105 2) + v6) 1420 ∧ okl_X11_feed n sz (tI T 106 (((T.1 105 2) + v6).toNatClampNeg) ((v4 >>> (((24 : Int32) - ((8 : Int32) * (v6 &&& (3 : Int32)))) &&& 31)).toInt8.toInt32).toInt8.toInt32) v1 v2 v3 v4 v5 (v6 + (1 : Int32)))))) ∧ (¬ (12 : Int32) ≤ v6 → (vp_in ((T.1 105 2) + v6) 1420 ∧ okl_X11_feed n sz (tI T 106 (((T.1 105 2) + v6).toNatClampNeg) ((v3 >>> (((24 : Int32) - ((8 : Int32) * (v6 &&& (3 : Int32)))) &&& 31)).toInt8.toInt32).toInt8.toInt32) v1 v2 v3 v4 v5 (v6 + (1 : Int32)))))) ∧ (¬ (8 : Int32) ≤ v6 → (vp_in ((T.1 105 2) + v6) 1420 ∧ okl_X11_feed n sz (tI T 106 (((T.1 105 2) + v6).toNatClampNeg) ((v2 >>> (((24 : Int32) - ((8 : Int32) * (v6 &&& (3 : Int32)))) &&& 31)).toInt8.toInt32).toInt8.toInt32) v1 v2 v3 v4 v5 (v6 + (1 : Int32)))))) ∧ (¬ (4 : Int32) ≤ v6 → (vp_in ((T.1 105 2) + v6) 1420 ∧ okl_X11_feed n sz (tI T 106 (((T.1 105 2) + v6).toNatClampNeg) ((v1 >>> (((24 : Int32) - ((8 : Int32) * (v6 &&& (3 : Int32)))) &&& 31)).toInt8.toInt32).toInt8.toInt32) v1 v2 v3 v4 v5 (v6 + (1 : Int32)))))))
theorem vl_X11_feed_s (n : Nat) (T : tT)  (v1 : Int32) (v2 : Int32) (v3 : Int32) (v4 : Int32) (v5 : Int32) (v6 : Int32) : vl_X11_feed (n + 1) T v1 v2 v3 v4 v5 v6 = (if (20 : Int32) ≤ v6 then (((T.1 105 2) + (20 : Int32)), (tI T 105 2 ((T.1 105 2) + (20 : Int32)))) else (if (4 : Int32) ≤ v6 then (if (8 : Int32) ≤ v6 then (if (12 : Int32) ≤ v6 then (if (16 : Int32) ≤ v6 then vl_X11_feed n (tI T 106 (((T.1 105 2) + v6).toNatClampNeg) ((v5 >>> (((24 : Int32) - ((8 : Int32) * (v6 &&& (3 : Int32)))) &&& 31)).toInt8.toInt32).toInt8.toInt32) v1 v2 v3 v4 v5 (v6 + (1 : Int32)) else vl_X11_feed n (tI T 106 (((T.1 105 2) + v6).toNatClampNeg) ((v4 >>> (((24 : Int32) - ((8 : Int32) * (v6 &&& (3 : Int32)))) &&& 31)).toInt8.toInt32).toInt8.toInt32) v1 v2 v3 v4 v5 (v6 + (1 : Int32))) else vl_X11_feed n (tI T 106 (((T.1 105 2) + v6).toNatClampNeg) ((v3 >>> (((24 : Int32) - ((8 : Int32) * (v6 &&& (3 : Int32)))) &&& 31)).toInt8.toInt32).toInt8.toInt32) v1 v2 v3 v4 v5 (v6 + (1 : Int32))) else vl_X11_feed n (tI T 106 (((T.1 105 2) + v6).toNatClampNeg) ((v2 >>> (((24 : Int32) - ((8 : Int32) * (v6 &&& (3 : Int32)))) &&& 31)).toInt8.toInt32).toInt8.toInt32) v1 v2 v3 v4 v5 (v6 + (1 : Int32))) else vl_X11_feed n (tI T 106 (((T.1 105 2) + v6).toNatClampNeg) ((v1 >>> (((24 : Int32) - ((8 : Int32) * (v6 &&& (3 : Int32)))) &&& 31)).toInt8.toInt32).toInt8.toInt32) v1 v2 v3 v4 v5 (v6 + (1 : Int32)))) := rfl
set_option maxRecDepth 10000 in
theorem lj_X11_feed {X : ax_X} {d L sz : Nat} {Q : Int32 → tT → Prop} (hX : ax_ok X mX11_feed d) (hsz : 161 ≤ sz) (hR : ax_Ret X mX11_feed (ti L sz Q)) : ∀ (n : Nat) (T : tT) (v1 : Int32) (v2 : Int32) (v3 : Int32) (v4 : Int32) (v5 : Int32) (v6 : Int32), okl_X11_feed n sz T v1 v2 v3 v4 v5 v6 → Q (vl_X11_feed n T v1 v2 v3 v4 v5 v6).1 (vl_X11_feed n T v1 v2 v3 v4 v5 v6).2 → ax_j X 18 [some (.ref 105), some (.int v1), some (.int v2), some (.int v3), some (.int v4), some (.int v5), some (.int v6), none] [] (th L sz T) 0 0 := by
  intro n
  induction n with
  | zero => intro T v1 v2 v3 v4 v5 v6 ok; exact False.elim ok
  | succ n ih =>
    intro T v1 v2 v3 v4 v5 v6 ok hq
    refine s_X11_feed_18 hX hR hsz  v1 v2 v3 v4 v5 v6 ?_
    unfold okl_X11_feed at ok
    refine ⟨fun kq0 => ?_, fun kq0 => ?_⟩
    · replace ok := ok.1 kq0
      have z := hq; rw [vl_X11_feed_s, if_pos kq0] at z; exact z
    · replace ok := ok.2 kq0
      refine ⟨fun kq1 => ?_, fun kq1 => ?_⟩
      · replace ok := ok.1 kq1
        refine ⟨fun kq2 => ?_, fun kq2 => ?_⟩
        · replace ok := ok.1 kq2
          refine ⟨fun kq3 => ?_, fun kq3 => ?_⟩
          · replace ok := ok.1 kq3
            refine ⟨fun kq4 => ?_, fun kq4 => ?_⟩
            · replace ok := ok.1 kq4
              refine ⟨ok.1, ?_⟩
              replace ok := ok.2
              have z := hq; rw [vl_X11_feed_s, if_neg kq0, if_pos kq1, if_pos kq2, if_pos kq3, if_pos kq4] at z; exact ih _ v1 v2 v3 v4 v5 (v6 + (1 : Int32)) ok z
            · replace ok := ok.2 kq4
              refine ⟨ok.1, ?_⟩
              replace ok := ok.2
              have z := hq; rw [vl_X11_feed_s, if_neg kq0, if_pos kq1, if_pos kq2, if_pos kq3, if_neg kq4] at z; exact ih _ v1 v2 v3 v4 v5 (v6 + (1 : Int32)) ok z
          · replace ok := ok.2 kq3
            refine ⟨ok.1, ?_⟩
            replace ok := ok.2
            have z := hq; rw [vl_X11_feed_s, if_neg kq0, if_pos kq1, if_pos kq2, if_neg kq3] at z; exact ih _ v1 v2 v3 v4 v5 (v6 + (1 : Int32)) ok z
        · replace ok := ok.2 kq2
          refine ⟨ok.1, ?_⟩
          replace ok := ok.2
          have z := hq; rw [vl_X11_feed_s, if_neg kq0, if_pos kq1, if_neg kq2] at z; exact ih _ v1 v2 v3 v4 v5 (v6 + (1 : Int32)) ok z
      · replace ok := ok.2 kq1
        refine ⟨ok.1, ?_⟩
        replace ok := ok.2
        have z := hq; rw [vl_X11_feed_s, if_neg kq0, if_neg kq1] at z; exact ih _ v1 v2 v3 v4 v5 (v6 + (1 : Int32)) ok z
noncomputable def F_X11_feed (T : tT)  (x0 : Int32) (x1 : Int32) (x2 : Int32) (x3 : Int32) (x4 : Int32) : Int32 × tT := (if ((T.1 105 2) + (20 : Int32)) ≤ (1400 : Int32) then vl_X11_feed fu T x0 x1 x2 x3 x4 (0 : Int32) else ((-1 : Int32), T))
noncomputable def ok_X11_feed (sz : Nat) (T : tT)  (x0 : Int32) (x1 : Int32) (x2 : Int32) (x3 : Int32) (x4 : Int32) : Prop := ((((T.1 105 2) + (20 : Int32)) ≤ (1400 : Int32) → okl_X11_feed fu sz T x0 x1 x2 x3 x4 (0 : Int32)) ∧ (¬ ((T.1 105 2) + (20 : Int32)) ≤ (1400 : Int32) → True))
set_option maxRecDepth 10000 in
theorem c_X11_feed {d L sz : Nat} {T : tT} (hsz : 161 ≤ sz) (x0 : Int32) (x1 : Int32) (x2 : Int32) (x3 : Int32) (x4 : Int32) (ok : ok_X11_feed sz T x0 x1 x2 x3 x4) : tiK d mX11_feed [.ref 105, .int x0, .int x1, .int x2, .int x3, .int x4] L sz T (fun r T' => r = (F_X11_feed T x0 x1 x2 x3 x4).1 ∧ T' = (F_X11_feed T x0 x1 x2 x3 x4).2) := by
  refine k_X11_feed hsz  x0 x1 x2 x3 x4 (fun X hX hR => ?_)
  unfold ok_X11_feed at ok
  refine ⟨fun kq0 => ?_, fun kq0 => ?_⟩
  · replace ok := ok.1 kq0
    exact lj_X11_feed hX hsz  hR _ _ x0 x1 x2 x3 x4 (0 : Int32) ok ⟨by unfold F_X11_feed; first | (rw [if_pos kq0]; done) | (rw [if_pos kq0]; rfl), by unfold F_X11_feed; first | (rw [if_pos kq0]; done) | (rw [if_pos kq0]; rfl)⟩
  · replace ok := ok.2 kq0
    exact ⟨by unfold F_X11_feed; first | (rw [if_neg kq0]; done) | (rw [if_neg kq0]; rfl), by unfold F_X11_feed; first | (rw [if_neg kq0]; done) | (rw [if_neg kq0]; rfl)⟩
noncomputable def vl_X11_hasHeard : Nat → tT → Int32 → Int32 → Int32 → Int32
  | 0, T, v1, v2, v3 => 0
  | n + 1, T, v1, v2, v3 => (if (T.1 105 70) ≤ v3 then (0 : Int32) else (if (T.1 152 (v3.toNatClampNeg)) = v1 then (if 0 ≤ (T.1 156 (v3.toNatClampNeg)) then vl_X11_hasHeard n T v1 v2 (v3 + (1 : Int32)) else (if (T.1 151 (v3.toNatClampNeg)) = v2 then vl_X11_hasHeard n T v1 v2 (v3 + (1 : Int32)) else (if (T.1 131 (T.1 151 (v3.toNatClampNeg)).toNatClampNeg) = (T.1 131 (v2.toNatClampNeg)) then (1 : Int32) else vl_X11_hasHeard n T v1 v2 (v3 + (1 : Int32))))) else vl_X11_hasHeard n T v1 v2 (v3 + (1 : Int32))))
noncomputable def okl_X11_hasHeard : Nat → Nat → tT → Int32 → Int32 → Int32 → Prop
  | 0, _, T, v1, v2, v3 => False
  | n + 1, sz, T, v1, v2, v3 => (((T.1 105 70) ≤ v3 → True) ∧ (¬ (T.1 105 70) ≤ v3 → (vp_in v3 200 ∧ ((¬ (T.1 152 (v3.toNatClampNeg)) = v1 → okl_X11_hasHeard n sz T v1 v2 (v3 + (1 : Int32))) ∧ ((T.1 152 (v3.toNatClampNeg)) = v1 → (vp_in v3 200 ∧ ((0 ≤ (T.1 156 (v3.toNatClampNeg)) → okl_X11_hasHeard n sz T v1 v2 (v3 + (1 : Int32))) ∧ (¬ 0 ≤ (T.1 156 (v3.toNatClampNeg)) → (vp_in v3 200 ∧ (((T.1 151 (v3.toNatClampNeg)) = v2 → okl_X11_hasHeard n sz T v1 v2 (v3 + (1 : Int32))) ∧ (¬ (T.1 151 (v3.toNatClampNeg)) = v2 → (vp_in v3 200 ∧ (vp_in (T.1 151 (v3.toNatClampNeg)) 40 ∧ (vp_in v2 40 ∧ ((¬ (T.1 131 (T.1 151 (v3.toNatClampNeg)).toNatClampNeg) = (T.1 131 (v2.toNatClampNeg)) → okl_X11_hasHeard n sz T v1 v2 (v3 + (1 : Int32))) ∧ ((T.1 131 (T.1 151 (v3.toNatClampNeg)).toNatClampNeg) = (T.1 131 (v2.toNatClampNeg)) → True))))))))))))))))
theorem vl_X11_hasHeard_s (n : Nat) (T : tT)  (v1 : Int32) (v2 : Int32) (v3 : Int32) : vl_X11_hasHeard (n + 1) T v1 v2 v3 = (if (T.1 105 70) ≤ v3 then (0 : Int32) else (if (T.1 152 (v3.toNatClampNeg)) = v1 then (if 0 ≤ (T.1 156 (v3.toNatClampNeg)) then vl_X11_hasHeard n T v1 v2 (v3 + (1 : Int32)) else (if (T.1 151 (v3.toNatClampNeg)) = v2 then vl_X11_hasHeard n T v1 v2 (v3 + (1 : Int32)) else (if (T.1 131 (T.1 151 (v3.toNatClampNeg)).toNatClampNeg) = (T.1 131 (v2.toNatClampNeg)) then (1 : Int32) else vl_X11_hasHeard n T v1 v2 (v3 + (1 : Int32))))) else vl_X11_hasHeard n T v1 v2 (v3 + (1 : Int32)))) := rfl
set_option maxRecDepth 10000 in
theorem lj_X11_hasHeard {X : ax_X} {d L sz : Nat} {Q : Int32 → tT → Prop} (hX : ax_ok X mX11_hasHeard d) (hsz : 161 ≤ sz) (hR : ax_Ret X mX11_hasHeard (ti L sz Q)) : ∀ (n : Nat) (T : tT) (v1 : Int32) (v2 : Int32) (v3 : Int32), okl_X11_hasHeard n sz T v1 v2 v3 → Q (vl_X11_hasHeard n T v1 v2 v3) T → ax_j X 2 [some (.ref 105), some (.int v1), some (.int v2), some (.int v3)] [] (th L sz T) 0 0 := by
  intro n
  induction n with
  | zero => intro T v1 v2 v3 ok; exact False.elim ok
  | succ n ih =>
    intro T v1 v2 v3 ok hq
    refine s_X11_hasHeard_2 hX hR hsz  v1 v2 v3 ?_
    unfold okl_X11_hasHeard at ok
    refine ⟨fun kq0 => ?_, fun kq0 => ?_⟩
    · replace ok := ok.1 kq0
      have z := hq; rw [vl_X11_hasHeard_s, if_pos kq0] at z; exact z
    · replace ok := ok.2 kq0
      refine ⟨ok.1, ?_⟩
      replace ok := ok.2
      refine ⟨fun kq1 => ?_, fun kq1 => ?_⟩
      · replace ok := ok.1 kq1
        have z := hq; rw [vl_X11_hasHeard_s, if_neg kq0, if_neg kq1] at z; exact ih _ v1 v2 (v3 + (1 : Int32)) ok z
      · replace ok := ok.2 kq1
        refine ⟨ok.1, ?_⟩
        replace ok := ok.2
        refine ⟨fun kq2 => ?_, fun kq2 => ?_⟩
        · replace ok := ok.1 kq2
          have z := hq; rw [vl_X11_hasHeard_s, if_neg kq0, if_pos kq1, if_pos kq2] at z; exact ih _ v1 v2 (v3 + (1 : Int32)) ok z
        · replace ok := ok.2 kq2
          refine ⟨ok.1, ?_⟩
          replace ok := ok.2
          refine ⟨fun kq3 => ?_, fun kq3 => ?_⟩
          · replace ok := ok.1 kq3
            have z := hq; rw [vl_X11_hasHeard_s, if_neg kq0, if_pos kq1, if_neg kq2, if_pos kq3] at z; exact ih _ v1 v2 (v3 + (1 : Int32)) ok z
          · replace ok := ok.2 kq3
            refine ⟨ok.1, ?_⟩
            replace ok := ok.2
            refine ⟨ok.1, ?_⟩
            replace ok := ok.2
            refine ⟨ok.1, ?_⟩
            replace ok := ok.2
            refine ⟨fun kq4 => ?_, fun kq4 => ?_⟩
            · replace ok := ok.1 kq4
              have z := hq; rw [vl_X11_hasHeard_s, if_neg kq0, if_pos kq1, if_neg kq2, if_neg kq3, if_neg kq4] at z; exact ih _ v1 v2 (v3 + (1 : Int32)) ok z
            · replace ok := ok.2 kq4
              have z := hq; rw [vl_X11_hasHeard_s, if_neg kq0, if_pos kq1, if_neg kq2, if_neg kq3, if_pos kq4] at z; exact z
noncomputable def v_X11_hasHeard (T : tT)  (x0 : Int32) (x1 : Int32) : Int32 := vl_X11_hasHeard fu T x0 x1 (0 : Int32)
noncomputable def ok_X11_hasHeard (sz : Nat) (T : tT)  (x0 : Int32) (x1 : Int32) : Prop := okl_X11_hasHeard fu sz T x0 x1 (0 : Int32)
set_option maxRecDepth 10000 in
theorem c_X11_hasHeard {d L sz : Nat} {T : tT} (hsz : 161 ≤ sz) (x0 : Int32) (x1 : Int32) (ok : ok_X11_hasHeard sz T x0 x1) : tiK d mX11_hasHeard [.ref 105, .int x0, .int x1] L sz T (fun r T' => r = v_X11_hasHeard T x0 x1 ∧ T = T') := by
  refine k_X11_hasHeard hsz  x0 x1 (fun X hX hR => ?_)
  unfold ok_X11_hasHeard at ok
  exact lj_X11_hasHeard hX hsz  hR _ _ x0 x1 (0 : Int32) ok ⟨by unfold v_X11_hasHeard; rfl, rfl⟩
noncomputable def vl_X11_hasPiece : Nat → tT → Int32 → Int64 → Int32 → Int32
  | 0, T, v1, v2, v4 => 0
  | n + 1, T, v1, v2, v4 => (if (T.1 112 (v1.toNatClampNeg)) ≤ v4 then (0 : Int32) else (if (T.2.1 127 (((12 : Int32) * v1) + v4).toNatClampNeg) = v2 then (1 : Int32) else vl_X11_hasPiece n T v1 v2 (v4 + (1 : Int32))))
noncomputable def okl_X11_hasPiece : Nat → Nat → tT → Int32 → Int64 → Int32 → Prop
  | 0, _, T, v1, v2, v4 => False
  | n + 1, sz, T, v1, v2, v4 => (vp_in v1 240 ∧ (((T.1 112 (v1.toNatClampNeg)) ≤ v4 → True) ∧ (¬ (T.1 112 (v1.toNatClampNeg)) ≤ v4 → (vp_in (((12 : Int32) * v1) + v4) 2880 ∧ ((¬ (T.2.1 127 (((12 : Int32) * v1) + v4).toNatClampNeg) = v2 → okl_X11_hasPiece n sz T v1 v2 (v4 + (1 : Int32))) ∧ ((T.2.1 127 (((12 : Int32) * v1) + v4).toNatClampNeg) = v2 → True))))))
theorem vl_X11_hasPiece_s (n : Nat) (T : tT)  (v1 : Int32) (v2 : Int64) (v4 : Int32) : vl_X11_hasPiece (n + 1) T v1 v2 v4 = (if (T.1 112 (v1.toNatClampNeg)) ≤ v4 then (0 : Int32) else (if (T.2.1 127 (((12 : Int32) * v1) + v4).toNatClampNeg) = v2 then (1 : Int32) else vl_X11_hasPiece n T v1 v2 (v4 + (1 : Int32)))) := rfl
set_option maxRecDepth 10000 in
theorem lj_X11_hasPiece {X : ax_X} {d L sz : Nat} {Q : Int32 → tT → Prop} (hX : ax_ok X mX11_hasPiece d) (hsz : 161 ≤ sz) (hR : ax_Ret X mX11_hasPiece (ti L sz Q)) : ∀ (n : Nat) (T : tT) (v1 : Int32) (v2 : Int64) (v4 : Int32), okl_X11_hasPiece n sz T v1 v2 v4 → Q (vl_X11_hasPiece n T v1 v2 v4) T → ax_j X 3 [some (.ref 105), some (.int v1), some (.long v2), none, some (.int v4)] [] (th L sz T) 0 0 := by
  intro n
  induction n with
  | zero => intro T v1 v2 v4 ok; exact False.elim ok
  | succ n ih =>
    intro T v1 v2 v4 ok hq
    refine s_X11_hasPiece_3 hX hR hsz  v1 v2 v4 ?_
    unfold okl_X11_hasPiece at ok
    refine ⟨ok.1, ?_⟩
    replace ok := ok.2
    refine ⟨fun kq0 => ?_, fun kq0 => ?_⟩
    · replace ok := ok.1 kq0
      have z := hq; rw [vl_X11_hasPiece_s, if_pos kq0] at z; exact z
    · replace ok := ok.2 kq0
      refine ⟨ok.1, ?_⟩
      replace ok := ok.2
      refine ⟨fun kq1 => ?_, fun kq1 => ?_⟩
      · replace ok := ok.1 kq1
        have z := hq; rw [vl_X11_hasPiece_s, if_neg kq0, if_neg kq1] at z; exact ih _ v1 v2 (v4 + (1 : Int32)) ok z
      · replace ok := ok.2 kq1
        have z := hq; rw [vl_X11_hasPiece_s, if_neg kq0, if_pos kq1] at z; exact z
noncomputable def v_X11_hasPiece (T : tT)  (x0 : Int32) (x1 : Int64) : Int32 := vl_X11_hasPiece fu T x0 x1 (0 : Int32)
noncomputable def ok_X11_hasPiece (sz : Nat) (T : tT)  (x0 : Int32) (x1 : Int64) : Prop := okl_X11_hasPiece fu sz T x0 x1 (0 : Int32)
set_option maxRecDepth 10000 in
theorem c_X11_hasPiece {d L sz : Nat} {T : tT} (hsz : 161 ≤ sz) (x0 : Int32) (x1 : Int64) (ok : ok_X11_hasPiece sz T x0 x1) : tiK d mX11_hasPiece [.ref 105, .int x0, .long x1] L sz T (fun r T' => r = v_X11_hasPiece T x0 x1 ∧ T = T') := by
  refine k_X11_hasPiece hsz  x0 x1 (fun X hX hR => ?_)
  unfold ok_X11_hasPiece at ok
  exact lj_X11_hasPiece hX hsz  hR _ _ x0 x1 (0 : Int32) ok ⟨by unfold v_X11_hasPiece; rfl, rfl⟩
noncomputable def vl_X11_inList : Nat → tT → Int32 → Int32 → Int32 → Int32 → Int32
  | 0, T, v1, v2, v3, v4 => 0
  | n + 1, T, v1, v2, v3, v4 => (if (T.1 137 (v1.toNatClampNeg)) ≤ v4 then v3 else (if (v_X11_hasPiece T v2 (T.2.1 139 (((4 : Int32) * v1) + v4).toNatClampNeg)) = 0 then vl_X11_inList n T v1 v2 (v3 + (0 : Int32)) (v4 + (1 : Int32)) else vl_X11_inList n T v1 v2 (v3 + (1 : Int32)) (v4 + (1 : Int32))))
noncomputable def okl_X11_inList : Nat → Nat → tT → Int32 → Int32 → Int32 → Int32 → Prop
  | 0, _, T, v1, v2, v3, v4 => False
  | n + 1, sz, T, v1, v2, v3, v4 => (vp_in v1 40 ∧ (((T.1 137 (v1.toNatClampNeg)) ≤ v4 → True) ∧ (¬ (T.1 137 (v1.toNatClampNeg)) ≤ v4 → (vp_in (((4 : Int32) * v1) + v4) 160 ∧ (ok_X11_hasPiece sz T v2 (T.2.1 139 (((4 : Int32) * v1) + v4).toNatClampNeg) ∧ (((v_X11_hasPiece T v2 (T.2.1 139 (((4 : Int32) * v1) + v4).toNatClampNeg)) = 0 → okl_X11_inList n sz T v1 v2 (v3 + (0 : Int32)) (v4 + (1 : Int32))) ∧ (¬ (v_X11_hasPiece T v2 (T.2.1 139 (((4 : Int32) * v1) + v4).toNatClampNeg)) = 0 → okl_X11_inList n sz T v1 v2 (v3 + (1 : Int32)) (v4 + (1 : Int32)))))))))
theorem vl_X11_inList_s (n : Nat) (T : tT)  (v1 : Int32) (v2 : Int32) (v3 : Int32) (v4 : Int32) : vl_X11_inList (n + 1) T v1 v2 v3 v4 = (if (T.1 137 (v1.toNatClampNeg)) ≤ v4 then v3 else (if (v_X11_hasPiece T v2 (T.2.1 139 (((4 : Int32) * v1) + v4).toNatClampNeg)) = 0 then vl_X11_inList n T v1 v2 (v3 + (0 : Int32)) (v4 + (1 : Int32)) else vl_X11_inList n T v1 v2 (v3 + (1 : Int32)) (v4 + (1 : Int32)))) := rfl
set_option maxRecDepth 10000 in
theorem lj_X11_inList {X : ax_X} {d L sz : Nat} {Q : Int32 → tT → Prop} (hX : ax_ok X mX11_inList (d + 1)) (hsz : 161 ≤ sz) (hR : ax_Ret X mX11_inList (ti L sz Q)) : ∀ (n : Nat) (T : tT) (v1 : Int32) (v2 : Int32) (v3 : Int32) (v4 : Int32), okl_X11_inList n sz T v1 v2 v3 v4 → Q (vl_X11_inList n T v1 v2 v3 v4) T → ax_j X 5 [some (.ref 105), some (.int v1), some (.int v2), some (.int v3), some (.int v4)] [] (th L sz T) 0 0 := by
  intro n
  induction n with
  | zero => intro T v1 v2 v3 v4 ok; exact False.elim ok
  | succ n ih =>
    intro T v1 v2 v3 v4 ok hq
    refine s_X11_inList_5 hX hR hsz  v1 v2 v3 v4 ?_
    unfold okl_X11_inList at ok
    refine ⟨ok.1, ?_⟩
    replace ok := ok.2
    refine ⟨fun kq0 => ?_, fun kq0 => ?_⟩
    · replace ok := ok.1 kq0
      have z := hq; rw [vl_X11_inList_s, if_pos kq0] at z; exact z
    · replace ok := ok.2 kq0
      refine ⟨ok.1, ?_⟩
      replace ok := ok.2
      refine ⟨_, c_X11_hasPiece hsz  v2 (T.2.1 139 (((4 : Int32) * v1) + v4).toNatClampNeg) ok.1, ?_⟩
      rintro _ _ ⟨rfl, rfl⟩
      replace ok := ok.2
      refine ⟨fun kq1 => ?_, fun kq1 => ?_⟩
      · replace ok := ok.1 kq1
        have z := hq; rw [vl_X11_inList_s, if_neg kq0, if_pos kq1] at z; exact ih _ v1 v2 (v3 + (0 : Int32)) (v4 + (1 : Int32)) ok z
      · replace ok := ok.2 kq1
        have z := hq; rw [vl_X11_inList_s, if_neg kq0, if_neg kq1] at z; exact ih _ v1 v2 (v3 + (1 : Int32)) (v4 + (1 : Int32)) ok z
noncomputable def v_X11_inList (T : tT)  (x0 : Int32) (x1 : Int32) : Int32 := vl_X11_inList fu T x0 x1 (0 : Int32) (0 : Int32)
noncomputable def ok_X11_inList (sz : Nat) (T : tT)  (x0 : Int32) (x1 : Int32) : Prop := okl_X11_inList fu sz T x0 x1 (0 : Int32) (0 : Int32)
set_option maxRecDepth 10000 in
theorem c_X11_inList {d L sz : Nat} {T : tT} (hsz : 161 ≤ sz) (x0 : Int32) (x1 : Int32) (ok : ok_X11_inList sz T x0 x1) : tiK (d + 1) mX11_inList [.ref 105, .int x0, .int x1] L sz T (fun r T' => r = v_X11_inList T x0 x1 ∧ T = T') := by
  refine k_X11_inList hsz  x0 x1 (fun X hX hR => ?_)
  unfold ok_X11_inList at ok
  exact lj_X11_inList hX hsz  hR _ _ x0 x1 (0 : Int32) (0 : Int32) ok ⟨by unfold v_X11_inList; rfl, rfl⟩
noncomputable def vl_X11_isName : Nat → tT → Int64 → Int32 → Int32 → Int32
  | 0, T, v0, v2, v3 => 0
  | n + 1, T, v0, v2, v3 => (if v3 < 0 then v2 else (if ((v0 >>> (v3.toInt64 &&& 63)) &&& (255 : Int64)).toInt32 = 0 then (if v2 = 0 then vl_X11_isName n T v0 v2 (v3 + (-8 : Int32)) else (if (v_X11_isLetter T (((v0 >>> (v3.toInt64 &&& 63)) &&& (255 : Int64)).toInt32)) = 0 then (if v2 = 0 then (0 : Int32) else (if (v_X11_isDigit T (((v0 >>> (v3.toInt64 &&& 63)) &&& (255 : Int64)).toInt32)) = 0 then (0 : Int32) else vl_X11_isName n T v0 (1 : Int32) (v3 + (-8 : Int32)))) else vl_X11_isName n T v0 (1 : Int32) (v3 + (-8 : Int32)))) else (if (v_X11_isLetter T (((v0 >>> (v3.toInt64 &&& 63)) &&& (255 : Int64)).toInt32)) = 0 then (if v2 = 0 then (0 : Int32) else (if (v_X11_isDigit T (((v0 >>> (v3.toInt64 &&& 63)) &&& (255 : Int64)).toInt32)) = 0 then (0 : Int32) else vl_X11_isName n T v0 (1 : Int32) (v3 + (-8 : Int32)))) else vl_X11_isName n T v0 (1 : Int32) (v3 + (-8 : Int32)))))
noncomputable def okl_X11_isName : Nat → Nat → tT → Int64 → Int32 → Int32 → Prop
  | 0, _, T, v0, v2, v3 => False
  | n + 1, sz, T, v0, v2, v3 => ((v3 < 0 → (v2 &&& 1 = v2)) ∧ (¬ v3 < 0 → ((¬ ((v0 >>> (v3.toInt64 &&& 63)) &&& (255 : Int64)).toInt32 = 0 → ((¬ (v_X11_isLetter T (((v0 >>> (v3.toInt64 &&& 63)) &&& (255 : Int64)).toInt32)) = 0 → okl_X11_isName n sz T v0 (1 : Int32) (v3 + (-8 : Int32))) ∧ ((v_X11_isLetter T (((v0 >>> (v3.toInt64 &&& 63)) &&& (255 : Int64)).toInt32)) = 0 → ((v2 = 0 → True) ∧ (¬ v2 = 0 → ((¬ (v_X11_isDigit T (((v0 >>> (v3.toInt64 &&& 63)) &&& (255 : Int64)).toInt32)) = 0 → okl_X11_isName n sz T v0 (1 : Int32) (v3 + (-8 : Int32))) ∧ ((v_X11_isDigit T (((v0 >>> (v3.toInt64 &&& 63)) &&& (255 : Int64)).toInt32)) = 0 → True))))))) ∧ (((v0 >>> (v3.toInt64 &&& 63)) &&& (255 : Int64)).toInt32 = 0 → ((¬ v2 = 0 → ((¬ (v_X11_isLetter T (((v0 >>> (v3.toInt64 &&& 63)) &&& (255 : Int64)).toInt32)) = 0 → okl_X11_isName n sz T v0 (1 : Int32) (v3 + (-8 : Int32))) ∧ ((v_X11_isLetter T (((v0 >>> (v3.toInt64 &&& 63)) &&& (255 : Int64)).toInt32)) = 0 → ((v2 = 0 → True) ∧ (¬ v2 = 0 → ((¬ (v_X11_isDigit T (((v0 >>> (v3.toInt64 &&& 63)) &&& (255 : Int64)).toInt32)) = 0 → okl_X11_isName n sz T v0 (1 : Int32) (v3 + (-8 : Int32))) ∧ ((v_X11_isDigit T (((v0 >>> (v3.toInt64 &&& 63)) &&& (255 : Int64)).toInt32)) = 0 → True))))))) ∧ (v2 = 0 → okl_X11_isName n sz T v0 v2 (v3 + (-8 : Int32))))))))
theorem vl_X11_isName_s (n : Nat) (T : tT)  (v0 : Int64) (v2 : Int32) (v3 : Int32) : vl_X11_isName (n + 1) T v0 v2 v3 = (if v3 < 0 then v2 else (if ((v0 >>> (v3.toInt64 &&& 63)) &&& (255 : Int64)).toInt32 = 0 then (if v2 = 0 then vl_X11_isName n T v0 v2 (v3 + (-8 : Int32)) else (if (v_X11_isLetter T (((v0 >>> (v3.toInt64 &&& 63)) &&& (255 : Int64)).toInt32)) = 0 then (if v2 = 0 then (0 : Int32) else (if (v_X11_isDigit T (((v0 >>> (v3.toInt64 &&& 63)) &&& (255 : Int64)).toInt32)) = 0 then (0 : Int32) else vl_X11_isName n T v0 (1 : Int32) (v3 + (-8 : Int32)))) else vl_X11_isName n T v0 (1 : Int32) (v3 + (-8 : Int32)))) else (if (v_X11_isLetter T (((v0 >>> (v3.toInt64 &&& 63)) &&& (255 : Int64)).toInt32)) = 0 then (if v2 = 0 then (0 : Int32) else (if (v_X11_isDigit T (((v0 >>> (v3.toInt64 &&& 63)) &&& (255 : Int64)).toInt32)) = 0 then (0 : Int32) else vl_X11_isName n T v0 (1 : Int32) (v3 + (-8 : Int32)))) else vl_X11_isName n T v0 (1 : Int32) (v3 + (-8 : Int32))))) := rfl
set_option maxRecDepth 10000 in
theorem lj_X11_isName {X : ax_X} {d L sz : Nat} {Q : Int32 → tT → Prop} (hX : ax_ok X mX11_isName (d + 1)) (hsz : 161 ≤ sz) (hR : ax_Ret X mX11_isName (ti L sz Q)) : ∀ (n : Nat) (T : tT) (v0 : Int64) (v2 : Int32) (v3 : Int32), okl_X11_isName n sz T v0 v2 v3 → Q (vl_X11_isName n T v0 v2 v3) T → ax_j X 5 [some (.long v0), none, some (.int v2), some (.int v3), none] [] (th L sz T) 0 0 := by
  intro n
  induction n with
  | zero => intro T v0 v2 v3 ok; exact False.elim ok
  | succ n ih =>
    intro T v0 v2 v3 ok hq
    refine s_X11_isName_5 hX hR hsz  v0 v2 v3 ?_
    unfold okl_X11_isName at ok
    refine ⟨fun kq0 => ?_, fun kq0 => ?_⟩
    · replace ok := ok.1 kq0
      have z := hq; rw [vl_X11_isName_s, if_pos kq0] at z; exact ⟨ok, z⟩
    · replace ok := ok.2 kq0
      refine ⟨fun kq1 => ?_, fun kq1 => ?_⟩
      · replace ok := ok.1 kq1
        refine ⟨_, c_X11_isLetter hsz  (((v0 >>> (v3.toInt64 &&& 63)) &&& (255 : Int64)).toInt32) , ?_⟩
        rintro _ _ ⟨rfl, rfl⟩
        refine ⟨fun kq2 => ?_, fun kq2 => ?_⟩
        · replace ok := ok.1 kq2
          have z := hq; rw [vl_X11_isName_s, if_neg kq0, if_neg kq1, if_neg kq2] at z; exact ih _ v0 (1 : Int32) (v3 + (-8 : Int32)) ok z
        · replace ok := ok.2 kq2
          refine ⟨fun kq3 => ?_, fun kq3 => ?_⟩
          · replace ok := ok.1 kq3
            have z := hq; rw [vl_X11_isName_s, if_neg kq0, if_neg kq1, if_pos kq2, if_pos kq3] at z; exact z
          · replace ok := ok.2 kq3
            refine ⟨_, c_X11_isDigit hsz  (((v0 >>> (v3.toInt64 &&& 63)) &&& (255 : Int64)).toInt32) , ?_⟩
            rintro _ _ ⟨rfl, rfl⟩
            refine ⟨fun kq4 => ?_, fun kq4 => ?_⟩
            · replace ok := ok.1 kq4
              have z := hq; rw [vl_X11_isName_s, if_neg kq0, if_neg kq1, if_pos kq2, if_neg kq3, if_neg kq4] at z; exact ih _ v0 (1 : Int32) (v3 + (-8 : Int32)) ok z
            · replace ok := ok.2 kq4
              have z := hq; rw [vl_X11_isName_s, if_neg kq0, if_neg kq1, if_pos kq2, if_neg kq3, if_pos kq4] at z; exact z
      · replace ok := ok.2 kq1
        refine ⟨fun kq2 => ?_, fun kq2 => ?_⟩
        · replace ok := ok.1 kq2
          refine ⟨_, c_X11_isLetter hsz  (((v0 >>> (v3.toInt64 &&& 63)) &&& (255 : Int64)).toInt32) , ?_⟩
          rintro _ _ ⟨rfl, rfl⟩
          refine ⟨fun kq3 => ?_, fun kq3 => ?_⟩
          · replace ok := ok.1 kq3
            have z := hq; rw [vl_X11_isName_s, if_neg kq0, if_pos kq1, if_neg kq2, if_neg kq3] at z; exact ih _ v0 (1 : Int32) (v3 + (-8 : Int32)) ok z
          · replace ok := ok.2 kq3
            refine ⟨fun kq4 => ?_, fun kq4 => ?_⟩
            · replace ok := ok.1 kq4
              have z := hq; rw [vl_X11_isName_s, if_neg kq0, if_pos kq1, if_neg kq2, if_pos kq3, if_pos kq4] at z; exact z
            · replace ok := ok.2 kq4
              refine ⟨_, c_X11_isDigit hsz  (((v0 >>> (v3.toInt64 &&& 63)) &&& (255 : Int64)).toInt32) , ?_⟩
              rintro _ _ ⟨rfl, rfl⟩
              refine ⟨fun kq5 => ?_, fun kq5 => ?_⟩
              · replace ok := ok.1 kq5
                have z := hq; rw [vl_X11_isName_s, if_neg kq0, if_pos kq1, if_neg kq2, if_pos kq3, if_neg kq4, if_neg kq5] at z; exact ih _ v0 (1 : Int32) (v3 + (-8 : Int32)) ok z
              · replace ok := ok.2 kq5
                have z := hq; rw [vl_X11_isName_s, if_neg kq0, if_pos kq1, if_neg kq2, if_pos kq3, if_neg kq4, if_pos kq5] at z; exact z
        · replace ok := ok.2 kq2
          have z := hq; rw [vl_X11_isName_s, if_neg kq0, if_pos kq1, if_pos kq2] at z; exact ih _ v0 v2 (v3 + (-8 : Int32)) ok z
noncomputable def v_X11_isName (T : tT)  (x0 : Int64) : Int32 := vl_X11_isName fu T x0 (0 : Int32) (56 : Int32)
noncomputable def ok_X11_isName (sz : Nat) (T : tT)  (x0 : Int64) : Prop := okl_X11_isName fu sz T x0 (0 : Int32) (56 : Int32)
set_option maxRecDepth 10000 in
theorem c_X11_isName {d L sz : Nat} {T : tT} (hsz : 161 ≤ sz) (x0 : Int64) (ok : ok_X11_isName sz T x0) : tiK (d + 1) mX11_isName [.long x0] L sz T (fun r T' => r = v_X11_isName T x0 ∧ T = T') := by
  refine k_X11_isName hsz  x0 (fun X hX hR => ?_)
  unfold ok_X11_isName at ok
  exact lj_X11_isName hX hsz  hR _ _ x0 (0 : Int32) (56 : Int32) ok ⟨by unfold v_X11_isName; rfl, rfl⟩
noncomputable def vl_X11_lastOf : Nat → tT → Int32 → Int32 → Int32 → Int32 → Int32 → Int32 → Int32
  | 0, T, v1, v2, v3, v4, v5, v6 => 0
  | n + 1, T, v1, v2, v3, v4, v5, v6 => (if (T.1 105 70) ≤ v6 then v5 else (if (T.1 151 (v6.toNatClampNeg)) = v1 then (if (T.1 153 (v6.toNatClampNeg)) = v2 then (if (T.1 152 (v6.toNatClampNeg)) = v3 then (if (v_X11_isKnown T v6 v4) = 0 then vl_X11_lastOf n T v1 v2 v3 v4 v5 (v6 + (1 : Int32)) else vl_X11_lastOf n T v1 v2 v3 v4 (T.1 154 (v6.toNatClampNeg)) (v6 + (1 : Int32))) else vl_X11_lastOf n T v1 v2 v3 v4 v5 (v6 + (1 : Int32))) else vl_X11_lastOf n T v1 v2 v3 v4 v5 (v6 + (1 : Int32))) else vl_X11_lastOf n T v1 v2 v3 v4 v5 (v6 + (1 : Int32))))
noncomputable def okl_X11_lastOf : Nat → Nat → tT → Int32 → Int32 → Int32 → Int32 → Int32 → Int32 → Prop
  | 0, _, T, v1, v2, v3, v4, v5, v6 => False
  | n + 1, sz, T, v1, v2, v3, v4, v5, v6 => (((T.1 105 70) ≤ v6 → True) ∧ (¬ (T.1 105 70) ≤ v6 → (vp_in v6 200 ∧ ((¬ (T.1 151 (v6.toNatClampNeg)) = v1 → okl_X11_lastOf n sz T v1 v2 v3 v4 v5 (v6 + (1 : Int32))) ∧ ((T.1 151 (v6.toNatClampNeg)) = v1 → (vp_in v6 200 ∧ ((¬ (T.1 153 (v6.toNatClampNeg)) = v2 → okl_X11_lastOf n sz T v1 v2 v3 v4 v5 (v6 + (1 : Int32))) ∧ ((T.1 153 (v6.toNatClampNeg)) = v2 → (vp_in v6 200 ∧ ((¬ (T.1 152 (v6.toNatClampNeg)) = v3 → okl_X11_lastOf n sz T v1 v2 v3 v4 v5 (v6 + (1 : Int32))) ∧ ((T.1 152 (v6.toNatClampNeg)) = v3 → (ok_X11_isKnown sz T v6 v4 ∧ (((v_X11_isKnown T v6 v4) = 0 → okl_X11_lastOf n sz T v1 v2 v3 v4 v5 (v6 + (1 : Int32))) ∧ (¬ (v_X11_isKnown T v6 v4) = 0 → (vp_in v6 200 ∧ okl_X11_lastOf n sz T v1 v2 v3 v4 (T.1 154 (v6.toNatClampNeg)) (v6 + (1 : Int32)))))))))))))))))
theorem vl_X11_lastOf_s (n : Nat) (T : tT)  (v1 : Int32) (v2 : Int32) (v3 : Int32) (v4 : Int32) (v5 : Int32) (v6 : Int32) : vl_X11_lastOf (n + 1) T v1 v2 v3 v4 v5 v6 = (if (T.1 105 70) ≤ v6 then v5 else (if (T.1 151 (v6.toNatClampNeg)) = v1 then (if (T.1 153 (v6.toNatClampNeg)) = v2 then (if (T.1 152 (v6.toNatClampNeg)) = v3 then (if (v_X11_isKnown T v6 v4) = 0 then vl_X11_lastOf n T v1 v2 v3 v4 v5 (v6 + (1 : Int32)) else vl_X11_lastOf n T v1 v2 v3 v4 (T.1 154 (v6.toNatClampNeg)) (v6 + (1 : Int32))) else vl_X11_lastOf n T v1 v2 v3 v4 v5 (v6 + (1 : Int32))) else vl_X11_lastOf n T v1 v2 v3 v4 v5 (v6 + (1 : Int32))) else vl_X11_lastOf n T v1 v2 v3 v4 v5 (v6 + (1 : Int32)))) := rfl
set_option maxRecDepth 10000 in
theorem lj_X11_lastOf {X : ax_X} {d L sz : Nat} {Q : Int32 → tT → Prop} (hX : ax_ok X mX11_lastOf (d + 1)) (hsz : 161 ≤ sz) (hR : ax_Ret X mX11_lastOf (ti L sz Q)) : ∀ (n : Nat) (T : tT) (v1 : Int32) (v2 : Int32) (v3 : Int32) (v4 : Int32) (v5 : Int32) (v6 : Int32), okl_X11_lastOf n sz T v1 v2 v3 v4 v5 v6 → Q (vl_X11_lastOf n T v1 v2 v3 v4 v5 v6) T → ax_j X 6 [some (.ref 105), some (.int v1), some (.int v2), some (.int v3), some (.int v4), some (.int v5), some (.int v6)] [] (th L sz T) 0 0 := by
  intro n
  induction n with
  | zero => intro T v1 v2 v3 v4 v5 v6 ok; exact False.elim ok
  | succ n ih =>
    intro T v1 v2 v3 v4 v5 v6 ok hq
    refine s_X11_lastOf_6 hX hR hsz  v1 v2 v3 v4 v5 v6 ?_
    unfold okl_X11_lastOf at ok
    refine ⟨fun kq0 => ?_, fun kq0 => ?_⟩
    · replace ok := ok.1 kq0
      have z := hq; rw [vl_X11_lastOf_s, if_pos kq0] at z; exact z
    · replace ok := ok.2 kq0
      refine ⟨ok.1, ?_⟩
      replace ok := ok.2
      refine ⟨fun kq1 => ?_, fun kq1 => ?_⟩
      · replace ok := ok.1 kq1
        have z := hq; rw [vl_X11_lastOf_s, if_neg kq0, if_neg kq1] at z; exact ih _ v1 v2 v3 v4 v5 (v6 + (1 : Int32)) ok z
      · replace ok := ok.2 kq1
        refine ⟨ok.1, ?_⟩
        replace ok := ok.2
        refine ⟨fun kq2 => ?_, fun kq2 => ?_⟩
        · replace ok := ok.1 kq2
          have z := hq; rw [vl_X11_lastOf_s, if_neg kq0, if_pos kq1, if_neg kq2] at z; exact ih _ v1 v2 v3 v4 v5 (v6 + (1 : Int32)) ok z
        · replace ok := ok.2 kq2
          refine ⟨ok.1, ?_⟩
          replace ok := ok.2
          refine ⟨fun kq3 => ?_, fun kq3 => ?_⟩
          · replace ok := ok.1 kq3
            have z := hq; rw [vl_X11_lastOf_s, if_neg kq0, if_pos kq1, if_pos kq2, if_neg kq3] at z; exact ih _ v1 v2 v3 v4 v5 (v6 + (1 : Int32)) ok z
          · replace ok := ok.2 kq3
            refine ⟨_, c_X11_isKnown hsz  v6 v4 ok.1, ?_⟩
            rintro _ _ ⟨rfl, rfl⟩
            replace ok := ok.2
            refine ⟨fun kq4 => ?_, fun kq4 => ?_⟩
            · replace ok := ok.1 kq4
              have z := hq; rw [vl_X11_lastOf_s, if_neg kq0, if_pos kq1, if_pos kq2, if_pos kq3, if_pos kq4] at z; exact ih _ v1 v2 v3 v4 v5 (v6 + (1 : Int32)) ok z
            · replace ok := ok.2 kq4
              refine ⟨ok.1, ?_⟩
              replace ok := ok.2
              have z := hq; rw [vl_X11_lastOf_s, if_neg kq0, if_pos kq1, if_pos kq2, if_pos kq3, if_neg kq4] at z; exact ih _ v1 v2 v3 v4 (T.1 154 (v6.toNatClampNeg)) (v6 + (1 : Int32)) ok z
noncomputable def v_X11_lastOf (T : tT)  (x0 : Int32) (x1 : Int32) (x2 : Int32) (x3 : Int32) : Int32 := vl_X11_lastOf fu T x0 x1 x2 x3 (-1 : Int32) (0 : Int32)
noncomputable def ok_X11_lastOf (sz : Nat) (T : tT)  (x0 : Int32) (x1 : Int32) (x2 : Int32) (x3 : Int32) : Prop := okl_X11_lastOf fu sz T x0 x1 x2 x3 (-1 : Int32) (0 : Int32)
set_option maxRecDepth 10000 in
theorem c_X11_lastOf {d L sz : Nat} {T : tT} (hsz : 161 ≤ sz) (x0 : Int32) (x1 : Int32) (x2 : Int32) (x3 : Int32) (ok : ok_X11_lastOf sz T x0 x1 x2 x3) : tiK (d + 1) mX11_lastOf [.ref 105, .int x0, .int x1, .int x2, .int x3] L sz T (fun r T' => r = v_X11_lastOf T x0 x1 x2 x3 ∧ T = T') := by
  refine k_X11_lastOf hsz  x0 x1 x2 x3 (fun X hX hR => ?_)
  unfold ok_X11_lastOf at ok
  exact lj_X11_lastOf hX hsz  hR _ _ x0 x1 x2 x3 (-1 : Int32) (0 : Int32) ok ⟨by unfold v_X11_lastOf; rfl, rfl⟩
noncomputable def vl_X11_leastMark : Nat → tT → Int32 → Int32 → Int32 → Int32
  | 0, T, v1, v2, v3 => 0
  | n + 1, T, v1, v2, v3 => (if (T.1 113 (v1.toNatClampNeg)) ≤ v3 then v2 else (if v2 ≤ (T.1 141 (v3.toNatClampNeg)) then vl_X11_leastMark n T v1 v2 (v3 + (1 : Int32)) else vl_X11_leastMark n T v1 (T.1 141 (v3.toNatClampNeg)) (v3 + (1 : Int32))))
noncomputable def okl_X11_leastMark : Nat → Nat → tT → Int32 → Int32 → Int32 → Prop
  | 0, _, T, v1, v2, v3 => False
  | n + 1, sz, T, v1, v2, v3 => (vp_in v1 40 ∧ (((T.1 113 (v1.toNatClampNeg)) ≤ v3 → True) ∧ (¬ (T.1 113 (v1.toNatClampNeg)) ≤ v3 → (vp_in v3 6 ∧ ((v2 ≤ (T.1 141 (v3.toNatClampNeg)) → okl_X11_leastMark n sz T v1 v2 (v3 + (1 : Int32))) ∧ (¬ v2 ≤ (T.1 141 (v3.toNatClampNeg)) → (vp_in v3 6 ∧ okl_X11_leastMark n sz T v1 (T.1 141 (v3.toNatClampNeg)) (v3 + (1 : Int32)))))))))
theorem vl_X11_leastMark_s (n : Nat) (T : tT)  (v1 : Int32) (v2 : Int32) (v3 : Int32) : vl_X11_leastMark (n + 1) T v1 v2 v3 = (if (T.1 113 (v1.toNatClampNeg)) ≤ v3 then v2 else (if v2 ≤ (T.1 141 (v3.toNatClampNeg)) then vl_X11_leastMark n T v1 v2 (v3 + (1 : Int32)) else vl_X11_leastMark n T v1 (T.1 141 (v3.toNatClampNeg)) (v3 + (1 : Int32)))) := rfl
set_option maxRecDepth 10000 in
theorem lj_X11_leastMark {X : ax_X} {d L sz : Nat} {Q : Int32 → tT → Prop} (hX : ax_ok X mX11_leastMark d) (hsz : 161 ≤ sz) (hR : ax_Ret X mX11_leastMark (ti L sz Q)) : ∀ (n : Nat) (T : tT) (v1 : Int32) (v2 : Int32) (v3 : Int32), okl_X11_leastMark n sz T v1 v2 v3 → Q (vl_X11_leastMark n T v1 v2 v3) T → ax_j X 22 [some (.ref 105), some (.int v1), some (.int v2), some (.int v3)] [] (th L sz T) 0 0 := by
  intro n
  induction n with
  | zero => intro T v1 v2 v3 ok; exact False.elim ok
  | succ n ih =>
    intro T v1 v2 v3 ok hq
    refine s_X11_leastMark_22 hX hR hsz  v1 v2 v3 ?_
    unfold okl_X11_leastMark at ok
    refine ⟨ok.1, ?_⟩
    replace ok := ok.2
    refine ⟨fun kq0 => ?_, fun kq0 => ?_⟩
    · replace ok := ok.1 kq0
      have z := hq; rw [vl_X11_leastMark_s, if_pos kq0] at z; exact z
    · replace ok := ok.2 kq0
      refine ⟨ok.1, ?_⟩
      replace ok := ok.2
      refine ⟨fun kq1 => ?_, fun kq1 => ?_⟩
      · replace ok := ok.1 kq1
        have z := hq; rw [vl_X11_leastMark_s, if_neg kq0, if_pos kq1] at z; exact ih _ v1 v2 (v3 + (1 : Int32)) ok z
      · replace ok := ok.2 kq1
        refine ⟨ok.1, ?_⟩
        replace ok := ok.2
        have z := hq; rw [vl_X11_leastMark_s, if_neg kq0, if_neg kq1] at z; exact ih _ v1 (T.1 141 (v3.toNatClampNeg)) (v3 + (1 : Int32)) ok z
noncomputable def v_X11_leastMark (T : tT)  (x0 : Int32) : Int32 := (if (T.1 113 (x0.toNatClampNeg)) = 0 then vl_X11_leastMark fu T x0 (0 : Int32) (1 : Int32) else vl_X11_leastMark fu T x0 (T.1 141 (0 : Int32).toNatClampNeg) (1 : Int32))
noncomputable def ok_X11_leastMark (sz : Nat) (T : tT)  (x0 : Int32) : Prop := (vp_in x0 40 ∧ ((¬ (T.1 113 (x0.toNatClampNeg)) = 0 → (vp_in (0 : Int32) 6 ∧ okl_X11_leastMark fu sz T x0 (T.1 141 (0 : Int32).toNatClampNeg) (1 : Int32))) ∧ ((T.1 113 (x0.toNatClampNeg)) = 0 → okl_X11_leastMark fu sz T x0 (0 : Int32) (1 : Int32))))
set_option maxRecDepth 10000 in
theorem c_X11_leastMark {d L sz : Nat} {T : tT} (hsz : 161 ≤ sz) (x0 : Int32) (ok : ok_X11_leastMark sz T x0) : tiK d mX11_leastMark [.ref 105, .int x0] L sz T (fun r T' => r = v_X11_leastMark T x0 ∧ T = T') := by
  refine k_X11_leastMark hsz  x0 (fun X hX hR => ?_)
  unfold ok_X11_leastMark at ok
  refine ⟨ok.1, ?_⟩
  replace ok := ok.2
  refine ⟨fun kq0 => ?_, fun kq0 => ?_⟩
  · replace ok := ok.1 kq0
    refine ⟨ok.1, ?_⟩
    replace ok := ok.2
    exact lj_X11_leastMark hX hsz  hR _ _ x0 (T.1 141 (0 : Int32).toNatClampNeg) (1 : Int32) ok ⟨by unfold v_X11_leastMark; first | (rw [if_neg kq0]; done) | (rw [if_neg kq0]; rfl), rfl⟩
  · replace ok := ok.2 kq0
    exact lj_X11_leastMark hX hsz  hR _ _ x0 (0 : Int32) (1 : Int32) ok ⟨by unfold v_X11_leastMark; first | (rw [if_pos kq0]; done) | (rw [if_pos kq0]; rfl), rfl⟩
noncomputable def vl_X11_listOf : Nat → tT → Int32 → Int64 → Int32 → Int32
  | 0, T, v1, v2, v4 => 0
  | n + 1, T, v1, v2, v4 => (if (T.1 111 (v1.toNatClampNeg)) ≤ v4 then (-1 : Int32) else (if (T.2.1 126 (((6 : Int32) * v1) + v4).toNatClampNeg) = v2 then v4 else vl_X11_listOf n T v1 v2 (v4 + (1 : Int32))))
noncomputable def okl_X11_listOf : Nat → Nat → tT → Int32 → Int64 → Int32 → Prop
  | 0, _, T, v1, v2, v4 => False
  | n + 1, sz, T, v1, v2, v4 => (vp_in v1 40 ∧ (((T.1 111 (v1.toNatClampNeg)) ≤ v4 → True) ∧ (¬ (T.1 111 (v1.toNatClampNeg)) ≤ v4 → (vp_in (((6 : Int32) * v1) + v4) 240 ∧ ((¬ (T.2.1 126 (((6 : Int32) * v1) + v4).toNatClampNeg) = v2 → okl_X11_listOf n sz T v1 v2 (v4 + (1 : Int32))) ∧ ((T.2.1 126 (((6 : Int32) * v1) + v4).toNatClampNeg) = v2 → True))))))
theorem vl_X11_listOf_s (n : Nat) (T : tT)  (v1 : Int32) (v2 : Int64) (v4 : Int32) : vl_X11_listOf (n + 1) T v1 v2 v4 = (if (T.1 111 (v1.toNatClampNeg)) ≤ v4 then (-1 : Int32) else (if (T.2.1 126 (((6 : Int32) * v1) + v4).toNatClampNeg) = v2 then v4 else vl_X11_listOf n T v1 v2 (v4 + (1 : Int32)))) := rfl
set_option maxRecDepth 10000 in
theorem lj_X11_listOf {X : ax_X} {d L sz : Nat} {Q : Int32 → tT → Prop} (hX : ax_ok X mX11_listOf d) (hsz : 161 ≤ sz) (hR : ax_Ret X mX11_listOf (ti L sz Q)) : ∀ (n : Nat) (T : tT) (v1 : Int32) (v2 : Int64) (v4 : Int32), okl_X11_listOf n sz T v1 v2 v4 → Q (vl_X11_listOf n T v1 v2 v4) T → ax_j X 3 [some (.ref 105), some (.int v1), some (.long v2), none, some (.int v4)] [] (th L sz T) 0 0 := by
  intro n
  induction n with
  | zero => intro T v1 v2 v4 ok; exact False.elim ok
  | succ n ih =>
    intro T v1 v2 v4 ok hq
    refine s_X11_listOf_3 hX hR hsz  v1 v2 v4 ?_
    unfold okl_X11_listOf at ok
    refine ⟨ok.1, ?_⟩
    replace ok := ok.2
    refine ⟨fun kq0 => ?_, fun kq0 => ?_⟩
    · replace ok := ok.1 kq0
      have z := hq; rw [vl_X11_listOf_s, if_pos kq0] at z; exact z
    · replace ok := ok.2 kq0
      refine ⟨ok.1, ?_⟩
      replace ok := ok.2
      refine ⟨fun kq1 => ?_, fun kq1 => ?_⟩
      · replace ok := ok.1 kq1
        have z := hq; rw [vl_X11_listOf_s, if_neg kq0, if_neg kq1] at z; exact ih _ v1 v2 (v4 + (1 : Int32)) ok z
      · replace ok := ok.2 kq1
        have z := hq; rw [vl_X11_listOf_s, if_neg kq0, if_pos kq1] at z; exact z
noncomputable def v_X11_listOf (T : tT)  (x0 : Int32) (x1 : Int64) : Int32 := vl_X11_listOf fu T x0 x1 (0 : Int32)
noncomputable def ok_X11_listOf (sz : Nat) (T : tT)  (x0 : Int32) (x1 : Int64) : Prop := okl_X11_listOf fu sz T x0 x1 (0 : Int32)
set_option maxRecDepth 10000 in
theorem c_X11_listOf {d L sz : Nat} {T : tT} (hsz : 161 ≤ sz) (x0 : Int32) (x1 : Int64) (ok : ok_X11_listOf sz T x0 x1) : tiK d mX11_listOf [.ref 105, .int x0, .long x1] L sz T (fun r T' => r = v_X11_listOf T x0 x1 ∧ T = T') := by
  refine k_X11_listOf hsz  x0 x1 (fun X hX hR => ?_)
  unfold ok_X11_listOf at ok
  exact lj_X11_listOf hX hsz  hR _ _ x0 x1 (0 : Int32) ok ⟨by unfold v_X11_listOf; rfl, rfl⟩
noncomputable def vl_X11_main : Nat → tT → Int32 → Int32 → Int32 → Int32
  | 0, T, v1, v2, v3 => 0
  | n + 1, T, v1, v2, v3 => (if (T.1 105 70) ≤ v3 then (-1 : Int32) else (if (T.1 151 (v3.toNatClampNeg)) = v1 then (if (T.1 152 (v3.toNatClampNeg)) < 0 then vl_X11_main n T v1 v2 (v3 + (1 : Int32)) else (if (v_X11_isKnown T v3 v2) = 0 then vl_X11_main n T v1 v2 (v3 + (1 : Int32)) else (T.1 152 (v3.toNatClampNeg)))) else vl_X11_main n T v1 v2 (v3 + (1 : Int32))))
noncomputable def okl_X11_main : Nat → Nat → tT → Int32 → Int32 → Int32 → Prop
  | 0, _, T, v1, v2, v3 => False
  | n + 1, sz, T, v1, v2, v3 => (((T.1 105 70) ≤ v3 → True) ∧ (¬ (T.1 105 70) ≤ v3 → (vp_in v3 200 ∧ ((¬ (T.1 151 (v3.toNatClampNeg)) = v1 → okl_X11_main n sz T v1 v2 (v3 + (1 : Int32))) ∧ ((T.1 151 (v3.toNatClampNeg)) = v1 → (vp_in v3 200 ∧ (((T.1 152 (v3.toNatClampNeg)) < 0 → okl_X11_main n sz T v1 v2 (v3 + (1 : Int32))) ∧ (¬ (T.1 152 (v3.toNatClampNeg)) < 0 → (ok_X11_isKnown sz T v3 v2 ∧ (((v_X11_isKnown T v3 v2) = 0 → okl_X11_main n sz T v1 v2 (v3 + (1 : Int32))) ∧ (¬ (v_X11_isKnown T v3 v2) = 0 → vp_in v3 200)))))))))))
theorem vl_X11_main_s (n : Nat) (T : tT)  (v1 : Int32) (v2 : Int32) (v3 : Int32) : vl_X11_main (n + 1) T v1 v2 v3 = (if (T.1 105 70) ≤ v3 then (-1 : Int32) else (if (T.1 151 (v3.toNatClampNeg)) = v1 then (if (T.1 152 (v3.toNatClampNeg)) < 0 then vl_X11_main n T v1 v2 (v3 + (1 : Int32)) else (if (v_X11_isKnown T v3 v2) = 0 then vl_X11_main n T v1 v2 (v3 + (1 : Int32)) else (T.1 152 (v3.toNatClampNeg)))) else vl_X11_main n T v1 v2 (v3 + (1 : Int32)))) := rfl
set_option maxRecDepth 10000 in
theorem lj_X11_main {X : ax_X} {d L sz : Nat} {Q : Int32 → tT → Prop} (hX : ax_ok X mX11_main (d + 1)) (hsz : 161 ≤ sz) (hR : ax_Ret X mX11_main (ti L sz Q)) : ∀ (n : Nat) (T : tT) (v1 : Int32) (v2 : Int32) (v3 : Int32), okl_X11_main n sz T v1 v2 v3 → Q (vl_X11_main n T v1 v2 v3) T → ax_j X 2 [some (.ref 105), some (.int v1), some (.int v2), some (.int v3)] [] (th L sz T) 0 0 := by
  intro n
  induction n with
  | zero => intro T v1 v2 v3 ok; exact False.elim ok
  | succ n ih =>
    intro T v1 v2 v3 ok hq
    refine s_X11_main_2 hX hR hsz  v1 v2 v3 ?_
    unfold okl_X11_main at ok
    refine ⟨fun kq0 => ?_, fun kq0 => ?_⟩
    · replace ok := ok.1 kq0
      have z := hq; rw [vl_X11_main_s, if_pos kq0] at z; exact z
    · replace ok := ok.2 kq0
      refine ⟨ok.1, ?_⟩
      replace ok := ok.2
      refine ⟨fun kq1 => ?_, fun kq1 => ?_⟩
      · replace ok := ok.1 kq1
        have z := hq; rw [vl_X11_main_s, if_neg kq0, if_neg kq1] at z; exact ih _ v1 v2 (v3 + (1 : Int32)) ok z
      · replace ok := ok.2 kq1
        refine ⟨ok.1, ?_⟩
        replace ok := ok.2
        refine ⟨fun kq2 => ?_, fun kq2 => ?_⟩
        · replace ok := ok.1 kq2
          have z := hq; rw [vl_X11_main_s, if_neg kq0, if_pos kq1, if_pos kq2] at z; exact ih _ v1 v2 (v3 + (1 : Int32)) ok z
        · replace ok := ok.2 kq2
          refine ⟨_, c_X11_isKnown hsz  v3 v2 ok.1, ?_⟩
          rintro _ _ ⟨rfl, rfl⟩
          replace ok := ok.2
          refine ⟨fun kq3 => ?_, fun kq3 => ?_⟩
          · replace ok := ok.1 kq3
            have z := hq; rw [vl_X11_main_s, if_neg kq0, if_pos kq1, if_neg kq2, if_pos kq3] at z; exact ih _ v1 v2 (v3 + (1 : Int32)) ok z
          · replace ok := ok.2 kq3
            refine ⟨ok, ?_⟩
            have z := hq; rw [vl_X11_main_s, if_neg kq0, if_pos kq1, if_neg kq2, if_neg kq3] at z; exact z
noncomputable def v_X11_main (T : tT)  (x0 : Int32) (x1 : Int32) : Int32 := vl_X11_main fu T x0 x1 (0 : Int32)
noncomputable def ok_X11_main (sz : Nat) (T : tT)  (x0 : Int32) (x1 : Int32) : Prop := okl_X11_main fu sz T x0 x1 (0 : Int32)
set_option maxRecDepth 10000 in
theorem c_X11_main {d L sz : Nat} {T : tT} (hsz : 161 ≤ sz) (x0 : Int32) (x1 : Int32) (ok : ok_X11_main sz T x0 x1) : tiK (d + 1) mX11_main [.ref 105, .int x0, .int x1] L sz T (fun r T' => r = v_X11_main T x0 x1 ∧ T = T') := by
  refine k_X11_main hsz  x0 x1 (fun X hX hR => ?_)
  unfold ok_X11_main at ok
  exact lj_X11_main hX hsz  hR _ _ x0 x1 (0 : Int32) ok ⟨by unfold v_X11_main; rfl, rfl⟩
noncomputable def vl_X11_mayTake : Nat → tT → Int32 → Int32 → Int32 → Int32
  | 0, T, v1, v2, v3 => 0
  | n + 1, T, v1, v2, v3 => (if (T.1 105 48) ≤ v3 then (1 : Int32) else (if (T.1 138 (v3.toNatClampNeg)) = v2 then (if (((T.1 144 (v1.toNatClampNeg)) >>> ((T.1 134 (v3.toNatClampNeg)) &&& 31)) &&& (1 : Int32)) = 0 then (0 : Int32) else (if (T.1 136 (v3.toNatClampNeg)) = v1 then (0 : Int32) else (if (v_X11_hasHeard T v1 v3) = 0 then vl_X11_mayTake n T v1 v2 (v3 + (1 : Int32)) else (0 : Int32)))) else vl_X11_mayTake n T v1 v2 (v3 + (1 : Int32))))
noncomputable def okl_X11_mayTake : Nat → Nat → tT → Int32 → Int32 → Int32 → Prop
  | 0, _, T, v1, v2, v3 => False
  | n + 1, sz, T, v1, v2, v3 => (((T.1 105 48) ≤ v3 → True) ∧ (¬ (T.1 105 48) ≤ v3 → (vp_in v3 40 ∧ (((T.1 138 (v3.toNatClampNeg)) = v2 → (vp_in v1 5 ∧ (vp_in v3 40 ∧ (((((T.1 144 (v1.toNatClampNeg)) >>> ((T.1 134 (v3.toNatClampNeg)) &&& 31)) &&& (1 : Int32)) = 0 → True) ∧ (¬ (((T.1 144 (v1.toNatClampNeg)) >>> ((T.1 134 (v3.toNatClampNeg)) &&& 31)) &&& (1 : Int32)) = 0 → (vp_in v3 40 ∧ (((T.1 136 (v3.toNatClampNeg)) = v1 → True) ∧ (¬ (T.1 136 (v3.toNatClampNeg)) = v1 → (ok_X11_hasHeard sz T v1 v3 ∧ (((v_X11_hasHeard T v1 v3) = 0 → okl_X11_mayTake n sz T v1 v2 (v3 + (1 : Int32))) ∧ (¬ (v_X11_hasHeard T v1 v3) = 0 → True))))))))))) ∧ (¬ (T.1 138 (v3.toNatClampNeg)) = v2 → okl_X11_mayTake n sz T v1 v2 (v3 + (1 : Int32)))))))
theorem vl_X11_mayTake_s (n : Nat) (T : tT)  (v1 : Int32) (v2 : Int32) (v3 : Int32) : vl_X11_mayTake (n + 1) T v1 v2 v3 = (if (T.1 105 48) ≤ v3 then (1 : Int32) else (if (T.1 138 (v3.toNatClampNeg)) = v2 then (if (((T.1 144 (v1.toNatClampNeg)) >>> ((T.1 134 (v3.toNatClampNeg)) &&& 31)) &&& (1 : Int32)) = 0 then (0 : Int32) else (if (T.1 136 (v3.toNatClampNeg)) = v1 then (0 : Int32) else (if (v_X11_hasHeard T v1 v3) = 0 then vl_X11_mayTake n T v1 v2 (v3 + (1 : Int32)) else (0 : Int32)))) else vl_X11_mayTake n T v1 v2 (v3 + (1 : Int32)))) := rfl
set_option maxRecDepth 10000 in
theorem lj_X11_mayTake {X : ax_X} {d L sz : Nat} {Q : Int32 → tT → Prop} (hX : ax_ok X mX11_mayTake (d + 1)) (hsz : 161 ≤ sz) (hR : ax_Ret X mX11_mayTake (ti L sz Q)) : ∀ (n : Nat) (T : tT) (v1 : Int32) (v2 : Int32) (v3 : Int32), okl_X11_mayTake n sz T v1 v2 v3 → Q (vl_X11_mayTake n T v1 v2 v3) T → ax_j X 2 [some (.ref 105), some (.int v1), some (.int v2), some (.int v3)] [] (th L sz T) 0 0 := by
  intro n
  induction n with
  | zero => intro T v1 v2 v3 ok; exact False.elim ok
  | succ n ih =>
    intro T v1 v2 v3 ok hq
    refine s_X11_mayTake_2 hX hR hsz  v1 v2 v3 ?_
    unfold okl_X11_mayTake at ok
    refine ⟨fun kq0 => ?_, fun kq0 => ?_⟩
    · replace ok := ok.1 kq0
      have z := hq; rw [vl_X11_mayTake_s, if_pos kq0] at z; exact z
    · replace ok := ok.2 kq0
      refine ⟨ok.1, ?_⟩
      replace ok := ok.2
      refine ⟨fun kq1 => ?_, fun kq1 => ?_⟩
      · replace ok := ok.1 kq1
        refine ⟨ok.1, ?_⟩
        replace ok := ok.2
        refine ⟨ok.1, ?_⟩
        replace ok := ok.2
        refine ⟨fun kq2 => ?_, fun kq2 => ?_⟩
        · replace ok := ok.1 kq2
          have z := hq; rw [vl_X11_mayTake_s, if_neg kq0, if_pos kq1, if_pos kq2] at z; exact z
        · replace ok := ok.2 kq2
          refine ⟨ok.1, ?_⟩
          replace ok := ok.2
          refine ⟨fun kq3 => ?_, fun kq3 => ?_⟩
          · replace ok := ok.1 kq3
            have z := hq; rw [vl_X11_mayTake_s, if_neg kq0, if_pos kq1, if_neg kq2, if_pos kq3] at z; exact z
          · replace ok := ok.2 kq3
            refine ⟨_, c_X11_hasHeard hsz  v1 v3 ok.1, ?_⟩
            rintro _ _ ⟨rfl, rfl⟩
            replace ok := ok.2
            refine ⟨fun kq4 => ?_, fun kq4 => ?_⟩
            · replace ok := ok.1 kq4
              have z := hq; rw [vl_X11_mayTake_s, if_neg kq0, if_pos kq1, if_neg kq2, if_neg kq3, if_pos kq4] at z; exact ih _ v1 v2 (v3 + (1 : Int32)) ok z
            · replace ok := ok.2 kq4
              have z := hq; rw [vl_X11_mayTake_s, if_neg kq0, if_pos kq1, if_neg kq2, if_neg kq3, if_neg kq4] at z; exact z
      · replace ok := ok.2 kq1
        have z := hq; rw [vl_X11_mayTake_s, if_neg kq0, if_neg kq1] at z; exact ih _ v1 v2 (v3 + (1 : Int32)) ok z
noncomputable def v_X11_mayTake (T : tT)  (x0 : Int32) (x1 : Int32) : Int32 := vl_X11_mayTake fu T x0 x1 (0 : Int32)
noncomputable def ok_X11_mayTake (sz : Nat) (T : tT)  (x0 : Int32) (x1 : Int32) : Prop := okl_X11_mayTake fu sz T x0 x1 (0 : Int32)
set_option maxRecDepth 10000 in
theorem c_X11_mayTake {d L sz : Nat} {T : tT} (hsz : 161 ≤ sz) (x0 : Int32) (x1 : Int32) (ok : ok_X11_mayTake sz T x0 x1) : tiK (d + 1) mX11_mayTake [.ref 105, .int x0, .int x1] L sz T (fun r T' => r = v_X11_mayTake T x0 x1 ∧ T = T') := by
  refine k_X11_mayTake hsz  x0 x1 (fun X hX hR => ?_)
  unfold ok_X11_mayTake at ok
  exact lj_X11_mayTake hX hsz  hR _ _ x0 x1 (0 : Int32) ok ⟨by unfold v_X11_mayTake; rfl, rfl⟩
noncomputable def vl_X11_minutesIn : Nat → tT → Int32 → Int32 → Int32 → Int32 → Int32
  | 0, T, v1, v2, v3, v4 => 0
  | n + 1, T, v1, v2, v3, v4 => (if (T.1 105 48) ≤ v4 then v3 else (if (T.1 138 (v4.toNatClampNeg)) = v1 then (if v4 = v2 then vl_X11_minutesIn n T v1 v2 (v3 + (0 : Int32)) (v4 + (1 : Int32)) else vl_X11_minutesIn n T v1 v2 (v3 + (v_X11_minutesOf T (v_X11_spotOf T v4))) (v4 + (1 : Int32))) else vl_X11_minutesIn n T v1 v2 (v3 + (0 : Int32)) (v4 + (1 : Int32))))
noncomputable def okl_X11_minutesIn : Nat → Nat → tT → Int32 → Int32 → Int32 → Int32 → Prop
  | 0, _, T, v1, v2, v3, v4 => False
  | n + 1, sz, T, v1, v2, v3, v4 => (((T.1 105 48) ≤ v4 → True) ∧ (¬ (T.1 105 48) ≤ v4 → (vp_in v4 40 ∧ ((¬ (T.1 138 (v4.toNatClampNeg)) = v1 → okl_X11_minutesIn n sz T v1 v2 (v3 + (0 : Int32)) (v4 + (1 : Int32))) ∧ ((T.1 138 (v4.toNatClampNeg)) = v1 → ((v4 = v2 → okl_X11_minutesIn n sz T v1 v2 (v3 + (0 : Int32)) (v4 + (1 : Int32))) ∧ (¬ v4 = v2 → (ok_X11_spotOf sz T v4 ∧ (ok_X11_minutesOf sz T (v_X11_spotOf T v4) ∧ okl_X11_minutesIn n sz T v1 v2 (v3 + (v_X11_minutesOf T (v_X11_spotOf T v4))) (v4 + (1 : Int32)))))))))))
theorem vl_X11_minutesIn_s (n : Nat) (T : tT)  (v1 : Int32) (v2 : Int32) (v3 : Int32) (v4 : Int32) : vl_X11_minutesIn (n + 1) T v1 v2 v3 v4 = (if (T.1 105 48) ≤ v4 then v3 else (if (T.1 138 (v4.toNatClampNeg)) = v1 then (if v4 = v2 then vl_X11_minutesIn n T v1 v2 (v3 + (0 : Int32)) (v4 + (1 : Int32)) else vl_X11_minutesIn n T v1 v2 (v3 + (v_X11_minutesOf T (v_X11_spotOf T v4))) (v4 + (1 : Int32))) else vl_X11_minutesIn n T v1 v2 (v3 + (0 : Int32)) (v4 + (1 : Int32)))) := rfl
set_option maxRecDepth 10000 in
theorem lj_X11_minutesIn {X : ax_X} {d L sz : Nat} {Q : Int32 → tT → Prop} (hX : ax_ok X mX11_minutesIn (d + 2)) (hsz : 161 ≤ sz) (hR : ax_Ret X mX11_minutesIn (ti L sz Q)) : ∀ (n : Nat) (T : tT) (v1 : Int32) (v2 : Int32) (v3 : Int32) (v4 : Int32), okl_X11_minutesIn n sz T v1 v2 v3 v4 → Q (vl_X11_minutesIn n T v1 v2 v3 v4) T → ax_j X 5 [some (.ref 105), some (.int v1), some (.int v2), some (.int v3), some (.int v4)] [] (th L sz T) 0 0 := by
  intro n
  induction n with
  | zero => intro T v1 v2 v3 v4 ok; exact False.elim ok
  | succ n ih =>
    intro T v1 v2 v3 v4 ok hq
    refine s_X11_minutesIn_5 hX hR hsz  v1 v2 v3 v4 ?_
    unfold okl_X11_minutesIn at ok
    refine ⟨fun kq0 => ?_, fun kq0 => ?_⟩
    · replace ok := ok.1 kq0
      have z := hq; rw [vl_X11_minutesIn_s, if_pos kq0] at z; exact z
    · replace ok := ok.2 kq0
      refine ⟨ok.1, ?_⟩
      replace ok := ok.2
      refine ⟨fun kq1 => ?_, fun kq1 => ?_⟩
      · replace ok := ok.1 kq1
        have z := hq; rw [vl_X11_minutesIn_s, if_neg kq0, if_neg kq1] at z; exact ih _ v1 v2 (v3 + (0 : Int32)) (v4 + (1 : Int32)) ok z
      · replace ok := ok.2 kq1
        refine ⟨fun kq2 => ?_, fun kq2 => ?_⟩
        · replace ok := ok.1 kq2
          have z := hq; rw [vl_X11_minutesIn_s, if_neg kq0, if_pos kq1, if_pos kq2] at z; exact ih _ v1 v2 (v3 + (0 : Int32)) (v4 + (1 : Int32)) ok z
        · replace ok := ok.2 kq2
          refine ⟨_, c_X11_spotOf hsz  v4 ok.1, ?_⟩
          rintro _ _ ⟨rfl, rfl⟩
          replace ok := ok.2
          refine ⟨_, c_X11_minutesOf hsz  (v_X11_spotOf T v4) ok.1, ?_⟩
          rintro _ _ ⟨rfl, rfl⟩
          replace ok := ok.2
          have z := hq; rw [vl_X11_minutesIn_s, if_neg kq0, if_pos kq1, if_neg kq2] at z; exact ih _ v1 v2 (v3 + (v_X11_minutesOf T (v_X11_spotOf T v4))) (v4 + (1 : Int32)) ok z
noncomputable def v_X11_minutesIn (T : tT)  (x0 : Int32) (x1 : Int32) : Int32 := vl_X11_minutesIn fu T x0 x1 (0 : Int32) (0 : Int32)
noncomputable def ok_X11_minutesIn (sz : Nat) (T : tT)  (x0 : Int32) (x1 : Int32) : Prop := okl_X11_minutesIn fu sz T x0 x1 (0 : Int32) (0 : Int32)
set_option maxRecDepth 10000 in
theorem c_X11_minutesIn {d L sz : Nat} {T : tT} (hsz : 161 ≤ sz) (x0 : Int32) (x1 : Int32) (ok : ok_X11_minutesIn sz T x0 x1) : tiK (d + 2) mX11_minutesIn [.ref 105, .int x0, .int x1] L sz T (fun r T' => r = v_X11_minutesIn T x0 x1 ∧ T = T') := by
  refine k_X11_minutesIn hsz  x0 x1 (fun X hX hR => ?_)
  unfold ok_X11_minutesIn at ok
  exact lj_X11_minutesIn hX hsz  hR _ _ x0 x1 (0 : Int32) (0 : Int32) ok ⟨by unfold v_X11_minutesIn; rfl, rfl⟩
noncomputable def vl_X11_nextOf : Nat → tT → Int32 → Int32 → Int32 → Int32 → Int32
  | 0, T, v1, v2, v3, v4 => 0
  | n + 1, T, v1, v2, v3, v4 => (if (T.1 105 58) ≤ v4 then v3 else (if ((v1 >>> (v4 &&& 31)) &&& (1 : Int32)) = (1 : Int32) then (if (T.1 146 (v4.toNatClampNeg)) < v2 then vl_X11_nextOf n T v1 v2 v3 (v4 + (1 : Int32)) else (if v3 < 0 then vl_X11_nextOf n T v1 v2 v4 (v4 + (1 : Int32)) else (if (T.1 146 (v3.toNatClampNeg)) ≤ (T.1 146 (v4.toNatClampNeg)) then vl_X11_nextOf n T v1 v2 v3 (v4 + (1 : Int32)) else vl_X11_nextOf n T v1 v2 v4 (v4 + (1 : Int32))))) else vl_X11_nextOf n T v1 v2 v3 (v4 + (1 : Int32))))
noncomputable def okl_X11_nextOf : Nat → Nat → tT → Int32 → Int32 → Int32 → Int32 → Prop
  | 0, _, T, v1, v2, v3, v4 => False
  | n + 1, sz, T, v1, v2, v3, v4 => (((T.1 105 58) ≤ v4 → True) ∧ (¬ (T.1 105 58) ≤ v4 → ((¬ ((v1 >>> (v4 &&& 31)) &&& (1 : Int32)) = (1 : Int32) → okl_X11_nextOf n sz T v1 v2 v3 (v4 + (1 : Int32))) ∧ (((v1 >>> (v4 &&& 31)) &&& (1 : Int32)) = (1 : Int32) → (vp_in v4 9 ∧ (((T.1 146 (v4.toNatClampNeg)) < v2 → okl_X11_nextOf n sz T v1 v2 v3 (v4 + (1 : Int32))) ∧ (¬ (T.1 146 (v4.toNatClampNeg)) < v2 → ((v3 < 0 → okl_X11_nextOf n sz T v1 v2 v4 (v4 + (1 : Int32))) ∧ (¬ v3 < 0 → (vp_in v4 9 ∧ (vp_in v3 9 ∧ (((T.1 146 (v3.toNatClampNeg)) ≤ (T.1 146 (v4.toNatClampNeg)) → okl_X11_nextOf n sz T v1 v2 v3 (v4 + (1 : Int32))) ∧ (¬ (T.1 146 (v3.toNatClampNeg)) ≤ (T.1 146 (v4.toNatClampNeg)) → okl_X11_nextOf n sz T v1 v2 v4 (v4 + (1 : Int32)))))))))))))))
theorem vl_X11_nextOf_s (n : Nat) (T : tT)  (v1 : Int32) (v2 : Int32) (v3 : Int32) (v4 : Int32) : vl_X11_nextOf (n + 1) T v1 v2 v3 v4 = (if (T.1 105 58) ≤ v4 then v3 else (if ((v1 >>> (v4 &&& 31)) &&& (1 : Int32)) = (1 : Int32) then (if (T.1 146 (v4.toNatClampNeg)) < v2 then vl_X11_nextOf n T v1 v2 v3 (v4 + (1 : Int32)) else (if v3 < 0 then vl_X11_nextOf n T v1 v2 v4 (v4 + (1 : Int32)) else (if (T.1 146 (v3.toNatClampNeg)) ≤ (T.1 146 (v4.toNatClampNeg)) then vl_X11_nextOf n T v1 v2 v3 (v4 + (1 : Int32)) else vl_X11_nextOf n T v1 v2 v4 (v4 + (1 : Int32))))) else vl_X11_nextOf n T v1 v2 v3 (v4 + (1 : Int32)))) := rfl
set_option maxRecDepth 10000 in
theorem lj_X11_nextOf {X : ax_X} {d L sz : Nat} {Q : Int32 → tT → Prop} (hX : ax_ok X mX11_nextOf d) (hsz : 161 ≤ sz) (hR : ax_Ret X mX11_nextOf (ti L sz Q)) : ∀ (n : Nat) (T : tT) (v1 : Int32) (v2 : Int32) (v3 : Int32) (v4 : Int32), okl_X11_nextOf n sz T v1 v2 v3 v4 → Q (vl_X11_nextOf n T v1 v2 v3 v4) T → ax_j X 5 [some (.ref 105), some (.int v1), some (.int v2), some (.int v3), some (.int v4)] [] (th L sz T) 0 0 := by
  intro n
  induction n with
  | zero => intro T v1 v2 v3 v4 ok; exact False.elim ok
  | succ n ih =>
    intro T v1 v2 v3 v4 ok hq
    refine s_X11_nextOf_5 hX hR hsz  v1 v2 v3 v4 ?_
    unfold okl_X11_nextOf at ok
    refine ⟨fun kq0 => ?_, fun kq0 => ?_⟩
    · replace ok := ok.1 kq0
      have z := hq; rw [vl_X11_nextOf_s, if_pos kq0] at z; exact z
    · replace ok := ok.2 kq0
      refine ⟨fun kq1 => ?_, fun kq1 => ?_⟩
      · replace ok := ok.1 kq1
        have z := hq; rw [vl_X11_nextOf_s, if_neg kq0, if_neg kq1] at z; exact ih _ v1 v2 v3 (v4 + (1 : Int32)) ok z
      · replace ok := ok.2 kq1
        refine ⟨ok.1, ?_⟩
        replace ok := ok.2
        refine ⟨fun kq2 => ?_, fun kq2 => ?_⟩
        · replace ok := ok.1 kq2
          have z := hq; rw [vl_X11_nextOf_s, if_neg kq0, if_pos kq1, if_pos kq2] at z; exact ih _ v1 v2 v3 (v4 + (1 : Int32)) ok z
        · replace ok := ok.2 kq2
          refine ⟨fun kq3 => ?_, fun kq3 => ?_⟩
          · replace ok := ok.1 kq3
            have z := hq; rw [vl_X11_nextOf_s, if_neg kq0, if_pos kq1, if_neg kq2, if_pos kq3] at z; exact ih _ v1 v2 v4 (v4 + (1 : Int32)) ok z
          · replace ok := ok.2 kq3
            refine ⟨ok.1, ?_⟩
            replace ok := ok.2
            refine ⟨ok.1, ?_⟩
            replace ok := ok.2
            refine ⟨fun kq4 => ?_, fun kq4 => ?_⟩
            · replace ok := ok.1 kq4
              have z := hq; rw [vl_X11_nextOf_s, if_neg kq0, if_pos kq1, if_neg kq2, if_neg kq3, if_pos kq4] at z; exact ih _ v1 v2 v3 (v4 + (1 : Int32)) ok z
            · replace ok := ok.2 kq4
              have z := hq; rw [vl_X11_nextOf_s, if_neg kq0, if_pos kq1, if_neg kq2, if_neg kq3, if_neg kq4] at z; exact ih _ v1 v2 v4 (v4 + (1 : Int32)) ok z
noncomputable def v_X11_nextOf (T : tT)  (x0 : Int32) (x1 : Int32) : Int32 := vl_X11_nextOf fu T x0 x1 (-1 : Int32) (0 : Int32)
noncomputable def ok_X11_nextOf (sz : Nat) (T : tT)  (x0 : Int32) (x1 : Int32) : Prop := okl_X11_nextOf fu sz T x0 x1 (-1 : Int32) (0 : Int32)
set_option maxRecDepth 10000 in
theorem c_X11_nextOf {d L sz : Nat} {T : tT} (hsz : 161 ≤ sz) (x0 : Int32) (x1 : Int32) (ok : ok_X11_nextOf sz T x0 x1) : tiK d mX11_nextOf [.ref 105, .int x0, .int x1] L sz T (fun r T' => r = v_X11_nextOf T x0 x1 ∧ T = T') := by
  refine k_X11_nextOf hsz  x0 x1 (fun X hX hR => ?_)
  unfold ok_X11_nextOf at ok
  exact lj_X11_nextOf hX hsz  hR _ _ x0 x1 (-1 : Int32) (0 : Int32) ok ⟨by unfold v_X11_nextOf; rfl, rfl⟩
noncomputable def vl_X11_of : Nat → tT → Int32 → Int32 → Int32 → Int32 → Int32
  | 0, T, v1, v2, v3, v4 => 0
  | n + 1, T, v1, v2, v3, v4 => (if (T.1 105 48) ≤ v4 then (if v2 = 0 then (T.1 145 (v1.toNatClampNeg)) else (if v2 = 1 then (T.1 146 (v1.toNatClampNeg)) else (if v2 = 2 then v3 else (if v2 = 3 then (v_X11_minutesIn T v1 (-1 : Int32)) else (-1 : Int32))))) else (if (T.1 138 (v4.toNatClampNeg)) = v1 then vl_X11_of n T v1 v2 (v3 + (1 : Int32)) (v4 + (1 : Int32)) else vl_X11_of n T v1 v2 (v3 + (0 : Int32)) (v4 + (1 : Int32))))
noncomputable def okl_X11_of : Nat → Nat → tT → Int32 → Int32 → Int32 → Int32 → Prop
  | 0, _, T, v1, v2, v3, v4 => False
  | n + 1, sz, T, v1, v2, v3, v4 => (((T.1 105 48) ≤ v4 → ((v2 = 0 → vp_in v1 9) ∧ (v2 = 1 → vp_in v1 9) ∧ (v2 = 2 → True) ∧ (v2 = 3 → (ok_X11_minutesIn sz T v1 (-1 : Int32) ∧ True)) ∧ (¬ v2 = 0 → ¬ v2 = 1 → ¬ v2 = 2 → ¬ v2 = 3 → True))) ∧ (¬ (T.1 105 48) ≤ v4 → (vp_in v4 40 ∧ ((¬ (T.1 138 (v4.toNatClampNeg)) = v1 → okl_X11_of n sz T v1 v2 (v3 + (0 : Int32)) (v4 + (1 : Int32))) ∧ ((T.1 138 (v4.toNatClampNeg)) = v1 → okl_X11_of n sz T v1 v2 (v3 + (1 : Int32)) (v4 + (1 : Int32)))))))
theorem vl_X11_of_s (n : Nat) (T : tT)  (v1 : Int32) (v2 : Int32) (v3 : Int32) (v4 : Int32) : vl_X11_of (n + 1) T v1 v2 v3 v4 = (if (T.1 105 48) ≤ v4 then (if v2 = 0 then (T.1 145 (v1.toNatClampNeg)) else (if v2 = 1 then (T.1 146 (v1.toNatClampNeg)) else (if v2 = 2 then v3 else (if v2 = 3 then (v_X11_minutesIn T v1 (-1 : Int32)) else (-1 : Int32))))) else (if (T.1 138 (v4.toNatClampNeg)) = v1 then vl_X11_of n T v1 v2 (v3 + (1 : Int32)) (v4 + (1 : Int32)) else vl_X11_of n T v1 v2 (v3 + (0 : Int32)) (v4 + (1 : Int32)))) := rfl
set_option maxRecDepth 10000 in
theorem lj_X11_of {X : ax_X} {d L sz : Nat} {Q : Int32 → tT → Prop} (hX : ax_ok X mX11_of (d + 3)) (hsz : 161 ≤ sz) (hR : ax_Ret X mX11_of (ti L sz Q)) : ∀ (n : Nat) (T : tT) (v1 : Int32) (v2 : Int32) (v3 : Int32) (v4 : Int32), okl_X11_of n sz T v1 v2 v3 v4 → Q (vl_X11_of n T v1 v2 v3 v4) T → ax_j X 15 [some (.ref 105), some (.int v1), some (.int v2), some (.int v3), some (.int v4)] [] (th L sz T) 0 0 := by
  intro n
  induction n with
  | zero => intro T v1 v2 v3 v4 ok; exact False.elim ok
  | succ n ih =>
    intro T v1 v2 v3 v4 ok hq
    refine s_X11_of_15 hX hR hsz  v1 v2 v3 v4 ?_
    unfold okl_X11_of at ok
    refine ⟨fun kq0 => ?_, fun kq0 => ?_⟩
    · replace ok := ok.1 kq0
      refine ⟨fun kq1 => ?_, fun kq1 => ?_, fun kq1 => ?_, fun kq1 => ?_, fun kq1_0 kq1_1 kq1_2 kq1_3 => ?_⟩
      · replace ok := ok.1 kq1
        refine ⟨ok, ?_⟩
        have z := hq; rw [vl_X11_of_s, if_pos kq0, if_pos kq1] at z; exact z
      · replace ok := ok.2.1 kq1
        refine ⟨ok, ?_⟩
        have z := hq; rw [vl_X11_of_s, if_pos kq0, if_neg (show ¬ v2 = 0 by rw [kq1]; decide), if_pos kq1] at z; exact z
      · replace ok := ok.2.2.1 kq1
        have z := hq; rw [vl_X11_of_s, if_pos kq0, if_neg (show ¬ v2 = 0 by rw [kq1]; decide), if_neg (show ¬ v2 = 1 by rw [kq1]; decide), if_pos kq1] at z; exact z
      · replace ok := ok.2.2.2.1 kq1
        refine ⟨_, c_X11_minutesIn hsz  v1 (-1 : Int32) ok.1, ?_⟩
        rintro _ _ ⟨rfl, rfl⟩
        replace ok := ok.2
        have z := hq; rw [vl_X11_of_s, if_pos kq0, if_neg (show ¬ v2 = 0 by rw [kq1]; decide), if_neg (show ¬ v2 = 1 by rw [kq1]; decide), if_neg (show ¬ v2 = 2 by rw [kq1]; decide), if_pos kq1] at z; exact z
      · replace ok := ok.2.2.2.2 kq1_0 kq1_1 kq1_2 kq1_3
        have z := hq; rw [vl_X11_of_s, if_pos kq0, if_neg kq1_0, if_neg kq1_1, if_neg kq1_2, if_neg kq1_3] at z; exact z
    · replace ok := ok.2 kq0
      refine ⟨ok.1, ?_⟩
      replace ok := ok.2
      refine ⟨fun kq1 => ?_, fun kq1 => ?_⟩
      · replace ok := ok.1 kq1
        have z := hq; rw [vl_X11_of_s, if_neg kq0, if_neg kq1] at z; exact ih _ v1 v2 (v3 + (0 : Int32)) (v4 + (1 : Int32)) ok z
      · replace ok := ok.2 kq1
        have z := hq; rw [vl_X11_of_s, if_neg kq0, if_pos kq1] at z; exact ih _ v1 v2 (v3 + (1 : Int32)) (v4 + (1 : Int32)) ok z
noncomputable def v_X11_of (T : tT)  (x0 : Int32) (x1 : Int32) : Int32 := (if (v_X11_isSession T x0) = 0 then (-1 : Int32) else vl_X11_of fu T x0 x1 (0 : Int32) (0 : Int32))
noncomputable def ok_X11_of (sz : Nat) (T : tT)  (x0 : Int32) (x1 : Int32) : Prop := ((¬ (v_X11_isSession T x0) = 0 → okl_X11_of fu sz T x0 x1 (0 : Int32) (0 : Int32)) ∧ ((v_X11_isSession T x0) = 0 → True))
set_option maxRecDepth 10000 in
theorem c_X11_of {d L sz : Nat} {T : tT} (hsz : 161 ≤ sz) (x0 : Int32) (x1 : Int32) (ok : ok_X11_of sz T x0 x1) : tiK (d + 3) mX11_of [.ref 105, .int x0, .int x1] L sz T (fun r T' => r = v_X11_of T x0 x1 ∧ T = T') := by
  refine k_X11_of hsz  x0 x1 (fun X hX hR => ?_)
  unfold ok_X11_of at ok
  refine ⟨_, c_X11_isSession hsz  x0 , ?_⟩
  rintro _ _ ⟨rfl, rfl⟩
  refine ⟨fun kq0 => ?_, fun kq0 => ?_⟩
  · replace ok := ok.1 kq0
    exact lj_X11_of hX hsz  hR _ _ x0 x1 (0 : Int32) (0 : Int32) ok ⟨by unfold v_X11_of; first | (rw [if_neg kq0]; done) | (rw [if_neg kq0]; rfl), rfl⟩
  · replace ok := ok.2 kq0
    exact ⟨by unfold v_X11_of; first | (rw [if_pos kq0]; done) | (rw [if_pos kq0]; rfl), rfl⟩
noncomputable def vl_X11_partOf : Nat → tT → Int32 → Int64 → Int32 → Int32
  | 0, T, v1, v2, v4 => 0
  | n + 1, T, v1, v2, v4 => (if (T.1 113 (v1.toNatClampNeg)) ≤ v4 then (-1 : Int32) else (if (T.2.1 128 (((6 : Int32) * v1) + v4).toNatClampNeg) = v2 then v4 else vl_X11_partOf n T v1 v2 (v4 + (1 : Int32))))
noncomputable def okl_X11_partOf : Nat → Nat → tT → Int32 → Int64 → Int32 → Prop
  | 0, _, T, v1, v2, v4 => False
  | n + 1, sz, T, v1, v2, v4 => (vp_in v1 40 ∧ (((T.1 113 (v1.toNatClampNeg)) ≤ v4 → True) ∧ (¬ (T.1 113 (v1.toNatClampNeg)) ≤ v4 → (vp_in (((6 : Int32) * v1) + v4) 240 ∧ ((¬ (T.2.1 128 (((6 : Int32) * v1) + v4).toNatClampNeg) = v2 → okl_X11_partOf n sz T v1 v2 (v4 + (1 : Int32))) ∧ ((T.2.1 128 (((6 : Int32) * v1) + v4).toNatClampNeg) = v2 → True))))))
theorem vl_X11_partOf_s (n : Nat) (T : tT)  (v1 : Int32) (v2 : Int64) (v4 : Int32) : vl_X11_partOf (n + 1) T v1 v2 v4 = (if (T.1 113 (v1.toNatClampNeg)) ≤ v4 then (-1 : Int32) else (if (T.2.1 128 (((6 : Int32) * v1) + v4).toNatClampNeg) = v2 then v4 else vl_X11_partOf n T v1 v2 (v4 + (1 : Int32)))) := rfl
set_option maxRecDepth 10000 in
theorem lj_X11_partOf {X : ax_X} {d L sz : Nat} {Q : Int32 → tT → Prop} (hX : ax_ok X mX11_partOf d) (hsz : 161 ≤ sz) (hR : ax_Ret X mX11_partOf (ti L sz Q)) : ∀ (n : Nat) (T : tT) (v1 : Int32) (v2 : Int64) (v4 : Int32), okl_X11_partOf n sz T v1 v2 v4 → Q (vl_X11_partOf n T v1 v2 v4) T → ax_j X 3 [some (.ref 105), some (.int v1), some (.long v2), none, some (.int v4)] [] (th L sz T) 0 0 := by
  intro n
  induction n with
  | zero => intro T v1 v2 v4 ok; exact False.elim ok
  | succ n ih =>
    intro T v1 v2 v4 ok hq
    refine s_X11_partOf_3 hX hR hsz  v1 v2 v4 ?_
    unfold okl_X11_partOf at ok
    refine ⟨ok.1, ?_⟩
    replace ok := ok.2
    refine ⟨fun kq0 => ?_, fun kq0 => ?_⟩
    · replace ok := ok.1 kq0
      have z := hq; rw [vl_X11_partOf_s, if_pos kq0] at z; exact z
    · replace ok := ok.2 kq0
      refine ⟨ok.1, ?_⟩
      replace ok := ok.2
      refine ⟨fun kq1 => ?_, fun kq1 => ?_⟩
      · replace ok := ok.1 kq1
        have z := hq; rw [vl_X11_partOf_s, if_neg kq0, if_neg kq1] at z; exact ih _ v1 v2 (v4 + (1 : Int32)) ok z
      · replace ok := ok.2 kq1
        have z := hq; rw [vl_X11_partOf_s, if_neg kq0, if_pos kq1] at z; exact z
noncomputable def v_X11_partOf (T : tT)  (x0 : Int32) (x1 : Int64) : Int32 := vl_X11_partOf fu T x0 x1 (0 : Int32)
noncomputable def ok_X11_partOf (sz : Nat) (T : tT)  (x0 : Int32) (x1 : Int64) : Prop := okl_X11_partOf fu sz T x0 x1 (0 : Int32)
set_option maxRecDepth 10000 in
theorem c_X11_partOf {d L sz : Nat} {T : tT} (hsz : 161 ≤ sz) (x0 : Int32) (x1 : Int64) (ok : ok_X11_partOf sz T x0 x1) : tiK d mX11_partOf [.ref 105, .int x0, .long x1] L sz T (fun r T' => r = v_X11_partOf T x0 x1 ∧ T = T') := by
  refine k_X11_partOf hsz  x0 x1 (fun X hX hR => ?_)
  unfold ok_X11_partOf at ok
  exact lj_X11_partOf hX hsz  hR _ _ x0 x1 (0 : Int32) ok ⟨by unfold v_X11_partOf; rfl, rfl⟩
noncomputable def vl_X11_piece : Nat → tT → Int32 → Int64 → Int32 → Int32 × tT
  | 0, T, v1, v2, v4 => (0, T)
  | n + 1, T, v1, v2, v4 => (if (T.1 137 (v1.toNatClampNeg)) ≤ v4 then (((tI (tJ T 139 ((((4 : Int32) * v1) + (T.1 137 (v1.toNatClampNeg))).toNatClampNeg) v2) 137 (v1.toNatClampNeg) ((T.1 137 (v1.toNatClampNeg)) + (1 : Int32))).1 137 (v1.toNatClampNeg)), (tI (tJ T 139 ((((4 : Int32) * v1) + (T.1 137 (v1.toNatClampNeg))).toNatClampNeg) v2) 137 (v1.toNatClampNeg) ((T.1 137 (v1.toNatClampNeg)) + (1 : Int32)))) else (if (T.2.1 139 (((4 : Int32) * v1) + v4).toNatClampNeg) = v2 then ((-1 : Int32), T) else vl_X11_piece n T v1 v2 (v4 + (1 : Int32))))
noncomputable def okl_X11_piece : Nat → Nat → tT → Int32 → Int64 → Int32 → Prop
  | 0, _, T, v1, v2, v4 => False
  | n + 1, sz, T, v1, v2, v4 => (vp_in v1 40 ∧ (((T.1 137 (v1.toNatClampNeg)) ≤ v4 → (vp_in v1 40 ∧ (vp_in (((4 : Int32) * v1) + (T.1 137 (v1.toNatClampNeg))) 160 ∧ (vp_in v1 40 ∧ (vp_in v1 40 ∧ vp_in v1 40))))) ∧ (¬ (T.1 137 (v1.toNatClampNeg)) ≤ v4 → (vp_in (((4 : Int32) * v1) + v4) 160 ∧ ((¬ (T.2.1 139 (((4 : Int32) * v1) + v4).toNatClampNeg) = v2 → okl_X11_piece n sz T v1 v2 (v4 + (1 : Int32))) ∧ ((T.2.1 139 (((4 : Int32) * v1) + v4).toNatClampNeg) = v2 → True))))))
theorem vl_X11_piece_s (n : Nat) (T : tT)  (v1 : Int32) (v2 : Int64) (v4 : Int32) : vl_X11_piece (n + 1) T v1 v2 v4 = (if (T.1 137 (v1.toNatClampNeg)) ≤ v4 then (((tI (tJ T 139 ((((4 : Int32) * v1) + (T.1 137 (v1.toNatClampNeg))).toNatClampNeg) v2) 137 (v1.toNatClampNeg) ((T.1 137 (v1.toNatClampNeg)) + (1 : Int32))).1 137 (v1.toNatClampNeg)), (tI (tJ T 139 ((((4 : Int32) * v1) + (T.1 137 (v1.toNatClampNeg))).toNatClampNeg) v2) 137 (v1.toNatClampNeg) ((T.1 137 (v1.toNatClampNeg)) + (1 : Int32)))) else (if (T.2.1 139 (((4 : Int32) * v1) + v4).toNatClampNeg) = v2 then ((-1 : Int32), T) else vl_X11_piece n T v1 v2 (v4 + (1 : Int32)))) := rfl
set_option maxRecDepth 10000 in
theorem lj_X11_piece {X : ax_X} {d L sz : Nat} {Q : Int32 → tT → Prop} (hX : ax_ok X mX11_piece (d + 2)) (hsz : 161 ≤ sz) (hR : ax_Ret X mX11_piece (ti L sz Q)) : ∀ (n : Nat) (T : tT) (v1 : Int32) (v2 : Int64) (v4 : Int32), okl_X11_piece n sz T v1 v2 v4 → Q (vl_X11_piece n T v1 v2 v4).1 (vl_X11_piece n T v1 v2 v4).2 → ax_j X 30 [some (.ref 105), some (.int v1), some (.long v2), none, some (.int v4)] [] (th L sz T) 0 0 := by
  intro n
  induction n with
  | zero => intro T v1 v2 v4 ok; exact False.elim ok
  | succ n ih =>
    intro T v1 v2 v4 ok hq
    refine s_X11_piece_30 hX hR hsz  v1 v2 v4 ?_
    unfold okl_X11_piece at ok
    refine ⟨ok.1, ?_⟩
    replace ok := ok.2
    refine ⟨fun kq0 => ?_, fun kq0 => ?_⟩
    · replace ok := ok.1 kq0
      refine ⟨ok.1, ?_⟩
      replace ok := ok.2
      refine ⟨ok.1, ?_⟩
      replace ok := ok.2
      refine ⟨ok.1, ?_⟩
      replace ok := ok.2
      refine ⟨ok.1, ?_⟩
      replace ok := ok.2
      refine ⟨ok, ?_⟩
      have z := hq; rw [vl_X11_piece_s, if_pos kq0] at z; exact z
    · replace ok := ok.2 kq0
      refine ⟨ok.1, ?_⟩
      replace ok := ok.2
      refine ⟨fun kq1 => ?_, fun kq1 => ?_⟩
      · replace ok := ok.1 kq1
        have z := hq; rw [vl_X11_piece_s, if_neg kq0, if_neg kq1] at z; exact ih _ v1 v2 (v4 + (1 : Int32)) ok z
      · replace ok := ok.2 kq1
        have z := hq; rw [vl_X11_piece_s, if_neg kq0, if_pos kq1] at z; exact z
noncomputable def F_X11_piece (T : tT)  (x0 : Int32) (x1 : Int64) : Int32 × tT := (if (v_X11_isEntry T x0) = 0 then ((-1 : Int32), T) else (if (v_X11_isName T x1) = 0 then ((-1 : Int32), T) else (if (T.1 137 (x0.toNatClampNeg)) = (4 : Int32) then ((-1 : Int32), T) else vl_X11_piece fu T x0 x1 (0 : Int32))))
noncomputable def ok_X11_piece (sz : Nat) (T : tT)  (x0 : Int32) (x1 : Int64) : Prop := (((v_X11_isEntry T x0) = 0 → True) ∧ (¬ (v_X11_isEntry T x0) = 0 → (ok_X11_isName sz T x1 ∧ (((v_X11_isName T x1) = 0 → True) ∧ (¬ (v_X11_isName T x1) = 0 → (vp_in x0 40 ∧ ((¬ (T.1 137 (x0.toNatClampNeg)) = (4 : Int32) → okl_X11_piece fu sz T x0 x1 (0 : Int32)) ∧ ((T.1 137 (x0.toNatClampNeg)) = (4 : Int32) → True))))))))
set_option maxRecDepth 10000 in
theorem c_X11_piece {d L sz : Nat} {T : tT} (hsz : 161 ≤ sz) (x0 : Int32) (x1 : Int64) (ok : ok_X11_piece sz T x0 x1) : tiK (d + 2) mX11_piece [.ref 105, .int x0, .long x1] L sz T (fun r T' => r = (F_X11_piece T x0 x1).1 ∧ T' = (F_X11_piece T x0 x1).2) := by
  refine k_X11_piece hsz  x0 x1 (fun X hX hR => ?_)
  unfold ok_X11_piece at ok
  refine ⟨_, c_X11_isEntry hsz  x0 , ?_⟩
  rintro _ _ ⟨rfl, rfl⟩
  refine ⟨fun kq0 => ?_, fun kq0 => ?_⟩
  · replace ok := ok.1 kq0
    exact ⟨by unfold F_X11_piece; first | (rw [if_pos kq0]; done) | (rw [if_pos kq0]; rfl), by unfold F_X11_piece; first | (rw [if_pos kq0]; done) | (rw [if_pos kq0]; rfl)⟩
  · replace ok := ok.2 kq0
    refine ⟨_, c_X11_isName hsz  x1 ok.1, ?_⟩
    rintro _ _ ⟨rfl, rfl⟩
    replace ok := ok.2
    refine ⟨fun kq1 => ?_, fun kq1 => ?_⟩
    · replace ok := ok.1 kq1
      exact ⟨by unfold F_X11_piece; first | (rw [if_neg kq0, if_pos kq1]; done) | (rw [if_neg kq0, if_pos kq1]; rfl), by unfold F_X11_piece; first | (rw [if_neg kq0, if_pos kq1]; done) | (rw [if_neg kq0, if_pos kq1]; rfl)⟩
    · replace ok := ok.2 kq1
      refine ⟨ok.1, ?_⟩
      replace ok := ok.2
      refine ⟨fun kq2 => ?_, fun kq2 => ?_⟩
      · replace ok := ok.1 kq2
        exact lj_X11_piece hX hsz  hR _ _ x0 x1 (0 : Int32) ok ⟨by unfold F_X11_piece; first | (rw [if_neg kq0, if_neg kq1, if_neg kq2]; done) | (rw [if_neg kq0, if_neg kq1, if_neg kq2]; rfl), by unfold F_X11_piece; first | (rw [if_neg kq0, if_neg kq1, if_neg kq2]; done) | (rw [if_neg kq0, if_neg kq1, if_neg kq2]; rfl)⟩
      · replace ok := ok.2 kq2
        exact ⟨by unfold F_X11_piece; first | (rw [if_neg kq0, if_neg kq1, if_pos kq2]; done) | (rw [if_neg kq0, if_neg kq1, if_pos kq2]; rfl), by unfold F_X11_piece; first | (rw [if_neg kq0, if_neg kq1, if_pos kq2]; done) | (rw [if_neg kq0, if_neg kq1, if_pos kq2]; rfl)⟩
noncomputable def vl_X11_total : Nat → tT → Int32 → Int32 → Int32 → Int32
  | 0, T, v1, v2, v3 => 0
  | n + 1, T, v1, v2, v3 => (if (T.1 113 (v1.toNatClampNeg)) ≤ v3 then v2 else vl_X11_total n T v1 (v2 + (T.1 141 (v3.toNatClampNeg))) (v3 + (1 : Int32)))
noncomputable def okl_X11_total : Nat → Nat → tT → Int32 → Int32 → Int32 → Prop
  | 0, _, T, v1, v2, v3 => False
  | n + 1, sz, T, v1, v2, v3 => (vp_in v1 40 ∧ (((T.1 113 (v1.toNatClampNeg)) ≤ v3 → True) ∧ (¬ (T.1 113 (v1.toNatClampNeg)) ≤ v3 → (vp_in v3 6 ∧ okl_X11_total n sz T v1 (v2 + (T.1 141 (v3.toNatClampNeg))) (v3 + (1 : Int32))))))
theorem vl_X11_total_s (n : Nat) (T : tT)  (v1 : Int32) (v2 : Int32) (v3 : Int32) : vl_X11_total (n + 1) T v1 v2 v3 = (if (T.1 113 (v1.toNatClampNeg)) ≤ v3 then v2 else vl_X11_total n T v1 (v2 + (T.1 141 (v3.toNatClampNeg))) (v3 + (1 : Int32))) := rfl
set_option maxRecDepth 10000 in
theorem lj_X11_total {X : ax_X} {d L sz : Nat} {Q : Int32 → tT → Prop} (hX : ax_ok X mX11_total d) (hsz : 161 ≤ sz) (hR : ax_Ret X mX11_total (ti L sz Q)) : ∀ (n : Nat) (T : tT) (v1 : Int32) (v2 : Int32) (v3 : Int32), okl_X11_total n sz T v1 v2 v3 → Q (vl_X11_total n T v1 v2 v3) T → ax_j X 4 [some (.ref 105), some (.int v1), some (.int v2), some (.int v3)] [] (th L sz T) 0 0 := by
  intro n
  induction n with
  | zero => intro T v1 v2 v3 ok; exact False.elim ok
  | succ n ih =>
    intro T v1 v2 v3 ok hq
    refine s_X11_total_4 hX hR hsz  v1 v2 v3 ?_
    unfold okl_X11_total at ok
    refine ⟨ok.1, ?_⟩
    replace ok := ok.2
    refine ⟨fun kq0 => ?_, fun kq0 => ?_⟩
    · replace ok := ok.1 kq0
      have z := hq; rw [vl_X11_total_s, if_pos kq0] at z; exact z
    · replace ok := ok.2 kq0
      refine ⟨ok.1, ?_⟩
      replace ok := ok.2
      have z := hq; rw [vl_X11_total_s, if_neg kq0] at z; exact ih _ v1 (v2 + (T.1 141 (v3.toNatClampNeg))) (v3 + (1 : Int32)) ok z
noncomputable def v_X11_total (T : tT)  (x0 : Int32) : Int32 := vl_X11_total fu T x0 (0 : Int32) (0 : Int32)
noncomputable def ok_X11_total (sz : Nat) (T : tT)  (x0 : Int32) : Prop := okl_X11_total fu sz T x0 (0 : Int32) (0 : Int32)
set_option maxRecDepth 10000 in
theorem c_X11_total {d L sz : Nat} {T : tT} (hsz : 161 ≤ sz) (x0 : Int32) (ok : ok_X11_total sz T x0) : tiK d mX11_total [.ref 105, .int x0] L sz T (fun r T' => r = v_X11_total T x0 ∧ T = T') := by
  refine k_X11_total hsz  x0 (fun X hX hR => ?_)
  unfold ok_X11_total at ok
  exact lj_X11_total hX hsz  hR _ _ x0 (0 : Int32) (0 : Int32) ok ⟨by unfold v_X11_total; rfl, rfl⟩
noncomputable def v_X3_findList (T : tT) (q : Nat) (x0 : Int64) : Int32 := (v_X3_find T (q + 1) (T.1 q 1) x0)
noncomputable def ok_X3_findList (sz : Nat) (T : tT) (q : Nat) (x0 : Int64) : Prop := (ok_X3_find sz T (q + 1) (T.1 q 1) x0 ∧ True)
set_option maxRecDepth 10000 in
theorem c_X3_findList {d L sz : Nat} {T : tT} (hsz : 161 ≤ sz) {q : Nat} (h_q : tgr sz q) (x0 : Int64) (ok : ok_X3_findList sz T q x0) : tiK (d + 1) mX3_findList [.ref q, .long x0] L sz T (fun r T' => r = v_X3_findList T q x0 ∧ T = T') := by
  refine k_X3_findList hsz h_q x0 ?_
  unfold ok_X3_findList at ok
  refine ⟨_, c_X3_find hsz (show tar sz (q + 1) 1 6 from ⟨h_q.ge 1, h_q.lt 1 (by decide), h_q.ly1⟩) (T.1 q 1) x0 ok.1, ?_⟩
  rintro _ _ ⟨rfl, rfl⟩
  replace ok := ok.2
  exact ⟨by unfold v_X3_findList; rfl, rfl⟩
noncomputable def v_X3_findPart (T : tT) (q : Nat) (x0 : Int64) : Int32 := (v_X3_find T (q + 4) (T.1 q 2) x0)
noncomputable def ok_X3_findPart (sz : Nat) (T : tT) (q : Nat) (x0 : Int64) : Prop := (ok_X3_find sz T (q + 4) (T.1 q 2) x0 ∧ True)
set_option maxRecDepth 10000 in
theorem c_X3_findPart {d L sz : Nat} {T : tT} (hsz : 161 ≤ sz) {q : Nat} (h_q : tgr sz q) (x0 : Int64) (ok : ok_X3_findPart sz T q x0) : tiK (d + 1) mX3_findPart [.ref q, .long x0] L sz T (fun r T' => r = v_X3_findPart T q x0 ∧ T = T') := by
  refine k_X3_findPart hsz h_q x0 ?_
  unfold ok_X3_findPart at ok
  refine ⟨_, c_X3_find hsz (show tar sz (q + 4) 1 6 from ⟨h_q.ge 4, h_q.lt 4 (by decide), h_q.ly4⟩) (T.1 q 2) x0 ok.1, ?_⟩
  rintro _ _ ⟨rfl, rfl⟩
  replace ok := ok.2
  exact ⟨by unfold v_X3_findPart; rfl, rfl⟩
noncomputable def v_X4_markLeaf (T : tT) (q : Nat) (x0 : Int32) (x1 : Int32) : Int32 := (if x0 = 202 then (if (6 : Int32) ≤ x1 then (0 : Int32) else (T.1 67 (x1.toNatClampNeg))) else (if x0 = 213 then (v_X4_total T (T.1 q 2)) else (if x0 = 214 then (v_X4_least T (T.1 q 2)) else x1)))
noncomputable def ok_X4_markLeaf (sz : Nat) (T : tT) (q : Nat) (x0 : Int32) (x1 : Int32) : Prop := ((x0 = 202 → (((6 : Int32) ≤ x1 → True) ∧ (¬ (6 : Int32) ≤ x1 → vp_in x1 6))) ∧ (x0 = 213 → (ok_X4_total sz T (T.1 q 2) ∧ True)) ∧ (x0 = 214 → (ok_X4_least sz T (T.1 q 2) ∧ True)) ∧ (¬ x0 = 202 → ¬ x0 = 213 → ¬ x0 = 214 → True))
set_option maxRecDepth 10000 in
theorem c_X4_markLeaf {d L sz : Nat} {T : tT} (hsz : 161 ≤ sz) {q : Nat} (h_q : tgr sz q) (x0 : Int32) (x1 : Int32) (ok : ok_X4_markLeaf sz T q x0 x1) : tiK (d + 2) mX4_markLeaf [.ref 66, .int x0, .int x1, .ref q] L sz T (fun r T' => r = v_X4_markLeaf T q x0 x1 ∧ T = T') := by
  refine k_X4_markLeaf hsz h_q x0 x1 ?_
  unfold ok_X4_markLeaf at ok
  refine ⟨fun kq0 => ?_, fun kq0 => ?_, fun kq0 => ?_, fun kq0_0 kq0_1 kq0_2 => ?_⟩
  · replace ok := ok.1 kq0
    refine ⟨fun kq1 => ?_, fun kq1 => ?_⟩
    · replace ok := ok.1 kq1
      exact ⟨by unfold v_X4_markLeaf; first | (rw [if_pos kq0, if_pos kq1]; done) | (rw [if_pos kq0, if_pos kq1]; rfl), rfl⟩
    · replace ok := ok.2 kq1
      refine ⟨ok, ?_⟩
      exact ⟨by unfold v_X4_markLeaf; first | (rw [if_pos kq0, if_neg kq1]; done) | (rw [if_pos kq0, if_neg kq1]; rfl), rfl⟩
  · replace ok := ok.2.1 kq0
    refine ⟨_, c_X4_total hsz  (T.1 q 2) ok.1, ?_⟩
    rintro _ _ ⟨rfl, rfl⟩
    replace ok := ok.2
    exact ⟨by unfold v_X4_markLeaf; first | (rw [if_neg (show ¬ x0 = 202 by rw [kq0]; decide), if_pos kq0]; done) | (rw [if_neg (show ¬ x0 = 202 by rw [kq0]; decide), if_pos kq0]; rfl), rfl⟩
  · replace ok := ok.2.2.1 kq0
    refine ⟨_, c_X4_least hsz  (T.1 q 2) ok.1, ?_⟩
    rintro _ _ ⟨rfl, rfl⟩
    replace ok := ok.2
    exact ⟨by unfold v_X4_markLeaf; first | (rw [if_neg (show ¬ x0 = 202 by rw [kq0]; decide), if_neg (show ¬ x0 = 213 by rw [kq0]; decide), if_pos kq0]; done) | (rw [if_neg (show ¬ x0 = 202 by rw [kq0]; decide), if_neg (show ¬ x0 = 213 by rw [kq0]; decide), if_pos kq0]; rfl), rfl⟩
  · replace ok := ok.2.2.2 kq0_0 kq0_1 kq0_2
    exact ⟨by unfold v_X4_markLeaf; first | (rw [if_neg kq0_0, if_neg kq0_1, if_neg kq0_2]; done) | (rw [if_neg kq0_0, if_neg kq0_1, if_neg kq0_2]; rfl), rfl⟩
noncomputable def v_X5_knownPoints (T : tT)  (x0 : Int32) (x1 : Int32) (x2 : Int32) : Int32 := (if (v_X5_lastOf T (5 : Int32) x0 x1 x2) = (-1 : Int32) then (if (v_X5_lastOf T (v_X5_mainOf T x0 x2) x0 x1 x2) = (-1 : Int32) then (-1 : Int32) else (T.1 97 ((v_X5_lastOf T (v_X5_mainOf T x0 x2) x0 x1 x2).toNatClampNeg))) else (if (v_X5_lastOf T (5 : Int32) x0 x1 x2) = (-1 : Int32) then (-1 : Int32) else (T.1 97 ((v_X5_lastOf T (5 : Int32) x0 x1 x2).toNatClampNeg))))
noncomputable def ok_X5_knownPoints (sz : Nat) (T : tT)  (x0 : Int32) (x1 : Int32) (x2 : Int32) : Prop := (ok_X5_lastOf sz T (5 : Int32) x0 x1 x2 ∧ ((¬ (v_X5_lastOf T (5 : Int32) x0 x1 x2) = (-1 : Int32) → ((¬ (v_X5_lastOf T (5 : Int32) x0 x1 x2) = (-1 : Int32) → vp_in (v_X5_lastOf T (5 : Int32) x0 x1 x2) 200) ∧ ((v_X5_lastOf T (5 : Int32) x0 x1 x2) = (-1 : Int32) → True))) ∧ ((v_X5_lastOf T (5 : Int32) x0 x1 x2) = (-1 : Int32) → (ok_X5_mainOf sz T x0 x2 ∧ (ok_X5_lastOf sz T (v_X5_mainOf T x0 x2) x0 x1 x2 ∧ ((¬ (v_X5_lastOf T (v_X5_mainOf T x0 x2) x0 x1 x2) = (-1 : Int32) → vp_in (v_X5_lastOf T (v_X5_mainOf T x0 x2) x0 x1 x2) 200) ∧ ((v_X5_lastOf T (v_X5_mainOf T x0 x2) x0 x1 x2) = (-1 : Int32) → True)))))))
set_option maxRecDepth 10000 in
theorem c_X5_knownPoints {d L sz : Nat} {T : tT} (hsz : 161 ≤ sz) (x0 : Int32) (x1 : Int32) (x2 : Int32) (ok : ok_X5_knownPoints sz T x0 x1 x2) : tiK (d + 3) mX5_knownPoints [.ref 93, .int x0, .int x1, .int x2] L sz T (fun r T' => r = v_X5_knownPoints T x0 x1 x2 ∧ T = T') := by
  refine k_X5_knownPoints hsz  x0 x1 x2 ?_
  unfold ok_X5_knownPoints at ok
  refine ⟨_, c_X5_lastOf hsz  (5 : Int32) x0 x1 x2 ok.1, ?_⟩
  rintro _ _ ⟨rfl, rfl⟩
  replace ok := ok.2
  refine ⟨fun kq0 => ?_, fun kq0 => ?_⟩
  · replace ok := ok.1 kq0
    refine ⟨fun kq1 => ?_, fun kq1 => ?_⟩
    · replace ok := ok.1 kq1
      refine ⟨ok, ?_⟩
      exact ⟨by unfold v_X5_knownPoints; first | (rw [if_neg kq0, if_neg kq1]; done) | (rw [if_neg kq0, if_neg kq1]; rfl), rfl⟩
    · replace ok := ok.2 kq1
      exact ⟨by unfold v_X5_knownPoints; first | (rw [if_neg kq0, if_pos kq1]; done) | (rw [if_neg kq0, if_pos kq1]; rfl), rfl⟩
  · replace ok := ok.2 kq0
    refine ⟨_, c_X5_mainOf hsz  x0 x2 ok.1, ?_⟩
    rintro _ _ ⟨rfl, rfl⟩
    replace ok := ok.2
    refine ⟨_, c_X5_lastOf hsz  (v_X5_mainOf T x0 x2) x0 x1 x2 ok.1, ?_⟩
    rintro _ _ ⟨rfl, rfl⟩
    replace ok := ok.2
    refine ⟨fun kq1 => ?_, fun kq1 => ?_⟩
    · replace ok := ok.1 kq1
      refine ⟨ok, ?_⟩
      exact ⟨by unfold v_X5_knownPoints; first | (rw [if_pos kq0, if_neg kq1]; done) | (rw [if_pos kq0, if_neg kq1]; rfl), rfl⟩
    · replace ok := ok.2 kq1
      exact ⟨by unfold v_X5_knownPoints; first | (rw [if_pos kq0, if_pos kq1]; done) | (rw [if_pos kq0, if_pos kq1]; rfl), rfl⟩
noncomputable def F_X6_addMeaning (T : tT) (q : Nat)  : tT := (if (T.1 4 2) = (2 : Int32) then (match (T.2.2 3 3) with | none => T | some p21 => (F_X8_addCell T p21 (2 : Int32) (T.1 4 4))) else (if (T.1 4 2) = (3 : Int32) then (if (T.1 3 4) = 0 then (if (T.1 3 4) = 0 then (F_X6_addNamed T (202 : Int32) (v_X3_findPart T q (T.2.1 4 5))) else (F_X6_addNamed T (202 : Int32) (v_X3_findList T q (T.2.1 4 5)))) else (if (T.1 3 4) = 0 then (F_X6_addNamed T (201 : Int32) (v_X3_findPart T q (T.2.1 4 5))) else (F_X6_addNamed T (201 : Int32) (v_X3_findList T q (T.2.1 4 5))))) else (if (T.1 4 2) = (210 : Int32) then (if (T.1 3 4) = (1 : Int32) then (match (T.2.2 3 3) with | none => T | some p2 => (F_X8_addCell T p2 (T.1 4 2) (0 : Int32))) else (F_X6_fail T (4 : Int32) (T.1 4 3))) else (if (T.1 4 2) = (211 : Int32) then (if (T.1 3 4) = (1 : Int32) then (match (T.2.2 3 3) with | none => T | some p5 => (F_X8_addCell T p5 (T.1 4 2) (0 : Int32))) else (F_X6_fail T (4 : Int32) (T.1 4 3))) else (if (T.1 4 2) = (212 : Int32) then (if (T.1 3 4) = (1 : Int32) then (match (T.2.2 3 3) with | none => T | some p11 => (F_X8_addCell T p11 (T.1 4 2) (0 : Int32))) else (F_X6_fail T (4 : Int32) (T.1 4 3))) else (if (T.1 3 4) = (0 : Int32) then (match (T.2.2 3 3) with | none => T | some p8 => (F_X8_addCell T p8 (T.1 4 2) (0 : Int32))) else (F_X6_fail T (4 : Int32) (T.1 4 3))))))))
noncomputable def ok_X6_addMeaning (sz : Nat) (T : tT) (q : Nat)  : Prop := ((¬ (T.1 4 2) = (2 : Int32) → ((¬ (T.1 4 2) = (3 : Int32) → (((T.1 4 2) = (210 : Int32) → ((¬ (T.1 3 4) = (1 : Int32) → True) ∧ ((T.1 3 4) = (1 : Int32) → (((T.2.2 3 3) = none → False) ∧ (∀ p2, (T.2.2 3 3) = some p2 → tsy sz p2 ∧ (ok_X8_addCell sz T p2 (T.1 4 2) (0 : Int32) ∧ True)))))) ∧ (¬ (T.1 4 2) = (210 : Int32) → (((T.1 4 2) = (211 : Int32) → ((¬ (T.1 3 4) = (1 : Int32) → True) ∧ ((T.1 3 4) = (1 : Int32) → (((T.2.2 3 3) = none → False) ∧ (∀ p5, (T.2.2 3 3) = some p5 → tsy sz p5 ∧ (ok_X8_addCell sz T p5 (T.1 4 2) (0 : Int32) ∧ True)))))) ∧ (¬ (T.1 4 2) = (211 : Int32) → ((¬ (T.1 4 2) = (212 : Int32) → ((¬ (T.1 3 4) = (0 : Int32) → True) ∧ ((T.1 3 4) = (0 : Int32) → (((T.2.2 3 3) = none → False) ∧ (∀ p8, (T.2.2 3 3) = some p8 → tsy sz p8 ∧ (ok_X8_addCell sz T p8 (T.1 4 2) (0 : Int32) ∧ True)))))) ∧ ((T.1 4 2) = (212 : Int32) → ((¬ (T.1 3 4) = (1 : Int32) → True) ∧ ((T.1 3 4) = (1 : Int32) → (((T.2.2 3 3) = none → False) ∧ (∀ p11, (T.2.2 3 3) = some p11 → tsy sz p11 ∧ (ok_X8_addCell sz T p11 (T.1 4 2) (0 : Int32) ∧ True)))))))))))) ∧ ((T.1 4 2) = (3 : Int32) → (((T.1 3 4) = 0 → (((T.1 3 4) = 0 → (ok_X3_findPart sz T q (T.2.1 4 5) ∧ (ok_X6_addNamed sz T (202 : Int32) (v_X3_findPart T q (T.2.1 4 5)) ∧ True))) ∧ (¬ (T.1 3 4) = 0 → (ok_X3_findList sz T q (T.2.1 4 5) ∧ (ok_X6_addNamed sz T (202 : Int32) (v_X3_findList T q (T.2.1 4 5)) ∧ True))))) ∧ (¬ (T.1 3 4) = 0 → (((T.1 3 4) = 0 → (ok_X3_findPart sz T q (T.2.1 4 5) ∧ (ok_X6_addNamed sz T (201 : Int32) (v_X3_findPart T q (T.2.1 4 5)) ∧ True))) ∧ (¬ (T.1 3 4) = 0 → (ok_X3_findList sz T q (T.2.1 4 5) ∧ (ok_X6_addNamed sz T (201 : Int32) (v_X3_findList T q (T.2.1 4 5)) ∧ True))))))))) ∧ ((T.1 4 2) = (2 : Int32) → (((T.2.2 3 3) = none → False) ∧ (∀ p21, (T.2.2 3 3) = some p21 → tsy sz p21 ∧ (ok_X8_addCell sz T p21 (2 : Int32) (T.1 4 4) ∧ True)))))
set_option maxRecDepth 10000 in
theorem c_X6_addMeaning {d L sz : Nat} {T : tT} (hsz : 161 ≤ sz) {q : Nat} (h_q : tgr sz q)  (ok : ok_X6_addMeaning sz T q) : tvK (d + 2) mX6_addMeaning [.ref 3, .ref q] L sz T (fun T' => T' = F_X6_addMeaning T q) := by
  refine k_X6_addMeaning hsz h_q  ?_
  unfold ok_X6_addMeaning at ok
  refine ⟨fun kq0 => ?_, fun kq0 => ?_⟩
  · replace ok := ok.1 kq0
    refine ⟨fun kq1 => ?_, fun kq1 => ?_⟩
    · replace ok := ok.1 kq1
      refine ⟨fun kq2 => ?_, fun kq2 => ?_⟩
      · replace ok := ok.1 kq2
        refine ⟨fun kq3 => ?_, fun kq3 => ?_⟩
        · replace ok := ok.1 kq3
          refine ⟨_, c_X6_fail hsz  (4 : Int32) (T.1 4 3) , ?_⟩
          rintro _ rfl
          exact (by unfold F_X6_addMeaning; first | (rw [if_neg kq0, if_neg kq1, if_pos kq2, if_neg kq3]; done) | (rw [if_neg kq0, if_neg kq1, if_pos kq2, if_neg kq3]; rfl))
        · replace ok := ok.2 kq3
          refine ⟨fun kq4 => ?_, fun p2 kq4 => ?_⟩
          · replace ok := ok.1 kq4
            exact ok.elim
          · obtain ⟨h_p2, ok⟩ := ok.2 p2 kq4
            refine ⟨h_p2, ?_⟩
            refine ⟨_, c_X8_addCell hsz h_p2 (T.1 4 2) (0 : Int32) ok.1, ?_⟩
            rintro _ rfl
            replace ok := ok.2
            exact (by unfold F_X6_addMeaning; first | (simp only [if_neg kq0, if_neg kq1, if_pos kq2, if_pos kq3, kq4]; done) | (simp only [if_neg kq0, if_neg kq1, if_pos kq2, if_pos kq3, kq4]; rfl))
      · replace ok := ok.2 kq2
        refine ⟨fun kq3 => ?_, fun kq3 => ?_⟩
        · replace ok := ok.1 kq3
          refine ⟨fun kq4 => ?_, fun kq4 => ?_⟩
          · replace ok := ok.1 kq4
            refine ⟨_, c_X6_fail hsz  (4 : Int32) (T.1 4 3) , ?_⟩
            rintro _ rfl
            exact (by unfold F_X6_addMeaning; first | (rw [if_neg kq0, if_neg kq1, if_neg kq2, if_pos kq3, if_neg kq4]; done) | (rw [if_neg kq0, if_neg kq1, if_neg kq2, if_pos kq3, if_neg kq4]; rfl))
          · replace ok := ok.2 kq4
            refine ⟨fun kq5 => ?_, fun p5 kq5 => ?_⟩
            · replace ok := ok.1 kq5
              exact ok.elim
            · obtain ⟨h_p5, ok⟩ := ok.2 p5 kq5
              refine ⟨h_p5, ?_⟩
              refine ⟨_, c_X8_addCell hsz h_p5 (T.1 4 2) (0 : Int32) ok.1, ?_⟩
              rintro _ rfl
              replace ok := ok.2
              exact (by unfold F_X6_addMeaning; first | (simp only [if_neg kq0, if_neg kq1, if_neg kq2, if_pos kq3, if_pos kq4, kq5]; done) | (simp only [if_neg kq0, if_neg kq1, if_neg kq2, if_pos kq3, if_pos kq4, kq5]; rfl))
        · replace ok := ok.2 kq3
          refine ⟨fun kq4 => ?_, fun kq4 => ?_⟩
          · replace ok := ok.1 kq4
            refine ⟨fun kq5 => ?_, fun kq5 => ?_⟩
            · replace ok := ok.1 kq5
              refine ⟨_, c_X6_fail hsz  (4 : Int32) (T.1 4 3) , ?_⟩
              rintro _ rfl
              exact (by unfold F_X6_addMeaning; first | (rw [if_neg kq0, if_neg kq1, if_neg kq2, if_neg kq3, if_neg kq4, if_neg kq5]; done) | (rw [if_neg kq0, if_neg kq1, if_neg kq2, if_neg kq3, if_neg kq4, if_neg kq5]; rfl))
            · replace ok := ok.2 kq5
              refine ⟨fun kq6 => ?_, fun p8 kq6 => ?_⟩
              · replace ok := ok.1 kq6
                exact ok.elim
              · obtain ⟨h_p8, ok⟩ := ok.2 p8 kq6
                refine ⟨h_p8, ?_⟩
                refine ⟨_, c_X8_addCell hsz h_p8 (T.1 4 2) (0 : Int32) ok.1, ?_⟩
                rintro _ rfl
                replace ok := ok.2
                exact (by unfold F_X6_addMeaning; first | (simp only [if_neg kq0, if_neg kq1, if_neg kq2, if_neg kq3, if_neg kq4, if_pos kq5, kq6]; done) | (simp only [if_neg kq0, if_neg kq1, if_neg kq2, if_neg kq3, if_neg kq4, if_pos kq5, kq6]; rfl))
          · replace ok := ok.2 kq4
            refine ⟨fun kq5 => ?_, fun kq5 => ?_⟩
            · replace ok := ok.1 kq5
              refine ⟨_, c_X6_fail hsz  (4 : Int32) (T.1 4 3) , ?_⟩
              rintro _ rfl
              exact (by unfold F_X6_addMeaning; first | (rw [if_neg kq0, if_neg kq1, if_neg kq2, if_neg kq3, if_pos kq4, if_neg kq5]; done) | (rw [if_neg kq0, if_neg kq1, if_neg kq2, if_neg kq3, if_pos kq4, if_neg kq5]; rfl))
            · replace ok := ok.2 kq5
              refine ⟨fun kq6 => ?_, fun p11 kq6 => ?_⟩
              · replace ok := ok.1 kq6
                exact ok.elim
              · obtain ⟨h_p11, ok⟩ := ok.2 p11 kq6
                refine ⟨h_p11, ?_⟩
                refine ⟨_, c_X8_addCell hsz h_p11 (T.1 4 2) (0 : Int32) ok.1, ?_⟩
                rintro _ rfl
                replace ok := ok.2
                exact (by unfold F_X6_addMeaning; first | (simp only [if_neg kq0, if_neg kq1, if_neg kq2, if_neg kq3, if_pos kq4, if_pos kq5, kq6]; done) | (simp only [if_neg kq0, if_neg kq1, if_neg kq2, if_neg kq3, if_pos kq4, if_pos kq5, kq6]; rfl))
    · replace ok := ok.2 kq1
      refine ⟨fun kq2 => ?_, fun kq2 => ?_⟩
      · replace ok := ok.1 kq2
        refine ⟨fun kq3 => ?_, fun kq3 => ?_⟩
        · replace ok := ok.1 kq3
          refine ⟨_, c_X3_findPart hsz h_q (T.2.1 4 5) ok.1, ?_⟩
          rintro _ _ ⟨rfl, rfl⟩
          replace ok := ok.2
          refine ⟨_, c_X6_addNamed hsz  (202 : Int32) (v_X3_findPart T q (T.2.1 4 5)) ok.1, ?_⟩
          rintro _ rfl
          replace ok := ok.2
          exact (by unfold F_X6_addMeaning; first | (rw [if_neg kq0, if_pos kq1, if_pos kq2, if_pos kq3]; done) | (rw [if_neg kq0, if_pos kq1, if_pos kq2, if_pos kq3]; rfl))
        · replace ok := ok.2 kq3
          refine ⟨_, c_X3_findList hsz h_q (T.2.1 4 5) ok.1, ?_⟩
          rintro _ _ ⟨rfl, rfl⟩
          replace ok := ok.2
          refine ⟨_, c_X6_addNamed hsz  (202 : Int32) (v_X3_findList T q (T.2.1 4 5)) ok.1, ?_⟩
          rintro _ rfl
          replace ok := ok.2
          exact (by unfold F_X6_addMeaning; first | (rw [if_neg kq0, if_pos kq1, if_pos kq2, if_neg kq3]; done) | (rw [if_neg kq0, if_pos kq1, if_pos kq2, if_neg kq3]; rfl))
      · replace ok := ok.2 kq2
        refine ⟨fun kq3 => ?_, fun kq3 => ?_⟩
        · replace ok := ok.1 kq3
          refine ⟨_, c_X3_findPart hsz h_q (T.2.1 4 5) ok.1, ?_⟩
          rintro _ _ ⟨rfl, rfl⟩
          replace ok := ok.2
          refine ⟨_, c_X6_addNamed hsz  (201 : Int32) (v_X3_findPart T q (T.2.1 4 5)) ok.1, ?_⟩
          rintro _ rfl
          replace ok := ok.2
          exact (by unfold F_X6_addMeaning; first | (rw [if_neg kq0, if_pos kq1, if_neg kq2, if_pos kq3]; done) | (rw [if_neg kq0, if_pos kq1, if_neg kq2, if_pos kq3]; rfl))
        · replace ok := ok.2 kq3
          refine ⟨_, c_X3_findList hsz h_q (T.2.1 4 5) ok.1, ?_⟩
          rintro _ _ ⟨rfl, rfl⟩
          replace ok := ok.2
          refine ⟨_, c_X6_addNamed hsz  (201 : Int32) (v_X3_findList T q (T.2.1 4 5)) ok.1, ?_⟩
          rintro _ rfl
          replace ok := ok.2
          exact (by unfold F_X6_addMeaning; first | (rw [if_neg kq0, if_pos kq1, if_neg kq2, if_neg kq3]; done) | (rw [if_neg kq0, if_pos kq1, if_neg kq2, if_neg kq3]; rfl))
  · replace ok := ok.2 kq0
    refine ⟨fun kq1 => ?_, fun p21 kq1 => ?_⟩
    · replace ok := ok.1 kq1
      exact ok.elim
    · obtain ⟨h_p21, ok⟩ := ok.2 p21 kq1
      refine ⟨h_p21, ?_⟩
      refine ⟨_, c_X8_addCell hsz h_p21 (2 : Int32) (T.1 4 4) ok.1, ?_⟩
      rintro _ rfl
      replace ok := ok.2
      exact (by unfold F_X6_addMeaning; first | (simp only [if_pos kq0, kq1]; done) | (simp only [if_pos kq0, kq1]; rfl))
noncomputable def F_X7_startDay (T : tT)  (x0 : Int32) : tT := (if x0 = 0 then (match ((F_X7_sendAllHome T).2.2 85 6) with | none => (match ((F_X7_sendAllHome T).2.2 85 8) with | none => (match ((F_X7_sendAllHome T).2.2 85 5) with | none => T | some p15 => (match ((F_X7_sendAllHome T).2.2 85 7) with | none => T | some p16 => T)) | some p14 => (match ((F_X7_sendAllHome T).2.2 85 5) with | none => T | some p17 => (match ((F_X7_sendAllHome T).2.2 85 7) with | none => T | some p18 => T))) | some p13 => (match ((F_X7_sendAllHome T).2.2 85 8) with | none => (match ((F_X7_sendAllHome T).2.2 85 5) with | none => T | some p20 => (match ((F_X7_sendAllHome T).2.2 85 7) with | none => T | some p21 => T)) | some p19 => (match ((F_X7_sendAllHome T).2.2 85 5) with | none => T | some p22 => (match ((F_X7_sendAllHome T).2.2 85 7) with | none => T | some p23 => (tI (tP (tP (tI (tP (tP (F_X7_sendAllHome T) 85 6 (some p22)) 85 8 (some p23)) 85 4 ((F_X7_sendAllHome T).1 85 3)) 85 5 (some p13)) 85 7 (some p19)) 85 3 (0 : Int32)))))) else (match (T.2.2 85 6) with | none => (match (T.2.2 85 8) with | none => (match (T.2.2 85 5) with | none => T | some p3 => (match (T.2.2 85 7) with | none => T | some p4 => T)) | some p2 => (match (T.2.2 85 5) with | none => T | some p5 => (match (T.2.2 85 7) with | none => T | some p6 => T))) | some p1 => (match (T.2.2 85 8) with | none => (match (T.2.2 85 5) with | none => T | some p8 => (match (T.2.2 85 7) with | none => T | some p9 => T)) | some p7 => (match (T.2.2 85 5) with | none => T | some p10 => (match (T.2.2 85 7) with | none => T | some p11 => (tI (tP (tP (tI (tP (tP T 85 6 (some p10)) 85 8 (some p11)) 85 4 (T.1 85 3)) 85 5 (some p1)) 85 7 (some p7)) 85 3 (0 : Int32)))))))
noncomputable def ok_X7_startDay (sz : Nat) (T : tT)  (x0 : Int32) : Prop := ((¬ x0 = 0 → (((T.2.2 85 6) = none → (((T.2.2 85 8) = none → (((T.2.2 85 5) = none → False) ∧ (∀ p3, (T.2.2 85 5) = some p3 → tar sz p3 0 120 ∧ (((T.2.2 85 7) = none → False) ∧ (∀ p4, (T.2.2 85 7) = some p4 → tar sz p4 1 120 ∧ False))))) ∧ (∀ p2, (T.2.2 85 8) = some p2 → tar sz p2 1 120 ∧ (((T.2.2 85 5) = none → False) ∧ (∀ p5, (T.2.2 85 5) = some p5 → tar sz p5 0 120 ∧ (((T.2.2 85 7) = none → False) ∧ (∀ p6, (T.2.2 85 7) = some p6 → tar sz p6 1 120 ∧ False))))))) ∧ (∀ p1, (T.2.2 85 6) = some p1 → tar sz p1 0 120 ∧ (((T.2.2 85 8) = none → (((T.2.2 85 5) = none → False) ∧ (∀ p8, (T.2.2 85 5) = some p8 → tar sz p8 0 120 ∧ (((T.2.2 85 7) = none → False) ∧ (∀ p9, (T.2.2 85 7) = some p9 → tar sz p9 1 120 ∧ False))))) ∧ (∀ p7, (T.2.2 85 8) = some p7 → tar sz p7 1 120 ∧ (((T.2.2 85 5) = none → False) ∧ (∀ p10, (T.2.2 85 5) = some p10 → tar sz p10 0 120 ∧ (((T.2.2 85 7) = none → False) ∧ (∀ p11, (T.2.2 85 7) = some p11 → tar sz p11 1 120 ∧ True))))))))) ∧ (x0 = 0 → (ok_X7_sendAllHome sz T ∧ ((((F_X7_sendAllHome T).2.2 85 6) = none → ((((F_X7_sendAllHome T).2.2 85 8) = none → ((((F_X7_sendAllHome T).2.2 85 5) = none → False) ∧ (∀ p15, ((F_X7_sendAllHome T).2.2 85 5) = some p15 → tar sz p15 0 120 ∧ ((((F_X7_sendAllHome T).2.2 85 7) = none → False) ∧ (∀ p16, ((F_X7_sendAllHome T).2.2 85 7) = some p16 → tar sz p16 1 120 ∧ False))))) ∧ (∀ p14, ((F_X7_sendAllHome T).2.2 85 8) = some p14 → tar sz p14 1 120 ∧ ((((F_X7_sendAllHome T).2.2 85 5) = none → False) ∧ (∀ p17, ((F_X7_sendAllHome T).2.2 85 5) = some p17 → tar sz p17 0 120 ∧ ((((F_X7_sendAllHome T).2.2 85 7) = none → False) ∧ (∀ p18, ((F_X7_sendAllHome T).2.2 85 7) = some p18 → tar sz p18 1 120 ∧ False))))))) ∧ (∀ p13, ((F_X7_sendAllHome T).2.2 85 6) = some p13 → tar sz p13 0 120 ∧ ((((F_X7_sendAllHome T).2.2 85 8) = none → ((((F_X7_sendAllHome T).2.2 85 5) = none → False) ∧ (∀ p20, ((F_X7_sendAllHome T).2.2 85 5) = some p20 → tar sz p20 0 120 ∧ ((((F_X7_sendAllHome T).2.2 85 7) = none → False) ∧ (∀ p21, ((F_X7_sendAllHome T).2.2 85 7) = some p21 → tar sz p21 1 120 ∧ False))))) ∧ (∀ p19, ((F_X7_sendAllHome T).2.2 85 8) = some p19 → tar sz p19 1 120 ∧ ((((F_X7_sendAllHome T).2.2 85 5) = none → False) ∧ (∀ p22, ((F_X7_sendAllHome T).2.2 85 5) = some p22 → tar sz p22 0 120 ∧ ((((F_X7_sendAllHome T).2.2 85 7) = none → False) ∧ (∀ p23, ((F_X7_sendAllHome T).2.2 85 7) = some p23 → tar sz p23 1 120 ∧ True)))))))))))
set_option maxRecDepth 10000 in
theorem c_X7_startDay {d L sz : Nat} {T : tT} (hsz : 161 ≤ sz) (x0 : Int32) (ok : ok_X7_startDay sz T x0) : tvK (d + 2) mX7_startDay [.ref 85, .int x0] L sz T (fun T' => T' = F_X7_startDay T x0) := by
  refine k_X7_startDay hsz  x0 ?_
  unfold ok_X7_startDay at ok
  refine ⟨fun kq0 => ?_, fun kq0 => ?_⟩
  · replace ok := ok.1 kq0
    refine ⟨fun kq1 => ?_, fun p1 kq1 => ?_⟩
    · replace ok := ok.1 kq1
      refine ⟨fun kq2 => ?_, fun p2 kq2 => ?_⟩
      · replace ok := ok.1 kq2
        refine ⟨fun kq3 => ?_, fun p3 kq3 => ?_⟩
        · replace ok := ok.1 kq3
          exact ok.elim
        · obtain ⟨h_p3, ok⟩ := ok.2 p3 kq3
          refine ⟨h_p3, ?_⟩
          refine ⟨fun kq4 => ?_, fun p4 kq4 => ?_⟩
          · replace ok := ok.1 kq4
            exact ok.elim
          · obtain ⟨h_p4, ok⟩ := ok.2 p4 kq4
            refine ⟨h_p4, ?_⟩
            exact ok.elim
      · obtain ⟨h_p2, ok⟩ := ok.2 p2 kq2
        refine ⟨h_p2, ?_⟩
        refine ⟨fun kq3 => ?_, fun p5 kq3 => ?_⟩
        · replace ok := ok.1 kq3
          exact ok.elim
        · obtain ⟨h_p5, ok⟩ := ok.2 p5 kq3
          refine ⟨h_p5, ?_⟩
          refine ⟨fun kq4 => ?_, fun p6 kq4 => ?_⟩
          · replace ok := ok.1 kq4
            exact ok.elim
          · obtain ⟨h_p6, ok⟩ := ok.2 p6 kq4
            refine ⟨h_p6, ?_⟩
            exact ok.elim
    · obtain ⟨h_p1, ok⟩ := ok.2 p1 kq1
      refine ⟨h_p1, ?_⟩
      refine ⟨fun kq2 => ?_, fun p7 kq2 => ?_⟩
      · replace ok := ok.1 kq2
        refine ⟨fun kq3 => ?_, fun p8 kq3 => ?_⟩
        · replace ok := ok.1 kq3
          exact ok.elim
        · obtain ⟨h_p8, ok⟩ := ok.2 p8 kq3
          refine ⟨h_p8, ?_⟩
          refine ⟨fun kq4 => ?_, fun p9 kq4 => ?_⟩
          · replace ok := ok.1 kq4
            exact ok.elim
          · obtain ⟨h_p9, ok⟩ := ok.2 p9 kq4
            refine ⟨h_p9, ?_⟩
            exact ok.elim
      · obtain ⟨h_p7, ok⟩ := ok.2 p7 kq2
        refine ⟨h_p7, ?_⟩
        refine ⟨fun kq3 => ?_, fun p10 kq3 => ?_⟩
        · replace ok := ok.1 kq3
          exact ok.elim
        · obtain ⟨h_p10, ok⟩ := ok.2 p10 kq3
          refine ⟨h_p10, ?_⟩
          refine ⟨fun kq4 => ?_, fun p11 kq4 => ?_⟩
          · replace ok := ok.1 kq4
            exact ok.elim
          · obtain ⟨h_p11, ok⟩ := ok.2 p11 kq4
            refine ⟨h_p11, ?_⟩
            exact (by unfold F_X7_startDay; first | (simp only [if_neg kq0, kq1, kq2, kq3, kq4]; done) | (simp only [if_neg kq0, kq1, kq2, kq3, kq4]; rfl))
  · replace ok := ok.2 kq0
    refine ⟨_, c_X7_sendAllHome hsz   ok.1, ?_⟩
    rintro _ rfl
    replace ok := ok.2
    refine ⟨fun kq1 => ?_, fun p13 kq1 => ?_⟩
    · replace ok := ok.1 kq1
      refine ⟨fun kq2 => ?_, fun p14 kq2 => ?_⟩
      · replace ok := ok.1 kq2
        refine ⟨fun kq3 => ?_, fun p15 kq3 => ?_⟩
        · replace ok := ok.1 kq3
          exact ok.elim
        · obtain ⟨h_p15, ok⟩ := ok.2 p15 kq3
          refine ⟨h_p15, ?_⟩
          refine ⟨fun kq4 => ?_, fun p16 kq4 => ?_⟩
          · replace ok := ok.1 kq4
            exact ok.elim
          · obtain ⟨h_p16, ok⟩ := ok.2 p16 kq4
            refine ⟨h_p16, ?_⟩
            exact ok.elim
      · obtain ⟨h_p14, ok⟩ := ok.2 p14 kq2
        refine ⟨h_p14, ?_⟩
        refine ⟨fun kq3 => ?_, fun p17 kq3 => ?_⟩
        · replace ok := ok.1 kq3
          exact ok.elim
        · obtain ⟨h_p17, ok⟩ := ok.2 p17 kq3
          refine ⟨h_p17, ?_⟩
          refine ⟨fun kq4 => ?_, fun p18 kq4 => ?_⟩
          · replace ok := ok.1 kq4
            exact ok.elim
          · obtain ⟨h_p18, ok⟩ := ok.2 p18 kq4
            refine ⟨h_p18, ?_⟩
            exact ok.elim
    · obtain ⟨h_p13, ok⟩ := ok.2 p13 kq1
      refine ⟨h_p13, ?_⟩
      refine ⟨fun kq2 => ?_, fun p19 kq2 => ?_⟩
      · replace ok := ok.1 kq2
        refine ⟨fun kq3 => ?_, fun p20 kq3 => ?_⟩
        · replace ok := ok.1 kq3
          exact ok.elim
        · obtain ⟨h_p20, ok⟩ := ok.2 p20 kq3
          refine ⟨h_p20, ?_⟩
          refine ⟨fun kq4 => ?_, fun p21 kq4 => ?_⟩
          · replace ok := ok.1 kq4
            exact ok.elim
          · obtain ⟨h_p21, ok⟩ := ok.2 p21 kq4
            refine ⟨h_p21, ?_⟩
            exact ok.elim
      · obtain ⟨h_p19, ok⟩ := ok.2 p19 kq2
        refine ⟨h_p19, ?_⟩
        refine ⟨fun kq3 => ?_, fun p22 kq3 => ?_⟩
        · replace ok := ok.1 kq3
          exact ok.elim
        · obtain ⟨h_p22, ok⟩ := ok.2 p22 kq3
          refine ⟨h_p22, ?_⟩
          refine ⟨fun kq4 => ?_, fun p23 kq4 => ?_⟩
          · replace ok := ok.1 kq4
            exact ok.elim
          · obtain ⟨h_p23, ok⟩ := ok.2 p23 kq4
            refine ⟨h_p23, ?_⟩
            exact (by unfold F_X7_startDay; first | (simp only [if_pos kq0, kq1, kq2, kq3, kq4]; done) | (simp only [if_pos kq0, kq1, kq2, kq3, kq4]; rfl))
noncomputable def F_X10_appeal (T : tT)  (x0 : Int32) (x1 : Int32) (x2 : Int32) : Int32 × tT := (if (v_X10_canBeMarked T x0 x1 x2) = 0 then ((-1 : Int32), T) else (if (v_X5_knownPoints T x0 x1 (T.1 93 0)) = (-1 : Int32) then ((-1 : Int32), T) else ((F_X5_tell T (5 : Int32) x0 x1 x2).1, (F_X5_tell T (5 : Int32) x0 x1 x2).2)))
noncomputable def ok_X10_appeal (sz : Nat) (T : tT)  (x0 : Int32) (x1 : Int32) (x2 : Int32) : Prop := (ok_X10_canBeMarked sz T x0 x1 x2 ∧ (((v_X10_canBeMarked T x0 x1 x2) = 0 → True) ∧ (¬ (v_X10_canBeMarked T x0 x1 x2) = 0 → (ok_X5_knownPoints sz T x0 x1 (T.1 93 0) ∧ (((v_X5_knownPoints T x0 x1 (T.1 93 0)) = (-1 : Int32) → True) ∧ (¬ (v_X5_knownPoints T x0 x1 (T.1 93 0)) = (-1 : Int32) → (ok_X5_tell sz T (5 : Int32) x0 x1 x2 ∧ True)))))))
set_option maxRecDepth 10000 in
theorem c_X10_appeal {d L sz : Nat} {T : tT} (hsz : 161 ≤ sz) (x0 : Int32) (x1 : Int32) (x2 : Int32) (ok : ok_X10_appeal sz T x0 x1 x2) : tiK (d + 4) mX10_appeal [.ref 2, .int x0, .int x1, .int x2] L sz T (fun r T' => r = (F_X10_appeal T x0 x1 x2).1 ∧ T' = (F_X10_appeal T x0 x1 x2).2) := by
  refine k_X10_appeal hsz  x0 x1 x2 ?_
  unfold ok_X10_appeal at ok
  refine ⟨_, c_X10_canBeMarked hsz  x0 x1 x2 ok.1, ?_⟩
  rintro _ _ ⟨rfl, rfl⟩
  replace ok := ok.2
  refine ⟨fun kq0 => ?_, fun kq0 => ?_⟩
  · replace ok := ok.1 kq0
    exact ⟨by unfold F_X10_appeal; first | (rw [if_pos kq0]; done) | (rw [if_pos kq0]; rfl), by unfold F_X10_appeal; first | (rw [if_pos kq0]; done) | (rw [if_pos kq0]; rfl)⟩
  · replace ok := ok.2 kq0
    refine ⟨_, c_X5_knownPoints hsz  x0 x1 (T.1 93 0) ok.1, ?_⟩
    rintro _ _ ⟨rfl, rfl⟩
    replace ok := ok.2
    refine ⟨fun kq1 => ?_, fun kq1 => ?_⟩
    · replace ok := ok.1 kq1
      exact ⟨by unfold F_X10_appeal; first | (rw [if_neg kq0, if_pos kq1]; done) | (rw [if_neg kq0, if_pos kq1]; rfl), by unfold F_X10_appeal; first | (rw [if_neg kq0, if_pos kq1]; done) | (rw [if_neg kq0, if_pos kq1]; rfl)⟩
    · replace ok := ok.2 kq1
      refine ⟨_, c_X5_tell hsz  (5 : Int32) x0 x1 x2 ok.1, ?_⟩
      rintro _ _ ⟨rfl, rfl⟩
      replace ok := ok.2
      exact ⟨by unfold F_X10_appeal; first | (rw [if_neg kq0, if_neg kq1]; done) | (rw [if_neg kq0, if_neg kq1]; rfl), by unfold F_X10_appeal; first | (rw [if_neg kq0, if_neg kq1]; done) | (rw [if_neg kq0, if_neg kq1]; rfl)⟩
noncomputable def F_X10_feed (T : tT)  (x0 : Int32) (x1 : Int32) (x2 : Int32) (x3 : Int32) (x4 : Int32) : Int32 × tT := (if ((T.1 4 1) + (20 : Int32)) ≤ (1400 : Int32) then (((F_X9_append (F_X9_append (F_X9_append (F_X9_append (F_X9_append T x0) x1) x2) x3) x4).1 4 1), (F_X9_append (F_X9_append (F_X9_append (F_X9_append (F_X9_append T x0) x1) x2) x3) x4)) else ((-1 : Int32), T))
noncomputable def ok_X10_feed (sz : Nat) (T : tT)  (x0 : Int32) (x1 : Int32) (x2 : Int32) (x3 : Int32) (x4 : Int32) : Prop := ((((T.1 4 1) + (20 : Int32)) ≤ (1400 : Int32) → (ok_X9_append sz T x0 ∧ (ok_X9_append sz (F_X9_append T x0) x1 ∧ (ok_X9_append sz (F_X9_append (F_X9_append T x0) x1) x2 ∧ (ok_X9_append sz (F_X9_append (F_X9_append (F_X9_append T x0) x1) x2) x3 ∧ (ok_X9_append sz (F_X9_append (F_X9_append (F_X9_append (F_X9_append T x0) x1) x2) x3) x4 ∧ True)))))) ∧ (¬ ((T.1 4 1) + (20 : Int32)) ≤ (1400 : Int32) → True))
set_option maxRecDepth 10000 in
theorem c_X10_feed {d L sz : Nat} {T : tT} (hsz : 161 ≤ sz) (x0 : Int32) (x1 : Int32) (x2 : Int32) (x3 : Int32) (x4 : Int32) (ok : ok_X10_feed sz T x0 x1 x2 x3 x4) : tiK (d + 1) mX10_feed [.ref 2, .int x0, .int x1, .int x2, .int x3, .int x4] L sz T (fun r T' => r = (F_X10_feed T x0 x1 x2 x3 x4).1 ∧ T' = (F_X10_feed T x0 x1 x2 x3 x4).2) := by
  refine k_X10_feed hsz  x0 x1 x2 x3 x4 ?_
  unfold ok_X10_feed at ok
  refine ⟨fun kq0 => ?_, fun kq0 => ?_⟩
  · replace ok := ok.1 kq0
    refine ⟨_, c_X9_append hsz  x0 ok.1, ?_⟩
    rintro _ rfl
    replace ok := ok.2
    refine ⟨_, c_X9_append hsz  x1 ok.1, ?_⟩
    rintro _ rfl
    replace ok := ok.2
    refine ⟨_, c_X9_append hsz  x2 ok.1, ?_⟩
    rintro _ rfl
    replace ok := ok.2
    refine ⟨_, c_X9_append hsz  x3 ok.1, ?_⟩
    rintro _ rfl
    replace ok := ok.2
    refine ⟨_, c_X9_append hsz  x4 ok.1, ?_⟩
    rintro _ rfl
    replace ok := ok.2
    exact ⟨by unfold F_X10_feed; first | (rw [if_pos kq0]; done) | (rw [if_pos kq0]; rfl), by unfold F_X10_feed; first | (rw [if_pos kq0]; done) | (rw [if_pos kq0]; rfl)⟩
  · replace ok := ok.2 kq0
    exact ⟨by unfold F_X10_feed; first | (rw [if_neg kq0]; done) | (rw [if_neg kq0]; rfl), by unfold F_X10_feed; first | (rw [if_neg kq0]; done) | (rw [if_neg kq0]; rfl)⟩
noncomputable def v_X10_known (T : tT)  (x0 : Int32) (x1 : Int32) (x2 : Int32) : Int32 := (v_X5_knownPoints T x0 x1 x2)
noncomputable def ok_X10_known (sz : Nat) (T : tT)  (x0 : Int32) (x1 : Int32) (x2 : Int32) : Prop := (ok_X5_knownPoints sz T x0 x1 x2 ∧ True)
set_option maxRecDepth 10000 in
theorem c_X10_known {d L sz : Nat} {T : tT} (hsz : 161 ≤ sz) (x0 : Int32) (x1 : Int32) (x2 : Int32) (ok : ok_X10_known sz T x0 x1 x2) : tiK (d + 4) mX10_known [.ref 2, .int x0, .int x1, .int x2] L sz T (fun r T' => r = v_X10_known T x0 x1 x2 ∧ T = T') := by
  refine k_X10_known hsz  x0 x1 x2 ?_
  unfold ok_X10_known at ok
  refine ⟨_, c_X5_knownPoints hsz  x0 x1 x2 ok.1, ?_⟩
  rintro _ _ ⟨rfl, rfl⟩
  replace ok := ok.2
  exact ⟨by unfold v_X10_known; rfl, rfl⟩
noncomputable def v_X10_main (T : tT)  (x0 : Int32) (x1 : Int32) : Int32 := (v_X5_mainOf T x0 x1)
noncomputable def ok_X10_main (sz : Nat) (T : tT)  (x0 : Int32) (x1 : Int32) : Prop := (ok_X5_mainOf sz T x0 x1 ∧ True)
set_option maxRecDepth 10000 in
theorem c_X10_main {d L sz : Nat} {T : tT} (hsz : 161 ≤ sz) (x0 : Int32) (x1 : Int32) (ok : ok_X10_main sz T x0 x1) : tiK (d + 3) mX10_main [.ref 2, .int x0, .int x1] L sz T (fun r T' => r = v_X10_main T x0 x1 ∧ T = T') := by
  refine k_X10_main hsz  x0 x1 ?_
  unfold ok_X10_main at ok
  refine ⟨_, c_X5_mainOf hsz  x0 x1 ok.1, ?_⟩
  rintro _ _ ⟨rfl, rfl⟩
  replace ok := ok.2
  exact ⟨by unfold v_X10_main; rfl, rfl⟩
noncomputable def v_X10_mayHear (T : tT)  (x0 : Int32) (x1 : Int32) : Int32 := (if (v_X1_plays T x0 (T.1 73 (x1.toNatClampNeg))) = 0 then (0 : Int32) else (if (T.1 75 (x1.toNatClampNeg)) = x0 then (0 : Int32) else (if (v_X10_heardElsewhere T x0 x1) = 0 then (1 : Int32) else (0 : Int32))))
noncomputable def ok_X10_mayHear (sz : Nat) (T : tT)  (x0 : Int32) (x1 : Int32) : Prop := (vp_in x1 40 ∧ (ok_X1_plays sz T x0 (T.1 73 (x1.toNatClampNeg)) ∧ (((v_X1_plays T x0 (T.1 73 (x1.toNatClampNeg))) = 0 → True) ∧ (¬ (v_X1_plays T x0 (T.1 73 (x1.toNatClampNeg))) = 0 → (vp_in x1 40 ∧ (((T.1 75 (x1.toNatClampNeg)) = x0 → True) ∧ (¬ (T.1 75 (x1.toNatClampNeg)) = x0 → (ok_X10_heardElsewhere sz T x0 x1 ∧ True))))))))
set_option maxRecDepth 10000 in
theorem c_X10_mayHear {d L sz : Nat} {T : tT} (hsz : 161 ≤ sz) (x0 : Int32) (x1 : Int32) (ok : ok_X10_mayHear sz T x0 x1) : tiK (d + 2) mX10_mayHear [.ref 2, .int x0, .int x1] L sz T (fun r T' => r = v_X10_mayHear T x0 x1 ∧ T = T') := by
  refine k_X10_mayHear hsz  x0 x1 ?_
  unfold ok_X10_mayHear at ok
  refine ⟨ok.1, ?_⟩
  replace ok := ok.2
  refine ⟨_, c_X1_plays hsz  x0 (T.1 73 (x1.toNatClampNeg)) ok.1, ?_⟩
  rintro _ _ ⟨rfl, rfl⟩
  replace ok := ok.2
  refine ⟨fun kq0 => ?_, fun kq0 => ?_⟩
  · replace ok := ok.1 kq0
    exact ⟨by unfold v_X10_mayHear; first | (rw [if_pos kq0]; done) | (rw [if_pos kq0]; rfl), rfl⟩
  · replace ok := ok.2 kq0
    refine ⟨ok.1, ?_⟩
    replace ok := ok.2
    refine ⟨fun kq1 => ?_, fun kq1 => ?_⟩
    · replace ok := ok.1 kq1
      exact ⟨by unfold v_X10_mayHear; first | (rw [if_neg kq0, if_pos kq1]; done) | (rw [if_neg kq0, if_pos kq1]; rfl), rfl⟩
    · replace ok := ok.2 kq1
      refine ⟨_, c_X10_heardElsewhere hsz  x0 x1 ok.1, ?_⟩
      rintro _ _ ⟨rfl, rfl⟩
      replace ok := ok.2
      refine ⟨fun kq2 => ?_, fun kq2 => ?_⟩
      · exact ⟨by unfold v_X10_mayHear; first | (rw [if_neg kq0, if_neg kq1, if_neg kq2]; done) | (rw [if_neg kq0, if_neg kq1, if_neg kq2]; rfl), rfl⟩
      · exact ⟨by unfold v_X10_mayHear; first | (rw [if_neg kq0, if_neg kq1, if_pos kq2]; done) | (rw [if_neg kq0, if_neg kq1, if_pos kq2]; rfl), rfl⟩
noncomputable def v_X10_of (T : tT)  (x0 : Int32) (x1 : Int32) : Int32 := (if (v_X1_hasSession T x0) = 0 then (-1 : Int32) else (if x1 = 0 then (T.1 82 (x0.toNatClampNeg)) else (if x1 = 1 then (T.1 83 (x0.toNatClampNeg)) else (if x1 = 2 then (v_X2_countIn T x0) else (if x1 = 3 then (v_X10_minutesWith T x0 (-1 : Int32)) else (-1 : Int32))))))
noncomputable def ok_X10_of (sz : Nat) (T : tT)  (x0 : Int32) (x1 : Int32) : Prop := ((¬ (v_X1_hasSession T x0) = 0 → ((x1 = 0 → vp_in x0 9) ∧ (x1 = 1 → vp_in x0 9) ∧ (x1 = 2 → (ok_X2_countIn sz T x0 ∧ True)) ∧ (x1 = 3 → (ok_X10_minutesWith sz T x0 (-1 : Int32) ∧ True)) ∧ (¬ x1 = 0 → ¬ x1 = 1 → ¬ x1 = 2 → ¬ x1 = 3 → True))) ∧ ((v_X1_hasSession T x0) = 0 → True))
set_option maxRecDepth 10000 in
theorem c_X10_of {d L sz : Nat} {T : tT} (hsz : 161 ≤ sz) (x0 : Int32) (x1 : Int32) (ok : ok_X10_of sz T x0 x1) : tiK (d + 5) mX10_of [.ref 2, .int x0, .int x1] L sz T (fun r T' => r = v_X10_of T x0 x1 ∧ T = T') := by
  refine k_X10_of hsz  x0 x1 ?_
  unfold ok_X10_of at ok
  refine ⟨_, c_X1_hasSession hsz  x0 , ?_⟩
  rintro _ _ ⟨rfl, rfl⟩
  refine ⟨fun kq0 => ?_, fun kq0 => ?_⟩
  · replace ok := ok.1 kq0
    refine ⟨fun kq1 => ?_, fun kq1 => ?_, fun kq1 => ?_, fun kq1 => ?_, fun kq1_0 kq1_1 kq1_2 kq1_3 => ?_⟩
    · replace ok := ok.1 kq1
      refine ⟨ok, ?_⟩
      exact ⟨by unfold v_X10_of; first | (rw [if_neg kq0, if_pos kq1]; done) | (rw [if_neg kq0, if_pos kq1]; rfl), rfl⟩
    · replace ok := ok.2.1 kq1
      refine ⟨ok, ?_⟩
      exact ⟨by unfold v_X10_of; first | (rw [if_neg kq0, if_neg (show ¬ x1 = 0 by rw [kq1]; decide), if_pos kq1]; done) | (rw [if_neg kq0, if_neg (show ¬ x1 = 0 by rw [kq1]; decide), if_pos kq1]; rfl), rfl⟩
    · replace ok := ok.2.2.1 kq1
      refine ⟨_, c_X2_countIn hsz  x0 ok.1, ?_⟩
      rintro _ _ ⟨rfl, rfl⟩
      replace ok := ok.2
      exact ⟨by unfold v_X10_of; first | (rw [if_neg kq0, if_neg (show ¬ x1 = 0 by rw [kq1]; decide), if_neg (show ¬ x1 = 1 by rw [kq1]; decide), if_pos kq1]; done) | (rw [if_neg kq0, if_neg (show ¬ x1 = 0 by rw [kq1]; decide), if_neg (show ¬ x1 = 1 by rw [kq1]; decide), if_pos kq1]; rfl), rfl⟩
    · replace ok := ok.2.2.2.1 kq1
      refine ⟨_, c_X10_minutesWith hsz  x0 (-1 : Int32) ok.1, ?_⟩
      rintro _ _ ⟨rfl, rfl⟩
      replace ok := ok.2
      exact ⟨by unfold v_X10_of; first | (rw [if_neg kq0, if_neg (show ¬ x1 = 0 by rw [kq1]; decide), if_neg (show ¬ x1 = 1 by rw [kq1]; decide), if_neg (show ¬ x1 = 2 by rw [kq1]; decide), if_pos kq1]; done) | (rw [if_neg kq0, if_neg (show ¬ x1 = 0 by rw [kq1]; decide), if_neg (show ¬ x1 = 1 by rw [kq1]; decide), if_neg (show ¬ x1 = 2 by rw [kq1]; decide), if_pos kq1]; rfl), rfl⟩
    · replace ok := ok.2.2.2.2 kq1_0 kq1_1 kq1_2 kq1_3
      exact ⟨by unfold v_X10_of; first | (rw [if_neg kq0, if_neg kq1_0, if_neg kq1_1, if_neg kq1_2, if_neg kq1_3]; done) | (rw [if_neg kq0, if_neg kq1_0, if_neg kq1_1, if_neg kq1_2, if_neg kq1_3]; rfl), rfl⟩
  · replace ok := ok.2 kq0
    exact ⟨by unfold v_X10_of; first | (rw [if_pos kq0]; done) | (rw [if_pos kq0]; rfl), rfl⟩
noncomputable def F_X10_piece (T : tT)  (x0 : Int32) (x1 : Int64) : Int32 × tT := (if (v_X2_has T x0) = 0 then ((-1 : Int32), T) else (if (v_X9_isWord T x1) = 0 then ((-1 : Int32), T) else ((F_X2_addPiece T x0 x1).1, (F_X2_addPiece T x0 x1).2)))
noncomputable def ok_X10_piece (sz : Nat) (T : tT)  (x0 : Int32) (x1 : Int64) : Prop := (((v_X2_has T x0) = 0 → True) ∧ (¬ (v_X2_has T x0) = 0 → (ok_X9_isWord sz T x1 ∧ (((v_X9_isWord T x1) = 0 → True) ∧ (¬ (v_X9_isWord T x1) = 0 → (ok_X2_addPiece sz T x0 x1 ∧ True))))))
set_option maxRecDepth 10000 in
theorem c_X10_piece {d L sz : Nat} {T : tT} (hsz : 161 ≤ sz) (x0 : Int32) (x1 : Int64) (ok : ok_X10_piece sz T x0 x1) : tiK (d + 2) mX10_piece [.ref 2, .int x0, .long x1] L sz T (fun r T' => r = (F_X10_piece T x0 x1).1 ∧ T' = (F_X10_piece T x0 x1).2) := by
  refine k_X10_piece hsz  x0 x1 ?_
  unfold ok_X10_piece at ok
  refine ⟨_, c_X2_has hsz  x0 , ?_⟩
  rintro _ _ ⟨rfl, rfl⟩
  refine ⟨fun kq0 => ?_, fun kq0 => ?_⟩
  · replace ok := ok.1 kq0
    exact ⟨by unfold F_X10_piece; first | (rw [if_pos kq0]; done) | (rw [if_pos kq0]; rfl), by unfold F_X10_piece; first | (rw [if_pos kq0]; done) | (rw [if_pos kq0]; rfl)⟩
  · replace ok := ok.2 kq0
    refine ⟨_, c_X9_isWord hsz  x1 ok.1, ?_⟩
    rintro _ _ ⟨rfl, rfl⟩
    replace ok := ok.2
    refine ⟨fun kq1 => ?_, fun kq1 => ?_⟩
    · replace ok := ok.1 kq1
      exact ⟨by unfold F_X10_piece; first | (rw [if_neg kq0, if_pos kq1]; done) | (rw [if_neg kq0, if_pos kq1]; rfl), by unfold F_X10_piece; first | (rw [if_neg kq0, if_pos kq1]; done) | (rw [if_neg kq0, if_pos kq1]; rfl)⟩
    · replace ok := ok.2 kq1
      refine ⟨_, c_X2_addPiece hsz  x0 x1 ok.1, ?_⟩
      rintro _ _ ⟨rfl, rfl⟩
      replace ok := ok.2
      exact ⟨by unfold F_X10_piece; first | (rw [if_neg kq0, if_neg kq1]; done) | (rw [if_neg kq0, if_neg kq1]; rfl), by unfold F_X10_piece; first | (rw [if_neg kq0, if_neg kq1]; done) | (rw [if_neg kq0, if_neg kq1]; rfl)⟩
noncomputable def F_X10_put (T : tT)  (x0 : Int32) (x1 : Int32) : Int32 × tT := (if (v_X2_has T x0) = 0 then ((0 : Int32), T) else (if x1 = (-1 : Int32) then (if x1 = (-1 : Int32) then ((1 : Int32), (tI T 76 (x0.toNatClampNeg) x1)) else (if (v_X10_minutesWith T x1 x0) ≤ (300 : Int32) then ((1 : Int32), (tI T 76 (x0.toNatClampNeg) x1)) else ((0 : Int32), T))) else (if (v_X1_hasSession T x1) = 0 then ((0 : Int32), T) else (if x1 = (-1 : Int32) then ((1 : Int32), (tI T 76 (x0.toNatClampNeg) x1)) else (if (v_X10_minutesWith T x1 x0) ≤ (300 : Int32) then ((1 : Int32), (tI T 76 (x0.toNatClampNeg) x1)) else ((0 : Int32), T))))))
noncomputable def ok_X10_put (sz : Nat) (T : tT)  (x0 : Int32) (x1 : Int32) : Prop := (((v_X2_has T x0) = 0 → True) ∧ (¬ (v_X2_has T x0) = 0 → ((x1 = (-1 : Int32) → ((x1 = (-1 : Int32) → vp_in x0 40) ∧ (¬ x1 = (-1 : Int32) → (ok_X10_minutesWith sz T x1 x0 ∧ (((v_X10_minutesWith T x1 x0) ≤ (300 : Int32) → vp_in x0 40) ∧ (¬ (v_X10_minutesWith T x1 x0) ≤ (300 : Int32) → True)))))) ∧ (¬ x1 = (-1 : Int32) → ((¬ (v_X1_hasSession T x1) = 0 → ((x1 = (-1 : Int32) → vp_in x0 40) ∧ (¬ x1 = (-1 : Int32) → (ok_X10_minutesWith sz T x1 x0 ∧ (((v_X10_minutesWith T x1 x0) ≤ (300 : Int32) → vp_in x0 40) ∧ (¬ (v_X10_minutesWith T x1 x0) ≤ (300 : Int32) → True)))))) ∧ ((v_X1_hasSession T x1) = 0 → True))))))
set_option maxRecDepth 10000 in
theorem c_X10_put {d L sz : Nat} {T : tT} (hsz : 161 ≤ sz) (x0 : Int32) (x1 : Int32) (ok : ok_X10_put sz T x0 x1) : tiK (d + 5) mX10_put [.ref 2, .int x0, .int x1] L sz T (fun r T' => r = (F_X10_put T x0 x1).1 ∧ T' = (F_X10_put T x0 x1).2) := by
  refine k_X10_put hsz  x0 x1 ?_
  unfold ok_X10_put at ok
  refine ⟨_, c_X2_has hsz  x0 , ?_⟩
  rintro _ _ ⟨rfl, rfl⟩
  refine ⟨fun kq0 => ?_, fun kq0 => ?_⟩
  · replace ok := ok.1 kq0
    exact ⟨by unfold F_X10_put; first | (rw [if_pos kq0]; done) | (rw [if_pos kq0]; rfl), by unfold F_X10_put; first | (rw [if_pos kq0]; done) | (rw [if_pos kq0]; rfl)⟩
  · replace ok := ok.2 kq0
    refine ⟨fun kq1 => ?_, fun kq1 => ?_⟩
    · replace ok := ok.1 kq1
      refine ⟨fun kq2 => ?_, fun kq2 => ?_⟩
      · replace ok := ok.1 kq2
        refine ⟨ok, ?_⟩
        exact ⟨by unfold F_X10_put; first | (rw [if_neg kq0, if_pos kq1, if_pos kq2]; done) | (rw [if_neg kq0, if_pos kq1, if_pos kq2]; rfl), by unfold F_X10_put; first | (rw [if_neg kq0, if_pos kq1, if_pos kq2]; done) | (rw [if_neg kq0, if_pos kq1, if_pos kq2]; rfl)⟩
      · replace ok := ok.2 kq2
        refine ⟨_, c_X10_minutesWith hsz  x1 x0 ok.1, ?_⟩
        rintro _ _ ⟨rfl, rfl⟩
        replace ok := ok.2
        refine ⟨fun kq3 => ?_, fun kq3 => ?_⟩
        · replace ok := ok.1 kq3
          refine ⟨ok, ?_⟩
          exact ⟨by unfold F_X10_put; first | (rw [if_neg kq0, if_pos kq1, if_neg kq2, if_pos kq3]; done) | (rw [if_neg kq0, if_pos kq1, if_neg kq2, if_pos kq3]; rfl), by unfold F_X10_put; first | (rw [if_neg kq0, if_pos kq1, if_neg kq2, if_pos kq3]; done) | (rw [if_neg kq0, if_pos kq1, if_neg kq2, if_pos kq3]; rfl)⟩
        · replace ok := ok.2 kq3
          exact ⟨by unfold F_X10_put; first | (rw [if_neg kq0, if_pos kq1, if_neg kq2, if_neg kq3]; done) | (rw [if_neg kq0, if_pos kq1, if_neg kq2, if_neg kq3]; rfl), by unfold F_X10_put; first | (rw [if_neg kq0, if_pos kq1, if_neg kq2, if_neg kq3]; done) | (rw [if_neg kq0, if_pos kq1, if_neg kq2, if_neg kq3]; rfl)⟩
    · replace ok := ok.2 kq1
      refine ⟨_, c_X1_hasSession hsz  x1 , ?_⟩
      rintro _ _ ⟨rfl, rfl⟩
      refine ⟨fun kq2 => ?_, fun kq2 => ?_⟩
      · replace ok := ok.1 kq2
        refine ⟨fun kq3 => ?_, fun kq3 => ?_⟩
        · replace ok := ok.1 kq3
          refine ⟨ok, ?_⟩
          exact ⟨by unfold F_X10_put; first | (rw [if_neg kq0, if_neg kq1, if_neg kq2, if_pos kq3]; done) | (rw [if_neg kq0, if_neg kq1, if_neg kq2, if_pos kq3]; rfl), by unfold F_X10_put; first | (rw [if_neg kq0, if_neg kq1, if_neg kq2, if_pos kq3]; done) | (rw [if_neg kq0, if_neg kq1, if_neg kq2, if_pos kq3]; rfl)⟩
        · replace ok := ok.2 kq3
          refine ⟨_, c_X10_minutesWith hsz  x1 x0 ok.1, ?_⟩
          rintro _ _ ⟨rfl, rfl⟩
          replace ok := ok.2
          refine ⟨fun kq4 => ?_, fun kq4 => ?_⟩
          · replace ok := ok.1 kq4
            refine ⟨ok, ?_⟩
            exact ⟨by unfold F_X10_put; first | (rw [if_neg kq0, if_neg kq1, if_neg kq2, if_neg kq3, if_pos kq4]; done) | (rw [if_neg kq0, if_neg kq1, if_neg kq2, if_neg kq3, if_pos kq4]; rfl), by unfold F_X10_put; first | (rw [if_neg kq0, if_neg kq1, if_neg kq2, if_neg kq3, if_pos kq4]; done) | (rw [if_neg kq0, if_neg kq1, if_neg kq2, if_neg kq3, if_pos kq4]; rfl)⟩
          · replace ok := ok.2 kq4
            exact ⟨by unfold F_X10_put; first | (rw [if_neg kq0, if_neg kq1, if_neg kq2, if_neg kq3, if_neg kq4]; done) | (rw [if_neg kq0, if_neg kq1, if_neg kq2, if_neg kq3, if_neg kq4]; rfl), by unfold F_X10_put; first | (rw [if_neg kq0, if_neg kq1, if_neg kq2, if_neg kq3, if_neg kq4]; done) | (rw [if_neg kq0, if_neg kq1, if_neg kq2, if_neg kq3, if_neg kq4]; rfl)⟩
      · replace ok := ok.2 kq2
        exact ⟨by unfold F_X10_put; first | (rw [if_neg kq0, if_neg kq1, if_pos kq2]; done) | (rw [if_neg kq0, if_neg kq1, if_pos kq2]; rfl), by unfold F_X10_put; first | (rw [if_neg kq0, if_neg kq1, if_pos kq2]; done) | (rw [if_neg kq0, if_neg kq1, if_pos kq2]; rfl)⟩
noncomputable def F_X11_canName (T : tT)  (x0 : Int32) : Int32 × tT := (if (T.1 105 8) = (2 : Int32) then (if (v_X11_isGood T) = 0 then ((v_X11_isGood T), T) else (if 0 ≤ (v_X11_listOf T x0 (T.2.1 105 10)) then ((v_X11_isGood (F_X11_fails T (3 : Int32) (T.1 105 6))), (F_X11_fails T (3 : Int32) (T.1 105 6))) else (if (v_X11_partOf T x0 (T.2.1 105 10)) < 0 then ((v_X11_isGood T), T) else ((v_X11_isGood (F_X11_fails T (3 : Int32) (T.1 105 6))), (F_X11_fails T (3 : Int32) (T.1 105 6)))))) else (if (v_X11_isGood (F_X11_wrong T)) = 0 then ((v_X11_isGood (F_X11_wrong T)), (F_X11_wrong T)) else (if 0 ≤ (v_X11_listOf (F_X11_wrong T) x0 ((F_X11_wrong T).2.1 105 10)) then ((v_X11_isGood (F_X11_fails (F_X11_wrong T) (3 : Int32) ((F_X11_wrong T).1 105 6))), (F_X11_fails (F_X11_wrong T) (3 : Int32) ((F_X11_wrong T).1 105 6))) else (if (v_X11_partOf (F_X11_wrong T) x0 ((F_X11_wrong T).2.1 105 10)) < 0 then ((v_X11_isGood (F_X11_wrong T)), (F_X11_wrong T)) else ((v_X11_isGood (F_X11_fails (F_X11_wrong T) (3 : Int32) ((F_X11_wrong T).1 105 6))), (F_X11_fails (F_X11_wrong T) (3 : Int32) ((F_X11_wrong T).1 105 6)))))))
noncomputable def ok_X11_canName (sz : Nat) (T : tT)  (x0 : Int32) : Prop := (((T.1 105 8) = (2 : Int32) → (((v_X11_isGood T) = 0 → ((v_X11_isGood T) &&& 1 = (v_X11_isGood T))) ∧ (¬ (v_X11_isGood T) = 0 → (ok_X11_listOf sz T x0 (T.2.1 105 10) ∧ ((0 ≤ (v_X11_listOf T x0 (T.2.1 105 10)) → ((v_X11_isGood (F_X11_fails T (3 : Int32) (T.1 105 6))) &&& 1 = (v_X11_isGood (F_X11_fails T (3 : Int32) (T.1 105 6))))) ∧ (¬ 0 ≤ (v_X11_listOf T x0 (T.2.1 105 10)) → (ok_X11_partOf sz T x0 (T.2.1 105 10) ∧ (((v_X11_partOf T x0 (T.2.1 105 10)) < 0 → ((v_X11_isGood T) &&& 1 = (v_X11_isGood T))) ∧ (¬ (v_X11_partOf T x0 (T.2.1 105 10)) < 0 → ((v_X11_isGood (F_X11_fails T (3 : Int32) (T.1 105 6))) &&& 1 = (v_X11_isGood (F_X11_fails T (3 : Int32) (T.1 105 6))))))))))))) ∧ (¬ (T.1 105 8) = (2 : Int32) → (((v_X11_isGood (F_X11_wrong T)) = 0 → ((v_X11_isGood (F_X11_wrong T)) &&& 1 = (v_X11_isGood (F_X11_wrong T)))) ∧ (¬ (v_X11_isGood (F_X11_wrong T)) = 0 → (ok_X11_listOf sz (F_X11_wrong T) x0 ((F_X11_wrong T).2.1 105 10) ∧ ((0 ≤ (v_X11_listOf (F_X11_wrong T) x0 ((F_X11_wrong T).2.1 105 10)) → ((v_X11_isGood (F_X11_fails (F_X11_wrong T) (3 : Int32) ((F_X11_wrong T).1 105 6))) &&& 1 = (v_X11_isGood (F_X11_fails (F_X11_wrong T) (3 : Int32) ((F_X11_wrong T).1 105 6))))) ∧ (¬ 0 ≤ (v_X11_listOf (F_X11_wrong T) x0 ((F_X11_wrong T).2.1 105 10)) → (ok_X11_partOf sz (F_X11_wrong T) x0 ((F_X11_wrong T).2.1 105 10) ∧ (((v_X11_partOf (F_X11_wrong T) x0 ((F_X11_wrong T).2.1 105 10)) < 0 → ((v_X11_isGood (F_X11_wrong T)) &&& 1 = (v_X11_isGood (F_X11_wrong T)))) ∧ (¬ (v_X11_partOf (F_X11_wrong T) x0 ((F_X11_wrong T).2.1 105 10)) < 0 → ((v_X11_isGood (F_X11_fails (F_X11_wrong T) (3 : Int32) ((F_X11_wrong T).1 105 6))) &&& 1 = (v_X11_isGood (F_X11_fails (F_X11_wrong T) (3 : Int32) ((F_X11_wrong T).1 105 6))))))))))))))
set_option maxRecDepth 10000 in
theorem c_X11_canName {d L sz : Nat} {T : tT} (hsz : 161 ≤ sz) (x0 : Int32) (ok : ok_X11_canName sz T x0) : tiK (d + 2) mX11_canName [.ref 105, .int x0] L sz T (fun r T' => r = (F_X11_canName T x0).1 ∧ T' = (F_X11_canName T x0).2) := by
  refine k_X11_canName hsz  x0 ?_
  unfold ok_X11_canName at ok
  refine ⟨fun kq0 => ?_, fun kq0 => ?_⟩
  · replace ok := ok.1 kq0
    refine ⟨_, c_X11_isGood hsz   , ?_⟩
    rintro _ _ ⟨rfl, rfl⟩
    refine ⟨fun kq1 => ?_, fun kq1 => ?_⟩
    · replace ok := ok.1 kq1
      refine ⟨_, c_X11_isGood hsz   , ?_⟩
      rintro _ _ ⟨rfl, rfl⟩
      exact ⟨ok, ⟨by unfold F_X11_canName; first | (rw [if_pos kq0, if_pos kq1]; done) | (rw [if_pos kq0, if_pos kq1]; rfl), by unfold F_X11_canName; first | (rw [if_pos kq0, if_pos kq1]; done) | (rw [if_pos kq0, if_pos kq1]; rfl)⟩⟩
    · replace ok := ok.2 kq1
      refine ⟨_, c_X11_listOf hsz  x0 (T.2.1 105 10) ok.1, ?_⟩
      rintro _ _ ⟨rfl, rfl⟩
      replace ok := ok.2
      refine ⟨fun kq2 => ?_, fun kq2 => ?_⟩
      · replace ok := ok.1 kq2
        refine ⟨_, c_X11_fails hsz  (3 : Int32) (T.1 105 6) , ?_⟩
        rintro _ rfl
        refine ⟨_, c_X11_isGood hsz   , ?_⟩
        rintro _ _ ⟨rfl, rfl⟩
        exact ⟨ok, ⟨by unfold F_X11_canName; first | (rw [if_pos kq0, if_neg kq1, if_pos kq2]; done) | (rw [if_pos kq0, if_neg kq1, if_pos kq2]; rfl), by unfold F_X11_canName; first | (rw [if_pos kq0, if_neg kq1, if_pos kq2]; done) | (rw [if_pos kq0, if_neg kq1, if_pos kq2]; rfl)⟩⟩
      · replace ok := ok.2 kq2
        refine ⟨_, c_X11_partOf hsz  x0 (T.2.1 105 10) ok.1, ?_⟩
        rintro _ _ ⟨rfl, rfl⟩
        replace ok := ok.2
        refine ⟨fun kq3 => ?_, fun kq3 => ?_⟩
        · replace ok := ok.1 kq3
          refine ⟨_, c_X11_isGood hsz   , ?_⟩
          rintro _ _ ⟨rfl, rfl⟩
          exact ⟨ok, ⟨by unfold F_X11_canName; first | (rw [if_pos kq0, if_neg kq1, if_neg kq2, if_pos kq3]; done) | (rw [if_pos kq0, if_neg kq1, if_neg kq2, if_pos kq3]; rfl), by unfold F_X11_canName; first | (rw [if_pos kq0, if_neg kq1, if_neg kq2, if_pos kq3]; done) | (rw [if_pos kq0, if_neg kq1, if_neg kq2, if_pos kq3]; rfl)⟩⟩
        · replace ok := ok.2 kq3
          refine ⟨_, c_X11_fails hsz  (3 : Int32) (T.1 105 6) , ?_⟩
          rintro _ rfl
          refine ⟨_, c_X11_isGood hsz   , ?_⟩
          rintro _ _ ⟨rfl, rfl⟩
          exact ⟨ok, ⟨by unfold F_X11_canName; first | (rw [if_pos kq0, if_neg kq1, if_neg kq2, if_neg kq3]; done) | (rw [if_pos kq0, if_neg kq1, if_neg kq2, if_neg kq3]; rfl), by unfold F_X11_canName; first | (rw [if_pos kq0, if_neg kq1, if_neg kq2, if_neg kq3]; done) | (rw [if_pos kq0, if_neg kq1, if_neg kq2, if_neg kq3]; rfl)⟩⟩
  · replace ok := ok.2 kq0
    refine ⟨_, c_X11_wrong hsz   , ?_⟩
    rintro _ rfl
    refine ⟨_, c_X11_isGood hsz   , ?_⟩
    rintro _ _ ⟨rfl, rfl⟩
    refine ⟨fun kq1 => ?_, fun kq1 => ?_⟩
    · replace ok := ok.1 kq1
      refine ⟨_, c_X11_isGood hsz   , ?_⟩
      rintro _ _ ⟨rfl, rfl⟩
      exact ⟨ok, ⟨by unfold F_X11_canName; first | (rw [if_neg kq0, if_pos kq1]; done) | (rw [if_neg kq0, if_pos kq1]; rfl), by unfold F_X11_canName; first | (rw [if_neg kq0, if_pos kq1]; done) | (rw [if_neg kq0, if_pos kq1]; rfl)⟩⟩
    · replace ok := ok.2 kq1
      refine ⟨_, c_X11_listOf hsz  x0 ((F_X11_wrong T).2.1 105 10) ok.1, ?_⟩
      rintro _ _ ⟨rfl, rfl⟩
      replace ok := ok.2
      refine ⟨fun kq2 => ?_, fun kq2 => ?_⟩
      · replace ok := ok.1 kq2
        refine ⟨_, c_X11_fails hsz  (3 : Int32) ((F_X11_wrong T).1 105 6) , ?_⟩
        rintro _ rfl
        refine ⟨_, c_X11_isGood hsz   , ?_⟩
        rintro _ _ ⟨rfl, rfl⟩
        exact ⟨ok, ⟨by unfold F_X11_canName; first | (rw [if_neg kq0, if_neg kq1, if_pos kq2]; done) | (rw [if_neg kq0, if_neg kq1, if_pos kq2]; rfl), by unfold F_X11_canName; first | (rw [if_neg kq0, if_neg kq1, if_pos kq2]; done) | (rw [if_neg kq0, if_neg kq1, if_pos kq2]; rfl)⟩⟩
      · replace ok := ok.2 kq2
        refine ⟨_, c_X11_partOf hsz  x0 ((F_X11_wrong T).2.1 105 10) ok.1, ?_⟩
        rintro _ _ ⟨rfl, rfl⟩
        replace ok := ok.2
        refine ⟨fun kq3 => ?_, fun kq3 => ?_⟩
        · replace ok := ok.1 kq3
          refine ⟨_, c_X11_isGood hsz   , ?_⟩
          rintro _ _ ⟨rfl, rfl⟩
          exact ⟨ok, ⟨by unfold F_X11_canName; first | (rw [if_neg kq0, if_neg kq1, if_neg kq2, if_pos kq3]; done) | (rw [if_neg kq0, if_neg kq1, if_neg kq2, if_pos kq3]; rfl), by unfold F_X11_canName; first | (rw [if_neg kq0, if_neg kq1, if_neg kq2, if_pos kq3]; done) | (rw [if_neg kq0, if_neg kq1, if_neg kq2, if_pos kq3]; rfl)⟩⟩
        · replace ok := ok.2 kq3
          refine ⟨_, c_X11_fails hsz  (3 : Int32) ((F_X11_wrong T).1 105 6) , ?_⟩
          rintro _ rfl
          refine ⟨_, c_X11_isGood hsz   , ?_⟩
          rintro _ _ ⟨rfl, rfl⟩
          exact ⟨ok, ⟨by unfold F_X11_canName; first | (rw [if_neg kq0, if_neg kq1, if_neg kq2, if_neg kq3]; done) | (rw [if_neg kq0, if_neg kq1, if_neg kq2, if_neg kq3]; rfl), by unfold F_X11_canName; first | (rw [if_neg kq0, if_neg kq1, if_neg kq2, if_neg kq3]; done) | (rw [if_neg kq0, if_neg kq1, if_neg kq2, if_neg kq3]; rfl)⟩⟩
noncomputable def v_X11_known (T : tT)  (x0 : Int32) (x1 : Int32) (x2 : Int32) : Int32 := (if (v_X11_isEntry T x0) = 0 then (-1 : Int32) else (if (v_X11_lastOf T x0 x1 (-1 : Int32) x2) < 0 then (if 0 ≤ (v_X11_main T x0 x2) then (v_X11_lastOf T x0 x1 (v_X11_main T x0 x2) x2) else (-1 : Int32)) else (v_X11_lastOf T x0 x1 (-1 : Int32) x2)))
noncomputable def ok_X11_known (sz : Nat) (T : tT)  (x0 : Int32) (x1 : Int32) (x2 : Int32) : Prop := ((¬ (v_X11_isEntry T x0) = 0 → (ok_X11_lastOf sz T x0 x1 (-1 : Int32) x2 ∧ (ok_X11_main sz T x0 x2 ∧ (((v_X11_lastOf T x0 x1 (-1 : Int32) x2) < 0 → ((0 ≤ (v_X11_main T x0 x2) → (ok_X11_lastOf sz T x0 x1 (v_X11_main T x0 x2) x2 ∧ True)) ∧ (¬ 0 ≤ (v_X11_main T x0 x2) → True))) ∧ (¬ (v_X11_lastOf T x0 x1 (-1 : Int32) x2) < 0 → True))))) ∧ ((v_X11_isEntry T x0) = 0 → True))
set_option maxRecDepth 10000 in
theorem c_X11_known {d L sz : Nat} {T : tT} (hsz : 161 ≤ sz) (x0 : Int32) (x1 : Int32) (x2 : Int32) (ok : ok_X11_known sz T x0 x1 x2) : tiK (d + 2) mX11_known [.ref 105, .int x0, .int x1, .int x2] L sz T (fun r T' => r = v_X11_known T x0 x1 x2 ∧ T = T') := by
  refine k_X11_known hsz  x0 x1 x2 ?_
  unfold ok_X11_known at ok
  refine ⟨_, c_X11_isEntry hsz  x0 , ?_⟩
  rintro _ _ ⟨rfl, rfl⟩
  refine ⟨fun kq0 => ?_, fun kq0 => ?_⟩
  · replace ok := ok.1 kq0
    refine ⟨_, c_X11_lastOf hsz  x0 x1 (-1 : Int32) x2 ok.1, ?_⟩
    rintro _ _ ⟨rfl, rfl⟩
    replace ok := ok.2
    refine ⟨_, c_X11_main hsz  x0 x2 ok.1, ?_⟩
    rintro _ _ ⟨rfl, rfl⟩
    replace ok := ok.2
    refine ⟨fun kq1 => ?_, fun kq1 => ?_⟩
    · replace ok := ok.1 kq1
      refine ⟨fun kq2 => ?_, fun kq2 => ?_⟩
      · replace ok := ok.1 kq2
        refine ⟨_, c_X11_lastOf hsz  x0 x1 (v_X11_main T x0 x2) x2 ok.1, ?_⟩
        rintro _ _ ⟨rfl, rfl⟩
        replace ok := ok.2
        exact ⟨by unfold v_X11_known; first | (rw [if_neg kq0, if_pos kq1, if_pos kq2]; done) | (rw [if_neg kq0, if_pos kq1, if_pos kq2]; rfl), rfl⟩
      · replace ok := ok.2 kq2
        exact ⟨by unfold v_X11_known; first | (rw [if_neg kq0, if_pos kq1, if_neg kq2]; done) | (rw [if_neg kq0, if_pos kq1, if_neg kq2]; rfl), rfl⟩
    · replace ok := ok.2 kq1
      exact ⟨by unfold v_X11_known; first | (rw [if_neg kq0, if_neg kq1]; done) | (rw [if_neg kq0, if_neg kq1]; rfl), rfl⟩
  · replace ok := ok.2 kq0
    exact ⟨by unfold v_X11_known; first | (rw [if_pos kq0]; done) | (rw [if_pos kq0]; rfl), rfl⟩
noncomputable def v_X11_may (T : tT)  (x0 : Int32) (x1 : Int32) : Int32 := (if (v_X11_isExaminer T x0) = 0 then (-1 : Int32) else (if (v_X11_isSession T x1) = 0 then (-1 : Int32) else (if (v_X11_mayTake T x0 x1) = 0 then (0 : Int32) else (1 : Int32))))
noncomputable def ok_X11_may (sz : Nat) (T : tT)  (x0 : Int32) (x1 : Int32) : Prop := (((v_X11_isExaminer T x0) = 0 → True) ∧ (¬ (v_X11_isExaminer T x0) = 0 → ((¬ (v_X11_isSession T x1) = 0 → (ok_X11_mayTake sz T x0 x1 ∧ True)) ∧ ((v_X11_isSession T x1) = 0 → True))))
set_option maxRecDepth 10000 in
theorem c_X11_may {d L sz : Nat} {T : tT} (hsz : 161 ≤ sz) (x0 : Int32) (x1 : Int32) (ok : ok_X11_may sz T x0 x1) : tiK (d + 2) mX11_may [.ref 105, .int x0, .int x1] L sz T (fun r T' => r = v_X11_may T x0 x1 ∧ T = T') := by
  refine k_X11_may hsz  x0 x1 ?_
  unfold ok_X11_may at ok
  refine ⟨_, c_X11_isExaminer hsz  x0 , ?_⟩
  rintro _ _ ⟨rfl, rfl⟩
  refine ⟨fun kq0 => ?_, fun kq0 => ?_⟩
  · replace ok := ok.1 kq0
    exact ⟨by unfold v_X11_may; first | (rw [if_pos kq0]; done) | (rw [if_pos kq0]; rfl), rfl⟩
  · replace ok := ok.2 kq0
    refine ⟨_, c_X11_isSession hsz  x1 , ?_⟩
    rintro _ _ ⟨rfl, rfl⟩
    refine ⟨fun kq1 => ?_, fun kq1 => ?_⟩
    · replace ok := ok.1 kq1
      refine ⟨_, c_X11_mayTake hsz  x0 x1 ok.1, ?_⟩
      rintro _ _ ⟨rfl, rfl⟩
      replace ok := ok.2
      refine ⟨fun kq2 => ?_, fun kq2 => ?_⟩
      · exact ⟨by unfold v_X11_may; first | (rw [if_neg kq0, if_neg kq1, if_pos kq2]; done) | (rw [if_neg kq0, if_neg kq1, if_pos kq2]; rfl), rfl⟩
      · exact ⟨by unfold v_X11_may; first | (rw [if_neg kq0, if_neg kq1, if_neg kq2]; done) | (rw [if_neg kq0, if_neg kq1, if_neg kq2]; rfl), rfl⟩
    · replace ok := ok.2 kq1
      exact ⟨by unfold v_X11_may; first | (rw [if_neg kq0, if_pos kq1]; done) | (rw [if_neg kq0, if_pos kq1]; rfl), rfl⟩
noncomputable def F_X11_put (T : tT)  (x0 : Int32) (x1 : Int32) : Int32 × tT := (if (v_X11_isEntry T x0) = 0 then ((0 : Int32), T) else (if x1 = (-1 : Int32) then ((1 : Int32), (tI T 138 (x0.toNatClampNeg) x1)) else (if (v_X11_isSession T x1) = 0 then ((0 : Int32), T) else (if ((v_X11_minutesIn T x1 x0) + (v_X11_minutesOf T (v_X11_spotOf T x0))) ≤ (300 : Int32) then ((1 : Int32), (tI T 138 (x0.toNatClampNeg) x1)) else ((0 : Int32), T)))))
noncomputable def ok_X11_put (sz : Nat) (T : tT)  (x0 : Int32) (x1 : Int32) : Prop := (((v_X11_isEntry T x0) = 0 → True) ∧ (¬ (v_X11_isEntry T x0) = 0 → ((x1 = (-1 : Int32) → vp_in x0 40) ∧ (¬ x1 = (-1 : Int32) → (((v_X11_isSession T x1) = 0 → True) ∧ (¬ (v_X11_isSession T x1) = 0 → (ok_X11_minutesIn sz T x1 x0 ∧ (ok_X11_spotOf sz T x0 ∧ (ok_X11_minutesOf sz T (v_X11_spotOf T x0) ∧ ((((v_X11_minutesIn T x1 x0) + (v_X11_minutesOf T (v_X11_spotOf T x0))) ≤ (300 : Int32) → vp_in x0 40) ∧ (¬ ((v_X11_minutesIn T x1 x0) + (v_X11_minutesOf T (v_X11_spotOf T x0))) ≤ (300 : Int32) → True)))))))))))
set_option maxRecDepth 10000 in
theorem c_X11_put {d L sz : Nat} {T : tT} (hsz : 161 ≤ sz) (x0 : Int32) (x1 : Int32) (ok : ok_X11_put sz T x0 x1) : tiK (d + 3) mX11_put [.ref 105, .int x0, .int x1] L sz T (fun r T' => r = (F_X11_put T x0 x1).1 ∧ T' = (F_X11_put T x0 x1).2) := by
  refine k_X11_put hsz  x0 x1 ?_
  unfold ok_X11_put at ok
  refine ⟨_, c_X11_isEntry hsz  x0 , ?_⟩
  rintro _ _ ⟨rfl, rfl⟩
  refine ⟨fun kq0 => ?_, fun kq0 => ?_⟩
  · replace ok := ok.1 kq0
    exact ⟨by unfold F_X11_put; first | (rw [if_pos kq0]; done) | (rw [if_pos kq0]; rfl), by unfold F_X11_put; first | (rw [if_pos kq0]; done) | (rw [if_pos kq0]; rfl)⟩
  · replace ok := ok.2 kq0
    refine ⟨fun kq1 => ?_, fun kq1 => ?_⟩
    · replace ok := ok.1 kq1
      refine ⟨ok, ?_⟩
      exact ⟨by unfold F_X11_put; first | (rw [if_neg kq0, if_pos kq1]; done) | (rw [if_neg kq0, if_pos kq1]; rfl), by unfold F_X11_put; first | (rw [if_neg kq0, if_pos kq1]; done) | (rw [if_neg kq0, if_pos kq1]; rfl)⟩
    · replace ok := ok.2 kq1
      refine ⟨_, c_X11_isSession hsz  x1 , ?_⟩
      rintro _ _ ⟨rfl, rfl⟩
      refine ⟨fun kq2 => ?_, fun kq2 => ?_⟩
      · replace ok := ok.1 kq2
        exact ⟨by unfold F_X11_put; first | (rw [if_neg kq0, if_neg kq1, if_pos kq2]; done) | (rw [if_neg kq0, if_neg kq1, if_pos kq2]; rfl), by unfold F_X11_put; first | (rw [if_neg kq0, if_neg kq1, if_pos kq2]; done) | (rw [if_neg kq0, if_neg kq1, if_pos kq2]; rfl)⟩
      · replace ok := ok.2 kq2
        refine ⟨_, c_X11_minutesIn hsz  x1 x0 ok.1, ?_⟩
        rintro _ _ ⟨rfl, rfl⟩
        replace ok := ok.2
        refine ⟨_, c_X11_spotOf hsz  x0 ok.1, ?_⟩
        rintro _ _ ⟨rfl, rfl⟩
        replace ok := ok.2
        refine ⟨_, c_X11_minutesOf hsz  (v_X11_spotOf T x0) ok.1, ?_⟩
        rintro _ _ ⟨rfl, rfl⟩
        replace ok := ok.2
        refine ⟨fun kq3 => ?_, fun kq3 => ?_⟩
        · replace ok := ok.1 kq3
          refine ⟨ok, ?_⟩
          exact ⟨by unfold F_X11_put; first | (rw [if_neg kq0, if_neg kq1, if_neg kq2, if_pos kq3]; done) | (rw [if_neg kq0, if_neg kq1, if_neg kq2, if_pos kq3]; rfl), by unfold F_X11_put; first | (rw [if_neg kq0, if_neg kq1, if_neg kq2, if_pos kq3]; done) | (rw [if_neg kq0, if_neg kq1, if_neg kq2, if_pos kq3]; rfl)⟩
        · replace ok := ok.2 kq3
          exact ⟨by unfold F_X11_put; first | (rw [if_neg kq0, if_neg kq1, if_neg kq2, if_neg kq3]; done) | (rw [if_neg kq0, if_neg kq1, if_neg kq2, if_neg kq3]; rfl), by unfold F_X11_put; first | (rw [if_neg kq0, if_neg kq1, if_neg kq2, if_neg kq3]; done) | (rw [if_neg kq0, if_neg kq1, if_neg kq2, if_neg kq3]; rfl)⟩
noncomputable def F_X11_appeal (T : tT)  (x0 : Int32) (x1 : Int32) (x2 : Int32) : Int32 × tT := (if 0 ≤ (v_X11_known T x0 x1 (T.1 105 71)) then ((F_X11_tell T x0 (-1 : Int32) x1 x2).1, (F_X11_tell T x0 (-1 : Int32) x1 x2).2) else ((-1 : Int32), T))
noncomputable def ok_X11_appeal (sz : Nat) (T : tT)  (x0 : Int32) (x1 : Int32) (x2 : Int32) : Prop := (ok_X11_known sz T x0 x1 (T.1 105 71) ∧ ((0 ≤ (v_X11_known T x0 x1 (T.1 105 71)) → (ok_X11_tell sz T x0 (-1 : Int32) x1 x2 ∧ True)) ∧ (¬ 0 ≤ (v_X11_known T x0 x1 (T.1 105 71)) → True)))
set_option maxRecDepth 10000 in
theorem c_X11_appeal {d L sz : Nat} {T : tT} (hsz : 161 ≤ sz) (x0 : Int32) (x1 : Int32) (x2 : Int32) (ok : ok_X11_appeal sz T x0 x1 x2) : tiK (d + 3) mX11_appeal [.ref 105, .int x0, .int x1, .int x2] L sz T (fun r T' => r = (F_X11_appeal T x0 x1 x2).1 ∧ T' = (F_X11_appeal T x0 x1 x2).2) := by
  refine k_X11_appeal hsz  x0 x1 x2 ?_
  unfold ok_X11_appeal at ok
  refine ⟨_, c_X11_known hsz  x0 x1 (T.1 105 71) ok.1, ?_⟩
  rintro _ _ ⟨rfl, rfl⟩
  replace ok := ok.2
  refine ⟨fun kq0 => ?_, fun kq0 => ?_⟩
  · replace ok := ok.1 kq0
    refine ⟨_, c_X11_tell hsz  x0 (-1 : Int32) x1 x2 ok.1, ?_⟩
    rintro _ _ ⟨rfl, rfl⟩
    replace ok := ok.2
    exact ⟨by unfold F_X11_appeal; first | (rw [if_pos kq0]; done) | (rw [if_pos kq0]; rfl), by unfold F_X11_appeal; first | (rw [if_pos kq0]; done) | (rw [if_pos kq0]; rfl)⟩
  · replace ok := ok.2 kq0
    exact ⟨by unfold F_X11_appeal; first | (rw [if_neg kq0]; done) | (rw [if_neg kq0]; rfl), by unfold F_X11_appeal; first | (rw [if_neg kq0]; done) | (rw [if_neg kq0]; rfl)⟩
noncomputable def vl_X2_countListed : Nat → tT → Nat → Int32 → Int32 → Int32 → Int32 → Int32
  | 0, T, q, v1, v3, v4, v5 => 0
  | n + 1, T, q, v1, v3, v4, v5 => (if (T.1 77 (v1.toNatClampNeg)) ≤ v5 then v4 else (if (v_X3_isListed T q v3 (T.2.1 78 ((v1 * (4 : Int32)) + v5).toNatClampNeg)) = 0 then vl_X2_countListed n T q v1 v3 (v4 + (0 : Int32)) (v5 + (1 : Int32)) else vl_X2_countListed n T q v1 v3 (v4 + (1 : Int32)) (v5 + (1 : Int32))))
noncomputable def okl_X2_countListed : Nat → Nat → tT → Nat → Int32 → Int32 → Int32 → Int32 → Prop
  | 0, _, T, q, v1, v3, v4, v5 => False
  | n + 1, sz, T, q, v1, v3, v4, v5 => (vp_in v1 40 ∧ (((T.1 77 (v1.toNatClampNeg)) ≤ v5 → True) ∧ (¬ (T.1 77 (v1.toNatClampNeg)) ≤ v5 → (vp_in ((v1 * (4 : Int32)) + v5) 160 ∧ (ok_X3_isListed sz T q v3 (T.2.1 78 ((v1 * (4 : Int32)) + v5).toNatClampNeg) ∧ (((v_X3_isListed T q v3 (T.2.1 78 ((v1 * (4 : Int32)) + v5).toNatClampNeg)) = 0 → okl_X2_countListed n sz T q v1 v3 (v4 + (0 : Int32)) (v5 + (1 : Int32))) ∧ (¬ (v_X3_isListed T q v3 (T.2.1 78 ((v1 * (4 : Int32)) + v5).toNatClampNeg)) = 0 → okl_X2_countListed n sz T q v1 v3 (v4 + (1 : Int32)) (v5 + (1 : Int32)))))))))
theorem vl_X2_countListed_s (n : Nat) (T : tT) (q : Nat) (v1 : Int32) (v3 : Int32) (v4 : Int32) (v5 : Int32) : vl_X2_countListed (n + 1) T q v1 v3 v4 v5 = (if (T.1 77 (v1.toNatClampNeg)) ≤ v5 then v4 else (if (v_X3_isListed T q v3 (T.2.1 78 ((v1 * (4 : Int32)) + v5).toNatClampNeg)) = 0 then vl_X2_countListed n T q v1 v3 (v4 + (0 : Int32)) (v5 + (1 : Int32)) else vl_X2_countListed n T q v1 v3 (v4 + (1 : Int32)) (v5 + (1 : Int32)))) := rfl
set_option maxRecDepth 10000 in
theorem lj_X2_countListed {X : ax_X} {d L sz : Nat} {Q : Int32 → tT → Prop} (hX : ax_ok X mX2_countListed (d + 1)) (hsz : 161 ≤ sz) {q : Nat} (h_q : tgr sz q) (hR : ax_Ret X mX2_countListed (ti L sz Q)) : ∀ (n : Nat) (T : tT) (v1 : Int32) (v3 : Int32) (v4 : Int32) (v5 : Int32), okl_X2_countListed n sz T q v1 v3 v4 v5 → Q (vl_X2_countListed n T q v1 v3 v4 v5) T → ax_j X 6 [some (.ref 69), some (.int v1), some (.ref q), some (.int v3), some (.int v4), some (.int v5)] [] (th L sz T) 0 0 := by
  intro n
  induction n with
  | zero => intro T v1 v3 v4 v5 ok; exact False.elim ok
  | succ n ih =>
    intro T v1 v3 v4 v5 ok hq
    refine s_X2_countListed_6 hX hR hsz h_q v1 v3 v4 v5 ?_
    unfold okl_X2_countListed at ok
    refine ⟨ok.1, ?_⟩
    replace ok := ok.2
    refine ⟨fun kq0 => ?_, fun kq0 => ?_⟩
    · replace ok := ok.1 kq0
      have z := hq; rw [vl_X2_countListed_s, if_pos kq0] at z; exact z
    · replace ok := ok.2 kq0
      refine ⟨ok.1, ?_⟩
      replace ok := ok.2
      refine ⟨_, c_X3_isListed hsz h_q v3 (T.2.1 78 ((v1 * (4 : Int32)) + v5).toNatClampNeg) ok.1, ?_⟩
      rintro _ _ ⟨rfl, rfl⟩
      replace ok := ok.2
      refine ⟨fun kq1 => ?_, fun kq1 => ?_⟩
      · replace ok := ok.1 kq1
        have z := hq; rw [vl_X2_countListed_s, if_neg kq0, if_pos kq1] at z; exact ih _ v1 v3 (v4 + (0 : Int32)) (v5 + (1 : Int32)) ok z
      · replace ok := ok.2 kq1
        have z := hq; rw [vl_X2_countListed_s, if_neg kq0, if_neg kq1] at z; exact ih _ v1 v3 (v4 + (1 : Int32)) (v5 + (1 : Int32)) ok z
noncomputable def v_X2_countListed (T : tT) (q : Nat) (x0 : Int32) (x2 : Int32) : Int32 := vl_X2_countListed fu T q x0 x2 (0 : Int32) (0 : Int32)
noncomputable def ok_X2_countListed (sz : Nat) (T : tT) (q : Nat) (x0 : Int32) (x2 : Int32) : Prop := okl_X2_countListed fu sz T q x0 x2 (0 : Int32) (0 : Int32)
set_option maxRecDepth 10000 in
theorem c_X2_countListed {d L sz : Nat} {T : tT} (hsz : 161 ≤ sz) {q : Nat} (h_q : tgr sz q) (x0 : Int32) (x2 : Int32) (ok : ok_X2_countListed sz T q x0 x2) : tiK (d + 1) mX2_countListed [.ref 69, .int x0, .ref q, .int x2] L sz T (fun r T' => r = v_X2_countListed T q x0 x2 ∧ T = T') := by
  refine k_X2_countListed hsz h_q x0 x2 (fun X hX hR => ?_)
  unfold ok_X2_countListed at ok
  exact lj_X2_countListed hX hsz h_q hR _ _ x0 x2 (0 : Int32) (0 : Int32) ok ⟨by unfold v_X2_countListed; rfl, rfl⟩
noncomputable def vl_X7_addState : Nat → tT → Int32 → Int64 → Int64 → Int32 → tT
  | 0, T, v2, v3, v5, v7 => T
  | n + 1, T, v2, v3, v5, v7 => (if (T.1 85 4) ≤ v7 then (match (T.2.2 85 5) with | none => T | some p1 => (match (T.2.2 85 7) with | none => T | some p2 => (tI (tJ (tI T p1 ((T.1 85 3).toNatClampNeg) v2) p2 (((tI T p1 ((T.1 85 3).toNatClampNeg) v2).1 85 3).toNatClampNeg) (v5 + v3)) 85 3 (((tI T p1 ((T.1 85 3).toNatClampNeg) v2).1 85 3) + (1 : Int32))))) else (match (T.2.2 85 8) with | none => T | some p3 => (match (T.2.2 85 6) with | none => T | some p4 => vl_X7_addState n T v2 v3 (if ((T.2.1 p3 (v7.toNatClampNeg)) - (v_X7_savedBetween T (T.1 p4 (v7.toNatClampNeg)) v2)) < v5 then ((T.2.1 p3 (v7.toNatClampNeg)) - (v_X7_savedBetween T (T.1 p4 (v7.toNatClampNeg)) v2)) else v5) (v7 + (1 : Int32)))))
noncomputable def okl_X7_addState : Nat → Nat → tT → Int32 → Int64 → Int64 → Int32 → Prop
  | 0, _, T, v2, v3, v5, v7 => False
  | n + 1, sz, T, v2, v3, v5, v7 => (((T.1 85 4) ≤ v7 → (((T.2.2 85 5) = none → False) ∧ (∀ p1, (T.2.2 85 5) = some p1 → tar sz p1 0 120 ∧ (vp_in (T.1 85 3) 120 ∧ (((T.2.2 85 7) = none → False) ∧ (∀ p2, (T.2.2 85 7) = some p2 → tar sz p2 1 120 ∧ vp_in ((tI T p1 ((T.1 85 3).toNatClampNeg) v2).1 85 3) 120)))))) ∧ (¬ (T.1 85 4) ≤ v7 → (((T.2.2 85 8) = none → False) ∧ (∀ p3, (T.2.2 85 8) = some p3 → tar sz p3 1 120 ∧ (vp_in v7 120 ∧ (((T.2.2 85 6) = none → False) ∧ (∀ p4, (T.2.2 85 6) = some p4 → tar sz p4 0 120 ∧ (vp_in v7 120 ∧ (ok_X7_savedBetween sz T (T.1 p4 (v7.toNatClampNeg)) v2 ∧ okl_X7_addState n sz T v2 v3 (if ((T.2.1 p3 (v7.toNatClampNeg)) - (v_X7_savedBetween T (T.1 p4 (v7.toNatClampNeg)) v2)) < v5 then ((T.2.1 p3 (v7.toNatClampNeg)) - (v_X7_savedBetween T (T.1 p4 (v7.toNatClampNeg)) v2)) else v5) (v7 + (1 : Int32)))))))))))
theorem vl_X7_addState_s (n : Nat) (T : tT)  (v2 : Int32) (v3 : Int64) (v5 : Int64) (v7 : Int32) : vl_X7_addState (n + 1) T v2 v3 v5 v7 = (if (T.1 85 4) ≤ v7 then (match (T.2.2 85 5) with | none => T | some p1 => (match (T.2.2 85 7) with | none => T | some p2 => (tI (tJ (tI T p1 ((T.1 85 3).toNatClampNeg) v2) p2 (((tI T p1 ((T.1 85 3).toNatClampNeg) v2).1 85 3).toNatClampNeg) (v5 + v3)) 85 3 (((tI T p1 ((T.1 85 3).toNatClampNeg) v2).1 85 3) + (1 : Int32))))) else (match (T.2.2 85 8) with | none => T | some p3 => (match (T.2.2 85 6) with | none => T | some p4 => vl_X7_addState n T v2 v3 (if ((T.2.1 p3 (v7.toNatClampNeg)) - (v_X7_savedBetween T (T.1 p4 (v7.toNatClampNeg)) v2)) < v5 then ((T.2.1 p3 (v7.toNatClampNeg)) - (v_X7_savedBetween T (T.1 p4 (v7.toNatClampNeg)) v2)) else v5) (v7 + (1 : Int32))))) := rfl
set_option maxRecDepth 10000 in
theorem lj_X7_addState {X : ax_X} {d L sz : Nat} {Q : tT → Prop} (hX : ax_ok X mX7_addState (d + 2)) (hsz : 161 ≤ sz) (hR : ax_Ret X mX7_addState (tv L sz Q)) : ∀ (n : Nat) (T : tT) (v2 : Int32) (v3 : Int64) (v5 : Int64) (v7 : Int32), okl_X7_addState n sz T v2 v3 v5 v7 → Q (vl_X7_addState n T v2 v3 v5 v7) → ax_j X 40 [some (.ref 85), some (.ref 79), some (.int v2), some (.long v3), none, some (.long v5), none, some (.int v7), none, none] [] (th L sz T) 0 0 := by
  intro n
  induction n with
  | zero => intro T v2 v3 v5 v7 ok; exact False.elim ok
  | succ n ih =>
    intro T v2 v3 v5 v7 ok hq
    refine s_X7_addState_40 hX hR hsz  v2 v3 v5 v7 ?_
    unfold okl_X7_addState at ok
    refine ⟨fun kq0 => ?_, fun kq0 => ?_⟩
    · replace ok := ok.1 kq0
      refine ⟨fun kq1 => ?_, fun p1 kq1 => ?_⟩
      · replace ok := ok.1 kq1
        exact ok.elim
      · obtain ⟨h_p1, ok⟩ := ok.2 p1 kq1
        refine ⟨h_p1, ?_⟩
        refine ⟨ok.1, ?_⟩
        replace ok := ok.2
        refine ⟨fun kq2 => ?_, fun p2 kq2 => ?_⟩
        · replace ok := ok.1 kq2
          exact ok.elim
        · obtain ⟨h_p2, ok⟩ := ok.2 p2 kq2
          refine ⟨h_p2, ?_⟩
          refine ⟨ok, ?_⟩
          have z := hq; rw [vl_X7_addState_s] at z; simp only [if_pos kq0, kq1, kq2] at z; exact z
    · replace ok := ok.2 kq0
      refine ⟨fun kq1 => ?_, fun p3 kq1 => ?_⟩
      · replace ok := ok.1 kq1
        exact ok.elim
      · obtain ⟨h_p3, ok⟩ := ok.2 p3 kq1
        refine ⟨h_p3, ?_⟩
        refine ⟨ok.1, ?_⟩
        replace ok := ok.2
        refine ⟨fun kq2 => ?_, fun p4 kq2 => ?_⟩
        · replace ok := ok.1 kq2
          exact ok.elim
        · obtain ⟨h_p4, ok⟩ := ok.2 p4 kq2
          refine ⟨h_p4, ?_⟩
          refine ⟨ok.1, ?_⟩
          replace ok := ok.2
          refine ⟨_, c_X7_savedBetween hsz  (T.1 p4 (v7.toNatClampNeg)) v2 ok.1, ?_⟩
          rintro _ _ ⟨rfl, rfl⟩
          replace ok := ok.2
          have z := hq; rw [vl_X7_addState_s] at z; simp only [if_neg kq0, kq1, kq2] at z; exact ih _ v2 v3 (if ((T.2.1 p3 (v7.toNatClampNeg)) - (v_X7_savedBetween T (T.1 p4 (v7.toNatClampNeg)) v2)) < v5 then ((T.2.1 p3 (v7.toNatClampNeg)) - (v_X7_savedBetween T (T.1 p4 (v7.toNatClampNeg)) v2)) else v5) (v7 + (1 : Int32)) ok z
noncomputable def F_X7_addState (T : tT)  (x1 : Int32) (x2 : Int64) : tT := (if (T.1 85 4) ≤ 0 then T else (if (T.1 85 3) < (120 : Int32) then (match (T.2.2 85 8) with | none => T | some p1 => (match (T.2.2 85 6) with | none => T | some p2 => vl_X7_addState fu T x1 x2 ((T.2.1 p1 (0 : Int32).toNatClampNeg) - (v_X7_savedBetween T (T.1 p2 (0 : Int32).toNatClampNeg) x1)) (1 : Int32))) else T))
noncomputable def ok_X7_addState (sz : Nat) (T : tT)  (x1 : Int32) (x2 : Int64) : Prop := (((T.1 85 4) ≤ 0 → True) ∧ (¬ (T.1 85 4) ≤ 0 → (((T.1 85 3) < (120 : Int32) → (((T.2.2 85 8) = none → False) ∧ (∀ p1, (T.2.2 85 8) = some p1 → tar sz p1 1 120 ∧ (vp_in (0 : Int32) 120 ∧ (((T.2.2 85 6) = none → False) ∧ (∀ p2, (T.2.2 85 6) = some p2 → tar sz p2 0 120 ∧ (vp_in (0 : Int32) 120 ∧ (ok_X7_savedBetween sz T (T.1 p2 (0 : Int32).toNatClampNeg) x1 ∧ okl_X7_addState fu sz T x1 x2 ((T.2.1 p1 (0 : Int32).toNatClampNeg) - (v_X7_savedBetween T (T.1 p2 (0 : Int32).toNatClampNeg) x1)) (1 : Int32))))))))) ∧ (¬ (T.1 85 3) < (120 : Int32) → True))))
set_option maxRecDepth 10000 in
theorem c_X7_addState {d L sz : Nat} {T : tT} (hsz : 161 ≤ sz) (x1 : Int32) (x2 : Int64) (ok : ok_X7_addState sz T x1 x2) : tvK (d + 2) mX7_addState [.ref 85, .ref 79, .int x1, .long x2] L sz T (fun T' => T' = F_X7_addState T x1 x2) := by
  refine k_X7_addState hsz  x1 x2 (fun X hX hR => ?_)
  unfold ok_X7_addState at ok
  refine ⟨fun kq0 => ?_, fun kq0 => ?_⟩
  · replace ok := ok.1 kq0
    exact (by unfold F_X7_addState; first | (rw [if_pos kq0]; done) | (rw [if_pos kq0]; rfl))
  · replace ok := ok.2 kq0
    refine ⟨fun kq1 => ?_, fun kq1 => ?_⟩
    · replace ok := ok.1 kq1
      refine ⟨fun kq2 => ?_, fun p1 kq2 => ?_⟩
      · replace ok := ok.1 kq2
        exact ok.elim
      · obtain ⟨h_p1, ok⟩ := ok.2 p1 kq2
        refine ⟨h_p1, ?_⟩
        refine ⟨ok.1, ?_⟩
        replace ok := ok.2
        refine ⟨fun kq3 => ?_, fun p2 kq3 => ?_⟩
        · replace ok := ok.1 kq3
          exact ok.elim
        · obtain ⟨h_p2, ok⟩ := ok.2 p2 kq3
          refine ⟨h_p2, ?_⟩
          refine ⟨ok.1, ?_⟩
          replace ok := ok.2
          refine ⟨_, c_X7_savedBetween hsz  (T.1 p2 (0 : Int32).toNatClampNeg) x1 ok.1, ?_⟩
          rintro _ _ ⟨rfl, rfl⟩
          replace ok := ok.2
          exact lj_X7_addState hX hsz  hR _ _ x1 x2 ((T.2.1 p1 (0 : Int32).toNatClampNeg) - (v_X7_savedBetween T (T.1 p2 (0 : Int32).toNatClampNeg) x1)) (1 : Int32) ok (by unfold F_X7_addState; simp only [if_neg kq0, if_pos kq1, kq2, kq3])
    · replace ok := ok.2 kq1
      exact (by unfold F_X7_addState; first | (rw [if_neg kq0, if_neg kq1]; done) | (rw [if_neg kq0, if_neg kq1]; rfl))
noncomputable def vl_X9_next : Nat → tT → tT
  | 0, T => T
  | n + 1, T => (if (T.1 4 1) ≤ (T.1 4 6) then (if (v_X9_byteAt (tI T 4 3 (T.1 4 6)) (T.1 4 6)) = (-1 : Int32) then (tI (tI T 4 3 (T.1 4 6)) 4 2 (0 : Int32)) else (if (v_X9_isLetter (tI T 4 3 (T.1 4 6)) (v_X9_byteAt (tI T 4 3 (T.1 4 6)) (T.1 4 6))) = 0 then (if (v_X9_isDigit (tI T 4 3 (T.1 4 6)) (v_X9_byteAt (tI T 4 3 (T.1 4 6)) (T.1 4 6))) = 0 then (if (v_X9_isSign (tI T 4 3 (T.1 4 6)) (v_X9_byteAt (tI T 4 3 (T.1 4 6)) (T.1 4 6))) = 0 then (tI (tI (tI T 4 3 (T.1 4 6)) 4 2 (1 : Int32)) 4 6 (((tI T 4 3 (T.1 4 6)).1 4 6) + (1 : Int32))) else (tI (tI (tI T 4 3 (T.1 4 6)) 4 2 (v_X9_byteAt (tI T 4 3 (T.1 4 6)) (T.1 4 6))) 4 6 (((tI T 4 3 (T.1 4 6)).1 4 6) + (1 : Int32)))) else (F_X9_readNumber (tI T 4 3 (T.1 4 6)))) else (F_X9_readWord (tI T 4 3 (T.1 4 6))))) else (if (v_X9_isBlank T (v_X9_byteAt T (T.1 4 6))) = 0 then (if (v_X9_byteAt (tI T 4 3 (T.1 4 6)) (T.1 4 6)) = (-1 : Int32) then (tI (tI T 4 3 (T.1 4 6)) 4 2 (0 : Int32)) else (if (v_X9_isLetter (tI T 4 3 (T.1 4 6)) (v_X9_byteAt (tI T 4 3 (T.1 4 6)) (T.1 4 6))) = 0 then (if (v_X9_isDigit (tI T 4 3 (T.1 4 6)) (v_X9_byteAt (tI T 4 3 (T.1 4 6)) (T.1 4 6))) = 0 then (if (v_X9_isSign (tI T 4 3 (T.1 4 6)) (v_X9_byteAt (tI T 4 3 (T.1 4 6)) (T.1 4 6))) = 0 then (tI (tI (tI T 4 3 (T.1 4 6)) 4 2 (1 : Int32)) 4 6 (((tI T 4 3 (T.1 4 6)).1 4 6) + (1 : Int32))) else (tI (tI (tI T 4 3 (T.1 4 6)) 4 2 (v_X9_byteAt (tI T 4 3 (T.1 4 6)) (T.1 4 6))) 4 6 (((tI T 4 3 (T.1 4 6)).1 4 6) + (1 : Int32)))) else (F_X9_readNumber (tI T 4 3 (T.1 4 6)))) else (F_X9_readWord (tI T 4 3 (T.1 4 6))))) else vl_X9_next n (tI T 4 6 ((T.1 4 6) + (1 : Int32)))))
noncomputable def okl_X9_next : Nat → Nat → tT → Prop
  | 0, _, T => False
  | n + 1, sz, T => (((T.1 4 1) ≤ (T.1 4 6) → (ok_X9_byteAt sz (tI T 4 3 (T.1 4 6)) (T.1 4 6) ∧ ((¬ (v_X9_byteAt (tI T 4 3 (T.1 4 6)) (T.1 4 6)) = (-1 : Int32) → (((v_X9_isLetter (tI T 4 3 (T.1 4 6)) (v_X9_byteAt (tI T 4 3 (T.1 4 6)) (T.1 4 6))) = 0 → (((v_X9_isDigit (tI T 4 3 (T.1 4 6)) (v_X9_byteAt (tI T 4 3 (T.1 4 6)) (T.1 4 6))) = 0 → True) ∧ (¬ (v_X9_isDigit (tI T 4 3 (T.1 4 6)) (v_X9_byteAt (tI T 4 3 (T.1 4 6)) (T.1 4 6))) = 0 → (ok_X9_readNumber sz (tI T 4 3 (T.1 4 6)) ∧ True)))) ∧ (¬ (v_X9_isLetter (tI T 4 3 (T.1 4 6)) (v_X9_byteAt (tI T 4 3 (T.1 4 6)) (T.1 4 6))) = 0 → (ok_X9_readWord sz (tI T 4 3 (T.1 4 6)) ∧ True)))) ∧ ((v_X9_byteAt (tI T 4 3 (T.1 4 6)) (T.1 4 6)) = (-1 : Int32) → True)))) ∧ (¬ (T.1 4 1) ≤ (T.1 4 6) → (ok_X9_byteAt sz T (T.1 4 6) ∧ (((v_X9_isBlank T (v_X9_byteAt T (T.1 4 6))) = 0 → (ok_X9_byteAt sz (tI T 4 3 (T.1 4 6)) (T.1 4 6) ∧ ((¬ (v_X9_byteAt (tI T 4 3 (T.1 4 6)) (T.1 4 6)) = (-1 : Int32) → (((v_X9_isLetter (tI T 4 3 (T.1 4 6)) (v_X9_byteAt (tI T 4 3 (T.1 4 6)) (T.1 4 6))) = 0 → (((v_X9_isDigit (tI T 4 3 (T.1 4 6)) (v_X9_byteAt (tI T 4 3 (T.1 4 6)) (T.1 4 6))) = 0 → True) ∧ (¬ (v_X9_isDigit (tI T 4 3 (T.1 4 6)) (v_X9_byteAt (tI T 4 3 (T.1 4 6)) (T.1 4 6))) = 0 → (ok_X9_readNumber sz (tI T 4 3 (T.1 4 6)) ∧ True)))) ∧ (¬ (v_X9_isLetter (tI T 4 3 (T.1 4 6)) (v_X9_byteAt (tI T 4 3 (T.1 4 6)) (T.1 4 6))) = 0 → (ok_X9_readWord sz (tI T 4 3 (T.1 4 6)) ∧ True)))) ∧ ((v_X9_byteAt (tI T 4 3 (T.1 4 6)) (T.1 4 6)) = (-1 : Int32) → True)))) ∧ (¬ (v_X9_isBlank T (v_X9_byteAt T (T.1 4 6))) = 0 → okl_X9_next n sz (tI T 4 6 ((T.1 4 6) + (1 : Int32))))))))
theorem vl_X9_next_s (n : Nat) (T : tT)   : vl_X9_next (n + 1) T = (if (T.1 4 1) ≤ (T.1 4 6) then (if (v_X9_byteAt (tI T 4 3 (T.1 4 6)) (T.1 4 6)) = (-1 : Int32) then (tI (tI T 4 3 (T.1 4 6)) 4 2 (0 : Int32)) else (if (v_X9_isLetter (tI T 4 3 (T.1 4 6)) (v_X9_byteAt (tI T 4 3 (T.1 4 6)) (T.1 4 6))) = 0 then (if (v_X9_isDigit (tI T 4 3 (T.1 4 6)) (v_X9_byteAt (tI T 4 3 (T.1 4 6)) (T.1 4 6))) = 0 then (if (v_X9_isSign (tI T 4 3 (T.1 4 6)) (v_X9_byteAt (tI T 4 3 (T.1 4 6)) (T.1 4 6))) = 0 then (tI (tI (tI T 4 3 (T.1 4 6)) 4 2 (1 : Int32)) 4 6 (((tI T 4 3 (T.1 4 6)).1 4 6) + (1 : Int32))) else (tI (tI (tI T 4 3 (T.1 4 6)) 4 2 (v_X9_byteAt (tI T 4 3 (T.1 4 6)) (T.1 4 6))) 4 6 (((tI T 4 3 (T.1 4 6)).1 4 6) + (1 : Int32)))) else (F_X9_readNumber (tI T 4 3 (T.1 4 6)))) else (F_X9_readWord (tI T 4 3 (T.1 4 6))))) else (if (v_X9_isBlank T (v_X9_byteAt T (T.1 4 6))) = 0 then (if (v_X9_byteAt (tI T 4 3 (T.1 4 6)) (T.1 4 6)) = (-1 : Int32) then (tI (tI T 4 3 (T.1 4 6)) 4 2 (0 : Int32)) else (if (v_X9_isLetter (tI T 4 3 (T.1 4 6)) (v_X9_byteAt (tI T 4 3 (T.1 4 6)) (T.1 4 6))) = 0 then (if (v_X9_isDigit (tI T 4 3 (T.1 4 6)) (v_X9_byteAt (tI T 4 3 (T.1 4 6)) (T.1 4 6))) = 0 then (if (v_X9_isSign (tI T 4 3 (T.1 4 6)) (v_X9_byteAt (tI T 4 3 (T.1 4 6)) (T.1 4 6))) = 0 then (tI (tI (tI T 4 3 (T.1 4 6)) 4 2 (1 : Int32)) 4 6 (((tI T 4 3 (T.1 4 6)).1 4 6) + (1 : Int32))) else (tI (tI (tI T 4 3 (T.1 4 6)) 4 2 (v_X9_byteAt (tI T 4 3 (T.1 4 6)) (T.1 4 6))) 4 6 (((tI T 4 3 (T.1 4 6)).1 4 6) + (1 : Int32)))) else (F_X9_readNumber (tI T 4 3 (T.1 4 6)))) else (F_X9_readWord (tI T 4 3 (T.1 4 6))))) else vl_X9_next n (tI T 4 6 ((T.1 4 6) + (1 : Int32))))) := rfl
set_option maxRecDepth 10000 in
theorem lj_X9_next {X : ax_X} {d L sz : Nat} {Q : tT → Prop} (hX : ax_ok X mX9_next (d + 2)) (hsz : 161 ≤ sz) (hR : ax_Ret X mX9_next (tv L sz Q)) : ∀ (n : Nat) (T : tT) , okl_X9_next n sz T → Q (vl_X9_next n T) → ax_j X 0 [some (.ref 4), none] [] (th L sz T) 0 0 := by
  intro n
  induction n with
  | zero => intro T  ok; exact False.elim ok
  | succ n ih =>
    intro T  ok hq
    refine s_X9_next_0h hX hR hsz   ?_
    unfold okl_X9_next at ok
    refine ⟨fun kq0 => ?_, fun kq0 => ?_⟩
    · replace ok := ok.1 kq0
      refine ⟨_, c_X9_byteAt hsz  (T.1 4 6) ok.1, ?_⟩
      rintro _ _ ⟨rfl, rfl⟩
      replace ok := ok.2
      refine ⟨fun kq1 => ?_, fun kq1 => ?_⟩
      · replace ok := ok.1 kq1
        refine ⟨_, c_X9_isLetter hsz  (v_X9_byteAt (tI T 4 3 (T.1 4 6)) (T.1 4 6)) , ?_⟩
        rintro _ _ ⟨rfl, rfl⟩
        refine ⟨fun kq2 => ?_, fun kq2 => ?_⟩
        · replace ok := ok.1 kq2
          refine ⟨_, c_X9_isDigit hsz  (v_X9_byteAt (tI T 4 3 (T.1 4 6)) (T.1 4 6)) , ?_⟩
          rintro _ _ ⟨rfl, rfl⟩
          refine ⟨fun kq3 => ?_, fun kq3 => ?_⟩
          · replace ok := ok.1 kq3
            refine ⟨_, c_X9_isSign hsz  (v_X9_byteAt (tI T 4 3 (T.1 4 6)) (T.1 4 6)) , ?_⟩
            rintro _ _ ⟨rfl, rfl⟩
            refine ⟨fun kq4 => ?_, fun kq4 => ?_⟩
            · have z := hq; rw [vl_X9_next_s, if_pos kq0, if_neg kq1, if_pos kq2, if_pos kq3, if_pos kq4] at z; exact z
            · have z := hq; rw [vl_X9_next_s, if_pos kq0, if_neg kq1, if_pos kq2, if_pos kq3, if_neg kq4] at z; exact z
          · replace ok := ok.2 kq3
            refine ⟨_, c_X9_readNumber hsz   ok.1, ?_⟩
            rintro _ rfl
            replace ok := ok.2
            have z := hq; rw [vl_X9_next_s, if_pos kq0, if_neg kq1, if_pos kq2, if_neg kq3] at z; exact z
        · replace ok := ok.2 kq2
          refine ⟨_, c_X9_readWord hsz   ok.1, ?_⟩
          rintro _ rfl
          replace ok := ok.2
          have z := hq; rw [vl_X9_next_s, if_pos kq0, if_neg kq1, if_neg kq2] at z; exact z
      · replace ok := ok.2 kq1
        have z := hq; rw [vl_X9_next_s, if_pos kq0, if_pos kq1] at z; exact z
    · replace ok := ok.2 kq0
      refine ⟨_, c_X9_byteAt hsz  (T.1 4 6) ok.1, ?_⟩
      rintro _ _ ⟨rfl, rfl⟩
      replace ok := ok.2
      refine ⟨_, c_X9_isBlank hsz  (v_X9_byteAt T (T.1 4 6)) , ?_⟩
      rintro _ _ ⟨rfl, rfl⟩
      refine ⟨fun kq1 => ?_, fun kq1 => ?_⟩
      · replace ok := ok.1 kq1
        refine ⟨_, c_X9_byteAt hsz  (T.1 4 6) ok.1, ?_⟩
        rintro _ _ ⟨rfl, rfl⟩
        replace ok := ok.2
        refine ⟨fun kq2 => ?_, fun kq2 => ?_⟩
        · replace ok := ok.1 kq2
          refine ⟨_, c_X9_isLetter hsz  (v_X9_byteAt (tI T 4 3 (T.1 4 6)) (T.1 4 6)) , ?_⟩
          rintro _ _ ⟨rfl, rfl⟩
          refine ⟨fun kq3 => ?_, fun kq3 => ?_⟩
          · replace ok := ok.1 kq3
            refine ⟨_, c_X9_isDigit hsz  (v_X9_byteAt (tI T 4 3 (T.1 4 6)) (T.1 4 6)) , ?_⟩
            rintro _ _ ⟨rfl, rfl⟩
            refine ⟨fun kq4 => ?_, fun kq4 => ?_⟩
            · replace ok := ok.1 kq4
              refine ⟨_, c_X9_isSign hsz  (v_X9_byteAt (tI T 4 3 (T.1 4 6)) (T.1 4 6)) , ?_⟩
              rintro _ _ ⟨rfl, rfl⟩
              refine ⟨fun kq5 => ?_, fun kq5 => ?_⟩
              · have z := hq; rw [vl_X9_next_s, if_neg kq0, if_pos kq1, if_neg kq2, if_pos kq3, if_pos kq4, if_pos kq5] at z; exact z
              · have z := hq; rw [vl_X9_next_s, if_neg kq0, if_pos kq1, if_neg kq2, if_pos kq3, if_pos kq4, if_neg kq5] at z; exact z
            · replace ok := ok.2 kq4
              refine ⟨_, c_X9_readNumber hsz   ok.1, ?_⟩
              rintro _ rfl
              replace ok := ok.2
              have z := hq; rw [vl_X9_next_s, if_neg kq0, if_pos kq1, if_neg kq2, if_pos kq3, if_neg kq4] at z; exact z
          · replace ok := ok.2 kq3
            refine ⟨_, c_X9_readWord hsz   ok.1, ?_⟩
            rintro _ rfl
            replace ok := ok.2
            have z := hq; rw [vl_X9_next_s, if_neg kq0, if_pos kq1, if_neg kq2, if_neg kq3] at z; exact z
        · replace ok := ok.2 kq2
          have z := hq; rw [vl_X9_next_s, if_neg kq0, if_pos kq1, if_pos kq2] at z; exact z
      · replace ok := ok.2 kq1
        have z := hq; rw [vl_X9_next_s, if_neg kq0, if_neg kq1] at z; exact ih _  ok z
noncomputable def F_X9_next (T : tT)   : tT := (if (T.1 4 1) ≤ (T.1 4 6) then (if (v_X9_byteAt (tI T 4 3 (T.1 4 6)) (T.1 4 6)) = (-1 : Int32) then (tI (tI T 4 3 (T.1 4 6)) 4 2 (0 : Int32)) else (if (v_X9_isLetter (tI T 4 3 (T.1 4 6)) (v_X9_byteAt (tI T 4 3 (T.1 4 6)) (T.1 4 6))) = 0 then (if (v_X9_isDigit (tI T 4 3 (T.1 4 6)) (v_X9_byteAt (tI T 4 3 (T.1 4 6)) (T.1 4 6))) = 0 then (if (v_X9_isSign (tI T 4 3 (T.1 4 6)) (v_X9_byteAt (tI T 4 3 (T.1 4 6)) (T.1 4 6))) = 0 then (tI (tI (tI T 4 3 (T.1 4 6)) 4 2 (1 : Int32)) 4 6 (((tI T 4 3 (T.1 4 6)).1 4 6) + (1 : Int32))) else (tI (tI (tI T 4 3 (T.1 4 6)) 4 2 (v_X9_byteAt (tI T 4 3 (T.1 4 6)) (T.1 4 6))) 4 6 (((tI T 4 3 (T.1 4 6)).1 4 6) + (1 : Int32)))) else (F_X9_readNumber (tI T 4 3 (T.1 4 6)))) else (F_X9_readWord (tI T 4 3 (T.1 4 6))))) else (if (v_X9_isBlank T (v_X9_byteAt T (T.1 4 6))) = 0 then (if (v_X9_byteAt (tI T 4 3 (T.1 4 6)) (T.1 4 6)) = (-1 : Int32) then (tI (tI T 4 3 (T.1 4 6)) 4 2 (0 : Int32)) else (if (v_X9_isLetter (tI T 4 3 (T.1 4 6)) (v_X9_byteAt (tI T 4 3 (T.1 4 6)) (T.1 4 6))) = 0 then (if (v_X9_isDigit (tI T 4 3 (T.1 4 6)) (v_X9_byteAt (tI T 4 3 (T.1 4 6)) (T.1 4 6))) = 0 then (if (v_X9_isSign (tI T 4 3 (T.1 4 6)) (v_X9_byteAt (tI T 4 3 (T.1 4 6)) (T.1 4 6))) = 0 then (tI (tI (tI T 4 3 (T.1 4 6)) 4 2 (1 : Int32)) 4 6 (((tI T 4 3 (T.1 4 6)).1 4 6) + (1 : Int32))) else (tI (tI (tI T 4 3 (T.1 4 6)) 4 2 (v_X9_byteAt (tI T 4 3 (T.1 4 6)) (T.1 4 6))) 4 6 (((tI T 4 3 (T.1 4 6)).1 4 6) + (1 : Int32)))) else (F_X9_readNumber (tI T 4 3 (T.1 4 6)))) else (F_X9_readWord (tI T 4 3 (T.1 4 6))))) else vl_X9_next fu (tI T 4 6 ((T.1 4 6) + (1 : Int32)))))
noncomputable def ok_X9_next (sz : Nat) (T : tT)   : Prop := (((T.1 4 1) ≤ (T.1 4 6) → (ok_X9_byteAt sz (tI T 4 3 (T.1 4 6)) (T.1 4 6) ∧ ((¬ (v_X9_byteAt (tI T 4 3 (T.1 4 6)) (T.1 4 6)) = (-1 : Int32) → (((v_X9_isLetter (tI T 4 3 (T.1 4 6)) (v_X9_byteAt (tI T 4 3 (T.1 4 6)) (T.1 4 6))) = 0 → (((v_X9_isDigit (tI T 4 3 (T.1 4 6)) (v_X9_byteAt (tI T 4 3 (T.1 4 6)) (T.1 4 6))) = 0 → True) ∧ (¬ (v_X9_isDigit (tI T 4 3 (T.1 4 6)) (v_X9_byteAt (tI T 4 3 (T.1 4 6)) (T.1 4 6))) = 0 → (ok_X9_readNumber sz (tI T 4 3 (T.1 4 6)) ∧ True)))) ∧ (¬ (v_X9_isLetter (tI T 4 3 (T.1 4 6)) (v_X9_byteAt (tI T 4 3 (T.1 4 6)) (T.1 4 6))) = 0 → (ok_X9_readWord sz (tI T 4 3 (T.1 4 6)) ∧ True)))) ∧ ((v_X9_byteAt (tI T 4 3 (T.1 4 6)) (T.1 4 6)) = (-1 : Int32) → True)))) ∧ (¬ (T.1 4 1) ≤ (T.1 4 6) → (ok_X9_byteAt sz T (T.1 4 6) ∧ (((v_X9_isBlank T (v_X9_byteAt T (T.1 4 6))) = 0 → (ok_X9_byteAt sz (tI T 4 3 (T.1 4 6)) (T.1 4 6) ∧ ((¬ (v_X9_byteAt (tI T 4 3 (T.1 4 6)) (T.1 4 6)) = (-1 : Int32) → (((v_X9_isLetter (tI T 4 3 (T.1 4 6)) (v_X9_byteAt (tI T 4 3 (T.1 4 6)) (T.1 4 6))) = 0 → (((v_X9_isDigit (tI T 4 3 (T.1 4 6)) (v_X9_byteAt (tI T 4 3 (T.1 4 6)) (T.1 4 6))) = 0 → True) ∧ (¬ (v_X9_isDigit (tI T 4 3 (T.1 4 6)) (v_X9_byteAt (tI T 4 3 (T.1 4 6)) (T.1 4 6))) = 0 → (ok_X9_readNumber sz (tI T 4 3 (T.1 4 6)) ∧ True)))) ∧ (¬ (v_X9_isLetter (tI T 4 3 (T.1 4 6)) (v_X9_byteAt (tI T 4 3 (T.1 4 6)) (T.1 4 6))) = 0 → (ok_X9_readWord sz (tI T 4 3 (T.1 4 6)) ∧ True)))) ∧ ((v_X9_byteAt (tI T 4 3 (T.1 4 6)) (T.1 4 6)) = (-1 : Int32) → True)))) ∧ (¬ (v_X9_isBlank T (v_X9_byteAt T (T.1 4 6))) = 0 → okl_X9_next fu sz (tI T 4 6 ((T.1 4 6) + (1 : Int32))))))))
set_option maxRecDepth 10000 in
theorem c_X9_next {d L sz : Nat} {T : tT} (hsz : 161 ≤ sz)  (ok : ok_X9_next sz T) : tvK (d + 2) mX9_next [.ref 4] L sz T (fun T' => T' = F_X9_next T) := by
  refine k_X9_next hsz   (fun X hX hR => ?_)
  unfold ok_X9_next at ok
  refine ⟨fun kq0 => ?_, fun kq0 => ?_⟩
  · replace ok := ok.1 kq0
    refine ⟨_, c_X9_byteAt hsz  (T.1 4 6) ok.1, ?_⟩
    rintro _ _ ⟨rfl, rfl⟩
    replace ok := ok.2
    refine ⟨fun kq1 => ?_, fun kq1 => ?_⟩
    · replace ok := ok.1 kq1
      refine ⟨_, c_X9_isLetter hsz  (v_X9_byteAt (tI T 4 3 (T.1 4 6)) (T.1 4 6)) , ?_⟩
      rintro _ _ ⟨rfl, rfl⟩
      refine ⟨fun kq2 => ?_, fun kq2 => ?_⟩
      · replace ok := ok.1 kq2
        refine ⟨_, c_X9_isDigit hsz  (v_X9_byteAt (tI T 4 3 (T.1 4 6)) (T.1 4 6)) , ?_⟩
        rintro _ _ ⟨rfl, rfl⟩
        refine ⟨fun kq3 => ?_, fun kq3 => ?_⟩
        · replace ok := ok.1 kq3
          refine ⟨_, c_X9_isSign hsz  (v_X9_byteAt (tI T 4 3 (T.1 4 6)) (T.1 4 6)) , ?_⟩
          rintro _ _ ⟨rfl, rfl⟩
          refine ⟨fun kq4 => ?_, fun kq4 => ?_⟩
          · exact (by unfold F_X9_next; first | (rw [if_pos kq0, if_neg kq1, if_pos kq2, if_pos kq3, if_pos kq4]; done) | (rw [if_pos kq0, if_neg kq1, if_pos kq2, if_pos kq3, if_pos kq4]; rfl))
          · exact (by unfold F_X9_next; first | (rw [if_pos kq0, if_neg kq1, if_pos kq2, if_pos kq3, if_neg kq4]; done) | (rw [if_pos kq0, if_neg kq1, if_pos kq2, if_pos kq3, if_neg kq4]; rfl))
        · replace ok := ok.2 kq3
          refine ⟨_, c_X9_readNumber hsz   ok.1, ?_⟩
          rintro _ rfl
          replace ok := ok.2
          exact (by unfold F_X9_next; first | (rw [if_pos kq0, if_neg kq1, if_pos kq2, if_neg kq3]; done) | (rw [if_pos kq0, if_neg kq1, if_pos kq2, if_neg kq3]; rfl))
      · replace ok := ok.2 kq2
        refine ⟨_, c_X9_readWord hsz   ok.1, ?_⟩
        rintro _ rfl
        replace ok := ok.2
        exact (by unfold F_X9_next; first | (rw [if_pos kq0, if_neg kq1, if_neg kq2]; done) | (rw [if_pos kq0, if_neg kq1, if_neg kq2]; rfl))
    · replace ok := ok.2 kq1
      exact (by unfold F_X9_next; first | (rw [if_pos kq0, if_pos kq1]; done) | (rw [if_pos kq0, if_pos kq1]; rfl))
  · replace ok := ok.2 kq0
    refine ⟨_, c_X9_byteAt hsz  (T.1 4 6) ok.1, ?_⟩
    rintro _ _ ⟨rfl, rfl⟩
    replace ok := ok.2
    refine ⟨_, c_X9_isBlank hsz  (v_X9_byteAt T (T.1 4 6)) , ?_⟩
    rintro _ _ ⟨rfl, rfl⟩
    refine ⟨fun kq1 => ?_, fun kq1 => ?_⟩
    · replace ok := ok.1 kq1
      refine ⟨_, c_X9_byteAt hsz  (T.1 4 6) ok.1, ?_⟩
      rintro _ _ ⟨rfl, rfl⟩
      replace ok := ok.2
      refine ⟨fun kq2 => ?_, fun kq2 => ?_⟩
      · replace ok := ok.1 kq2
        refine ⟨_, c_X9_isLetter hsz  (v_X9_byteAt (tI T 4 3 (T.1 4 6)) (T.1 4 6)) , ?_⟩
        rintro _ _ ⟨rfl, rfl⟩
        refine ⟨fun kq3 => ?_, fun kq3 => ?_⟩
        · replace ok := ok.1 kq3
          refine ⟨_, c_X9_isDigit hsz  (v_X9_byteAt (tI T 4 3 (T.1 4 6)) (T.1 4 6)) , ?_⟩
          rintro _ _ ⟨rfl, rfl⟩
          refine ⟨fun kq4 => ?_, fun kq4 => ?_⟩
          · replace ok := ok.1 kq4
            refine ⟨_, c_X9_isSign hsz  (v_X9_byteAt (tI T 4 3 (T.1 4 6)) (T.1 4 6)) , ?_⟩
            rintro _ _ ⟨rfl, rfl⟩
            refine ⟨fun kq5 => ?_, fun kq5 => ?_⟩
            · exact (by unfold F_X9_next; first | (rw [if_neg kq0, if_pos kq1, if_neg kq2, if_pos kq3, if_pos kq4, if_pos kq5]; done) | (rw [if_neg kq0, if_pos kq1, if_neg kq2, if_pos kq3, if_pos kq4, if_pos kq5]; rfl))
            · exact (by unfold F_X9_next; first | (rw [if_neg kq0, if_pos kq1, if_neg kq2, if_pos kq3, if_pos kq4, if_neg kq5]; done) | (rw [if_neg kq0, if_pos kq1, if_neg kq2, if_pos kq3, if_pos kq4, if_neg kq5]; rfl))
          · replace ok := ok.2 kq4
            refine ⟨_, c_X9_readNumber hsz   ok.1, ?_⟩
            rintro _ rfl
            replace ok := ok.2
            exact (by unfold F_X9_next; first | (rw [if_neg kq0, if_pos kq1, if_neg kq2, if_pos kq3, if_neg kq4]; done) | (rw [if_neg kq0, if_pos kq1, if_neg kq2, if_pos kq3, if_neg kq4]; rfl))
        · replace ok := ok.2 kq3
          refine ⟨_, c_X9_readWord hsz   ok.1, ?_⟩
          rintro _ rfl
          replace ok := ok.2
          exact (by unfold F_X9_next; first | (rw [if_neg kq0, if_pos kq1, if_neg kq2, if_neg kq3]; done) | (rw [if_neg kq0, if_pos kq1, if_neg kq2, if_neg kq3]; rfl))
      · replace ok := ok.2 kq2
        exact (by unfold F_X9_next; first | (rw [if_neg kq0, if_pos kq1, if_pos kq2]; done) | (rw [if_neg kq0, if_pos kq1, if_pos kq2]; rfl))
    · replace ok := ok.2 kq1
      exact lj_X9_next hX hsz  hR _ _  ok (by unfold F_X9_next; first | (rw [if_neg kq0, if_neg kq1]; done) | (rw [if_neg kq0, if_neg kq1]; rfl))
noncomputable def vl_X10_mayTake : Nat → tT → Int32 → Int32 → Int32 → Int32
  | 0, T, v1, v2, v3 => 0
  | n + 1, T, v1, v2, v3 => (if (T.1 69 0) ≤ v3 then (1 : Int32) else (if (T.1 76 (v3.toNatClampNeg)) = v2 then (if (v_X10_mayHear T v1 v3) = 0 then (0 : Int32) else vl_X10_mayTake n T v1 v2 (v3 + (1 : Int32))) else vl_X10_mayTake n T v1 v2 (v3 + (1 : Int32))))
noncomputable def okl_X10_mayTake : Nat → Nat → tT → Int32 → Int32 → Int32 → Prop
  | 0, _, T, v1, v2, v3 => False
  | n + 1, sz, T, v1, v2, v3 => (((T.1 69 0) ≤ v3 → True) ∧ (¬ (T.1 69 0) ≤ v3 → (vp_in v3 40 ∧ ((¬ (T.1 76 (v3.toNatClampNeg)) = v2 → okl_X10_mayTake n sz T v1 v2 (v3 + (1 : Int32))) ∧ ((T.1 76 (v3.toNatClampNeg)) = v2 → (ok_X10_mayHear sz T v1 v3 ∧ ((¬ (v_X10_mayHear T v1 v3) = 0 → okl_X10_mayTake n sz T v1 v2 (v3 + (1 : Int32))) ∧ ((v_X10_mayHear T v1 v3) = 0 → True))))))))
theorem vl_X10_mayTake_s (n : Nat) (T : tT)  (v1 : Int32) (v2 : Int32) (v3 : Int32) : vl_X10_mayTake (n + 1) T v1 v2 v3 = (if (T.1 69 0) ≤ v3 then (1 : Int32) else (if (T.1 76 (v3.toNatClampNeg)) = v2 then (if (v_X10_mayHear T v1 v3) = 0 then (0 : Int32) else vl_X10_mayTake n T v1 v2 (v3 + (1 : Int32))) else vl_X10_mayTake n T v1 v2 (v3 + (1 : Int32)))) := rfl
set_option maxRecDepth 10000 in
theorem lj_X10_mayTake {X : ax_X} {d L sz : Nat} {Q : Int32 → tT → Prop} (hX : ax_ok X mX10_mayTake (d + 3)) (hsz : 161 ≤ sz) (hR : ax_Ret X mX10_mayTake (ti L sz Q)) : ∀ (n : Nat) (T : tT) (v1 : Int32) (v2 : Int32) (v3 : Int32), okl_X10_mayTake n sz T v1 v2 v3 → Q (vl_X10_mayTake n T v1 v2 v3) T → ax_j X 2 [some (.ref 2), some (.int v1), some (.int v2), some (.int v3)] [] (th L sz T) 0 0 := by
  intro n
  induction n with
  | zero => intro T v1 v2 v3 ok; exact False.elim ok
  | succ n ih =>
    intro T v1 v2 v3 ok hq
    refine s_X10_mayTake_2 hX hR hsz  v1 v2 v3 ?_
    unfold okl_X10_mayTake at ok
    refine ⟨fun kq0 => ?_, fun kq0 => ?_⟩
    · replace ok := ok.1 kq0
      have z := hq; rw [vl_X10_mayTake_s, if_pos kq0] at z; exact z
    · replace ok := ok.2 kq0
      refine ⟨ok.1, ?_⟩
      replace ok := ok.2
      refine ⟨fun kq1 => ?_, fun kq1 => ?_⟩
      · replace ok := ok.1 kq1
        have z := hq; rw [vl_X10_mayTake_s, if_neg kq0, if_neg kq1] at z; exact ih _ v1 v2 (v3 + (1 : Int32)) ok z
      · replace ok := ok.2 kq1
        refine ⟨_, c_X10_mayHear hsz  v1 v3 ok.1, ?_⟩
        rintro _ _ ⟨rfl, rfl⟩
        replace ok := ok.2
        refine ⟨fun kq2 => ?_, fun kq2 => ?_⟩
        · replace ok := ok.1 kq2
          have z := hq; rw [vl_X10_mayTake_s, if_neg kq0, if_pos kq1, if_neg kq2] at z; exact ih _ v1 v2 (v3 + (1 : Int32)) ok z
        · replace ok := ok.2 kq2
          have z := hq; rw [vl_X10_mayTake_s, if_neg kq0, if_pos kq1, if_pos kq2] at z; exact z
noncomputable def v_X10_mayTake (T : tT)  (x0 : Int32) (x1 : Int32) : Int32 := vl_X10_mayTake fu T x0 x1 (0 : Int32)
noncomputable def ok_X10_mayTake (sz : Nat) (T : tT)  (x0 : Int32) (x1 : Int32) : Prop := okl_X10_mayTake fu sz T x0 x1 (0 : Int32)
set_option maxRecDepth 10000 in
theorem c_X10_mayTake {d L sz : Nat} {T : tT} (hsz : 161 ≤ sz) (x0 : Int32) (x1 : Int32) (ok : ok_X10_mayTake sz T x0 x1) : tiK (d + 3) mX10_mayTake [.ref 2, .int x0, .int x1] L sz T (fun r T' => r = v_X10_mayTake T x0 x1 ∧ T = T') := by
  refine k_X10_mayTake hsz  x0 x1 (fun X hX hR => ?_)
  unfold ok_X10_mayTake at ok
  exact lj_X10_mayTake hX hsz  hR _ _ x0 x1 (0 : Int32) ok ⟨by unfold v_X10_mayTake; rfl, rfl⟩
noncomputable def F_X6_take (T : tT)  (x0 : Int32) : tT := (if (T.1 3 1) = 0 then (if (T.1 4 2) = x0 then (F_X9_next T) else (F_X6_refuse T)) else T)
noncomputable def ok_X6_take (sz : Nat) (T : tT)  (x0 : Int32) : Prop := (((T.1 3 1) = 0 → ((¬ (T.1 4 2) = x0 → True) ∧ ((T.1 4 2) = x0 → (ok_X9_next sz T ∧ True)))) ∧ (¬ (T.1 3 1) = 0 → True))
set_option maxRecDepth 10000 in
theorem c_X6_take {d L sz : Nat} {T : tT} (hsz : 161 ≤ sz) (x0 : Int32) (ok : ok_X6_take sz T x0) : tvK (d + 3) mX6_take [.ref 3, .int x0] L sz T (fun T' => T' = F_X6_take T x0) := by
  refine k_X6_take hsz  x0 ?_
  unfold ok_X6_take at ok
  refine ⟨fun kq0 => ?_, fun kq0 => ?_⟩
  · replace ok := ok.1 kq0
    refine ⟨fun kq1 => ?_, fun kq1 => ?_⟩
    · replace ok := ok.1 kq1
      refine ⟨_, c_X6_refuse hsz   , ?_⟩
      rintro _ rfl
      exact (by unfold F_X6_take; first | (rw [if_pos kq0, if_neg kq1]; done) | (rw [if_pos kq0, if_neg kq1]; rfl))
    · replace ok := ok.2 kq1
      refine ⟨_, c_X9_next hsz   ok.1, ?_⟩
      rintro _ rfl
      replace ok := ok.2
      exact (by unfold F_X6_take; first | (rw [if_pos kq0, if_pos kq1]; done) | (rw [if_pos kq0, if_pos kq1]; rfl))
  · replace ok := ok.2 kq0
    exact (by unfold F_X6_take; first | (rw [if_neg kq0]; done) | (rw [if_neg kq0]; rfl))
noncomputable def F_X6_takeListed (T : tT) (q : Nat)  : tT := (if (T.1 4 2) = (3 : Int32) then (if (v_X3_isLastListFull T q) = 0 then (if (v_X3_isListed T q ((T.1 q 1) - (1 : Int32)) (T.2.1 4 5)) = 0 then (F_X9_next (F_X3_addListed T q (T.2.1 4 5))) else (F_X9_next (F_X6_fail T (3 : Int32) (T.1 4 3)))) else (F_X9_next (F_X6_refuse T))) else (F_X9_next (F_X6_refuse T)))
noncomputable def ok_X6_takeListed (sz : Nat) (T : tT) (q : Nat)  : Prop := ((¬ (T.1 4 2) = (3 : Int32) → (ok_X9_next sz (F_X6_refuse T) ∧ True)) ∧ ((T.1 4 2) = (3 : Int32) → (ok_X3_isLastListFull sz T q ∧ (((v_X3_isLastListFull T q) = 0 → (ok_X3_isListed sz T q ((T.1 q 1) - (1 : Int32)) (T.2.1 4 5) ∧ (((v_X3_isListed T q ((T.1 q 1) - (1 : Int32)) (T.2.1 4 5)) = 0 → (ok_X3_addListed sz T q (T.2.1 4 5) ∧ (ok_X9_next sz (F_X3_addListed T q (T.2.1 4 5)) ∧ True))) ∧ (¬ (v_X3_isListed T q ((T.1 q 1) - (1 : Int32)) (T.2.1 4 5)) = 0 → (ok_X9_next sz (F_X6_fail T (3 : Int32) (T.1 4 3)) ∧ True))))) ∧ (¬ (v_X3_isLastListFull T q) = 0 → (ok_X9_next sz (F_X6_refuse T) ∧ True))))))
set_option maxRecDepth 10000 in
theorem c_X6_takeListed {d L sz : Nat} {T : tT} (hsz : 161 ≤ sz) {q : Nat} (h_q : tgr sz q)  (ok : ok_X6_takeListed sz T q) : tvK (d + 3) mX6_takeListed [.ref 3, .ref q] L sz T (fun T' => T' = F_X6_takeListed T q) := by
  refine k_X6_takeListed hsz h_q  ?_
  unfold ok_X6_takeListed at ok
  refine ⟨fun kq0 => ?_, fun kq0 => ?_⟩
  · replace ok := ok.1 kq0
    refine ⟨_, c_X6_refuse hsz   , ?_⟩
    rintro _ rfl
    refine ⟨_, c_X9_next hsz   ok.1, ?_⟩
    rintro _ rfl
    replace ok := ok.2
    exact (by unfold F_X6_takeListed; first | (rw [if_neg kq0]; done) | (rw [if_neg kq0]; rfl))
  · replace ok := ok.2 kq0
    refine ⟨_, c_X3_isLastListFull hsz h_q  ok.1, ?_⟩
    rintro _ _ ⟨rfl, rfl⟩
    replace ok := ok.2
    refine ⟨fun kq1 => ?_, fun kq1 => ?_⟩
    · replace ok := ok.1 kq1
      refine ⟨_, c_X3_isListed hsz h_q ((T.1 q 1) - (1 : Int32)) (T.2.1 4 5) ok.1, ?_⟩
      rintro _ _ ⟨rfl, rfl⟩
      replace ok := ok.2
      refine ⟨fun kq2 => ?_, fun kq2 => ?_⟩
      · replace ok := ok.1 kq2
        refine ⟨_, c_X3_addListed hsz h_q (T.2.1 4 5) ok.1, ?_⟩
        rintro _ rfl
        replace ok := ok.2
        refine ⟨_, c_X9_next hsz   ok.1, ?_⟩
        rintro _ rfl
        replace ok := ok.2
        exact (by unfold F_X6_takeListed; first | (rw [if_pos kq0, if_pos kq1, if_pos kq2]; done) | (rw [if_pos kq0, if_pos kq1, if_pos kq2]; rfl))
      · replace ok := ok.2 kq2
        refine ⟨_, c_X6_fail hsz  (3 : Int32) (T.1 4 3) , ?_⟩
        rintro _ rfl
        refine ⟨_, c_X9_next hsz   ok.1, ?_⟩
        rintro _ rfl
        replace ok := ok.2
        exact (by unfold F_X6_takeListed; first | (rw [if_pos kq0, if_pos kq1, if_neg kq2]; done) | (rw [if_pos kq0, if_pos kq1, if_neg kq2]; rfl))
    · replace ok := ok.2 kq1
      refine ⟨_, c_X6_refuse hsz   , ?_⟩
      rintro _ rfl
      refine ⟨_, c_X9_next hsz   ok.1, ?_⟩
      rintro _ rfl
      replace ok := ok.2
      exact (by unfold F_X6_takeListed; first | (rw [if_pos kq0, if_neg kq1]; done) | (rw [if_pos kq0, if_neg kq1]; rfl))
noncomputable def F_X6_takeNewName (T : tT) (q : Nat)  : Int64 × tT := (if (T.1 4 2) = (3 : Int32) then (if (v_X3_findList T q (T.2.1 4 5)) = (-1 : Int32) then (if (v_X3_findPart T q (T.2.1 4 5)) = (-1 : Int32) then ((T.2.1 4 5), (F_X9_next T)) else ((T.2.1 4 5), (F_X9_next (F_X6_fail T (3 : Int32) (T.1 4 3))))) else ((T.2.1 4 5), (F_X9_next (F_X6_fail T (3 : Int32) (T.1 4 3))))) else ((T.2.1 4 5), (F_X9_next (F_X6_refuse T))))
noncomputable def ok_X6_takeNewName (sz : Nat) (T : tT) (q : Nat)  : Prop := (((T.1 4 2) = (3 : Int32) → (ok_X3_findList sz T q (T.2.1 4 5) ∧ ((¬ (v_X3_findList T q (T.2.1 4 5)) = (-1 : Int32) → (ok_X9_next sz (F_X6_fail T (3 : Int32) (T.1 4 3)) ∧ True)) ∧ ((v_X3_findList T q (T.2.1 4 5)) = (-1 : Int32) → (ok_X3_findPart sz T q (T.2.1 4 5) ∧ (((v_X3_findPart T q (T.2.1 4 5)) = (-1 : Int32) → (ok_X9_next sz T ∧ True)) ∧ (¬ (v_X3_findPart T q (T.2.1 4 5)) = (-1 : Int32) → (ok_X9_next sz (F_X6_fail T (3 : Int32) (T.1 4 3)) ∧ True)))))))) ∧ (¬ (T.1 4 2) = (3 : Int32) → (ok_X9_next sz (F_X6_refuse T) ∧ True)))
set_option maxRecDepth 10000 in
theorem c_X6_takeNewName {d L sz : Nat} {T : tT} (hsz : 161 ≤ sz) {q : Nat} (h_q : tgr sz q)  (ok : ok_X6_takeNewName sz T q) : tlK (d + 3) mX6_takeNewName [.ref 3, .ref q] L sz T (fun r T' => r = (F_X6_takeNewName T q).1 ∧ T' = (F_X6_takeNewName T q).2) := by
  refine k_X6_takeNewName hsz h_q  ?_
  unfold ok_X6_takeNewName at ok
  refine ⟨fun kq0 => ?_, fun kq0 => ?_⟩
  · replace ok := ok.1 kq0
    refine ⟨_, c_X3_findList hsz h_q (T.2.1 4 5) ok.1, ?_⟩
    rintro _ _ ⟨rfl, rfl⟩
    replace ok := ok.2
    refine ⟨fun kq1 => ?_, fun kq1 => ?_⟩
    · replace ok := ok.1 kq1
      refine ⟨_, c_X6_fail hsz  (3 : Int32) (T.1 4 3) , ?_⟩
      rintro _ rfl
      refine ⟨_, c_X9_next hsz   ok.1, ?_⟩
      rintro _ rfl
      replace ok := ok.2
      exact ⟨by unfold F_X6_takeNewName; first | (rw [if_pos kq0, if_neg kq1]; done) | (rw [if_pos kq0, if_neg kq1]; rfl), by unfold F_X6_takeNewName; first | (rw [if_pos kq0, if_neg kq1]; done) | (rw [if_pos kq0, if_neg kq1]; rfl)⟩
    · replace ok := ok.2 kq1
      refine ⟨_, c_X3_findPart hsz h_q (T.2.1 4 5) ok.1, ?_⟩
      rintro _ _ ⟨rfl, rfl⟩
      replace ok := ok.2
      refine ⟨fun kq2 => ?_, fun kq2 => ?_⟩
      · replace ok := ok.1 kq2
        refine ⟨_, c_X9_next hsz   ok.1, ?_⟩
        rintro _ rfl
        replace ok := ok.2
        exact ⟨by unfold F_X6_takeNewName; first | (rw [if_pos kq0, if_pos kq1, if_pos kq2]; done) | (rw [if_pos kq0, if_pos kq1, if_pos kq2]; rfl), by unfold F_X6_takeNewName; first | (rw [if_pos kq0, if_pos kq1, if_pos kq2]; done) | (rw [if_pos kq0, if_pos kq1, if_pos kq2]; rfl)⟩
      · replace ok := ok.2 kq2
        refine ⟨_, c_X6_fail hsz  (3 : Int32) (T.1 4 3) , ?_⟩
        rintro _ rfl
        refine ⟨_, c_X9_next hsz   ok.1, ?_⟩
        rintro _ rfl
        replace ok := ok.2
        exact ⟨by unfold F_X6_takeNewName; first | (rw [if_pos kq0, if_pos kq1, if_neg kq2]; done) | (rw [if_pos kq0, if_pos kq1, if_neg kq2]; rfl), by unfold F_X6_takeNewName; first | (rw [if_pos kq0, if_pos kq1, if_neg kq2]; done) | (rw [if_pos kq0, if_pos kq1, if_neg kq2]; rfl)⟩
  · replace ok := ok.2 kq0
    refine ⟨_, c_X6_refuse hsz   , ?_⟩
    rintro _ rfl
    refine ⟨_, c_X9_next hsz   ok.1, ?_⟩
    rintro _ rfl
    replace ok := ok.2
    exact ⟨by unfold F_X6_takeNewName; first | (rw [if_neg kq0]; done) | (rw [if_neg kq0]; rfl), by unfold F_X6_takeNewName; first | (rw [if_neg kq0]; done) | (rw [if_neg kq0]; rfl)⟩
noncomputable def F_X6_takeNumber (T : tT)  (x0 : Int32) (x1 : Int32) : Int32 × tT := (if (T.1 4 2) = (2 : Int32) then (if (T.1 4 4) < x0 then (if ((F_X9_next (F_X6_fail T (5 : Int32) (T.1 4 3))).1 3 1) = 0 then ((T.1 4 4), (F_X9_next (F_X6_fail T (5 : Int32) (T.1 4 3)))) else ((0 : Int32), (F_X9_next (F_X6_fail T (5 : Int32) (T.1 4 3))))) else (if (T.1 4 4) ≤ x1 then (if ((F_X9_next T).1 3 1) = 0 then ((T.1 4 4), (F_X9_next T)) else ((0 : Int32), (F_X9_next T))) else (if ((F_X9_next (F_X6_fail T (5 : Int32) (T.1 4 3))).1 3 1) = 0 then ((T.1 4 4), (F_X9_next (F_X6_fail T (5 : Int32) (T.1 4 3)))) else ((0 : Int32), (F_X9_next (F_X6_fail T (5 : Int32) (T.1 4 3))))))) else (if ((F_X9_next (F_X6_refuse T)).1 3 1) = 0 then ((T.1 4 4), (F_X9_next (F_X6_refuse T))) else ((0 : Int32), (F_X9_next (F_X6_refuse T)))))
noncomputable def ok_X6_takeNumber (sz : Nat) (T : tT)  (x0 : Int32) (x1 : Int32) : Prop := (((T.1 4 2) = (2 : Int32) → (((T.1 4 4) < x0 → (ok_X9_next sz (F_X6_fail T (5 : Int32) (T.1 4 3)) ∧ True)) ∧ (¬ (T.1 4 4) < x0 → (((T.1 4 4) ≤ x1 → (ok_X9_next sz T ∧ True)) ∧ (¬ (T.1 4 4) ≤ x1 → (ok_X9_next sz (F_X6_fail T (5 : Int32) (T.1 4 3)) ∧ True)))))) ∧ (¬ (T.1 4 2) = (2 : Int32) → (ok_X9_next sz (F_X6_refuse T) ∧ True)))
set_option maxRecDepth 10000 in
theorem c_X6_takeNumber {d L sz : Nat} {T : tT} (hsz : 161 ≤ sz) (x0 : Int32) (x1 : Int32) (ok : ok_X6_takeNumber sz T x0 x1) : tiK (d + 3) mX6_takeNumber [.ref 3, .int x0, .int x1] L sz T (fun r T' => r = (F_X6_takeNumber T x0 x1).1 ∧ T' = (F_X6_takeNumber T x0 x1).2) := by
  refine k_X6_takeNumber hsz  x0 x1 ?_
  unfold ok_X6_takeNumber at ok
  refine ⟨fun kq0 => ?_, fun kq0 => ?_⟩
  · replace ok := ok.1 kq0
    refine ⟨fun kq1 => ?_, fun kq1 => ?_⟩
    · replace ok := ok.1 kq1
      refine ⟨_, c_X6_fail hsz  (5 : Int32) (T.1 4 3) , ?_⟩
      rintro _ rfl
      refine ⟨_, c_X9_next hsz   ok.1, ?_⟩
      rintro _ rfl
      replace ok := ok.2
      refine ⟨fun kq2 => ?_, fun kq2 => ?_⟩
      · exact ⟨by unfold F_X6_takeNumber; first | (rw [if_pos kq0, if_pos kq1, if_neg kq2]; done) | (rw [if_pos kq0, if_pos kq1, if_neg kq2]; rfl), by unfold F_X6_takeNumber; first | (rw [if_pos kq0, if_pos kq1, if_neg kq2]; done) | (rw [if_pos kq0, if_pos kq1, if_neg kq2]; rfl)⟩
      · exact ⟨by unfold F_X6_takeNumber; first | (rw [if_pos kq0, if_pos kq1, if_pos kq2]; done) | (rw [if_pos kq0, if_pos kq1, if_pos kq2]; rfl), by unfold F_X6_takeNumber; first | (rw [if_pos kq0, if_pos kq1, if_pos kq2]; done) | (rw [if_pos kq0, if_pos kq1, if_pos kq2]; rfl)⟩
    · replace ok := ok.2 kq1
      refine ⟨fun kq2 => ?_, fun kq2 => ?_⟩
      · replace ok := ok.1 kq2
        refine ⟨_, c_X9_next hsz   ok.1, ?_⟩
        rintro _ rfl
        replace ok := ok.2
        refine ⟨fun kq3 => ?_, fun kq3 => ?_⟩
        · exact ⟨by unfold F_X6_takeNumber; first | (rw [if_pos kq0, if_neg kq1, if_pos kq2, if_neg kq3]; done) | (rw [if_pos kq0, if_neg kq1, if_pos kq2, if_neg kq3]; rfl), by unfold F_X6_takeNumber; first | (rw [if_pos kq0, if_neg kq1, if_pos kq2, if_neg kq3]; done) | (rw [if_pos kq0, if_neg kq1, if_pos kq2, if_neg kq3]; rfl)⟩
        · exact ⟨by unfold F_X6_takeNumber; first | (rw [if_pos kq0, if_neg kq1, if_pos kq2, if_pos kq3]; done) | (rw [if_pos kq0, if_neg kq1, if_pos kq2, if_pos kq3]; rfl), by unfold F_X6_takeNumber; first | (rw [if_pos kq0, if_neg kq1, if_pos kq2, if_pos kq3]; done) | (rw [if_pos kq0, if_neg kq1, if_pos kq2, if_pos kq3]; rfl)⟩
      · replace ok := ok.2 kq2
        refine ⟨_, c_X6_fail hsz  (5 : Int32) (T.1 4 3) , ?_⟩
        rintro _ rfl
        refine ⟨_, c_X9_next hsz   ok.1, ?_⟩
        rintro _ rfl
        replace ok := ok.2
        refine ⟨fun kq3 => ?_, fun kq3 => ?_⟩
        · exact ⟨by unfold F_X6_takeNumber; first | (rw [if_pos kq0, if_neg kq1, if_neg kq2, if_neg kq3]; done) | (rw [if_pos kq0, if_neg kq1, if_neg kq2, if_neg kq3]; rfl), by unfold F_X6_takeNumber; first | (rw [if_pos kq0, if_neg kq1, if_neg kq2, if_neg kq3]; done) | (rw [if_pos kq0, if_neg kq1, if_neg kq2, if_neg kq3]; rfl)⟩
        · exact ⟨by unfold F_X6_takeNumber; first | (rw [if_pos kq0, if_neg kq1, if_neg kq2, if_pos kq3]; done) | (rw [if_pos kq0, if_neg kq1, if_neg kq2, if_pos kq3]; rfl), by unfold F_X6_takeNumber; first | (rw [if_pos kq0, if_neg kq1, if_neg kq2, if_pos kq3]; done) | (rw [if_pos kq0, if_neg kq1, if_neg kq2, if_pos kq3]; rfl)⟩
  · replace ok := ok.2 kq0
    refine ⟨_, c_X6_refuse hsz   , ?_⟩
    rintro _ rfl
    refine ⟨_, c_X9_next hsz   ok.1, ?_⟩
    rintro _ rfl
    replace ok := ok.2
    refine ⟨fun kq1 => ?_, fun kq1 => ?_⟩
    · exact ⟨by unfold F_X6_takeNumber; first | (rw [if_neg kq0, if_neg kq1]; done) | (rw [if_neg kq0, if_neg kq1]; rfl), by unfold F_X6_takeNumber; first | (rw [if_neg kq0, if_neg kq1]; done) | (rw [if_neg kq0, if_neg kq1]; rfl)⟩
    · exact ⟨by unfold F_X6_takeNumber; first | (rw [if_neg kq0, if_pos kq1]; done) | (rw [if_neg kq0, if_pos kq1]; rfl), by unfold F_X6_takeNumber; first | (rw [if_neg kq0, if_pos kq1]; done) | (rw [if_neg kq0, if_pos kq1]; rfl)⟩
noncomputable def F_X9_rewind (T : tT)   : tT := (F_X9_next (tI T 4 6 (0 : Int32)))
noncomputable def ok_X9_rewind (sz : Nat) (T : tT)   : Prop := (ok_X9_next sz (tI T 4 6 (0 : Int32)) ∧ True)
set_option maxRecDepth 10000 in
theorem c_X9_rewind {d L sz : Nat} {T : tT} (hsz : 161 ≤ sz)  (ok : ok_X9_rewind sz T) : tvK (d + 3) mX9_rewind [.ref 4] L sz T (fun T' => T' = F_X9_rewind T) := by
  refine k_X9_rewind hsz   ?_
  unfold ok_X9_rewind at ok
  refine ⟨_, c_X9_next hsz   ok.1, ?_⟩
  rintro _ rfl
  replace ok := ok.2
  exact (by unfold F_X9_rewind; rfl)
noncomputable def v_X10_may (T : tT)  (x0 : Int32) (x1 : Int32) : Int32 := (if (v_X1_hasExaminer T x0) = 0 then (-1 : Int32) else (if (v_X1_hasSession T x1) = 0 then (-1 : Int32) else (if (v_X10_mayTake T x0 x1) = 0 then (0 : Int32) else (1 : Int32))))
noncomputable def ok_X10_may (sz : Nat) (T : tT)  (x0 : Int32) (x1 : Int32) : Prop := (((v_X1_hasExaminer T x0) = 0 → True) ∧ (¬ (v_X1_hasExaminer T x0) = 0 → ((¬ (v_X1_hasSession T x1) = 0 → (ok_X10_mayTake sz T x0 x1 ∧ True)) ∧ ((v_X1_hasSession T x1) = 0 → True))))
set_option maxRecDepth 10000 in
theorem c_X10_may {d L sz : Nat} {T : tT} (hsz : 161 ≤ sz) (x0 : Int32) (x1 : Int32) (ok : ok_X10_may sz T x0 x1) : tiK (d + 4) mX10_may [.ref 2, .int x0, .int x1] L sz T (fun r T' => r = v_X10_may T x0 x1 ∧ T = T') := by
  refine k_X10_may hsz  x0 x1 ?_
  unfold ok_X10_may at ok
  refine ⟨_, c_X1_hasExaminer hsz  x0 , ?_⟩
  rintro _ _ ⟨rfl, rfl⟩
  refine ⟨fun kq0 => ?_, fun kq0 => ?_⟩
  · replace ok := ok.1 kq0
    exact ⟨by unfold v_X10_may; first | (rw [if_pos kq0]; done) | (rw [if_pos kq0]; rfl), rfl⟩
  · replace ok := ok.2 kq0
    refine ⟨_, c_X1_hasSession hsz  x1 , ?_⟩
    rintro _ _ ⟨rfl, rfl⟩
    refine ⟨fun kq1 => ?_, fun kq1 => ?_⟩
    · replace ok := ok.1 kq1
      refine ⟨_, c_X10_mayTake hsz  x0 x1 ok.1, ?_⟩
      rintro _ _ ⟨rfl, rfl⟩
      replace ok := ok.2
      refine ⟨fun kq2 => ?_, fun kq2 => ?_⟩
      · exact ⟨by unfold v_X10_may; first | (rw [if_neg kq0, if_neg kq1, if_pos kq2]; done) | (rw [if_neg kq0, if_neg kq1, if_pos kq2]; rfl), rfl⟩
      · exact ⟨by unfold v_X10_may; first | (rw [if_neg kq0, if_neg kq1, if_neg kq2]; done) | (rw [if_neg kq0, if_neg kq1, if_neg kq2]; rfl), rfl⟩
    · replace ok := ok.2 kq1
      exact ⟨by unfold v_X10_may; first | (rw [if_neg kq0, if_pos kq1]; done) | (rw [if_neg kq0, if_pos kq1]; rfl), rfl⟩
noncomputable def F_X6_openGrade (T : tT)   : Option Nat × tT := (match ((F_X6_takeNumber (F_X6_take T (200 : Int32)) (1 : Int32) (8 : Int32)).2.2.2 3 3) with | none => (none, T) | some p3 => (match (v_X8_find ((F_X6_takeNumber (F_X6_take T (200 : Int32)) (1 : Int32) (8 : Int32)).2) p3 (F_X6_takeNumber (F_X6_take T (200 : Int32)) (1 : Int32) (8 : Int32)).1) with | none => (if ((F_X6_take ((F_X6_takeNumber (F_X6_take T (200 : Int32)) (1 : Int32) (8 : Int32)).2) (123 : Int32)).1 3 1) = 0 then (match ((F_X6_take ((F_X6_takeNumber (F_X6_take T (200 : Int32)) (1 : Int32) (8 : Int32)).2) (123 : Int32)).2.2 3 3) with | none => (none, T) | some p7 => (match (F_X8_open (F_X6_take ((F_X6_takeNumber (F_X6_take T (200 : Int32)) (1 : Int32) (8 : Int32)).2) (123 : Int32)) p7 (F_X6_takeNumber (F_X6_take T (200 : Int32)) (1 : Int32) (8 : Int32)).1).1 with | none => (none, (F_X8_open (F_X6_take ((F_X6_takeNumber (F_X6_take T (200 : Int32)) (1 : Int32) (8 : Int32)).2) (123 : Int32)) p7 (F_X6_takeNumber (F_X6_take T (200 : Int32)) (1 : Int32) (8 : Int32)).1).2) | some p9 => ((some p9), (F_X8_open (F_X6_take ((F_X6_takeNumber (F_X6_take T (200 : Int32)) (1 : Int32) (8 : Int32)).2) (123 : Int32)) p7 (F_X6_takeNumber (F_X6_take T (200 : Int32)) (1 : Int32) (8 : Int32)).1).2))) else (none, (F_X6_take ((F_X6_takeNumber (F_X6_take T (200 : Int32)) (1 : Int32) (8 : Int32)).2) (123 : Int32)))) | some p5 => (if ((F_X6_take (F_X6_fail ((F_X6_takeNumber (F_X6_take T (200 : Int32)) (1 : Int32) (8 : Int32)).2) (3 : Int32) ((F_X6_take T (200 : Int32)).1 4 3)) (123 : Int32)).1 3 1) = 0 then (match ((F_X6_take (F_X6_fail ((F_X6_takeNumber (F_X6_take T (200 : Int32)) (1 : Int32) (8 : Int32)).2) (3 : Int32) ((F_X6_take T (200 : Int32)).1 4 3)) (123 : Int32)).2.2 3 3) with | none => (none, T) | some p12 => (match (F_X8_open (F_X6_take (F_X6_fail ((F_X6_takeNumber (F_X6_take T (200 : Int32)) (1 : Int32) (8 : Int32)).2) (3 : Int32) ((F_X6_take T (200 : Int32)).1 4 3)) (123 : Int32)) p12 (F_X6_takeNumber (F_X6_take T (200 : Int32)) (1 : Int32) (8 : Int32)).1).1 with | none => (none, (F_X8_open (F_X6_take (F_X6_fail ((F_X6_takeNumber (F_X6_take T (200 : Int32)) (1 : Int32) (8 : Int32)).2) (3 : Int32) ((F_X6_take T (200 : Int32)).1 4 3)) (123 : Int32)) p12 (F_X6_takeNumber (F_X6_take T (200 : Int32)) (1 : Int32) (8 : Int32)).1).2) | some p14 => ((some p14), (F_X8_open (F_X6_take (F_X6_fail ((F_X6_takeNumber (F_X6_take T (200 : Int32)) (1 : Int32) (8 : Int32)).2) (3 : Int32) ((F_X6_take T (200 : Int32)).1 4 3)) (123 : Int32)) p12 (F_X6_takeNumber (F_X6_take T (200 : Int32)) (1 : Int32) (8 : Int32)).1).2))) else (none, (F_X6_take (F_X6_fail ((F_X6_takeNumber (F_X6_take T (200 : Int32)) (1 : Int32) (8 : Int32)).2) (3 : Int32) ((F_X6_take T (200 : Int32)).1 4 3)) (123 : Int32))))))
noncomputable def ok_X6_openGrade (sz : Nat) (T : tT)   : Prop := (ok_X6_take sz T (200 : Int32) ∧ (ok_X6_takeNumber sz (F_X6_take T (200 : Int32)) (1 : Int32) (8 : Int32) ∧ ((((F_X6_takeNumber (F_X6_take T (200 : Int32)) (1 : Int32) (8 : Int32)).2.2.2 3 3) = none → False) ∧ (∀ p3, ((F_X6_takeNumber (F_X6_take T (200 : Int32)) (1 : Int32) (8 : Int32)).2.2.2 3 3) = some p3 → tsy sz p3 ∧ (ok_X8_find sz ((F_X6_takeNumber (F_X6_take T (200 : Int32)) (1 : Int32) (8 : Int32)).2) p3 (F_X6_takeNumber (F_X6_take T (200 : Int32)) (1 : Int32) (8 : Int32)).1 ∧ (((v_X8_find ((F_X6_takeNumber (F_X6_take T (200 : Int32)) (1 : Int32) (8 : Int32)).2) p3 (F_X6_takeNumber (F_X6_take T (200 : Int32)) (1 : Int32) (8 : Int32)).1) = none → (ok_X6_take sz ((F_X6_takeNumber (F_X6_take T (200 : Int32)) (1 : Int32) (8 : Int32)).2) (123 : Int32) ∧ ((¬ ((F_X6_take ((F_X6_takeNumber (F_X6_take T (200 : Int32)) (1 : Int32) (8 : Int32)).2) (123 : Int32)).1 3 1) = 0 → True) ∧ (((F_X6_take ((F_X6_takeNumber (F_X6_take T (200 : Int32)) (1 : Int32) (8 : Int32)).2) (123 : Int32)).1 3 1) = 0 → ((((F_X6_take ((F_X6_takeNumber (F_X6_take T (200 : Int32)) (1 : Int32) (8 : Int32)).2) (123 : Int32)).2.2 3 3) = none → False) ∧ (∀ p7, ((F_X6_take ((F_X6_takeNumber (F_X6_take T (200 : Int32)) (1 : Int32) (8 : Int32)).2) (123 : Int32)).2.2 3 3) = some p7 → tsy sz p7 ∧ (ok_X8_open sz (F_X6_take ((F_X6_takeNumber (F_X6_take T (200 : Int32)) (1 : Int32) (8 : Int32)).2) (123 : Int32)) p7 (F_X6_takeNumber (F_X6_take T (200 : Int32)) (1 : Int32) (8 : Int32)).1 ∧ (((F_X8_open (F_X6_take ((F_X6_takeNumber (F_X6_take T (200 : Int32)) (1 : Int32) (8 : Int32)).2) (123 : Int32)) p7 (F_X6_takeNumber (F_X6_take T (200 : Int32)) (1 : Int32) (8 : Int32)).1).1 = none → True) ∧ (∀ p9, (F_X8_open (F_X6_take ((F_X6_takeNumber (F_X6_take T (200 : Int32)) (1 : Int32) (8 : Int32)).2) (123 : Int32)) p7 (F_X6_takeNumber (F_X6_take T (200 : Int32)) (1 : Int32) (8 : Int32)).1).1 = some p9 → tgr sz p9 ∧ True))))))))) ∧ (∀ p5, (v_X8_find ((F_X6_takeNumber (F_X6_take T (200 : Int32)) (1 : Int32) (8 : Int32)).2) p3 (F_X6_takeNumber (F_X6_take T (200 : Int32)) (1 : Int32) (8 : Int32)).1) = some p5 → tgr sz p5 ∧ (ok_X6_take sz (F_X6_fail ((F_X6_takeNumber (F_X6_take T (200 : Int32)) (1 : Int32) (8 : Int32)).2) (3 : Int32) ((F_X6_take T (200 : Int32)).1 4 3)) (123 : Int32) ∧ ((¬ ((F_X6_take (F_X6_fail ((F_X6_takeNumber (F_X6_take T (200 : Int32)) (1 : Int32) (8 : Int32)).2) (3 : Int32) ((F_X6_take T (200 : Int32)).1 4 3)) (123 : Int32)).1 3 1) = 0 → True) ∧ (((F_X6_take (F_X6_fail ((F_X6_takeNumber (F_X6_take T (200 : Int32)) (1 : Int32) (8 : Int32)).2) (3 : Int32) ((F_X6_take T (200 : Int32)).1 4 3)) (123 : Int32)).1 3 1) = 0 → ((((F_X6_take (F_X6_fail ((F_X6_takeNumber (F_X6_take T (200 : Int32)) (1 : Int32) (8 : Int32)).2) (3 : Int32) ((F_X6_take T (200 : Int32)).1 4 3)) (123 : Int32)).2.2 3 3) = none → False) ∧ (∀ p12, ((F_X6_take (F_X6_fail ((F_X6_takeNumber (F_X6_take T (200 : Int32)) (1 : Int32) (8 : Int32)).2) (3 : Int32) ((F_X6_take T (200 : Int32)).1 4 3)) (123 : Int32)).2.2 3 3) = some p12 → tsy sz p12 ∧ (ok_X8_open sz (F_X6_take (F_X6_fail ((F_X6_takeNumber (F_X6_take T (200 : Int32)) (1 : Int32) (8 : Int32)).2) (3 : Int32) ((F_X6_take T (200 : Int32)).1 4 3)) (123 : Int32)) p12 (F_X6_takeNumber (F_X6_take T (200 : Int32)) (1 : Int32) (8 : Int32)).1 ∧ (((F_X8_open (F_X6_take (F_X6_fail ((F_X6_takeNumber (F_X6_take T (200 : Int32)) (1 : Int32) (8 : Int32)).2) (3 : Int32) ((F_X6_take T (200 : Int32)).1 4 3)) (123 : Int32)) p12 (F_X6_takeNumber (F_X6_take T (200 : Int32)) (1 : Int32) (8 : Int32)).1).1 = none → True) ∧ (∀ p14, (F_X8_open (F_X6_take (F_X6_fail ((F_X6_takeNumber (F_X6_take T (200 : Int32)) (1 : Int32) (8 : Int32)).2) (3 : Int32) ((F_X6_take T (200 : Int32)).1 4 3)) (123 : Int32)) p12 (F_X6_takeNumber (F_X6_take T (200 : Int32)) (1 : Int32) (8 : Int32)).1).1 = some p14 → tgr sz p14 ∧ True)))))))))))))))
set_option maxRecDepth 10000 in
theorem c_X6_openGrade {d L sz : Nat} {T : tT} (hsz : 161 ≤ sz)  (ok : ok_X6_openGrade sz T) : toK (d + 4) mX6_openGrade [.ref 3] L sz T (fun r T' => r = (F_X6_openGrade T).1 ∧ T' = (F_X6_openGrade T).2) := by
  refine k_X6_openGrade hsz   ?_
  unfold ok_X6_openGrade at ok
  refine ⟨_, c_X6_take hsz  (200 : Int32) ok.1, ?_⟩
  rintro _ rfl
  replace ok := ok.2
  refine ⟨_, c_X6_takeNumber hsz  (1 : Int32) (8 : Int32) ok.1, ?_⟩
  rintro _ _ ⟨rfl, rfl⟩
  replace ok := ok.2
  refine ⟨fun kq0 => ?_, fun p3 kq0 => ?_⟩
  · replace ok := ok.1 kq0
    exact ok.elim
  · obtain ⟨h_p3, ok⟩ := ok.2 p3 kq0
    refine ⟨h_p3, ?_⟩
    refine ⟨_, c_X8_find hsz h_p3 (F_X6_takeNumber (F_X6_take T (200 : Int32)) (1 : Int32) (8 : Int32)).1 ok.1, ?_⟩
    rintro _ _ ⟨rfl, rfl⟩
    replace ok := ok.2
    refine ⟨fun kq1 => ?_, fun p5 kq1 => ?_⟩
    · replace ok := ok.1 kq1
      refine ⟨_, c_X6_take hsz  (123 : Int32) ok.1, ?_⟩
      rintro _ rfl
      replace ok := ok.2
      refine ⟨fun kq2 => ?_, fun kq2 => ?_⟩
      · replace ok := ok.1 kq2
        exact ⟨by unfold F_X6_openGrade; first | (simp only [kq0, kq1, if_neg kq2]; done) | (simp only [kq0, kq1, if_neg kq2]; rfl), by unfold F_X6_openGrade; first | (simp only [kq0, kq1, if_neg kq2]; done) | (simp only [kq0, kq1, if_neg kq2]; rfl)⟩
      · replace ok := ok.2 kq2
        refine ⟨fun kq3 => ?_, fun p7 kq3 => ?_⟩
        · replace ok := ok.1 kq3
          exact ok.elim
        · obtain ⟨h_p7, ok⟩ := ok.2 p7 kq3
          refine ⟨h_p7, ?_⟩
          refine ⟨_, c_X8_open hsz h_p7 (F_X6_takeNumber (F_X6_take T (200 : Int32)) (1 : Int32) (8 : Int32)).1 ok.1, ?_⟩
          rintro _ _ ⟨rfl, rfl⟩
          replace ok := ok.2
          refine ⟨fun kq4 => ?_, fun p9 kq4 => ?_⟩
          · replace ok := ok.1 kq4
            exact ⟨by unfold F_X6_openGrade; first | (simp only [kq0, kq1, if_pos kq2, kq3, kq4]; done) | (simp only [kq0, kq1, if_pos kq2, kq3, kq4]; rfl), by unfold F_X6_openGrade; first | (simp only [kq0, kq1, if_pos kq2, kq3, kq4]; done) | (simp only [kq0, kq1, if_pos kq2, kq3, kq4]; rfl)⟩
          · obtain ⟨h_p9, ok⟩ := ok.2 p9 kq4
            refine ⟨h_p9, ?_⟩
            exact ⟨by unfold F_X6_openGrade; first | (simp only [kq0, kq1, if_pos kq2, kq3, kq4]; done) | (simp only [kq0, kq1, if_pos kq2, kq3, kq4]; rfl), by unfold F_X6_openGrade; first | (simp only [kq0, kq1, if_pos kq2, kq3, kq4]; done) | (simp only [kq0, kq1, if_pos kq2, kq3, kq4]; rfl)⟩
    · obtain ⟨h_p5, ok⟩ := ok.2 p5 kq1
      refine ⟨h_p5, ?_⟩
      refine ⟨_, c_X6_fail hsz  (3 : Int32) ((F_X6_take T (200 : Int32)).1 4 3) , ?_⟩
      rintro _ rfl
      refine ⟨_, c_X6_take hsz  (123 : Int32) ok.1, ?_⟩
      rintro _ rfl
      replace ok := ok.2
      refine ⟨fun kq2 => ?_, fun kq2 => ?_⟩
      · replace ok := ok.1 kq2
        exact ⟨by unfold F_X6_openGrade; first | (simp only [kq0, kq1, if_neg kq2]; done) | (simp only [kq0, kq1, if_neg kq2]; rfl), by unfold F_X6_openGrade; first | (simp only [kq0, kq1, if_neg kq2]; done) | (simp only [kq0, kq1, if_neg kq2]; rfl)⟩
      · replace ok := ok.2 kq2
        refine ⟨fun kq3 => ?_, fun p12 kq3 => ?_⟩
        · replace ok := ok.1 kq3
          exact ok.elim
        · obtain ⟨h_p12, ok⟩ := ok.2 p12 kq3
          refine ⟨h_p12, ?_⟩
          refine ⟨_, c_X8_open hsz h_p12 (F_X6_takeNumber (F_X6_take T (200 : Int32)) (1 : Int32) (8 : Int32)).1 ok.1, ?_⟩
          rintro _ _ ⟨rfl, rfl⟩
          replace ok := ok.2
          refine ⟨fun kq4 => ?_, fun p14 kq4 => ?_⟩
          · replace ok := ok.1 kq4
            exact ⟨by unfold F_X6_openGrade; first | (simp only [kq0, kq1, if_pos kq2, kq3, kq4]; done) | (simp only [kq0, kq1, if_pos kq2, kq3, kq4]; rfl), by unfold F_X6_openGrade; first | (simp only [kq0, kq1, if_pos kq2, kq3, kq4]; done) | (simp only [kq0, kq1, if_pos kq2, kq3, kq4]; rfl)⟩
          · obtain ⟨h_p14, ok⟩ := ok.2 p14 kq4
            refine ⟨h_p14, ?_⟩
            exact ⟨by unfold F_X6_openGrade; first | (simp only [kq0, kq1, if_pos kq2, kq3, kq4]; done) | (simp only [kq0, kq1, if_pos kq2, kq3, kq4]; rfl), by unfold F_X6_openGrade; first | (simp only [kq0, kq1, if_pos kq2, kq3, kq4]; done) | (simp only [kq0, kq1, if_pos kq2, kq3, kq4]; rfl)⟩
noncomputable def F_X6_readPart (T : tT) (q : Nat)  : tT := (if ((F_X6_takeNumber ((F_X6_takeNewName T q).2) (1 : Int32) (200 : Int32)).2.1 3 1) = 0 then (F_X3_addPart ((F_X6_takeNumber ((F_X6_takeNewName T q).2) (1 : Int32) (200 : Int32)).2) q (F_X6_takeNewName T q).1 (F_X6_takeNumber ((F_X6_takeNewName T q).2) (1 : Int32) (200 : Int32)).1) else (F_X6_takeNumber ((F_X6_takeNewName T q).2) (1 : Int32) (200 : Int32)).2)
noncomputable def ok_X6_readPart (sz : Nat) (T : tT) (q : Nat)  : Prop := (ok_X6_takeNewName sz T q ∧ (ok_X6_takeNumber sz ((F_X6_takeNewName T q).2) (1 : Int32) (200 : Int32) ∧ ((¬ ((F_X6_takeNumber ((F_X6_takeNewName T q).2) (1 : Int32) (200 : Int32)).2.1 3 1) = 0 → True) ∧ (((F_X6_takeNumber ((F_X6_takeNewName T q).2) (1 : Int32) (200 : Int32)).2.1 3 1) = 0 → (ok_X3_addPart sz ((F_X6_takeNumber ((F_X6_takeNewName T q).2) (1 : Int32) (200 : Int32)).2) q (F_X6_takeNewName T q).1 (F_X6_takeNumber ((F_X6_takeNewName T q).2) (1 : Int32) (200 : Int32)).1 ∧ True)))))
set_option maxRecDepth 10000 in
theorem c_X6_readPart {d L sz : Nat} {T : tT} (hsz : 161 ≤ sz) {q : Nat} (h_q : tgr sz q)  (ok : ok_X6_readPart sz T q) : tvK (d + 4) mX6_readPart [.ref 3, .ref q] L sz T (fun T' => T' = F_X6_readPart T q) := by
  refine k_X6_readPart hsz h_q  ?_
  unfold ok_X6_readPart at ok
  refine ⟨_, c_X6_takeNewName hsz h_q  ok.1, ?_⟩
  rintro _ _ ⟨rfl, rfl⟩
  replace ok := ok.2
  refine ⟨_, c_X6_takeNumber hsz  (1 : Int32) (200 : Int32) ok.1, ?_⟩
  rintro _ _ ⟨rfl, rfl⟩
  replace ok := ok.2
  refine ⟨fun kq0 => ?_, fun kq0 => ?_⟩
  · replace ok := ok.1 kq0
    exact (by unfold F_X6_readPart; first | (rw [if_neg kq0]; done) | (rw [if_neg kq0]; rfl))
  · replace ok := ok.2 kq0
    refine ⟨_, c_X3_addPart hsz h_q (F_X6_takeNewName T q).1 (F_X6_takeNumber ((F_X6_takeNewName T q).2) (1 : Int32) (200 : Int32)).1 ok.1, ?_⟩
    rintro _ rfl
    replace ok := ok.2
    exact (by unfold F_X6_readPart; first | (rw [if_pos kq0]; done) | (rw [if_pos kq0]; rfl))
noncomputable def vl_X6_readList : Nat → tT → Nat → Int32 → tT
  | 0, T, q, v4 => T
  | n + 1, T, q, v4 => (if (1400 : Int32) ≤ v4 then T else (if (T.1 3 1) = 0 then (if (T.1 4 2) = (44 : Int32) then vl_X6_readList n (F_X6_takeListed (F_X9_next T) q) q (v4 + (1 : Int32)) else T) else T))
noncomputable def okl_X6_readList : Nat → Nat → tT → Nat → Int32 → Prop
  | 0, _, T, q, v4 => False
  | n + 1, sz, T, q, v4 => (((1400 : Int32) ≤ v4 → True) ∧ (¬ (1400 : Int32) ≤ v4 → ((¬ (T.1 3 1) = 0 → True) ∧ ((T.1 3 1) = 0 → ((¬ (T.1 4 2) = (44 : Int32) → True) ∧ ((T.1 4 2) = (44 : Int32) → (ok_X9_next sz T ∧ (ok_X6_takeListed sz (F_X9_next T) q ∧ okl_X6_readList n sz (F_X6_takeListed (F_X9_next T) q) q (v4 + (1 : Int32))))))))))
theorem vl_X6_readList_s (n : Nat) (T : tT) (q : Nat) (v4 : Int32) : vl_X6_readList (n + 1) T q v4 = (if (1400 : Int32) ≤ v4 then T else (if (T.1 3 1) = 0 then (if (T.1 4 2) = (44 : Int32) then vl_X6_readList n (F_X6_takeListed (F_X9_next T) q) q (v4 + (1 : Int32)) else T) else T)) := rfl
set_option maxRecDepth 10000 in
theorem lj_X6_readList {X : ax_X} {d L sz : Nat} {Q : tT → Prop} (hX : ax_ok X mX6_readList (d + 4)) (hsz : 161 ≤ sz) {q : Nat} (h_q : tgr sz q) (hR : ax_Ret X mX6_readList (tv L sz Q)) : ∀ (n : Nat) (T : tT) (v4 : Int32), okl_X6_readList n sz T q v4 → Q (vl_X6_readList n T q v4) → ax_j X 33 [some (.ref 3), some (.ref q), none, none, some (.int v4)] [] (th L sz T) 0 0 := by
  intro n
  induction n with
  | zero => intro T v4 ok; exact False.elim ok
  | succ n ih =>
    intro T v4 ok hq
    refine s_X6_readList_33 hX hR hsz h_q v4 ?_
    unfold okl_X6_readList at ok
    refine ⟨fun kq0 => ?_, fun kq0 => ?_⟩
    · replace ok := ok.1 kq0
      have z := hq; rw [vl_X6_readList_s, if_pos kq0] at z; exact z
    · replace ok := ok.2 kq0
      refine ⟨fun kq1 => ?_, fun kq1 => ?_⟩
      · replace ok := ok.1 kq1
        have z := hq; rw [vl_X6_readList_s, if_neg kq0, if_neg kq1] at z; exact z
      · replace ok := ok.2 kq1
        refine ⟨fun kq2 => ?_, fun kq2 => ?_⟩
        · replace ok := ok.1 kq2
          have z := hq; rw [vl_X6_readList_s, if_neg kq0, if_pos kq1, if_neg kq2] at z; exact z
        · replace ok := ok.2 kq2
          refine ⟨_, c_X9_next hsz   ok.1, ?_⟩
          rintro _ rfl
          replace ok := ok.2
          refine ⟨_, c_X6_takeListed hsz h_q  ok.1, ?_⟩
          rintro _ rfl
          replace ok := ok.2
          have z := hq; rw [vl_X6_readList_s, if_neg kq0, if_pos kq1, if_pos kq2] at z; exact ih _ (v4 + (1 : Int32)) ok z
noncomputable def F_X6_readList (T : tT) (q : Nat)  : tT := (if ((F_X6_take ((F_X6_takeNewName T q).2) (61 : Int32)).1 3 1) = 0 then vl_X6_readList fu (F_X6_takeListed (F_X3_addList (F_X6_take ((F_X6_takeNewName T q).2) (61 : Int32)) q (F_X6_takeNewName T q).1) q) q (0 : Int32) else (F_X6_take ((F_X6_takeNewName T q).2) (61 : Int32)))
noncomputable def ok_X6_readList (sz : Nat) (T : tT) (q : Nat)  : Prop := (ok_X6_takeNewName sz T q ∧ (ok_X6_take sz ((F_X6_takeNewName T q).2) (61 : Int32) ∧ ((((F_X6_take ((F_X6_takeNewName T q).2) (61 : Int32)).1 3 1) = 0 → (ok_X3_addList sz (F_X6_take ((F_X6_takeNewName T q).2) (61 : Int32)) q (F_X6_takeNewName T q).1 ∧ (ok_X6_takeListed sz (F_X3_addList (F_X6_take ((F_X6_takeNewName T q).2) (61 : Int32)) q (F_X6_takeNewName T q).1) q ∧ okl_X6_readList fu sz (F_X6_takeListed (F_X3_addList (F_X6_take ((F_X6_takeNewName T q).2) (61 : Int32)) q (F_X6_takeNewName T q).1) q) q (0 : Int32)))) ∧ (¬ ((F_X6_take ((F_X6_takeNewName T q).2) (61 : Int32)).1 3 1) = 0 → True))))
set_option maxRecDepth 10000 in
theorem c_X6_readList {d L sz : Nat} {T : tT} (hsz : 161 ≤ sz) {q : Nat} (h_q : tgr sz q)  (ok : ok_X6_readList sz T q) : tvK (d + 4) mX6_readList [.ref 3, .ref q] L sz T (fun T' => T' = F_X6_readList T q) := by
  refine k_X6_readList hsz h_q  (fun X hX hR => ?_)
  unfold ok_X6_readList at ok
  refine ⟨_, c_X6_takeNewName hsz h_q  ok.1, ?_⟩
  rintro _ _ ⟨rfl, rfl⟩
  replace ok := ok.2
  refine ⟨_, c_X6_take hsz  (61 : Int32) ok.1, ?_⟩
  rintro _ rfl
  replace ok := ok.2
  refine ⟨fun kq0 => ?_, fun kq0 => ?_⟩
  · replace ok := ok.1 kq0
    refine ⟨_, c_X3_addList hsz h_q (F_X6_takeNewName T q).1 ok.1, ?_⟩
    rintro _ rfl
    replace ok := ok.2
    refine ⟨_, c_X6_takeListed hsz h_q  ok.1, ?_⟩
    rintro _ rfl
    replace ok := ok.2
    exact lj_X6_readList hX hsz h_q hR _ _ (0 : Int32) ok (by unfold F_X6_readList; first | (rw [if_pos kq0]; done) | (rw [if_pos kq0]; rfl))
  · replace ok := ok.2 kq0
    exact (by unfold F_X6_readList; first | (rw [if_neg kq0]; done) | (rw [if_neg kq0]; rfl))
noncomputable def vl_X10_canBeTaken : Nat → tT → Int32 → Int32 → Int32
  | 0, T, v1, v2 => 0
  | n + 1, T, v1, v2 => (if (T.1 79 1) ≤ v2 then (0 : Int32) else (if (v_X10_mayTake T v2 v1) = 0 then vl_X10_canBeTaken n T v1 (v2 + (1 : Int32)) else (1 : Int32)))
noncomputable def okl_X10_canBeTaken : Nat → Nat → tT → Int32 → Int32 → Prop
  | 0, _, T, v1, v2 => False
  | n + 1, sz, T, v1, v2 => (((T.1 79 1) ≤ v2 → True) ∧ (¬ (T.1 79 1) ≤ v2 → (ok_X10_mayTake sz T v2 v1 ∧ (((v_X10_mayTake T v2 v1) = 0 → okl_X10_canBeTaken n sz T v1 (v2 + (1 : Int32))) ∧ (¬ (v_X10_mayTake T v2 v1) = 0 → True)))))
theorem vl_X10_canBeTaken_s (n : Nat) (T : tT)  (v1 : Int32) (v2 : Int32) : vl_X10_canBeTaken (n + 1) T v1 v2 = (if (T.1 79 1) ≤ v2 then (0 : Int32) else (if (v_X10_mayTake T v2 v1) = 0 then vl_X10_canBeTaken n T v1 (v2 + (1 : Int32)) else (1 : Int32))) := rfl
set_option maxRecDepth 10000 in
theorem lj_X10_canBeTaken {X : ax_X} {d L sz : Nat} {Q : Int32 → tT → Prop} (hX : ax_ok X mX10_canBeTaken (d + 4)) (hsz : 161 ≤ sz) (hR : ax_Ret X mX10_canBeTaken (ti L sz Q)) : ∀ (n : Nat) (T : tT) (v1 : Int32) (v2 : Int32), okl_X10_canBeTaken n sz T v1 v2 → Q (vl_X10_canBeTaken n T v1 v2) T → ax_j X 2 [some (.ref 2), some (.int v1), some (.int v2)] [] (th L sz T) 0 0 := by
  intro n
  induction n with
  | zero => intro T v1 v2 ok; exact False.elim ok
  | succ n ih =>
    intro T v1 v2 ok hq
    refine s_X10_canBeTaken_2 hX hR hsz  v1 v2 ?_
    unfold okl_X10_canBeTaken at ok
    refine ⟨fun kq0 => ?_, fun kq0 => ?_⟩
    · replace ok := ok.1 kq0
      have z := hq; rw [vl_X10_canBeTaken_s, if_pos kq0] at z; exact z
    · replace ok := ok.2 kq0
      refine ⟨_, c_X10_mayTake hsz  v2 v1 ok.1, ?_⟩
      rintro _ _ ⟨rfl, rfl⟩
      replace ok := ok.2
      refine ⟨fun kq1 => ?_, fun kq1 => ?_⟩
      · replace ok := ok.1 kq1
        have z := hq; rw [vl_X10_canBeTaken_s, if_neg kq0, if_pos kq1] at z; exact ih _ v1 (v2 + (1 : Int32)) ok z
      · replace ok := ok.2 kq1
        have z := hq; rw [vl_X10_canBeTaken_s, if_neg kq0, if_neg kq1] at z; exact z
noncomputable def v_X10_canBeTaken (T : tT)  (x0 : Int32) : Int32 := vl_X10_canBeTaken fu T x0 (0 : Int32)
noncomputable def ok_X10_canBeTaken (sz : Nat) (T : tT)  (x0 : Int32) : Prop := okl_X10_canBeTaken fu sz T x0 (0 : Int32)
set_option maxRecDepth 10000 in
theorem c_X10_canBeTaken {d L sz : Nat} {T : tT} (hsz : 161 ≤ sz) (x0 : Int32) (ok : ok_X10_canBeTaken sz T x0) : tiK (d + 4) mX10_canBeTaken [.ref 2, .int x0] L sz T (fun r T' => r = v_X10_canBeTaken T x0 ∧ T = T') := by
  refine k_X10_canBeTaken hsz  x0 (fun X hX hR => ?_)
  unfold ok_X10_canBeTaken at ok
  exact lj_X10_canBeTaken hX hsz  hR _ _ x0 (0 : Int32) ok ⟨by unfold v_X10_canBeTaken; rfl, rfl⟩
noncomputable def vl_X10_stuck : Nat → tT → Int32 → Int32
  | 0, T, v1 => 0
  | n + 1, T, v1 => (if (T.1 79 2) ≤ v1 then (-1 : Int32) else (if (v_X10_canBeTaken T v1) = 0 then v1 else vl_X10_stuck n T (v1 + (1 : Int32))))
noncomputable def okl_X10_stuck : Nat → Nat → tT → Int32 → Prop
  | 0, _, T, v1 => False
  | n + 1, sz, T, v1 => (((T.1 79 2) ≤ v1 → True) ∧ (¬ (T.1 79 2) ≤ v1 → (ok_X10_canBeTaken sz T v1 ∧ ((¬ (v_X10_canBeTaken T v1) = 0 → okl_X10_stuck n sz T (v1 + (1 : Int32))) ∧ ((v_X10_canBeTaken T v1) = 0 → True)))))
theorem vl_X10_stuck_s (n : Nat) (T : tT)  (v1 : Int32) : vl_X10_stuck (n + 1) T v1 = (if (T.1 79 2) ≤ v1 then (-1 : Int32) else (if (v_X10_canBeTaken T v1) = 0 then v1 else vl_X10_stuck n T (v1 + (1 : Int32)))) := rfl
set_option maxRecDepth 10000 in
theorem lj_X10_stuck {X : ax_X} {d L sz : Nat} {Q : Int32 → tT → Prop} (hX : ax_ok X mX10_stuck (d + 5)) (hsz : 161 ≤ sz) (hR : ax_Ret X mX10_stuck (ti L sz Q)) : ∀ (n : Nat) (T : tT) (v1 : Int32), okl_X10_stuck n sz T v1 → Q (vl_X10_stuck n T v1) T → ax_j X 2 [some (.ref 2), some (.int v1)] [] (th L sz T) 0 0 := by
  intro n
  induction n with
  | zero => intro T v1 ok; exact False.elim ok
  | succ n ih =>
    intro T v1 ok hq
    refine s_X10_stuck_2 hX hR hsz  v1 ?_
    unfold okl_X10_stuck at ok
    refine ⟨fun kq0 => ?_, fun kq0 => ?_⟩
    · replace ok := ok.1 kq0
      have z := hq; rw [vl_X10_stuck_s, if_pos kq0] at z; exact z
    · replace ok := ok.2 kq0
      refine ⟨_, c_X10_canBeTaken hsz  v1 ok.1, ?_⟩
      rintro _ _ ⟨rfl, rfl⟩
      replace ok := ok.2
      refine ⟨fun kq1 => ?_, fun kq1 => ?_⟩
      · replace ok := ok.1 kq1
        have z := hq; rw [vl_X10_stuck_s, if_neg kq0, if_neg kq1] at z; exact ih _ (v1 + (1 : Int32)) ok z
      · replace ok := ok.2 kq1
        have z := hq; rw [vl_X10_stuck_s, if_neg kq0, if_pos kq1] at z; exact z
noncomputable def v_X10_stuck (T : tT)   : Int32 := vl_X10_stuck fu T (0 : Int32)
noncomputable def ok_X10_stuck (sz : Nat) (T : tT)   : Prop := okl_X10_stuck fu sz T (0 : Int32)
set_option maxRecDepth 10000 in
theorem c_X10_stuck {d L sz : Nat} {T : tT} (hsz : 161 ≤ sz)  (ok : ok_X10_stuck sz T) : tiK (d + 5) mX10_stuck [.ref 2] L sz T (fun r T' => r = v_X10_stuck T ∧ T = T') := by
  refine k_X10_stuck hsz   (fun X hX hR => ?_)
  unfold ok_X10_stuck at ok
  exact lj_X10_stuck hX hsz  hR _ _ (0 : Int32) ok ⟨by unfold v_X10_stuck; rfl, rfl⟩
