noncomputable def F_X6_readLeaf (rE : tT → Nat → Int32 → tT) (T : tT) (q : Nat) (x1 : Int32) : tT := (if (T.1 4 2) = (40 : Int32) then (F_X6_take (rE (F_X9_next T) q (x1 + (1 : Int32))) (41 : Int32)) else (if (v_X6_isLeaf T (T.1 4 2)) = 0 then (F_X6_refuse T) else (if (T.1 3 5) < (150 : Int32) then (F_X9_next (F_X6_addMeaning (tI T 3 5 ((T.1 3 5) + (1 : Int32))) q)) else (F_X6_refuse T))))
noncomputable def ok_X6_readLeaf (rE : tT → Nat → Int32 → tT) (okrE : Nat → tT → Nat → Int32 → Prop) (sz : Nat) (T : tT) (q : Nat) (x1 : Int32) : Prop := ((¬ (T.1 4 2) = (40 : Int32) → (((v_X6_isLeaf T (T.1 4 2)) = 0 → True) ∧ (¬ (v_X6_isLeaf T (T.1 4 2)) = 0 → (((T.1 3 5) < (150 : Int32) → (ok_X6_addMeaning sz (tI T 3 5 ((T.1 3 5) + (1 : Int32))) q ∧ (ok_X9_next sz (F_X6_addMeaning (tI T 3 5 ((T.1 3 5) + (1 : Int32))) q) ∧ True))) ∧ (¬ (T.1 3 5) < (150 : Int32) → True))))) ∧ ((T.1 4 2) = (40 : Int32) → (ok_X9_next sz T ∧ (okrE sz (F_X9_next T) q (x1 + (1 : Int32)) ∧ (ok_X6_take sz (rE (F_X9_next T) q (x1 + (1 : Int32))) (41 : Int32) ∧ True)))))
set_option maxRecDepth 10000 in
theorem c_X6_readLeaf {d L sz : Nat} {T : tT} {rE : tT → Nat → Int32 → tT} {okrE : Nat → tT → Nat → Int32 → Prop} (crE : ∀ (j : Nat) {L sz : Nat} {T : tT}, 161 ≤ sz → ∀ {q : Nat} (h_q : tgr sz q) (x1 : Int32), okrE sz T q x1 → tvK (d + 20 + j) mX6_readE [.ref 3, .ref q, .int x1] L sz T (fun T' => T' = rE T q x1)) (hsz : 161 ≤ sz) {q : Nat} (h_q : tgr sz q) (x1 : Int32) (ok : ok_X6_readLeaf rE okrE sz T q x1) : tvK (d + 21) mX6_readLeaf [.ref 3, .ref q, .int x1] L sz T (fun T' => T' = F_X6_readLeaf rE T q x1) := by
  refine k_X6_readLeaf hsz h_q x1 ?_
  unfold ok_X6_readLeaf at ok
  refine ⟨fun kq0 => ?_, fun kq0 => ?_⟩
  · replace ok := ok.1 kq0
    refine ⟨_, c_X6_isLeaf hsz  (T.1 4 2) , ?_⟩
    rintro _ _ ⟨rfl, rfl⟩
    refine ⟨fun kq1 => ?_, fun kq1 => ?_⟩
    · replace ok := ok.1 kq1
      refine ⟨_, c_X6_refuse hsz   , ?_⟩
      rintro _ rfl
      exact (by unfold F_X6_readLeaf; first | (rw [if_neg kq0, if_pos kq1]; done) | (rw [if_neg kq0, if_pos kq1]; rfl))
    · replace ok := ok.2 kq1
      refine ⟨fun kq2 => ?_, fun kq2 => ?_⟩
      · replace ok := ok.1 kq2
        refine ⟨_, c_X6_addMeaning hsz h_q  ok.1, ?_⟩
        rintro _ rfl
        replace ok := ok.2
        refine ⟨_, c_X9_next hsz   ok.1, ?_⟩
        rintro _ rfl
        replace ok := ok.2
        exact (by unfold F_X6_readLeaf; first | (rw [if_neg kq0, if_neg kq1, if_pos kq2]; done) | (rw [if_neg kq0, if_neg kq1, if_pos kq2]; rfl))
      · replace ok := ok.2 kq2
        refine ⟨_, c_X6_refuse hsz   , ?_⟩
        rintro _ rfl
        exact (by unfold F_X6_readLeaf; first | (rw [if_neg kq0, if_neg kq1, if_neg kq2]; done) | (rw [if_neg kq0, if_neg kq1, if_neg kq2]; rfl))
  · replace ok := ok.2 kq0
    refine ⟨_, c_X9_next hsz   ok.1, ?_⟩
    rintro _ rfl
    replace ok := ok.2
    refine ⟨_, crE 0 hsz h_q (x1 + (1 : Int32)) ok.1, ?_⟩
    rintro _ rfl
    replace ok := ok.2
    refine ⟨_, c_X6_take hsz  (41 : Int32) ok.1, ?_⟩
    rintro _ rfl
    replace ok := ok.2
    exact (by unfold F_X6_readLeaf; first | (rw [if_pos kq0]; done) | (rw [if_pos kq0]; rfl))
noncomputable def vl_X6_readSum (rE : tT → Nat → Int32 → tT) : Nat → tT → Nat → Int32 → Int32 → tT
  | 0, T, q, v2, v3 => T
  | n + 1, T, q, v2, v3 => (if (1400 : Int32) ≤ v3 then T else (if (T.1 3 1) = 0 then (if (T.1 4 2) = (43 : Int32) then (match ((F_X6_readLeaf rE (F_X9_next T) q v2).2.2 3 3) with | none => T | some p3 => vl_X6_readSum rE n (F_X8_addCell (F_X6_readLeaf rE (F_X9_next T) q v2) p3 (T.1 4 2) (0 : Int32)) q v2 (v3 + (1 : Int32))) else (if (T.1 4 2) = (45 : Int32) then (match ((F_X6_readLeaf rE (F_X9_next T) q v2).2.2 3 3) with | none => T | some p7 => vl_X6_readSum rE n (F_X8_addCell (F_X6_readLeaf rE (F_X9_next T) q v2) p7 (T.1 4 2) (0 : Int32)) q v2 (v3 + (1 : Int32))) else T)) else T))
noncomputable def okl_X6_readSum (rE : tT → Nat → Int32 → tT) (okrE : Nat → tT → Nat → Int32 → Prop) : Nat → Nat → tT → Nat → Int32 → Int32 → Prop
  | 0, _, T, q, v2, v3 => False
  | n + 1, sz, T, q, v2, v3 => (((1400 : Int32) ≤ v3 → True) ∧ (¬ (1400 : Int32) ≤ v3 → ((¬ (T.1 3 1) = 0 → True) ∧ ((T.1 3 1) = 0 → (((T.1 4 2) = (43 : Int32) → (ok_X9_next sz T ∧ (ok_X6_readLeaf rE okrE sz (F_X9_next T) q v2 ∧ ((((F_X6_readLeaf rE (F_X9_next T) q v2).2.2 3 3) = none → False) ∧ (∀ p3, ((F_X6_readLeaf rE (F_X9_next T) q v2).2.2 3 3) = some p3 → tsy sz p3 ∧ (ok_X8_addCell sz (F_X6_readLeaf rE (F_X9_next T) q v2) p3 (T.1 4 2) (0 : Int32) ∧ okl_X6_readSum rE okrE n sz (F_X8_addCell (F_X6_readLeaf rE (F_X9_next T) q v2) p3 (T.1 4 2) (0 : Int32)) q v2 (v3 + (1 : Int32)))))))) ∧ (¬ (T.1 4 2) = (43 : Int32) → (((T.1 4 2) = (45 : Int32) → (ok_X9_next sz T ∧ (ok_X6_readLeaf rE okrE sz (F_X9_next T) q v2 ∧ ((((F_X6_readLeaf rE (F_X9_next T) q v2).2.2 3 3) = none → False) ∧ (∀ p7, ((F_X6_readLeaf rE (F_X9_next T) q v2).2.2 3 3) = some p7 → tsy sz p7 ∧ (ok_X8_addCell sz (F_X6_readLeaf rE (F_X9_next T) q v2) p7 (T.1 4 2) (0 : Int32) ∧ okl_X6_readSum rE okrE n sz (F_X8_addCell (F_X6_readLeaf rE (F_X9_next T) q v2) p7 (T.1 4 2) (0 : Int32)) q v2 (v3 + (1 : Int32)))))))) ∧ (¬ (T.1 4 2) = (45 : Int32) → True))))))))
theorem vl_X6_readSum_s (rE : tT → Nat → Int32 → tT) (n : Nat) (T : tT) (q : Nat) (v2 : Int32) (v3 : Int32) : vl_X6_readSum rE (n + 1) T q v2 v3 = (if (1400 : Int32) ≤ v3 then T else (if (T.1 3 1) = 0 then (if (T.1 4 2) = (43 : Int32) then (match ((F_X6_readLeaf rE (F_X9_next T) q v2).2.2 3 3) with | none => T | some p3 => vl_X6_readSum rE n (F_X8_addCell (F_X6_readLeaf rE (F_X9_next T) q v2) p3 (T.1 4 2) (0 : Int32)) q v2 (v3 + (1 : Int32))) else (if (T.1 4 2) = (45 : Int32) then (match ((F_X6_readLeaf rE (F_X9_next T) q v2).2.2 3 3) with | none => T | some p7 => vl_X6_readSum rE n (F_X8_addCell (F_X6_readLeaf rE (F_X9_next T) q v2) p7 (T.1 4 2) (0 : Int32)) q v2 (v3 + (1 : Int32))) else T)) else T)) := rfl
set_option maxRecDepth 10000 in
theorem lj_X6_readSum {X : ax_X} {d L sz : Nat} {Q : tT → Prop} {rE : tT → Nat → Int32 → tT} {okrE : Nat → tT → Nat → Int32 → Prop} (crE : ∀ (j : Nat) {L sz : Nat} {T : tT}, 161 ≤ sz → ∀ {q : Nat} (h_q : tgr sz q) (x1 : Int32), okrE sz T q x1 → tvK (d + 20 + j) mX6_readE [.ref 3, .ref q, .int x1] L sz T (fun T' => T' = rE T q x1)) (hX : ax_ok X mX6_readSum (d + 22)) (hsz : 161 ≤ sz) {q : Nat} (h_q : tgr sz q) (hR : ax_Ret X mX6_readSum (tv L sz Q)) : ∀ (n : Nat) (T : tT) (v2 : Int32) (v3 : Int32), okl_X6_readSum rE okrE n sz T q v2 v3 → Q (vl_X6_readSum rE n T q v2 v3) → ax_j X 8 [some (.ref 3), some (.ref q), some (.int v2), some (.int v3), none] [] (th L sz T) 0 0 := by
  intro n
  induction n with
  | zero => intro T v2 v3 ok; exact False.elim ok
  | succ n ih =>
    intro T v2 v3 ok hq
    refine s_X6_readSum_8 hX hR hsz h_q v2 v3 ?_
    unfold okl_X6_readSum at ok
    refine ⟨fun kq0 => ?_, fun kq0 => ?_⟩
    · replace ok := ok.1 kq0
      have z := hq; rw [vl_X6_readSum_s, if_pos kq0] at z; exact z
    · replace ok := ok.2 kq0
      refine ⟨fun kq1 => ?_, fun kq1 => ?_⟩
      · replace ok := ok.1 kq1
        have z := hq; rw [vl_X6_readSum_s, if_neg kq0, if_neg kq1] at z; exact z
      · replace ok := ok.2 kq1
        refine ⟨fun kq2 => ?_, fun kq2 => ?_⟩
        · replace ok := ok.1 kq2
          refine ⟨_, c_X9_next hsz   ok.1, ?_⟩
          rintro _ rfl
          replace ok := ok.2
          refine ⟨_, c_X6_readLeaf crE hsz h_q v2 ok.1, ?_⟩
          rintro _ rfl
          replace ok := ok.2
          refine ⟨fun kq3 => ?_, fun p3 kq3 => ?_⟩
          · replace ok := ok.1 kq3
            exact ok.elim
          · obtain ⟨h_p3, ok⟩ := ok.2 p3 kq3
            refine ⟨h_p3, ?_⟩
            refine ⟨_, c_X8_addCell hsz h_p3 (T.1 4 2) (0 : Int32) ok.1, ?_⟩
            rintro _ rfl
            replace ok := ok.2
            have z := hq; rw [vl_X6_readSum_s] at z; simp only [if_neg kq0, if_pos kq1, if_pos kq2, kq3] at z; exact ih _ v2 (v3 + (1 : Int32)) ok z
        · replace ok := ok.2 kq2
          refine ⟨fun kq3 => ?_, fun kq3 => ?_⟩
          · replace ok := ok.1 kq3
            refine ⟨_, c_X9_next hsz   ok.1, ?_⟩
            rintro _ rfl
            replace ok := ok.2
            refine ⟨_, c_X6_readLeaf crE hsz h_q v2 ok.1, ?_⟩
            rintro _ rfl
            replace ok := ok.2
            refine ⟨fun kq4 => ?_, fun p7 kq4 => ?_⟩
            · replace ok := ok.1 kq4
              exact ok.elim
            · obtain ⟨h_p7, ok⟩ := ok.2 p7 kq4
              refine ⟨h_p7, ?_⟩
              refine ⟨_, c_X8_addCell hsz h_p7 (T.1 4 2) (0 : Int32) ok.1, ?_⟩
              rintro _ rfl
              replace ok := ok.2
              have z := hq; rw [vl_X6_readSum_s] at z; simp only [if_neg kq0, if_pos kq1, if_neg kq2, if_pos kq3, kq4] at z; exact ih _ v2 (v3 + (1 : Int32)) ok z
          · replace ok := ok.2 kq3
            have z := hq; rw [vl_X6_readSum_s, if_neg kq0, if_pos kq1, if_neg kq2, if_neg kq3] at z; exact z
noncomputable def F_X6_readSum (rE : tT → Nat → Int32 → tT) (T : tT) (q : Nat) (x1 : Int32) : tT := vl_X6_readSum rE fu (F_X6_readLeaf rE T q x1) q x1 (0 : Int32)
noncomputable def ok_X6_readSum (rE : tT → Nat → Int32 → tT) (okrE : Nat → tT → Nat → Int32 → Prop) (sz : Nat) (T : tT) (q : Nat) (x1 : Int32) : Prop := (ok_X6_readLeaf rE okrE sz T q x1 ∧ okl_X6_readSum rE okrE fu sz (F_X6_readLeaf rE T q x1) q x1 (0 : Int32))
set_option maxRecDepth 10000 in
theorem c_X6_readSum {d L sz : Nat} {T : tT} {rE : tT → Nat → Int32 → tT} {okrE : Nat → tT → Nat → Int32 → Prop} (crE : ∀ (j : Nat) {L sz : Nat} {T : tT}, 161 ≤ sz → ∀ {q : Nat} (h_q : tgr sz q) (x1 : Int32), okrE sz T q x1 → tvK (d + 20 + j) mX6_readE [.ref 3, .ref q, .int x1] L sz T (fun T' => T' = rE T q x1)) (hsz : 161 ≤ sz) {q : Nat} (h_q : tgr sz q) (x1 : Int32) (ok : ok_X6_readSum rE okrE sz T q x1) : tvK (d + 22) mX6_readSum [.ref 3, .ref q, .int x1] L sz T (fun T' => T' = F_X6_readSum rE T q x1) := by
  refine k_X6_readSum hsz h_q x1 (fun X hX hR => ?_)
  unfold ok_X6_readSum at ok
  refine ⟨_, c_X6_readLeaf crE hsz h_q x1 ok.1, ?_⟩
  rintro _ rfl
  replace ok := ok.2
  exact lj_X6_readSum crE hX hsz h_q hR _ _ x1 (0 : Int32) ok (by unfold F_X6_readSum; rfl)
noncomputable def F_X6_readCompared (rE : tT → Nat → Int32 → tT) (T : tT) (q : Nat) (x1 : Int32) : tT := (if ((F_X6_readSum rE T q x1).1 3 1) = 0 then (if ((F_X6_readSum rE T q x1).1 4 2) = (60 : Int32) then (match ((F_X6_readSum rE (F_X9_next (F_X6_readSum rE T q x1)) q x1).2.2 3 3) with | none => T | some p4 => (F_X8_addCell (F_X6_readSum rE (F_X9_next (F_X6_readSum rE T q x1)) q x1) p4 ((F_X6_readSum rE T q x1).1 4 2) (0 : Int32))) else (if ((F_X6_readSum rE T q x1).1 4 2) = (62 : Int32) then (match ((F_X6_readSum rE (F_X9_next (F_X6_readSum rE T q x1)) q x1).2.2 3 3) with | none => T | some p8 => (F_X8_addCell (F_X6_readSum rE (F_X9_next (F_X6_readSum rE T q x1)) q x1) p8 ((F_X6_readSum rE T q x1).1 4 2) (0 : Int32))) else (if ((F_X6_readSum rE T q x1).1 4 2) = (61 : Int32) then (match ((F_X6_readSum rE (F_X9_next (F_X6_readSum rE T q x1)) q x1).2.2 3 3) with | none => T | some p12 => (F_X8_addCell (F_X6_readSum rE (F_X9_next (F_X6_readSum rE T q x1)) q x1) p12 ((F_X6_readSum rE T q x1).1 4 2) (0 : Int32))) else (F_X6_readSum rE T q x1)))) else (F_X6_readSum rE T q x1))
noncomputable def ok_X6_readCompared (rE : tT → Nat → Int32 → tT) (okrE : Nat → tT → Nat → Int32 → Prop) (sz : Nat) (T : tT) (q : Nat) (x1 : Int32) : Prop := (ok_X6_readSum rE okrE sz T q x1 ∧ ((¬ ((F_X6_readSum rE T q x1).1 3 1) = 0 → True) ∧ (((F_X6_readSum rE T q x1).1 3 1) = 0 → ((((F_X6_readSum rE T q x1).1 4 2) = (60 : Int32) → (ok_X9_next sz (F_X6_readSum rE T q x1) ∧ (ok_X6_readSum rE okrE sz (F_X9_next (F_X6_readSum rE T q x1)) q x1 ∧ ((((F_X6_readSum rE (F_X9_next (F_X6_readSum rE T q x1)) q x1).2.2 3 3) = none → False) ∧ (∀ p4, ((F_X6_readSum rE (F_X9_next (F_X6_readSum rE T q x1)) q x1).2.2 3 3) = some p4 → tsy sz p4 ∧ (ok_X8_addCell sz (F_X6_readSum rE (F_X9_next (F_X6_readSum rE T q x1)) q x1) p4 ((F_X6_readSum rE T q x1).1 4 2) (0 : Int32) ∧ True)))))) ∧ (¬ ((F_X6_readSum rE T q x1).1 4 2) = (60 : Int32) → ((((F_X6_readSum rE T q x1).1 4 2) = (62 : Int32) → (ok_X9_next sz (F_X6_readSum rE T q x1) ∧ (ok_X6_readSum rE okrE sz (F_X9_next (F_X6_readSum rE T q x1)) q x1 ∧ ((((F_X6_readSum rE (F_X9_next (F_X6_readSum rE T q x1)) q x1).2.2 3 3) = none → False) ∧ (∀ p8, ((F_X6_readSum rE (F_X9_next (F_X6_readSum rE T q x1)) q x1).2.2 3 3) = some p8 → tsy sz p8 ∧ (ok_X8_addCell sz (F_X6_readSum rE (F_X9_next (F_X6_readSum rE T q x1)) q x1) p8 ((F_X6_readSum rE T q x1).1 4 2) (0 : Int32) ∧ True)))))) ∧ (¬ ((F_X6_readSum rE T q x1).1 4 2) = (62 : Int32) → ((¬ ((F_X6_readSum rE T q x1).1 4 2) = (61 : Int32) → True) ∧ (((F_X6_readSum rE T q x1).1 4 2) = (61 : Int32) → (ok_X9_next sz (F_X6_readSum rE T q x1) ∧ (ok_X6_readSum rE okrE sz (F_X9_next (F_X6_readSum rE T q x1)) q x1 ∧ ((((F_X6_readSum rE (F_X9_next (F_X6_readSum rE T q x1)) q x1).2.2 3 3) = none → False) ∧ (∀ p12, ((F_X6_readSum rE (F_X9_next (F_X6_readSum rE T q x1)) q x1).2.2 3 3) = some p12 → tsy sz p12 ∧ (ok_X8_addCell sz (F_X6_readSum rE (F_X9_next (F_X6_readSum rE T q x1)) q x1) p12 ((F_X6_readSum rE T q x1).1 4 2) (0 : Int32) ∧ True))))))))))))))
set_option maxRecDepth 10000 in
theorem c_X6_readCompared {d L sz : Nat} {T : tT} {rE : tT → Nat → Int32 → tT} {okrE : Nat → tT → Nat → Int32 → Prop} (crE : ∀ (j : Nat) {L sz : Nat} {T : tT}, 161 ≤ sz → ∀ {q : Nat} (h_q : tgr sz q) (x1 : Int32), okrE sz T q x1 → tvK (d + 20 + j) mX6_readE [.ref 3, .ref q, .int x1] L sz T (fun T' => T' = rE T q x1)) (hsz : 161 ≤ sz) {q : Nat} (h_q : tgr sz q) (x1 : Int32) (ok : ok_X6_readCompared rE okrE sz T q x1) : tvK (d + 23) mX6_readCompared [.ref 3, .ref q, .int x1] L sz T (fun T' => T' = F_X6_readCompared rE T q x1) := by
  refine k_X6_readCompared hsz h_q x1 ?_
  unfold ok_X6_readCompared at ok
  refine ⟨_, c_X6_readSum crE hsz h_q x1 ok.1, ?_⟩
  rintro _ rfl
  replace ok := ok.2
  refine ⟨fun kq0 => ?_, fun kq0 => ?_⟩
  · replace ok := ok.1 kq0
    exact (by unfold F_X6_readCompared; first | (rw [if_neg kq0]; done) | (rw [if_neg kq0]; rfl))
  · replace ok := ok.2 kq0
    refine ⟨fun kq1 => ?_, fun kq1 => ?_⟩
    · replace ok := ok.1 kq1
      refine ⟨_, c_X9_next hsz   ok.1, ?_⟩
      rintro _ rfl
      replace ok := ok.2
      refine ⟨_, c_X6_readSum crE hsz h_q x1 ok.1, ?_⟩
      rintro _ rfl
      replace ok := ok.2
      refine ⟨fun kq2 => ?_, fun p4 kq2 => ?_⟩
      · replace ok := ok.1 kq2
        exact ok.elim
      · obtain ⟨h_p4, ok⟩ := ok.2 p4 kq2
        refine ⟨h_p4, ?_⟩
        refine ⟨_, c_X8_addCell hsz h_p4 ((F_X6_readSum rE T q x1).1 4 2) (0 : Int32) ok.1, ?_⟩
        rintro _ rfl
        replace ok := ok.2
        exact (by unfold F_X6_readCompared; first | (simp only [if_pos kq0, if_pos kq1, kq2]; done) | (simp only [if_pos kq0, if_pos kq1, kq2]; rfl))
    · replace ok := ok.2 kq1
      refine ⟨fun kq2 => ?_, fun kq2 => ?_⟩
      · replace ok := ok.1 kq2
        refine ⟨_, c_X9_next hsz   ok.1, ?_⟩
        rintro _ rfl
        replace ok := ok.2
        refine ⟨_, c_X6_readSum crE hsz h_q x1 ok.1, ?_⟩
        rintro _ rfl
        replace ok := ok.2
        refine ⟨fun kq3 => ?_, fun p8 kq3 => ?_⟩
        · replace ok := ok.1 kq3
          exact ok.elim
        · obtain ⟨h_p8, ok⟩ := ok.2 p8 kq3
          refine ⟨h_p8, ?_⟩
          refine ⟨_, c_X8_addCell hsz h_p8 ((F_X6_readSum rE T q x1).1 4 2) (0 : Int32) ok.1, ?_⟩
          rintro _ rfl
          replace ok := ok.2
          exact (by unfold F_X6_readCompared; first | (simp only [if_pos kq0, if_neg kq1, if_pos kq2, kq3]; done) | (simp only [if_pos kq0, if_neg kq1, if_pos kq2, kq3]; rfl))
      · replace ok := ok.2 kq2
        refine ⟨fun kq3 => ?_, fun kq3 => ?_⟩
        · replace ok := ok.1 kq3
          exact (by unfold F_X6_readCompared; first | (rw [if_pos kq0, if_neg kq1, if_neg kq2, if_neg kq3]; done) | (rw [if_pos kq0, if_neg kq1, if_neg kq2, if_neg kq3]; rfl))
        · replace ok := ok.2 kq3
          refine ⟨_, c_X9_next hsz   ok.1, ?_⟩
          rintro _ rfl
          replace ok := ok.2
          refine ⟨_, c_X6_readSum crE hsz h_q x1 ok.1, ?_⟩
          rintro _ rfl
          replace ok := ok.2
          refine ⟨fun kq4 => ?_, fun p12 kq4 => ?_⟩
          · replace ok := ok.1 kq4
            exact ok.elim
          · obtain ⟨h_p12, ok⟩ := ok.2 p12 kq4
            refine ⟨h_p12, ?_⟩
            refine ⟨_, c_X8_addCell hsz h_p12 ((F_X6_readSum rE T q x1).1 4 2) (0 : Int32) ok.1, ?_⟩
            rintro _ rfl
            replace ok := ok.2
            exact (by unfold F_X6_readCompared; first | (simp only [if_pos kq0, if_neg kq1, if_neg kq2, if_pos kq3, kq4]; done) | (simp only [if_pos kq0, if_neg kq1, if_neg kq2, if_pos kq3, kq4]; rfl))
noncomputable def F_X6_readOne (rE : tT → Nat → Int32 → tT) (rO : tT → Nat → Int32 → tT) (T : tT) (q : Nat) (x1 : Int32) : tT := (if x1 < (8 : Int32) then (if (T.1 4 2) = (209 : Int32) then (match ((rO (F_X9_next T) q (x1 + (1 : Int32))).2.2 3 3) with | none => T | some p4 => (F_X8_addCell (rO (F_X9_next T) q (x1 + (1 : Int32))) p4 (209 : Int32) (0 : Int32))) else (F_X6_readCompared rE T q x1)) else (F_X6_refuse T))
noncomputable def ok_X6_readOne (rE : tT → Nat → Int32 → tT) (okrE : Nat → tT → Nat → Int32 → Prop) (rO : tT → Nat → Int32 → tT) (okrO : Nat → tT → Nat → Int32 → Prop) (sz : Nat) (T : tT) (q : Nat) (x1 : Int32) : Prop := ((x1 < (8 : Int32) → ((¬ (T.1 4 2) = (209 : Int32) → (ok_X6_readCompared rE okrE sz T q x1 ∧ True)) ∧ ((T.1 4 2) = (209 : Int32) → (ok_X9_next sz T ∧ (okrO sz (F_X9_next T) q (x1 + (1 : Int32)) ∧ ((((rO (F_X9_next T) q (x1 + (1 : Int32))).2.2 3 3) = none → False) ∧ (∀ p4, ((rO (F_X9_next T) q (x1 + (1 : Int32))).2.2 3 3) = some p4 → tsy sz p4 ∧ (ok_X8_addCell sz (rO (F_X9_next T) q (x1 + (1 : Int32))) p4 (209 : Int32) (0 : Int32) ∧ True)))))))) ∧ (¬ x1 < (8 : Int32) → True))
set_option maxRecDepth 10000 in
theorem c_X6_readOne {d L sz : Nat} {T : tT} {rE : tT → Nat → Int32 → tT} {okrE : Nat → tT → Nat → Int32 → Prop} (crE : ∀ (j : Nat) {L sz : Nat} {T : tT}, 161 ≤ sz → ∀ {q : Nat} (h_q : tgr sz q) (x1 : Int32), okrE sz T q x1 → tvK (d + 20 + j) mX6_readE [.ref 3, .ref q, .int x1] L sz T (fun T' => T' = rE T q x1)) {rO : tT → Nat → Int32 → tT} {okrO : Nat → tT → Nat → Int32 → Prop} (crO : ∀ (j : Nat) {L sz : Nat} {T : tT}, 161 ≤ sz → ∀ {q : Nat} (h_q : tgr sz q) (x1 : Int32), okrO sz T q x1 → tvK (d + 20 + j) mX6_readOne [.ref 3, .ref q, .int x1] L sz T (fun T' => T' = rO T q x1)) (hsz : 161 ≤ sz) {q : Nat} (h_q : tgr sz q) (x1 : Int32) (ok : ok_X6_readOne rE okrE rO okrO sz T q x1) : tvK (d + 24) mX6_readOne [.ref 3, .ref q, .int x1] L sz T (fun T' => T' = F_X6_readOne rE rO T q x1) := by
  refine k_X6_readOne hsz h_q x1 ?_
  unfold ok_X6_readOne at ok
  refine ⟨fun kq0 => ?_, fun kq0 => ?_⟩
  · replace ok := ok.1 kq0
    refine ⟨fun kq1 => ?_, fun kq1 => ?_⟩
    · replace ok := ok.1 kq1
      refine ⟨_, c_X6_readCompared crE hsz h_q x1 ok.1, ?_⟩
      rintro _ rfl
      replace ok := ok.2
      exact (by unfold F_X6_readOne; first | (rw [if_pos kq0, if_neg kq1]; done) | (rw [if_pos kq0, if_neg kq1]; rfl))
    · replace ok := ok.2 kq1
      refine ⟨_, c_X9_next hsz   ok.1, ?_⟩
      rintro _ rfl
      replace ok := ok.2
      refine ⟨_, crO 3 hsz h_q (x1 + (1 : Int32)) ok.1, ?_⟩
      rintro _ rfl
      replace ok := ok.2
      refine ⟨fun kq2 => ?_, fun p4 kq2 => ?_⟩
      · replace ok := ok.1 kq2
        exact ok.elim
      · obtain ⟨h_p4, ok⟩ := ok.2 p4 kq2
        refine ⟨h_p4, ?_⟩
        refine ⟨_, c_X8_addCell hsz h_p4 (209 : Int32) (0 : Int32) ok.1, ?_⟩
        rintro _ rfl
        replace ok := ok.2
        exact (by unfold F_X6_readOne; first | (simp only [if_pos kq0, if_pos kq1, kq2]; done) | (simp only [if_pos kq0, if_pos kq1, kq2]; rfl))
  · replace ok := ok.2 kq0
    refine ⟨_, c_X6_refuse hsz   , ?_⟩
    rintro _ rfl
    exact (by unfold F_X6_readOne; first | (rw [if_neg kq0]; done) | (rw [if_neg kq0]; rfl))
noncomputable def vl_X6_readBoth (rO : tT → Nat → Int32 → tT) : Nat → tT → Nat → Int32 → Int32 → tT
  | 0, T, q, v2, v3 => T
  | n + 1, T, q, v2, v3 => (if (1400 : Int32) ≤ v3 then T else (if (T.1 3 1) = 0 then (if (T.1 4 2) = (208 : Int32) then (match ((rO (F_X9_next T) q v2).2.2 3 3) with | none => T | some p3 => vl_X6_readBoth rO n (F_X8_addCell (rO (F_X9_next T) q v2) p3 (208 : Int32) (0 : Int32)) q v2 (v3 + (1 : Int32))) else T) else T))
noncomputable def okl_X6_readBoth (rO : tT → Nat → Int32 → tT) (okrO : Nat → tT → Nat → Int32 → Prop) : Nat → Nat → tT → Nat → Int32 → Int32 → Prop
  | 0, _, T, q, v2, v3 => False
  | n + 1, sz, T, q, v2, v3 => (((1400 : Int32) ≤ v3 → True) ∧ (¬ (1400 : Int32) ≤ v3 → ((¬ (T.1 3 1) = 0 → True) ∧ ((T.1 3 1) = 0 → ((¬ (T.1 4 2) = (208 : Int32) → True) ∧ ((T.1 4 2) = (208 : Int32) → (ok_X9_next sz T ∧ (okrO sz (F_X9_next T) q v2 ∧ ((((rO (F_X9_next T) q v2).2.2 3 3) = none → False) ∧ (∀ p3, ((rO (F_X9_next T) q v2).2.2 3 3) = some p3 → tsy sz p3 ∧ (ok_X8_addCell sz (rO (F_X9_next T) q v2) p3 (208 : Int32) (0 : Int32) ∧ okl_X6_readBoth rO okrO n sz (F_X8_addCell (rO (F_X9_next T) q v2) p3 (208 : Int32) (0 : Int32)) q v2 (v3 + (1 : Int32)))))))))))))
theorem vl_X6_readBoth_s (rO : tT → Nat → Int32 → tT) (n : Nat) (T : tT) (q : Nat) (v2 : Int32) (v3 : Int32) : vl_X6_readBoth rO (n + 1) T q v2 v3 = (if (1400 : Int32) ≤ v3 then T else (if (T.1 3 1) = 0 then (if (T.1 4 2) = (208 : Int32) then (match ((rO (F_X9_next T) q v2).2.2 3 3) with | none => T | some p3 => vl_X6_readBoth rO n (F_X8_addCell (rO (F_X9_next T) q v2) p3 (208 : Int32) (0 : Int32)) q v2 (v3 + (1 : Int32))) else T) else T)) := rfl
set_option maxRecDepth 10000 in
theorem lj_X6_readBoth {X : ax_X} {d L sz : Nat} {Q : tT → Prop} {rO : tT → Nat → Int32 → tT} {okrO : Nat → tT → Nat → Int32 → Prop} (crO : ∀ (j : Nat) {L sz : Nat} {T : tT}, 161 ≤ sz → ∀ {q : Nat} (h_q : tgr sz q) (x1 : Int32), okrO sz T q x1 → tvK (d + 20 + j) mX6_readOne [.ref 3, .ref q, .int x1] L sz T (fun T' => T' = rO T q x1)) (hX : ax_ok X mX6_readBoth (d + 21)) (hsz : 161 ≤ sz) {q : Nat} (h_q : tgr sz q) (hR : ax_Ret X mX6_readBoth (tv L sz Q)) : ∀ (n : Nat) (T : tT) (v2 : Int32) (v3 : Int32), okl_X6_readBoth rO okrO n sz T q v2 v3 → Q (vl_X6_readBoth rO n T q v2 v3) → ax_j X 8 [some (.ref 3), some (.ref q), some (.int v2), some (.int v3)] [] (th L sz T) 0 0 := by
  intro n
  induction n with
  | zero => intro T v2 v3 ok; exact False.elim ok
  | succ n ih =>
    intro T v2 v3 ok hq
    refine s_X6_readBoth_8 hX hR hsz h_q v2 v3 ?_
    unfold okl_X6_readBoth at ok
    refine ⟨fun kq0 => ?_, fun kq0 => ?_⟩
    · replace ok := ok.1 kq0
      have z := hq; rw [vl_X6_readBoth_s, if_pos kq0] at z; exact z
    · replace ok := ok.2 kq0
      refine ⟨fun kq1 => ?_, fun kq1 => ?_⟩
      · replace ok := ok.1 kq1
        have z := hq; rw [vl_X6_readBoth_s, if_neg kq0, if_neg kq1] at z; exact z
      · replace ok := ok.2 kq1
        refine ⟨fun kq2 => ?_, fun kq2 => ?_⟩
        · replace ok := ok.1 kq2
          have z := hq; rw [vl_X6_readBoth_s, if_neg kq0, if_pos kq1, if_neg kq2] at z; exact z
        · replace ok := ok.2 kq2
          refine ⟨_, c_X9_next hsz   ok.1, ?_⟩
          rintro _ rfl
          replace ok := ok.2
          refine ⟨_, crO 0 hsz h_q v2 ok.1, ?_⟩
          rintro _ rfl
          replace ok := ok.2
          refine ⟨fun kq3 => ?_, fun p3 kq3 => ?_⟩
          · replace ok := ok.1 kq3
            exact ok.elim
          · obtain ⟨h_p3, ok⟩ := ok.2 p3 kq3
            refine ⟨h_p3, ?_⟩
            refine ⟨_, c_X8_addCell hsz h_p3 (208 : Int32) (0 : Int32) ok.1, ?_⟩
            rintro _ rfl
            replace ok := ok.2
            have z := hq; rw [vl_X6_readBoth_s] at z; simp only [if_neg kq0, if_pos kq1, if_pos kq2, kq3] at z; exact ih _ v2 (v3 + (1 : Int32)) ok z
noncomputable def F_X6_readBoth (rO : tT → Nat → Int32 → tT) (T : tT) (q : Nat) (x1 : Int32) : tT := vl_X6_readBoth rO fu (rO T q x1) q x1 (0 : Int32)
noncomputable def ok_X6_readBoth (rO : tT → Nat → Int32 → tT) (okrO : Nat → tT → Nat → Int32 → Prop) (sz : Nat) (T : tT) (q : Nat) (x1 : Int32) : Prop := (okrO sz T q x1 ∧ okl_X6_readBoth rO okrO fu sz (rO T q x1) q x1 (0 : Int32))
set_option maxRecDepth 10000 in
theorem c_X6_readBoth {d L sz : Nat} {T : tT} {rO : tT → Nat → Int32 → tT} {okrO : Nat → tT → Nat → Int32 → Prop} (crO : ∀ (j : Nat) {L sz : Nat} {T : tT}, 161 ≤ sz → ∀ {q : Nat} (h_q : tgr sz q) (x1 : Int32), okrO sz T q x1 → tvK (d + 20 + j) mX6_readOne [.ref 3, .ref q, .int x1] L sz T (fun T' => T' = rO T q x1)) (hsz : 161 ≤ sz) {q : Nat} (h_q : tgr sz q) (x1 : Int32) (ok : ok_X6_readBoth rO okrO sz T q x1) : tvK (d + 21) mX6_readBoth [.ref 3, .ref q, .int x1] L sz T (fun T' => T' = F_X6_readBoth rO T q x1) := by
  refine k_X6_readBoth hsz h_q x1 (fun X hX hR => ?_)
  unfold ok_X6_readBoth at ok
  refine ⟨_, crO 0 hsz h_q x1 ok.1, ?_⟩
  rintro _ rfl
  replace ok := ok.2
  exact lj_X6_readBoth crO hX hsz h_q hR _ _ x1 (0 : Int32) ok (by unfold F_X6_readBoth; rfl)
noncomputable def vl_X6_readE (rO : tT → Nat → Int32 → tT) : Nat → tT → Nat → Int32 → Int32 → tT
  | 0, T, q, v2, v3 => T
  | n + 1, T, q, v2, v3 => (if (1400 : Int32) ≤ v3 then T else (if (T.1 3 1) = 0 then (if (T.1 4 2) = (207 : Int32) then (match ((F_X6_readBoth rO (F_X9_next T) q v2).2.2 3 3) with | none => T | some p3 => vl_X6_readE rO n (F_X8_addCell (F_X6_readBoth rO (F_X9_next T) q v2) p3 (207 : Int32) (0 : Int32)) q v2 (v3 + (1 : Int32))) else T) else T))
noncomputable def okl_X6_readE (rO : tT → Nat → Int32 → tT) (okrO : Nat → tT → Nat → Int32 → Prop) : Nat → Nat → tT → Nat → Int32 → Int32 → Prop
  | 0, _, T, q, v2, v3 => False
  | n + 1, sz, T, q, v2, v3 => (((1400 : Int32) ≤ v3 → True) ∧ (¬ (1400 : Int32) ≤ v3 → ((¬ (T.1 3 1) = 0 → True) ∧ ((T.1 3 1) = 0 → ((¬ (T.1 4 2) = (207 : Int32) → True) ∧ ((T.1 4 2) = (207 : Int32) → (ok_X9_next sz T ∧ (ok_X6_readBoth rO okrO sz (F_X9_next T) q v2 ∧ ((((F_X6_readBoth rO (F_X9_next T) q v2).2.2 3 3) = none → False) ∧ (∀ p3, ((F_X6_readBoth rO (F_X9_next T) q v2).2.2 3 3) = some p3 → tsy sz p3 ∧ (ok_X8_addCell sz (F_X6_readBoth rO (F_X9_next T) q v2) p3 (207 : Int32) (0 : Int32) ∧ okl_X6_readE rO okrO n sz (F_X8_addCell (F_X6_readBoth rO (F_X9_next T) q v2) p3 (207 : Int32) (0 : Int32)) q v2 (v3 + (1 : Int32)))))))))))))
theorem vl_X6_readE_s (rO : tT → Nat → Int32 → tT) (n : Nat) (T : tT) (q : Nat) (v2 : Int32) (v3 : Int32) : vl_X6_readE rO (n + 1) T q v2 v3 = (if (1400 : Int32) ≤ v3 then T else (if (T.1 3 1) = 0 then (if (T.1 4 2) = (207 : Int32) then (match ((F_X6_readBoth rO (F_X9_next T) q v2).2.2 3 3) with | none => T | some p3 => vl_X6_readE rO n (F_X8_addCell (F_X6_readBoth rO (F_X9_next T) q v2) p3 (207 : Int32) (0 : Int32)) q v2 (v3 + (1 : Int32))) else T) else T)) := rfl
set_option maxRecDepth 10000 in
theorem lj_X6_readE {X : ax_X} {d L sz : Nat} {Q : tT → Prop} {rO : tT → Nat → Int32 → tT} {okrO : Nat → tT → Nat → Int32 → Prop} (crO : ∀ (j : Nat) {L sz : Nat} {T : tT}, 161 ≤ sz → ∀ {q : Nat} (h_q : tgr sz q) (x1 : Int32), okrO sz T q x1 → tvK (d + 20 + j) mX6_readOne [.ref 3, .ref q, .int x1] L sz T (fun T' => T' = rO T q x1)) (hX : ax_ok X mX6_readE (d + 22)) (hsz : 161 ≤ sz) {q : Nat} (h_q : tgr sz q) (hR : ax_Ret X mX6_readE (tv L sz Q)) : ∀ (n : Nat) (T : tT) (v2 : Int32) (v3 : Int32), okl_X6_readE rO okrO n sz T q v2 v3 → Q (vl_X6_readE rO n T q v2 v3) → ax_j X 8 [some (.ref 3), some (.ref q), some (.int v2), some (.int v3)] [] (th L sz T) 0 0 := by
  intro n
  induction n with
  | zero => intro T v2 v3 ok; exact False.elim ok
  | succ n ih =>
    intro T v2 v3 ok hq
    refine s_X6_readE_8 hX hR hsz h_q v2 v3 ?_
    unfold okl_X6_readE at ok
    refine ⟨fun kq0 => ?_, fun kq0 => ?_⟩
    · replace ok := ok.1 kq0
      have z := hq; rw [vl_X6_readE_s, if_pos kq0] at z; exact z
    · replace ok := ok.2 kq0
      refine ⟨fun kq1 => ?_, fun kq1 => ?_⟩
      · replace ok := ok.1 kq1
        have z := hq; rw [vl_X6_readE_s, if_neg kq0, if_neg kq1] at z; exact z
      · replace ok := ok.2 kq1
        refine ⟨fun kq2 => ?_, fun kq2 => ?_⟩
        · replace ok := ok.1 kq2
          have z := hq; rw [vl_X6_readE_s, if_neg kq0, if_pos kq1, if_neg kq2] at z; exact z
        · replace ok := ok.2 kq2
          refine ⟨_, c_X9_next hsz   ok.1, ?_⟩
          rintro _ rfl
          replace ok := ok.2
          refine ⟨_, c_X6_readBoth crO hsz h_q v2 ok.1, ?_⟩
          rintro _ rfl
          replace ok := ok.2
          refine ⟨fun kq3 => ?_, fun p3 kq3 => ?_⟩
          · replace ok := ok.1 kq3
            exact ok.elim
          · obtain ⟨h_p3, ok⟩ := ok.2 p3 kq3
            refine ⟨h_p3, ?_⟩
            refine ⟨_, c_X8_addCell hsz h_p3 (207 : Int32) (0 : Int32) ok.1, ?_⟩
            rintro _ rfl
            replace ok := ok.2
            have z := hq; rw [vl_X6_readE_s] at z; simp only [if_neg kq0, if_pos kq1, if_pos kq2, kq3] at z; exact ih _ v2 (v3 + (1 : Int32)) ok z
noncomputable def F_X6_readE (rO : tT → Nat → Int32 → tT) (T : tT) (q : Nat) (x1 : Int32) : tT := vl_X6_readE rO fu (F_X6_readBoth rO T q x1) q x1 (0 : Int32)
noncomputable def ok_X6_readE (rO : tT → Nat → Int32 → tT) (okrO : Nat → tT → Nat → Int32 → Prop) (sz : Nat) (T : tT) (q : Nat) (x1 : Int32) : Prop := (ok_X6_readBoth rO okrO sz T q x1 ∧ okl_X6_readE rO okrO fu sz (F_X6_readBoth rO T q x1) q x1 (0 : Int32))
set_option maxRecDepth 10000 in
theorem c_X6_readE {d L sz : Nat} {T : tT} {rO : tT → Nat → Int32 → tT} {okrO : Nat → tT → Nat → Int32 → Prop} (crO : ∀ (j : Nat) {L sz : Nat} {T : tT}, 161 ≤ sz → ∀ {q : Nat} (h_q : tgr sz q) (x1 : Int32), okrO sz T q x1 → tvK (d + 20 + j) mX6_readOne [.ref 3, .ref q, .int x1] L sz T (fun T' => T' = rO T q x1)) (hsz : 161 ≤ sz) {q : Nat} (h_q : tgr sz q) (x1 : Int32) (ok : ok_X6_readE rO okrO sz T q x1) : tvK (d + 22) mX6_readE [.ref 3, .ref q, .int x1] L sz T (fun T' => T' = F_X6_readE rO T q x1) := by
  refine k_X6_readE hsz h_q x1 (fun X hX hR => ?_)
  unfold ok_X6_readE at ok
  refine ⟨_, c_X6_readBoth crO hsz h_q x1 ok.1, ?_⟩
  rintro _ rfl
  replace ok := ok.2
  exact lj_X6_readE crO hX hsz h_q hR _ _ x1 (0 : Int32) ok (by unfold F_X6_readE; rfl)
noncomputable def vl_X7_giveDay (rG : tT → Int32 → Int32 → Int32 → Int64 → tT) : Nat → tT → Int32 → Int32 → Int32 → Int64 → Int32 → Int32 → tT
  | 0, T, v2, v3, v4, v5, v7, v8 => T
  | n + 1, T, v2, v3, v4, v5, v7, v8 => (if (T.1 79 1) ≤ v8 then T else (if (v_X7_placeOf T v4 v8) = 0 then (if (T.1 87 ((v7 * (5 : Int32)) + v8).toNatClampNeg) = 0 then vl_X7_giveDay rG n T v2 v3 v4 v5 v7 (v8 + (1 : Int32)) else vl_X7_giveDay rG n (rG T (v2 + (1 : Int32)) v3 (v4 ||| (((T.1 82 (v7.toNatClampNeg)) + (1 : Int32)) <<< (((4 : Int32) * v8) &&& 31))) (v5 + (v_X7_costOf T v8 v7))) v2 v3 v4 v5 v7 (v8 + (1 : Int32))) else vl_X7_giveDay rG n T v2 v3 v4 v5 v7 (v8 + (1 : Int32))))
noncomputable def okl_X7_giveDay (rG : tT → Int32 → Int32 → Int32 → Int64 → tT) (okrG : Nat → tT → Int32 → Int32 → Int32 → Int64 → Prop) : Nat → Nat → tT → Int32 → Int32 → Int32 → Int64 → Int32 → Int32 → Prop
  | 0, _, T, v2, v3, v4, v5, v7, v8 => False
  | n + 1, sz, T, v2, v3, v4, v5, v7, v8 => (((T.1 79 1) ≤ v8 → True) ∧ (¬ (T.1 79 1) ≤ v8 → ((¬ (v_X7_placeOf T v4 v8) = 0 → okl_X7_giveDay rG okrG n sz T v2 v3 v4 v5 v7 (v8 + (1 : Int32))) ∧ ((v_X7_placeOf T v4 v8) = 0 → (vp_in ((v7 * (5 : Int32)) + v8) 45 ∧ (((T.1 87 ((v7 * (5 : Int32)) + v8).toNatClampNeg) = 0 → okl_X7_giveDay rG okrG n sz T v2 v3 v4 v5 v7 (v8 + (1 : Int32))) ∧ (¬ (T.1 87 ((v7 * (5 : Int32)) + v8).toNatClampNeg) = 0 → (vp_in v7 9 ∧ (ok_X7_costOf sz T v8 v7 ∧ (okrG sz T (v2 + (1 : Int32)) v3 (v4 ||| (((T.1 82 (v7.toNatClampNeg)) + (1 : Int32)) <<< (((4 : Int32) * v8) &&& 31))) (v5 + (v_X7_costOf T v8 v7)) ∧ okl_X7_giveDay rG okrG n sz (rG T (v2 + (1 : Int32)) v3 (v4 ||| (((T.1 82 (v7.toNatClampNeg)) + (1 : Int32)) <<< (((4 : Int32) * v8) &&& 31))) (v5 + (v_X7_costOf T v8 v7))) v2 v3 v4 v5 v7 (v8 + (1 : Int32))))))))))))
theorem vl_X7_giveDay_s (rG : tT → Int32 → Int32 → Int32 → Int64 → tT) (n : Nat) (T : tT)  (v2 : Int32) (v3 : Int32) (v4 : Int32) (v5 : Int64) (v7 : Int32) (v8 : Int32) : vl_X7_giveDay rG (n + 1) T v2 v3 v4 v5 v7 v8 = (if (T.1 79 1) ≤ v8 then T else (if (v_X7_placeOf T v4 v8) = 0 then (if (T.1 87 ((v7 * (5 : Int32)) + v8).toNatClampNeg) = 0 then vl_X7_giveDay rG n T v2 v3 v4 v5 v7 (v8 + (1 : Int32)) else vl_X7_giveDay rG n (rG T (v2 + (1 : Int32)) v3 (v4 ||| (((T.1 82 (v7.toNatClampNeg)) + (1 : Int32)) <<< (((4 : Int32) * v8) &&& 31))) (v5 + (v_X7_costOf T v8 v7))) v2 v3 v4 v5 v7 (v8 + (1 : Int32))) else vl_X7_giveDay rG n T v2 v3 v4 v5 v7 (v8 + (1 : Int32)))) := rfl
set_option maxRecDepth 10000 in
theorem lj_X7_giveDay {X : ax_X} {d L sz : Nat} {Q : tT → Prop} {rG : tT → Int32 → Int32 → Int32 → Int64 → tT} {okrG : Nat → tT → Int32 → Int32 → Int32 → Int64 → Prop} (crG : ∀ (j : Nat) {L sz : Nat} {T : tT}, 161 ≤ sz → ∀ (x1 x2 x3 : Int32) (x4 : Int64), okrG sz T x1 x2 x3 x4 → tvK (d + 20 + j) mX7_giveDay [.ref 85, .ref 79, .int x1, .int x2, .int x3, .long x4] L sz T (fun T' => T' = rG T x1 x2 x3 x4)) (hX : ax_ok X mX7_giveDay (d + 21)) (hsz : 161 ≤ sz) (hR : ax_Ret X mX7_giveDay (tv L sz Q)) : ∀ (n : Nat) (T : tT) (v2 : Int32) (v3 : Int32) (v4 : Int32) (v5 : Int64) (v7 : Int32) (v8 : Int32), okl_X7_giveDay rG okrG n sz T v2 v3 v4 v5 v7 v8 → Q (vl_X7_giveDay rG n T v2 v3 v4 v5 v7 v8) → ax_j X 44 [some (.ref 85), some (.ref 79), some (.int v2), some (.int v3), some (.int v4), some (.long v5), none, some (.int v7), some (.int v8), none, none, none, none] [] (th L sz T) 0 0 := by
  intro n
  induction n with
  | zero => intro T v2 v3 v4 v5 v7 v8 ok; exact False.elim ok
  | succ n ih =>
    intro T v2 v3 v4 v5 v7 v8 ok hq
    refine s_X7_giveDay_44 hX hR hsz  v2 v3 v4 v5 v7 v8 ?_
    unfold okl_X7_giveDay at ok
    refine ⟨fun kq0 => ?_, fun kq0 => ?_⟩
    · replace ok := ok.1 kq0
      have z := hq; rw [vl_X7_giveDay_s, if_pos kq0] at z; exact z
    · replace ok := ok.2 kq0
      refine ⟨_, c_X7_placeOf hsz  v4 v8 , ?_⟩
      rintro _ _ ⟨rfl, rfl⟩
      refine ⟨fun kq1 => ?_, fun kq1 => ?_⟩
      · replace ok := ok.1 kq1
        have z := hq; rw [vl_X7_giveDay_s, if_neg kq0, if_neg kq1] at z; exact ih _ v2 v3 v4 v5 v7 (v8 + (1 : Int32)) ok z
      · replace ok := ok.2 kq1
        refine ⟨ok.1, ?_⟩
        replace ok := ok.2
        refine ⟨fun kq2 => ?_, fun kq2 => ?_⟩
        · replace ok := ok.1 kq2
          have z := hq; rw [vl_X7_giveDay_s, if_neg kq0, if_pos kq1, if_pos kq2] at z; exact ih _ v2 v3 v4 v5 v7 (v8 + (1 : Int32)) ok z
        · replace ok := ok.2 kq2
          refine ⟨ok.1, ?_⟩
          replace ok := ok.2
          refine ⟨_, c_X7_costOf hsz  v8 v7 ok.1, ?_⟩
          rintro _ _ ⟨rfl, rfl⟩
          replace ok := ok.2
          refine ⟨_, crG 0 hsz  (v2 + (1 : Int32)) v3 (v4 ||| (((T.1 82 (v7.toNatClampNeg)) + (1 : Int32)) <<< (((4 : Int32) * v8) &&& 31))) (v5 + (v_X7_costOf T v8 v7)) ok.1, ?_⟩
          rintro _ rfl
          replace ok := ok.2
          have z := hq; rw [vl_X7_giveDay_s, if_neg kq0, if_pos kq1, if_neg kq2] at z; exact ih _ v2 v3 v4 v5 v7 (v8 + (1 : Int32)) ok z
noncomputable def F_X7_giveDay (rG : tT → Int32 → Int32 → Int32 → Int64 → tT) (T : tT)  (x1 : Int32) (x2 : Int32) (x3 : Int32) (x4 : Int64) : tT := (if (T.1 79 2) ≤ x1 then (F_X7_addState T x3 x4) else (if (T.1 83 (T.1 88 (x1.toNatClampNeg)).toNatClampNeg) = x2 then vl_X7_giveDay rG fu T x1 x2 x3 x4 (T.1 88 (x1.toNatClampNeg)) (0 : Int32) else (F_X7_addState T x3 x4)))
noncomputable def ok_X7_giveDay (rG : tT → Int32 → Int32 → Int32 → Int64 → tT) (okrG : Nat → tT → Int32 → Int32 → Int32 → Int64 → Prop) (sz : Nat) (T : tT)  (x1 : Int32) (x2 : Int32) (x3 : Int32) (x4 : Int64) : Prop := (((T.1 79 2) ≤ x1 → (ok_X7_addState sz T x3 x4 ∧ True)) ∧ (¬ (T.1 79 2) ≤ x1 → (vp_in x1 9 ∧ (vp_in (T.1 88 (x1.toNatClampNeg)) 9 ∧ (((T.1 83 (T.1 88 (x1.toNatClampNeg)).toNatClampNeg) = x2 → (vp_in x1 9 ∧ okl_X7_giveDay rG okrG fu sz T x1 x2 x3 x4 (T.1 88 (x1.toNatClampNeg)) (0 : Int32))) ∧ (¬ (T.1 83 (T.1 88 (x1.toNatClampNeg)).toNatClampNeg) = x2 → (ok_X7_addState sz T x3 x4 ∧ True)))))))
set_option maxRecDepth 10000 in
theorem c_X7_giveDay {d L sz : Nat} {T : tT} {rG : tT → Int32 → Int32 → Int32 → Int64 → tT} {okrG : Nat → tT → Int32 → Int32 → Int32 → Int64 → Prop} (crG : ∀ (j : Nat) {L sz : Nat} {T : tT}, 161 ≤ sz → ∀ (x1 x2 x3 : Int32) (x4 : Int64), okrG sz T x1 x2 x3 x4 → tvK (d + 20 + j) mX7_giveDay [.ref 85, .ref 79, .int x1, .int x2, .int x3, .long x4] L sz T (fun T' => T' = rG T x1 x2 x3 x4)) (hsz : 161 ≤ sz) (x1 : Int32) (x2 : Int32) (x3 : Int32) (x4 : Int64) (ok : ok_X7_giveDay rG okrG sz T x1 x2 x3 x4) : tvK (d + 21) mX7_giveDay [.ref 85, .ref 79, .int x1, .int x2, .int x3, .long x4] L sz T (fun T' => T' = F_X7_giveDay rG T x1 x2 x3 x4) := by
  refine k_X7_giveDay hsz  x1 x2 x3 x4 (fun X hX hR => ?_)
  unfold ok_X7_giveDay at ok
  refine ⟨fun kq0 => ?_, fun kq0 => ?_⟩
  · replace ok := ok.1 kq0
    refine ⟨_, c_X7_addState hsz  x3 x4 ok.1, ?_⟩
    rintro _ rfl
    replace ok := ok.2
    exact (by unfold F_X7_giveDay; first | (rw [if_pos kq0]; done) | (rw [if_pos kq0]; rfl))
  · replace ok := ok.2 kq0
    refine ⟨ok.1, ?_⟩
    replace ok := ok.2
    refine ⟨ok.1, ?_⟩
    replace ok := ok.2
    refine ⟨fun kq1 => ?_, fun kq1 => ?_⟩
    · replace ok := ok.1 kq1
      refine ⟨ok.1, ?_⟩
      replace ok := ok.2
      exact lj_X7_giveDay crG hX hsz  hR _ _ x1 x2 x3 x4 (T.1 88 (x1.toNatClampNeg)) (0 : Int32) ok (by unfold F_X7_giveDay; first | (rw [if_neg kq0, if_pos kq1]; done) | (rw [if_neg kq0, if_pos kq1]; rfl))
    · replace ok := ok.2 kq1
      refine ⟨_, c_X7_addState hsz  x3 x4 ok.1, ?_⟩
      rintro _ rfl
      replace ok := ok.2
      exact (by unfold F_X7_giveDay; first | (rw [if_neg kq0, if_neg kq1]; done) | (rw [if_neg kq0, if_neg kq1]; rfl))
/-- readOne and readE by depth -/
noncomputable def Oc : Nat → tT → Nat → Int32 → tT
  | 0 => fun T _ _ => T
  | n + 1 => F_X6_readOne (F_X6_readE (Oc n)) (Oc n)
noncomputable def okOc : Nat → Nat → tT → Nat → Int32 → Prop
  | 0 => fun _ _ _ _ => False
  | n + 1 => ok_X6_readOne (F_X6_readE (Oc n)) (ok_X6_readE (Oc n) (okOc n)) (Oc n) (okOc n)
theorem cOc : ∀ (n d : Nat) {L sz : Nat} {T : tT}, 161 ≤ sz → ∀ {q : Nat} (h_q : tgr sz q) (x1 : Int32), okOc n sz T q x1 → tvK (d + 40 * n + 20) mX6_readOne [.ref 3, .ref q, .int x1] L sz T (fun T' => T' = Oc n T q x1) := by
  intro n
  induction n with
  | zero => intro d L sz T hsz q h_q x1 ok; exact False.elim ok
  | succ n ih =>
    intro d L sz T hsz q h_q x1 ok
    have h := c_X6_readOne (d := d + 40 * n + 36) (rE := F_X6_readE (Oc n)) (okrE := ok_X6_readE (Oc n) (okOc n)) (rO := Oc n) (okrO := okOc n) (fun j {L2 sz2 T2} hsz2 {q2} h_q2 x2 ok2 => by
      have h2 := c_X6_readE (d := d + 40 * n + j + 34) (L := L2) (rO := Oc n) (okrO := okOc n) (fun i {L3 sz3 T3} hsz3 {q3} h_q3 x3 ok3 => by
        have h3 := @ih (d + i + j + 34) L3 sz3 T3 hsz3 q3 h_q3 x3 ok3
        rwa [show d + i + j + 34 + 40 * n + 20 = d + 40 * n + j + 34 + 20 + i by omega] at h3) hsz2 h_q2 x2 ok2
      rwa [show d + 40 * n + j + 34 + 22 = d + 40 * n + 36 + 20 + j by omega] at h2) (fun j {L2 sz2 T2} hsz2 {q2} h_q2 x2 ok2 => by
      have h3 := @ih (d + j + 36) L2 sz2 T2 hsz2 q2 h_q2 x2 ok2
      rwa [show d + j + 36 + 40 * n + 20 = d + 40 * n + 36 + 20 + j by omega] at h3) hsz h_q x1 ok (L := L)
    rwa [show d + 40 * n + 36 + 24 = d + 40 * (n + 1) + 20 by omega] at h
noncomputable def Fc_readE : tT → Nat → Int32 → tT := F_X6_readE (Oc 9)
noncomputable def okc_readE : Nat → tT → Nat → Int32 → Prop := ok_X6_readE (Oc 9) (okOc 9)
theorem cc_readE {d L sz : Nat} {T : tT} (hsz : 161 ≤ sz) {q : Nat} (h_q : tgr sz q) (x1 : Int32) (ok : okc_readE sz T q x1) : tvK (d + 382) mX6_readE [.ref 3, .ref q, .int x1] L sz T (fun T' => T' = Fc_readE T q x1) := by
  have h2 := c_X6_readE (d := d + 360) (rO := Oc 9) (okrO := okOc 9) (fun j {L3 sz3 T3} hsz3 {q3} h_q3 x3 ok3 => by
    have h3 := cOc 9 (d + j) (L := L3) hsz3 h_q3 x3 ok3
    rwa [show d + j + 40 * 9 + 20 = d + 360 + 20 + j by omega] at h3) hsz h_q x1 ok (L := L)
  exact h2
/-- giveDay by depth -/
noncomputable def Gc : Nat → tT → Int32 → Int32 → Int32 → Int64 → tT
  | 0 => fun T _ _ _ _ => T
  | n + 1 => F_X7_giveDay (Gc n)
noncomputable def okGc : Nat → Nat → tT → Int32 → Int32 → Int32 → Int64 → Prop
  | 0 => fun _ _ _ _ _ _ => False
  | n + 1 => ok_X7_giveDay (Gc n) (okGc n)
theorem cGc : ∀ (n d : Nat) {L sz : Nat} {T : tT}, 161 ≤ sz → ∀ (x1 x2 x3 : Int32) (x4 : Int64), okGc n sz T x1 x2 x3 x4 → tvK (d + 40 * n + 20) mX7_giveDay [.ref 85, .ref 79, .int x1, .int x2, .int x3, .long x4] L sz T (fun T' => T' = Gc n T x1 x2 x3 x4) := by
  intro n
  induction n with
  | zero => intro d L sz T hsz x1 x2 x3 x4 ok; exact False.elim ok
  | succ n ih =>
    intro d L sz T hsz x1 x2 x3 x4 ok
    have h := c_X7_giveDay (d := d + 40 * n + 39) (rG := Gc n) (okrG := okGc n) (fun j {L2 sz2 T2} hsz2 y1 y2 y3 y4 ok2 => by
      have h3 := @ih (d + j + 39) L2 sz2 T2 hsz2 y1 y2 y3 y4 ok2
      rwa [show d + j + 39 + 40 * n + 20 = d + 40 * n + 39 + 20 + j by omega] at h3) hsz x1 x2 x3 x4 ok (L := L)
    rwa [show d + 40 * n + 39 + 21 = d + 40 * (n + 1) + 20 by omega] at h
noncomputable def Fc_giveDay : tT → Int32 → Int32 → Int32 → Int64 → tT := Gc 10
noncomputable def okc_giveDay : Nat → tT → Int32 → Int32 → Int32 → Int64 → Prop := okGc 10
theorem cc_giveDay {d L sz : Nat} {T : tT} (hsz : 161 ≤ sz) (x1 x2 x3 : Int32) (x4 : Int64) (ok : okc_giveDay sz T x1 x2 x3 x4) : tvK (d + 420) mX7_giveDay [.ref 85, .ref 79, .int x1, .int x2, .int x3, .long x4] L sz T (fun T' => T' = Fc_giveDay T x1 x2 x3 x4) := cGc 10 d hsz x1 x2 x3 x4 ok
noncomputable def F_X6_readItem (T : tT) (q : Nat)  : tT := (if (v_X6_cannotStartItem T q) = 0 then (if (T.1 4 2) = 201 then (F_X6_take (F_X6_readList (F_X9_next T) q) (59 : Int32)) else (if (T.1 4 2) = 202 then (F_X6_take (F_X6_readPart (F_X9_next T) q) (59 : Int32)) else (if (T.1 4 2) = 203 then (F_X6_take (tI (F_X6_takeNumber (F_X9_next T) (1 : Int32) (120 : Int32)).2 q 4 (F_X6_takeNumber (F_X9_next T) (1 : Int32) (120 : Int32)).1) (59 : Int32)) else (match ((F_X9_next T).2.2 3 3) with | none => T | some p9 => (if (T.1 4 2) = (204 : Int32) then (match ((Fc_readE (tI (F_X3_addRule (F_X9_next T) q (T.1 4 2) ((F_X9_next T).1 p9 3)) 3 4 (1 : Int32)) q (0 : Int32)).2.2 3 3) with | none => T | some p16 => (F_X6_take (F_X8_addCell (Fc_readE (tI (F_X3_addRule (F_X9_next T) q (T.1 4 2) ((F_X9_next T).1 p9 3)) 3 4 (1 : Int32)) q (0 : Int32)) p16 (59 : Int32) (0 : Int32)) (59 : Int32))) else (match ((Fc_readE (tI (F_X3_addRule (F_X9_next T) q (T.1 4 2) ((F_X9_next T).1 p9 3)) 3 4 (0 : Int32)) q (0 : Int32)).2.2 3 3) with | none => T | some p12 => (F_X6_take (F_X8_addCell (Fc_readE (tI (F_X3_addRule (F_X9_next T) q (T.1 4 2) ((F_X9_next T).1 p9 3)) 3 4 (0 : Int32)) q (0 : Int32)) p12 (59 : Int32) (0 : Int32)) (59 : Int32)))))))) else (F_X6_refuse T))
noncomputable def ok_X6_readItem (sz : Nat) (T : tT) (q : Nat)  : Prop := (((v_X6_cannotStartItem T q) = 0 → (ok_X9_next sz T ∧ (((T.1 4 2) = 201 → (ok_X6_readList sz (F_X9_next T) q ∧ (ok_X6_take sz (F_X6_readList (F_X9_next T) q) (59 : Int32) ∧ True))) ∧ ((T.1 4 2) = 202 → (ok_X6_readPart sz (F_X9_next T) q ∧ (ok_X6_take sz (F_X6_readPart (F_X9_next T) q) (59 : Int32) ∧ True))) ∧ ((T.1 4 2) = 203 → (ok_X6_takeNumber sz (F_X9_next T) (1 : Int32) (120 : Int32) ∧ (ok_X6_take sz (tI (F_X6_takeNumber (F_X9_next T) (1 : Int32) (120 : Int32)).2 q 4 (F_X6_takeNumber (F_X9_next T) (1 : Int32) (120 : Int32)).1) (59 : Int32) ∧ True))) ∧ (¬ (T.1 4 2) = 201 → ¬ (T.1 4 2) = 202 → ¬ (T.1 4 2) = 203 → ((((F_X9_next T).2.2 3 3) = none → False) ∧ (∀ p9, ((F_X9_next T).2.2 3 3) = some p9 → tsy sz p9 ∧ (ok_X3_addRule sz (F_X9_next T) q (T.1 4 2) ((F_X9_next T).1 p9 3) ∧ ((¬ (T.1 4 2) = (204 : Int32) → (okc_readE sz (tI (F_X3_addRule (F_X9_next T) q (T.1 4 2) ((F_X9_next T).1 p9 3)) 3 4 (0 : Int32)) q (0 : Int32) ∧ ((((Fc_readE (tI (F_X3_addRule (F_X9_next T) q (T.1 4 2) ((F_X9_next T).1 p9 3)) 3 4 (0 : Int32)) q (0 : Int32)).2.2 3 3) = none → False) ∧ (∀ p12, ((Fc_readE (tI (F_X3_addRule (F_X9_next T) q (T.1 4 2) ((F_X9_next T).1 p9 3)) 3 4 (0 : Int32)) q (0 : Int32)).2.2 3 3) = some p12 → tsy sz p12 ∧ (ok_X8_addCell sz (Fc_readE (tI (F_X3_addRule (F_X9_next T) q (T.1 4 2) ((F_X9_next T).1 p9 3)) 3 4 (0 : Int32)) q (0 : Int32)) p12 (59 : Int32) (0 : Int32) ∧ (ok_X6_take sz (F_X8_addCell (Fc_readE (tI (F_X3_addRule (F_X9_next T) q (T.1 4 2) ((F_X9_next T).1 p9 3)) 3 4 (0 : Int32)) q (0 : Int32)) p12 (59 : Int32) (0 : Int32)) (59 : Int32) ∧ True)))))) ∧ ((T.1 4 2) = (204 : Int32) → (okc_readE sz (tI (F_X3_addRule (F_X9_next T) q (T.1 4 2) ((F_X9_next T).1 p9 3)) 3 4 (1 : Int32)) q (0 : Int32) ∧ ((((Fc_readE (tI (F_X3_addRule (F_X9_next T) q (T.1 4 2) ((F_X9_next T).1 p9 3)) 3 4 (1 : Int32)) q (0 : Int32)).2.2 3 3) = none → False) ∧ (∀ p16, ((Fc_readE (tI (F_X3_addRule (F_X9_next T) q (T.1 4 2) ((F_X9_next T).1 p9 3)) 3 4 (1 : Int32)) q (0 : Int32)).2.2 3 3) = some p16 → tsy sz p16 ∧ (ok_X8_addCell sz (Fc_readE (tI (F_X3_addRule (F_X9_next T) q (T.1 4 2) ((F_X9_next T).1 p9 3)) 3 4 (1 : Int32)) q (0 : Int32)) p16 (59 : Int32) (0 : Int32) ∧ (ok_X6_take sz (F_X8_addCell (Fc_readE (tI (F_X3_addRule (F_X9_next T) q (T.1 4 2) ((F_X9_next T).1 p9 3)) 3 4 (1 : Int32)) q (0 : Int32)) p16 (59 : Int32) (0 : Int32)) (59 : Int32) ∧ True)))))))))))))) ∧ (¬ (v_X6_cannotStartItem T q) = 0 → True))
set_option maxRecDepth 10000 in
theorem c_X6_readItem {d L sz : Nat} {T : tT} (hsz : 161 ≤ sz) {q : Nat} (h_q : tgr sz q)  (ok : ok_X6_readItem sz T q) : tvK (d + 383) mX6_readItem [.ref 3, .ref q] L sz T (fun T' => T' = F_X6_readItem T q) := by
  refine k_X6_readItem hsz h_q  ?_
  unfold ok_X6_readItem at ok
  refine ⟨_, c_X6_cannotStartItem hsz h_q  , ?_⟩
  rintro _ _ ⟨rfl, rfl⟩
  refine ⟨fun kq0 => ?_, fun kq0 => ?_⟩
  · replace ok := ok.1 kq0
    refine ⟨_, c_X9_next hsz   ok.1, ?_⟩
    rintro _ rfl
    replace ok := ok.2
    refine ⟨fun kq1 => ?_, fun kq1 => ?_, fun kq1 => ?_, fun kq1_0 kq1_1 kq1_2 => ?_⟩
    · replace ok := ok.1 kq1
      refine ⟨_, c_X6_readList hsz h_q  ok.1, ?_⟩
      rintro _ rfl
      replace ok := ok.2
      refine ⟨_, c_X6_take hsz  (59 : Int32) ok.1, ?_⟩
      rintro _ rfl
      replace ok := ok.2
      exact (by unfold F_X6_readItem; first | (rw [if_pos kq0, if_pos kq1]; done) | (rw [if_pos kq0, if_pos kq1]; rfl))
    · replace ok := ok.2.1 kq1
      refine ⟨_, c_X6_readPart hsz h_q  ok.1, ?_⟩
      rintro _ rfl
      replace ok := ok.2
      refine ⟨_, c_X6_take hsz  (59 : Int32) ok.1, ?_⟩
      rintro _ rfl
      replace ok := ok.2
      exact (by unfold F_X6_readItem; first | (rw [if_pos kq0, if_neg (show ¬ (T.1 4 2) = 201 by rw [kq1]; decide), if_pos kq1]; done) | (rw [if_pos kq0, if_neg (show ¬ (T.1 4 2) = 201 by rw [kq1]; decide), if_pos kq1]; rfl))
    · replace ok := ok.2.2.1 kq1
      refine ⟨_, c_X6_takeNumber hsz  (1 : Int32) (120 : Int32) ok.1, ?_⟩
      rintro _ _ ⟨rfl, rfl⟩
      replace ok := ok.2
      refine ⟨_, c_X6_take hsz  (59 : Int32) ok.1, ?_⟩
      rintro _ rfl
      replace ok := ok.2
      exact (by unfold F_X6_readItem; first | (rw [if_pos kq0, if_neg (show ¬ (T.1 4 2) = 201 by rw [kq1]; decide), if_neg (show ¬ (T.1 4 2) = 202 by rw [kq1]; decide), if_pos kq1]; done) | (rw [if_pos kq0, if_neg (show ¬ (T.1 4 2) = 201 by rw [kq1]; decide), if_neg (show ¬ (T.1 4 2) = 202 by rw [kq1]; decide), if_pos kq1]; rfl))
    · replace ok := ok.2.2.2 kq1_0 kq1_1 kq1_2
      refine ⟨fun kq4 => ?_, fun p9 kq4 => ?_⟩
      · replace ok := ok.1 kq4
        exact ok.elim
      · obtain ⟨h_p9, ok⟩ := ok.2 p9 kq4
        refine ⟨h_p9, ?_⟩
        refine ⟨_, c_X3_addRule hsz h_q (T.1 4 2) ((F_X9_next T).1 p9 3) ok.1, ?_⟩
        rintro _ rfl
        replace ok := ok.2
        refine ⟨fun kq5 => ?_, fun kq5 => ?_⟩
        · replace ok := ok.1 kq5
          refine ⟨_, cc_readE hsz h_q (0 : Int32) ok.1, ?_⟩
          rintro _ rfl
          replace ok := ok.2
          refine ⟨fun kq6 => ?_, fun p12 kq6 => ?_⟩
          · replace ok := ok.1 kq6
            exact ok.elim
          · obtain ⟨h_p12, ok⟩ := ok.2 p12 kq6
            refine ⟨h_p12, ?_⟩
            refine ⟨_, c_X8_addCell hsz h_p12 (59 : Int32) (0 : Int32) ok.1, ?_⟩
            rintro _ rfl
            replace ok := ok.2
            refine ⟨_, c_X6_take hsz  (59 : Int32) ok.1, ?_⟩
            rintro _ rfl
            replace ok := ok.2
            exact (by unfold F_X6_readItem; first | (simp only [if_pos kq0, if_neg kq1_0, if_neg kq1_1, if_neg kq1_2, kq4, if_neg kq5, kq6]; done) | (simp only [if_pos kq0, if_neg kq1_0, if_neg kq1_1, if_neg kq1_2, kq4, if_neg kq5, kq6]; rfl))
        · replace ok := ok.2 kq5
          refine ⟨_, cc_readE hsz h_q (0 : Int32) ok.1, ?_⟩
          rintro _ rfl
          replace ok := ok.2
          refine ⟨fun kq6 => ?_, fun p16 kq6 => ?_⟩
          · replace ok := ok.1 kq6
            exact ok.elim
          · obtain ⟨h_p16, ok⟩ := ok.2 p16 kq6
            refine ⟨h_p16, ?_⟩
            refine ⟨_, c_X8_addCell hsz h_p16 (59 : Int32) (0 : Int32) ok.1, ?_⟩
            rintro _ rfl
            replace ok := ok.2
            refine ⟨_, c_X6_take hsz  (59 : Int32) ok.1, ?_⟩
            rintro _ rfl
            replace ok := ok.2
            exact (by unfold F_X6_readItem; first | (simp only [if_pos kq0, if_neg kq1_0, if_neg kq1_1, if_neg kq1_2, kq4, if_pos kq5, kq6]; done) | (simp only [if_pos kq0, if_neg kq1_0, if_neg kq1_1, if_neg kq1_2, kq4, if_pos kq5, kq6]; rfl))
  · replace ok := ok.2 kq0
    refine ⟨_, c_X6_refuse hsz   , ?_⟩
    rintro _ rfl
    exact (by unfold F_X6_readItem; first | (rw [if_neg kq0]; done) | (rw [if_neg kq0]; rfl))
noncomputable def vl_X6_read : Nat → (tT → Int32 → tT) × (tT → Nat → Int32 → tT)
  | 0 => ((fun (T : tT)  (v2 : Int32) => T), (fun (T : tT) (c0 : Nat) (v2 : Int32) => T))
  | n + 1 => ((fun (T : tT)  (v2 : Int32) => (if (1400 : Int32) ≤ v2 then T else (if (T.1 3 1) = 0 then (if (T.1 4 2) = 0 then T else (match (F_X6_openGrade T).1 with | none => (vl_X6_read n).1 ((F_X6_openGrade T).2) (v2 + (1 : Int32)) | some p2 => (vl_X6_read n).2 ((F_X6_openGrade T).2) p2 (v2 + (1 : Int32)))) else T))), (fun (T : tT) (c0 : Nat) (v2 : Int32) => (if (1400 : Int32) ≤ v2 then (F_X6_refuse T) else (if (T.1 3 1) = 0 then (if (T.1 4 2) = 0 then (F_X6_refuse T) else (if (T.1 4 2) = (125 : Int32) then (vl_X6_read n).1 (F_X9_next T) (v2 + (1 : Int32)) else (vl_X6_read n).2 (F_X6_readItem T c0) c0 (v2 + (1 : Int32)))) else (F_X6_refuse T)))))
noncomputable def okl_X6_read : Nat → (Nat → tT → Int32 → Prop) × (Nat → tT → Nat → Int32 → Prop)
  | 0 => ((fun (sz : Nat) (T : tT)  (v2 : Int32) => False), (fun (sz : Nat) (T : tT) (c0 : Nat) (v2 : Int32) => False))
  | n + 1 => ((fun (sz : Nat) (T : tT)  (v2 : Int32) => (((1400 : Int32) ≤ v2 → True) ∧ (¬ (1400 : Int32) ≤ v2 → ((¬ (T.1 3 1) = 0 → True) ∧ ((T.1 3 1) = 0 → (((T.1 4 2) = 0 → True) ∧ (¬ (T.1 4 2) = 0 → (ok_X6_openGrade sz T ∧ (((F_X6_openGrade T).1 = none → (okl_X6_read n).1 sz ((F_X6_openGrade T).2) (v2 + (1 : Int32))) ∧ (∀ p2, (F_X6_openGrade T).1 = some p2 → tgr sz p2 ∧ (okl_X6_read n).2 sz ((F_X6_openGrade T).2) p2 (v2 + (1 : Int32)))))))))))), (fun (sz : Nat) (T : tT) (c0 : Nat) (v2 : Int32) => (((1400 : Int32) ≤ v2 → True) ∧ (¬ (1400 : Int32) ≤ v2 → ((¬ (T.1 3 1) = 0 → True) ∧ ((T.1 3 1) = 0 → (((T.1 4 2) = 0 → True) ∧ (¬ (T.1 4 2) = 0 → ((¬ (T.1 4 2) = (125 : Int32) → (ok_X6_readItem sz T c0 ∧ (okl_X6_read n).2 sz (F_X6_readItem T c0) c0 (v2 + (1 : Int32)))) ∧ ((T.1 4 2) = (125 : Int32) → (ok_X9_next sz T ∧ (okl_X6_read n).1 sz (F_X9_next T) (v2 + (1 : Int32)))))))))))))
theorem vl_X6_read_s0 (n : Nat) (T : tT)  (v2 : Int32) : (vl_X6_read (n + 1)).1 T v2 = (if (1400 : Int32) ≤ v2 then T else (if (T.1 3 1) = 0 then (if (T.1 4 2) = 0 then T else (match (F_X6_openGrade T).1 with | none => (vl_X6_read n).1 ((F_X6_openGrade T).2) (v2 + (1 : Int32)) | some p2 => (vl_X6_read n).2 ((F_X6_openGrade T).2) p2 (v2 + (1 : Int32)))) else T)) := rfl
theorem okl_X6_read_s0 (n sz : Nat) (T : tT)  (v2 : Int32) : (okl_X6_read (n + 1)).1 sz T v2 = (((1400 : Int32) ≤ v2 → True) ∧ (¬ (1400 : Int32) ≤ v2 → ((¬ (T.1 3 1) = 0 → True) ∧ ((T.1 3 1) = 0 → (((T.1 4 2) = 0 → True) ∧ (¬ (T.1 4 2) = 0 → (ok_X6_openGrade sz T ∧ (((F_X6_openGrade T).1 = none → (okl_X6_read n).1 sz ((F_X6_openGrade T).2) (v2 + (1 : Int32))) ∧ (∀ p2, (F_X6_openGrade T).1 = some p2 → tgr sz p2 ∧ (okl_X6_read n).2 sz ((F_X6_openGrade T).2) p2 (v2 + (1 : Int32))))))))))) := rfl
theorem vl_X6_read_s1 (n : Nat) (T : tT) (c0 : Nat) (v2 : Int32) : (vl_X6_read (n + 1)).2 T c0 v2 = (if (1400 : Int32) ≤ v2 then (F_X6_refuse T) else (if (T.1 3 1) = 0 then (if (T.1 4 2) = 0 then (F_X6_refuse T) else (if (T.1 4 2) = (125 : Int32) then (vl_X6_read n).1 (F_X9_next T) (v2 + (1 : Int32)) else (vl_X6_read n).2 (F_X6_readItem T c0) c0 (v2 + (1 : Int32)))) else (F_X6_refuse T))) := rfl
theorem okl_X6_read_s1 (n sz : Nat) (T : tT) (c0 : Nat) (v2 : Int32) : (okl_X6_read (n + 1)).2 sz T c0 v2 = (((1400 : Int32) ≤ v2 → True) ∧ (¬ (1400 : Int32) ≤ v2 → ((¬ (T.1 3 1) = 0 → True) ∧ ((T.1 3 1) = 0 → (((T.1 4 2) = 0 → True) ∧ (¬ (T.1 4 2) = 0 → ((¬ (T.1 4 2) = (125 : Int32) → (ok_X6_readItem sz T c0 ∧ (okl_X6_read n).2 sz (F_X6_readItem T c0) c0 (v2 + (1 : Int32)))) ∧ ((T.1 4 2) = (125 : Int32) → (ok_X9_next sz T ∧ (okl_X6_read n).1 sz (F_X9_next T) (v2 + (1 : Int32))))))))))) := rfl
set_option maxRecDepth 10000 in
set_option maxHeartbeats 1000000 in
theorem lj_X6_read {X : ax_X} {d L sz : Nat} {Q : tT → Prop} (hX : ax_ok X mX6_read (d + 384)) (hsz : 161 ≤ sz) (hR : ax_Ret X mX6_read (tv L sz Q)) : ∀ n : Nat, (∀ (T : tT)  (v2 : Int32), (okl_X6_read n).1 sz T v2 → Q ((vl_X6_read n).1 T v2) → ax_j X 33 [some (.ref 3), some (.null), some (.int v2)] [] (th L sz T) 0 0) ∧ (∀ (T : tT) (c0 : Nat) (h_c0 : tgr sz c0) (v2 : Int32), (okl_X6_read n).2 sz T c0 v2 → Q ((vl_X6_read n).2 T c0 v2) → ax_j X 33 [some (.ref 3), some (.ref c0), some (.int v2)] [] (th L sz T) 0 0) := by
  intro n
  induction n with
  | zero => exact ⟨(by intros; rename_i ok _; exact False.elim ok), (by intros; rename_i ok _; exact False.elim ok)⟩
  | succ n ih =>
    refine ⟨?_, ?_⟩
    · intro T  v2 ok hq
      refine s_X6_read_33 hX hR hsz   v2 ?_
      rw [okl_X6_read_s0] at ok
      refine ⟨fun kq0 => ?_, fun kq0 => ?_⟩
      · replace ok := ok.1 kq0
        have z := hq; rw [vl_X6_read_s0, if_pos kq0] at z; exact z
      · replace ok := ok.2 kq0
        refine ⟨fun kq1 => ?_, fun kq1 => ?_⟩
        · replace ok := ok.1 kq1
          have z := hq; rw [vl_X6_read_s0, if_neg kq0, if_neg kq1] at z; exact z
        · replace ok := ok.2 kq1
          refine ⟨fun kq2 => ?_, fun kq2 => ?_⟩
          · replace ok := ok.1 kq2
            have z := hq; rw [vl_X6_read_s0, if_neg kq0, if_pos kq1, if_pos kq2] at z; exact z
          · replace ok := ok.2 kq2
            refine ⟨_, c_X6_openGrade hsz   ok.1, ?_⟩
            rintro _ _ ⟨rfl, rfl⟩
            replace ok := ok.2
            refine ⟨fun kq3 => ?_, fun p2 kq3 => ?_⟩
            · replace ok := ok.1 kq3
              have z := hq; rw [vl_X6_read_s0] at z; simp only [if_neg kq0, if_pos kq1, if_neg kq2, kq3] at z; exact ih.1 _  (v2 + (1 : Int32)) ok z
            · obtain ⟨h_p2, ok⟩ := ok.2 p2 kq3
              refine ⟨h_p2, ?_⟩
              have z := hq; rw [vl_X6_read_s0] at z; simp only [if_neg kq0, if_pos kq1, if_neg kq2, kq3] at z; exact ih.2 _ p2 h_p2 (v2 + (1 : Int32)) ok z
    · intro T c0 h_c0 v2 ok hq
      refine s_X6_read_33_1 hX hR hsz  h_c0 v2 ?_
      rw [okl_X6_read_s1] at ok
      refine ⟨fun kq0 => ?_, fun kq0 => ?_⟩
      · replace ok := ok.1 kq0
        refine ⟨_, c_X6_refuse hsz   , ?_⟩
        rintro _ rfl
        have z := hq; rw [vl_X6_read_s1, if_pos kq0] at z; exact z
      · replace ok := ok.2 kq0
        refine ⟨fun kq1 => ?_, fun kq1 => ?_⟩
        · replace ok := ok.1 kq1
          refine ⟨_, c_X6_refuse hsz   , ?_⟩
          rintro _ rfl
          have z := hq; rw [vl_X6_read_s1, if_neg kq0, if_neg kq1] at z; exact z
        · replace ok := ok.2 kq1
          refine ⟨fun kq2 => ?_, fun kq2 => ?_⟩
          · replace ok := ok.1 kq2
            refine ⟨_, c_X6_refuse hsz   , ?_⟩
            rintro _ rfl
            have z := hq; rw [vl_X6_read_s1, if_neg kq0, if_pos kq1, if_pos kq2] at z; exact z
          · replace ok := ok.2 kq2
            refine ⟨fun kq3 => ?_, fun kq3 => ?_⟩
            · replace ok := ok.1 kq3
              refine ⟨_, c_X6_readItem hsz h_c0  ok.1, ?_⟩
              rintro _ rfl
              replace ok := ok.2
              have z := hq; rw [vl_X6_read_s1, if_neg kq0, if_pos kq1, if_neg kq2, if_neg kq3] at z; exact ih.2 _ c0 h_c0 (v2 + (1 : Int32)) ok z
            · replace ok := ok.2 kq3
              refine ⟨_, c_X9_next hsz   ok.1, ?_⟩
              rintro _ rfl
              replace ok := ok.2
              have z := hq; rw [vl_X6_read_s1, if_neg kq0, if_pos kq1, if_neg kq2, if_pos kq3] at z; exact ih.1 _  (v2 + (1 : Int32)) ok z
noncomputable def F_X6_read (T : tT)   : tT := (match (T.2.2 3 3) with | none => T | some p1 => (vl_X6_read fu).1 (F_X9_rewind (F_X8_clear (tI (tI (tI T 3 1 (0 : Int32)) 3 2 (-1 : Int32)) 3 5 (0 : Int32)) p1)) (0 : Int32))
noncomputable def ok_X6_read (sz : Nat) (T : tT)   : Prop := (((T.2.2 3 3) = none → False) ∧ (∀ p1, (T.2.2 3 3) = some p1 → tsy sz p1 ∧ (ok_X8_clear sz (tI (tI (tI T 3 1 (0 : Int32)) 3 2 (-1 : Int32)) 3 5 (0 : Int32)) p1 ∧ (ok_X9_rewind sz (F_X8_clear (tI (tI (tI T 3 1 (0 : Int32)) 3 2 (-1 : Int32)) 3 5 (0 : Int32)) p1) ∧ (okl_X6_read fu).1 sz (F_X9_rewind (F_X8_clear (tI (tI (tI T 3 1 (0 : Int32)) 3 2 (-1 : Int32)) 3 5 (0 : Int32)) p1)) (0 : Int32)))))
set_option maxRecDepth 10000 in
theorem c_X6_read {d L sz : Nat} {T : tT} (hsz : 161 ≤ sz)  (ok : ok_X6_read sz T) : tvK (d + 384) mX6_read [.ref 3] L sz T (fun T' => T' = F_X6_read T) := by
  refine k_X6_read hsz   (fun X hX hR => ?_)
  unfold ok_X6_read at ok
  refine ⟨fun kq0 => ?_, fun p1 kq0 => ?_⟩
  · replace ok := ok.1 kq0
    exact ok.elim
  · obtain ⟨h_p1, ok⟩ := ok.2 p1 kq0
    refine ⟨h_p1, ?_⟩
    refine ⟨_, c_X8_clear hsz h_p1  ok.1, ?_⟩
    rintro _ rfl
    replace ok := ok.2
    refine ⟨_, c_X9_rewind hsz   ok.1, ?_⟩
    rintro _ rfl
    replace ok := ok.2
    exact (lj_X6_read hX hsz  hR _).1 _  (0 : Int32) ok (by unfold F_X6_read; simp only [kq0])
noncomputable def vl_X7_plan : Nat → tT → Int32 → Int32 × tT
  | 0, T, v2 => (0, T)
  | n + 1, T, v2 => (if (T.1 79 2) ≤ v2 then (if (T.1 85 3) = 0 then ((-2 : Int32), T) else (match ((F_X7_sendAllHome T).2.2 85 7) with | none => (0, T) | some p2 => (match ((F_X7_choose (F_X7_sendAllHome T) ((F_X7_sendAllHome T).1 79 2) ((F_X7_sendAllHome T).2.1 p2 (0 : Int32).toNatClampNeg)).2.2 85 7) with | none => (0, T) | some p4 => (((((F_X7_choose (F_X7_sendAllHome T) ((F_X7_sendAllHome T).1 79 2) ((F_X7_sendAllHome T).2.1 p2 (0 : Int32).toNatClampNeg)).2.1 p4 (0 : Int32).toNatClampNeg) >>> ((27 : Int32).toInt64 &&& 63)).toInt32), (F_X7_choose (F_X7_sendAllHome T) ((F_X7_sendAllHome T).1 79 2) ((F_X7_sendAllHome T).2.1 p2 (0 : Int32).toNatClampNeg)))))) else (if v2 = 0 then (if v2 ≤ 0 then vl_X7_plan n (Fc_giveDay (F_X7_startDay T (0 : Int32)) v2 (T.1 83 (T.1 88 (v2.toNatClampNeg)).toNatClampNeg) (0 : Int32) (0 : Int64)) (v2 + (1 : Int32)) else (if (T.1 83 (T.1 88 (v2 - (1 : Int32)).toNatClampNeg).toNatClampNeg) = ((T.1 83 (T.1 88 (v2.toNatClampNeg)).toNatClampNeg) - (1 : Int32)) then vl_X7_plan n (Fc_giveDay (F_X7_startDay T (1 : Int32)) v2 (T.1 83 (T.1 88 (v2.toNatClampNeg)).toNatClampNeg) (0 : Int32) (0 : Int64)) (v2 + (1 : Int32)) else vl_X7_plan n (Fc_giveDay (F_X7_startDay T (0 : Int32)) v2 (T.1 83 (T.1 88 (v2.toNatClampNeg)).toNatClampNeg) (0 : Int32) (0 : Int64)) (v2 + (1 : Int32)))) else (if (T.1 83 (T.1 88 (v2 - (1 : Int32)).toNatClampNeg).toNatClampNeg) = (T.1 83 (T.1 88 (v2.toNatClampNeg)).toNatClampNeg) then vl_X7_plan n T (v2 + (1 : Int32)) else (if v2 ≤ 0 then vl_X7_plan n (Fc_giveDay (F_X7_startDay T (0 : Int32)) v2 (T.1 83 (T.1 88 (v2.toNatClampNeg)).toNatClampNeg) (0 : Int32) (0 : Int64)) (v2 + (1 : Int32)) else (if (T.1 83 (T.1 88 (v2 - (1 : Int32)).toNatClampNeg).toNatClampNeg) = ((T.1 83 (T.1 88 (v2.toNatClampNeg)).toNatClampNeg) - (1 : Int32)) then vl_X7_plan n (Fc_giveDay (F_X7_startDay T (1 : Int32)) v2 (T.1 83 (T.1 88 (v2.toNatClampNeg)).toNatClampNeg) (0 : Int32) (0 : Int64)) (v2 + (1 : Int32)) else vl_X7_plan n (Fc_giveDay (F_X7_startDay T (0 : Int32)) v2 (T.1 83 (T.1 88 (v2.toNatClampNeg)).toNatClampNeg) (0 : Int32) (0 : Int64)) (v2 + (1 : Int32)))))))
noncomputable def okl_X7_plan : Nat → Nat → tT → Int32 → Prop
  | 0, _, T, v2 => False
  | n + 1, sz, T, v2 => (((T.1 79 2) ≤ v2 → ((¬ (T.1 85 3) = 0 → (ok_X7_sendAllHome sz T ∧ ((((F_X7_sendAllHome T).2.2 85 7) = none → False) ∧ (∀ p2, ((F_X7_sendAllHome T).2.2 85 7) = some p2 → tar sz p2 1 120 ∧ (vp_in (0 : Int32) 120 ∧ (ok_X7_choose sz (F_X7_sendAllHome T) ((F_X7_sendAllHome T).1 79 2) ((F_X7_sendAllHome T).2.1 p2 (0 : Int32).toNatClampNeg) ∧ ((((F_X7_choose (F_X7_sendAllHome T) ((F_X7_sendAllHome T).1 79 2) ((F_X7_sendAllHome T).2.1 p2 (0 : Int32).toNatClampNeg)).2.2 85 7) = none → False) ∧ (∀ p4, ((F_X7_choose (F_X7_sendAllHome T) ((F_X7_sendAllHome T).1 79 2) ((F_X7_sendAllHome T).2.1 p2 (0 : Int32).toNatClampNeg)).2.2 85 7) = some p4 → tar sz p4 1 120 ∧ vp_in (0 : Int32) 120)))))))) ∧ ((T.1 85 3) = 0 → True))) ∧ (¬ (T.1 79 2) ≤ v2 → (vp_in v2 9 ∧ (vp_in (T.1 88 (v2.toNatClampNeg)) 9 ∧ ((v2 = 0 → ((v2 ≤ 0 → (ok_X7_startDay sz T (0 : Int32) ∧ (okc_giveDay sz (F_X7_startDay T (0 : Int32)) v2 (T.1 83 (T.1 88 (v2.toNatClampNeg)).toNatClampNeg) (0 : Int32) (0 : Int64) ∧ okl_X7_plan n sz (Fc_giveDay (F_X7_startDay T (0 : Int32)) v2 (T.1 83 (T.1 88 (v2.toNatClampNeg)).toNatClampNeg) (0 : Int32) (0 : Int64)) (v2 + (1 : Int32))))) ∧ (¬ v2 ≤ 0 → (vp_in (v2 - (1 : Int32)) 9 ∧ (vp_in (T.1 88 (v2 - (1 : Int32)).toNatClampNeg) 9 ∧ ((¬ (T.1 83 (T.1 88 (v2 - (1 : Int32)).toNatClampNeg).toNatClampNeg) = ((T.1 83 (T.1 88 (v2.toNatClampNeg)).toNatClampNeg) - (1 : Int32)) → (ok_X7_startDay sz T (0 : Int32) ∧ (okc_giveDay sz (F_X7_startDay T (0 : Int32)) v2 (T.1 83 (T.1 88 (v2.toNatClampNeg)).toNatClampNeg) (0 : Int32) (0 : Int64) ∧ okl_X7_plan n sz (Fc_giveDay (F_X7_startDay T (0 : Int32)) v2 (T.1 83 (T.1 88 (v2.toNatClampNeg)).toNatClampNeg) (0 : Int32) (0 : Int64)) (v2 + (1 : Int32))))) ∧ ((T.1 83 (T.1 88 (v2 - (1 : Int32)).toNatClampNeg).toNatClampNeg) = ((T.1 83 (T.1 88 (v2.toNatClampNeg)).toNatClampNeg) - (1 : Int32)) → (ok_X7_startDay sz T (1 : Int32) ∧ (okc_giveDay sz (F_X7_startDay T (1 : Int32)) v2 (T.1 83 (T.1 88 (v2.toNatClampNeg)).toNatClampNeg) (0 : Int32) (0 : Int64) ∧ okl_X7_plan n sz (Fc_giveDay (F_X7_startDay T (1 : Int32)) v2 (T.1 83 (T.1 88 (v2.toNatClampNeg)).toNatClampNeg) (0 : Int32) (0 : Int64)) (v2 + (1 : Int32))))))))))) ∧ (¬ v2 = 0 → (vp_in (v2 - (1 : Int32)) 9 ∧ (vp_in (T.1 88 (v2 - (1 : Int32)).toNatClampNeg) 9 ∧ (((T.1 83 (T.1 88 (v2 - (1 : Int32)).toNatClampNeg).toNatClampNeg) = (T.1 83 (T.1 88 (v2.toNatClampNeg)).toNatClampNeg) → okl_X7_plan n sz T (v2 + (1 : Int32))) ∧ (¬ (T.1 83 (T.1 88 (v2 - (1 : Int32)).toNatClampNeg).toNatClampNeg) = (T.1 83 (T.1 88 (v2.toNatClampNeg)).toNatClampNeg) → ((v2 ≤ 0 → (ok_X7_startDay sz T (0 : Int32) ∧ (okc_giveDay sz (F_X7_startDay T (0 : Int32)) v2 (T.1 83 (T.1 88 (v2.toNatClampNeg)).toNatClampNeg) (0 : Int32) (0 : Int64) ∧ okl_X7_plan n sz (Fc_giveDay (F_X7_startDay T (0 : Int32)) v2 (T.1 83 (T.1 88 (v2.toNatClampNeg)).toNatClampNeg) (0 : Int32) (0 : Int64)) (v2 + (1 : Int32))))) ∧ (¬ v2 ≤ 0 → (vp_in (v2 - (1 : Int32)) 9 ∧ (vp_in (T.1 88 (v2 - (1 : Int32)).toNatClampNeg) 9 ∧ ((¬ (T.1 83 (T.1 88 (v2 - (1 : Int32)).toNatClampNeg).toNatClampNeg) = ((T.1 83 (T.1 88 (v2.toNatClampNeg)).toNatClampNeg) - (1 : Int32)) → (ok_X7_startDay sz T (0 : Int32) ∧ (okc_giveDay sz (F_X7_startDay T (0 : Int32)) v2 (T.1 83 (T.1 88 (v2.toNatClampNeg)).toNatClampNeg) (0 : Int32) (0 : Int64) ∧ okl_X7_plan n sz (Fc_giveDay (F_X7_startDay T (0 : Int32)) v2 (T.1 83 (T.1 88 (v2.toNatClampNeg)).toNatClampNeg) (0 : Int32) (0 : Int64)) (v2 + (1 : Int32))))) ∧ ((T.1 83 (T.1 88 (v2 - (1 : Int32)).toNatClampNeg).toNatClampNeg) = ((T.1 83 (T.1 88 (v2.toNatClampNeg)).toNatClampNeg) - (1 : Int32)) → (ok_X7_startDay sz T (1 : Int32) ∧ (okc_giveDay sz (F_X7_startDay T (1 : Int32)) v2 (T.1 83 (T.1 88 (v2.toNatClampNeg)).toNatClampNeg) (0 : Int32) (0 : Int64) ∧ okl_X7_plan n sz (Fc_giveDay (F_X7_startDay T (1 : Int32)) v2 (T.1 83 (T.1 88 (v2.toNatClampNeg)).toNatClampNeg) (0 : Int32) (0 : Int64)) (v2 + (1 : Int32))))))))))))))))))))
theorem vl_X7_plan_s (n : Nat) (T : tT)  (v2 : Int32) : vl_X7_plan (n + 1) T v2 = (if (T.1 79 2) ≤ v2 then (if (T.1 85 3) = 0 then ((-2 : Int32), T) else (match ((F_X7_sendAllHome T).2.2 85 7) with | none => (0, T) | some p2 => (match ((F_X7_choose (F_X7_sendAllHome T) ((F_X7_sendAllHome T).1 79 2) ((F_X7_sendAllHome T).2.1 p2 (0 : Int32).toNatClampNeg)).2.2 85 7) with | none => (0, T) | some p4 => (((((F_X7_choose (F_X7_sendAllHome T) ((F_X7_sendAllHome T).1 79 2) ((F_X7_sendAllHome T).2.1 p2 (0 : Int32).toNatClampNeg)).2.1 p4 (0 : Int32).toNatClampNeg) >>> ((27 : Int32).toInt64 &&& 63)).toInt32), (F_X7_choose (F_X7_sendAllHome T) ((F_X7_sendAllHome T).1 79 2) ((F_X7_sendAllHome T).2.1 p2 (0 : Int32).toNatClampNeg)))))) else (if v2 = 0 then (if v2 ≤ 0 then vl_X7_plan n (Fc_giveDay (F_X7_startDay T (0 : Int32)) v2 (T.1 83 (T.1 88 (v2.toNatClampNeg)).toNatClampNeg) (0 : Int32) (0 : Int64)) (v2 + (1 : Int32)) else (if (T.1 83 (T.1 88 (v2 - (1 : Int32)).toNatClampNeg).toNatClampNeg) = ((T.1 83 (T.1 88 (v2.toNatClampNeg)).toNatClampNeg) - (1 : Int32)) then vl_X7_plan n (Fc_giveDay (F_X7_startDay T (1 : Int32)) v2 (T.1 83 (T.1 88 (v2.toNatClampNeg)).toNatClampNeg) (0 : Int32) (0 : Int64)) (v2 + (1 : Int32)) else vl_X7_plan n (Fc_giveDay (F_X7_startDay T (0 : Int32)) v2 (T.1 83 (T.1 88 (v2.toNatClampNeg)).toNatClampNeg) (0 : Int32) (0 : Int64)) (v2 + (1 : Int32)))) else (if (T.1 83 (T.1 88 (v2 - (1 : Int32)).toNatClampNeg).toNatClampNeg) = (T.1 83 (T.1 88 (v2.toNatClampNeg)).toNatClampNeg) then vl_X7_plan n T (v2 + (1 : Int32)) else (if v2 ≤ 0 then vl_X7_plan n (Fc_giveDay (F_X7_startDay T (0 : Int32)) v2 (T.1 83 (T.1 88 (v2.toNatClampNeg)).toNatClampNeg) (0 : Int32) (0 : Int64)) (v2 + (1 : Int32)) else (if (T.1 83 (T.1 88 (v2 - (1 : Int32)).toNatClampNeg).toNatClampNeg) = ((T.1 83 (T.1 88 (v2.toNatClampNeg)).toNatClampNeg) - (1 : Int32)) then vl_X7_plan n (Fc_giveDay (F_X7_startDay T (1 : Int32)) v2 (T.1 83 (T.1 88 (v2.toNatClampNeg)).toNatClampNeg) (0 : Int32) (0 : Int64)) (v2 + (1 : Int32)) else vl_X7_plan n (Fc_giveDay (F_X7_startDay T (0 : Int32)) v2 (T.1 83 (T.1 88 (v2.toNatClampNeg)).toNatClampNeg) (0 : Int32) (0 : Int64)) (v2 + (1 : Int32))))))) := rfl
set_option maxRecDepth 10000 in
theorem lj_X7_plan {X : ax_X} {d L sz : Nat} {Q : Int32 → tT → Prop} (hX : ax_ok X mX7_plan (d + 421)) (hsz : 161 ≤ sz) (hR : ax_Ret X mX7_plan (ti L sz Q)) : ∀ (n : Nat) (T : tT) (v2 : Int32), okl_X7_plan n sz T v2 → Q (vl_X7_plan n T v2).1 (vl_X7_plan n T v2).2 → ax_j X 19 [some (.ref 85), some (.ref 79), some (.int v2), none] [] (th L sz T) 0 0 := by
  intro n
  induction n with
  | zero => intro T v2 ok; exact False.elim ok
  | succ n ih =>
    intro T v2 ok hq
    refine s_X7_plan_19 hX hR hsz  v2 ?_
    unfold okl_X7_plan at ok
    refine ⟨fun kq0 => ?_, fun kq0 => ?_⟩
    · replace ok := ok.1 kq0
      refine ⟨fun kq1 => ?_, fun kq1 => ?_⟩
      · replace ok := ok.1 kq1
        refine ⟨_, c_X7_sendAllHome hsz   ok.1, ?_⟩
        rintro _ rfl
        replace ok := ok.2
        refine ⟨fun kq2 => ?_, fun p2 kq2 => ?_⟩
        · replace ok := ok.1 kq2
          exact ok.elim
        · obtain ⟨h_p2, ok⟩ := ok.2 p2 kq2
          refine ⟨h_p2, ?_⟩
          refine ⟨ok.1, ?_⟩
          replace ok := ok.2
          refine ⟨_, c_X7_choose hsz  ((F_X7_sendAllHome T).1 79 2) ((F_X7_sendAllHome T).2.1 p2 (0 : Int32).toNatClampNeg) ok.1, ?_⟩
          rintro _ rfl
          replace ok := ok.2
          refine ⟨fun kq3 => ?_, fun p4 kq3 => ?_⟩
          · replace ok := ok.1 kq3
            exact ok.elim
          · obtain ⟨h_p4, ok⟩ := ok.2 p4 kq3
            refine ⟨h_p4, ?_⟩
            refine ⟨ok, ?_⟩
            have z := hq; rw [vl_X7_plan_s] at z; simp only [if_pos kq0, if_neg kq1, kq2, kq3] at z; exact z
      · replace ok := ok.2 kq1
        have z := hq; rw [vl_X7_plan_s, if_pos kq0, if_pos kq1] at z; exact z
    · replace ok := ok.2 kq0
      refine ⟨ok.1, ?_⟩
      replace ok := ok.2
      refine ⟨ok.1, ?_⟩
      replace ok := ok.2
      refine ⟨fun kq1 => ?_, fun kq1 => ?_⟩
      · replace ok := ok.1 kq1
        refine ⟨fun kq2 => ?_, fun kq2 => ?_⟩
        · replace ok := ok.1 kq2
          refine ⟨_, c_X7_startDay hsz  (0 : Int32) ok.1, ?_⟩
          rintro _ rfl
          replace ok := ok.2
          refine ⟨_, cc_giveDay hsz  v2 (T.1 83 (T.1 88 (v2.toNatClampNeg)).toNatClampNeg) (0 : Int32) (0 : Int64) ok.1, ?_⟩
          rintro _ rfl
          replace ok := ok.2
          have z := hq; rw [vl_X7_plan_s, if_neg kq0, if_pos kq1, if_pos kq2] at z; exact ih _ (v2 + (1 : Int32)) ok z
        · replace ok := ok.2 kq2
          refine ⟨ok.1, ?_⟩
          replace ok := ok.2
          refine ⟨ok.1, ?_⟩
          replace ok := ok.2
          refine ⟨fun kq3 => ?_, fun kq3 => ?_⟩
          · replace ok := ok.1 kq3
            refine ⟨_, c_X7_startDay hsz  (0 : Int32) ok.1, ?_⟩
            rintro _ rfl
            replace ok := ok.2
            refine ⟨_, cc_giveDay hsz  v2 (T.1 83 (T.1 88 (v2.toNatClampNeg)).toNatClampNeg) (0 : Int32) (0 : Int64) ok.1, ?_⟩
            rintro _ rfl
            replace ok := ok.2
            have z := hq; rw [vl_X7_plan_s, if_neg kq0, if_pos kq1, if_neg kq2, if_neg kq3] at z; exact ih _ (v2 + (1 : Int32)) ok z
          · replace ok := ok.2 kq3
            refine ⟨_, c_X7_startDay hsz  (1 : Int32) ok.1, ?_⟩
            rintro _ rfl
            replace ok := ok.2
            refine ⟨_, cc_giveDay hsz  v2 (T.1 83 (T.1 88 (v2.toNatClampNeg)).toNatClampNeg) (0 : Int32) (0 : Int64) ok.1, ?_⟩
            rintro _ rfl
            replace ok := ok.2
            have z := hq; rw [vl_X7_plan_s, if_neg kq0, if_pos kq1, if_neg kq2, if_pos kq3] at z; exact ih _ (v2 + (1 : Int32)) ok z
      · replace ok := ok.2 kq1
        refine ⟨ok.1, ?_⟩
        replace ok := ok.2
        refine ⟨ok.1, ?_⟩
        replace ok := ok.2
        refine ⟨fun kq2 => ?_, fun kq2 => ?_⟩
        · replace ok := ok.1 kq2
          have z := hq; rw [vl_X7_plan_s, if_neg kq0, if_neg kq1, if_pos kq2] at z; exact ih _ (v2 + (1 : Int32)) ok z
        · replace ok := ok.2 kq2
          refine ⟨fun kq3 => ?_, fun kq3 => ?_⟩
          · replace ok := ok.1 kq3
            refine ⟨_, c_X7_startDay hsz  (0 : Int32) ok.1, ?_⟩
            rintro _ rfl
            replace ok := ok.2
            refine ⟨_, cc_giveDay hsz  v2 (T.1 83 (T.1 88 (v2.toNatClampNeg)).toNatClampNeg) (0 : Int32) (0 : Int64) ok.1, ?_⟩
            rintro _ rfl
            replace ok := ok.2
            have z := hq; rw [vl_X7_plan_s, if_neg kq0, if_neg kq1, if_neg kq2, if_pos kq3] at z; exact ih _ (v2 + (1 : Int32)) ok z
          · replace ok := ok.2 kq3
            refine ⟨ok.1, ?_⟩
            replace ok := ok.2
            refine ⟨ok.1, ?_⟩
            replace ok := ok.2
            refine ⟨fun kq4 => ?_, fun kq4 => ?_⟩
            · replace ok := ok.1 kq4
              refine ⟨_, c_X7_startDay hsz  (0 : Int32) ok.1, ?_⟩
              rintro _ rfl
              replace ok := ok.2
              refine ⟨_, cc_giveDay hsz  v2 (T.1 83 (T.1 88 (v2.toNatClampNeg)).toNatClampNeg) (0 : Int32) (0 : Int64) ok.1, ?_⟩
              rintro _ rfl
              replace ok := ok.2
              have z := hq; rw [vl_X7_plan_s, if_neg kq0, if_neg kq1, if_neg kq2, if_neg kq3, if_neg kq4] at z; exact ih _ (v2 + (1 : Int32)) ok z
            · replace ok := ok.2 kq4
              refine ⟨_, c_X7_startDay hsz  (1 : Int32) ok.1, ?_⟩
              rintro _ rfl
              replace ok := ok.2
              refine ⟨_, cc_giveDay hsz  v2 (T.1 83 (T.1 88 (v2.toNatClampNeg)).toNatClampNeg) (0 : Int32) (0 : Int64) ok.1, ?_⟩
              rintro _ rfl
              replace ok := ok.2
              have z := hq; rw [vl_X7_plan_s, if_neg kq0, if_neg kq1, if_neg kq2, if_neg kq3, if_pos kq4] at z; exact ih _ (v2 + (1 : Int32)) ok z
noncomputable def F_X7_plan (T : tT)   : Int32 × tT := (match ((F_X7_orderByDay T).2.2 85 7) with | none => (0, T) | some p2 => vl_X7_plan fu (tJ (tI (F_X7_orderByDay T) 85 3 (1 : Int32)) p2 ((0 : Int32).toNatClampNeg) (0 : Int64)) (0 : Int32))
noncomputable def ok_X7_plan (sz : Nat) (T : tT)   : Prop := (ok_X7_orderByDay sz T ∧ ((((F_X7_orderByDay T).2.2 85 7) = none → False) ∧ (∀ p2, ((F_X7_orderByDay T).2.2 85 7) = some p2 → tar sz p2 1 120 ∧ (vp_in (0 : Int32) 120 ∧ okl_X7_plan fu sz (tJ (tI (F_X7_orderByDay T) 85 3 (1 : Int32)) p2 ((0 : Int32).toNatClampNeg) (0 : Int64)) (0 : Int32)))))
set_option maxRecDepth 10000 in
theorem c_X7_plan {d L sz : Nat} {T : tT} (hsz : 161 ≤ sz)  (ok : ok_X7_plan sz T) : tiK (d + 421) mX7_plan [.ref 85, .ref 79] L sz T (fun r T' => r = (F_X7_plan T).1 ∧ T' = (F_X7_plan T).2) := by
  refine k_X7_plan hsz   (fun X hX hR => ?_)
  unfold ok_X7_plan at ok
  refine ⟨_, c_X7_orderByDay hsz   ok.1, ?_⟩
  rintro _ rfl
  replace ok := ok.2
  refine ⟨fun kq0 => ?_, fun p2 kq0 => ?_⟩
  · replace ok := ok.1 kq0
    exact ok.elim
  · obtain ⟨h_p2, ok⟩ := ok.2 p2 kq0
    refine ⟨h_p2, ?_⟩
    refine ⟨ok.1, ?_⟩
    replace ok := ok.2
    exact lj_X7_plan hX hsz  hR _ _ (0 : Int32) ok ⟨by unfold F_X7_plan; simp only [kq0], by unfold F_X7_plan; simp only [kq0]⟩
noncomputable def vl_X10_tour : Nat → (tT → Int32 → (Int32 × tT)) × (tT → Int32 → Int32 → (Int32 × tT))
  | 0 => ((fun (T : tT)  (v1 : Int32) => (0, T)), (fun (T : tT)  (v1 : Int32) (v2 : Int32) => (0, T)))
  | n + 1 => ((fun (T : tT)  (v1 : Int32) => (if (T.1 79 2) ≤ v1 then ((F_X7_plan T).1, (F_X7_plan T).2) else (vl_X10_tour n).2 T v1 (0 : Int32))), (fun (T : tT)  (v1 : Int32) (v2 : Int32) => (if (T.1 79 1) ≤ v2 then (vl_X10_tour n).1 T (v1 + (1 : Int32)) else (vl_X10_tour n).2 (F_X7_allow T v2 v1 (v_X10_mayTake T v2 v1)) v1 (v2 + (1 : Int32)))))
noncomputable def okl_X10_tour : Nat → (Nat → tT → Int32 → Prop) × (Nat → tT → Int32 → Int32 → Prop)
  | 0 => ((fun (sz : Nat) (T : tT)  (v1 : Int32) => False), (fun (sz : Nat) (T : tT)  (v1 : Int32) (v2 : Int32) => False))
  | n + 1 => ((fun (sz : Nat) (T : tT)  (v1 : Int32) => (((T.1 79 2) ≤ v1 → (ok_X7_plan sz T ∧ True)) ∧ (¬ (T.1 79 2) ≤ v1 → (okl_X10_tour n).2 sz T v1 (0 : Int32)))), (fun (sz : Nat) (T : tT)  (v1 : Int32) (v2 : Int32) => (((T.1 79 1) ≤ v2 → (okl_X10_tour n).1 sz T (v1 + (1 : Int32))) ∧ (¬ (T.1 79 1) ≤ v2 → (ok_X10_mayTake sz T v2 v1 ∧ (ok_X7_allow sz T v2 v1 (v_X10_mayTake T v2 v1) ∧ (okl_X10_tour n).2 sz (F_X7_allow T v2 v1 (v_X10_mayTake T v2 v1)) v1 (v2 + (1 : Int32))))))))
theorem vl_X10_tour_s0 (n : Nat) (T : tT)  (v1 : Int32) : (vl_X10_tour (n + 1)).1 T v1 = (if (T.1 79 2) ≤ v1 then ((F_X7_plan T).1, (F_X7_plan T).2) else (vl_X10_tour n).2 T v1 (0 : Int32)) := rfl
theorem okl_X10_tour_s0 (n sz : Nat) (T : tT)  (v1 : Int32) : (okl_X10_tour (n + 1)).1 sz T v1 = (((T.1 79 2) ≤ v1 → (ok_X7_plan sz T ∧ True)) ∧ (¬ (T.1 79 2) ≤ v1 → (okl_X10_tour n).2 sz T v1 (0 : Int32))) := rfl
theorem vl_X10_tour_s1 (n : Nat) (T : tT)  (v1 : Int32) (v2 : Int32) : (vl_X10_tour (n + 1)).2 T v1 v2 = (if (T.1 79 1) ≤ v2 then (vl_X10_tour n).1 T (v1 + (1 : Int32)) else (vl_X10_tour n).2 (F_X7_allow T v2 v1 (v_X10_mayTake T v2 v1)) v1 (v2 + (1 : Int32))) := rfl
theorem okl_X10_tour_s1 (n sz : Nat) (T : tT)  (v1 : Int32) (v2 : Int32) : (okl_X10_tour (n + 1)).2 sz T v1 v2 = (((T.1 79 1) ≤ v2 → (okl_X10_tour n).1 sz T (v1 + (1 : Int32))) ∧ (¬ (T.1 79 1) ≤ v2 → (ok_X10_mayTake sz T v2 v1 ∧ (ok_X7_allow sz T v2 v1 (v_X10_mayTake T v2 v1) ∧ (okl_X10_tour n).2 sz (F_X7_allow T v2 v1 (v_X10_mayTake T v2 v1)) v1 (v2 + (1 : Int32)))))) := rfl
set_option maxRecDepth 10000 in
set_option maxHeartbeats 1000000 in
theorem lj_X10_tour {X : ax_X} {d L sz : Nat} {Q : Int32 → tT → Prop} (hX : ax_ok X mX10_tour (d + 422)) (hsz : 161 ≤ sz) (hR : ax_Ret X mX10_tour (ti L sz Q)) : ∀ n : Nat, (∀ (T : tT)  (v1 : Int32), (okl_X10_tour n).1 sz T v1 → Q ((vl_X10_tour n).1 T v1).1 ((vl_X10_tour n).1 T v1).2 → ax_j X 2 [some (.ref 2), some (.int v1), none] [] (th L sz T) 0 0) ∧ (∀ (T : tT)  (v1 : Int32) (v2 : Int32), (okl_X10_tour n).2 sz T v1 v2 → Q ((vl_X10_tour n).2 T v1 v2).1 ((vl_X10_tour n).2 T v1 v2).2 → ax_j X 15 [some (.ref 2), some (.int v1), some (.int v2)] [] (th L sz T) 0 0) := by
  intro n
  induction n with
  | zero => exact ⟨(by intros; rename_i ok _; exact False.elim ok), (by intros; rename_i ok _; exact False.elim ok)⟩
  | succ n ih =>
    refine ⟨?_, ?_⟩
    · intro T  v1 ok hq
      refine s_X10_tour_2 hX hR hsz   v1 ?_
      rw [okl_X10_tour_s0] at ok
      refine ⟨fun kq0 => ?_, fun kq0 => ?_⟩
      · replace ok := ok.1 kq0
        refine ⟨_, c_X7_plan hsz   ok.1, ?_⟩
        rintro _ _ ⟨rfl, rfl⟩
        replace ok := ok.2
        have z := hq; rw [vl_X10_tour_s0, if_pos kq0] at z; exact z
      · replace ok := ok.2 kq0
        have z := hq; rw [vl_X10_tour_s0, if_neg kq0] at z; exact ih.2 _  v1 (0 : Int32) ok z
    · intro T  v1 v2 ok hq
      refine s_X10_tour_15 hX hR hsz   v1 v2 ?_
      rw [okl_X10_tour_s1] at ok
      refine ⟨fun kq0 => ?_, fun kq0 => ?_⟩
      · replace ok := ok.1 kq0
        have z := hq; rw [vl_X10_tour_s1, if_pos kq0] at z; exact ih.1 _  (v1 + (1 : Int32)) ok z
      · replace ok := ok.2 kq0
        refine ⟨_, c_X10_mayTake hsz  v2 v1 ok.1, ?_⟩
        rintro _ _ ⟨rfl, rfl⟩
        replace ok := ok.2
        refine ⟨_, c_X7_allow hsz  v2 v1 (v_X10_mayTake T v2 v1) ok.1, ?_⟩
        rintro _ rfl
        replace ok := ok.2
        have z := hq; rw [vl_X10_tour_s1, if_neg kq0] at z; exact ih.2 _  v1 (v2 + (1 : Int32)) ok z
noncomputable def F_X10_tour (T : tT)   : (Int32 × tT) := (vl_X10_tour fu).1 T (0 : Int32)
noncomputable def ok_X10_tour (sz : Nat) (T : tT)   : Prop := (okl_X10_tour fu).1 sz T (0 : Int32)
set_option maxRecDepth 10000 in
theorem c_X10_tour {d L sz : Nat} {T : tT} (hsz : 161 ≤ sz)  (ok : ok_X10_tour sz T) : tiK (d + 422) mX10_tour [.ref 2] L sz T (fun r T' => r = (F_X10_tour T).1 ∧ T' = (F_X10_tour T).2) := by
  refine k_X10_tour hsz   (fun X hX hR => ?_)
  unfold ok_X10_tour at ok
  exact (lj_X10_tour hX hsz  hR _).1 _  (0 : Int32) ok ⟨by unfold F_X10_tour; rfl, by unfold F_X10_tour; rfl⟩
