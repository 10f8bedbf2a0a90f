/-! hardness: both have the same gaps, and the same one in the middle -/
def mdC (w : Int32) (B : List Int32) (l m na : Nat) : Prop := l + B.countP (fun y => decide (y < w)) ≤ na ∧ na < l + B.countP (fun y => decide (y < w)) + (m + B.countP (fun y => decide (y = w)))
theorem mdC_cons {w y : Int32} {B : List Int32} {l m na : Nat} : mdC w (y :: B) l m na ↔ mdC w B (if y < w then l + 1 else l) (if y = w then m + 1 else m) na := by
  unfold mdC
  rw [List.countP_cons, List.countP_cons]
  simp only [decide_eq_true_eq]
  by_cases c1 : y < w
  · by_cases c2 : y = w
    · exfalso; grind
    · simp only [c1, c2, if_true, if_false]; omega
  · by_cases c2 : y = w
    · simp only [c1, if_pos c2, if_false]; omega
    · simp only [c1, c2, if_false]; omega
theorem md_in {sz : Nat} {T : tT} {A : List Int32} {N a q : Int32} {na nq : Nat} (hN : N.toInt = (A.length : Nat)) (hA : Arr (T.1 157) A) (hA2 : A.length ≤ 200) (ha : a.toInt = na) (hq : q.toInt = nq) (hq2 : nq < A.length) : ∀ (k j l m : Nat) (i less alike : Int32), i.toInt = j → j + k = A.length → less.toInt = l → alike.toInt = m → l + m + k + k ≤ 600 → (mdC (T.1 157 nq) (A.drop j) l m na → (∀ n, (vl_X11_hardness (n + k + 1)).2.2.2.1 T N a q less alike i = (T.1 157 nq, T)) ∧ (∀ n, (okl_X11_hardness (n + k + 1)).2.2.2.1 sz T N a q less alike i)) ∧ (¬ mdC (T.1 157 nq) (A.drop j) l m na → (∀ n, (vl_X11_hardness (n + k + 1)).2.2.2.1 T N a q less alike i = (vl_X11_hardness n).2.1 T N a (q + 1)) ∧ (∀ n, (okl_X11_hardness n).2.1 sz T N a (q + 1) → (okl_X11_hardness (n + k + 1)).2.2.2.1 sz T N a q less alike i)) := by
  intro k
  have nq' : q.toNatClampNeg = nq := tnN hq
  have vq : vp_in q 1000 := by rw [vp_in_iff]; omega
  induction k with
  | zero =>
    intro j l m i less alike hi hj hl hm hb
    have c : N ≤ i := by rw [tle]; omega
    have dz : A.drop j = [] := List.drop_eq_nil_of_le (by omega)
    have cd : mdC (T.1 157 nq) (A.drop j) l m na ↔ l ≤ na ∧ na < l + m := by
      unfold mdC
      rw [dz, List.countP_nil, List.countP_nil, Nat.add_zero, Nat.add_zero]
    rw [cd]
    have s : (less + alike).toInt = (l + m : Nat) := by rw [tadd (by omega) (by omega)]; omega
    have c1 : a < less ↔ ¬ l ≤ na := by rw [tlt]; omega
    have c2 : less + alike ≤ a ↔ ¬ na < l + m := by rw [tle, s]; omega
    refine ⟨fun d => ⟨fun n => ?_, fun n => ?_⟩, fun d => ⟨fun n => ?_, fun n w => ?_⟩⟩
    · rw [vl_X11_hardness_s3, if_pos c, nq', if_neg (fun w => (c1.mp w) d.1), if_neg (fun w => (c2.mp w) d.2)]
    · rw [okl_X11_hardness_s3]
      exact ⟨fun _ => ⟨fun w => absurd d.1 (c1.mp w), fun _ => ⟨fun w => absurd d.2 (c2.mp w), fun _ => vq⟩⟩, fun q => absurd c q⟩
    · rw [vl_X11_hardness_s3, if_pos c, nq']
      by_cases d1 : l ≤ na
      · rw [if_neg (fun w => (c1.mp w) d1), if_pos (c2.mpr (fun d2 => d ⟨d1, d2⟩))]
      · rw [if_pos (c1.mpr d1)]
    · rw [okl_X11_hardness_s3]
      exact ⟨fun _ => ⟨fun _ => w, fun _ => ⟨fun _ => w, fun _ => vq⟩⟩, fun q => absurd c q⟩
  | succ k ih =>
    intro j l m i less alike hi hj hl hm hb
    have c : ¬ N ≤ i := by rw [tle]; omega
    have e1 : (i + 1).toInt = (j + 1 : Nat) := by rw [tinc' (by omega)]; omega
    have l0 : (less + 0).toInt = l := by rw [tadd (by rw [show (0 : Int32).toInt = 0 from rfl]; omega) (by rw [show (0 : Int32).toInt = 0 from rfl]; omega), show (0 : Int32).toInt = 0 from rfl]; omega
    have m0 : (alike + 0).toInt = m := by rw [tadd (by rw [show (0 : Int32).toInt = 0 from rfl]; omega) (by rw [show (0 : Int32).toInt = 0 from rfl]; omega), show (0 : Int32).toInt = 0 from rfl]; omega
    have l1 : (less + 1).toInt = (l + 1 : Nat) := by rw [tinc' (by omega)]; omega
    have m1 : (alike + 1).toInt = (m + 1 : Nat) := by rw [tinc' (by omega)]; omega
    have ni : i.toNatClampNeg = j := tnN hi
    have vi : vp_in i 1000 := by rw [vp_in_iff]; omega
    have hj2 : j < A.length := by omega
    have ej : A[j] = T.1 157 j := by
      have := hA j hj2
      rw [List.getElem?_eq_getElem hj2] at this
      exact Option.some.inj this
    have dr : A.drop j = T.1 157 j :: A.drop (j + 1) := by rw [List.drop_eq_getElem_cons hj2, ej]
    rw [dr, mdC_cons]
    have ev : ∀ n, (vl_X11_hardness (n + (k + 1) + 1)).2.2.2.1 T N a q less alike i = (vl_X11_hardness (n + k + 1)).2.2.2.1 T N a q (less + if T.1 157 j < T.1 157 nq then 1 else 0) (alike + if T.1 157 j = T.1 157 nq then 1 else 0) (i + 1) := by
      intro n
      rw [show n + (k + 1) + 1 = (n + k + 1) + 1 by omega, vl_X11_hardness_s3, if_neg c, nq', ni]
      by_cases d1 : T.1 157 nq ≤ T.1 157 j
      · rw [if_pos d1, if_neg (show ¬ T.1 157 j < T.1 157 nq by grind)]
        by_cases d2 : T.1 157 j = T.1 157 nq
        · rw [if_pos d2, if_pos d2]
        · rw [if_neg d2, if_neg d2]
      · rw [if_neg d1, if_pos (show T.1 157 j < T.1 157 nq by grind)]
        by_cases d2 : T.1 157 j = T.1 157 nq
        · rw [if_pos d2, if_pos d2]
        · rw [if_neg d2, if_neg d2]
    have eo : ∀ n, (okl_X11_hardness (n + k + 1)).2.2.2.1 sz T N a q (less + if T.1 157 j < T.1 157 nq then 1 else 0) (alike + if T.1 157 j = T.1 157 nq then 1 else 0) (i + 1) → (okl_X11_hardness (n + (k + 1) + 1)).2.2.2.1 sz T N a q less alike i := by
      intro n w
      rw [show n + (k + 1) + 1 = (n + k + 1) + 1 by omega, okl_X11_hardness_s3, nq', ni]
      refine ⟨fun q => absurd q c, fun _ => ⟨vi, vq, fun d1 => ⟨vi, vq, fun d2 => ?_, fun d2 => ?_⟩, fun d1 => ⟨vi, vq, fun d2 => ?_, fun d2 => ?_⟩⟩⟩
      · rw [if_neg (show ¬ T.1 157 j < T.1 157 nq by grind), if_neg d2] at w
        exact w
      · rw [if_neg (show ¬ T.1 157 j < T.1 157 nq by grind), if_pos d2] at w
        exact w
      · rw [if_pos (show T.1 157 j < T.1 157 nq by grind), if_neg d2] at w
        exact w
      · rw [if_pos (show T.1 157 j < T.1 157 nq by grind), if_pos d2] at w
        exact w
    have hl' : (less + if T.1 157 j < T.1 157 nq then 1 else 0).toInt = ((if T.1 157 j < T.1 157 nq then l + 1 else l : Nat) : Int) := by
      split
      · exact l1
      · exact l0
    have hm' : (alike + if T.1 157 j = T.1 157 nq then 1 else 0).toInt = ((if T.1 157 j = T.1 157 nq then m + 1 else m : Nat) : Int) := by
      split
      · exact m1
      · exact m0
    obtain ⟨t1, t2⟩ := ih (j + 1) _ _ (i + 1) _ _ e1 (by omega) hl' hm' (by split <;> split <;> omega)
    exact ⟨fun d => ⟨fun n => (ev n).trans ((t1 d).1 n), fun n => eo n ((t1 d).2 n)⟩, fun d => ⟨fun n => (ev n).trans ((t2 d).1 n), fun n w => eo n ((t2 d).2 n w)⟩⟩
theorem mdC_Mid {A : List Int32} {w : Int32} {na : Nat} : mdC w A 0 0 na ↔ Mid A na w := by
  unfold mdC Mid
  rw [Nat.zero_add, Nat.zero_add]
theorem md_out {sz : Nat} {T : tT} {A : List Int32} {N a v : Int32} {na : Nat} (hN : N.toInt = (A.length : Nat)) (hA : Arr (T.1 157) A) (hA2 : A.length ≤ 200) (ha : a.toInt = na) (hv : Mid A na v) : ∀ (k nq : Nat) (q : Int32), q.toInt = nq → nq + k = A.length → v ∈ A.drop nq → ∃ u : Nat, u ≤ k * 202 ∧ (∀ n, (vl_X11_hardness (n + u)).2.1 T N a q = (v, T)) ∧ (∀ n, (okl_X11_hardness (n + u)).2.1 sz T N a q) := by
  intro k
  induction k with
  | zero =>
    intro nq q hq hk hm
    rw [List.drop_eq_nil_of_le (by omega)] at hm
    cases hm
  | succ k ih =>
    intro nq q hq hk hm
    have c : ¬ N ≤ q := by rw [tle]; omega
    have hq2 : nq < A.length := by omega
    obtain ⟨t1, t2⟩ := md_in (sz := sz) hN hA hA2 ha hq hq2 A.length 0 0 0 0 0 0 rfl (by omega) rfl rfl (by omega)
    rw [List.drop_zero, mdC_Mid] at t1 t2
    have ej : A[nq] = T.1 157 nq := by
      have := hA nq hq2
      rw [List.getElem?_eq_getElem hq2] at this
      exact Option.some.inj this
    have dr : A.drop nq = T.1 157 nq :: A.drop (nq + 1) := by rw [List.drop_eq_getElem_cons hq2, ej]
    by_cases d : T.1 157 nq = v
    · rw [d] at t1
      refine ⟨A.length + 2, by omega, fun n => ?_, fun n => ?_⟩
      · rw [show n + (A.length + 2) = (n + A.length + 1) + 1 by omega, vl_X11_hardness_s1, if_neg c, (t1 hv).1]
      · rw [show n + (A.length + 2) = (n + A.length + 1) + 1 by omega, okl_X11_hardness_s1]
        exact ⟨fun q => absurd q c, fun _ => (t1 hv).2 n⟩
    · rw [dr, List.mem_cons] at hm
      obtain ⟨u, w1, w2, w3⟩ := ih (nq + 1) (q + 1) (by rw [tinc' (by omega)]; omega) (by omega) (hm.resolve_left (fun e => d e.symm))
      have nm : ¬ Mid A na (T.1 157 nq) := fun w => d (Mid_uniq w hv)
      refine ⟨u + A.length + 2, by omega, fun n => ?_, fun n => ?_⟩
      · rw [show n + (u + A.length + 2) = ((n + u) + A.length + 1) + 1 by omega, vl_X11_hardness_s1, if_neg c, (t2 nm).1, w2]
      · rw [show n + (u + A.length + 2) = ((n + u) + A.length + 1) + 1 by omega, okl_X11_hardness_s1]
        exact ⟨fun q => absurd q c, fun _ => (t2 nm).2 _ (w3 n)⟩
theorem fm_if {α β : Type} (l : List α) (p : α → Bool) (f : α → List β) : l.flatMap (fun a => if p a = true then f a else []) = (l.filter p).flatMap f := by
  induction l with
  | nil => rfl
  | cons a l ih =>
    rw [List.flatMap_cons, ih, List.filter_cons]
    cases p a
    · rfl
    · rfl
theorem fm_len {α β γ : Type} (l : List α) (f : α → List β) (g : α → List γ) (h : ∀ a, (f a).length = (g a).length) : (l.flatMap f).length = (l.flatMap g).length := by
  induction l with
  | nil => rfl
  | cons a l ih => rw [List.flatMap_cons, List.flatMap_cons, List.length_append, List.length_append, ih, h]
noncomputable def isL (T : tT) (x m : Int32) : Bool := decide (T.1 95 m.toNatClampNeg = x ∧ lo T x (T.1 94 m.toNatClampNeg) (T.1 96 m.toNatClampNeg) = m)
theorem cL_eq {T : tT} (x : Int32) (En j : Nat) (m : Int32) : cL T x En j m = ((ir j m).filter (isL T x)).flatMap (fun m => gL T x (T.1 94 m.toNatClampNeg) (T.1 96 m.toNatClampNeg) En 0) := by
  rw [← fm_if]
  unfold cL isL
  simp only [decide_eq_true_eq]
theorem isL_mem {T : tT} {x : Int32} {C : Nat} (hC : (T.1 93 1).toInt = C) (hC2 : C ≤ 200) {m : Int32} (h : m ∈ (ir C 0).filter (isL T x)) : 0 ≤ m ∧ m < T.1 93 1 ∧ T.1 95 m.toNatClampNeg = x ∧ lo T x (T.1 94 m.toNatClampNeg) (T.1 96 m.toNatClampNeg) = m := by
  rw [List.mem_filter, ir_mem (by rw [show (0 : Int32).toInt = 0 from rfl]; omega)] at h
  unfold isL at h
  rw [decide_eq_true_eq] at h
  refine ⟨tle.mpr h.1.1, ?_, h.2⟩
  rw [tlt, hC]
  have := h.1.2
  rw [show (0 : Int32).toInt = 0 from rfl] at this
  omega
theorem cL_len {T : tT} (hL : ILe T) (x : Int32) (En C : Nat) (hEn : En ≤ 5) (hC : (T.1 93 1).toInt = C) : (cL T x En C 0).length ≤ 200 := by
  have C200 : (T.1 93 1).toInt ≤ 200 := tle.mp hL.2.1.2.1
  have z0 : (0 : Int32).toInt = 0 := rfl
  have e : (cL T x En C 0).length = (((ir C 0).filter (isL T x)).flatMap (fun m => (ir En 0).filterMap (fun x' => if x' = x ∨ lo T x' (T.1 94 m.toNatClampNeg) (T.1 96 m.toNatClampNeg) = -1 then none else some (lo T x' (T.1 94 m.toNatClampNeg) (T.1 96 m.toNatClampNeg))))).length := by
    rw [cL_eq]
    apply fm_len
    intro m
    unfold gL gp
    generalize ir En 0 = l
    induction l with
    | nil => rfl
    | cons a l ih =>
      rw [List.filterMap_cons, List.filterMap_cons]
      by_cases c : a = x ∨ lo T a (T.1 94 m.toNatClampNeg) (T.1 96 m.toNatClampNeg) = -1
      · rw [if_pos c, if_pos c]
        exact ih
      · rw [if_neg c, if_neg c]
        simp only [List.length_cons]
        rw [ih]
  rw [e]
  have r : ∀ t e p : Int32, lo T t e p ≠ -1 → 0 ≤ lo T t e p ∧ lo T t e p < T.1 93 1 ∧ T.1 95 (lo T t e p).toNatClampNeg = t ∧ T.1 94 (lo T t e p).toNatClampNeg = e ∧ T.1 96 (lo T t e p).toNatClampNeg = p := fun t e p h => (lo_rng hL t e p).resolve_left h
  refine Nat.le_trans (nd_len (r := ir C 0) ?_ ?_) (by rw [ir_len]; omega)
  · rw [List.Nodup, List.pairwise_flatMap]
    constructor
    · intro m hm
      rw [List.pairwise_filterMap]
      have nd : (ir En 0).Pairwise (· ≠ ·) := ir_nodup (by omega)
      refine nd.imp ?_
      intro a b hab y hy y' hy'
      have hy1 : ¬ (a = x ∨ lo T a (T.1 94 m.toNatClampNeg) (T.1 96 m.toNatClampNeg) = -1) := by
        intro q; rw [if_pos q] at hy; cases hy
      have hy2 : ¬ (b = x ∨ lo T b (T.1 94 m.toNatClampNeg) (T.1 96 m.toNatClampNeg) = -1) := by
        intro q; rw [if_pos q] at hy'; cases hy'
      rw [if_neg hy1] at hy
      rw [if_neg hy2] at hy'
      cases hy
      cases hy'
      intro q
      apply hab
      rw [← (r a _ _ (fun w => hy1 (Or.inr w))).2.2.1, ← (r b _ _ (fun w => hy2 (Or.inr w))).2.2.1, q]
    · have nd : ((ir C 0).filter (isL T x)).Pairwise (· ≠ ·) := List.Pairwise.filter _ (ir_nodup (by omega))
      refine nd.imp_of_mem ?_
      intro m1 m2 h1 h2 hne y hy y' hy' q
      obtain ⟨a, _, ha⟩ := List.mem_filterMap.mp hy
      obtain ⟨b, _, hb⟩ := List.mem_filterMap.mp hy'
      have hy1 : ¬ (a = x ∨ lo T a (T.1 94 m1.toNatClampNeg) (T.1 96 m1.toNatClampNeg) = -1) := by
        intro q; rw [if_pos q] at ha; cases ha
      have hy2 : ¬ (b = x ∨ lo T b (T.1 94 m2.toNatClampNeg) (T.1 96 m2.toNatClampNeg) = -1) := by
        intro q; rw [if_pos q] at hb; cases hb
      rw [if_neg hy1] at ha
      rw [if_neg hy2] at hb
      cases ha
      cases hb
      have ra := r a _ _ (fun w => hy1 (Or.inr w))
      have rb := r b _ _ (fun w => hy2 (Or.inr w))
      have i1 := isL_mem hC (by omega) h1
      have i2 := isL_mem hC (by omega) h2
      apply hne
      have k1 : T.1 94 m1.toNatClampNeg = T.1 94 m2.toNatClampNeg := ra.2.2.2.1.symm.trans ((congrArg (fun z : Int32 => T.1 94 z.toNatClampNeg) q).trans rb.2.2.2.1)
      have k2 : T.1 96 m1.toNatClampNeg = T.1 96 m2.toNatClampNeg := ra.2.2.2.2.symm.trans ((congrArg (fun z : Int32 => T.1 96 z.toNatClampNeg) q).trans rb.2.2.2.2)
      rw [← i1.2.2.2, ← i2.2.2.2, k1, k2]
  · intro y hy
    rw [List.mem_flatMap] at hy
    obtain ⟨m, hm, hy⟩ := hy
    obtain ⟨a, _, ha⟩ := List.mem_filterMap.mp hy
    have hy1 : ¬ (a = x ∨ lo T a (T.1 94 m.toNatClampNeg) (T.1 96 m.toNatClampNeg) = -1) := by
      intro q; rw [if_pos q] at ha; cases ha
    rw [if_neg hy1] at ha
    cases ha
    have ra := r a _ _ (fun w => hy1 (Or.inr w))
    rw [ir_mem (by omega)]
    have r1 := tle.mp ra.1
    have r2 := tlt.mp ra.2.1
    omega
theorem cr_perm {T : tT} (hL : ILe T) (x : Int32) (En C M : Nat) (hC : (T.1 93 1).toInt = C) (hM : (T.1 69 0).toInt = M) (hM40 : M ≤ 40) : (cL T x En C 0).Perm (rL T x En M 0) := by
  have C200 : (T.1 93 1).toInt ≤ 200 := tle.mp hL.2.1.2.1
  have z0 : (0 : Int32).toInt = 0 := rfl
  have e1 : cL T x En C 0 = (((ir C 0).filter (isL T x)).map (fun m => (T.1 94 m.toNatClampNeg, T.1 96 m.toNatClampNeg))).flatMap (fun q : Int32 × Int32 => gL T x q.1 q.2 En 0) := by
    rw [cL_eq, List.flatMap_map]
  have e2 : rL T x En M 0 = (((ir M 0).flatMap (fun e => (ir 6 0).map (fun p => (e, p)))).filter (fun q : Int32 × Int32 => decide (lo T x q.1 q.2 ≠ -1))).flatMap (fun q : Int32 × Int32 => gL T x q.1 q.2 En 0) := by
    rw [← fm_if, List.flatMap_assoc]
    unfold rL
    congr 1
    funext e
    rw [List.flatMap_map]
    congr 1
    funext p
    unfold gE
    by_cases c : lo T x e p = -1
    · rw [if_pos c, if_neg (by simpa using c)]
    · rw [if_neg c, if_pos (by simpa using c)]
  rw [e1, e2]
  apply List.Perm.flatMap_right
  apply nd_perm
  · rw [List.Nodup, List.pairwise_map]
    have nd : ((ir C 0).filter (isL T x)).Pairwise (· ≠ ·) := List.Pairwise.filter _ (ir_nodup (by omega))
    refine nd.imp_of_mem ?_
    intro m1 m2 h1 h2 hne q
    have i1 := isL_mem hC (by omega) h1
    have i2 := isL_mem hC (by omega) h2
    apply hne
    rw [← i1.2.2.2, ← i2.2.2.2, (Prod.mk.inj q).1, (Prod.mk.inj q).2]
  · apply List.Pairwise.filter
    rw [List.pairwise_flatMap]
    constructor
    · intro e he
      rw [List.pairwise_map]
      have nd : (ir 6 0).Pairwise (· ≠ ·) := ir_nodup (by omega)
      exact nd.imp (fun h q => h (Prod.mk.inj q).2)
    · have nd : (ir M 0).Pairwise (· ≠ ·) := ir_nodup (by omega)
      refine nd.imp ?_
      intro a b hab y hy y' hy' q
      obtain ⟨p, _, hp⟩ := List.mem_map.mp hy
      obtain ⟨p', _, hp'⟩ := List.mem_map.mp hy'
      apply hab
      rw [← hp, ← hp'] at q
      exact (Prod.mk.inj q).1
  · rintro ⟨e, p⟩
    rw [List.mem_map, List.mem_filter, List.mem_flatMap]
    constructor
    · rintro ⟨m, hm, hq⟩
      have i1 := isL_mem hC (by omega) hm
      have q1 := (Prod.mk.inj hq).1
      have q2 := (Prod.mk.inj hq).2
      have b1 := hL.2.2.2.2.1 m.toNatClampNeg
      have b2 := hL.2.2.2.2.2.1 m i1.1 i1.2.1
      have b3 := hL.2.2.2.2.2.2.2.2.1 m.toNatClampNeg
      rw [q1] at b1 b2
      rw [q2] at b3
      refine ⟨⟨e, ?_, List.mem_map.mpr ⟨p, ?_, rfl⟩⟩, ?_⟩
      · rw [ir_mem (by omega)]
        have := tle.mp b1.1
        have := tlt.mp b2
        omega
      · rw [ir_mem (by omega)]
        have := tle.mp b3.1
        have := tlt.mp b3.2
        rw [show (6 : Int32).toInt = 6 from rfl] at this
        omega
      · rw [decide_eq_true_eq]
        rw [q1, q2] at i1
        rw [i1.2.2.2]
        intro w
        rw [w] at i1
        exact absurd i1.1 (by decide)
    · rintro ⟨_, hlo⟩
      rw [decide_eq_true_eq] at hlo
      have ra := (lo_rng hL x e p).resolve_left hlo
      refine ⟨lo T x e p, ?_, ?_⟩
      · rw [List.mem_filter]
        constructor
        · rw [ir_mem (by omega)]
          have := tle.mp ra.1
          have := tlt.mp ra.2.1
          omega
        · unfold isL
          rw [decide_eq_true_eq, ra.2.2.2.1, ra.2.2.2.2]
          exact ⟨ra.2.2.1, rfl⟩
      · rw [ra.2.2.2.1, ra.2.2.2.2]
theorem q_hardness {sz : Nat} {T : tT} (h : I6 T) (x0 : Int32) : ok_X10_hardness sz T x0 ∧ ok_X11_hardness sz (F_X10_hardness T x0).2 x0 ∧ (F_X10_hardness T x0).2.1 0 = T.1 0 ∧ (F_X10_hardness T x0).1 = (F_X11_hardness (F_X10_hardness T x0).2 x0).1 ∧ I6 (F_X11_hardness (F_X10_hardness T x0).2 x0).2 ∧ fr (wl [100, 157] []) T (F_X11_hardness (F_X10_hardness T x0).2 x0).2 := by
  have hI := h
  obtain ⟨hC, hE, hL, hS, hA, hP⟩ := h
  have q := hC.1
  have b := hC.2.1
  have z0 : (0 : Int32).toInt = 0 := rfl
  by_cases c : 0 ≤ x0 ∧ x0 < T.1 79 1
  · obtain ⟨C, hCn⟩ : ∃ C : Nat, (T.1 93 1).toInt = C := ⟨(T.1 93 1).toInt.toNat, by have : 0 ≤ (T.1 93 1).toInt := tle.mp hL.2.1.1; omega⟩
    obtain ⟨En, hEn⟩ : ∃ C : Nat, (T.1 79 1).toInt = C := ⟨(T.1 79 1).toInt.toNat, by have : 0 ≤ (T.1 79 1).toInt := tle.mp b.2.2.1; omega⟩
    obtain ⟨M, hM⟩ : ∃ C : Nat, (T.1 69 0).toInt = C := ⟨(T.1 69 0).toInt.toNat, by have : 0 ≤ (T.1 69 0).toInt := tle.mp hE.2.1.1; omega⟩
    have En5 : En ≤ 5 := by have : (T.1 79 1).toInt ≤ 5 := tle.mp b.2.2.2.1; omega
    have M40 : M ≤ 40 := by have : (T.1 69 0).toInt ≤ 40 := tle.mp hE.2.1.2; omega
    have C200 : C ≤ 200 := by have : (T.1 93 1).toInt ≤ 200 := tle.mp hL.2.1.2.1; omega
    have len := cL_len hL x0 En C En5 hCn
    have pm := cr_perm hL x0 En C M hCn hM M40
    obtain ⟨u, T1, found, t1, t2, t3, t4, t5⟩ := hc_out (sz := sz) hL x0 (T.1 79 1) En hEn En5 C T 0 [] 0 fr_refl ⟨[], List.Perm.refl _, List.Pairwise.nil, rfl, fun i hi => absurd hi (Nat.not_lt_zero _)⟩ (by omega) (by decide) (by rw [List.length_nil]; omega)
    obtain ⟨n1, hn1⟩ : ∃ n, fu = n + u + 1 := ⟨10000000 - u - 1, by rw [fu_eq]; omega⟩
    have ex : v_X1_hasExaminer T x0 ≠ 0 := by unfold v_X1_hasExaminer; grind
    have E1 : F_X10_hardness T x0 = if found = 0 then (-1000, T1) else (T1.1 100 ((found - 1) / 2).toNatClampNeg, T1) := by
      unfold F_X10_hardness F_X5_hardnessOf
      rw [if_neg ex, hn1, t2]
    have o1 : ok_X10_hardness sz T x0 := by
      refine ⟨fun _ => ⟨?_, trivial⟩, fun q => absurd q ex⟩
      unfold ok_X5_hardnessOf
      rw [hn1]
      exact t3 n1
    have E1' : (F_X10_hardness T x0).2 = T1 := by rw [E1]; split <;> rfl
    rw [E1']
    have m1 := fr_mEq t4 rfl
    have hL1 : ILe T1 := ILe_fz (fz_of t4 rfl) hL
    have g57 : T1.1 105 57 = T.1 79 1 := by rw [← q.2.1]; exact fr_i t4 rfl
    have g48 : T1.1 105 48 = T.1 69 0 := by rw [← hE.1]; exact fr_i t4 rfl
    have rle : rL T1 x0 En M 0 = rL T x0 En M 0 := by
      unfold rL gE
      congr 1
      funext e
      congr 1
      funext p
      rw [lo_cg m1, gL_cg m1]
    have rlen : (rL T x0 En M 0).length ≤ 200 := by rw [← pm.length_eq]; exact len
    obtain ⟨u2, T2, N2, s1, s2, s3, s4, s5, s6⟩ := hr_e (sz := sz) hL1 x0 (T.1 79 1) (T.1 69 0) En hEn c.1 (by grind) g57 b.2.2.2.1 g48 M T1 0 [] 0 fr_refl rfl (fun i hi => absurd hi (Nat.not_lt_zero _)) (by rw [rle, List.length_nil]; omega) (by omega) (by decide)
    rw [List.nil_append, rle] at s5 s6
    rw [List.append_nil] at t5
    obtain ⟨s, p1, p2, p3, p4⟩ := t5
    have ls : s.length = (rL T x0 En M 0).length := p1.length_eq.trans pm.length_eq
    have ex1 : v_X11_isExaminer T1 x0 ≠ 0 := by unfold v_X11_isExaminer; rw [g57]; grind
    have key : ok_X11_hardness sz T1 x0 ∧ F_X11_hardness T1 x0 = ((F_X10_hardness T x0).1, T2) := by
      rw [E1]
      by_cases c0 : s.length = 0
      · have f0 : found = 0 := by rw [teq, p3, c0]; rfl
        have n0 : N2 = 0 := by rw [teq, s5, ← ls, c0]; rfl
        obtain ⟨n2, hn2⟩ : ∃ n, fu = n + u2 := ⟨10000000 - u2, by rw [fu_eq]; omega⟩
        refine ⟨⟨fun _ => ?_, fun q => absurd q ex1⟩, ?_⟩
        · rw [hn2]
          exact s3 n2 (fun q => absurd n0 q)
        · unfold F_X11_hardness
          rw [if_neg ex1, hn2, s2, if_pos n0, if_pos f0]
      · have f0 : found ≠ 0 := by intro w; rw [w, z0] at p3; omega
        have n0 : N2 ≠ 0 := by intro w; rw [w, z0] at s5; omega
        have hf : ((found - 1) / 2).toInt = ((s.length - 1) / 2 : Nat) := half p3 (by omega) (by omega)
        have hn : ((N2 - 1) / 2).toInt = ((s.length - 1) / 2 : Nat) := by
          rw [ls]
          exact half s5 (by omega) (by omega)
        have ga := p4 ((s.length - 1) / 2) (by omega)
        have md := Mid_sorted p2 ga
        have md2 := Mid_perm (p1.trans pm) md
        have mem : T1.1 100 ((s.length - 1) / 2) ∈ rL T x0 En M 0 := (p1.trans pm).mem_iff.mp (List.mem_of_getElem? ga)
        obtain ⟨u3, w1, w2, w3⟩ := md_out (sz := sz) s5 s6 rlen hn md2 (rL T x0 En M 0).length 0 0 rfl (by omega) (by rw [List.drop_zero]; exact mem)
        obtain ⟨n2, hn2⟩ : ∃ n, fu = (n + u3) + u2 := ⟨10000000 - u2 - u3, by rw [fu_eq]; omega⟩
        refine ⟨⟨fun _ => ?_, fun q => absurd q ex1⟩, ?_⟩
        · rw [hn2]
          exact s3 _ (fun _ => w3 n2)
        · unfold F_X11_hardness
          rw [if_neg ex1, hn2, s2, if_neg n0, w2, if_neg f0, tnN hf]
    rw [key.2]
    have f2 : fr (wl [100, 157] []) T T2 := by
      intro k i hk
      have k1 : wl [100] [] k i = false := by
        unfold wl at *
        simp only [List.contains_cons, List.contains_nil, Bool.or_false, Bool.or_eq_false_iff] at *
        exact hk.1
      have k2 : wl [157] [] k i = false := by
        unfold wl at *
        simp only [List.contains_cons, List.contains_nil, Bool.or_false, Bool.or_eq_false_iff] at *
        exact hk.2
      obtain ⟨u1, u2, u3⟩ := t4 k i k1
      obtain ⟨w1, w2, w3⟩ := s4 k i k2
      exact ⟨w1.trans u1, w2.trans u2, w3.trans u3⟩
    exact ⟨o1, key.1, fr_ri t4 (fun _ => rfl), rfl, ⟨ICi_fz (fz_of f2 rfl) hC, IEn_fz (fz_of f2 rfl) hE, ILe_fz (fz_of f2 rfl) hL, ICe_fz (fz_of f2 rfl) hS, ITa_fz (fz_of f2 rfl) hA, IPl_fz (fz_of f2 rfl) hP⟩, f2⟩
  · have ex : v_X1_hasExaminer T x0 = 0 := by unfold v_X1_hasExaminer; grind
    have ex1 : v_X11_isExaminer T x0 = 0 := by unfold v_X11_isExaminer; grind
    have E1 : F_X10_hardness T x0 = (-1000, T) := by unfold F_X10_hardness; rw [if_pos ex]
    have E2 : F_X11_hardness T x0 = (-1000, T) := by unfold F_X11_hardness; rw [if_pos ex1]
    rw [E1]
    dsimp only
    rw [E2]
    exact ⟨⟨fun q => absurd ex q, fun _ => trivial⟩, ⟨fun q => absurd ex1 q, fun _ => trivial⟩, rfl, rfl, hI, fr_refl⟩
