/-! lists of counters; sorted rows; the middle one -/
def ir : Nat → Int32 → List Int32
  | 0, _ => []
  | k + 1, v => v :: ir k (v + 1)
theorem ir_len (k : Nat) (v : Int32) : (ir k v).length = k := by
  induction k generalizing v with
  | zero => rfl
  | succ k ih => simp only [ir, List.length_cons, ih]
theorem tinc' {v : Int32} (h : v.toInt + 1 < 2147483648) : (v + 1).toInt = v.toInt + 1 := by
  have e : (1 : Int32).toInt = 1 := rfl
  have c' := v.le_toInt
  rw [tadd (by omega) (by omega), e]
theorem ir_mem {k : Nat} {v a : Int32} (h : v.toInt + k < 2147483648) : a ∈ ir k v ↔ v.toInt ≤ a.toInt ∧ a.toInt < v.toInt + k := by
  induction k generalizing v with
  | zero => simp only [ir, List.not_mem_nil, false_iff]; omega
  | succ k ih =>
    have e := tinc' (v := v) (by omega)
    simp only [ir, List.mem_cons]
    rw [ih (by omega), teq, e]
    omega
theorem ir_nodup {k : Nat} {v : Int32} (h : v.toInt + k < 2147483648) : (ir k v).Nodup := by
  induction k generalizing v with
  | zero => exact List.nodup_nil
  | succ k ih =>
    have e := tinc' (v := v) (by omega)
    simp only [ir, List.nodup_cons]
    refine ⟨?_, ih (by omega)⟩
    rw [ir_mem (by omega)]
    omega
theorem nd_len {l r : List Int32} (hl : l.Nodup) (hs : ∀ a ∈ l, a ∈ r) : l.length ≤ r.length := by
  induction l generalizing r with
  | nil => exact Nat.zero_le _
  | cons a l ih =>
    rw [List.nodup_cons] at hl
    have h1 : a ∈ r := hs a (List.mem_cons_self ..)
    have h2 := ih (r := r.erase a) hl.2 (fun b hb => (List.mem_erase_of_ne (fun (q : b = a) => hl.1 (by rw [← q]; exact hb))).mpr (hs b (List.mem_cons_of_mem _ hb)))
    rw [List.length_erase_of_mem h1] at h2
    have h3 : 0 < r.length := List.length_pos_of_mem h1
    simp only [List.length_cons]
    omega
theorem nd_perm {l r : List (Int32 × Int32)} (hl : l.Nodup) (hr : r.Nodup) (h : ∀ a, a ∈ l ↔ a ∈ r) : l.Perm r := by
  rw [List.perm_iff_count]
  intro a
  rw [hl.count, hr.count]
  simp only [h a]
/-- a row holds a list -/
def Arr (f : Nat → Int32) (s : List Int32) : Prop := ∀ i, i < s.length → s[i]? = some (f i)
theorem Arr_app {f : Nat → Int32} {s : List Int32} {g : Int32} (h : Arr f s) : Arr (va_up f s.length g) (s ++ [g]) := by
  intro i hi
  rw [List.length_append, List.length_singleton] at hi
  unfold va_up
  by_cases c : i = s.length
  · rw [if_pos c, c, List.getElem?_append_right (Nat.le_refl _), Nat.sub_self]; rfl
  · rw [if_neg c, List.getElem?_append_left (by omega)]
    exact h i (by omega)
def InsI (f : Nat → Int32) (s : List Int32) (a : Nat) (g : Int32) : Prop := (∀ i, i < a → s[i]? = some (f i)) ∧ (∀ i, a < i → i ≤ s.length → s[i - 1]? = some (f i)) ∧ (∀ j y, a ≤ j → s[j]? = some y → g < y)
theorem ins_end {f : Nat → Int32} {s : List Int32} {a : Nat} {g : Int32} (ha : a ≤ s.length) (hs : s.Pairwise (· ≤ ·)) (h : InsI f s a g) (hg : a = 0 ∨ f (a - 1) ≤ g) : Arr (va_up f a g) (s.take a ++ g :: s.drop a) ∧ (s.take a ++ g :: s.drop a).Pairwise (· ≤ ·) ∧ (s.take a ++ g :: s.drop a).Perm (g :: s) := by
  obtain ⟨h1, h2, h3⟩ := h
  have lt : (s.take a).length = a := by rw [List.length_take]; omega
  refine ⟨?_, ?_, ?_⟩
  · intro i hi
    rw [List.length_append, List.length_cons, List.length_drop, lt] at hi
    unfold va_up
    by_cases c : i < a
    · rw [if_neg (by omega), List.getElem?_append_left (by omega), List.getElem?_take, if_pos c]
      exact h1 i c
    · rw [List.getElem?_append_right (by omega), lt]
      by_cases c2 : i = a
      · rw [if_pos c2, c2, Nat.sub_self]; rfl
      · rw [if_neg c2, show i - a = (i - a - 1) + 1 by omega, List.getElem?_cons_succ, List.getElem?_drop, show a + (i - a - 1) = i - 1 by omega]
        exact h2 i (by omega) (by omega)
  · rw [List.pairwise_append]
    have sp : (s.take a ++ s.drop a).Pairwise (· ≤ ·) := by rw [List.take_append_drop]; exact hs
    rw [List.pairwise_append] at sp
    refine ⟨sp.1, List.pairwise_cons.mpr ⟨?_, sp.2.1⟩, ?_⟩
    · intro y hy
      obtain ⟨j, hj⟩ := List.mem_iff_getElem?.mp hy
      rw [List.getElem?_drop] at hj
      have := h3 (a + j) y (by omega) hj
      grind
    · intro x hx y hy
      rw [List.mem_cons] at hy
      rcases hy with hy | hy
      · obtain ⟨j, hj⟩ := List.mem_iff_getElem?.mp hx
        rw [List.getElem?_take] at hj
        by_cases c : j < a
        · rw [if_pos c] at hj
          rcases hg with hg | hg
          · omega
          · have e1 := h1 (a - 1) (by omega)
            have le : x ≤ f (a - 1) := by
              by_cases c3 : j = a - 1
              · rw [c3, e1] at hj
                cases hj
                grind
              · rw [List.pairwise_iff_getElem] at hs
                obtain ⟨p1, p2⟩ := List.getElem?_eq_some_iff.mp hj
                obtain ⟨p3, p4⟩ := List.getElem?_eq_some_iff.mp e1
                have := hs j (a - 1) p1 p3 (by omega)
                rw [p2, p4] at this
                exact this
            grind
        · rw [if_neg c] at hj
          cases hj
      · exact sp.2.2 x hx y hy
  · exact List.perm_middle.trans (by rw [List.take_append_drop])
theorem ins_loop {sz : Nat} {s : List Int32} (hs : s.Pairwise (· ≤ ·)) (g found : Int32) (hN : s.length < 200) : ∀ (n a : Nat) (T : tT) (v : Int32), v.toInt = a → a ≤ s.length → InsI (T.1 100) s a g → a < n → ∃ T', vl_X5_insertGap n T g found v = (found + 1, T') ∧ okl_X5_insertGap n sz T g found v ∧ fr (wl [100] []) T T' ∧ ∃ s', s'.Perm (g :: s) ∧ s'.Pairwise (· ≤ ·) ∧ Arr (T'.1 100) s' := by
  intro n
  induction n with
  | zero => intro a T v hv ha h hn; omega
  | succ n ih =>
    intro a T v hv ha h hn
    rw [vl_X5_insertGap_s]
    simp only [okl_X5_insertGap]
    have nv : v.toNatClampNeg = a := tnN hv
    have vp : vp_in v 200 := by rw [vp_in_iff]; omega
    by_cases c : v ≤ 0
    · have a0 : a = 0 := by rw [tle, hv, show (0 : Int32).toInt = 0 from rfl] at c; omega
      rw [if_pos c, nv]
      have e := ins_end ha hs h (Or.inl a0)
      exact ⟨_, rfl, ⟨fun _ => vp, fun q => absurd c q⟩, fr_I rfl fr_refl, _, e.2.2, e.2.1, e.1⟩
    · have a0 : 0 < a := by rw [tle, hv, show (0 : Int32).toInt = 0 from rfl] at c; omega
      have d1 : (v - 1).toInt = ((a - 1 : Nat) : Int) := by
        have e1 : (1 : Int32).toInt = 1 := rfl
        rw [tsub (by omega) (by omega), e1, hv]
        omega
      have d2 : (v + -1).toInt = ((a - 1 : Nat) : Int) := by
        rw [tdec (by grind), hv]
        omega
      have nv1 : (v - 1).toNatClampNeg = a - 1 := tnN d1
      have vp1 : vp_in (v - 1) 200 := by rw [vp_in_iff]; omega
      rw [if_neg c, nv, nv1]
      by_cases c2 : T.1 100 (a - 1) ≤ g
      · rw [if_pos c2]
        have e := ins_end ha hs h (Or.inr c2)
        exact ⟨_, rfl, ⟨fun q => absurd q c, fun _ => ⟨vp1, fun _ => vp, fun q => absurd c2 q⟩⟩, fr_I rfl fr_refl, _, e.2.2, e.2.1, e.1⟩
      · rw [if_neg c2]
        obtain ⟨h1, h2, h3⟩ := h
        have e1 := h1 (a - 1) (by omega)
        obtain ⟨T', t1, t2, t3, t4⟩ := ih (a - 1) (tI T 100 a (T.1 100 (a - 1))) (v + -1) d2 (by omega) (by
          show InsI (va_up (T.1 100) a (T.1 100 (a - 1))) s (a - 1) g
          refine ⟨?_, ?_, ?_⟩
          · intro i hi
            unfold va_up
            rw [if_neg (by omega)]
            exact h1 i (by omega)
          · intro i hi hi2
            unfold va_up
            by_cases ci : i = a
            · rw [if_pos ci, ci]; exact e1
            · rw [if_neg ci]; exact h2 i (by omega) hi2
          · intro j y hj hy
            by_cases cj : j = a - 1
            · rw [cj, e1] at hy
              cases hy
              grind
            · exact h3 j y (by omega) hy) (by omega)
        exact ⟨T', t1, ⟨fun q => absurd q c, fun _ => ⟨vp1, fun q => absurd q c2, fun _ => ⟨vp1, vp, t2⟩⟩⟩, fr_trans (fr_I rfl fr_refl) t3, t4⟩
/-- the gaps so far, sorted in row 100 -/
def Srt (T : tT) (found : Int32) (L : List Int32) : Prop := ∃ s : List Int32, s.Perm L ∧ s.Pairwise (· ≤ ·) ∧ found.toInt = (s.length : Nat) ∧ Arr (T.1 100) s
theorem Srt_perm {T : tT} {found : Int32} {L L' : List Int32} (h : Srt T found L) (p : L.Perm L') : Srt T found L' := by
  obtain ⟨s, s1, s2⟩ := h
  exact ⟨s, s1.trans p, s2⟩
theorem ins_gap {sz : Nat} {T : tT} {found g : Int32} {L : List Int32} (h : Srt T found L) (hN : L.length < 200) : ∃ T', F_X5_insertGap T g found = (found + 1, T') ∧ ok_X5_insertGap sz T g found ∧ fr (wl [100] []) T T' ∧ Srt T' (found + 1) (g :: L) := by
  obtain ⟨s, s1, s2, s3, s4⟩ := h
  have len := s1.length_eq
  have c : found < 200 := by rw [tlt, s3, show (200 : Int32).toInt = 200 from rfl]; omega
  obtain ⟨T', t1, t2, t3, s', t4, t5, t6⟩ := ins_loop (sz := sz) s2 g found (by omega) fu s.length T found s3 (Nat.le_refl _) ⟨s4, fun i h1 h2 => by omega, fun j y h1 h2 => by rw [List.getElem?_eq_none (by omega)] at h2; cases h2⟩ (by rw [fu_eq]; omega)
  refine ⟨T', ?_, ⟨fun _ => t2, fun q => absurd c q⟩, t3, s', t4.trans (List.Perm.cons g s1), t5, ?_, t6⟩
  · unfold F_X5_insertGap
    rw [if_pos c, t1]
  · rw [tinc c, s3, t4.length_eq]
    rfl
/-- the middle value of a list: as many smaller ones as its place bears -/
def Mid (L : List Int32) (at' : Nat) (v : Int32) : Prop := L.countP (fun y => decide (y < v)) ≤ at' ∧ at' < L.countP (fun y => decide (y < v)) + L.countP (fun y => decide (y = v))
theorem cp_le (L : List Int32) (v : Int32) : L.countP (fun y => decide (y < v)) + L.countP (fun y => decide (y = v)) = L.countP (fun y => decide (y ≤ v)) := by
  induction L with
  | nil => rfl
  | cons a L ih =>
    simp only [List.countP_cons, decide_eq_true_eq]
    have : ∀ a v : Int32, (a ≤ v ↔ a < v ∨ a = v) := by intro a v; grind
    by_cases c1 : a < v
    · have c2 : a ≠ v := by grind
      have c3 : a ≤ v := by grind
      simp only [c1, c2, c3, if_true, if_false]; omega
    · by_cases c2 : a = v
      · subst c2
        have c3 : a ≤ a := by grind
        have c4 : ¬ a < a := by grind
        simp only [c3, c4, if_true, if_false]; omega
      · have c3 : ¬ a ≤ v := by grind
        simp only [c1, c2, c3, if_false]; omega
theorem cp_mono (L : List Int32) {p q : Int32 → Bool} (h : ∀ y, p y = true → q y = true) : L.countP p ≤ L.countP q := List.countP_mono_left (fun y _ hy => h y hy)
theorem Mid_uniq {L : List Int32} {a : Nat} {v w : Int32} (h1 : Mid L a v) (h2 : Mid L a w) : v = w := by
  unfold Mid at *
  rw [cp_le] at h1 h2
  by_cases c : v < w
  · have := cp_mono L (p := fun y => decide (y ≤ v)) (q := fun y => decide (y < w)) (fun y hy => by simp only [decide_eq_true_eq] at *; grind)
    omega
  · by_cases c2 : w < v
    · have := cp_mono L (p := fun y => decide (y ≤ w)) (q := fun y => decide (y < v)) (fun y hy => by simp only [decide_eq_true_eq] at *; grind)
      omega
    · grind
theorem Mid_sorted {s : List Int32} {a : Nat} {v : Int32} (hs : s.Pairwise (· ≤ ·)) (h : s[a]? = some v) : Mid s a v := by
  obtain ⟨ha, hv⟩ := List.getElem?_eq_some_iff.mp h
  rw [List.pairwise_iff_getElem] at hs
  unfold Mid
  rw [cp_le]
  have split : s = s.take a ++ s.drop a := (List.take_append_drop a s).symm
  have split2 : s = s.take (a + 1) ++ s.drop (a + 1) := (List.take_append_drop (a + 1) s).symm
  constructor
  · rw [split, List.countP_append]
    have z : (s.drop a).countP (fun y => decide (y < v)) = 0 := by
      rw [List.countP_eq_zero]
      intro y hy
      obtain ⟨j, hj⟩ := List.mem_iff_getElem?.mp hy
      rw [List.getElem?_drop] at hj
      obtain ⟨p1, p2⟩ := List.getElem?_eq_some_iff.mp hj
      have : v ≤ y := by
        by_cases c : j = 0
        · subst c
          rw [← p2, ← hv]
          exact Int32.le_refl _
        · have := hs a (a + j) ha p1 (by omega)
          rw [hv, p2] at this
          exact this
      simp only [decide_eq_true_eq]
      grind
    rw [z]
    have := List.countP_le_length (p := fun y => decide (y < v)) (l := s.take a)
    rw [List.length_take] at this
    omega
  · rw [split2, List.countP_append]
    have z : (s.take (a + 1)).countP (fun y => decide (y ≤ v)) = (s.take (a + 1)).length := by
      rw [List.countP_eq_length]
      intro y hy
      obtain ⟨j, hj⟩ := List.mem_iff_getElem?.mp hy
      rw [List.getElem?_take] at hj
      by_cases c : j < a + 1
      · rw [if_pos c] at hj
        obtain ⟨p1, p2⟩ := List.getElem?_eq_some_iff.mp hj
        have : y ≤ v := by
          by_cases c : j = a
          · subst c
            rw [← p2, ← hv]
            exact Int32.le_refl _
          · have := hs j a p1 ha (by omega)
            rw [hv, p2] at this
            exact this
        simp only [decide_eq_true_eq]
        exact this
      · rw [if_neg c] at hj
        cases hj
    rw [z, List.length_take]
    omega
theorem Mid_perm {L L' : List Int32} {a : Nat} {v : Int32} (p : L.Perm L') (h : Mid L a v) : Mid L' a v := by
  unfold Mid at *
  rw [← p.countP_eq, ← p.countP_eq]
  exact h
theorem half {v : Int32} {N : Nat} (h : v.toInt = N) (h0 : 0 < N) (h2 : N < 100000) : ((v - 1) / 2).toInt = ((N - 1) / 2 : Nat) := by
  have e1 : (1 : Int32).toInt = 1 := rfl
  have d : (v - 1).toInt = N - 1 := by
    rw [tsub (by omega) (by omega), e1, h]
  rw [Int32.toInt_div, d, show (2 : Int32).toInt = 2 from rfl, Int.tdiv_eq_ediv_of_nonneg (by omega)]
  rw [Int.bmod_eq_of_le (by omega) (by omega)]
  omega
