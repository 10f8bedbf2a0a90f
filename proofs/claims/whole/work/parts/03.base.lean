/-! An abstract heap: cells by small numbers (0: the script, 1: the static array of words, 2 and on: what was made, in the order of making).
A judgement ax_J over it: from every machine state that the abstract one stands for, the machine comes to Z. One rule an instruction. -/
abbrev ax_C : Type := (Nat × Nat × (Nat → Value)) ⊕ (Nat × (Nat → Value))
abbrev ax_H : Type := Nat × (Nat → ax_C)
def ax_v (g : Nat → Nat) (v : Value) : Value := match v with
  | .ref k => .ref (g k)
  | w => w
theorem ax_cat (g : Nat → Nat) (v : Value) : (ax_v g v).category = v.category := by cases v <;> rfl
def ax_ty (t : Nat) : FieldType := match t with
  | 0 => .int
  | 1 => .long
  | 2 => .byte
  | 3 => .boolean
  | 4 => .object "ExamTour$Syllabus"
  | _ => .object "ExamTour$Grade"
def ax_G (g : Nat → Nat) : Prop := (∀ k, 2 ≤ k → g (k + 1) = g k + 1) ∧ g 0 < g 2 ∧ g 1 < g 2
theorem ax_G.add {g : Nat → Nat} (h : ax_G g) : ∀ k, g (2 + k) = g 2 + k
  | 0 => rfl
  | k + 1 => by
    have := h.1 (2 + k) (by omega)
    rw [← Nat.add_assoc, this, ax_G.add h k]
    rfl
theorem ax_G.at {g : Nat → Nat} (h : ax_G g) {k : Nat} (hk : 2 ≤ k) : g k = g 2 + (k - 2) := by
  have := h.add (k - 2)
  rwa [show 2 + (k - 2) = k by omega] at this
theorem ax_G.ge {g : Nat → Nat} (h : ax_G g) {k : Nat} (hk : 2 ≤ k) : g 2 ≤ g k := by rw [h.at hk]; omega
theorem ax_G.ne {g : Nat → Nat} (h : ax_G g) {j k : Nat} (hk : 2 ≤ k) (hj : j ≠ k) : g j ≠ g k := by
  by_cases h2 : 2 ≤ j
  · rw [h.at h2, h.at hk]; omega
  · have h3 := h.ge hk
    have h4 := h.2
    rcases (show j = 0 ∨ j = 1 by omega) with rfl | rfl <;> omega
/-- is there a cell -/
def ax_pr (c : ax_C) : Prop := match c with
  | .inl (t, _, _) => t < 6
  | .inr (ci, _) => ci < 12
def ax_at (D : va_G) (g : Nat → Nat) (U : State) (H : Heap) (a : Nat) (c : ax_C) : Prop := match c with
  | .inl (t, n, f) => ∃ cell : Cell, H[a]? = some cell ∧ U.isArrayOf cell (ax_ty t) ∧ cell.vm ≠ .unknown ∧ (4 ≤ t → va_RA U cell.cls (ax_ty t)) ∧ n ≤ cell.slots.size ∧ cell.slots.size.toInt32 = Int32.ofNat n ∧ ∀ j, j < n → cell.slots[j]? = some (ax_v g (f j))
  | .inr (ci, fs) => ∃ r : vw_C, vwCl[ci]? = some r ∧ t_OB a (D.1 ci) r.2.2 (D.2 ci) H (fun k => ax_v g (fs k))
def ax_R (D : va_G) (g : Nat → Nat) (U : State) (h : ax_H) (H : Heap) : Prop := H.size = g h.1 ∧ 2 ≤ h.1 ∧ ∀ k, ax_pr (h.2 k) → ax_at D g U H (g k) (h.2 k)
theorem ax_at.moved {D : va_G} {g : Nat → Nat} {u U : State} {H : Heap} {a : Nat} {c : ax_C} (hvm : u.vm.Alike U.vm) (h : ax_at D g u H a c) : ax_at D g U H a c := by
  rcases c with ⟨t, n, f⟩ | ⟨ci, fs⟩
  · obtain ⟨cell, h1, h2, h3, h4, h5⟩ := h
    exact ⟨cell, h1, State.isArrayOf_alike hvm h2, h3, fun q => (h4 q).moved hvm, h5⟩
  · exact h
theorem ax_at.kept {D : va_G} {g : Nat → Nat} {U : State} {H H1 : Heap} {a : Nat} {c : ax_C} (h : ax_at D g U H a c) (hq : H1[a]? = H[a]?) : ax_at D g U H1 a c := by
  rcases c with ⟨t, n, f⟩ | ⟨ci, fs⟩
  · obtain ⟨cell, h1, h2⟩ := h
    exact ⟨cell, by rw [hq]; exact h1, h2⟩
  · obtain ⟨r, h1, h2⟩ := h
    exact ⟨r, h1, h2.kept hq⟩
theorem ax_at.lt {D : va_G} {g : Nat → Nat} {U : State} {H : Heap} {a : Nat} {c : ax_C} (h : ax_at D g U H a c) : a < H.size := by
  rcases c with ⟨t, n, f⟩ | ⟨ci, fs⟩
  · obtain ⟨cell, h1, h2⟩ := h
    exact (Array.getElem?_eq_some_iff.mp h1).1
  · obtain ⟨r, h1, cell, h2, -⟩ := h
    exact (Array.getElem?_eq_some_iff.mp h2).1
theorem ax_R.moved {D : va_G} {g : Nat → Nat} {u U : State} {h : ax_H} {H : Heap} (hvm : u.vm.Alike U.vm) (hR : ax_R D g u h H) : ax_R D g U h H := ⟨hR.1, hR.2.1, fun k hk => (hR.2.2 k hk).moved hvm⟩
/-- a cell is written -/
theorem ax_R.set {D : va_G} {g : Nat → Nat} {U : State} {h : ax_H} {H H1 : Heap} (hG : ax_G g) (hR : ax_R D g U h H) {k : Nat} (hk : 2 ≤ k) {c : ax_C} (z : H1.size = H.size) (oq : ∀ q : Nat, q ≠ g k → H1[q]? = H[q]?) (hc : ax_at D g U H1 (g k) c) : ax_R D g U (h.1, va_up h.2 k c) H1 := by
  refine ⟨z.trans hR.1, hR.2.1, fun j hj => ?_⟩
  by_cases e : j = k
  · subst e
    show ax_at D g U H1 (g j) (if j = j then c else _)
    rw [if_pos rfl]
    exact hc
  · have e2 : va_up h.2 k c j = h.2 j := if_neg e
    change ax_pr (va_up h.2 k c j) at hj
    show ax_at D g U H1 (g j) (va_up h.2 k c j)
    rw [e2] at hj ⊢
    exact (hR.2.2 j hj).kept (oq _ (hG.ne hk e))
/-- a cell is made -/
theorem ax_R.push {D : va_G} {g : Nat → Nat} {U : State} {h : ax_H} {H H1 : Heap} (hG : ax_G g) (hR : ax_R D g U h H) {c : ax_C} (z : H1.size = H.size + 1) (oq : ∀ q : Nat, q < H.size → H1[q]? = H[q]?) (hc : ax_at D g U H1 (g h.1) c) : ax_R D g U (h.1 + 1, va_up h.2 h.1 c) H1 := by
  refine ⟨by show H1.size = g (h.1 + 1); rw [z, hR.1, hG.1 _ hR.2.1], by have := hR.2.1; show 2 ≤ h.1 + 1; omega, fun j hj => ?_⟩
  by_cases e : j = h.1
  · subst e
    show ax_at D g U H1 (g h.1) (if h.1 = h.1 then c else _)
    rw [if_pos rfl]
    exact hc
  · have e2 : va_up h.2 h.1 c j = h.2 j := if_neg e
    change ax_pr (va_up h.2 h.1 c j) at hj
    show ax_at D g U H1 (g j) (va_up h.2 h.1 c j)
    rw [e2] at hj ⊢
    have := hR.2.2 j hj
    exact this.kept (oq _ this.lt)
/-! locals -/
def ax_L (g : Nat → Nat) (ls : Array Slot) (nL : Nat) (L : List (Option Value)) : Prop := ls.size = nL ∧ lv_wf ls ∧ ∀ (i : Nat) (v : Value), L[i]? = some (some v) → ls[i]? = some (.val (ax_v g v))
def ax_pairs (g : Nat → Nat) (L : List (Option Value)) : List (Nat × Value) := (List.range L.length).filterMap (fun i => match L[i]? with | some (some v) => some (i, ax_v g v) | _ => none)
theorem ax_pairs_mem {g : Nat → Nat} {L : List (Option Value)} {q : Nat × Value} : q ∈ ax_pairs g L ↔ ∃ v, L[q.1]? = some (some v) ∧ q.2 = ax_v g v := by
  unfold ax_pairs
  rw [List.mem_filterMap]
  constructor
  · rintro ⟨i, -, hi⟩
    split at hi
    · rename_i v hv
      cases hi
      exact ⟨v, hv, rfl⟩
    · cases hi
  · rintro ⟨v, h1, h2⟩
    refine ⟨q.1, List.mem_range.mpr (List.getElem?_eq_some_iff.mp h1).1, ?_⟩
    rw [h1]
    show some (q.1, ax_v g v) = some q
    rw [← h2]
theorem ax_L.has {g : Nat → Nat} {ls : Array Slot} {nL : Nat} {L : List (Option Value)} (h : ax_L g ls nL L) : lv_has ls nL (ax_pairs g L) := by
  refine ⟨h.1, h.2.1, fun q hq => ?_⟩
  obtain ⟨v, h1, h2⟩ := ax_pairs_mem.mp hq
  rw [h2]
  exact h.2.2 _ _ h1
/-- what a store at i leaves of the one before it: a long is gone -/
def ax_k (L : List (Option Value)) (i : Nat) : List (Option Value) := match i with
  | 0 => L
  | j + 1 => match L[j]? with
    | some (some (.long _)) => L.set j none
    | some (some (.double _)) => L.set j none
    | _ => L
def ax_s1 (L : List (Option Value)) (i : Nat) (v : Value) : List (Option Value) := (ax_k L i).set i (some v)
def ax_s2 (L : List (Option Value)) (i : Nat) (v : Value) : List (Option Value) := ((ax_k L i).set i (some v)).set (i + 1) none
theorem ax_k_get {L : List (Option Value)} {i j : Nat} {w : Value} (h : (ax_k L i)[j]? = some (some w)) : L[j]? = some (some w) ∧ ¬ (j + 1 = i ∧ w.category = 2) := by
  unfold ax_k at h
  split at h
  · exact ⟨h, fun q => by omega⟩
  · rename_i i' k
    have key : ∀ M : List (Option Value), M = L.set k none → M[j]? = some (some w) → L[j]? = some (some w) ∧ ¬ (j + 1 = k + 1 ∧ w.category = 2) := by
      intro M hM hj
      subst hM
      by_cases e : k = j
      · subst e
        rw [List.getElem?_set] at hj
        split at hj
        · split at hj <;> simp at hj
        · exact absurd rfl ‹_›
      · rw [List.getElem?_set_ne e] at hj
        exact ⟨hj, fun q => by omega⟩
    split at h
    · exact key _ rfl h
    · exact key _ rfl h
    · rename_i n1 n2
      refine ⟨h, fun q => ?_⟩
      have e : j = k := by omega
      subst e
      cases w with
      | long z => exact n1 z h
      | double z => exact n2 z h
      | _ => exact absurd q.2 (fun z => by simp [Value.category] at z)
theorem ax_L.s1 {g : Nat → Nat} {ls : Array Slot} {nL : Nat} {L : List (Option Value)} (h : ax_L g ls nL L) {i : Nat} (hi : i < nL) {v : Value} {ls' : Array Slot} (h' : lv_has ls' nL ((i, ax_v g v) :: (ax_pairs g L).filter (fun q => !(q.1 == i) && !(q.1 + 1 == i && q.2.category == 2)))) : ax_L g ls' nL (ax_s1 L i v) := by
  refine ⟨h'.1, h'.2.1, fun j w hj => ?_⟩
  by_cases e : i = j
  · subst e
    have : w = v := by
      unfold ax_s1 at hj
      rw [List.getElem?_set] at hj
      split at hj
      · split at hj
        · simpa using hj.symm
        · cases hj
      · exact absurd rfl ‹_›
    subst this
    exact h'.2.2 _ List.mem_cons_self
  · unfold ax_s1 at hj
    rw [List.getElem?_set_ne e] at hj
    obtain ⟨h1, h2⟩ := ax_k_get hj
    refine h'.2.2 (j, ax_v g w) (List.mem_cons_of_mem _ (List.mem_filter.mpr ⟨ax_pairs_mem.mpr ⟨w, h1, rfl⟩, ?_⟩))
    rw [ax_cat]
    simp
    exact ⟨fun q => e q.symm, Decidable.or_iff_not_imp_left.mpr (fun q q2 => h2 ⟨Decidable.not_not.mp q, q2⟩)⟩
theorem ax_L.s2 {g : Nat → Nat} {ls : Array Slot} {nL : Nat} {L : List (Option Value)} (h : ax_L g ls nL L) {i : Nat} (hi : i + 1 < nL) {v : Value} {ls' : Array Slot} (h' : lv_has ls' nL ((i, ax_v g v) :: (ax_pairs g L).filter (fun q => !(q.1 == i) && (!(q.1 == i + 1) && !(q.1 + 1 == i && q.2.category == 2))))) : ax_L g ls' nL (ax_s2 L i v) := by
  refine ⟨h'.1, h'.2.1, fun j w hj => ?_⟩
  unfold ax_s2 at hj
  by_cases e1 : i + 1 = j
  · subst e1
    rw [List.getElem?_set] at hj
    split at hj
    · split at hj <;> simp at hj
    · exact absurd rfl ‹_›
  · rw [List.getElem?_set_ne e1] at hj
    by_cases e : i = j
    · subst e
      have : w = v := by
        rw [List.getElem?_set] at hj
        split at hj
        · split at hj
          · simpa using hj.symm
          · cases hj
        · exact absurd rfl ‹_›
      subst this
      exact h'.2.2 _ List.mem_cons_self
    · rw [List.getElem?_set_ne e] at hj
      obtain ⟨h1, h2⟩ := ax_k_get hj
      refine h'.2.2 (j, ax_v g w) (List.mem_cons_of_mem _ (List.mem_filter.mpr ⟨ax_pairs_mem.mpr ⟨w, h1, rfl⟩, ?_⟩))
      rw [ax_cat]
      simp
      exact ⟨fun q => e q.symm, fun q => e1 q.symm, Decidable.or_iff_not_imp_left.mpr (fun q q2 => h2 ⟨Decidable.not_not.mp q, q2⟩)⟩
/-! entry -/
def ax_ent0 : List Value → List (Option Value)
  | [] => []
  | v :: vs => if v.category = 2 then some v :: none :: ax_ent0 vs else some v :: ax_ent0 vs
def ax_ent (A : List Value) (n : Nat) : List (Option Value) := ax_ent0 A ++ List.replicate (n - (ax_ent0 A).length) none
theorem ax_ent_len (g : Nat → Nat) : ∀ A : List Value, (lg_sl (A.map (ax_v g))).length = (ax_ent0 A).length
  | [] => rfl
  | v :: vs => by
    have ih := ax_ent_len g vs
    unfold lg_sl at ih ⊢
    simp only [List.map_cons, List.flatMap_cons, List.length_append, ih, ax_cat, ax_ent0]
    split <;> simp <;> omega
theorem ax_ent_mem (g : Nat → Nat) : ∀ (A : List Value) (i0 i : Nat) (v : Value), (ax_ent0 A)[i]? = some (some v) → (i0 + i, ax_v g v) ∈ lv_args i0 (A.map (ax_v g))
  | [], i0, i, v, h => by simp [ax_ent0] at h
  | w :: vs, i0, i, v, h => by
    simp only [List.map_cons, lv_args, ax_cat]
    unfold ax_ent0 at h
    by_cases hc : w.category = 2
    · rw [if_pos hc] at h ⊢
      match i, h with
      | 0, h => simp at h; subst h; exact List.mem_cons_self
      | 1, h => simp at h
      | i + 2, h =>
        have := ax_ent_mem g vs (i0 + 2) i v (by simpa using h)
        refine List.mem_cons_of_mem _ ?_
        rwa [show i0 + 2 + i = i0 + (i + 2) by omega] at this
    · rw [if_neg hc] at h ⊢
      match i, h with
      | 0, h => simp at h; subst h; exact List.mem_cons_self
      | i + 1, h =>
        have := ax_ent_mem g vs (i0 + 1) i v (by simpa using h)
        refine List.mem_cons_of_mem _ ?_
        rwa [show i0 + 1 + i = i0 + (i + 1) by omega] at this
theorem ax_ent_L (g : Nat → Nat) (A : List Value) {n : Nat} (h : (ax_ent0 A).length ≤ n) : ax_L g ((lg_sl (A.map (ax_v g)) ++ List.replicate (n - (lg_sl (A.map (ax_v g))).length) Slot.unset).toArray) n (ax_ent A n) := by
  have hl := lv_entry (A.map (ax_v g)) (n := n) (by rw [ax_ent_len]; exact h)
  refine ⟨hl.1, hl.2.1, fun i v hv => ?_⟩
  unfold ax_ent at hv
  by_cases hi : i < (ax_ent0 A).length
  · rw [List.getElem?_append_left hi] at hv
    have := ax_ent_mem g A 0 i v hv
    rw [Nat.zero_add] at this
    exact hl.2.2 _ this
  · rw [List.getElem?_append_right (by omega), List.getElem?_replicate] at hv
    split at hv <;> simp at hv
