/-! rules over the abstract heap: arrays, objects, null, switches -/
abbrev ax_ia (t n : Nat) (a : Nat → Int32) : ax_C := .inl (t, n, fun j => .int (a j))
abbrev ax_la (n : Nat) (a : Nat → Int64) : ax_C := .inl (1, n, fun j => .long (a j))
abbrev ax_ra (t n : Nat) (a : Nat → Option Nat) : ax_C := .inl (t, n, fun j => va_rf (a j))
abbrev ax_ob (ci : Nat) (fs : Nat → Value) : ax_C := .inr (ci, fs)
theorem ax_at.store {D : va_G} {g : Nat → Nat} {U : State} {H H1 : Heap} {a t n i : Nat} {f : Nat → Value} {cell : Cell} {x : Value} (h1 : H[a]? = some cell) (h : ax_at D g U H a (.inl (t, n, f))) (e : H1[a]? = some (cell.setSlot i (ax_v g x))) (hi : i < n) : ax_at D g U H1 a (.inl (t, n, updV f i x)) := by
  obtain ⟨cell', q1, q2, q3, q4, q5, q6, q7⟩ := h
  cases h1.symm.trans q1
  refine ⟨_, e, q2, q3, q4, by rw [k2_slotsz]; exact q5, by rw [k2_slotsz]; exact q6, fun j hj => ?_⟩
  unfold Cell.setSlot updV
  by_cases hji : j = i
  · subst hji
    rw [if_pos rfl]
    have : j < cell.slots.size := by omega
    simp [this]
  · rw [if_neg hji]
    have := q7 j hj
    simp [Array.getElem?_setIfInBounds, Ne.symm hji, this]
theorem ax_nin {i : Int32} {n N : Nat} (h : vp_in i n) (hn : n ≤ N) : ¬ (i < 0 ∨ N ≤ i.toNatClampNeg) := fun q => q.elim (fun z => h (Or.inl z)) (fun z => h (Or.inr (by omega)))
theorem ax_inlt {i : Int32} {n : Nat} (h : vp_in i n) : i.toNatClampNeg < n := Nat.not_le.mp fun q => h (Or.inr q)
theorem ax_updI (a : Nat → Int32) (i : Nat) (x : Int32) : updV (fun j => .int (a j)) i (.int x) = fun j => .int (upd a i x j) := by
  funext j; unfold updV upd; split <;> rfl
theorem ax_updL (a : Nat → Int64) (i : Nat) (x : Int64) : updV (fun j => .long (a j)) i (.long x) = fun j => .long (vp_updL a i x j) := by
  funext j; unfold updV vp_updL; split <;> rfl
theorem ax_updR (a : Nat → Option Nat) (i : Nat) (x : Nat) : updV (fun j => va_rf (a j)) i (.ref x) = fun j => va_rf (va_up a i (some x) j) := by
  funext j; unfold updV va_up; split <;> rfl
section AXH
variable {X : ax_X} {M : ax_M} {d pc k n : Nat} {L : List (Option Value)} {st : List Value} {h : ax_H}
theorem ax_lcmp (hX : ax_ok X M d) {x y : Int64} (hd : decode M.2.1 pc = .ok (.lcmp, 1)) (kk : ax_j X (pc + 1) L (.int (lg_cmp x y) :: st) h k n) : ax_j X pc L (.long y :: .long x :: st) h k n := by
  obtain ⟨p, l, e, R, s, m, args, below, meth, c, Z, D, g⟩ := X
  exact fun H locs ls hR hS hL => W.lcmp hX.1 hX.2.1 hd (kk H locs ls hR hS hL)
theorem ax_ifnull (hX : ax_ok X M d) {r : Option Nat} {v : Value} {off : Int} {tgt : Nat} (hv : v = va_rf r) (hd : decode M.2.1 pc = .ok (.ifnull off, 3)) (ht : (pc : Int) + off = (tgt : Int)) (kt : r = none → ax_j X tgt L st h k n) (kf : ∀ a, r = some a → ax_j X (pc + 3) L st h k n) : ax_j X pc L (v :: st) h k n := by
  obtain ⟨p, l, e, R, s, m, args, below, meth, c, Z, D, g⟩ := X
  subst hv
  cases r with
  | none => exact fun H locs ls hR hS hL => lv_ifnullN hX.1 hX.2.1 hd ht (kt rfl H locs ls hR hS hL)
  | some a => exact fun H locs ls hR hS hL => lv_ifnull hX.1 hX.2.1 hd (kf a rfl H locs ls hR hS hL)
theorem ax_ifnonnull (hX : ax_ok X M d) {r : Option Nat} {v : Value} {off : Int} {tgt : Nat} (hv : v = va_rf r) (hd : decode M.2.1 pc = .ok (.ifnonnull off, 3)) (ht : (pc : Int) + off = (tgt : Int)) (kt : ∀ a, r = some a → ax_j X tgt L st h k n) (kf : r = none → ax_j X (pc + 3) L st h k n) : ax_j X pc L (v :: st) h k n := by
  obtain ⟨p, l, e, R, s, m, args, below, meth, c, Z, D, g⟩ := X
  subst hv
  cases r with
  | none => exact fun H locs ls hR hS hL => lv_ifnonnullN hX.1 hX.2.1 hd (kf rfl H locs ls hR hS hL)
  | some a => exact fun H locs ls hR hS hL => lv_ifnonnull hX.1 hX.2.1 hd ht (kt a rfl H locs ls hR hS hL)
theorem ax_lookup (hX : ax_ok X M d) {x : Int32} {dflt : Int} {ps : Array (Int × Int)} {len : Nat} {off : Int} {tgt : Nat} (hd : decode M.2.1 pc = .ok (.lookupswitch dflt ps, len)) (hp : (ps.toList.zip (ps.toList.drop 1)).all (fun (a, next) => a.1 < next.1) = true) (ho : Op.lookupswitch.offset ps.toList dflt x.toInt = off) (ht : (pc : Int) + off = (tgt : Int)) (kk : ax_j X tgt L st h k n) : ax_j X pc L (.int x :: st) h k n := by
  obtain ⟨p, l, e, R, s, m, args, below, meth, c, Z, D, g⟩ := X
  exact fun H locs ls hR hS hL => lv_lookup hX.1 hX.2.1 hd hp ho ht (kk H locs ls hR hS hL)
theorem ax_tableOut (hX : ax_ok X M d) {x : Int32} {dflt lo hi : Int} {offs : Array Int} {len : Nat} {tgt : Nat} (hd : decode M.2.1 pc = .ok (.tableswitch dflt lo hi offs, len)) (hx : x.toInt < lo ∨ hi < x.toInt) (ht : (pc : Int) + dflt = (tgt : Int)) (kk : ax_j X tgt L st h k n) : ax_j X pc L (.int x :: st) h k n := by
  obtain ⟨p, l, e, R, s, m, args, below, meth, c, Z, D, g⟩ := X
  exact fun H locs ls hR hS hL => lv_tableOut hX.1 hX.2.1 hd hx ht (kk H locs ls hR hS hL)
theorem ax_tableIn (hX : ax_ok X M d) {x : Int32} {dflt lo hi : Int} {offs : Array Int} {len : Nat} {off : Int} {tgt : Nat} (hd : decode M.2.1 pc = .ok (.tableswitch dflt lo hi offs, len)) (h1 : ¬ x.toInt < lo) (h2 : ¬ hi < x.toInt) (ho : offs[(x.toInt - lo).toNat]? = some off) (ht : (pc : Int) + off = (tgt : Int)) (kk : ax_j X tgt L st h k n) : ax_j X pc L (.int x :: st) h k n := by
  obtain ⟨p, l, e, R, s, m, args, below, meth, c, Z, D, g⟩ := X
  exact fun H locs ls hR hS hL => lv_tableIn hX.1 hX.2.1 hd h1 h2 ho ht (kk H locs ls hR hS hL)
theorem ax_iaload (hX : ax_ok X M d) {a N : Nat} {f : Nat → Int32} {i : Int32} (hh : h.2 a = ax_ia 0 N f) (hi : vp_in i N) (hd : decode M.2.1 pc = .ok (.iaload, 1)) (kk : ax_j X (pc + 1) L (.int (f i.toNatClampNeg) :: st) h k n) : ax_j X pc L (.int i :: .ref a :: st) h k n := by
  obtain ⟨p, l, e, R, s, m, args, below, meth, c, Z, D, g⟩ := X
  refine fun H locs ls hR hS hL => ?_
  have hc := hR.2.2 a (by rw [hh]; exact (by decide : 0 < 6))
  rw [hh] at hc
  obtain ⟨cell, q1, q2, q3, q4, q5, q6, q7⟩ := hc
  exact W.iald hX.1 hX.2.1 q1 q2 q3 (ax_nin hi q5) (q7 _ (ax_inlt hi)) rfl rfl hd (kk H locs ls hR hS hL)
theorem ax_laload (hX : ax_ok X M d) {a N : Nat} {f : Nat → Int64} {i : Int32} (hh : h.2 a = ax_la N f) (hi : vp_in i N) (hd : decode M.2.1 pc = .ok (.laload, 1)) (kk : ax_j X (pc + 1) L (.long (f i.toNatClampNeg) :: st) h k n) : ax_j X pc L (.int i :: .ref a :: st) h k n := by
  obtain ⟨p, l, e, R, s, m, args, below, meth, c, Z, D, g⟩ := X
  refine fun H locs ls hR hS hL => ?_
  have hc := hR.2.2 a (by rw [hh]; exact (by decide : 1 < 6))
  rw [hh] at hc
  obtain ⟨cell, q1, q2, q3, q4, q5, q6, q7⟩ := hc
  exact W.lald hX.1 hX.2.1 q1 q2 q3 (ax_nin hi q5) (q7 _ (ax_inlt hi)) rfl rfl hd (kk H locs ls hR hS hL)
theorem ax_baload (hX : ax_ok X M d) {a N : Nat} {f : Nat → Int32} {i : Int32} (hh : h.2 a = ax_ia 2 N f) (hi : vp_in i N) (hd : decode M.2.1 pc = .ok (.baload, 1)) (kk : ax_j X (pc + 1) L (.int (f i.toNatClampNeg) :: st) h k n) : ax_j X pc L (.int i :: .ref a :: st) h k n := by
  obtain ⟨p, l, e, R, s, m, args, below, meth, c, Z, D, g⟩ := X
  refine fun H locs ls hR hS hL => ?_
  have hc := hR.2.2 a (by rw [hh]; exact (by decide : 2 < 6))
  rw [hh] at hc
  obtain ⟨cell, q1, q2, q3, q4, q5, q6, q7⟩ := hc
  exact W.bald hX.1 hX.2.1 q1 q2 q3 (ax_nin hi q5) (q7 _ (ax_inlt hi)) rfl rfl hd (kk H locs ls hR hS hL)
theorem ax_zaload (hX : ax_ok X M d) {a N : Nat} {f : Nat → Int32} {i : Int32} (hh : h.2 a = ax_ia 3 N f) (hi : vp_in i N) (hd : decode M.2.1 pc = .ok (.baload, 1)) (kk : ax_j X (pc + 1) L (.int (f i.toNatClampNeg) :: st) h k n) : ax_j X pc L (.int i :: .ref a :: st) h k n := by
  obtain ⟨p, l, e, R, s, m, args, below, meth, c, Z, D, g⟩ := X
  refine fun H locs ls hR hS hL => ?_
  have hc := hR.2.2 a (by rw [hh]; exact (by decide : 3 < 6))
  rw [hh] at hc
  obtain ⟨cell, q1, q2, q3, q4, q5, q6, q7⟩ := hc
  exact W.zald hX.1 hX.2.1 q1 q2 q3 (ax_nin hi q5) (q7 _ (ax_inlt hi)) rfl rfl hd (kk H locs ls hR hS hL)
theorem ax_aaload (hX : ax_ok X M d) {a t N : Nat} {f : Nat → Option Nat} {i : Int32} {v : Value} (hh : h.2 a = ax_ra t N f) (ht : t = 4 ∨ t = 5) (hi : vp_in i N) (hv : va_rf (f i.toNatClampNeg) = v) (hd : decode M.2.1 pc = .ok (.aaload, 1)) (kk : ax_j X (pc + 1) L (v :: st) h k n) : ax_j X pc L (.int i :: .ref a :: st) h k n := by
  obtain ⟨p, l, e, R, s, m, args, below, meth, c, Z, D, g⟩ := X
  subst hv
  refine fun H locs ls hR hS hL => ?_
  have hc := hR.2.2 a (by rw [hh]; show t < 6; omega)
  rw [hh] at hc
  obtain ⟨cell, q1, q2, q3, q4, q5, q6, q7⟩ := hc
  exact W.aald hX.1 hX.2.1 q1 q2 (by rcases ht with rfl | rfl <;> rfl) q3 (ax_nin hi q5) (q7 _ (ax_inlt hi)) rfl rfl hd (kk H locs ls hR hS hL)
theorem ax_alen (hX : ax_ok X M d) {a t N : Nat} {f : Nat → Value} (hh : h.2 a = .inl (t, N, f)) (ht : t < 6) (hd : decode M.2.1 pc = .ok (.arraylength, 1)) (kk : ax_j X (pc + 1) L (.int (nI N) :: st) h k n) : ax_j X pc L (.ref a :: st) h k n := by
  obtain ⟨p, l, e, R, s, m, args, below, meth, c, Z, D, g⟩ := X
  refine fun H locs ls hR hS hL => ?_
  have hc := hR.2.2 a (by rw [hh]; exact ht)
  rw [hh] at hc
  obtain ⟨cell, q1, q2, q3, q4, q5, q6, q7⟩ := hc
  exact W.alen hX.1 hX.2.1 q1 q2 q6 rfl rfl hd (kk H locs ls hR hS hL)
theorem ax_iastore (hX : ax_ok X M d) {a N : Nat} {f : Nat → Int32} {i x : Int32} (hh : h.2 a = ax_ia 0 N f) (ha : 2 ≤ a) (hi : vp_in i N) (hd : decode M.2.1 pc = .ok (.iastore, 1)) (kk : ax_j X (pc + 1) L st (h.1, va_up h.2 a (ax_ia 0 N (upd f i.toNatClampNeg x))) k n) : ax_j X pc L (.int x :: .int i :: .ref a :: st) h k n := by
  obtain ⟨p, l, e, R, s, m, args, below, meth, c, Z, D, g⟩ := X
  refine fun H locs ls hR hS hL => ?_
  have hG : ax_G g := hX.2.2.2.2.2.2.2.2.2.1
  have hc := hR.2.2 a (by rw [hh]; exact (by decide : 0 < 6))
  rw [hh] at hc
  have hc0 := hc
  obtain ⟨cell, q1, q2, q3, q4, q5, q6, q7⟩ := hc
  refine W.iast hX.1 hX.2.1 q1 q2 q3 (ax_nin hi q5) rfl rfl hd fun H1 e1 z oq => kk H1 _ ls (hR.set hG ha z oq ?_) (hS.put z oq (hG.ge ha)) hL
  have := ax_at.store (x := .int x) q1 hc0 e1 (ax_inlt hi)
  rwa [ax_updI] at this
theorem ax_lastore (hX : ax_ok X M d) {a N : Nat} {f : Nat → Int64} {i : Int32} {x : Int64} (hh : h.2 a = ax_la N f) (ha : 2 ≤ a) (hi : vp_in i N) (hd : decode M.2.1 pc = .ok (.lastore, 1)) (kk : ax_j X (pc + 1) L st (h.1, va_up h.2 a (ax_la N (vp_updL f i.toNatClampNeg x))) k n) : ax_j X pc L (.long x :: .int i :: .ref a :: st) h k n := by
  obtain ⟨p, l, e, R, s, m, args, below, meth, c, Z, D, g⟩ := X
  refine fun H locs ls hR hS hL => ?_
  have hG : ax_G g := hX.2.2.2.2.2.2.2.2.2.1
  have hc := hR.2.2 a (by rw [hh]; exact (by decide : 1 < 6))
  rw [hh] at hc
  have hc0 := hc
  obtain ⟨cell, q1, q2, q3, q4, q5, q6, q7⟩ := hc
  refine W.last hX.1 hX.2.1 q1 q2 q3 (ax_nin hi q5) rfl rfl hd fun H1 e1 z oq => kk H1 _ ls (hR.set hG ha z oq ?_) (hS.put z oq (hG.ge ha)) hL
  have := ax_at.store (x := .long x) q1 hc0 e1 (ax_inlt hi)
  rwa [ax_updL] at this
theorem ax_bastore (hX : ax_ok X M d) {a N : Nat} {f : Nat → Int32} {i x : Int32} (hh : h.2 a = ax_ia 2 N f) (ha : 2 ≤ a) (hi : vp_in i N) (hd : decode M.2.1 pc = .ok (.bastore, 1)) (kk : ax_j X (pc + 1) L st (h.1, va_up h.2 a (ax_ia 2 N (upd f i.toNatClampNeg x.toInt8.toInt32))) k n) : ax_j X pc L (.int x :: .int i :: .ref a :: st) h k n := by
  obtain ⟨p, l, e, R, s, m, args, below, meth, c, Z, D, g⟩ := X
  refine fun H locs ls hR hS hL => ?_
  have hG : ax_G g := hX.2.2.2.2.2.2.2.2.2.1
  have hc := hR.2.2 a (by rw [hh]; exact (by decide : 2 < 6))
  rw [hh] at hc
  have hc0 := hc
  obtain ⟨cell, q1, q2, q3, q4, q5, q6, q7⟩ := hc
  refine W.bast hX.1 hX.2.1 q1 q2 q3 (ax_nin hi q5) rfl rfl hd fun H1 e1 z oq => kk H1 _ ls (hR.set hG ha z oq ?_) (hS.put z oq (hG.ge ha)) hL
  have := ax_at.store (x := .int x.toInt8.toInt32) q1 hc0 e1 (ax_inlt hi)
  rwa [ax_updI] at this
theorem ax_zastore (hX : ax_ok X M d) {a N : Nat} {f : Nat → Int32} {i x : Int32} (hh : h.2 a = ax_ia 3 N f) (ha : 2 ≤ a) (hi : vp_in i N) (hd : decode M.2.1 pc = .ok (.bastore, 1)) (kk : ax_j X (pc + 1) L st (h.1, va_up h.2 a (ax_ia 3 N (upd f i.toNatClampNeg (x &&& 1)))) k n) : ax_j X pc L (.int x :: .int i :: .ref a :: st) h k n := by
  obtain ⟨p, l, e, R, s, m, args, below, meth, c, Z, D, g⟩ := X
  refine fun H locs ls hR hS hL => ?_
  have hG : ax_G g := hX.2.2.2.2.2.2.2.2.2.1
  have hc := hR.2.2 a (by rw [hh]; exact (by decide : 3 < 6))
  rw [hh] at hc
  have hc0 := hc
  obtain ⟨cell, q1, q2, q3, q4, q5, q6, q7⟩ := hc
  refine W.zast hX.1 hX.2.1 q1 q2 q3 (ax_nin hi q5) rfl rfl hd fun H1 e1 z oq => kk H1 _ ls (hR.set hG ha z oq ?_) (hS.put z oq (hG.ge ha)) hL
  have := ax_at.store (x := .int (x &&& 1)) q1 hc0 e1 (ax_inlt hi)
  rwa [ax_updI] at this
theorem ax_aastore (hX : ax_ok X M d) {a t N v ci : Nat} {f : Nat → Option Nat} {fs : Nat → Value} {i : Int32} {r : vw_C} (hh : h.2 a = ax_ra t N f) (ha : 2 ≤ a) (ht : t = 4 ∨ t = 5) (hv : h.2 v = ax_ob ci fs) (hc : vwCl[ci]? = some r) (hr : ax_ty t = .object r.1) (hi : vp_in i N) (hd : decode M.2.1 pc = .ok (.aastore, 1)) (kk : ax_j X (pc + 1) L st (h.1, va_up h.2 a (ax_ra t N (va_up f i.toNatClampNeg (some v)))) k n) : ax_j X pc L (.ref v :: .int i :: .ref a :: st) h k n := by
  obtain ⟨p, l, e, R, s, m, args, below, meth, c, Z, D, g⟩ := X
  refine fun H locs ls hR hS hL => ?_
  have hG : ax_G g := hX.2.2.2.2.2.2.2.2.2.1
  have hK : va_K D vwCl [] s := hX.2.2.2.2.2.2.2.2.1.1
  have hca := hR.2.2 a (by rw [hh]; show t < 6; omega)
  rw [hh] at hca
  have hc0 := hca
  obtain ⟨cell, q1, q2, q3, q4, q5, q6, q7⟩ := hca
  have hlt := ax_inlt hi
  have hcv := hR.2.2 v (by rw [hv]; show ci < 12; exact (List.getElem?_eq_some_iff.mp hc).1)
  rw [hv] at hcv
  obtain ⟨r', hr', cellV, g1, g2, g3, -⟩ := hcv
  have hcls := (hK.1 ci r hc).2
  have hra := q4 (by omega)
  rw [hr] at hra
  obtain ⟨kA, comp, k1, k2, k3, -⟩ := hra
  have hcomp : comp = D.1 ci := Option.some.inj (k3.symm.trans hcls.1)
  subst hcomp
  have hcls2 := hcls
  obtain ⟨kC, hkC, -⟩ := hcls.2
  refine W.aast hX.1 hX.2.1 q1 q2.1 q3 k1 k2 rfl hkC ⟨fun q => hi (Or.inl q), by omega⟩ g1 (fun q h => by rw [g3] at h; cases h) (by rw [g2]; exact hkC) (by rw [g2]; exact va_assign hcls2) rfl rfl hd fun H1 e1 z oq => kk H1 _ ls (hR.set hG ha z oq ?_) (hS.put z oq (hG.ge ha)) hL
  have := ax_at.store (x := .ref v) q1 hc0 e1 (ax_inlt hi)
  rwa [ax_updR] at this
/-- a class of the tables, by its number -/
def ax_cls (ci : Nat) (C : String) (T : u_T) (N : Nat) (ty : Nat → FieldType) : Prop := vwCl[ci]? = some (C, T, N) ∧ (∀ w ∈ u_ws C T N, w ∈ ax_ws) ∧ (∀ k, k < N → parseFieldDescriptor (T k).2.2.1 = some (ty k)) ∧ (∀ a, a < N → ∀ b, b < N → a ≠ b → (T a).2.1 ≠ (T b).2.1)
/-- what links a field: the entry idx of class own is field fi of class ci, of type fty, final or not -/
def ax_FW (own : String) (idx ci fi : Nat) (fty : FieldType) (fin : Bool) (C : String) : Prop := ∃ (T : u_T) (N : Nat) (ty : Nat → FieldType), ax_cls ci C T N ty ∧ fi < N ∧ (T fi).1 = C ∧ ty fi = fty ∧ (T fi).2.2.2 = fin ∧ Cond.fieldLink own idx C (T fi).2.1 (T fi).2.2.1 ∈ ax_ws
theorem ax_getf (hX : ax_ok X M d) {a ci fi idx : Nat} {fs : Nat → Value} {fty : FieldType} {fin : Bool} {C : String} {v : Value} (hw : ax_FW M.1.cls idx ci fi fty fin C) (hh : h.2 a = ax_ob ci fs) (hv : fs fi = v) (hd : decode M.2.1 pc = .ok (.getfield idx, 3)) (kk : ax_j X (pc + 3) L (v :: st) h k n) : ax_j X pc L (.ref a :: st) h k n := by
  obtain ⟨p, l, e, R, s, m, args, below, meth, c, Z, D, g⟩ := X
  subst hv
  refine fun H locs ls hR hS hL => ?_
  obtain ⟨T, N, ty, ⟨hc, hin, hty, hnm⟩, hfi, hTC, hft, hfin, hlink⟩ := hw
  have hK : va_K D vwCl [] s := hX.2.2.2.2.2.2.2.2.1.1
  have hts := hX.2.2.2.2.2.1
  have hca := hR.2.2 a (by rw [hh]; show ci < 12; exact (List.getElem?_eq_some_iff.mp hc).1)
  rw [hh] at hca
  obtain ⟨r, h1, cell, q1, q2, q3, q4⟩ := hca
  have hr : r = (C, T, N) := Option.some.inj (h1.symm.trans hc)
  subst hr
  obtain ⟨hSl, hfc, kC, hkC, hkind⟩ := hK.1 ci _ hc
  obtain ⟨cf, kf, ii, f, hi, hsl⟩ := hSl fi hfi
  have hi' := hi
  dsimp only at hi'
  rw [hTC] at hi'
  refine W.getf hX.1 hX.2.1 hX.2.2.2.2.1 (hts _ hlink) hi' (u_facts hfc hkC (u_lays hts hin hfi) hi).1 q1 (by rw [q3]; exact fun h => by cases h) (v := ax_v g (fs fi)) ?_ rfl rfl hd (kk H locs ls hR hS hL)
  rw [hsl, q4 fi hfi]
theorem ax_vty {g : Nat → Nat} {ty : FieldType} {v : Value} (hn : narrow ty v = v) (hf : fits ty v = true) : narrow ty (ax_v g v) = ax_v g v ∧ fits ty (ax_v g v) = true := by
  cases v with
  | ref a => cases ty <;> first | exact ⟨rfl, rfl⟩ | exact absurd hf (by simp [fits])
  | _ => exact ⟨hn, hf⟩
theorem ax_vup {g : Nat → Nat} (fs : Nat → Value) (fi : Nat) (v : Value) (j : Nat) : updV (fun k => ax_v g (fs k)) fi (ax_v g v) j = ax_v g (va_up fs fi v j) := by
  unfold updV va_up; split <;> rfl
theorem ax_putf (hX : ax_ok X M d) {a ci fi idx : Nat} {fs : Nat → Value} {fty : FieldType} {C : String} {v : Value} (hw : ax_FW M.1.cls idx ci fi fty false C) (hh : h.2 a = ax_ob ci fs) (ha : 2 ≤ a) (hn : narrow fty v = v) (hf : fits fty v = true) (hd : decode M.2.1 pc = .ok (.putfield idx, 3)) (kk : ax_j X (pc + 3) L st (h.1, va_up h.2 a (ax_ob ci (va_up fs fi v))) k n) : ax_j X pc L (v :: .ref a :: st) h k n := by
  obtain ⟨p, l, e, R, s, m, args, below, meth, c, Z, D, g⟩ := X
  refine fun H locs ls hR hS hL => ?_
  obtain ⟨T, N, ty, ⟨hc, hin, hty, hnm⟩, hfi, hTC, hft, hfin, hlink⟩ := hw
  have hG : ax_G g := hX.2.2.2.2.2.2.2.2.2.1
  have hK : va_K D vwCl [] s := hX.2.2.2.2.2.2.2.2.1.1
  have hts := hX.2.2.2.2.2.1
  have hca := hR.2.2 a (by rw [hh]; show ci < 12; exact (List.getElem?_eq_some_iff.mp hc).1)
  rw [hh] at hca
  obtain ⟨r, h1, cell, q1, q2, q3, q4⟩ := hca
  have hr : r = (C, T, N) := Option.some.inj (h1.symm.trans hc)
  subst hr
  have hap := va_apart (own := C) hts hin ty hty hnm hK hc
  obtain ⟨hSl, hfc, kC, hkC, hkind⟩ := hK.1 ci _ hc
  obtain ⟨cf, kf, ii, f, hi, hsl⟩ := hSl fi hfi
  have hi' := hi
  dsimp only at hi'
  rw [hTC] at hi'
  have hlay := hts _ (hin _ (u_in_lay hfi))
  unfold u_lay at hlay
  rw [if_neg (by rw [hfin]; decide)] at hlay
  have hst := (u_facts hfc hkC (u_lays hts hin hfi) hi).1
  have hvt := ax_vty (g := g) hn hf
  have h6 := u_store hfc hkC hkind hlay hi ((hty fi hfi).trans (by rw [hft])) hvt.1 hvt.2
  refine W.putK hX.1 hX.2.1 (f := f) ⟨hX.2.2.2.2.1, hts _ hlink, ⟨_, _, _, hi'⟩, hst⟩ (by rw [q2]; exact h6) q1 q3 (by rw [hsl]; exact k2_hasslot (q4 fi hfi)) rfl rfl hd fun H1 e1 z oq => ?_
  rw [hsl] at e1 ⊢
  exact kk H1 _ ls (hR.set hG ha z oq ⟨_, hc, t_OB.to (V := updV (fun k => ax_v g (fs k)) fi (ax_v g v)) ⟨_, e1, q2, q3, t_set q4 hap hfi _⟩ (fun j _ => ax_vup fs fi v j)⟩) (hS.put z oq (hG.ge ha)) hL
theorem ax_putF (hX : ax_ok X M d) {a ci fi idx : Nat} {fs : Nat → Value} {fty : FieldType} {v : Value} (hw : ax_FW M.1.cls idx ci fi fty true M.1.cls) (hini : M.1.name = "<init>") (hh : h.2 a = ax_ob ci fs) (ha : 2 ≤ a) (hn : narrow fty v = v) (hf : fits fty v = true) (hd : decode M.2.1 pc = .ok (.putfield idx, 3)) (kk : ax_j X (pc + 3) L st (h.1, va_up h.2 a (ax_ob ci (va_up fs fi v))) k n) : ax_j X pc L (v :: .ref a :: st) h k n := by
  obtain ⟨p, l, e, R, s, m, args, below, meth, c, Z, D, g⟩ := X
  refine fun H locs ls hR hS hL => ?_
  obtain ⟨T, N, ty, ⟨hc, hin, hty, hnm⟩, hfi, hTC, hft, hfin, hlink⟩ := hw
  have hG : ax_G g := hX.2.2.2.2.2.2.2.2.2.1
  have hK : va_K D vwCl [] s := hX.2.2.2.2.2.2.2.2.1.1
  have hts := hX.2.2.2.2.2.1
  have hca := hR.2.2 a (by rw [hh]; show ci < 12; exact (List.getElem?_eq_some_iff.mp hc).1)
  rw [hh] at hca
  obtain ⟨r, h1, cell, q1, q2, q3, q4⟩ := hca
  have hr : r = (M.1.cls, T, N) := Option.some.inj (h1.symm.trans hc)
  subst hr
  have hap := va_apart (own := M.1.cls) hts hin ty hty hnm hK hc
  obtain ⟨hSl, hfc, kC, hkC, hkind⟩ := hK.1 ci _ hc
  obtain ⟨cf, kf, ii, f, hi, hsl⟩ := hSl fi hfi
  have hi' := hi
  dsimp only at hi'
  rw [hTC] at hi'
  have hlay := hts _ (hin _ (u_in_lay hfi))
  unfold u_lay at hlay
  rw [if_pos hfin] at hlay
  have hst := (u_facts hfc hkC (u_lays hts hin hfi) hi).1
  have hcf : m.cls = cf := by
    obtain ⟨_, _, c', _, _, _, -, -, hf', -, -, -, hown2, -⟩ := Cond.laysFinal_spec hlay
    have e1 : c' = cf := by have := hi.symm.trans hf'; simp at this; exact this.1.symm
    rw [hTC] at hown2
    rw [← e1]; exact Option.some.inj (hX.2.2.2.2.1.symm.trans hown2)
  have hvt := ax_vty (g := g) hn hf
  have h6 := u_fits hfc hkC hkind (Or.inr hlay) hi ((hty fi hfi).trans (by rw [hft])) hvt.1 hvt.2
  refine W.putFinK hX.1 hX.2.1 hX.2.2.2.2.1 (hts _ hlink) hi' hst hcf (hX.2.2.2.2.2.2.2.1.trans hini) (by rw [q2]; exact h6) q1 q3 (by rw [hsl]; exact k2_hasslot (q4 fi hfi)) rfl rfl hd fun H1 e1 z oq => ?_
  rw [hsl] at e1 ⊢
  exact kk H1 _ ls (hR.set hG ha z oq ⟨_, hc, t_OB.to (V := updV (fun k => ax_v g (fs k)) fi (ax_v g v)) ⟨_, e1, q2, q3, t_set q4 hap hfi _⟩ (fun j _ => ax_vup fs fi v j)⟩) (hS.put z oq (hG.ge ha)) hL
end AXH
