/-! typed heaps: T = (ints, longs, references), each by a cell's number and a place in it (of an array or of an object's fields); the layout is fixed -/
abbrev tT : Type := (Nat → Nat → Int32) × (Nat → Nat → Int64) × (Nat → Nat → Option Nat)
def tf (T : tT) (k ci : Nat) : Nat → Value := fun j => match fk ci j with
  | 0 => .int (T.1 k j)
  | 1 => .long (T.2.1 k j)
  | 2 => va_rf (T.2.2 k j)
  | o + 3 => .ref (k + o)
def tc (T : tT) (k : Nat) : ax_C := match ly k with
  | .inl (t, n) => if t = 1 then ax_la n (T.2.1 k) else if t < 4 then ax_ia t n (T.1 k) else ax_ra t n (T.2.2 k)
  | .inr ci => ax_ob ci (tf T k ci)
def th (L sz : Nat) (T : tT) : ax_H := (sz, fun k => if k = 0 then ax_ia 0 L (T.1 0) else if k < sz then tc T k else .inr (99, fun _ => .null))
def t2 {α : Type} (f : Nat → Nat → α) (a i : Nat) (v : α) : Nat → Nat → α := fun x y => if x = a then (if y = i then v else f x y) else f x y
def tI (T : tT) (a i : Nat) (v : Int32) : tT := (t2 T.1 a i v, T.2.1, T.2.2)
def tJ (T : tT) (a i : Nat) (v : Int64) : tT := (T.1, t2 T.2.1 a i v, T.2.2)
def tP (T : tT) (a i : Nat) (v : Option Nat) : tT := (T.1, T.2.1, t2 T.2.2 a i v)
theorem t2_ne {α : Type} {f : Nat → Nat → α} {a i x : Nat} {v : α} (h : x ≠ a) : t2 f a i v x = f x := by funext y; exact if_neg h
theorem t2_eq {α : Type} {f : Nat → Nat → α} {a i : Nat} {v : α} : t2 f a i v a = va_up (f a) i v := by funext y; exact if_pos rfl
theorem t2_at {α : Type} {f : Nat → Nat → α} {a i : Nat} {v : α} : t2 f a i v a i = v := by unfold t2; rw [if_pos rfl, if_pos rfl]
theorem t2_off {α : Type} {f : Nat → Nat → α} {a i x y : Nat} {v : α} (h : ¬ (x = a ∧ y = i)) : t2 f a i v x y = f x y := by
  unfold t2
  by_cases hx : x = a
  · rw [if_pos hx, if_neg (fun q => h ⟨hx, q⟩)]
  · rw [if_neg hx]
theorem th_at {L sz k : Nat} {T : tT} (h0 : k ≠ 0) (hs : k < sz) : (th L sz T).2 k = tc T k := by
  show (if k = 0 then _ else if k < sz then tc T k else _) = _
  rw [if_neg h0, if_pos hs]
theorem tc_ob {T : tT} {k ci : Nat} (h : ly k = .inr ci) : tc T k = ax_ob ci (tf T k ci) := by unfold tc; rw [h]
theorem tc_ia {T : tT} {k t n : Nat} (h : ly k = .inl (t, n)) (h1 : t ≠ 1) (h4 : t < 4) : tc T k = ax_ia t n (T.1 k) := by
  unfold tc; rw [h]
  show (if t = 1 then ax_la n (T.2.1 k) else if t < 4 then ax_ia t n (T.1 k) else ax_ra t n (T.2.2 k)) = _
  rw [if_neg h1, if_pos h4]
theorem tc_la {T : tT} {k n : Nat} (h : ly k = .inl (1, n)) : tc T k = ax_la n (T.2.1 k) := by
  unfold tc; rw [h]
  exact if_pos rfl
theorem tc_ra {T : tT} {k t n : Nat} (h : ly k = .inl (t, n)) (h4 : ¬ t < 4) : tc T k = ax_ra t n (T.2.2 k) := by
  unfold tc; rw [h]
  show (if t = 1 then ax_la n (T.2.1 k) else if t < 4 then ax_ia t n (T.1 k) else ax_ra t n (T.2.2 k)) = _
  rw [if_neg (by omega), if_neg h4]
theorem tc_off {T T' : tT} {k : Nat} (h1 : T'.1 k = T.1 k) (h2 : T'.2.1 k = T.2.1 k) (h3 : T'.2.2 k = T.2.2 k) : tc T' k = tc T k := by
  unfold tc tf
  rw [h1, h2, h3]
/-- one cell changes -/
theorem th_set {L sz a : Nat} {T T' : tT} {c : ax_C} (h0 : a ≠ 0) (hs : a < sz) (hc : tc T' a = c) (ho : ∀ k, k ≠ a → T'.1 k = T.1 k ∧ T'.2.1 k = T.2.1 k ∧ T'.2.2 k = T.2.2 k) : ((th L sz T).1, va_up (th L sz T).2 a c) = th L sz T' := by
  refine Prod.ext rfl (funext fun k => ?_)
  show (if k = a then c else (th L sz T).2 k) = _
  by_cases hk : k = a
  · subst hk
    rw [if_pos rfl, th_at h0 hs, hc]
  · rw [if_neg hk]
    obtain ⟨h1, h2, h3⟩ := ho k hk
    show (if k = 0 then ax_ia 0 L (T.1 0) else if k < sz then tc T k else _) = (if k = 0 then ax_ia 0 L (T'.1 0) else if k < sz then tc T' k else _)
    rw [tc_off h1 h2 h3]
    by_cases k0 : k = 0
    · subst k0
      rw [if_pos rfl, if_pos rfl, h1]
    · rw [if_neg k0, if_neg k0]
theorem tI_o {T : tT} {a i : Nat} {v : Int32} : ∀ k, k ≠ a → (tI T a i v).1 k = T.1 k ∧ (tI T a i v).2.1 k = T.2.1 k ∧ (tI T a i v).2.2 k = T.2.2 k := fun _ hk => ⟨t2_ne hk, rfl, rfl⟩
theorem tJ_o {T : tT} {a i : Nat} {v : Int64} : ∀ k, k ≠ a → (tJ T a i v).1 k = T.1 k ∧ (tJ T a i v).2.1 k = T.2.1 k ∧ (tJ T a i v).2.2 k = T.2.2 k := fun _ hk => ⟨rfl, t2_ne hk, rfl⟩
theorem tP_o {T : tT} {a i : Nat} {v : Option Nat} : ∀ k, k ≠ a → (tP T a i v).1 k = T.1 k ∧ (tP T a i v).2.1 k = T.2.1 k ∧ (tP T a i v).2.2 k = T.2.2 k := fun _ hk => ⟨rfl, rfl, t2_ne hk⟩
theorem tf_I {T : tT} {a ci fi : Nat} {v : Int32} (hk : fk ci fi = 0) : tf (tI T a fi v) a ci = va_up (tf T a ci) fi (.int v) := by
  funext j
  show tf (tI T a fi v) a ci j = if j = fi then .int v else tf T a ci j
  by_cases e : j = fi
  · subst e
    rw [if_pos rfl]
    unfold tf
    rw [hk]
    show Value.int (t2 T.1 a j v a j) = _
    rw [t2_at]
  · rw [if_neg e]
    unfold tf
    have : (tI T a fi v).1 a j = T.1 a j := t2_off (fun q => e q.2)
    rw [this]
    rfl
theorem tf_J {T : tT} {a ci fi : Nat} {v : Int64} (hk : fk ci fi = 1) : tf (tJ T a fi v) a ci = va_up (tf T a ci) fi (.long v) := by
  funext j
  show tf (tJ T a fi v) a ci j = if j = fi then .long v else tf T a ci j
  by_cases e : j = fi
  · subst e
    rw [if_pos rfl]
    unfold tf
    rw [hk]
    show Value.long (t2 T.2.1 a j v a j) = _
    rw [t2_at]
  · rw [if_neg e]
    unfold tf
    have : (tJ T a fi v).2.1 a j = T.2.1 a j := t2_off (fun q => e q.2)
    rw [this]
    rfl
theorem tf_P {T : tT} {a ci fi : Nat} {v : Option Nat} (hk : fk ci fi = 2) : tf (tP T a fi v) a ci = va_up (tf T a ci) fi (va_rf v) := by
  funext j
  show tf (tP T a fi v) a ci j = if j = fi then va_rf v else tf T a ci j
  by_cases e : j = fi
  · subst e
    rw [if_pos rfl]
    unfold tf
    rw [hk]
    show va_rf (t2 T.2.2 a j v a j) = _
    rw [t2_at]
  · rw [if_neg e]
    unfold tf
    have : (tP T a fi v).2.2 a j = T.2.2 a j := t2_off (fun q => e q.2)
    rw [this]
    rfl
section TX
variable {X : ax_X} {M : ax_M} {d pc k n : Nat} {Ls : List (Option Value)} {st : List Value} {L sz : Nat} {T : tT} {a : Nat}
theorem tx_getI (hX : ax_ok X M d) {ci fi idx : Nat} {fty : FieldType} {fin : Bool} {C : String} (hw : ax_FW M.1.cls idx ci fi fty fin C) (hl : ly a = .inr ci) (hk : fk ci fi = 0) (h0 : a ≠ 0) (hs : a < sz) (hd : decode M.2.1 pc = .ok (.getfield idx, 3)) (kk : ax_j X (pc + 3) Ls (.int (T.1 a fi) :: st) (th L sz T) k n) : ax_j X pc Ls (.ref a :: st) (th L sz T) k n :=
  ax_getf hX hw ((th_at h0 hs).trans (tc_ob hl)) (by unfold tf; rw [hk]) hd kk
theorem tx_getJ (hX : ax_ok X M d) {ci fi idx : Nat} {fty : FieldType} {fin : Bool} {C : String} (hw : ax_FW M.1.cls idx ci fi fty fin C) (hl : ly a = .inr ci) (hk : fk ci fi = 1) (h0 : a ≠ 0) (hs : a < sz) (hd : decode M.2.1 pc = .ok (.getfield idx, 3)) (kk : ax_j X (pc + 3) Ls (.long (T.2.1 a fi) :: st) (th L sz T) k n) : ax_j X pc Ls (.ref a :: st) (th L sz T) k n :=
  ax_getf hX hw ((th_at h0 hs).trans (tc_ob hl)) (by unfold tf; rw [hk]) hd kk
theorem tx_getP (hX : ax_ok X M d) {ci fi idx : Nat} {fty : FieldType} {fin : Bool} {C : String} {v : Value} (hw : ax_FW M.1.cls idx ci fi fty fin C) (hl : ly a = .inr ci) (hk : fk ci fi = 2) (h0 : a ≠ 0) (hs : a < sz) (hv : va_rf (T.2.2 a fi) = v) (hd : decode M.2.1 pc = .ok (.getfield idx, 3)) (kk : ax_j X (pc + 3) Ls (v :: st) (th L sz T) k n) : ax_j X pc Ls (.ref a :: st) (th L sz T) k n :=
  ax_getf hX hw ((th_at h0 hs).trans (tc_ob hl)) (by unfold tf; rw [hk]; exact hv) hd kk
theorem tx_getF (hX : ax_ok X M d) {ci fi idx o b : Nat} {fty : FieldType} {fin : Bool} {C : String} (hw : ax_FW M.1.cls idx ci fi fty fin C) (hl : ly a = .inr ci) (hk : fk ci fi = o + 3) (hb : a + o = b) (h0 : a ≠ 0) (hs : a < sz) (hd : decode M.2.1 pc = .ok (.getfield idx, 3)) (kk : ax_j X (pc + 3) Ls (.ref b :: st) (th L sz T) k n) : ax_j X pc Ls (.ref a :: st) (th L sz T) k n :=
  ax_getf hX hw ((th_at h0 hs).trans (tc_ob hl)) (by unfold tf; rw [hk]; exact congrArg Value.ref hb) hd kk
theorem tx_putI (hX : ax_ok X M d) {ci fi idx : Nat} {fty : FieldType} {C : String} {v : Int32} (hw : ax_FW M.1.cls idx ci fi fty false C) (hl : ly a = .inr ci) (hk : fk ci fi = 0) (h2 : 2 ≤ a) (hs : a < sz) (hn : narrow fty (.int v) = .int v) (hf : fits fty (.int v) = true) (hd : decode M.2.1 pc = .ok (.putfield idx, 3)) (kk : ax_j X (pc + 3) Ls st (th L sz (tI T a fi v)) k n) : ax_j X pc Ls (.int v :: .ref a :: st) (th L sz T) k n := by
  have h0 : a ≠ 0 := by omega
  refine ax_putf hX hw ((th_at h0 hs).trans (tc_ob hl)) h2 hn hf hd ?_
  rw [th_set (T' := tI T a fi v) h0 hs (by rw [tc_ob hl, tf_I hk]) tI_o]
  exact kk
theorem tx_putJ (hX : ax_ok X M d) {ci fi idx : Nat} {C : String} {v : Int64} (hw : ax_FW M.1.cls idx ci fi .long false C) (hl : ly a = .inr ci) (hk : fk ci fi = 1) (h2 : 2 ≤ a) (hs : a < sz) (hd : decode M.2.1 pc = .ok (.putfield idx, 3)) (kk : ax_j X (pc + 3) Ls st (th L sz (tJ T a fi v)) k n) : ax_j X pc Ls (.long v :: .ref a :: st) (th L sz T) k n := by
  have h0 : a ≠ 0 := by omega
  refine ax_putf hX hw ((th_at h0 hs).trans (tc_ob hl)) h2 rfl rfl hd ?_
  rw [th_set (T' := tJ T a fi v) h0 hs (by rw [tc_ob hl, tf_J hk]) tJ_o]
  exact kk
theorem tx_putP (hX : ax_ok X M d) {ci fi idx b : Nat} {fty : FieldType} {C : String} (hw : ax_FW M.1.cls idx ci fi fty false C) (hl : ly a = .inr ci) (hk : fk ci fi = 2) (h2 : 2 ≤ a) (hs : a < sz) (hn : narrow fty (.ref b) = .ref b) (hf : fits fty (.ref b) = true) (hd : decode M.2.1 pc = .ok (.putfield idx, 3)) (kk : ax_j X (pc + 3) Ls st (th L sz (tP T a fi (some b))) k n) : ax_j X pc Ls (.ref b :: .ref a :: st) (th L sz T) k n := by
  have h0 : a ≠ 0 := by omega
  refine ax_putf hX hw ((th_at h0 hs).trans (tc_ob hl)) h2 hn hf hd ?_
  rw [th_set (T' := tP T a fi (some b)) h0 hs (by rw [tc_ob hl, tf_P hk]; rfl) tP_o]
  exact kk
theorem tx_ial (hX : ax_ok X M d) {N : Nat} {i : Int32} (hl : ly a = .inl (0, N)) (h0 : a ≠ 0) (hs : a < sz) (hi : vp_in i N) (hd : decode M.2.1 pc = .ok (.iaload, 1)) (kk : ax_j X (pc + 1) Ls (.int (T.1 a i.toNatClampNeg) :: st) (th L sz T) k n) : ax_j X pc Ls (.int i :: .ref a :: st) (th L sz T) k n :=
  ax_iaload hX ((th_at h0 hs).trans (tc_ia hl (by decide) (by decide))) hi hd kk
theorem th_0 {L sz : Nat} {T : tT} : (th L sz T).2 0 = ax_ia 0 L (T.1 0) := rfl
theorem tx_sal (hX : ax_ok X M d) {i : Int32} (hi : vp_in i L) (hd : decode M.2.1 pc = .ok (.iaload, 1)) (kk : ax_j X (pc + 1) Ls (.int (T.1 0 i.toNatClampNeg) :: st) (th L sz T) k n) : ax_j X pc Ls (.int i :: .ref 0 :: st) (th L sz T) k n :=
  ax_iaload hX th_0 hi hd kk
theorem tx_slen (hX : ax_ok X M d) (hd : decode M.2.1 pc = .ok (.arraylength, 1)) (kk : ax_j X (pc + 1) Ls (.int (nI L) :: st) (th L sz T) k n) : ax_j X pc Ls (.ref 0 :: st) (th L sz T) k n :=
  ax_alen hX th_0 (by decide) hd kk
theorem tx_bal (hX : ax_ok X M d) {N : Nat} {i : Int32} (hl : ly a = .inl (2, N)) (h0 : a ≠ 0) (hs : a < sz) (hi : vp_in i N) (hd : decode M.2.1 pc = .ok (.baload, 1)) (kk : ax_j X (pc + 1) Ls (.int (T.1 a i.toNatClampNeg) :: st) (th L sz T) k n) : ax_j X pc Ls (.int i :: .ref a :: st) (th L sz T) k n :=
  ax_baload hX ((th_at h0 hs).trans (tc_ia hl (by decide) (by decide))) hi hd kk
theorem tx_zal (hX : ax_ok X M d) {N : Nat} {i : Int32} (hl : ly a = .inl (3, N)) (h0 : a ≠ 0) (hs : a < sz) (hi : vp_in i N) (hd : decode M.2.1 pc = .ok (.baload, 1)) (kk : ax_j X (pc + 1) Ls (.int (T.1 a i.toNatClampNeg) :: st) (th L sz T) k n) : ax_j X pc Ls (.int i :: .ref a :: st) (th L sz T) k n :=
  ax_zaload hX ((th_at h0 hs).trans (tc_ia hl (by decide) (by decide))) hi hd kk
theorem tx_lal (hX : ax_ok X M d) {N : Nat} {i : Int32} (hl : ly a = .inl (1, N)) (h0 : a ≠ 0) (hs : a < sz) (hi : vp_in i N) (hd : decode M.2.1 pc = .ok (.laload, 1)) (kk : ax_j X (pc + 1) Ls (.long (T.2.1 a i.toNatClampNeg) :: st) (th L sz T) k n) : ax_j X pc Ls (.int i :: .ref a :: st) (th L sz T) k n :=
  ax_laload hX ((th_at h0 hs).trans (tc_la hl)) hi hd kk
theorem tx_aal (hX : ax_ok X M d) {t N : Nat} {i : Int32} {v : Value} (hl : ly a = .inl (t, N)) (ht : t = 4 ∨ t = 5) (h0 : a ≠ 0) (hs : a < sz) (hi : vp_in i N) (hv : va_rf (T.2.2 a i.toNatClampNeg) = v) (hd : decode M.2.1 pc = .ok (.aaload, 1)) (kk : ax_j X (pc + 1) Ls (v :: st) (th L sz T) k n) : ax_j X pc Ls (.int i :: .ref a :: st) (th L sz T) k n :=
  ax_aaload hX ((th_at h0 hs).trans (tc_ra hl (by omega))) ht hi hv hd kk
theorem tx_len (hX : ax_ok X M d) {N : Nat} (hl : ly a = .inl (1, N)) (h0 : a ≠ 0) (hs : a < sz) (hd : decode M.2.1 pc = .ok (.arraylength, 1)) (kk : ax_j X (pc + 1) Ls (.int (nI N) :: st) (th L sz T) k n) : ax_j X pc Ls (.ref a :: st) (th L sz T) k n :=
  ax_alen hX ((th_at h0 hs).trans (tc_la hl)) (by decide) hd kk
theorem tx_ias (hX : ax_ok X M d) {N : Nat} {i x : Int32} (hl : ly a = .inl (0, N)) (h2 : 2 ≤ a) (hs : a < sz) (hi : vp_in i N) (hd : decode M.2.1 pc = .ok (.iastore, 1)) (kk : ax_j X (pc + 1) Ls st (th L sz (tI T a i.toNatClampNeg x)) k n) : ax_j X pc Ls (.int x :: .int i :: .ref a :: st) (th L sz T) k n := by
  have h0 : a ≠ 0 := by omega
  refine ax_iastore hX ((th_at h0 hs).trans (tc_ia hl (by decide) (by decide))) h2 hi hd ?_
  rw [th_set (T' := tI T a i.toNatClampNeg x) h0 hs (by rw [tc_ia hl (by decide) (by decide)]; show ax_ia 0 N (t2 T.1 a _ x a) = _; rw [t2_eq]; rfl) tI_o]
  exact kk
theorem tx_bas (hX : ax_ok X M d) {N : Nat} {i x : Int32} (hl : ly a = .inl (2, N)) (h2 : 2 ≤ a) (hs : a < sz) (hi : vp_in i N) (hd : decode M.2.1 pc = .ok (.bastore, 1)) (kk : ax_j X (pc + 1) Ls st (th L sz (tI T a i.toNatClampNeg x.toInt8.toInt32)) k n) : ax_j X pc Ls (.int x :: .int i :: .ref a :: st) (th L sz T) k n := by
  have h0 : a ≠ 0 := by omega
  refine ax_bastore hX ((th_at h0 hs).trans (tc_ia hl (by decide) (by decide))) h2 hi hd ?_
  rw [th_set (T' := tI T a i.toNatClampNeg x.toInt8.toInt32) h0 hs (by rw [tc_ia hl (by decide) (by decide)]; show ax_ia 2 N (t2 T.1 a _ _ a) = _; rw [t2_eq]; rfl) tI_o]
  exact kk
theorem tx_zas (hX : ax_ok X M d) {N : Nat} {i x : Int32} (hl : ly a = .inl (3, N)) (h2 : 2 ≤ a) (hs : a < sz) (hi : vp_in i N) (hd : decode M.2.1 pc = .ok (.bastore, 1)) (kk : ax_j X (pc + 1) Ls st (th L sz (tI T a i.toNatClampNeg (x &&& 1))) k n) : ax_j X pc Ls (.int x :: .int i :: .ref a :: st) (th L sz T) k n := by
  have h0 : a ≠ 0 := by omega
  refine ax_zastore hX ((th_at h0 hs).trans (tc_ia hl (by decide) (by decide))) h2 hi hd ?_
  rw [th_set (T' := tI T a i.toNatClampNeg (x &&& 1)) h0 hs (by rw [tc_ia hl (by decide) (by decide)]; show ax_ia 3 N (t2 T.1 a _ _ a) = _; rw [t2_eq]; rfl) tI_o]
  exact kk
theorem tx_las (hX : ax_ok X M d) {N : Nat} {i : Int32} {x : Int64} (hl : ly a = .inl (1, N)) (h2 : 2 ≤ a) (hs : a < sz) (hi : vp_in i N) (hd : decode M.2.1 pc = .ok (.lastore, 1)) (kk : ax_j X (pc + 1) Ls st (th L sz (tJ T a i.toNatClampNeg x)) k n) : ax_j X pc Ls (.long x :: .int i :: .ref a :: st) (th L sz T) k n := by
  have h0 : a ≠ 0 := by omega
  refine ax_lastore hX ((th_at h0 hs).trans (tc_la hl)) h2 hi hd ?_
  rw [th_set (T' := tJ T a i.toNatClampNeg x) h0 hs (by rw [tc_la hl]; show ax_la N (t2 T.2.1 a _ x a) = _; rw [t2_eq]; rfl) tJ_o]
  exact kk
theorem tx_aas (hX : ax_ok X M d) {t N ci v : Nat} {i : Int32} {r : vw_C} (hl : ly a = .inl (t, N)) (ht : t = 4 ∨ t = 5) (hlv : ly v = .inr ci) (hcl : vwCl[ci]? = some r) (hr : ax_ty t = .object r.1) (h2 : 2 ≤ a) (hs : a < sz) (hv0 : v ≠ 0) (hvs : v < sz) (hi : vp_in i N) (hd : decode M.2.1 pc = .ok (.aastore, 1)) (kk : ax_j X (pc + 1) Ls st (th L sz (tP T a i.toNatClampNeg (some v))) k n) : ax_j X pc Ls (.ref v :: .int i :: .ref a :: st) (th L sz T) k n := by
  have h0 : a ≠ 0 := by omega
  refine ax_aastore hX ((th_at h0 hs).trans (tc_ra hl (by omega))) h2 ht ((th_at hv0 hvs).trans (tc_ob hlv)) hcl hr hi hd ?_
  rw [th_set (T' := tP T a i.toNatClampNeg (some v)) h0 hs (by rw [tc_ra hl (by omega)]; show ax_ra t N (t2 T.2.2 a _ _ a) = _; rw [t2_eq]) tP_o]
  exact kk
end TX
