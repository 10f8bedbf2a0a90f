/-! objects under construction -/
def nz (T : tT) (a : Nat) : Prop := ∀ k, a ≤ k → T.1 k = (fun _ => 0) ∧ T.2.1 k = (fun _ => 0) ∧ T.2.2 k = (fun _ => none)
theorem nz.up {T : tT} {a b : Nat} (h : nz T a) (hab : a ≤ b) : nz T b := fun k hk => h k (Nat.le_trans hab hk)
/-- below a: f; from a to sz: typed -/
def gn (f : Nat → ax_C) (a sz : Nat) (T : tT) : ax_H := (sz, fun j => if j < a then f j else if j < sz then tc T j else .inr (99, fun _ => .null))
/-- the object's fields while it is made: those that are final and not set yet (from c on) are null -/
def fq (T : tT) (a ci N c : Nat) : Nat → Value := fun j => if 3 ≤ fk ci j ∧ j < N ∧ c ≤ j then .null else tf T a ci j
def cq (f : Nat → ax_C) (a m : Nat) (T : tT) (ci N c : Nat) : ax_H := (a + 1 + m, fun j => if j = a then ax_ob ci (fq T a ci N c) else (gn f a (a + 1 + m) T).2 j)
theorem gn_lo {f : Nat → ax_C} {a sz j : Nat} {T : tT} (h : j < a) : (gn f a sz T).2 j = f j := if_pos h
theorem gn_at {f : Nat → ax_C} {a sz j : Nat} {T : tT} (h : a ≤ j) (hs : j < sz) : (gn f a sz T).2 j = tc T j := by
  show (if j < a then f j else if j < sz then tc T j else _) = _
  rw [if_neg (by omega), if_pos hs]
theorem gn_hi {f : Nat → ax_C} {a sz j : Nat} {T : tT} (h : a ≤ j) (hs : sz ≤ j) : (gn f a sz T).2 j = .inr (99, fun _ => .null) := by
  show (if j < a then f j else if j < sz then tc T j else _) = _
  rw [if_neg (by omega), if_neg (by omega)]
theorem cq_a {f : Nat → ax_C} {a m ci N c : Nat} {T : tT} : (cq f a m T ci N c).2 a = ax_ob ci (fq T a ci N c) := if_pos rfl
theorem cq_ne {f : Nat → ax_C} {a m ci N c j : Nat} {T : tT} (h : j ≠ a) : (cq f a m T ci N c).2 j = (gn f a (a + 1 + m) T).2 j := if_neg h
theorem cq_push {f : Nat → ax_C} {a m ci N c : Nat} {T : tT} {x : ax_C} (hx : tc T (a + 1 + m) = x) : ((cq f a m T ci N c).1 + 1, va_up (cq f a m T ci N c).2 (cq f a m T ci N c).1 x) = cq f a (m + 1) T ci N c := by
  refine Prod.ext rfl (funext fun j => ?_)
  show (if j = a + 1 + m then x else (cq f a m T ci N c).2 j) = _
  by_cases h1 : j = a + 1 + m
  · subst h1
    rw [if_pos rfl, cq_ne (by omega), gn_at (by omega) (by omega), hx]
  · rw [if_neg h1]
    by_cases h2 : j = a
    · subst h2; rw [cq_a, cq_a]
    · rw [cq_ne h2, cq_ne h2]
      by_cases h3 : j < a
      · rw [gn_lo h3, gn_lo h3]
      · by_cases h4 : j < a + 1 + m
        · rw [gn_at (by omega) h4, gn_at (by omega) (by omega)]
        · rw [gn_hi (by omega) (by omega), gn_hi (by omega) (by omega)]
theorem fq_put {T : tT} {a ci N c fi o : Nat} (h1 : c ≤ fi) (h2 : ∀ j, j < fi → c ≤ j → fk ci j < 3) (hk : fk ci fi = o + 3) : va_up (fq T a ci N c) fi (.ref (a + o)) = fq T a ci N (fi + 1) := by
  funext j
  show (if j = fi then _ else if 3 ≤ fk ci j ∧ j < N ∧ c ≤ j then _ else _) = (if 3 ≤ fk ci j ∧ j < N ∧ fi + 1 ≤ j then _ else _)
  by_cases e : j = fi
  · subst e
    rw [if_pos rfl, if_neg (by omega)]
    unfold tf
    rw [hk]
  · rw [if_neg e]
    by_cases hc : 3 ≤ fk ci j ∧ j < N ∧ c ≤ j
    · rw [if_pos hc, if_pos ⟨hc.1, hc.2.1, by
        by_cases z : fi + 1 ≤ j
        · exact z
        · have := h2 j (by omega) hc.2.2
          omega⟩]
    · rw [if_neg hc, if_neg (fun q => hc ⟨q.1, q.2.1, by omega⟩)]
theorem fq_end {T : tT} {a ci N : Nat} : fq T a ci N N = tf T a ci := by
  funext j
  exact if_neg (by omega)
theorem fq_row {T T' : tT} {a ci N c : Nat} (h1 : T'.1 a = T.1 a) (h2 : T'.2.1 a = T.2.1 a) (h3 : T'.2.2 a = T.2.2 a) : fq T' a ci N c = fq T a ci N c := by
  unfold fq tf
  rw [h1, h2, h3]
theorem fq_I {T : tT} {a ci N c fi : Nat} {v : Int32} (hk : fk ci fi = 0) : va_up (fq T a ci N c) fi (.int v) = fq (tI T a fi v) a ci N c := by
  funext j
  show (if j = fi then _ else if 3 ≤ fk ci j ∧ j < N ∧ c ≤ j then _ else _) = (if 3 ≤ fk ci j ∧ j < N ∧ c ≤ j then _ else tf (tI T a fi v) a ci j)
  rw [tf_I hk]
  show _ = (if 3 ≤ fk ci j ∧ j < N ∧ c ≤ j then _ else if j = fi then _ else _)
  by_cases e : j = fi
  · subst e; rw [if_pos rfl, if_neg (by omega), if_pos rfl]
  · rw [if_neg e, if_neg e]
theorem fq_P {T : tT} {a ci N c fi : Nat} {v : Option Nat} (hk : fk ci fi = 2) : va_up (fq T a ci N c) fi (va_rf v) = fq (tP T a fi v) a ci N c := by
  funext j
  show (if j = fi then _ else if 3 ≤ fk ci j ∧ j < N ∧ c ≤ j then _ else _) = (if 3 ≤ fk ci j ∧ j < N ∧ c ≤ j then _ else tf (tP T a fi v) a ci j)
  rw [tf_P hk]
  show _ = (if 3 ≤ fk ci j ∧ j < N ∧ c ≤ j then _ else if j = fi then _ else _)
  by_cases e : j = fi
  · subst e; rw [if_pos rfl, if_neg (by omega), if_pos rfl]
  · rw [if_neg e, if_neg e]
theorem gn_row {f : Nat → ax_C} {a b sz : Nat} {T T' : tT} (h : ∀ j, a ≤ j → j ≠ b → T'.1 j = T.1 j ∧ T'.2.1 j = T.2.1 j ∧ T'.2.2 j = T.2.2 j) {j : Nat} (hj : j ≠ b) : (gn f a sz T').2 j = (gn f a sz T).2 j := by
  by_cases h3 : j < a
  · rw [gn_lo h3, gn_lo h3]
  · by_cases h4 : j < sz
    · obtain ⟨q1, q2, q3⟩ := h j (by omega) hj
      rw [gn_at (by omega) h4, gn_at (by omega) h4, tc_off q1 q2 q3]
    · rw [gn_hi (by omega) (by omega), gn_hi (by omega) (by omega)]
/-- a field of the object is set -/
theorem cq_set {f : Nat → ax_C} {a m ci N c c' : Nat} {T T' : tT} {fs : Nat → Value} (hf : fs = fq T' a ci N c') (ho : ∀ j, j ≠ a → T'.1 j = T.1 j ∧ T'.2.1 j = T.2.1 j ∧ T'.2.2 j = T.2.2 j) : ((cq f a m T ci N c).1, va_up (cq f a m T ci N c).2 a (ax_ob ci fs)) = cq f a m T' ci N c' := by
  refine Prod.ext rfl (funext fun j => ?_)
  show (if j = a then ax_ob ci fs else (cq f a m T ci N c).2 j) = _
  by_cases h2 : j = a
  · subst h2; rw [if_pos rfl, cq_a, hf]
  · rw [if_neg h2, cq_ne h2, cq_ne h2, gn_row (fun j _ hj => ho j hj) h2]
/-- an object inside is begun, and is there -/
theorem cq_in {f : Nat → ax_C} {a m ci N c ci' N' : Nat} {T : tT} : ((cq f a m T ci N c).1 + 1, va_up (cq f a m T ci N c).2 (cq f a m T ci N c).1 (ax_ob ci' (fq T (a + 1 + m) ci' N' 0))) = cq (cq f a m T ci N c).2 (a + 1 + m) 0 T ci' N' 0 := by
  refine Prod.ext rfl (funext fun j => ?_)
  show (if j = a + 1 + m then _ else (cq f a m T ci N c).2 j) = _
  by_cases h1 : j = a + 1 + m
  · subst h1; rw [if_pos rfl, cq_a]
  · rw [if_neg h1, cq_ne h1]
    by_cases h2 : j < a + 1 + m
    · rw [gn_lo h2]
    · rw [gn_hi (by omega) (by omega), cq_ne (by omega), gn_hi (by omega) (by omega)]
theorem cq_out {f : Nat → ax_C} {a m s ci N c : Nat} {T T' : tT} (ho : ∀ j, j < a + 1 + m → T'.1 j = T.1 j ∧ T'.2.1 j = T.2.1 j ∧ T'.2.2 j = T.2.2 j) : gn (cq f a m T ci N c).2 (a + 1 + m) (a + 1 + m + s) T' = cq f a (m + s) T' ci N c := by
  refine Prod.ext (by show a + 1 + m + s = a + 1 + (m + s); omega) (funext fun j => ?_)
  by_cases h2 : j < a + 1 + m
  · rw [gn_lo h2]
    by_cases h1 : j = a
    · subst h1
      rw [cq_a, cq_a]
      obtain ⟨q1, q2, q3⟩ := ho j (by omega)
      rw [fq_row q1 q2 q3]
    · rw [cq_ne h1, cq_ne h1]
      by_cases h3 : j < a
      · rw [gn_lo h3, gn_lo h3]
      · obtain ⟨q1, q2, q3⟩ := ho j h2
        rw [gn_at (by omega) h2, gn_at (by omega) (by omega), tc_off q1 q2 q3]
  · rw [cq_ne (by omega)]
    by_cases h4 : j < a + 1 + m + s
    · rw [gn_at (by omega) h4, gn_at (by omega) (by omega)]
    · rw [gn_hi (by omega) (by omega), gn_hi (by omega) (by omega)]
theorem cq_end {f : Nat → ax_C} {a m ci N : Nat} {T : tT} (hl : ly a = .inr ci) : cq f a m T ci N N = gn f a (a + 1 + m) T := by
  refine Prod.ext rfl (funext fun j => ?_)
  by_cases h1 : j = a
  · subst h1
    rw [cq_a, gn_at (by omega) (by omega), tc_ob hl, fq_end]
  · rw [cq_ne h1]
theorem fq_def {T : tT} {a ci N : Nat} {ty : Nat → FieldType} (hz : nz T a) (hd : ∀ j, j < N → (fk ci j = 0 ∧ defaultValue (ty j) = .int 0) ∨ (fk ci j = 1 ∧ defaultValue (ty j) = .long 0) ∨ (2 ≤ fk ci j ∧ defaultValue (ty j) = .null)) : ∀ j, j < N → fq T a ci N 0 j = defaultValue (ty j) := by
  intro j hj
  obtain ⟨z1, z2, z3⟩ := hz a (Nat.le_refl _)
  show (if 3 ≤ fk ci j ∧ j < N ∧ 0 ≤ j then _ else tf T a ci j) = _
  rcases hd j hj with ⟨h, e⟩ | ⟨h, e⟩ | ⟨h, e⟩
  · rw [if_neg (by omega), e]; unfold tf; rw [h, z1]
  · rw [if_neg (by omega), e]; unfold tf; rw [h, z2]
  · by_cases h3 : 3 ≤ fk ci j
    · rw [if_pos ⟨h3, hj, Nat.zero_le _⟩, e]
    · rw [if_neg (by omega), e]
      unfold tf
      rw [show fk ci j = 2 by omega, z3]
      rfl
section CX
variable {X : ax_X} {M : ax_M} {d pc k n : Nat} {Ls : List (Option Value)} {st : List Value} {f : Nat → ax_C} {a m ci N c : Nat} {T : tT}
theorem cx_newI (hX : ax_ok X M d) {aty : ArrayType} {t N' : Nat} {x : Int32} (hl : ly (a + 1 + m) = .inl (t, N')) (hz : nz T (a + 1 + m)) (hw : Cond.arrayClass (newarray.typeOf aty) ∈ ax_ws) (hty : newarray.typeOf aty = ax_ty t) (ht1 : t ≠ 1) (ht : t < 4) (hdf : defaultValue (ax_ty t) = .int 0) (hx : ¬ x < 0) (hN : x.toNatClampNeg = N') (hb8 : N' * componentBytes (ax_ty t) ≤ 536870912) (hk : k + 1 ≤ M.2.2.2.2.1) (hn2 : n + N' ≤ M.2.2.2.2.2) (hsm : N' < 2 ^ 31) (hd : decode M.2.1 pc = .ok (.newarray aty, 2)) (kk : ax_j X (pc + 2) Ls (.ref (a + 1 + m) :: st) (cq f a (m + 1) T ci N c) (k + 1) (n + N')) : ax_j X pc Ls (.int x :: st) (cq f a m T ci N c) k n := by
  refine ax_newI hX hw hty ht hdf hx hN hb8 hk hn2 hsm hd ?_
  rw [cq_push (by rw [tc_ia hl ht1 ht, (hz _ (Nat.le_refl _)).1])]
  exact kk
theorem cx_newL (hX : ax_ok X M d) {N' : Nat} {x : Int32} (hl : ly (a + 1 + m) = .inl (1, N')) (hz : nz T (a + 1 + m)) (hx : ¬ x < 0) (hN : x.toNatClampNeg = N') (hb8 : N' * 8 ≤ 536870912) (hk : k + 1 ≤ M.2.2.2.2.1) (hn2 : n + N' ≤ M.2.2.2.2.2) (hd : decode M.2.1 pc = .ok (.newarray .long, 2)) (kk : ax_j X (pc + 2) Ls (.ref (a + 1 + m) :: st) (cq f a (m + 1) T ci N c) (k + 1) (n + N')) : ax_j X pc Ls (.int x :: st) (cq f a m T ci N c) k n := by
  refine ax_newL hX ac_long hx hN hb8 hk hn2 hd ?_
  rw [cq_push (by rw [tc_la hl, (hz _ (Nat.le_refl _)).2.1])]
  exact kk
theorem cx_newR (hX : ax_ok X M d) {idx t N' : Nat} {C : String} {x : Int32} (hlk : Cond.classLink M.1.cls idx C ∈ ax_ws) (hw : Cond.arrayOver (.object C) ∈ ax_nest) (hty : ax_ty t = .object C) (ht : ¬ t < 4) (hl : ly (a + 1 + m) = .inl (t, N')) (hz : nz T (a + 1 + m)) (hx : ¬ x < 0) (hN : x.toNatClampNeg = N') (hb8 : N' * 4 ≤ 536870912) (hk : k + 1 ≤ M.2.2.2.2.1) (hn2 : n + N' ≤ M.2.2.2.2.2) (hd : decode M.2.1 pc = .ok (.anewarray idx, 3)) (kk : ax_j X (pc + 3) Ls (.ref (a + 1 + m) :: st) (cq f a (m + 1) T ci N c) (k + 1) (n + N')) : ax_j X pc Ls (.int x :: st) (cq f a m T ci N c) k n := by
  refine ax_newR hX hlk hw hty hx hN hb8 hk hn2 hd ?_
  rw [cq_push (by rw [tc_ra hl ht, (hz _ (Nat.le_refl _)).2.2])]
  exact kk
theorem cx_putF (hX : ax_ok X M d) {fi idx o b : Nat} {fty : FieldType} (hw : ax_FW M.1.cls idx ci fi fty true M.1.cls) (hini : M.1.name = "<init>") (h2a : 2 ≤ a) (h1 : c ≤ fi) (h2 : ∀ j, j < fi → c ≤ j → fk ci j < 3) (hk : fk ci fi = o + 3) (hb : a + o = b) (hn : narrow fty (.ref 0) = .ref 0) (hf : fits fty (.ref 0) = true) (hd : decode M.2.1 pc = .ok (.putfield idx, 3)) (kk : ax_j X (pc + 3) Ls st (cq f a m T ci N (fi + 1)) k n) : ax_j X pc Ls (.ref b :: .ref a :: st) (cq f a m T ci N c) k n := by
  subst hb
  refine ax_putF hX hw hini cq_a h2a (by cases fty <;> first | rfl | cases hf) (by cases fty <;> first | rfl | cases hf) hd ?_
  rw [cq_set (T' := T) (fq_put h1 h2 hk) (fun _ _ => ⟨rfl, rfl, rfl⟩)]
  exact kk
theorem cx_putI (hX : ax_ok X M d) {fi idx : Nat} {C : String} {v : Int32} (hw : ax_FW M.1.cls idx ci fi .int false C) (h2a : 2 ≤ a) (hk : fk ci fi = 0) (hd : decode M.2.1 pc = .ok (.putfield idx, 3)) (kk : ax_j X (pc + 3) Ls st (cq f a m (tI T a fi v) ci N c) k n) : ax_j X pc Ls (.int v :: .ref a :: st) (cq f a m T ci N c) k n := by
  refine ax_putf hX hw cq_a h2a rfl rfl hd ?_
  rw [cq_set (T' := tI T a fi v) (fq_I hk) tI_o]
  exact kk
theorem cx_putP (hX : ax_ok X M d) {fi idx b : Nat} {fty : FieldType} {C : String} (hw : ax_FW M.1.cls idx ci fi fty false C) (h2a : 2 ≤ a) (hk : fk ci fi = 2) (hf : fits fty (.ref 0) = true) (hd : decode M.2.1 pc = .ok (.putfield idx, 3)) (kk : ax_j X (pc + 3) Ls st (cq f a m (tP T a fi (some b)) ci N c) k n) : ax_j X pc Ls (.ref b :: .ref a :: st) (cq f a m T ci N c) k n := by
  refine ax_putf hX hw cq_a h2a (by cases fty <;> first | rfl | cases hf) (by cases fty <;> first | rfl | cases hf) hd ?_
  rw [cq_set (fs := va_up (fq T a ci N c) fi (.ref b)) (T' := tP T a fi (some b)) (c' := c) (fq_P (v := some b) hk) tP_o]
  exact kk
theorem cx_new (hX : ax_ok X M d) {idx ci' N' b : Nat} {C : String} {T' : u_T} {ty : Nat → FieldType} (hcl : ax_cls ci' C T' N' ty) (hl : Cond.classLink M.1.cls idx C ∈ ax_ws) (hi : Cond.instantiable C N' ∈ ax_ws) (hini : Cond.initialized C ∈ ax_ws) (hb : a + 1 + m = b) (hz : nz T b) (hdf : ∀ j, j < N' → (fk ci' j = 0 ∧ defaultValue (ty j) = .int 0) ∨ (fk ci' j = 1 ∧ defaultValue (ty j) = .long 0) ∨ (2 ≤ fk ci' j ∧ defaultValue (ty j) = .null)) (hk : k + 1 ≤ M.2.2.2.2.1) (hn2 : n + N' ≤ M.2.2.2.2.2) (hd : decode M.2.1 pc = .ok (.new idx, 3)) (kk : ax_j X (pc + 3) Ls (.ref b :: st) (cq (cq f a m T ci N c).2 b 0 T ci' N' 0) (k + 1) (n + N')) : ax_j X pc Ls st (cq f a m T ci N c) k n := by
  subst hb
  refine ax_new hX hcl hl hi hini (fq_def hz hdf) hk hn2 hd ?_
  rw [cq_in]
  exact kk
end CX
/-- a constructor's contract: the object at a, its cells behind it; T1 is what it writes -/
def ctK (d : Nat) (M : ax_M) (a ci N s : Nat) (f : Nat → ax_C) (T T1 : tT) : Prop := ax_K d M [.ref a] (cq f a 0 T ci N 0) (fun r h => r = none ∧ h = gn f a (a + s) T1)
