/-! rules: making, statics, calls, answers, entry -/
theorem ax_nw.same {w : Cond} {u U : State} (h : u.vm = U.vm) (hw : ax_nw w u) : ax_nw w U := by
  cases w with
  | fieldLinkNest a i b n d h' => exact va_Nw.same rfl h hw
  | methodLinkNest a i x h' => exact va_Nw.same rfl h hw
  | arrayOver ty =>
    cases ty with
    | object C => exact va_AO.moved (by rw [h]; exact Vm.Alike.refl _) hw
    | _ => exact trivial
  | _ => exact trivial
theorem ax_T.same {D : va_G} {g : Nat → Nat} {u U : State} (h : u.vm = U.vm) (hh : u.heap = U.heap) (hT : ax_T D g u) : ax_T D g U :=
  ⟨va_K.moved (by rw [h]; exact Vm.Alike.refl _) hT.1, fun w hw => (hT.2.1 w hw).same h, by rw [← hh]; exact va_Z.moved (by rw [h]; exact Vm.Alike.refl _) hT.2.2⟩
def ax_Pc (D : va_G) (g : Nat → Nat) (A : List Value) (h : ax_H) : Array Value → State → Prop := fun v U => v = (A.map (ax_v g)).toArray ∧ ax_R D g U h U.heap ∧ ax_T D g U
def ax_Qc (D : va_G) (g : Nat → Nat) (Q : Option Value → ax_H → Prop) : Array Value → State → Outcome → State → Prop := fun _ st o t => (∃ (r : Option Value) (h' : ax_H), o = .returned (r.map (ax_v g)) ∧ Q r h' ∧ ax_R D g t h' t.heap) ∧ va_F (fun q => g 2 ≤ q) st t
/-- method M, called with A over the heap h, ends with Q of its answer and the heap behind it -/
def ax_K (d : Nat) (M : ax_M) (A : List Value) (h : ax_H) (Q : Option Value → ax_H → Prop) : Prop :=
  ∀ (l : Launch) (D : va_G) (g : Nat → Nat), ax_G g → Met l M.1 (.code M.1 M.2.1 M.2.2.1 M.2.2.2.1 :: ax_ws) (ax_rm d M) (ax_Pc D g A h) (ax_Qc D g Q) M.2.2.2.2.1 M.2.2.2.2.2 (fun q => g 2 ≤ q)
theorem ax_blind (D : va_G) (g : Nat → Nat) (A : List Value) (h : ax_H) : FrameBlind (ax_Pc D g A h) := fun a U g' mk q =>
  ⟨q.1, ax_R.moved (u := U) (U := U.calling g' mk a) (Vm.Alike.refl U.vm) q.2.1, ax_T.same (u := U) (U := U.calling g' mk a) rfl rfl q.2.2⟩
theorem ax_good {w : Cond} (hw : w ∈ ax_ws) : GoodIn ax_ws (w :: ax_ws) := by
  have key : ∀ x ∈ ax_ws, x ∈ ax_ws ∧ ((x.onTables && x.keeps) = true ∨ ∃ ty, x = .arrayClass ty) := fun x hx => ⟨hx, good_of_word (List.mem_filter.mp hx).2⟩
  intro x hx
  rcases List.mem_cons.mp hx with rfl | hx
  · exact key _ hw
  · exact key _ hx
/-- what every call of M wants: its class is there, its code, so many parameters -/
def ax_CW (M : ax_M) (np : Nat) : Prop := Cond.initialized M.1.cls ∈ ax_ws ∧ Cond.code M.1 M.2.1 M.2.2.1 M.2.2.2.1 ∈ ax_ws ∧ (M.1.cls ≠ "java/lang/invoke/MethodHandle" ∧ M.1.cls ≠ "java/lang/invoke/VarHandle" ∧ (parseMethodDescriptor M.1.desc).map (fun d => d.parameters.length) = some np) ∧ M.2.2.1 ≤ 45
section AXC
variable {p : Program} {l : Launch} {e : Env} {R : Room} {s : State} {m : MethodId} {args : Array Value} {below : List Frame} {meth : Method} {c : Code} {H : Heap} {locs : List Loc} {k n : Nat} {Z : State → Prop} {D : va_G} {g : Nat → Nat}
theorem ax_run {mc ms pc : Nat} {ls : Array Slot} {st0 rest : List Value} {a : Array Value} {Q : Option Value → ax_H → Prop} (hr : va_Run p l e R s m args below meth c H locs k n mc ms (F0 m pc ls st0) rest (ax_Qc D g Q a) (fun q => g 2 ≤ q)) (hS : va_S (fun q => g 2 ≤ q) s.heap H locs)
    (kk : ∀ (r : Option Value) (h' : ax_H) (H1 : Heap) (locs1 : List Loc), Q r h' → ax_R D g s h' H1 → va_S (fun q => g 2 ≤ q) s.heap H1 locs1 → W p l e R s m args below meth c H1 locs1 (k + mc) (n + ms) Z (F0 m (pc + 3) ls ((r.map (ax_v g)).toList ++ rest))) : W p l e R s m args below meth c H locs k n Z (F0 m pc ls st0) := by
  intro T hT X
  obtain ⟨v, st₀, t, T', L, h0, X', hL, e1, e2, ⟨⟨r, h', hv, hq, hR⟩, hz, hk⟩, st⟩ := hr T hT X
  cases hv
  rw [h0] at hz hk
  obtain ⟨t2, a1, b1⟩ := kk r h' T'.heap (locs ++ L) hq (by rw [e1]; exact hR.moved (by rw [← e2]; exact X'.warmed.alike.symm))
    ⟨Nat.le_trans hS.1 (by rw [e1]; exact hz), fun q h1 h2 => by rw [e1, hk q (Nat.lt_of_lt_of_le h1 hS.1) h2]; exact hS.2.1 q h1 h2, fun q hq => by
      rcases List.mem_append.mp hq with h | h
      · exact hS.2.2 q h
      · exact hL q h⟩ T' rfl X'
  exact ⟨t2, st t2 a1, b1⟩
end AXC
section AXM
variable {X : ax_X} {M M' : ax_M} {d pc k n np : Nat} {L : List (Option Value)} {st : List Value} {h : ax_H} {Q : Option Value → ax_H → Prop}
theorem ax_callB {R : Room} {s : State} {args : Array Value} {own : String} {idx : Nat} (hts : ∀ w ∈ ax_ws, w.before args s = true) (hl : Cond.methodLink own idx M'.1 ∈ ax_ws) (hc : ax_CW M' np) (hR : ax_ro R (d + 1) M) : CallB R s args own idx M'.1 M'.2.1 M'.2.2.1 M'.2.2.2.1 (.code M'.1 M'.2.1 M'.2.2.1 M'.2.2.2.1 :: ax_ws) (ax_rm d M') M'.2.2.2.2.1 M'.2.2.2.2.2 np :=
  callB_of np hts (ax_good hc.2.1) rfl rfl rfl (hts _ hc.1) (hts _ hl) hc.2.2.1 (by
    have h1 := hc.2.2.2
    have h2 := hR.1
    have h3 := hR.2.2.2
    exact ⟨h2, by show 8 + (M'.2.2.1 + 11) + 64 * d ≤ R.locals; omega⟩)
/-- a call of an instance's method -/
theorem ax_callV (hX : ax_ok X M (d + 1)) {idx a ci : Nat} {fs : Nat → Value} {A stk : List Value} {r : vw_C} (hl : Cond.methodLink M.1.cls idx M'.1 ∈ ax_ws) (hi : Cond.instanceMethod M'.1 ∈ ax_ws) (hs : Cond.selects M'.1.cls M'.1 M'.1 ∈ ax_ws) (hc : ax_CW M' np) (hh : h.2 a = ax_ob ci fs) (hcl : vwCl[ci]? = some r) (hrc : r.1 = M'.1.cls)
    (hst : stk = A.reverse ++ .ref a :: st) (hn : A.length = np) (hroom : (st.map fun v => v.category).sum ≤ 8) (hk : k + M'.2.2.2.2.1 ≤ M.2.2.2.2.1) (hn2 : n + M'.2.2.2.2.2 ≤ M.2.2.2.2.2) (hd : decode M.2.1 pc = .ok (.invokevirtual idx, 3)) (hK : ax_K d M' (.ref a :: A) h Q)
    (kk : ∀ r h', Q r h' → ax_j X (pc + 3) L (r.toList ++ st) h' (k + M'.2.2.2.2.1) (n + M'.2.2.2.2.2)) : ax_j X pc L stk h k n := by
  obtain ⟨p, l, e, R, s, m, args, below, meth, c, Z, D, g⟩ := X
  subst hst
  refine fun H locs ls hR hS hL => ?_
  obtain ⟨hx, hb, hml, hrt, hown, hts, hlk, hnm, hT, hG, hsz, hRm⟩ := hX
  have hca := hR.2.2 a (by rw [hh]; show ci < 12; exact (List.getElem?_eq_some_iff.mp hcl).1)
  rw [hh] at hca
  obtain ⟨r', hr', cellV, g1, g2, g3, -⟩ := hca
  have hcls := (hT.1.1 ci r hcl).2.1
  have hcat : ((st.map (ax_v g)).map fun v => v.category).sum ≤ 8 := by
    rw [List.map_map]
    have : ((fun v : Value => v.category) ∘ ax_v g) = fun v => v.category := by funext v; exact ax_cat g v
    rw [this]; exact hroom
  refine ax_run (a := (Value.ref (g a) :: A.map (ax_v g)).toArray) (va_runV (nL := c.maxLocals) (b := g a) (As := A.map (ax_v g)) (rest := st.map (ax_v g)) ⟨hx, hb, rfl, hown, hts⟩ (hK l D g hG) ⟨ax_callB hts hl hc hRm, hts _ hi, hts _ hs⟩ ⟨ax_blind D g _ h, ⟨cellV, g1, by rw [g3]; rfl, by rw [g2, ← hrc]; exact hcls⟩, fun U hU hW => ⟨rfl, by rw [hU]; exact hR.moved hW.alike, hT.moved hW (by rw [hU]; exact hS)⟩⟩ rfl (by rw [List.length_map]; exact hn) hL.1 (by simp [ax_v, F0]) (lv_room hcat) hd ⟨Nat.le_trans hk hRm.2.1, Nat.le_trans hn2 hRm.2.2.1⟩) hS ?_
  intro r2 h2 H1 locs1 hq hR1 hS1
  have := kk r2 h2 hq H1 locs1 ls hR1 hS1 hL
  rw [List.map_append] at this
  cases r2 <;> exact this
/-- a call of a static method -/
theorem ax_callS (hX : ax_ok X M (d + 1)) {idx : Nat} {A stk : List Value} (hl : Cond.methodLink M.1.cls idx M'.1 ∈ ax_ws) (hi : Cond.static M'.1 ∈ ax_ws) (hc : ax_CW M' np)
    (hst : stk = A.reverse ++ st) (hn : A.length = np) (hroom : (st.map fun v => v.category).sum ≤ 8) (hk : k + M'.2.2.2.2.1 ≤ M.2.2.2.2.1) (hn2 : n + M'.2.2.2.2.2 ≤ M.2.2.2.2.2) (hd : decode M.2.1 pc = .ok (.invokestatic idx, 3)) (hK : ax_K d M' A h Q)
    (kk : ∀ r h', Q r h' → ax_j X (pc + 3) L (r.toList ++ st) h' (k + M'.2.2.2.2.1) (n + M'.2.2.2.2.2)) : ax_j X pc L stk h k n := by
  obtain ⟨p, l, e, R, s, m, args, below, meth, c, Z, D, g⟩ := X
  subst hst
  refine fun H locs ls hR hS hL => ?_
  obtain ⟨hx, hb, hml, hrt, hown, hts, hlk, hnm, hT, hG, hsz, hRm⟩ := hX
  have hcat : ((st.map (ax_v g)).map fun v => v.category).sum ≤ 8 := by
    rw [List.map_map]
    have : ((fun v : Value => v.category) ∘ ax_v g) = fun v => v.category := by funext v; exact ax_cat g v
    rw [this]; exact hroom
  refine ax_run (a := (A.map (ax_v g)).toArray) (va_runS (nL := c.maxLocals) (As := A.map (ax_v g)) (rest := st.map (ax_v g)) ⟨hx, hb, rfl, hown, hts⟩ (hK l D g hG) ⟨ax_callB hts hl hc hRm, hts _ hi⟩ ⟨ax_blind D g _ h, fun U hU hW => ⟨rfl, by rw [hU]; exact hR.moved hW.alike, hT.moved hW (by rw [hU]; exact hS)⟩⟩ rfl (by rw [List.length_map]; exact hn) hL.1 (by simp [F0]) (lv_room hcat) hd ⟨Nat.le_trans hk hRm.2.1, Nat.le_trans hn2 hRm.2.2.1⟩) hS ?_
  intro r2 h2 H1 locs1 hq hR1 hS1
  have := kk r2 h2 hq H1 locs1 ls hR1 hS1 hL
  rw [List.map_append] at this
  cases r2 <;> exact this
/-- a constructor's call -/
theorem ax_callI (hX : ax_ok X M (d + 1)) {idx a : Nat} {A stk : List Value} (hl : Cond.methodLink M.1.cls idx M'.1 ∈ ax_ws) (hi : Cond.instanceMethod M'.1 ∈ ax_ws) (hc : ax_CW M' np) (hini : M'.1.name = "<init>") (hret : M'.2.2.2.1 = none)
    (hst : stk = A.reverse ++ .ref a :: st) (hn : A.length = np) (hroom : (st.map fun v => v.category).sum ≤ 8) (hk : k + M'.2.2.2.2.1 ≤ M.2.2.2.2.1) (hn2 : n + M'.2.2.2.2.2 ≤ M.2.2.2.2.2) (hd : decode M.2.1 pc = .ok (.invokespecial idx, 3)) (hK : ax_K d M' (.ref a :: A) h Q)
    (kk : ∀ r h', Q r h' → ax_j X (pc + 3) L (r.toList ++ st) h' (k + M'.2.2.2.2.1) (n + M'.2.2.2.2.2)) : ax_j X pc L stk h k n := by
  obtain ⟨p, l, e, R, s, m, args, below, meth, c, Z, D, g⟩ := X
  subst hst
  refine fun H locs ls hR hS hL => ?_
  obtain ⟨hx, hb, hml, hrt, hown, hts, hlk, hnm, hT, hG, hsz, hRm⟩ := hX
  have hcat : ((st.map (ax_v g)).map fun v => v.category).sum ≤ 8 := by
    rw [List.map_map]
    have : ((fun v : Value => v.category) ∘ ax_v g) = fun v => v.category := by funext v; exact ax_cat g v
    rw [this]; exact hroom
  have hcb := ax_callB (M := M) (d := d) (R := R) hts hl hc hRm
  have hM := hK l D g hG
  rw [hret] at hcb hM
  refine ax_run (a := (Value.ref (g a) :: A.map (ax_v g)).toArray) (va_runI (nL := c.maxLocals) (b := g a) (As := A.map (ax_v g)) (rest := st.map (ax_v g)) ⟨hx, hb, rfl, hown, hts⟩ hM ⟨hcb, hini, hts _ hi⟩ ⟨ax_blind D g _ h, fun U hU hW => ⟨rfl, by rw [hU]; exact hR.moved hW.alike, hT.moved hW (by rw [hU]; exact hS)⟩⟩ rfl (by rw [List.length_map]; exact hn) hL.1 (by simp [ax_v, F0]) (lv_room hcat) hd ⟨Nat.le_trans hk hRm.2.1, Nat.le_trans hn2 hRm.2.2.1⟩) hS ?_
  intro r2 h2 H1 locs1 hq hR1 hS1
  have := kk r2 h2 hq H1 locs1 ls hR1 hS1 hL
  rw [List.map_append] at this
  cases r2 <;> exact this
/-- a private constructor's call, by a nest mate -/
theorem ax_callN (hX : ax_ok X M (d + 1)) {idx a : Nat} {host : String} {A stk : List Value} (hl : Cond.methodLinkNest M.1.cls idx M'.1 host ∈ ax_nest) (hi : Cond.instanceMethod M'.1 ∈ ax_ws) (hc : ax_CW M' np) (hini : M'.1.name = "<init>") (hret : M'.2.2.2.1 = none)
    (hst : stk = A.reverse ++ .ref a :: st) (hn : A.length = np) (hroom : (st.map fun v => v.category).sum ≤ 8) (hk : k + M'.2.2.2.2.1 ≤ M.2.2.2.2.1) (hn2 : n + M'.2.2.2.2.2 ≤ M.2.2.2.2.2) (hd : decode M.2.1 pc = .ok (.invokespecial idx, 3)) (hK : ax_K d M' (.ref a :: A) h Q)
    (kk : ∀ r h', Q r h' → ax_j X (pc + 3) L (r.toList ++ st) h' (k + M'.2.2.2.2.1) (n + M'.2.2.2.2.2)) : ax_j X pc L stk h k n := by
  obtain ⟨p, l, e, R, s, m, args, below, meth, c, Z, D, g⟩ := X
  subst hst
  refine fun H locs ls hR hS hL => ?_
  obtain ⟨hx, hb, hml, hrt, hown, hts, hlk, hnm, hT, hG, hsz, hRm⟩ := hX
  have hcat : ((st.map (ax_v g)).map fun v => v.category).sum ≤ 8 := by
    rw [List.map_map]
    have : ((fun v : Value => v.category) ∘ ax_v g) = fun v => v.category := by funext v; exact ax_cat g v
    rw [this]; exact hroom
  have hcn : va_CN R s args M.1.cls idx M'.1 host M'.2.1 M'.2.2.1 M'.2.2.2.1 (.code M'.1 M'.2.1 M'.2.2.1 M'.2.2.2.1 :: ax_ws) (ax_rm d M') M'.2.2.2.2.1 M'.2.2.2.2.2 np :=
    va_cnB np hts (ax_good hc.2.1) rfl rfl rfl (hT.2.1 _ hl) (hts _ hc.1) hc.2.2.1 (by
      have h1 := hc.2.2.2
      have h2 := hRm.1
      have h3 := hRm.2.2.2
      exact ⟨h2, by show 8 + (M'.2.2.1 + 11) + 64 * d ≤ R.locals; omega⟩)
  have hM := hK l D g hG
  rw [hret] at hcn hM
  refine ax_run (a := (Value.ref (g a) :: A.map (ax_v g)).toArray) (va_runIN (nL := c.maxLocals) (b := g a) (As := A.map (ax_v g)) (rest := st.map (ax_v g)) ⟨hx, hb, rfl, hown, hts⟩ hM ⟨hcn, hini, hts _ hi⟩ ⟨ax_blind D g _ h, fun U hU hW => ⟨rfl, by rw [hU]; exact hR.moved hW.alike, hT.moved hW (by rw [hU]; exact hS)⟩⟩ rfl (by rw [List.length_map]; exact hn) hL.1 (by simp [ax_v, F0]) (lv_room hcat) hd ⟨Nat.le_trans hk hRm.2.1, Nat.le_trans hn2 hRm.2.2.1⟩) hS ?_
  intro r2 h2 H1 locs1 hq hR1 hS1
  have := kk r2 h2 hq H1 locs1 ls hR1 hS1 hL
  rw [List.map_append] at this
  cases r2 <;> exact this
/-- Object's own constructor -/
theorem ax_obj (hX : ax_ok X M (d + 1)) {idx a : Nat} (hl : Cond.methodLink M.1.cls idx Lib.objectInit ∈ ax_ws) (hi : Cond.instanceMethod Lib.objectInit ∈ ax_ws) (hc : Cond.code Lib.objectInit ⟨#[0xb1]⟩ 1 none ∈ ax_ws) (hroom : (st.map fun v => v.category).sum ≤ 8) (hd : decode M.2.1 pc = .ok (.invokespecial idx, 3)) (kk : ax_j X (pc + 3) L st h k n) : ax_j X pc L (.ref a :: st) h k n := by
  obtain ⟨p, l, e, R, s, m, args, below, meth, c, Z, D, g⟩ := X
  refine fun H locs ls hR hS hL => ?_
  obtain ⟨hx, hb, hml, hrt, hown, hts, hlk, hnm, hT, hG, hsz, hRm⟩ := hX
  have hcat : ((st.map (ax_v g)).map fun v => v.category).sum ≤ 8 := by
    rw [List.map_map]
    have : ((fun v : Value => v.category) ∘ ax_v g) = fun v => v.category := by funext v; exact ax_cat g v
    rw [this]; exact hroom
  refine W.objInit hx hb hown (hts _ hl) (hts _ hi) (hts _ hc) rfl hL.1 rfl hd (by have := hRm.1; omega) (by have := hRm.2.2.2; show 2 * 0 + _ + 12 ≤ _; omega) (kk H locs ls hR hS hL)
/-- arrays are made -/
theorem ax_newI (hX : ax_ok X M d) {aty : ArrayType} {t N : Nat} {x : Int32} (hw : Cond.arrayClass (newarray.typeOf aty) ∈ ax_ws) (hty : newarray.typeOf aty = ax_ty t) (ht : t < 4) (hdf : defaultValue (ax_ty t) = .int 0) (hx : ¬ x < 0) (hN : x.toNatClampNeg = N) (hb8 : N * componentBytes (ax_ty t) ≤ 536870912) (hk : k + 1 ≤ M.2.2.2.2.1) (hn2 : n + N ≤ M.2.2.2.2.2) (hsm : N < 2 ^ 31) (hd : decode M.2.1 pc = .ok (.newarray aty, 2)) (kk : ax_j X (pc + 2) L (.ref h.1 :: st) (h.1 + 1, va_up h.2 h.1 (ax_ia t N (fun _ => 0))) (k + 1) (n + N)) : ax_j X pc L (.int x :: st) h k n := by
  obtain ⟨p, l, e, R, s, m, args, below, meth, c, Z, D, g⟩ := X
  refine fun H locs ls hR hS hL => ?_
  obtain ⟨hxx, hb, hml, hrt, hown, hts, hlk, hnm, hT, hG, hsz, hRm⟩ := hX
  refine W.newaK hxx hb (hts _ hw) rfl hd rfl hx hN (by rw [hty]; exact hb8) (Nat.le_trans hk hRm.2.1) (Nat.le_trans hn2 hRm.2.2.1) hR.1 fun H1 cA e1 z1 o1 hA => kk H1 locs ls (hR.push hG (by rw [z1, hR.1]) (fun q hq => o1 q (by rw [← hR.1]; exact hq)) ?_) ⟨Nat.le_trans hS.1 (by rw [z1, hR.1]; omega), fun q h1 h2 => (o1 q (by rw [← hR.1]; exact Nat.lt_of_lt_of_le h1 hS.1)).trans (hS.2.1 q h1 h2), hS.2.2⟩ hL
  rw [hty] at e1 hA
  refine ⟨_, e1, hA N _, fun q => (by cases q), fun q => absurd q (by omega), by rw [arrV_size]; exact Nat.le_refl _, by rw [arrV_size], fun j hj => ?_⟩
  rw [arrV_read _ _ hj, hdf]
  rfl
theorem ax_newL (hX : ax_ok X M d) {N : Nat} {x : Int32} (hw : Cond.arrayClass .long ∈ ax_ws) (hx : ¬ x < 0) (hN : x.toNatClampNeg = N) (hb8 : N * 8 ≤ 536870912) (hk : k + 1 ≤ M.2.2.2.2.1) (hn2 : n + N ≤ M.2.2.2.2.2) (hd : decode M.2.1 pc = .ok (.newarray .long, 2)) (kk : ax_j X (pc + 2) L (.ref h.1 :: st) (h.1 + 1, va_up h.2 h.1 (ax_la N (fun _ => 0))) (k + 1) (n + N)) : ax_j X pc L (.int x :: st) h k n := by
  obtain ⟨p, l, e, R, s, m, args, below, meth, c, Z, D, g⟩ := X
  refine fun H locs ls hR hS hL => ?_
  obtain ⟨hxx, hb, hml, hrt, hown, hts, hlk, hnm, hT, hG, hsz, hRm⟩ := hX
  refine W.newaK (atype := .long) hxx hb (hts _ hw) rfl hd rfl hx hN hb8 (Nat.le_trans hk hRm.2.1) (Nat.le_trans hn2 hRm.2.2.1) hR.1 fun H1 cA e1 z1 o1 hA => kk H1 locs ls (hR.push hG (by rw [z1, hR.1]) (fun q hq => o1 q (by rw [← hR.1]; exact hq)) ?_) ⟨Nat.le_trans hS.1 (by rw [z1, hR.1]; omega), fun q h1 h2 => (o1 q (by rw [← hR.1]; exact Nat.lt_of_lt_of_le h1 hS.1)).trans (hS.2.1 q h1 h2), hS.2.2⟩ hL
  refine ⟨_, e1, hA N _, fun q => (by cases q), fun q => absurd q (by omega), by rw [arrV_size]; exact Nat.le_refl _, by rw [arrV_size], fun j hj => ?_⟩
  rw [arrV_read _ _ hj]
  rfl
theorem ax_newR (hX : ax_ok X M d) {idx t N : Nat} {C : String} {x : Int32} (hl : Cond.classLink M.1.cls idx C ∈ ax_ws) (hw : Cond.arrayOver (.object C) ∈ ax_nest) (hty : ax_ty t = .object C) (hx : ¬ x < 0) (hN : x.toNatClampNeg = N) (hb8 : N * 4 ≤ 536870912) (hk : k + 1 ≤ M.2.2.2.2.1) (hn2 : n + N ≤ M.2.2.2.2.2) (hd : decode M.2.1 pc = .ok (.anewarray idx, 3)) (kk : ax_j X (pc + 3) L (.ref h.1 :: st) (h.1 + 1, va_up h.2 h.1 (ax_ra t N (fun _ => none))) (k + 1) (n + N)) : ax_j X pc L (.int x :: st) h k n := by
  obtain ⟨p, l, e, R, s, m, args, below, meth, c, Z, D, g⟩ := X
  refine fun H locs ls hR hS hL => ?_
  obtain ⟨hxx, hb, hml, hrt, hown, hts, hlk, hnm, hT, hG, hsz, hRm⟩ := hX
  subst hN
  have hov : va_AO C s := hT.2.1 _ hw
  refine W.anew hxx hb hown (hts _ hl) hov.use rfl hd rfl hx hb8 (Nat.le_trans hk hRm.2.1) (Nat.le_trans hn2 hRm.2.2.1) fun cA kA comp h1 h2 h3 h4 => ?_
  rw [hR.1]
  refine kk _ locs ls (hR.push hG (by simp) (fun q hq => by rw [Array.getElem?_push, if_neg (Nat.ne_of_lt hq)]) ?_) ⟨Nat.le_trans hS.1 (by simp), fun q g1 g2 => by rw [Array.getElem?_push, if_neg (Nat.ne_of_lt (Nat.lt_of_lt_of_le g1 hS.1))]; exact hS.2.1 q g1 g2, hS.2.2⟩ hL
  refine ⟨{ cls := cA, slots := Array.replicate x.toNatClampNeg .null, vm := .none }, by rw [← hR.1]; simp, ?_, fun q => (by cases q), fun _ => ?_, by simp, by simp, fun j hj => ?_⟩
  · rw [hty]; exact ⟨fun k h => (by cases h), kA, h2, comp, h3⟩
  · rw [hty]; exact ⟨kA, comp, h2, h3, h4, h1⟩
  · show (Array.replicate x.toNatClampNeg Value.null)[j]? = _
    simp [hj]
    rfl
theorem ax_dv (g : Nat → Nat) (ty : FieldType) : ax_v g (defaultValue ty) = defaultValue ty := by cases ty <;> rfl
/-- an object is made -/
theorem ax_new (hX : ax_ok X M d) {idx ci N : Nat} {C : String} {T : u_T} {ty : Nat → FieldType} {fs : Nat → Value} (hcl : ax_cls ci C T N ty) (hl : Cond.classLink M.1.cls idx C ∈ ax_ws) (hi : Cond.instantiable C N ∈ ax_ws) (hini : Cond.initialized C ∈ ax_ws) (hfs : ∀ j, j < N → fs j = defaultValue (ty j)) (hk : k + 1 ≤ M.2.2.2.2.1) (hn2 : n + N ≤ M.2.2.2.2.2) (hd : decode M.2.1 pc = .ok (.new idx, 3)) (kk : ax_j X (pc + 3) L (.ref h.1 :: st) (h.1 + 1, va_up h.2 h.1 (ax_ob ci fs)) (k + 1) (n + N)) : ax_j X pc L st h k n := by
  obtain ⟨p, l, e, R, s, m, args, below, meth, c, Z, D, g⟩ := X
  refine fun H locs ls hR hS hL => ?_
  obtain ⟨hxx, hb, hml, hrt, hown, hts, hlk, hnm, hT, hG, hsz, hRm⟩ := hX
  obtain ⟨hc, hin, hty, hnm2⟩ := hcl
  have hKn := hT.1.1 ci _ hc
  refine W.newcK hxx hb hown (hts _ hl) (hts _ hi) (hts _ hini) rfl hd (Nat.le_trans hk hRm.2.1) (Nat.le_trans hn2 hRm.2.2.1) hKn.2.1 hR.1 fun H1 kC hkC e1 z1 o1 => kk H1 locs ls (hR.push hG (by rw [z1, hR.1]) (fun q hq => o1 q (by rw [← hR.1]; exact hq)) ?_) ⟨Nat.le_trans hS.1 (by rw [z1, hR.1]; omega), fun q h1 h2 => (o1 q (by rw [← hR.1]; exact Nat.lt_of_lt_of_le h1 hS.1)).trans (hS.2.1 q h1 h2), hS.2.2⟩ hL
  exact ⟨_, hc, (u_born ty hts hin hKn hkC e1 hty).to (fun j hj => by rw [hfs j hj, ax_dv])⟩
/-- the static array of words -/
theorem ax_getst (hX : ax_ok X M d) {idx : Nat} {host : String} (hl : Cond.fieldLinkNest M.1.cls idx "ExamTour" "KEPT_WORDS" "[J" host ∈ ax_nest) (hd : decode M.2.1 pc = .ok (.getstatic idx, 3)) (kk : ax_j X (pc + 3) L (.ref 1 :: st) h k n) : ax_j X pc L st h k n := by
  obtain ⟨p, l, e, R, s, m, args, below, meth, c, Z, D, g⟩ := X
  refine fun H locs ls hR hS hL => ?_
  obtain ⟨hxx, hb, hml, hrt, hown, hts, hlk, hnm, hT, hG, hsz, hRm⟩ := hX
  exact va_getsN hxx hb hT.2.2 hS hown (va_Nw.use rfl (hT.2.1 _ hl)) (fun _ q => q) hd (kk H locs ls hR hS hL)
/-- what an answer may be: the handlers of the four returns -/
def ax_Ret (X : ax_X) (M : ax_M) (Q : Option Value → ax_H → Prop) : Prop :=
  (∀ (pc : Nat) (L : List (Option Value)) (r : Int32) (h : ax_H) (k n : Nat), k ≤ M.2.2.2.2.1 → n ≤ M.2.2.2.2.2 → decode M.2.1 pc = .ok (.ireturn, 1) → (∃ ty, M.2.2.2.1 = some ty ∧ narrow ty (.int r) = .int r) → Q (some (.int r)) h → ax_j X pc L [.int r] h k n) ∧
  (∀ (pc : Nat) (L : List (Option Value)) (r : Int64) (h : ax_H) (k n : Nat), k ≤ M.2.2.2.2.1 → n ≤ M.2.2.2.2.2 → decode M.2.1 pc = .ok (.lreturn, 1) → M.2.2.2.1 = some .long → Q (some (.long r)) h → ax_j X pc L [.long r] h k n) ∧
  (∀ (pc : Nat) (L : List (Option Value)) (r : Value) (h : ax_H) (k n : Nat), k ≤ M.2.2.2.2.1 → n ≤ M.2.2.2.2.2 → decode M.2.1 pc = .ok (.areturn, 1) → (∃ C, M.2.2.2.1 = some (.object C)) → ax_isr r → Q (some r) h → ax_j X pc L [r] h k n) ∧
  (∀ (pc : Nat) (L : List (Option Value)) (h : ax_H) (k n : Nat), k ≤ M.2.2.2.2.1 → n ≤ M.2.2.2.2.2 → decode M.2.1 pc = .ok (.return_, 1) → M.2.2.2.1 = none → Q none h → ax_j X pc L [] h k n)
theorem ax_enter {A : List Value} (hpl : plainName M.1.cls = true) (hent : (ax_ent0 A).length ≤ M.2.2.1) (body : ∀ X, ax_ok X M d → ax_Ret X M Q → ax_j X 0 (ax_ent A M.2.2.1) [] h 0 0) : ax_K d M A h Q := by
  intro l D g hG
  refine Met.ofW (cc := M.2.1) (maxL := M.2.2.1) (ret := M.2.2.2.1) hpl rfl ?_
  intro p e s m args below meth c s₁ B hml hv
  obtain ⟨rfl, hR, hT⟩ := hv
  have hx := B.exec
  have hb := B.bytes
  have hr := B.returns
  have hts := atoms_spec (ws := .code M.1 M.2.1 M.2.2.1 M.2.2.2.1 :: ax_ws) B.pre
  have hown : s.vm.findClass M.1.cls = some m.cls := findClass_of_methodNamed B.named
  have hlocks := B.notSynchronized
  have hnm := (name_of_methodNamed B.named B.method).1
  have hsz : g 2 ≤ s.heap.size := by rw [hR.1]; exact hG.ge hR.2.1
  have hS : va_S (fun q => g 2 ≤ q) s.heap s.heap [] := va_S.rf
  rw [lg_entry_eq]
  have hl := ax_ent_L g A hent
  refine body (p, l, e, ax_rm d M, s, m, (A.map (ax_v g)).toArray, below, meth, c, MQ below (ax_Qc D g Q) (A.map (ax_v g)).toArray s M.2.2.2.2.1 M.2.2.2.2.2 (fun q => g 2 ≤ q), D, g) ⟨hx, hb, hml, hr, hown, fun w hw => hts w (List.mem_cons_of_mem _ hw), hlocks, hnm, hT, hG, hsz, ⟨Nat.le_refl _, Nat.le_refl _, Nat.le_refl _, Nat.le_refl _⟩⟩ ⟨?_, ?_, ?_, ?_⟩ s.heap [] _ hR hS (by rw [hml]; exact hl)
  · intro pc L r h2 k n hk hn hd hty hq H locs ls hR2 hS2 hL2
    obtain ⟨ty, hty, hnar⟩ := hty
    refine W.widen hk hn ?_
    exact W.zret hx hb (hr.trans hty) hnar (fun t ht hW => ⟨⟨some (.int r), h2, rfl, hq, by rw [ht]; exact hR2.moved hW.alike⟩, hS2.F ht⟩) hS2.2.2 hd
  · intro pc L r h2 k n hk hn hd hty hq H locs ls hR2 hS2 hL2
    refine W.widen hk hn ?_
    exact W.lret hx hb (hr.trans hty) (fun t ht hW => ⟨⟨some (.long r), h2, rfl, hq, by rw [ht]; exact hR2.moved hW.alike⟩, hS2.F ht⟩) hS2.2.2 hd
  · intro pc L r h2 k n hk hn hd hty hv hq H locs ls hR2 hS2 hL2
    obtain ⟨C, hty⟩ := hty
    refine W.widen hk hn ?_
    exact W.aret hx hb (hr.trans hty) (Or.inl ⟨C, rfl⟩) (by rcases hv with rfl | ⟨a, rfl⟩ <;> first | exact Or.inl rfl | exact Or.inr ⟨_, rfl⟩) (fun t ht hW => ⟨⟨some r, h2, rfl, hq, by rw [ht]; exact hR2.moved hW.alike⟩, hS2.F ht⟩) hS2.2.2 hd
  · intro pc L h2 k n hk hn hd hty hq H locs ls hR2 hS2 hL2
    refine W.widen hk hn ?_
    exact W.vret hx hb (hr.trans hty) (fun t ht hW => ⟨⟨none, h2, rfl, hq, by rw [ht]; exact hR2.moved hW.alike⟩, hS2.F ht⟩) hS2.2.2 hd
end AXM
