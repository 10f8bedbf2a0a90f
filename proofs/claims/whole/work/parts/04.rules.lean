/-! the judgement and its rules -/
def ax_ws : List Cond := lw_tbl.filter goodWord
def ax_nest : List Cond := lw_tbl.filter (fun w => !goodWord w)
/-- the tables, as a state has them: the classes, the nest mates' links, the two classes of arrays of references, the static array -/
def ax_nw (w : Cond) (U : State) : Prop := match w with
  | .fieldLinkNest a i b n d h => va_Nw (.fieldLinkNest a i b n d h) U
  | .methodLinkNest a i x h => va_Nw (.methodLinkNest a i x h) U
  | .arrayOver (.object C) => va_AO C U
  | _ => True
def ax_T (D : va_G) (g : Nat → Nat) (U : State) : Prop := va_K D vwCl [] U ∧ (∀ w ∈ ax_nest, ax_nw w U) ∧ va_Z "ExamTour" "KEPT_WORDS" "[J" (.ref (g 1)) (fun q => g 2 ≤ q) U U.heap
theorem ax_nw.moved {w : Cond} {s U : State} (hW : s.WarmedH U.vm) (h : ax_nw w s) : ax_nw w U := by
  cases w with
  | fieldLinkNest a i b n d h' => exact va_Nw.warmF hW h
  | methodLinkNest a i x h' => exact va_Nw.warmM hW h
  | arrayOver ty =>
    cases ty with
    | object C => exact va_AO.moved hW.alike h
    | _ => exact trivial
  | _ => exact trivial
theorem ax_T.moved {D : va_G} {g : Nat → Nat} {s U : State} (hW : s.WarmedH U.vm) {locs : List Loc} (hS : va_S (fun q => g 2 ≤ q) s.heap U.heap locs) (h : ax_T D g s) : ax_T D g U :=
  ⟨va_K.moved hW.alike h.1, fun w hw => (h.2.1 w hw).moved hW, va_Z.kept (va_Z.moved hW.alike h.2.2) (fun a h1 h2 => hS.2.1 a h1 h2)⟩
/-- a method: its name, code, locals, answer, the cells and slots that it may make -/
abbrev ax_M : Type := MethodName × ByteArray × Nat × Option FieldType × Nat × Nat
def ax_rm (d : Nat) (M : ax_M) : Room := { frames := d, cells := M.2.2.2.2.1, slots := M.2.2.2.2.2, locals := 64 * d }
/-- room for d frames, and for what M makes -/
def ax_ro (R : Room) (d : Nat) (M : ax_M) : Prop := d ≤ R.frames ∧ M.2.2.2.2.1 ≤ R.cells ∧ M.2.2.2.2.2 ≤ R.slots ∧ 64 * d ≤ R.locals
def ax_J (p : Program) (l : Launch) (e : Env) (R : Room) (s : State) (m : MethodId) (args : Array Value) (below : List Frame) (meth : Method) (c : Code) (Z : State → Prop) (D : va_G) (g : Nat → Nat) (pc : Nat) (L : List (Option Value)) (st : List Value) (h : ax_H) (k n : Nat) : Prop :=
  ∀ (H : Heap) (locs : List Loc) (ls : Array Slot), ax_R D g s h H → va_S (fun q => g 2 ≤ q) s.heap H locs → ax_L g ls c.maxLocals L → W p l e R s m args below meth c H locs k n Z (F0 m pc ls (st.map (ax_v g)))
abbrev ax_X := Program × Launch × Env × Room × State × MethodId × Array Value × List Frame × Method × Code × (State → Prop) × va_G × (Nat → Nat)
def ax_j (X : ax_X) (pc : Nat) (L : List (Option Value)) (st : List Value) (h : ax_H) (k n : Nat) : Prop :=
  match X with
  | (p, l, e, R, s, m, args, below, meth, c, Z, D, g) => ax_J p l e R s m args below meth c Z D g pc L st h k n
/-- the walk is of method M, with room for d frames -/
def ax_ok (X : ax_X) (M : ax_M) (d : Nat) : Prop :=
  match X with
  | (p, _, _, R, s, m, args, _, meth, c, _, D, g) => p.tables.exec = Jvm.exec ∧ c.code = M.2.1 ∧ c.maxLocals = M.2.2.1 ∧ meth.sig.returnType = M.2.2.2.1 ∧ s.vm.findClass M.1.cls = some m.cls ∧ (∀ w ∈ ax_ws, w.before args s = true) ∧ meth.locks = false ∧ meth.name = M.1.name ∧ ax_T D g s ∧ ax_G g ∧ g 2 ≤ s.heap.size ∧ ax_ro R d M
section AXR
variable {X : ax_X} {M : ax_M} {d pc k n : Nat} {L : List (Option Value)} {st : List Value} {h : ax_H}
theorem ax_iconst (hX : ax_ok X M d) {i : Int} {v : Int32} (hd : decode M.2.1 pc = .ok (.iconst i, 1)) (hv : Int32.ofInt i = v) (kk : ax_j X (pc + 1) L (.int v :: st) h k n) : ax_j X pc L st h k n := by
  obtain ⟨p, l, e, R, s, m, args, below, meth, c, Z, D, g⟩ := X
  exact fun H locs ls hR hS hL => lv_iconst hX.1 hX.2.1 hd hv (kk H locs ls hR hS hL)
theorem ax_bipush (hX : ax_ok X M d) {i : Int} {v : Int32} (hd : decode M.2.1 pc = .ok (.bipush i, 2)) (hv : (Int8.ofInt i).toInt32 = v) (kk : ax_j X (pc + 2) L (.int v :: st) h k n) : ax_j X pc L st h k n := by
  obtain ⟨p, l, e, R, s, m, args, below, meth, c, Z, D, g⟩ := X
  exact fun H locs ls hR hS hL => lv_bipush hX.1 hX.2.1 hd hv (kk H locs ls hR hS hL)
theorem ax_sipush (hX : ax_ok X M d) {i : Int} {v : Int32} (hd : decode M.2.1 pc = .ok (.sipush i, 3)) (hv : (Int16.ofInt i).toInt32 = v) (kk : ax_j X (pc + 3) L (.int v :: st) h k n) : ax_j X pc L st h k n := by
  obtain ⟨p, l, e, R, s, m, args, below, meth, c, Z, D, g⟩ := X
  exact fun H locs ls hR hS hL => lv_sipush hX.1 hX.2.1 hd hv (kk H locs ls hR hS hL)
theorem ax_lconst (hX : ax_ok X M d) {i : Fin 2} {v : Int64} (hd : decode M.2.1 pc = .ok (.lconst i, 1)) (hv : Int64.ofNat (i : Nat) = v) (kk : ax_j X (pc + 1) L (.long v :: st) h k n) : ax_j X pc L st h k n := by
  obtain ⟨p, l, e, R, s, m, args, below, meth, c, Z, D, g⟩ := X
  exact fun H locs ls hR hS hL => lv_lconst hX.1 hX.2.1 hd hv (kk H locs ls hR hS hL)
theorem ax_null (hX : ax_ok X M d) (hd : decode M.2.1 pc = .ok (.aconst_null, 1)) (kk : ax_j X (pc + 1) L (.null :: st) h k n) : ax_j X pc L st h k n := by
  obtain ⟨p, l, e, R, s, m, args, below, meth, c, Z, D, g⟩ := X
  exact fun H locs ls hR hS hL => lv_null hX.1 hX.2.1 hd (kk H locs ls hR hS hL)
theorem ax_ldc (hX : ax_ok X M d) {i : Nat} {v : Int32} (hw : Cond.constant M.1.cls i v ∈ ax_ws) (hd : decode M.2.1 pc = .ok (.ldc i, 2)) (kk : ax_j X (pc + 2) L (.int v :: st) h k n) : ax_j X pc L st h k n := by
  obtain ⟨p, l, e, R, s, m, args, below, meth, c, Z, D, g⟩ := X
  exact fun H locs ls hR hS hL => lv_ldc hX.1 hX.2.1 hX.2.2.2.2.1 (hX.2.2.2.2.2.1 _ hw) hd (kk H locs ls hR hS hL)
theorem ax_ldcw (hX : ax_ok X M d) {i : Nat} {v : Int32} (hw : Cond.constant M.1.cls i v ∈ ax_ws) (hd : decode M.2.1 pc = .ok (.ldc_w i, 3)) (kk : ax_j X (pc + 3) L (.int v :: st) h k n) : ax_j X pc L st h k n := by
  obtain ⟨p, l, e, R, s, m, args, below, meth, c, Z, D, g⟩ := X
  exact fun H locs ls hR hS hL => lv_ldcw hX.1 hX.2.1 hX.2.2.2.2.1 (hX.2.2.2.2.2.1 _ hw) hd (kk H locs ls hR hS hL)
theorem ax_ldc2 (hX : ax_ok X M d) {i : Nat} {v : Int64} (hw : Cond.constantLong M.1.cls i v ∈ ax_ws) (hd : decode M.2.1 pc = .ok (.ldc2_w i, 3)) (kk : ax_j X (pc + 3) L (.long v :: st) h k n) : ax_j X pc L st h k n := by
  obtain ⟨p, l, e, R, s, m, args, below, meth, c, Z, D, g⟩ := X
  exact fun H locs ls hR hS hL => lv_ldc2 hX.1 hX.2.1 hX.2.2.2.2.1 (hX.2.2.2.2.2.1 _ hw) hd (kk H locs ls hR hS hL)
theorem ax_iload_n (hX : ax_ok X M d) {i : Fin 4} {v : Int32} (hd : decode M.2.1 pc = .ok (.iload_n i, 1)) (hl : L[(i : Nat)]? = some (some (.int v))) (kk : ax_j X (pc + 1) L (.int v :: st) h k n) : ax_j X pc L st h k n := by
  obtain ⟨p, l, e, R, s, m, args, below, meth, c, Z, D, g⟩ := X
  exact fun H locs ls hR hS hL => lv_iload_n hX.1 hX.2.1 hd rfl (hL.2.2 _ _ hl) (kk H locs ls hR hS hL)
theorem ax_iload (hX : ax_ok X M d) {i : Nat} {v : Int32} (hd : decode M.2.1 pc = .ok (.iload i, 2)) (hl : L[i]? = some (some (.int v))) (kk : ax_j X (pc + 2) L (.int v :: st) h k n) : ax_j X pc L st h k n := by
  obtain ⟨p, l, e, R, s, m, args, below, meth, c, Z, D, g⟩ := X
  exact fun H locs ls hR hS hL => lv_iload hX.1 hX.2.1 hd (hL.2.2 _ _ hl) (kk H locs ls hR hS hL)
theorem ax_lload_n (hX : ax_ok X M d) {i : Fin 4} {v : Int64} (hd : decode M.2.1 pc = .ok (.lload_n i, 1)) (hl : L[(i : Nat)]? = some (some (.long v))) (kk : ax_j X (pc + 1) L (.long v :: st) h k n) : ax_j X pc L st h k n := by
  obtain ⟨p, l, e, R, s, m, args, below, meth, c, Z, D, g⟩ := X
  exact fun H locs ls hR hS hL => lv_lload_n hX.1 hX.2.1 hd rfl (hL.2.2 _ _ hl) (kk H locs ls hR hS hL)
theorem ax_lload (hX : ax_ok X M d) {i : Nat} {v : Int64} (hd : decode M.2.1 pc = .ok (.lload i, 2)) (hl : L[i]? = some (some (.long v))) (kk : ax_j X (pc + 2) L (.long v :: st) h k n) : ax_j X pc L st h k n := by
  obtain ⟨p, l, e, R, s, m, args, below, meth, c, Z, D, g⟩ := X
  exact fun H locs ls hR hS hL => lv_lload hX.1 hX.2.1 hd (hL.2.2 _ _ hl) (kk H locs ls hR hS hL)
/-- a reference, or null -/
def ax_isr (v : Value) : Prop := v = .null ∨ ∃ a, v = .ref a
theorem ax_aload_n (hX : ax_ok X M d) {i : Fin 4} {v : Value} (hd : decode M.2.1 pc = .ok (.aload_n i, 1)) (hv : ax_isr v) (hl : L[(i : Nat)]? = some (some v)) (kk : ax_j X (pc + 1) L (v :: st) h k n) : ax_j X pc L st h k n := by
  obtain ⟨p, l, e, R, s, m, args, below, meth, c, Z, D, g⟩ := X
  rcases hv with rfl | ⟨a, rfl⟩
  · exact fun H locs ls hR hS hL => lv_aload_nN hX.1 hX.2.1 hd rfl (hL.2.2 _ _ hl) (kk H locs ls hR hS hL)
  · exact fun H locs ls hR hS hL => lv_aload_n hX.1 hX.2.1 hd rfl (hL.2.2 _ _ hl) (kk H locs ls hR hS hL)
theorem ax_aload (hX : ax_ok X M d) {i : Nat} {v : Value} (hd : decode M.2.1 pc = .ok (.aload i, 2)) (hv : ax_isr v) (hl : L[i]? = some (some v)) (kk : ax_j X (pc + 2) L (v :: st) h k n) : ax_j X pc L st h k n := by
  obtain ⟨p, l, e, R, s, m, args, below, meth, c, Z, D, g⟩ := X
  rcases hv with rfl | ⟨a, rfl⟩
  · exact fun H locs ls hR hS hL => lv_aloadN hX.1 hX.2.1 hd (hL.2.2 _ _ hl) (kk H locs ls hR hS hL)
  · exact fun H locs ls hR hS hL => lv_aload hX.1 hX.2.1 hd (hL.2.2 _ _ hl) (kk H locs ls hR hS hL)
theorem ax_istore_n (hX : ax_ok X M d) {i : Fin 4} {v : Int32} {L' : List (Option Value)} (hd : decode M.2.1 pc = .ok (.istore_n i, 1)) (hi : (i : Nat) < M.2.2.1) (hl : ax_s1 L i (.int v) = L') (kk : ax_j X (pc + 1) L' st h k n) : ax_j X pc L (.int v :: st) h k n := by
  obtain ⟨p, l, e, R, s, m, args, below, meth, c, Z, D, g⟩ := X
  subst hl
  have hi : (i : Nat) < c.maxLocals := by rw [hX.2.2.1]; exact hi
  exact fun H locs ls hR hS hL => lv_istore_n hX.1 hX.2.1 hd rfl hL.has hi rfl (fun ls' h' => kk H locs ls' hR hS (hL.s1 (v := .int v) hi h'))
theorem ax_istore (hX : ax_ok X M d) {i : Nat} {v : Int32} {L' : List (Option Value)} (hd : decode M.2.1 pc = .ok (.istore i, 2)) (hi : i < M.2.2.1) (hl : ax_s1 L i (.int v) = L') (kk : ax_j X (pc + 2) L' st h k n) : ax_j X pc L (.int v :: st) h k n := by
  obtain ⟨p, l, e, R, s, m, args, below, meth, c, Z, D, g⟩ := X
  subst hl
  have hi : i < c.maxLocals := by rw [hX.2.2.1]; exact hi
  exact fun H locs ls hR hS hL => lv_istore hX.1 hX.2.1 hd hL.has hi rfl (fun ls' h' => kk H locs ls' hR hS (hL.s1 (v := .int v) hi h'))
theorem ax_lstore_n (hX : ax_ok X M d) {i : Fin 4} {v : Int64} {L' : List (Option Value)} (hd : decode M.2.1 pc = .ok (.lstore_n i, 1)) (hi : (i : Nat) + 1 < M.2.2.1) (hl : ax_s2 L i (.long v) = L') (kk : ax_j X (pc + 1) L' st h k n) : ax_j X pc L (.long v :: st) h k n := by
  obtain ⟨p, l, e, R, s, m, args, below, meth, c, Z, D, g⟩ := X
  subst hl
  have hi : (i : Nat) + 1 < c.maxLocals := by rw [hX.2.2.1]; exact hi
  exact fun H locs ls hR hS hL => lv_lstore_n hX.1 hX.2.1 hd rfl hL.has hi rfl (fun ls' h' => kk H locs ls' hR hS (hL.s2 (v := .long v) hi h'))
theorem ax_lstore (hX : ax_ok X M d) {i : Nat} {v : Int64} {L' : List (Option Value)} (hd : decode M.2.1 pc = .ok (.lstore i, 2)) (hi : i + 1 < M.2.2.1) (hl : ax_s2 L i (.long v) = L') (kk : ax_j X (pc + 2) L' st h k n) : ax_j X pc L (.long v :: st) h k n := by
  obtain ⟨p, l, e, R, s, m, args, below, meth, c, Z, D, g⟩ := X
  subst hl
  have hi : i + 1 < c.maxLocals := by rw [hX.2.2.1]; exact hi
  exact fun H locs ls hR hS hL => lv_lstore hX.1 hX.2.1 hd hL.has hi rfl (fun ls' h' => kk H locs ls' hR hS (hL.s2 (v := .long v) hi h'))
theorem ax_astore_n (hX : ax_ok X M d) {i : Fin 4} {v : Value} {L' : List (Option Value)} (hd : decode M.2.1 pc = .ok (.astore_n i, 1)) (hv : ax_isr v) (hi : (i : Nat) < M.2.2.1) (hl : ax_s1 L i v = L') (kk : ax_j X (pc + 1) L' st h k n) : ax_j X pc L (v :: st) h k n := by
  obtain ⟨p, l, e, R, s, m, args, below, meth, c, Z, D, g⟩ := X
  subst hl
  have hi : (i : Nat) < c.maxLocals := by rw [hX.2.2.1]; exact hi
  rcases hv with rfl | ⟨a, rfl⟩
  · exact fun H locs ls hR hS hL => lv_astore_nN hX.1 hX.2.1 hd rfl hL.has hi rfl (fun ls' h' => kk H locs ls' hR hS (hL.s1 (v := .null) hi h'))
  · exact fun H locs ls hR hS hL => lv_astore_n hX.1 hX.2.1 hd rfl hL.has hi rfl (fun ls' h' => kk H locs ls' hR hS (hL.s1 (v := .ref a) hi h'))
theorem ax_astore (hX : ax_ok X M d) {i : Nat} {v : Value} {L' : List (Option Value)} (hd : decode M.2.1 pc = .ok (.astore i, 2)) (hv : ax_isr v) (hi : i < M.2.2.1) (hl : ax_s1 L i v = L') (kk : ax_j X (pc + 2) L' st h k n) : ax_j X pc L (v :: st) h k n := by
  obtain ⟨p, l, e, R, s, m, args, below, meth, c, Z, D, g⟩ := X
  subst hl
  have hi : i < c.maxLocals := by rw [hX.2.2.1]; exact hi
  rcases hv with rfl | ⟨a, rfl⟩
  · exact fun H locs ls hR hS hL => lv_astoreN hX.1 hX.2.1 hd hL.has hi rfl (fun ls' h' => kk H locs ls' hR hS (hL.s1 (v := .null) hi h'))
  · exact fun H locs ls hR hS hL => lv_astore hX.1 hX.2.1 hd hL.has hi rfl (fun ls' h' => kk H locs ls' hR hS (hL.s1 (v := .ref a) hi h'))
theorem ax_iinc (hX : ax_ok X M d) {i : Nat} {a : Int} {v w : Int32} {L' : List (Option Value)} (hd : decode M.2.1 pc = .ok (.iinc i a, 3)) (hl0 : L[i]? = some (some (.int v))) (hw : v + Int32.ofInt a = w) (hi : i < M.2.2.1) (hl : ax_s1 L i (.int w) = L') (kk : ax_j X (pc + 3) L' st h k n) : ax_j X pc L st h k n := by
  obtain ⟨p, l, e, R, s, m, args, below, meth, c, Z, D, g⟩ := X
  subst hl
  have hi : i < c.maxLocals := by rw [hX.2.2.1]; exact hi
  refine fun H locs ls hR hS hL => ?_
  obtain ⟨q, hq⟩ := List.getElem?_of_mem (ax_pairs_mem (g := g) (q := (i, .int v)).mpr ⟨.int v, hl0, rfl⟩)
  exact lv_iinc hX.1 hX.2.1 hd hL.has hq hw hi rfl (fun ls' h' => kk H locs ls' hR hS (hL.s1 (v := .int w) hi h'))
theorem ax_iadd (hX : ax_ok X M d) {x y : Int32} (hd : decode M.2.1 pc = .ok (.iadd, 1)) (kk : ax_j X (pc + 1) L (.int (x + y) :: st) h k n) : ax_j X pc L (.int y :: .int x :: st) h k n := by
  obtain ⟨p, l, e, R, s, m, args, below, meth, c, Z, D, g⟩ := X
  exact fun H locs ls hR hS hL => lv_iadd hX.1 hX.2.1 hd (kk H locs ls hR hS hL)
theorem ax_isub (hX : ax_ok X M d) {x y : Int32} (hd : decode M.2.1 pc = .ok (.isub, 1)) (kk : ax_j X (pc + 1) L (.int (x - y) :: st) h k n) : ax_j X pc L (.int y :: .int x :: st) h k n := by
  obtain ⟨p, l, e, R, s, m, args, below, meth, c, Z, D, g⟩ := X
  exact fun H locs ls hR hS hL => lv_isub hX.1 hX.2.1 hd (kk H locs ls hR hS hL)
theorem ax_imul (hX : ax_ok X M d) {x y : Int32} (hd : decode M.2.1 pc = .ok (.imul, 1)) (kk : ax_j X (pc + 1) L (.int (x * y) :: st) h k n) : ax_j X pc L (.int y :: .int x :: st) h k n := by
  obtain ⟨p, l, e, R, s, m, args, below, meth, c, Z, D, g⟩ := X
  exact fun H locs ls hR hS hL => lv_imul hX.1 hX.2.1 hd (kk H locs ls hR hS hL)
theorem ax_iand (hX : ax_ok X M d) {x y : Int32} (hd : decode M.2.1 pc = .ok (.iand, 1)) (kk : ax_j X (pc + 1) L (.int (x &&& y) :: st) h k n) : ax_j X pc L (.int y :: .int x :: st) h k n := by
  obtain ⟨p, l, e, R, s, m, args, below, meth, c, Z, D, g⟩ := X
  exact fun H locs ls hR hS hL => lv_iand hX.1 hX.2.1 hd (kk H locs ls hR hS hL)
theorem ax_ior (hX : ax_ok X M d) {x y : Int32} (hd : decode M.2.1 pc = .ok (.ior, 1)) (kk : ax_j X (pc + 1) L (.int (x ||| y) :: st) h k n) : ax_j X pc L (.int y :: .int x :: st) h k n := by
  obtain ⟨p, l, e, R, s, m, args, below, meth, c, Z, D, g⟩ := X
  exact fun H locs ls hR hS hL => lv_ior hX.1 hX.2.1 hd (kk H locs ls hR hS hL)
theorem ax_ixor (hX : ax_ok X M d) {x y : Int32} (hd : decode M.2.1 pc = .ok (.ixor, 1)) (kk : ax_j X (pc + 1) L (.int (x ^^^ y) :: st) h k n) : ax_j X pc L (.int y :: .int x :: st) h k n := by
  obtain ⟨p, l, e, R, s, m, args, below, meth, c, Z, D, g⟩ := X
  exact fun H locs ls hR hS hL => lv_ixor hX.1 hX.2.1 hd (kk H locs ls hR hS hL)
theorem ax_ishl (hX : ax_ok X M d) {x y : Int32} (hd : decode M.2.1 pc = .ok (.ishl, 1)) (kk : ax_j X (pc + 1) L (.int (x <<< (y &&& 31)) :: st) h k n) : ax_j X pc L (.int y :: .int x :: st) h k n := by
  obtain ⟨p, l, e, R, s, m, args, below, meth, c, Z, D, g⟩ := X
  exact fun H locs ls hR hS hL => lv_ishl hX.1 hX.2.1 hd (kk H locs ls hR hS hL)
theorem ax_ishr (hX : ax_ok X M d) {x y : Int32} (hd : decode M.2.1 pc = .ok (.ishr, 1)) (kk : ax_j X (pc + 1) L (.int (x >>> (y &&& 31)) :: st) h k n) : ax_j X pc L (.int y :: .int x :: st) h k n := by
  obtain ⟨p, l, e, R, s, m, args, below, meth, c, Z, D, g⟩ := X
  exact fun H locs ls hR hS hL => lv_ishr hX.1 hX.2.1 hd (kk H locs ls hR hS hL)
theorem ax_idiv (hX : ax_ok X M d) {x y : Int32} (hd : decode M.2.1 pc = .ok (.idiv, 1)) (hy : ¬ y = 0) (kk : ax_j X (pc + 1) L (.int (x / y) :: st) h k n) : ax_j X pc L (.int y :: .int x :: st) h k n := by
  obtain ⟨p, l, e, R, s, m, args, below, meth, c, Z, D, g⟩ := X
  exact fun H locs ls hR hS hL => lv_idiv hX.1 hX.2.1 hd hy (kk H locs ls hR hS hL)
theorem ax_ladd (hX : ax_ok X M d) {x y : Int64} (hd : decode M.2.1 pc = .ok (.ladd, 1)) (kk : ax_j X (pc + 1) L (.long (x + y) :: st) h k n) : ax_j X pc L (.long y :: .long x :: st) h k n := by
  obtain ⟨p, l, e, R, s, m, args, below, meth, c, Z, D, g⟩ := X
  exact fun H locs ls hR hS hL => lv_ladd hX.1 hX.2.1 hd (kk H locs ls hR hS hL)
theorem ax_lsub (hX : ax_ok X M d) {x y : Int64} (hd : decode M.2.1 pc = .ok (.lsub, 1)) (kk : ax_j X (pc + 1) L (.long (x - y) :: st) h k n) : ax_j X pc L (.long y :: .long x :: st) h k n := by
  obtain ⟨p, l, e, R, s, m, args, below, meth, c, Z, D, g⟩ := X
  exact fun H locs ls hR hS hL => lv_lsub hX.1 hX.2.1 hd (kk H locs ls hR hS hL)
theorem ax_lmul (hX : ax_ok X M d) {x y : Int64} (hd : decode M.2.1 pc = .ok (.lmul, 1)) (kk : ax_j X (pc + 1) L (.long (x * y) :: st) h k n) : ax_j X pc L (.long y :: .long x :: st) h k n := by
  obtain ⟨p, l, e, R, s, m, args, below, meth, c, Z, D, g⟩ := X
  exact fun H locs ls hR hS hL => lv_lmul hX.1 hX.2.1 hd (kk H locs ls hR hS hL)
theorem ax_land (hX : ax_ok X M d) {x y : Int64} (hd : decode M.2.1 pc = .ok (.land, 1)) (kk : ax_j X (pc + 1) L (.long (x &&& y) :: st) h k n) : ax_j X pc L (.long y :: .long x :: st) h k n := by
  obtain ⟨p, l, e, R, s, m, args, below, meth, c, Z, D, g⟩ := X
  exact fun H locs ls hR hS hL => lv_land hX.1 hX.2.1 hd (kk H locs ls hR hS hL)
theorem ax_lor (hX : ax_ok X M d) {x y : Int64} (hd : decode M.2.1 pc = .ok (.lor, 1)) (kk : ax_j X (pc + 1) L (.long (x ||| y) :: st) h k n) : ax_j X pc L (.long y :: .long x :: st) h k n := by
  obtain ⟨p, l, e, R, s, m, args, below, meth, c, Z, D, g⟩ := X
  exact fun H locs ls hR hS hL => lv_lor hX.1 hX.2.1 hd (kk H locs ls hR hS hL)
theorem ax_lshl (hX : ax_ok X M d) {x : Int64} {y : Int32} (hd : decode M.2.1 pc = .ok (.lshl, 1)) (kk : ax_j X (pc + 1) L (.long (x <<< (y.toInt64 &&& 63)) :: st) h k n) : ax_j X pc L (.int y :: .long x :: st) h k n := by
  obtain ⟨p, l, e, R, s, m, args, below, meth, c, Z, D, g⟩ := X
  exact fun H locs ls hR hS hL => lv_lshl hX.1 hX.2.1 hd rfl (kk H locs ls hR hS hL)
theorem ax_lshr (hX : ax_ok X M d) {x : Int64} {y : Int32} (hd : decode M.2.1 pc = .ok (.lshr, 1)) (kk : ax_j X (pc + 1) L (.long (x >>> (y.toInt64 &&& 63)) :: st) h k n) : ax_j X pc L (.int y :: .long x :: st) h k n := by
  obtain ⟨p, l, e, R, s, m, args, below, meth, c, Z, D, g⟩ := X
  exact fun H locs ls hR hS hL => lv_lshr hX.1 hX.2.1 hd rfl (kk H locs ls hR hS hL)
theorem ax_lushr (hX : ax_ok X M d) {x : Int64} {y : Int32} (hd : decode M.2.1 pc = .ok (.lushr, 1)) (kk : ax_j X (pc + 1) L (.long ((x.toUInt64 >>> (y.toInt64.toUInt64 &&& Int64.toUInt64 63)).toInt64) :: st) h k n) : ax_j X pc L (.int y :: .long x :: st) h k n := by
  obtain ⟨p, l, e, R, s, m, args, below, meth, c, Z, D, g⟩ := X
  exact fun H locs ls hR hS hL => lv_lushr hX.1 hX.2.1 hd rfl (kk H locs ls hR hS hL)
theorem ax_i2l (hX : ax_ok X M d) {x : Int32} (hd : decode M.2.1 pc = .ok (.i2l, 1)) (kk : ax_j X (pc + 1) L (.long x.toInt64 :: st) h k n) : ax_j X pc L (.int x :: st) h k n := by
  obtain ⟨p, l, e, R, s, m, args, below, meth, c, Z, D, g⟩ := X
  exact fun H locs ls hR hS hL => lv_i2l hX.1 hX.2.1 hd rfl (kk H locs ls hR hS hL)
theorem ax_l2i (hX : ax_ok X M d) {x : Int64} (hd : decode M.2.1 pc = .ok (.l2i, 1)) (kk : ax_j X (pc + 1) L (.int x.toInt32 :: st) h k n) : ax_j X pc L (.long x :: st) h k n := by
  obtain ⟨p, l, e, R, s, m, args, below, meth, c, Z, D, g⟩ := X
  exact fun H locs ls hR hS hL => lv_l2i hX.1 hX.2.1 hd rfl (kk H locs ls hR hS hL)
theorem ax_i2b (hX : ax_ok X M d) {x : Int32} (hd : decode M.2.1 pc = .ok (.i2b, 1)) (kk : ax_j X (pc + 1) L (.int x.toInt8.toInt32 :: st) h k n) : ax_j X pc L (.int x :: st) h k n := by
  obtain ⟨p, l, e, R, s, m, args, below, meth, c, Z, D, g⟩ := X
  exact fun H locs ls hR hS hL => lv_i2b hX.1 hX.2.1 hd rfl (kk H locs ls hR hS hL)
theorem ax_dup (hX : ax_ok X M d) {v : Value} (hd : decode M.2.1 pc = .ok (.dup, 1)) (hv : v.category = 1) (kk : ax_j X (pc + 1) L (v :: v :: st) h k n) : ax_j X pc L (v :: st) h k n := by
  obtain ⟨p, l, e, R, s, m, args, below, meth, c, Z, D, g⟩ := X
  exact fun H locs ls hR hS hL => lv_dup hX.1 hX.2.1 hd ((ax_cat g v).trans hv) (kk H locs ls hR hS hL)
theorem ax_dup2 (hX : ax_ok X M d) {v w : Value} (hd : decode M.2.1 pc = .ok (.dup2, 1)) (hv : v.category = 1) (hw : w.category = 1) (kk : ax_j X (pc + 1) L (v :: w :: v :: w :: st) h k n) : ax_j X pc L (v :: w :: st) h k n := by
  obtain ⟨p, l, e, R, s, m, args, below, meth, c, Z, D, g⟩ := X
  exact fun H locs ls hR hS hL => lv_dup2_11 hX.1 hX.2.1 hd ((ax_cat g v).trans hv) ((ax_cat g w).trans hw) (kk H locs ls hR hS hL)
theorem ax_if_eq (hX : ax_ok X M d) {x : Int32} {off : Int} {tgt : Nat} (hd : decode M.2.1 pc = .ok (.ifCond .eq off, 3)) (ht : (pc : Int) + off = (tgt : Int)) (kt : x = 0 → ax_j X tgt L st h k n) (kf : ¬ x = 0 → ax_j X (pc + 3) L st h k n) : ax_j X pc L (.int x :: st) h k n := by
  obtain ⟨p, l, e, R, s, m, args, below, meth, c, Z, D, g⟩ := X
  exact fun H locs ls hR hS hL => lv_if_eq hX.1 hX.2.1 hd ht (fun q => kt q H locs ls hR hS hL) (fun q => kf q H locs ls hR hS hL)
theorem ax_icmp_eq (hX : ax_ok X M d) {x y : Int32} {off : Int} {tgt : Nat} (hd : decode M.2.1 pc = .ok (.if_icmp .eq off, 3)) (ht : (pc : Int) + off = (tgt : Int)) (kt : x = y → ax_j X tgt L st h k n) (kf : ¬ x = y → ax_j X (pc + 3) L st h k n) : ax_j X pc L (.int y :: .int x :: st) h k n := by
  obtain ⟨p, l, e, R, s, m, args, below, meth, c, Z, D, g⟩ := X
  exact fun H locs ls hR hS hL => lv_icmp_eq hX.1 hX.2.1 hd ht (fun q => kt q H locs ls hR hS hL) (fun q => kf q H locs ls hR hS hL)
theorem ax_if_ne (hX : ax_ok X M d) {x : Int32} {off : Int} {tgt : Nat} (hd : decode M.2.1 pc = .ok (.ifCond .ne off, 3)) (ht : (pc : Int) + off = (tgt : Int)) (kt : ¬ x = 0 → ax_j X tgt L st h k n) (kf : x = 0 → ax_j X (pc + 3) L st h k n) : ax_j X pc L (.int x :: st) h k n := by
  obtain ⟨p, l, e, R, s, m, args, below, meth, c, Z, D, g⟩ := X
  exact fun H locs ls hR hS hL => lv_if_ne hX.1 hX.2.1 hd ht (fun q => kt q H locs ls hR hS hL) (fun q => kf q H locs ls hR hS hL)
theorem ax_icmp_ne (hX : ax_ok X M d) {x y : Int32} {off : Int} {tgt : Nat} (hd : decode M.2.1 pc = .ok (.if_icmp .ne off, 3)) (ht : (pc : Int) + off = (tgt : Int)) (kt : ¬ x = y → ax_j X tgt L st h k n) (kf : x = y → ax_j X (pc + 3) L st h k n) : ax_j X pc L (.int y :: .int x :: st) h k n := by
  obtain ⟨p, l, e, R, s, m, args, below, meth, c, Z, D, g⟩ := X
  exact fun H locs ls hR hS hL => lv_icmp_ne hX.1 hX.2.1 hd ht (fun q => kt q H locs ls hR hS hL) (fun q => kf q H locs ls hR hS hL)
theorem ax_if_lt (hX : ax_ok X M d) {x : Int32} {off : Int} {tgt : Nat} (hd : decode M.2.1 pc = .ok (.ifCond .lt off, 3)) (ht : (pc : Int) + off = (tgt : Int)) (kt : x < 0 → ax_j X tgt L st h k n) (kf : ¬ x < 0 → ax_j X (pc + 3) L st h k n) : ax_j X pc L (.int x :: st) h k n := by
  obtain ⟨p, l, e, R, s, m, args, below, meth, c, Z, D, g⟩ := X
  exact fun H locs ls hR hS hL => lv_if_lt hX.1 hX.2.1 hd ht (fun q => kt q H locs ls hR hS hL) (fun q => kf q H locs ls hR hS hL)
theorem ax_icmp_lt (hX : ax_ok X M d) {x y : Int32} {off : Int} {tgt : Nat} (hd : decode M.2.1 pc = .ok (.if_icmp .lt off, 3)) (ht : (pc : Int) + off = (tgt : Int)) (kt : x < y → ax_j X tgt L st h k n) (kf : ¬ x < y → ax_j X (pc + 3) L st h k n) : ax_j X pc L (.int y :: .int x :: st) h k n := by
  obtain ⟨p, l, e, R, s, m, args, below, meth, c, Z, D, g⟩ := X
  exact fun H locs ls hR hS hL => lv_icmp_lt hX.1 hX.2.1 hd ht (fun q => kt q H locs ls hR hS hL) (fun q => kf q H locs ls hR hS hL)
theorem ax_if_ge (hX : ax_ok X M d) {x : Int32} {off : Int} {tgt : Nat} (hd : decode M.2.1 pc = .ok (.ifCond .ge off, 3)) (ht : (pc : Int) + off = (tgt : Int)) (kt : 0 ≤ x → ax_j X tgt L st h k n) (kf : ¬ 0 ≤ x → ax_j X (pc + 3) L st h k n) : ax_j X pc L (.int x :: st) h k n := by
  obtain ⟨p, l, e, R, s, m, args, below, meth, c, Z, D, g⟩ := X
  exact fun H locs ls hR hS hL => lv_if_ge hX.1 hX.2.1 hd ht (fun q => kt q H locs ls hR hS hL) (fun q => kf q H locs ls hR hS hL)
theorem ax_icmp_ge (hX : ax_ok X M d) {x y : Int32} {off : Int} {tgt : Nat} (hd : decode M.2.1 pc = .ok (.if_icmp .ge off, 3)) (ht : (pc : Int) + off = (tgt : Int)) (kt : y ≤ x → ax_j X tgt L st h k n) (kf : ¬ y ≤ x → ax_j X (pc + 3) L st h k n) : ax_j X pc L (.int y :: .int x :: st) h k n := by
  obtain ⟨p, l, e, R, s, m, args, below, meth, c, Z, D, g⟩ := X
  exact fun H locs ls hR hS hL => lv_icmp_ge hX.1 hX.2.1 hd ht (fun q => kt q H locs ls hR hS hL) (fun q => kf q H locs ls hR hS hL)
theorem ax_if_gt (hX : ax_ok X M d) {x : Int32} {off : Int} {tgt : Nat} (hd : decode M.2.1 pc = .ok (.ifCond .gt off, 3)) (ht : (pc : Int) + off = (tgt : Int)) (kt : 0 < x → ax_j X tgt L st h k n) (kf : ¬ 0 < x → ax_j X (pc + 3) L st h k n) : ax_j X pc L (.int x :: st) h k n := by
  obtain ⟨p, l, e, R, s, m, args, below, meth, c, Z, D, g⟩ := X
  exact fun H locs ls hR hS hL => lv_if_gt hX.1 hX.2.1 hd ht (fun q => kt q H locs ls hR hS hL) (fun q => kf q H locs ls hR hS hL)
theorem ax_icmp_gt (hX : ax_ok X M d) {x y : Int32} {off : Int} {tgt : Nat} (hd : decode M.2.1 pc = .ok (.if_icmp .gt off, 3)) (ht : (pc : Int) + off = (tgt : Int)) (kt : y < x → ax_j X tgt L st h k n) (kf : ¬ y < x → ax_j X (pc + 3) L st h k n) : ax_j X pc L (.int y :: .int x :: st) h k n := by
  obtain ⟨p, l, e, R, s, m, args, below, meth, c, Z, D, g⟩ := X
  exact fun H locs ls hR hS hL => lv_icmp_gt hX.1 hX.2.1 hd ht (fun q => kt q H locs ls hR hS hL) (fun q => kf q H locs ls hR hS hL)
theorem ax_if_le (hX : ax_ok X M d) {x : Int32} {off : Int} {tgt : Nat} (hd : decode M.2.1 pc = .ok (.ifCond .le off, 3)) (ht : (pc : Int) + off = (tgt : Int)) (kt : x ≤ 0 → ax_j X tgt L st h k n) (kf : ¬ x ≤ 0 → ax_j X (pc + 3) L st h k n) : ax_j X pc L (.int x :: st) h k n := by
  obtain ⟨p, l, e, R, s, m, args, below, meth, c, Z, D, g⟩ := X
  exact fun H locs ls hR hS hL => lv_if_le hX.1 hX.2.1 hd ht (fun q => kt q H locs ls hR hS hL) (fun q => kf q H locs ls hR hS hL)
theorem ax_icmp_le (hX : ax_ok X M d) {x y : Int32} {off : Int} {tgt : Nat} (hd : decode M.2.1 pc = .ok (.if_icmp .le off, 3)) (ht : (pc : Int) + off = (tgt : Int)) (kt : x ≤ y → ax_j X tgt L st h k n) (kf : ¬ x ≤ y → ax_j X (pc + 3) L st h k n) : ax_j X pc L (.int y :: .int x :: st) h k n := by
  obtain ⟨p, l, e, R, s, m, args, below, meth, c, Z, D, g⟩ := X
  exact fun H locs ls hR hS hL => lv_icmp_le hX.1 hX.2.1 hd ht (fun q => kt q H locs ls hR hS hL) (fun q => kf q H locs ls hR hS hL)
theorem ax_goto (hX : ax_ok X M d) {off : Int} {tgt : Nat} (hd : decode M.2.1 pc = .ok (.goto off, 3)) (ht : (pc : Int) + off = (tgt : Int)) (kk : ax_j X tgt L st h k n) : ax_j X pc L st h k n := by
  obtain ⟨p, l, e, R, s, m, args, below, meth, c, Z, D, g⟩ := X
  exact fun H locs ls hR hS hL => lv_goto hX.1 hX.2.1 hd ht (kk H locs ls hR hS hL)
end AXR
