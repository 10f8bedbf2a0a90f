/-! travel and worth by days -/
theorem sg_swap {F : Nat → Nat → Int} {m : Nat} : ∀ (n : Nat), sg n (fun x => sg m (fun s => F x s)) = sg m (fun s => sg n (fun x => F x s))
  | 0 => (sg_zero m).symm
  | n + 1 => by
    show sg n (fun x => sg m (fun s => F x s)) + sg m (fun s => F n s) = sg m (fun s => sg n (fun x => F x s) + F n s)
    rw [sg_swap n, ← sg_add]
theorem sg_pick' {S l : Nat} {f : Nat → Int} (hl : l < S) (h : ∀ t, t < S → t ≠ l → f t = 0) : sg S f = f l := sg_pick hl rfl h
theorem sg_z {S : Nat} {f : Nat → Int} (h : ∀ t, t < S → f t = 0) : sg S f = 0 := (sg_cg (g := fun _ => 0) S h).trans (sg_zero S)
def Vd (T : tT) (S E : Nat) (d : Int) (f : Nat → Nat) : Prop := ∀ s, s < S → dy T s < d → f s < E ∧ v_X11_mayTake T (nI (f s)) (nI s) ≠ 0 ∧ ∀ t, t < s → f t = f s → dy T t ≠ dy T s
def WB (T : tT) (S : Nat) (d : Int) (f : Nat → Nat) : Int := sg S (fun s => if dy T s < d then 2 * wy T (hm T (f s)) (pl T s) else 0) - sg S (fun s => sg S (fun t => if dy T t < d ∧ f s = f t ∧ dy T t = dy T s + 1 then sav T (f s) s t else 0))
def p8 (s : Nat) : Int := 8 ^ (8 - s)
def CB (T : tT) (S : Nat) (d : Int) (f : Nat → Nat) : Int := sg S (fun s => if dy T s < d then (f s : Int) * p8 s else 0)
def SVf (T : tT) (S : Nat) (d : Int) (f : Nat → Nat) : Int := sg S (fun s => sg S (fun t => if dy T t = d ∧ f s = f t ∧ dy T t = dy T s + 1 then sav T (f s) s t else 0))
theorem WB_step {T : tT} {S : Nat} {d : Int} {f : Nat → Nat} : WB T S (d + 1) f = WB T S d f + sg S (fun s => if dy T s = d then 2 * wy T (hm T (f s)) (pl T s) else 0) - SVf T S d f := by
  unfold WB SVf
  have e1 : sg S (fun s => if dy T s < d + 1 then 2 * wy T (hm T (f s)) (pl T s) else 0) = sg S (fun s => (if dy T s < d then 2 * wy T (hm T (f s)) (pl T s) else 0) + (if dy T s = d then 2 * wy T (hm T (f s)) (pl T s) else 0)) := by
    apply sg_cg
    intro s _
    by_cases c1 : dy T s < d
    · rw [if_pos c1, if_pos (by omega), if_neg (by omega)]; omega
    · rw [if_neg c1]
      by_cases c2 : dy T s = d
      · rw [if_pos c2, if_pos (by omega)]; omega
      · rw [if_neg c2, if_neg (by omega)]; omega
  have e2 : sg S (fun s => sg S (fun t => if dy T t < d + 1 ∧ f s = f t ∧ dy T t = dy T s + 1 then sav T (f s) s t else 0)) = sg S (fun s => sg S (fun t => if dy T t < d ∧ f s = f t ∧ dy T t = dy T s + 1 then sav T (f s) s t else 0) + sg S (fun t => if dy T t = d ∧ f s = f t ∧ dy T t = dy T s + 1 then sav T (f s) s t else 0)) := by
    apply sg_cg
    intro s _
    try dsimp only
    rw [← sg_add]
    apply sg_cg
    intro t _
    try dsimp only
    by_cases c0 : f s = f t ∧ dy T t = dy T s + 1
    · by_cases c1 : dy T t < d
      · rw [if_pos ⟨by omega, c0⟩, if_pos ⟨c1, c0⟩, if_neg (fun q => by have := q.1; omega)]; omega
      · by_cases c2 : dy T t = d
        · rw [if_pos ⟨by omega, c0⟩, if_neg (fun q => c1 q.1), if_pos ⟨c2, c0⟩]; omega
        · rw [if_neg (fun q => by have := q.1; omega), if_neg (fun q => c1 q.1), if_neg (fun q => c2 q.1)]; omega
    · rw [if_neg (fun q => c0 q.2), if_neg (fun q => c0 q.2), if_neg (fun q => c0 q.2)]; omega
  rw [e1, e2, sg_add, sg_add]
  omega
theorem CB_step {T : tT} {S : Nat} {d : Int} {f : Nat → Nat} : CB T S (d + 1) f = CB T S d f + sg S (fun s => if dy T s = d then (f s : Int) * p8 s else 0) := by
  unfold CB
  rw [← sg_add]
  apply sg_cg
  intro s _
  try dsimp only
  by_cases c1 : dy T s < d
  · rw [if_pos c1, if_pos (by omega), if_neg (by omega)]; omega
  · rw [if_neg c1]
    by_cases c2 : dy T s = d
    · rw [if_pos c2, if_pos (by omega)]; omega
    · rw [if_neg c2, if_neg (by omega)]; omega
theorem WB_cg {T : tT} {S : Nat} {d : Int} {f g : Nat → Nat} (h : ∀ s, s < S → dy T s < d → f s = g s) : WB T S d f = WB T S d g := by
  unfold WB
  congr 1
  · apply sg_cg
    intro s hs
    by_cases c : dy T s < d
    · rw [if_pos c, if_pos c, h s hs c]
    · rw [if_neg c, if_neg c]
  · apply sg_cg
    intro s hs
    try dsimp only
    apply sg_cg
    intro t ht
    try dsimp only
    by_cases c : dy T t < d ∧ dy T t = dy T s + 1
    · rw [h s hs (by omega), h t ht c.1]
    · rw [if_neg (fun q => c ⟨q.1, q.2.2⟩), if_neg (fun q => c ⟨q.1, q.2.2⟩)]
theorem CB_cg {T : tT} {S : Nat} {d : Int} {f g : Nat → Nat} (h : ∀ s, s < S → dy T s < d → f s = g s) : CB T S d f = CB T S d g := by
  unfold CB
  apply sg_cg
  intro s hs
  by_cases c : dy T s < d
  · rw [if_pos c, if_pos c, h s hs c]
  · rw [if_neg c, if_neg c]
theorem Vd_cg {T : tT} {S E : Nat} {d : Int} {f g : Nat → Nat} (h : ∀ s, s < S → dy T s < d → f s = g s) (hf : Vd T S E d f) : Vd T S E d g := by
  intro s hs hd
  obtain ⟨a1, a2, a3⟩ := hf s hs hd
  rw [← h s hs hd]
  refine ⟨a1, a2, fun t ht e q => ?_⟩
  exact a3 t ht (by rw [h t (by omega) (by omega)]; exact e) q
theorem WB_gap {T : tT} {S : Nat} {d d' : Int} {f : Nat → Nat} (h : ∀ s, s < S → (dy T s < d ↔ dy T s < d')) : WB T S d f = WB T S d' f := by
  unfold WB
  congr 1
  · apply sg_cg
    intro s hs
    by_cases c : dy T s < d
    · rw [if_pos c, if_pos ((h s hs).mp c)]
    · rw [if_neg c, if_neg (fun q => c ((h s hs).mpr q))]
  · apply sg_cg
    intro s hs
    try dsimp only
    apply sg_cg
    intro t ht
    try dsimp only
    by_cases c : dy T t < d
    · have c' := (h t ht).mp c
      by_cases c0 : f s = f t ∧ dy T t = dy T s + 1
      · rw [if_pos ⟨c, c0⟩, if_pos ⟨c', c0⟩]
      · rw [if_neg (fun q => c0 q.2), if_neg (fun q => c0 q.2)]
    · rw [if_neg (fun q => c q.1), if_neg (fun q => c ((h t ht).mpr q.1))]
theorem CB_gap {T : tT} {S : Nat} {d d' : Int} {f : Nat → Nat} (h : ∀ s, s < S → (dy T s < d ↔ dy T s < d')) : CB T S d f = CB T S d' f := by
  unfold CB
  apply sg_cg
  intro s hs
  by_cases c : dy T s < d
  · rw [if_pos c, if_pos ((h s hs).mp c)]
  · rw [if_neg c, if_neg (fun q => c ((h s hs).mpr q))]
theorem Vd_gap {T : tT} {S E : Nat} {d d' : Int} {f : Nat → Nat} (h : ∀ s, s < S → (dy T s < d ↔ dy T s < d')) (hf : Vd T S E d f) : Vd T S E d' f := fun s hs hd => hf s hs ((h s hs).mpr hd)
theorem WA_WB {T : tT} {S E : Nat} {d : Int} {f : Nat → Nat} (hd : ∀ s, s < S → dy T s < d) (hf : ∀ s, s < S → f s < E) : WA T S E f = WB T S d f := by
  unfold WA WB trv
  rw [sg_sub]
  congr 1
  · rw [sg_swap]
    apply sg_cg
    intro s hs
    try dsimp only
    rw [if_pos (hd s hs), sg_pick' (hf s hs)]
    · rw [if_pos (beq_self_eq_true _)]
    · intro x _ ne
      exact if_neg (by rw [beq_iff_eq]; exact fun q => ne q.symm)
  · rw [sg_swap]
    apply sg_cg
    intro s hs
    try dsimp only
    rw [sg_swap]
    apply sg_cg
    intro t ht
    try dsimp only
    rw [sg_pick' (hf s hs)]
    · unfold nx
      by_cases c : f s = f t ∧ dy T t = dy T s + 1
      · rw [if_pos (by
          simp only [Bool.and_eq_true, beq_iff_eq, decide_eq_true_eq]
          exact ⟨⟨trivial, c.1.symm⟩, c.2⟩), if_pos ⟨hd t ht, c⟩]
      · rw [if_neg (by
          simp only [Bool.and_eq_true, beq_iff_eq, decide_eq_true_eq]
          exact fun q => c ⟨q.1.2.symm, q.2⟩), if_neg (fun q => c q.2)]
    · intro x _ ne
      apply if_neg
      unfold nx
      simp only [Bool.and_eq_true, beq_iff_eq, decide_eq_true_eq]
      exact fun q => ne q.1.1.symm
/-- a sum in another order -/
theorem sg_perm {T : tT} {S : Nat} {o : Nat → Nat} (hO : Ord T S o) (h : Nat → Int) : sg S (fun q => h (o q)) = sg S h := by
  have e1 : sg S (fun q => h (o q)) = sg S (fun q => sg S (fun s => if s = o q then h s else 0)) := by
    apply sg_cg
    intro q hq
    try dsimp only
    rw [sg_pick' (hO.1 q hq)]
    · rw [if_pos rfl]
    · exact fun t _ ne => if_neg ne
  rw [e1, sg_swap]
  apply sg_cg
  intro s hs
  obtain ⟨p, p1, p2⟩ := hO.2.1 s hs
  try dsimp only
  rw [sg_pick' p1]
  · rw [if_pos p2.symm]
  · exact fun t ht ne => if_neg (fun q => ne (hO.2.2.1 t p ht p1 (by rw [← q, p2])))
/-! where the examiners were on a day -/
def pof (p : Int32) (x : Nat) : Int32 := (p >>> (((4 : Int32) * nI x) &&& 31)) &&& 15
def rep (T : tT) (S E : Nat) (p : Int32) (f : Nat → Nat) (d : Int) : Prop := ∀ x, x < E → (∃ s, s < S ∧ dy T s = d ∧ f s = x ∧ pof p x = nI (pl T s + 1)) ∨ ((∀ s, s < S → dy T s = d → f s ≠ x) ∧ pof p x = 0)
theorem rep_cg {T : tT} {S E : Nat} {p : Int32} {f g : Nat → Nat} {d : Int} (h : ∀ s, s < S → dy T s = d → f s = g s) (hr : rep T S E p f d) : rep T S E p g d := by
  intro x hx
  rcases hr x hx with ⟨s, a1, a2, a3, a4⟩ | ⟨a1, a2⟩
  · exact Or.inl ⟨s, a1, a2, by rw [← h s a1 a2]; exact a3, a4⟩
  · exact Or.inr ⟨fun s hs hd => by rw [← h s hs hd]; exact a1 s hs hd, a2⟩
/-- one examiner's saving -/
def stm (T : tT) (p q : Int32) (x : Nat) : Int := if pof p x = 0 ∨ pof q x = 0 then 0 else wy T ((pof p x).toNatClampNeg - 1) (hm T x) + wy T (hm T x) ((pof q x).toNatClampNeg - 1) - wy T ((pof p x).toNatClampNeg - 1) ((pof q x).toNatClampNeg - 1)
theorem SV_eq {T : tT} (hC : ICi T) {S E : Nat} {p q : Int32} {f : Nat → Nat} {d : Int} (hp : rep T S E p f (d - 1)) (hq : rep T S E q f d) (hV : Vd T S E (d + 1) f) : sg E (stm T p q) = SVf T S d f := by
  have uq : ∀ s t, s < S → t < S → dy T s = dy T t → dy T s < d + 1 → f s = f t → s = t := by
    intro s t hs ht e1 e2 e3
    rcases Nat.lt_trichotomy s t with c | c | c
    · exact absurd e1 ((hV t ht (by omega)).2.2 s c e3)
    · exact c
    · exact absurd e1.symm ((hV s hs e2).2.2 t c e3.symm)
  have nz : ∀ s, nI (pl T s + 1) ≠ 0 ∧ (nI (pl T s + 1)).toNatClampNeg - 1 = pl T s := by
    intro s
    have := (pl_lt hC s).2
    have e : (nI (pl T s + 1)).toInt = (pl T s + 1 : Nat) := nI_toInt (by omega)
    refine ⟨fun w => ?_, by rw [tnN e]; omega⟩
    rw [teq, e, show (0 : Int32).toInt = 0 from rfl] at w
    omega
  have e1 : sg E (stm T p q) = sg E (fun x => sg S (fun s => sg S (fun t => if f s = x ∧ dy T t = d ∧ f s = f t ∧ dy T t = dy T s + 1 then sav T (f s) s t else 0))) := by
    apply sg_cg
    intro x hx
    try dsimp only
    unfold stm
    rcases hp x hx with ⟨s, a1, a2, a3, a4⟩ | ⟨a1, a2⟩
    · rcases hq x hx with ⟨t, b1, b2, b3, b4⟩ | ⟨b1, b2⟩
      · rw [a4, b4, (nz s).2, (nz t).2, if_neg (fun w => w.elim (nz s).1 (nz t).1)]
        rw [sg_pick' a1, sg_pick' b1]
        · rw [if_pos ⟨a3, b2, by rw [a3, b3], by omega⟩, a3]
          rfl
        · intro u hu ne
          apply if_neg
          rintro ⟨_, w1, w2, _⟩
          exact ne (uq u t hu b1 (by omega) (by omega) (by rw [← w2, a3, b3]))
        · intro u hu ne
          apply sg_z
          intro v hv
          apply if_neg
          rintro ⟨w0, w1, w2, w3⟩
          exact ne (uq u s hu a1 (by omega) (by omega) (by rw [w0, a3]))
      · rw [b2, if_pos (Or.inr rfl)]
        symm
        apply sg_z
        intro u hu
        apply sg_z
        intro v hv
        apply if_neg
        rintro ⟨w0, w1, w2, w3⟩
        exact b1 v hv w1 (by rw [← w2, w0])
    · rw [a2, if_pos (Or.inl rfl)]
      symm
      apply sg_z
      intro u hu
      apply sg_z
      intro v hv
      apply if_neg
      rintro ⟨w0, w1, w2, w3⟩
      exact a1 u hu (by omega) w0
  rw [e1]
  unfold SVf
  rw [sg_swap]
  apply sg_cg
  intro s hs
  try dsimp only
  rw [sg_swap]
  apply sg_cg
  intro t ht
  try dsimp only
  by_cases c : dy T t = d ∧ f s = f t ∧ dy T t = dy T s + 1
  · rw [if_pos c, sg_pick' (hV s hs (by omega)).1]
    · rw [if_pos ⟨rfl, c⟩]
    · exact fun x _ ne => if_neg (fun w => ne w.1.symm)
  · rw [if_neg c]
    exact sg_z (fun x _ => if_neg (fun w => c w.2))
