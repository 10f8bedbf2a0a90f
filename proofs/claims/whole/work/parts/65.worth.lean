/-! worths: bounds, order, digits; what the states of a day mean -/
theorem sg_mul {f : Nat → Int} {c : Int} : ∀ (n : Nat), sg n (fun i => c * f i) = c * sg n f
  | 0 => by unfold sg; rw [Int.mul_zero]
  | n + 1 => by
    unfold sg
    rw [sg_mul n, Int.mul_add]
theorem sg_bd {f : Nat → Int} {a b : Int} : ∀ (n : Nat), (∀ i, i < n → a ≤ f i ∧ f i ≤ b) → n * a ≤ sg n f ∧ sg n f ≤ n * b
  | 0, _ => by
    unfold sg
    simp
  | n + 1, h => by
    have i1 := sg_bd n (fun i hi => h i (by omega))
    have i2 := h n (by omega)
    unfold sg
    rw [show ((n + 1 : Nat) : Int) * b = n * b + b by rw [Int.natCast_add, Int.add_mul]; simp, show ((n + 1 : Nat) : Int) * a = n * a + a by rw [Int.natCast_add, Int.add_mul]; simp]
    omega
theorem sav_rg {T : tT} (hC : ICi T) (x s t : Nat) : -600 ≤ sav T x s t ∧ sav T x s t ≤ 1200 := by
  unfold sav
  have a := wy_rg hC (pl T s) (hm T x)
  have b := wy_rg hC (hm T x) (pl T t)
  have c := wy_rg hC (pl T s) (pl T t)
  omega
theorem WB_rg {T : tT} (hC : ICi T) {S : Nat} (S9 : S ≤ 9) (d : Int) (f : Nat → Nat) : -200000 ≤ WB T S d f ∧ WB T S d f ≤ 200000 := by
  unfold WB
  have a := sg_bd (f := fun s => if dy T s < d then 2 * wy T (hm T (f s)) (pl T s) else 0) (a := 0) (b := 1200) S (fun s _ => by
    try dsimp only
    have := wy_rg hC (hm T (f s)) (pl T s)
    split <;> omega)
  have b := sg_bd (f := fun s => sg S (fun t => if dy T t < d ∧ f s = f t ∧ dy T t = dy T s + 1 then sav T (f s) s t else 0)) (a := -5400) (b := 10800) S (fun s _ => by
    try dsimp only
    have := sg_bd (f := fun t => if dy T t < d ∧ f s = f t ∧ dy T t = dy T s + 1 then sav T (f s) s t else 0) (a := -600) (b := 1200) S (fun t _ => by
      try dsimp only
      have := sav_rg hC (f s) s t
      split <;> omega)
    omega)
  omega
theorem p8_s {s : Nat} (h : s < 8) : p8 s = 8 * p8 (s + 1) := by
  unfold p8
  rw [show 8 - s = (8 - (s + 1)) + 1 by omega, Int.pow_succ]
  omega
theorem p8_pos (s : Nat) : 0 < p8 s := by
  unfold p8
  exact Int.pow_pos (by decide)
theorem dg_tail {a : Nat → Nat} {s : Nat} : ∀ (n : Nat), s < n → n ≤ 9 → (∀ t, t < n → a t ≤ 7) → sg (s + 1) (fun t => (a t : Int) * p8 t) ≤ sg n (fun t => (a t : Int) * p8 t) ∧ sg n (fun t => (a t : Int) * p8 t) + p8 (n - 1) ≤ sg (s + 1) (fun t => (a t : Int) * p8 t) + p8 s
  | 0, h, _, _ => absurd h (Nat.not_lt_zero _)
  | n + 1, h, h9, ha => by
    by_cases c : s = n
    · subst c
      rw [Nat.add_sub_cancel]
      exact ⟨Int.le_refl _, Int.le_refl _⟩
    · obtain ⟨i1, i2⟩ := dg_tail (s := s) n (by omega) (by omega) (fun t ht => ha t (by omega))
      have e : p8 (n - 1) = 8 * p8 n := by
        have := p8_s (s := n - 1) (by omega)
        rw [show n - 1 + 1 = n by omega] at this
        exact this
      have hp := p8_pos n
      have m1 : (0 : Int) ≤ (a n : Int) * p8 n := Int.mul_nonneg (by omega) (by omega)
      have m2 : (a n : Int) * p8 n ≤ 7 * p8 n := Int.mul_le_mul_of_nonneg_right (by have := ha n (by omega); omega) (by omega)
      have u : ∀ g : Nat → Int, sg (n + 1) g = sg n g + g n := fun _ => rfl
      rw [u (fun t => (a t : Int) * p8 t), Nat.add_sub_cancel]
      try dsimp only
      generalize sg n (fun t => (a t : Int) * p8 t) = A at *
      generalize sg (s + 1) (fun t => (a t : Int) * p8 t) = B at *
      omega
theorem dg_lex {a b : Nat → Nat} {s : Nat} {n : Nat} (hs : s < n) (n9 : n ≤ 9) (ha : ∀ t, t < n → a t ≤ 7) (hb : ∀ t, t < n → b t ≤ 7) (he : ∀ t, t < s → a t = b t) (hl : a s < b s) : sg n (fun t => (a t : Int) * p8 t) < sg n (fun t => (b t : Int) * p8 t) := by
  have i1 := dg_tail (s := s) n hs n9 ha
  have i2 := dg_tail (s := s) n hs n9 hb
  have u : ∀ g : Nat → Int, sg (s + 1) g = sg s g + g s := fun _ => rfl
  have e : sg s (fun t => (a t : Int) * p8 t) = sg s (fun t => (b t : Int) * p8 t) := sg_cg s (fun t ht => by (try dsimp only); rw [he t ht])
  have m : (a s : Int) * p8 s + p8 s ≤ (b s : Int) * p8 s := by
    have := Int.mul_le_mul_of_nonneg_right (show (a s : Int) + 1 ≤ (b s : Int) by omega) (Int.le_of_lt (p8_pos s))
    rw [Int.add_mul, Int.one_mul] at this
    exact this
  have hp := p8_pos (n - 1)
  rw [u (fun t => (a t : Int) * p8 t)] at i1
  rw [u (fun t => (b t : Int) * p8 t)] at i2
  rw [e] at i1
  omega
theorem dg_rg {a : Nat → Nat} {n : Nat} (n9 : n ≤ 9) (ha : ∀ t, t < n → a t ≤ 7) : 0 ≤ sg n (fun t => (a t : Int) * p8 t) ∧ sg n (fun t => (a t : Int) * p8 t) < 134217728 := by
  by_cases c : n = 0
  · subst c
    exact ⟨Int.le_refl _, show (0 : Int) < 134217728 by decide⟩
  · have i := dg_tail (s := 0) n (by omega) n9 ha
    have u : sg (0 + 1) (fun t => (a t : Int) * p8 t) = 0 + (a 0 : Int) * p8 0 := rfl
    have e : p8 0 = 16777216 := rfl
    have hp := p8_pos (n - 1)
    have := ha 0 (by omega)
    rw [u, e] at i
    omega
/-- the prefix, and what stands ahead of it, is a multiple -/
theorem dg_pre {a : Nat → Nat} {W : Int} : ∀ (n : Nat), n ≤ 9 → ∃ M : Int, W * 134217728 + sg n (fun t => (a t : Int) * p8 t) = 8 ^ (9 - n) * M
  | 0, _ => ⟨W, by unfold sg; rw [show (8 : Int) ^ (9 - 0) = 134217728 from rfl]; omega⟩
  | n + 1, h => by
    obtain ⟨M, hM⟩ := dg_pre (a := a) (W := W) n (by omega)
    refine ⟨8 * M + a n, ?_⟩
    unfold sg
    have e : (8 : Int) ^ (9 - n) = 8 ^ (9 - (n + 1)) * 8 := by rw [show 9 - n = (9 - (n + 1)) + 1 by omega, Int.pow_succ]
    have e2 : p8 n = 8 ^ (9 - (n + 1)) := by unfold p8; rw [show 8 - n = 9 - (n + 1) by omega]
    try dsimp only
    rw [← Int.add_assoc, hM, e, e2, Int.mul_add, Int.mul_assoc, Int.mul_comm (a n : Int)]
theorem dg_get {a : Nat → Nat} {W : Int} {n s : Nat} (hs : s < n) (n9 : n ≤ 9) (ha : ∀ t, t < n → a t ≤ 7) : (W * 134217728 + sg n (fun t => (a t : Int) * p8 t)) / p8 s % 8 = a s := by
  obtain ⟨M, hM⟩ := dg_pre (a := a) (W := W) s (by omega)
  have i := dg_tail (s := s) n hs n9 ha
  have u : sg (s + 1) (fun t => (a t : Int) * p8 t) = sg s (fun t => (a t : Int) * p8 t) + (a s : Int) * p8 s := rfl
  have e : (8 : Int) ^ (9 - s) = p8 s * 8 := by unfold p8; rw [show 9 - s = (8 - s) + 1 by omega, Int.pow_succ]
  have hp := p8_pos s
  have hq := p8_pos (n - 1)
  have as := ha s hs
  obtain ⟨r, hr⟩ : ∃ r, sg n (fun t => (a t : Int) * p8 t) = sg (s + 1) (fun t => (a t : Int) * p8 t) + r := ⟨sg n (fun t => (a t : Int) * p8 t) - sg (s + 1) (fun t => (a t : Int) * p8 t), by omega⟩
  have r0 : 0 ≤ r ∧ r < p8 s := by omega
  have tot : W * 134217728 + sg n (fun t => (a t : Int) * p8 t) = r + p8 s * (8 * M + a s) := by
    rw [hr, u, Int.mul_add, ← Int.mul_assoc, ← e, ← hM, Int.mul_comm (a s : Int)]
    omega
  rw [tot, Int.add_mul_ediv_left _ _ (by omega), Int.ediv_eq_zero_of_lt r0.1 r0.2]
  omega
def kst (T : tT) (x s : Nat) : Int := 134217728 * (2 * wy T (hm T x) (pl T s)) + (x : Int) * p8 s
def gcs (T : tT) (S : Nat) (d : Int) (g : Nat → Nat) : Int := sg S (fun s => if dy T s = d then kst T (g s) s else 0)
theorem gcs_eq {T : tT} {S : Nat} {d : Int} {g : Nat → Nat} : gcs T S d g = 134217728 * sg S (fun s => if dy T s = d then 2 * wy T (hm T (g s)) (pl T s) else 0) + sg S (fun s => if dy T s = d then (g s : Int) * p8 s else 0) := by
  unfold gcs
  rw [← sg_mul, ← sg_add]
  apply sg_cg
  intro s _
  try dsimp only
  by_cases c : dy T s = d
  · rw [if_pos c, if_pos c, if_pos c]; rfl
  · rw [if_neg c, if_neg c, if_neg c]; omega
def Vg (T : tT) (S E : Nat) (d : Int) (f : Nat → Nat) : Prop := ∀ s, s < S → dy T s = d → f s < E ∧ v_X11_mayTake T (nI (f s)) (nI s) ≠ 0 ∧ ∀ t, t < s → f t = f s → dy T t ≠ dy T s
def wth (T : tT) (S : Nat) (d : Int) (f : Nat → Nat) : Int := WB T S d f * 134217728 + CB T S d f
def INVw (T : tT) (S E : Nat) (d : Int) (wo : Nat → Int64) (cnt : Nat) : Prop := (∀ i, i < cnt → ∃ f, Vd T S E d f ∧ (wo i).toInt = wth T S d f) ∧ (∀ f, Vd T S E d f → ∃ i, i < cnt ∧ (wo i).toInt ≤ wth T S d f)
def INV (T : tT) (S E : Nat) (d : Int) (wh : Nat → Int32) (wo : Nat → Int64) (cnt : Nat) : Prop := (∀ i, i < cnt → ∃ f, Vd T S E d f ∧ rep T S E (wh i) f (d - 1) ∧ (wo i).toInt = wth T S d f) ∧ (∀ f, Vd T S E d f → ∃ i, i < cnt ∧ rep T S E (wh i) f (d - 1) ∧ (wo i).toInt ≤ wth T S d f)
theorem INV_w {T : tT} {S E : Nat} {d : Int} {wh : Nat → Int32} {wo : Nat → Int64} {cnt : Nat} (h : INV T S E d wh wo cnt) : INVw T S E d wo cnt :=
  ⟨fun i hi => by obtain ⟨f, f1, _, f3⟩ := h.1 i hi; exact ⟨f, f1, f3⟩, fun f hf => by obtain ⟨i, i1, _, i3⟩ := h.2 f hf; exact ⟨i, i1, i3⟩⟩
theorem wth_rg {T : tT} (hC : ICi T) {S E : Nat} (S9 : S ≤ 9) (E5 : E ≤ 5) {d : Int} {f : Nat → Nat} (hf : Vd T S E d f) : -30000000000000 ≤ wth T S d f ∧ wth T S d f ≤ 30000000000000 := by
  unfold wth CB
  have a := WB_rg hC S9 d f
  have e : sg S (fun s => if dy T s < d then (f s : Int) * p8 s else 0) = sg S (fun s => ((if dy T s < d then f s else 0 : Nat) : Int) * p8 s) := by
    apply sg_cg
    intro s _
    try dsimp only
    split
    · rfl
    · simp
  have b := dg_rg (a := fun s => if dy T s < d then f s else 0) S9 (fun t ht => by
    try dsimp only
    split
    · rename_i q
      have := (hf t ht q).1
      omega
    · omega)
  rw [← e] at b
  omega
def svv (T : tT) (E : Nat) (p q : Int32) : Int := 134217728 * sg E (stm T p q)
def isMn (cnt : Nat) (wo : Nat → Int64) (sv : Nat → Int) (v : Int) : Prop := (∃ j, j < cnt ∧ v = (wo j).toInt - sv j) ∧ ∀ j, j < cnt → v ≤ (wo j).toInt - sv j
theorem wth_step {T : tT} (hC : ICi T) {S E : Nat} {d : Int} {f : Nat → Nat} {p q : Int32} (hp : rep T S E p f (d - 1)) (hq : rep T S E q f d) (hV : Vd T S E (d + 1) f) : wth T S (d + 1) f = wth T S d f - svv T E p q + gcs T S d f := by
  unfold wth svv
  rw [SV_eq hC hp hq hV, WB_step, CB_step, gcs_eq]
  omega
theorem INV_step {T : tT} (hC : ICi T) {S E : Nat} {d : Int} {whB : Nat → Int32} {woB : Nat → Int64} {cntB : Nat} {wh : Nat → Int32} {wo : Nat → Int64} {cnt : Nat} (h : INV T S E d whB woB cntB) (hs : ∀ i, i < cnt → ∃ g v, Vg T S E d g ∧ rep T S E (wh i) g d ∧ isMn cntB woB (fun j => svv T E (whB j) (wh i)) v ∧ (wo i).toInt = v + gcs T S d g) (hc : 0 < cntB → ∀ g, Vg T S E d g → ∃ i v, i < cnt ∧ rep T S E (wh i) g d ∧ isMn cntB woB (fun j => svv T E (whB j) (wh i)) v ∧ (wo i).toInt = v + gcs T S d g) : INV T S E (d + 1) wh wo cnt := by
  have ed : d + 1 - 1 = d := by omega
  refine ⟨?_, ?_⟩
  · intro i hi
    obtain ⟨g, v, g1, g2, ⟨⟨j, j1, j2⟩, _⟩, g4⟩ := hs i hi
    obtain ⟨f, f1, f2, f3⟩ := h.1 j j1
    have hlt : ∀ s, s < S → dy T s < d → f s = (fun s => if dy T s < d then f s else g s) s := fun s _ q => by (try dsimp only); rw [if_pos q]
    have heq : ∀ s, s < S → dy T s = d → g s = (fun s => if dy T s < d then f s else g s) s := fun s _ q => by (try dsimp only); rw [if_neg (by omega)]
    have V : Vd T S E (d + 1) (fun s => if dy T s < d then f s else g s) := by
      intro s hs' hd
      by_cases c : dy T s < d
      · exact Vd_cg hlt f1 s hs' c
      · have c' : dy T s = d := by omega
        obtain ⟨a1, a2, a3⟩ := g1 s hs' c'
        try dsimp only
        rw [if_neg c]
        refine ⟨a1, a2, fun t ht e q => a3 t ht ?_ q⟩
        rw [if_neg (by omega)] at e
        exact e
    have r1 := rep_cg (g := fun s => if dy T s < d then f s else g s) (fun s hs' q => hlt s hs' (by omega)) f2
    have r2 := rep_cg (g := fun s => if dy T s < d then f s else g s) heq g2
    refine ⟨fun s => if dy T s < d then f s else g s, V, by rw [ed]; exact r2, ?_⟩
    have st := wth_step hC r1 r2 V
    have e1 : wth T S d (fun s => if dy T s < d then f s else g s) = wth T S d f := by
      unfold wth
      rw [← WB_cg hlt, ← CB_cg hlt]
    have e2 : gcs T S d (fun s => if dy T s < d then f s else g s) = gcs T S d g := by
      unfold gcs
      apply sg_cg
      intro s hs'
      try dsimp only
      by_cases c : dy T s = d
      · rw [if_pos c, if_pos c, if_neg (by omega)]
      · rw [if_neg c, if_neg c]
    rw [st, e1, e2, g4, j2, f3]
  · intro f hf
    have vd : Vd T S E d f := fun s hs' hd => hf s hs' (by omega)
    have vg : Vg T S E d f := fun s hs' hd => hf s hs' (by omega)
    obtain ⟨j, j1, j2, j3⟩ := h.2 f vd
    obtain ⟨i, v, i1, i2, ⟨_, i3⟩, i4⟩ := hc (by omega) f vg
    refine ⟨i, i1, by rw [ed]; exact i2, ?_⟩
    have := i3 j j1
    dsimp only at this
    rw [wth_step hC j2 i2 hf]
    omega
theorem pof_0 {x : Nat} (hx : x < 5) : pof 0 x = 0 := by
  have : ∀ x ∈ List.range 5, pof 0 x = 0 := by decide
  exact this x (List.mem_range.mpr hx)
/-- all at home -/
theorem INV_home {T : tT} {S E : Nat} (E5 : E ≤ 5) {d d' : Int} {wo wo' : Nat → Int64} {wh' : Nat → Int32} {cnt cnt' : Nat} (h : INVw T S E d wo cnt) (hd : ∀ s, s < S → (dy T s < d ↔ dy T s < d')) (hn : ∀ s, s < S → dy T s ≠ d' - 1) (h0 : cnt = 0 → cnt' = 0) (h1 : 0 < cnt → cnt' = 1 ∧ wh' 0 = 0 ∧ (∃ j, j < cnt ∧ wo' 0 = wo j) ∧ ∀ j, j < cnt → (wo' 0).toInt ≤ (wo j).toInt) : INV T S E d' wh' wo' cnt' := by
  have ew : ∀ f, wth T S d f = wth T S d' f := fun f => by
    unfold wth
    rw [WB_gap hd, CB_gap hd]
  have r0 : ∀ f, rep T S E 0 f (d' - 1) := fun f x hx => Or.inr ⟨fun s hs q => absurd q (hn s hs), pof_0 (by omega)⟩
  by_cases c : cnt = 0
  · have c' := h0 c
    refine ⟨fun i hi => by omega, fun f hf => ?_⟩
    obtain ⟨i, i1, _⟩ := h.2 f (Vd_gap (fun s hs => (hd s hs).symm) hf)
    omega
  · obtain ⟨k1, k2, ⟨j, k3, k4⟩, k5⟩ := h1 (by omega)
    refine ⟨fun i hi => ?_, fun f hf => ?_⟩
    · have : i = 0 := by omega
      subst this
      obtain ⟨f, f1, f2⟩ := h.1 j k3
      exact ⟨f, Vd_gap hd f1, by rw [k2]; exact r0 f, by rw [k4, f2, ew]⟩
    · obtain ⟨i, i1, i2⟩ := h.2 f (Vd_gap (fun s hs => (hd s hs).symm) hf)
      refine ⟨0, by omega, by rw [k2]; exact r0 f, ?_⟩
      have := k5 i i1
      rw [← ew f]
      omega
