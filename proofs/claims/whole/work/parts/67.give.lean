/-! the class's planner: a day is given -/
theorem pof_or (p q : Int32) (x : Nat) : pof (p ||| q) x = pof p x ||| pof q x := by
  unfold pof
  apply Int32.toBitVec_inj.mp
  rw [Int32.toBitVec_and, Int32.toBitVec_or, Int32.toBitVec_and, Int32.toBitVec_and, Int32.toBitVec_shiftRight, Int32.toBitVec_shiftRight, Int32.toBitVec_shiftRight, Int32.toBitVec_or]
  rw [BitVec.sshiftRight', BitVec.sshiftRight', BitVec.sshiftRight', BitVec.sshiftRight_or_distrib, BitVec.and_or_distrib_right]
theorem pof_one {a k x : Nat} (ha : a < 8) (hk : k < 5) (hx : x < 5) : pof (nI (a + 1) <<< (((4 : Int32) * nI k) &&& 31)) x = if x = k then nI (a + 1) else 0 := by
  have : ∀ a ∈ List.range 8, ∀ k ∈ List.range 5, ∀ x ∈ List.range 5, pof (nI (a + 1) <<< (((4 : Int32) * nI k) &&& 31)) x = if x = k then nI (a + 1) else 0 := by decide
  exact this a (List.mem_range.mpr ha) k (List.mem_range.mpr hk) x (List.mem_range.mpr hx)
/-- how many of the first k are free -/
def nfn (p : Int32) : Nat → Nat
  | 0 => 0
  | k + 1 => nfn p k + (if pof p k = 0 then 1 else 0)
theorem nfn_s (p : Int32) (k : Nat) : nfn p (k + 1) = nfn p k + (if pof p k = 0 then 1 else 0) := rfl
theorem nfn_mono (p : Int32) {j : Nat} : ∀ (k : Nat), j ≤ k → nfn p j ≤ nfn p k
  | 0, h => by
    have : j = 0 := by omega
    subst this
    exact Nat.le_refl _
  | k + 1, h => by
    by_cases c : j = k + 1
    · subst c; exact Nat.le_refl _
    · have := nfn_mono p k (show j ≤ k by omega)
      rw [nfn_s]
      omega
theorem nfn_le (p : Int32) : ∀ (k : Nat), nfn p k ≤ k
  | 0 => Nat.le_refl _
  | k + 1 => by
    have := nfn_le p k
    rw [nfn_s]
    split <;> omega
theorem nfn_free {p : Int32} {k E : Nat} (hk : k < E) (h : pof p k = 0) : nfn p k + 1 ≤ nfn p E := by
  have := nfn_mono p E (show k + 1 ≤ E from hk)
  rw [nfn_s, if_pos h] at this
  exact this
theorem nfn_put {p p' : Int32} {k : Nat} (h0 : pof p k = 0) (h1 : pof p' k ≠ 0) : ∀ (n : Nat), (∀ x, x < n → x ≠ k → pof p' x = pof p x) → nfn p n = nfn p' n + (if k < n then 1 else 0)
  | 0, _ => rfl
  | n + 1, h => by
    have i := nfn_put h0 h1 n (fun x hx ne => h x (by omega) ne)
    rw [nfn_s, nfn_s]
    by_cases c : k = n
    · subst c
      rw [if_pos h0, if_neg h1, if_pos (Nat.lt_succ_self k)]
      rw [if_neg (Nat.lt_irrefl k)] at i
      omega
    · rw [h n (by omega) (fun q => c q.symm)]
      by_cases l : k < n
      · rw [if_pos l] at i
        rw [if_pos (show k < n + 1 by omega)]
        omega
      · rw [if_neg l] at i
        rw [if_neg (show ¬ k < n + 1 by omega)]
        omega
def fa : Nat → Nat
  | 0 => 1
  | n + 1 => (n + 1) * fa n
theorem fa_pos : ∀ n, 0 < fa n
  | 0 => Nat.zero_lt_one
  | n + 1 => Nat.mul_pos (Nat.succ_pos n) (fa_pos n)
theorem fa_mono : ∀ {m : Nat} (n : Nat), m ≤ n → fa m ≤ fa n
  | m, 0, h => by
    have : m = 0 := by omega
    subst this
    exact Nat.le_refl _
  | m, n + 1, h => by
    by_cases c : m = n + 1
    · subst c; exact Nat.le_refl _
    · have := fa_mono n (show m ≤ n by omega)
      have k := Nat.le_mul_of_pos_left (fa n) (Nat.succ_pos n)
      have e : fa (n + 1) = (n + 1) * fa n := rfl
      rw [e]
      exact Nat.le_trans this k
section
variable (T0 : tT) (S E : Nat) (o : Nat → Nat) (pa pb : Nat) (a b e g cB : Nat) (whB : Nat → Int32) (woB : Nat → Int64)
def wP : Nat → Nat → Bool := wl [87, 88, 89, 90, 91, 92] [(85, 3), (85, 4), (85, 5), (85, 6), (85, 7), (85, 8)]
/-- the planner's heap while a day is given -/
def HP (T : tT) (c0 : Nat) : Prop := fr wP T0 T ∧ PL T a b e g ∧ (T.1 85 4).toInt = cB ∧ (T.1 85 3).toInt = c0 ∧ T.1 b = whB ∧ T.2.1 g = woB ∧ (∀ q, q < S → T.1 88 q = nI (o q)) ∧ (∀ s x, s < S → x < E → alw T0 T s x)
def rpP (f : Nat → Nat) (k : Nat) (p : Int32) : Prop := ∀ x, x < E → (∃ q, pa ≤ q ∧ q < k ∧ f (o q) = x ∧ pof p x = nI (pl T0 (o q) + 1)) ∨ ((∀ q, pa ≤ q → q < k → f (o q) ≠ x) ∧ pof p x = 0)
def csP (f : Nat → Nat) (k : Nat) : Int := sg k (fun q => if pa ≤ q then kst T0 (f (o q)) (o q) else 0)
def EX (f : Nat → Nat) (k : Nat) (h : Nat → Nat) : Prop := (∀ q, pa ≤ q → q < k → h (o q) = f (o q)) ∧ (∀ q, k ≤ q → q < pb → h (o q) < E ∧ v_X11_mayTake T0 (nI (h (o q))) (nI (o q)) ≠ 0 ∧ ∀ q', pa ≤ q' → q' < q → h (o q') ≠ h (o q))
def good (h : Nat → Nat) (v : Int) (p : Int32) (w : Int64) : Prop := rpP T0 E o pa h pb p ∧ isMn cB woB (fun j => svv T0 E (whB j) p) v ∧ w.toInt = v + csP T0 o pa h pb
def NW (X : (Nat → Nat) → Prop) (T : tT) (c0 c1 : Nat) : Prop := (∀ i, c0 ≤ i → i < c1 → ∃ h v, X h ∧ good T0 E o pa pb cB whB woB h v (T.1 a i) (T.2.1 e i)) ∧ (∀ h, X h → ∃ i v, c0 ≤ i ∧ i < c1 ∧ good T0 E o pa pb cB whB woB h v (T.1 a i) (T.2.1 e i))
end
theorem NW_join {T0 : tT} {E : Nat} {o : Nat → Nat} {pa pb a e cB : Nat} {whB : Nat → Int32} {woB : Nat → Int64} {X Y Z : (Nat → Nat) → Prop} {T T' : tT} {c0 c1 c2 : Nat} (h1 : NW T0 E o pa pb a e cB whB woB X T c0 c1) (h2 : NW T0 E o pa pb a e cB whB woB Y T' c1 c2) (l1 : c0 ≤ c1) (l2 : c1 ≤ c2) (hk : ∀ i, i < c1 → T'.1 a i = T.1 a i ∧ T'.2.1 e i = T.2.1 e i) (hZ : ∀ h, Z h ↔ X h ∨ Y h) : NW T0 E o pa pb a e cB whB woB Z T' c0 c2 := by
  refine ⟨fun i i0 i2 => ?_, fun h hz => ?_⟩
  · by_cases c : i < c1
    · obtain ⟨h, v, x1, x2⟩ := h1.1 i i0 c
      rw [← (hk i c).1, ← (hk i c).2] at x2
      exact ⟨h, v, (hZ h).mpr (Or.inl x1), x2⟩
    · obtain ⟨h, v, x1, x2⟩ := h2.1 i (by omega) i2
      exact ⟨h, v, (hZ h).mpr (Or.inr x1), x2⟩
  · rcases (hZ h).mp hz with q | q
    · obtain ⟨i, v, i1, i2, i3⟩ := h1.2 h q
      rw [← (hk i i2).1, ← (hk i i2).2] at i3
      exact ⟨i, v, i1, by omega, i3⟩
    · obtain ⟨i, v, i1, i2, i3⟩ := h2.2 h q
      exact ⟨i, v, by omega, i2, i3⟩
theorem NW_cg {T0 : tT} {E : Nat} {o : Nat → Nat} {pa pb a e cB : Nat} {whB : Nat → Int32} {woB : Nat → Int64} {X Z : (Nat → Nat) → Prop} {T : tT} {c0 c1 : Nat} (h1 : NW T0 E o pa pb a e cB whB woB X T c0 c1) (hZ : ∀ h, Z h ↔ X h) : NW T0 E o pa pb a e cB whB woB Z T c0 c1 :=
  ⟨fun i i0 i2 => by obtain ⟨h, v, x1, x2⟩ := h1.1 i i0 i2; exact ⟨h, v, (hZ h).mpr x1, x2⟩, fun h hz => h1.2 h ((hZ h).mp hz)⟩
theorem csP_s {T0 : tT} {o : Nat → Nat} {pa k : Nat} {f : Nat → Nat} (h : pa ≤ k) : csP T0 o pa f (k + 1) = csP T0 o pa f k + kst T0 (f (o k)) (o k) := by
  show sg k _ + (if pa ≤ k then kst T0 (f (o k)) (o k) else 0) = _
  rw [if_pos h]
  rfl
theorem csP_cg {T0 : tT} {o : Nat → Nat} {pa k : Nat} {f h : Nat → Nat} (e : ∀ q, pa ≤ q → q < k → h (o q) = f (o q)) : csP T0 o pa h k = csP T0 o pa f k := by
  unfold csP
  apply sg_cg
  intro q hq
  by_cases c : pa ≤ q
  · rw [if_pos c, if_pos c, e q c hq]
  · rw [if_neg c, if_neg c]
theorem rpP_cg {T0 : tT} {E : Nat} {o : Nat → Nat} {pa k : Nat} {f h : Nat → Nat} {p : Int32} (e : ∀ q, pa ≤ q → q < k → h (o q) = f (o q)) (r : rpP T0 E o pa f k p) : rpP T0 E o pa h k p := by
  intro x hx
  rcases r x hx with ⟨q, q1, q2, q3, q4⟩ | ⟨q1, q2⟩
  · exact Or.inl ⟨q, q1, q2, by rw [e q q1 q2]; exact q3, q4⟩
  · exact Or.inr ⟨fun q h1 h2 => by rw [e q h1 h2]; exact q1 q h1 h2, q2⟩
/-- what the planner's heap has in common with the start -/
theorem wP_fz {T0 T : tT} (f : fr wP T0 T) : ICi T0 → ICi T ∧ T.1 79 0 = T0.1 79 0 ∧ T.1 79 1 = T0.1 79 1 ∧ T.1 79 2 = T0.1 79 2 ∧ T.1 80 = T0.1 80 ∧ T.1 82 = T0.1 82 ∧ T.1 83 = T0.1 83 ∧ T.1 84 = T0.1 84 ∧ fz cMt.1 cMt.2 T0 T := fun hC => ⟨ICi_fz (fz_of (A := [87, 88, 89, 90, 91, 92]) (B := [(85, 3), (85, 4), (85, 5), (85, 6), (85, 7), (85, 8)]) f rfl) hC, fr_i f (k := 79) (i := 0) rfl, fr_i f (k := 79) (i := 1) rfl, fr_i f (k := 79) (i := 2) rfl, fr_ri f (k := 80) (fun _ => rfl), fr_ri f (k := 82) (fun _ => rfl), fr_ri f (k := 83) (fun _ => rfl), fr_ri f (k := 84) (fun _ => rfl), fz_of (A := [87, 88, 89, 90, 91, 92]) (B := [(85, 3), (85, 4), (85, 5), (85, 6), (85, 7), (85, 8)]) f rfl⟩
theorem svv_T {T0 T : tT} (h1 : T.1 80 = T0.1 80) (h2 : T.1 84 = T0.1 84) : svv T = svv T0 := by
  funext E p q
  unfold svv stm wy hm
  rw [h1, h2]
theorem okp_T {T0 T : tT} (h1 : T.1 79 0 = T0.1 79 0) : okp T = okp T0 := by
  funext E p
  unfold okp
  rw [h1]
theorem kst_T {T0 T : tT} (h1 : T.1 80 = T0.1 80) (h2 : T.1 82 = T0.1 82) (h3 : T.1 84 = T0.1 84) : kst T = kst T0 := by
  funext x s
  unfold kst wy hm pl
  rw [h1, h2, h3]
theorem rpP_okp {T0 : tT} (hC : ICi T0) {S E : Nat} (hS : (T0.1 79 2).toInt = S) (S9 : S ≤ 9) {o : Nat → Nat} (hO : Ord T0 S o) {pa k : Nat} (hk : k ≤ S) {f : Nat → Nat} {p : Int32} (r : rpP T0 E o pa f k p) : okp T0 E p := by
  intro x hx
  rcases r x hx with ⟨q, q1, q2, q3, q4⟩ | ⟨q1, q2⟩
  · have os := hO.1 q (by omega)
    refine Or.inr ⟨pl T0 (o q), ?_, (pl_lt hC (o q)).2, q4⟩
    have e : (nI (o q)).toInt = o q := nI_toInt (by omega)
    have := hC.2.2.2.2.2.2.2.2.1 (nI (o q)) (by rw [tle, e, show (0 : Int32).toInt = 0 from rfl]; omega) (by rw [tlt, e]; omega)
    rw [tnN e, tlt, (pl_lt hC (o q)).1] at this
    exact this
  · exact Or.inl q2
theorem csP_rg {T0 : tT} (hC : ICi T0) {o : Nat → Nat} {S pa k : Nat} (S9 : S ≤ 9) {f : Nat → Nat} (ho : ∀ q, q < S → o q < S) (hk : k ≤ S) (hf : ∀ q, pa ≤ q → q < k → f (o q) < 5) : 0 ≤ csP T0 o pa f k ∧ csP T0 o pa f k ≤ 2000000000000 := by
  unfold csP
  have := sg_bd (f := fun q => if pa ≤ q then kst T0 (f (o q)) (o q) else 0) (a := 0) (b := 200000000000) k (fun q hq => by
    try dsimp only
    split
    · rename_i c
      have h1 := hf q c hq
      have h2 := ho q (by omega)
      obtain ⟨_, k2, k3, _⟩ := e_cost (sz := 0) hC (x := f (o q)) (s := o q) h1 (by omega)
      exact ⟨k2, k3⟩
    · omega)
  omega
