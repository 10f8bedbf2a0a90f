/-! leaves of rules, on rows alone -/
def nIn (f : Nat → Int64) (b k n : Nat) (x : Int64) : Bool := (List.range' k n).any (fun i => f (b + i) == x)
theorem nIn_0 {f : Nat → Int64} {b k : Nat} {x : Int64} : nIn f b k 0 x = false := rfl
theorem nIn_s {f : Nat → Int64} {b k n : Nat} {x : Int64} : nIn f b k (n + 1) x = (f (b + k) == x || nIn f b (k + 1) n x) := by
  unfold nIn
  rw [List.range'_succ, List.any_cons]
/-- the name x is in list l of the grade at g -/
def inL (T : tT) (g l : Nat) (x : Int64) : Bool := nIn (T.2.1 (g + 3)) (12 * l) 0 (T.1 (g + 2) l).toNatClampNeg x
def inA (T : tT) (g k n : Nat) (x : Int64) : Bool := (List.range' k n).any (fun l => inL T g l x)
theorem inA_s {T : tT} {g k n : Nat} {x : Int64} : inA T g k (n + 1) x = (inL T g k x || inA T g (k + 1) n x) := by
  unfold inA
  rw [List.range'_succ, List.any_cons]
def cLi (T : tT) (g e l k n : Nat) : Nat := (List.range' k n).countP (fun i => inL T g l (T.2.1 78 (4 * e + i)))
def cOw (T : tT) (g e k n : Nat) : Nat := (List.range' k n).countP (fun i => !inA T g 0 (T.1 g 1).toNatClampNeg (T.2.1 78 (4 * e + i)))
theorem cLi_s {T : tT} {g e l k n : Nat} : cLi T g e l k (n + 1) = (if inL T g l (T.2.1 78 (4 * e + k)) = true then 1 else 0) + cLi T g e l (k + 1) n := by
  unfold cLi
  rw [List.range'_succ, List.countP_cons, Nat.add_comm]
theorem cOw_s {T : tT} {g e k n : Nat} : cOw T g e k (n + 1) = (if inA T g 0 (T.1 g 1).toNatClampNeg (T.2.1 78 (4 * e + k)) = true then 0 else 1) + cOw T g e (k + 1) n := by
  unfold cOw
  rw [List.range'_succ, List.countP_cons, Nat.add_comm]
  cases inA T g 0 (T.1 g 1).toNatClampNeg (T.2.1 78 (4 * e + k)) <;> rfl
theorem cLi_le {T : tT} {g e l k n : Nat} : cLi T g e l k n ≤ n := by
  unfold cLi
  exact Nat.le_trans List.countP_le_length (by rw [List.length_range']; exact Nat.le_refl _)
theorem cOw_le {T : tT} {g e k n : Nat} : cOw T g e k n ≤ n := by
  unfold cOw
  exact Nat.le_trans List.countP_le_length (by rw [List.length_range']; exact Nat.le_refl _)
def tot (f : Nat → Int32) : Nat → Nat → Int32 → Int32
  | _, 0, a => a
  | k, n + 1, a => tot f (k + 1) n (a + f k)
def lea (f : Nat → Int32) : Nat → Nat → Int32 → Int32
  | _, 0, a => a
  | k, n + 1, a => lea f (k + 1) n (if f k < a then f k else a)
theorem tix12 {x y : Int32} {l k : Nat} (hx : x.toInt = l) (hl : l < 240) (hy : y.toInt = k) (hk : k < 12) : (x * 12 + y).toInt = (12 * l + k : Nat) ∧ (12 * x + y).toInt = (12 * l + k : Nat) := by
  have z : (12 : Int32).toInt = 12 := rfl
  have m : (x * 12).toInt = 12 * l := by rw [tmul (by rw [z]; omega) (by rw [z]; omega), z]; omega
  rw [show (12 : Int32) * x = x * 12 from Int32.mul_comm ..]
  rw [tadd (by omega) (by omega)]
  omega
theorem tix4' {x y : Int32} {e k : Nat} (hx : x.toInt = e) (hl : e < 40) (hy : y.toInt = k) (hk : k < 4) : (x * 4 + y).toInt = (4 * e + k : Nat) ∧ (4 * x + y).toInt = (4 * e + k : Nat) := by
  have z : (4 : Int32).toInt = 4 := rfl
  have m : (x * 4).toInt = 4 * e := by rw [tmul (by rw [z]; omega) (by rw [z]; omega), z]; omega
  rw [show (4 : Int32) * x = x * 4 from Int32.mul_comm ..]
  rw [tadd (by omega) (by omega)]
  omega
def b2i (b : Bool) : Int32 := if b = true then 1 else 0
theorem l_isListed {sz : Nat} {T : tT} {g : Nat} {v1 : Int32} {l : Nat} (x : Int64) (hl : v1.toInt = l) (l6 : l < 6) {N : Nat} (hN : (T.1 (g + 2) l).toInt = N) (N12 : N ≤ 12) : ∀ (m n k : Nat) (v : Int32), v.toInt = k → k + m = N → m < n → vl_X3_isListed n T g v1 x v = b2i (nIn (T.2.1 (g + 3)) (12 * l) k m x) ∧ okl_X3_isListed n sz T g v1 x v := by
  have vl : vp_in v1 6 := by rw [vp_in_iff]; omega
  intro m
  induction m with
  | zero =>
    intro n k v hv hk hn
    obtain ⟨n, rfl⟩ : ∃ n', n = n' + 1 := ⟨n - 1, by omega⟩
    have c : T.1 (g + 2) v1.toNatClampNeg ≤ v := by rw [tnN hl, tle]; omega
    rw [vl_X3_isListed_s, if_pos c]
    simp only [okl_X3_isListed]
    exact ⟨rfl, vl, fun _ => trivial, fun q => absurd c q⟩
  | succ m ih =>
    intro n k v hv hk hn
    obtain ⟨n, rfl⟩ : ∃ n', n = n' + 1 := ⟨n - 1, by omega⟩
    have c : ¬ T.1 (g + 2) v1.toNatClampNeg ≤ v := by rw [tnN hl, tle]; omega
    have ix := (tix12 hl (by omega) hv (by omega)).1
    have vi : vp_in (v1 * 12 + v) 72 := by rw [vp_in_iff]; omega
    obtain ⟨u1, u2⟩ := ih n (k + 1) (v + 1) (by rw [tinc' (by omega)]; omega) (by omega) (by omega)
    rw [vl_X3_isListed_s, if_neg c, tnN ix, nIn_s, u1]
    simp only [okl_X3_isListed]
    rw [tnN ix]
    constructor
    · by_cases d : T.2.1 (g + 3) (12 * l + k) = x
      · rw [if_pos d, show (T.2.1 (g + 3) (12 * l + k) == x) = true from beq_iff_eq.mpr d]
        rfl
      · rw [if_neg d, show (T.2.1 (g + 3) (12 * l + k) == x) = false from beq_false_of_ne d]
        rfl
    · exact ⟨vl, fun q => absurd q c, fun _ => ⟨vi, fun _ => u2, fun _ => trivial⟩⟩
theorem l_hasPiece {sz : Nat} {T : tT} {v1 : Int32} {l : Nat} (x : Int64) (hl : v1.toInt = l) (l6 : l < 240) {N : Nat} (hN : (T.1 112 l).toInt = N) (N12 : N ≤ 12) : ∀ (m n k : Nat) (v : Int32), v.toInt = k → k + m = N → m < n → vl_X11_hasPiece n T v1 x v = b2i (nIn (T.2.1 127) (12 * l) k m x) ∧ okl_X11_hasPiece n sz T v1 x v := by
  have vl : vp_in v1 240 := by rw [vp_in_iff]; omega
  intro m
  induction m with
  | zero =>
    intro n k v hv hk hn
    obtain ⟨n, rfl⟩ : ∃ n', n = n' + 1 := ⟨n - 1, by omega⟩
    have c : T.1 112 v1.toNatClampNeg ≤ v := by rw [tnN hl, tle]; omega
    rw [vl_X11_hasPiece_s, if_pos c]
    simp only [okl_X11_hasPiece]
    exact ⟨rfl, vl, fun _ => trivial, fun q => absurd c q⟩
  | succ m ih =>
    intro n k v hv hk hn
    obtain ⟨n, rfl⟩ : ∃ n', n = n' + 1 := ⟨n - 1, by omega⟩
    have c : ¬ T.1 112 v1.toNatClampNeg ≤ v := by rw [tnN hl, tle]; omega
    have ix := (tix12 hl (by omega) hv (by omega)).2
    have vi : vp_in (12 * v1 + v) 2880 := by rw [vp_in_iff]; omega
    obtain ⟨u1, u2⟩ := ih n (k + 1) (v + 1) (by rw [tinc' (by omega)]; omega) (by omega) (by omega)
    rw [vl_X11_hasPiece_s, if_neg c, tnN ix, nIn_s, u1]
    simp only [okl_X11_hasPiece]
    rw [tnN ix]
    constructor
    · by_cases d : T.2.1 127 (12 * l + k) = x
      · rw [if_pos d, show (T.2.1 127 (12 * l + k) == x) = true from beq_iff_eq.mpr d]
        rfl
      · rw [if_neg d, show (T.2.1 127 (12 * l + k) == x) = false from beq_false_of_ne d]
        rfl
    · exact ⟨vl, fun q => absurd q c, fun _ => ⟨vi, fun _ => u2, fun _ => trivial⟩⟩
/-- what leaves read of a grade -/
def gSz (T : tT) (g : Nat) : Prop := (0 ≤ T.1 g 1 ∧ T.1 g 1 ≤ 6) ∧ ∀ l : Nat, (l : Int) < (T.1 g 1).toInt → 0 ≤ T.1 (g + 2) l ∧ T.1 (g + 2) l ≤ 12
theorem gSz_n {T : tT} {g l : Nat} (h : gSz T g) (hl : (l : Int) < (T.1 g 1).toInt) : ∃ N : Nat, (T.1 (g + 2) l).toInt = N ∧ N ≤ 12 ∧ (T.1 (g + 2) l).toNatClampNeg = N ∧ l < 6 := by
  obtain ⟨h1, h2⟩ := h.2 l hl
  have a1 : 0 ≤ (T.1 (g + 2) l).toInt := tle.mp h1
  have a2 : (T.1 (g + 2) l).toInt ≤ 12 := tle.mp h2
  have a3 : (T.1 g 1).toInt ≤ 6 := tle.mp h.1.2
  refine ⟨(T.1 (g + 2) l).toInt.toNat, by omega, by omega, rfl, by omega⟩
theorem e_isListed {sz : Nat} {T : tT} {g : Nat} (h : gSz T g) {v1 : Int32} {l : Nat} (x : Int64) (hl : v1.toInt = l) (hl2 : (l : Int) < (T.1 g 1).toInt) : v_X3_isListed T g v1 x = b2i (inL T g l x) ∧ ok_X3_isListed sz T g v1 x := by
  obtain ⟨N, n1, n2, n3, n4⟩ := gSz_n h hl2
  obtain ⟨u1, u2⟩ := l_isListed (sz := sz) x hl n4 n1 n2 N fu 0 0 rfl (by omega) (by rw [fu_eq]; omega)
  have c0 : ¬ v1 < 0 := by rw [tlt, hl, show (0 : Int32).toInt = 0 from rfl]; omega
  have c1 : v1 < T.1 g 1 := by rw [tlt]; omega
  unfold v_X3_isListed ok_X3_isListed inL
  rw [if_neg c0, if_pos c1, n3]
  exact ⟨u1, fun q => absurd q c0, fun _ => ⟨fun _ => u2, fun q => absurd c1 q⟩⟩
theorem l_any {sz : Nat} {T : tT} {g : Nat} (h : gSz T g) (x : Int64) {L : Nat} (hL : (T.1 g 1).toInt = L) : ∀ (n : Nat), (∀ (m k : Nat) (v : Int32), v.toInt = k → k + m = L → m * 14 < n → (vl_X3_isListedAnywhere n).1 T g x v = b2i (inA T g k m x) ∧ (okl_X3_isListedAnywhere n).1 sz T g x v) ∧ (∀ (m k : Nat) (v : Int32) (m2 i : Nat) (w : Int32) (N : Nat), v.toInt = k → k + m + 1 = L → (T.1 (g + 2) k).toInt = N → w.toInt = i → i + m2 = N → m * 14 + m2 + 1 < n → (vl_X3_isListedAnywhere n).2 T g x v w = b2i (nIn (T.2.1 (g + 3)) (12 * k) i m2 x || inA T g (k + 1) m x) ∧ (okl_X3_isListedAnywhere n).2 sz T g x v w) := by
  intro n
  have a3 : (T.1 g 1).toInt ≤ 6 := tle.mp h.1.2
  induction n with
  | zero => exact ⟨fun m k v h1 h2 h3 => by omega, fun m k v m2 i w N h1 h2 h3 h4 h5 h6 => by omega⟩
  | succ n ih =>
    refine ⟨fun m k v hv hk hn => ?_, fun m k v m2 i w N hv hk hN hw hi hn => ?_⟩
    · rw [vl_X3_isListedAnywhere_s0, okl_X3_isListedAnywhere_s0]
      cases m with
      | zero =>
        have c : T.1 g 1 ≤ v := by rw [tle]; omega
        rw [if_pos c]
        exact ⟨rfl, fun _ => trivial, fun q => absurd c q⟩
      | succ m =>
        have c : ¬ T.1 g 1 ≤ v := by rw [tle]; omega
        obtain ⟨N, n1, n2, n3, n4⟩ := gSz_n h (l := k) (by omega)
        obtain ⟨u1, u2⟩ := ih.2 m k v N 0 0 N hv (by omega) n1 rfl (by omega) (by omega)
        rw [if_neg c, u1, inA_s]
        unfold inL
        rw [n3]
        exact ⟨rfl, fun _ => trivial, fun _ => u2⟩
    · rw [vl_X3_isListedAnywhere_s1, okl_X3_isListedAnywhere_s1, tnN hv]
      have v6 : vp_in v 6 := by rw [vp_in_iff]; omega
      obtain ⟨N', n1, n2, n3, n4⟩ := gSz_n h (l := k) (by omega)
      have eN : N = N' := by omega
      subst eN
      cases m2 with
      | zero =>
        have c : T.1 (g + 2) k ≤ w := by rw [tle]; omega
        obtain ⟨u1, u2⟩ := ih.1 m (k + 1) (v + 1) (by rw [tinc' (by omega)]; omega) (by omega) (by omega)
        rw [if_pos c, u1, nIn_0, Bool.false_or]
        exact ⟨rfl, v6, fun _ => u2, fun q => absurd c q⟩
      | succ m2 =>
        have c : ¬ T.1 (g + 2) k ≤ w := by rw [tle]; omega
        have ix := (tix12 hv (by omega) hw (by omega)).1
        have vi : vp_in (v * 12 + w) 72 := by rw [vp_in_iff]; omega
        obtain ⟨u1, u2⟩ := ih.2 m k v m2 (i + 1) (w + 1) N hv hk hN (by rw [tinc' (by omega)]; omega) (by omega) (by omega)
        rw [if_neg c, tnN ix, nIn_s, u1]
        constructor
        · by_cases d : T.2.1 (g + 3) (12 * k + i) = x
          · rw [if_pos d, show (T.2.1 (g + 3) (12 * k + i) == x) = true from beq_iff_eq.mpr d]
            rfl
          · rw [if_neg d, show (T.2.1 (g + 3) (12 * k + i) == x) = false from beq_false_of_ne d]
            rfl
        · exact ⟨v6, fun q => absurd q c, fun _ => ⟨vi, fun _ => u2, fun _ => trivial⟩⟩
theorem e_any {sz : Nat} {T : tT} {g : Nat} (h : gSz T g) (x : Int64) : v_X3_isListedAnywhere T g x = b2i (inA T g 0 (T.1 g 1).toNatClampNeg x) ∧ ok_X3_isListedAnywhere sz T g x := by
  have a1 : 0 ≤ (T.1 g 1).toInt := tle.mp h.1.1
  have a3 : (T.1 g 1).toInt ≤ 6 := tle.mp h.1.2
  have e : (T.1 g 1).toInt = ((T.1 g 1).toNatClampNeg : Nat) := by rw [tncd]; omega
  exact (l_any h x e fu).1 _ 0 0 rfl (by omega) (by rw [fu_eq]; omega)
theorem b2i_0 {b : Bool} : b2i b = 0 ↔ ¬ b = true := by
  unfold b2i
  cases b <;> decide
theorem nI_i {n : Nat} (h : n < 1000) : (nI n).toInt = n := nI_toInt (by omega)
theorem l_cLi {sz : Nat} {T : tT} {g : Nat} (h : gSz T g) {ev lv : Int32} {e l : Nat} (he : ev.toInt = e) (e40 : e < 40) (hl : lv.toInt = l) (hl2 : (l : Int) < (T.1 g 1).toInt) {N : Nat} (hN : (T.1 77 e).toInt = N) (N4 : N ≤ 4) : ∀ (m n k a : Nat) (v av : Int32), v.toInt = k → k + m = N → m < n → av.toInt = a → a + m ≤ 4 → vl_X2_countListed n T g ev lv av v = nI (a + cLi T g e l k m) ∧ okl_X2_countListed n sz T g ev lv av v := by
  have ve : vp_in ev 40 := by rw [vp_in_iff]; omega
  intro m
  induction m with
  | zero =>
    intro n k a v av hv hk hn ha ha4
    obtain ⟨n, rfl⟩ : ∃ n', n = n' + 1 := ⟨n - 1, by omega⟩
    have c : T.1 77 ev.toNatClampNeg ≤ v := by rw [tnN he, tle]; omega
    rw [vl_X2_countListed_s, if_pos c]
    simp only [okl_X2_countListed]
    refine ⟨?_, ve, fun _ => trivial, fun q => absurd c q⟩
    rw [teq, ha, nI_i (by unfold cLi; simp; omega)]
    unfold cLi
    simp
  | succ m ih =>
    intro n k a v av hv hk hn ha ha4
    obtain ⟨n, rfl⟩ : ∃ n', n = n' + 1 := ⟨n - 1, by omega⟩
    have c : ¬ T.1 77 ev.toNatClampNeg ≤ v := by rw [tnN he, tle]; omega
    have ix := (tix4' he e40 hv (by omega)).1
    have vi : vp_in (ev * 4 + v) 160 := by rw [vp_in_iff]; omega
    obtain ⟨w1, w2⟩ := e_isListed (sz := sz) h (T.2.1 78 (4 * e + k)) hl hl2
    rw [vl_X2_countListed_s, if_neg c, tnN ix, w1]
    simp only [okl_X2_countListed]
    rw [tnN ix, w1, cLi_s]
    by_cases d : inL T g l (T.2.1 78 (4 * e + k)) = true
    · obtain ⟨u1, u2⟩ := ih n (k + 1) (a + 1) (v + 1) (av + 1) (by rw [tinc' (by omega)]; omega) (by omega) (by omega) (by rw [tinc' (by omega)]; omega) (by omega)
      rw [if_neg (fun q => (b2i_0.mp q) d), u1, if_pos d, ← Nat.add_assoc]
      exact ⟨rfl, ve, fun q => absurd q c, fun _ => ⟨vi, w2, fun q => absurd d (b2i_0.mp q), fun _ => u2⟩⟩
    · obtain ⟨u1, u2⟩ := ih n (k + 1) a (v + 1) (av + 0) (by rw [tinc' (by omega)]; omega) (by omega) (by omega) (by rw [Int32.add_zero]; exact ha) (by omega)
      rw [if_pos (b2i_0.mpr d), u1, if_neg d, Nat.zero_add]
      exact ⟨rfl, ve, fun q => absurd q c, fun _ => ⟨vi, w2, fun _ => u2, fun q => absurd (b2i_0.mpr d) q⟩⟩
theorem l_cOw {sz : Nat} {T : tT} {g : Nat} (h : gSz T g) {ev : Int32} {e : Nat} (he : ev.toInt = e) (e40 : e < 40) {N : Nat} (hN : (T.1 77 e).toInt = N) (N4 : N ≤ 4) : ∀ (m n k a : Nat) (v av : Int32), v.toInt = k → k + m = N → m < n → av.toInt = a → a + m ≤ 4 → vl_X2_countOwn n T g ev av v = nI (a + cOw T g e k m) ∧ okl_X2_countOwn n sz T g ev av v := by
  have ve : vp_in ev 40 := by rw [vp_in_iff]; omega
  intro m
  induction m with
  | zero =>
    intro n k a v av hv hk hn ha ha4
    obtain ⟨n, rfl⟩ : ∃ n', n = n' + 1 := ⟨n - 1, by omega⟩
    have c : T.1 77 ev.toNatClampNeg ≤ v := by rw [tnN he, tle]; omega
    rw [vl_X2_countOwn_s, if_pos c]
    simp only [okl_X2_countOwn]
    refine ⟨?_, ve, fun _ => trivial, fun q => absurd c q⟩
    rw [teq, ha, nI_i (by unfold cOw; simp; omega)]
    unfold cOw
    simp
  | succ m ih =>
    intro n k a v av hv hk hn ha ha4
    obtain ⟨n, rfl⟩ : ∃ n', n = n' + 1 := ⟨n - 1, by omega⟩
    have c : ¬ T.1 77 ev.toNatClampNeg ≤ v := by rw [tnN he, tle]; omega
    have ix := (tix4' he e40 hv (by omega)).1
    have vi : vp_in (ev * 4 + v) 160 := by rw [vp_in_iff]; omega
    obtain ⟨w1, w2⟩ := e_any (sz := sz) h (T.2.1 78 (4 * e + k))
    rw [vl_X2_countOwn_s, if_neg c, tnN ix, w1]
    simp only [okl_X2_countOwn]
    rw [tnN ix, w1, cOw_s]
    by_cases d : inA T g 0 (T.1 g 1).toNatClampNeg (T.2.1 78 (4 * e + k)) = true
    · obtain ⟨u1, u2⟩ := ih n (k + 1) a (v + 1) (av + 0) (by rw [tinc' (by omega)]; omega) (by omega) (by omega) (by rw [Int32.add_zero]; exact ha) (by omega)
      rw [if_neg (fun q => (b2i_0.mp q) d), u1, if_pos d, Nat.zero_add]
      exact ⟨rfl, ve, fun q => absurd q c, fun _ => ⟨vi, w2, fun q => absurd d (b2i_0.mp q), fun _ => u2⟩⟩
    · obtain ⟨u1, u2⟩ := ih n (k + 1) (a + 1) (v + 1) (av + 1) (by rw [tinc' (by omega)]; omega) (by omega) (by omega) (by rw [tinc' (by omega)]; omega) (by omega)
      rw [if_pos (b2i_0.mpr d), u1, if_neg d, ← Nat.add_assoc]
      exact ⟨rfl, ve, fun q => absurd q c, fun _ => ⟨vi, w2, fun _ => u2, fun q => absurd (b2i_0.mpr d) q⟩⟩
