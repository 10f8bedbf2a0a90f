/-! leaves of rules, the reference's -/
theorem nIn_cg {f f' : Nat → Int64} {b b' : Nat} {x : Int64} : ∀ (n k : Nat), (∀ i, k ≤ i → i < k + n → f (b + i) = f' (b' + i)) → nIn f b k n x = nIn f' b' k n x := by
  intro n
  induction n with
  | zero => intro k h; rfl
  | succ n ih =>
    intro k h
    rw [nIn_s, nIn_s, h k (Nat.le_refl _) (by omega), ih (k + 1) (fun i h1 h2 => h i (by omega) (by omega))]
/-- the lists of a grade stand in both -/
def gLs (T : tT) (g h : Nat) : Prop := T.1 g 1 = T.1 111 h ∧ ∀ l : Nat, (l : Int) < (T.1 g 1).toInt → T.1 (g + 2) l = T.1 112 (6 * h + l) ∧ ∀ k : Nat, (k : Int) < (T.1 (g + 2) l).toInt → T.2.1 (g + 3) (12 * l + k) = T.2.1 127 (12 * (6 * h + l) + k)
theorem e_hasPiece {sz : Nat} {T : tT} {g h : Nat} (hs : gSz T g) (hr : gLs T g h) (h40 : h < 40) {w : Int32} {l : Nat} (x : Int64) (hw : w.toInt = (6 * h + l : Nat)) (hl2 : (l : Int) < (T.1 g 1).toInt) : v_X11_hasPiece T w x = b2i (inL T g l x) ∧ ok_X11_hasPiece sz T w x := by
  obtain ⟨N, n1, n2, n3, n4⟩ := gSz_n hs hl2
  obtain ⟨r1, r2⟩ := hr.2 l hl2
  obtain ⟨u1, u2⟩ := l_hasPiece (sz := sz) x hw (by omega) (N := N) (by rw [← r1]; exact n1) n2 N fu 0 0 rfl (by omega) (by rw [fu_eq]; omega)
  refine ⟨?_, u2⟩
  unfold v_X11_hasPiece inL
  rw [u1, n3, nIn_cg (f := T.2.1 127) (f' := T.2.1 (g + 3)) (b' := 12 * l)]
  intro i _ hi
  rw [r2 i (by omega)]
theorem tix6 {x y : Int32} {l k : Nat} (hx : x.toInt = l) (hl : l < 40) (hy : y.toInt = k) (hk : k < 6) : (6 * x + y).toInt = (6 * l + k : Nat) := by
  have z : (6 : Int32).toInt = 6 := rfl
  have m : (6 * x).toInt = 6 * l := by rw [tmul (by rw [z]; omega) (by rw [z]; omega), z]; omega
  rw [tadd (by omega) (by omega)]
  omega
theorem l_inList {sz : Nat} {T : tT} {g h : Nat} (hs : gSz T g) (hr : gLs T g h) (h40 : h < 40) (r77 : T.1 137 = T.1 77) (r78 : T.2.1 139 = T.2.1 78) {ev lv : Int32} {e l : Nat} (he : ev.toInt = e) (e40 : e < 40) (hl : lv.toInt = (6 * h + l : Nat)) (hl2 : (l : Int) < (T.1 g 1).toInt) {N : Nat} (hN : (T.1 77 e).toInt = N) (N4 : N ≤ 4) : ∀ (m n k a : Nat) (v av : Int32), v.toInt = k → k + m = N → m < n → av.toInt = a → a + m ≤ 4 → vl_X11_inList n T ev lv av v = nI (a + cLi T g e l k m) ∧ okl_X11_inList n sz T ev lv av v := by
  have ve : vp_in ev 40 := by rw [vp_in_iff]; omega
  intro m
  induction m with
  | zero =>
    intro n k a v av hv hk hn ha ha4
    obtain ⟨n, rfl⟩ : ∃ n', n = n' + 1 := ⟨n - 1, by omega⟩
    have c : T.1 77 ev.toNatClampNeg ≤ v := by rw [tnN he, tle]; omega
    rw [vl_X11_inList_s, r77, if_pos c]
    simp only [okl_X11_inList]
    rw [r77]
    refine ⟨?_, ve, fun _ => trivial, fun q => absurd c q⟩
    rw [teq, ha, nI_i (by unfold cLi; simp; omega)]
    unfold cLi
    simp
  | succ m ih =>
    intro n k a v av hv hk hn ha ha4
    obtain ⟨n, rfl⟩ : ∃ n', n = n' + 1 := ⟨n - 1, by omega⟩
    have c : ¬ T.1 77 ev.toNatClampNeg ≤ v := by rw [tnN he, tle]; omega
    have ix := (tix4' he e40 hv (by omega)).2
    have vi : vp_in (4 * ev + v) 160 := by rw [vp_in_iff]; omega
    obtain ⟨w1, w2⟩ := e_hasPiece (sz := sz) hs hr h40 (T.2.1 78 (4 * e + k)) hl hl2
    rw [vl_X11_inList_s, r77, if_neg c, tnN ix, r78, w1]
    simp only [okl_X11_inList]
    rw [r77, r78, tnN ix, w1, cLi_s]
    by_cases d : inL T g l (T.2.1 78 (4 * e + k)) = true
    · obtain ⟨u1, u2⟩ := ih n (k + 1) (a + 1) (v + 1) (av + 1) (by rw [tinc' (by omega)]; omega) (by omega) (by omega) (by rw [tinc' (by omega)]; omega) (by omega)
      rw [if_neg (fun q => (b2i_0.mp q) d), u1, if_pos d, ← Nat.add_assoc]
      exact ⟨rfl, ve, fun q => absurd q c, fun _ => ⟨vi, w2, fun q => absurd d (b2i_0.mp q), fun _ => u2⟩⟩
    · obtain ⟨u1, u2⟩ := ih n (k + 1) a (v + 1) (av + 0) (by rw [tinc' (by omega)]; omega) (by omega) (by omega) (by rw [Int32.add_zero]; exact ha) (by omega)
      rw [if_pos (b2i_0.mpr d), u1, if_neg d, Nat.zero_add]
      exact ⟨rfl, ve, fun q => absurd q c, fun _ => ⟨vi, w2, fun _ => u2, fun q => absurd (b2i_0.mpr d) q⟩⟩
theorem l_none_in {sz : Nat} {T : tT} {g h : Nat} (hs : gSz T g) (hr : gLs T g h) (h40 : h < 40) (r78 : T.2.1 139 = T.2.1 78) {ev hv : Int32} {e : Nat} (he : ev.toInt = e) (e40 : e < 40) (hh : hv.toInt = h) {L : Nat} (hL : (T.1 g 1).toInt = L) {kv av : Int32} {k : Nat} (hk : kv.toInt = k) (hk4 : k < 4) : ∀ (m l : Nat) (v f : Int32), v.toInt = l → l + m = L → (f = 0 ∨ f = 1) → (∀ n, (vl_X11_inNone (n + m + 1)).2 T ev hv av kv f v = if (f = 1 ∨ inA T g l m (T.2.1 78 (4 * e + k)) = true) then (vl_X11_inNone n).1 T ev hv (av + 0) (kv + 1) else (vl_X11_inNone n).1 T ev hv (av + 1) (kv + 1)) ∧ (∀ n, (∀ a, a = 0 ∨ a = 1 → (okl_X11_inNone n).1 sz T ev hv (av + a) (kv + 1)) → (okl_X11_inNone (n + m + 1)).2 sz T ev hv av kv f v) := by
  have vh : vp_in hv 40 := by rw [vp_in_iff]; omega
  have a3 : (T.1 g 1).toInt ≤ 6 := tle.mp hs.1.2
  have ix := (tix4' he e40 hk hk4).2
  have vi : vp_in (4 * ev + kv) 160 := by rw [vp_in_iff]; omega
  intro m
  induction m with
  | zero =>
    intro l v f hl hm hf
    have c : T.1 111 hv.toNatClampNeg ≤ v := by rw [tnN hh, ← hr.1, tle]; omega
    have z : inA T g l 0 (T.2.1 78 (4 * e + k)) = false := rfl
    constructor
    · intro n
      rw [vl_X11_inNone_s1, if_pos c, z]
      rcases hf with hf | hf
      · rw [if_pos hf, if_neg (by rw [hf]; decide)]
      · rw [if_neg (by rw [hf]; decide), if_pos (Or.inl hf)]
    · intro n w
      rw [okl_X11_inNone_s1]
      exact ⟨vh, fun _ => ⟨fun _ => w 1 (Or.inr rfl), fun _ => w 0 (Or.inl rfl)⟩, fun q => absurd c q⟩
  | succ m ih =>
    intro l v f hl hm hf
    have c : ¬ T.1 111 hv.toNatClampNeg ≤ v := by rw [tnN hh, ← hr.1, tle]; omega
    have i6 := tix6 hh h40 hl (by omega)
    obtain ⟨w1, w2⟩ := e_hasPiece (sz := sz) hs hr h40 (T.2.1 78 (4 * e + k)) i6 (by omega)
    have st : (v + 1).toInt = (l + 1 : Nat) := by rw [tinc' (by omega)]; omega
    obtain ⟨a1, a2⟩ := ih (l + 1) (v + 1) 1 st (by omega) (Or.inr rfl)
    obtain ⟨b1, b2⟩ := ih (l + 1) (v + 1) 0 st (by omega) (Or.inl rfl)
    rw [inA_s]
    constructor
    · intro n
      rw [show n + (m + 1) + 1 = (n + m + 1) + 1 by omega, vl_X11_inNone_s1, if_neg c, tnN ix, r78, w1]
      rcases hf with hf | hf
      · rw [if_pos hf]
        by_cases d : inL T g l (T.2.1 78 (4 * e + k)) = true
        · rw [if_neg (fun q => (b2i_0.mp q) d), a1, d, if_pos (Or.inl rfl), Bool.true_or, if_pos (Or.inr rfl)]
        · rw [if_pos (b2i_0.mpr d), b1, Bool.eq_false_iff.mpr d, Bool.false_or, hf]
      · rw [if_neg (by rw [hf]; decide), a1, if_pos (Or.inl rfl), if_pos (Or.inl hf)]
    · intro n w
      rw [show n + (m + 1) + 1 = (n + m + 1) + 1 by omega, okl_X11_inNone_s1, tnN ix, r78]
      exact ⟨vh, fun q => absurd q c, fun _ => ⟨fun _ => a2 n w, fun _ => ⟨vi, w2, fun _ => b2 n w, fun _ => a2 n w⟩⟩⟩
theorem l_none {sz : Nat} {T : tT} {g h : Nat} (hs : gSz T g) (hr : gLs T g h) (h40 : h < 40) (r77 : T.1 137 = T.1 77) (r78 : T.2.1 139 = T.2.1 78) {ev hv : Int32} {e : Nat} (he : ev.toInt = e) (e40 : e < 40) (hh : hv.toInt = h) {N : Nat} (hN : (T.1 77 e).toInt = N) (N4 : N ≤ 4) : ∀ (m n k a : Nat) (v av : Int32), v.toInt = k → k + m = N → m * 8 < n → av.toInt = a → a + m ≤ 4 → (vl_X11_inNone n).1 T ev hv av v = nI (a + cOw T g e k m) ∧ (okl_X11_inNone n).1 sz T ev hv av v := by
  have ve : vp_in ev 40 := by rw [vp_in_iff]; omega
  have a1 : 0 ≤ (T.1 g 1).toInt := tle.mp hs.1.1
  have a3 : (T.1 g 1).toInt ≤ 6 := tle.mp hs.1.2
  have eL : (T.1 g 1).toInt = ((T.1 g 1).toNatClampNeg : Nat) := by rw [tncd]; omega
  intro m
  induction m with
  | zero =>
    intro n k a v av hv' hk hn ha ha4
    obtain ⟨n, rfl⟩ : ∃ n', n = n' + 1 := ⟨n - 1, by omega⟩
    have c : T.1 77 ev.toNatClampNeg ≤ v := by rw [tnN he, tle]; omega
    rw [vl_X11_inNone_s0, okl_X11_inNone_s0, r77, if_pos c]
    refine ⟨?_, ve, fun _ => trivial, fun q => absurd c q⟩
    rw [teq, ha, nI_i (by unfold cOw; simp; omega)]
    unfold cOw
    simp
  | succ m ih =>
    intro n k a v av hv' hk hn ha ha4
    obtain ⟨n, rfl⟩ : ∃ n', n = (n' + (T.1 g 1).toNatClampNeg + 1) + 1 := ⟨n - 2 - (T.1 g 1).toNatClampNeg, by omega⟩
    have c : ¬ T.1 77 ev.toNatClampNeg ≤ v := by rw [tnN he, tle]; omega
    obtain ⟨b1, b2⟩ := l_none_in (sz := sz) hs hr h40 r78 he e40 hh eL (av := av) hv' (by omega) (T.1 g 1).toNatClampNeg 0 0 0 rfl (by omega) (Or.inl rfl)
    have st : (v + 1).toInt = (k + 1 : Nat) := by rw [tinc' (by omega)]; omega
    obtain ⟨u1, u2⟩ := ih n (k + 1) (a + 1) (v + 1) (av + 1) st (by omega) (by omega) (by rw [tinc' (by omega)]; omega) (by omega)
    obtain ⟨x1, x2⟩ := ih n (k + 1) a (v + 1) (av + 0) st (by omega) (by omega) (by rw [Int32.add_zero]; exact ha) (by omega)
    have ok : ∀ y, y = 0 ∨ y = 1 → (okl_X11_inNone n).1 sz T ev hv (av + y) (v + 1) := by
      rintro y (rfl | rfl)
      · exact x2
      · exact u2
    rw [vl_X11_inNone_s0, okl_X11_inNone_s0, r77, if_neg c, b1, cOw_s]
    refine ⟨?_, ve, fun q => absurd q c, fun _ => b2 n ok⟩
    by_cases d : inA T g 0 (T.1 g 1).toNatClampNeg (T.2.1 78 (4 * e + k)) = true
    · rw [if_pos (Or.inr d), if_pos d, x1, Nat.zero_add]
    · rw [if_neg (fun q => q.elim (by decide) d), if_neg d, u1, ← Nat.add_assoc]
theorem l_tot5 {sz : Nat} {T : tT} {pv : Int32} {P : Nat} (hP : pv.toInt = P) (P6 : P ≤ 6) : ∀ (m n k : Nat) (v a : Int32), v.toInt = k → k + m = P → m < n → vl_X4_total n T pv a v = tot (T.1 67) k m a ∧ okl_X4_total n sz T pv a v := by
  intro m
  induction m with
  | zero =>
    intro n k v a hv hk hn
    obtain ⟨n, rfl⟩ : ∃ n', n = n' + 1 := ⟨n - 1, by omega⟩
    have c : pv ≤ v := by rw [tle]; omega
    rw [vl_X4_total_s, if_pos c]
    simp only [okl_X4_total]
    exact ⟨rfl, fun _ => trivial, fun q => absurd c q⟩
  | succ m ih =>
    intro n k v a hv hk hn
    obtain ⟨n, rfl⟩ : ∃ n', n = n' + 1 := ⟨n - 1, by omega⟩
    have c : ¬ pv ≤ v := by rw [tle]; omega
    have c6 : ¬ 6 ≤ v := by rw [tle, show (6 : Int32).toInt = 6 from rfl]; omega
    obtain ⟨u1, u2⟩ := ih n (k + 1) (v + 1) (a + T.1 67 k) (by rw [tinc' (by omega)]; omega) (by omega) (by omega)
    rw [vl_X4_total_s, if_neg c, if_neg c6, tnN hv, u1]
    simp only [okl_X4_total]
    rw [tnN hv]
    exact ⟨rfl, fun q => absurd q c, fun _ => ⟨fun q => absurd q c6, fun _ => ⟨by rw [vp_in_iff]; omega, u2⟩⟩⟩
theorem l_lea5 {sz : Nat} {T : tT} {pv : Int32} {P : Nat} (hP : pv.toInt = P) (P6 : P ≤ 6) : ∀ (m n k : Nat) (v a : Int32), v.toInt = k → (k + m = P ∨ (m = 0 ∧ P ≤ k)) → m < n → vl_X4_least n T pv a v = lea (T.1 67) k m a ∧ okl_X4_least n sz T pv a v := by
  intro m
  induction m with
  | zero =>
    intro n k v a hv hk hn
    obtain ⟨n, rfl⟩ : ∃ n', n = n' + 1 := ⟨n - 1, by omega⟩
    have c : pv ≤ v := by rw [tle]; omega
    rw [vl_X4_least_s, if_pos c]
    simp only [okl_X4_least]
    exact ⟨rfl, fun _ => trivial, fun q => absurd c q⟩
  | succ m ih =>
    intro n k v a hv hk hn
    obtain ⟨n, rfl⟩ : ∃ n', n = n' + 1 := ⟨n - 1, by omega⟩
    have c : ¬ pv ≤ v := by rw [tle]; omega
    have c6 : ¬ 6 ≤ v := by rw [tle, show (6 : Int32).toInt = 6 from rfl]; omega
    obtain ⟨u1, u2⟩ := ih n (k + 1) (v + 1) (if T.1 67 k < a then T.1 67 k else a) (by rw [tinc' (by omega)]; omega) (by omega) (by omega)
    rw [vl_X4_least_s, if_neg c, if_neg c6, tnN hv, u1]
    simp only [okl_X4_least]
    rw [tnN hv]
    exact ⟨rfl, fun q => absurd q c, fun _ => ⟨fun q => absurd q c6, fun _ => ⟨by rw [vp_in_iff]; omega, u2⟩⟩⟩
theorem l_tot11 {sz : Nat} {T : tT} {hv : Int32} {h P : Nat} (hh : hv.toInt = h) (h40 : h < 40) (hP : (T.1 113 h).toInt = P) (P6 : P ≤ 6) : ∀ (m n k : Nat) (v a : Int32), v.toInt = k → k + m = P → m < n → vl_X11_total n T hv a v = tot (T.1 141) k m a ∧ okl_X11_total n sz T hv a v := by
  have vh : vp_in hv 40 := by rw [vp_in_iff]; omega
  intro m
  induction m with
  | zero =>
    intro n k v a hv' hk hn
    obtain ⟨n, rfl⟩ : ∃ n', n = n' + 1 := ⟨n - 1, by omega⟩
    have c : T.1 113 hv.toNatClampNeg ≤ v := by rw [tnN hh, tle]; omega
    rw [vl_X11_total_s, if_pos c]
    simp only [okl_X11_total]
    exact ⟨rfl, vh, fun _ => trivial, fun q => absurd c q⟩
  | succ m ih =>
    intro n k v a hv' hk hn
    obtain ⟨n, rfl⟩ : ∃ n', n = n' + 1 := ⟨n - 1, by omega⟩
    have c : ¬ T.1 113 hv.toNatClampNeg ≤ v := by rw [tnN hh, tle]; omega
    obtain ⟨u1, u2⟩ := ih n (k + 1) (v + 1) (a + T.1 141 k) (by rw [tinc' (by omega)]; omega) (by omega) (by omega)
    rw [vl_X11_total_s, if_neg c, tnN hv', u1]
    simp only [okl_X11_total]
    rw [tnN hv']
    exact ⟨rfl, vh, fun q => absurd q c, fun _ => ⟨by rw [vp_in_iff]; omega, u2⟩⟩
theorem l_lea11 {sz : Nat} {T : tT} {hv : Int32} {h P : Nat} (hh : hv.toInt = h) (h40 : h < 40) (hP : (T.1 113 h).toInt = P) (P6 : P ≤ 6) : ∀ (m n k : Nat) (v a : Int32), v.toInt = k → (k + m = P ∨ (m = 0 ∧ P ≤ k)) → m < n → vl_X11_leastMark n T hv a v = lea (T.1 141) k m a ∧ okl_X11_leastMark n sz T hv a v := by
  have vh : vp_in hv 40 := by rw [vp_in_iff]; omega
  intro m
  induction m with
  | zero =>
    intro n k v a hv' hk hn
    obtain ⟨n, rfl⟩ : ∃ n', n = n' + 1 := ⟨n - 1, by omega⟩
    have c : T.1 113 hv.toNatClampNeg ≤ v := by rw [tnN hh, tle]; omega
    rw [vl_X11_leastMark_s, if_pos c]
    simp only [okl_X11_leastMark]
    exact ⟨rfl, vh, fun _ => trivial, fun q => absurd c q⟩
  | succ m ih =>
    intro n k v a hv' hk hn
    obtain ⟨n, rfl⟩ : ∃ n', n = n' + 1 := ⟨n - 1, by omega⟩
    have c : ¬ T.1 113 hv.toNatClampNeg ≤ v := by rw [tnN hh, tle]; omega
    have vk : vp_in v 6 := by rw [vp_in_iff]; omega
    obtain ⟨u1, u2⟩ := ih n (k + 1) (v + 1) (if T.1 141 k < a then T.1 141 k else a) (by rw [tinc' (by omega)]; omega) (by omega) (by omega)
    have e : lea (T.1 141) k (m + 1) a = lea (T.1 141) (k + 1) m (if T.1 141 k < a then T.1 141 k else a) := rfl
    rw [vl_X11_leastMark_s, if_neg c, tnN hv', e]
    simp only [okl_X11_leastMark]
    rw [tnN hv']
    by_cases d : a ≤ T.1 141 k
    · rw [if_neg (by grind : ¬ T.1 141 k < a)] at u1 u2 ⊢
      rw [if_pos d]
      exact ⟨u1, vh, fun q => absurd q c, fun _ => ⟨vk, fun _ => u2, fun q => absurd d q⟩⟩
    · rw [if_pos (by grind : T.1 141 k < a)] at u1 u2 ⊢
      rw [if_neg d]
      exact ⟨u1, vh, fun q => absurd q c, fun _ => ⟨vk, fun q => absurd q d, fun _ => ⟨vk, u2⟩⟩⟩
/-- the value of a leaf: of the grade at g, for entry e, with the points pts -/
def lfv (T : tT) (g e : Nat) (pts : Nat → Int32) (k v : Int32) : Int32 :=
  if k = 2 then v else if k = 201 then nI (cLi T g e v.toNatClampNeg 0 (T.1 77 e).toNatClampNeg) else if k = 210 then nI (cOw T g e 0 (T.1 77 e).toNatClampNeg) else if k = 211 then T.1 77 e else if k = 212 then T.1 74 e else if k = 202 then pts v.toNatClampNeg else if k = 213 then tot pts 0 (T.1 g 2).toNatClampNeg 0 else lea pts 1 ((T.1 g 2).toNatClampNeg - 1) (if T.1 g 2 = 0 then 0 else pts 0)
