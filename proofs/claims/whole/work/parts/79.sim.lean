/-! e: the class's descent and the reference's pile -/
/-! cells that bear a kind and a number -/
theorem enc {k v : Nat} (hk : k < 1024) (hv : v < 1048576) : dcK ((nI k <<< ((20 : Int32) &&& 31)) ||| nI v) = nI k ∧ dcV ((nI k <<< ((20 : Int32) &&& 31)) ||| nI v) = nI v := by
  have e1 : (nI k <<< ((20 : Int32) &&& 31)) = nI (2 ^ 20 * k) := by
    apply Int32.toBitVec_inj.mp
    rw [Int32.toBitVec_shiftLeft]
    have e : (((20 : Int32) &&& 31).toBitVec.smod 32) = 20#32 := by decide
    rw [e]
    apply BitVec.eq_of_toNat_eq
    show (BitVec.ofNat 32 k <<< (20#32).toNat).toNat = (BitVec.ofNat 32 (2 ^ 20 * k)).toNat
    rw [show (20#32).toNat = 20 from rfl, BitVec.toNat_shiftLeft, BitVec.toNat_ofNat, BitVec.toNat_ofNat, Nat.shiftLeft_eq, Nat.mod_eq_of_lt (show k < 2 ^ 32 by omega), Nat.mul_comm]
  have e2 : nI (2 ^ 20 * k) ||| nI v = nI (2 ^ 20 * k + v) := by
    rw [Nat.two_pow_add_eq_or_of_lt (show v < 2 ^ 20 by omega)]
    apply Int32.toBitVec_inj.mp
    apply BitVec.eq_of_toNat_eq
    rw [Int32.toBitVec_or, BitVec.toNat_or]
    show (BitVec.ofNat 32 (2 ^ 20 * k)).toNat ||| (BitVec.ofNat 32 v).toNat = (BitVec.ofNat 32 (2 ^ 20 * k ||| v)).toNat
    rw [← Nat.two_pow_add_eq_or_of_lt (show v < 2 ^ 20 by omega), BitVec.toNat_ofNat, BitVec.toNat_ofNat, BitVec.toNat_ofNat, Nat.mod_eq_of_lt (show 2 ^ 20 * k < 2 ^ 32 by omega), Nat.mod_eq_of_lt (show v < 2 ^ 32 by omega), Nat.mod_eq_of_lt (show 2 ^ 20 * k + v < 2 ^ 32 by omega), Nat.two_pow_add_eq_or_of_lt (show v < 2 ^ 20 by omega)]
  rw [e1, e2]
  constructor
  · unfold dcK
    apply Int32.toBitVec_inj.mp
    rw [Int32.toBitVec_shiftRight]
    have e : (((20 : Int32) &&& 31).toBitVec.smod 32).toNat = 20 := by decide
    rw [BitVec.sshiftRight', e]
    have msb : (nI (2 ^ 20 * k + v)).toBitVec.msb = false := by
      show (BitVec.ofNat 32 (2 ^ 20 * k + v)).msb = false
      rw [BitVec.msb_eq_false_iff_two_mul_lt, BitVec.toNat_ofNat]
      omega
    rw [BitVec.sshiftRight_eq_of_msb_false msb]
    apply BitVec.eq_of_toNat_eq
    rw [BitVec.toNat_ushiftRight]
    show (BitVec.ofNat 32 (2 ^ 20 * k + v)).toNat >>> 20 = (BitVec.ofNat 32 k).toNat
    rw [BitVec.toNat_ofNat, BitVec.toNat_ofNat, Nat.shiftRight_eq_div_pow]
    omega
  · unfold dcV
    apply Int32.toBitVec_inj.mp
    apply BitVec.eq_of_toNat_eq
    rw [Int32.toBitVec_and, BitVec.toNat_and]
    show (BitVec.ofNat 32 (2 ^ 20 * k + v)).toNat &&& 1048575 = (BitVec.ofNat 32 v).toNat
    rw [BitVec.toNat_ofNat, BitVec.toNat_ofNat, show (1048575 : Nat) = 2 ^ 20 - 1 from rfl, Nat.and_two_pow_sub_one_eq_mod]
    omega
theorem enc' {k v : Int32} (k0 : 0 ≤ k.toInt) (k1 : k.toInt < 1024) (v0 : 0 ≤ v.toInt) (v1 : v.toInt < 1048576) : dcK ((k <<< ((20 : Int32) &&& 31)) ||| v) = k ∧ dcV ((k <<< ((20 : Int32) &&& 31)) ||| v) = v := by
  have a : k = nI k.toInt.toNat := by rw [teq, nI_toInt (by omega)]; omega
  have c : v = nI v.toInt.toNat := by rw [teq, nI_toInt (by omega)]; omega
  rw [a, c]
  exact enc (by omega) (by omega)
theorem Cs_app {f : Nat → Int32} {x : Int32 × Int32} : ∀ {l : List (Int32 × Int32)} {s : Nat}, Cs f s l → dcK (f (s + l.length)) = x.1 → dcV (f (s + l.length)) = x.2 → Cs f s (l ++ [x])
  | [], s, _, h1, h2 => ⟨⟨h1, h2⟩, trivial⟩
  | y :: l, s, h, h1, h2 => ⟨h.1, Cs_app (l := l) h.2 (by rw [show s + 1 + l.length = s + (y :: l).length by rw [List.length_cons]; omega]; exact h1) (by rw [show s + 1 + l.length = s + (y :: l).length by rw [List.length_cons]; omega]; exact h2)⟩
theorem Cs_eq {f f' : Nat → Int32} : ∀ {l : List (Int32 × Int32)} {s : Nat}, (∀ i, s ≤ i → i < s + l.length → f' i = f i) → Cs f s l → Cs f' s l
  | [], s, _, _ => trivial
  | y :: l, s, hf, h => ⟨by rw [hf s (Nat.le_refl _) (by rw [List.length_cons]; omega)]; exact h.1, Cs_eq (l := l) (fun i i1 i2 => hf i (by omega) (by rw [List.length_cons]; omega)) h.2⟩
theorem Rs_app {f g : Nat → Int32} {x : Int32 × Int32} : ∀ {l : List (Int32 × Int32)} {s : Nat}, Rs f g s l → f (s + l.length) = rc x.1 → (lfK x.1 = true → g (s + l.length) = x.2) → Rs f g s (l ++ [x])
  | [], s, _, h1, h2 => ⟨⟨h1, h2⟩, trivial⟩
  | y :: l, s, h, h1, h2 => ⟨h.1, Rs_app (l := l) h.2 (by rw [show s + 1 + l.length = s + (y :: l).length by rw [List.length_cons]; omega]; exact h1) (by rw [show s + 1 + l.length = s + (y :: l).length by rw [List.length_cons]; omega]; exact h2)⟩
theorem Rs_eq {f g f' g' : Nat → Int32} : ∀ {l : List (Int32 × Int32)} {s : Nat}, (∀ i, s ≤ i → i < s + l.length → f' i = f i ∧ g' i = g i) → Rs f g s l → Rs f' g' s l
  | [], s, _, _ => trivial
  | y :: l, s, hf, h => ⟨by rw [(hf s (Nat.le_refl _) (by rw [List.length_cons]; omega)).1, (hf s (Nat.le_refl _) (by rw [List.length_cons]; omega)).2]; exact h.1, Rs_eq (l := l) (fun i i1 i2 => hf i (by omega) (by rw [List.length_cons]; omega)) h.2⟩
theorem hts_app {x : Int32 × Int32} : ∀ {l : List (Int32 × Int32)} {a : Nat}, hts a (l ++ [x]) = (match hts a l with | none => none | some t => hts t [x])
  | [], a => rfl
  | y :: l, a => by
    show hts a (y :: (l ++ [x])) = _
    unfold hts
    split
    · exact hts_app
    · split
      · split
        · exact hts_app
        · rfl
      · split
        · exact hts_app
        · rfl
theorem lfN_app {x : Int32 × Int32} {l : List (Int32 × Int32)} : lfN (l ++ [x]) = lfN l + (if lfK x.1 = true then 1 else 0) := by
  unfold lfN
  rw [List.countP_append, List.countP_singleton]
/-! what both have in common -/
def wRe (b k i : Nat) : Bool := (k == 105 && (i == 4 || i == 5 || i == 6 || i == 7 || i == 8 || i == 9 || i == 10 || i == 13 || i == 14 || i == 37 || i == 38)) || ((k == 123 || k == 124) && i / 1500 == b) || k == 129 || k == 130
/-- names of lists and parts -/
def NR (q h : Nat) (Tc Tr : tT) : Prop := (Tc.1 q 1 = Tr.1 111 h ∧ 0 ≤ Tc.1 q 1 ∧ Tc.1 q 1 ≤ 6) ∧ (Tc.1 q 2 = Tr.1 113 h ∧ 0 ≤ Tc.1 q 2 ∧ Tc.1 q 2 ≤ 6) ∧ (∀ l : Nat, (l : Int) < (Tc.1 q 1).toInt → Tc.2.1 (q + 1) l = Tr.2.1 126 (6 * h + l)) ∧ (∀ l : Nat, (l : Int) < (Tc.1 q 2).toInt → Tc.2.1 (q + 4) l = Tr.2.1 128 (6 * h + l))
def S0 (N q b h : Nat) (mv ls ps : Int32) (Tc Tr : tT) : Prop := EV N Tc Tr ∧ (Tr.1 105 12).toInt = b ∧ Tc.1 3 4 = mv ∧ NR q h Tc Tr ∧ Tc.1 q 1 = ls ∧ Tc.1 q 2 = ps
/-- where a grade of the text lies -/
def gq (p q : Nat) : Prop := 6 ≤ p ∧ p + 3 ≤ q
theorem wE_off {p k i : Nat} (h : ¬ (k = 4 ∧ (i = 2 ∨ i = 3 ∨ i = 4 ∨ i = 5 ∨ i = 6))) (h2 : ¬ (k = 3 ∧ (i = 1 ∨ i = 2 ∨ i = 5))) (h3 : ¬ (k = p ∧ i = 3)) (h4 : k ≠ p + 2) : wE p k i = false := by
  unfold wE
  simp only [Bool.or_eq_false_iff, Bool.and_eq_false_iff, beq_eq_false_iff_ne, ne_eq]
  omega
theorem wRe_off {b k i : Nat} (h : ¬ (k = 105 ∧ (i = 4 ∨ i = 5 ∨ i = 6 ∨ i = 7 ∨ i = 8 ∨ i = 9 ∨ i = 10 ∨ i = 13 ∨ i = 14 ∨ i = 37 ∨ i = 38))) (h2 : k ≠ 123 ∧ k ≠ 124 ∧ k ≠ 129 ∧ k ≠ 130) : wRe b k i = false := by
  unfold wRe
  simp only [Bool.or_eq_false_iff, Bool.and_eq_false_iff, beq_eq_false_iff_ne, ne_eq]
  omega
theorem S0_fr {N p q b h : Nat} {mv ls ps : Int32} {Tc Tr Tc' Tr' : tT} (g : gq p q) (hs : S0 N q b h mv ls ps Tc Tr) (fc : fr (wE p) Tc Tc') (fr' : fr (wRe b) Tr Tr') : S0 N q b h mv ls ps Tc' Tr' := by
  obtain ⟨⟨⟨a1, a2, a3⟩, ⟨a4, a5⟩, a6⟩, a7, a8, ⟨n1, n2, n3, n4⟩, n5, n6⟩ := hs
  obtain ⟨g1, g2⟩ := g
  have c4 : Tc'.1 4 1 = Tc.1 4 1 := fr_i fc (wE_off (by omega) (by omega) (by omega) (by omega))
  have c5 : Tc'.1 5 = Tc.1 5 := fr_ri fc (fun i => wE_off (by omega) (by omega) (by omega) (by omega))
  have c1 : Tc'.2.1 1 = Tc.2.1 1 := fr_rj fc (fun i => wE_off (by omega) (by omega) (by omega) (by omega))
  have c34 : Tc'.1 3 4 = Tc.1 3 4 := fr_i fc (wE_off (by omega) (by omega) (by omega) (by omega))
  have cq : Tc'.1 q = Tc.1 q := fr_ri fc (fun i => wE_off (by omega) (by omega) (by omega) (by omega))
  have cq1 : Tc'.2.1 (q + 1) = Tc.2.1 (q + 1) := fr_rj fc (fun i => wE_off (by omega) (by omega) (by omega) (by omega))
  have cq4 : Tc'.2.1 (q + 4) = Tc.2.1 (q + 4) := fr_rj fc (fun i => wE_off (by omega) (by omega) (by omega) (by omega))
  have r3 : Tr'.1 105 3 = Tr.1 105 3 := fr_i fr' (wRe_off (by omega) (by omega))
  have r12 : Tr'.1 105 12 = Tr.1 105 12 := fr_i fr' (wRe_off (by omega) (by omega))
  have r107 : Tr'.1 107 = Tr.1 107 := fr_ri fr' (fun i => wRe_off (by omega) (by omega))
  have r111 : Tr'.1 111 = Tr.1 111 := fr_ri fr' (fun i => wRe_off (by omega) (by omega))
  have r113 : Tr'.1 113 = Tr.1 113 := fr_ri fr' (fun i => wRe_off (by omega) (by omega))
  have r126 : Tr'.2.1 126 = Tr.2.1 126 := fr_rj fr' (fun i => wRe_off (by omega) (by omega))
  have r128 : Tr'.2.1 128 = Tr.2.1 128 := fr_rj fr' (fun i => wRe_off (by omega) (by omega))
  refine ⟨⟨⟨by rw [c4]; exact a1, a2, by rw [c1]; exact a3⟩, ⟨by rw [r3]; exact a4, a5⟩, ?_⟩, by rw [r12]; exact a7, by rw [c34]; exact a8, ?_, by rw [cq]; exact n5, by rw [cq]; exact n6⟩
  · unfold bC bR
    rw [c5, r107]
    exact a6
  · unfold NR
    rw [cq, cq1, cq4, r111, r113, r126, r128]
    exact ⟨n1, n2, n3, n4⟩
theorem w5_wRe {b : Nat} {T T' : tT} (f : fr w5 T T') : fr (wRe b) T T' := fun k i h => f k i (by
  cases e : w5 k i with
  | false => rfl
  | true =>
    exfalso
    simp only [w5, wl, List.contains_iff_mem, List.mem_cons, List.not_mem_nil, Bool.or_eq_true, Prod.mk.injEq, or_false, false_or] at e
    have : wRe b k i = true := by
      unfold wRe
      rcases e with ⟨rfl, rfl⟩ | ⟨rfl, rfl⟩ | ⟨rfl, rfl⟩ | ⟨rfl, rfl⟩ | ⟨rfl, rfl⟩ <;> rfl
    rw [this] at h
    cases h)
/-- the steps of the e so far -/
def EL (p b : Nat) (m : Bool) (ls ps : Int32) (Tc Tr : tT) (s f : Nat) (l : List (Int32 × Int32)) : Prop := (Tc.1 p 3).toInt = (s + l.length : Nat) ∧ Cs (Tc.1 (p + 2)) s l ∧ (Tr.1 105 14).toInt = (f + l.length : Nat) ∧ f ≤ s ∧ Rs (Tr.1 123) (Tr.1 124) (1500 * b + f) l ∧ (∀ x ∈ l, vI m ls ps x.1 x.2) ∧ (lfN l : Int) ≤ (Tc.1 3 5).toInt
def phi (p : Nat) (T : tT) : Int := (T.1 4 3).toInt + 4 * (T.1 3 5).toInt - 3 * (T.1 p 3).toInt
/-- nothing is changed in what was told before -/
def kpC (p : Nat) (Tc Tc' : tT) : Prop := (Tc.1 p 3).toInt ≤ (Tc'.1 p 3).toInt ∧ ∀ i : Nat, (i : Int) < (Tc.1 p 3).toInt → Tc'.1 (p + 2) i = Tc.1 (p + 2) i
def kpR (b : Nat) (Tr Tr' : tT) : Prop := (Tr.1 105 14).toInt ≤ (Tr'.1 105 14).toInt ∧ ∀ i : Nat, (i : Int) < 1500 * b + (Tr.1 105 14).toInt → Tr'.1 123 i = Tr.1 123 i ∧ Tr'.1 124 i = Tr.1 124 i
theorem kpC_trans {p : Nat} {T T1 T2 : tT} (h1 : kpC p T T1) (h2 : kpC p T1 T2) : kpC p T T2 := ⟨Int.le_trans h1.1 h2.1, fun i hi => (h2.2 i (by have := h1.1; omega)).trans (h1.2 i hi)⟩
theorem kpR_trans {b : Nat} {T T1 T2 : tT} (h1 : kpR b T T1) (h2 : kpR b T1 T2) : kpR b T T2 := ⟨Int.le_trans h1.1 h2.1, fun i hi => by
  have q := h1.1
  exact ⟨(h2.2 i (by omega)).1.trans (h1.2 i hi).1, (h2.2 i (by omega)).2.trans (h1.2 i hi).2⟩⟩
theorem kpC_eq {p : Nat} {T T' : tT} (h1 : T'.1 p 3 = T.1 p 3) (h2 : ∀ i, T'.1 (p + 2) i = T.1 (p + 2) i) : kpC p T T' := ⟨by rw [h1]; exact Int.le_refl _, fun i _ => h2 i⟩
theorem kpR_eq {b : Nat} {T T' : tT} (h1 : T'.1 105 14 = T.1 105 14) (h2 : ∀ i, T'.1 123 i = T.1 123 i) (h3 : ∀ i, T'.1 124 i = T.1 124 i) : kpR b T T' := ⟨by rw [h1]; exact Int.le_refl _, fun i _ => ⟨h2 i, h3 i⟩⟩
theorem w4_z {j i : Nat} (hj : 5 ≤ j) : w4 j i = false := by
  cases z : w4 j i with
  | false => rfl
  | true =>
    exfalso
    simp only [w4, wl, List.contains_iff_mem, List.mem_cons, List.not_mem_nil, Bool.or_eq_true, Prod.mk.injEq, or_false, false_or] at z
    omega
theorem kpC_w4 {p : Nat} {T T' : tT} (h : 6 ≤ p) (f : fr w4 T T') : kpC p T T' := kpC_eq (fr_i f (w4_z (by omega))) (fun i => fr_i f (w4_z (by omega)))
theorem kpR_w5 {b : Nat} {T T' : tT} (f : fr w5 T T') : kpR b T T' := kpR_eq (fr_i f (k := 105) (i := 14) rfl) (fun i => fr_i f (k := 123) (i := i) rfl) (fun i => fr_i f (k := 124) (i := i) rfl)
theorem kpR_pl {b : Nat} {T T' : tT} (f : fr (wl [129, 130] [(105, 37), (105, 38)]) T T') : kpR b T T' := kpR_eq (fr_i f (k := 105) (i := 14) rfl) (fun i => fr_i f (k := 123) (i := i) rfl) (fun i => fr_i f (k := 124) (i := i) rfl)
/-- in step: at token, steps, pile -/
def ER (sz N p q b h : Nat) (mv : Int32) (m : Bool) (ls ps : Int32) (s f k dp ht : Nat) (l : List (Int32 × Int32)) (Tc Tr : tT) : Prop := S0 N q b h mv ls ps Tc Tr ∧ CS sz N p Tc ∧ TK N Tc Tr ∧ (Tc.1 3 1 = 0 ∧ Tr.1 105 4 = 0) ∧ Tr.1 105 13 = Tc.1 3 5 ∧ EL p b m ls ps Tc Tr s f l ∧ hts 0 l = some ht ∧ ((Tr.1 105 37).toInt = k ∧ (Tr.1 105 38).toInt = dp) ∧ 0 ≤ phi p Tc
