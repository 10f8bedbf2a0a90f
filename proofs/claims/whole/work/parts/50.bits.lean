/-! sums; bits of small numbers -/
def sg : Nat → (Nat → Int) → Int
  | 0, _ => 0
  | n + 1, f => sg n f + f n
theorem sg_cg {f g : Nat → Int} : ∀ (n : Nat), (∀ i, i < n → f i = g i) → sg n f = sg n g
  | 0, _ => rfl
  | n + 1, h => by
    unfold sg
    rw [sg_cg n (fun i hi => h i (by omega)), h n (by omega)]
theorem sg_add {f g : Nat → Int} : ∀ (n : Nat), sg n (fun i => f i + g i) = sg n f + sg n g
  | 0 => rfl
  | n + 1 => by
    unfold sg
    rw [sg_add n]
    dsimp only
    omega
theorem sg_sub {f g : Nat → Int} : ∀ (n : Nat), sg n (fun i => f i - g i) = sg n f - sg n g
  | 0 => rfl
  | n + 1 => by
    unfold sg
    rw [sg_sub n]
    dsimp only
    omega
theorem sg_zero : ∀ (n : Nat), sg n (fun _ => 0) = 0
  | 0 => rfl
  | n + 1 => by
    unfold sg
    rw [sg_zero n]
    rfl
/-- one place more -/
theorem sg_one {f : Nat → Int} {k : Nat} {v : Int} : ∀ (n : Nat), k < n → sg n (fun i => if i = k then v else f i) = sg n f - f k + v
  | 0, h => by omega
  | n + 1, h => by
    unfold sg
    dsimp only
    by_cases c : k = n
    · subst c
      rw [if_pos rfl, sg_cg (g := f) k (fun i hi => if_neg (by omega))]
      omega
    · rw [if_neg (by omega), sg_one n (by omega)]
      omega
theorem sg_ins {f : Nat → Int} {P : Nat → Bool} {s n : Nat} (hs : s < n) (hP : P s = false) : sg n (fun u => if (P u || u == s) = true then f u else 0) = sg n (fun u => if P u = true then f u else 0) + f s := by
  have e : sg n (fun u => if (P u || u == s) = true then f u else 0) = sg n (fun i => if i = s then f s else (fun u => if P u = true then f u else 0) i) := by
    apply sg_cg
    intro i hi
    by_cases c : i = s
    · subst c
      rw [if_pos rfl, if_pos (by simp)]
    · rw [if_neg c]
      have : (i == s) = false := beq_false_of_ne c
      rw [this, Bool.or_false]
  rw [e, sg_one n hs]
  rw [if_neg (by rw [hP]; decide)]
  omega
theorem i32_and {a b : Nat} {x y : Int32} (hx : x.toInt = a) (hy : y.toInt = b) (ha : a < 65536) (hb : b < 65536) : (x &&& y).toInt = ((a &&& b : Nat) : Int) := by
  have e1 : x = nI a := by rw [teq, hx, nI_toInt (by omega)]
  have e2 : y = nI b := by rw [teq, hy, nI_toInt (by omega)]
  have h := Nat.and_lt_two_pow a (show b < 2 ^ 16 by omega)
  have e3 : nI a &&& nI b = nI (a &&& b) := by
    apply Int32.toBitVec_inj.mp
    apply BitVec.eq_of_toNat_eq
    rw [Int32.toBitVec_and, BitVec.toNat_and]
    show (BitVec.ofNat 32 a).toNat &&& (BitVec.ofNat 32 b).toNat = (BitVec.ofNat 32 (a &&& b)).toNat
    rw [BitVec.toNat_ofNat, BitVec.toNat_ofNat, BitVec.toNat_ofNat, Nat.mod_eq_of_lt (by omega), Nat.mod_eq_of_lt (by omega), Nat.mod_eq_of_lt (by omega)]
  rw [e1, e2, e3, nI_toInt (by omega)]
theorem i32_or {a b : Nat} {x y : Int32} (hx : x.toInt = a) (hy : y.toInt = b) (ha : a < 65536) (hb : b < 65536) : (x ||| y).toInt = ((a ||| b : Nat) : Int) := by
  have e1 : x = nI a := by rw [teq, hx, nI_toInt (by omega)]
  have e2 : y = nI b := by rw [teq, hy, nI_toInt (by omega)]
  have h := Nat.or_lt_two_pow (show a < 2 ^ 16 by omega) (show b < 2 ^ 16 by omega)
  have e3 : nI a ||| nI b = nI (a ||| b) := by
    apply Int32.toBitVec_inj.mp
    apply BitVec.eq_of_toNat_eq
    rw [Int32.toBitVec_or, BitVec.toNat_or]
    show (BitVec.ofNat 32 a).toNat ||| (BitVec.ofNat 32 b).toNat = (BitVec.ofNat 32 (a ||| b)).toNat
    rw [BitVec.toNat_ofNat, BitVec.toNat_ofNat, BitVec.toNat_ofNat, Nat.mod_eq_of_lt (by omega), Nat.mod_eq_of_lt (by omega), Nat.mod_eq_of_lt (by omega)]
  rw [e1, e2, e3, nI_toInt (by omega)]
/-- a bit of a set -/
theorem i32_bit {a s : Nat} {x y : Int32} (hx : x.toInt = a) (hy : y.toInt = s) (ha : a < 65536) (hs : s < 16) : (x >>> (y &&& 31)) &&& 1 = if a.testBit s = true then 1 else 0 := by
  have e1 : x = nI a := by rw [teq, hx, nI_toInt (by omega)]
  have e2 : y = nI s := by rw [teq, hy, nI_toInt (by omega)]
  have e3 : y &&& 31 = nI s := by
    rw [teq, i32_and hy (b := 31) rfl (by omega) (by decide), nI_toInt (by omega)]
    congr 1
    have h5 : s &&& (2 ^ 5 - 1) = s % 2 ^ 5 := Nat.and_two_pow_sub_one_eq_mod s 5
    rw [show (2 : Nat) ^ 5 - 1 = 31 from rfl, show (2 : Nat) ^ 5 = 32 from rfl] at h5
    rw [h5]
    omega
  have e4 : (nI a >>> nI s) = nI (a >>> s) := by
    apply Int32.toBitVec_inj.mp
    rw [Int32.toBitVec_shiftRight]
    have s1 : ((nI s).toBitVec.smod 32).toNat = s := by
      have : ∀ s ∈ List.range 16, ((nI s).toBitVec.smod 32).toNat = s := by decide
      exact this s (List.mem_range.mpr hs)
    rw [BitVec.sshiftRight', s1]
    have msb : (nI a).toBitVec.msb = false := by
      show (BitVec.ofNat 32 a).msb = false
      rw [BitVec.msb_eq_false_iff_two_mul_lt, BitVec.toNat_ofNat]
      omega
    rw [BitVec.sshiftRight_eq_of_msb_false msb]
    apply BitVec.eq_of_toNat_eq
    rw [BitVec.toNat_ushiftRight]
    show (BitVec.ofNat 32 a).toNat >>> s = (BitVec.ofNat 32 (a >>> s)).toNat
    have : a >>> s ≤ a := Nat.shiftRight_le a s
    rw [BitVec.toNat_ofNat, BitVec.toNat_ofNat, Nat.mod_eq_of_lt (by omega), Nat.mod_eq_of_lt (by omega)]
  have le : a >>> s ≤ a := Nat.shiftRight_le a s
  rw [e3, e1, e4, teq, i32_and (nI_toInt (by omega)) (b := 1) rfl (by omega) (by decide)]
  rw [Nat.and_one_is_mod, Nat.shiftRight_eq_div_pow, ← Nat.toNat_testBit]
  cases a.testBit s <;> rfl
theorem and_h (a b : Nat) : (a &&& b) / 2 = (a / 2) &&& (b / 2) := by
  have := Nat.and_div_two_pow (a := a) (b := b) (n := 1)
  rw [Nat.pow_one] at this
  exact this
theorem and_l (a b : Nat) : (a &&& b) % 2 = if a % 2 = 1 ∧ b % 2 = 1 then 1 else 0 := by
  have := Nat.and_mod_two_pow (a := a) (b := b) (n := 1)
  rw [Nat.pow_one] at this
  rw [this]
  rcases Nat.mod_two_eq_zero_or_one a with h1 | h1 <;> rcases Nat.mod_two_eq_zero_or_one b with h2 | h2 <;> rw [h1, h2] <;> decide
theorem sub_next {r : Nat} : ∀ {s t : Nat}, s &&& r = s → t &&& r = t → t < s → t ≤ (s - 1) &&& r := by
  induction r using Nat.strongRecOn with
  | _ r ih =>
    intro s t hs ht h
    by_cases r0 : r = 0
    · subst r0
      rw [Nat.and_zero] at hs
      omega
    have hs' : (s / 2) &&& (r / 2) = s / 2 := by rw [← and_h, hs]
    have ht' : (t / 2) &&& (r / 2) = t / 2 := by rw [← and_h, ht]
    have tl := and_l t r
    rw [ht] at tl
    have uh := and_h (s - 1) r
    have ul := and_l (s - 1) r
    by_cases c : t / 2 < s / 2
    · rcases Nat.mod_two_eq_zero_or_one s with h1 | h1
      · have e : (s - 1) / 2 = s / 2 - 1 := by omega
        have i := ih (r / 2) (by omega) hs' ht' c
        rw [e] at uh
        have o : (s - 1) % 2 = 1 := by omega
        rw [o] at ul
        by_cases r1 : r % 2 = 1
        · rw [if_pos ⟨rfl, r1⟩] at ul
          omega
        · rw [if_neg (fun w => r1 w.2)] at tl
          omega
      · have e : (s - 1) / 2 = s / 2 := by omega
        rw [e, hs'] at uh
        omega
    · have e : (s - 1) / 2 = s / 2 := by omega
      rw [e, hs'] at uh
      omega
theorem sub_lt {r s : Nat} (h : 0 < s) : (s - 1) &&& r < s := by
  have := Nat.and_le_left (n := s - 1) (m := r)
  omega
