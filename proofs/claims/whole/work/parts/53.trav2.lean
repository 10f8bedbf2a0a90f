/-! the reference's travel -/
theorem ix8 {x y : Int32} {a b : Nat} (hx : x.toInt = a) (hy : y.toInt = b) (ha : a < 8) (hb : b < 8) : (8 * x + y).toNatClampNeg = 8 * a + b ∧ vp_in (8 * x + y) 64 := by
  have z : (8 : Int32).toInt = 8 := rfl
  have m : ((8 : Int32) * x).toInt = 8 * a := by rw [tmul (by rw [z]; omega) (by rw [z]; omega), z, hx]
  have e : ((8 : Int32) * x + y).toInt = (8 * a + b : Nat) := by rw [tadd (by omega) (by omega)]; omega
  exact ⟨tnN e, by rw [vp_in_iff]; omega⟩
theorem wy_sy {T : tT} (hC : ICi T) {a b : Nat} (ha : a < 8) (hb : b < 8) : wy T a b = wy T b a := by
  unfold wy
  rw [hC.2.2.2.2.2.2.2.2.2.2.1 a b ha hb]
theorem wy_dg {T : tT} (hC : ICi T) {a : Nat} (ha : a < 8) : wy T a a = 0 := by
  unfold wy
  rw [hC.2.2.2.2.2.2.2.2.2.2.2 a ha]
  rfl
theorem wy_rg {T : tT} (hC : ICi T) (a b : Nat) : 0 ≤ wy T a b ∧ wy T a b ≤ 600 := by
  have := hC.2.2.2.2.2.2.2.1 (8 * a + b)
  exact ⟨tle.mp this.1, tle.mp this.2⟩
theorem pl_lt {T : tT} (hC : ICi T) (s : Nat) : (T.1 82 s).toInt = (pl T s : Nat) ∧ pl T s < 8 := by
  have := hC.2.2.2.2.2.1 s
  have a1 := tle.mp this.1
  have a2 := tlt.mp this.2
  have z0 : (0 : Int32).toInt = 0 := rfl
  have z8 : (8 : Int32).toInt = 8 := rfl
  unfold pl
  rw [tncd]
  omega
theorem hm_lt {T : tT} (hC : ICi T) (x : Nat) : (T.1 80 x).toInt = (hm T x : Nat) ∧ hm T x < 8 := by
  have := hC.2.2.2.1 x
  have a1 := tle.mp this.1
  have a2 := tlt.mp this.2
  have z0 : (0 : Int32).toInt = 0 := rfl
  have z8 : (8 : Int32).toInt = 8 := rfl
  unfold hm
  rw [tncd]
  omega
theorem dy_rg {T : tT} (hC : ICi T) (s : Nat) : 0 ≤ dy T s ∧ dy T s < 100 := by
  have := hC.2.2.2.2.2.2.1 s
  exact ⟨tle.mp this.1, tlt.mp this.2⟩
/-- a step of the route -/
theorem trv_st {T : tT} (hC : ICi T) {S x m s : Nat} {c : Int} (hv : vst T S x m) (hs : s < S) (bs : bts m s = true) (hc : c < dy T s) (hmin : ∀ t, t < S → bts m t = true → c + 1 ≤ dy T t → dy T s ≤ dy T t) : trv T S x (fun t => bts m t && decide (dy T t ≤ dy T s)) = trv T S x (fun t => bts m t && decide (dy T t ≤ c)) + 2 * wy T (hm T x) (pl T s) - sg S (fun t => if (bts m t && decide (dy T t ≤ c) && decide (dy T s = dy T t + 1)) = true then sav T x t s else 0) := by
  rw [← trv_ins (P := fun t => bts m t && decide (dy T t ≤ c)) hs (by
    rw [bs, Bool.true_and, decide_eq_false (by omega)]) (by
    intro t ht w
    simp only [Bool.and_eq_true, decide_eq_true_eq] at w
    omega)]
  apply trv_cg
  intro t ht
  by_cases e : t = s
  · subst e
    rw [bs]
    simp
  · rw [beq_false_of_ne e, Bool.or_false]
    by_cases b : bts m t = true
    · rw [b, Bool.true_and, Bool.true_and]
      have ne : dy T t ≠ dy T s := fun w => e (vst_d hv ht hs b bs w)
      have := hmin t ht b
      by_cases l : dy T t ≤ c
      · rw [decide_eq_true l, decide_eq_true (by omega)]
      · rw [decide_eq_false l, decide_eq_false (by omega)]
    · rw [Bool.eq_false_iff.mpr b, Bool.false_and, Bool.false_and]
