/-! solve: values that are reached are not below 0 -/
theorem Reach_0 {c : Nat → Nat → Int} {g : Nat → Nat → Prop} {A : Nat} : ∀ (x m : Nat) (v : Int), (∀ y o, y < x → o < A → 0 ≤ c y o) → Reach c g A x m v → 0 ≤ v
  | 0, m, v, _, h => by rw [h.2]; exact Int.le_refl _
  | x + 1, m, v, hc, ⟨o, m', v', h1, h2, h3, h4, h5, h6, h7⟩ => by
    have a := Reach_0 x m' v' (fun y o hy ho => hc y o (by omega) ho) h1
    have b := hc x o (by omega) h4
    omega
theorem Lst_0 {c : Nat → Nat → Int} {g : Nat → Nat → Prop} {A x m : Nat} {v : Int} (hc : ∀ y o, y < x → o < A → 0 ≤ c y o) (h : Lst c g A x m v) : 0 ≤ v ∧ v ≤ 1000000 := by
  refine ⟨?_, h.1⟩
  by_cases q : v < 1000000
  · exact Reach_0 x m v hc (h.2.1 q)
  · omega
theorem Lsp_0 {c : Nat → Nat → Int} {g : Nat → Nat → Prop} {A x m : Nat} {v : Int} {D : Nat → Nat → Prop} (hc : ∀ y o, y < x + 1 → o < A → 0 ≤ c y o) (h : Lsp c g A x D m v) : 0 ≤ v ∧ v ≤ 1000000 := by
  refine ⟨?_, h.1⟩
  by_cases q : v < 1000000
  · exact Reach_0 (x + 1) m v hc (h.2.1 q)
  · omega
theorem Lst_init {c : Nat → Nat → Int} {g : Nat → Nat → Prop} {A m : Nat} : Lst c g A 0 m (if m = 0 then 0 else 1000000) := by
  by_cases q : m = 0
  · rw [if_pos q]
    exact ⟨by decide, fun _ => ⟨q, rfl⟩, fun u h => by rw [h.2]; exact Int.le_refl _⟩
  · rw [if_neg q]
    exact ⟨Int.le_refl _, fun h => absurd h (by decide), fun u h => absurd h.1 q⟩
theorem Lsp_init {c : Nat → Nat → Int} {g : Nat → Nat → Prop} {A x m : Nat} : Lsp c g A x (fun _ _ => False) m 1000000 := ⟨Int.le_refl _, fun h => absurd h (by decide), fun _ _ _ h => absurd h id⟩
theorem ix512 {x y : Int32} {a b : Nat} (hx : x.toInt = a) (hy : y.toInt = b) (ha : a < 6) (hb : b < 512) : (512 * x + y).toInt = (512 * a + b : Nat) := by
  have z : (512 : Int32).toInt = 512 := rfl
  have m : ((512 : Int32) * x).toInt = 512 * a := by rw [tmul (by rw [z]; omega) (by rw [z]; omega), z, hx]
  rw [tadd (by omega) (by omega)]
  omega
