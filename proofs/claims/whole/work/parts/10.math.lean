theorem mst_max : Cond.static Lib.Math.max.name ∈ ax_ws := ax_mem1 669 (by decide +kernel) rfl
theorem mcd_max : Cond.code Lib.Math.max.name Lib.Math.max.code 2 (some .int) ∈ ax_ws := ax_mem1 670 (by decide +kernel) rfl
theorem mlRX4_22 : Cond.methodLink RX4 22 Lib.Math.max.name ∈ ax_ws := ax_mem1 668 (by decide +kernel) rfl
theorem mst_min : Cond.static Lib.Math.min.name ∈ ax_ws := ax_mem1 685 (by decide +kernel) rfl
theorem mcd_min : Cond.code Lib.Math.min.name Lib.Math.min.code 2 (some .int) ∈ ax_ws := ax_mem1 686 (by decide +kernel) rfl
theorem mlRX4_85 : Cond.methodLink RX4 85 Lib.Math.min.name ∈ ax_ws := ax_mem1 684 (by decide +kernel) rfl
theorem mlRX7_75 : Cond.methodLink RX7 75 Lib.Math.min.name ∈ ax_ws := ax_mem1 826 (by decide +kernel) rfl
theorem mst_minl : Cond.static Lib.MathLoose.min_long.x ∈ ax_ws := ax_mem1 824 (by decide +kernel) rfl
theorem mcd_minl : Cond.code Lib.MathLoose.min_long.x Lib.MathLoose.min_long.code 4 (some .long) ∈ ax_ws := ax_mem1 825 (by decide +kernel) rfl
theorem mlRX7_69 : Cond.methodLink RX7 69 Lib.MathLoose.min_long.x ∈ ax_ws := ax_mem1 823 (by decide +kernel) rfl
theorem min_math : Cond.initialized "java/lang/Math" ∈ ax_ws := ax_mem1 13 (by decide +kernel) rfl
section AXMATH
variable {X : ax_X} {M : ax_M} {d pc k n : Nat} {L : List (Option Value)} {st : List Value} {h : ax_H}
theorem ax_catsum (g : Nat → Nat) (st : List Value) : ((st.map (ax_v g)).map fun v => v.category).sum = (st.map fun v => v.category).sum := by
  rw [List.map_map]
  have : ((fun v : Value => v.category) ∘ ax_v g) = fun v => v.category := by funext v; exact ax_cat g v
  rw [this]

theorem ax_mmax (hX : ax_ok X M (d + 1)) {idx : Nat} {x y : Int32} (hl : Cond.methodLink M.1.cls idx Lib.Math.max.name ∈ ax_ws) (hroom : (st.map fun v => v.category).sum ≤ 8) (hk : k ≤ M.2.2.2.2.1) (hn : n ≤ M.2.2.2.2.2) (hd : decode M.2.1 pc = .ok (.invokestatic idx, 3)) (kk : ax_j X (pc + 3) L (.int (if x < y then y else x) :: st) h k n) : ax_j X pc L (.int y :: .int x :: st) h k n := by
  obtain ⟨p, l, e, R, s, m, args, below, meth, c, Z, D, g⟩ := X
  refine fun H locs ls hR hS hL => ?_
  obtain ⟨hx, hb, hml, hrt, hown, hts, hlk, hnm, hT, hG, hsz, hRm⟩ := hX
  have hcs := ax_catsum g st
  refine va_mmax hx hb hL.1.symm hown (hts _ hl) (hts _ mst_max) (hts _ min_math) (hts _ mcd_max) (by have := hRm.1; omega) (by have := hRm.2.2.2; rw [hcs]; omega) (Nat.le_trans hk hRm.2.1) (Nat.le_trans hn hRm.2.2.1) hd (kk H locs ls hR hS hL)
theorem ax_mmin (hX : ax_ok X M (d + 1)) {idx : Nat} {x y : Int32} (hl : Cond.methodLink M.1.cls idx Lib.Math.min.name ∈ ax_ws) (hroom : (st.map fun v => v.category).sum ≤ 8) (hk : k ≤ M.2.2.2.2.1) (hn : n ≤ M.2.2.2.2.2) (hd : decode M.2.1 pc = .ok (.invokestatic idx, 3)) (kk : ax_j X (pc + 3) L (.int (if y < x then y else x) :: st) h k n) : ax_j X pc L (.int y :: .int x :: st) h k n := by
  obtain ⟨p, l, e, R, s, m, args, below, meth, c, Z, D, g⟩ := X
  refine fun H locs ls hR hS hL => ?_
  obtain ⟨hx, hb, hml, hrt, hown, hts, hlk, hnm, hT, hG, hsz, hRm⟩ := hX
  have hcs := ax_catsum g st
  refine va_mmin hx hb hL.1.symm hown (hts _ hl) (hts _ mst_min) (hts _ min_math) (hts _ mcd_min) (by have := hRm.1; omega) (by have := hRm.2.2.2; rw [hcs]; omega) (Nat.le_trans hk hRm.2.1) (Nat.le_trans hn hRm.2.2.1) hd (kk H locs ls hR hS hL)
theorem ax_mminl (hX : ax_ok X M (d + 1)) {idx : Nat} {x y : Int64} (hl : Cond.methodLink M.1.cls idx Lib.MathLoose.min_long.x ∈ ax_ws) (hroom : (st.map fun v => v.category).sum ≤ 8) (hk : k ≤ M.2.2.2.2.1) (hn : n ≤ M.2.2.2.2.2) (hd : decode M.2.1 pc = .ok (.invokestatic idx, 3)) (kk : ax_j X (pc + 3) L (.long (if y < x then y else x) :: st) h k n) : ax_j X pc L (.long y :: .long x :: st) h k n := by
  obtain ⟨p, l, e, R, s, m, args, below, meth, c, Z, D, g⟩ := X
  refine fun H locs ls hR hS hL => ?_
  obtain ⟨hx, hb, hml, hrt, hown, hts, hlk, hnm, hT, hG, hsz, hRm⟩ := hX
  have hcs := ax_catsum g st
  refine va_mmin_long hx hb hL.1.symm hown (hts _ hl) (hts _ mst_minl) (hts _ min_math) (hts _ mcd_minl) (by have := hRm.1; omega) (by have := hRm.2.2.2; rw [hcs]; omega) (Nat.le_trans hk hRm.2.1) (Nat.le_trans hn hRm.2.2.1) hd (kk H locs ls hR hS hL)
end AXMATH
