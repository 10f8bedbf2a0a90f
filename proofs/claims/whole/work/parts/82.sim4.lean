/-! e: leaves -/
theorem e_find {sz : Nat} {Tc Tr : tT} {u h R : Nat} {hv cnt : Int32} (hh : hv.toInt = h) (h40 : h < 40) (c0 : 0 ≤ cnt) (c6 : cnt ≤ 6) (w : Int64) (vl : Nat → Int32 → Int32) (okl : Nat → Int32 → Prop) (hs : ∀ n v, vl (n + 1) v = if cnt ≤ v then -1 else if Tr.2.1 R ((6 : Int32) * hv + v).toNatClampNeg = w then v else vl n (v + 1)) (ho : ∀ n v, okl (n + 1) v = ((cnt ≤ v → True) ∧ (¬ cnt ≤ v → (vp_in ((6 : Int32) * hv + v) 240 ∧ ((¬ Tr.2.1 R ((6 : Int32) * hv + v).toNatClampNeg = w → okl n (v + 1)) ∧ (Tr.2.1 R ((6 : Int32) * hv + v).toNatClampNeg = w → True)))))) (hn : ∀ l : Nat, (l : Int) < cnt.toInt → Tc.2.1 u l = Tr.2.1 R (6 * h + l)) : vl fu 0 = v_X3_find Tc u cnt w ∧ okl fu 0 ∧ (v_X3_find Tc u cnt w = -1 ∨ (0 ≤ v_X3_find Tc u cnt w ∧ v_X3_find Tc u cnt w < cnt)) := by
  rw [tle, show (0 : Int32).toInt = 0 from rfl] at c0
  rw [tle, show (6 : Int32).toInt = 6 from rfl] at c6
  have key : ∀ (r n k : Nat) (v : Int32), v.toInt = k → (k : Int) + r = cnt.toInt → r < n → vl n v = vl_X3_find n Tc u cnt w v ∧ okl n v ∧ (vl_X3_find n Tc u cnt w v = -1 ∨ (0 ≤ vl_X3_find n Tc u cnt w v ∧ vl_X3_find n Tc u cnt w v < cnt)) := by
    intro r
    induction r with
    | zero =>
      intro n k v hv' hk hn'
      obtain ⟨n, rfl⟩ : ∃ n', n = n' + 1 := ⟨n - 1, by omega⟩
      have cc : cnt ≤ v := by rw [tle]; omega
      rw [hs, ho, vl_X3_find_s, if_pos cc, if_pos cc]
      exact ⟨rfl, ⟨fun _ => trivial, fun z => absurd cc z⟩, Or.inl rfl⟩
    | succ r ih =>
      intro n k v hv' hk hn'
      obtain ⟨n, rfl⟩ : ∃ n', n = n' + 1 := ⟨n - 1, by omega⟩
      have cc : ¬ cnt ≤ v := by rw [tle]; omega
      have c6' : ¬ nI 6 ≤ v := by rw [tle, nI_toInt (by omega)]; omega
      have ix := tix6 hh h40 hv' (show k < 6 by omega)
      have st : (v + 1).toInt = (k + 1 : Nat) := by rw [tinc' (by omega)]; omega
      obtain ⟨u1, u2, u3⟩ := ih n (k + 1) (v + 1) st (by omega) (by omega)
      rw [hs, ho, vl_X3_find_s, if_neg cc, if_neg cc, if_neg c6', tnN ix, tnN hv', hn k (by omega)]
      by_cases z : Tr.2.1 R (6 * h + k) = w
      · rw [if_pos z, if_pos z]
        refine ⟨rfl, ⟨fun y => absurd y cc, fun _ => ⟨by rw [vp_in_iff]; omega, fun y => absurd z y, fun _ => trivial⟩⟩, Or.inr ⟨?_, ?_⟩⟩
        · rw [tle, show (0 : Int32).toInt = 0 from rfl]; omega
        · rw [tlt]; omega
      · rw [if_neg z, if_neg z]
        exact ⟨u1, ⟨fun y => absurd y cc, fun _ => ⟨by rw [vp_in_iff]; omega, fun _ => u2, fun y => absurd y z⟩⟩, u3⟩
  obtain ⟨a1, a2, a3⟩ := key cnt.toInt.toNat fu 0 0 rfl (by omega) (by rw [fu_eq]; omega)
  exact ⟨a1, a2, a3⟩
theorem e_listOf {sz q h : Nat} {Tc Tr : tT} {hv : Int32} (hh : hv.toInt = h) (h40 : h < 40) (hn : NR q h Tc Tr) (w : Int64) : v_X11_listOf Tr hv w = v_X3_findList Tc q w ∧ ok_X11_listOf sz Tr hv w ∧ (v_X3_findList Tc q w = -1 ∨ (0 ≤ v_X3_findList Tc q w ∧ v_X3_findList Tc q w < Tc.1 q 1)) := by
  obtain ⟨⟨n1, n2, n3⟩, _, n4, _⟩ := hn
  refine e_find (sz := sz) (u := q + 1) (R := 126) hh h40 n2 n3 w (fun n v => vl_X11_listOf n Tr hv w v) (fun n v => okl_X11_listOf n sz Tr hv w v) (fun n v => ?_) (fun n v => ?_) n4
  · rw [n1, ← tnN hh]
    exact vl_X11_listOf_s n Tr hv w v
  · rw [n1, ← tnN hh]
    simp only [okl_X11_listOf]
    exact propext ⟨fun x => x.2, fun x => ⟨by rw [vp_in_iff]; omega, x⟩⟩
theorem e_partOf {sz q h : Nat} {Tc Tr : tT} {hv : Int32} (hh : hv.toInt = h) (h40 : h < 40) (hn : NR q h Tc Tr) (w : Int64) : v_X11_partOf Tr hv w = v_X3_findPart Tc q w ∧ ok_X11_partOf sz Tr hv w ∧ (v_X3_findPart Tc q w = -1 ∨ (0 ≤ v_X3_findPart Tc q w ∧ v_X3_findPart Tc q w < Tc.1 q 2)) := by
  obtain ⟨_, ⟨n1, n2, n3⟩, _, n4⟩ := hn
  refine e_find (sz := sz) (u := q + 4) (R := 128) hh h40 n2 n3 w (fun n v => vl_X11_partOf n Tr hv w v) (fun n v => okl_X11_partOf n sz Tr hv w v) (fun n v => ?_) (fun n v => ?_) n4
  · rw [n1, ← tnN hh]
    exact vl_X11_partOf_s n Tr hv w v
  · rw [n1, ← tnN hh]
    simp only [okl_X11_partOf]
    exact propext ⟨fun x => x.2, fun x => ⟨by rw [vp_in_iff]; omega, x⟩⟩
