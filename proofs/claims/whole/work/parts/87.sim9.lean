/-! e: the whole descent -/
def relK (k : Int32) : Prop := k = 60 ∨ k = 61 ∨ k = 62
theorem OUT_P {sz N p q b h : Nat} {hv mv : Int32} {m : Bool} {ls ps : Int32} {s f k dp ht : Nat} {Tc Tr Tc' R : tT} {OK : Prop} {P P' : Int32 → Prop} {pe pe' : Prop} (h1 : OUT sz N p q b h hv mv m ls ps s f k dp ht P pe Tc Tr Tc' R OK) (hP : P (Tc'.1 4 2) → P' (Tc'.1 4 2)) (hp : pe → pe') : OUT sz N p q b h hv mv m ls ps s f k dp ht P' pe' Tc Tr Tc' R OK := by
  rcases OUT_iff.mp h1 with ⟨x1, x2⟩ | x | ⟨x0, x1⟩
  · exact OUT_iff.mpr (Or.inl ⟨x1, hP x2⟩)
  · exact OUT_iff.mpr (Or.inr (Or.inl x))
  · exact OUT_iff.mpr (Or.inr (Or.inr ⟨hp x0, x1⟩))
section
variable {sz N p q b h : Nat} {hv mv : Int32} {m : Bool} {ls ps : Int32} {s f dp : Nat}
/-- a chain of parts with signs of one rank between them -/
theorem S_loop {k ht : Nat} {R : tT} {OK : Prop} (g : gq p q) (hb : b < 5) (d9 : dp ≤ 9) {bd : Nat} (kb : k + 2 ≤ bd) (k79 : k + 2 ≤ 79) {SG : Int32 → Prop} {r : Int32} (hSG : ∀ kd, SG kd → bK kd ∧ rk kd = r) (r4 : r ≠ 4) {G : tT → tT} {st : Int32} (hst : st = if 3 ≤ r then 1 else 0) {C : Int → Prop} (hC : C r.toInt) {Pg : Int32 → Prop} {pg : Prop} {gd : Int32 → Prop} (hgd : ∀ kd, gd kd) (hG : SIM sz N p q b h hv mv m ls ps s f dp G st bd C Pg pg gd) (sG : ∀ T, CS sz N p T → SF sz N p T (G T)) (hP : ∀ kd, Pg kd → (rk kd).toInt ≤ r.toInt) (hPg : ∀ kd, pg → relK kd → ¬ SG kd ∧ ¬ Pg kd) {LP : Nat → tT → Int32 → tT} (hLP : ∀ n T v, CS sz N p T → (v.toInt < 1400 → T.1 3 1 = 0 → SG (T.1 4 2) → LP (n + 1) T v = LP n (F_X8_addCell (G (F_X9_next T)) p (T.1 4 2) 0) (v + 1)) ∧ (1400 ≤ v.toInt ∨ T.1 3 1 ≠ 0 ∨ ¬ SG (T.1 4 2) → LP (n + 1) T v = T)) {Tc0 Tr0 : tT} (hph : 0 ≤ phi p Tc0) (top : 5 < (Tr0.1 129 k).toInt ∨ (Tr0.1 129 k).toInt < r.toInt) : ∀ (j n : Nat) (Tc1 : tT) (v : Int32), 0 ≤ v.toInt → v.toInt ≤ 1400 → imp (OKS sz N p q b h hv mv m ls ps s f (k + 1) dp ht Tc0 Tr0 Tc1 R OK ∧ Pg (Tc1.1 4 2)) (v.toInt ≤ pos Tc1 ∧ (N : Int) ≤ pos Tc1 + j) → CS sz N p Tc1 → j < n → OUT sz N p q b h hv mv m ls ps s f (k + 1) dp ht Pg pg Tc0 Tr0 Tc1 R OK → OUT sz N p q b h hv mv m ls ps s f (k + 1) dp ht (fun kd => Pg kd ∧ ¬ SG kd) pg Tc0 Tr0 (LP n Tc1 v) R OK := by
  intro j
  induction j with
  | zero =>
    intro n Tc1 v v0 v14 hA hcs hn ho
    obtain ⟨n, rfl⟩ : ∃ n', n = n' + 1 := ⟨n - 1, by omega⟩
    obtain ⟨_, l2⟩ := hLP n Tc1 v hcs
    rcases OUT_iff.mp ho with ⟨o1, o2⟩ | ⟨o1, o2, o3⟩ | ⟨o0, o1, o2, o3⟩
    · have ns : ¬ SG (Tc1.1 4 2) := by
        intro w
        have hj := (hA ⟨o1, o2⟩).2
        obtain ⟨Tr1, l1, n1, m1, e1, _⟩ := o1
        obtain ⟨pl, e, t1, _, _, _, _, t6, _, t8, _⟩ := e1.2.2.1
        have := t8 (bK_f (hSG _ w).1).2.2.2.1
        unfold pos at hj
        omega
      rw [l2 (Or.inr (Or.inr ns))]
      exact OUT_iff.mpr (Or.inl ⟨o1, o2, ns⟩)
    · rw [l2 (Or.inr (Or.inl o1.1))]
      exact OUT_iff.mpr (Or.inr (Or.inl ⟨o1, o2, o3⟩))
    · rw [l2 (Or.inr (Or.inr (hPg _ o0 o2).1))]
      exact OUT_iff.mpr (Or.inr (Or.inr ⟨o0, o1, o2, o3⟩))
  | succ j ih =>
    intro n Tc1 v v0 v14 hA hcs hn ho
    obtain ⟨n, rfl⟩ : ∃ n', n = n' + 1 := ⟨n - 1, by omega⟩
    obtain ⟨l1, l2⟩ := hLP n Tc1 v hcs
    rcases OUT_iff.mp ho with ⟨o1, o2⟩ | ⟨o1, o2, o3⟩ | ⟨o0, o1, o2, o3⟩
    · by_cases w : SG (Tc1.1 4 2)
      · obtain ⟨w1, w2⟩ := hSG _ w
        obtain ⟨hv1, hj1⟩ := hA ⟨o1, o2⟩
        have o1' := o1
        obtain ⟨Tr1, ll, n1, m1, e1, _⟩ := o1'
        have N14 := hcs.1.2.1
        have pl1 : pos Tc1 < N := by
          obtain ⟨pl, e, t1, _, _, _, _, t6, _, t8, _⟩ := e1.2.2.1
          have := t8 (bK_f w1).2.2.2.1
          unfold pos
          omega
        rw [l1 (by omega) e1.2.2.2.1.1 w]
        have scs := (SF_cell (sG (F_X9_next Tc1) (SF_next hcs).1.1).1 (Tc1.1 4 2) 0).1
        obtain ⟨out, prog⟩ := S_bin g hb o1 hph w1 d9 kb k79 (st := st) (by rw [w2]; exact hst) (C := C) (by rw [w2]; exact hC) hgd hG sG (by rw [w2]; exact top) (fun kd hk => by rw [w2]; exact hP kd hk)
        have v1 : (v + 1).toInt = v.toInt + 1 := tinc' (by omega)
        refine ih n _ (v + 1) (by omega) (by omega) (fun hh => ?_) scs.1 (by omega) (OUT_P out (fun z => z.1) (fun z => ?_))
        · have pr : pos Tc1 + 1 ≤ pos (F_X8_addCell (G (F_X9_next Tc1)) p (Tc1.1 4 2) 0) := by
            rcases prog with z | z | ⟨z1, z2⟩
            · exact z
            · obtain ⟨⟨_, _, _, _, e2, _⟩, _⟩ := hh
              exact absurd e2.2.2.2.1.1 z
            · rcases z1 with z1 | z1
              · exact absurd hh.2 (hPg _ z1 z2).2
              · rw [w2] at z1
                exact absurd z1 r4
          omega
        · rcases z with z | z
          · exact z
          · rw [w2] at z
            exact absurd z r4
      · rw [l2 (Or.inr (Or.inr w))]
        exact OUT_iff.mpr (Or.inl ⟨o1, o2, w⟩)
    · rw [l2 (Or.inr (Or.inl o1.1))]
      exact OUT_iff.mpr (Or.inr (Or.inl ⟨o1, o2, o3⟩))
    · rw [l2 (Or.inr (Or.inr (hPg _ o0 o2).1))]
      exact OUT_iff.mpr (Or.inr (Or.inr ⟨o0, o1, o2, o3⟩))
/-- a chain from its start -/
theorem S_chain (g : gq p q) (hb : b < 5) (d9 : dp ≤ 9) {bd bd' : Nat} (kb : bd + 1 ≤ bd') (k79 : bd + 1 ≤ 79) {SG : Int32 → Prop} {r : Int32} (hSG : ∀ kd, SG kd → bK kd ∧ rk kd = r) (r4 : r ≠ 4) {G : tT → tT} {st st0 : Int32} (hst : st = if 3 ≤ r then 1 else 0) {C C0 : Int → Prop} (hC : C r.toInt) (hC0 : ∀ t, C0 t → C t ∧ (5 < t ∨ t < r.toInt)) {Pg : Int32 → Prop} {pg : Prop} {gd gd0 : Int32 → Prop} (hgd : ∀ kd, gd kd) (hG : SIM sz N p q b h hv mv m ls ps s f dp G st bd' C Pg pg gd) (hG0 : SIM sz N p q b h hv mv m ls ps s f dp G st0 bd' C Pg pg gd0) (sG : ∀ T, CS sz N p T → SF sz N p T (G T)) (hP : ∀ kd, Pg kd → (rk kd).toInt ≤ r.toInt) (hPg : ∀ kd, pg → relK kd → ¬ SG kd ∧ ¬ Pg kd) {LP : Nat → tT → Int32 → tT} (hLP : ∀ n T v, CS sz N p T → (v.toInt < 1400 → T.1 3 1 = 0 → SG (T.1 4 2) → LP (n + 1) T v = LP n (F_X8_addCell (G (F_X9_next T)) p (T.1 4 2) 0) (v + 1)) ∧ (1400 ≤ v.toInt ∨ T.1 3 1 ≠ 0 ∨ ¬ SG (T.1 4 2) → LP (n + 1) T v = T)) : SIM sz N p q b h hv mv m ls ps s f dp (fun T => LP fu (G T) 0) st0 bd C0 (fun kd => Pg kd ∧ ¬ SG kd) pg gd0 := by
  intro Tc Tr k ht l n R OK he hc kb' hgd' hn hR hO
  obtain ⟨c1, c2⟩ := hC0 _ hc
  have out := hG0 Tc Tr k ht l n R OK he c1 (by omega) hgd' hn hR hO
  have N14 := he.2.1.1.2.1
  have p0 : 0 ≤ pos Tc := by
    obtain ⟨pl, e, t1, _⟩ := he.2.2.1
    unfold pos
    omega
  refine S_loop g hb d9 (bd := bd') (by omega) (by omega) hSG r4 hst hC hgd hG sG hP hPg hLP he.2.2.2.2.2.2.2.2 c2 N fu (G Tc) 0 (by decide) (by decide) (fun hh => ?_) (sG Tc he.2.1).1 (by rw [fu_eq]; omega) out
  obtain ⟨⟨_, _, _, _, _, _, a2, _⟩, _⟩ := hh
  rw [show (0 : Int32).toInt = 0 from rfl]
  omega
end
