/-! an e from its start to its end -/
/-- both in step between items -/
def BR (sz N p b : Nat) (Tc Tr : tT) : Prop := EV N Tc Tr ∧ (Tr.1 105 12).toInt = b ∧ CS sz N p Tc ∧ TK N Tc Tr ∧ (Tc.1 3 1 = 0 ∧ Tr.1 105 4 = 0) ∧ Tr.1 105 13 = Tc.1 3 5 ∧ (0 ≤ (Tr.1 105 14).toInt ∧ (Tr.1 105 14).toInt ≤ (Tc.1 p 3).toInt) ∧ 0 ≤ phi p Tc
theorem ER_BR {sz N p q b h : Nat} {mv : Int32} {m : Bool} {ls ps : Int32} {s f k dp ht : Nat} {l : List (Int32 × Int32)} {Tc Tr : tT} (he : ER sz N p q b h mv m ls ps s f k dp ht l Tc Tr) : BR sz N p b Tc Tr := by
  obtain ⟨e1, e2, e3, e4, e5, ⟨l1, _, l3, l4, _⟩, _, _, e9⟩ := he
  exact ⟨e1.1, e1.2.1, e2, e3, e4, e5, ⟨by omega, by omega⟩, e9⟩
/-- how an e comes out -/
def OE (sz N p b : Nat) (m : Bool) (ls ps : Int32) (Tc Tr Tc' R : tT) : Prop :=
  (∃ l, EL p b m ls ps Tc' R (Tc.1 p 3).toInt.toNat (Tr.1 105 14).toInt.toNat l ∧ hts 0 l = some 1 ∧ BR sz N p b Tc' R ∧ phi p Tc + 2 ≤ phi p Tc' ∧ pos Tc + 1 ≤ pos Tc' ∧ kpC p Tc Tc' ∧ kpR b Tr R) ∨ FL Tc' R ∨ (Tc'.1 3 1 = 0 ∧ relK (Tc'.1 4 2) ∧ R.1 105 4 = 2 ∧ R.1 105 5 = Tc'.1 4 3)
theorem e_top {sz N p q b h : Nat} {hv mv : Int32} {m : Bool} {ls ps : Int32} {Tc Tr : tT} (g : gq p q) (hb : b < 5) (hh : hv.toInt = h) (h40 : h < 40) (hm : (mv = 1 ∧ m = true) ∨ (mv = 0 ∧ m = false)) (hB : BR sz N p b Tc Tr) (hN : NR q h Tc Tr) (hmv : Tc.1 3 4 = mv) (hls : Tc.1 q 1 = ls) (hps : Tc.1 q 2 = ps) : OE sz N p b m ls ps Tc Tr (Fc_readE Tc q 0) (F_X11_e Tr hv mv) ∧ fr (wRe b) Tr (F_X11_e Tr hv mv) ∧ SF sz N p Tc (Fc_readE Tc q 0) ∧ okc_readE sz Tc q 0 ∧ ok_X11_e sz Tr hv mv := by
  obtain ⟨sf, okc⟩ := SF_top (q := q) hB.2.2.1
  obtain ⟨b1, b2, b3, ⟨pl, e, t1, t2, t3, t4, t5, t6, t7, t8, t9, t10⟩, b5, b6, ⟨b7, b7'⟩, b8⟩ := hB
  generalize hT1 : tI (tI Tr 105 37 0) 105 38 0 = T1
  have f1 : fr (wl [129, 130] [(105, 37), (105, 38)]) Tr T1 := by rw [← hT1]; exact fr_I rfl (fr_I rfl fr_refl)
  have f1' : fr (wRe b) Tr T1 := by rw [← hT1]; exact fr_I (by unfold wRe; rfl) (fr_I (by unfold wRe; rfl) fr_refl)
  have r : ∀ i, i ≠ 37 → i ≠ 38 → T1.1 105 i = Tr.1 105 i := fun i i1 i2 => by
    rw [← hT1, tI_off (fun z => i2 z.2), tI_off (fun z => i1 z.2)]
  have sg : v_X11_sign T1 (Tr.1 105 6) = v_X11_sign Tr (Tr.1 105 6) := by
    unfold v_X11_sign
    rw [r 3 (by decide) (by decide), fr_ri f1 (k := 107) (fun _ => rfl)]
  have k0 : (T1.1 105 37).toInt = ((0 : Nat) : Int) := by
    rw [← hT1, tI_off (fun z => by have := z.2; omega), tI_at]
    rfl
  have d0 : (T1.1 105 38).toInt = ((0 : Nat) : Int) := by
    rw [← hT1, tI_at]
    rfl
  obtain ⟨u, hu, u7⟩ := b3.2.2.2.1
  have e0 : ER sz N p q b h mv m ls ps (Tc.1 p 3).toInt.toNat (Tr.1 105 14).toInt.toNat 0 0 0 [] Tc T1 := by
    refine ⟨S0_fr g ⟨b1, b2, hmv, hN, hls, hps⟩ fr_refl f1', b3, ⟨pl, e, t1, t2, by rw [r 6 (by decide) (by decide)]; exact t3, by rw [r 7 (by decide) (by decide)]; exact t4, t5, t6, t7, t8, t9, ?_⟩, ⟨b5.1, by rw [r 4 (by decide) (by decide)]; exact b5.2⟩, by rw [r 13 (by decide) (by decide)]; exact b6, ⟨by rw [List.length_nil]; omega, trivial, by rw [r 14 (by decide) (by decide), List.length_nil]; omega, by omega, trivial, fun x hx => absurd hx List.not_mem_nil, ?_⟩, rfl, ⟨k0, d0⟩, b8⟩
    · rw [r 6 (by decide) (by decide), r 8 (by decide) (by decide), r 9 (by decide) (by decide), fr_j f1 (k := 105) (i := 10) rfl, sg]
      exact t10
    · obtain ⟨lv, hlv, _⟩ := b3.2.2.2.2.1
      rw [hlv]
      show ((0 : Nat) : Int) ≤ lv
      omega
  obtain ⟨p1, p2, p3, p4, p5, p6⟩ := ER_pile e0 g (by decide) 7 0
  have hpos := pos_le p1
  have p00 : 0 ≤ pos Tc := by unfold pos; omega
  have N14 := b3.1.2.1
  have fP : fr (wRe b) Tr (F_X11_pile T1 7 0) := fun a i w => by
    have q1 := f1' a i w
    have q2 := p3 a i (by
      cases z : wl [129, 130] [(105, 37), (105, 38)] a i with
      | false => rfl
      | true =>
        exfalso
        simp only [wl, List.contains_iff_mem, List.mem_cons, List.not_mem_nil, Bool.or_eq_true, Prod.mk.injEq, or_false, false_or] at z
        have : wRe b a i = true := by
          unfold wRe
          rcases z with (rfl | rfl) | ⟨rfl, rfl⟩ | ⟨rfl, rfl⟩ <;> simp
        rw [this] at w
        cases w)
    exact ⟨q2.1.trans q1.1, q2.2.1.trans q1.2.1, q2.2.2.trans q1.2.2⟩
  have kP : kpR b Tr (F_X11_pile T1 7 0) := kpR_trans (kpR_pl f1) (kpR_pl p3)
  have eF : F_X11_e Tr hv mv = vl_X11_e fu (F_X11_pile T1 7 0) hv mv 0 := by
    unfold F_X11_e
    rw [hT1]
  have oF : okl_X11_e fu sz (F_X11_pile T1 7 0) hv mv 0 → ok_X11_e sz Tr hv mv := fun o => by
    unfold ok_X11_e
    rw [hT1]
    exact ⟨p2, o⟩
  have out : OUT sz N p q b h hv mv m ls ps (Tc.1 p 3).toInt.toNat (Tr.1 105 14).toInt.toNat 1 0 0 (fun kd => rk kd = 0) True Tc (F_X11_pile T1 7 0) (Fc_readE Tc q 0) (F_X11_e Tr hv mv) (ok_X11_e sz Tr hv mv) := S_top g hb hh h40 hm Tc (F_X11_pile T1 7 0) 0 0 [] fu (F_X11_e Tr hv mv) (ok_X11_e sz Tr hv mv) p1 (by
    show 6 ≤ ((F_X11_pile T1 7 0).1 129 0).toInt
    rw [p4]
    decide) (by omega) trivial (by rw [fu_eq]; omega) eF oF
  rcases OUT_iff.mp out with ⟨⟨Tr2, l2, n2, m2, r1, r3, r4, r5, r6, r7, r8, r9, r10, r11, r12⟩, r2⟩ | ⟨r1, r2, r3⟩ | ⟨_, r1, r2, r3, r4, r5, r6⟩
  · have r2 : rk ((Fc_readE Tc q 0).1 4 2) = 0 := r2
    rw [r2] at r11 r12
    have pN := pos_le r1
    obtain ⟨n2, rfl⟩ : ∃ x, n2 = x + 1 := ⟨n2 - 1, by omega⟩
    obtain ⟨m2, rfl⟩ : ∃ x, m2 = x + 2 := ⟨m2 - 2, by omega⟩
    have w7 : Tr2.1 129 0 = 7 := by rw [(r8 0 (by omega)).1]; exact p4
    obtain ⟨y1, y2⟩ := KB_all (sz := sz) (n := n2) (m' := m2) (hv := hv) (mv := mv) r1.2.2.2.2.2.2.2.1.1 w7 r1.2.2.2.1.2
    rw [y1] at r11
    have f2 : fr (wl [129, 130] [(105, 37), (105, 38)]) Tr2 (tI Tr2 105 37 (Tr2.1 105 37 - 1)) := fr_I rfl fr_refl
    have e2 := ER_pl r1 g f2 (k' := 0) (dp' := 0) (by rw [tI_at]; exact (km1 (k := 0) r1.2.2.2.2.2.2.2.1.1 (by decide)).1) (by rw [tI_off (fun z => by have := z.2; omega)]; exact r1.2.2.2.2.2.2.2.1.2)
    rw [r11]
    refine ⟨Or.inl ⟨l2, e2.2.2.2.2.2.1, e2.2.2.2.2.2.2.1, ER_BR e2, r3, r4, r6, kpR_trans kP (kpR_trans r7 (kpR_pl f2))⟩, fr_trans fP (fr_trans r5 (fr_I (by unfold wRe; rfl) fr_refl)), sf, okc, r12 y2⟩
  · exact ⟨Or.inr (Or.inl r1), fr_trans fP r3, sf, okc, r2⟩
  · exact ⟨Or.inr (Or.inr ⟨r1, r2, r3, r4⟩), fr_trans fP r6, sf, okc, r5⟩
/-- the next token, between items -/
theorem BR_next {sz N p b : Nat} {Tc Tr : tT} (h : BR sz N p b Tc Tr) : BR sz N p b (F_X9_next Tc) (F_X11_next Tr) ∧ fr w4 Tc (F_X9_next Tc) ∧ fr w5 Tr (F_X11_next Tr) ∧ ok_X9_next sz Tc ∧ ok_X11_next sz Tr ∧ pos Tc ≤ pos (F_X9_next Tc) ∧ (Tc.1 4 2 ≠ 0 → pos Tc + 1 ≤ pos (F_X9_next Tc)) ∧ (Tc.1 4 2 = 204 ∨ Tc.1 4 2 = 205 ∨ Tc.1 4 2 = 206 ∨ Tc.1 4 2 = 209 → pos Tc + 3 ≤ pos (F_X9_next Tc)) ∧ phi p (F_X9_next Tc) = phi p Tc + (pos (F_X9_next Tc) - pos Tc) := by
  obtain ⟨b1, b2, b3, ⟨pl, e, t1, t2, t3, t4, t5, t6, t7, t8, t9, t10⟩, b5, b6, b7, b8⟩ := h
  obtain ⟨⟨n1, n2, n3, n4⟩, n5, n6⟩ := e_tok (sz := sz) b1 t2 t6 t4
  obtain ⟨s1, _⟩ := SF_next b3
  have p6 := b3.2.2.2.2.2.2
  have c3 : ∀ i, (F_X9_next Tc).1 3 i = Tc.1 3 i := fun i => fr_i n2 (k := 3) (i := i) rfl
  have cp : (F_X9_next Tc).1 p 3 = Tc.1 p 3 := fr_i n2 (w4_z (by omega))
  have ph : phi p (F_X9_next Tc) = phi p Tc + (pos (F_X9_next Tc) - pos Tc) := by
    unfold phi pos
    rw [c3, cp]
    omega
  have mono : pos Tc ≤ pos (F_X9_next Tc) := by unfold pos; omega
  refine ⟨⟨?_, by rw [fr_i n3 (k := 105) (i := 12) rfl]; exact b2, s1.1, n1, ⟨by rw [c3]; exact b5.1, (fr_i n3 (k := 105) (i := 4) rfl).trans b5.2⟩, by rw [c3, fr_i n3 (k := 105) (i := 13) rfl]; exact b6, by rw [cp, fr_i n3 (k := 105) (i := 14) rfl]; exact b7, by rw [ph]; omega⟩, n2, n3, n5, n6, mono, fun w => ?_, fun w => ?_, ph⟩
  · obtain ⟨⟨a1, a2, a3⟩, ⟨a4, a5⟩, a6⟩ := b1
    refine ⟨⟨by rw [fr_i n2 (k := 4) (i := 1) rfl]; exact a1, a2, by rw [fr_rj n2 (k := 1) (fun _ => rfl)]; exact a3⟩, ⟨by rw [fr_i n3 (k := 105) (i := 3) rfl]; exact a4, a5⟩, ?_⟩
    unfold bC bR
    rw [fr_ri n2 (k := 5) (fun _ => rfl), fr_ri n3 (k := 107) (fun _ => rfl)]
    exact a6
  · have := t8 w
    unfold pos
    omega
  · have := t9 w
    unfold pos
    omega
