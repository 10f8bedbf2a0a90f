/-! e: values -/
theorem isMeant_i {T : tT} {i : Nat} (hi : i < 15) : (v_X11_isMeant T (kw i) = 0 ↔ i < 10) := by
  have : i = 0 ∨ i = 1 ∨ i = 2 ∨ i = 3 ∨ i = 4 ∨ i = 5 ∨ i = 6 ∨ i = 7 ∨ i = 8 ∨ i = 9 ∨ i = 10 ∨ i = 11 ∨ i = 12 ∨ i = 13 ∨ i = 14 := by omega
  rcases this with rfl | rfl | rfl | rfl | rfl | rfl | rfl | rfl | rfl | rfl | rfl | rfl | rfl | rfl | rfl <;> unfold v_X11_isMeant <;> decide
theorem fu8 : ∃ n, fu = n + 8 := ⟨9999992, by rw [fu_eq]⟩
section
variable {sz N p q b h : Nat} {hv mv st : Int32} {m : Bool} {ls ps : Int32} {s f k dp ht : Nat} {l : List (Int32 × Int32)} {Tc Tr : tT}
/-- no bracket, no not -/
theorem val_red (hk : TK N Tc Tr) (hr : RE N Tr) (h1 : Tc.1 4 2 ≠ 40) (h2 : st = 0 → Tc.1 4 2 ≠ 209) : F_X11_value Tr st hv mv = (vl_X11_value fu).2.1 Tr hv mv ∧ ((okl_X11_value fu).2.1 sz Tr hv mv → ok_X11_value sz Tr st hv mv) := by
  have i40 : v_X11_is Tr 40 = 0 := (tk_is hk (by unfold isS; decide)).mpr h1
  have o40 := is_ok (sz := sz) hk hr 40
  unfold F_X11_value ok_X11_value
  rw [if_pos i40]
  by_cases c : st = 0
  · have w9 : v_X11_isWord Tr 7237492 = 0 := (tk_word hk (i := 9) (by decide)).mpr (h2 c)
    rw [if_pos c, if_pos w9]
    exact ⟨rfl, fun o => ⟨o40, fun w => absurd i40 w, fun _ => ⟨fun w => absurd c w, fun _ => ⟨fun _ => o, fun w => absurd w9 w⟩⟩⟩⟩
  · rw [if_neg c]
    exact ⟨rfl, fun o => ⟨o40, fun w => absurd i40 w, fun _ => ⟨fun _ => o, fun w => absurd w c⟩⟩⟩
/-- not a leaf, or one too many -/
theorem val_bad (hk : TK N Tc Tr) (h0 : Tr.1 105 4 = 0) (hb : ¬ lfT (Tc.1 4 2) ∨ Tr.1 105 13 = 150) : (vl_X11_value fu).2.1 Tr hv mv = (0, F_X11_wrong Tr) ∧ (okl_X11_value fu).2.1 sz Tr hv mv := by
  obtain ⟨F, hF⟩ := fu8
  have g0 := good0 (wrong_ne h0)
  have e8 : ∀ n w, (vl_X11_value (n + 1)).2.2.2.2.2.2.2.2 (F_X11_wrong Tr) hv mv w = (0, F_X11_wrong Tr) ∧ (okl_X11_value (n + 1)).2.2.2.2.2.2.2.2 sz (F_X11_wrong Tr) hv mv w := fun n w => by
    rw [vl_X11_value_s8, okl_X11_value_s8, if_pos g0]
    exact ⟨rfl, fun z => absurd g0 z, fun _ => trivial⟩
  have e7 : ∀ n w, (vl_X11_value (n + 2)).2.2.2.2.2.2.2.1 Tr hv mv w = (0, F_X11_wrong Tr) ∧ (okl_X11_value (n + 2)).2.2.2.2.2.2.2.1 sz Tr hv mv w := fun n w => by
    rw [vl_X11_value_s7, okl_X11_value_s7]
    exact e8 n w
  have e6 : Tr.1 105 13 = 150 → ∀ n w, (vl_X11_value (n + 3)).2.2.2.2.2.2.1 Tr hv mv w = (0, F_X11_wrong Tr) ∧ (okl_X11_value (n + 3)).2.2.2.2.2.2.1 sz Tr hv mv w := fun l n w => by
    rw [vl_X11_value_s6, okl_X11_value_s6, if_pos l]
    exact ⟨(e7 n w).1, fun z => absurd l z, fun _ => (e7 n w).2⟩
  have e5 : ∀ n (w : Int32), (Tr.1 105 8 = 4 ∨ ¬ w = 0 → Tr.1 105 13 = 150) → (vl_X11_value (n + 4)).2.2.2.2.2.1 Tr hv mv w = (0, F_X11_wrong Tr) ∧ (okl_X11_value (n + 4)).2.2.2.2.2.1 sz Tr hv mv w := fun n w hw => by
    rw [vl_X11_value_s5, okl_X11_value_s5]
    by_cases c4 : Tr.1 105 8 = 4
    · rw [if_pos c4]
      have := e6 (hw (Or.inl c4)) n w
      exact ⟨this.1, fun _ => this.2, fun z => absurd c4 z⟩
    · rw [if_neg c4]
      by_cases cw : w = 0
      · rw [if_pos cw]
        exact ⟨(e7 (n + 1) w).1, fun z => absurd z c4, fun _ => ⟨fun _ => (e7 (n + 1) w).2, fun z => absurd cw z⟩⟩
      · rw [if_neg cw]
        have := e6 (hw (Or.inr cw)) n w
        exact ⟨this.1, fun z => absurd z c4, fun _ => ⟨fun z => absurd z cw, fun _ => this.2⟩⟩
  obtain ⟨pl, e, _, _, _, _, _, _, _, _, _, kr⟩ := hk
  have ls1 : ∀ {x : Prop}, (x → lfT (Tc.1 4 2)) → x → Tr.1 105 13 = 150 := fun hx x => by
    rcases hb with hb | hb
    · exact absurd (hx x) hb
    · exact hb
  rw [hF, vl_X11_value_s1, okl_X11_value_s1, vl_X11_value_s3, vl_X11_value_s4, okl_X11_value_s3, okl_X11_value_s4]
  have one : ((Tr.1 105 8 = 4 ∨ ¬ (1 : Int32) = 0) → Tr.1 105 13 = 150) → (vl_X11_value (F + 6)).2.2.2.2.2.1 Tr hv mv 1 = (0, F_X11_wrong Tr) ∧ (okl_X11_value (F + 6)).2.2.2.2.2.1 sz Tr hv mv 1 := e5 (F + 2) 1
  have zer : ((Tr.1 105 8 = 4 ∨ ¬ (0 : Int32) = 0) → Tr.1 105 13 = 150) → (vl_X11_value (F + 6)).2.2.2.2.2.1 Tr hv mv 0 = (0, F_X11_wrong Tr) ∧ (okl_X11_value (F + 6)).2.2.2.2.2.1 sz Tr hv mv 0 := e5 (F + 2) 0
  rcases kr with ⟨k1, k2⟩ | ⟨k1, k2⟩ | ⟨k1, k2, _⟩ | ⟨k1, k2, _⟩ | ⟨j, j1, k1, k2, k3⟩ | ⟨k1, k2, k3⟩
  · rw [k2, if_neg (by decide), if_neg (by decide)]
    have := zer (fun w => by rw [k2] at w; exact absurd w (by decide))
    exact ⟨this.1, fun z => absurd z (by decide), fun _ => ⟨fun _ => this.2, fun z => absurd z (by decide)⟩⟩
  · rw [k2, if_neg (by decide), if_neg (by decide)]
    have := zer (fun w => by rw [k2] at w; exact absurd w (by decide))
    exact ⟨this.1, fun z => absurd z (by decide), fun _ => ⟨fun _ => this.2, fun z => absurd z (by decide)⟩⟩
  · rw [k2, if_neg (by decide), if_neg (by decide)]
    have := zer (ls1 (fun _ => Or.inl k1))
    exact ⟨this.1, fun z => absurd z (by decide), fun _ => ⟨fun _ => this.2, fun z => absurd z (by decide)⟩⟩
  · rw [k2, if_pos rfl]
    have := one (ls1 (fun _ => Or.inr (Or.inl k1)))
    exact ⟨this.1, fun _ => this.2, fun z => absurd rfl z⟩
  · rw [k2, if_neg (by decide), if_pos rfl, k3]
    by_cases c : j < 10
    · have mz := (isMeant_i (T := Tr) j1).mpr c
      rw [if_pos mz]
      have := zer (fun w => by rw [k2] at w; exact absurd w (by decide))
      exact ⟨this.1, fun z => absurd z (by decide), fun _ => ⟨fun z => absurd rfl z, fun _ => ⟨fun _ => this.2, fun z => absurd mz z⟩⟩⟩
    · have mz : ¬ v_X11_isMeant Tr (kw j) = 0 := fun z => c ((isMeant_i (T := Tr) j1).mp z)
      rw [if_neg mz]
      have := one (ls1 (fun _ => Or.inr (Or.inr ⟨j, by omega, j1, k1⟩)))
      exact ⟨this.1, fun z => absurd z (by decide), fun _ => ⟨fun z => absurd rfl z, fun _ => ⟨fun z => absurd z mz, fun _ => this.2⟩⟩⟩
  · rw [k2, if_neg (by decide), if_neg (by decide)]
    have := zer (fun w => by rw [k2] at w; exact absurd w (by decide))
    exact ⟨this.1, fun z => absurd z (by decide), fun _ => ⟨fun _ => this.2, fun z => absurd z (by decide)⟩⟩
/-- a leaf -/
theorem val_lf (hk : TK N Tc Tr) (h0 : Tr.1 105 4 = 0) (hl : lfT (Tc.1 4 2)) (h15 : ¬ Tr.1 105 13 = 150) : (Tc.1 4 2 = 2 → ∀ X, X = F_X11_step (tI Tr 105 13 (Tr.1 105 13 + 1)) 110 (Tr.1 105 9) → ok_X11_step sz (tI Tr 105 13 (Tr.1 105 13 + 1)) 110 (Tr.1 105 9) → X.1 105 4 = 0 → ok_X11_next sz X → (vl_X11_value fu).2.1 Tr hv mv = (2, F_X11_next X) ∧ (okl_X11_value fu).2.1 sz Tr hv mv) ∧ (Tc.1 4 2 ≠ 2 → ∀ X, X = F_X11_meant (tI Tr 105 13 (Tr.1 105 13 + 1)) hv mv → ok_X11_meant sz (tI Tr 105 13 (Tr.1 105 13 + 1)) hv mv → ((X.1 105 4 = 0 → ok_X11_next sz X → (vl_X11_value fu).2.1 Tr hv mv = (2, F_X11_next X) ∧ (okl_X11_value fu).2.1 sz Tr hv mv) ∧ (X.1 105 4 ≠ 0 → (vl_X11_value fu).2.1 Tr hv mv = (2, X) ∧ (okl_X11_value fu).2.1 sz Tr hv mv))) := by
  obtain ⟨F, hF⟩ := fu8
  have g1 := good1 h0
  obtain ⟨pl, e, _, _, _, _, _, _, _, _, _, kr⟩ := hk
  have z2 : (2 : Int32).toInt = 2 := rfl
  have z3 : (3 : Int32).toInt = 3 := rfl
  refine ⟨fun k2 X hX ok1 x0 ok2 => ?_, fun k2 X hX ok1 => ?_⟩
  · have tt : Tr.1 105 8 = 4 := by
      rcases kr with ⟨k1, _⟩ | ⟨k1, _⟩ | ⟨k1, t, _⟩ | ⟨k1, _⟩ | ⟨j, j1, k1, _⟩ | ⟨k1, _⟩
      · rw [k2] at k1; exact absurd k1 (by decide)
      · rw [k2] at k1; exact absurd k1 (by decide)
      · exact t
      · rw [k2] at k1; exact absurd k1 (by decide)
      · rw [k2, teq, nI_toInt (by omega), z2] at k1; omega
      · have := isS_lt k1
        rw [k2, z2] at this
        omega
    have g2 := good1 x0
    rw [hF, vl_X11_value_s1, okl_X11_value_s1, tt, if_neg (by decide), if_neg (by decide), vl_X11_value_s4, okl_X11_value_s4, vl_X11_value_s5, okl_X11_value_s5, tt, if_pos rfl, vl_X11_value_s6, okl_X11_value_s6, if_neg h15, vl_X11_value_s8, okl_X11_value_s8, if_neg g1, if_pos rfl, ← hX, if_neg g2]
    exact ⟨rfl, fun z => absurd z (by decide), fun _ => ⟨fun _ => ⟨fun _ => ⟨fun _ => ⟨fun _ => ⟨fun _ => ⟨ok1, fun z => absurd z g2, fun _ => ⟨ok2, trivial⟩⟩, fun z => absurd rfl z⟩, fun z => absurd z g1⟩, fun z => absurd z h15⟩, fun z => absurd rfl z⟩, fun z => absurd z (by decide)⟩⟩
  · have n4 : ¬ Tr.1 105 8 = 4 := by
      rcases kr with ⟨k1, t⟩ | ⟨k1, t⟩ | ⟨k1, t, _⟩ | ⟨k1, t, _⟩ | ⟨j, j1, k1, t, _⟩ | ⟨k1, t, _⟩
      · rw [t]; decide
      · rw [t]; decide
      · exact absurd k1 k2
      · rw [t]; decide
      · rw [t]; decide
      · rw [t]; decide
    have red : (vl_X11_value fu).2.1 Tr hv mv = (vl_X11_value (F + 6)).2.2.2.2.2.1 Tr hv mv 1 ∧ ((okl_X11_value (F + 6)).2.2.2.2.2.1 sz Tr hv mv 1 → (okl_X11_value fu).2.1 sz Tr hv mv) := by
      rw [hF, vl_X11_value_s1, okl_X11_value_s1, vl_X11_value_s3, okl_X11_value_s3]
      rcases kr with ⟨k1, t⟩ | ⟨k1, t⟩ | ⟨k1, t, _⟩ | ⟨k1, t, _⟩ | ⟨j, j1, k1, t, t2⟩ | ⟨k1, t, _⟩
      · exfalso
        rcases hl with w | w | ⟨i, i1, i2, w⟩
        · exact k2 w
        · rw [k1] at w; exact absurd w (by decide)
        · rw [k1, teq, nI_toInt (by omega), show (0 : Int32).toInt = 0 from rfl] at w; omega
      · exfalso
        rcases hl with w | w | ⟨i, i1, i2, w⟩
        · exact k2 w
        · rw [k1] at w; exact absurd w (by decide)
        · rw [k1, teq, nI_toInt (by omega), show (1 : Int32).toInt = 1 from rfl] at w; omega
      · exact absurd k1 k2
      · rw [t, if_pos rfl]
        exact ⟨rfl, fun o => ⟨fun _ => o, fun z => absurd rfl z⟩⟩
      · have c : ¬ j < 10 := by
          rcases hl with w | w | ⟨i, i1, i2, w⟩
          · exact absurd w k2
          · rw [k1, teq, nI_toInt (by omega), z3] at w; omega
          · rw [k1] at w
            have := nI200 j1 i2 w
            omega
        have mz : ¬ v_X11_isMeant Tr (kw j) = 0 := fun z => c ((isMeant_i (T := Tr) j1).mp z)
        rw [t, if_neg (by decide), if_pos rfl, t2, if_neg mz]
        exact ⟨rfl, fun o => ⟨fun z => absurd z (by decide), fun _ => ⟨fun z => absurd rfl z, fun _ => ⟨fun z => absurd z mz, fun _ => o⟩⟩⟩⟩
      · exfalso
        have := isS_lt k1
        rcases hl with w | w | ⟨i, i1, i2, w⟩
        · exact k2 w
        · rw [w, z3] at this; omega
        · rw [w, nI_toInt (by omega)] at this; omega
    have n1 : ¬ (1 : Int32) = 0 := by decide
    have e5 : (vl_X11_value (F + 6)).2.2.2.2.2.1 Tr hv mv 1 = (if v_X11_isGood X = 0 then ((2 : Int32), X) else (2, F_X11_next X)) ∧ ((v_X11_isGood X = 0 → True) ∧ (¬ v_X11_isGood X = 0 → ok_X11_next sz X ∧ True) → (okl_X11_value (F + 6)).2.2.2.2.2.1 sz Tr hv mv 1) := by
      rw [vl_X11_value_s5, okl_X11_value_s5, if_neg n4, if_neg n1, vl_X11_value_s6, okl_X11_value_s6, if_neg h15, vl_X11_value_s8, okl_X11_value_s8, if_neg g1, if_neg n1, ← hX]
      exact ⟨rfl, fun o => ⟨fun z => absurd z n4, fun _ => ⟨fun z => absurd z n1, fun _ => ⟨fun _ => ⟨fun _ => ⟨fun z => absurd z n1, fun _ => ⟨ok1, o⟩⟩, fun z => absurd z g1⟩, fun z => absurd z h15⟩⟩⟩⟩
    refine ⟨fun x0 ok2 => ?_, fun x0 => ?_⟩
    · have g2 := good1 x0
      rw [red.1, e5.1, if_neg g2]
      exact ⟨rfl, red.2 (e5.2 ⟨fun _ => trivial, fun _ => ⟨ok2, trivial⟩⟩)⟩
    · have g2 := good0 x0
      rw [red.1, e5.1, if_pos g2]
      exact ⟨rfl, red.2 (e5.2 ⟨fun _ => trivial, fun z => absurd g2 z⟩)⟩
/-- a bracket or a not opens -/
theorem val_open (he : ER sz N p q b h mv m ls ps s f k dp ht l Tc Tr) (g : gq p q) (k80 : k < 80) (d7 : dp ≤ 7) {w0 : Int32} (hw : (Tc.1 4 2 = 40 ∧ w0 = 6) ∨ (Tc.1 4 2 = 209 ∧ st = 0 ∧ w0 = 3)) : ∃ Tr1, Tr1 = tI (F_X11_next (F_X11_pile Tr w0 126)) 105 38 ((F_X11_next (F_X11_pile Tr w0 126)).1 105 38 + 1) ∧ ER sz N p q b h mv m ls ps s f (k + 1) (dp + 1) ht l (F_X9_next Tc) Tr1 ∧ fr (wRe b) Tr Tr1 ∧ Tr1.1 129 k = w0 ∧ Tr1.1 130 k = 126 ∧ (∀ i, i < k → Tr1.1 129 i = Tr.1 129 i ∧ Tr1.1 130 i = Tr.1 130 i) ∧ F_X11_value Tr st hv mv = ((0 : Int32), if dp + 1 < 8 then Tr1 else F_X11_wrong Tr1) ∧ ok_X11_value sz Tr st hv mv ∧ kpR b Tr Tr1 := by
  obtain ⟨F, hF⟩ := fu8
  obtain ⟨p1, p2, p3, p4, p5, p6⟩ := ER_pile he g k80 w0 126
  obtain ⟨n1, n2, n3, n4, _⟩ := ER_next g p1
  have hd := n1.2.2.2.2.2.2.2.1.2
  have hpl := n1.2.2.2.2.2.2.2.1.1
  have z8 : (8 : Int32).toInt = 8 := rfl
  have inc : ((F_X11_next (F_X11_pile Tr w0 126)).1 105 38 + 1).toInt = (dp + 1 : Nat) := by rw [tinc' (by omega)]; omega
  have f1 : fr (wl [129, 130] [(105, 37), (105, 38)]) (F_X11_next (F_X11_pile Tr w0 126)) (tI (F_X11_next (F_X11_pile Tr w0 126)) 105 38 ((F_X11_next (F_X11_pile Tr w0 126)).1 105 38 + 1)) := fr_I rfl fr_refl
  have e2 := ER_pl n1 g f1 (k' := k + 1) (dp' := dp + 1) (by rw [tI_off (fun z => by have := z.2; omega)]; exact hpl) (by rw [tI_at]; exact inc)
  have o9 : ∀ a i, a = 129 ∨ a = 130 → (tI (F_X11_next (F_X11_pile Tr w0 126)) 105 38 ((F_X11_next (F_X11_pile Tr w0 126)).1 105 38 + 1)).1 a i = (F_X11_pile Tr w0 126).1 a i := fun a i ha => by
    rw [tI_off (fun z => by have := z.1; omega)]
    rcases ha with rfl | rfl
    · exact fr_i n3 (k := 129) (i := i) rfl
    · exact fr_i n3 (k := 130) (i := i) rfl
  have wpl : fr (wRe b) Tr (F_X11_pile Tr w0 126) := fun a i w => p3 a i (by
    cases z : wl [129, 130] [(105, 37), (105, 38)] a i with
    | false => rfl
    | true =>
      exfalso
      simp only [wl, List.contains_iff_mem, List.mem_cons, List.not_mem_nil, Bool.or_eq_true, Prod.mk.injEq, or_false, false_or] at z
      have : wRe b a i = true := by
        unfold wRe
        rcases z with (rfl | rfl) | ⟨rfl, rfl⟩ | ⟨rfl, rfl⟩ <;> simp
      rw [this] at w
      cases w)
  refine ⟨_, rfl, e2, fr_I (by unfold wRe; rfl) (fr_trans wpl (w5_wRe n3)), by rw [o9 129 k (Or.inl rfl)]; exact p4, by rw [o9 130 k (Or.inr rfl)]; exact p5, fun i hi => by rw [o9 129 i (Or.inl rfl), o9 130 i (Or.inr rfl)]; exact p6 i hi, ?_, ?_, ?_⟩
  · have v2 : (vl_X11_value (F + 7)).2.2.1 Tr w0 = ((0 : Int32), if dp + 1 < 8 then tI (F_X11_next (F_X11_pile Tr w0 126)) 105 38 ((F_X11_next (F_X11_pile Tr w0 126)).1 105 38 + 1) else F_X11_wrong (tI (F_X11_next (F_X11_pile Tr w0 126)) 105 38 ((F_X11_next (F_X11_pile Tr w0 126)).1 105 38 + 1))) := by
      rw [vl_X11_value_s2]
      by_cases c : dp + 1 < 8
      · rw [if_pos (by rw [tlt, inc, z8]; omega), if_pos c]
      · rw [if_neg (by rw [tlt, inc, z8]; omega), if_neg c]
    unfold F_X11_value
    rcases hw with ⟨k1, k2⟩ | ⟨k1, k2, k3⟩
    · have i40 : ¬ v_X11_is Tr 40 = 0 := fun z => (tk_is he.2.2.1 (by unfold isS; decide)).mp z k1
      rw [if_neg i40, hF, vl_X11_value_s0, if_neg i40, ← k2]
      exact v2
    · have i40 : v_X11_is Tr 40 = 0 := (tk_is he.2.2.1 (by unfold isS; decide)).mpr (by rw [k1]; decide)
      have w9 : ¬ v_X11_isWord Tr 7237492 = 0 := fun z => (tk_word he.2.2.1 (i := 9) (by decide)).mp z k1
      rw [if_pos i40, if_pos k2, if_neg w9, hF, vl_X11_value_s0, if_pos i40, ← k3]
      exact v2
  · have o2 : (okl_X11_value (F + 7)).2.2.1 sz Tr w0 := by
      rw [okl_X11_value_s2]
      exact ⟨p2, n4, trivial⟩
    have o40 := is_ok (sz := sz) he.2.2.1 he.1.1.2.1 40
    unfold ok_X11_value
    rw [hF, okl_X11_value_s0]
    rcases hw with ⟨k1, k2⟩ | ⟨k1, k2, k3⟩
    · have i40 : ¬ v_X11_is Tr 40 = 0 := fun z => (tk_is he.2.2.1 (by unfold isS; decide)).mp z k1
      rw [← k2]
      exact ⟨o40, fun _ => ⟨o40, fun z => absurd z i40, fun _ => o2⟩, fun z => absurd z i40⟩
    · have i40 : v_X11_is Tr 40 = 0 := (tk_is he.2.2.1 (by unfold isS; decide)).mpr (by rw [k1]; decide)
      have w9 : ¬ v_X11_isWord Tr 7237492 = 0 := fun z => (tk_word he.2.2.1 (i := 9) (by decide)).mp z k1
      rw [← k3]
      exact ⟨o40, fun z => absurd i40 z, fun _ => ⟨fun z => absurd k2 z, fun _ => ⟨fun z => absurd z w9, fun _ => ⟨o40, fun _ => o2, fun z => absurd i40 z⟩⟩⟩⟩
  · exact kpR_trans (kpR_pl p3) (kpR_trans (kpR_w5 n3) (kpR_pl f1))
end
