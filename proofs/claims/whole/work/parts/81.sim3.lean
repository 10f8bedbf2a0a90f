/-! e: the reference's pile -/
noncomputable def KB (n m : Nat) (T : tT) (hv mv r : Int32) : tT := vl_X11_e n ((vl_X11_behind m).1 T r).2 hv mv ((vl_X11_behind m).1 T r).1
noncomputable def okKB (n m sz : Nat) (T : tT) (hv mv r : Int32) : Prop := (okl_X11_behind m).1 sz T r ∧ okl_X11_e n sz ((vl_X11_behind m).1 T r).2 hv mv ((vl_X11_behind m).1 T r).1
theorem good1 {T : tT} (h : T.1 105 4 = 0) : ¬ v_X11_isGood T = 0 := by
  unfold v_X11_isGood
  rw [if_pos h]
  decide
theorem good0 {T : tT} (h : T.1 105 4 ≠ 0) : v_X11_isGood T = 0 := by
  unfold v_X11_isGood
  rw [if_neg h]
/-- the loop ends at a fault -/
theorem e_flt {n sz : Nat} {T : tT} {hv mv st : Int32} (h : T.1 105 4 ≠ 0) : vl_X11_e (n + 1) T hv mv st = T ∧ okl_X11_e (n + 1) sz T hv mv st := by
  have g := good0 h
  rw [vl_X11_e_s, if_pos g]
  simp only [okl_X11_e]
  exact ⟨trivial, fun _ => trivial, fun w => absurd g w⟩
theorem wrong_ne {T : tT} (h : T.1 105 4 = 0) : (F_X11_wrong T).1 105 4 ≠ 0 := by
  unfold F_X11_wrong
  split
  · rw [fails_eq h, tI_off (fun w => by have := w.2; omega), tI_at]
    decide
  · rw [fails_eq h, tI_off (fun w => by have := w.2; omega), tI_at]
    decide
theorem is_ok {sz N : Nat} {Tc Tr : tT} (h : TK N Tc Tr) (hr : RE N Tr) (c : Int32) : ok_X11_is sz Tr c := by
  obtain ⟨pl, e, t1, t2, t3, _⟩ := h
  exact ⟨fun _ => trivial, fun _ => ⟨(sgn (sz := sz) hr (k := pl) (by rw [t3]; exact t1)).2, trivial⟩⟩
theorem rank_ok {sz N : Nat} {Tc Tr : tT} (h : TK N Tc Tr) (hr : RE N Tr) : ok_X11_rankHere sz Tr := ⟨is_ok h hr _, fun _ => trivial, fun _ => ⟨is_ok h hr _, fun _ => ⟨is_ok h hr _, fun _ => trivial, fun _ => ⟨is_ok h hr _, fun _ => trivial, fun _ => ⟨is_ok h hr _, trivial⟩⟩⟩, fun _ => trivial⟩⟩
section
variable {sz N p q b h : Nat} {hv mv : Int32} {m : Bool} {ls ps : Int32} {s f k dp ht : Nat} {l : List (Int32 × Int32)} {Tc Tr : tT}
/-- only the pile changes -/
theorem ER_pl {k' dp' : Nat} {Tr' : tT} (he : ER sz N p q b h mv m ls ps s f k dp ht l Tc Tr) (g : gq p q) (f' : fr (wl [129, 130] [(105, 37), (105, 38)]) Tr Tr') (h1 : (Tr'.1 105 37).toInt = k') (h2 : (Tr'.1 105 38).toInt = dp') : ER sz N p q b h mv m ls ps s f k' dp' ht l Tc Tr' := by
  obtain ⟨e1, e2, ⟨pl, e, t1, t2, t3, t4, t5, t6, t7, t8, t9, t10⟩, ⟨e4, e4'⟩, e5, ⟨l1, l2, l3, l4, l5, l6, l7⟩, e7, _, e9⟩ := he
  have fR : fr (wRe b) Tr Tr' := fun a i w => f' a i (by
    cases z : wl [129, 130] [(105, 37), (105, 38)] a i with
    | false => rfl
    | true =>
      exfalso
      simp only [wl, List.contains_iff_mem, List.mem_cons, List.not_mem_nil, Bool.or_eq_true, Prod.mk.injEq, or_false, false_or] at z
      have : wRe b a i = true := by
        unfold wRe
        rcases z with (rfl | rfl) | ⟨rfl, rfl⟩ | ⟨rfl, rfl⟩ <;> simp
      rw [this] at w
      cases w)
  have r : ∀ i, i ≠ 37 → i ≠ 38 → Tr'.1 105 i = Tr.1 105 i := fun i i1 i2 => fr_i f' (by
    unfold wl
    simp only [Bool.or_eq_false_iff]
    refine ⟨rfl, ?_⟩
    cases z : List.contains [(105, 37), (105, 38)] (105, i) with
    | false => rfl
    | true =>
      simp only [List.contains_iff_mem, List.mem_cons, List.not_mem_nil, Prod.mk.injEq, or_false] at z
      omega)
  have sg : v_X11_sign Tr' (Tr.1 105 6) = v_X11_sign Tr (Tr.1 105 6) := by
    unfold v_X11_sign
    rw [r 3 (by decide) (by decide), fr_ri f' (k := 107) (fun _ => rfl)]
  refine ⟨S0_fr g e1 fr_refl fR, e2, ⟨pl, e, t1, t2, by rw [r 6 (by decide) (by decide)]; exact t3, by rw [r 7 (by decide) (by decide)]; exact t4, t5, t6, t7, t8, t9, ?_⟩, ⟨e4, by rw [r 4 (by decide) (by decide)]; exact e4'⟩, by rw [r 13 (by decide) (by decide)]; exact e5, ⟨l1, l2, by rw [r 14 (by decide) (by decide)]; exact l3, l4, ?_, l6, l7⟩, e7, ⟨h1, h2⟩, e9⟩
  · rw [r 6 (by decide) (by decide), r 8 (by decide) (by decide), r 9 (by decide) (by decide), fr_j f' (k := 105) (i := 10) rfl, sg]
    exact t10
  · rw [fr_ri f' (k := 123) (fun _ => rfl), fr_ri f' (k := 124) (fun _ => rfl)]
    exact l5
theorem pile_e {k : Nat} (hk : (Tr.1 105 37).toInt = k) (k80 : k < 80) (w sg : Int32) : F_X11_pile Tr w sg = tI (tI (tI Tr 129 k w) 130 k sg) 105 37 (Tr.1 105 37 + 1) ∧ ok_X11_pile sz Tr w sg := by
  unfold F_X11_pile
  rw [tnN hk]
  refine ⟨rfl, ?_, ?_⟩ <;> rw [vp_in_iff] <;> omega
/-- an entry is piled -/
theorem ER_pile (he : ER sz N p q b h mv m ls ps s f k dp ht l Tc Tr) (g : gq p q) (k80 : k < 80) (w sg : Int32) : ER sz N p q b h mv m ls ps s f (k + 1) dp ht l Tc (F_X11_pile Tr w sg) ∧ ok_X11_pile sz Tr w sg ∧ fr (wl [129, 130] [(105, 37), (105, 38)]) Tr (F_X11_pile Tr w sg) ∧ (F_X11_pile Tr w sg).1 129 k = w ∧ (F_X11_pile Tr w sg).1 130 k = sg ∧ (∀ i, i < k → (F_X11_pile Tr w sg).1 129 i = Tr.1 129 i ∧ (F_X11_pile Tr w sg).1 130 i = Tr.1 130 i) := by
  obtain ⟨hk, hd⟩ := he.2.2.2.2.2.2.2.1
  obtain ⟨pe, po⟩ := pile_e (sz := sz) hk k80 w sg
  rw [pe]
  have ff : fr (wl [129, 130] [(105, 37), (105, 38)]) Tr (tI (tI (tI Tr 129 k w) 130 k sg) 105 37 (Tr.1 105 37 + 1)) := fr_I rfl (fr_I rfl (fr_I rfl fr_refl))
  refine ⟨ER_pl he g ff (by rw [tI_at, tinc' (by omega)]; omega) ?_, po, ff, ?_, ?_, fun i hi => ⟨?_, ?_⟩⟩
  · rw [tI_off (fun z => by have := z.2; omega), tI_off (fun z => by have := z.1; omega), tI_off (fun z => by have := z.1; omega)]
    exact hd
  · rw [tI_off (fun z => by have := z.1; omega), tI_off (fun z => by have := z.1; omega), tI_at]
  · rw [tI_off (fun z => by have := z.1; omega), tI_at]
  · rw [tI_off (fun z => by have := z.1; omega), tI_off (fun z => by have := z.1; omega), tI_off (fun z => by have := z.2; omega)]
  · rw [tI_off (fun z => by have := z.1; omega), tI_off (fun z => by have := z.2; omega), tI_off (fun z => by have := z.1; omega)]
/-- behind's loop begins -/
theorem KB_in {n : Nat} (he : ER sz N p q b h mv m ls ps s f k dp ht l Tc Tr) (k0 : 0 < k) : vl_X11_e (n + 1) Tr hv mv 2 = KB n fu Tr hv mv (rk (Tc.1 4 2)) ∧ (okKB n fu sz Tr hv mv (rk (Tc.1 4 2)) → okl_X11_e (n + 1) sz Tr hv mv 2) := by
  have g := good1 he.2.2.2.1.2
  have hk := he.2.2.2.2.2.2.2.1.1
  have p0 : ¬ Tr.1 105 37 ≤ 0 := by rw [tle, hk, show (0 : Int32).toInt = 0 from rfl]; omega
  rw [vl_X11_e_s, if_neg g, if_neg p0, if_pos rfl]
  simp only [okl_X11_e]
  rw [← tk_rank he.2.2.1]
  exact ⟨rfl, fun o => ⟨fun w => absurd w g, fun _ => ⟨fun w => absurd w p0, fun _ => ⟨fun w => absurd trivial w, fun _ => ⟨⟨rank_ok he.2.2.1 he.1.1.2.1, o.1⟩, o.2⟩⟩⟩⟩⟩
theorem km1 (hk : (Tr.1 105 37).toInt = ((k + 1 : Nat) : Int)) (k80 : k < 80) : (Tr.1 105 37 - 1).toInt = k ∧ vp_in (Tr.1 105 37 - 1) 80 := by
  have e : (Tr.1 105 37 - 1).toInt = k := by
    have : (1 : Int32).toInt = 1 := rfl
    rw [tsub (by omega) (by omega)]
    omega
  exact ⟨e, by rw [vp_in_iff]; omega⟩
/-- behind's loop: an entry goes -/
theorem KB_pop {n m' : Nat} {r t : Int32} (hk : (Tr.1 105 37).toInt = ((k + 1 : Nat) : Int)) (k80 : k < 80) (ht' : Tr.1 129 k = t) (t5 : t.toInt ≤ 5) (rt : r.toInt ≤ t.toInt) (nr : ¬ (r = 4 ∧ t = 4)) {Tp : tT} (hTp : Tp = if t = 3 then tI (tI Tr 105 37 (Tr.1 105 37 - 1)) 105 38 (Tr.1 105 38 - 1) else tI Tr 105 37 (Tr.1 105 37 - 1)) (ok1 : ok_X11_step sz Tp (Tr.1 130 k) 0) : KB n (m' + 3) Tr hv mv r = KB n m' (F_X11_step Tp (Tr.1 130 k) 0) hv mv r ∧ (okKB n m' sz (F_X11_step Tp (Tr.1 130 k) 0) hv mv r → okKB n (m' + 3) sz Tr hv mv r) := by
  obtain ⟨k1, k2⟩ := km1 hk k80
  have c1 : ¬ (5 : Int32) < t := by rw [tlt, show (5 : Int32).toInt = 5 from rfl]; omega
  have c2 : ¬ t < r := by rw [tlt]; omega
  have p37 : Tp.1 105 37 = Tr.1 105 37 - 1 := by
    rw [hTp]
    split
    · rw [tI_off (fun z => by have := z.2; omega), tI_at]
    · exact tI_at
  have p130 : Tp.1 130 = Tr.1 130 := by
    rw [hTp]
    split
    · funext i
      rw [tI_off (fun z => by have := z.1; omega), tI_off (fun z => by have := z.1; omega)]
    · funext i
      exact tI_off (fun z => by have := z.1; omega)
  have b0 : (vl_X11_behind (m' + 3)).1 Tr r = (vl_X11_behind (m' + 2)).2.2.1 Tr r t := by
    rw [vl_X11_behind_s0, tnN k1, ht', if_neg c1, if_neg c2]
    by_cases q4 : r = 4
    · rw [if_pos q4, if_neg (fun w => nr ⟨q4, w⟩)]
    · rw [if_neg q4]
  have b1 : (vl_X11_behind (m' + 2)).2.2.1 Tr r t = (vl_X11_behind (m' + 1)).2.2.2.2 Tp r := by
    rw [vl_X11_behind_s2, hTp]
    split <;> rfl
  have b2 : (vl_X11_behind (m' + 1)).2.2.2.2 Tp r = (vl_X11_behind m').1 (F_X11_step Tp (Tr.1 130 k) 0) r := by
    rw [vl_X11_behind_s4, p37, tnN k1, p130]
  have o2 : (okl_X11_behind m').1 sz (F_X11_step Tp (Tr.1 130 k) 0) r → (okl_X11_behind (m' + 1)).2.2.2.2 sz Tp r := by
    intro w
    rw [okl_X11_behind_s4, p37, tnN k1, p130]
    exact ⟨k2, ok1, w⟩
  have o1 : (okl_X11_behind (m' + 1)).2.2.2.2 sz Tp r → (okl_X11_behind (m' + 2)).2.2.1 sz Tr r t := by
    intro w
    rw [okl_X11_behind_s2]
    rw [hTp] at w
    refine ⟨fun z => ?_, fun z => ?_⟩
    · rw [if_neg z] at w
      exact w
    · rw [if_pos z] at w
      exact w
  have o0 : (okl_X11_behind (m' + 2)).2.2.1 sz Tr r t → (okl_X11_behind (m' + 3)).1 sz Tr r := by
    intro w
    rw [okl_X11_behind_s0, tnN k1, ht']
    exact ⟨k2, fun z => absurd z c1, fun _ => ⟨k2, fun z => absurd z c2, fun _ => ⟨k2, fun _ => w, fun _ => ⟨fun _ => w, fun _ => trivial⟩⟩⟩⟩
  unfold KB okKB
  rw [b0, b1, b2]
  exact ⟨rfl, fun w => ⟨o0 (o1 (o2 w.1)), w.2⟩⟩
/-- behind's loop: a sign of rank r is piled -/
theorem KB_push {n m' : Nat} {r t sg : Int32} (hk : (Tr.1 105 37).toInt = ((k + 1 : Nat) : Int)) (k80 : k + 1 < 80) (ht' : Tr.1 129 k = t) (tr : 5 < t.toInt ∨ t.toInt < r.toInt) (r0 : 0 < r.toInt) (hs : sg = if r = 1 then 124 else if r = 2 then 38 else v_X11_sign Tr (Tr.1 105 6)) (ok1 : ok_X11_sign sz Tr (Tr.1 105 6)) (ok2 : ok_X11_next sz (F_X11_pile Tr r sg)) : KB n (m' + 3) Tr hv mv r = vl_X11_e n (F_X11_next (F_X11_pile Tr r sg)) hv mv (if 3 ≤ r then 1 else 0) ∧ (okl_X11_e n sz (F_X11_next (F_X11_pile Tr r sg)) hv mv (if 3 ≤ r then 1 else 0) → okKB n (m' + 3) sz Tr hv mv r) := by
  obtain ⟨k1, k2⟩ := km1 hk (by omega)
  have po := (pile_e (sz := sz) hk k80 r sg).2
  have r0' : ¬ r ≤ 0 := by rw [tle, show (0 : Int32).toInt = 0 from rfl]; omega
  have b0 : (vl_X11_behind (m' + 3)).1 Tr r = (vl_X11_behind (m' + 2)).2.1 Tr r := by
    rw [vl_X11_behind_s0, tnN k1, ht']
    by_cases c1 : (5 : Int32) < t
    · rw [if_pos c1]
    · have c2 : t < r := by
        rw [tlt, show (5 : Int32).toInt = 5 from rfl] at c1
        rw [tlt]
        omega
      rw [if_neg c1, if_pos c2]
  have b1 : (vl_X11_behind (m' + 2)).2.1 Tr r = (vl_X11_behind (m' + 1)).2.2.2.1 Tr r sg r := by
    rw [vl_X11_behind_s1, if_neg r0', hs]
    split
    · rfl
    · split
      · rfl
      · rfl
  have b2 : (vl_X11_behind (m' + 1)).2.2.2.1 Tr r sg r = ((if 3 ≤ r then 1 else 0 : Int32), F_X11_next (F_X11_pile Tr r sg)) := by
    rw [vl_X11_behind_s3]
    split <;> rfl
  have o2 : (okl_X11_behind (m' + 1)).2.2.2.1 sz Tr r sg r := by
    rw [okl_X11_behind_s3]
    exact ⟨po, ok2, trivial⟩
  have o1 : (okl_X11_behind (m' + 2)).2.1 sz Tr r := by
    rw [okl_X11_behind_s1]
    rw [hs] at o2
    refine ⟨fun w => absurd w r0', fun _ => ⟨fun z1 => ⟨fun z2 => ⟨ok1, ?_⟩, fun z2 => ?_⟩, fun z1 => ?_⟩⟩
    · rw [if_neg z1, if_neg z2] at o2
      exact o2
    · rw [if_neg z1, if_pos z2] at o2
      exact o2
    · rw [if_pos z1] at o2
      exact o2
  have o0 : (okl_X11_behind (m' + 3)).1 sz Tr r := by
    rw [okl_X11_behind_s0, tnN k1, ht']
    refine ⟨k2, fun _ => o1, fun c1 => ⟨k2, fun _ => o1, fun c2 => ?_⟩⟩
    exfalso
    rw [tlt, show (5 : Int32).toInt = 5 from rfl] at c1
    rw [tlt] at c2
    omega
  unfold KB okKB
  rw [b0, b1, b2]
  exact ⟨rfl, fun w => ⟨o0, w⟩⟩
/-- behind's loop: two relations -/
theorem KB_rel {n m' : Nat} (hk : (Tr.1 105 37).toInt = ((k + 1 : Nat) : Int)) (k80 : k < 80) (ht' : Tr.1 129 k = 4) (h0 : Tr.1 105 4 = 0) : KB (n + 1) (m' + 1) Tr hv mv 4 = F_X11_wrong Tr ∧ okKB (n + 1) (m' + 1) sz Tr hv mv 4 := by
  obtain ⟨k1, k2⟩ := km1 hk k80
  have b0 : (vl_X11_behind (m' + 1)).1 Tr 4 = (2, F_X11_wrong Tr) := by
    rw [vl_X11_behind_s0, tnN k1, ht', if_neg (by decide), if_neg (by decide), if_pos rfl, if_pos rfl]
  obtain ⟨e1, e2⟩ := e_flt (n := n) (sz := sz) (hv := hv) (mv := mv) (st := 2) (wrong_ne h0)
  unfold KB okKB
  rw [b0]
  refine ⟨e1, ?_, e2⟩
  rw [okl_X11_behind_s0, tnN k1, ht']
  exact ⟨k2, fun z => absurd z (by decide), fun _ => ⟨k2, fun z => absurd z (by decide), fun _ => ⟨k2, fun z => absurd rfl z, fun _ => ⟨fun z => absurd rfl z, fun _ => trivial⟩⟩⟩⟩
/-- behind's loop: a bracket closes -/
theorem KB_close {n m' : Nat} (hk : (Tr.1 105 37).toInt = ((k + 1 : Nat) : Int)) (k80 : k < 80) (ht' : Tr.1 129 k = 6) (okm : ok_X11_must sz (tI (tI Tr 105 37 (Tr.1 105 37 - 1)) 105 38 (Tr.1 105 38 - 1)) 41) : KB n (m' + 2) Tr hv mv 0 = vl_X11_e n (F_X11_must (tI (tI Tr 105 37 (Tr.1 105 37 - 1)) 105 38 (Tr.1 105 38 - 1)) 41) hv mv 2 ∧ (okl_X11_e n sz (F_X11_must (tI (tI Tr 105 37 (Tr.1 105 37 - 1)) 105 38 (Tr.1 105 38 - 1)) 41) hv mv 2 → okKB n (m' + 2) sz Tr hv mv 0) := by
  obtain ⟨k1, k2⟩ := km1 hk k80
  have b0 : (vl_X11_behind (m' + 2)).1 Tr 0 = (2, F_X11_must (tI (tI Tr 105 37 (Tr.1 105 37 - 1)) 105 38 (Tr.1 105 38 - 1)) 41) := by
    rw [vl_X11_behind_s0, tnN k1, ht', if_pos (by decide), vl_X11_behind_s1, tnN k1, ht', if_pos (by decide), if_pos rfl]
  unfold KB okKB
  rw [b0]
  refine ⟨rfl, fun w => ⟨?_, w⟩⟩
  rw [okl_X11_behind_s0, tnN k1, ht', okl_X11_behind_s1, tnN k1, ht']
  exact ⟨k2, fun _ => ⟨fun _ => ⟨k2, fun z => absurd rfl z, fun _ => ⟨okm, trivial⟩⟩, fun z => absurd (by decide) z⟩, fun z => absurd (by decide) z⟩
/-- behind's loop: the e ends -/
theorem KB_all {n m' : Nat} (hk : (Tr.1 105 37).toInt = ((0 + 1 : Nat) : Int)) (ht' : Tr.1 129 0 = 7) (h0 : Tr.1 105 4 = 0) : KB (n + 1) (m' + 2) Tr hv mv 0 = tI Tr 105 37 (Tr.1 105 37 - 1) ∧ okKB (n + 1) (m' + 2) sz Tr hv mv 0 := by
  obtain ⟨k1, k2⟩ := km1 (k := 0) hk (by decide)
  have b0 : (vl_X11_behind (m' + 2)).1 Tr 0 = (2, tI Tr 105 37 (Tr.1 105 37 - 1)) := by
    rw [vl_X11_behind_s0, tnN k1, ht', if_pos (by decide), vl_X11_behind_s1, tnN k1, ht', if_pos (by decide), if_neg (by decide)]
  have g : ¬ v_X11_isGood (tI Tr 105 37 (Tr.1 105 37 - 1)) = 0 := good1 (by rw [tI_off (fun z => by have := z.2; omega)]; exact h0)
  have p0 : (tI Tr 105 37 (Tr.1 105 37 - 1)).1 105 37 ≤ 0 := by rw [tI_at, tle, k1]; decide
  unfold KB okKB
  rw [b0]
  refine ⟨?_, ?_, ?_⟩
  · show vl_X11_e (n + 1) (tI Tr 105 37 (Tr.1 105 37 - 1)) hv mv 2 = _
    rw [vl_X11_e_s, if_neg g, if_pos p0]
  · rw [okl_X11_behind_s0, tnN k1, ht', okl_X11_behind_s1, tnN k1, ht']
    exact ⟨k2, fun _ => ⟨fun _ => ⟨k2, fun _ => trivial, fun z => absurd z (by decide)⟩, fun z => absurd (by decide) z⟩, fun z => absurd (by decide) z⟩
  · show okl_X11_e (n + 1) sz (tI Tr 105 37 (Tr.1 105 37 - 1)) hv mv 2
    simp only [okl_X11_e]
    exact ⟨fun w => absurd w g, fun _ => ⟨fun _ => trivial, fun w => absurd p0 w⟩⟩
end
