/-! exchange, and the law up to its loop -/
theorem th_new {L b ci N : Nat} {T : tT} (h0 : b ≠ 0) : ((th L b T).1 + 1, va_up (th L b T).2 (th L b T).1 (ax_ob ci (fq T b ci N 0))) = cq (th L b T).2 b 0 T ci N 0 := by
  refine Prod.ext rfl (funext fun j => ?_)
  show (if j = b then _ else (th L b T).2 j) = _
  by_cases h1 : j = b
  · subst h1; rw [if_pos rfl, cq_a]
  · rw [if_neg h1, cq_ne h1]
    by_cases h2 : j < b
    · rw [gn_lo h2]
    · rw [gn_hi (by omega) (by omega)]
      show (if j = 0 then _ else if j < b then _ else _) = _
      rw [if_neg (by omega), if_neg (by omega)]
theorem th_gn {L b sz : Nat} {T T' : tT} (h0 : b ≠ 0) (hs : b ≤ sz) (ho : ∀ j, j < b → T'.1 j = T.1 j ∧ T'.2.1 j = T.2.1 j ∧ T'.2.2 j = T.2.2 j) : gn (th L b T).2 b sz T' = th L sz T' := by
  refine Prod.ext rfl (funext fun j => ?_)
  by_cases h2 : j < b
  · rw [gn_lo h2]
    obtain ⟨q1, q2, q3⟩ := ho j h2
    by_cases k0 : j = 0
    · subst k0; rw [th_0, th_0, q1]
    · rw [th_at k0 h2, th_at k0 (by omega), tc_off q1 q2 q3]
  · by_cases h4 : j < sz
    · rw [gn_at (by omega) h4, th_at (by omega) h4]
    · rw [gn_hi (by omega) (by omega)]
      show _ = (if j = 0 then _ else if j < sz then _ else _)
      rw [if_neg (by omega), if_neg (by omega)]
set_option maxRecDepth 10000 in
/-- exchange(null): a new Syllabus behind all cells becomes the spare one -/
theorem k_X6_exchange_n {d L sz p : Nat} {T : tT} {Q : Option Nat → Nat → tT → Prop} (hsz : 161 ≤ sz) (hz : nz T sz) (hl : lyl sz lyC8) (hp : T.2.2 3 3 = some p) (hq : Q (some p) (sz + 59) (tP (syTn T sz 8) 3 3 (some sz))) : toS (d + 3) mX6_exchange [.ref 3, .null] L sz T Q := by
  refine ax_enter (by decide +kernel) (Nat.le_of_ble_eq_true rfl) (fun X hX hR => ?_)
  refine ax_aload_n hX dX6_exchange_0 (Or.inr ⟨_, rfl⟩) rfl ?_
  refine tx_getP hX fRX6_25 ly_3 fk_6_3 (by decide) (Nat.lt_of_lt_of_le (by decide) hsz) (v := .ref p) (congrArg va_rf hp) dX6_exchange_1 ?_
  refine ax_astore_n hX dX6_exchange_4 (Or.inr ⟨_, rfl⟩) (by decide) (L' := [some (.ref 3), some .null, some (.ref p)]) rfl ?_
  refine ax_aload_n hX dX6_exchange_5 (Or.inr ⟨_, rfl⟩) rfl ?_
  refine ax_aload_n hX dX6_exchange_6 (Or.inl rfl) rfl ?_
  refine ax_ifnonnull hX (r := none) rfl dX6_exchange_7 (tgt := 20) (by decide) (fun _ c => by cases c) (fun _ => ?_)
  refine ax_new hX cl8 kRX6_22 inRX8 iiRX8 (fq_def hz df8) (by decide) (by decide) dX6_exchange_10 ?_
  rw [th_new (by omega)]
  change ax_j X _ _ (.ref sz :: _) _ _ _
  refine ax_dup hX dX6_exchange_13 rfl ?_
  refine ax_callI hX lRX6_24 im_X8_init cw_X8_init rfl rfl (A := []) rfl rfl (Nat.le_of_ble_eq_true rfl) (by decide) (by decide) dX6_exchange_14 (ct8 (by omega) hz hl) ?_
  rintro _ _ ⟨rfl, rfl⟩
  rw [th_gn (by omega) (by omega) (fun j hj => syTn_o 8 (by omega))]
  refine ax_goto hX dX6_exchange_17 (tgt := 21) (by decide) ?_
  refine tx_putP hX fRX6_25 ly_3 fk_6_3 (by decide) (by omega) rfl rfl dX6_exchange_21 ?_
  refine ax_aload_n hX dX6_exchange_24 (Or.inr ⟨_, rfl⟩) rfl ?_
  exact hR.2.2.1 _ _ _ _ _ _ (by decide) (by decide) dX6_exchange_25 ⟨_, rfl⟩ (Or.inr ⟨_, rfl⟩) ⟨some p, sz + 59, _, rfl, rfl, by omega, hq⟩
set_option maxRecDepth 10000 in
/-- exchange(old): the old one becomes the spare one -/
theorem k_X6_exchange_r {d L sz p q : Nat} {T : tT} {Q : Option Nat → Nat → tT → Prop} (hsz : 161 ≤ sz) (hp : T.2.2 3 3 = some p) (hq : Q (some p) sz (tP T 3 3 (some q))) : toS d mX6_exchange [.ref 3, .ref q] L sz T Q := by
  refine ax_enter (by decide +kernel) (Nat.le_of_ble_eq_true rfl) (fun X hX hR => ?_)
  refine ax_aload_n hX dX6_exchange_0 (Or.inr ⟨_, rfl⟩) rfl ?_
  refine tx_getP hX fRX6_25 ly_3 fk_6_3 (by decide) (Nat.lt_of_lt_of_le (by decide) hsz) (v := .ref p) (congrArg va_rf hp) dX6_exchange_1 ?_
  refine ax_astore_n hX dX6_exchange_4 (Or.inr ⟨_, rfl⟩) (by decide) (L' := [some (.ref 3), some (.ref q), some (.ref p)]) rfl ?_
  refine ax_aload_n hX dX6_exchange_5 (Or.inr ⟨_, rfl⟩) rfl ?_
  refine ax_aload_n hX dX6_exchange_6 (Or.inr ⟨_, rfl⟩) rfl ?_
  refine ax_ifnonnull hX (r := some q) rfl dX6_exchange_7 (tgt := 20) (by decide) (fun _ _ => ?_) (fun c => by cases c)
  refine ax_aload_n hX dX6_exchange_20 (Or.inr ⟨_, rfl⟩) rfl ?_
  refine tx_putP hX fRX6_25 ly_3 fk_6_3 (by decide) (Nat.lt_of_lt_of_le (by decide) hsz) rfl rfl dX6_exchange_21 ?_
  refine ax_aload_n hX dX6_exchange_24 (Or.inr ⟨_, rfl⟩) rfl ?_
  exact hR.2.2.1 _ _ _ _ _ _ (by decide) (by decide) dX6_exchange_25 ⟨_, rfl⟩ (Or.inr ⟨_, rfl⟩) ⟨some p, sz, _, rfl, rfl, Nat.le_refl _, hq⟩
/-- the typed heap behind both constructors -/
def T1 (xs : Nat → Int32) : tT := mdT (exT (T0 xs) 2) 105
theorem exT_o {T : tT} {a j : Nat} (h : j < a ∨ a + 103 ≤ j) : (exT T a).1 j = T.1 j ∧ (exT T a).2.1 j = T.2.1 j ∧ (exT T a).2.2 j = T.2.2 j := by
  unfold exT
  obtain ⟨e1, e2, e3⟩ := plT_o (T := prT T (a + 1 + 0)) (a := a + 1 + 82) (j := j) (by omega) (by omega)
  obtain ⟨g1, g2, g3⟩ := prT_o (T := T) (a := a + 1 + 0) (j := j) (by omega) (by omega)
  exact ⟨e1.trans g1, e2.trans g2, e3.trans g3⟩
theorem mdT_o {T : tT} {a j : Nat} (h1 : j ≠ a) (h2 : j ≠ a + 3) : (mdT T a).1 j = T.1 j ∧ (mdT T a).2.1 j = T.2.1 j ∧ (mdT T a).2.2 j = T.2.2 j := by
  unfold mdT
  obtain ⟨e1, e2, e3⟩ := mdTn_o (T := tI (tI T a 5 (-1)) a 12 4) (a := a) 4 h2
  rw [e1, e2, e3]
  exact ⟨(tI_o j h1).1.trans (tI_o j h1).1, rfl, rfl⟩
theorem lyl_10 : lyl 2 lyC10 := by
  intro k x hx
  have hk : k < 103 := (List.getElem?_eq_some_iff.mp hx).1
  have key : ∀ k, k < 103 → lyC10[k]? = some (ly (2 + k)) := by decide +kernel
  rw [key k hk] at hx
  exact Option.some.inj hx
theorem lyl_11 : lyl 105 lyC11 := by
  intro k x hx
  have hk : k < 56 := (List.getElem?_eq_some_iff.mp hx).1
  have key : ∀ k, k < 56 → lyC11[k]? = some (ly (105 + k)) := by decide +kernel
  rw [key k hk] at hx
  exact Option.some.inj hx
set_option maxRecDepth 10000 in
theorem law_to_loop {X : ax_X} {d L : Nat} {xs : Nat → Int32} (hX : ax_ok X mL (d + 5)) (loop : ax_j X 18 [some (.ref 0), some (.ref 2), some (.ref 105), some (.int 0)] [] (th L 161 (T1 xs)) 159 37738) : ax_j X 0 [some (.ref 0), none, none, none] [] (th L 2 (T0 xs)) 0 0 := by
  have hz := T0_nz xs
  refine ax_new hX cl10 kRL_7 inRX10 iiRX10 (fq_def hz df10) (by decide) (by decide) dL_law_0 ?_
  rw [th_new (by decide)]
  change ax_j X _ _ (.ref 2 :: _) _ _ _
  refine ax_dup hX dL_law_3 rfl ?_
  refine ax_callI hX lRL_9 im_X10_init cw_X10_init rfl rfl (A := []) rfl rfl (Nat.le_of_ble_eq_true rfl) (by decide) (by decide) dL_law_4 (ct10 (by decide) hz lyl_10) ?_
  rintro _ _ ⟨rfl, rfl⟩
  rw [th_gn (by decide) (by decide) (fun j hj => exT_o (Or.inl hj))]
  have hz1 : nz (exT (T0 xs) 2) 105 := nz_of hz (fun j hj => exT_o (Or.inr hj)) (by decide)
  refine ax_astore_n hX dL_law_7 (Or.inr ⟨_, rfl⟩) (by decide) (L' := [some (.ref 0), some (.ref 2), none, none]) rfl ?_
  refine ax_new hX cl11 kRL_10 inRX11 iiRX11 (fq_def hz1 df11) (by decide) (by decide) dL_law_8 ?_
  rw [th_new (by decide)]
  change ax_j X _ _ (.ref 105 :: _) _ _ _
  refine ax_dup hX dL_law_11 rfl ?_
  refine ax_callI hX lRL_12 im_X11_init cw_X11_init rfl rfl (A := []) rfl rfl (Nat.le_of_ble_eq_true rfl) (by decide) (by decide) dL_law_12 (ct11 (by decide) hz1 lyl_11) ?_
  rintro _ _ ⟨rfl, rfl⟩
  rw [th_gn (by decide) (by decide) (fun j hj => mdT_o (by omega) (by omega))]
  refine ax_astore_n hX dL_law_15 (Or.inr ⟨_, rfl⟩) (by decide) (L' := [some (.ref 0), some (.ref 2), some (.ref 105), none]) rfl ?_
  refine ax_iconst hX dL_law_16 (v := 0) (by decide) ?_
  refine ax_istore_n hX dL_law_17 (by decide) (L' := [some (.ref 0), some (.ref 2), some (.ref 105), some (.int 0)]) rfl ?_
  exact loop
/-- what is left to prove: the law's loop from the start of both objects -/
def Loop_open : Prop := ∀ (L : Nat) (xs : Nat → Int32), L ≤ 3584 → ∀ X : ax_X, ax_ok X mL 1000 → ax_Ret X mL (fun r _ => r = some (.int 1)) → ax_j X 18 [some (.ref 0), some (.ref 2), some (.ref 105), some (.int 0)] [] (th L 161 (T1 xs)) 159 37738
theorem whole_start_open (hloop : Loop_open) {p : Program} {e : Env} {s : State} {m : MethodId} {below : List Frame} {meth : Method} {c : Code} (l : Launch) {b L : Nat} {xs : Nat → Int32} (hL : L ≤ 3584) (C0 : lw_At p s m meth c b L xs) : W p l e room_1 s m #[Value.ref b] below meth c s.heap [] 0 0 (lw_Z below #[Value.ref b] s) (entryFrame m ([Value.ref b] : List Value).toArray 4) := by
  obtain ⟨D, t, htl, hT, hR0⟩ := start_ok C0
  obtain ⟨hx, hb, hr, hml, hown, hts, hXs, hbl, hlocks, hgv, hmn⟩ := C0
  have hG : ax_G (ax_g b t s.heap.size) := ax_g_ok hbl htl
  have hok : ax_ok (p, l, e, room_1, s, m, #[Value.ref b], below, meth, c, lw_Z below #[Value.ref b] s, D, ax_g b t s.heap.size) mL 1000 :=
    ⟨hx, hb, hml, hr, hown, fun w hw => hts w (List.mem_filter.mp hw).1, hlocks, hmn, hT, hG, Nat.le_refl _, ⟨by decide, by decide, by decide, by decide⟩⟩
  have hret : ax_Ret (p, l, e, room_1, s, m, #[Value.ref b], below, meth, c, lw_Z below #[Value.ref b] s, D, ax_g b t s.heap.size) mL (fun r _ => r = some (.int 1)) := by
    refine ⟨?_, ?_, ?_, ?_⟩
    · intro pc Ls r h k n hk hn hd _ hq H locs ls hR hS hLs
      cases hq
      refine va_forget (fun q hq => hS.2.2 q hq) ?_
      refine W.widen hk hn ?_
      exact lw_ret hx hb hr hlocks hd
    · intro pc Ls r h k n hk hn hd hty
      cases hty
    · intro pc Ls r h k n hk hn hd hty
      obtain ⟨C, hty⟩ := hty
      cases hty
    · intro pc Ls h k n hk hn hd hty
      cases hty
  rw [lg_entry_eq]
  have hl := ax_ent_L (ax_g b t s.heap.size) [.ref 0] (n := 4) (by decide)
  exact law_to_loop (d := 995) hok (hloop L xs hL _ hok hret) s.heap [] _ hR0 va_S.rf (by rw [hml]; exact hl)
