/-! e: how a part comes out; leaves and sums -/
def OUT (sz N p q b h : Nat) (hv mv : Int32) (m : Bool) (ls ps : Int32) (s f k dp ht : Nat) (P : Int32 → Prop) (pend : Prop) (Tc Tr Tc' R : tT) (OK : Prop) : Prop :=
  (∃ (Tr' : tT) (l' : List (Int32 × Int32)) (n' m' : Nat), ER sz N p q b h mv m ls ps s f k dp (ht + 1) l' Tc' Tr' ∧ P (Tc'.1 4 2) ∧ phi p Tc + 2 ≤ phi p Tc' ∧ pos Tc + 1 ≤ pos Tc' ∧ fr (wRe b) Tr Tr' ∧ kpC p Tc Tc' ∧ kpR b Tr Tr' ∧ (∀ i, i < k → Tr'.1 129 i = Tr.1 129 i ∧ Tr'.1 130 i = Tr.1 130 i) ∧ 2 * (N : Int) + 20 ≤ n' + 2 * pos Tc' ∧ 3 * k + 10 ≤ m' ∧ R = KB n' m' Tr' hv mv (rk (Tc'.1 4 2)) ∧ (okKB n' m' sz Tr' hv mv (rk (Tc'.1 4 2)) → OK)) ∨
  (FL Tc' R ∧ OK ∧ fr (wRe b) Tr R) ∨
  (pend ∧ Tc'.1 3 1 = 0 ∧ (Tc'.1 4 2 = 60 ∨ Tc'.1 4 2 = 61 ∨ Tc'.1 4 2 = 62) ∧ R.1 105 4 = 2 ∧ R.1 105 5 = Tc'.1 4 3 ∧ OK ∧ fr (wRe b) Tr R)
def SIM (sz N p q b h : Nat) (hv mv : Int32) (m : Bool) (ls ps : Int32) (s f dp : Nat) (G : tT → tT) (st : Int32) (bd : Nat) (C : Int → Prop) (P : Int32 → Prop) (pend : Prop) (gd : Int32 → Prop) : Prop :=
  ∀ (Tc Tr : tT) (k ht : Nat) (l : List (Int32 × Int32)) (n : Nat) (R : tT) (OK : Prop), ER sz N p q b h mv m ls ps s f (k + 1) dp ht l Tc Tr → C (Tr.1 129 k).toInt → k + 1 ≤ bd → gd (Tc.1 4 2) → 2 * (N : Int) + 20 ≤ n + 2 * pos Tc → R = vl_X11_e n Tr hv mv st → (okl_X11_e n sz Tr hv mv st → OK) → OUT sz N p q b h hv mv m ls ps s f (k + 1) dp ht P pend Tc Tr (G Tc) R OK
section
variable {sz N p q b h : Nat} {hv mv : Int32} {m : Bool} {ls ps : Int32} {s f k dp ht : Nat} {l l' : List (Int32 × Int32)} {Tc Tr Tc' Tr' : tT}
theorem pos_le (he : ER sz N p q b h mv m ls ps s f k dp ht l Tc Tr) : pos Tc ≤ N := by
  obtain ⟨pl, e, t1, _, _, _, t5, t6, _⟩ := he.2.2.1
  unfold pos
  omega
theorem e_go {n : Nat} {st : Int32} (he : ER sz N p q b h mv m ls ps s f (k + 1) dp ht l Tc Tr) (h2 : st ≠ 2) {T1 : tT} {s1 : Int32} (hv1 : F_X11_value Tr st hv mv = (s1, T1)) (ok1 : ok_X11_value sz Tr st hv mv) : vl_X11_e (n + 1) Tr hv mv st = vl_X11_e n T1 hv mv s1 ∧ (okl_X11_e n sz T1 hv mv s1 → okl_X11_e (n + 1) sz Tr hv mv st) := by
  have g := good1 he.2.2.2.1.2
  have hk := he.2.2.2.2.2.2.2.1.1
  have p0 : ¬ Tr.1 105 37 ≤ 0 := by rw [tle, hk, show (0 : Int32).toInt = 0 from rfl]; omega
  rw [vl_X11_e_s, if_neg g, if_neg p0, if_neg h2, hv1]
  simp only [okl_X11_e]
  rw [hv1]
  exact ⟨trivial, fun o => ⟨fun w => absurd w g, fun _ => ⟨fun w => absurd w p0, fun _ => ⟨fun _ => ⟨ok1, o⟩, fun w => absurd w h2⟩⟩⟩⟩
/-- behind a leaf or a bracket -/
theorem OUT_in {n : Nat} {R : tT} {OK : Prop} {Tc0 Tr0 : tT} {P : Int32 → Prop} {pend : Prop} (he : ER sz N p q b h mv m ls ps s f (k + 1) dp (ht + 1) l' Tc' Tr') (hP : P (Tc'.1 4 2)) (h1 : phi p Tc0 + 2 ≤ phi p Tc') (h2 : pos Tc0 + 1 ≤ pos Tc') (h3 : fr (wRe b) Tr0 Tr') (h4 : kpC p Tc0 Tc') (h5 : kpR b Tr0 Tr') (h6 : ∀ i, i < k + 1 → Tr'.1 129 i = Tr0.1 129 i ∧ Tr'.1 130 i = Tr0.1 130 i) (k80 : k + 1 ≤ 80) (h7 : 2 * (N : Int) + 21 ≤ n + 2 * pos Tc') (hR : R = vl_X11_e n Tr' hv mv 2) (hO : okl_X11_e n sz Tr' hv mv 2 → OK) : OUT sz N p q b h hv mv m ls ps s f (k + 1) dp ht P pend Tc0 Tr0 Tc' R OK := by
  have := pos_le he
  obtain ⟨n, rfl⟩ : ∃ n', n = n' + 1 := ⟨n - 1, by omega⟩
  obtain ⟨k1, k2⟩ := KB_in (n := n) (hv := hv) he (Nat.succ_pos k)
  exact Or.inl ⟨Tr', l', n, fu, he, hP, h1, h2, h3, h4, h5, h6, by omega, by rw [fu_eq]; omega, by rw [hR, k1], fun o => hO (k2 o)⟩
/-- a leaf, or an e in brackets -/
theorem S_leaf (g : gq p q) (hb : b < 5) (hh : hv.toInt = h) (h40 : h < 40) (hm : (mv = 1 ∧ m = true) ∨ (mv = 0 ∧ m = false)) (d7 : dp ≤ 7) {x : Int32} {rE : tT → Nat → Int32 → tT} (sE : ∀ T, CS sz N p T → SF sz N p T (rE T q (x + 1))) (hE : dp + 1 < 8 → SIM sz N p q b h hv mv m ls ps s f (dp + 1) (fun T => rE T q (x + 1)) 0 (5 * (dp + 1) + 1) (fun t => 6 ≤ t) (fun kd => rk kd = 0) True (fun _ => True)) (h8 : dp + 1 = 8 → ∀ Tc Tr, CS sz N p Tc → TK N Tc Tr → Tc.1 3 1 = 0 → Tr.1 105 4 = 0 → FL (rE Tc q (x + 1)) (F_X11_wrong Tr)) {st : Int32} (st2 : st ≠ 2) : SIM sz N p q b h hv mv m ls ps s f dp (fun T => F_X6_readLeaf rE T q x) st (5 * dp + 5) (fun _ => True) (fun _ => True) False (fun kd => st = 0 → kd ≠ 209) := by
  intro Tc Tr k ht l n R OK he _ kb gd hn hR hO
  have pN := pos_le he
  obtain ⟨n, rfl⟩ : ∃ n', n = n' + 1 := ⟨n - 1, by omega⟩
  have hfc := he.2.2.2.1.1
  have hfr := he.2.2.2.1.2
  show OUT sz N p q b h hv mv m ls ps s f (k + 1) dp ht (fun _ => True) False Tc Tr (F_X6_readLeaf rE Tc q x) R OK
  by_cases c40 : Tc.1 4 2 = 40
  · obtain ⟨Tr1, hT1, o1, o2, o3, o4, o5, o6, o7, o8⟩ := val_open (hv := hv) (st := st) he g (by omega) d7 (w0 := 6) (Or.inl ⟨c40, rfl⟩)
    obtain ⟨e1, e2⟩ := e_go (n := n) he st2 o6 o7
    obtain ⟨nx1, nx2, nx3, nx4, nx5, nx6, nx7, nx8⟩ := ER_next g he
    have ps1 := nx6 (by rw [c40]; decide)
    have sn := SF_next he.2.1
    have eL : F_X6_readLeaf rE Tc q x = F_X6_take (rE (F_X9_next Tc) q (x + 1)) 41 := by
      unfold F_X6_readLeaf
      rw [if_pos c40]
    have sr := sE (F_X9_next Tc) sn.1.1
    have stk := SF_take sr.1 41
    rw [eL]
    by_cases c8 : dp + 1 < 8
    · rw [if_pos c8] at e1 e2
      rw [e1] at hR
      have out : OUT sz N p q b h hv mv m ls ps s f (k + 1 + 1) (dp + 1) ht (fun kd => rk kd = 0) True (F_X9_next Tc) Tr1 (rE (F_X9_next Tc) q (x + 1)) R OK := hE c8 (F_X9_next Tc) Tr1 (k + 1) ht l n R OK o1 (by rw [o3]; decide) (by omega) trivial (by omega) hR (fun o => hO (e2 o))
      rcases out with ⟨Tr2, l2, n2, m2, r1, r2, r3, r4, r5, r6, r7, r8, r9, r10, r11, r12⟩ | ⟨r1, r2, r3⟩ | ⟨_, r1, r2, r3, r4, r5, r6⟩
      · -- the e in brackets is read
        have r2 : rk ((rE (F_X9_next Tc) q (x + 1)).1 4 2) = 0 := r2
        rw [r2] at r11 r12
        have w6 : Tr2.1 129 (k + 1) = 6 := by rw [(r8 (k + 1) (by omega)).1]; exact o3
        have hk2 := r1.2.2.2.2.2.2.2.1
        have f3 : fr (wl [129, 130] [(105, 37), (105, 38)]) Tr2 (tI (tI Tr2 105 37 (Tr2.1 105 37 - 1)) 105 38 (Tr2.1 105 38 - 1)) := fr_I rfl (fr_I rfl fr_refl)
        have dm : (Tr2.1 105 38 - 1).toInt = dp := by
          have : (1 : Int32).toInt = 1 := rfl
          rw [tsub (by omega) (by omega)]
          omega
        have e3 := ER_pl r1 g f3 (k' := k + 1) (dp' := dp) (by
          rw [tI_off (fun z => by have := z.2; omega), tI_at]
          exact (km1 hk2.1 (by omega)).1) (by rw [tI_at]; exact dm)
        obtain ⟨m2, rfl⟩ : ∃ m', m2 = m' + 2 := ⟨m2 - 2, by omega⟩
        have p2 := pos_le r1
        have i41 := tk_is e3.2.2.1 (c := 41) (by unfold isS; decide)
        have o41 := is_ok (sz := sz) e3.2.2.1 e3.1.1.2.1 41
        obtain ⟨y1, y2, y3, y4, y5, y6, y7, y8⟩ := ER_next g e3
        have okm : ok_X11_must sz (tI (tI Tr2 105 37 (Tr2.1 105 37 - 1)) 105 38 (Tr2.1 105 38 - 1)) 41 := ⟨o41, fun _ => trivial, fun _ => ⟨y4, trivial⟩⟩
        obtain ⟨q1, q2⟩ := KB_close (n := n2) (m' := m2) (hv := hv) (mv := mv) hk2.1 (by omega) w6 okm
        rw [q1] at r11
        have same : ∀ i, (tI (tI Tr2 105 37 (Tr2.1 105 37 - 1)) 105 38 (Tr2.1 105 38 - 1)).1 129 i = Tr2.1 129 i ∧ (tI (tI Tr2 105 37 (Tr2.1 105 37 - 1)) 105 38 (Tr2.1 105 38 - 1)).1 130 i = Tr2.1 130 i := fun i => ⟨by rw [tI_off (fun z => by have := z.1; omega), tI_off (fun z => by have := z.1; omega)], by rw [tI_off (fun z => by have := z.1; omega), tI_off (fun z => by have := z.1; omega)]⟩
        have f3' : fr (wRe b) Tr2 (tI (tI Tr2 105 37 (Tr2.1 105 37 - 1)) 105 38 (Tr2.1 105 38 - 1)) := fr_I (by unfold wRe; rfl) (fr_I (by unfold wRe; rfl) fr_refl)
        by_cases c41 : (rE (F_X9_next Tc) q (x + 1)).1 4 2 = 41
        · have eT : F_X6_take (rE (F_X9_next Tc) q (x + 1)) 41 = F_X9_next (rE (F_X9_next Tc) q (x + 1)) := by
            unfold F_X6_take
            rw [if_pos r1.2.2.2.1.1, if_pos c41]
          have eM : F_X11_must (tI (tI Tr2 105 37 (Tr2.1 105 37 - 1)) 105 38 (Tr2.1 105 38 - 1)) 41 = F_X11_next (tI (tI Tr2 105 37 (Tr2.1 105 37 - 1)) 105 38 (Tr2.1 105 38 - 1)) := by
            unfold F_X11_must
            rw [if_neg (fun z => i41.mp z c41)]
          rw [eM] at r11 q2
          rw [eT]
          have ps3 := y6 (by rw [c41]; decide)
          refine OUT_in y1 trivial (by rw [y8]; omega) (by omega) (fr_trans o2 (fr_trans r5 (fr_trans f3' (w5_wRe y3)))) ?_ ?_ ?_ (by omega) (by omega) r11 (fun o => r12 (q2 o))
          · exact kpC_trans (kpC_w4 g.1 nx2) (kpC_trans r6 (kpC_w4 g.1 y2))
          · exact kpR_trans o8 (kpR_trans r7 (kpR_trans (kpR_pl f3) (kpR_w5 y3)))
          · intro i hi
            rw [fr_i y3 (k := 129) (i := i) rfl, fr_i y3 (k := 130) (i := i) rfl, (same i).1, (same i).2, (r8 i (by omega)).1, (r8 i (by omega)).2]
            exact o5 i hi
        · have eT : F_X6_take (rE (F_X9_next Tc) q (x + 1)) 41 = F_X6_refuse (rE (F_X9_next Tc) q (x + 1)) := by
            unfold F_X6_take
            rw [if_pos r1.2.2.2.1.1, if_neg c41]
          have eM : F_X11_must (tI (tI Tr2 105 37 (Tr2.1 105 37 - 1)) 105 38 (Tr2.1 105 38 - 1)) 41 = F_X11_wrong (tI (tI Tr2 105 37 (Tr2.1 105 37 - 1)) 105 38 (Tr2.1 105 38 - 1)) := by
            unfold F_X11_must
            rw [if_pos (i41.mpr c41)]
          rw [eM] at r11 q2
          obtain ⟨n2, rfl⟩ : ∃ n', n2 = n' + 1 := ⟨n2 - 1, by omega⟩
          obtain ⟨z1, z2⟩ := e_flt (n := n2) (sz := sz) (hv := hv) (mv := mv) (st := 2) (wrong_ne e3.2.2.2.1.2)
          rw [z1] at r11
          rw [eT, r11]
          exact Or.inr (Or.inl ⟨FL_refuse e3.2.2.1 e3.2.2.2.1.1 e3.2.2.2.1.2, r12 (q2 z2), fr_trans o2 (fr_trans r5 (fr_trans f3' fr_wrong))⟩)
      · exact Or.inr (Or.inl ⟨FL_SF r1 stk.1, r2, fr_trans o2 r3⟩)
      · -- a relation behind a relation
        refine Or.inr (Or.inl ⟨?_, r5, fr_trans o2 r6⟩)
        have n41 : ¬ (rE (F_X9_next Tc) q (x + 1)).1 4 2 = 41 := by rcases r2 with w | w | w <;> rw [w] <;> decide
        have nb : ¬ (rE (F_X9_next Tc) q (x + 1)).1 4 2 = 1 := by rcases r2 with w | w | w <;> rw [w] <;> decide
        unfold F_X6_take F_X6_refuse
        rw [if_pos r1, if_neg n41, if_neg nb, fail_eq r1]
        refine ⟨?_, ?_, ?_⟩
        · rw [tI_off (fun z => by have := z.2; omega), tI_at]; decide
        · rw [tI_off (fun z => by have := z.2; omega), tI_at]; exact r3
        · rw [tI_at]; exact r4
    · rw [if_neg c8] at e1 e2
      obtain ⟨n, rfl⟩ : ∃ n', n = n' + 1 := ⟨n - 1, by omega⟩
      obtain ⟨z1, z2⟩ := e_flt (n := n) (sz := sz) (hv := hv) (mv := mv) (st := 0) (wrong_ne o1.2.2.2.1.2)
      rw [e1, z1] at hR
      rw [hR]
      exact Or.inr (Or.inl ⟨FL_SF (h8 (by omega) (F_X9_next Tc) Tr1 sn.1.1 o1.2.2.1 o1.2.2.2.1.1 o1.2.2.2.1.2) stk.1, hO (e2 z2), fr_trans o2 fr_wrong⟩)
  · obtain ⟨v1, v2⟩ := val_red (sz := sz) (hv := hv) (mv := mv) (st := st) he.2.2.1 he.1.1.2.1 c40 gd
    have lf := isLeaf_iff (T := Tc) he.2.2.1
    have leq := he.2.2.2.2.1
    obtain ⟨lv, hlv, lv1⟩ := he.2.1.2.2.2.2.1
    have z150 : (150 : Int32).toInt = 150 := rfl
    have bad : (¬ lfT (Tc.1 4 2) ∨ Tr.1 105 13 = 150) → F_X6_readLeaf rE Tc q x = F_X6_refuse Tc → OUT sz N p q b h hv mv m ls ps s f (k + 1) dp ht (fun _ => True) False Tc Tr (F_X6_readLeaf rE Tc q x) R OK := by
      intro hb' eL
      obtain ⟨w1, w2⟩ := val_bad (sz := sz) (hv := hv) (mv := mv) he.2.2.1 hfr hb'
      rw [w1] at v1
      obtain ⟨e1, e2⟩ := e_go (n := n) he st2 v1 (v2 w2)
      obtain ⟨n, rfl⟩ : ∃ n', n = n' + 1 := ⟨n - 1, by omega⟩
      obtain ⟨z1, z2⟩ := e_flt (n := n) (sz := sz) (hv := hv) (mv := mv) (st := 0) (wrong_ne hfr)
      rw [e1, z1] at hR
      rw [hR, eL]
      exact Or.inr (Or.inl ⟨FL_refuse he.2.2.1 hfc hfr, hO (e2 z2), fr_wrong⟩)
    by_cases cl : lfT (Tc.1 4 2)
    · have l0 : ¬ v_X6_isLeaf Tc (Tc.1 4 2) = 0 := fun z => lf.mp z cl
      by_cases c15 : Tc.1 3 5 < 150
      · have c15' := c15
        rw [tlt, z150] at c15'
        have eL : F_X6_readLeaf rE Tc q x = F_X9_next (F_X6_addMeaning (tI Tc 3 5 (Tc.1 3 5 + 1)) q) := by
          unfold F_X6_readLeaf
          rw [if_neg c40, if_neg l0, if_pos c15]
        have n15 : ¬ Tr.1 105 13 = 150 := by rw [leq, teq, z150]; omega
        obtain ⟨lv1, lv2, lv3⟩ := ER_lv he g c15'
        have k4 : (tI Tc 3 5 (Tc.1 3 5 + 1)).1 4 2 = Tc.1 4 2 := tI_off (fun z => by have := z.1; omega)
        have ph3 : 3 ≤ phi p (tI Tc 3 5 (Tc.1 3 5 + 1)) := by have := he.2.2.2.2.2.2.2.2; omega
        have lfn : (lfN l : Int) + 1 ≤ ((tI Tc 3 5 (Tc.1 3 5 + 1)).1 3 5).toInt := by have := he.2.2.2.2.2.1.2.2.2.2.2.2; omega
        obtain ⟨vl1, vl2⟩ := val_lf (sz := sz) (hv := hv) (mv := mv) he.2.2.1 hfr cl n15
        have fI : fr (wRe b) Tr (tI Tr 105 13 (Tr.1 105 13 + 1)) := fr_I (by unfold wRe; rfl) fr_refl
        have csM := (SF_meaning (q := q) lv1.2.1).1
        -- the step is told by both
        have done : ∀ X : tT, LO sz N p q b h mv m ls ps s f (k + 1) dp ht l (tI Tc 3 5 (Tc.1 3 5 + 1)) (tI Tr 105 13 (Tr.1 105 13 + 1)) (F_X6_addMeaning (tI Tc 3 5 (Tc.1 3 5 + 1)) q) X → (X.1 105 4 = 0 → ok_X11_next sz X → (vl_X11_value fu).2.1 Tr hv mv = (2, F_X11_next X) ∧ (okl_X11_value fu).2.1 sz Tr hv mv) → (X.1 105 4 ≠ 0 → (vl_X11_value fu).2.1 Tr hv mv = (2, X) ∧ (okl_X11_value fu).2.1 sz Tr hv mv) → OUT sz N p q b h hv mv m ls ps s f (k + 1) dp ht (fun _ => True) False Tc Tr (F_X6_readLeaf rE Tc q x) R OK := by
          intro X ho ha hb'
          rw [eL]
          rcases ho with ⟨⟨y, y1, y2, y3, y4, y5, y6⟩ | y1, y7⟩
          · obtain ⟨x1, x2, x3, x4, x5, x6, x7, x8⟩ := ER_next g y1
            obtain ⟨w1, w2⟩ := ha y1.2.2.2.1.2 x4
            rw [w1] at v1
            obtain ⟨e1, e2⟩ := e_go (n := n) he st2 v1 (v2 w2)
            rw [e1] at hR
            have kd : (F_X6_addMeaning (tI Tc 3 5 (Tc.1 3 5 + 1)) q).1 4 2 = Tc.1 4 2 := by rw [y5]; exact k4
            have pe : pos (F_X6_addMeaning (tI Tc 3 5 (Tc.1 3 5 + 1)) q) = pos Tc := by
              unfold pos
              rw [y5, tI_off (fun z => by have := z.1; omega)]
            have ne0 : (F_X6_addMeaning (tI Tc 3 5 (Tc.1 3 5 + 1)) q).1 4 2 ≠ 0 := by
              rw [kd]
              intro z
              rw [z] at cl
              rcases cl with w | w | ⟨i, i1, i2, w⟩
              · exact absurd w (by decide)
              · exact absurd w (by decide)
              · rw [teq, nI_toInt (by omega), show (0 : Int32).toInt = 0 from rfl] at w
                omega
            have px := x6 ne0
            refine OUT_in x1 trivial (by rw [x8]; omega) (by omega) (fr_trans fI (fr_trans y7 (w5_wRe x3))) ?_ ?_ ?_ (by omega) (by omega) hR (fun o => hO (e2 o))
            · have gp := g.1
              exact kpC_trans (kpC_eq (tI_off (fun z => by have := z.1; omega)) (fun i => tI_off (fun z => by have := z.1; omega))) (kpC_trans y2 (kpC_w4 g.1 x2))
            · exact kpR_trans (kpR_eq (tI_off (fun z => by have := z.2; omega)) (fun i => tI_off (fun z => by have := z.1; omega)) (fun i => tI_off (fun z => by have := z.1; omega))) (kpR_trans y3 (kpR_w5 x3))
            · intro i hi
              rw [fr_i x3 (k := 129) (i := i) rfl, fr_i x3 (k := 130) (i := i) rfl, (y6 i).1, (y6 i).2]
              exact ⟨tI_off (fun z => by have := z.1; omega), tI_off (fun z => by have := z.1; omega)⟩
          · have x0 : X.1 105 4 ≠ 0 := by rw [y1.2.1]; exact y1.1
            obtain ⟨w1, w2⟩ := hb' x0
            rw [w1] at v1
            obtain ⟨e1, e2⟩ := e_go (n := n) he st2 v1 (v2 w2)
            obtain ⟨n, rfl⟩ : ∃ n', n = n' + 1 := ⟨n - 1, by omega⟩
            obtain ⟨z1, z2⟩ := e_flt (n := n) (sz := sz) (hv := hv) (mv := mv) (st := 2) x0
            rw [e1, z1] at hR
            rw [hR]
            exact Or.inr (Or.inl ⟨FL_SF y1 (SF_next csM.1).1, hO (e2 z2), fr_trans fI y7⟩)
        by_cases c2 : Tc.1 4 2 = 2
        · -- a number
          have nm : Tr.1 105 9 = Tc.1 4 4 ∧ 0 ≤ (Tc.1 4 4).toInt ∧ (Tc.1 4 4).toInt ≤ 999999 := by
            obtain ⟨pl, e, _, _, _, _, _, _, _, _, _, kr⟩ := he.2.2.1
            rcases kr with ⟨k1, _⟩ | ⟨k1, _⟩ | ⟨k1, _, t3, t4, t5⟩ | ⟨k1, _⟩ | ⟨j, j1, k1, _⟩ | ⟨k1, _⟩
            · rw [c2] at k1; exact absurd k1 (by decide)
            · rw [c2] at k1; exact absurd k1 (by decide)
            · exact ⟨t3, t4, t5⟩
            · rw [c2] at k1; exact absurd k1 (by decide)
            · rw [c2, teq, nI_toInt (by omega), show (2 : Int32).toInt = 2 from rfl] at k1; omega
            · have := isS_lt k1
              rw [c2, show (2 : Int32).toInt = 2 from rfl] at this
              omega
          have eA : F_X6_addMeaning (tI Tc 3 5 (Tc.1 3 5 + 1)) q = F_X8_addCell (tI Tc 3 5 (Tc.1 3 5 + 1)) p 2 (Tc.1 4 4) := by
            unfold F_X6_addMeaning
            rw [if_pos (by rw [k4]; exact c2), lv1.2.1.2.2.1]
            show F_X8_addCell _ p 2 ((tI Tc 3 5 (Tc.1 3 5 + 1)).1 4 4) = _
            rw [tI_off (fun z => by have := z.1; omega)]
          obtain ⟨q1, q2, q3⟩ := emit_leaf g hb lv1 (kk := 2) (vv := Tc.1 4 4) ph3 rfl ⟨nm.2.1, by omega⟩ (Or.inl ⟨rfl, by rw [tle]; exact nm.2.1, by rw [tle]; exact nm.2.2⟩) lfn
          refine done (F_X11_step (tI Tr 105 13 (Tr.1 105 13 + 1)) 110 (Tr.1 105 9)) (by rw [eA, nm.1]; exact q1) (fun x0 o2 => vl1 c2 _ rfl (by rw [nm.1]; exact q2) x0 o2) (fun x0 => absurd (by rw [nm.1]; exact q3) x0)
        · obtain ⟨q1, q2⟩ := e_mean g hb hh h40 hm lv1 ph3 lfn (by rw [k4]; exact cl) (by rw [k4]; exact c2)
          exact done _ q1 (vl2 c2 _ rfl q2).1 (vl2 c2 _ rfl q2).2
      · apply bad
        · refine Or.inr ?_
          rw [leq, teq, z150]
          rw [tlt, z150] at c15
          omega
        · unfold F_X6_readLeaf
          rw [if_neg c40, if_neg l0, if_neg c15]
    · apply bad (Or.inl cl)
      unfold F_X6_readLeaf
      rw [if_neg c40, if_pos (lf.mpr cl)]
end
