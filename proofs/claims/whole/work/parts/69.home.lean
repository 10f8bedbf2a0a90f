/-! the class's planner: all go home, a day begins, the choice -/
def imp (P Q : Prop) : Prop := P → Q
theorem l_home {sz : Nat} (hsz : 161 ≤ sz) {T0 : tT} {a b e g c0 : Nat} (h0 : (T0.1 85 3).toInt = c0) (c1 : c0 ≤ 120) : ∀ (r n k : Nat) (T : tT) (v : Int32), PL T a b e g → fr (wl [e] []) T0 T → v.toInt = k → (k + r = c0 ∨ (r = 0 ∧ c0 ≤ k)) → r < n → 0 < k → imp (0 < c0) (∃ j, j < k ∧ j < c0 ∧ T.2.1 e 0 = T0.2.1 e j) → (∀ j, j < k → j < c0 → (T.2.1 e 0).toInt ≤ (T0.2.1 e j).toInt) → (∀ j, 0 < j → T.2.1 e j = T0.2.1 e j) → (∃ T1, fr (wl [e] []) T0 T1 ∧ (0 < c0 → ∃ j, j < c0 ∧ T1.2.1 e 0 = T0.2.1 e j) ∧ (∀ j, j < c0 → (T1.2.1 e 0).toInt ≤ (T0.2.1 e j).toInt) ∧ vl_X7_sendAllHome n T v = tI (tI T1 a 0 0) 85 3 (if (1 : Int32) < T0.1 85 3 then 1 else T0.1 85 3)) ∧ okl_X7_sendAllHome n sz T v := by
  intro r
  have n0 : (0 : Int32).toNatClampNeg = 0 := rfl
  have i0 : vp_in (0 : Int32) 120 := by rw [vp_in_iff, show (0 : Int32).toInt = 0 from rfl]; omega
  induction r with
  | zero =>
    intro n k T v hP fT hv hk hn k0 h1 h2 h3
    obtain ⟨n, rfl⟩ : ∃ n', n = n' + 1 := ⟨n - 1, by omega⟩
    have hP' := hP
    obtain ⟨p1, p2, p3, p4, p5, p6⟩ := hP
    have e85 : T.1 85 3 = T0.1 85 3 := fr_i fT (k := 85) (i := 3) (by unfold wl; rcases p6 with ⟨q, _⟩ | ⟨q, _⟩ <;> subst q <;> rfl)
    have cc : T.1 85 3 ≤ v := by rw [e85, tle]; omega
    have ta : tar sz a 0 120 := tar_w hsz (by omega)
    have o3 : ∀ i w, (tI T a i w).1 85 3 = T.1 85 3 := fun i w => tI_off (fun q => by have := q.1; omega)
    rw [vl_X7_sendAllHome_s, if_pos cc]
    simp only [okl_X7_sendAllHome]
    rw [p1]
    simp only [o3]
    rw [n0, e85]
    refine ⟨⟨T, fT, ?_, ?_, rfl⟩, fun _ => ⟨fun w => (by cases w), fun p1' w => ?_⟩, fun w => absurd (by rw [← e85]; exact cc) w⟩
    · intro q
      obtain ⟨j, j1, j2, j3⟩ := h1 q
      exact ⟨j, j2, j3⟩
    · exact fun j hj => h2 j (by omega) hj
    · cases w
      exact ⟨ta, i0⟩
  | succ r ih =>
    intro n k T v hP fT hv hk hn k0 h1 h2 h3
    obtain ⟨n, rfl⟩ : ∃ n', n = n' + 1 := ⟨n - 1, by omega⟩
    have hP' := hP
    obtain ⟨p1, p2, p3, p4, p5, p6⟩ := hP
    have e85 : T.1 85 3 = T0.1 85 3 := fr_i fT (k := 85) (i := 3) (by unfold wl; rcases p6 with ⟨q, _⟩ | ⟨q, _⟩ <;> subst q <;> rfl)
    have cc : ¬ T.1 85 3 ≤ v := by rw [e85, tle]; omega
    have te : tar sz e 1 120 := tar_o hsz (by omega)
    have iv : vp_in v 120 := by rw [vp_in_iff]; omega
    have st : (v + 1).toInt = (k + 1 : Nat) := by rw [tinc' (by omega)]; omega
    rw [vl_X7_sendAllHome_s, if_neg cc]
    simp only [okl_X7_sendAllHome]
    rw [p3]
    simp only []
    rw [n0, tnN hv]
    have c00 : 0 < c0 := by omega
    obtain ⟨j, j1, j2, j3⟩ := h1 c00
    have wk : T.2.1 e k = T0.2.1 e k := h3 k k0
    obtain ⟨u1, u2⟩ := ih n (k + 1) (tJ T e 0 (if T.2.1 e k < T.2.1 e 0 then T.2.1 e k else T.2.1 e 0)) (v + 1) hP' (fr_J (by unfold wl; simp) fT) st (by omega) (by omega) (by omega) (fun _ => by
      rw [tJ_at]
      by_cases q : T.2.1 e k < T.2.1 e 0
      · rw [if_pos q]
        exact ⟨k, by omega, by omega, wk⟩
      · rw [if_neg q]
        exact ⟨j, by omega, j2, j3⟩) (fun i i1 i2 => by
      rw [tJ_at]
      by_cases q : T.2.1 e k < T.2.1 e 0
      · rw [if_pos q, wk]
        rw [Int64.lt_iff_toInt_lt, wk] at q
        by_cases z : i = k
        · rw [z]; exact Int.le_refl _
        · have := h2 i (by omega) i2
          omega
      · rw [if_neg q]
        rw [Int64.lt_iff_toInt_lt, wk] at q
        by_cases z : i = k
        · rw [z]; omega
        · exact h2 i (by omega) i2) (fun i hi => by
      rw [tJ_off (fun q => by have := q.2; omega)]
      exact h3 i hi)
    refine ⟨u1, fun w => absurd w cc, fun _ => ⟨fun w => (by cases w), fun p2' w => ?_⟩⟩
    cases w
    exact ⟨te, i0, iv, i0, u2⟩
/-- all go home -/
theorem e_home {sz : Nat} (hsz : 161 ≤ sz) {T : tT} {a b e g c0 : Nat} (hP : PL T a b e g) (h0 : (T.1 85 3).toInt = c0) (c1 : c0 ≤ 120) : (PL (F_X7_sendAllHome T) a b e g ∧ fr (wl [89, 90, 91, 92] [(85, 3)]) T (F_X7_sendAllHome T) ∧ ((F_X7_sendAllHome T).1 85 3).toInt = (if c0 = 0 then 0 else 1 : Nat) ∧ (F_X7_sendAllHome T).1 a 0 = 0 ∧ (0 < c0 → ∃ j, j < c0 ∧ (F_X7_sendAllHome T).2.1 e 0 = T.2.1 e j) ∧ (∀ j, j < c0 → ((F_X7_sendAllHome T).2.1 e 0).toInt ≤ (T.2.1 e j).toInt)) ∧ ok_X7_sendAllHome sz T := by
  obtain ⟨⟨T1, t1, t2, t3, t4⟩, t5⟩ := l_home hsz h0 c1 (c0 - 1) fu 1 T 1 hP fr_refl rfl (by omega) (by rw [fu_eq]; omega) (by omega) (fun q => ⟨0, by omega, q, rfl⟩) (fun j j1 j2 => by
    have : j = 0 := by omega
    subst this
    exact Int.le_refl _) (fun _ _ => rfl)
  unfold F_X7_sendAllHome ok_X7_sendAllHome
  rw [t4]
  obtain ⟨p1, p2, p3, p4, p5, p6⟩ := hP
  have we : ∀ i, wl [e] [] 85 i = false := fun i => by unfold wl; rcases p6 with ⟨q, _⟩ | ⟨q, _⟩ <;> subst q <;> rfl
  refine ⟨⟨⟨(fr_p t1 (we 5)).trans p1, (fr_p t1 (we 6)).trans p2, (fr_p t1 (we 7)).trans p3, (fr_p t1 (we 8)).trans p4, p5, p6⟩, ?_, ?_, ?_, t2, t3⟩, t5⟩
  · have f1 : fr (wl [89, 90, 91, 92] [(85, 3)]) T T1 := by
      rcases p6 with ⟨q, _⟩ | ⟨q, _⟩ <;> subst q <;> exact fr_mono rfl t1
    refine fr_I rfl (fr_I ?_ f1)
    rcases p5 with ⟨q, _⟩ | ⟨q, _⟩ <;> subst q <;> rfl
  · rw [tI_at]
    have z1 : (1 : Int32).toInt = 1 := rfl
    by_cases c : (1 : Int32) < T.1 85 3
    · rw [if_pos c, z1]
      rw [tlt] at c
      rw [if_neg (by omega)]
      rfl
    · rw [if_neg c, h0]
      rw [tlt] at c
      by_cases q : c0 = 0
      · rw [if_pos q, q]
      · rw [if_neg q]
        omega
  · rw [tI_off (fun q => by have := q.1; omega)]
    exact tI_at
/-- the rows change places -/
theorem e_swap {sz : Nat} (hsz : 161 ≤ sz) {T : tT} {a b e g : Nat} (hP : PL T a b e g) : (PL (F_X7_startDay T 1) b a g e ∧ fr (wl [] [(85, 3), (85, 4), (85, 5), (85, 6), (85, 7), (85, 8)]) T (F_X7_startDay T 1) ∧ (F_X7_startDay T 1).1 85 3 = 0 ∧ (F_X7_startDay T 1).1 85 4 = T.1 85 3) ∧ ok_X7_startDay sz T 1 := by
  obtain ⟨p1, p2, p3, p4, p5, p6⟩ := hP
  have ta : tar sz a 0 120 := tar_w hsz (by omega)
  have tb : tar sz b 0 120 := tar_w hsz (by omega)
  have te : tar sz e 1 120 := tar_o hsz (by omega)
  have tg : tar sz g 1 120 := tar_o hsz (by omega)
  have n1 : ¬ (1 : Int32) = 0 := by decide
  have eq1 : F_X7_startDay T 1 = tI (tP (tP (tI (tP (tP T 85 6 (some a)) 85 8 (some e)) 85 4 (T.1 85 3)) 85 5 (some b)) 85 7 (some g)) 85 3 0 := by
    unfold F_X7_startDay
    rw [if_neg n1, p1, p2, p3, p4]
  rw [eq1]
  refine ⟨⟨⟨rfl, rfl, rfl, rfl, by omega, by omega⟩, fr_I rfl (fr_P rfl (fr_P rfl (fr_I rfl (fr_P rfl (fr_P rfl fr_refl))))), tI_at, ?_⟩, ?_⟩
  · rw [tI_off (fun q => by have := q.2; omega)]
    show (tI (tP (tP T 85 6 (some a)) 85 8 (some e)) 85 4 (T.1 85 3)).1 85 4 = T.1 85 3
    exact tI_at
  · unfold ok_X7_startDay
    rw [p1, p2, p3, p4]
    refine ⟨fun _ => ⟨fun w => (by cases w), fun p1' w => ?_⟩, fun w => absurd w n1⟩
    cases w
    refine ⟨tb, fun w => (by cases w), fun p7' w => ?_⟩
    cases w
    refine ⟨tg, fun w => (by cases w), fun p10' w => ?_⟩
    cases w
    refine ⟨ta, fun w => (by cases w), fun p11' w => ?_⟩
    cases w
    exact ⟨te, trivial⟩
theorem e_start0 {sz : Nat} (hsz : 161 ≤ sz) {T : tT} {a b e g c0 : Nat} (hP : PL T a b e g) (h0 : (T.1 85 3).toInt = c0) (c1 : c0 ≤ 120) : F_X7_startDay T 0 = F_X7_startDay (F_X7_sendAllHome T) 1 ∧ ok_X7_startDay sz T 0 := by
  obtain ⟨⟨k1, k2, k3, k4, k5, k6⟩, k7⟩ := e_home hsz hP h0 c1
  have s := (e_swap hsz k1).2
  obtain ⟨p1, p2, p3, p4, p5, p6⟩ := k1
  have n1 : ¬ (1 : Int32) = 0 := by decide
  refine ⟨?_, ?_⟩
  · unfold F_X7_startDay
    rw [if_pos rfl, if_neg n1, p1, p2, p3, p4]
  · unfold ok_X7_startDay at s ⊢
    exact ⟨fun w => absurd rfl w, fun _ => ⟨k7, s.1 n1⟩⟩
/-! shifts to the right -/
theorem shr_i (w : Int64) {n : Nat} {v : Int64} (hv : v = Int64.ofNat n) (hn : n ≤ 56) : (w >>> v).toInt = w.toInt / (2 ^ n : Nat) := by
  subst hv
  have e : (w >>> (Int64.ofNat n)).toBitVec = w.toBitVec.sshiftRight n := by
    rw [Int64.toBitVec_shiftRight]
    have : ((Int64.ofNat n).toBitVec.smod 64).toNat = n := sh_a n (List.mem_range.mpr (by omega))
    rw [BitVec.sshiftRight', this]
  show (w >>> (Int64.ofNat n)).toBitVec.toInt = w.toBitVec.toInt / (2 ^ n : Nat)
  rw [e, BitVec.toInt_sshiftRight, Int.shiftRight_eq_div_pow]
theorem and7 (w : Int64) : (w.toInt32 &&& (7 : Int32)).toInt = w.toInt % 8 := by
  have e : (w.toInt32 &&& (7 : Int32)).toBitVec.toNat = w.toBitVec.toNat % 8 := by
    rw [Int32.toBitVec_and, BitVec.toNat_and, Int64.toBitVec_toInt32, BitVec.signExtend_eq_setWidth_of_le _ (by decide), BitVec.toNat_setWidth]
    show w.toBitVec.toNat % 2 ^ 32 &&& 7 = _
    rw [show (7 : Nat) = 2 ^ 3 - 1 from rfl, Nat.and_two_pow_sub_one_eq_mod]
    omega
  have l : (w.toInt32 &&& (7 : Int32)).toBitVec.toInt = (w.toInt32 &&& (7 : Int32)).toBitVec.toNat := BitVec.toInt_eq_toNat_of_lt (by rw [e]; omega)
  have d : w.toBitVec.toInt = w.toBitVec.toNat ∨ w.toBitVec.toInt = (w.toBitVec.toNat : Int) - 18446744073709551616 := by
    rw [BitVec.toInt_eq_toNat_cond]
    split
    · exact Or.inl rfl
    · exact Or.inr rfl
  show (w.toInt32 &&& (7 : Int32)).toBitVec.toInt = w.toBitVec.toInt % 8
  rw [l, e]
  omega
theorem l_choose {sz : Nat} {S : Nat} (S9 : S ≤ 9) {w : Int64} {W : Int} {f : Nat → Nat} {Sv : Int32} (hS : Sv.toInt = S) (hw : w.toInt = W * 134217728 + sg S (fun t => (f t : Int) * p8 t)) (hf : ∀ t, t < S → f t ≤ 7) : ∀ (r n k : Nat) (T : tT) (v : Int32), v.toInt = k → k + r = S → r < n → (fr (wl [86] []) T (vl_X7_choose n T Sv w v) ∧ (∀ s, s < k ∨ S ≤ s → (vl_X7_choose n T Sv w v).1 86 s = T.1 86 s) ∧ (∀ s, k ≤ s → s < S → (vl_X7_choose n T Sv w v).1 86 s = nI (f s))) ∧ okl_X7_choose n sz T Sv w v := by
  intro r
  induction r with
  | zero =>
    intro n k T v hv hk hn
    obtain ⟨n, rfl⟩ : ∃ n', n = n' + 1 := ⟨n - 1, by omega⟩
    have cc : Sv ≤ v := by rw [tle]; omega
    rw [vl_X7_choose_s, if_pos cc]
    simp only [okl_X7_choose]
    exact ⟨⟨fr_refl, fun s _ => trivial, fun s s1 s2 => by omega⟩, fun _ => trivial, fun q => absurd cc q⟩
  | succ r ih =>
    intro n k T v hv hk hn
    obtain ⟨n, rfl⟩ : ∃ n', n = n' + 1 := ⟨n - 1, by omega⟩
    have cc : ¬ Sv ≤ v := by rw [tle]; omega
    have st : (v + 1).toInt = (k + 1 : Nat) := by rw [tinc' (by omega)]; omega
    have v9 : vp_in v 9 := by rw [vp_in_iff]; omega
    have sh : ∀ k ∈ List.range 9, ((3 : Int32) * ((8 : Int32) - nI k)).toInt64 &&& 63 = Int64.ofNat (3 * (8 - k)) ∧ ((2 ^ (3 * (8 - k)) : Nat) : Int) = 8 ^ (8 - k) := by decide
    obtain ⟨s1, s2⟩ := sh k (List.mem_range.mpr (by omega))
    have dg : (w >>> (((3 : Int32) * ((8 : Int32) - v)).toInt64 &&& 63)).toInt32 &&& (7 : Int32) = nI (f k) := by
      have := hf k (by omega)
      rw [teq, and7, nI_self hv (by omega), shr_i w s1 (by omega), s2, hw, nI_toInt (by omega)]
      exact dg_get (by omega) S9 hf
    rw [vl_X7_choose_s, if_neg cc]
    simp only [okl_X7_choose]
    rw [tnN hv, dg]
    obtain ⟨⟨u1, u2, u3⟩, u4⟩ := ih n (k + 1) (tI T 86 k (nI (f k))) (v + 1) st (by omega) (by omega)
    refine ⟨⟨fr_trans (fr_I rfl fr_refl) u1, fun s hs => ?_, fun s s1 s2 => ?_⟩, fun q => absurd q cc, fun _ => ⟨v9, u4⟩⟩
    · rw [u2 s (by omega), tI_off (fun q => by have := q.2; omega)]
    · by_cases c : s = k
      · subst c
        rw [u2 s (by omega), tI_at]
      · exact u3 s (by omega) s2
