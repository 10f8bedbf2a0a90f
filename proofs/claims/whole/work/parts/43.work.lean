/-! rules worked: both as one list of steps -/
def T00 : tT := (fun _ _ => 0, fun _ _ => 0, fun _ _ => none)
def jn (k a b : Int32) : Int32 := v_X4_join T00 k a b
def ev1 (lf : Int32 → Int32 → Int32) (st : List Int32) (x : Int32 × Int32) : List Int32 :=
  if lfK x.1 = true then lf x.1 x.2 :: st else if x.1 = 209 then (match st with | a :: r => (if a = 0 then 1 else 0) :: r | [] => []) else (match st with | b :: a :: r => jn x.1 a b :: r | _ => [])
def evl (lf : Int32 → Int32 → Int32) : List Int32 → List (Int32 × Int32) → List Int32
  | st, [] => st
  | st, x :: l => evl lf (ev1 lf st x) l
def Stk (f : Nat → Int32) : List Int32 → Prop
  | [] => True
  | a :: r => f r.length = a ∧ Stk f r
theorem Stk_up {f : Nat → Int32} {i : Nat} {v : Int32} : ∀ {st : List Int32}, st.length ≤ i → Stk f st → Stk (va_up f i v) st
  | [], _, _ => trivial
  | a :: r, h, hs => by
    rw [List.length_cons] at h
    refine ⟨?_, Stk_up (by omega) hs.2⟩
    unfold va_up
    rw [if_neg (by omega)]
    exact hs.1
theorem Stk_push {f : Nat → Int32} {v : Int32} {st : List Int32} (h : Stk f st) : Stk (va_up f st.length v) (v :: st) := ⟨by unfold va_up; rw [if_pos rfl], Stk_up (Nat.le_refl _) h⟩
def SG (T : tT) (st : List Int32) : Prop := (T.1 66 2).toInt = (st.length : Nat) ∧ Stk (T.1 68) st
theorem push5 {sz : Nat} {T : tT} {st : List Int32} (v : Int32) (h : SG T st) (hl : st.length < 150) : SG (F_X4_push T v) (v :: st) ∧ fr (wl [68] [(66, 2)]) T (F_X4_push T v) ∧ ok_X4_push sz T v := by
  have c : ¬ 150 ≤ T.1 66 2 := by rw [tle, h.1, show (150 : Int32).toInt = 150 from rfl]; omega
  have e : F_X4_push T v = tI (tI T 68 st.length v) 66 2 (T.1 66 2 + 1) := by
    unfold F_X4_push
    rw [if_neg c, tnN h.1]
  rw [e]
  refine ⟨⟨?_, Stk_push h.2⟩, fr_I rfl (fr_I rfl fr_refl), fun q => absurd q c, fun _ => by rw [vp_in_iff, h.1]; omega⟩
  show (T.1 66 2 + 1).toInt = _
  rw [tinc' (by rw [h.1]; omega), h.1, List.length_cons]
  rfl
theorem pop5 {sz : Nat} {T : tT} {a : Int32} {st : List Int32} (h : SG T (a :: st)) (hl : st.length < 150) : (F_X4_pop T).1 = a ∧ SG (F_X4_pop T).2 st ∧ fr (wl [68] [(66, 2)]) T (F_X4_pop T).2 ∧ ok_X4_pop sz T := by
  obtain ⟨h1, h2, h3⟩ := h
  rw [List.length_cons] at h1
  have c : 0 < T.1 66 2 := by rw [tlt, h1, show (0 : Int32).toInt = 0 from rfl]; omega
  have d : (T.1 66 2 - 1).toInt = (st.length : Nat) := by
    rw [tsub (by rw [show (1 : Int32).toInt = 1 from rfl]; omega) (by rw [show (1 : Int32).toInt = 1 from rfl]; omega), show (1 : Int32).toInt = 1 from rfl]; omega
  have e : F_X4_pop T = (T.1 68 st.length, tI T 66 2 (T.1 66 2 - 1)) := by
    unfold F_X4_pop
    rw [if_pos c, tnN d]
  rw [e]
  exact ⟨h2, ⟨d, h3⟩, fr_I rfl fr_refl, fun _ => by rw [vp_in_iff, d]; omega, fun q => absurd c q⟩
/-- the class's leaf -/
noncomputable def lv5 (T : tT) (g : Nat) (e k v : Int32) : Int32 := if k = 2 ∨ k = 202 ∨ ¬ k < 213 then v_X4_markLeaf T g k v else v_X4_pieceLeaf T g k v e
def lk5 (sz : Nat) (T : tT) (g : Nat) (e k v : Int32) : Prop := if k = 2 ∨ k = 202 ∨ ¬ k < 213 then ok_X4_markLeaf sz T g k v else ok_X4_pieceLeaf sz T g k v e
theorem lfK_cases {k : Int32} (h : lfK k = true) : k = 2 ∨ k = 201 ∨ k = 202 ∨ k = 210 ∨ k = 211 ∨ k = 212 ∨ k = 213 ∨ k = 214 := by
  unfold lfK at h
  simp only [Bool.or_eq_true, beq_iff_eq] at h
  grind
theorem w5_leaf {sz n : Nat} {T : tT} {p g : Nat} {e v K V : Int32} (hu : ¬ T.1 p 3 ≤ v) (hv : vp_in v 750) (hK : T.1 (p + 2) v.toNatClampNeg >>> ((20 : Int32) &&& 31) = K) (hV : T.1 (p + 2) v.toNatClampNeg &&& 1048575 = V) (hl : lfK K = true) : vl_X4_work (n + 1) T p g e v = vl_X4_work n (F_X4_push T (lv5 T g e K V)) p g e (v + 1) ∧ (lk5 sz T g e K V → ok_X4_push sz T (lv5 T g e K V) → okl_X4_work n sz (F_X4_push T (lv5 T g e K V)) p g e (v + 1) → okl_X4_work (n + 1) sz T p g e v) := by
  rw [vl_X4_work_s]
  simp only [okl_X4_work]
  rw [hK, hV, if_neg hu]
  unfold lv5 lk5
  rcases lfK_cases hl with h | h | h | h | h | h | h | h <;> subst h
  · rw [if_neg (by decide), if_pos rfl, if_pos (by decide)]
    exact ⟨rfl, fun a b c => ⟨fun q => absurd q hu, fun _ => ⟨hv, hv, fun _ => ⟨fun _ => ⟨by rw [if_pos (by decide)] at a; exact a, b, c⟩, fun w => absurd rfl w⟩, fun w => absurd w (by decide)⟩⟩⟩
  · rw [if_neg (by decide), if_neg (by decide), if_neg (by decide), if_pos (by decide), if_pos rfl, if_neg (by decide)]
    exact ⟨rfl, fun a b c => ⟨fun q => absurd q hu, fun _ => ⟨hv, hv, fun _ => ⟨fun w => absurd w (by decide), fun _ => ⟨fun w => absurd w (by decide), fun _ => ⟨fun _ => ⟨fun _ => ⟨by rw [if_neg (by decide)] at a; exact a, b, c⟩, fun w => absurd rfl w⟩, fun w => absurd (by decide) w⟩⟩⟩, fun w => absurd w (by decide)⟩⟩⟩
  · rw [if_neg (by decide), if_neg (by decide), if_pos rfl, if_pos (by decide)]
    exact ⟨rfl, fun a b c => ⟨fun q => absurd q hu, fun _ => ⟨hv, hv, fun _ => ⟨fun w => absurd w (by decide), fun _ => ⟨fun _ => ⟨by rw [if_pos (by decide)] at a; exact a, b, c⟩, fun w => absurd rfl w⟩⟩, fun w => absurd w (by decide)⟩⟩⟩
  · rw [if_neg (by decide), if_neg (by decide), if_neg (by decide), if_pos (by decide), if_neg (by decide), if_neg (by decide), if_neg (by decide)]
    exact ⟨rfl, fun a b c => ⟨fun q => absurd q hu, fun _ => ⟨hv, hv, fun _ => ⟨fun w => absurd w (by decide), fun _ => ⟨fun w => absurd w (by decide), fun _ => ⟨fun _ => ⟨fun w => absurd w (by decide), fun _ => ⟨fun w => absurd w (by decide), fun _ => ⟨by rw [if_neg (by decide)] at a; exact a, b, c⟩⟩⟩, fun w => absurd (by decide) w⟩⟩⟩, fun w => absurd w (by decide)⟩⟩⟩
  · rw [if_neg (by decide), if_neg (by decide), if_neg (by decide), if_pos (by decide), if_neg (by decide), if_neg (by decide), if_neg (by decide)]
    exact ⟨rfl, fun a b c => ⟨fun q => absurd q hu, fun _ => ⟨hv, hv, fun _ => ⟨fun w => absurd w (by decide), fun _ => ⟨fun w => absurd w (by decide), fun _ => ⟨fun _ => ⟨fun w => absurd w (by decide), fun _ => ⟨fun w => absurd w (by decide), fun _ => ⟨by rw [if_neg (by decide)] at a; exact a, b, c⟩⟩⟩, fun w => absurd (by decide) w⟩⟩⟩, fun w => absurd w (by decide)⟩⟩⟩
  · rw [if_neg (by decide), if_neg (by decide), if_neg (by decide), if_pos (by decide), if_neg (by decide), if_neg (by decide), if_neg (by decide)]
    exact ⟨rfl, fun a b c => ⟨fun q => absurd q hu, fun _ => ⟨hv, hv, fun _ => ⟨fun w => absurd w (by decide), fun _ => ⟨fun w => absurd w (by decide), fun _ => ⟨fun _ => ⟨fun w => absurd w (by decide), fun _ => ⟨fun w => absurd w (by decide), fun _ => ⟨by rw [if_neg (by decide)] at a; exact a, b, c⟩⟩⟩, fun w => absurd (by decide) w⟩⟩⟩, fun w => absurd w (by decide)⟩⟩⟩
  · rw [if_neg (by decide), if_neg (by decide), if_neg (by decide), if_neg (by decide), if_pos (by decide)]
    exact ⟨rfl, fun a b c => ⟨fun q => absurd q hu, fun _ => ⟨hv, hv, fun _ => ⟨fun w => absurd w (by decide), fun _ => ⟨fun w => absurd w (by decide), fun _ => ⟨fun w => absurd w (by decide), fun _ => ⟨by rw [if_pos (by decide)] at a; exact a, b, c⟩⟩⟩⟩, fun w => absurd w (by decide)⟩⟩⟩
  · rw [if_neg (by decide), if_neg (by decide), if_neg (by decide), if_neg (by decide), if_pos (by decide)]
    exact ⟨rfl, fun a b c => ⟨fun q => absurd q hu, fun _ => ⟨hv, hv, fun _ => ⟨fun w => absurd w (by decide), fun _ => ⟨fun w => absurd w (by decide), fun _ => ⟨fun w => absurd w (by decide), fun _ => ⟨by rw [if_pos (by decide)] at a; exact a, b, c⟩⟩⟩⟩, fun w => absurd w (by decide)⟩⟩⟩
theorem w5_not {sz n : Nat} {T : tT} {p g : Nat} {e v : Int32} (hu : ¬ T.1 p 3 ≤ v) (hv : vp_in v 750) (hK : T.1 (p + 2) v.toNatClampNeg >>> ((20 : Int32) &&& 31) = 209) : vl_X4_work (n + 1) T p g e v = vl_X4_work n (F_X4_push (F_X4_pop T).2 (if (F_X4_pop T).1 = 0 then 1 else 0)) p g e (v + 1) ∧ (ok_X4_pop sz T → ok_X4_push sz (F_X4_pop T).2 (if (F_X4_pop T).1 = 0 then 1 else 0) → okl_X4_work n sz (F_X4_push (F_X4_pop T).2 (if (F_X4_pop T).1 = 0 then 1 else 0)) p g e (v + 1) → okl_X4_work (n + 1) sz T p g e v) := by
  rw [vl_X4_work_s]
  simp only [okl_X4_work]
  rw [hK, if_neg hu, if_neg (by decide), if_neg (by decide), if_neg (by decide), if_pos (by decide), if_neg (by decide), if_pos (by decide), if_pos rfl]
  by_cases c : (F_X4_pop T).1 = 0
  · rw [if_pos c, if_pos c]
    exact ⟨rfl, fun o a b => ⟨fun q => absurd q hu, fun _ => ⟨hv, hv, fun _ => ⟨fun w => absurd w (by decide), fun _ => ⟨fun w => absurd w (by decide), fun _ => ⟨fun _ => ⟨fun w => absurd w (by decide), fun _ => ⟨fun _ => ⟨fun w => absurd rfl w, fun _ => ⟨o, fun w => absurd c w, fun _ => ⟨a, b⟩⟩⟩, fun w => absurd (by decide) w⟩⟩, fun w => absurd (by decide) w⟩⟩⟩, fun w => absurd w (by decide)⟩⟩⟩
  · rw [if_neg c, if_neg c]
    exact ⟨rfl, fun o a b => ⟨fun q => absurd q hu, fun _ => ⟨hv, hv, fun _ => ⟨fun w => absurd w (by decide), fun _ => ⟨fun w => absurd w (by decide), fun _ => ⟨fun _ => ⟨fun w => absurd w (by decide), fun _ => ⟨fun _ => ⟨fun w => absurd rfl w, fun _ => ⟨o, fun _ => ⟨a, b⟩, fun w => absurd w c⟩⟩, fun w => absurd (by decide) w⟩⟩, fun w => absurd (by decide) w⟩⟩⟩, fun w => absurd w (by decide)⟩⟩⟩
theorem w5_join {sz n : Nat} {T : tT} {p g : Nat} {e v K : Int32} (hu : ¬ T.1 p 3 ≤ v) (hv : vp_in v 750) (hK : T.1 (p + 2) v.toNatClampNeg >>> ((20 : Int32) &&& 31) = K) (hj : K = 207 ∨ K = 208 ∨ K = 43 ∨ K = 45 ∨ K = 60 ∨ K = 61 ∨ K = 62) : vl_X4_work (n + 1) T p g e v = vl_X4_work n (F_X4_push (F_X4_pop (F_X4_pop T).2).2 (jn K (F_X4_pop (F_X4_pop T).2).1 (F_X4_pop T).1)) p g e (v + 1) ∧ (ok_X4_pop sz T → ok_X4_pop sz (F_X4_pop T).2 → ok_X4_push sz (F_X4_pop (F_X4_pop T).2).2 (jn K (F_X4_pop (F_X4_pop T).2).1 (F_X4_pop T).1) → okl_X4_work n sz (F_X4_push (F_X4_pop (F_X4_pop T).2).2 (jn K (F_X4_pop (F_X4_pop T).2).1 (F_X4_pop T).1)) p g e (v + 1) → okl_X4_work (n + 1) sz T p g e v) := by
  have hj2 : ¬ K = 59 ∧ ¬ K = 2 ∧ ¬ K = 202 ∧ K < 213 ∧ ¬ K = 201 ∧ K < 210 ∧ ¬ K = 209 := by
    rcases hj with h | h | h | h | h | h | h <;> subst h <;> decide
  obtain ⟨h1, h2, h3, h4, h5, h6, h7⟩ := hj2
  rw [vl_X4_work_s]
  simp only [okl_X4_work]
  rw [hK, if_neg hu, if_neg h1, if_neg h2, if_neg h3, if_pos h4, if_neg h5, if_pos h6, if_neg h7]
  exact ⟨rfl, fun o o2 a b => ⟨fun q => absurd q hu, fun _ => ⟨hv, hv, fun _ => ⟨fun w => absurd w h2, fun _ => ⟨fun w => absurd w h3, fun _ => ⟨fun _ => ⟨fun w => absurd w h5, fun _ => ⟨fun _ => ⟨fun _ => ⟨o, o2, a, b⟩, fun w => absurd w h7⟩, fun w => absurd h6 w⟩⟩, fun w => absurd h4 w⟩⟩⟩, fun w => absurd w h1⟩⟩⟩
theorem wk5 {sz : Nat} {T0 : tT} {p g : Nat} {e : Int32} {m : Bool} {ls ps : Int32} (hu : T0.1 p 3 ≤ 750) (hp : p ≠ 66 ∧ p ≠ 68 ∧ p + 2 ≠ 66 ∧ p + 2 ≠ 68) (lf : Int32 → Int32 → Int32) (hlf : ∀ T, fr (wl [68] [(66, 2)]) T0 T → ∀ k v, vI m ls ps k v → lfK k = true → lv5 T g e k v = lf k v ∧ lk5 sz T g e k v) : ∀ (l : List (Int32 × Int32)) (n s : Nat) (T : tT) (st : List Int32) (v : Int32), fr (wl [68] [(66, 2)]) T0 T → SG T st → st.length + lfN l ≤ 150 → hts st.length l = some 1 → v.toInt = s → ((s + l.length : Nat) : Int) < (T0.1 p 3).toInt → Cs (T0.1 (p + 2)) s l → dcK (T0.1 (p + 2) (s + l.length)) = 59 → (∀ x ∈ l, vI m ls ps x.1 x.2) → l.length < n → ∃ T' r, vl_X4_work n T p g e v = (r, T') ∧ okl_X4_work n sz T p g e v ∧ evl lf st l = [r] ∧ fr (wl [68] [(66, 2)]) T0 T' := by
  have hu2 : (T0.1 p 3).toInt ≤ 750 := tle.mp hu
  intro l
  induction l with
  | nil =>
    intro n s T st v f hS h150 hh hv hsu hc h59 hvi hn
    obtain ⟨n, rfl⟩ : ∃ n', n = n' + 1 := ⟨n - 1, by omega⟩
    have e1 : T.1 p = T0.1 p := fr_ri f (fun i => by unfold wl; simp [hp.1, hp.2.1])
    have e2 : T.1 (p + 2) = T0.1 (p + 2) := fr_ri f (fun i => by unfold wl; simp [hp.2.2.1, hp.2.2.2])
    simp only [hts, Option.some.injEq] at hh
    obtain ⟨r, rfl⟩ : ∃ r, st = [r] := List.length_eq_one_iff.mp hh
    rw [List.length_nil, Nat.add_zero] at hsu h59
    have c : ¬ T.1 p 3 ≤ v := by rw [e1, tle]; omega
    have k59 : T.1 (p + 2) v.toNatClampNeg >>> ((20 : Int32) &&& 31) = 59 := by rw [tnN hv, e2]; exact h59
    have vv : vp_in v 750 := by rw [vp_in_iff]; omega
    obtain ⟨p1, p2, p3, p4⟩ := pop5 (sz := sz) hS (by rw [List.length_nil]; omega)
    rw [vl_X4_work_s, if_neg c, if_pos k59]
    simp only [okl_X4_work]
    refine ⟨(F_X4_pop T).2, r, by rw [p1], ?_, rfl, fr_trans f p3⟩
    exact ⟨fun q => absurd q c, fun _ => ⟨vv, vv, fun w => absurd k59 w, fun _ => ⟨p4, trivial⟩⟩⟩
  | cons x l ih =>
    intro n s T st v f hS h150 hh hv hsu hc h59 hvi hn
    obtain ⟨n, rfl⟩ : ∃ n', n = n' + 1 := ⟨n - 1, by omega⟩
    have e1 : T.1 p = T0.1 p := fr_ri f (fun i => by unfold wl; simp [hp.1, hp.2.1])
    have e2 : T.1 (p + 2) = T0.1 (p + 2) := fr_ri f (fun i => by unfold wl; simp [hp.2.2.1, hp.2.2.2])
    rw [List.length_cons] at hsu h59 hn
    obtain ⟨⟨c1, c2⟩, c3⟩ := hc
    have c : ¬ T.1 p 3 ≤ v := by rw [e1, tle]; omega
    have vv : vp_in v 750 := by rw [vp_in_iff]; omega
    have hK : T.1 (p + 2) v.toNatClampNeg >>> ((20 : Int32) &&& 31) = x.1 := by rw [tnN hv, e2]; exact c1
    have hV : T.1 (p + 2) v.toNatClampNeg &&& 1048575 = x.2 := by rw [tnN hv, e2]; exact c2
    have v1 : (v + 1).toInt = (s + 1 : Nat) := by rw [tinc' (by omega)]; omega
    have hx := hvi x (List.mem_cons_self ..)
    have hvl : ∀ y ∈ l, vI m ls ps y.1 y.2 := fun y hy => hvi y (List.mem_cons_of_mem _ hy)
    have h59' : dcK (T0.1 (p + 2) (s + 1 + l.length)) = 59 := by rw [show s + 1 + l.length = s + (l.length + 1) by omega]; exact h59
    have cn : lfN (x :: l) = (if lfK x.1 = true then 1 else 0) + lfN l := by unfold lfN; rw [List.countP_cons, Nat.add_comm]
    rw [cn] at h150
    unfold hts at hh
    unfold evl ev1
    by_cases d : lfK x.1 = true
    · rw [if_pos d] at hh h150 ⊢
      obtain ⟨q1, q2⟩ := hlf T f x.1 x.2 hx d
      obtain ⟨s1, s2⟩ := w5_leaf (sz := sz) (n := n) (g := g) (e := e) c vv hK hV d
      rw [q1] at s1 s2
      obtain ⟨t1, t2, t3⟩ := push5 (sz := sz) (lf x.1 x.2) hS (by omega)
      obtain ⟨T', r, u1, u2, u3, u4⟩ := ih n (s + 1) _ (lf x.1 x.2 :: st) (v + 1) (fr_trans f t2) t1 (by rw [List.length_cons]; omega) hh v1 (by omega) c3 h59' hvl (by omega)
      exact ⟨T', r, s1.trans u1, s2 q2 t3 u2, u3, u4⟩
    · rw [if_neg d] at hh h150 ⊢
      by_cases d2 : x.1 = 209
      · rw [if_pos d2] at hh ⊢
        by_cases d3 : 1 ≤ st.length
        · rw [if_pos d3] at hh
          obtain ⟨a, r0, rfl⟩ : ∃ a r0, st = a :: r0 := by
            cases st with
            | nil => exact absurd d3 (by decide)
            | cons a r0 => exact ⟨a, r0, rfl⟩
          rw [List.length_cons] at h150 hh
          obtain ⟨p1, p2, p3, p4⟩ := pop5 (sz := sz) hS (by omega)
          obtain ⟨s1, s2⟩ := w5_not (sz := sz) (n := n) (g := g) (e := e) c vv (hK.trans d2)
          rw [p1] at s1 s2
          obtain ⟨t1, t2, t3⟩ := push5 (sz := sz) (if a = 0 then 1 else 0) p2 (by omega)
          obtain ⟨T', r, u1, u2, u3, u4⟩ := ih n (s + 1) _ _ (v + 1) (fr_trans f (fr_trans p3 t2)) t1 (by rw [List.length_cons]; omega) hh v1 (by omega) c3 h59' hvl (by omega)
          exact ⟨T', r, s1.trans u1, s2 p4 t3 u2, u3, u4⟩
        · rw [if_neg d3] at hh
          cases hh
      · rw [if_neg d2] at hh ⊢
        by_cases d3 : 2 ≤ st.length
        · rw [if_pos d3] at hh
          obtain ⟨b, a, r0, rfl⟩ : ∃ b a r0, st = b :: a :: r0 := by
            match st, d3 with
            | [], d3 => exact absurd d3 (by decide)
            | [_], d3 => exact absurd d3 (by rw [List.length_singleton]; decide)
            | b :: a :: r0, _ => exact ⟨b, a, r0, rfl⟩
          rw [List.length_cons, List.length_cons] at h150 hh
          have hj : x.1 = 207 ∨ x.1 = 208 ∨ x.1 = 43 ∨ x.1 = 45 ∨ x.1 = 60 ∨ x.1 = 61 ∨ x.1 = 62 := by
            rcases hx with q | ⟨_, q⟩ | ⟨_, q⟩ | q | q
            · exact absurd (by rw [q.1]; rfl) d
            · rcases q with q | q | q | q
              · exact absurd (by rw [q.1]; rfl) d
              · exact absurd (by rw [q]; rfl) d
              · exact absurd (by rw [q]; rfl) d
              · exact absurd (by rw [q]; rfl) d
            · rcases q with q | q | q
              · exact absurd (by rw [q.1]; rfl) d
              · exact absurd (by rw [q]; rfl) d
              · exact absurd (by rw [q]; rfl) d
            · exact absurd q d2
            · exact q
          obtain ⟨p1, p2, p3, p4⟩ := pop5 (sz := sz) hS (by rw [List.length_cons]; omega)
          obtain ⟨q1, q2, q3, q4⟩ := pop5 (sz := sz) p2 (by omega)
          obtain ⟨s1, s2⟩ := w5_join (sz := sz) (n := n) (g := g) (e := e) c vv hK hj
          rw [p1, q1] at s1 s2
          obtain ⟨t1, t2, t3⟩ := push5 (sz := sz) (jn x.1 a b) q2 (by omega)
          obtain ⟨T', r, u1, u2, u3, u4⟩ := ih n (s + 1) _ _ (v + 1) (fr_trans f (fr_trans p3 (fr_trans q3 t2))) t1 (by rw [List.length_cons]; omega) (by rw [List.length_cons]; rw [show r0.length + 1 + 1 - 1 = r0.length + 1 by omega] at hh; exact hh) v1 (by omega) c3 h59' hvl (by omega)
          exact ⟨T', r, s1.trans u1, s2 p4 q4 t3 u2, u3, u4⟩
        · rw [if_neg d3] at hh
          cases hh
