/-! tokens: the class's next -/
def lod (c : Int32) : Prop := isLt c ∨ isD c
/-- a token that begins at pl, when reading goes on at a; in the class's kinds -/
def TD (b : Nat → Int32) (N a pl e : Nat) (k num : Int32) (w : Int64) : Prop := isRun b isB N a pl ∧ (
  (pl = N ∧ e = pl ∧ k = 0) ∨
  (pl < N ∧ isLt (b pl) ∧ isRun b lod N pl e ∧ ((e - pl ≤ 8 ∧ ((∃ i, i < 15 ∧ kw i = wvn b pl (e - pl) ∧ k = nI (200 + i)) ∨ ((∀ i, i < 15 → kw i ≠ wvn b pl (e - pl)) ∧ k = 3 ∧ w = wvn b pl (e - pl)))) ∨ (8 < e - pl ∧ k = 1))) ∨
  (pl < N ∧ ¬ isLt (b pl) ∧ isD (b pl) ∧ isRun b isD N pl e ∧ ((e - pl ≤ 6 ∧ (e = N ∨ ¬ isLt (b e)) ∧ k = 2 ∧ num = nvn b pl (e - pl)) ∨ ((6 < e - pl ∨ (e < N ∧ isLt (b e))) ∧ k = 1))) ∨
  (pl < N ∧ ¬ isLt (b pl) ∧ ¬ isD (b pl) ∧ e = pl + 1 ∧ ((isS (b pl) ∧ k = b pl) ∨ (¬ isS (b pl) ∧ k = 1))))
noncomputable def nB (T : tT) : tT := (if (v_X9_byteAt (tI T 4 3 (T.1 4 6)) (T.1 4 6)) = (-1 : Int32) then (tI (tI T 4 3 (T.1 4 6)) 4 2 (0 : Int32)) else (if (v_X9_isLetter (tI T 4 3 (T.1 4 6)) (v_X9_byteAt (tI T 4 3 (T.1 4 6)) (T.1 4 6))) = 0 then (if (v_X9_isDigit (tI T 4 3 (T.1 4 6)) (v_X9_byteAt (tI T 4 3 (T.1 4 6)) (T.1 4 6))) = 0 then (if (v_X9_isSign (tI T 4 3 (T.1 4 6)) (v_X9_byteAt (tI T 4 3 (T.1 4 6)) (T.1 4 6))) = 0 then (tI (tI (tI T 4 3 (T.1 4 6)) 4 2 (1 : Int32)) 4 6 (((tI T 4 3 (T.1 4 6)).1 4 6) + (1 : Int32))) else (tI (tI (tI T 4 3 (T.1 4 6)) 4 2 (v_X9_byteAt (tI T 4 3 (T.1 4 6)) (T.1 4 6))) 4 6 (((tI T 4 3 (T.1 4 6)).1 4 6) + (1 : Int32)))) else (F_X9_readNumber (tI T 4 3 (T.1 4 6)))) else (F_X9_readWord (tI T 4 3 (T.1 4 6)))))
noncomputable def okB (sz : Nat) (T : tT) : Prop := (ok_X9_byteAt sz (tI T 4 3 (T.1 4 6)) (T.1 4 6) ∧ ((¬ (v_X9_byteAt (tI T 4 3 (T.1 4 6)) (T.1 4 6)) = (-1 : Int32) → (((v_X9_isLetter (tI T 4 3 (T.1 4 6)) (v_X9_byteAt (tI T 4 3 (T.1 4 6)) (T.1 4 6))) = 0 → (((v_X9_isDigit (tI T 4 3 (T.1 4 6)) (v_X9_byteAt (tI T 4 3 (T.1 4 6)) (T.1 4 6))) = 0 → True) ∧ (¬ (v_X9_isDigit (tI T 4 3 (T.1 4 6)) (v_X9_byteAt (tI T 4 3 (T.1 4 6)) (T.1 4 6))) = 0 → (ok_X9_readNumber sz (tI T 4 3 (T.1 4 6)) ∧ True)))) ∧ (¬ (v_X9_isLetter (tI T 4 3 (T.1 4 6)) (v_X9_byteAt (tI T 4 3 (T.1 4 6)) (T.1 4 6))) = 0 → (ok_X9_readWord sz (tI T 4 3 (T.1 4 6)) ∧ True)))) ∧ ((v_X9_byteAt (tI T 4 3 (T.1 4 6)) (T.1 4 6)) = (-1 : Int32) → True)))
theorem nx9_s (n : Nat) (T : tT) : vl_X9_next (n + 1) T = (if (T.1 4 1) ≤ (T.1 4 6) then nB T else (if (v_X9_isBlank T (v_X9_byteAt T (T.1 4 6))) = 0 then nB T else vl_X9_next n (tI T 4 6 ((T.1 4 6) + (1 : Int32))))) := vl_X9_next_s n T
theorem nx9_k (n sz : Nat) (T : tT) : okl_X9_next (n + 1) sz T = (((T.1 4 1) ≤ (T.1 4 6) → okB sz T) ∧ (¬ (T.1 4 1) ≤ (T.1 4 6) → (ok_X9_byteAt sz T (T.1 4 6) ∧ (((v_X9_isBlank T (v_X9_byteAt T (T.1 4 6))) = 0 → okB sz T) ∧ (¬ (v_X9_isBlank T (v_X9_byteAt T (T.1 4 6))) = 0 → okl_X9_next n sz (tI T 4 6 ((T.1 4 6) + (1 : Int32)))))))) := rfl
theorem nx9_f (T : tT) : F_X9_next T = vl_X9_next (fu + 1) T := rfl
theorem nx9_o (sz : Nat) (T : tT) : ok_X9_next sz T = okl_X9_next (fu + 1) sz T := rfl
abbrev w4 : Nat → Nat → Bool := wl [] [(4, 2), (4, 3), (4, 4), (4, 5), (4, 6)]
theorem e_nB {sz : Nat} {N a p : Nat} {T : tT} (hT : TE N T) (hp : (T.1 4 6).toInt = p) (hr : isRun (bC T) isB N a p) : (fr w4 T (nB T) ∧ ∃ e : Nat, ((nB T).1 4 3).toInt = p ∧ ((nB T).1 4 6).toInt = e ∧ TD (bC T) N a p e ((nB T).1 4 2) ((nB T).1 4 4) ((nB T).2.1 4 5)) ∧ okB sz T := by
  have hT1 : TE N (tI T 4 3 (T.1 4 6)) := ⟨by rw [tI_off (fun w => by have := w.2; omega)]; exact hT.1, hT.2.1, hT.2.2⟩
  have p1 : ((tI T 4 3 (T.1 4 6)).1 4 6).toInt = p := by rw [tI_off (fun w => by have := w.2; omega)]; exact hp
  have p3 : ((tI T 4 3 (T.1 4 6)).1 4 3).toInt = p := by rw [tI_at]; exact hp
  have r5 : (tI T 4 3 (T.1 4 6)).1 5 = T.1 5 := funext fun i => tI_off (fun w => by have := w.1; omega)
  have bT : ∀ i, bC (tI T 4 3 (T.1 4 6)) i = bC T i := fun i => by unfold bC; rw [r5]
  obtain ⟨b1, b2⟩ := byA (sz := sz) hT1 hp hr.2.1
  rw [bT] at b1
  unfold nB okB
  have f1 : fr w4 T (tI T 4 3 (T.1 4 6)) := fr_I rfl fr_refl
  by_cases c : p < N
  · rw [if_pos c] at b1
    rw [b1, if_neg (bC_rg T p).1]
    by_cases l : isLt (bC T p)
    · have l0 : ¬ v_X9_isLetter (tI T 4 3 (T.1 4 6)) (bC T p) = 0 := fun w => x9L.mp w l
      rw [if_neg l0]
      obtain ⟨⟨e, u1, u2, u3, u4⟩, u5⟩ := l_word (sz := sz) (T0 := T) (s := p) (N - p) fu p (tJ (tI T 4 3 (T.1 4 6)) 4 5 0) ⟨hT1.1, hT1.2.1, fun i hi => by
        rw [tJ_off (fun w => by have := w.1; omega)]
        exact hT.2.2 i hi⟩ r5 p3 p1 (Nat.le_refl _) (by omega) (by rw [fu_eq]; have := hT.2.1; omega) (fun i i1 i2 => by omega) (by
        rw [tJ_at, Nat.sub_self]
        rfl)
      have e3 : (F_X9_readWord (tI T 4 3 (T.1 4 6))).1 4 3 = T.1 4 6 := (fr_i u2 (k := 4) (i := 3) rfl).trans (show (tI T 4 3 (T.1 4 6)).1 4 3 = T.1 4 6 from tI_at)
      have ff : fr w4 T (F_X9_readWord (tI T 4 3 (T.1 4 6))) := fr_trans f1 (fr_trans (fr_J rfl fr_refl) (fr_mono (A := []) (B := [(4, 2), (4, 5), (4, 6)]) (A' := []) (B' := [(4, 2), (4, 3), (4, 4), (4, 5), (4, 6)]) rfl u2))
      refine ⟨⟨ff, e, by rw [e3]; exact hp, u3, hr, Or.inr (Or.inl ⟨c, l, u1, u4⟩)⟩, b2, fun _ => ⟨fun w => absurd w l0, fun _ => ⟨u5, trivial⟩⟩, fun w => absurd w (bC_rg T p).1⟩
    · have l0 : v_X9_isLetter (tI T 4 3 (T.1 4 6)) (bC T p) = 0 := x9L.mpr l
      rw [if_pos l0]
      by_cases d : isD (bC T p)
      · have d0 : ¬ v_X9_isDigit (tI T 4 3 (T.1 4 6)) (bC T p) = 0 := fun w => x9D.mp w d
        rw [if_neg d0]
        obtain ⟨⟨e, u1, u2, u3, u4⟩, u5⟩ := l_num (sz := sz) (T0 := T) (s := p) (N - p) fu p (tI (tI T 4 3 (T.1 4 6)) 4 4 0) ⟨by rw [tI_off (fun w => by have := w.2; omega)]; exact hT1.1, hT1.2.1, hT.2.2⟩ (by
          funext i
          rw [tI_off (fun w => by have := w.1; omega)]
          exact congrFun r5 i) (by rw [tI_off (fun w => by have := w.2; omega)]; exact p3) (by rw [tI_off (fun w => by have := w.2; omega)]; exact p1) (Nat.le_refl _) (by omega) (by rw [fu_eq]; have := hT.2.1; omega) (fun i i1 i2 => by omega) (by
          rw [tI_at, Nat.sub_self]
          rfl)
        have e3 : (F_X9_readNumber (tI T 4 3 (T.1 4 6))).1 4 3 = T.1 4 6 := (fr_i u2 (k := 4) (i := 3) rfl).trans ((tI_off (fun w => by have := w.2; omega)).trans tI_at)
        have ff : fr w4 T (F_X9_readNumber (tI T 4 3 (T.1 4 6))) := fr_trans f1 (fr_trans (fr_I rfl fr_refl) (fr_mono (A := []) (B := [(4, 2), (4, 4), (4, 6)]) (A' := []) (B' := [(4, 2), (4, 3), (4, 4), (4, 5), (4, 6)]) rfl u2))
        refine ⟨⟨ff, e, by rw [e3]; exact hp, u3, hr, Or.inr (Or.inr (Or.inl ⟨c, l, d, u1, u4⟩))⟩, b2, fun _ => ⟨fun _ => ⟨fun w => absurd w d0, fun _ => ⟨u5, trivial⟩⟩, fun w => absurd l0 w⟩, fun w => absurd w (bC_rg T p).1⟩
      · have d0 : v_X9_isDigit (tI T 4 3 (T.1 4 6)) (bC T p) = 0 := x9D.mpr d
        rw [if_pos d0]
        have st : ((tI T 4 3 (T.1 4 6)).1 4 6 + 1).toInt = (p + 1 : Nat) := by
          have := hT.2.1
          rw [tinc' (by omega)]
          omega
        have okr : ok_X9_byteAt sz (tI T 4 3 (T.1 4 6)) (T.1 4 6) ∧ ((¬ bC T p = -1 → (v_X9_isLetter (tI T 4 3 (T.1 4 6)) (bC T p) = 0 → (v_X9_isDigit (tI T 4 3 (T.1 4 6)) (bC T p) = 0 → True) ∧ (¬ v_X9_isDigit (tI T 4 3 (T.1 4 6)) (bC T p) = 0 → ok_X9_readNumber sz (tI T 4 3 (T.1 4 6)) ∧ True)) ∧ (¬ v_X9_isLetter (tI T 4 3 (T.1 4 6)) (bC T p) = 0 → ok_X9_readWord sz (tI T 4 3 (T.1 4 6)) ∧ True)) ∧ (bC T p = -1 → True)) := ⟨b2, fun _ => ⟨fun _ => ⟨fun _ => trivial, fun w => absurd d0 w⟩, fun w => absurd l0 w⟩, fun _ => trivial⟩
        by_cases s : isS (bC T p)
        · rw [if_neg (fun w => x9S.mp w s)]
          refine ⟨⟨fr_I rfl (fr_I rfl f1), p + 1, ?_, by rw [tI_at]; exact st, hr, Or.inr (Or.inr (Or.inr ⟨c, l, d, rfl, Or.inl ⟨s, ?_⟩⟩))⟩, okr⟩
          · rw [tI_off (fun w => by have := w.2; omega), tI_off (fun w => by have := w.2; omega)]
            exact p3
          · rw [tI_off (fun w => by have := w.2; omega), tI_at]
        · rw [if_pos (x9S.mpr s)]
          refine ⟨⟨fr_I rfl (fr_I rfl f1), p + 1, ?_, by rw [tI_at]; exact st, hr, Or.inr (Or.inr (Or.inr ⟨c, l, d, rfl, Or.inr ⟨s, ?_⟩⟩))⟩, okr⟩
          · rw [tI_off (fun w => by have := w.2; omega), tI_off (fun w => by have := w.2; omega)]
            exact p3
          · rw [tI_off (fun w => by have := w.2; omega), tI_at]
  · rw [if_neg c] at b1
    rw [b1, if_pos rfl]
    have pN : p = N := by have := hr.2.1; omega
    refine ⟨⟨fr_I rfl f1, p, ?_, ?_, hr, Or.inl ⟨pN, rfl, tI_at⟩⟩, b2, fun w => absurd rfl w, fun _ => trivial⟩
    · rw [tI_off (fun w => by have := w.2; omega)]
      exact p3
    · rw [tI_off (fun w => by have := w.2; omega)]
      exact p1
theorem TD_b {b b' : Nat → Int32} {N a pl e : Nat} {k num : Int32} {w : Int64} (h : b = b') (ht : TD b N a pl e k num w) : TD b' N a pl e k num w := by
  rw [← h]
  exact ht
theorem e_next9 {sz : Nat} {N a : Nat} {T : tT} (hT : TE N T) (ha : (T.1 4 6).toInt = a) (aN : a ≤ N) : (fr w4 T (F_X9_next T) ∧ ∃ pl e, ((F_X9_next T).1 4 3).toInt = ((pl : Nat) : Int) ∧ ((F_X9_next T).1 4 6).toInt = ((e : Nat) : Int) ∧ TD (bC T) N a pl e ((F_X9_next T).1 4 2) ((F_X9_next T).1 4 4) ((F_X9_next T).2.1 4 5)) ∧ ok_X9_next sz T := by
  have key : ∀ (r n k : Nat) (T1 : tT), TE N T1 → T1.1 5 = T.1 5 → fr w4 T T1 → (T1.1 4 6).toInt = k → a ≤ k → k + r = N → r < n → (∀ i, a ≤ i → i < k → isB (bC T i)) → (fr w4 T (vl_X9_next n T1) ∧ ∃ pl e, ((vl_X9_next n T1).1 4 3).toInt = ((pl : Nat) : Int) ∧ ((vl_X9_next n T1).1 4 6).toInt = ((e : Nat) : Int) ∧ TD (bC T) N a pl e ((vl_X9_next n T1).1 4 2) ((vl_X9_next n T1).1 4 4) ((vl_X9_next n T1).2.1 4 5)) ∧ okl_X9_next n sz T1 := by
    intro r
    induction r with
    | zero =>
      intro n k T1 h1 h5 fT hk ak kr hn hp
      obtain ⟨n, rfl⟩ : ∃ n', n = n' + 1 := ⟨n - 1, by omega⟩
      have bb : bC T1 = bC T := funext fun i => by unfold bC; rw [h5]
      have cc : T1.1 4 1 ≤ T1.1 4 6 := by rw [tle, h1.1]; omega
      rw [nx9_s, nx9_k, if_pos cc]
      obtain ⟨⟨u1, e, u2, u3, u4⟩, u5⟩ := e_nB (sz := sz) (a := a) h1 hk ⟨ak, by omega, by rw [bb]; exact hp, Or.inl (by omega)⟩
      rw [bb] at u4
      exact ⟨⟨fr_trans fT u1, k, e, u2, u3, u4⟩, fun _ => u5, fun w => absurd cc w⟩
    | succ r ih =>
      intro n k T1 h1 h5 fT hk ak kr hn hp
      obtain ⟨n, rfl⟩ : ∃ n', n = n' + 1 := ⟨n - 1, by omega⟩
      have bb : bC T1 = bC T := funext fun i => by unfold bC; rw [h5]
      have cc : ¬ T1.1 4 1 ≤ T1.1 4 6 := by rw [tle, h1.1]; omega
      obtain ⟨b1, b2⟩ := byA (sz := sz) h1 hk (by omega)
      rw [if_pos (show k < N by omega), bb] at b1
      rw [nx9_s, nx9_k, if_neg cc, b1]
      by_cases q : isB (bC T k)
      · have q0 : ¬ v_X9_isBlank T1 (bC T k) = 0 := fun w => x9B.mp w q
        rw [if_neg q0]
        have st : (T1.1 4 6 + 1).toInt = (k + 1 : Nat) := by
          have := h1.2.1
          rw [tinc' (by omega)]
          omega
        obtain ⟨u1, u2⟩ := ih n (k + 1) (tI T1 4 6 (T1.1 4 6 + 1)) ⟨by rw [tI_off (fun w => by have := w.2; omega)]; exact h1.1, h1.2.1, h1.2.2⟩ (by
          funext i
          rw [tI_off (fun w => by have := w.1; omega)]
          exact congrFun h5 i) (fr_I rfl fT) (by rw [tI_at]; exact st) (by omega) (by omega) (by omega) (fun i i1 i2 => by
          by_cases z : i = k
          · rw [z]; exact q
          · exact hp i i1 (by omega))
        exact ⟨u1, fun w => absurd w cc, fun _ => ⟨b2, fun w => absurd w q0, fun _ => u2⟩⟩
      · have q0 : v_X9_isBlank T1 (bC T k) = 0 := x9B.mpr q
        rw [if_pos q0]
        obtain ⟨⟨u1, e, u2, u3, u4⟩, u5⟩ := e_nB (sz := sz) (a := a) h1 hk ⟨ak, by omega, by rw [bb]; exact hp, Or.inr (by rw [bb]; exact q)⟩
        rw [bb] at u4
        exact ⟨⟨fr_trans fT u1, k, e, u2, u3, u4⟩, fun w => absurd w cc, fun _ => ⟨b2, fun _ => u5, fun w => absurd q0 w⟩⟩
  rw [nx9_f, nx9_o]
  exact key (N - a) (fu + 1) a T hT rfl fr_refl ha (Nat.le_refl _) (by omega) (by rw [fu_eq]; have := hT.2.1; omega) (fun i i1 i2 => by omega)
