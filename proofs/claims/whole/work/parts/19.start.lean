def kwl : List Int64 := [444300616805, 1818850164, 1885434484, 30796695599342963, 1836413812, 1885434739, 469853432180, 28530, 6385252, 7237492, 7305070, 123597974889843, 6383461, 500086104428, 465557353332]
theorem th_hi {L sz k : Nat} {T : tT} (h0 : k ≠ 0) (hs : sz ≤ k) : (th L sz T).2 k = .inr (99, fun _ => .null) := by
  show (if k = 0 then ax_ia 0 L (T.1 0) else if k < sz then tc T k else .inr (99, fun _ => .null)) = _
  rw [if_neg h0, if_neg (by omega)]
def kw (i : Nat) : Int64 := kwl.getD i 0
/-- the typed heap at the start: the script and the words -/
def T0 (xs : Nat → Int32) : tT := (fun k => if k = 0 then xs else fun _ => 0, fun k => if k = 1 then kw else fun _ => 0, fun _ _ => none)
theorem T0_nz (xs : Nat → Int32) : nz (T0 xs) 2 := fun k hk => ⟨if_neg (by omega), if_neg (by omega), rfl⟩
def ax_g (b t z : Nat) : Nat → Nat := fun k => match k with
  | 0 => b
  | 1 => t
  | k + 2 => z + k
theorem ax_g_ok {b t z : Nat} (hb : b < z) (ht : t < z) : ax_G (ax_g b t z) := ⟨fun k hk => by
  match k, hk with
  | k + 2, _ => show z + (k + 1) = z + k + 1; omega, hb, ht⟩
theorem kw_of {args : Array Value} {s : State} {A : Nat → Prop} (hgv : (Jvm.Cond.and given_1 narrow_1).before args s = true) (hA : ∀ a : Nat, a < s.heap.size → ¬ A a) : ∃ t : Nat, (Term.static "ExamTour" "KEPT_WORDS" "[J").eval args s none [] s = some (.ref t) ∧ va_T .long t 15 (fun j => .long (kw j)) A s s.heap := by
  have hs := flat_of_before _ hgv
  refine va_Tof (by decide) (hs _ (by decide +kernel)) (va_eqt (hs (.eq (.length (.static "ExamTour" "KEPT_WORDS" "[J")) (.int 15)) (by decide +kernel))) (fun j hj => ?_) hA
  match j, hj with
  | 0, _ => exact va_eqtl (z := 444300616805) (hs (.eq (.elem (.static "ExamTour" "KEPT_WORDS" "[J") (.int 0)) (.long 444300616805)) (by decide +kernel))
  | 1, _ => exact va_eqtl (z := 1818850164) (hs (.eq (.elem (.static "ExamTour" "KEPT_WORDS" "[J") (.int 1)) (.long 1818850164)) (by decide +kernel))
  | 2, _ => exact va_eqtl (z := 1885434484) (hs (.eq (.elem (.static "ExamTour" "KEPT_WORDS" "[J") (.int 2)) (.long 1885434484)) (by decide +kernel))
  | 3, _ => exact va_eqtl (z := 30796695599342963) (hs (.eq (.elem (.static "ExamTour" "KEPT_WORDS" "[J") (.int 3)) (.long 30796695599342963)) (by decide +kernel))
  | 4, _ => exact va_eqtl (z := 1836413812) (hs (.eq (.elem (.static "ExamTour" "KEPT_WORDS" "[J") (.int 4)) (.long 1836413812)) (by decide +kernel))
  | 5, _ => exact va_eqtl (z := 1885434739) (hs (.eq (.elem (.static "ExamTour" "KEPT_WORDS" "[J") (.int 5)) (.long 1885434739)) (by decide +kernel))
  | 6, _ => exact va_eqtl (z := 469853432180) (hs (.eq (.elem (.static "ExamTour" "KEPT_WORDS" "[J") (.int 6)) (.long 469853432180)) (by decide +kernel))
  | 7, _ => exact va_eqtl (z := 28530) (hs (.eq (.elem (.static "ExamTour" "KEPT_WORDS" "[J") (.int 7)) (.long 28530)) (by decide +kernel))
  | 8, _ => exact va_eqtl (z := 6385252) (hs (.eq (.elem (.static "ExamTour" "KEPT_WORDS" "[J") (.int 8)) (.long 6385252)) (by decide +kernel))
  | 9, _ => exact va_eqtl (z := 7237492) (hs (.eq (.elem (.static "ExamTour" "KEPT_WORDS" "[J") (.int 9)) (.long 7237492)) (by decide +kernel))
  | 10, _ => exact va_eqtl (z := 7305070) (hs (.eq (.elem (.static "ExamTour" "KEPT_WORDS" "[J") (.int 10)) (.long 7305070)) (by decide +kernel))
  | 11, _ => exact va_eqtl (z := 123597974889843) (hs (.eq (.elem (.static "ExamTour" "KEPT_WORDS" "[J") (.int 11)) (.long 123597974889843)) (by decide +kernel))
  | 12, _ => exact va_eqtl (z := 6383461) (hs (.eq (.elem (.static "ExamTour" "KEPT_WORDS" "[J") (.int 12)) (.long 6383461)) (by decide +kernel))
  | 13, _ => exact va_eqtl (z := 500086104428) (hs (.eq (.elem (.static "ExamTour" "KEPT_WORDS" "[J") (.int 13)) (.long 500086104428)) (by decide +kernel))
  | 14, _ => exact va_eqtl (z := 465557353332) (hs (.eq (.elem (.static "ExamTour" "KEPT_WORDS" "[J") (.int 14)) (.long 465557353332)) (by decide +kernel))
  | j + 15, h => exact absurd h (by omega)
theorem start_ok {p : Program} {s : State} {m : MethodId} {meth : Method} {c : Code} {b L : Nat} {xs : Nat → Int32} (C0 : lw_At p s m meth c b L xs) : ∃ (D : va_G) (t : Nat), t < s.heap.size ∧ ax_T D (ax_g b t s.heap.size) s ∧ ax_R D (ax_g b t s.heap.size) s (th L 2 (T0 xs)) s.heap := by
  obtain ⟨hx, hb, hr, hml, hown, hts, hX, hbl, hlocks, hgv, hmn⟩ := C0
  obtain ⟨c0, iS0, hK0⟩ := u_known (C := RX0) (T := TX0) (N := 4) (n := 4) hts (fun w hw => (List.mem_filter.mp (cl0.2.1 w hw)).1) (hts _ (List.mem_filter.mp inRX0).1)
  obtain ⟨c1, iS1, hK1⟩ := u_known (C := RX1) (T := TX1) (N := 8) (n := 8) hts (fun w hw => (List.mem_filter.mp (cl1.2.1 w hw)).1) (hts _ (List.mem_filter.mp inRX1).1)
  obtain ⟨c2, iS2, hK2⟩ := u_known (C := RX2) (T := TX2) (N := 10) (n := 10) hts (fun w hw => (List.mem_filter.mp (cl2.2.1 w hw)).1) (hts _ (List.mem_filter.mp inRX2).1)
  obtain ⟨c3, iS3, hK3⟩ := u_known (C := RX3) (T := TX3) (N := 13) (n := 13) hts (fun w hw => (List.mem_filter.mp (cl3.2.1 w hw)).1) (hts _ (List.mem_filter.mp inRX3).1)
  obtain ⟨c4, iS4, hK4⟩ := u_known (C := RX4) (T := TX4) (N := 3) (n := 3) hts (fun w hw => (List.mem_filter.mp (cl4.2.1 w hw)).1) (hts _ (List.mem_filter.mp inRX4).1)
  obtain ⟨c5, iS5, hK5⟩ := u_known (C := RX5) (T := TX5) (N := 9) (n := 9) hts (fun w hw => (List.mem_filter.mp (cl5.2.1 w hw)).1) (hts _ (List.mem_filter.mp inRX5).1)
  obtain ⟨c6, iS6, hK6⟩ := u_known (C := RX6) (T := TX6) (N := 6) (n := 6) hts (fun w hw => (List.mem_filter.mp (cl6.2.1 w hw)).1) (hts _ (List.mem_filter.mp inRX6).1)
  obtain ⟨c7, iS7, hK7⟩ := u_known (C := RX7) (T := TX7) (N := 9) (n := 9) hts (fun w hw => (List.mem_filter.mp (cl7.2.1 w hw)).1) (hts _ (List.mem_filter.mp inRX7).1)
  obtain ⟨c8, iS8, hK8⟩ := u_known (C := RX8) (T := TX8) (N := 4) (n := 4) hts (fun w hw => (List.mem_filter.mp (cl8.2.1 w hw)).1) (hts _ (List.mem_filter.mp inRX8).1)
  obtain ⟨c9, iS9, hK9⟩ := u_known (C := RX9) (T := TX9) (N := 7) (n := 7) hts (fun w hw => (List.mem_filter.mp (cl9.2.1 w hw)).1) (hts _ (List.mem_filter.mp inRX9).1)
  obtain ⟨c10, iS10, hK10⟩ := u_known (C := RX10) (T := TX10) (N := 8) (n := 8) hts (fun w hw => (List.mem_filter.mp (cl10.2.1 w hw)).1) (hts _ (List.mem_filter.mp inRX10).1)
  obtain ⟨c11, iS11, hK11⟩ := u_known (C := RX11) (T := TX11) (N := 77) (n := 77) hts (fun w hw => (List.mem_filter.mp (cl11.2.1 w hw)).1) (hts _ (List.mem_filter.mp inRX11).1)
  obtain ⟨t, ht, hT⟩ := kw_of (A := fun q => s.heap.size ≤ q) hgv (fun a ha => by omega)
  obtain ⟨cell, q1, q2, q3, q4, q5, q6, q7⟩ := id hT
  have htl : t < s.heap.size := (Array.getElem?_eq_some_iff.mp q1).1
  refine ⟨(fun k => if k = 0 then c0 else if k = 1 then c1 else if k = 2 then c2 else if k = 3 then c3 else if k = 4 then c4 else if k = 5 then c5 else if k = 6 then c6 else if k = 7 then c7 else if k = 8 then c8 else if k = 9 then c9 else if k = 10 then c10 else c11, fun k => if k = 0 then iS0 else if k = 1 then iS1 else if k = 2 then iS2 else if k = 3 then iS3 else if k = 4 then iS4 else if k = 5 then iS5 else if k = 6 then iS6 else if k = 7 then iS7 else if k = 8 then iS8 else if k = 9 then iS9 else if k = 10 then iS10 else iS11), t, htl, ⟨⟨?_, fun k q h => by simp at h⟩, ?_, ?_⟩, ?_⟩
  · intro k q hq
    match k, hq with
    | 0, hq => cases hq; exact hK0
    | 1, hq => cases hq; exact hK1
    | 2, hq => cases hq; exact hK2
    | 3, hq => cases hq; exact hK3
    | 4, hq => cases hq; exact hK4
    | 5, hq => cases hq; exact hK5
    | 6, hq => cases hq; exact hK6
    | 7, hq => cases hq; exact hK7
    | 8, hq => cases hq; exact hK8
    | 9, hq => cases hq; exact hK9
    | 10, hq => cases hq; exact hK10
    | 11, hq => cases hq; exact hK11
    | k + 12, hq => simp [vwCl] at hq
  · intro w hw
    have h := hts w (List.mem_filter.mp hw).1
    cases w with
    | fieldLinkNest a i b n d h' => exact va_Nw.of rfl h
    | methodLinkNest a i x h' => exact va_Nw.of rfl h
    | arrayOver ty =>
      cases ty with
      | object C => exact va_AO.of h
      | _ => exact trivial
    | _ => exact trivial
  · exact va_Zof (hts _ (List.mem_append_right _ (List.mem_of_getElem? (i := 459) (by decide +kernel)))) (hts _ (List.mem_append_right _ (List.mem_of_getElem? (i := 1) (by decide +kernel)))) ht (fun a ha => by show ¬ s.heap.size + 0 ≤ a; omega)
  · refine ⟨rfl, Nat.le_refl 2, fun k hk => ?_⟩
    match k, hk with
    | 0, _ =>
      obtain ⟨scr, g1, g2, g3, g4, g5⟩ := hX
      exact ⟨scr, g1, g2, g3, fun q => absurd q (by decide), by omega, by rw [g4], fun j hj => g5 j hj⟩
    | 1, _ =>
      show ax_at _ _ s s.heap t ((th L 2 (T0 xs)).2 1)
      rw [th_at (by decide) (by decide), tc_la ly_1]
      exact ⟨cell, q1, q2, q3, fun q => absurd q (by decide), q4, q5, q6⟩
    | k + 2, hk =>
      have e : (th L 2 (T0 xs)).2 (k + 2) = .inr (99, fun _ => .null) := th_hi (by omega) (by omega)
      rw [e] at hk
      exact absurd (show 99 < 12 from hk) (by decide)
