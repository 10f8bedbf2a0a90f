/-- a public method of both: the class answers, then the reference; both alike; the relation holds again; the script stays -/
def PS (d L : Nat) (m10 m11 : ax_M) (A : List Value) (I : Nat → tT → Prop) : Prop := ∀ (sz : Nat) (T : tT), 161 ≤ sz → I sz T → ∃ Q1, tiK d m10 (.ref 2 :: A) L sz T Q1 ∧ ∀ (r1 : Int32) (T1 : tT), Q1 r1 T1 → T1.1 0 = T.1 0 ∧ ∃ Q2, tiK d m11 (.ref 105 :: A) L sz T1 Q2 ∧ ∀ (r2 : Int32) (T2 : tT), Q2 r2 T2 → r1 = r2 ∧ I sz T2
def PSs (d L : Nat) (m10 m11 : ax_M) (A : List Value) (I : Nat → tT → Prop) : Prop := ∀ (sz : Nat) (T : tT), 161 ≤ sz → I sz T → ∃ Q1, tiS d m10 (.ref 2 :: A) L sz T Q1 ∧ ∀ (r1 : Int32) (sz1 : Nat) (T1 : tT), sz ≤ sz1 → Q1 r1 sz1 T1 → T1.1 0 = T.1 0 ∧ ∃ Q2, tiK d m11 (.ref 105 :: A) L sz1 T1 Q2 ∧ ∀ (r2 : Int32) (T2 : tT), Q2 r2 T2 → r1 = r2 ∧ I sz1 T2
theorem law_cmp {L i : Nat} (hL : L ≤ 3584) (hi : i ≤ 100000) : (nI L - 7 < nI i) ↔ L < i + 7 := by
  rw [Int32.lt_iff_toInt_lt, show (7 : Int32) = nI 7 from rfl, pk_sub_toInt (by omega) (by decide), nI_toInt (by omega)]
  omega
set_option maxHeartbeats 4000000 in
set_option maxRecDepth 10000 in
theorem Loop_of (I : Nat → tT → Prop) (hI0 : ∀ xs, I 161 (T1 xs)) (p0 : ∀ (L : Nat) (a1 : Int32) (a2 : Int32) (a3 : Int32) (a4 : Int32) (a5 : Int32), PS 999 L mX10_feed mX11_feed [.int a1, .int a2, .int a3, .int a4, .int a5] I) (p1 : ∀ (L : Nat) (a1 : Int32), PS 999 L mX10_end mX11_end [.int a1] I) (p2 : ∀ (L : Nat) (a1 : Int32), PSs 999 L mX10_syllabus mX11_syllabus [.int a1] I) (p3 : ∀ (L : Nat) (a1 : Int32), PS 999 L mX10_fault mX11_fault [.int a1] I) (p4 : ∀ (L : Nat) (a1 : Int32) (a2 : Int32) (a3 : Int32), PS 999 L mX10_grade mX11_grade [.int a1, .int a2, .int a3] I) (p5 : ∀ (L : Nat) (a1 : Int32) (a2 : Int32) (a3 : Int32) (a4 : Int32) (a5 : Int32) (a6 : Int32), PS 999 L mX10_entry mX11_entry [.int a1, .int a2, .int a3, .int a4, .int a5, .int a6] I) (p6 : ∀ (L : Nat) (a1 : Int32) (a2 : Int64), PS 999 L mX10_piece mX11_piece [.int a1, .long a2] I) (p7 : ∀ (L : Nat) (a1 : Int32), PS 999 L mX10_judge mX11_judge [.int a1] I) (p8 : ∀ (L : Nat) , PS 999 L mX10_centre mX11_centre [] I) (p9 : ∀ (L : Nat) (a1 : Int32) (a2 : Int32) (a3 : Int32), PS 999 L mX10_way mX11_way [.int a1, .int a2, .int a3] I) (p10 : ∀ (L : Nat) (a1 : Int32) (a2 : Int32), PS 999 L mX10_examiner mX11_examiner [.int a1, .int a2] I) (p11 : ∀ (L : Nat) (a1 : Int32) (a2 : Int32), PS 999 L mX10_session mX11_session [.int a1, .int a2] I) (p12 : ∀ (L : Nat) (a1 : Int32) (a2 : Int32), PS 999 L mX10_put mX11_put [.int a1, .int a2] I) (p13 : ∀ (L : Nat) (a1 : Int32) (a2 : Int32), PS 999 L mX10_of mX11_of [.int a1, .int a2] I) (p14 : ∀ (L : Nat) (a1 : Int32) (a2 : Int32), PS 999 L mX10_may mX11_may [.int a1, .int a2] I) (p15 : ∀ (L : Nat) , PS 999 L mX10_tour mX11_tour [] I) (p16 : ∀ (L : Nat) (a1 : Int32), PS 999 L mX10_toured mX11_toured [.int a1] I) (p17 : ∀ (L : Nat) , PS 999 L mX10_stuck mX11_stuck [] I) (p18 : ∀ (L : Nat) (a1 : Int32), PS 999 L mX10_later mX11_later [.int a1] I) (p19 : ∀ (L : Nat) (a1 : Int32) (a2 : Int32) (a3 : Int32) (a4 : Int32), PS 999 L mX10_mark mX11_mark [.int a1, .int a2, .int a3, .int a4] I) (p20 : ∀ (L : Nat) (a1 : Int32) (a2 : Int32) (a3 : Int32), PS 999 L mX10_appeal mX11_appeal [.int a1, .int a2, .int a3] I) (p21 : ∀ (L : Nat) (a1 : Int32), PS 999 L mX10_untell mX11_untell [.int a1] I) (p22 : ∀ (L : Nat) (a1 : Int32) (a2 : Int32) (a3 : Int32), PS 999 L mX10_known mX11_known [.int a1, .int a2, .int a3] I) (p23 : ∀ (L : Nat) (a1 : Int32) (a2 : Int32), PS 999 L mX10_main mX11_main [.int a1, .int a2] I) (p24 : ∀ (L : Nat) (a1 : Int32) (a2 : Int32), PS 999 L mX10_result mX11_result [.int a1, .int a2] I) (p25 : ∀ (L : Nat) (a1 : Int32), PS 999 L mX10_hardness mX11_hardness [.int a1] I) (p26 : ∀ (L : Nat) (a1 : Int32), PS 999 L mX10_certify mX11_certify [.int a1] I) (p27 : ∀ (L : Nat) (a1 : Int32) (a2 : Int32), PS 999 L mX10_certificate mX11_certificate [.int a1, .int a2] I) (p28 : ∀ (L : Nat) (a1 : Int32) (a2 : Int32), PS 999 L mX10_holds mX11_holds [.int a1, .int a2] I) (p29 : ∀ (L : Nat) (a1 : Int32), PS 999 L mX10_about mX11_about [.int a1] I) : Loop_open := by
  intro L xs hL X hX hR
  have key : ∀ (r i k n sz : Nat) (T : tT), 161 ≤ sz → I sz T → L ≤ i + 7 * r ∧ i + 7 * r ≤ 4000 → k + 59 * r ≤ 60000 → n + 1698 * r ≤ 1000000 → ax_j X 18 [some (.ref 0), some (.ref 2), some (.ref 105), some (.int (nI i))] [] (th L sz T) k n := by
    intro r
    induction r with
    | zero =>
      intro i k n sz T hsz hI hr hk hn
      refine s_L_18 (d := 999) hX hR hsz (by omega) (by omega) (nI i) ⟨fun _ => trivial, fun c => absurd ((law_cmp hL (by omega)).mpr (by omega)) c⟩
    | succ r ih =>
      intro i k n sz T hsz hI hr hk hn
      refine s_L_18 (d := 999) hX hR hsz (by omega) (by omega) (nI i) ⟨fun _ => trivial, fun c => ?_⟩
      have hlt : i + 7 ≤ L := by
        rcases Nat.lt_or_ge L (i + 7) with q | q
        · exact absurd ((law_cmp hL (by omega)).mpr q) c
        · exact q
      have in1 : vp_in (nI i + 1) L := by rw [show ((1 : Int32)) = nI 1 from rfl, nI_add]; exact vp_in_nI (by omega) (by omega)
      have in2 : vp_in (nI i + 2) L := by rw [show ((2 : Int32)) = nI 2 from rfl, nI_add]; exact vp_in_nI (by omega) (by omega)
      have in3 : vp_in (nI i + 3) L := by rw [show ((3 : Int32)) = nI 3 from rfl, nI_add]; exact vp_in_nI (by omega) (by omega)
      have in4 : vp_in (nI i + 4) L := by rw [show ((4 : Int32)) = nI 4 from rfl, nI_add]; exact vp_in_nI (by omega) (by omega)
      have in5 : vp_in (nI i + 5) L := by rw [show ((5 : Int32)) = nI 5 from rfl, nI_add]; exact vp_in_nI (by omega) (by omega)
      have in6 : vp_in (nI i + 6) L := by rw [show ((6 : Int32)) = nI 6 from rfl, nI_add]; exact vp_in_nI (by omega) (by omega)
      have h7 : nI i + 7 = nI (i + 7) := by rw [show ((7 : Int32)) = nI 7 from rfl, nI_add]
      refine ⟨vp_in_nI (by omega) (by omega), fun _ => ?_, fun _ => ?_, fun _ => ?_, fun _ => ?_, fun _ => ?_, fun _ => ?_, fun _ => ?_, fun _ => ?_, fun _ => ?_, fun _ => ?_, fun _ => ?_, fun _ => ?_, fun _ => ?_, fun _ => ?_, fun _ => ?_, fun _ => ?_, fun _ => ?_, fun _ => ?_, fun _ => ?_, fun _ => ?_, fun _ => ?_, fun _ => ?_, fun _ => ?_, fun _ => ?_, fun _ => ?_, fun _ => ?_, fun _ => ?_, fun _ => ?_, fun _ => ?_, fun _ => ?_, fun _ _ _ _ _ _ _ _ _ _ _ _ _ _ _ _ _ _ _ _ _ _ _ _ _ _ _ _ _ _ => ?_⟩
      · obtain ⟨Q1, hK, hn⟩ := p0 L _ _ _ _ _ sz T hsz hI
        refine ⟨in1, in2, in3, in4, in5, Q1, hK, fun r1 T1 hq => ?_⟩
        obtain ⟨e0, Q2, hK2, hn2⟩ := hn r1 T1 hq
        refine ⟨in1, in2, in3, in4, in5, Q2, by first | (rw [e0]; exact hK2) | exact hK2, fun r2 T2 hq2 => ?_⟩
        obtain ⟨er, hI2⟩ := hn2 r2 T2 hq2
        exact ⟨fun _ => by rw [h7]; exact ih (i + 7) _ _ sz T2 hsz hI2 (by omega) (by omega) (by omega), fun c => absurd er c⟩
      · obtain ⟨Q1, hK, hn⟩ := p1 L _ sz T hsz hI
        refine ⟨in1, Q1, hK, fun r1 T1 hq => ?_⟩
        obtain ⟨e0, Q2, hK2, hn2⟩ := hn r1 T1 hq
        refine ⟨in1, Q2, by first | (rw [e0]; exact hK2) | exact hK2, fun r2 T2 hq2 => ?_⟩
        obtain ⟨er, hI2⟩ := hn2 r2 T2 hq2
        exact ⟨fun _ => by rw [h7]; exact ih (i + 7) _ _ sz T2 hsz hI2 (by omega) (by omega) (by omega), fun c => absurd er c⟩
      · obtain ⟨Q1, hK, hn⟩ := p2 L _ sz T hsz hI
        refine ⟨in1, by omega, by omega, Q1, hK, fun r1 sz1 T1 hle hq => ?_⟩
        obtain ⟨e0, Q2, hK2, hn2⟩ := hn r1 sz1 T1 hle hq
        refine ⟨in1, Q2, by rw [e0]; exact hK2, fun r2 T2 hq2 => ?_⟩
        obtain ⟨er, hI2⟩ := hn2 r2 T2 hq2
        exact ⟨fun _ => by rw [h7]; exact ih (i + 7) _ _ sz1 T2 (by omega) hI2 (by omega) (by omega) (by omega), fun c => absurd er c⟩
      · obtain ⟨Q1, hK, hn⟩ := p3 L _ sz T hsz hI
        refine ⟨in1, Q1, hK, fun r1 T1 hq => ?_⟩
        obtain ⟨e0, Q2, hK2, hn2⟩ := hn r1 T1 hq
        refine ⟨in1, Q2, by first | (rw [e0]; exact hK2) | exact hK2, fun r2 T2 hq2 => ?_⟩
        obtain ⟨er, hI2⟩ := hn2 r2 T2 hq2
        exact ⟨fun _ => by rw [h7]; exact ih (i + 7) _ _ sz T2 hsz hI2 (by omega) (by omega) (by omega), fun c => absurd er c⟩
      · obtain ⟨Q1, hK, hn⟩ := p4 L _ _ _ sz T hsz hI
        refine ⟨in1, in2, in3, Q1, hK, fun r1 T1 hq => ?_⟩
        obtain ⟨e0, Q2, hK2, hn2⟩ := hn r1 T1 hq
        refine ⟨in1, in2, in3, Q2, by first | (rw [e0]; exact hK2) | exact hK2, fun r2 T2 hq2 => ?_⟩
        obtain ⟨er, hI2⟩ := hn2 r2 T2 hq2
        exact ⟨fun _ => by rw [h7]; exact ih (i + 7) _ _ sz T2 hsz hI2 (by omega) (by omega) (by omega), fun c => absurd er c⟩
      · obtain ⟨Q1, hK, hn⟩ := p5 L _ _ _ _ _ _ sz T hsz hI
        refine ⟨in1, in2, in3, in4, in5, in6, Q1, hK, fun r1 T1 hq => ?_⟩
        obtain ⟨e0, Q2, hK2, hn2⟩ := hn r1 T1 hq
        refine ⟨in1, in2, in3, in4, in5, in6, Q2, by first | (rw [e0]; exact hK2) | exact hK2, fun r2 T2 hq2 => ?_⟩
        obtain ⟨er, hI2⟩ := hn2 r2 T2 hq2
        exact ⟨fun _ => by rw [h7]; exact ih (i + 7) _ _ sz T2 hsz hI2 (by omega) (by omega) (by omega), fun c => absurd er c⟩
      · obtain ⟨Q1, hK, hn⟩ := p6 L _ _ sz T hsz hI
        refine ⟨in1, in2, in3, Q1, hK, fun r1 T1 hq => ?_⟩
        obtain ⟨e0, Q2, hK2, hn2⟩ := hn r1 T1 hq
        refine ⟨in1, in2, in3, Q2, by first | (rw [e0]; exact hK2) | exact hK2, fun r2 T2 hq2 => ?_⟩
        obtain ⟨er, hI2⟩ := hn2 r2 T2 hq2
        exact ⟨fun _ => by rw [h7]; exact ih (i + 7) _ _ sz T2 hsz hI2 (by omega) (by omega) (by omega), fun c => absurd er c⟩
      · obtain ⟨Q1, hK, hn⟩ := p7 L _ sz T hsz hI
        refine ⟨in1, Q1, hK, fun r1 T1 hq => ?_⟩
        obtain ⟨e0, Q2, hK2, hn2⟩ := hn r1 T1 hq
        refine ⟨in1, Q2, by first | (rw [e0]; exact hK2) | exact hK2, fun r2 T2 hq2 => ?_⟩
        obtain ⟨er, hI2⟩ := hn2 r2 T2 hq2
        exact ⟨fun _ => by rw [h7]; exact ih (i + 7) _ _ sz T2 hsz hI2 (by omega) (by omega) (by omega), fun c => absurd er c⟩
      · obtain ⟨Q1, hK, hn⟩ := p8 L  sz T hsz hI
        refine ⟨Q1, hK, fun r1 T1 hq => ?_⟩
        obtain ⟨e0, Q2, hK2, hn2⟩ := hn r1 T1 hq
        refine ⟨Q2, by first | (rw [e0]; exact hK2) | exact hK2, fun r2 T2 hq2 => ?_⟩
        obtain ⟨er, hI2⟩ := hn2 r2 T2 hq2
        exact ⟨fun _ => by rw [h7]; exact ih (i + 7) _ _ sz T2 hsz hI2 (by omega) (by omega) (by omega), fun c => absurd er c⟩
      · obtain ⟨Q1, hK, hn⟩ := p9 L _ _ _ sz T hsz hI
        refine ⟨in1, in2, in3, Q1, hK, fun r1 T1 hq => ?_⟩
        obtain ⟨e0, Q2, hK2, hn2⟩ := hn r1 T1 hq
        refine ⟨in1, in2, in3, Q2, by first | (rw [e0]; exact hK2) | exact hK2, fun r2 T2 hq2 => ?_⟩
        obtain ⟨er, hI2⟩ := hn2 r2 T2 hq2
        exact ⟨fun _ => by rw [h7]; exact ih (i + 7) _ _ sz T2 hsz hI2 (by omega) (by omega) (by omega), fun c => absurd er c⟩
      · obtain ⟨Q1, hK, hn⟩ := p10 L _ _ sz T hsz hI
        refine ⟨in1, in2, Q1, hK, fun r1 T1 hq => ?_⟩
        obtain ⟨e0, Q2, hK2, hn2⟩ := hn r1 T1 hq
        refine ⟨in1, in2, Q2, by first | (rw [e0]; exact hK2) | exact hK2, fun r2 T2 hq2 => ?_⟩
        obtain ⟨er, hI2⟩ := hn2 r2 T2 hq2
        exact ⟨fun _ => by rw [h7]; exact ih (i + 7) _ _ sz T2 hsz hI2 (by omega) (by omega) (by omega), fun c => absurd er c⟩
      · obtain ⟨Q1, hK, hn⟩ := p11 L _ _ sz T hsz hI
        refine ⟨in1, in2, Q1, hK, fun r1 T1 hq => ?_⟩
        obtain ⟨e0, Q2, hK2, hn2⟩ := hn r1 T1 hq
        refine ⟨in1, in2, Q2, by first | (rw [e0]; exact hK2) | exact hK2, fun r2 T2 hq2 => ?_⟩
        obtain ⟨er, hI2⟩ := hn2 r2 T2 hq2
        exact ⟨fun _ => by rw [h7]; exact ih (i + 7) _ _ sz T2 hsz hI2 (by omega) (by omega) (by omega), fun c => absurd er c⟩
      · obtain ⟨Q1, hK, hn⟩ := p12 L _ _ sz T hsz hI
        refine ⟨in1, in2, Q1, hK, fun r1 T1 hq => ?_⟩
        obtain ⟨e0, Q2, hK2, hn2⟩ := hn r1 T1 hq
        refine ⟨in1, in2, Q2, by first | (rw [e0]; exact hK2) | exact hK2, fun r2 T2 hq2 => ?_⟩
        obtain ⟨er, hI2⟩ := hn2 r2 T2 hq2
        exact ⟨fun _ => by rw [h7]; exact ih (i + 7) _ _ sz T2 hsz hI2 (by omega) (by omega) (by omega), fun c => absurd er c⟩
      · obtain ⟨Q1, hK, hn⟩ := p13 L _ _ sz T hsz hI
        refine ⟨in1, in2, Q1, hK, fun r1 T1 hq => ?_⟩
        obtain ⟨e0, Q2, hK2, hn2⟩ := hn r1 T1 hq
        refine ⟨in1, in2, Q2, by first | (rw [e0]; exact hK2) | exact hK2, fun r2 T2 hq2 => ?_⟩
        obtain ⟨er, hI2⟩ := hn2 r2 T2 hq2
        exact ⟨fun _ => by rw [h7]; exact ih (i + 7) _ _ sz T2 hsz hI2 (by omega) (by omega) (by omega), fun c => absurd er c⟩
      · obtain ⟨Q1, hK, hn⟩ := p14 L _ _ sz T hsz hI
        refine ⟨in1, in2, Q1, hK, fun r1 T1 hq => ?_⟩
        obtain ⟨e0, Q2, hK2, hn2⟩ := hn r1 T1 hq
        refine ⟨in1, in2, Q2, by first | (rw [e0]; exact hK2) | exact hK2, fun r2 T2 hq2 => ?_⟩
        obtain ⟨er, hI2⟩ := hn2 r2 T2 hq2
        exact ⟨fun _ => by rw [h7]; exact ih (i + 7) _ _ sz T2 hsz hI2 (by omega) (by omega) (by omega), fun c => absurd er c⟩
      · obtain ⟨Q1, hK, hn⟩ := p15 L  sz T hsz hI
        refine ⟨Q1, hK, fun r1 T1 hq => ?_⟩
        obtain ⟨e0, Q2, hK2, hn2⟩ := hn r1 T1 hq
        refine ⟨Q2, by first | (rw [e0]; exact hK2) | exact hK2, fun r2 T2 hq2 => ?_⟩
        obtain ⟨er, hI2⟩ := hn2 r2 T2 hq2
        exact ⟨fun _ => by rw [h7]; exact ih (i + 7) _ _ sz T2 hsz hI2 (by omega) (by omega) (by omega), fun c => absurd er c⟩
      · obtain ⟨Q1, hK, hn⟩ := p16 L _ sz T hsz hI
        refine ⟨in1, Q1, hK, fun r1 T1 hq => ?_⟩
        obtain ⟨e0, Q2, hK2, hn2⟩ := hn r1 T1 hq
        refine ⟨in1, Q2, by first | (rw [e0]; exact hK2) | exact hK2, fun r2 T2 hq2 => ?_⟩
        obtain ⟨er, hI2⟩ := hn2 r2 T2 hq2
        exact ⟨fun _ => by rw [h7]; exact ih (i + 7) _ _ sz T2 hsz hI2 (by omega) (by omega) (by omega), fun c => absurd er c⟩
      · obtain ⟨Q1, hK, hn⟩ := p17 L  sz T hsz hI
        refine ⟨Q1, hK, fun r1 T1 hq => ?_⟩
        obtain ⟨e0, Q2, hK2, hn2⟩ := hn r1 T1 hq
        refine ⟨Q2, by first | (rw [e0]; exact hK2) | exact hK2, fun r2 T2 hq2 => ?_⟩
        obtain ⟨er, hI2⟩ := hn2 r2 T2 hq2
        exact ⟨fun _ => by rw [h7]; exact ih (i + 7) _ _ sz T2 hsz hI2 (by omega) (by omega) (by omega), fun c => absurd er c⟩
      · obtain ⟨Q1, hK, hn⟩ := p18 L _ sz T hsz hI
        refine ⟨in1, Q1, hK, fun r1 T1 hq => ?_⟩
        obtain ⟨e0, Q2, hK2, hn2⟩ := hn r1 T1 hq
        refine ⟨in1, Q2, by first | (rw [e0]; exact hK2) | exact hK2, fun r2 T2 hq2 => ?_⟩
        obtain ⟨er, hI2⟩ := hn2 r2 T2 hq2
        exact ⟨fun _ => by rw [h7]; exact ih (i + 7) _ _ sz T2 hsz hI2 (by omega) (by omega) (by omega), fun c => absurd er c⟩
      · obtain ⟨Q1, hK, hn⟩ := p19 L _ _ _ _ sz T hsz hI
        refine ⟨in1, in2, in3, in4, Q1, hK, fun r1 T1 hq => ?_⟩
        obtain ⟨e0, Q2, hK2, hn2⟩ := hn r1 T1 hq
        refine ⟨in1, in2, in3, in4, Q2, by first | (rw [e0]; exact hK2) | exact hK2, fun r2 T2 hq2 => ?_⟩
        obtain ⟨er, hI2⟩ := hn2 r2 T2 hq2
        exact ⟨fun _ => by rw [h7]; exact ih (i + 7) _ _ sz T2 hsz hI2 (by omega) (by omega) (by omega), fun c => absurd er c⟩
      · obtain ⟨Q1, hK, hn⟩ := p20 L _ _ _ sz T hsz hI
        refine ⟨in1, in2, in3, Q1, hK, fun r1 T1 hq => ?_⟩
        obtain ⟨e0, Q2, hK2, hn2⟩ := hn r1 T1 hq
        refine ⟨in1, in2, in3, Q2, by first | (rw [e0]; exact hK2) | exact hK2, fun r2 T2 hq2 => ?_⟩
        obtain ⟨er, hI2⟩ := hn2 r2 T2 hq2
        exact ⟨fun _ => by rw [h7]; exact ih (i + 7) _ _ sz T2 hsz hI2 (by omega) (by omega) (by omega), fun c => absurd er c⟩
      · obtain ⟨Q1, hK, hn⟩ := p21 L _ sz T hsz hI
        refine ⟨in1, Q1, hK, fun r1 T1 hq => ?_⟩
        obtain ⟨e0, Q2, hK2, hn2⟩ := hn r1 T1 hq
        refine ⟨in1, Q2, by first | (rw [e0]; exact hK2) | exact hK2, fun r2 T2 hq2 => ?_⟩
        obtain ⟨er, hI2⟩ := hn2 r2 T2 hq2
        exact ⟨fun _ => by rw [h7]; exact ih (i + 7) _ _ sz T2 hsz hI2 (by omega) (by omega) (by omega), fun c => absurd er c⟩
      · obtain ⟨Q1, hK, hn⟩ := p22 L _ _ _ sz T hsz hI
        refine ⟨in1, in2, in3, Q1, hK, fun r1 T1 hq => ?_⟩
        obtain ⟨e0, Q2, hK2, hn2⟩ := hn r1 T1 hq
        refine ⟨in1, in2, in3, Q2, by first | (rw [e0]; exact hK2) | exact hK2, fun r2 T2 hq2 => ?_⟩
        obtain ⟨er, hI2⟩ := hn2 r2 T2 hq2
        exact ⟨fun _ => by rw [h7]; exact ih (i + 7) _ _ sz T2 hsz hI2 (by omega) (by omega) (by omega), fun c => absurd er c⟩
      · obtain ⟨Q1, hK, hn⟩ := p23 L _ _ sz T hsz hI
        refine ⟨in1, in2, Q1, hK, fun r1 T1 hq => ?_⟩
        obtain ⟨e0, Q2, hK2, hn2⟩ := hn r1 T1 hq
        refine ⟨in1, in2, Q2, by first | (rw [e0]; exact hK2) | exact hK2, fun r2 T2 hq2 => ?_⟩
        obtain ⟨er, hI2⟩ := hn2 r2 T2 hq2
        exact ⟨fun _ => by rw [h7]; exact ih (i + 7) _ _ sz T2 hsz hI2 (by omega) (by omega) (by omega), fun c => absurd er c⟩
      · obtain ⟨Q1, hK, hn⟩ := p24 L _ _ sz T hsz hI
        refine ⟨in1, in2, Q1, hK, fun r1 T1 hq => ?_⟩
        obtain ⟨e0, Q2, hK2, hn2⟩ := hn r1 T1 hq
        refine ⟨in1, in2, Q2, by first | (rw [e0]; exact hK2) | exact hK2, fun r2 T2 hq2 => ?_⟩
        obtain ⟨er, hI2⟩ := hn2 r2 T2 hq2
        exact ⟨fun _ => by rw [h7]; exact ih (i + 7) _ _ sz T2 hsz hI2 (by omega) (by omega) (by omega), fun c => absurd er c⟩
      · obtain ⟨Q1, hK, hn⟩ := p25 L _ sz T hsz hI
        refine ⟨in1, Q1, hK, fun r1 T1 hq => ?_⟩
        obtain ⟨e0, Q2, hK2, hn2⟩ := hn r1 T1 hq
        refine ⟨in1, Q2, by first | (rw [e0]; exact hK2) | exact hK2, fun r2 T2 hq2 => ?_⟩
        obtain ⟨er, hI2⟩ := hn2 r2 T2 hq2
        exact ⟨fun _ => by rw [h7]; exact ih (i + 7) _ _ sz T2 hsz hI2 (by omega) (by omega) (by omega), fun c => absurd er c⟩
      · obtain ⟨Q1, hK, hn⟩ := p26 L _ sz T hsz hI
        refine ⟨in1, Q1, hK, fun r1 T1 hq => ?_⟩
        obtain ⟨e0, Q2, hK2, hn2⟩ := hn r1 T1 hq
        refine ⟨in1, Q2, by first | (rw [e0]; exact hK2) | exact hK2, fun r2 T2 hq2 => ?_⟩
        obtain ⟨er, hI2⟩ := hn2 r2 T2 hq2
        exact ⟨fun _ => by rw [h7]; exact ih (i + 7) _ _ sz T2 hsz hI2 (by omega) (by omega) (by omega), fun c => absurd er c⟩
      · obtain ⟨Q1, hK, hn⟩ := p27 L _ _ sz T hsz hI
        refine ⟨in1, in2, Q1, hK, fun r1 T1 hq => ?_⟩
        obtain ⟨e0, Q2, hK2, hn2⟩ := hn r1 T1 hq
        refine ⟨in1, in2, Q2, by first | (rw [e0]; exact hK2) | exact hK2, fun r2 T2 hq2 => ?_⟩
        obtain ⟨er, hI2⟩ := hn2 r2 T2 hq2
        exact ⟨fun _ => by rw [h7]; exact ih (i + 7) _ _ sz T2 hsz hI2 (by omega) (by omega) (by omega), fun c => absurd er c⟩
      · obtain ⟨Q1, hK, hn⟩ := p28 L _ _ sz T hsz hI
        refine ⟨in1, in2, Q1, hK, fun r1 T1 hq => ?_⟩
        obtain ⟨e0, Q2, hK2, hn2⟩ := hn r1 T1 hq
        refine ⟨in1, in2, Q2, by first | (rw [e0]; exact hK2) | exact hK2, fun r2 T2 hq2 => ?_⟩
        obtain ⟨er, hI2⟩ := hn2 r2 T2 hq2
        exact ⟨fun _ => by rw [h7]; exact ih (i + 7) _ _ sz T2 hsz hI2 (by omega) (by omega) (by omega), fun c => absurd er c⟩
      · obtain ⟨Q1, hK, hn⟩ := p29 L _ sz T hsz hI
        refine ⟨in1, Q1, hK, fun r1 T1 hq => ?_⟩
        obtain ⟨e0, Q2, hK2, hn2⟩ := hn r1 T1 hq
        refine ⟨in1, Q2, by first | (rw [e0]; exact hK2) | exact hK2, fun r2 T2 hq2 => ?_⟩
        obtain ⟨er, hI2⟩ := hn2 r2 T2 hq2
        exact ⟨fun _ => by rw [h7]; exact ih (i + 7) _ _ sz T2 hsz hI2 (by omega) (by omega) (by omega), fun c => absurd er c⟩
      · rw [h7]; exact ih (i + 7) _ _ sz T hsz hI (by omega) (by omega) (by omega)
  exact key 513 0 159 37738 161 (T1 xs) (Nat.le_refl _) (hI0 xs) (by omega) (by decide) (by decide)
