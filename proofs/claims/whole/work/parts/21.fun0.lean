def F_X0_give (T : tT)  (x0 : Int32) (x1 : Int32) (x2 : Int32) : Int32 × tT := (if (T.1 101 0) < (60 : Int32) then (((T.1 101 0) + (1 : Int32)), (tI (tI (tI (tI T 102 ((T.1 101 0).toNatClampNeg) x0) 103 ((T.1 101 0).toNatClampNeg) x1) 104 ((T.1 101 0).toNatClampNeg) x2) 101 0 ((T.1 101 0) + (1 : Int32)))) else ((-1 : Int32), T))
def ok_X0_give (sz : Nat) (T : tT)  (x0 : Int32) (x1 : Int32) (x2 : Int32) : Prop := (((T.1 101 0) < (60 : Int32) → (vp_in (T.1 101 0) 60 ∧ (vp_in (T.1 101 0) 60 ∧ vp_in (T.1 101 0) 60))) ∧ (¬ (T.1 101 0) < (60 : Int32) → True))
set_option maxRecDepth 10000 in
theorem c_X0_give {d L sz : Nat} {T : tT} (hsz : 161 ≤ sz) (x0 : Int32) (x1 : Int32) (x2 : Int32) (ok : ok_X0_give sz T x0 x1 x2) : tiK d mX0_give [.ref 101, .int x0, .int x1, .int x2] L sz T (fun r T' => r = (F_X0_give T x0 x1 x2).1 ∧ T' = (F_X0_give T x0 x1 x2).2) := by
  refine k_X0_give hsz  x0 x1 x2 ?_
  unfold ok_X0_give at ok
  refine ⟨fun kq0 => ?_, fun kq0 => ?_⟩
  · replace ok := ok.1 kq0
    refine ⟨ok.1, ?_⟩
    replace ok := ok.2
    refine ⟨ok.1, ?_⟩
    replace ok := ok.2
    refine ⟨ok, ?_⟩
    exact ⟨by unfold F_X0_give; first | (rw [if_pos kq0]; done) | (rw [if_pos kq0]; rfl), by unfold F_X0_give; first | (rw [if_pos kq0]; done) | (rw [if_pos kq0]; rfl)⟩
  · replace ok := ok.2 kq0
    exact ⟨by unfold F_X0_give; first | (rw [if_neg kq0]; done) | (rw [if_neg kq0]; rfl), by unfold F_X0_give; first | (rw [if_neg kq0]; done) | (rw [if_neg kq0]; rfl)⟩
def v_X0_has (T : tT)  (x0 : Int32) : Int32 := (if x0 < (1 : Int32) then (0 : Int32) else (if (T.1 101 0) < x0 then (0 : Int32) else (1 : Int32)))
set_option maxRecDepth 10000 in
theorem c_X0_has {d L sz : Nat} {T : tT} (hsz : 161 ≤ sz) (x0 : Int32) : tiK d mX0_has [.ref 101, .int x0] L sz T (fun r T' => r = v_X0_has T x0 ∧ T = T') := by
  refine k_X0_has hsz  x0 ?_
  refine ⟨fun kq0 => ?_, fun kq0 => ?_⟩
  · exact ⟨by unfold v_X0_has; first | (rw [if_pos kq0]; done) | (rw [if_pos kq0]; rfl), rfl⟩
  · refine ⟨fun kq1 => ?_, fun kq1 => ?_⟩
    · exact ⟨by unfold v_X0_has; first | (rw [if_neg kq0, if_pos kq1]; done) | (rw [if_neg kq0, if_pos kq1]; rfl), rfl⟩
    · exact ⟨by unfold v_X0_has; first | (rw [if_neg kq0, if_neg kq1]; done) | (rw [if_neg kq0, if_neg kq1]; rfl), rfl⟩
def F_X1_addCentre (T : tT)   : Int32 × tT := (if (T.1 79 0) < (8 : Int32) then ((((T.1 79 0) + (1 : Int32)) - (1 : Int32)), (tI T 79 0 ((T.1 79 0) + (1 : Int32)))) else ((-1 : Int32), T))
set_option maxRecDepth 10000 in
theorem c_X1_addCentre {d L sz : Nat} {T : tT} (hsz : 161 ≤ sz)  : tiK d mX1_addCentre [.ref 79] L sz T (fun r T' => r = (F_X1_addCentre T).1 ∧ T' = (F_X1_addCentre T).2) := by
  refine k_X1_addCentre hsz   ?_
  refine ⟨fun kq0 => ?_, fun kq0 => ?_⟩
  · exact ⟨by unfold F_X1_addCentre; first | (rw [if_pos kq0]; done) | (rw [if_pos kq0]; rfl), by unfold F_X1_addCentre; first | (rw [if_pos kq0]; done) | (rw [if_pos kq0]; rfl)⟩
  · exact ⟨by unfold F_X1_addCentre; first | (rw [if_neg kq0]; done) | (rw [if_neg kq0]; rfl), by unfold F_X1_addCentre; first | (rw [if_neg kq0]; done) | (rw [if_neg kq0]; rfl)⟩
def F_X1_addExaminer (T : tT)  (x0 : Int32) (x1 : Int32) : Int32 × tT := (if (T.1 79 1) < (5 : Int32) then ((((T.1 79 1) + (1 : Int32)) - (1 : Int32)), (tI (tI (tI T 80 ((T.1 79 1).toNatClampNeg) x0) 81 ((T.1 79 1).toNatClampNeg) x1) 79 1 ((T.1 79 1) + (1 : Int32)))) else ((-1 : Int32), T))
def ok_X1_addExaminer (sz : Nat) (T : tT)  (x0 : Int32) (x1 : Int32) : Prop := (((T.1 79 1) < (5 : Int32) → (vp_in (T.1 79 1) 5 ∧ vp_in (T.1 79 1) 5)) ∧ (¬ (T.1 79 1) < (5 : Int32) → True))
set_option maxRecDepth 10000 in
theorem c_X1_addExaminer {d L sz : Nat} {T : tT} (hsz : 161 ≤ sz) (x0 : Int32) (x1 : Int32) (ok : ok_X1_addExaminer sz T x0 x1) : tiK d mX1_addExaminer [.ref 79, .int x0, .int x1] L sz T (fun r T' => r = (F_X1_addExaminer T x0 x1).1 ∧ T' = (F_X1_addExaminer T x0 x1).2) := by
  refine k_X1_addExaminer hsz  x0 x1 ?_
  unfold ok_X1_addExaminer at ok
  refine ⟨fun kq0 => ?_, fun kq0 => ?_⟩
  · replace ok := ok.1 kq0
    refine ⟨ok.1, ?_⟩
    replace ok := ok.2
    refine ⟨ok, ?_⟩
    exact ⟨by unfold F_X1_addExaminer; first | (rw [if_pos kq0]; done) | (rw [if_pos kq0]; rfl), by unfold F_X1_addExaminer; first | (rw [if_pos kq0]; done) | (rw [if_pos kq0]; rfl)⟩
  · replace ok := ok.2 kq0
    exact ⟨by unfold F_X1_addExaminer; first | (rw [if_neg kq0]; done) | (rw [if_neg kq0]; rfl), by unfold F_X1_addExaminer; first | (rw [if_neg kq0]; done) | (rw [if_neg kq0]; rfl)⟩
def F_X1_addSession (T : tT)  (x0 : Int32) (x1 : Int32) : Int32 × tT := (if (T.1 79 2) < (9 : Int32) then ((((T.1 79 2) + (1 : Int32)) - (1 : Int32)), (tI (tI (tI T 82 ((T.1 79 2).toNatClampNeg) x0) 83 ((T.1 79 2).toNatClampNeg) x1) 79 2 ((T.1 79 2) + (1 : Int32)))) else ((-1 : Int32), T))
def ok_X1_addSession (sz : Nat) (T : tT)  (x0 : Int32) (x1 : Int32) : Prop := (((T.1 79 2) < (9 : Int32) → (vp_in (T.1 79 2) 9 ∧ vp_in (T.1 79 2) 9)) ∧ (¬ (T.1 79 2) < (9 : Int32) → True))
set_option maxRecDepth 10000 in
theorem c_X1_addSession {d L sz : Nat} {T : tT} (hsz : 161 ≤ sz) (x0 : Int32) (x1 : Int32) (ok : ok_X1_addSession sz T x0 x1) : tiK d mX1_addSession [.ref 79, .int x0, .int x1] L sz T (fun r T' => r = (F_X1_addSession T x0 x1).1 ∧ T' = (F_X1_addSession T x0 x1).2) := by
  refine k_X1_addSession hsz  x0 x1 ?_
  unfold ok_X1_addSession at ok
  refine ⟨fun kq0 => ?_, fun kq0 => ?_⟩
  · replace ok := ok.1 kq0
    refine ⟨ok.1, ?_⟩
    replace ok := ok.2
    refine ⟨ok, ?_⟩
    exact ⟨by unfold F_X1_addSession; first | (rw [if_pos kq0]; done) | (rw [if_pos kq0]; rfl), by unfold F_X1_addSession; first | (rw [if_pos kq0]; done) | (rw [if_pos kq0]; rfl)⟩
  · replace ok := ok.2 kq0
    exact ⟨by unfold F_X1_addSession; first | (rw [if_neg kq0]; done) | (rw [if_neg kq0]; rfl), by unfold F_X1_addSession; first | (rw [if_neg kq0]; done) | (rw [if_neg kq0]; rfl)⟩
def v_X1_hasCentre (T : tT)  (x0 : Int32) : Int32 := (if x0 < 0 then (0 : Int32) else (if (T.1 79 0) ≤ x0 then (0 : Int32) else (1 : Int32)))
set_option maxRecDepth 10000 in
theorem c_X1_hasCentre {d L sz : Nat} {T : tT} (hsz : 161 ≤ sz) (x0 : Int32) : tiK d mX1_hasCentre [.ref 79, .int x0] L sz T (fun r T' => r = v_X1_hasCentre T x0 ∧ T = T') := by
  refine k_X1_hasCentre hsz  x0 ?_
  refine ⟨fun kq0 => ?_, fun kq0 => ?_⟩
  · exact ⟨by unfold v_X1_hasCentre; first | (rw [if_pos kq0]; done) | (rw [if_pos kq0]; rfl), rfl⟩
  · refine ⟨fun kq1 => ?_, fun kq1 => ?_⟩
    · exact ⟨by unfold v_X1_hasCentre; first | (rw [if_neg kq0, if_pos kq1]; done) | (rw [if_neg kq0, if_pos kq1]; rfl), rfl⟩
    · exact ⟨by unfold v_X1_hasCentre; first | (rw [if_neg kq0, if_neg kq1]; done) | (rw [if_neg kq0, if_neg kq1]; rfl), rfl⟩
def v_X1_hasExaminer (T : tT)  (x0 : Int32) : Int32 := (if x0 < 0 then (0 : Int32) else (if (T.1 79 1) ≤ x0 then (0 : Int32) else (1 : Int32)))
set_option maxRecDepth 10000 in
theorem c_X1_hasExaminer {d L sz : Nat} {T : tT} (hsz : 161 ≤ sz) (x0 : Int32) : tiK d mX1_hasExaminer [.ref 79, .int x0] L sz T (fun r T' => r = v_X1_hasExaminer T x0 ∧ T = T') := by
  refine k_X1_hasExaminer hsz  x0 ?_
  refine ⟨fun kq0 => ?_, fun kq0 => ?_⟩
  · exact ⟨by unfold v_X1_hasExaminer; first | (rw [if_pos kq0]; done) | (rw [if_pos kq0]; rfl), rfl⟩
  · refine ⟨fun kq1 => ?_, fun kq1 => ?_⟩
    · exact ⟨by unfold v_X1_hasExaminer; first | (rw [if_neg kq0, if_pos kq1]; done) | (rw [if_neg kq0, if_pos kq1]; rfl), rfl⟩
    · exact ⟨by unfold v_X1_hasExaminer; first | (rw [if_neg kq0, if_neg kq1]; done) | (rw [if_neg kq0, if_neg kq1]; rfl), rfl⟩
def v_X1_hasSession (T : tT)  (x0 : Int32) : Int32 := (if x0 < 0 then (0 : Int32) else (if (T.1 79 2) ≤ x0 then (0 : Int32) else (1 : Int32)))
set_option maxRecDepth 10000 in
theorem c_X1_hasSession {d L sz : Nat} {T : tT} (hsz : 161 ≤ sz) (x0 : Int32) : tiK d mX1_hasSession [.ref 79, .int x0] L sz T (fun r T' => r = v_X1_hasSession T x0 ∧ T = T') := by
  refine k_X1_hasSession hsz  x0 ?_
  refine ⟨fun kq0 => ?_, fun kq0 => ?_⟩
  · exact ⟨by unfold v_X1_hasSession; first | (rw [if_pos kq0]; done) | (rw [if_pos kq0]; rfl), rfl⟩
  · refine ⟨fun kq1 => ?_, fun kq1 => ?_⟩
    · exact ⟨by unfold v_X1_hasSession; first | (rw [if_neg kq0, if_pos kq1]; done) | (rw [if_neg kq0, if_pos kq1]; rfl), rfl⟩
    · exact ⟨by unfold v_X1_hasSession; first | (rw [if_neg kq0, if_neg kq1]; done) | (rw [if_neg kq0, if_neg kq1]; rfl), rfl⟩
def v_X1_minutesBetween (T : tT)  (x0 : Int32) (x1 : Int32) : Int32 := (T.1 84 ((x0 * (8 : Int32)) + x1).toNatClampNeg)
def ok_X1_minutesBetween (sz : Nat) (T : tT)  (x0 : Int32) (x1 : Int32) : Prop := vp_in ((x0 * (8 : Int32)) + x1) 64
set_option maxRecDepth 10000 in
theorem c_X1_minutesBetween {d L sz : Nat} {T : tT} (hsz : 161 ≤ sz) (x0 : Int32) (x1 : Int32) (ok : ok_X1_minutesBetween sz T x0 x1) : tiK d mX1_minutesBetween [.ref 79, .int x0, .int x1] L sz T (fun r T' => r = v_X1_minutesBetween T x0 x1 ∧ T = T') := by
  refine k_X1_minutesBetween hsz  x0 x1 ?_
  unfold ok_X1_minutesBetween at ok
  refine ⟨ok, ?_⟩
  exact ⟨by unfold v_X1_minutesBetween; rfl, rfl⟩
def v_X1_plays (T : tT)  (x0 : Int32) (x1 : Int32) : Int32 := (if (((T.1 81 (x0.toNatClampNeg)) >>> (x1 &&& 31)) &&& (1 : Int32)) = 0 then (0 : Int32) else (1 : Int32))
def ok_X1_plays (sz : Nat) (T : tT)  (x0 : Int32) (x1 : Int32) : Prop := vp_in x0 5
set_option maxRecDepth 10000 in
theorem c_X1_plays {d L sz : Nat} {T : tT} (hsz : 161 ≤ sz) (x0 : Int32) (x1 : Int32) (ok : ok_X1_plays sz T x0 x1) : tiK d mX1_plays [.ref 79, .int x0, .int x1] L sz T (fun r T' => r = v_X1_plays T x0 x1 ∧ T = T') := by
  refine k_X1_plays hsz  x0 x1 ?_
  unfold ok_X1_plays at ok
  refine ⟨ok, ?_⟩
  refine ⟨fun kq0 => ?_, fun kq0 => ?_⟩
  · exact ⟨by unfold v_X1_plays; first | (rw [if_pos kq0]; done) | (rw [if_pos kq0]; rfl), rfl⟩
  · exact ⟨by unfold v_X1_plays; first | (rw [if_neg kq0]; done) | (rw [if_neg kq0]; rfl), rfl⟩
def F_X1_setWay (T : tT)  (x0 : Int32) (x1 : Int32) (x2 : Int32) : tT := (tI (tI T 84 (((x0 * (8 : Int32)) + x1).toNatClampNeg) x2) 84 (((x1 * (8 : Int32)) + x0).toNatClampNeg) x2)
def ok_X1_setWay (sz : Nat) (T : tT)  (x0 : Int32) (x1 : Int32) (x2 : Int32) : Prop := (vp_in ((x0 * (8 : Int32)) + x1) 64 ∧ vp_in ((x1 * (8 : Int32)) + x0) 64)
set_option maxRecDepth 10000 in
theorem c_X1_setWay {d L sz : Nat} {T : tT} (hsz : 161 ≤ sz) (x0 : Int32) (x1 : Int32) (x2 : Int32) (ok : ok_X1_setWay sz T x0 x1 x2) : tvK d mX1_setWay [.ref 79, .int x0, .int x1, .int x2] L sz T (fun T' => T' = F_X1_setWay T x0 x1 x2) := by
  refine k_X1_setWay hsz  x0 x1 x2 ?_
  unfold ok_X1_setWay at ok
  refine ⟨ok.1, ?_⟩
  replace ok := ok.2
  refine ⟨ok, ?_⟩
  exact (by unfold F_X1_setWay; rfl)
def F_X2_add (T : tT)  (x0 : Int32) (x1 : Int32) (x2 : Int32) (x3 : Int32) (x4 : Int32) (x5 : Int32) : Int32 × tT := (if (T.1 69 0) < (40 : Int32) then ((((T.1 69 0) + (1 : Int32)) - (1 : Int32)), (tI (tI (tI (tI (tI (tI (tI (tI T 70 ((T.1 69 0).toNatClampNeg) x0) 71 ((T.1 69 0).toNatClampNeg) x1) 72 ((T.1 69 0).toNatClampNeg) x2) 73 ((T.1 69 0).toNatClampNeg) x3) 74 ((T.1 69 0).toNatClampNeg) x4) 75 ((T.1 69 0).toNatClampNeg) x5) 76 ((T.1 69 0).toNatClampNeg) (-1 : Int32)) 69 0 ((T.1 69 0) + (1 : Int32)))) else ((-1 : Int32), T))
def ok_X2_add (sz : Nat) (T : tT)  (x0 : Int32) (x1 : Int32) (x2 : Int32) (x3 : Int32) (x4 : Int32) (x5 : Int32) : Prop := (((T.1 69 0) < (40 : Int32) → (vp_in (T.1 69 0) 40 ∧ (vp_in (T.1 69 0) 40 ∧ (vp_in (T.1 69 0) 40 ∧ (vp_in (T.1 69 0) 40 ∧ (vp_in (T.1 69 0) 40 ∧ (vp_in (T.1 69 0) 40 ∧ vp_in (T.1 69 0) 40))))))) ∧ (¬ (T.1 69 0) < (40 : Int32) → True))
set_option maxRecDepth 10000 in
theorem c_X2_add {d L sz : Nat} {T : tT} (hsz : 161 ≤ sz) (x0 : Int32) (x1 : Int32) (x2 : Int32) (x3 : Int32) (x4 : Int32) (x5 : Int32) (ok : ok_X2_add sz T x0 x1 x2 x3 x4 x5) : tiK d mX2_add [.ref 69, .int x0, .int x1, .int x2, .int x3, .int x4, .int x5] L sz T (fun r T' => r = (F_X2_add T x0 x1 x2 x3 x4 x5).1 ∧ T' = (F_X2_add T x0 x1 x2 x3 x4 x5).2) := by
  refine k_X2_add hsz  x0 x1 x2 x3 x4 x5 ?_
  unfold ok_X2_add at ok
  refine ⟨fun kq0 => ?_, fun kq0 => ?_⟩
  · replace ok := ok.1 kq0
    refine ⟨ok.1, ?_⟩
    replace ok := ok.2
    refine ⟨ok.1, ?_⟩
    replace ok := ok.2
    refine ⟨ok.1, ?_⟩
    replace ok := ok.2
    refine ⟨ok.1, ?_⟩
    replace ok := ok.2
    refine ⟨ok.1, ?_⟩
    replace ok := ok.2
    refine ⟨ok.1, ?_⟩
    replace ok := ok.2
    refine ⟨ok, ?_⟩
    exact ⟨by unfold F_X2_add; first | (rw [if_pos kq0]; done) | (rw [if_pos kq0]; rfl), by unfold F_X2_add; first | (rw [if_pos kq0]; done) | (rw [if_pos kq0]; rfl)⟩
  · replace ok := ok.2 kq0
    exact ⟨by unfold F_X2_add; first | (rw [if_neg kq0]; done) | (rw [if_neg kq0]; rfl), by unfold F_X2_add; first | (rw [if_neg kq0]; done) | (rw [if_neg kq0]; rfl)⟩
def v_X2_has (T : tT)  (x0 : Int32) : Int32 := (if x0 < 0 then (0 : Int32) else (if (T.1 69 0) ≤ x0 then (0 : Int32) else (1 : Int32)))
set_option maxRecDepth 10000 in
theorem c_X2_has {d L sz : Nat} {T : tT} (hsz : 161 ≤ sz) (x0 : Int32) : tiK d mX2_has [.ref 69, .int x0] L sz T (fun r T' => r = v_X2_has T x0 ∧ T = T') := by
  refine k_X2_has hsz  x0 ?_
  refine ⟨fun kq0 => ?_, fun kq0 => ?_⟩
  · exact ⟨by unfold v_X2_has; first | (rw [if_pos kq0]; done) | (rw [if_pos kq0]; rfl), rfl⟩
  · refine ⟨fun kq1 => ?_, fun kq1 => ?_⟩
    · exact ⟨by unfold v_X2_has; first | (rw [if_neg kq0, if_pos kq1]; done) | (rw [if_neg kq0, if_pos kq1]; rfl), rfl⟩
    · exact ⟨by unfold v_X2_has; first | (rw [if_neg kq0, if_neg kq1]; done) | (rw [if_neg kq0, if_neg kq1]; rfl), rfl⟩
def F_X3_addList (T : tT) (q : Nat) (x0 : Int64) : tT := (if (6 : Int32) ≤ (T.1 q 1) then T else (tI (tI (tJ T (q + 1) ((T.1 q 1).toNatClampNeg) x0) (q + 2) ((T.1 q 1).toNatClampNeg) (0 : Int32)) q 1 (((tI (tJ T (q + 1) ((T.1 q 1).toNatClampNeg) x0) (q + 2) ((T.1 q 1).toNatClampNeg) (0 : Int32)).1 q 1) + (1 : Int32))))
def ok_X3_addList (sz : Nat) (T : tT) (q : Nat) (x0 : Int64) : Prop := (((6 : Int32) ≤ (T.1 q 1) → True) ∧ (¬ (6 : Int32) ≤ (T.1 q 1) → (vp_in (T.1 q 1) 6 ∧ vp_in (T.1 q 1) 6)))
set_option maxRecDepth 10000 in
theorem c_X3_addList {d L sz : Nat} {T : tT} (hsz : 161 ≤ sz) {q : Nat} (h_q : tgr sz q) (x0 : Int64) (ok : ok_X3_addList sz T q x0) : tvK d mX3_addList [.ref q, .long x0] L sz T (fun T' => T' = F_X3_addList T q x0) := by
  refine k_X3_addList hsz h_q x0 ?_
  unfold ok_X3_addList at ok
  refine ⟨fun kq0 => ?_, fun kq0 => ?_⟩
  · replace ok := ok.1 kq0
    exact (by unfold F_X3_addList; first | (rw [if_pos kq0]; done) | (rw [if_pos kq0]; rfl))
  · replace ok := ok.2 kq0
    refine ⟨ok.1, ?_⟩
    replace ok := ok.2
    refine ⟨ok, ?_⟩
    exact (by unfold F_X3_addList; first | (rw [if_neg kq0]; done) | (rw [if_neg kq0]; rfl))
def F_X3_addListed (T : tT) (q : Nat) (x0 : Int64) : tT := (if ((T.1 q 1) - (1 : Int32)) < 0 then T else (if (12 : Int32) ≤ (T.1 (q + 2) ((T.1 q 1) - (1 : Int32)).toNatClampNeg) then T else (tI (tJ T (q + 3) (((((T.1 q 1) - (1 : Int32)) * (12 : Int32)) + (T.1 (q + 2) ((T.1 q 1) - (1 : Int32)).toNatClampNeg)).toNatClampNeg) x0) (q + 2) (((T.1 q 1) - (1 : Int32)).toNatClampNeg) ((T.1 (q + 2) ((T.1 q 1) - (1 : Int32)).toNatClampNeg) + (1 : Int32)))))
def ok_X3_addListed (sz : Nat) (T : tT) (q : Nat) (x0 : Int64) : Prop := ((((T.1 q 1) - (1 : Int32)) < 0 → True) ∧ (¬ ((T.1 q 1) - (1 : Int32)) < 0 → (vp_in ((T.1 q 1) - (1 : Int32)) 6 ∧ (((12 : Int32) ≤ (T.1 (q + 2) ((T.1 q 1) - (1 : Int32)).toNatClampNeg) → True) ∧ (¬ (12 : Int32) ≤ (T.1 (q + 2) ((T.1 q 1) - (1 : Int32)).toNatClampNeg) → (vp_in ((T.1 q 1) - (1 : Int32)) 6 ∧ (vp_in ((((T.1 q 1) - (1 : Int32)) * (12 : Int32)) + (T.1 (q + 2) ((T.1 q 1) - (1 : Int32)).toNatClampNeg)) 72 ∧ (vp_in ((T.1 q 1) - (1 : Int32)) 6 ∧ vp_in ((T.1 q 1) - (1 : Int32)) 6))))))))
set_option maxRecDepth 10000 in
theorem c_X3_addListed {d L sz : Nat} {T : tT} (hsz : 161 ≤ sz) {q : Nat} (h_q : tgr sz q) (x0 : Int64) (ok : ok_X3_addListed sz T q x0) : tvK d mX3_addListed [.ref q, .long x0] L sz T (fun T' => T' = F_X3_addListed T q x0) := by
  refine k_X3_addListed hsz h_q x0 ?_
  unfold ok_X3_addListed at ok
  refine ⟨fun kq0 => ?_, fun kq0 => ?_⟩
  · replace ok := ok.1 kq0
    exact (by unfold F_X3_addListed; first | (rw [if_pos kq0]; done) | (rw [if_pos kq0]; rfl))
  · replace ok := ok.2 kq0
    refine ⟨ok.1, ?_⟩
    replace ok := ok.2
    refine ⟨fun kq1 => ?_, fun kq1 => ?_⟩
    · replace ok := ok.1 kq1
      exact (by unfold F_X3_addListed; first | (rw [if_neg kq0, if_pos kq1]; done) | (rw [if_neg kq0, if_pos kq1]; rfl))
    · replace ok := ok.2 kq1
      refine ⟨ok.1, ?_⟩
      replace ok := ok.2
      refine ⟨ok.1, ?_⟩
      replace ok := ok.2
      refine ⟨ok.1, ?_⟩
      replace ok := ok.2
      refine ⟨ok, ?_⟩
      exact (by unfold F_X3_addListed; first | (rw [if_neg kq0, if_neg kq1]; done) | (rw [if_neg kq0, if_neg kq1]; rfl))
def F_X3_addPart (T : tT) (q : Nat) (x0 : Int64) (x1 : Int32) : tT := (if (6 : Int32) ≤ (T.1 q 2) then T else (tI (tI (tJ T (q + 4) ((T.1 q 2).toNatClampNeg) x0) (q + 5) ((T.1 q 2).toNatClampNeg) x1) q 2 (((tI (tJ T (q + 4) ((T.1 q 2).toNatClampNeg) x0) (q + 5) ((T.1 q 2).toNatClampNeg) x1).1 q 2) + (1 : Int32))))
def ok_X3_addPart (sz : Nat) (T : tT) (q : Nat) (x0 : Int64) (x1 : Int32) : Prop := (((6 : Int32) ≤ (T.1 q 2) → True) ∧ (¬ (6 : Int32) ≤ (T.1 q 2) → (vp_in (T.1 q 2) 6 ∧ vp_in (T.1 q 2) 6)))
set_option maxRecDepth 10000 in
theorem c_X3_addPart {d L sz : Nat} {T : tT} (hsz : 161 ≤ sz) {q : Nat} (h_q : tgr sz q) (x0 : Int64) (x1 : Int32) (ok : ok_X3_addPart sz T q x0 x1) : tvK d mX3_addPart [.ref q, .long x0, .int x1] L sz T (fun T' => T' = F_X3_addPart T q x0 x1) := by
  refine k_X3_addPart hsz h_q x0 x1 ?_
  unfold ok_X3_addPart at ok
  refine ⟨fun kq0 => ?_, fun kq0 => ?_⟩
  · replace ok := ok.1 kq0
    exact (by unfold F_X3_addPart; first | (rw [if_pos kq0]; done) | (rw [if_pos kq0]; rfl))
  · replace ok := ok.2 kq0
    refine ⟨ok.1, ?_⟩
    replace ok := ok.2
    refine ⟨ok, ?_⟩
    exact (by unfold F_X3_addPart; first | (rw [if_neg kq0]; done) | (rw [if_neg kq0]; rfl))
def F_X3_addRule (T : tT) (q : Nat) (x0 : Int32) (x1 : Int32) : tT := (if x0 = (205 : Int32) then (tI T q 5 x1) else (if x0 = (206 : Int32) then (tI T q 6 x1) else (if (8 : Int32) ≤ (T.1 q 3) then T else (tI (tI T (q + 6) ((T.1 q 3).toNatClampNeg) x1) q 3 (((tI T (q + 6) ((T.1 q 3).toNatClampNeg) x1).1 q 3) + (1 : Int32))))))
def ok_X3_addRule (sz : Nat) (T : tT) (q : Nat) (x0 : Int32) (x1 : Int32) : Prop := ((¬ x0 = (205 : Int32) → ((¬ x0 = (206 : Int32) → (((8 : Int32) ≤ (T.1 q 3) → True) ∧ (¬ (8 : Int32) ≤ (T.1 q 3) → vp_in (T.1 q 3) 8))) ∧ (x0 = (206 : Int32) → True))) ∧ (x0 = (205 : Int32) → True))
set_option maxRecDepth 10000 in
theorem c_X3_addRule {d L sz : Nat} {T : tT} (hsz : 161 ≤ sz) {q : Nat} (h_q : tgr sz q) (x0 : Int32) (x1 : Int32) (ok : ok_X3_addRule sz T q x0 x1) : tvK d mX3_addRule [.ref q, .int x0, .int x1] L sz T (fun T' => T' = F_X3_addRule T q x0 x1) := by
  refine k_X3_addRule hsz h_q x0 x1 ?_
  unfold ok_X3_addRule at ok
  refine ⟨fun kq0 => ?_, fun kq0 => ?_⟩
  · replace ok := ok.1 kq0
    refine ⟨fun kq1 => ?_, fun kq1 => ?_⟩
    · replace ok := ok.1 kq1
      refine ⟨fun kq2 => ?_, fun kq2 => ?_⟩
      · replace ok := ok.1 kq2
        exact (by unfold F_X3_addRule; first | (rw [if_neg kq0, if_neg kq1, if_pos kq2]; done) | (rw [if_neg kq0, if_neg kq1, if_pos kq2]; rfl))
      · replace ok := ok.2 kq2
        refine ⟨ok, ?_⟩
        exact (by unfold F_X3_addRule; first | (rw [if_neg kq0, if_neg kq1, if_neg kq2]; done) | (rw [if_neg kq0, if_neg kq1, if_neg kq2]; rfl))
    · replace ok := ok.2 kq1
      exact (by unfold F_X3_addRule; first | (rw [if_neg kq0, if_pos kq1]; done) | (rw [if_neg kq0, if_pos kq1]; rfl))
  · replace ok := ok.2 kq0
    exact (by unfold F_X3_addRule; first | (rw [if_pos kq0]; done) | (rw [if_pos kq0]; rfl))
def F_X3_clear (T : tT) (q : Nat)  : tT := (tI (tI (tI (tI (tI (tI (tI T q 0 (0 : Int32)) q 1 (0 : Int32)) q 2 (0 : Int32)) q 3 (0 : Int32)) q 4 (0 : Int32)) q 5 (-1 : Int32)) q 6 (-1 : Int32))
set_option maxRecDepth 10000 in
theorem c_X3_clear {d L sz : Nat} {T : tT} (hsz : 161 ≤ sz) {q : Nat} (h_q : tgr sz q)  : tvK d mX3_clear [.ref q] L sz T (fun T' => T' = F_X3_clear T q) := by
  refine k_X3_clear hsz h_q  ?_
  exact (by unfold F_X3_clear; rfl)
def v_X3_isLastListFull (T : tT) (q : Nat)  : Int32 := (if (T.1 q 1) ≤ 0 then (0 : Int32) else (if (T.1 (q + 2) ((T.1 q 1) - (1 : Int32)).toNatClampNeg) < (12 : Int32) then (0 : Int32) else (1 : Int32)))
def ok_X3_isLastListFull (sz : Nat) (T : tT) (q : Nat)  : Prop := (((T.1 q 1) ≤ 0 → True) ∧ (¬ (T.1 q 1) ≤ 0 → vp_in ((T.1 q 1) - (1 : Int32)) 6))
set_option maxRecDepth 10000 in
theorem c_X3_isLastListFull {d L sz : Nat} {T : tT} (hsz : 161 ≤ sz) {q : Nat} (h_q : tgr sz q)  (ok : ok_X3_isLastListFull sz T q) : tiK d mX3_isLastListFull [.ref q] L sz T (fun r T' => r = v_X3_isLastListFull T q ∧ T = T') := by
  refine k_X3_isLastListFull hsz h_q  ?_
  unfold ok_X3_isLastListFull at ok
  refine ⟨fun kq0 => ?_, fun kq0 => ?_⟩
  · replace ok := ok.1 kq0
    exact ⟨by unfold v_X3_isLastListFull; first | (rw [if_pos kq0]; done) | (rw [if_pos kq0]; rfl), rfl⟩
  · replace ok := ok.2 kq0
    refine ⟨ok, ?_⟩
    refine ⟨fun kq1 => ?_, fun kq1 => ?_⟩
    · exact ⟨by unfold v_X3_isLastListFull; first | (rw [if_neg kq0, if_pos kq1]; done) | (rw [if_neg kq0, if_pos kq1]; rfl), rfl⟩
    · exact ⟨by unfold v_X3_isLastListFull; first | (rw [if_neg kq0, if_neg kq1]; done) | (rw [if_neg kq0, if_neg kq1]; rfl), rfl⟩
def v_X3_minutesOrUsual (T : tT) (q : Nat)  : Int32 := (if (T.1 q 4) = 0 then (10 : Int32) else (T.1 q 4))
set_option maxRecDepth 10000 in
theorem c_X3_minutesOrUsual {d L sz : Nat} {T : tT} (hsz : 161 ≤ sz) {q : Nat} (h_q : tgr sz q)  : tiK d mX3_minutesOrUsual [.ref q] L sz T (fun r T' => r = v_X3_minutesOrUsual T q ∧ T = T') := by
  refine k_X3_minutesOrUsual hsz h_q  ?_
  refine ⟨fun kq0 => ?_, fun kq0 => ?_⟩
  · exact ⟨by unfold v_X3_minutesOrUsual; first | (rw [if_neg kq0]; done) | (rw [if_neg kq0]; rfl), rfl⟩
  · exact ⟨by unfold v_X3_minutesOrUsual; first | (rw [if_pos kq0]; done) | (rw [if_pos kq0]; rfl), rfl⟩
def v_X4_join (T : tT)  (x0 : Int32) (x1 : Int32) (x2 : Int32) : Int32 := (if x0 = 43 then (x1 + x2) else (if x0 = 45 then (x1 - x2) else (if x0 = 60 then (if x2 ≤ x1 then (0 : Int32) else (1 : Int32)) else (if x0 = 61 then (if x1 = x2 then (1 : Int32) else (0 : Int32)) else (if x0 = 62 then (if x1 ≤ x2 then (0 : Int32) else (1 : Int32)) else (if x0 = 208 then (if x1 = 0 then (0 : Int32) else (if x2 = 0 then (0 : Int32) else (1 : Int32))) else (if x1 = 0 then (if x2 = 0 then (0 : Int32) else (1 : Int32)) else (1 : Int32))))))))
set_option maxRecDepth 10000 in
theorem c_X4_join {d L sz : Nat} {T : tT} (hsz : 161 ≤ sz) (x0 : Int32) (x1 : Int32) (x2 : Int32) : tiK d mX4_join [.int x0, .int x1, .int x2] L sz T (fun r T' => r = v_X4_join T x0 x1 x2 ∧ T = T') := by
  refine k_X4_join hsz  x0 x1 x2 ?_
  refine ⟨fun kq0 => ?_, fun kq0 => ?_, fun kq0 => ?_, fun kq0 => ?_, fun kq0 => ?_, fun kq0 => ?_, fun kq0_0 kq0_1 kq0_2 kq0_3 kq0_4 kq0_5 => ?_⟩
  · exact ⟨by unfold v_X4_join; first | (rw [if_pos kq0]; done) | (rw [if_pos kq0]; rfl), rfl⟩
  · exact ⟨by unfold v_X4_join; first | (rw [if_neg (show ¬ x0 = 43 by rw [kq0]; decide), if_pos kq0]; done) | (rw [if_neg (show ¬ x0 = 43 by rw [kq0]; decide), if_pos kq0]; rfl), rfl⟩
  · refine ⟨fun kq3 => ?_, fun kq3 => ?_⟩
    · exact ⟨by unfold v_X4_join; first | (rw [if_neg (show ¬ x0 = 43 by rw [kq0]; decide), if_neg (show ¬ x0 = 45 by rw [kq0]; decide), if_pos kq0, if_pos kq3]; done) | (rw [if_neg (show ¬ x0 = 43 by rw [kq0]; decide), if_neg (show ¬ x0 = 45 by rw [kq0]; decide), if_pos kq0, if_pos kq3]; rfl), rfl⟩
    · exact ⟨by unfold v_X4_join; first | (rw [if_neg (show ¬ x0 = 43 by rw [kq0]; decide), if_neg (show ¬ x0 = 45 by rw [kq0]; decide), if_pos kq0, if_neg kq3]; done) | (rw [if_neg (show ¬ x0 = 43 by rw [kq0]; decide), if_neg (show ¬ x0 = 45 by rw [kq0]; decide), if_pos kq0, if_neg kq3]; rfl), rfl⟩
  · refine ⟨fun kq4 => ?_, fun kq4 => ?_⟩
    · exact ⟨by unfold v_X4_join; first | (rw [if_neg (show ¬ x0 = 43 by rw [kq0]; decide), if_neg (show ¬ x0 = 45 by rw [kq0]; decide), if_neg (show ¬ x0 = 60 by rw [kq0]; decide), if_pos kq0, if_neg kq4]; done) | (rw [if_neg (show ¬ x0 = 43 by rw [kq0]; decide), if_neg (show ¬ x0 = 45 by rw [kq0]; decide), if_neg (show ¬ x0 = 60 by rw [kq0]; decide), if_pos kq0, if_neg kq4]; rfl), rfl⟩
    · exact ⟨by unfold v_X4_join; first | (rw [if_neg (show ¬ x0 = 43 by rw [kq0]; decide), if_neg (show ¬ x0 = 45 by rw [kq0]; decide), if_neg (show ¬ x0 = 60 by rw [kq0]; decide), if_pos kq0, if_pos kq4]; done) | (rw [if_neg (show ¬ x0 = 43 by rw [kq0]; decide), if_neg (show ¬ x0 = 45 by rw [kq0]; decide), if_neg (show ¬ x0 = 60 by rw [kq0]; decide), if_pos kq0, if_pos kq4]; rfl), rfl⟩
  · refine ⟨fun kq5 => ?_, fun kq5 => ?_⟩
    · exact ⟨by unfold v_X4_join; first | (rw [if_neg (show ¬ x0 = 43 by rw [kq0]; decide), if_neg (show ¬ x0 = 45 by rw [kq0]; decide), if_neg (show ¬ x0 = 60 by rw [kq0]; decide), if_neg (show ¬ x0 = 61 by rw [kq0]; decide), if_pos kq0, if_pos kq5]; done) | (rw [if_neg (show ¬ x0 = 43 by rw [kq0]; decide), if_neg (show ¬ x0 = 45 by rw [kq0]; decide), if_neg (show ¬ x0 = 60 by rw [kq0]; decide), if_neg (show ¬ x0 = 61 by rw [kq0]; decide), if_pos kq0, if_pos kq5]; rfl), rfl⟩
    · exact ⟨by unfold v_X4_join; first | (rw [if_neg (show ¬ x0 = 43 by rw [kq0]; decide), if_neg (show ¬ x0 = 45 by rw [kq0]; decide), if_neg (show ¬ x0 = 60 by rw [kq0]; decide), if_neg (show ¬ x0 = 61 by rw [kq0]; decide), if_pos kq0, if_neg kq5]; done) | (rw [if_neg (show ¬ x0 = 43 by rw [kq0]; decide), if_neg (show ¬ x0 = 45 by rw [kq0]; decide), if_neg (show ¬ x0 = 60 by rw [kq0]; decide), if_neg (show ¬ x0 = 61 by rw [kq0]; decide), if_pos kq0, if_neg kq5]; rfl), rfl⟩
  · refine ⟨fun kq6 => ?_, fun kq6 => ?_⟩
    · exact ⟨by unfold v_X4_join; first | (rw [if_neg (show ¬ x0 = 43 by rw [kq0]; decide), if_neg (show ¬ x0 = 45 by rw [kq0]; decide), if_neg (show ¬ x0 = 60 by rw [kq0]; decide), if_neg (show ¬ x0 = 61 by rw [kq0]; decide), if_neg (show ¬ x0 = 62 by rw [kq0]; decide), if_pos kq0, if_pos kq6]; done) | (rw [if_neg (show ¬ x0 = 43 by rw [kq0]; decide), if_neg (show ¬ x0 = 45 by rw [kq0]; decide), if_neg (show ¬ x0 = 60 by rw [kq0]; decide), if_neg (show ¬ x0 = 61 by rw [kq0]; decide), if_neg (show ¬ x0 = 62 by rw [kq0]; decide), if_pos kq0, if_pos kq6]; rfl), rfl⟩
    · refine ⟨fun kq7 => ?_, fun kq7 => ?_⟩
      · exact ⟨by unfold v_X4_join; first | (rw [if_neg (show ¬ x0 = 43 by rw [kq0]; decide), if_neg (show ¬ x0 = 45 by rw [kq0]; decide), if_neg (show ¬ x0 = 60 by rw [kq0]; decide), if_neg (show ¬ x0 = 61 by rw [kq0]; decide), if_neg (show ¬ x0 = 62 by rw [kq0]; decide), if_pos kq0, if_neg kq6, if_pos kq7]; done) | (rw [if_neg (show ¬ x0 = 43 by rw [kq0]; decide), if_neg (show ¬ x0 = 45 by rw [kq0]; decide), if_neg (show ¬ x0 = 60 by rw [kq0]; decide), if_neg (show ¬ x0 = 61 by rw [kq0]; decide), if_neg (show ¬ x0 = 62 by rw [kq0]; decide), if_pos kq0, if_neg kq6, if_pos kq7]; rfl), rfl⟩
      · exact ⟨by unfold v_X4_join; first | (rw [if_neg (show ¬ x0 = 43 by rw [kq0]; decide), if_neg (show ¬ x0 = 45 by rw [kq0]; decide), if_neg (show ¬ x0 = 60 by rw [kq0]; decide), if_neg (show ¬ x0 = 61 by rw [kq0]; decide), if_neg (show ¬ x0 = 62 by rw [kq0]; decide), if_pos kq0, if_neg kq6, if_neg kq7]; done) | (rw [if_neg (show ¬ x0 = 43 by rw [kq0]; decide), if_neg (show ¬ x0 = 45 by rw [kq0]; decide), if_neg (show ¬ x0 = 60 by rw [kq0]; decide), if_neg (show ¬ x0 = 61 by rw [kq0]; decide), if_neg (show ¬ x0 = 62 by rw [kq0]; decide), if_pos kq0, if_neg kq6, if_neg kq7]; rfl), rfl⟩
  · refine ⟨fun kq6 => ?_, fun kq6 => ?_⟩
    · exact ⟨by unfold v_X4_join; first | (rw [if_neg kq0_0, if_neg kq0_1, if_neg kq0_2, if_neg kq0_3, if_neg kq0_4, if_neg kq0_5, if_neg kq6]; done) | (rw [if_neg kq0_0, if_neg kq0_1, if_neg kq0_2, if_neg kq0_3, if_neg kq0_4, if_neg kq0_5, if_neg kq6]; rfl), rfl⟩
    · refine ⟨fun kq7 => ?_, fun kq7 => ?_⟩
      · exact ⟨by unfold v_X4_join; first | (rw [if_neg kq0_0, if_neg kq0_1, if_neg kq0_2, if_neg kq0_3, if_neg kq0_4, if_neg kq0_5, if_pos kq6, if_pos kq7]; done) | (rw [if_neg kq0_0, if_neg kq0_1, if_neg kq0_2, if_neg kq0_3, if_neg kq0_4, if_neg kq0_5, if_pos kq6, if_pos kq7]; rfl), rfl⟩
      · exact ⟨by unfold v_X4_join; first | (rw [if_neg kq0_0, if_neg kq0_1, if_neg kq0_2, if_neg kq0_3, if_neg kq0_4, if_neg kq0_5, if_pos kq6, if_neg kq7]; done) | (rw [if_neg kq0_0, if_neg kq0_1, if_neg kq0_2, if_neg kq0_3, if_neg kq0_4, if_neg kq0_5, if_pos kq6, if_neg kq7]; rfl), rfl⟩
def F_X4_pop (T : tT)   : Int32 × tT := (if 0 < (T.1 66 2) then ((T.1 68 ((T.1 66 2) - (1 : Int32)).toNatClampNeg), (tI T 66 2 ((T.1 66 2) - (1 : Int32)))) else ((0 : Int32), T))
def ok_X4_pop (sz : Nat) (T : tT)   : Prop := ((0 < (T.1 66 2) → vp_in ((T.1 66 2) - (1 : Int32)) 150) ∧ (¬ 0 < (T.1 66 2) → True))
set_option maxRecDepth 10000 in
theorem c_X4_pop {d L sz : Nat} {T : tT} (hsz : 161 ≤ sz)  (ok : ok_X4_pop sz T) : tiK d mX4_pop [.ref 66] L sz T (fun r T' => r = (F_X4_pop T).1 ∧ T' = (F_X4_pop T).2) := by
  refine k_X4_pop hsz   ?_
  unfold ok_X4_pop at ok
  refine ⟨fun kq0 => ?_, fun kq0 => ?_⟩
  · replace ok := ok.1 kq0
    refine ⟨ok, ?_⟩
    exact ⟨by unfold F_X4_pop; first | (rw [if_pos kq0]; done) | (rw [if_pos kq0]; rfl), by unfold F_X4_pop; first | (rw [if_pos kq0]; done) | (rw [if_pos kq0]; rfl)⟩
  · replace ok := ok.2 kq0
    exact ⟨by unfold F_X4_pop; first | (rw [if_neg kq0]; done) | (rw [if_neg kq0]; rfl), by unfold F_X4_pop; first | (rw [if_neg kq0]; done) | (rw [if_neg kq0]; rfl)⟩
def F_X4_push (T : tT)  (x0 : Int32) : tT := (if (150 : Int32) ≤ (T.1 66 2) then T else (tI (tI T 68 ((T.1 66 2).toNatClampNeg) x0) 66 2 ((T.1 66 2) + (1 : Int32))))
def ok_X4_push (sz : Nat) (T : tT)  (x0 : Int32) : Prop := (((150 : Int32) ≤ (T.1 66 2) → True) ∧ (¬ (150 : Int32) ≤ (T.1 66 2) → vp_in (T.1 66 2) 150))
set_option maxRecDepth 10000 in
theorem c_X4_push {d L sz : Nat} {T : tT} (hsz : 161 ≤ sz) (x0 : Int32) (ok : ok_X4_push sz T x0) : tvK d mX4_push [.ref 66, .int x0] L sz T (fun T' => T' = F_X4_push T x0) := by
  refine k_X4_push hsz  x0 ?_
  unfold ok_X4_push at ok
  refine ⟨fun kq0 => ?_, fun kq0 => ?_⟩
  · replace ok := ok.1 kq0
    exact (by unfold F_X4_push; first | (rw [if_pos kq0]; done) | (rw [if_pos kq0]; rfl))
  · replace ok := ok.2 kq0
    refine ⟨ok, ?_⟩
    exact (by unfold F_X4_push; first | (rw [if_neg kq0]; done) | (rw [if_neg kq0]; rfl))
def v_X5_stands (T : tT)  (x0 : Int32) : Int32 := (if (T.1 99 (x0.toNatClampNeg)) = (-1 : Int32) then (1 : Int32) else (0 : Int32))
def ok_X5_stands (sz : Nat) (T : tT)  (x0 : Int32) : Prop := vp_in x0 200
set_option maxRecDepth 10000 in
theorem c_X5_stands {d L sz : Nat} {T : tT} (hsz : 161 ≤ sz) (x0 : Int32) (ok : ok_X5_stands sz T x0) : tiK d mX5_stands [.ref 93, .int x0] L sz T (fun r T' => r = v_X5_stands T x0 ∧ T = T') := by
  refine k_X5_stands hsz  x0 ?_
  unfold ok_X5_stands at ok
  refine ⟨ok, ?_⟩
  refine ⟨fun kq0 => ?_, fun kq0 => ?_⟩
  · exact ⟨by unfold v_X5_stands; first | (rw [if_neg kq0]; done) | (rw [if_neg kq0]; rfl), rfl⟩
  · exact ⟨by unfold v_X5_stands; first | (rw [if_pos kq0]; done) | (rw [if_pos kq0]; rfl), rfl⟩
def F_X5_takeBack (T : tT)  (x0 : Int32) : Int32 × tT := (if x0 < 0 then ((0 : Int32), T) else (if (T.1 93 1) ≤ x0 then ((0 : Int32), T) else (if (v_X5_stands T x0) = 0 then ((0 : Int32), T) else ((1 : Int32), (tI T 99 (x0.toNatClampNeg) (T.1 93 0))))))
def ok_X5_takeBack (sz : Nat) (T : tT)  (x0 : Int32) : Prop := ((x0 < 0 → True) ∧ (¬ x0 < 0 → (((T.1 93 1) ≤ x0 → True) ∧ (¬ (T.1 93 1) ≤ x0 → (ok_X5_stands sz T x0 ∧ ((¬ (v_X5_stands T x0) = 0 → vp_in x0 200) ∧ ((v_X5_stands T x0) = 0 → True)))))))
set_option maxRecDepth 10000 in
theorem c_X5_takeBack {d L sz : Nat} {T : tT} (hsz : 161 ≤ sz) (x0 : Int32) (ok : ok_X5_takeBack sz T x0) : tiK (d + 1) mX5_takeBack [.ref 93, .int x0] L sz T (fun r T' => r = (F_X5_takeBack T x0).1 ∧ T' = (F_X5_takeBack T x0).2) := by
  refine k_X5_takeBack hsz  x0 ?_
  unfold ok_X5_takeBack at ok
  refine ⟨fun kq0 => ?_, fun kq0 => ?_⟩
  · replace ok := ok.1 kq0
    exact ⟨by unfold F_X5_takeBack; first | (rw [if_pos kq0]; done) | (rw [if_pos kq0]; rfl), by unfold F_X5_takeBack; first | (rw [if_pos kq0]; done) | (rw [if_pos kq0]; rfl)⟩
  · replace ok := ok.2 kq0
    refine ⟨fun kq1 => ?_, fun kq1 => ?_⟩
    · replace ok := ok.1 kq1
      exact ⟨by unfold F_X5_takeBack; first | (rw [if_neg kq0, if_pos kq1]; done) | (rw [if_neg kq0, if_pos kq1]; rfl), by unfold F_X5_takeBack; first | (rw [if_neg kq0, if_pos kq1]; done) | (rw [if_neg kq0, if_pos kq1]; rfl)⟩
    · replace ok := ok.2 kq1
      refine ⟨_, c_X5_stands hsz  x0 ok.1, ?_⟩
      rintro _ _ ⟨rfl, rfl⟩
      replace ok := ok.2
      refine ⟨fun kq2 => ?_, fun kq2 => ?_⟩
      · replace ok := ok.1 kq2
        refine ⟨ok, ?_⟩
        exact ⟨by unfold F_X5_takeBack; first | (rw [if_neg kq0, if_neg kq1, if_neg kq2]; done) | (rw [if_neg kq0, if_neg kq1, if_neg kq2]; rfl), by unfold F_X5_takeBack; first | (rw [if_neg kq0, if_neg kq1, if_neg kq2]; done) | (rw [if_neg kq0, if_neg kq1, if_neg kq2]; rfl)⟩
      · replace ok := ok.2 kq2
        exact ⟨by unfold F_X5_takeBack; first | (rw [if_neg kq0, if_neg kq1, if_pos kq2]; done) | (rw [if_neg kq0, if_neg kq1, if_pos kq2]; rfl), by unfold F_X5_takeBack; first | (rw [if_neg kq0, if_neg kq1, if_pos kq2]; done) | (rw [if_neg kq0, if_neg kq1, if_pos kq2]; rfl)⟩
def F_X5_tell (T : tT)  (x0 : Int32) (x1 : Int32) (x2 : Int32) (x3 : Int32) : Int32 × tT := (if (T.1 93 1) < (200 : Int32) then ((((T.1 93 1) + (1 : Int32)) - (1 : Int32)), (tI (tI (tI (tI (tI (tI (tI T 94 ((T.1 93 1).toNatClampNeg) x1) 95 ((T.1 93 1).toNatClampNeg) x0) 96 ((T.1 93 1).toNatClampNeg) x2) 97 ((T.1 93 1).toNatClampNeg) x3) 98 ((T.1 93 1).toNatClampNeg) (T.1 93 0)) 99 ((T.1 93 1).toNatClampNeg) (-1 : Int32)) 93 1 ((T.1 93 1) + (1 : Int32)))) else ((-1 : Int32), T))
def ok_X5_tell (sz : Nat) (T : tT)  (x0 : Int32) (x1 : Int32) (x2 : Int32) (x3 : Int32) : Prop := (((T.1 93 1) < (200 : Int32) → (vp_in (T.1 93 1) 200 ∧ (vp_in (T.1 93 1) 200 ∧ (vp_in (T.1 93 1) 200 ∧ (vp_in (T.1 93 1) 200 ∧ (vp_in (T.1 93 1) 200 ∧ vp_in (T.1 93 1) 200)))))) ∧ (¬ (T.1 93 1) < (200 : Int32) → True))
set_option maxRecDepth 10000 in
theorem c_X5_tell {d L sz : Nat} {T : tT} (hsz : 161 ≤ sz) (x0 : Int32) (x1 : Int32) (x2 : Int32) (x3 : Int32) (ok : ok_X5_tell sz T x0 x1 x2 x3) : tiK d mX5_tell [.ref 93, .int x0, .int x1, .int x2, .int x3] L sz T (fun r T' => r = (F_X5_tell T x0 x1 x2 x3).1 ∧ T' = (F_X5_tell T x0 x1 x2 x3).2) := by
  refine k_X5_tell hsz  x0 x1 x2 x3 ?_
  unfold ok_X5_tell at ok
  refine ⟨fun kq0 => ?_, fun kq0 => ?_⟩
  · replace ok := ok.1 kq0
    refine ⟨ok.1, ?_⟩
    replace ok := ok.2
    refine ⟨ok.1, ?_⟩
    replace ok := ok.2
    refine ⟨ok.1, ?_⟩
    replace ok := ok.2
    refine ⟨ok.1, ?_⟩
    replace ok := ok.2
    refine ⟨ok.1, ?_⟩
    replace ok := ok.2
    refine ⟨ok, ?_⟩
    exact ⟨by unfold F_X5_tell; first | (rw [if_pos kq0]; done) | (rw [if_pos kq0]; rfl), by unfold F_X5_tell; first | (rw [if_pos kq0]; done) | (rw [if_pos kq0]; rfl)⟩
  · replace ok := ok.2 kq0
    exact ⟨by unfold F_X5_tell; first | (rw [if_neg kq0]; done) | (rw [if_neg kq0]; rfl), by unfold F_X5_tell; first | (rw [if_neg kq0]; done) | (rw [if_neg kq0]; rfl)⟩
def v_X6_cannotStartItem (T : tT) (q : Nat)  : Int32 := (if (T.1 4 2) = 201 then (if (T.1 q 1) < (6 : Int32) then (0 : Int32) else (1 : Int32)) else (if (T.1 4 2) = 202 then (if (T.1 q 2) < (6 : Int32) then (0 : Int32) else (1 : Int32)) else (if (T.1 4 2) = 203 then (if (T.1 q 4) = 0 then (0 : Int32) else (1 : Int32)) else (if (T.1 4 2) = 204 then (if (T.1 q 3) < (8 : Int32) then (0 : Int32) else (1 : Int32)) else (if (T.1 4 2) = 205 then (if (T.1 q 5) = (-1 : Int32) then (0 : Int32) else (1 : Int32)) else (if (T.1 4 2) = 206 then (if (T.1 q 6) = (-1 : Int32) then (0 : Int32) else (1 : Int32)) else (1 : Int32)))))))
set_option maxRecDepth 10000 in
theorem c_X6_cannotStartItem {d L sz : Nat} {T : tT} (hsz : 161 ≤ sz) {q : Nat} (h_q : tgr sz q)  : tiK d mX6_cannotStartItem [.ref 3, .ref q] L sz T (fun r T' => r = v_X6_cannotStartItem T q ∧ T = T') := by
  refine k_X6_cannotStartItem hsz h_q  ?_
  refine ⟨fun kq0 => ?_, fun kq0 => ?_, fun kq0 => ?_, fun kq0 => ?_, fun kq0 => ?_, fun kq0 => ?_, fun kq0_0 kq0_1 kq0_2 kq0_3 kq0_4 kq0_5 => ?_⟩
  · refine ⟨fun kq1 => ?_, fun kq1 => ?_⟩
    · exact ⟨by unfold v_X6_cannotStartItem; first | (rw [if_pos kq0, if_pos kq1]; done) | (rw [if_pos kq0, if_pos kq1]; rfl), rfl⟩
    · exact ⟨by unfold v_X6_cannotStartItem; first | (rw [if_pos kq0, if_neg kq1]; done) | (rw [if_pos kq0, if_neg kq1]; rfl), rfl⟩
  · refine ⟨fun kq2 => ?_, fun kq2 => ?_⟩
    · exact ⟨by unfold v_X6_cannotStartItem; first | (rw [if_neg (show ¬ (T.1 4 2) = 201 by rw [kq0]; decide), if_pos kq0, if_pos kq2]; done) | (rw [if_neg (show ¬ (T.1 4 2) = 201 by rw [kq0]; decide), if_pos kq0, if_pos kq2]; rfl), rfl⟩
    · exact ⟨by unfold v_X6_cannotStartItem; first | (rw [if_neg (show ¬ (T.1 4 2) = 201 by rw [kq0]; decide), if_pos kq0, if_neg kq2]; done) | (rw [if_neg (show ¬ (T.1 4 2) = 201 by rw [kq0]; decide), if_pos kq0, if_neg kq2]; rfl), rfl⟩
  · refine ⟨fun kq3 => ?_, fun kq3 => ?_⟩
    · exact ⟨by unfold v_X6_cannotStartItem; first | (rw [if_neg (show ¬ (T.1 4 2) = 201 by rw [kq0]; decide), if_neg (show ¬ (T.1 4 2) = 202 by rw [kq0]; decide), if_pos kq0, if_pos kq3]; done) | (rw [if_neg (show ¬ (T.1 4 2) = 201 by rw [kq0]; decide), if_neg (show ¬ (T.1 4 2) = 202 by rw [kq0]; decide), if_pos kq0, if_pos kq3]; rfl), rfl⟩
    · exact ⟨by unfold v_X6_cannotStartItem; first | (rw [if_neg (show ¬ (T.1 4 2) = 201 by rw [kq0]; decide), if_neg (show ¬ (T.1 4 2) = 202 by rw [kq0]; decide), if_pos kq0, if_neg kq3]; done) | (rw [if_neg (show ¬ (T.1 4 2) = 201 by rw [kq0]; decide), if_neg (show ¬ (T.1 4 2) = 202 by rw [kq0]; decide), if_pos kq0, if_neg kq3]; rfl), rfl⟩
  · refine ⟨fun kq4 => ?_, fun kq4 => ?_⟩
    · exact ⟨by unfold v_X6_cannotStartItem; first | (rw [if_neg (show ¬ (T.1 4 2) = 201 by rw [kq0]; decide), if_neg (show ¬ (T.1 4 2) = 202 by rw [kq0]; decide), if_neg (show ¬ (T.1 4 2) = 203 by rw [kq0]; decide), if_pos kq0, if_pos kq4]; done) | (rw [if_neg (show ¬ (T.1 4 2) = 201 by rw [kq0]; decide), if_neg (show ¬ (T.1 4 2) = 202 by rw [kq0]; decide), if_neg (show ¬ (T.1 4 2) = 203 by rw [kq0]; decide), if_pos kq0, if_pos kq4]; rfl), rfl⟩
    · exact ⟨by unfold v_X6_cannotStartItem; first | (rw [if_neg (show ¬ (T.1 4 2) = 201 by rw [kq0]; decide), if_neg (show ¬ (T.1 4 2) = 202 by rw [kq0]; decide), if_neg (show ¬ (T.1 4 2) = 203 by rw [kq0]; decide), if_pos kq0, if_neg kq4]; done) | (rw [if_neg (show ¬ (T.1 4 2) = 201 by rw [kq0]; decide), if_neg (show ¬ (T.1 4 2) = 202 by rw [kq0]; decide), if_neg (show ¬ (T.1 4 2) = 203 by rw [kq0]; decide), if_pos kq0, if_neg kq4]; rfl), rfl⟩
  · refine ⟨fun kq5 => ?_, fun kq5 => ?_⟩
    · exact ⟨by unfold v_X6_cannotStartItem; first | (rw [if_neg (show ¬ (T.1 4 2) = 201 by rw [kq0]; decide), if_neg (show ¬ (T.1 4 2) = 202 by rw [kq0]; decide), if_neg (show ¬ (T.1 4 2) = 203 by rw [kq0]; decide), if_neg (show ¬ (T.1 4 2) = 204 by rw [kq0]; decide), if_pos kq0, if_pos kq5]; done) | (rw [if_neg (show ¬ (T.1 4 2) = 201 by rw [kq0]; decide), if_neg (show ¬ (T.1 4 2) = 202 by rw [kq0]; decide), if_neg (show ¬ (T.1 4 2) = 203 by rw [kq0]; decide), if_neg (show ¬ (T.1 4 2) = 204 by rw [kq0]; decide), if_pos kq0, if_pos kq5]; rfl), rfl⟩
    · exact ⟨by unfold v_X6_cannotStartItem; first | (rw [if_neg (show ¬ (T.1 4 2) = 201 by rw [kq0]; decide), if_neg (show ¬ (T.1 4 2) = 202 by rw [kq0]; decide), if_neg (show ¬ (T.1 4 2) = 203 by rw [kq0]; decide), if_neg (show ¬ (T.1 4 2) = 204 by rw [kq0]; decide), if_pos kq0, if_neg kq5]; done) | (rw [if_neg (show ¬ (T.1 4 2) = 201 by rw [kq0]; decide), if_neg (show ¬ (T.1 4 2) = 202 by rw [kq0]; decide), if_neg (show ¬ (T.1 4 2) = 203 by rw [kq0]; decide), if_neg (show ¬ (T.1 4 2) = 204 by rw [kq0]; decide), if_pos kq0, if_neg kq5]; rfl), rfl⟩
  · refine ⟨fun kq6 => ?_, fun kq6 => ?_⟩
    · exact ⟨by unfold v_X6_cannotStartItem; first | (rw [if_neg (show ¬ (T.1 4 2) = 201 by rw [kq0]; decide), if_neg (show ¬ (T.1 4 2) = 202 by rw [kq0]; decide), if_neg (show ¬ (T.1 4 2) = 203 by rw [kq0]; decide), if_neg (show ¬ (T.1 4 2) = 204 by rw [kq0]; decide), if_neg (show ¬ (T.1 4 2) = 205 by rw [kq0]; decide), if_pos kq0, if_pos kq6]; done) | (rw [if_neg (show ¬ (T.1 4 2) = 201 by rw [kq0]; decide), if_neg (show ¬ (T.1 4 2) = 202 by rw [kq0]; decide), if_neg (show ¬ (T.1 4 2) = 203 by rw [kq0]; decide), if_neg (show ¬ (T.1 4 2) = 204 by rw [kq0]; decide), if_neg (show ¬ (T.1 4 2) = 205 by rw [kq0]; decide), if_pos kq0, if_pos kq6]; rfl), rfl⟩
    · exact ⟨by unfold v_X6_cannotStartItem; first | (rw [if_neg (show ¬ (T.1 4 2) = 201 by rw [kq0]; decide), if_neg (show ¬ (T.1 4 2) = 202 by rw [kq0]; decide), if_neg (show ¬ (T.1 4 2) = 203 by rw [kq0]; decide), if_neg (show ¬ (T.1 4 2) = 204 by rw [kq0]; decide), if_neg (show ¬ (T.1 4 2) = 205 by rw [kq0]; decide), if_pos kq0, if_neg kq6]; done) | (rw [if_neg (show ¬ (T.1 4 2) = 201 by rw [kq0]; decide), if_neg (show ¬ (T.1 4 2) = 202 by rw [kq0]; decide), if_neg (show ¬ (T.1 4 2) = 203 by rw [kq0]; decide), if_neg (show ¬ (T.1 4 2) = 204 by rw [kq0]; decide), if_neg (show ¬ (T.1 4 2) = 205 by rw [kq0]; decide), if_pos kq0, if_neg kq6]; rfl), rfl⟩
  · exact ⟨by unfold v_X6_cannotStartItem; first | (rw [if_neg kq0_0, if_neg kq0_1, if_neg kq0_2, if_neg kq0_3, if_neg kq0_4, if_neg kq0_5]; done) | (rw [if_neg kq0_0, if_neg kq0_1, if_neg kq0_2, if_neg kq0_3, if_neg kq0_4, if_neg kq0_5]; rfl), rfl⟩
def F_X6_fail (T : tT)  (x0 : Int32) (x1 : Int32) : tT := (if (T.1 3 1) = 0 then (tI (tI T 3 1 x0) 3 2 x1) else T)
set_option maxRecDepth 10000 in
theorem c_X6_fail {d L sz : Nat} {T : tT} (hsz : 161 ≤ sz) (x0 : Int32) (x1 : Int32) : tvK d mX6_fail [.ref 3, .int x0, .int x1] L sz T (fun T' => T' = F_X6_fail T x0 x1) := by
  refine k_X6_fail hsz  x0 x1 ?_
  refine ⟨fun kq0 => ?_, fun kq0 => ?_⟩
  · exact (by unfold F_X6_fail; first | (rw [if_neg kq0]; done) | (rw [if_neg kq0]; rfl))
  · exact (by unfold F_X6_fail; first | (rw [if_pos kq0]; done) | (rw [if_pos kq0]; rfl))
def v_X6_isLeaf (T : tT)  (x0 : Int32) : Int32 := (if x0 = (2 : Int32) then (1 : Int32) else (if x0 = (3 : Int32) then (1 : Int32) else (if x0 < (210 : Int32) then (0 : Int32) else (if (214 : Int32) < x0 then (0 : Int32) else (1 : Int32)))))
set_option maxRecDepth 10000 in
theorem c_X6_isLeaf {d L sz : Nat} {T : tT} (hsz : 161 ≤ sz) (x0 : Int32) : tiK d mX6_isLeaf [.int x0] L sz T (fun r T' => r = v_X6_isLeaf T x0 ∧ T = T') := by
  refine k_X6_isLeaf hsz  x0 ?_
  refine ⟨fun kq0 => ?_, fun kq0 => ?_⟩
  · exact ⟨by unfold v_X6_isLeaf; first | (rw [if_pos kq0]; done) | (rw [if_pos kq0]; rfl), rfl⟩
  · refine ⟨fun kq1 => ?_, fun kq1 => ?_⟩
    · exact ⟨by unfold v_X6_isLeaf; first | (rw [if_neg kq0, if_pos kq1]; done) | (rw [if_neg kq0, if_pos kq1]; rfl), rfl⟩
    · refine ⟨fun kq2 => ?_, fun kq2 => ?_⟩
      · exact ⟨by unfold v_X6_isLeaf; first | (rw [if_neg kq0, if_neg kq1, if_pos kq2]; done) | (rw [if_neg kq0, if_neg kq1, if_pos kq2]; rfl), rfl⟩
      · refine ⟨fun kq3 => ?_, fun kq3 => ?_⟩
        · exact ⟨by unfold v_X6_isLeaf; first | (rw [if_neg kq0, if_neg kq1, if_neg kq2, if_pos kq3]; done) | (rw [if_neg kq0, if_neg kq1, if_neg kq2, if_pos kq3]; rfl), rfl⟩
        · exact ⟨by unfold v_X6_isLeaf; first | (rw [if_neg kq0, if_neg kq1, if_neg kq2, if_neg kq3]; done) | (rw [if_neg kq0, if_neg kq1, if_neg kq2, if_neg kq3]; rfl), rfl⟩
def F_X6_refuse (T : tT)   : tT := (if (T.1 4 2) = (1 : Int32) then (F_X6_fail T (1 : Int32) (T.1 4 3)) else (F_X6_fail T (2 : Int32) (T.1 4 3)))
set_option maxRecDepth 10000 in
theorem c_X6_refuse {d L sz : Nat} {T : tT} (hsz : 161 ≤ sz)  : tvK (d + 1) mX6_refuse [.ref 3] L sz T (fun T' => T' = F_X6_refuse T) := by
  refine k_X6_refuse hsz   ?_
  refine ⟨fun kq0 => ?_, fun kq0 => ?_⟩
  · refine ⟨_, c_X6_fail hsz  (2 : Int32) (T.1 4 3) , ?_⟩
    rintro _ rfl
    exact (by unfold F_X6_refuse; first | (rw [if_neg kq0]; done) | (rw [if_neg kq0]; rfl))
  · refine ⟨_, c_X6_fail hsz  (1 : Int32) (T.1 4 3) , ?_⟩
    rintro _ rfl
    exact (by unfold F_X6_refuse; first | (rw [if_pos kq0]; done) | (rw [if_pos kq0]; rfl))
def F_X7_allow (T : tT)  (x0 : Int32) (x1 : Int32) (x2 : Int32) : tT := (tI T 87 (((x1 * (5 : Int32)) + x0).toNatClampNeg) (x2 &&& 1))
def ok_X7_allow (sz : Nat) (T : tT)  (x0 : Int32) (x1 : Int32) (x2 : Int32) : Prop := vp_in ((x1 * (5 : Int32)) + x0) 45
set_option maxRecDepth 10000 in
theorem c_X7_allow {d L sz : Nat} {T : tT} (hsz : 161 ≤ sz) (x0 : Int32) (x1 : Int32) (x2 : Int32) (ok : ok_X7_allow sz T x0 x1 x2) : tvK d mX7_allow [.ref 85, .int x0, .int x1, .int x2] L sz T (fun T' => T' = F_X7_allow T x0 x1 x2) := by
  refine k_X7_allow hsz  x0 x1 x2 ?_
  unfold ok_X7_allow at ok
  refine ⟨ok, ?_⟩
  exact (by unfold F_X7_allow; rfl)
def v_X7_costOf (T : tT)  (x1 : Int32) (x2 : Int32) : Int64 := ((((2 : Int64) * (v_X1_minutesBetween T (T.1 80 (x1.toNatClampNeg)) (T.1 82 (x2.toNatClampNeg))).toInt64) <<< ((27 : Int32).toInt64 &&& 63)) + (x1.toInt64 <<< (((3 : Int32) * ((8 : Int32) - x2)).toInt64 &&& 63)))
def ok_X7_costOf (sz : Nat) (T : tT)  (x1 : Int32) (x2 : Int32) : Prop := (vp_in x1 5 ∧ (vp_in x2 9 ∧ (ok_X1_minutesBetween sz T (T.1 80 (x1.toNatClampNeg)) (T.1 82 (x2.toNatClampNeg)) ∧ True)))
set_option maxRecDepth 10000 in
theorem c_X7_costOf {d L sz : Nat} {T : tT} (hsz : 161 ≤ sz) (x1 : Int32) (x2 : Int32) (ok : ok_X7_costOf sz T x1 x2) : tlK (d + 1) mX7_costOf [.ref 79, .int x1, .int x2] L sz T (fun r T' => r = v_X7_costOf T x1 x2 ∧ T = T') := by
  refine k_X7_costOf hsz  x1 x2 ?_
  unfold ok_X7_costOf at ok
  refine ⟨ok.1, ?_⟩
  replace ok := ok.2
  refine ⟨ok.1, ?_⟩
  replace ok := ok.2
  refine ⟨_, c_X1_minutesBetween hsz  (T.1 80 (x1.toNatClampNeg)) (T.1 82 (x2.toNatClampNeg)) ok.1, ?_⟩
  rintro _ _ ⟨rfl, rfl⟩
  replace ok := ok.2
  exact ⟨by unfold v_X7_costOf; rfl, rfl⟩
def v_X7_placeOf (T : tT)  (x0 : Int32) (x1 : Int32) : Int32 := ((x0 >>> (((4 : Int32) * x1) &&& 31)) &&& (15 : Int32))
set_option maxRecDepth 10000 in
theorem c_X7_placeOf {d L sz : Nat} {T : tT} (hsz : 161 ≤ sz) (x0 : Int32) (x1 : Int32) : tiK d mX7_placeOf [.int x0, .int x1] L sz T (fun r T' => r = v_X7_placeOf T x0 x1 ∧ T = T') := by
  refine k_X7_placeOf hsz  x0 x1 ?_
  exact ⟨by unfold v_X7_placeOf; rfl, rfl⟩
def F_X8_addCell (T : tT) (p : Nat) (x0 : Int32) (x1 : Int32) : tT := (if (750 : Int32) ≤ (T.1 p 3) then T else (tI (tI T (p + 2) ((T.1 p 3).toNatClampNeg) ((x0 <<< ((20 : Int32) &&& 31)) ||| x1)) p 3 (((tI T (p + 2) ((T.1 p 3).toNatClampNeg) ((x0 <<< ((20 : Int32) &&& 31)) ||| x1)).1 p 3) + (1 : Int32))))
def ok_X8_addCell (sz : Nat) (T : tT) (p : Nat) (x0 : Int32) (x1 : Int32) : Prop := (((750 : Int32) ≤ (T.1 p 3) → True) ∧ (¬ (750 : Int32) ≤ (T.1 p 3) → vp_in (T.1 p 3) 750))
set_option maxRecDepth 10000 in
theorem c_X8_addCell {d L sz : Nat} {T : tT} (hsz : 161 ≤ sz) {p : Nat} (h_p : tsy sz p) (x0 : Int32) (x1 : Int32) (ok : ok_X8_addCell sz T p x0 x1) : tvK d mX8_addCell [.ref p, .int x0, .int x1] L sz T (fun T' => T' = F_X8_addCell T p x0 x1) := by
  refine k_X8_addCell hsz h_p x0 x1 ?_
  unfold ok_X8_addCell at ok
  refine ⟨fun kq0 => ?_, fun kq0 => ?_⟩
  · replace ok := ok.1 kq0
    exact (by unfold F_X8_addCell; first | (rw [if_pos kq0]; done) | (rw [if_pos kq0]; rfl))
  · replace ok := ok.2 kq0
    refine ⟨ok, ?_⟩
    exact (by unfold F_X8_addCell; first | (rw [if_neg kq0]; done) | (rw [if_neg kq0]; rfl))
def v_X8_find (T : tT) (p : Nat) (x0 : Int32) : Option Nat := (if x0 < (1 : Int32) then none else (if (8 : Int32) < x0 then none else (match (T.2.2 (p + 1) (x0 - (1 : Int32)).toNatClampNeg) with | none => none | some p1 => (if (T.1 p1 0) = 0 then none else (some p1)))))
def ok_X8_find (sz : Nat) (T : tT) (p : Nat) (x0 : Int32) : Prop := ((x0 < (1 : Int32) → True) ∧ (¬ x0 < (1 : Int32) → (((8 : Int32) < x0 → True) ∧ (¬ (8 : Int32) < x0 → (vp_in (x0 - (1 : Int32)) 8 ∧ (((T.2.2 (p + 1) (x0 - (1 : Int32)).toNatClampNeg) = none → False) ∧ (∀ p1, (T.2.2 (p + 1) (x0 - (1 : Int32)).toNatClampNeg) = some p1 → tgr sz p1 ∧ (((T.1 p1 0) = 0 → True) ∧ (¬ (T.1 p1 0) = 0 → vp_in (x0 - (1 : Int32)) 8)))))))))
set_option maxRecDepth 10000 in
theorem c_X8_find {d L sz : Nat} {T : tT} (hsz : 161 ≤ sz) {p : Nat} (h_p : tsy sz p) (x0 : Int32) (ok : ok_X8_find sz T p x0) : toK d mX8_find [.ref p, .int x0] L sz T (fun r T' => r = v_X8_find T p x0 ∧ T = T') := by
  refine k_X8_find hsz h_p x0 ?_
  unfold ok_X8_find at ok
  refine ⟨fun kq0 => ?_, fun kq0 => ?_⟩
  · replace ok := ok.1 kq0
    exact ⟨by unfold v_X8_find; first | (rw [if_pos kq0]; done) | (rw [if_pos kq0]; rfl), rfl⟩
  · replace ok := ok.2 kq0
    refine ⟨fun kq1 => ?_, fun kq1 => ?_⟩
    · replace ok := ok.1 kq1
      exact ⟨by unfold v_X8_find; first | (rw [if_neg kq0, if_pos kq1]; done) | (rw [if_neg kq0, if_pos kq1]; rfl), rfl⟩
    · replace ok := ok.2 kq1
      refine ⟨ok.1, ?_⟩
      replace ok := ok.2
      refine ⟨fun kq2 => ?_, fun p1 kq2 => ?_⟩
      · replace ok := ok.1 kq2
        exact ok.elim
      · obtain ⟨h_p1, ok⟩ := ok.2 p1 kq2
        refine ⟨h_p1, ?_⟩
        refine ⟨fun kq3 => ?_, fun kq3 => ?_⟩
        · replace ok := ok.1 kq3
          exact ⟨by unfold v_X8_find; first | (simp only [if_neg kq0, if_neg kq1, kq2, if_pos kq3]; done) | (simp only [if_neg kq0, if_neg kq1, kq2, if_pos kq3]; rfl), rfl⟩
        · replace ok := ok.2 kq3
          refine ⟨ok, ?_⟩
          exact ⟨by unfold v_X8_find; first | (simp only [if_neg kq0, if_neg kq1, kq2, if_neg kq3]; done) | (simp only [if_neg kq0, if_neg kq1, kq2, if_neg kq3]; rfl), rfl⟩
def F_X8_open (T : tT) (p : Nat) (x0 : Int32) : Option Nat × tT := (if x0 < (1 : Int32) then (none, T) else (if x0 ≤ (8 : Int32) then (match (T.2.2 (p + 1) (x0 - (1 : Int32)).toNatClampNeg) with | none => (none, T) | some p1 => ((some p1), (tI (tI T p1 0 (1 : Int32)) p 2 (((tI T p1 0 (1 : Int32)).1 p 2) + (1 : Int32))))) else (none, T)))
def ok_X8_open (sz : Nat) (T : tT) (p : Nat) (x0 : Int32) : Prop := ((x0 < (1 : Int32) → True) ∧ (¬ x0 < (1 : Int32) → ((x0 ≤ (8 : Int32) → (vp_in (x0 - (1 : Int32)) 8 ∧ (((T.2.2 (p + 1) (x0 - (1 : Int32)).toNatClampNeg) = none → False) ∧ (∀ p1, (T.2.2 (p + 1) (x0 - (1 : Int32)).toNatClampNeg) = some p1 → tgr sz p1 ∧ vp_in (x0 - (1 : Int32)) 8)))) ∧ (¬ x0 ≤ (8 : Int32) → True))))
set_option maxRecDepth 10000 in
theorem c_X8_open {d L sz : Nat} {T : tT} (hsz : 161 ≤ sz) {p : Nat} (h_p : tsy sz p) (x0 : Int32) (ok : ok_X8_open sz T p x0) : toK d mX8_open [.ref p, .int x0] L sz T (fun r T' => r = (F_X8_open T p x0).1 ∧ T' = (F_X8_open T p x0).2) := by
  refine k_X8_open hsz h_p x0 ?_
  unfold ok_X8_open at ok
  refine ⟨fun kq0 => ?_, fun kq0 => ?_⟩
  · replace ok := ok.1 kq0
    exact ⟨by unfold F_X8_open; first | (rw [if_pos kq0]; done) | (rw [if_pos kq0]; rfl), by unfold F_X8_open; first | (rw [if_pos kq0]; done) | (rw [if_pos kq0]; rfl)⟩
  · replace ok := ok.2 kq0
    refine ⟨fun kq1 => ?_, fun kq1 => ?_⟩
    · replace ok := ok.1 kq1
      refine ⟨ok.1, ?_⟩
      replace ok := ok.2
      refine ⟨fun kq2 => ?_, fun p1 kq2 => ?_⟩
      · replace ok := ok.1 kq2
        exact ok.elim
      · obtain ⟨h_p1, ok⟩ := ok.2 p1 kq2
        refine ⟨h_p1, ?_⟩
        refine ⟨ok, ?_⟩
        exact ⟨by unfold F_X8_open; first | (simp only [if_neg kq0, if_pos kq1, kq2]; done) | (simp only [if_neg kq0, if_pos kq1, kq2]; rfl), by unfold F_X8_open; first | (simp only [if_neg kq0, if_pos kq1, kq2]; done) | (simp only [if_neg kq0, if_pos kq1, kq2]; rfl)⟩
    · replace ok := ok.2 kq1
      exact ⟨by unfold F_X8_open; first | (rw [if_neg kq0, if_neg kq1]; done) | (rw [if_neg kq0, if_neg kq1]; rfl), by unfold F_X8_open; first | (rw [if_neg kq0, if_neg kq1]; done) | (rw [if_neg kq0, if_neg kq1]; rfl)⟩
def v_X9_byteAt (T : tT)  (x0 : Int32) : Int32 := (if x0 < 0 then (-1 : Int32) else (if (T.1 4 1) ≤ x0 then (-1 : Int32) else (if (1400 : Int32) ≤ x0 then (-1 : Int32) else ((T.1 5 (x0.toNatClampNeg)) &&& (255 : Int32)))))
def ok_X9_byteAt (sz : Nat) (T : tT)  (x0 : Int32) : Prop := ((x0 < 0 → True) ∧ (¬ x0 < 0 → (((T.1 4 1) ≤ x0 → True) ∧ (¬ (T.1 4 1) ≤ x0 → (((1400 : Int32) ≤ x0 → True) ∧ (¬ (1400 : Int32) ≤ x0 → vp_in x0 1400))))))
set_option maxRecDepth 10000 in
theorem c_X9_byteAt {d L sz : Nat} {T : tT} (hsz : 161 ≤ sz) (x0 : Int32) (ok : ok_X9_byteAt sz T x0) : tiK d mX9_byteAt [.ref 4, .int x0] L sz T (fun r T' => r = v_X9_byteAt T x0 ∧ T = T') := by
  refine k_X9_byteAt hsz  x0 ?_
  unfold ok_X9_byteAt at ok
  refine ⟨fun kq0 => ?_, fun kq0 => ?_⟩
  · replace ok := ok.1 kq0
    exact ⟨by unfold v_X9_byteAt; first | (rw [if_pos kq0]; done) | (rw [if_pos kq0]; rfl), rfl⟩
  · replace ok := ok.2 kq0
    refine ⟨fun kq1 => ?_, fun kq1 => ?_⟩
    · replace ok := ok.1 kq1
      exact ⟨by unfold v_X9_byteAt; first | (rw [if_neg kq0, if_pos kq1]; done) | (rw [if_neg kq0, if_pos kq1]; rfl), rfl⟩
    · replace ok := ok.2 kq1
      refine ⟨fun kq2 => ?_, fun kq2 => ?_⟩
      · replace ok := ok.1 kq2
        exact ⟨by unfold v_X9_byteAt; first | (rw [if_neg kq0, if_neg kq1, if_pos kq2]; done) | (rw [if_neg kq0, if_neg kq1, if_pos kq2]; rfl), rfl⟩
      · replace ok := ok.2 kq2
        refine ⟨ok, ?_⟩
        exact ⟨by unfold v_X9_byteAt; first | (rw [if_neg kq0, if_neg kq1, if_neg kq2]; done) | (rw [if_neg kq0, if_neg kq1, if_neg kq2]; rfl), rfl⟩
def v_X9_isBlank (T : tT)  (x0 : Int32) : Int32 := (if x0 = (32 : Int32) then (1 : Int32) else (if x0 = (10 : Int32) then (1 : Int32) else (0 : Int32)))
set_option maxRecDepth 10000 in
theorem c_X9_isBlank {d L sz : Nat} {T : tT} (hsz : 161 ≤ sz) (x0 : Int32) : tiK d mX9_isBlank [.int x0] L sz T (fun r T' => r = v_X9_isBlank T x0 ∧ T = T') := by
  refine k_X9_isBlank hsz  x0 ?_
  refine ⟨fun kq0 => ?_, fun kq0 => ?_⟩
  · exact ⟨by unfold v_X9_isBlank; first | (rw [if_pos kq0]; done) | (rw [if_pos kq0]; rfl), rfl⟩
  · refine ⟨fun kq1 => ?_, fun kq1 => ?_⟩
    · exact ⟨by unfold v_X9_isBlank; first | (rw [if_neg kq0, if_neg kq1]; done) | (rw [if_neg kq0, if_neg kq1]; rfl), rfl⟩
    · exact ⟨by unfold v_X9_isBlank; first | (rw [if_neg kq0, if_pos kq1]; done) | (rw [if_neg kq0, if_pos kq1]; rfl), rfl⟩
def v_X9_isDigit (T : tT)  (x0 : Int32) : Int32 := (if x0 < (48 : Int32) then (0 : Int32) else (if (57 : Int32) < x0 then (0 : Int32) else (1 : Int32)))
set_option maxRecDepth 10000 in
theorem c_X9_isDigit {d L sz : Nat} {T : tT} (hsz : 161 ≤ sz) (x0 : Int32) : tiK d mX9_isDigit [.int x0] L sz T (fun r T' => r = v_X9_isDigit T x0 ∧ T = T') := by
  refine k_X9_isDigit hsz  x0 ?_
  refine ⟨fun kq0 => ?_, fun kq0 => ?_⟩
  · exact ⟨by unfold v_X9_isDigit; first | (rw [if_pos kq0]; done) | (rw [if_pos kq0]; rfl), rfl⟩
  · refine ⟨fun kq1 => ?_, fun kq1 => ?_⟩
    · exact ⟨by unfold v_X9_isDigit; first | (rw [if_neg kq0, if_pos kq1]; done) | (rw [if_neg kq0, if_pos kq1]; rfl), rfl⟩
    · exact ⟨by unfold v_X9_isDigit; first | (rw [if_neg kq0, if_neg kq1]; done) | (rw [if_neg kq0, if_neg kq1]; rfl), rfl⟩
def v_X9_isLetter (T : tT)  (x0 : Int32) : Int32 := (if x0 < (97 : Int32) then (0 : Int32) else (if (122 : Int32) < x0 then (0 : Int32) else (1 : Int32)))
set_option maxRecDepth 10000 in
theorem c_X9_isLetter {d L sz : Nat} {T : tT} (hsz : 161 ≤ sz) (x0 : Int32) : tiK d mX9_isLetter [.int x0] L sz T (fun r T' => r = v_X9_isLetter T x0 ∧ T = T') := by
  refine k_X9_isLetter hsz  x0 ?_
  refine ⟨fun kq0 => ?_, fun kq0 => ?_⟩
  · exact ⟨by unfold v_X9_isLetter; first | (rw [if_pos kq0]; done) | (rw [if_pos kq0]; rfl), rfl⟩
  · refine ⟨fun kq1 => ?_, fun kq1 => ?_⟩
    · exact ⟨by unfold v_X9_isLetter; first | (rw [if_neg kq0, if_pos kq1]; done) | (rw [if_neg kq0, if_pos kq1]; rfl), rfl⟩
    · exact ⟨by unfold v_X9_isLetter; first | (rw [if_neg kq0, if_neg kq1]; done) | (rw [if_neg kq0, if_neg kq1]; rfl), rfl⟩
def v_X9_isLetterOrDigit (T : tT)  (x0 : Int32) : Int32 := (if x0 < (97 : Int32) then (if x0 < (48 : Int32) then (0 : Int32) else (if (57 : Int32) < x0 then (0 : Int32) else (1 : Int32))) else (if x0 ≤ (122 : Int32) then (1 : Int32) else (if x0 < (48 : Int32) then (0 : Int32) else (if (57 : Int32) < x0 then (0 : Int32) else (1 : Int32)))))
set_option maxRecDepth 10000 in
theorem c_X9_isLetterOrDigit {d L sz : Nat} {T : tT} (hsz : 161 ≤ sz) (x0 : Int32) : tiK d mX9_isLetterOrDigit [.int x0] L sz T (fun r T' => r = v_X9_isLetterOrDigit T x0 ∧ T = T') := by
  refine k_X9_isLetterOrDigit hsz  x0 ?_
  refine ⟨fun kq0 => ?_, fun kq0 => ?_⟩
  · refine ⟨fun kq1 => ?_, fun kq1 => ?_⟩
    · exact ⟨by unfold v_X9_isLetterOrDigit; first | (rw [if_pos kq0, if_pos kq1]; done) | (rw [if_pos kq0, if_pos kq1]; rfl), rfl⟩
    · refine ⟨fun kq2 => ?_, fun kq2 => ?_⟩
      · exact ⟨by unfold v_X9_isLetterOrDigit; first | (rw [if_pos kq0, if_neg kq1, if_pos kq2]; done) | (rw [if_pos kq0, if_neg kq1, if_pos kq2]; rfl), rfl⟩
      · exact ⟨by unfold v_X9_isLetterOrDigit; first | (rw [if_pos kq0, if_neg kq1, if_neg kq2]; done) | (rw [if_pos kq0, if_neg kq1, if_neg kq2]; rfl), rfl⟩
  · refine ⟨fun kq1 => ?_, fun kq1 => ?_⟩
    · exact ⟨by unfold v_X9_isLetterOrDigit; first | (rw [if_neg kq0, if_pos kq1]; done) | (rw [if_neg kq0, if_pos kq1]; rfl), rfl⟩
    · refine ⟨fun kq2 => ?_, fun kq2 => ?_⟩
      · exact ⟨by unfold v_X9_isLetterOrDigit; first | (rw [if_neg kq0, if_neg kq1, if_pos kq2]; done) | (rw [if_neg kq0, if_neg kq1, if_pos kq2]; rfl), rfl⟩
      · refine ⟨fun kq3 => ?_, fun kq3 => ?_⟩
        · exact ⟨by unfold v_X9_isLetterOrDigit; first | (rw [if_neg kq0, if_neg kq1, if_neg kq2, if_pos kq3]; done) | (rw [if_neg kq0, if_neg kq1, if_neg kq2, if_pos kq3]; rfl), rfl⟩
        · exact ⟨by unfold v_X9_isLetterOrDigit; first | (rw [if_neg kq0, if_neg kq1, if_neg kq2, if_neg kq3]; done) | (rw [if_neg kq0, if_neg kq1, if_neg kq2, if_neg kq3]; rfl), rfl⟩
def v_X9_isSign (T : tT)  (x0 : Int32) : Int32 := (if x0 = (123 : Int32) then (1 : Int32) else (if x0 = (125 : Int32) then (1 : Int32) else (if x0 = (40 : Int32) then (1 : Int32) else (if x0 = (41 : Int32) then (1 : Int32) else (if x0 = (61 : Int32) then (1 : Int32) else (if x0 = (44 : Int32) then (1 : Int32) else (if x0 = (59 : Int32) then (1 : Int32) else (if x0 = (60 : Int32) then (1 : Int32) else (if x0 = (62 : Int32) then (1 : Int32) else (if x0 = (43 : Int32) then (1 : Int32) else (if x0 = (45 : Int32) then (1 : Int32) else (0 : Int32))))))))))))
set_option maxRecDepth 10000 in
theorem c_X9_isSign {d L sz : Nat} {T : tT} (hsz : 161 ≤ sz) (x0 : Int32) : tiK d mX9_isSign [.int x0] L sz T (fun r T' => r = v_X9_isSign T x0 ∧ T = T') := by
  refine k_X9_isSign hsz  x0 ?_
  refine ⟨fun kq0 => ?_, fun kq0 => ?_⟩
  · exact ⟨by unfold v_X9_isSign; first | (rw [if_pos kq0]; done) | (rw [if_pos kq0]; rfl), rfl⟩
  · refine ⟨fun kq1 => ?_, fun kq1 => ?_⟩
    · exact ⟨by unfold v_X9_isSign; first | (rw [if_neg kq0, if_pos kq1]; done) | (rw [if_neg kq0, if_pos kq1]; rfl), rfl⟩
    · refine ⟨fun kq2 => ?_, fun kq2 => ?_⟩
      · exact ⟨by unfold v_X9_isSign; first | (rw [if_neg kq0, if_neg kq1, if_pos kq2]; done) | (rw [if_neg kq0, if_neg kq1, if_pos kq2]; rfl), rfl⟩
      · refine ⟨fun kq3 => ?_, fun kq3 => ?_⟩
        · exact ⟨by unfold v_X9_isSign; first | (rw [if_neg kq0, if_neg kq1, if_neg kq2, if_pos kq3]; done) | (rw [if_neg kq0, if_neg kq1, if_neg kq2, if_pos kq3]; rfl), rfl⟩
        · refine ⟨fun kq4 => ?_, fun kq4 => ?_⟩
          · exact ⟨by unfold v_X9_isSign; first | (rw [if_neg kq0, if_neg kq1, if_neg kq2, if_neg kq3, if_pos kq4]; done) | (rw [if_neg kq0, if_neg kq1, if_neg kq2, if_neg kq3, if_pos kq4]; rfl), rfl⟩
          · refine ⟨fun kq5 => ?_, fun kq5 => ?_⟩
            · exact ⟨by unfold v_X9_isSign; first | (rw [if_neg kq0, if_neg kq1, if_neg kq2, if_neg kq3, if_neg kq4, if_pos kq5]; done) | (rw [if_neg kq0, if_neg kq1, if_neg kq2, if_neg kq3, if_neg kq4, if_pos kq5]; rfl), rfl⟩
            · refine ⟨fun kq6 => ?_, fun kq6 => ?_⟩
              · exact ⟨by unfold v_X9_isSign; first | (rw [if_neg kq0, if_neg kq1, if_neg kq2, if_neg kq3, if_neg kq4, if_neg kq5, if_pos kq6]; done) | (rw [if_neg kq0, if_neg kq1, if_neg kq2, if_neg kq3, if_neg kq4, if_neg kq5, if_pos kq6]; rfl), rfl⟩
              · refine ⟨fun kq7 => ?_, fun kq7 => ?_⟩
                · exact ⟨by unfold v_X9_isSign; first | (rw [if_neg kq0, if_neg kq1, if_neg kq2, if_neg kq3, if_neg kq4, if_neg kq5, if_neg kq6, if_pos kq7]; done) | (rw [if_neg kq0, if_neg kq1, if_neg kq2, if_neg kq3, if_neg kq4, if_neg kq5, if_neg kq6, if_pos kq7]; rfl), rfl⟩
                · refine ⟨fun kq8 => ?_, fun kq8 => ?_⟩
                  · exact ⟨by unfold v_X9_isSign; first | (rw [if_neg kq0, if_neg kq1, if_neg kq2, if_neg kq3, if_neg kq4, if_neg kq5, if_neg kq6, if_neg kq7, if_pos kq8]; done) | (rw [if_neg kq0, if_neg kq1, if_neg kq2, if_neg kq3, if_neg kq4, if_neg kq5, if_neg kq6, if_neg kq7, if_pos kq8]; rfl), rfl⟩
                  · refine ⟨fun kq9 => ?_, fun kq9 => ?_⟩
                    · exact ⟨by unfold v_X9_isSign; first | (rw [if_neg kq0, if_neg kq1, if_neg kq2, if_neg kq3, if_neg kq4, if_neg kq5, if_neg kq6, if_neg kq7, if_neg kq8, if_pos kq9]; done) | (rw [if_neg kq0, if_neg kq1, if_neg kq2, if_neg kq3, if_neg kq4, if_neg kq5, if_neg kq6, if_neg kq7, if_neg kq8, if_pos kq9]; rfl), rfl⟩
                    · refine ⟨fun kq10 => ?_, fun kq10 => ?_⟩
                      · exact ⟨by unfold v_X9_isSign; first | (rw [if_neg kq0, if_neg kq1, if_neg kq2, if_neg kq3, if_neg kq4, if_neg kq5, if_neg kq6, if_neg kq7, if_neg kq8, if_neg kq9, if_neg kq10]; done) | (rw [if_neg kq0, if_neg kq1, if_neg kq2, if_neg kq3, if_neg kq4, if_neg kq5, if_neg kq6, if_neg kq7, if_neg kq8, if_neg kq9, if_neg kq10]; rfl), rfl⟩
                      · exact ⟨by unfold v_X9_isSign; first | (rw [if_neg kq0, if_neg kq1, if_neg kq2, if_neg kq3, if_neg kq4, if_neg kq5, if_neg kq6, if_neg kq7, if_neg kq8, if_neg kq9, if_pos kq10]; done) | (rw [if_neg kq0, if_neg kq1, if_neg kq2, if_neg kq3, if_neg kq4, if_neg kq5, if_neg kq6, if_neg kq7, if_neg kq8, if_neg kq9, if_pos kq10]; rfl), rfl⟩
def F_X10_centre (T : tT)   : Int32 × tT := ((F_X1_addCentre T).1, (F_X1_addCentre T).2)
set_option maxRecDepth 10000 in
theorem c_X10_centre {d L sz : Nat} {T : tT} (hsz : 161 ≤ sz)  : tiK (d + 1) mX10_centre [.ref 2] L sz T (fun r T' => r = (F_X10_centre T).1 ∧ T' = (F_X10_centre T).2) := by
  refine k_X10_centre hsz   ?_
  refine ⟨_, c_X1_addCentre hsz   , ?_⟩
  rintro _ _ ⟨rfl, rfl⟩
  exact ⟨by unfold F_X10_centre; rfl, by unfold F_X10_centre; rfl⟩
def v_X10_certificate (T : tT)  (x0 : Int32) (x1 : Int32) : Int32 := (if (v_X0_has T x0) = 0 then (-1 : Int32) else (if x1 = 0 then (T.1 102 (x0 - (1 : Int32)).toNatClampNeg) else (if x1 = 1 then (T.1 103 (x0 - (1 : Int32)).toNatClampNeg) else (if x1 = 2 then (T.1 104 (x0 - (1 : Int32)).toNatClampNeg) else (-1 : Int32)))))
def ok_X10_certificate (sz : Nat) (T : tT)  (x0 : Int32) (x1 : Int32) : Prop := ((¬ (v_X0_has T x0) = 0 → ((x1 = 0 → vp_in (x0 - (1 : Int32)) 60) ∧ (x1 = 1 → vp_in (x0 - (1 : Int32)) 60) ∧ (x1 = 2 → vp_in (x0 - (1 : Int32)) 60) ∧ (¬ x1 = 0 → ¬ x1 = 1 → ¬ x1 = 2 → True))) ∧ ((v_X0_has T x0) = 0 → True))
set_option maxRecDepth 10000 in
theorem c_X10_certificate {d L sz : Nat} {T : tT} (hsz : 161 ≤ sz) (x0 : Int32) (x1 : Int32) (ok : ok_X10_certificate sz T x0 x1) : tiK (d + 1) mX10_certificate [.ref 2, .int x0, .int x1] L sz T (fun r T' => r = v_X10_certificate T x0 x1 ∧ T = T') := by
  refine k_X10_certificate hsz  x0 x1 ?_
  unfold ok_X10_certificate at ok
  refine ⟨_, c_X0_has hsz  x0 , ?_⟩
  rintro _ _ ⟨rfl, rfl⟩
  refine ⟨fun kq0 => ?_, fun kq0 => ?_⟩
  · replace ok := ok.1 kq0
    refine ⟨fun kq1 => ?_, fun kq1 => ?_, fun kq1 => ?_, fun kq1_0 kq1_1 kq1_2 => ?_⟩
    · replace ok := ok.1 kq1
      refine ⟨ok, ?_⟩
      exact ⟨by unfold v_X10_certificate; first | (rw [if_neg kq0, if_pos kq1]; done) | (rw [if_neg kq0, if_pos kq1]; rfl), rfl⟩
    · replace ok := ok.2.1 kq1
      refine ⟨ok, ?_⟩
      exact ⟨by unfold v_X10_certificate; first | (rw [if_neg kq0, if_neg (show ¬ x1 = 0 by rw [kq1]; decide), if_pos kq1]; done) | (rw [if_neg kq0, if_neg (show ¬ x1 = 0 by rw [kq1]; decide), if_pos kq1]; rfl), rfl⟩
    · replace ok := ok.2.2.1 kq1
      refine ⟨ok, ?_⟩
      exact ⟨by unfold v_X10_certificate; first | (rw [if_neg kq0, if_neg (show ¬ x1 = 0 by rw [kq1]; decide), if_neg (show ¬ x1 = 1 by rw [kq1]; decide), if_pos kq1]; done) | (rw [if_neg kq0, if_neg (show ¬ x1 = 0 by rw [kq1]; decide), if_neg (show ¬ x1 = 1 by rw [kq1]; decide), if_pos kq1]; rfl), rfl⟩
    · replace ok := ok.2.2.2 kq1_0 kq1_1 kq1_2
      exact ⟨by unfold v_X10_certificate; first | (rw [if_neg kq0, if_neg kq1_0, if_neg kq1_1, if_neg kq1_2]; done) | (rw [if_neg kq0, if_neg kq1_0, if_neg kq1_1, if_neg kq1_2]; rfl), rfl⟩
  · replace ok := ok.2 kq0
    exact ⟨by unfold v_X10_certificate; first | (rw [if_pos kq0]; done) | (rw [if_pos kq0]; rfl), rfl⟩
def F_X10_end (T : tT)  (x0 : Int32) : Int32 × tT := (if x0 < 0 then ((-1 : Int32), T) else (if x0 ≤ (T.1 4 1) then (x0, (tI T 4 1 x0)) else ((-1 : Int32), T)))
set_option maxRecDepth 10000 in
theorem c_X10_end {d L sz : Nat} {T : tT} (hsz : 161 ≤ sz) (x0 : Int32) : tiK d mX10_end [.ref 2, .int x0] L sz T (fun r T' => r = (F_X10_end T x0).1 ∧ T' = (F_X10_end T x0).2) := by
  refine k_X10_end hsz  x0 ?_
  refine ⟨fun kq0 => ?_, fun kq0 => ?_⟩
  · exact ⟨by unfold F_X10_end; first | (rw [if_pos kq0]; done) | (rw [if_pos kq0]; rfl), by unfold F_X10_end; first | (rw [if_pos kq0]; done) | (rw [if_pos kq0]; rfl)⟩
  · refine ⟨fun kq1 => ?_, fun kq1 => ?_⟩
    · exact ⟨by unfold F_X10_end; first | (rw [if_neg kq0, if_pos kq1]; done) | (rw [if_neg kq0, if_pos kq1]; rfl), by unfold F_X10_end; first | (rw [if_neg kq0, if_pos kq1]; done) | (rw [if_neg kq0, if_pos kq1]; rfl)⟩
    · exact ⟨by unfold F_X10_end; first | (rw [if_neg kq0, if_neg kq1]; done) | (rw [if_neg kq0, if_neg kq1]; rfl), by unfold F_X10_end; first | (rw [if_neg kq0, if_neg kq1]; done) | (rw [if_neg kq0, if_neg kq1]; rfl)⟩
def v_X10_fault (T : tT)  (x0 : Int32) : Int32 := (if x0 = 0 then (T.1 3 1) else (if x0 = (1 : Int32) then (T.1 3 2) else (-1 : Int32)))
set_option maxRecDepth 10000 in
theorem c_X10_fault {d L sz : Nat} {T : tT} (hsz : 161 ≤ sz) (x0 : Int32) : tiK d mX10_fault [.ref 2, .int x0] L sz T (fun r T' => r = v_X10_fault T x0 ∧ T = T') := by
  refine k_X10_fault hsz  x0 ?_
  refine ⟨fun kq0 => ?_, fun kq0 => ?_⟩
  · refine ⟨fun kq1 => ?_, fun kq1 => ?_⟩
    · exact ⟨by unfold v_X10_fault; first | (rw [if_neg kq0, if_neg kq1]; done) | (rw [if_neg kq0, if_neg kq1]; rfl), rfl⟩
    · exact ⟨by unfold v_X10_fault; first | (rw [if_neg kq0, if_pos kq1]; done) | (rw [if_neg kq0, if_pos kq1]; rfl), rfl⟩
  · exact ⟨by unfold v_X10_fault; first | (rw [if_pos kq0]; done) | (rw [if_pos kq0]; rfl), rfl⟩
def v_X10_isTerm (T : tT)  (x0 : Int32) : Int32 := (if x0 < 0 then (0 : Int32) else (if (4 : Int32) ≤ x0 then (0 : Int32) else (1 : Int32)))
set_option maxRecDepth 10000 in
theorem c_X10_isTerm {d L sz : Nat} {T : tT} (hsz : 161 ≤ sz) (x0 : Int32) : tiK d mX10_isTerm [.int x0] L sz T (fun r T' => r = v_X10_isTerm T x0 ∧ T = T') := by
  refine k_X10_isTerm hsz  x0 ?_
  refine ⟨fun kq0 => ?_, fun kq0 => ?_⟩
  · exact ⟨by unfold v_X10_isTerm; first | (rw [if_pos kq0]; done) | (rw [if_pos kq0]; rfl), rfl⟩
  · refine ⟨fun kq1 => ?_, fun kq1 => ?_⟩
    · exact ⟨by unfold v_X10_isTerm; first | (rw [if_neg kq0, if_pos kq1]; done) | (rw [if_neg kq0, if_pos kq1]; rfl), rfl⟩
    · exact ⟨by unfold v_X10_isTerm; first | (rw [if_neg kq0, if_neg kq1]; done) | (rw [if_neg kq0, if_neg kq1]; rfl), rfl⟩
def v_X10_isWithin (T : tT)  (x0 : Int32) (x1 : Int32) (x2 : Int32) : Int32 := (if x0 < x1 then (0 : Int32) else (if x2 < x0 then (0 : Int32) else (1 : Int32)))
set_option maxRecDepth 10000 in
theorem c_X10_isWithin {d L sz : Nat} {T : tT} (hsz : 161 ≤ sz) (x0 : Int32) (x1 : Int32) (x2 : Int32) : tiK d mX10_isWithin [.int x0, .int x1, .int x2] L sz T (fun r T' => r = v_X10_isWithin T x0 x1 x2 ∧ T = T') := by
  refine k_X10_isWithin hsz  x0 x1 x2 ?_
  refine ⟨fun kq0 => ?_, fun kq0 => ?_⟩
  · exact ⟨by unfold v_X10_isWithin; first | (rw [if_pos kq0]; done) | (rw [if_pos kq0]; rfl), rfl⟩
  · refine ⟨fun kq1 => ?_, fun kq1 => ?_⟩
    · exact ⟨by unfold v_X10_isWithin; first | (rw [if_neg kq0, if_pos kq1]; done) | (rw [if_neg kq0, if_pos kq1]; rfl), rfl⟩
    · exact ⟨by unfold v_X10_isWithin; first | (rw [if_neg kq0, if_neg kq1]; done) | (rw [if_neg kq0, if_neg kq1]; rfl), rfl⟩
def F_X10_later (T : tT)  (x0 : Int32) : Int32 × tT := (if (v_X10_isWithin T x0 (0 : Int32) (1000 : Int32)) = 0 then ((-1 : Int32), T) else (if ((T.1 93 0) + x0) ≤ (100000 : Int32) then (((T.1 93 0) + x0), (tI T 93 0 ((T.1 93 0) + x0))) else ((-1 : Int32), T)))
set_option maxRecDepth 10000 in
theorem c_X10_later {d L sz : Nat} {T : tT} (hsz : 161 ≤ sz) (x0 : Int32) : tiK (d + 1) mX10_later [.ref 2, .int x0] L sz T (fun r T' => r = (F_X10_later T x0).1 ∧ T' = (F_X10_later T x0).2) := by
  refine k_X10_later hsz  x0 ?_
  refine ⟨_, c_X10_isWithin hsz  x0 (0 : Int32) (1000 : Int32) , ?_⟩
  rintro _ _ ⟨rfl, rfl⟩
  refine ⟨fun kq0 => ?_, fun kq0 => ?_⟩
  · exact ⟨by unfold F_X10_later; first | (rw [if_pos kq0]; done) | (rw [if_pos kq0]; rfl), by unfold F_X10_later; first | (rw [if_pos kq0]; done) | (rw [if_pos kq0]; rfl)⟩
  · refine ⟨fun kq1 => ?_, fun kq1 => ?_⟩
    · exact ⟨by unfold F_X10_later; first | (rw [if_neg kq0, if_pos kq1]; done) | (rw [if_neg kq0, if_pos kq1]; rfl), by unfold F_X10_later; first | (rw [if_neg kq0, if_pos kq1]; done) | (rw [if_neg kq0, if_pos kq1]; rfl)⟩
    · exact ⟨by unfold F_X10_later; first | (rw [if_neg kq0, if_neg kq1]; done) | (rw [if_neg kq0, if_neg kq1]; rfl), by unfold F_X10_later; first | (rw [if_neg kq0, if_neg kq1]; done) | (rw [if_neg kq0, if_neg kq1]; rfl)⟩
def F_X10_session (T : tT)  (x0 : Int32) (x1 : Int32) : Int32 × tT := (if (v_X1_hasCentre T x0) = 0 then ((-1 : Int32), T) else (if (v_X10_isWithin T x1 (0 : Int32) (99 : Int32)) = 0 then ((-1 : Int32), T) else ((F_X1_addSession T x0 x1).1, (F_X1_addSession T x0 x1).2)))
def ok_X10_session (sz : Nat) (T : tT)  (x0 : Int32) (x1 : Int32) : Prop := (((v_X1_hasCentre T x0) = 0 → True) ∧ (¬ (v_X1_hasCentre T x0) = 0 → (((v_X10_isWithin T x1 (0 : Int32) (99 : Int32)) = 0 → True) ∧ (¬ (v_X10_isWithin T x1 (0 : Int32) (99 : Int32)) = 0 → (ok_X1_addSession sz T x0 x1 ∧ True)))))
set_option maxRecDepth 10000 in
theorem c_X10_session {d L sz : Nat} {T : tT} (hsz : 161 ≤ sz) (x0 : Int32) (x1 : Int32) (ok : ok_X10_session sz T x0 x1) : tiK (d + 1) mX10_session [.ref 2, .int x0, .int x1] L sz T (fun r T' => r = (F_X10_session T x0 x1).1 ∧ T' = (F_X10_session T x0 x1).2) := by
  refine k_X10_session hsz  x0 x1 ?_
  unfold ok_X10_session at ok
  refine ⟨_, c_X1_hasCentre hsz  x0 , ?_⟩
  rintro _ _ ⟨rfl, rfl⟩
  refine ⟨fun kq0 => ?_, fun kq0 => ?_⟩
  · replace ok := ok.1 kq0
    exact ⟨by unfold F_X10_session; first | (rw [if_pos kq0]; done) | (rw [if_pos kq0]; rfl), by unfold F_X10_session; first | (rw [if_pos kq0]; done) | (rw [if_pos kq0]; rfl)⟩
  · replace ok := ok.2 kq0
    refine ⟨_, c_X10_isWithin hsz  x1 (0 : Int32) (99 : Int32) , ?_⟩
    rintro _ _ ⟨rfl, rfl⟩
    refine ⟨fun kq1 => ?_, fun kq1 => ?_⟩
    · replace ok := ok.1 kq1
      exact ⟨by unfold F_X10_session; first | (rw [if_neg kq0, if_pos kq1]; done) | (rw [if_neg kq0, if_pos kq1]; rfl), by unfold F_X10_session; first | (rw [if_neg kq0, if_pos kq1]; done) | (rw [if_neg kq0, if_pos kq1]; rfl)⟩
    · replace ok := ok.2 kq1
      refine ⟨_, c_X1_addSession hsz  x0 x1 ok.1, ?_⟩
      rintro _ _ ⟨rfl, rfl⟩
      replace ok := ok.2
      exact ⟨by unfold F_X10_session; first | (rw [if_neg kq0, if_neg kq1]; done) | (rw [if_neg kq0, if_neg kq1]; rfl), by unfold F_X10_session; first | (rw [if_neg kq0, if_neg kq1]; done) | (rw [if_neg kq0, if_neg kq1]; rfl)⟩
def v_X10_toured (T : tT)  (x0 : Int32) : Int32 := (if (v_X1_hasSession T x0) = 0 then (-1 : Int32) else (T.1 86 (x0.toNatClampNeg)))
def ok_X10_toured (sz : Nat) (T : tT)  (x0 : Int32) : Prop := (((v_X1_hasSession T x0) = 0 → True) ∧ (¬ (v_X1_hasSession T x0) = 0 → vp_in x0 9))
set_option maxRecDepth 10000 in
theorem c_X10_toured {d L sz : Nat} {T : tT} (hsz : 161 ≤ sz) (x0 : Int32) (ok : ok_X10_toured sz T x0) : tiK (d + 1) mX10_toured [.ref 2, .int x0] L sz T (fun r T' => r = v_X10_toured T x0 ∧ T = T') := by
  refine k_X10_toured hsz  x0 ?_
  unfold ok_X10_toured at ok
  refine ⟨_, c_X1_hasSession hsz  x0 , ?_⟩
  rintro _ _ ⟨rfl, rfl⟩
  refine ⟨fun kq0 => ?_, fun kq0 => ?_⟩
  · replace ok := ok.1 kq0
    exact ⟨by unfold v_X10_toured; first | (rw [if_pos kq0]; done) | (rw [if_pos kq0]; rfl), rfl⟩
  · replace ok := ok.2 kq0
    refine ⟨ok, ?_⟩
    exact ⟨by unfold v_X10_toured; first | (rw [if_neg kq0]; done) | (rw [if_neg kq0]; rfl), rfl⟩
def F_X10_untell (T : tT)  (x0 : Int32) : Int32 × tT := ((F_X5_takeBack T x0).1, (F_X5_takeBack T x0).2)
def ok_X10_untell (sz : Nat) (T : tT)  (x0 : Int32) : Prop := (ok_X5_takeBack sz T x0 ∧ ((F_X5_takeBack T x0).1 &&& 1 = (F_X5_takeBack T x0).1))
set_option maxRecDepth 10000 in
theorem c_X10_untell {d L sz : Nat} {T : tT} (hsz : 161 ≤ sz) (x0 : Int32) (ok : ok_X10_untell sz T x0) : tiK (d + 2) mX10_untell [.ref 2, .int x0] L sz T (fun r T' => r = (F_X10_untell T x0).1 ∧ T' = (F_X10_untell T x0).2) := by
  refine k_X10_untell hsz  x0 ?_
  unfold ok_X10_untell at ok
  refine ⟨_, c_X5_takeBack hsz  x0 ok.1, ?_⟩
  rintro _ _ ⟨rfl, rfl⟩
  replace ok := ok.2
  exact ⟨ok, ⟨by unfold F_X10_untell; rfl, by unfold F_X10_untell; rfl⟩⟩
def F_X10_way (T : tT)  (x0 : Int32) (x1 : Int32) (x2 : Int32) : Int32 × tT := (if (v_X1_hasCentre T x0) = 0 then ((0 : Int32), T) else (if (v_X1_hasCentre T x1) = 0 then ((0 : Int32), T) else (if x0 = x1 then ((0 : Int32), T) else (if (v_X10_isWithin T x2 (0 : Int32) (600 : Int32)) = 0 then ((0 : Int32), T) else ((1 : Int32), (F_X1_setWay T x0 x1 x2))))))
def ok_X10_way (sz : Nat) (T : tT)  (x0 : Int32) (x1 : Int32) (x2 : Int32) : Prop := (((v_X1_hasCentre T x0) = 0 → True) ∧ (¬ (v_X1_hasCentre T x0) = 0 → (((v_X1_hasCentre T x1) = 0 → True) ∧ (¬ (v_X1_hasCentre T x1) = 0 → ((x0 = x1 → True) ∧ (¬ x0 = x1 → (((v_X10_isWithin T x2 (0 : Int32) (600 : Int32)) = 0 → True) ∧ (¬ (v_X10_isWithin T x2 (0 : Int32) (600 : Int32)) = 0 → (ok_X1_setWay sz T x0 x1 x2 ∧ True)))))))))
set_option maxRecDepth 10000 in
theorem c_X10_way {d L sz : Nat} {T : tT} (hsz : 161 ≤ sz) (x0 : Int32) (x1 : Int32) (x2 : Int32) (ok : ok_X10_way sz T x0 x1 x2) : tiK (d + 1) mX10_way [.ref 2, .int x0, .int x1, .int x2] L sz T (fun r T' => r = (F_X10_way T x0 x1 x2).1 ∧ T' = (F_X10_way T x0 x1 x2).2) := by
  refine k_X10_way hsz  x0 x1 x2 ?_
  unfold ok_X10_way at ok
  refine ⟨_, c_X1_hasCentre hsz  x0 , ?_⟩
  rintro _ _ ⟨rfl, rfl⟩
  refine ⟨fun kq0 => ?_, fun kq0 => ?_⟩
  · replace ok := ok.1 kq0
    exact ⟨by unfold F_X10_way; first | (rw [if_pos kq0]; done) | (rw [if_pos kq0]; rfl), by unfold F_X10_way; first | (rw [if_pos kq0]; done) | (rw [if_pos kq0]; rfl)⟩
  · replace ok := ok.2 kq0
    refine ⟨_, c_X1_hasCentre hsz  x1 , ?_⟩
    rintro _ _ ⟨rfl, rfl⟩
    refine ⟨fun kq1 => ?_, fun kq1 => ?_⟩
    · replace ok := ok.1 kq1
      exact ⟨by unfold F_X10_way; first | (rw [if_neg kq0, if_pos kq1]; done) | (rw [if_neg kq0, if_pos kq1]; rfl), by unfold F_X10_way; first | (rw [if_neg kq0, if_pos kq1]; done) | (rw [if_neg kq0, if_pos kq1]; rfl)⟩
    · replace ok := ok.2 kq1
      refine ⟨fun kq2 => ?_, fun kq2 => ?_⟩
      · replace ok := ok.1 kq2
        exact ⟨by unfold F_X10_way; first | (rw [if_neg kq0, if_neg kq1, if_pos kq2]; done) | (rw [if_neg kq0, if_neg kq1, if_pos kq2]; rfl), by unfold F_X10_way; first | (rw [if_neg kq0, if_neg kq1, if_pos kq2]; done) | (rw [if_neg kq0, if_neg kq1, if_pos kq2]; rfl)⟩
      · replace ok := ok.2 kq2
        refine ⟨_, c_X10_isWithin hsz  x2 (0 : Int32) (600 : Int32) , ?_⟩
        rintro _ _ ⟨rfl, rfl⟩
        refine ⟨fun kq3 => ?_, fun kq3 => ?_⟩
        · replace ok := ok.1 kq3
          exact ⟨by unfold F_X10_way; first | (rw [if_neg kq0, if_neg kq1, if_neg kq2, if_pos kq3]; done) | (rw [if_neg kq0, if_neg kq1, if_neg kq2, if_pos kq3]; rfl), by unfold F_X10_way; first | (rw [if_neg kq0, if_neg kq1, if_neg kq2, if_pos kq3]; done) | (rw [if_neg kq0, if_neg kq1, if_neg kq2, if_pos kq3]; rfl)⟩
        · replace ok := ok.2 kq3
          refine ⟨_, c_X1_setWay hsz  x0 x1 x2 ok.1, ?_⟩
          rintro _ rfl
          replace ok := ok.2
          exact ⟨by unfold F_X10_way; first | (rw [if_neg kq0, if_neg kq1, if_neg kq2, if_neg kq3]; done) | (rw [if_neg kq0, if_neg kq1, if_neg kq2, if_neg kq3]; rfl), by unfold F_X10_way; first | (rw [if_neg kq0, if_neg kq1, if_neg kq2, if_neg kq3]; done) | (rw [if_neg kq0, if_neg kq1, if_neg kq2, if_neg kq3]; rfl)⟩
def v_X11_about (T : tT)  (x0 : Int32) : Int32 := (if x0 = 0 then (T.1 105 71) else (if x0 = 1 then (T.1 105 48) else (if x0 = 2 then (T.1 105 56) else (if x0 = 3 then (T.1 105 57) else (if x0 = 4 then (T.1 105 58) else (if x0 = 5 then (T.1 105 70) else (if x0 = 6 then (T.1 105 76) else (if x0 = 7 then (T.1 105 2) else (if x0 < (10 : Int32) then (-1 : Int32) else (if x0 < (14 : Int32) then (if (T.1 109 (x0 - (10 : Int32)).toNatClampNeg) = 0 then (0 : Int32) else (T.1 125 (T.1 108 (x0 - (10 : Int32)).toNatClampNeg).toNatClampNeg)) else (-1 : Int32)))))))))))
def ok_X11_about (sz : Nat) (T : tT)  (x0 : Int32) : Prop := ((x0 = 0 → True) ∧ (x0 = 1 → True) ∧ (x0 = 2 → True) ∧ (x0 = 3 → True) ∧ (x0 = 4 → True) ∧ (x0 = 5 → True) ∧ (x0 = 6 → True) ∧ (x0 = 7 → True) ∧ (¬ x0 = 0 → ¬ x0 = 1 → ¬ x0 = 2 → ¬ x0 = 3 → ¬ x0 = 4 → ¬ x0 = 5 → ¬ x0 = 6 → ¬ x0 = 7 → ((x0 < (10 : Int32) → True) ∧ (¬ x0 < (10 : Int32) → ((x0 < (14 : Int32) → (vp_in (x0 - (10 : Int32)) 4 ∧ (((T.1 109 (x0 - (10 : Int32)).toNatClampNeg) = 0 → True) ∧ (¬ (T.1 109 (x0 - (10 : Int32)).toNatClampNeg) = 0 → (vp_in (x0 - (10 : Int32)) 4 ∧ vp_in (T.1 108 (x0 - (10 : Int32)).toNatClampNeg) 5))))) ∧ (¬ x0 < (14 : Int32) → True))))))
set_option maxRecDepth 10000 in
theorem c_X11_about {d L sz : Nat} {T : tT} (hsz : 161 ≤ sz) (x0 : Int32) (ok : ok_X11_about sz T x0) : tiK d mX11_about [.ref 105, .int x0] L sz T (fun r T' => r = v_X11_about T x0 ∧ T = T') := by
  refine k_X11_about hsz  x0 ?_
  unfold ok_X11_about at ok
  refine ⟨fun kq0 => ?_, fun kq0 => ?_, fun kq0 => ?_, fun kq0 => ?_, fun kq0 => ?_, fun kq0 => ?_, fun kq0 => ?_, fun kq0 => ?_, fun kq0_0 kq0_1 kq0_2 kq0_3 kq0_4 kq0_5 kq0_6 kq0_7 => ?_⟩
  · replace ok := ok.1 kq0
    exact ⟨by unfold v_X11_about; first | (rw [if_pos kq0]; done) | (rw [if_pos kq0]; rfl), rfl⟩
  · replace ok := ok.2.1 kq0
    exact ⟨by unfold v_X11_about; first | (rw [if_neg (show ¬ x0 = 0 by rw [kq0]; decide), if_pos kq0]; done) | (rw [if_neg (show ¬ x0 = 0 by rw [kq0]; decide), if_pos kq0]; rfl), rfl⟩
  · replace ok := ok.2.2.1 kq0
    exact ⟨by unfold v_X11_about; first | (rw [if_neg (show ¬ x0 = 0 by rw [kq0]; decide), if_neg (show ¬ x0 = 1 by rw [kq0]; decide), if_pos kq0]; done) | (rw [if_neg (show ¬ x0 = 0 by rw [kq0]; decide), if_neg (show ¬ x0 = 1 by rw [kq0]; decide), if_pos kq0]; rfl), rfl⟩
  · replace ok := ok.2.2.2.1 kq0
    exact ⟨by unfold v_X11_about; first | (rw [if_neg (show ¬ x0 = 0 by rw [kq0]; decide), if_neg (show ¬ x0 = 1 by rw [kq0]; decide), if_neg (show ¬ x0 = 2 by rw [kq0]; decide), if_pos kq0]; done) | (rw [if_neg (show ¬ x0 = 0 by rw [kq0]; decide), if_neg (show ¬ x0 = 1 by rw [kq0]; decide), if_neg (show ¬ x0 = 2 by rw [kq0]; decide), if_pos kq0]; rfl), rfl⟩
  · replace ok := ok.2.2.2.2.1 kq0
    exact ⟨by unfold v_X11_about; first | (rw [if_neg (show ¬ x0 = 0 by rw [kq0]; decide), if_neg (show ¬ x0 = 1 by rw [kq0]; decide), if_neg (show ¬ x0 = 2 by rw [kq0]; decide), if_neg (show ¬ x0 = 3 by rw [kq0]; decide), if_pos kq0]; done) | (rw [if_neg (show ¬ x0 = 0 by rw [kq0]; decide), if_neg (show ¬ x0 = 1 by rw [kq0]; decide), if_neg (show ¬ x0 = 2 by rw [kq0]; decide), if_neg (show ¬ x0 = 3 by rw [kq0]; decide), if_pos kq0]; rfl), rfl⟩
  · replace ok := ok.2.2.2.2.2.1 kq0
    exact ⟨by unfold v_X11_about; first | (rw [if_neg (show ¬ x0 = 0 by rw [kq0]; decide), if_neg (show ¬ x0 = 1 by rw [kq0]; decide), if_neg (show ¬ x0 = 2 by rw [kq0]; decide), if_neg (show ¬ x0 = 3 by rw [kq0]; decide), if_neg (show ¬ x0 = 4 by rw [kq0]; decide), if_pos kq0]; done) | (rw [if_neg (show ¬ x0 = 0 by rw [kq0]; decide), if_neg (show ¬ x0 = 1 by rw [kq0]; decide), if_neg (show ¬ x0 = 2 by rw [kq0]; decide), if_neg (show ¬ x0 = 3 by rw [kq0]; decide), if_neg (show ¬ x0 = 4 by rw [kq0]; decide), if_pos kq0]; rfl), rfl⟩
  · replace ok := ok.2.2.2.2.2.2.1 kq0
    exact ⟨by unfold v_X11_about; first | (rw [if_neg (show ¬ x0 = 0 by rw [kq0]; decide), if_neg (show ¬ x0 = 1 by rw [kq0]; decide), if_neg (show ¬ x0 = 2 by rw [kq0]; decide), if_neg (show ¬ x0 = 3 by rw [kq0]; decide), if_neg (show ¬ x0 = 4 by rw [kq0]; decide), if_neg (show ¬ x0 = 5 by rw [kq0]; decide), if_pos kq0]; done) | (rw [if_neg (show ¬ x0 = 0 by rw [kq0]; decide), if_neg (show ¬ x0 = 1 by rw [kq0]; decide), if_neg (show ¬ x0 = 2 by rw [kq0]; decide), if_neg (show ¬ x0 = 3 by rw [kq0]; decide), if_neg (show ¬ x0 = 4 by rw [kq0]; decide), if_neg (show ¬ x0 = 5 by rw [kq0]; decide), if_pos kq0]; rfl), rfl⟩
  · replace ok := ok.2.2.2.2.2.2.2.1 kq0
    exact ⟨by unfold v_X11_about; first | (rw [if_neg (show ¬ x0 = 0 by rw [kq0]; decide), if_neg (show ¬ x0 = 1 by rw [kq0]; decide), if_neg (show ¬ x0 = 2 by rw [kq0]; decide), if_neg (show ¬ x0 = 3 by rw [kq0]; decide), if_neg (show ¬ x0 = 4 by rw [kq0]; decide), if_neg (show ¬ x0 = 5 by rw [kq0]; decide), if_neg (show ¬ x0 = 6 by rw [kq0]; decide), if_pos kq0]; done) | (rw [if_neg (show ¬ x0 = 0 by rw [kq0]; decide), if_neg (show ¬ x0 = 1 by rw [kq0]; decide), if_neg (show ¬ x0 = 2 by rw [kq0]; decide), if_neg (show ¬ x0 = 3 by rw [kq0]; decide), if_neg (show ¬ x0 = 4 by rw [kq0]; decide), if_neg (show ¬ x0 = 5 by rw [kq0]; decide), if_neg (show ¬ x0 = 6 by rw [kq0]; decide), if_pos kq0]; rfl), rfl⟩
  · replace ok := ok.2.2.2.2.2.2.2.2 kq0_0 kq0_1 kq0_2 kq0_3 kq0_4 kq0_5 kq0_6 kq0_7
    refine ⟨fun kq8 => ?_, fun kq8 => ?_⟩
    · replace ok := ok.1 kq8
      exact ⟨by unfold v_X11_about; first | (rw [if_neg kq0_0, if_neg kq0_1, if_neg kq0_2, if_neg kq0_3, if_neg kq0_4, if_neg kq0_5, if_neg kq0_6, if_neg kq0_7, if_pos kq8]; done) | (rw [if_neg kq0_0, if_neg kq0_1, if_neg kq0_2, if_neg kq0_3, if_neg kq0_4, if_neg kq0_5, if_neg kq0_6, if_neg kq0_7, if_pos kq8]; rfl), rfl⟩
    · replace ok := ok.2 kq8
      refine ⟨fun kq9 => ?_, fun kq9 => ?_⟩
      · replace ok := ok.1 kq9
        refine ⟨ok.1, ?_⟩
        replace ok := ok.2
        refine ⟨fun kq10 => ?_, fun kq10 => ?_⟩
        · replace ok := ok.1 kq10
          exact ⟨by unfold v_X11_about; first | (rw [if_neg kq0_0, if_neg kq0_1, if_neg kq0_2, if_neg kq0_3, if_neg kq0_4, if_neg kq0_5, if_neg kq0_6, if_neg kq0_7, if_neg kq8, if_pos kq9, if_pos kq10]; done) | (rw [if_neg kq0_0, if_neg kq0_1, if_neg kq0_2, if_neg kq0_3, if_neg kq0_4, if_neg kq0_5, if_neg kq0_6, if_neg kq0_7, if_neg kq8, if_pos kq9, if_pos kq10]; rfl), rfl⟩
        · replace ok := ok.2 kq10
          refine ⟨ok.1, ?_⟩
          replace ok := ok.2
          refine ⟨ok, ?_⟩
          exact ⟨by unfold v_X11_about; first | (rw [if_neg kq0_0, if_neg kq0_1, if_neg kq0_2, if_neg kq0_3, if_neg kq0_4, if_neg kq0_5, if_neg kq0_6, if_neg kq0_7, if_neg kq8, if_pos kq9, if_neg kq10]; done) | (rw [if_neg kq0_0, if_neg kq0_1, if_neg kq0_2, if_neg kq0_3, if_neg kq0_4, if_neg kq0_5, if_neg kq0_6, if_neg kq0_7, if_neg kq8, if_pos kq9, if_neg kq10]; rfl), rfl⟩
      · replace ok := ok.2 kq9
        exact ⟨by unfold v_X11_about; first | (rw [if_neg kq0_0, if_neg kq0_1, if_neg kq0_2, if_neg kq0_3, if_neg kq0_4, if_neg kq0_5, if_neg kq0_6, if_neg kq0_7, if_neg kq8, if_neg kq9]; done) | (rw [if_neg kq0_0, if_neg kq0_1, if_neg kq0_2, if_neg kq0_3, if_neg kq0_4, if_neg kq0_5, if_neg kq0_6, if_neg kq0_7, if_neg kq8, if_neg kq9]; rfl), rfl⟩
def F_X11_centre (T : tT)   : Int32 × tT := (if (T.1 105 56) = (8 : Int32) then ((-1 : Int32), T) else ((((T.1 105 56) + (1 : Int32)) - (1 : Int32)), (tI T 105 56 ((T.1 105 56) + (1 : Int32)))))
set_option maxRecDepth 10000 in
theorem c_X11_centre {d L sz : Nat} {T : tT} (hsz : 161 ≤ sz)  : tiK d mX11_centre [.ref 105] L sz T (fun r T' => r = (F_X11_centre T).1 ∧ T' = (F_X11_centre T).2) := by
  refine k_X11_centre hsz   ?_
  refine ⟨fun kq0 => ?_, fun kq0 => ?_⟩
  · exact ⟨by unfold F_X11_centre; first | (rw [if_neg kq0]; done) | (rw [if_neg kq0]; rfl), by unfold F_X11_centre; first | (rw [if_neg kq0]; done) | (rw [if_neg kq0]; rfl)⟩
  · exact ⟨by unfold F_X11_centre; first | (rw [if_pos kq0]; done) | (rw [if_pos kq0]; rfl), by unfold F_X11_centre; first | (rw [if_pos kq0]; done) | (rw [if_pos kq0]; rfl)⟩
def v_X11_certificate (T : tT)  (x0 : Int32) (x1 : Int32) : Int32 := (if x0 < (1 : Int32) then (-1 : Int32) else (if x0 ≤ (T.1 105 76) then (if x1 = 0 then (T.1 158 (x0.toNatClampNeg)) else (if x1 = (1 : Int32) then (T.1 159 (x0.toNatClampNeg)) else (if x1 = (2 : Int32) then (T.1 160 (x0.toNatClampNeg)) else (-1 : Int32)))) else (-1 : Int32)))
def ok_X11_certificate (sz : Nat) (T : tT)  (x0 : Int32) (x1 : Int32) : Prop := ((x0 < (1 : Int32) → True) ∧ (¬ x0 < (1 : Int32) → ((x0 ≤ (T.1 105 76) → ((¬ x1 = 0 → ((¬ x1 = (1 : Int32) → ((¬ x1 = (2 : Int32) → True) ∧ (x1 = (2 : Int32) → vp_in x0 61))) ∧ (x1 = (1 : Int32) → vp_in x0 61))) ∧ (x1 = 0 → vp_in x0 61))) ∧ (¬ x0 ≤ (T.1 105 76) → True))))
set_option maxRecDepth 10000 in
theorem c_X11_certificate {d L sz : Nat} {T : tT} (hsz : 161 ≤ sz) (x0 : Int32) (x1 : Int32) (ok : ok_X11_certificate sz T x0 x1) : tiK d mX11_certificate [.ref 105, .int x0, .int x1] L sz T (fun r T' => r = v_X11_certificate T x0 x1 ∧ T = T') := by
  refine k_X11_certificate hsz  x0 x1 ?_
  unfold ok_X11_certificate at ok
  refine ⟨fun kq0 => ?_, fun kq0 => ?_⟩
  · replace ok := ok.1 kq0
    exact ⟨by unfold v_X11_certificate; first | (rw [if_pos kq0]; done) | (rw [if_pos kq0]; rfl), rfl⟩
  · replace ok := ok.2 kq0
    refine ⟨fun kq1 => ?_, fun kq1 => ?_⟩
    · replace ok := ok.1 kq1
      refine ⟨fun kq2 => ?_, fun kq2 => ?_⟩
      · replace ok := ok.1 kq2
        refine ⟨fun kq3 => ?_, fun kq3 => ?_⟩
        · replace ok := ok.1 kq3
          refine ⟨fun kq4 => ?_, fun kq4 => ?_⟩
          · replace ok := ok.1 kq4
            exact ⟨by unfold v_X11_certificate; first | (rw [if_neg kq0, if_pos kq1, if_neg kq2, if_neg kq3, if_neg kq4]; done) | (rw [if_neg kq0, if_pos kq1, if_neg kq2, if_neg kq3, if_neg kq4]; rfl), rfl⟩
          · replace ok := ok.2 kq4
            refine ⟨ok, ?_⟩
            exact ⟨by unfold v_X11_certificate; first | (rw [if_neg kq0, if_pos kq1, if_neg kq2, if_neg kq3, if_pos kq4]; done) | (rw [if_neg kq0, if_pos kq1, if_neg kq2, if_neg kq3, if_pos kq4]; rfl), rfl⟩
        · replace ok := ok.2 kq3
          refine ⟨ok, ?_⟩
          exact ⟨by unfold v_X11_certificate; first | (rw [if_neg kq0, if_pos kq1, if_neg kq2, if_pos kq3]; done) | (rw [if_neg kq0, if_pos kq1, if_neg kq2, if_pos kq3]; rfl), rfl⟩
      · replace ok := ok.2 kq2
        refine ⟨ok, ?_⟩
        exact ⟨by unfold v_X11_certificate; first | (rw [if_neg kq0, if_pos kq1, if_pos kq2]; done) | (rw [if_neg kq0, if_pos kq1, if_pos kq2]; rfl), rfl⟩
    · replace ok := ok.2 kq1
      exact ⟨by unfold v_X11_certificate; first | (rw [if_neg kq0, if_neg kq1]; done) | (rw [if_neg kq0, if_neg kq1]; rfl), rfl⟩
def F_X11_end (T : tT)  (x0 : Int32) : Int32 × tT := (if x0 < 0 then ((-1 : Int32), T) else (if x0 ≤ (T.1 105 2) then (x0, (tI T 105 2 x0)) else ((-1 : Int32), T)))
set_option maxRecDepth 10000 in
theorem c_X11_end {d L sz : Nat} {T : tT} (hsz : 161 ≤ sz) (x0 : Int32) : tiK d mX11_end [.ref 105, .int x0] L sz T (fun r T' => r = (F_X11_end T x0).1 ∧ T' = (F_X11_end T x0).2) := by
  refine k_X11_end hsz  x0 ?_
  refine ⟨fun kq0 => ?_, fun kq0 => ?_⟩
  · exact ⟨by unfold F_X11_end; first | (rw [if_pos kq0]; done) | (rw [if_pos kq0]; rfl), by unfold F_X11_end; first | (rw [if_pos kq0]; done) | (rw [if_pos kq0]; rfl)⟩
  · refine ⟨fun kq1 => ?_, fun kq1 => ?_⟩
    · exact ⟨by unfold F_X11_end; first | (rw [if_neg kq0, if_pos kq1]; done) | (rw [if_neg kq0, if_pos kq1]; rfl), by unfold F_X11_end; first | (rw [if_neg kq0, if_pos kq1]; done) | (rw [if_neg kq0, if_pos kq1]; rfl)⟩
    · exact ⟨by unfold F_X11_end; first | (rw [if_neg kq0, if_neg kq1]; done) | (rw [if_neg kq0, if_neg kq1]; rfl), by unfold F_X11_end; first | (rw [if_neg kq0, if_neg kq1]; done) | (rw [if_neg kq0, if_neg kq1]; rfl)⟩
def F_X11_entry (T : tT)  (x0 : Int32) (x1 : Int32) (x2 : Int32) (x3 : Int32) (x4 : Int32) (x5 : Int32) : Int32 × tT := (if x0 < 0 then ((-1 : Int32), T) else (if (99 : Int32) < x0 then ((-1 : Int32), T) else (if x1 < 0 then ((-1 : Int32), T) else (if (4 : Int32) ≤ x1 then ((-1 : Int32), T) else (if x2 < (1 : Int32) then ((-1 : Int32), T) else (if (8 : Int32) < x2 then ((-1 : Int32), T) else (if x3 < 0 then ((-1 : Int32), T) else (if (7 : Int32) < x3 then ((-1 : Int32), T) else (if x4 < (4 : Int32) then ((-1 : Int32), T) else (if (99 : Int32) < x4 then ((-1 : Int32), T) else (if x5 < (-1 : Int32) then ((-1 : Int32), T) else (if (T.1 105 57) ≤ x5 then ((-1 : Int32), T) else (if (T.1 105 48) = (40 : Int32) then ((-1 : Int32), T) else ((((T.1 105 48) + (1 : Int32)) - (1 : Int32)), (tI (tI (tI (tI (tI (tI (tI (tI (tI T 131 ((T.1 105 48).toNatClampNeg) x0) 132 ((T.1 105 48).toNatClampNeg) x1) 133 ((T.1 105 48).toNatClampNeg) x2) 134 ((T.1 105 48).toNatClampNeg) x3) 135 ((T.1 105 48).toNatClampNeg) x4) 136 ((T.1 105 48).toNatClampNeg) x5) 137 ((T.1 105 48).toNatClampNeg) (0 : Int32)) 138 ((T.1 105 48).toNatClampNeg) (-1 : Int32)) 105 48 ((T.1 105 48) + (1 : Int32)))))))))))))))))
def ok_X11_entry (sz : Nat) (T : tT)  (x0 : Int32) (x1 : Int32) (x2 : Int32) (x3 : Int32) (x4 : Int32) (x5 : Int32) : Prop := ((x0 < 0 → True) ∧ (¬ x0 < 0 → (((99 : Int32) < x0 → True) ∧ (¬ (99 : Int32) < x0 → ((x1 < 0 → True) ∧ (¬ x1 < 0 → (((4 : Int32) ≤ x1 → True) ∧ (¬ (4 : Int32) ≤ x1 → ((x2 < (1 : Int32) → True) ∧ (¬ x2 < (1 : Int32) → (((8 : Int32) < x2 → True) ∧ (¬ (8 : Int32) < x2 → ((x3 < 0 → True) ∧ (¬ x3 < 0 → (((7 : Int32) < x3 → True) ∧ (¬ (7 : Int32) < x3 → ((x4 < (4 : Int32) → True) ∧ (¬ x4 < (4 : Int32) → (((99 : Int32) < x4 → True) ∧ (¬ (99 : Int32) < x4 → ((x5 < (-1 : Int32) → True) ∧ (¬ x5 < (-1 : Int32) → (((T.1 105 57) ≤ x5 → True) ∧ (¬ (T.1 105 57) ≤ x5 → ((¬ (T.1 105 48) = (40 : Int32) → (vp_in (T.1 105 48) 40 ∧ (vp_in (T.1 105 48) 40 ∧ (vp_in (T.1 105 48) 40 ∧ (vp_in (T.1 105 48) 40 ∧ (vp_in (T.1 105 48) 40 ∧ (vp_in (T.1 105 48) 40 ∧ (vp_in (T.1 105 48) 40 ∧ vp_in (T.1 105 48) 40)))))))) ∧ ((T.1 105 48) = (40 : Int32) → True))))))))))))))))))))))))))
set_option maxRecDepth 10000 in
theorem c_X11_entry {d L sz : Nat} {T : tT} (hsz : 161 ≤ sz) (x0 : Int32) (x1 : Int32) (x2 : Int32) (x3 : Int32) (x4 : Int32) (x5 : Int32) (ok : ok_X11_entry sz T x0 x1 x2 x3 x4 x5) : tiK d mX11_entry [.ref 105, .int x0, .int x1, .int x2, .int x3, .int x4, .int x5] L sz T (fun r T' => r = (F_X11_entry T x0 x1 x2 x3 x4 x5).1 ∧ T' = (F_X11_entry T x0 x1 x2 x3 x4 x5).2) := by
  refine k_X11_entry hsz  x0 x1 x2 x3 x4 x5 ?_
  unfold ok_X11_entry at ok
  refine ⟨fun kq0 => ?_, fun kq0 => ?_⟩
  · replace ok := ok.1 kq0
    exact ⟨by unfold F_X11_entry; first | (rw [if_pos kq0]; done) | (rw [if_pos kq0]; rfl), by unfold F_X11_entry; first | (rw [if_pos kq0]; done) | (rw [if_pos kq0]; rfl)⟩
  · replace ok := ok.2 kq0
    refine ⟨fun kq1 => ?_, fun kq1 => ?_⟩
    · replace ok := ok.1 kq1
      exact ⟨by unfold F_X11_entry; first | (rw [if_neg kq0, if_pos kq1]; done) | (rw [if_neg kq0, if_pos kq1]; rfl), by unfold F_X11_entry; first | (rw [if_neg kq0, if_pos kq1]; done) | (rw [if_neg kq0, if_pos kq1]; rfl)⟩
    · replace ok := ok.2 kq1
      refine ⟨fun kq2 => ?_, fun kq2 => ?_⟩
      · replace ok := ok.1 kq2
        exact ⟨by unfold F_X11_entry; first | (rw [if_neg kq0, if_neg kq1, if_pos kq2]; done) | (rw [if_neg kq0, if_neg kq1, if_pos kq2]; rfl), by unfold F_X11_entry; first | (rw [if_neg kq0, if_neg kq1, if_pos kq2]; done) | (rw [if_neg kq0, if_neg kq1, if_pos kq2]; rfl)⟩
      · replace ok := ok.2 kq2
        refine ⟨fun kq3 => ?_, fun kq3 => ?_⟩
        · replace ok := ok.1 kq3
          exact ⟨by unfold F_X11_entry; first | (rw [if_neg kq0, if_neg kq1, if_neg kq2, if_pos kq3]; done) | (rw [if_neg kq0, if_neg kq1, if_neg kq2, if_pos kq3]; rfl), by unfold F_X11_entry; first | (rw [if_neg kq0, if_neg kq1, if_neg kq2, if_pos kq3]; done) | (rw [if_neg kq0, if_neg kq1, if_neg kq2, if_pos kq3]; rfl)⟩
        · replace ok := ok.2 kq3
          refine ⟨fun kq4 => ?_, fun kq4 => ?_⟩
          · replace ok := ok.1 kq4
            exact ⟨by unfold F_X11_entry; first | (rw [if_neg kq0, if_neg kq1, if_neg kq2, if_neg kq3, if_pos kq4]; done) | (rw [if_neg kq0, if_neg kq1, if_neg kq2, if_neg kq3, if_pos kq4]; rfl), by unfold F_X11_entry; first | (rw [if_neg kq0, if_neg kq1, if_neg kq2, if_neg kq3, if_pos kq4]; done) | (rw [if_neg kq0, if_neg kq1, if_neg kq2, if_neg kq3, if_pos kq4]; rfl)⟩
          · replace ok := ok.2 kq4
            refine ⟨fun kq5 => ?_, fun kq5 => ?_⟩
            · replace ok := ok.1 kq5
              exact ⟨by unfold F_X11_entry; first | (rw [if_neg kq0, if_neg kq1, if_neg kq2, if_neg kq3, if_neg kq4, if_pos kq5]; done) | (rw [if_neg kq0, if_neg kq1, if_neg kq2, if_neg kq3, if_neg kq4, if_pos kq5]; rfl), by unfold F_X11_entry; first | (rw [if_neg kq0, if_neg kq1, if_neg kq2, if_neg kq3, if_neg kq4, if_pos kq5]; done) | (rw [if_neg kq0, if_neg kq1, if_neg kq2, if_neg kq3, if_neg kq4, if_pos kq5]; rfl)⟩
            · replace ok := ok.2 kq5
              refine ⟨fun kq6 => ?_, fun kq6 => ?_⟩
              · replace ok := ok.1 kq6
                exact ⟨by unfold F_X11_entry; first | (rw [if_neg kq0, if_neg kq1, if_neg kq2, if_neg kq3, if_neg kq4, if_neg kq5, if_pos kq6]; done) | (rw [if_neg kq0, if_neg kq1, if_neg kq2, if_neg kq3, if_neg kq4, if_neg kq5, if_pos kq6]; rfl), by unfold F_X11_entry; first | (rw [if_neg kq0, if_neg kq1, if_neg kq2, if_neg kq3, if_neg kq4, if_neg kq5, if_pos kq6]; done) | (rw [if_neg kq0, if_neg kq1, if_neg kq2, if_neg kq3, if_neg kq4, if_neg kq5, if_pos kq6]; rfl)⟩
              · replace ok := ok.2 kq6
                refine ⟨fun kq7 => ?_, fun kq7 => ?_⟩
                · replace ok := ok.1 kq7
                  exact ⟨by unfold F_X11_entry; first | (rw [if_neg kq0, if_neg kq1, if_neg kq2, if_neg kq3, if_neg kq4, if_neg kq5, if_neg kq6, if_pos kq7]; done) | (rw [if_neg kq0, if_neg kq1, if_neg kq2, if_neg kq3, if_neg kq4, if_neg kq5, if_neg kq6, if_pos kq7]; rfl), by unfold F_X11_entry; first | (rw [if_neg kq0, if_neg kq1, if_neg kq2, if_neg kq3, if_neg kq4, if_neg kq5, if_neg kq6, if_pos kq7]; done) | (rw [if_neg kq0, if_neg kq1, if_neg kq2, if_neg kq3, if_neg kq4, if_neg kq5, if_neg kq6, if_pos kq7]; rfl)⟩
                · replace ok := ok.2 kq7
                  refine ⟨fun kq8 => ?_, fun kq8 => ?_⟩
                  · replace ok := ok.1 kq8
                    exact ⟨by unfold F_X11_entry; first | (rw [if_neg kq0, if_neg kq1, if_neg kq2, if_neg kq3, if_neg kq4, if_neg kq5, if_neg kq6, if_neg kq7, if_pos kq8]; done) | (rw [if_neg kq0, if_neg kq1, if_neg kq2, if_neg kq3, if_neg kq4, if_neg kq5, if_neg kq6, if_neg kq7, if_pos kq8]; rfl), by unfold F_X11_entry; first | (rw [if_neg kq0, if_neg kq1, if_neg kq2, if_neg kq3, if_neg kq4, if_neg kq5, if_neg kq6, if_neg kq7, if_pos kq8]; done) | (rw [if_neg kq0, if_neg kq1, if_neg kq2, if_neg kq3, if_neg kq4, if_neg kq5, if_neg kq6, if_neg kq7, if_pos kq8]; rfl)⟩
                  · replace ok := ok.2 kq8
                    refine ⟨fun kq9 => ?_, fun kq9 => ?_⟩
                    · replace ok := ok.1 kq9
                      exact ⟨by unfold F_X11_entry; first | (rw [if_neg kq0, if_neg kq1, if_neg kq2, if_neg kq3, if_neg kq4, if_neg kq5, if_neg kq6, if_neg kq7, if_neg kq8, if_pos kq9]; done) | (rw [if_neg kq0, if_neg kq1, if_neg kq2, if_neg kq3, if_neg kq4, if_neg kq5, if_neg kq6, if_neg kq7, if_neg kq8, if_pos kq9]; rfl), by unfold F_X11_entry; first | (rw [if_neg kq0, if_neg kq1, if_neg kq2, if_neg kq3, if_neg kq4, if_neg kq5, if_neg kq6, if_neg kq7, if_neg kq8, if_pos kq9]; done) | (rw [if_neg kq0, if_neg kq1, if_neg kq2, if_neg kq3, if_neg kq4, if_neg kq5, if_neg kq6, if_neg kq7, if_neg kq8, if_pos kq9]; rfl)⟩
                    · replace ok := ok.2 kq9
                      refine ⟨fun kq10 => ?_, fun kq10 => ?_⟩
                      · replace ok := ok.1 kq10
                        exact ⟨by unfold F_X11_entry; first | (rw [if_neg kq0, if_neg kq1, if_neg kq2, if_neg kq3, if_neg kq4, if_neg kq5, if_neg kq6, if_neg kq7, if_neg kq8, if_neg kq9, if_pos kq10]; done) | (rw [if_neg kq0, if_neg kq1, if_neg kq2, if_neg kq3, if_neg kq4, if_neg kq5, if_neg kq6, if_neg kq7, if_neg kq8, if_neg kq9, if_pos kq10]; rfl), by unfold F_X11_entry; first | (rw [if_neg kq0, if_neg kq1, if_neg kq2, if_neg kq3, if_neg kq4, if_neg kq5, if_neg kq6, if_neg kq7, if_neg kq8, if_neg kq9, if_pos kq10]; done) | (rw [if_neg kq0, if_neg kq1, if_neg kq2, if_neg kq3, if_neg kq4, if_neg kq5, if_neg kq6, if_neg kq7, if_neg kq8, if_neg kq9, if_pos kq10]; rfl)⟩
                      · replace ok := ok.2 kq10
                        refine ⟨fun kq11 => ?_, fun kq11 => ?_⟩
                        · replace ok := ok.1 kq11
                          exact ⟨by unfold F_X11_entry; first | (rw [if_neg kq0, if_neg kq1, if_neg kq2, if_neg kq3, if_neg kq4, if_neg kq5, if_neg kq6, if_neg kq7, if_neg kq8, if_neg kq9, if_neg kq10, if_pos kq11]; done) | (rw [if_neg kq0, if_neg kq1, if_neg kq2, if_neg kq3, if_neg kq4, if_neg kq5, if_neg kq6, if_neg kq7, if_neg kq8, if_neg kq9, if_neg kq10, if_pos kq11]; rfl), by unfold F_X11_entry; first | (rw [if_neg kq0, if_neg kq1, if_neg kq2, if_neg kq3, if_neg kq4, if_neg kq5, if_neg kq6, if_neg kq7, if_neg kq8, if_neg kq9, if_neg kq10, if_pos kq11]; done) | (rw [if_neg kq0, if_neg kq1, if_neg kq2, if_neg kq3, if_neg kq4, if_neg kq5, if_neg kq6, if_neg kq7, if_neg kq8, if_neg kq9, if_neg kq10, if_pos kq11]; rfl)⟩
                        · replace ok := ok.2 kq11
                          refine ⟨fun kq12 => ?_, fun kq12 => ?_⟩
                          · replace ok := ok.1 kq12
                            refine ⟨ok.1, ?_⟩
                            replace ok := ok.2
                            refine ⟨ok.1, ?_⟩
                            replace ok := ok.2
                            refine ⟨ok.1, ?_⟩
                            replace ok := ok.2
                            refine ⟨ok.1, ?_⟩
                            replace ok := ok.2
                            refine ⟨ok.1, ?_⟩
                            replace ok := ok.2
                            refine ⟨ok.1, ?_⟩
                            replace ok := ok.2
                            refine ⟨ok.1, ?_⟩
                            replace ok := ok.2
                            refine ⟨ok, ?_⟩
                            exact ⟨by unfold F_X11_entry; first | (rw [if_neg kq0, if_neg kq1, if_neg kq2, if_neg kq3, if_neg kq4, if_neg kq5, if_neg kq6, if_neg kq7, if_neg kq8, if_neg kq9, if_neg kq10, if_neg kq11, if_neg kq12]; done) | (rw [if_neg kq0, if_neg kq1, if_neg kq2, if_neg kq3, if_neg kq4, if_neg kq5, if_neg kq6, if_neg kq7, if_neg kq8, if_neg kq9, if_neg kq10, if_neg kq11, if_neg kq12]; rfl), by unfold F_X11_entry; first | (rw [if_neg kq0, if_neg kq1, if_neg kq2, if_neg kq3, if_neg kq4, if_neg kq5, if_neg kq6, if_neg kq7, if_neg kq8, if_neg kq9, if_neg kq10, if_neg kq11, if_neg kq12]; done) | (rw [if_neg kq0, if_neg kq1, if_neg kq2, if_neg kq3, if_neg kq4, if_neg kq5, if_neg kq6, if_neg kq7, if_neg kq8, if_neg kq9, if_neg kq10, if_neg kq11, if_neg kq12]; rfl)⟩
                          · replace ok := ok.2 kq12
                            exact ⟨by unfold F_X11_entry; first | (rw [if_neg kq0, if_neg kq1, if_neg kq2, if_neg kq3, if_neg kq4, if_neg kq5, if_neg kq6, if_neg kq7, if_neg kq8, if_neg kq9, if_neg kq10, if_neg kq11, if_pos kq12]; done) | (rw [if_neg kq0, if_neg kq1, if_neg kq2, if_neg kq3, if_neg kq4, if_neg kq5, if_neg kq6, if_neg kq7, if_neg kq8, if_neg kq9, if_neg kq10, if_neg kq11, if_pos kq12]; rfl), by unfold F_X11_entry; first | (rw [if_neg kq0, if_neg kq1, if_neg kq2, if_neg kq3, if_neg kq4, if_neg kq5, if_neg kq6, if_neg kq7, if_neg kq8, if_neg kq9, if_neg kq10, if_neg kq11, if_pos kq12]; done) | (rw [if_neg kq0, if_neg kq1, if_neg kq2, if_neg kq3, if_neg kq4, if_neg kq5, if_neg kq6, if_neg kq7, if_neg kq8, if_neg kq9, if_neg kq10, if_neg kq11, if_pos kq12]; rfl)⟩
def F_X11_fails (T : tT)  (x0 : Int32) (x1 : Int32) : tT := (if (T.1 105 4) ≤ 0 then (tI (tI T 105 4 x0) 105 5 x1) else T)
set_option maxRecDepth 10000 in
theorem c_X11_fails {d L sz : Nat} {T : tT} (hsz : 161 ≤ sz) (x0 : Int32) (x1 : Int32) : tvK d mX11_fails [.ref 105, .int x0, .int x1] L sz T (fun T' => T' = F_X11_fails T x0 x1) := by
  refine k_X11_fails hsz  x0 x1 ?_
  refine ⟨fun kq0 => ?_, fun kq0 => ?_⟩
  · exact (by unfold F_X11_fails; first | (rw [if_pos kq0]; done) | (rw [if_pos kq0]; rfl))
  · exact (by unfold F_X11_fails; first | (rw [if_neg kq0]; done) | (rw [if_neg kq0]; rfl))
def v_X11_fault (T : tT)  (x0 : Int32) : Int32 := (if x0 = 0 then (T.1 105 4) else (if x0 = (1 : Int32) then (T.1 105 5) else (-1 : Int32)))
set_option maxRecDepth 10000 in
theorem c_X11_fault {d L sz : Nat} {T : tT} (hsz : 161 ≤ sz) (x0 : Int32) : tiK d mX11_fault [.ref 105, .int x0] L sz T (fun r T' => r = v_X11_fault T x0 ∧ T = T') := by
  refine k_X11_fault hsz  x0 ?_
  refine ⟨fun kq0 => ?_, fun kq0 => ?_⟩
  · refine ⟨fun kq1 => ?_, fun kq1 => ?_⟩
    · exact ⟨by unfold v_X11_fault; first | (rw [if_neg kq0, if_neg kq1]; done) | (rw [if_neg kq0, if_neg kq1]; rfl), rfl⟩
    · exact ⟨by unfold v_X11_fault; first | (rw [if_neg kq0, if_pos kq1]; done) | (rw [if_neg kq0, if_pos kq1]; rfl), rfl⟩
  · exact ⟨by unfold v_X11_fault; first | (rw [if_pos kq0]; done) | (rw [if_pos kq0]; rfl), rfl⟩
def v_X11_isCentre (T : tT)  (x0 : Int32) : Int32 := (if x0 < 0 then (0 : Int32) else (if (T.1 105 56) ≤ x0 then (0 : Int32) else (1 : Int32)))
set_option maxRecDepth 10000 in
theorem c_X11_isCentre {d L sz : Nat} {T : tT} (hsz : 161 ≤ sz) (x0 : Int32) : tiK d mX11_isCentre [.ref 105, .int x0] L sz T (fun r T' => r = v_X11_isCentre T x0 ∧ T = T') := by
  refine k_X11_isCentre hsz  x0 ?_
  refine ⟨fun kq0 => ?_, fun kq0 => ?_⟩
  · exact ⟨by unfold v_X11_isCentre; first | (rw [if_pos kq0]; done) | (rw [if_pos kq0]; rfl), rfl⟩
  · refine ⟨fun kq1 => ?_, fun kq1 => ?_⟩
    · exact ⟨by unfold v_X11_isCentre; first | (rw [if_neg kq0, if_pos kq1]; done) | (rw [if_neg kq0, if_pos kq1]; rfl), rfl⟩
    · exact ⟨by unfold v_X11_isCentre; first | (rw [if_neg kq0, if_neg kq1]; done) | (rw [if_neg kq0, if_neg kq1]; rfl), rfl⟩
def v_X11_isDigit (T : tT)  (x0 : Int32) : Int32 := (if x0 < (48 : Int32) then (0 : Int32) else (if (57 : Int32) < x0 then (0 : Int32) else (1 : Int32)))
set_option maxRecDepth 10000 in
theorem c_X11_isDigit {d L sz : Nat} {T : tT} (hsz : 161 ≤ sz) (x0 : Int32) : tiK d mX11_isDigit [.int x0] L sz T (fun r T' => r = v_X11_isDigit T x0 ∧ T = T') := by
  refine k_X11_isDigit hsz  x0 ?_
  refine ⟨fun kq0 => ?_, fun kq0 => ?_⟩
  · exact ⟨by unfold v_X11_isDigit; first | (rw [if_pos kq0]; done) | (rw [if_pos kq0]; rfl), rfl⟩
  · refine ⟨fun kq1 => ?_, fun kq1 => ?_⟩
    · exact ⟨by unfold v_X11_isDigit; first | (rw [if_neg kq0, if_pos kq1]; done) | (rw [if_neg kq0, if_pos kq1]; rfl), rfl⟩
    · exact ⟨by unfold v_X11_isDigit; first | (rw [if_neg kq0, if_neg kq1]; done) | (rw [if_neg kq0, if_neg kq1]; rfl), rfl⟩
def v_X11_isEntry (T : tT)  (x0 : Int32) : Int32 := (if x0 < 0 then (0 : Int32) else (if (T.1 105 48) ≤ x0 then (0 : Int32) else (1 : Int32)))
set_option maxRecDepth 10000 in
theorem c_X11_isEntry {d L sz : Nat} {T : tT} (hsz : 161 ≤ sz) (x0 : Int32) : tiK d mX11_isEntry [.ref 105, .int x0] L sz T (fun r T' => r = v_X11_isEntry T x0 ∧ T = T') := by
  refine k_X11_isEntry hsz  x0 ?_
  refine ⟨fun kq0 => ?_, fun kq0 => ?_⟩
  · exact ⟨by unfold v_X11_isEntry; first | (rw [if_pos kq0]; done) | (rw [if_pos kq0]; rfl), rfl⟩
  · refine ⟨fun kq1 => ?_, fun kq1 => ?_⟩
    · exact ⟨by unfold v_X11_isEntry; first | (rw [if_neg kq0, if_pos kq1]; done) | (rw [if_neg kq0, if_pos kq1]; rfl), rfl⟩
    · exact ⟨by unfold v_X11_isEntry; first | (rw [if_neg kq0, if_neg kq1]; done) | (rw [if_neg kq0, if_neg kq1]; rfl), rfl⟩
def v_X11_isExaminer (T : tT)  (x0 : Int32) : Int32 := (if x0 < 0 then (0 : Int32) else (if (T.1 105 57) ≤ x0 then (0 : Int32) else (1 : Int32)))
set_option maxRecDepth 10000 in
theorem c_X11_isExaminer {d L sz : Nat} {T : tT} (hsz : 161 ≤ sz) (x0 : Int32) : tiK d mX11_isExaminer [.ref 105, .int x0] L sz T (fun r T' => r = v_X11_isExaminer T x0 ∧ T = T') := by
  refine k_X11_isExaminer hsz  x0 ?_
  refine ⟨fun kq0 => ?_, fun kq0 => ?_⟩
  · exact ⟨by unfold v_X11_isExaminer; first | (rw [if_pos kq0]; done) | (rw [if_pos kq0]; rfl), rfl⟩
  · refine ⟨fun kq1 => ?_, fun kq1 => ?_⟩
    · exact ⟨by unfold v_X11_isExaminer; first | (rw [if_neg kq0, if_pos kq1]; done) | (rw [if_neg kq0, if_pos kq1]; rfl), rfl⟩
    · exact ⟨by unfold v_X11_isExaminer; first | (rw [if_neg kq0, if_neg kq1]; done) | (rw [if_neg kq0, if_neg kq1]; rfl), rfl⟩
def v_X11_isGood (T : tT)   : Int32 := (if (T.1 105 4) = 0 then (1 : Int32) else (0 : Int32))
set_option maxRecDepth 10000 in
theorem c_X11_isGood {d L sz : Nat} {T : tT} (hsz : 161 ≤ sz)  : tiK d mX11_isGood [.ref 105] L sz T (fun r T' => r = v_X11_isGood T ∧ T = T') := by
  refine k_X11_isGood hsz   ?_
  refine ⟨fun kq0 => ?_, fun kq0 => ?_⟩
  · exact ⟨by unfold v_X11_isGood; first | (rw [if_neg kq0]; done) | (rw [if_neg kq0]; rfl), rfl⟩
  · exact ⟨by unfold v_X11_isGood; first | (rw [if_pos kq0]; done) | (rw [if_pos kq0]; rfl), rfl⟩
def v_X11_isKnown (T : tT)  (x0 : Int32) (x1 : Int32) : Int32 := (if x1 < (T.1 155 (x0.toNatClampNeg)) then (0 : Int32) else (if (T.1 156 (x0.toNatClampNeg)) < 0 then (1 : Int32) else (if (T.1 156 (x0.toNatClampNeg)) ≤ x1 then (0 : Int32) else (1 : Int32))))
def ok_X11_isKnown (sz : Nat) (T : tT)  (x0 : Int32) (x1 : Int32) : Prop := (vp_in x0 200 ∧ ((x1 < (T.1 155 (x0.toNatClampNeg)) → True) ∧ (¬ x1 < (T.1 155 (x0.toNatClampNeg)) → (vp_in x0 200 ∧ (((T.1 156 (x0.toNatClampNeg)) < 0 → True) ∧ (¬ (T.1 156 (x0.toNatClampNeg)) < 0 → vp_in x0 200))))))
set_option maxRecDepth 10000 in
theorem c_X11_isKnown {d L sz : Nat} {T : tT} (hsz : 161 ≤ sz) (x0 : Int32) (x1 : Int32) (ok : ok_X11_isKnown sz T x0 x1) : tiK d mX11_isKnown [.ref 105, .int x0, .int x1] L sz T (fun r T' => r = v_X11_isKnown T x0 x1 ∧ T = T') := by
  refine k_X11_isKnown hsz  x0 x1 ?_
  unfold ok_X11_isKnown at ok
  refine ⟨ok.1, ?_⟩
  replace ok := ok.2
  refine ⟨fun kq0 => ?_, fun kq0 => ?_⟩
  · replace ok := ok.1 kq0
    exact ⟨by unfold v_X11_isKnown; first | (rw [if_pos kq0]; done) | (rw [if_pos kq0]; rfl), rfl⟩
  · replace ok := ok.2 kq0
    refine ⟨ok.1, ?_⟩
    replace ok := ok.2
    refine ⟨fun kq1 => ?_, fun kq1 => ?_⟩
    · replace ok := ok.1 kq1
      exact ⟨by unfold v_X11_isKnown; first | (rw [if_neg kq0, if_pos kq1]; done) | (rw [if_neg kq0, if_pos kq1]; rfl), rfl⟩
    · replace ok := ok.2 kq1
      refine ⟨ok, ?_⟩
      refine ⟨fun kq2 => ?_, fun kq2 => ?_⟩
      · exact ⟨by unfold v_X11_isKnown; first | (rw [if_neg kq0, if_neg kq1, if_pos kq2]; done) | (rw [if_neg kq0, if_neg kq1, if_pos kq2]; rfl), rfl⟩
      · exact ⟨by unfold v_X11_isKnown; first | (rw [if_neg kq0, if_neg kq1, if_neg kq2]; done) | (rw [if_neg kq0, if_neg kq1, if_neg kq2]; rfl), rfl⟩
def v_X11_isLetter (T : tT)  (x0 : Int32) : Int32 := (if x0 < (97 : Int32) then (0 : Int32) else (if (122 : Int32) < x0 then (0 : Int32) else (1 : Int32)))
set_option maxRecDepth 10000 in
theorem c_X11_isLetter {d L sz : Nat} {T : tT} (hsz : 161 ≤ sz) (x0 : Int32) : tiK d mX11_isLetter [.int x0] L sz T (fun r T' => r = v_X11_isLetter T x0 ∧ T = T') := by
  refine k_X11_isLetter hsz  x0 ?_
  refine ⟨fun kq0 => ?_, fun kq0 => ?_⟩
  · exact ⟨by unfold v_X11_isLetter; first | (rw [if_pos kq0]; done) | (rw [if_pos kq0]; rfl), rfl⟩
  · refine ⟨fun kq1 => ?_, fun kq1 => ?_⟩
    · exact ⟨by unfold v_X11_isLetter; first | (rw [if_neg kq0, if_pos kq1]; done) | (rw [if_neg kq0, if_pos kq1]; rfl), rfl⟩
    · exact ⟨by unfold v_X11_isLetter; first | (rw [if_neg kq0, if_neg kq1]; done) | (rw [if_neg kq0, if_neg kq1]; rfl), rfl⟩
def v_X11_isMeant (T : tT)  (x0 : Int64) : Int32 := (if x0 = (7305070 : Int64) then (1 : Int32) else (if x0 = (123597974889843 : Int64) then (1 : Int32) else (if x0 = (6383461 : Int64) then (1 : Int32) else (if x0 = (500086104428 : Int64) then (1 : Int32) else (if x0 = (465557353332 : Int64) then (1 : Int32) else (0 : Int32))))))
set_option maxRecDepth 10000 in
theorem c_X11_isMeant {d L sz : Nat} {T : tT} (hsz : 161 ≤ sz) (x0 : Int64) : tiK d mX11_isMeant [.long x0] L sz T (fun r T' => r = v_X11_isMeant T x0 ∧ T = T') := by
  refine k_X11_isMeant hsz  x0 ?_
  refine ⟨fun kq0 => ?_, fun kq0 => ?_⟩
  · exact ⟨by unfold v_X11_isMeant; first | (rw [if_pos kq0]; done) | (rw [if_pos kq0]; rfl), rfl⟩
  · refine ⟨fun kq1 => ?_, fun kq1 => ?_⟩
    · exact ⟨by unfold v_X11_isMeant; first | (rw [if_neg kq0, if_pos kq1]; done) | (rw [if_neg kq0, if_pos kq1]; rfl), rfl⟩
    · refine ⟨fun kq2 => ?_, fun kq2 => ?_⟩
      · exact ⟨by unfold v_X11_isMeant; first | (rw [if_neg kq0, if_neg kq1, if_pos kq2]; done) | (rw [if_neg kq0, if_neg kq1, if_pos kq2]; rfl), rfl⟩
      · refine ⟨fun kq3 => ?_, fun kq3 => ?_⟩
        · exact ⟨by unfold v_X11_isMeant; first | (rw [if_neg kq0, if_neg kq1, if_neg kq2, if_pos kq3]; done) | (rw [if_neg kq0, if_neg kq1, if_neg kq2, if_pos kq3]; rfl), rfl⟩
        · refine ⟨fun kq4 => ?_, fun kq4 => ?_⟩
          · exact ⟨by unfold v_X11_isMeant; first | (rw [if_neg kq0, if_neg kq1, if_neg kq2, if_neg kq3, if_neg kq4]; done) | (rw [if_neg kq0, if_neg kq1, if_neg kq2, if_neg kq3, if_neg kq4]; rfl), rfl⟩
          · exact ⟨by unfold v_X11_isMeant; first | (rw [if_neg kq0, if_neg kq1, if_neg kq2, if_neg kq3, if_pos kq4]; done) | (rw [if_neg kq0, if_neg kq1, if_neg kq2, if_neg kq3, if_pos kq4]; rfl), rfl⟩
def v_X11_isSession (T : tT)  (x0 : Int32) : Int32 := (if x0 < 0 then (0 : Int32) else (if (T.1 105 58) ≤ x0 then (0 : Int32) else (1 : Int32)))
set_option maxRecDepth 10000 in
theorem c_X11_isSession {d L sz : Nat} {T : tT} (hsz : 161 ≤ sz) (x0 : Int32) : tiK d mX11_isSession [.ref 105, .int x0] L sz T (fun r T' => r = v_X11_isSession T x0 ∧ T = T') := by
  refine k_X11_isSession hsz  x0 ?_
  refine ⟨fun kq0 => ?_, fun kq0 => ?_⟩
  · exact ⟨by unfold v_X11_isSession; first | (rw [if_pos kq0]; done) | (rw [if_pos kq0]; rfl), rfl⟩
  · refine ⟨fun kq1 => ?_, fun kq1 => ?_⟩
    · exact ⟨by unfold v_X11_isSession; first | (rw [if_neg kq0, if_pos kq1]; done) | (rw [if_neg kq0, if_pos kq1]; rfl), rfl⟩
    · exact ⟨by unfold v_X11_isSession; first | (rw [if_neg kq0, if_neg kq1]; done) | (rw [if_neg kq0, if_neg kq1]; rfl), rfl⟩
def v_X11_isWord (T : tT)  (x0 : Int64) : Int32 := (if (T.1 105 8) = (3 : Int32) then (if (T.2.1 105 10) = x0 then (1 : Int32) else (0 : Int32)) else (0 : Int32))
set_option maxRecDepth 10000 in
theorem c_X11_isWord {d L sz : Nat} {T : tT} (hsz : 161 ≤ sz) (x0 : Int64) : tiK d mX11_isWord [.ref 105, .long x0] L sz T (fun r T' => r = v_X11_isWord T x0 ∧ T = T') := by
  refine k_X11_isWord hsz  x0 ?_
  refine ⟨fun kq0 => ?_, fun kq0 => ?_⟩
  · exact ⟨by unfold v_X11_isWord; first | (rw [if_neg kq0]; done) | (rw [if_neg kq0]; rfl), rfl⟩
  · refine ⟨fun kq1 => ?_, fun kq1 => ?_⟩
    · exact ⟨by unfold v_X11_isWord; first | (rw [if_pos kq0, if_neg kq1]; done) | (rw [if_pos kq0, if_neg kq1]; rfl), rfl⟩
    · exact ⟨by unfold v_X11_isWord; first | (rw [if_pos kq0, if_pos kq1]; done) | (rw [if_pos kq0, if_pos kq1]; rfl), rfl⟩
def F_X11_later (T : tT)  (x0 : Int32) : Int32 × tT := (if x0 < 0 then ((-1 : Int32), T) else (if (1000 : Int32) < x0 then ((-1 : Int32), T) else (if ((T.1 105 71) + x0) ≤ (100000 : Int32) then (((T.1 105 71) + x0), (tI T 105 71 ((T.1 105 71) + x0))) else ((-1 : Int32), T))))
set_option maxRecDepth 10000 in
theorem c_X11_later {d L sz : Nat} {T : tT} (hsz : 161 ≤ sz) (x0 : Int32) : tiK d mX11_later [.ref 105, .int x0] L sz T (fun r T' => r = (F_X11_later T x0).1 ∧ T' = (F_X11_later T x0).2) := by
  refine k_X11_later hsz  x0 ?_
  refine ⟨fun kq0 => ?_, fun kq0 => ?_⟩
  · exact ⟨by unfold F_X11_later; first | (rw [if_pos kq0]; done) | (rw [if_pos kq0]; rfl), by unfold F_X11_later; first | (rw [if_pos kq0]; done) | (rw [if_pos kq0]; rfl)⟩
  · refine ⟨fun kq1 => ?_, fun kq1 => ?_⟩
    · exact ⟨by unfold F_X11_later; first | (rw [if_neg kq0, if_pos kq1]; done) | (rw [if_neg kq0, if_pos kq1]; rfl), by unfold F_X11_later; first | (rw [if_neg kq0, if_pos kq1]; done) | (rw [if_neg kq0, if_pos kq1]; rfl)⟩
    · refine ⟨fun kq2 => ?_, fun kq2 => ?_⟩
      · exact ⟨by unfold F_X11_later; first | (rw [if_neg kq0, if_neg kq1, if_pos kq2]; done) | (rw [if_neg kq0, if_neg kq1, if_pos kq2]; rfl), by unfold F_X11_later; first | (rw [if_neg kq0, if_neg kq1, if_pos kq2]; done) | (rw [if_neg kq0, if_neg kq1, if_pos kq2]; rfl)⟩
      · exact ⟨by unfold F_X11_later; first | (rw [if_neg kq0, if_neg kq1, if_neg kq2]; done) | (rw [if_neg kq0, if_neg kq1, if_neg kq2]; rfl), by unfold F_X11_later; first | (rw [if_neg kq0, if_neg kq1, if_neg kq2]; done) | (rw [if_neg kq0, if_neg kq1, if_neg kq2]; rfl)⟩
def v_X11_minutesOf (T : tT)  (x0 : Int32) : Int32 := (if x0 < 0 then (10 : Int32) else (if (T.1 116 (x0.toNatClampNeg)) = 0 then (10 : Int32) else (T.1 116 (x0.toNatClampNeg))))
def ok_X11_minutesOf (sz : Nat) (T : tT)  (x0 : Int32) : Prop := ((x0 < 0 → True) ∧ (¬ x0 < 0 → (vp_in x0 40 ∧ ((¬ (T.1 116 (x0.toNatClampNeg)) = 0 → vp_in x0 40) ∧ ((T.1 116 (x0.toNatClampNeg)) = 0 → True)))))
set_option maxRecDepth 10000 in
theorem c_X11_minutesOf {d L sz : Nat} {T : tT} (hsz : 161 ≤ sz) (x0 : Int32) (ok : ok_X11_minutesOf sz T x0) : tiK d mX11_minutesOf [.ref 105, .int x0] L sz T (fun r T' => r = v_X11_minutesOf T x0 ∧ T = T') := by
  refine k_X11_minutesOf hsz  x0 ?_
  unfold ok_X11_minutesOf at ok
  refine ⟨fun kq0 => ?_, fun kq0 => ?_⟩
  · replace ok := ok.1 kq0
    exact ⟨by unfold v_X11_minutesOf; first | (rw [if_pos kq0]; done) | (rw [if_pos kq0]; rfl), rfl⟩
  · replace ok := ok.2 kq0
    refine ⟨ok.1, ?_⟩
    replace ok := ok.2
    refine ⟨fun kq1 => ?_, fun kq1 => ?_⟩
    · replace ok := ok.1 kq1
      refine ⟨ok, ?_⟩
      exact ⟨by unfold v_X11_minutesOf; first | (rw [if_neg kq0, if_neg kq1]; done) | (rw [if_neg kq0, if_neg kq1]; rfl), rfl⟩
    · replace ok := ok.2 kq1
      exact ⟨by unfold v_X11_minutesOf; first | (rw [if_neg kq0, if_pos kq1]; done) | (rw [if_neg kq0, if_pos kq1]; rfl), rfl⟩
def F_X11_pile (T : tT)  (x0 : Int32) (x1 : Int32) : tT := (tI (tI (tI T 129 ((T.1 105 37).toNatClampNeg) x0) 130 ((T.1 105 37).toNatClampNeg) x1) 105 37 ((T.1 105 37) + (1 : Int32)))
def ok_X11_pile (sz : Nat) (T : tT)  (x0 : Int32) (x1 : Int32) : Prop := (vp_in (T.1 105 37) 80 ∧ vp_in (T.1 105 37) 80)
set_option maxRecDepth 10000 in
theorem c_X11_pile {d L sz : Nat} {T : tT} (hsz : 161 ≤ sz) (x0 : Int32) (x1 : Int32) (ok : ok_X11_pile sz T x0 x1) : tvK d mX11_pile [.ref 105, .int x0, .int x1] L sz T (fun T' => T' = F_X11_pile T x0 x1) := by
  refine k_X11_pile hsz  x0 x1 ?_
  unfold ok_X11_pile at ok
  refine ⟨ok.1, ?_⟩
  replace ok := ok.2
  refine ⟨ok, ?_⟩
  exact (by unfold F_X11_pile; rfl)
def F_X11_session (T : tT)  (x0 : Int32) (x1 : Int32) : Int32 × tT := (if (v_X11_isCentre T x0) = 0 then ((-1 : Int32), T) else (if x1 < 0 then ((-1 : Int32), T) else (if (99 : Int32) < x1 then ((-1 : Int32), T) else (if (T.1 105 58) = (9 : Int32) then ((-1 : Int32), T) else ((((T.1 105 58) + (1 : Int32)) - (1 : Int32)), (tI (tI (tI T 145 ((T.1 105 58).toNatClampNeg) x0) 146 ((T.1 105 58).toNatClampNeg) x1) 105 58 ((T.1 105 58) + (1 : Int32))))))))
def ok_X11_session (sz : Nat) (T : tT)  (x0 : Int32) (x1 : Int32) : Prop := (((v_X11_isCentre T x0) = 0 → True) ∧ (¬ (v_X11_isCentre T x0) = 0 → ((x1 < 0 → True) ∧ (¬ x1 < 0 → (((99 : Int32) < x1 → True) ∧ (¬ (99 : Int32) < x1 → ((¬ (T.1 105 58) = (9 : Int32) → (vp_in (T.1 105 58) 9 ∧ vp_in (T.1 105 58) 9)) ∧ ((T.1 105 58) = (9 : Int32) → True))))))))
set_option maxRecDepth 10000 in
theorem c_X11_session {d L sz : Nat} {T : tT} (hsz : 161 ≤ sz) (x0 : Int32) (x1 : Int32) (ok : ok_X11_session sz T x0 x1) : tiK (d + 1) mX11_session [.ref 105, .int x0, .int x1] L sz T (fun r T' => r = (F_X11_session T x0 x1).1 ∧ T' = (F_X11_session T x0 x1).2) := by
  refine k_X11_session hsz  x0 x1 ?_
  unfold ok_X11_session at ok
  refine ⟨_, c_X11_isCentre hsz  x0 , ?_⟩
  rintro _ _ ⟨rfl, rfl⟩
  refine ⟨fun kq0 => ?_, fun kq0 => ?_⟩
  · replace ok := ok.1 kq0
    exact ⟨by unfold F_X11_session; first | (rw [if_pos kq0]; done) | (rw [if_pos kq0]; rfl), by unfold F_X11_session; first | (rw [if_pos kq0]; done) | (rw [if_pos kq0]; rfl)⟩
  · replace ok := ok.2 kq0
    refine ⟨fun kq1 => ?_, fun kq1 => ?_⟩
    · replace ok := ok.1 kq1
      exact ⟨by unfold F_X11_session; first | (rw [if_neg kq0, if_pos kq1]; done) | (rw [if_neg kq0, if_pos kq1]; rfl), by unfold F_X11_session; first | (rw [if_neg kq0, if_pos kq1]; done) | (rw [if_neg kq0, if_pos kq1]; rfl)⟩
    · replace ok := ok.2 kq1
      refine ⟨fun kq2 => ?_, fun kq2 => ?_⟩
      · replace ok := ok.1 kq2
        exact ⟨by unfold F_X11_session; first | (rw [if_neg kq0, if_neg kq1, if_pos kq2]; done) | (rw [if_neg kq0, if_neg kq1, if_pos kq2]; rfl), by unfold F_X11_session; first | (rw [if_neg kq0, if_neg kq1, if_pos kq2]; done) | (rw [if_neg kq0, if_neg kq1, if_pos kq2]; rfl)⟩
      · replace ok := ok.2 kq2
        refine ⟨fun kq3 => ?_, fun kq3 => ?_⟩
        · replace ok := ok.1 kq3
          refine ⟨ok.1, ?_⟩
          replace ok := ok.2
          refine ⟨ok, ?_⟩
          exact ⟨by unfold F_X11_session; first | (rw [if_neg kq0, if_neg kq1, if_neg kq2, if_neg kq3]; done) | (rw [if_neg kq0, if_neg kq1, if_neg kq2, if_neg kq3]; rfl), by unfold F_X11_session; first | (rw [if_neg kq0, if_neg kq1, if_neg kq2, if_neg kq3]; done) | (rw [if_neg kq0, if_neg kq1, if_neg kq2, if_neg kq3]; rfl)⟩
        · replace ok := ok.2 kq3
          exact ⟨by unfold F_X11_session; first | (rw [if_neg kq0, if_neg kq1, if_neg kq2, if_pos kq3]; done) | (rw [if_neg kq0, if_neg kq1, if_neg kq2, if_pos kq3]; rfl), by unfold F_X11_session; first | (rw [if_neg kq0, if_neg kq1, if_neg kq2, if_pos kq3]; done) | (rw [if_neg kq0, if_neg kq1, if_neg kq2, if_pos kq3]; rfl)⟩
def v_X11_sign (T : tT)  (x0 : Int32) : Int32 := (if (T.1 105 3) ≤ x0 then (0 : Int32) else ((T.1 107 (x0.toNatClampNeg)) &&& (255 : Int32)))
def ok_X11_sign (sz : Nat) (T : tT)  (x0 : Int32) : Prop := (((T.1 105 3) ≤ x0 → True) ∧ (¬ (T.1 105 3) ≤ x0 → vp_in x0 1400))
set_option maxRecDepth 10000 in
theorem c_X11_sign {d L sz : Nat} {T : tT} (hsz : 161 ≤ sz) (x0 : Int32) (ok : ok_X11_sign sz T x0) : tiK d mX11_sign [.ref 105, .int x0] L sz T (fun r T' => r = v_X11_sign T x0 ∧ T = T') := by
  refine k_X11_sign hsz  x0 ?_
  unfold ok_X11_sign at ok
  refine ⟨fun kq0 => ?_, fun kq0 => ?_⟩
  · replace ok := ok.1 kq0
    exact ⟨by unfold v_X11_sign; first | (rw [if_pos kq0]; done) | (rw [if_pos kq0]; rfl), rfl⟩
  · replace ok := ok.2 kq0
    refine ⟨ok, ?_⟩
    exact ⟨by unfold v_X11_sign; first | (rw [if_neg kq0]; done) | (rw [if_neg kq0]; rfl), rfl⟩
def v_X11_spot (T : tT)  (x0 : Int32) (x1 : Int32) : Int32 := (if x0 < 0 then (-1 : Int32) else (if (4 : Int32) ≤ x0 then (-1 : Int32) else (if (T.1 109 (x0.toNatClampNeg)) = 0 then (-1 : Int32) else (if x1 < (1 : Int32) then (-1 : Int32) else (if x1 ≤ (8 : Int32) then (if (T.1 110 ((((8 : Int32) * (T.1 108 (x0.toNatClampNeg))) + x1) - (1 : Int32)).toNatClampNeg) = 0 then (-1 : Int32) else ((((8 : Int32) * (T.1 108 (x0.toNatClampNeg))) + x1) - (1 : Int32))) else (-1 : Int32))))))
def ok_X11_spot (sz : Nat) (T : tT)  (x0 : Int32) (x1 : Int32) : Prop := ((x0 < 0 → True) ∧ (¬ x0 < 0 → (((4 : Int32) ≤ x0 → True) ∧ (¬ (4 : Int32) ≤ x0 → (vp_in x0 4 ∧ (((T.1 109 (x0.toNatClampNeg)) = 0 → True) ∧ (¬ (T.1 109 (x0.toNatClampNeg)) = 0 → ((x1 < (1 : Int32) → True) ∧ (¬ x1 < (1 : Int32) → ((x1 ≤ (8 : Int32) → (vp_in x0 4 ∧ vp_in ((((8 : Int32) * (T.1 108 (x0.toNatClampNeg))) + x1) - (1 : Int32)) 40)) ∧ (¬ x1 ≤ (8 : Int32) → True)))))))))))
set_option maxRecDepth 10000 in
theorem c_X11_spot {d L sz : Nat} {T : tT} (hsz : 161 ≤ sz) (x0 : Int32) (x1 : Int32) (ok : ok_X11_spot sz T x0 x1) : tiK d mX11_spot [.ref 105, .int x0, .int x1] L sz T (fun r T' => r = v_X11_spot T x0 x1 ∧ T = T') := by
  refine k_X11_spot hsz  x0 x1 ?_
  unfold ok_X11_spot at ok
  refine ⟨fun kq0 => ?_, fun kq0 => ?_⟩
  · replace ok := ok.1 kq0
    exact ⟨by unfold v_X11_spot; first | (rw [if_pos kq0]; done) | (rw [if_pos kq0]; rfl), rfl⟩
  · replace ok := ok.2 kq0
    refine ⟨fun kq1 => ?_, fun kq1 => ?_⟩
    · replace ok := ok.1 kq1
      exact ⟨by unfold v_X11_spot; first | (rw [if_neg kq0, if_pos kq1]; done) | (rw [if_neg kq0, if_pos kq1]; rfl), rfl⟩
    · replace ok := ok.2 kq1
      refine ⟨ok.1, ?_⟩
      replace ok := ok.2
      refine ⟨fun kq2 => ?_, fun kq2 => ?_⟩
      · replace ok := ok.1 kq2
        exact ⟨by unfold v_X11_spot; first | (rw [if_neg kq0, if_neg kq1, if_pos kq2]; done) | (rw [if_neg kq0, if_neg kq1, if_pos kq2]; rfl), rfl⟩
      · replace ok := ok.2 kq2
        refine ⟨fun kq3 => ?_, fun kq3 => ?_⟩
        · replace ok := ok.1 kq3
          exact ⟨by unfold v_X11_spot; first | (rw [if_neg kq0, if_neg kq1, if_neg kq2, if_pos kq3]; done) | (rw [if_neg kq0, if_neg kq1, if_neg kq2, if_pos kq3]; rfl), rfl⟩
        · replace ok := ok.2 kq3
          refine ⟨fun kq4 => ?_, fun kq4 => ?_⟩
          · replace ok := ok.1 kq4
            refine ⟨ok.1, ?_⟩
            replace ok := ok.2
            refine ⟨ok, ?_⟩
            refine ⟨fun kq5 => ?_, fun kq5 => ?_⟩
            · exact ⟨by unfold v_X11_spot; first | (rw [if_neg kq0, if_neg kq1, if_neg kq2, if_neg kq3, if_pos kq4, if_pos kq5]; done) | (rw [if_neg kq0, if_neg kq1, if_neg kq2, if_neg kq3, if_pos kq4, if_pos kq5]; rfl), rfl⟩
            · exact ⟨by unfold v_X11_spot; first | (rw [if_neg kq0, if_neg kq1, if_neg kq2, if_neg kq3, if_pos kq4, if_neg kq5]; done) | (rw [if_neg kq0, if_neg kq1, if_neg kq2, if_neg kq3, if_pos kq4, if_neg kq5]; rfl), rfl⟩
          · replace ok := ok.2 kq4
            exact ⟨by unfold v_X11_spot; first | (rw [if_neg kq0, if_neg kq1, if_neg kq2, if_neg kq3, if_neg kq4]; done) | (rw [if_neg kq0, if_neg kq1, if_neg kq2, if_neg kq3, if_neg kq4]; rfl), rfl⟩
def v_X11_spotOf (T : tT)  (x0 : Int32) : Int32 := (v_X11_spot T (T.1 132 (x0.toNatClampNeg)) (T.1 133 (x0.toNatClampNeg)))
def ok_X11_spotOf (sz : Nat) (T : tT)  (x0 : Int32) : Prop := (vp_in x0 40 ∧ (vp_in x0 40 ∧ (ok_X11_spot sz T (T.1 132 (x0.toNatClampNeg)) (T.1 133 (x0.toNatClampNeg)) ∧ True)))
set_option maxRecDepth 10000 in
theorem c_X11_spotOf {d L sz : Nat} {T : tT} (hsz : 161 ≤ sz) (x0 : Int32) (ok : ok_X11_spotOf sz T x0) : tiK (d + 1) mX11_spotOf [.ref 105, .int x0] L sz T (fun r T' => r = v_X11_spotOf T x0 ∧ T = T') := by
  refine k_X11_spotOf hsz  x0 ?_
  unfold ok_X11_spotOf at ok
  refine ⟨ok.1, ?_⟩
  replace ok := ok.2
  refine ⟨ok.1, ?_⟩
  replace ok := ok.2
  refine ⟨_, c_X11_spot hsz  (T.1 132 (x0.toNatClampNeg)) (T.1 133 (x0.toNatClampNeg)) ok.1, ?_⟩
  rintro _ _ ⟨rfl, rfl⟩
  replace ok := ok.2
  exact ⟨by unfold v_X11_spotOf; rfl, rfl⟩
def F_X11_step (T : tT)  (x0 : Int32) (x1 : Int32) : tT := (tI (tI (tI T 123 ((((1500 : Int32) * (T.1 105 12)) + (T.1 105 14)).toNatClampNeg) x0) 124 ((((1500 : Int32) * (T.1 105 12)) + (T.1 105 14)).toNatClampNeg) x1) 105 14 ((T.1 105 14) + (1 : Int32)))
def ok_X11_step (sz : Nat) (T : tT)  (x0 : Int32) (x1 : Int32) : Prop := (vp_in (((1500 : Int32) * (T.1 105 12)) + (T.1 105 14)) 7500 ∧ vp_in (((1500 : Int32) * (T.1 105 12)) + (T.1 105 14)) 7500)
set_option maxRecDepth 10000 in
theorem c_X11_step {d L sz : Nat} {T : tT} (hsz : 161 ≤ sz) (x0 : Int32) (x1 : Int32) (ok : ok_X11_step sz T x0 x1) : tvK d mX11_step [.ref 105, .int x0, .int x1] L sz T (fun T' => T' = F_X11_step T x0 x1) := by
  refine k_X11_step hsz  x0 x1 ?_
  unfold ok_X11_step at ok
  refine ⟨ok.1, ?_⟩
  replace ok := ok.2
  refine ⟨ok, ?_⟩
  exact (by unfold F_X11_step; rfl)
def F_X11_tell (T : tT)  (x0 : Int32) (x1 : Int32) (x2 : Int32) (x3 : Int32) : Int32 × tT := (if (v_X11_isEntry T x0) = 0 then ((-1 : Int32), T) else (if (v_X11_spotOf T x0) < 0 then ((-1 : Int32), T) else (if x2 < 0 then ((-1 : Int32), T) else (if (T.1 113 ((v_X11_spotOf T x0).toNatClampNeg)) ≤ x2 then ((-1 : Int32), T) else (if x3 < 0 then ((-1 : Int32), T) else (if (T.1 114 (((6 : Int32) * (v_X11_spotOf T x0)) + x2).toNatClampNeg) < x3 then ((-1 : Int32), T) else (if (T.1 105 70) = (200 : Int32) then ((-1 : Int32), T) else ((((T.1 105 70) + (1 : Int32)) - (1 : Int32)), (tI (tI (tI (tI (tI (tI (tI T 151 ((T.1 105 70).toNatClampNeg) x0) 152 ((T.1 105 70).toNatClampNeg) x1) 153 ((T.1 105 70).toNatClampNeg) x2) 154 ((T.1 105 70).toNatClampNeg) x3) 155 ((T.1 105 70).toNatClampNeg) (T.1 105 71)) 156 ((T.1 105 70).toNatClampNeg) (-1 : Int32)) 105 70 ((T.1 105 70) + (1 : Int32)))))))))))
def ok_X11_tell (sz : Nat) (T : tT)  (x0 : Int32) (x1 : Int32) (x2 : Int32) (x3 : Int32) : Prop := (((v_X11_isEntry T x0) = 0 → True) ∧ (¬ (v_X11_isEntry T x0) = 0 → (ok_X11_spotOf sz T x0 ∧ (((v_X11_spotOf T x0) < 0 → True) ∧ (¬ (v_X11_spotOf T x0) < 0 → ((x2 < 0 → True) ∧ (¬ x2 < 0 → (vp_in (v_X11_spotOf T x0) 40 ∧ (((T.1 113 ((v_X11_spotOf T x0).toNatClampNeg)) ≤ x2 → True) ∧ (¬ (T.1 113 ((v_X11_spotOf T x0).toNatClampNeg)) ≤ x2 → ((x3 < 0 → True) ∧ (¬ x3 < 0 → (vp_in (((6 : Int32) * (v_X11_spotOf T x0)) + x2) 240 ∧ (((T.1 114 (((6 : Int32) * (v_X11_spotOf T x0)) + x2).toNatClampNeg) < x3 → True) ∧ (¬ (T.1 114 (((6 : Int32) * (v_X11_spotOf T x0)) + x2).toNatClampNeg) < x3 → ((¬ (T.1 105 70) = (200 : Int32) → (vp_in (T.1 105 70) 200 ∧ (vp_in (T.1 105 70) 200 ∧ (vp_in (T.1 105 70) 200 ∧ (vp_in (T.1 105 70) 200 ∧ (vp_in (T.1 105 70) 200 ∧ vp_in (T.1 105 70) 200)))))) ∧ ((T.1 105 70) = (200 : Int32) → True)))))))))))))))))
set_option maxRecDepth 10000 in
theorem c_X11_tell {d L sz : Nat} {T : tT} (hsz : 161 ≤ sz) (x0 : Int32) (x1 : Int32) (x2 : Int32) (x3 : Int32) (ok : ok_X11_tell sz T x0 x1 x2 x3) : tiK (d + 2) mX11_tell [.ref 105, .int x0, .int x1, .int x2, .int x3] L sz T (fun r T' => r = (F_X11_tell T x0 x1 x2 x3).1 ∧ T' = (F_X11_tell T x0 x1 x2 x3).2) := by
  refine k_X11_tell hsz  x0 x1 x2 x3 ?_
  unfold ok_X11_tell at ok
  refine ⟨_, c_X11_isEntry hsz  x0 , ?_⟩
  rintro _ _ ⟨rfl, rfl⟩
  refine ⟨fun kq0 => ?_, fun kq0 => ?_⟩
  · replace ok := ok.1 kq0
    exact ⟨by unfold F_X11_tell; first | (rw [if_pos kq0]; done) | (rw [if_pos kq0]; rfl), by unfold F_X11_tell; first | (rw [if_pos kq0]; done) | (rw [if_pos kq0]; rfl)⟩
  · replace ok := ok.2 kq0
    refine ⟨_, c_X11_spotOf hsz  x0 ok.1, ?_⟩
    rintro _ _ ⟨rfl, rfl⟩
    replace ok := ok.2
    refine ⟨fun kq1 => ?_, fun kq1 => ?_⟩
    · replace ok := ok.1 kq1
      exact ⟨by unfold F_X11_tell; first | (rw [if_neg kq0, if_pos kq1]; done) | (rw [if_neg kq0, if_pos kq1]; rfl), by unfold F_X11_tell; first | (rw [if_neg kq0, if_pos kq1]; done) | (rw [if_neg kq0, if_pos kq1]; rfl)⟩
    · replace ok := ok.2 kq1
      refine ⟨fun kq2 => ?_, fun kq2 => ?_⟩
      · replace ok := ok.1 kq2
        exact ⟨by unfold F_X11_tell; first | (rw [if_neg kq0, if_neg kq1, if_pos kq2]; done) | (rw [if_neg kq0, if_neg kq1, if_pos kq2]; rfl), by unfold F_X11_tell; first | (rw [if_neg kq0, if_neg kq1, if_pos kq2]; done) | (rw [if_neg kq0, if_neg kq1, if_pos kq2]; rfl)⟩
      · replace ok := ok.2 kq2
        refine ⟨ok.1, ?_⟩
        replace ok := ok.2
        refine ⟨fun kq3 => ?_, fun kq3 => ?_⟩
        · replace ok := ok.1 kq3
          exact ⟨by unfold F_X11_tell; first | (rw [if_neg kq0, if_neg kq1, if_neg kq2, if_pos kq3]; done) | (rw [if_neg kq0, if_neg kq1, if_neg kq2, if_pos kq3]; rfl), by unfold F_X11_tell; first | (rw [if_neg kq0, if_neg kq1, if_neg kq2, if_pos kq3]; done) | (rw [if_neg kq0, if_neg kq1, if_neg kq2, if_pos kq3]; rfl)⟩
        · replace ok := ok.2 kq3
          refine ⟨fun kq4 => ?_, fun kq4 => ?_⟩
          · replace ok := ok.1 kq4
            exact ⟨by unfold F_X11_tell; first | (rw [if_neg kq0, if_neg kq1, if_neg kq2, if_neg kq3, if_pos kq4]; done) | (rw [if_neg kq0, if_neg kq1, if_neg kq2, if_neg kq3, if_pos kq4]; rfl), by unfold F_X11_tell; first | (rw [if_neg kq0, if_neg kq1, if_neg kq2, if_neg kq3, if_pos kq4]; done) | (rw [if_neg kq0, if_neg kq1, if_neg kq2, if_neg kq3, if_pos kq4]; rfl)⟩
          · replace ok := ok.2 kq4
            refine ⟨ok.1, ?_⟩
            replace ok := ok.2
            refine ⟨fun kq5 => ?_, fun kq5 => ?_⟩
            · replace ok := ok.1 kq5
              exact ⟨by unfold F_X11_tell; first | (rw [if_neg kq0, if_neg kq1, if_neg kq2, if_neg kq3, if_neg kq4, if_pos kq5]; done) | (rw [if_neg kq0, if_neg kq1, if_neg kq2, if_neg kq3, if_neg kq4, if_pos kq5]; rfl), by unfold F_X11_tell; first | (rw [if_neg kq0, if_neg kq1, if_neg kq2, if_neg kq3, if_neg kq4, if_pos kq5]; done) | (rw [if_neg kq0, if_neg kq1, if_neg kq2, if_neg kq3, if_neg kq4, if_pos kq5]; rfl)⟩
            · replace ok := ok.2 kq5
              refine ⟨fun kq6 => ?_, fun kq6 => ?_⟩
              · replace ok := ok.1 kq6
                refine ⟨ok.1, ?_⟩
                replace ok := ok.2
                refine ⟨ok.1, ?_⟩
                replace ok := ok.2
                refine ⟨ok.1, ?_⟩
                replace ok := ok.2
                refine ⟨ok.1, ?_⟩
                replace ok := ok.2
                refine ⟨ok.1, ?_⟩
                replace ok := ok.2
                refine ⟨ok, ?_⟩
                exact ⟨by unfold F_X11_tell; first | (rw [if_neg kq0, if_neg kq1, if_neg kq2, if_neg kq3, if_neg kq4, if_neg kq5, if_neg kq6]; done) | (rw [if_neg kq0, if_neg kq1, if_neg kq2, if_neg kq3, if_neg kq4, if_neg kq5, if_neg kq6]; rfl), by unfold F_X11_tell; first | (rw [if_neg kq0, if_neg kq1, if_neg kq2, if_neg kq3, if_neg kq4, if_neg kq5, if_neg kq6]; done) | (rw [if_neg kq0, if_neg kq1, if_neg kq2, if_neg kq3, if_neg kq4, if_neg kq5, if_neg kq6]; rfl)⟩
              · replace ok := ok.2 kq6
                exact ⟨by unfold F_X11_tell; first | (rw [if_neg kq0, if_neg kq1, if_neg kq2, if_neg kq3, if_neg kq4, if_neg kq5, if_pos kq6]; done) | (rw [if_neg kq0, if_neg kq1, if_neg kq2, if_neg kq3, if_neg kq4, if_neg kq5, if_pos kq6]; rfl), by unfold F_X11_tell; first | (rw [if_neg kq0, if_neg kq1, if_neg kq2, if_neg kq3, if_neg kq4, if_neg kq5, if_pos kq6]; done) | (rw [if_neg kq0, if_neg kq1, if_neg kq2, if_neg kq3, if_neg kq4, if_neg kq5, if_pos kq6]; rfl)⟩
def v_X11_toured (T : tT)  (x0 : Int32) : Int32 := (if x0 < 0 then (-1 : Int32) else (if x0 < (T.1 105 63) then (T.1 150 (x0.toNatClampNeg)) else (-1 : Int32)))
def ok_X11_toured (sz : Nat) (T : tT)  (x0 : Int32) : Prop := ((x0 < 0 → True) ∧ (¬ x0 < 0 → ((x0 < (T.1 105 63) → vp_in x0 9) ∧ (¬ x0 < (T.1 105 63) → True))))
set_option maxRecDepth 10000 in
theorem c_X11_toured {d L sz : Nat} {T : tT} (hsz : 161 ≤ sz) (x0 : Int32) (ok : ok_X11_toured sz T x0) : tiK d mX11_toured [.ref 105, .int x0] L sz T (fun r T' => r = v_X11_toured T x0 ∧ T = T') := by
  refine k_X11_toured hsz  x0 ?_
  unfold ok_X11_toured at ok
  refine ⟨fun kq0 => ?_, fun kq0 => ?_⟩
  · replace ok := ok.1 kq0
    exact ⟨by unfold v_X11_toured; first | (rw [if_pos kq0]; done) | (rw [if_pos kq0]; rfl), rfl⟩
  · replace ok := ok.2 kq0
    refine ⟨fun kq1 => ?_, fun kq1 => ?_⟩
    · replace ok := ok.1 kq1
      refine ⟨ok, ?_⟩
      exact ⟨by unfold v_X11_toured; first | (rw [if_neg kq0, if_pos kq1]; done) | (rw [if_neg kq0, if_pos kq1]; rfl), rfl⟩
    · replace ok := ok.2 kq1
      exact ⟨by unfold v_X11_toured; first | (rw [if_neg kq0, if_neg kq1]; done) | (rw [if_neg kq0, if_neg kq1]; rfl), rfl⟩
def v_X11_two (T : tT)  (x0 : Int32) (x1 : Int32) (x2 : Int32) : Int32 := (if x0 = 38 then (if x1 = 0 then (0 : Int32) else (if x2 = 0 then (0 : Int32) else (1 : Int32))) else (if x0 = 43 then (x1 + x2) else (if x0 = 45 then (x1 - x2) else (if x0 = 60 then (if x2 ≤ x1 then (0 : Int32) else (1 : Int32)) else (if x0 = 61 then (if x1 = x2 then (1 : Int32) else (0 : Int32)) else (if x0 = 62 then (if x1 ≤ x2 then (0 : Int32) else (1 : Int32)) else (if x1 = 0 then (if x2 = 0 then (0 : Int32) else (1 : Int32)) else (1 : Int32))))))))
set_option maxRecDepth 10000 in
theorem c_X11_two {d L sz : Nat} {T : tT} (hsz : 161 ≤ sz) (x0 : Int32) (x1 : Int32) (x2 : Int32) : tiK d mX11_two [.int x0, .int x1, .int x2] L sz T (fun r T' => r = v_X11_two T x0 x1 x2 ∧ T = T') := by
  refine k_X11_two hsz  x0 x1 x2 ?_
  refine ⟨fun kq0 => ?_, fun kq0 => ?_, fun kq0 => ?_, fun kq0 => ?_, fun kq0 => ?_, fun kq0 => ?_, fun kq0_0 kq0_1 kq0_2 kq0_3 kq0_4 kq0_5 => ?_⟩
  · refine ⟨fun kq1 => ?_, fun kq1 => ?_⟩
    · exact ⟨by unfold v_X11_two; first | (rw [if_pos kq0, if_pos kq1]; done) | (rw [if_pos kq0, if_pos kq1]; rfl), rfl⟩
    · refine ⟨fun kq2 => ?_, fun kq2 => ?_⟩
      · exact ⟨by unfold v_X11_two; first | (rw [if_pos kq0, if_neg kq1, if_pos kq2]; done) | (rw [if_pos kq0, if_neg kq1, if_pos kq2]; rfl), rfl⟩
      · exact ⟨by unfold v_X11_two; first | (rw [if_pos kq0, if_neg kq1, if_neg kq2]; done) | (rw [if_pos kq0, if_neg kq1, if_neg kq2]; rfl), rfl⟩
  · exact ⟨by unfold v_X11_two; first | (rw [if_neg (show ¬ x0 = 38 by rw [kq0]; decide), if_pos kq0]; done) | (rw [if_neg (show ¬ x0 = 38 by rw [kq0]; decide), if_pos kq0]; rfl), rfl⟩
  · exact ⟨by unfold v_X11_two; first | (rw [if_neg (show ¬ x0 = 38 by rw [kq0]; decide), if_neg (show ¬ x0 = 43 by rw [kq0]; decide), if_pos kq0]; done) | (rw [if_neg (show ¬ x0 = 38 by rw [kq0]; decide), if_neg (show ¬ x0 = 43 by rw [kq0]; decide), if_pos kq0]; rfl), rfl⟩
  · refine ⟨fun kq4 => ?_, fun kq4 => ?_⟩
    · exact ⟨by unfold v_X11_two; first | (rw [if_neg (show ¬ x0 = 38 by rw [kq0]; decide), if_neg (show ¬ x0 = 43 by rw [kq0]; decide), if_neg (show ¬ x0 = 45 by rw [kq0]; decide), if_pos kq0, if_pos kq4]; done) | (rw [if_neg (show ¬ x0 = 38 by rw [kq0]; decide), if_neg (show ¬ x0 = 43 by rw [kq0]; decide), if_neg (show ¬ x0 = 45 by rw [kq0]; decide), if_pos kq0, if_pos kq4]; rfl), rfl⟩
    · exact ⟨by unfold v_X11_two; first | (rw [if_neg (show ¬ x0 = 38 by rw [kq0]; decide), if_neg (show ¬ x0 = 43 by rw [kq0]; decide), if_neg (show ¬ x0 = 45 by rw [kq0]; decide), if_pos kq0, if_neg kq4]; done) | (rw [if_neg (show ¬ x0 = 38 by rw [kq0]; decide), if_neg (show ¬ x0 = 43 by rw [kq0]; decide), if_neg (show ¬ x0 = 45 by rw [kq0]; decide), if_pos kq0, if_neg kq4]; rfl), rfl⟩
  · refine ⟨fun kq5 => ?_, fun kq5 => ?_⟩
    · exact ⟨by unfold v_X11_two; first | (rw [if_neg (show ¬ x0 = 38 by rw [kq0]; decide), if_neg (show ¬ x0 = 43 by rw [kq0]; decide), if_neg (show ¬ x0 = 45 by rw [kq0]; decide), if_neg (show ¬ x0 = 60 by rw [kq0]; decide), if_pos kq0, if_neg kq5]; done) | (rw [if_neg (show ¬ x0 = 38 by rw [kq0]; decide), if_neg (show ¬ x0 = 43 by rw [kq0]; decide), if_neg (show ¬ x0 = 45 by rw [kq0]; decide), if_neg (show ¬ x0 = 60 by rw [kq0]; decide), if_pos kq0, if_neg kq5]; rfl), rfl⟩
    · exact ⟨by unfold v_X11_two; first | (rw [if_neg (show ¬ x0 = 38 by rw [kq0]; decide), if_neg (show ¬ x0 = 43 by rw [kq0]; decide), if_neg (show ¬ x0 = 45 by rw [kq0]; decide), if_neg (show ¬ x0 = 60 by rw [kq0]; decide), if_pos kq0, if_pos kq5]; done) | (rw [if_neg (show ¬ x0 = 38 by rw [kq0]; decide), if_neg (show ¬ x0 = 43 by rw [kq0]; decide), if_neg (show ¬ x0 = 45 by rw [kq0]; decide), if_neg (show ¬ x0 = 60 by rw [kq0]; decide), if_pos kq0, if_pos kq5]; rfl), rfl⟩
  · refine ⟨fun kq6 => ?_, fun kq6 => ?_⟩
    · exact ⟨by unfold v_X11_two; first | (rw [if_neg (show ¬ x0 = 38 by rw [kq0]; decide), if_neg (show ¬ x0 = 43 by rw [kq0]; decide), if_neg (show ¬ x0 = 45 by rw [kq0]; decide), if_neg (show ¬ x0 = 60 by rw [kq0]; decide), if_neg (show ¬ x0 = 61 by rw [kq0]; decide), if_pos kq0, if_pos kq6]; done) | (rw [if_neg (show ¬ x0 = 38 by rw [kq0]; decide), if_neg (show ¬ x0 = 43 by rw [kq0]; decide), if_neg (show ¬ x0 = 45 by rw [kq0]; decide), if_neg (show ¬ x0 = 60 by rw [kq0]; decide), if_neg (show ¬ x0 = 61 by rw [kq0]; decide), if_pos kq0, if_pos kq6]; rfl), rfl⟩
    · exact ⟨by unfold v_X11_two; first | (rw [if_neg (show ¬ x0 = 38 by rw [kq0]; decide), if_neg (show ¬ x0 = 43 by rw [kq0]; decide), if_neg (show ¬ x0 = 45 by rw [kq0]; decide), if_neg (show ¬ x0 = 60 by rw [kq0]; decide), if_neg (show ¬ x0 = 61 by rw [kq0]; decide), if_pos kq0, if_neg kq6]; done) | (rw [if_neg (show ¬ x0 = 38 by rw [kq0]; decide), if_neg (show ¬ x0 = 43 by rw [kq0]; decide), if_neg (show ¬ x0 = 45 by rw [kq0]; decide), if_neg (show ¬ x0 = 60 by rw [kq0]; decide), if_neg (show ¬ x0 = 61 by rw [kq0]; decide), if_pos kq0, if_neg kq6]; rfl), rfl⟩
  · refine ⟨fun kq6 => ?_, fun kq6 => ?_⟩
    · exact ⟨by unfold v_X11_two; first | (rw [if_neg kq0_0, if_neg kq0_1, if_neg kq0_2, if_neg kq0_3, if_neg kq0_4, if_neg kq0_5, if_neg kq6]; done) | (rw [if_neg kq0_0, if_neg kq0_1, if_neg kq0_2, if_neg kq0_3, if_neg kq0_4, if_neg kq0_5, if_neg kq6]; rfl), rfl⟩
    · refine ⟨fun kq7 => ?_, fun kq7 => ?_⟩
      · exact ⟨by unfold v_X11_two; first | (rw [if_neg kq0_0, if_neg kq0_1, if_neg kq0_2, if_neg kq0_3, if_neg kq0_4, if_neg kq0_5, if_pos kq6, if_pos kq7]; done) | (rw [if_neg kq0_0, if_neg kq0_1, if_neg kq0_2, if_neg kq0_3, if_neg kq0_4, if_neg kq0_5, if_pos kq6, if_pos kq7]; rfl), rfl⟩
      · exact ⟨by unfold v_X11_two; first | (rw [if_neg kq0_0, if_neg kq0_1, if_neg kq0_2, if_neg kq0_3, if_neg kq0_4, if_neg kq0_5, if_pos kq6, if_neg kq7]; done) | (rw [if_neg kq0_0, if_neg kq0_1, if_neg kq0_2, if_neg kq0_3, if_neg kq0_4, if_neg kq0_5, if_pos kq6, if_neg kq7]; rfl), rfl⟩
def F_X11_untell (T : tT)  (x0 : Int32) : Int32 × tT := (if x0 < 0 then ((0 : Int32), T) else (if (T.1 105 70) ≤ x0 then ((0 : Int32), T) else (if (T.1 156 (x0.toNatClampNeg)) < 0 then ((1 : Int32), (tI T 156 (x0.toNatClampNeg) (T.1 105 71))) else ((0 : Int32), T))))
def ok_X11_untell (sz : Nat) (T : tT)  (x0 : Int32) : Prop := ((x0 < 0 → True) ∧ (¬ x0 < 0 → (((T.1 105 70) ≤ x0 → True) ∧ (¬ (T.1 105 70) ≤ x0 → (vp_in x0 200 ∧ (((T.1 156 (x0.toNatClampNeg)) < 0 → vp_in x0 200) ∧ (¬ (T.1 156 (x0.toNatClampNeg)) < 0 → True)))))))
set_option maxRecDepth 10000 in
theorem c_X11_untell {d L sz : Nat} {T : tT} (hsz : 161 ≤ sz) (x0 : Int32) (ok : ok_X11_untell sz T x0) : tiK d mX11_untell [.ref 105, .int x0] L sz T (fun r T' => r = (F_X11_untell T x0).1 ∧ T' = (F_X11_untell T x0).2) := by
  refine k_X11_untell hsz  x0 ?_
  unfold ok_X11_untell at ok
  refine ⟨fun kq0 => ?_, fun kq0 => ?_⟩
  · replace ok := ok.1 kq0
    exact ⟨by unfold F_X11_untell; first | (rw [if_pos kq0]; done) | (rw [if_pos kq0]; rfl), by unfold F_X11_untell; first | (rw [if_pos kq0]; done) | (rw [if_pos kq0]; rfl)⟩
  · replace ok := ok.2 kq0
    refine ⟨fun kq1 => ?_, fun kq1 => ?_⟩
    · replace ok := ok.1 kq1
      exact ⟨by unfold F_X11_untell; first | (rw [if_neg kq0, if_pos kq1]; done) | (rw [if_neg kq0, if_pos kq1]; rfl), by unfold F_X11_untell; first | (rw [if_neg kq0, if_pos kq1]; done) | (rw [if_neg kq0, if_pos kq1]; rfl)⟩
    · replace ok := ok.2 kq1
      refine ⟨ok.1, ?_⟩
      replace ok := ok.2
      refine ⟨fun kq2 => ?_, fun kq2 => ?_⟩
      · replace ok := ok.1 kq2
        refine ⟨ok, ?_⟩
        exact ⟨by unfold F_X11_untell; first | (rw [if_neg kq0, if_neg kq1, if_pos kq2]; done) | (rw [if_neg kq0, if_neg kq1, if_pos kq2]; rfl), by unfold F_X11_untell; first | (rw [if_neg kq0, if_neg kq1, if_pos kq2]; done) | (rw [if_neg kq0, if_neg kq1, if_pos kq2]; rfl)⟩
      · replace ok := ok.2 kq2
        exact ⟨by unfold F_X11_untell; first | (rw [if_neg kq0, if_neg kq1, if_neg kq2]; done) | (rw [if_neg kq0, if_neg kq1, if_neg kq2]; rfl), by unfold F_X11_untell; first | (rw [if_neg kq0, if_neg kq1, if_neg kq2]; done) | (rw [if_neg kq0, if_neg kq1, if_neg kq2]; rfl)⟩
def F_X11_way (T : tT)  (x0 : Int32) (x1 : Int32) (x2 : Int32) : Int32 × tT := (if (v_X11_isCentre T x0) = 0 then ((0 : Int32), T) else (if (v_X11_isCentre T x1) = 0 then ((0 : Int32), T) else (if x0 = x1 then ((0 : Int32), T) else (if x2 < 0 then ((0 : Int32), T) else (if x2 ≤ (600 : Int32) then ((1 : Int32), (tI (tI T 142 ((((8 : Int32) * x0) + x1).toNatClampNeg) x2) 142 ((((8 : Int32) * x1) + x0).toNatClampNeg) x2)) else ((0 : Int32), T))))))
def ok_X11_way (sz : Nat) (T : tT)  (x0 : Int32) (x1 : Int32) (x2 : Int32) : Prop := (((v_X11_isCentre T x0) = 0 → True) ∧ (¬ (v_X11_isCentre T x0) = 0 → (((v_X11_isCentre T x1) = 0 → True) ∧ (¬ (v_X11_isCentre T x1) = 0 → ((x0 = x1 → True) ∧ (¬ x0 = x1 → ((x2 < 0 → True) ∧ (¬ x2 < 0 → ((x2 ≤ (600 : Int32) → (vp_in (((8 : Int32) * x0) + x1) 64 ∧ vp_in (((8 : Int32) * x1) + x0) 64)) ∧ (¬ x2 ≤ (600 : Int32) → True))))))))))
set_option maxRecDepth 10000 in
theorem c_X11_way {d L sz : Nat} {T : tT} (hsz : 161 ≤ sz) (x0 : Int32) (x1 : Int32) (x2 : Int32) (ok : ok_X11_way sz T x0 x1 x2) : tiK (d + 1) mX11_way [.ref 105, .int x0, .int x1, .int x2] L sz T (fun r T' => r = (F_X11_way T x0 x1 x2).1 ∧ T' = (F_X11_way T x0 x1 x2).2) := by
  refine k_X11_way hsz  x0 x1 x2 ?_
  unfold ok_X11_way at ok
  refine ⟨_, c_X11_isCentre hsz  x0 , ?_⟩
  rintro _ _ ⟨rfl, rfl⟩
  refine ⟨fun kq0 => ?_, fun kq0 => ?_⟩
  · replace ok := ok.1 kq0
    exact ⟨by unfold F_X11_way; first | (rw [if_pos kq0]; done) | (rw [if_pos kq0]; rfl), by unfold F_X11_way; first | (rw [if_pos kq0]; done) | (rw [if_pos kq0]; rfl)⟩
  · replace ok := ok.2 kq0
    refine ⟨_, c_X11_isCentre hsz  x1 , ?_⟩
    rintro _ _ ⟨rfl, rfl⟩
    refine ⟨fun kq1 => ?_, fun kq1 => ?_⟩
    · replace ok := ok.1 kq1
      exact ⟨by unfold F_X11_way; first | (rw [if_neg kq0, if_pos kq1]; done) | (rw [if_neg kq0, if_pos kq1]; rfl), by unfold F_X11_way; first | (rw [if_neg kq0, if_pos kq1]; done) | (rw [if_neg kq0, if_pos kq1]; rfl)⟩
    · replace ok := ok.2 kq1
      refine ⟨fun kq2 => ?_, fun kq2 => ?_⟩
      · replace ok := ok.1 kq2
        exact ⟨by unfold F_X11_way; first | (rw [if_neg kq0, if_neg kq1, if_pos kq2]; done) | (rw [if_neg kq0, if_neg kq1, if_pos kq2]; rfl), by unfold F_X11_way; first | (rw [if_neg kq0, if_neg kq1, if_pos kq2]; done) | (rw [if_neg kq0, if_neg kq1, if_pos kq2]; rfl)⟩
      · replace ok := ok.2 kq2
        refine ⟨fun kq3 => ?_, fun kq3 => ?_⟩
        · replace ok := ok.1 kq3
          exact ⟨by unfold F_X11_way; first | (rw [if_neg kq0, if_neg kq1, if_neg kq2, if_pos kq3]; done) | (rw [if_neg kq0, if_neg kq1, if_neg kq2, if_pos kq3]; rfl), by unfold F_X11_way; first | (rw [if_neg kq0, if_neg kq1, if_neg kq2, if_pos kq3]; done) | (rw [if_neg kq0, if_neg kq1, if_neg kq2, if_pos kq3]; rfl)⟩
        · replace ok := ok.2 kq3
          refine ⟨fun kq4 => ?_, fun kq4 => ?_⟩
          · replace ok := ok.1 kq4
            refine ⟨ok.1, ?_⟩
            replace ok := ok.2
            refine ⟨ok, ?_⟩
            exact ⟨by unfold F_X11_way; first | (rw [if_neg kq0, if_neg kq1, if_neg kq2, if_neg kq3, if_pos kq4]; done) | (rw [if_neg kq0, if_neg kq1, if_neg kq2, if_neg kq3, if_pos kq4]; rfl), by unfold F_X11_way; first | (rw [if_neg kq0, if_neg kq1, if_neg kq2, if_neg kq3, if_pos kq4]; done) | (rw [if_neg kq0, if_neg kq1, if_neg kq2, if_neg kq3, if_pos kq4]; rfl)⟩
          · replace ok := ok.2 kq4
            exact ⟨by unfold F_X11_way; first | (rw [if_neg kq0, if_neg kq1, if_neg kq2, if_neg kq3, if_neg kq4]; done) | (rw [if_neg kq0, if_neg kq1, if_neg kq2, if_neg kq3, if_neg kq4]; rfl), by unfold F_X11_way; first | (rw [if_neg kq0, if_neg kq1, if_neg kq2, if_neg kq3, if_neg kq4]; done) | (rw [if_neg kq0, if_neg kq1, if_neg kq2, if_neg kq3, if_neg kq4]; rfl)⟩
def F_X11_wrong (T : tT)   : tT := (if (T.1 105 8) = (1 : Int32) then (F_X11_fails T (1 : Int32) (T.1 105 6)) else (F_X11_fails T (2 : Int32) (T.1 105 6)))
set_option maxRecDepth 10000 in
theorem c_X11_wrong {d L sz : Nat} {T : tT} (hsz : 161 ≤ sz)  : tvK (d + 1) mX11_wrong [.ref 105] L sz T (fun T' => T' = F_X11_wrong T) := by
  refine k_X11_wrong hsz   ?_
  refine ⟨fun kq0 => ?_, fun kq0 => ?_⟩
  · refine ⟨_, c_X11_fails hsz  (2 : Int32) (T.1 105 6) , ?_⟩
    rintro _ rfl
    exact (by unfold F_X11_wrong; first | (rw [if_neg kq0]; done) | (rw [if_neg kq0]; rfl))
  · refine ⟨_, c_X11_fails hsz  (1 : Int32) (T.1 105 6) , ?_⟩
    rintro _ rfl
    exact (by unfold F_X11_wrong; first | (rw [if_pos kq0]; done) | (rw [if_pos kq0]; rfl))
def v_X5_isKnown (T : tT)  (x0 : Int32) (x1 : Int32) : Int32 := (if x1 < (T.1 98 (x0.toNatClampNeg)) then (0 : Int32) else (if (v_X5_stands T x0) = 0 then (if (T.1 99 (x0.toNatClampNeg)) ≤ x1 then (0 : Int32) else (1 : Int32)) else (1 : Int32)))
def ok_X5_isKnown (sz : Nat) (T : tT)  (x0 : Int32) (x1 : Int32) : Prop := (vp_in x0 200 ∧ ((x1 < (T.1 98 (x0.toNatClampNeg)) → True) ∧ (¬ x1 < (T.1 98 (x0.toNatClampNeg)) → (ok_X5_stands sz T x0 ∧ ((¬ (v_X5_stands T x0) = 0 → True) ∧ ((v_X5_stands T x0) = 0 → vp_in x0 200))))))
set_option maxRecDepth 10000 in
theorem c_X5_isKnown {d L sz : Nat} {T : tT} (hsz : 161 ≤ sz) (x0 : Int32) (x1 : Int32) (ok : ok_X5_isKnown sz T x0 x1) : tiK (d + 1) mX5_isKnown [.ref 93, .int x0, .int x1] L sz T (fun r T' => r = v_X5_isKnown T x0 x1 ∧ T = T') := by
  refine k_X5_isKnown hsz  x0 x1 ?_
  unfold ok_X5_isKnown at ok
  refine ⟨ok.1, ?_⟩
  replace ok := ok.2
  refine ⟨fun kq0 => ?_, fun kq0 => ?_⟩
  · replace ok := ok.1 kq0
    exact ⟨by unfold v_X5_isKnown; first | (rw [if_pos kq0]; done) | (rw [if_pos kq0]; rfl), rfl⟩
  · replace ok := ok.2 kq0
    refine ⟨_, c_X5_stands hsz  x0 ok.1, ?_⟩
    rintro _ _ ⟨rfl, rfl⟩
    replace ok := ok.2
    refine ⟨fun kq1 => ?_, fun kq1 => ?_⟩
    · replace ok := ok.1 kq1
      exact ⟨by unfold v_X5_isKnown; first | (rw [if_neg kq0, if_neg kq1]; done) | (rw [if_neg kq0, if_neg kq1]; rfl), rfl⟩
    · replace ok := ok.2 kq1
      refine ⟨ok, ?_⟩
      refine ⟨fun kq2 => ?_, fun kq2 => ?_⟩
      · exact ⟨by unfold v_X5_isKnown; first | (rw [if_neg kq0, if_pos kq1, if_pos kq2]; done) | (rw [if_neg kq0, if_pos kq1, if_pos kq2]; rfl), rfl⟩
      · exact ⟨by unfold v_X5_isKnown; first | (rw [if_neg kq0, if_pos kq1, if_neg kq2]; done) | (rw [if_neg kq0, if_pos kq1, if_neg kq2]; rfl), rfl⟩
def F_X6_addNamed (T : tT)  (x0 : Int32) (x1 : Int32) : tT := (if x1 = (-1 : Int32) then (F_X6_fail T (4 : Int32) (T.1 4 3)) else (match (T.2.2 3 3) with | none => T | some p1 => (F_X8_addCell T p1 x0 x1)))
def ok_X6_addNamed (sz : Nat) (T : tT)  (x0 : Int32) (x1 : Int32) : Prop := ((¬ x1 = (-1 : Int32) → (((T.2.2 3 3) = none → False) ∧ (∀ p1, (T.2.2 3 3) = some p1 → tsy sz p1 ∧ (ok_X8_addCell sz T p1 x0 x1 ∧ True)))) ∧ (x1 = (-1 : Int32) → True))
set_option maxRecDepth 10000 in
theorem c_X6_addNamed {d L sz : Nat} {T : tT} (hsz : 161 ≤ sz) (x0 : Int32) (x1 : Int32) (ok : ok_X6_addNamed sz T x0 x1) : tvK (d + 1) mX6_addNamed [.ref 3, .int x0, .int x1] L sz T (fun T' => T' = F_X6_addNamed T x0 x1) := by
  refine k_X6_addNamed hsz  x0 x1 ?_
  unfold ok_X6_addNamed at ok
  refine ⟨fun kq0 => ?_, fun kq0 => ?_⟩
  · replace ok := ok.1 kq0
    refine ⟨fun kq1 => ?_, fun p1 kq1 => ?_⟩
    · replace ok := ok.1 kq1
      exact ok.elim
    · obtain ⟨h_p1, ok⟩ := ok.2 p1 kq1
      refine ⟨h_p1, ?_⟩
      refine ⟨_, c_X8_addCell hsz h_p1 x0 x1 ok.1, ?_⟩
      rintro _ rfl
      replace ok := ok.2
      exact (by unfold F_X6_addNamed; first | (simp only [if_neg kq0, kq1]; done) | (simp only [if_neg kq0, kq1]; rfl))
  · replace ok := ok.2 kq0
    refine ⟨_, c_X6_fail hsz  (4 : Int32) (T.1 4 3) , ?_⟩
    rintro _ rfl
    exact (by unfold F_X6_addNamed; first | (rw [if_pos kq0]; done) | (rw [if_pos kq0]; rfl))
def F_X10_entry (T : tT)  (x0 : Int32) (x1 : Int32) (x2 : Int32) (x3 : Int32) (x4 : Int32) (x5 : Int32) : Int32 × tT := (if (v_X10_isWithin T x0 (0 : Int32) (99 : Int32)) = 0 then ((-1 : Int32), T) else (if (v_X10_isTerm T x1) = 0 then ((-1 : Int32), T) else (if (v_X10_isWithin T x2 (1 : Int32) (8 : Int32)) = 0 then ((-1 : Int32), T) else (if (v_X10_isWithin T x3 (0 : Int32) (7 : Int32)) = 0 then ((-1 : Int32), T) else (if (v_X10_isWithin T x4 (4 : Int32) (99 : Int32)) = 0 then ((-1 : Int32), T) else (if x5 = (-1 : Int32) then ((F_X2_add T x0 x1 x2 x3 x4 x5).1, (F_X2_add T x0 x1 x2 x3 x4 x5).2) else (if (v_X1_hasExaminer T x5) = 0 then ((-1 : Int32), T) else ((F_X2_add T x0 x1 x2 x3 x4 x5).1, (F_X2_add T x0 x1 x2 x3 x4 x5).2))))))))
def ok_X10_entry (sz : Nat) (T : tT)  (x0 : Int32) (x1 : Int32) (x2 : Int32) (x3 : Int32) (x4 : Int32) (x5 : Int32) : Prop := (((v_X10_isWithin T x0 (0 : Int32) (99 : Int32)) = 0 → True) ∧ (¬ (v_X10_isWithin T x0 (0 : Int32) (99 : Int32)) = 0 → (((v_X10_isTerm T x1) = 0 → True) ∧ (¬ (v_X10_isTerm T x1) = 0 → (((v_X10_isWithin T x2 (1 : Int32) (8 : Int32)) = 0 → True) ∧ (¬ (v_X10_isWithin T x2 (1 : Int32) (8 : Int32)) = 0 → (((v_X10_isWithin T x3 (0 : Int32) (7 : Int32)) = 0 → True) ∧ (¬ (v_X10_isWithin T x3 (0 : Int32) (7 : Int32)) = 0 → (((v_X10_isWithin T x4 (4 : Int32) (99 : Int32)) = 0 → True) ∧ (¬ (v_X10_isWithin T x4 (4 : Int32) (99 : Int32)) = 0 → ((x5 = (-1 : Int32) → (ok_X2_add sz T x0 x1 x2 x3 x4 x5 ∧ True)) ∧ (¬ x5 = (-1 : Int32) → (((v_X1_hasExaminer T x5) = 0 → True) ∧ (¬ (v_X1_hasExaminer T x5) = 0 → (ok_X2_add sz T x0 x1 x2 x3 x4 x5 ∧ True)))))))))))))))
set_option maxRecDepth 10000 in
theorem c_X10_entry {d L sz : Nat} {T : tT} (hsz : 161 ≤ sz) (x0 : Int32) (x1 : Int32) (x2 : Int32) (x3 : Int32) (x4 : Int32) (x5 : Int32) (ok : ok_X10_entry sz T x0 x1 x2 x3 x4 x5) : tiK (d + 1) mX10_entry [.ref 2, .int x0, .int x1, .int x2, .int x3, .int x4, .int x5] L sz T (fun r T' => r = (F_X10_entry T x0 x1 x2 x3 x4 x5).1 ∧ T' = (F_X10_entry T x0 x1 x2 x3 x4 x5).2) := by
  refine k_X10_entry hsz  x0 x1 x2 x3 x4 x5 ?_
  unfold ok_X10_entry at ok
  refine ⟨_, c_X10_isWithin hsz  x0 (0 : Int32) (99 : Int32) , ?_⟩
  rintro _ _ ⟨rfl, rfl⟩
  refine ⟨fun kq0 => ?_, fun kq0 => ?_⟩
  · replace ok := ok.1 kq0
    exact ⟨by unfold F_X10_entry; first | (rw [if_pos kq0]; done) | (rw [if_pos kq0]; rfl), by unfold F_X10_entry; first | (rw [if_pos kq0]; done) | (rw [if_pos kq0]; rfl)⟩
  · replace ok := ok.2 kq0
    refine ⟨_, c_X10_isTerm hsz  x1 , ?_⟩
    rintro _ _ ⟨rfl, rfl⟩
    refine ⟨fun kq1 => ?_, fun kq1 => ?_⟩
    · replace ok := ok.1 kq1
      exact ⟨by unfold F_X10_entry; first | (rw [if_neg kq0, if_pos kq1]; done) | (rw [if_neg kq0, if_pos kq1]; rfl), by unfold F_X10_entry; first | (rw [if_neg kq0, if_pos kq1]; done) | (rw [if_neg kq0, if_pos kq1]; rfl)⟩
    · replace ok := ok.2 kq1
      refine ⟨_, c_X10_isWithin hsz  x2 (1 : Int32) (8 : Int32) , ?_⟩
      rintro _ _ ⟨rfl, rfl⟩
      refine ⟨fun kq2 => ?_, fun kq2 => ?_⟩
      · replace ok := ok.1 kq2
        exact ⟨by unfold F_X10_entry; first | (rw [if_neg kq0, if_neg kq1, if_pos kq2]; done) | (rw [if_neg kq0, if_neg kq1, if_pos kq2]; rfl), by unfold F_X10_entry; first | (rw [if_neg kq0, if_neg kq1, if_pos kq2]; done) | (rw [if_neg kq0, if_neg kq1, if_pos kq2]; rfl)⟩
      · replace ok := ok.2 kq2
        refine ⟨_, c_X10_isWithin hsz  x3 (0 : Int32) (7 : Int32) , ?_⟩
        rintro _ _ ⟨rfl, rfl⟩
        refine ⟨fun kq3 => ?_, fun kq3 => ?_⟩
        · replace ok := ok.1 kq3
          exact ⟨by unfold F_X10_entry; first | (rw [if_neg kq0, if_neg kq1, if_neg kq2, if_pos kq3]; done) | (rw [if_neg kq0, if_neg kq1, if_neg kq2, if_pos kq3]; rfl), by unfold F_X10_entry; first | (rw [if_neg kq0, if_neg kq1, if_neg kq2, if_pos kq3]; done) | (rw [if_neg kq0, if_neg kq1, if_neg kq2, if_pos kq3]; rfl)⟩
        · replace ok := ok.2 kq3
          refine ⟨_, c_X10_isWithin hsz  x4 (4 : Int32) (99 : Int32) , ?_⟩
          rintro _ _ ⟨rfl, rfl⟩
          refine ⟨fun kq4 => ?_, fun kq4 => ?_⟩
          · replace ok := ok.1 kq4
            exact ⟨by unfold F_X10_entry; first | (rw [if_neg kq0, if_neg kq1, if_neg kq2, if_neg kq3, if_pos kq4]; done) | (rw [if_neg kq0, if_neg kq1, if_neg kq2, if_neg kq3, if_pos kq4]; rfl), by unfold F_X10_entry; first | (rw [if_neg kq0, if_neg kq1, if_neg kq2, if_neg kq3, if_pos kq4]; done) | (rw [if_neg kq0, if_neg kq1, if_neg kq2, if_neg kq3, if_pos kq4]; rfl)⟩
          · replace ok := ok.2 kq4
            refine ⟨fun kq5 => ?_, fun kq5 => ?_⟩
            · replace ok := ok.1 kq5
              refine ⟨_, c_X2_add hsz  x0 x1 x2 x3 x4 x5 ok.1, ?_⟩
              rintro _ _ ⟨rfl, rfl⟩
              replace ok := ok.2
              exact ⟨by unfold F_X10_entry; first | (rw [if_neg kq0, if_neg kq1, if_neg kq2, if_neg kq3, if_neg kq4, if_pos kq5]; done) | (rw [if_neg kq0, if_neg kq1, if_neg kq2, if_neg kq3, if_neg kq4, if_pos kq5]; rfl), by unfold F_X10_entry; first | (rw [if_neg kq0, if_neg kq1, if_neg kq2, if_neg kq3, if_neg kq4, if_pos kq5]; done) | (rw [if_neg kq0, if_neg kq1, if_neg kq2, if_neg kq3, if_neg kq4, if_pos kq5]; rfl)⟩
            · replace ok := ok.2 kq5
              refine ⟨_, c_X1_hasExaminer hsz  x5 , ?_⟩
              rintro _ _ ⟨rfl, rfl⟩
              refine ⟨fun kq6 => ?_, fun kq6 => ?_⟩
              · replace ok := ok.1 kq6
                exact ⟨by unfold F_X10_entry; first | (rw [if_neg kq0, if_neg kq1, if_neg kq2, if_neg kq3, if_neg kq4, if_neg kq5, if_pos kq6]; done) | (rw [if_neg kq0, if_neg kq1, if_neg kq2, if_neg kq3, if_neg kq4, if_neg kq5, if_pos kq6]; rfl), by unfold F_X10_entry; first | (rw [if_neg kq0, if_neg kq1, if_neg kq2, if_neg kq3, if_neg kq4, if_neg kq5, if_pos kq6]; done) | (rw [if_neg kq0, if_neg kq1, if_neg kq2, if_neg kq3, if_neg kq4, if_neg kq5, if_pos kq6]; rfl)⟩
              · replace ok := ok.2 kq6
                refine ⟨_, c_X2_add hsz  x0 x1 x2 x3 x4 x5 ok.1, ?_⟩
                rintro _ _ ⟨rfl, rfl⟩
                replace ok := ok.2
                exact ⟨by unfold F_X10_entry; first | (rw [if_neg kq0, if_neg kq1, if_neg kq2, if_neg kq3, if_neg kq4, if_neg kq5, if_neg kq6]; done) | (rw [if_neg kq0, if_neg kq1, if_neg kq2, if_neg kq3, if_neg kq4, if_neg kq5, if_neg kq6]; rfl), by unfold F_X10_entry; first | (rw [if_neg kq0, if_neg kq1, if_neg kq2, if_neg kq3, if_neg kq4, if_neg kq5, if_neg kq6]; done) | (rw [if_neg kq0, if_neg kq1, if_neg kq2, if_neg kq3, if_neg kq4, if_neg kq5, if_neg kq6]; rfl)⟩
def F_X10_examiner (T : tT)  (x0 : Int32) (x1 : Int32) : Int32 × tT := (if (v_X1_hasCentre T x0) = 0 then ((-1 : Int32), T) else (if (v_X10_isWithin T x1 (0 : Int32) (255 : Int32)) = 0 then ((-1 : Int32), T) else ((F_X1_addExaminer T x0 x1).1, (F_X1_addExaminer T x0 x1).2)))
def ok_X10_examiner (sz : Nat) (T : tT)  (x0 : Int32) (x1 : Int32) : Prop := (((v_X1_hasCentre T x0) = 0 → True) ∧ (¬ (v_X1_hasCentre T x0) = 0 → (((v_X10_isWithin T x1 (0 : Int32) (255 : Int32)) = 0 → True) ∧ (¬ (v_X10_isWithin T x1 (0 : Int32) (255 : Int32)) = 0 → (ok_X1_addExaminer sz T x0 x1 ∧ True)))))
set_option maxRecDepth 10000 in
theorem c_X10_examiner {d L sz : Nat} {T : tT} (hsz : 161 ≤ sz) (x0 : Int32) (x1 : Int32) (ok : ok_X10_examiner sz T x0 x1) : tiK (d + 1) mX10_examiner [.ref 2, .int x0, .int x1] L sz T (fun r T' => r = (F_X10_examiner T x0 x1).1 ∧ T' = (F_X10_examiner T x0 x1).2) := by
  refine k_X10_examiner hsz  x0 x1 ?_
  unfold ok_X10_examiner at ok
  refine ⟨_, c_X1_hasCentre hsz  x0 , ?_⟩
  rintro _ _ ⟨rfl, rfl⟩
  refine ⟨fun kq0 => ?_, fun kq0 => ?_⟩
  · replace ok := ok.1 kq0
    exact ⟨by unfold F_X10_examiner; first | (rw [if_pos kq0]; done) | (rw [if_pos kq0]; rfl), by unfold F_X10_examiner; first | (rw [if_pos kq0]; done) | (rw [if_pos kq0]; rfl)⟩
  · replace ok := ok.2 kq0
    refine ⟨_, c_X10_isWithin hsz  x1 (0 : Int32) (255 : Int32) , ?_⟩
    rintro _ _ ⟨rfl, rfl⟩
    refine ⟨fun kq1 => ?_, fun kq1 => ?_⟩
    · replace ok := ok.1 kq1
      exact ⟨by unfold F_X10_examiner; first | (rw [if_neg kq0, if_pos kq1]; done) | (rw [if_neg kq0, if_pos kq1]; rfl), by unfold F_X10_examiner; first | (rw [if_neg kq0, if_pos kq1]; done) | (rw [if_neg kq0, if_pos kq1]; rfl)⟩
    · replace ok := ok.2 kq1
      refine ⟨_, c_X1_addExaminer hsz  x0 x1 ok.1, ?_⟩
      rintro _ _ ⟨rfl, rfl⟩
      replace ok := ok.2
      exact ⟨by unfold F_X10_examiner; first | (rw [if_neg kq0, if_neg kq1]; done) | (rw [if_neg kq0, if_neg kq1]; rfl), by unfold F_X10_examiner; first | (rw [if_neg kq0, if_neg kq1]; done) | (rw [if_neg kq0, if_neg kq1]; rfl)⟩
def v_X10_findGrade (T : tT)  (x0 : Int32) (x1 : Int32) : Option Nat := (if (v_X10_isTerm T x0) = 0 then none else (match (T.2.2 65 (x0.toNatClampNeg)) with | none => none | some p2 => (match (v_X8_find T p2 x1) with | none => none | some p4 => (some p4))))
def ok_X10_findGrade (sz : Nat) (T : tT)  (x0 : Int32) (x1 : Int32) : Prop := (((v_X10_isTerm T x0) = 0 → True) ∧ (¬ (v_X10_isTerm T x0) = 0 → (vp_in x0 4 ∧ (((T.2.2 65 (x0.toNatClampNeg)) = none → True) ∧ (∀ p2, (T.2.2 65 (x0.toNatClampNeg)) = some p2 → tsy sz p2 ∧ (ok_X8_find sz T p2 x1 ∧ (((v_X8_find T p2 x1) = none → True) ∧ (∀ p4, (v_X8_find T p2 x1) = some p4 → tgr sz p4 ∧ True))))))))
set_option maxRecDepth 10000 in
theorem c_X10_findGrade {d L sz : Nat} {T : tT} (hsz : 161 ≤ sz) (x0 : Int32) (x1 : Int32) (ok : ok_X10_findGrade sz T x0 x1) : toK (d + 1) mX10_findGrade [.ref 2, .int x0, .int x1] L sz T (fun r T' => r = v_X10_findGrade T x0 x1 ∧ T = T') := by
  refine k_X10_findGrade hsz  x0 x1 ?_
  unfold ok_X10_findGrade at ok
  refine ⟨_, c_X10_isTerm hsz  x0 , ?_⟩
  rintro _ _ ⟨rfl, rfl⟩
  refine ⟨fun kq0 => ?_, fun kq0 => ?_⟩
  · replace ok := ok.1 kq0
    exact ⟨by unfold v_X10_findGrade; first | (rw [if_pos kq0]; done) | (rw [if_pos kq0]; rfl), rfl⟩
  · replace ok := ok.2 kq0
    refine ⟨ok.1, ?_⟩
    replace ok := ok.2
    refine ⟨fun kq1 => ?_, fun p2 kq1 => ?_⟩
    · replace ok := ok.1 kq1
      exact ⟨by unfold v_X10_findGrade; first | (simp only [if_neg kq0, kq1]; done) | (simp only [if_neg kq0, kq1]; rfl), rfl⟩
    · obtain ⟨h_p2, ok⟩ := ok.2 p2 kq1
      refine ⟨h_p2, ?_⟩
      refine ⟨_, c_X8_find hsz h_p2 x1 ok.1, ?_⟩
      rintro _ _ ⟨rfl, rfl⟩
      replace ok := ok.2
      refine ⟨fun kq2 => ?_, fun p4 kq2 => ?_⟩
      · replace ok := ok.1 kq2
        exact ⟨by unfold v_X10_findGrade; first | (simp only [if_neg kq0, kq1, kq2]; done) | (simp only [if_neg kq0, kq1, kq2]; rfl), rfl⟩
      · obtain ⟨h_p4, ok⟩ := ok.2 p4 kq2
        refine ⟨h_p4, ?_⟩
        exact ⟨by unfold v_X10_findGrade; first | (simp only [if_neg kq0, kq1, kq2]; done) | (simp only [if_neg kq0, kq1, kq2]; rfl), rfl⟩
def v_X10_grade (T : tT)  (x0 : Int32) (x1 : Int32) (x2 : Int32) : Int32 := (match (v_X10_findGrade T x0 x1) with | none => (-1 : Int32) | some p2 => (if x2 < (10 : Int32) then (if x2 = 0 then (T.1 p2 1) else (if x2 = 1 then (T.1 p2 2) else (if x2 = 2 then (T.1 p2 3) else (if x2 = 3 then (v_X3_minutesOrUsual T p2) else (-1 : Int32))))) else (if ((10 : Int32) + (T.1 p2 2)) ≤ x2 then (if x2 = 0 then (T.1 p2 1) else (if x2 = 1 then (T.1 p2 2) else (if x2 = 2 then (T.1 p2 3) else (if x2 = 3 then (v_X3_minutesOrUsual T p2) else (-1 : Int32))))) else (T.1 (p2 + 5) (x2 - (10 : Int32)).toNatClampNeg))))
def ok_X10_grade (sz : Nat) (T : tT)  (x0 : Int32) (x1 : Int32) (x2 : Int32) : Prop := (ok_X10_findGrade sz T x0 x1 ∧ (((v_X10_findGrade T x0 x1) = none → True) ∧ (∀ p2, (v_X10_findGrade T x0 x1) = some p2 → tgr sz p2 ∧ ((x2 < (10 : Int32) → True) ∧ (¬ x2 < (10 : Int32) → ((((10 : Int32) + (T.1 p2 2)) ≤ x2 → True) ∧ (¬ ((10 : Int32) + (T.1 p2 2)) ≤ x2 → vp_in (x2 - (10 : Int32)) 6)))))))
set_option maxRecDepth 10000 in
theorem c_X10_grade {d L sz : Nat} {T : tT} (hsz : 161 ≤ sz) (x0 : Int32) (x1 : Int32) (x2 : Int32) (ok : ok_X10_grade sz T x0 x1 x2) : tiK (d + 2) mX10_grade [.ref 2, .int x0, .int x1, .int x2] L sz T (fun r T' => r = v_X10_grade T x0 x1 x2 ∧ T = T') := by
  refine k_X10_grade hsz  x0 x1 x2 ?_
  unfold ok_X10_grade at ok
  refine ⟨_, c_X10_findGrade hsz  x0 x1 ok.1, ?_⟩
  rintro _ _ ⟨rfl, rfl⟩
  replace ok := ok.2
  refine ⟨fun kq0 => ?_, fun p2 kq0 => ?_⟩
  · replace ok := ok.1 kq0
    exact ⟨by unfold v_X10_grade; first | (simp only [kq0]; done) | (simp only [kq0]; rfl), rfl⟩
  · obtain ⟨h_p2, ok⟩ := ok.2 p2 kq0
    refine ⟨h_p2, ?_⟩
    refine ⟨fun kq1 => ?_, fun kq1 => ?_⟩
    · replace ok := ok.1 kq1
      refine ⟨fun kq2 => ?_, fun kq2 => ?_, fun kq2 => ?_, fun kq2 => ?_, fun kq2_0 kq2_1 kq2_2 kq2_3 => ?_⟩
      · exact ⟨by unfold v_X10_grade; first | (simp only [kq0, if_pos kq1, if_pos kq2]; done) | (simp only [kq0, if_pos kq1, if_pos kq2]; rfl), rfl⟩
      · exact ⟨by unfold v_X10_grade; first | (simp only [kq0, if_pos kq1, if_neg (show ¬ x2 = 0 by rw [kq2]; decide), if_pos kq2]; done) | (simp only [kq0, if_pos kq1, if_neg (show ¬ x2 = 0 by rw [kq2]; decide), if_pos kq2]; rfl), rfl⟩
      · exact ⟨by unfold v_X10_grade; first | (simp only [kq0, if_pos kq1, if_neg (show ¬ x2 = 0 by rw [kq2]; decide), if_neg (show ¬ x2 = 1 by rw [kq2]; decide), if_pos kq2]; done) | (simp only [kq0, if_pos kq1, if_neg (show ¬ x2 = 0 by rw [kq2]; decide), if_neg (show ¬ x2 = 1 by rw [kq2]; decide), if_pos kq2]; rfl), rfl⟩
      · refine ⟨_, c_X3_minutesOrUsual hsz h_p2  , ?_⟩
        rintro _ _ ⟨rfl, rfl⟩
        exact ⟨by unfold v_X10_grade; first | (simp only [kq0, if_pos kq1, if_neg (show ¬ x2 = 0 by rw [kq2]; decide), if_neg (show ¬ x2 = 1 by rw [kq2]; decide), if_neg (show ¬ x2 = 2 by rw [kq2]; decide), if_pos kq2]; done) | (simp only [kq0, if_pos kq1, if_neg (show ¬ x2 = 0 by rw [kq2]; decide), if_neg (show ¬ x2 = 1 by rw [kq2]; decide), if_neg (show ¬ x2 = 2 by rw [kq2]; decide), if_pos kq2]; rfl), rfl⟩
      · exact ⟨by unfold v_X10_grade; first | (simp only [kq0, if_pos kq1, if_neg kq2_0, if_neg kq2_1, if_neg kq2_2, if_neg kq2_3]; done) | (simp only [kq0, if_pos kq1, if_neg kq2_0, if_neg kq2_1, if_neg kq2_2, if_neg kq2_3]; rfl), rfl⟩
    · replace ok := ok.2 kq1
      refine ⟨fun kq2 => ?_, fun kq2 => ?_⟩
      · replace ok := ok.1 kq2
        refine ⟨fun kq3 => ?_, fun kq3 => ?_, fun kq3 => ?_, fun kq3 => ?_, fun kq3_0 kq3_1 kq3_2 kq3_3 => ?_⟩
        · exact ⟨by unfold v_X10_grade; first | (simp only [kq0, if_neg kq1, if_pos kq2, if_pos kq3]; done) | (simp only [kq0, if_neg kq1, if_pos kq2, if_pos kq3]; rfl), rfl⟩
        · exact ⟨by unfold v_X10_grade; first | (simp only [kq0, if_neg kq1, if_pos kq2, if_neg (show ¬ x2 = 0 by rw [kq3]; decide), if_pos kq3]; done) | (simp only [kq0, if_neg kq1, if_pos kq2, if_neg (show ¬ x2 = 0 by rw [kq3]; decide), if_pos kq3]; rfl), rfl⟩
        · exact ⟨by unfold v_X10_grade; first | (simp only [kq0, if_neg kq1, if_pos kq2, if_neg (show ¬ x2 = 0 by rw [kq3]; decide), if_neg (show ¬ x2 = 1 by rw [kq3]; decide), if_pos kq3]; done) | (simp only [kq0, if_neg kq1, if_pos kq2, if_neg (show ¬ x2 = 0 by rw [kq3]; decide), if_neg (show ¬ x2 = 1 by rw [kq3]; decide), if_pos kq3]; rfl), rfl⟩
        · refine ⟨_, c_X3_minutesOrUsual hsz h_p2  , ?_⟩
          rintro _ _ ⟨rfl, rfl⟩
          exact ⟨by unfold v_X10_grade; first | (simp only [kq0, if_neg kq1, if_pos kq2, if_neg (show ¬ x2 = 0 by rw [kq3]; decide), if_neg (show ¬ x2 = 1 by rw [kq3]; decide), if_neg (show ¬ x2 = 2 by rw [kq3]; decide), if_pos kq3]; done) | (simp only [kq0, if_neg kq1, if_pos kq2, if_neg (show ¬ x2 = 0 by rw [kq3]; decide), if_neg (show ¬ x2 = 1 by rw [kq3]; decide), if_neg (show ¬ x2 = 2 by rw [kq3]; decide), if_pos kq3]; rfl), rfl⟩
        · exact ⟨by unfold v_X10_grade; first | (simp only [kq0, if_neg kq1, if_pos kq2, if_neg kq3_0, if_neg kq3_1, if_neg kq3_2, if_neg kq3_3]; done) | (simp only [kq0, if_neg kq1, if_pos kq2, if_neg kq3_0, if_neg kq3_1, if_neg kq3_2, if_neg kq3_3]; rfl), rfl⟩
      · replace ok := ok.2 kq2
        refine ⟨ok, ?_⟩
        exact ⟨by unfold v_X10_grade; first | (simp only [kq0, if_neg kq1, if_neg kq2]; done) | (simp only [kq0, if_neg kq1, if_neg kq2]; rfl), rfl⟩
def v_X10_gradeOf (T : tT)  (x0 : Int32) : Option Nat := (match (v_X10_findGrade T (T.1 71 (x0.toNatClampNeg)) (T.1 72 (x0.toNatClampNeg))) with | none => none | some p2 => (some p2))
def ok_X10_gradeOf (sz : Nat) (T : tT)  (x0 : Int32) : Prop := (vp_in x0 40 ∧ (vp_in x0 40 ∧ (ok_X10_findGrade sz T (T.1 71 (x0.toNatClampNeg)) (T.1 72 (x0.toNatClampNeg)) ∧ (((v_X10_findGrade T (T.1 71 (x0.toNatClampNeg)) (T.1 72 (x0.toNatClampNeg))) = none → True) ∧ (∀ p2, (v_X10_findGrade T (T.1 71 (x0.toNatClampNeg)) (T.1 72 (x0.toNatClampNeg))) = some p2 → tgr sz p2 ∧ True)))))
set_option maxRecDepth 10000 in
theorem c_X10_gradeOf {d L sz : Nat} {T : tT} (hsz : 161 ≤ sz) (x0 : Int32) (ok : ok_X10_gradeOf sz T x0) : toK (d + 2) mX10_gradeOf [.ref 2, .int x0] L sz T (fun r T' => r = v_X10_gradeOf T x0 ∧ T = T') := by
  refine k_X10_gradeOf hsz  x0 ?_
  unfold ok_X10_gradeOf at ok
  refine ⟨ok.1, ?_⟩
  replace ok := ok.2
  refine ⟨ok.1, ?_⟩
  replace ok := ok.2
  refine ⟨_, c_X10_findGrade hsz  (T.1 71 (x0.toNatClampNeg)) (T.1 72 (x0.toNatClampNeg)) ok.1, ?_⟩
  rintro _ _ ⟨rfl, rfl⟩
  replace ok := ok.2
  refine ⟨fun kq0 => ?_, fun p2 kq0 => ?_⟩
  · replace ok := ok.1 kq0
    exact ⟨by unfold v_X10_gradeOf; first | (simp only [kq0]; done) | (simp only [kq0]; rfl), rfl⟩
  · obtain ⟨h_p2, ok⟩ := ok.2 p2 kq0
    refine ⟨h_p2, ?_⟩
    exact ⟨by unfold v_X10_gradeOf; first | (simp only [kq0]; done) | (simp only [kq0]; rfl), rfl⟩
def v_X10_gradesOf (T : tT)  (x0 : Int32) : Int32 := (if (v_X10_isTerm T x0) = 0 then (0 : Int32) else (match (T.2.2 65 (x0.toNatClampNeg)) with | none => (0 : Int32) | some p2 => (T.1 p2 2)))
def ok_X10_gradesOf (sz : Nat) (T : tT)  (x0 : Int32) : Prop := (((v_X10_isTerm T x0) = 0 → True) ∧ (¬ (v_X10_isTerm T x0) = 0 → (vp_in x0 4 ∧ (((T.2.2 65 (x0.toNatClampNeg)) = none → True) ∧ (∀ p2, (T.2.2 65 (x0.toNatClampNeg)) = some p2 → tsy sz p2 ∧ True)))))
set_option maxRecDepth 10000 in
theorem c_X10_gradesOf {d L sz : Nat} {T : tT} (hsz : 161 ≤ sz) (x0 : Int32) (ok : ok_X10_gradesOf sz T x0) : tiK (d + 1) mX10_gradesOf [.ref 2, .int x0] L sz T (fun r T' => r = v_X10_gradesOf T x0 ∧ T = T') := by
  refine k_X10_gradesOf hsz  x0 ?_
  unfold ok_X10_gradesOf at ok
  refine ⟨_, c_X10_isTerm hsz  x0 , ?_⟩
  rintro _ _ ⟨rfl, rfl⟩
  refine ⟨fun kq0 => ?_, fun kq0 => ?_⟩
  · replace ok := ok.1 kq0
    exact ⟨by unfold v_X10_gradesOf; first | (rw [if_pos kq0]; done) | (rw [if_pos kq0]; rfl), rfl⟩
  · replace ok := ok.2 kq0
    refine ⟨ok.1, ?_⟩
    replace ok := ok.2
    refine ⟨fun kq1 => ?_, fun p2 kq1 => ?_⟩
    · replace ok := ok.1 kq1
      exact ⟨by unfold v_X10_gradesOf; first | (simp only [if_neg kq0, kq1]; done) | (simp only [if_neg kq0, kq1]; rfl), rfl⟩
    · obtain ⟨h_p2, ok⟩ := ok.2 p2 kq1
      refine ⟨h_p2, ?_⟩
      exact ⟨by unfold v_X10_gradesOf; first | (simp only [if_neg kq0, kq1]; done) | (simp only [if_neg kq0, kq1]; rfl), rfl⟩
def v_X10_minutesOf (T : tT)  (x0 : Int32) : Int32 := (match (v_X10_gradeOf T x0) with | none => (10 : Int32) | some p2 => (v_X3_minutesOrUsual T p2))
def ok_X10_minutesOf (sz : Nat) (T : tT)  (x0 : Int32) : Prop := (ok_X10_gradeOf sz T x0 ∧ (((v_X10_gradeOf T x0) = none → True) ∧ (∀ p2, (v_X10_gradeOf T x0) = some p2 → tgr sz p2 ∧ True)))
set_option maxRecDepth 10000 in
theorem c_X10_minutesOf {d L sz : Nat} {T : tT} (hsz : 161 ≤ sz) (x0 : Int32) (ok : ok_X10_minutesOf sz T x0) : tiK (d + 3) mX10_minutesOf [.ref 2, .int x0] L sz T (fun r T' => r = v_X10_minutesOf T x0 ∧ T = T') := by
  refine k_X10_minutesOf hsz  x0 ?_
  unfold ok_X10_minutesOf at ok
  refine ⟨_, c_X10_gradeOf hsz  x0 ok.1, ?_⟩
  rintro _ _ ⟨rfl, rfl⟩
  replace ok := ok.2
  refine ⟨fun kq0 => ?_, fun p2 kq0 => ?_⟩
  · replace ok := ok.1 kq0
    exact ⟨by unfold v_X10_minutesOf; first | (simp only [kq0]; done) | (simp only [kq0]; rfl), rfl⟩
  · obtain ⟨h_p2, ok⟩ := ok.2 p2 kq0
    refine ⟨h_p2, ?_⟩
    refine ⟨_, c_X3_minutesOrUsual hsz h_p2  , ?_⟩
    rintro _ _ ⟨rfl, rfl⟩
    exact ⟨by unfold v_X10_minutesOf; first | (simp only [kq0]; done) | (simp only [kq0]; rfl), rfl⟩
def F_X11_examiner (T : tT)  (x0 : Int32) (x1 : Int32) : Int32 × tT := (if (v_X11_isCentre T x0) = 0 then ((-1 : Int32), T) else (if x1 < 0 then ((-1 : Int32), T) else (if (255 : Int32) < x1 then ((-1 : Int32), T) else (if (T.1 105 57) = (5 : Int32) then ((-1 : Int32), T) else ((((T.1 105 57) + (1 : Int32)) - (1 : Int32)), (tI (tI (tI T 143 ((T.1 105 57).toNatClampNeg) x0) 144 ((T.1 105 57).toNatClampNeg) x1) 105 57 ((T.1 105 57) + (1 : Int32))))))))
def ok_X11_examiner (sz : Nat) (T : tT)  (x0 : Int32) (x1 : Int32) : Prop := (((v_X11_isCentre T x0) = 0 → True) ∧ (¬ (v_X11_isCentre T x0) = 0 → ((x1 < 0 → True) ∧ (¬ x1 < 0 → (((255 : Int32) < x1 → True) ∧ (¬ (255 : Int32) < x1 → ((¬ (T.1 105 57) = (5 : Int32) → (vp_in (T.1 105 57) 5 ∧ vp_in (T.1 105 57) 5)) ∧ ((T.1 105 57) = (5 : Int32) → True))))))))
set_option maxRecDepth 10000 in
theorem c_X11_examiner {d L sz : Nat} {T : tT} (hsz : 161 ≤ sz) (x0 : Int32) (x1 : Int32) (ok : ok_X11_examiner sz T x0 x1) : tiK (d + 1) mX11_examiner [.ref 105, .int x0, .int x1] L sz T (fun r T' => r = (F_X11_examiner T x0 x1).1 ∧ T' = (F_X11_examiner T x0 x1).2) := by
  refine k_X11_examiner hsz  x0 x1 ?_
  unfold ok_X11_examiner at ok
  refine ⟨_, c_X11_isCentre hsz  x0 , ?_⟩
  rintro _ _ ⟨rfl, rfl⟩
  refine ⟨fun kq0 => ?_, fun kq0 => ?_⟩
  · replace ok := ok.1 kq0
    exact ⟨by unfold F_X11_examiner; first | (rw [if_pos kq0]; done) | (rw [if_pos kq0]; rfl), by unfold F_X11_examiner; first | (rw [if_pos kq0]; done) | (rw [if_pos kq0]; rfl)⟩
  · replace ok := ok.2 kq0
    refine ⟨fun kq1 => ?_, fun kq1 => ?_⟩
    · replace ok := ok.1 kq1
      exact ⟨by unfold F_X11_examiner; first | (rw [if_neg kq0, if_pos kq1]; done) | (rw [if_neg kq0, if_pos kq1]; rfl), by unfold F_X11_examiner; first | (rw [if_neg kq0, if_pos kq1]; done) | (rw [if_neg kq0, if_pos kq1]; rfl)⟩
    · replace ok := ok.2 kq1
      refine ⟨fun kq2 => ?_, fun kq2 => ?_⟩
      · replace ok := ok.1 kq2
        exact ⟨by unfold F_X11_examiner; first | (rw [if_neg kq0, if_neg kq1, if_pos kq2]; done) | (rw [if_neg kq0, if_neg kq1, if_pos kq2]; rfl), by unfold F_X11_examiner; first | (rw [if_neg kq0, if_neg kq1, if_pos kq2]; done) | (rw [if_neg kq0, if_neg kq1, if_pos kq2]; rfl)⟩
      · replace ok := ok.2 kq2
        refine ⟨fun kq3 => ?_, fun kq3 => ?_⟩
        · replace ok := ok.1 kq3
          refine ⟨ok.1, ?_⟩
          replace ok := ok.2
          refine ⟨ok, ?_⟩
          exact ⟨by unfold F_X11_examiner; first | (rw [if_neg kq0, if_neg kq1, if_neg kq2, if_neg kq3]; done) | (rw [if_neg kq0, if_neg kq1, if_neg kq2, if_neg kq3]; rfl), by unfold F_X11_examiner; first | (rw [if_neg kq0, if_neg kq1, if_neg kq2, if_neg kq3]; done) | (rw [if_neg kq0, if_neg kq1, if_neg kq2, if_neg kq3]; rfl)⟩
        · replace ok := ok.2 kq3
          exact ⟨by unfold F_X11_examiner; first | (rw [if_neg kq0, if_neg kq1, if_neg kq2, if_pos kq3]; done) | (rw [if_neg kq0, if_neg kq1, if_neg kq2, if_pos kq3]; rfl), by unfold F_X11_examiner; first | (rw [if_neg kq0, if_neg kq1, if_neg kq2, if_pos kq3]; done) | (rw [if_neg kq0, if_neg kq1, if_neg kq2, if_pos kq3]; rfl)⟩
def v_X11_grade (T : tT)  (x0 : Int32) (x1 : Int32) (x2 : Int32) : Int32 := (if 0 ≤ (v_X11_spot T x0 x1) then (if x2 = 0 then (T.1 111 ((v_X11_spot T x0 x1).toNatClampNeg)) else (if x2 = 1 then (T.1 113 ((v_X11_spot T x0 x1).toNatClampNeg)) else (if x2 = 2 then (T.1 115 ((v_X11_spot T x0 x1).toNatClampNeg)) else (if x2 = 3 then (v_X11_minutesOf T (v_X11_spot T x0 x1)) else (if x2 < (10 : Int32) then (-1 : Int32) else (if (T.1 113 ((v_X11_spot T x0 x1).toNatClampNeg)) ≤ (x2 - (10 : Int32)) then (-1 : Int32) else (T.1 114 ((((6 : Int32) * (v_X11_spot T x0 x1)) + x2) - (10 : Int32)).toNatClampNeg))))))) else (-1 : Int32))
def ok_X11_grade (sz : Nat) (T : tT)  (x0 : Int32) (x1 : Int32) (x2 : Int32) : Prop := (ok_X11_spot sz T x0 x1 ∧ ((0 ≤ (v_X11_spot T x0 x1) → ((x2 = 0 → vp_in (v_X11_spot T x0 x1) 40) ∧ (x2 = 1 → vp_in (v_X11_spot T x0 x1) 40) ∧ (x2 = 2 → vp_in (v_X11_spot T x0 x1) 40) ∧ (x2 = 3 → (ok_X11_minutesOf sz T (v_X11_spot T x0 x1) ∧ True)) ∧ (¬ x2 = 0 → ¬ x2 = 1 → ¬ x2 = 2 → ¬ x2 = 3 → ((x2 < (10 : Int32) → True) ∧ (¬ x2 < (10 : Int32) → (vp_in (v_X11_spot T x0 x1) 40 ∧ (((T.1 113 ((v_X11_spot T x0 x1).toNatClampNeg)) ≤ (x2 - (10 : Int32)) → True) ∧ (¬ (T.1 113 ((v_X11_spot T x0 x1).toNatClampNeg)) ≤ (x2 - (10 : Int32)) → vp_in ((((6 : Int32) * (v_X11_spot T x0 x1)) + x2) - (10 : Int32)) 240)))))))) ∧ (¬ 0 ≤ (v_X11_spot T x0 x1) → True)))
set_option maxRecDepth 10000 in
theorem c_X11_grade {d L sz : Nat} {T : tT} (hsz : 161 ≤ sz) (x0 : Int32) (x1 : Int32) (x2 : Int32) (ok : ok_X11_grade sz T x0 x1 x2) : tiK (d + 1) mX11_grade [.ref 105, .int x0, .int x1, .int x2] L sz T (fun r T' => r = v_X11_grade T x0 x1 x2 ∧ T = T') := by
  refine k_X11_grade hsz  x0 x1 x2 ?_
  unfold ok_X11_grade at ok
  refine ⟨_, c_X11_spot hsz  x0 x1 ok.1, ?_⟩
  rintro _ _ ⟨rfl, rfl⟩
  replace ok := ok.2
  refine ⟨fun kq0 => ?_, fun kq0 => ?_⟩
  · replace ok := ok.1 kq0
    refine ⟨fun kq1 => ?_, fun kq1 => ?_, fun kq1 => ?_, fun kq1 => ?_, fun kq1_0 kq1_1 kq1_2 kq1_3 => ?_⟩
    · replace ok := ok.1 kq1
      refine ⟨ok, ?_⟩
      exact ⟨by unfold v_X11_grade; first | (rw [if_pos kq0, if_pos kq1]; done) | (rw [if_pos kq0, if_pos kq1]; rfl), rfl⟩
    · replace ok := ok.2.1 kq1
      refine ⟨ok, ?_⟩
      exact ⟨by unfold v_X11_grade; first | (rw [if_pos kq0, if_neg (show ¬ x2 = 0 by rw [kq1]; decide), if_pos kq1]; done) | (rw [if_pos kq0, if_neg (show ¬ x2 = 0 by rw [kq1]; decide), if_pos kq1]; rfl), rfl⟩
    · replace ok := ok.2.2.1 kq1
      refine ⟨ok, ?_⟩
      exact ⟨by unfold v_X11_grade; first | (rw [if_pos kq0, if_neg (show ¬ x2 = 0 by rw [kq1]; decide), if_neg (show ¬ x2 = 1 by rw [kq1]; decide), if_pos kq1]; done) | (rw [if_pos kq0, if_neg (show ¬ x2 = 0 by rw [kq1]; decide), if_neg (show ¬ x2 = 1 by rw [kq1]; decide), if_pos kq1]; rfl), rfl⟩
    · replace ok := ok.2.2.2.1 kq1
      refine ⟨_, c_X11_minutesOf hsz  (v_X11_spot T x0 x1) ok.1, ?_⟩
      rintro _ _ ⟨rfl, rfl⟩
      replace ok := ok.2
      exact ⟨by unfold v_X11_grade; first | (rw [if_pos kq0, if_neg (show ¬ x2 = 0 by rw [kq1]; decide), if_neg (show ¬ x2 = 1 by rw [kq1]; decide), if_neg (show ¬ x2 = 2 by rw [kq1]; decide), if_pos kq1]; done) | (rw [if_pos kq0, if_neg (show ¬ x2 = 0 by rw [kq1]; decide), if_neg (show ¬ x2 = 1 by rw [kq1]; decide), if_neg (show ¬ x2 = 2 by rw [kq1]; decide), if_pos kq1]; rfl), rfl⟩
    · replace ok := ok.2.2.2.2 kq1_0 kq1_1 kq1_2 kq1_3
      refine ⟨fun kq5 => ?_, fun kq5 => ?_⟩
      · replace ok := ok.1 kq5
        exact ⟨by unfold v_X11_grade; first | (rw [if_pos kq0, if_neg kq1_0, if_neg kq1_1, if_neg kq1_2, if_neg kq1_3, if_pos kq5]; done) | (rw [if_pos kq0, if_neg kq1_0, if_neg kq1_1, if_neg kq1_2, if_neg kq1_3, if_pos kq5]; rfl), rfl⟩
      · replace ok := ok.2 kq5
        refine ⟨ok.1, ?_⟩
        replace ok := ok.2
        refine ⟨fun kq6 => ?_, fun kq6 => ?_⟩
        · replace ok := ok.1 kq6
          exact ⟨by unfold v_X11_grade; first | (rw [if_pos kq0, if_neg kq1_0, if_neg kq1_1, if_neg kq1_2, if_neg kq1_3, if_neg kq5, if_pos kq6]; done) | (rw [if_pos kq0, if_neg kq1_0, if_neg kq1_1, if_neg kq1_2, if_neg kq1_3, if_neg kq5, if_pos kq6]; rfl), rfl⟩
        · replace ok := ok.2 kq6
          refine ⟨ok, ?_⟩
          exact ⟨by unfold v_X11_grade; first | (rw [if_pos kq0, if_neg kq1_0, if_neg kq1_1, if_neg kq1_2, if_neg kq1_3, if_neg kq5, if_neg kq6]; done) | (rw [if_pos kq0, if_neg kq1_0, if_neg kq1_1, if_neg kq1_2, if_neg kq1_3, if_neg kq5, if_neg kq6]; rfl), rfl⟩
  · replace ok := ok.2 kq0
    exact ⟨by unfold v_X11_grade; first | (rw [if_neg kq0]; done) | (rw [if_neg kq0]; rfl), rfl⟩
def v_X11_is (T : tT)  (x0 : Int32) : Int32 := (if (T.1 105 8) = (5 : Int32) then (if (v_X11_sign T (T.1 105 6)) = x0 then (1 : Int32) else (0 : Int32)) else (0 : Int32))
def ok_X11_is (sz : Nat) (T : tT)  (x0 : Int32) : Prop := ((¬ (T.1 105 8) = (5 : Int32) → True) ∧ ((T.1 105 8) = (5 : Int32) → (ok_X11_sign sz T (T.1 105 6) ∧ True)))
set_option maxRecDepth 10000 in
theorem c_X11_is {d L sz : Nat} {T : tT} (hsz : 161 ≤ sz) (x0 : Int32) (ok : ok_X11_is sz T x0) : tiK (d + 1) mX11_is [.ref 105, .int x0] L sz T (fun r T' => r = v_X11_is T x0 ∧ T = T') := by
  refine k_X11_is hsz  x0 ?_
  unfold ok_X11_is at ok
  refine ⟨fun kq0 => ?_, fun kq0 => ?_⟩
  · replace ok := ok.1 kq0
    exact ⟨by unfold v_X11_is; first | (rw [if_neg kq0]; done) | (rw [if_neg kq0]; rfl), rfl⟩
  · replace ok := ok.2 kq0
    refine ⟨_, c_X11_sign hsz  (T.1 105 6) ok.1, ?_⟩
    rintro _ _ ⟨rfl, rfl⟩
    replace ok := ok.2
    refine ⟨fun kq1 => ?_, fun kq1 => ?_⟩
    · exact ⟨by unfold v_X11_is; first | (rw [if_pos kq0, if_neg kq1]; done) | (rw [if_pos kq0, if_neg kq1]; rfl), rfl⟩
    · exact ⟨by unfold v_X11_is; first | (rw [if_pos kq0, if_pos kq1]; done) | (rw [if_pos kq0, if_pos kq1]; rfl), rfl⟩
def v_X11_isKept (T : tT)  (x0 : Int64) : Int32 := (if (v_X11_isMeant T x0) = 0 then (if x0 = (444300616805 : Int64) then (1 : Int32) else (if x0 = (1818850164 : Int64) then (1 : Int32) else (if x0 = (1885434484 : Int64) then (1 : Int32) else (if x0 = (30796695599342963 : Int64) then (1 : Int32) else (if x0 = (1836413812 : Int64) then (1 : Int32) else (if x0 = (1885434739 : Int64) then (1 : Int32) else (if x0 = (469853432180 : Int64) then (1 : Int32) else (if x0 = (28530 : Int64) then (1 : Int32) else (if x0 = (6385252 : Int64) then (1 : Int32) else (if x0 = (7237492 : Int64) then (1 : Int32) else (0 : Int32))))))))))) else (1 : Int32))
set_option maxRecDepth 10000 in
theorem c_X11_isKept {d L sz : Nat} {T : tT} (hsz : 161 ≤ sz) (x0 : Int64) : tiK (d + 1) mX11_isKept [.long x0] L sz T (fun r T' => r = v_X11_isKept T x0 ∧ T = T') := by
  refine k_X11_isKept hsz  x0 ?_
  refine ⟨_, c_X11_isMeant hsz  x0 , ?_⟩
  rintro _ _ ⟨rfl, rfl⟩
  refine ⟨fun kq0 => ?_, fun kq0 => ?_⟩
  · exact ⟨by unfold v_X11_isKept; first | (rw [if_neg kq0]; done) | (rw [if_neg kq0]; rfl), rfl⟩
  · refine ⟨fun kq1 => ?_, fun kq1 => ?_⟩
    · exact ⟨by unfold v_X11_isKept; first | (rw [if_pos kq0, if_pos kq1]; done) | (rw [if_pos kq0, if_pos kq1]; rfl), rfl⟩
    · refine ⟨fun kq2 => ?_, fun kq2 => ?_⟩
      · exact ⟨by unfold v_X11_isKept; first | (rw [if_pos kq0, if_neg kq1, if_pos kq2]; done) | (rw [if_pos kq0, if_neg kq1, if_pos kq2]; rfl), rfl⟩
      · refine ⟨fun kq3 => ?_, fun kq3 => ?_⟩
        · exact ⟨by unfold v_X11_isKept; first | (rw [if_pos kq0, if_neg kq1, if_neg kq2, if_pos kq3]; done) | (rw [if_pos kq0, if_neg kq1, if_neg kq2, if_pos kq3]; rfl), rfl⟩
        · refine ⟨fun kq4 => ?_, fun kq4 => ?_⟩
          · exact ⟨by unfold v_X11_isKept; first | (rw [if_pos kq0, if_neg kq1, if_neg kq2, if_neg kq3, if_pos kq4]; done) | (rw [if_pos kq0, if_neg kq1, if_neg kq2, if_neg kq3, if_pos kq4]; rfl), rfl⟩
          · refine ⟨fun kq5 => ?_, fun kq5 => ?_⟩
            · exact ⟨by unfold v_X11_isKept; first | (rw [if_pos kq0, if_neg kq1, if_neg kq2, if_neg kq3, if_neg kq4, if_pos kq5]; done) | (rw [if_pos kq0, if_neg kq1, if_neg kq2, if_neg kq3, if_neg kq4, if_pos kq5]; rfl), rfl⟩
            · refine ⟨fun kq6 => ?_, fun kq6 => ?_⟩
              · exact ⟨by unfold v_X11_isKept; first | (rw [if_pos kq0, if_neg kq1, if_neg kq2, if_neg kq3, if_neg kq4, if_neg kq5, if_pos kq6]; done) | (rw [if_pos kq0, if_neg kq1, if_neg kq2, if_neg kq3, if_neg kq4, if_neg kq5, if_pos kq6]; rfl), rfl⟩
              · refine ⟨fun kq7 => ?_, fun kq7 => ?_⟩
                · exact ⟨by unfold v_X11_isKept; first | (rw [if_pos kq0, if_neg kq1, if_neg kq2, if_neg kq3, if_neg kq4, if_neg kq5, if_neg kq6, if_pos kq7]; done) | (rw [if_pos kq0, if_neg kq1, if_neg kq2, if_neg kq3, if_neg kq4, if_neg kq5, if_neg kq6, if_pos kq7]; rfl), rfl⟩
                · refine ⟨fun kq8 => ?_, fun kq8 => ?_⟩
                  · exact ⟨by unfold v_X11_isKept; first | (rw [if_pos kq0, if_neg kq1, if_neg kq2, if_neg kq3, if_neg kq4, if_neg kq5, if_neg kq6, if_neg kq7, if_pos kq8]; done) | (rw [if_pos kq0, if_neg kq1, if_neg kq2, if_neg kq3, if_neg kq4, if_neg kq5, if_neg kq6, if_neg kq7, if_pos kq8]; rfl), rfl⟩
                  · refine ⟨fun kq9 => ?_, fun kq9 => ?_⟩
                    · exact ⟨by unfold v_X11_isKept; first | (rw [if_pos kq0, if_neg kq1, if_neg kq2, if_neg kq3, if_neg kq4, if_neg kq5, if_neg kq6, if_neg kq7, if_neg kq8, if_pos kq9]; done) | (rw [if_pos kq0, if_neg kq1, if_neg kq2, if_neg kq3, if_neg kq4, if_neg kq5, if_neg kq6, if_neg kq7, if_neg kq8, if_pos kq9]; rfl), rfl⟩
                    · refine ⟨fun kq10 => ?_, fun kq10 => ?_⟩
                      · exact ⟨by unfold v_X11_isKept; first | (rw [if_pos kq0, if_neg kq1, if_neg kq2, if_neg kq3, if_neg kq4, if_neg kq5, if_neg kq6, if_neg kq7, if_neg kq8, if_neg kq9, if_neg kq10]; done) | (rw [if_pos kq0, if_neg kq1, if_neg kq2, if_neg kq3, if_neg kq4, if_neg kq5, if_neg kq6, if_neg kq7, if_neg kq8, if_neg kq9, if_neg kq10]; rfl), rfl⟩
                      · exact ⟨by unfold v_X11_isKept; first | (rw [if_pos kq0, if_neg kq1, if_neg kq2, if_neg kq3, if_neg kq4, if_neg kq5, if_neg kq6, if_neg kq7, if_neg kq8, if_neg kq9, if_pos kq10]; done) | (rw [if_pos kq0, if_neg kq1, if_neg kq2, if_neg kq3, if_neg kq4, if_neg kq5, if_neg kq6, if_neg kq7, if_neg kq8, if_neg kq9, if_pos kq10]; rfl), rfl⟩
def F_X11_mark (T : tT)  (x0 : Int32) (x1 : Int32) (x2 : Int32) (x3 : Int32) : Int32 × tT := (if (v_X11_isExaminer T x1) = 0 then ((-1 : Int32), T) else ((F_X11_tell T x0 x1 x2 x3).1, (F_X11_tell T x0 x1 x2 x3).2))
def ok_X11_mark (sz : Nat) (T : tT)  (x0 : Int32) (x1 : Int32) (x2 : Int32) (x3 : Int32) : Prop := (((v_X11_isExaminer T x1) = 0 → True) ∧ (¬ (v_X11_isExaminer T x1) = 0 → (ok_X11_tell sz T x0 x1 x2 x3 ∧ True)))
set_option maxRecDepth 10000 in
theorem c_X11_mark {d L sz : Nat} {T : tT} (hsz : 161 ≤ sz) (x0 : Int32) (x1 : Int32) (x2 : Int32) (x3 : Int32) (ok : ok_X11_mark sz T x0 x1 x2 x3) : tiK (d + 3) mX11_mark [.ref 105, .int x0, .int x1, .int x2, .int x3] L sz T (fun r T' => r = (F_X11_mark T x0 x1 x2 x3).1 ∧ T' = (F_X11_mark T x0 x1 x2 x3).2) := by
  refine k_X11_mark hsz  x0 x1 x2 x3 ?_
  unfold ok_X11_mark at ok
  refine ⟨_, c_X11_isExaminer hsz  x1 , ?_⟩
  rintro _ _ ⟨rfl, rfl⟩
  refine ⟨fun kq0 => ?_, fun kq0 => ?_⟩
  · replace ok := ok.1 kq0
    exact ⟨by unfold F_X11_mark; first | (rw [if_pos kq0]; done) | (rw [if_pos kq0]; rfl), by unfold F_X11_mark; first | (rw [if_pos kq0]; done) | (rw [if_pos kq0]; rfl)⟩
  · replace ok := ok.2 kq0
    refine ⟨_, c_X11_tell hsz  x0 x1 x2 x3 ok.1, ?_⟩
    rintro _ _ ⟨rfl, rfl⟩
    replace ok := ok.2
    exact ⟨by unfold F_X11_mark; first | (rw [if_neg kq0]; done) | (rw [if_neg kq0]; rfl), by unfold F_X11_mark; first | (rw [if_neg kq0]; done) | (rw [if_neg kq0]; rfl)⟩
def v_X11_rankHere (T : tT)   : Int32 := (if (v_X11_is T (43 : Int32)) = 0 then (if (v_X11_is T (45 : Int32)) = 0 then (if (v_X11_is T (60 : Int32)) = 0 then (if (v_X11_is T (62 : Int32)) = 0 then (if (v_X11_is T (61 : Int32)) = 0 then (if (v_X11_isWord T (6385252 : Int64)) = 0 then (if (v_X11_isWord T (28530 : Int64)) = 0 then (0 : Int32) else (1 : Int32)) else (2 : Int32)) else (4 : Int32)) else (4 : Int32)) else (4 : Int32)) else (5 : Int32)) else (5 : Int32))
def ok_X11_rankHere (sz : Nat) (T : tT)   : Prop := (ok_X11_is sz T (43 : Int32) ∧ ((¬ (v_X11_is T (43 : Int32)) = 0 → True) ∧ ((v_X11_is T (43 : Int32)) = 0 → (ok_X11_is sz T (45 : Int32) ∧ (((v_X11_is T (45 : Int32)) = 0 → (ok_X11_is sz T (60 : Int32) ∧ ((¬ (v_X11_is T (60 : Int32)) = 0 → True) ∧ ((v_X11_is T (60 : Int32)) = 0 → (ok_X11_is sz T (62 : Int32) ∧ ((¬ (v_X11_is T (62 : Int32)) = 0 → True) ∧ ((v_X11_is T (62 : Int32)) = 0 → (ok_X11_is sz T (61 : Int32) ∧ True)))))))) ∧ (¬ (v_X11_is T (45 : Int32)) = 0 → True))))))
set_option maxRecDepth 10000 in
theorem c_X11_rankHere {d L sz : Nat} {T : tT} (hsz : 161 ≤ sz)  (ok : ok_X11_rankHere sz T) : tiK (d + 2) mX11_rankHere [.ref 105] L sz T (fun r T' => r = v_X11_rankHere T ∧ T = T') := by
  refine k_X11_rankHere hsz   ?_
  unfold ok_X11_rankHere at ok
  refine ⟨_, c_X11_is hsz  (43 : Int32) ok.1, ?_⟩
  rintro _ _ ⟨rfl, rfl⟩
  replace ok := ok.2
  refine ⟨fun kq0 => ?_, fun kq0 => ?_⟩
  · replace ok := ok.1 kq0
    exact ⟨by unfold v_X11_rankHere; first | (rw [if_neg kq0]; done) | (rw [if_neg kq0]; rfl), rfl⟩
  · replace ok := ok.2 kq0
    refine ⟨_, c_X11_is hsz  (45 : Int32) ok.1, ?_⟩
    rintro _ _ ⟨rfl, rfl⟩
    replace ok := ok.2
    refine ⟨fun kq1 => ?_, fun kq1 => ?_⟩
    · replace ok := ok.1 kq1
      refine ⟨_, c_X11_is hsz  (60 : Int32) ok.1, ?_⟩
      rintro _ _ ⟨rfl, rfl⟩
      replace ok := ok.2
      refine ⟨fun kq2 => ?_, fun kq2 => ?_⟩
      · replace ok := ok.1 kq2
        exact ⟨by unfold v_X11_rankHere; first | (rw [if_pos kq0, if_pos kq1, if_neg kq2]; done) | (rw [if_pos kq0, if_pos kq1, if_neg kq2]; rfl), rfl⟩
      · replace ok := ok.2 kq2
        refine ⟨_, c_X11_is hsz  (62 : Int32) ok.1, ?_⟩
        rintro _ _ ⟨rfl, rfl⟩
        replace ok := ok.2
        refine ⟨fun kq3 => ?_, fun kq3 => ?_⟩
        · replace ok := ok.1 kq3
          exact ⟨by unfold v_X11_rankHere; first | (rw [if_pos kq0, if_pos kq1, if_pos kq2, if_neg kq3]; done) | (rw [if_pos kq0, if_pos kq1, if_pos kq2, if_neg kq3]; rfl), rfl⟩
        · replace ok := ok.2 kq3
          refine ⟨_, c_X11_is hsz  (61 : Int32) ok.1, ?_⟩
          rintro _ _ ⟨rfl, rfl⟩
          replace ok := ok.2
          refine ⟨fun kq4 => ?_, fun kq4 => ?_⟩
          · refine ⟨_, c_X11_isWord hsz  (6385252 : Int64) , ?_⟩
            rintro _ _ ⟨rfl, rfl⟩
            refine ⟨fun kq5 => ?_, fun kq5 => ?_⟩
            · refine ⟨_, c_X11_isWord hsz  (28530 : Int64) , ?_⟩
              rintro _ _ ⟨rfl, rfl⟩
              refine ⟨fun kq6 => ?_, fun kq6 => ?_⟩
              · exact ⟨by unfold v_X11_rankHere; first | (rw [if_pos kq0, if_pos kq1, if_pos kq2, if_pos kq3, if_pos kq4, if_pos kq5, if_pos kq6]; done) | (rw [if_pos kq0, if_pos kq1, if_pos kq2, if_pos kq3, if_pos kq4, if_pos kq5, if_pos kq6]; rfl), rfl⟩
              · exact ⟨by unfold v_X11_rankHere; first | (rw [if_pos kq0, if_pos kq1, if_pos kq2, if_pos kq3, if_pos kq4, if_pos kq5, if_neg kq6]; done) | (rw [if_pos kq0, if_pos kq1, if_pos kq2, if_pos kq3, if_pos kq4, if_pos kq5, if_neg kq6]; rfl), rfl⟩
            · exact ⟨by unfold v_X11_rankHere; first | (rw [if_pos kq0, if_pos kq1, if_pos kq2, if_pos kq3, if_pos kq4, if_neg kq5]; done) | (rw [if_pos kq0, if_pos kq1, if_pos kq2, if_pos kq3, if_pos kq4, if_neg kq5]; rfl), rfl⟩
          · exact ⟨by unfold v_X11_rankHere; first | (rw [if_pos kq0, if_pos kq1, if_pos kq2, if_pos kq3, if_neg kq4]; done) | (rw [if_pos kq0, if_pos kq1, if_pos kq2, if_pos kq3, if_neg kq4]; rfl), rfl⟩
    · replace ok := ok.2 kq1
      exact ⟨by unfold v_X11_rankHere; first | (rw [if_pos kq0, if_neg kq1]; done) | (rw [if_pos kq0, if_neg kq1]; rfl), rfl⟩
def v_X10_about (T : tT)  (x0 : Int32) : Int32 := (if x0 = 0 then (T.1 93 0) else (if x0 = 1 then (T.1 69 0) else (if x0 = 2 then (T.1 79 0) else (if x0 = 3 then (T.1 79 1) else (if x0 = 4 then (T.1 79 2) else (if x0 = 5 then (T.1 93 1) else (if x0 = 6 then (T.1 101 0) else (if x0 = 7 then (T.1 4 1) else (if (v_X10_isWithin T x0 (10 : Int32) (13 : Int32)) = 0 then (-1 : Int32) else (v_X10_gradesOf T (x0 - (10 : Int32))))))))))))
def ok_X10_about (sz : Nat) (T : tT)  (x0 : Int32) : Prop := ((x0 = 0 → True) ∧ (x0 = 1 → True) ∧ (x0 = 2 → True) ∧ (x0 = 3 → True) ∧ (x0 = 4 → True) ∧ (x0 = 5 → True) ∧ (x0 = 6 → True) ∧ (x0 = 7 → True) ∧ (¬ x0 = 0 → ¬ x0 = 1 → ¬ x0 = 2 → ¬ x0 = 3 → ¬ x0 = 4 → ¬ x0 = 5 → ¬ x0 = 6 → ¬ x0 = 7 → (((v_X10_isWithin T x0 (10 : Int32) (13 : Int32)) = 0 → True) ∧ (¬ (v_X10_isWithin T x0 (10 : Int32) (13 : Int32)) = 0 → (ok_X10_gradesOf sz T (x0 - (10 : Int32)) ∧ True)))))
set_option maxRecDepth 10000 in
theorem c_X10_about {d L sz : Nat} {T : tT} (hsz : 161 ≤ sz) (x0 : Int32) (ok : ok_X10_about sz T x0) : tiK (d + 2) mX10_about [.ref 2, .int x0] L sz T (fun r T' => r = v_X10_about T x0 ∧ T = T') := by
  refine k_X10_about hsz  x0 ?_
  unfold ok_X10_about at ok
  refine ⟨fun kq0 => ?_, fun kq0 => ?_, fun kq0 => ?_, fun kq0 => ?_, fun kq0 => ?_, fun kq0 => ?_, fun kq0 => ?_, fun kq0 => ?_, fun kq0_0 kq0_1 kq0_2 kq0_3 kq0_4 kq0_5 kq0_6 kq0_7 => ?_⟩
  · replace ok := ok.1 kq0
    exact ⟨by unfold v_X10_about; first | (rw [if_pos kq0]; done) | (rw [if_pos kq0]; rfl), rfl⟩
  · replace ok := ok.2.1 kq0
    exact ⟨by unfold v_X10_about; first | (rw [if_neg (show ¬ x0 = 0 by rw [kq0]; decide), if_pos kq0]; done) | (rw [if_neg (show ¬ x0 = 0 by rw [kq0]; decide), if_pos kq0]; rfl), rfl⟩
  · replace ok := ok.2.2.1 kq0
    exact ⟨by unfold v_X10_about; first | (rw [if_neg (show ¬ x0 = 0 by rw [kq0]; decide), if_neg (show ¬ x0 = 1 by rw [kq0]; decide), if_pos kq0]; done) | (rw [if_neg (show ¬ x0 = 0 by rw [kq0]; decide), if_neg (show ¬ x0 = 1 by rw [kq0]; decide), if_pos kq0]; rfl), rfl⟩
  · replace ok := ok.2.2.2.1 kq0
    exact ⟨by unfold v_X10_about; first | (rw [if_neg (show ¬ x0 = 0 by rw [kq0]; decide), if_neg (show ¬ x0 = 1 by rw [kq0]; decide), if_neg (show ¬ x0 = 2 by rw [kq0]; decide), if_pos kq0]; done) | (rw [if_neg (show ¬ x0 = 0 by rw [kq0]; decide), if_neg (show ¬ x0 = 1 by rw [kq0]; decide), if_neg (show ¬ x0 = 2 by rw [kq0]; decide), if_pos kq0]; rfl), rfl⟩
  · replace ok := ok.2.2.2.2.1 kq0
    exact ⟨by unfold v_X10_about; first | (rw [if_neg (show ¬ x0 = 0 by rw [kq0]; decide), if_neg (show ¬ x0 = 1 by rw [kq0]; decide), if_neg (show ¬ x0 = 2 by rw [kq0]; decide), if_neg (show ¬ x0 = 3 by rw [kq0]; decide), if_pos kq0]; done) | (rw [if_neg (show ¬ x0 = 0 by rw [kq0]; decide), if_neg (show ¬ x0 = 1 by rw [kq0]; decide), if_neg (show ¬ x0 = 2 by rw [kq0]; decide), if_neg (show ¬ x0 = 3 by rw [kq0]; decide), if_pos kq0]; rfl), rfl⟩
  · replace ok := ok.2.2.2.2.2.1 kq0
    exact ⟨by unfold v_X10_about; first | (rw [if_neg (show ¬ x0 = 0 by rw [kq0]; decide), if_neg (show ¬ x0 = 1 by rw [kq0]; decide), if_neg (show ¬ x0 = 2 by rw [kq0]; decide), if_neg (show ¬ x0 = 3 by rw [kq0]; decide), if_neg (show ¬ x0 = 4 by rw [kq0]; decide), if_pos kq0]; done) | (rw [if_neg (show ¬ x0 = 0 by rw [kq0]; decide), if_neg (show ¬ x0 = 1 by rw [kq0]; decide), if_neg (show ¬ x0 = 2 by rw [kq0]; decide), if_neg (show ¬ x0 = 3 by rw [kq0]; decide), if_neg (show ¬ x0 = 4 by rw [kq0]; decide), if_pos kq0]; rfl), rfl⟩
  · replace ok := ok.2.2.2.2.2.2.1 kq0
    exact ⟨by unfold v_X10_about; first | (rw [if_neg (show ¬ x0 = 0 by rw [kq0]; decide), if_neg (show ¬ x0 = 1 by rw [kq0]; decide), if_neg (show ¬ x0 = 2 by rw [kq0]; decide), if_neg (show ¬ x0 = 3 by rw [kq0]; decide), if_neg (show ¬ x0 = 4 by rw [kq0]; decide), if_neg (show ¬ x0 = 5 by rw [kq0]; decide), if_pos kq0]; done) | (rw [if_neg (show ¬ x0 = 0 by rw [kq0]; decide), if_neg (show ¬ x0 = 1 by rw [kq0]; decide), if_neg (show ¬ x0 = 2 by rw [kq0]; decide), if_neg (show ¬ x0 = 3 by rw [kq0]; decide), if_neg (show ¬ x0 = 4 by rw [kq0]; decide), if_neg (show ¬ x0 = 5 by rw [kq0]; decide), if_pos kq0]; rfl), rfl⟩
  · replace ok := ok.2.2.2.2.2.2.2.1 kq0
    exact ⟨by unfold v_X10_about; first | (rw [if_neg (show ¬ x0 = 0 by rw [kq0]; decide), if_neg (show ¬ x0 = 1 by rw [kq0]; decide), if_neg (show ¬ x0 = 2 by rw [kq0]; decide), if_neg (show ¬ x0 = 3 by rw [kq0]; decide), if_neg (show ¬ x0 = 4 by rw [kq0]; decide), if_neg (show ¬ x0 = 5 by rw [kq0]; decide), if_neg (show ¬ x0 = 6 by rw [kq0]; decide), if_pos kq0]; done) | (rw [if_neg (show ¬ x0 = 0 by rw [kq0]; decide), if_neg (show ¬ x0 = 1 by rw [kq0]; decide), if_neg (show ¬ x0 = 2 by rw [kq0]; decide), if_neg (show ¬ x0 = 3 by rw [kq0]; decide), if_neg (show ¬ x0 = 4 by rw [kq0]; decide), if_neg (show ¬ x0 = 5 by rw [kq0]; decide), if_neg (show ¬ x0 = 6 by rw [kq0]; decide), if_pos kq0]; rfl), rfl⟩
  · replace ok := ok.2.2.2.2.2.2.2.2 kq0_0 kq0_1 kq0_2 kq0_3 kq0_4 kq0_5 kq0_6 kq0_7
    refine ⟨_, c_X10_isWithin hsz  x0 (10 : Int32) (13 : Int32) , ?_⟩
    rintro _ _ ⟨rfl, rfl⟩
    refine ⟨fun kq8 => ?_, fun kq8 => ?_⟩
    · replace ok := ok.1 kq8
      exact ⟨by unfold v_X10_about; first | (rw [if_neg kq0_0, if_neg kq0_1, if_neg kq0_2, if_neg kq0_3, if_neg kq0_4, if_neg kq0_5, if_neg kq0_6, if_neg kq0_7, if_pos kq8]; done) | (rw [if_neg kq0_0, if_neg kq0_1, if_neg kq0_2, if_neg kq0_3, if_neg kq0_4, if_neg kq0_5, if_neg kq0_6, if_neg kq0_7, if_pos kq8]; rfl), rfl⟩
    · replace ok := ok.2 kq8
      refine ⟨_, c_X10_gradesOf hsz  (x0 - (10 : Int32)) ok.1, ?_⟩
      rintro _ _ ⟨rfl, rfl⟩
      replace ok := ok.2
      exact ⟨by unfold v_X10_about; first | (rw [if_neg kq0_0, if_neg kq0_1, if_neg kq0_2, if_neg kq0_3, if_neg kq0_4, if_neg kq0_5, if_neg kq0_6, if_neg kq0_7, if_neg kq8]; done) | (rw [if_neg kq0_0, if_neg kq0_1, if_neg kq0_2, if_neg kq0_3, if_neg kq0_4, if_neg kq0_5, if_neg kq0_6, if_neg kq0_7, if_neg kq8]; rfl), rfl⟩
def v_X10_canBeMarked (T : tT)  (x0 : Int32) (x1 : Int32) (x2 : Int32) : Int32 := (if (v_X2_has T x0) = 0 then (0 : Int32) else (match (v_X10_gradeOf T x0) with | none => (0 : Int32) | some p3 => (if x1 < 0 then (0 : Int32) else (if (T.1 p3 2) ≤ x1 then (0 : Int32) else (if (v_X10_isWithin T x2 (0 : Int32) (T.1 (p3 + 5) (x1.toNatClampNeg))) = 0 then (0 : Int32) else (1 : Int32))))))
def ok_X10_canBeMarked (sz : Nat) (T : tT)  (x0 : Int32) (x1 : Int32) (x2 : Int32) : Prop := (((v_X2_has T x0) = 0 → True) ∧ (¬ (v_X2_has T x0) = 0 → (ok_X10_gradeOf sz T x0 ∧ (((v_X10_gradeOf T x0) = none → True) ∧ (∀ p3, (v_X10_gradeOf T x0) = some p3 → tgr sz p3 ∧ ((x1 < 0 → True) ∧ (¬ x1 < 0 → (((T.1 p3 2) ≤ x1 → True) ∧ (¬ (T.1 p3 2) ≤ x1 → vp_in x1 6)))))))))
set_option maxRecDepth 10000 in
theorem c_X10_canBeMarked {d L sz : Nat} {T : tT} (hsz : 161 ≤ sz) (x0 : Int32) (x1 : Int32) (x2 : Int32) (ok : ok_X10_canBeMarked sz T x0 x1 x2) : tiK (d + 3) mX10_canBeMarked [.ref 2, .int x0, .int x1, .int x2] L sz T (fun r T' => r = v_X10_canBeMarked T x0 x1 x2 ∧ T = T') := by
  refine k_X10_canBeMarked hsz  x0 x1 x2 ?_
  unfold ok_X10_canBeMarked at ok
  refine ⟨_, c_X2_has hsz  x0 , ?_⟩
  rintro _ _ ⟨rfl, rfl⟩
  refine ⟨fun kq0 => ?_, fun kq0 => ?_⟩
  · replace ok := ok.1 kq0
    exact ⟨by unfold v_X10_canBeMarked; first | (rw [if_pos kq0]; done) | (rw [if_pos kq0]; rfl), rfl⟩
  · replace ok := ok.2 kq0
    refine ⟨_, c_X10_gradeOf hsz  x0 ok.1, ?_⟩
    rintro _ _ ⟨rfl, rfl⟩
    replace ok := ok.2
    refine ⟨fun kq1 => ?_, fun p3 kq1 => ?_⟩
    · replace ok := ok.1 kq1
      exact ⟨by unfold v_X10_canBeMarked; first | (simp only [if_neg kq0, kq1]; done) | (simp only [if_neg kq0, kq1]; rfl), rfl⟩
    · obtain ⟨h_p3, ok⟩ := ok.2 p3 kq1
      refine ⟨h_p3, ?_⟩
      refine ⟨fun kq2 => ?_, fun kq2 => ?_⟩
      · replace ok := ok.1 kq2
        exact ⟨by unfold v_X10_canBeMarked; first | (simp only [if_neg kq0, kq1, if_pos kq2]; done) | (simp only [if_neg kq0, kq1, if_pos kq2]; rfl), rfl⟩
      · replace ok := ok.2 kq2
        refine ⟨fun kq3 => ?_, fun kq3 => ?_⟩
        · replace ok := ok.1 kq3
          exact ⟨by unfold v_X10_canBeMarked; first | (simp only [if_neg kq0, kq1, if_neg kq2, if_pos kq3]; done) | (simp only [if_neg kq0, kq1, if_neg kq2, if_pos kq3]; rfl), rfl⟩
        · replace ok := ok.2 kq3
          refine ⟨ok, ?_⟩
          refine ⟨_, c_X10_isWithin hsz  x2 (0 : Int32) (T.1 (p3 + 5) (x1.toNatClampNeg)) , ?_⟩
          rintro _ _ ⟨rfl, rfl⟩
          refine ⟨fun kq4 => ?_, fun kq4 => ?_⟩
          · exact ⟨by unfold v_X10_canBeMarked; first | (simp only [if_neg kq0, kq1, if_neg kq2, if_neg kq3, if_pos kq4]; done) | (simp only [if_neg kq0, kq1, if_neg kq2, if_neg kq3, if_pos kq4]; rfl), rfl⟩
          · exact ⟨by unfold v_X10_canBeMarked; first | (simp only [if_neg kq0, kq1, if_neg kq2, if_neg kq3, if_neg kq4]; done) | (simp only [if_neg kq0, kq1, if_neg kq2, if_neg kq3, if_neg kq4]; rfl), rfl⟩
def F_X10_mark (T : tT)  (x0 : Int32) (x1 : Int32) (x2 : Int32) (x3 : Int32) : Int32 × tT := (if (v_X1_hasExaminer T x1) = 0 then ((-1 : Int32), T) else (if (v_X10_canBeMarked T x0 x2 x3) = 0 then ((-1 : Int32), T) else ((F_X5_tell T x1 x0 x2 x3).1, (F_X5_tell T x1 x0 x2 x3).2)))
def ok_X10_mark (sz : Nat) (T : tT)  (x0 : Int32) (x1 : Int32) (x2 : Int32) (x3 : Int32) : Prop := (((v_X1_hasExaminer T x1) = 0 → True) ∧ (¬ (v_X1_hasExaminer T x1) = 0 → (ok_X10_canBeMarked sz T x0 x2 x3 ∧ (((v_X10_canBeMarked T x0 x2 x3) = 0 → True) ∧ (¬ (v_X10_canBeMarked T x0 x2 x3) = 0 → (ok_X5_tell sz T x1 x0 x2 x3 ∧ True))))))
set_option maxRecDepth 10000 in
theorem c_X10_mark {d L sz : Nat} {T : tT} (hsz : 161 ≤ sz) (x0 : Int32) (x1 : Int32) (x2 : Int32) (x3 : Int32) (ok : ok_X10_mark sz T x0 x1 x2 x3) : tiK (d + 4) mX10_mark [.ref 2, .int x0, .int x1, .int x2, .int x3] L sz T (fun r T' => r = (F_X10_mark T x0 x1 x2 x3).1 ∧ T' = (F_X10_mark T x0 x1 x2 x3).2) := by
  refine k_X10_mark hsz  x0 x1 x2 x3 ?_
  unfold ok_X10_mark at ok
  refine ⟨_, c_X1_hasExaminer hsz  x1 , ?_⟩
  rintro _ _ ⟨rfl, rfl⟩
  refine ⟨fun kq0 => ?_, fun kq0 => ?_⟩
  · replace ok := ok.1 kq0
    exact ⟨by unfold F_X10_mark; first | (rw [if_pos kq0]; done) | (rw [if_pos kq0]; rfl), by unfold F_X10_mark; first | (rw [if_pos kq0]; done) | (rw [if_pos kq0]; rfl)⟩
  · replace ok := ok.2 kq0
    refine ⟨_, c_X10_canBeMarked hsz  x0 x2 x3 ok.1, ?_⟩
    rintro _ _ ⟨rfl, rfl⟩
    replace ok := ok.2
    refine ⟨fun kq1 => ?_, fun kq1 => ?_⟩
    · replace ok := ok.1 kq1
      exact ⟨by unfold F_X10_mark; first | (rw [if_neg kq0, if_pos kq1]; done) | (rw [if_neg kq0, if_pos kq1]; rfl), by unfold F_X10_mark; first | (rw [if_neg kq0, if_pos kq1]; done) | (rw [if_neg kq0, if_pos kq1]; rfl)⟩
    · replace ok := ok.2 kq1
      refine ⟨_, c_X5_tell hsz  x1 x0 x2 x3 ok.1, ?_⟩
      rintro _ _ ⟨rfl, rfl⟩
      replace ok := ok.2
      exact ⟨by unfold F_X10_mark; first | (rw [if_neg kq0, if_neg kq1]; done) | (rw [if_neg kq0, if_neg kq1]; rfl), by unfold F_X10_mark; first | (rw [if_neg kq0, if_neg kq1]; done) | (rw [if_neg kq0, if_neg kq1]; rfl)⟩
