/-! pairs of functional forms; small facts of Int32; rows that stay -/
section
variable {d L : Nat} {m10 m11 : ax_M} {A : List Value} {I : Nat → tT → Prop}
theorem PS_pp (v1 v2 : tT → Int32) (k1 : ∀ sz T, 161 ≤ sz → I sz T → tiK d m10 (.ref 2 :: A) L sz T (fun r T' => r = v1 T ∧ T = T')) (k2 : ∀ sz T, 161 ≤ sz → I sz T → tiK d m11 (.ref 105 :: A) L sz T (fun r T' => r = v2 T ∧ T = T')) (e : ∀ sz T, 161 ≤ sz → I sz T → v1 T = v2 T) : PS d L m10 m11 A I := by
  intro sz T hsz hI
  refine ⟨_, k1 sz T hsz hI, ?_⟩
  rintro _ _ ⟨rfl, rfl⟩
  refine ⟨rfl, _, k2 sz T hsz hI, ?_⟩
  rintro _ _ ⟨rfl, rfl⟩
  exact ⟨e sz T hsz hI, hI⟩
theorem PS_ff (F1 F2 : tT → Int32 × tT) (k1 : ∀ sz T, 161 ≤ sz → I sz T → tiK d m10 (.ref 2 :: A) L sz T (fun r T' => r = (F1 T).1 ∧ T' = (F1 T).2)) (k2 : ∀ sz T, 161 ≤ sz → I sz T → tiK d m11 (.ref 105 :: A) L sz (F1 T).2 (fun r T' => r = (F2 (F1 T).2).1 ∧ T' = (F2 (F1 T).2).2)) (e : ∀ sz T, 161 ≤ sz → I sz T → (F1 T).2.1 0 = T.1 0 ∧ (F1 T).1 = (F2 (F1 T).2).1 ∧ I sz (F2 (F1 T).2).2) : PS d L m10 m11 A I := by
  intro sz T hsz hI
  refine ⟨_, k1 sz T hsz hI, ?_⟩
  rintro _ _ ⟨rfl, rfl⟩
  refine ⟨(e sz T hsz hI).1, _, k2 sz T hsz hI, ?_⟩
  rintro _ _ ⟨rfl, rfl⟩
  exact (e sz T hsz hI).2
end
theorem vpL (N : Nat) {a : Int32} (m : Int32) (hm : m.toInt = N) (h0 : 0 ≤ a) (h : a < m) : vp_in a N := by
  rw [vp_in_iff]
  rw [Int32.lt_iff_toInt_lt] at h
  rw [Int32.le_iff_toInt_le] at h0
  exact ⟨h0, by rw [← hm]; exact h⟩
theorem vp4 {a : Int32} (h0 : 0 ≤ a) (h : a < 4) : vp_in a 4 := vpL 4 4 rfl h0 h
theorem vp5 {a : Int32} (h0 : 0 ≤ a) (h : a < 5) : vp_in a 5 := vpL 5 5 rfl h0 h
theorem vp6 {a : Int32} (h0 : 0 ≤ a) (h : a < 6) : vp_in a 6 := vpL 6 6 rfl h0 h
theorem vp8 {a : Int32} (h0 : 0 ≤ a) (h : a < 8) : vp_in a 8 := vpL 8 8 rfl h0 h
theorem vp9 {a : Int32} (h0 : 0 ≤ a) (h : a < 9) : vp_in a 9 := vpL 9 9 rfl h0 h
theorem vp40 {a : Int32} (h0 : 0 ≤ a) (h : a < 40) : vp_in a 40 := vpL 40 40 rfl h0 h
theorem vp45 {a : Int32} (h0 : 0 ≤ a) (h : a < 45) : vp_in a 45 := vpL 45 45 rfl h0 h
theorem vp60 {a : Int32} (h0 : 0 ≤ a) (h : a < 60) : vp_in a 60 := vpL 60 60 rfl h0 h
theorem vp61 {a : Int32} (h0 : 0 ≤ a) (h : a < 61) : vp_in a 61 := vpL 61 61 rfl h0 h
theorem vp64 {a : Int32} (h0 : 0 ≤ a) (h : a < 64) : vp_in a 64 := vpL 64 64 rfl h0 h
theorem vp160 {a : Int32} (h0 : 0 ≤ a) (h : a < 160) : vp_in a 160 := vpL 160 160 rfl h0 h
theorem vp200 {a : Int32} (h0 : 0 ≤ a) (h : a < 200) : vp_in a 200 := vpL 200 200 rfl h0 h
theorem vp240 {a : Int32} (h0 : 0 ≤ a) (h : a < 240) : vp_in a 240 := vpL 240 240 rfl h0 h
theorem vp320 {a : Int32} (h0 : 0 ≤ a) (h : a < 320) : vp_in a 320 := vpL 320 320 rfl h0 h
theorem tnc {a : Int32} (h : 0 ≤ a) : (a.toNatClampNeg : Int) = a.toInt := by
  rw [Int32.le_iff_toInt_le] at h
  exact Int.toNat_of_nonneg h
theorem tnc_eq {a b : Int32} (ha : 0 ≤ a) (hb : 0 ≤ b) (h : a.toNatClampNeg = b.toNatClampNeg) : a = b := by
  have := tnc ha; have := tnc hb
  exact Int32.toInt_inj.mp (by omega)
theorem tnc_ne {a b : Int32} (ha : 0 ≤ a) (hb : 0 ≤ b) (h : a ≠ b) : a.toNatClampNeg ≠ b.toNatClampNeg := fun e => h (tnc_eq ha hb e)
theorem tnc_lt {a b : Int32} (ha : 0 ≤ a) (h : a < b) : a.toNatClampNeg < b.toNatClampNeg := by
  have hb : 0 ≤ b := by grind
  have := tnc ha; have := tnc hb
  rw [Int32.lt_iff_toInt_lt] at h
  omega
/-- an Int32 that isn't negative, as a number -/
theorem i2n {a : Int32} (h : 0 ≤ a) : ∃ n : Nat, a = nI n ∧ n < 2 ^ 31 := by
  obtain ⟨j, hj, e⟩ := nI_of (x := a) (by grind)
  exact ⟨j, e, hj⟩
/-- rows that stay: W k i says that place i of cell k may have changed -/
def fr (W : Nat → Nat → Bool) (T T' : tT) : Prop := ∀ k i, W k i = false → T'.1 k i = T.1 k i ∧ T'.2.1 k i = T.2.1 k i ∧ T'.2.2 k i = T.2.2 k i
theorem fr_refl {W : Nat → Nat → Bool} {T : tT} : fr W T T := fun _ _ _ => ⟨rfl, rfl, rfl⟩
theorem fr_trans {W : Nat → Nat → Bool} {T T1 T2 : tT} (h1 : fr W T T1) (h2 : fr W T1 T2) : fr W T T2 := fun k i h => by
  obtain ⟨a, b, c⟩ := h1 k i h
  obtain ⟨a', b', c'⟩ := h2 k i h
  exact ⟨a'.trans a, b'.trans b, c'.trans c⟩
theorem fr_I {W : Nat → Nat → Bool} {T T1 : tT} {a i : Nat} {v : Int32} (hw : W a i = true) (h : fr W T T1) : fr W T (tI T1 a i v) := fr_trans h (fun k j hk => ⟨t2_off (fun q => by rw [q.1, q.2, hw] at hk; cases hk), rfl, rfl⟩)
theorem fr_J {W : Nat → Nat → Bool} {T T1 : tT} {a i : Nat} {v : Int64} (hw : W a i = true) (h : fr W T T1) : fr W T (tJ T1 a i v) := fr_trans h (fun k j hk => ⟨rfl, t2_off (fun q => by rw [q.1, q.2, hw] at hk; cases hk), rfl⟩)
theorem fr_P {W : Nat → Nat → Bool} {T T1 : tT} {a i : Nat} {v : Option Nat} (hw : W a i = true) (h : fr W T T1) : fr W T (tP T1 a i v) := fr_trans h (fun k j hk => ⟨rfl, rfl, t2_off (fun q => by rw [q.1, q.2, hw] at hk; cases hk)⟩)
theorem fr_i {W : Nat → Nat → Bool} {T T1 : tT} (h : fr W T T1) {k i : Nat} (hk : W k i = false) : T1.1 k i = T.1 k i := (h k i hk).1
theorem fr_j {W : Nat → Nat → Bool} {T T1 : tT} (h : fr W T T1) {k i : Nat} (hk : W k i = false) : T1.2.1 k i = T.2.1 k i := (h k i hk).2.1
theorem fr_p {W : Nat → Nat → Bool} {T T1 : tT} (h : fr W T T1) {k i : Nat} (hk : W k i = false) : T1.2.2 k i = T.2.2 k i := (h k i hk).2.2
theorem fr_ri {W : Nat → Nat → Bool} {T T1 : tT} (h : fr W T T1) {k : Nat} (hk : ∀ i, W k i = false) : T1.1 k = T.1 k := funext fun i => (h k i (hk i)).1
theorem fr_rj {W : Nat → Nat → Bool} {T T1 : tT} (h : fr W T T1) {k : Nat} (hk : ∀ i, W k i = false) : T1.2.1 k = T.2.1 k := funext fun i => (h k i (hk i)).2.1
theorem fr_rp {W : Nat → Nat → Bool} {T T1 : tT} (h : fr W T T1) {k : Nat} (hk : ∀ i, W k i = false) : T1.2.2 k = T.2.2 k := funext fun i => (h k i (hk i)).2.2
/-! the relation between class and reference -/
def ICi (T : tT) : Prop := (T.1 105 56 = T.1 79 0 ∧ T.1 105 57 = T.1 79 1 ∧ T.1 105 58 = T.1 79 2) ∧ (0 ≤ T.1 79 0 ∧ T.1 79 0 ≤ 8 ∧ 0 ≤ T.1 79 1 ∧ T.1 79 1 ≤ 5 ∧ 0 ≤ T.1 79 2 ∧ T.1 79 2 ≤ 9) ∧ (T.1 143 = T.1 80 ∧ T.1 144 = T.1 81 ∧ T.1 145 = T.1 82 ∧ T.1 146 = T.1 83 ∧ T.1 142 = T.1 84) ∧ (∀ i, 0 ≤ T.1 80 i ∧ T.1 80 i < 8) ∧ (∀ i, 0 ≤ T.1 81 i ∧ T.1 81 i < 256) ∧ (∀ i, 0 ≤ T.1 82 i ∧ T.1 82 i < 8) ∧ (∀ i, 0 ≤ T.1 83 i ∧ T.1 83 i < 100) ∧ (∀ i, 0 ≤ T.1 84 i ∧ T.1 84 i ≤ 600) ∧ (∀ x : Int32, 0 ≤ x → x < T.1 79 2 → T.1 82 x.toNatClampNeg < T.1 79 0) ∧ (∀ x : Int32, 0 ≤ x → x < T.1 79 1 → T.1 80 x.toNatClampNeg < T.1 79 0) ∧ (∀ a b, a < 8 → b < 8 → T.1 84 (8 * a + b) = T.1 84 (8 * b + a)) ∧ (∀ a, a < 8 → T.1 84 (8 * a + a) = 0)
def IEn (T : tT) : Prop := T.1 105 48 = T.1 69 0 ∧ (0 ≤ T.1 69 0 ∧ T.1 69 0 ≤ 40) ∧ (T.1 131 = T.1 70 ∧ T.1 132 = T.1 71 ∧ T.1 133 = T.1 72 ∧ T.1 134 = T.1 73 ∧ T.1 135 = T.1 74 ∧ T.1 136 = T.1 75 ∧ T.1 138 = T.1 76 ∧ T.1 137 = T.1 77 ∧ T.2.1 139 = T.2.1 78) ∧ (∀ i, 0 ≤ T.1 71 i ∧ T.1 71 i < 4) ∧ (∀ i, 0 ≤ T.1 73 i ∧ T.1 73 i < 8) ∧ (∀ i, 0 ≤ T.1 77 i ∧ T.1 77 i ≤ 4) ∧ (∀ x : Int32, 0 ≤ x → T.1 69 0 ≤ x → T.1 77 x.toNatClampNeg = 0)
def ILe (T : tT) : Prop := (T.1 105 70 = T.1 93 1 ∧ T.1 105 71 = T.1 93 0) ∧ (0 ≤ T.1 93 1 ∧ T.1 93 1 ≤ 200 ∧ 0 ≤ T.1 93 0 ∧ T.1 93 0 ≤ 100000) ∧ (T.1 151 = T.1 94 ∧ T.1 153 = T.1 96 ∧ T.1 154 = T.1 97 ∧ T.1 155 = T.1 98 ∧ T.1 156 = T.1 99) ∧ (∀ i, T.1 152 i = if T.1 95 i = 5 then -1 else T.1 95 i) ∧ (∀ i, 0 ≤ T.1 94 i ∧ T.1 94 i < 40) ∧ (∀ x : Int32, 0 ≤ x → x < T.1 93 1 → T.1 94 x.toNatClampNeg < T.1 69 0) ∧ (∀ i, 0 ≤ T.1 95 i ∧ T.1 95 i ≤ 5) ∧ (∀ x : Int32, 0 ≤ x → x < T.1 93 1 → T.1 95 x.toNatClampNeg = 5 ∨ T.1 95 x.toNatClampNeg < T.1 79 1) ∧ (∀ i, 0 ≤ T.1 96 i ∧ T.1 96 i < 6) ∧ (∀ i, 0 ≤ T.1 97 i ∧ T.1 97 i ≤ 200) ∧ (∀ i, 0 ≤ T.1 98 i ∧ T.1 98 i ≤ T.1 93 0) ∧ (∀ i, -1 ≤ T.1 99 i ∧ T.1 99 i ≤ T.1 93 0)
def ICe (T : tT) : Prop := T.1 105 76 = T.1 101 0 ∧ (0 ≤ T.1 101 0 ∧ T.1 101 0 ≤ 60) ∧ (∀ i, T.1 158 (i + 1) = T.1 102 i ∧ T.1 159 (i + 1) = T.1 103 i ∧ T.1 160 (i + 1) = T.1 104 i) ∧ (∀ i, 0 ≤ T.1 102 i) ∧ (∀ x : Int32, 0 ≤ x → x < T.1 101 0 → T.1 102 x.toNatClampNeg < T.1 69 0) ∧ (∀ i, T.1 103 i ≤ T.1 93 0) ∧ (∀ i, 0 ≤ T.1 104 i ∧ T.1 104 i ≤ 2)
def ITa (T : tT) : Prop := (T.1 105 4 = T.1 3 1 ∧ T.1 105 5 = T.1 3 2) ∧ T.1 105 2 = T.1 4 1 ∧ (0 ≤ T.1 4 1 ∧ T.1 4 1 ≤ 1400) ∧ T.1 106 = T.1 5
def IPl (T : tT) : Prop := (0 ≤ T.1 105 63 ∧ T.1 105 63 ≤ T.1 79 2) ∧ (∀ x : Int32, 0 ≤ x → x < 9 → T.1 86 x.toNatClampNeg = if x < T.1 105 63 then T.1 150 x.toNatClampNeg else -1) ∧ ((T.2.2 85 5 = some 89 ∧ T.2.2 85 6 = some 90) ∨ (T.2.2 85 5 = some 90 ∧ T.2.2 85 6 = some 89)) ∧ ((T.2.2 85 7 = some 91 ∧ T.2.2 85 8 = some 92) ∨ (T.2.2 85 7 = some 92 ∧ T.2.2 85 8 = some 91))
