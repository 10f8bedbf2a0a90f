/-! sets shared out among the first examiners -/
/-- v is the cost of sharing the set m out among the examiners below x; c: costs; g: which sets each may get -/
def Reach (c : Nat → Nat → Int) (g : Nat → Nat → Prop) (A : Nat) : Nat → Nat → Int → Prop
  | 0, m, v => m = 0 ∧ v = 0
  | x + 1, m, v => ∃ o m' v', Reach c g A x m' v' ∧ o &&& m' = 0 ∧ m = m' ||| o ∧ o < A ∧ m' < A ∧ g x o ∧ v = v' + c x o
/-- a value of the table: at most NEVER, reached if below, and a lower bound -/
def Lst (c : Nat → Nat → Int) (g : Nat → Nat → Prop) (A x m : Nat) (v : Int) : Prop := v ≤ 1000000 ∧ (v < 1000000 → Reach c g A x m v) ∧ ∀ u, Reach c g A x m u → v ≤ u
/-- the next row while it is made: the pairs done so far are those in D -/
def Lsp (c : Nat → Nat → Int) (g : Nat → Nat → Prop) (A x : Nat) (D : Nat → Nat → Prop) (m : Nat) (v : Int) : Prop := v ≤ 1000000 ∧ (v < 1000000 → Reach c g A (x + 1) m v) ∧ ∀ o m' u, D o m' → Reach c g A x m' u → o &&& m' = 0 → m = m' ||| o → o < A → m' < A → g x o → v ≤ u + c x o
theorem Lsp_end {c : Nat → Nat → Int} {g : Nat → Nat → Prop} {A x m : Nat} {v : Int} {D : Nat → Nat → Prop} (h : Lsp c g A x D m v) (hD : ∀ o m', o < A → m' < A → o &&& m' = 0 → g x o → D o m') : Lst c g A (x + 1) m v := by
  refine ⟨h.1, h.2.1, ?_⟩
  rintro u ⟨o, m', v', h1, h2, h3, h4, h5, h6, h7⟩
  rw [h7]
  exact h.2.2 o m' v' (hD o m' h4 h5 h2 h6) h1 h2 h3 h4 h5 h6
theorem Lsp_mono {c : Nat → Nat → Int} {g : Nat → Nat → Prop} {A x m : Nat} {v : Int} {D D' : Nat → Nat → Prop} (h : Lsp c g A x D m v) (hD : ∀ o m', D' o m' → o < A → m' < A → o &&& m' = 0 → g x o → D o m') : Lsp c g A x D' m v :=
  ⟨h.1, h.2.1, fun o m' u h1 h2 h3 h4 h5 h6 h7 => h.2.2 o m' u (hD o m' h1 h5 h6 h3 h7) h2 h3 h4 h5 h6 h7⟩
/-- one pair (o, s) more: the value at s ||| o becomes the lesser one -/
theorem Lsp_relax {c : Nat → Nat → Int} {g : Nat → Nat → Prop} {A x o s m : Nat} {v w : Int} {D : Nat → Nat → Prop} (h : Lsp c g A x D m v) (hw : Lst c g A x s w) (hos : o &&& s = 0) (oA : o < A) (sA : s < A) (hg : g x o) (hm : m = s ||| o) (hc : 0 ≤ c x o) : Lsp c g A x (fun o' m' => D o' m' ∨ (o' = o ∧ m' = s)) m (if v ≤ w + c x o then v else w + c x o) := by
  obtain ⟨h1, h2, h3⟩ := h
  obtain ⟨w1, w2, w3⟩ := hw
  refine ⟨by split <;> omega, ?_, ?_⟩
  · intro lt
    by_cases q : v ≤ w + c x o
    · rw [if_pos q] at lt ⊢
      exact h2 lt
    · rw [if_neg q] at lt ⊢
      exact ⟨o, s, w, w2 (by omega), hos, hm, oA, sA, hg, rfl⟩
  · rintro o' m' u hd r1 r2 r3 r4 r5 r6
    rcases hd with hd | ⟨e1, e2⟩
    · have := h3 o' m' u hd r1 r2 r3 r4 r5 r6
      split <;> omega
    · subst e1
      subst e2
      have := w3 u r1
      split <;> omega
theorem Lsp_other {c : Nat → Nat → Int} {g : Nat → Nat → Prop} {A x o s m : Nat} {v : Int} {D : Nat → Nat → Prop} (h : Lsp c g A x D m v) (hm : m ≠ s ||| o) : Lsp c g A x (fun o' m' => D o' m' ∨ (o' = o ∧ m' = s)) m v := by
  obtain ⟨h1, h2, h3⟩ := h
  refine ⟨h1, h2, ?_⟩
  rintro o' m' u hd r1 r2 r3 r4 r5 r6
  rcases hd with hd | ⟨e1, e2⟩
  · exact h3 o' m' u hd r1 r2 r3 r4 r5 r6
  · subst e1
    subst e2
    exact absurd r3 hm
