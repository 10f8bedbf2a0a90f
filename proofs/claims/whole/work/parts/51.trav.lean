/-! travel of one examiner -/
def wy (T : tT) (a b : Nat) : Int := (T.1 84 (8 * a + b)).toInt
def pl (T : tT) (s : Nat) : Nat := (T.1 82 s).toNatClampNeg
def dy (T : tT) (s : Nat) : Int := (T.1 83 s).toInt
def hm (T : tT) (x : Nat) : Nat := (T.1 80 x).toNatClampNeg
def sav (T : tT) (x s t : Nat) : Int := wy T (pl T s) (hm T x) + wy T (hm T x) (pl T t) - wy T (pl T s) (pl T t)
def nx (T : tT) (P : Nat → Bool) (s t : Nat) : Bool := P s && P t && decide (dy T t = dy T s + 1)
def trv (T : tT) (S x : Nat) (P : Nat → Bool) : Int := sg S (fun s => if P s = true then 2 * wy T (hm T x) (pl T s) else 0) - sg S (fun s => sg S (fun t => if nx T P s t = true then sav T x s t else 0))
theorem trv_cg {T : tT} {S x : Nat} {P Q : Nat → Bool} (h : ∀ s, s < S → P s = Q s) : trv T S x P = trv T S x Q := by
  unfold trv nx
  rw [sg_cg (g := fun s => if Q s = true then 2 * wy T (hm T x) (pl T s) else 0) S (fun i hi => by rw [h i hi])]
  rw [sg_cg (g := fun s => sg S (fun t => if (Q s && Q t && decide (dy T t = dy T s + 1)) = true then sav T x s t else 0)) S (fun i hi => sg_cg S (fun j hj => by rw [h i hi, h j hj]))]
theorem trv_0 {T : tT} {S x : Nat} : trv T S x (fun _ => false) = 0 := by
  unfold trv nx
  rw [sg_cg (g := fun _ => 0) S (fun i hi => if_neg (by simp)), sg_cg (g := fun _ => 0) S (fun i hi => (sg_cg (g := fun _ => 0) S (fun j hj => if_neg (by simp))).trans (sg_zero S)), sg_zero]
  rfl
theorem trv_ins {T : tT} {S x s : Nat} {P : Nat → Bool} (hs : s < S) (hP : P s = false) (hd : ∀ t, t < S → P t = true → dy T t < dy T s) : trv T S x (fun u => P u || u == s) = trv T S x P + 2 * wy T (hm T x) (pl T s) - sg S (fun t => if (P t && decide (dy T s = dy T t + 1)) = true then sav T x t s else 0) := by
  have e1 := sg_ins (f := fun u => 2 * wy T (hm T x) (pl T u)) (P := P) hs hP
  have e2 : sg S (fun u => sg S (fun t => if nx T (fun u => P u || u == s) u t = true then sav T x u t else 0)) = sg S (fun u => sg S (fun t => if nx T P u t = true then sav T x u t else 0) + (if (P u && decide (dy T s = dy T u + 1)) = true then sav T x u s else 0)) := by
    apply sg_cg
    intro u hu
    by_cases c : u = s
    · subst c
      have z1 : sg S (fun t => if nx T (fun v => P v || v == u) u t = true then sav T x u t else 0) = 0 := by
        rw [sg_cg (g := fun _ => 0) S, sg_zero]
        intro t ht
        apply if_neg
        unfold nx
        intro w
        simp only [Bool.and_eq_true, Bool.or_eq_true, beq_iff_eq, decide_eq_true_eq] at w
        rcases w.1.2 with q | q
        · have := hd t ht q
          omega
        · rw [q] at w
          omega
      have z2 : sg S (fun t => if nx T P u t = true then sav T x u t else 0) = 0 := by
        rw [sg_cg (g := fun _ => 0) S, sg_zero]
        intro t ht
        apply if_neg
        unfold nx
        rw [hP]
        simp
      rw [z1, z2, if_neg (by rw [hP]; simp)]
      rfl
    · have cu : (u == s) = false := beq_false_of_ne c
      by_cases pu : P u = true
      · have k := sg_ins (f := fun t => if decide (dy T t = dy T u + 1) = true then sav T x u t else 0) (P := P) hs hP
        have a1 : sg S (fun t => if nx T (fun u => P u || u == s) u t = true then sav T x u t else 0) = sg S (fun t => if (P t || t == s) = true then (if decide (dy T t = dy T u + 1) = true then sav T x u t else 0) else 0) := by
          apply sg_cg
          intro t ht
          have h1 : nx T (fun u => P u || u == s) u t = ((P t || t == s) && decide (dy T t = dy T u + 1)) := by
            unfold nx
            dsimp only
            rw [pu, Bool.true_or, Bool.true_and]
          rw [h1]
          by_cases q : (P t || t == s) = true
          · rw [q, Bool.true_and, if_pos rfl]
          · rw [Bool.eq_false_iff.mpr q, Bool.false_and, if_neg (by decide), if_neg (by decide)]
        have a2 : sg S (fun t => if nx T P u t = true then sav T x u t else 0) = sg S (fun t => if P t = true then (if decide (dy T t = dy T u + 1) = true then sav T x u t else 0) else 0) := by
          apply sg_cg
          intro t ht
          have h1 : nx T P u t = (P t && decide (dy T t = dy T u + 1)) := by
            unfold nx
            rw [pu, Bool.true_and]
          rw [h1]
          by_cases q : P t = true
          · rw [q, Bool.true_and, if_pos rfl]
          · rw [Bool.eq_false_iff.mpr q, Bool.false_and, if_neg (by decide), if_neg (by decide)]
        rw [a1, a2, k, pu, Bool.true_and]
      · have pf : P u = false := Bool.eq_false_iff.mpr pu
        have z1 : sg S (fun t => if nx T (fun u => P u || u == s) u t = true then sav T x u t else 0) = 0 := by
          rw [sg_cg (g := fun _ => 0) S, sg_zero]
          intro t ht
          apply if_neg
          unfold nx
          dsimp only
          rw [pf, cu]
          simp
        have z2 : sg S (fun t => if nx T P u t = true then sav T x u t else 0) = 0 := by
          rw [sg_cg (g := fun _ => 0) S, sg_zero]
          intro t ht
          apply if_neg
          unfold nx
          rw [pf]
          simp
        rw [z1, z2, pf, Bool.false_and, if_neg (by decide)]
        rfl
  unfold trv
  rw [e1, e2, sg_add]
  omega
/-- the set's sessions -/
def bts (m : Nat) (s : Nat) : Bool := m.testBit s
/-- an examiner may take a set -/
def vst (T : tT) (S x m : Nat) : Prop := ∀ s, s < S → bts m s = true → v_X11_mayTake T (nI x) (nI s) ≠ 0 ∧ ∀ t, t < s → bts m t = true → dy T t ≠ dy T s
theorem vst_d {T : tT} {S x m : Nat} (h : vst T S x m) {s t : Nat} (hs : s < S) (ht : t < S) (bs : bts m s = true) (bt : bts m t = true) (hd : dy T s = dy T t) : s = t := by
  rcases Nat.lt_trichotomy s t with q | q | q
  · exact absurd hd ((h t ht bt).2 s q bs)
  · exact q
  · exact absurd hd.symm ((h s hs bs).2 t q bt)
