/-! the grid of plans -/
def pB (P : Nat → Nat) (c i o : Nat) : Bool := decide (c ≤ 9 ∧ c < P 1 ∧ 9 ≤ i ∧ i ≤ 40 ∧ 9 ≤ o ∧ o ≤ 40 ∧ i + o + 9 + 2 * P 255 ≤ P 0)
theorem pB_t {P : Nat → Nat} {c i o : Nat} (h : pOK P c i o) : pB P c i o = true := decide_eq_true h
theorem pB_f {P : Nat → Nat} {c i o : Nat} (h : ¬ pOK P c i o) : ¬ pB P c i o = true := fun e => h (by unfold pB at e; rw [decide_eq_true_eq] at e; exact e)
def oLf (P : Nat → Nat) (s c i : Nat) : Nat → Nat → List (Nat × Nat × Nat)
  | 0, _ => []
  | f + 1, o => if pB P c i o = true then (c, i, o) :: oLf P s c i f (o + (s + 1)) else []
theorem pOK_o {P : Nat → Nat} {c i o : Nat} (h : 41 ≤ o) : ¬ pOK P c i o := fun k => by unfold pOK at k; omega
theorem oLf_eq (P : Nat → Nat) (s c i : Nat) : ∀ f f' o, 41 ≤ o + f → 41 ≤ o + f' → oLf P s c i f o = oLf P s c i f' o := by
  intro f
  induction f with
  | zero =>
    intro f' o h h'
    cases f' with
    | zero => rfl
    | succ f' => rw [oLf, oLf, if_neg (pB_f (pOK_o (by omega)))]
  | succ f ih =>
    intro f' o h h'
    cases f' with
    | zero => rw [oLf, oLf, if_neg (pB_f (pOK_o (by omega)))]
    | succ f' => rw [oLf, oLf, ih f' (o + (s + 1)) (by omega) (by omega)]
def oL (P : Nat → Nat) (s c i o : Nat) : List (Nat × Nat × Nat) := oLf P s c i 41 o
theorem oL_t {P : Nat → Nat} {s c i o : Nat} (h : pOK P c i o) : oL P s c i o = (c, i, o) :: oL P s c i (o + (s + 1)) := by
  have h' := h
  unfold pOK at h'
  unfold oL
  rw [oLf, if_pos (pB_t h), oLf_eq P s c i 40 41 _ (by omega) (by omega)]
theorem oL_f {P : Nat → Nat} {s c i o : Nat} (h : ¬ pOK P c i o) : oL P s c i o = [] := by
  unfold oL; rw [oLf, if_neg (pB_f h)]
def iLf (P : Nat → Nat) (s c : Nat) : Nat → Nat → List (Nat × Nat × Nat)
  | 0, _ => []
  | f + 1, i => if 40 < i then [] else oL P s c i 9 ++ iLf P s c f (i + (s + 1))
theorem iLf_eq (P : Nat → Nat) (s c : Nat) : ∀ f f' i, 41 ≤ i + f → 41 ≤ i + f' → iLf P s c f i = iLf P s c f' i := by
  intro f
  induction f with
  | zero =>
    intro f' i h h'
    cases f' with
    | zero => rfl
    | succ f' => rw [iLf, iLf, if_pos (by omega)]
  | succ f ih =>
    intro f' i h h'
    cases f' with
    | zero => rw [iLf, iLf, if_pos (by omega)]
    | succ f' => rw [iLf, iLf, ih f' (i + (s + 1)) (by omega) (by omega)]
def iL (P : Nat → Nat) (s c i : Nat) : List (Nat × Nat × Nat) := iLf P s c 41 i
theorem iL_t {P : Nat → Nat} {s c i : Nat} (h : i ≤ 40) : iL P s c i = oL P s c i 9 ++ iL P s c (i + (s + 1)) := by
  unfold iL
  rw [iLf, if_neg (by omega), iLf_eq P s c 40 41 _ (by omega) (by omega)]
theorem iL_f {P : Nat → Nat} {s c i : Nat} (h : 40 < i) : iL P s c i = [] := by
  unfold iL; rw [iLf, if_pos h]
def cLf (P : Nat → Nat) (s : Nat) : Nat → Nat → List (Nat × Nat × Nat)
  | 0, _ => []
  | k + 1, c => iL P s c 9 ++ cLf P s k (c + 1)
def cL (P : Nat → Nat) (s m c : Nat) : List (Nat × Nat × Nat) := cLf P s (m + 1 - c) c
theorem cL_t {P : Nat → Nat} {s m c : Nat} (h : c ≤ m) : cL P s m c = iL P s c 9 ++ cL P s m (c + 1) := by
  unfold cL
  rw [show m + 1 - c = (m + 1 - (c + 1)) + 1 by omega, cLf]
theorem cL_f {P : Nat → Nat} {s m c : Nat} (h : m < c) : cL P s m c = [] := by
  unfold cL; rw [show m + 1 - c = 0 by omega, cLf]
/-- once no more goes, nothing goes -/
theorem iL_nil {P : Nat → Nat} (s : Nat) {c i : Nat} (h : ∀ i', i ≤ i' → ¬ pOK P c i' 9) : iL P s c i = [] := by
  unfold iL
  have : ∀ f i', i ≤ i' → iLf P s c f i' = [] := by
    intro f
    induction f with
    | zero => intro i' _; rfl
    | succ f ih =>
      intro i' hi
      rw [iLf, oL_f (h i' hi), ih (i' + (s + 1)) (by omega)]
      split <;> rfl
  exact this 41 i (Nat.le_refl _)
theorem cL_nil {P : Nat → Nat} (s m : Nat) {c : Nat} (h : ∀ c' i, c ≤ c' → ¬ pOK P c' i 9) : cL P s m c = [] := by
  unfold cL
  have : ∀ k c', c ≤ c' → cLf P s k c' = [] := by
    intro k
    induction k with
    | zero => intro c' _; rfl
    | succ k ih =>
      intro c' hc
      rw [cLf, iL_nil s (fun i' _ => h c' i' hc), ih (c' + 1) (by omega)]; rfl
  exact this _ c (Nat.le_refl _)
theorem oL_len (P : Nat → Nat) (s c i : Nat) : ∀ o, (oL P s c i o).length ≤ 41 - o := by
  have : ∀ f o, (oLf P s c i f o).length ≤ 41 - o := by
    intro f
    induction f with
    | zero => intro o; simp [oLf]
    | succ f ih =>
      intro o
      rw [oLf]
      by_cases h : pB P c i o = true
      · rw [if_pos h]
        have k : pOK P c i o := by unfold pB at h; rw [decide_eq_true_eq] at h; exact h
        unfold pOK at k
        have := ih (o + (s + 1))
        rw [List.length_cons]; omega
      · rw [if_neg h]; simp
  exact this 41
theorem iL_len (P : Nat → Nat) (s c i : Nat) : (iL P s c i).length ≤ 32 * (41 - i) := by
  have : ∀ f i, (iLf P s c f i).length ≤ 32 * (41 - i) := by
    intro f
    induction f with
    | zero => intro i; simp [iLf]
    | succ f ih =>
      intro i
      rw [iLf]
      by_cases h : 40 < i
      · rw [if_pos h]; simp
      · rw [if_neg h, List.length_append]
        have := ih (i + (s + 1))
        have := oL_len P s c i 9
        omega
  exact this 41 i
theorem cL_len (P : Nat → Nat) (s m c : Nat) : (cL P s m c).length ≤ 1024 * (m + 1 - c) := by
  unfold cL
  have : ∀ k c, (cLf P s k c).length ≤ 1024 * k := by
    intro k
    induction k with
    | zero => intro c; simp [cLf]
    | succ k ih =>
      intro c
      rw [cLf, List.length_append]
      have := ih (c + 1)
      have := iL_len P s c 9
      omega
  exact this _ c
def rest (P : Nat → Nat) (s m c i o : Nat) : List (Nat × Nat × Nat) := oL P s c i (o + (s + 1)) ++ (iL P s c (i + (s + 1)) ++ cL P s m (c + 1))
theorem rest_0 {P : Nat → Nat} {s m : Nat} (h : pOK P 0 9 9) : cL P s m 0 = (0, 9, 9) :: rest P s m 0 9 9 := by
  rw [cL_t (by omega), iL_t (by omega), oL_t h]
  unfold rest
  simp only [List.cons_append, List.append_assoc]
theorem plP_plP (P : Nat → Nat) (a b c x y z : Nat) : plP (plP P a b c) x y z = plP P x y z := by
  funext j
  by_cases h : j < 2 ∨ 4 < j
  · rw [plP_ne h, plP_ne h, plP_ne h]
  · have e : j = 2 ∨ j = 3 ∨ j = 4 := by omega
    rcases e with rfl | rfl | rfl
    · rw [plP_2, plP_2]
    · rw [plP_3, plP_3]
    · rw [plP_4, plP_4]
theorem plP_self (P : Nat → Nat) : plP P (P 2) (P 3) (P 4) = P := by
  funext j
  by_cases h : j < 2 ∨ 4 < j
  · rw [plP_ne h]
  · have e : j = 2 ∨ j = 3 ∨ j = 4 := by omega
    rcases e with rfl | rfl | rfl
    · rw [plP_2]
    · rw [plP_3]
    · rw [plP_4]
theorem pOK_pl (P : Nat → Nat) (a b c x y z : Nat) : pOK (plP P a b c) x y z ↔ pOK P x y z := by
  unfold pOK
  rw [plP_ne (j := 0) (by omega), plP_ne (j := 1) (by omega), plP_ne (j := 255) (by omega)]
theorem pl_b {P : Nat → Nat} (hP : Good P) (a b c : Nat) : 17 ≤ plP P a b c 0 ∧ plP P a b c 0 ≤ 60 ∧ plP P a b c 1 ≤ 40 ∧ plP P a b c 255 ≤ 4 := by
  have hp := hP.1
  rw [plP_ne (j := 0) (by omega), plP_ne (j := 1) (by omega), plP_ne (j := 255) (by omega)]; omega
theorem toNext {P : Nat → Nat} (hP : Good P) {s m c i o : Nat} (hs : s ≤ 8) (hm : m ≤ 9) (hc : c ≤ m) (k : pOK P c i o) {M : zMM} (hL : Leaf M 10 (plP P c i o)) :
    (rest P s m c i o = [] ∧ fX0_toNextPlan 10 (zN m) (zN (s + 1)) M = some (zN 0, M)) ∨ (∃ c' i' o', pOK P c' i' o' ∧ c' ≤ m ∧ rest P s m c i o = (c', i', o') :: rest P s m c' i' o' ∧ ∃ M', fX0_toNextPlan 10 (zN m) (zN (s + 1)) M = some (zN 1, M') ∧ Leaf M' 10 (plP P c' i' o') ∧ fr (fun c _ => c = 10) M M') := by
  have k' := k
  unfold pOK at k'
  obtain ⟨l0, l1, l2, l3, l4, l5, l6⟩ := hL.1
  rw [plP_2] at l3
  rw [plP_3] at l4
  rw [plP_4] at l5
  have al := fun x y z (hx : x < 1000) (hy : y < 1000) (hz : z < 1000) => allowsL (pl_b hP c i o) hL (c := x) (i := y) (o := z) hx hy hz
  have a1 := al c i (o + (s + 1)) (by omega) (by omega) (by omega)
  have a2 := al c (i + (s + 1)) 9 (by omega) (by omega) (by omega)
  have a3 := al (c + 1) 9 9 (by omega) (by omega) (by omega)
  rw [pOK_pl] at a1 a2 a3
  by_cases k1 : pOK P c i (o + (s + 1))
  · right
    have e1 := a1.1 k1
    refine ⟨c, i, o + (s + 1), k1, hc, ?_, wr M 10 5 (zN (o + (s + 1))), ?_, ?_, fr_wr (fr_refl _ _) (by omega)⟩
    · unfold rest; rw [oL_t k1]; rfl
    · unfold fX0_toNextPlan; simp (disch := omega) only [wr_cj, wr_nj, rng_in, rng_out, zN_lit, zN_add, zN_mul, zN_sub, zN_ltT, zN_ltF, zN_leT, zN_leF, zN_eqT, zN_eqF, zN_lt, zN_le, zN_eq, zN_nat, zN_oobF, Option.bind_some, ↓reduceIte, Nat.one_mul, Nat.zero_add, Nat.add_zero, Nat.reduceAdd, Nat.reduceMul, Nat.reduceSub, Nat.reduceLT, Nat.reduceLeDiff, Nat.reduceEqDiff, reduceCtorEq, true_or, or_true, false_or, or_false, true_and, and_true, false_and, and_false, not_true_eq_false, not_false_eq_true, wr_2, wrL_1, zm_eqF, zm_eqF', zm_lt, zm_lt', zm_le, zm_le', zm_sub1, zN_01, Nat.mul_zero, Nat.zero_mul, Nat.mul_one, Nat.sub_zero, Nat.sub_self, Nat.add_sub_cancel, l3, l4, l5, e1]
    · have := Leaf_up4 (v := o + (s + 1)) hL
      have ee : up (plP P c i o) 4 (o + (s + 1)) = plP P c i (o + (s + 1)) := by unfold plP; rw [up_up]
      rw [ee] at this; exact this
  · have e1 := a1.2 k1
    have o1 : oL P s c i (o + (s + 1)) = [] := oL_f k1
    by_cases k2 : pOK P c (i + (s + 1)) 9
    · right
      have e2 := a2.1 k2
      have k2' := k2
      unfold pOK at k2'
      refine ⟨c, i + (s + 1), 9, k2, hc, ?_, wr (wr (wr M 10 3 (zN c)) 10 4 (zN (i + (s + 1)))) 10 5 (zN 9), ?_, ?_, fr_wr (fr_wr (fr_wr (fr_refl _ _) (by omega)) (by omega)) (by omega)⟩
      · unfold rest; rw [o1, iL_t (by omega), oL_t k2]
        simp only [List.nil_append, List.cons_append, List.append_assoc]
      · unfold fX0_toNextPlan fX0_plan; simp (disch := omega) only [wr_cj, wr_nj, rng_in, rng_out, zN_lit, zN_add, zN_mul, zN_sub, zN_ltT, zN_ltF, zN_leT, zN_leF, zN_eqT, zN_eqF, zN_lt, zN_le, zN_eq, zN_nat, zN_oobF, Option.bind_some, ↓reduceIte, Nat.one_mul, Nat.zero_add, Nat.add_zero, Nat.reduceAdd, Nat.reduceMul, Nat.reduceSub, Nat.reduceLT, Nat.reduceLeDiff, Nat.reduceEqDiff, reduceCtorEq, true_or, or_true, false_or, or_false, true_and, and_true, false_and, and_false, not_true_eq_false, not_false_eq_true, wr_2, wrL_1, zm_eqF, zm_eqF', zm_lt, zm_lt', zm_le, zm_le', zm_sub1, zN_01, Nat.mul_zero, Nat.zero_mul, Nat.mul_one, Nat.sub_zero, Nat.sub_self, Nat.add_sub_cancel, l3, l4, l5, e1, e2]
      · have := Leaf_pl (c := c) (i := i + (s + 1)) (o := 9) hL
        rw [plP_plP] at this; exact this
    · have e2 := a2.2 k2
      have o2 : iL P s c (i + (s + 1)) = [] := iL_nil s (fun i' hi' q => k2 (by unfold pOK at q ⊢; omega))
      by_cases k4 : c = m
      · left
        refine ⟨?_, ?_⟩
        · unfold rest; rw [o1, o2, cL_f (by omega)]; rfl
        · unfold fX0_toNextPlan; simp (disch := omega) only [wr_cj, wr_nj, rng_in, rng_out, zN_lit, zN_add, zN_mul, zN_sub, zN_ltT, zN_ltF, zN_leT, zN_leF, zN_eqT, zN_eqF, zN_lt, zN_le, zN_eq, zN_nat, zN_oobF, Option.bind_some, ↓reduceIte, Nat.one_mul, Nat.zero_add, Nat.add_zero, Nat.reduceAdd, Nat.reduceMul, Nat.reduceSub, Nat.reduceLT, Nat.reduceLeDiff, Nat.reduceEqDiff, reduceCtorEq, true_or, or_true, false_or, or_false, true_and, and_true, false_and, and_false, not_true_eq_false, not_false_eq_true, wr_2, wrL_1, zm_eqF, zm_eqF', zm_lt, zm_lt', zm_le, zm_le', zm_sub1, zN_01, Nat.mul_zero, Nat.zero_mul, Nat.mul_one, Nat.sub_zero, Nat.sub_self, Nat.add_sub_cancel, l3, l4, l5, e1, e2]
      · by_cases k3 : pOK P (c + 1) 9 9
        · right
          have e3 := a3.1 k3
          refine ⟨c + 1, 9, 9, k3, by omega, ?_, wr (wr (wr M 10 3 (zN (c + 1))) 10 4 (zN 9)) 10 5 (zN 9), ?_, ?_, fr_wr (fr_wr (fr_wr (fr_refl _ _) (by omega)) (by omega)) (by omega)⟩
          · unfold rest; rw [o1, o2, cL_t (by omega), iL_t (by omega), oL_t k3]
            simp only [List.nil_append, List.cons_append, List.append_assoc]
          · unfold fX0_toNextPlan fX0_plan; simp (disch := omega) only [wr_cj, wr_nj, rng_in, rng_out, zN_lit, zN_add, zN_mul, zN_sub, zN_ltT, zN_ltF, zN_leT, zN_leF, zN_eqT, zN_eqF, zN_lt, zN_le, zN_eq, zN_nat, zN_oobF, Option.bind_some, ↓reduceIte, Nat.one_mul, Nat.zero_add, Nat.add_zero, Nat.reduceAdd, Nat.reduceMul, Nat.reduceSub, Nat.reduceLT, Nat.reduceLeDiff, Nat.reduceEqDiff, reduceCtorEq, true_or, or_true, false_or, or_false, true_and, and_true, false_and, and_false, not_true_eq_false, not_false_eq_true, wr_2, wrL_1, zm_eqF, zm_eqF', zm_lt, zm_lt', zm_le, zm_le', zm_sub1, zN_01, Nat.mul_zero, Nat.zero_mul, Nat.mul_one, Nat.sub_zero, Nat.sub_self, Nat.add_sub_cancel, l3, l4, l5, e1, e2, e3]
          · have := Leaf_pl (c := c + 1) (i := 9) (o := 9) hL
            rw [plP_plP] at this; exact this
        · left
          have e3 := a3.2 k3
          refine ⟨?_, ?_⟩
          · unfold rest
            rw [o1, o2, cL_nil s m (fun c' i' hc' q => k3 (by unfold pOK at q ⊢; omega))]; rfl
          · unfold fX0_toNextPlan; simp (disch := omega) only [wr_cj, wr_nj, rng_in, rng_out, zN_lit, zN_add, zN_mul, zN_sub, zN_ltT, zN_ltF, zN_leT, zN_leF, zN_eqT, zN_eqF, zN_lt, zN_le, zN_eq, zN_nat, zN_oobF, Option.bind_some, ↓reduceIte, Nat.one_mul, Nat.zero_add, Nat.add_zero, Nat.reduceAdd, Nat.reduceMul, Nat.reduceSub, Nat.reduceLT, Nat.reduceLeDiff, Nat.reduceEqDiff, reduceCtorEq, true_or, or_true, false_or, or_false, true_and, and_true, false_and, and_false, not_true_eq_false, not_false_eq_true, wr_2, wrL_1, zm_eqF, zm_eqF', zm_lt, zm_lt', zm_le, zm_le', zm_sub1, zN_01, Nat.mul_zero, Nat.zero_mul, Nat.mul_one, Nat.sub_zero, Nat.sub_self, Nat.add_sub_cancel, l3, l4, l5, e1, e2, e3]
/-! what is kept of the plans that are tried -/
def vB (P : Nat → Nat) (p : Nat × Nat × Nat) (b : Nat × Nat × Nat × Nat × Nat) : Nat × Nat × Nat × Nat × Nat := if b.1 = 0 ∨ cst (plP P p.1 p.2.1 p.2.2) < b.2.1 then (b.1 + 1, cst (plP P p.1 p.2.1 p.2.2), p.1, p.2.1, p.2.2) else (b.1 + 1, b.2)
def vN (P : Nat → Nat) (n : Nat) (p : Nat × Nat × Nat) (a : Nat × Nat × Nat × Nat) : Nat × Nat × Nat × Nat := if apt (plP P p.1 p.2.1 p.2.2) ≤ n then (if a.1 = 0 then (1, p.1, p.2.1, p.2.2) else (a.1 + 1, a.2)) else a
def fB (P : Nat → Nat) : List (Nat × Nat × Nat) → Nat × Nat × Nat × Nat × Nat → Nat × Nat × Nat × Nat × Nat
  | [], b => b
  | p :: L, b => fB P L (vB P p b)
def fN (P : Nat → Nat) (n : Nat) : List (Nat × Nat × Nat) → Nat × Nat × Nat × Nat → Nat × Nat × Nat × Nat
  | [], b => b
  | p :: L, b => fN P n L (vN P n p b)
theorem fB_app (P : Nat → Nat) : ∀ L L' b, fB P (L ++ L') b = fB P L' (fB P L b) := by
  intro L
  induction L with
  | nil => intro L' b; rfl
  | cons p L ih => intro L' b; exact ih L' _
theorem fN_app (P : Nat → Nat) (n : Nat) : ∀ L L' b, fN P n (L ++ L') b = fN P n L' (fN P n L b) := by
  intro L
  induction L with
  | nil => intro L' b; rfl
  | cons p L ih => intro L' b; exact ih L' _
def okB (P : Nat → Nat) (b : Nat × Nat × Nat × Nat × Nat) : Prop := 0 < b.1 → b.2.1 < 100000000 ∧ pOK P b.2.2.1 b.2.2.2.1 b.2.2.2.2
theorem vB_1 (P : Nat → Nat) (p : Nat × Nat × Nat) (b : Nat × Nat × Nat × Nat × Nat) : (vB P p b).1 = b.1 + 1 := by unfold vB; split <;> rfl
theorem vB_ok {P : Nat → Nat} (hP : Good P) {c i o : Nat} (k : pOK P c i o) {b : Nat × Nat × Nat × Nat × Nat} (h : okB P b) : okB P (vB P (c, i, o) b) := by
  unfold vB
  by_cases q : b.1 = 0 ∨ cst (plP P c i o) < b.2.1
  · rw [if_pos q]
    exact fun _ => ⟨cst_lt (Good_pl hP k), k⟩
  · rw [if_neg q]
    exact fun _ => h (by omega)
def LB (b : Nat × Nat × Nat × Nat × Nat) (M : zMM) : Prop := M.1 148 4 = zN b.1 ∧ (0 < b.1 → M.1 148 3 = zN b.2.1 ∧ M.1 148 0 = zN b.2.2.1 ∧ M.1 148 1 = zN b.2.2.2.1 ∧ M.1 148 2 = zN b.2.2.2.2)
def LN (a : Nat × Nat × Nat × Nat) (M : zMM) : Prop := M.1 148 4 = zN a.1 ∧ (0 < a.1 → M.1 148 0 = zN a.2.1 ∧ M.1 148 1 = zN a.2.2.1 ∧ M.1 148 2 = zN a.2.2.2)
theorem LB_fr {b : Nat × Nat × Nat × Nat × Nat} {M M' : zMM} (h : LB b M) (e : ∀ j, M'.1 148 j = M.1 148 j) : LB b M' := by
  refine ⟨by rw [e]; exact h.1, fun q => ?_⟩
  rw [e, e, e, e]; exact h.2 q
theorem LN_fr {b : Nat × Nat × Nat × Nat} {M M' : zMM} (h : LN b M) (e : ∀ j, M'.1 148 j = M.1 148 j) : LN b M' := by
  refine ⟨by rw [e]; exact h.1, fun q => ?_⟩
  rw [e, e, e]; exact h.2 q
theorem fb_step {P : Nat → Nat} (hP : Good P) {m s c i o l fu : Nat} {b : Nat × Nat × Nat × Nat × Nat} {M : zMM} (k : pOK P c i o) (hL : Leaf M 10 (plP P c i o)) (hB : LB b M) (ok : okB P b) (hb : b.1 ≤ l) (hl : l < 10240) :
    ∃ M1, fX3_findBest_20 10 (zN m) (zN (s + 1)) (fu + 1) (zN 1) (zN l) M = ((fX0_toNextPlan 10 (zN m) (zN (s + 1)) M1).bind fun q1 => fX3_findBest_20 10 (zN m) (zN (s + 1)) fu q1.1 (zN (l + 1)) q1.2) ∧ LB (vB P (c, i, o) b) M1 ∧ Leaf M1 10 (plP P c i o) ∧ fr (fun c _ => 120 ≤ c ∧ c ≤ 148) M M1 := by
  have hQ := Good_pl hP k
  have k' := k
  unfold pOK at k'
  obtain ⟨M2, e2, s2, l2, f2⟩ := cset0 hQ (b := 10) (by omega) hL
  have co := costOf4 hQ l2 s2
  have clt := cst_lt hQ
  have hB2 := LB_fr hB (M' := M2) (fun j => f2.1 _ _ (by omega))
  obtain ⟨b4, bb⟩ := hB2
  have i1 : zN l + 1 = zN (l + 1) := zN_add l 1
  have b1 : zN b.1 + 1 = zN (b.1 + 1) := zN_add b.1 1
  have head : fX3_findBest_20 10 (zN m) (zN (s + 1)) (fu + 1) (zN 1) (zN l) M = (if zN b.1 = 0 then fX3_findBest_61 (fX3_findBest_20 10 (zN m) (zN (s + 1)) fu) 10 (zN m) (zN (s + 1)) (zN l) (zN (cst (plP P c i o))) M2 else if M2.1 148 3 ≤ zN (cst (plP P c i o)) then fX3_findBest_68 (fX3_findBest_20 10 (zN m) (zN (s + 1)) fu) 10 (zN m) (zN (s + 1)) (zN l) M2 else fX3_findBest_61 (fX3_findBest_20 10 (zN m) (zN (s + 1)) fu) 10 (zN m) (zN (s + 1)) (zN l) (zN (cst (plP P c i o))) M2) := by
    rw [fX3_findBest_20, if_neg (show ¬ zN 1 = 0 by decide), if_neg (show ¬ (10240 : Int32) ≤ zN l by show ¬ zN 10240 ≤ zN l; rw [zN_leF (by omega)]; exact id), e2, Option.bind_some, co, Option.bind_some]
    dsimp only
    rw [b4]
  have e68 : ∀ (M' : zMM) (v : Nat), M'.1 148 4 = zN v → fX3_findBest_68 (fX3_findBest_20 10 (zN m) (zN (s + 1)) fu) 10 (zN m) (zN (s + 1)) (zN l) M' = ((fX0_toNextPlan 10 (zN m) (zN (s + 1)) (wr M' 148 4 (zN (v + 1)))).bind fun q1 => fX3_findBest_20 10 (zN m) (zN (s + 1)) fu q1.1 (zN (l + 1)) q1.2) := by
    intro M' v hv
    have v1 : zN v + 1 = zN (v + 1) := zN_add v 1
    unfold fX3_findBest_68
    rw [hv, v1, i1]
  have noted : (b.1 = 0 ∨ cst (plP P c i o) < b.2.1) → ∃ M1, fX3_findBest_61 (fX3_findBest_20 10 (zN m) (zN (s + 1)) fu) 10 (zN m) (zN (s + 1)) (zN l) (zN (cst (plP P c i o))) M2 = ((fX0_toNextPlan 10 (zN m) (zN (s + 1)) M1).bind fun q1 => fX3_findBest_20 10 (zN m) (zN (s + 1)) fu q1.1 (zN (l + 1)) q1.2) ∧ LB (vB P (c, i, o) b) M1 ∧ Leaf M1 10 (plP P c i o) ∧ fr (fun c _ => 120 ≤ c ∧ c ≤ 148) M M1 := by
    intro hc
    have g3 : M2.1 10 3 = zN c := by have := l2.1.2.2.2.1; rw [plP_2] at this; exact this
    have g4 : M2.1 10 4 = zN i := by have := l2.1.2.2.2.2.1; rw [plP_3] at this; exact this
    have g5 : M2.1 10 5 = zN o := by have := l2.1.2.2.2.2.2.1; rw [plP_4] at this; exact this
    have en : fX3_note 10 (zN (cst (plP P c i o))) M2 = some (wr (wr (wr (wr M2 148 0 (zN c)) 148 1 (zN i)) 148 2 (zN o)) 148 3 (zN (cst (plP P c i o)))) := by
      unfold fX3_note
      rw [g3, wr_nj (by omega), g4, wr_nj (by omega), wr_nj (by omega), g5]
    have f3 : fr (fun c _ => 120 ≤ c ∧ c ≤ 148) M (wr (wr (wr (wr (wr M2 148 0 (zN c)) 148 1 (zN i)) 148 2 (zN o)) 148 3 (zN (cst (plP P c i o)))) 148 4 (zN (b.1 + 1))) := fr_wr (fr_wr (fr_wr (fr_wr (fr_wr (fr_mono f2 (fun c j a => by omega)) (by omega)) (by omega)) (by omega)) (by omega)) (by omega)
    refine ⟨wr (wr (wr (wr (wr M2 148 0 (zN c)) 148 1 (zN i)) 148 2 (zN o)) 148 3 (zN (cst (plP P c i o)))) 148 4 (zN (b.1 + 1)), ?_, ?_, Leaf_eq hL (fun c j a b => f3.1 c j (by omega)), f3⟩
    · unfold fX3_findBest_61
      rw [en, Option.bind_some, e68 _ b.1 (by rw [wr_nj (by omega), wr_nj (by omega), wr_nj (by omega), wr_nj (by omega)]; exact b4)]
    · unfold vB
      rw [if_pos hc]
      exact ⟨by rw [wr_cj], fun _ => ⟨by rw [wr_nj (by omega), wr_cj], by rw [wr_nj (by omega), wr_nj (by omega), wr_nj (by omega), wr_nj (by omega), wr_cj], by rw [wr_nj (by omega), wr_nj (by omega), wr_nj (by omega), wr_cj], by rw [wr_nj (by omega), wr_nj (by omega), wr_cj]⟩⟩
  by_cases q0 : b.1 = 0
  · rw [head, if_pos (show zN b.1 = 0 by rw [q0]; rfl)]
    exact noted (Or.inl q0)
  · have ob := ok (by omega)
    have bb' := bb (by omega)
    rw [head, if_neg (show ¬ zN b.1 = 0 by show ¬ zN b.1 = zN 0; rw [zN_eqF (by omega)]; exact id), bb'.1]
    by_cases q1 : b.2.1 ≤ cst (plP P c i o)
    · rw [if_pos (show zN b.2.1 ≤ zN (cst (plP P c i o)) by rw [zN_leT (by omega)]; trivial)]
      have f3 : fr (fun c _ => 120 ≤ c ∧ c ≤ 148) M (wr M2 148 4 (zN (b.1 + 1))) := fr_wr (fr_mono f2 (fun c j a => by omega)) (by omega)
      refine ⟨wr M2 148 4 (zN (b.1 + 1)), e68 M2 b.1 b4, ?_, Leaf_eq hL (fun c j a b => f3.1 c j (by omega)), f3⟩
      unfold vB
      rw [if_neg (show ¬ (b.1 = 0 ∨ cst (plP P c i o) < b.2.1) by omega)]
      refine ⟨by rw [wr_cj], fun _ => ?_⟩
      rw [wr_nj (by omega), wr_nj (by omega), wr_nj (by omega), wr_nj (by omega)]; exact bb'
    · rw [if_neg (show ¬ zN b.2.1 ≤ zN (cst (plP P c i o)) by rw [zN_leF (by omega)]; exact id)]
      exact noted (Or.inr (by omega))
theorem findBest_lp {P : Nat → Nat} (hP : Good P) {s m : Nat} (hs : s ≤ 8) (hm : m ≤ 9) : ∀ L c i o b M l fuel, rest P s m c i o = L → c ≤ m → pOK P c i o → Leaf M 10 (plP P c i o) → LB b M → okB P b → b.1 = l → l + 1 + L.length ≤ 10240 → L.length + 1 < fuel →
    ∃ M', fX3_findBest_20 10 (zN m) (zN (s + 1)) fuel (zN 1) (zN l) M = some M' ∧ LB (fB P ((c, i, o) :: L) b) M' ∧ okB P (fB P ((c, i, o) :: L) b) ∧ (fB P ((c, i, o) :: L) b).1 = l + 1 + L.length ∧ fr (fun c _ => c = 10 ∨ (120 ≤ c ∧ c ≤ 148)) M M' := by
  intro L
  induction L with
  | nil =>
    intro c i o b M l fuel hr hc k hL hB ok hb hl hf
    obtain ⟨fu, rfl⟩ : ∃ q, fuel = q + 1 := ⟨fuel - 1, by omega⟩
    simp only [List.length_nil] at hl hf
    obtain ⟨fu, rfl⟩ : ∃ q, fu = q + 1 := ⟨fu - 1, by omega⟩
    obtain ⟨M1, e1, lb1, l1, f1⟩ := fb_step (fu := fu + 1) (m := m) (s := s) (l := l) hP k hL hB ok (by omega) (by omega)
    rcases toNext hP hs hm hc k l1 with ⟨-, e2⟩ | ⟨c', i', o', -, -, h, -⟩
    · refine ⟨M1, ?_, lb1, vB_ok hP k ok, ?_, fr_mono f1 (fun c j a => Or.inr a)⟩
      · rw [e1, e2, Option.bind_some, fX3_findBest_20]
        exact if_pos rfl
      · show (vB P (c, i, o) b).1 = _
        rw [vB_1, hb]; rfl
    · rw [hr] at h; cases h
  | cons p L ih =>
    intro c i o b M l fuel hr hc k hL hB ok hb hl hf
    obtain ⟨fu, rfl⟩ : ∃ q, fuel = q + 1 := ⟨fuel - 1, by omega⟩
    simp only [List.length_cons] at hl hf
    obtain ⟨M1, e1, lb1, l1, f1⟩ := fb_step (fu := fu) (m := m) (s := s) (l := l) hP k hL hB ok (by omega) (by omega)
    rcases toNext hP hs hm hc k l1 with ⟨h, -⟩ | ⟨c', i', o', k', hc', h, M2, e2, l2, f2⟩
    · rw [hr] at h; cases h
    · rw [hr] at h
      have hp := (List.cons.inj h).1
      have hL' := (List.cons.inj h).2
      subst hp
      obtain ⟨M3, e3, lb3, ok3, n3, f3⟩ := ih c' i' o' (vB P (c, i, o) b) M2 (l + 1) fu hL'.symm hc' k' l2 (LB_fr lb1 (fun j => f2.1 _ _ (by omega))) (vB_ok hP k ok) (by rw [vB_1, hb]) (by omega) (by omega)
      refine ⟨M3, ?_, lb3, ok3, ?_, fr_trans (fr_mono f1 (fun c j a => Or.inr a)) (fr_trans (fr_mono f2 (fun c j a => Or.inl a)) f3)⟩
      · rw [e1, e2, Option.bind_some]; exact e3
      · rw [List.length_cons]
        have : fB P ((c, i, o) :: (c', i', o') :: L) b = fB P ((c', i', o') :: L) (vB P (c, i, o) b) := rfl
        rw [this, n3]; omega
/-- the best of the grid, as the class finds it -/
theorem findBest3 {P : Nat → Nat} (hP : Good P) {s m : Nat} (hs : s ≤ 8) (hm : m ≤ 9) {M : zMM} (hL : Leaf M 10 P) : ∃ M', fX3_findBest 10 (zN m) (zN (s + 1)) M = some M' ∧ LB (fB P (cL P s m 0) (0, 0, 0, 0, 0)) M' ∧ okB P (fB P (cL P s m 0) (0, 0, 0, 0, 0)) ∧ (0 < (fB P (cL P s m 0) (0, 0, 0, 0, 0)).1 ∧ (fB P (cL P s m 0) (0, 0, 0, 0, 0)).1 ≤ 10240) ∧ fr (fun c _ => c = 10 ∨ (120 ≤ c ∧ c ≤ 148)) M M' := by
  have hp := hP.1
  have k0 : pOK P 0 9 9 := by unfold pOK; omega
  have hlen := cL_len P s m 0
  have h0 := rest_0 (s := s) (m := m) k0
  rw [h0] at hlen ⊢
  rw [List.length_cons] at hlen
  have f0 : fr (fun c _ => c = 10 ∨ (120 ≤ c ∧ c ≤ 148)) M (wr (wr (wr (wr M 148 4 (zN 0)) 10 3 (zN 0)) 10 4 (zN 9)) 10 5 (zN 9)) := fr_wr (fr_wr (fr_wr (fr_wr (fr_refl _ _) (by omega)) (by omega)) (by omega)) (by omega)
  have lL : Leaf (wr (wr (wr (wr M 148 4 (zN 0)) 10 3 (zN 0)) 10 4 (zN 9)) 10 5 (zN 9)) 10 (plP P 0 9 9) := Leaf_pl (Leaf_eq hL (fun c j a b => wr_nj (by omega)))
  obtain ⟨M', e', lb, ok, n, ff⟩ := findBest_lp hP hs hm (rest P s m 0 9 9) 0 9 9 (0, 0, 0, 0, 0) _ 0 zFU rfl (by omega) k0 lL ⟨by rw [wr_nj (by omega), wr_nj (by omega), wr_nj (by omega), wr_cj], fun h => absurd h (by omega)⟩ (fun h => absurd h (by omega)) rfl (by omega) (by rw [zFU_eq]; omega)
  refine ⟨M', ?_, lb, ok, by omega, fr_trans f0 ff⟩
  unfold fX3_findBest fX0_plan
  rw [Option.bind_some]; exact e'
/-! the model tries a plan -/
def GB (b : Nat × Nat × Nat × Nat × Nat) (M : zMM) : Prop := M.1 158 19 = zN b.1 ∧ (0 < b.1 → M.1 158 18 = zN b.2.1 ∧ M.1 167 0 = zN b.2.2.1 ∧ M.1 167 1 = zN b.2.2.2.1 ∧ M.1 167 2 = zN b.2.2.2.2)
def GN (a : Nat × Nat × Nat × Nat) (M : zMM) : Prop := M.1 158 20 = zN a.1 ∧ (0 < a.1 → M.1 168 0 = zN a.2.1 ∧ M.1 168 1 = zN a.2.2.1 ∧ M.1 168 2 = zN a.2.2.2)
def GF (c j : Nat) : Prop := MS c j ∨ (c = 158 ∧ (j = 18 ∨ j = 19 ∨ j = 20)) ∨ c = 167 ∨ c = 168
theorem GB_fr {b : Nat × Nat × Nat × Nat × Nat} {M M' : zMM} (h : GB b M) (e : ∀ c j, (c = 158 ∧ (j = 18 ∨ j = 19)) ∨ c = 167 → M'.1 c j = M.1 c j) : GB b M' := by
  refine ⟨by rw [e _ _ (by omega)]; exact h.1, fun q => ?_⟩
  rw [e _ _ (by omega), e _ _ (by omega), e _ _ (by omega), e _ _ (by omega)]; exact h.2 q
theorem GN_fr {b : Nat × Nat × Nat × Nat} {M M' : zMM} (h : GN b M) (e : ∀ c j, (c = 158 ∧ j = 20) ∨ c = 168 → M'.1 c j = M.1 c j) : GN b M' := by
  refine ⟨by rw [e _ _ (by omega)]; exact h.1, fun q => ?_⟩
  rw [e _ _ (by omega), e _ _ (by omega), e _ _ (by omega)]; exact h.2 q
theorem try52 {Q : Nat → Nat} (hQ : Good Q) {n c i o v : Nat} {a : Nat × Nat × Nat × Nat} {M : zMM} (hn : n ≤ 99) (hM : MNow M Q) (hS : MSet Q M) (h2 : Q 2 = c) (h3 : Q 3 = i) (h4 : Q 4 = o) (h19 : M.1 158 19 = zN v) (hN : GN a M) (ha : a.1 < 100000) :
    ∃ M', fX7_tryPlan_52 (zN n) M = some M' ∧ M'.1 158 19 = zN (v + 1) ∧ GN (if apt Q ≤ n then (if a.1 = 0 then (1, c, i, o) else (a.1 + 1, a.2)) else a) M' ∧ fr (fun c j => (c = 158 ∧ (j = 19 ∨ j = 20)) ∨ c = 168) M M' := by
  have al := apt_le hQ
  have v1 : zN v + 1 = zN (v + 1) := zN_add v 1
  have a1 : zN a.1 + 1 = zN (a.1 + 1) := zN_add a.1 1
  have n1 : MNow (wr M 158 19 (zN (v + 1))) Q := MNow_w hM
  have s1 : MSet Q (wr M 158 19 (zN (v + 1))) := MSet_fr hS (fun c j a => by unfold MS at a; rw [wr_nj (by omega)])
  have ea := apartOf7 hQ n1 s1
  have f1 : fr (fun c j => (c = 158 ∧ (j = 19 ∨ j = 20)) ∨ c = 168) M (wr M 158 19 (zN (v + 1))) := fr_wr (fr_refl _ _) (by omega)
  have hN1 := GN_fr hN (M' := wr M 158 19 (zN (v + 1))) (fun c j a => wr_nj (by omega))
  unfold fX7_tryPlan_52
  rw [h19, v1, ea, Option.bind_some]
  dsimp only
  by_cases q : apt Q ≤ n
  · rw [if_pos q, if_pos (show zN (apt Q) ≤ zN n by rw [zN_leT (by omega)]; trivial)]
    have m2 := n1 2 (by omega)
    have m3 := n1 3 (by omega)
    have m4 := n1 4 (by omega)
    rw [h2] at m2; rw [h3] at m3; rw [h4] at m4
    obtain ⟨g20, gg⟩ := hN1
    by_cases q0 : a.1 = 0
    · rw [if_pos q0]
      rw [q0] at g20
      refine ⟨wr (wr (wr (wr (wr M 158 19 (zN (v + 1))) 168 0 (zN c)) 168 1 (zN i)) 168 2 (zN o)) 158 20 (zN 1), ?_, ?_, ?_, ?_⟩
      · have gen : ∀ f, fX7_tryPlan_73 (zN n) (f + 1 + 1 + 1 + 1) 0 (wr M 158 19 (zN (v + 1))) = some (wr (wr (wr (wr (wr M 158 19 (zN (v + 1))) 168 0 (zN c)) 168 1 (zN i)) 168 2 (zN o)) 158 20 (zN 1)) := by
          intro f
          have m2' : M.1 159 2 = zN c := by rw [wr_nj (by omega)] at m2; exact m2
          have m3' : M.1 159 3 = zN i := by rw [wr_nj (by omega)] at m3; exact m3
          have m4' : M.1 159 4 = zN o := by rw [wr_nj (by omega)] at m4; exact m4
          have g20' : M.1 158 20 = zN 0 := by rw [wr_nj (by omega)] at g20; exact g20
          rw [fX7_tryPlan_73]; simp (disch := omega) only [wr_cj, wr_nj, rng_in, rng_out, zN_lit, zN_add, zN_mul, zN_sub, zN_ltT, zN_ltF, zN_leT, zN_leF, zN_eqT, zN_eqF, zN_lt, zN_le, zN_eq, zN_nat, zN_oobF, Option.bind_some, ↓reduceIte, Nat.one_mul, Nat.zero_add, Nat.add_zero, Nat.reduceAdd, Nat.reduceMul, Nat.reduceSub, Nat.reduceLT, Nat.reduceLeDiff, Nat.reduceEqDiff, reduceCtorEq, true_or, or_true, false_or, or_false, true_and, and_true, false_and, and_false, not_true_eq_false, not_false_eq_true, wr_2, wrL_1, zm_eqF, zm_eqF', zm_lt, zm_lt', zm_le, zm_le', zm_sub1, zN_01, Nat.mul_zero, Nat.zero_mul, Nat.mul_one, Nat.sub_zero, Nat.sub_self, Nat.add_sub_cancel, g20', m2']
          rw [fX7_tryPlan_73]; simp (disch := omega) only [wr_cj, wr_nj, rng_in, rng_out, zN_lit, zN_add, zN_mul, zN_sub, zN_ltT, zN_ltF, zN_leT, zN_leF, zN_eqT, zN_eqF, zN_lt, zN_le, zN_eq, zN_nat, zN_oobF, Option.bind_some, ↓reduceIte, Nat.one_mul, Nat.zero_add, Nat.add_zero, Nat.reduceAdd, Nat.reduceMul, Nat.reduceSub, Nat.reduceLT, Nat.reduceLeDiff, Nat.reduceEqDiff, reduceCtorEq, true_or, or_true, false_or, or_false, true_and, and_true, false_and, and_false, not_true_eq_false, not_false_eq_true, wr_2, wrL_1, zm_eqF, zm_eqF', zm_lt, zm_lt', zm_le, zm_le', zm_sub1, zN_01, Nat.mul_zero, Nat.zero_mul, Nat.mul_one, Nat.sub_zero, Nat.sub_self, Nat.add_sub_cancel, g20', m3']
          rw [fX7_tryPlan_73]; simp (disch := omega) only [wr_cj, wr_nj, rng_in, rng_out, zN_lit, zN_add, zN_mul, zN_sub, zN_ltT, zN_ltF, zN_leT, zN_leF, zN_eqT, zN_eqF, zN_lt, zN_le, zN_eq, zN_nat, zN_oobF, Option.bind_some, ↓reduceIte, Nat.one_mul, Nat.zero_add, Nat.add_zero, Nat.reduceAdd, Nat.reduceMul, Nat.reduceSub, Nat.reduceLT, Nat.reduceLeDiff, Nat.reduceEqDiff, reduceCtorEq, true_or, or_true, false_or, or_false, true_and, and_true, false_and, and_false, not_true_eq_false, not_false_eq_true, wr_2, wrL_1, zm_eqF, zm_eqF', zm_lt, zm_lt', zm_le, zm_le', zm_sub1, zN_01, Nat.mul_zero, Nat.zero_mul, Nat.mul_one, Nat.sub_zero, Nat.sub_self, Nat.add_sub_cancel, g20', m4']
          rw [fX7_tryPlan_73]; simp (disch := omega) only [wr_cj, wr_nj, rng_in, rng_out, zN_lit, zN_add, zN_mul, zN_sub, zN_ltT, zN_ltF, zN_leT, zN_leF, zN_eqT, zN_eqF, zN_lt, zN_le, zN_eq, zN_nat, zN_oobF, Option.bind_some, ↓reduceIte, Nat.one_mul, Nat.zero_add, Nat.add_zero, Nat.reduceAdd, Nat.reduceMul, Nat.reduceSub, Nat.reduceLT, Nat.reduceLeDiff, Nat.reduceEqDiff, reduceCtorEq, true_or, or_true, false_or, or_false, true_and, and_true, false_and, and_false, not_true_eq_false, not_false_eq_true, wr_2, wrL_1, zm_eqF, zm_eqF', zm_lt, zm_lt', zm_le, zm_le', zm_sub1, zN_01, Nat.mul_zero, Nat.zero_mul, Nat.mul_one, Nat.sub_zero, Nat.sub_self, Nat.add_sub_cancel, fX7_tryPlan_105, g20']
        exact gen 2147483644
      · rw [wr_nj (by omega), wr_nj (by omega), wr_nj (by omega), wr_nj (by omega), wr_cj]
      · exact ⟨by rw [wr_cj], fun _ => ⟨by rw [wr_nj (by omega), wr_nj (by omega), wr_nj (by omega), wr_cj], by rw [wr_nj (by omega), wr_nj (by omega), wr_cj], by rw [wr_nj (by omega), wr_cj]⟩⟩
      · exact fr_wr (fr_wr (fr_wr (fr_wr f1 (by omega)) (by omega)) (by omega)) (by omega)
    · rw [if_neg q0]
      refine ⟨wr (wr M 158 19 (zN (v + 1))) 158 20 (zN (a.1 + 1)), ?_, by rw [wr_nj (by omega), wr_cj], ⟨by rw [wr_cj], fun _ => ?_⟩, fr_wr f1 (by omega)⟩
      · have gen : ∀ f, fX7_tryPlan_73 (zN n) (f + 1) 0 (wr M 158 19 (zN (v + 1))) = some (wr (wr M 158 19 (zN (v + 1))) 158 20 (zN (a.1 + 1))) := by
          intro f
          have g20' : M.1 158 20 = zN a.1 := by rw [wr_nj (by omega)] at g20; exact g20
          rw [fX7_tryPlan_73]; simp (disch := omega) only [wr_cj, wr_nj, rng_in, rng_out, zN_lit, zN_add, zN_mul, zN_sub, zN_ltT, zN_ltF, zN_leT, zN_leF, zN_eqT, zN_eqF, zN_lt, zN_le, zN_eq, zN_nat, zN_oobF, Option.bind_some, ↓reduceIte, Nat.one_mul, Nat.zero_add, Nat.add_zero, Nat.reduceAdd, Nat.reduceMul, Nat.reduceSub, Nat.reduceLT, Nat.reduceLeDiff, Nat.reduceEqDiff, reduceCtorEq, true_or, or_true, false_or, or_false, true_and, and_true, false_and, and_false, not_true_eq_false, not_false_eq_true, wr_2, wrL_1, zm_eqF, zm_eqF', zm_lt, zm_lt', zm_le, zm_le', zm_sub1, zN_01, Nat.mul_zero, Nat.zero_mul, Nat.mul_one, Nat.sub_zero, Nat.sub_self, Nat.add_sub_cancel, g20', fX7_tryPlan_105, q0]
        exact gen 2147483647
      · rw [wr_nj (by omega), wr_nj (by omega), wr_nj (by omega)]
        exact gg (by omega)
  · rw [if_neg q, if_neg (show ¬ zN (apt Q) ≤ zN n by rw [zN_leF (by omega)]; exact id)]
    exact ⟨_, rfl, by rw [wr_cj], hN1, f1⟩
theorem try7 {P : Nat → Nat} (hP : Good P) {n c i o : Nat} {b : Nat × Nat × Nat × Nat × Nat} {a : Nat × Nat × Nat × Nat} {M : zMM} (hn : n ≤ 99) (k : pOK P c i o) (hM : MNow M (plP P c i o)) (hB : GB b M) (hN : GN a M) (ok : okB P b) (hb : b.1 < 100000) (ha : a.1 < 100000) :
    ∃ M', fX7_tryPlan (zN n) M = some M' ∧ GB (vB P (c, i, o) b) M' ∧ GN (vN P n (c, i, o) a) M' ∧ fr GF M M' := by
  have hQ := Good_pl hP k
  obtain ⟨Q, hQe⟩ : ∃ Q, Q = plP P c i o := ⟨_, rfl⟩
  have h2 : Q 2 = c := by rw [hQe, plP_2]
  have h3 : Q 3 = i := by rw [hQe, plP_3]
  have h4 : Q 4 = o := by rw [hQe, plP_4]
  rw [← hQe] at hM hQ
  obtain ⟨M1, e1, s1, f1⟩ := costNow7 hQ hM
  have n1 := MNow_fr hM f1
  have clt := cst_lt hQ
  have hB1 := GB_fr hB (M' := M1) (fun c j a => f1.1 c j (by unfold MS; omega))
  have hN1 := GN_fr hN (M' := M1) (fun c j a => f1.1 c j (by unfold MS; omega))
  obtain ⟨b19, bb⟩ := hB1
  have f1' : fr GF M M1 := fr_mono f1 (fun c j a => Or.inl a)
  have noted : (b.1 = 0 ∨ cst Q < b.2.1) → ∃ M', fX7_tryPlan_20 (zN n) (zN (cst Q)) M1 = some M' ∧ GB (vB P (c, i, o) b) M' ∧ GN (vN P n (c, i, o) a) M' ∧ fr GF M M' := by
    intro hc
    have m2 := n1 2 (by omega)
    have m3 := n1 3 (by omega)
    have m4 := n1 4 (by omega)
    rw [h2] at m2; rw [h3] at m3; rw [h4] at m4
    let M2 : zMM := wr (wr (wr (wr M1 158 18 (zN (cst Q))) 167 0 (zN c)) 167 1 (zN i)) 167 2 (zN o)
    have e27 : fX7_tryPlan_20 (zN n) (zN (cst Q)) M1 = fX7_tryPlan_52 (zN n) M2 := by
      unfold fX7_tryPlan_20
      have gen : ∀ f, fX7_tryPlan_27 (zN n) (f + 1 + 1 + 1 + 1) 0 (wr M1 158 18 (zN (cst Q))) = fX7_tryPlan_52 (zN n) M2 := by
        intro f
        rw [fX7_tryPlan_27]; simp (disch := omega) only [wr_cj, wr_nj, rng_in, rng_out, zN_lit, zN_add, zN_mul, zN_sub, zN_ltT, zN_ltF, zN_leT, zN_leF, zN_eqT, zN_eqF, zN_lt, zN_le, zN_eq, zN_nat, zN_oobF, Option.bind_some, ↓reduceIte, Nat.one_mul, Nat.zero_add, Nat.add_zero, Nat.reduceAdd, Nat.reduceMul, Nat.reduceSub, Nat.reduceLT, Nat.reduceLeDiff, Nat.reduceEqDiff, reduceCtorEq, true_or, or_true, false_or, or_false, true_and, and_true, false_and, and_false, not_true_eq_false, not_false_eq_true, wr_2, wrL_1, zm_eqF, zm_eqF', zm_lt, zm_lt', zm_le, zm_le', zm_sub1, zN_01, Nat.mul_zero, Nat.zero_mul, Nat.mul_one, Nat.sub_zero, Nat.sub_self, Nat.add_sub_cancel, m2]
        rw [fX7_tryPlan_27]; simp (disch := omega) only [wr_cj, wr_nj, rng_in, rng_out, zN_lit, zN_add, zN_mul, zN_sub, zN_ltT, zN_ltF, zN_leT, zN_leF, zN_eqT, zN_eqF, zN_lt, zN_le, zN_eq, zN_nat, zN_oobF, Option.bind_some, ↓reduceIte, Nat.one_mul, Nat.zero_add, Nat.add_zero, Nat.reduceAdd, Nat.reduceMul, Nat.reduceSub, Nat.reduceLT, Nat.reduceLeDiff, Nat.reduceEqDiff, reduceCtorEq, true_or, or_true, false_or, or_false, true_and, and_true, false_and, and_false, not_true_eq_false, not_false_eq_true, wr_2, wrL_1, zm_eqF, zm_eqF', zm_lt, zm_lt', zm_le, zm_le', zm_sub1, zN_01, Nat.mul_zero, Nat.zero_mul, Nat.mul_one, Nat.sub_zero, Nat.sub_self, Nat.add_sub_cancel, m3]
        rw [fX7_tryPlan_27]; simp (disch := omega) only [wr_cj, wr_nj, rng_in, rng_out, zN_lit, zN_add, zN_mul, zN_sub, zN_ltT, zN_ltF, zN_leT, zN_leF, zN_eqT, zN_eqF, zN_lt, zN_le, zN_eq, zN_nat, zN_oobF, Option.bind_some, ↓reduceIte, Nat.one_mul, Nat.zero_add, Nat.add_zero, Nat.reduceAdd, Nat.reduceMul, Nat.reduceSub, Nat.reduceLT, Nat.reduceLeDiff, Nat.reduceEqDiff, reduceCtorEq, true_or, or_true, false_or, or_false, true_and, and_true, false_and, and_false, not_true_eq_false, not_false_eq_true, wr_2, wrL_1, zm_eqF, zm_eqF', zm_lt, zm_lt', zm_le, zm_le', zm_sub1, zN_01, Nat.mul_zero, Nat.zero_mul, Nat.mul_one, Nat.sub_zero, Nat.sub_self, Nat.add_sub_cancel, m4]
        rw [fX7_tryPlan_27]; simp (disch := omega) only [wr_cj, wr_nj, rng_in, rng_out, zN_lit, zN_add, zN_mul, zN_sub, zN_ltT, zN_ltF, zN_leT, zN_leF, zN_eqT, zN_eqF, zN_lt, zN_le, zN_eq, zN_nat, zN_oobF, Option.bind_some, ↓reduceIte, Nat.one_mul, Nat.zero_add, Nat.add_zero, Nat.reduceAdd, Nat.reduceMul, Nat.reduceSub, Nat.reduceLT, Nat.reduceLeDiff, Nat.reduceEqDiff, reduceCtorEq, true_or, or_true, false_or, or_false, true_and, and_true, false_and, and_false, not_true_eq_false, not_false_eq_true, wr_2, wrL_1, zm_eqF, zm_eqF', zm_lt, zm_lt', zm_le, zm_le', zm_sub1, zN_01, Nat.mul_zero, Nat.zero_mul, Nat.mul_one, Nat.sub_zero, Nat.sub_self, Nat.add_sub_cancel]
        rfl
      exact gen 2147483644
    have f2 : fr (fun c j => (c = 158 ∧ j = 18) ∨ c = 167) M1 M2 := fr_wr (fr_wr (fr_wr (fr_wr (fr_refl _ _) (by omega)) (by omega)) (by omega)) (by omega)
    have n2 : MNow M2 Q := fun i hi => by rw [f2.1 _ _ (by omega)]; exact n1 i hi
    have s2 : MSet Q M2 := MSet_fr s1 (fun c j a => by unfold MS at a; exact f2.1 c j (by omega))
    obtain ⟨M3, e3, k19, g3, f3⟩ := try52 hQ (M := M2) (v := b.1) hn n2 s2 h2 h3 h4 (by rw [f2.1 _ _ (by omega)]; exact b19) (GN_fr hN1 (fun c j a => f2.1 c j (by omega))) ha
    refine ⟨M3, by rw [e27, e3], ?_, ?_, fr_trans f1' (fr_trans (fr_mono f2 (fun c j a => by unfold GF; omega)) (fr_mono f3 (fun c j a => by unfold GF; omega)))⟩
    · unfold vB
      rw [← hQe, if_pos hc]
      refine ⟨k19, fun _ => ?_⟩
      rw [f3.1 _ _ (by omega), f3.1 _ _ (by omega), f3.1 _ _ (by omega), f3.1 _ _ (by omega)]
      exact ⟨by show (wr (wr (wr (wr M1 158 18 (zN (cst Q))) 167 0 (zN c)) 167 1 (zN i)) 167 2 (zN o)).1 158 18 = _; rw [wr_nj (by omega), wr_nj (by omega), wr_nj (by omega), wr_cj], by show (wr (wr (wr (wr M1 158 18 (zN (cst Q))) 167 0 (zN c)) 167 1 (zN i)) 167 2 (zN o)).1 167 0 = _; rw [wr_nj (by omega), wr_nj (by omega), wr_cj], by show (wr (wr (wr (wr M1 158 18 (zN (cst Q))) 167 0 (zN c)) 167 1 (zN i)) 167 2 (zN o)).1 167 1 = _; rw [wr_nj (by omega), wr_cj], wr_cj _ _ _ _⟩
    · unfold vN; rw [← hQe]; exact g3
  unfold fX7_tryPlan
  rw [e1, Option.bind_some]
  dsimp only
  rw [b19]
  by_cases q0 : b.1 = 0
  · rw [if_pos (show zN b.1 = 0 by rw [q0]; rfl)]
    exact noted (Or.inl q0)
  · have ob := ok (by omega)
    have bb' := bb (by omega)
    rw [if_neg (show ¬ zN b.1 = 0 by show ¬ zN b.1 = zN 0; rw [zN_eqF (by omega)]; exact id), bb'.1]
    by_cases q1 : b.2.1 ≤ cst Q
    · rw [if_pos (show zN b.2.1 ≤ zN (cst Q) by rw [zN_leT (by omega)]; trivial)]
      obtain ⟨M3, e3, k19, g3, f3⟩ := try52 hQ (M := M1) (v := b.1) hn n1 s1 h2 h3 h4 b19 hN1 ha
      refine ⟨M3, e3, ?_, ?_, fr_trans f1' (fr_mono f3 (fun c j a => by unfold GF; omega))⟩
      · unfold vB
        rw [← hQe, if_neg (by omega)]
        refine ⟨k19, fun _ => ?_⟩
        rw [f3.1 _ _ (by omega), f3.1 _ _ (by omega), f3.1 _ _ (by omega), f3.1 _ _ (by omega)]; exact bb'
      · unfold vN; rw [← hQe]; exact g3
    · rw [if_neg (show ¬ zN b.2.1 ≤ zN (cst Q) by rw [zN_leF (by omega)]; exact id)]
      exact noted (Or.inr (by omega))
