/-! an act read again by the class, and its row in the model -/
def A1 (T : List Nat) (p : Nat) : Nat := if tt T p = 119 ∨ tt T p = 104 then nv T (p + 1) 2 else nv T (p + 1) 1
def A2 (T : List Nat) (p : Nat) : Nat := if tt T p = 98 then nv T (p + 2) 1 else nv T (p + 2) 2
def A3 (T : List Nat) (p : Nat) : Nat := if tt T p = 99 then nv T (p + 4) 1 else nv T (p + 4) 2
def AR (T : List Nat) (p a : Nat) (M : zMM) : Prop := M.1 162 a = zN (tt T p) ∧ (tt T p ≠ 120 → M.1 162 (a + 1) = zN (A1 T p)) ∧ (tt T p = 98 ∨ tt T p = 99 ∨ tt T p = 103 ∨ tt T p = 112 → M.1 162 (a + 2) = zN (A2 T p)) ∧ (tt T p = 99 ∨ tt T p = 112 → M.1 162 (a + 3) = zN (A3 T p))
theorem bind_eta (x : Option (Int32 × zMM)) : (x.bind fun q => some (q.1, q.2)) = x := by cases x <;> rfl
def AP (T : List Nat) (p a : Nat) (Q : Nat → Nat) : Prop := ∃ f g : zMM → Option (Int32 × zMM), AB f g Q ∧ (∀ M, CT T M → fX6_doAct (zN p) M = f M) ∧ ∀ M, AR T p a M → fX7_act (zN a) M = g M
section
variable {T : List Nat} {p a : Nat} {Q : Nat → Nat}
theorem ap_w (hT : T.length ≤ 80) (hQ : Good Q) (hp : p < T.length) (ha : a + 3 < 320) (hc : tt T p = 119) (hd : ∀ j, j < dg (tt T p) → dok T (p + 1 + j)) : AP T p a Q := by
  rw [hc, show dg 119 = 2 from rfl] at hd
  refine ⟨_, _, ab_set hQ (zN a) (zN (nv T (p + 1) 2)) (w := 0) (by omega), fun M hM => ?_, fun M hM => ?_⟩
  · have s := sign0 hT hM hp
    rw [hc] at s
    have n1 := numT hT hM (p := p + 1) (k := 2) (by omega) (by omega) hd
    unfold fX6_doAct
    rw [s, Option.bind_some]
    simp (disch := omega) only [wr_cj, wr_nj, rng_in, rng_out, zN_lit, zN_add, zN_mul, zN_sub, zN_ltT, zN_ltF, zN_leT, zN_leF, zN_eqT, zN_eqF, zN_lt, zN_le, zN_eq, zN_nat, zN_oobF, Option.bind_some, ↓reduceIte, Nat.one_mul, Nat.zero_add, Nat.add_zero, Nat.reduceAdd, Nat.reduceMul, Nat.reduceSub, Nat.reduceLT, Nat.reduceLeDiff, Nat.reduceEqDiff, reduceCtorEq, true_or, or_true, false_or, or_false, true_and, and_true, false_and, and_false, not_true_eq_false, not_false_eq_true, wr_2, wrL_1, zm_eqF, zm_eqF', zm_lt, zm_lt', zm_le, zm_le', zm_sub1, zN_01, Nat.mul_zero, Nat.zero_mul, Nat.mul_one, Nat.sub_zero, Nat.sub_self, Nat.add_sub_cancel, n1, bind_eta]
  · obtain ⟨r0, r1, r2, r3⟩ := hM
    have r1' := r1 (by omega)
    unfold A1 at r1'
    rw [if_pos (by omega)] at r1'
    rw [hc] at r0
    unfold fX7_act fX7_act_136
    simp (disch := omega) only [wr_cj, wr_nj, rng_in, rng_out, zN_lit, zN_add, zN_mul, zN_sub, zN_ltT, zN_ltF, zN_leT, zN_leF, zN_eqT, zN_eqF, zN_lt, zN_le, zN_eq, zN_nat, zN_oobF, Option.bind_some, ↓reduceIte, Nat.one_mul, Nat.zero_add, Nat.add_zero, Nat.reduceAdd, Nat.reduceMul, Nat.reduceSub, Nat.reduceLT, Nat.reduceLeDiff, Nat.reduceEqDiff, reduceCtorEq, true_or, or_true, false_or, or_false, true_and, and_true, false_and, and_false, not_true_eq_false, not_false_eq_true, wr_2, wrL_1, zm_eqF, zm_eqF', zm_lt, zm_lt', zm_le, zm_le', zm_sub1, zN_01, Nat.mul_zero, Nat.zero_mul, Nat.mul_one, Nat.sub_zero, Nat.sub_self, Nat.add_sub_cancel, r0, r1']
theorem ap_h (hT : T.length ≤ 80) (hQ : Good Q) (hp : p < T.length) (ha : a + 3 < 320) (hc : tt T p = 104) (hd : ∀ j, j < dg (tt T p) → dok T (p + 1 + j)) : AP T p a Q := by
  rw [hc, show dg 104 = 2 from rfl] at hd
  refine ⟨_, _, ab_set hQ (zN a) (zN (nv T (p + 1) 2)) (w := 1) (by omega), fun M hM => ?_, fun M hM => ?_⟩
  · have s := sign0 hT hM hp
    rw [hc] at s
    have n1 := numT hT hM (p := p + 1) (k := 2) (by omega) (by omega) hd
    unfold fX6_doAct
    rw [s, Option.bind_some]
    simp (disch := omega) only [wr_cj, wr_nj, rng_in, rng_out, zN_lit, zN_add, zN_mul, zN_sub, zN_ltT, zN_ltF, zN_leT, zN_leF, zN_eqT, zN_eqF, zN_lt, zN_le, zN_eq, zN_nat, zN_oobF, Option.bind_some, ↓reduceIte, Nat.one_mul, Nat.zero_add, Nat.add_zero, Nat.reduceAdd, Nat.reduceMul, Nat.reduceSub, Nat.reduceLT, Nat.reduceLeDiff, Nat.reduceEqDiff, reduceCtorEq, true_or, or_true, false_or, or_false, true_and, and_true, false_and, and_false, not_true_eq_false, not_false_eq_true, wr_2, wrL_1, zm_eqF, zm_eqF', zm_lt, zm_lt', zm_le, zm_le', zm_sub1, zN_01, Nat.mul_zero, Nat.zero_mul, Nat.mul_one, Nat.sub_zero, Nat.sub_self, Nat.add_sub_cancel, n1, bind_eta]
  · obtain ⟨r0, r1, r2, r3⟩ := hM
    have r1' := r1 (by omega)
    unfold A1 at r1'
    rw [if_pos (by omega)] at r1'
    rw [hc] at r0
    unfold fX7_act fX7_act_136
    simp (disch := omega) only [wr_cj, wr_nj, rng_in, rng_out, zN_lit, zN_add, zN_mul, zN_sub, zN_ltT, zN_ltF, zN_leT, zN_leF, zN_eqT, zN_eqF, zN_lt, zN_le, zN_eq, zN_nat, zN_oobF, Option.bind_some, ↓reduceIte, Nat.one_mul, Nat.zero_add, Nat.add_zero, Nat.reduceAdd, Nat.reduceMul, Nat.reduceSub, Nat.reduceLT, Nat.reduceLeDiff, Nat.reduceEqDiff, reduceCtorEq, true_or, or_true, false_or, or_false, true_and, and_true, false_and, and_false, not_true_eq_false, not_false_eq_true, wr_2, wrL_1, zm_eqF, zm_eqF', zm_lt, zm_lt', zm_le, zm_le', zm_sub1, zN_01, Nat.mul_zero, Nat.zero_mul, Nat.mul_one, Nat.sub_zero, Nat.sub_self, Nat.add_sub_cancel, r0, r1']
theorem ap_u (hT : T.length ≤ 80) (hQ : Good Q) (hp : p < T.length) (ha : a + 3 < 320) (hc : tt T p = 117) (hd : ∀ j, j < dg (tt T p) → dok T (p + 1 + j)) : AP T p a Q := by
  rw [hc, show dg 117 = 1 from rfl] at hd
  refine ⟨_, _, ab_set hQ (zN a) (zN (nv T (p + 1) 1)) (w := 2) (by omega), fun M hM => ?_, fun M hM => ?_⟩
  · have s := sign0 hT hM hp
    rw [hc] at s
    have n1 := numT hT hM (p := p + 1) (k := 1) (by omega) (by omega) hd
    unfold fX6_doAct
    rw [s, Option.bind_some]
    simp (disch := omega) only [wr_cj, wr_nj, rng_in, rng_out, zN_lit, zN_add, zN_mul, zN_sub, zN_ltT, zN_ltF, zN_leT, zN_leF, zN_eqT, zN_eqF, zN_lt, zN_le, zN_eq, zN_nat, zN_oobF, Option.bind_some, ↓reduceIte, Nat.one_mul, Nat.zero_add, Nat.add_zero, Nat.reduceAdd, Nat.reduceMul, Nat.reduceSub, Nat.reduceLT, Nat.reduceLeDiff, Nat.reduceEqDiff, reduceCtorEq, true_or, or_true, false_or, or_false, true_and, and_true, false_and, and_false, not_true_eq_false, not_false_eq_true, wr_2, wrL_1, zm_eqF, zm_eqF', zm_lt, zm_lt', zm_le, zm_le', zm_sub1, zN_01, Nat.mul_zero, Nat.zero_mul, Nat.mul_one, Nat.sub_zero, Nat.sub_self, Nat.add_sub_cancel, n1, bind_eta]
  · obtain ⟨r0, r1, r2, r3⟩ := hM
    have r1' := r1 (by omega)
    unfold A1 at r1'
    rw [if_neg (by omega)] at r1'
    rw [hc] at r0
    unfold fX7_act fX7_act_136
    simp (disch := omega) only [wr_cj, wr_nj, rng_in, rng_out, zN_lit, zN_add, zN_mul, zN_sub, zN_ltT, zN_ltF, zN_leT, zN_leF, zN_eqT, zN_eqF, zN_lt, zN_le, zN_eq, zN_nat, zN_oobF, Option.bind_some, ↓reduceIte, Nat.one_mul, Nat.zero_add, Nat.add_zero, Nat.reduceAdd, Nat.reduceMul, Nat.reduceSub, Nat.reduceLT, Nat.reduceLeDiff, Nat.reduceEqDiff, reduceCtorEq, true_or, or_true, false_or, or_false, true_and, and_true, false_and, and_false, not_true_eq_false, not_false_eq_true, wr_2, wrL_1, zm_eqF, zm_eqF', zm_lt, zm_lt', zm_le, zm_le', zm_sub1, zN_01, Nat.mul_zero, Nat.zero_mul, Nat.mul_one, Nat.sub_zero, Nat.sub_self, Nat.add_sub_cancel, r0, r1']
theorem ap_b (hT : T.length ≤ 80) (hQ : Good Q) (hp : p < T.length) (ha : a + 3 < 320) (hc : tt T p = 98) (hd : ∀ j, j < dg (tt T p) → dok T (p + 1 + j)) : AP T p a Q := by
  rw [hc, show dg 98 = 2 from rfl] at hd
  refine ⟨_, _, ab_best hQ (zN a) (zN (nv T (p + 1) 1)) (zN (nv T (p + 2) 1)), fun M hM => ?_, fun M hM => ?_⟩
  · have s := sign0 hT hM hp
    rw [hc] at s
    have n1 := numT hT hM (p := p + 1) (k := 1) (by omega) (by omega) (fun j hj => hd j (by omega))
    have n2 := numT hT hM (p := p + 2) (k := 1) (by omega) (by omega) (fun j hj => by have := hd (1 + j) (by omega); rw [show p + 2 + j = p + 1 + (1 + j) by omega]; exact this)
    unfold fX6_doAct
    rw [s, Option.bind_some]
    simp (disch := omega) only [wr_cj, wr_nj, rng_in, rng_out, zN_lit, zN_add, zN_mul, zN_sub, zN_ltT, zN_ltF, zN_leT, zN_leF, zN_eqT, zN_eqF, zN_lt, zN_le, zN_eq, zN_nat, zN_oobF, Option.bind_some, ↓reduceIte, Nat.one_mul, Nat.zero_add, Nat.add_zero, Nat.reduceAdd, Nat.reduceMul, Nat.reduceSub, Nat.reduceLT, Nat.reduceLeDiff, Nat.reduceEqDiff, reduceCtorEq, true_or, or_true, false_or, or_false, true_and, and_true, false_and, and_false, not_true_eq_false, not_false_eq_true, wr_2, wrL_1, zm_eqF, zm_eqF', zm_lt, zm_lt', zm_le, zm_le', zm_sub1, zN_01, Nat.mul_zero, Nat.zero_mul, Nat.mul_one, Nat.sub_zero, Nat.sub_self, Nat.add_sub_cancel, n1, n2, bind_eta]
  · obtain ⟨r0, r1, r2, r3⟩ := hM
    have r1' := r1 (by omega)
    have r2' := r2 (by omega)
    unfold A1 at r1'
    unfold A2 at r2'
    rw [if_neg (by omega)] at r1'
    rw [if_pos hc] at r2'
    rw [hc] at r0
    unfold fX7_act
    simp (disch := omega) only [wr_cj, wr_nj, rng_in, rng_out, zN_lit, zN_add, zN_mul, zN_sub, zN_ltT, zN_ltF, zN_leT, zN_leF, zN_eqT, zN_eqF, zN_lt, zN_le, zN_eq, zN_nat, zN_oobF, Option.bind_some, ↓reduceIte, Nat.one_mul, Nat.zero_add, Nat.add_zero, Nat.reduceAdd, Nat.reduceMul, Nat.reduceSub, Nat.reduceLT, Nat.reduceLeDiff, Nat.reduceEqDiff, reduceCtorEq, true_or, or_true, false_or, or_false, true_and, and_true, false_and, and_false, not_true_eq_false, not_false_eq_true, wr_2, wrL_1, zm_eqF, zm_eqF', zm_lt, zm_lt', zm_le, zm_le', zm_sub1, zN_01, Nat.mul_zero, Nat.zero_mul, Nat.mul_one, Nat.sub_zero, Nat.sub_self, Nat.add_sub_cancel, r0, r1', r2']
theorem ap_g (hT : T.length ≤ 80) (hQ : Good Q) (hp : p < T.length) (ha : a + 3 < 320) (hc : tt T p = 103) (hd : ∀ j, j < dg (tt T p) → dok T (p + 1 + j)) : AP T p a Q := by
  rw [hc, show dg 103 = 3 from rfl] at hd
  refine ⟨_, _, ab_drop hQ (zN (nv T (p + 1) 1)) (zN (nv T (p + 2) 2)), fun M hM => ?_, fun M hM => ?_⟩
  · have s := sign0 hT hM hp
    rw [hc] at s
    have n1 := numT hT hM (p := p + 1) (k := 1) (by omega) (by omega) (fun j hj => hd j (by omega))
    have n2 := numT hT hM (p := p + 2) (k := 2) (by omega) (by omega) (fun j hj => by have := hd (1 + j) (by omega); rw [show p + 2 + j = p + 1 + (1 + j) by omega]; exact this)
    unfold fX6_doAct
    rw [s, Option.bind_some]
    simp (disch := omega) only [wr_cj, wr_nj, rng_in, rng_out, zN_lit, zN_add, zN_mul, zN_sub, zN_ltT, zN_ltF, zN_leT, zN_leF, zN_eqT, zN_eqF, zN_lt, zN_le, zN_eq, zN_nat, zN_oobF, Option.bind_some, ↓reduceIte, Nat.one_mul, Nat.zero_add, Nat.add_zero, Nat.reduceAdd, Nat.reduceMul, Nat.reduceSub, Nat.reduceLT, Nat.reduceLeDiff, Nat.reduceEqDiff, reduceCtorEq, true_or, or_true, false_or, or_false, true_and, and_true, false_and, and_false, not_true_eq_false, not_false_eq_true, wr_2, wrL_1, zm_eqF, zm_eqF', zm_lt, zm_lt', zm_le, zm_le', zm_sub1, zN_01, Nat.mul_zero, Nat.zero_mul, Nat.mul_one, Nat.sub_zero, Nat.sub_self, Nat.add_sub_cancel, n1, n2, bind_eta]
  · obtain ⟨r0, r1, r2, r3⟩ := hM
    have r1' := r1 (by omega)
    have r2' := r2 (by omega)
    unfold A1 at r1'
    unfold A2 at r2'
    rw [if_neg (by omega)] at r1'
    rw [if_neg (by omega)] at r2'
    rw [hc] at r0
    unfold fX7_act
    simp (disch := omega) only [wr_cj, wr_nj, rng_in, rng_out, zN_lit, zN_add, zN_mul, zN_sub, zN_ltT, zN_ltF, zN_leT, zN_leF, zN_eqT, zN_eqF, zN_lt, zN_le, zN_eq, zN_nat, zN_oobF, Option.bind_some, ↓reduceIte, Nat.one_mul, Nat.zero_add, Nat.add_zero, Nat.reduceAdd, Nat.reduceMul, Nat.reduceSub, Nat.reduceLT, Nat.reduceLeDiff, Nat.reduceEqDiff, reduceCtorEq, true_or, or_true, false_or, or_false, true_and, and_true, false_and, and_false, not_true_eq_false, not_false_eq_true, wr_2, wrL_1, zm_eqF, zm_eqF', zm_lt, zm_lt', zm_le, zm_le', zm_sub1, zN_01, Nat.mul_zero, Nat.zero_mul, Nat.mul_one, Nat.sub_zero, Nat.sub_self, Nat.add_sub_cancel, r0, r1', r2']
theorem ap_c (hT : T.length ≤ 80) (hQ : Good Q) (hp : p < T.length) (ha : a + 3 < 320) (hc : tt T p = 99) (hd : ∀ j, j < dg (tt T p) → dok T (p + 1 + j)) : AP T p a Q := by
  rw [hc, show dg 99 = 4 from rfl] at hd
  refine ⟨_, _, ab_put hQ (zN (nv T (p + 1) 1)) (zN (nv T (p + 2) 2)) (zN (nv T (p + 4) 1)), fun M hM => ?_, fun M hM => ?_⟩
  · have s := sign0 hT hM hp
    rw [hc] at s
    have n1 := numT hT hM (p := p + 1) (k := 1) (by omega) (by omega) (fun j hj => hd j (by omega))
    have n2 := numT hT hM (p := p + 2) (k := 2) (by omega) (by omega) (fun j hj => by have := hd (1 + j) (by omega); rw [show p + 2 + j = p + 1 + (1 + j) by omega]; exact this)
    have n3 := numT hT hM (p := p + 4) (k := 1) (by omega) (by omega) (fun j hj => by have := hd (3 + j) (by omega); rw [show p + 4 + j = p + 1 + (3 + j) by omega]; exact this)
    unfold fX6_doAct
    rw [s, Option.bind_some]
    simp (disch := omega) only [wr_cj, wr_nj, rng_in, rng_out, zN_lit, zN_add, zN_mul, zN_sub, zN_ltT, zN_ltF, zN_leT, zN_leF, zN_eqT, zN_eqF, zN_lt, zN_le, zN_eq, zN_nat, zN_oobF, Option.bind_some, ↓reduceIte, Nat.one_mul, Nat.zero_add, Nat.add_zero, Nat.reduceAdd, Nat.reduceMul, Nat.reduceSub, Nat.reduceLT, Nat.reduceLeDiff, Nat.reduceEqDiff, reduceCtorEq, true_or, or_true, false_or, or_false, true_and, and_true, false_and, and_false, not_true_eq_false, not_false_eq_true, wr_2, wrL_1, zm_eqF, zm_eqF', zm_lt, zm_lt', zm_le, zm_le', zm_sub1, zN_01, Nat.mul_zero, Nat.zero_mul, Nat.mul_one, Nat.sub_zero, Nat.sub_self, Nat.add_sub_cancel, n1, n2, n3, bind_eta]
  · obtain ⟨r0, r1, r2, r3⟩ := hM
    have r1' := r1 (by omega)
    have r2' := r2 (by omega)
    have r3' := r3 (by omega)
    unfold A1 at r1'
    unfold A2 at r2'
    unfold A3 at r3'
    rw [if_neg (by omega)] at r1'
    rw [if_neg (by omega)] at r2'
    rw [if_pos hc] at r3'
    rw [hc] at r0
    unfold fX7_act
    simp (disch := omega) only [wr_cj, wr_nj, rng_in, rng_out, zN_lit, zN_add, zN_mul, zN_sub, zN_ltT, zN_ltF, zN_leT, zN_leF, zN_eqT, zN_eqF, zN_lt, zN_le, zN_eq, zN_nat, zN_oobF, Option.bind_some, ↓reduceIte, Nat.one_mul, Nat.zero_add, Nat.add_zero, Nat.reduceAdd, Nat.reduceMul, Nat.reduceSub, Nat.reduceLT, Nat.reduceLeDiff, Nat.reduceEqDiff, reduceCtorEq, true_or, or_true, false_or, or_false, true_and, and_true, false_and, and_false, not_true_eq_false, not_false_eq_true, wr_2, wrL_1, zm_eqF, zm_eqF', zm_lt, zm_lt', zm_le, zm_le', zm_sub1, zN_01, Nat.mul_zero, Nat.zero_mul, Nat.mul_one, Nat.sub_zero, Nat.sub_self, Nat.add_sub_cancel, r0, r1', r2', r3']
theorem ap_p (hT : T.length ≤ 80) (hQ : Good Q) (hp : p < T.length) (ha : a + 3 < 320) (hc : tt T p = 112) (hd : ∀ j, j < dg (tt T p) → dok T (p + 1 + j)) : AP T p a Q := by
  rw [hc, show dg 112 = 5 from rfl] at hd
  refine ⟨_, _, ab_plan hQ (zN (nv T (p + 1) 1)) (zN (nv T (p + 2) 2)) (zN (nv T (p + 4) 2)), fun M hM => ?_, fun M hM => ?_⟩
  · have s := sign0 hT hM hp
    rw [hc] at s
    have n1 := numT hT hM (p := p + 1) (k := 1) (by omega) (by omega) (fun j hj => hd j (by omega))
    have n2 := numT hT hM (p := p + 2) (k := 2) (by omega) (by omega) (fun j hj => by have := hd (1 + j) (by omega); rw [show p + 2 + j = p + 1 + (1 + j) by omega]; exact this)
    have n3 := numT hT hM (p := p + 4) (k := 2) (by omega) (by omega) (fun j hj => by have := hd (3 + j) (by omega); rw [show p + 4 + j = p + 1 + (3 + j) by omega]; exact this)
    unfold fX6_doAct
    rw [s, Option.bind_some]
    simp (disch := omega) only [wr_cj, wr_nj, rng_in, rng_out, zN_lit, zN_add, zN_mul, zN_sub, zN_ltT, zN_ltF, zN_leT, zN_leF, zN_eqT, zN_eqF, zN_lt, zN_le, zN_eq, zN_nat, zN_oobF, Option.bind_some, ↓reduceIte, Nat.one_mul, Nat.zero_add, Nat.add_zero, Nat.reduceAdd, Nat.reduceMul, Nat.reduceSub, Nat.reduceLT, Nat.reduceLeDiff, Nat.reduceEqDiff, reduceCtorEq, true_or, or_true, false_or, or_false, true_and, and_true, false_and, and_false, not_true_eq_false, not_false_eq_true, wr_2, wrL_1, zm_eqF, zm_eqF', zm_lt, zm_lt', zm_le, zm_le', zm_sub1, zN_01, Nat.mul_zero, Nat.zero_mul, Nat.mul_one, Nat.sub_zero, Nat.sub_self, Nat.add_sub_cancel, n1, n2, n3, bind_eta]
  · obtain ⟨r0, r1, r2, r3⟩ := hM
    have r1' := r1 (by omega)
    have r2' := r2 (by omega)
    have r3' := r3 (by omega)
    unfold A1 at r1'
    unfold A2 at r2'
    unfold A3 at r3'
    rw [if_neg (by omega)] at r1'
    rw [if_neg (by omega)] at r2'
    rw [if_neg (by omega)] at r3'
    rw [hc] at r0
    unfold fX7_act
    simp (disch := omega) only [wr_cj, wr_nj, rng_in, rng_out, zN_lit, zN_add, zN_mul, zN_sub, zN_ltT, zN_ltF, zN_leT, zN_leF, zN_eqT, zN_eqF, zN_lt, zN_le, zN_eq, zN_nat, zN_oobF, Option.bind_some, ↓reduceIte, Nat.one_mul, Nat.zero_add, Nat.add_zero, Nat.reduceAdd, Nat.reduceMul, Nat.reduceSub, Nat.reduceLT, Nat.reduceLeDiff, Nat.reduceEqDiff, reduceCtorEq, true_or, or_true, false_or, or_false, true_and, and_true, false_and, and_false, not_true_eq_false, not_false_eq_true, wr_2, wrL_1, zm_eqF, zm_eqF', zm_lt, zm_lt', zm_le, zm_le', zm_sub1, zN_01, Nat.mul_zero, Nat.zero_mul, Nat.mul_one, Nat.sub_zero, Nat.sub_self, Nat.add_sub_cancel, r0, r1', r2', r3']
theorem ap_x (hT : T.length ≤ 80) (hQ : Good Q) (hp : p < T.length) (ha : a + 3 < 320) (hc : tt T p = 120) : AP T p a Q := by
  refine ⟨_, _, ab_swap hQ, fun M hM => ?_, fun M hM => ?_⟩
  · have s := sign0 hT hM hp
    rw [hc] at s
    unfold fX6_doAct
    rw [s, Option.bind_some]
    simp (disch := omega) only [wr_cj, wr_nj, rng_in, rng_out, zN_lit, zN_add, zN_mul, zN_sub, zN_ltT, zN_ltF, zN_leT, zN_leF, zN_eqT, zN_eqF, zN_lt, zN_le, zN_eq, zN_nat, zN_oobF, Option.bind_some, ↓reduceIte, Nat.one_mul, Nat.zero_add, Nat.add_zero, Nat.reduceAdd, Nat.reduceMul, Nat.reduceSub, Nat.reduceLT, Nat.reduceLeDiff, Nat.reduceEqDiff, reduceCtorEq, true_or, or_true, false_or, or_false, true_and, and_true, false_and, and_false, not_true_eq_false, not_false_eq_true, wr_2, wrL_1, zm_eqF, zm_eqF', zm_lt, zm_lt', zm_le, zm_le', zm_sub1, zN_01, Nat.mul_zero, Nat.zero_mul, Nat.mul_one, Nat.sub_zero, Nat.sub_self, Nat.add_sub_cancel, bind_eta]
  · obtain ⟨r0, r1, r2, r3⟩ := hM
    rw [hc] at r0
    unfold fX7_act
    simp (disch := omega) only [wr_cj, wr_nj, rng_in, rng_out, zN_lit, zN_add, zN_mul, zN_sub, zN_ltT, zN_ltF, zN_leT, zN_leF, zN_eqT, zN_eqF, zN_lt, zN_le, zN_eq, zN_nat, zN_oobF, Option.bind_some, ↓reduceIte, Nat.one_mul, Nat.zero_add, Nat.add_zero, Nat.reduceAdd, Nat.reduceMul, Nat.reduceSub, Nat.reduceLT, Nat.reduceLeDiff, Nat.reduceEqDiff, reduceCtorEq, true_or, or_true, false_or, or_false, true_and, and_true, false_and, and_false, not_true_eq_false, not_false_eq_true, wr_2, wrL_1, zm_eqF, zm_eqF', zm_lt, zm_lt', zm_le, zm_le', zm_sub1, zN_01, Nat.mul_zero, Nat.zero_mul, Nat.mul_one, Nat.sub_zero, Nat.sub_self, Nat.add_sub_cancel, r0]
theorem ap_all (hT : T.length ≤ 80) (hQ : Good Q) (hp : p < T.length) (ha : a + 3 < 320) (hc : isL (tt T p)) (hd : ∀ j, j < dg (tt T p) → dok T (p + 1 + j)) : AP T p a Q := by
  rcases hc with c | c | c | c | c | c | c | c
  · exact ap_b hT hQ hp ha c hd
  · exact ap_c hT hQ hp ha c hd
  · exact ap_g hT hQ hp ha c hd
  · exact ap_h hT hQ hp ha c hd
  · exact ap_p hT hQ hp ha c hd
  · exact ap_u hT hQ hp ha c hd
  · exact ap_w hT hQ hp ha c hd
  · exact ap_x hT hQ hp ha c
end
