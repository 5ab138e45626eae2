/-! changes of numbers: measures, weights, plan -/
theorem zm_neg {b : Nat} (h : 1 ≤ b ∧ b < 2147483648) : -zN b < 0 := by
  rw [zm_I, show (0 : Int32) = zI 0 from rfl, zI_lt ⟨by omega, by omega⟩ ⟨by decide, by decide⟩]; omega
theorem zN_nn {n : Nat} (h : n < 2147483648) : ¬ zN n < 0 := by rw [zN_neg h]; exact id
theorem allowsIts {P : Nat → Nat} (hb : 17 ≤ P 0 ∧ P 0 ≤ 60 ∧ P 1 ≤ 40 ∧ P 255 ≤ 4) (h24 : P 2 < 1000 ∧ P 3 < 1000 ∧ P 4 < 1000) {b : Nat} {M : zMM} (hL : Leaf M b P) : (pOK P (P 2) (P 3) (P 4) → fX0_allowsItsPlan b M = some (zN 1, M)) ∧ (¬ pOK P (P 2) (P 3) (P 4) → fX0_allowsItsPlan b M = some (zN 0, M)) := by
  have h := allowsL hb hL h24.1 h24.2.1 h24.2.2
  obtain ⟨l0, l1, l2, l3, l4, l5, l6⟩ := hL.1
  unfold fX0_allowsItsPlan
  constructor
  · intro k; have e := h.1 k; simp (disch := omega) only [wr_cj, wr_nj, rng_in, rng_out, zN_lit, zN_add, zN_mul, zN_sub, zN_ltT, zN_ltF, zN_leT, zN_leF, zN_eqT, zN_eqF, zN_lt, zN_le, zN_eq, zN_nat, zN_oobF, Option.bind_some, ↓reduceIte, Nat.one_mul, Nat.zero_add, Nat.add_zero, Nat.reduceAdd, Nat.reduceMul, Nat.reduceSub, Nat.reduceLT, Nat.reduceLeDiff, Nat.reduceEqDiff, reduceCtorEq, true_or, or_true, false_or, or_false, true_and, and_true, false_and, and_false, not_true_eq_false, not_false_eq_true, wr_2, wrL_1, zm_eqF, zm_eqF', zm_lt, zm_lt', zm_le, zm_le', zm_sub1, zN_01, Nat.mul_zero, Nat.zero_mul, Nat.mul_one, Nat.sub_zero, Nat.sub_self, Nat.add_sub_cancel, l3, l4, l5, e]
  · intro k; have e := h.2 k; simp (disch := omega) only [wr_cj, wr_nj, rng_in, rng_out, zN_lit, zN_add, zN_mul, zN_sub, zN_ltT, zN_ltF, zN_leT, zN_leF, zN_eqT, zN_eqF, zN_lt, zN_le, zN_eq, zN_nat, zN_oobF, Option.bind_some, ↓reduceIte, Nat.one_mul, Nat.zero_add, Nat.add_zero, Nat.reduceAdd, Nat.reduceMul, Nat.reduceSub, Nat.reduceLT, Nat.reduceLeDiff, Nat.reduceEqDiff, reduceCtorEq, true_or, or_true, false_or, or_false, true_and, and_true, false_and, and_false, not_true_eq_false, not_false_eq_true, wr_2, wrL_1, zm_eqF, zm_eqF', zm_lt, zm_lt', zm_le, zm_le', zm_sub1, zN_01, Nat.mul_zero, Nat.zero_mul, Nat.mul_one, Nat.sub_zero, Nat.sub_self, Nat.add_sub_cancel, l3, l4, l5, e]
theorem setM_0 {P : Nat → Nat} (hP : Good P) (y : Int32) : (∃ r, r < 0 ∧ LD (fX6_setMeasure (zN 0) y) P r P ∧ ∀ M, MNow M P → fX7_refusesSet (zN 0) y M = some (r, M)) ∨ (∃ v, y = zN v ∧ Good (up P 0 v) ∧ LD (fX6_setMeasure (zN 0) y) P (zN (P 0)) (up P 0 v) ∧ (∀ M, MNow M P → fX7_refusesSet (zN 0) y M = some (zN 0, M))) := by
  have hp := hP.1
  have z0 : zst 0 0 = zN 29 := by decide
  have z1 : zst 1 0 = zN 60 := by decide
  rcases zcaseR y 29 60 with ⟨v, v1, v2, rfl⟩ | hy | ⟨v, hv, rfl, hn⟩
  · by_cases e : P 0 = v
    · left
      refine ⟨-zN 2, zm_neg (by omega), fun M hL => ⟨M, ?_, hL, fr_refl _ _⟩, fun M hM => ?_⟩
      · have l := hL.1.1
        rw [e] at l
        unfold fX6_setMeasure fX0_measure; simp (disch := omega) only [wr_cj, wr_nj, rng_in, rng_out, zN_lit, zN_add, zN_mul, zN_sub, zN_ltT, zN_ltF, zN_leT, zN_leF, zN_eqT, zN_eqF, zN_lt, zN_le, zN_eq, zN_nat, zN_oobF, Option.bind_some, ↓reduceIte, Nat.one_mul, Nat.zero_add, Nat.add_zero, Nat.reduceAdd, Nat.reduceMul, Nat.reduceSub, Nat.reduceLT, Nat.reduceLeDiff, Nat.reduceEqDiff, reduceCtorEq, true_or, or_true, false_or, or_false, true_and, and_true, false_and, and_false, not_true_eq_false, not_false_eq_true, wr_2, wrL_1, zm_eqF, zm_eqF', zm_lt, zm_lt', zm_le, zm_le', zm_sub1, zN_01, Nat.mul_zero, Nat.zero_mul, Nat.mul_one, Nat.sub_zero, Nat.sub_self, Nat.add_sub_cancel, z0, z1, l]
      · have m := hM 0 (by omega)
        rw [e] at m
        have t := in7T (a := 0) (lo := 0) (hi := 2) (by omega) M
        have t2 := in7T (a := v) (lo := 29) (hi := 60) (by omega) M
        unfold fX7_refusesSet fX7_refusesSet_29 fX7_refusesSet_49 fX7_settingAt; simp (disch := omega) only [wr_cj, wr_nj, rng_in, rng_out, zN_lit, zN_add, zN_mul, zN_sub, zN_ltT, zN_ltF, zN_leT, zN_leF, zN_eqT, zN_eqF, zN_lt, zN_le, zN_eq, zN_nat, zN_oobF, Option.bind_some, ↓reduceIte, Nat.one_mul, Nat.zero_add, Nat.add_zero, Nat.reduceAdd, Nat.reduceMul, Nat.reduceSub, Nat.reduceLT, Nat.reduceLeDiff, Nat.reduceEqDiff, reduceCtorEq, true_or, or_true, false_or, or_false, true_and, and_true, false_and, and_false, not_true_eq_false, not_false_eq_true, wr_2, wrL_1, zm_eqF, zm_eqF', zm_lt, zm_lt', zm_le, zm_le', zm_sub1, zN_01, Nat.mul_zero, Nat.zero_mul, Nat.mul_one, Nat.sub_zero, Nat.sub_self, Nat.add_sub_cancel, t, t2, m]
    · have hb : 17 ≤ up P 0 v 0 ∧ up P 0 v 0 ≤ 60 ∧ up P 0 v 1 ≤ 40 ∧ up P 0 v 255 ≤ 4 := by
        simp (disch := omega) only [up_ne, up_eq]; omega
      have h24 : up P 0 v 2 = P 2 ∧ up P 0 v 3 = P 3 ∧ up P 0 v 4 = P 4 := by
        simp (disch := omega) only [up_ne, up_eq, and_self]
      have cp := fun M => canPlanN (c := P 2) (i := P 3) (o := P 4) (w := v) (h := P 1) (g := P 255) M (by omega) (by omega) (by omega) (by omega)
      by_cases k : pOK (up P 0 v) (up P 0 v 2) (up P 0 v 3) (up P 0 v 4)
      · have k' := k
        unfold pOK at k'
        simp (disch := omega) only [up_ne, up_eq] at k'
        right
        refine ⟨v, rfl, Good_up0 hP (by omega), fun M hL => ⟨wr M 0 0 (zN v), ?_, Leaf_up0 hL, fr_wr (fr_refl _ _) (by unfold CW; omega)⟩, fun M hM => ?_⟩
        · have l := hL.1.1
          have lu : Leaf (wr M 0 0 (zN v)) 0 (up P 0 v) := Leaf_up0 hL
          have al := (allowsIts hb (by omega) lu).1 k
          unfold fX6_setMeasure fX0_measure fX0_setMeasure; simp (disch := omega) only [wr_cj, wr_nj, rng_in, rng_out, zN_lit, zN_add, zN_mul, zN_sub, zN_ltT, zN_ltF, zN_leT, zN_leF, zN_eqT, zN_eqF, zN_lt, zN_le, zN_eq, zN_nat, zN_oobF, Option.bind_some, ↓reduceIte, Nat.one_mul, Nat.zero_add, Nat.add_zero, Nat.reduceAdd, Nat.reduceMul, Nat.reduceSub, Nat.reduceLT, Nat.reduceLeDiff, Nat.reduceEqDiff, reduceCtorEq, true_or, or_true, false_or, or_false, true_and, and_true, false_and, and_false, not_true_eq_false, not_false_eq_true, wr_2, wrL_1, zm_eqF, zm_eqF', zm_lt, zm_lt', zm_le, zm_le', zm_sub1, zN_01, Nat.mul_zero, Nat.zero_mul, Nat.mul_one, Nat.sub_zero, Nat.sub_self, Nat.add_sub_cancel, z0, z1, l, al]
        · have m := hM 0 (by omega)
          have m0 := hM 0 (by omega)
          have m1 := hM 1 (by omega)
          have m2 := hM 2 (by omega)
          have m3 := hM 3 (by omega)
          have m4 := hM 4 (by omega)
          have m5 := hM 255 (by omega)
          have t := in7T (a := 0) (lo := 0) (hi := 2) (by omega) M
          have t2 := in7T (a := v) (lo := 29) (hi := 60) (by omega) M
          have c := cp M
          rw [if_pos (by omega)] at c
          unfold fX7_refusesSet fX7_refusesSet_29 fX7_refusesSet_49 fX7_settingAt fX7_refusesSet_87 fX7_refusesSet_102 fX7_refusesSet_119; simp (disch := omega) only [wr_cj, wr_nj, rng_in, rng_out, zN_lit, zN_add, zN_mul, zN_sub, zN_ltT, zN_ltF, zN_leT, zN_leF, zN_eqT, zN_eqF, zN_lt, zN_le, zN_eq, zN_nat, zN_oobF, Option.bind_some, ↓reduceIte, Nat.one_mul, Nat.zero_add, Nat.add_zero, Nat.reduceAdd, Nat.reduceMul, Nat.reduceSub, Nat.reduceLT, Nat.reduceLeDiff, Nat.reduceEqDiff, reduceCtorEq, true_or, or_true, false_or, or_false, true_and, and_true, false_and, and_false, not_true_eq_false, not_false_eq_true, wr_2, wrL_1, zm_eqF, zm_eqF', zm_lt, zm_lt', zm_le, zm_le', zm_sub1, zN_01, Nat.mul_zero, Nat.zero_mul, Nat.mul_one, Nat.sub_zero, Nat.sub_self, Nat.add_sub_cancel, t, t2, m, m0, m1, m2, m3, m4, m5, c]
      · have k' := k
        unfold pOK at k'
        simp (disch := omega) only [up_ne, up_eq] at k'
        left
        refine ⟨-zN 3, zm_neg (by omega), fun M hL => ⟨wr (wr M 0 0 (zN v)) 0 0 (zN (P 0)), ?_, ?_, fr_wr (fr_wr (fr_refl _ _) (by unfold CW; omega)) (by unfold CW; omega)⟩, fun M hM => ?_⟩
        · have l := hL.1.1
          have lu : Leaf (wr M 0 0 (zN v)) 0 (up P 0 v) := Leaf_up0 hL
          have al := (allowsIts hb (by omega) lu).2 k
          unfold fX6_setMeasure fX0_measure fX0_setMeasure; simp (disch := omega) only [wr_cj, wr_nj, rng_in, rng_out, zN_lit, zN_add, zN_mul, zN_sub, zN_ltT, zN_ltF, zN_leT, zN_leF, zN_eqT, zN_eqF, zN_lt, zN_le, zN_eq, zN_nat, zN_oobF, Option.bind_some, ↓reduceIte, Nat.one_mul, Nat.zero_add, Nat.add_zero, Nat.reduceAdd, Nat.reduceMul, Nat.reduceSub, Nat.reduceLT, Nat.reduceLeDiff, Nat.reduceEqDiff, reduceCtorEq, true_or, or_true, false_or, or_false, true_and, and_true, false_and, and_false, not_true_eq_false, not_false_eq_true, wr_2, wrL_1, zm_eqF, zm_eqF', zm_lt, zm_lt', zm_le, zm_le', zm_sub1, zN_01, Nat.mul_zero, Nat.zero_mul, Nat.mul_one, Nat.sub_zero, Nat.sub_self, Nat.add_sub_cancel, z0, z1, l, al]
        · have l := hL.1.1
          refine Leaf_eq hL (fun c j _ _ => ?_)
          by_cases q : c = 0 ∧ j = 0
          · rw [q.1, q.2, wr_cj, l]
          · rw [wr_nj (by omega), wr_nj (by omega)]
        · have m := hM 0 (by omega)
          have m0 := hM 0 (by omega)
          have m1 := hM 1 (by omega)
          have m2 := hM 2 (by omega)
          have m3 := hM 3 (by omega)
          have m4 := hM 4 (by omega)
          have m5 := hM 255 (by omega)
          have t := in7T (a := 0) (lo := 0) (hi := 2) (by omega) M
          have t2 := in7T (a := v) (lo := 29) (hi := 60) (by omega) M
          have c := cp M
          rw [if_neg (by omega)] at c
          unfold fX7_refusesSet fX7_refusesSet_29 fX7_refusesSet_49 fX7_settingAt fX7_refusesSet_87 fX7_refusesSet_102 fX7_refusesSet_119; simp (disch := omega) only [wr_cj, wr_nj, rng_in, rng_out, zN_lit, zN_add, zN_mul, zN_sub, zN_ltT, zN_ltF, zN_leT, zN_leF, zN_eqT, zN_eqF, zN_lt, zN_le, zN_eq, zN_nat, zN_oobF, Option.bind_some, ↓reduceIte, Nat.one_mul, Nat.zero_add, Nat.add_zero, Nat.reduceAdd, Nat.reduceMul, Nat.reduceSub, Nat.reduceLT, Nat.reduceLeDiff, Nat.reduceEqDiff, reduceCtorEq, true_or, or_true, false_or, or_false, true_and, and_true, false_and, and_false, not_true_eq_false, not_false_eq_true, wr_2, wrL_1, zm_eqF, zm_eqF', zm_lt, zm_lt', zm_le, zm_le', zm_sub1, zN_01, Nat.mul_zero, Nat.zero_mul, Nat.mul_one, Nat.sub_zero, Nat.sub_self, Nat.add_sub_cancel, t, t2, m, m0, m1, m2, m3, m4, m5, c]
  · left
    refine ⟨-zN 1, zm_neg (by omega), fun M hL => ⟨M, ?_, hL, fr_refl _ _⟩, fun M hM => ?_⟩
    · unfold fX6_setMeasure; simp (disch := omega) only [wr_cj, wr_nj, rng_in, rng_out, zN_lit, zN_add, zN_mul, zN_sub, zN_ltT, zN_ltF, zN_leT, zN_leF, zN_eqT, zN_eqF, zN_lt, zN_le, zN_eq, zN_nat, zN_oobF, Option.bind_some, ↓reduceIte, Nat.one_mul, Nat.zero_add, Nat.add_zero, Nat.reduceAdd, Nat.reduceMul, Nat.reduceSub, Nat.reduceLT, Nat.reduceLeDiff, Nat.reduceEqDiff, reduceCtorEq, true_or, or_true, false_or, or_false, true_and, and_true, false_and, and_false, not_true_eq_false, not_false_eq_true, wr_2, wrL_1, zm_eqF, zm_eqF', zm_lt, zm_lt', zm_le, zm_le', zm_sub1, zN_01, Nat.mul_zero, Nat.zero_mul, Nat.mul_one, Nat.sub_zero, Nat.sub_self, Nat.add_sub_cancel, z0, z1, zg_lt hy]
    · have t := in7T (a := 0) (lo := 0) (hi := 2) (by omega) M
      have t2 := in7g hy (lo := 29) (by omega) (zN 60) M
      unfold fX7_refusesSet fX7_refusesSet_29 fX7_refusesSet_49; simp (disch := omega) only [wr_cj, wr_nj, rng_in, rng_out, zN_lit, zN_add, zN_mul, zN_sub, zN_ltT, zN_ltF, zN_leT, zN_leF, zN_eqT, zN_eqF, zN_lt, zN_le, zN_eq, zN_nat, zN_oobF, Option.bind_some, ↓reduceIte, Nat.one_mul, Nat.zero_add, Nat.add_zero, Nat.reduceAdd, Nat.reduceMul, Nat.reduceSub, Nat.reduceLT, Nat.reduceLeDiff, Nat.reduceEqDiff, reduceCtorEq, true_or, or_true, false_or, or_false, true_and, and_true, false_and, and_false, not_true_eq_false, not_false_eq_true, wr_2, wrL_1, zm_eqF, zm_eqF', zm_lt, zm_lt', zm_le, zm_le', zm_sub1, zN_01, Nat.mul_zero, Nat.zero_mul, Nat.mul_one, Nat.sub_zero, Nat.sub_self, Nat.add_sub_cancel, t, t2]
  · left
    refine ⟨-zN 1, zm_neg (by omega), fun M hL => ⟨M, ?_, hL, fr_refl _ _⟩, fun M hM => ?_⟩
    · unfold fX6_setMeasure
      by_cases q : v < 29
      · simp (disch := omega) only [wr_cj, wr_nj, rng_in, rng_out, zN_lit, zN_add, zN_mul, zN_sub, zN_ltT, zN_ltF, zN_leT, zN_leF, zN_eqT, zN_eqF, zN_lt, zN_le, zN_eq, zN_nat, zN_oobF, Option.bind_some, ↓reduceIte, Nat.one_mul, Nat.zero_add, Nat.add_zero, Nat.reduceAdd, Nat.reduceMul, Nat.reduceSub, Nat.reduceLT, Nat.reduceLeDiff, Nat.reduceEqDiff, reduceCtorEq, true_or, or_true, false_or, or_false, true_and, and_true, false_and, and_false, not_true_eq_false, not_false_eq_true, wr_2, wrL_1, zm_eqF, zm_eqF', zm_lt, zm_lt', zm_le, zm_le', zm_sub1, zN_01, Nat.mul_zero, Nat.zero_mul, Nat.mul_one, Nat.sub_zero, Nat.sub_self, Nat.add_sub_cancel, z0, z1]
      · simp (disch := omega) only [wr_cj, wr_nj, rng_in, rng_out, zN_lit, zN_add, zN_mul, zN_sub, zN_ltT, zN_ltF, zN_leT, zN_leF, zN_eqT, zN_eqF, zN_lt, zN_le, zN_eq, zN_nat, zN_oobF, Option.bind_some, ↓reduceIte, Nat.one_mul, Nat.zero_add, Nat.add_zero, Nat.reduceAdd, Nat.reduceMul, Nat.reduceSub, Nat.reduceLT, Nat.reduceLeDiff, Nat.reduceEqDiff, reduceCtorEq, true_or, or_true, false_or, or_false, true_and, and_true, false_and, and_false, not_true_eq_false, not_false_eq_true, wr_2, wrL_1, zm_eqF, zm_eqF', zm_lt, zm_lt', zm_le, zm_le', zm_sub1, zN_01, Nat.mul_zero, Nat.zero_mul, Nat.mul_one, Nat.sub_zero, Nat.sub_self, Nat.add_sub_cancel, z0, z1]
    · have t := in7T (a := 0) (lo := 0) (hi := 2) (by omega) M
      have t2 := in7F (a := v) (lo := 29) (hi := 60) (by omega) M
      unfold fX7_refusesSet fX7_refusesSet_29 fX7_refusesSet_49; simp (disch := omega) only [wr_cj, wr_nj, rng_in, rng_out, zN_lit, zN_add, zN_mul, zN_sub, zN_ltT, zN_ltF, zN_leT, zN_leF, zN_eqT, zN_eqF, zN_lt, zN_le, zN_eq, zN_nat, zN_oobF, Option.bind_some, ↓reduceIte, Nat.one_mul, Nat.zero_add, Nat.add_zero, Nat.reduceAdd, Nat.reduceMul, Nat.reduceSub, Nat.reduceLT, Nat.reduceLeDiff, Nat.reduceEqDiff, reduceCtorEq, true_or, or_true, false_or, or_false, true_and, and_true, false_and, and_false, not_true_eq_false, not_false_eq_true, wr_2, wrL_1, zm_eqF, zm_eqF', zm_lt, zm_lt', zm_le, zm_le', zm_sub1, zN_01, Nat.mul_zero, Nat.zero_mul, Nat.mul_one, Nat.sub_zero, Nat.sub_self, Nat.add_sub_cancel, t, t2]
theorem setM_1 {P : Nat → Nat} (hP : Good P) (y : Int32) : (∃ r, r < 0 ∧ LD (fX6_setMeasure (zN 1) y) P r P ∧ ∀ M, MNow M P → fX7_refusesSet (zN 1) y M = some (r, M)) ∨ (∃ v, y = zN v ∧ Good (up P 1 v) ∧ LD (fX6_setMeasure (zN 1) y) P (zN (P 1)) (up P 1 v) ∧ (∀ M, MNow M P → fX7_refusesSet (zN 1) y M = some (zN 0, M))) := by
  have hp := hP.1
  have z0 : zst 0 1 = zN 3 := by decide
  have z1 : zst 1 1 = zN 40 := by decide
  rcases zcaseR y 3 40 with ⟨v, v1, v2, rfl⟩ | hy | ⟨v, hv, rfl, hn⟩
  · by_cases e : P 1 = v
    · left
      refine ⟨-zN 2, zm_neg (by omega), fun M hL => ⟨M, ?_, hL, fr_refl _ _⟩, fun M hM => ?_⟩
      · have l := hL.1.2.1
        rw [e] at l
        unfold fX6_setMeasure fX0_measure; simp (disch := omega) only [wr_cj, wr_nj, rng_in, rng_out, zN_lit, zN_add, zN_mul, zN_sub, zN_ltT, zN_ltF, zN_leT, zN_leF, zN_eqT, zN_eqF, zN_lt, zN_le, zN_eq, zN_nat, zN_oobF, Option.bind_some, ↓reduceIte, Nat.one_mul, Nat.zero_add, Nat.add_zero, Nat.reduceAdd, Nat.reduceMul, Nat.reduceSub, Nat.reduceLT, Nat.reduceLeDiff, Nat.reduceEqDiff, reduceCtorEq, true_or, or_true, false_or, or_false, true_and, and_true, false_and, and_false, not_true_eq_false, not_false_eq_true, wr_2, wrL_1, zm_eqF, zm_eqF', zm_lt, zm_lt', zm_le, zm_le', zm_sub1, zN_01, Nat.mul_zero, Nat.zero_mul, Nat.mul_one, Nat.sub_zero, Nat.sub_self, Nat.add_sub_cancel, z0, z1, l]
      · have m := hM 1 (by omega)
        rw [e] at m
        have t := in7T (a := 1) (lo := 0) (hi := 2) (by omega) M
        have t2 := in7T (a := v) (lo := 3) (hi := 40) (by omega) M
        unfold fX7_refusesSet fX7_refusesSet_29 fX7_refusesSet_49 fX7_settingAt; simp (disch := omega) only [wr_cj, wr_nj, rng_in, rng_out, zN_lit, zN_add, zN_mul, zN_sub, zN_ltT, zN_ltF, zN_leT, zN_leF, zN_eqT, zN_eqF, zN_lt, zN_le, zN_eq, zN_nat, zN_oobF, Option.bind_some, ↓reduceIte, Nat.one_mul, Nat.zero_add, Nat.add_zero, Nat.reduceAdd, Nat.reduceMul, Nat.reduceSub, Nat.reduceLT, Nat.reduceLeDiff, Nat.reduceEqDiff, reduceCtorEq, true_or, or_true, false_or, or_false, true_and, and_true, false_and, and_false, not_true_eq_false, not_false_eq_true, wr_2, wrL_1, zm_eqF, zm_eqF', zm_lt, zm_lt', zm_le, zm_le', zm_sub1, zN_01, Nat.mul_zero, Nat.zero_mul, Nat.mul_one, Nat.sub_zero, Nat.sub_self, Nat.add_sub_cancel, t, t2, m]
    · have hb : 17 ≤ up P 1 v 0 ∧ up P 1 v 0 ≤ 60 ∧ up P 1 v 1 ≤ 40 ∧ up P 1 v 255 ≤ 4 := by
        simp (disch := omega) only [up_ne, up_eq]; omega
      have h24 : up P 1 v 2 = P 2 ∧ up P 1 v 3 = P 3 ∧ up P 1 v 4 = P 4 := by
        simp (disch := omega) only [up_ne, up_eq, and_self]
      have cp := fun M => canPlanN (c := P 2) (i := P 3) (o := P 4) (w := P 0) (h := v) (g := P 255) M (by omega) (by omega) (by omega) (by omega)
      by_cases k : pOK (up P 1 v) (up P 1 v 2) (up P 1 v 3) (up P 1 v 4)
      · have k' := k
        unfold pOK at k'
        simp (disch := omega) only [up_ne, up_eq] at k'
        right
        refine ⟨v, rfl, Good_up1 hP (by omega), fun M hL => ⟨wr M 0 1 (zN v), ?_, Leaf_up1 hL, fr_wr (fr_refl _ _) (by unfold CW; omega)⟩, fun M hM => ?_⟩
        · have l := hL.1.2.1
          have lu : Leaf (wr M 0 1 (zN v)) 0 (up P 1 v) := Leaf_up1 hL
          have al := (allowsIts hb (by omega) lu).1 k
          unfold fX6_setMeasure fX0_measure fX0_setMeasure; simp (disch := omega) only [wr_cj, wr_nj, rng_in, rng_out, zN_lit, zN_add, zN_mul, zN_sub, zN_ltT, zN_ltF, zN_leT, zN_leF, zN_eqT, zN_eqF, zN_lt, zN_le, zN_eq, zN_nat, zN_oobF, Option.bind_some, ↓reduceIte, Nat.one_mul, Nat.zero_add, Nat.add_zero, Nat.reduceAdd, Nat.reduceMul, Nat.reduceSub, Nat.reduceLT, Nat.reduceLeDiff, Nat.reduceEqDiff, reduceCtorEq, true_or, or_true, false_or, or_false, true_and, and_true, false_and, and_false, not_true_eq_false, not_false_eq_true, wr_2, wrL_1, zm_eqF, zm_eqF', zm_lt, zm_lt', zm_le, zm_le', zm_sub1, zN_01, Nat.mul_zero, Nat.zero_mul, Nat.mul_one, Nat.sub_zero, Nat.sub_self, Nat.add_sub_cancel, z0, z1, l, al]
        · have m := hM 1 (by omega)
          have m0 := hM 0 (by omega)
          have m1 := hM 1 (by omega)
          have m2 := hM 2 (by omega)
          have m3 := hM 3 (by omega)
          have m4 := hM 4 (by omega)
          have m5 := hM 255 (by omega)
          have t := in7T (a := 1) (lo := 0) (hi := 2) (by omega) M
          have t2 := in7T (a := v) (lo := 3) (hi := 40) (by omega) M
          have c := cp M
          rw [if_pos (by omega)] at c
          unfold fX7_refusesSet fX7_refusesSet_29 fX7_refusesSet_49 fX7_settingAt fX7_refusesSet_87 fX7_refusesSet_102 fX7_refusesSet_119; simp (disch := omega) only [wr_cj, wr_nj, rng_in, rng_out, zN_lit, zN_add, zN_mul, zN_sub, zN_ltT, zN_ltF, zN_leT, zN_leF, zN_eqT, zN_eqF, zN_lt, zN_le, zN_eq, zN_nat, zN_oobF, Option.bind_some, ↓reduceIte, Nat.one_mul, Nat.zero_add, Nat.add_zero, Nat.reduceAdd, Nat.reduceMul, Nat.reduceSub, Nat.reduceLT, Nat.reduceLeDiff, Nat.reduceEqDiff, reduceCtorEq, true_or, or_true, false_or, or_false, true_and, and_true, false_and, and_false, not_true_eq_false, not_false_eq_true, wr_2, wrL_1, zm_eqF, zm_eqF', zm_lt, zm_lt', zm_le, zm_le', zm_sub1, zN_01, Nat.mul_zero, Nat.zero_mul, Nat.mul_one, Nat.sub_zero, Nat.sub_self, Nat.add_sub_cancel, t, t2, m, m0, m1, m2, m3, m4, m5, c]
      · have k' := k
        unfold pOK at k'
        simp (disch := omega) only [up_ne, up_eq] at k'
        left
        refine ⟨-zN 3, zm_neg (by omega), fun M hL => ⟨wr (wr M 0 1 (zN v)) 0 1 (zN (P 1)), ?_, ?_, fr_wr (fr_wr (fr_refl _ _) (by unfold CW; omega)) (by unfold CW; omega)⟩, fun M hM => ?_⟩
        · have l := hL.1.2.1
          have lu : Leaf (wr M 0 1 (zN v)) 0 (up P 1 v) := Leaf_up1 hL
          have al := (allowsIts hb (by omega) lu).2 k
          unfold fX6_setMeasure fX0_measure fX0_setMeasure; simp (disch := omega) only [wr_cj, wr_nj, rng_in, rng_out, zN_lit, zN_add, zN_mul, zN_sub, zN_ltT, zN_ltF, zN_leT, zN_leF, zN_eqT, zN_eqF, zN_lt, zN_le, zN_eq, zN_nat, zN_oobF, Option.bind_some, ↓reduceIte, Nat.one_mul, Nat.zero_add, Nat.add_zero, Nat.reduceAdd, Nat.reduceMul, Nat.reduceSub, Nat.reduceLT, Nat.reduceLeDiff, Nat.reduceEqDiff, reduceCtorEq, true_or, or_true, false_or, or_false, true_and, and_true, false_and, and_false, not_true_eq_false, not_false_eq_true, wr_2, wrL_1, zm_eqF, zm_eqF', zm_lt, zm_lt', zm_le, zm_le', zm_sub1, zN_01, Nat.mul_zero, Nat.zero_mul, Nat.mul_one, Nat.sub_zero, Nat.sub_self, Nat.add_sub_cancel, z0, z1, l, al]
        · have l := hL.1.2.1
          refine Leaf_eq hL (fun c j _ _ => ?_)
          by_cases q : c = 0 ∧ j = 1
          · rw [q.1, q.2, wr_cj, l]
          · rw [wr_nj (by omega), wr_nj (by omega)]
        · have m := hM 1 (by omega)
          have m0 := hM 0 (by omega)
          have m1 := hM 1 (by omega)
          have m2 := hM 2 (by omega)
          have m3 := hM 3 (by omega)
          have m4 := hM 4 (by omega)
          have m5 := hM 255 (by omega)
          have t := in7T (a := 1) (lo := 0) (hi := 2) (by omega) M
          have t2 := in7T (a := v) (lo := 3) (hi := 40) (by omega) M
          have c := cp M
          rw [if_neg (by omega)] at c
          unfold fX7_refusesSet fX7_refusesSet_29 fX7_refusesSet_49 fX7_settingAt fX7_refusesSet_87 fX7_refusesSet_102 fX7_refusesSet_119; simp (disch := omega) only [wr_cj, wr_nj, rng_in, rng_out, zN_lit, zN_add, zN_mul, zN_sub, zN_ltT, zN_ltF, zN_leT, zN_leF, zN_eqT, zN_eqF, zN_lt, zN_le, zN_eq, zN_nat, zN_oobF, Option.bind_some, ↓reduceIte, Nat.one_mul, Nat.zero_add, Nat.add_zero, Nat.reduceAdd, Nat.reduceMul, Nat.reduceSub, Nat.reduceLT, Nat.reduceLeDiff, Nat.reduceEqDiff, reduceCtorEq, true_or, or_true, false_or, or_false, true_and, and_true, false_and, and_false, not_true_eq_false, not_false_eq_true, wr_2, wrL_1, zm_eqF, zm_eqF', zm_lt, zm_lt', zm_le, zm_le', zm_sub1, zN_01, Nat.mul_zero, Nat.zero_mul, Nat.mul_one, Nat.sub_zero, Nat.sub_self, Nat.add_sub_cancel, t, t2, m, m0, m1, m2, m3, m4, m5, c]
  · left
    refine ⟨-zN 1, zm_neg (by omega), fun M hL => ⟨M, ?_, hL, fr_refl _ _⟩, fun M hM => ?_⟩
    · unfold fX6_setMeasure; simp (disch := omega) only [wr_cj, wr_nj, rng_in, rng_out, zN_lit, zN_add, zN_mul, zN_sub, zN_ltT, zN_ltF, zN_leT, zN_leF, zN_eqT, zN_eqF, zN_lt, zN_le, zN_eq, zN_nat, zN_oobF, Option.bind_some, ↓reduceIte, Nat.one_mul, Nat.zero_add, Nat.add_zero, Nat.reduceAdd, Nat.reduceMul, Nat.reduceSub, Nat.reduceLT, Nat.reduceLeDiff, Nat.reduceEqDiff, reduceCtorEq, true_or, or_true, false_or, or_false, true_and, and_true, false_and, and_false, not_true_eq_false, not_false_eq_true, wr_2, wrL_1, zm_eqF, zm_eqF', zm_lt, zm_lt', zm_le, zm_le', zm_sub1, zN_01, Nat.mul_zero, Nat.zero_mul, Nat.mul_one, Nat.sub_zero, Nat.sub_self, Nat.add_sub_cancel, z0, z1, zg_lt hy]
    · have t := in7T (a := 1) (lo := 0) (hi := 2) (by omega) M
      have t2 := in7g hy (lo := 3) (by omega) (zN 40) M
      unfold fX7_refusesSet fX7_refusesSet_29 fX7_refusesSet_49; simp (disch := omega) only [wr_cj, wr_nj, rng_in, rng_out, zN_lit, zN_add, zN_mul, zN_sub, zN_ltT, zN_ltF, zN_leT, zN_leF, zN_eqT, zN_eqF, zN_lt, zN_le, zN_eq, zN_nat, zN_oobF, Option.bind_some, ↓reduceIte, Nat.one_mul, Nat.zero_add, Nat.add_zero, Nat.reduceAdd, Nat.reduceMul, Nat.reduceSub, Nat.reduceLT, Nat.reduceLeDiff, Nat.reduceEqDiff, reduceCtorEq, true_or, or_true, false_or, or_false, true_and, and_true, false_and, and_false, not_true_eq_false, not_false_eq_true, wr_2, wrL_1, zm_eqF, zm_eqF', zm_lt, zm_lt', zm_le, zm_le', zm_sub1, zN_01, Nat.mul_zero, Nat.zero_mul, Nat.mul_one, Nat.sub_zero, Nat.sub_self, Nat.add_sub_cancel, t, t2]
  · left
    refine ⟨-zN 1, zm_neg (by omega), fun M hL => ⟨M, ?_, hL, fr_refl _ _⟩, fun M hM => ?_⟩
    · unfold fX6_setMeasure
      by_cases q : v < 3
      · simp (disch := omega) only [wr_cj, wr_nj, rng_in, rng_out, zN_lit, zN_add, zN_mul, zN_sub, zN_ltT, zN_ltF, zN_leT, zN_leF, zN_eqT, zN_eqF, zN_lt, zN_le, zN_eq, zN_nat, zN_oobF, Option.bind_some, ↓reduceIte, Nat.one_mul, Nat.zero_add, Nat.add_zero, Nat.reduceAdd, Nat.reduceMul, Nat.reduceSub, Nat.reduceLT, Nat.reduceLeDiff, Nat.reduceEqDiff, reduceCtorEq, true_or, or_true, false_or, or_false, true_and, and_true, false_and, and_false, not_true_eq_false, not_false_eq_true, wr_2, wrL_1, zm_eqF, zm_eqF', zm_lt, zm_lt', zm_le, zm_le', zm_sub1, zN_01, Nat.mul_zero, Nat.zero_mul, Nat.mul_one, Nat.sub_zero, Nat.sub_self, Nat.add_sub_cancel, z0, z1]
      · simp (disch := omega) only [wr_cj, wr_nj, rng_in, rng_out, zN_lit, zN_add, zN_mul, zN_sub, zN_ltT, zN_ltF, zN_leT, zN_leF, zN_eqT, zN_eqF, zN_lt, zN_le, zN_eq, zN_nat, zN_oobF, Option.bind_some, ↓reduceIte, Nat.one_mul, Nat.zero_add, Nat.add_zero, Nat.reduceAdd, Nat.reduceMul, Nat.reduceSub, Nat.reduceLT, Nat.reduceLeDiff, Nat.reduceEqDiff, reduceCtorEq, true_or, or_true, false_or, or_false, true_and, and_true, false_and, and_false, not_true_eq_false, not_false_eq_true, wr_2, wrL_1, zm_eqF, zm_eqF', zm_lt, zm_lt', zm_le, zm_le', zm_sub1, zN_01, Nat.mul_zero, Nat.zero_mul, Nat.mul_one, Nat.sub_zero, Nat.sub_self, Nat.add_sub_cancel, z0, z1]
    · have t := in7T (a := 1) (lo := 0) (hi := 2) (by omega) M
      have t2 := in7F (a := v) (lo := 3) (hi := 40) (by omega) M
      unfold fX7_refusesSet fX7_refusesSet_29 fX7_refusesSet_49; simp (disch := omega) only [wr_cj, wr_nj, rng_in, rng_out, zN_lit, zN_add, zN_mul, zN_sub, zN_ltT, zN_ltF, zN_leT, zN_leF, zN_eqT, zN_eqF, zN_lt, zN_le, zN_eq, zN_nat, zN_oobF, Option.bind_some, ↓reduceIte, Nat.one_mul, Nat.zero_add, Nat.add_zero, Nat.reduceAdd, Nat.reduceMul, Nat.reduceSub, Nat.reduceLT, Nat.reduceLeDiff, Nat.reduceEqDiff, reduceCtorEq, true_or, or_true, false_or, or_false, true_and, and_true, false_and, and_false, not_true_eq_false, not_false_eq_true, wr_2, wrL_1, zm_eqF, zm_eqF', zm_lt, zm_lt', zm_le, zm_le', zm_sub1, zN_01, Nat.mul_zero, Nat.zero_mul, Nat.mul_one, Nat.sub_zero, Nat.sub_self, Nat.add_sub_cancel, t, t2]
theorem setM_2 {P : Nat → Nat} (hP : Good P) (y : Int32) : (∃ r, r < 0 ∧ LD (fX6_setMeasure (zN 2) y) P r P ∧ ∀ M, MNow M P → fX7_refusesSet (zN 2) y M = some (r, M)) ∨ (∃ v, y = zN v ∧ Good (up P 255 v) ∧ LD (fX6_setMeasure (zN 2) y) P (zN (P 255)) (up P 255 v) ∧ (∀ M, MNow M P → fX7_refusesSet (zN 2) y M = some (zN 0, M))) := by
  have hp := hP.1
  have z0 : zst 0 2 = zN 1 := by decide
  have z1 : zst 1 2 = zN 4 := by decide
  rcases zcaseR y 1 4 with ⟨v, v1, v2, rfl⟩ | hy | ⟨v, hv, rfl, hn⟩
  · by_cases e : P 255 = v
    · left
      refine ⟨-zN 2, zm_neg (by omega), fun M hL => ⟨M, ?_, hL, fr_refl _ _⟩, fun M hM => ?_⟩
      · have l := hL.1.2.2.1
        rw [e] at l
        unfold fX6_setMeasure fX0_measure; simp (disch := omega) only [wr_cj, wr_nj, rng_in, rng_out, zN_lit, zN_add, zN_mul, zN_sub, zN_ltT, zN_ltF, zN_leT, zN_leF, zN_eqT, zN_eqF, zN_lt, zN_le, zN_eq, zN_nat, zN_oobF, Option.bind_some, ↓reduceIte, Nat.one_mul, Nat.zero_add, Nat.add_zero, Nat.reduceAdd, Nat.reduceMul, Nat.reduceSub, Nat.reduceLT, Nat.reduceLeDiff, Nat.reduceEqDiff, reduceCtorEq, true_or, or_true, false_or, or_false, true_and, and_true, false_and, and_false, not_true_eq_false, not_false_eq_true, wr_2, wrL_1, zm_eqF, zm_eqF', zm_lt, zm_lt', zm_le, zm_le', zm_sub1, zN_01, Nat.mul_zero, Nat.zero_mul, Nat.mul_one, Nat.sub_zero, Nat.sub_self, Nat.add_sub_cancel, z0, z1, l]
      · have m := hM 255 (by omega)
        rw [e] at m
        have t := in7T (a := 2) (lo := 0) (hi := 2) (by omega) M
        have t2 := in7T (a := v) (lo := 1) (hi := 4) (by omega) M
        unfold fX7_refusesSet fX7_refusesSet_29 fX7_refusesSet_49 fX7_settingAt; simp (disch := omega) only [wr_cj, wr_nj, rng_in, rng_out, zN_lit, zN_add, zN_mul, zN_sub, zN_ltT, zN_ltF, zN_leT, zN_leF, zN_eqT, zN_eqF, zN_lt, zN_le, zN_eq, zN_nat, zN_oobF, Option.bind_some, ↓reduceIte, Nat.one_mul, Nat.zero_add, Nat.add_zero, Nat.reduceAdd, Nat.reduceMul, Nat.reduceSub, Nat.reduceLT, Nat.reduceLeDiff, Nat.reduceEqDiff, reduceCtorEq, true_or, or_true, false_or, or_false, true_and, and_true, false_and, and_false, not_true_eq_false, not_false_eq_true, wr_2, wrL_1, zm_eqF, zm_eqF', zm_lt, zm_lt', zm_le, zm_le', zm_sub1, zN_01, Nat.mul_zero, Nat.zero_mul, Nat.mul_one, Nat.sub_zero, Nat.sub_self, Nat.add_sub_cancel, t, t2, m]
    · have hb : 17 ≤ up P 255 v 0 ∧ up P 255 v 0 ≤ 60 ∧ up P 255 v 1 ≤ 40 ∧ up P 255 v 255 ≤ 4 := by
        simp (disch := omega) only [up_ne, up_eq]; omega
      have h24 : up P 255 v 2 = P 2 ∧ up P 255 v 3 = P 3 ∧ up P 255 v 4 = P 4 := by
        simp (disch := omega) only [up_ne, up_eq, and_self]
      have cp := fun M => canPlanN (c := P 2) (i := P 3) (o := P 4) (w := P 0) (h := P 1) (g := v) M (by omega) (by omega) (by omega) (by omega)
      by_cases k : pOK (up P 255 v) (up P 255 v 2) (up P 255 v 3) (up P 255 v 4)
      · have k' := k
        unfold pOK at k'
        simp (disch := omega) only [up_ne, up_eq] at k'
        right
        refine ⟨v, rfl, Good_up255 hP (by omega), fun M hL => ⟨wr M 0 2 (zN v), ?_, Leaf_up255 (fun t ht => (hP.2.1 t ht).1) hP.2.2.1.1 hL, fr_wr (fr_refl _ _) (by unfold CW; omega)⟩, fun M hM => ?_⟩
        · have l := hL.1.2.2.1
          have lu : Leaf (wr M 0 2 (zN v)) 0 (up P 255 v) := Leaf_up255 (fun t ht => (hP.2.1 t ht).1) hP.2.2.1.1 hL
          have al := (allowsIts hb (by omega) lu).1 k
          unfold fX6_setMeasure fX0_measure fX0_setMeasure; simp (disch := omega) only [wr_cj, wr_nj, rng_in, rng_out, zN_lit, zN_add, zN_mul, zN_sub, zN_ltT, zN_ltF, zN_leT, zN_leF, zN_eqT, zN_eqF, zN_lt, zN_le, zN_eq, zN_nat, zN_oobF, Option.bind_some, ↓reduceIte, Nat.one_mul, Nat.zero_add, Nat.add_zero, Nat.reduceAdd, Nat.reduceMul, Nat.reduceSub, Nat.reduceLT, Nat.reduceLeDiff, Nat.reduceEqDiff, reduceCtorEq, true_or, or_true, false_or, or_false, true_and, and_true, false_and, and_false, not_true_eq_false, not_false_eq_true, wr_2, wrL_1, zm_eqF, zm_eqF', zm_lt, zm_lt', zm_le, zm_le', zm_sub1, zN_01, Nat.mul_zero, Nat.zero_mul, Nat.mul_one, Nat.sub_zero, Nat.sub_self, Nat.add_sub_cancel, z0, z1, l, al]
        · have m := hM 255 (by omega)
          have m0 := hM 0 (by omega)
          have m1 := hM 1 (by omega)
          have m2 := hM 2 (by omega)
          have m3 := hM 3 (by omega)
          have m4 := hM 4 (by omega)
          have m5 := hM 255 (by omega)
          have t := in7T (a := 2) (lo := 0) (hi := 2) (by omega) M
          have t2 := in7T (a := v) (lo := 1) (hi := 4) (by omega) M
          have c := cp M
          rw [if_pos (by omega)] at c
          unfold fX7_refusesSet fX7_refusesSet_29 fX7_refusesSet_49 fX7_settingAt fX7_refusesSet_87 fX7_refusesSet_102 fX7_refusesSet_119; simp (disch := omega) only [wr_cj, wr_nj, rng_in, rng_out, zN_lit, zN_add, zN_mul, zN_sub, zN_ltT, zN_ltF, zN_leT, zN_leF, zN_eqT, zN_eqF, zN_lt, zN_le, zN_eq, zN_nat, zN_oobF, Option.bind_some, ↓reduceIte, Nat.one_mul, Nat.zero_add, Nat.add_zero, Nat.reduceAdd, Nat.reduceMul, Nat.reduceSub, Nat.reduceLT, Nat.reduceLeDiff, Nat.reduceEqDiff, reduceCtorEq, true_or, or_true, false_or, or_false, true_and, and_true, false_and, and_false, not_true_eq_false, not_false_eq_true, wr_2, wrL_1, zm_eqF, zm_eqF', zm_lt, zm_lt', zm_le, zm_le', zm_sub1, zN_01, Nat.mul_zero, Nat.zero_mul, Nat.mul_one, Nat.sub_zero, Nat.sub_self, Nat.add_sub_cancel, t, t2, m, m0, m1, m2, m3, m4, m5, c]
      · have k' := k
        unfold pOK at k'
        simp (disch := omega) only [up_ne, up_eq] at k'
        left
        refine ⟨-zN 3, zm_neg (by omega), fun M hL => ⟨wr (wr M 0 2 (zN v)) 0 2 (zN (P 255)), ?_, ?_, fr_wr (fr_wr (fr_refl _ _) (by unfold CW; omega)) (by unfold CW; omega)⟩, fun M hM => ?_⟩
        · have l := hL.1.2.2.1
          have lu : Leaf (wr M 0 2 (zN v)) 0 (up P 255 v) := Leaf_up255 (fun t ht => (hP.2.1 t ht).1) hP.2.2.1.1 hL
          have al := (allowsIts hb (by omega) lu).2 k
          unfold fX6_setMeasure fX0_measure fX0_setMeasure; simp (disch := omega) only [wr_cj, wr_nj, rng_in, rng_out, zN_lit, zN_add, zN_mul, zN_sub, zN_ltT, zN_ltF, zN_leT, zN_leF, zN_eqT, zN_eqF, zN_lt, zN_le, zN_eq, zN_nat, zN_oobF, Option.bind_some, ↓reduceIte, Nat.one_mul, Nat.zero_add, Nat.add_zero, Nat.reduceAdd, Nat.reduceMul, Nat.reduceSub, Nat.reduceLT, Nat.reduceLeDiff, Nat.reduceEqDiff, reduceCtorEq, true_or, or_true, false_or, or_false, true_and, and_true, false_and, and_false, not_true_eq_false, not_false_eq_true, wr_2, wrL_1, zm_eqF, zm_eqF', zm_lt, zm_lt', zm_le, zm_le', zm_sub1, zN_01, Nat.mul_zero, Nat.zero_mul, Nat.mul_one, Nat.sub_zero, Nat.sub_self, Nat.add_sub_cancel, z0, z1, l, al]
        · have l := hL.1.2.2.1
          refine Leaf_eq hL (fun c j _ _ => ?_)
          by_cases q : c = 0 ∧ j = 2
          · rw [q.1, q.2, wr_cj, l]
          · rw [wr_nj (by omega), wr_nj (by omega)]
        · have m := hM 255 (by omega)
          have m0 := hM 0 (by omega)
          have m1 := hM 1 (by omega)
          have m2 := hM 2 (by omega)
          have m3 := hM 3 (by omega)
          have m4 := hM 4 (by omega)
          have m5 := hM 255 (by omega)
          have t := in7T (a := 2) (lo := 0) (hi := 2) (by omega) M
          have t2 := in7T (a := v) (lo := 1) (hi := 4) (by omega) M
          have c := cp M
          rw [if_neg (by omega)] at c
          unfold fX7_refusesSet fX7_refusesSet_29 fX7_refusesSet_49 fX7_settingAt fX7_refusesSet_87 fX7_refusesSet_102 fX7_refusesSet_119; simp (disch := omega) only [wr_cj, wr_nj, rng_in, rng_out, zN_lit, zN_add, zN_mul, zN_sub, zN_ltT, zN_ltF, zN_leT, zN_leF, zN_eqT, zN_eqF, zN_lt, zN_le, zN_eq, zN_nat, zN_oobF, Option.bind_some, ↓reduceIte, Nat.one_mul, Nat.zero_add, Nat.add_zero, Nat.reduceAdd, Nat.reduceMul, Nat.reduceSub, Nat.reduceLT, Nat.reduceLeDiff, Nat.reduceEqDiff, reduceCtorEq, true_or, or_true, false_or, or_false, true_and, and_true, false_and, and_false, not_true_eq_false, not_false_eq_true, wr_2, wrL_1, zm_eqF, zm_eqF', zm_lt, zm_lt', zm_le, zm_le', zm_sub1, zN_01, Nat.mul_zero, Nat.zero_mul, Nat.mul_one, Nat.sub_zero, Nat.sub_self, Nat.add_sub_cancel, t, t2, m, m0, m1, m2, m3, m4, m5, c]
  · left
    refine ⟨-zN 1, zm_neg (by omega), fun M hL => ⟨M, ?_, hL, fr_refl _ _⟩, fun M hM => ?_⟩
    · unfold fX6_setMeasure; simp (disch := omega) only [wr_cj, wr_nj, rng_in, rng_out, zN_lit, zN_add, zN_mul, zN_sub, zN_ltT, zN_ltF, zN_leT, zN_leF, zN_eqT, zN_eqF, zN_lt, zN_le, zN_eq, zN_nat, zN_oobF, Option.bind_some, ↓reduceIte, Nat.one_mul, Nat.zero_add, Nat.add_zero, Nat.reduceAdd, Nat.reduceMul, Nat.reduceSub, Nat.reduceLT, Nat.reduceLeDiff, Nat.reduceEqDiff, reduceCtorEq, true_or, or_true, false_or, or_false, true_and, and_true, false_and, and_false, not_true_eq_false, not_false_eq_true, wr_2, wrL_1, zm_eqF, zm_eqF', zm_lt, zm_lt', zm_le, zm_le', zm_sub1, zN_01, Nat.mul_zero, Nat.zero_mul, Nat.mul_one, Nat.sub_zero, Nat.sub_self, Nat.add_sub_cancel, z0, z1, zg_lt hy]
    · have t := in7T (a := 2) (lo := 0) (hi := 2) (by omega) M
      have t2 := in7g hy (lo := 1) (by omega) (zN 4) M
      unfold fX7_refusesSet fX7_refusesSet_29 fX7_refusesSet_49; simp (disch := omega) only [wr_cj, wr_nj, rng_in, rng_out, zN_lit, zN_add, zN_mul, zN_sub, zN_ltT, zN_ltF, zN_leT, zN_leF, zN_eqT, zN_eqF, zN_lt, zN_le, zN_eq, zN_nat, zN_oobF, Option.bind_some, ↓reduceIte, Nat.one_mul, Nat.zero_add, Nat.add_zero, Nat.reduceAdd, Nat.reduceMul, Nat.reduceSub, Nat.reduceLT, Nat.reduceLeDiff, Nat.reduceEqDiff, reduceCtorEq, true_or, or_true, false_or, or_false, true_and, and_true, false_and, and_false, not_true_eq_false, not_false_eq_true, wr_2, wrL_1, zm_eqF, zm_eqF', zm_lt, zm_lt', zm_le, zm_le', zm_sub1, zN_01, Nat.mul_zero, Nat.zero_mul, Nat.mul_one, Nat.sub_zero, Nat.sub_self, Nat.add_sub_cancel, t, t2]
  · left
    refine ⟨-zN 1, zm_neg (by omega), fun M hL => ⟨M, ?_, hL, fr_refl _ _⟩, fun M hM => ?_⟩
    · unfold fX6_setMeasure
      by_cases q : v < 1
      · simp (disch := omega) only [wr_cj, wr_nj, rng_in, rng_out, zN_lit, zN_add, zN_mul, zN_sub, zN_ltT, zN_ltF, zN_leT, zN_leF, zN_eqT, zN_eqF, zN_lt, zN_le, zN_eq, zN_nat, zN_oobF, Option.bind_some, ↓reduceIte, Nat.one_mul, Nat.zero_add, Nat.add_zero, Nat.reduceAdd, Nat.reduceMul, Nat.reduceSub, Nat.reduceLT, Nat.reduceLeDiff, Nat.reduceEqDiff, reduceCtorEq, true_or, or_true, false_or, or_false, true_and, and_true, false_and, and_false, not_true_eq_false, not_false_eq_true, wr_2, wrL_1, zm_eqF, zm_eqF', zm_lt, zm_lt', zm_le, zm_le', zm_sub1, zN_01, Nat.mul_zero, Nat.zero_mul, Nat.mul_one, Nat.sub_zero, Nat.sub_self, Nat.add_sub_cancel, z0, z1]
      · simp (disch := omega) only [wr_cj, wr_nj, rng_in, rng_out, zN_lit, zN_add, zN_mul, zN_sub, zN_ltT, zN_ltF, zN_leT, zN_leF, zN_eqT, zN_eqF, zN_lt, zN_le, zN_eq, zN_nat, zN_oobF, Option.bind_some, ↓reduceIte, Nat.one_mul, Nat.zero_add, Nat.add_zero, Nat.reduceAdd, Nat.reduceMul, Nat.reduceSub, Nat.reduceLT, Nat.reduceLeDiff, Nat.reduceEqDiff, reduceCtorEq, true_or, or_true, false_or, or_false, true_and, and_true, false_and, and_false, not_true_eq_false, not_false_eq_true, wr_2, wrL_1, zm_eqF, zm_eqF', zm_lt, zm_lt', zm_le, zm_le', zm_sub1, zN_01, Nat.mul_zero, Nat.zero_mul, Nat.mul_one, Nat.sub_zero, Nat.sub_self, Nat.add_sub_cancel, z0, z1]
    · have t := in7T (a := 2) (lo := 0) (hi := 2) (by omega) M
      have t2 := in7F (a := v) (lo := 1) (hi := 4) (by omega) M
      unfold fX7_refusesSet fX7_refusesSet_29 fX7_refusesSet_49; simp (disch := omega) only [wr_cj, wr_nj, rng_in, rng_out, zN_lit, zN_add, zN_mul, zN_sub, zN_ltT, zN_ltF, zN_leT, zN_leF, zN_eqT, zN_eqF, zN_lt, zN_le, zN_eq, zN_nat, zN_oobF, Option.bind_some, ↓reduceIte, Nat.one_mul, Nat.zero_add, Nat.add_zero, Nat.reduceAdd, Nat.reduceMul, Nat.reduceSub, Nat.reduceLT, Nat.reduceLeDiff, Nat.reduceEqDiff, reduceCtorEq, true_or, or_true, false_or, or_false, true_and, and_true, false_and, and_false, not_true_eq_false, not_false_eq_true, wr_2, wrL_1, zm_eqF, zm_eqF', zm_lt, zm_lt', zm_le, zm_le', zm_sub1, zN_01, Nat.mul_zero, Nat.zero_mul, Nat.mul_one, Nat.sub_zero, Nat.sub_self, Nat.add_sub_cancel, t, t2]
theorem setM_no {P : Nat → Nat} (x y : Int32) : (∃ w, w ≤ 2 ∧ x = zN w) ∨ (LD (fX6_setMeasure x y) P (-zN 1) P ∧ ∀ M, MNow M P → fX7_refusesSet x y M = some (-zN 1, M)) := by
  rcases zcaseR x 0 2 with ⟨w, -, hw, e⟩ | hx | ⟨w, hwl, rfl, hwn⟩
  · exact Or.inl ⟨w, hw, e⟩
  · right
    refine ⟨fun M hL => ⟨M, ?_, hL, fr_refl _ _⟩, fun M hM => ?_⟩
    · unfold fX6_setMeasure; simp (disch := omega) only [wr_cj, wr_nj, rng_in, rng_out, zN_lit, zN_add, zN_mul, zN_sub, zN_ltT, zN_ltF, zN_leT, zN_leF, zN_eqT, zN_eqF, zN_lt, zN_le, zN_eq, zN_nat, zN_oobF, Option.bind_some, ↓reduceIte, Nat.one_mul, Nat.zero_add, Nat.add_zero, Nat.reduceAdd, Nat.reduceMul, Nat.reduceSub, Nat.reduceLT, Nat.reduceLeDiff, Nat.reduceEqDiff, reduceCtorEq, true_or, or_true, false_or, or_false, true_and, and_true, false_and, and_false, not_true_eq_false, not_false_eq_true, wr_2, wrL_1, zm_eqF, zm_eqF', zm_lt, zm_lt', zm_le, zm_le', zm_sub1, zN_01, Nat.mul_zero, Nat.zero_mul, Nat.mul_one, Nat.sub_zero, Nat.sub_self, Nat.add_sub_cancel, zg_lt hx]
    · have t := in7g hx (lo := 0) (by omega) (zN 2) M
      unfold fX7_refusesSet; simp (disch := omega) only [wr_cj, wr_nj, rng_in, rng_out, zN_lit, zN_add, zN_mul, zN_sub, zN_ltT, zN_ltF, zN_leT, zN_leF, zN_eqT, zN_eqF, zN_lt, zN_le, zN_eq, zN_nat, zN_oobF, Option.bind_some, ↓reduceIte, Nat.one_mul, Nat.zero_add, Nat.add_zero, Nat.reduceAdd, Nat.reduceMul, Nat.reduceSub, Nat.reduceLT, Nat.reduceLeDiff, Nat.reduceEqDiff, reduceCtorEq, true_or, or_true, false_or, or_false, true_and, and_true, false_and, and_false, not_true_eq_false, not_false_eq_true, wr_2, wrL_1, zm_eqF, zm_eqF', zm_lt, zm_lt', zm_le, zm_le', zm_sub1, zN_01, Nat.mul_zero, Nat.zero_mul, Nat.mul_one, Nat.sub_zero, Nat.sub_self, Nat.add_sub_cancel, t]
  · right
    refine ⟨fun M hL => ⟨M, ?_, hL, fr_refl _ _⟩, fun M hM => ?_⟩
    · unfold fX6_setMeasure; simp (disch := omega) only [wr_cj, wr_nj, rng_in, rng_out, zN_lit, zN_add, zN_mul, zN_sub, zN_ltT, zN_ltF, zN_leT, zN_leF, zN_eqT, zN_eqF, zN_lt, zN_le, zN_eq, zN_nat, zN_oobF, Option.bind_some, ↓reduceIte, Nat.one_mul, Nat.zero_add, Nat.add_zero, Nat.reduceAdd, Nat.reduceMul, Nat.reduceSub, Nat.reduceLT, Nat.reduceLeDiff, Nat.reduceEqDiff, reduceCtorEq, true_or, or_true, false_or, or_false, true_and, and_true, false_and, and_false, not_true_eq_false, not_false_eq_true, wr_2, wrL_1, zm_eqF, zm_eqF', zm_lt, zm_lt', zm_le, zm_le', zm_sub1, zN_01, Nat.mul_zero, Nat.zero_mul, Nat.mul_one, Nat.sub_zero, Nat.sub_self, Nat.add_sub_cancel]
    · have t := in7F (a := w) (lo := 0) (hi := 2) (by omega) M
      unfold fX7_refusesSet; simp (disch := omega) only [wr_cj, wr_nj, rng_in, rng_out, zN_lit, zN_add, zN_mul, zN_sub, zN_ltT, zN_ltF, zN_leT, zN_leF, zN_eqT, zN_eqF, zN_lt, zN_le, zN_eq, zN_nat, zN_oobF, Option.bind_some, ↓reduceIte, Nat.one_mul, Nat.zero_add, Nat.add_zero, Nat.reduceAdd, Nat.reduceMul, Nat.reduceSub, Nat.reduceLT, Nat.reduceLeDiff, Nat.reduceEqDiff, reduceCtorEq, true_or, or_true, false_or, or_false, true_and, and_true, false_and, and_false, not_true_eq_false, not_false_eq_true, wr_2, wrL_1, zm_eqF, zm_eqF', zm_lt, zm_lt', zm_le, zm_le', zm_sub1, zN_01, Nat.mul_zero, Nat.zero_mul, Nat.mul_one, Nat.sub_zero, Nat.sub_self, Nat.add_sub_cancel, t]
def seti (w : Nat) : Nat := if w = 2 then 255 else w
/-- a measure set, or refused, by both -/
theorem setM_both {P : Nat → Nat} (hP : Good P) (x y : Int32) : (∃ r, r < 0 ∧ LD (fX6_setMeasure x y) P r P ∧ ∀ M, MNow M P → fX7_refusesSet x y M = some (r, M)) ∨ (∃ w v, w ≤ 2 ∧ x = zN w ∧ y = zN v ∧ Good (up P (seti w) v) ∧ LD (fX6_setMeasure x y) P (zN (P (seti w))) (up P (seti w) v) ∧ (∀ M, MNow M P → fX7_refusesSet x y M = some (zN 0, M))) := by
  rcases setM_no (P := P) x y with ⟨w, hw, rfl⟩ | h
  · have e : w = 0 ∨ w = 1 ∨ w = 2 := by omega
    rcases e with rfl | rfl | rfl
    · rcases setM_0 hP y with h | ⟨v, a, b, c, d⟩
      · exact Or.inl h
      · exact Or.inr ⟨0, v, by omega, rfl, a, b, c, d⟩
    · rcases setM_1 hP y with h | ⟨v, a, b, c, d⟩
      · exact Or.inl h
      · exact Or.inr ⟨1, v, by omega, rfl, a, b, c, d⟩
    · rcases setM_2 hP y with h | ⟨v, a, b, c, d⟩
      · exact Or.inl h
      · exact Or.inr ⟨2, v, by omega, rfl, a, b, c, d⟩
  · exact Or.inl ⟨_, zm_neg (by omega), h⟩
theorem settingAt7 {w : Nat} (hw : w ≤ 2) (M : zMM) : fX7_settingAt (zN w) M = some (zN (seti w), M) := by
  have e : w = 0 ∨ w = 1 ∨ w = 2 := by omega
  unfold fX7_settingAt seti
  rcases e with rfl | rfl | rfl <;> simp (disch := omega) only [wr_cj, wr_nj, rng_in, rng_out, zN_lit, zN_add, zN_mul, zN_sub, zN_ltT, zN_ltF, zN_leT, zN_leF, zN_eqT, zN_eqF, zN_lt, zN_le, zN_eq, zN_nat, zN_oobF, Option.bind_some, ↓reduceIte, Nat.one_mul, Nat.zero_add, Nat.add_zero, Nat.reduceAdd, Nat.reduceMul, Nat.reduceSub, Nat.reduceLT, Nat.reduceLeDiff, Nat.reduceEqDiff, reduceCtorEq, true_or, or_true, false_or, or_false, true_and, and_true, false_and, and_false, not_true_eq_false, not_false_eq_true, wr_2, wrL_1, zm_eqF, zm_eqF', zm_lt, zm_lt', zm_le, zm_le', zm_sub1, zN_01, Nat.mul_zero, Nat.zero_mul, Nat.mul_one, Nat.sub_zero, Nat.sub_self, Nat.add_sub_cancel]
theorem zneg_le {r : Int32} (h : r < 0) : ¬ zN 0 ≤ r := by
  rw [zI_of r] at h ⊢
  have hr := zR_toInt r
  rw [show (0 : Int32) = zI 0 from rfl, zI_lt hr ⟨by decide, by decide⟩] at h
  rw [show zN 0 = zI 0 from rfl, zI_le ⟨by decide, by decide⟩ hr]
  omega
theorem call_sets (x y : Int32) : Cll (fX6_sets x y) (fX7_sets x y) := by
  refine Cll_of (fun P T R U K hw => ?_)
  have hl := hw.2.2.2.1.1
  rcases setM_both hw.1 x y with ⟨r, hr, l, m⟩ | ⟨w, v, hwl, rfl, rfl, hg, l, m⟩
  · refine ⟨r, P, T, R, U, K, hw, fun M hM => ?_, MD_no (fun M hM => ?_)⟩
    · exact (LD_CD hw l).1 hr rfl M hM
    · have e := m (wr M 158 5 (zN 0)) (MI_th hM).1
      unfold fX7_sets; simp (disch := omega) only [wr_cj, wr_nj, rng_in, rng_out, zN_lit, zN_add, zN_mul, zN_sub, zN_ltT, zN_ltF, zN_leT, zN_leF, zN_eqT, zN_eqF, zN_lt, zN_le, zN_eq, zN_nat, zN_oobF, Option.bind_some, ↓reduceIte, Nat.one_mul, Nat.zero_add, Nat.add_zero, Nat.reduceAdd, Nat.reduceMul, Nat.reduceSub, Nat.reduceLT, Nat.reduceLeDiff, Nat.reduceEqDiff, reduceCtorEq, true_or, or_true, false_or, or_false, true_and, and_true, false_and, and_false, not_true_eq_false, not_false_eq_true, wr_2, wrL_1, zm_eqF, zm_eqF', zm_lt, zm_lt', zm_le, zm_le', zm_sub1, zN_01, Nat.mul_zero, Nat.zero_mul, Nat.mul_one, Nat.sub_zero, Nat.sub_self, Nat.add_sub_cancel, e]
      rw [if_neg (zneg_le hr)]
  · have hb : P (seti w) < 1000 := by
      have hp := hw.1.1
      have e : w = 0 ∨ w = 1 ∨ w = 2 := by omega
      unfold seti
      rcases e with rfl | rfl | rfl <;> simp only [Nat.reduceEqDiff, if_true, if_false] <;> omega
    have hs : seti w < 259 := by unfold seti; split <;> omega
    refine ⟨zN (P (seti w)), up P (seti w) v, T, R, _, K, WF_chg hw hg, fun M hM => (LD_CD hw l).2 (zN_nn (by omega)) M hM, fun M hM => ?_⟩
    have h0 := MI_th (v := zN 0) hM
    have e := m (wr M 158 5 (zN 0)) h0.1
    obtain ⟨M1, e1, h1, f1⟩ := chg7 hl h0
    have m1 := h1.1 (seti w) hs
    refine ⟨wr M1 159 (seti w) (zN v), ?_, MI_now h1 (fr_wr (fr_refl _ _) (by omega)) (MNow_up h1.1), ?_⟩
    · have s := settingAt7 hwl M1
      unfold fX7_sets; simp (disch := omega) only [wr_cj, wr_nj, rng_in, rng_out, zN_lit, zN_add, zN_mul, zN_sub, zN_ltT, zN_ltF, zN_leT, zN_leF, zN_eqT, zN_eqF, zN_lt, zN_le, zN_eq, zN_nat, zN_oobF, Option.bind_some, ↓reduceIte, Nat.one_mul, Nat.zero_add, Nat.add_zero, Nat.reduceAdd, Nat.reduceMul, Nat.reduceSub, Nat.reduceLT, Nat.reduceLeDiff, Nat.reduceEqDiff, reduceCtorEq, true_or, or_true, false_or, or_false, true_and, and_true, false_and, and_false, not_true_eq_false, not_false_eq_true, wr_2, wrL_1, zm_eqF, zm_eqF', zm_lt, zm_lt', zm_le, zm_le', zm_sub1, zN_01, Nat.mul_zero, Nat.zero_mul, Nat.mul_one, Nat.sub_zero, Nat.sub_self, Nat.add_sub_cancel, e, e1, s, m1]
    · exact frM_trans (frM_th M _) (frM_trans (frM_fr f1 (fun c j a => by omega)) (frM_fr (fr_wr (S := fun c _ => c = 159) (fr_refl _ _) rfl) (fun c j a => by omega)))
theorem call_weighs (x y : Int32) : Cll (fX6_weighs x y) (fX7_weighs x y) := by
  refine Cll_of (fun P T R U K hw => ?_)
  have hl := hw.2.2.2.1.1
  have hp := hw.1.2.2.2
  rcases zcaseR x 0 2 with ⟨w, -, hwl, rfl⟩ | hx | ⟨w, hwl, rfl, hwn⟩
  · obtain ⟨mx, z2, hmx, hsel⟩ : ∃ mx, zst 2 w = zN mx ∧ (mx ≤ 10000 ∧ (w = 2 → mx = 100)) ∧ (∀ M y, fX7_weighs (zN w) y M = fX7_weighs_29 (zN w) y (zN mx) (zN 0) y (wr M 158 5 (zN 0))) := by
      have t := fun M => in7T (a := w) (lo := 0) (hi := 2) (by omega) (wr M 158 5 (zN 0))
      have e : w = 0 ∨ w = 1 ∨ w = 2 := by omega
      rcases e with rfl | rfl | rfl
      · exact ⟨10000, by decide, by omega, fun M y => by unfold fX7_weighs; simp (disch := omega) only [wr_cj, wr_nj, rng_in, rng_out, zN_lit, zN_add, zN_mul, zN_sub, zN_ltT, zN_ltF, zN_leT, zN_leF, zN_eqT, zN_eqF, zN_lt, zN_le, zN_eq, zN_nat, zN_oobF, Option.bind_some, ↓reduceIte, Nat.one_mul, Nat.zero_add, Nat.add_zero, Nat.reduceAdd, Nat.reduceMul, Nat.reduceSub, Nat.reduceLT, Nat.reduceLeDiff, Nat.reduceEqDiff, reduceCtorEq, true_or, or_true, false_or, or_false, true_and, and_true, false_and, and_false, not_true_eq_false, not_false_eq_true, wr_2, wrL_1, zm_eqF, zm_eqF', zm_lt, zm_lt', zm_le, zm_le', zm_sub1, zN_01, Nat.mul_zero, Nat.zero_mul, Nat.mul_one, Nat.sub_zero, Nat.sub_self, Nat.add_sub_cancel, t M]⟩
      · exact ⟨10000, by decide, by omega, fun M y => by unfold fX7_weighs; simp (disch := omega) only [wr_cj, wr_nj, rng_in, rng_out, zN_lit, zN_add, zN_mul, zN_sub, zN_ltT, zN_ltF, zN_leT, zN_leF, zN_eqT, zN_eqF, zN_lt, zN_le, zN_eq, zN_nat, zN_oobF, Option.bind_some, ↓reduceIte, Nat.one_mul, Nat.zero_add, Nat.add_zero, Nat.reduceAdd, Nat.reduceMul, Nat.reduceSub, Nat.reduceLT, Nat.reduceLeDiff, Nat.reduceEqDiff, reduceCtorEq, true_or, or_true, false_or, or_false, true_and, and_true, false_and, and_false, not_true_eq_false, not_false_eq_true, wr_2, wrL_1, zm_eqF, zm_eqF', zm_lt, zm_lt', zm_le, zm_le', zm_sub1, zN_01, Nat.mul_zero, Nat.zero_mul, Nat.mul_one, Nat.sub_zero, Nat.sub_self, Nat.add_sub_cancel, t M]⟩
      · exact ⟨100, by decide, by omega, fun M y => by unfold fX7_weighs; simp (disch := omega) only [wr_cj, wr_nj, rng_in, rng_out, zN_lit, zN_add, zN_mul, zN_sub, zN_ltT, zN_ltF, zN_leT, zN_leF, zN_eqT, zN_eqF, zN_lt, zN_le, zN_eq, zN_nat, zN_oobF, Option.bind_some, ↓reduceIte, Nat.one_mul, Nat.zero_add, Nat.add_zero, Nat.reduceAdd, Nat.reduceMul, Nat.reduceSub, Nat.reduceLT, Nat.reduceLeDiff, Nat.reduceEqDiff, reduceCtorEq, true_or, or_true, false_or, or_false, true_and, and_true, false_and, and_false, not_true_eq_false, not_false_eq_true, wr_2, wrL_1, zm_eqF, zm_eqF', zm_lt, zm_lt', zm_le, zm_le', zm_sub1, zN_01, Nat.mul_zero, Nat.zero_mul, Nat.mul_one, Nat.sub_zero, Nat.sub_self, Nat.add_sub_cancel, t M]⟩
    have hpw : P (256 + w) ≤ 10000 := by
      have e : w = 0 ∨ w = 1 ∨ w = 2 := by omega
      rcases e with rfl | rfl | rfl <;> simp only [Nat.reduceAdd] <;> omega
    rcases zcaseR y 0 mx with ⟨v, -, v2, rfl⟩ | hy | ⟨v, hv, rfl, hn⟩
    · by_cases e : P (256 + w) = v
      · refine ⟨-zN 2, P, T, R, U, K, hw, CD_no (fun M hM => ?_), MD_no (fun M hM => ?_)⟩
        · have l := hM.1.2.1 w (by omega)
          rw [e, Nat.zero_add] at l
          unfold fX6_weighs; simp (disch := omega) only [wr_cj, wr_nj, rng_in, rng_out, zN_lit, zN_add, zN_mul, zN_sub, zN_ltT, zN_ltF, zN_leT, zN_leF, zN_eqT, zN_eqF, zN_lt, zN_le, zN_eq, zN_nat, zN_oobF, Option.bind_some, ↓reduceIte, Nat.one_mul, Nat.zero_add, Nat.add_zero, Nat.reduceAdd, Nat.reduceMul, Nat.reduceSub, Nat.reduceLT, Nat.reduceLeDiff, Nat.reduceEqDiff, reduceCtorEq, true_or, or_true, false_or, or_false, true_and, and_true, false_and, and_false, not_true_eq_false, not_false_eq_true, wr_2, wrL_1, zm_eqF, zm_eqF', zm_lt, zm_lt', zm_le, zm_le', zm_sub1, zN_01, Nat.mul_zero, Nat.zero_mul, Nat.mul_one, Nat.sub_zero, Nat.sub_self, Nat.add_sub_cancel, z2, l]
        · have m := hM.1 (256 + w) (by omega)
          rw [e] at m
          have t := in7T (a := v) (lo := 0) (hi := mx) (by omega) (wr M 158 5 (zN 0))
          rw [hsel]
          unfold fX7_weighs_29; simp (disch := omega) only [wr_cj, wr_nj, rng_in, rng_out, zN_lit, zN_add, zN_mul, zN_sub, zN_ltT, zN_ltF, zN_leT, zN_leF, zN_eqT, zN_eqF, zN_lt, zN_le, zN_eq, zN_nat, zN_oobF, Option.bind_some, ↓reduceIte, Nat.one_mul, Nat.zero_add, Nat.add_zero, Nat.reduceAdd, Nat.reduceMul, Nat.reduceSub, Nat.reduceLT, Nat.reduceLeDiff, Nat.reduceEqDiff, reduceCtorEq, true_or, or_true, false_or, or_false, true_and, and_true, false_and, and_false, not_true_eq_false, not_false_eq_true, wr_2, wrL_1, zm_eqF, zm_eqF', zm_lt, zm_lt', zm_le, zm_le', zm_sub1, zN_01, Nat.mul_zero, Nat.zero_mul, Nat.mul_one, Nat.sub_zero, Nat.sub_self, Nat.add_sub_cancel, t, m]
      · have ld : LD (fun M => some (zN (P (256 + w)), wr M 1 w (zN v))) P (zN (P (256 + w))) (up P (256 + w) v) := by
          intro M hL
          have := Leaf_upW (b := 0) (v := v) (w := w) (by omega) (fun t ht => (hw.1.2.1 t ht).1) hw.1.2.2.1.1 hL
          exact ⟨_, rfl, this, fr_wr (fr_refl _ _) (by unfold CW; omega)⟩
        refine ⟨zN (P (256 + w)), up P (256 + w) v, T, R, _, K, WF_chg hw (Good_upW hw.1 (by omega) (by omega)), fun M hM => ?_, fun M hM => ?_⟩
        · obtain ⟨M', e', c', f'⟩ := (LD_CD hw ld).2 (zN_nn (by omega)) M hM
          refine ⟨M', ?_, c', f'⟩
          have l := hM.1.2.1 w (by omega)
          rw [Nat.zero_add] at l
          simp only [Option.bind_some] at e'
          unfold fX6_weighs; simp (disch := omega) only [wr_cj, wr_nj, rng_in, rng_out, zN_lit, zN_add, zN_mul, zN_sub, zN_ltT, zN_ltF, zN_leT, zN_leF, zN_eqT, zN_eqF, zN_lt, zN_le, zN_eq, zN_nat, zN_oobF, Option.bind_some, ↓reduceIte, Nat.one_mul, Nat.zero_add, Nat.add_zero, Nat.reduceAdd, Nat.reduceMul, Nat.reduceSub, Nat.reduceLT, Nat.reduceLeDiff, Nat.reduceEqDiff, reduceCtorEq, true_or, or_true, false_or, or_false, true_and, and_true, false_and, and_false, not_true_eq_false, not_false_eq_true, wr_2, wrL_1, zm_eqF, zm_eqF', zm_lt, zm_lt', zm_le, zm_le', zm_sub1, zN_01, Nat.mul_zero, Nat.zero_mul, Nat.mul_one, Nat.sub_zero, Nat.sub_self, Nat.add_sub_cancel, z2, l]
          exact e'
        · have h0 := MI_th (v := zN 0) hM
          obtain ⟨M1, e1, h1, f1⟩ := chg7 hl h0
          have m := hM.1 (256 + w) (by omega)
          have m1 := h1.1 (256 + w) (by omega)
          have t := in7T (a := v) (lo := 0) (hi := mx) (by omega) (wr M 158 5 (zN 0))
          refine ⟨wr M1 159 (256 + w) (zN v), ?_, MI_now h1 (fr_wr (fr_refl _ _) (by omega)) (MNow_up h1.1), ?_⟩
          · rw [hsel]
            unfold fX7_weighs_29; simp (disch := omega) only [wr_cj, wr_nj, rng_in, rng_out, zN_lit, zN_add, zN_mul, zN_sub, zN_ltT, zN_ltF, zN_leT, zN_leF, zN_eqT, zN_eqF, zN_lt, zN_le, zN_eq, zN_nat, zN_oobF, Option.bind_some, ↓reduceIte, Nat.one_mul, Nat.zero_add, Nat.add_zero, Nat.reduceAdd, Nat.reduceMul, Nat.reduceSub, Nat.reduceLT, Nat.reduceLeDiff, Nat.reduceEqDiff, reduceCtorEq, true_or, or_true, false_or, or_false, true_and, and_true, false_and, and_false, not_true_eq_false, not_false_eq_true, wr_2, wrL_1, zm_eqF, zm_eqF', zm_lt, zm_lt', zm_le, zm_le', zm_sub1, zN_01, Nat.mul_zero, Nat.zero_mul, Nat.mul_one, Nat.sub_zero, Nat.sub_self, Nat.add_sub_cancel, t, m, e1, m1]
          · exact frM_trans (frM_th M _) (frM_trans (frM_fr f1 (fun c j a => by omega)) (frM_fr (fr_wr (S := fun c _ => c = 159) (fr_refl _ _) rfl) (fun c j a => by omega)))
    · refine ⟨-zN 1, P, T, R, U, K, hw, CD_no (fun M hM => ?_), MD_no (fun M hM => ?_)⟩
      · unfold fX6_weighs; simp (disch := omega) only [wr_cj, wr_nj, rng_in, rng_out, zN_lit, zN_add, zN_mul, zN_sub, zN_ltT, zN_ltF, zN_leT, zN_leF, zN_eqT, zN_eqF, zN_lt, zN_le, zN_eq, zN_nat, zN_oobF, Option.bind_some, ↓reduceIte, Nat.one_mul, Nat.zero_add, Nat.add_zero, Nat.reduceAdd, Nat.reduceMul, Nat.reduceSub, Nat.reduceLT, Nat.reduceLeDiff, Nat.reduceEqDiff, reduceCtorEq, true_or, or_true, false_or, or_false, true_and, and_true, false_and, and_false, not_true_eq_false, not_false_eq_true, wr_2, wrL_1, zm_eqF, zm_eqF', zm_lt, zm_lt', zm_le, zm_le', zm_sub1, zN_01, Nat.mul_zero, Nat.zero_mul, Nat.mul_one, Nat.sub_zero, Nat.sub_self, Nat.add_sub_cancel, zg_lt hy]
      · have t := in7g hy (lo := 0) (by omega) (zN mx) (wr M 158 5 (zN 0))
        rw [hsel]
        unfold fX7_weighs_29; simp (disch := omega) only [wr_cj, wr_nj, rng_in, rng_out, zN_lit, zN_add, zN_mul, zN_sub, zN_ltT, zN_ltF, zN_leT, zN_leF, zN_eqT, zN_eqF, zN_lt, zN_le, zN_eq, zN_nat, zN_oobF, Option.bind_some, ↓reduceIte, Nat.one_mul, Nat.zero_add, Nat.add_zero, Nat.reduceAdd, Nat.reduceMul, Nat.reduceSub, Nat.reduceLT, Nat.reduceLeDiff, Nat.reduceEqDiff, reduceCtorEq, true_or, or_true, false_or, or_false, true_and, and_true, false_and, and_false, not_true_eq_false, not_false_eq_true, wr_2, wrL_1, zm_eqF, zm_eqF', zm_lt, zm_lt', zm_le, zm_le', zm_sub1, zN_01, Nat.mul_zero, Nat.zero_mul, Nat.mul_one, Nat.sub_zero, Nat.sub_self, Nat.add_sub_cancel, t]
    · refine ⟨-zN 1, P, T, R, U, K, hw, CD_no (fun M hM => ?_), MD_no (fun M hM => ?_)⟩
      · unfold fX6_weighs; simp (disch := omega) only [wr_cj, wr_nj, rng_in, rng_out, zN_lit, zN_add, zN_mul, zN_sub, zN_ltT, zN_ltF, zN_leT, zN_leF, zN_eqT, zN_eqF, zN_lt, zN_le, zN_eq, zN_nat, zN_oobF, Option.bind_some, ↓reduceIte, Nat.one_mul, Nat.zero_add, Nat.add_zero, Nat.reduceAdd, Nat.reduceMul, Nat.reduceSub, Nat.reduceLT, Nat.reduceLeDiff, Nat.reduceEqDiff, reduceCtorEq, true_or, or_true, false_or, or_false, true_and, and_true, false_and, and_false, not_true_eq_false, not_false_eq_true, wr_2, wrL_1, zm_eqF, zm_eqF', zm_lt, zm_lt', zm_le, zm_le', zm_sub1, zN_01, Nat.mul_zero, Nat.zero_mul, Nat.mul_one, Nat.sub_zero, Nat.sub_self, Nat.add_sub_cancel, z2]
      · have t := in7F (a := v) (lo := 0) (hi := mx) (by omega) (wr M 158 5 (zN 0))
        rw [hsel]
        unfold fX7_weighs_29; simp (disch := omega) only [wr_cj, wr_nj, rng_in, rng_out, zN_lit, zN_add, zN_mul, zN_sub, zN_ltT, zN_ltF, zN_leT, zN_leF, zN_eqT, zN_eqF, zN_lt, zN_le, zN_eq, zN_nat, zN_oobF, Option.bind_some, ↓reduceIte, Nat.one_mul, Nat.zero_add, Nat.add_zero, Nat.reduceAdd, Nat.reduceMul, Nat.reduceSub, Nat.reduceLT, Nat.reduceLeDiff, Nat.reduceEqDiff, reduceCtorEq, true_or, or_true, false_or, or_false, true_and, and_true, false_and, and_false, not_true_eq_false, not_false_eq_true, wr_2, wrL_1, zm_eqF, zm_eqF', zm_lt, zm_lt', zm_le, zm_le', zm_sub1, zN_01, Nat.mul_zero, Nat.zero_mul, Nat.mul_one, Nat.sub_zero, Nat.sub_self, Nat.add_sub_cancel, t]
  · refine ⟨-zN 1, P, T, R, U, K, hw, CD_no (fun M hM => ?_), MD_no (fun M hM => ?_)⟩
    · unfold fX6_weighs; simp (disch := omega) only [wr_cj, wr_nj, rng_in, rng_out, zN_lit, zN_add, zN_mul, zN_sub, zN_ltT, zN_ltF, zN_leT, zN_leF, zN_eqT, zN_eqF, zN_lt, zN_le, zN_eq, zN_nat, zN_oobF, Option.bind_some, ↓reduceIte, Nat.one_mul, Nat.zero_add, Nat.add_zero, Nat.reduceAdd, Nat.reduceMul, Nat.reduceSub, Nat.reduceLT, Nat.reduceLeDiff, Nat.reduceEqDiff, reduceCtorEq, true_or, or_true, false_or, or_false, true_and, and_true, false_and, and_false, not_true_eq_false, not_false_eq_true, wr_2, wrL_1, zm_eqF, zm_eqF', zm_lt, zm_lt', zm_le, zm_le', zm_sub1, zN_01, Nat.mul_zero, Nat.zero_mul, Nat.mul_one, Nat.sub_zero, Nat.sub_self, Nat.add_sub_cancel, zg_lt hx]
    · have t := in7g hx (lo := 0) (by omega) (zN 2) (wr M 158 5 (zN 0))
      unfold fX7_weighs; simp (disch := omega) only [wr_cj, wr_nj, rng_in, rng_out, zN_lit, zN_add, zN_mul, zN_sub, zN_ltT, zN_ltF, zN_leT, zN_leF, zN_eqT, zN_eqF, zN_lt, zN_le, zN_eq, zN_nat, zN_oobF, Option.bind_some, ↓reduceIte, Nat.one_mul, Nat.zero_add, Nat.add_zero, Nat.reduceAdd, Nat.reduceMul, Nat.reduceSub, Nat.reduceLT, Nat.reduceLeDiff, Nat.reduceEqDiff, reduceCtorEq, true_or, or_true, false_or, or_false, true_and, and_true, false_and, and_false, not_true_eq_false, not_false_eq_true, wr_2, wrL_1, zm_eqF, zm_eqF', zm_lt, zm_lt', zm_le, zm_le', zm_sub1, zN_01, Nat.mul_zero, Nat.zero_mul, Nat.mul_one, Nat.sub_zero, Nat.sub_self, Nat.add_sub_cancel, t]
  · refine ⟨-zN 1, P, T, R, U, K, hw, CD_no (fun M hM => ?_), MD_no (fun M hM => ?_)⟩
    · unfold fX6_weighs; simp (disch := omega) only [wr_cj, wr_nj, rng_in, rng_out, zN_lit, zN_add, zN_mul, zN_sub, zN_ltT, zN_ltF, zN_leT, zN_leF, zN_eqT, zN_eqF, zN_lt, zN_le, zN_eq, zN_nat, zN_oobF, Option.bind_some, ↓reduceIte, Nat.one_mul, Nat.zero_add, Nat.add_zero, Nat.reduceAdd, Nat.reduceMul, Nat.reduceSub, Nat.reduceLT, Nat.reduceLeDiff, Nat.reduceEqDiff, reduceCtorEq, true_or, or_true, false_or, or_false, true_and, and_true, false_and, and_false, not_true_eq_false, not_false_eq_true, wr_2, wrL_1, zm_eqF, zm_eqF', zm_lt, zm_lt', zm_le, zm_le', zm_sub1, zN_01, Nat.mul_zero, Nat.zero_mul, Nat.mul_one, Nat.sub_zero, Nat.sub_self, Nat.add_sub_cancel]
    · have t := in7F (a := w) (lo := 0) (hi := 2) (by omega) (wr M 158 5 (zN 0))
      unfold fX7_weighs; simp (disch := omega) only [wr_cj, wr_nj, rng_in, rng_out, zN_lit, zN_add, zN_mul, zN_sub, zN_ltT, zN_ltF, zN_leT, zN_leF, zN_eqT, zN_eqF, zN_lt, zN_le, zN_eq, zN_nat, zN_oobF, Option.bind_some, ↓reduceIte, Nat.one_mul, Nat.zero_add, Nat.add_zero, Nat.reduceAdd, Nat.reduceMul, Nat.reduceSub, Nat.reduceLT, Nat.reduceLeDiff, Nat.reduceEqDiff, reduceCtorEq, true_or, or_true, false_or, or_false, true_and, and_true, false_and, and_false, not_true_eq_false, not_false_eq_true, wr_2, wrL_1, zm_eqF, zm_eqF', zm_lt, zm_lt', zm_le, zm_le', zm_sub1, zN_01, Nat.mul_zero, Nat.zero_mul, Nat.mul_one, Nat.sub_zero, Nat.sub_self, Nat.add_sub_cancel, t]
/-- a plan set, or refused, by both -/
theorem plan_both {P : Nat → Nat} (hP : Good P) (x y z : Int32) : (∃ r, r < 0 ∧ LD (fX6_setPlan x y z) P r P ∧ ∀ M, MNow M P → fX7_refusesPlan x y z M = some (r, M)) ∨ (∃ c i o, pOK P c i o ∧ x = zN c ∧ y = zN i ∧ z = zN o ∧ LD (fX6_setPlan x y z) P (zN (10000 * P 2 + 100 * P 3 + P 4)) (plP P c i o) ∧ (∀ M, MNow M P → fX7_refusesPlan x y z M = some (zN 0, M))) := by
  have hp := hP.1
  rcases plan_case hP x y z with ⟨c, i, o, k, rfl, rfl, rfl⟩ | ⟨h1, h2⟩
  · have k' := k
    unfold pOK at k'
    by_cases e : P 2 = c ∧ P 3 = i ∧ P 4 = o
    · left
      refine ⟨-zN 2, zm_neg (by omega), fun M hL => ⟨M, ?_, hL, fr_refl _ _⟩, fun M hM => ?_⟩
      · have a := (allowsL (by omega) hL (c := c) (i := i) (o := o) (by omega) (by omega) (by omega)).1 k
        obtain ⟨l0, l1, l2, l3, l4, l5, l6⟩ := hL.1
        rw [e.1] at l3; rw [e.2.1] at l4; rw [e.2.2] at l5
        unfold fX6_setPlan fX0_hasPlan; simp (disch := omega) only [wr_cj, wr_nj, rng_in, rng_out, zN_lit, zN_add, zN_mul, zN_sub, zN_ltT, zN_ltF, zN_leT, zN_leF, zN_eqT, zN_eqF, zN_lt, zN_le, zN_eq, zN_nat, zN_oobF, Option.bind_some, ↓reduceIte, Nat.one_mul, Nat.zero_add, Nat.add_zero, Nat.reduceAdd, Nat.reduceMul, Nat.reduceSub, Nat.reduceLT, Nat.reduceLeDiff, Nat.reduceEqDiff, reduceCtorEq, true_or, or_true, false_or, or_false, true_and, and_true, false_and, and_false, not_true_eq_false, not_false_eq_true, wr_2, wrL_1, zm_eqF, zm_eqF', zm_lt, zm_lt', zm_le, zm_le', zm_sub1, zN_01, Nat.mul_zero, Nat.zero_mul, Nat.mul_one, Nat.sub_zero, Nat.sub_self, Nat.add_sub_cancel, a, l3, l4, l5]
      · have a := (canBe7 (by omega) hM (c := c) (i := i) (o := o) (by omega) (by omega) (by omega)).1 k
        have m2 := hM 2 (by omega)
        have m3 := hM 3 (by omega)
        have m4 := hM 4 (by omega)
        rw [e.1] at m2; rw [e.2.1] at m3; rw [e.2.2] at m4
        unfold fX7_refusesPlan; simp (disch := omega) only [wr_cj, wr_nj, rng_in, rng_out, zN_lit, zN_add, zN_mul, zN_sub, zN_ltT, zN_ltF, zN_leT, zN_leF, zN_eqT, zN_eqF, zN_lt, zN_le, zN_eq, zN_nat, zN_oobF, Option.bind_some, ↓reduceIte, Nat.one_mul, Nat.zero_add, Nat.add_zero, Nat.reduceAdd, Nat.reduceMul, Nat.reduceSub, Nat.reduceLT, Nat.reduceLeDiff, Nat.reduceEqDiff, reduceCtorEq, true_or, or_true, false_or, or_false, true_and, and_true, false_and, and_false, not_true_eq_false, not_false_eq_true, wr_2, wrL_1, zm_eqF, zm_eqF', zm_lt, zm_lt', zm_le, zm_le', zm_sub1, zN_01, Nat.mul_zero, Nat.zero_mul, Nat.mul_one, Nat.sub_zero, Nat.sub_self, Nat.add_sub_cancel, a, m2, m3, m4]
    · right
      refine ⟨c, i, o, k, rfl, rfl, rfl, fun M hL => ⟨wr (wr (wr M 0 3 (zN c)) 0 4 (zN i)) 0 5 (zN o), ?_, Leaf_pl hL, fr_wr (fr_wr (fr_wr (fr_refl _ _) (by unfold CW; omega)) (by unfold CW; omega)) (by unfold CW; omega)⟩, fun M hM => ?_⟩
      · have a := (allowsL (by omega) hL (c := c) (i := i) (o := o) (by omega) (by omega) (by omega)).1 k
        obtain ⟨l0, l1, l2, l3, l4, l5, l6⟩ := hL.1
        have hp0 : fX0_hasPlan 0 (zN c) (zN i) (zN o) M = some (zN 0, M) := by
          unfold fX0_hasPlan
          by_cases q1 : P 2 = c
          · by_cases q2 : P 3 = i
            · simp (disch := omega) only [wr_cj, wr_nj, rng_in, rng_out, zN_lit, zN_add, zN_mul, zN_sub, zN_ltT, zN_ltF, zN_leT, zN_leF, zN_eqT, zN_eqF, zN_lt, zN_le, zN_eq, zN_nat, zN_oobF, Option.bind_some, ↓reduceIte, Nat.one_mul, Nat.zero_add, Nat.add_zero, Nat.reduceAdd, Nat.reduceMul, Nat.reduceSub, Nat.reduceLT, Nat.reduceLeDiff, Nat.reduceEqDiff, reduceCtorEq, true_or, or_true, false_or, or_false, true_and, and_true, false_and, and_false, not_true_eq_false, not_false_eq_true, wr_2, wrL_1, zm_eqF, zm_eqF', zm_lt, zm_lt', zm_le, zm_le', zm_sub1, zN_01, Nat.mul_zero, Nat.zero_mul, Nat.mul_one, Nat.sub_zero, Nat.sub_self, Nat.add_sub_cancel, l3, l4, l5]
            · simp (disch := omega) only [wr_cj, wr_nj, rng_in, rng_out, zN_lit, zN_add, zN_mul, zN_sub, zN_ltT, zN_ltF, zN_leT, zN_leF, zN_eqT, zN_eqF, zN_lt, zN_le, zN_eq, zN_nat, zN_oobF, Option.bind_some, ↓reduceIte, Nat.one_mul, Nat.zero_add, Nat.add_zero, Nat.reduceAdd, Nat.reduceMul, Nat.reduceSub, Nat.reduceLT, Nat.reduceLeDiff, Nat.reduceEqDiff, reduceCtorEq, true_or, or_true, false_or, or_false, true_and, and_true, false_and, and_false, not_true_eq_false, not_false_eq_true, wr_2, wrL_1, zm_eqF, zm_eqF', zm_lt, zm_lt', zm_le, zm_le', zm_sub1, zN_01, Nat.mul_zero, Nat.zero_mul, Nat.mul_one, Nat.sub_zero, Nat.sub_self, Nat.add_sub_cancel, l3, l4, l5]
          · simp (disch := omega) only [wr_cj, wr_nj, rng_in, rng_out, zN_lit, zN_add, zN_mul, zN_sub, zN_ltT, zN_ltF, zN_leT, zN_leF, zN_eqT, zN_eqF, zN_lt, zN_le, zN_eq, zN_nat, zN_oobF, Option.bind_some, ↓reduceIte, Nat.one_mul, Nat.zero_add, Nat.add_zero, Nat.reduceAdd, Nat.reduceMul, Nat.reduceSub, Nat.reduceLT, Nat.reduceLeDiff, Nat.reduceEqDiff, reduceCtorEq, true_or, or_true, false_or, or_false, true_and, and_true, false_and, and_false, not_true_eq_false, not_false_eq_true, wr_2, wrL_1, zm_eqF, zm_eqF', zm_lt, zm_lt', zm_le, zm_le', zm_sub1, zN_01, Nat.mul_zero, Nat.zero_mul, Nat.mul_one, Nat.sub_zero, Nat.sub_self, Nat.add_sub_cancel, l3, l4, l5]
        unfold fX6_setPlan fX0_plan; simp (disch := omega) only [wr_cj, wr_nj, rng_in, rng_out, zN_lit, zN_add, zN_mul, zN_sub, zN_ltT, zN_ltF, zN_leT, zN_leF, zN_eqT, zN_eqF, zN_lt, zN_le, zN_eq, zN_nat, zN_oobF, Option.bind_some, ↓reduceIte, Nat.one_mul, Nat.zero_add, Nat.add_zero, Nat.reduceAdd, Nat.reduceMul, Nat.reduceSub, Nat.reduceLT, Nat.reduceLeDiff, Nat.reduceEqDiff, reduceCtorEq, true_or, or_true, false_or, or_false, true_and, and_true, false_and, and_false, not_true_eq_false, not_false_eq_true, wr_2, wrL_1, zm_eqF, zm_eqF', zm_lt, zm_lt', zm_le, zm_le', zm_sub1, zN_01, Nat.mul_zero, Nat.zero_mul, Nat.mul_one, Nat.sub_zero, Nat.sub_self, Nat.add_sub_cancel, a, hp0, l3, l4, l5]
      · have a := (canBe7 (by omega) hM (c := c) (i := i) (o := o) (by omega) (by omega) (by omega)).1 k
        have m2 := hM 2 (by omega)
        have m3 := hM 3 (by omega)
        have m4 := hM 4 (by omega)
        unfold fX7_refusesPlan
        by_cases q1 : P 2 = c
        · by_cases q2 : P 3 = i
          · simp (disch := omega) only [wr_cj, wr_nj, rng_in, rng_out, zN_lit, zN_add, zN_mul, zN_sub, zN_ltT, zN_ltF, zN_leT, zN_leF, zN_eqT, zN_eqF, zN_lt, zN_le, zN_eq, zN_nat, zN_oobF, Option.bind_some, ↓reduceIte, Nat.one_mul, Nat.zero_add, Nat.add_zero, Nat.reduceAdd, Nat.reduceMul, Nat.reduceSub, Nat.reduceLT, Nat.reduceLeDiff, Nat.reduceEqDiff, reduceCtorEq, true_or, or_true, false_or, or_false, true_and, and_true, false_and, and_false, not_true_eq_false, not_false_eq_true, wr_2, wrL_1, zm_eqF, zm_eqF', zm_lt, zm_lt', zm_le, zm_le', zm_sub1, zN_01, Nat.mul_zero, Nat.zero_mul, Nat.mul_one, Nat.sub_zero, Nat.sub_self, Nat.add_sub_cancel, a, m2, m3, m4]
          · simp (disch := omega) only [wr_cj, wr_nj, rng_in, rng_out, zN_lit, zN_add, zN_mul, zN_sub, zN_ltT, zN_ltF, zN_leT, zN_leF, zN_eqT, zN_eqF, zN_lt, zN_le, zN_eq, zN_nat, zN_oobF, Option.bind_some, ↓reduceIte, Nat.one_mul, Nat.zero_add, Nat.add_zero, Nat.reduceAdd, Nat.reduceMul, Nat.reduceSub, Nat.reduceLT, Nat.reduceLeDiff, Nat.reduceEqDiff, reduceCtorEq, true_or, or_true, false_or, or_false, true_and, and_true, false_and, and_false, not_true_eq_false, not_false_eq_true, wr_2, wrL_1, zm_eqF, zm_eqF', zm_lt, zm_lt', zm_le, zm_le', zm_sub1, zN_01, Nat.mul_zero, Nat.zero_mul, Nat.mul_one, Nat.sub_zero, Nat.sub_self, Nat.add_sub_cancel, a, m2, m3, m4]
        · simp (disch := omega) only [wr_cj, wr_nj, rng_in, rng_out, zN_lit, zN_add, zN_mul, zN_sub, zN_ltT, zN_ltF, zN_leT, zN_leF, zN_eqT, zN_eqF, zN_lt, zN_le, zN_eq, zN_nat, zN_oobF, Option.bind_some, ↓reduceIte, Nat.one_mul, Nat.zero_add, Nat.add_zero, Nat.reduceAdd, Nat.reduceMul, Nat.reduceSub, Nat.reduceLT, Nat.reduceLeDiff, Nat.reduceEqDiff, reduceCtorEq, true_or, or_true, false_or, or_false, true_and, and_true, false_and, and_false, not_true_eq_false, not_false_eq_true, wr_2, wrL_1, zm_eqF, zm_eqF', zm_lt, zm_lt', zm_le, zm_le', zm_sub1, zN_01, Nat.mul_zero, Nat.zero_mul, Nat.mul_one, Nat.sub_zero, Nat.sub_self, Nat.add_sub_cancel, a, m2, m3, m4]
  · left
    refine ⟨-zN 1, zm_neg (by omega), fun M hL => ⟨M, ?_, hL, fr_refl _ _⟩, fun M hM => ?_⟩
    · have a := h1 M 0 hL
      unfold fX6_setPlan; simp (disch := omega) only [wr_cj, wr_nj, rng_in, rng_out, zN_lit, zN_add, zN_mul, zN_sub, zN_ltT, zN_ltF, zN_leT, zN_leF, zN_eqT, zN_eqF, zN_lt, zN_le, zN_eq, zN_nat, zN_oobF, Option.bind_some, ↓reduceIte, Nat.one_mul, Nat.zero_add, Nat.add_zero, Nat.reduceAdd, Nat.reduceMul, Nat.reduceSub, Nat.reduceLT, Nat.reduceLeDiff, Nat.reduceEqDiff, reduceCtorEq, true_or, or_true, false_or, or_false, true_and, and_true, false_and, and_false, not_true_eq_false, not_false_eq_true, wr_2, wrL_1, zm_eqF, zm_eqF', zm_lt, zm_lt', zm_le, zm_le', zm_sub1, zN_01, Nat.mul_zero, Nat.zero_mul, Nat.mul_one, Nat.sub_zero, Nat.sub_self, Nat.add_sub_cancel, a]
    · have a := h2 M hM
      unfold fX7_refusesPlan; simp (disch := omega) only [wr_cj, wr_nj, rng_in, rng_out, zN_lit, zN_add, zN_mul, zN_sub, zN_ltT, zN_ltF, zN_leT, zN_leF, zN_eqT, zN_eqF, zN_lt, zN_le, zN_eq, zN_nat, zN_oobF, Option.bind_some, ↓reduceIte, Nat.one_mul, Nat.zero_add, Nat.add_zero, Nat.reduceAdd, Nat.reduceMul, Nat.reduceSub, Nat.reduceLT, Nat.reduceLeDiff, Nat.reduceEqDiff, reduceCtorEq, true_or, or_true, false_or, or_false, true_and, and_true, false_and, and_false, not_true_eq_false, not_false_eq_true, wr_2, wrL_1, zm_eqF, zm_eqF', zm_lt, zm_lt', zm_le, zm_le', zm_sub1, zN_01, Nat.mul_zero, Nat.zero_mul, Nat.mul_one, Nat.sub_zero, Nat.sub_self, Nat.add_sub_cancel, a]
theorem call_plans (x y z : Int32) : Cll (fX6_plans x y z) (fX7_plans x y z) := by
  refine Cll_of (fun P T R U K hw => ?_)
  have hl := hw.2.2.2.1.1
  have hp := hw.1.1
  rcases plan_both hw.1 x y z with ⟨r, hr, l, m⟩ | ⟨c, i, o, k, rfl, rfl, rfl, l, m⟩
  · refine ⟨r, P, T, R, U, K, hw, fun M hM => ?_, MD_no (fun M hM => ?_)⟩
    · exact (LD_CD hw l).1 hr rfl M hM
    · have e := m (wr M 158 5 (zN 0)) (MI_th hM).1
      unfold fX7_plans; simp (disch := omega) only [wr_cj, wr_nj, rng_in, rng_out, zN_lit, zN_add, zN_mul, zN_sub, zN_ltT, zN_ltF, zN_leT, zN_leF, zN_eqT, zN_eqF, zN_lt, zN_le, zN_eq, zN_nat, zN_oobF, Option.bind_some, ↓reduceIte, Nat.one_mul, Nat.zero_add, Nat.add_zero, Nat.reduceAdd, Nat.reduceMul, Nat.reduceSub, Nat.reduceLT, Nat.reduceLeDiff, Nat.reduceEqDiff, reduceCtorEq, true_or, or_true, false_or, or_false, true_and, and_true, false_and, and_false, not_true_eq_false, not_false_eq_true, wr_2, wrL_1, zm_eqF, zm_eqF', zm_lt, zm_lt', zm_le, zm_le', zm_sub1, zN_01, Nat.mul_zero, Nat.zero_mul, Nat.mul_one, Nat.sub_zero, Nat.sub_self, Nat.add_sub_cancel, e]
      rw [if_neg (zneg_le hr)]
  · refine ⟨_, plP P c i o, T, R, _, K, WF_chg hw (Good_pl hw.1 k), fun M hM => (LD_CD hw l).2 (zN_nn (by omega)) M hM, fun M hM => ?_⟩
    have h0 := MI_th (v := zN 0) hM
    have e := m (wr M 158 5 (zN 0)) h0.1
    obtain ⟨M1, e1, h1, f1⟩ := chg7 hl h0
    have m2 := h1.1 2 (by omega)
    have m3 := h1.1 3 (by omega)
    have m4 := h1.1 4 (by omega)
    have f2 : fr (fun c _ => c = 159) M1 (wr (wr (wr M1 159 2 (zN c)) 159 3 (zN i)) 159 4 (zN o)) := fr_wr (fr_wr (fr_wr (fr_refl _ _) (by omega)) (by omega)) (by omega)
    refine ⟨wr (wr (wr M1 159 2 (zN c)) 159 3 (zN i)) 159 4 (zN o), ?_, MI_now h1 f2 (MNow_pl h1.1), ?_⟩
    · unfold fX7_plans fX7_putPlan; simp (disch := omega) only [wr_cj, wr_nj, rng_in, rng_out, zN_lit, zN_add, zN_mul, zN_sub, zN_ltT, zN_ltF, zN_leT, zN_leF, zN_eqT, zN_eqF, zN_lt, zN_le, zN_eq, zN_nat, zN_oobF, Option.bind_some, ↓reduceIte, Nat.one_mul, Nat.zero_add, Nat.add_zero, Nat.reduceAdd, Nat.reduceMul, Nat.reduceSub, Nat.reduceLT, Nat.reduceLeDiff, Nat.reduceEqDiff, reduceCtorEq, true_or, or_true, false_or, or_false, true_and, and_true, false_and, and_false, not_true_eq_false, not_false_eq_true, wr_2, wrL_1, zm_eqF, zm_eqF', zm_lt, zm_lt', zm_le, zm_le', zm_sub1, zN_01, Nat.mul_zero, Nat.zero_mul, Nat.mul_one, Nat.sub_zero, Nat.sub_self, Nat.add_sub_cancel, e, e1, m2, m3, m4]
    · exact frM_trans (frM_th M _) (frM_trans (frM_fr f1 (fun c j a => by omega)) (frM_fr f2 (fun c j a => by omega)))
