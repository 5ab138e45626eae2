theorem cnt_c0 {P : Nat → Nat} {T : List Nat} {R : List Int64} {U : List (Nat → Nat)} {K : Nat → Option (Nat → Nat)} : CD (fX6_count (zN 0)) P T R U K (zN (P 0)) P T R U K := by
  refine CD_no (fun M hM => ?_)
  obtain ⟨q, hq⟩ := hM.2.2.2.1
  obtain ⟨l0, l1, l2, l3, l4, l5, l6⟩ := hM.1.1
  have l : M.1 0 0 = zN (P 0) := l0
  unfold fX6_count; simp (disch := omega) only [wr_cj, wr_nj, rng_in, rng_out, zN_lit, zN_add, zN_mul, zN_sub, zN_ltT, zN_ltF, zN_leT, zN_leF, zN_eqT, zN_eqF, zN_lt, zN_le, zN_eq, zN_nat, zN_oobF, Option.bind_some, ↓reduceIte, Nat.one_mul, Nat.zero_add, Nat.add_zero, Nat.reduceAdd, Nat.reduceMul, Nat.reduceSub, Nat.reduceLT, Nat.reduceLeDiff, Nat.reduceEqDiff, reduceCtorEq, true_or, or_true, false_or, or_false, true_and, and_true, false_and, and_false, not_true_eq_false, not_false_eq_true, wr_2, wrL_1, zm_eqF, zm_eqF', zm_lt, zm_lt', zm_le, zm_le', zm_sub1, zN_01, Nat.mul_zero, Nat.zero_mul, Nat.mul_one, Nat.sub_zero, Nat.sub_self, Nat.add_sub_cancel, l]
theorem cnt_m0 {P : Nat → Nat} {T : List Nat} {R : List Int64} {U : List (Nat → Nat)} {K : Nat → Option (Nat → Nat)} : MD (fX7_count (zN 0)) P T R U K (zN (P 0)) P T R U K := by
  refine MD_no (fun M hM => ?_)
  have l : M.1 159 0 = zN (P 0) := hM.1 0 (by omega)
  have t := in7T (a := 0) (lo := 0) (hi := 7) (by omega) (wr M 158 5 (zN 0))
  unfold fX7_count; simp (disch := omega) only [wr_cj, wr_nj, rng_in, rng_out, zN_lit, zN_add, zN_mul, zN_sub, zN_ltT, zN_ltF, zN_leT, zN_leF, zN_eqT, zN_eqF, zN_lt, zN_le, zN_eq, zN_nat, zN_oobF, Option.bind_some, ↓reduceIte, Nat.one_mul, Nat.zero_add, Nat.add_zero, Nat.reduceAdd, Nat.reduceMul, Nat.reduceSub, Nat.reduceLT, Nat.reduceLeDiff, Nat.reduceEqDiff, reduceCtorEq, true_or, or_true, false_or, or_false, true_and, and_true, false_and, and_false, not_true_eq_false, not_false_eq_true, wr_2, wrL_1, zm_eqF, zm_eqF', zm_lt, zm_lt', zm_le, zm_le', zm_sub1, zN_01, Nat.mul_zero, Nat.zero_mul, Nat.mul_one, Nat.sub_zero, Nat.sub_self, Nat.add_sub_cancel, t, l]
theorem cnt_c1 {P : Nat → Nat} {T : List Nat} {R : List Int64} {U : List (Nat → Nat)} {K : Nat → Option (Nat → Nat)} : CD (fX6_count (zN 1)) P T R U K (zN (P 1)) P T R U K := by
  refine CD_no (fun M hM => ?_)
  obtain ⟨q, hq⟩ := hM.2.2.2.1
  obtain ⟨l0, l1, l2, l3, l4, l5, l6⟩ := hM.1.1
  have l : M.1 0 1 = zN (P 1) := l1
  unfold fX6_count; simp (disch := omega) only [wr_cj, wr_nj, rng_in, rng_out, zN_lit, zN_add, zN_mul, zN_sub, zN_ltT, zN_ltF, zN_leT, zN_leF, zN_eqT, zN_eqF, zN_lt, zN_le, zN_eq, zN_nat, zN_oobF, Option.bind_some, ↓reduceIte, Nat.one_mul, Nat.zero_add, Nat.add_zero, Nat.reduceAdd, Nat.reduceMul, Nat.reduceSub, Nat.reduceLT, Nat.reduceLeDiff, Nat.reduceEqDiff, reduceCtorEq, true_or, or_true, false_or, or_false, true_and, and_true, false_and, and_false, not_true_eq_false, not_false_eq_true, wr_2, wrL_1, zm_eqF, zm_eqF', zm_lt, zm_lt', zm_le, zm_le', zm_sub1, zN_01, Nat.mul_zero, Nat.zero_mul, Nat.mul_one, Nat.sub_zero, Nat.sub_self, Nat.add_sub_cancel, l]
theorem cnt_m1 {P : Nat → Nat} {T : List Nat} {R : List Int64} {U : List (Nat → Nat)} {K : Nat → Option (Nat → Nat)} : MD (fX7_count (zN 1)) P T R U K (zN (P 1)) P T R U K := by
  refine MD_no (fun M hM => ?_)
  have l : M.1 159 1 = zN (P 1) := hM.1 1 (by omega)
  have t := in7T (a := 1) (lo := 0) (hi := 7) (by omega) (wr M 158 5 (zN 0))
  unfold fX7_count; simp (disch := omega) only [wr_cj, wr_nj, rng_in, rng_out, zN_lit, zN_add, zN_mul, zN_sub, zN_ltT, zN_ltF, zN_leT, zN_leF, zN_eqT, zN_eqF, zN_lt, zN_le, zN_eq, zN_nat, zN_oobF, Option.bind_some, ↓reduceIte, Nat.one_mul, Nat.zero_add, Nat.add_zero, Nat.reduceAdd, Nat.reduceMul, Nat.reduceSub, Nat.reduceLT, Nat.reduceLeDiff, Nat.reduceEqDiff, reduceCtorEq, true_or, or_true, false_or, or_false, true_and, and_true, false_and, and_false, not_true_eq_false, not_false_eq_true, wr_2, wrL_1, zm_eqF, zm_eqF', zm_lt, zm_lt', zm_le, zm_le', zm_sub1, zN_01, Nat.mul_zero, Nat.zero_mul, Nat.mul_one, Nat.sub_zero, Nat.sub_self, Nat.add_sub_cancel, t, l]
theorem cnt_c2 {P : Nat → Nat} {T : List Nat} {R : List Int64} {U : List (Nat → Nat)} {K : Nat → Option (Nat → Nat)} : CD (fX6_count (zN 2)) P T R U K (zN (P 2)) P T R U K := by
  refine CD_no (fun M hM => ?_)
  obtain ⟨q, hq⟩ := hM.2.2.2.1
  obtain ⟨l0, l1, l2, l3, l4, l5, l6⟩ := hM.1.1
  have l : M.1 0 3 = zN (P 2) := l3
  unfold fX6_count; simp (disch := omega) only [wr_cj, wr_nj, rng_in, rng_out, zN_lit, zN_add, zN_mul, zN_sub, zN_ltT, zN_ltF, zN_leT, zN_leF, zN_eqT, zN_eqF, zN_lt, zN_le, zN_eq, zN_nat, zN_oobF, Option.bind_some, ↓reduceIte, Nat.one_mul, Nat.zero_add, Nat.add_zero, Nat.reduceAdd, Nat.reduceMul, Nat.reduceSub, Nat.reduceLT, Nat.reduceLeDiff, Nat.reduceEqDiff, reduceCtorEq, true_or, or_true, false_or, or_false, true_and, and_true, false_and, and_false, not_true_eq_false, not_false_eq_true, wr_2, wrL_1, zm_eqF, zm_eqF', zm_lt, zm_lt', zm_le, zm_le', zm_sub1, zN_01, Nat.mul_zero, Nat.zero_mul, Nat.mul_one, Nat.sub_zero, Nat.sub_self, Nat.add_sub_cancel, l]
theorem cnt_m2 {P : Nat → Nat} {T : List Nat} {R : List Int64} {U : List (Nat → Nat)} {K : Nat → Option (Nat → Nat)} : MD (fX7_count (zN 2)) P T R U K (zN (P 2)) P T R U K := by
  refine MD_no (fun M hM => ?_)
  have l : M.1 159 2 = zN (P 2) := hM.1 2 (by omega)
  have t := in7T (a := 2) (lo := 0) (hi := 7) (by omega) (wr M 158 5 (zN 0))
  unfold fX7_count; simp (disch := omega) only [wr_cj, wr_nj, rng_in, rng_out, zN_lit, zN_add, zN_mul, zN_sub, zN_ltT, zN_ltF, zN_leT, zN_leF, zN_eqT, zN_eqF, zN_lt, zN_le, zN_eq, zN_nat, zN_oobF, Option.bind_some, ↓reduceIte, Nat.one_mul, Nat.zero_add, Nat.add_zero, Nat.reduceAdd, Nat.reduceMul, Nat.reduceSub, Nat.reduceLT, Nat.reduceLeDiff, Nat.reduceEqDiff, reduceCtorEq, true_or, or_true, false_or, or_false, true_and, and_true, false_and, and_false, not_true_eq_false, not_false_eq_true, wr_2, wrL_1, zm_eqF, zm_eqF', zm_lt, zm_lt', zm_le, zm_le', zm_sub1, zN_01, Nat.mul_zero, Nat.zero_mul, Nat.mul_one, Nat.sub_zero, Nat.sub_self, Nat.add_sub_cancel, t, l]
theorem cnt_c3 {P : Nat → Nat} {T : List Nat} {R : List Int64} {U : List (Nat → Nat)} {K : Nat → Option (Nat → Nat)} : CD (fX6_count (zN 3)) P T R U K (zN (P 3)) P T R U K := by
  refine CD_no (fun M hM => ?_)
  obtain ⟨q, hq⟩ := hM.2.2.2.1
  obtain ⟨l0, l1, l2, l3, l4, l5, l6⟩ := hM.1.1
  have l : M.1 0 4 = zN (P 3) := l4
  unfold fX6_count; simp (disch := omega) only [wr_cj, wr_nj, rng_in, rng_out, zN_lit, zN_add, zN_mul, zN_sub, zN_ltT, zN_ltF, zN_leT, zN_leF, zN_eqT, zN_eqF, zN_lt, zN_le, zN_eq, zN_nat, zN_oobF, Option.bind_some, ↓reduceIte, Nat.one_mul, Nat.zero_add, Nat.add_zero, Nat.reduceAdd, Nat.reduceMul, Nat.reduceSub, Nat.reduceLT, Nat.reduceLeDiff, Nat.reduceEqDiff, reduceCtorEq, true_or, or_true, false_or, or_false, true_and, and_true, false_and, and_false, not_true_eq_false, not_false_eq_true, wr_2, wrL_1, zm_eqF, zm_eqF', zm_lt, zm_lt', zm_le, zm_le', zm_sub1, zN_01, Nat.mul_zero, Nat.zero_mul, Nat.mul_one, Nat.sub_zero, Nat.sub_self, Nat.add_sub_cancel, l]
theorem cnt_m3 {P : Nat → Nat} {T : List Nat} {R : List Int64} {U : List (Nat → Nat)} {K : Nat → Option (Nat → Nat)} : MD (fX7_count (zN 3)) P T R U K (zN (P 3)) P T R U K := by
  refine MD_no (fun M hM => ?_)
  have l : M.1 159 3 = zN (P 3) := hM.1 3 (by omega)
  have t := in7T (a := 3) (lo := 0) (hi := 7) (by omega) (wr M 158 5 (zN 0))
  unfold fX7_count; simp (disch := omega) only [wr_cj, wr_nj, rng_in, rng_out, zN_lit, zN_add, zN_mul, zN_sub, zN_ltT, zN_ltF, zN_leT, zN_leF, zN_eqT, zN_eqF, zN_lt, zN_le, zN_eq, zN_nat, zN_oobF, Option.bind_some, ↓reduceIte, Nat.one_mul, Nat.zero_add, Nat.add_zero, Nat.reduceAdd, Nat.reduceMul, Nat.reduceSub, Nat.reduceLT, Nat.reduceLeDiff, Nat.reduceEqDiff, reduceCtorEq, true_or, or_true, false_or, or_false, true_and, and_true, false_and, and_false, not_true_eq_false, not_false_eq_true, wr_2, wrL_1, zm_eqF, zm_eqF', zm_lt, zm_lt', zm_le, zm_le', zm_sub1, zN_01, Nat.mul_zero, Nat.zero_mul, Nat.mul_one, Nat.sub_zero, Nat.sub_self, Nat.add_sub_cancel, t, l]
theorem cnt_c4 {P : Nat → Nat} {T : List Nat} {R : List Int64} {U : List (Nat → Nat)} {K : Nat → Option (Nat → Nat)} : CD (fX6_count (zN 4)) P T R U K (zN (P 4)) P T R U K := by
  refine CD_no (fun M hM => ?_)
  obtain ⟨q, hq⟩ := hM.2.2.2.1
  obtain ⟨l0, l1, l2, l3, l4, l5, l6⟩ := hM.1.1
  have l : M.1 0 5 = zN (P 4) := l5
  unfold fX6_count; simp (disch := omega) only [wr_cj, wr_nj, rng_in, rng_out, zN_lit, zN_add, zN_mul, zN_sub, zN_ltT, zN_ltF, zN_leT, zN_leF, zN_eqT, zN_eqF, zN_lt, zN_le, zN_eq, zN_nat, zN_oobF, Option.bind_some, ↓reduceIte, Nat.one_mul, Nat.zero_add, Nat.add_zero, Nat.reduceAdd, Nat.reduceMul, Nat.reduceSub, Nat.reduceLT, Nat.reduceLeDiff, Nat.reduceEqDiff, reduceCtorEq, true_or, or_true, false_or, or_false, true_and, and_true, false_and, and_false, not_true_eq_false, not_false_eq_true, wr_2, wrL_1, zm_eqF, zm_eqF', zm_lt, zm_lt', zm_le, zm_le', zm_sub1, zN_01, Nat.mul_zero, Nat.zero_mul, Nat.mul_one, Nat.sub_zero, Nat.sub_self, Nat.add_sub_cancel, l]
theorem cnt_m4 {P : Nat → Nat} {T : List Nat} {R : List Int64} {U : List (Nat → Nat)} {K : Nat → Option (Nat → Nat)} : MD (fX7_count (zN 4)) P T R U K (zN (P 4)) P T R U K := by
  refine MD_no (fun M hM => ?_)
  have l : M.1 159 4 = zN (P 4) := hM.1 4 (by omega)
  have t := in7T (a := 4) (lo := 0) (hi := 7) (by omega) (wr M 158 5 (zN 0))
  unfold fX7_count; simp (disch := omega) only [wr_cj, wr_nj, rng_in, rng_out, zN_lit, zN_add, zN_mul, zN_sub, zN_ltT, zN_ltF, zN_leT, zN_leF, zN_eqT, zN_eqF, zN_lt, zN_le, zN_eq, zN_nat, zN_oobF, Option.bind_some, ↓reduceIte, Nat.one_mul, Nat.zero_add, Nat.add_zero, Nat.reduceAdd, Nat.reduceMul, Nat.reduceSub, Nat.reduceLT, Nat.reduceLeDiff, Nat.reduceEqDiff, reduceCtorEq, true_or, or_true, false_or, or_false, true_and, and_true, false_and, and_false, not_true_eq_false, not_false_eq_true, wr_2, wrL_1, zm_eqF, zm_eqF', zm_lt, zm_lt', zm_le, zm_le', zm_sub1, zN_01, Nat.mul_zero, Nat.zero_mul, Nat.mul_one, Nat.sub_zero, Nat.sub_self, Nat.add_sub_cancel, t, l]
theorem cnt_c5 {P : Nat → Nat} {T : List Nat} {R : List Int64} {U : List (Nat → Nat)} {K : Nat → Option (Nat → Nat)} : CD (fX6_count (zN 5)) P T R U K (zN (P 5)) P T R U K := by
  refine CD_no (fun M hM => ?_)
  obtain ⟨q, hq⟩ := hM.2.2.2.1
  obtain ⟨l0, l1, l2, l3, l4, l5, l6⟩ := hM.1.1
  have l : M.1 2 0 = zN (P 5) := hM.1.2.2.1 0 (by omega)
  unfold fX6_count fX6_count_120; simp (disch := omega) only [wr_cj, wr_nj, rng_in, rng_out, zN_lit, zN_add, zN_mul, zN_sub, zN_ltT, zN_ltF, zN_leT, zN_leF, zN_eqT, zN_eqF, zN_lt, zN_le, zN_eq, zN_nat, zN_oobF, Option.bind_some, ↓reduceIte, Nat.one_mul, Nat.zero_add, Nat.add_zero, Nat.reduceAdd, Nat.reduceMul, Nat.reduceSub, Nat.reduceLT, Nat.reduceLeDiff, Nat.reduceEqDiff, reduceCtorEq, true_or, or_true, false_or, or_false, true_and, and_true, false_and, and_false, not_true_eq_false, not_false_eq_true, wr_2, wrL_1, zm_eqF, zm_eqF', zm_lt, zm_lt', zm_le, zm_le', zm_sub1, zN_01, Nat.mul_zero, Nat.zero_mul, Nat.mul_one, Nat.sub_zero, Nat.sub_self, Nat.add_sub_cancel, l]
theorem cnt_m5 {P : Nat → Nat} {T : List Nat} {R : List Int64} {U : List (Nat → Nat)} {K : Nat → Option (Nat → Nat)} : MD (fX7_count (zN 5)) P T R U K (zN (P 5)) P T R U K := by
  refine MD_no (fun M hM => ?_)
  have l : M.1 159 5 = zN (P 5) := hM.1 5 (by omega)
  have t := in7T (a := 5) (lo := 0) (hi := 7) (by omega) (wr M 158 5 (zN 0))
  unfold fX7_count; simp (disch := omega) only [wr_cj, wr_nj, rng_in, rng_out, zN_lit, zN_add, zN_mul, zN_sub, zN_ltT, zN_ltF, zN_leT, zN_leF, zN_eqT, zN_eqF, zN_lt, zN_le, zN_eq, zN_nat, zN_oobF, Option.bind_some, ↓reduceIte, Nat.one_mul, Nat.zero_add, Nat.add_zero, Nat.reduceAdd, Nat.reduceMul, Nat.reduceSub, Nat.reduceLT, Nat.reduceLeDiff, Nat.reduceEqDiff, reduceCtorEq, true_or, or_true, false_or, or_false, true_and, and_true, false_and, and_false, not_true_eq_false, not_false_eq_true, wr_2, wrL_1, zm_eqF, zm_eqF', zm_lt, zm_lt', zm_le, zm_le', zm_sub1, zN_01, Nat.mul_zero, Nat.zero_mul, Nat.mul_one, Nat.sub_zero, Nat.sub_self, Nat.add_sub_cancel, t, l]
theorem cnt_c6 {P : Nat → Nat} {T : List Nat} {R : List Int64} {U : List (Nat → Nat)} {K : Nat → Option (Nat → Nat)} : CD (fX6_count (zN 6)) P T R U K (zN (P 6)) P T R U K := by
  refine CD_no (fun M hM => ?_)
  obtain ⟨q, hq⟩ := hM.2.2.2.1
  obtain ⟨l0, l1, l2, l3, l4, l5, l6⟩ := hM.1.1
  have l : M.1 2 1 = zN (P 6) := hM.1.2.2.1 1 (by omega)
  unfold fX6_count fX6_count_120; simp (disch := omega) only [wr_cj, wr_nj, rng_in, rng_out, zN_lit, zN_add, zN_mul, zN_sub, zN_ltT, zN_ltF, zN_leT, zN_leF, zN_eqT, zN_eqF, zN_lt, zN_le, zN_eq, zN_nat, zN_oobF, Option.bind_some, ↓reduceIte, Nat.one_mul, Nat.zero_add, Nat.add_zero, Nat.reduceAdd, Nat.reduceMul, Nat.reduceSub, Nat.reduceLT, Nat.reduceLeDiff, Nat.reduceEqDiff, reduceCtorEq, true_or, or_true, false_or, or_false, true_and, and_true, false_and, and_false, not_true_eq_false, not_false_eq_true, wr_2, wrL_1, zm_eqF, zm_eqF', zm_lt, zm_lt', zm_le, zm_le', zm_sub1, zN_01, Nat.mul_zero, Nat.zero_mul, Nat.mul_one, Nat.sub_zero, Nat.sub_self, Nat.add_sub_cancel, l]
theorem cnt_m6 {P : Nat → Nat} {T : List Nat} {R : List Int64} {U : List (Nat → Nat)} {K : Nat → Option (Nat → Nat)} : MD (fX7_count (zN 6)) P T R U K (zN (P 6)) P T R U K := by
  refine MD_no (fun M hM => ?_)
  have l : M.1 159 6 = zN (P 6) := hM.1 6 (by omega)
  have t := in7T (a := 6) (lo := 0) (hi := 7) (by omega) (wr M 158 5 (zN 0))
  unfold fX7_count; simp (disch := omega) only [wr_cj, wr_nj, rng_in, rng_out, zN_lit, zN_add, zN_mul, zN_sub, zN_ltT, zN_ltF, zN_leT, zN_leF, zN_eqT, zN_eqF, zN_lt, zN_le, zN_eq, zN_nat, zN_oobF, Option.bind_some, ↓reduceIte, Nat.one_mul, Nat.zero_add, Nat.add_zero, Nat.reduceAdd, Nat.reduceMul, Nat.reduceSub, Nat.reduceLT, Nat.reduceLeDiff, Nat.reduceEqDiff, reduceCtorEq, true_or, or_true, false_or, or_false, true_and, and_true, false_and, and_false, not_true_eq_false, not_false_eq_true, wr_2, wrL_1, zm_eqF, zm_eqF', zm_lt, zm_lt', zm_le, zm_le', zm_sub1, zN_01, Nat.mul_zero, Nat.zero_mul, Nat.mul_one, Nat.sub_zero, Nat.sub_self, Nat.add_sub_cancel, t, l]
theorem cnt_c7 {P : Nat → Nat} {T : List Nat} {R : List Int64} {U : List (Nat → Nat)} {K : Nat → Option (Nat → Nat)} : CD (fX6_count (zN 7)) P T R U K (zN (P 7)) P T R U K := by
  refine CD_no (fun M hM => ?_)
  obtain ⟨q, hq⟩ := hM.2.2.2.1
  obtain ⟨l0, l1, l2, l3, l4, l5, l6⟩ := hM.1.1
  have l : M.1 2 2 = zN (P 7) := hM.1.2.2.1 2 (by omega)
  unfold fX6_count fX6_count_120; simp (disch := omega) only [wr_cj, wr_nj, rng_in, rng_out, zN_lit, zN_add, zN_mul, zN_sub, zN_ltT, zN_ltF, zN_leT, zN_leF, zN_eqT, zN_eqF, zN_lt, zN_le, zN_eq, zN_nat, zN_oobF, Option.bind_some, ↓reduceIte, Nat.one_mul, Nat.zero_add, Nat.add_zero, Nat.reduceAdd, Nat.reduceMul, Nat.reduceSub, Nat.reduceLT, Nat.reduceLeDiff, Nat.reduceEqDiff, reduceCtorEq, true_or, or_true, false_or, or_false, true_and, and_true, false_and, and_false, not_true_eq_false, not_false_eq_true, wr_2, wrL_1, zm_eqF, zm_eqF', zm_lt, zm_lt', zm_le, zm_le', zm_sub1, zN_01, Nat.mul_zero, Nat.zero_mul, Nat.mul_one, Nat.sub_zero, Nat.sub_self, Nat.add_sub_cancel, l]
theorem cnt_m7 {P : Nat → Nat} {T : List Nat} {R : List Int64} {U : List (Nat → Nat)} {K : Nat → Option (Nat → Nat)} : MD (fX7_count (zN 7)) P T R U K (zN (P 7)) P T R U K := by
  refine MD_no (fun M hM => ?_)
  have l : M.1 159 7 = zN (P 7) := hM.1 7 (by omega)
  have t := in7T (a := 7) (lo := 0) (hi := 7) (by omega) (wr M 158 5 (zN 0))
  unfold fX7_count; simp (disch := omega) only [wr_cj, wr_nj, rng_in, rng_out, zN_lit, zN_add, zN_mul, zN_sub, zN_ltT, zN_ltF, zN_leT, zN_leF, zN_eqT, zN_eqF, zN_lt, zN_le, zN_eq, zN_nat, zN_oobF, Option.bind_some, ↓reduceIte, Nat.one_mul, Nat.zero_add, Nat.add_zero, Nat.reduceAdd, Nat.reduceMul, Nat.reduceSub, Nat.reduceLT, Nat.reduceLeDiff, Nat.reduceEqDiff, reduceCtorEq, true_or, or_true, false_or, or_false, true_and, and_true, false_and, and_false, not_true_eq_false, not_false_eq_true, wr_2, wrL_1, zm_eqF, zm_eqF', zm_lt, zm_lt', zm_le, zm_le', zm_sub1, zN_01, Nat.mul_zero, Nat.zero_mul, Nat.mul_one, Nat.sub_zero, Nat.sub_self, Nat.add_sub_cancel, t, l]
theorem cnt_c8 {P : Nat → Nat} {T : List Nat} {R : List Int64} {U : List (Nat → Nat)} {K : Nat → Option (Nat → Nat)} : CD (fX6_count (zN 8)) P T R U K (zN (P 218)) P T R U K := by
  refine CD_no (fun M hM => ?_)
  obtain ⟨q, hq⟩ := hM.2.2.2.1
  obtain ⟨l0, l1, l2, l3, l4, l5, l6⟩ := hM.1.1
  have l : M.1 0 6 = zN (P 218) := l6
  unfold fX6_count; simp (disch := omega) only [wr_cj, wr_nj, rng_in, rng_out, zN_lit, zN_add, zN_mul, zN_sub, zN_ltT, zN_ltF, zN_leT, zN_leF, zN_eqT, zN_eqF, zN_lt, zN_le, zN_eq, zN_nat, zN_oobF, Option.bind_some, ↓reduceIte, Nat.one_mul, Nat.zero_add, Nat.add_zero, Nat.reduceAdd, Nat.reduceMul, Nat.reduceSub, Nat.reduceLT, Nat.reduceLeDiff, Nat.reduceEqDiff, reduceCtorEq, true_or, or_true, false_or, or_false, true_and, and_true, false_and, and_false, not_true_eq_false, not_false_eq_true, wr_2, wrL_1, zm_eqF, zm_eqF', zm_lt, zm_lt', zm_le, zm_le', zm_sub1, zN_01, Nat.mul_zero, Nat.zero_mul, Nat.mul_one, Nat.sub_zero, Nat.sub_self, Nat.add_sub_cancel, l]
theorem cnt_m8 {P : Nat → Nat} {T : List Nat} {R : List Int64} {U : List (Nat → Nat)} {K : Nat → Option (Nat → Nat)} : MD (fX7_count (zN 8)) P T R U K (zN (P 218)) P T R U K := by
  refine MD_no (fun M hM => ?_)
  have l : M.1 159 218 = zN (P 218) := hM.1 218 (by omega)
  have t := in7F (a := 8) (lo := 0) (hi := 7) (by omega) (wr M 158 5 (zN 0))
  unfold fX7_count; simp (disch := omega) only [wr_cj, wr_nj, rng_in, rng_out, zN_lit, zN_add, zN_mul, zN_sub, zN_ltT, zN_ltF, zN_leT, zN_leF, zN_eqT, zN_eqF, zN_lt, zN_le, zN_eq, zN_nat, zN_oobF, Option.bind_some, ↓reduceIte, Nat.one_mul, Nat.zero_add, Nat.add_zero, Nat.reduceAdd, Nat.reduceMul, Nat.reduceSub, Nat.reduceLT, Nat.reduceLeDiff, Nat.reduceEqDiff, reduceCtorEq, true_or, or_true, false_or, or_false, true_and, and_true, false_and, and_false, not_true_eq_false, not_false_eq_true, wr_2, wrL_1, zm_eqF, zm_eqF', zm_lt, zm_lt', zm_le, zm_le', zm_sub1, zN_01, Nat.mul_zero, Nat.zero_mul, Nat.mul_one, Nat.sub_zero, Nat.sub_self, Nat.add_sub_cancel, t, l]
theorem cnt_c9 {P : Nat → Nat} {T : List Nat} {R : List Int64} {U : List (Nat → Nat)} {K : Nat → Option (Nat → Nat)} : CD (fX6_count (zN 9)) P T R U K (zN (U.length)) P T R U K := by
  refine CD_no (fun M hM => ?_)
  obtain ⟨q, hq⟩ := hM.2.2.2.1
  obtain ⟨l0, l1, l2, l3, l4, l5, l6⟩ := hM.1.1
  have l : M.1 149 2 = zN (U.length) := hq.2.2.1
  unfold fX6_count; simp (disch := omega) only [wr_cj, wr_nj, rng_in, rng_out, zN_lit, zN_add, zN_mul, zN_sub, zN_ltT, zN_ltF, zN_leT, zN_leF, zN_eqT, zN_eqF, zN_lt, zN_le, zN_eq, zN_nat, zN_oobF, Option.bind_some, ↓reduceIte, Nat.one_mul, Nat.zero_add, Nat.add_zero, Nat.reduceAdd, Nat.reduceMul, Nat.reduceSub, Nat.reduceLT, Nat.reduceLeDiff, Nat.reduceEqDiff, reduceCtorEq, true_or, or_true, false_or, or_false, true_and, and_true, false_and, and_false, not_true_eq_false, not_false_eq_true, wr_2, wrL_1, zm_eqF, zm_eqF', zm_lt, zm_lt', zm_le, zm_le', zm_sub1, zN_01, Nat.mul_zero, Nat.zero_mul, Nat.mul_one, Nat.sub_zero, Nat.sub_self, Nat.add_sub_cancel, l]
theorem cnt_m9 {P : Nat → Nat} {T : List Nat} {R : List Int64} {U : List (Nat → Nat)} {K : Nat → Option (Nat → Nat)} : MD (fX7_count (zN 9)) P T R U K (zN (U.length)) P T R U K := by
  refine MD_no (fun M hM => ?_)
  have l : M.1 158 24 = zN (U.length) := hM.2.2.2.1.1
  have t := in7F (a := 9) (lo := 0) (hi := 7) (by omega) (wr M 158 5 (zN 0))
  unfold fX7_count; simp (disch := omega) only [wr_cj, wr_nj, rng_in, rng_out, zN_lit, zN_add, zN_mul, zN_sub, zN_ltT, zN_ltF, zN_leT, zN_leF, zN_eqT, zN_eqF, zN_lt, zN_le, zN_eq, zN_nat, zN_oobF, Option.bind_some, ↓reduceIte, Nat.one_mul, Nat.zero_add, Nat.add_zero, Nat.reduceAdd, Nat.reduceMul, Nat.reduceSub, Nat.reduceLT, Nat.reduceLeDiff, Nat.reduceEqDiff, reduceCtorEq, true_or, or_true, false_or, or_false, true_and, and_true, false_and, and_false, not_true_eq_false, not_false_eq_true, wr_2, wrL_1, zm_eqF, zm_eqF', zm_lt, zm_lt', zm_le, zm_le', zm_sub1, zN_01, Nat.mul_zero, Nat.zero_mul, Nat.mul_one, Nat.sub_zero, Nat.sub_self, Nat.add_sub_cancel, t, l]
theorem cnt_c10 {P : Nat → Nat} {T : List Nat} {R : List Int64} {U : List (Nat → Nat)} {K : Nat → Option (Nat → Nat)} : CD (fX6_count (zN 10)) P T R U K (zN (R.length)) P T R U K := by
  refine CD_no (fun M hM => ?_)
  obtain ⟨q, hq⟩ := hM.2.2.2.1
  obtain ⟨l0, l1, l2, l3, l4, l5, l6⟩ := hM.1.1
  have l : M.1 155 1 = zN (R.length) := hM.2.2.1.1
  unfold fX6_count; simp (disch := omega) only [wr_cj, wr_nj, rng_in, rng_out, zN_lit, zN_add, zN_mul, zN_sub, zN_ltT, zN_ltF, zN_leT, zN_leF, zN_eqT, zN_eqF, zN_lt, zN_le, zN_eq, zN_nat, zN_oobF, Option.bind_some, ↓reduceIte, Nat.one_mul, Nat.zero_add, Nat.add_zero, Nat.reduceAdd, Nat.reduceMul, Nat.reduceSub, Nat.reduceLT, Nat.reduceLeDiff, Nat.reduceEqDiff, reduceCtorEq, true_or, or_true, false_or, or_false, true_and, and_true, false_and, and_false, not_true_eq_false, not_false_eq_true, wr_2, wrL_1, zm_eqF, zm_eqF', zm_lt, zm_lt', zm_le, zm_le', zm_sub1, zN_01, Nat.mul_zero, Nat.zero_mul, Nat.mul_one, Nat.sub_zero, Nat.sub_self, Nat.add_sub_cancel, l]
theorem cnt_m10 {P : Nat → Nat} {T : List Nat} {R : List Int64} {U : List (Nat → Nat)} {K : Nat → Option (Nat → Nat)} : MD (fX7_count (zN 10)) P T R U K (zN (R.length)) P T R U K := by
  refine MD_no (fun M hM => ?_)
  have l : M.1 158 4 = zN (R.length) := hM.2.2.1.1
  have t := in7F (a := 10) (lo := 0) (hi := 7) (by omega) (wr M 158 5 (zN 0))
  unfold fX7_count; simp (disch := omega) only [wr_cj, wr_nj, rng_in, rng_out, zN_lit, zN_add, zN_mul, zN_sub, zN_ltT, zN_ltF, zN_leT, zN_leF, zN_eqT, zN_eqF, zN_lt, zN_le, zN_eq, zN_nat, zN_oobF, Option.bind_some, ↓reduceIte, Nat.one_mul, Nat.zero_add, Nat.add_zero, Nat.reduceAdd, Nat.reduceMul, Nat.reduceSub, Nat.reduceLT, Nat.reduceLeDiff, Nat.reduceEqDiff, reduceCtorEq, true_or, or_true, false_or, or_false, true_and, and_true, false_and, and_false, not_true_eq_false, not_false_eq_true, wr_2, wrL_1, zm_eqF, zm_eqF', zm_lt, zm_lt', zm_le, zm_le', zm_sub1, zN_01, Nat.mul_zero, Nat.zero_mul, Nat.mul_one, Nat.sub_zero, Nat.sub_self, Nat.add_sub_cancel, t, l]
theorem cnt_c11 {P : Nat → Nat} {T : List Nat} {R : List Int64} {U : List (Nat → Nat)} {K : Nat → Option (Nat → Nat)} : CD (fX6_count (zN 11)) P T R U K (zN (T.length)) P T R U K := by
  refine CD_no (fun M hM => ?_)
  obtain ⟨q, hq⟩ := hM.2.2.2.1
  obtain ⟨l0, l1, l2, l3, l4, l5, l6⟩ := hM.1.1
  have l : M.1 153 1 = zN (T.length) := hM.2.1.1
  unfold fX6_count; simp (disch := omega) only [wr_cj, wr_nj, rng_in, rng_out, zN_lit, zN_add, zN_mul, zN_sub, zN_ltT, zN_ltF, zN_leT, zN_leF, zN_eqT, zN_eqF, zN_lt, zN_le, zN_eq, zN_nat, zN_oobF, Option.bind_some, ↓reduceIte, Nat.one_mul, Nat.zero_add, Nat.add_zero, Nat.reduceAdd, Nat.reduceMul, Nat.reduceSub, Nat.reduceLT, Nat.reduceLeDiff, Nat.reduceEqDiff, reduceCtorEq, true_or, or_true, false_or, or_false, true_and, and_true, false_and, and_false, not_true_eq_false, not_false_eq_true, wr_2, wrL_1, zm_eqF, zm_eqF', zm_lt, zm_lt', zm_le, zm_le', zm_sub1, zN_01, Nat.mul_zero, Nat.zero_mul, Nat.mul_one, Nat.sub_zero, Nat.sub_self, Nat.add_sub_cancel, l]
theorem cnt_m11 {P : Nat → Nat} {T : List Nat} {R : List Int64} {U : List (Nat → Nat)} {K : Nat → Option (Nat → Nat)} : MD (fX7_count (zN 11)) P T R U K (zN (T.length)) P T R U K := by
  refine MD_no (fun M hM => ?_)
  have l : M.1 158 2 = zN (T.length) := hM.2.1.1
  have t := in7F (a := 11) (lo := 0) (hi := 7) (by omega) (wr M 158 5 (zN 0))
  unfold fX7_count; simp (disch := omega) only [wr_cj, wr_nj, rng_in, rng_out, zN_lit, zN_add, zN_mul, zN_sub, zN_ltT, zN_ltF, zN_leT, zN_leF, zN_eqT, zN_eqF, zN_lt, zN_le, zN_eq, zN_nat, zN_oobF, Option.bind_some, ↓reduceIte, Nat.one_mul, Nat.zero_add, Nat.add_zero, Nat.reduceAdd, Nat.reduceMul, Nat.reduceSub, Nat.reduceLT, Nat.reduceLeDiff, Nat.reduceEqDiff, reduceCtorEq, true_or, or_true, false_or, or_false, true_and, and_true, false_and, and_false, not_true_eq_false, not_false_eq_true, wr_2, wrL_1, zm_eqF, zm_eqF', zm_lt, zm_lt', zm_le, zm_le', zm_sub1, zN_01, Nat.mul_zero, Nat.zero_mul, Nat.mul_one, Nat.sub_zero, Nat.sub_self, Nat.add_sub_cancel, t, l]
theorem cnt_c12 {P : Nat → Nat} {T : List Nat} {R : List Int64} {U : List (Nat → Nat)} {K : Nat → Option (Nat → Nat)} : CD (fX6_count (zN 12)) P T R U K (zN (P 255)) P T R U K := by
  refine CD_no (fun M hM => ?_)
  obtain ⟨q, hq⟩ := hM.2.2.2.1
  obtain ⟨l0, l1, l2, l3, l4, l5, l6⟩ := hM.1.1
  have l : M.1 0 2 = zN (P 255) := l2
  unfold fX6_count; simp (disch := omega) only [wr_cj, wr_nj, rng_in, rng_out, zN_lit, zN_add, zN_mul, zN_sub, zN_ltT, zN_ltF, zN_leT, zN_leF, zN_eqT, zN_eqF, zN_lt, zN_le, zN_eq, zN_nat, zN_oobF, Option.bind_some, ↓reduceIte, Nat.one_mul, Nat.zero_add, Nat.add_zero, Nat.reduceAdd, Nat.reduceMul, Nat.reduceSub, Nat.reduceLT, Nat.reduceLeDiff, Nat.reduceEqDiff, reduceCtorEq, true_or, or_true, false_or, or_false, true_and, and_true, false_and, and_false, not_true_eq_false, not_false_eq_true, wr_2, wrL_1, zm_eqF, zm_eqF', zm_lt, zm_lt', zm_le, zm_le', zm_sub1, zN_01, Nat.mul_zero, Nat.zero_mul, Nat.mul_one, Nat.sub_zero, Nat.sub_self, Nat.add_sub_cancel, l]
theorem cnt_m12 {P : Nat → Nat} {T : List Nat} {R : List Int64} {U : List (Nat → Nat)} {K : Nat → Option (Nat → Nat)} : MD (fX7_count (zN 12)) P T R U K (zN (P 255)) P T R U K := by
  refine MD_no (fun M hM => ?_)
  have l : M.1 159 255 = zN (P 255) := hM.1 255 (by omega)
  have t := in7F (a := 12) (lo := 0) (hi := 7) (by omega) (wr M 158 5 (zN 0))
  unfold fX7_count; simp (disch := omega) only [wr_cj, wr_nj, rng_in, rng_out, zN_lit, zN_add, zN_mul, zN_sub, zN_ltT, zN_ltF, zN_leT, zN_leF, zN_eqT, zN_eqF, zN_lt, zN_le, zN_eq, zN_nat, zN_oobF, Option.bind_some, ↓reduceIte, Nat.one_mul, Nat.zero_add, Nat.add_zero, Nat.reduceAdd, Nat.reduceMul, Nat.reduceSub, Nat.reduceLT, Nat.reduceLeDiff, Nat.reduceEqDiff, reduceCtorEq, true_or, or_true, false_or, or_false, true_and, and_true, false_and, and_false, not_true_eq_false, not_false_eq_true, wr_2, wrL_1, zm_eqF, zm_eqF', zm_lt, zm_lt', zm_le, zm_le', zm_sub1, zN_01, Nat.mul_zero, Nat.zero_mul, Nat.mul_one, Nat.sub_zero, Nat.sub_self, Nat.add_sub_cancel, t, l]
theorem cnt_c13 {P : Nat → Nat} {T : List Nat} {R : List Int64} {U : List (Nat → Nat)} {K : Nat → Option (Nat → Nat)} : CD (fX6_count (zN 13)) P T R U K (zN (P 256)) P T R U K := by
  refine CD_no (fun M hM => ?_)
  obtain ⟨q, hq⟩ := hM.2.2.2.1
  obtain ⟨l0, l1, l2, l3, l4, l5, l6⟩ := hM.1.1
  have l : M.1 1 0 = zN (P 256) := hM.1.2.1 0 (by omega)
  unfold fX6_count fX6_count_172; simp (disch := omega) only [wr_cj, wr_nj, rng_in, rng_out, zN_lit, zN_add, zN_mul, zN_sub, zN_ltT, zN_ltF, zN_leT, zN_leF, zN_eqT, zN_eqF, zN_lt, zN_le, zN_eq, zN_nat, zN_oobF, Option.bind_some, ↓reduceIte, Nat.one_mul, Nat.zero_add, Nat.add_zero, Nat.reduceAdd, Nat.reduceMul, Nat.reduceSub, Nat.reduceLT, Nat.reduceLeDiff, Nat.reduceEqDiff, reduceCtorEq, true_or, or_true, false_or, or_false, true_and, and_true, false_and, and_false, not_true_eq_false, not_false_eq_true, wr_2, wrL_1, zm_eqF, zm_eqF', zm_lt, zm_lt', zm_le, zm_le', zm_sub1, zN_01, Nat.mul_zero, Nat.zero_mul, Nat.mul_one, Nat.sub_zero, Nat.sub_self, Nat.add_sub_cancel, l]
theorem cnt_m13 {P : Nat → Nat} {T : List Nat} {R : List Int64} {U : List (Nat → Nat)} {K : Nat → Option (Nat → Nat)} : MD (fX7_count (zN 13)) P T R U K (zN (P 256)) P T R U K := by
  refine MD_no (fun M hM => ?_)
  have l : M.1 159 256 = zN (P 256) := hM.1 256 (by omega)
  have t := in7F (a := 13) (lo := 0) (hi := 7) (by omega) (wr M 158 5 (zN 0))
  have t2 := in7T (a := 13) (lo := 13) (hi := 15) (by omega) (wr M 158 5 (zN 0))
  unfold fX7_count; simp (disch := omega) only [wr_cj, wr_nj, rng_in, rng_out, zN_lit, zN_add, zN_mul, zN_sub, zN_ltT, zN_ltF, zN_leT, zN_leF, zN_eqT, zN_eqF, zN_lt, zN_le, zN_eq, zN_nat, zN_oobF, Option.bind_some, ↓reduceIte, Nat.one_mul, Nat.zero_add, Nat.add_zero, Nat.reduceAdd, Nat.reduceMul, Nat.reduceSub, Nat.reduceLT, Nat.reduceLeDiff, Nat.reduceEqDiff, reduceCtorEq, true_or, or_true, false_or, or_false, true_and, and_true, false_and, and_false, not_true_eq_false, not_false_eq_true, wr_2, wrL_1, zm_eqF, zm_eqF', zm_lt, zm_lt', zm_le, zm_le', zm_sub1, zN_01, Nat.mul_zero, Nat.zero_mul, Nat.mul_one, Nat.sub_zero, Nat.sub_self, Nat.add_sub_cancel, t, t2, l]
theorem cnt_c14 {P : Nat → Nat} {T : List Nat} {R : List Int64} {U : List (Nat → Nat)} {K : Nat → Option (Nat → Nat)} : CD (fX6_count (zN 14)) P T R U K (zN (P 257)) P T R U K := by
  refine CD_no (fun M hM => ?_)
  obtain ⟨q, hq⟩ := hM.2.2.2.1
  obtain ⟨l0, l1, l2, l3, l4, l5, l6⟩ := hM.1.1
  have l : M.1 1 1 = zN (P 257) := hM.1.2.1 1 (by omega)
  unfold fX6_count fX6_count_172; simp (disch := omega) only [wr_cj, wr_nj, rng_in, rng_out, zN_lit, zN_add, zN_mul, zN_sub, zN_ltT, zN_ltF, zN_leT, zN_leF, zN_eqT, zN_eqF, zN_lt, zN_le, zN_eq, zN_nat, zN_oobF, Option.bind_some, ↓reduceIte, Nat.one_mul, Nat.zero_add, Nat.add_zero, Nat.reduceAdd, Nat.reduceMul, Nat.reduceSub, Nat.reduceLT, Nat.reduceLeDiff, Nat.reduceEqDiff, reduceCtorEq, true_or, or_true, false_or, or_false, true_and, and_true, false_and, and_false, not_true_eq_false, not_false_eq_true, wr_2, wrL_1, zm_eqF, zm_eqF', zm_lt, zm_lt', zm_le, zm_le', zm_sub1, zN_01, Nat.mul_zero, Nat.zero_mul, Nat.mul_one, Nat.sub_zero, Nat.sub_self, Nat.add_sub_cancel, l]
theorem cnt_m14 {P : Nat → Nat} {T : List Nat} {R : List Int64} {U : List (Nat → Nat)} {K : Nat → Option (Nat → Nat)} : MD (fX7_count (zN 14)) P T R U K (zN (P 257)) P T R U K := by
  refine MD_no (fun M hM => ?_)
  have l : M.1 159 257 = zN (P 257) := hM.1 257 (by omega)
  have t := in7F (a := 14) (lo := 0) (hi := 7) (by omega) (wr M 158 5 (zN 0))
  have t2 := in7T (a := 14) (lo := 13) (hi := 15) (by omega) (wr M 158 5 (zN 0))
  unfold fX7_count; simp (disch := omega) only [wr_cj, wr_nj, rng_in, rng_out, zN_lit, zN_add, zN_mul, zN_sub, zN_ltT, zN_ltF, zN_leT, zN_leF, zN_eqT, zN_eqF, zN_lt, zN_le, zN_eq, zN_nat, zN_oobF, Option.bind_some, ↓reduceIte, Nat.one_mul, Nat.zero_add, Nat.add_zero, Nat.reduceAdd, Nat.reduceMul, Nat.reduceSub, Nat.reduceLT, Nat.reduceLeDiff, Nat.reduceEqDiff, reduceCtorEq, true_or, or_true, false_or, or_false, true_and, and_true, false_and, and_false, not_true_eq_false, not_false_eq_true, wr_2, wrL_1, zm_eqF, zm_eqF', zm_lt, zm_lt', zm_le, zm_le', zm_sub1, zN_01, Nat.mul_zero, Nat.zero_mul, Nat.mul_one, Nat.sub_zero, Nat.sub_self, Nat.add_sub_cancel, t, t2, l]
theorem cnt_c15 {P : Nat → Nat} {T : List Nat} {R : List Int64} {U : List (Nat → Nat)} {K : Nat → Option (Nat → Nat)} : CD (fX6_count (zN 15)) P T R U K (zN (P 258)) P T R U K := by
  refine CD_no (fun M hM => ?_)
  obtain ⟨q, hq⟩ := hM.2.2.2.1
  obtain ⟨l0, l1, l2, l3, l4, l5, l6⟩ := hM.1.1
  have l : M.1 1 2 = zN (P 258) := hM.1.2.1 2 (by omega)
  unfold fX6_count fX6_count_172; simp (disch := omega) only [wr_cj, wr_nj, rng_in, rng_out, zN_lit, zN_add, zN_mul, zN_sub, zN_ltT, zN_ltF, zN_leT, zN_leF, zN_eqT, zN_eqF, zN_lt, zN_le, zN_eq, zN_nat, zN_oobF, Option.bind_some, ↓reduceIte, Nat.one_mul, Nat.zero_add, Nat.add_zero, Nat.reduceAdd, Nat.reduceMul, Nat.reduceSub, Nat.reduceLT, Nat.reduceLeDiff, Nat.reduceEqDiff, reduceCtorEq, true_or, or_true, false_or, or_false, true_and, and_true, false_and, and_false, not_true_eq_false, not_false_eq_true, wr_2, wrL_1, zm_eqF, zm_eqF', zm_lt, zm_lt', zm_le, zm_le', zm_sub1, zN_01, Nat.mul_zero, Nat.zero_mul, Nat.mul_one, Nat.sub_zero, Nat.sub_self, Nat.add_sub_cancel, l]
theorem cnt_m15 {P : Nat → Nat} {T : List Nat} {R : List Int64} {U : List (Nat → Nat)} {K : Nat → Option (Nat → Nat)} : MD (fX7_count (zN 15)) P T R U K (zN (P 258)) P T R U K := by
  refine MD_no (fun M hM => ?_)
  have l : M.1 159 258 = zN (P 258) := hM.1 258 (by omega)
  have t := in7F (a := 15) (lo := 0) (hi := 7) (by omega) (wr M 158 5 (zN 0))
  have t2 := in7T (a := 15) (lo := 13) (hi := 15) (by omega) (wr M 158 5 (zN 0))
  unfold fX7_count; simp (disch := omega) only [wr_cj, wr_nj, rng_in, rng_out, zN_lit, zN_add, zN_mul, zN_sub, zN_ltT, zN_ltF, zN_leT, zN_leF, zN_eqT, zN_eqF, zN_lt, zN_le, zN_eq, zN_nat, zN_oobF, Option.bind_some, ↓reduceIte, Nat.one_mul, Nat.zero_add, Nat.add_zero, Nat.reduceAdd, Nat.reduceMul, Nat.reduceSub, Nat.reduceLT, Nat.reduceLeDiff, Nat.reduceEqDiff, reduceCtorEq, true_or, or_true, false_or, or_false, true_and, and_true, false_and, and_false, not_true_eq_false, not_false_eq_true, wr_2, wrL_1, zm_eqF, zm_eqF', zm_lt, zm_lt', zm_le, zm_le', zm_sub1, zN_01, Nat.mul_zero, Nat.zero_mul, Nat.mul_one, Nat.sub_zero, Nat.sub_self, Nat.add_sub_cancel, t, t2, l]
theorem cnt_all {P : Nat → Nat} {T : List Nat} {R : List Int64} {U : List (Nat → Nat)} {K : Nat → Option (Nat → Nat)} : ∀ n, n ≤ 15 → ∃ r, CD (fX6_count (zN n)) P T R U K r P T R U K ∧ MD (fX7_count (zN n)) P T R U K r P T R U K
  | 0, _ => ⟨_, cnt_c0, cnt_m0⟩
  | 1, _ => ⟨_, cnt_c1, cnt_m1⟩
  | 2, _ => ⟨_, cnt_c2, cnt_m2⟩
  | 3, _ => ⟨_, cnt_c3, cnt_m3⟩
  | 4, _ => ⟨_, cnt_c4, cnt_m4⟩
  | 5, _ => ⟨_, cnt_c5, cnt_m5⟩
  | 6, _ => ⟨_, cnt_c6, cnt_m6⟩
  | 7, _ => ⟨_, cnt_c7, cnt_m7⟩
  | 8, _ => ⟨_, cnt_c8, cnt_m8⟩
  | 9, _ => ⟨_, cnt_c9, cnt_m9⟩
  | 10, _ => ⟨_, cnt_c10, cnt_m10⟩
  | 11, _ => ⟨_, cnt_c11, cnt_m11⟩
  | 12, _ => ⟨_, cnt_c12, cnt_m12⟩
  | 13, _ => ⟨_, cnt_c13, cnt_m13⟩
  | 14, _ => ⟨_, cnt_c14, cnt_m14⟩
  | 15, _ => ⟨_, cnt_c15, cnt_m15⟩
  | n + 16, h => absurd h (by omega)
theorem cnt_neg6 {x : Int32} (hx : x < 0) (M : zMM) : fX6_count x M = some (-zN 1, M) := by
  have h : ∀ k, k < 2147483648 → ¬ x = zN k := fun k hk e => by rw [zg_eq hx hk] at e; exact e
  unfold fX6_count
  simp only [zN_lit]
  rw [if_neg (h 0 (by omega)), if_neg (h 1 (by omega)), if_neg (h 2 (by omega)), if_neg (h 3 (by omega)), if_neg (h 4 (by omega)), if_neg (h 5 (by omega)), if_neg (h 6 (by omega)), if_neg (h 7 (by omega)), if_neg (h 8 (by omega)), if_neg (h 9 (by omega)), if_neg (h 10 (by omega)), if_neg (h 11 (by omega)), if_neg (h 12 (by omega)), if_neg (h 13 (by omega)), if_neg (h 14 (by omega)), if_neg (h 15 (by omega))]
theorem cnt_big6 {n : Nat} (hn : n < 2147483648) (hb : 15 < n) (M : zMM) : fX6_count (zN n) M = some (-zN 1, M) := by
  have h : ∀ k, k ≤ 15 → ¬ zN n = zN k := fun k hk e => by rw [zN_eq ⟨hn, by omega⟩] at e; omega
  unfold fX6_count
  simp only [zN_lit]
  rw [if_neg (h 0 (by omega)), if_neg (h 1 (by omega)), if_neg (h 2 (by omega)), if_neg (h 3 (by omega)), if_neg (h 4 (by omega)), if_neg (h 5 (by omega)), if_neg (h 6 (by omega)), if_neg (h 7 (by omega)), if_neg (h 8 (by omega)), if_neg (h 9 (by omega)), if_neg (h 10 (by omega)), if_neg (h 11 (by omega)), if_neg (h 12 (by omega)), if_neg (h 13 (by omega)), if_neg (h 14 (by omega)), if_neg (h 15 (by omega))]
theorem cnt_neg7 {x : Int32} (hx : x < 0) (M : zMM) : fX7_count x M = some (-zN 1, wr M 158 5 (zN 0)) := by
  have h : ∀ k, k < 2147483648 → ¬ x = zN k := fun k hk e => by rw [zg_eq hx hk] at e; exact e
  have t := in7g hx (lo := 0) (by omega) (zN 7) (wr M 158 5 (zN 0))
  have t2 := in7g hx (lo := 13) (by omega) (zN 15) (wr M 158 5 (zN 0))
  unfold fX7_count
  simp only [zN_lit]
  rw [t, Option.bind_some, if_pos rfl, if_neg (h 8 (by omega)), if_neg (h 9 (by omega)), if_neg (h 10 (by omega)), if_neg (h 11 (by omega)), if_neg (h 12 (by omega)), t2]; rfl
theorem cnt_big7 {n : Nat} (hn : n < 2147483648) (hb : 15 < n) (M : zMM) : fX7_count (zN n) M = some (-zN 1, wr M 158 5 (zN 0)) := by
  have h : ∀ k, k ≤ 15 → ¬ zN n = zN k := fun k hk e => by rw [zN_eq ⟨hn, by omega⟩] at e; omega
  have t := in7F (a := n) (lo := 0) (hi := 7) (by omega) (wr M 158 5 (zN 0))
  have t2 := in7F (a := n) (lo := 13) (hi := 15) (by omega) (wr M 158 5 (zN 0))
  unfold fX7_count
  simp only [zN_lit]
  rw [t, Option.bind_some, if_pos rfl, if_neg (h 8 (by omega)), if_neg (h 9 (by omega)), if_neg (h 10 (by omega)), if_neg (h 11 (by omega)), if_neg (h 12 (by omega)), t2]; rfl
theorem call_count (x : Int32) : Cll (fX6_count x) (fX7_count x) := by
  refine Cll_of (fun P T R U K hw => ?_)
  rcases zcase x with hx | ⟨n, hn, rfl⟩
  · exact ⟨-zN 1, P, T, R, U, K, hw, CD_no (fun M _ => cnt_neg6 hx M), MD_no (fun M _ => cnt_neg7 hx M)⟩
  · by_cases c : n ≤ 15
    · obtain ⟨r, h1, h2⟩ := cnt_all (P := P) (T := T) (R := R) (U := U) (K := K) n c
      exact ⟨r, P, T, R, U, K, hw, h1, h2⟩
    · exact ⟨-zN 1, P, T, R, U, K, hw, CD_no (fun M _ => cnt_big6 hn (by omega) M), MD_no (fun M _ => cnt_big7 hn (by omega) M)⟩
/-! calls that may throw -/
theorem MI_174 {P : Nat → Nat} {T : List Nat} {R : List Int64} {U : List (Nat → Nat)} {K : Nat → Option (Nat → Nat)} {M : zMM} {v : Int64} (h : MI P T R U K M) : MI P T R U K (wrL M 174 0 v) :=
  MI_new h (fun c j a => by rw [wrL_1]) (MR_fr h.2.2.1 (by rw [wrL_1]) (fun j => wrL_nj (by omega)))
theorem CI_174 {P : Nat → Nat} {T : List Nat} {R : List Int64} {U : List (Nat → Nat)} {K : Nat → Option (Nat → Nat)} {M : zMM} {v : Int64} (hU : U.length ≤ 7) (h : CI P T R U K M) : CI P T R U K (wrL M 174 0 v) :=
  CI_new h hU (fun c j a => by rw [wrL_1]) (CR_fr h.2.2.1 (fun j => by rw [wrL_1]) (fun j => wrL_nj (by omega)))
theorem thr_of {β : Type} (tl : β → Int64) {g : zMM → Option (Option β × zMM)} {h : zMM → Option (β × zMM)} {fl : zMM → Option (Int32 × zMM)} (hl1 : ∀ M M' r, g M = some (some r, M') → fl M = some (0, wrL M' 174 0 (tl r))) (hl2 : ∀ M M', g M = some (none, M') → fl M = some (1, M')) (hc : ∀ P T R U K, WF P T R U K →
      ((∀ M, CI P T R U K M → g M = some (none, M)) ∧ (∀ M, MI P T R U K M → ∃ v M', h M = some (v, M') ∧ M'.1 158 5 = zN 1 ∧ MI P T R U K M' ∧ frM M M')) ∨
      (∃ r R', WF P T R' U K ∧ (∀ M, CI P T R U K M → ∃ M', g M = some (some r, M') ∧ CI P T R' U K M' ∧ frC M M') ∧ (∀ M, MI P T R U K M → ∃ M', h M = some (r, M') ∧ M'.1 158 5 = zN 0 ∧ MI P T R' U K M' ∧ frM M M'))) :
    ∀ M, Inv M → ∃ (k : Int32) (M1 : zMM) (b : β) (M2 : zMM), fl M = some (k, M1) ∧ h M1 = some (b, M2) ∧ M2.1 158 5 = k ∧ (k = 0 → M2.2 174 0 = tl b) ∧ Inv M2 := by
  rintro M ⟨P, T, R, U, K, hw, hC, hM⟩
  have hU := hw.2.2.2.1.1
  rcases hc P T R U K hw with ⟨c, m⟩ | ⟨r, R', hw', c, m⟩
  · obtain ⟨v, M2, e2, t2, m2, f2⟩ := m M hM
    refine ⟨1, M, v, M2, ?_, e2, t2, fun h => absurd h (by decide), P, T, R, U, K, hw, CI_frM hC hU f2, m2⟩
    exact hl2 M M (c M hC)
  · obtain ⟨M1, e1, c1, f1⟩ := c M hC
    obtain ⟨M2, e2, t2, m2, f2⟩ := m (wrL M1 174 0 (tl r)) (MI_174 (MI_frC hM f1))
    refine ⟨0, wrL M1 174 0 (tl r), r, M2, ?_, e2, t2, fun _ => ?_, P, T, R', U, K, hw', CI_frM (CI_174 hU c1) hU f2, m2⟩
    · exact hl1 M M1 r e1
    · rw [(f2 174 (by omega)).2 0]; exact wrL_cj _ _ _ _
theorem call_row (x : Int32) : ∀ M, Inv M → ∃ k M1 b M2, fL_row x M = some (k, M1) ∧ fX7_row x M1 = some (b, M2) ∧ M2.1 158 5 = k ∧ (k = 0 → M2.2 174 0 = b) ∧ Inv M2 := by
  refine thr_of (fun b : Int64 => b) (g := fX6_row x) (h := fX7_row x) (fl := fL_row x) (fun M M' r e => by unfold fL_row; rw [e]; rfl) (fun M M' e => by unfold fL_row; rw [e]; rfl) (fun P T R U K hw => ?_)
  have hR := hw.2.2.1
  have lose : (∀ M, MI P T R U K M → fX7_in x (zN 0) (zN R.length - zN 1) (wr M 158 5 (zN 0)) = some (zN 0, wr M 158 5 (zN 0))) → ∀ M, MI P T R U K M → ∃ v M', fX7_row x M = some (v, M') ∧ M'.1 158 5 = zN 1 ∧ MI P T R U K M' ∧ frM M M' := by
    intro h M hM
    have t := h M hM
    have l := hM.2.2.1.1
    refine ⟨(zN 0).toInt64, wr (wr M 158 5 (zN 0)) 158 5 (zN 1), ?_, by rw [wr_cj], MI_th (MI_th hM), frM_trans (frM_th M _) (frM_th _ _)⟩
    · unfold fX7_row fX7_lost
      simp only [zN_lit]
      rw [wr_nj (by omega), l, t]
      simp (disch := omega) only [wr_cj, wr_nj, rng_in, rng_out, zN_lit, zN_add, zN_mul, zN_sub, zN_ltT, zN_ltF, zN_leT, zN_leF, zN_eqT, zN_eqF, zN_lt, zN_le, zN_eq, zN_nat, zN_oobF, Option.bind_some, ↓reduceIte, Nat.one_mul, Nat.zero_add, Nat.add_zero, Nat.reduceAdd, Nat.reduceMul, Nat.reduceSub, Nat.reduceLT, Nat.reduceLeDiff, Nat.reduceEqDiff, reduceCtorEq, true_or, or_true, false_or, or_false, true_and, and_true, false_and, and_false, not_true_eq_false, not_false_eq_true, wr_2, wrL_1, zm_eqF, zm_eqF', zm_lt, zm_lt', zm_le, zm_le', zm_sub1, zN_01, Nat.mul_zero, Nat.zero_mul, Nat.mul_one, Nat.sub_zero, Nat.sub_self, Nat.add_sub_cancel]
  rcases zcase x with hx | ⟨n, hn, rfl⟩
  · left
    refine ⟨fun M hM => ?_, lose (fun M hM => in7g hx (by omega) _ _)⟩
    unfold fX6_row; simp (disch := omega) only [wr_cj, wr_nj, rng_in, rng_out, zN_lit, zN_add, zN_mul, zN_sub, zN_ltT, zN_ltF, zN_leT, zN_leF, zN_eqT, zN_eqF, zN_lt, zN_le, zN_eq, zN_nat, zN_oobF, Option.bind_some, ↓reduceIte, Nat.one_mul, Nat.zero_add, Nat.add_zero, Nat.reduceAdd, Nat.reduceMul, Nat.reduceSub, Nat.reduceLT, Nat.reduceLeDiff, Nat.reduceEqDiff, reduceCtorEq, true_or, or_true, false_or, or_false, true_and, and_true, false_and, and_false, not_true_eq_false, not_false_eq_true, wr_2, wrL_1, zm_eqF, zm_eqF', zm_lt, zm_lt', zm_le, zm_le', zm_sub1, zN_01, Nat.mul_zero, Nat.zero_mul, Nat.mul_one, Nat.sub_zero, Nat.sub_self, Nat.add_sub_cancel, zg_lt hx]
  · by_cases c : n < R.length
    · right
      refine ⟨R.getD n 0, R, hw, fun M hM => ⟨M, ?_, hM, frC_refl M⟩, fun M hM => ⟨wr M 158 5 (zN 0), ?_, by rw [wr_cj], MI_th hM, frM_th M _⟩⟩
      · have l := hM.2.2.1.1
        have v := hM.2.2.1.2 n c
        unfold fX6_row; simp (disch := omega) only [wr_cj, wr_nj, rng_in, rng_out, zN_lit, zN_add, zN_mul, zN_sub, zN_ltT, zN_ltF, zN_leT, zN_leF, zN_eqT, zN_eqF, zN_lt, zN_le, zN_eq, zN_nat, zN_oobF, Option.bind_some, ↓reduceIte, Nat.one_mul, Nat.zero_add, Nat.add_zero, Nat.reduceAdd, Nat.reduceMul, Nat.reduceSub, Nat.reduceLT, Nat.reduceLeDiff, Nat.reduceEqDiff, reduceCtorEq, true_or, or_true, false_or, or_false, true_and, and_true, false_and, and_false, not_true_eq_false, not_false_eq_true, wr_2, wrL_1, zm_eqF, zm_eqF', zm_lt, zm_lt', zm_le, zm_le', zm_sub1, zN_01, Nat.mul_zero, Nat.zero_mul, Nat.mul_one, Nat.sub_zero, Nat.sub_self, Nat.add_sub_cancel, l, v]
      · have l := hM.2.2.1.1
        have v := hM.2.2.1.2 n c
        have t := in7T (a := n) (lo := 0) (hi := R.length - 1) (by omega) (wr M 158 5 (zN 0))
        unfold fX7_row; simp (disch := omega) only [wr_cj, wr_nj, rng_in, rng_out, zN_lit, zN_add, zN_mul, zN_sub, zN_ltT, zN_ltF, zN_leT, zN_leF, zN_eqT, zN_eqF, zN_lt, zN_le, zN_eq, zN_nat, zN_oobF, Option.bind_some, ↓reduceIte, Nat.one_mul, Nat.zero_add, Nat.add_zero, Nat.reduceAdd, Nat.reduceMul, Nat.reduceSub, Nat.reduceLT, Nat.reduceLeDiff, Nat.reduceEqDiff, reduceCtorEq, true_or, or_true, false_or, or_false, true_and, and_true, false_and, and_false, not_true_eq_false, not_false_eq_true, wr_2, wrL_1, zm_eqF, zm_eqF', zm_lt, zm_lt', zm_le, zm_le', zm_sub1, zN_01, Nat.mul_zero, Nat.zero_mul, Nat.mul_one, Nat.sub_zero, Nat.sub_self, Nat.add_sub_cancel, l, t, v]
    · left
      refine ⟨fun M hM => ?_, lose (fun M hM => ?_)⟩
      · have l := hM.2.2.1.1
        unfold fX6_row; simp (disch := omega) only [wr_cj, wr_nj, rng_in, rng_out, zN_lit, zN_add, zN_mul, zN_sub, zN_ltT, zN_ltF, zN_leT, zN_leF, zN_eqT, zN_eqF, zN_lt, zN_le, zN_eq, zN_nat, zN_oobF, Option.bind_some, ↓reduceIte, Nat.one_mul, Nat.zero_add, Nat.add_zero, Nat.reduceAdd, Nat.reduceMul, Nat.reduceSub, Nat.reduceLT, Nat.reduceLeDiff, Nat.reduceEqDiff, reduceCtorEq, true_or, or_true, false_or, or_false, true_and, and_true, false_and, and_false, not_true_eq_false, not_false_eq_true, wr_2, wrL_1, zm_eqF, zm_eqF', zm_lt, zm_lt', zm_le, zm_le', zm_sub1, zN_01, Nat.mul_zero, Nat.zero_mul, Nat.mul_one, Nat.sub_zero, Nat.sub_self, Nat.add_sub_cancel, l]
      · by_cases d : R.length = 0
        · rw [d, zN_01]; exact in7M (by omega) _
        · rw [zN_sub (by omega)]; exact in7F (by omega) _
/-! ties -/
theorem call_tie (x : Int32) : ∀ M, Inv M → ∃ k M1 b M2, fL_tie x M = some (k, M1) ∧ fX7_tie x M1 = some (b, M2) ∧ M2.1 158 5 = k ∧ (k = 0 → M2.2 174 0 = b.toInt64) ∧ Inv M2 := by
  refine thr_of (fun b : Int32 => b.toInt64) (g := fX6_tie x) (h := fX7_tie x) (fl := fL_tie x) (fun M M' r e => by unfold fL_tie; rw [e]; rfl) (fun M M' e => by unfold fL_tie; rw [e]; rfl) (fun P T R U K hw => ?_)
  have hP := hw.1
  have hU := hw.2.2.2.1.1
  have h12 := hP.2.2.1.1
  have lose : (∀ M, MI P T R U K M → fX7_in x (zN 0) (zN (P 218) - zN 1) (wr M 158 5 (zN 0)) = some (zN 0, wr M 158 5 (zN 0))) → ∀ M, MI P T R U K M → ∃ v M', fX7_tie x M = some (v, M') ∧ M'.1 158 5 = zN 1 ∧ MI P T R U K M' ∧ frM M M' := by
    intro h M hM
    have t := h M hM
    have l := hM.1 218 (by omega)
    refine ⟨zN 0, wr (wr M 158 5 (zN 0)) 158 5 (zN 1), ?_, by rw [wr_cj], MI_th (MI_th hM), frM_trans (frM_th M _) (frM_th _ _)⟩
    · unfold fX7_tie fX7_lost
      simp only [zN_lit]
      rw [wr_nj (by omega), l, t]
      simp (disch := omega) only [wr_cj, wr_nj, rng_in, rng_out, zN_lit, zN_add, zN_mul, zN_sub, zN_ltT, zN_ltF, zN_leT, zN_leF, zN_eqT, zN_eqF, zN_lt, zN_le, zN_eq, zN_nat, zN_oobF, Option.bind_some, ↓reduceIte, Nat.one_mul, Nat.zero_add, Nat.add_zero, Nat.reduceAdd, Nat.reduceMul, Nat.reduceSub, Nat.reduceLT, Nat.reduceLeDiff, Nat.reduceEqDiff, reduceCtorEq, true_or, or_true, false_or, or_false, true_and, and_true, false_and, and_false, not_true_eq_false, not_false_eq_true, wr_2, wrL_1, zm_eqF, zm_eqF', zm_lt, zm_lt', zm_le, zm_le', zm_sub1, zN_01, Nat.mul_zero, Nat.zero_mul, Nat.mul_one, Nat.sub_zero, Nat.sub_self, Nat.add_sub_cancel]
  rcases zcase x with hx | ⟨i, hi, rfl⟩
  · left
    refine ⟨fun M hM => ?_, lose (fun M hM => in7g hx (by omega) _ _)⟩
    unfold fX6_tie; simp (disch := omega) only [wr_cj, wr_nj, rng_in, rng_out, zN_lit, zN_add, zN_mul, zN_sub, zN_ltT, zN_ltF, zN_leT, zN_leF, zN_eqT, zN_eqF, zN_lt, zN_le, zN_eq, zN_nat, zN_oobF, Option.bind_some, ↓reduceIte, Nat.one_mul, Nat.zero_add, Nat.add_zero, Nat.reduceAdd, Nat.reduceMul, Nat.reduceSub, Nat.reduceLT, Nat.reduceLeDiff, Nat.reduceEqDiff, reduceCtorEq, true_or, or_true, false_or, or_false, true_and, and_true, false_and, and_false, not_true_eq_false, not_false_eq_true, wr_2, wrL_1, zm_eqF, zm_eqF', zm_lt, zm_lt', zm_le, zm_le', zm_sub1, zN_01, Nat.mul_zero, Nat.zero_mul, Nat.mul_one, Nat.sub_zero, Nat.sub_self, Nat.add_sub_cancel, zg_lt hx]
  · by_cases c : i < P 218
    · right
      refine ⟨zI (dp P i), [if brk P i = 0 then 0 else 1, (zN (P (219 + 3 * i))).toInt64, (zN (P (220 + 3 * i))).toInt64, (zN (P (221 + 3 * i))).toInt64], WF_R hw (by simp), fun M hM => ?_, fun M hM => ?_⟩
      · have l6 := hM.1.1.2.2.2.2.2.2
        obtain ⟨M1, e1, s1, l1, f1⟩ := cset0 hP (b := 0) (by omega) hM.1
        have a1 := deepOf4 hP l1 s1 c
        have a2 := isBroken6 hP (M := M1) c
        obtain ⟨t1, t2, t3⟩ := l1.2.2.2.2 i c
        simp only [Nat.zero_add] at t1 t2 t3
        obtain ⟨M2, e2, r2, y2⟩ := tell4 (if brk P i = 0 then 0 else 1) (zN (P (219 + 3 * i))).toInt64 (zN (P (220 + 3 * i))).toInt64 (zN (P (221 + 3 * i))).toInt64 M1
        refine ⟨M2, ?_, CI_q hM hU (cq_trans (cq_set f1) (cq_Y y2)) (Leaf_Y l1 (by omega) y2) r2⟩
        unfold fX6_tie fX6_tie_63
        rcases brk_le P i with q | q
        · rw [q] at a2; rw [if_pos q] at e2
          simp (disch := omega) only [wr_cj, wr_nj, rng_in, rng_out, zN_lit, zN_add, zN_mul, zN_sub, zN_ltT, zN_ltF, zN_leT, zN_leF, zN_eqT, zN_eqF, zN_lt, zN_le, zN_eq, zN_nat, zN_oobF, Option.bind_some, ↓reduceIte, Nat.one_mul, Nat.zero_add, Nat.add_zero, Nat.reduceAdd, Nat.reduceMul, Nat.reduceSub, Nat.reduceLT, Nat.reduceLeDiff, Nat.reduceEqDiff, reduceCtorEq, true_or, or_true, false_or, or_false, true_and, and_true, false_and, and_false, not_true_eq_false, not_false_eq_true, wr_2, wrL_1, zm_eqF, zm_eqF', zm_lt, zm_lt', zm_le, zm_le', zm_sub1, zN_01, Nat.mul_zero, Nat.zero_mul, Nat.mul_one, Nat.sub_zero, Nat.sub_self, Nat.add_sub_cancel, l6, e1, a1, a2, t1, t2, t3, e2]
        · rw [q] at a2; rw [if_neg (by omega)] at e2
          simp (disch := omega) only [wr_cj, wr_nj, rng_in, rng_out, zN_lit, zN_add, zN_mul, zN_sub, zN_ltT, zN_ltF, zN_leT, zN_leF, zN_eqT, zN_eqF, zN_lt, zN_le, zN_eq, zN_nat, zN_oobF, Option.bind_some, ↓reduceIte, Nat.one_mul, Nat.zero_add, Nat.add_zero, Nat.reduceAdd, Nat.reduceMul, Nat.reduceSub, Nat.reduceLT, Nat.reduceLeDiff, Nat.reduceEqDiff, reduceCtorEq, true_or, or_true, false_or, or_false, true_and, and_true, false_and, and_false, not_true_eq_false, not_false_eq_true, wr_2, wrL_1, zm_eqF, zm_eqF', zm_lt, zm_lt', zm_le, zm_le', zm_sub1, zN_01, Nat.mul_zero, Nat.zero_mul, Nat.mul_one, Nat.sub_zero, Nat.sub_self, Nat.add_sub_cancel, l6, e1, a1, a2, t1, t2, t3, e2]
      · have m := hM.1 218 (by omega)
        have t := in7T (a := i) (lo := 0) (hi := P 218 - 1) (by omega) (wr M 158 5 (zN 0))
        have h0 := MNow_w (j := 5) (v := zN 0) hM.1
        obtain ⟨M1, e1, s1, n1, f1⟩ := mset0 hP h0
        have a2 := isBroken7 hP (MNow_w (j := 4) (v := zN 0) n1) (MSet_4 s1) c
        obtain ⟨M2, e2, r2, x2⟩ := tell7 (MR_nil M1) (by simp) (if brk P i = 0 then 0 else 1)
        have n2 := MNow_X (MNow_w n1) x2
        have s2 := MSet_X (MSet_4 s1) x2
        have d0 := tied7 n2 (i := i) (j := 0) (by omega)
        obtain ⟨M3, e3, r3, x3⟩ := tell7 r2 (by simp) (zN (P (219 + 3 * i))).toInt64
        have n3 := MNow_X n2 x3
        have s3 := MSet_X s2 x3
        have d1 := tied7 n3 (i := i) (j := 1) (by omega)
        obtain ⟨M4, e4, r4, x4⟩ := tell7 r3 (by simp) (zN (P (220 + 3 * i))).toInt64
        have n4 := MNow_X n3 x4
        have s4 := MSet_X s3 x4
        have d2 := tied7 n4 (i := i) (j := 2) (by omega)
        obtain ⟨M5, e5, r5, x5⟩ := tell7 r4 (by simp) (zN (P (221 + 3 * i))).toInt64
        have n5 := MNow_X n4 x5
        have s5 := MSet_X s4 x5
        have a1 := deepOf7 hP n5 s5 c
        rw [Nat.add_zero] at d0
        rw [show 219 + 3 * i + 1 = 220 + 3 * i by omega] at d1
        rw [show 219 + 3 * i + 2 = 221 + 3 * i by omega] at d2
        have e51 : fX7_tie_51 (zN i) (if brk P i = 0 then 0 else 1) (wr M1 158 4 (zN 0)) = some (zI (dp P i), M5) := by
          unfold fX7_tie_51
          rw [e2, Option.bind_some]
          have gen : ∀ f, fX7_tie_56 (zN i) (f + 1 + 1 + 1 + 1) 0 M2 = some (zI (dp P i), M5) := by
            intro f
            rw [fX7_tie_56]; simp (disch := omega) only [wr_cj, wr_nj, rng_in, rng_out, zN_lit, zN_add, zN_mul, zN_sub, zN_ltT, zN_ltF, zN_leT, zN_leF, zN_eqT, zN_eqF, zN_lt, zN_le, zN_eq, zN_nat, zN_oobF, Option.bind_some, ↓reduceIte, Nat.one_mul, Nat.zero_add, Nat.add_zero, Nat.reduceAdd, Nat.reduceMul, Nat.reduceSub, Nat.reduceLT, Nat.reduceLeDiff, Nat.reduceEqDiff, reduceCtorEq, true_or, or_true, false_or, or_false, true_and, and_true, false_and, and_false, not_true_eq_false, not_false_eq_true, wr_2, wrL_1, zm_eqF, zm_eqF', zm_lt, zm_lt', zm_le, zm_le', zm_sub1, zN_01, Nat.mul_zero, Nat.zero_mul, Nat.mul_one, Nat.sub_zero, Nat.sub_self, Nat.add_sub_cancel, d0, e3]
            rw [fX7_tie_56]; simp (disch := omega) only [wr_cj, wr_nj, rng_in, rng_out, zN_lit, zN_add, zN_mul, zN_sub, zN_ltT, zN_ltF, zN_leT, zN_leF, zN_eqT, zN_eqF, zN_lt, zN_le, zN_eq, zN_nat, zN_oobF, Option.bind_some, ↓reduceIte, Nat.one_mul, Nat.zero_add, Nat.add_zero, Nat.reduceAdd, Nat.reduceMul, Nat.reduceSub, Nat.reduceLT, Nat.reduceLeDiff, Nat.reduceEqDiff, reduceCtorEq, true_or, or_true, false_or, or_false, true_and, and_true, false_and, and_false, not_true_eq_false, not_false_eq_true, wr_2, wrL_1, zm_eqF, zm_eqF', zm_lt, zm_lt', zm_le, zm_le', zm_sub1, zN_01, Nat.mul_zero, Nat.zero_mul, Nat.mul_one, Nat.sub_zero, Nat.sub_self, Nat.add_sub_cancel, d1, e4]
            rw [fX7_tie_56]; simp (disch := omega) only [wr_cj, wr_nj, rng_in, rng_out, zN_lit, zN_add, zN_mul, zN_sub, zN_ltT, zN_ltF, zN_leT, zN_leF, zN_eqT, zN_eqF, zN_lt, zN_le, zN_eq, zN_nat, zN_oobF, Option.bind_some, ↓reduceIte, Nat.one_mul, Nat.zero_add, Nat.add_zero, Nat.reduceAdd, Nat.reduceMul, Nat.reduceSub, Nat.reduceLT, Nat.reduceLeDiff, Nat.reduceEqDiff, reduceCtorEq, true_or, or_true, false_or, or_false, true_and, and_true, false_and, and_false, not_true_eq_false, not_false_eq_true, wr_2, wrL_1, zm_eqF, zm_eqF', zm_lt, zm_lt', zm_le, zm_le', zm_sub1, zN_01, Nat.mul_zero, Nat.zero_mul, Nat.mul_one, Nat.sub_zero, Nat.sub_self, Nat.add_sub_cancel, d2, e5]
            rw [fX7_tie_56]; simp (disch := omega) only [wr_cj, wr_nj, rng_in, rng_out, zN_lit, zN_add, zN_mul, zN_sub, zN_ltT, zN_ltF, zN_leT, zN_leF, zN_eqT, zN_eqF, zN_lt, zN_le, zN_eq, zN_nat, zN_oobF, Option.bind_some, ↓reduceIte, Nat.one_mul, Nat.zero_add, Nat.add_zero, Nat.reduceAdd, Nat.reduceMul, Nat.reduceSub, Nat.reduceLT, Nat.reduceLeDiff, Nat.reduceEqDiff, reduceCtorEq, true_or, or_true, false_or, or_false, true_and, and_true, false_and, and_false, not_true_eq_false, not_false_eq_true, wr_2, wrL_1, zm_eqF, zm_eqF', zm_lt, zm_lt', zm_le, zm_le', zm_sub1, zN_01, Nat.mul_zero, Nat.zero_mul, Nat.mul_one, Nat.sub_zero, Nat.sub_self, Nat.add_sub_cancel, a1]
          exact gen 2147483644
        have hq := MI_q hM (mq_trans (mq_w (j := 5) (v := zN 0) (by omega)) (mq_trans (mq_MS f1) (mq_trans (mq_w (j := 4) (v := zN 0) (by omega)) (mq_trans (mq_X x2) (mq_trans (mq_X x3) (mq_trans (mq_X x4) (mq_X x5))))))) n5 (MR4 r5)
        refine ⟨M5, ?_, ?_, hq⟩
        · unfold fX7_tie
          rcases brk_le P i with q | q
          · rw [q] at a2; rw [if_pos q] at e51
            simp (disch := omega) only [wr_cj, wr_nj, rng_in, rng_out, zN_lit, zN_add, zN_mul, zN_sub, zN_ltT, zN_ltF, zN_leT, zN_leF, zN_eqT, zN_eqF, zN_lt, zN_le, zN_eq, zN_nat, zN_oobF, Option.bind_some, ↓reduceIte, Nat.one_mul, Nat.zero_add, Nat.add_zero, Nat.reduceAdd, Nat.reduceMul, Nat.reduceSub, Nat.reduceLT, Nat.reduceLeDiff, Nat.reduceEqDiff, reduceCtorEq, true_or, or_true, false_or, or_false, true_and, and_true, false_and, and_false, not_true_eq_false, not_false_eq_true, wr_2, wrL_1, zm_eqF, zm_eqF', zm_lt, zm_lt', zm_le, zm_le', zm_sub1, zN_01, Nat.mul_zero, Nat.zero_mul, Nat.mul_one, Nat.sub_zero, Nat.sub_self, Nat.add_sub_cancel, m, t, e1, a2, e51]
          · rw [q] at a2; rw [if_neg (by omega)] at e51
            simp (disch := omega) only [wr_cj, wr_nj, rng_in, rng_out, zN_lit, zN_add, zN_mul, zN_sub, zN_ltT, zN_ltF, zN_leT, zN_leF, zN_eqT, zN_eqF, zN_lt, zN_le, zN_eq, zN_nat, zN_oobF, Option.bind_some, ↓reduceIte, Nat.one_mul, Nat.zero_add, Nat.add_zero, Nat.reduceAdd, Nat.reduceMul, Nat.reduceSub, Nat.reduceLT, Nat.reduceLeDiff, Nat.reduceEqDiff, reduceCtorEq, true_or, or_true, false_or, or_false, true_and, and_true, false_and, and_false, not_true_eq_false, not_false_eq_true, wr_2, wrL_1, zm_eqF, zm_eqF', zm_lt, zm_lt', zm_le, zm_le', zm_sub1, zN_01, Nat.mul_zero, Nat.zero_mul, Nat.mul_one, Nat.sub_zero, Nat.sub_self, Nat.add_sub_cancel, m, t, e1, a2, e51]
        · rw [x5.1 _ _ (by omega), x4.1 _ _ (by omega), x3.1 _ _ (by omega), x2.1 _ _ (by omega), wr_nj (by omega), f1.1 _ _ (by unfold MS; omega), wr_cj]
    · left
      refine ⟨fun M hM => ?_, lose (fun M hM => ?_)⟩
      · have l6 := hM.1.1.2.2.2.2.2.2
        unfold fX6_tie; simp (disch := omega) only [wr_cj, wr_nj, rng_in, rng_out, zN_lit, zN_add, zN_mul, zN_sub, zN_ltT, zN_ltF, zN_leT, zN_leF, zN_eqT, zN_eqF, zN_lt, zN_le, zN_eq, zN_nat, zN_oobF, Option.bind_some, ↓reduceIte, Nat.one_mul, Nat.zero_add, Nat.add_zero, Nat.reduceAdd, Nat.reduceMul, Nat.reduceSub, Nat.reduceLT, Nat.reduceLeDiff, Nat.reduceEqDiff, reduceCtorEq, true_or, or_true, false_or, or_false, true_and, and_true, false_and, and_false, not_true_eq_false, not_false_eq_true, wr_2, wrL_1, zm_eqF, zm_eqF', zm_lt, zm_lt', zm_le, zm_le', zm_sub1, zN_01, Nat.mul_zero, Nat.zero_mul, Nat.mul_one, Nat.sub_zero, Nat.sub_self, Nat.add_sub_cancel, l6]
      · by_cases d : P 218 = 0
        · rw [d, zN_01]; exact in7M (by omega) _
        · rw [zN_sub (by omega)]; exact in7F (by omega) _
theorem zsub1 (n : Nat) : zN n - zN 1 = zN n + -zN 1 := by rw [zm_I]; unfold zN; rw [zI_sub, zI_add]; rfl
theorem zdn0 : zN 0 + -zN 1 = -zN 1 := by rw [zm_I]; unfold zN; rw [zI_add]; rfl
theorem zdnS (n : Nat) : zN (n + 1) + -zN 1 = zN n := by rw [zm_sub1 (by omega)]; rfl
def brL (P : Nat → Nat) : Nat → Int32 → Int32 → Int32 × Int32
  | 0, f, s => (f, s)
  | i + 1, f, s => brL P i (if brk P i = 0 then f else zN i) (s + zI (dp P i))
theorem call_broken : Cll fX6_broken fX7_broken := by
  refine Cll_of (fun P T R U K hw => ?_)
  have hP := hw.1
  have hU := hw.2.2.2.1.1
  have h12 := hP.2.2.1.1
  refine ⟨zN (nbr P (P 218)), P, T, [(brL P (P 218) (-zN 1) (zN 0)).1.toInt64, (brL P (P 218) (-zN 1) (zN 0)).2.toInt64], U, K, WF_R hw (by simp), fun M hM => ?_, fun M hM => ?_⟩
  · have l6 := hM.1.1.2.2.2.2.2.2
    obtain ⟨M1, e1, s1, l1, f1⟩ := cset0 hP (b := 0) (by omega) hM.1
    have l6' := l1.1.2.2.2.2.2.2
    have lp : ∀ i f s fuel, i ≤ P 218 → i < fuel → fX6_broken_25 fuel f s (zN i + -zN 1) M1 = (fX2_tell_ (brL P i f s).1.toInt64 (brL P i f s).2.toInt64 M1).bind fun q2 => (fX4_brokenTies 0 q2).bind fun q3 => some (q3.1, q3.2) := by
      intro i
      induction i with
      | zero =>
        intro f s fuel hi hf
        obtain ⟨fu, rfl⟩ : ∃ q, fuel = q + 1 := ⟨fuel - 1, by omega⟩
        rw [fX6_broken_25, zdn0]
        simp (disch := omega) only [wr_cj, wr_nj, rng_in, rng_out, zN_lit, zN_add, zN_mul, zN_sub, zN_ltT, zN_ltF, zN_leT, zN_leF, zN_eqT, zN_eqF, zN_lt, zN_le, zN_eq, zN_nat, zN_oobF, Option.bind_some, ↓reduceIte, Nat.one_mul, Nat.zero_add, Nat.add_zero, Nat.reduceAdd, Nat.reduceMul, Nat.reduceSub, Nat.reduceLT, Nat.reduceLeDiff, Nat.reduceEqDiff, reduceCtorEq, true_or, or_true, false_or, or_false, true_and, and_true, false_and, and_false, not_true_eq_false, not_false_eq_true, wr_2, wrL_1, zm_eqF, zm_eqF', zm_lt, zm_lt', zm_le, zm_le', zm_sub1, zN_01, Nat.mul_zero, Nat.zero_mul, Nat.mul_one, Nat.sub_zero, Nat.sub_self, Nat.add_sub_cancel, brL]
      | succ i ih =>
        intro f s fuel hi hf
        obtain ⟨fu, rfl⟩ : ∃ q, fuel = q + 1 := ⟨fuel - 1, by omega⟩
        have a1 := deepOf4 hP l1 s1 (i := i) (by omega)
        have a2 := isBroken6 hP (M := M1) (i := i) (by omega)
        have e3 := ih (if brk P i = 0 then f else zN i) (s + zI (dp P i)) fu (by omega) (by omega)
        rw [fX6_broken_25, zdnS]
        rcases brk_le P i with q | q
        · rw [q] at a2; rw [if_pos q] at e3
          simp (disch := omega) only [wr_cj, wr_nj, rng_in, rng_out, zN_lit, zN_add, zN_mul, zN_sub, zN_ltT, zN_ltF, zN_leT, zN_leF, zN_eqT, zN_eqF, zN_lt, zN_le, zN_eq, zN_nat, zN_oobF, Option.bind_some, ↓reduceIte, Nat.one_mul, Nat.zero_add, Nat.add_zero, Nat.reduceAdd, Nat.reduceMul, Nat.reduceSub, Nat.reduceLT, Nat.reduceLeDiff, Nat.reduceEqDiff, reduceCtorEq, true_or, or_true, false_or, or_false, true_and, and_true, false_and, and_false, not_true_eq_false, not_false_eq_true, wr_2, wrL_1, zm_eqF, zm_eqF', zm_lt, zm_lt', zm_le, zm_le', zm_sub1, zN_01, Nat.mul_zero, Nat.zero_mul, Nat.mul_one, Nat.sub_zero, Nat.sub_self, Nat.add_sub_cancel, a1, a2, fX6_broken_58, brL, q]
          rw [← e3]
        · rw [q] at a2; rw [if_neg (by omega)] at e3
          simp (disch := omega) only [wr_cj, wr_nj, rng_in, rng_out, zN_lit, zN_add, zN_mul, zN_sub, zN_ltT, zN_ltF, zN_leT, zN_leF, zN_eqT, zN_eqF, zN_lt, zN_le, zN_eq, zN_nat, zN_oobF, Option.bind_some, ↓reduceIte, Nat.one_mul, Nat.zero_add, Nat.add_zero, Nat.reduceAdd, Nat.reduceMul, Nat.reduceSub, Nat.reduceLT, Nat.reduceLeDiff, Nat.reduceEqDiff, reduceCtorEq, true_or, or_true, false_or, or_false, true_and, and_true, false_and, and_false, not_true_eq_false, not_false_eq_true, wr_2, wrL_1, zm_eqF, zm_eqF', zm_lt, zm_lt', zm_le, zm_le', zm_sub1, zN_01, Nat.mul_zero, Nat.zero_mul, Nat.mul_one, Nat.sub_zero, Nat.sub_self, Nat.add_sub_cancel, a1, a2, fX6_broken_58, brL, q]
          rw [← e3]
    obtain ⟨M2, e2, r2, y2⟩ := tell2 (brL P (P 218) (-zN 1) (zN 0)).1.toInt64 (brL P (P 218) (-zN 1) (zN 0)).2.toInt64 M1
    have bt := brokenTies4 hP (Leaf_Y l1 (by omega) y2) (CSet_Y s1 y2)
    refine ⟨M2, ?_, CI_q hM hU (cq_trans (cq_set f1) (cq_Y y2)) (Leaf_Y l1 (by omega) y2) r2⟩
    have k := lp (P 218) (-zN 1) (zN 0) zFU (Nat.le_refl _) (by rw [zFU_eq]; omega)
    rw [e2, Option.bind_some, bt, Option.bind_some] at k
    unfold fX6_broken
    rw [e1, Option.bind_some, l6']
    simp only [zN_lit]
    rw [zsub1]; exact k
  · have h0 := MNow_w (j := 5) (v := zN 0) hM.1
    obtain ⟨M1, e1, s1, n1, f1⟩ := mset0 hP h0
    have m := n1 218 (by omega)
    have lp : ∀ i f s fuel, i ≤ P 218 → i < fuel → fX7_broken_24 fuel f s (zN i + -zN 1) M1 = (fX7_tell (brL P i f s).1.toInt64 (wr M1 158 4 (zN 0))).bind fun q2 => (fX7_tell (brL P i f s).2.toInt64 q2).bind fun q3 => (fX7_brokenMany q3).bind fun q4 => some (q4.1, q4.2) := by
      intro i
      induction i with
      | zero =>
        intro f s fuel hi hf
        obtain ⟨fu, rfl⟩ : ∃ q, fuel = q + 1 := ⟨fuel - 1, by omega⟩
        rw [fX7_broken_24, zdn0]
        simp (disch := omega) only [wr_cj, wr_nj, rng_in, rng_out, zN_lit, zN_add, zN_mul, zN_sub, zN_ltT, zN_ltF, zN_leT, zN_leF, zN_eqT, zN_eqF, zN_lt, zN_le, zN_eq, zN_nat, zN_oobF, Option.bind_some, ↓reduceIte, Nat.one_mul, Nat.zero_add, Nat.add_zero, Nat.reduceAdd, Nat.reduceMul, Nat.reduceSub, Nat.reduceLT, Nat.reduceLeDiff, Nat.reduceEqDiff, reduceCtorEq, true_or, or_true, false_or, or_false, true_and, and_true, false_and, and_false, not_true_eq_false, not_false_eq_true, wr_2, wrL_1, zm_eqF, zm_eqF', zm_lt, zm_lt', zm_le, zm_le', zm_sub1, zN_01, Nat.mul_zero, Nat.zero_mul, Nat.mul_one, Nat.sub_zero, Nat.sub_self, Nat.add_sub_cancel, brL]
      | succ i ih =>
        intro f s fuel hi hf
        obtain ⟨fu, rfl⟩ : ∃ q, fuel = q + 1 := ⟨fuel - 1, by omega⟩
        have a1 := deepOf7 hP n1 s1 (i := i) (by omega)
        have a2 := isBroken7 hP n1 s1 (i := i) (by omega)
        have e3 := ih (if brk P i = 0 then f else zN i) (s + zI (dp P i)) fu (by omega) (by omega)
        rw [fX7_broken_24, zdnS]
        rcases brk_le P i with q | q
        · rw [q] at a2; rw [if_pos q] at e3
          simp (disch := omega) only [wr_cj, wr_nj, rng_in, rng_out, zN_lit, zN_add, zN_mul, zN_sub, zN_ltT, zN_ltF, zN_leT, zN_leF, zN_eqT, zN_eqF, zN_lt, zN_le, zN_eq, zN_nat, zN_oobF, Option.bind_some, ↓reduceIte, Nat.one_mul, Nat.zero_add, Nat.add_zero, Nat.reduceAdd, Nat.reduceMul, Nat.reduceSub, Nat.reduceLT, Nat.reduceLeDiff, Nat.reduceEqDiff, reduceCtorEq, true_or, or_true, false_or, or_false, true_and, and_true, false_and, and_false, not_true_eq_false, not_false_eq_true, wr_2, wrL_1, zm_eqF, zm_eqF', zm_lt, zm_lt', zm_le, zm_le', zm_sub1, zN_01, Nat.mul_zero, Nat.zero_mul, Nat.mul_one, Nat.sub_zero, Nat.sub_self, Nat.add_sub_cancel, a1, a2, fX7_broken_46, brL, q]
          rw [← e3]
        · rw [q] at a2; rw [if_neg (by omega)] at e3
          simp (disch := omega) only [wr_cj, wr_nj, rng_in, rng_out, zN_lit, zN_add, zN_mul, zN_sub, zN_ltT, zN_ltF, zN_leT, zN_leF, zN_eqT, zN_eqF, zN_lt, zN_le, zN_eq, zN_nat, zN_oobF, Option.bind_some, ↓reduceIte, Nat.one_mul, Nat.zero_add, Nat.add_zero, Nat.reduceAdd, Nat.reduceMul, Nat.reduceSub, Nat.reduceLT, Nat.reduceLeDiff, Nat.reduceEqDiff, reduceCtorEq, true_or, or_true, false_or, or_false, true_and, and_true, false_and, and_false, not_true_eq_false, not_false_eq_true, wr_2, wrL_1, zm_eqF, zm_eqF', zm_lt, zm_lt', zm_le, zm_le', zm_sub1, zN_01, Nat.mul_zero, Nat.zero_mul, Nat.mul_one, Nat.sub_zero, Nat.sub_self, Nat.add_sub_cancel, a1, a2, fX7_broken_46, brL, q]
          rw [← e3]
    obtain ⟨M2, e2, r2, x2⟩ := tell7 (MR_nil M1) (by simp) (brL P (P 218) (-zN 1) (zN 0)).1.toInt64
    obtain ⟨M3, e3, r3, x3⟩ := tell7 r2 (by simp) (brL P (P 218) (-zN 1) (zN 0)).2.toInt64
    have n3 := MNow_X (MNow_X (MNow_w n1) x2) x3
    have s3 := MSet_X (MSet_X (MSet_4 s1) x2) x3
    have bt := brokenMany7 hP n3 s3
    refine ⟨M3, ?_, MI_q hM (mq_trans (mq_w (by omega)) (mq_trans (mq_MS f1) (mq_trans (mq_w (by omega)) (mq_trans (mq_X x2) (mq_X x3))))) n3 (MR2 r3)⟩
    have k := lp (P 218) (-zN 1) (zN 0) zFU (Nat.le_refl _) (by rw [zFU_eq]; omega)
    rw [e2, Option.bind_some, e3, Option.bind_some, bt, Option.bind_some] at k
    unfold fX7_broken
    simp only [zN_lit]
    rw [e1, Option.bind_some, m, zsub1]; exact k
/-- whether a word is tied -/
def tdI (P : Nat → Nat) (t k i : Nat) : Bool := if t = 0 then decide (P (221 + 3 * i) = k) else decide (P (219 + 3 * i) = t) && decide (P (220 + 3 * i) = k)
def tdF (P : Nat → Nat) (t k : Nat) : Nat → Nat → Bool
  | 0, _ => false
  | f + 1, i => if tdI P t k i then true else tdF P t k f (i + 1)
def tdB (P : Nat → Nat) (t k : Nat) : Bool := tdF P t k (P 218) 0
theorem isTieOf0 {P : Nat → Nat} (hP : Good P) {b t k i : Nat} {M : zMM} (hL : Leaf M b P) (ht : t < 3) (hk : k < 1000) (hi : i < P 218) : fX0_isTieOf b (zN i) (zN t) (zN k) M = some (zN (if tdI P t k i then 1 else 0), M) := by
  have h := hP.2.2.1.2 i hi
  have h12 := hP.2.2.1.1
  obtain ⟨l1, l2, l3⟩ := hL.2.2.2.2 i hi
  have c0 := (hP.2.1 0 (by omega)).1
  have c1 := (hP.2.1 (P (219 + 3 * i)) (by omega)).1
  simp only [Nat.reduceAdd] at c0
  unfold fX0_isTieOf tdI
  by_cases a : t = 0
  · subst a
    by_cases c : P (221 + 3 * i) = k
    · simp only [c, decide_true, if_true]; rw [c] at l3; simp (disch := omega) only [wr_cj, wr_nj, rng_in, rng_out, zN_lit, zN_add, zN_mul, zN_sub, zN_ltT, zN_ltF, zN_leT, zN_leF, zN_eqT, zN_eqF, zN_lt, zN_le, zN_eq, zN_nat, zN_oobF, Option.bind_some, ↓reduceIte, Nat.one_mul, Nat.zero_add, Nat.add_zero, Nat.reduceAdd, Nat.reduceMul, Nat.reduceSub, Nat.reduceLT, Nat.reduceLeDiff, Nat.reduceEqDiff, reduceCtorEq, true_or, or_true, false_or, or_false, true_and, and_true, false_and, and_false, not_true_eq_false, not_false_eq_true, wr_2, wrL_1, zm_eqF, zm_eqF', zm_lt, zm_lt', zm_le, zm_le', zm_sub1, zN_01, Nat.mul_zero, Nat.zero_mul, Nat.mul_one, Nat.sub_zero, Nat.sub_self, Nat.add_sub_cancel, l3]
    · simp only [c, decide_false, if_true, Bool.false_eq_true, if_false]; simp (disch := omega) only [wr_cj, wr_nj, rng_in, rng_out, zN_lit, zN_add, zN_mul, zN_sub, zN_ltT, zN_ltF, zN_leT, zN_leF, zN_eqT, zN_eqF, zN_lt, zN_le, zN_eq, zN_nat, zN_oobF, Option.bind_some, ↓reduceIte, Nat.one_mul, Nat.zero_add, Nat.add_zero, Nat.reduceAdd, Nat.reduceMul, Nat.reduceSub, Nat.reduceLT, Nat.reduceLeDiff, Nat.reduceEqDiff, reduceCtorEq, true_or, or_true, false_or, or_false, true_and, and_true, false_and, and_false, not_true_eq_false, not_false_eq_true, wr_2, wrL_1, zm_eqF, zm_eqF', zm_lt, zm_lt', zm_le, zm_le', zm_sub1, zN_01, Nat.mul_zero, Nat.zero_mul, Nat.mul_one, Nat.sub_zero, Nat.sub_self, Nat.add_sub_cancel, l3]
  · simp only [a, if_false]
    by_cases c : P (219 + 3 * i) = t
    · by_cases d : P (220 + 3 * i) = k
      · simp only [c, d, decide_true, Bool.and_self, if_true]; rw [c] at l1; rw [d] at l2; simp (disch := omega) only [wr_cj, wr_nj, rng_in, rng_out, zN_lit, zN_add, zN_mul, zN_sub, zN_ltT, zN_ltF, zN_leT, zN_leF, zN_eqT, zN_eqF, zN_lt, zN_le, zN_eq, zN_nat, zN_oobF, Option.bind_some, ↓reduceIte, Nat.one_mul, Nat.zero_add, Nat.add_zero, Nat.reduceAdd, Nat.reduceMul, Nat.reduceSub, Nat.reduceLT, Nat.reduceLeDiff, Nat.reduceEqDiff, reduceCtorEq, true_or, or_true, false_or, or_false, true_and, and_true, false_and, and_false, not_true_eq_false, not_false_eq_true, wr_2, wrL_1, zm_eqF, zm_eqF', zm_lt, zm_lt', zm_le, zm_le', zm_sub1, zN_01, Nat.mul_zero, Nat.zero_mul, Nat.mul_one, Nat.sub_zero, Nat.sub_self, Nat.add_sub_cancel, l1, l2]
      · simp only [c, d, decide_true, decide_false, Bool.and_false, Bool.false_eq_true, if_false]; rw [c] at l1; simp (disch := omega) only [wr_cj, wr_nj, rng_in, rng_out, zN_lit, zN_add, zN_mul, zN_sub, zN_ltT, zN_ltF, zN_leT, zN_leF, zN_eqT, zN_eqF, zN_lt, zN_le, zN_eq, zN_nat, zN_oobF, Option.bind_some, ↓reduceIte, Nat.one_mul, Nat.zero_add, Nat.add_zero, Nat.reduceAdd, Nat.reduceMul, Nat.reduceSub, Nat.reduceLT, Nat.reduceLeDiff, Nat.reduceEqDiff, reduceCtorEq, true_or, or_true, false_or, or_false, true_and, and_true, false_and, and_false, not_true_eq_false, not_false_eq_true, wr_2, wrL_1, zm_eqF, zm_eqF', zm_lt, zm_lt', zm_le, zm_le', zm_sub1, zN_01, Nat.mul_zero, Nat.zero_mul, Nat.mul_one, Nat.sub_zero, Nat.sub_self, Nat.add_sub_cancel, l1, l2]
    · simp only [c, decide_false, Bool.false_and, Bool.false_eq_true, if_false]; simp (disch := omega) only [wr_cj, wr_nj, rng_in, rng_out, zN_lit, zN_add, zN_mul, zN_sub, zN_ltT, zN_ltF, zN_leT, zN_leF, zN_eqT, zN_eqF, zN_lt, zN_le, zN_eq, zN_nat, zN_oobF, Option.bind_some, ↓reduceIte, Nat.one_mul, Nat.zero_add, Nat.add_zero, Nat.reduceAdd, Nat.reduceMul, Nat.reduceSub, Nat.reduceLT, Nat.reduceLeDiff, Nat.reduceEqDiff, reduceCtorEq, true_or, or_true, false_or, or_false, true_and, and_true, false_and, and_false, not_true_eq_false, not_false_eq_true, wr_2, wrL_1, zm_eqF, zm_eqF', zm_lt, zm_lt', zm_le, zm_le', zm_sub1, zN_01, Nat.mul_zero, Nat.zero_mul, Nat.mul_one, Nat.sub_zero, Nat.sub_self, Nat.add_sub_cancel, l1, l2]
theorem isTied0 {P : Nat → Nat} (hP : Good P) {b t k : Nat} {M : zMM} (hL : Leaf M b P) (ht : t < 3) (hk : k < 1000) : fX0_isTied b (zN t) (zN k) M = some (zN (if tdB P t k then 1 else 0), M) := by
  have h12 := hP.2.2.1.1
  have l6 := hL.1.2.2.2.2.2.2
  have lp : ∀ f i fuel, P 218 - i = f → i ≤ P 218 → f < fuel → fX0_isTied_2 b (zN t) (zN k) fuel (zN i) M = some (zN (if tdF P t k f i then 1 else 0), M) := by
    intro f
    induction f with
    | zero =>
      intro i fuel hf hi hfu
      obtain ⟨fu, rfl⟩ : ∃ q, fuel = q + 1 := ⟨fuel - 1, by omega⟩
      rw [fX0_isTied_2]
      simp (disch := omega) only [wr_cj, wr_nj, rng_in, rng_out, zN_lit, zN_add, zN_mul, zN_sub, zN_ltT, zN_ltF, zN_leT, zN_leF, zN_eqT, zN_eqF, zN_lt, zN_le, zN_eq, zN_nat, zN_oobF, Option.bind_some, ↓reduceIte, Nat.one_mul, Nat.zero_add, Nat.add_zero, Nat.reduceAdd, Nat.reduceMul, Nat.reduceSub, Nat.reduceLT, Nat.reduceLeDiff, Nat.reduceEqDiff, reduceCtorEq, true_or, or_true, false_or, or_false, true_and, and_true, false_and, and_false, not_true_eq_false, not_false_eq_true, wr_2, wrL_1, zm_eqF, zm_eqF', zm_lt, zm_lt', zm_le, zm_le', zm_sub1, zN_01, Nat.mul_zero, Nat.zero_mul, Nat.mul_one, Nat.sub_zero, Nat.sub_self, Nat.add_sub_cancel, l6, tdF, Bool.false_eq_true]
    | succ f ih =>
      intro i fuel hf hi hfu
      obtain ⟨fu, rfl⟩ : ∃ q, fuel = q + 1 := ⟨fuel - 1, by omega⟩
      have a := isTieOf0 hP hL ht hk (i := i) (by omega)
      have e := ih (i + 1) fu (by omega) (by omega) (by omega)
      rw [fX0_isTied_2, tdF]
      by_cases c : tdI P t k i = true
      · rw [if_pos c] at a; simp (disch := omega) only [wr_cj, wr_nj, rng_in, rng_out, zN_lit, zN_add, zN_mul, zN_sub, zN_ltT, zN_ltF, zN_leT, zN_leF, zN_eqT, zN_eqF, zN_lt, zN_le, zN_eq, zN_nat, zN_oobF, Option.bind_some, ↓reduceIte, Nat.one_mul, Nat.zero_add, Nat.add_zero, Nat.reduceAdd, Nat.reduceMul, Nat.reduceSub, Nat.reduceLT, Nat.reduceLeDiff, Nat.reduceEqDiff, reduceCtorEq, true_or, or_true, false_or, or_false, true_and, and_true, false_and, and_false, not_true_eq_false, not_false_eq_true, wr_2, wrL_1, zm_eqF, zm_eqF', zm_lt, zm_lt', zm_le, zm_le', zm_sub1, zN_01, Nat.mul_zero, Nat.zero_mul, Nat.mul_one, Nat.sub_zero, Nat.sub_self, Nat.add_sub_cancel, l6, a, c]
      · rw [if_neg c] at a; simp (disch := omega) only [wr_cj, wr_nj, rng_in, rng_out, zN_lit, zN_add, zN_mul, zN_sub, zN_ltT, zN_ltF, zN_leT, zN_leF, zN_eqT, zN_eqF, zN_lt, zN_le, zN_eq, zN_nat, zN_oobF, Option.bind_some, ↓reduceIte, Nat.one_mul, Nat.zero_add, Nat.add_zero, Nat.reduceAdd, Nat.reduceMul, Nat.reduceSub, Nat.reduceLT, Nat.reduceLeDiff, Nat.reduceEqDiff, reduceCtorEq, true_or, or_true, false_or, or_false, true_and, and_true, false_and, and_false, not_true_eq_false, not_false_eq_true, wr_2, wrL_1, zm_eqF, zm_eqF', zm_lt, zm_lt', zm_le, zm_le', zm_sub1, zN_01, Nat.mul_zero, Nat.zero_mul, Nat.mul_one, Nat.sub_zero, Nat.sub_self, Nat.add_sub_cancel, l6, a, c, e]
  exact lp (P 218) 0 zFU (by omega) (by omega) (by rw [zFU_eq]; omega)
theorem isLoose7 {P : Nat → Nat} (hP : Good P) {k : Nat} {M : zMM} (hM : MNow M P) (hk : k < 1000) : fX7_isLoose (zN k) M = some (zN (if tdB P 0 k then 0 else 1), M) := by
  have h12 := hP.2.2.1.1
  have l6 := hM 218 (by omega)
  have c0 := (hP.2.1 0 (by omega)).1
  simp only [Nat.reduceAdd] at c0
  have lp : ∀ f i fuel, P 218 - i = f → i ≤ P 218 → f < fuel → fX7_isLoose_2 (zN k) fuel (zN i) M = some (zN (if tdF P 0 k f i then 0 else 1), M) := by
    intro f
    induction f with
    | zero =>
      intro i fuel hf hi hfu
      obtain ⟨fu, rfl⟩ : ∃ q, fuel = q + 1 := ⟨fuel - 1, by omega⟩
      rw [fX7_isLoose_2]
      simp (disch := omega) only [wr_cj, wr_nj, rng_in, rng_out, zN_lit, zN_add, zN_mul, zN_sub, zN_ltT, zN_ltF, zN_leT, zN_leF, zN_eqT, zN_eqF, zN_lt, zN_le, zN_eq, zN_nat, zN_oobF, Option.bind_some, ↓reduceIte, Nat.one_mul, Nat.zero_add, Nat.add_zero, Nat.reduceAdd, Nat.reduceMul, Nat.reduceSub, Nat.reduceLT, Nat.reduceLeDiff, Nat.reduceEqDiff, reduceCtorEq, true_or, or_true, false_or, or_false, true_and, and_true, false_and, and_false, not_true_eq_false, not_false_eq_true, wr_2, wrL_1, zm_eqF, zm_eqF', zm_lt, zm_lt', zm_le, zm_le', zm_sub1, zN_01, Nat.mul_zero, Nat.zero_mul, Nat.mul_one, Nat.sub_zero, Nat.sub_self, Nat.add_sub_cancel, l6, tdF, Bool.false_eq_true]
    | succ f ih =>
      intro i fuel hf hi hfu
      obtain ⟨fu, rfl⟩ : ∃ q, fuel = q + 1 := ⟨fuel - 1, by omega⟩
      have h := hP.2.2.1.2 i (by omega)
      have a := tied7 hM (i := i) (j := 2) (by omega)
      rw [show 219 + 3 * i + 2 = 221 + 3 * i by omega] at a
      have e := ih (i + 1) fu (by omega) (by omega) (by omega)
      rw [fX7_isLoose_2, tdF]
      by_cases c : P (221 + 3 * i) = k
      · have d : tdI P 0 k i = true := by simp [tdI, c]
        rw [c] at a
        simp (disch := omega) only [wr_cj, wr_nj, rng_in, rng_out, zN_lit, zN_add, zN_mul, zN_sub, zN_ltT, zN_ltF, zN_leT, zN_leF, zN_eqT, zN_eqF, zN_lt, zN_le, zN_eq, zN_nat, zN_oobF, Option.bind_some, ↓reduceIte, Nat.one_mul, Nat.zero_add, Nat.add_zero, Nat.reduceAdd, Nat.reduceMul, Nat.reduceSub, Nat.reduceLT, Nat.reduceLeDiff, Nat.reduceEqDiff, reduceCtorEq, true_or, or_true, false_or, or_false, true_and, and_true, false_and, and_false, not_true_eq_false, not_false_eq_true, wr_2, wrL_1, zm_eqF, zm_eqF', zm_lt, zm_lt', zm_le, zm_le', zm_sub1, zN_01, Nat.mul_zero, Nat.zero_mul, Nat.mul_one, Nat.sub_zero, Nat.sub_self, Nat.add_sub_cancel, l6, a, d]
      · have d : ¬ tdI P 0 k i = true := by simp [tdI, c]
        simp (disch := omega) only [wr_cj, wr_nj, rng_in, rng_out, zN_lit, zN_add, zN_mul, zN_sub, zN_ltT, zN_ltF, zN_leT, zN_leF, zN_eqT, zN_eqF, zN_lt, zN_le, zN_eq, zN_nat, zN_oobF, Option.bind_some, ↓reduceIte, Nat.one_mul, Nat.zero_add, Nat.add_zero, Nat.reduceAdd, Nat.reduceMul, Nat.reduceSub, Nat.reduceLT, Nat.reduceLeDiff, Nat.reduceEqDiff, reduceCtorEq, true_or, or_true, false_or, or_false, true_and, and_true, false_and, and_false, not_true_eq_false, not_false_eq_true, wr_2, wrL_1, zm_eqF, zm_eqF', zm_lt, zm_lt', zm_le, zm_le', zm_sub1, zN_01, Nat.mul_zero, Nat.zero_mul, Nat.mul_one, Nat.sub_zero, Nat.sub_self, Nat.add_sub_cancel, l6, a, d, e]
  exact lp (P 218) 0 zFU (by omega) (by omega) (by rw [zFU_eq]; omega)
def loL (P : Nat → Nat) : Nat → Int32 → Nat → Int32 × Nat
  | 0, f, n => (f, n)
  | i + 1, f, n => if tdB P 0 i then loL P i f n else loL P i (zN i) (n + 1)
theorem call_loose : Cll fX6_loose fX7_loose := by
  refine Cll_of (fun P T R U K hw => ?_)
  have hP := hw.1
  have hU := hw.2.2.2.1.1
  have c0 := (hP.2.1 0 (by omega)).1
  simp only [Nat.reduceAdd] at c0
  refine ⟨zN (loL P (P 5) (-zN 1) 0).2, P, T, [(loL P (P 5) (-zN 1) 0).1.toInt64], U, K, WF_R hw (by simp), fun M hM => ?_, fun M hM => ?_⟩
  · have lp : ∀ i f n fuel, i ≤ P 5 → i < fuel → fX6_loose_16 fuel f (zN n) (zN i + -zN 1) M = (fX2_tell (loL P i f n).1.toInt64 M).bind fun q2 => some (zN (loL P i f n).2, q2) := by
      intro i
      induction i with
      | zero =>
        intro f s fuel hi hf
        obtain ⟨fu, rfl⟩ : ∃ q, fuel = q + 1 := ⟨fuel - 1, by omega⟩
        rw [fX6_loose_16, zdn0]
        simp (disch := omega) only [wr_cj, wr_nj, rng_in, rng_out, zN_lit, zN_add, zN_mul, zN_sub, zN_ltT, zN_ltF, zN_leT, zN_leF, zN_eqT, zN_eqF, zN_lt, zN_le, zN_eq, zN_nat, zN_oobF, Option.bind_some, ↓reduceIte, Nat.one_mul, Nat.zero_add, Nat.add_zero, Nat.reduceAdd, Nat.reduceMul, Nat.reduceSub, Nat.reduceLT, Nat.reduceLeDiff, Nat.reduceEqDiff, reduceCtorEq, true_or, or_true, false_or, or_false, true_and, and_true, false_and, and_false, not_true_eq_false, not_false_eq_true, wr_2, wrL_1, zm_eqF, zm_eqF', zm_lt, zm_lt', zm_le, zm_le', zm_sub1, zN_01, Nat.mul_zero, Nat.zero_mul, Nat.mul_one, Nat.sub_zero, Nat.sub_self, Nat.add_sub_cancel, loL]
      | succ i ih =>
        intro f s fuel hi hf
        obtain ⟨fu, rfl⟩ : ∃ q, fuel = q + 1 := ⟨fuel - 1, by omega⟩
        have a2 := isTied0 hP hM.1 (t := 0) (k := i) (by omega) (by omega)
        rw [fX6_loose_16, zdnS, loL]
        by_cases c : tdB P 0 i = true
        · rw [if_pos c] at a2
          simp (disch := omega) only [wr_cj, wr_nj, rng_in, rng_out, zN_lit, zN_add, zN_mul, zN_sub, zN_ltT, zN_ltF, zN_leT, zN_leF, zN_eqT, zN_eqF, zN_lt, zN_le, zN_eq, zN_nat, zN_oobF, Option.bind_some, ↓reduceIte, Nat.one_mul, Nat.zero_add, Nat.add_zero, Nat.reduceAdd, Nat.reduceMul, Nat.reduceSub, Nat.reduceLT, Nat.reduceLeDiff, Nat.reduceEqDiff, reduceCtorEq, true_or, or_true, false_or, or_false, true_and, and_true, false_and, and_false, not_true_eq_false, not_false_eq_true, wr_2, wrL_1, zm_eqF, zm_eqF', zm_lt, zm_lt', zm_le, zm_le', zm_sub1, zN_01, Nat.mul_zero, Nat.zero_mul, Nat.mul_one, Nat.sub_zero, Nat.sub_self, Nat.add_sub_cancel, a2, fX6_loose_37, c]
          rw [← ih f s fu (by omega) (by omega)]
        · rw [if_neg c] at a2
          simp (disch := omega) only [wr_cj, wr_nj, rng_in, rng_out, zN_lit, zN_add, zN_mul, zN_sub, zN_ltT, zN_ltF, zN_leT, zN_leF, zN_eqT, zN_eqF, zN_lt, zN_le, zN_eq, zN_nat, zN_oobF, Option.bind_some, ↓reduceIte, Nat.one_mul, Nat.zero_add, Nat.add_zero, Nat.reduceAdd, Nat.reduceMul, Nat.reduceSub, Nat.reduceLT, Nat.reduceLeDiff, Nat.reduceEqDiff, reduceCtorEq, true_or, or_true, false_or, or_false, true_and, and_true, false_and, and_false, not_true_eq_false, not_false_eq_true, wr_2, wrL_1, zm_eqF, zm_eqF', zm_lt, zm_lt', zm_le, zm_le', zm_sub1, zN_01, Nat.mul_zero, Nat.zero_mul, Nat.mul_one, Nat.sub_zero, Nat.sub_self, Nat.add_sub_cancel, a2, fX6_loose_37, c]
          rw [← ih (zN i) (s + 1) fu (by omega) (by omega)]
    obtain ⟨M2, e2, r2, y2⟩ := tell1 (loL P (P 5) (-zN 1) 0).1.toInt64 M
    have l := hM.1.2.2.1 0 (by omega)
    refine ⟨M2, ?_, CI_q hM hU (cq_Y y2) (Leaf_Y hM.1 (by omega) y2) r2⟩
    have k := lp (P 5) (-zN 1) 0 zFU (Nat.le_refl _) (by rw [zFU_eq]; omega)
    rw [e2, Option.bind_some] at k
    unfold fX6_loose
    simp only [zN_lit]
    simp only [Nat.reduceAdd] at l
    rw [l, zsub1]; exact k
  · have h0 := MNow_w (j := 5) (v := zN 0) hM.1
    have lp : ∀ i f n fuel, i ≤ P 5 → i < fuel → fX7_loose_18 fuel (zN n) f (zN i + -zN 1) (wr M 158 5 (zN 0)) = (fX7_tell (loL P i f n).1.toInt64 (wr (wr M 158 5 (zN 0)) 158 4 (zN 0))).bind fun q2 => some (zN (loL P i f n).2, q2) := by
      intro i
      induction i with
      | zero =>
        intro f s fuel hi hf
        obtain ⟨fu, rfl⟩ : ∃ q, fuel = q + 1 := ⟨fuel - 1, by omega⟩
        rw [fX7_loose_18, zdn0]
        simp (disch := omega) only [wr_cj, wr_nj, rng_in, rng_out, zN_lit, zN_add, zN_mul, zN_sub, zN_ltT, zN_ltF, zN_leT, zN_leF, zN_eqT, zN_eqF, zN_lt, zN_le, zN_eq, zN_nat, zN_oobF, Option.bind_some, ↓reduceIte, Nat.one_mul, Nat.zero_add, Nat.add_zero, Nat.reduceAdd, Nat.reduceMul, Nat.reduceSub, Nat.reduceLT, Nat.reduceLeDiff, Nat.reduceEqDiff, reduceCtorEq, true_or, or_true, false_or, or_false, true_and, and_true, false_and, and_false, not_true_eq_false, not_false_eq_true, wr_2, wrL_1, zm_eqF, zm_eqF', zm_lt, zm_lt', zm_le, zm_le', zm_sub1, zN_01, Nat.mul_zero, Nat.zero_mul, Nat.mul_one, Nat.sub_zero, Nat.sub_self, Nat.add_sub_cancel, loL]
      | succ i ih =>
        intro f s fuel hi hf
        obtain ⟨fu, rfl⟩ : ∃ q, fuel = q + 1 := ⟨fuel - 1, by omega⟩
        have a2 := isLoose7 hP h0 (k := i) (by omega)
        rw [fX7_loose_18, zdnS, loL]
        by_cases c : tdB P 0 i = true
        · rw [if_pos c] at a2
          simp (disch := omega) only [wr_cj, wr_nj, rng_in, rng_out, zN_lit, zN_add, zN_mul, zN_sub, zN_ltT, zN_ltF, zN_leT, zN_leF, zN_eqT, zN_eqF, zN_lt, zN_le, zN_eq, zN_nat, zN_oobF, Option.bind_some, ↓reduceIte, Nat.one_mul, Nat.zero_add, Nat.add_zero, Nat.reduceAdd, Nat.reduceMul, Nat.reduceSub, Nat.reduceLT, Nat.reduceLeDiff, Nat.reduceEqDiff, reduceCtorEq, true_or, or_true, false_or, or_false, true_and, and_true, false_and, and_false, not_true_eq_false, not_false_eq_true, wr_2, wrL_1, zm_eqF, zm_eqF', zm_lt, zm_lt', zm_le, zm_le', zm_sub1, zN_01, Nat.mul_zero, Nat.zero_mul, Nat.mul_one, Nat.sub_zero, Nat.sub_self, Nat.add_sub_cancel, a2, fX7_loose_38, c]
          rw [← ih f s fu (by omega) (by omega)]
        · rw [if_neg c] at a2
          simp (disch := omega) only [wr_cj, wr_nj, rng_in, rng_out, zN_lit, zN_add, zN_mul, zN_sub, zN_ltT, zN_ltF, zN_leT, zN_leF, zN_eqT, zN_eqF, zN_lt, zN_le, zN_eq, zN_nat, zN_oobF, Option.bind_some, ↓reduceIte, Nat.one_mul, Nat.zero_add, Nat.add_zero, Nat.reduceAdd, Nat.reduceMul, Nat.reduceSub, Nat.reduceLT, Nat.reduceLeDiff, Nat.reduceEqDiff, reduceCtorEq, true_or, or_true, false_or, or_false, true_and, and_true, false_and, and_false, not_true_eq_false, not_false_eq_true, wr_2, wrL_1, zm_eqF, zm_eqF', zm_lt, zm_lt', zm_le, zm_le', zm_sub1, zN_01, Nat.mul_zero, Nat.zero_mul, Nat.mul_one, Nat.sub_zero, Nat.sub_self, Nat.add_sub_cancel, a2, fX7_loose_38, c]
          rw [← ih (zN i) (s + 1) fu (by omega) (by omega)]
    obtain ⟨M2, e2, r2, x2⟩ := tell7 (MR_nil (wr M 158 5 (zN 0))) (by simp) (loL P (P 5) (-zN 1) 0).1.toInt64
    have m := h0 5 (by omega)
    refine ⟨M2, ?_, MI_q hM (mq_trans (mq_w (by omega)) (mq_trans (mq_w (by omega)) (mq_X x2))) (MNow_X (MNow_w h0) x2) r2⟩
    have k := lp (P 5) (-zN 1) 0 zFU (Nat.le_refl _) (by rw [zFU_eq]; omega)
    rw [e2, Option.bind_some] at k
    unfold fX7_loose
    simp only [zN_lit]
    rw [m, zsub1]; exact k
/-! what would be by another plan -/
theorem nz10 {α : Type} {M : α} : ¬ ((zN 1, M) : Int32 × α).1 = zN 0 := by show ¬ zN 1 = zN 0; decide
theorem nz10' {α : Type} {M : α} : ¬ ((zN 1, M) : Int32 × α).1 = 0 := nz10
def AS (P : Nat → Nat) (M : zMM) : Prop := ∀ j, j < 259 → M.1 166 j = zN (P j)
theorem aside7 {P : Nat → Nat} {M : zMM} (hM : MNow M P) : ∃ M', fX7_layAside M = some M' ∧ AS P M' ∧ MNow M' P ∧ fr (fun c _ => c = 166) M M' := by
  obtain ⟨M', e, h, f⟩ := layAside7 M
  exact ⟨M', e, fun j hj => by rw [h j hj]; exact hM j hj, fun i hi => by rw [f.1 _ _ (by omega)]; exact hM i hi, f⟩
theorem back7 {P : Nat → Nat} {M : zMM} (h : AS P M) : ∃ M', fX7_comesBack M = some M' ∧ MNow M' P ∧ fr (fun c _ => c = 159) M M' := by
  obtain ⟨M', e, h', f⟩ := comesBack7 M
  exact ⟨M', e, fun j hj => by rw [h' j hj]; exact h j hj, f⟩
theorem AS_fr {P : Nat → Nat} {M M' : zMM} (h : AS P M) {S : Nat → Nat → Prop} (f : fr S M M') (hs : ∀ j, ¬ S 166 j) : AS P M' := fun j hj => by rw [f.1 _ _ (hs j)]; exact h j hj
theorem AS_X {P : Nat → Nat} {M M' : zMM} (h : AS P M) (f : frX M M') : AS P M' := fun j hj => by rw [f.1 _ _ (by omega)]; exact h j hj
theorem AS_w {P : Nat → Nat} {M : zMM} {c j : Nat} {v : Int32} (h : AS P M) (hc : c ≠ 166) : AS P (wr M c j v) := fun i hi => by rw [wr_nj (by omega)]; exact h i hi
theorem mq_166 {M M' : zMM} (f : fr (fun c _ => c = 166) M M') : mq M M' := mq_fr f (fun c j a => by unfold MSc; omega)
theorem mq_159 {M M' : zMM} (f : fr (fun c _ => c = 159) M M') : mq M M' := mq_fr f (fun c j a => by omega)
theorem fr_pl7 (M : zMM) (a b c : Int32) : fr (fun c _ => c = 159) M (wr (wr (wr M 159 2 a) 159 3 b) 159 4 c) := fr_wr (fr_wr (fr_wr (fr_refl _ _) (by omega)) (by omega)) (by omega)
theorem call_by (x y z : Int32) : Cll (fX6_by x y z) (fX7_by x y z) := by
  refine Cll_of (fun P T R U K hw => ?_)
  have hP := hw.1
  have hp := hP.1
  have hU := hw.2.2.2.1.1
  rcases plan_case hP x y z with ⟨c, i, o, k, rfl, rfl, rfl⟩ | ⟨h1, h2⟩
  · have k' := k
    unfold pOK at k'
    have hQ := Good_pl hP k
    refine ⟨zN (cst (plP P c i o)), P, T, [(zN (pgs (plP P c i o))).toInt64, (zN (apt (plP P c i o))).toInt64, (zN (nbr (plP P c i o) (plP P c i o 218))).toInt64, (zN (rga (plP P c i o))).toInt64], U, K, WF_R hw (by simp), fun M hM => ?_, fun M hM => ?_⟩
    · generalize hQe : plP P c i o = Q at hQ
      have a0 := (allowsL (by omega) hM.1 (c := c) (i := i) (o := o) (by omega) (by omega) (by omega)).1 k
      obtain ⟨M1, e1, l1, f1⟩ := copy0 hP (b := 10) hM.1 (by omega)
      have l2 := Leaf_pl (c := c) (i := i) (o := o) l1
      rw [hQe] at l2
      obtain ⟨M3, e3, s3, l3, f3⟩ := cset0 hQ (b := 10) (by omega) l2
      have a1 := pageCount4 hQ l3 s3
      have a2 := endsApart4 hQ l3 s3
      have a3 := brokenTies4 hQ l3 s3
      have a4 := raggedInAll4 s3
      obtain ⟨M4, e4, r4, y4⟩ := tell4 (zN (pgs Q)).toInt64 (zN (apt Q)).toInt64 (zN (nbr Q (Q 218))).toInt64 (zN (rga Q)).toInt64 M3
      have a5 := costOf4 hQ (Leaf_Y l3 (by omega) y4) (CSet_Y s3 y4)
      have f2 : fr (fun c _ => 10 ≤ c ∧ c < 20) M1 (wr (wr (wr M1 10 3 (zN c)) 10 4 (zN i)) 10 5 (zN o)) := fr_wr (fr_wr (fr_wr (fr_refl _ _) (by omega)) (by omega)) (by omega)
      have l0 : Leaf M4 0 P := Leaf_eq hM.1 (fun c j a b => by rw [y4.1 c j (by omega), f3.1 c j (by omega), f2.1 c j (by omega), f1.1 c j (by omega)])
      refine ⟨M4, ?_, CI_q hM hU (cq_trans (cq_leaf (by omega) f1) (cq_trans (cq_leaf (b := 10) (by omega) f2) (cq_trans (cq_set f3) (cq_Y y4)))) l0 r4⟩
      unfold fX6_by fX0_plan
      rw [a0, Option.bind_some, if_neg nz10', e1, Option.bind_some, Option.bind_some, e3, Option.bind_some, a1, Option.bind_some, a2, Option.bind_some, a3, Option.bind_some, a4, Option.bind_some, e4, Option.bind_some, a5]
      rfl
    · generalize hQe : plP P c i o = Q at hQ
      have h0 := MNow_w (j := 5) (v := zN 0) hM.1
      have a0 := (canBe7 (by omega) h0 (c := c) (i := i) (o := o) (by omega) (by omega) (by omega)).1 k
      obtain ⟨M1, e1, as1, n1, f1⟩ := aside7 h0
      have n2 := MNow_pl (c := c) (i := i) (o := o) n1
      rw [hQe] at n2
      have f2 := fr_pl7 M1 (zN c) (zN i) (zN o)
      have as2 := AS_fr as1 f2 (fun j a => by omega)
      obtain ⟨M3, e3, s3, f3⟩ := costNow7 hQ n2
      have n3 := MNow_fr n2 f3
      have as3 := AS_fr as2 f3 (fun j a => by unfold MS at a; omega)
      have k14 : (wr M3 158 4 (zN 0)).1 158 14 = zN (pgs Q) := by rw [wr_nj (by omega)]; exact s3.2
      have n4 := MNow_w (j := 4) (v := zN 0) n3
      have s4 := MSet_4 (v := zN 0) s3
      have as4 := AS_w (c := 158) (j := 4) (v := zN 0) as3 (by omega)
      obtain ⟨M5, e5, r5, x5⟩ := tell7 (MR_nil M3) (by simp) (zN (pgs Q)).toInt64
      have n5 := MNow_X n4 x5
      have s5 := MSet_X s4 x5
      have as5 := AS_X as4 x5
      have b1 := apartOf7 hQ n5 s5
      obtain ⟨M6, e6, r6, x6⟩ := tell7 r5 (by simp) (zN (apt Q)).toInt64
      have n6 := MNow_X n5 x6
      have s6 := MSet_X s5 x6
      have as6 := AS_X as5 x6
      have b2 := brokenMany7 hQ n6 s6
      obtain ⟨M7, e7, r7, x7⟩ := tell7 r6 (by simp) (zN (nbr Q (Q 218))).toInt64
      have s7 := MSet_X s6 x7
      have as7 := AS_X as6 x7
      have b3 := raggedAll7 hQ s7
      obtain ⟨M8, e8, r8, x8⟩ := tell7 r7 (by simp) (zN (rga Q)).toInt64
      have as8 := AS_X as7 x8
      obtain ⟨M9, e9, n9, f9⟩ := back7 as8
      have r9 := MR_q (MR4 r8) f9 (by omega)
      refine ⟨M9, ?_, MI_q hM (mq_trans (mq_w (j := 5) (v := zN 0) (by omega)) (mq_trans (mq_166 f1) (mq_trans (mq_159 f2) (mq_trans (mq_MS f3) (mq_trans (mq_w (j := 4) (v := zN 0) (by omega)) (mq_trans (mq_X x5) (mq_trans (mq_X x6) (mq_trans (mq_X x7) (mq_trans (mq_X x8) (mq_159 f9)))))))))) n9 r9⟩
      unfold fX7_by fX7_putPlan
      simp only [zN_lit]
      rw [a0, Option.bind_some, if_neg nz10, e1, Option.bind_some, Option.bind_some, e3, Option.bind_some, k14, e5, Option.bind_some, b1, Option.bind_some, e6, Option.bind_some, b2, Option.bind_some, e7, Option.bind_some, b3, Option.bind_some, e8, Option.bind_some, e9]
      rfl
  · refine ⟨-zN 1, P, T, R, U, K, hw, CD_no (fun M hM => ?_), MD_no (fun M hM => ?_)⟩
    · have := h1 M 0 hM.1
      unfold fX6_by; rw [this]; rfl
    · have := h2 (wr M 158 5 (zN 0)) (MNow_w hM.1)
      unfold fX7_by; simp only [zN_lit]; rw [this]; rfl
