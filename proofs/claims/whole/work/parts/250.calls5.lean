/-! words come and go: the calls -/
theorem isSize_case (z : Int32) : (∃ v, 1 ≤ v ∧ v ≤ 9 ∧ z = zN v ∧ ∀ M, fX6_isSize z M = some (zN 1, M)) ∨ (∀ M, fX6_isSize z M = some (zN 0, M) ∧ fX7_in z (zN 1) (zN 9) M = some (zN 0, M)) := by
  rcases zcaseR z 1 9 with ⟨v, v1, v2, rfl⟩ | hz | ⟨v, hv, rfl, hn⟩
  · exact Or.inl ⟨v, v1, v2, rfl, fun M => by unfold fX6_isSize; simp (disch := omega) only [wr_cj, wr_nj, rng_in, rng_out, zN_lit, zN_add, zN_mul, zN_sub, zN_ltT, zN_ltF, zN_leT, zN_leF, zN_eqT, zN_eqF, zN_lt, zN_le, zN_eq, zN_nat, zN_oobF, Option.bind_some, ↓reduceIte, Nat.one_mul, Nat.zero_add, Nat.add_zero, Nat.reduceAdd, Nat.reduceMul, Nat.reduceSub, Nat.reduceLT, Nat.reduceLeDiff, Nat.reduceEqDiff, reduceCtorEq, true_or, or_true, false_or, or_false, true_and, and_true, false_and, and_false, not_true_eq_false, not_false_eq_true, wr_2, wrL_1, zm_eqF, zm_eqF', zm_lt, zm_lt', zm_le, zm_le', zm_sub1, zN_01, Nat.mul_zero, Nat.zero_mul, Nat.mul_one, Nat.sub_zero, Nat.sub_self, Nat.add_sub_cancel]⟩
  · right
    refine fun M => ⟨?_, in7g hz (by omega) _ _⟩
    unfold fX6_isSize; simp (disch := omega) only [wr_cj, wr_nj, rng_in, rng_out, zN_lit, zN_add, zN_mul, zN_sub, zN_ltT, zN_ltF, zN_leT, zN_leF, zN_eqT, zN_eqF, zN_lt, zN_le, zN_eq, zN_nat, zN_oobF, Option.bind_some, ↓reduceIte, Nat.one_mul, Nat.zero_add, Nat.add_zero, Nat.reduceAdd, Nat.reduceMul, Nat.reduceSub, Nat.reduceLT, Nat.reduceLeDiff, Nat.reduceEqDiff, reduceCtorEq, true_or, or_true, false_or, or_false, true_and, and_true, false_and, and_false, not_true_eq_false, not_false_eq_true, wr_2, wrL_1, zm_eqF, zm_eqF', zm_lt, zm_lt', zm_le, zm_le', zm_sub1, zN_01, Nat.mul_zero, Nat.zero_mul, Nat.mul_one, Nat.sub_zero, Nat.sub_self, Nat.add_sub_cancel, zg_lt hz]
  · right
    refine fun M => ⟨?_, in7F (by omega) _⟩
    unfold fX6_isSize
    by_cases c : v < 1
    · simp (disch := omega) only [wr_cj, wr_nj, rng_in, rng_out, zN_lit, zN_add, zN_mul, zN_sub, zN_ltT, zN_ltF, zN_leT, zN_leF, zN_eqT, zN_eqF, zN_lt, zN_le, zN_eq, zN_nat, zN_oobF, Option.bind_some, ↓reduceIte, Nat.one_mul, Nat.zero_add, Nat.add_zero, Nat.reduceAdd, Nat.reduceMul, Nat.reduceSub, Nat.reduceLT, Nat.reduceLeDiff, Nat.reduceEqDiff, reduceCtorEq, true_or, or_true, false_or, or_false, true_and, and_true, false_and, and_false, not_true_eq_false, not_false_eq_true, wr_2, wrL_1, zm_eqF, zm_eqF', zm_lt, zm_lt', zm_le, zm_le', zm_sub1, zN_01, Nat.mul_zero, Nat.zero_mul, Nat.mul_one, Nat.sub_zero, Nat.sub_self, Nat.add_sub_cancel]
    · simp (disch := omega) only [wr_cj, wr_nj, rng_in, rng_out, zN_lit, zN_add, zN_mul, zN_sub, zN_ltT, zN_ltF, zN_leT, zN_leF, zN_eqT, zN_eqF, zN_lt, zN_le, zN_eq, zN_nat, zN_oobF, Option.bind_some, ↓reduceIte, Nat.one_mul, Nat.zero_add, Nat.add_zero, Nat.reduceAdd, Nat.reduceMul, Nat.reduceSub, Nat.reduceLT, Nat.reduceLeDiff, Nat.reduceEqDiff, reduceCtorEq, true_or, or_true, false_or, or_false, true_and, and_true, false_and, and_false, not_true_eq_false, not_false_eq_true, wr_2, wrL_1, zm_eqF, zm_eqF', zm_lt, zm_lt', zm_le, zm_le', zm_sub1, zN_01, Nat.mul_zero, Nat.zero_mul, Nat.mul_one, Nat.sub_zero, Nat.sub_self, Nat.add_sub_cancel]
theorem put_both {P : Nat → Nat} (hP : Good P) (x y z : Int32) : (∃ r, r < 0 ∧ (∀ b M, Leaf M b P → fX6_putWord b x y z M = some (r, M)) ∧ ∀ M, MNow M P → fX7_refusesWord x y z M = some (r, M)) ∨ (∃ t k v, t < 3 ∧ k ≤ P (5 + t) ∧ P (5 + t) < 70 ∧ (1 ≤ v ∧ v ≤ 9) ∧ x = zN t ∧ y = zN k ∧ z = zN v ∧ (∀ b M, Leaf M b P → ∃ M', fX6_putWord b x y z M = some (zN (P (5 + t) + 1), M') ∧ Leaf M' b (putP P t k v) ∧ fr (fun c _ => b ≤ c ∧ c < b + 10) M M') ∧ (∀ M, MNow M P → fX7_refusesWord x y z M = some (zN 0, M))) := by
  rcases text_case x with ⟨t, ht, rfl⟩ | h
  · have hc := (hP.2.1 t ht).1
    rcases zcaseR y 0 (P (5 + t)) with ⟨k, -, k2, rfl⟩ | hy | ⟨k, hk, rfl, hn⟩
    · rcases isSize_case z with ⟨v, v1, v2, rfl, hs⟩ | hs
      · by_cases full : P (5 + t) = 70
        · left
          refine ⟨-zN 3, zm_neg (by omega), fun b M hL => ?_, fun M hM => ?_⟩
          · have lc := hL.2.2.1 t ht
            have it := isText6T ht M
            have s := hs M
            unfold fX6_putWord; simp (disch := omega) only [wr_cj, wr_nj, rng_in, rng_out, zN_lit, zN_add, zN_mul, zN_sub, zN_ltT, zN_ltF, zN_leT, zN_leF, zN_eqT, zN_eqF, zN_lt, zN_le, zN_eq, zN_nat, zN_oobF, Option.bind_some, ↓reduceIte, Nat.one_mul, Nat.zero_add, Nat.add_zero, Nat.reduceAdd, Nat.reduceMul, Nat.reduceSub, Nat.reduceLT, Nat.reduceLeDiff, Nat.reduceEqDiff, reduceCtorEq, true_or, or_true, false_or, or_false, true_and, and_true, false_and, and_false, not_true_eq_false, not_false_eq_true, wr_2, wrL_1, zm_eqF, zm_eqF', zm_lt, zm_lt', zm_le, zm_le', zm_sub1, zN_01, Nat.mul_zero, Nat.zero_mul, Nat.mul_one, Nat.sub_zero, Nat.sub_self, Nat.add_sub_cancel, it, lc, s]
          · have m := hM (5 + t) (by omega)
            have it := isText7T ht M
            have t1 := in7T (a := k) (lo := 0) (hi := P (5 + t)) (by omega) M
            have t2 := in7T (a := v) (lo := 1) (hi := 9) (by omega) M
            rw [full] at m t1
            unfold fX7_refusesWord; simp (disch := omega) only [wr_cj, wr_nj, rng_in, rng_out, zN_lit, zN_add, zN_mul, zN_sub, zN_ltT, zN_ltF, zN_leT, zN_leF, zN_eqT, zN_eqF, zN_lt, zN_le, zN_eq, zN_nat, zN_oobF, Option.bind_some, ↓reduceIte, Nat.one_mul, Nat.zero_add, Nat.add_zero, Nat.reduceAdd, Nat.reduceMul, Nat.reduceSub, Nat.reduceLT, Nat.reduceLeDiff, Nat.reduceEqDiff, reduceCtorEq, true_or, or_true, false_or, or_false, true_and, and_true, false_and, and_false, not_true_eq_false, not_false_eq_true, wr_2, wrL_1, zm_eqF, zm_eqF', zm_lt, zm_lt', zm_le, zm_le', zm_sub1, zN_01, Nat.mul_zero, Nat.zero_mul, Nat.mul_one, Nat.sub_zero, Nat.sub_self, Nat.add_sub_cancel, it, m, t1, t2]
        · right
          refine ⟨t, k, v, ht, k2, by omega, ⟨v1, v2⟩, rfl, rfl, rfl, fun b M hL => ?_, fun M hM => ?_⟩
          · obtain ⟨M1, e1, l1, f1⟩ := put0 hP (v := v) ht k2 (by omega) hL
            have lc := hL.2.2.1 t ht
            have it := isText6T ht M
            have s := hs M
            have lc1 := l1.2.2.1 t ht
            rw [putP_lo P (by omega), hI_c P ht ht, if_pos rfl] at lc1
            refine ⟨M1, ?_, l1, f1⟩
            unfold fX6_putWord; simp (disch := omega) only [wr_cj, wr_nj, rng_in, rng_out, zN_lit, zN_add, zN_mul, zN_sub, zN_ltT, zN_ltF, zN_leT, zN_leF, zN_eqT, zN_eqF, zN_lt, zN_le, zN_eq, zN_nat, zN_oobF, Option.bind_some, ↓reduceIte, Nat.one_mul, Nat.zero_add, Nat.add_zero, Nat.reduceAdd, Nat.reduceMul, Nat.reduceSub, Nat.reduceLT, Nat.reduceLeDiff, Nat.reduceEqDiff, reduceCtorEq, true_or, or_true, false_or, or_false, true_and, and_true, false_and, and_false, not_true_eq_false, not_false_eq_true, wr_2, wrL_1, zm_eqF, zm_eqF', zm_lt, zm_lt', zm_le, zm_le', zm_sub1, zN_01, Nat.mul_zero, Nat.zero_mul, Nat.mul_one, Nat.sub_zero, Nat.sub_self, Nat.add_sub_cancel, it, lc, s, e1, lc1]
          · have m := hM (5 + t) (by omega)
            have it := isText7T ht M
            have t1 := in7T (a := k) (lo := 0) (hi := P (5 + t)) (by omega) M
            have t2 := in7T (a := v) (lo := 1) (hi := 9) (by omega) M
            unfold fX7_refusesWord; simp (disch := omega) only [wr_cj, wr_nj, rng_in, rng_out, zN_lit, zN_add, zN_mul, zN_sub, zN_ltT, zN_ltF, zN_leT, zN_leF, zN_eqT, zN_eqF, zN_lt, zN_le, zN_eq, zN_nat, zN_oobF, Option.bind_some, ↓reduceIte, Nat.one_mul, Nat.zero_add, Nat.add_zero, Nat.reduceAdd, Nat.reduceMul, Nat.reduceSub, Nat.reduceLT, Nat.reduceLeDiff, Nat.reduceEqDiff, reduceCtorEq, true_or, or_true, false_or, or_false, true_and, and_true, false_and, and_false, not_true_eq_false, not_false_eq_true, wr_2, wrL_1, zm_eqF, zm_eqF', zm_lt, zm_lt', zm_le, zm_le', zm_sub1, zN_01, Nat.mul_zero, Nat.zero_mul, Nat.mul_one, Nat.sub_zero, Nat.sub_self, Nat.add_sub_cancel, it, m, t1, t2, full]
      · left
        refine ⟨-zN 1, zm_neg (by omega), fun b M hL => ?_, fun M hM => ?_⟩
        · have lc := hL.2.2.1 t ht
          have it := isText6T ht M
          have s := (hs M).1
          unfold fX6_putWord; simp (disch := omega) only [wr_cj, wr_nj, rng_in, rng_out, zN_lit, zN_add, zN_mul, zN_sub, zN_ltT, zN_ltF, zN_leT, zN_leF, zN_eqT, zN_eqF, zN_lt, zN_le, zN_eq, zN_nat, zN_oobF, Option.bind_some, ↓reduceIte, Nat.one_mul, Nat.zero_add, Nat.add_zero, Nat.reduceAdd, Nat.reduceMul, Nat.reduceSub, Nat.reduceLT, Nat.reduceLeDiff, Nat.reduceEqDiff, reduceCtorEq, true_or, or_true, false_or, or_false, true_and, and_true, false_and, and_false, not_true_eq_false, not_false_eq_true, wr_2, wrL_1, zm_eqF, zm_eqF', zm_lt, zm_lt', zm_le, zm_le', zm_sub1, zN_01, Nat.mul_zero, Nat.zero_mul, Nat.mul_one, Nat.sub_zero, Nat.sub_self, Nat.add_sub_cancel, it, lc, s]
        · have m := hM (5 + t) (by omega)
          have it := isText7T ht M
          have t1 := in7T (a := k) (lo := 0) (hi := P (5 + t)) (by omega) M
          have t2 := (hs M).2
          unfold fX7_refusesWord; simp (disch := omega) only [wr_cj, wr_nj, rng_in, rng_out, zN_lit, zN_add, zN_mul, zN_sub, zN_ltT, zN_ltF, zN_leT, zN_leF, zN_eqT, zN_eqF, zN_lt, zN_le, zN_eq, zN_nat, zN_oobF, Option.bind_some, ↓reduceIte, Nat.one_mul, Nat.zero_add, Nat.add_zero, Nat.reduceAdd, Nat.reduceMul, Nat.reduceSub, Nat.reduceLT, Nat.reduceLeDiff, Nat.reduceEqDiff, reduceCtorEq, true_or, or_true, false_or, or_false, true_and, and_true, false_and, and_false, not_true_eq_false, not_false_eq_true, wr_2, wrL_1, zm_eqF, zm_eqF', zm_lt, zm_lt', zm_le, zm_le', zm_sub1, zN_01, Nat.mul_zero, Nat.zero_mul, Nat.mul_one, Nat.sub_zero, Nat.sub_self, Nat.add_sub_cancel, it, m, t1, t2]
    · left
      refine ⟨-zN 1, zm_neg (by omega), fun b M hL => ?_, fun M hM => ?_⟩
      · have it := isText6T ht M
        unfold fX6_putWord; simp (disch := omega) only [wr_cj, wr_nj, rng_in, rng_out, zN_lit, zN_add, zN_mul, zN_sub, zN_ltT, zN_ltF, zN_leT, zN_leF, zN_eqT, zN_eqF, zN_lt, zN_le, zN_eq, zN_nat, zN_oobF, Option.bind_some, ↓reduceIte, Nat.one_mul, Nat.zero_add, Nat.add_zero, Nat.reduceAdd, Nat.reduceMul, Nat.reduceSub, Nat.reduceLT, Nat.reduceLeDiff, Nat.reduceEqDiff, reduceCtorEq, true_or, or_true, false_or, or_false, true_and, and_true, false_and, and_false, not_true_eq_false, not_false_eq_true, wr_2, wrL_1, zm_eqF, zm_eqF', zm_lt, zm_lt', zm_le, zm_le', zm_sub1, zN_01, Nat.mul_zero, Nat.zero_mul, Nat.mul_one, Nat.sub_zero, Nat.sub_self, Nat.add_sub_cancel, it, zg_lt hy]
      · have m := hM (5 + t) (by omega)
        have it := isText7T ht M
        have t1 := in7g hy (lo := 0) (by omega) (zN (P (5 + t))) M
        unfold fX7_refusesWord; simp (disch := omega) only [wr_cj, wr_nj, rng_in, rng_out, zN_lit, zN_add, zN_mul, zN_sub, zN_ltT, zN_ltF, zN_leT, zN_leF, zN_eqT, zN_eqF, zN_lt, zN_le, zN_eq, zN_nat, zN_oobF, Option.bind_some, ↓reduceIte, Nat.one_mul, Nat.zero_add, Nat.add_zero, Nat.reduceAdd, Nat.reduceMul, Nat.reduceSub, Nat.reduceLT, Nat.reduceLeDiff, Nat.reduceEqDiff, reduceCtorEq, true_or, or_true, false_or, or_false, true_and, and_true, false_and, and_false, not_true_eq_false, not_false_eq_true, wr_2, wrL_1, zm_eqF, zm_eqF', zm_lt, zm_lt', zm_le, zm_le', zm_sub1, zN_01, Nat.mul_zero, Nat.zero_mul, Nat.mul_one, Nat.sub_zero, Nat.sub_self, Nat.add_sub_cancel, it, m, t1]
    · left
      refine ⟨-zN 1, zm_neg (by omega), fun b M hL => ?_, fun M hM => ?_⟩
      · have lc := hL.2.2.1 t ht
        have it := isText6T ht M
        unfold fX6_putWord; simp (disch := omega) only [wr_cj, wr_nj, rng_in, rng_out, zN_lit, zN_add, zN_mul, zN_sub, zN_ltT, zN_ltF, zN_leT, zN_leF, zN_eqT, zN_eqF, zN_lt, zN_le, zN_eq, zN_nat, zN_oobF, Option.bind_some, ↓reduceIte, Nat.one_mul, Nat.zero_add, Nat.add_zero, Nat.reduceAdd, Nat.reduceMul, Nat.reduceSub, Nat.reduceLT, Nat.reduceLeDiff, Nat.reduceEqDiff, reduceCtorEq, true_or, or_true, false_or, or_false, true_and, and_true, false_and, and_false, not_true_eq_false, not_false_eq_true, wr_2, wrL_1, zm_eqF, zm_eqF', zm_lt, zm_lt', zm_le, zm_le', zm_sub1, zN_01, Nat.mul_zero, Nat.zero_mul, Nat.mul_one, Nat.sub_zero, Nat.sub_self, Nat.add_sub_cancel, it, lc]
      · have m := hM (5 + t) (by omega)
        have it := isText7T ht M
        have t1 := in7F (a := k) (lo := 0) (hi := P (5 + t)) (by omega) M
        unfold fX7_refusesWord; simp (disch := omega) only [wr_cj, wr_nj, rng_in, rng_out, zN_lit, zN_add, zN_mul, zN_sub, zN_ltT, zN_ltF, zN_leT, zN_leF, zN_eqT, zN_eqF, zN_lt, zN_le, zN_eq, zN_nat, zN_oobF, Option.bind_some, ↓reduceIte, Nat.one_mul, Nat.zero_add, Nat.add_zero, Nat.reduceAdd, Nat.reduceMul, Nat.reduceSub, Nat.reduceLT, Nat.reduceLeDiff, Nat.reduceEqDiff, reduceCtorEq, true_or, or_true, false_or, or_false, true_and, and_true, false_and, and_false, not_true_eq_false, not_false_eq_true, wr_2, wrL_1, zm_eqF, zm_eqF', zm_lt, zm_lt', zm_le, zm_le', zm_sub1, zN_01, Nat.mul_zero, Nat.zero_mul, Nat.mul_one, Nat.sub_zero, Nat.sub_self, Nat.add_sub_cancel, it, m, t1]
  · left
    refine ⟨-zN 1, zm_neg (by omega), fun b M hL => ?_, fun M hM => ?_⟩
    · have := (h M).1
      unfold fX6_putWord; simp (disch := omega) only [wr_cj, wr_nj, rng_in, rng_out, zN_lit, zN_add, zN_mul, zN_sub, zN_ltT, zN_ltF, zN_leT, zN_leF, zN_eqT, zN_eqF, zN_lt, zN_le, zN_eq, zN_nat, zN_oobF, Option.bind_some, ↓reduceIte, Nat.one_mul, Nat.zero_add, Nat.add_zero, Nat.reduceAdd, Nat.reduceMul, Nat.reduceSub, Nat.reduceLT, Nat.reduceLeDiff, Nat.reduceEqDiff, reduceCtorEq, true_or, or_true, false_or, or_false, true_and, and_true, false_and, and_false, not_true_eq_false, not_false_eq_true, wr_2, wrL_1, zm_eqF, zm_eqF', zm_lt, zm_lt', zm_le, zm_le', zm_sub1, zN_01, Nat.mul_zero, Nat.zero_mul, Nat.mul_one, Nat.sub_zero, Nat.sub_self, Nat.add_sub_cancel, this]
    · have := (h M).2
      unfold fX7_refusesWord; simp (disch := omega) only [wr_cj, wr_nj, rng_in, rng_out, zN_lit, zN_add, zN_mul, zN_sub, zN_ltT, zN_ltF, zN_leT, zN_leF, zN_eqT, zN_eqF, zN_lt, zN_le, zN_eq, zN_nat, zN_oobF, Option.bind_some, ↓reduceIte, Nat.one_mul, Nat.zero_add, Nat.add_zero, Nat.reduceAdd, Nat.reduceMul, Nat.reduceSub, Nat.reduceLT, Nat.reduceLeDiff, Nat.reduceEqDiff, reduceCtorEq, true_or, or_true, false_or, or_false, true_and, and_true, false_and, and_false, not_true_eq_false, not_false_eq_true, wr_2, wrL_1, zm_eqF, zm_eqF', zm_lt, zm_lt', zm_le, zm_le', zm_sub1, zN_01, Nat.mul_zero, Nat.zero_mul, Nat.mul_one, Nat.sub_zero, Nat.sub_self, Nat.add_sub_cancel, this]
theorem drop_both {P : Nat → Nat} (hP : Good P) (x y : Int32) : ((∀ b M, Leaf M b P → fX6_dropWord b x y M = some (-zN 1, M)) ∧ ∀ M, MNow M P → fX7_isWord x y M = some (zN 0, M)) ∨ (∃ t k, t < 3 ∧ k < P (5 + t) ∧ x = zN t ∧ y = zN k ∧ (∀ b M, Leaf M b P → ∃ M', fX6_dropWord b x y M = some (zN (P (5 + t) - 1), M') ∧ Leaf M' b (dropP P t k) ∧ fr (fun c _ => b ≤ c ∧ c < b + 10) M M') ∧ (∀ M, MNow M P → fX7_isWord x y M = some (zN 1, M))) := by
  rcases word_case hP x y with ⟨t, k, ht, hk, rfl, rfl⟩ | ⟨h1, h2⟩
  · right
    have hc := (hP.2.1 t ht).1
    refine ⟨t, k, ht, hk, rfl, rfl, fun b M hL => ?_, fun M hM => ?_⟩
    · obtain ⟨M1, e1, l1, f1⟩ := drop0 hP ht hk hL
      have hw := hasWord0 hP hL ht (k := k) (by omega)
      rw [if_pos hk] at hw
      have lc1 := l1.2.2.1 t ht
      have ok := dropQ_ok hP (t := t) (k := k)
      have e5 : dropP P t k (5 + t) = P (5 + t) - 1 := by
        unfold dropP; rw [shN_out (by omega), ok.2.2.1 _ (by omega), hD_c P ht ht (by omega), if_pos rfl]
      rw [e5] at lc1
      refine ⟨M1, ?_, l1, f1⟩
      unfold fX6_dropWord; simp (disch := omega) only [wr_cj, wr_nj, rng_in, rng_out, zN_lit, zN_add, zN_mul, zN_sub, zN_ltT, zN_ltF, zN_leT, zN_leF, zN_eqT, zN_eqF, zN_lt, zN_le, zN_eq, zN_nat, zN_oobF, Option.bind_some, ↓reduceIte, Nat.one_mul, Nat.zero_add, Nat.add_zero, Nat.reduceAdd, Nat.reduceMul, Nat.reduceSub, Nat.reduceLT, Nat.reduceLeDiff, Nat.reduceEqDiff, reduceCtorEq, true_or, or_true, false_or, or_false, true_and, and_true, false_and, and_false, not_true_eq_false, not_false_eq_true, wr_2, wrL_1, zm_eqF, zm_eqF', zm_lt, zm_lt', zm_le, zm_le', zm_sub1, zN_01, Nat.mul_zero, Nat.zero_mul, Nat.mul_one, Nat.sub_zero, Nat.sub_self, Nat.add_sub_cancel, hw, e1, lc1]
    · rw [isWord7 hP hM ht (by omega), if_pos hk]
  · left
    refine ⟨fun b M hL => ?_, h2⟩
    have := h1 M b hL
    unfold fX6_dropWord; simp (disch := omega) only [wr_cj, wr_nj, rng_in, rng_out, zN_lit, zN_add, zN_mul, zN_sub, zN_ltT, zN_ltF, zN_leT, zN_leF, zN_eqT, zN_eqF, zN_lt, zN_le, zN_eq, zN_nat, zN_oobF, Option.bind_some, ↓reduceIte, Nat.one_mul, Nat.zero_add, Nat.add_zero, Nat.reduceAdd, Nat.reduceMul, Nat.reduceSub, Nat.reduceLT, Nat.reduceLeDiff, Nat.reduceEqDiff, reduceCtorEq, true_or, or_true, false_or, or_false, true_and, and_true, false_and, and_false, not_true_eq_false, not_false_eq_true, wr_2, wrL_1, zm_eqF, zm_eqF', zm_lt, zm_lt', zm_le, zm_le', zm_sub1, zN_01, Nat.mul_zero, Nat.zero_mul, Nat.mul_one, Nat.sub_zero, Nat.sub_self, Nat.add_sub_cancel, this]
theorem putP_c (P : Nat → Nat) {t k v : Nat} (ht : t < 3) : putP P t k v (5 + t) = P (5 + t) + 1 := by
  rw [putP_lo P (by omega), hI_c P ht ht, if_pos rfl]
theorem dropP_c {P : Nat → Nat} (hP : Good P) {t k : Nat} (ht : t < 3) (hk : k < P (5 + t)) : dropP P t k (5 + t) = P (5 + t) - 1 := by
  have ok := dropQ_ok hP (t := t) (k := k)
  unfold dropP; rw [shN_out (by omega), ok.2.2.1 _ (by omega), hD_c P ht ht (by omega), if_pos rfl]
theorem call_comes (x y z : Int32) : Cll (fX6_comes x y z) (fX7_comes x y z) := by
  refine Cll_of (fun P T R U K hw => ?_)
  have hl := hw.2.2.2.1.1
  rcases put_both hw.1 x y z with ⟨r, hr, l, m⟩ | ⟨t, k, v, ht, hk, hc, hv, rfl, rfl, rfl, l, m⟩
  · refine ⟨r, P, T, R, U, K, hw, fun M hM => ?_, MD_no (fun M hM => ?_)⟩
    · exact (LD_CD (f := fX6_putWord 0 x y z) hw (fun M hL => ⟨M, l 0 M hL, hL, fr_refl _ _⟩)).1 hr rfl M hM
    · have e := m (wr M 158 5 (zN 0)) (MI_th hM).1
      unfold fX7_comes; simp (disch := omega) only [wr_cj, wr_nj, rng_in, rng_out, zN_lit, zN_add, zN_mul, zN_sub, zN_ltT, zN_ltF, zN_leT, zN_leF, zN_eqT, zN_eqF, zN_lt, zN_le, zN_eq, zN_nat, zN_oobF, Option.bind_some, ↓reduceIte, Nat.one_mul, Nat.zero_add, Nat.add_zero, Nat.reduceAdd, Nat.reduceMul, Nat.reduceSub, Nat.reduceLT, Nat.reduceLeDiff, Nat.reduceEqDiff, reduceCtorEq, true_or, or_true, false_or, or_false, true_and, and_true, false_and, and_false, not_true_eq_false, not_false_eq_true, wr_2, wrL_1, zm_eqF, zm_eqF', zm_lt, zm_lt', zm_le, zm_le', zm_sub1, zN_01, Nat.mul_zero, Nat.zero_mul, Nat.mul_one, Nat.sub_zero, Nat.sub_self, Nat.add_sub_cancel, e]
      rw [if_neg (zneg_le hr)]
  · refine ⟨zN (P (5 + t) + 1), putP P t k v, T, R, _, K, WF_chg hw (Good_put hw.1 ht hk hc hv), fun M hM => ?_, fun M hM => ?_⟩
    · refine (LD_CD (f := fX6_putWord 0 (zN t) (zN k) (zN v)) hw (fun M hL => ?_)).2 (zN_nn (by omega)) M hM
      obtain ⟨M1, e1, l1, f1⟩ := l 0 M hL
      exact ⟨M1, e1, l1, fr_mono f1 (fun c j a => by unfold CW; omega)⟩
    · have h0 := MI_th (v := zN 0) hM
      have e := m (wr M 158 5 (zN 0)) h0.1
      obtain ⟨M1, e1, h1, f1⟩ := chg7 hl h0
      obtain ⟨M2, e2, n2, f2⟩ := put7 hw.1 (v := v) ht hk hc h1.1
      have m2 := n2 (5 + t) (by omega)
      rw [putP_c P ht] at m2
      refine ⟨M2, ?_, MI_now h1 f2 n2, frM_trans (frM_th M _) (frM_trans (frM_fr f1 (fun c j a => by omega)) (frM_fr f2 (fun c j a => by omega)))⟩
      unfold fX7_comes; simp (disch := omega) only [wr_cj, wr_nj, rng_in, rng_out, zN_lit, zN_add, zN_mul, zN_sub, zN_ltT, zN_ltF, zN_leT, zN_leF, zN_eqT, zN_eqF, zN_lt, zN_le, zN_eq, zN_nat, zN_oobF, Option.bind_some, ↓reduceIte, Nat.one_mul, Nat.zero_add, Nat.add_zero, Nat.reduceAdd, Nat.reduceMul, Nat.reduceSub, Nat.reduceLT, Nat.reduceLeDiff, Nat.reduceEqDiff, reduceCtorEq, true_or, or_true, false_or, or_false, true_and, and_true, false_and, and_false, not_true_eq_false, not_false_eq_true, wr_2, wrL_1, zm_eqF, zm_eqF', zm_lt, zm_lt', zm_le, zm_le', zm_sub1, zN_01, Nat.mul_zero, Nat.zero_mul, Nat.mul_one, Nat.sub_zero, Nat.sub_self, Nat.add_sub_cancel, e, e1, e2, m2]
theorem call_goes (x y : Int32) : Cll (fX6_goes x y) (fX7_goes x y) := by
  refine Cll_of (fun P T R U K hw => ?_)
  have hl := hw.2.2.2.1.1
  rcases drop_both hw.1 x y with ⟨l, m⟩ | ⟨t, k, ht, hk, rfl, rfl, l, m⟩
  · refine ⟨-zN 1, P, T, R, U, K, hw, fun M hM => ?_, MD_no (fun M hM => ?_)⟩
    · exact (LD_CD (f := fX6_dropWord 0 x y) hw (fun M hL => ⟨M, l 0 M hL, hL, fr_refl _ _⟩)).1 (zm_neg (by omega)) rfl M hM
    · have e := m (wr M 158 5 (zN 0)) (MI_th hM).1
      unfold fX7_goes; simp (disch := omega) only [wr_cj, wr_nj, rng_in, rng_out, zN_lit, zN_add, zN_mul, zN_sub, zN_ltT, zN_ltF, zN_leT, zN_leF, zN_eqT, zN_eqF, zN_lt, zN_le, zN_eq, zN_nat, zN_oobF, Option.bind_some, ↓reduceIte, Nat.one_mul, Nat.zero_add, Nat.add_zero, Nat.reduceAdd, Nat.reduceMul, Nat.reduceSub, Nat.reduceLT, Nat.reduceLeDiff, Nat.reduceEqDiff, reduceCtorEq, true_or, or_true, false_or, or_false, true_and, and_true, false_and, and_false, not_true_eq_false, not_false_eq_true, wr_2, wrL_1, zm_eqF, zm_eqF', zm_lt, zm_lt', zm_le, zm_le', zm_sub1, zN_01, Nat.mul_zero, Nat.zero_mul, Nat.mul_one, Nat.sub_zero, Nat.sub_self, Nat.add_sub_cancel, e]
  · have hc := (hw.1.2.1 t ht).1
    refine ⟨zN (P (5 + t) - 1), dropP P t k, T, R, _, K, WF_chg hw (Good_drop hw.1 ht hk), fun M hM => ?_, fun M hM => ?_⟩
    · refine (LD_CD (f := fX6_dropWord 0 (zN t) (zN k)) hw (fun M hL => ?_)).2 (zN_nn (by omega)) M hM
      obtain ⟨M1, e1, l1, f1⟩ := l 0 M hL
      exact ⟨M1, e1, l1, fr_mono f1 (fun c j a => by unfold CW; omega)⟩
    · have h0 := MI_th (v := zN 0) hM
      have e := m (wr M 158 5 (zN 0)) h0.1
      obtain ⟨M1, e1, h1, f1⟩ := chg7 hl h0
      obtain ⟨M2, e2, n2, f2⟩ := drop7 hw.1 ht hk h1.1
      have m2 := n2 (5 + t) (by omega)
      rw [dropP_c hw.1 ht hk] at m2
      refine ⟨M2, ?_, MI_now h1 f2 n2, frM_trans (frM_th M _) (frM_trans (frM_fr f1 (fun c j a => by omega)) (frM_fr f2 (fun c j a => by omega)))⟩
      unfold fX7_goes; simp (disch := omega) only [wr_cj, wr_nj, rng_in, rng_out, zN_lit, zN_add, zN_mul, zN_sub, zN_ltT, zN_ltF, zN_leT, zN_leF, zN_eqT, zN_eqF, zN_lt, zN_le, zN_eq, zN_nat, zN_oobF, Option.bind_some, ↓reduceIte, Nat.one_mul, Nat.zero_add, Nat.add_zero, Nat.reduceAdd, Nat.reduceMul, Nat.reduceSub, Nat.reduceLT, Nat.reduceLeDiff, Nat.reduceEqDiff, reduceCtorEq, true_or, or_true, false_or, or_false, true_and, and_true, false_and, and_false, not_true_eq_false, not_false_eq_true, wr_2, wrL_1, zm_eqF, zm_eqF', zm_lt, zm_lt', zm_le, zm_le', zm_sub1, zN_01, Nat.mul_zero, Nat.zero_mul, Nat.mul_one, Nat.sub_zero, Nat.sub_self, Nat.add_sub_cancel, e, e1, e2, m2]
/-! what a word more, or less, would cost -/
theorem trialCost6 {Q : Nat → Nat} (hQ : Good Q) {M : zMM} (hL : Leaf M 10 Q) : ∃ M', fX6_trialCost M = some (zN (cst Q), M') ∧ fr (fun c _ => 120 ≤ c ∧ c ≤ 147) M M' := by
  obtain ⟨M1, e1, s1, l1, f1⟩ := cset0 hQ (b := 10) (by omega) hL
  have a := costOf4 hQ l1 s1
  refine ⟨M1, ?_, f1⟩
  unfold fX6_trialCost
  rw [e1, Option.bind_some, a]; rfl
/-- the tail of more and less -/
theorem tail7 {P Q : Nat → Nat} {T : List Nat} {R : List Int64} {U : List (Nat → Nat)} {K : Nat → Option (Nat → Nat)} (hQ : Good Q) {f : zMM → Option zMM} (hf : ∀ M, MNow M P → ∃ M', f M = some M' ∧ MNow M' Q ∧ fr (fun c _ => c = 159) M M') {M : zMM} (hM : MI P T R U K M) :
    ∃ M', ((fX7_layAside (wr M 158 5 (zN 0))).bind fun q3 => (f q3).bind fun q4 => (fX7_costNow q4).bind fun q5 => (fX7_comesBack q5.2).bind fun q6 => some (q5.1, q6)) = some (zN (cst Q), M') ∧ MI P T R U K M' ∧ frM M M' := by
  have h0 := MNow_w (j := 5) (v := zN 0) hM.1
  obtain ⟨M1, e1, as1, n1, f1⟩ := aside7 h0
  obtain ⟨M2, e2, n2, f2⟩ := hf M1 n1
  have as2 := AS_fr as1 f2 (fun j a => by omega)
  obtain ⟨M3, e3, s3, f3⟩ := costNow7 hQ n2
  have as3 := AS_fr as2 f3 (fun j a => by unfold MS at a; omega)
  obtain ⟨M4, e4, n4, f4⟩ := back7 as3
  have r4 := MR_q (MR_q (MR_q (MR_q (MR_fr hM.2.2.1 (M' := wr M 158 5 (zN 0)) (wr_nj (by omega)) (fun j => rfl)) f1 (by omega)) f2 (by omega)) f3 (by unfold MS; omega)) f4 (by omega)
  refine ⟨M4, ?_, MI_q hM (mq_trans (mq_w (j := 5) (v := zN 0) (by omega)) (mq_trans (mq_166 f1) (mq_trans (mq_159 f2) (mq_trans (mq_MS f3) (mq_159 f4))))) n4 r4⟩
  rw [e1, Option.bind_some, e2, Option.bind_some, e3, Option.bind_some, e4]; rfl
theorem call_more (x y z : Int32) : Cll (fX6_more x y z) (fX7_more x y z) := by
  refine Cll_of (fun P T R U K hw => ?_)
  have hP := hw.1
  have hU := hw.2.2.2.1.1
  rcases put_both hw.1 x y z with ⟨r, hr, l, m⟩ | ⟨t, k, v, ht, hk, hc, hv, rfl, rfl, rfl, l, m⟩
  · refine ⟨r, P, T, R, U, K, hw, fun M hM => ?_, MD_no (fun M hM => ?_)⟩
    · obtain ⟨M1, e1, l1, f1⟩ := copy0 hP (b := 10) hM.1 (by omega)
      have e2 := l 10 M1 l1
      refine ⟨M1, ?_, CI_sc hM hU f1 (fun c j a => by omega), frC_fr f1 (fun c j a => by omega)⟩
      unfold fX6_more
      rw [e1, Option.bind_some, e2, Option.bind_some]
      exact if_neg (zneg_le hr)
    · have e := m (wr M 158 5 (zN 0)) (MI_th hM).1
      unfold fX7_more
      simp only [zN_lit]
      rw [e, Option.bind_some]
      exact if_neg (zneg_le hr)
  · have hQ := Good_put hP ht hk hc hv
    refine ⟨zN (cst (putP P t k v)), P, T, R, U, K, hw, fun M hM => ?_, fun M hM => ?_⟩
    · obtain ⟨M1, e1, l1, f1⟩ := copy0 hP (b := 10) hM.1 (by omega)
      obtain ⟨M2, e2, l2, f2⟩ := l 10 M1 l1
      obtain ⟨M3, e3, f3⟩ := trialCost6 hQ l2
      have ff : fr (fun c _ => (10 ≤ c ∧ c < 20) ∨ (120 ≤ c ∧ c ≤ 147)) M M3 := fr_trans (fr_mono f1 (fun c j a => by omega)) (fr_trans (fr_mono f2 (fun c j a => by omega)) (fr_mono f3 (fun c j a => by omega)))
      refine ⟨M3, ?_, CI_sc hM hU ff (fun c j a => by omega), frC_fr ff (fun c j a => by omega)⟩
      unfold fX6_more
      rw [e1, Option.bind_some, e2, Option.bind_some]
      refine Eq.trans (if_pos (show zN 0 ≤ zN (P (5 + t) + 1) by rw [zN_leT (by omega)]; trivial)) ?_
      rw [e3]; rfl
    · obtain ⟨M', e', h', f'⟩ := tail7 hQ (fun M hM => put7 hP (v := v) ht hk hc hM) hM
      have e := m (wr M 158 5 (zN 0)) (MI_th hM).1
      refine ⟨M', ?_, h', f'⟩
      unfold fX7_more
      simp only [zN_lit]
      rw [e, Option.bind_some]
      exact (if_pos (show zN 0 ≤ zN 0 by rw [zN_leT (by omega)]; trivial)).trans e'
theorem call_less (x y : Int32) : Cll (fX6_less x y) (fX7_less x y) := by
  refine Cll_of (fun P T R U K hw => ?_)
  have hP := hw.1
  have hU := hw.2.2.2.1.1
  rcases drop_both hw.1 x y with ⟨l, m⟩ | ⟨t, k, ht, hk, rfl, rfl, l, m⟩
  · refine ⟨-zN 1, P, T, R, U, K, hw, fun M hM => ?_, MD_no (fun M hM => ?_)⟩
    · obtain ⟨M1, e1, l1, f1⟩ := copy0 hP (b := 10) hM.1 (by omega)
      have e2 := l 10 M1 l1
      refine ⟨M1, ?_, CI_sc hM hU f1 (fun c j a => by omega), frC_fr f1 (fun c j a => by omega)⟩
      unfold fX6_less
      rw [e1, Option.bind_some, e2, Option.bind_some]
      exact if_neg (zneg_le (zm_neg (by omega)))
    · have e := m (wr M 158 5 (zN 0)) (MI_th hM).1
      unfold fX7_less
      simp only [zN_lit]
      rw [e, Option.bind_some]
      exact if_pos rfl
  · have hQ := Good_drop hP ht hk
    have hc := (hP.2.1 t ht).1
    refine ⟨zN (cst (dropP P t k)), P, T, R, U, K, hw, fun M hM => ?_, fun M hM => ?_⟩
    · obtain ⟨M1, e1, l1, f1⟩ := copy0 hP (b := 10) hM.1 (by omega)
      obtain ⟨M2, e2, l2, f2⟩ := l 10 M1 l1
      obtain ⟨M3, e3, f3⟩ := trialCost6 hQ l2
      have ff : fr (fun c _ => (10 ≤ c ∧ c < 20) ∨ (120 ≤ c ∧ c ≤ 147)) M M3 := fr_trans (fr_mono f1 (fun c j a => by omega)) (fr_trans (fr_mono f2 (fun c j a => by omega)) (fr_mono f3 (fun c j a => by omega)))
      refine ⟨M3, ?_, CI_sc hM hU ff (fun c j a => by omega), frC_fr ff (fun c j a => by omega)⟩
      unfold fX6_less
      rw [e1, Option.bind_some, e2, Option.bind_some]
      refine Eq.trans (if_pos (show zN 0 ≤ zN (P (5 + t) - 1) by rw [zN_leT (by omega)]; trivial)) ?_
      rw [e3]; rfl
    · obtain ⟨M', e', h', f'⟩ := tail7 hQ (fun M hM => drop7 hP ht hk hM) hM
      have e := m (wr M 158 5 (zN 0)) (MI_th hM).1
      refine ⟨M', ?_, h', f'⟩
      unfold fX7_less
      simp only [zN_lit]
      rw [e, Option.bind_some]
      exact (if_neg nz10).trans e'
/-! the comments change places -/
def swP (P : Nat → Nat) : Nat → Nat := fun j => if j = 6 then P 7 else if j = 7 then P 6 else if 78 ≤ j ∧ j < 148 then P (j + 70) else if 148 ≤ j ∧ j < 218 then P (j - 70) else if 219 ≤ j ∧ j < 219 + 3 * P 218 ∧ (j - 219) % 3 = 0 then 3 - P j else P j
theorem swP_o {P : Nat → Nat} {j : Nat} (h : j < 6 ∨ (8 ≤ j ∧ j < 78) ∨ j = 218 ∨ (219 ≤ j ∧ (j - 219) % 3 ≠ 0) ∨ 219 + 3 * P 218 ≤ j) : swP P j = P j := by
  unfold swP
  rw [if_neg (by omega), if_neg (by omega), if_neg (by omega), if_neg (by omega), if_neg (by omega)]
theorem swP_o' {P : Nat → Nat} (hn : P 218 ≤ 12) {j : Nat} (h : 255 ≤ j) : swP P j = P j := by
  unfold swP
  rw [if_neg (by omega), if_neg (by omega), if_neg (by omega), if_neg (by omega), if_neg (by omega)]
theorem swP_1 {P : Nat → Nat} {k : Nat} (h : k < 70) : swP P (78 + k) = P (148 + k) := by
  unfold swP
  rw [if_neg (by omega), if_neg (by omega), if_pos (by omega)]; congr 1; omega
theorem swP_2 {P : Nat → Nat} {k : Nat} (h : k < 70) : swP P (148 + k) = P (78 + k) := by
  unfold swP
  rw [if_neg (by omega), if_neg (by omega), if_neg (by omega), if_pos (by omega)]; congr 1; omega
theorem swP_t {P : Nat → Nat} {i : Nat} (h : i < P 218) : swP P (219 + 3 * i) = 3 - P (219 + 3 * i) := by
  unfold swP
  rw [if_neg (by omega), if_neg (by omega), if_neg (by omega), if_neg (by omega), if_pos (by omega)]
theorem swP_6 (P : Nat → Nat) : swP P 6 = P 7 := by unfold swP; rw [if_pos rfl]
theorem swP_7 (P : Nat → Nat) : swP P 7 = P 6 := by unfold swP; rw [if_neg (by omega), if_pos rfl]
theorem Good_sw {P : Nat → Nat} (hP : Good P) : Good (swP P) := by
  obtain ⟨h1, h2, h3, h4⟩ := hP
  have h12 := h3.1
  have a0 := h2 0 (by omega)
  have a1 := h2 1 (by omega)
  have a2 := h2 2 (by omega)
  unfold pSz at a0 a1 a2
  simp only [Nat.reduceAdd, Nat.reduceMul] at a0 a1 a2
  refine ⟨?_, ?_, ?_, ?_⟩
  · rw [swP_o (j := 0) (by omega), swP_o (j := 1) (by omega), swP_o (j := 2) (by omega), swP_o (j := 3) (by omega), swP_o (j := 4) (by omega), swP_o' h12 (j := 255) (by omega)]
    exact h1
  · intro u hu
    have e : u = 0 ∨ u = 1 ∨ u = 2 := by omega
    unfold pSz
    rcases e with rfl | rfl | rfl <;> simp only [Nat.reduceAdd, Nat.reduceMul]
    · rw [swP_o (j := 5) (by omega)]
      exact ⟨a0.1, fun k hk => by rw [swP_o (by omega)]; exact a0.2 k hk⟩
    · rw [swP_6]
      exact ⟨a2.1, fun k hk => by rw [swP_1 (by omega)]; exact a2.2 k hk⟩
    · rw [swP_7]
      exact ⟨a1.1, fun k hk => by rw [swP_2 (by omega)]; exact a1.2 k hk⟩
  · rw [swP_o (j := 218) (by omega)]
    refine ⟨h12, fun i hi => ?_⟩
    have h := h3.2 i hi
    rw [swP_t hi, swP_o (j := 220 + 3 * i) (by omega), swP_o (j := 221 + 3 * i) (by omega), swP_o (j := 5) (by omega)]
    refine ⟨by omega, ?_, h.2.2⟩
    have hb := h.2.1
    rcases h.1 with e | e
    · rw [e] at hb ⊢
      simp only [Nat.reduceSub, Nat.reduceAdd] at hb ⊢
      rw [swP_7]; exact hb
    · rw [e] at hb ⊢
      simp only [Nat.reduceSub, Nat.reduceAdd] at hb ⊢
      rw [swP_6]; exact hb
  · rw [swP_o' h12 (by omega), swP_o' h12 (by omega), swP_o' h12 (by omega)]; exact h4
theorem swap0 {P : Nat → Nat} (hP : Good P) {b : Nat} {M : zMM} (hL : Leaf M b P) : ∃ M', fX0_swap b M = some M' ∧ Leaf M' b (swP P) ∧ fr (fun c _ => b ≤ c ∧ c < b + 10) M M' := by
  have h12 := hP.2.2.1.1
  obtain ⟨⟨l0, l1, l2, l3, l4, l5, l6⟩, lw, lc, ls, lt⟩ := hL
  have c1 := (hP.2.1 1 (by omega)).1
  have c2 := (hP.2.1 2 (by omega)).1
  simp only [Nat.reduceAdd] at c1 c2
  have k1 := lc 1 (by omega)
  have k2 := lc 2 (by omega)
  simp only [Nat.reduceAdd] at k1 k2
  have A := loopE (fun n (s : Nat × zMM) => fX0_swap_2 b n (zN s.1) s.2)
    (fun i s => s.1 = i ∧ (∀ j, j < i → s.2.1 (b + 5) j = M.1 (b + 6) j ∧ s.2.1 (b + 6) j = M.1 (b + 5) j) ∧ fr (fun c j => (c = b + 5 ∨ c = b + 6) ∧ j < i) M s.2)
    70
    (fun r => ∃ M', r = fX0_swap_76 b zFU 0 (wr (wr M' (b + 2) 1 (zN (P 7))) (b + 2) 2 (zN (P 6))) ∧ (∀ j, j < 70 → M'.1 (b + 5) j = M.1 (b + 6) j ∧ M'.1 (b + 6) j = M.1 (b + 5) j) ∧ fr (fun c _ => c = b + 5 ∨ c = b + 6) M M')
    (by
      rintro i n ⟨i0, M'⟩ hi ⟨rfl, h1, h2⟩
      right
      dsimp only at h1 h2 hi ⊢
      refine ⟨(i0 + 1, wr (wr M' (b + 5) i0 (M'.1 (b + 6) i0)) (b + 6) i0 (M'.1 (b + 5) i0)), ?_, rfl, ?_, fr_wr (fr_wr (fr_mono h2 (fun c j a => by omega)) (by omega)) (by omega)⟩
      · rw [fX0_swap_2]; simp (disch := omega) only [wr_cj, wr_nj, rng_in, rng_out, zN_lit, zN_add, zN_mul, zN_sub, zN_ltT, zN_ltF, zN_leT, zN_leF, zN_eqT, zN_eqF, zN_lt, zN_le, zN_eq, zN_nat, zN_oobF, Option.bind_some, ↓reduceIte, Nat.one_mul, Nat.zero_add, Nat.add_zero, Nat.reduceAdd, Nat.reduceMul, Nat.reduceSub, Nat.reduceLT, Nat.reduceLeDiff, Nat.reduceEqDiff, reduceCtorEq, true_or, or_true, false_or, or_false, true_and, and_true, false_and, and_false, not_true_eq_false, not_false_eq_true, wr_2, wrL_1, zm_eqF, zm_eqF', zm_lt, zm_lt', zm_le, zm_le', zm_sub1, zN_01, Nat.mul_zero, Nat.zero_mul, Nat.mul_one, Nat.sub_zero, Nat.sub_self, Nat.add_sub_cancel]
      · intro j hj
        show (wr (wr M' (b + 5) i0 (M'.1 (b + 6) i0)) (b + 6) i0 (M'.1 (b + 5) i0)).1 (b + 5) j = _ ∧ (wr (wr M' (b + 5) i0 (M'.1 (b + 6) i0)) (b + 6) i0 (M'.1 (b + 5) i0)).1 (b + 6) j = _
        by_cases e : j = i0
        · subst e
          rw [wr_nj (by omega), wr_cj, wr_cj, h2.1 _ _ (by omega), h2.1 _ _ (by omega)]; exact ⟨rfl, rfl⟩
        · rw [wr_nj (by omega), wr_nj (by omega), wr_nj (by omega), wr_nj (by omega)]; exact h1 j (by omega))
    (by
      rintro n ⟨i0, M'⟩ ⟨rfl, h1, h2⟩
      dsimp only at h1 h2 ⊢
      refine ⟨M', ?_, h1, fr_mono h2 (fun c j a => by omega)⟩
      have g1 : M'.1 (b + 2) 1 = zN (P 6) := by rw [h2.1 _ _ (by omega)]; exact k1
      have g2 : M'.1 (b + 2) 2 = zN (P 7) := by rw [h2.1 _ _ (by omega)]; exact k2
      rw [fX0_swap_2]; simp (disch := omega) only [wr_cj, wr_nj, rng_in, rng_out, zN_lit, zN_add, zN_mul, zN_sub, zN_ltT, zN_ltF, zN_leT, zN_leF, zN_eqT, zN_eqF, zN_lt, zN_le, zN_eq, zN_nat, zN_oobF, Option.bind_some, ↓reduceIte, Nat.one_mul, Nat.zero_add, Nat.add_zero, Nat.reduceAdd, Nat.reduceMul, Nat.reduceSub, Nat.reduceLT, Nat.reduceLeDiff, Nat.reduceEqDiff, reduceCtorEq, true_or, or_true, false_or, or_false, true_and, and_true, false_and, and_false, not_true_eq_false, not_false_eq_true, wr_2, wrL_1, zm_eqF, zm_eqF', zm_lt, zm_lt', zm_le, zm_le', zm_sub1, zN_01, Nat.mul_zero, Nat.zero_mul, Nat.mul_one, Nat.sub_zero, Nat.sub_self, Nat.add_sub_cancel, g1, g2])
    zFU (0, M) (by rw [zFU_eq]; omega) ⟨rfl, fun j hj => absurd hj (by omega), fr_refl _ _⟩
  obtain ⟨M1, e1, h1, f1⟩ := A
  let M2 : zMM := wr (wr M1 (b + 2) 1 (zN (P 7))) (b + 2) 2 (zN (P 6))
  have f2 : fr (fun c _ => c = b + 2 ∨ c = b + 5 ∨ c = b + 6) M M2 := fr_wr (fr_wr (fr_mono f1 (fun c j a => by omega)) (by omega)) (by omega)
  have B := loopE (fun n (s : Nat × zMM) => fX0_swap_76 b n (zN s.1) s.2)
    (fun i s => s.1 = i ∧ (∀ j, j < i → s.2.1 (b + 7) j = zN (3 - P (219 + 3 * j))) ∧ fr (fun c j => c = b + 7 ∧ j < i) M2 s.2)
    (P 218)
    (fun r => ∃ M', r = some M' ∧ (∀ j, j < P 218 → M'.1 (b + 7) j = zN (3 - P (219 + 3 * j))) ∧ fr (fun c _ => c = b + 7) M2 M')
    (by
      rintro i n ⟨i0, M'⟩ hi ⟨rfl, h1, h2⟩
      right
      dsimp only at h1 h2 hi ⊢
      have g6 : M'.1 b 6 = zN (P 218) := by rw [h2.1 _ _ (by omega), f2.1 _ _ (by omega)]; exact l6
      have g7 : M'.1 (b + 7) i0 = zN (P (219 + 3 * i0)) := by rw [h2.1 _ _ (by omega), f2.1 _ _ (by omega)]; exact (lt i0 hi).1
      have hp := (hP.2.2.1.2 i0 hi).1
      refine ⟨(i0 + 1, wr M' (b + 7) i0 (zN (3 - P (219 + 3 * i0)))), ?_, rfl, ?_, fr_wr (fr_mono h2 (fun c j a => by omega)) (by omega)⟩
      · rw [fX0_swap_76]
        rcases hp with e | e
        · rw [e] at g7 ⊢; simp (disch := omega) only [wr_cj, wr_nj, rng_in, rng_out, zN_lit, zN_add, zN_mul, zN_sub, zN_ltT, zN_ltF, zN_leT, zN_leF, zN_eqT, zN_eqF, zN_lt, zN_le, zN_eq, zN_nat, zN_oobF, Option.bind_some, ↓reduceIte, Nat.one_mul, Nat.zero_add, Nat.add_zero, Nat.reduceAdd, Nat.reduceMul, Nat.reduceSub, Nat.reduceLT, Nat.reduceLeDiff, Nat.reduceEqDiff, reduceCtorEq, true_or, or_true, false_or, or_false, true_and, and_true, false_and, and_false, not_true_eq_false, not_false_eq_true, wr_2, wrL_1, zm_eqF, zm_eqF', zm_lt, zm_lt', zm_le, zm_le', zm_sub1, zN_01, Nat.mul_zero, Nat.zero_mul, Nat.mul_one, Nat.sub_zero, Nat.sub_self, Nat.add_sub_cancel, g6, g7, fX0_swap_104]
        · rw [e] at g7 ⊢; simp (disch := omega) only [wr_cj, wr_nj, rng_in, rng_out, zN_lit, zN_add, zN_mul, zN_sub, zN_ltT, zN_ltF, zN_leT, zN_leF, zN_eqT, zN_eqF, zN_lt, zN_le, zN_eq, zN_nat, zN_oobF, Option.bind_some, ↓reduceIte, Nat.one_mul, Nat.zero_add, Nat.add_zero, Nat.reduceAdd, Nat.reduceMul, Nat.reduceSub, Nat.reduceLT, Nat.reduceLeDiff, Nat.reduceEqDiff, reduceCtorEq, true_or, or_true, false_or, or_false, true_and, and_true, false_and, and_false, not_true_eq_false, not_false_eq_true, wr_2, wrL_1, zm_eqF, zm_eqF', zm_lt, zm_lt', zm_le, zm_le', zm_sub1, zN_01, Nat.mul_zero, Nat.zero_mul, Nat.mul_one, Nat.sub_zero, Nat.sub_self, Nat.add_sub_cancel, g6, g7, fX0_swap_104]
      · intro j hj
        show (wr M' (b + 7) i0 (zN (3 - P (219 + 3 * i0)))).1 (b + 7) j = _
        by_cases e : j = i0
        · subst e; rw [wr_cj]
        · rw [wr_nj (by omega)]; exact h1 j (by omega))
    (by
      rintro n ⟨i0, M'⟩ ⟨rfl, h1, h2⟩
      dsimp only at h1 h2 ⊢
      have g6 : M'.1 b 6 = zN (P 218) := by rw [h2.1 _ _ (by omega), f2.1 _ _ (by omega)]; exact l6
      refine ⟨M', ?_, h1, fr_mono h2 (fun c j a => by omega)⟩
      rw [fX0_swap_76]; simp (disch := omega) only [wr_cj, wr_nj, rng_in, rng_out, zN_lit, zN_add, zN_mul, zN_sub, zN_ltT, zN_ltF, zN_leT, zN_leF, zN_eqT, zN_eqF, zN_lt, zN_le, zN_eq, zN_nat, zN_oobF, Option.bind_some, ↓reduceIte, Nat.one_mul, Nat.zero_add, Nat.add_zero, Nat.reduceAdd, Nat.reduceMul, Nat.reduceSub, Nat.reduceLT, Nat.reduceLeDiff, Nat.reduceEqDiff, reduceCtorEq, true_or, or_true, false_or, or_false, true_and, and_true, false_and, and_false, not_true_eq_false, not_false_eq_true, wr_2, wrL_1, zm_eqF, zm_eqF', zm_lt, zm_lt', zm_le, zm_le', zm_sub1, zN_01, Nat.mul_zero, Nat.zero_mul, Nat.mul_one, Nat.sub_zero, Nat.sub_self, Nat.add_sub_cancel, g6])
    zFU (0, M2) (by rw [zFU_eq]; omega) ⟨rfl, fun j hj => absurd hj (by omega), fr_refl _ _⟩
  obtain ⟨M3, e3, h3, f3⟩ := B
  have ff : fr (fun c _ => c = b + 2 ∨ c = b + 5 ∨ c = b + 6 ∨ c = b + 7) M M3 := fr_trans (fr_mono f2 (fun c j a => by omega)) (fr_mono f3 (fun c j a => by omega))
  refine ⟨M3, e1.trans e3, ?_, fr_mono ff (fun c j a => by omega)⟩
  refine ⟨⟨?_, ?_, ?_, ?_, ?_, ?_, ?_⟩, ?_, ?_, ?_, ?_⟩
  · rw [ff.1 _ _ (by omega), swP_o (by omega)]; exact l0
  · rw [ff.1 _ _ (by omega), swP_o (by omega)]; exact l1
  · rw [ff.1 _ _ (by omega), swP_o' h12 (by omega)]; exact l2
  · rw [ff.1 _ _ (by omega), swP_o (by omega)]; exact l3
  · rw [ff.1 _ _ (by omega), swP_o (by omega)]; exact l4
  · rw [ff.1 _ _ (by omega), swP_o (by omega)]; exact l5
  · rw [ff.1 _ _ (by omega), swP_o (by omega)]; exact l6
  · intro i hi; rw [ff.1 _ _ (by omega), swP_o' h12 (by omega)]; exact lw i hi
  · intro t ht
    have e : t = 0 ∨ t = 1 ∨ t = 2 := by omega
    rw [f3.1 _ _ (by omega)]
    simp only [M2]
    rcases e with rfl | rfl | rfl <;> simp only [Nat.reduceAdd]
    · rw [wr_nj (by omega), wr_nj (by omega), f1.1 _ _ (by omega), swP_o (by omega)]; exact lc 0 (by omega)
    · rw [wr_nj (by omega), wr_cj, swP_6]
    · rw [wr_cj, swP_7]
  · intro t ht k hk
    have e : t = 0 ∨ t = 1 ∨ t = 2 := by omega
    unfold pSz
    rw [f3.1 _ _ (by omega)]
    simp only [M2]
    rw [wr_nj (by omega), wr_nj (by omega)]
    rcases e with rfl | rfl | rfl <;> simp only [Nat.add_assoc, Nat.reduceAdd, Nat.reduceMul] at hk ⊢
    · rw [swP_o (by omega)] at hk
      have c0 := (hP.2.1 0 (by omega)).1
      simp only [Nat.reduceAdd] at c0
      rw [f1.1 _ _ (by omega), swP_o (by omega)]; exact ls 0 (by omega) k hk
    · rw [swP_6] at hk
      rw [(h1 k (by omega)).1, swP_1 (by omega)]; exact ls 2 (by omega) k hk
    · rw [swP_7] at hk
      rw [(h1 k (by omega)).2, swP_2 (by omega)]; exact ls 1 (by omega) k hk
  · intro i hi
    rw [swP_o (by omega)] at hi
    have := lt i hi
    rw [h3 i hi, ff.1 _ _ (by omega), ff.1 _ _ (by omega), swP_t hi, swP_o (j := 220 + 3 * i) (by omega), swP_o (j := 221 + 3 * i) (by omega)]
    exact ⟨rfl, this.2⟩
theorem swap7 {P : Nat → Nat} (hP : Good P) (hne : ¬ (P 6 = 0 ∧ P 7 = 0)) {M : zMM} (hM : MNow M P) : ∃ M', fX7_goSwap M = some (zN 1, M') ∧ MNow M' (swP P) ∧ fr (fun c _ => c = 159) M M' := by
  have h12 := hP.2.2.1.1
  have c1 := (hP.2.1 1 (by omega)).1
  have c2 := (hP.2.1 2 (by omega)).1
  simp only [Nat.reduceAdd] at c1 c2
  have A := loopE (fun n (s : Nat × zMM) => fX7_goSwap_24 n (zN s.1 + -zN 1) s.2)
    (fun i s => s.1 = i ∧ (0 < i → s.2.1 159 6 = zN (P 7) ∧ s.2.1 159 7 = zN (P 6)) ∧ (∀ j, j + 1 < i → s.2.1 159 (78 + j) = zN (P (148 + j)) ∧ s.2.1 159 (148 + j) = zN (P (78 + j))) ∧ fr (fun c j => c = 159 ∧ ((0 < i ∧ (j = 6 ∨ j = 7)) ∨ (78 ≤ j ∧ j + 1 < 78 + i) ∨ (148 ≤ j ∧ j + 1 < 148 + i))) M s.2)
    71
    (fun r => ∃ M', r = fX7_goSwap_95 zFU 0 M' ∧ (M'.1 159 6 = zN (P 7) ∧ M'.1 159 7 = zN (P 6)) ∧ (∀ j, j < 70 → M'.1 159 (78 + j) = zN (P (148 + j)) ∧ M'.1 159 (148 + j) = zN (P (78 + j))) ∧ fr (fun c j => c = 159 ∧ (j = 6 ∨ j = 7 ∨ (78 ≤ j ∧ j < 218))) M M')
    (by
      rintro i n ⟨i0, M'⟩ hi ⟨rfl, h0, h1, h2⟩
      right
      dsimp only at h0 h1 h2 hi ⊢
      by_cases e0 : i0 = 0
      · subst e0
        have g6 : M'.1 159 6 = zN (P 6) := by rw [h2.1 _ _ (by omega)]; exact hM _ (by omega)
        have g7 : M'.1 159 7 = zN (P 7) := by rw [h2.1 _ _ (by omega)]; exact hM _ (by omega)
        refine ⟨(0 + 1, wr (wr M' 159 6 (zN (P 7))) 159 7 (zN (P 6))), ?_, rfl, fun _ => ?_, fun j hj => absurd hj (by omega), fr_wr (fr_wr (fr_mono h2 (fun c j a => by omega)) (by omega)) (by omega)⟩
        · rw [fX7_goSwap_24, zdn0, zdnS]
          simp (disch := omega) only [wr_cj, wr_nj, rng_in, rng_out, zN_lit, zN_add, zN_mul, zN_sub, zN_ltT, zN_ltF, zN_leT, zN_leF, zN_eqT, zN_eqF, zN_lt, zN_le, zN_eq, zN_nat, zN_oobF, Option.bind_some, ↓reduceIte, Nat.one_mul, Nat.zero_add, Nat.add_zero, Nat.reduceAdd, Nat.reduceMul, Nat.reduceSub, Nat.reduceLT, Nat.reduceLeDiff, Nat.reduceEqDiff, reduceCtorEq, true_or, or_true, false_or, or_false, true_and, and_true, false_and, and_false, not_true_eq_false, not_false_eq_true, wr_2, wrL_1, zm_eqF, zm_eqF', zm_lt, zm_lt', zm_le, zm_le', zm_sub1, zN_01, Nat.mul_zero, Nat.zero_mul, Nat.mul_one, Nat.sub_zero, Nat.sub_self, Nat.add_sub_cancel, fX7_goSwap_43, fX7_goSwap_58, g6, g7]
          rw [zm_add1]
        · show (wr (wr M' 159 6 (zN (P 7))) 159 7 (zN (P 6))).1 159 6 = _ ∧ (wr (wr M' 159 6 (zN (P 7))) 159 7 (zN (P 6))).1 159 7 = _
          rw [wr_nj (by omega), wr_cj, wr_cj]; exact ⟨rfl, rfl⟩
      · obtain ⟨i1, rfl⟩ : ∃ q, i0 = q + 1 := ⟨i0 - 1, by omega⟩
        have g1 : M'.1 159 (78 + i1) = zN (P (78 + i1)) := by rw [h2.1 _ _ (by omega)]; exact hM _ (by omega)
        have g2 : M'.1 159 (148 + i1) = zN (P (148 + i1)) := by rw [h2.1 _ _ (by omega)]; exact hM _ (by omega)
        refine ⟨(i1 + 1 + 1, wr (wr M' 159 (78 + i1) (zN (P (148 + i1)))) 159 (148 + i1) (zN (P (78 + i1)))), ?_, rfl, fun _ => ?_, fun j hj => ?_, fr_wr (fr_wr (fr_mono h2 (fun c j a => by omega)) (by omega)) (by omega)⟩
        · rw [fX7_goSwap_24, zdnS, zdnS]
          simp (disch := omega) only [wr_cj, wr_nj, rng_in, rng_out, zN_lit, zN_add, zN_mul, zN_sub, zN_ltT, zN_ltF, zN_leT, zN_leF, zN_eqT, zN_eqF, zN_lt, zN_le, zN_eq, zN_nat, zN_oobF, Option.bind_some, ↓reduceIte, Nat.one_mul, Nat.zero_add, Nat.add_zero, Nat.reduceAdd, Nat.reduceMul, Nat.reduceSub, Nat.reduceLT, Nat.reduceLeDiff, Nat.reduceEqDiff, reduceCtorEq, true_or, or_true, false_or, or_false, true_and, and_true, false_and, and_false, not_true_eq_false, not_false_eq_true, wr_2, wrL_1, zm_eqF, zm_eqF', zm_lt, zm_lt', zm_le, zm_le', zm_sub1, zN_01, Nat.mul_zero, Nat.zero_mul, Nat.mul_one, Nat.sub_zero, Nat.sub_self, Nat.add_sub_cancel, fX7_goSwap_43, fX7_goSwap_58, g1, g2]
        · show (wr (wr M' 159 (78 + i1) (zN (P (148 + i1)))) 159 (148 + i1) (zN (P (78 + i1)))).1 159 6 = _ ∧ (wr (wr M' 159 (78 + i1) (zN (P (148 + i1)))) 159 (148 + i1) (zN (P (78 + i1)))).1 159 7 = _
          rw [wr_nj (by omega), wr_nj (by omega), wr_nj (by omega), wr_nj (by omega)]; exact h0 (by omega)
        · show (wr (wr M' 159 (78 + i1) (zN (P (148 + i1)))) 159 (148 + i1) (zN (P (78 + i1)))).1 159 (78 + j) = _ ∧ (wr (wr M' 159 (78 + i1) (zN (P (148 + i1)))) 159 (148 + i1) (zN (P (78 + i1)))).1 159 (148 + j) = _
          by_cases e : j = i1
          · subst e; rw [wr_nj (by omega), wr_cj, wr_cj]; exact ⟨rfl, rfl⟩
          · rw [wr_nj (by omega), wr_nj (by omega), wr_nj (by omega), wr_nj (by omega)]; exact h1 j (by omega))
    (by
      rintro n ⟨i0, M'⟩ ⟨e0, h0, h1, h2⟩
      dsimp only at e0 h0 h1 h2 ⊢
      subst e0
      refine ⟨M', ?_, h0 (by omega), fun j hj => h1 j (by omega), fr_mono h2 (fun c j a => by omega)⟩
      rw [fX7_goSwap_24, zdnS]; simp (disch := omega) only [wr_cj, wr_nj, rng_in, rng_out, zN_lit, zN_add, zN_mul, zN_sub, zN_ltT, zN_ltF, zN_leT, zN_leF, zN_eqT, zN_eqF, zN_lt, zN_le, zN_eq, zN_nat, zN_oobF, Option.bind_some, ↓reduceIte, Nat.one_mul, Nat.zero_add, Nat.add_zero, Nat.reduceAdd, Nat.reduceMul, Nat.reduceSub, Nat.reduceLT, Nat.reduceLeDiff, Nat.reduceEqDiff, reduceCtorEq, true_or, or_true, false_or, or_false, true_and, and_true, false_and, and_false, not_true_eq_false, not_false_eq_true, wr_2, wrL_1, zm_eqF, zm_eqF', zm_lt, zm_lt', zm_le, zm_le', zm_sub1, zN_01, Nat.mul_zero, Nat.zero_mul, Nat.mul_one, Nat.sub_zero, Nat.sub_self, Nat.add_sub_cancel])
    zFU (0, M) (by rw [zFU_eq]; omega) ⟨rfl, fun h => absurd h (by omega), fun j hj => absurd hj (by omega), fr_refl _ _⟩
  obtain ⟨M1, e1, h0, h1, f1⟩ := A
  have B := loopE (fun n (s : Nat × zMM) => fX7_goSwap_95 n (zN s.1) s.2)
    (fun i s => s.1 = i ∧ (∀ j, j < i → s.2.1 159 (219 + 3 * j) = zN (3 - P (219 + 3 * j))) ∧ fr (fun c j => c = 159 ∧ 219 ≤ j ∧ j < 219 + 3 * i ∧ (j - 219) % 3 = 0) M1 s.2)
    (P 218)
    (fun r => ∃ M', r = some (zN 1, M') ∧ (∀ j, j < P 218 → M'.1 159 (219 + 3 * j) = zN (3 - P (219 + 3 * j))) ∧ fr (fun c j => c = 159 ∧ 219 ≤ j ∧ j < 219 + 3 * P 218 ∧ (j - 219) % 3 = 0) M1 M')
    (by
      rintro i n ⟨i0, M'⟩ hi ⟨rfl, h1', h2⟩
      right
      dsimp only at h1' h2 hi ⊢
      have g8 : M'.1 159 218 = zN (P 218) := by rw [h2.1 _ _ (by omega), f1.1 _ _ (by omega)]; exact hM _ (by omega)
      have g9 : M'.1 159 (219 + 3 * i0) = zN (P (219 + 3 * i0)) := by rw [h2.1 _ _ (by omega), f1.1 _ _ (by omega)]; exact hM _ (by omega)
      have hp := (hP.2.2.1.2 i0 hi).1
      refine ⟨(i0 + 1, wr M' 159 (219 + 3 * i0) (zN (3 - P (219 + 3 * i0)))), ?_, rfl, ?_, fr_wr (fr_mono h2 (fun c j a => by omega)) (by omega)⟩
      · rw [fX7_goSwap_95]
        unfold fX7_tied
        simp (disch := omega) only [wr_cj, wr_nj, rng_in, rng_out, zN_lit, zN_add, zN_mul, zN_sub, zN_ltT, zN_ltF, zN_leT, zN_leF, zN_eqT, zN_eqF, zN_lt, zN_le, zN_eq, zN_nat, zN_oobF, Option.bind_some, ↓reduceIte, Nat.one_mul, Nat.zero_add, Nat.add_zero, Nat.reduceAdd, Nat.reduceMul, Nat.reduceSub, Nat.reduceLT, Nat.reduceLeDiff, Nat.reduceEqDiff, reduceCtorEq, true_or, or_true, false_or, or_false, true_and, and_true, false_and, and_false, not_true_eq_false, not_false_eq_true, wr_2, wrL_1, zm_eqF, zm_eqF', zm_lt, zm_lt', zm_le, zm_le', zm_sub1, zN_01, Nat.mul_zero, Nat.zero_mul, Nat.mul_one, Nat.sub_zero, Nat.sub_self, Nat.add_sub_cancel, g8, g9]
      · intro j hj
        show (wr M' 159 (219 + 3 * i0) (zN (3 - P (219 + 3 * i0)))).1 159 (219 + 3 * j) = _
        by_cases e : j = i0
        · subst e; rw [wr_cj]
        · rw [wr_nj (by omega)]; exact h1' j (by omega))
    (by
      rintro n ⟨i0, M'⟩ ⟨rfl, h1', h2⟩
      dsimp only at h1' h2 ⊢
      have g8 : M'.1 159 218 = zN (P 218) := by rw [h2.1 _ _ (by omega), f1.1 _ _ (by omega)]; exact hM _ (by omega)
      refine ⟨M', ?_, h1', h2⟩
      rw [fX7_goSwap_95]; simp (disch := omega) only [wr_cj, wr_nj, rng_in, rng_out, zN_lit, zN_add, zN_mul, zN_sub, zN_ltT, zN_ltF, zN_leT, zN_leF, zN_eqT, zN_eqF, zN_lt, zN_le, zN_eq, zN_nat, zN_oobF, Option.bind_some, ↓reduceIte, Nat.one_mul, Nat.zero_add, Nat.add_zero, Nat.reduceAdd, Nat.reduceMul, Nat.reduceSub, Nat.reduceLT, Nat.reduceLeDiff, Nat.reduceEqDiff, reduceCtorEq, true_or, or_true, false_or, or_false, true_and, and_true, false_and, and_false, not_true_eq_false, not_false_eq_true, wr_2, wrL_1, zm_eqF, zm_eqF', zm_lt, zm_lt', zm_le, zm_le', zm_sub1, zN_01, Nat.mul_zero, Nat.zero_mul, Nat.mul_one, Nat.sub_zero, Nat.sub_self, Nat.add_sub_cancel, g8])
    zFU (0, M1) (by rw [zFU_eq]; omega) ⟨rfl, fun j hj => absurd hj (by omega), fr_refl _ _⟩
  obtain ⟨M3, e3, h3, f3⟩ := B
  refine ⟨M3, ?_, ?_, fr_trans (fr_mono f1 (fun c j a => by omega)) (fr_mono f3 (fun c j a => by omega))⟩
  · have m6 := hM 6 (by omega)
    have m7 := hM 7 (by omega)
    have e22 : fX7_goSwap_22 M = some (zN 1, M3) := by
      unfold fX7_goSwap_22
      have e1' : fX7_goSwap_24 zFU (zN 0 + -zN 1) M = _ := e1
      rw [zdn0] at e1'
      exact e1'.trans e3
    unfold fX7_goSwap
    by_cases q : P 6 = 0
    · rw [q] at m6
      simp (disch := omega) only [wr_cj, wr_nj, rng_in, rng_out, zN_lit, zN_add, zN_mul, zN_sub, zN_ltT, zN_ltF, zN_leT, zN_leF, zN_eqT, zN_eqF, zN_lt, zN_le, zN_eq, zN_nat, zN_oobF, Option.bind_some, ↓reduceIte, Nat.one_mul, Nat.zero_add, Nat.add_zero, Nat.reduceAdd, Nat.reduceMul, Nat.reduceSub, Nat.reduceLT, Nat.reduceLeDiff, Nat.reduceEqDiff, reduceCtorEq, true_or, or_true, false_or, or_false, true_and, and_true, false_and, and_false, not_true_eq_false, not_false_eq_true, wr_2, wrL_1, zm_eqF, zm_eqF', zm_lt, zm_lt', zm_le, zm_le', zm_sub1, zN_01, Nat.mul_zero, Nat.zero_mul, Nat.mul_one, Nat.sub_zero, Nat.sub_self, Nat.add_sub_cancel, m6, m7, e22]
    · simp (disch := omega) only [wr_cj, wr_nj, rng_in, rng_out, zN_lit, zN_add, zN_mul, zN_sub, zN_ltT, zN_ltF, zN_leT, zN_leF, zN_eqT, zN_eqF, zN_lt, zN_le, zN_eq, zN_nat, zN_oobF, Option.bind_some, ↓reduceIte, Nat.one_mul, Nat.zero_add, Nat.add_zero, Nat.reduceAdd, Nat.reduceMul, Nat.reduceSub, Nat.reduceLT, Nat.reduceLeDiff, Nat.reduceEqDiff, reduceCtorEq, true_or, or_true, false_or, or_false, true_and, and_true, false_and, and_false, not_true_eq_false, not_false_eq_true, wr_2, wrL_1, zm_eqF, zm_eqF', zm_lt, zm_lt', zm_le, zm_le', zm_sub1, zN_01, Nat.mul_zero, Nat.zero_mul, Nat.mul_one, Nat.sub_zero, Nat.sub_self, Nat.add_sub_cancel, m6, m7, e22]
  · intro j hj
    unfold swP
    by_cases q6 : j = 6
    · rw [if_pos q6, q6, f3.1 _ _ (by omega)]; exact h0.1
    · rw [if_neg q6]
      by_cases q7 : j = 7
      · rw [if_pos q7, q7, f3.1 _ _ (by omega)]; exact h0.2
      · rw [if_neg q7]
        by_cases a : 78 ≤ j ∧ j < 148
        · have := (h1 (j - 78) (by omega)).1
          rw [show 78 + (j - 78) = j by omega, show 148 + (j - 78) = j + 70 by omega] at this
          rw [if_pos a, f3.1 _ _ (by omega)]; exact this
        · rw [if_neg a]
          by_cases b : 148 ≤ j ∧ j < 218
          · have := (h1 (j - 148) (by omega)).2
            rw [show 148 + (j - 148) = j by omega, show 78 + (j - 148) = j - 70 by omega] at this
            rw [if_pos b, f3.1 _ _ (by omega)]; exact this
          · rw [if_neg b]
            by_cases c : 219 ≤ j ∧ j < 219 + 3 * P 218 ∧ (j - 219) % 3 = 0
            · have := h3 ((j - 219) / 3) (by omega)
              rw [show 219 + 3 * ((j - 219) / 3) = j by omega] at this
              rw [if_pos c]; exact this
            · rw [if_neg c, f3.1 _ _ (by omega), f1.1 _ _ (by omega)]; exact hM _ hj
theorem swap_both {P : Nat → Nat} (hP : Good P) : (LD fX6_swapComments P (-zN 2) P ∧ ∀ M, MNow M P → fX7_goSwap M = some (zN 0, M)) ∨ (LD fX6_swapComments P (zN (P 7)) (swP P) ∧ ∀ M, MNow M P → ∃ M', fX7_goSwap M = some (zN 1, M') ∧ MNow M' (swP P) ∧ fr (fun c _ => c = 159) M M') := by
  have c1 := (hP.2.1 1 (by omega)).1
  have c2 := (hP.2.1 2 (by omega)).1
  simp only [Nat.reduceAdd] at c1 c2
  by_cases q : P 6 = 0 ∧ P 7 = 0
  · left
    refine ⟨fun M hL => ⟨M, ?_, hL, fr_refl _ _⟩, fun M hM => ?_⟩
    · have k1 := hL.2.2.1 1 (by omega)
      have k2 := hL.2.2.1 2 (by omega)
      simp only [Nat.reduceAdd] at k1 k2
      rw [q.1] at k1; rw [q.2] at k2
      unfold fX6_swapComments; simp (disch := omega) only [wr_cj, wr_nj, rng_in, rng_out, zN_lit, zN_add, zN_mul, zN_sub, zN_ltT, zN_ltF, zN_leT, zN_leF, zN_eqT, zN_eqF, zN_lt, zN_le, zN_eq, zN_nat, zN_oobF, Option.bind_some, ↓reduceIte, Nat.one_mul, Nat.zero_add, Nat.add_zero, Nat.reduceAdd, Nat.reduceMul, Nat.reduceSub, Nat.reduceLT, Nat.reduceLeDiff, Nat.reduceEqDiff, reduceCtorEq, true_or, or_true, false_or, or_false, true_and, and_true, false_and, and_false, not_true_eq_false, not_false_eq_true, wr_2, wrL_1, zm_eqF, zm_eqF', zm_lt, zm_lt', zm_le, zm_le', zm_sub1, zN_01, Nat.mul_zero, Nat.zero_mul, Nat.mul_one, Nat.sub_zero, Nat.sub_self, Nat.add_sub_cancel, k1, k2]
    · have k1 := hM 6 (by omega)
      have k2 := hM 7 (by omega)
      rw [q.1] at k1; rw [q.2] at k2
      unfold fX7_goSwap; simp (disch := omega) only [wr_cj, wr_nj, rng_in, rng_out, zN_lit, zN_add, zN_mul, zN_sub, zN_ltT, zN_ltF, zN_leT, zN_leF, zN_eqT, zN_eqF, zN_lt, zN_le, zN_eq, zN_nat, zN_oobF, Option.bind_some, ↓reduceIte, Nat.one_mul, Nat.zero_add, Nat.add_zero, Nat.reduceAdd, Nat.reduceMul, Nat.reduceSub, Nat.reduceLT, Nat.reduceLeDiff, Nat.reduceEqDiff, reduceCtorEq, true_or, or_true, false_or, or_false, true_and, and_true, false_and, and_false, not_true_eq_false, not_false_eq_true, wr_2, wrL_1, zm_eqF, zm_eqF', zm_lt, zm_lt', zm_le, zm_le', zm_sub1, zN_01, Nat.mul_zero, Nat.zero_mul, Nat.mul_one, Nat.sub_zero, Nat.sub_self, Nat.add_sub_cancel, k1, k2]
  · right
    refine ⟨fun M hL => ?_, fun M hM => swap7 hP q hM⟩
    obtain ⟨M1, e1, l1, f1⟩ := swap0 hP hL
    have k1 := hL.2.2.1 1 (by omega)
    have k2 := hL.2.2.1 2 (by omega)
    have k3 := l1.2.2.1 1 (by omega)
    simp only [Nat.reduceAdd] at k1 k2 k3
    rw [swP_6] at k3
    have e27 : fX6_swapComments_27 M = some (zN (P 7), M1) := by
      unfold fX6_swapComments_27; rw [e1, Option.bind_some, k3]
    refine ⟨M1, ?_, l1, fr_mono f1 (fun c j a => by unfold CW; omega)⟩
    unfold fX6_swapComments
    by_cases q' : P 6 = 0
    · rw [q'] at k1; simp (disch := omega) only [wr_cj, wr_nj, rng_in, rng_out, zN_lit, zN_add, zN_mul, zN_sub, zN_ltT, zN_ltF, zN_leT, zN_leF, zN_eqT, zN_eqF, zN_lt, zN_le, zN_eq, zN_nat, zN_oobF, Option.bind_some, ↓reduceIte, Nat.one_mul, Nat.zero_add, Nat.add_zero, Nat.reduceAdd, Nat.reduceMul, Nat.reduceSub, Nat.reduceLT, Nat.reduceLeDiff, Nat.reduceEqDiff, reduceCtorEq, true_or, or_true, false_or, or_false, true_and, and_true, false_and, and_false, not_true_eq_false, not_false_eq_true, wr_2, wrL_1, zm_eqF, zm_eqF', zm_lt, zm_lt', zm_le, zm_le', zm_sub1, zN_01, Nat.mul_zero, Nat.zero_mul, Nat.mul_one, Nat.sub_zero, Nat.sub_self, Nat.add_sub_cancel, k1, k2, e27]
    · simp (disch := omega) only [wr_cj, wr_nj, rng_in, rng_out, zN_lit, zN_add, zN_mul, zN_sub, zN_ltT, zN_ltF, zN_leT, zN_leF, zN_eqT, zN_eqF, zN_lt, zN_le, zN_eq, zN_nat, zN_oobF, Option.bind_some, ↓reduceIte, Nat.one_mul, Nat.zero_add, Nat.add_zero, Nat.reduceAdd, Nat.reduceMul, Nat.reduceSub, Nat.reduceLT, Nat.reduceLeDiff, Nat.reduceEqDiff, reduceCtorEq, true_or, or_true, false_or, or_false, true_and, and_true, false_and, and_false, not_true_eq_false, not_false_eq_true, wr_2, wrL_1, zm_eqF, zm_eqF', zm_lt, zm_lt', zm_le, zm_le', zm_sub1, zN_01, Nat.mul_zero, Nat.zero_mul, Nat.mul_one, Nat.sub_zero, Nat.sub_self, Nat.add_sub_cancel, k1, k2, e27]
theorem call_swaps : Cll fX6_swaps fX7_swaps := by
  refine Cll_of (fun P T R U K hw => ?_)
  have hl := hw.2.2.2.1.1
  have c2 := (hw.1.2.1 2 (by omega)).1
  simp only [Nat.reduceAdd] at c2
  rcases swap_both hw.1 with ⟨l, m⟩ | ⟨l, m⟩
  · refine ⟨-zN 2, P, T, R, U, K, hw, fun M hM => (LD_CD hw l).1 (zm_neg (by omega)) rfl M hM, fun M hM => ?_⟩
    have h0 := MI_th (v := zN 0) hM
    obtain ⟨M1, e1, -, f1⟩ := lay7 (wr M 158 5 (zN 0))
    have h1 := MI_sc h0 f1 (fun c j a => by unfold MSc; omega)
    have e := m M1 h1.1
    refine ⟨M1, ?_, h1, frM_trans (frM_th M _) (frM_fr f1 (fun c j a => by omega))⟩
    unfold fX7_swaps; simp (disch := omega) only [wr_cj, wr_nj, rng_in, rng_out, zN_lit, zN_add, zN_mul, zN_sub, zN_ltT, zN_ltF, zN_leT, zN_leF, zN_eqT, zN_eqF, zN_lt, zN_le, zN_eq, zN_nat, zN_oobF, Option.bind_some, ↓reduceIte, Nat.one_mul, Nat.zero_add, Nat.add_zero, Nat.reduceAdd, Nat.reduceMul, Nat.reduceSub, Nat.reduceLT, Nat.reduceLeDiff, Nat.reduceEqDiff, reduceCtorEq, true_or, or_true, false_or, or_false, true_and, and_true, false_and, and_false, not_true_eq_false, not_false_eq_true, wr_2, wrL_1, zm_eqF, zm_eqF', zm_lt, zm_lt', zm_le, zm_le', zm_sub1, zN_01, Nat.mul_zero, Nat.zero_mul, Nat.mul_one, Nat.sub_zero, Nat.sub_self, Nat.add_sub_cancel, e1, e]
  · refine ⟨zN (P 7), swP P, T, R, _, K, WF_chg hw (Good_sw hw.1), fun M hM => (LD_CD hw l).2 (zN_nn (by omega)) M hM, fun M hM => ?_⟩
    have h0 := MI_th (v := zN 0) hM
    obtain ⟨M1, e1, w1, f1⟩ := lay7 (wr M 158 5 (zN 0))
    have h1 := MI_sc h0 f1 (fun c j a => by unfold MSc; omega)
    obtain ⟨M2, e2, n2, f2⟩ := m M1 h1.1
    have h2 := MI_now h1 f2 n2
    obtain ⟨M3, e3, u3, f3⟩ := note7 (Q := P) hl (fun j hj => by rw [f2.1 _ _ (by omega), w1 j hj]; exact h0.1 j hj) h2.2.2.2.1
    have n3 : MNow M3 (swP P) := fun i hi => by rw [f3.1 _ _ (by omega)]; exact n2 i hi
    have k6 := n3 6 (by omega)
    rw [swP_6] at k6
    refine ⟨M3, ?_, ⟨n3, MT_fr h2.2.1 (f3.1 _ _ (by omega)) (fun j => f3.1 _ _ (by omega)), MR_fr h2.2.2.1 (f3.1 _ _ (by omega)) (fun j => by rw [f3.2]), u3, MKp_fr h2.2.2.2.2 (fun c j a => f3.1 c j (by omega))⟩, frM_trans (frM_th M _) (frM_trans (frM_fr f1 (fun c j a => by omega)) (frM_trans (frM_fr f2 (fun c j a => by omega)) (frM_fr f3 (fun c j a => by omega))))⟩
    unfold fX7_swaps; simp (disch := omega) only [wr_cj, wr_nj, rng_in, rng_out, zN_lit, zN_add, zN_mul, zN_sub, zN_ltT, zN_ltF, zN_leT, zN_leF, zN_eqT, zN_eqF, zN_lt, zN_le, zN_eq, zN_nat, zN_oobF, Option.bind_some, ↓reduceIte, Nat.one_mul, Nat.zero_add, Nat.add_zero, Nat.reduceAdd, Nat.reduceMul, Nat.reduceSub, Nat.reduceLT, Nat.reduceLeDiff, Nat.reduceEqDiff, reduceCtorEq, true_or, or_true, false_or, or_false, true_and, and_true, false_and, and_false, not_true_eq_false, not_false_eq_true, wr_2, wrL_1, zm_eqF, zm_eqF', zm_lt, zm_lt', zm_le, zm_le', zm_sub1, zN_01, Nat.mul_zero, Nat.zero_mul, Nat.mul_one, Nat.sub_zero, Nat.sub_self, Nat.add_sub_cancel, e1, e2, e3, k6]
