/-! reading the text -/
theorem zB_and : ∀ n, n < 256 → zB n &&& zN 255 = zN n := by decide +kernel
theorem zB_lo {n : Nat} (h : n < 128) : zB n = zN n := if_pos h
def tt (T : List Nat) (i : Nat) : Nat := T.getD i 0
theorem sign0 {T : List Nat} {M : zMM} {i : Nat} (hT : T.length ≤ 80) (h : CT T M) (hi : i < T.length) : fX5_signAt (zN i) M = some (zN (tt T i), M) := by
  have a := h.1
  have b : M.1 154 i = zN (tt T i) := h.2 i hi
  unfold fX5_signAt; simp (disch := omega) only [wr_cj, wr_nj, rng_in, rng_out, zN_lit, zN_add, zN_mul, zN_sub, zN_ltT, zN_ltF, zN_leT, zN_leF, zN_eqT, zN_eqF, zN_lt, zN_le, zN_eq, zN_nat, zN_oobF, Option.bind_some, ↓reduceIte, Nat.one_mul, Nat.zero_add, Nat.add_zero, Nat.reduceAdd, Nat.reduceMul, Nat.reduceSub, Nat.reduceLT, Nat.reduceLeDiff, Nat.reduceEqDiff, reduceCtorEq, true_or, or_true, false_or, or_false, true_and, and_true, false_and, and_false, not_true_eq_false, not_false_eq_true, wr_2, wrL_1, zm_eqF, zm_eqF', zm_lt, zm_lt', zm_le, zm_le', zm_sub1, zN_01, Nat.mul_zero, Nat.zero_mul, Nat.mul_one, Nat.sub_zero, Nat.sub_self, Nat.add_sub_cancel, a, b]
theorem signO {T : List Nat} {M : zMM} {i : Nat} (hT : T.length ≤ 80) (h : CT T M) (hi : T.length ≤ i) (h2 : i < 1000) : fX5_signAt (zN i) M = some (-zN 1, M) := by
  have a := h.1
  unfold fX5_signAt; simp (disch := omega) only [wr_cj, wr_nj, rng_in, rng_out, zN_lit, zN_add, zN_mul, zN_sub, zN_ltT, zN_ltF, zN_leT, zN_leF, zN_eqT, zN_eqF, zN_lt, zN_le, zN_eq, zN_nat, zN_oobF, Option.bind_some, ↓reduceIte, Nat.one_mul, Nat.zero_add, Nat.add_zero, Nat.reduceAdd, Nat.reduceMul, Nat.reduceSub, Nat.reduceLT, Nat.reduceLeDiff, Nat.reduceEqDiff, reduceCtorEq, true_or, or_true, false_or, or_false, true_and, and_true, false_and, and_false, not_true_eq_false, not_false_eq_true, wr_2, wrL_1, zm_eqF, zm_eqF', zm_lt, zm_lt', zm_le, zm_le', zm_sub1, zN_01, Nat.mul_zero, Nat.zero_mul, Nat.mul_one, Nat.sub_zero, Nat.sub_self, Nat.add_sub_cancel, a]
def dok (T : List Nat) (i : Nat) : Prop := i < T.length ∧ 48 ≤ tt T i ∧ tt T i ≤ 57
theorem digitT {T : List Nat} {M : zMM} {i : Nat} (hT : T.length ≤ 80) (h : CT T M) (hd : dok T i) : fX5_digitAt (zN i) M = some (zN (tt T i - 48), M) := by
  obtain ⟨d1, d2, d3⟩ := hd
  have a := sign0 hT h d1
  unfold fX5_digitAt; simp (disch := omega) only [wr_cj, wr_nj, rng_in, rng_out, zN_lit, zN_add, zN_mul, zN_sub, zN_ltT, zN_ltF, zN_leT, zN_leF, zN_eqT, zN_eqF, zN_lt, zN_le, zN_eq, zN_nat, zN_oobF, Option.bind_some, ↓reduceIte, Nat.one_mul, Nat.zero_add, Nat.add_zero, Nat.reduceAdd, Nat.reduceMul, Nat.reduceSub, Nat.reduceLT, Nat.reduceLeDiff, Nat.reduceEqDiff, reduceCtorEq, true_or, or_true, false_or, or_false, true_and, and_true, false_and, and_false, not_true_eq_false, not_false_eq_true, wr_2, wrL_1, zm_eqF, zm_eqF', zm_lt, zm_lt', zm_le, zm_le', zm_sub1, zN_01, Nat.mul_zero, Nat.zero_mul, Nat.mul_one, Nat.sub_zero, Nat.sub_self, Nat.add_sub_cancel, a]
theorem digitF {T : List Nat} {M : zMM} {i : Nat} (hT : T.length ≤ 80) (hb : ∀ i, i < T.length → tt T i < 256) (h : CT T M) (hi : i < 1000) (hd : ¬ dok T i) : fX5_digitAt (zN i) M = some (-zN 1, M) := by
  unfold dok at hd
  by_cases c : i < T.length
  · have a := sign0 hT h c
    have := hb i c
    unfold fX5_digitAt
    by_cases d : tt T i < 48
    · simp (disch := omega) only [wr_cj, wr_nj, rng_in, rng_out, zN_lit, zN_add, zN_mul, zN_sub, zN_ltT, zN_ltF, zN_leT, zN_leF, zN_eqT, zN_eqF, zN_lt, zN_le, zN_eq, zN_nat, zN_oobF, Option.bind_some, ↓reduceIte, Nat.one_mul, Nat.zero_add, Nat.add_zero, Nat.reduceAdd, Nat.reduceMul, Nat.reduceSub, Nat.reduceLT, Nat.reduceLeDiff, Nat.reduceEqDiff, reduceCtorEq, true_or, or_true, false_or, or_false, true_and, and_true, false_and, and_false, not_true_eq_false, not_false_eq_true, wr_2, wrL_1, zm_eqF, zm_eqF', zm_lt, zm_lt', zm_le, zm_le', zm_sub1, zN_01, Nat.mul_zero, Nat.zero_mul, Nat.mul_one, Nat.sub_zero, Nat.sub_self, Nat.add_sub_cancel, a]
    · simp (disch := omega) only [wr_cj, wr_nj, rng_in, rng_out, zN_lit, zN_add, zN_mul, zN_sub, zN_ltT, zN_ltF, zN_leT, zN_leF, zN_eqT, zN_eqF, zN_lt, zN_le, zN_eq, zN_nat, zN_oobF, Option.bind_some, ↓reduceIte, Nat.one_mul, Nat.zero_add, Nat.add_zero, Nat.reduceAdd, Nat.reduceMul, Nat.reduceSub, Nat.reduceLT, Nat.reduceLeDiff, Nat.reduceEqDiff, reduceCtorEq, true_or, or_true, false_or, or_false, true_and, and_true, false_and, and_false, not_true_eq_false, not_false_eq_true, wr_2, wrL_1, zm_eqF, zm_eqF', zm_lt, zm_lt', zm_le, zm_le', zm_sub1, zN_01, Nat.mul_zero, Nat.zero_mul, Nat.mul_one, Nat.sub_zero, Nat.sub_self, Nat.add_sub_cancel, a]
  · have a := signO hT h (by omega) hi
    unfold fX5_digitAt
    simp (disch := omega) only [wr_cj, wr_nj, rng_in, rng_out, zN_lit, zN_add, zN_mul, zN_sub, zN_ltT, zN_ltF, zN_leT, zN_leF, zN_eqT, zN_eqF, zN_lt, zN_le, zN_eq, zN_nat, zN_oobF, Option.bind_some, ↓reduceIte, Nat.one_mul, Nat.zero_add, Nat.add_zero, Nat.reduceAdd, Nat.reduceMul, Nat.reduceSub, Nat.reduceLT, Nat.reduceLeDiff, Nat.reduceEqDiff, reduceCtorEq, true_or, or_true, false_or, or_false, true_and, and_true, false_and, and_false, not_true_eq_false, not_false_eq_true, wr_2, wrL_1, zm_eqF, zm_eqF', zm_lt, zm_lt', zm_le, zm_le', zm_sub1, zN_01, Nat.mul_zero, Nat.zero_mul, Nat.mul_one, Nat.sub_zero, Nat.sub_self, Nat.add_sub_cancel, a]
def TR (T : List Nat) (i : Nat) (M : zMM) : Prop := M.1 158 6 = zN T.length ∧ M.1 158 7 = zN i ∧ M.1 158 8 = -zN 1 ∧ ∀ j, j < T.length → M.1 160 j = zB (tt T j)
theorem TR_to {T : List Nat} {i i' : Nat} {M M' : zMM} (h : TR T i M) (h7 : M'.1 158 7 = zN i') (f : ∀ c j, (c = 158 ∧ (j = 6 ∨ j = 8)) ∨ c = 160 → M'.1 c j = M.1 c j) : TR T i' M' :=
  ⟨by rw [f _ _ (by omega)]; exact h.1, h7, by rw [f _ _ (by omega)]; exact h.2.2.1, fun j hj => by rw [f _ _ (by omega)]; exact h.2.2.2 j hj⟩
theorem fineT {M : zMM} (h : M.1 158 8 = -zN 1) : fX7_fine M = some (zN 1, M) := by
  unfold fX7_fine; rw [h]; exact if_pos rfl
theorem fineF {M : zMM} {e : Nat} (h : M.1 158 8 = zN e) (he : e < 1000) : fX7_fine M = some (zN 0, M) := by
  unfold fX7_fine; simp (disch := omega) only [wr_cj, wr_nj, rng_in, rng_out, zN_lit, zN_add, zN_mul, zN_sub, zN_ltT, zN_ltF, zN_leT, zN_leF, zN_eqT, zN_eqF, zN_lt, zN_le, zN_eq, zN_nat, zN_oobF, Option.bind_some, ↓reduceIte, Nat.one_mul, Nat.zero_add, Nat.add_zero, Nat.reduceAdd, Nat.reduceMul, Nat.reduceSub, Nat.reduceLT, Nat.reduceLeDiff, Nat.reduceEqDiff, reduceCtorEq, true_or, or_true, false_or, or_false, true_and, and_true, false_and, and_false, not_true_eq_false, not_false_eq_true, wr_2, wrL_1, zm_eqF, zm_eqF', zm_lt, zm_lt', zm_le, zm_le', zm_sub1, zN_01, Nat.mul_zero, Nat.zero_mul, Nat.mul_one, Nat.sub_zero, Nat.sub_self, Nat.add_sub_cancel, h]
theorem faultT {M : zMM} (h : M.1 158 8 = -zN 1) (a : Int32) : fX7_fault a M = some (wr M 158 8 a) := by
  have := fineT h
  unfold fX7_fault; simp (disch := omega) only [wr_cj, wr_nj, rng_in, rng_out, zN_lit, zN_add, zN_mul, zN_sub, zN_ltT, zN_ltF, zN_leT, zN_leF, zN_eqT, zN_eqF, zN_lt, zN_le, zN_eq, zN_nat, zN_oobF, Option.bind_some, ↓reduceIte, Nat.one_mul, Nat.zero_add, Nat.add_zero, Nat.reduceAdd, Nat.reduceMul, Nat.reduceSub, Nat.reduceLT, Nat.reduceLeDiff, Nat.reduceEqDiff, reduceCtorEq, true_or, or_true, false_or, or_false, true_and, and_true, false_and, and_false, not_true_eq_false, not_false_eq_true, wr_2, wrL_1, zm_eqF, zm_eqF', zm_lt, zm_lt', zm_le, zm_le', zm_sub1, zN_01, Nat.mul_zero, Nat.zero_mul, Nat.mul_one, Nat.sub_zero, Nat.sub_self, Nat.add_sub_cancel, this]
theorem faultF {M : zMM} {e : Nat} (h : M.1 158 8 = zN e) (he : e < 1000) (a : Int32) : fX7_fault a M = some M := by
  have := fineF h he
  unfold fX7_fault; simp (disch := omega) only [wr_cj, wr_nj, rng_in, rng_out, zN_lit, zN_add, zN_mul, zN_sub, zN_ltT, zN_ltF, zN_leT, zN_leF, zN_eqT, zN_eqF, zN_lt, zN_le, zN_eq, zN_nat, zN_oobF, Option.bind_some, ↓reduceIte, Nat.one_mul, Nat.zero_add, Nat.add_zero, Nat.reduceAdd, Nat.reduceMul, Nat.reduceSub, Nat.reduceLT, Nat.reduceLeDiff, Nat.reduceEqDiff, reduceCtorEq, true_or, or_true, false_or, or_false, true_and, and_true, false_and, and_false, not_true_eq_false, not_false_eq_true, wr_2, wrL_1, zm_eqF, zm_eqF', zm_lt, zm_lt', zm_le, zm_le', zm_sub1, zN_01, Nat.mul_zero, Nat.zero_mul, Nat.mul_one, Nat.sub_zero, Nat.sub_self, Nat.add_sub_cancel, this]
theorem here7 {T : List Nat} {i : Nat} {M : zMM} (hT : T.length ≤ 80) (hb : ∀ i, i < T.length → tt T i < 256) (h : TR T i M) (hi : i < T.length) : fX7_here M = some (zN (tt T i), M) := by
  obtain ⟨h6, h7, h8, h9⟩ := h
  have a := h9 i hi
  have b := zB_and (tt T i) (hb i hi)
  unfold fX7_here; simp (disch := omega) only [wr_cj, wr_nj, rng_in, rng_out, zN_lit, zN_add, zN_mul, zN_sub, zN_ltT, zN_ltF, zN_leT, zN_leF, zN_eqT, zN_eqF, zN_lt, zN_le, zN_eq, zN_nat, zN_oobF, Option.bind_some, ↓reduceIte, Nat.one_mul, Nat.zero_add, Nat.add_zero, Nat.reduceAdd, Nat.reduceMul, Nat.reduceSub, Nat.reduceLT, Nat.reduceLeDiff, Nat.reduceEqDiff, reduceCtorEq, true_or, or_true, false_or, or_false, true_and, and_true, false_and, and_false, not_true_eq_false, not_false_eq_true, wr_2, wrL_1, zm_eqF, zm_eqF', zm_lt, zm_lt', zm_le, zm_le', zm_sub1, zN_01, Nat.mul_zero, Nat.zero_mul, Nat.mul_one, Nat.sub_zero, Nat.sub_self, Nat.add_sub_cancel, h6, h7, a, b]
theorem hereO {T : List Nat} {i : Nat} {M : zMM} (hT : T.length ≤ 80) (h : TR T i M) (hi : T.length ≤ i) (h2 : i < 1000) : fX7_here M = some (-zN 1, M) := by
  obtain ⟨h6, h7, h8, h9⟩ := h
  unfold fX7_here; simp (disch := omega) only [wr_cj, wr_nj, rng_in, rng_out, zN_lit, zN_add, zN_mul, zN_sub, zN_ltT, zN_ltF, zN_leT, zN_leF, zN_eqT, zN_eqF, zN_lt, zN_le, zN_eq, zN_nat, zN_oobF, Option.bind_some, ↓reduceIte, Nat.one_mul, Nat.zero_add, Nat.add_zero, Nat.reduceAdd, Nat.reduceMul, Nat.reduceSub, Nat.reduceLT, Nat.reduceLeDiff, Nat.reduceEqDiff, reduceCtorEq, true_or, or_true, false_or, or_false, true_and, and_true, false_and, and_false, not_true_eq_false, not_false_eq_true, wr_2, wrL_1, zm_eqF, zm_eqF', zm_lt, zm_lt', zm_le, zm_le', zm_sub1, zN_01, Nat.mul_zero, Nat.zero_mul, Nat.mul_one, Nat.sub_zero, Nat.sub_self, Nat.add_sub_cancel, h6, h7]
theorem oneT {T : List Nat} {i lo n : Nat} {M : zMM} (hT : T.length ≤ 80) (hb : ∀ i, i < T.length → tt T i < 256) (h : TR T i M) (hi : i < T.length) (h1 : lo ≤ tt T i) (h2 : tt T i < lo + n) (h3 : lo + n ≤ 128) : fX7_oneOf (zN lo) (zN n) M = some (zN (tt T i - lo), wr M 158 7 (zN (i + 1))) := by
  have a := here7 hT hb h hi
  have b := fineT h.2.2.1
  have c := in7T (a := tt T i) (lo := lo) (hi := lo + n - 1) (by omega) M
  have d := h.2.1
  have e := h.2.2.2 i hi
  rw [zB_lo (by omega)] at e
  unfold fX7_oneOf
  simp (disch := omega) only [wr_cj, wr_nj, rng_in, rng_out, zN_lit, zN_add, zN_mul, zN_sub, zN_ltT, zN_ltF, zN_leT, zN_leF, zN_eqT, zN_eqF, zN_lt, zN_le, zN_eq, zN_nat, zN_oobF, Option.bind_some, ↓reduceIte, Nat.one_mul, Nat.zero_add, Nat.add_zero, Nat.reduceAdd, Nat.reduceMul, Nat.reduceSub, Nat.reduceLT, Nat.reduceLeDiff, Nat.reduceEqDiff, reduceCtorEq, true_or, or_true, false_or, or_false, true_and, and_true, false_and, and_false, not_true_eq_false, not_false_eq_true, wr_2, wrL_1, zm_eqF, zm_eqF', zm_lt, zm_lt', zm_le, zm_le', zm_sub1, zN_01, Nat.mul_zero, Nat.zero_mul, Nat.mul_one, Nat.sub_zero, Nat.sub_self, Nat.add_sub_cancel, a, b, c, d, e]
theorem oneF {T : List Nat} {i lo n : Nat} {M : zMM} (hT : T.length ≤ 80) (hb : ∀ i, i < T.length → tt T i < 256) (h : TR T i M) (hi : i < 1000) (h1 : i < T.length → tt T i < lo ∨ lo + n ≤ tt T i) (h3 : lo + n ≤ 128) (hn : 1 ≤ n) : fX7_oneOf (zN lo) (zN n) M = some (zN 0, wr M 158 8 (zN i)) := by
  have b := fineT h.2.2.1
  have d := h.2.1
  have g := faultT h.2.2.1 (zN i)
  by_cases q : i < T.length
  · have a := here7 hT hb h q
    have := hb i q
    have c := in7F (a := tt T i) (lo := lo) (hi := lo + n - 1) (by have := h1 q; omega) M
    unfold fX7_oneOf
    simp (disch := omega) only [wr_cj, wr_nj, rng_in, rng_out, zN_lit, zN_add, zN_mul, zN_sub, zN_ltT, zN_ltF, zN_leT, zN_leF, zN_eqT, zN_eqF, zN_lt, zN_le, zN_eq, zN_nat, zN_oobF, Option.bind_some, ↓reduceIte, Nat.one_mul, Nat.zero_add, Nat.add_zero, Nat.reduceAdd, Nat.reduceMul, Nat.reduceSub, Nat.reduceLT, Nat.reduceLeDiff, Nat.reduceEqDiff, reduceCtorEq, true_or, or_true, false_or, or_false, true_and, and_true, false_and, and_false, not_true_eq_false, not_false_eq_true, wr_2, wrL_1, zm_eqF, zm_eqF', zm_lt, zm_lt', zm_le, zm_le', zm_sub1, zN_01, Nat.mul_zero, Nat.zero_mul, Nat.mul_one, Nat.sub_zero, Nat.sub_self, Nat.add_sub_cancel, a, b, c, d, g]
  · have a := hereO hT h (by omega) hi
    have c := in7g (x := -zN 1) (by decide) (lo := lo) (by omega) (zN (lo + n - 1)) M
    unfold fX7_oneOf
    simp (disch := omega) only [wr_cj, wr_nj, rng_in, rng_out, zN_lit, zN_add, zN_mul, zN_sub, zN_ltT, zN_ltF, zN_leT, zN_leF, zN_eqT, zN_eqF, zN_lt, zN_le, zN_eq, zN_nat, zN_oobF, Option.bind_some, ↓reduceIte, Nat.one_mul, Nat.zero_add, Nat.add_zero, Nat.reduceAdd, Nat.reduceMul, Nat.reduceSub, Nat.reduceLT, Nat.reduceLeDiff, Nat.reduceEqDiff, reduceCtorEq, true_or, or_true, false_or, or_false, true_and, and_true, false_and, and_false, not_true_eq_false, not_false_eq_true, wr_2, wrL_1, zm_eqF, zm_eqF', zm_lt, zm_lt', zm_le, zm_le', zm_sub1, zN_01, Nat.mul_zero, Nat.zero_mul, Nat.mul_one, Nat.sub_zero, Nat.sub_self, Nat.add_sub_cancel, a, b, c, d, g]
theorem oneX {M : zMM} {e : Nat} (h : M.1 158 8 = zN e) (he : e < 1000) (x y : Int32) : fX7_oneOf x y M = some (zN 0, M) := by
  have b := fineF h he
  unfold fX7_oneOf
  simp (disch := omega) only [wr_cj, wr_nj, rng_in, rng_out, zN_lit, zN_add, zN_mul, zN_sub, zN_ltT, zN_ltF, zN_leT, zN_leF, zN_eqT, zN_eqF, zN_lt, zN_le, zN_eq, zN_nat, zN_oobF, Option.bind_some, ↓reduceIte, Nat.one_mul, Nat.zero_add, Nat.add_zero, Nat.reduceAdd, Nat.reduceMul, Nat.reduceSub, Nat.reduceLT, Nat.reduceLeDiff, Nat.reduceEqDiff, reduceCtorEq, true_or, or_true, false_or, or_false, true_and, and_true, false_and, and_false, not_true_eq_false, not_false_eq_true, wr_2, wrL_1, zm_eqF, zm_eqF', zm_lt, zm_lt', zm_le, zm_le', zm_sub1, zN_01, Nat.mul_zero, Nat.zero_mul, Nat.mul_one, Nat.sub_zero, Nat.sub_self, Nat.add_sub_cancel, b]
/-- the text is read and gone: the class -/
theorem LT_CD {f : zMM → Option (Int32 × zMM)} {P P' : Nat → Nat} {r : Int32} {T : List Nat} {R : List Int64} {U : List (Nat → Nat)} {K : Nat → Option (Nat → Nat)} (hw : WF P T R U K) (h : ∀ M, Leaf M 0 P → CT T M → ∃ M', f M = some (r, M') ∧ Leaf M' 0 P' ∧ fr (fun c _ => CW c) M M') :
    (r < 0 → P' = P → CD (fun M => (fX1_mark 0 M).bind fun q1 => (f q1).bind fun q2 => (fX5_clear q2.2).bind fun q3 => (fX6_remembered q2.1 q3).bind fun q4 => some (q4.1, q4.2)) P T R U K r P [] R U K) ∧
    (¬ r < 0 → CD (fun M => (fX1_mark 0 M).bind fun q1 => (f q1).bind fun q2 => (fX5_clear q2.2).bind fun q3 => (fX6_remembered q2.1 q3).bind fun q4 => some (q4.1, q4.2)) P T R U K r P' [] R ((P :: U).take 7) K) := by
  have main : ∀ M, CI P T R U K M → ∃ M1 M2 q, fX1_mark 0 M = some M1 ∧ f M1 = some (r, M2) ∧ Leaf (wr M2 153 1 0) 0 P' ∧ CT [] (wr M2 153 1 0) ∧ CR R (wr M2 153 1 0) ∧ CU q U (wr M2 153 1 0) ∧ CKp K (wr M2 153 1 0) ∧ Leaf (wr M2 153 1 0) (40 + 10 * q) P ∧ frC M (wr M2 153 1 0) := by
    rintro M ⟨h1, h2, h3, ⟨q, h4⟩, h5⟩
    have hq := h4.1
    obtain ⟨M1, e1, l1, f1⟩ := mark1 hw.1 h1 h4
    have h1' : Leaf M1 0 P := Leaf_eq h1 (fun c j a b => f1.1 c j (by omega))
    obtain ⟨M2, e2, l2, f2⟩ := h M1 h1' (CT_fr h2 (fun c j a => f1.1 c j (by omega)))
    have ft : ∀ c j, ¬ (40 + 10 * q ≤ c ∧ c < 50 + 10 * q) → ¬ CW c → c ≠ 153 → (wr M2 153 1 0).1 c j = M.1 c j := fun c j a b d => by rw [wr_nj (by omega), f2.1 c j b, f1.1 c j a]
    unfold CW at ft
    refine ⟨M1, M2, q, e1, e2, Leaf_eq l2 (fun c j a b => wr_nj (by omega)), ⟨wr_cj _ _ _ _, fun i hi => absurd hi (by simp)⟩, CR_fr h3 (fun j => ft _ _ (by omega) (by omega) (by omega)) (fun j => by rw [wr_2, f2.2, f1.2]), CU_fr h4 (fun c j a => ft c j (by omega) (by omega) (by omega)) hw.2.2.2.1.1, CKp_fr h5 (fun c j a => ft c j (by omega) (by omega) (by omega)), Leaf_eq l1 (fun c j a b => by rw [wr_nj (by omega)]; exact f2.1 c j (by unfold CW; omega)), ?_⟩
    exact frC_trans (frC_trans (frC_fr f1 (fun c j a => by omega)) (frC_fr f2 (fun c j a => by unfold CW at a; omega))) (frC_fr (fr_wr (S := fun c j => c = 153) (fr_refl _ _) rfl) (fun c j a => by omega))
  constructor
  · intro hr hP M hM
    obtain ⟨M1, M2, q, e1, e2, l2, ct, cr, cu, ck, lm, fC⟩ := main M hM
    rw [hP] at l2
    refine ⟨wr M2 153 1 0, ?_, ⟨l2, ct, cr, ⟨q, cu⟩, ck⟩, fC⟩
    simp only [e1, e2, Option.bind_some, fX5_clear]
    unfold fX6_remembered
    rw [if_pos hr]; rfl
  · intro hr M hM
    obtain ⟨M1, M2, q, e1, e2, l2, ct, cr, cu, ck, lm, fC⟩ := main M hM
    obtain ⟨M3, e3, cu3, f3⟩ := remember1 hw.2.2.2.1.1 lm cu
    refine ⟨M3, ?_, ⟨Leaf_eq l2 (fun c j a b => f3.1 c j (by omega)), CT_fr ct (fun c j a => f3.1 c j (by omega)), CR_fr cr (fun j => f3.1 _ _ (by omega)) (fun j => by rw [f3.2]), cu3, CKp_fr ck (fun c j a => f3.1 c j (by omega))⟩, frC_trans fC (frC_fr f3 (fun c j a => by omega))⟩
    simp only [e1, e2, Option.bind_some, fX5_clear]
    unfold fX6_remembered
    rw [if_neg hr, e3]; rfl
/-- the model begins to read -/
theorem begin7 {P : Nat → Nat} {T : List Nat} {R : List Int64} {U : List (Nat → Nat)} {K : Nat → Option (Nat → Nat)} {M : zMM} (h : MI P T R U K M) : ∃ M', fX7_begin (wr M 158 5 0) = some M' ∧ MI P [] R U K M' ∧ TR T 0 M' ∧ frM M M' := by
  obtain ⟨h1, h2, h3, h4, h5⟩ := h
  let M' : zMM := wr (wr (wr (wr (wr M 158 5 0) 158 6 (zN T.length)) 158 7 (zN 0)) 158 8 (-zN 1)) 158 2 (zN 0)
  have f : fr (fun c j => c = 158 ∧ (j = 5 ∨ j = 6 ∨ j = 7 ∨ j = 8 ∨ j = 2)) M M' := fr_wr (fr_wr (fr_wr (fr_wr (fr_wr (fr_refl _ _) (by omega)) (by omega)) (by omega)) (by omega)) (by omega)
  refine ⟨M', ?_, ⟨fun i hi => by rw [f.1 _ _ (by omega)]; exact h1 i hi, ⟨wr_cj _ _ _ _, fun i hi => absurd hi (by simp)⟩, MR_fr h3 (f.1 _ _ (by omega)) (fun j => by rw [f.2]), MU_fr h4 (f.1 _ _ (by omega)) (fun j => f.1 _ _ (by omega)), MKp_fr h5 (fun c j a => f.1 c j (by omega))⟩, ⟨?_, ?_, ?_, ?_⟩, frM_fr f (fun c j a => by omega)⟩
  · unfold fX7_begin
    rw [wr_nj (by omega), h2.1]; rfl
  · simp only [M']; rw [wr_nj (by omega), wr_nj (by omega), wr_nj (by omega), wr_cj]
  · simp only [M']; rw [wr_nj (by omega), wr_nj (by omega), wr_cj]
  · simp only [M']; rw [wr_nj (by omega), wr_cj]
  · intro j hj; rw [f.1 _ _ (by omega)]; exact h2.2 j hj
theorem rightT {T : List Nat} {M : zMM} (hT : T.length ≤ 80) (h : TR T T.length M) : fX7_wasRight M = some (zN 1, M) := by
  obtain ⟨h6, h7, h8, -⟩ := h
  have b := fineT h8
  unfold fX7_wasRight fX7_wasRight_19
  simp (disch := omega) only [wr_cj, wr_nj, rng_in, rng_out, zN_lit, zN_add, zN_mul, zN_sub, zN_ltT, zN_ltF, zN_leT, zN_leF, zN_eqT, zN_eqF, zN_lt, zN_le, zN_eq, zN_nat, zN_oobF, Option.bind_some, ↓reduceIte, Nat.one_mul, Nat.zero_add, Nat.add_zero, Nat.reduceAdd, Nat.reduceMul, Nat.reduceSub, Nat.reduceLT, Nat.reduceLeDiff, Nat.reduceEqDiff, reduceCtorEq, true_or, or_true, false_or, or_false, true_and, and_true, false_and, and_false, not_true_eq_false, not_false_eq_true, wr_2, wrL_1, zm_eqF, zm_eqF', zm_lt, zm_lt', zm_le, zm_le', zm_sub1, zN_01, Nat.mul_zero, Nat.zero_mul, Nat.mul_one, Nat.sub_zero, Nat.sub_self, Nat.add_sub_cancel, h6, h7, b]
theorem rightF {M : zMM} {e : Nat} (h : M.1 158 8 = zN e) (he : e < 1000) : fX7_wasRight M = some (zN 0, M) := by
  have b := fineF h he
  have c := faultF h he
  unfold fX7_wasRight fX7_wasRight_19
  split
  · simp (disch := omega) only [wr_cj, wr_nj, rng_in, rng_out, zN_lit, zN_add, zN_mul, zN_sub, zN_ltT, zN_ltF, zN_leT, zN_leF, zN_eqT, zN_eqF, zN_lt, zN_le, zN_eq, zN_nat, zN_oobF, Option.bind_some, ↓reduceIte, Nat.one_mul, Nat.zero_add, Nat.add_zero, Nat.reduceAdd, Nat.reduceMul, Nat.reduceSub, Nat.reduceLT, Nat.reduceLeDiff, Nat.reduceEqDiff, reduceCtorEq, true_or, or_true, false_or, or_false, true_and, and_true, false_and, and_false, not_true_eq_false, not_false_eq_true, wr_2, wrL_1, zm_eqF, zm_eqF', zm_lt, zm_lt', zm_le, zm_le', zm_sub1, zN_01, Nat.mul_zero, Nat.zero_mul, Nat.mul_one, Nat.sub_zero, Nat.sub_self, Nat.add_sub_cancel, b]
  · simp (disch := omega) only [wr_cj, wr_nj, rng_in, rng_out, zN_lit, zN_add, zN_mul, zN_sub, zN_ltT, zN_ltF, zN_leT, zN_leF, zN_eqT, zN_eqF, zN_lt, zN_le, zN_eq, zN_nat, zN_oobF, Option.bind_some, ↓reduceIte, Nat.one_mul, Nat.zero_add, Nat.add_zero, Nat.reduceAdd, Nat.reduceMul, Nat.reduceSub, Nat.reduceLT, Nat.reduceLeDiff, Nat.reduceEqDiff, reduceCtorEq, true_or, or_true, false_or, or_false, true_and, and_true, false_and, and_false, not_true_eq_false, not_false_eq_true, wr_2, wrL_1, zm_eqF, zm_eqF', zm_lt, zm_lt', zm_le, zm_le', zm_sub1, zN_01, Nat.mul_zero, Nat.zero_mul, Nat.mul_one, Nat.sub_zero, Nat.sub_self, Nat.add_sub_cancel, c, b]
