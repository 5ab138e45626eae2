/-! leaves copied, marked, remembered; the model's laying aside and noting -/
theorem cpy_in {M : zMM} {c0 c1 n j : Nat} (h : j < n) : (cpy M c0 c1 0 0 n).1 c1 j = M.1 c0 j := by
  simp only [cpy, va_cpy, if_true, Nat.zero_le, true_and, Nat.zero_add, if_pos h, Nat.sub_zero]
theorem cpy_out {M : zMM} {c0 c1 n c' j : Nat} (h : c' ≠ c1) : (cpy M c0 c1 0 0 n).1 c' j = M.1 c' j := by
  simp only [cpy, if_neg h]
theorem cpy_2 (M : zMM) (c0 c1 s d n : Nat) : (cpy M c0 c1 s d n).2 = M.2 := rfl
theorem copy0 {P : Nat → Nat} (hP : Good P) {b b1 : Nat} {M : zMM} (hL : Leaf M b1 P) (hb : b + 10 ≤ b1 ∨ b1 + 10 ≤ b) :
    ∃ M', fX0_copy b b1 M = some M' ∧ Leaf M' b P ∧ fr (fun c _ => b ≤ c ∧ c < b + 10) M M' := by
  have hp := hP.1
  have c0 := (hP.2.1 0 (by omega)).1
  have c1 := (hP.2.1 1 (by omega)).1
  have c2 := (hP.2.1 2 (by omega)).1
  have h12 := hP.2.2.1.1
  simp only [Nat.reduceAdd] at c0 c1 c2
  obtain ⟨⟨l0, l1, l2, l3, l4, l5, l6⟩, lw, lc, ls, lt⟩ := hL
  let M0 : zMM := wr (wr (wr (wr (wr (wr M b 0 (zN (P 0))) b 1 (zN (P 1))) b 2 (zN (P 255))) b 3 (zN (P 2))) b 4 (zN (P 3))) b 5 (zN (P 4))
  let M1 : zMM := cpy (cpy M0 (b1 + 1) (b + 1) 0 0 3) (b1 + 2) (b + 2) 0 0 3
  let M2 : zMM := cpy (cpy (cpy M1 (b1 + 4) (b + 4) 0 0 70) (b1 + 5) (b + 5) 0 0 70) (b1 + 6) (b + 6) 0 0 70
  let M3 : zMM := cpy (cpy (cpy (wr M2 b 6 (zN (P 218))) (b1 + 7) (b + 7) 0 0 12) (b1 + 8) (b + 8) 0 0 12) (b1 + 9) (b + 9) 0 0 12
  have e0 : fX0_copy b b1 M = fX0_copy_70 b b1 zFU 0 M1 := by
    unfold fX0_copy fX0_plan
    simp (disch := omega) only [wr_cj, wr_nj, rng_in, rng_out, zN_lit, zN_add, zN_mul, zN_sub, zN_ltT, zN_ltF, zN_leT, zN_leF, zN_eqT, zN_eqF, zN_lt, zN_le, zN_eq, zN_nat, zN_oobF, Option.bind_some, ↓reduceIte, Nat.one_mul, Nat.zero_add, Nat.add_zero, Nat.reduceAdd, Nat.reduceMul, Nat.reduceSub, Nat.reduceLT, Nat.reduceLeDiff, Nat.reduceEqDiff, reduceCtorEq, true_or, or_true, false_or, or_false, true_and, and_true, false_and, and_false, not_true_eq_false, not_false_eq_true, wr_2, wrL_1, zm_eqF, zm_eqF', zm_lt, zm_lt', zm_le, zm_le', zm_sub1, zN_01, Nat.mul_zero, Nat.zero_mul, Nat.mul_one, Nat.sub_zero, Nat.sub_self, l0, l1, l2, l3, l4, l5]
    rfl
  have g6 : M2.1 b1 6 = zN (P 218) := by
    simp only [M2, M1, M0]
    simp (disch := omega) only [wr_cj, wr_nj, rng_in, rng_out, zN_lit, zN_add, zN_mul, zN_sub, zN_ltT, zN_ltF, zN_leT, zN_leF, zN_eqT, zN_eqF, zN_lt, zN_le, zN_eq, zN_nat, zN_oobF, Option.bind_some, ↓reduceIte, Nat.one_mul, Nat.zero_add, Nat.add_zero, Nat.reduceAdd, Nat.reduceMul, Nat.reduceSub, Nat.reduceLT, Nat.reduceLeDiff, Nat.reduceEqDiff, reduceCtorEq, true_or, or_true, false_or, or_false, true_and, and_true, false_and, and_false, not_true_eq_false, not_false_eq_true, wr_2, wrL_1, zm_eqF, zm_eqF', zm_lt, zm_lt', zm_le, zm_le', zm_sub1, zN_01, Nat.mul_zero, Nat.zero_mul, Nat.mul_one, Nat.sub_zero, Nat.sub_self, cpy_out, l6]
  have e1 : fX0_copy b b1 M = some M3 := by
    rw [e0]
    have gen : ∀ f, fX0_copy_70 b b1 (f + 1 + 1 + 1 + 1) 0 M1 = some M3 := by
      intro f
      simp (disch := omega) only [wr_cj, wr_nj, rng_in, rng_out, zN_lit, zN_add, zN_mul, zN_sub, zN_ltT, zN_ltF, zN_leT, zN_leF, zN_eqT, zN_eqF, zN_lt, zN_le, zN_eq, zN_nat, zN_oobF, Option.bind_some, ↓reduceIte, Nat.one_mul, Nat.zero_add, Nat.add_zero, Nat.reduceAdd, Nat.reduceMul, Nat.reduceSub, Nat.reduceLT, Nat.reduceLeDiff, Nat.reduceEqDiff, reduceCtorEq, true_or, or_true, false_or, or_false, true_and, and_true, false_and, and_false, not_true_eq_false, not_false_eq_true, wr_2, wrL_1, zm_eqF, zm_eqF', zm_lt, zm_lt', zm_le, zm_le', zm_sub1, zN_01, Nat.mul_zero, Nat.zero_mul, Nat.mul_one, Nat.sub_zero, Nat.sub_self, fX0_copy_70, Nat.add_assoc]
      show some (cpy (cpy (cpy (wr M2 b 6 (M2.1 b1 6)) (b1 + 7) (b + 7) 0 0 12) (b1 + 8) (b + 8) 0 0 12) (b1 + 9) (b + 9) 0 0 12) = some M3
      rw [g6]
    exact gen 2147483644
  refine ⟨M3, e1, ⟨⟨?_, ?_, ?_, ?_, ?_, ?_, ?_⟩, ?_, ?_, ?_, ?_⟩, ?_, ?_⟩
  · simp only [M3, M2, M1, M0]; simp (disch := omega) only [wr_cj, wr_nj, rng_in, rng_out, zN_lit, zN_add, zN_mul, zN_sub, zN_ltT, zN_ltF, zN_leT, zN_leF, zN_eqT, zN_eqF, zN_lt, zN_le, zN_eq, zN_nat, zN_oobF, Option.bind_some, ↓reduceIte, Nat.one_mul, Nat.zero_add, Nat.add_zero, Nat.reduceAdd, Nat.reduceMul, Nat.reduceSub, Nat.reduceLT, Nat.reduceLeDiff, Nat.reduceEqDiff, reduceCtorEq, true_or, or_true, false_or, or_false, true_and, and_true, false_and, and_false, not_true_eq_false, not_false_eq_true, wr_2, wrL_1, zm_eqF, zm_eqF', zm_lt, zm_lt', zm_le, zm_le', zm_sub1, zN_01, Nat.mul_zero, Nat.zero_mul, Nat.mul_one, Nat.sub_zero, Nat.sub_self, cpy_out]
  · simp only [M3, M2, M1, M0]; simp (disch := omega) only [wr_cj, wr_nj, rng_in, rng_out, zN_lit, zN_add, zN_mul, zN_sub, zN_ltT, zN_ltF, zN_leT, zN_leF, zN_eqT, zN_eqF, zN_lt, zN_le, zN_eq, zN_nat, zN_oobF, Option.bind_some, ↓reduceIte, Nat.one_mul, Nat.zero_add, Nat.add_zero, Nat.reduceAdd, Nat.reduceMul, Nat.reduceSub, Nat.reduceLT, Nat.reduceLeDiff, Nat.reduceEqDiff, reduceCtorEq, true_or, or_true, false_or, or_false, true_and, and_true, false_and, and_false, not_true_eq_false, not_false_eq_true, wr_2, wrL_1, zm_eqF, zm_eqF', zm_lt, zm_lt', zm_le, zm_le', zm_sub1, zN_01, Nat.mul_zero, Nat.zero_mul, Nat.mul_one, Nat.sub_zero, Nat.sub_self, cpy_out]
  · simp only [M3, M2, M1, M0]; simp (disch := omega) only [wr_cj, wr_nj, rng_in, rng_out, zN_lit, zN_add, zN_mul, zN_sub, zN_ltT, zN_ltF, zN_leT, zN_leF, zN_eqT, zN_eqF, zN_lt, zN_le, zN_eq, zN_nat, zN_oobF, Option.bind_some, ↓reduceIte, Nat.one_mul, Nat.zero_add, Nat.add_zero, Nat.reduceAdd, Nat.reduceMul, Nat.reduceSub, Nat.reduceLT, Nat.reduceLeDiff, Nat.reduceEqDiff, reduceCtorEq, true_or, or_true, false_or, or_false, true_and, and_true, false_and, and_false, not_true_eq_false, not_false_eq_true, wr_2, wrL_1, zm_eqF, zm_eqF', zm_lt, zm_lt', zm_le, zm_le', zm_sub1, zN_01, Nat.mul_zero, Nat.zero_mul, Nat.mul_one, Nat.sub_zero, Nat.sub_self, cpy_out]
  · simp only [M3, M2, M1, M0]; simp (disch := omega) only [wr_cj, wr_nj, rng_in, rng_out, zN_lit, zN_add, zN_mul, zN_sub, zN_ltT, zN_ltF, zN_leT, zN_leF, zN_eqT, zN_eqF, zN_lt, zN_le, zN_eq, zN_nat, zN_oobF, Option.bind_some, ↓reduceIte, Nat.one_mul, Nat.zero_add, Nat.add_zero, Nat.reduceAdd, Nat.reduceMul, Nat.reduceSub, Nat.reduceLT, Nat.reduceLeDiff, Nat.reduceEqDiff, reduceCtorEq, true_or, or_true, false_or, or_false, true_and, and_true, false_and, and_false, not_true_eq_false, not_false_eq_true, wr_2, wrL_1, zm_eqF, zm_eqF', zm_lt, zm_lt', zm_le, zm_le', zm_sub1, zN_01, Nat.mul_zero, Nat.zero_mul, Nat.mul_one, Nat.sub_zero, Nat.sub_self, cpy_out]
  · simp only [M3, M2, M1, M0]; simp (disch := omega) only [wr_cj, wr_nj, rng_in, rng_out, zN_lit, zN_add, zN_mul, zN_sub, zN_ltT, zN_ltF, zN_leT, zN_leF, zN_eqT, zN_eqF, zN_lt, zN_le, zN_eq, zN_nat, zN_oobF, Option.bind_some, ↓reduceIte, Nat.one_mul, Nat.zero_add, Nat.add_zero, Nat.reduceAdd, Nat.reduceMul, Nat.reduceSub, Nat.reduceLT, Nat.reduceLeDiff, Nat.reduceEqDiff, reduceCtorEq, true_or, or_true, false_or, or_false, true_and, and_true, false_and, and_false, not_true_eq_false, not_false_eq_true, wr_2, wrL_1, zm_eqF, zm_eqF', zm_lt, zm_lt', zm_le, zm_le', zm_sub1, zN_01, Nat.mul_zero, Nat.zero_mul, Nat.mul_one, Nat.sub_zero, Nat.sub_self, cpy_out]
  · simp only [M3, M2, M1, M0]; simp (disch := omega) only [wr_cj, wr_nj, rng_in, rng_out, zN_lit, zN_add, zN_mul, zN_sub, zN_ltT, zN_ltF, zN_leT, zN_leF, zN_eqT, zN_eqF, zN_lt, zN_le, zN_eq, zN_nat, zN_oobF, Option.bind_some, ↓reduceIte, Nat.one_mul, Nat.zero_add, Nat.add_zero, Nat.reduceAdd, Nat.reduceMul, Nat.reduceSub, Nat.reduceLT, Nat.reduceLeDiff, Nat.reduceEqDiff, reduceCtorEq, true_or, or_true, false_or, or_false, true_and, and_true, false_and, and_false, not_true_eq_false, not_false_eq_true, wr_2, wrL_1, zm_eqF, zm_eqF', zm_lt, zm_lt', zm_le, zm_le', zm_sub1, zN_01, Nat.mul_zero, Nat.zero_mul, Nat.mul_one, Nat.sub_zero, Nat.sub_self, cpy_out]
  · simp only [M3, M2, M1, M0]; simp (disch := omega) only [wr_cj, wr_nj, rng_in, rng_out, zN_lit, zN_add, zN_mul, zN_sub, zN_ltT, zN_ltF, zN_leT, zN_leF, zN_eqT, zN_eqF, zN_lt, zN_le, zN_eq, zN_nat, zN_oobF, Option.bind_some, ↓reduceIte, Nat.one_mul, Nat.zero_add, Nat.add_zero, Nat.reduceAdd, Nat.reduceMul, Nat.reduceSub, Nat.reduceLT, Nat.reduceLeDiff, Nat.reduceEqDiff, reduceCtorEq, true_or, or_true, false_or, or_false, true_and, and_true, false_and, and_false, not_true_eq_false, not_false_eq_true, wr_2, wrL_1, zm_eqF, zm_eqF', zm_lt, zm_lt', zm_le, zm_le', zm_sub1, zN_01, Nat.mul_zero, Nat.zero_mul, Nat.mul_one, Nat.sub_zero, Nat.sub_self, cpy_out]
  · intro i hi; have := lw i hi; simp only [M3, M2, M1, M0]; simp (disch := omega) only [wr_cj, wr_nj, rng_in, rng_out, zN_lit, zN_add, zN_mul, zN_sub, zN_ltT, zN_ltF, zN_leT, zN_leF, zN_eqT, zN_eqF, zN_lt, zN_le, zN_eq, zN_nat, zN_oobF, Option.bind_some, ↓reduceIte, Nat.one_mul, Nat.zero_add, Nat.add_zero, Nat.reduceAdd, Nat.reduceMul, Nat.reduceSub, Nat.reduceLT, Nat.reduceLeDiff, Nat.reduceEqDiff, reduceCtorEq, true_or, or_true, false_or, or_false, true_and, and_true, false_and, and_false, not_true_eq_false, not_false_eq_true, wr_2, wrL_1, zm_eqF, zm_eqF', zm_lt, zm_lt', zm_le, zm_le', zm_sub1, zN_01, Nat.mul_zero, Nat.zero_mul, Nat.mul_one, Nat.sub_zero, Nat.sub_self, cpy_out, cpy_in, this]
  · intro i hi; have := lc i hi; simp only [M3, M2, M1, M0]; simp (disch := omega) only [wr_cj, wr_nj, rng_in, rng_out, zN_lit, zN_add, zN_mul, zN_sub, zN_ltT, zN_ltF, zN_leT, zN_leF, zN_eqT, zN_eqF, zN_lt, zN_le, zN_eq, zN_nat, zN_oobF, Option.bind_some, ↓reduceIte, Nat.one_mul, Nat.zero_add, Nat.add_zero, Nat.reduceAdd, Nat.reduceMul, Nat.reduceSub, Nat.reduceLT, Nat.reduceLeDiff, Nat.reduceEqDiff, reduceCtorEq, true_or, or_true, false_or, or_false, true_and, and_true, false_and, and_false, not_true_eq_false, not_false_eq_true, wr_2, wrL_1, zm_eqF, zm_eqF', zm_lt, zm_lt', zm_le, zm_le', zm_sub1, zN_01, Nat.mul_zero, Nat.zero_mul, Nat.mul_one, Nat.sub_zero, Nat.sub_self, cpy_out, cpy_in, this]
  · intro t ht k hk
    have := ls t ht k hk
    have e : t = 0 ∨ t = 1 ∨ t = 2 := by omega
    simp only [M3, M2, M1, M0]
    rcases e with rfl | rfl | rfl <;> simp only [Nat.add_assoc, Nat.reduceAdd] at this hk ⊢ <;> simp (disch := omega) only [wr_cj, wr_nj, rng_in, rng_out, zN_lit, zN_add, zN_mul, zN_sub, zN_ltT, zN_ltF, zN_leT, zN_leF, zN_eqT, zN_eqF, zN_lt, zN_le, zN_eq, zN_nat, zN_oobF, Option.bind_some, ↓reduceIte, Nat.one_mul, Nat.zero_add, Nat.add_zero, Nat.reduceAdd, Nat.reduceMul, Nat.reduceSub, Nat.reduceLT, Nat.reduceLeDiff, Nat.reduceEqDiff, reduceCtorEq, true_or, or_true, false_or, or_false, true_and, and_true, false_and, and_false, not_true_eq_false, not_false_eq_true, wr_2, wrL_1, zm_eqF, zm_eqF', zm_lt, zm_lt', zm_le, zm_le', zm_sub1, zN_01, Nat.mul_zero, Nat.zero_mul, Nat.mul_one, Nat.sub_zero, Nat.sub_self, cpy_out, cpy_in, this]
  · intro i hi; have := lt i hi; simp only [M3, M2, M1, M0]; simp (disch := omega) only [wr_cj, wr_nj, rng_in, rng_out, zN_lit, zN_add, zN_mul, zN_sub, zN_ltT, zN_ltF, zN_leT, zN_leF, zN_eqT, zN_eqF, zN_lt, zN_le, zN_eq, zN_nat, zN_oobF, Option.bind_some, ↓reduceIte, Nat.one_mul, Nat.zero_add, Nat.add_zero, Nat.reduceAdd, Nat.reduceMul, Nat.reduceSub, Nat.reduceLT, Nat.reduceLeDiff, Nat.reduceEqDiff, reduceCtorEq, true_or, or_true, false_or, or_false, true_and, and_true, false_and, and_false, not_true_eq_false, not_false_eq_true, wr_2, wrL_1, zm_eqF, zm_eqF', zm_lt, zm_lt', zm_le, zm_le', zm_sub1, zN_01, Nat.mul_zero, Nat.zero_mul, Nat.mul_one, Nat.sub_zero, Nat.sub_self, cpy_out, cpy_in, this, and_self]
  · intro c j hc
    simp only [M3, M2, M1, M0]; simp (disch := omega) only [wr_cj, wr_nj, rng_in, rng_out, zN_lit, zN_add, zN_mul, zN_sub, zN_ltT, zN_ltF, zN_leT, zN_leF, zN_eqT, zN_eqF, zN_lt, zN_le, zN_eq, zN_nat, zN_oobF, Option.bind_some, ↓reduceIte, Nat.one_mul, Nat.zero_add, Nat.add_zero, Nat.reduceAdd, Nat.reduceMul, Nat.reduceSub, Nat.reduceLT, Nat.reduceLeDiff, Nat.reduceEqDiff, reduceCtorEq, true_or, or_true, false_or, or_false, true_and, and_true, false_and, and_false, not_true_eq_false, not_false_eq_true, wr_2, wrL_1, zm_eqF, zm_eqF', zm_lt, zm_lt', zm_le, zm_le', zm_sub1, zN_01, Nat.mul_zero, Nat.zero_mul, Nat.mul_one, Nat.sub_zero, Nat.sub_self, cpy_out]
  · simp only [M3, M2, M1, M0, cpy_2, wr_2]
theorem mark1 {P : Nat → Nat} (hP : Good P) {q : Nat} {U : List (Nat → Nat)} {M : zMM} (hL : Leaf M 0 P) (hU : CU q U M) :
    ∃ M', fX1_mark 0 M = some M' ∧ Leaf M' (40 + 10 * q) P ∧ fr (fun c _ => 40 + 10 * q ≤ c ∧ c < 50 + 10 * q) M M' := by
  obtain ⟨h1, h2, h3, h4⟩ := hU
  obtain ⟨M', e, l, f⟩ := copy0 hP (b := 40 + 10 * q) hL (by omega)
  refine ⟨M', ?_, l, fr_mono f (fun c j hc => by omega)⟩
  unfold fX1_mark
  simp (disch := omega) only [wr_cj, wr_nj, rng_in, rng_out, zN_lit, zN_add, zN_mul, zN_sub, zN_ltT, zN_ltF, zN_leT, zN_leF, zN_eqT, zN_eqF, zN_lt, zN_le, zN_eq, zN_nat, zN_oobF, Option.bind_some, ↓reduceIte, Nat.one_mul, Nat.zero_add, Nat.add_zero, Nat.reduceAdd, Nat.reduceMul, Nat.reduceSub, Nat.reduceLT, Nat.reduceLeDiff, Nat.reduceEqDiff, reduceCtorEq, true_or, or_true, false_or, or_false, true_and, and_true, false_and, and_false, not_true_eq_false, not_false_eq_true, wr_2, wrL_1, zm_eqF, zm_eqF', zm_lt, zm_lt', zm_le, zm_le', zm_sub1, zN_01, Nat.mul_zero, Nat.zero_mul, Nat.mul_one, Nat.sub_zero, Nat.sub_self, h2, e]
theorem remember1 {Q : Nat → Nat} {q : Nat} {U : List (Nat → Nat)} {M : zMM} (hl : U.length ≤ 7) (hL : Leaf M (40 + 10 * q) Q) (hU : CU q U M) :
    ∃ M', fX1_remember M = some M' ∧ (∃ q', CU q' ((Q :: U).take 7) M') ∧ fr (fun c _ => c = 149) M M' := by
  obtain ⟨h1, h2, h3, h4⟩ := hU
  have hlen : ((Q :: U).take 7).length = if 7 < U.length + 1 then 7 else U.length + 1 := by
    rw [List.length_take, List.length_cons]; split <;> omega
  have fin : ∀ q', q' = (if 8 ≤ q + 1 then 0 else q + 1) → ∀ v, v = zN (if 7 < U.length + 1 then 7 else U.length + 1) → CU q' ((Q :: U).take 7) (wr (wr M 149 1 (zN q')) 149 2 v) ∧ fr (fun c _ => c = 149) M (wr (wr M 149 1 (zN q')) 149 2 v) := by
    intro q' hq' v hv
    have ff : fr (fun c _ => c = 149) M (wr (wr M 149 1 (zN q')) 149 2 v) := fr_wr (fr_wr (fr_refl _ _) (by omega)) (by omega)
    refine ⟨⟨by split at hq' <;> omega, by simp (disch := omega) only [wr_cj, wr_nj, rng_in, rng_out, zN_lit, zN_add, zN_mul, zN_sub, zN_ltT, zN_ltF, zN_leT, zN_leF, zN_eqT, zN_eqF, zN_lt, zN_le, zN_eq, zN_nat, zN_oobF, Option.bind_some, ↓reduceIte, Nat.one_mul, Nat.zero_add, Nat.add_zero, Nat.reduceAdd, Nat.reduceMul, Nat.reduceSub, Nat.reduceLT, Nat.reduceLeDiff, Nat.reduceEqDiff, reduceCtorEq, true_or, or_true, false_or, or_false, true_and, and_true, false_and, and_false, not_true_eq_false, not_false_eq_true, wr_2, wrL_1, zm_eqF, zm_eqF', zm_lt, zm_lt', zm_le, zm_le', zm_sub1, zN_01, Nat.mul_zero, Nat.zero_mul, Nat.mul_one, Nat.sub_zero, Nat.sub_self], by rw [wr_cj, hv, hlen], ?_⟩, ff⟩
    intro i Q' hi
    have hi7 : i < 7 := by
      have := (List.getElem?_eq_some_iff.mp hi).1
      rw [hlen] at this; split at this <;> omega
    rw [List.getElem?_take_of_lt hi7] at hi
    have lf : ∀ {b : Nat} {X : Nat → Nat}, b ≤ 110 → Leaf M b X → Leaf (wr (wr M 149 1 (zN q')) 149 2 v) b X := fun hb h => Leaf_eq h (fun c j a b => ff.1 c j (by omega))
    cases i with
    | zero =>
      simp only [List.getElem?_cons_zero, Option.some.injEq] at hi
      subst hi
      have e : 40 + 10 * ((q' + 7 - 0) % 8) = 40 + 10 * q := by split at hq' <;> omega
      rw [e]; exact lf (by omega) hL
    | succ i =>
      rw [List.getElem?_cons_succ] at hi
      have hi' := (List.getElem?_eq_some_iff.mp hi).1
      have e : 40 + 10 * ((q' + 7 - (i + 1)) % 8) = 40 + 10 * ((q + 7 - i) % 8) := by split at hq' <;> omega
      rw [e]; exact lf (by omega) (h4 i Q' hi)
  have e22 : ∀ s, fX1_remember_22 (zN s) M = some (wr (wr M 149 1 (zN s)) 149 2 (zN (if 7 < U.length + 1 then 7 else U.length + 1))) := by
    intro s
    unfold fX1_remember_22
    by_cases c : 7 < U.length + 1
    · rw [if_pos c]; simp (disch := omega) only [wr_cj, wr_nj, rng_in, rng_out, zN_lit, zN_add, zN_mul, zN_sub, zN_ltT, zN_ltF, zN_leT, zN_leF, zN_eqT, zN_eqF, zN_lt, zN_le, zN_eq, zN_nat, zN_oobF, Option.bind_some, ↓reduceIte, Nat.one_mul, Nat.zero_add, Nat.add_zero, Nat.reduceAdd, Nat.reduceMul, Nat.reduceSub, Nat.reduceLT, Nat.reduceLeDiff, Nat.reduceEqDiff, reduceCtorEq, true_or, or_true, false_or, or_false, true_and, and_true, false_and, and_false, not_true_eq_false, not_false_eq_true, wr_2, wrL_1, zm_eqF, zm_eqF', zm_lt, zm_lt', zm_le, zm_le', zm_sub1, zN_01, Nat.mul_zero, Nat.zero_mul, Nat.mul_one, Nat.sub_zero, Nat.sub_self, h3]
    · rw [if_neg c]; simp (disch := omega) only [wr_cj, wr_nj, rng_in, rng_out, zN_lit, zN_add, zN_mul, zN_sub, zN_ltT, zN_ltF, zN_leT, zN_leF, zN_eqT, zN_eqF, zN_lt, zN_le, zN_eq, zN_nat, zN_oobF, Option.bind_some, ↓reduceIte, Nat.one_mul, Nat.zero_add, Nat.add_zero, Nat.reduceAdd, Nat.reduceMul, Nat.reduceSub, Nat.reduceLT, Nat.reduceLeDiff, Nat.reduceEqDiff, reduceCtorEq, true_or, or_true, false_or, or_false, true_and, and_true, false_and, and_false, not_true_eq_false, not_false_eq_true, wr_2, wrL_1, zm_eqF, zm_eqF', zm_lt, zm_lt', zm_le, zm_le', zm_sub1, zN_01, Nat.mul_zero, Nat.zero_mul, Nat.mul_one, Nat.sub_zero, Nat.sub_self, h3]
  unfold fX1_remember
  by_cases c : 8 ≤ q + 1
  · have := fin 0 (by rw [if_pos c]) _ rfl
    refine ⟨_, ?_, ⟨0, this.1⟩, this.2⟩
    simp (disch := omega) only [wr_cj, wr_nj, rng_in, rng_out, zN_lit, zN_add, zN_mul, zN_sub, zN_ltT, zN_ltF, zN_leT, zN_leF, zN_eqT, zN_eqF, zN_lt, zN_le, zN_eq, zN_nat, zN_oobF, Option.bind_some, ↓reduceIte, Nat.one_mul, Nat.zero_add, Nat.add_zero, Nat.reduceAdd, Nat.reduceMul, Nat.reduceSub, Nat.reduceLT, Nat.reduceLeDiff, Nat.reduceEqDiff, reduceCtorEq, true_or, or_true, false_or, or_false, true_and, and_true, false_and, and_false, not_true_eq_false, not_false_eq_true, wr_2, wrL_1, zm_eqF, zm_eqF', zm_lt, zm_lt', zm_le, zm_le', zm_sub1, zN_01, Nat.mul_zero, Nat.zero_mul, Nat.mul_one, Nat.sub_zero, Nat.sub_self, h2, e22]
  · have := fin (q + 1) (by rw [if_neg c]) _ rfl
    refine ⟨_, ?_, ⟨q + 1, this.1⟩, this.2⟩
    simp (disch := omega) only [wr_cj, wr_nj, rng_in, rng_out, zN_lit, zN_add, zN_mul, zN_sub, zN_ltT, zN_ltF, zN_leT, zN_leF, zN_eqT, zN_eqF, zN_lt, zN_le, zN_eq, zN_nat, zN_oobF, Option.bind_some, ↓reduceIte, Nat.one_mul, Nat.zero_add, Nat.add_zero, Nat.reduceAdd, Nat.reduceMul, Nat.reduceSub, Nat.reduceLT, Nat.reduceLeDiff, Nat.reduceEqDiff, reduceCtorEq, true_or, or_true, false_or, or_false, true_and, and_true, false_and, and_false, not_true_eq_false, not_false_eq_true, wr_2, wrL_1, zm_eqF, zm_eqF', zm_lt, zm_lt', zm_le, zm_le', zm_sub1, zN_01, Nat.mul_zero, Nat.zero_mul, Nat.mul_one, Nat.sub_zero, Nat.sub_self, h2, e22]
/-- where a change of the leaf writes -/
def CW (c : Nat) : Prop := c < 20 ∨ (120 ≤ c ∧ c ≤ 148)
def LD (f : zMM → Option (Int32 × zMM)) (P : Nat → Nat) (r : Int32) (P' : Nat → Nat) : Prop := ∀ M, Leaf M 0 P → ∃ M', f M = some (r, M') ∧ Leaf M' 0 P' ∧ fr (fun c _ => CW c) M M'
theorem LD_CD {f : zMM → Option (Int32 × zMM)} {P P' : Nat → Nat} {r : Int32} {T : List Nat} {R : List Int64} {U : List (Nat → Nat)} {K : Nat → Option (Nat → Nat)} (hw : WF P T R U K) (h : LD f P r P') :
    (r < 0 → P' = P → CD (fun M => (fX1_mark 0 M).bind fun q1 => (f q1).bind fun q2 => (fX6_remembered q2.1 q2.2).bind fun q3 => some (q3.1, q3.2)) P T R U K r P T R U K) ∧
    (¬ r < 0 → CD (fun M => (fX1_mark 0 M).bind fun q1 => (f q1).bind fun q2 => (fX6_remembered q2.1 q2.2).bind fun q3 => some (q3.1, q3.2)) P T R U K r P' T R ((P :: U).take 7) K) := by
  have main : ∀ M, CI P T R U K M → ∃ M1 M2 q, fX1_mark 0 M = some M1 ∧ f M1 = some (r, M2) ∧ Leaf M2 0 P' ∧ CT T M2 ∧ CR R M2 ∧ CU q U M2 ∧ CKp K M2 ∧ Leaf M2 (40 + 10 * q) P ∧ frC M M2 := by
    rintro M ⟨h1, h2, h3, ⟨q, h4⟩, h5⟩
    have hq := h4.1
    obtain ⟨M1, e1, l1, f1⟩ := mark1 hw.1 h1 h4
    have h1' : Leaf M1 0 P := Leaf_eq h1 (fun c j a b => f1.1 c j (by omega))
    obtain ⟨M2, e2, l2, f2⟩ := h M1 h1'
    have ft : ∀ c j, ¬ (40 + 10 * q ≤ c ∧ c < 50 + 10 * q) → ¬ CW c → M2.1 c j = M.1 c j := fun c j a b => by rw [f2.1 c j b, f1.1 c j a]
    unfold CW at ft
    refine ⟨M1, M2, q, e1, e2, l2, CT_fr h2 (fun c j a => ft c j (by omega) (by omega)), CR_fr h3 (fun j => ft _ _ (by omega) (by omega)) (fun j => by rw [f2.2, f1.2]), CU_fr h4 (fun c j a => ft c j (by omega) (by omega)) hw.2.2.2.1.1, CKp_fr h5 (fun c j a => ft c j (by omega) (by omega)), Leaf_eq l1 (fun c j a b => f2.1 c j (by unfold CW; omega)), ?_⟩
    exact frC_trans (frC_fr f1 (fun c j a => by omega)) (frC_fr f2 (fun c j a => by unfold CW at a; omega))
  constructor
  · intro hr hP M hM
    obtain ⟨M1, M2, q, e1, e2, l2, ct, cr, cu, ck, lm, fC⟩ := main M hM
    rw [hP] at l2
    refine ⟨M2, ?_, ⟨l2, ct, cr, ⟨q, cu⟩, ck⟩, fC⟩
    simp only [e1, e2, Option.bind_some]
    unfold fX6_remembered
    rw [if_pos hr]; rfl
  · intro hr M hM
    obtain ⟨M1, M2, q, e1, e2, l2, ct, cr, cu, ck, lm, fC⟩ := main M hM
    obtain ⟨M3, e3, cu3, f3⟩ := remember1 hw.2.2.2.1.1 lm cu
    refine ⟨M3, ?_, ⟨Leaf_eq l2 (fun c j a b => f3.1 c j (by omega)), CT_fr ct (fun c j a => f3.1 c j (by omega)), CR_fr cr (fun j => f3.1 _ _ (by omega)) (fun j => by rw [f3.2]), cu3, CKp_fr ck (fun c j a => f3.1 c j (by omega))⟩, frC_trans fC (frC_fr f3 (fun c j a => by omega))⟩
    simp only [e1, e2, Option.bind_some]
    unfold fX6_remembered
    rw [if_neg hr, e3]; rfl
/-! the model's -/
theorem layAside7 (M : zMM) : ∃ M', fX7_layAside M = some M' ∧ (∀ j, j < 259 → M'.1 166 j = M.1 159 j) ∧ fr (fun c _ => c = 166) M M' := by
  obtain ⟨M', e, h, f⟩ := cpUp fX7_layAside_2 (fun M => some M) (fun i => zN i) 259 159 166 0 0 (by omega) M (by
    intro n i M' hi hf
    rw [fX7_layAside_2]
    simp (disch := omega) only [wr_cj, wr_nj, rng_in, rng_out, zN_lit, zN_add, zN_mul, zN_sub, zN_ltT, zN_ltF, zN_leT, zN_leF, zN_eqT, zN_eqF, zN_lt, zN_le, zN_eq, zN_nat, zN_oobF, Option.bind_some, ↓reduceIte, Nat.one_mul, Nat.zero_add, Nat.add_zero, Nat.reduceAdd, Nat.reduceMul, Nat.reduceSub, Nat.reduceLT, Nat.reduceLeDiff, Nat.reduceEqDiff, reduceCtorEq, true_or, or_true, false_or, or_false, true_and, and_true, false_and, and_false, not_true_eq_false, not_false_eq_true, wr_2, wrL_1, zm_eqF, zm_eqF', zm_lt, zm_lt', zm_le, zm_le', zm_sub1, zN_01, Nat.mul_zero, Nat.zero_mul, Nat.mul_one, Nat.sub_zero, Nat.sub_self]) (by
    intro n M' hf
    rw [fX7_layAside_2]
    simp (disch := omega) only [wr_cj, wr_nj, rng_in, rng_out, zN_lit, zN_add, zN_mul, zN_sub, zN_ltT, zN_ltF, zN_leT, zN_leF, zN_eqT, zN_eqF, zN_lt, zN_le, zN_eq, zN_nat, zN_oobF, Option.bind_some, ↓reduceIte, Nat.one_mul, Nat.zero_add, Nat.add_zero, Nat.reduceAdd, Nat.reduceMul, Nat.reduceSub, Nat.reduceLT, Nat.reduceLeDiff, Nat.reduceEqDiff, reduceCtorEq, true_or, or_true, false_or, or_false, true_and, and_true, false_and, and_false, not_true_eq_false, not_false_eq_true, wr_2, wrL_1, zm_eqF, zm_eqF', zm_lt, zm_lt', zm_le, zm_le', zm_sub1, zN_01, Nat.mul_zero, Nat.zero_mul, Nat.mul_one, Nat.sub_zero, Nat.sub_self]) zFU (by rw [zFU_eq]; omega)
  simp only [Nat.zero_add] at h
  exact ⟨M', e, h, fr_mono f (fun c j hc => hc.1)⟩
theorem comesBack7 (M : zMM) : ∃ M', fX7_comesBack M = some M' ∧ (∀ j, j < 259 → M'.1 159 j = M.1 166 j) ∧ fr (fun c _ => c = 159) M M' := by
  obtain ⟨M', e, h, f⟩ := cpUp fX7_comesBack_2 (fun M => some M) (fun i => zN i) 259 166 159 0 0 (by omega) M (by
    intro n i M' hi hf
    rw [fX7_comesBack_2]
    simp (disch := omega) only [wr_cj, wr_nj, rng_in, rng_out, zN_lit, zN_add, zN_mul, zN_sub, zN_ltT, zN_ltF, zN_leT, zN_leF, zN_eqT, zN_eqF, zN_lt, zN_le, zN_eq, zN_nat, zN_oobF, Option.bind_some, ↓reduceIte, Nat.one_mul, Nat.zero_add, Nat.add_zero, Nat.reduceAdd, Nat.reduceMul, Nat.reduceSub, Nat.reduceLT, Nat.reduceLeDiff, Nat.reduceEqDiff, reduceCtorEq, true_or, or_true, false_or, or_false, true_and, and_true, false_and, and_false, not_true_eq_false, not_false_eq_true, wr_2, wrL_1, zm_eqF, zm_eqF', zm_lt, zm_lt', zm_le, zm_le', zm_sub1, zN_01, Nat.mul_zero, Nat.zero_mul, Nat.mul_one, Nat.sub_zero, Nat.sub_self]) (by
    intro n M' hf
    rw [fX7_comesBack_2]
    simp (disch := omega) only [wr_cj, wr_nj, rng_in, rng_out, zN_lit, zN_add, zN_mul, zN_sub, zN_ltT, zN_ltF, zN_leT, zN_leF, zN_eqT, zN_eqF, zN_lt, zN_le, zN_eq, zN_nat, zN_oobF, Option.bind_some, ↓reduceIte, Nat.one_mul, Nat.zero_add, Nat.add_zero, Nat.reduceAdd, Nat.reduceMul, Nat.reduceSub, Nat.reduceLT, Nat.reduceLeDiff, Nat.reduceEqDiff, reduceCtorEq, true_or, or_true, false_or, or_false, true_and, and_true, false_and, and_false, not_true_eq_false, not_false_eq_true, wr_2, wrL_1, zm_eqF, zm_eqF', zm_lt, zm_lt', zm_le, zm_le', zm_sub1, zN_01, Nat.mul_zero, Nat.zero_mul, Nat.mul_one, Nat.sub_zero, Nat.sub_self]) zFU (by rw [zFU_eq]; omega)
  simp only [Nat.zero_add] at h
  exact ⟨M', e, h, fr_mono f (fun c j hc => hc.1)⟩
theorem lay7 (M : zMM) : ∃ M', fX7_lay M = some M' ∧ (∀ j, j < 259 → M'.1 171 j = M.1 159 j) ∧ fr (fun c _ => c = 171) M M' := by
  obtain ⟨M', e, h, f⟩ := cpUp fX7_lay_2 (fun M => some M) (fun i => zN i) 259 159 171 0 0 (by omega) M (by
    intro n i M' hi hf
    rw [fX7_lay_2]
    simp (disch := omega) only [wr_cj, wr_nj, rng_in, rng_out, zN_lit, zN_add, zN_mul, zN_sub, zN_ltT, zN_ltF, zN_leT, zN_leF, zN_eqT, zN_eqF, zN_lt, zN_le, zN_eq, zN_nat, zN_oobF, Option.bind_some, ↓reduceIte, Nat.one_mul, Nat.zero_add, Nat.add_zero, Nat.reduceAdd, Nat.reduceMul, Nat.reduceSub, Nat.reduceLT, Nat.reduceLeDiff, Nat.reduceEqDiff, reduceCtorEq, true_or, or_true, false_or, or_false, true_and, and_true, false_and, and_false, not_true_eq_false, not_false_eq_true, wr_2, wrL_1, zm_eqF, zm_eqF', zm_lt, zm_lt', zm_le, zm_le', zm_sub1, zN_01, Nat.mul_zero, Nat.zero_mul, Nat.mul_one, Nat.sub_zero, Nat.sub_self]) (by
    intro n M' hf
    rw [fX7_lay_2]
    simp (disch := omega) only [wr_cj, wr_nj, rng_in, rng_out, zN_lit, zN_add, zN_mul, zN_sub, zN_ltT, zN_ltF, zN_leT, zN_leF, zN_eqT, zN_eqF, zN_lt, zN_le, zN_eq, zN_nat, zN_oobF, Option.bind_some, ↓reduceIte, Nat.one_mul, Nat.zero_add, Nat.add_zero, Nat.reduceAdd, Nat.reduceMul, Nat.reduceSub, Nat.reduceLT, Nat.reduceLeDiff, Nat.reduceEqDiff, reduceCtorEq, true_or, or_true, false_or, or_false, true_and, and_true, false_and, and_false, not_true_eq_false, not_false_eq_true, wr_2, wrL_1, zm_eqF, zm_eqF', zm_lt, zm_lt', zm_le, zm_le', zm_sub1, zN_01, Nat.mul_zero, Nat.zero_mul, Nat.mul_one, Nat.sub_zero, Nat.sub_self]) zFU (by rw [zFU_eq]; omega)
  simp only [Nat.zero_add] at h
  exact ⟨M', e, h, fr_mono f (fun c j hc => hc.1)⟩
theorem note50 {Q : Nat → Nat} {U : List (Nat → Nat)} {M : zMM} (hl : U.length ≤ 6) (hw : ∀ j, j < 259 → M.1 171 j = zN (Q j)) (hU : MU U M) :
    ∃ M', fX7_note_50 M = some M' ∧ MU (Q :: U) M' ∧ fr (fun c j => c = 170 ∨ (c = 158 ∧ j = 24)) M M' := by
  obtain ⟨h1, h2⟩ := hU
  obtain ⟨M', e, h, f⟩ := cpUp fX7_note_52 (fun M => some (wr M 158 24 ((M.1 158 24) + 1))) (fun i => zN i) 259 171 170 0 (259 * U.length) (by omega) M (by
    intro n i M' hi hf
    have := hf.1 158 24 (by omega)
    rw [h1] at this
    rw [fX7_note_52]
    simp (disch := omega) only [wr_cj, wr_nj, rng_in, rng_out, zN_lit, zN_add, zN_mul, zN_sub, zN_ltT, zN_ltF, zN_leT, zN_leF, zN_eqT, zN_eqF, zN_lt, zN_le, zN_eq, zN_nat, zN_oobF, Option.bind_some, ↓reduceIte, Nat.one_mul, Nat.zero_add, Nat.add_zero, Nat.reduceAdd, Nat.reduceMul, Nat.reduceSub, Nat.reduceLT, Nat.reduceLeDiff, Nat.reduceEqDiff, reduceCtorEq, true_or, or_true, false_or, or_false, true_and, and_true, false_and, and_false, not_true_eq_false, not_false_eq_true, wr_2, wrL_1, zm_eqF, zm_eqF', zm_lt, zm_lt', zm_le, zm_le', zm_sub1, zN_01, Nat.mul_zero, Nat.zero_mul, Nat.mul_one, Nat.sub_zero, Nat.sub_self, this]) (by
    intro n M' hf
    rw [fX7_note_52]
    simp (disch := omega) only [wr_cj, wr_nj, rng_in, rng_out, zN_lit, zN_add, zN_mul, zN_sub, zN_ltT, zN_ltF, zN_leT, zN_leF, zN_eqT, zN_eqF, zN_lt, zN_le, zN_eq, zN_nat, zN_oobF, Option.bind_some, ↓reduceIte, Nat.one_mul, Nat.zero_add, Nat.add_zero, Nat.reduceAdd, Nat.reduceMul, Nat.reduceSub, Nat.reduceLT, Nat.reduceLeDiff, Nat.reduceEqDiff, reduceCtorEq, true_or, or_true, false_or, or_false, true_and, and_true, false_and, and_false, not_true_eq_false, not_false_eq_true, wr_2, wrL_1, zm_eqF, zm_eqF', zm_lt, zm_lt', zm_le, zm_le', zm_sub1, zN_01, Nat.mul_zero, Nat.zero_mul, Nat.mul_one, Nat.sub_zero, Nat.sub_self]) zFU (by rw [zFU_eq]; omega)
  have h24 : M'.1 158 24 = zN U.length := by rw [f.1 _ _ (by omega)]; exact h1
  refine ⟨wr M' 158 24 (zN (U.length + 1)), ?_, ⟨by rw [wr_cj]; rfl, ?_⟩, fr_wr (fr_mono f (fun c j hc => by omega)) (by omega)⟩
  · unfold fX7_note_50
    refine Eq.trans e ?_
    simp (disch := omega) only [wr_cj, wr_nj, rng_in, rng_out, zN_lit, zN_add, zN_mul, zN_sub, zN_ltT, zN_ltF, zN_leT, zN_leF, zN_eqT, zN_eqF, zN_lt, zN_le, zN_eq, zN_nat, zN_oobF, Option.bind_some, ↓reduceIte, Nat.one_mul, Nat.zero_add, Nat.add_zero, Nat.reduceAdd, Nat.reduceMul, Nat.reduceSub, Nat.reduceLT, Nat.reduceLeDiff, Nat.reduceEqDiff, reduceCtorEq, true_or, or_true, false_or, or_false, true_and, and_true, false_and, and_false, not_true_eq_false, not_false_eq_true, wr_2, wrL_1, zm_eqF, zm_eqF', zm_lt, zm_lt', zm_le, zm_le', zm_sub1, zN_01, Nat.mul_zero, Nat.zero_mul, Nat.mul_one, Nat.sub_zero, Nat.sub_self, h24]
  · intro i X hi j hj
    cases i with
    | zero =>
      simp only [List.getElem?_cons_zero, Option.some.injEq] at hi
      subst hi
      have := h j hj
      rw [Nat.zero_add, hw j hj] at this
      rw [wr_nj (by omega), List.length_cons, show U.length + 1 - 1 - 0 = U.length by omega]
      exact this
    | succ i =>
      rw [List.getElem?_cons_succ] at hi
      have hi' := (List.getElem?_eq_some_iff.mp hi).1
      rw [wr_nj (by omega), List.length_cons, show U.length + 1 - 1 - (i + 1) = U.length - 1 - i by omega, f.1 _ _ (by omega)]
      exact h2 i X hi j hj
theorem note7 {Q : Nat → Nat} {U : List (Nat → Nat)} {M : zMM} (hl : U.length ≤ 7) (hw : ∀ j, j < 259 → M.1 171 j = zN (Q j)) (hU : MU U M) :
    ∃ M', fX7_note M = some M' ∧ MU ((Q :: U).take 7) M' ∧ fr (fun c j => c = 170 ∨ (c = 158 ∧ j = 24)) M M' := by
  by_cases c : U.length = 7
  · obtain ⟨h1, h2⟩ := hU
    obtain ⟨M', e, h, f⟩ := cpUp fX7_note_11 (fun M => fX7_note_50 (wr M 158 24 ((M.1 158 24) - 1))) (fun i => zN i) 1554 170 170 259 0 (by omega) M (by
      intro n i M' hi hf
      rw [fX7_note_11]
      simp (disch := omega) only [wr_cj, wr_nj, rng_in, rng_out, zN_lit, zN_add, zN_mul, zN_sub, zN_ltT, zN_ltF, zN_leT, zN_leF, zN_eqT, zN_eqF, zN_lt, zN_le, zN_eq, zN_nat, zN_oobF, Option.bind_some, ↓reduceIte, Nat.one_mul, Nat.zero_add, Nat.add_zero, Nat.reduceAdd, Nat.reduceMul, Nat.reduceSub, Nat.reduceLT, Nat.reduceLeDiff, Nat.reduceEqDiff, reduceCtorEq, true_or, or_true, false_or, or_false, true_and, and_true, false_and, and_false, not_true_eq_false, not_false_eq_true, wr_2, wrL_1, zm_eqF, zm_eqF', zm_lt, zm_lt', zm_le, zm_le', zm_sub1, zN_01, Nat.mul_zero, Nat.zero_mul, Nat.mul_one, Nat.sub_zero, Nat.sub_self]
      rw [Nat.add_comm i 259]) (by
      intro n M' hf
      rw [fX7_note_11]
      simp (disch := omega) only [wr_cj, wr_nj, rng_in, rng_out, zN_lit, zN_add, zN_mul, zN_sub, zN_ltT, zN_ltF, zN_leT, zN_leF, zN_eqT, zN_eqF, zN_lt, zN_le, zN_eq, zN_nat, zN_oobF, Option.bind_some, ↓reduceIte, Nat.one_mul, Nat.zero_add, Nat.add_zero, Nat.reduceAdd, Nat.reduceMul, Nat.reduceSub, Nat.reduceLT, Nat.reduceLeDiff, Nat.reduceEqDiff, reduceCtorEq, true_or, or_true, false_or, or_false, true_and, and_true, false_and, and_false, not_true_eq_false, not_false_eq_true, wr_2, wrL_1, zm_eqF, zm_eqF', zm_lt, zm_lt', zm_le, zm_le', zm_sub1, zN_01, Nat.mul_zero, Nat.zero_mul, Nat.mul_one, Nat.sub_zero, Nat.sub_self]) zFU (by rw [zFU_eq]; omega)
    have h24 : M'.1 158 24 = zN 7 := by rw [f.1 _ _ (by omega), ← c]; exact h1
    have hl6 : (U.take 6).length = 6 := by rw [List.length_take]; omega
    obtain ⟨M2, e2, u2, f2⟩ := note50 (Q := Q) (U := U.take 6) (M := wr M' 158 24 (zN 6)) (by omega) (by intro j hj; rw [wr_nj (by omega), f.1 _ _ (by omega)]; exact hw j hj) (by
      refine ⟨by rw [wr_cj, hl6], ?_⟩
      intro i X hi j hj
      have hi' := (List.getElem?_eq_some_iff.mp hi).1
      rw [List.getElem?_take_of_lt (by omega)] at hi
      have := h2 i X hi j hj
      have hh := h (259 * (6 - 1 - i) + j) (by omega)
      rw [wr_nj (by omega), hl6]
      rw [Nat.zero_add] at hh
      rw [hh, ← this, c, show 259 + (259 * (6 - 1 - i) + j) = 259 * (7 - 1 - i) + j by omega])
    refine ⟨M2, ?_, ?_, ?_⟩
    · unfold fX7_note
      rw [c] at h1
      simp (disch := omega) only [wr_cj, wr_nj, rng_in, rng_out, zN_lit, zN_add, zN_mul, zN_sub, zN_ltT, zN_ltF, zN_leT, zN_leF, zN_eqT, zN_eqF, zN_lt, zN_le, zN_eq, zN_nat, zN_oobF, Option.bind_some, ↓reduceIte, Nat.one_mul, Nat.zero_add, Nat.add_zero, Nat.reduceAdd, Nat.reduceMul, Nat.reduceSub, Nat.reduceLT, Nat.reduceLeDiff, Nat.reduceEqDiff, reduceCtorEq, true_or, or_true, false_or, or_false, true_and, and_true, false_and, and_false, not_true_eq_false, not_false_eq_true, wr_2, wrL_1, zm_eqF, zm_eqF', zm_lt, zm_lt', zm_le, zm_le', zm_sub1, zN_01, Nat.mul_zero, Nat.zero_mul, Nat.mul_one, Nat.sub_zero, Nat.sub_self, h1]
      refine Eq.trans e ?_
      simp (disch := omega) only [wr_cj, wr_nj, rng_in, rng_out, zN_lit, zN_add, zN_mul, zN_sub, zN_ltT, zN_ltF, zN_leT, zN_leF, zN_eqT, zN_eqF, zN_lt, zN_le, zN_eq, zN_nat, zN_oobF, Option.bind_some, ↓reduceIte, Nat.one_mul, Nat.zero_add, Nat.add_zero, Nat.reduceAdd, Nat.reduceMul, Nat.reduceSub, Nat.reduceLT, Nat.reduceLeDiff, Nat.reduceEqDiff, reduceCtorEq, true_or, or_true, false_or, or_false, true_and, and_true, false_and, and_false, not_true_eq_false, not_false_eq_true, wr_2, wrL_1, zm_eqF, zm_eqF', zm_lt, zm_lt', zm_le, zm_le', zm_sub1, zN_01, Nat.mul_zero, Nat.zero_mul, Nat.mul_one, Nat.sub_zero, Nat.sub_self, h24, e2]
    · exact u2
    · refine fr_trans (fr_mono (fr_wr (fr_mono f (S' := fun c j => c = 170 ∨ (c = 158 ∧ j = 24)) (fun c j hc => by omega)) (by omega)) (fun c j hc => hc)) f2
  · have h1 := hU.1
    obtain ⟨M2, e2, u2, f2⟩ := note50 (Q := Q) (by omega) hw hU
    refine ⟨M2, ?_, ?_, f2⟩
    · unfold fX7_note
      simp (disch := omega) only [wr_cj, wr_nj, rng_in, rng_out, zN_lit, zN_add, zN_mul, zN_sub, zN_ltT, zN_ltF, zN_leT, zN_leF, zN_eqT, zN_eqF, zN_lt, zN_le, zN_eq, zN_nat, zN_oobF, Option.bind_some, ↓reduceIte, Nat.one_mul, Nat.zero_add, Nat.add_zero, Nat.reduceAdd, Nat.reduceMul, Nat.reduceSub, Nat.reduceLT, Nat.reduceLeDiff, Nat.reduceEqDiff, reduceCtorEq, true_or, or_true, false_or, or_false, true_and, and_true, false_and, and_false, not_true_eq_false, not_false_eq_true, wr_2, wrL_1, zm_eqF, zm_eqF', zm_lt, zm_lt', zm_le, zm_le', zm_sub1, zN_01, Nat.mul_zero, Nat.zero_mul, Nat.mul_one, Nat.sub_zero, Nat.sub_self, h1, e2]
    · rw [List.take_of_length_le (by rw [List.length_cons]; omega)]; exact u2
theorem change7 {P : Nat → Nat} {U : List (Nat → Nat)} {M : zMM} (hl : U.length ≤ 7) (hM : MNow M P) (hU : MU U M) :
    ∃ M', fX7_change M = some M' ∧ MU ((P :: U).take 7) M' ∧ fr (fun c j => c = 170 ∨ c = 171 ∨ (c = 158 ∧ j = 24)) M M' := by
  obtain ⟨M1, e1, h1, f1⟩ := lay7 M
  obtain ⟨M2, e2, u2, f2⟩ := note7 (Q := P) (M := M1) hl (fun j hj => by rw [h1 j hj]; exact hM j hj) (MU_fr hU (f1.1 _ _ (by omega)) (fun j => f1.1 _ _ (by omega)))
  refine ⟨M2, ?_, u2, fr_trans (fr_mono f1 (fun c j hc => by omega)) (fr_mono f2 (fun c j hc => by omega))⟩
  unfold fX7_change
  rw [e1, Option.bind_some, e2]; rfl
