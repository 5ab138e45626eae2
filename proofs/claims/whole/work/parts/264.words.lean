/-! words read from the text -/
theorem words_chk {T : List Nat} (hT : T.length ≤ 80) (hb : ∀ i, i < T.length → tt T i < 256) {t : Nat} (ht : t < 3) : ∀ n i, n = T.length - i → i ≤ T.length → i ≤ 70 →
    (T.length ≤ 70 ∧ (∀ j, i ≤ j → j < T.length → 49 ≤ tt T j ∧ tt T j ≤ 57) ∧
      (∀ M fuel, n < fuel → CT T M → fX6_readWords_2 (zN t) fuel (zN i) M = (fX0_dropTiesOf 0 (zN t) M).bind fun q2 => fX6_readWords_67 (zN t) zFU (zN 0) (wr q2 2 t (q2.1 153 1))) ∧
      (∀ M fuel, n + 2 < fuel → TR T i M → ∃ M', fX7_words_20 (zN t) fuel (zN i) M = fX7_words_77 (zN t) (zN T.length) M' ∧ TR T T.length M' ∧ (∀ j, j < i → M'.1 162 j = M.1 162 j) ∧ (∀ j, i ≤ j → j < T.length → M'.1 162 j = zN (tt T j - 48)) ∧ fr (fun c j => c = 162 ∨ (c = 158 ∧ j = 7)) M M')) ∨
    ∃ e, e < 80 ∧ (∀ M fuel, n < fuel → CT T M → fX6_readWords_2 (zN t) fuel (zN i) M = some (-zN 1 - zN e, M)) ∧
      (∀ M fuel, n + 2 < fuel → TR T i M → ∃ M' l, fX7_words_20 (zN t) fuel (zN i) M = fX7_words_77 (zN t) l M' ∧ M'.1 158 8 = zN e ∧ fr (fun c j => c = 162 ∨ (c = 158 ∧ (j = 7 ∨ j = 8))) M M') := by
  intro n
  induction n with
  | zero =>
    intro i hn hi h70
    have ei : i = T.length := by omega
    subst ei
    left
    refine ⟨h70, fun j a b => absurd b (by omega), fun M fuel hf hM => ?_, fun M fuel hf hM => ?_⟩
    · obtain ⟨fu, rfl⟩ : ∃ q, fuel = q + 1 := ⟨fuel - 1, by omega⟩
      have a := hM.1
      rw [fX6_readWords_2]
      simp (disch := omega) only [wr_cj, wr_nj, rng_in, rng_out, zN_lit, zN_add, zN_mul, zN_sub, zN_ltT, zN_ltF, zN_leT, zN_leF, zN_eqT, zN_eqF, zN_lt, zN_le, zN_eq, zN_nat, zN_oobF, Option.bind_some, ↓reduceIte, Nat.one_mul, Nat.zero_add, Nat.add_zero, Nat.reduceAdd, Nat.reduceMul, Nat.reduceSub, Nat.reduceLT, Nat.reduceLeDiff, Nat.reduceEqDiff, reduceCtorEq, true_or, or_true, false_or, or_false, true_and, and_true, false_and, and_false, not_true_eq_false, not_false_eq_true, wr_2, wrL_1, zm_eqF, zm_eqF', zm_lt, zm_lt', zm_le, zm_le', zm_sub1, zN_01, Nat.mul_zero, Nat.zero_mul, Nat.mul_one, Nat.sub_zero, Nat.sub_self, Nat.add_sub_cancel, a]
    · obtain ⟨fu, rfl⟩ : ∃ q, fuel = q + 1 := ⟨fuel - 1, by omega⟩
      refine ⟨M, ?_, hM, fun j _ => rfl, fun j a b => absurd b (by omega), fr_refl _ _⟩
      have a := fineT hM.2.2.1
      have b := hM.1
      have c := hM.2.1
      rw [fX7_words_20]
      simp (disch := omega) only [wr_cj, wr_nj, rng_in, rng_out, zN_lit, zN_add, zN_mul, zN_sub, zN_ltT, zN_ltF, zN_leT, zN_leF, zN_eqT, zN_eqF, zN_lt, zN_le, zN_eq, zN_nat, zN_oobF, Option.bind_some, ↓reduceIte, Nat.one_mul, Nat.zero_add, Nat.add_zero, Nat.reduceAdd, Nat.reduceMul, Nat.reduceSub, Nat.reduceLT, Nat.reduceLeDiff, Nat.reduceEqDiff, reduceCtorEq, true_or, or_true, false_or, or_false, true_and, and_true, false_and, and_false, not_true_eq_false, not_false_eq_true, wr_2, wrL_1, zm_eqF, zm_eqF', zm_lt, zm_lt', zm_le, zm_le', zm_sub1, zN_01, Nat.mul_zero, Nat.zero_mul, Nat.mul_one, Nat.sub_zero, Nat.sub_self, Nat.add_sub_cancel, a, b, c]
  | succ n ih =>
    intro i hn hi h70
    by_cases f70 : i = 70
    · subst f70
      right
      refine ⟨70, by omega, fun M fuel hf hM => ?_, fun M fuel hf hM => ?_⟩
      · obtain ⟨fu, rfl⟩ : ∃ q, fuel = q + 1 := ⟨fuel - 1, by omega⟩
        have a := hM.1
        rw [fX6_readWords_2]
        simp (disch := omega) only [wr_cj, wr_nj, rng_in, rng_out, zN_lit, zN_add, zN_mul, zN_sub, zN_ltT, zN_ltF, zN_leT, zN_leF, zN_eqT, zN_eqF, zN_lt, zN_le, zN_eq, zN_nat, zN_oobF, Option.bind_some, ↓reduceIte, Nat.one_mul, Nat.zero_add, Nat.add_zero, Nat.reduceAdd, Nat.reduceMul, Nat.reduceSub, Nat.reduceLT, Nat.reduceLeDiff, Nat.reduceEqDiff, reduceCtorEq, true_or, or_true, false_or, or_false, true_and, and_true, false_and, and_false, not_true_eq_false, not_false_eq_true, wr_2, wrL_1, zm_eqF, zm_eqF', zm_lt, zm_lt', zm_le, zm_le', zm_sub1, zN_01, Nat.mul_zero, Nat.zero_mul, Nat.mul_one, Nat.sub_zero, Nat.sub_self, Nat.add_sub_cancel, a]
      · obtain ⟨fu, rfl⟩ : ∃ q, fuel = q + 1 + 1 := ⟨fuel - 2, by omega⟩
        have a := fineT hM.2.2.1
        have b := hM.1
        have c := hM.2.1
        have d := faultT hM.2.2.1 (zN 70)
        have e := fineF (M := wr M 158 8 (zN 70)) (wr_cj _ _ _ _) (by omega)
        refine ⟨wr M 158 8 (zN 70), zN 70, ?_, wr_cj _ _ _ _, fr_wr (fr_refl _ _) (by omega)⟩
        rw [fX7_words_20]
        simp (disch := omega) only [wr_cj, wr_nj, rng_in, rng_out, zN_lit, zN_add, zN_mul, zN_sub, zN_ltT, zN_ltF, zN_leT, zN_leF, zN_eqT, zN_eqF, zN_lt, zN_le, zN_eq, zN_nat, zN_oobF, Option.bind_some, ↓reduceIte, Nat.one_mul, Nat.zero_add, Nat.add_zero, Nat.reduceAdd, Nat.reduceMul, Nat.reduceSub, Nat.reduceLT, Nat.reduceLeDiff, Nat.reduceEqDiff, reduceCtorEq, true_or, or_true, false_or, or_false, true_and, and_true, false_and, and_false, not_true_eq_false, not_false_eq_true, wr_2, wrL_1, zm_eqF, zm_eqF', zm_lt, zm_lt', zm_le, zm_le', zm_sub1, zN_01, Nat.mul_zero, Nat.zero_mul, Nat.mul_one, Nat.sub_zero, Nat.sub_self, Nat.add_sub_cancel, a, b, c, d]
        rw [fX7_words_20]
        simp (disch := omega) only [wr_cj, wr_nj, rng_in, rng_out, zN_lit, zN_add, zN_mul, zN_sub, zN_ltT, zN_ltF, zN_leT, zN_leF, zN_eqT, zN_eqF, zN_lt, zN_le, zN_eq, zN_nat, zN_oobF, Option.bind_some, ↓reduceIte, Nat.one_mul, Nat.zero_add, Nat.add_zero, Nat.reduceAdd, Nat.reduceMul, Nat.reduceSub, Nat.reduceLT, Nat.reduceLeDiff, Nat.reduceEqDiff, reduceCtorEq, true_or, or_true, false_or, or_false, true_and, and_true, false_and, and_false, not_true_eq_false, not_false_eq_true, wr_2, wrL_1, zm_eqF, zm_eqF', zm_lt, zm_lt', zm_le, zm_le', zm_sub1, zN_01, Nat.mul_zero, Nat.zero_mul, Nat.mul_one, Nat.sub_zero, Nat.sub_self, Nat.add_sub_cancel, e]
    · by_cases ok : 49 ≤ tt T i ∧ tt T i ≤ 57
      · have g6 : ∀ M fu, CT T M → fX6_readWords_2 (zN t) (fu + 1) (zN i) M = fX6_readWords_2 (zN t) fu (zN (i + 1)) M := by
          intro M fu hM
          have a := hM.1
          have b := digitT hT hM (i := i) ⟨by omega, by omega, by omega⟩
          rw [fX6_readWords_2]
          simp (disch := omega) only [wr_cj, wr_nj, rng_in, rng_out, zN_lit, zN_add, zN_mul, zN_sub, zN_ltT, zN_ltF, zN_leT, zN_leF, zN_eqT, zN_eqF, zN_lt, zN_le, zN_eq, zN_nat, zN_oobF, Option.bind_some, ↓reduceIte, Nat.one_mul, Nat.zero_add, Nat.add_zero, Nat.reduceAdd, Nat.reduceMul, Nat.reduceSub, Nat.reduceLT, Nat.reduceLeDiff, Nat.reduceEqDiff, reduceCtorEq, true_or, or_true, false_or, or_false, true_and, and_true, false_and, and_false, not_true_eq_false, not_false_eq_true, wr_2, wrL_1, zm_eqF, zm_eqF', zm_lt, zm_lt', zm_le, zm_le', zm_sub1, zN_01, Nat.mul_zero, Nat.zero_mul, Nat.mul_one, Nat.sub_zero, Nat.sub_self, Nat.add_sub_cancel, a, b]
        have g7 : ∀ M fu, TR T i M → fX7_words_20 (zN t) (fu + 1) (zN i) M = fX7_words_20 (zN t) fu (zN (i + 1)) (wr (wr M 158 7 (zN (i + 1))) 162 i (zN (tt T i - 48))) := by
          intro M fu hM
          have a := fineT hM.2.2.1
          have b := hM.1
          have c := hM.2.1
          have d := oneT (lo := 49) (n := 9) hT hb hM (by omega) (by omega) (by omega) (by omega)
          have e : zN (tt T i - 49) + zN 1 = zN (tt T i - 48) := by rw [zN_add]; congr 1; omega
          rw [fX7_words_20]
          simp (disch := omega) only [a, b, c, d, zN_lit, Option.bind_some, zN_eqF, zN_leF, zN_oobF, zN_nat, zN_add, if_false]
          rw [show tt T i - 49 + 1 = tt T i - 48 by omega]
        have hTR : ∀ M, TR T i M → TR T (i + 1) (wr (wr M 158 7 (zN (i + 1))) 162 i (zN (tt T i - 48))) := fun M hM => TR_to hM (by rw [wr_nj (by omega), wr_cj]) (fun c j a => by rw [wr_nj (by omega), wr_nj (by omega)])
        rcases ih (i + 1) (by omega) (by omega) (by omega) with ⟨h0, h1, h2, h3⟩ | ⟨e, he, h2, h3⟩
        · left
          refine ⟨h0, fun j a b => ?_, fun M fuel hf hM => ?_, fun M fuel hf hM => ?_⟩
          · by_cases ej : j = i
            · rw [ej]; exact ok
            · exact h1 j (by omega) b
          · obtain ⟨fu, rfl⟩ : ∃ q, fuel = q + 1 := ⟨fuel - 1, by omega⟩
            rw [g6 M fu hM]; exact h2 M fu (by omega) hM
          · obtain ⟨fu, rfl⟩ : ∃ q, fuel = q + 1 := ⟨fuel - 1, by omega⟩
            obtain ⟨M', e1, e2, e3, e4, e5⟩ := h3 _ fu (by omega) (hTR M hM)
            refine ⟨M', by rw [g7 M fu hM]; exact e1, e2, fun j hj => ?_, fun j a b => ?_, fr_trans (fr_wr (fr_wr (fr_refl _ _) (by omega)) (by omega)) e5⟩
            · rw [e3 j (by omega), wr_nj (by omega), wr_nj (by omega)]
            · by_cases ej : j = i
              · rw [ej, e3 i (by omega), wr_cj]
              · exact e4 j (by omega) b
        · right
          refine ⟨e, he, fun M fuel hf hM => ?_, fun M fuel hf hM => ?_⟩
          · obtain ⟨fu, rfl⟩ : ∃ q, fuel = q + 1 := ⟨fuel - 1, by omega⟩
            rw [g6 M fu hM]; exact h2 M fu (by omega) hM
          · obtain ⟨fu, rfl⟩ : ∃ q, fuel = q + 1 := ⟨fuel - 1, by omega⟩
            obtain ⟨M', l, e1, e2, e3⟩ := h3 _ fu (by omega) (hTR M hM)
            exact ⟨M', l, by rw [g7 M fu hM]; exact e1, e2, fr_trans (fr_wr (fr_wr (fr_refl _ _) (by omega)) (by omega)) e3⟩
      · right
        refine ⟨i, by omega, fun M fuel hf hM => ?_, fun M fuel hf hM => ?_⟩
        · obtain ⟨fu, rfl⟩ : ∃ q, fuel = q + 1 := ⟨fuel - 1, by omega⟩
          have a := hM.1
          by_cases d : dok T i
          · have b := digitT hT hM d
            have := d.2
            rw [fX6_readWords_2]
            simp (disch := omega) only [wr_cj, wr_nj, rng_in, rng_out, zN_lit, zN_add, zN_mul, zN_sub, zN_ltT, zN_ltF, zN_leT, zN_leF, zN_eqT, zN_eqF, zN_lt, zN_le, zN_eq, zN_nat, zN_oobF, Option.bind_some, ↓reduceIte, Nat.one_mul, Nat.zero_add, Nat.add_zero, Nat.reduceAdd, Nat.reduceMul, Nat.reduceSub, Nat.reduceLT, Nat.reduceLeDiff, Nat.reduceEqDiff, reduceCtorEq, true_or, or_true, false_or, or_false, true_and, and_true, false_and, and_false, not_true_eq_false, not_false_eq_true, wr_2, wrL_1, zm_eqF, zm_eqF', zm_lt, zm_lt', zm_le, zm_le', zm_sub1, zN_01, Nat.mul_zero, Nat.zero_mul, Nat.mul_one, Nat.sub_zero, Nat.sub_self, Nat.add_sub_cancel, a, b]
          · have b := digitF hT hb hM (by omega) d
            rw [fX6_readWords_2]
            simp (disch := omega) only [wr_cj, wr_nj, rng_in, rng_out, zN_lit, zN_add, zN_mul, zN_sub, zN_ltT, zN_ltF, zN_leT, zN_leF, zN_eqT, zN_eqF, zN_lt, zN_le, zN_eq, zN_nat, zN_oobF, Option.bind_some, ↓reduceIte, Nat.one_mul, Nat.zero_add, Nat.add_zero, Nat.reduceAdd, Nat.reduceMul, Nat.reduceSub, Nat.reduceLT, Nat.reduceLeDiff, Nat.reduceEqDiff, reduceCtorEq, true_or, or_true, false_or, or_false, true_and, and_true, false_and, and_false, not_true_eq_false, not_false_eq_true, wr_2, wrL_1, zm_eqF, zm_eqF', zm_lt, zm_lt', zm_le, zm_le', zm_sub1, zN_01, Nat.mul_zero, Nat.zero_mul, Nat.mul_one, Nat.sub_zero, Nat.sub_self, Nat.add_sub_cancel, a, b]
        · obtain ⟨fu, rfl⟩ : ∃ q, fuel = q + 1 + 1 := ⟨fuel - 2, by omega⟩
          have a := fineT hM.2.2.1
          have b := hM.1
          have c := hM.2.1
          have d := oneF (lo := 49) (n := 9) hT hb hM (by omega) (by omega) (by omega) (by omega)
          have e8 : (wr (wr M 158 8 (zN i)) 162 i (zN 1)).1 158 8 = zN i := by rw [wr_nj (by omega), wr_cj]
          have e := fineF e8 (by omega)
          refine ⟨wr (wr M 158 8 (zN i)) 162 i (zN 1), zN (i + 1), ?_, e8, fr_wr (fr_wr (fr_refl _ _) (by omega)) (by omega)⟩
          rw [fX7_words_20]
          simp (disch := omega) only [wr_cj, wr_nj, rng_in, rng_out, zN_lit, zN_add, zN_mul, zN_sub, zN_ltT, zN_ltF, zN_leT, zN_leF, zN_eqT, zN_eqF, zN_lt, zN_le, zN_eq, zN_nat, zN_oobF, Option.bind_some, ↓reduceIte, Nat.one_mul, Nat.zero_add, Nat.add_zero, Nat.reduceAdd, Nat.reduceMul, Nat.reduceSub, Nat.reduceLT, Nat.reduceLeDiff, Nat.reduceEqDiff, reduceCtorEq, true_or, or_true, false_or, or_false, true_and, and_true, false_and, and_false, not_true_eq_false, not_false_eq_true, wr_2, wrL_1, zm_eqF, zm_eqF', zm_lt, zm_lt', zm_le, zm_le', zm_sub1, zN_01, Nat.mul_zero, Nat.zero_mul, Nat.mul_one, Nat.sub_zero, Nat.sub_self, Nat.add_sub_cancel, a, b, c, d]
          rw [fX7_words_20]
          simp (disch := omega) only [wr_cj, wr_nj, rng_in, rng_out, zN_lit, zN_add, zN_mul, zN_sub, zN_ltT, zN_ltF, zN_leT, zN_leF, zN_eqT, zN_eqF, zN_lt, zN_le, zN_eq, zN_nat, zN_oobF, Option.bind_some, ↓reduceIte, Nat.one_mul, Nat.zero_add, Nat.add_zero, Nat.reduceAdd, Nat.reduceMul, Nat.reduceSub, Nat.reduceLT, Nat.reduceLeDiff, Nat.reduceEqDiff, reduceCtorEq, true_or, or_true, false_or, or_false, true_and, and_true, false_and, and_false, not_true_eq_false, not_false_eq_true, wr_2, wrL_1, zm_eqF, zm_eqF', zm_lt, zm_lt', zm_le, zm_le', zm_sub1, zN_01, Nat.mul_zero, Nat.zero_mul, Nat.mul_one, Nat.sub_zero, Nat.sub_self, Nat.add_sub_cancel, e]
def qw (t : Nat) : Nat → Nat → Nat → Bool := fun a _ _ => decide (t = 0) || decide (a = t)
theorem dropW0 {t : Nat} (ht : t < 3) : ∀ i P M fuel, tb P → (∀ t, t < 3 → P (5 + t) ≤ 70) → Leaf M 0 P → i ≤ P 218 → i < fuel →
    ∃ M', fX0_dropTiesOf_7 0 (zN t) fuel (zN i + -zN 1) M = some M' ∧ Leaf M' 0 (utF (qw t) i P) ∧ fr (fun c _ => c = 0 ∨ (7 ≤ c ∧ c ≤ 9)) M M' := by
  intro i
  induction i with
  | zero =>
    intro P M fuel hb hc hL hi hf
    obtain ⟨fu, rfl⟩ : ∃ q, fuel = q + 1 := ⟨fuel - 1, by omega⟩
    refine ⟨M, ?_, hL, fr_refl _ _⟩
    rw [fX0_dropTiesOf_7, zdn0]
    exact if_pos (by decide)
  | succ i ih =>
    intro P M fuel hb hc hL hi hf
    obtain ⟨fu, rfl⟩ : ∃ q, fuel = q + 1 := ⟨fuel - 1, by omega⟩
    have h12 := hb.1
    have hbi := hb.2 i (by omega)
    have l1 := (hL.2.2.2.2 i (by omega)).1
    rw [Nat.zero_add] at l1
    rw [utF]
    by_cases c : tq (qw t) P i = true
    · obtain ⟨M1, e1, l2, f1⟩ := dropTie0 hb hc hL (i := i) (by omega)
      obtain ⟨M2, e2, l3, f2⟩ := ih (unP P i) M1 fu (unP_tb hb (by omega)) (fun u hu => by rw [unP_lo (by omega)]; exact hc u hu) l2 (by rw [unP_218]; omega) (by omega)
      refine ⟨M2, ?_, by rw [if_pos c]; exact l3, fr_trans (fr_mono f1 (fun c j a => by omega)) f2⟩
      rw [fX0_dropTiesOf_7, zdnS, ← e2]
      unfold tq qw at c
      simp only [Bool.or_eq_true, decide_eq_true_eq] at c
      by_cases z : t = 0
      · subst z
        simp (disch := omega) only [wr_cj, wr_nj, rng_in, rng_out, zN_lit, zN_add, zN_mul, zN_sub, zN_ltT, zN_ltF, zN_leT, zN_leF, zN_eqT, zN_eqF, zN_lt, zN_le, zN_eq, zN_nat, zN_oobF, Option.bind_some, ↓reduceIte, Nat.one_mul, Nat.zero_add, Nat.add_zero, Nat.reduceAdd, Nat.reduceMul, Nat.reduceSub, Nat.reduceLT, Nat.reduceLeDiff, Nat.reduceEqDiff, reduceCtorEq, true_or, or_true, false_or, or_false, true_and, and_true, false_and, and_false, not_true_eq_false, not_false_eq_true, wr_2, wrL_1, zm_eqF, zm_eqF', zm_lt, zm_lt', zm_le, zm_le', zm_sub1, zN_01, Nat.mul_zero, Nat.zero_mul, Nat.mul_one, Nat.sub_zero, Nat.sub_self, Nat.add_sub_cancel, e1, fX0_dropTiesOf_25, fX0_dropTiesOf_30]
      · have c' : P (219 + 3 * i) = t := by omega
        rw [c'] at l1
        simp (disch := omega) only [wr_cj, wr_nj, rng_in, rng_out, zN_lit, zN_add, zN_mul, zN_sub, zN_ltT, zN_ltF, zN_leT, zN_leF, zN_eqT, zN_eqF, zN_lt, zN_le, zN_eq, zN_nat, zN_oobF, Option.bind_some, ↓reduceIte, Nat.one_mul, Nat.zero_add, Nat.add_zero, Nat.reduceAdd, Nat.reduceMul, Nat.reduceSub, Nat.reduceLT, Nat.reduceLeDiff, Nat.reduceEqDiff, reduceCtorEq, true_or, or_true, false_or, or_false, true_and, and_true, false_and, and_false, not_true_eq_false, not_false_eq_true, wr_2, wrL_1, zm_eqF, zm_eqF', zm_lt, zm_lt', zm_le, zm_le', zm_sub1, zN_01, Nat.mul_zero, Nat.zero_mul, Nat.mul_one, Nat.sub_zero, Nat.sub_self, Nat.add_sub_cancel, l1, e1, fX0_dropTiesOf_25, fX0_dropTiesOf_30]
    · obtain ⟨M2, e2, l3, f2⟩ := ih P M fu hb hc hL (by omega) (by omega)
      refine ⟨M2, ?_, by rw [if_neg c]; exact l3, f2⟩
      rw [fX0_dropTiesOf_7, zdnS, ← e2]
      unfold tq qw at c
      simp only [Bool.or_eq_true, decide_eq_true_eq] at c
      simp (disch := omega) only [wr_cj, wr_nj, rng_in, rng_out, zN_lit, zN_add, zN_mul, zN_sub, zN_ltT, zN_ltF, zN_leT, zN_leF, zN_eqT, zN_eqF, zN_lt, zN_le, zN_eq, zN_nat, zN_oobF, Option.bind_some, ↓reduceIte, Nat.one_mul, Nat.zero_add, Nat.add_zero, Nat.reduceAdd, Nat.reduceMul, Nat.reduceSub, Nat.reduceLT, Nat.reduceLeDiff, Nat.reduceEqDiff, reduceCtorEq, true_or, or_true, false_or, or_false, true_and, and_true, false_and, and_false, not_true_eq_false, not_false_eq_true, wr_2, wrL_1, zm_eqF, zm_eqF', zm_lt, zm_lt', zm_le, zm_le', zm_sub1, zN_01, Nat.mul_zero, Nat.zero_mul, Nat.mul_one, Nat.sub_zero, Nat.sub_self, Nat.add_sub_cancel, l1, fX0_dropTiesOf_30]
theorem dropW7 {t : Nat} (ht : t < 3) (l : Int32) : ∀ i P M fuel, tb P → MNow M P → i ≤ P 218 → i < fuel →
    ∃ M', fX7_words_158 (zN t) fuel l (zN i + -zN 1) M = some (l, M') ∧ MNow M' (utF (qw t) i P) ∧ fr (fun c _ => c = 159) M M' := by
  intro i
  induction i with
  | zero =>
    intro P M fuel hb hM hi hf
    obtain ⟨fu, rfl⟩ : ∃ q, fuel = q + 1 := ⟨fuel - 1, by omega⟩
    refine ⟨M, ?_, hM, fr_refl _ _⟩
    rw [fX7_words_158, zdn0]
    exact if_pos (by decide)
  | succ i ih =>
    intro P M fuel hb hM hi hf
    obtain ⟨fu, rfl⟩ : ∃ q, fuel = q + 1 := ⟨fuel - 1, by omega⟩
    have h12 := hb.1
    have hbi := hb.2 i (by omega)
    have d0 := tied7 hM (i := i) (j := 0) (by omega)
    rw [Nat.add_zero] at d0
    rw [utF]
    by_cases c : tq (qw t) P i = true
    · obtain ⟨M1, e1, l2, f1⟩ := untie7 hb hM (i := i) (by omega)
      obtain ⟨M2, e2, l3, f2⟩ := ih (unP P i) M1 fu (unP_tb hb (by omega)) l2 (by rw [unP_218]; omega) (by omega)
      refine ⟨M2, ?_, by rw [if_pos c]; exact l3, fr_trans f1 f2⟩
      rw [fX7_words_158, zdnS, ← e2]
      unfold tq qw at c
      simp only [Bool.or_eq_true, decide_eq_true_eq] at c
      by_cases z : t = 0
      · subst z
        simp (disch := omega) only [wr_cj, wr_nj, rng_in, rng_out, zN_lit, zN_add, zN_mul, zN_sub, zN_ltT, zN_ltF, zN_leT, zN_leF, zN_eqT, zN_eqF, zN_lt, zN_le, zN_eq, zN_nat, zN_oobF, Option.bind_some, ↓reduceIte, Nat.one_mul, Nat.zero_add, Nat.add_zero, Nat.reduceAdd, Nat.reduceMul, Nat.reduceSub, Nat.reduceLT, Nat.reduceLeDiff, Nat.reduceEqDiff, reduceCtorEq, true_or, or_true, false_or, or_false, true_and, and_true, false_and, and_false, not_true_eq_false, not_false_eq_true, wr_2, wrL_1, zm_eqF, zm_eqF', zm_lt, zm_lt', zm_le, zm_le', zm_sub1, zN_01, Nat.mul_zero, Nat.zero_mul, Nat.mul_one, Nat.sub_zero, Nat.sub_self, Nat.add_sub_cancel, e1, fX7_words_176, fX7_words_181]
      · have c' : P (219 + 3 * i) = t := by omega
        rw [c'] at d0
        simp (disch := omega) only [wr_cj, wr_nj, rng_in, rng_out, zN_lit, zN_add, zN_mul, zN_sub, zN_ltT, zN_ltF, zN_leT, zN_leF, zN_eqT, zN_eqF, zN_lt, zN_le, zN_eq, zN_nat, zN_oobF, Option.bind_some, ↓reduceIte, Nat.one_mul, Nat.zero_add, Nat.add_zero, Nat.reduceAdd, Nat.reduceMul, Nat.reduceSub, Nat.reduceLT, Nat.reduceLeDiff, Nat.reduceEqDiff, reduceCtorEq, true_or, or_true, false_or, or_false, true_and, and_true, false_and, and_false, not_true_eq_false, not_false_eq_true, wr_2, wrL_1, zm_eqF, zm_eqF', zm_lt, zm_lt', zm_le, zm_le', zm_sub1, zN_01, Nat.mul_zero, Nat.zero_mul, Nat.mul_one, Nat.sub_zero, Nat.sub_self, Nat.add_sub_cancel, d0, e1, fX7_words_176, fX7_words_181]
    · obtain ⟨M2, e2, l3, f2⟩ := ih P M fu hb hM (by omega) (by omega)
      refine ⟨M2, ?_, by rw [if_neg c]; exact l3, f2⟩
      rw [fX7_words_158, zdnS, ← e2]
      unfold tq qw at c
      simp only [Bool.or_eq_true, decide_eq_true_eq] at c
      simp (disch := omega) only [wr_cj, wr_nj, rng_in, rng_out, zN_lit, zN_add, zN_mul, zN_sub, zN_ltT, zN_ltF, zN_leT, zN_leF, zN_eqT, zN_eqF, zN_lt, zN_le, zN_eq, zN_nat, zN_oobF, Option.bind_some, ↓reduceIte, Nat.one_mul, Nat.zero_add, Nat.add_zero, Nat.reduceAdd, Nat.reduceMul, Nat.reduceSub, Nat.reduceLT, Nat.reduceLeDiff, Nat.reduceEqDiff, reduceCtorEq, true_or, or_true, false_or, or_false, true_and, and_true, false_and, and_false, not_true_eq_false, not_false_eq_true, wr_2, wrL_1, zm_eqF, zm_eqF', zm_lt, zm_lt', zm_le, zm_le', zm_sub1, zN_01, Nat.mul_zero, Nat.zero_mul, Nat.mul_one, Nat.sub_zero, Nat.sub_self, Nat.add_sub_cancel, d0, fX7_words_181]
def hW (P : Nat → Nat) (T : List Nat) (t : Nat) : Nat → Nat := fun j => if j = 5 + t then T.length else if 8 + 70 * t ≤ j ∧ j < 78 + 70 * t then (if j - (8 + 70 * t) < T.length then tt T (j - (8 + 70 * t)) - 48 else 0) else P j
def wrP (P : Nat → Nat) (T : List Nat) (t : Nat) : Nat → Nat := ov (hW P T t) (utF (qw t) (P 218) P)
theorem hW_lo (P : Nat → Nat) (T : List Nat) {t j : Nat} (hj : j < 5) : hW P T t j = P j := by
  unfold hW; rw [if_neg (by omega), if_neg (by omega)]
theorem hW_c (P : Nat → Nat) (T : List Nat) {t u : Nat} (ht : t < 3) (hu : u < 3) : hW P T t (5 + u) = if u = t then T.length else P (5 + u) := by
  unfold hW
  by_cases e : u = t
  · rw [if_pos (by omega), if_pos e]
  · rw [if_neg (by omega), if_neg (by omega), if_neg e]
theorem hW_s (P : Nat → Nat) (T : List Nat) {t u m : Nat} (ht : t < 3) (hu : u < 3) (hm : m < 70) : hW P T t (8 + 70 * u + m) = if u = t then (if m < T.length then tt T m - 48 else 0) else P (8 + 70 * u + m) := by
  unfold hW
  by_cases e : u = t
  · subst e
    rw [if_neg (by omega), if_pos (by omega), if_pos rfl, show 8 + 70 * u + m - (8 + 70 * u) = m by omega]
  · rw [if_neg (by omega), if_neg (by omega), if_neg e]
theorem Good_wr {P : Nat → Nat} (hP : Good P) {T : List Nat} {t : Nat} (ht : t < 3) (hT : T.length ≤ 70) (hd : ∀ j, j < T.length → 49 ≤ tt T j ∧ tt T j ≤ 57) : Good (wrP P T t) := by
  obtain ⟨hb, hlo, hties⟩ := utF_ok (qw t) (P 218) P (Good_tb hP) (Nat.le_refl _) (fun i a b => absurd b (by omega))
  obtain ⟨h1, h2, h3, h4⟩ := hP
  have oh : ∀ j, 255 ≤ j → wrP P T t j = P j := fun j hj => by unfold wrP; rw [ov_hi (by omega)]; exact hlo j (by omega)
  have ol : ∀ j, j < 218 → wrP P T t j = hW P T t j := fun j hj => by unfold wrP; rw [ov_lo hj]
  have om : ∀ j, 218 ≤ j → wrP P T t j = utF (qw t) (P 218) P j := fun j hj => by unfold wrP; rw [ov_hi hj]
  refine ⟨?_, fun u hu => ?_, ?_, ?_⟩
  · rw [ol 0 (by omega), ol 1 (by omega), ol 2 (by omega), ol 3 (by omega), ol 4 (by omega), oh 255 (by omega), hW_lo P T (by omega), hW_lo P T (by omega), hW_lo P T (by omega), hW_lo P T (by omega), hW_lo P T (by omega)]
    exact h1
  · rw [ol _ (by omega), hW_c P T ht hu]
    have hu2 := h2 u hu
    refine ⟨by split <;> omega, fun m hm => ?_⟩
    unfold pSz
    by_cases e : u = t
    · rw [if_pos e] at hm
      rw [ol _ (by omega), hW_s P T ht hu (by omega), if_pos e, if_pos hm]
      have := hd m hm
      omega
    · rw [if_neg e] at hm
      rw [ol _ (by omega), hW_s P T ht hu (by omega), if_neg e]
      exact hu2.2 m hm
  · rw [om 218 (by omega)]
    refine ⟨hb.1, fun i hi => ?_⟩
    obtain ⟨hno, i', hi', e0, e1, e2⟩ := hties i hi
    have h := h3.2 i' hi'
    unfold tq at hno
    rw [e0] at hno
    unfold qw at hno
    simp only [Bool.or_eq_false_iff, decide_eq_false_iff_not] at hno
    have c5 : wrP P T t 5 = P 5 := by have := hW_c P T ht (u := 0) (by omega); rw [Nat.add_zero] at this; rw [ol 5 (by omega), this, if_neg (by omega)]
    have c6 : wrP P T t (5 + P (219 + 3 * i')) = P (5 + P (219 + 3 * i')) := by rw [ol _ (by omega), hW_c P T ht (by omega), if_neg hno.2]
    rw [om (219 + 3 * i) (by omega), om (220 + 3 * i) (by omega), om (221 + 3 * i) (by omega), e0, e1, e2, c5, c6]
    exact h
  · rw [oh 256 (by omega), oh 257 (by omega), oh 258 (by omega)]; exact h4
