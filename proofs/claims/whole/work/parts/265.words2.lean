/-! words read, both sides -/
theorem zme {e : Nat} : -zN 1 - zN e = -zN (e + 1) := by
  rw [zm_I, zm_I]; unfold zN; rw [zI_sub]; congr 1; omega
theorem zme_neg {e : Nat} (he : e < 1000) : -zN 1 - zN e < 0 := by
  rw [zme]; show -zN (e + 1) < zN 0; rw [zm_lt (by omega)]; trivial
theorem z00 {M : zMM} : ((zN 0, M) : Int32 × zMM).1 = 0 := rfl
theorem words0 {P : Nat → Nat} (hP : Good P) {T : List Nat} {t : Nat} (ht : t < 3) (hT : T.length ≤ 70) (hd : ∀ j, j < T.length → 49 ≤ tt T j ∧ tt T j ≤ 57) {M : zMM} (hL : Leaf M 0 P) (hM : CT T M) :
    ∃ M', ((fX0_dropTiesOf 0 (zN t) M).bind fun q2 => fX6_readWords_67 (zN t) zFU (zN 0) (wr q2 2 t (q2.1 153 1))) = some (zN T.length, M') ∧ Leaf M' 0 (wrP P T t) ∧ fr (fun c _ => CW c) M M' := by
  obtain ⟨hb, hlo, hties⟩ := utF_ok (qw t) (P 218) P (Good_tb hP) (Nat.le_refl _) (fun i a b => absurd b (by omega))
  have n6 : M.1 0 6 = zN (P 218) := hL.1.2.2.2.2.2.2
  have h12 := hP.2.2.1.1
  obtain ⟨M1, e1, l1, f1⟩ := dropW0 ht (P 218) P M zFU (Good_tb hP) (fun u hu => (hP.2.1 u hu).1) hL (Nat.le_refl _) (by rw [zFU_eq]; omega)
  have ed : fX0_dropTiesOf 0 (zN t) M = some M1 := by
    unfold fX0_dropTiesOf
    rw [n6, Int32.sub_eq_add_neg]
    exact e1
  have ct1 : CT T M1 := CT_fr hM (fun c j a => f1.1 c j (by omega))
  have t1 := ct1.1
  rw [ed, Option.bind_some, t1]
  have key := loopE (fun m (s : Nat × zMM) => fX6_readWords_67 (zN t) m (zN s.1) s.2) (fun i s => s.1 = i ∧ s.2.1 2 t = zN T.length ∧ (∀ j, j < i → s.2.1 (4 + t) j = zN (tt T j - 48)) ∧ fr (fun c j => (c = 2 ∧ j = t) ∨ c = 4 + t) M1 s.2) T.length (fun r => ∃ M', r = some (zN T.length, M') ∧ M'.1 2 t = zN T.length ∧ (∀ j, j < T.length → M'.1 (4 + t) j = zN (tt T j - 48)) ∧ fr (fun c j => (c = 2 ∧ j = t) ∨ c = 4 + t) M1 M')
    (by
      rintro i m ⟨i0, M'⟩ hi ⟨rfl, h1, h2, h3⟩
      dsimp only at h1 h2 h3 hi ⊢
      right
      have ct' : CT T M' := CT_fr ct1 (fun c j a => h3.1 c j (by omega))
      have c1 := ct'.1
      have hdi := hd i0 hi
      have dg := digitT (by omega) ct' (i := i0) ⟨hi, by omega, by omega⟩
      have it := isText6T ht M'
      have hwd : fX0_hasWord 0 (zN t) (zN i0) M' = some (zN 1, M') := by unfold fX0_hasWord; simp (disch := omega) only [wr_cj, wr_nj, rng_in, rng_out, zN_lit, zN_add, zN_mul, zN_sub, zN_ltT, zN_ltF, zN_leT, zN_leF, zN_eqT, zN_eqF, zN_lt, zN_le, zN_eq, zN_nat, zN_oobF, Option.bind_some, ↓reduceIte, Nat.one_mul, Nat.zero_add, Nat.add_zero, Nat.reduceAdd, Nat.reduceMul, Nat.reduceSub, Nat.reduceLT, Nat.reduceLeDiff, Nat.reduceEqDiff, reduceCtorEq, true_or, or_true, false_or, or_false, true_and, and_true, false_and, and_false, not_true_eq_false, not_false_eq_true, wr_2, wrL_1, zm_eqF, zm_eqF', zm_lt, zm_lt', zm_le, zm_le', zm_sub1, zN_01, Nat.mul_zero, Nat.zero_mul, Nat.mul_one, Nat.sub_zero, Nat.sub_self, Nat.add_sub_cancel, it, h1]
      by_cases q : M'.1 (4 + t) i0 = zN (tt T i0 - 48)
      · refine ⟨(i0 + 1, M'), ?_, rfl, h1, ?_, h3⟩
        · have ss : fX0_setSize 0 (zN t) (zN i0) (zN (tt T i0 - 48)) M' = some (zN 0, M') := by unfold fX0_setSize; simp (disch := omega) only [wr_cj, wr_nj, rng_in, rng_out, zN_lit, zN_add, zN_mul, zN_sub, zN_ltT, zN_ltF, zN_leT, zN_leF, zN_eqT, zN_eqF, zN_lt, zN_le, zN_eq, zN_nat, zN_oobF, Option.bind_some, ↓reduceIte, Nat.one_mul, Nat.zero_add, Nat.add_zero, Nat.reduceAdd, Nat.reduceMul, Nat.reduceSub, Nat.reduceLT, Nat.reduceLeDiff, Nat.reduceEqDiff, reduceCtorEq, true_or, or_true, false_or, or_false, true_and, and_true, false_and, and_false, not_true_eq_false, not_false_eq_true, wr_2, wrL_1, zm_eqF, zm_eqF', zm_lt, zm_lt', zm_le, zm_le', zm_sub1, zN_01, Nat.mul_zero, Nat.zero_mul, Nat.mul_one, Nat.sub_zero, Nat.sub_self, Nat.add_sub_cancel, hwd, q]
          rw [fX6_readWords_67]; simp (disch := omega) only [wr_cj, wr_nj, rng_in, rng_out, zN_lit, zN_add, zN_mul, zN_sub, zN_ltT, zN_ltF, zN_leT, zN_leF, zN_eqT, zN_eqF, zN_lt, zN_le, zN_eq, zN_nat, zN_oobF, Option.bind_some, ↓reduceIte, Nat.one_mul, Nat.zero_add, Nat.add_zero, Nat.reduceAdd, Nat.reduceMul, Nat.reduceSub, Nat.reduceLT, Nat.reduceLeDiff, Nat.reduceEqDiff, reduceCtorEq, true_or, or_true, false_or, or_false, true_and, and_true, false_and, and_false, not_true_eq_false, not_false_eq_true, wr_2, wrL_1, zm_eqF, zm_eqF', zm_lt, zm_lt', zm_le, zm_le', zm_sub1, zN_01, Nat.mul_zero, Nat.zero_mul, Nat.mul_one, Nat.sub_zero, Nat.sub_self, Nat.add_sub_cancel, c1, dg, ss]
        · intro j hj
          by_cases e : j = i0
          · rw [e]; exact q
          · exact h2 j (by omega)
      · refine ⟨(i0 + 1, wr M' (4 + t) i0 (zN (tt T i0 - 48))), ?_, rfl, by rw [wr_nj (by omega)]; exact h1, ?_, fr_wr h3 (by omega)⟩
        · have ss : fX0_setSize 0 (zN t) (zN i0) (zN (tt T i0 - 48)) M' = some (zN 1, wr M' (4 + t) i0 (zN (tt T i0 - 48))) := by unfold fX0_setSize; simp (disch := omega) only [wr_cj, wr_nj, rng_in, rng_out, zN_lit, zN_add, zN_mul, zN_sub, zN_ltT, zN_ltF, zN_leT, zN_leF, zN_eqT, zN_eqF, zN_lt, zN_le, zN_eq, zN_nat, zN_oobF, Option.bind_some, ↓reduceIte, Nat.one_mul, Nat.zero_add, Nat.add_zero, Nat.reduceAdd, Nat.reduceMul, Nat.reduceSub, Nat.reduceLT, Nat.reduceLeDiff, Nat.reduceEqDiff, reduceCtorEq, true_or, or_true, false_or, or_false, true_and, and_true, false_and, and_false, not_true_eq_false, not_false_eq_true, wr_2, wrL_1, zm_eqF, zm_eqF', zm_lt, zm_lt', zm_le, zm_le', zm_sub1, zN_01, Nat.mul_zero, Nat.zero_mul, Nat.mul_one, Nat.sub_zero, Nat.sub_self, Nat.add_sub_cancel, hwd, q]
          rw [fX6_readWords_67]; simp (disch := omega) only [wr_cj, wr_nj, rng_in, rng_out, zN_lit, zN_add, zN_mul, zN_sub, zN_ltT, zN_ltF, zN_leT, zN_leF, zN_eqT, zN_eqF, zN_lt, zN_le, zN_eq, zN_nat, zN_oobF, Option.bind_some, ↓reduceIte, Nat.one_mul, Nat.zero_add, Nat.add_zero, Nat.reduceAdd, Nat.reduceMul, Nat.reduceSub, Nat.reduceLT, Nat.reduceLeDiff, Nat.reduceEqDiff, reduceCtorEq, true_or, or_true, false_or, or_false, true_and, and_true, false_and, and_false, not_true_eq_false, not_false_eq_true, wr_2, wrL_1, zm_eqF, zm_eqF', zm_lt, zm_lt', zm_le, zm_le', zm_sub1, zN_01, Nat.mul_zero, Nat.zero_mul, Nat.mul_one, Nat.sub_zero, Nat.sub_self, Nat.add_sub_cancel, c1, dg, ss]
        · intro j hj
          by_cases e : j = i0
          · rw [e]; exact wr_cj _ _ _ _
          · show (wr M' (4 + t) i0 (zN (tt T i0 - 48))).1 (4 + t) j = _
            rw [wr_nj (by omega)]; exact h2 j (by omega))
    (by
      rintro m ⟨i0, M'⟩ ⟨rfl, h1, h2, h3⟩
      dsimp only at h1 h2 h3 ⊢
      have ct' : CT T M' := CT_fr ct1 (fun c j a => h3.1 c j (by omega))
      have c1 := ct'.1
      refine ⟨M', ?_, h1, h2, h3⟩
      rw [fX6_readWords_67]; simp (disch := omega) only [wr_cj, wr_nj, rng_in, rng_out, zN_lit, zN_add, zN_mul, zN_sub, zN_ltT, zN_ltF, zN_leT, zN_leF, zN_eqT, zN_eqF, zN_lt, zN_le, zN_eq, zN_nat, zN_oobF, Option.bind_some, ↓reduceIte, Nat.one_mul, Nat.zero_add, Nat.add_zero, Nat.reduceAdd, Nat.reduceMul, Nat.reduceSub, Nat.reduceLT, Nat.reduceLeDiff, Nat.reduceEqDiff, reduceCtorEq, true_or, or_true, false_or, or_false, true_and, and_true, false_and, and_false, not_true_eq_false, not_false_eq_true, wr_2, wrL_1, zm_eqF, zm_eqF', zm_lt, zm_lt', zm_le, zm_le', zm_sub1, zN_01, Nat.mul_zero, Nat.zero_mul, Nat.mul_one, Nat.sub_zero, Nat.sub_self, Nat.add_sub_cancel, c1])
    zFU (0, wr M1 2 t (zN T.length)) (by rw [zFU_eq]; omega) ⟨rfl, wr_cj _ _ _ _, fun j hj => absurd hj (by omega), fr_wr (fr_refl _ _) (by omega)⟩
  obtain ⟨M2, e2, k1, k2, k3⟩ := key
  refine ⟨M2, e2, ?_, fr_trans (fr_mono f1 (fun c j a => by unfold CW; omega)) (fr_mono k3 (fun c j a => by unfold CW; omega))⟩
  unfold wrP
  refine Leaf_ov l1 (fun j hj => by rw [hW_lo P T hj, hlo j (by omega)]) hb.1 (fr_mono k3 (fun c j a => by omega)) (fun u hu => ?_) (fun u hu => ?_) (fun u hu m hm => ?_)
  · rw [hW_c P T ht hu]
    by_cases e : u = t
    · rw [if_pos e, e]; exact k1
    · rw [if_neg e, k3.1 _ _ (by omega), l1.2.2.1 u hu, hlo _ (by omega)]
  · rw [hW_c P T ht hu]
    have := (hP.2.1 u hu).1
    split <;> omega
  · rw [hW_c P T ht hu] at hm
    have hu2 := (hP.2.1 u hu).1
    have hm70 : m < 70 := by split at hm <;> omega
    rw [hW_s P T ht hu hm70]
    by_cases e : u = t
    · rw [if_pos e] at hm ⊢
      rw [if_pos hm, e, Nat.zero_add]; exact k2 m hm
    · rw [if_neg e] at hm ⊢
      have := l1.2.2.2.1 u hu m (by rw [hlo _ (by omega)]; exact hm)
      unfold pSz at this
      rw [hlo _ (by omega)] at this
      rw [k3.1 _ _ (by omega)]; exact this
theorem words7 {P : Nat → Nat} (hP : Good P) {T : List Nat} {t : Nat} (ht : t < 3) (hT : T.length ≤ 70) {M : zMM} (hM : MNow M P) (h162 : ∀ j, j < T.length → M.1 162 j = zN (tt T j - 48)) :
    ∃ M', fX7_words_106 (zN t) zFU (zN T.length) (zN 0) (wr M 159 (5 + t) (zN T.length)) = some (zN T.length, M') ∧ MNow M' (wrP P T t) ∧ fr (fun c _ => c = 159) M M' := by
  have h12 := hP.2.2.1.1
  have key := loopE (fun m (s : Nat × zMM) => fX7_words_106 (zN t) m (zN T.length) (zN s.1) s.2) (fun i s => s.1 = i ∧ (∀ j, j < i → s.2.1 159 (8 + 70 * t + j) = zN (if j < T.length then tt T j - 48 else 0)) ∧ fr (fun c j => c = 159 ∧ 8 + 70 * t ≤ j ∧ j < 78 + 70 * t) (wr M 159 (5 + t) (zN T.length)) s.2) 70 (fun r => ∃ M', r = fX7_words_158 (zN t) zFU (zN T.length) (M'.1 159 218 - zN 1) M' ∧ (∀ j, j < 70 → M'.1 159 (8 + 70 * t + j) = zN (if j < T.length then tt T j - 48 else 0)) ∧ fr (fun c j => c = 159 ∧ 8 + 70 * t ≤ j ∧ j < 78 + 70 * t) (wr M 159 (5 + t) (zN T.length)) M')
    (by
      rintro i m ⟨i0, M'⟩ hi ⟨rfl, h1, h2⟩
      dsimp only at h1 h2 hi ⊢
      right
      refine ⟨(i0 + 1, wr M' 159 (8 + 70 * t + i0) (zN (if i0 < T.length then tt T i0 - 48 else 0))), ?_, rfl, ?_, fr_wr h2 (by omega)⟩
      · by_cases c : i0 < T.length
        · have r := h2.1 162 i0 (by omega)
          rw [wr_nj (by omega), h162 i0 c] at r
          rw [fX7_words_106, if_pos c]
          simp (disch := omega) only [wr_cj, wr_nj, rng_in, rng_out, zN_lit, zN_add, zN_mul, zN_sub, zN_ltT, zN_ltF, zN_leT, zN_leF, zN_eqT, zN_eqF, zN_lt, zN_le, zN_eq, zN_nat, zN_oobF, Option.bind_some, ↓reduceIte, Nat.one_mul, Nat.zero_add, Nat.add_zero, Nat.reduceAdd, Nat.reduceMul, Nat.reduceSub, Nat.reduceLT, Nat.reduceLeDiff, Nat.reduceEqDiff, reduceCtorEq, true_or, or_true, false_or, or_false, true_and, and_true, false_and, and_false, not_true_eq_false, not_false_eq_true, wr_2, wrL_1, zm_eqF, zm_eqF', zm_lt, zm_lt', zm_le, zm_le', zm_sub1, zN_01, Nat.mul_zero, Nat.zero_mul, Nat.mul_one, Nat.sub_zero, Nat.sub_self, Nat.add_sub_cancel, r, fX7_words_140]
        · rw [fX7_words_106, if_neg c]
          simp (disch := omega) only [wr_cj, wr_nj, rng_in, rng_out, zN_lit, zN_add, zN_mul, zN_sub, zN_ltT, zN_ltF, zN_leT, zN_leF, zN_eqT, zN_eqF, zN_lt, zN_le, zN_eq, zN_nat, zN_oobF, Option.bind_some, ↓reduceIte, Nat.one_mul, Nat.zero_add, Nat.add_zero, Nat.reduceAdd, Nat.reduceMul, Nat.reduceSub, Nat.reduceLT, Nat.reduceLeDiff, Nat.reduceEqDiff, reduceCtorEq, true_or, or_true, false_or, or_false, true_and, and_true, false_and, and_false, not_true_eq_false, not_false_eq_true, wr_2, wrL_1, zm_eqF, zm_eqF', zm_lt, zm_lt', zm_le, zm_le', zm_sub1, zN_01, Nat.mul_zero, Nat.zero_mul, Nat.mul_one, Nat.sub_zero, Nat.sub_self, Nat.add_sub_cancel, fX7_words_140]
      · intro j hj
        show (wr M' 159 (8 + 70 * t + i0) (zN (if i0 < T.length then tt T i0 - 48 else 0))).1 159 (8 + 70 * t + j) = _
        by_cases e : j = i0
        · rw [e, wr_cj]
        · rw [wr_nj (by omega)]; exact h1 j (by omega))
    (by
      rintro m ⟨i0, M'⟩ ⟨rfl, h1, h2⟩
      dsimp only at h1 h2 ⊢
      refine ⟨M', ?_, h1, h2⟩
      rw [fX7_words_106]; simp (disch := omega) only [wr_cj, wr_nj, rng_in, rng_out, zN_lit, zN_add, zN_mul, zN_sub, zN_ltT, zN_ltF, zN_leT, zN_leF, zN_eqT, zN_eqF, zN_lt, zN_le, zN_eq, zN_nat, zN_oobF, Option.bind_some, ↓reduceIte, Nat.one_mul, Nat.zero_add, Nat.add_zero, Nat.reduceAdd, Nat.reduceMul, Nat.reduceSub, Nat.reduceLT, Nat.reduceLeDiff, Nat.reduceEqDiff, reduceCtorEq, true_or, or_true, false_or, or_false, true_and, and_true, false_and, and_false, not_true_eq_false, not_false_eq_true, wr_2, wrL_1, zm_eqF, zm_eqF', zm_lt, zm_lt', zm_le, zm_le', zm_sub1, zN_01, Nat.mul_zero, Nat.zero_mul, Nat.mul_one, Nat.sub_zero, Nat.sub_self, Nat.add_sub_cancel])
    zFU (0, wr M 159 (5 + t) (zN T.length)) (by rw [zFU_eq]; omega) ⟨rfl, fun j hj => absurd hj (by omega), fr_refl _ _⟩
  obtain ⟨M1, e1, k1, k2⟩ := key
  have m1 : MNow M1 (ov (hW P T t) P) := by
    refine MNow_ov hM (fun j hj => ?_) (fun j hj => ?_)
    · unfold hW
      by_cases c1 : j = 5 + t
      · rw [if_pos c1, k2.1 _ _ (by omega), c1, wr_cj]
      · rw [if_neg c1]
        by_cases c2 : 8 + 70 * t ≤ j ∧ j < 78 + 70 * t
        · rw [if_pos c2]
          have := k1 (j - (8 + 70 * t)) (by omega)
          rw [show 8 + 70 * t + (j - (8 + 70 * t)) = j by omega] at this
          exact this
        · rw [if_neg c2, k2.1 _ _ (by omega), wr_nj (by omega)]; exact hM j (by omega)
    · rw [k2.1 _ _ (by omega), wr_nj (by omega)]
  have tbo := ov_tb (h := hW P T t) (Good_tb hP)
  have o8 : ov (hW P T t) P 218 = P 218 := ov_hi (by omega)
  obtain ⟨M2, e2, m2, f2⟩ := dropW7 ht (zN T.length) (P 218) (ov (hW P T t) P) M1 zFU tbo m1 (by omega) (by rw [zFU_eq]; omega)
  rw [utF_ov] at m2
  have g8 := m1 218 (by omega)
  rw [o8] at g8
  refine ⟨M2, ?_, m2, fr_trans (fr_trans (fr_wr (fr_refl _ _) (by omega)) (fr_mono k2 (fun c j a => by omega))) f2⟩
  refine Eq.trans e1 ?_
  rw [g8, Int32.sub_eq_add_neg]; exact e2
theorem call_words (x : Int32) : Cll (fX6_words x) (fX7_words x) := by
  refine Cll_of (fun P T R U K hw => ?_)
  have hP := hw.1
  have hU := hw.2.2.2.1.1
  have hT := hw.2.1.1
  have hb : ∀ i, i < T.length → tt T i < 256 := hw.2.1.2
  have hwn : WF P [] R U K := ⟨hP, ⟨by simp, fun i hi => absurd hi (by simp)⟩, hw.2.2⟩
  rcases text_case x with ⟨t, ht, rfl⟩ | hx
  · have ec : fX6_words (zN t) = fun M => (fX1_mark 0 M).bind fun q1 => (fX6_readWords (zN t) q1).bind fun q2 => (fX5_clear q2.2).bind fun q3 => (fX6_remembered q2.1 q3).bind fun q4 => some (q4.1, q4.2) := by
      funext M
      unfold fX6_words
      congr 1
      funext q1
      rw [isText6T ht q1, Option.bind_some, if_neg nz10']
      rfl
    have em : ∀ M M1, fX7_begin (wr M 158 5 0) = some M1 → fX7_words (zN t) M = fX7_words_20 (zN t) zFU (zN 0) M1 := by
      intro M M1 e
      unfold fX7_words
      rw [e, Option.bind_some, isText7T ht M1, Option.bind_some, if_neg nz10']
      rfl
    rcases words_chk hT hb ht T.length 0 (by omega) (by omega) (by omega) with ⟨h0, h1, h2, h3⟩ | ⟨e, he, h2, h3⟩
    · have hd : ∀ j, j < T.length → 49 ≤ tt T j ∧ tt T j ≤ 57 := fun j hj => h1 j (by omega) hj
      refine ⟨zN T.length, wrP P T t, [], R, (P :: U).take 7, K, WF_chg hwn (Good_wr hP ht h0 hd), ?_, fun M hM => ?_⟩
      · rw [ec]
        refine (LT_CD hw (fun M hL hM => ?_)).2 (zN_nn (by omega))
        obtain ⟨M', e1, l1, f1⟩ := words0 hP ht h0 hd hL hM
        refine ⟨M', ?_, l1, f1⟩
        rw [← e1]
        exact h2 M zFU (by rw [zFU_eq]; omega) hM
      · obtain ⟨M1, e1, i1, t1, f1⟩ := begin7 hM
        obtain ⟨M2, e2, t2, -, k2, f2⟩ := h3 M1 zFU (by rw [zFU_eq]; omega) t1
        have i2 : MI P [] R U K M2 := MI_sc i1 f2 (fun c j a => by unfold MSc; omega)
        obtain ⟨M3, e3, i3, f3⟩ := chg7 hU i2
        obtain ⟨M4, e4, n4, f4⟩ := words7 hP ht h0 i3.1 (fun j hj => by rw [f3.1 _ _ (by omega)]; exact k2 j (by omega) hj)
        refine ⟨M4, ?_, MI_now i3 f4 n4, frM_trans f1 (frM_trans (frM_fr f2 (fun c j a => by omega)) (frM_trans (frM_fr f3 (fun c j a => by omega)) (frM_fr f4 (fun c j a => by omega))))⟩
        rw [em M M1 e1, e2]
        unfold fX7_words_77
        rw [rightT hT t2, Option.bind_some, if_neg nz10', e3, Option.bind_some, if_neg (by show ¬ oob (zN 5 + zN t) 259; rw [zN_add, zN_oobF (by omega)]; exact id)]
        show fX7_words_106 (zN t) zFU (zN T.length) (zN 0) (wr M3 159 (Int32.toNatClampNeg (zN 5 + zN t)) (zN T.length)) = _
        rw [zN_add, zN_nat (by omega)]
        exact e4
    · refine ⟨-zN 1 - zN e, P, [], R, U, K, hwn, ?_, fun M hM => ?_⟩
      · rw [ec]
        refine (LT_CD (P' := P) hw (fun M hL hM => ?_)).1 (zme_neg (by omega)) rfl
        exact ⟨M, h2 M zFU (by rw [zFU_eq]; omega) hM, hL, fr_refl _ _⟩
      · obtain ⟨M1, e1, i1, t1, f1⟩ := begin7 hM
        obtain ⟨M2, l, e2, k2, f2⟩ := h3 M1 zFU (by rw [zFU_eq]; omega) t1
        have i2 : MI P [] R U K M2 := MI_sc i1 f2 (fun c j a => by unfold MSc; omega)
        refine ⟨M2, ?_, i2, frM_trans f1 (frM_fr f2 (fun c j a => by omega))⟩
        rw [em M M1 e1, e2]
        unfold fX7_words_77
        rw [rightF k2 (by omega), Option.bind_some, if_pos z00]
        dsimp only
        rw [k2]; rfl
  · refine ⟨-zN 1, P, [], R, U, K, hwn, ?_, fun M hM => ?_⟩
    · have ec : fX6_words x = fun M => (fX1_mark 0 M).bind fun q1 => (some (-zN 1, q1) : Option (Int32 × zMM)).bind fun q2 => (fX5_clear q2.2).bind fun q3 => (fX6_remembered q2.1 q3).bind fun q4 => some (q4.1, q4.2) := by
        funext M
        unfold fX6_words
        congr 1
        funext q1
        rw [(hx q1).1, Option.bind_some, if_pos z00]
        rfl
      rw [ec]
      exact (LT_CD (f := fun M => some (-zN 1, M)) (P' := P) hw (fun M hL hM => ⟨M, rfl, hL, fr_refl _ _⟩)).1 (by decide) rfl
    · obtain ⟨M1, e1, i1, t1, f1⟩ := begin7 hM
      refine ⟨M1, ?_, i1, f1⟩
      unfold fX7_words
      rw [e1, Option.bind_some, (hx M1).2, Option.bind_some, if_pos z00]
      rfl
