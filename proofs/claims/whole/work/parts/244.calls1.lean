/-! calls that don't set -/
theorem MI_th {P : Nat → Nat} {T : List Nat} {R : List Int64} {U : List (Nat → Nat)} {K : Nat → Option (Nat → Nat)} {M : zMM} {v : Int32} (h : MI P T R U K M) : MI P T R U K (wr M 158 5 v) :=
  MI_sc h (fr_wr (S := fun c j => c = 158 ∧ j = 5) (fr_refl _ _) ⟨rfl, rfl⟩) (fun c j hc => by unfold MSc; omega)
theorem frM_th (M : zMM) (v : Int32) : frM M (wr M 158 5 v) := frM_fr (fr_wr (S := fun c j => c = 158 ∧ j = 5) (fr_refl _ _) ⟨rfl, rfl⟩) (fun c j hc => by omega)
theorem MI_now {P P' : Nat → Nat} {T : List Nat} {R : List Int64} {U : List (Nat → Nat)} {K : Nat → Option (Nat → Nat)} {M M' : zMM} (h : MI P T R U K M) (f : fr (fun c _ => c = 159) M M') (hn : MNow M' P') : MI P' T R U K M' := by
  obtain ⟨h1, h2, h3, h4, h5⟩ := h
  exact ⟨hn, MT_fr h2 (f.1 _ _ (by omega)) (fun j => f.1 _ _ (by omega)), MR_fr h3 (f.1 _ _ (by omega)) (fun j => by rw [f.2]), MU_fr h4 (f.1 _ _ (by omega)) (fun j => f.1 _ _ (by omega)), MKp_fr h5 (fun c j a => f.1 c j (by omega))⟩
theorem chg7 {P : Nat → Nat} {T : List Nat} {R : List Int64} {U : List (Nat → Nat)} {K : Nat → Option (Nat → Nat)} {M : zMM} (hl : U.length ≤ 7) (h : MI P T R U K M) :
    ∃ M', fX7_change M = some M' ∧ MI P T R ((P :: U).take 7) K M' ∧ fr (fun c j => c = 170 ∨ c = 171 ∨ (c = 158 ∧ j = 24)) M M' := by
  obtain ⟨h1, h2, h3, h4, h5⟩ := h
  obtain ⟨M', e, u, f⟩ := change7 hl h1 h4
  exact ⟨M', e, ⟨fun i hi => by rw [f.1 _ _ (by omega)]; exact h1 i hi, MT_fr h2 (f.1 _ _ (by omega)) (fun j => f.1 _ _ (by omega)), MR_fr h3 (f.1 _ _ (by omega)) (fun j => by rw [f.2]), u, MKp_fr h5 (fun c j a => f.1 c j (by omega))⟩, f⟩
theorem WF_chg {P P' : Nat → Nat} {T : List Nat} {R : List Int64} {U : List (Nat → Nat)} {K : Nat → Option (Nat → Nat)} (h : WF P T R U K) (hP : Good P') : WF P' T R ((P :: U).take 7) K := by
  obtain ⟨h1, h2, h3, h4, h5⟩ := h
  refine ⟨hP, h2, h3, ⟨by rw [List.length_take]; omega, ?_⟩, h5⟩
  intro Q hQ
  rcases List.mem_cons.mp (List.mem_of_mem_take hQ) with e | e
  · rw [e]; exact h1
  · exact h4.2 Q e
/-- nothing is done -/
theorem CD_no {g : zMM → Option (Int32 × zMM)} {P : Nat → Nat} {T : List Nat} {R : List Int64} {U : List (Nat → Nat)} {K : Nat → Option (Nat → Nat)} {r : Int32} (h : ∀ M, CI P T R U K M → g M = some (r, M)) : CD g P T R U K r P T R U K :=
  fun M hM => ⟨M, h M hM, hM, frC_refl M⟩
theorem MD_no {g : zMM → Option (Int32 × zMM)} {P : Nat → Nat} {T : List Nat} {R : List Int64} {U : List (Nat → Nat)} {K : Nat → Option (Nat → Nat)} {r : Int32} (h : ∀ M, MI P T R U K M → g M = some (r, wr M 158 5 (zN 0))) : MD g P T R U K r P T R U K :=
  fun M hM => ⟨_, h M hM, MI_th hM, frM_th M _⟩
theorem zb01 {a : Nat} (h : a = 0 ∨ a = 1) : (zN a = zN 0 ∨ zN a = zN 1) = True := by rcases h with rfl | rfl <;> simp
theorem call_end (x : Int32) : Cll (fX6_end x) (fX7_end x) := by
  refine Cll_of (fun P T R U K hw => ?_)
  have hT := hw.2.1.1
  rcases zcaseR x 0 T.length with ⟨n, -, hn, rfl⟩ | hx | ⟨n, hn, rfl, hnn⟩
  · refine ⟨zN 1, P, T.take n, R, U, K, ⟨hw.1, ⟨by rw [List.length_take]; omega, ?_⟩, hw.2.2⟩, ?_, ?_⟩
    · intro i hi
      rw [List.length_take] at hi
      have := hw.2.1.2 i (by omega)
      rw [List.getD_eq_getElem?_getD] at this ⊢
      rw [List.getElem?_take_of_lt (by omega)]; exact this
    · rintro M ⟨h1, h2, h3, ⟨q, h4⟩, h5⟩
      have l := h2.1
      refine ⟨wr M 153 1 (zN n), ?_, ⟨Leaf_eq h1 (fun c j a b => wr_nj (by omega)), ⟨by rw [wr_cj, List.length_take, Nat.min_eq_left hn], ?_⟩, CR_fr h3 (fun j => wr_nj (by omega)) (fun j => rfl), ⟨q, CU_fr h4 (fun c j a => wr_nj (by omega)) hw.2.2.2.1.1⟩, CKp_fr h5 (fun c j a => wr_nj (by omega))⟩, frC_fr (fr_wr (S := fun c _ => c = 153) (fr_refl _ _) rfl) (fun c j a => by omega)⟩
      · unfold fX6_end fX5_cut; simp (disch := omega) only [wr_cj, wr_nj, rng_in, rng_out, zN_lit, zN_add, zN_mul, zN_sub, zN_ltT, zN_ltF, zN_leT, zN_leF, zN_eqT, zN_eqF, zN_lt, zN_le, zN_eq, zN_nat, zN_oobF, Option.bind_some, ↓reduceIte, Nat.one_mul, Nat.zero_add, Nat.add_zero, Nat.reduceAdd, Nat.reduceMul, Nat.reduceSub, Nat.reduceLT, Nat.reduceLeDiff, Nat.reduceEqDiff, reduceCtorEq, true_or, or_true, false_or, or_false, true_and, and_true, false_and, and_false, not_true_eq_false, not_false_eq_true, wr_2, wrL_1, zm_eqF, zm_eqF', zm_lt, zm_lt', zm_le, zm_le', zm_sub1, zN_01, Nat.mul_zero, Nat.zero_mul, Nat.mul_one, Nat.sub_zero, Nat.sub_self, Nat.add_sub_cancel, l]
      · intro i hi
        rw [List.length_take] at hi
        rw [wr_nj (by omega), h2.2 i (by omega), List.getD_eq_getElem?_getD, List.getD_eq_getElem?_getD, List.getElem?_take_of_lt (by omega)]
    · rintro M ⟨h1, h2, h3, h4, h5⟩
      have l := h2.1
      have f : fr (fun c j => c = 158 ∧ (j = 5 ∨ j = 2)) M (wr (wr M 158 5 (zN 0)) 158 2 (zN n)) := fr_wr (fr_wr (fr_refl _ _) (by omega)) (by omega)
      refine ⟨wr (wr M 158 5 (zN 0)) 158 2 (zN n), ?_, ⟨fun i hi => by rw [f.1 _ _ (by omega)]; exact h1 i hi, ⟨by rw [wr_cj, List.length_take, Nat.min_eq_left hn], ?_⟩, MR_fr h3 (f.1 _ _ (by omega)) (fun j => rfl), MU_fr h4 (f.1 _ _ (by omega)) (fun j => f.1 _ _ (by omega)), MKp_fr h5 (fun c j a => f.1 c j (by omega))⟩, frM_fr f (fun c j a => by omega)⟩
      · have t := in7T (a := n) (lo := 0) (hi := T.length) (by omega) (wr M 158 5 (zN 0))
        unfold fX7_end; simp (disch := omega) only [wr_cj, wr_nj, rng_in, rng_out, zN_lit, zN_add, zN_mul, zN_sub, zN_ltT, zN_ltF, zN_leT, zN_leF, zN_eqT, zN_eqF, zN_lt, zN_le, zN_eq, zN_nat, zN_oobF, Option.bind_some, ↓reduceIte, Nat.one_mul, Nat.zero_add, Nat.add_zero, Nat.reduceAdd, Nat.reduceMul, Nat.reduceSub, Nat.reduceLT, Nat.reduceLeDiff, Nat.reduceEqDiff, reduceCtorEq, true_or, or_true, false_or, or_false, true_and, and_true, false_and, and_false, not_true_eq_false, not_false_eq_true, wr_2, wrL_1, zm_eqF, zm_eqF', zm_lt, zm_lt', zm_le, zm_le', zm_sub1, zN_01, Nat.mul_zero, Nat.zero_mul, Nat.mul_one, Nat.sub_zero, Nat.sub_self, Nat.add_sub_cancel, l, t]
      · intro i hi
        rw [List.length_take] at hi
        rw [f.1 _ _ (by omega), h2.2 i (by omega), List.getD_eq_getElem?_getD, List.getD_eq_getElem?_getD, List.getElem?_take_of_lt (by omega)]
  · refine ⟨zN 0, P, T, R, U, K, hw, CD_no (fun M hM => ?_), MD_no (fun M hM => ?_)⟩
    · unfold fX6_end fX5_cut; simp (disch := omega) only [wr_cj, wr_nj, rng_in, rng_out, zN_lit, zN_add, zN_mul, zN_sub, zN_ltT, zN_ltF, zN_leT, zN_leF, zN_eqT, zN_eqF, zN_lt, zN_le, zN_eq, zN_nat, zN_oobF, Option.bind_some, ↓reduceIte, Nat.one_mul, Nat.zero_add, Nat.add_zero, Nat.reduceAdd, Nat.reduceMul, Nat.reduceSub, Nat.reduceLT, Nat.reduceLeDiff, Nat.reduceEqDiff, reduceCtorEq, true_or, or_true, false_or, or_false, true_and, and_true, false_and, and_false, not_true_eq_false, not_false_eq_true, wr_2, wrL_1, zm_eqF, zm_eqF', zm_lt, zm_lt', zm_le, zm_le', zm_sub1, zN_01, Nat.mul_zero, Nat.zero_mul, Nat.mul_one, Nat.sub_zero, Nat.sub_self, Nat.add_sub_cancel, zg_lt hx]
    · have l := hM.2.1.1
      have t := in7g hx (lo := 0) (by omega) (zN T.length) (wr M 158 5 (zN 0))
      unfold fX7_end; simp (disch := omega) only [wr_cj, wr_nj, rng_in, rng_out, zN_lit, zN_add, zN_mul, zN_sub, zN_ltT, zN_ltF, zN_leT, zN_leF, zN_eqT, zN_eqF, zN_lt, zN_le, zN_eq, zN_nat, zN_oobF, Option.bind_some, ↓reduceIte, Nat.one_mul, Nat.zero_add, Nat.add_zero, Nat.reduceAdd, Nat.reduceMul, Nat.reduceSub, Nat.reduceLT, Nat.reduceLeDiff, Nat.reduceEqDiff, reduceCtorEq, true_or, or_true, false_or, or_false, true_and, and_true, false_and, and_false, not_true_eq_false, not_false_eq_true, wr_2, wrL_1, zm_eqF, zm_eqF', zm_lt, zm_lt', zm_le, zm_le', zm_sub1, zN_01, Nat.mul_zero, Nat.zero_mul, Nat.mul_one, Nat.sub_zero, Nat.sub_self, Nat.add_sub_cancel, l, t]
  · refine ⟨zN 0, P, T, R, U, K, hw, CD_no (fun M hM => ?_), MD_no (fun M hM => ?_)⟩
    · have l := hM.2.1.1
      unfold fX6_end fX5_cut; simp (disch := omega) only [wr_cj, wr_nj, rng_in, rng_out, zN_lit, zN_add, zN_mul, zN_sub, zN_ltT, zN_ltF, zN_leT, zN_leF, zN_eqT, zN_eqF, zN_lt, zN_le, zN_eq, zN_nat, zN_oobF, Option.bind_some, ↓reduceIte, Nat.one_mul, Nat.zero_add, Nat.add_zero, Nat.reduceAdd, Nat.reduceMul, Nat.reduceSub, Nat.reduceLT, Nat.reduceLeDiff, Nat.reduceEqDiff, reduceCtorEq, true_or, or_true, false_or, or_false, true_and, and_true, false_and, and_false, not_true_eq_false, not_false_eq_true, wr_2, wrL_1, zm_eqF, zm_eqF', zm_lt, zm_lt', zm_le, zm_le', zm_sub1, zN_01, Nat.mul_zero, Nat.zero_mul, Nat.mul_one, Nat.sub_zero, Nat.sub_self, Nat.add_sub_cancel, l]
    · have l := hM.2.1.1
      have t := in7F (a := n) (lo := 0) (hi := T.length) (by omega) (wr M 158 5 (zN 0))
      unfold fX7_end; simp (disch := omega) only [wr_cj, wr_nj, rng_in, rng_out, zN_lit, zN_add, zN_mul, zN_sub, zN_ltT, zN_ltF, zN_leT, zN_leF, zN_eqT, zN_eqF, zN_lt, zN_le, zN_eq, zN_nat, zN_oobF, Option.bind_some, ↓reduceIte, Nat.one_mul, Nat.zero_add, Nat.add_zero, Nat.reduceAdd, Nat.reduceMul, Nat.reduceSub, Nat.reduceLT, Nat.reduceLeDiff, Nat.reduceEqDiff, reduceCtorEq, true_or, or_true, false_or, or_false, true_and, and_true, false_and, and_false, not_true_eq_false, not_false_eq_true, wr_2, wrL_1, zm_eqF, zm_eqF', zm_lt, zm_lt', zm_le, zm_le', zm_sub1, zN_01, Nat.mul_zero, Nat.zero_mul, Nat.mul_one, Nat.sub_zero, Nat.sub_self, Nat.add_sub_cancel, l, t]
theorem nar1 : vp_nar .boolean (zN 1) = zN 1 := by decide
theorem call_keep (x : Int32) : Cll (fX6_keep x) (fX7_keep x) := by
  refine Cll_of (fun P T R U K hw => ?_)
  rcases zcaseR x 0 1 with ⟨n, -, hn, rfl⟩ | hx | ⟨n, hn, rfl, hnn⟩
  · refine ⟨zN 1, P, T, R, U, (fun i => if i = n then some P else K i), ⟨hw.1, hw.2.1, hw.2.2.1, hw.2.2.2.1, ?_⟩, ?_, ?_⟩
    · intro i Q hQ
      dsimp only at hQ
      by_cases e : i = n
      · rw [if_pos e] at hQ; cases hQ; exact hw.1
      · rw [if_neg e] at hQ; exact hw.2.2.2.2 i Q hQ
    · rintro M ⟨h1, h2, h3, ⟨q, h4⟩, h5⟩
      obtain ⟨M1, e1, l1, f1⟩ := copy0 hw.1 (b := 20 + 10 * n) h1 (by omega)
      have f : fr (fun c j => (20 + 10 * n ≤ c ∧ c < 30 + 10 * n) ∨ (c = 152 ∧ j = n)) M (wr M1 152 n (zN 1)) := fr_wr (fr_mono f1 (fun c j hc => by omega)) (by omega)
      refine ⟨wr M1 152 n (zN 1), ?_, ⟨Leaf_eq h1 (fun c j a b => f.1 c j (by omega)), CT_fr h2 (fun c j a => f.1 c j (by omega)), CR_fr h3 (fun j => f.1 _ _ (by omega)) (fun j => by rw [f.2]), ⟨q, CU_fr h4 (fun c j a => f.1 c j (by omega)) hw.2.2.2.1.1⟩, ?_⟩, frC_fr f (fun c j a => by omega)⟩
      · unfold fX6_keep; simp (disch := omega) only [wr_cj, wr_nj, rng_in, rng_out, zN_lit, zN_add, zN_mul, zN_sub, zN_ltT, zN_ltF, zN_leT, zN_leF, zN_eqT, zN_eqF, zN_lt, zN_le, zN_eq, zN_nat, zN_oobF, Option.bind_some, ↓reduceIte, Nat.one_mul, Nat.zero_add, Nat.add_zero, Nat.reduceAdd, Nat.reduceMul, Nat.reduceSub, Nat.reduceLT, Nat.reduceLeDiff, Nat.reduceEqDiff, reduceCtorEq, true_or, or_true, false_or, or_false, true_and, and_true, false_and, and_false, not_true_eq_false, not_false_eq_true, wr_2, wrL_1, zm_eqF, zm_eqF', zm_lt, zm_lt', zm_le, zm_le', zm_sub1, zN_01, Nat.mul_zero, Nat.zero_mul, Nat.mul_one, Nat.sub_zero, Nat.sub_self, Nat.add_sub_cancel, e1, nar1]
      · intro i hi
        by_cases e : i = n
        · subst e
          simp only [if_true]
          refine ⟨by rw [wr_cj]; rfl, fun Q hQ => ?_⟩
          cases hQ
          exact Leaf_eq l1 (fun c j a b => wr_nj (by omega))
        · simp only [if_neg e]
          refine ⟨by rw [f.1 _ _ (by omega)]; exact (h5 i hi).1, fun Q hQ => Leaf_eq ((h5 i hi).2 Q hQ) (fun c j a b => f.1 c j (by omega))⟩
    · rintro M ⟨h1, h2, h3, h4, h5⟩
      let M0 : zMM := wr (wr M 158 5 (zN 0)) 173 n (zN 1)
      obtain ⟨M', e, h, f⟩ := cpUp (fX7_keep_25 (zN n)) (fun M => some (zN 1, M)) (fun i => zN i) 259 159 172 0 (259 * n) (by omega) M0 (by
        intro k i M' hi hf
        rw [fX7_keep_25]
        simp (disch := omega) only [wr_cj, wr_nj, rng_in, rng_out, zN_lit, zN_add, zN_mul, zN_sub, zN_ltT, zN_ltF, zN_leT, zN_leF, zN_eqT, zN_eqF, zN_lt, zN_le, zN_eq, zN_nat, zN_oobF, Option.bind_some, ↓reduceIte, Nat.one_mul, Nat.zero_add, Nat.add_zero, Nat.reduceAdd, Nat.reduceMul, Nat.reduceSub, Nat.reduceLT, Nat.reduceLeDiff, Nat.reduceEqDiff, reduceCtorEq, true_or, or_true, false_or, or_false, true_and, and_true, false_and, and_false, not_true_eq_false, not_false_eq_true, wr_2, wrL_1, zm_eqF, zm_eqF', zm_lt, zm_lt', zm_le, zm_le', zm_sub1, zN_01, Nat.mul_zero, Nat.zero_mul, Nat.mul_one, Nat.sub_zero, Nat.sub_self, Nat.add_sub_cancel]) (by
        intro k M' hf
        rw [fX7_keep_25]
        simp (disch := omega) only [wr_cj, wr_nj, rng_in, rng_out, zN_lit, zN_add, zN_mul, zN_sub, zN_ltT, zN_ltF, zN_leT, zN_leF, zN_eqT, zN_eqF, zN_lt, zN_le, zN_eq, zN_nat, zN_oobF, Option.bind_some, ↓reduceIte, Nat.one_mul, Nat.zero_add, Nat.add_zero, Nat.reduceAdd, Nat.reduceMul, Nat.reduceSub, Nat.reduceLT, Nat.reduceLeDiff, Nat.reduceEqDiff, reduceCtorEq, true_or, or_true, false_or, or_false, true_and, and_true, false_and, and_false, not_true_eq_false, not_false_eq_true, wr_2, wrL_1, zm_eqF, zm_eqF', zm_lt, zm_lt', zm_le, zm_le', zm_sub1, zN_01, Nat.mul_zero, Nat.zero_mul, Nat.mul_one, Nat.sub_zero, Nat.sub_self, Nat.add_sub_cancel]) zFU (by rw [zFU_eq]; omega)
      have f0 : fr (fun c j => (c = 158 ∧ j = 5) ∨ (c = 173 ∧ j = n)) M M0 := fr_wr (fr_wr (fr_refl _ _) (by omega)) (by omega)
      have ff : fr (fun c j => (c = 158 ∧ j = 5) ∨ (c = 173 ∧ j = n) ∨ (c = 172 ∧ 259 * n ≤ j ∧ j < 259 * n + 259)) M M' := fr_trans (fr_mono f0 (fun c j a => by omega)) (fr_mono f (fun c j a => by omega))
      refine ⟨M', ?_, ⟨fun i hi => by rw [ff.1 _ _ (by omega)]; exact h1 i hi, MT_fr h2 (ff.1 _ _ (by omega)) (fun j => ff.1 _ _ (by omega)), MR_fr h3 (ff.1 _ _ (by omega)) (fun j => by rw [ff.2]), MU_fr h4 (ff.1 _ _ (by omega)) (fun j => ff.1 _ _ (by omega)), ?_⟩, frM_fr ff (fun c j a => by omega)⟩
      · have t := in7T (a := n) (lo := 0) (hi := 1) (by omega) (wr M 158 5 (zN 0))
        unfold fX7_keep; simp (disch := omega) only [wr_cj, wr_nj, rng_in, rng_out, zN_lit, zN_add, zN_mul, zN_sub, zN_ltT, zN_ltF, zN_leT, zN_leF, zN_eqT, zN_eqF, zN_lt, zN_le, zN_eq, zN_nat, zN_oobF, Option.bind_some, ↓reduceIte, Nat.one_mul, Nat.zero_add, Nat.add_zero, Nat.reduceAdd, Nat.reduceMul, Nat.reduceSub, Nat.reduceLT, Nat.reduceLeDiff, Nat.reduceEqDiff, reduceCtorEq, true_or, or_true, false_or, or_false, true_and, and_true, false_and, and_false, not_true_eq_false, not_false_eq_true, wr_2, wrL_1, zm_eqF, zm_eqF', zm_lt, zm_lt', zm_le, zm_le', zm_sub1, zN_01, Nat.mul_zero, Nat.zero_mul, Nat.mul_one, Nat.sub_zero, Nat.sub_self, Nat.add_sub_cancel, t, nar1]
        exact e
      · intro i hi
        by_cases c : i = n
        · subst c
          simp only [if_true]
          refine ⟨?_, fun Q hQ j hj => ?_⟩
          · rw [f.1 _ _ (by omega)]; exact wr_cj _ _ _ _
          · cases hQ
            rw [h j hj, Nat.zero_add, f0.1 _ _ (by omega)]; exact h1 j hj
        · simp only [if_neg c]
          refine ⟨by rw [ff.1 _ _ (by omega)]; exact (h5 i hi).1, fun Q hQ j hj => by rw [ff.1 _ _ (by omega)]; exact (h5 i hi).2 Q hQ j hj⟩
  · refine ⟨zN 0, P, T, R, U, K, hw, CD_no (fun M hM => ?_), MD_no (fun M hM => ?_)⟩
    · unfold fX6_keep; simp (disch := omega) only [wr_cj, wr_nj, rng_in, rng_out, zN_lit, zN_add, zN_mul, zN_sub, zN_ltT, zN_ltF, zN_leT, zN_leF, zN_eqT, zN_eqF, zN_lt, zN_le, zN_eq, zN_nat, zN_oobF, Option.bind_some, ↓reduceIte, Nat.one_mul, Nat.zero_add, Nat.add_zero, Nat.reduceAdd, Nat.reduceMul, Nat.reduceSub, Nat.reduceLT, Nat.reduceLeDiff, Nat.reduceEqDiff, reduceCtorEq, true_or, or_true, false_or, or_false, true_and, and_true, false_and, and_false, not_true_eq_false, not_false_eq_true, wr_2, wrL_1, zm_eqF, zm_eqF', zm_lt, zm_lt', zm_le, zm_le', zm_sub1, zN_01, Nat.mul_zero, Nat.zero_mul, Nat.mul_one, Nat.sub_zero, Nat.sub_self, Nat.add_sub_cancel, zg_lt hx]
    · have t := in7g hx (lo := 0) (by omega) (zN 1) (wr M 158 5 (zN 0))
      unfold fX7_keep; simp (disch := omega) only [wr_cj, wr_nj, rng_in, rng_out, zN_lit, zN_add, zN_mul, zN_sub, zN_ltT, zN_ltF, zN_leT, zN_leF, zN_eqT, zN_eqF, zN_lt, zN_le, zN_eq, zN_nat, zN_oobF, Option.bind_some, ↓reduceIte, Nat.one_mul, Nat.zero_add, Nat.add_zero, Nat.reduceAdd, Nat.reduceMul, Nat.reduceSub, Nat.reduceLT, Nat.reduceLeDiff, Nat.reduceEqDiff, reduceCtorEq, true_or, or_true, false_or, or_false, true_and, and_true, false_and, and_false, not_true_eq_false, not_false_eq_true, wr_2, wrL_1, zm_eqF, zm_eqF', zm_lt, zm_lt', zm_le, zm_le', zm_sub1, zN_01, Nat.mul_zero, Nat.zero_mul, Nat.mul_one, Nat.sub_zero, Nat.sub_self, Nat.add_sub_cancel, t]
  · refine ⟨zN 0, P, T, R, U, K, hw, CD_no (fun M hM => ?_), MD_no (fun M hM => ?_)⟩
    · unfold fX6_keep; simp (disch := omega) only [wr_cj, wr_nj, rng_in, rng_out, zN_lit, zN_add, zN_mul, zN_sub, zN_ltT, zN_ltF, zN_leT, zN_leF, zN_eqT, zN_eqF, zN_lt, zN_le, zN_eq, zN_nat, zN_oobF, Option.bind_some, ↓reduceIte, Nat.one_mul, Nat.zero_add, Nat.add_zero, Nat.reduceAdd, Nat.reduceMul, Nat.reduceSub, Nat.reduceLT, Nat.reduceLeDiff, Nat.reduceEqDiff, reduceCtorEq, true_or, or_true, false_or, or_false, true_and, and_true, false_and, and_false, not_true_eq_false, not_false_eq_true, wr_2, wrL_1, zm_eqF, zm_eqF', zm_lt, zm_lt', zm_le, zm_le', zm_sub1, zN_01, Nat.mul_zero, Nat.zero_mul, Nat.mul_one, Nat.sub_zero, Nat.sub_self, Nat.add_sub_cancel]
    · have t := in7F (a := n) (lo := 0) (hi := 1) (by omega) (wr M 158 5 (zN 0))
      unfold fX7_keep; simp (disch := omega) only [wr_cj, wr_nj, rng_in, rng_out, zN_lit, zN_add, zN_mul, zN_sub, zN_ltT, zN_ltF, zN_leT, zN_leF, zN_eqT, zN_eqF, zN_lt, zN_le, zN_eq, zN_nat, zN_oobF, Option.bind_some, ↓reduceIte, Nat.one_mul, Nat.zero_add, Nat.add_zero, Nat.reduceAdd, Nat.reduceMul, Nat.reduceSub, Nat.reduceLT, Nat.reduceLeDiff, Nat.reduceEqDiff, reduceCtorEq, true_or, or_true, false_or, or_false, true_and, and_true, false_and, and_false, not_true_eq_false, not_false_eq_true, wr_2, wrL_1, zm_eqF, zm_eqF', zm_lt, zm_lt', zm_le, zm_le', zm_sub1, zN_01, Nat.mul_zero, Nat.zero_mul, Nat.mul_one, Nat.sub_zero, Nat.sub_self, Nat.add_sub_cancel, t]
theorem call_again (x : Int32) : Cll (fX6_again x) (fX7_again x) := by
  refine Cll_of (fun P T R U K hw => ?_)
  rcases zcaseR x 0 1 with ⟨n, -, hn, rfl⟩ | hx | ⟨n, hn, rfl, hnn⟩
  · cases hK : K n with
    | none =>
      refine ⟨zN 0, P, T, R, U, K, hw, CD_no (fun M hM => ?_), MD_no (fun M hM => ?_)⟩
      · have l := (hM.2.2.2.2 n (by omega)).1
        rw [hK] at l
        simp only [Option.isSome_none, Bool.false_eq_true, if_false] at l
        unfold fX6_again; simp (disch := omega) only [wr_cj, wr_nj, rng_in, rng_out, zN_lit, zN_add, zN_mul, zN_sub, zN_ltT, zN_ltF, zN_leT, zN_leF, zN_eqT, zN_eqF, zN_lt, zN_le, zN_eq, zN_nat, zN_oobF, Option.bind_some, ↓reduceIte, Nat.one_mul, Nat.zero_add, Nat.add_zero, Nat.reduceAdd, Nat.reduceMul, Nat.reduceSub, Nat.reduceLT, Nat.reduceLeDiff, Nat.reduceEqDiff, reduceCtorEq, true_or, or_true, false_or, or_false, true_and, and_true, false_and, and_false, not_true_eq_false, not_false_eq_true, wr_2, wrL_1, zm_eqF, zm_eqF', zm_lt, zm_lt', zm_le, zm_le', zm_sub1, zN_01, Nat.mul_zero, Nat.zero_mul, Nat.mul_one, Nat.sub_zero, Nat.sub_self, Nat.add_sub_cancel, l]
      · have l := (hM.2.2.2.2 n (by omega)).1
        rw [hK] at l
        simp only [Option.isSome_none, Bool.false_eq_true, if_false] at l
        have t := in7T (a := n) (lo := 0) (hi := 1) (by omega) (wr M 158 5 (zN 0))
        unfold fX7_again; simp (disch := omega) only [wr_cj, wr_nj, rng_in, rng_out, zN_lit, zN_add, zN_mul, zN_sub, zN_ltT, zN_ltF, zN_leT, zN_leF, zN_eqT, zN_eqF, zN_lt, zN_le, zN_eq, zN_nat, zN_oobF, Option.bind_some, ↓reduceIte, Nat.one_mul, Nat.zero_add, Nat.add_zero, Nat.reduceAdd, Nat.reduceMul, Nat.reduceSub, Nat.reduceLT, Nat.reduceLeDiff, Nat.reduceEqDiff, reduceCtorEq, true_or, or_true, false_or, or_false, true_and, and_true, false_and, and_false, not_true_eq_false, not_false_eq_true, wr_2, wrL_1, zm_eqF, zm_eqF', zm_lt, zm_lt', zm_le, zm_le', zm_sub1, zN_01, Nat.mul_zero, Nat.zero_mul, Nat.mul_one, Nat.sub_zero, Nat.sub_self, Nat.add_sub_cancel, t, l]
    | some Q =>
      have hQ := hw.2.2.2.2 n Q hK
      refine ⟨zN 1, Q, T, R, [], K, ⟨hQ, hw.2.1, hw.2.2.1, ⟨by simp, fun X hX => absurd hX (by simp)⟩, hw.2.2.2.2⟩, ?_, ?_⟩
      · rintro M ⟨h1, h2, h3, ⟨q, h4⟩, h5⟩
        have l := (h5 n (by omega)).1
        rw [hK] at l
        simp only [Option.isSome_some, if_true] at l
        obtain ⟨M1, e1, l1, f1⟩ := copy0 hQ (b := 0) ((h5 n (by omega)).2 Q hK) (by omega)
        have f : fr (fun c j => c < 10 ∨ (c = 149 ∧ j = 2)) M (wr M1 149 2 (zN 0)) := fr_wr (fr_mono f1 (fun c j hc => by omega)) (by omega)
        refine ⟨wr M1 149 2 (zN 0), ?_, ⟨Leaf_eq l1 (fun c j a b => wr_nj (by omega)), CT_fr h2 (fun c j a => f.1 c j (by omega)), CR_fr h3 (fun j => f.1 _ _ (by omega)) (fun j => by rw [f.2]), ⟨q, h4.1, by rw [f.1 _ _ (by omega)]; exact h4.2.1, by rw [wr_cj]; rfl, fun i X hX => absurd hX (by simp)⟩, CKp_fr h5 (fun c j a => f.1 c j (by omega))⟩, frC_fr f (fun c j a => by omega)⟩
        unfold fX6_again fX1_forget; simp (disch := omega) only [wr_cj, wr_nj, rng_in, rng_out, zN_lit, zN_add, zN_mul, zN_sub, zN_ltT, zN_ltF, zN_leT, zN_leF, zN_eqT, zN_eqF, zN_lt, zN_le, zN_eq, zN_nat, zN_oobF, Option.bind_some, ↓reduceIte, Nat.one_mul, Nat.zero_add, Nat.add_zero, Nat.reduceAdd, Nat.reduceMul, Nat.reduceSub, Nat.reduceLT, Nat.reduceLeDiff, Nat.reduceEqDiff, reduceCtorEq, true_or, or_true, false_or, or_false, true_and, and_true, false_and, and_false, not_true_eq_false, not_false_eq_true, wr_2, wrL_1, zm_eqF, zm_eqF', zm_lt, zm_lt', zm_le, zm_le', zm_sub1, zN_01, Nat.mul_zero, Nat.zero_mul, Nat.mul_one, Nat.sub_zero, Nat.sub_self, Nat.add_sub_cancel, l, e1]
      · rintro M ⟨h1, h2, h3, h4, h5⟩
        have l := (h5 n (by omega)).1
        rw [hK] at l
        simp only [Option.isSome_some, if_true] at l
        let M0 : zMM := wr M 158 5 (zN 0)
        obtain ⟨M', e, h, f⟩ := cpUp (fX7_again_27 (zN n)) (fun M => some (zN 1, wr M 158 24 (zN 0))) (fun i => zN i) 259 172 159 (259 * n) 0 (by omega) M0 (by
          intro k i M' hi hf
          rw [fX7_again_27]
          simp (disch := omega) only [wr_cj, wr_nj, rng_in, rng_out, zN_lit, zN_add, zN_mul, zN_sub, zN_ltT, zN_ltF, zN_leT, zN_leF, zN_eqT, zN_eqF, zN_lt, zN_le, zN_eq, zN_nat, zN_oobF, Option.bind_some, ↓reduceIte, Nat.one_mul, Nat.zero_add, Nat.add_zero, Nat.reduceAdd, Nat.reduceMul, Nat.reduceSub, Nat.reduceLT, Nat.reduceLeDiff, Nat.reduceEqDiff, reduceCtorEq, true_or, or_true, false_or, or_false, true_and, and_true, false_and, and_false, not_true_eq_false, not_false_eq_true, wr_2, wrL_1, zm_eqF, zm_eqF', zm_lt, zm_lt', zm_le, zm_le', zm_sub1, zN_01, Nat.mul_zero, Nat.zero_mul, Nat.mul_one, Nat.sub_zero, Nat.sub_self, Nat.add_sub_cancel]) (by
          intro k M' hf
          rw [fX7_again_27]
          simp (disch := omega) only [wr_cj, wr_nj, rng_in, rng_out, zN_lit, zN_add, zN_mul, zN_sub, zN_ltT, zN_ltF, zN_leT, zN_leF, zN_eqT, zN_eqF, zN_lt, zN_le, zN_eq, zN_nat, zN_oobF, Option.bind_some, ↓reduceIte, Nat.one_mul, Nat.zero_add, Nat.add_zero, Nat.reduceAdd, Nat.reduceMul, Nat.reduceSub, Nat.reduceLT, Nat.reduceLeDiff, Nat.reduceEqDiff, reduceCtorEq, true_or, or_true, false_or, or_false, true_and, and_true, false_and, and_false, not_true_eq_false, not_false_eq_true, wr_2, wrL_1, zm_eqF, zm_eqF', zm_lt, zm_lt', zm_le, zm_le', zm_sub1, zN_01, Nat.mul_zero, Nat.zero_mul, Nat.mul_one, Nat.sub_zero, Nat.sub_self, Nat.add_sub_cancel]) zFU (by rw [zFU_eq]; omega)
        have f0 : fr (fun c j => c = 158 ∧ j = 5) M M0 := fr_wr (fr_refl _ _) (by omega)
        have ff : fr (fun c j => (c = 158 ∧ (j = 5 ∨ j = 24)) ∨ c = 159) M (wr M' 158 24 (zN 0)) := fr_wr (fr_trans (fr_mono f0 (fun c j a => by omega)) (fr_mono f (fun c j a => by omega))) (by omega)
        refine ⟨wr M' 158 24 (zN 0), ?_, ⟨?_, MT_fr h2 (ff.1 _ _ (by omega)) (fun j => ff.1 _ _ (by omega)), MR_fr h3 (ff.1 _ _ (by omega)) (fun j => by rw [ff.2]), ⟨by rw [wr_cj]; rfl, fun i X hX => absurd hX (by simp)⟩, MKp_fr h5 (fun c j a => ff.1 c j (by omega))⟩, frM_fr ff (fun c j a => by omega)⟩
        · have t := in7T (a := n) (lo := 0) (hi := 1) (by omega) (wr M 158 5 (zN 0))
          unfold fX7_again; simp (disch := omega) only [wr_cj, wr_nj, rng_in, rng_out, zN_lit, zN_add, zN_mul, zN_sub, zN_ltT, zN_ltF, zN_leT, zN_leF, zN_eqT, zN_eqF, zN_lt, zN_le, zN_eq, zN_nat, zN_oobF, Option.bind_some, ↓reduceIte, Nat.one_mul, Nat.zero_add, Nat.add_zero, Nat.reduceAdd, Nat.reduceMul, Nat.reduceSub, Nat.reduceLT, Nat.reduceLeDiff, Nat.reduceEqDiff, reduceCtorEq, true_or, or_true, false_or, or_false, true_and, and_true, false_and, and_false, not_true_eq_false, not_false_eq_true, wr_2, wrL_1, zm_eqF, zm_eqF', zm_lt, zm_lt', zm_le, zm_le', zm_sub1, zN_01, Nat.mul_zero, Nat.zero_mul, Nat.mul_one, Nat.sub_zero, Nat.sub_self, Nat.add_sub_cancel, t, l]
          exact e
        · intro i hi
          have := h i hi
          rw [Nat.zero_add] at this
          rw [wr_nj (by omega), this, f0.1 _ _ (by omega)]
          exact (h5 n (by omega)).2 Q hK i hi
  · refine ⟨zN 0, P, T, R, U, K, hw, CD_no (fun M hM => ?_), MD_no (fun M hM => ?_)⟩
    · unfold fX6_again; simp (disch := omega) only [wr_cj, wr_nj, rng_in, rng_out, zN_lit, zN_add, zN_mul, zN_sub, zN_ltT, zN_ltF, zN_leT, zN_leF, zN_eqT, zN_eqF, zN_lt, zN_le, zN_eq, zN_nat, zN_oobF, Option.bind_some, ↓reduceIte, Nat.one_mul, Nat.zero_add, Nat.add_zero, Nat.reduceAdd, Nat.reduceMul, Nat.reduceSub, Nat.reduceLT, Nat.reduceLeDiff, Nat.reduceEqDiff, reduceCtorEq, true_or, or_true, false_or, or_false, true_and, and_true, false_and, and_false, not_true_eq_false, not_false_eq_true, wr_2, wrL_1, zm_eqF, zm_eqF', zm_lt, zm_lt', zm_le, zm_le', zm_sub1, zN_01, Nat.mul_zero, Nat.zero_mul, Nat.mul_one, Nat.sub_zero, Nat.sub_self, Nat.add_sub_cancel, zg_lt hx]
    · have t := in7g hx (lo := 0) (by omega) (zN 1) (wr M 158 5 (zN 0))
      unfold fX7_again; simp (disch := omega) only [wr_cj, wr_nj, rng_in, rng_out, zN_lit, zN_add, zN_mul, zN_sub, zN_ltT, zN_ltF, zN_leT, zN_leF, zN_eqT, zN_eqF, zN_lt, zN_le, zN_eq, zN_nat, zN_oobF, Option.bind_some, ↓reduceIte, Nat.one_mul, Nat.zero_add, Nat.add_zero, Nat.reduceAdd, Nat.reduceMul, Nat.reduceSub, Nat.reduceLT, Nat.reduceLeDiff, Nat.reduceEqDiff, reduceCtorEq, true_or, or_true, false_or, or_false, true_and, and_true, false_and, and_false, not_true_eq_false, not_false_eq_true, wr_2, wrL_1, zm_eqF, zm_eqF', zm_lt, zm_lt', zm_le, zm_le', zm_sub1, zN_01, Nat.mul_zero, Nat.zero_mul, Nat.mul_one, Nat.sub_zero, Nat.sub_self, Nat.add_sub_cancel, t]
  · refine ⟨zN 0, P, T, R, U, K, hw, CD_no (fun M hM => ?_), MD_no (fun M hM => ?_)⟩
    · unfold fX6_again; simp (disch := omega) only [wr_cj, wr_nj, rng_in, rng_out, zN_lit, zN_add, zN_mul, zN_sub, zN_ltT, zN_ltF, zN_leT, zN_leF, zN_eqT, zN_eqF, zN_lt, zN_le, zN_eq, zN_nat, zN_oobF, Option.bind_some, ↓reduceIte, Nat.one_mul, Nat.zero_add, Nat.add_zero, Nat.reduceAdd, Nat.reduceMul, Nat.reduceSub, Nat.reduceLT, Nat.reduceLeDiff, Nat.reduceEqDiff, reduceCtorEq, true_or, or_true, false_or, or_false, true_and, and_true, false_and, and_false, not_true_eq_false, not_false_eq_true, wr_2, wrL_1, zm_eqF, zm_eqF', zm_lt, zm_lt', zm_le, zm_le', zm_sub1, zN_01, Nat.mul_zero, Nat.zero_mul, Nat.mul_one, Nat.sub_zero, Nat.sub_self, Nat.add_sub_cancel]
    · have t := in7F (a := n) (lo := 0) (hi := 1) (by omega) (wr M 158 5 (zN 0))
      unfold fX7_again; simp (disch := omega) only [wr_cj, wr_nj, rng_in, rng_out, zN_lit, zN_add, zN_mul, zN_sub, zN_ltT, zN_ltF, zN_leT, zN_leF, zN_eqT, zN_eqF, zN_lt, zN_le, zN_eq, zN_nat, zN_oobF, Option.bind_some, ↓reduceIte, Nat.one_mul, Nat.zero_add, Nat.add_zero, Nat.reduceAdd, Nat.reduceMul, Nat.reduceSub, Nat.reduceLT, Nat.reduceLeDiff, Nat.reduceEqDiff, reduceCtorEq, true_or, or_true, false_or, or_false, true_and, and_true, false_and, and_false, not_true_eq_false, not_false_eq_true, wr_2, wrL_1, zm_eqF, zm_eqF', zm_lt, zm_lt', zm_le, zm_le', zm_sub1, zN_01, Nat.mul_zero, Nat.zero_mul, Nat.mul_one, Nat.sub_zero, Nat.sub_self, Nat.add_sub_cancel, t]
theorem call_undo : Cll fX6_undo fX7_undo := by
  refine Cll_of (fun P T R U K hw => ?_)
  cases U with
  | nil =>
    refine ⟨-zN 1, P, T, R, [], K, hw, CD_no (fun M hM => ?_), MD_no (fun M hM => ?_)⟩
    · obtain ⟨q, h4⟩ := hM.2.2.2.1
      have l := h4.2.2.1
      simp only [List.length_nil] at l
      unfold fX6_undo fX1_takeBack; simp (disch := omega) only [wr_cj, wr_nj, rng_in, rng_out, zN_lit, zN_add, zN_mul, zN_sub, zN_ltT, zN_ltF, zN_leT, zN_leF, zN_eqT, zN_eqF, zN_lt, zN_le, zN_eq, zN_nat, zN_oobF, Option.bind_some, ↓reduceIte, Nat.one_mul, Nat.zero_add, Nat.add_zero, Nat.reduceAdd, Nat.reduceMul, Nat.reduceSub, Nat.reduceLT, Nat.reduceLeDiff, Nat.reduceEqDiff, reduceCtorEq, true_or, or_true, false_or, or_false, true_and, and_true, false_and, and_false, not_true_eq_false, not_false_eq_true, wr_2, wrL_1, zm_eqF, zm_eqF', zm_lt, zm_lt', zm_le, zm_le', zm_sub1, zN_01, Nat.mul_zero, Nat.zero_mul, Nat.mul_one, Nat.sub_zero, Nat.sub_self, Nat.add_sub_cancel, l]
    · have l := hM.2.2.2.1.1
      simp only [List.length_nil] at l
      unfold fX7_undo; simp (disch := omega) only [wr_cj, wr_nj, rng_in, rng_out, zN_lit, zN_add, zN_mul, zN_sub, zN_ltT, zN_ltF, zN_leT, zN_leF, zN_eqT, zN_eqF, zN_lt, zN_le, zN_eq, zN_nat, zN_oobF, Option.bind_some, ↓reduceIte, Nat.one_mul, Nat.zero_add, Nat.add_zero, Nat.reduceAdd, Nat.reduceMul, Nat.reduceSub, Nat.reduceLT, Nat.reduceLeDiff, Nat.reduceEqDiff, reduceCtorEq, true_or, or_true, false_or, or_false, true_and, and_true, false_and, and_false, not_true_eq_false, not_false_eq_true, wr_2, wrL_1, zm_eqF, zm_eqF', zm_lt, zm_lt', zm_le, zm_le', zm_sub1, zN_01, Nat.mul_zero, Nat.zero_mul, Nat.mul_one, Nat.sub_zero, Nat.sub_self, Nat.add_sub_cancel, l]
  | cons Q U =>
    have hQ := hw.2.2.2.1.2 Q (by simp)
    have hl := hw.2.2.2.1.1
    simp only [List.length_cons] at hl
    refine ⟨zN U.length, Q, T, R, U, K, ⟨hQ, hw.2.1, hw.2.2.1, ⟨by omega, fun X hX => hw.2.2.2.1.2 X (List.mem_cons_of_mem _ hX)⟩, hw.2.2.2.2⟩, ?_, ?_⟩
    · rintro M ⟨h1, h2, h3, ⟨q, h4⟩, h5⟩
      obtain ⟨k1, k2, k3, k4⟩ := h4
      simp only [List.length_cons] at k3
      have hq := k4 0 Q rfl
      rw [show q + 7 - 0 = q + 7 by omega] at hq
      have go : ∀ s, s < 8 → s = (q + 7) % 8 → ∃ M', fX1_takeBack_28 0 (zN s) M = some (zN 1, M') ∧ CI Q T R U K M' ∧ frC M M' ∧ M'.1 149 2 = zN U.length := by
        intro s hs es
        let M0 : zMM := wr (wr M 149 1 (zN s)) 149 2 (zN U.length)
        have f0 : fr (fun c _ => c = 149) M M0 := fr_wr (fr_wr (fr_refl _ _) (by omega)) (by omega)
        have lq : Leaf M0 (40 + 10 * s) Q := by rw [es]; exact Leaf_eq hq (fun c j a b => f0.1 c j (by omega))
        obtain ⟨M1, e1, l1, f1⟩ := copy0 hQ (b := 0) lq (by omega)
        have ff : fr (fun c _ => c = 149 ∨ c < 10) M M1 := fr_trans (fr_mono f0 (fun c j a => by omega)) (fr_mono f1 (fun c j a => by omega))
        refine ⟨M1, ?_, ⟨l1, CT_fr h2 (fun c j a => ff.1 c j (by omega)), CR_fr h3 (fun j => ff.1 _ _ (by omega)) (fun j => by rw [ff.2]), ⟨s, hs, ?_, ?_, ?_⟩, CKp_fr h5 (fun c j a => ff.1 c j (by omega))⟩, frC_fr ff (fun c j a => by omega), ?_⟩
        · unfold fX1_takeBack_28; simp (disch := omega) only [wr_cj, wr_nj, rng_in, rng_out, zN_lit, zN_add, zN_mul, zN_sub, zN_ltT, zN_ltF, zN_leT, zN_leF, zN_eqT, zN_eqF, zN_lt, zN_le, zN_eq, zN_nat, zN_oobF, Option.bind_some, ↓reduceIte, Nat.one_mul, Nat.zero_add, Nat.add_zero, Nat.reduceAdd, Nat.reduceMul, Nat.reduceSub, Nat.reduceLT, Nat.reduceLeDiff, Nat.reduceEqDiff, reduceCtorEq, true_or, or_true, false_or, or_false, true_and, and_true, false_and, and_false, not_true_eq_false, not_false_eq_true, wr_2, wrL_1, zm_eqF, zm_eqF', zm_lt, zm_lt', zm_le, zm_le', zm_sub1, zN_01, Nat.mul_zero, Nat.zero_mul, Nat.mul_one, Nat.sub_zero, Nat.sub_self, Nat.add_sub_cancel, k3, k2]
          rw [show (wr (wr M 149 1 (zN s)) 149 2 (zN U.length)) = M0 from rfl, e1]; rfl
        · rw [f1.1 _ _ (by omega)]; simp only [M0]; simp (disch := omega) only [wr_cj, wr_nj, rng_in, rng_out, zN_lit, zN_add, zN_mul, zN_sub, zN_ltT, zN_ltF, zN_leT, zN_leF, zN_eqT, zN_eqF, zN_lt, zN_le, zN_eq, zN_nat, zN_oobF, Option.bind_some, ↓reduceIte, Nat.one_mul, Nat.zero_add, Nat.add_zero, Nat.reduceAdd, Nat.reduceMul, Nat.reduceSub, Nat.reduceLT, Nat.reduceLeDiff, Nat.reduceEqDiff, reduceCtorEq, true_or, or_true, false_or, or_false, true_and, and_true, false_and, and_false, not_true_eq_false, not_false_eq_true, wr_2, wrL_1, zm_eqF, zm_eqF', zm_lt, zm_lt', zm_le, zm_le', zm_sub1, zN_01, Nat.mul_zero, Nat.zero_mul, Nat.mul_one, Nat.sub_zero, Nat.sub_self, Nat.add_sub_cancel]
        · rw [f1.1 _ _ (by omega)]; simp only [M0]; simp (disch := omega) only [wr_cj, wr_nj, rng_in, rng_out, zN_lit, zN_add, zN_mul, zN_sub, zN_ltT, zN_ltF, zN_leT, zN_leF, zN_eqT, zN_eqF, zN_lt, zN_le, zN_eq, zN_nat, zN_oobF, Option.bind_some, ↓reduceIte, Nat.one_mul, Nat.zero_add, Nat.add_zero, Nat.reduceAdd, Nat.reduceMul, Nat.reduceSub, Nat.reduceLT, Nat.reduceLeDiff, Nat.reduceEqDiff, reduceCtorEq, true_or, or_true, false_or, or_false, true_and, and_true, false_and, and_false, not_true_eq_false, not_false_eq_true, wr_2, wrL_1, zm_eqF, zm_eqF', zm_lt, zm_lt', zm_le, zm_le', zm_sub1, zN_01, Nat.mul_zero, Nat.zero_mul, Nat.mul_one, Nat.sub_zero, Nat.sub_self, Nat.add_sub_cancel]
        · intro i X hX
          have hi := (List.getElem?_eq_some_iff.mp hX).1
          have := k4 (i + 1) X (by rw [List.getElem?_cons_succ]; exact hX)
          rw [show 40 + 10 * ((q + 7 - (i + 1)) % 8) = 40 + 10 * ((s + 7 - i) % 8) by omega] at this
          exact Leaf_eq this (fun c j a b => ff.1 c j (by omega))
        · rw [f1.1 _ _ (by omega)]; simp only [M0]; simp (disch := omega) only [wr_cj, wr_nj, rng_in, rng_out, zN_lit, zN_add, zN_mul, zN_sub, zN_ltT, zN_ltF, zN_leT, zN_leF, zN_eqT, zN_eqF, zN_lt, zN_le, zN_eq, zN_nat, zN_oobF, Option.bind_some, ↓reduceIte, Nat.one_mul, Nat.zero_add, Nat.add_zero, Nat.reduceAdd, Nat.reduceMul, Nat.reduceSub, Nat.reduceLT, Nat.reduceLeDiff, Nat.reduceEqDiff, reduceCtorEq, true_or, or_true, false_or, or_false, true_and, and_true, false_and, and_false, not_true_eq_false, not_false_eq_true, wr_2, wrL_1, zm_eqF, zm_eqF', zm_lt, zm_lt', zm_le, zm_le', zm_sub1, zN_01, Nat.mul_zero, Nat.zero_mul, Nat.mul_one, Nat.sub_zero, Nat.sub_self, Nat.add_sub_cancel]
      unfold fX6_undo fX1_takeBack
      by_cases c : q = 0
      · subst c
        obtain ⟨M', e, ci, fc, l⟩ := go 7 (by omega) (by omega)
        exact ⟨M', by simp (disch := omega) only [wr_cj, wr_nj, rng_in, rng_out, zN_lit, zN_add, zN_mul, zN_sub, zN_ltT, zN_ltF, zN_leT, zN_leF, zN_eqT, zN_eqF, zN_lt, zN_le, zN_eq, zN_nat, zN_oobF, Option.bind_some, ↓reduceIte, Nat.one_mul, Nat.zero_add, Nat.add_zero, Nat.reduceAdd, Nat.reduceMul, Nat.reduceSub, Nat.reduceLT, Nat.reduceLeDiff, Nat.reduceEqDiff, reduceCtorEq, true_or, or_true, false_or, or_false, true_and, and_true, false_and, and_false, not_true_eq_false, not_false_eq_true, wr_2, wrL_1, zm_eqF, zm_eqF', zm_lt, zm_lt', zm_le, zm_le', zm_sub1, zN_01, Nat.mul_zero, Nat.zero_mul, Nat.mul_one, Nat.sub_zero, Nat.sub_self, Nat.add_sub_cancel, k3, k2, e, l], ci, fc⟩
      · obtain ⟨M', e, ci, fc, l⟩ := go (q - 1) (by omega) (by omega)
        exact ⟨M', by simp (disch := omega) only [wr_cj, wr_nj, rng_in, rng_out, zN_lit, zN_add, zN_mul, zN_sub, zN_ltT, zN_ltF, zN_leT, zN_leF, zN_eqT, zN_eqF, zN_lt, zN_le, zN_eq, zN_nat, zN_oobF, Option.bind_some, ↓reduceIte, Nat.one_mul, Nat.zero_add, Nat.add_zero, Nat.reduceAdd, Nat.reduceMul, Nat.reduceSub, Nat.reduceLT, Nat.reduceLeDiff, Nat.reduceEqDiff, reduceCtorEq, true_or, or_true, false_or, or_false, true_and, and_true, false_and, and_false, not_true_eq_false, not_false_eq_true, wr_2, wrL_1, zm_eqF, zm_eqF', zm_lt, zm_lt', zm_le, zm_le', zm_sub1, zN_01, Nat.mul_zero, Nat.zero_mul, Nat.mul_one, Nat.sub_zero, Nat.sub_self, Nat.add_sub_cancel, k3, k2, e, l], ci, fc⟩
    · rintro M ⟨h1, h2, h3, h4, h5⟩
      obtain ⟨k1, k2⟩ := h4
      simp only [List.length_cons] at k1
      let M0 : zMM := wr (wr M 158 5 (zN 0)) 158 24 (zN U.length)
      have f0 : fr (fun c j => c = 158 ∧ (j = 5 ∨ j = 24)) M M0 := fr_wr (fr_wr (fr_refl _ _) (by omega)) (by omega)
      have l0 : M0.1 158 24 = zN U.length := wr_cj _ _ _ _
      obtain ⟨M', e, h, f⟩ := cpUp fX7_undo_26 (fun M => some (M.1 158 24, M)) (fun i => zN i) 259 170 159 (259 * U.length) 0 (by omega) M0 (by
        intro k i M' hi hf
        have := hf.1 158 24 (by omega)
        rw [l0] at this
        rw [fX7_undo_26]
        simp (disch := omega) only [wr_cj, wr_nj, rng_in, rng_out, zN_lit, zN_add, zN_mul, zN_sub, zN_ltT, zN_ltF, zN_leT, zN_leF, zN_eqT, zN_eqF, zN_lt, zN_le, zN_eq, zN_nat, zN_oobF, Option.bind_some, ↓reduceIte, Nat.one_mul, Nat.zero_add, Nat.add_zero, Nat.reduceAdd, Nat.reduceMul, Nat.reduceSub, Nat.reduceLT, Nat.reduceLeDiff, Nat.reduceEqDiff, reduceCtorEq, true_or, or_true, false_or, or_false, true_and, and_true, false_and, and_false, not_true_eq_false, not_false_eq_true, wr_2, wrL_1, zm_eqF, zm_eqF', zm_lt, zm_lt', zm_le, zm_le', zm_sub1, zN_01, Nat.mul_zero, Nat.zero_mul, Nat.mul_one, Nat.sub_zero, Nat.sub_self, Nat.add_sub_cancel, this]) (by
        intro k M' hf
        rw [fX7_undo_26]
        simp (disch := omega) only [wr_cj, wr_nj, rng_in, rng_out, zN_lit, zN_add, zN_mul, zN_sub, zN_ltT, zN_ltF, zN_leT, zN_leF, zN_eqT, zN_eqF, zN_lt, zN_le, zN_eq, zN_nat, zN_oobF, Option.bind_some, ↓reduceIte, Nat.one_mul, Nat.zero_add, Nat.add_zero, Nat.reduceAdd, Nat.reduceMul, Nat.reduceSub, Nat.reduceLT, Nat.reduceLeDiff, Nat.reduceEqDiff, reduceCtorEq, true_or, or_true, false_or, or_false, true_and, and_true, false_and, and_false, not_true_eq_false, not_false_eq_true, wr_2, wrL_1, zm_eqF, zm_eqF', zm_lt, zm_lt', zm_le, zm_le', zm_sub1, zN_01, Nat.mul_zero, Nat.zero_mul, Nat.mul_one, Nat.sub_zero, Nat.sub_self, Nat.add_sub_cancel]) zFU (by rw [zFU_eq]; omega)
      have ff : fr (fun c j => (c = 158 ∧ (j = 5 ∨ j = 24)) ∨ c = 159) M M' := fr_trans (fr_mono f0 (fun c j a => by omega)) (fr_mono f (fun c j a => by omega))
      have l' : M'.1 158 24 = zN U.length := by rw [f.1 _ _ (by omega)]; exact l0
      refine ⟨M', ?_, ⟨?_, MT_fr h2 (ff.1 _ _ (by omega)) (fun j => ff.1 _ _ (by omega)), MR_fr h3 (ff.1 _ _ (by omega)) (fun j => by rw [ff.2]), ⟨l', ?_⟩, MKp_fr h5 (fun c j a => ff.1 c j (by omega))⟩, frM_fr ff (fun c j a => by omega)⟩
      · unfold fX7_undo; simp (disch := omega) only [wr_cj, wr_nj, rng_in, rng_out, zN_lit, zN_add, zN_mul, zN_sub, zN_ltT, zN_ltF, zN_leT, zN_leF, zN_eqT, zN_eqF, zN_lt, zN_le, zN_eq, zN_nat, zN_oobF, Option.bind_some, ↓reduceIte, Nat.one_mul, Nat.zero_add, Nat.add_zero, Nat.reduceAdd, Nat.reduceMul, Nat.reduceSub, Nat.reduceLT, Nat.reduceLeDiff, Nat.reduceEqDiff, reduceCtorEq, true_or, or_true, false_or, or_false, true_and, and_true, false_and, and_false, not_true_eq_false, not_false_eq_true, wr_2, wrL_1, zm_eqF, zm_eqF', zm_lt, zm_lt', zm_le, zm_le', zm_sub1, zN_01, Nat.mul_zero, Nat.zero_mul, Nat.mul_one, Nat.sub_zero, Nat.sub_self, Nat.add_sub_cancel, k1]
        rw [show (wr (wr M 158 5 (zN 0)) 158 24 (zN U.length)) = M0 from rfl]
        refine Eq.trans e ?_
        rw [l']
      · intro i hi
        have := h i hi
        rw [Nat.zero_add] at this
        rw [this, f0.1 _ _ (by omega)]
        have := k2 0 Q rfl i hi
        rw [List.length_cons, show U.length + 1 - 1 - 0 = U.length by omega] at this
        exact this
      · intro i X hX j hj
        have hi := (List.getElem?_eq_some_iff.mp hX).1
        have := k2 (i + 1) X (by rw [List.getElem?_cons_succ]; exact hX) j hj
        rw [List.length_cons, show U.length + 1 - 1 - (i + 1) = U.length - 1 - i by omega] at this
        rw [ff.1 _ _ (by omega)]; exact this
