/-! ties, the loop and the call -/
theorem tieH6 {T : List Nat} {p : Nat} {M : zMM} (hT : T.length ≤ 80) (hb : ∀ i, i < T.length → tt T i < 256) (hM : CT T M) (hp : p < T.length) :
    (tt T p = 105 → fX6_readTie (zN p) M = fX6_readTie_30 (zN p) (zN 1) M) ∧ (tt T p = 111 → fX6_readTie (zN p) M = fX6_readTie_30 (zN p) (zN 2) M) ∧ (tt T p ≠ 105 → tt T p ≠ 111 → fX6_readTie (zN p) M = some (-zN 1 - zN p, M)) := by
  have a := sign0 hT hM hp
  have b := hb p hp
  refine ⟨fun h => ?_, fun h => ?_, fun h h' => ?_⟩
  · rw [h] at a; unfold fX6_readTie; simp (disch := omega) only [wr_cj, wr_nj, rng_in, rng_out, zN_lit, zN_add, zN_mul, zN_sub, zN_ltT, zN_ltF, zN_leT, zN_leF, zN_eqT, zN_eqF, zN_lt, zN_le, zN_eq, zN_nat, zN_oobF, Option.bind_some, ↓reduceIte, Nat.one_mul, Nat.zero_add, Nat.add_zero, Nat.reduceAdd, Nat.reduceMul, Nat.reduceSub, Nat.reduceLT, Nat.reduceLeDiff, Nat.reduceEqDiff, reduceCtorEq, true_or, or_true, false_or, or_false, true_and, and_true, false_and, and_false, not_true_eq_false, not_false_eq_true, wr_2, wrL_1, zm_eqF, zm_eqF', zm_lt, zm_lt', zm_le, zm_le', zm_sub1, zN_01, Nat.mul_zero, Nat.zero_mul, Nat.mul_one, Nat.sub_zero, Nat.sub_self, Nat.add_sub_cancel, a]
  · rw [h] at a; unfold fX6_readTie; simp (disch := omega) only [wr_cj, wr_nj, rng_in, rng_out, zN_lit, zN_add, zN_mul, zN_sub, zN_ltT, zN_ltF, zN_leT, zN_leF, zN_eqT, zN_eqF, zN_lt, zN_le, zN_eq, zN_nat, zN_oobF, Option.bind_some, ↓reduceIte, Nat.one_mul, Nat.zero_add, Nat.add_zero, Nat.reduceAdd, Nat.reduceMul, Nat.reduceSub, Nat.reduceLT, Nat.reduceLeDiff, Nat.reduceEqDiff, reduceCtorEq, true_or, or_true, false_or, or_false, true_and, and_true, false_and, and_false, not_true_eq_false, not_false_eq_true, wr_2, wrL_1, zm_eqF, zm_eqF', zm_lt, zm_lt', zm_le, zm_le', zm_sub1, zN_01, Nat.mul_zero, Nat.zero_mul, Nat.mul_one, Nat.sub_zero, Nat.sub_self, Nat.add_sub_cancel, a]
  · have e : fX6_readTie (zN p) M = fX6_readTie_30 (zN p) (-zN 1) M := by unfold fX6_readTie; simp (disch := omega) only [wr_cj, wr_nj, rng_in, rng_out, zN_lit, zN_add, zN_mul, zN_sub, zN_ltT, zN_ltF, zN_leT, zN_leF, zN_eqT, zN_eqF, zN_lt, zN_le, zN_eq, zN_nat, zN_oobF, Option.bind_some, ↓reduceIte, Nat.one_mul, Nat.zero_add, Nat.add_zero, Nat.reduceAdd, Nat.reduceMul, Nat.reduceSub, Nat.reduceLT, Nat.reduceLeDiff, Nat.reduceEqDiff, reduceCtorEq, true_or, or_true, false_or, or_false, true_and, and_true, false_and, and_false, not_true_eq_false, not_false_eq_true, wr_2, wrL_1, zm_eqF, zm_eqF', zm_lt, zm_lt', zm_le, zm_le', zm_sub1, zN_01, Nat.mul_zero, Nat.zero_mul, Nat.mul_one, Nat.sub_zero, Nat.sub_self, Nat.add_sub_cancel, a]
    rw [e]
    unfold fX6_readTie_30
    rw [if_pos (by decide)]; rfl
theorem tieH7 {T : List Nat} {p : Nat} {M : zMM} (x : Int32) (hT : T.length ≤ 80) (hb : ∀ i, i < T.length → tt T i < 256) (hM : TR T p M) (hp : p < T.length) :
    (tt T p = 105 → fX7_readTie x M = fX7_readTie_27 x (zN 1) M) ∧ (tt T p = 111 → fX7_readTie x M = fX7_readTie_27 x (zN 2) M) ∧ (tt T p ≠ 105 → tt T p ≠ 111 → fX7_readTie x M = some (wr M 158 8 (zN p))) := by
  have a := here7 hT hb hM hp
  have b := hb p hp
  refine ⟨fun h => ?_, fun h => ?_, fun h h' => ?_⟩
  · rw [h] at a; unfold fX7_readTie; simp (disch := omega) only [wr_cj, wr_nj, rng_in, rng_out, zN_lit, zN_add, zN_mul, zN_sub, zN_ltT, zN_ltF, zN_leT, zN_leF, zN_eqT, zN_eqF, zN_lt, zN_le, zN_eq, zN_nat, zN_oobF, Option.bind_some, ↓reduceIte, Nat.one_mul, Nat.zero_add, Nat.add_zero, Nat.reduceAdd, Nat.reduceMul, Nat.reduceSub, Nat.reduceLT, Nat.reduceLeDiff, Nat.reduceEqDiff, reduceCtorEq, true_or, or_true, false_or, or_false, true_and, and_true, false_and, and_false, not_true_eq_false, not_false_eq_true, wr_2, wrL_1, zm_eqF, zm_eqF', zm_lt, zm_lt', zm_le, zm_le', zm_sub1, zN_01, Nat.mul_zero, Nat.zero_mul, Nat.mul_one, Nat.sub_zero, Nat.sub_self, Nat.add_sub_cancel, a]
  · rw [h] at a; unfold fX7_readTie; simp (disch := omega) only [wr_cj, wr_nj, rng_in, rng_out, zN_lit, zN_add, zN_mul, zN_sub, zN_ltT, zN_ltF, zN_leT, zN_leF, zN_eqT, zN_eqF, zN_lt, zN_le, zN_eq, zN_nat, zN_oobF, Option.bind_some, ↓reduceIte, Nat.one_mul, Nat.zero_add, Nat.add_zero, Nat.reduceAdd, Nat.reduceMul, Nat.reduceSub, Nat.reduceLT, Nat.reduceLeDiff, Nat.reduceEqDiff, reduceCtorEq, true_or, or_true, false_or, or_false, true_and, and_true, false_and, and_false, not_true_eq_false, not_false_eq_true, wr_2, wrL_1, zm_eqF, zm_eqF', zm_lt, zm_lt', zm_le, zm_le', zm_sub1, zN_01, Nat.mul_zero, Nat.zero_mul, Nat.mul_one, Nat.sub_zero, Nat.sub_self, Nat.add_sub_cancel, a]
  · have f := faultT hM.2.2.1 (M.1 158 7)
    have h7 := hM.2.1
    unfold fX7_readTie; simp (disch := omega) only [wr_cj, wr_nj, rng_in, rng_out, zN_lit, zN_add, zN_mul, zN_sub, zN_ltT, zN_ltF, zN_leT, zN_leF, zN_eqT, zN_eqF, zN_lt, zN_le, zN_eq, zN_nat, zN_oobF, Option.bind_some, ↓reduceIte, Nat.one_mul, Nat.zero_add, Nat.add_zero, Nat.reduceAdd, Nat.reduceMul, Nat.reduceSub, Nat.reduceLT, Nat.reduceLeDiff, Nat.reduceEqDiff, reduceCtorEq, true_or, or_true, false_or, or_false, true_and, and_true, false_and, and_false, not_true_eq_false, not_false_eq_true, wr_2, wrL_1, zm_eqF, zm_eqF', zm_lt, zm_lt', zm_le, zm_le', zm_sub1, zN_01, Nat.mul_zero, Nat.zero_mul, Nat.mul_one, Nat.sub_zero, Nat.sub_self, Nat.add_sub_cancel, a]
    unfold fX7_readTie_27
    rw [if_pos (show -zN 1 = -1 from rfl), f, h7]; rfl
theorem tie_step {T : List Nat} (hT : T.length ≤ 80) (hb : ∀ i, i < T.length → tt T i < 256) {P Q : Nat → Nat} (hP : Good P) (h : Pre P Q) (hn : Q 218 < 12) (hp : 5 * Q 218 < T.length) :
    (∃ Q', Pre P Q' ∧ Q' 218 = Q 218 + 1 ∧ 5 * Q 218 + 5 ≤ T.length ∧
      (∀ M, CT T M → Leaf M 10 Q → ∃ M', fX6_readTie (zN (5 * Q 218)) M = some (zN 0, M') ∧ Leaf M' 10 Q' ∧ fr (fun c _ => 10 ≤ c ∧ c < 20) M M') ∧
      (∀ M, MNow M P → TR T (5 * Q 218) M → RR Q M → ∃ M', fX7_readTie (zN (Q 218)) M = some M' ∧ TR T (5 * Q 218 + 5) M' ∧ RR Q' M' ∧ fr (fun c j => c = 162 ∨ (c = 158 ∧ j = 7)) M M')) ∨
    ∃ e, e < 1000 ∧ (∀ M, CT T M → Leaf M 10 Q → fX6_readTie (zN (5 * Q 218)) M = some (-zN 1 - zN e, M)) ∧
      (∀ M, MNow M P → TR T (5 * Q 218) M → RR Q M → ∃ M', fX7_readTie (zN (Q 218)) M = some M' ∧ M'.1 158 8 = zN e ∧ fr (fun c j => c = 162 ∨ (c = 158 ∧ (j = 7 ∨ j = 8))) M M') := by
  by_cases c3 : tt T (5 * Q 218) = 105 ∨ tt T (5 * Q 218) = 111
  · obtain ⟨s, hs, h6, h7⟩ : ∃ s, (s = 1 ∨ s = 2) ∧ (∀ M, CT T M → fX6_readTie (zN (5 * Q 218)) M = fX6_readTie_30 (zN (5 * Q 218)) (zN s) M) ∧ (∀ M, TR T (5 * Q 218) M → fX7_readTie (zN (Q 218)) M = fX7_readTie_27 (zN (Q 218)) (zN s) M) := by
      rcases c3 with c | c
      · exact ⟨1, by omega, fun M hM => (tieH6 hT hb hM hp).1 c, fun M ht => (tieH7 _ hT hb ht hp).1 c⟩
      · exact ⟨2, by omega, fun M hM => (tieH6 hT hb hM hp).2.1 c, fun M ht => (tieH7 _ hT hb ht hp).2.1 c⟩
    rcases tie30 hT hb hP h rfl hn rfl hs with ⟨v, w, hv, hw, hl, k6, k7⟩ | ⟨e, he, k6, k7⟩
    · exact Or.inl ⟨tiA Q s v w, Pre_tiA h hn hs hv hw, tiA_n Q, hl, fun M hM hL => by rw [h6 M hM]; exact k6 M hM hL, fun M hM ht hr => by rw [h7 M ht]; exact k7 M hM ht hr⟩
    · exact Or.inr ⟨e, he, fun M hM hL => by rw [h6 M hM]; exact k6 M hM hL, fun M hM ht hr => by rw [h7 M ht]; exact k7 M hM ht hr⟩
  · right
    refine ⟨5 * Q 218, by omega, fun M hM hL => (tieH6 hT hb hM hp).2.2 (by omega) (by omega), fun M hM ht hr => ⟨_, (tieH7 _ hT hb ht hp).2.2 (by omega) (by omega), wr_cj _ _ _ _, fr_wr (fr_refl _ _) (by omega)⟩⟩
theorem ties_end7 {T : List Nat} (hT : T.length ≤ 80) {i m : Nat} {M : zMM} (ht : TR T T.length M) : fX7_ties_11 (m + 1) (zN i) M = fX7_ties_57 (zN i) M := by
  have a := fineT ht.2.2.1
  have b := ht.1
  have c := ht.2.1
  rw [fX7_ties_11]; simp (disch := omega) only [wr_cj, wr_nj, rng_in, rng_out, zN_lit, zN_add, zN_mul, zN_sub, zN_ltT, zN_ltF, zN_leT, zN_leF, zN_eqT, zN_eqF, zN_lt, zN_le, zN_eq, zN_nat, zN_oobF, Option.bind_some, ↓reduceIte, Nat.one_mul, Nat.zero_add, Nat.add_zero, Nat.reduceAdd, Nat.reduceMul, Nat.reduceSub, Nat.reduceLT, Nat.reduceLeDiff, Nat.reduceEqDiff, reduceCtorEq, true_or, or_true, false_or, or_false, true_and, and_true, false_and, and_false, not_true_eq_false, not_false_eq_true, wr_2, wrL_1, zm_eqF, zm_eqF', zm_lt, zm_lt', zm_le, zm_le', zm_sub1, zN_01, Nat.mul_zero, Nat.zero_mul, Nat.mul_one, Nat.sub_zero, Nat.sub_self, Nat.add_sub_cancel, a, b, c]
theorem ties_bad7 {e m : Nat} {l : Int32} {M : zMM} (h : M.1 158 8 = zN e) (he : e < 1000) : fX7_ties_11 (m + 1) l M = fX7_ties_57 l M := by
  have a := fineF h he
  rw [fX7_ties_11, a, Option.bind_some, if_pos z00]
theorem ties_chk {T : List Nat} (hT : T.length ≤ 80) (hb : ∀ i, i < T.length → tt T i < 256) {P : Nat → Nat} (hP : Good P) : ∀ n Q, Pre P Q → n = 12 - Q 218 → Q 218 ≤ 12 → 5 * Q 218 ≤ T.length →
    (∃ Q', Pre P Q' ∧
      (∀ M fuel, n + 1 < fuel → CT T M → Leaf M 10 Q → ∃ M', fX6_readTies_21 fuel (zN (5 * Q 218)) M = ((fX0_copy 0 10 M').bind fun q2 => some ((q2.1 0 6), q2)) ∧ Leaf M' 10 Q' ∧ fr (fun c _ => 10 ≤ c ∧ c < 20) M M') ∧
      (∀ M fuel, n + 3 < fuel → MNow M P → TR T (5 * Q 218) M → RR Q M → ∃ M', fX7_ties_11 fuel (zN (Q 218)) M = fX7_ties_57 (zN (Q' 218)) M' ∧ TR T T.length M' ∧ RR Q' M' ∧ fr (fun c j => c = 162 ∨ (c = 158 ∧ (j = 7 ∨ j = 8))) M M')) ∨
    ∃ e, e < 1000 ∧ (∀ M fuel, n + 1 < fuel → CT T M → Leaf M 10 Q → ∃ M', fX6_readTies_21 fuel (zN (5 * Q 218)) M = some (-zN 1 - zN e, M') ∧ fr (fun c _ => 10 ≤ c ∧ c < 20) M M') ∧
      (∀ M fuel, n + 3 < fuel → MNow M P → TR T (5 * Q 218) M → RR Q M → ∃ M' l, fX7_ties_11 fuel (zN (Q 218)) M = fX7_ties_57 l M' ∧ M'.1 158 8 = zN e ∧ fr (fun c j => c = 162 ∨ (c = 158 ∧ (j = 7 ∨ j = 8))) M M') := by
  intro n
  induction n with
  | zero =>
    intro Q h hn hi hl
    have q12 : Q 218 = 12 := by omega
    by_cases fin : T.length = 5 * Q 218
    · left
      refine ⟨Q, h, fun M fuel hf hM hL => ?_, fun M fuel hf hM ht hr => ?_⟩
      · obtain ⟨fu, rfl⟩ : ∃ q, fuel = q + 1 := ⟨fuel - 1, by omega⟩
        refine ⟨M, ?_, hL, fr_refl _ _⟩
        have a := hM.1
        rw [fX6_readTies_21]; simp (disch := omega) only [wr_cj, wr_nj, rng_in, rng_out, zN_lit, zN_add, zN_mul, zN_sub, zN_ltT, zN_ltF, zN_leT, zN_leF, zN_eqT, zN_eqF, zN_lt, zN_le, zN_eq, zN_nat, zN_oobF, Option.bind_some, ↓reduceIte, Nat.one_mul, Nat.zero_add, Nat.add_zero, Nat.reduceAdd, Nat.reduceMul, Nat.reduceSub, Nat.reduceLT, Nat.reduceLeDiff, Nat.reduceEqDiff, reduceCtorEq, true_or, or_true, false_or, or_false, true_and, and_true, false_and, and_false, not_true_eq_false, not_false_eq_true, wr_2, wrL_1, zm_eqF, zm_eqF', zm_lt, zm_lt', zm_le, zm_le', zm_sub1, zN_01, Nat.mul_zero, Nat.zero_mul, Nat.mul_one, Nat.sub_zero, Nat.sub_self, Nat.add_sub_cancel, a]
      · obtain ⟨fu, rfl⟩ : ∃ q, fuel = q + 1 := ⟨fuel - 1, by omega⟩
        rw [← fin] at ht
        exact ⟨M, ties_end7 hT ht, ht, hr, fr_refl _ _⟩
    · right
      refine ⟨60, by omega, fun M fuel hf hM hL => ⟨M, ?_, fr_refl _ _⟩, fun M fuel hf hM ht hr => ?_⟩
      · obtain ⟨fu, rfl⟩ : ∃ q, fuel = q + 1 := ⟨fuel - 1, by omega⟩
        have a := hM.1
        have l6 : M.1 10 6 = zN 12 := by rw [← q12]; exact hL.1.2.2.2.2.2.2
        have r : fX6_readTie (zN 60) M = some (-zN 1 - zN 60, M) := by
          have hh := tieH6 (p := 60) hT hb hM (by omega)
          have e30 : ∀ s, s < 3 → fX6_readTie_30 (zN 60) (zN s) M = some (-zN 1 - zN 60, M) := by
            intro s hs
            unfold fX6_readTie_30
            rw [if_neg (zN_nn (by omega)), l6, if_neg (by decide)]; rfl
          by_cases c1 : tt T 60 = 105
          · rw [hh.1 c1, e30 1 (by omega)]
          · by_cases c2 : tt T 60 = 111
            · rw [hh.2.1 c2, e30 2 (by omega)]
            · exact hh.2.2 c1 c2
        rw [q12, fX6_readTies_21, a, if_neg (show ¬ zN T.length ≤ zN 60 by rw [zN_leF (by omega)]; exact id), r, Option.bind_some, if_neg (ge0F (by omega))]
      · obtain ⟨fu, rfl⟩ : ∃ q, fuel = q + 1 + 1 := ⟨fuel - 2, by omega⟩
        have a := fineT ht.2.2.1
        have b := ht.1
        have c := ht.2.1
        rw [q12] at c
        have f := faultT ht.2.2.1 (zN 60)
        have e8 : (wr M 158 8 (zN 60)).1 158 8 = zN 60 := wr_cj _ _ _ _
        refine ⟨wr M 158 8 (zN 60), zN 12, ?_, e8, fr_wr (fr_refl _ _) (by omega)⟩
        rw [q12, fX7_ties_11, a, Option.bind_some, if_neg nz10']
        dsimp only
        rw [b, c, if_neg (show ¬ zN T.length ≤ zN (5 * 12) by rw [zN_leF (by omega)]; exact id), if_pos (show zN 12 = 12 from rfl)]
        have f' : fX7_fault (zN (5 * 12)) M = some (wr M 158 8 (zN 60)) := f
        rw [f', Option.bind_some]
        exact ties_bad7 e8 (by omega)
  | succ n ih =>
    intro Q h hn hi hl
    by_cases fin : T.length = 5 * Q 218
    · left
      refine ⟨Q, h, fun M fuel hf hM hL => ?_, fun M fuel hf hM ht hr => ?_⟩
      · obtain ⟨fu, rfl⟩ : ∃ q, fuel = q + 1 := ⟨fuel - 1, by omega⟩
        refine ⟨M, ?_, hL, fr_refl _ _⟩
        have a := hM.1
        rw [fX6_readTies_21]; simp (disch := omega) only [wr_cj, wr_nj, rng_in, rng_out, zN_lit, zN_add, zN_mul, zN_sub, zN_ltT, zN_ltF, zN_leT, zN_leF, zN_eqT, zN_eqF, zN_lt, zN_le, zN_eq, zN_nat, zN_oobF, Option.bind_some, ↓reduceIte, Nat.one_mul, Nat.zero_add, Nat.add_zero, Nat.reduceAdd, Nat.reduceMul, Nat.reduceSub, Nat.reduceLT, Nat.reduceLeDiff, Nat.reduceEqDiff, reduceCtorEq, true_or, or_true, false_or, or_false, true_and, and_true, false_and, and_false, not_true_eq_false, not_false_eq_true, wr_2, wrL_1, zm_eqF, zm_eqF', zm_lt, zm_lt', zm_le, zm_le', zm_sub1, zN_01, Nat.mul_zero, Nat.zero_mul, Nat.mul_one, Nat.sub_zero, Nat.sub_self, Nat.add_sub_cancel, a]
      · obtain ⟨fu, rfl⟩ : ∃ q, fuel = q + 1 := ⟨fuel - 1, by omega⟩
        rw [← fin] at ht
        exact ⟨M, ties_end7 hT ht, ht, hr, fr_refl _ _⟩
    · have pl : ¬ zN T.length ≤ zN (5 * Q 218) := by rw [zN_leF (by omega)]; exact id
      have p5 : zN (5 * Q 218) + 5 = zN (5 * Q 218 + 5) := zN_add _ 5
      have i1 : zN (Q 218) + 1 = zN (Q 218 + 1) := zN_add _ 1
      have n12 : ¬ zN (Q 218) = 12 := by show ¬ zN (Q 218) = zN 12; rw [zN_eqF (by omega)]; exact id
      rcases tie_step hT hb hP h (by omega) (by omega) with ⟨Q', h', q', l', s6, s7⟩ | ⟨e, he, s6, s7⟩
      · have g6 : ∀ M fu, CT T M → Leaf M 10 Q → ∃ M', fX6_readTies_21 (fu + 1) (zN (5 * Q 218)) M = fX6_readTies_21 fu (zN (5 * Q' 218)) M' ∧ CT T M' ∧ Leaf M' 10 Q' ∧ fr (fun c _ => 10 ≤ c ∧ c < 20) M M' := by
          intro M fu hM hL
          obtain ⟨M', e1, l1, f1⟩ := s6 M hM hL
          refine ⟨M', ?_, CT_fr hM (fun c j a => f1.1 c j (by omega)), l1, f1⟩
          have a := hM.1
          rw [fX6_readTies_21, a, if_neg pl, e1, Option.bind_some, if_pos (ge0 (by omega)), p5, q']; rfl
        have g7 : ∀ M fu, MNow M P → TR T (5 * Q 218) M → RR Q M → ∃ M', fX7_ties_11 (fu + 1) (zN (Q 218)) M = fX7_ties_11 fu (zN (Q' 218)) M' ∧ MNow M' P ∧ TR T (5 * Q' 218) M' ∧ RR Q' M' ∧ fr (fun c j => c = 162 ∨ (c = 158 ∧ (j = 7 ∨ j = 8))) M M' := by
          intro M fu hM ht hr
          obtain ⟨M', e1, t1, r1, f1⟩ := s7 M hM ht hr
          refine ⟨M', ?_, fun j hj => by rw [f1.1 _ _ (by omega)]; exact hM j hj, by rw [show 5 * Q' 218 = 5 * Q 218 + 5 by omega]; exact t1, r1, fr_mono f1 (fun c j a => by omega)⟩
          have a := fineT ht.2.2.1
          have b := ht.1
          have c := ht.2.1
          rw [fX7_ties_11, a, Option.bind_some, if_neg nz10']
          dsimp only
          rw [b, c, if_neg pl, if_neg n12, e1, Option.bind_some, i1, q']
        rcases ih Q' h' (by omega) (by omega) (by omega) with ⟨Q2, h2, k6, k7⟩ | ⟨e, he, k6, k7⟩
        · left
          refine ⟨Q2, h2, fun M fuel hf hM hL => ?_, fun M fuel hf hM ht hr => ?_⟩
          · obtain ⟨fu, rfl⟩ : ∃ q, fuel = q + 1 := ⟨fuel - 1, by omega⟩
            obtain ⟨M1, e1, c1, l1, f1⟩ := g6 M fu hM hL
            obtain ⟨M2, e2, l2, f2⟩ := k6 M1 fu (by omega) c1 l1
            exact ⟨M2, by rw [e1, e2], l2, fr_trans f1 f2⟩
          · obtain ⟨fu, rfl⟩ : ∃ q, fuel = q + 1 := ⟨fuel - 1, by omega⟩
            obtain ⟨M1, e1, c1, l1, r1, f1⟩ := g7 M fu hM ht hr
            obtain ⟨M2, e2, l2, r2, f2⟩ := k7 M1 fu (by omega) c1 l1 r1
            exact ⟨M2, by rw [e1, e2], l2, r2, fr_trans f1 f2⟩
        · right
          refine ⟨e, he, fun M fuel hf hM hL => ?_, fun M fuel hf hM ht hr => ?_⟩
          · obtain ⟨fu, rfl⟩ : ∃ q, fuel = q + 1 := ⟨fuel - 1, by omega⟩
            obtain ⟨M1, e1, c1, l1, f1⟩ := g6 M fu hM hL
            obtain ⟨M2, e2, f2⟩ := k6 M1 fu (by omega) c1 l1
            exact ⟨M2, by rw [e1, e2], fr_trans f1 f2⟩
          · obtain ⟨fu, rfl⟩ : ∃ q, fuel = q + 1 := ⟨fuel - 1, by omega⟩
            obtain ⟨M1, e1, c1, l1, r1, f1⟩ := g7 M fu hM ht hr
            obtain ⟨M2, l, e2, l2, f2⟩ := k7 M1 fu (by omega) c1 l1 r1
            exact ⟨M2, l, by rw [e1, e2], l2, fr_trans f1 f2⟩
      · right
        refine ⟨e, he, fun M fuel hf hM hL => ⟨M, ?_, fr_refl _ _⟩, fun M fuel hf hM ht hr => ?_⟩
        · obtain ⟨fu, rfl⟩ : ∃ q, fuel = q + 1 := ⟨fuel - 1, by omega⟩
          have a := hM.1
          rw [fX6_readTies_21, a, if_neg pl, s6 M hM hL, Option.bind_some, if_neg (ge0F he)]
        · obtain ⟨fu, rfl⟩ : ∃ q, fuel = q + 1 + 1 := ⟨fuel - 2, by omega⟩
          obtain ⟨M1, e1, k1, f1⟩ := s7 M hM ht hr
          have a := fineT ht.2.2.1
          have b := ht.1
          have c := ht.2.1
          refine ⟨M1, zN (Q 218 + 1), ?_, k1, f1⟩
          rw [fX7_ties_11, a, Option.bind_some, if_neg nz10']
          dsimp only
          rw [b, c, if_neg pl, if_neg n12, e1, Option.bind_some, i1]
          exact ties_bad7 k1 he
theorem ties7 {P Q : Nat → Nat} (h : Pre P Q) {M : zMM} (hM : MNow M P) (hr : RR Q M) : ∃ M', fX7_ties_86 zFU (zN (Q 218)) (zN 0) (wr M 159 218 (zN (Q 218))) = some (zN (Q 218), M') ∧ MNow M' Q ∧ fr (fun c _ => c = 159) M M' := by
  obtain ⟨lo, gQ, hz⟩ := h
  have h12 := gQ.2.2.1.1
  have key := loopE (fun m (s : Nat × zMM) => fX7_ties_86 m (zN (Q 218)) (zN s.1) s.2) (fun i s => s.1 = i ∧ (∀ j, j < i → s.2.1 159 (219 + j) = zN (Q (219 + j))) ∧ fr (fun c j => c = 159 ∧ 219 ≤ j ∧ j < 255) (wr M 159 218 (zN (Q 218))) s.2) 36 (fun r => ∃ M', r = some (zN (Q 218), M') ∧ (∀ j, j < 36 → M'.1 159 (219 + j) = zN (Q (219 + j))) ∧ fr (fun c j => c = 159 ∧ 219 ≤ j ∧ j < 255) (wr M 159 218 (zN (Q 218))) M')
    (by
      rintro i m ⟨i0, M'⟩ hi ⟨rfl, h1, h2⟩
      dsimp only at h1 h2 hi ⊢
      right
      refine ⟨(i0 + 1, wr M' 159 (219 + i0) (zN (Q (219 + i0)))), ?_, rfl, ?_, fr_wr h2 (by omega)⟩
      · by_cases c : 3 * Q 218 ≤ i0
        · have e := hz (219 + i0) (by omega) (by omega)
          rw [fX7_ties_86, e]
          simp (disch := omega) only [wr_cj, wr_nj, rng_in, rng_out, zN_lit, zN_add, zN_mul, zN_sub, zN_ltT, zN_ltF, zN_leT, zN_leF, zN_eqT, zN_eqF, zN_lt, zN_le, zN_eq, zN_nat, zN_oobF, Option.bind_some, ↓reduceIte, Nat.one_mul, Nat.zero_add, Nat.add_zero, Nat.reduceAdd, Nat.reduceMul, Nat.reduceSub, Nat.reduceLT, Nat.reduceLeDiff, Nat.reduceEqDiff, reduceCtorEq, true_or, or_true, false_or, or_false, true_and, and_true, false_and, and_false, not_true_eq_false, not_false_eq_true, wr_2, wrL_1, zm_eqF, zm_eqF', zm_lt, zm_lt', zm_le, zm_le', zm_sub1, zN_01, Nat.mul_zero, Nat.zero_mul, Nat.mul_one, Nat.sub_zero, Nat.sub_self, Nat.add_sub_cancel, fX7_ties_118]
        · have r := h2.1 162 i0 (by omega)
          rw [wr_nj (by omega), hr i0 (by omega)] at r
          rw [fX7_ties_86]
          simp (disch := omega) only [wr_cj, wr_nj, rng_in, rng_out, zN_lit, zN_add, zN_mul, zN_sub, zN_ltT, zN_ltF, zN_leT, zN_leF, zN_eqT, zN_eqF, zN_lt, zN_le, zN_eq, zN_nat, zN_oobF, Option.bind_some, ↓reduceIte, Nat.one_mul, Nat.zero_add, Nat.add_zero, Nat.reduceAdd, Nat.reduceMul, Nat.reduceSub, Nat.reduceLT, Nat.reduceLeDiff, Nat.reduceEqDiff, reduceCtorEq, true_or, or_true, false_or, or_false, true_and, and_true, false_and, and_false, not_true_eq_false, not_false_eq_true, wr_2, wrL_1, zm_eqF, zm_eqF', zm_lt, zm_lt', zm_le, zm_le', zm_sub1, zN_01, Nat.mul_zero, Nat.zero_mul, Nat.mul_one, Nat.sub_zero, Nat.sub_self, Nat.add_sub_cancel, r, fX7_ties_118]
      · intro j hj
        show (wr M' 159 (219 + i0) (zN (Q (219 + i0)))).1 159 (219 + j) = _
        by_cases e : j = i0
        · rw [e, wr_cj]
        · rw [wr_nj (by omega)]; exact h1 j (by omega))
    (by
      rintro m ⟨i0, M'⟩ ⟨rfl, h1, h2⟩
      dsimp only at h1 h2 ⊢
      refine ⟨M', ?_, h1, h2⟩
      rw [fX7_ties_86]; simp (disch := omega) only [wr_cj, wr_nj, rng_in, rng_out, zN_lit, zN_add, zN_mul, zN_sub, zN_ltT, zN_ltF, zN_leT, zN_leF, zN_eqT, zN_eqF, zN_lt, zN_le, zN_eq, zN_nat, zN_oobF, Option.bind_some, ↓reduceIte, Nat.one_mul, Nat.zero_add, Nat.add_zero, Nat.reduceAdd, Nat.reduceMul, Nat.reduceSub, Nat.reduceLT, Nat.reduceLeDiff, Nat.reduceEqDiff, reduceCtorEq, true_or, or_true, false_or, or_false, true_and, and_true, false_and, and_false, not_true_eq_false, not_false_eq_true, wr_2, wrL_1, zm_eqF, zm_eqF', zm_lt, zm_lt', zm_le, zm_le', zm_sub1, zN_01, Nat.mul_zero, Nat.zero_mul, Nat.mul_one, Nat.sub_zero, Nat.sub_self, Nat.add_sub_cancel])
    zFU (0, wr M 159 218 (zN (Q 218))) (by rw [zFU_eq]; omega) ⟨rfl, fun j hj => absurd hj (by omega), fr_refl _ _⟩
  obtain ⟨M1, e1, k1, k2⟩ := key
  refine ⟨M1, e1, fun j hj => ?_, fr_trans (fr_wr (fr_refl _ _) (by omega)) (fr_mono k2 (fun c j a => by omega))⟩
  by_cases c0 : j = 218
  · rw [c0, k2.1 _ _ (by omega), wr_cj]
  · by_cases c1 : 219 ≤ j ∧ j < 255
    · have := k1 (j - 219) (by omega)
      rw [show 219 + (j - 219) = j by omega] at this
      exact this
    · rw [k2.1 _ _ (by omega), wr_nj (by omega), lo j (by omega)]; exact hM j hj
theorem call_ties : Cll fX6_ties fX7_ties := by
  refine Cll_of (fun P T R U K hw => ?_)
  have hP := hw.1
  have hU := hw.2.2.2.1.1
  have hT := hw.2.1.1
  have hb : ∀ i, i < T.length → tt T i < 256 := hw.2.1.2
  have hwn : WF P [] R U K := ⟨hP, ⟨by simp, fun i hi => absurd hi (by simp)⟩, hw.2.2⟩
  have z0 : ti0 P 218 = 0 := by unfold ti0; rw [if_pos (by omega)]
  have st6 : ∀ M, Leaf M 0 P → CT T M → ∃ M1, fX6_readTies M = fX6_readTies_21 zFU (zN 0) M1 ∧ Leaf M1 10 (ti0 P) ∧ CT T M1 ∧ Leaf M1 0 P ∧ fr (fun c _ => 10 ≤ c ∧ c < 20) M M1 := by
    intro M hL hM
    obtain ⟨M1, e1, l1, f1⟩ := copy0 hP (b := 10) hL (by omega)
    have f2 : fr (fun c _ => 10 ≤ c ∧ c < 20) M (wr M1 10 6 (zN 0)) := fr_wr (fr_mono f1 (fun c j a => by omega)) (by omega)
    refine ⟨wr M1 10 6 (zN 0), ?_, ?_, CT_fr hM (fun c j a => f2.1 c j (by omega)), Leaf_eq hL (fun c j a b => f2.1 c j (by omega)), f2⟩
    · unfold fX6_readTies
      rw [e1, Option.bind_some]; rfl
    · obtain ⟨⟨l0, l1, l2, l3, l4, l5, l6⟩, lw, lc, ls, lt⟩ := l1
      have lo : ∀ j, (j < 218 ∨ 255 ≤ j) → ti0 P j = P j := (Pre_ti0 hP).1
      refine ⟨⟨?_, ?_, ?_, ?_, ?_, ?_, ?_⟩, ?_, ?_, ?_, ?_⟩
      · rw [wr_nj (by omega), lo _ (by omega)]; exact l0
      · rw [wr_nj (by omega), lo _ (by omega)]; exact l1
      · rw [wr_nj (by omega), lo _ (by omega)]; exact l2
      · rw [wr_nj (by omega), lo _ (by omega)]; exact l3
      · rw [wr_nj (by omega), lo _ (by omega)]; exact l4
      · rw [wr_nj (by omega), lo _ (by omega)]; exact l5
      · rw [wr_cj, z0]
      · intro i hi; rw [wr_nj (by omega), lo _ (by omega)]; exact lw i hi
      · intro i hi; rw [wr_nj (by omega), lo _ (by omega)]; exact lc i hi
      · intro u hu k hk
        rw [lo _ (by omega)] at hk
        have := (hP.2.1 u hu).1
        unfold pSz
        rw [wr_nj (by omega), lo _ (by omega)]; exact ls u hu k hk
      · intro i hi; rw [z0] at hi; exact absurd hi (by omega)
  have em : ∀ M M1, fX7_begin (wr M 158 5 0) = some M1 → fX7_ties M = fX7_ties_11 zFU (zN 0) M1 := by
    intro M M1 e
    unfold fX7_ties
    rw [e, Option.bind_some]; rfl
  have rr0 : ∀ M, RR (ti0 P) M := fun M j hj => by rw [z0] at hj; exact absurd hj (by omega)
  rcases ties_chk hT hb hP 12 (ti0 P) (Pre_ti0 hP) (by omega) (by omega) (by omega) with ⟨Q, h, k6, k7⟩ | ⟨e, he, k6, k7⟩
  · rw [z0, Nat.mul_zero] at k6 k7
    have h12 := h.2.1.2.2.1.1
    refine ⟨zN (Q 218), Q, [], R, (P :: U).take 7, K, WF_chg hwn h.2.1, ?_, fun M hM => ?_⟩
    · refine (LT_CD hw (f := fX6_readTies) (fun M hL hM => ?_)).2 (zN_nn (by omega))
      obtain ⟨M1, e1, l1, c1, p1, f1⟩ := st6 M hL hM
      obtain ⟨M2, e2, l2, f2⟩ := k6 M1 zFU (by rw [zFU_eq]; omega) c1 l1
      obtain ⟨M3, e3, l3, f3⟩ := copy0 h.2.1 (b := 0) l2 (by omega)
      refine ⟨M3, ?_, l3, fr_trans (fr_mono f1 (fun c j a => by unfold CW; omega)) (fr_trans (fr_mono f2 (fun c j a => by unfold CW; omega)) (fr_mono f3 (fun c j a => by unfold CW; omega)))⟩
      have l36 : M3.1 0 6 = zN (Q 218) := l3.1.2.2.2.2.2.2
      rw [e1, e2, e3, Option.bind_some, l36]
    · obtain ⟨M1, e1, i1, t1, f1⟩ := begin7 hM
      obtain ⟨M2, e2, t2, r2, f2⟩ := k7 M1 zFU (by rw [zFU_eq]; omega) i1.1 t1 (rr0 M1)
      have i2 : MI P [] R U K M2 := MI_sc i1 f2 (fun c j a => by unfold MSc; omega)
      obtain ⟨M3, e3, i3, f3⟩ := chg7 hU i2
      obtain ⟨M4, e4, n4, f4⟩ := ties7 h i3.1 (fun j hj => by rw [f3.1 _ _ (by omega)]; exact r2 j hj)
      refine ⟨M4, ?_, MI_now i3 f4 n4, frM_trans f1 (frM_trans (frM_fr f2 (fun c j a => by omega)) (frM_trans (frM_fr f3 (fun c j a => by omega)) (frM_fr f4 (fun c j a => by omega))))⟩
      rw [em M M1 e1, e2]
      unfold fX7_ties_57
      rw [rightT hT t2, Option.bind_some, if_neg nz10', e3, Option.bind_some]
      exact e4
  · rw [z0, Nat.mul_zero] at k6 k7
    refine ⟨-zN 1 - zN e, P, [], R, U, K, hwn, ?_, fun M hM => ?_⟩
    · refine (LT_CD (P' := P) hw (f := fX6_readTies) (fun M hL hM => ?_)).1 (zme_neg (by omega)) rfl
      obtain ⟨M1, e1, l1, c1, p1, f1⟩ := st6 M hL hM
      obtain ⟨M2, e2, f2⟩ := k6 M1 zFU (by rw [zFU_eq]; omega) c1 l1
      exact ⟨M2, by rw [e1, e2], Leaf_eq p1 (fun c j a b => f2.1 c j (by omega)), fr_trans (fr_mono f1 (fun c j a => by unfold CW; omega)) (fr_mono f2 (fun c j a => by unfold CW; omega))⟩
    · obtain ⟨M1, e1, i1, t1, f1⟩ := begin7 hM
      obtain ⟨M2, l, e2, k2, f2⟩ := k7 M1 zFU (by rw [zFU_eq]; omega) i1.1 t1 (rr0 M1)
      have i2 : MI P [] R U K M2 := MI_sc i1 f2 (fun c j a => by unfold MSc; omega)
      refine ⟨M2, ?_, i2, frM_trans f1 (frM_fr f2 (fun c j a => by omega))⟩
      rw [em M M1 e1, e2]
      unfold fX7_ties_57
      rw [rightF k2 (by omega), Option.bind_some, if_pos z00]
      dsimp only
      rw [k2]; rfl
