/-! ties read from the text -/
def tiA (Q : Nat → Nat) (s v w : Nat) : Nat → Nat := fun j => if j = 218 then Q 218 + 1 else if j = 219 + 3 * Q 218 then s else if j = 220 + 3 * Q 218 then v else if j = 221 + 3 * Q 218 then w else Q j
def Pre (P Q : Nat → Nat) : Prop := (∀ j, (j < 218 ∨ 255 ≤ j) → Q j = P j) ∧ Good Q ∧ ∀ j, 219 + 3 * Q 218 ≤ j → j < 255 → Q j = 0
def ti0 (P : Nat → Nat) : Nat → Nat := fun j => if 218 ≤ j ∧ j < 255 then 0 else P j
theorem Pre_ti0 {P : Nat → Nat} (hP : Good P) : Pre P (ti0 P) := by
  obtain ⟨h1, h2, h3, h4⟩ := hP
  have lo : ∀ j, (j < 218 ∨ 255 ≤ j) → ti0 P j = P j := fun j hj => by unfold ti0; rw [if_neg (by omega)]
  have z : ti0 P 218 = 0 := by unfold ti0; rw [if_pos (by omega)]
  refine ⟨lo, ⟨?_, fun u hu => ?_, ?_, ?_⟩, fun j a b => by unfold ti0; rw [if_pos (by omega)]⟩
  · rw [lo 0 (by omega), lo 1 (by omega), lo 2 (by omega), lo 3 (by omega), lo 4 (by omega), lo 255 (by omega)]; exact h1
  · rw [lo _ (by omega)]
    refine ⟨(h2 u hu).1, fun k hk => ?_⟩
    have := (h2 u hu).1
    unfold pSz; rw [lo _ (by omega)]; exact (h2 u hu).2 k hk
  · rw [z]; exact ⟨by omega, fun i hi => absurd hi (by omega)⟩
  · rw [lo _ (by omega), lo _ (by omega), lo _ (by omega)]; exact h4
theorem tiA_out (Q : Nat → Nat) {s v w j : Nat} (h : j < 218 ∨ 222 + 3 * Q 218 ≤ j) : tiA Q s v w j = Q j := by
  unfold tiA; rw [if_neg (by omega), if_neg (by omega), if_neg (by omega), if_neg (by omega)]
theorem tiA_old (Q : Nat → Nat) {s v w j : Nat} (h : 219 ≤ j ∧ j < 219 + 3 * Q 218) : tiA Q s v w j = Q j := by
  unfold tiA; rw [if_neg (by omega), if_neg (by omega), if_neg (by omega), if_neg (by omega)]
theorem tiA_n (Q : Nat → Nat) {s v w : Nat} : tiA Q s v w 218 = Q 218 + 1 := by unfold tiA; rw [if_pos rfl]
theorem tiA_0 (Q : Nat → Nat) {s v w : Nat} : tiA Q s v w (219 + 3 * Q 218) = s := by unfold tiA; rw [if_neg (by omega), if_pos rfl]
theorem tiA_1 (Q : Nat → Nat) {s v w : Nat} : tiA Q s v w (220 + 3 * Q 218) = v := by unfold tiA; rw [if_neg (by omega), if_neg (by omega), if_pos rfl]
theorem tiA_2 (Q : Nat → Nat) {s v w : Nat} : tiA Q s v w (221 + 3 * Q 218) = w := by unfold tiA; rw [if_neg (by omega), if_neg (by omega), if_neg (by omega), if_pos rfl]
theorem Pre_tiA {P Q : Nat → Nat} (h : Pre P Q) {s v w : Nat} (hn : Q 218 < 12) (hs : s = 1 ∨ s = 2) (hv : v < Q (5 + s)) (hw : w < Q 5) : Pre P (tiA Q s v w) := by
  obtain ⟨lo, ⟨h1, h2, h3, h4⟩, hz⟩ := h
  refine ⟨fun j hj => by rw [tiA_out Q (by omega)]; exact lo j hj, ⟨?_, fun u hu => ?_, ?_, ?_⟩, fun j a b => ?_⟩
  · rw [tiA_out Q (j := 0) (by omega), tiA_out Q (j := 1) (by omega), tiA_out Q (j := 2) (by omega), tiA_out Q (j := 3) (by omega), tiA_out Q (j := 4) (by omega), tiA_out Q (j := 255) (by omega)]; exact h1
  · rw [tiA_out Q (by omega)]
    have := (h2 u hu).1
    refine ⟨this, fun k hk => ?_⟩
    unfold pSz; rw [tiA_out Q (by omega)]; exact (h2 u hu).2 k hk
  · rw [tiA_n]
    refine ⟨by omega, fun i hi => ?_⟩
    by_cases c : i = Q 218
    · subst c
      rw [tiA_0, tiA_1, tiA_2, tiA_out Q (j := 5 + s) (by omega), tiA_out Q (j := 5) (by omega)]
      exact ⟨hs, hv, hw⟩
    · have hh := h3.2 i (by omega)
      rw [tiA_old Q (j := 219 + 3 * i) (by omega), tiA_old Q (j := 220 + 3 * i) (by omega), tiA_old Q (j := 221 + 3 * i) (by omega), tiA_out Q (j := 5) (by omega), tiA_out Q (j := 5 + Q (219 + 3 * i)) (by omega)]
      exact hh
  · rw [tiA_out Q (by omega), tiA_out Q (by omega), tiA_out Q (by omega)]; exact h4
  · rw [tiA_n] at a
    rw [tiA_out Q (by omega)]; exact hz j (by omega) b
theorem addTie0 {Q : Nat → Nat} (hc : ∀ u, u < 3 → Q (5 + u) ≤ 70) {b s v w : Nat} {M : zMM} (hL : Leaf M b Q) (hn : Q 218 < 12) : ∃ M', fX0_addTie b (zN s) (zN v) (zN w) M = some M' ∧ Leaf M' b (tiA Q s v w) ∧ fr (fun c _ => c = b ∨ (b + 7 ≤ c ∧ c ≤ b + 9)) M M' := by
  obtain ⟨⟨l0, l1, l2, l3, l4, l5, l6⟩, lw, lc, ls, lt⟩ := hL
  let M' : zMM := wr (wr (wr (wr M (b + 7) (Q 218) (zN s)) (b + 8) (Q 218) (zN v)) (b + 9) (Q 218) (zN w)) b 6 (zN (Q 218 + 1))
  have f : fr (fun c j => (c = b ∧ j = 6) ∨ (b + 7 ≤ c ∧ c ≤ b + 9 ∧ j = Q 218)) M M' := fr_wr (fr_wr (fr_wr (fr_wr (fr_refl _ _) (by omega)) (by omega)) (by omega)) (by omega)
  refine ⟨M', ?_, ⟨⟨?_, ?_, ?_, ?_, ?_, ?_, ?_⟩, ?_, ?_, ?_, ?_⟩, fr_mono f (fun c j a => by omega)⟩
  · unfold fX0_addTie
    simp (disch := omega) only [wr_cj, wr_nj, rng_in, rng_out, zN_lit, zN_add, zN_mul, zN_sub, zN_ltT, zN_ltF, zN_leT, zN_leF, zN_eqT, zN_eqF, zN_lt, zN_le, zN_eq, zN_nat, zN_oobF, Option.bind_some, ↓reduceIte, Nat.one_mul, Nat.zero_add, Nat.add_zero, Nat.reduceAdd, Nat.reduceMul, Nat.reduceSub, Nat.reduceLT, Nat.reduceLeDiff, Nat.reduceEqDiff, reduceCtorEq, true_or, or_true, false_or, or_false, true_and, and_true, false_and, and_false, not_true_eq_false, not_false_eq_true, wr_2, wrL_1, zm_eqF, zm_eqF', zm_lt, zm_lt', zm_le, zm_le', zm_sub1, zN_01, Nat.mul_zero, Nat.zero_mul, Nat.mul_one, Nat.sub_zero, Nat.sub_self, Nat.add_sub_cancel, l6]
    rfl
  · rw [f.1 _ _ (by omega), tiA_out Q (by omega)]; exact l0
  · rw [f.1 _ _ (by omega), tiA_out Q (by omega)]; exact l1
  · rw [f.1 _ _ (by omega), tiA_out Q (by omega)]; exact l2
  · rw [f.1 _ _ (by omega), tiA_out Q (by omega)]; exact l3
  · rw [f.1 _ _ (by omega), tiA_out Q (by omega)]; exact l4
  · rw [f.1 _ _ (by omega), tiA_out Q (by omega)]; exact l5
  · rw [tiA_n]; exact wr_cj _ _ _ _
  · intro i hi; rw [f.1 _ _ (by omega), tiA_out Q (by omega)]; exact lw i hi
  · intro i hi; rw [f.1 _ _ (by omega), tiA_out Q (by omega)]; exact lc i hi
  · intro u hu k hk
    rw [tiA_out Q (by omega)] at hk
    have := hc u hu
    unfold pSz
    rw [f.1 _ _ (by omega), tiA_out Q (by omega)]; exact ls u hu k hk
  · intro i hi
    rw [tiA_n] at hi
    by_cases c : i = Q 218
    · subst c
      rw [tiA_0, tiA_1, tiA_2]
      simp only [M']
      refine ⟨?_, ?_, ?_⟩
      · rw [wr_nj (by omega), wr_nj (by omega), wr_nj (by omega), wr_cj]
      · rw [wr_nj (by omega), wr_nj (by omega), wr_cj]
      · rw [wr_nj (by omega), wr_cj]
    · rw [f.1 _ _ (by omega), f.1 _ _ (by omega), f.1 _ _ (by omega), tiA_old Q (j := 219 + 3 * i) (by omega), tiA_old Q (j := 220 + 3 * i) (by omega), tiA_old Q (j := 221 + 3 * i) (by omega)]
      exact lt i (by omega)
/-- the model's rows read so far -/
def RR (Q : Nat → Nat) (M : zMM) : Prop := ∀ j, j < 3 * Q 218 → M.1 162 j = zN (Q (219 + j))
theorem wasTied7 {Q : Nat → Nat} (hQ : Good Q) {s k : Nat} {M : zMM} (hM : RR Q M) (hs : s = 1 ∨ s = 2) (hk : k < 1000) : fX7_wasTied (zN (Q 218)) (zN s) (zN k) M = some (zN (if tdB Q s k then 1 else 0), M) := by
  have h12 := hQ.2.2.1.1
  have tbQ := Good_tb hQ
  have lp : ∀ f i fuel, Q 218 - i = f → i ≤ Q 218 → f < fuel → fX7_wasTied_3 (zN (Q 218)) (zN s) (zN k) fuel (zN i) M = some (zN (if tdF Q s k f i then 1 else 0), M) := by
    intro f
    induction f with
    | zero =>
      intro i fuel hf hi hfu
      obtain ⟨fu, rfl⟩ : ∃ q, fuel = q + 1 := ⟨fuel - 1, by omega⟩
      rw [fX7_wasTied_3]
      simp (disch := omega) only [wr_cj, wr_nj, rng_in, rng_out, zN_lit, zN_add, zN_mul, zN_sub, zN_ltT, zN_ltF, zN_leT, zN_leF, zN_eqT, zN_eqF, zN_lt, zN_le, zN_eq, zN_nat, zN_oobF, Option.bind_some, ↓reduceIte, Nat.one_mul, Nat.zero_add, Nat.add_zero, Nat.reduceAdd, Nat.reduceMul, Nat.reduceSub, Nat.reduceLT, Nat.reduceLeDiff, Nat.reduceEqDiff, reduceCtorEq, true_or, or_true, false_or, or_false, true_and, and_true, false_and, and_false, not_true_eq_false, not_false_eq_true, wr_2, wrL_1, zm_eqF, zm_eqF', zm_lt, zm_lt', zm_le, zm_le', zm_sub1, zN_01, Nat.mul_zero, Nat.zero_mul, Nat.mul_one, Nat.sub_zero, Nat.sub_self, Nat.add_sub_cancel, tdF, Bool.false_eq_true]
    | succ f ih =>
      intro i fuel hf hi hfu
      obtain ⟨fu, rfl⟩ : ∃ q, fuel = q + 1 := ⟨fuel - 1, by omega⟩
      have hb := tbQ.2 i (by omega)
      have a0 := hM (3 * i) (by omega)
      have a1 := hM (3 * i + 1) (by omega)
      rw [show 219 + (3 * i + 1) = 220 + 3 * i by omega] at a1
      have e := ih (i + 1) fu (by omega) (by omega) (by omega)
      rw [fX7_wasTied_3, tdF]
      unfold tdI
      rw [if_neg (show ¬ s = 0 by omega)]
      by_cases c : Q (219 + 3 * i) = s
      · by_cases d : Q (220 + 3 * i) = k
        · rw [c] at a0; rw [d] at a1
          simp only [c, d, decide_true, Bool.and_self, if_true]
          simp (disch := omega) only [wr_cj, wr_nj, rng_in, rng_out, zN_lit, zN_add, zN_mul, zN_sub, zN_ltT, zN_ltF, zN_leT, zN_leF, zN_eqT, zN_eqF, zN_lt, zN_le, zN_eq, zN_nat, zN_oobF, Option.bind_some, ↓reduceIte, Nat.one_mul, Nat.zero_add, Nat.add_zero, Nat.reduceAdd, Nat.reduceMul, Nat.reduceSub, Nat.reduceLT, Nat.reduceLeDiff, Nat.reduceEqDiff, reduceCtorEq, true_or, or_true, false_or, or_false, true_and, and_true, false_and, and_false, not_true_eq_false, not_false_eq_true, wr_2, wrL_1, zm_eqF, zm_eqF', zm_lt, zm_lt', zm_le, zm_le', zm_sub1, zN_01, Nat.mul_zero, Nat.zero_mul, Nat.mul_one, Nat.sub_zero, Nat.sub_self, Nat.add_sub_cancel, a0, a1]
        · rw [c] at a0
          simp only [c, d, decide_true, decide_false, Bool.and_false, Bool.false_eq_true, if_false]
          simp (disch := omega) only [wr_cj, wr_nj, rng_in, rng_out, zN_lit, zN_add, zN_mul, zN_sub, zN_ltT, zN_ltF, zN_leT, zN_leF, zN_eqT, zN_eqF, zN_lt, zN_le, zN_eq, zN_nat, zN_oobF, Option.bind_some, ↓reduceIte, Nat.one_mul, Nat.zero_add, Nat.add_zero, Nat.reduceAdd, Nat.reduceMul, Nat.reduceSub, Nat.reduceLT, Nat.reduceLeDiff, Nat.reduceEqDiff, reduceCtorEq, true_or, or_true, false_or, or_false, true_and, and_true, false_and, and_false, not_true_eq_false, not_false_eq_true, wr_2, wrL_1, zm_eqF, zm_eqF', zm_lt, zm_lt', zm_le, zm_le', zm_sub1, zN_01, Nat.mul_zero, Nat.zero_mul, Nat.mul_one, Nat.sub_zero, Nat.sub_self, Nat.add_sub_cancel, a0, a1, fX7_wasTied_39, e]
      · simp only [c, decide_false, Bool.false_and, Bool.false_eq_true, if_false]
        simp (disch := omega) only [wr_cj, wr_nj, rng_in, rng_out, zN_lit, zN_add, zN_mul, zN_sub, zN_ltT, zN_ltF, zN_leT, zN_leF, zN_eqT, zN_eqF, zN_lt, zN_le, zN_eq, zN_nat, zN_oobF, Option.bind_some, ↓reduceIte, Nat.one_mul, Nat.zero_add, Nat.add_zero, Nat.reduceAdd, Nat.reduceMul, Nat.reduceSub, Nat.reduceLT, Nat.reduceLeDiff, Nat.reduceEqDiff, reduceCtorEq, true_or, or_true, false_or, or_false, true_and, and_true, false_and, and_false, not_true_eq_false, not_false_eq_true, wr_2, wrL_1, zm_eqF, zm_eqF', zm_lt, zm_lt', zm_le, zm_le', zm_sub1, zN_01, Nat.mul_zero, Nat.zero_mul, Nat.mul_one, Nat.sub_zero, Nat.sub_self, Nat.add_sub_cancel, a0, fX7_wasTied_39, e]
  exact lp (Q 218) 0 zFU (by omega) (by omega) (by rw [zFU_eq]; omega)
