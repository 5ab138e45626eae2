/-! a sheet of sizes -/
theorem lg_neg (x y : Int64) : (lg_cmp x y < 0) ↔ x < y := by
  have h := lg_cmp_ge x y
  have e : ∀ a b : Int32, a < b ↔ ¬ b ≤ a := by
    intro a b; rw [Int32.lt_iff_toInt_lt, Int32.le_iff_toInt_le]; omega
  rw [e, h, Int64.lt_iff_toInt_lt, Int64.le_iff_toInt_le]; omega
theorem lsum (y : Int32) {i : Nat} (hi : i < 1000) : (y.toInt64 + (zN i).toInt64).toInt = y.toInt + i := by
  have := zR_toInt y
  unfold zR at this
  rw [Int64.toInt_add, Int32.toInt_toInt64, Int32.toInt_toInt64, zN_toInt (by omega), Int.bmod_eq_of_le] <;> omega
theorem sz_case (x : Int32) : (∃ v, 1 ≤ v ∧ v ≤ 9 ∧ x = zN v ∧ (∀ M, fX6_isSize x M = some (zN 1, M)) ∧ ∀ M, fX7_in x (zN 1) (zN 9) M = some (zN 1, M)) ∨ (∀ M, fX6_isSize x M = some (zN 0, M) ∧ fX7_in x (zN 1) (zN 9) M = some (zN 0, M)) := by
  rcases isSize_case x with ⟨v, a, b, c, d⟩ | h
  · exact Or.inl ⟨v, a, b, c, d, fun M => by rw [c]; exact in7T (by omega) M⟩
  · exact Or.inr h
theorem Leaf_upS {M : zMM} {b v t m : Nat} {P : Nat → Nat} (ht : t < 3) (hm : m < 70) (cok : ∀ t, t < 3 → P (5 + t) ≤ 70) (h : Leaf M b P) : Leaf (wr M (b + 4 + t) m (zN v)) b (up P (8 + 70 * t + m) v) := by
  obtain ⟨⟨l0, l1, l2, l3, l4, l5, l6⟩, lw, lc, ls, lt⟩ := h
  refine ⟨⟨by rw [wr_nj (by omega), up_ne (by omega)]; exact l0, by rw [wr_nj (by omega), up_ne (by omega)]; exact l1, by rw [wr_nj (by omega), up_ne (by omega)]; exact l2, by rw [wr_nj (by omega), up_ne (by omega)]; exact l3, by rw [wr_nj (by omega), up_ne (by omega)]; exact l4, by rw [wr_nj (by omega), up_ne (by omega)]; exact l5, by rw [wr_nj (by omega), up_ne (by omega)]; exact l6⟩, fun w hw => ?_, fun u hu => ?_, fun u hu k hk => ?_, fun i hi => ?_⟩
  · rw [wr_nj (by omega), up_ne (by omega)]; exact lw w hw
  · rw [wr_nj (by omega), up_ne (by omega)]; exact lc u hu
  · rw [up_ne (by omega)] at hk
    have := cok u hu
    unfold pSz
    by_cases e : u = t ∧ k = m
    · rw [e.1, e.2, wr_cj, up_eq]
    · rw [wr_nj (by omega), up_ne (by omega)]; exact ls u hu k hk
  · rw [up_ne (by omega)] at hi
    rw [wr_nj (by omega), wr_nj (by omega), wr_nj (by omega), up_ne (by omega), up_ne (by omega), up_ne (by omega)]; exact lt i hi
theorem Good_upS {P : Nat → Nat} (hP : Good P) {v t m : Nat} (ht : t < 3) (hm : m < 70) (hv : 1 ≤ v ∧ v ≤ 9) : Good (up P (8 + 70 * t + m) v) := by
  obtain ⟨h1, h2, h3, h4⟩ := hP
  refine ⟨?_, fun u hu => ?_, ?_, ?_⟩
  · simp (disch := omega) only [up_ne]; exact h1
  · have h2u := h2 u hu
    rw [up_ne (by omega)]
    refine ⟨h2u.1, fun k hk => ?_⟩
    unfold pSz
    by_cases e : u = t ∧ k = m
    · rw [e.1, e.2, up_eq]; exact hv
    · rw [up_ne (by omega)]; exact h2u.2 k hk
  · rw [up_ne (by omega)]
    refine ⟨h3.1, fun i hi => ?_⟩
    have := h3.2 i hi
    have := h3.1
    simp (disch := omega) only [up_ne]; exact h3.2 i hi
  · simp (disch := omega) only [up_ne]; exact h4
def shR (P : Nat → Nat) (t k : Nat) (e : Nat → Nat) : Nat → Nat → Nat
  | 0 => P
  | i + 1 => up (shR P t k e i) (8 + 70 * t + (k + i)) (e i)
def shC (P : Nat → Nat) (t k : Nat) (e : Nat → Nat) : Nat → Nat
  | 0 => 0
  | i + 1 => shC P t k e i + (if P (8 + 70 * t + (k + i)) = e i then 0 else 1)
theorem shR_out (P : Nat → Nat) (t k : Nat) (e : Nat → Nat) {j : Nat} : ∀ i, (j < 8 + 70 * t + k ∨ 8 + 70 * t + k + i ≤ j) → shR P t k e i j = P j := by
  intro i
  induction i with
  | zero => intro _; rfl
  | succ i ih => intro h; rw [shR, up_ne (by omega)]; exact ih (by omega)
theorem sheet_set {P : Nat → Nat} (hP : Good P) {t k n : Nat} {e : Nat → Nat} {kind f step : Int32} (ht : t < 3) (hk : k + n ≤ P (5 + t)) (he : ∀ i, i < n → 1 ≤ e i ∧ e i ≤ 9 ∧ ent kind f step i = zN (e i)) : Good (shR P t k e n) ∧
    (∀ M, Leaf M 0 P → ∃ M', fX6_sheet_126 (zN t) (zN k) kind (zN n) f step zFU (zN 0) (zN 0) M = some (zN (shC P t k e n), M') ∧ Leaf M' 0 (shR P t k e n) ∧ fr (fun c _ => c < 10) M M') ∧
    (∀ M, MNow M P → ∃ M', fX7_sheet_163 (zN t) (zN k) kind (zN n) f step zFU (zN 0) (zN 0) M = some (zN (shC P t k e n), M') ∧ MNow M' (shR P t k e n) ∧ fr (fun c _ => c = 159) M M') := by
  have hc := (hP.2.1 t ht).1
  have good : ∀ i, i ≤ n → Good (shR P t k e i) := by
    intro i
    induction i with
    | zero => intro _; exact hP
    | succ i ih =>
      intro hi
      have h := he i (by omega)
      exact Good_upS (ih (by omega)) ht (by omega) ⟨h.1, h.2.1⟩
  refine ⟨good n (Nat.le_refl _), fun M hL => ?_, fun M hM => ?_⟩
  · have key := loopE (fun m (s : Nat × zMM) => fX6_sheet_126 (zN t) (zN k) kind (zN n) f step m (zN (shC P t k e s.1)) (zN s.1) s.2) (fun i s => s.1 = i ∧ Leaf s.2 0 (shR P t k e i) ∧ fr (fun c _ => c < 10) M s.2) n (fun r => ∃ M', r = some (zN (shC P t k e n), M') ∧ Leaf M' 0 (shR P t k e n) ∧ fr (fun c _ => c < 10) M M')
      (by
        rintro i m ⟨i0, M'⟩ hi ⟨rfl, h1, h2⟩
        dsimp only at h1 h2 hi ⊢
        right
        have h := he i0 hi
        have g := good i0 (by omega)
        have ec : shR P t k e i0 (5 + t) = P (5 + t) := shR_out P t k e i0 (by omega)
        have es : shR P t k e i0 (8 + 70 * t + (k + i0)) = P (8 + 70 * t + (k + i0)) := shR_out P t k e i0 (by omega)
        have hw := hasWord0 g h1 ht (k := k + i0) (by omega)
        rw [ec, if_pos (by omega)] at hw
        have ls := h1.2.2.2.1 t ht (k + i0) (by rw [ec]; omega)
        unfold pSz at ls
        rw [es, Nat.zero_add] at ls
        have hsz := (hP.2.1 t ht).2 (k + i0) (by omega)
        unfold pSz at hsz
        have en := ent6 kind f step i0 M'
        rw [h.2.2] at en
        by_cases q : P (8 + 70 * t + (k + i0)) = e i0
        · refine ⟨(i0 + 1, M'), ?_, rfl, ?_, h2⟩
          · rw [fX6_sheet_126, shC, if_pos q, Nat.add_zero]
            rw [q] at ls
            have ss : fX0_setSize 0 (zN t) (zN (k + i0)) (zN (e i0)) M' = some (zN 0, M') := by
              unfold fX0_setSize; simp (disch := omega) only [wr_cj, wr_nj, rng_in, rng_out, zN_lit, zN_add, zN_mul, zN_sub, zN_ltT, zN_ltF, zN_leT, zN_leF, zN_eqT, zN_eqF, zN_lt, zN_le, zN_eq, zN_nat, zN_oobF, Option.bind_some, ↓reduceIte, Nat.one_mul, Nat.zero_add, Nat.add_zero, Nat.reduceAdd, Nat.reduceMul, Nat.reduceSub, Nat.reduceLT, Nat.reduceLeDiff, Nat.reduceEqDiff, reduceCtorEq, true_or, or_true, false_or, or_false, true_and, and_true, false_and, and_false, not_true_eq_false, not_false_eq_true, wr_2, wrL_1, zm_eqF, zm_eqF', zm_lt, zm_lt', zm_le, zm_le', zm_sub1, zN_01, Nat.mul_zero, Nat.zero_mul, Nat.mul_one, Nat.sub_zero, Nat.sub_self, Nat.add_sub_cancel, hw, ls]
            simp (disch := omega) only [wr_cj, wr_nj, rng_in, rng_out, zN_lit, zN_add, zN_mul, zN_sub, zN_ltT, zN_ltF, zN_leT, zN_leF, zN_eqT, zN_eqF, zN_lt, zN_le, zN_eq, zN_nat, zN_oobF, Option.bind_some, ↓reduceIte, Nat.one_mul, Nat.zero_add, Nat.add_zero, Nat.reduceAdd, Nat.reduceMul, Nat.reduceSub, Nat.reduceLT, Nat.reduceLeDiff, Nat.reduceEqDiff, reduceCtorEq, true_or, or_true, false_or, or_false, true_and, and_true, false_and, and_false, not_true_eq_false, not_false_eq_true, wr_2, wrL_1, zm_eqF, zm_eqF', zm_lt, zm_lt', zm_le, zm_le', zm_sub1, zN_01, Nat.mul_zero, Nat.zero_mul, Nat.mul_one, Nat.sub_zero, Nat.sub_self, Nat.add_sub_cancel, en, ss, fX6_sheet_161]
          · rw [shR]
            have : up (shR P t k e i0) (8 + 70 * t + (k + i0)) (e i0) = shR P t k e i0 := by rw [← q, ← es]; exact up_self _ _
            rw [this]; exact h1
        · have lu := Leaf_upS (v := e i0) ht (show k + i0 < 70 by omega) (fun u hu => (g.2.1 u hu).1) h1
          rw [Nat.zero_add] at lu
          refine ⟨(i0 + 1, wr M' (4 + t) (k + i0) (zN (e i0))), ?_, rfl, lu, fr_wr h2 (by omega)⟩
          rw [fX6_sheet_126, shC, if_neg q]
          have ss : fX0_setSize 0 (zN t) (zN (k + i0)) (zN (e i0)) M' = some (zN 1, wr M' (4 + t) (k + i0) (zN (e i0))) := by
            unfold fX0_setSize; simp (disch := omega) only [wr_cj, wr_nj, rng_in, rng_out, zN_lit, zN_add, zN_mul, zN_sub, zN_ltT, zN_ltF, zN_leT, zN_leF, zN_eqT, zN_eqF, zN_lt, zN_le, zN_eq, zN_nat, zN_oobF, Option.bind_some, ↓reduceIte, Nat.one_mul, Nat.zero_add, Nat.add_zero, Nat.reduceAdd, Nat.reduceMul, Nat.reduceSub, Nat.reduceLT, Nat.reduceLeDiff, Nat.reduceEqDiff, reduceCtorEq, true_or, or_true, false_or, or_false, true_and, and_true, false_and, and_false, not_true_eq_false, not_false_eq_true, wr_2, wrL_1, zm_eqF, zm_eqF', zm_lt, zm_lt', zm_le, zm_le', zm_sub1, zN_01, Nat.mul_zero, Nat.zero_mul, Nat.mul_one, Nat.sub_zero, Nat.sub_self, Nat.add_sub_cancel, hw, ls, q]
          simp (disch := omega) only [wr_cj, wr_nj, rng_in, rng_out, zN_lit, zN_add, zN_mul, zN_sub, zN_ltT, zN_ltF, zN_leT, zN_leF, zN_eqT, zN_eqF, zN_lt, zN_le, zN_eq, zN_nat, zN_oobF, Option.bind_some, ↓reduceIte, Nat.one_mul, Nat.zero_add, Nat.add_zero, Nat.reduceAdd, Nat.reduceMul, Nat.reduceSub, Nat.reduceLT, Nat.reduceLeDiff, Nat.reduceEqDiff, reduceCtorEq, true_or, or_true, false_or, or_false, true_and, and_true, false_and, and_false, not_true_eq_false, not_false_eq_true, wr_2, wrL_1, zm_eqF, zm_eqF', zm_lt, zm_lt', zm_le, zm_le', zm_sub1, zN_01, Nat.mul_zero, Nat.zero_mul, Nat.mul_one, Nat.sub_zero, Nat.sub_self, Nat.add_sub_cancel, en, ss, fX6_sheet_161])
      (by
        rintro m ⟨i0, M'⟩ ⟨rfl, h1, h2⟩
        dsimp only at h1 h2 ⊢
        refine ⟨M', ?_, h1, h2⟩
        rw [fX6_sheet_126]
        simp (disch := omega) only [wr_cj, wr_nj, rng_in, rng_out, zN_lit, zN_add, zN_mul, zN_sub, zN_ltT, zN_ltF, zN_leT, zN_leF, zN_eqT, zN_eqF, zN_lt, zN_le, zN_eq, zN_nat, zN_oobF, Option.bind_some, ↓reduceIte, Nat.one_mul, Nat.zero_add, Nat.add_zero, Nat.reduceAdd, Nat.reduceMul, Nat.reduceSub, Nat.reduceLT, Nat.reduceLeDiff, Nat.reduceEqDiff, reduceCtorEq, true_or, or_true, false_or, or_false, true_and, and_true, false_and, and_false, not_true_eq_false, not_false_eq_true, wr_2, wrL_1, zm_eqF, zm_eqF', zm_lt, zm_lt', zm_le, zm_le', zm_sub1, zN_01, Nat.mul_zero, Nat.zero_mul, Nat.mul_one, Nat.sub_zero, Nat.sub_self, Nat.add_sub_cancel])
      zFU (0, M) (by rw [zFU_eq]; omega) ⟨rfl, hL, fr_refl _ _⟩
    exact key
  · have key := loopE (fun m (s : Nat × zMM) => fX7_sheet_163 (zN t) (zN k) kind (zN n) f step m (zN (shC P t k e s.1)) (zN s.1) s.2) (fun i s => s.1 = i ∧ MNow s.2 (shR P t k e i) ∧ fr (fun c _ => c = 159) M s.2) n (fun r => ∃ M', r = some (zN (shC P t k e n), M') ∧ MNow M' (shR P t k e n) ∧ fr (fun c _ => c = 159) M M')
      (by
        rintro i m ⟨i0, M'⟩ hi ⟨rfl, h1, h2⟩
        dsimp only at h1 h2 hi ⊢
        right
        have h := he i0 hi
        have es : shR P t k e i0 (8 + 70 * t + (k + i0)) = P (8 + 70 * t + (k + i0)) := shR_out P t k e i0 (by omega)
        have mm := h1 (8 + 70 * t + (k + i0)) (by omega)
        rw [es] at mm
        have hsz := (hP.2.1 t ht).2 (k + i0) (by omega)
        unfold pSz at hsz
        have en := ent7 kind f step i0 M'
        rw [h.2.2] at en
        have ea : 8 + 70 * t + k + i0 = 8 + 70 * t + (k + i0) := by omega
        refine ⟨(i0 + 1, wr M' 159 (8 + 70 * t + (k + i0)) (zN (e i0))), ?_, rfl, MNow_up h1, fr_wr h2 (by omega)⟩
        rw [fX7_sheet_163, shC]
        by_cases q : P (8 + 70 * t + (k + i0)) = e i0
        · rw [if_pos q]
          rw [q] at mm
          simp (disch := omega) only [wr_cj, wr_nj, rng_in, rng_out, zN_lit, zN_add, zN_mul, zN_sub, zN_ltT, zN_ltF, zN_leT, zN_leF, zN_eqT, zN_eqF, zN_lt, zN_le, zN_eq, zN_nat, zN_oobF, Option.bind_some, ↓reduceIte, Nat.one_mul, Nat.zero_add, Nat.add_zero, Nat.reduceAdd, Nat.reduceMul, Nat.reduceSub, Nat.reduceLT, Nat.reduceLeDiff, Nat.reduceEqDiff, reduceCtorEq, true_or, or_true, false_or, or_false, true_and, and_true, false_and, and_false, not_true_eq_false, not_false_eq_true, wr_2, wrL_1, zm_eqF, zm_eqF', zm_lt, zm_lt', zm_le, zm_le', zm_sub1, zN_01, Nat.mul_zero, Nat.zero_mul, Nat.mul_one, Nat.sub_zero, Nat.sub_self, Nat.add_sub_cancel, en, ea, mm, fX7_sheet_215]
        · rw [if_neg q]
          simp (disch := omega) only [wr_cj, wr_nj, rng_in, rng_out, zN_lit, zN_add, zN_mul, zN_sub, zN_ltT, zN_ltF, zN_leT, zN_leF, zN_eqT, zN_eqF, zN_lt, zN_le, zN_eq, zN_nat, zN_oobF, Option.bind_some, ↓reduceIte, Nat.one_mul, Nat.zero_add, Nat.add_zero, Nat.reduceAdd, Nat.reduceMul, Nat.reduceSub, Nat.reduceLT, Nat.reduceLeDiff, Nat.reduceEqDiff, reduceCtorEq, true_or, or_true, false_or, or_false, true_and, and_true, false_and, and_false, not_true_eq_false, not_false_eq_true, wr_2, wrL_1, zm_eqF, zm_eqF', zm_lt, zm_lt', zm_le, zm_le', zm_sub1, zN_01, Nat.mul_zero, Nat.zero_mul, Nat.mul_one, Nat.sub_zero, Nat.sub_self, Nat.add_sub_cancel, en, ea, mm, q, fX7_sheet_215])
      (by
        rintro m ⟨i0, M'⟩ ⟨rfl, h1, h2⟩
        dsimp only at h1 h2 ⊢
        refine ⟨M', ?_, h1, h2⟩
        rw [fX7_sheet_163]
        simp (disch := omega) only [wr_cj, wr_nj, rng_in, rng_out, zN_lit, zN_add, zN_mul, zN_sub, zN_ltT, zN_ltF, zN_leT, zN_leF, zN_eqT, zN_eqF, zN_lt, zN_le, zN_eq, zN_nat, zN_oobF, Option.bind_some, ↓reduceIte, Nat.one_mul, Nat.zero_add, Nat.add_zero, Nat.reduceAdd, Nat.reduceMul, Nat.reduceSub, Nat.reduceLT, Nat.reduceLeDiff, Nat.reduceEqDiff, reduceCtorEq, true_or, or_true, false_or, or_false, true_and, and_true, false_and, and_false, not_true_eq_false, not_false_eq_true, wr_2, wrL_1, zm_eqF, zm_eqF', zm_lt, zm_lt', zm_le, zm_le', zm_sub1, zN_01, Nat.mul_zero, Nat.zero_mul, Nat.mul_one, Nat.sub_zero, Nat.sub_self, Nat.add_sub_cancel])
      zFU (0, M) (by rw [zFU_eq]; omega) ⟨rfl, hM, fr_refl _ _⟩
    exact key
/-- a fault in the sheet, told by both -/
theorem sheet_120 (a1 a2 a3 a4 a5 a6 : Int32) {i : Nat} {M : zMM} {w : Int32} (hw : w = zN 0 ∨ w = zN 1) : ∃ M', fX7_sheet_120 a1 a2 a3 a4 a5 a6 (zN i) w M = some (-zN 4, M') ∧ MR [(zN i).toInt64, if w = zN 0 then 2 else 1] M' ∧ mq M M' ∧ (∀ P, MNow M P → MNow M' P) := by
  obtain ⟨M1, e1, r1, x1⟩ := tell7 (MR_nil M) (by simp) (zN i).toInt64
  obtain ⟨M2, e2, r2, x2⟩ := tell7 r1 (by simp) (if w = zN 0 then 2 else 1)
  refine ⟨M2, ?_, MR2 r2, mq_trans (mq_w (j := 4) (v := zN 0) (by omega)) (mq_trans (mq_X x1) (mq_X x2)), fun P h => MNow_X (MNow_X (MNow_w h) x1) x2⟩
  unfold fX7_sheet_120 fX7_sheet_145
  simp only [zN_lit]
  rw [e1, Option.bind_some]
  rcases hw with h | h
  · rw [if_pos h] at e2 ⊢
    rw [e2]; rfl
  · have hn : ¬ w = zN 0 := by rw [h]; decide
    rw [if_neg hn] at e2 ⊢
    rw [e2]; rfl
theorem sheet_chk {P : Nat → Nat} (hP : Good P) {t k n : Nat} {kind f step : Int32} (ht : t < 3) (hk : k < P (5 + t)) (hn : n ≤ 70) : ∀ g i, n - i = g → i ≤ n →
    (∃ e : Nat → Nat, (n = i ∨ k + n ≤ P (5 + t)) ∧ (∀ j, i ≤ j → j < n → 1 ≤ e j ∧ e j ≤ 9 ∧ ent kind f step j = zN (e j)) ∧ (∀ M fuel, g < fuel → Leaf M 0 P → fX6_sheet_44 (zN t) (zN k) kind (zN n) f step fuel (zN i) M = fX6_sheet_126 (zN t) (zN k) kind (zN n) f step zFU (zN 0) (zN 0) M) ∧ (∀ M fuel, g < fuel → MNow M P → fX7_sheet_49 (zN t) (zN k) kind (zN n) f step fuel (zN i) M = fX7_sheet_163 (zN t) (zN k) kind (zN n) f step zFU (zN 0) (zN 0) M)) ∨
    (∃ j w, (w = zN 0 ∨ w = zN 1) ∧ (∀ M fuel, g < fuel → Leaf M 0 P → fX6_sheet_44 (zN t) (zN k) kind (zN n) f step fuel (zN i) M = (fX2_tell_ (zN j).toInt64 (if w = zN 0 then 2 else 1) M).bind fun q2 => some (-zN 4, q2)) ∧ (∀ M fuel, g < fuel → MNow M P → fX7_sheet_49 (zN t) (zN k) kind (zN n) f step fuel (zN i) M = fX7_sheet_120 (zN t) (zN k) kind (zN n) f step (zN j) w M)) := by
  have hc := (hP.2.1 t ht).1
  intro g
  induction g with
  | zero =>
    intro i hg hi
    left
    refine ⟨fun _ => 0, Or.inl (by omega), fun j h1 h2 => absurd h2 (by omega), fun M fuel hf hL => ?_, fun M fuel hf hM => ?_⟩
    · obtain ⟨fu, rfl⟩ : ∃ q, fuel = q + 1 := ⟨fuel - 1, by omega⟩
      rw [fX6_sheet_44]
      exact if_pos (by rw [zN_leT (by omega)]; trivial)
    · obtain ⟨fu, rfl⟩ : ∃ q, fuel = q + 1 := ⟨fuel - 1, by omega⟩
      rw [fX7_sheet_49]
      exact if_pos (by rw [zN_leT (by omega)]; trivial)
  | succ g ih =>
    intro i hg hi
    have kk : zN k + zN i = zN (k + i) := zN_add _ _
    have i1 : zN i + 1 = zN (i + 1) := zN_add i 1
    have ls : ((zN k).toInt64 + (zN i).toInt64).toInt = ((k + i : Nat) : Int) := by rw [lsum _ (by omega), zN_toInt (by omega)]; omega
    have n0 : ¬ lg_cmp ((zN k).toInt64 + (zN i).toInt64) 0 < 0 := by
      rw [lg_neg, Int64.lt_iff_toInt_lt, ls]
      have : (0 : Int64).toInt = 0 := by decide
      rw [this]; omega
    have head6 : ∀ M fu, Leaf M 0 P → fX6_sheet_44 (zN t) (zN k) kind (zN n) f step (fu + 1) (zN i) M = (fX0_hasWord 0 (zN t) (zN (k + i)) M).bind fun q2 => if q2.1 = 0 then fX6_sheet_91 (fX6_sheet_44 (zN t) (zN k) kind (zN n) f step fu) (zN t) (zN k) kind (zN n) f step (zN i) 1 q2.2 else (fX6_entry kind f step (zN i) q2.2).bind fun q4 => (fX6_isSize q4.1 q4.2).bind fun q5 => if q5.1 = 0 then fX6_sheet_91 (fX6_sheet_44 (zN t) (zN k) kind (zN n) f step fu) (zN t) (zN k) kind (zN n) f step (zN i) 2 q5.2 else fX6_sheet_91 (fX6_sheet_44 (zN t) (zN k) kind (zN n) f step fu) (zN t) (zN k) kind (zN n) f step (zN i) 0 q5.2 := by
      intro M fu hL
      rw [fX6_sheet_44, if_neg (show ¬ zN n ≤ zN i by rw [zN_leF (by omega)]; exact id), kk]
    have hcmp : ∀ M, MNow M P → ((lg_cmp ((zN k).toInt64 + (zN i).toInt64) (Int32.toInt64 (M.1 159 (5 + t))) < 0) ↔ k + i < P (5 + t)) := by
      intro M hM
      rw [lg_neg, Int64.lt_iff_toInt_lt, ls, hM _ (by omega), Int32.toInt_toInt64, zN_toInt (by omega)]; omega
    have t5 : 5 + zN t = zN (5 + t) := zN_add 5 t
    have head7 : ∀ M fu, MNow M P → fX7_sheet_49 (zN t) (zN k) kind (zN n) f step (fu + 1) (zN i) M = if k + i < P (5 + t) then fX7_sheet_91 (fX7_sheet_49 (zN t) (zN k) kind (zN n) f step fu) (zN t) (zN k) kind (zN n) f step (zN i) 0 M else fX7_sheet_86 (fX7_sheet_49 (zN t) (zN k) kind (zN n) f step fu) (zN t) (zN k) kind (zN n) f step (zN i) M := by
      intro M fu hM
      have hh := hcmp M hM
      rw [fX7_sheet_49, if_neg (show ¬ zN n ≤ zN i by rw [zN_leF (by omega)]; exact id), if_neg n0, t5, if_neg (show ¬ oob (zN (5 + t)) 259 by rw [zN_oobF (by omega)]; exact id), zN_nat (by omega)]
      by_cases q : k + i < P (5 + t)
      · rw [if_pos q, if_pos (hh.mpr q)]
      · rw [if_neg q, if_neg (fun x => q (hh.mp x))]
    by_cases q : k + i < P (5 + t)
    · rcases sz_case (ent kind f step i) with ⟨v, v1, v2, ev, s6, s7⟩ | hbad
      · have g6 : ∀ M fu, Leaf M 0 P → fX6_sheet_44 (zN t) (zN k) kind (zN n) f step (fu + 1) (zN i) M = fX6_sheet_44 (zN t) (zN k) kind (zN n) f step fu (zN (i + 1)) M := by
          intro M fu hL
          have hw := hasWord0 hP hL ht (k := k + i) (by omega)
          rw [if_pos q] at hw
          rw [head6 M fu hL, hw, Option.bind_some, if_neg nz10']
          dsimp only
          rw [ent6, Option.bind_some]
          dsimp only
          rw [s6, Option.bind_some, if_neg nz10']
          unfold fX6_sheet_91
          rw [if_pos rfl, i1]
        have g7 : ∀ M fu, MNow M P → fX7_sheet_49 (zN t) (zN k) kind (zN n) f step (fu + 1) (zN i) M = fX7_sheet_49 (zN t) (zN k) kind (zN n) f step fu (zN (i + 1)) M := by
          intro M fu hM
          have s7' : fX7_in (ent kind f step i) 1 9 M = some (zN 1, M) := s7 M
          rw [head7 M fu hM, if_pos q]
          unfold fX7_sheet_91
          rw [if_pos rfl, ent7, Option.bind_some]
          dsimp only
          rw [s7', Option.bind_some, if_neg nz10', i1]
        rcases ih (i + 1) (by omega) (by omega) with ⟨e, h0, h1, h2, h3⟩ | ⟨j, w, hw, h2, h3⟩
        · left
          refine ⟨fun j => if j = i then v else e j, Or.inr (by omega), fun j a b => ?_, fun M fuel hf hL => ?_, fun M fuel hf hM => ?_⟩
          · by_cases ej : j = i
            · subst ej; dsimp only; rw [if_pos rfl]; exact ⟨v1, v2, ev⟩
            · dsimp only; rw [if_neg ej]; exact h1 j (by omega) b
          · obtain ⟨fu, rfl⟩ : ∃ q, fuel = q + 1 := ⟨fuel - 1, by omega⟩
            rw [g6 M fu hL]; exact h2 M fu (by omega) hL
          · obtain ⟨fu, rfl⟩ : ∃ q, fuel = q + 1 := ⟨fuel - 1, by omega⟩
            rw [g7 M fu hM]; exact h3 M fu (by omega) hM
        · right
          refine ⟨j, w, hw, fun M fuel hf hL => ?_, fun M fuel hf hM => ?_⟩
          · obtain ⟨fu, rfl⟩ : ∃ q, fuel = q + 1 := ⟨fuel - 1, by omega⟩
            rw [g6 M fu hL]; exact h2 M fu (by omega) hL
          · obtain ⟨fu, rfl⟩ : ∃ q, fuel = q + 1 := ⟨fuel - 1, by omega⟩
            rw [g7 M fu hM]; exact h3 M fu (by omega) hM
      · right
        refine ⟨i, zN 0, Or.inl rfl, fun M fuel hf hL => ?_, fun M fuel hf hM => ?_⟩
        · obtain ⟨fu, rfl⟩ : ∃ q, fuel = q + 1 := ⟨fuel - 1, by omega⟩
          have hw := hasWord0 hP hL ht (k := k + i) (by omega)
          rw [if_pos q] at hw
          rw [head6 M fu hL, hw, Option.bind_some, if_neg nz10']
          dsimp only
          rw [ent6, Option.bind_some]
          dsimp only
          rw [(hbad M).1, Option.bind_some, if_pos (show ((zN 0, M) : Int32 × zMM).1 = 0 from rfl), if_pos rfl]
          unfold fX6_sheet_91
          rw [if_neg (by decide)]; rfl
        · obtain ⟨fu, rfl⟩ : ∃ q, fuel = q + 1 := ⟨fuel - 1, by omega⟩
          have s7' : fX7_in (ent kind f step i) 1 9 M = some (zN 0, M) := (hbad M).2
          rw [head7 M fu hM, if_pos q]
          unfold fX7_sheet_91
          rw [if_pos rfl, ent7, Option.bind_some]
          dsimp only
          rw [s7', Option.bind_some, if_pos (show ((zN 0, M) : Int32 × zMM).1 = 0 from rfl)]; rfl
    · right
      refine ⟨i, zN 1, Or.inr rfl, fun M fuel hf hL => ?_, fun M fuel hf hM => ?_⟩
      · obtain ⟨fu, rfl⟩ : ∃ q, fuel = q + 1 := ⟨fuel - 1, by omega⟩
        have hw := hasWord0 hP hL ht (k := k + i) (by omega)
        rw [if_neg q] at hw
        rw [head6 M fu hL, hw, Option.bind_some, if_pos (show ((zN 0, M) : Int32 × zMM).1 = 0 from rfl), if_neg (by decide)]
        unfold fX6_sheet_91
        rw [if_neg (by decide)]; rfl
      · obtain ⟨fu, rfl⟩ : ∃ q, fuel = q + 1 := ⟨fuel - 1, by omega⟩
        rw [head7 M fu hM, if_neg q]
        unfold fX7_sheet_86 fX7_sheet_91
        rw [if_neg (by decide)]; rfl
theorem call_sheet (x y kind z f step : Int32) : Cll (fX6_sheet x y kind z f step) (fX7_sheet x y kind z f step) := by
  refine Cll_of (fun P T R U K hw => ?_)
  have hP := hw.1
  have hU := hw.2.2.2.1.1
  rcases text_case x with ⟨t, ht, rfl⟩ | hx
  · have hc := (hP.2.1 t ht).1
    have it6 := fun M => isText6T ht M
    have it7 := fun M => isText7T ht M
    rcases zcaseR kind 0 3 with ⟨kd, -, hkd, rfl⟩ | hk | ⟨kd, hkd, rfl, hkn⟩
    · have tk3 := fun M => in7T (a := kd) (lo := 0) (hi := 3) (by omega) M
      rcases zcase z with hz | ⟨n, hn, rfl⟩
      · by_cases k3 : kd = 3
        · subst k3
          refine ⟨-zN 3, P, T, R, U, K, hw, CD_no (fun M hM => ?_), MD_no (fun M hM => ?_)⟩
          · unfold fX6_sheet; simp (disch := omega) only [wr_cj, wr_nj, rng_in, rng_out, zN_lit, zN_add, zN_mul, zN_sub, zN_ltT, zN_ltF, zN_leT, zN_leF, zN_eqT, zN_eqF, zN_lt, zN_le, zN_eq, zN_nat, zN_oobF, Option.bind_some, ↓reduceIte, Nat.one_mul, Nat.zero_add, Nat.add_zero, Nat.reduceAdd, Nat.reduceMul, Nat.reduceSub, Nat.reduceLT, Nat.reduceLeDiff, Nat.reduceEqDiff, reduceCtorEq, true_or, or_true, false_or, or_false, true_and, and_true, false_and, and_false, not_true_eq_false, not_false_eq_true, wr_2, wrL_1, zm_eqF, zm_eqF', zm_lt, zm_lt', zm_le, zm_le', zm_sub1, zN_01, Nat.mul_zero, Nat.zero_mul, Nat.mul_one, Nat.sub_zero, Nat.sub_self, Nat.add_sub_cancel, it6, zg_le hz]
          · unfold fX7_sheet; simp (disch := omega) only [wr_cj, wr_nj, rng_in, rng_out, zN_lit, zN_add, zN_mul, zN_sub, zN_ltT, zN_ltF, zN_leT, zN_leF, zN_eqT, zN_eqF, zN_lt, zN_le, zN_eq, zN_nat, zN_oobF, Option.bind_some, ↓reduceIte, Nat.one_mul, Nat.zero_add, Nat.add_zero, Nat.reduceAdd, Nat.reduceMul, Nat.reduceSub, Nat.reduceLT, Nat.reduceLeDiff, Nat.reduceEqDiff, reduceCtorEq, true_or, or_true, false_or, or_false, true_and, and_true, false_and, and_false, not_true_eq_false, not_false_eq_true, wr_2, wrL_1, zm_eqF, zm_eqF', zm_lt, zm_lt', zm_le, zm_le', zm_sub1, zN_01, Nat.mul_zero, Nat.zero_mul, Nat.mul_one, Nat.sub_zero, Nat.sub_self, Nat.add_sub_cancel, it7, tk3, zg_le hz]
        · refine ⟨-zN 2, P, T, R, U, K, hw, CD_no (fun M hM => ?_), MD_no (fun M hM => ?_)⟩
          · unfold fX6_sheet; simp (disch := omega) only [wr_cj, wr_nj, rng_in, rng_out, zN_lit, zN_add, zN_mul, zN_sub, zN_ltT, zN_ltF, zN_leT, zN_leF, zN_eqT, zN_eqF, zN_lt, zN_le, zN_eq, zN_nat, zN_oobF, Option.bind_some, ↓reduceIte, Nat.one_mul, Nat.zero_add, Nat.add_zero, Nat.reduceAdd, Nat.reduceMul, Nat.reduceSub, Nat.reduceLT, Nat.reduceLeDiff, Nat.reduceEqDiff, reduceCtorEq, true_or, or_true, false_or, or_false, true_and, and_true, false_and, and_false, not_true_eq_false, not_false_eq_true, wr_2, wrL_1, zm_eqF, zm_eqF', zm_lt, zm_lt', zm_le, zm_le', zm_sub1, zN_01, Nat.mul_zero, Nat.zero_mul, Nat.mul_one, Nat.sub_zero, Nat.sub_self, Nat.add_sub_cancel, it6, zg_le hz, zg_le' hz]
          · unfold fX7_sheet; simp (disch := omega) only [wr_cj, wr_nj, rng_in, rng_out, zN_lit, zN_add, zN_mul, zN_sub, zN_ltT, zN_ltF, zN_leT, zN_leF, zN_eqT, zN_eqF, zN_lt, zN_le, zN_eq, zN_nat, zN_oobF, Option.bind_some, ↓reduceIte, Nat.one_mul, Nat.zero_add, Nat.add_zero, Nat.reduceAdd, Nat.reduceMul, Nat.reduceSub, Nat.reduceLT, Nat.reduceLeDiff, Nat.reduceEqDiff, reduceCtorEq, true_or, or_true, false_or, or_false, true_and, and_true, false_and, and_false, not_true_eq_false, not_false_eq_true, wr_2, wrL_1, zm_eqF, zm_eqF', zm_lt, zm_lt', zm_le, zm_le', zm_sub1, zN_01, Nat.mul_zero, Nat.zero_mul, Nat.mul_one, Nat.sub_zero, Nat.sub_self, Nat.add_sub_cancel, it7, tk3, zg_le hz, zg_le' hz]
      · by_cases n70 : n ≤ 70
        · by_cases k3 : kd = 3
          · subst k3
            refine ⟨-zN 3, P, T, R, U, K, hw, CD_no (fun M hM => ?_), MD_no (fun M hM => ?_)⟩
            · unfold fX6_sheet; simp (disch := omega) only [wr_cj, wr_nj, rng_in, rng_out, zN_lit, zN_add, zN_mul, zN_sub, zN_ltT, zN_ltF, zN_leT, zN_leF, zN_eqT, zN_eqF, zN_lt, zN_le, zN_eq, zN_nat, zN_oobF, Option.bind_some, ↓reduceIte, Nat.one_mul, Nat.zero_add, Nat.add_zero, Nat.reduceAdd, Nat.reduceMul, Nat.reduceSub, Nat.reduceLT, Nat.reduceLeDiff, Nat.reduceEqDiff, reduceCtorEq, true_or, or_true, false_or, or_false, true_and, and_true, false_and, and_false, not_true_eq_false, not_false_eq_true, wr_2, wrL_1, zm_eqF, zm_eqF', zm_lt, zm_lt', zm_le, zm_le', zm_sub1, zN_01, Nat.mul_zero, Nat.zero_mul, Nat.mul_one, Nat.sub_zero, Nat.sub_self, Nat.add_sub_cancel, it6]
            · unfold fX7_sheet; simp (disch := omega) only [wr_cj, wr_nj, rng_in, rng_out, zN_lit, zN_add, zN_mul, zN_sub, zN_ltT, zN_ltF, zN_leT, zN_leF, zN_eqT, zN_eqF, zN_lt, zN_le, zN_eq, zN_nat, zN_oobF, Option.bind_some, ↓reduceIte, Nat.one_mul, Nat.zero_add, Nat.add_zero, Nat.reduceAdd, Nat.reduceMul, Nat.reduceSub, Nat.reduceLT, Nat.reduceLeDiff, Nat.reduceEqDiff, reduceCtorEq, true_or, or_true, false_or, or_false, true_and, and_true, false_and, and_false, not_true_eq_false, not_false_eq_true, wr_2, wrL_1, zm_eqF, zm_eqF', zm_lt, zm_lt', zm_le, zm_le', zm_sub1, zN_01, Nat.mul_zero, Nat.zero_mul, Nat.mul_one, Nat.sub_zero, Nat.sub_self, Nat.add_sub_cancel, it7, tk3]
          · have go6 : ∀ M, fX6_sheet (zN t) y (zN kd) (zN n) f step M = fX6_sheet_44 (zN t) y (zN kd) (zN n) f step zFU (zN 0) M := by
              intro M; unfold fX6_sheet; simp (disch := omega) only [wr_cj, wr_nj, rng_in, rng_out, zN_lit, zN_add, zN_mul, zN_sub, zN_ltT, zN_ltF, zN_leT, zN_leF, zN_eqT, zN_eqF, zN_lt, zN_le, zN_eq, zN_nat, zN_oobF, Option.bind_some, ↓reduceIte, Nat.one_mul, Nat.zero_add, Nat.add_zero, Nat.reduceAdd, Nat.reduceMul, Nat.reduceSub, Nat.reduceLT, Nat.reduceLeDiff, Nat.reduceEqDiff, reduceCtorEq, true_or, or_true, false_or, or_false, true_and, and_true, false_and, and_false, not_true_eq_false, not_false_eq_true, wr_2, wrL_1, zm_eqF, zm_eqF', zm_lt, zm_lt', zm_le, zm_le', zm_sub1, zN_01, Nat.mul_zero, Nat.zero_mul, Nat.mul_one, Nat.sub_zero, Nat.sub_self, Nat.add_sub_cancel, it6]
            have go7 : ∀ M, fX7_sheet (zN t) y (zN kd) (zN n) f step M = fX7_sheet_49 (zN t) y (zN kd) (zN n) f step zFU (zN 0) (wr M 158 5 (zN 0)) := by
              intro M; unfold fX7_sheet; simp (disch := omega) only [wr_cj, wr_nj, rng_in, rng_out, zN_lit, zN_add, zN_mul, zN_sub, zN_ltT, zN_ltF, zN_leT, zN_leF, zN_eqT, zN_eqF, zN_lt, zN_le, zN_eq, zN_nat, zN_oobF, Option.bind_some, ↓reduceIte, Nat.one_mul, Nat.zero_add, Nat.add_zero, Nat.reduceAdd, Nat.reduceMul, Nat.reduceSub, Nat.reduceLT, Nat.reduceLeDiff, Nat.reduceEqDiff, reduceCtorEq, true_or, or_true, false_or, or_false, true_and, and_true, false_and, and_false, not_true_eq_false, not_false_eq_true, wr_2, wrL_1, zm_eqF, zm_eqF', zm_lt, zm_lt', zm_le, zm_le', zm_sub1, zN_01, Nat.mul_zero, Nat.zero_mul, Nat.mul_one, Nat.sub_zero, Nat.sub_self, Nat.add_sub_cancel, it7, tk3]
            have fin : ∀ j w, (w = zN 0 ∨ w = zN 1) → (∀ M, Leaf M 0 P → fX6_sheet_44 (zN t) y (zN kd) (zN n) f step zFU (zN 0) M = (fX2_tell_ (zN j).toInt64 (if w = zN 0 then 2 else 1) M).bind fun q2 => some (-zN 4, q2)) → (∀ M, MNow M P → fX7_sheet_49 (zN t) y (zN kd) (zN n) f step zFU (zN 0) M = fX7_sheet_120 (zN t) y (zN kd) (zN n) f step (zN j) w M) → ∃ r P' T' R' U' K', WF P' T' R' U' K' ∧ CD (fX6_sheet (zN t) y (zN kd) (zN n) f step) P T R U K r P' T' R' U' K' ∧ MD (fX7_sheet (zN t) y (zN kd) (zN n) f step) P T R U K r P' T' R' U' K' := by
              intro j w hw' h6 h7
              refine ⟨-zN 4, P, T, [(zN j).toInt64, if w = zN 0 then 2 else 1], U, K, WF_R hw (by simp), fun M hM => ?_, fun M hM => ?_⟩
              · obtain ⟨M1, e1, r1, y1⟩ := tell2 (zN j).toInt64 (if w = zN 0 then 2 else 1) M
                refine ⟨M1, ?_, CI_q hM hU (cq_Y y1) (Leaf_Y hM.1 (by omega) y1) r1⟩
                rw [go6, h6 M hM.1, e1]; rfl
              · have h0 := MNow_w (j := 5) (v := zN 0) hM.1
                obtain ⟨M1, e1, r1, q1, n1⟩ := sheet_120 (zN t) y (zN kd) (zN n) f step (i := j) (M := wr M 158 5 (zN 0)) hw'
                refine ⟨M1, ?_, MI_q hM (mq_trans (mq_w (j := 5) (v := zN 0) (by omega)) q1) (n1 P h0) r1⟩
                rw [go7, h7 _ h0, e1]
            by_cases nz : n = 0
            · subst nz
              refine ⟨zN 0, P, T, R, U, K, hw, CD_no (fun M hM => ?_), MD_no (fun M hM => ?_)⟩
              · rw [go6]
                have g1 : ∀ m, fX6_sheet_126 (zN t) y (zN kd) (zN 0) f step (m + 1) (zN 0) (zN 0) M = some (zN 0, M) := by
                  intro m; rw [fX6_sheet_126]; exact if_pos (by rw [zN_leT (by omega)]; trivial)
                have g2 : ∀ m, fX6_sheet_44 (zN t) y (zN kd) (zN 0) f step (m + 1) (zN 0) M = some (zN 0, M) := by
                  intro m; rw [fX6_sheet_44, if_pos (show zN 0 ≤ zN 0 by rw [zN_leT (by omega)]; trivial)]; exact g1 2147483647
                exact g2 2147483647
              · rw [go7]
                have g1 : ∀ m, fX7_sheet_163 (zN t) y (zN kd) (zN 0) f step (m + 1) (zN 0) (zN 0) (wr M 158 5 (zN 0)) = some (zN 0, wr M 158 5 (zN 0)) := by
                  intro m; rw [fX7_sheet_163]; exact if_pos (by rw [zN_leT (by omega)]; trivial)
                have g2 : ∀ m, fX7_sheet_49 (zN t) y (zN kd) (zN 0) f step (m + 1) (zN 0) (wr M 158 5 (zN 0)) = some (zN 0, wr M 158 5 (zN 0)) := by
                  intro m; rw [fX7_sheet_49, if_pos (show zN 0 ≤ zN 0 by rw [zN_leT (by omega)]; trivial)]; exact g1 2147483647
                exact g2 2147483647
            · rcases word_case hP (zN t) y with ⟨t', k, ht', hk', e1, rfl⟩ | ⟨b6, b7⟩
              · have : t' = t := zN_inj (by omega) (by omega) e1.symm
                subst this
                rcases sheet_chk hP (n := n) (kind := zN kd) (f := f) (step := step) ht hk' n70 n 0 (by omega) (by omega) with ⟨e, h0, h1, h2, h3⟩ | ⟨j, w, hw', h2, h3⟩
                · obtain ⟨gd, c6, c7⟩ := sheet_set hP (n := n) (k := k) (e := e) (kind := zN kd) (f := f) (step := step) ht (by omega) (fun i hi => h1 i (by omega) hi)
                  refine ⟨zN (shC P t' k e n), shR P t' k e n, T, R, U, K, ⟨gd, hw.2⟩, fun M hM => ?_, fun M hM => ?_⟩
                  · obtain ⟨M1, e1, l1, f1⟩ := c6 M hM.1
                    refine ⟨M1, ?_, CI_q hM hU (cq_fr f1 (fun c j a => by unfold CW; omega)) l1 (CR_q hM.2.2.1 f1 (fun j a => by omega))⟩
                    rw [go6, h2 M zFU (by rw [zFU_eq]; omega) hM.1, e1]
                  · have hm0 := MNow_w (j := 5) (v := zN 0) hM.1
                    obtain ⟨M1, e1, n1, f1⟩ := c7 _ hm0
                    refine ⟨M1, ?_, MI_now (MI_th hM) f1 n1, frM_trans (frM_th M _) (frM_fr f1 (fun c j a => by omega))⟩
                    rw [go7, h3 _ zFU (by rw [zFU_eq]; omega) hm0, e1]
                · exact fin j w hw' (fun M hL => h2 M zFU (by rw [zFU_eq]; omega) hL) (fun M hM => h3 M zFU (by rw [zFU_eq]; omega) hM)
              · refine fin 0 (zN 1) (Or.inr rfl) (fun M hL => ?_) (fun M hM => ?_)
                · have hwd := b6 M 0 hL
                  have y0 : y + zN 0 = y := Int32.add_zero y
                  have g : ∀ m, fX6_sheet_44 (zN t) y (zN kd) (zN n) f step (m + 1) (zN 0) M = (fX2_tell_ (zN 0).toInt64 (if zN 1 = zN 0 then 2 else 1) M).bind fun q2 => some (-zN 4, q2) := by
                    intro m
                    rw [fX6_sheet_44, if_neg (show ¬ zN n ≤ zN 0 by rw [zN_leF (by omega)]; exact id), y0, hwd, Option.bind_some, if_pos (show ((zN 0, M) : Int32 × zMM).1 = 0 from rfl), if_neg (by decide)]
                    unfold fX6_sheet_91
                    rw [if_neg (by decide)]; rfl
                  exact g 2147483647
                · have iw := b7 M hM
                  have t5 : 5 + zN t = zN (5 + t) := zN_add 5 t
                  have m5 := hM (5 + t) (by omega)
                  have ls := lsum y (i := 0) (by omega)
                  have g : ∀ m, fX7_sheet_49 (zN t) y (zN kd) (zN n) f step (m + 1) (zN 0) M = fX7_sheet_120 (zN t) y (zN kd) (zN n) f step (zN 0) (zN 1) M := by
                    intro m
                    have e86 : fX7_sheet_86 (fX7_sheet_49 (zN t) y (zN kd) (zN n) f step m) (zN t) y (zN kd) (zN n) f step (zN 0) M = fX7_sheet_120 (zN t) y (zN kd) (zN n) f step (zN 0) (zN 1) M := by
                      unfold fX7_sheet_86 fX7_sheet_91
                      rw [if_neg (by decide)]; rfl
                    rw [fX7_sheet_49, if_neg (show ¬ zN n ≤ zN 0 by rw [zN_leF (by omega)]; exact id)]
                    by_cases q : lg_cmp (y.toInt64 + (zN 0).toInt64) 0 < 0
                    · rw [if_pos q, e86]
                    · rw [if_neg q, t5, if_neg (show ¬ oob (zN (5 + t)) 259 by rw [zN_oobF (by omega)]; exact id), zN_nat (by omega), m5]
                      by_cases q2 : lg_cmp (y.toInt64 + (zN 0).toInt64) (zN (P (5 + t))).toInt64 < 0
                      · exfalso
                        rw [lg_neg, Int64.lt_iff_toInt_lt, ls, Int32.toInt_toInt64, zN_toInt (by omega)] at q2
                        rw [lg_neg, Int64.lt_iff_toInt_lt, ls] at q
                        have z0 : (0 : Int64).toInt = 0 := by decide
                        rw [z0] at q
                        rcases zcase y with hy | ⟨k, hk, rfl⟩
                        · have := zg_int hy; omega
                        · rw [zN_toInt hk] at q2
                          have := isWord7 hP hM ht hk
                          rw [if_pos (by omega), iw] at this
                          have := (Prod.mk.inj (Option.some.inj this)).1
                          exact absurd this (by decide)
                      · rw [if_neg q2, e86]
                  exact g 2147483647
        · refine ⟨-zN 1, P, T, R, U, K, hw, CD_no (fun M hM => ?_), MD_no (fun M hM => ?_)⟩
          · unfold fX6_sheet; simp (disch := omega) only [wr_cj, wr_nj, rng_in, rng_out, zN_lit, zN_add, zN_mul, zN_sub, zN_ltT, zN_ltF, zN_leT, zN_leF, zN_eqT, zN_eqF, zN_lt, zN_le, zN_eq, zN_nat, zN_oobF, Option.bind_some, ↓reduceIte, Nat.one_mul, Nat.zero_add, Nat.add_zero, Nat.reduceAdd, Nat.reduceMul, Nat.reduceSub, Nat.reduceLT, Nat.reduceLeDiff, Nat.reduceEqDiff, reduceCtorEq, true_or, or_true, false_or, or_false, true_and, and_true, false_and, and_false, not_true_eq_false, not_false_eq_true, wr_2, wrL_1, zm_eqF, zm_eqF', zm_lt, zm_lt', zm_le, zm_le', zm_sub1, zN_01, Nat.mul_zero, Nat.zero_mul, Nat.mul_one, Nat.sub_zero, Nat.sub_self, Nat.add_sub_cancel, it6]
          · unfold fX7_sheet; simp (disch := omega) only [wr_cj, wr_nj, rng_in, rng_out, zN_lit, zN_add, zN_mul, zN_sub, zN_ltT, zN_ltF, zN_leT, zN_leF, zN_eqT, zN_eqF, zN_lt, zN_le, zN_eq, zN_nat, zN_oobF, Option.bind_some, ↓reduceIte, Nat.one_mul, Nat.zero_add, Nat.add_zero, Nat.reduceAdd, Nat.reduceMul, Nat.reduceSub, Nat.reduceLT, Nat.reduceLeDiff, Nat.reduceEqDiff, reduceCtorEq, true_or, or_true, false_or, or_false, true_and, and_true, false_and, and_false, not_true_eq_false, not_false_eq_true, wr_2, wrL_1, zm_eqF, zm_eqF', zm_lt, zm_lt', zm_le, zm_le', zm_sub1, zN_01, Nat.mul_zero, Nat.zero_mul, Nat.mul_one, Nat.sub_zero, Nat.sub_self, Nat.add_sub_cancel, it7, tk3]
    · refine ⟨-zN 1, P, T, R, U, K, hw, CD_no (fun M hM => ?_), MD_no (fun M hM => ?_)⟩
      · unfold fX6_sheet; simp (disch := omega) only [wr_cj, wr_nj, rng_in, rng_out, zN_lit, zN_add, zN_mul, zN_sub, zN_ltT, zN_ltF, zN_leT, zN_leF, zN_eqT, zN_eqF, zN_lt, zN_le, zN_eq, zN_nat, zN_oobF, Option.bind_some, ↓reduceIte, Nat.one_mul, Nat.zero_add, Nat.add_zero, Nat.reduceAdd, Nat.reduceMul, Nat.reduceSub, Nat.reduceLT, Nat.reduceLeDiff, Nat.reduceEqDiff, reduceCtorEq, true_or, or_true, false_or, or_false, true_and, and_true, false_and, and_false, not_true_eq_false, not_false_eq_true, wr_2, wrL_1, zm_eqF, zm_eqF', zm_lt, zm_lt', zm_le, zm_le', zm_sub1, zN_01, Nat.mul_zero, Nat.zero_mul, Nat.mul_one, Nat.sub_zero, Nat.sub_self, Nat.add_sub_cancel, it6, zg_lt hk]
      · have t3 := in7g hk (lo := 0) (by omega) (zN 3) (wr M 158 5 (zN 0))
        unfold fX7_sheet; simp (disch := omega) only [wr_cj, wr_nj, rng_in, rng_out, zN_lit, zN_add, zN_mul, zN_sub, zN_ltT, zN_ltF, zN_leT, zN_leF, zN_eqT, zN_eqF, zN_lt, zN_le, zN_eq, zN_nat, zN_oobF, Option.bind_some, ↓reduceIte, Nat.one_mul, Nat.zero_add, Nat.add_zero, Nat.reduceAdd, Nat.reduceMul, Nat.reduceSub, Nat.reduceLT, Nat.reduceLeDiff, Nat.reduceEqDiff, reduceCtorEq, true_or, or_true, false_or, or_false, true_and, and_true, false_and, and_false, not_true_eq_false, not_false_eq_true, wr_2, wrL_1, zm_eqF, zm_eqF', zm_lt, zm_lt', zm_le, zm_le', zm_sub1, zN_01, Nat.mul_zero, Nat.zero_mul, Nat.mul_one, Nat.sub_zero, Nat.sub_self, Nat.add_sub_cancel, it7, t3]
    · refine ⟨-zN 1, P, T, R, U, K, hw, CD_no (fun M hM => ?_), MD_no (fun M hM => ?_)⟩
      · unfold fX6_sheet; simp (disch := omega) only [wr_cj, wr_nj, rng_in, rng_out, zN_lit, zN_add, zN_mul, zN_sub, zN_ltT, zN_ltF, zN_leT, zN_leF, zN_eqT, zN_eqF, zN_lt, zN_le, zN_eq, zN_nat, zN_oobF, Option.bind_some, ↓reduceIte, Nat.one_mul, Nat.zero_add, Nat.add_zero, Nat.reduceAdd, Nat.reduceMul, Nat.reduceSub, Nat.reduceLT, Nat.reduceLeDiff, Nat.reduceEqDiff, reduceCtorEq, true_or, or_true, false_or, or_false, true_and, and_true, false_and, and_false, not_true_eq_false, not_false_eq_true, wr_2, wrL_1, zm_eqF, zm_eqF', zm_lt, zm_lt', zm_le, zm_le', zm_sub1, zN_01, Nat.mul_zero, Nat.zero_mul, Nat.mul_one, Nat.sub_zero, Nat.sub_self, Nat.add_sub_cancel, it6]
      · have t3 := in7F (a := kd) (lo := 0) (hi := 3) (by omega) (wr M 158 5 (zN 0))
        unfold fX7_sheet; simp (disch := omega) only [wr_cj, wr_nj, rng_in, rng_out, zN_lit, zN_add, zN_mul, zN_sub, zN_ltT, zN_ltF, zN_leT, zN_leF, zN_eqT, zN_eqF, zN_lt, zN_le, zN_eq, zN_nat, zN_oobF, Option.bind_some, ↓reduceIte, Nat.one_mul, Nat.zero_add, Nat.add_zero, Nat.reduceAdd, Nat.reduceMul, Nat.reduceSub, Nat.reduceLT, Nat.reduceLeDiff, Nat.reduceEqDiff, reduceCtorEq, true_or, or_true, false_or, or_false, true_and, and_true, false_and, and_false, not_true_eq_false, not_false_eq_true, wr_2, wrL_1, zm_eqF, zm_eqF', zm_lt, zm_lt', zm_le, zm_le', zm_sub1, zN_01, Nat.mul_zero, Nat.zero_mul, Nat.mul_one, Nat.sub_zero, Nat.sub_self, Nat.add_sub_cancel, it7, t3]
  · refine ⟨-zN 1, P, T, R, U, K, hw, CD_no (fun M hM => ?_), MD_no (fun M hM => ?_)⟩
    · have := (hx M).1
      unfold fX6_sheet; rw [this]; rfl
    · have := (hx (wr M 158 5 (zN 0))).2
      unfold fX7_sheet; simp only [zN_lit]; rw [this]; rfl
