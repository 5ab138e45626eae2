/-! the least measure -/
theorem up_up (P : Nat → Nat) (j a b : Nat) : up (up P j a) j b = up P j b := by
  funext i; unfold up; split <;> rfl
theorem up_self (P : Nat → Nat) (j : Nat) : up P j (P j) = P := by
  funext i; unfold up; split
  · next h => rw [h]
  · rfl
theorem setMe10 {w v : Nat} (hw : w ≤ 1) (M : zMM) : fX0_setMeasure 10 (zN w) (zN v) M = some (wr M 10 w (zN v)) := by
  have e : w = 0 ∨ w = 1 := by omega
  unfold fX0_setMeasure
  rcases e with rfl | rfl <;> simp (disch := omega) only [wr_cj, wr_nj, rng_in, rng_out, zN_lit, zN_add, zN_mul, zN_sub, zN_ltT, zN_ltF, zN_leT, zN_leF, zN_eqT, zN_eqF, zN_lt, zN_le, zN_eq, zN_nat, zN_oobF, Option.bind_some, ↓reduceIte, Nat.one_mul, Nat.zero_add, Nat.add_zero, Nat.reduceAdd, Nat.reduceMul, Nat.reduceSub, Nat.reduceLT, Nat.reduceLeDiff, Nat.reduceEqDiff, reduceCtorEq, true_or, or_true, false_or, or_false, true_and, and_true, false_and, and_false, not_true_eq_false, not_false_eq_true, wr_2, wrL_1, zm_eqF, zm_eqF', zm_lt, zm_lt', zm_le, zm_le', zm_sub1, zN_01, Nat.mul_zero, Nat.zero_mul, Nat.mul_one, Nat.sub_zero, Nat.sub_self, Nat.add_sub_cancel]
theorem Leaf_upw {w v : Nat} (hw : w ≤ 1) {M : zMM} {P : Nat → Nat} (h : Leaf M 10 P) : Leaf (wr M 10 w (zN v)) 10 (up P w v) := by
  have e : w = 0 ∨ w = 1 := by omega
  rcases e with rfl | rfl
  · exact Leaf_up0 h
  · exact Leaf_up1 h
theorem Good_upw {P : Nat → Nat} (hP : Good P) {w v lo hi : Nat} (hlh : (w = 0 ∧ lo = 29 ∧ hi = 60) ∨ (w = 1 ∧ lo = 3 ∧ hi = 40)) (hv : lo ≤ v ∧ v ≤ hi) (k : pOK (up P w v) (up P w v 2) (up P w v 3) (up P w v 4)) : Good (up P w v) := by
  unfold pOK at k
  rcases hlh with ⟨rfl, rfl, rfl⟩ | ⟨rfl, rfl, rfl⟩
  · simp (disch := omega) only [up_ne, up_eq] at k
    exact Good_up0 hP (by omega)
  · simp (disch := omega) only [up_ne, up_eq] at k
    exact Good_up1 hP (by omega)
def lmC (res : Option (Nat × Nat)) (M' : zMM) : Option (Int32 × zMM) := match res with
  | none => some (-zN 2, M')
  | some q => (fX2_tell (zN q.2).toInt64 M').bind fun q9 => some (zN q.1, q9)
def lmM (w lo hi n : Nat) (res : Option (Nat × Nat)) (M' : zMM) : Option (Int32 × zMM) := match res with
  | none => fX7_leastBy_89 (zN w) (zN lo) (zN hi) (zN n) (zN (hi + 1)) (zN 0) M'
  | some q => fX7_leastBy_89 (zN w) (zN lo) (zN hi) (zN n) (zN (q.1 + 1)) (zN 1) M'
theorem lm_both {P : Nat → Nat} (hP : Good P) {w n lo hi : Nat} (hlh : (w = 0 ∧ lo = 29 ∧ hi = 60) ∨ (w = 1 ∧ lo = 3 ∧ hi = 40)) (hn : n ≤ 9) : ∀ f v, hi + 1 - v = f → lo ≤ v → v ≤ hi + 1 → ∃ res : Option (Nat × Nat), (∀ v' pg, res = some (v', pg) → v' < 1000 ∧ pg ≤ 210) ∧
    (∀ M fuel a, f < fuel → Leaf M 10 (up P w a) → ∃ M', fX6_leastMeasure_30 (zN w) (zN n) fuel (zN v) M = lmC res M' ∧ fr (fun c _ => (10 ≤ c ∧ c < 20) ∨ (120 ≤ c ∧ c ≤ 147)) M M') ∧
    (∀ M fuel a, f + 1 < fuel → MNow M (up P w a) → ∃ M', fX7_leastBy_10 (zN w) (zN lo) (zN hi) (zN n) fuel (zN v) (zN 0) M = lmM w lo hi n res M' ∧ (∀ q, res = some q → M'.1 158 14 = zN q.2) ∧ fr (fun c j => c = 159 ∨ MS c j) M M') := by
  have hp := hP.1
  have hw1 : w ≤ 1 := by omega
  have z1 : zst 1 w = zN hi := by
    rcases hlh with ⟨rfl, rfl, rfl⟩ | ⟨rfl, rfl, rfl⟩ <;> decide
  intro f
  induction f with
  | zero =>
    intro v hf h1 h2
    have ev : v = hi + 1 := by omega
    subst ev
    refine ⟨none, fun _ _ h => absurd h (by simp), fun M fuel a hfu hL => ?_, fun M fuel a hfu hM => ?_⟩
    · obtain ⟨fu, rfl⟩ : ∃ q, fuel = q + 1 := ⟨fuel - 1, by omega⟩
      refine ⟨M, ?_, fr_refl _ _⟩
      rw [fX6_leastMeasure_30]
      simp (disch := omega) only [wr_cj, wr_nj, rng_in, rng_out, zN_lit, zN_add, zN_mul, zN_sub, zN_ltT, zN_ltF, zN_leT, zN_leF, zN_eqT, zN_eqF, zN_lt, zN_le, zN_eq, zN_nat, zN_oobF, Option.bind_some, ↓reduceIte, Nat.one_mul, Nat.zero_add, Nat.add_zero, Nat.reduceAdd, Nat.reduceMul, Nat.reduceSub, Nat.reduceLT, Nat.reduceLeDiff, Nat.reduceEqDiff, reduceCtorEq, true_or, or_true, false_or, or_false, true_and, and_true, false_and, and_false, not_true_eq_false, not_false_eq_true, wr_2, wrL_1, zm_eqF, zm_eqF', zm_lt, zm_lt', zm_le, zm_le', zm_sub1, zN_01, Nat.mul_zero, Nat.zero_mul, Nat.mul_one, Nat.sub_zero, Nat.sub_self, Nat.add_sub_cancel, z1, lmC]
    · obtain ⟨fu, rfl⟩ : ∃ q, fuel = q + 1 := ⟨fuel - 1, by omega⟩
      refine ⟨M, ?_, fun _ h => absurd h (by simp), fr_refl _ _⟩
      rw [fX7_leastBy_10]
      simp (disch := omega) only [wr_cj, wr_nj, rng_in, rng_out, zN_lit, zN_add, zN_mul, zN_sub, zN_ltT, zN_ltF, zN_leT, zN_leF, zN_eqT, zN_eqF, zN_lt, zN_le, zN_eq, zN_nat, zN_oobF, Option.bind_some, ↓reduceIte, Nat.one_mul, Nat.zero_add, Nat.add_zero, Nat.reduceAdd, Nat.reduceMul, Nat.reduceSub, Nat.reduceLT, Nat.reduceLeDiff, Nat.reduceEqDiff, reduceCtorEq, true_or, or_true, false_or, or_false, true_and, and_true, false_and, and_false, not_true_eq_false, not_false_eq_true, wr_2, wrL_1, zm_eqF, zm_eqF', zm_lt, zm_lt', zm_le, zm_le', zm_sub1, zN_01, Nat.mul_zero, Nat.zero_mul, Nat.mul_one, Nat.sub_zero, Nat.sub_self, Nat.add_sub_cancel, lmM]
  | succ f ih =>
    intro v hf h1 h2
    obtain ⟨res, hres, hC, hM⟩ := ih (v + 1) (by omega) (by omega) (by omega)
    have hb : 17 ≤ up P w v 0 ∧ up P w v 0 ≤ 60 ∧ up P w v 1 ≤ 40 ∧ up P w v 255 ≤ 4 := by
      rcases hlh with ⟨rfl, rfl, rfl⟩ | ⟨rfl, rfl, rfl⟩ <;> simp (disch := omega) only [up_ne, up_eq] <;> omega
    have h24 : up P w v 2 = P 2 ∧ up P w v 3 = P 3 ∧ up P w v 4 = P 4 := by
      simp (disch := omega) only [up_ne, and_self]
    have hw2 : hi ≤ 60 := by omega
    by_cases k : pOK (up P w v) (up P w v 2) (up P w v 3) (up P w v 4)
    · have hQ := Good_upw hP hlh ⟨h1, by omega⟩ k
      have hpl := pgs_le hQ
      by_cases kp : pgs (up P w v) ≤ n
      · refine ⟨some (v, pgs (up P w v)), fun v' pg h => by cases h; exact ⟨by omega, hpl⟩, fun M fuel a hfu hL => ?_, fun M fuel a hfu hM => ?_⟩
        · obtain ⟨fu, rfl⟩ : ∃ q, fuel = q + 1 := ⟨fuel - 1, by omega⟩
          have l1 : Leaf (wr M 10 w (zN v)) 10 (up P w v) := by have := Leaf_upw (v := v) hw1 hL; rw [up_up] at this; exact this
          have al := (allowsIts hb (by omega) l1).1 k
          obtain ⟨M2, e2, s2, l2, f2⟩ := cset0 hQ (b := 10) (by omega) l1
          have pc := pageCount4 hQ l2 s2
          have sm := setMe10 (v := v) hw1 M
          refine ⟨M2, ?_, fr_trans (fr_wr (fr_refl _ _) (by omega)) (fr_mono f2 (fun c j a => by omega))⟩
          rw [fX6_leastMeasure_30]
          simp (disch := omega) only [wr_cj, wr_nj, rng_in, rng_out, zN_lit, zN_add, zN_mul, zN_sub, zN_ltT, zN_ltF, zN_leT, zN_leF, zN_eqT, zN_eqF, zN_lt, zN_le, zN_eq, zN_nat, zN_oobF, Option.bind_some, ↓reduceIte, Nat.one_mul, Nat.zero_add, Nat.add_zero, Nat.reduceAdd, Nat.reduceMul, Nat.reduceSub, Nat.reduceLT, Nat.reduceLeDiff, Nat.reduceEqDiff, reduceCtorEq, true_or, or_true, false_or, or_false, true_and, and_true, false_and, and_false, not_true_eq_false, not_false_eq_true, wr_2, wrL_1, zm_eqF, zm_eqF', zm_lt, zm_lt', zm_le, zm_le', zm_sub1, zN_01, Nat.mul_zero, Nat.zero_mul, Nat.mul_one, Nat.sub_zero, Nat.sub_self, Nat.add_sub_cancel, z1, sm, al, e2, pc, lmC]
        · obtain ⟨fu, rfl⟩ : ∃ q, fuel = q + 1 := ⟨fuel - 1, by omega⟩
          obtain ⟨fu, rfl⟩ : ∃ q, fu = q + 1 := ⟨fu - 1, by omega⟩
          have n1 : MNow (wr M 159 w (zN v)) (up P w v) := by have := MNow_up (j := w) (v := v) hM; rw [up_up] at this; exact this
          have cb := (canBe7 hb n1 (c := up P w v 2) (i := up P w v 3) (o := up P w v 4) (by omega) (by omega) (by omega)).1 k
          have m2 := n1 2 (by omega)
          have m3 := n1 3 (by omega)
          have m4 := n1 4 (by omega)
          obtain ⟨M2, e2, s2, n2, f2⟩ := mset0 hQ n1
          have k14 := s2.2
          refine ⟨M2, ?_, fun q h => by cases h; exact k14, fr_trans (fr_wr (fr_refl _ _) (by omega)) (fr_mono f2 (fun c j a => Or.inr a))⟩
          rw [fX7_leastBy_10]
          simp only [zN_lit]
          rw [if_neg (by rw [zN_ltF (by omega)]; exact id), if_pos trivial, if_neg (by rw [zN_oobF (by omega)]; exact id), zN_nat (by omega), m2, m3, m4, cb, Option.bind_some, if_neg nz10, e2, Option.bind_some]
          simp (disch := omega) only [wr_cj, wr_nj, rng_in, rng_out, zN_lit, zN_add, zN_mul, zN_sub, zN_ltT, zN_ltF, zN_leT, zN_leF, zN_eqT, zN_eqF, zN_lt, zN_le, zN_eq, zN_nat, zN_oobF, Option.bind_some, ↓reduceIte, Nat.one_mul, Nat.zero_add, Nat.add_zero, Nat.reduceAdd, Nat.reduceMul, Nat.reduceSub, Nat.reduceLT, Nat.reduceLeDiff, Nat.reduceEqDiff, reduceCtorEq, true_or, or_true, false_or, or_false, true_and, and_true, false_and, and_false, not_true_eq_false, not_false_eq_true, wr_2, wrL_1, zm_eqF, zm_eqF', zm_lt, zm_lt', zm_le, zm_le', zm_sub1, zN_01, Nat.mul_zero, Nat.zero_mul, Nat.mul_one, Nat.sub_zero, Nat.sub_self, Nat.add_sub_cancel, fX7_leastBy_62, fX7_leastBy_81, k14]
          rw [fX7_leastBy_10]
          by_cases c : hi < v + 1
          · simp (disch := omega) only [wr_cj, wr_nj, rng_in, rng_out, zN_lit, zN_add, zN_mul, zN_sub, zN_ltT, zN_ltF, zN_leT, zN_leF, zN_eqT, zN_eqF, zN_lt, zN_le, zN_eq, zN_nat, zN_oobF, Option.bind_some, ↓reduceIte, Nat.one_mul, Nat.zero_add, Nat.add_zero, Nat.reduceAdd, Nat.reduceMul, Nat.reduceSub, Nat.reduceLT, Nat.reduceLeDiff, Nat.reduceEqDiff, reduceCtorEq, true_or, or_true, false_or, or_false, true_and, and_true, false_and, and_false, not_true_eq_false, not_false_eq_true, wr_2, wrL_1, zm_eqF, zm_eqF', zm_lt, zm_lt', zm_le, zm_le', zm_sub1, zN_01, Nat.mul_zero, Nat.zero_mul, Nat.mul_one, Nat.sub_zero, Nat.sub_self, Nat.add_sub_cancel, lmM]
          · simp (disch := omega) only [wr_cj, wr_nj, rng_in, rng_out, zN_lit, zN_add, zN_mul, zN_sub, zN_ltT, zN_ltF, zN_leT, zN_leF, zN_eqT, zN_eqF, zN_lt, zN_le, zN_eq, zN_nat, zN_oobF, Option.bind_some, ↓reduceIte, Nat.one_mul, Nat.zero_add, Nat.add_zero, Nat.reduceAdd, Nat.reduceMul, Nat.reduceSub, Nat.reduceLT, Nat.reduceLeDiff, Nat.reduceEqDiff, reduceCtorEq, true_or, or_true, false_or, or_false, true_and, and_true, false_and, and_false, not_true_eq_false, not_false_eq_true, wr_2, wrL_1, zm_eqF, zm_eqF', zm_lt, zm_lt', zm_le, zm_le', zm_sub1, zN_01, Nat.mul_zero, Nat.zero_mul, Nat.mul_one, Nat.sub_zero, Nat.sub_self, Nat.add_sub_cancel, lmM]
      · refine ⟨res, hres, fun M fuel a hfu hL => ?_, fun M fuel a hfu hM0 => ?_⟩
        · obtain ⟨fu, rfl⟩ : ∃ q, fuel = q + 1 := ⟨fuel - 1, by omega⟩
          have l1 : Leaf (wr M 10 w (zN v)) 10 (up P w v) := by have := Leaf_upw (v := v) hw1 hL; rw [up_up] at this; exact this
          have al := (allowsIts hb (by omega) l1).1 k
          obtain ⟨M2, e2, s2, l2, f2⟩ := cset0 hQ (b := 10) (by omega) l1
          have pc := pageCount4 hQ l2 s2
          have sm := setMe10 (v := v) hw1 M
          obtain ⟨M3, e3, f3⟩ := hC M2 fu v (by omega) l2
          refine ⟨M3, ?_, fr_trans (fr_trans (fr_wr (fr_refl _ _) (by omega)) (fr_mono f2 (fun c j a => by omega))) f3⟩
          rw [← e3, fX6_leastMeasure_30]
          simp (disch := omega) only [wr_cj, wr_nj, rng_in, rng_out, zN_lit, zN_add, zN_mul, zN_sub, zN_ltT, zN_ltF, zN_leT, zN_leF, zN_eqT, zN_eqF, zN_lt, zN_le, zN_eq, zN_nat, zN_oobF, Option.bind_some, ↓reduceIte, Nat.one_mul, Nat.zero_add, Nat.add_zero, Nat.reduceAdd, Nat.reduceMul, Nat.reduceSub, Nat.reduceLT, Nat.reduceLeDiff, Nat.reduceEqDiff, reduceCtorEq, true_or, or_true, false_or, or_false, true_and, and_true, false_and, and_false, not_true_eq_false, not_false_eq_true, wr_2, wrL_1, zm_eqF, zm_eqF', zm_lt, zm_lt', zm_le, zm_le', zm_sub1, zN_01, Nat.mul_zero, Nat.zero_mul, Nat.mul_one, Nat.sub_zero, Nat.sub_self, Nat.add_sub_cancel, z1, sm, al, e2, pc, fX6_leastMeasure_103]
        · obtain ⟨fu, rfl⟩ : ∃ q, fuel = q + 1 := ⟨fuel - 1, by omega⟩
          have n1 : MNow (wr M 159 w (zN v)) (up P w v) := by have := MNow_up (j := w) (v := v) hM0; rw [up_up] at this; exact this
          have cb := (canBe7 hb n1 (c := up P w v 2) (i := up P w v 3) (o := up P w v 4) (by omega) (by omega) (by omega)).1 k
          have m2 := n1 2 (by omega)
          have m3 := n1 3 (by omega)
          have m4 := n1 4 (by omega)
          obtain ⟨M2, e2, s2, n2, f2⟩ := mset0 hQ n1
          have k14 := s2.2
          obtain ⟨M3, e3, g3, f3⟩ := hM M2 fu v (by omega) n2
          refine ⟨M3, ?_, g3, fr_trans (fr_trans (fr_wr (fr_refl _ _) (by omega)) (fr_mono f2 (fun c j a => Or.inr a))) f3⟩
          rw [← e3, fX7_leastBy_10]
          simp only [zN_lit]
          rw [if_neg (by rw [zN_ltF (by omega)]; exact id), if_pos trivial, if_neg (by rw [zN_oobF (by omega)]; exact id), zN_nat (by omega), m2, m3, m4, cb, Option.bind_some, if_neg nz10, e2, Option.bind_some]
          simp (disch := omega) only [wr_cj, wr_nj, rng_in, rng_out, zN_lit, zN_add, zN_mul, zN_sub, zN_ltT, zN_ltF, zN_leT, zN_leF, zN_eqT, zN_eqF, zN_lt, zN_le, zN_eq, zN_nat, zN_oobF, Option.bind_some, ↓reduceIte, Nat.one_mul, Nat.zero_add, Nat.add_zero, Nat.reduceAdd, Nat.reduceMul, Nat.reduceSub, Nat.reduceLT, Nat.reduceLeDiff, Nat.reduceEqDiff, reduceCtorEq, true_or, or_true, false_or, or_false, true_and, and_true, false_and, and_false, not_true_eq_false, not_false_eq_true, wr_2, wrL_1, zm_eqF, zm_eqF', zm_lt, zm_lt', zm_le, zm_le', zm_sub1, zN_01, Nat.mul_zero, Nat.zero_mul, Nat.mul_one, Nat.sub_zero, Nat.sub_self, Nat.add_sub_cancel, fX7_leastBy_62, fX7_leastBy_80, fX7_leastBy_81, k14]
    · refine ⟨res, hres, fun M fuel a hfu hL => ?_, fun M fuel a hfu hM0 => ?_⟩
      · obtain ⟨fu, rfl⟩ : ∃ q, fuel = q + 1 := ⟨fuel - 1, by omega⟩
        have l1 : Leaf (wr M 10 w (zN v)) 10 (up P w v) := by have := Leaf_upw (v := v) hw1 hL; rw [up_up] at this; exact this
        have al := (allowsIts hb (by omega) l1).2 k
        have sm := setMe10 (v := v) hw1 M
        obtain ⟨M3, e3, f3⟩ := hC (wr M 10 w (zN v)) fu v (by omega) l1
        refine ⟨M3, ?_, fr_trans (fr_wr (fr_refl _ _) (by omega)) f3⟩
        rw [← e3, fX6_leastMeasure_30]
        simp (disch := omega) only [wr_cj, wr_nj, rng_in, rng_out, zN_lit, zN_add, zN_mul, zN_sub, zN_ltT, zN_ltF, zN_leT, zN_leF, zN_eqT, zN_eqF, zN_lt, zN_le, zN_eq, zN_nat, zN_oobF, Option.bind_some, ↓reduceIte, Nat.one_mul, Nat.zero_add, Nat.add_zero, Nat.reduceAdd, Nat.reduceMul, Nat.reduceSub, Nat.reduceLT, Nat.reduceLeDiff, Nat.reduceEqDiff, reduceCtorEq, true_or, or_true, false_or, or_false, true_and, and_true, false_and, and_false, not_true_eq_false, not_false_eq_true, wr_2, wrL_1, zm_eqF, zm_eqF', zm_lt, zm_lt', zm_le, zm_le', zm_sub1, zN_01, Nat.mul_zero, Nat.zero_mul, Nat.mul_one, Nat.sub_zero, Nat.sub_self, Nat.add_sub_cancel, z1, sm, al, fX6_leastMeasure_103]
      · obtain ⟨fu, rfl⟩ : ∃ q, fuel = q + 1 := ⟨fuel - 1, by omega⟩
        have n1 : MNow (wr M 159 w (zN v)) (up P w v) := by have := MNow_up (j := w) (v := v) hM0; rw [up_up] at this; exact this
        have cb := (canBe7 hb n1 (c := up P w v 2) (i := up P w v 3) (o := up P w v 4) (by omega) (by omega) (by omega)).2 k
        have m2 := n1 2 (by omega)
        have m3 := n1 3 (by omega)
        have m4 := n1 4 (by omega)
        obtain ⟨M3, e3, g3, f3⟩ := hM (wr M 159 w (zN v)) fu v (by omega) n1
        refine ⟨M3, ?_, g3, fr_trans (fr_wr (fr_refl _ _) (by omega)) f3⟩
        rw [← e3, fX7_leastBy_10]
        simp only [zN_lit]
        rw [if_neg (by rw [zN_ltF (by omega)]; exact id), if_pos trivial, if_neg (by rw [zN_oobF (by omega)]; exact id), zN_nat (by omega), m2, m3, m4, cb, Option.bind_some, if_pos rfl]
        simp (disch := omega) only [wr_cj, wr_nj, rng_in, rng_out, zN_lit, zN_add, zN_mul, zN_sub, zN_ltT, zN_ltF, zN_leT, zN_leF, zN_eqT, zN_eqF, zN_lt, zN_le, zN_eq, zN_nat, zN_oobF, Option.bind_some, ↓reduceIte, Nat.one_mul, Nat.zero_add, Nat.add_zero, Nat.reduceAdd, Nat.reduceMul, Nat.reduceSub, Nat.reduceLT, Nat.reduceLeDiff, Nat.reduceEqDiff, reduceCtorEq, true_or, or_true, false_or, or_false, true_and, and_true, false_and, and_false, not_true_eq_false, not_false_eq_true, wr_2, wrL_1, zm_eqF, zm_eqF', zm_lt, zm_lt', zm_le, zm_le', zm_sub1, zN_01, Nat.mul_zero, Nat.zero_mul, Nat.mul_one, Nat.sub_zero, Nat.sub_self, Nat.add_sub_cancel, fX7_leastBy_62, fX7_leastBy_80, fX7_leastBy_81]
theorem least_call {w lo hi : Nat} (hlh : (w = 0 ∧ lo = 29 ∧ hi = 60) ∨ (w = 1 ∧ lo = 3 ∧ hi = 40)) (x : Int32) : Cll (fun M => (fX6_leastMeasure (zN w) x M).bind fun q1 => some (q1.1, q1.2)) (fun M => (fX7_in x (zN 1) (zN 9) (wr M 158 5 (zN 0))).bind fun q1 => if q1.1 = zN 0 then some (-zN 1, q1.2) else (fX7_leastBy (zN w) (zN lo) (zN hi) x q1.2).bind fun q3 => some (q3.1, q3.2)) := by
  refine Cll_of (fun P T R U K hw => ?_)
  have hP := hw.1
  have hU := hw.2.2.2.1.1
  have hw1 : w ≤ 1 := by omega
  have z0 : zst 0 w = zN lo := by
    rcases hlh with ⟨rfl, rfl, rfl⟩ | ⟨rfl, rfl, rfl⟩ <;> decide
  have hlo : lo ≤ hi ∧ hi ≤ 60 := by omega
  rcases zcaseR x 1 9 with ⟨n, n1, n2, rfl⟩ | hx | ⟨n, hn, rfl, hnn⟩
  · obtain ⟨res, hres, hC, hMM⟩ := lm_both hP hlh n2 (hi + 1 - lo) lo rfl (Nat.le_refl _) (by omega)
    have cl : ∀ M, CI P T R U K M → ∃ M1, fX6_leastMeasure (zN w) (zN n) M = lmC res M1 ∧ cq M M1 ∧ Leaf M1 0 P ∧ CR R M1 := by
      intro M hM
      obtain ⟨M1, e1, l1, f1⟩ := copy0 hP (b := 10) hM.1 (by omega)
      rw [← up_self P w] at l1
      obtain ⟨M2, e2, f2⟩ := hC M1 zFU (P w) (by rw [zFU_eq]; omega) l1
      refine ⟨M2, ?_, cq_trans (cq_leaf (by omega) f1) (cq_fr f2 (fun c j a => by unfold CW; omega)), Leaf_eq hM.1 (fun c j a b => by rw [f2.1 c j (by omega), f1.1 c j (by omega)]), CR_q (CR_q hM.2.2.1 f1 (fun j a => by omega)) f2 (fun j a => by omega)⟩
      rw [← e2]
      unfold fX6_leastMeasure
      simp (disch := omega) only [wr_cj, wr_nj, rng_in, rng_out, zN_lit, zN_add, zN_mul, zN_sub, zN_ltT, zN_ltF, zN_leT, zN_leF, zN_eqT, zN_eqF, zN_lt, zN_le, zN_eq, zN_nat, zN_oobF, Option.bind_some, ↓reduceIte, Nat.one_mul, Nat.zero_add, Nat.add_zero, Nat.reduceAdd, Nat.reduceMul, Nat.reduceSub, Nat.reduceLT, Nat.reduceLeDiff, Nat.reduceEqDiff, reduceCtorEq, true_or, or_true, false_or, or_false, true_and, and_true, false_and, and_false, not_true_eq_false, not_false_eq_true, wr_2, wrL_1, zm_eqF, zm_eqF', zm_lt, zm_lt', zm_le, zm_le', zm_sub1, zN_01, Nat.mul_zero, Nat.zero_mul, Nat.mul_one, Nat.sub_zero, Nat.sub_self, Nat.add_sub_cancel, e1, z0]
    have ml : ∀ M, MI P T R U K M → ∃ M1 M2, fX7_leastBy (zN w) (zN lo) (zN hi) (zN n) (wr M 158 5 (zN 0)) = lmM w lo hi n res M1 ∧ (∀ q, res = some q → M2.1 158 14 = zN q.2) ∧ fX7_comesBack M1 = some M2 ∧ mq M M2 ∧ MNow M2 P ∧ MR R M2 := by
      intro M hM
      have h0 := MNow_w (j := 5) (v := zN 0) hM.1
      obtain ⟨M1, e1, as1, n1, f1⟩ := aside7 h0
      rw [← up_self P w] at n1
      obtain ⟨M2, e2, g2, f2⟩ := hMM M1 zFU (P w) (by rw [zFU_eq]; omega) n1
      have as2 := AS_fr as1 f2 (fun j a => by unfold MS at a; omega)
      obtain ⟨M3, e3, n3, f3⟩ := back7 as2
      have r0 : MR R (wr M 158 5 (zN 0)) := MR_fr hM.2.2.1 (wr_nj (by omega)) (fun j => rfl)
      refine ⟨M2, M3, ?_, fun q hq => by rw [f3.1 _ _ (by omega)]; exact g2 q hq, e3, mq_trans (mq_w (j := 5) (v := zN 0) (by omega)) (mq_trans (mq_166 f1) (mq_trans (mq_fr f2 (fun c j a => by unfold MS at a; unfold MSc; omega)) (mq_159 f3))), n3, MR_q (MR_q (MR_q r0 f1 (by omega)) f2 (by unfold MS; omega)) f3 (by omega)⟩
      rw [← e2]
      unfold fX7_leastBy
      rw [e1]; rfl
    have tt := fun M => in7T (a := n) (lo := 1) (hi := 9) (by omega) (wr M 158 5 (zN 0))
    cases res with
    | none =>
      refine ⟨-zN 2, P, T, R, U, K, hw, fun M hM => ?_, fun M hM => ?_⟩
      · obtain ⟨M1, e1, q1, l1, r1⟩ := cl M hM
        refine ⟨M1, ?_, CI_q hM hU q1 l1 r1⟩
        dsimp only [lmC, lmM] at e1 ⊢
        rw [e1]; rfl
      · obtain ⟨M1, M2, e1, g1, b1, q1, n1', r1⟩ := ml M hM
        refine ⟨M2, ?_, MI_q hM q1 n1' r1⟩
        dsimp only [lmC, lmM] at e1 ⊢
        rw [tt, Option.bind_some, if_neg nz10, e1]
        unfold fX7_leastBy_89
        rw [b1]; rfl
    | some q =>
      have hq := hres q.1 q.2 rfl
      refine ⟨zN q.1, P, T, [(zN q.2).toInt64], U, K, WF_R hw (by simp), fun M hM => ?_, fun M hM => ?_⟩
      · obtain ⟨M1, e1, q1, l1, r1⟩ := cl M hM
        obtain ⟨M2, e2, r2, y2⟩ := tell1 (zN q.2).toInt64 M1
        refine ⟨M2, ?_, CI_q hM hU (cq_trans q1 (cq_Y y2)) (Leaf_Y l1 (by omega) y2) r2⟩
        dsimp only [lmC, lmM] at e1 ⊢
        rw [e1, e2]; rfl
      · obtain ⟨M1, M2, e1, g1, b1, q1, n1', r1⟩ := ml M hM
        obtain ⟨M3, e3, r3, x3⟩ := tell7 (MR_nil M2) (by simp) (zN q.2).toInt64
        refine ⟨M3, ?_, MI_q hM (mq_trans q1 (mq_trans (mq_w (j := 4) (v := zN 0) (by omega)) (mq_X x3))) (MNow_X (MNow_w n1') x3) r3⟩
        have g := g1 q rfl
        dsimp only [lmC, lmM] at e1 ⊢
        rw [tt, Option.bind_some, if_neg nz10, e1]
        unfold fX7_leastBy_89
        simp (disch := omega) only [wr_cj, wr_nj, rng_in, rng_out, zN_lit, zN_add, zN_mul, zN_sub, zN_ltT, zN_ltF, zN_leT, zN_leF, zN_eqT, zN_eqF, zN_lt, zN_le, zN_eq, zN_nat, zN_oobF, Option.bind_some, ↓reduceIte, Nat.one_mul, Nat.zero_add, Nat.add_zero, Nat.reduceAdd, Nat.reduceMul, Nat.reduceSub, Nat.reduceLT, Nat.reduceLeDiff, Nat.reduceEqDiff, reduceCtorEq, true_or, or_true, false_or, or_false, true_and, and_true, false_and, and_false, not_true_eq_false, not_false_eq_true, wr_2, wrL_1, zm_eqF, zm_eqF', zm_lt, zm_lt', zm_le, zm_le', zm_sub1, zN_01, Nat.mul_zero, Nat.zero_mul, Nat.mul_one, Nat.sub_zero, Nat.sub_self, Nat.add_sub_cancel, b1, g, e3]
  · refine ⟨-zN 1, P, T, R, U, K, hw, CD_no (fun M hM => ?_), MD_no (fun M hM => ?_)⟩
    · unfold fX6_leastMeasure; simp (disch := omega) only [wr_cj, wr_nj, rng_in, rng_out, zN_lit, zN_add, zN_mul, zN_sub, zN_ltT, zN_ltF, zN_leT, zN_leF, zN_eqT, zN_eqF, zN_lt, zN_le, zN_eq, zN_nat, zN_oobF, Option.bind_some, ↓reduceIte, Nat.one_mul, Nat.zero_add, Nat.add_zero, Nat.reduceAdd, Nat.reduceMul, Nat.reduceSub, Nat.reduceLT, Nat.reduceLeDiff, Nat.reduceEqDiff, reduceCtorEq, true_or, or_true, false_or, or_false, true_and, and_true, false_and, and_false, not_true_eq_false, not_false_eq_true, wr_2, wrL_1, zm_eqF, zm_eqF', zm_lt, zm_lt', zm_le, zm_le', zm_sub1, zN_01, Nat.mul_zero, Nat.zero_mul, Nat.mul_one, Nat.sub_zero, Nat.sub_self, Nat.add_sub_cancel, zg_lt hx]
    · have t := in7g hx (lo := 1) (by omega) (zN 9) (wr M 158 5 (zN 0))
      simp (disch := omega) only [wr_cj, wr_nj, rng_in, rng_out, zN_lit, zN_add, zN_mul, zN_sub, zN_ltT, zN_ltF, zN_leT, zN_leF, zN_eqT, zN_eqF, zN_lt, zN_le, zN_eq, zN_nat, zN_oobF, Option.bind_some, ↓reduceIte, Nat.one_mul, Nat.zero_add, Nat.add_zero, Nat.reduceAdd, Nat.reduceMul, Nat.reduceSub, Nat.reduceLT, Nat.reduceLeDiff, Nat.reduceEqDiff, reduceCtorEq, true_or, or_true, false_or, or_false, true_and, and_true, false_and, and_false, not_true_eq_false, not_false_eq_true, wr_2, wrL_1, zm_eqF, zm_eqF', zm_lt, zm_lt', zm_le, zm_le', zm_sub1, zN_01, Nat.mul_zero, Nat.zero_mul, Nat.mul_one, Nat.sub_zero, Nat.sub_self, Nat.add_sub_cancel, t]
  · refine ⟨-zN 1, P, T, R, U, K, hw, CD_no (fun M hM => ?_), MD_no (fun M hM => ?_)⟩
    · unfold fX6_leastMeasure
      by_cases c : n < 1
      · simp (disch := omega) only [wr_cj, wr_nj, rng_in, rng_out, zN_lit, zN_add, zN_mul, zN_sub, zN_ltT, zN_ltF, zN_leT, zN_leF, zN_eqT, zN_eqF, zN_lt, zN_le, zN_eq, zN_nat, zN_oobF, Option.bind_some, ↓reduceIte, Nat.one_mul, Nat.zero_add, Nat.add_zero, Nat.reduceAdd, Nat.reduceMul, Nat.reduceSub, Nat.reduceLT, Nat.reduceLeDiff, Nat.reduceEqDiff, reduceCtorEq, true_or, or_true, false_or, or_false, true_and, and_true, false_and, and_false, not_true_eq_false, not_false_eq_true, wr_2, wrL_1, zm_eqF, zm_eqF', zm_lt, zm_lt', zm_le, zm_le', zm_sub1, zN_01, Nat.mul_zero, Nat.zero_mul, Nat.mul_one, Nat.sub_zero, Nat.sub_self, Nat.add_sub_cancel]
      · simp (disch := omega) only [wr_cj, wr_nj, rng_in, rng_out, zN_lit, zN_add, zN_mul, zN_sub, zN_ltT, zN_ltF, zN_leT, zN_leF, zN_eqT, zN_eqF, zN_lt, zN_le, zN_eq, zN_nat, zN_oobF, Option.bind_some, ↓reduceIte, Nat.one_mul, Nat.zero_add, Nat.add_zero, Nat.reduceAdd, Nat.reduceMul, Nat.reduceSub, Nat.reduceLT, Nat.reduceLeDiff, Nat.reduceEqDiff, reduceCtorEq, true_or, or_true, false_or, or_false, true_and, and_true, false_and, and_false, not_true_eq_false, not_false_eq_true, wr_2, wrL_1, zm_eqF, zm_eqF', zm_lt, zm_lt', zm_le, zm_le', zm_sub1, zN_01, Nat.mul_zero, Nat.zero_mul, Nat.mul_one, Nat.sub_zero, Nat.sub_self, Nat.add_sub_cancel]
    · have t := in7F (a := n) (lo := 1) (hi := 9) (by omega) (wr M 158 5 (zN 0))
      simp (disch := omega) only [wr_cj, wr_nj, rng_in, rng_out, zN_lit, zN_add, zN_mul, zN_sub, zN_ltT, zN_ltF, zN_leT, zN_leF, zN_eqT, zN_eqF, zN_lt, zN_le, zN_eq, zN_nat, zN_oobF, Option.bind_some, ↓reduceIte, Nat.one_mul, Nat.zero_add, Nat.add_zero, Nat.reduceAdd, Nat.reduceMul, Nat.reduceSub, Nat.reduceLT, Nat.reduceLeDiff, Nat.reduceEqDiff, reduceCtorEq, true_or, or_true, false_or, or_false, true_and, and_true, false_and, and_false, not_true_eq_false, not_false_eq_true, wr_2, wrL_1, zm_eqF, zm_eqF', zm_lt, zm_lt', zm_le, zm_le', zm_sub1, zN_01, Nat.mul_zero, Nat.zero_mul, Nat.mul_one, Nat.sub_zero, Nat.sub_self, Nat.add_sub_cancel, t]
theorem call_narrow (x : Int32) : Cll (fX6_narrow x) (fX7_narrow x) := least_call (w := 0) (lo := 29) (hi := 60) (Or.inl ⟨rfl, rfl, rfl⟩) x
theorem call_low (x : Int32) : Cll (fX6_low x) (fX7_low x) := least_call (w := 1) (lo := 3) (hi := 40) (Or.inr ⟨rfl, rfl, rfl⟩) x
/-! years -/
theorem u2z (u : UInt32) : u.toInt32 = zN u.toNat := by
  unfold zN zI
  rw [Int32.ofInt_eq_ofNat]
  show _ = (UInt32.ofNat u.toNat).toInt32
  rw [UInt32.ofNat_toNat]
def dr (a : Int32) : Nat := (a.toUInt32 >>> (16 : UInt32)).toNat
theorem dr_lt (a : Int32) : dr a < 65536 := by
  unfold dr
  rw [UInt32.toNat_shiftRight]
  have h : a.toUInt32.toNat < 4294967296 := a.toUInt32.toNat_lt
  show a.toUInt32.toNat >>> 16 < 65536
  rw [Nat.shiftRight_eq_div_pow]
  omega
theorem dr_e (a : Int32) : (Int32.toUInt32 a >>> (Int32.toUInt32 16 &&& Int32.toUInt32 31)).toInt32 = zN (dr a) := by
  rw [u2z]; rfl
theorem dr_m (a : Int32) {n : Nat} (h : 0 < n ∧ n < 1000) : zN (dr a) - zN (dr a) / zN n * zN n = zN (dr a % n) := by
  have := dr_lt a
  have e := Nat.div_add_mod (dr a) n
  rw [zN_div (by omega), zN_mul, zN_sub (by rw [Nat.mul_comm]; omega)]
  congr 1
  rw [Nat.mul_comm]; omega
theorem drawn6 (a : Int32) {n : Nat} (h : 0 < n ∧ n < 1000) (M : zMM) : fX6_drawn a (zN n) M = some (zN (dr a % n), M) := by
  unfold fX6_drawn
  rw [dr_e, dr_m a h, if_neg (show ¬ zN n ≤ 0 by show ¬ zN n ≤ zN 0; rw [zN_leF (by omega)]; exact id), if_neg (show ¬ zN n = 0 by show ¬ zN n = zN 0; rw [zN_eqF (by omega)]; exact id)]
def nx (r : Int32) : Int32 := r * 1103515245 + 12345
theorem draw7 {r : Int32} {n : Nat} (h : 0 < n ∧ n < 1000) {M : zMM} (hr : M.1 158 25 = r) : fX7_draw (zN n) M = some (zN (dr (nx r) % n), wr M 158 25 (nx r)) := by
  unfold fX7_draw
  rw [wr_cj, hr, if_neg (show ¬ zN n = 0 by show ¬ zN n = zN 0; rw [zN_eqF (by omega)]; exact id)]
  show some ((Int32.toUInt32 (nx r) >>> (Int32.toUInt32 16 &&& Int32.toUInt32 31)).toInt32 - (Int32.toUInt32 (nx r) >>> (Int32.toUInt32 16 &&& Int32.toUInt32 31)).toInt32 / zN n * zN n, wr M 158 25 (nx r)) = _
  rw [dr_e, dr_m (nx r) h]
def yrS (t v : Nat) (P : Nat → Nat) : Nat → Nat := if P (5 + t) < 70 then putP P t (P (5 + t)) (v + 1) else P
def yrP : Nat → Int32 → (Nat → Nat) → (Nat → Nat)
  | 0, _, P => P
  | n + 1, r, P => yrP n (nx (nx r)) (yrS (dr (nx r) % 3) (dr (nx (nx r)) % 9) P)
theorem yr_draw (r : Int32) : ∃ (r1 r2 : Int32) (t v : Nat), t < 3 ∧ v < 9 ∧ (∀ n P, yrP (n + 1) r P = yrP n r2 (yrS t v P)) ∧ (∀ M, fX6_nextDraw r M = some (r1, M)) ∧ (∀ M, fX6_nextDraw r1 M = some (r2, M)) ∧ (∀ M, fX6_drawn r1 (zN 3) M = some (zN t, M)) ∧ (∀ M, fX6_drawn r2 (zN 9) M = some (zN v, M)) ∧ (∀ M, M.1 158 25 = r → fX7_draw (zN 3) M = some (zN t, wr M 158 25 r1)) ∧ (∀ M, M.1 158 25 = r1 → fX7_draw (zN 9) M = some (zN v, wr M 158 25 r2)) :=
  ⟨nx r, nx (nx r), dr (nx r) % 3, dr (nx (nx r)) % 9, Nat.mod_lt _ (by decide), Nat.mod_lt _ (by decide), fun _ _ => rfl, fun _ => rfl, fun _ => rfl, fun M => drawn6 _ (by decide) M, fun M => drawn6 _ (by decide) M, fun M h => draw7 (by decide) h, fun M h => draw7 (by decide) h⟩
theorem Good_yrS {P : Nat → Nat} (hP : Good P) {t v : Nat} (ht : t < 3) (hv : v < 9) : Good (yrS t v P) := by
  unfold yrS
  split
  · exact Good_put hP ht (Nat.le_refl _) (by assumption) (by omega)
  · exact hP
theorem Good_yrP : ∀ n r P, Good P → Good (yrP n r P) := by
  intro n
  induction n with
  | zero => intro r P h; exact h
  | succ n ih =>
    intro r P h
    obtain ⟨r1, r2, t, v, ht, hv, e, -⟩ := yr_draw r
    rw [e]; exact ih _ _ (Good_yrS h ht hv)
theorem put0_full {P : Nat → Nat} (hP : Good P) {b t : Nat} {v : Int32} (ht : t < 3) (hc : ¬ P (5 + t) < 70) {M : zMM} (hL : Leaf M b P) : fX0_put b (zN t) (zN (P (5 + t))) v M = some M := by
  have lc := hL.2.2.1 t ht
  have h := (hP.2.1 t ht).1
  have it := isText6T ht M
  unfold fX0_put
  simp (disch := omega) only [wr_cj, wr_nj, rng_in, rng_out, zN_lit, zN_add, zN_mul, zN_sub, zN_ltT, zN_ltF, zN_leT, zN_leF, zN_eqT, zN_eqF, zN_lt, zN_le, zN_eq, zN_nat, zN_oobF, Option.bind_some, ↓reduceIte, Nat.one_mul, Nat.zero_add, Nat.add_zero, Nat.reduceAdd, Nat.reduceMul, Nat.reduceSub, Nat.reduceLT, Nat.reduceLeDiff, Nat.reduceEqDiff, reduceCtorEq, true_or, or_true, false_or, or_false, true_and, and_true, false_and, and_false, not_true_eq_false, not_false_eq_true, wr_2, wrL_1, zm_eqF, zm_eqF', zm_lt, zm_lt', zm_le, zm_le', zm_sub1, zN_01, Nat.mul_zero, Nat.zero_mul, Nat.mul_one, Nat.sub_zero, Nat.sub_self, Nat.add_sub_cancel, it, lc]
theorem years6 (x : Int32) {m : Nat} (hm : m ≤ 30) (G : zMM → Option (Int32 × zMM)) (hG : ∀ n r M, fX6_years_29 x (zN m) (n + 1) r (zN m) M = G M) : ∀ f i r P M fuel, m - i = f → i ≤ m → f < fuel → Good P → Leaf M 10 P → ∃ M', fX6_years_29 x (zN m) fuel r (zN i) M = G M' ∧ Leaf M' 10 (yrP f r P) ∧ fr (fun c _ => 10 ≤ c ∧ c < 20) M M' := by
  intro f
  induction f with
  | zero =>
    intro i r P M fuel hf hi hfu hP hL
    obtain ⟨fu, rfl⟩ : ∃ q, fuel = q + 1 := ⟨fuel - 1, by omega⟩
    have e : i = m := by omega
    subst e
    exact ⟨M, hG fu r M, hL, fr_refl _ _⟩
  | succ f ih =>
    intro i r P M fuel hf hi hfu hP hL
    obtain ⟨fu, rfl⟩ : ∃ q, fuel = q + 1 := ⟨fuel - 1, by omega⟩
    obtain ⟨r1, r2, t, v, ht, hv, ey, n1, n2, d1, d2, -, -⟩ := yr_draw r
    rw [ey]
    have lc := hL.2.2.1 t ht
    have hc := (hP.2.1 t ht).1
    obtain ⟨M1, e1, l1, f1⟩ : ∃ M1, fX0_put 10 (zN t) (zN (P (5 + t))) (zN (v + 1)) M = some M1 ∧ Leaf M1 10 (yrS t v P) ∧ fr (fun c _ => 10 ≤ c ∧ c < 20) M M1 := by
      unfold yrS
      by_cases c : P (5 + t) < 70
      · rw [if_pos c]
        obtain ⟨M1, a, b, d⟩ := put0 hP (v := v + 1) ht (Nat.le_refl _) c hL
        exact ⟨M1, a, b, d⟩
      · rw [if_neg c]
        exact ⟨M, put0_full hP ht c hL, hL, fr_refl _ _⟩
    obtain ⟨M2, e2, l2, f2⟩ := ih (i + 1) r2 (yrS t v P) M1 fu (by omega) (by omega) (by omega) (Good_yrS hP ht hv) l1
    refine ⟨M2, ?_, l2, fr_trans f1 f2⟩
    have lc' : M.1 12 t = zN (P (5 + t)) := lc
    have d1' : fX6_drawn r1 3 M = some (zN t, M) := d1 M
    have d2' : fX6_drawn r2 9 M = some (zN v, M) := d2 M
    have v1 : zN v + 1 = zN (v + 1) := zN_add v 1
    have i1 : zN i + 1 = zN (i + 1) := zN_add i 1
    rw [← e2, fX6_years_29, if_neg (show ¬ zN m ≤ zN i by rw [zN_leF (by omega)]; exact id), n1, Option.bind_some]
    dsimp only
    rw [d1', Option.bind_some]
    dsimp only
    rw [n2, Option.bind_some]
    dsimp only
    rw [d2', Option.bind_some, if_neg (show ¬ oob (zN t) 3 by rw [zN_oobF (by omega)]; exact id)]
    dsimp only
    rw [zN_nat (by omega), lc', v1, e1, Option.bind_some, i1]
theorem years7 (x : Int32) {m : Nat} (hm : m ≤ 30) (G : zMM → Option (Int32 × zMM)) (hG : ∀ n M, fX7_years_28 x (zN m) (n + 1) (zN m) M = G M) : ∀ f i r P M fuel, m - i = f → i ≤ m → f < fuel → Good P → MNow M P → M.1 158 25 = r → ∃ M', fX7_years_28 x (zN m) fuel (zN i) M = G M' ∧ MNow M' (yrP f r P) ∧ fr (fun c j => c = 159 ∨ (c = 158 ∧ j = 25)) M M' := by
  intro f
  induction f with
  | zero =>
    intro i r P M fuel hf hi hfu hP hM hr
    obtain ⟨fu, rfl⟩ : ∃ q, fuel = q + 1 := ⟨fuel - 1, by omega⟩
    have e : i = m := by omega
    subst e
    exact ⟨M, hG fu M, hM, fr_refl _ _⟩
  | succ f ih =>
    intro i r P M fuel hf hi hfu hP hM hr
    obtain ⟨fu, rfl⟩ : ∃ q, fuel = q + 1 := ⟨fuel - 1, by omega⟩
    obtain ⟨r1, r2, t, v, ht, hv, ey, -, -, -, -, d1, d2⟩ := yr_draw r
    rw [ey]
    have d1 := d1 M hr
    have d2 := d2 (wr M 158 25 r1) (wr_cj _ _ _ _)
    have n2 : MNow (wr (wr M 158 25 r1) 158 25 r2) P := MNow_w (MNow_w hM)
    have lc' : (wr (wr M 158 25 r1) 158 25 r2).1 159 (5 + t) = zN (P (5 + t)) := n2 (5 + t) (by omega)
    have d1' : fX7_draw 3 M = some (zN t, wr M 158 25 r1) := d1
    have d2' : fX7_draw 9 (wr M 158 25 r1) = some (zN v, wr (wr M 158 25 r1) 158 25 r2) := d2
    have v1 : zN v + 1 = zN (v + 1) := zN_add v 1
    have t5 : 5 + zN t = zN (5 + t) := zN_add 5 t
    have i1 : zN i + 1 = zN (i + 1) := zN_add i 1
    have hc := (hP.2.1 t ht).1
    have f0 : fr (fun c j => c = 159 ∨ (c = 158 ∧ j = 25)) M (wr (wr M 158 25 r1) 158 25 r2) := fr_wr (fr_wr (fr_refl _ _) (by omega)) (by omega)
    by_cases c : P (5 + t) < 70
    · obtain ⟨M1, e1, l1, f1⟩ := put7 hP (v := v + 1) ht (Nat.le_refl _) c n2
      have ey : yrS t v P = putP P t (P (5 + t)) (v + 1) := by unfold yrS; rw [if_pos c]
      rw [← ey] at l1
      obtain ⟨M2, e2, l2, f2⟩ := ih (i + 1) r2 (yrS t v P) M1 fu (by omega) (by omega) (by omega) (Good_yrS hP ht hv) l1 (by rw [f1.1 _ _ (by omega), wr_cj])
      refine ⟨M2, ?_, l2, fr_trans f0 (fr_trans (fr_mono f1 (fun c j a => by omega)) f2)⟩
      rw [← e2, fX7_years_28, if_neg (show ¬ zN m ≤ zN i by rw [zN_leF (by omega)]; exact id), d1', Option.bind_some]
      dsimp only
      rw [d2', Option.bind_some]
      dsimp only
      rw [t5, if_neg (show ¬ oob (zN (5 + t)) 259 by rw [zN_oobF (by omega)]; exact id), zN_nat (by omega), lc', if_neg (show ¬ (70 : Int32) ≤ zN (P (5 + t)) by show ¬ zN 70 ≤ zN (P (5 + t)); rw [zN_leF (by omega)]; exact id), v1, e1, Option.bind_some]
      unfold fX7_years_81
      rw [i1]
    · have ey : yrS t v P = P := by unfold yrS; rw [if_neg c]
      obtain ⟨M2, e2, l2, f2⟩ := ih (i + 1) r2 (yrS t v P) _ fu (by omega) (by omega) (by omega) (Good_yrS hP ht hv) (by rw [ey]; exact n2) (wr_cj _ _ _ _)
      refine ⟨M2, ?_, l2, fr_trans f0 f2⟩
      rw [← e2, fX7_years_28, if_neg (show ¬ zN m ≤ zN i by rw [zN_leF (by omega)]; exact id), d1', Option.bind_some]
      dsimp only
      rw [d2', Option.bind_some]
      dsimp only
      rw [t5, if_neg (show ¬ oob (zN (5 + t)) 259 by rw [zN_oobF (by omega)]; exact id), zN_nat (by omega), lc', if_pos (show (70 : Int32) ≤ zN (P (5 + t)) by show zN 70 ≤ zN (P (5 + t)); rw [zN_leT (by omega)]; trivial)]
      unfold fX7_years_81
      rw [i1]
theorem years_c {P : Nat → Nat} {T : List Nat} {R : List Int64} {U : List (Nat → Nat)} {K : Nat → Option (Nat → Nat)} (hw : WF P T R U K) (x : Int32) {m : Nat} (m1 : 1 ≤ m) (m2 : m ≤ 30) {Q : Nat → Nat} (hQ : Good Q) (hQe : yrP m x P = Q) : CD (fX6_years x (zN m)) P T R U K (zN (pgs Q)) P T [(zN (cst Q)).toInt64, (zN (Q 5)).toInt64, (zN (Q 6)).toInt64, (zN (Q 7)).toInt64] U K := by
  have hP := hw.1
  have hU := hw.2.2.2.1.1
  intro M hM
  obtain ⟨M1, e1, l1, f1⟩ := copy0 hP (b := 10) hM.1 (by omega)
  obtain ⟨M2, e2, l2, f2⟩ := years6 x m2 (fun M => (fX4_set 10 M).bind fun q2 => (fX4_costOf 10 q2).bind fun q3 => (fX2_tell___ (Int32.toInt64 q3.1) (Int32.toInt64 (q3.2.1 12 0)) (Int32.toInt64 (q3.2.1 12 1)) (Int32.toInt64 (q3.2.1 12 2)) q3.2).bind fun q4 => (fX4_pageCount 10 q4).bind fun q5 => some (q5.1, q5.2)) (fun n r M => by rw [fX6_years_29]; exact if_pos (by rw [zN_leT (by omega)]; trivial)) m 0 x P M1 zFU (by omega) (by omega) (by rw [zFU_eq]; omega) hP l1
  rw [hQe] at l2
  obtain ⟨M3, e3, s3, l3, f3⟩ := cset0 hQ (b := 10) (by omega) l2
  have a1 := costOf4 hQ l3 s3
  have g0 := l3.2.2.1 0 (by omega)
  have g1 := l3.2.2.1 1 (by omega)
  have g2 := l3.2.2.1 2 (by omega)
  simp only [Nat.reduceAdd] at g0 g1 g2
  obtain ⟨M4, e4, r4, y4⟩ := tell4 (zN (cst Q)).toInt64 (zN (Q 5)).toInt64 (zN (Q 6)).toInt64 (zN (Q 7)).toInt64 M3
  have a2 := pageCount4 hQ (Leaf_Y l3 (by omega) y4) (CSet_Y s3 y4)
  have l0 : Leaf M4 0 P := Leaf_eq hM.1 (fun c j a b => by rw [y4.1 c j (by omega), f3.1 c j (by omega), f2.1 c j (by omega), f1.1 c j (by omega)])
  refine ⟨M4, ?_, CI_q hM hU (cq_trans (cq_leaf (by omega) f1) (cq_trans (cq_leaf (b := 10) (by omega) f2) (cq_trans (cq_set f3) (cq_Y y4)))) l0 r4⟩
  unfold fX6_years
  simp (disch := omega) only [wr_cj, wr_nj, rng_in, rng_out, zN_lit, zN_add, zN_mul, zN_sub, zN_ltT, zN_ltF, zN_leT, zN_leF, zN_eqT, zN_eqF, zN_lt, zN_le, zN_eq, zN_nat, zN_oobF, Option.bind_some, ↓reduceIte, Nat.one_mul, Nat.zero_add, Nat.add_zero, Nat.reduceAdd, Nat.reduceMul, Nat.reduceSub, Nat.reduceLT, Nat.reduceLeDiff, Nat.reduceEqDiff, reduceCtorEq, true_or, or_true, false_or, or_false, true_and, and_true, false_and, and_false, not_true_eq_false, not_false_eq_true, wr_2, wrL_1, zm_eqF, zm_eqF', zm_lt, zm_lt', zm_le, zm_le', zm_sub1, zN_01, Nat.mul_zero, Nat.zero_mul, Nat.mul_one, Nat.sub_zero, Nat.sub_self, Nat.add_sub_cancel, e1]
  refine Eq.trans e2 ?_
  rw [e3, Option.bind_some, a1, Option.bind_some, g0, g1, g2, e4, Option.bind_some, a2]; rfl
theorem ys103 (x a : Int32) (n : Nat) {l : Nat} {M : zMM} {v : Int32} (hl : l < 3) (hv : M.1 159 (5 + l) = v) : fX7_years_103 x a (n + 1) (zN l) M = (fX7_tell (Int32.toInt64 v) M).bind fun q4 => fX7_years_103 x a n (zN (l + 1)) q4 := by
  rw [fX7_years_103]
  simp (disch := omega) only [wr_cj, wr_nj, rng_in, rng_out, zN_lit, zN_add, zN_mul, zN_sub, zN_ltT, zN_ltF, zN_leT, zN_leF, zN_eqT, zN_eqF, zN_lt, zN_le, zN_eq, zN_nat, zN_oobF, Option.bind_some, ↓reduceIte, Nat.one_mul, Nat.zero_add, Nat.add_zero, Nat.reduceAdd, Nat.reduceMul, Nat.reduceSub, Nat.reduceLT, Nat.reduceLeDiff, Nat.reduceEqDiff, reduceCtorEq, true_or, or_true, false_or, or_false, true_and, and_true, false_and, and_false, not_true_eq_false, not_false_eq_true, wr_2, wrL_1, zm_eqF, zm_eqF', zm_lt, zm_lt', zm_le, zm_le', zm_sub1, zN_01, Nat.mul_zero, Nat.zero_mul, Nat.mul_one, Nat.sub_zero, Nat.sub_self, Nat.add_sub_cancel, hv]
theorem ye103 (x a : Int32) (n : Nat) (M : zMM) : fX7_years_103 x a (n + 1) (zN (0 + 1 + 1 + 1)) M = (fX7_comesBack M).bind fun q2 => some (q2.1 158 14, q2) := by
  rw [fX7_years_103]
  simp (disch := omega) only [wr_cj, wr_nj, rng_in, rng_out, zN_lit, zN_add, zN_mul, zN_sub, zN_ltT, zN_ltF, zN_leT, zN_leF, zN_eqT, zN_eqF, zN_lt, zN_le, zN_eq, zN_nat, zN_oobF, Option.bind_some, ↓reduceIte, Nat.one_mul, Nat.zero_add, Nat.add_zero, Nat.reduceAdd, Nat.reduceMul, Nat.reduceSub, Nat.reduceLT, Nat.reduceLeDiff, Nat.reduceEqDiff, reduceCtorEq, true_or, or_true, false_or, or_false, true_and, and_true, false_and, and_false, not_true_eq_false, not_false_eq_true, wr_2, wrL_1, zm_eqF, zm_eqF', zm_lt, zm_lt', zm_le, zm_le', zm_sub1, zN_01, Nat.mul_zero, Nat.zero_mul, Nat.mul_one, Nat.sub_zero, Nat.sub_self, Nat.add_sub_cancel]
theorem years_m {P : Nat → Nat} {T : List Nat} {R : List Int64} {U : List (Nat → Nat)} {K : Nat → Option (Nat → Nat)} (hw : WF P T R U K) (x : Int32) {m : Nat} (m1 : 1 ≤ m) (m2 : m ≤ 30) {Q : Nat → Nat} (hQ : Good Q) (hQe : yrP m x P = Q) : MD (fX7_years x (zN m)) P T R U K (zN (pgs Q)) P T [(zN (cst Q)).toInt64, (zN (Q 5)).toInt64, (zN (Q 6)).toInt64, (zN (Q 7)).toInt64] U K := by
  have hP := hw.1
  intro M hM
  have t := in7T (a := m) (lo := 1) (hi := 30) (by omega) (wr M 158 5 (zN 0))
  have h0 : MNow (wr (wr M 158 5 (zN 0)) 158 25 x) P := MNow_w (MNow_w hM.1)
  obtain ⟨M1, e1, as1, n1, f1⟩ := aside7 h0
  obtain ⟨M2, e2, n2, f2⟩ := years7 x m2 (fun M => (fX7_costNow (wr M 158 4 (zN 0))).bind fun q2 => (fX7_tell (Int32.toInt64 q2.1) q2.2).bind fun q3 => fX7_years_103 x (zN m) zFU 0 q3) (fun n M => by rw [fX7_years_28]; exact if_pos (by rw [zN_leT (by omega)]; trivial)) m 0 x P M1 zFU (by omega) (by omega) (by rw [zFU_eq]; omega) hP n1 (by rw [f1.1 _ _ (by omega), wr_cj])
  rw [hQe] at n2
  have as2 := AS_fr as1 f2 (fun j a => by omega)
  have n2' : MNow (wr M2 158 4 (zN 0)) Q := MNow_w n2
  obtain ⟨M3, e3, s3, f3⟩ := costNow7 hQ n2'
  have n3 := MNow_fr n2' f3
  have as3 := AS_fr (AS_w (c := 158) (j := 4) (v := zN 0) as2 (by omega)) f3 (fun j a => by unfold MS at a; omega)
  have r3 := MR_q (MR_nil M2) f3 (by unfold MS; omega)
  obtain ⟨M4, e4, r4, x4⟩ := tell7 r3 (by simp) (zN (cst Q)).toInt64
  have n4 := MNow_X n3 x4
  have g5 := n4 5 (by omega)
  obtain ⟨M5, e5, r5, x5⟩ := tell7 r4 (by simp) (zN (Q 5)).toInt64
  have n5 := MNow_X n4 x5
  have g6 := n5 6 (by omega)
  obtain ⟨M6, e6, r6, x6⟩ := tell7 r5 (by simp) (zN (Q 6)).toInt64
  have n6 := MNow_X n5 x6
  have g7 := n6 7 (by omega)
  obtain ⟨M7, e7, r7, x7⟩ := tell7 r6 (by simp) (zN (Q 7)).toInt64
  have as7 := AS_X (AS_X (AS_X (AS_X as3 x4) x5) x6) x7
  obtain ⟨M8, e8, n8, f8⟩ := back7 as7
  have r8 := MR_q (MR4 r7) f8 (by omega)
  have k14 : M8.1 158 14 = zN (pgs Q) := by rw [f8.1 _ _ (by omega), x7.1 _ _ (by omega), x6.1 _ _ (by omega), x5.1 _ _ (by omega), x4.1 _ _ (by omega)]; exact s3.2
  have f2q : mq M1 M2 := mq_fr f2 (fun c j a => by unfold MSc; omega)
  refine ⟨M8, ?_, MI_q hM (mq_trans (mq_w (j := 5) (v := zN 0) (by omega)) (mq_trans (mq_w (j := 25) (v := x) (by omega)) (mq_trans (mq_166 f1) (mq_trans f2q (mq_trans (mq_w (j := 4) (v := zN 0) (by omega)) (mq_trans (mq_MS f3) (mq_trans (mq_X x4) (mq_trans (mq_X x5) (mq_trans (mq_X x6) (mq_trans (mq_X x7) (mq_159 f8))))))))))) n8 r8⟩
  unfold fX7_years
  simp only [zN_lit]
  rw [t, Option.bind_some, if_neg nz10, e1, Option.bind_some]
  refine Eq.trans e2 ?_
  rw [e3, Option.bind_some, e4, Option.bind_some]
  have gen : ∀ f, fX7_years_103 x (zN m) (f + 1 + 1 + 1 + 1) (zN 0) M4 = some (zN (pgs Q), M8) := by
    intro f
    rw [ys103 x (zN m) _ (by omega) g5, e5, Option.bind_some, ys103 x (zN m) _ (by omega) g6, e6, Option.bind_some, ys103 x (zN m) _ (by omega) g7, e7, Option.bind_some, ye103, e8, Option.bind_some, k14]
  exact gen 2147483644
theorem call_years (x y : Int32) : Cll (fX6_years x y) (fX7_years x y) := by
  refine Cll_of (fun P T R U K hw => ?_)
  have hP := hw.1
  rcases zcaseR y 1 30 with ⟨m, m1, m2, rfl⟩ | hy | ⟨m, hm, rfl, hmn⟩
  · have hQ := Good_yrP m x P hP
    exact ⟨_, P, T, _, U, K, WF_R hw (by simp), years_c hw x m1 m2 hQ rfl, years_m hw x m1 m2 hQ rfl⟩
  · refine ⟨-zN 1, P, T, R, U, K, hw, CD_no (fun M hM => ?_), MD_no (fun M hM => ?_)⟩
    · unfold fX6_years; simp (disch := omega) only [wr_cj, wr_nj, rng_in, rng_out, zN_lit, zN_add, zN_mul, zN_sub, zN_ltT, zN_ltF, zN_leT, zN_leF, zN_eqT, zN_eqF, zN_lt, zN_le, zN_eq, zN_nat, zN_oobF, Option.bind_some, ↓reduceIte, Nat.one_mul, Nat.zero_add, Nat.add_zero, Nat.reduceAdd, Nat.reduceMul, Nat.reduceSub, Nat.reduceLT, Nat.reduceLeDiff, Nat.reduceEqDiff, reduceCtorEq, true_or, or_true, false_or, or_false, true_and, and_true, false_and, and_false, not_true_eq_false, not_false_eq_true, wr_2, wrL_1, zm_eqF, zm_eqF', zm_lt, zm_lt', zm_le, zm_le', zm_sub1, zN_01, Nat.mul_zero, Nat.zero_mul, Nat.mul_one, Nat.sub_zero, Nat.sub_self, Nat.add_sub_cancel, zg_lt hy]
    · have t := in7g hy (lo := 1) (by omega) (zN 30) (wr M 158 5 (zN 0))
      unfold fX7_years; simp (disch := omega) only [wr_cj, wr_nj, rng_in, rng_out, zN_lit, zN_add, zN_mul, zN_sub, zN_ltT, zN_ltF, zN_leT, zN_leF, zN_eqT, zN_eqF, zN_lt, zN_le, zN_eq, zN_nat, zN_oobF, Option.bind_some, ↓reduceIte, Nat.one_mul, Nat.zero_add, Nat.add_zero, Nat.reduceAdd, Nat.reduceMul, Nat.reduceSub, Nat.reduceLT, Nat.reduceLeDiff, Nat.reduceEqDiff, reduceCtorEq, true_or, or_true, false_or, or_false, true_and, and_true, false_and, and_false, not_true_eq_false, not_false_eq_true, wr_2, wrL_1, zm_eqF, zm_eqF', zm_lt, zm_lt', zm_le, zm_le', zm_sub1, zN_01, Nat.mul_zero, Nat.zero_mul, Nat.mul_one, Nat.sub_zero, Nat.sub_self, Nat.add_sub_cancel, t]
  · refine ⟨-zN 1, P, T, R, U, K, hw, CD_no (fun M hM => ?_), MD_no (fun M hM => ?_)⟩
    · unfold fX6_years
      by_cases c : m < 1
      · simp (disch := omega) only [wr_cj, wr_nj, rng_in, rng_out, zN_lit, zN_add, zN_mul, zN_sub, zN_ltT, zN_ltF, zN_leT, zN_leF, zN_eqT, zN_eqF, zN_lt, zN_le, zN_eq, zN_nat, zN_oobF, Option.bind_some, ↓reduceIte, Nat.one_mul, Nat.zero_add, Nat.add_zero, Nat.reduceAdd, Nat.reduceMul, Nat.reduceSub, Nat.reduceLT, Nat.reduceLeDiff, Nat.reduceEqDiff, reduceCtorEq, true_or, or_true, false_or, or_false, true_and, and_true, false_and, and_false, not_true_eq_false, not_false_eq_true, wr_2, wrL_1, zm_eqF, zm_eqF', zm_lt, zm_lt', zm_le, zm_le', zm_sub1, zN_01, Nat.mul_zero, Nat.zero_mul, Nat.mul_one, Nat.sub_zero, Nat.sub_self, Nat.add_sub_cancel]
      · simp (disch := omega) only [wr_cj, wr_nj, rng_in, rng_out, zN_lit, zN_add, zN_mul, zN_sub, zN_ltT, zN_ltF, zN_leT, zN_leF, zN_eqT, zN_eqF, zN_lt, zN_le, zN_eq, zN_nat, zN_oobF, Option.bind_some, ↓reduceIte, Nat.one_mul, Nat.zero_add, Nat.add_zero, Nat.reduceAdd, Nat.reduceMul, Nat.reduceSub, Nat.reduceLT, Nat.reduceLeDiff, Nat.reduceEqDiff, reduceCtorEq, true_or, or_true, false_or, or_false, true_and, and_true, false_and, and_false, not_true_eq_false, not_false_eq_true, wr_2, wrL_1, zm_eqF, zm_eqF', zm_lt, zm_lt', zm_le, zm_le', zm_sub1, zN_01, Nat.mul_zero, Nat.zero_mul, Nat.mul_one, Nat.sub_zero, Nat.sub_self, Nat.add_sub_cancel]
    · have t := in7F (a := m) (lo := 1) (hi := 30) (by omega) (wr M 158 5 (zN 0))
      unfold fX7_years; simp (disch := omega) only [wr_cj, wr_nj, rng_in, rng_out, zN_lit, zN_add, zN_mul, zN_sub, zN_ltT, zN_ltF, zN_leT, zN_leF, zN_eqT, zN_eqF, zN_lt, zN_le, zN_eq, zN_nat, zN_oobF, Option.bind_some, ↓reduceIte, Nat.one_mul, Nat.zero_add, Nat.add_zero, Nat.reduceAdd, Nat.reduceMul, Nat.reduceSub, Nat.reduceLT, Nat.reduceLeDiff, Nat.reduceEqDiff, reduceCtorEq, true_or, or_true, false_or, or_false, true_and, and_true, false_and, and_false, not_true_eq_false, not_false_eq_true, wr_2, wrL_1, zm_eqF, zm_eqF', zm_lt, zm_lt', zm_le, zm_le', zm_sub1, zN_01, Nat.mul_zero, Nat.zero_mul, Nat.mul_one, Nat.sub_zero, Nat.sub_self, Nat.add_sub_cancel, t]
