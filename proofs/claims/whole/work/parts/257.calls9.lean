/-! lines, parts -/
def tk (P : Nat → Nat) (m t : Nat) : Nat := if m < NL P then wrd P m t else 0
theorem tk_0 {P : Nat → Nat} (hP : Good P) {m t : Nat} (ht : t < 3) : (m < NL P ∧ wid P m t ≠ 0 → 0 < tk P m t) ∧ (¬ (m < NL P ∧ wid P m t ≠ 0) → tk P m t = 0) := by
  unfold tk wrd
  constructor
  · intro h
    rw [if_pos h.1]
    have := dn_lt hP ht h.2
    omega
  · intro h
    by_cases c : m < NL P
    · rw [if_pos c]
      have w : wid P m t = 0 := by
        by_cases q : wid P m t = 0
        · exact q
        · exact absurd ⟨c, q⟩ h
      rw [dn_0 P m t w]; omega
    · rw [if_neg c]
theorem tk_le {P : Nat → Nat} (hP : Good P) (m : Nat) {t : Nat} (ht : t < 3) : dn P m t + tk P m t ≤ P (5 + t) ∧ tk P m t ≤ 70 := by
  have h := (dn_le P (m + 1) t).1
  have h' := (dn_le P m t).1
  have h2 := (dn_le P m t).2
  have hc := (hP.2.1 t ht).1
  unfold tk wrd
  split <;> omega
theorem takenAt4 {P : Nat → Nat} {M : zMM} (hS : CSet P M) {m t : Nat} (ht : t < 3) (hm : m < 1000) : fX4_takenAt (zN t) (zN m) M = some (zN (tk P m t), M) := by
  have hN := NL_le P
  have h0 := hS.2
  unfold fX4_takenAt tk
  by_cases c : m < NL P
  · have g := (hS.1 t ht).2.1 m c
    rw [if_pos c]
    have e : wrd P m t = dn P (m + 1) t - dn P m t := rfl
    rw [e]
    simp (disch := omega) only [wr_cj, wr_nj, rng_in, rng_out, zN_lit, zN_add, zN_mul, zN_sub, zN_ltT, zN_ltF, zN_leT, zN_leF, zN_eqT, zN_eqF, zN_lt, zN_le, zN_eq, zN_nat, zN_oobF, Option.bind_some, ↓reduceIte, Nat.one_mul, Nat.zero_add, Nat.add_zero, Nat.reduceAdd, Nat.reduceMul, Nat.reduceSub, Nat.reduceLT, Nat.reduceLeDiff, Nat.reduceEqDiff, reduceCtorEq, true_or, or_true, false_or, or_false, true_and, and_true, false_and, and_false, not_true_eq_false, not_false_eq_true, wr_2, wrL_1, zm_eqF, zm_eqF', zm_lt, zm_lt', zm_le, zm_le', zm_sub1, zN_01, Nat.mul_zero, Nat.zero_mul, Nat.mul_one, Nat.sub_zero, Nat.sub_self, Nat.add_sub_cancel, h0, g]
  · rw [if_neg c]
    simp (disch := omega) only [wr_cj, wr_nj, rng_in, rng_out, zN_lit, zN_add, zN_mul, zN_sub, zN_ltT, zN_ltF, zN_leT, zN_leF, zN_eqT, zN_eqF, zN_lt, zN_le, zN_eq, zN_nat, zN_oobF, Option.bind_some, ↓reduceIte, Nat.one_mul, Nat.zero_add, Nat.add_zero, Nat.reduceAdd, Nat.reduceMul, Nat.reduceSub, Nat.reduceLT, Nat.reduceLeDiff, Nat.reduceEqDiff, reduceCtorEq, true_or, or_true, false_or, or_false, true_and, and_true, false_and, and_false, not_true_eq_false, not_false_eq_true, wr_2, wrL_1, zm_eqF, zm_eqF', zm_lt, zm_lt', zm_le, zm_le', zm_sub1, zN_01, Nat.mul_zero, Nat.zero_mul, Nat.mul_one, Nat.sub_zero, Nat.sub_self, Nat.add_sub_cancel, h0]
theorem pg_b {P : Nat → Nat} (hP : Good P) {pg l : Nat} (hpg : pg < pgs P) (hl : l < P 1) : pg * P 1 + l < 300 ∧ (pg * P 1 + l) / P 1 = pg ∧ (pg * P 1 + l) % P 1 = l ∧ NL P ≠ 0 := by
  have hp := hP.1
  have hN := NL_le P
  by_cases c : NL P = 0
  · rw [pgs_0 hP c] at hpg; omega
  · have e := pgs_pos hP c
    have hle : pg * P 1 ≤ (NL P - 1) / P 1 * P 1 := Nat.mul_le_mul_right _ (by omega)
    have hd := Nat.div_mul_le_self (NL P - 1) (P 1)
    refine ⟨by omega, ?_, ?_, c⟩
    · rw [Nat.mul_comm, Nat.mul_add_div (by omega), Nat.div_eq_of_lt hl]; rfl
    · rw [Nat.mul_comm, Nat.mul_add_mod, Nat.mod_eq_of_lt hl]
theorem place_case {P : Nat → Nat} (hP : Good P) (x y : Int32) : (∃ pg l, pg < pgs P ∧ l < P 1 ∧ x = zN pg ∧ y = zN l ∧ (∀ M M1, fX4_set 0 M = some M1 → Leaf M1 0 P → CSet P M1 → fX6_placeOf x y M = some (zN (pg * P 1 + l), M1)) ∧ (∀ M, MNow M P → MSet P M → fX7_isLine x y M = some (zN 1, M))) ∨ ((∀ M M1, fX4_set 0 M = some M1 → Leaf M1 0 P → CSet P M1 → fX6_placeOf x y M = some (-zN 1, M1)) ∧ (∀ M, MNow M P → MSet P M → fX7_isLine x y M = some (zN 0, M))) := by
  have hp := hP.1
  have hpl := pgs_le hP
  rcases zcase x with hx | ⟨pg, hpg, rfl⟩
  · right
    refine ⟨fun M M1 e l s => ?_, fun M hM hS => ?_⟩
    · unfold fX6_placeOf
      rw [e, Option.bind_some, if_pos hx]; rfl
    · have t := in7g hx (lo := 0) (by omega) (M.1 158 14 - 1) M
      unfold fX7_isLine
      have t' : fX7_in x 0 (M.1 158 14 - 1) M = some (zN 0, M) := t
      rw [t']; rfl
  · by_cases c : pg < pgs P
    · rcases zcase y with hy | ⟨l, hl, rfl⟩
      · right
        refine ⟨fun M M1 e l s => ?_, fun M hM hS => ?_⟩
        · have pc := pageCount4 hP l s
          unfold fX6_placeOf
          rw [e]
          simp (disch := omega) only [wr_cj, wr_nj, rng_in, rng_out, zN_lit, zN_add, zN_mul, zN_sub, zN_ltT, zN_ltF, zN_leT, zN_leF, zN_eqT, zN_eqF, zN_lt, zN_le, zN_eq, zN_nat, zN_oobF, Option.bind_some, ↓reduceIte, Nat.one_mul, Nat.zero_add, Nat.add_zero, Nat.reduceAdd, Nat.reduceMul, Nat.reduceSub, Nat.reduceLT, Nat.reduceLeDiff, Nat.reduceEqDiff, reduceCtorEq, true_or, or_true, false_or, or_false, true_and, and_true, false_and, and_false, not_true_eq_false, not_false_eq_true, wr_2, wrL_1, zm_eqF, zm_eqF', zm_lt, zm_lt', zm_le, zm_le', zm_sub1, zN_01, Nat.mul_zero, Nat.zero_mul, Nat.mul_one, Nat.sub_zero, Nat.sub_self, Nat.add_sub_cancel, pc, zg_lt hy]
        · have k := hS.2
          have m1 := hM 1 (by omega)
          have t1 := in7T (a := pg) (lo := 0) (hi := pgs P - 1) (by omega) M
          have t2 := in7g hy (lo := 0) (by omega) (zN (P 1 - 1)) M
          unfold fX7_isLine; simp (disch := omega) only [wr_cj, wr_nj, rng_in, rng_out, zN_lit, zN_add, zN_mul, zN_sub, zN_ltT, zN_ltF, zN_leT, zN_leF, zN_eqT, zN_eqF, zN_lt, zN_le, zN_eq, zN_nat, zN_oobF, Option.bind_some, ↓reduceIte, Nat.one_mul, Nat.zero_add, Nat.add_zero, Nat.reduceAdd, Nat.reduceMul, Nat.reduceSub, Nat.reduceLT, Nat.reduceLeDiff, Nat.reduceEqDiff, reduceCtorEq, true_or, or_true, false_or, or_false, true_and, and_true, false_and, and_false, not_true_eq_false, not_false_eq_true, wr_2, wrL_1, zm_eqF, zm_eqF', zm_lt, zm_lt', zm_le, zm_le', zm_sub1, zN_01, Nat.mul_zero, Nat.zero_mul, Nat.mul_one, Nat.sub_zero, Nat.sub_self, Nat.add_sub_cancel, k, m1, t1, t2]
      · by_cases c2 : l < P 1
        · left
          have hb := pg_b hP c c2
          refine ⟨pg, l, c, c2, rfl, rfl, fun M M1 e L s => ?_, fun M hM hS => ?_⟩
          · have pc := pageCount4 hP L s
            have l1 : M1.1 0 1 = zN (P 1) := L.1.2.1
            unfold fX6_placeOf
            rw [e]
            simp (disch := omega) only [wr_cj, wr_nj, rng_in, rng_out, zN_lit, zN_add, zN_mul, zN_sub, zN_ltT, zN_ltF, zN_leT, zN_leF, zN_eqT, zN_eqF, zN_lt, zN_le, zN_eq, zN_nat, zN_oobF, Option.bind_some, ↓reduceIte, Nat.one_mul, Nat.zero_add, Nat.add_zero, Nat.reduceAdd, Nat.reduceMul, Nat.reduceSub, Nat.reduceLT, Nat.reduceLeDiff, Nat.reduceEqDiff, reduceCtorEq, true_or, or_true, false_or, or_false, true_and, and_true, false_and, and_false, not_true_eq_false, not_false_eq_true, wr_2, wrL_1, zm_eqF, zm_eqF', zm_lt, zm_lt', zm_le, zm_le', zm_sub1, zN_01, Nat.mul_zero, Nat.zero_mul, Nat.mul_one, Nat.sub_zero, Nat.sub_self, Nat.add_sub_cancel, pc, l1]
          · have k := hS.2
            have m1 := hM 1 (by omega)
            have t1 := in7T (a := pg) (lo := 0) (hi := pgs P - 1) (by omega) M
            have t2 := in7T (a := l) (lo := 0) (hi := P 1 - 1) (by omega) M
            unfold fX7_isLine; simp (disch := omega) only [wr_cj, wr_nj, rng_in, rng_out, zN_lit, zN_add, zN_mul, zN_sub, zN_ltT, zN_ltF, zN_leT, zN_leF, zN_eqT, zN_eqF, zN_lt, zN_le, zN_eq, zN_nat, zN_oobF, Option.bind_some, ↓reduceIte, Nat.one_mul, Nat.zero_add, Nat.add_zero, Nat.reduceAdd, Nat.reduceMul, Nat.reduceSub, Nat.reduceLT, Nat.reduceLeDiff, Nat.reduceEqDiff, reduceCtorEq, true_or, or_true, false_or, or_false, true_and, and_true, false_and, and_false, not_true_eq_false, not_false_eq_true, wr_2, wrL_1, zm_eqF, zm_eqF', zm_lt, zm_lt', zm_le, zm_le', zm_sub1, zN_01, Nat.mul_zero, Nat.zero_mul, Nat.mul_one, Nat.sub_zero, Nat.sub_self, Nat.add_sub_cancel, k, m1, t1, t2]
        · right
          refine ⟨fun M M1 e L s => ?_, fun M hM hS => ?_⟩
          · have pc := pageCount4 hP L s
            have l1 : M1.1 0 1 = zN (P 1) := L.1.2.1
            unfold fX6_placeOf
            rw [e]
            simp (disch := omega) only [wr_cj, wr_nj, rng_in, rng_out, zN_lit, zN_add, zN_mul, zN_sub, zN_ltT, zN_ltF, zN_leT, zN_leF, zN_eqT, zN_eqF, zN_lt, zN_le, zN_eq, zN_nat, zN_oobF, Option.bind_some, ↓reduceIte, Nat.one_mul, Nat.zero_add, Nat.add_zero, Nat.reduceAdd, Nat.reduceMul, Nat.reduceSub, Nat.reduceLT, Nat.reduceLeDiff, Nat.reduceEqDiff, reduceCtorEq, true_or, or_true, false_or, or_false, true_and, and_true, false_and, and_false, not_true_eq_false, not_false_eq_true, wr_2, wrL_1, zm_eqF, zm_eqF', zm_lt, zm_lt', zm_le, zm_le', zm_sub1, zN_01, Nat.mul_zero, Nat.zero_mul, Nat.mul_one, Nat.sub_zero, Nat.sub_self, Nat.add_sub_cancel, pc, l1]
          · have k := hS.2
            have m1 := hM 1 (by omega)
            have t1 := in7T (a := pg) (lo := 0) (hi := pgs P - 1) (by omega) M
            have t2 := in7F (a := l) (lo := 0) (hi := P 1 - 1) (by omega) M
            unfold fX7_isLine; simp (disch := omega) only [wr_cj, wr_nj, rng_in, rng_out, zN_lit, zN_add, zN_mul, zN_sub, zN_ltT, zN_ltF, zN_leT, zN_leF, zN_eqT, zN_eqF, zN_lt, zN_le, zN_eq, zN_nat, zN_oobF, Option.bind_some, ↓reduceIte, Nat.one_mul, Nat.zero_add, Nat.add_zero, Nat.reduceAdd, Nat.reduceMul, Nat.reduceSub, Nat.reduceLT, Nat.reduceLeDiff, Nat.reduceEqDiff, reduceCtorEq, true_or, or_true, false_or, or_false, true_and, and_true, false_and, and_false, not_true_eq_false, not_false_eq_true, wr_2, wrL_1, zm_eqF, zm_eqF', zm_lt, zm_lt', zm_le, zm_le', zm_sub1, zN_01, Nat.mul_zero, Nat.zero_mul, Nat.mul_one, Nat.sub_zero, Nat.sub_self, Nat.add_sub_cancel, k, m1, t1, t2]
    · right
      refine ⟨fun M M1 e L s => ?_, fun M hM hS => ?_⟩
      · have pc := pageCount4 hP L s
        unfold fX6_placeOf
        rw [e]
        simp (disch := omega) only [wr_cj, wr_nj, rng_in, rng_out, zN_lit, zN_add, zN_mul, zN_sub, zN_ltT, zN_ltF, zN_leT, zN_leF, zN_eqT, zN_eqF, zN_lt, zN_le, zN_eq, zN_nat, zN_oobF, Option.bind_some, ↓reduceIte, Nat.one_mul, Nat.zero_add, Nat.add_zero, Nat.reduceAdd, Nat.reduceMul, Nat.reduceSub, Nat.reduceLT, Nat.reduceLeDiff, Nat.reduceEqDiff, reduceCtorEq, true_or, or_true, false_or, or_false, true_and, and_true, false_and, and_false, not_true_eq_false, not_false_eq_true, wr_2, wrL_1, zm_eqF, zm_eqF', zm_lt, zm_lt', zm_le, zm_le', zm_sub1, zN_01, Nat.mul_zero, Nat.zero_mul, Nat.mul_one, Nat.sub_zero, Nat.sub_self, Nat.add_sub_cancel, pc]
      · have k := hS.2
        by_cases d : pgs P = 0
        · rw [d] at k
          have t1 := in7M (a := pg) (lo := 0) (by omega) M
          unfold fX7_isLine; simp (disch := omega) only [wr_cj, wr_nj, rng_in, rng_out, zN_lit, zN_add, zN_mul, zN_sub, zN_ltT, zN_ltF, zN_leT, zN_leF, zN_eqT, zN_eqF, zN_lt, zN_le, zN_eq, zN_nat, zN_oobF, Option.bind_some, ↓reduceIte, Nat.one_mul, Nat.zero_add, Nat.add_zero, Nat.reduceAdd, Nat.reduceMul, Nat.reduceSub, Nat.reduceLT, Nat.reduceLeDiff, Nat.reduceEqDiff, reduceCtorEq, true_or, or_true, false_or, or_false, true_and, and_true, false_and, and_false, not_true_eq_false, not_false_eq_true, wr_2, wrL_1, zm_eqF, zm_eqF', zm_lt, zm_lt', zm_le, zm_le', zm_sub1, zN_01, Nat.mul_zero, Nat.zero_mul, Nat.mul_one, Nat.sub_zero, Nat.sub_self, Nat.add_sub_cancel, k, t1]
        · have t1 := in7F (a := pg) (lo := 0) (hi := pgs P - 1) (by omega) M
          unfold fX7_isLine; simp (disch := omega) only [wr_cj, wr_nj, rng_in, rng_out, zN_lit, zN_add, zN_mul, zN_sub, zN_ltT, zN_ltF, zN_leT, zN_leF, zN_eqT, zN_eqF, zN_lt, zN_le, zN_eq, zN_nat, zN_oobF, Option.bind_some, ↓reduceIte, Nat.one_mul, Nat.zero_add, Nat.add_zero, Nat.reduceAdd, Nat.reduceMul, Nat.reduceSub, Nat.reduceLT, Nat.reduceLeDiff, Nat.reduceEqDiff, reduceCtorEq, true_or, or_true, false_or, or_false, true_and, and_true, false_and, and_false, not_true_eq_false, not_false_eq_true, wr_2, wrL_1, zm_eqF, zm_eqF', zm_lt, zm_lt', zm_le, zm_le', zm_sub1, zN_01, Nat.mul_zero, Nat.zero_mul, Nat.mul_one, Nat.sub_zero, Nat.sub_self, Nat.add_sub_cancel, k, t1]
theorem pl_mem {P : Nat → Nat} {m t : Nat} (ht : t < 3) (hw : wid P m t ≠ 0) : ∀ n, m < n → (m, t) ∈ pl P n := by
  intro n
  induction n with
  | zero => intro h; omega
  | succ n ih =>
    intro h
    rw [pl, List.mem_append]
    by_cases e : m = n
    · right
      subst e
      unfold lnl
      have q : t = 0 ∨ t = 1 ∨ t = 2 := by omega
      rcases q with rfl | rfl | rfl <;> simp [hw]
    · exact Or.inl (ih (by omega))
theorem pl_wid {P : Nat → Nat} : ∀ n q, q ∈ pl P n → wid P q.1 q.2 ≠ 0 := by
  intro n
  induction n with
  | zero => intro q hq; exact absurd hq (by simp [pl])
  | succ n ih =>
    intro q hq
    rw [pl] at hq
    rcases List.mem_append.mp hq with a | a
    · exact ih q a
    · unfold lnl at a
      rcases List.mem_append.mp a with a | a
      · split at a
        · exact absurd a (by simp)
        · next h => rw [List.mem_singleton] at a; rw [a]; exact h
      · rcases List.mem_append.mp a with a | a
        · split at a
          · exact absurd a (by simp)
          · next h => rw [List.mem_singleton] at a; rw [a]; exact h
        · split at a
          · exact absurd a (by simp)
          · next h => rw [List.mem_singleton] at a; rw [a]; exact h
theorem partAt7 {P : Nat → Nat} (hP : Good P) {M : zMM} (hM : MNow M P) (hS : MSet P M) {pg l t : Nat} (ht : t < 3) (hpg : pg < pgs P) (hl : l < P 1) :
    ((pg * P 1 + l < NL P ∧ wid P (pg * P 1 + l) t ≠ 0) → ∃ p, p < 210 ∧ Ent P M p (pg * P 1 + l) t ∧ fX7_partAt (zN pg) (zN l) (zN t) M = some (zN p, M)) ∧ (¬ (pg * P 1 + l < NL P ∧ wid P (pg * P 1 + l) t ≠ 0) → fX7_partAt (zN pg) (zN l) (zN t) M = some (-zN 1, M)) := by
  have hp := hP.1
  have hlen := MSet_len hP hS
  have hNL := NL_le P
  have hpl := pgs_le hP
  obtain ⟨m, hm⟩ : ∃ m, m = pg * P 1 + l := ⟨_, rfl⟩
  have hb := pg_b hP hpg hl
  rw [← hm] at hb ⊢
  obtain ⟨k0, -, -, kE, -⟩ := hS.1
  have key := loopE (fun n (s : Nat) => fX7_partAt_3 (zN pg) (zN l) (zN t) n (zN s) M) (fun i s => s = i ∧ ∀ p, p < i → ¬ (pl P (NL P))[p]? = some (m, t)) (pl P (NL P)).length
    (fun r => (∃ p, (pl P (NL P))[p]? = some (m, t) ∧ r = some (zN p, M)) ∨ ((∀ p, ¬ (pl P (NL P))[p]? = some (m, t)) ∧ r = some (-zN 1, M)))
    (by
      rintro i n s hi ⟨rfl, h1⟩
      obtain ⟨m', t', hx⟩ : ∃ m' t', (pl P (NL P))[s]? = some (m', t') := ⟨_, _, List.getElem?_eq_getElem hi⟩
      have hmem := List.mem_of_getElem? hx
      have h3 := pl_3 P (NL P) _ hmem
      dsimp only at h3
      have en := kE s m' t' hx
      have hdm := Nat.div_add_mod m' (P 1)
      have hml := Nat.mod_lt m' (show 0 < P 1 by omega)
      have hdl : m' / P 1 ≤ m' := Nat.div_le_self _ _
      obtain ⟨g0, g1, g2, -⟩ := en
      by_cases e0 : t' = t
      · by_cases e1 : m' / P 1 = pg
        · by_cases e2 : m' % P 1 = l
          · left; left
            refine ⟨s, ?_, ?_⟩
            · rw [hx, e0]
              have : m' = m := by rw [hm, ← hdm, e1, e2, Nat.mul_comm]
              rw [this]
            · rw [e0] at g0; rw [e1] at g1; rw [e2] at g2
              show fX7_partAt_3 (zN pg) (zN l) (zN t) (n + 1) (zN s) M = _
              rw [fX7_partAt_3]
              simp (disch := omega) only [wr_cj, wr_nj, rng_in, rng_out, zN_lit, zN_add, zN_mul, zN_sub, zN_ltT, zN_ltF, zN_leT, zN_leF, zN_eqT, zN_eqF, zN_lt, zN_le, zN_eq, zN_nat, zN_oobF, Option.bind_some, ↓reduceIte, Nat.one_mul, Nat.zero_add, Nat.add_zero, Nat.reduceAdd, Nat.reduceMul, Nat.reduceSub, Nat.reduceLT, Nat.reduceLeDiff, Nat.reduceEqDiff, reduceCtorEq, true_or, or_true, false_or, or_false, true_and, and_true, false_and, and_false, not_true_eq_false, not_false_eq_true, wr_2, wrL_1, zm_eqF, zm_eqF', zm_lt, zm_lt', zm_le, zm_le', zm_sub1, zN_01, Nat.mul_zero, Nat.zero_mul, Nat.mul_one, Nat.sub_zero, Nat.sub_self, Nat.add_sub_cancel, k0, g0, g1, g2]
          · right
            refine ⟨s + 1, ?_, rfl, ?_⟩
            · rw [e0] at g0; rw [e1] at g1
              show fX7_partAt_3 (zN pg) (zN l) (zN t) (n + 1) (zN s) M = fX7_partAt_3 (zN pg) (zN l) (zN t) n (zN (s + 1)) M
              rw [fX7_partAt_3]
              simp (disch := omega) only [wr_cj, wr_nj, rng_in, rng_out, zN_lit, zN_add, zN_mul, zN_sub, zN_ltT, zN_ltF, zN_leT, zN_leF, zN_eqT, zN_eqF, zN_lt, zN_le, zN_eq, zN_nat, zN_oobF, Option.bind_some, ↓reduceIte, Nat.one_mul, Nat.zero_add, Nat.add_zero, Nat.reduceAdd, Nat.reduceMul, Nat.reduceSub, Nat.reduceLT, Nat.reduceLeDiff, Nat.reduceEqDiff, reduceCtorEq, true_or, or_true, false_or, or_false, true_and, and_true, false_and, and_false, not_true_eq_false, not_false_eq_true, wr_2, wrL_1, zm_eqF, zm_eqF', zm_lt, zm_lt', zm_le, zm_le', zm_sub1, zN_01, Nat.mul_zero, Nat.zero_mul, Nat.mul_one, Nat.sub_zero, Nat.sub_self, Nat.add_sub_cancel, k0, g0, g1, g2, fX7_partAt_61]
            · intro p hp'
              by_cases ep : p = s
              · subst ep; rw [hx]; intro q
                have q1 := (Prod.mk.inj (Option.some.inj q)).1
                rw [q1] at e2; exact e2 hb.2.2.1
              · exact h1 p (by omega)
        · right
          refine ⟨s + 1, ?_, rfl, ?_⟩
          · rw [e0] at g0
            show fX7_partAt_3 (zN pg) (zN l) (zN t) (n + 1) (zN s) M = fX7_partAt_3 (zN pg) (zN l) (zN t) n (zN (s + 1)) M
            rw [fX7_partAt_3]
            simp (disch := omega) only [wr_cj, wr_nj, rng_in, rng_out, zN_lit, zN_add, zN_mul, zN_sub, zN_ltT, zN_ltF, zN_leT, zN_leF, zN_eqT, zN_eqF, zN_lt, zN_le, zN_eq, zN_nat, zN_oobF, Option.bind_some, ↓reduceIte, Nat.one_mul, Nat.zero_add, Nat.add_zero, Nat.reduceAdd, Nat.reduceMul, Nat.reduceSub, Nat.reduceLT, Nat.reduceLeDiff, Nat.reduceEqDiff, reduceCtorEq, true_or, or_true, false_or, or_false, true_and, and_true, false_and, and_false, not_true_eq_false, not_false_eq_true, wr_2, wrL_1, zm_eqF, zm_eqF', zm_lt, zm_lt', zm_le, zm_le', zm_sub1, zN_01, Nat.mul_zero, Nat.zero_mul, Nat.mul_one, Nat.sub_zero, Nat.sub_self, Nat.add_sub_cancel, k0, g0, g1, fX7_partAt_61]
          · intro p hp'
            by_cases ep : p = s
            · subst ep; rw [hx]; intro q
              have q1 := (Prod.mk.inj (Option.some.inj q)).1
              rw [q1] at e1; exact e1 hb.2.1
            · exact h1 p (by omega)
      · right
        refine ⟨s + 1, ?_, rfl, ?_⟩
        · show fX7_partAt_3 (zN pg) (zN l) (zN t) (n + 1) (zN s) M = fX7_partAt_3 (zN pg) (zN l) (zN t) n (zN (s + 1)) M
          rw [fX7_partAt_3]
          simp (disch := omega) only [wr_cj, wr_nj, rng_in, rng_out, zN_lit, zN_add, zN_mul, zN_sub, zN_ltT, zN_ltF, zN_leT, zN_leF, zN_eqT, zN_eqF, zN_lt, zN_le, zN_eq, zN_nat, zN_oobF, Option.bind_some, ↓reduceIte, Nat.one_mul, Nat.zero_add, Nat.add_zero, Nat.reduceAdd, Nat.reduceMul, Nat.reduceSub, Nat.reduceLT, Nat.reduceLeDiff, Nat.reduceEqDiff, reduceCtorEq, true_or, or_true, false_or, or_false, true_and, and_true, false_and, and_false, not_true_eq_false, not_false_eq_true, wr_2, wrL_1, zm_eqF, zm_eqF', zm_lt, zm_lt', zm_le, zm_le', zm_sub1, zN_01, Nat.mul_zero, Nat.zero_mul, Nat.mul_one, Nat.sub_zero, Nat.sub_self, Nat.add_sub_cancel, k0, g0, fX7_partAt_61]
        · intro p hp'
          by_cases ep : p = s
          · subst ep; rw [hx]; intro q
            exact e0 (Prod.mk.inj (Option.some.inj q)).2
          · exact h1 p (by omega))
    (by
      rintro n s ⟨rfl, h1⟩
      right
      refine ⟨fun p q => ?_, ?_⟩
      · exact h1 p (List.getElem?_eq_some_iff.mp q).1 q
      · show fX7_partAt_3 (zN pg) (zN l) (zN t) (n + 1) (zN (pl P (NL P)).length) M = _
        rw [fX7_partAt_3]
        simp (disch := omega) only [wr_cj, wr_nj, rng_in, rng_out, zN_lit, zN_add, zN_mul, zN_sub, zN_ltT, zN_ltF, zN_leT, zN_leF, zN_eqT, zN_eqF, zN_lt, zN_le, zN_eq, zN_nat, zN_oobF, Option.bind_some, ↓reduceIte, Nat.one_mul, Nat.zero_add, Nat.add_zero, Nat.reduceAdd, Nat.reduceMul, Nat.reduceSub, Nat.reduceLT, Nat.reduceLeDiff, Nat.reduceEqDiff, reduceCtorEq, true_or, or_true, false_or, or_false, true_and, and_true, false_and, and_false, not_true_eq_false, not_false_eq_true, wr_2, wrL_1, zm_eqF, zm_eqF', zm_lt, zm_lt', zm_le, zm_le', zm_sub1, zN_01, Nat.mul_zero, Nat.zero_mul, Nat.mul_one, Nat.sub_zero, Nat.sub_self, Nat.add_sub_cancel, k0])
    zFU 0 (by rw [zFU_eq]; omega) ⟨rfl, fun p hp' => absurd hp' (by omega)⟩
  constructor
  · rintro ⟨h1, h2⟩
    rcases key with ⟨p, hx, e⟩ | ⟨hno, -⟩
    · have := (List.getElem?_eq_some_iff.mp hx).1
      exact ⟨p, by omega, kE p m t hx, e⟩
    · obtain ⟨p, hp'⟩ := List.getElem?_of_mem (pl_mem ht h2 (NL P) h1)
      exact absurd hp' (hno p)
  · intro hn
    rcases key with ⟨p, hx, e⟩ | ⟨-, e⟩
    · have hmem := List.mem_of_getElem? hx
      exact absurd ⟨(pl_3 P (NL P) _ hmem).2, pl_wid _ _ hmem⟩ hn
    · exact e
theorem call_part (x y z : Int32) : Cll (fX6_part x y z) (fX7_part x y z) := by
  refine Cll_of (fun P T R U K hw => ?_)
  have hP := hw.1
  have hp := hP.1
  have hU := hw.2.2.2.1.1
  have no : (∀ M M1, fX4_set 0 M = some M1 → Leaf M1 0 P → CSet P M1 → fX6_part x y z M = some (-zN 1, M1)) → (∀ M M1, fX7_set (wr M 158 5 (zN 0)) = some M1 → MNow M1 P → MSet P M1 → fX7_part x y z M = some (-zN 1, M1)) → ∃ r P' T' R' U' K', WF P' T' R' U' K' ∧ CD (fX6_part x y z) P T R U K r P' T' R' U' K' ∧ MD (fX7_part x y z) P T R U K r P' T' R' U' K' := by
    intro hC hM
    refine ⟨-zN 1, P, T, R, U, K, hw, fun M hM0 => ?_, fun M hM0 => ?_⟩
    · obtain ⟨M1, e1, s1, l1, f1⟩ := cset0 hP (b := 0) (by omega) hM0.1
      exact ⟨M1, hC M M1 e1 l1 s1, CI_q hM0 hU (cq_set f1) l1 (CR_q hM0.2.2.1 f1 (fun j a => by omega))⟩
    · obtain ⟨M1, e1, s1, n1, f1⟩ := mset0 hP (MNow_w (j := 5) (v := zN 0) hM0.1)
      exact ⟨M1, hM M M1 e1 n1 s1, MI_sc (MI_th hM0) f1 (fun c j a => by unfold MS at a; unfold MSc; omega), frM_trans (frM_th M _) (frM_fr f1 (fun c j a => by unfold MS at a; omega))⟩
  rcases text_case z with ⟨t, ht, rfl⟩ | hz
  · rcases place_case hP x y with ⟨pg, l, hpg, hl, rfl, rfl, hC, hM⟩ | ⟨hC, hM⟩
    · have hb := pg_b hP hpg hl
      obtain ⟨m, hm⟩ : ∃ m, m = pg * P 1 + l := ⟨_, rfl⟩
      have pA := fun M n s => partAt7 hP (M := M) n s ht hpg hl
      rw [← hm] at hb pA hC
      have tkz := tk_0 hP (m := m) ht
      have tkl := tk_le hP m ht
      have hNL := NL_le P
      by_cases there : m < NL P ∧ wid P m t ≠ 0
      · have tp := tkz.1 there
        have etk : tk P m t = wrd P m t := by unfold tk; rw [if_pos there.1]
        refine ⟨zN (tk P m t), P, T, [(zN (dn P m t)).toInt64, (zN (wid P m t)).toInt64, (zN (col P m t)).toInt64, (zN (rg P m t)).toInt64], U, K, WF_R hw (by simp), fun M hM0 => ?_, fun M hM0 => ?_⟩
        · obtain ⟨M1, e1, s1, l1, f1⟩ := cset0 hP (b := 0) (by omega) hM0.1
          have pc := hC M M1 e1 l1 s1
          have it := isText6T ht M1
          have ta := takenAt4 s1 (m := m) ht (by omega)
          obtain ⟨g2, g3, g4, g5⟩ := (s1.1 t ht).2.2.1 m there.1 there.2
          obtain ⟨M2, e2, r2, y2⟩ := tell4 (zN (dn P m t)).toInt64 (zN (wid P m t)).toInt64 (zN (col P m t)).toInt64 (zN (rg P m t)).toInt64 M1
          refine ⟨M2, ?_, CI_q hM0 hU (cq_trans (cq_set f1) (cq_Y y2)) (Leaf_Y l1 (by omega) y2) r2⟩
          unfold fX6_part; simp (disch := omega) only [wr_cj, wr_nj, rng_in, rng_out, zN_lit, zN_add, zN_mul, zN_sub, zN_ltT, zN_ltF, zN_leT, zN_leF, zN_eqT, zN_eqF, zN_lt, zN_le, zN_eq, zN_nat, zN_oobF, Option.bind_some, ↓reduceIte, Nat.one_mul, Nat.zero_add, Nat.add_zero, Nat.reduceAdd, Nat.reduceMul, Nat.reduceSub, Nat.reduceLT, Nat.reduceLeDiff, Nat.reduceEqDiff, reduceCtorEq, true_or, or_true, false_or, or_false, true_and, and_true, false_and, and_false, not_true_eq_false, not_false_eq_true, wr_2, wrL_1, zm_eqF, zm_eqF', zm_lt, zm_lt', zm_le, zm_le', zm_sub1, zN_01, Nat.mul_zero, Nat.zero_mul, Nat.mul_one, Nat.sub_zero, Nat.sub_self, Nat.add_sub_cancel, pc, it, ta, g2, g3, g4, g5, e2]
        · obtain ⟨M1, e1, s1, n1, f1⟩ := mset0 hP (MNow_w (j := 5) (v := zN 0) hM0.1)
          have it := isText7T ht M1
          have il := hM M1 n1 s1
          obtain ⟨p, hp2, en, ep⟩ := (pA M1 n1 s1).1 there
          obtain ⟨-, -, -, g3, g4, g5, g6, g7⟩ := en
          have et := fun (M' : zMM) (j : Nat) (hj : j < 8) => told7 (p := p) (j := j) (M := M') (by omega)
          obtain ⟨M2, e2, r2, x2⟩ := tell7 (MR_nil M1) (by simp) (zN (dn P m t)).toInt64
          obtain ⟨M3, e3, r3, x3⟩ := tell7 r2 (by simp) (zN (wid P m t)).toInt64
          obtain ⟨M4, e4, r4, x4⟩ := tell7 r3 (by simp) (zN (col P m t)).toInt64
          obtain ⟨M5, e5, r5, x5⟩ := tell7 r4 (by simp) (zN (rg P m t)).toInt64
          have t3 := et (wr M1 158 4 (zN 0)) 3 (by omega)
          rw [wr_nj (by omega), g3] at t3
          have t5 := et M2 5 (by omega)
          rw [x2.1 _ _ (by omega), wr_nj (by omega), g5] at t5
          have t6 := et M3 6 (by omega)
          rw [x3.1 _ _ (by omega), x2.1 _ _ (by omega), wr_nj (by omega), g6] at t6
          have t7 := et M4 7 (by omega)
          rw [x4.1 _ _ (by omega), x3.1 _ _ (by omega), x2.1 _ _ (by omega), wr_nj (by omega), g7] at t7
          have t4 := et M5 4 (by omega)
          rw [x5.1 _ _ (by omega), x4.1 _ _ (by omega), x3.1 _ _ (by omega), x2.1 _ _ (by omega), wr_nj (by omega), g4] at t4
          have et4 : zN (dn P (m + 1) t - dn P m t) = zN (tk P m t) := by rw [etk]; rfl
          rw [et4] at t4
          refine ⟨M5, ?_, MI_q hM0 (mq_trans (mq_w (j := 5) (v := zN 0) (by omega)) (mq_trans (mq_MS f1) (mq_trans (mq_w (j := 4) (v := zN 0) (by omega)) (mq_trans (mq_X x2) (mq_trans (mq_X x3) (mq_trans (mq_X x4) (mq_X x5))))))) (MNow_X (MNow_X (MNow_X (MNow_X (MNow_w n1) x2) x3) x4) x5) (MR4 r5)⟩
          unfold fX7_part
          simp only [zN_lit]
          rw [e1, Option.bind_some, it, Option.bind_some, if_neg nz10, il, Option.bind_some, if_neg nz10, ep, Option.bind_some, if_neg (show ¬ ((zN p, M1) : Int32 × zMM).1 = -zN 1 by show ¬ zN p = -zN 1; rw [zm_eqF (by omega)]; exact id), t3, Option.bind_some, e2, Option.bind_some, t5, Option.bind_some, e3, Option.bind_some, t6, Option.bind_some, e4, Option.bind_some, t7, Option.bind_some, e5, Option.bind_some, t4]
          rfl
      · have tz := tkz.2 there
        refine ⟨-zN 2, P, T, R, U, K, hw, fun M hM0 => ?_, fun M hM0 => ?_⟩
        · obtain ⟨M1, e1, s1, l1, f1⟩ := cset0 hP (b := 0) (by omega) hM0.1
          have pc := hC M M1 e1 l1 s1
          have it := isText6T ht M1
          have ta := takenAt4 s1 (m := m) ht (by omega)
          rw [tz] at ta
          refine ⟨M1, ?_, CI_q hM0 hU (cq_set f1) l1 (CR_q hM0.2.2.1 f1 (fun j a => by omega))⟩
          unfold fX6_part; simp (disch := omega) only [wr_cj, wr_nj, rng_in, rng_out, zN_lit, zN_add, zN_mul, zN_sub, zN_ltT, zN_ltF, zN_leT, zN_leF, zN_eqT, zN_eqF, zN_lt, zN_le, zN_eq, zN_nat, zN_oobF, Option.bind_some, ↓reduceIte, Nat.one_mul, Nat.zero_add, Nat.add_zero, Nat.reduceAdd, Nat.reduceMul, Nat.reduceSub, Nat.reduceLT, Nat.reduceLeDiff, Nat.reduceEqDiff, reduceCtorEq, true_or, or_true, false_or, or_false, true_and, and_true, false_and, and_false, not_true_eq_false, not_false_eq_true, wr_2, wrL_1, zm_eqF, zm_eqF', zm_lt, zm_lt', zm_le, zm_le', zm_sub1, zN_01, Nat.mul_zero, Nat.zero_mul, Nat.mul_one, Nat.sub_zero, Nat.sub_self, Nat.add_sub_cancel, pc, it, ta]
        · obtain ⟨M1, e1, s1, n1, f1⟩ := mset0 hP (MNow_w (j := 5) (v := zN 0) hM0.1)
          have it := isText7T ht M1
          have il := hM M1 n1 s1
          have ep := (pA M1 n1 s1).2 there
          refine ⟨M1, ?_, MI_sc (MI_th hM0) f1 (fun c j a => by unfold MS at a; unfold MSc; omega), frM_trans (frM_th M _) (frM_fr f1 (fun c j a => by unfold MS at a; omega))⟩
          unfold fX7_part; simp (disch := omega) only [wr_cj, wr_nj, rng_in, rng_out, zN_lit, zN_add, zN_mul, zN_sub, zN_ltT, zN_ltF, zN_leT, zN_leF, zN_eqT, zN_eqF, zN_lt, zN_le, zN_eq, zN_nat, zN_oobF, Option.bind_some, ↓reduceIte, Nat.one_mul, Nat.zero_add, Nat.add_zero, Nat.reduceAdd, Nat.reduceMul, Nat.reduceSub, Nat.reduceLT, Nat.reduceLeDiff, Nat.reduceEqDiff, reduceCtorEq, true_or, or_true, false_or, or_false, true_and, and_true, false_and, and_false, not_true_eq_false, not_false_eq_true, wr_2, wrL_1, zm_eqF, zm_eqF', zm_lt, zm_lt', zm_le, zm_le', zm_sub1, zN_01, Nat.mul_zero, Nat.zero_mul, Nat.mul_one, Nat.sub_zero, Nat.sub_self, Nat.add_sub_cancel, e1, it, il, ep]
    · refine no (fun M M1 e1 l1 s1 => ?_) (fun M M1 e1 n1 s1 => ?_)
      · have pc := hC M M1 e1 l1 s1
        unfold fX6_part; simp (disch := omega) only [wr_cj, wr_nj, rng_in, rng_out, zN_lit, zN_add, zN_mul, zN_sub, zN_ltT, zN_ltF, zN_leT, zN_leF, zN_eqT, zN_eqF, zN_lt, zN_le, zN_eq, zN_nat, zN_oobF, Option.bind_some, ↓reduceIte, Nat.one_mul, Nat.zero_add, Nat.add_zero, Nat.reduceAdd, Nat.reduceMul, Nat.reduceSub, Nat.reduceLT, Nat.reduceLeDiff, Nat.reduceEqDiff, reduceCtorEq, true_or, or_true, false_or, or_false, true_and, and_true, false_and, and_false, not_true_eq_false, not_false_eq_true, wr_2, wrL_1, zm_eqF, zm_eqF', zm_lt, zm_lt', zm_le, zm_le', zm_sub1, zN_01, Nat.mul_zero, Nat.zero_mul, Nat.mul_one, Nat.sub_zero, Nat.sub_self, Nat.add_sub_cancel, pc]
      · have it := isText7T ht M1
        have il := hM M1 n1 s1
        unfold fX7_part; simp (disch := omega) only [wr_cj, wr_nj, rng_in, rng_out, zN_lit, zN_add, zN_mul, zN_sub, zN_ltT, zN_ltF, zN_leT, zN_leF, zN_eqT, zN_eqF, zN_lt, zN_le, zN_eq, zN_nat, zN_oobF, Option.bind_some, ↓reduceIte, Nat.one_mul, Nat.zero_add, Nat.add_zero, Nat.reduceAdd, Nat.reduceMul, Nat.reduceSub, Nat.reduceLT, Nat.reduceLeDiff, Nat.reduceEqDiff, reduceCtorEq, true_or, or_true, false_or, or_false, true_and, and_true, false_and, and_false, not_true_eq_false, not_false_eq_true, wr_2, wrL_1, zm_eqF, zm_eqF', zm_lt, zm_lt', zm_le, zm_le', zm_sub1, zN_01, Nat.mul_zero, Nat.zero_mul, Nat.mul_one, Nat.sub_zero, Nat.sub_self, Nat.add_sub_cancel, e1, it, il]
  · refine no (fun M M1 e1 l1 s1 => ?_) (fun M M1 e1 n1 s1 => ?_)
    · have it := (hz M1).1
      rcases place_case hP x y with ⟨pg, l, hpg, hl, rfl, rfl, hC, -⟩ | ⟨hC, -⟩
      · have hb := pg_b hP hpg hl
        have pc := hC M M1 e1 l1 s1
        unfold fX6_part; simp (disch := omega) only [wr_cj, wr_nj, rng_in, rng_out, zN_lit, zN_add, zN_mul, zN_sub, zN_ltT, zN_ltF, zN_leT, zN_leF, zN_eqT, zN_eqF, zN_lt, zN_le, zN_eq, zN_nat, zN_oobF, Option.bind_some, ↓reduceIte, Nat.one_mul, Nat.zero_add, Nat.add_zero, Nat.reduceAdd, Nat.reduceMul, Nat.reduceSub, Nat.reduceLT, Nat.reduceLeDiff, Nat.reduceEqDiff, reduceCtorEq, true_or, or_true, false_or, or_false, true_and, and_true, false_and, and_false, not_true_eq_false, not_false_eq_true, wr_2, wrL_1, zm_eqF, zm_eqF', zm_lt, zm_lt', zm_le, zm_le', zm_sub1, zN_01, Nat.mul_zero, Nat.zero_mul, Nat.mul_one, Nat.sub_zero, Nat.sub_self, Nat.add_sub_cancel, pc, it]
      · have pc := hC M M1 e1 l1 s1
        unfold fX6_part; simp (disch := omega) only [wr_cj, wr_nj, rng_in, rng_out, zN_lit, zN_add, zN_mul, zN_sub, zN_ltT, zN_ltF, zN_leT, zN_leF, zN_eqT, zN_eqF, zN_lt, zN_le, zN_eq, zN_nat, zN_oobF, Option.bind_some, ↓reduceIte, Nat.one_mul, Nat.zero_add, Nat.add_zero, Nat.reduceAdd, Nat.reduceMul, Nat.reduceSub, Nat.reduceLT, Nat.reduceLeDiff, Nat.reduceEqDiff, reduceCtorEq, true_or, or_true, false_or, or_false, true_and, and_true, false_and, and_false, not_true_eq_false, not_false_eq_true, wr_2, wrL_1, zm_eqF, zm_eqF', zm_lt, zm_lt', zm_le, zm_le', zm_sub1, zN_01, Nat.mul_zero, Nat.zero_mul, Nat.mul_one, Nat.sub_zero, Nat.sub_self, Nat.add_sub_cancel, pc]
    · have it := (hz M1).2
      unfold fX7_part; simp (disch := omega) only [wr_cj, wr_nj, rng_in, rng_out, zN_lit, zN_add, zN_mul, zN_sub, zN_ltT, zN_ltF, zN_leT, zN_leF, zN_eqT, zN_eqF, zN_lt, zN_le, zN_eq, zN_nat, zN_oobF, Option.bind_some, ↓reduceIte, Nat.one_mul, Nat.zero_add, Nat.add_zero, Nat.reduceAdd, Nat.reduceMul, Nat.reduceSub, Nat.reduceLT, Nat.reduceLeDiff, Nat.reduceEqDiff, reduceCtorEq, true_or, or_true, false_or, or_false, true_and, and_true, false_and, and_false, not_true_eq_false, not_false_eq_true, wr_2, wrL_1, zm_eqF, zm_eqF', zm_lt, zm_lt', zm_le, zm_le', zm_sub1, zN_01, Nat.mul_zero, Nat.zero_mul, Nat.mul_one, Nat.sub_zero, Nat.sub_self, Nat.add_sub_cancel, e1, it]
/-! word -/
theorem call_word (x y z : Int32) : ∀ M, Inv M → ∃ k M1 b M2, fL_word x y z M = some (k, M1) ∧ fX7_word x y z M1 = some (b, M2) ∧ M2.1 158 5 = k ∧ (k = 0 → M2.2 174 0 = b.toInt64) ∧ Inv M2 := by
  refine thr_of (fun b : Int32 => b.toInt64) (g := fX6_word x y z) (h := fX7_word x y z) (fl := fL_word x y z) (fun M M' r e => by unfold fL_word; rw [e]; rfl) (fun M M' e => by unfold fL_word; rw [e]; rfl) (fun P T R U K hw => ?_)
  have hP := hw.1
  have hp := hP.1
  have hU := hw.2.2.2.1.1
  have lose : (∀ M, MI P T R U K M → fX7_word x y z M = fX7_word_23 x y z (wr M 158 5 (zN 0))) → ∀ M, MI P T R U K M → ∃ v M', fX7_word x y z M = some (v, M') ∧ M'.1 158 5 = zN 1 ∧ MI P T R U K M' ∧ frM M M' := by
    intro h M hM
    refine ⟨zN 0, wr (wr M 158 5 (zN 0)) 158 5 (zN 1), ?_, by rw [wr_cj], MI_th (MI_th hM), frM_trans (frM_th M _) (frM_th _ _)⟩
    rw [h M hM]; rfl
  rcases word_case hP x y with ⟨t, k, ht, hk, rfl, rfl⟩ | ⟨h1, h2⟩
  · have hc := (hP.2.1 t ht).1
    have hln := ln_ok hP ht hk
    have hlw := ln_w hP ht hk
    have hNL := NL_le P
    have hdiv : ln P t k / P 1 ≤ ln P t k := Nat.div_le_self _ _
    have hdm := Nat.div_add_mod (ln P t k) (P 1)
    rcases zcaseR z 0 4 with ⟨w, -, hw4, rfl⟩ | hz | ⟨w, hwl, rfl, hwn⟩
    · right
      have cls : ∀ M, CI P T R U K M → ∃ M1, fX4_set 0 M = some M1 ∧ CSet P M1 ∧ Leaf M1 0 P ∧ CI P T R U K M1 ∧ frC M M1 ∧ fX0_hasWord 0 (zN t) (zN k) M = some (zN 1, M) ∧ M1.1 (125 + t) k = zN (ln P t k) ∧ M1.1 (129 + t) (ln P t k) = zN (dn P (ln P t k) t) ∧ M1.1 (4 + t) k = zN (pSz P t k) := by
        intro M hM
        obtain ⟨M1, e1, s1, l1, f1⟩ := cset0 hP (b := 0) (by omega) hM.1
        have hq := CI_q hM hU (cq_set f1) l1 (CR_q hM.2.2.1 f1 (fun j a => by omega))
        have hwd := hasWord0 hP hM.1 ht (k := k) (by omega)
        rw [if_pos hk] at hwd
        refine ⟨M1, e1, s1, l1, hq.1, hq.2, hwd, lineOf4 hP s1 ht hk, ((s1.1 t ht).2.2.1 _ hln.2.2 hlw).1, ?_⟩
        have := l1.2.2.2.1 t ht k hk
        rw [Nat.zero_add] at this; exact this
      have mod : ∀ M, MI P T R U K M → ∃ M1 p, fX7_set (wr M 158 5 (zN 0)) = some M1 ∧ MSet P M1 ∧ MNow M1 P ∧ MI P T R U K M1 ∧ frM M M1 ∧ M1.1 158 5 = zN 0 ∧ fX7_isWord (zN t) (zN k) (wr M 158 5 (zN 0)) = some (zN 1, wr M 158 5 (zN 0)) ∧ p < 210 ∧ M1.1 164 (70 * t + k) = zN p ∧ Ent P M1 p (ln P t k) t := by
        intro M hM
        have h0 := MNow_w (j := 5) (v := zN 0) hM.1
        obtain ⟨M1, e1, s1, n1, f1⟩ := mset0 hP h0
        have iw := isWord7 hP h0 ht (k := k) (by omega)
        rw [if_pos hk] at iw
        obtain ⟨p, p1, -, -, p4, p5⟩ := partOf7 hP s1 ht hk
        exact ⟨M1, p, e1, s1, n1, MI_sc (MI_th hM) f1 (fun c j a => by unfold MS at a; unfold MSc; omega), frM_trans (frM_th M _) (frM_fr f1 (fun c j a => by unfold MS at a; omega)), by rw [f1.1 _ _ (by unfold MS; omega), wr_cj], iw, p1, p4, p5⟩
      have e : w = 0 ∨ w = 1 ∨ w = 2 ∨ w = 3 ∨ w = 4 := by omega
      rcases e with rfl | rfl | rfl | rfl | rfl
      · refine ⟨zN (ln P t k / P 1), R, hw, fun M hM => ?_, fun M hM => ?_⟩
        · obtain ⟨M1, e1, s1, l1, c1, f1, hwd, g1, g2, g3⟩ := cls M hM
          have po := pageOf0 hP l1 (n := ln P t k) (by omega)
          refine ⟨M1, ?_, c1, f1⟩
          unfold fX6_word; simp (disch := omega) only [wr_cj, wr_nj, rng_in, rng_out, zN_lit, zN_add, zN_mul, zN_sub, zN_ltT, zN_ltF, zN_leT, zN_leF, zN_eqT, zN_eqF, zN_lt, zN_le, zN_eq, zN_nat, zN_oobF, Option.bind_some, ↓reduceIte, Nat.one_mul, Nat.zero_add, Nat.add_zero, Nat.reduceAdd, Nat.reduceMul, Nat.reduceSub, Nat.reduceLT, Nat.reduceLeDiff, Nat.reduceEqDiff, reduceCtorEq, true_or, or_true, false_or, or_false, true_and, and_true, false_and, and_false, not_true_eq_false, not_false_eq_true, wr_2, wrL_1, zm_eqF, zm_eqF', zm_lt, zm_lt', zm_le, zm_le', zm_sub1, zN_01, Nat.mul_zero, Nat.zero_mul, Nat.mul_one, Nat.sub_zero, Nat.sub_self, Nat.add_sub_cancel, hwd, e1, g1, po]
        · obtain ⟨M1, p, e1, s1, n1, h1, f1, k5, iw, hp2, p4, p5⟩ := mod M hM
          have tl := told7 (p := p) (j := 1) (M := M1) (by omega)
          rw [p5.2.1] at tl
          have t4 := in7T (a := 0) (lo := 0) (hi := 4) (by omega) (wr M 158 5 (zN 0))
          refine ⟨M1, ?_, k5, h1, f1⟩
          unfold fX7_word; simp (disch := omega) only [wr_cj, wr_nj, rng_in, rng_out, zN_lit, zN_add, zN_mul, zN_sub, zN_ltT, zN_ltF, zN_leT, zN_leF, zN_eqT, zN_eqF, zN_lt, zN_le, zN_eq, zN_nat, zN_oobF, Option.bind_some, ↓reduceIte, Nat.one_mul, Nat.zero_add, Nat.add_zero, Nat.reduceAdd, Nat.reduceMul, Nat.reduceSub, Nat.reduceLT, Nat.reduceLeDiff, Nat.reduceEqDiff, reduceCtorEq, true_or, or_true, false_or, or_false, true_and, and_true, false_and, and_false, not_true_eq_false, not_false_eq_true, wr_2, wrL_1, zm_eqF, zm_eqF', zm_lt, zm_lt', zm_le, zm_le', zm_sub1, zN_01, Nat.mul_zero, Nat.zero_mul, Nat.mul_one, Nat.sub_zero, Nat.sub_self, Nat.add_sub_cancel, iw, t4, e1, p4, tl]
      · refine ⟨zN (ln P t k % P 1), R, hw, fun M hM => ?_, fun M hM => ?_⟩
        · obtain ⟨M1, e1, s1, l1, c1, f1, hwd, g1, g2, g3⟩ := cls M hM
          have po := pageOf0 hP l1 (n := ln P t k) (by omega)
          have h1 : M1.1 0 1 = zN (P 1) := l1.1.2.1
          have hle : ln P t k / P 1 * P 1 ≤ ln P t k := Nat.div_mul_le_self _ _
          have em : ln P t k - ln P t k / P 1 * P 1 = ln P t k % P 1 := by rw [Nat.mul_comm]; omega
          refine ⟨M1, ?_, c1, f1⟩
          unfold fX6_word; simp (disch := omega) only [wr_cj, wr_nj, rng_in, rng_out, zN_lit, zN_add, zN_mul, zN_sub, zN_ltT, zN_ltF, zN_leT, zN_leF, zN_eqT, zN_eqF, zN_lt, zN_le, zN_eq, zN_nat, zN_oobF, Option.bind_some, ↓reduceIte, Nat.one_mul, Nat.zero_add, Nat.add_zero, Nat.reduceAdd, Nat.reduceMul, Nat.reduceSub, Nat.reduceLT, Nat.reduceLeDiff, Nat.reduceEqDiff, reduceCtorEq, true_or, or_true, false_or, or_false, true_and, and_true, false_and, and_false, not_true_eq_false, not_false_eq_true, wr_2, wrL_1, zm_eqF, zm_eqF', zm_lt, zm_lt', zm_le, zm_le', zm_sub1, zN_01, Nat.mul_zero, Nat.zero_mul, Nat.mul_one, Nat.sub_zero, Nat.sub_self, Nat.add_sub_cancel, hwd, e1, g1, po, h1, em]
        · obtain ⟨M1, p, e1, s1, n1, h1, f1, k5, iw, hp2, p4, p5⟩ := mod M hM
          have tl := told7 (p := p) (j := 2) (M := M1) (by omega)
          rw [p5.2.2.1] at tl
          have t4 := in7T (a := 1) (lo := 0) (hi := 4) (by omega) (wr M 158 5 (zN 0))
          refine ⟨M1, ?_, k5, h1, f1⟩
          unfold fX7_word; simp (disch := omega) only [wr_cj, wr_nj, rng_in, rng_out, zN_lit, zN_add, zN_mul, zN_sub, zN_ltT, zN_ltF, zN_leT, zN_leF, zN_eqT, zN_eqF, zN_lt, zN_le, zN_eq, zN_nat, zN_oobF, Option.bind_some, ↓reduceIte, Nat.one_mul, Nat.zero_add, Nat.add_zero, Nat.reduceAdd, Nat.reduceMul, Nat.reduceSub, Nat.reduceLT, Nat.reduceLeDiff, Nat.reduceEqDiff, reduceCtorEq, true_or, or_true, false_or, or_false, true_and, and_true, false_and, and_false, not_true_eq_false, not_false_eq_true, wr_2, wrL_1, zm_eqF, zm_eqF', zm_lt, zm_lt', zm_le, zm_le', zm_sub1, zN_01, Nat.mul_zero, Nat.zero_mul, Nat.mul_one, Nat.sub_zero, Nat.sub_self, Nat.add_sub_cancel, iw, t4, e1, p4, tl]
      · refine ⟨zN (cof P t k), R, hw, fun M hM => ?_, fun M hM => ?_⟩
        · obtain ⟨M1, e1, s1, l1, c1, f1, hwd, g1, g2, g3⟩ := cls M hM
          have co := col4 hP (b := 0) (by omega) l1 s1 ht hk
          refine ⟨M1, ?_, c1, f1⟩
          unfold fX6_word; simp (disch := omega) only [wr_cj, wr_nj, rng_in, rng_out, zN_lit, zN_add, zN_mul, zN_sub, zN_ltT, zN_ltF, zN_leT, zN_leF, zN_eqT, zN_eqF, zN_lt, zN_le, zN_eq, zN_nat, zN_oobF, Option.bind_some, ↓reduceIte, Nat.one_mul, Nat.zero_add, Nat.add_zero, Nat.reduceAdd, Nat.reduceMul, Nat.reduceSub, Nat.reduceLT, Nat.reduceLeDiff, Nat.reduceEqDiff, reduceCtorEq, true_or, or_true, false_or, or_false, true_and, and_true, false_and, and_false, not_true_eq_false, not_false_eq_true, wr_2, wrL_1, zm_eqF, zm_eqF', zm_lt, zm_lt', zm_le, zm_le', zm_sub1, zN_01, Nat.mul_zero, Nat.zero_mul, Nat.mul_one, Nat.sub_zero, Nat.sub_self, Nat.add_sub_cancel, hwd, e1, g1, co]
        · obtain ⟨M1, p, e1, s1, n1, h1, f1, k5, iw, hp2, p4, p5⟩ := mod M hM
          have co := col7 hP n1 s1 ht hk
          have t4 := in7T (a := 2) (lo := 0) (hi := 4) (by omega) (wr M 158 5 (zN 0))
          refine ⟨M1, ?_, k5, h1, f1⟩
          unfold fX7_word; simp (disch := omega) only [wr_cj, wr_nj, rng_in, rng_out, zN_lit, zN_add, zN_mul, zN_sub, zN_ltT, zN_ltF, zN_leT, zN_leF, zN_eqT, zN_eqF, zN_lt, zN_le, zN_eq, zN_nat, zN_oobF, Option.bind_some, ↓reduceIte, Nat.one_mul, Nat.zero_add, Nat.add_zero, Nat.reduceAdd, Nat.reduceMul, Nat.reduceSub, Nat.reduceLT, Nat.reduceLeDiff, Nat.reduceEqDiff, reduceCtorEq, true_or, or_true, false_or, or_false, true_and, and_true, false_and, and_false, not_true_eq_false, not_false_eq_true, wr_2, wrL_1, zm_eqF, zm_eqF', zm_lt, zm_lt', zm_le, zm_le', zm_sub1, zN_01, Nat.mul_zero, Nat.zero_mul, Nat.mul_one, Nat.sub_zero, Nat.sub_self, Nat.add_sub_cancel, iw, t4, e1, p4, co]
      · refine ⟨zN (pSz P t k), R, hw, fun M hM => ?_, fun M hM => ?_⟩
        · obtain ⟨M1, e1, s1, l1, c1, f1, hwd, g1, g2, g3⟩ := cls M hM
          refine ⟨M1, ?_, c1, f1⟩
          unfold fX6_word; simp (disch := omega) only [wr_cj, wr_nj, rng_in, rng_out, zN_lit, zN_add, zN_mul, zN_sub, zN_ltT, zN_ltF, zN_leT, zN_leF, zN_eqT, zN_eqF, zN_lt, zN_le, zN_eq, zN_nat, zN_oobF, Option.bind_some, ↓reduceIte, Nat.one_mul, Nat.zero_add, Nat.add_zero, Nat.reduceAdd, Nat.reduceMul, Nat.reduceSub, Nat.reduceLT, Nat.reduceLeDiff, Nat.reduceEqDiff, reduceCtorEq, true_or, or_true, false_or, or_false, true_and, and_true, false_and, and_false, not_true_eq_false, not_false_eq_true, wr_2, wrL_1, zm_eqF, zm_eqF', zm_lt, zm_lt', zm_le, zm_le', zm_sub1, zN_01, Nat.mul_zero, Nat.zero_mul, Nat.mul_one, Nat.sub_zero, Nat.sub_self, Nat.add_sub_cancel, hwd, e1, g1, g3]
        · obtain ⟨M1, p, e1, s1, n1, h1, f1, k5, iw, hp2, p4, p5⟩ := mod M hM
          have sz := size7 (M := M1) ht (k := k) (by omega)
          have m := n1 (8 + 70 * t + k) (by omega)
          rw [m] at sz
          have t4 := in7T (a := 3) (lo := 0) (hi := 4) (by omega) (wr M 158 5 (zN 0))
          refine ⟨M1, ?_, k5, h1, f1⟩
          unfold fX7_word; simp (disch := omega) only [wr_cj, wr_nj, rng_in, rng_out, zN_lit, zN_add, zN_mul, zN_sub, zN_ltT, zN_ltF, zN_leT, zN_leF, zN_eqT, zN_eqF, zN_lt, zN_le, zN_eq, zN_nat, zN_oobF, Option.bind_some, ↓reduceIte, Nat.one_mul, Nat.zero_add, Nat.add_zero, Nat.reduceAdd, Nat.reduceMul, Nat.reduceSub, Nat.reduceLT, Nat.reduceLeDiff, Nat.reduceEqDiff, reduceCtorEq, true_or, or_true, false_or, or_false, true_and, and_true, false_and, and_false, not_true_eq_false, not_false_eq_true, wr_2, wrL_1, zm_eqF, zm_eqF', zm_lt, zm_lt', zm_le, zm_le', zm_sub1, zN_01, Nat.mul_zero, Nat.zero_mul, Nat.mul_one, Nat.sub_zero, Nat.sub_self, Nat.add_sub_cancel, iw, t4, e1, p4, sz, pSz]
      · refine ⟨zN (k - dn P (ln P t k) t), R, hw, fun M hM => ?_, fun M hM => ?_⟩
        · obtain ⟨M1, e1, s1, l1, c1, f1, hwd, g1, g2, g3⟩ := cls M hM
          refine ⟨M1, ?_, c1, f1⟩
          unfold fX6_word; simp (disch := omega) only [wr_cj, wr_nj, rng_in, rng_out, zN_lit, zN_add, zN_mul, zN_sub, zN_ltT, zN_ltF, zN_leT, zN_leF, zN_eqT, zN_eqF, zN_lt, zN_le, zN_eq, zN_nat, zN_oobF, Option.bind_some, ↓reduceIte, Nat.one_mul, Nat.zero_add, Nat.add_zero, Nat.reduceAdd, Nat.reduceMul, Nat.reduceSub, Nat.reduceLT, Nat.reduceLeDiff, Nat.reduceEqDiff, reduceCtorEq, true_or, or_true, false_or, or_false, true_and, and_true, false_and, and_false, not_true_eq_false, not_false_eq_true, wr_2, wrL_1, zm_eqF, zm_eqF', zm_lt, zm_lt', zm_le, zm_le', zm_sub1, zN_01, Nat.mul_zero, Nat.zero_mul, Nat.mul_one, Nat.sub_zero, Nat.sub_self, Nat.add_sub_cancel, hwd, e1, g1, g2]
        · obtain ⟨M1, p, e1, s1, n1, h1, f1, k5, iw, hp2, p4, p5⟩ := mod M hM
          have tl := told7 (p := p) (j := 3) (M := M1) (by omega)
          rw [p5.2.2.2.1] at tl
          have t4 := in7T (a := 4) (lo := 0) (hi := 4) (by omega) (wr M 158 5 (zN 0))
          refine ⟨M1, ?_, k5, h1, f1⟩
          unfold fX7_word; simp (disch := omega) only [wr_cj, wr_nj, rng_in, rng_out, zN_lit, zN_add, zN_mul, zN_sub, zN_ltT, zN_ltF, zN_leT, zN_leF, zN_eqT, zN_eqF, zN_lt, zN_le, zN_eq, zN_nat, zN_oobF, Option.bind_some, ↓reduceIte, Nat.one_mul, Nat.zero_add, Nat.add_zero, Nat.reduceAdd, Nat.reduceMul, Nat.reduceSub, Nat.reduceLT, Nat.reduceLeDiff, Nat.reduceEqDiff, reduceCtorEq, true_or, or_true, false_or, or_false, true_and, and_true, false_and, and_false, not_true_eq_false, not_false_eq_true, wr_2, wrL_1, zm_eqF, zm_eqF', zm_lt, zm_lt', zm_le, zm_le', zm_sub1, zN_01, Nat.mul_zero, Nat.zero_mul, Nat.mul_one, Nat.sub_zero, Nat.sub_self, Nat.add_sub_cancel, iw, t4, e1, p4, tl]
    · left
      refine ⟨fun M hM => ?_, lose (fun M hM => ?_)⟩
      · have hwd := hasWord0 hP hM.1 ht (k := k) (by omega)
        rw [if_pos hk] at hwd
        unfold fX6_word; simp (disch := omega) only [wr_cj, wr_nj, rng_in, rng_out, zN_lit, zN_add, zN_mul, zN_sub, zN_ltT, zN_ltF, zN_leT, zN_leF, zN_eqT, zN_eqF, zN_lt, zN_le, zN_eq, zN_nat, zN_oobF, Option.bind_some, ↓reduceIte, Nat.one_mul, Nat.zero_add, Nat.add_zero, Nat.reduceAdd, Nat.reduceMul, Nat.reduceSub, Nat.reduceLT, Nat.reduceLeDiff, Nat.reduceEqDiff, reduceCtorEq, true_or, or_true, false_or, or_false, true_and, and_true, false_and, and_false, not_true_eq_false, not_false_eq_true, wr_2, wrL_1, zm_eqF, zm_eqF', zm_lt, zm_lt', zm_le, zm_le', zm_sub1, zN_01, Nat.mul_zero, Nat.zero_mul, Nat.mul_one, Nat.sub_zero, Nat.sub_self, Nat.add_sub_cancel, hwd, zg_lt hz]
      · have iw := isWord7 hP (MNow_w (j := 5) (v := zN 0) hM.1) ht (k := k) (by omega)
        rw [if_pos hk] at iw
        have t4 := in7g hz (lo := 0) (by omega) (zN 4) (wr M 158 5 (zN 0))
        unfold fX7_word; simp (disch := omega) only [wr_cj, wr_nj, rng_in, rng_out, zN_lit, zN_add, zN_mul, zN_sub, zN_ltT, zN_ltF, zN_leT, zN_leF, zN_eqT, zN_eqF, zN_lt, zN_le, zN_eq, zN_nat, zN_oobF, Option.bind_some, ↓reduceIte, Nat.one_mul, Nat.zero_add, Nat.add_zero, Nat.reduceAdd, Nat.reduceMul, Nat.reduceSub, Nat.reduceLT, Nat.reduceLeDiff, Nat.reduceEqDiff, reduceCtorEq, true_or, or_true, false_or, or_false, true_and, and_true, false_and, and_false, not_true_eq_false, not_false_eq_true, wr_2, wrL_1, zm_eqF, zm_eqF', zm_lt, zm_lt', zm_le, zm_le', zm_sub1, zN_01, Nat.mul_zero, Nat.zero_mul, Nat.mul_one, Nat.sub_zero, Nat.sub_self, Nat.add_sub_cancel, iw, t4]
    · left
      refine ⟨fun M hM => ?_, lose (fun M hM => ?_)⟩
      · have hwd := hasWord0 hP hM.1 ht (k := k) (by omega)
        rw [if_pos hk] at hwd
        unfold fX6_word; simp (disch := omega) only [wr_cj, wr_nj, rng_in, rng_out, zN_lit, zN_add, zN_mul, zN_sub, zN_ltT, zN_ltF, zN_leT, zN_leF, zN_eqT, zN_eqF, zN_lt, zN_le, zN_eq, zN_nat, zN_oobF, Option.bind_some, ↓reduceIte, Nat.one_mul, Nat.zero_add, Nat.add_zero, Nat.reduceAdd, Nat.reduceMul, Nat.reduceSub, Nat.reduceLT, Nat.reduceLeDiff, Nat.reduceEqDiff, reduceCtorEq, true_or, or_true, false_or, or_false, true_and, and_true, false_and, and_false, not_true_eq_false, not_false_eq_true, wr_2, wrL_1, zm_eqF, zm_eqF', zm_lt, zm_lt', zm_le, zm_le', zm_sub1, zN_01, Nat.mul_zero, Nat.zero_mul, Nat.mul_one, Nat.sub_zero, Nat.sub_self, Nat.add_sub_cancel, hwd]
      · have iw := isWord7 hP (MNow_w (j := 5) (v := zN 0) hM.1) ht (k := k) (by omega)
        rw [if_pos hk] at iw
        have t4 := in7F (a := w) (lo := 0) (hi := 4) (by omega) (wr M 158 5 (zN 0))
        unfold fX7_word; simp (disch := omega) only [wr_cj, wr_nj, rng_in, rng_out, zN_lit, zN_add, zN_mul, zN_sub, zN_ltT, zN_ltF, zN_leT, zN_leF, zN_eqT, zN_eqF, zN_lt, zN_le, zN_eq, zN_nat, zN_oobF, Option.bind_some, ↓reduceIte, Nat.one_mul, Nat.zero_add, Nat.add_zero, Nat.reduceAdd, Nat.reduceMul, Nat.reduceSub, Nat.reduceLT, Nat.reduceLeDiff, Nat.reduceEqDiff, reduceCtorEq, true_or, or_true, false_or, or_false, true_and, and_true, false_and, and_false, not_true_eq_false, not_false_eq_true, wr_2, wrL_1, zm_eqF, zm_eqF', zm_lt, zm_lt', zm_le, zm_le', zm_sub1, zN_01, Nat.mul_zero, Nat.zero_mul, Nat.mul_one, Nat.sub_zero, Nat.sub_self, Nat.add_sub_cancel, iw, t4]
  · left
    refine ⟨fun M hM => ?_, lose (fun M hM => ?_)⟩
    · have := h1 M 0 hM.1
      unfold fX6_word; rw [this]; rfl
    · have := h2 (wr M 158 5 (zN 0)) (MNow_w hM.1)
      unfold fX7_word; simp only [zN_lit]; rw [this]; rfl
