/-! blanks -/
def lfT (P : Nat → Nat) (t fm : Nat) : Nat → Nat
  | 0 => 0
  | k + 1 => lfT P t fm k + (if fm ≤ ln P t k then pSz P t k else 0)
theorem lf14 {P : Nat → Nat} (hP : Good P) {M : zMM} (hL : Leaf M 0 P) (hS : CSet P M) {t fm : Nat} (ht : t < 3) (hfm : fm < 1000) (K5 : Int32 → Int32 → zMM → Option (Int32 × zMM)) : ∀ f k acc fuel, P (5 + t) - k = f → k ≤ P (5 + t) → f < fuel → fX4_lettersFrom_14 K5 0 (zN fm) fuel (zN (acc + lfT P t fm k)) (zN t) (zN k) M = K5 (zN (acc + lfT P t fm (P (5 + t)))) (zN (t + 1)) M := by
  have hc := (hP.2.1 t ht).1
  have lc : M.1 (0 + 2) t = zN (P (5 + t)) := hL.2.2.1 t ht
  intro f
  induction f with
  | zero =>
    intro k acc fuel hf hk hfu
    obtain ⟨fu, rfl⟩ : ∃ q, fuel = q + 1 := ⟨fuel - 1, by omega⟩
    have e : k = P (5 + t) := by omega
    subst e
    rw [fX4_lettersFrom_14]
    simp (disch := omega) only [wr_cj, wr_nj, rng_in, rng_out, zN_lit, zN_add, zN_mul, zN_sub, zN_ltT, zN_ltF, zN_leT, zN_leF, zN_eqT, zN_eqF, zN_lt, zN_le, zN_eq, zN_nat, zN_oobF, Option.bind_some, ↓reduceIte, Nat.one_mul, Nat.zero_add, Nat.add_zero, Nat.reduceAdd, Nat.reduceMul, Nat.reduceSub, Nat.reduceLT, Nat.reduceLeDiff, Nat.reduceEqDiff, reduceCtorEq, true_or, or_true, false_or, or_false, true_and, and_true, false_and, and_false, not_true_eq_false, not_false_eq_true, wr_2, wrL_1, zm_eqF, zm_eqF', zm_lt, zm_lt', zm_le, zm_le', zm_sub1, zN_01, Nat.mul_zero, Nat.zero_mul, Nat.mul_one, Nat.sub_zero, Nat.sub_self, Nat.add_sub_cancel, lc]
  | succ f ih =>
    intro k acc fuel hf hk hfu
    obtain ⟨fu, rfl⟩ : ∃ q, fuel = q + 1 := ⟨fuel - 1, by omega⟩
    have lo := lineOf4 hP hS ht (show k < P (5 + t) by omega)
    have hl := ln_lt hP ht (show k < P (5 + t) by omega)
    have lsk : M.1 (0 + 4 + t) k = zN (pSz P t k) := hL.2.2.2.1 t ht k (by omega)
    rw [← ih (k + 1) acc fu (by omega) (by omega) (by omega), fX4_lettersFrom_14, lfT]
    by_cases q : fm ≤ ln P t k
    · rw [if_pos q]
      simp (disch := omega) only [wr_cj, wr_nj, rng_in, rng_out, zN_lit, zN_add, zN_mul, zN_sub, zN_ltT, zN_ltF, zN_leT, zN_leF, zN_eqT, zN_eqF, zN_lt, zN_le, zN_eq, zN_nat, zN_oobF, Option.bind_some, ↓reduceIte, Nat.one_mul, Nat.zero_add, Nat.add_zero, Nat.reduceAdd, Nat.reduceMul, Nat.reduceSub, Nat.reduceLT, Nat.reduceLeDiff, Nat.reduceEqDiff, reduceCtorEq, true_or, or_true, false_or, or_false, true_and, and_true, false_and, and_false, not_true_eq_false, not_false_eq_true, wr_2, wrL_1, zm_eqF, zm_eqF', zm_lt, zm_lt', zm_le, zm_le', zm_sub1, zN_01, Nat.mul_zero, Nat.zero_mul, Nat.mul_one, Nat.sub_zero, Nat.sub_self, Nat.add_sub_cancel, lc, lo, lsk, fX4_lettersFrom_55]
      rw [Nat.add_assoc acc]
    · rw [if_neg q]
      simp (disch := omega) only [wr_cj, wr_nj, rng_in, rng_out, zN_lit, zN_add, zN_mul, zN_sub, zN_ltT, zN_ltF, zN_leT, zN_leF, zN_eqT, zN_eqF, zN_lt, zN_le, zN_eq, zN_nat, zN_oobF, Option.bind_some, ↓reduceIte, Nat.one_mul, Nat.zero_add, Nat.add_zero, Nat.reduceAdd, Nat.reduceMul, Nat.reduceSub, Nat.reduceLT, Nat.reduceLeDiff, Nat.reduceEqDiff, reduceCtorEq, true_or, or_true, false_or, or_false, true_and, and_true, false_and, and_false, not_true_eq_false, not_false_eq_true, wr_2, wrL_1, zm_eqF, zm_eqF', zm_lt, zm_lt', zm_le, zm_le', zm_sub1, zN_01, Nat.mul_zero, Nat.zero_mul, Nat.mul_one, Nat.sub_zero, Nat.sub_self, Nat.add_sub_cancel, lc, lo, lsk, fX4_lettersFrom_55]
theorem lettersFrom4 {P : Nat → Nat} (hP : Good P) {M : zMM} (hL : Leaf M 0 P) (hS : CSet P M) {fm : Nat} (hfm : fm < 1000) : fX4_lettersFrom 0 (zN fm) M = some (zN (lfT P 0 fm (P 5) + lfT P 1 fm (P 6) + lfT P 2 fm (P 7)), M) := by
  have c0 := (hP.2.1 0 (by omega)).1
  have c1 := (hP.2.1 1 (by omega)).1
  have c2 := (hP.2.1 2 (by omega)).1
  simp only [Nat.reduceAdd] at c0 c1 c2
  have st : ∀ t fu acc, t < 3 → fX4_lettersFrom_5 0 (zN fm) (fu + 1) (zN acc) (zN t) M = fX4_lettersFrom_5 0 (zN fm) fu (zN (acc + lfT P t fm (P (5 + t)))) (zN (t + 1)) M := by
    intro t fu acc ht
    have hc := (hP.2.1 t ht).1
    have := lf14 hP hL hS ht hfm (fX4_lettersFrom_5 0 (zN fm) fu) (P (5 + t)) 0 acc zFU rfl (by omega) (by rw [zFU_eq]; omega)
    rw [fX4_lettersFrom_5, if_neg (show ¬ (3 : Int32) ≤ zN t by show ¬ zN 3 ≤ zN t; rw [zN_leF (by omega)]; exact id)]
    exact this
  unfold fX4_lettersFrom
  have gen : ∀ f, fX4_lettersFrom_5 0 (zN fm) (f + 1 + 1 + 1 + 1) (zN 0) (zN 0) M = some (zN (lfT P 0 fm (P 5) + lfT P 1 fm (P 6) + lfT P 2 fm (P 7)), M) := by
    intro f
    rw [st 0 _ _ (by omega), st _ _ _ (by omega), st _ _ _ (by omega), fX4_lettersFrom_5, if_pos (show (3 : Int32) ≤ zN (0 + 1 + 1 + 1) by decide)]
    simp only [Nat.zero_add, Nat.reduceAdd]
  exact gen 2147483644
theorem call_blank : Cll fX6_blank fX7_blank := by
  refine Cll_of (fun P T R U K hw => ?_)
  have hP := hw.1
  have hp := hP.1
  have hU := hw.2.2.2.1.1
  have hNL := NL_le P
  have hpl := pgs_le hP
  have c0 := (hP.2.1 0 (by omega)).1
  have c1 := (hP.2.1 1 (by omega)).1
  have c2 := (hP.2.1 2 (by omega)).1
  simp only [Nat.reduceAdd] at c0 c1 c2
  by_cases hz : NL P = 0
  · have e0 := pgs_0 hP hz
    have cz : ∀ t, t < 3 → P (5 + t) = 0 := by
      intro t ht
      by_cases q : P (5 + t) = 0
      · exact q
      · have := ln_ok hP ht (show 0 < P (5 + t) by omega)
        omega
    have z5 := cz 0 (by omega)
    have z6 := cz 1 (by omega)
    have z7 := cz 2 (by omega)
    simp only [Nat.reduceAdd] at z5 z6 z7
    refine ⟨zN 0, P, T, [(zN 0).toInt64], U, K, WF_R hw (by simp), fun M hM => ?_, fun M hM => ?_⟩
    · obtain ⟨M1, e1, s1, l1, f1⟩ := cset0 hP (b := 0) (by omega) hM.1
      have pc := pageCount4 hP l1 s1
      rw [e0] at pc
      obtain ⟨M2, e2, r2, y2⟩ := tell1 (zN 0).toInt64 M1
      refine ⟨M2, ?_, CI_q hM hU (cq_trans (cq_set f1) (cq_Y y2)) (Leaf_Y l1 (by omega) y2) r2⟩
      have e2' : fX2_tell 0 M1 = some M2 := e2
      unfold fX6_blank; rw [e1, Option.bind_some, pc, Option.bind_some, if_pos (show ((zN 0, M1) : Int32 × zMM).1 = 0 from rfl), e2']; rfl
    · obtain ⟨M1, e1, s1, n1, f1⟩ := mset0 hP (MNow_w (j := 5) (v := zN 0) hM.1)
      have k14 := s1.2
      rw [e0] at k14
      have m5 := n1 5 (by omega)
      have m6 := n1 6 (by omega)
      have m7 := n1 7 (by omega)
      rw [z5] at m5; rw [z6] at m6; rw [z7] at m7
      have m0 := n1 0 (by omega)
      have m1 := n1 1 (by omega)
      obtain ⟨M2, e2, r2, x2⟩ := tell7 (MR_nil M1) (by simp) (zN 0).toInt64
      refine ⟨M2, ?_, MI_q hM (mq_trans (mq_w (j := 5) (v := zN 0) (by omega)) (mq_trans (mq_MS f1) (mq_trans (mq_w (j := 4) (v := zN 0) (by omega)) (mq_X x2)))) (MNow_X (MNow_w n1) x2) r2⟩
      have g63 : ∀ (t : Nat) (K5 : Int32 → Int32 → Int32 → zMM → Option (Int32 × zMM)) (f : Nat), t < 3 → M1.1 159 (5 + t) = zN 0 → fX7_blank_63 K5 (f + 1) (zN 0) (zN 0) (zN t) (zN 0) M1 = K5 (zN 0) (zN 0) (zN (t + 1)) M1 := by
        intro t K5 f ht hm
        rw [fX7_blank_63]
        simp (disch := omega) only [wr_cj, wr_nj, rng_in, rng_out, zN_lit, zN_add, zN_mul, zN_sub, zN_ltT, zN_ltF, zN_leT, zN_leF, zN_eqT, zN_eqF, zN_lt, zN_le, zN_eq, zN_nat, zN_oobF, Option.bind_some, ↓reduceIte, Nat.one_mul, Nat.zero_add, Nat.add_zero, Nat.reduceAdd, Nat.reduceMul, Nat.reduceSub, Nat.reduceLT, Nat.reduceLeDiff, Nat.reduceEqDiff, reduceCtorEq, true_or, or_true, false_or, or_false, true_and, and_true, false_and, and_false, not_true_eq_false, not_false_eq_true, wr_2, wrL_1, zm_eqF, zm_eqF', zm_lt, zm_lt', zm_le, zm_le', zm_sub1, zN_01, Nat.mul_zero, Nat.zero_mul, Nat.mul_one, Nat.sub_zero, Nat.sub_self, Nat.add_sub_cancel, hm]
      have s55 : ∀ (t fu : Nat), t < 3 → M1.1 159 (5 + t) = zN 0 → fX7_blank_55 (fu + 1) (zN 0) (zN 0) (zN t) M1 = fX7_blank_55 fu (zN 0) (zN 0) (zN (t + 1)) M1 := by
        intro t fu ht hm
        rw [fX7_blank_55, if_neg (show ¬ (3 : Int32) ≤ zN t by show ¬ zN 3 ≤ zN t; rw [zN_leF (by omega)]; exact id)]
        exact g63 t _ 2147483647 ht hm
      have gen : ∀ f, fX7_blank_55 (f + 1 + 1 + 1 + 1) (zN 0) (zN 0) (zN 0) M1 = some (zN 0, M2) := by
        intro f
        rw [s55 0 _ (by omega) m5, s55 _ _ (by omega) m6, s55 _ _ (by omega) m7, fX7_blank_55, if_pos (show (3 : Int32) ≤ zN (0 + 1 + 1 + 1) by decide)]
        simp only [zN_lit]
        rw [e2]; rfl
      unfold fX7_blank fX7_blank_52
      simp only [zN_lit]
      rw [e1, Option.bind_some, k14, if_pos rfl, m0, m1, zN_mul, zN_mul, Nat.zero_mul, Nat.zero_mul]
      exact gen 2147483644
  · have e0 := pgs_pos hP hz
    have hpn : pgs P ≠ 0 := by rw [e0]; exact Nat.succ_ne_zero _
    obtain ⟨fm, hfm⟩ : ∃ fm, fm = (pgs P - 1) * P 1 := ⟨_, rfl⟩
    have hfl : fm ≤ NL P := by
      rw [hfm, e0, Nat.add_sub_cancel]
      have := Nat.div_mul_le_self (NL P - 1) (P 1); omega
    obtain ⟨A, hA⟩ : ∃ A, A = lfT P 0 fm (P 5) + lfT P 1 fm (P 6) + lfT P 2 fm (P 7) := ⟨_, rfl⟩
    obtain ⟨B, hB⟩ : ∃ B, B = lfT P 0 0 (P 5) + lfT P 1 0 (P 6) + lfT P 2 0 (P 7) := ⟨_, rfl⟩
    have hHW : P 1 * P 0 ≤ 40 * 60 := Nat.mul_le_mul (by omega) (by omega)
    refine ⟨zI ((pgs P * (P 1 * P 0) : Nat) - (B : Int)), P, T, [(zI ((P 1 * P 0 : Nat) - (A : Int))).toInt64], U, K, WF_R hw (by simp), fun M hM => ?_, fun M hM => ?_⟩
    · obtain ⟨M1, e1, s1, l1, f1⟩ := cset0 hP (b := 0) (by omega) hM.1
      have pc := pageCount4 hP l1 s1
      have lA := lettersFrom4 hP l1 s1 (fm := fm) (by omega)
      rw [← hA] at lA
      obtain ⟨M2, e2, r2, y2⟩ := tell1 (zI ((P 1 * P 0 : Nat) - (A : Int))).toInt64 M1
      have lB := lettersFrom4 hP (Leaf_Y l1 (by omega) y2) (CSet_Y s1 y2) (fm := 0) (by omega)
      rw [← hB] at lB
      have h0 : M1.1 0 0 = zN (P 0) := l1.1.1
      have h1 : M1.1 0 1 = zN (P 1) := l1.1.2.1
      refine ⟨M2, ?_, CI_q hM hU (cq_trans (cq_set f1) (cq_Y y2)) (Leaf_Y l1 (by omega) y2) r2⟩
      have d1 : zN (P 1 * P 0) - zN A = zI ((P 1 * P 0 : Nat) - (A : Int)) := by unfold zN; rw [zI_sub]
      have d2 : zN (pgs P * (P 1 * P 0)) - zN B = zI ((pgs P * (P 1 * P 0) : Nat) - (B : Int)) := by unfold zN; rw [zI_sub]
      have lB' : fX4_lettersFrom 0 (0) M2 = some (zN B, M2) := lB
      unfold fX6_blank
      rw [e1, Option.bind_some, pc, Option.bind_some, if_neg (show ¬ ((zN (pgs P), M1) : Int32 × zMM).1 = 0 by show ¬ zN (pgs P) = zN 0; rw [zN_eqF (by omega)]; exact id)]
      dsimp only
      have s1' : zN (pgs P) - 1 = zN (pgs P - 1) := by show zN (pgs P) - zN 1 = _; exact zN_sub (by omega)
      rw [h0, h1, s1', zN_mul, ← hfm, lA, Option.bind_some, zN_mul, d1, e2, Option.bind_some, lB', Option.bind_some, zN_mul, d2]
    · obtain ⟨M1, e1, s1, n1, f1⟩ := mset0 hP (MNow_w (j := 5) (v := zN 0) hM.1)
      have k14 := s1.2
      have m0 := n1 0 (by omega)
      have m1 := n1 1 (by omega)
      obtain ⟨M2, e2, r2, x2⟩ := tell7 (MR_nil M1) (by simp) (zI ((P 1 * P 0 : Nat) - (A : Int))).toInt64
      refine ⟨M2, ?_, MI_q hM (mq_trans (mq_w (j := 5) (v := zN 0) (by omega)) (mq_trans (mq_MS f1) (mq_trans (mq_w (j := 4) (v := zN 0) (by omega)) (mq_X x2)))) (MNow_X (MNow_w n1) x2) r2⟩
      have zs : ∀ (x : Int) (y z : Nat), zI (x - (y : Int)) - zN z = zI (x - ((y + z : Nat) : Int)) := by
        intro x y z; unfold zN; rw [zI_sub]; congr 1; omega
      have onp : ∀ t k, t < 3 → k < P (5 + t) → (fm ≤ ln P t k ↔ ln P t k / P 1 = pgs P - 1) := by
        intro t k ht hk
        have hl := (ln_ok hP ht hk).2.2
        have h1 : ln P t k / P 1 ≤ (NL P - 1) / P 1 := Nat.div_le_div_right (by omega)
        constructor
        · intro h
          have : pgs P - 1 ≤ ln P t k / P 1 := by rw [Nat.le_div_iff_mul_le (by omega), ← hfm]; exact h
          omega
        · intro h
          have := Nat.div_mul_le_self (ln P t k) (P 1)
          rw [hfm, ← h]; exact this
      have g63 : ∀ (t : Nat) (K5 : Int32 → Int32 → Int32 → zMM → Option (Int32 × zMM)) (X Y : Int) (x y : Nat), t < 3 → ∀ f k fuel, P (5 + t) - k = f → k ≤ P (5 + t) → f < fuel → fX7_blank_63 K5 fuel (zI (X - ((x + lfT P t 0 k : Nat) : Int))) (zI (Y - ((y + lfT P t fm k : Nat) : Int))) (zN t) (zN k) M1 = K5 (zI (X - ((x + lfT P t 0 (P (5 + t)) : Nat) : Int))) (zI (Y - ((y + lfT P t fm (P (5 + t)) : Nat) : Int))) (zN (t + 1)) M1 := by
        intro t K5 X Y x y ht f
        have hc := (hP.2.1 t ht).1
        have mc := n1 (5 + t) (by omega)
        induction f with
        | zero =>
          intro k fuel hf hk hfu
          obtain ⟨fu, rfl⟩ : ∃ q, fuel = q + 1 := ⟨fuel - 1, by omega⟩
          have e : k = P (5 + t) := by omega
          subst e
          rw [fX7_blank_63]
          simp (disch := omega) only [wr_cj, wr_nj, rng_in, rng_out, zN_lit, zN_add, zN_mul, zN_sub, zN_ltT, zN_ltF, zN_leT, zN_leF, zN_eqT, zN_eqF, zN_lt, zN_le, zN_eq, zN_nat, zN_oobF, Option.bind_some, ↓reduceIte, Nat.one_mul, Nat.zero_add, Nat.add_zero, Nat.reduceAdd, Nat.reduceMul, Nat.reduceSub, Nat.reduceLT, Nat.reduceLeDiff, Nat.reduceEqDiff, reduceCtorEq, true_or, or_true, false_or, or_false, true_and, and_true, false_and, and_false, not_true_eq_false, not_false_eq_true, wr_2, wrL_1, zm_eqF, zm_eqF', zm_lt, zm_lt', zm_le, zm_le', zm_sub1, zN_01, Nat.mul_zero, Nat.zero_mul, Nat.mul_one, Nat.sub_zero, Nat.sub_self, Nat.add_sub_cancel, mc]
        | succ f ih =>
          intro k fuel hf hk hfu
          obtain ⟨fu, rfl⟩ : ∃ q, fuel = q + 1 := ⟨fuel - 1, by omega⟩
          have hk' : k < P (5 + t) := by omega
          have sz := size7 (M := M1) ht (k := k) (by omega)
          rw [n1 _ (by omega)] at sz
          have sz' : fX7_size (zN t) (zN k) M1 = some (zN (pSz P t k), M1) := sz
          obtain ⟨p, hp1, -, -, p4, p5⟩ := partOf7 hP s1 ht hk'
          have tl := told7 (p := p) (j := 1) (M := M1) (by omega)
          rw [p5.2.1] at tl
          have hll := ln_lt hP ht hk'
          have hdl : ln P t k / P 1 ≤ ln P t k := Nat.div_le_self _ _
          have iff := onp t k ht hk'
          rw [← ih (k + 1) fu (by omega) (by omega) (by omega), fX7_blank_63, lfT, lfT, if_pos (Nat.zero_le _), ← Nat.add_assoc x]
          have a1 := zs X (x + lfT P t 0 k) (pSz P t k)
          by_cases q : ln P t k / P 1 = pgs P - 1
          · rw [if_pos (iff.mpr q), ← Nat.add_assoc y]
            have a2 := zs Y (y + lfT P t fm k) (pSz P t k)
            rw [q] at tl
            simp (disch := omega) only [wr_cj, wr_nj, rng_in, rng_out, zN_lit, zN_add, zN_mul, zN_sub, zN_ltT, zN_ltF, zN_leT, zN_leF, zN_eqT, zN_eqF, zN_lt, zN_le, zN_eq, zN_nat, zN_oobF, Option.bind_some, ↓reduceIte, Nat.one_mul, Nat.zero_add, Nat.add_zero, Nat.reduceAdd, Nat.reduceMul, Nat.reduceSub, Nat.reduceLT, Nat.reduceLeDiff, Nat.reduceEqDiff, reduceCtorEq, true_or, or_true, false_or, or_false, true_and, and_true, false_and, and_false, not_true_eq_false, not_false_eq_true, wr_2, wrL_1, zm_eqF, zm_eqF', zm_lt, zm_lt', zm_le, zm_le', zm_sub1, zN_01, Nat.mul_zero, Nat.zero_mul, Nat.mul_one, Nat.sub_zero, Nat.sub_self, Nat.add_sub_cancel, mc, sz', p4, tl, k14, fX7_blank_124, a1, a2]
          · rw [if_neg (fun h => q (iff.mp h)), Nat.add_zero]
            have a2 := zs Y (y + lfT P t fm k) 0
            rw [Nat.add_zero] at a2
            simp (disch := omega) only [wr_cj, wr_nj, rng_in, rng_out, zN_lit, zN_add, zN_mul, zN_sub, zN_ltT, zN_ltF, zN_leT, zN_leF, zN_eqT, zN_eqF, zN_lt, zN_le, zN_eq, zN_nat, zN_oobF, Option.bind_some, ↓reduceIte, Nat.one_mul, Nat.zero_add, Nat.add_zero, Nat.reduceAdd, Nat.reduceMul, Nat.reduceSub, Nat.reduceLT, Nat.reduceLeDiff, Nat.reduceEqDiff, reduceCtorEq, true_or, or_true, false_or, or_false, true_and, and_true, false_and, and_false, not_true_eq_false, not_false_eq_true, wr_2, wrL_1, zm_eqF, zm_eqF', zm_lt, zm_lt', zm_le, zm_le', zm_sub1, zN_01, Nat.mul_zero, Nat.zero_mul, Nat.mul_one, Nat.sub_zero, Nat.sub_self, Nat.add_sub_cancel, mc, sz', p4, tl, k14, fX7_blank_124, a1, a2]
      have s55 : ∀ (t fu : Nat) (X Y : Int) (x y : Nat), t < 3 → fX7_blank_55 (fu + 1) (zI (X - (x : Int))) (zI (Y - (y : Int))) (zN t) M1 = fX7_blank_55 fu (zI (X - ((x + lfT P t 0 (P (5 + t)) : Nat) : Int))) (zI (Y - ((y + lfT P t fm (P (5 + t)) : Nat) : Int))) (zN (t + 1)) M1 := by
        intro t fu X Y x y ht
        have hc := (hP.2.1 t ht).1
        have := g63 t (fX7_blank_55 fu) X Y x y ht (P (5 + t)) 0 zFU rfl (by omega) (by rw [zFU_eq]; omega)
        rw [fX7_blank_55, if_neg (show ¬ (3 : Int32) ≤ zN t by show ¬ zN 3 ≤ zN t; rw [zN_leF (by omega)]; exact id)]
        exact this
      have gen : ∀ f, fX7_blank_55 (f + 1 + 1 + 1 + 1) (zI ((pgs P * (P 1 * P 0) : Nat) - ((0 : Nat) : Int))) (zI ((P 1 * P 0 : Nat) - ((0 : Nat) : Int))) (zN 0) M1 = some (zI ((pgs P * (P 1 * P 0) : Nat) - (B : Int)), M2) := by
        intro f
        rw [s55 0 _ _ _ _ _ (by omega), s55 _ _ _ _ _ _ (by omega), s55 _ _ _ _ _ _ (by omega), fX7_blank_55, if_pos (show (3 : Int32) ≤ zN (0 + 1 + 1 + 1) by decide)]
        simp only [Nat.zero_add, Nat.reduceAdd, zN_lit]
        rw [← hA, ← hB, e2]; rfl
      unfold fX7_blank fX7_blank_52
      simp only [zN_lit]
      rw [e1, Option.bind_some, k14, if_neg (show ¬ zN (pgs P) = zN 0 by rw [zN_eqF (by omega)]; exact id), m0, m1, zN_mul, zN_mul, zN_mul]
      have z0 : ∀ x : Nat, zN x = zI ((x : Int) - ((0 : Nat) : Int)) := fun x => by unfold zN; congr 1
      rw [z0 (P 1 * P 0), Nat.mul_assoc, z0 (pgs P * (P 1 * P 0))]
      exact gen 2147483644
/-! what is at a column -/
def hit (P : Nat → Nat) (t k c : Nat) : Bool := decide (cof P t k ≤ c ∧ c < cof P t k + pSz P t k)
def atI (P : Nat → Nat) (m t c : Nat) : Nat → Nat → Option Nat
  | 0, _ => none
  | f + 1, i => if hit P t (dn P m t + i) c = true then some (dn P m t + i) else atI P m t c f (i + 1)
theorem zsub_neg {a b : Nat} (h : a < b ∧ b < 2147483648) : zN a - zN b < 0 := by
  unfold zN; rw [zI_sub, show (0 : Int32) = zI 0 from rfl, zI_lt ⟨by omega, by omega⟩ ⟨by decide, by decide⟩]; omega
theorem cof_b {P : Nat → Nat} (hP : Good P) {t k : Nat} (ht : t < 3) (hk : k < P (5 + t)) : cof P t k + pSz P t k ≤ 60 := by
  have h := ln_ok hP ht hk
  have hw := ln_w hP ht hk
  have := cofM_le hP (m := ln P t k) (j := k - dn P (ln P t k) t) ht hw (by unfold wrd; omega)
  rw [show dn P (ln P t k) t + (k - dn P (ln P t k) t) = k by omega] at this
  have hp := hP.1
  unfold cof; omega
/-- what both say of a text's words in a line -/
def atK (P : Nat → Nat) (c t : Nat) (r : Option Nat) (N : zMM → Option (Int32 × zMM)) (F : Int64 → Int32 → zMM → Option (Int32 × zMM)) (M : zMM) : Option (Int32 × zMM) := match r with
  | none => N M
  | some k => F (zN (c - cof P t k)).toInt64 (zN (100 * t + k)) M
theorem at55 {P : Nat → Nat} (hP : Good P) {M : zMM} (hL : Leaf M 0 P) (hS : CSet P M) {t m c : Nat} (ht : t < 3) (hm : m < 300) (hc : c < 60) (a1 a2 : Int32) (K33 : Int32 → Int32 → zMM → Option (Int32 × zMM)) : ∀ f i fuel, tk P m t - i = f → i ≤ tk P m t → f < fuel → fX6_at_55 K33 a1 a2 (zN c) fuel (zN m) (zN t) (zN (tk P m t)) (zN i) M = atK P c t (atI P m t c f i) (K33 (zN m) (zN (t + 1))) (fun v r M => (fX2_tell v M).bind fun q8 => some (r, q8)) M := by
  have tl := tk_le hP m ht
  have hc70 := (hP.2.1 t ht).1
  have hNL := NL_le P
  intro f
  induction f with
  | zero =>
    intro i fuel hf hi hfu
    obtain ⟨fu, rfl⟩ : ∃ q, fuel = q + 1 := ⟨fuel - 1, by omega⟩
    rw [fX6_at_55, atI, atK]
    simp (disch := omega) only [wr_cj, wr_nj, rng_in, rng_out, zN_lit, zN_add, zN_mul, zN_sub, zN_ltT, zN_ltF, zN_leT, zN_leF, zN_eqT, zN_eqF, zN_lt, zN_le, zN_eq, zN_nat, zN_oobF, Option.bind_some, ↓reduceIte, Nat.one_mul, Nat.zero_add, Nat.add_zero, Nat.reduceAdd, Nat.reduceMul, Nat.reduceSub, Nat.reduceLT, Nat.reduceLeDiff, Nat.reduceEqDiff, reduceCtorEq, true_or, or_true, false_or, or_false, true_and, and_true, false_and, and_false, not_true_eq_false, not_false_eq_true, wr_2, wrL_1, zm_eqF, zm_eqF', zm_lt, zm_lt', zm_le, zm_le', zm_sub1, zN_01, Nat.mul_zero, Nat.zero_mul, Nat.mul_one, Nat.sub_zero, Nat.sub_self, Nat.add_sub_cancel]
  | succ f ih =>
    intro i fuel hf hi hfu
    obtain ⟨fu, rfl⟩ : ∃ q, fuel = q + 1 := ⟨fuel - 1, by omega⟩
    have tk0 := tk_0 hP (m := m) ht
    have there : m < NL P ∧ wid P m t ≠ 0 := by
      by_cases q : m < NL P ∧ wid P m t ≠ 0
      · exact q
      · have := tk0.2 q; omega
    have g1 := ((hS.1 t ht).2.2.1 m there.1 there.2).1
    have hk : dn P m t + i < P (5 + t) := by omega
    have co := col4 hP (b := 0) (by omega) hL hS ht hk
    have cb := cof_b hP ht hk
    have ls : M.1 (4 + t) (dn P m t + i) = zN (pSz P t (dn P m t + i)) := by have := hL.2.2.2.1 t ht _ hk; rw [Nat.zero_add] at this; exact this
    have e := ih (i + 1) fu (by omega) (by omega) (by omega)
    rw [fX6_at_55, atI]
    by_cases q1 : cof P t (dn P m t + i) ≤ c
    · by_cases q2 : c < cof P t (dn P m t + i) + pSz P t (dn P m t + i)
      · have hh : hit P t (dn P m t + i) c = true := by unfold hit; rw [decide_eq_true_eq]; exact ⟨q1, q2⟩
        rw [if_pos hh, atK]
        simp (disch := omega) only [wr_cj, wr_nj, rng_in, rng_out, zN_lit, zN_add, zN_mul, zN_sub, zN_ltT, zN_ltF, zN_leT, zN_leF, zN_eqT, zN_eqF, zN_lt, zN_le, zN_eq, zN_nat, zN_oobF, Option.bind_some, ↓reduceIte, Nat.one_mul, Nat.zero_add, Nat.add_zero, Nat.reduceAdd, Nat.reduceMul, Nat.reduceSub, Nat.reduceLT, Nat.reduceLeDiff, Nat.reduceEqDiff, reduceCtorEq, true_or, or_true, false_or, or_false, true_and, and_true, false_and, and_false, not_true_eq_false, not_false_eq_true, wr_2, wrL_1, zm_eqF, zm_eqF', zm_lt, zm_lt', zm_le, zm_le', zm_sub1, zN_01, Nat.mul_zero, Nat.zero_mul, Nat.mul_one, Nat.sub_zero, Nat.sub_self, Nat.add_sub_cancel, g1, co, ls]
      · have hh : ¬ hit P t (dn P m t + i) c = true := by unfold hit; rw [decide_eq_true_eq]; omega
        rw [if_neg hh, ← e]
        simp (disch := omega) only [wr_cj, wr_nj, rng_in, rng_out, zN_lit, zN_add, zN_mul, zN_sub, zN_ltT, zN_ltF, zN_leT, zN_leF, zN_eqT, zN_eqF, zN_lt, zN_le, zN_eq, zN_nat, zN_oobF, Option.bind_some, ↓reduceIte, Nat.one_mul, Nat.zero_add, Nat.add_zero, Nat.reduceAdd, Nat.reduceMul, Nat.reduceSub, Nat.reduceLT, Nat.reduceLeDiff, Nat.reduceEqDiff, reduceCtorEq, true_or, or_true, false_or, or_false, true_and, and_true, false_and, and_false, not_true_eq_false, not_false_eq_true, wr_2, wrL_1, zm_eqF, zm_eqF', zm_lt, zm_lt', zm_le, zm_le', zm_sub1, zN_01, Nat.mul_zero, Nat.zero_mul, Nat.mul_one, Nat.sub_zero, Nat.sub_self, Nat.add_sub_cancel, g1, co, ls, fX6_at_141]
    · have hh : ¬ hit P t (dn P m t + i) c = true := by unfold hit; rw [decide_eq_true_eq]; omega
      have ng : zN c - zN (cof P t (dn P m t + i)) < 0 := zsub_neg (by omega)
      rw [if_neg hh, ← e]
      have ng' : (zN c - zN (cof P t (dn P m t + i)) < zN 0) = True := by
        show (zN c - zN (cof P t (dn P m t + i)) < 0) = True
        simp [ng]
      simp (disch := omega) only [wr_cj, wr_nj, rng_in, rng_out, zN_lit, zN_add, zN_mul, zN_sub, zN_ltT, zN_ltF, zN_leT, zN_leF, zN_eqT, zN_eqF, zN_lt, zN_le, zN_eq, zN_nat, zN_oobF, Option.bind_some, ↓reduceIte, Nat.one_mul, Nat.zero_add, Nat.add_zero, Nat.reduceAdd, Nat.reduceMul, Nat.reduceSub, Nat.reduceLT, Nat.reduceLeDiff, Nat.reduceEqDiff, reduceCtorEq, true_or, or_true, false_or, or_false, true_and, and_true, false_and, and_false, not_true_eq_false, not_false_eq_true, wr_2, wrL_1, zm_eqF, zm_eqF', zm_lt, zm_lt', zm_le, zm_le', zm_sub1, zN_01, Nat.mul_zero, Nat.zero_mul, Nat.mul_one, Nat.sub_zero, Nat.sub_self, Nat.add_sub_cancel, g1, co, ls, fX6_at_141, ng']
theorem at58 {P : Nat → Nat} (hP : Good P) {M : zMM} (hM : MNow M P) (hS : MSet P M) {t m c p : Nat} (ht : t < 3) (hc : c < 60) (hp : p < 210) (hE : Ent P M p m t) (hth : m < NL P) (a1 a2 : Int32) (K39 : Int32 → zMM → Option (Int32 × zMM)) : ∀ f i fuel, tk P m t - i = f → i ≤ tk P m t → f < fuel → fX7_at_58 K39 a1 a2 (zN c) fuel (zN t) (zN p) (zN i) M = atK P c t (atI P m t c f i) (K39 (zN (t + 1))) (fun v r M => (fX7_tell v (wr M 158 4 (zN 0))).bind fun q8 => some (r, q8)) M := by
  have tl := tk_le hP m ht
  have hc70 := (hP.2.1 t ht).1
  have etk : tk P m t = wrd P m t := by unfold tk; rw [if_pos hth]
  have t3 := told7 (p := p) (j := 3) (M := M) (by omega)
  have t4 := told7 (p := p) (j := 4) (M := M) (by omega)
  rw [hE.2.2.2.1] at t3
  rw [hE.2.2.2.2.1] at t4
  have e4 : zN (dn P (m + 1) t - dn P m t) = zN (tk P m t) := by rw [etk]; rfl
  rw [e4] at t4
  intro f
  induction f with
  | zero =>
    intro i fuel hf hi hfu
    obtain ⟨fu, rfl⟩ : ∃ q, fuel = q + 1 := ⟨fuel - 1, by omega⟩
    rw [fX7_at_58, atI, atK]
    simp (disch := omega) only [wr_cj, wr_nj, rng_in, rng_out, zN_lit, zN_add, zN_mul, zN_sub, zN_ltT, zN_ltF, zN_leT, zN_leF, zN_eqT, zN_eqF, zN_lt, zN_le, zN_eq, zN_nat, zN_oobF, Option.bind_some, ↓reduceIte, Nat.one_mul, Nat.zero_add, Nat.add_zero, Nat.reduceAdd, Nat.reduceMul, Nat.reduceSub, Nat.reduceLT, Nat.reduceLeDiff, Nat.reduceEqDiff, reduceCtorEq, true_or, or_true, false_or, or_false, true_and, and_true, false_and, and_false, not_true_eq_false, not_false_eq_true, wr_2, wrL_1, zm_eqF, zm_eqF', zm_lt, zm_lt', zm_le, zm_le', zm_sub1, zN_01, Nat.mul_zero, Nat.zero_mul, Nat.mul_one, Nat.sub_zero, Nat.sub_self, Nat.add_sub_cancel, t4, fX7_at_149]
  | succ f ih =>
    intro i fuel hf hi hfu
    obtain ⟨fu, rfl⟩ : ∃ q, fuel = q + 1 := ⟨fuel - 1, by omega⟩
    have hk : dn P m t + i < P (5 + t) := by omega
    have co := col7 hP hM hS ht hk
    have cb := cof_b hP ht hk
    have hsz := (hP.2.1 t ht).2 _ hk
    have sz := size7 (M := M) ht (k := dn P m t + i) (by omega)
    rw [hM _ (by omega)] at sz
    have sz' : fX7_size (zN t) (zN (dn P m t + i)) M = some (zN (pSz P t (dn P m t + i)), M) := sz
    have e := ih (i + 1) fu (by omega) (by omega) (by omega)
    rw [fX7_at_58, atI]
    by_cases q1 : cof P t (dn P m t + i) ≤ c
    · by_cases q2 : c < cof P t (dn P m t + i) + pSz P t (dn P m t + i)
      · have hh : hit P t (dn P m t + i) c = true := by unfold hit; rw [decide_eq_true_eq]; exact ⟨q1, q2⟩
        have ti := in7T (a := c - cof P t (dn P m t + i)) (lo := 0) (hi := pSz P t (dn P m t + i) - 1) (by omega) M
        rw [if_pos hh, atK]
        simp (disch := omega) only [wr_cj, wr_nj, rng_in, rng_out, zN_lit, zN_add, zN_mul, zN_sub, zN_ltT, zN_ltF, zN_leT, zN_leF, zN_eqT, zN_eqF, zN_lt, zN_le, zN_eq, zN_nat, zN_oobF, Option.bind_some, ↓reduceIte, Nat.one_mul, Nat.zero_add, Nat.add_zero, Nat.reduceAdd, Nat.reduceMul, Nat.reduceSub, Nat.reduceLT, Nat.reduceLeDiff, Nat.reduceEqDiff, reduceCtorEq, true_or, or_true, false_or, or_false, true_and, and_true, false_and, and_false, not_true_eq_false, not_false_eq_true, wr_2, wrL_1, zm_eqF, zm_eqF', zm_lt, zm_lt', zm_le, zm_le', zm_sub1, zN_01, Nat.mul_zero, Nat.zero_mul, Nat.mul_one, Nat.sub_zero, Nat.sub_self, Nat.add_sub_cancel, t3, t4, co, sz', ti]
      · have hh : ¬ hit P t (dn P m t + i) c = true := by unfold hit; rw [decide_eq_true_eq]; omega
        have ti := in7F (a := c - cof P t (dn P m t + i)) (lo := 0) (hi := pSz P t (dn P m t + i) - 1) (by omega) M
        rw [if_neg hh, ← e]
        simp (disch := omega) only [wr_cj, wr_nj, rng_in, rng_out, zN_lit, zN_add, zN_mul, zN_sub, zN_ltT, zN_ltF, zN_leT, zN_leF, zN_eqT, zN_eqF, zN_lt, zN_le, zN_eq, zN_nat, zN_oobF, Option.bind_some, ↓reduceIte, Nat.one_mul, Nat.zero_add, Nat.add_zero, Nat.reduceAdd, Nat.reduceMul, Nat.reduceSub, Nat.reduceLT, Nat.reduceLeDiff, Nat.reduceEqDiff, reduceCtorEq, true_or, or_true, false_or, or_false, true_and, and_true, false_and, and_false, not_true_eq_false, not_false_eq_true, wr_2, wrL_1, zm_eqF, zm_eqF', zm_lt, zm_lt', zm_le, zm_le', zm_sub1, zN_01, Nat.mul_zero, Nat.zero_mul, Nat.mul_one, Nat.sub_zero, Nat.sub_self, Nat.add_sub_cancel, t3, t4, co, sz', ti]
    · have hh : ¬ hit P t (dn P m t + i) c = true := by unfold hit; rw [decide_eq_true_eq]; omega
      have ng : zN c - zN (cof P t (dn P m t + i)) < 0 := zsub_neg (by omega)
      have ti := in7g ng (lo := 0) (by omega) (zN (pSz P t (dn P m t + i) - 1)) M
      rw [if_neg hh, ← e]
      simp (disch := omega) only [wr_cj, wr_nj, rng_in, rng_out, zN_lit, zN_add, zN_mul, zN_sub, zN_ltT, zN_ltF, zN_leT, zN_leF, zN_eqT, zN_eqF, zN_lt, zN_le, zN_eq, zN_nat, zN_oobF, Option.bind_some, ↓reduceIte, Nat.one_mul, Nat.zero_add, Nat.add_zero, Nat.reduceAdd, Nat.reduceMul, Nat.reduceSub, Nat.reduceLT, Nat.reduceLeDiff, Nat.reduceEqDiff, reduceCtorEq, true_or, or_true, false_or, or_false, true_and, and_true, false_and, and_false, not_true_eq_false, not_false_eq_true, wr_2, wrL_1, zm_eqF, zm_eqF', zm_lt, zm_lt', zm_le, zm_le', zm_sub1, zN_01, Nat.mul_zero, Nat.zero_mul, Nat.mul_one, Nat.sub_zero, Nat.sub_self, Nat.add_sub_cancel, t3, t4, co, sz', ti]
theorem at_c {P : Nat → Nat} (hP : Good P) {M : zMM} (hL : Leaf M 0 P) (hS : CSet P M) {m c : Nat} (hm : m < 300) (hc : c < 60) (a1 a2 : Int32) : fX6_at_33 a1 a2 (zN c) zFU (zN m) (zN 0) M = atK P c 0 (atI P m 0 c (tk P m 0) 0) (atK P c 1 (atI P m 1 c (tk P m 1) 0) (atK P c 2 (atI P m 2 c (tk P m 2) 0) (fun M => some (-zN 2, M)) (fun v r M => (fX2_tell v M).bind fun q8 => some (r, q8))) (fun v r M => (fX2_tell v M).bind fun q8 => some (r, q8))) (fun v r M => (fX2_tell v M).bind fun q8 => some (r, q8)) M := by
  have st : ∀ t fu, t < 3 → fX6_at_33 a1 a2 (zN c) (fu + 1) (zN m) (zN t) M = atK P c t (atI P m t c (tk P m t) 0) (fX6_at_33 a1 a2 (zN c) fu (zN m) (zN (t + 1))) (fun v r M => (fX2_tell v M).bind fun q8 => some (r, q8)) M := by
    intro t fu ht
    have ta := takenAt4 hS (m := m) ht (by omega)
    have tl := tk_le hP m ht
    have := at55 hP hL hS ht hm hc a1 a2 (fX6_at_33 a1 a2 (zN c) fu) (tk P m t) 0 zFU (by omega) (by omega) (by rw [zFU_eq]; omega)
    rw [fX6_at_33, if_neg (show ¬ (3 : Int32) ≤ zN t by show ¬ zN 3 ≤ zN t; rw [zN_leF (by omega)]; exact id), ta, Option.bind_some]
    exact this
  have gen : ∀ f, fX6_at_33 a1 a2 (zN c) (f + 1 + 1 + 1 + 1) (zN m) (zN 0) M = atK P c 0 (atI P m 0 c (tk P m 0) 0) (atK P c 1 (atI P m 1 c (tk P m 1) 0) (atK P c 2 (atI P m 2 c (tk P m 2) 0) (fun M => some (-zN 2, M)) (fun v r M => (fX2_tell v M).bind fun q8 => some (r, q8))) (fun v r M => (fX2_tell v M).bind fun q8 => some (r, q8))) (fun v r M => (fX2_tell v M).bind fun q8 => some (r, q8)) M := by
    intro f
    rw [st 0 _ (by omega)]
    cases atI P m 0 c (tk P m 0) 0 with
    | some k => rfl
    | none =>
      show fX6_at_33 a1 a2 (zN c) (f + 1 + 1 + 1) (zN m) (zN 1) M = _
      rw [st 1 _ (by omega)]
      cases atI P m 1 c (tk P m 1) 0 with
      | some k => rfl
      | none =>
        show fX6_at_33 a1 a2 (zN c) (f + 1 + 1) (zN m) (zN 2) M = _
        rw [st 2 _ (by omega)]
        cases atI P m 2 c (tk P m 2) 0 with
        | some k => rfl
        | none =>
          show fX6_at_33 a1 a2 (zN c) (f + 1) (zN m) (zN 3) M = _
          rw [fX6_at_33]
          exact if_pos (by decide)
  exact gen 2147483644
theorem at_m {P : Nat → Nat} (hP : Good P) {M : zMM} (hM : MNow M P) (hS : MSet P M) {pg l m c : Nat} (hpg : pg < pgs P) (hl : l < P 1) (hm : m = pg * P 1 + l) (hc : c < 60) : fX7_at_39 (zN pg) (zN l) (zN c) zFU (zN 0) M = atK P c 0 (atI P m 0 c (tk P m 0) 0) (atK P c 1 (atI P m 1 c (tk P m 1) 0) (atK P c 2 (atI P m 2 c (tk P m 2) 0) (fun M => some (-zN 2, M)) (fun v r M => (fX7_tell v (wr M 158 4 (zN 0))).bind fun q8 => some (r, q8))) (fun v r M => (fX7_tell v (wr M 158 4 (zN 0))).bind fun q8 => some (r, q8))) (fun v r M => (fX7_tell v (wr M 158 4 (zN 0))).bind fun q8 => some (r, q8)) M := by
  have st : ∀ t fu, t < 3 → fX7_at_39 (zN pg) (zN l) (zN c) (fu + 1) (zN t) M = atK P c t (atI P m t c (tk P m t) 0) (fX7_at_39 (zN pg) (zN l) (zN c) fu (zN (t + 1))) (fun v r M => (fX7_tell v (wr M 158 4 (zN 0))).bind fun q8 => some (r, q8)) M := by
    intro t fu ht
    have pA := partAt7 hP hM hS ht hpg hl
    rw [← hm] at pA
    have tl := tk_le hP m ht
    have t1 : zN t + 1 = zN (t + 1) := zN_add t 1
    rw [fX7_at_39, if_neg (show ¬ (3 : Int32) ≤ zN t by show ¬ zN 3 ≤ zN t; rw [zN_leF (by omega)]; exact id)]
    by_cases there : m < NL P ∧ wid P m t ≠ 0
    · obtain ⟨p, hp, hE, e⟩ := pA.1 there
      rw [e, Option.bind_some]
      exact at58 hP hM hS ht hc hp hE there.1 (zN pg) (zN l) (fX7_at_39 (zN pg) (zN l) (zN c) fu) (tk P m t) 0 zFU (by omega) (by omega) (by rw [zFU_eq]; omega)
    · have z := (tk_0 hP (m := m) ht).2 there
      rw [pA.2 there, Option.bind_some, z]
      have g : ∀ f, fX7_at_58 (fX7_at_39 (zN pg) (zN l) (zN c) fu) (zN pg) (zN l) (zN c) (f + 1) (zN t) (-zN 1) (zN 0) M = fX7_at_39 (zN pg) (zN l) (zN c) fu (zN (t + 1)) M := by
        intro f
        rw [fX7_at_58, if_pos (show -zN 1 = -1 from rfl)]
        unfold fX7_at_149
        rw [t1]
      exact g 2147483647
  have gen : ∀ f, fX7_at_39 (zN pg) (zN l) (zN c) (f + 1 + 1 + 1 + 1) (zN 0) M = atK P c 0 (atI P m 0 c (tk P m 0) 0) (atK P c 1 (atI P m 1 c (tk P m 1) 0) (atK P c 2 (atI P m 2 c (tk P m 2) 0) (fun M => some (-zN 2, M)) (fun v r M => (fX7_tell v (wr M 158 4 (zN 0))).bind fun q8 => some (r, q8))) (fun v r M => (fX7_tell v (wr M 158 4 (zN 0))).bind fun q8 => some (r, q8))) (fun v r M => (fX7_tell v (wr M 158 4 (zN 0))).bind fun q8 => some (r, q8)) M := by
    intro f
    rw [st 0 _ (by omega)]
    cases atI P m 0 c (tk P m 0) 0 with
    | some k => rfl
    | none =>
      show fX7_at_39 (zN pg) (zN l) (zN c) (f + 1 + 1 + 1) (zN 1) M = _
      rw [st 1 _ (by omega)]
      cases atI P m 1 c (tk P m 1) 0 with
      | some k => rfl
      | none =>
        show fX7_at_39 (zN pg) (zN l) (zN c) (f + 1 + 1) (zN 2) M = _
        rw [st 2 _ (by omega)]
        cases atI P m 2 c (tk P m 2) 0 with
        | some k => rfl
        | none =>
          show fX7_at_39 (zN pg) (zN l) (zN c) (f + 1) (zN 3) M = _
          rw [fX7_at_39]
          exact if_pos (by decide)
  exact gen 2147483644
def atR (P : Nat → Nat) (m c : Nat) : Option (Int64 × Int32) := match atI P m 0 c (tk P m 0) 0 with
  | some k => some ((zN (c - cof P 0 k)).toInt64, zN (100 * 0 + k))
  | none => match atI P m 1 c (tk P m 1) 0 with
    | some k => some ((zN (c - cof P 1 k)).toInt64, zN (100 * 1 + k))
    | none => match atI P m 2 c (tk P m 2) 0 with
      | some k => some ((zN (c - cof P 2 k)).toInt64, zN (100 * 2 + k))
      | none => none
theorem atR_K {P : Nat → Nat} {m c : Nat} (F : Int64 → Int32 → zMM → Option (Int32 × zMM)) (M : zMM) : (∀ q, atR P m c = some q → atK P c 0 (atI P m 0 c (tk P m 0) 0) (atK P c 1 (atI P m 1 c (tk P m 1) 0) (atK P c 2 (atI P m 2 c (tk P m 2) 0) (fun M => some (-zN 2, M)) F) F) F M = F q.1 q.2 M) ∧ (atR P m c = none → atK P c 0 (atI P m 0 c (tk P m 0) 0) (atK P c 1 (atI P m 1 c (tk P m 1) 0) (atK P c 2 (atI P m 2 c (tk P m 2) 0) (fun M => some (-zN 2, M)) F) F) F M = some (-zN 2, M)) := by
  unfold atR
  cases atI P m 0 c (tk P m 0) 0 with
  | some k => exact ⟨fun q h => by cases h; rfl, fun h => by cases h⟩
  | none =>
    cases atI P m 1 c (tk P m 1) 0 with
    | some k => exact ⟨fun q h => by cases h; rfl, fun h => by cases h⟩
    | none =>
      cases atI P m 2 c (tk P m 2) 0 with
      | some k => exact ⟨fun q h => by cases h; rfl, fun h => by cases h⟩
      | none => exact ⟨fun q h => (by cases h), fun _ => rfl⟩
theorem call_at (x y z : Int32) : Cll (fX6_at x y z) (fX7_at x y z) := by
  refine Cll_of (fun P T R U K hw => ?_)
  have hP := hw.1
  have hp := hP.1
  have hU := hw.2.2.2.1.1
  have no : ∀ r, (∀ M M1, fX4_set 0 M = some M1 → Leaf M1 0 P → CSet P M1 → fX6_at x y z M = some (r, M1)) → (∀ M M1, fX7_set (wr M 158 5 (zN 0)) = some M1 → MNow M1 P → MSet P M1 → fX7_at x y z M = some (r, M1)) → ∃ r P' T' R' U' K', WF P' T' R' U' K' ∧ CD (fX6_at x y z) P T R U K r P' T' R' U' K' ∧ MD (fX7_at x y z) P T R U K r P' T' R' U' K' := by
    intro r hC hM
    refine ⟨r, P, T, R, U, K, hw, fun M hM0 => ?_, fun M hM0 => ?_⟩
    · obtain ⟨M1, e1, s1, l1, f1⟩ := cset0 hP (b := 0) (by omega) hM0.1
      exact ⟨M1, hC M M1 e1 l1 s1, CI_q hM0 hU (cq_set f1) l1 (CR_q hM0.2.2.1 f1 (fun j a => by omega))⟩
    · obtain ⟨M1, e1, s1, n1, f1⟩ := mset0 hP (MNow_w (j := 5) (v := zN 0) hM0.1)
      exact ⟨M1, hM M M1 e1 n1 s1, MI_sc (MI_th hM0) f1 (fun c j a => by unfold MS at a; unfold MSc; omega), frM_trans (frM_th M _) (frM_fr f1 (fun c j a => by unfold MS at a; omega))⟩
  rcases place_case hP x y with ⟨pg, l, hpg, hl, rfl, rfl, hC, hM⟩ | ⟨hC, hM⟩
  · have hb := pg_b hP hpg hl
    obtain ⟨m, hm⟩ : ∃ m, m = pg * P 1 + l := ⟨_, rfl⟩
    rw [← hm] at hb hC
    rcases zcaseR z 0 (P 0 - 1) with ⟨c, -, c2, rfl⟩ | hz | ⟨c, hcl, rfl, hcn⟩
    · have headC : ∀ M M1, fX4_set 0 M = some M1 → Leaf M1 0 P → CSet P M1 → fX6_at (zN pg) (zN l) (zN c) M = fX6_at_33 (zN pg) (zN l) (zN c) zFU (zN m) (zN 0) M1 := by
        intro M M1 e1 l1 s1
        have pc := hC M M1 e1 l1 s1
        have h0 : M1.1 0 0 = zN (P 0) := l1.1.1
        unfold fX6_at; simp (disch := omega) only [wr_cj, wr_nj, rng_in, rng_out, zN_lit, zN_add, zN_mul, zN_sub, zN_ltT, zN_ltF, zN_leT, zN_leF, zN_eqT, zN_eqF, zN_lt, zN_le, zN_eq, zN_nat, zN_oobF, Option.bind_some, ↓reduceIte, Nat.one_mul, Nat.zero_add, Nat.add_zero, Nat.reduceAdd, Nat.reduceMul, Nat.reduceSub, Nat.reduceLT, Nat.reduceLeDiff, Nat.reduceEqDiff, reduceCtorEq, true_or, or_true, false_or, or_false, true_and, and_true, false_and, and_false, not_true_eq_false, not_false_eq_true, wr_2, wrL_1, zm_eqF, zm_eqF', zm_lt, zm_lt', zm_le, zm_le', zm_sub1, zN_01, Nat.mul_zero, Nat.zero_mul, Nat.mul_one, Nat.sub_zero, Nat.sub_self, Nat.add_sub_cancel, pc, h0]
      have headM : ∀ M M1, fX7_set (wr M 158 5 (zN 0)) = some M1 → MNow M1 P → MSet P M1 → fX7_at (zN pg) (zN l) (zN c) M = fX7_at_39 (zN pg) (zN l) (zN c) zFU (zN 0) M1 := by
        intro M M1 e1 n1 s1
        have il := hM M1 n1 s1
        have m0 := n1 0 (by omega)
        have t := in7T (a := c) (lo := 0) (hi := P 0 - 1) (by omega) M1
        unfold fX7_at; simp (disch := omega) only [wr_cj, wr_nj, rng_in, rng_out, zN_lit, zN_add, zN_mul, zN_sub, zN_ltT, zN_ltF, zN_leT, zN_leF, zN_eqT, zN_eqF, zN_lt, zN_le, zN_eq, zN_nat, zN_oobF, Option.bind_some, ↓reduceIte, Nat.one_mul, Nat.zero_add, Nat.add_zero, Nat.reduceAdd, Nat.reduceMul, Nat.reduceSub, Nat.reduceLT, Nat.reduceLeDiff, Nat.reduceEqDiff, reduceCtorEq, true_or, or_true, false_or, or_false, true_and, and_true, false_and, and_false, not_true_eq_false, not_false_eq_true, wr_2, wrL_1, zm_eqF, zm_eqF', zm_lt, zm_lt', zm_le, zm_le', zm_sub1, zN_01, Nat.mul_zero, Nat.zero_mul, Nat.mul_one, Nat.sub_zero, Nat.sub_self, Nat.add_sub_cancel, e1, il, m0, t]
      cases hR : atR P m c with
      | none =>
        refine no (-zN 2) (fun M M1 e1 l1 s1 => ?_) (fun M M1 e1 n1 s1 => ?_)
        · rw [headC M M1 e1 l1 s1, at_c hP l1 s1 (by omega) (by omega)]
          exact (atR_K _ M1).2 hR
        · rw [headM M M1 e1 n1 s1, at_m hP n1 s1 hpg hl hm (by omega)]
          exact (atR_K _ M1).2 hR
      | some q =>
        refine ⟨q.2, P, T, [q.1], U, K, WF_R hw (by simp), fun M hM0 => ?_, fun M hM0 => ?_⟩
        · obtain ⟨M1, e1, s1, l1, f1⟩ := cset0 hP (b := 0) (by omega) hM0.1
          obtain ⟨M2, e2, r2, y2⟩ := tell1 q.1 M1
          refine ⟨M2, ?_, CI_q hM0 hU (cq_trans (cq_set f1) (cq_Y y2)) (Leaf_Y l1 (by omega) y2) r2⟩
          rw [headC M M1 e1 l1 s1, at_c hP l1 s1 (by omega) (by omega)]
          refine ((atR_K _ M1).1 q hR).trans ?_
          rw [e2]; rfl
        · obtain ⟨M1, e1, s1, n1, f1⟩ := mset0 hP (MNow_w (j := 5) (v := zN 0) hM0.1)
          obtain ⟨M2, e2, r2, x2⟩ := tell7 (MR_nil M1) (by simp) q.1
          refine ⟨M2, ?_, MI_q hM0 (mq_trans (mq_w (j := 5) (v := zN 0) (by omega)) (mq_trans (mq_MS f1) (mq_trans (mq_w (j := 4) (v := zN 0) (by omega)) (mq_X x2)))) (MNow_X (MNow_w n1) x2) r2⟩
          rw [headM M M1 e1 n1 s1, at_m hP n1 s1 hpg hl hm (by omega)]
          refine ((atR_K _ M1).1 q hR).trans ?_
          rw [e2]; rfl
    · refine no (-zN 1) (fun M M1 e1 l1 s1 => ?_) (fun M M1 e1 n1 s1 => ?_)
      · have pc := hC M M1 e1 l1 s1
        unfold fX6_at; simp (disch := omega) only [wr_cj, wr_nj, rng_in, rng_out, zN_lit, zN_add, zN_mul, zN_sub, zN_ltT, zN_ltF, zN_leT, zN_leF, zN_eqT, zN_eqF, zN_lt, zN_le, zN_eq, zN_nat, zN_oobF, Option.bind_some, ↓reduceIte, Nat.one_mul, Nat.zero_add, Nat.add_zero, Nat.reduceAdd, Nat.reduceMul, Nat.reduceSub, Nat.reduceLT, Nat.reduceLeDiff, Nat.reduceEqDiff, reduceCtorEq, true_or, or_true, false_or, or_false, true_and, and_true, false_and, and_false, not_true_eq_false, not_false_eq_true, wr_2, wrL_1, zm_eqF, zm_eqF', zm_lt, zm_lt', zm_le, zm_le', zm_sub1, zN_01, Nat.mul_zero, Nat.zero_mul, Nat.mul_one, Nat.sub_zero, Nat.sub_self, Nat.add_sub_cancel, pc, zg_lt hz]
      · have il := hM M1 n1 s1
        have m0 := n1 0 (by omega)
        have t := in7g hz (lo := 0) (by omega) (zN (P 0 - 1)) M1
        unfold fX7_at; simp (disch := omega) only [wr_cj, wr_nj, rng_in, rng_out, zN_lit, zN_add, zN_mul, zN_sub, zN_ltT, zN_ltF, zN_leT, zN_leF, zN_eqT, zN_eqF, zN_lt, zN_le, zN_eq, zN_nat, zN_oobF, Option.bind_some, ↓reduceIte, Nat.one_mul, Nat.zero_add, Nat.add_zero, Nat.reduceAdd, Nat.reduceMul, Nat.reduceSub, Nat.reduceLT, Nat.reduceLeDiff, Nat.reduceEqDiff, reduceCtorEq, true_or, or_true, false_or, or_false, true_and, and_true, false_and, and_false, not_true_eq_false, not_false_eq_true, wr_2, wrL_1, zm_eqF, zm_eqF', zm_lt, zm_lt', zm_le, zm_le', zm_sub1, zN_01, Nat.mul_zero, Nat.zero_mul, Nat.mul_one, Nat.sub_zero, Nat.sub_self, Nat.add_sub_cancel, e1, il, m0, t]
    · refine no (-zN 1) (fun M M1 e1 l1 s1 => ?_) (fun M M1 e1 n1 s1 => ?_)
      · have pc := hC M M1 e1 l1 s1
        have h0 : M1.1 0 0 = zN (P 0) := l1.1.1
        unfold fX6_at; simp (disch := omega) only [wr_cj, wr_nj, rng_in, rng_out, zN_lit, zN_add, zN_mul, zN_sub, zN_ltT, zN_ltF, zN_leT, zN_leF, zN_eqT, zN_eqF, zN_lt, zN_le, zN_eq, zN_nat, zN_oobF, Option.bind_some, ↓reduceIte, Nat.one_mul, Nat.zero_add, Nat.add_zero, Nat.reduceAdd, Nat.reduceMul, Nat.reduceSub, Nat.reduceLT, Nat.reduceLeDiff, Nat.reduceEqDiff, reduceCtorEq, true_or, or_true, false_or, or_false, true_and, and_true, false_and, and_false, not_true_eq_false, not_false_eq_true, wr_2, wrL_1, zm_eqF, zm_eqF', zm_lt, zm_lt', zm_le, zm_le', zm_sub1, zN_01, Nat.mul_zero, Nat.zero_mul, Nat.mul_one, Nat.sub_zero, Nat.sub_self, Nat.add_sub_cancel, pc, h0]
      · have il := hM M1 n1 s1
        have m0 := n1 0 (by omega)
        have t := in7F (a := c) (lo := 0) (hi := P 0 - 1) (by omega) M1
        unfold fX7_at; simp (disch := omega) only [wr_cj, wr_nj, rng_in, rng_out, zN_lit, zN_add, zN_mul, zN_sub, zN_ltT, zN_ltF, zN_leT, zN_leF, zN_eqT, zN_eqF, zN_lt, zN_le, zN_eq, zN_nat, zN_oobF, Option.bind_some, ↓reduceIte, Nat.one_mul, Nat.zero_add, Nat.add_zero, Nat.reduceAdd, Nat.reduceMul, Nat.reduceSub, Nat.reduceLT, Nat.reduceLeDiff, Nat.reduceEqDiff, reduceCtorEq, true_or, or_true, false_or, or_false, true_and, and_true, false_and, and_false, not_true_eq_false, not_false_eq_true, wr_2, wrL_1, zm_eqF, zm_eqF', zm_lt, zm_lt', zm_le, zm_le', zm_sub1, zN_01, Nat.mul_zero, Nat.zero_mul, Nat.mul_one, Nat.sub_zero, Nat.sub_self, Nat.add_sub_cancel, e1, il, m0, t]
  · refine no (-zN 1) (fun M M1 e1 l1 s1 => ?_) (fun M M1 e1 n1 s1 => ?_)
    · have pc := hC M M1 e1 l1 s1
      unfold fX6_at; rw [pc, Option.bind_some]; exact if_pos (zm_neg (by omega))
    · have il := hM M1 n1 s1
      unfold fX7_at; simp only [zN_lit]; rw [e1, Option.bind_some, il, Option.bind_some]; exact if_pos rfl
