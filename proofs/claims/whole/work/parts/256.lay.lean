/-! where words stand -/
def sumS (s : Nat → Nat) (k : Nat) : Nat → Nat
  | 0 => 0
  | n + 1 => sumS s k n + s (k + n)
theorem sumS_front (s : Nat → Nat) : ∀ n k, sumS s k (n + 1) = s k + sumS s (k + 1) n := by
  intro n
  induction n with
  | zero => intro k; simp [sumS]
  | succ n ih =>
    intro k
    rw [sumS, ih k, sumS, show k + 1 + n = k + (n + 1) by omega]; omega
theorem tkw_sum (s : Nat → Nat) : ∀ f k r, (tkw s f k r).2 + sumS s k ((tkw s f k r).1 - k) + ((tkw s f k r).1 - k) = r := by
  intro f
  induction f with
  | zero => intro k r; simp [tkw, sumS]
  | succ f ih =>
    intro k r
    unfold tkw
    by_cases h : s k < r
    · rw [if_pos h]
      have := ih (k + 1) (r - (s k + 1))
      have g := tkw_ge s f (k + 1) (r - (s k + 1))
      obtain ⟨n, hn⟩ : ∃ n, (tkw s f (k + 1) (r - (s k + 1))).1 - k = n + 1 := ⟨(tkw s f (k + 1) (r - (s k + 1))).1 - k - 1, by omega⟩
      rw [hn, sumS_front, show n = (tkw s f (k + 1) (r - (s k + 1))).1 - (k + 1) by omega]
      omega
    · rw [if_neg h]; simp [sumS]
theorem sumS_le (s : Nat → Nat) (k : Nat) {a b : Nat} (h : a ≤ b) : sumS s k a ≤ sumS s k b := by
  induction b with
  | zero => rw [Nat.le_zero.mp h]; exact Nat.le_refl _
  | succ b ih =>
    by_cases e : a = b + 1
    · rw [e]; exact Nat.le_refl _
    · have := ih (by omega); rw [sumS]; omega
/-- words, letters, blanks of a part -/
def wrd (P : Nat → Nat) (m t : Nat) : Nat := dn P (m + 1) t - dn P m t
def ltr (P : Nat → Nat) (m t : Nat) : Nat := sumS (pSz P t) (dn P m t) (wrd P m t)
theorem ltr_le {P : Nat → Nat} (m t : Nat) (hw : wid P m t ≠ 0) : ltr P m t + wrd P m t ≤ wid P m t + 1 := by
  have h := tkw_sum (pSz P t) (P (5 + t) - dn P m t) (dn P m t) (wid P m t + 1)
  rw [← dn_w P m t hw] at h
  unfold ltr wrd
  omega
def cofM (P : Nat → Nat) (m t j : Nat) : Nat := if P (5 + t) ≤ dn P (m + 1) t ∨ wrd P m t ≤ 1 then col P m t + sumS (pSz P t) (dn P m t) j + j else col P m t + sumS (pSz P t) (dn P m t) j + j * ((wid P m t - ltr P m t) / (wrd P m t - 1)) + min j ((wid P m t - ltr P m t) % (wrd P m t - 1))
def cof (P : Nat → Nat) (t k : Nat) : Nat := cofM P (ln P t k) t (k - dn P (ln P t k) t)
theorem colw {P : Nat → Nat} (hP : Good P) (m t : Nat) (ht : t < 3) (hw : wid P m t ≠ 0) : col P m t + wid P m t ≤ P 0 := by
  obtain ⟨h1, -⟩ := hP
  have e : t = 0 ∨ t = 1 ∨ t = 2 := by omega
  revert hw
  unfold col wid cl wd wdM wdO mcO wdI
  rcases e with rfl | rfl | rfl
  · simp only [if_true]
    cases lI P (dn P m) <;> cases lO P (dn P m) <;> cases lM P (dn P m) m <;> simp <;> omega
  · simp
    cases lI P (dn P m) <;> cases lO P (dn P m) <;> cases lM P (dn P m) m <;> simp <;> omega
  · simp
    cases lI P (dn P m) <;> cases lO P (dn P m) <;> cases lM P (dn P m) m <;> simp <;> omega
theorem cofM_le {P : Nat → Nat} (hP : Good P) {m t j : Nat} (ht : t < 3) (hw : wid P m t ≠ 0) (hj : j < wrd P m t) : cofM P m t j + pSz P t (dn P m t + j) ≤ P 0 := by
  have a := ltr_le m t hw
  have b := colw hP m t ht hw
  have c := sumS_le (pSz P t) (dn P m t) (show j + 1 ≤ wrd P m t by omega)
  rw [sumS] at c
  unfold cofM
  by_cases q : P (5 + t) ≤ dn P (m + 1) t ∨ wrd P m t ≤ 1
  · rw [if_pos q]
    unfold ltr at a
    omega
  · rw [if_neg q]
    obtain ⟨g, hg⟩ : ∃ g, g = wrd P m t - 1 := ⟨_, rfl⟩
    obtain ⟨bl, hbl⟩ : ∃ bl, bl = wid P m t - ltr P m t := ⟨_, rfl⟩
    rw [← hg, ← hbl]
    have d := Nat.div_add_mod bl g
    have jg : j ≤ g := by omega
    have e1 : j * (bl / g) ≤ g * (bl / g) := Nat.mul_le_mul_right _ jg
    have e2 : min j (bl % g) ≤ bl % g := Nat.min_le_right _ _
    unfold ltr at a hbl
    omega
theorem sumS_b {P : Nat → Nat} (hP : Good P) {m t : Nat} (hw : wid P m t ≠ 0) {j : Nat} (hj : j ≤ wrd P m t) : sumS (pSz P t) (dn P m t) j ≤ 61 := by
  have a := ltr_le m t hw
  have w := wid_all hP m t
  have c := sumS_le (pSz P t) (dn P m t) hj
  unfold ltr at a
  omega
/-- a word is in a part that is there -/
theorem ln_w {P : Nat → Nat} (hP : Good P) {t k : Nat} (ht : t < 3) (hk : k < P (5 + t)) : wid P (ln P t k) t ≠ 0 := by
  have h := ln_ok hP ht hk
  intro e
  rw [dn_0 P _ t e] at h
  omega
/-! the class's column -/
theorem col4 {P : Nat → Nat} (hP : Good P) {b : Nat} (hb : b ≤ 110) {M : zMM} (hL : Leaf M b P) (hS : CSet P M) {t k : Nat} (ht : t < 3) (hk : k < P (5 + t)) : fX4_columnOf b (zN t) (zN k) M = some (zN (cof P t k), M) := by
  have hc := (hP.2.1 t ht).1
  have hln := ln_ok hP ht hk
  have hw := ln_w hP ht hk
  have hNL := NL_le P
  obtain ⟨m, hm⟩ : ∃ m, m = ln P t k := ⟨_, rfl⟩
  have lo := lineOf4 hP hS ht hk
  unfold cof
  rw [← hm] at hln hw lo ⊢
  have hst := hS.1 t ht
  have g1 := hst.2.1 m (by omega)
  obtain ⟨g2, g3, g4, g5⟩ := hst.2.2.1 m (by omega) hw
  have hd := (dn_le P m t).2
  have hd1 := (dn_le P (m + 1) t).1
  have lc := hL.2.2.1 t ht
  have hwb := wid_all hP m t
  have hlt := ltr_le m t hw
  have cw := colw hP m t ht hw
  have hp := hP.1
  have hwr : wrd P m t = dn P (m + 1) t - dn P m t := rfl
  obtain ⟨d, hde⟩ : ∃ d, d = dn P m t := ⟨_, rfl⟩
  obtain ⟨n, hne⟩ : ∃ n, n = wrd P m t := ⟨_, rfl⟩
  rw [← hde] at g1 g2 hln hwr hd
  have g1' : M.1 (133 + t) m = zN n := by rw [hne, hwr]; exact g1
  -- the end
  have fin : ∀ fu, fX4_columnOf_42 b (zN t) (zN k) (fu + 1) (zN m) (zN d) (zN n) (zN (sumS (pSz P t) d (k - d))) (zN (sumS (pSz P t) d n)) (zN (d + n)) M = some (zN (cofM P m t (k - d)), M) := by
    intro fu
    have hs1 := sumS_b hP hw (j := n) (by omega)
    have hs2 := sumS_b hP hw (j := k - d) (by omega)
    rw [← hde] at hs1 hs2
    rw [fX4_columnOf_42]
    have el : ltr P m t = sumS (pSz P t) d n := by unfold ltr; rw [← hde, ← hne]
    rw [el] at hlt
    by_cases q1 : P (5 + t) ≤ dn P (m + 1) t
    · have ec : cofM P m t (k - d) = col P m t + sumS (pSz P t) d (k - d) + (k - d) := by unfold cofM; rw [if_pos (Or.inl q1), ← hde]
      rw [ec]
      simp (disch := omega) only [wr_cj, wr_nj, rng_in, rng_out, zN_lit, zN_add, zN_mul, zN_sub, zN_ltT, zN_ltF, zN_leT, zN_leF, zN_eqT, zN_eqF, zN_lt, zN_le, zN_eq, zN_nat, zN_oobF, Option.bind_some, ↓reduceIte, Nat.one_mul, Nat.zero_add, Nat.add_zero, Nat.reduceAdd, Nat.reduceMul, Nat.reduceSub, Nat.reduceLT, Nat.reduceLeDiff, Nat.reduceEqDiff, reduceCtorEq, true_or, or_true, false_or, or_false, true_and, and_true, false_and, and_false, not_true_eq_false, not_false_eq_true, wr_2, wrL_1, zm_eqF, zm_eqF', zm_lt, zm_lt', zm_le, zm_le', zm_sub1, zN_01, Nat.mul_zero, Nat.zero_mul, Nat.mul_one, Nat.sub_zero, Nat.sub_self, Nat.add_sub_cancel, lc, fX4_columnOf_121, fX4_columnOf_133, g4]
    · by_cases q2 : wrd P m t ≤ 1
      · have ec : cofM P m t (k - d) = col P m t + sumS (pSz P t) d (k - d) + (k - d) := by unfold cofM; rw [if_pos (Or.inr q2), ← hde]
        rw [ec]
        have n1 : n = 1 := by omega
        rw [n1]
        simp (disch := omega) only [wr_cj, wr_nj, rng_in, rng_out, zN_lit, zN_add, zN_mul, zN_sub, zN_ltT, zN_ltF, zN_leT, zN_leF, zN_eqT, zN_eqF, zN_lt, zN_le, zN_eq, zN_nat, zN_oobF, Option.bind_some, ↓reduceIte, Nat.one_mul, Nat.zero_add, Nat.add_zero, Nat.reduceAdd, Nat.reduceMul, Nat.reduceSub, Nat.reduceLT, Nat.reduceLeDiff, Nat.reduceEqDiff, reduceCtorEq, true_or, or_true, false_or, or_false, true_and, and_true, false_and, and_false, not_true_eq_false, not_false_eq_true, wr_2, wrL_1, zm_eqF, zm_eqF', zm_lt, zm_lt', zm_le, zm_le', zm_sub1, zN_01, Nat.mul_zero, Nat.zero_mul, Nat.mul_one, Nat.sub_zero, Nat.sub_self, Nat.add_sub_cancel, lc, fX4_columnOf_121, fX4_columnOf_133, g4]
      · have ec : cofM P m t (k - d) = col P m t + sumS (pSz P t) d (k - d) + (k - d) * ((wid P m t - sumS (pSz P t) d n) / (n - 1)) + min (k - d) ((wid P m t - sumS (pSz P t) d n) % (n - 1)) := by
          unfold cofM
          rw [if_neg (show ¬ (P (5 + t) ≤ dn P (m + 1) t ∨ wrd P m t ≤ 1) by omega), ← hde, ← hne, el]
        rw [ec]
        have dm := Nat.div_add_mod (wid P m t - sumS (pSz P t) d n) (n - 1)
        have ml := Nat.mod_lt (wid P m t - sumS (pSz P t) d n) (show 0 < n - 1 by omega)
        obtain ⟨qq, hqq⟩ : ∃ qq, qq = (wid P m t - sumS (pSz P t) d n) / (n - 1) := ⟨_, rfl⟩
        obtain ⟨rr, hrr⟩ : ∃ rr, rr = (wid P m t - sumS (pSz P t) d n) % (n - 1) := ⟨_, rfl⟩
        have e1 : qq * (n - 1) = (wid P m t - sumS (pSz P t) d n) - rr := by rw [Nat.mul_comm]; rw [← hqq, ← hrr] at dm; omega
        rw [← hqq, ← hrr]
        rw [← hrr] at ml
        have rle : rr ≤ wid P m t - sumS (pSz P t) d n := by rw [← hqq, ← hrr] at dm; omega
        have e2 : (wid P m t - sumS (pSz P t) d n) - ((wid P m t - sumS (pSz P t) d n) - rr) = rr := by omega
        by_cases q3 : rr < k - d
        · rw [show min (k - d) rr = rr from Nat.min_eq_right (by omega)]
          simp (disch := omega) only [wr_cj, wr_nj, rng_in, rng_out, zN_lit, zN_add, zN_mul, zN_sub, zN_ltT, zN_ltF, zN_leT, zN_leF, zN_eqT, zN_eqF, zN_lt, zN_le, zN_eq, zN_nat, zN_oobF, Option.bind_some, ↓reduceIte, Nat.one_mul, Nat.zero_add, Nat.add_zero, Nat.reduceAdd, Nat.reduceMul, Nat.reduceSub, Nat.reduceLT, Nat.reduceLeDiff, Nat.reduceEqDiff, reduceCtorEq, true_or, or_true, false_or, or_false, true_and, and_true, false_and, and_false, not_true_eq_false, not_false_eq_true, wr_2, wrL_1, zm_eqF, zm_eqF', zm_lt, zm_lt', zm_le, zm_le', zm_sub1, zN_01, Nat.mul_zero, Nat.zero_mul, Nat.mul_one, Nat.sub_zero, Nat.sub_self, Nat.add_sub_cancel, lc, fX4_columnOf_121, g3, g4, zN_div, ← hqq, e1, e2]
        · rw [show min (k - d) rr = k - d from Nat.min_eq_left (by omega)]
          simp (disch := omega) only [wr_cj, wr_nj, rng_in, rng_out, zN_lit, zN_add, zN_mul, zN_sub, zN_ltT, zN_ltF, zN_leT, zN_leF, zN_eqT, zN_eqF, zN_lt, zN_le, zN_eq, zN_nat, zN_oobF, Option.bind_some, ↓reduceIte, Nat.one_mul, Nat.zero_add, Nat.add_zero, Nat.reduceAdd, Nat.reduceMul, Nat.reduceSub, Nat.reduceLT, Nat.reduceLeDiff, Nat.reduceEqDiff, reduceCtorEq, true_or, or_true, false_or, or_false, true_and, and_true, false_and, and_false, not_true_eq_false, not_false_eq_true, wr_2, wrL_1, zm_eqF, zm_eqF', zm_lt, zm_lt', zm_le, zm_le', zm_sub1, zN_01, Nat.mul_zero, Nat.zero_mul, Nat.mul_one, Nat.sub_zero, Nat.sub_self, Nat.add_sub_cancel, lc, fX4_columnOf_121, g3, g4, zN_div, ← hqq, e1, e2]
  have lp : ∀ f j fuel, n - j = f → j ≤ n → f < fuel → fX4_columnOf_42 b (zN t) (zN k) fuel (zN m) (zN d) (zN n) (zN (sumS (pSz P t) d (if j < k - d then j else k - d))) (zN (sumS (pSz P t) d j)) (zN (d + j)) M = some (zN (cofM P m t (k - d)), M) := by
    intro f
    induction f with
    | zero =>
      intro j fuel hf hj hfu
      obtain ⟨fu, rfl⟩ : ∃ q, fuel = q + 1 := ⟨fuel - 1, by omega⟩
      have e : j = n := by omega
      subst e
      rw [if_neg (by omega)]
      exact fin fu
    | succ f ih =>
      intro j fuel hf hj hfu
      obtain ⟨fu, rfl⟩ : ∃ q, fuel = q + 1 := ⟨fuel - 1, by omega⟩
      have lsj : M.1 (b + 4 + t) (d + j) = zN (pSz P t (d + j)) := hL.2.2.2.1 t ht (d + j) (by omega)
      rw [← ih (j + 1) fu (by omega) (by omega) (by omega), fX4_columnOf_42]
      have sj : sumS (pSz P t) d (j + 1) = sumS (pSz P t) d j + pSz P t (d + j) := rfl
      by_cases q : j < k - d
      · by_cases q' : j + 1 < k - d
        · rw [if_pos q, if_pos q', sj]
          simp (disch := omega) only [wr_cj, wr_nj, rng_in, rng_out, zN_lit, zN_add, zN_mul, zN_sub, zN_ltT, zN_ltF, zN_leT, zN_leF, zN_eqT, zN_eqF, zN_lt, zN_le, zN_eq, zN_nat, zN_oobF, Option.bind_some, ↓reduceIte, Nat.one_mul, Nat.zero_add, Nat.add_zero, Nat.reduceAdd, Nat.reduceMul, Nat.reduceSub, Nat.reduceLT, Nat.reduceLeDiff, Nat.reduceEqDiff, reduceCtorEq, true_or, or_true, false_or, or_false, true_and, and_true, false_and, and_false, not_true_eq_false, not_false_eq_true, wr_2, wrL_1, zm_eqF, zm_eqF', zm_lt, zm_lt', zm_le, zm_le', zm_sub1, zN_01, Nat.mul_zero, Nat.zero_mul, Nat.mul_one, Nat.sub_zero, Nat.sub_self, Nat.add_sub_cancel, lsj, fX4_columnOf_73]
          rw [Nat.add_assoc d j 1]
        · rw [if_pos q, if_neg q', show k - d = j + 1 by omega, sj]
          simp (disch := omega) only [wr_cj, wr_nj, rng_in, rng_out, zN_lit, zN_add, zN_mul, zN_sub, zN_ltT, zN_ltF, zN_leT, zN_leF, zN_eqT, zN_eqF, zN_lt, zN_le, zN_eq, zN_nat, zN_oobF, Option.bind_some, ↓reduceIte, Nat.one_mul, Nat.zero_add, Nat.add_zero, Nat.reduceAdd, Nat.reduceMul, Nat.reduceSub, Nat.reduceLT, Nat.reduceLeDiff, Nat.reduceEqDiff, reduceCtorEq, true_or, or_true, false_or, or_false, true_and, and_true, false_and, and_false, not_true_eq_false, not_false_eq_true, wr_2, wrL_1, zm_eqF, zm_eqF', zm_lt, zm_lt', zm_le, zm_le', zm_sub1, zN_01, Nat.mul_zero, Nat.zero_mul, Nat.mul_one, Nat.sub_zero, Nat.sub_self, Nat.add_sub_cancel, lsj, fX4_columnOf_73]
          rw [Nat.add_assoc d j 1]
      · rw [if_neg q, if_neg (show ¬ j + 1 < k - d by omega), sj]
        simp (disch := omega) only [wr_cj, wr_nj, rng_in, rng_out, zN_lit, zN_add, zN_mul, zN_sub, zN_ltT, zN_ltF, zN_leT, zN_leF, zN_eqT, zN_eqF, zN_lt, zN_le, zN_eq, zN_nat, zN_oobF, Option.bind_some, ↓reduceIte, Nat.one_mul, Nat.zero_add, Nat.add_zero, Nat.reduceAdd, Nat.reduceMul, Nat.reduceSub, Nat.reduceLT, Nat.reduceLeDiff, Nat.reduceEqDiff, reduceCtorEq, true_or, or_true, false_or, or_false, true_and, and_true, false_and, and_false, not_true_eq_false, not_false_eq_true, wr_2, wrL_1, zm_eqF, zm_eqF', zm_lt, zm_lt', zm_le, zm_le', zm_sub1, zN_01, Nat.mul_zero, Nat.zero_mul, Nat.mul_one, Nat.sub_zero, Nat.sub_self, Nat.add_sub_cancel, lsj, fX4_columnOf_73]
        rw [Nat.add_assoc d j 1]
  unfold fX4_columnOf
  have key := lp n 0 zFU (by omega) (by omega) (by rw [zFU_eq]; omega)
  have z : sumS (pSz P t) d (if 0 < k - d then 0 else k - d) = 0 := by
    split
    · rfl
    · rw [show k - d = 0 by omega]; rfl
  rw [z, Nat.add_zero] at key
  rw [← hde]
  simp (disch := omega) only [wr_cj, wr_nj, rng_in, rng_out, zN_lit, zN_add, zN_mul, zN_sub, zN_ltT, zN_ltF, zN_leT, zN_leF, zN_eqT, zN_eqF, zN_lt, zN_le, zN_eq, zN_nat, zN_oobF, Option.bind_some, ↓reduceIte, Nat.one_mul, Nat.zero_add, Nat.add_zero, Nat.reduceAdd, Nat.reduceMul, Nat.reduceSub, Nat.reduceLT, Nat.reduceLeDiff, Nat.reduceEqDiff, reduceCtorEq, true_or, or_true, false_or, or_false, true_and, and_true, false_and, and_false, not_true_eq_false, not_false_eq_true, wr_2, wrL_1, zm_eqF, zm_eqF', zm_lt, zm_lt', zm_le, zm_le', zm_sub1, zN_01, Nat.mul_zero, Nat.zero_mul, Nat.mul_one, Nat.sub_zero, Nat.sub_self, Nat.add_sub_cancel, lo, g2, g1']
  exact key
/-! the model's column -/
theorem col7 {P : Nat → Nat} (hP : Good P) {M : zMM} (hM : MNow M P) (hS : MSet P M) {t k : Nat} (ht : t < 3) (hk : k < P (5 + t)) : fX7_columnOf (zN t) (zN k) M = some (zN (cof P t k), M) := by
  have hc := (hP.2.1 t ht).1
  have hln := ln_ok hP ht hk
  have hw := ln_w hP ht hk
  have hNL := NL_le P
  obtain ⟨p, p1, -, -, p4, p5⟩ := partOf7 hP hS ht hk
  obtain ⟨m, hm⟩ : ∃ m, m = ln P t k := ⟨_, rfl⟩
  unfold cof
  rw [← hm] at hln hw p5 ⊢
  have hd := (dn_le P m t).2
  have hd1 := (dn_le P (m + 1) t).1
  have mc := hM (5 + t) (by omega)
  have hwb := wid_all hP m t
  have hlt := ltr_le m t hw
  have cw := colw hP m t ht hw
  have hp := hP.1
  have hwr : wrd P m t = dn P (m + 1) t - dn P m t := rfl
  obtain ⟨d, hde⟩ : ∃ d, d = dn P m t := ⟨_, rfl⟩
  obtain ⟨n, hne⟩ : ∃ n, n = wrd P m t := ⟨_, rfl⟩
  obtain ⟨g0, -, -, g3, g4, g5, g6, -⟩ := p5
  rw [← hde] at g3 g4 hln hwr hd
  rw [← hwr, ← hne] at g4
  have t0 := told7 (p := p) (j := 0) (M := M) (by omega)
  have t3 := told7 (p := p) (j := 3) (M := M) (by omega)
  have t4 := told7 (p := p) (j := 4) (M := M) (by omega)
  have t5 := told7 (p := p) (j := 5) (M := M) (by omega)
  have t6 := told7 (p := p) (j := 6) (M := M) (by omega)
  rw [Nat.add_zero, g0] at t0
  rw [g3] at t3; rw [g4] at t4; rw [g5] at t5; rw [g6] at t6
  have el : ltr P m t = sumS (pSz P t) d n := by unfold ltr; rw [← hde, ← hne]
  rw [el] at hlt
  have msz : ∀ j, j < n → fX7_size (zN t) (zN (d + j)) M = some (zN (pSz P t (d + j)), M) := by
    intro j hj
    rw [size7 ht (by omega), hM _ (by omega)]; rfl
  have hsum : ∀ j, j ≤ n → sumS (pSz P t) d j ≤ 61 := fun j hj => by
    have := sumS_b hP hw (j := j) (by omega)
    rw [← hde] at this; exact this
  -- the words ahead
  have l100 : ∀ (L6 s : Int32) (a : Nat → Nat), (∀ j fu, j < k - d → fX7_columnOf_100 (zN t) (zN k) (fu + 1) (zN n) (zN d) L6 s (zN (a j)) (zN j) M = fX7_columnOf_100 (zN t) (zN k) fu (zN n) (zN d) L6 s (zN (a (j + 1))) (zN (j + 1)) M) → fX7_columnOf_100 (zN t) (zN k) zFU (zN n) (zN d) L6 s (zN (a 0)) (zN 0) M = some (zN (a (k - d)), M) := by
    intro L6 s a hstep
    have : ∀ f j fuel, k - d - j = f → j ≤ k - d → f < fuel → fX7_columnOf_100 (zN t) (zN k) fuel (zN n) (zN d) L6 s (zN (a j)) (zN j) M = some (zN (a (k - d)), M) := by
      intro f
      induction f with
      | zero =>
        intro j fuel hf hj hfu
        obtain ⟨fu, rfl⟩ : ∃ q, fuel = q + 1 := ⟨fuel - 1, by omega⟩
        have e : j = k - d := by omega
        subst e
        rw [fX7_columnOf_100]
        simp (disch := omega) only [wr_cj, wr_nj, rng_in, rng_out, zN_lit, zN_add, zN_mul, zN_sub, zN_ltT, zN_ltF, zN_leT, zN_leF, zN_eqT, zN_eqF, zN_lt, zN_le, zN_eq, zN_nat, zN_oobF, Option.bind_some, ↓reduceIte, Nat.one_mul, Nat.zero_add, Nat.add_zero, Nat.reduceAdd, Nat.reduceMul, Nat.reduceSub, Nat.reduceLT, Nat.reduceLeDiff, Nat.reduceEqDiff, reduceCtorEq, true_or, or_true, false_or, or_false, true_and, and_true, false_and, and_false, not_true_eq_false, not_false_eq_true, wr_2, wrL_1, zm_eqF, zm_eqF', zm_lt, zm_lt', zm_le, zm_le', zm_sub1, zN_01, Nat.mul_zero, Nat.zero_mul, Nat.mul_one, Nat.sub_zero, Nat.sub_self, Nat.add_sub_cancel]
      | succ f ih =>
        intro j fuel hf hj hfu
        obtain ⟨fu, rfl⟩ : ∃ q, fuel = q + 1 := ⟨fuel - 1, by omega⟩
        rw [hstep j fu (by omega)]
        exact ih (j + 1) fu (by omega) (by omega) (by omega)
    exact this (k - d) 0 zFU (by omega) (by omega) (by rw [zFU_eq]; omega)
  have bl1 : fX7_columnOf_85 (zN t) (zN k) (zN p) (zN n) (zN d) (zN (wid P m t - sumS (pSz P t) d n)) M = some (zN (col P m t + sumS (pSz P t) d (k - d) + (k - d)), M) := by
    unfold fX7_columnOf_85 fX7_columnOf_86
    have := l100 (zN (wid P m t - sumS (pSz P t) d n)) (zN 0) (fun j => col P m t + sumS (pSz P t) d j + j) (fun j fu hj => by
      have sz := msz j (by omega)
      have sj : sumS (pSz P t) d (j + 1) = sumS (pSz P t) d j + pSz P t (d + j) := rfl
      show fX7_columnOf_100 (zN t) (zN k) (fu + 1) (zN n) (zN d) (zN (wid P m t - sumS (pSz P t) d n)) (zN 0) (zN (col P m t + sumS (pSz P t) d j + j)) (zN j) M = fX7_columnOf_100 (zN t) (zN k) fu (zN n) (zN d) (zN (wid P m t - sumS (pSz P t) d n)) (zN 0) (zN (col P m t + sumS (pSz P t) d (j + 1) + (j + 1))) (zN (j + 1)) M
      rw [fX7_columnOf_100, sj]
      simp (disch := omega) only [wr_cj, wr_nj, rng_in, rng_out, zN_lit, zN_add, zN_mul, zN_sub, zN_ltT, zN_ltF, zN_leT, zN_leF, zN_eqT, zN_eqF, zN_lt, zN_le, zN_eq, zN_nat, zN_oobF, Option.bind_some, ↓reduceIte, Nat.one_mul, Nat.zero_add, Nat.add_zero, Nat.reduceAdd, Nat.reduceMul, Nat.reduceSub, Nat.reduceLT, Nat.reduceLeDiff, Nat.reduceEqDiff, reduceCtorEq, true_or, or_true, false_or, or_false, true_and, and_true, false_and, and_false, not_true_eq_false, not_false_eq_true, wr_2, wrL_1, zm_eqF, zm_eqF', zm_lt, zm_lt', zm_le, zm_le', zm_sub1, zN_01, Nat.mul_zero, Nat.zero_mul, Nat.mul_one, Nat.sub_zero, Nat.sub_self, Nat.add_sub_cancel, sz, fX7_columnOf_155]
      rw [show col P m t + sumS (pSz P t) d j + j + (pSz P t (d + j) + 1) = col P m t + (sumS (pSz P t) d j + pSz P t (d + j)) + (j + 1) by omega])
    simp only [sumS, Nat.add_zero] at this
    simp only [zN_lit]
    rw [t6, Option.bind_some]
    exact this
  have fin : ∀ fu, fX7_columnOf_39 (zN t) (zN k) (fu + 1) (zN p) (zN n) (zN d) (zN (wid P m t - sumS (pSz P t) d n)) (zN n) M = some (zN (cofM P m t (k - d)), M) := by
    intro fu
    rw [fX7_columnOf_39]
    by_cases q2 : wrd P m t ≤ 1
    · have ec : cofM P m t (k - d) = col P m t + sumS (pSz P t) d (k - d) + (k - d) := by unfold cofM; rw [if_pos (Or.inr q2), ← hde]
      rw [ec, if_pos (show zN n ≤ zN n by rw [zN_leT (by omega)]; trivial), if_pos (show zN n ≤ 1 by show zN n ≤ zN 1; rw [zN_leT (by omega)]; trivial)]
      exact bl1
    · by_cases q1 : P (5 + t) ≤ dn P (m + 1) t
      · have ec : cofM P m t (k - d) = col P m t + sumS (pSz P t) d (k - d) + (k - d) := by unfold cofM; rw [if_pos (Or.inl q1), ← hde]
        rw [ec]
        have il : fX7_isLastPart (zN p) M = some (zN 1, M) := by
          have e : d + n = P (5 + t) := by omega
          unfold fX7_isLastPart
          simp (disch := omega) only [wr_cj, wr_nj, rng_in, rng_out, zN_lit, zN_add, zN_mul, zN_sub, zN_ltT, zN_ltF, zN_leT, zN_leF, zN_eqT, zN_eqF, zN_lt, zN_le, zN_eq, zN_nat, zN_oobF, Option.bind_some, ↓reduceIte, Nat.one_mul, Nat.zero_add, Nat.add_zero, Nat.reduceAdd, Nat.reduceMul, Nat.reduceSub, Nat.reduceLT, Nat.reduceLeDiff, Nat.reduceEqDiff, reduceCtorEq, true_or, or_true, false_or, or_false, true_and, and_true, false_and, and_false, not_true_eq_false, not_false_eq_true, wr_2, wrL_1, zm_eqF, zm_eqF', zm_lt, zm_lt', zm_le, zm_le', zm_sub1, zN_01, Nat.mul_zero, Nat.zero_mul, Nat.mul_one, Nat.sub_zero, Nat.sub_self, Nat.add_sub_cancel, t3, t4, t0, mc, e]
        rw [if_pos (show zN n ≤ zN n by rw [zN_leT (by omega)]; trivial), if_neg (show ¬ zN n ≤ 1 by show ¬ zN n ≤ zN 1; rw [zN_leF (by omega)]; exact id), il, Option.bind_some, if_neg nz10']
        exact bl1
      · have ec : cofM P m t (k - d) = col P m t + sumS (pSz P t) d (k - d) + (k - d) * ((wid P m t - sumS (pSz P t) d n) / (n - 1)) + min (k - d) ((wid P m t - sumS (pSz P t) d n) % (n - 1)) := by
          unfold cofM
          rw [if_neg (show ¬ (P (5 + t) ≤ dn P (m + 1) t ∨ wrd P m t ≤ 1) by omega), ← hde, ← hne, el]
        rw [ec]
        have il : fX7_isLastPart (zN p) M = some (zN 0, M) := by
          have e : d + n ≠ P (5 + t) := by omega
          unfold fX7_isLastPart
          simp (disch := omega) only [wr_cj, wr_nj, rng_in, rng_out, zN_lit, zN_add, zN_mul, zN_sub, zN_ltT, zN_ltF, zN_leT, zN_leF, zN_eqT, zN_eqF, zN_lt, zN_le, zN_eq, zN_nat, zN_oobF, Option.bind_some, ↓reduceIte, Nat.one_mul, Nat.zero_add, Nat.add_zero, Nat.reduceAdd, Nat.reduceMul, Nat.reduceSub, Nat.reduceLT, Nat.reduceLeDiff, Nat.reduceEqDiff, reduceCtorEq, true_or, or_true, false_or, or_false, true_and, and_true, false_and, and_false, not_true_eq_false, not_false_eq_true, wr_2, wrL_1, zm_eqF, zm_eqF', zm_lt, zm_lt', zm_le, zm_le', zm_sub1, zN_01, Nat.mul_zero, Nat.zero_mul, Nat.mul_one, Nat.sub_zero, Nat.sub_self, Nat.add_sub_cancel, t3, t4, t0, mc, e]
        have dm := Nat.div_add_mod (wid P m t - sumS (pSz P t) d n) (n - 1)
        have ml := Nat.mod_lt (wid P m t - sumS (pSz P t) d n) (show 0 < n - 1 by omega)
        obtain ⟨qq, hqq⟩ : ∃ qq, qq = (wid P m t - sumS (pSz P t) d n) / (n - 1) := ⟨_, rfl⟩
        obtain ⟨rr, hrr⟩ : ∃ rr, rr = (wid P m t - sumS (pSz P t) d n) % (n - 1) := ⟨_, rfl⟩
        have e1 : qq * (n - 1) = (wid P m t - sumS (pSz P t) d n) - rr := by rw [Nat.mul_comm]; rw [← hqq, ← hrr] at dm; omega
        rw [← hqq, ← hrr]
        rw [← hrr] at ml
        have rle : rr ≤ wid P m t - sumS (pSz P t) d n := by rw [← hqq, ← hrr] at dm; omega
        have e2 : (wid P m t - sumS (pSz P t) d n) - ((wid P m t - sumS (pSz P t) d n) - rr) = rr := by omega
        have key := l100 (zN (wid P m t - sumS (pSz P t) d n)) (zN 1) (fun j => col P m t + sumS (pSz P t) d j + j * qq + min j rr) (fun j fu hj => by
          have sz := msz j (by omega)
          have sj : sumS (pSz P t) d (j + 1) = sumS (pSz P t) d j + pSz P t (d + j) := rfl
          have jq : (j + 1) * qq = j * qq + qq := Nat.succ_mul j qq
          show fX7_columnOf_100 (zN t) (zN k) (fu + 1) (zN n) (zN d) (zN (wid P m t - sumS (pSz P t) d n)) (zN 1) (zN (col P m t + sumS (pSz P t) d j + j * qq + min j rr)) (zN j) M = fX7_columnOf_100 (zN t) (zN k) fu (zN n) (zN d) (zN (wid P m t - sumS (pSz P t) d n)) (zN 1) (zN (col P m t + sumS (pSz P t) d (j + 1) + (j + 1) * qq + min (j + 1) rr)) (zN (j + 1)) M
          rw [fX7_columnOf_100, sj, jq]
          by_cases q3 : j < rr
          · have mn : min (j + 1) rr = min j rr + 1 := by omega
            rw [mn]
            simp (disch := omega) only [wr_cj, wr_nj, rng_in, rng_out, zN_lit, zN_add, zN_mul, zN_sub, zN_ltT, zN_ltF, zN_leT, zN_leF, zN_eqT, zN_eqF, zN_lt, zN_le, zN_eq, zN_nat, zN_oobF, Option.bind_some, ↓reduceIte, Nat.one_mul, Nat.zero_add, Nat.add_zero, Nat.reduceAdd, Nat.reduceMul, Nat.reduceSub, Nat.reduceLT, Nat.reduceLeDiff, Nat.reduceEqDiff, reduceCtorEq, true_or, or_true, false_or, or_false, true_and, and_true, false_and, and_false, not_true_eq_false, not_false_eq_true, wr_2, wrL_1, zm_eqF, zm_eqF', zm_lt, zm_lt', zm_le, zm_le', zm_sub1, zN_01, Nat.mul_zero, Nat.zero_mul, Nat.mul_one, Nat.sub_zero, Nat.sub_self, Nat.add_sub_cancel, sz, zN_div, ← hqq, e1, e2, fX7_columnOf_150, fX7_columnOf_155]
            rw [show col P m t + sumS (pSz P t) d j + j * qq + min j rr + (pSz P t (d + j) + (qq + 1)) = col P m t + (sumS (pSz P t) d j + pSz P t (d + j)) + (j * qq + qq) + (min j rr + 1) by omega]
          · have mn : min (j + 1) rr = min j rr := by omega
            rw [mn]
            simp (disch := omega) only [wr_cj, wr_nj, rng_in, rng_out, zN_lit, zN_add, zN_mul, zN_sub, zN_ltT, zN_ltF, zN_leT, zN_leF, zN_eqT, zN_eqF, zN_lt, zN_le, zN_eq, zN_nat, zN_oobF, Option.bind_some, ↓reduceIte, Nat.one_mul, Nat.zero_add, Nat.add_zero, Nat.reduceAdd, Nat.reduceMul, Nat.reduceSub, Nat.reduceLT, Nat.reduceLeDiff, Nat.reduceEqDiff, reduceCtorEq, true_or, or_true, false_or, or_false, true_and, and_true, false_and, and_false, not_true_eq_false, not_false_eq_true, wr_2, wrL_1, zm_eqF, zm_eqF', zm_lt, zm_lt', zm_le, zm_le', zm_sub1, zN_01, Nat.mul_zero, Nat.zero_mul, Nat.mul_one, Nat.sub_zero, Nat.sub_self, Nat.add_sub_cancel, sz, zN_div, ← hqq, e1, e2, fX7_columnOf_150, fX7_columnOf_155]
            rw [show col P m t + sumS (pSz P t) d j + j * qq + min j rr + (pSz P t (d + j) + qq) = col P m t + (sumS (pSz P t) d j + pSz P t (d + j)) + (j * qq + qq) + min j rr by omega])
        have z0 : col P m t + sumS (pSz P t) d 0 + 0 * qq + min 0 rr = col P m t := by simp [sumS]
        rw [z0] at key
        have e86 : fX7_columnOf_86 (zN t) (zN k) (zN p) (zN n) (zN d) (zN (wid P m t - sumS (pSz P t) d n)) (zN 1) M = some (zN (col P m t + sumS (pSz P t) d (k - d) + (k - d) * qq + min (k - d) rr), M) := by
          unfold fX7_columnOf_86
          simp only [zN_lit]
          rw [t6, Option.bind_some]
          exact key
        rw [if_pos (show zN n ≤ zN n by rw [zN_leT (by omega)]; trivial), if_neg (show ¬ zN n ≤ 1 by show ¬ zN n ≤ zN 1; rw [zN_leF (by omega)]; exact id), il, Option.bind_some, if_pos (show ((zN 0, M) : Int32 × zMM).1 = 0 from rfl)]
        exact e86
  have l39 : ∀ f j fuel, n - j = f → j ≤ n → f < fuel → fX7_columnOf_39 (zN t) (zN k) fuel (zN p) (zN n) (zN d) (zN (wid P m t - sumS (pSz P t) d j)) (zN j) M = some (zN (cofM P m t (k - d)), M) := by
    intro f
    induction f with
    | zero =>
      intro j fuel hf hj hfu
      obtain ⟨fu, rfl⟩ : ∃ q, fuel = q + 1 := ⟨fuel - 1, by omega⟩
      have e : j = n := by omega
      subst e
      exact fin fu
    | succ f ih =>
      intro j fuel hf hj hfu
      obtain ⟨fu, rfl⟩ : ∃ q, fuel = q + 1 := ⟨fuel - 1, by omega⟩
      have sz := msz j (by omega)
      have sj : sumS (pSz P t) d (j + 1) = sumS (pSz P t) d j + pSz P t (d + j) := rfl
      have hle := hsum (j + 1) (by omega)
      have hle2 := sumS_le (pSz P t) d (show j + 1 ≤ n by omega)
      rw [← ih (j + 1) fu (by omega) (by omega) (by omega), fX7_columnOf_39, sj]
      rw [sj] at hle2
      simp (disch := omega) only [wr_cj, wr_nj, rng_in, rng_out, zN_lit, zN_add, zN_mul, zN_sub, zN_ltT, zN_ltF, zN_leT, zN_leF, zN_eqT, zN_eqF, zN_lt, zN_le, zN_eq, zN_nat, zN_oobF, Option.bind_some, ↓reduceIte, Nat.one_mul, Nat.zero_add, Nat.add_zero, Nat.reduceAdd, Nat.reduceMul, Nat.reduceSub, Nat.reduceLT, Nat.reduceLeDiff, Nat.reduceEqDiff, reduceCtorEq, true_or, or_true, false_or, or_false, true_and, and_true, false_and, and_false, not_true_eq_false, not_false_eq_true, wr_2, wrL_1, zm_eqF, zm_eqF', zm_lt, zm_lt', zm_le, zm_le', zm_sub1, zN_01, Nat.mul_zero, Nat.zero_mul, Nat.mul_one, Nat.sub_zero, Nat.sub_self, Nat.add_sub_cancel, sz]
      rw [Nat.sub_sub]
  unfold fX7_columnOf
  have key := l39 n 0 zFU (by omega) (by omega) (by rw [zFU_eq]; omega)
  simp only [sumS, Nat.sub_zero] at key
  rw [← hde]
  simp only [zN_lit]
  rw [zN_mul, zN_add, if_neg (show ¬ oob (zN (70 * t + k)) 210 by rw [zN_oobF (by omega)]; exact id), zN_nat (by omega), p4, t4, Option.bind_some, t3, Option.bind_some, t5, Option.bind_some]
  exact key
