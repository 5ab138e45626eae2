/-! a page with one number changed -/
def up (P : Nat → Nat) (j v : Nat) : Nat → Nat := fun i => if i = j then v else P i
theorem up_eq (P : Nat → Nat) (j v : Nat) : up P j v j = v := if_pos rfl
theorem up_ne {P : Nat → Nat} {j v i : Nat} (h : i ≠ j) : up P j v i = P i := if_neg h
theorem MNow_up {M : zMM} {P : Nat → Nat} {j v : Nat} (h : MNow M P) : MNow (wr M 159 j (zN v)) (up P j v) := by
  intro i hi
  by_cases e : i = j
  · subst e; rw [wr_cj, up_eq]
  · rw [wr_nj (by omega), up_ne e]; exact h i hi
theorem Leaf_up0 {M : zMM} {b v : Nat} {P : Nat → Nat} (h : Leaf M b P) : Leaf (wr M b 0 (zN v)) b (up P 0 v) := by
  obtain ⟨⟨l0, l1, l2, l3, l4, l5, l6⟩, lw, lc, ls, lt⟩ := h
  refine ⟨⟨by rw [wr_cj, up_eq], by rw [wr_nj (by omega), up_ne (by omega)]; exact l1, by rw [wr_nj (by omega), up_ne (by omega)]; exact l2, by rw [wr_nj (by omega), up_ne (by omega)]; exact l3, by rw [wr_nj (by omega), up_ne (by omega)]; exact l4, by rw [wr_nj (by omega), up_ne (by omega)]; exact l5, by rw [wr_nj (by omega), up_ne (by omega)]; exact l6⟩, fun i hi => ?_, fun t ht => ?_, fun t ht k hk => ?_, fun i hi => ?_⟩
  · rw [wr_nj (by omega), up_ne (by omega)]; exact lw i hi
  · rw [wr_nj (by omega), up_ne (by omega)]; exact lc t ht
  · rw [up_ne (by omega)] at hk
    rw [wr_nj (by omega)]; unfold pSz; rw [up_ne (by omega)]; exact ls t ht k hk
  · rw [up_ne (by omega)] at hi
    rw [wr_nj (by omega), wr_nj (by omega), wr_nj (by omega), up_ne (by omega), up_ne (by omega), up_ne (by omega)]; exact lt i hi
theorem Leaf_up1 {M : zMM} {b v : Nat} {P : Nat → Nat} (h : Leaf M b P) : Leaf (wr M b 1 (zN v)) b (up P 1 v) := by
  obtain ⟨⟨l0, l1, l2, l3, l4, l5, l6⟩, lw, lc, ls, lt⟩ := h
  refine ⟨⟨by rw [wr_nj (by omega), up_ne (by omega)]; exact l0, by rw [wr_cj, up_eq], by rw [wr_nj (by omega), up_ne (by omega)]; exact l2, by rw [wr_nj (by omega), up_ne (by omega)]; exact l3, by rw [wr_nj (by omega), up_ne (by omega)]; exact l4, by rw [wr_nj (by omega), up_ne (by omega)]; exact l5, by rw [wr_nj (by omega), up_ne (by omega)]; exact l6⟩, fun i hi => ?_, fun t ht => ?_, fun t ht k hk => ?_, fun i hi => ?_⟩
  · rw [wr_nj (by omega), up_ne (by omega)]; exact lw i hi
  · rw [wr_nj (by omega), up_ne (by omega)]; exact lc t ht
  · rw [up_ne (by omega)] at hk
    rw [wr_nj (by omega)]; unfold pSz; rw [up_ne (by omega)]; exact ls t ht k hk
  · rw [up_ne (by omega)] at hi
    rw [wr_nj (by omega), wr_nj (by omega), wr_nj (by omega), up_ne (by omega), up_ne (by omega), up_ne (by omega)]; exact lt i hi
theorem Leaf_up255 {M : zMM} {b v : Nat} {P : Nat → Nat} (cok : ∀ t, t < 3 → P (5 + t) ≤ 70) (tok : P 218 ≤ 12) (h : Leaf M b P) : Leaf (wr M b 2 (zN v)) b (up P 255 v) := by
  obtain ⟨⟨l0, l1, l2, l3, l4, l5, l6⟩, lw, lc, ls, lt⟩ := h
  refine ⟨⟨by rw [wr_nj (by omega), up_ne (by omega)]; exact l0, by rw [wr_nj (by omega), up_ne (by omega)]; exact l1, by rw [wr_cj, up_eq], by rw [wr_nj (by omega), up_ne (by omega)]; exact l3, by rw [wr_nj (by omega), up_ne (by omega)]; exact l4, by rw [wr_nj (by omega), up_ne (by omega)]; exact l5, by rw [wr_nj (by omega), up_ne (by omega)]; exact l6⟩, fun i hi => ?_, fun t ht => ?_, fun t ht k hk => ?_, fun i hi => ?_⟩
  · rw [wr_nj (by omega), up_ne (by omega)]; exact lw i hi
  · rw [wr_nj (by omega), up_ne (by omega)]; exact lc t ht
  · rw [up_ne (by omega)] at hk
    have := cok t ht; rw [wr_nj (by omega)]; unfold pSz; rw [up_ne (by omega)]; exact ls t ht k hk
  · rw [up_ne (by omega)] at hi
    rw [wr_nj (by omega), wr_nj (by omega), wr_nj (by omega), up_ne (by omega), up_ne (by omega), up_ne (by omega)]; exact lt i hi
theorem Leaf_up2 {M : zMM} {b v : Nat} {P : Nat → Nat} (h : Leaf M b P) : Leaf (wr M b 3 (zN v)) b (up P 2 v) := by
  obtain ⟨⟨l0, l1, l2, l3, l4, l5, l6⟩, lw, lc, ls, lt⟩ := h
  refine ⟨⟨by rw [wr_nj (by omega), up_ne (by omega)]; exact l0, by rw [wr_nj (by omega), up_ne (by omega)]; exact l1, by rw [wr_nj (by omega), up_ne (by omega)]; exact l2, by rw [wr_cj, up_eq], by rw [wr_nj (by omega), up_ne (by omega)]; exact l4, by rw [wr_nj (by omega), up_ne (by omega)]; exact l5, by rw [wr_nj (by omega), up_ne (by omega)]; exact l6⟩, fun i hi => ?_, fun t ht => ?_, fun t ht k hk => ?_, fun i hi => ?_⟩
  · rw [wr_nj (by omega), up_ne (by omega)]; exact lw i hi
  · rw [wr_nj (by omega), up_ne (by omega)]; exact lc t ht
  · rw [up_ne (by omega)] at hk
    rw [wr_nj (by omega)]; unfold pSz; rw [up_ne (by omega)]; exact ls t ht k hk
  · rw [up_ne (by omega)] at hi
    rw [wr_nj (by omega), wr_nj (by omega), wr_nj (by omega), up_ne (by omega), up_ne (by omega), up_ne (by omega)]; exact lt i hi
theorem Leaf_up3 {M : zMM} {b v : Nat} {P : Nat → Nat} (h : Leaf M b P) : Leaf (wr M b 4 (zN v)) b (up P 3 v) := by
  obtain ⟨⟨l0, l1, l2, l3, l4, l5, l6⟩, lw, lc, ls, lt⟩ := h
  refine ⟨⟨by rw [wr_nj (by omega), up_ne (by omega)]; exact l0, by rw [wr_nj (by omega), up_ne (by omega)]; exact l1, by rw [wr_nj (by omega), up_ne (by omega)]; exact l2, by rw [wr_nj (by omega), up_ne (by omega)]; exact l3, by rw [wr_cj, up_eq], by rw [wr_nj (by omega), up_ne (by omega)]; exact l5, by rw [wr_nj (by omega), up_ne (by omega)]; exact l6⟩, fun i hi => ?_, fun t ht => ?_, fun t ht k hk => ?_, fun i hi => ?_⟩
  · rw [wr_nj (by omega), up_ne (by omega)]; exact lw i hi
  · rw [wr_nj (by omega), up_ne (by omega)]; exact lc t ht
  · rw [up_ne (by omega)] at hk
    rw [wr_nj (by omega)]; unfold pSz; rw [up_ne (by omega)]; exact ls t ht k hk
  · rw [up_ne (by omega)] at hi
    rw [wr_nj (by omega), wr_nj (by omega), wr_nj (by omega), up_ne (by omega), up_ne (by omega), up_ne (by omega)]; exact lt i hi
theorem Leaf_up4 {M : zMM} {b v : Nat} {P : Nat → Nat} (h : Leaf M b P) : Leaf (wr M b 5 (zN v)) b (up P 4 v) := by
  obtain ⟨⟨l0, l1, l2, l3, l4, l5, l6⟩, lw, lc, ls, lt⟩ := h
  refine ⟨⟨by rw [wr_nj (by omega), up_ne (by omega)]; exact l0, by rw [wr_nj (by omega), up_ne (by omega)]; exact l1, by rw [wr_nj (by omega), up_ne (by omega)]; exact l2, by rw [wr_nj (by omega), up_ne (by omega)]; exact l3, by rw [wr_nj (by omega), up_ne (by omega)]; exact l4, by rw [wr_cj, up_eq], by rw [wr_nj (by omega), up_ne (by omega)]; exact l6⟩, fun i hi => ?_, fun t ht => ?_, fun t ht k hk => ?_, fun i hi => ?_⟩
  · rw [wr_nj (by omega), up_ne (by omega)]; exact lw i hi
  · rw [wr_nj (by omega), up_ne (by omega)]; exact lc t ht
  · rw [up_ne (by omega)] at hk
    rw [wr_nj (by omega)]; unfold pSz; rw [up_ne (by omega)]; exact ls t ht k hk
  · rw [up_ne (by omega)] at hi
    rw [wr_nj (by omega), wr_nj (by omega), wr_nj (by omega), up_ne (by omega), up_ne (by omega), up_ne (by omega)]; exact lt i hi
theorem Leaf_upW {M : zMM} {b v w : Nat} {P : Nat → Nat} (hw : w < 3) (cok : ∀ t, t < 3 → P (5 + t) ≤ 70) (tok : P 218 ≤ 12) (h : Leaf M b P) : Leaf (wr M (b + 1) w (zN v)) b (up P (256 + w) v) := by
  obtain ⟨⟨l0, l1, l2, l3, l4, l5, l6⟩, lw, lc, ls, lt⟩ := h
  refine ⟨⟨by rw [wr_nj (by omega), up_ne (by omega)]; exact l0, by rw [wr_nj (by omega), up_ne (by omega)]; exact l1, by rw [wr_nj (by omega), up_ne (by omega)]; exact l2, by rw [wr_nj (by omega), up_ne (by omega)]; exact l3, by rw [wr_nj (by omega), up_ne (by omega)]; exact l4, by rw [wr_nj (by omega), up_ne (by omega)]; exact l5, by rw [wr_nj (by omega), up_ne (by omega)]; exact l6⟩, fun i hi => ?_, fun t ht => ?_, fun t ht k hk => ?_, fun i hi => ?_⟩
  · by_cases e : i = w
    · subst e; rw [wr_cj, up_eq]
    · rw [wr_nj (by omega), up_ne (by omega)]; exact lw i hi
  · rw [wr_nj (by omega), up_ne (by omega)]; exact lc t ht
  · rw [up_ne (by omega)] at hk
    have := cok t ht
    rw [wr_nj (by omega)]; unfold pSz; rw [up_ne (by omega)]; exact ls t ht k hk
  · rw [up_ne (by omega)] at hi
    rw [wr_nj (by omega), wr_nj (by omega), wr_nj (by omega), up_ne (by omega), up_ne (by omega), up_ne (by omega)]; exact lt i hi
/-- a plan that can be -/
def pOK (P : Nat → Nat) (c i o : Nat) : Prop := c ≤ 9 ∧ c < P 1 ∧ 9 ≤ i ∧ i ≤ 40 ∧ 9 ≤ o ∧ o ≤ 40 ∧ i + o + 9 + 2 * P 255 ≤ P 0
def plP (P : Nat → Nat) (c i o : Nat) : Nat → Nat := up (up (up P 2 c) 3 i) 4 o
theorem plP_ne {P : Nat → Nat} {c i o j : Nat} (h : j < 2 ∨ 4 < j) : plP P c i o j = P j := by unfold plP; rw [up_ne (by omega), up_ne (by omega), up_ne (by omega)]
theorem plP_2 (P : Nat → Nat) (c i o : Nat) : plP P c i o 2 = c := by unfold plP; rw [up_ne (by omega), up_ne (by omega), up_eq]
theorem plP_3 (P : Nat → Nat) (c i o : Nat) : plP P c i o 3 = i := by unfold plP; rw [up_ne (by omega), up_eq]
theorem plP_4 (P : Nat → Nat) (c i o : Nat) : plP P c i o 4 = o := by unfold plP; rw [up_eq]
theorem Leaf_pl {M : zMM} {b c i o : Nat} {P : Nat → Nat} (h : Leaf M b P) : Leaf (wr (wr (wr M b 3 (zN c)) b 4 (zN i)) b 5 (zN o)) b (plP P c i o) := Leaf_up4 (Leaf_up3 (Leaf_up2 h))
theorem MNow_pl {M : zMM} {c i o : Nat} {P : Nat → Nat} (h : MNow M P) : MNow (wr (wr (wr M 159 2 (zN c)) 159 3 (zN i)) 159 4 (zN o)) (plP P c i o) := MNow_up (MNow_up (MNow_up h))
theorem Good_pl {P : Nat → Nat} (hP : Good P) {c i o : Nat} (h : pOK P c i o) : Good (plP P c i o) := by
  obtain ⟨h1, h2, h3, h4⟩ := hP
  unfold pOK at h
  refine ⟨?_, ?_, ?_, ?_⟩
  · simp (disch := omega) only [plP_ne, plP_2, plP_3, plP_4]; omega
  · intro t ht; unfold pSz; simp (disch := omega) only [plP_ne]; exact h2 t ht
  · simp (disch := omega) only [plP_ne]; exact h3
  · simp (disch := omega) only [plP_ne]; exact h4
theorem pOK_self {P : Nat → Nat} (hP : Good P) : pOK P (P 2) (P 3) (P 4) := by
  have := hP.1
  unfold pOK; omega
theorem Good_up0 {P : Nat → Nat} (hP : Good P) {v : Nat} (h : 29 ≤ v ∧ v ≤ 60 ∧ P 3 + P 4 + 9 + 2 * P 255 ≤ v) : Good (up P 0 v) := by
  obtain ⟨h1, h2, h3, h4⟩ := hP
  refine ⟨?_, ?_, ?_, ?_⟩
  · simp (disch := omega) only [up_ne, up_eq]; omega
  · intro t ht; unfold pSz; simp (disch := omega) only [up_ne]; exact h2 t ht
  · simp (disch := omega) only [up_ne]; exact h3
  · simp (disch := omega) only [up_ne]; exact h4
theorem Good_up1 {P : Nat → Nat} (hP : Good P) {v : Nat} (h : 3 ≤ v ∧ v ≤ 40 ∧ P 2 < v) : Good (up P 1 v) := by
  obtain ⟨h1, h2, h3, h4⟩ := hP
  refine ⟨?_, ?_, ?_, ?_⟩
  · simp (disch := omega) only [up_ne, up_eq]; omega
  · intro t ht; unfold pSz; simp (disch := omega) only [up_ne]; exact h2 t ht
  · simp (disch := omega) only [up_ne]; exact h3
  · simp (disch := omega) only [up_ne]; exact h4
theorem Good_up255 {P : Nat → Nat} (hP : Good P) {v : Nat} (h : 1 ≤ v ∧ v ≤ 4 ∧ P 3 + P 4 + 9 + 2 * v ≤ P 0) : Good (up P 255 v) := by
  obtain ⟨h1, h2, h3, h4⟩ := hP
  refine ⟨?_, ?_, ?_, ?_⟩
  · simp (disch := omega) only [up_ne, up_eq]; omega
  · intro t ht
    have h2t := h2 t ht
    have e : up P 255 v (5 + t) = P (5 + t) := up_ne (by omega)
    rw [e]
    refine ⟨h2t.1, fun k hk => ?_⟩
    unfold pSz; rw [up_ne (by omega)]; exact h2t.2 k hk
  · rw [up_ne (by omega)]
    refine ⟨h3.1, fun i hi => ?_⟩
    have := h3.2 i hi
    have := h3.1
    simp (disch := omega) only [up_ne]; exact h3.2 i hi
  · simp (disch := omega) only [up_ne]; exact h4
theorem Good_upW {P : Nat → Nat} (hP : Good P) {v w : Nat} (hw : w < 3) (h : v ≤ 10000 ∧ (w = 2 → v ≤ 100)) : Good (up P (256 + w) v) := by
  obtain ⟨h1, h2, h3, h4⟩ := hP
  refine ⟨?_, ?_, ?_, ?_⟩
  · simp (disch := omega) only [up_ne, up_eq]; omega
  · intro t ht
    have h2t := h2 t ht
    have e : up P (256 + w) v (5 + t) = P (5 + t) := up_ne (by omega)
    rw [e]
    refine ⟨h2t.1, fun k hk => ?_⟩
    unfold pSz; rw [up_ne (by omega)]; exact h2t.2 k hk
  · rw [up_ne (by omega)]
    refine ⟨h3.1, fun i hi => ?_⟩
    have := h3.2 i hi
    have := h3.1
    simp (disch := omega) only [up_ne]; exact h3.2 i hi
  · have e : w = 0 ∨ w = 1 ∨ w = 2 := by omega
    rcases e with rfl | rfl | rfl <;> simp (disch := omega) only [up_ne, up_eq, Nat.reduceAdd] <;> omega
/-! what arguments can be -/
theorem zcaseR (x : Int32) (lo hi : Nat) : (∃ n, lo ≤ n ∧ n ≤ hi ∧ x = zN n) ∨ x < 0 ∨ (∃ n, n < 2147483648 ∧ x = zN n ∧ ¬ (lo ≤ n ∧ n ≤ hi)) := by
  rcases zcase x with h | ⟨n, hn, e⟩
  · exact Or.inr (Or.inl h)
  · by_cases c : lo ≤ n ∧ n ≤ hi
    · exact Or.inl ⟨n, c.1, c.2, e⟩
    · exact Or.inr (Or.inr ⟨n, hn, e, c⟩)
theorem in7g {x : Int32} (h : x < 0) {lo : Nat} (hl : lo < 2147483648) (y : Int32) (M : zMM) : fX7_in x (zN lo) y M = some (zN 0, M) := by
  unfold fX7_in
  rw [if_pos (by rw [zg_lt h hl]; trivial)]; rfl
theorem in7T {a lo hi : Nat} (h : lo ≤ a ∧ a ≤ hi ∧ hi < 2147483648) (M : zMM) : fX7_in (zN a) (zN lo) (zN hi) M = some (zN 1, M) := by
  unfold fX7_in
  simp (disch := omega) only [wr_cj, wr_nj, rng_in, rng_out, zN_lit, zN_add, zN_mul, zN_sub, zN_ltT, zN_ltF, zN_leT, zN_leF, zN_eqT, zN_eqF, zN_lt, zN_le, zN_eq, zN_nat, zN_oobF, Option.bind_some, ↓reduceIte, Nat.one_mul, Nat.zero_add, Nat.add_zero, Nat.reduceAdd, Nat.reduceMul, Nat.reduceSub, Nat.reduceLT, Nat.reduceLeDiff, Nat.reduceEqDiff, reduceCtorEq, true_or, or_true, false_or, or_false, true_and, and_true, false_and, and_false, not_true_eq_false, not_false_eq_true, wr_2, wrL_1, zm_eqF, zm_eqF', zm_lt, zm_lt', zm_le, zm_le', zm_sub1, zN_01, Nat.mul_zero, Nat.zero_mul, Nat.mul_one, Nat.sub_zero, Nat.sub_self]
theorem in7F {a lo hi : Nat} (h : ¬ (lo ≤ a ∧ a ≤ hi) ∧ a < 2147483648 ∧ hi < 2147483648 ∧ lo < 2147483648) (M : zMM) : fX7_in (zN a) (zN lo) (zN hi) M = some (zN 0, M) := by
  unfold fX7_in
  by_cases c : a < lo
  · simp (disch := omega) only [wr_cj, wr_nj, rng_in, rng_out, zN_lit, zN_add, zN_mul, zN_sub, zN_ltT, zN_ltF, zN_leT, zN_leF, zN_eqT, zN_eqF, zN_lt, zN_le, zN_eq, zN_nat, zN_oobF, Option.bind_some, ↓reduceIte, Nat.one_mul, Nat.zero_add, Nat.add_zero, Nat.reduceAdd, Nat.reduceMul, Nat.reduceSub, Nat.reduceLT, Nat.reduceLeDiff, Nat.reduceEqDiff, reduceCtorEq, true_or, or_true, false_or, or_false, true_and, and_true, false_and, and_false, not_true_eq_false, not_false_eq_true, wr_2, wrL_1, zm_eqF, zm_eqF', zm_lt, zm_lt', zm_le, zm_le', zm_sub1, zN_01, Nat.mul_zero, Nat.zero_mul, Nat.mul_one, Nat.sub_zero, Nat.sub_self]
  · simp (disch := omega) only [wr_cj, wr_nj, rng_in, rng_out, zN_lit, zN_add, zN_mul, zN_sub, zN_ltT, zN_ltF, zN_leT, zN_leF, zN_eqT, zN_eqF, zN_lt, zN_le, zN_eq, zN_nat, zN_oobF, Option.bind_some, ↓reduceIte, Nat.one_mul, Nat.zero_add, Nat.add_zero, Nat.reduceAdd, Nat.reduceMul, Nat.reduceSub, Nat.reduceLT, Nat.reduceLeDiff, Nat.reduceEqDiff, reduceCtorEq, true_or, or_true, false_or, or_false, true_and, and_true, false_and, and_false, not_true_eq_false, not_false_eq_true, wr_2, wrL_1, zm_eqF, zm_eqF', zm_lt, zm_lt', zm_le, zm_le', zm_sub1, zN_01, Nat.mul_zero, Nat.zero_mul, Nat.mul_one, Nat.sub_zero, Nat.sub_self]
theorem in7M {a lo : Nat} (h : a < 2147483648 ∧ lo < 2147483648) (M : zMM) : fX7_in (zN a) (zN lo) (-zN 1) M = some (zN 0, M) := by
  unfold fX7_in
  by_cases c : a < lo
  · simp (disch := omega) only [wr_cj, wr_nj, rng_in, rng_out, zN_lit, zN_add, zN_mul, zN_sub, zN_ltT, zN_ltF, zN_leT, zN_leF, zN_eqT, zN_eqF, zN_lt, zN_le, zN_eq, zN_nat, zN_oobF, Option.bind_some, ↓reduceIte, Nat.one_mul, Nat.zero_add, Nat.add_zero, Nat.reduceAdd, Nat.reduceMul, Nat.reduceSub, Nat.reduceLT, Nat.reduceLeDiff, Nat.reduceEqDiff, reduceCtorEq, true_or, or_true, false_or, or_false, true_and, and_true, false_and, and_false, not_true_eq_false, not_false_eq_true, wr_2, wrL_1, zm_eqF, zm_eqF', zm_lt, zm_lt', zm_le, zm_le', zm_sub1, zN_01, Nat.mul_zero, Nat.zero_mul, Nat.mul_one, Nat.sub_zero, Nat.sub_self]
  · simp (disch := omega) only [wr_cj, wr_nj, rng_in, rng_out, zN_lit, zN_add, zN_mul, zN_sub, zN_ltT, zN_ltF, zN_leT, zN_leF, zN_eqT, zN_eqF, zN_lt, zN_le, zN_eq, zN_nat, zN_oobF, Option.bind_some, ↓reduceIte, Nat.one_mul, Nat.zero_add, Nat.add_zero, Nat.reduceAdd, Nat.reduceMul, Nat.reduceSub, Nat.reduceLT, Nat.reduceLeDiff, Nat.reduceEqDiff, reduceCtorEq, true_or, or_true, false_or, or_false, true_and, and_true, false_and, and_false, not_true_eq_false, not_false_eq_true, wr_2, wrL_1, zm_eqF, zm_eqF', zm_lt, zm_lt', zm_le, zm_le', zm_sub1, zN_01, Nat.mul_zero, Nat.zero_mul, Nat.mul_one, Nat.sub_zero, Nat.sub_self]
theorem isText6T {t : Nat} (ht : t < 3) (M : zMM) : fX6_isText (zN t) M = some (zN 1, M) := by
  unfold fX6_isText; simp (disch := omega) only [wr_cj, wr_nj, rng_in, rng_out, zN_lit, zN_add, zN_mul, zN_sub, zN_ltT, zN_ltF, zN_leT, zN_leF, zN_eqT, zN_eqF, zN_lt, zN_le, zN_eq, zN_nat, zN_oobF, Option.bind_some, ↓reduceIte, Nat.one_mul, Nat.zero_add, Nat.add_zero, Nat.reduceAdd, Nat.reduceMul, Nat.reduceSub, Nat.reduceLT, Nat.reduceLeDiff, Nat.reduceEqDiff, reduceCtorEq, true_or, or_true, false_or, or_false, true_and, and_true, false_and, and_false, not_true_eq_false, not_false_eq_true, wr_2, wrL_1, zm_eqF, zm_eqF', zm_lt, zm_lt', zm_le, zm_le', zm_sub1, zN_01, Nat.mul_zero, Nat.zero_mul, Nat.mul_one, Nat.sub_zero, Nat.sub_self]
theorem isText7T {t : Nat} (ht : t < 3) (M : zMM) : fX7_isText (zN t) M = some (zN 1, M) := by
  have := in7T (a := t) (lo := 0) (hi := 2) (by omega) M
  unfold fX7_isText; simp (disch := omega) only [wr_cj, wr_nj, rng_in, rng_out, zN_lit, zN_add, zN_mul, zN_sub, zN_ltT, zN_ltF, zN_leT, zN_leF, zN_eqT, zN_eqF, zN_lt, zN_le, zN_eq, zN_nat, zN_oobF, Option.bind_some, ↓reduceIte, Nat.one_mul, Nat.zero_add, Nat.add_zero, Nat.reduceAdd, Nat.reduceMul, Nat.reduceSub, Nat.reduceLT, Nat.reduceLeDiff, Nat.reduceEqDiff, reduceCtorEq, true_or, or_true, false_or, or_false, true_and, and_true, false_and, and_false, not_true_eq_false, not_false_eq_true, wr_2, wrL_1, zm_eqF, zm_eqF', zm_lt, zm_lt', zm_le, zm_le', zm_sub1, zN_01, Nat.mul_zero, Nat.zero_mul, Nat.mul_one, Nat.sub_zero, Nat.sub_self, this]
theorem text_case (x : Int32) : (∃ t, t < 3 ∧ x = zN t) ∨ (∀ M, fX6_isText x M = some (zN 0, M) ∧ fX7_isText x M = some (zN 0, M)) := by
  rcases zcaseR x 0 2 with ⟨n, -, h, e⟩ | h | ⟨n, hn, rfl, h⟩
  · exact Or.inl ⟨n, by omega, e⟩
  · right; intro M
    have := in7g h (lo := 0) (by omega) (zN 2) M
    constructor
    · unfold fX6_isText; simp (disch := omega) only [wr_cj, wr_nj, rng_in, rng_out, zN_lit, zN_add, zN_mul, zN_sub, zN_ltT, zN_ltF, zN_leT, zN_leF, zN_eqT, zN_eqF, zN_lt, zN_le, zN_eq, zN_nat, zN_oobF, Option.bind_some, ↓reduceIte, Nat.one_mul, Nat.zero_add, Nat.add_zero, Nat.reduceAdd, Nat.reduceMul, Nat.reduceSub, Nat.reduceLT, Nat.reduceLeDiff, Nat.reduceEqDiff, reduceCtorEq, true_or, or_true, false_or, or_false, true_and, and_true, false_and, and_false, not_true_eq_false, not_false_eq_true, wr_2, wrL_1, zm_eqF, zm_eqF', zm_lt, zm_lt', zm_le, zm_le', zm_sub1, zN_01, Nat.mul_zero, Nat.zero_mul, Nat.mul_one, Nat.sub_zero, Nat.sub_self, zg_lt h]
    · unfold fX7_isText; simp (disch := omega) only [wr_cj, wr_nj, rng_in, rng_out, zN_lit, zN_add, zN_mul, zN_sub, zN_ltT, zN_ltF, zN_leT, zN_leF, zN_eqT, zN_eqF, zN_lt, zN_le, zN_eq, zN_nat, zN_oobF, Option.bind_some, ↓reduceIte, Nat.one_mul, Nat.zero_add, Nat.add_zero, Nat.reduceAdd, Nat.reduceMul, Nat.reduceSub, Nat.reduceLT, Nat.reduceLeDiff, Nat.reduceEqDiff, reduceCtorEq, true_or, or_true, false_or, or_false, true_and, and_true, false_and, and_false, not_true_eq_false, not_false_eq_true, wr_2, wrL_1, zm_eqF, zm_eqF', zm_lt, zm_lt', zm_le, zm_le', zm_sub1, zN_01, Nat.mul_zero, Nat.zero_mul, Nat.mul_one, Nat.sub_zero, Nat.sub_self, this]
  · right; intro M
    have := in7F (a := n) (lo := 0) (hi := 2) (by omega) M
    constructor
    · unfold fX6_isText; simp (disch := omega) only [wr_cj, wr_nj, rng_in, rng_out, zN_lit, zN_add, zN_mul, zN_sub, zN_ltT, zN_ltF, zN_leT, zN_leF, zN_eqT, zN_eqF, zN_lt, zN_le, zN_eq, zN_nat, zN_oobF, Option.bind_some, ↓reduceIte, Nat.one_mul, Nat.zero_add, Nat.add_zero, Nat.reduceAdd, Nat.reduceMul, Nat.reduceSub, Nat.reduceLT, Nat.reduceLeDiff, Nat.reduceEqDiff, reduceCtorEq, true_or, or_true, false_or, or_false, true_and, and_true, false_and, and_false, not_true_eq_false, not_false_eq_true, wr_2, wrL_1, zm_eqF, zm_eqF', zm_lt, zm_lt', zm_le, zm_le', zm_sub1, zN_01, Nat.mul_zero, Nat.zero_mul, Nat.mul_one, Nat.sub_zero, Nat.sub_self]
    · unfold fX7_isText; simp (disch := omega) only [wr_cj, wr_nj, rng_in, rng_out, zN_lit, zN_add, zN_mul, zN_sub, zN_ltT, zN_ltF, zN_leT, zN_leF, zN_eqT, zN_eqF, zN_lt, zN_le, zN_eq, zN_nat, zN_oobF, Option.bind_some, ↓reduceIte, Nat.one_mul, Nat.zero_add, Nat.add_zero, Nat.reduceAdd, Nat.reduceMul, Nat.reduceSub, Nat.reduceLT, Nat.reduceLeDiff, Nat.reduceEqDiff, reduceCtorEq, true_or, or_true, false_or, or_false, true_and, and_true, false_and, and_false, not_true_eq_false, not_false_eq_true, wr_2, wrL_1, zm_eqF, zm_eqF', zm_lt, zm_lt', zm_le, zm_le', zm_sub1, zN_01, Nat.mul_zero, Nat.zero_mul, Nat.mul_one, Nat.sub_zero, Nat.sub_self, this]
theorem hasWord0 {P : Nat → Nat} (hP : Good P) {b t k : Nat} {M : zMM} (hL : Leaf M b P) (ht : t < 3) (hk : k < 2147483648) : fX0_hasWord b (zN t) (zN k) M = some (zN (if k < P (5 + t) then 1 else 0), M) := by
  have h1 := isText6T ht M
  have h2 := hL.2.2.1 t ht
  have h3 := (hP.2.1 t ht).1
  unfold fX0_hasWord
  by_cases c : k < P (5 + t)
  · rw [if_pos c]; simp (disch := omega) only [wr_cj, wr_nj, rng_in, rng_out, zN_lit, zN_add, zN_mul, zN_sub, zN_ltT, zN_ltF, zN_leT, zN_leF, zN_eqT, zN_eqF, zN_lt, zN_le, zN_eq, zN_nat, zN_oobF, Option.bind_some, ↓reduceIte, Nat.one_mul, Nat.zero_add, Nat.add_zero, Nat.reduceAdd, Nat.reduceMul, Nat.reduceSub, Nat.reduceLT, Nat.reduceLeDiff, Nat.reduceEqDiff, reduceCtorEq, true_or, or_true, false_or, or_false, true_and, and_true, false_and, and_false, not_true_eq_false, not_false_eq_true, wr_2, wrL_1, zm_eqF, zm_eqF', zm_lt, zm_lt', zm_le, zm_le', zm_sub1, zN_01, Nat.mul_zero, Nat.zero_mul, Nat.mul_one, Nat.sub_zero, Nat.sub_self, h1, h2]
  · rw [if_neg c]; simp (disch := omega) only [wr_cj, wr_nj, rng_in, rng_out, zN_lit, zN_add, zN_mul, zN_sub, zN_ltT, zN_ltF, zN_leT, zN_leF, zN_eqT, zN_eqF, zN_lt, zN_le, zN_eq, zN_nat, zN_oobF, Option.bind_some, ↓reduceIte, Nat.one_mul, Nat.zero_add, Nat.add_zero, Nat.reduceAdd, Nat.reduceMul, Nat.reduceSub, Nat.reduceLT, Nat.reduceLeDiff, Nat.reduceEqDiff, reduceCtorEq, true_or, or_true, false_or, or_false, true_and, and_true, false_and, and_false, not_true_eq_false, not_false_eq_true, wr_2, wrL_1, zm_eqF, zm_eqF', zm_lt, zm_lt', zm_le, zm_le', zm_sub1, zN_01, Nat.mul_zero, Nat.zero_mul, Nat.mul_one, Nat.sub_zero, Nat.sub_self, h1, h2]
theorem isWord7 {P : Nat → Nat} (hP : Good P) {t k : Nat} {M : zMM} (hM : MNow M P) (ht : t < 3) (hk : k < 2147483648) : fX7_isWord (zN t) (zN k) M = some (zN (if k < P (5 + t) then 1 else 0), M) := by
  have h1 := isText7T ht M
  have h2 := hM (5 + t) (by omega)
  have h3 := (hP.2.1 t ht).1
  unfold fX7_isWord
  by_cases c : k < P (5 + t)
  · have := in7T (a := k) (lo := 0) (hi := P (5 + t) - 1) (by omega) M
    rw [if_pos c]; simp (disch := omega) only [wr_cj, wr_nj, rng_in, rng_out, zN_lit, zN_add, zN_mul, zN_sub, zN_ltT, zN_ltF, zN_leT, zN_leF, zN_eqT, zN_eqF, zN_lt, zN_le, zN_eq, zN_nat, zN_oobF, Option.bind_some, ↓reduceIte, Nat.one_mul, Nat.zero_add, Nat.add_zero, Nat.reduceAdd, Nat.reduceMul, Nat.reduceSub, Nat.reduceLT, Nat.reduceLeDiff, Nat.reduceEqDiff, reduceCtorEq, true_or, or_true, false_or, or_false, true_and, and_true, false_and, and_false, not_true_eq_false, not_false_eq_true, wr_2, wrL_1, zm_eqF, zm_eqF', zm_lt, zm_lt', zm_le, zm_le', zm_sub1, zN_01, Nat.mul_zero, Nat.zero_mul, Nat.mul_one, Nat.sub_zero, Nat.sub_self, h1, h2, this]
  · by_cases d : P (5 + t) = 0
    · have := in7M (a := k) (lo := 0) (by omega) M
      rw [d] at h2
      rw [if_neg c]; simp (disch := omega) only [wr_cj, wr_nj, rng_in, rng_out, zN_lit, zN_add, zN_mul, zN_sub, zN_ltT, zN_ltF, zN_leT, zN_leF, zN_eqT, zN_eqF, zN_lt, zN_le, zN_eq, zN_nat, zN_oobF, Option.bind_some, ↓reduceIte, Nat.one_mul, Nat.zero_add, Nat.add_zero, Nat.reduceAdd, Nat.reduceMul, Nat.reduceSub, Nat.reduceLT, Nat.reduceLeDiff, Nat.reduceEqDiff, reduceCtorEq, true_or, or_true, false_or, or_false, true_and, and_true, false_and, and_false, not_true_eq_false, not_false_eq_true, wr_2, wrL_1, zm_eqF, zm_eqF', zm_lt, zm_lt', zm_le, zm_le', zm_sub1, zN_01, Nat.mul_zero, Nat.zero_mul, Nat.mul_one, Nat.sub_zero, Nat.sub_self, h1, h2, this]
    · have := in7F (a := k) (lo := 0) (hi := P (5 + t) - 1) (by omega) M
      rw [if_neg c]; simp (disch := omega) only [wr_cj, wr_nj, rng_in, rng_out, zN_lit, zN_add, zN_mul, zN_sub, zN_ltT, zN_ltF, zN_leT, zN_leF, zN_eqT, zN_eqF, zN_lt, zN_le, zN_eq, zN_nat, zN_oobF, Option.bind_some, ↓reduceIte, Nat.one_mul, Nat.zero_add, Nat.add_zero, Nat.reduceAdd, Nat.reduceMul, Nat.reduceSub, Nat.reduceLT, Nat.reduceLeDiff, Nat.reduceEqDiff, reduceCtorEq, true_or, or_true, false_or, or_false, true_and, and_true, false_and, and_false, not_true_eq_false, not_false_eq_true, wr_2, wrL_1, zm_eqF, zm_eqF', zm_lt, zm_lt', zm_le, zm_le', zm_sub1, zN_01, Nat.mul_zero, Nat.zero_mul, Nat.mul_one, Nat.sub_zero, Nat.sub_self, h1, h2, this]
theorem word_case {P : Nat → Nat} (hP : Good P) (x y : Int32) : (∃ t k, t < 3 ∧ k < P (5 + t) ∧ x = zN t ∧ y = zN k) ∨ ((∀ M b, Leaf M b P → fX0_hasWord b x y M = some (zN 0, M)) ∧ (∀ M, MNow M P → fX7_isWord x y M = some (zN 0, M))) := by
  rcases text_case x with ⟨t, ht, rfl⟩ | h
  · have h3 := (hP.2.1 t ht).1
    rcases zcase y with h | ⟨k, hk, rfl⟩
    · right
      constructor
      · intro M b hL
        have h1 := isText6T ht M
        unfold fX0_hasWord; simp (disch := omega) only [wr_cj, wr_nj, rng_in, rng_out, zN_lit, zN_add, zN_mul, zN_sub, zN_ltT, zN_ltF, zN_leT, zN_leF, zN_eqT, zN_eqF, zN_lt, zN_le, zN_eq, zN_nat, zN_oobF, Option.bind_some, ↓reduceIte, Nat.one_mul, Nat.zero_add, Nat.add_zero, Nat.reduceAdd, Nat.reduceMul, Nat.reduceSub, Nat.reduceLT, Nat.reduceLeDiff, Nat.reduceEqDiff, reduceCtorEq, true_or, or_true, false_or, or_false, true_and, and_true, false_and, and_false, not_true_eq_false, not_false_eq_true, wr_2, wrL_1, zm_eqF, zm_eqF', zm_lt, zm_lt', zm_le, zm_le', zm_sub1, zN_01, Nat.mul_zero, Nat.zero_mul, Nat.mul_one, Nat.sub_zero, Nat.sub_self, h1, zg_lt h]
      · intro M hM
        have h1 := isText7T ht M
        have h2 := hM (5 + t) (by omega)
        have := in7g h (lo := 0) (by omega)
        unfold fX7_isWord; simp (disch := omega) only [wr_cj, wr_nj, rng_in, rng_out, zN_lit, zN_add, zN_mul, zN_sub, zN_ltT, zN_ltF, zN_leT, zN_leF, zN_eqT, zN_eqF, zN_lt, zN_le, zN_eq, zN_nat, zN_oobF, Option.bind_some, ↓reduceIte, Nat.one_mul, Nat.zero_add, Nat.add_zero, Nat.reduceAdd, Nat.reduceMul, Nat.reduceSub, Nat.reduceLT, Nat.reduceLeDiff, Nat.reduceEqDiff, reduceCtorEq, true_or, or_true, false_or, or_false, true_and, and_true, false_and, and_false, not_true_eq_false, not_false_eq_true, wr_2, wrL_1, zm_eqF, zm_eqF', zm_lt, zm_lt', zm_le, zm_le', zm_sub1, zN_01, Nat.mul_zero, Nat.zero_mul, Nat.mul_one, Nat.sub_zero, Nat.sub_self, h1, h2, this]
    · by_cases c : k < P (5 + t)
      · exact Or.inl ⟨t, k, ht, c, rfl, rfl⟩
      · right
        constructor
        · intro M b hL; rw [hasWord0 hP hL ht hk, if_neg c]
        · intro M hM; rw [isWord7 hP hM ht hk, if_neg c]
  · right
    constructor
    · intro M b hL; unfold fX0_hasWord; simp (disch := omega) only [wr_cj, wr_nj, rng_in, rng_out, zN_lit, zN_add, zN_mul, zN_sub, zN_ltT, zN_ltF, zN_leT, zN_leF, zN_eqT, zN_eqF, zN_lt, zN_le, zN_eq, zN_nat, zN_oobF, Option.bind_some, ↓reduceIte, Nat.one_mul, Nat.zero_add, Nat.add_zero, Nat.reduceAdd, Nat.reduceMul, Nat.reduceSub, Nat.reduceLT, Nat.reduceLeDiff, Nat.reduceEqDiff, reduceCtorEq, true_or, or_true, false_or, or_false, true_and, and_true, false_and, and_false, not_true_eq_false, not_false_eq_true, wr_2, wrL_1, zm_eqF, zm_eqF', zm_lt, zm_lt', zm_le, zm_le', zm_sub1, zN_01, Nat.mul_zero, Nat.zero_mul, Nat.mul_one, Nat.sub_zero, Nat.sub_self, (h M).1]
    · intro M hM; unfold fX7_isWord; simp (disch := omega) only [wr_cj, wr_nj, rng_in, rng_out, zN_lit, zN_add, zN_mul, zN_sub, zN_ltT, zN_ltF, zN_leT, zN_leF, zN_eqT, zN_eqF, zN_lt, zN_le, zN_eq, zN_nat, zN_oobF, Option.bind_some, ↓reduceIte, Nat.one_mul, Nat.zero_add, Nat.add_zero, Nat.reduceAdd, Nat.reduceMul, Nat.reduceSub, Nat.reduceLT, Nat.reduceLeDiff, Nat.reduceEqDiff, reduceCtorEq, true_or, or_true, false_or, or_false, true_and, and_true, false_and, and_false, not_true_eq_false, not_false_eq_true, wr_2, wrL_1, zm_eqF, zm_eqF', zm_lt, zm_lt', zm_le, zm_le', zm_sub1, zN_01, Nat.mul_zero, Nat.zero_mul, Nat.mul_one, Nat.sub_zero, Nat.sub_self, (h M).2]
theorem allowsN {b c i o w h g : Nat} {M : zMM} (h0 : M.1 b 0 = zN w) (h1 : M.1 b 1 = zN h) (h2 : M.1 b 2 = zN g) (hb : 17 ≤ w ∧ w ≤ 60 ∧ h ≤ 40 ∧ g ≤ 4) (hc : c < 1000) (hi : i < 1000) (ho : o < 1000) :
    fX0_allows b (zN c) (zN i) (zN o) M = some (zN (if c ≤ 9 ∧ c < h ∧ 9 ≤ i ∧ i ≤ 40 ∧ 9 ≤ o ∧ o ≤ 40 ∧ i + o + 9 + 2 * g ≤ w then 1 else 0), M) := by
  generalize hv : (if c ≤ 9 ∧ c < h ∧ 9 ≤ i ∧ i ≤ 40 ∧ 9 ≤ o ∧ o ≤ 40 ∧ i + o + 9 + 2 * g ≤ w then 1 else 0) = v
  unfold fX0_allows
  by_cases k1 : c ≤ 9
  · by_cases k2 : c < h
    · by_cases k3 : 9 ≤ i
      · by_cases k4 : i ≤ 40
        · by_cases k5 : 9 ≤ o
          · by_cases k6 : o ≤ 40
            · by_cases k7 : i + o + 9 + 2 * g ≤ w
              · rw [if_pos (by omega)] at hv; subst hv; simp (disch := omega) only [wr_cj, wr_nj, rng_in, rng_out, zN_lit, zN_add, zN_mul, zN_sub, zN_ltT, zN_ltF, zN_leT, zN_leF, zN_eqT, zN_eqF, zN_lt, zN_le, zN_eq, zN_nat, zN_oobF, Option.bind_some, ↓reduceIte, Nat.one_mul, Nat.zero_add, Nat.add_zero, Nat.reduceAdd, Nat.reduceMul, Nat.reduceSub, Nat.reduceLT, Nat.reduceLeDiff, Nat.reduceEqDiff, reduceCtorEq, true_or, or_true, false_or, or_false, true_and, and_true, false_and, and_false, not_true_eq_false, not_false_eq_true, wr_2, wrL_1, zm_eqF, zm_eqF', zm_lt, zm_lt', zm_le, zm_le', zm_sub1, zN_01, Nat.mul_zero, Nat.zero_mul, Nat.mul_one, Nat.sub_zero, Nat.sub_self, h0, h1, h2]
              · rw [if_neg (by omega)] at hv; subst hv; simp (disch := omega) only [wr_cj, wr_nj, rng_in, rng_out, zN_lit, zN_add, zN_mul, zN_sub, zN_ltT, zN_ltF, zN_leT, zN_leF, zN_eqT, zN_eqF, zN_lt, zN_le, zN_eq, zN_nat, zN_oobF, Option.bind_some, ↓reduceIte, Nat.one_mul, Nat.zero_add, Nat.add_zero, Nat.reduceAdd, Nat.reduceMul, Nat.reduceSub, Nat.reduceLT, Nat.reduceLeDiff, Nat.reduceEqDiff, reduceCtorEq, true_or, or_true, false_or, or_false, true_and, and_true, false_and, and_false, not_true_eq_false, not_false_eq_true, wr_2, wrL_1, zm_eqF, zm_eqF', zm_lt, zm_lt', zm_le, zm_le', zm_sub1, zN_01, Nat.mul_zero, Nat.zero_mul, Nat.mul_one, Nat.sub_zero, Nat.sub_self, h0, h1, h2]
            · rw [if_neg (by omega)] at hv; subst hv; simp (disch := omega) only [wr_cj, wr_nj, rng_in, rng_out, zN_lit, zN_add, zN_mul, zN_sub, zN_ltT, zN_ltF, zN_leT, zN_leF, zN_eqT, zN_eqF, zN_lt, zN_le, zN_eq, zN_nat, zN_oobF, Option.bind_some, ↓reduceIte, Nat.one_mul, Nat.zero_add, Nat.add_zero, Nat.reduceAdd, Nat.reduceMul, Nat.reduceSub, Nat.reduceLT, Nat.reduceLeDiff, Nat.reduceEqDiff, reduceCtorEq, true_or, or_true, false_or, or_false, true_and, and_true, false_and, and_false, not_true_eq_false, not_false_eq_true, wr_2, wrL_1, zm_eqF, zm_eqF', zm_lt, zm_lt', zm_le, zm_le', zm_sub1, zN_01, Nat.mul_zero, Nat.zero_mul, Nat.mul_one, Nat.sub_zero, Nat.sub_self, h0, h1, h2]
          · rw [if_neg (by omega)] at hv; subst hv; simp (disch := omega) only [wr_cj, wr_nj, rng_in, rng_out, zN_lit, zN_add, zN_mul, zN_sub, zN_ltT, zN_ltF, zN_leT, zN_leF, zN_eqT, zN_eqF, zN_lt, zN_le, zN_eq, zN_nat, zN_oobF, Option.bind_some, ↓reduceIte, Nat.one_mul, Nat.zero_add, Nat.add_zero, Nat.reduceAdd, Nat.reduceMul, Nat.reduceSub, Nat.reduceLT, Nat.reduceLeDiff, Nat.reduceEqDiff, reduceCtorEq, true_or, or_true, false_or, or_false, true_and, and_true, false_and, and_false, not_true_eq_false, not_false_eq_true, wr_2, wrL_1, zm_eqF, zm_eqF', zm_lt, zm_lt', zm_le, zm_le', zm_sub1, zN_01, Nat.mul_zero, Nat.zero_mul, Nat.mul_one, Nat.sub_zero, Nat.sub_self, h0, h1, h2]
        · rw [if_neg (by omega)] at hv; subst hv; simp (disch := omega) only [wr_cj, wr_nj, rng_in, rng_out, zN_lit, zN_add, zN_mul, zN_sub, zN_ltT, zN_ltF, zN_leT, zN_leF, zN_eqT, zN_eqF, zN_lt, zN_le, zN_eq, zN_nat, zN_oobF, Option.bind_some, ↓reduceIte, Nat.one_mul, Nat.zero_add, Nat.add_zero, Nat.reduceAdd, Nat.reduceMul, Nat.reduceSub, Nat.reduceLT, Nat.reduceLeDiff, Nat.reduceEqDiff, reduceCtorEq, true_or, or_true, false_or, or_false, true_and, and_true, false_and, and_false, not_true_eq_false, not_false_eq_true, wr_2, wrL_1, zm_eqF, zm_eqF', zm_lt, zm_lt', zm_le, zm_le', zm_sub1, zN_01, Nat.mul_zero, Nat.zero_mul, Nat.mul_one, Nat.sub_zero, Nat.sub_self, h0, h1, h2]
      · rw [if_neg (by omega)] at hv; subst hv; simp (disch := omega) only [wr_cj, wr_nj, rng_in, rng_out, zN_lit, zN_add, zN_mul, zN_sub, zN_ltT, zN_ltF, zN_leT, zN_leF, zN_eqT, zN_eqF, zN_lt, zN_le, zN_eq, zN_nat, zN_oobF, Option.bind_some, ↓reduceIte, Nat.one_mul, Nat.zero_add, Nat.add_zero, Nat.reduceAdd, Nat.reduceMul, Nat.reduceSub, Nat.reduceLT, Nat.reduceLeDiff, Nat.reduceEqDiff, reduceCtorEq, true_or, or_true, false_or, or_false, true_and, and_true, false_and, and_false, not_true_eq_false, not_false_eq_true, wr_2, wrL_1, zm_eqF, zm_eqF', zm_lt, zm_lt', zm_le, zm_le', zm_sub1, zN_01, Nat.mul_zero, Nat.zero_mul, Nat.mul_one, Nat.sub_zero, Nat.sub_self, h0, h1, h2]
    · rw [if_neg (by omega)] at hv; subst hv; simp (disch := omega) only [wr_cj, wr_nj, rng_in, rng_out, zN_lit, zN_add, zN_mul, zN_sub, zN_ltT, zN_ltF, zN_leT, zN_leF, zN_eqT, zN_eqF, zN_lt, zN_le, zN_eq, zN_nat, zN_oobF, Option.bind_some, ↓reduceIte, Nat.one_mul, Nat.zero_add, Nat.add_zero, Nat.reduceAdd, Nat.reduceMul, Nat.reduceSub, Nat.reduceLT, Nat.reduceLeDiff, Nat.reduceEqDiff, reduceCtorEq, true_or, or_true, false_or, or_false, true_and, and_true, false_and, and_false, not_true_eq_false, not_false_eq_true, wr_2, wrL_1, zm_eqF, zm_eqF', zm_lt, zm_lt', zm_le, zm_le', zm_sub1, zN_01, Nat.mul_zero, Nat.zero_mul, Nat.mul_one, Nat.sub_zero, Nat.sub_self, h0, h1, h2]
  · rw [if_neg (by omega)] at hv; subst hv; simp (disch := omega) only [wr_cj, wr_nj, rng_in, rng_out, zN_lit, zN_add, zN_mul, zN_sub, zN_ltT, zN_ltF, zN_leT, zN_leF, zN_eqT, zN_eqF, zN_lt, zN_le, zN_eq, zN_nat, zN_oobF, Option.bind_some, ↓reduceIte, Nat.one_mul, Nat.zero_add, Nat.add_zero, Nat.reduceAdd, Nat.reduceMul, Nat.reduceSub, Nat.reduceLT, Nat.reduceLeDiff, Nat.reduceEqDiff, reduceCtorEq, true_or, or_true, false_or, or_false, true_and, and_true, false_and, and_false, not_true_eq_false, not_false_eq_true, wr_2, wrL_1, zm_eqF, zm_eqF', zm_lt, zm_lt', zm_le, zm_le', zm_sub1, zN_01, Nat.mul_zero, Nat.zero_mul, Nat.mul_one, Nat.sub_zero, Nat.sub_self, h0, h1, h2]
theorem canPlanN {c i o w h g : Nat} (M : zMM) (hb : 17 ≤ w ∧ w ≤ 60 ∧ h ≤ 40 ∧ g ≤ 4) (hc : c < 1000) (hi : i < 1000) (ho : o < 1000) :
    fX7_canPlan (zN w) (zN h) (zN g) (zN c) (zN i) (zN o) M = some (zN (if c ≤ 9 ∧ c < h ∧ 9 ≤ i ∧ i ≤ 40 ∧ 9 ≤ o ∧ o ≤ 40 ∧ i + o + 9 + 2 * g ≤ w then 1 else 0), M) := by
  unfold fX7_canPlan
  by_cases k1 : c ≤ 9
  · have t1 := in7T (a := c) (lo := 0) (hi := 9) (by omega) M
    by_cases k2 : c < h
    · by_cases k3 : 9 ≤ i ∧ i ≤ 40
      · have t2 := in7T (a := i) (lo := 9) (hi := 40) (by omega) M
        by_cases k5 : 9 ≤ o ∧ o ≤ 40
        · have t3 := in7T (a := o) (lo := 9) (hi := 40) (by omega) M
          by_cases k7 : i + o + 9 + 2 * g ≤ w
          · rw [if_pos (by omega)]; simp (disch := omega) only [wr_cj, wr_nj, rng_in, rng_out, zN_lit, zN_add, zN_mul, zN_sub, zN_ltT, zN_ltF, zN_leT, zN_leF, zN_eqT, zN_eqF, zN_lt, zN_le, zN_eq, zN_nat, zN_oobF, Option.bind_some, ↓reduceIte, Nat.one_mul, Nat.zero_add, Nat.add_zero, Nat.reduceAdd, Nat.reduceMul, Nat.reduceSub, Nat.reduceLT, Nat.reduceLeDiff, Nat.reduceEqDiff, reduceCtorEq, true_or, or_true, false_or, or_false, true_and, and_true, false_and, and_false, not_true_eq_false, not_false_eq_true, wr_2, wrL_1, zm_eqF, zm_eqF', zm_lt, zm_lt', zm_le, zm_le', zm_sub1, zN_01, Nat.mul_zero, Nat.zero_mul, Nat.mul_one, Nat.sub_zero, Nat.sub_self, t1, t2, t3]
          · rw [if_neg (by omega)]; simp (disch := omega) only [wr_cj, wr_nj, rng_in, rng_out, zN_lit, zN_add, zN_mul, zN_sub, zN_ltT, zN_ltF, zN_leT, zN_leF, zN_eqT, zN_eqF, zN_lt, zN_le, zN_eq, zN_nat, zN_oobF, Option.bind_some, ↓reduceIte, Nat.one_mul, Nat.zero_add, Nat.add_zero, Nat.reduceAdd, Nat.reduceMul, Nat.reduceSub, Nat.reduceLT, Nat.reduceLeDiff, Nat.reduceEqDiff, reduceCtorEq, true_or, or_true, false_or, or_false, true_and, and_true, false_and, and_false, not_true_eq_false, not_false_eq_true, wr_2, wrL_1, zm_eqF, zm_eqF', zm_lt, zm_lt', zm_le, zm_le', zm_sub1, zN_01, Nat.mul_zero, Nat.zero_mul, Nat.mul_one, Nat.sub_zero, Nat.sub_self, t1, t2, t3]
        · have t3 := in7F (a := o) (lo := 9) (hi := 40) (by omega) M
          rw [if_neg (by omega)]; simp (disch := omega) only [wr_cj, wr_nj, rng_in, rng_out, zN_lit, zN_add, zN_mul, zN_sub, zN_ltT, zN_ltF, zN_leT, zN_leF, zN_eqT, zN_eqF, zN_lt, zN_le, zN_eq, zN_nat, zN_oobF, Option.bind_some, ↓reduceIte, Nat.one_mul, Nat.zero_add, Nat.add_zero, Nat.reduceAdd, Nat.reduceMul, Nat.reduceSub, Nat.reduceLT, Nat.reduceLeDiff, Nat.reduceEqDiff, reduceCtorEq, true_or, or_true, false_or, or_false, true_and, and_true, false_and, and_false, not_true_eq_false, not_false_eq_true, wr_2, wrL_1, zm_eqF, zm_eqF', zm_lt, zm_lt', zm_le, zm_le', zm_sub1, zN_01, Nat.mul_zero, Nat.zero_mul, Nat.mul_one, Nat.sub_zero, Nat.sub_self, t1, t2, t3]
      · have t2 := in7F (a := i) (lo := 9) (hi := 40) (by omega) M
        rw [if_neg (by omega)]; simp (disch := omega) only [wr_cj, wr_nj, rng_in, rng_out, zN_lit, zN_add, zN_mul, zN_sub, zN_ltT, zN_ltF, zN_leT, zN_leF, zN_eqT, zN_eqF, zN_lt, zN_le, zN_eq, zN_nat, zN_oobF, Option.bind_some, ↓reduceIte, Nat.one_mul, Nat.zero_add, Nat.add_zero, Nat.reduceAdd, Nat.reduceMul, Nat.reduceSub, Nat.reduceLT, Nat.reduceLeDiff, Nat.reduceEqDiff, reduceCtorEq, true_or, or_true, false_or, or_false, true_and, and_true, false_and, and_false, not_true_eq_false, not_false_eq_true, wr_2, wrL_1, zm_eqF, zm_eqF', zm_lt, zm_lt', zm_le, zm_le', zm_sub1, zN_01, Nat.mul_zero, Nat.zero_mul, Nat.mul_one, Nat.sub_zero, Nat.sub_self, t1, t2]
    · rw [if_neg (by omega)]; simp (disch := omega) only [wr_cj, wr_nj, rng_in, rng_out, zN_lit, zN_add, zN_mul, zN_sub, zN_ltT, zN_ltF, zN_leT, zN_leF, zN_eqT, zN_eqF, zN_lt, zN_le, zN_eq, zN_nat, zN_oobF, Option.bind_some, ↓reduceIte, Nat.one_mul, Nat.zero_add, Nat.add_zero, Nat.reduceAdd, Nat.reduceMul, Nat.reduceSub, Nat.reduceLT, Nat.reduceLeDiff, Nat.reduceEqDiff, reduceCtorEq, true_or, or_true, false_or, or_false, true_and, and_true, false_and, and_false, not_true_eq_false, not_false_eq_true, wr_2, wrL_1, zm_eqF, zm_eqF', zm_lt, zm_lt', zm_le, zm_le', zm_sub1, zN_01, Nat.mul_zero, Nat.zero_mul, Nat.mul_one, Nat.sub_zero, Nat.sub_self, t1]
  · have t1 := in7F (a := c) (lo := 0) (hi := 9) (by omega) M
    rw [if_neg (by omega)]; simp (disch := omega) only [wr_cj, wr_nj, rng_in, rng_out, zN_lit, zN_add, zN_mul, zN_sub, zN_ltT, zN_ltF, zN_leT, zN_leF, zN_eqT, zN_eqF, zN_lt, zN_le, zN_eq, zN_nat, zN_oobF, Option.bind_some, ↓reduceIte, Nat.one_mul, Nat.zero_add, Nat.add_zero, Nat.reduceAdd, Nat.reduceMul, Nat.reduceSub, Nat.reduceLT, Nat.reduceLeDiff, Nat.reduceEqDiff, reduceCtorEq, true_or, or_true, false_or, or_false, true_and, and_true, false_and, and_false, not_true_eq_false, not_false_eq_true, wr_2, wrL_1, zm_eqF, zm_eqF', zm_lt, zm_lt', zm_le, zm_le', zm_sub1, zN_01, Nat.mul_zero, Nat.zero_mul, Nat.mul_one, Nat.sub_zero, Nat.sub_self, t1]
theorem allowsL {P : Nat → Nat} (hP : 17 ≤ P 0 ∧ P 0 ≤ 60 ∧ P 1 ≤ 40 ∧ P 255 ≤ 4) {b c i o : Nat} {M : zMM} (hL : Leaf M b P) (hc : c < 1000) (hi : i < 1000) (ho : o < 1000) :
    (pOK P c i o → fX0_allows b (zN c) (zN i) (zN o) M = some (zN 1, M)) ∧ (¬ pOK P c i o → fX0_allows b (zN c) (zN i) (zN o) M = some (zN 0, M)) := by
  have h := allowsN hL.1.1 hL.1.2.1 hL.1.2.2.1 hP hc hi ho
  constructor
  · intro k; unfold pOK at k; rw [if_pos k] at h; exact h
  · intro k; unfold pOK at k; rw [if_neg k] at h; exact h
theorem canBe7 {P : Nat → Nat} (hP : 17 ≤ P 0 ∧ P 0 ≤ 60 ∧ P 1 ≤ 40 ∧ P 255 ≤ 4) {c i o : Nat} {M : zMM} (hM : MNow M P) (hc : c < 1000) (hi : i < 1000) (ho : o < 1000) :
    (pOK P c i o → fX7_canBe (zN c) (zN i) (zN o) M = some (zN 1, M)) ∧ (¬ pOK P c i o → fX7_canBe (zN c) (zN i) (zN o) M = some (zN 0, M)) := by
  have h := canPlanN (c := c) (i := i) (o := o) M hP hc hi ho
  have m0 := hM 0 (by omega)
  have m1 := hM 1 (by omega)
  have m5 := hM 255 (by omega)
  unfold fX7_canBe
  constructor
  · intro k; unfold pOK at k; rw [if_pos k] at h; simp (disch := omega) only [wr_cj, wr_nj, rng_in, rng_out, zN_lit, zN_add, zN_mul, zN_sub, zN_ltT, zN_ltF, zN_leT, zN_leF, zN_eqT, zN_eqF, zN_lt, zN_le, zN_eq, zN_nat, zN_oobF, Option.bind_some, ↓reduceIte, Nat.one_mul, Nat.zero_add, Nat.add_zero, Nat.reduceAdd, Nat.reduceMul, Nat.reduceSub, Nat.reduceLT, Nat.reduceLeDiff, Nat.reduceEqDiff, reduceCtorEq, true_or, or_true, false_or, or_false, true_and, and_true, false_and, and_false, not_true_eq_false, not_false_eq_true, wr_2, wrL_1, zm_eqF, zm_eqF', zm_lt, zm_lt', zm_le, zm_le', zm_sub1, zN_01, Nat.mul_zero, Nat.zero_mul, Nat.mul_one, Nat.sub_zero, Nat.sub_self, m0, m1, m5, h]
  · intro k; unfold pOK at k; rw [if_neg k] at h; simp (disch := omega) only [wr_cj, wr_nj, rng_in, rng_out, zN_lit, zN_add, zN_mul, zN_sub, zN_ltT, zN_ltF, zN_leT, zN_leF, zN_eqT, zN_eqF, zN_lt, zN_le, zN_eq, zN_nat, zN_oobF, Option.bind_some, ↓reduceIte, Nat.one_mul, Nat.zero_add, Nat.add_zero, Nat.reduceAdd, Nat.reduceMul, Nat.reduceSub, Nat.reduceLT, Nat.reduceLeDiff, Nat.reduceEqDiff, reduceCtorEq, true_or, or_true, false_or, or_false, true_and, and_true, false_and, and_false, not_true_eq_false, not_false_eq_true, wr_2, wrL_1, zm_eqF, zm_eqF', zm_lt, zm_lt', zm_le, zm_le', zm_sub1, zN_01, Nat.mul_zero, Nat.zero_mul, Nat.mul_one, Nat.sub_zero, Nat.sub_self, m0, m1, m5, h]
theorem plan_case {P : Nat → Nat} (hP : Good P) (x y z : Int32) : (∃ c i o, pOK P c i o ∧ x = zN c ∧ y = zN i ∧ z = zN o) ∨ ((∀ M b, Leaf M b P → fX0_allows b x y z M = some (zN 0, M)) ∧ (∀ M, MNow M P → fX7_canBe x y z M = some (zN 0, M))) := by
  have hp := hP.1
  by_cases q : ∃ c i o, pOK P c i o ∧ x = zN c ∧ y = zN i ∧ z = zN o
  · exact Or.inl q
  right
  rcases zcaseR x 0 9 with ⟨c, -, c2, rfl⟩ | hx | ⟨c, hc, rfl, hcn⟩
  · by_cases k2 : c < P 1
    · rcases zcaseR y 9 40 with ⟨i, i1, i2, rfl⟩ | hy | ⟨i, hi, rfl, hin⟩
      · rcases zcaseR z 9 40 with ⟨o, o1, o2, rfl⟩ | hz | ⟨o, ho, rfl, hon⟩
        · have nk : ¬ pOK P c i o := fun k => q ⟨c, i, o, k, rfl, rfl, rfl⟩
          exact ⟨fun M b hL => (allowsL (by omega) hL (by omega) (by omega) (by omega)).2 nk, fun M hM => (canBe7 (by omega) hM (by omega) (by omega) (by omega)).2 nk⟩
        · refine ⟨fun M b hL => ?_, fun M hM => ?_⟩
          · have l1 := hL.1.2.1
            unfold fX0_allows; simp (disch := omega) only [wr_cj, wr_nj, rng_in, rng_out, zN_lit, zN_add, zN_mul, zN_sub, zN_ltT, zN_ltF, zN_leT, zN_leF, zN_eqT, zN_eqF, zN_lt, zN_le, zN_eq, zN_nat, zN_oobF, Option.bind_some, ↓reduceIte, Nat.one_mul, Nat.zero_add, Nat.add_zero, Nat.reduceAdd, Nat.reduceMul, Nat.reduceSub, Nat.reduceLT, Nat.reduceLeDiff, Nat.reduceEqDiff, reduceCtorEq, true_or, or_true, false_or, or_false, true_and, and_true, false_and, and_false, not_true_eq_false, not_false_eq_true, wr_2, wrL_1, zm_eqF, zm_eqF', zm_lt, zm_lt', zm_le, zm_le', zm_sub1, zN_01, Nat.mul_zero, Nat.zero_mul, Nat.mul_one, Nat.sub_zero, Nat.sub_self, l1, zg_lt hz]
          · have m1 := hM 1 (by omega)
            have t1 := in7T (a := c) (lo := 0) (hi := 9) (by omega) M
            have t2 := in7T (a := i) (lo := 9) (hi := 40) (by omega) M
            have t3 := in7g hz (lo := 9) (by omega) (zN 40) M
            unfold fX7_canBe fX7_canPlan; simp (disch := omega) only [wr_cj, wr_nj, rng_in, rng_out, zN_lit, zN_add, zN_mul, zN_sub, zN_ltT, zN_ltF, zN_leT, zN_leF, zN_eqT, zN_eqF, zN_lt, zN_le, zN_eq, zN_nat, zN_oobF, Option.bind_some, ↓reduceIte, Nat.one_mul, Nat.zero_add, Nat.add_zero, Nat.reduceAdd, Nat.reduceMul, Nat.reduceSub, Nat.reduceLT, Nat.reduceLeDiff, Nat.reduceEqDiff, reduceCtorEq, true_or, or_true, false_or, or_false, true_and, and_true, false_and, and_false, not_true_eq_false, not_false_eq_true, wr_2, wrL_1, zm_eqF, zm_eqF', zm_lt, zm_lt', zm_le, zm_le', zm_sub1, zN_01, Nat.mul_zero, Nat.zero_mul, Nat.mul_one, Nat.sub_zero, Nat.sub_self, m1, t1, t2, t3]
        · refine ⟨fun M b hL => ?_, fun M hM => ?_⟩
          · have l1 := hL.1.2.1
            unfold fX0_allows
            by_cases k : o < 9
            · simp (disch := omega) only [wr_cj, wr_nj, rng_in, rng_out, zN_lit, zN_add, zN_mul, zN_sub, zN_ltT, zN_ltF, zN_leT, zN_leF, zN_eqT, zN_eqF, zN_lt, zN_le, zN_eq, zN_nat, zN_oobF, Option.bind_some, ↓reduceIte, Nat.one_mul, Nat.zero_add, Nat.add_zero, Nat.reduceAdd, Nat.reduceMul, Nat.reduceSub, Nat.reduceLT, Nat.reduceLeDiff, Nat.reduceEqDiff, reduceCtorEq, true_or, or_true, false_or, or_false, true_and, and_true, false_and, and_false, not_true_eq_false, not_false_eq_true, wr_2, wrL_1, zm_eqF, zm_eqF', zm_lt, zm_lt', zm_le, zm_le', zm_sub1, zN_01, Nat.mul_zero, Nat.zero_mul, Nat.mul_one, Nat.sub_zero, Nat.sub_self, l1]
            · simp (disch := omega) only [wr_cj, wr_nj, rng_in, rng_out, zN_lit, zN_add, zN_mul, zN_sub, zN_ltT, zN_ltF, zN_leT, zN_leF, zN_eqT, zN_eqF, zN_lt, zN_le, zN_eq, zN_nat, zN_oobF, Option.bind_some, ↓reduceIte, Nat.one_mul, Nat.zero_add, Nat.add_zero, Nat.reduceAdd, Nat.reduceMul, Nat.reduceSub, Nat.reduceLT, Nat.reduceLeDiff, Nat.reduceEqDiff, reduceCtorEq, true_or, or_true, false_or, or_false, true_and, and_true, false_and, and_false, not_true_eq_false, not_false_eq_true, wr_2, wrL_1, zm_eqF, zm_eqF', zm_lt, zm_lt', zm_le, zm_le', zm_sub1, zN_01, Nat.mul_zero, Nat.zero_mul, Nat.mul_one, Nat.sub_zero, Nat.sub_self, l1]
          · have m1 := hM 1 (by omega)
            have t1 := in7T (a := c) (lo := 0) (hi := 9) (by omega) M
            have t2 := in7T (a := i) (lo := 9) (hi := 40) (by omega) M
            have t3 := in7F (a := o) (lo := 9) (hi := 40) (by omega) M
            unfold fX7_canBe fX7_canPlan; simp (disch := omega) only [wr_cj, wr_nj, rng_in, rng_out, zN_lit, zN_add, zN_mul, zN_sub, zN_ltT, zN_ltF, zN_leT, zN_leF, zN_eqT, zN_eqF, zN_lt, zN_le, zN_eq, zN_nat, zN_oobF, Option.bind_some, ↓reduceIte, Nat.one_mul, Nat.zero_add, Nat.add_zero, Nat.reduceAdd, Nat.reduceMul, Nat.reduceSub, Nat.reduceLT, Nat.reduceLeDiff, Nat.reduceEqDiff, reduceCtorEq, true_or, or_true, false_or, or_false, true_and, and_true, false_and, and_false, not_true_eq_false, not_false_eq_true, wr_2, wrL_1, zm_eqF, zm_eqF', zm_lt, zm_lt', zm_le, zm_le', zm_sub1, zN_01, Nat.mul_zero, Nat.zero_mul, Nat.mul_one, Nat.sub_zero, Nat.sub_self, m1, t1, t2, t3]
      · refine ⟨fun M b hL => ?_, fun M hM => ?_⟩
        · have l1 := hL.1.2.1
          unfold fX0_allows; simp (disch := omega) only [wr_cj, wr_nj, rng_in, rng_out, zN_lit, zN_add, zN_mul, zN_sub, zN_ltT, zN_ltF, zN_leT, zN_leF, zN_eqT, zN_eqF, zN_lt, zN_le, zN_eq, zN_nat, zN_oobF, Option.bind_some, ↓reduceIte, Nat.one_mul, Nat.zero_add, Nat.add_zero, Nat.reduceAdd, Nat.reduceMul, Nat.reduceSub, Nat.reduceLT, Nat.reduceLeDiff, Nat.reduceEqDiff, reduceCtorEq, true_or, or_true, false_or, or_false, true_and, and_true, false_and, and_false, not_true_eq_false, not_false_eq_true, wr_2, wrL_1, zm_eqF, zm_eqF', zm_lt, zm_lt', zm_le, zm_le', zm_sub1, zN_01, Nat.mul_zero, Nat.zero_mul, Nat.mul_one, Nat.sub_zero, Nat.sub_self, l1, zg_lt hy]
        · have m1 := hM 1 (by omega)
          have t1 := in7T (a := c) (lo := 0) (hi := 9) (by omega) M
          have t2 := in7g hy (lo := 9) (by omega) (zN 40) M
          unfold fX7_canBe fX7_canPlan; simp (disch := omega) only [wr_cj, wr_nj, rng_in, rng_out, zN_lit, zN_add, zN_mul, zN_sub, zN_ltT, zN_ltF, zN_leT, zN_leF, zN_eqT, zN_eqF, zN_lt, zN_le, zN_eq, zN_nat, zN_oobF, Option.bind_some, ↓reduceIte, Nat.one_mul, Nat.zero_add, Nat.add_zero, Nat.reduceAdd, Nat.reduceMul, Nat.reduceSub, Nat.reduceLT, Nat.reduceLeDiff, Nat.reduceEqDiff, reduceCtorEq, true_or, or_true, false_or, or_false, true_and, and_true, false_and, and_false, not_true_eq_false, not_false_eq_true, wr_2, wrL_1, zm_eqF, zm_eqF', zm_lt, zm_lt', zm_le, zm_le', zm_sub1, zN_01, Nat.mul_zero, Nat.zero_mul, Nat.mul_one, Nat.sub_zero, Nat.sub_self, m1, t1, t2]
      · refine ⟨fun M b hL => ?_, fun M hM => ?_⟩
        · have l1 := hL.1.2.1
          unfold fX0_allows
          by_cases k : i < 9
          · simp (disch := omega) only [wr_cj, wr_nj, rng_in, rng_out, zN_lit, zN_add, zN_mul, zN_sub, zN_ltT, zN_ltF, zN_leT, zN_leF, zN_eqT, zN_eqF, zN_lt, zN_le, zN_eq, zN_nat, zN_oobF, Option.bind_some, ↓reduceIte, Nat.one_mul, Nat.zero_add, Nat.add_zero, Nat.reduceAdd, Nat.reduceMul, Nat.reduceSub, Nat.reduceLT, Nat.reduceLeDiff, Nat.reduceEqDiff, reduceCtorEq, true_or, or_true, false_or, or_false, true_and, and_true, false_and, and_false, not_true_eq_false, not_false_eq_true, wr_2, wrL_1, zm_eqF, zm_eqF', zm_lt, zm_lt', zm_le, zm_le', zm_sub1, zN_01, Nat.mul_zero, Nat.zero_mul, Nat.mul_one, Nat.sub_zero, Nat.sub_self, l1]
          · simp (disch := omega) only [wr_cj, wr_nj, rng_in, rng_out, zN_lit, zN_add, zN_mul, zN_sub, zN_ltT, zN_ltF, zN_leT, zN_leF, zN_eqT, zN_eqF, zN_lt, zN_le, zN_eq, zN_nat, zN_oobF, Option.bind_some, ↓reduceIte, Nat.one_mul, Nat.zero_add, Nat.add_zero, Nat.reduceAdd, Nat.reduceMul, Nat.reduceSub, Nat.reduceLT, Nat.reduceLeDiff, Nat.reduceEqDiff, reduceCtorEq, true_or, or_true, false_or, or_false, true_and, and_true, false_and, and_false, not_true_eq_false, not_false_eq_true, wr_2, wrL_1, zm_eqF, zm_eqF', zm_lt, zm_lt', zm_le, zm_le', zm_sub1, zN_01, Nat.mul_zero, Nat.zero_mul, Nat.mul_one, Nat.sub_zero, Nat.sub_self, l1]
        · have m1 := hM 1 (by omega)
          have t1 := in7T (a := c) (lo := 0) (hi := 9) (by omega) M
          have t2 := in7F (a := i) (lo := 9) (hi := 40) (by omega) M
          unfold fX7_canBe fX7_canPlan; simp (disch := omega) only [wr_cj, wr_nj, rng_in, rng_out, zN_lit, zN_add, zN_mul, zN_sub, zN_ltT, zN_ltF, zN_leT, zN_leF, zN_eqT, zN_eqF, zN_lt, zN_le, zN_eq, zN_nat, zN_oobF, Option.bind_some, ↓reduceIte, Nat.one_mul, Nat.zero_add, Nat.add_zero, Nat.reduceAdd, Nat.reduceMul, Nat.reduceSub, Nat.reduceLT, Nat.reduceLeDiff, Nat.reduceEqDiff, reduceCtorEq, true_or, or_true, false_or, or_false, true_and, and_true, false_and, and_false, not_true_eq_false, not_false_eq_true, wr_2, wrL_1, zm_eqF, zm_eqF', zm_lt, zm_lt', zm_le, zm_le', zm_sub1, zN_01, Nat.mul_zero, Nat.zero_mul, Nat.mul_one, Nat.sub_zero, Nat.sub_self, m1, t1, t2]
    · refine ⟨fun M b hL => ?_, fun M hM => ?_⟩
      · have l1 := hL.1.2.1
        unfold fX0_allows; simp (disch := omega) only [wr_cj, wr_nj, rng_in, rng_out, zN_lit, zN_add, zN_mul, zN_sub, zN_ltT, zN_ltF, zN_leT, zN_leF, zN_eqT, zN_eqF, zN_lt, zN_le, zN_eq, zN_nat, zN_oobF, Option.bind_some, ↓reduceIte, Nat.one_mul, Nat.zero_add, Nat.add_zero, Nat.reduceAdd, Nat.reduceMul, Nat.reduceSub, Nat.reduceLT, Nat.reduceLeDiff, Nat.reduceEqDiff, reduceCtorEq, true_or, or_true, false_or, or_false, true_and, and_true, false_and, and_false, not_true_eq_false, not_false_eq_true, wr_2, wrL_1, zm_eqF, zm_eqF', zm_lt, zm_lt', zm_le, zm_le', zm_sub1, zN_01, Nat.mul_zero, Nat.zero_mul, Nat.mul_one, Nat.sub_zero, Nat.sub_self, l1]
      · have m1 := hM 1 (by omega)
        have t1 := in7T (a := c) (lo := 0) (hi := 9) (by omega) M
        unfold fX7_canBe fX7_canPlan; simp (disch := omega) only [wr_cj, wr_nj, rng_in, rng_out, zN_lit, zN_add, zN_mul, zN_sub, zN_ltT, zN_ltF, zN_leT, zN_leF, zN_eqT, zN_eqF, zN_lt, zN_le, zN_eq, zN_nat, zN_oobF, Option.bind_some, ↓reduceIte, Nat.one_mul, Nat.zero_add, Nat.add_zero, Nat.reduceAdd, Nat.reduceMul, Nat.reduceSub, Nat.reduceLT, Nat.reduceLeDiff, Nat.reduceEqDiff, reduceCtorEq, true_or, or_true, false_or, or_false, true_and, and_true, false_and, and_false, not_true_eq_false, not_false_eq_true, wr_2, wrL_1, zm_eqF, zm_eqF', zm_lt, zm_lt', zm_le, zm_le', zm_sub1, zN_01, Nat.mul_zero, Nat.zero_mul, Nat.mul_one, Nat.sub_zero, Nat.sub_self, m1, t1]
  · refine ⟨fun M b hL => ?_, fun M hM => ?_⟩
    · unfold fX0_allows; simp (disch := omega) only [wr_cj, wr_nj, rng_in, rng_out, zN_lit, zN_add, zN_mul, zN_sub, zN_ltT, zN_ltF, zN_leT, zN_leF, zN_eqT, zN_eqF, zN_lt, zN_le, zN_eq, zN_nat, zN_oobF, Option.bind_some, ↓reduceIte, Nat.one_mul, Nat.zero_add, Nat.add_zero, Nat.reduceAdd, Nat.reduceMul, Nat.reduceSub, Nat.reduceLT, Nat.reduceLeDiff, Nat.reduceEqDiff, reduceCtorEq, true_or, or_true, false_or, or_false, true_and, and_true, false_and, and_false, not_true_eq_false, not_false_eq_true, wr_2, wrL_1, zm_eqF, zm_eqF', zm_lt, zm_lt', zm_le, zm_le', zm_sub1, zN_01, Nat.mul_zero, Nat.zero_mul, Nat.mul_one, Nat.sub_zero, Nat.sub_self, zg_lt hx]
    · have t1 := in7g hx (lo := 0) (by omega) (zN 9) M
      unfold fX7_canBe fX7_canPlan; simp (disch := omega) only [wr_cj, wr_nj, rng_in, rng_out, zN_lit, zN_add, zN_mul, zN_sub, zN_ltT, zN_ltF, zN_leT, zN_leF, zN_eqT, zN_eqF, zN_lt, zN_le, zN_eq, zN_nat, zN_oobF, Option.bind_some, ↓reduceIte, Nat.one_mul, Nat.zero_add, Nat.add_zero, Nat.reduceAdd, Nat.reduceMul, Nat.reduceSub, Nat.reduceLT, Nat.reduceLeDiff, Nat.reduceEqDiff, reduceCtorEq, true_or, or_true, false_or, or_false, true_and, and_true, false_and, and_false, not_true_eq_false, not_false_eq_true, wr_2, wrL_1, zm_eqF, zm_eqF', zm_lt, zm_lt', zm_le, zm_le', zm_sub1, zN_01, Nat.mul_zero, Nat.zero_mul, Nat.mul_one, Nat.sub_zero, Nat.sub_self, t1]
  · refine ⟨fun M b hL => ?_, fun M hM => ?_⟩
    · unfold fX0_allows; simp (disch := omega) only [wr_cj, wr_nj, rng_in, rng_out, zN_lit, zN_add, zN_mul, zN_sub, zN_ltT, zN_ltF, zN_leT, zN_leF, zN_eqT, zN_eqF, zN_lt, zN_le, zN_eq, zN_nat, zN_oobF, Option.bind_some, ↓reduceIte, Nat.one_mul, Nat.zero_add, Nat.add_zero, Nat.reduceAdd, Nat.reduceMul, Nat.reduceSub, Nat.reduceLT, Nat.reduceLeDiff, Nat.reduceEqDiff, reduceCtorEq, true_or, or_true, false_or, or_false, true_and, and_true, false_and, and_false, not_true_eq_false, not_false_eq_true, wr_2, wrL_1, zm_eqF, zm_eqF', zm_lt, zm_lt', zm_le, zm_le', zm_sub1, zN_01, Nat.mul_zero, Nat.zero_mul, Nat.mul_one, Nat.sub_zero, Nat.sub_self]
    · have t1 := in7F (a := c) (lo := 0) (hi := 9) (by omega) M
      unfold fX7_canBe fX7_canPlan; simp (disch := omega) only [wr_cj, wr_nj, rng_in, rng_out, zN_lit, zN_add, zN_mul, zN_sub, zN_ltT, zN_ltF, zN_leT, zN_leF, zN_eqT, zN_eqF, zN_lt, zN_le, zN_eq, zN_nat, zN_oobF, Option.bind_some, ↓reduceIte, Nat.one_mul, Nat.zero_add, Nat.add_zero, Nat.reduceAdd, Nat.reduceMul, Nat.reduceSub, Nat.reduceLT, Nat.reduceLeDiff, Nat.reduceEqDiff, reduceCtorEq, true_or, or_true, false_or, or_false, true_and, and_true, false_and, and_false, not_true_eq_false, not_false_eq_true, wr_2, wrL_1, zm_eqF, zm_eqF', zm_lt, zm_lt', zm_le, zm_le', zm_sub1, zN_01, Nat.mul_zero, Nat.zero_mul, Nat.mul_one, Nat.sub_zero, Nat.sub_self, t1]
