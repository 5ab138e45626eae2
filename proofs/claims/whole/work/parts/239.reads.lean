/-! READING WHAT IS SET: ends, ties, cost -/
def en (P : Nat → Nat) (t : Nat) : Nat := ln P t (P (5 + t) - 1)
def oI (b : Option Nat) : Int32 := match b with
  | none => -zN 1
  | some t => zN t
def upF (P : Nat → Nat) (l : Bool) (b : Option Nat) (t : Nat) : Option Nat :=
  if P (5 + t) = 0 then b else match b with
    | none => some t
    | some u => if l then (if en P u < en P t then some t else some u) else (if en P t < en P u then some t else some u)
def dwF (P : Nat → Nat) (l : Bool) (b : Option Nat) (t : Nat) : Option Nat :=
  if P (5 + t) = 0 then b else match b with
    | none => some t
    | some u => if l then (if en P u ≤ en P t then some t else some u) else (if en P t ≤ en P u then some t else some u)
def ed (P : Nat → Nat) (l : Bool) : Option Nat := upF P l (upF P l (upF P l none 0) 1) 2
set_option maxHeartbeats 8000000 in
theorem ed_dw (P : Nat → Nat) (l : Bool) : dwF P l (dwF P l (dwF P l none 2) 1) 0 = ed P l := by
  unfold ed upF dwF
  cases l
  · by_cases a : P (5 + 0) = 0 <;> by_cases b : P (5 + 1) = 0 <;> by_cases c : P (5 + 2) = 0 <;> rcases Nat.lt_trichotomy (en P 0) (en P 1) with x | x | x <;> rcases Nat.lt_trichotomy (en P 0) (en P 2) with y | y | y <;> rcases Nat.lt_trichotomy (en P 1) (en P 2) with z | z | z <;> first | (exfalso; omega) | (simp (disch := omega) only [a, b, c, if_true, if_false, Bool.false_eq_true, if_pos, if_neg, reduceCtorEq])
  · by_cases a : P (5 + 0) = 0 <;> by_cases b : P (5 + 1) = 0 <;> by_cases c : P (5 + 2) = 0 <;> rcases Nat.lt_trichotomy (en P 0) (en P 1) with x | x | x <;> rcases Nat.lt_trichotomy (en P 0) (en P 2) with y | y | y <;> rcases Nat.lt_trichotomy (en P 1) (en P 2) with z | z | z <;> first | (exfalso; omega) | (simp (disch := omega) only [a, b, c, if_true, if_false, Bool.false_eq_true, if_pos, if_neg, reduceCtorEq])
def okE (P : Nat → Nat) (b : Option Nat) : Prop := ∀ u, b = some u → u < 3 ∧ P (5 + u) ≠ 0
theorem okE_up {P : Nat → Nat} {l : Bool} {b : Option Nat} {t : Nat} (ht : t < 3) (h : okE P b) : okE P (upF P l b t) := by
  unfold upF
  by_cases a : P (5 + t) = 0
  · rw [if_pos a]; exact h
  · rw [if_neg a]
    have hs : okE P (some t) := by intro u hu; cases hu; exact ⟨ht, a⟩
    cases b with
    | none => exact hs
    | some v => cases l <;> simp only [if_true, if_false, Bool.false_eq_true] <;> split <;> assumption
theorem okE_ed (P : Nat → Nat) (l : Bool) : okE P (ed P l) := okE_up (by omega) (okE_up (by omega) (okE_up (by omega) (by intro u hu; cases hu)))
/-- least and greatest end -/
def mmF (P : Nat → Nat) (b : Option (Nat × Nat)) (t : Nat) : Option (Nat × Nat) :=
  if P (5 + t) = 0 then b else match b with
    | none => some (en P t, en P t)
    | some (lo, hi) => some (if en P t < lo then en P t else lo, if hi < en P t then en P t else hi)
def apt (P : Nat → Nat) : Nat := match ed P true, ed P false with
  | some u, some v => en P u - en P v
  | _, _ => 0
set_option maxHeartbeats 8000000 in
theorem apt_mm (P : Nat → Nat) : (match mmF P (mmF P (mmF P none 0) 1) 2 with
    | none => 0
    | some q => q.2 - q.1) = apt P := by
  unfold apt ed upF mmF
  by_cases a : P (5 + 0) = 0 <;> by_cases b : P (5 + 1) = 0 <;> by_cases c : P (5 + 2) = 0 <;> rcases Nat.lt_trichotomy (en P 0) (en P 1) with x | x | x <;> rcases Nat.lt_trichotomy (en P 0) (en P 2) with y | y | y <;> rcases Nat.lt_trichotomy (en P 1) (en P 2) with z | z | z <;> first | (exfalso; omega) | (simp (disch := omega) only [a, b, c, if_true, if_false, Bool.false_eq_true, if_pos, if_neg, reduceCtorEq] <;> omega)
theorem ln_lt {P : Nat → Nat} (hP : Good P) {t k : Nat} (ht : t < 3) (hk : k < P (5 + t)) : ln P t k < 210 := by
  have := (ln_ok hP ht hk).2.2
  have := NL_le P
  omega
theorem en_lt {P : Nat → Nat} (hP : Good P) {t : Nat} (ht : t < 3) (hk : P (5 + t) ≠ 0) : en P t < 210 := ln_lt hP ht (by omega)
/-! the class -/
theorem lineOf4 {P : Nat → Nat} (hP : Good P) {M : zMM} (hS : CSet P M) {t k : Nat} (ht : t < 3) (hk : k < P (5 + t)) : M.1 (125 + t) k = zN (ln P t k) := by
  have h := ln_ok hP ht hk
  exact (hS.1 t ht).2.2.2.1 _ _ h.2.2 h.1 h.2.1
theorem endOf4 {P : Nat → Nat} (hP : Good P) {b : Nat} {M : zMM} (hL : Leaf M b P) (hS : CSet P M) {t : Nat} (ht : t < 3) : fX4_endOf b (zN t) M = some (if P (5 + t) = 0 then -zN 1 else zN (en P t), M) := by
  have hc := (hP.2.1 t ht).1
  have hc' := hL.2.2.1 t ht
  unfold fX4_endOf
  by_cases a : P (5 + t) = 0
  · rw [if_pos a]; simp (disch := omega) only [wr_cj, wr_nj, rng_in, rng_out, zN_lit, zN_add, zN_mul, zN_sub, zN_ltT, zN_ltF, zN_leT, zN_leF, zN_eqT, zN_eqF, zN_lt, zN_le, zN_eq, zN_nat, zN_oobF, Option.bind_some, ↓reduceIte, Nat.one_mul, Nat.zero_add, Nat.add_zero, Nat.reduceAdd, Nat.reduceMul, Nat.reduceSub, Nat.reduceLT, Nat.reduceLeDiff, Nat.reduceEqDiff, reduceCtorEq, true_or, or_true, false_or, or_false, true_and, and_true, false_and, and_false, not_true_eq_false, not_false_eq_true, wr_2, wrL_1, zm_eqF, zm_eqF', zm_lt, zm_lt', zm_le, zm_le', zm_sub1, zN_01, Nat.mul_zero, Nat.zero_mul, Nat.mul_one, Nat.sub_zero, Nat.sub_self, hc', a]
  · rw [if_neg a]
    have := lineOf4 hP hS ht (show P (5 + t) - 1 < P (5 + t) by omega)
    simp (disch := omega) only [wr_cj, wr_nj, rng_in, rng_out, zN_lit, zN_add, zN_mul, zN_sub, zN_ltT, zN_ltF, zN_leT, zN_leF, zN_eqT, zN_eqF, zN_lt, zN_le, zN_eq, zN_nat, zN_oobF, Option.bind_some, ↓reduceIte, Nat.one_mul, Nat.zero_add, Nat.add_zero, Nat.reduceAdd, Nat.reduceMul, Nat.reduceSub, Nat.reduceLT, Nat.reduceLeDiff, Nat.reduceEqDiff, reduceCtorEq, true_or, or_true, false_or, or_false, true_and, and_true, false_and, and_false, not_true_eq_false, not_false_eq_true, wr_2, wrL_1, zm_eqF, zm_eqF', zm_lt, zm_lt', zm_le, zm_le', zm_sub1, zN_01, Nat.mul_zero, Nat.zero_mul, Nat.mul_one, Nat.sub_zero, Nat.sub_self, hc', this, en]
theorem pageOf0 {P : Nat → Nat} (hP : Good P) {b n : Nat} {M : zMM} (hL : Leaf M b P) (hn : n < 2147483648) : fX0_pageOf b (zN n) M = some (zN (n / P 1), M) := by
  have hp := hP.1
  have h1 := hL.1.2.1
  unfold fX0_pageOf
  simp (disch := omega) only [wr_cj, wr_nj, rng_in, rng_out, zN_lit, zN_add, zN_mul, zN_sub, zN_ltT, zN_ltF, zN_leT, zN_leF, zN_eqT, zN_eqF, zN_lt, zN_le, zN_eq, zN_nat, zN_oobF, Option.bind_some, ↓reduceIte, Nat.one_mul, Nat.zero_add, Nat.add_zero, Nat.reduceAdd, Nat.reduceMul, Nat.reduceSub, Nat.reduceLT, Nat.reduceLeDiff, Nat.reduceEqDiff, reduceCtorEq, true_or, or_true, false_or, or_false, true_and, and_true, false_and, and_false, not_true_eq_false, not_false_eq_true, wr_2, wrL_1, zm_eqF, zm_eqF', zm_lt, zm_lt', zm_le, zm_le', zm_sub1, zN_01, Nat.mul_zero, Nat.zero_mul, Nat.mul_one, Nat.sub_zero, Nat.sub_self, h1, zN_div]
theorem pageCount4 {P : Nat → Nat} (hP : Good P) {b : Nat} {M : zMM} (hL : Leaf M b P) (hS : CSet P M) : fX4_pageCount b M = some (zN (pgs P), M) := by
  have hp := hP.1
  have hN := NL_le P
  have h0 := hS.2
  have h1 := hL.1.2.1
  have := pageOf0 (n := NL P + P 1 - 1) hP hL (by omega)
  unfold fX4_pageCount
  simp (disch := omega) only [wr_cj, wr_nj, rng_in, rng_out, zN_lit, zN_add, zN_mul, zN_sub, zN_ltT, zN_ltF, zN_leT, zN_leF, zN_eqT, zN_eqF, zN_lt, zN_le, zN_eq, zN_nat, zN_oobF, Option.bind_some, ↓reduceIte, Nat.one_mul, Nat.zero_add, Nat.add_zero, Nat.reduceAdd, Nat.reduceMul, Nat.reduceSub, Nat.reduceLT, Nat.reduceLeDiff, Nat.reduceEqDiff, reduceCtorEq, true_or, or_true, false_or, or_false, true_and, and_true, false_and, and_false, not_true_eq_false, not_false_eq_true, wr_2, wrL_1, zm_eqF, zm_eqF', zm_lt, zm_lt', zm_le, zm_le', zm_sub1, zN_01, Nat.mul_zero, Nat.zero_mul, Nat.mul_one, Nat.sub_zero, Nat.sub_self, h0, h1, this, pgs]
theorem eA4 {P : Nat → Nat} (hP : Good P) {b : Nat} {M : zMM} (hL : Leaf M b P) (hS : CSet P M) : ∀ t, t < 3 → ∀ (q : Option (Nat × Nat)) n, (∀ lo hi, q = some (lo, hi) → lo < 210 ∧ hi < 210) →
    fX4_endsApart_9 b (n + 1) (match q with | none => zN 210 | some q => zN q.1) (match q with | none => -zN 1 | some q => zN q.2) (zN t) M = fX4_endsApart_9 b n (match mmF P q t with | none => zN 210 | some q => zN q.1) (match mmF P q t with | none => -zN 1 | some q => zN q.2) (zN (t + 1)) M ∧ (∀ lo hi, mmF P q t = some (lo, hi) → lo < 210 ∧ hi < 210) := by
  intro t ht q n hq
  have he := endOf4 hP hL hS ht
  by_cases a : P (5 + t) = 0
  · have em : mmF P q t = q := by unfold mmF; rw [if_pos a]
    rw [em]
    refine ⟨?_, hq⟩
    rw [fX4_endsApart_9]
    rw [if_pos a] at he
    simp (disch := omega) only [wr_cj, wr_nj, rng_in, rng_out, zN_lit, zN_add, zN_mul, zN_sub, zN_ltT, zN_ltF, zN_leT, zN_leF, zN_eqT, zN_eqF, zN_lt, zN_le, zN_eq, zN_nat, zN_oobF, Option.bind_some, ↓reduceIte, Nat.one_mul, Nat.zero_add, Nat.add_zero, Nat.reduceAdd, Nat.reduceMul, Nat.reduceSub, Nat.reduceLT, Nat.reduceLeDiff, Nat.reduceEqDiff, reduceCtorEq, true_or, or_true, false_or, or_false, true_and, and_true, false_and, and_false, not_true_eq_false, not_false_eq_true, wr_2, wrL_1, zm_eqF, zm_eqF', zm_lt, zm_lt', zm_le, zm_le', zm_sub1, zN_01, Nat.mul_zero, Nat.zero_mul, Nat.mul_one, Nat.sub_zero, Nat.sub_self, he, fX4_endsApart_43]
  · rw [if_neg a] at he
    have hen := en_lt hP ht a
    cases q with
    | none =>
      have em : mmF P none t = some (en P t, en P t) := by unfold mmF; rw [if_neg a]
      rw [em]
      refine ⟨?_, by intro lo hi hh; cases hh; exact ⟨hen, hen⟩⟩
      rw [fX4_endsApart_9]
      simp (disch := omega) only [wr_cj, wr_nj, rng_in, rng_out, zN_lit, zN_add, zN_mul, zN_sub, zN_ltT, zN_ltF, zN_leT, zN_leF, zN_eqT, zN_eqF, zN_lt, zN_le, zN_eq, zN_nat, zN_oobF, Option.bind_some, ↓reduceIte, Nat.one_mul, Nat.zero_add, Nat.add_zero, Nat.reduceAdd, Nat.reduceMul, Nat.reduceSub, Nat.reduceLT, Nat.reduceLeDiff, Nat.reduceEqDiff, reduceCtorEq, true_or, or_true, false_or, or_false, true_and, and_true, false_and, and_false, not_true_eq_false, not_false_eq_true, wr_2, wrL_1, zm_eqF, zm_eqF', zm_lt, zm_lt', zm_le, zm_le', zm_sub1, zN_01, Nat.mul_zero, Nat.zero_mul, Nat.mul_one, Nat.sub_zero, Nat.sub_self, he, fX4_endsApart_43]
    | some q =>
      obtain ⟨lo, hi⟩ := q
      have hb := hq lo hi rfl
      have em : mmF P (some (lo, hi)) t = some (if en P t < lo then en P t else lo, if hi < en P t then en P t else hi) := by unfold mmF; rw [if_neg a]
      rw [em]
      refine ⟨?_, ?_⟩
      · rw [fX4_endsApart_9]
        by_cases c1 : en P t < lo <;> by_cases c2 : hi < en P t <;> simp (disch := omega) only [wr_cj, wr_nj, rng_in, rng_out, zN_lit, zN_add, zN_mul, zN_sub, zN_ltT, zN_ltF, zN_leT, zN_leF, zN_eqT, zN_eqF, zN_lt, zN_le, zN_eq, zN_nat, zN_oobF, Option.bind_some, ↓reduceIte, Nat.one_mul, Nat.zero_add, Nat.add_zero, Nat.reduceAdd, Nat.reduceMul, Nat.reduceSub, Nat.reduceLT, Nat.reduceLeDiff, Nat.reduceEqDiff, reduceCtorEq, true_or, or_true, false_or, or_false, true_and, and_true, false_and, and_false, not_true_eq_false, not_false_eq_true, wr_2, wrL_1, zm_eqF, zm_eqF', zm_lt, zm_lt', zm_le, zm_le', zm_sub1, zN_01, Nat.mul_zero, Nat.zero_mul, Nat.mul_one, Nat.sub_zero, Nat.sub_self, he, fX4_endsApart_43, c1, c2, if_true, if_false]
      · intro lo' hi' hh
        simp only [Option.some.injEq, Prod.mk.injEq] at hh
        obtain ⟨h1, h2⟩ := hh
        rw [← h1, ← h2]
        constructor <;> split <;> omega
theorem endsApart4 {P : Nat → Nat} (hP : Good P) {b : Nat} {M : zMM} (hL : Leaf M b P) (hS : CSet P M) : fX4_endsApart b M = some (zN (apt P), M) := by
  unfold fX4_endsApart
  have key : ∀ n, fX4_endsApart_9 b (n + 1 + 1 + 1 + 1) (210) ((-1)) (0) M = some (zN (apt P), M) := by
    intro n
    have s0 := eA4 hP hL hS 0 (by omega) none (n + 1 + 1 + 1) (by intro lo hi hh; cases hh)
    have s1 := eA4 hP hL hS 1 (by omega) _ (n + 1 + 1) s0.2
    have s2 := eA4 hP hL hS 2 (by omega) _ (n + 1) s1.2
    have e0 := s0.1.trans (s1.1.trans s2.1)
    simp only [zN_lit]
    refine e0.trans ?_
    rw [← apt_mm P]
    rw [fX4_endsApart_9]
    have sb := s2.2
    cases hm : mmF P (mmF P (mmF P none 0) 1) 2 with
    | none => simp (disch := omega) only [wr_cj, wr_nj, rng_in, rng_out, zN_lit, zN_add, zN_mul, zN_sub, zN_ltT, zN_ltF, zN_leT, zN_leF, zN_eqT, zN_eqF, zN_lt, zN_le, zN_eq, zN_nat, zN_oobF, Option.bind_some, ↓reduceIte, Nat.one_mul, Nat.zero_add, Nat.add_zero, Nat.reduceAdd, Nat.reduceMul, Nat.reduceSub, Nat.reduceLT, Nat.reduceLeDiff, Nat.reduceEqDiff, reduceCtorEq, true_or, or_true, false_or, or_false, true_and, and_true, false_and, and_false, not_true_eq_false, not_false_eq_true, wr_2, wrL_1, zm_eqF, zm_eqF', zm_lt, zm_lt', zm_le, zm_le', zm_sub1, zN_01, Nat.mul_zero, Nat.zero_mul, Nat.mul_one, Nat.sub_zero, Nat.sub_self]
    | some q =>
      obtain ⟨lo, hi⟩ := q
      have hb := sb lo hi hm
      have hle : lo ≤ hi := by
        have : ∀ (q : Option (Nat × Nat)) t, (∀ lo hi, q = some (lo, hi) → lo ≤ hi) → ∀ lo hi, mmF P q t = some (lo, hi) → lo ≤ hi := by
          intro q t hq lo hi hh
          unfold mmF at hh
          by_cases a : P (5 + t) = 0
          · rw [if_pos a] at hh; exact hq lo hi hh
          · rw [if_neg a] at hh
            cases q with
            | none => simp only [Option.some.injEq, Prod.mk.injEq] at hh; omega
            | some q =>
              obtain ⟨l', h'⟩ := q
              have := hq l' h' rfl
              simp only [Option.some.injEq, Prod.mk.injEq] at hh
              obtain ⟨h1, h2⟩ := hh
              rw [← h1, ← h2]
              split <;> split <;> omega
        exact this _ 2 (this _ 1 (this _ 0 (by intro lo hi hh; cases hh))) lo hi hm
      simp (disch := omega) only [wr_cj, wr_nj, rng_in, rng_out, zN_lit, zN_add, zN_mul, zN_sub, zN_ltT, zN_ltF, zN_leT, zN_leF, zN_eqT, zN_eqF, zN_lt, zN_le, zN_eq, zN_nat, zN_oobF, Option.bind_some, ↓reduceIte, Nat.one_mul, Nat.zero_add, Nat.add_zero, Nat.reduceAdd, Nat.reduceMul, Nat.reduceSub, Nat.reduceLT, Nat.reduceLeDiff, Nat.reduceEqDiff, reduceCtorEq, true_or, or_true, false_or, or_false, true_and, and_true, false_and, and_false, not_true_eq_false, not_false_eq_true, wr_2, wrL_1, zm_eqF, zm_eqF', zm_lt, zm_lt', zm_le, zm_le', zm_sub1, zN_01, Nat.mul_zero, Nat.zero_mul, Nat.mul_one, Nat.sub_zero, Nat.sub_self]
  exact key 2147483644
theorem fE4 {P : Nat → Nat} (hP : Good P) {b : Nat} {M : zMM} (hL : Leaf M b P) (hS : CSet P M) {t : Nat} (ht : t < 3) {q : Option Nat} (hq : okE P q) (n : Nat) : fX4_firstToEnd_4 b (n + 1) (oI q) (zN t) M = fX4_firstToEnd_4 b n (oI (dwF P false q t)) (zN t + -zN 1) M ∧ fX4_lastToEnd_4 b (n + 1) (oI q) (zN t) M = fX4_lastToEnd_4 b n (oI (dwF P true q t)) (zN t + -zN 1) M ∧ okE P (dwF P false q t) ∧ okE P (dwF P true q t) := by
  have he := endOf4 hP hL hS ht
  have hc := (hP.2.1 t ht).1
  have hc' := hL.2.2.1 t ht
  by_cases a : P (5 + t) = 0
  · have em : ∀ l, dwF P l q t = q := by intro l; unfold dwF; rw [if_pos a]
    rw [em, em]
    refine ⟨?_, ?_, hq, hq⟩
    · rw [fX4_firstToEnd_4]
      simp (disch := omega) only [wr_cj, wr_nj, rng_in, rng_out, zN_lit, zN_add, zN_mul, zN_sub, zN_ltT, zN_ltF, zN_leT, zN_leF, zN_eqT, zN_eqF, zN_lt, zN_le, zN_eq, zN_nat, zN_oobF, Option.bind_some, ↓reduceIte, Nat.one_mul, Nat.zero_add, Nat.add_zero, Nat.reduceAdd, Nat.reduceMul, Nat.reduceSub, Nat.reduceLT, Nat.reduceLeDiff, Nat.reduceEqDiff, reduceCtorEq, true_or, or_true, false_or, or_false, true_and, and_true, false_and, and_false, not_true_eq_false, not_false_eq_true, wr_2, wrL_1, zm_eqF, zm_eqF', zm_lt, zm_lt', zm_le, zm_le', zm_sub1, zN_01, Nat.mul_zero, Nat.zero_mul, Nat.mul_one, Nat.sub_zero, Nat.sub_self, hc', a, fX4_firstToEnd_38]
    · rw [fX4_lastToEnd_4]
      simp (disch := omega) only [wr_cj, wr_nj, rng_in, rng_out, zN_lit, zN_add, zN_mul, zN_sub, zN_ltT, zN_ltF, zN_leT, zN_leF, zN_eqT, zN_eqF, zN_lt, zN_le, zN_eq, zN_nat, zN_oobF, Option.bind_some, ↓reduceIte, Nat.one_mul, Nat.zero_add, Nat.add_zero, Nat.reduceAdd, Nat.reduceMul, Nat.reduceSub, Nat.reduceLT, Nat.reduceLeDiff, Nat.reduceEqDiff, reduceCtorEq, true_or, or_true, false_or, or_false, true_and, and_true, false_and, and_false, not_true_eq_false, not_false_eq_true, wr_2, wrL_1, zm_eqF, zm_eqF', zm_lt, zm_lt', zm_le, zm_le', zm_sub1, zN_01, Nat.mul_zero, Nat.zero_mul, Nat.mul_one, Nat.sub_zero, Nat.sub_self, hc', a, fX4_lastToEnd_38]
  · rw [if_neg a] at he
    have hs : okE P (some t) := by intro u hu; cases hu; exact ⟨ht, a⟩
    have hen := en_lt hP ht a
    cases q with
    | none =>
      have em : ∀ l, dwF P l none t = some t := by intro l; unfold dwF; rw [if_neg a]
      rw [em, em]
      refine ⟨?_, ?_, hs, hs⟩
      · rw [fX4_firstToEnd_4]
        simp (disch := omega) only [wr_cj, wr_nj, rng_in, rng_out, zN_lit, zN_add, zN_mul, zN_sub, zN_ltT, zN_ltF, zN_leT, zN_leF, zN_eqT, zN_eqF, zN_lt, zN_le, zN_eq, zN_nat, zN_oobF, Option.bind_some, ↓reduceIte, Nat.one_mul, Nat.zero_add, Nat.add_zero, Nat.reduceAdd, Nat.reduceMul, Nat.reduceSub, Nat.reduceLT, Nat.reduceLeDiff, Nat.reduceEqDiff, reduceCtorEq, true_or, or_true, false_or, or_false, true_and, and_true, false_and, and_false, not_true_eq_false, not_false_eq_true, wr_2, wrL_1, zm_eqF, zm_eqF', zm_lt, zm_lt', zm_le, zm_le', zm_sub1, zN_01, Nat.mul_zero, Nat.zero_mul, Nat.mul_one, Nat.sub_zero, Nat.sub_self, hc', fX4_firstToEnd_36, fX4_firstToEnd_38, oI]
      · rw [fX4_lastToEnd_4]
        simp (disch := omega) only [wr_cj, wr_nj, rng_in, rng_out, zN_lit, zN_add, zN_mul, zN_sub, zN_ltT, zN_ltF, zN_leT, zN_leF, zN_eqT, zN_eqF, zN_lt, zN_le, zN_eq, zN_nat, zN_oobF, Option.bind_some, ↓reduceIte, Nat.one_mul, Nat.zero_add, Nat.add_zero, Nat.reduceAdd, Nat.reduceMul, Nat.reduceSub, Nat.reduceLT, Nat.reduceLeDiff, Nat.reduceEqDiff, reduceCtorEq, true_or, or_true, false_or, or_false, true_and, and_true, false_and, and_false, not_true_eq_false, not_false_eq_true, wr_2, wrL_1, zm_eqF, zm_eqF', zm_lt, zm_lt', zm_le, zm_le', zm_sub1, zN_01, Nat.mul_zero, Nat.zero_mul, Nat.mul_one, Nat.sub_zero, Nat.sub_self, hc', fX4_lastToEnd_36, fX4_lastToEnd_38, oI]
    | some u =>
      have hu := hq u rfl
      have he' := endOf4 hP hL hS hu.1
      rw [if_neg hu.2] at he'
      have hen' := en_lt hP hu.1 hu.2
      have em : ∀ l, dwF P l (some u) t = if l then (if en P u ≤ en P t then some t else some u) else (if en P t ≤ en P u then some t else some u) := by intro l; unfold dwF; rw [if_neg a]
      rw [em, em]
      simp only [if_true, if_false, Bool.false_eq_true]
      refine ⟨?_, ?_, ?_, ?_⟩
      · rw [fX4_firstToEnd_4]
        by_cases c : en P t ≤ en P u <;> simp (disch := omega) only [wr_cj, wr_nj, rng_in, rng_out, zN_lit, zN_add, zN_mul, zN_sub, zN_ltT, zN_ltF, zN_leT, zN_leF, zN_eqT, zN_eqF, zN_lt, zN_le, zN_eq, zN_nat, zN_oobF, Option.bind_some, ↓reduceIte, Nat.one_mul, Nat.zero_add, Nat.add_zero, Nat.reduceAdd, Nat.reduceMul, Nat.reduceSub, Nat.reduceLT, Nat.reduceLeDiff, Nat.reduceEqDiff, reduceCtorEq, true_or, or_true, false_or, or_false, true_and, and_true, false_and, and_false, not_true_eq_false, not_false_eq_true, wr_2, wrL_1, zm_eqF, zm_eqF', zm_lt, zm_lt', zm_le, zm_le', zm_sub1, zN_01, Nat.mul_zero, Nat.zero_mul, Nat.mul_one, Nat.sub_zero, Nat.sub_self, hc', fX4_firstToEnd_36, fX4_firstToEnd_38, oI, he, he', c, if_true, if_false]
      · rw [fX4_lastToEnd_4]
        by_cases c : en P u ≤ en P t <;> simp (disch := omega) only [wr_cj, wr_nj, rng_in, rng_out, zN_lit, zN_add, zN_mul, zN_sub, zN_ltT, zN_ltF, zN_leT, zN_leF, zN_eqT, zN_eqF, zN_lt, zN_le, zN_eq, zN_nat, zN_oobF, Option.bind_some, ↓reduceIte, Nat.one_mul, Nat.zero_add, Nat.add_zero, Nat.reduceAdd, Nat.reduceMul, Nat.reduceSub, Nat.reduceLT, Nat.reduceLeDiff, Nat.reduceEqDiff, reduceCtorEq, true_or, or_true, false_or, or_false, true_and, and_true, false_and, and_false, not_true_eq_false, not_false_eq_true, wr_2, wrL_1, zm_eqF, zm_eqF', zm_lt, zm_lt', zm_le, zm_le', zm_sub1, zN_01, Nat.mul_zero, Nat.zero_mul, Nat.mul_one, Nat.sub_zero, Nat.sub_self, hc', fX4_lastToEnd_36, fX4_lastToEnd_38, oI, he, he', c, if_true, if_false]
      · split <;> assumption
      · split <;> assumption
theorem firstLast4 {P : Nat → Nat} (hP : Good P) {b : Nat} {M : zMM} (hL : Leaf M b P) (hS : CSet P M) : fX4_firstToEnd b M = some (oI (ed P false), M) ∧ fX4_lastToEnd b M = some (oI (ed P true), M) := by
  have on : okE P none := by intro u hu; cases hu
  have e1 : zN 2 + -zN 1 = zN 1 := by rw [zm_sub1 (by omega)]
  have e2 : zN 1 + -zN 1 = zN 0 := by rw [zm_sub1 (by omega)]
  have e3 : zN 0 + -zN 1 = -zN 1 := by rw [zm_I]; unfold zN; rw [zI_add]; rfl
  constructor
  · unfold fX4_firstToEnd
    have key : ∀ n, fX4_firstToEnd_4 b (n + 1 + 1 + 1 + 1) ((-1)) (2) M = some (oI (ed P false), M) := by
      intro n
      have s0 := fE4 hP hL hS (t := 2) (by omega) on (n + 1 + 1 + 1)
      have s1 := fE4 hP hL hS (t := 1) (by omega) s0.2.2.1 (n + 1 + 1)
      have s2 := fE4 hP hL hS (t := 0) (by omega) s1.2.2.1 (n + 1)
      rw [e1] at s0; rw [e2] at s1; rw [e3] at s2
      have e0 := s0.1.trans (s1.1.trans s2.1)
      simp only [zN_lit]
      refine e0.trans ?_
      rw [ed_dw, fX4_firstToEnd_4]
      simp (disch := omega) only [wr_cj, wr_nj, rng_in, rng_out, zN_lit, zN_add, zN_mul, zN_sub, zN_ltT, zN_ltF, zN_leT, zN_leF, zN_eqT, zN_eqF, zN_lt, zN_le, zN_eq, zN_nat, zN_oobF, Option.bind_some, ↓reduceIte, Nat.one_mul, Nat.zero_add, Nat.add_zero, Nat.reduceAdd, Nat.reduceMul, Nat.reduceSub, Nat.reduceLT, Nat.reduceLeDiff, Nat.reduceEqDiff, reduceCtorEq, true_or, or_true, false_or, or_false, true_and, and_true, false_and, and_false, not_true_eq_false, not_false_eq_true, wr_2, wrL_1, zm_eqF, zm_eqF', zm_lt, zm_lt', zm_le, zm_le', zm_sub1, zN_01, Nat.mul_zero, Nat.zero_mul, Nat.mul_one, Nat.sub_zero, Nat.sub_self]
    exact key 2147483644
  · unfold fX4_lastToEnd
    have key : ∀ n, fX4_lastToEnd_4 b (n + 1 + 1 + 1 + 1) ((-1)) (2) M = some (oI (ed P true), M) := by
      intro n
      have s0 := fE4 hP hL hS (t := 2) (by omega) on (n + 1 + 1 + 1)
      have s1 := fE4 hP hL hS (t := 1) (by omega) s0.2.2.2 (n + 1 + 1)
      have s2 := fE4 hP hL hS (t := 0) (by omega) s1.2.2.2 (n + 1)
      rw [e1] at s0; rw [e2] at s1; rw [e3] at s2
      have e0 := s0.2.1.trans (s1.2.1.trans s2.2.1)
      simp only [zN_lit]
      refine e0.trans ?_
      rw [ed_dw, fX4_lastToEnd_4]
      simp (disch := omega) only [wr_cj, wr_nj, rng_in, rng_out, zN_lit, zN_add, zN_mul, zN_sub, zN_ltT, zN_ltF, zN_leT, zN_leF, zN_eqT, zN_eqF, zN_lt, zN_le, zN_eq, zN_nat, zN_oobF, Option.bind_some, ↓reduceIte, Nat.one_mul, Nat.zero_add, Nat.add_zero, Nat.reduceAdd, Nat.reduceMul, Nat.reduceSub, Nat.reduceLT, Nat.reduceLeDiff, Nat.reduceEqDiff, reduceCtorEq, true_or, or_true, false_or, or_false, true_and, and_true, false_and, and_false, not_true_eq_false, not_false_eq_true, wr_2, wrL_1, zm_eqF, zm_eqF', zm_lt, zm_lt', zm_le, zm_le', zm_sub1, zN_01, Nat.mul_zero, Nat.zero_mul, Nat.mul_one, Nat.sub_zero, Nat.sub_self]
    exact key 2147483644
/-! ties: how deep, how many are broken -/
def dp (P : Nat → Nat) (i : Nat) : Int := (ln P (P (219 + 3 * i)) (P (220 + 3 * i)) : Int) - (ln P 0 (P (221 + 3 * i)) : Int)
def brk (P : Nat → Nat) (i : Nat) : Nat := if dp P i < 0 ∨ 6 < dp P i then 1 else 0
def nbr (P : Nat → Nat) : Nat → Nat
  | 0 => 0
  | n + 1 => nbr P n + brk P n
theorem dp_R {P : Nat → Nat} (hP : Good P) {i : Nat} (hi : i < P 218) : -210 < dp P i ∧ dp P i < 210 := by
  have h := hP.2.2.1.2 i hi
  have a := ln_lt hP (t := P (219 + 3 * i)) (by omega) h.2.1
  have b := ln_lt hP (t := 0) (k := P (221 + 3 * i)) (by omega) h.2.2
  unfold dp
  omega
theorem deepOf4 {P : Nat → Nat} (hP : Good P) {b : Nat} {M : zMM} (hL : Leaf M b P) (hS : CSet P M) {i : Nat} (hi : i < P 218) : fX4_deepOf b (zN i) M = some (zI (dp P i), M) := by
  have h := hP.2.2.1.2 i hi
  have h12 := hP.2.2.1.1
  obtain ⟨l1, l2, l3⟩ := hL.2.2.2.2 i hi
  have ht : P (219 + 3 * i) < 3 := by omega
  have c1 := (hP.2.1 _ ht).1
  have c2 := (hP.2.1 0 (by omega)).1
  simp only [Nat.reduceAdd] at c2
  have a := lineOf4 hP hS ht h.2.1
  have c := lineOf4 hP hS (t := 0) (by omega) h.2.2
  unfold fX4_deepOf
  simp only [Nat.add_zero] at c
  simp (disch := omega) only [wr_cj, wr_nj, rng_in, rng_out, zN_lit, zN_add, zN_mul, zN_sub, zN_ltT, zN_ltF, zN_leT, zN_leF, zN_eqT, zN_eqF, zN_lt, zN_le, zN_eq, zN_nat, zN_oobF, Option.bind_some, ↓reduceIte, Nat.one_mul, Nat.zero_add, Nat.add_zero, Nat.reduceAdd, Nat.reduceMul, Nat.reduceSub, Nat.reduceLT, Nat.reduceLeDiff, Nat.reduceEqDiff, reduceCtorEq, true_or, or_true, false_or, or_false, true_and, and_true, false_and, and_false, not_true_eq_false, not_false_eq_true, wr_2, wrL_1, zm_eqF, zm_eqF', zm_lt, zm_lt', zm_le, zm_le', zm_sub1, zN_01, Nat.mul_zero, Nat.zero_mul, Nat.mul_one, Nat.sub_zero, Nat.sub_self, l1, l2, l3, a, c]
  unfold zN dp
  rw [zI_sub]
theorem isBroken6 {P : Nat → Nat} (hP : Good P) {M : zMM} {i : Nat} (hi : i < P 218) : fX6_isBroken (zI (dp P i)) M = some (zN (brk P i), M) := by
  have h := dp_R hP hi
  unfold fX6_isBroken brk
  rw [show (0 : Int32) = zI 0 from rfl, show (6 : Int32) = zI 6 from rfl, show (1 : Int32) = zN 1 from rfl, show zI 0 = zN 0 from rfl]
  by_cases a : dp P i < 0
  · rw [if_pos (show zI (dp P i) < zN 0 from (zI_lt ⟨by omega, by omega⟩ ⟨by decide, by decide⟩).mpr a), if_pos (Or.inl a)]
  · rw [if_neg (show ¬ zI (dp P i) < zN 0 from fun q => a ((zI_lt ⟨by omega, by omega⟩ ⟨by decide, by decide⟩).mp q))]
    by_cases c : 6 < dp P i
    · rw [if_neg (show ¬ zI (dp P i) ≤ zI 6 from fun q => by have := (zI_le ⟨by omega, by omega⟩ ⟨by decide, by decide⟩).mp q; omega), if_pos (Or.inr c)]
    · rw [if_pos (show zI (dp P i) ≤ zI 6 from (zI_le ⟨by omega, by omega⟩ ⟨by decide, by decide⟩).mpr (by omega)), if_neg (by omega)]
theorem brk_le (P : Nat → Nat) (i : Nat) : brk P i = 0 ∨ brk P i = 1 := by unfold brk; split <;> omega
theorem nbr_le (P : Nat → Nat) (n : Nat) : nbr P n ≤ n := by
  induction n with
  | zero => exact Nat.le_refl _
  | succ n ih => have := brk_le P n; rw [nbr]; omega
theorem bT4 {P : Nat → Nat} (hP : Good P) {b : Nat} {M : zMM} (hL : Leaf M b P) (hS : CSet P M) : ∀ f i fuel, P 218 - i = f → i ≤ P 218 → f < fuel → fX4_brokenTies_4 b fuel (zN (nbr P i)) (zN i) M = some (zN (nbr P (P 218)), M) := by
  have h12 := hP.2.2.1.1
  have l6 := hL.1.2.2.2.2.2.2
  intro f
  induction f with
  | zero =>
    intro i fuel hf hi hfu
    obtain ⟨fu, rfl⟩ : ∃ q, fuel = q + 1 := ⟨fuel - 1, by omega⟩
    have : i = P 218 := by omega
    subst this
    rw [fX4_brokenTies_4]
    simp (disch := omega) only [wr_cj, wr_nj, rng_in, rng_out, zN_lit, zN_add, zN_mul, zN_sub, zN_ltT, zN_ltF, zN_leT, zN_leF, zN_eqT, zN_eqF, zN_lt, zN_le, zN_eq, zN_nat, zN_oobF, Option.bind_some, ↓reduceIte, Nat.one_mul, Nat.zero_add, Nat.add_zero, Nat.reduceAdd, Nat.reduceMul, Nat.reduceSub, Nat.reduceLT, Nat.reduceLeDiff, Nat.reduceEqDiff, reduceCtorEq, true_or, or_true, false_or, or_false, true_and, and_true, false_and, and_false, not_true_eq_false, not_false_eq_true, wr_2, wrL_1, zm_eqF, zm_eqF', zm_lt, zm_lt', zm_le, zm_le', zm_sub1, zN_01, Nat.mul_zero, Nat.zero_mul, Nat.mul_one, Nat.sub_zero, Nat.sub_self, l6]
  | succ f ih =>
    intro i fuel hf hi hfu
    obtain ⟨fu, rfl⟩ : ∃ q, fuel = q + 1 := ⟨fuel - 1, by omega⟩
    have e1 := deepOf4 hP hL hS (i := i) (by omega)
    have e2 := isBroken6 hP (M := M) (i := i) (by omega)
    have e3 := ih (i + 1) fu (by omega) (by omega) (by omega)
    rw [nbr] at e3
    rw [fX4_brokenTies_4]
    rcases brk_le P i with q | q <;> rw [q] at e2 e3
    · simp (disch := omega) only [wr_cj, wr_nj, rng_in, rng_out, zN_lit, zN_add, zN_mul, zN_sub, zN_ltT, zN_ltF, zN_leT, zN_leF, zN_eqT, zN_eqF, zN_lt, zN_le, zN_eq, zN_nat, zN_oobF, Option.bind_some, ↓reduceIte, Nat.one_mul, Nat.zero_add, Nat.add_zero, Nat.reduceAdd, Nat.reduceMul, Nat.reduceSub, Nat.reduceLT, Nat.reduceLeDiff, Nat.reduceEqDiff, reduceCtorEq, true_or, or_true, false_or, or_false, true_and, and_true, false_and, and_false, not_true_eq_false, not_false_eq_true, wr_2, wrL_1, zm_eqF, zm_eqF', zm_lt, zm_lt', zm_le, zm_le', zm_sub1, zN_01, Nat.mul_zero, Nat.zero_mul, Nat.mul_one, Nat.sub_zero, Nat.sub_self, l6, e1, e2, fX4_brokenTies_27]; exact e3
    · simp (disch := omega) only [wr_cj, wr_nj, rng_in, rng_out, zN_lit, zN_add, zN_mul, zN_sub, zN_ltT, zN_ltF, zN_leT, zN_leF, zN_eqT, zN_eqF, zN_lt, zN_le, zN_eq, zN_nat, zN_oobF, Option.bind_some, ↓reduceIte, Nat.one_mul, Nat.zero_add, Nat.add_zero, Nat.reduceAdd, Nat.reduceMul, Nat.reduceSub, Nat.reduceLT, Nat.reduceLeDiff, Nat.reduceEqDiff, reduceCtorEq, true_or, or_true, false_or, or_false, true_and, and_true, false_and, and_false, not_true_eq_false, not_false_eq_true, wr_2, wrL_1, zm_eqF, zm_eqF', zm_lt, zm_lt', zm_le, zm_le', zm_sub1, zN_01, Nat.mul_zero, Nat.zero_mul, Nat.mul_one, Nat.sub_zero, Nat.sub_self, l6, e1, e2, fX4_brokenTies_27]; exact e3
theorem brokenTies4 {P : Nat → Nat} (hP : Good P) {b : Nat} {M : zMM} (hL : Leaf M b P) (hS : CSet P M) : fX4_brokenTies b M = some (zN (nbr P (P 218)), M) := by
  have h12 := hP.2.2.1.1
  have := bT4 hP hL hS (P 218) 0 zFU (by omega) (by omega) (by rw [zFU_eq]; omega)
  exact this
def rga (P : Nat → Nat) : Nat := rgs P 0 (NL P) + rgs P 1 (NL P) + rgs P 2 (NL P)
def cst (P : Nat → Nat) : Nat := apt P * P 256 + nbr P (P 218) * P 257 + rga P * P 258
theorem raggedInAll4 {P : Nat → Nat} {M : zMM} (hS : CSet P M) : fX4_raggedInAll M = some (zN (rga P), M) := by
  have a := (hS.1 0 (by omega)).2.2.2.2.2
  have b := (hS.1 1 (by omega)).2.2.2.2.2
  have c := (hS.1 2 (by omega)).2.2.2.2.2
  unfold fX4_raggedInAll rga
  simp (disch := omega) only [wr_cj, wr_nj, rng_in, rng_out, zN_lit, zN_add, zN_mul, zN_sub, zN_ltT, zN_ltF, zN_leT, zN_leF, zN_eqT, zN_eqF, zN_lt, zN_le, zN_eq, zN_nat, zN_oobF, Option.bind_some, ↓reduceIte, Nat.one_mul, Nat.zero_add, Nat.add_zero, Nat.reduceAdd, Nat.reduceMul, Nat.reduceSub, Nat.reduceLT, Nat.reduceLeDiff, Nat.reduceEqDiff, reduceCtorEq, true_or, or_true, false_or, or_false, true_and, and_true, false_and, and_false, not_true_eq_false, not_false_eq_true, wr_2, wrL_1, zm_eqF, zm_eqF', zm_lt, zm_lt', zm_le, zm_le', zm_sub1, zN_01, Nat.mul_zero, Nat.zero_mul, Nat.mul_one, Nat.sub_zero, Nat.sub_self, a, b, c]
theorem costOf4 {P : Nat → Nat} (hP : Good P) {b : Nat} {M : zMM} (hL : Leaf M b P) (hS : CSet P M) : fX4_costOf b M = some (zN (cst P), M) := by
  have e1 := endsApart4 hP hL hS
  have e2 := brokenTies4 hP hL hS
  have e3 := raggedInAll4 hS
  have w0 := hL.2.1 0 (by omega)
  have w1 := hL.2.1 1 (by omega)
  have w2 := hL.2.1 2 (by omega)
  unfold fX4_costOf cst
  simp (disch := omega) only [wr_cj, wr_nj, rng_in, rng_out, zN_lit, zN_add, zN_mul, zN_sub, zN_ltT, zN_ltF, zN_leT, zN_leF, zN_eqT, zN_eqF, zN_lt, zN_le, zN_eq, zN_nat, zN_oobF, Option.bind_some, ↓reduceIte, Nat.one_mul, Nat.zero_add, Nat.add_zero, Nat.reduceAdd, Nat.reduceMul, Nat.reduceSub, Nat.reduceLT, Nat.reduceLeDiff, Nat.reduceEqDiff, reduceCtorEq, true_or, or_true, false_or, or_false, true_and, and_true, false_and, and_false, not_true_eq_false, not_false_eq_true, wr_2, wrL_1, zm_eqF, zm_eqF', zm_lt, zm_lt', zm_le, zm_le', zm_sub1, zN_01, Nat.mul_zero, Nat.zero_mul, Nat.mul_one, Nat.sub_zero, Nat.sub_self, e1, e2, e3, w0, w1, w2]
