/-! the model -/
theorem told7 {p j : Nat} {M : zMM} (h : 8 * p + j < 1680) : fX7_told (zN p) (zN j) M = some (M.1 163 (8 * p + j), M) := by
  unfold fX7_told
  simp (disch := omega) only [wr_cj, wr_nj, rng_in, rng_out, zN_lit, zN_add, zN_mul, zN_sub, zN_ltT, zN_ltF, zN_leT, zN_leF, zN_eqT, zN_eqF, zN_lt, zN_le, zN_eq, zN_nat, zN_oobF, Option.bind_some, ↓reduceIte, Nat.one_mul, Nat.zero_add, Nat.add_zero, Nat.reduceAdd, Nat.reduceMul, Nat.reduceSub, Nat.reduceLT, Nat.reduceLeDiff, Nat.reduceEqDiff, reduceCtorEq, true_or, or_true, false_or, or_false, true_and, and_true, false_and, and_false, not_true_eq_false, not_false_eq_true, wr_2, wrL_1, zm_eqF, zm_eqF', zm_lt, zm_lt', zm_le, zm_le', zm_sub1, zN_01, Nat.mul_zero, Nat.zero_mul, Nat.mul_one, Nat.sub_zero, Nat.sub_self]
theorem tied7 {P : Nat → Nat} {M : zMM} (hM : MNow M P) {i j : Nat} (h : 219 + 3 * i + j < 259) : fX7_tied (zN i) (zN j) M = some (zN (P (219 + 3 * i + j)), M) := by
  have := hM (219 + 3 * i + j) h
  unfold fX7_tied
  simp (disch := omega) only [wr_cj, wr_nj, rng_in, rng_out, zN_lit, zN_add, zN_mul, zN_sub, zN_ltT, zN_ltF, zN_leT, zN_leF, zN_eqT, zN_eqF, zN_lt, zN_le, zN_eq, zN_nat, zN_oobF, Option.bind_some, ↓reduceIte, Nat.one_mul, Nat.zero_add, Nat.add_zero, Nat.reduceAdd, Nat.reduceMul, Nat.reduceSub, Nat.reduceLT, Nat.reduceLeDiff, Nat.reduceEqDiff, reduceCtorEq, true_or, or_true, false_or, or_false, true_and, and_true, false_and, and_false, not_true_eq_false, not_false_eq_true, wr_2, wrL_1, zm_eqF, zm_eqF', zm_lt, zm_lt', zm_le, zm_le', zm_sub1, zN_01, Nat.mul_zero, Nat.zero_mul, Nat.mul_one, Nat.sub_zero, Nat.sub_self, this]
theorem MSet_len {P : Nat → Nat} (hP : Good P) {M : zMM} (hS : MSet P M) : (pl P (NL P)).length ≤ 210 := by
  have h := hS.1.2.1
  have c0 := (hP.2.1 0 (by omega)).1
  have c1 := (hP.2.1 1 (by omega)).1
  have c2 := (hP.2.1 2 (by omega)).1
  have d0 := (dn_le P (NL P) 0).1
  have d1 := (dn_le P (NL P) 1).1
  have d2 := (dn_le P (NL P) 2).1
  omega
theorem partOf7 {P : Nat → Nat} (hP : Good P) {M : zMM} (hS : MSet P M) {t k : Nat} (ht : t < 3) (hk : k < P (5 + t)) : ∃ p, p < 210 ∧ p < (pl P (NL P)).length ∧ (pl P (NL P))[p]? = some (ln P t k, t) ∧ M.1 164 (70 * t + k) = zN p ∧ Ent P M p (ln P t k) t := by
  have hl := MSet_len hP hS
  obtain ⟨p, p1, p2⟩ := hS.1.2.2.2.2 t ht k (by rw [NL_dn hP ht]; exact hk)
  have := (List.getElem?_eq_some_iff.mp p1).1
  exact ⟨p, by omega, this, p1, p2, hS.1.2.2.2.1 p _ _ p1⟩
theorem placeOf7 {P : Nat → Nat} (hP : Good P) {M : zMM} (hM : MNow M P) (hS : MSet P M) {t k : Nat} (ht : t < 3) (hk : k < P (5 + t)) : fX7_placeOf (zN t) (zN k) M = some (zN (ln P t k), M) := by
  obtain ⟨p, p1, -, -, p4, p5⟩ := partOf7 hP hS ht hk
  have c := (hP.2.1 t ht).1
  have t1 := told7 (p := p) (j := 1) (M := M) (by omega)
  have t2 := told7 (p := p) (j := 2) (M := M) (by omega)
  have m1 := hM 1 (by omega)
  rw [p5.2.1] at t1
  rw [p5.2.2.1] at t2
  unfold fX7_placeOf
  simp (disch := omega) only [wr_cj, wr_nj, rng_in, rng_out, zN_lit, zN_add, zN_mul, zN_sub, zN_ltT, zN_ltF, zN_leT, zN_leF, zN_eqT, zN_eqF, zN_lt, zN_le, zN_eq, zN_nat, zN_oobF, Option.bind_some, ↓reduceIte, Nat.one_mul, Nat.zero_add, Nat.add_zero, Nat.reduceAdd, Nat.reduceMul, Nat.reduceSub, Nat.reduceLT, Nat.reduceLeDiff, Nat.reduceEqDiff, reduceCtorEq, true_or, or_true, false_or, or_false, true_and, and_true, false_and, and_false, not_true_eq_false, not_false_eq_true, wr_2, wrL_1, zm_eqF, zm_eqF', zm_lt, zm_lt', zm_le, zm_le', zm_sub1, zN_01, Nat.mul_zero, Nat.zero_mul, Nat.mul_one, Nat.sub_zero, Nat.sub_self, p4, t1, t2, m1]
  rw [Nat.div_add_mod']
theorem endOf7 {P : Nat → Nat} (hP : Good P) {M : zMM} (hM : MNow M P) (hS : MSet P M) {t : Nat} (ht : t < 3) : fX7_endOf (zN t) M = some (if P (5 + t) = 0 then -zN 1 else zN (en P t), M) := by
  have c := (hP.2.1 t ht).1
  have m := hM (5 + t) (by omega)
  unfold fX7_endOf
  by_cases a : P (5 + t) = 0
  · rw [if_pos a]; simp (disch := omega) only [wr_cj, wr_nj, rng_in, rng_out, zN_lit, zN_add, zN_mul, zN_sub, zN_ltT, zN_ltF, zN_leT, zN_leF, zN_eqT, zN_eqF, zN_lt, zN_le, zN_eq, zN_nat, zN_oobF, Option.bind_some, ↓reduceIte, Nat.one_mul, Nat.zero_add, Nat.add_zero, Nat.reduceAdd, Nat.reduceMul, Nat.reduceSub, Nat.reduceLT, Nat.reduceLeDiff, Nat.reduceEqDiff, reduceCtorEq, true_or, or_true, false_or, or_false, true_and, and_true, false_and, and_false, not_true_eq_false, not_false_eq_true, wr_2, wrL_1, zm_eqF, zm_eqF', zm_lt, zm_lt', zm_le, zm_le', zm_sub1, zN_01, Nat.mul_zero, Nat.zero_mul, Nat.mul_one, Nat.sub_zero, Nat.sub_self, m, a]
  · rw [if_neg a]
    have := placeOf7 hP hM hS ht (show P (5 + t) - 1 < P (5 + t) by omega)
    simp (disch := omega) only [wr_cj, wr_nj, rng_in, rng_out, zN_lit, zN_add, zN_mul, zN_sub, zN_ltT, zN_ltF, zN_leT, zN_leF, zN_eqT, zN_eqF, zN_lt, zN_le, zN_eq, zN_nat, zN_oobF, Option.bind_some, ↓reduceIte, Nat.one_mul, Nat.zero_add, Nat.add_zero, Nat.reduceAdd, Nat.reduceMul, Nat.reduceSub, Nat.reduceLT, Nat.reduceLeDiff, Nat.reduceEqDiff, reduceCtorEq, true_or, or_true, false_or, or_false, true_and, and_true, false_and, and_false, not_true_eq_false, not_false_eq_true, wr_2, wrL_1, zm_eqF, zm_eqF', zm_lt, zm_lt', zm_le, zm_le', zm_sub1, zN_01, Nat.mul_zero, Nat.zero_mul, Nat.mul_one, Nat.sub_zero, Nat.sub_self, m, this, en]
theorem ender7s {P : Nat → Nat} (hP : Good P) {M : zMM} (hM : MNow M P) (hS : MSet P M) {t : Nat} (ht : t < 3) {q : Option Nat} (hq : okE P q) (n : Nat) (l : Bool) : fX7_ender_4 (zN (if l then 1 else 0)) (n + 1) (oI q) (zN t) M = fX7_ender_4 (zN (if l then 1 else 0)) n (oI (upF P l q t)) (zN (t + 1)) M := by
  have he := endOf7 hP hM hS ht
  have hc := (hP.2.1 t ht).1
  have m := hM (5 + t) (by omega)
  rw [fX7_ender_4]
  by_cases a : P (5 + t) = 0
  · have em : upF P l q t = q := by unfold upF; rw [if_pos a]
    rw [em]
    simp (disch := omega) only [wr_cj, wr_nj, rng_in, rng_out, zN_lit, zN_add, zN_mul, zN_sub, zN_ltT, zN_ltF, zN_leT, zN_leF, zN_eqT, zN_eqF, zN_lt, zN_le, zN_eq, zN_nat, zN_oobF, Option.bind_some, ↓reduceIte, Nat.one_mul, Nat.zero_add, Nat.add_zero, Nat.reduceAdd, Nat.reduceMul, Nat.reduceSub, Nat.reduceLT, Nat.reduceLeDiff, Nat.reduceEqDiff, reduceCtorEq, true_or, or_true, false_or, or_false, true_and, and_true, false_and, and_false, not_true_eq_false, not_false_eq_true, wr_2, wrL_1, zm_eqF, zm_eqF', zm_lt, zm_lt', zm_le, zm_le', zm_sub1, zN_01, Nat.mul_zero, Nat.zero_mul, Nat.mul_one, Nat.sub_zero, Nat.sub_self, m, a, fX7_ender_63]
  · rw [if_neg a] at he
    have hen := en_lt hP ht a
    cases q with
    | none =>
      have em : upF P l none t = some t := by unfold upF; rw [if_neg a]
      rw [em]
      simp (disch := omega) only [wr_cj, wr_nj, rng_in, rng_out, zN_lit, zN_add, zN_mul, zN_sub, zN_ltT, zN_ltF, zN_leT, zN_leF, zN_eqT, zN_eqF, zN_lt, zN_le, zN_eq, zN_nat, zN_oobF, Option.bind_some, ↓reduceIte, Nat.one_mul, Nat.zero_add, Nat.add_zero, Nat.reduceAdd, Nat.reduceMul, Nat.reduceSub, Nat.reduceLT, Nat.reduceLeDiff, Nat.reduceEqDiff, reduceCtorEq, true_or, or_true, false_or, or_false, true_and, and_true, false_and, and_false, not_true_eq_false, not_false_eq_true, wr_2, wrL_1, zm_eqF, zm_eqF', zm_lt, zm_lt', zm_le, zm_le', zm_sub1, zN_01, Nat.mul_zero, Nat.zero_mul, Nat.mul_one, Nat.sub_zero, Nat.sub_self, m, fX7_ender_61, fX7_ender_63, oI]
    | some u =>
      have hu := hq u rfl
      have he' := endOf7 hP hM hS hu.1
      rw [if_neg hu.2] at he'
      have hen' := en_lt hP hu.1 hu.2
      have em : upF P l (some u) t = if l then (if en P u < en P t then some t else some u) else (if en P t < en P u then some t else some u) := by unfold upF; rw [if_neg a]
      rw [em]
      cases l
      · simp only [if_false, Bool.false_eq_true]
        by_cases c : en P t < en P u <;> simp (disch := omega) only [wr_cj, wr_nj, rng_in, rng_out, zN_lit, zN_add, zN_mul, zN_sub, zN_ltT, zN_ltF, zN_leT, zN_leF, zN_eqT, zN_eqF, zN_lt, zN_le, zN_eq, zN_nat, zN_oobF, Option.bind_some, ↓reduceIte, Nat.one_mul, Nat.zero_add, Nat.add_zero, Nat.reduceAdd, Nat.reduceMul, Nat.reduceSub, Nat.reduceLT, Nat.reduceLeDiff, Nat.reduceEqDiff, reduceCtorEq, true_or, or_true, false_or, or_false, true_and, and_true, false_and, and_false, not_true_eq_false, not_false_eq_true, wr_2, wrL_1, zm_eqF, zm_eqF', zm_lt, zm_lt', zm_le, zm_le', zm_sub1, zN_01, Nat.mul_zero, Nat.zero_mul, Nat.mul_one, Nat.sub_zero, Nat.sub_self, m, fX7_ender_61, fX7_ender_63, oI, he, he', c, if_true, if_false]
      · simp only [if_true]
        by_cases c : en P u < en P t <;> simp (disch := omega) only [wr_cj, wr_nj, rng_in, rng_out, zN_lit, zN_add, zN_mul, zN_sub, zN_ltT, zN_ltF, zN_leT, zN_leF, zN_eqT, zN_eqF, zN_lt, zN_le, zN_eq, zN_nat, zN_oobF, Option.bind_some, ↓reduceIte, Nat.one_mul, Nat.zero_add, Nat.add_zero, Nat.reduceAdd, Nat.reduceMul, Nat.reduceSub, Nat.reduceLT, Nat.reduceLeDiff, Nat.reduceEqDiff, reduceCtorEq, true_or, or_true, false_or, or_false, true_and, and_true, false_and, and_false, not_true_eq_false, not_false_eq_true, wr_2, wrL_1, zm_eqF, zm_eqF', zm_lt, zm_lt', zm_le, zm_le', zm_sub1, zN_01, Nat.mul_zero, Nat.zero_mul, Nat.mul_one, Nat.sub_zero, Nat.sub_self, m, fX7_ender_61, fX7_ender_63, oI, he, he', c, if_true, if_false]
theorem ender7 {P : Nat → Nat} (hP : Good P) {M : zMM} (hM : MNow M P) (hS : MSet P M) (l : Bool) : fX7_ender (zN (if l then 1 else 0)) M = some (oI (ed P l), M) := by
  unfold fX7_ender
  have on : okE P none := by intro u hu; cases hu
  have key : ∀ n, fX7_ender_4 (zN (if l then 1 else 0)) (n + 1 + 1 + 1 + 1) ((-1)) (0) M = some (oI (ed P l), M) := by
    intro n
    have s0 := ender7s hP hM hS (t := 0) (by omega) on (n + 1 + 1 + 1) l
    have s1 := ender7s hP hM hS (t := 1) (by omega) (okE_up (l := l) (t := 0) (by omega) on) (n + 1 + 1) l
    have s2 := ender7s hP hM hS (t := 2) (by omega) (okE_up (l := l) (t := 1) (by omega) (okE_up (l := l) (t := 0) (by omega) on)) (n + 1) l
    have e0 := s0.trans (s1.trans s2)
    simp only [zN_lit]
    refine e0.trans ?_
    rw [fX7_ender_4]
    simp (disch := omega) only [wr_cj, wr_nj, rng_in, rng_out, zN_lit, zN_add, zN_mul, zN_sub, zN_ltT, zN_ltF, zN_leT, zN_leF, zN_eqT, zN_eqF, zN_lt, zN_le, zN_eq, zN_nat, zN_oobF, Option.bind_some, ↓reduceIte, Nat.one_mul, Nat.zero_add, Nat.add_zero, Nat.reduceAdd, Nat.reduceMul, Nat.reduceSub, Nat.reduceLT, Nat.reduceLeDiff, Nat.reduceEqDiff, reduceCtorEq, true_or, or_true, false_or, or_false, true_and, and_true, false_and, and_false, not_true_eq_false, not_false_eq_true, wr_2, wrL_1, zm_eqF, zm_eqF', zm_lt, zm_lt', zm_le, zm_le', zm_sub1, zN_01, Nat.mul_zero, Nat.zero_mul, Nat.mul_one, Nat.sub_zero, Nat.sub_self, ed]
  exact key 2147483644
theorem apt_le {P : Nat → Nat} (hP : Good P) : apt P < 210 := by
  unfold apt
  have h1 := okE_ed P true
  cases h : ed P true with
  | none => simp
  | some u =>
    cases h' : ed P false with
    | none => simp
    | some v =>
      have := h1 u h
      have := en_lt hP this.1 this.2
      simp only
      omega
set_option maxHeartbeats 8000000 in
theorem ed_none (P : Nat → Nat) : ed P true = none ↔ ed P false = none := by
  unfold ed upF
  by_cases a : P (5 + 0) = 0 <;> by_cases b : P (5 + 1) = 0 <;> by_cases c : P (5 + 2) = 0 <;> rcases Nat.lt_trichotomy (en P 0) (en P 1) with x | x | x <;> rcases Nat.lt_trichotomy (en P 0) (en P 2) with y | y | y <;> rcases Nat.lt_trichotomy (en P 1) (en P 2) with z | z | z <;> first | (exfalso; omega) | (simp (disch := omega) only [a, b, c, if_true, if_false, Bool.false_eq_true, if_pos, if_neg, reduceCtorEq])
set_option maxHeartbeats 8000000 in
theorem ed_le (P : Nat → Nat) {u v : Nat} (h1 : ed P true = some u) (h2 : ed P false = some v) : en P v ≤ en P u := by
  unfold ed upF at h1 h2
  by_cases a : P (5 + 0) = 0 <;> by_cases b : P (5 + 1) = 0 <;> by_cases c : P (5 + 2) = 0 <;> rcases Nat.lt_trichotomy (en P 0) (en P 1) with x | x | x <;> rcases Nat.lt_trichotomy (en P 0) (en P 2) with y | y | y <;> rcases Nat.lt_trichotomy (en P 1) (en P 2) with z | z | z <;> first | (exfalso; omega) | (simp (disch := omega) only [a, b, c, if_true, if_false, Bool.false_eq_true, if_pos, if_neg, reduceCtorEq, Option.some.injEq] at h1 h2 <;> subst h1 <;> subst h2 <;> omega)
theorem apartOf7 {P : Nat → Nat} (hP : Good P) {M : zMM} (hM : MNow M P) (hS : MSet P M) : fX7_apartOf M = some (zN (apt P), M) := by
  have e1 := ender7 hP hM hS true
  have e0 := ender7 hP hM hS false
  simp only [if_true, if_false, Bool.false_eq_true] at e1 e0
  unfold fX7_apartOf apt
  cases h : ed P true with
  | none =>
    rw [h] at e1
    simp (disch := omega) only [wr_cj, wr_nj, rng_in, rng_out, zN_lit, zN_add, zN_mul, zN_sub, zN_ltT, zN_ltF, zN_leT, zN_leF, zN_eqT, zN_eqF, zN_lt, zN_le, zN_eq, zN_nat, zN_oobF, Option.bind_some, ↓reduceIte, Nat.one_mul, Nat.zero_add, Nat.add_zero, Nat.reduceAdd, Nat.reduceMul, Nat.reduceSub, Nat.reduceLT, Nat.reduceLeDiff, Nat.reduceEqDiff, reduceCtorEq, true_or, or_true, false_or, or_false, true_and, and_true, false_and, and_false, not_true_eq_false, not_false_eq_true, wr_2, wrL_1, zm_eqF, zm_eqF', zm_lt, zm_lt', zm_le, zm_le', zm_sub1, zN_01, Nat.mul_zero, Nat.zero_mul, Nat.mul_one, Nat.sub_zero, Nat.sub_self, e1, oI]
  | some u =>
    cases h' : ed P false with
    | none => rw [(ed_none P).mpr h'] at h; cases h
    | some v =>
      rw [h] at e1; rw [h'] at e0
      have hu := okE_ed P true u h
      have hv := okE_ed P false v h'
      have a := endOf7 hP hM hS hu.1
      have b := endOf7 hP hM hS hv.1
      rw [if_neg hu.2] at a
      rw [if_neg hv.2] at b
      have := ed_le P h h'
      simp (disch := omega) only [wr_cj, wr_nj, rng_in, rng_out, zN_lit, zN_add, zN_mul, zN_sub, zN_ltT, zN_ltF, zN_leT, zN_leF, zN_eqT, zN_eqF, zN_lt, zN_le, zN_eq, zN_nat, zN_oobF, Option.bind_some, ↓reduceIte, Nat.one_mul, Nat.zero_add, Nat.add_zero, Nat.reduceAdd, Nat.reduceMul, Nat.reduceSub, Nat.reduceLT, Nat.reduceLeDiff, Nat.reduceEqDiff, reduceCtorEq, true_or, or_true, false_or, or_false, true_and, and_true, false_and, and_false, not_true_eq_false, not_false_eq_true, wr_2, wrL_1, zm_eqF, zm_eqF', zm_lt, zm_lt', zm_le, zm_le', zm_sub1, zN_01, Nat.mul_zero, Nat.zero_mul, Nat.mul_one, Nat.sub_zero, Nat.sub_self, e1, e0, oI, a, b]
def sumR (P : Nat → Nat) (L : List (Nat × Nat)) : Nat := (L.map (fun q => rg P q.1 q.2)).sum
theorem sumR_pl (P : Nat → Nat) (n : Nat) : sumR P (pl P n) = rgs P 0 n + rgs P 1 n + rgs P 2 n := by
  induction n with
  | zero => rfl
  | succ n ih =>
    have ap : ∀ L L', sumR P (L ++ L') = sumR P L + sumR P L' := by intro L L'; unfold sumR; rw [List.map_append, List.sum_append]
    have one : ∀ t, sumR P (if wid P n t = 0 then [] else [(n, t)]) = rg P n t := by
      intro t
      by_cases h : wid P n t = 0
      · rw [if_pos h, rg_0 P n t h]; rfl
      · rw [if_neg h]; simp [sumR]
    rw [pl, lnl, ap, ap, ap, one, one, one, ih, rgs, rgs, rgs]
    omega
theorem rA7 {P : Nat → Nat} {M : zMM} {L : List (Nat × Nat)} (hl : L.length ≤ 210) (h1 : M.1 158 11 = zN L.length) (h4 : ∀ p m t, L[p]? = some (m, t) → Ent P M p m t) : ∀ f p fuel acc, L.length - p = f → p ≤ L.length → f < fuel → fX7_raggedAll_4 fuel (zN acc) (zN p) M = some (zN (acc + sumR P (L.drop p)), M) := by
  intro f
  induction f with
  | zero =>
    intro p fuel acc hf hp hfu
    obtain ⟨fu, rfl⟩ : ∃ q, fuel = q + 1 := ⟨fuel - 1, by omega⟩
    rw [fX7_raggedAll_4]
    have : L.drop p = [] := List.drop_eq_nil_of_le (by omega)
    rw [this]
    simp (disch := omega) only [wr_cj, wr_nj, rng_in, rng_out, zN_lit, zN_add, zN_mul, zN_sub, zN_ltT, zN_ltF, zN_leT, zN_leF, zN_eqT, zN_eqF, zN_lt, zN_le, zN_eq, zN_nat, zN_oobF, Option.bind_some, ↓reduceIte, Nat.one_mul, Nat.zero_add, Nat.add_zero, Nat.reduceAdd, Nat.reduceMul, Nat.reduceSub, Nat.reduceLT, Nat.reduceLeDiff, Nat.reduceEqDiff, reduceCtorEq, true_or, or_true, false_or, or_false, true_and, and_true, false_and, and_false, not_true_eq_false, not_false_eq_true, wr_2, wrL_1, zm_eqF, zm_eqF', zm_lt, zm_lt', zm_le, zm_le', zm_sub1, zN_01, Nat.mul_zero, Nat.zero_mul, Nat.mul_one, Nat.sub_zero, Nat.sub_self, h1, sumR]
    rfl
  | succ f ih =>
    intro p fuel acc hf hp hfu
    obtain ⟨fu, rfl⟩ : ∃ q, fuel = q + 1 := ⟨fuel - 1, by omega⟩
    have hp' : p < L.length := by omega
    have eg : L[p]? = some (L[p].1, L[p].2) := List.getElem?_eq_getElem hp'
    have en := (h4 p _ _ eg).2.2.2.2.2.2.2
    have t7 := told7 (p := p) (j := 7) (M := M) (by omega)
    rw [en] at t7
    have := ih (p + 1) fu (acc + rg P L[p].1 L[p].2) (by omega) (by omega) (by omega)
    rw [fX7_raggedAll_4, List.drop_eq_getElem_cons hp']
    have e : sumR P (L[p] :: L.drop (p + 1)) = rg P L[p].1 L[p].2 + sumR P (L.drop (p + 1)) := by unfold sumR; rw [List.map_cons, List.sum_cons]
    rw [e, ← Nat.add_assoc, ← this]
    simp (disch := omega) only [wr_cj, wr_nj, rng_in, rng_out, zN_lit, zN_add, zN_mul, zN_sub, zN_ltT, zN_ltF, zN_leT, zN_leF, zN_eqT, zN_eqF, zN_lt, zN_le, zN_eq, zN_nat, zN_oobF, Option.bind_some, ↓reduceIte, Nat.one_mul, Nat.zero_add, Nat.add_zero, Nat.reduceAdd, Nat.reduceMul, Nat.reduceSub, Nat.reduceLT, Nat.reduceLeDiff, Nat.reduceEqDiff, reduceCtorEq, true_or, or_true, false_or, or_false, true_and, and_true, false_and, and_false, not_true_eq_false, not_false_eq_true, wr_2, wrL_1, zm_eqF, zm_eqF', zm_lt, zm_lt', zm_le, zm_le', zm_sub1, zN_01, Nat.mul_zero, Nat.zero_mul, Nat.mul_one, Nat.sub_zero, Nat.sub_self, h1, t7]
theorem raggedAll7 {P : Nat → Nat} (hP : Good P) {M : zMM} (hS : MSet P M) : fX7_raggedAll M = some (zN (rga P), M) := by
  have hl := MSet_len hP hS
  have := rA7 hl hS.1.1 hS.1.2.2.2.1 _ 0 zFU 0 rfl (Nat.zero_le _) (by rw [zFU_eq]; omega)
  rw [List.drop_zero, sumR_pl, Nat.zero_add] at this
  exact this
theorem deepOf7 {P : Nat → Nat} (hP : Good P) {M : zMM} (hM : MNow M P) (hS : MSet P M) {i : Nat} (hi : i < P 218) : fX7_deepOf (zN i) M = some (zI (dp P i), M) := by
  have h := hP.2.2.1.2 i hi
  have h12 := hP.2.2.1.1
  have t0 := tied7 hM (i := i) (j := 0) (by omega)
  have t1 := tied7 hM (i := i) (j := 1) (by omega)
  have t2 := tied7 hM (i := i) (j := 2) (by omega)
  rw [show 219 + 3 * i + 0 = 219 + 3 * i by omega] at t0
  rw [show 219 + 3 * i + 1 = 220 + 3 * i by omega] at t1
  rw [show 219 + 3 * i + 2 = 221 + 3 * i by omega] at t2
  have a := placeOf7 hP hM hS (t := P (219 + 3 * i)) (by omega) h.2.1
  have c := placeOf7 hP hM hS (t := 0) (by omega) h.2.2
  unfold fX7_deepOf
  simp (disch := omega) only [wr_cj, wr_nj, rng_in, rng_out, zN_lit, zN_add, zN_mul, zN_sub, zN_ltT, zN_ltF, zN_leT, zN_leF, zN_eqT, zN_eqF, zN_lt, zN_le, zN_eq, zN_nat, zN_oobF, Option.bind_some, ↓reduceIte, Nat.one_mul, Nat.zero_add, Nat.add_zero, Nat.reduceAdd, Nat.reduceMul, Nat.reduceSub, Nat.reduceLT, Nat.reduceLeDiff, Nat.reduceEqDiff, reduceCtorEq, true_or, or_true, false_or, or_false, true_and, and_true, false_and, and_false, not_true_eq_false, not_false_eq_true, wr_2, wrL_1, zm_eqF, zm_eqF', zm_lt, zm_lt', zm_le, zm_le', zm_sub1, zN_01, Nat.mul_zero, Nat.zero_mul, Nat.mul_one, Nat.sub_zero, Nat.sub_self, t0, t1, t2, a, c]
  unfold zN dp
  rw [zI_sub]
theorem in7 {a b c : Int32} {M : zMM} : fX7_in a b c M = some (if b ≤ a ∧ a ≤ c then zN 1 else zN 0, M) := by
  unfold fX7_in
  have e : ∀ x y : Int32, ¬ x < y ↔ y ≤ x := by
    intro x y; rw [Int32.lt_iff_toInt_lt, Int32.le_iff_toInt_le]; omega
  by_cases h : a < b
  · rw [if_pos h, if_neg (fun q => (e a b).mpr q.1 h)]; rfl
  · rw [if_neg h]
    by_cases h' : c < a
    · rw [if_pos h', if_neg (fun q => (e c a).mpr q.2 h')]; rfl
    · rw [if_neg h', if_pos ⟨(e a b).mp h, (e c a).mp h'⟩]; rfl
theorem isBroken7 {P : Nat → Nat} (hP : Good P) {M : zMM} (hM : MNow M P) (hS : MSet P M) {i : Nat} (hi : i < P 218) : fX7_isBroken (zN i) M = some (zN (brk P i), M) := by
  have h := dp_R hP hi
  have e := deepOf7 hP hM hS hi
  unfold fX7_isBroken brk
  rw [e, Option.bind_some, in7, Option.bind_some, show (0 : Int32) = zI 0 from rfl, show (6 : Int32) = zI 6 from rfl]
  have q1 : (zI 0 ≤ zI (dp P i) ∧ zI (dp P i) ≤ zI 6) ↔ ¬ (dp P i < 0 ∨ 6 < dp P i) := by
    rw [zI_le ⟨by decide, by decide⟩ ⟨by omega, by omega⟩, zI_le ⟨by omega, by omega⟩ ⟨by decide, by decide⟩]; omega
  by_cases c : dp P i < 0 ∨ 6 < dp P i
  · rw [if_neg (fun x => (q1.mp x) c), if_pos c]; rfl
  · rw [if_pos (q1.mpr c), if_neg c]; rfl
theorem bM7 {P : Nat → Nat} (hP : Good P) {M : zMM} (hM : MNow M P) (hS : MSet P M) : ∀ f i fuel, P 218 - i = f → i ≤ P 218 → f < fuel → fX7_brokenMany_4 fuel (zN (nbr P i)) (zN i) M = some (zN (nbr P (P 218)), M) := by
  have h12 := hP.2.2.1.1
  have l6 := hM 218 (by omega)
  intro f
  induction f with
  | zero =>
    intro i fuel hf hi hfu
    obtain ⟨fu, rfl⟩ : ∃ q, fuel = q + 1 := ⟨fuel - 1, by omega⟩
    have : i = P 218 := by omega
    subst this
    rw [fX7_brokenMany_4]
    simp (disch := omega) only [wr_cj, wr_nj, rng_in, rng_out, zN_lit, zN_add, zN_mul, zN_sub, zN_ltT, zN_ltF, zN_leT, zN_leF, zN_eqT, zN_eqF, zN_lt, zN_le, zN_eq, zN_nat, zN_oobF, Option.bind_some, ↓reduceIte, Nat.one_mul, Nat.zero_add, Nat.add_zero, Nat.reduceAdd, Nat.reduceMul, Nat.reduceSub, Nat.reduceLT, Nat.reduceLeDiff, Nat.reduceEqDiff, reduceCtorEq, true_or, or_true, false_or, or_false, true_and, and_true, false_and, and_false, not_true_eq_false, not_false_eq_true, wr_2, wrL_1, zm_eqF, zm_eqF', zm_lt, zm_lt', zm_le, zm_le', zm_sub1, zN_01, Nat.mul_zero, Nat.zero_mul, Nat.mul_one, Nat.sub_zero, Nat.sub_self, l6]
  | succ f ih =>
    intro i fuel hf hi hfu
    obtain ⟨fu, rfl⟩ : ∃ q, fuel = q + 1 := ⟨fuel - 1, by omega⟩
    have e2 := isBroken7 hP hM hS (i := i) (by omega)
    have e3 := ih (i + 1) fu (by omega) (by omega) (by omega)
    rw [nbr] at e3
    rw [fX7_brokenMany_4]
    rcases brk_le P i with q | q <;> rw [q] at e2 e3
    · simp (disch := omega) only [wr_cj, wr_nj, rng_in, rng_out, zN_lit, zN_add, zN_mul, zN_sub, zN_ltT, zN_ltF, zN_leT, zN_leF, zN_eqT, zN_eqF, zN_lt, zN_le, zN_eq, zN_nat, zN_oobF, Option.bind_some, ↓reduceIte, Nat.one_mul, Nat.zero_add, Nat.add_zero, Nat.reduceAdd, Nat.reduceMul, Nat.reduceSub, Nat.reduceLT, Nat.reduceLeDiff, Nat.reduceEqDiff, reduceCtorEq, true_or, or_true, false_or, or_false, true_and, and_true, false_and, and_false, not_true_eq_false, not_false_eq_true, wr_2, wrL_1, zm_eqF, zm_eqF', zm_lt, zm_lt', zm_le, zm_le', zm_sub1, zN_01, Nat.mul_zero, Nat.zero_mul, Nat.mul_one, Nat.sub_zero, Nat.sub_self, l6, e2, fX7_brokenMany_30]; exact e3
    · simp (disch := omega) only [wr_cj, wr_nj, rng_in, rng_out, zN_lit, zN_add, zN_mul, zN_sub, zN_ltT, zN_ltF, zN_leT, zN_leF, zN_eqT, zN_eqF, zN_lt, zN_le, zN_eq, zN_nat, zN_oobF, Option.bind_some, ↓reduceIte, Nat.one_mul, Nat.zero_add, Nat.add_zero, Nat.reduceAdd, Nat.reduceMul, Nat.reduceSub, Nat.reduceLT, Nat.reduceLeDiff, Nat.reduceEqDiff, reduceCtorEq, true_or, or_true, false_or, or_false, true_and, and_true, false_and, and_false, not_true_eq_false, not_false_eq_true, wr_2, wrL_1, zm_eqF, zm_eqF', zm_lt, zm_lt', zm_le, zm_le', zm_sub1, zN_01, Nat.mul_zero, Nat.zero_mul, Nat.mul_one, Nat.sub_zero, Nat.sub_self, l6, e2, fX7_brokenMany_30]; exact e3
theorem brokenMany7 {P : Nat → Nat} (hP : Good P) {M : zMM} (hM : MNow M P) (hS : MSet P M) : fX7_brokenMany M = some (zN (nbr P (P 218)), M) := by
  have h12 := hP.2.2.1.1
  exact bM7 hP hM hS (P 218) 0 zFU (by omega) (by omega) (by rw [zFU_eq]; omega)
theorem costOf7 {P : Nat → Nat} (hP : Good P) {M : zMM} (hM : MNow M P) (hS : MSet P M) : fX7_costOf M = some (zN (cst P), M) := by
  have e1 := apartOf7 hP hM hS
  have e2 := brokenMany7 hP hM hS
  have e3 := raggedAll7 hP hS
  have w0 := hM 256 (by omega)
  have w1 := hM 257 (by omega)
  have w2 := hM 258 (by omega)
  unfold fX7_costOf cst
  simp (disch := omega) only [wr_cj, wr_nj, rng_in, rng_out, zN_lit, zN_add, zN_mul, zN_sub, zN_ltT, zN_ltF, zN_leT, zN_leF, zN_eqT, zN_eqF, zN_lt, zN_le, zN_eq, zN_nat, zN_oobF, Option.bind_some, ↓reduceIte, Nat.one_mul, Nat.zero_add, Nat.add_zero, Nat.reduceAdd, Nat.reduceMul, Nat.reduceSub, Nat.reduceLT, Nat.reduceLeDiff, Nat.reduceEqDiff, reduceCtorEq, true_or, or_true, false_or, or_false, true_and, and_true, false_and, and_false, not_true_eq_false, not_false_eq_true, wr_2, wrL_1, zm_eqF, zm_eqF', zm_lt, zm_lt', zm_le, zm_le', zm_sub1, zN_01, Nat.mul_zero, Nat.zero_mul, Nat.mul_one, Nat.sub_zero, Nat.sub_self, e1, e2, e3, w0, w1, w2]
  rw [Nat.mul_comm (P 256), Nat.mul_comm (P 257), Nat.mul_comm (P 258)]
theorem costNow7 {P : Nat → Nat} (hP : Good P) {M : zMM} (hM : MNow M P) : ∃ M', fX7_costNow M = some (zN (cst P), M') ∧ MSet P M' ∧ fr MS M M' := by
  obtain ⟨M', e, s, f⟩ := fX7_set_ok hP hM
  refine ⟨M', ?_, s, f⟩
  have := costOf7 hP (MNow_fr hM f) s
  unfold fX7_costNow
  rw [e, Option.bind_some, this]; rfl
/-! bounds -/
theorem npt_le {P : Nat → Nat} (hP : Good P) {t : Nat} (ht : t < 3) (n : Nat) : npt P t n ≤ dn P n t := by
  induction n with
  | zero => exact Nat.le_refl _
  | succ n ih =>
    rw [npt]
    by_cases h : wid P n t = 0
    · rw [if_pos h, dn_0 P n t h]; omega
    · rw [if_neg h]; have := dn_lt hP ht h; omega
theorem rg_le {P : Nat → Nat} (hP : Good P) (n t : Nat) : rg P n t ≤ 3721 := by
  by_cases h : wid P n t = 0
  · rw [rg_0 P n t h]; omega
  · have hw := wid_all hP n t
    have : rom P n t ≤ 61 := by
      rw [rom_w P n t h]; have := (tkw_ge (pSz P t) (P (5 + t) - dn P n t) (dn P n t) (wid P n t + 1)).2.2; omega
    unfold rg
    split
    · exact Nat.le_trans (Nat.mul_le_mul this this) (by omega)
    · omega
theorem rgs_le {P : Nat → Nat} (hP : Good P) (t n : Nat) : rgs P t n ≤ 3721 * npt P t n := by
  induction n with
  | zero => exact Nat.le_refl _
  | succ n ih =>
    rw [rgs, npt]
    by_cases h : wid P n t = 0
    · rw [if_pos h, rg_0 P n t h]; omega
    · rw [if_neg h]; have := rg_le hP n t; omega
theorem rga_le {P : Nat → Nat} (hP : Good P) : rga P ≤ 781410 := by
  unfold rga
  have q : ∀ t, t < 3 → rgs P t (NL P) ≤ 260470 := by
    intro t ht
    have a := rgs_le hP t (NL P)
    have b := npt_le hP ht (NL P)
    have c := (dn_le P (NL P) t).1
    have d := (hP.2.1 t ht).1
    omega
  have := q 0 (by omega)
  have := q 1 (by omega)
  have := q 2 (by omega)
  omega
theorem cst_lt {P : Nat → Nat} (hP : Good P) : cst P < 100000000 := by
  have a := apt_le hP
  have b := nbr_le P (P 218)
  have c := rga_le hP
  have h12 := hP.2.2.1.1
  obtain ⟨w0, w1, w2⟩ := hP.2.2.2
  unfold cst
  have e0 : apt P * P 256 ≤ 210 * 10000 := Nat.mul_le_mul (by omega) w0
  have e1 : nbr P (P 218) * P 257 ≤ 12 * 10000 := Nat.mul_le_mul (by omega) w1
  have e2 : rga P * P 258 ≤ 781410 * 100 := Nat.mul_le_mul c w2
  omega
theorem pgs_le {P : Nat → Nat} (hP : Good P) : pgs P ≤ 210 := by
  have := NL_le P
  have hp := hP.1
  unfold pgs
  exact Nat.div_le_of_le_mul (by omega)
