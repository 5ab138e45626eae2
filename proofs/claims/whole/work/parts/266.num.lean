/-! numbers of the text -/
def nv (T : List Nat) (p : Nat) : Nat → Nat
  | 0 => 0
  | k + 1 => 10 * nv T p k + (tt T (p + k) - 48)
theorem nv_lt (T : List Nat) (p : Nat) : ∀ k, (∀ j, j < k → dok T (p + j)) → nv T p k < 10 ^ k := by
  intro k
  induction k with
  | zero => intro _; show 0 < 1; omega
  | succ k ih =>
    intro h
    have a := ih (fun j hj => h j (by omega))
    have b := (h k (by omega)).2
    rw [nv, Nat.pow_succ]; omega
theorem nv_le (T : List Nat) (p : Nat) {k : Nat} (hk : k ≤ 5) (h : ∀ j, j < k → dok T (p + j)) : ∀ j, j ≤ k → nv T p j < 100000 := by
  intro j hj
  have := nv_lt T p j (fun i hi => h i (by omega))
  have : (10 : Nat) ^ j ≤ 10 ^ 5 := Nat.pow_le_pow_right (by omega) (by omega)
  omega
theorem num_case (T : List Nat) (p : Nat) : ∀ k, (∀ j, j < k → dok T (p + j)) ∨ ∃ e, e < k ∧ (∀ j, j < e → dok T (p + j)) ∧ ¬ dok T (p + e) := by
  intro k
  induction k with
  | zero => left; intro j hj; omega
  | succ k ih =>
    rcases ih with h | ⟨e, a, b, c⟩
    · by_cases d : dok T (p + k)
      · left; intro j hj
        by_cases e : j = k
        · rw [e]; exact d
        · exact h j (by omega)
      · right; exact ⟨k, by omega, h, d⟩
    · right; exact ⟨e, by omega, b, c⟩
theorem num_st {T : List Nat} {p k i m : Nat} {M : zMM} (hT : T.length ≤ 80) (hM : CT T M) (hp : p < 900) (hk : k ≤ 5) (hi : i < k) (h : ∀ j, j ≤ i → dok T (p + j)) : fX5_numberAt_5 (zN p) (zN k) (m + 1) (zN (nv T p i)) (zN (p + i)) M = fX5_numberAt_5 (zN p) (zN k) m (zN (nv T p (i + 1))) (zN (p + (i + 1))) M := by
  have d := digitT hT hM (h i (by omega))
  have b := nv_le T p (k := i) (by omega) (fun j hj => h j (by omega)) i (by omega)
  rw [fX5_numberAt_5, nv]
  have hd := (h i (by omega)).2
  simp (disch := omega) only [wr_cj, wr_nj, rng_in, rng_out, zN_lit, zN_add, zN_mul, zN_sub, zN_ltT, zN_ltF, zN_leT, zN_leF, zN_eqT, zN_eqF, zN_lt, zN_le, zN_eq, zN_nat, zN_oobF, Option.bind_some, ↓reduceIte, Nat.one_mul, Nat.zero_add, Nat.add_zero, Nat.reduceAdd, Nat.reduceMul, Nat.reduceSub, Nat.reduceLT, Nat.reduceLeDiff, Nat.reduceEqDiff, reduceCtorEq, true_or, or_true, false_or, or_false, true_and, and_true, false_and, and_false, not_true_eq_false, not_false_eq_true, wr_2, wrL_1, zm_eqF, zm_eqF', zm_lt, zm_lt', zm_le, zm_le', zm_sub1, zN_01, Nat.mul_zero, Nat.zero_mul, Nat.mul_one, Nat.sub_zero, Nat.sub_self, Nat.add_sub_cancel, d]
  rw [Nat.add_assoc]
theorem numT {T : List Nat} {p k : Nat} {M : zMM} (hT : T.length ≤ 80) (hM : CT T M) (hp : p < 900) (hk : k ≤ 5) (h : ∀ j, j < k → dok T (p + j)) : fX5_numberAt (zN p) (zN k) M = some (zN (nv T p k), M) := by
  have key := loopE (fun m (s : Nat) => fX5_numberAt_5 (zN p) (zN k) m (zN (nv T p s)) (zN (p + s)) M) (fun i s => s = i) k (fun r => r = some (zN (nv T p k), M))
    (by
      rintro i m s hi rfl
      exact Or.inr ⟨s + 1, num_st hT hM hp hk hi (fun j hj => h j (by omega)), rfl⟩)
    (by
      rintro m s rfl
      rw [fX5_numberAt_5]; simp (disch := omega) only [wr_cj, wr_nj, rng_in, rng_out, zN_lit, zN_add, zN_mul, zN_sub, zN_ltT, zN_ltF, zN_leT, zN_leF, zN_eqT, zN_eqF, zN_lt, zN_le, zN_eq, zN_nat, zN_oobF, Option.bind_some, ↓reduceIte, Nat.one_mul, Nat.zero_add, Nat.add_zero, Nat.reduceAdd, Nat.reduceMul, Nat.reduceSub, Nat.reduceLT, Nat.reduceLeDiff, Nat.reduceEqDiff, reduceCtorEq, true_or, or_true, false_or, or_false, true_and, and_true, false_and, and_false, not_true_eq_false, not_false_eq_true, wr_2, wrL_1, zm_eqF, zm_eqF', zm_lt, zm_lt', zm_le, zm_le', zm_sub1, zN_01, Nat.mul_zero, Nat.zero_mul, Nat.mul_one, Nat.sub_zero, Nat.sub_self, Nat.add_sub_cancel])
    zFU 0 (by rw [zFU_eq]; omega) rfl
  exact key
theorem numF {T : List Nat} {p k e : Nat} {M : zMM} (hT : T.length ≤ 80) (hb : ∀ i, i < T.length → tt T i < 256) (hM : CT T M) (hp : p < 900) (hk : k ≤ 5) (he : e < k) (h : ∀ j, j < e → dok T (p + j)) (hn : ¬ dok T (p + e)) : fX5_numberAt (zN p) (zN k) M = some (-zN 1 - zN (p + e), M) := by
  have key := loopE (fun m (s : Nat) => fX5_numberAt_5 (zN p) (zN k) m (zN (nv T p s)) (zN (p + s)) M) (fun i s => s = i) e (fun r => r = some (-zN 1 - zN (p + e), M))
    (by
      rintro i m s hi rfl
      exact Or.inr ⟨s + 1, num_st hT hM hp hk (by omega) (fun j hj => h j (by omega)), rfl⟩)
    (by
      rintro m s rfl
      have d := digitF hT hb hM (by omega) hn
      rw [fX5_numberAt_5]; simp (disch := omega) only [wr_cj, wr_nj, rng_in, rng_out, zN_lit, zN_add, zN_mul, zN_sub, zN_ltT, zN_ltF, zN_leT, zN_leF, zN_eqT, zN_eqF, zN_lt, zN_le, zN_eq, zN_nat, zN_oobF, Option.bind_some, ↓reduceIte, Nat.one_mul, Nat.zero_add, Nat.add_zero, Nat.reduceAdd, Nat.reduceMul, Nat.reduceSub, Nat.reduceLT, Nat.reduceLeDiff, Nat.reduceEqDiff, reduceCtorEq, true_or, or_true, false_or, or_false, true_and, and_true, false_and, and_false, not_true_eq_false, not_false_eq_true, wr_2, wrL_1, zm_eqF, zm_eqF', zm_lt, zm_lt', zm_le, zm_le', zm_sub1, zN_01, Nat.mul_zero, Nat.zero_mul, Nat.mul_one, Nat.sub_zero, Nat.sub_self, Nat.add_sub_cancel, d])
    zFU 0 (by rw [zFU_eq]; omega) rfl
  exact key
theorem dig_st {T : List Nat} {p k i m : Nat} {M : zMM} (hT : T.length ≤ 80) (hb : ∀ i, i < T.length → tt T i < 256) (hM : TR T (p + i) M) (hp : p < 900) (hk : k ≤ 5) (hi : i < k) (h : ∀ j, j ≤ i → dok T (p + j)) : fX7_digits_4 (zN k) (m + 1) (zN (nv T p i)) (zN i) M = fX7_digits_4 (zN k) m (zN (nv T p (i + 1))) (zN (i + 1)) (wr M 158 7 (zN (p + i + 1))) := by
  have hd := h i (by omega)
  have d := oneT (lo := 48) (n := 10) hT hb hM hd.1 hd.2.1 (by have := hd.2.2; omega) (by omega)
  have b := nv_le T p (k := i) (by omega) (fun j hj => h j (by omega)) i (by omega)
  rw [fX7_digits_4, nv]
  simp (disch := omega) only [wr_cj, wr_nj, rng_in, rng_out, zN_lit, zN_add, zN_mul, zN_sub, zN_ltT, zN_ltF, zN_leT, zN_leF, zN_eqT, zN_eqF, zN_lt, zN_le, zN_eq, zN_nat, zN_oobF, Option.bind_some, ↓reduceIte, Nat.one_mul, Nat.zero_add, Nat.add_zero, Nat.reduceAdd, Nat.reduceMul, Nat.reduceSub, Nat.reduceLT, Nat.reduceLeDiff, Nat.reduceEqDiff, reduceCtorEq, true_or, or_true, false_or, or_false, true_and, and_true, false_and, and_false, not_true_eq_false, not_false_eq_true, wr_2, wrL_1, zm_eqF, zm_eqF', zm_lt, zm_lt', zm_le, zm_le', zm_sub1, zN_01, Nat.mul_zero, Nat.zero_mul, Nat.mul_one, Nat.sub_zero, Nat.sub_self, Nat.add_sub_cancel, d]
theorem digT {T : List Nat} {p k : Nat} {M : zMM} (hT : T.length ≤ 80) (hb : ∀ i, i < T.length → tt T i < 256) (hM : TR T p M) (hp : p < 900) (hk : k ≤ 5) (h : ∀ j, j < k → dok T (p + j)) : ∃ M', fX7_digits (zN k) M = some (zN (nv T p k), M') ∧ TR T (p + k) M' ∧ fr (fun c j => c = 158 ∧ j = 7) M M' := by
  have key := loopE (fun m (s : Nat × zMM) => fX7_digits_4 (zN k) m (zN (nv T p s.1)) (zN s.1) s.2) (fun i s => s.1 = i ∧ TR T (p + i) s.2 ∧ fr (fun c j => c = 158 ∧ j = 7) M s.2) k (fun r => ∃ M', r = some (zN (nv T p k), M') ∧ TR T (p + k) M' ∧ fr (fun c j => c = 158 ∧ j = 7) M M')
    (by
      rintro i m ⟨s, M'⟩ hi ⟨rfl, h1, h2⟩
      dsimp only at h1 h2 hi ⊢
      refine Or.inr ⟨(s + 1, _), dig_st hT hb h1 hp hk hi (fun j hj => h j (by omega)), rfl, TR_to h1 (wr_cj _ _ _ _) (fun c j a => wr_nj (by omega)), fr_wr h2 ⟨rfl, rfl⟩⟩)
    (by
      rintro m ⟨s, M'⟩ ⟨rfl, h1, h2⟩
      dsimp only at h1 h2 ⊢
      refine ⟨M', ?_, h1, h2⟩
      rw [fX7_digits_4]; simp (disch := omega) only [wr_cj, wr_nj, rng_in, rng_out, zN_lit, zN_add, zN_mul, zN_sub, zN_ltT, zN_ltF, zN_leT, zN_leF, zN_eqT, zN_eqF, zN_lt, zN_le, zN_eq, zN_nat, zN_oobF, Option.bind_some, ↓reduceIte, Nat.one_mul, Nat.zero_add, Nat.add_zero, Nat.reduceAdd, Nat.reduceMul, Nat.reduceSub, Nat.reduceLT, Nat.reduceLeDiff, Nat.reduceEqDiff, reduceCtorEq, true_or, or_true, false_or, or_false, true_and, and_true, false_and, and_false, not_true_eq_false, not_false_eq_true, wr_2, wrL_1, zm_eqF, zm_eqF', zm_lt, zm_lt', zm_le, zm_le', zm_sub1, zN_01, Nat.mul_zero, Nat.zero_mul, Nat.mul_one, Nat.sub_zero, Nat.sub_self, Nat.add_sub_cancel])
    zFU (0, M) (by rw [zFU_eq]; omega) ⟨rfl, hM, fr_refl _ _⟩
  exact key
theorem digX4 {M : zMM} {e k : Nat} (h : M.1 158 8 = zN e) (he : e < 1000) (hk : k < 1000) : ∀ n i fuel l, n = k - i → i ≤ k → n < fuel → ∃ v, fX7_digits_4 (zN k) fuel l (zN i) M = some (v, M) := by
  intro n
  induction n with
  | zero =>
    intro i fuel l hn hi hf
    obtain ⟨fu, rfl⟩ : ∃ q, fuel = q + 1 := ⟨fuel - 1, by omega⟩
    refine ⟨l, ?_⟩
    rw [fX7_digits_4]; simp (disch := omega) only [wr_cj, wr_nj, rng_in, rng_out, zN_lit, zN_add, zN_mul, zN_sub, zN_ltT, zN_ltF, zN_leT, zN_leF, zN_eqT, zN_eqF, zN_lt, zN_le, zN_eq, zN_nat, zN_oobF, Option.bind_some, ↓reduceIte, Nat.one_mul, Nat.zero_add, Nat.add_zero, Nat.reduceAdd, Nat.reduceMul, Nat.reduceSub, Nat.reduceLT, Nat.reduceLeDiff, Nat.reduceEqDiff, reduceCtorEq, true_or, or_true, false_or, or_false, true_and, and_true, false_and, and_false, not_true_eq_false, not_false_eq_true, wr_2, wrL_1, zm_eqF, zm_eqF', zm_lt, zm_lt', zm_le, zm_le', zm_sub1, zN_01, Nat.mul_zero, Nat.zero_mul, Nat.mul_one, Nat.sub_zero, Nat.sub_self, Nat.add_sub_cancel]
  | succ n ih =>
    intro i fuel l hn hi hf
    obtain ⟨fu, rfl⟩ : ∃ q, fuel = q + 1 := ⟨fuel - 1, by omega⟩
    obtain ⟨v, hv⟩ := ih (i + 1) fu (10 * l + zN 0) (by omega) (by omega) (by omega)
    refine ⟨v, ?_⟩
    have o := oneX h he 48 10
    have i1 : zN i + 1 = zN (i + 1) := zN_add i 1
    rw [fX7_digits_4, if_neg (by rw [zN_leF (by omega)]; exact id), o, Option.bind_some, i1]
    exact hv
theorem digX {M : zMM} {e k : Nat} (h : M.1 158 8 = zN e) (he : e < 1000) (hk : k < 1000) : ∃ v, fX7_digits (zN k) M = some (v, M) :=
  digX4 h he hk k 0 zFU (zN 0) (by omega) (by omega) (by rw [zFU_eq]; omega)
theorem digF {T : List Nat} {p k e : Nat} {M : zMM} (hT : T.length ≤ 80) (hb : ∀ i, i < T.length → tt T i < 256) (hM : TR T p M) (hp : p < 900) (hk : k ≤ 5) (he : e < k) (h : ∀ j, j < e → dok T (p + j)) (hn : ¬ dok T (p + e)) : ∃ v M', fX7_digits (zN k) M = some (v, M') ∧ M'.1 158 8 = zN (p + e) ∧ fr (fun c j => c = 158 ∧ (j = 7 ∨ j = 8)) M M' := by
  have key := loopE (fun m (s : Nat × zMM) => fX7_digits_4 (zN k) (m + 10) (zN (nv T p s.1)) (zN s.1) s.2) (fun i s => s.1 = i ∧ TR T (p + i) s.2 ∧ fr (fun c j => c = 158 ∧ (j = 7 ∨ j = 8)) M s.2) e (fun r => ∃ v M', r = some (v, M') ∧ M'.1 158 8 = zN (p + e) ∧ fr (fun c j => c = 158 ∧ (j = 7 ∨ j = 8)) M M')
    (by
      rintro i m ⟨s, M'⟩ hi ⟨rfl, h1, h2⟩
      dsimp only at h1 h2 hi ⊢
      refine Or.inr ⟨(s + 1, _), ?_, rfl, TR_to h1 (wr_cj _ _ _ _) (fun c j a => wr_nj (by omega)), fr_wr h2 ⟨rfl, Or.inl rfl⟩⟩
      rw [show m + 1 + 10 = m + 10 + 1 by omega]
      exact dig_st hT hb h1 hp hk (by omega) (fun j hj => h j (by omega)))
    (by
      rintro m ⟨s, M'⟩ ⟨rfl, h1, h2⟩
      dsimp only at h1 h2 ⊢
      unfold dok at hn
      dsimp only at hn
      have o := oneF (lo := 48) (n := 10) hT hb h1 (by omega) (by omega) (by omega) (by omega)
      have e8 : (wr M' 158 8 (zN (p + s))).1 158 8 = zN (p + s) := wr_cj _ _ _ _
      obtain ⟨v, hv⟩ := digX4 e8 (by omega) (k := k) (by omega) (k - (s + 1)) (s + 1) (m + 10) (10 * zN (nv T p s) + zN 0) (by omega) (by omega) (by omega)
      refine ⟨v, _, ?_, e8, fr_wr h2 ⟨rfl, Or.inr rfl⟩⟩
      have i1 : zN s + 1 = zN (s + 1) := zN_add s 1
      rw [show m + 1 + 10 = m + 10 + 1 by omega, fX7_digits_4, if_neg (by rw [zN_leF (by omega)]; exact id)]
      have o' : fX7_oneOf 48 10 M' = some (zN 0, wr M' 158 8 (zN (p + s))) := o
      rw [o', Option.bind_some, i1]
      exact hv)
    2147483638 (0, M) (by omega) ⟨rfl, hM, fr_refl _ _⟩
  exact key
