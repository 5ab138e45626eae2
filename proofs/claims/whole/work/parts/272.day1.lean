/-! the letters, and an act read by the model -/
theorem u16 : ∀ c, c < 256 → (Int32.toUInt32 (zN c) % 65536).toInt32 = zN c := by decide +kernel
theorem i8B : ∀ c, c < 256 → (Int32.toInt8 (zN c)).toInt32 = zB c := by decide +kernel
theorem zsb_L : ∀ c, c < 256 → ((∃ k, k < 8 ∧ zsb k = zB c) ↔ (c = 98 ∨ c = 99 ∨ c = 103 ∨ c = 104 ∨ c = 112 ∨ c = 117 ∨ c = 119 ∨ c = 120)) := by decide +kernel
theorem idx7 (x y l : Int32) (M : zMM) : ∀ n i fuel, n = 8 - i → i ≤ 8 → n < fuel → (∃ r, r < 8 ∧ fJ1_indexOfChar_4cfef_7 x y (zN 8) fuel l (zN i) M = some (zN r, M) ∧ zsb r = l) ∨ (fJ1_indexOfChar_4cfef_7 x y (zN 8) fuel l (zN i) M = some (-zN 1, M) ∧ ∀ k, i ≤ k → k < 8 → zsb k ≠ l) := by
  intro n
  induction n with
  | zero =>
    intro i fuel hn hi hf
    obtain ⟨fu, rfl⟩ : ∃ q, fuel = q + 1 := ⟨fuel - 1, by omega⟩
    right
    have e : i = 8 := by omega
    subst e
    refine ⟨?_, fun k a b => absurd b (by omega)⟩
    rw [fJ1_indexOfChar_4cfef_7]; simp (disch := omega) only [wr_cj, wr_nj, rng_in, rng_out, zN_lit, zN_add, zN_mul, zN_sub, zN_ltT, zN_ltF, zN_leT, zN_leF, zN_eqT, zN_eqF, zN_lt, zN_le, zN_eq, zN_nat, zN_oobF, Option.bind_some, ↓reduceIte, Nat.one_mul, Nat.zero_add, Nat.add_zero, Nat.reduceAdd, Nat.reduceMul, Nat.reduceSub, Nat.reduceLT, Nat.reduceLeDiff, Nat.reduceEqDiff, reduceCtorEq, true_or, or_true, false_or, or_false, true_and, and_true, false_and, and_false, not_true_eq_false, not_false_eq_true, wr_2, wrL_1, zm_eqF, zm_eqF', zm_lt, zm_lt', zm_le, zm_le', zm_sub1, zN_01, Nat.mul_zero, Nat.zero_mul, Nat.mul_one, Nat.sub_zero, Nat.sub_self, Nat.add_sub_cancel]
  | succ n ih =>
    intro i fuel hn hi hf
    obtain ⟨fu, rfl⟩ : ∃ q, fuel = q + 1 := ⟨fuel - 1, by omega⟩
    have st : fJ1_indexOfChar_4cfef_7 x y (zN 8) (fu + 1) l (zN i) M = if zsb i = l then some (zN i, M) else fJ1_indexOfChar_4cfef_7 x y (zN 8) fu l (zN (i + 1)) M := by
      rw [fJ1_indexOfChar_4cfef_7]; simp (disch := omega) only [wr_cj, wr_nj, rng_in, rng_out, zN_lit, zN_add, zN_mul, zN_sub, zN_ltT, zN_ltF, zN_leT, zN_leF, zN_eqT, zN_eqF, zN_lt, zN_le, zN_eq, zN_nat, zN_oobF, Option.bind_some, ↓reduceIte, Nat.one_mul, Nat.zero_add, Nat.add_zero, Nat.reduceAdd, Nat.reduceMul, Nat.reduceSub, Nat.reduceLT, Nat.reduceLeDiff, Nat.reduceEqDiff, reduceCtorEq, true_or, or_true, false_or, or_false, true_and, and_true, false_and, and_false, not_true_eq_false, not_false_eq_true, wr_2, wrL_1, zm_eqF, zm_eqF', zm_lt, zm_lt', zm_le, zm_le', zm_sub1, zN_01, Nat.mul_zero, Nat.zero_mul, Nat.mul_one, Nat.sub_zero, Nat.sub_self, Nat.add_sub_cancel]
    rw [st]
    by_cases c : zsb i = l
    · rw [if_pos c]; exact Or.inl ⟨i, by omega, rfl, c⟩
    · rw [if_neg c]
      rcases ih (i + 1) fu (by omega) (by omega) (by omega) with ⟨r, a, b, d⟩ | ⟨a, b⟩
      · exact Or.inl ⟨r, a, b, d⟩
      · refine Or.inr ⟨a, fun k h1 h2 => ?_⟩
        by_cases e : k = i
        · rw [e]; exact c
        · exact b k (by omega) h2
theorem idxOf {c : Nat} (hc : c < 256) (M : zMM) : (isL c ∧ ∃ r, r < 8 ∧ fJ0_indexOf_0f7a4 ((Int32.toUInt32 (zN c) % 65536).toInt32) M = some (zN r, M)) ∨ (¬ isL c ∧ fJ0_indexOf_0f7a4 ((Int32.toUInt32 (zN c) % 65536).toInt32) M = some (-zN 1, M)) := by
  have e1 : fJ0_isLatin1_aae02 M = some (1, M) := by unfold fJ0_isLatin1_aae02; rw [if_neg (by decide), if_pos rfl]
  have e2 : fJ0_length_8abf5 M = some (8, M) := by
    unfold fJ0_length_8abf5 fJ0_coder_7d493
    rw [if_neg (by decide), Option.bind_some]
    show some ((8 : Int32) >>> ((0 : Int32) &&& 31), M) = _
    rw [show (8 : Int32) >>> ((0 : Int32) &&& 31) = 8 by decide]
  have e3 : fJ1_canEncode_9a6ad (zN c) M = some (1, M) := by
    unfold fJ1_canEncode_9a6ad
    rw [if_neg (zN_nn (by omega)), if_neg (show ¬ (255 : Int32) < zN c by show ¬ zN 255 < zN c; rw [zN_ltF (by omega)]; exact id)]
  have e5 : ∀ r, fJ1_indexOfChar_4cfef_7 (zN c) 0 8 zFU (zB c) 0 M = some (r, M) → fJ0_indexOf_0f7a4 ((Int32.toUInt32 (zN c) % 65536).toInt32) M = some (r, M) := by
    intro r hr
    rw [u16 c hc]
    unfold fJ0_indexOf_0f7a4 fJ0_indexOf_7cf53 fJ1_indexOf_4cfef fJ1_indexOf_4cfef_0 fJ1_indexOfChar_4cfef
    rw [e1, Option.bind_some, if_neg (show ¬ ((1, M) : Int32 × zMM).1 = 0 by show ¬ (1 : Int32) = 0; decide), e2, Option.bind_some, e3, Option.bind_some, if_neg (show ¬ ((1, M) : Int32 × zMM).1 = 0 by show ¬ (1 : Int32) = 0; decide)]
    dsimp only
    rw [show (if (0 : Int32) < 0 then (0 : Int32) else 0) = 0 by decide, show (if (8 : Int32) < 8 then (8 : Int32) else 8) = 8 by decide, if_pos (by decide), i8B c hc, hr]
    rfl
  have L := zsb_L c hc
  rcases idx7 (zN c) 0 (zB c) M 8 0 zFU (by omega) (by omega) (by rw [zFU_eq]; omega) with ⟨r, a, b, d⟩ | ⟨a, b⟩
  · exact Or.inl ⟨L.mp ⟨r, a, d⟩, r, a, e5 _ b⟩
  · refine Or.inr ⟨fun h => ?_, e5 _ a⟩
    obtain ⟨k, h1, h2⟩ := L.mpr h
    exact b k (by omega) h1 h2
/-- a group of digits, kept in a row -/
theorem gT {T : List Nat} {q k j : Nat} {M : zMM} (hT : T.length ≤ 80) (hb : ∀ i, i < T.length → tt T i < 256) (hM : TR T q M) (hq : q < 900) (hk : k ≤ 5) (h : ∀ j, j < k → dok T (q + j)) : ∃ M', fX7_digits (zN k) M = some (zN (nv T q k), M') ∧ TR T (q + k) (wr M' 162 j (zN (nv T q k))) ∧ (wr M' 162 j (zN (nv T q k))).1 162 j = zN (nv T q k) ∧ fr (fun c i => (c = 162 ∧ i = j) ∨ (c = 158 ∧ i = 7)) M (wr M' 162 j (zN (nv T q k))) := by
  obtain ⟨M', a, b, c⟩ := digT hT hb hM hq hk h
  exact ⟨M', a, TR_to b (by rw [wr_nj (by omega)]; exact b.2.1) (fun c j a => wr_nj (by omega)), wr_cj _ _ _ _, fr_wr (fr_mono c (fun c j a => by omega)) (by omega)⟩
def BF (c j : Nat) : Prop := c = 162 ∨ (c = 158 ∧ (j = 7 ∨ j = 8))
theorem gF {T : List Nat} {q k e : Nat} {M : zMM} (j : Nat) (hT : T.length ≤ 80) (hb : ∀ i, i < T.length → tt T i < 256) (hM : TR T q M) (hq : q < 900) (hk : k ≤ 5) (he : e < k) (h : ∀ j, j < e → dok T (q + j)) (hn : ¬ dok T (q + e)) : ∃ v M', fX7_digits (zN k) M = some (v, M') ∧ (wr M' 162 j v).1 158 8 = zN (q + e) ∧ fr BF M (wr M' 162 j v) := by
  obtain ⟨v, M', a, b, c⟩ := digF hT hb hM hq hk he h hn
  exact ⟨v, M', a, by rw [wr_nj (by omega)]; exact b, fr_wr (fr_mono c (fun c j a => by unfold BF; omega)) (by unfold BF; omega)⟩
theorem gX {k e : Nat} {M : zMM} (j : Nat) (hk : k < 1000) (he : e < 1000) (h : M.1 158 8 = zN e) : ∃ v, fX7_digits (zN k) M = some (v, M) ∧ (wr M 162 j v).1 158 8 = zN e ∧ fr BF M (wr M 162 j v) := by
  obtain ⟨v, hv⟩ := digX h he hk
  exact ⟨v, hv, by rw [wr_nj (by omega)]; exact h, fr_wr (fr_refl _ _) (by unfold BF; omega)⟩
/-! the pieces, by their groups -/
theorem r146n {a c : Nat} (hc : c ≠ 99 ∧ c < 256) (M : zMM) : fX7_readAct_146 (zN a) (zN c) M = some M := by
  unfold fX7_readAct_146; simp (disch := omega) only [wr_cj, wr_nj, rng_in, rng_out, zN_lit, zN_add, zN_mul, zN_sub, zN_ltT, zN_ltF, zN_leT, zN_leF, zN_eqT, zN_eqF, zN_lt, zN_le, zN_eq, zN_nat, zN_oobF, Option.bind_some, ↓reduceIte, Nat.one_mul, Nat.zero_add, Nat.add_zero, Nat.reduceAdd, Nat.reduceMul, Nat.reduceSub, Nat.reduceLT, Nat.reduceLeDiff, Nat.reduceEqDiff, reduceCtorEq, true_or, or_true, false_or, or_false, true_and, and_true, false_and, and_false, not_true_eq_false, not_false_eq_true, wr_2, wrL_1, zm_eqF, zm_eqF', zm_lt, zm_lt', zm_le, zm_le', zm_sub1, zN_01, Nat.mul_zero, Nat.zero_mul, Nat.mul_one, Nat.sub_zero, Nat.sub_self, Nat.add_sub_cancel]
theorem r146c {a : Nat} (ha : a + 3 < 320) {v : Int32} {M M' : zMM} (h : fX7_digits (zN 1) M = some (v, M')) : fX7_readAct_146 (zN a) (zN 99) M = some (wr M' 162 (a + 3) v) := by
  unfold fX7_readAct_146; simp (disch := omega) only [wr_cj, wr_nj, rng_in, rng_out, zN_lit, zN_add, zN_mul, zN_sub, zN_ltT, zN_ltF, zN_leT, zN_leF, zN_eqT, zN_eqF, zN_lt, zN_le, zN_eq, zN_nat, zN_oobF, Option.bind_some, ↓reduceIte, Nat.one_mul, Nat.zero_add, Nat.add_zero, Nat.reduceAdd, Nat.reduceMul, Nat.reduceSub, Nat.reduceLT, Nat.reduceLeDiff, Nat.reduceEqDiff, reduceCtorEq, true_or, or_true, false_or, or_false, true_and, and_true, false_and, and_false, not_true_eq_false, not_false_eq_true, wr_2, wrL_1, zm_eqF, zm_eqF', zm_lt, zm_lt', zm_le, zm_le', zm_sub1, zN_01, Nat.mul_zero, Nat.zero_mul, Nat.mul_one, Nat.sub_zero, Nat.sub_self, Nat.add_sub_cancel, h]
theorem r123n {a c k : Nat} (ha : a + 3 < 320) (hc : c ≠ 112 ∧ c < 256) {v : Int32} {M M' : zMM} (h : fX7_digits (zN k) M = some (v, M')) : fX7_readAct_123 (zN a) (zN c) (zN k) (zN (a + 2)) M = fX7_readAct_146 (zN a) (zN c) (wr M' 162 (a + 2) v) := by
  unfold fX7_readAct_123; simp (disch := omega) only [wr_cj, wr_nj, rng_in, rng_out, zN_lit, zN_add, zN_mul, zN_sub, zN_ltT, zN_ltF, zN_leT, zN_leF, zN_eqT, zN_eqF, zN_lt, zN_le, zN_eq, zN_nat, zN_oobF, Option.bind_some, ↓reduceIte, Nat.one_mul, Nat.zero_add, Nat.add_zero, Nat.reduceAdd, Nat.reduceMul, Nat.reduceSub, Nat.reduceLT, Nat.reduceLeDiff, Nat.reduceEqDiff, reduceCtorEq, true_or, or_true, false_or, or_false, true_and, and_true, false_and, and_false, not_true_eq_false, not_false_eq_true, wr_2, wrL_1, zm_eqF, zm_eqF', zm_lt, zm_lt', zm_le, zm_le', zm_sub1, zN_01, Nat.mul_zero, Nat.zero_mul, Nat.mul_one, Nat.sub_zero, Nat.sub_self, Nat.add_sub_cancel, h]
theorem r123p {a k : Nat} (ha : a + 3 < 320) {v v' : Int32} {M M' M'' : zMM} (h : fX7_digits (zN k) M = some (v, M')) (h' : fX7_digits (zN 2) (wr M' 162 (a + 2) v) = some (v', M'')) : fX7_readAct_123 (zN a) (zN 112) (zN k) (zN (a + 2)) M = some (wr M'' 162 (a + 3) v') := by
  have r := r146n (a := a) (c := 112) (by omega) (wr M'' 162 (a + 3) v')
  unfold fX7_readAct_123; simp (disch := omega) only [wr_cj, wr_nj, rng_in, rng_out, zN_lit, zN_add, zN_mul, zN_sub, zN_ltT, zN_ltF, zN_leT, zN_leF, zN_eqT, zN_eqF, zN_lt, zN_le, zN_eq, zN_nat, zN_oobF, Option.bind_some, ↓reduceIte, Nat.one_mul, Nat.zero_add, Nat.add_zero, Nat.reduceAdd, Nat.reduceMul, Nat.reduceSub, Nat.reduceLT, Nat.reduceLeDiff, Nat.reduceEqDiff, reduceCtorEq, true_or, or_true, false_or, or_false, true_and, and_true, false_and, and_false, not_true_eq_false, not_false_eq_true, wr_2, wrL_1, zm_eqF, zm_eqF', zm_lt, zm_lt', zm_le, zm_le', zm_sub1, zN_01, Nat.mul_zero, Nat.zero_mul, Nat.mul_one, Nat.sub_zero, Nat.sub_self, Nat.add_sub_cancel, h, h', r]
theorem r89w {a c : Nat} (ha : a + 3 < 320) {v : Int32} {M M' : zMM} (h : fX7_digits (zN 2) M = some (v, M')) : fX7_readAct_66 (zN a) (zN c) M = some (wr M' 162 (a + 1) v) := by
  unfold fX7_readAct_66 fX7_readAct_71 fX7_readAct_89; simp (disch := omega) only [wr_cj, wr_nj, rng_in, rng_out, zN_lit, zN_add, zN_mul, zN_sub, zN_ltT, zN_ltF, zN_leT, zN_leF, zN_eqT, zN_eqF, zN_lt, zN_le, zN_eq, zN_nat, zN_oobF, Option.bind_some, ↓reduceIte, Nat.one_mul, Nat.zero_add, Nat.add_zero, Nat.reduceAdd, Nat.reduceMul, Nat.reduceSub, Nat.reduceLT, Nat.reduceLeDiff, Nat.reduceEqDiff, reduceCtorEq, true_or, or_true, false_or, or_false, true_and, and_true, false_and, and_false, not_true_eq_false, not_false_eq_true, wr_2, wrL_1, zm_eqF, zm_eqF', zm_lt, zm_lt', zm_le, zm_le', zm_sub1, zN_01, Nat.mul_zero, Nat.zero_mul, Nat.mul_one, Nat.sub_zero, Nat.sub_self, Nat.add_sub_cancel, h]
theorem r89u {a : Nat} (ha : a + 3 < 320) {v : Int32} {M M' : zMM} (h : fX7_digits (zN 1) M = some (v, M')) : fX7_readAct_71 (zN a) (zN 117) (zN 0) M = some (wr M' 162 (a + 1) v) := by
  unfold fX7_readAct_71 fX7_readAct_89; simp (disch := omega) only [wr_cj, wr_nj, rng_in, rng_out, zN_lit, zN_add, zN_mul, zN_sub, zN_ltT, zN_ltF, zN_leT, zN_leF, zN_eqT, zN_eqF, zN_lt, zN_le, zN_eq, zN_nat, zN_oobF, Option.bind_some, ↓reduceIte, Nat.one_mul, Nat.zero_add, Nat.add_zero, Nat.reduceAdd, Nat.reduceMul, Nat.reduceSub, Nat.reduceLT, Nat.reduceLeDiff, Nat.reduceEqDiff, reduceCtorEq, true_or, or_true, false_or, or_false, true_and, and_true, false_and, and_false, not_true_eq_false, not_false_eq_true, wr_2, wrL_1, zm_eqF, zm_eqF', zm_lt, zm_lt', zm_le, zm_le', zm_sub1, zN_01, Nat.mul_zero, Nat.zero_mul, Nat.mul_one, Nat.sub_zero, Nat.sub_self, Nat.add_sub_cancel, h]
theorem r89n {a c : Nat} (ha : a + 3 < 320) (hc : c ≠ 117 ∧ c < 256) {v : Int32} {M M' : zMM} (h : fX7_digits (zN 1) M = some (v, M')) : fX7_readAct_71 (zN a) (zN c) (zN 0) M = fX7_readAct_123 (zN a) (zN c) (zN (if c = 98 then 1 else 2)) (zN (a + 2)) (wr M' 162 (a + 1) v) := by
  unfold fX7_readAct_71 fX7_readAct_89
  by_cases e : c = 98
  · subst e; rw [if_pos rfl]; simp (disch := omega) only [wr_cj, wr_nj, rng_in, rng_out, zN_lit, zN_add, zN_mul, zN_sub, zN_ltT, zN_ltF, zN_leT, zN_leF, zN_eqT, zN_eqF, zN_lt, zN_le, zN_eq, zN_nat, zN_oobF, Option.bind_some, ↓reduceIte, Nat.one_mul, Nat.zero_add, Nat.add_zero, Nat.reduceAdd, Nat.reduceMul, Nat.reduceSub, Nat.reduceLT, Nat.reduceLeDiff, Nat.reduceEqDiff, reduceCtorEq, true_or, or_true, false_or, or_false, true_and, and_true, false_and, and_false, not_true_eq_false, not_false_eq_true, wr_2, wrL_1, zm_eqF, zm_eqF', zm_lt, zm_lt', zm_le, zm_le', zm_sub1, zN_01, Nat.mul_zero, Nat.zero_mul, Nat.mul_one, Nat.sub_zero, Nat.sub_self, Nat.add_sub_cancel, h]
  · rw [if_neg e]; simp (disch := omega) only [wr_cj, wr_nj, rng_in, rng_out, zN_lit, zN_add, zN_mul, zN_sub, zN_ltT, zN_ltF, zN_leT, zN_leF, zN_eqT, zN_eqF, zN_lt, zN_le, zN_eq, zN_nat, zN_oobF, Option.bind_some, ↓reduceIte, Nat.one_mul, Nat.zero_add, Nat.add_zero, Nat.reduceAdd, Nat.reduceMul, Nat.reduceSub, Nat.reduceLT, Nat.reduceLeDiff, Nat.reduceEqDiff, reduceCtorEq, true_or, or_true, false_or, or_false, true_and, and_true, false_and, and_false, not_true_eq_false, not_false_eq_true, wr_2, wrL_1, zm_eqF, zm_eqF', zm_lt, zm_lt', zm_le, zm_le', zm_sub1, zN_01, Nat.mul_zero, Nat.zero_mul, Nat.mul_one, Nat.sub_zero, Nat.sub_self, Nat.add_sub_cancel, h]
/-- the first sign of an act -/
theorem rA0 {T : List Nat} {p a : Nat} {M : zMM} (hT : T.length ≤ 80) (hb : ∀ i, i < T.length → tt T i < 256) (hM : TR T p M) (hp : p < T.length) (ha : a + 3 < 320) :
    (isL (tt T p) → TR T (p + 1) (wr (wr M 158 7 (zN (p + 1))) 162 a (zN (tt T p))) ∧ fX7_readAct (zN a) M = if tt T p = 120 then some (wr (wr M 158 7 (zN (p + 1))) 162 a (zN (tt T p))) else if tt T p = 119 ∨ tt T p = 104 then fX7_readAct_66 (zN a) (zN (tt T p)) (wr (wr M 158 7 (zN (p + 1))) 162 a (zN (tt T p))) else fX7_readAct_71 (zN a) (zN (tt T p)) (zN 0) (wr (wr M 158 7 (zN (p + 1))) 162 a (zN (tt T p)))) ∧
    (¬ isL (tt T p) → fX7_readAct (zN a) M = some (wr M 158 8 (zN p))) := by
  have h := here7 hT hb hM hp
  have c256 := hb p hp
  have h7 := hM.2.1
  rcases idxOf c256 M with ⟨l, r, hr, ix⟩ | ⟨l, ix⟩
  · refine ⟨fun _ => ⟨TR_to hM (by rw [wr_nj (by omega), wr_cj]) (fun c j a => by rw [wr_nj (by omega), wr_nj (by omega)]), ?_⟩, fun q => absurd l q⟩
    unfold fX7_readAct
    rw [h, Option.bind_some]
    dsimp only
    rw [if_neg (show ¬ zN (tt T p) = -1 by show ¬ zN (tt T p) = -zN 1; rw [zm_eqF (by omega)]; exact id), ix, Option.bind_some, if_pos (ge0 (by omega))]
    by_cases c1 : tt T p = 120
    · rw [if_pos c1]; simp only [c1]; simp (disch := omega) only [wr_cj, wr_nj, rng_in, rng_out, zN_lit, zN_add, zN_mul, zN_sub, zN_ltT, zN_ltF, zN_leT, zN_leF, zN_eqT, zN_eqF, zN_lt, zN_le, zN_eq, zN_nat, zN_oobF, Option.bind_some, ↓reduceIte, Nat.one_mul, Nat.zero_add, Nat.add_zero, Nat.reduceAdd, Nat.reduceMul, Nat.reduceSub, Nat.reduceLT, Nat.reduceLeDiff, Nat.reduceEqDiff, reduceCtorEq, true_or, or_true, false_or, or_false, true_and, and_true, false_and, and_false, not_true_eq_false, not_false_eq_true, wr_2, wrL_1, zm_eqF, zm_eqF', zm_lt, zm_lt', zm_le, zm_le', zm_sub1, zN_01, Nat.mul_zero, Nat.zero_mul, Nat.mul_one, Nat.sub_zero, Nat.sub_self, Nat.add_sub_cancel, h7]
    · rw [if_neg c1]
      by_cases c2 : tt T p = 119
      · rw [if_pos (Or.inl c2)]; simp only [c2]; simp (disch := omega) only [wr_cj, wr_nj, rng_in, rng_out, zN_lit, zN_add, zN_mul, zN_sub, zN_ltT, zN_ltF, zN_leT, zN_leF, zN_eqT, zN_eqF, zN_lt, zN_le, zN_eq, zN_nat, zN_oobF, Option.bind_some, ↓reduceIte, Nat.one_mul, Nat.zero_add, Nat.add_zero, Nat.reduceAdd, Nat.reduceMul, Nat.reduceSub, Nat.reduceLT, Nat.reduceLeDiff, Nat.reduceEqDiff, reduceCtorEq, true_or, or_true, false_or, or_false, true_and, and_true, false_and, and_false, not_true_eq_false, not_false_eq_true, wr_2, wrL_1, zm_eqF, zm_eqF', zm_lt, zm_lt', zm_le, zm_le', zm_sub1, zN_01, Nat.mul_zero, Nat.zero_mul, Nat.mul_one, Nat.sub_zero, Nat.sub_self, Nat.add_sub_cancel, h7]
      · by_cases c3 : tt T p = 104
        · rw [if_pos (Or.inr c3)]; simp only [c3]; simp (disch := omega) only [wr_cj, wr_nj, rng_in, rng_out, zN_lit, zN_add, zN_mul, zN_sub, zN_ltT, zN_ltF, zN_leT, zN_leF, zN_eqT, zN_eqF, zN_lt, zN_le, zN_eq, zN_nat, zN_oobF, Option.bind_some, ↓reduceIte, Nat.one_mul, Nat.zero_add, Nat.add_zero, Nat.reduceAdd, Nat.reduceMul, Nat.reduceSub, Nat.reduceLT, Nat.reduceLeDiff, Nat.reduceEqDiff, reduceCtorEq, true_or, or_true, false_or, or_false, true_and, and_true, false_and, and_false, not_true_eq_false, not_false_eq_true, wr_2, wrL_1, zm_eqF, zm_eqF', zm_lt, zm_lt', zm_le, zm_le', zm_sub1, zN_01, Nat.mul_zero, Nat.zero_mul, Nat.mul_one, Nat.sub_zero, Nat.sub_self, Nat.add_sub_cancel, h7]
        · rw [if_neg (show ¬ (tt T p = 119 ∨ tt T p = 104) by omega)]; simp (disch := omega) only [wr_cj, wr_nj, rng_in, rng_out, zN_lit, zN_add, zN_mul, zN_sub, zN_ltT, zN_ltF, zN_leT, zN_leF, zN_eqT, zN_eqF, zN_lt, zN_le, zN_eq, zN_nat, zN_oobF, Option.bind_some, ↓reduceIte, Nat.one_mul, Nat.zero_add, Nat.add_zero, Nat.reduceAdd, Nat.reduceMul, Nat.reduceSub, Nat.reduceLT, Nat.reduceLeDiff, Nat.reduceEqDiff, reduceCtorEq, true_or, or_true, false_or, or_false, true_and, and_true, false_and, and_false, not_true_eq_false, not_false_eq_true, wr_2, wrL_1, zm_eqF, zm_eqF', zm_lt, zm_lt', zm_le, zm_le', zm_sub1, zN_01, Nat.mul_zero, Nat.zero_mul, Nat.mul_one, Nat.sub_zero, Nat.sub_self, Nat.add_sub_cancel, h7]
  · refine ⟨fun q => absurd q l, fun _ => ?_⟩
    have f := faultT hM.2.2.1 (zN p)
    unfold fX7_readAct fX7_readAct_21
    rw [h, Option.bind_some]
    dsimp only
    rw [if_neg (show ¬ zN (tt T p) = -1 by show ¬ zN (tt T p) = -zN 1; rw [zm_eqF (by omega)]; exact id), ix, Option.bind_some, if_neg (show ¬ (0 : Int32) ≤ ((-zN 1, M) : Int32 × zMM).1 from (by decide : ¬ (0 : Int32) ≤ -zN 1))]
    dsimp only
    rw [h7, f]; rfl
