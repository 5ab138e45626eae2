/-! THE MODEL'S SETTING -/
/-- the parts of a line, of n lines: line and text -/
def lnl (P : Nat → Nat) (n : Nat) : List (Nat × Nat) :=
  (if wid P n 1 = 0 then [] else [(n, 1)]) ++ ((if wid P n 0 = 0 then [] else [(n, 0)]) ++ (if wid P n 2 = 0 then [] else [(n, 2)]))
def pl (P : Nat → Nat) : Nat → List (Nat × Nat)
  | 0 => []
  | n + 1 => pl P n ++ lnl P n
def MNow (M : zMM) (P : Nat → Nat) : Prop := ∀ i, i < 259 → M.1 159 i = zN (P i)
def Ent (P : Nat → Nat) (M : zMM) (p m t : Nat) : Prop :=
  M.1 163 (8 * p) = zN t ∧ M.1 163 (8 * p + 1) = zN (m / P 1) ∧ M.1 163 (8 * p + 2) = zN (m % P 1) ∧ M.1 163 (8 * p + 3) = zN (dn P m t) ∧ M.1 163 (8 * p + 4) = zN (dn P (m + 1) t - dn P m t) ∧ M.1 163 (8 * p + 5) = zN (wid P m t) ∧ M.1 163 (8 * p + 6) = zN (col P m t) ∧ M.1 163 (8 * p + 7) = zN (rg P m t)
theorem Ent_fr {P : Nat → Nat} {M M' : zMM} {p m t : Nat} (h : Ent P M p m t) (e : ∀ j, 8 * p ≤ j → j < 8 * p + 8 → M'.1 163 j = M.1 163 j) : Ent P M' p m t := by
  unfold Ent at h ⊢
  rw [e _ (by omega) (by omega), e _ (by omega) (by omega), e _ (by omega) (by omega), e _ (by omega) (by omega), e _ (by omega) (by omega), e _ (by omega) (by omega), e _ (by omega) (by omega), e _ (by omega) (by omega)]
  exact h
def MSt (P : Nat → Nat) (L : List (Nat × Nat)) (d : Nat → Nat) (M : zMM) : Prop :=
  M.1 158 11 = zN L.length ∧ L.length ≤ d 0 + d 1 + d 2 ∧ (∀ t, t < 3 → M.1 165 t = zN (d t)) ∧
  (∀ p m t, L[p]? = some (m, t) → Ent P M p m t) ∧
  (∀ t, t < 3 → ∀ k, k < d t → ∃ p, L[p]? = some (ln P t k, t) ∧ M.1 164 (70 * t + k) = zN p)
/-- where the model's setting writes -/
def MS (c j : Nat) : Prop := c = 163 ∨ c = 164 ∨ c = 165 ∨ (c = 158 ∧ (j = 11 ∨ j = 14))
theorem MNow_fr {M M' : zMM} {P : Nat → Nat} (h : MNow M P) (f : fr MS M M') : MNow M' P := by
  intro i hi
  rw [f.1 159 i (by unfold MS; omega)]
  exact h i hi
theorem isLeft7 {t c d : Nat} {M : zMM} (ht : t < 3) (hc : c ≤ 70) (hd : d ≤ 70) (h1 : M.1 159 (5 + t) = zN c) (h2 : M.1 165 t = zN d) : fX7_isLeft (zN t) M = some (zN (if d < c then 1 else 0), M) := by
  unfold fX7_isLeft
  by_cases e : d < c
  · rw [if_pos e]; simp (disch := omega) only [wr_cj, wr_nj, rng_in, rng_out, zN_lit, zN_add, zN_mul, zN_sub, zN_ltT, zN_ltF, zN_leT, zN_leF, zN_eqT, zN_eqF, zN_lt, zN_le, zN_eq, zN_nat, zN_oobF, Option.bind_some, ↓reduceIte, Nat.one_mul, Nat.zero_add, Nat.add_zero, Nat.reduceAdd, Nat.reduceMul, Nat.reduceSub, Nat.reduceLT, Nat.reduceLeDiff, Nat.reduceEqDiff, reduceCtorEq, true_or, or_true, false_or, or_false, true_and, and_true, false_and, and_false, not_true_eq_false, not_false_eq_true, wr_2, wrL_1, zm_eqF, zm_eqF', zm_lt, zm_lt', zm_le, zm_le', zm_sub1, zN_01, Nat.mul_zero, Nat.zero_mul, Nat.mul_one, Nat.sub_zero, Nat.sub_self, h1, h2]
  · rw [if_neg e]; simp (disch := omega) only [wr_cj, wr_nj, rng_in, rng_out, zN_lit, zN_add, zN_mul, zN_sub, zN_ltT, zN_ltF, zN_leT, zN_leF, zN_eqT, zN_eqF, zN_lt, zN_le, zN_eq, zN_nat, zN_oobF, Option.bind_some, ↓reduceIte, Nat.one_mul, Nat.zero_add, Nat.add_zero, Nat.reduceAdd, Nat.reduceMul, Nat.reduceSub, Nat.reduceLT, Nat.reduceLeDiff, Nat.reduceEqDiff, reduceCtorEq, true_or, or_true, false_or, or_false, true_and, and_true, false_and, and_false, not_true_eq_false, not_false_eq_true, wr_2, wrL_1, zm_eqF, zm_eqF', zm_lt, zm_lt', zm_le, zm_le', zm_sub1, zN_01, Nat.mul_zero, Nat.zero_mul, Nat.mul_one, Nat.sub_zero, Nat.sub_self, h1, h2]
theorem size7 {t k : Nat} {M : zMM} (ht : t < 3) (hk : k < 70) : fX7_size (zN t) (zN k) M = some (M.1 159 (8 + 70 * t + k), M) := by
  unfold fX7_size
  simp (disch := omega) only [wr_cj, wr_nj, rng_in, rng_out, zN_lit, zN_add, zN_mul, zN_sub, zN_ltT, zN_ltF, zN_leT, zN_leF, zN_eqT, zN_eqF, zN_lt, zN_le, zN_eq, zN_nat, zN_oobF, Option.bind_some, ↓reduceIte, Nat.one_mul, Nat.zero_add, Nat.add_zero, Nat.reduceAdd, Nat.reduceMul, Nat.reduceSub, Nat.reduceLT, Nat.reduceLeDiff, Nat.reduceEqDiff, reduceCtorEq, true_or, or_true, false_or, or_false, true_and, and_true, false_and, and_false, not_true_eq_false, not_false_eq_true, wr_2, wrL_1, zm_eqF, zm_eqF', zm_lt, zm_lt', zm_le, zm_le', zm_sub1, zN_01, Nat.mul_zero, Nat.zero_mul, Nat.mul_one, Nat.sub_zero, Nat.sub_self]
theorem sp23 {t k0 wide pm cnt : Nat} {A2 A3 A5 L6 L7 : Int32} {s : Nat → Nat} (ht : t < 3) (hw : wide ≤ 60) (hpm : pm < 210) (hc : cnt ≤ 70) (hs : ∀ k, k < cnt → 1 ≤ s k ∧ s k ≤ 9) :
    ∀ f k room fuel M nn used, cnt - k = f → f < fuel → k ≤ cnt → nn + k0 = k → ((nn = 0 ∧ used = 0 ∧ room = wide + 1) ∨ (0 < nn ∧ used + room = wide)) →
    M.1 165 t = zN k → M.1 159 (5 + t) = zN cnt → (∀ j, j < cnt → M.1 159 (8 + 70 * t + j) = zN (s j)) → M.1 158 11 = zN pm →
    ∃ M' used', fX7_setPart_23 (zN t) A2 A3 (zN wide) A5 fuel L6 L7 (zN nn) (zN used) M = fX7_setPart_124 (zN t) A2 A3 (zN wide) A5 L6 L7 (zN ((tkw s f k room).1 - k0)) (zN used') M' ∧
      M'.1 165 t = zN (tkw s f k room).1 ∧ (∀ j, k ≤ j → j < (tkw s f k room).1 → M'.1 164 (70 * t + j) = zN pm) ∧
      fr (fun c j => (c = 165 ∧ j = t) ∨ (c = 164 ∧ 70 * t + k ≤ j ∧ j < 70 * t + (tkw s f k room).1)) M M' ∧
      ((k0 < (tkw s f k room).1 ∧ used' + (tkw s f k room).2 = wide) ∨ ((tkw s f k room).1 = k0 ∧ used' = 0)) := by
  intro f
  induction f with
  | zero =>
    intro k room fuel M nn used hf hfu hk hn hr h5 h9 hz h8
    obtain ⟨fu, rfl⟩ : ∃ q, fuel = q + 1 := ⟨fuel - 1, by omega⟩
    refine ⟨M, used, ?_, h5, fun j h1 h2 => absurd h2 (by simp only [tkw]; omega), fr_refl _ _, ?_⟩
    · have e := isLeft7 (M := M) ht hc (show k ≤ 70 by omega) h9 h5
      rw [if_neg (by omega)] at e
      unfold fX7_setPart_23
      simp (disch := omega) only [wr_cj, wr_nj, rng_in, rng_out, zN_lit, zN_add, zN_mul, zN_sub, zN_ltT, zN_ltF, zN_leT, zN_leF, zN_eqT, zN_eqF, zN_lt, zN_le, zN_eq, zN_nat, zN_oobF, Option.bind_some, ↓reduceIte, Nat.one_mul, Nat.zero_add, Nat.add_zero, Nat.reduceAdd, Nat.reduceMul, Nat.reduceSub, Nat.reduceLT, Nat.reduceLeDiff, Nat.reduceEqDiff, reduceCtorEq, true_or, or_true, false_or, or_false, true_and, and_true, false_and, and_false, not_true_eq_false, not_false_eq_true, wr_2, wrL_1, zm_eqF, zm_eqF', zm_lt, zm_lt', zm_le, zm_le', zm_sub1, zN_01, Nat.mul_zero, Nat.zero_mul, Nat.mul_one, Nat.sub_zero, Nat.sub_self, e, tkw]
      rw [show k - k0 = nn by omega]
    · simp only [tkw]; omega
  | succ f ih =>
    intro k room fuel M nn used hf hfu hk hn hr h5 h9 hz h8
    obtain ⟨fu, rfl⟩ : ∃ q, fuel = q + 1 := ⟨fuel - 1, by omega⟩
    have hk' : k < cnt := by omega
    have hsk := hs k hk'
    have hzk := hz k hk'
    have e := isLeft7 (M := M) ht hc (show k ≤ 70 by omega) h9 h5
    rw [if_pos hk'] at e
    have es := size7 (M := M) ht (show k < 70 by omega)
    rw [hzk] at es
    have step : fX7_setPart_23 (zN t) A2 A3 (zN wide) A5 (fu + 1) L6 L7 (zN nn) (zN used) M = if s k < room then fX7_setPart_23 (zN t) A2 A3 (zN wide) A5 fu L6 L7 (zN (nn + 1)) (zN (used + (if 0 < nn then 1 else 0) + s k)) (wr (wr M 164 (70 * t + k) (zN pm)) 165 t (zN (k + 1))) else fX7_setPart_124 (zN t) A2 A3 (zN wide) A5 L6 L7 (zN nn) (zN used) M := by
      rw [fX7_setPart_23]
      rw [e]
      by_cases h : s k < room
      · rw [if_pos h]
        rcases hr with ⟨a, b, c⟩ | ⟨a, b⟩
        · subst a b c
          simp (disch := omega) only [wr_cj, wr_nj, rng_in, rng_out, zN_lit, zN_add, zN_mul, zN_sub, zN_ltT, zN_ltF, zN_leT, zN_leF, zN_eqT, zN_eqF, zN_lt, zN_le, zN_eq, zN_nat, zN_oobF, Option.bind_some, ↓reduceIte, Nat.one_mul, Nat.zero_add, Nat.add_zero, Nat.reduceAdd, Nat.reduceMul, Nat.reduceSub, Nat.reduceLT, Nat.reduceLeDiff, Nat.reduceEqDiff, reduceCtorEq, true_or, or_true, false_or, or_false, true_and, and_true, false_and, and_false, not_true_eq_false, not_false_eq_true, wr_2, wrL_1, zm_eqF, zm_eqF', zm_lt, zm_lt', zm_le, zm_le', zm_sub1, zN_01, Nat.mul_zero, Nat.zero_mul, Nat.mul_one, Nat.sub_zero, Nat.sub_self, h5, es, fX7_setPart_43, fX7_setPart_73, h8, if_false]
        · rw [if_pos a]
          simp (disch := omega) only [wr_cj, wr_nj, rng_in, rng_out, zN_lit, zN_add, zN_mul, zN_sub, zN_ltT, zN_ltF, zN_leT, zN_leF, zN_eqT, zN_eqF, zN_lt, zN_le, zN_eq, zN_nat, zN_oobF, Option.bind_some, ↓reduceIte, Nat.one_mul, Nat.zero_add, Nat.add_zero, Nat.reduceAdd, Nat.reduceMul, Nat.reduceSub, Nat.reduceLT, Nat.reduceLeDiff, Nat.reduceEqDiff, reduceCtorEq, true_or, or_true, false_or, or_false, true_and, and_true, false_and, and_false, not_true_eq_false, not_false_eq_true, wr_2, wrL_1, zm_eqF, zm_eqF', zm_lt, zm_lt', zm_le, zm_le', zm_sub1, zN_01, Nat.mul_zero, Nat.zero_mul, Nat.mul_one, Nat.sub_zero, Nat.sub_self, h5, es, fX7_setPart_43, fX7_setPart_73, h8]
          rw [Nat.add_assoc used 1]
      · rw [if_neg h]
        rcases hr with ⟨a, b, c⟩ | ⟨a, b⟩
        · subst a b c
          simp (disch := omega) only [wr_cj, wr_nj, rng_in, rng_out, zN_lit, zN_add, zN_mul, zN_sub, zN_ltT, zN_ltF, zN_leT, zN_leF, zN_eqT, zN_eqF, zN_lt, zN_le, zN_eq, zN_nat, zN_oobF, Option.bind_some, ↓reduceIte, Nat.one_mul, Nat.zero_add, Nat.add_zero, Nat.reduceAdd, Nat.reduceMul, Nat.reduceSub, Nat.reduceLT, Nat.reduceLeDiff, Nat.reduceEqDiff, reduceCtorEq, true_or, or_true, false_or, or_false, true_and, and_true, false_and, and_false, not_true_eq_false, not_false_eq_true, wr_2, wrL_1, zm_eqF, zm_eqF', zm_lt, zm_lt', zm_le, zm_le', zm_sub1, zN_01, Nat.mul_zero, Nat.zero_mul, Nat.mul_one, Nat.sub_zero, Nat.sub_self, h5, es, fX7_setPart_43, fX7_setPart_73, h8]
        · simp (disch := omega) only [wr_cj, wr_nj, rng_in, rng_out, zN_lit, zN_add, zN_mul, zN_sub, zN_ltT, zN_ltF, zN_leT, zN_leF, zN_eqT, zN_eqF, zN_lt, zN_le, zN_eq, zN_nat, zN_oobF, Option.bind_some, ↓reduceIte, Nat.one_mul, Nat.zero_add, Nat.add_zero, Nat.reduceAdd, Nat.reduceMul, Nat.reduceSub, Nat.reduceLT, Nat.reduceLeDiff, Nat.reduceEqDiff, reduceCtorEq, true_or, or_true, false_or, or_false, true_and, and_true, false_and, and_false, not_true_eq_false, not_false_eq_true, wr_2, wrL_1, zm_eqF, zm_eqF', zm_lt, zm_lt', zm_le, zm_le', zm_sub1, zN_01, Nat.mul_zero, Nat.zero_mul, Nat.mul_one, Nat.sub_zero, Nat.sub_self, h5, es, fX7_setPart_43, fX7_setPart_73, h8]
    rw [step]
    by_cases h : s k < room
    · rw [if_pos h]
      have et : tkw s (f + 1) k room = tkw s f (k + 1) (room - (s k + 1)) := by rw [tkw, if_pos h]
      obtain ⟨M', u', e1, e2, e3, e4, e5⟩ := ih (k + 1) (room - (s k + 1)) fu (wr (wr M 164 (70 * t + k) (zN pm)) 165 t (zN (k + 1))) (nn + 1) (used + (if 0 < nn then 1 else 0) + s k) (by omega) (by omega) (by omega) (by omega) (by
          right
          rcases hr with ⟨a, b, c⟩ | ⟨a, b⟩
          · rw [if_neg (by omega)]; omega
          · rw [if_pos a]; omega) (by rw [wr_cj]) (by simp (disch := omega) only [wr_cj, wr_nj, rng_in, rng_out, zN_lit, zN_add, zN_mul, zN_sub, zN_ltT, zN_ltF, zN_leT, zN_leF, zN_eqT, zN_eqF, zN_lt, zN_le, zN_eq, zN_nat, zN_oobF, Option.bind_some, ↓reduceIte, Nat.one_mul, Nat.zero_add, Nat.add_zero, Nat.reduceAdd, Nat.reduceMul, Nat.reduceSub, Nat.reduceLT, Nat.reduceLeDiff, Nat.reduceEqDiff, reduceCtorEq, true_or, or_true, false_or, or_false, true_and, and_true, false_and, and_false, not_true_eq_false, not_false_eq_true, wr_2, wrL_1, zm_eqF, zm_eqF', zm_lt, zm_lt', zm_le, zm_le', zm_sub1, zN_01, Nat.mul_zero, Nat.zero_mul, Nat.mul_one, Nat.sub_zero, Nat.sub_self, h9]) (by intro j hj; have := hz j hj; simp (disch := omega) only [wr_cj, wr_nj, rng_in, rng_out, zN_lit, zN_add, zN_mul, zN_sub, zN_ltT, zN_ltF, zN_leT, zN_leF, zN_eqT, zN_eqF, zN_lt, zN_le, zN_eq, zN_nat, zN_oobF, Option.bind_some, ↓reduceIte, Nat.one_mul, Nat.zero_add, Nat.add_zero, Nat.reduceAdd, Nat.reduceMul, Nat.reduceSub, Nat.reduceLT, Nat.reduceLeDiff, Nat.reduceEqDiff, reduceCtorEq, true_or, or_true, false_or, or_false, true_and, and_true, false_and, and_false, not_true_eq_false, not_false_eq_true, wr_2, wrL_1, zm_eqF, zm_eqF', zm_lt, zm_lt', zm_le, zm_le', zm_sub1, zN_01, Nat.mul_zero, Nat.zero_mul, Nat.mul_one, Nat.sub_zero, Nat.sub_self, this]) (by simp (disch := omega) only [wr_cj, wr_nj, rng_in, rng_out, zN_lit, zN_add, zN_mul, zN_sub, zN_ltT, zN_ltF, zN_leT, zN_leF, zN_eqT, zN_eqF, zN_lt, zN_le, zN_eq, zN_nat, zN_oobF, Option.bind_some, ↓reduceIte, Nat.one_mul, Nat.zero_add, Nat.add_zero, Nat.reduceAdd, Nat.reduceMul, Nat.reduceSub, Nat.reduceLT, Nat.reduceLeDiff, Nat.reduceEqDiff, reduceCtorEq, true_or, or_true, false_or, or_false, true_and, and_true, false_and, and_false, not_true_eq_false, not_false_eq_true, wr_2, wrL_1, zm_eqF, zm_eqF', zm_lt, zm_lt', zm_le, zm_le', zm_sub1, zN_01, Nat.mul_zero, Nat.zero_mul, Nat.mul_one, Nat.sub_zero, Nat.sub_self, h8])
      have hge := (tkw_ge s f (k + 1) (room - (s k + 1))).1
      rw [et]
      refine ⟨M', u', e1, e2, ?_, ?_, e5⟩
      · intro j h1 h2
        by_cases ej : j = k
        · rw [ej, e4.1 _ _ (by omega)]; simp (disch := omega) only [wr_cj, wr_nj, rng_in, rng_out, zN_lit, zN_add, zN_mul, zN_sub, zN_ltT, zN_ltF, zN_leT, zN_leF, zN_eqT, zN_eqF, zN_lt, zN_le, zN_eq, zN_nat, zN_oobF, Option.bind_some, ↓reduceIte, Nat.one_mul, Nat.zero_add, Nat.add_zero, Nat.reduceAdd, Nat.reduceMul, Nat.reduceSub, Nat.reduceLT, Nat.reduceLeDiff, Nat.reduceEqDiff, reduceCtorEq, true_or, or_true, false_or, or_false, true_and, and_true, false_and, and_false, not_true_eq_false, not_false_eq_true, wr_2, wrL_1, zm_eqF, zm_eqF', zm_lt, zm_lt', zm_le, zm_le', zm_sub1, zN_01, Nat.mul_zero, Nat.zero_mul, Nat.mul_one, Nat.sub_zero, Nat.sub_self]
        · exact e3 j (by omega) h2
      · refine ⟨fun c j hc => ?_, e4.2⟩
        rw [e4.1 c j (by omega), wr_nj (by omega), wr_nj (by omega)]
    · rw [if_neg h]
      have et : tkw s (f + 1) k room = (k, room) := by rw [tkw, if_neg h]
      rw [et]
      refine ⟨M, used, ?_, h5, fun j h1 h2 => absurd h2 (by simp only []; omega), fr_refl _ _, ?_⟩
      · rw [show nn = k - k0 by omega]
      · simp only []; omega
theorem setPart_ok {P : Nat → Nat} (hP : Good P) {L : List (Nat × Nat)} {d : Nat → Nat} {n t : Nat} {M : zMM} (ht : t < 3) (hn : n < 210) (hM : MNow M P) (hd : d t = dn P n t) (hw : wid P n t ≠ 0) (hD : ∀ t, t < 3 → d t ≤ P (5 + t)) (h : MSt P L d M) :
    ∃ M', fX7_setPart (zN t) (zN (n / P 1)) (zN (n % P 1)) (zN (wid P n t)) (zN (col P n t)) M = some M' ∧ MSt P (L ++ [(n, t)]) (fun u => if u = t then dn P (n + 1) t else d u) M' ∧ fr (fun c j => MS c j ∧ ¬ (c = 158 ∧ j = 14)) M M' := by
  obtain ⟨h1, h2, h3, h4, h5⟩ := h
  have hwa := wid_all hP n t
  have hlt := dn_lt hP ht hw
  have hle := (dn_le P (n + 1) t).1
  have c0 := (hP.2.1 0 (by omega)).1
  have c1 := (hP.2.1 1 (by omega)).1
  have c2 := (hP.2.1 2 (by omega)).1
  have ct := (hP.2.1 t ht).1
  have d0 := hD 0 (by omega)
  have d1 := hD 1 (by omega)
  have d2 := hD 2 (by omega)
  simp only [Nat.reduceAdd] at c0 c1 c2 d0 d1 d2
  have hLl : L.length < 210 := by
    have : t = 0 ∨ t = 1 ∨ t = 2 := by omega
    rcases this with rfl | rfl | rfl <;> simp only [Nat.reduceAdd] at hle <;> omega
  have h3t := h3 t ht
  rw [hd] at h3t
  have ed := dn_w P n t hw
  have er := rom_w P n t hw
  obtain ⟨M1, u1, e1, e2, e3, e4, e5⟩ := sp23 (A2 := zN (n / P 1)) (A3 := zN (n % P 1)) (A5 := zN (col P n t)) (L6 := zN (8 * L.length)) (L7 := zN (dn P n t)) (k0 := dn P n t) (pm := L.length) ht (show wid P n t ≤ 60 by omega) hLl ct (hP.2.1 t ht).2 (P (5 + t) - dn P n t) (dn P n t) (wid P n t + 1) zFU M 0 0 rfl (by rw [zFU_eq]; omega) (dn_le P n t).1 (by omega) (Or.inl ⟨rfl, rfl, rfl⟩) h3t (hM _ (by omega)) (fun j hj => hM _ (by omega)) h1
  rw [← ed] at e1 e2 e3 e4 e5
  rw [← er] at e5
  have hu : u1 + rom P n t = wid P n t := by omega
  have hPM : M1.1 159 (5 + t) = zN (P (5 + t)) := by rw [e4.1 _ _ (by omega)]; exact hM _ (by omega)
  have h1M : M1.1 158 11 = zN L.length := by rw [e4.1 _ _ (by omega)]; exact h1
  unfold fX7_setPart
  simp (disch := omega) only [wr_cj, wr_nj, rng_in, rng_out, zN_lit, zN_add, zN_mul, zN_sub, zN_ltT, zN_ltF, zN_leT, zN_leF, zN_eqT, zN_eqF, zN_lt, zN_le, zN_eq, zN_nat, zN_oobF, Option.bind_some, ↓reduceIte, Nat.one_mul, Nat.zero_add, Nat.add_zero, Nat.reduceAdd, Nat.reduceMul, Nat.reduceSub, Nat.reduceLT, Nat.reduceLeDiff, Nat.reduceEqDiff, reduceCtorEq, true_or, or_true, false_or, or_false, true_and, and_true, false_and, and_false, not_true_eq_false, not_false_eq_true, wr_2, wrL_1, zm_eqF, zm_eqF', zm_lt, zm_lt', zm_le, zm_le', zm_sub1, zN_01, Nat.mul_zero, Nat.zero_mul, Nat.mul_one, Nat.sub_zero, Nat.sub_self, h1, h3t]
  simp only [e1]
  unfold fX7_setPart_124
  generalize hMM : (wr (wr (wr (wr (wr (wr (wr M1 163 (8 * L.length) (zN t)) 163 (8 * L.length + 1) (zN (n / P 1))) 163 (8 * L.length + 2) (zN (n % P 1))) 163 (8 * L.length + 3) (zN (dn P n t))) 163 (8 * L.length + 4) (zN (dn P (n + 1) t - dn P n t))) 163 (8 * L.length + 5) (zN (wid P n t))) 163 (8 * L.length + 6) (zN (col P n t))) = MM
  have eLeft := isLeft7 (M := MM) ht ct (show dn P (n + 1) t ≤ 70 by omega) (by rw [← hMM]; simp (disch := omega) only [wr_cj, wr_nj, rng_in, rng_out, zN_lit, zN_add, zN_mul, zN_sub, zN_ltT, zN_ltF, zN_leT, zN_leF, zN_eqT, zN_eqF, zN_lt, zN_le, zN_eq, zN_nat, zN_oobF, Option.bind_some, ↓reduceIte, Nat.one_mul, Nat.zero_add, Nat.add_zero, Nat.reduceAdd, Nat.reduceMul, Nat.reduceSub, Nat.reduceLT, Nat.reduceLeDiff, Nat.reduceEqDiff, reduceCtorEq, true_or, or_true, false_or, or_false, true_and, and_true, false_and, and_false, not_true_eq_false, not_false_eq_true, wr_2, wrL_1, zm_eqF, zm_eqF', zm_lt, zm_lt', zm_le, zm_le', zm_sub1, zN_01, Nat.mul_zero, Nat.zero_mul, Nat.mul_one, Nat.sub_zero, Nat.sub_self, hPM]) (by rw [← hMM]; simp (disch := omega) only [wr_cj, wr_nj, rng_in, rng_out, zN_lit, zN_add, zN_mul, zN_sub, zN_ltT, zN_ltF, zN_leT, zN_leF, zN_eqT, zN_eqF, zN_lt, zN_le, zN_eq, zN_nat, zN_oobF, Option.bind_some, ↓reduceIte, Nat.one_mul, Nat.zero_add, Nat.add_zero, Nat.reduceAdd, Nat.reduceMul, Nat.reduceSub, Nat.reduceLT, Nat.reduceLeDiff, Nat.reduceEqDiff, reduceCtorEq, true_or, or_true, false_or, or_false, true_and, and_true, false_and, and_false, not_true_eq_false, not_false_eq_true, wr_2, wrL_1, zm_eqF, zm_eqF', zm_lt, zm_lt', zm_le, zm_le', zm_sub1, zN_01, Nat.mul_zero, Nat.zero_mul, Nat.mul_one, Nat.sub_zero, Nat.sub_self, e2])
  have f229 : ∀ v, fX7_setPart_229 (zN t) (zN (n / P 1)) (zN (n % P 1)) (zN (wid P n t)) (zN (col P n t)) v (zN (8 * L.length + 7)) MM = some (wr (wr MM 163 (8 * L.length + 7) v) 158 11 (zN (L.length + 1))) := by
    intro v
    unfold fX7_setPart_229
    have : MM.1 158 11 = zN L.length := by rw [← hMM]; simp (disch := omega) only [wr_cj, wr_nj, rng_in, rng_out, zN_lit, zN_add, zN_mul, zN_sub, zN_ltT, zN_ltF, zN_leT, zN_leF, zN_eqT, zN_eqF, zN_lt, zN_le, zN_eq, zN_nat, zN_oobF, Option.bind_some, ↓reduceIte, Nat.one_mul, Nat.zero_add, Nat.add_zero, Nat.reduceAdd, Nat.reduceMul, Nat.reduceSub, Nat.reduceLT, Nat.reduceLeDiff, Nat.reduceEqDiff, reduceCtorEq, true_or, or_true, false_or, or_false, true_and, and_true, false_and, and_false, not_true_eq_false, not_false_eq_true, wr_2, wrL_1, zm_eqF, zm_eqF', zm_lt, zm_lt', zm_le, zm_le', zm_sub1, zN_01, Nat.mul_zero, Nat.zero_mul, Nat.mul_one, Nat.sub_zero, Nat.sub_self, h1M]
    simp (disch := omega) only [wr_cj, wr_nj, rng_in, rng_out, zN_lit, zN_add, zN_mul, zN_sub, zN_ltT, zN_ltF, zN_leT, zN_leF, zN_eqT, zN_eqF, zN_lt, zN_le, zN_eq, zN_nat, zN_oobF, Option.bind_some, ↓reduceIte, Nat.one_mul, Nat.zero_add, Nat.add_zero, Nat.reduceAdd, Nat.reduceMul, Nat.reduceSub, Nat.reduceLT, Nat.reduceLeDiff, Nat.reduceEqDiff, reduceCtorEq, true_or, or_true, false_or, or_false, true_and, and_true, false_and, and_false, not_true_eq_false, not_false_eq_true, wr_2, wrL_1, zm_eqF, zm_eqF', zm_lt, zm_lt', zm_le, zm_le', zm_sub1, zN_01, Nat.mul_zero, Nat.zero_mul, Nat.mul_one, Nat.sub_zero, Nat.sub_self, this]
  refine ⟨wr (wr MM 163 (8 * L.length + 7) (zN (rg P n t))) 158 11 (zN (L.length + 1)), ?_, ?_, ?_⟩
  · simp (disch := omega) only [wr_cj, wr_nj, rng_in, rng_out, zN_lit, zN_add, zN_mul, zN_sub, zN_ltT, zN_ltF, zN_leT, zN_leF, zN_eqT, zN_eqF, zN_lt, zN_le, zN_eq, zN_nat, zN_oobF, Option.bind_some, ↓reduceIte, Nat.one_mul, Nat.zero_add, Nat.add_zero, Nat.reduceAdd, Nat.reduceMul, Nat.reduceSub, Nat.reduceLT, Nat.reduceLeDiff, Nat.reduceEqDiff, reduceCtorEq, true_or, or_true, false_or, or_false, true_and, and_true, false_and, and_false, not_true_eq_false, not_false_eq_true, wr_2, wrL_1, zm_eqF, zm_eqF', zm_lt, zm_lt', zm_le, zm_le', zm_sub1, zN_01, Nat.mul_zero, Nat.zero_mul, Nat.mul_one, Nat.sub_zero, Nat.sub_self, hMM, eLeft]
    by_cases q : dn P (n + 1) t < P (5 + t)
    · have eg : rg P n t = rom P n t * rom P n t := by unfold rg; rw [if_pos q]
      rw [if_pos q]
      simp (disch := omega) only [wr_cj, wr_nj, rng_in, rng_out, zN_lit, zN_add, zN_mul, zN_sub, zN_ltT, zN_ltF, zN_leT, zN_leF, zN_eqT, zN_eqF, zN_lt, zN_le, zN_eq, zN_nat, zN_oobF, Option.bind_some, ↓reduceIte, Nat.one_mul, Nat.zero_add, Nat.add_zero, Nat.reduceAdd, Nat.reduceMul, Nat.reduceSub, Nat.reduceLT, Nat.reduceLeDiff, Nat.reduceEqDiff, reduceCtorEq, true_or, or_true, false_or, or_false, true_and, and_true, false_and, and_false, not_true_eq_false, not_false_eq_true, wr_2, wrL_1, zm_eqF, zm_eqF', zm_lt, zm_lt', zm_le, zm_le', zm_sub1, zN_01, Nat.mul_zero, Nat.zero_mul, Nat.mul_one, Nat.sub_zero, Nat.sub_self, f229, eg]
      rw [show wid P n t - u1 = rom P n t by omega]
    · have eg : rg P n t = 0 := by unfold rg; rw [if_neg q]
      rw [if_neg q]
      simp (disch := omega) only [wr_cj, wr_nj, rng_in, rng_out, zN_lit, zN_add, zN_mul, zN_sub, zN_ltT, zN_ltF, zN_leT, zN_leF, zN_eqT, zN_eqF, zN_lt, zN_le, zN_eq, zN_nat, zN_oobF, Option.bind_some, ↓reduceIte, Nat.one_mul, Nat.zero_add, Nat.add_zero, Nat.reduceAdd, Nat.reduceMul, Nat.reduceSub, Nat.reduceLT, Nat.reduceLeDiff, Nat.reduceEqDiff, reduceCtorEq, true_or, or_true, false_or, or_false, true_and, and_true, false_and, and_false, not_true_eq_false, not_false_eq_true, wr_2, wrL_1, zm_eqF, zm_eqF', zm_lt, zm_lt', zm_le, zm_le', zm_sub1, zN_01, Nat.mul_zero, Nat.zero_mul, Nat.mul_one, Nat.sub_zero, Nat.sub_self, f229, eg]
  · rw [← hMM]
    refine ⟨?_, ?_, ?_, ?_, ?_⟩
    · rw [wr_cj, List.length_append]; rfl
    · rw [List.length_append]
      simp only [List.length_cons, List.length_nil]
      have : t = 0 ∨ t = 1 ∨ t = 2 := by omega
      rcases this with rfl | rfl | rfl <;> simp <;> omega
    · intro u hu'
      by_cases eu : u = t
      · subst eu; dsimp only; rw [if_pos rfl]; simp (disch := omega) only [wr_cj, wr_nj, rng_in, rng_out, zN_lit, zN_add, zN_mul, zN_sub, zN_ltT, zN_ltF, zN_leT, zN_leF, zN_eqT, zN_eqF, zN_lt, zN_le, zN_eq, zN_nat, zN_oobF, Option.bind_some, ↓reduceIte, Nat.one_mul, Nat.zero_add, Nat.add_zero, Nat.reduceAdd, Nat.reduceMul, Nat.reduceSub, Nat.reduceLT, Nat.reduceLeDiff, Nat.reduceEqDiff, reduceCtorEq, true_or, or_true, false_or, or_false, true_and, and_true, false_and, and_false, not_true_eq_false, not_false_eq_true, wr_2, wrL_1, zm_eqF, zm_eqF', zm_lt, zm_lt', zm_le, zm_le', zm_sub1, zN_01, Nat.mul_zero, Nat.zero_mul, Nat.mul_one, Nat.sub_zero, Nat.sub_self, e2]
      · dsimp only; rw [if_neg eu]
        simp (disch := omega) only [wr_cj, wr_nj, rng_in, rng_out, zN_lit, zN_add, zN_mul, zN_sub, zN_ltT, zN_ltF, zN_leT, zN_leF, zN_eqT, zN_eqF, zN_lt, zN_le, zN_eq, zN_nat, zN_oobF, Option.bind_some, ↓reduceIte, Nat.one_mul, Nat.zero_add, Nat.add_zero, Nat.reduceAdd, Nat.reduceMul, Nat.reduceSub, Nat.reduceLT, Nat.reduceLeDiff, Nat.reduceEqDiff, reduceCtorEq, true_or, or_true, false_or, or_false, true_and, and_true, false_and, and_false, not_true_eq_false, not_false_eq_true, wr_2, wrL_1, zm_eqF, zm_eqF', zm_lt, zm_lt', zm_le, zm_le', zm_sub1, zN_01, Nat.mul_zero, Nat.zero_mul, Nat.mul_one, Nat.sub_zero, Nat.sub_self]
        rw [e4.1 _ _ (by omega)]
        exact h3 u hu'
    · intro p m u hp
      by_cases ep : p < L.length
      · rw [List.getElem?_append_left ep] at hp
        refine Ent_fr (h4 p m u hp) ?_
        intro j j1 j2
        simp (disch := omega) only [wr_cj, wr_nj, rng_in, rng_out, zN_lit, zN_add, zN_mul, zN_sub, zN_ltT, zN_ltF, zN_leT, zN_leF, zN_eqT, zN_eqF, zN_lt, zN_le, zN_eq, zN_nat, zN_oobF, Option.bind_some, ↓reduceIte, Nat.one_mul, Nat.zero_add, Nat.add_zero, Nat.reduceAdd, Nat.reduceMul, Nat.reduceSub, Nat.reduceLT, Nat.reduceLeDiff, Nat.reduceEqDiff, reduceCtorEq, true_or, or_true, false_or, or_false, true_and, and_true, false_and, and_false, not_true_eq_false, not_false_eq_true, wr_2, wrL_1, zm_eqF, zm_eqF', zm_lt, zm_lt', zm_le, zm_le', zm_sub1, zN_01, Nat.mul_zero, Nat.zero_mul, Nat.mul_one, Nat.sub_zero, Nat.sub_self]
        exact e4.1 _ _ (by omega)
      · have ep' : p = L.length := by
          have := List.getElem?_eq_some_iff.mp hp
          obtain ⟨hl, -⟩ := this
          rw [List.length_append] at hl
          simp only [List.length_cons, List.length_nil] at hl
          omega
        subst ep'
        rw [List.getElem?_append_right (Nat.le_refl _), Nat.sub_self] at hp
        simp only [List.getElem?_cons_zero, Option.some.injEq, Prod.mk.injEq] at hp
        obtain ⟨rfl, rfl⟩ := hp
        refine ⟨?_, ?_, ?_, ?_, ?_, ?_, ?_, ?_⟩ <;> simp (disch := omega) only [wr_cj, wr_nj, rng_in, rng_out, zN_lit, zN_add, zN_mul, zN_sub, zN_ltT, zN_ltF, zN_leT, zN_leF, zN_eqT, zN_eqF, zN_lt, zN_le, zN_eq, zN_nat, zN_oobF, Option.bind_some, ↓reduceIte, Nat.one_mul, Nat.zero_add, Nat.add_zero, Nat.reduceAdd, Nat.reduceMul, Nat.reduceSub, Nat.reduceLT, Nat.reduceLeDiff, Nat.reduceEqDiff, reduceCtorEq, true_or, or_true, false_or, or_false, true_and, and_true, false_and, and_false, not_true_eq_false, not_false_eq_true, wr_2, wrL_1, zm_eqF, zm_eqF', zm_lt, zm_lt', zm_le, zm_le', zm_sub1, zN_01, Nat.mul_zero, Nat.zero_mul, Nat.mul_one, Nat.sub_zero, Nat.sub_self]
    · intro u hu' k hk
      by_cases eu : u = t
      · subst eu
        dsimp only at hk
        rw [if_pos rfl] at hk
        by_cases ek : k < dn P n u
        · obtain ⟨p, p1, p2⟩ := h5 u hu' k (by omega)
          refine ⟨p, ?_, ?_⟩
          · rw [List.getElem?_append_left (List.getElem?_eq_some_iff.mp p1).1]; exact p1
          · simp (disch := omega) only [wr_cj, wr_nj, rng_in, rng_out, zN_lit, zN_add, zN_mul, zN_sub, zN_ltT, zN_ltF, zN_leT, zN_leF, zN_eqT, zN_eqF, zN_lt, zN_le, zN_eq, zN_nat, zN_oobF, Option.bind_some, ↓reduceIte, Nat.one_mul, Nat.zero_add, Nat.add_zero, Nat.reduceAdd, Nat.reduceMul, Nat.reduceSub, Nat.reduceLT, Nat.reduceLeDiff, Nat.reduceEqDiff, reduceCtorEq, true_or, or_true, false_or, or_false, true_and, and_true, false_and, and_false, not_true_eq_false, not_false_eq_true, wr_2, wrL_1, zm_eqF, zm_eqF', zm_lt, zm_lt', zm_le, zm_le', zm_sub1, zN_01, Nat.mul_zero, Nat.zero_mul, Nat.mul_one, Nat.sub_zero, Nat.sub_self]
            rw [e4.1 _ _ (by omega)]
            exact p2
        · refine ⟨L.length, ?_, ?_⟩
          · rw [List.getElem?_append_right (Nat.le_refl _), Nat.sub_self, ln_eq hP ht (by omega) hk]; rfl
          · simp (disch := omega) only [wr_cj, wr_nj, rng_in, rng_out, zN_lit, zN_add, zN_mul, zN_sub, zN_ltT, zN_ltF, zN_leT, zN_leF, zN_eqT, zN_eqF, zN_lt, zN_le, zN_eq, zN_nat, zN_oobF, Option.bind_some, ↓reduceIte, Nat.one_mul, Nat.zero_add, Nat.add_zero, Nat.reduceAdd, Nat.reduceMul, Nat.reduceSub, Nat.reduceLT, Nat.reduceLeDiff, Nat.reduceEqDiff, reduceCtorEq, true_or, or_true, false_or, or_false, true_and, and_true, false_and, and_false, not_true_eq_false, not_false_eq_true, wr_2, wrL_1, zm_eqF, zm_eqF', zm_lt, zm_lt', zm_le, zm_le', zm_sub1, zN_01, Nat.mul_zero, Nat.zero_mul, Nat.mul_one, Nat.sub_zero, Nat.sub_self]
            exact e3 k (by omega) hk
      · dsimp only at hk
        rw [if_neg eu] at hk
        obtain ⟨p, p1, p2⟩ := h5 u hu' k hk
        refine ⟨p, ?_, ?_⟩
        · rw [List.getElem?_append_left (List.getElem?_eq_some_iff.mp p1).1]; exact p1
        · simp (disch := omega) only [wr_cj, wr_nj, rng_in, rng_out, zN_lit, zN_add, zN_mul, zN_sub, zN_ltT, zN_ltF, zN_leT, zN_leF, zN_eqT, zN_eqF, zN_lt, zN_le, zN_eq, zN_nat, zN_oobF, Option.bind_some, ↓reduceIte, Nat.one_mul, Nat.zero_add, Nat.add_zero, Nat.reduceAdd, Nat.reduceMul, Nat.reduceSub, Nat.reduceLT, Nat.reduceLeDiff, Nat.reduceEqDiff, reduceCtorEq, true_or, or_true, false_or, or_false, true_and, and_true, false_and, and_false, not_true_eq_false, not_false_eq_true, wr_2, wrL_1, zm_eqF, zm_eqF', zm_lt, zm_lt', zm_le, zm_le', zm_sub1, zN_01, Nat.mul_zero, Nat.zero_mul, Nat.mul_one, Nat.sub_zero, Nat.sub_self]
          have := hD u hu'
          have cu := (hP.2.1 u hu').1
          rw [e4.1 _ _ (by omega)]
          exact p2
  · rw [← hMM]
    have : fr (fun c j => MS c j ∧ ¬ (c = 158 ∧ j = 14)) M M1 := fr_mono e4 (by intro c j hc; unfold MS; omega)
    refine fr_wr (fr_wr (fr_wr (fr_wr (fr_wr (fr_wr (fr_wr (fr_wr (fr_wr this ?_) ?_) ?_) ?_) ?_) ?_) ?_) ?_) ?_ <;> (unfold MS; omega)
