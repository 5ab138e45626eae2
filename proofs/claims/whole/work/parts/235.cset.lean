/-! THE CLASS'S SETTING -/
/-- parts of a text in n lines, their raggedness together -/
def npt (P : Nat → Nat) (t : Nat) : Nat → Nat
  | 0 => 0
  | n + 1 => npt P t n + (if wid P n t = 0 then 0 else 1)
def rgs (P : Nat → Nat) (t : Nat) : Nat → Nat
  | 0 => 0
  | n + 1 => rgs P t n + rg P n t
theorem rg_0 (P : Nat → Nat) (n t : Nat) (h : wid P n t = 0) : rg P n t = 0 := by
  have : rom P n t = 0 := by unfold rom tkp; rw [if_pos (show wd P (dn P n) n t = 0 from h)]
  unfold rg; rw [this]; simp
theorem npt_0 (P : Nat → Nat) (n t : Nat) (h : wid P n t = 0) : npt P t (n + 1) = npt P t n := by rw [npt, if_pos h]; rfl
theorem rgs_0 (P : Nat → Nat) (n t : Nat) (h : wid P n t = 0) : rgs P t (n + 1) = rgs P t n := by rw [rgs, rg_0 P n t h]; rfl

theorem tp57 {b t n cnt : Nat} {A4 A5 L9 : Int32} {s : Nat → Nat} (ht : t < 3) (hb : b ≤ 110) (hn : n < 210) (hc : cnt ≤ 70) (hs : ∀ k, k < cnt → 1 ≤ s k ∧ s k ≤ 9) :
    ∀ f k room fuel M, (∀ j, j < cnt → M.1 (b + 4 + t) j = zN (s j)) → cnt - k = f → f < fuel → k ≤ cnt → room ≤ 61 →
    fX4_takePart_57 b (zN t) (zN n) A4 A5 fuel (zN cnt) L9 (zN room) (zN k) M =
      fX4_takePart_98 b (zN t) (zN n) A4 A5 (zN cnt) L9 (zN (tkw s f k room).2) (zN (tkw s f k room).1) (rng M (125 + t) k (tkw s f k room).1 (zN n)) := by
  intro f
  induction f with
  | zero =>
    intro k room fuel M hM hf hfu hk hr
    obtain ⟨fu, rfl⟩ : ∃ q, fuel = q + 1 := ⟨fuel - 1, by omega⟩
    unfold fX4_takePart_57
    simp (disch := omega) only [wr_cj, wr_nj, rng_in, rng_out, zN_lit, zN_add, zN_mul, zN_sub, zN_ltT, zN_ltF, zN_leT, zN_leF, zN_eqT, zN_eqF, zN_lt, zN_le, zN_eq, zN_nat, zN_oobF, Option.bind_some, ↓reduceIte, Nat.one_mul, Nat.zero_add, Nat.add_zero, Nat.reduceAdd, Nat.reduceMul, Nat.reduceSub, Nat.reduceLT, Nat.reduceLeDiff, Nat.reduceEqDiff, reduceCtorEq, true_or, or_true, false_or, or_false, true_and, and_true, false_and, and_false, not_true_eq_false, not_false_eq_true, tkw, rng_nil]
  | succ f ih =>
    intro k room fuel M hM hf hfu hk hr
    obtain ⟨fu, rfl⟩ : ∃ q, fuel = q + 1 := ⟨fuel - 1, by omega⟩
    unfold fX4_takePart_57
    have hk' : k < cnt := by omega
    have hsk := hs k hk'
    have hMk := hM k hk'
    by_cases h : s k < room
    · simp (disch := omega) only [wr_cj, wr_nj, rng_in, rng_out, zN_lit, zN_add, zN_mul, zN_sub, zN_ltT, zN_ltF, zN_leT, zN_leF, zN_eqT, zN_eqF, zN_lt, zN_le, zN_eq, zN_nat, zN_oobF, Option.bind_some, ↓reduceIte, Nat.one_mul, Nat.zero_add, Nat.add_zero, Nat.reduceAdd, Nat.reduceMul, Nat.reduceSub, Nat.reduceLT, Nat.reduceLeDiff, Nat.reduceEqDiff, reduceCtorEq, true_or, or_true, false_or, or_false, true_and, and_true, false_and, and_false, not_true_eq_false, not_false_eq_true, hMk]
      rw [ih (k + 1) (room - (s k + 1)) fu _ _ (by omega) (by omega) (by omega) (by omega)]
      · have e : tkw s (f + 1) k room = tkw s f (k + 1) (room - (s k + 1)) := by
          rw [tkw, if_pos h]
        rw [e, rng_wr _ _ _ _ _ (by have := tkw_ge s f (k + 1) (room - (s k + 1)); omega)]
      · intro j hj
        rw [wr_nj (by omega)]
        exact hM j hj
    · have e : tkw s (f + 1) k room = (k, room) := by
        rw [tkw, if_neg h]
      simp (disch := omega) only [wr_cj, wr_nj, rng_in, rng_out, zN_lit, zN_add, zN_mul, zN_sub, zN_ltT, zN_ltF, zN_leT, zN_leF, zN_eqT, zN_eqF, zN_lt, zN_le, zN_eq, zN_nat, zN_oobF, Option.bind_some, ↓reduceIte, Nat.one_mul, Nat.zero_add, Nat.add_zero, Nat.reduceAdd, Nat.reduceMul, Nat.reduceSub, Nat.reduceLT, Nat.reduceLeDiff, Nat.reduceEqDiff, reduceCtorEq, true_or, or_true, false_or, or_false, true_and, and_true, false_and, and_false, not_true_eq_false, not_false_eq_true, hMk]
      rw [e, rng_nil]

/-- what stands of text t once n lines are set -/
def CSt (P : Nat → Nat) (n t : Nat) (M : zMM) : Prop :=
  M.1 121 t = zN (dn P n t) ∧
  (∀ m, m < n → M.1 (133 + t) m = zN (dn P (m + 1) t - dn P m t)) ∧
  (∀ m, m < n → wid P m t ≠ 0 → M.1 (129 + t) m = zN (dn P m t) ∧ M.1 (137 + t) m = zN (wid P m t) ∧ M.1 (141 + t) m = zN (col P m t) ∧ M.1 (145 + t) m = zN (rg P m t)) ∧
  (∀ m k, m < n → dn P m t ≤ k → k < dn P (m + 1) t → M.1 (125 + t) k = zN m) ∧
  M.1 122 t = zN (npt P t n) ∧ M.1 123 t = zN (rgs P t n)
def CStS (t : Nat) (c j : Nat) : Prop := (c = 121 ∧ j = t) ∨ (c = 122 ∧ j = t) ∨ (c = 123 ∧ j = t) ∨ c = 125 + t ∨ c = 129 + t ∨ c = 133 + t ∨ c = 137 + t ∨ c = 141 + t ∨ c = 145 + t
theorem CSt_fr {P : Nat → Nat} {n t : Nat} {M M' : zMM} (h : CSt P n t M) (e : ∀ c j, CStS t c j → M'.1 c j = M.1 c j) : CSt P n t M' := by
  obtain ⟨h1, h2, h3, h4, h5, h6⟩ := h
  unfold CStS at e
  refine ⟨by rw [e _ _ (by omega), h1], ?_, ?_, ?_, by rw [e _ _ (by omega), h5], by rw [e _ _ (by omega), h6]⟩
  · intro m hm; rw [e _ _ (by omega), h2 m hm]
  · intro m hm hw
    rw [e _ _ (by omega), e _ _ (by omega), e _ _ (by omega), e _ _ (by omega)]
    exact h3 m hm hw
  · intro m k hm a b; rw [e _ _ (by omega), h4 m k hm a b]
theorem takePart_ok {P : Nat → Nat} (hP : Good P) {b n t frm : Nat} {M : zMM} (hL : Leaf M b P) (hb : b ≤ 110) (ht : t < 3) (hn : n < 210) (hf : wid P n t ≠ 0 → frm = col P n t) (h : CSt P n t M) :
    ∃ M', fX4_takePart b (zN t) (zN n) (zN frm) (zN (wid P n t)) M = some M' ∧ CSt P (n + 1) t M' ∧ fr (CStS t) M M' := by
  have hw := wid_all hP n t
  have hcnt := (hP.2.1 t ht).1
  obtain ⟨h1, h2, h3, h4, h5, h6⟩ := h
  unfold fX4_takePart
  by_cases hw0 : wid P n t = 0
  · simp (disch := omega) only [wr_cj, wr_nj, rng_in, rng_out, zN_lit, zN_add, zN_mul, zN_sub, zN_ltT, zN_ltF, zN_leT, zN_leF, zN_eqT, zN_eqF, zN_lt, zN_le, zN_eq, zN_nat, zN_oobF, Option.bind_some, ↓reduceIte, Nat.one_mul, Nat.zero_add, Nat.add_zero, Nat.reduceAdd, Nat.reduceMul, Nat.reduceSub, Nat.reduceLT, Nat.reduceLeDiff, Nat.reduceEqDiff, reduceCtorEq, true_or, or_true, false_or, or_false, true_and, and_true, false_and, and_false, not_true_eq_false, not_false_eq_true]
    refine ⟨_, rfl, ?_, fr_wr (fr_refl _ _) (by unfold CStS; omega)⟩
    have ed := dn_0 P n t hw0
    refine ⟨?_, ?_, ?_, ?_, ?_, ?_⟩
    · rw [wr_nj (by omega), h1, ed]
    · intro m hm
      by_cases e : m = n
      · rw [e, wr_cj, ed, Nat.sub_self]
      · rw [wr_nj (by omega), h2 m (by omega)]
    · intro m hm hmw
      have e : m ≠ n := by intro e; rw [e] at hmw; exact hmw hw0
      rw [wr_nj (by omega), wr_nj (by omega), wr_nj (by omega), wr_nj (by omega)]
      exact h3 m (by omega) hmw
    · intro m k hm a c
      have e : m ≠ n := by intro e; rw [e] at a c; omega
      rw [wr_nj (by omega)]
      exact h4 m k (by omega) a c
    · rw [wr_nj (by omega), h5, npt_0 P n t hw0]
    · rw [wr_nj (by omega), h6, rgs_0 P n t hw0]
  · have ed := dn_w P n t hw0
    have er := rom_w P n t hw0
    have hdl := (dn_le P n t).1
    have hdm := (dn_le P n t).2
    have hdl' := (dn_le P (n + 1) t).1
    have hromle : rom P n t ≤ 61 := by
      rw [er]; have := (tkw_ge (pSz P t) (P (5 + t) - dn P n t) (dn P n t) (wid P n t + 1)).2.2; omega
    have hc := hL.2.2.1 t ht
    simp (disch := omega) only [wr_cj, wr_nj, rng_in, rng_out, zN_lit, zN_add, zN_mul, zN_sub, zN_ltT, zN_ltF, zN_leT, zN_leF, zN_eqT, zN_eqF, zN_lt, zN_le, zN_eq, zN_nat, zN_oobF, Option.bind_some, ↓reduceIte, Nat.one_mul, Nat.zero_add, Nat.add_zero, Nat.reduceAdd, Nat.reduceMul, Nat.reduceSub, Nat.reduceLT, Nat.reduceLeDiff, Nat.reduceEqDiff, reduceCtorEq, true_or, or_true, false_or, or_false, true_and, and_true, false_and, and_false, not_true_eq_false, not_false_eq_true, h1, hc]
    rw [tp57 ht hb hn hcnt (hP.2.1 t ht).2 (P (5 + t) - dn P n t) (dn P n t) (wid P n t + 1) zFU M (hL.2.2.2.1 t ht) rfl (by rw [zFU_eq]; omega) hdl (by omega), ← ed, ← er]
    have e98 : ∀ MM : zMM, fX4_takePart_98 b (zN t) (zN n) (zN frm) (zN (wid P n t)) (zN (P (5 + t))) (zN (dn P n t)) (zN (rom P n t)) (zN (dn P (n + 1) t)) MM
        = fX4_takePart_114 b (zN t) (zN n) (zN frm) (zN (wid P n t)) (zN (dn P n t)) (zN (dn P (n + 1) t)) (zN (rg P n t)) MM := by
      intro MM
      unfold fX4_takePart_98 rg
      by_cases hq : dn P (n + 1) t < P (5 + t)
      · rw [if_pos hq]; simp (disch := omega) only [wr_cj, wr_nj, rng_in, rng_out, zN_lit, zN_add, zN_mul, zN_sub, zN_ltT, zN_ltF, zN_leT, zN_leF, zN_eqT, zN_eqF, zN_lt, zN_le, zN_eq, zN_nat, zN_oobF, Option.bind_some, ↓reduceIte, Nat.one_mul, Nat.zero_add, Nat.add_zero, Nat.reduceAdd, Nat.reduceMul, Nat.reduceSub, Nat.reduceLT, Nat.reduceLeDiff, Nat.reduceEqDiff, reduceCtorEq, true_or, or_true, false_or, or_false, true_and, and_true, false_and, and_false, not_true_eq_false, not_false_eq_true]
      · rw [if_neg hq]; simp (disch := omega) only [wr_cj, wr_nj, rng_in, rng_out, zN_lit, zN_add, zN_mul, zN_sub, zN_ltT, zN_ltF, zN_leT, zN_leF, zN_eqT, zN_eqF, zN_lt, zN_le, zN_eq, zN_nat, zN_oobF, Option.bind_some, ↓reduceIte, Nat.one_mul, Nat.zero_add, Nat.add_zero, Nat.reduceAdd, Nat.reduceMul, Nat.reduceSub, Nat.reduceLT, Nat.reduceLeDiff, Nat.reduceEqDiff, reduceCtorEq, true_or, or_true, false_or, or_false, true_and, and_true, false_and, and_false, not_true_eq_false, not_false_eq_true]
    rw [e98]
    unfold fX4_takePart_114
    simp (disch := omega) only [wr_cj, wr_nj, rng_in, rng_out, zN_lit, zN_add, zN_mul, zN_sub, zN_ltT, zN_ltF, zN_leT, zN_leF, zN_eqT, zN_eqF, zN_lt, zN_le, zN_eq, zN_nat, zN_oobF, Option.bind_some, ↓reduceIte, Nat.one_mul, Nat.zero_add, Nat.add_zero, Nat.reduceAdd, Nat.reduceMul, Nat.reduceSub, Nat.reduceLT, Nat.reduceLeDiff, Nat.reduceEqDiff, reduceCtorEq, true_or, or_true, false_or, or_false, true_and, and_true, false_and, and_false, not_true_eq_false, not_false_eq_true]
    refine ⟨_, rfl, ?_, ?_⟩
    · refine ⟨?_, ?_, ?_, ?_, ?_, ?_⟩
      · simp (disch := omega) only [wr_cj, wr_nj, rng_in, rng_out, zN_lit, zN_add, zN_mul, zN_sub, zN_ltT, zN_ltF, zN_leT, zN_leF, zN_eqT, zN_eqF, zN_lt, zN_le, zN_eq, zN_nat, zN_oobF, Option.bind_some, ↓reduceIte, Nat.one_mul, Nat.zero_add, Nat.add_zero, Nat.reduceAdd, Nat.reduceMul, Nat.reduceSub, Nat.reduceLT, Nat.reduceLeDiff, Nat.reduceEqDiff, reduceCtorEq, true_or, or_true, false_or, or_false, true_and, and_true, false_and, and_false, not_true_eq_false, not_false_eq_true]
      · intro m hm
        by_cases e : m = n
        · subst e; simp (disch := omega) only [wr_cj, wr_nj, rng_in, rng_out, zN_lit, zN_add, zN_mul, zN_sub, zN_ltT, zN_ltF, zN_leT, zN_leF, zN_eqT, zN_eqF, zN_lt, zN_le, zN_eq, zN_nat, zN_oobF, Option.bind_some, ↓reduceIte, Nat.one_mul, Nat.zero_add, Nat.add_zero, Nat.reduceAdd, Nat.reduceMul, Nat.reduceSub, Nat.reduceLT, Nat.reduceLeDiff, Nat.reduceEqDiff, reduceCtorEq, true_or, or_true, false_or, or_false, true_and, and_true, false_and, and_false, not_true_eq_false, not_false_eq_true]
        · have := h2 m (by omega); simp (disch := omega) only [wr_cj, wr_nj, rng_in, rng_out, zN_lit, zN_add, zN_mul, zN_sub, zN_ltT, zN_ltF, zN_leT, zN_leF, zN_eqT, zN_eqF, zN_lt, zN_le, zN_eq, zN_nat, zN_oobF, Option.bind_some, ↓reduceIte, Nat.one_mul, Nat.zero_add, Nat.add_zero, Nat.reduceAdd, Nat.reduceMul, Nat.reduceSub, Nat.reduceLT, Nat.reduceLeDiff, Nat.reduceEqDiff, reduceCtorEq, true_or, or_true, false_or, or_false, true_and, and_true, false_and, and_false, not_true_eq_false, not_false_eq_true, this]
      · intro m hm hmw
        by_cases e : m = n
        · subst e; have := hf hw0; subst this; simp (disch := omega) only [wr_cj, wr_nj, rng_in, rng_out, zN_lit, zN_add, zN_mul, zN_sub, zN_ltT, zN_ltF, zN_leT, zN_leF, zN_eqT, zN_eqF, zN_lt, zN_le, zN_eq, zN_nat, zN_oobF, Option.bind_some, ↓reduceIte, Nat.one_mul, Nat.zero_add, Nat.add_zero, Nat.reduceAdd, Nat.reduceMul, Nat.reduceSub, Nat.reduceLT, Nat.reduceLeDiff, Nat.reduceEqDiff, reduceCtorEq, true_or, or_true, false_or, or_false, true_and, and_true, false_and, and_false, not_true_eq_false, not_false_eq_true]
        · have := h3 m (by omega) hmw; simp (disch := omega) only [wr_cj, wr_nj, rng_in, rng_out, zN_lit, zN_add, zN_mul, zN_sub, zN_ltT, zN_ltF, zN_leT, zN_leF, zN_eqT, zN_eqF, zN_lt, zN_le, zN_eq, zN_nat, zN_oobF, Option.bind_some, ↓reduceIte, Nat.one_mul, Nat.zero_add, Nat.add_zero, Nat.reduceAdd, Nat.reduceMul, Nat.reduceSub, Nat.reduceLT, Nat.reduceLeDiff, Nat.reduceEqDiff, reduceCtorEq, true_or, or_true, false_or, or_false, true_and, and_true, false_and, and_false, not_true_eq_false, not_false_eq_true, this]
      · intro m k hm a c
        by_cases e : m = n
        · subst e; simp (disch := omega) only [wr_cj, wr_nj, rng_in, rng_out, zN_lit, zN_add, zN_mul, zN_sub, zN_ltT, zN_ltF, zN_leT, zN_leF, zN_eqT, zN_eqF, zN_lt, zN_le, zN_eq, zN_nat, zN_oobF, Option.bind_some, ↓reduceIte, Nat.one_mul, Nat.zero_add, Nat.add_zero, Nat.reduceAdd, Nat.reduceMul, Nat.reduceSub, Nat.reduceLT, Nat.reduceLeDiff, Nat.reduceEqDiff, reduceCtorEq, true_or, or_true, false_or, or_false, true_and, and_true, false_and, and_false, not_true_eq_false, not_false_eq_true]
        · have := h4 m k (by omega) a c
          have : k < dn P n t := Nat.lt_of_lt_of_le c (dn_mono P t (by omega))
          simp (disch := omega) only [wr_cj, wr_nj, rng_in, rng_out, zN_lit, zN_add, zN_mul, zN_sub, zN_ltT, zN_ltF, zN_leT, zN_leF, zN_eqT, zN_eqF, zN_lt, zN_le, zN_eq, zN_nat, zN_oobF, Option.bind_some, ↓reduceIte, Nat.one_mul, Nat.zero_add, Nat.add_zero, Nat.reduceAdd, Nat.reduceMul, Nat.reduceSub, Nat.reduceLT, Nat.reduceLeDiff, Nat.reduceEqDiff, reduceCtorEq, true_or, or_true, false_or, or_false, true_and, and_true, false_and, and_false, not_true_eq_false, not_false_eq_true, *]
      · simp (disch := omega) only [wr_cj, wr_nj, rng_in, rng_out, zN_lit, zN_add, zN_mul, zN_sub, zN_ltT, zN_ltF, zN_leT, zN_leF, zN_eqT, zN_eqF, zN_lt, zN_le, zN_eq, zN_nat, zN_oobF, Option.bind_some, ↓reduceIte, Nat.one_mul, Nat.zero_add, Nat.add_zero, Nat.reduceAdd, Nat.reduceMul, Nat.reduceSub, Nat.reduceLT, Nat.reduceLeDiff, Nat.reduceEqDiff, reduceCtorEq, true_or, or_true, false_or, or_false, true_and, and_true, false_and, and_false, not_true_eq_false, not_false_eq_true, h5]; rw [npt, if_neg hw0]
      · simp (disch := omega) only [wr_cj, wr_nj, rng_in, rng_out, zN_lit, zN_add, zN_mul, zN_sub, zN_ltT, zN_ltF, zN_leT, zN_leF, zN_eqT, zN_eqF, zN_lt, zN_le, zN_eq, zN_nat, zN_oobF, Option.bind_some, ↓reduceIte, Nat.one_mul, Nat.zero_add, Nat.add_zero, Nat.reduceAdd, Nat.reduceMul, Nat.reduceSub, Nat.reduceLT, Nat.reduceLeDiff, Nat.reduceEqDiff, reduceCtorEq, true_or, or_true, false_or, or_false, true_and, and_true, false_and, and_false, not_true_eq_false, not_false_eq_true, h6]; rw [rgs]
    · have := (fr_rng (v := zN n) (lo := dn P n t) (hi := dn P (n + 1) t) (c := 125 + t) (fr_refl (CStS t) M) (fun j _ _ => by unfold CStS; omega))
      refine fr_wr (fr_wr (fr_wr (fr_wr (fr_wr (fr_wr (fr_wr (fr_wr this ?_) ?_) ?_) ?_) ?_) ?_) ?_) ?_ <;> (unfold CStS; omega)
theorem isLeft4 {P : Nat → Nat} {b t d : Nat} {M : zMM} (hL : Leaf M b P) (ht : t < 3) (hc : P (5 + t) ≤ 70) (hd : d ≤ P (5 + t)) (h : M.1 121 t = zN d) :
    fX4_isLeft b (zN t) M = some (zN (if d < P (5 + t) then 1 else 0), M) := by
  unfold fX4_isLeft
  have hc' := hL.2.2.1 t ht
  by_cases e : d < P (5 + t)
  · rw [if_pos e]; simp (disch := omega) only [wr_cj, wr_nj, rng_in, rng_out, zN_lit, zN_add, zN_mul, zN_sub, zN_ltT, zN_ltF, zN_leT, zN_leF, zN_eqT, zN_eqF, zN_lt, zN_le, zN_eq, zN_nat, zN_oobF, Option.bind_some, ↓reduceIte, Nat.one_mul, Nat.zero_add, Nat.add_zero, Nat.reduceAdd, Nat.reduceMul, Nat.reduceSub, Nat.reduceLT, Nat.reduceLeDiff, Nat.reduceEqDiff, reduceCtorEq, true_or, or_true, false_or, or_false, true_and, and_true, false_and, and_false, not_true_eq_false, not_false_eq_true, h, hc']
  · rw [if_neg e]; simp (disch := omega) only [wr_cj, wr_nj, rng_in, rng_out, zN_lit, zN_add, zN_mul, zN_sub, zN_ltT, zN_ltF, zN_leT, zN_leF, zN_eqT, zN_eqF, zN_lt, zN_le, zN_eq, zN_nat, zN_oobF, Option.bind_some, ↓reduceIte, Nat.one_mul, Nat.zero_add, Nat.add_zero, Nat.reduceAdd, Nat.reduceMul, Nat.reduceSub, Nat.reduceLT, Nat.reduceLeDiff, Nat.reduceEqDiff, reduceCtorEq, true_or, or_true, false_or, or_false, true_and, and_true, false_and, and_false, not_true_eq_false, not_false_eq_true, h, hc']
theorem setLine4_head {P : Nat → Nat} (hP : Good P) {b n : Nat} {M : zMM} (hL : Leaf M b P) (h0 : M.1 121 0 = zN (dn P n 0)) (h1 : M.1 121 1 = zN (dn P n 1)) (h2 : M.1 121 2 = zN (dn P n 2)) :
    fX4_setLine b (zN n) (zN (if n % P 1 < P 2 then 1 else 0)) M = fX4_setLine_172 b (zN n) (zN (if n % P 1 < P 2 then 1 else 0)) (zN (wid P n 1)) (zN (mcO P (dn P n) n)) (zN (wid P n 2)) (zN (wid P n 0)) M := by
  have c0 := (hP.2.1 0 (by omega)).1
  have c1 := (hP.2.1 1 (by omega)).1
  have c2 := (hP.2.1 2 (by omega)).1
  have d0 := (dn_le P n 0).1
  have d1 := (dn_le P n 1).1
  have d2 := (dn_le P n 2).1
  obtain ⟨hp, -⟩ := hP
  have i0 := isLeft4 hL (by omega) c0 d0 h0
  have i1 := isLeft4 hL (by omega) c1 d1 h1
  have i2 := isLeft4 hL (by omega) c2 d2 h2
  obtain ⟨⟨l0, l1, l2, l3, l4, l5, l6⟩, -⟩ := hL
  have eI : lI P (dn P n) = decide (dn P n 1 < P 6) := rfl
  have eO : lO P (dn P n) = decide (dn P n 2 < P 7) := rfl
  have eM : lM P (dn P n) n = (decide (dn P n 0 < P 5) && !(decide (n % P 1 < P 2) && (lI P (dn P n) || lO P (dn P n)))) := rfl
  simp only [Nat.reduceAdd] at i0 i1 i2 c0 c1 c2 d0 d1 d2
  unfold fX4_setLine wid wd wdM wdO mcO wdI
  simp only [zN_lit, i0, i1, i2, Option.bind_some]
  by_cases a : dn P n 0 < P 5 <;> by_cases b : dn P n 1 < P 6 <;> by_cases c : dn P n 2 < P 7 <;> by_cases e : n % P 1 < P 2 <;>
    simp (disch := omega) only [eI, eO, eM, a, b, c, e, fX4_setLine_39, fX4_setLine_43, fX4_setLine_44, fX4_setLine_89, fX4_setLine_91, fX4_setLine_107, fX4_setLine_136, fX4_setLine_138, fX4_setLine_169, l0, l1, l2, l3, l4, l5, decide_true, decide_false, Bool.and_true, Bool.true_and, Bool.false_and, Bool.and_false, Bool.not_true, Bool.not_false, Bool.or_true, Bool.true_or, Bool.false_or, Bool.or_false, if_true, if_false, zN_div, Nat.sub_zero, Bool.false_eq_true, wr_cj, wr_nj, rng_in, rng_out, zN_lit, zN_add, zN_mul, zN_sub, zN_ltT, zN_ltF, zN_leT, zN_leF, zN_eqT, zN_eqF, zN_lt, zN_le, zN_eq, zN_nat, zN_oobF, Option.bind_some, ↓reduceIte, Nat.one_mul, Nat.zero_add, Nat.add_zero, Nat.reduceAdd, Nat.reduceMul, Nat.reduceSub, Nat.reduceLT, Nat.reduceLeDiff, Nat.reduceEqDiff, reduceCtorEq, true_or, or_true, false_or, or_false, true_and, and_true, false_and, and_false, not_true_eq_false, not_false_eq_true] 
theorem setLine4_ok {P : Nat → Nat} (hP : Good P) {b n : Nat} {M : zMM} (hL : Leaf M b P) (hb : b ≤ 110) (hn : n < 210) (h : ∀ t, t < 3 → CSt P n t M) :
    ∃ M', fX4_setLine b (zN n) (zN (if n % P 1 < P 2 then 1 else 0)) M = some M' ∧ (∀ t, t < 3 → CSt P (n + 1) t M') ∧ fr (fun c _ => 121 ≤ c ∧ c ≤ 147) M M' := by
  rw [setLine4_head hP hL (h 0 (by omega)).1 (h 1 (by omega)).1 (h 2 (by omega)).1]
  unfold fX4_setLine_172
  have lf : ∀ {t : Nat} {M M' : zMM}, t < 3 → fr (CStS t) M M' → Leaf M b P → Leaf M' b P := by
    intro t M M' ht hf hl
    exact Leaf_eq hl (fun c j h1 h2 => hf.1 c j (by unfold CStS; omega))
  have cf : ∀ {t t' i : Nat} {M M' : zMM}, t < 3 → t' < 3 → t ≠ t' → fr (CStS t) M M' → CSt P i t' M → CSt P i t' M' := by
    intro t t' i M M' ht ht' hne hf hl
    exact CSt_fr hl (fun c j h1 => hf.1 c j (by unfold CStS at h1 ⊢; omega))
  have ff : ∀ {t : Nat} {M M' : zMM}, t < 3 → fr (CStS t) M M' → fr (fun c _ => 121 ≤ c ∧ c ≤ 147) M M' := by
    intro t M M' ht hf
    exact fr_mono hf (fun c j hh => by unfold CStS at hh; omega)
  obtain ⟨M1, e1, s1, f1⟩ := takePart_ok hP hL hb (t := 1) (by omega) hn (frm := 0) (fun _ => rfl) (h 1 (by omega))
  have hL1 := lf (by omega) f1 hL
  obtain ⟨M2, e2, s2, f2⟩ := takePart_ok hP hL1 hb (t := 0) (by omega) hn (frm := mcO P (dn P n) n) (fun _ => rfl) (cf (by omega) (by omega) (by omega) f1 (h 0 (by omega)))
  have hL2 := lf (by omega) f2 hL1
  obtain ⟨M3, e3, s3, f3⟩ := takePart_ok hP hL2 hb (t := 2) (by omega) hn (frm := P 0 - wid P n 2) (fun _ => rfl) (cf (by omega) (by omega) (by omega) f2 (cf (by omega) (by omega) (by omega) f1 (h 2 (by omega))))
  refine ⟨M3, ?_, ?_, fr_trans (fr_trans (ff (by omega) f1) (ff (by omega) f2)) (ff (by omega) f3)⟩
  · have hw := wid_all hP n 2
    have hp := hP.1
    have hw' : wid P n 2 ≤ P 0 := by have := wd_all hP (dn P n) n 2; unfold wid; omega
    simp only [zN_lit, e1, e2, Option.bind_some]
    rw [hL2.1.1, zN_sub hw', e3]
    rfl
  · intro t ht
    have : t = 0 ∨ t = 1 ∨ t = 2 := by omega
    rcases this with rfl | rfl | rfl
    · exact cf (by omega) (by omega) (by omega) f3 s2
    · exact cf (by omega) (by omega) (by omega) f3 (cf (by omega) (by omega) (by omega) f2 s1)
    · exact s3
theorem mod_next (n H : Nat) (h : 0 < H) : (n + 1) % H = if H ≤ n % H + 1 then 0 else n % H + 1 := by
  have h1 := Nat.mod_lt n h
  by_cases e : H ≤ n % H + 1
  · rw [if_pos e, Nat.add_mod]
    have e1 : n % H = H - 1 := by omega
    by_cases e2 : H = 1
    · rw [e2, Nat.mod_one]
    · rw [Nat.mod_eq_of_lt (show 1 < H by omega), e1, show H - 1 + 1 = H by omega, Nat.mod_self]
  · rw [if_neg e, Nat.add_mod, Nat.mod_eq_of_lt (show 1 < H by omega), Nat.mod_eq_of_lt (by omega)]
def CSet (P : Nat → Nat) (M : zMM) : Prop := (∀ t, t < 3 → CSt P (NL P) t M) ∧ M.1 120 0 = zN (NL P)
theorem set38_ok {P : Nat → Nat} (hP : Good P) {b : Nat} (hb : b ≤ 110) : ∀ f n fuel M, NL P - n = f → n ≤ NL P → f < fuel → Leaf M b P → (∀ t, t < 3 → CSt P n t M) →
    ∃ M', fX4_set_38 b fuel (zN (n % P 1)) (zN n) M = some M' ∧ CSet P M' ∧ fr (fun c _ => 120 ≤ c ∧ c ≤ 147) M M' := by
  intro f
  have hNL := NL_le P
  have c0 := (hP.2.1 0 (by omega)).1
  have c1 := (hP.2.1 1 (by omega)).1
  have c2 := (hP.2.1 2 (by omega)).1
  induction f with
  | zero =>
    intro n fuel M hf hn hfu hL h
    have en : n = NL P := by omega
    subst en
    obtain ⟨fu, rfl⟩ : ∃ q, fuel = q + 1 := ⟨fuel - 1, by omega⟩
    have hnl := NL_not hP
    unfold lfp at hnl
    have i0 := isLeft4 hL (by omega) c0 (dn_le P (NL P) 0).1 (h 0 (by omega)).1
    have i1 := isLeft4 hL (by omega) c1 (dn_le P (NL P) 1).1 (h 1 (by omega)).1
    have i2 := isLeft4 hL (by omega) c2 (dn_le P (NL P) 2).1 (h 2 (by omega)).1
    rw [if_neg (by simp only [Nat.reduceAdd]; omega)] at i0 i1 i2
    have fin : CSet P (wr M 120 0 (zN (NL P))) := by
      refine ⟨fun t ht => CSt_fr (h t ht) (fun c j hc => ?_), by rw [wr_cj]⟩
      rw [wr_nj (by unfold CStS at hc; omega)]
    refine ⟨wr M 120 0 (zN (NL P)), ?_, fin, fr_wr (fr_refl _ _) (by omega)⟩
    unfold fX4_set_38
    by_cases e : 210 ≤ NL P
    · simp (disch := omega) only [wr_cj, wr_nj, rng_in, rng_out, zN_lit, zN_add, zN_mul, zN_sub, zN_ltT, zN_ltF, zN_leT, zN_leF, zN_eqT, zN_eqF, zN_lt, zN_le, zN_eq, zN_nat, zN_oobF, Option.bind_some, ↓reduceIte, Nat.one_mul, Nat.zero_add, Nat.add_zero, Nat.reduceAdd, Nat.reduceMul, Nat.reduceSub, Nat.reduceLT, Nat.reduceLeDiff, Nat.reduceEqDiff, reduceCtorEq, true_or, or_true, false_or, or_false, true_and, and_true, false_and, and_false, not_true_eq_false, not_false_eq_true]
    · simp (disch := omega) only [wr_cj, wr_nj, rng_in, rng_out, zN_lit, zN_add, zN_mul, zN_sub, zN_ltT, zN_ltF, zN_leT, zN_leF, zN_eqT, zN_eqF, zN_lt, zN_le, zN_eq, zN_nat, zN_oobF, Option.bind_some, ↓reduceIte, Nat.one_mul, Nat.zero_add, Nat.add_zero, Nat.reduceAdd, Nat.reduceMul, Nat.reduceSub, Nat.reduceLT, Nat.reduceLeDiff, Nat.reduceEqDiff, reduceCtorEq, true_or, or_true, false_or, or_false, true_and, and_true, false_and, and_false, not_true_eq_false, not_false_eq_true, i0, i1, i2]
  | succ f ih =>
    intro n fuel M hf hn hfu hL h
    obtain ⟨fu, rfl⟩ : ∃ q, fuel = q + 1 := ⟨fuel - 1, by omega⟩
    have hl := NL_lf (show n < NL P by omega)
    unfold lfp at hl
    have i0 := isLeft4 hL (by omega) c0 (dn_le P n 0).1 (h 0 (by omega)).1
    have i1 := isLeft4 hL (by omega) c1 (dn_le P n 1).1 (h 1 (by omega)).1
    have i2 := isLeft4 hL (by omega) c2 (dn_le P n 2).1 (h 2 (by omega)).1
    simp only [Nat.reduceAdd] at i0 i1 i2 c0 c1 c2
    have hp := hP.1
    obtain ⟨M1, e1, s1, f1⟩ := setLine4_ok hP hL hb (show n < 210 by omega) h
    have hL1 : Leaf M1 b P := Leaf_eq hL (fun c j h1 h2 => f1.1 c j (by omega))
    obtain ⟨M2, e2, s2, f2⟩ := ih (n + 1) fu M1 (by omega) (by omega) (by omega) hL1 s1
    refine ⟨M2, ?_, s2, fr_trans (fr_mono f1 (by intro c j hc; omega)) f2⟩
    have hm := Nat.mod_lt n (show 0 < P 1 by omega)
    have e72 : fX4_set_72 (fX4_set_38 b fu) b (zN (n % P 1)) (zN n) M = some M2 := by
      have l3 := hL.1.2.2.2.1
      have e88 : fX4_set_72 (fX4_set_38 b fu) b (zN (n % P 1)) (zN n) M = fX4_set_88 (fX4_set_38 b fu) b (zN (n % P 1)) (zN n) (zN (if n % P 1 < P 2 then 1 else 0)) (zN n) M := by
        unfold fX4_set_72
        by_cases e : n % P 1 < P 2
        · rw [if_pos e]; simp (disch := omega) only [wr_cj, wr_nj, rng_in, rng_out, zN_lit, zN_add, zN_mul, zN_sub, zN_ltT, zN_ltF, zN_leT, zN_leF, zN_eqT, zN_eqF, zN_lt, zN_le, zN_eq, zN_nat, zN_oobF, Option.bind_some, ↓reduceIte, Nat.one_mul, Nat.zero_add, Nat.add_zero, Nat.reduceAdd, Nat.reduceMul, Nat.reduceSub, Nat.reduceLT, Nat.reduceLeDiff, Nat.reduceEqDiff, reduceCtorEq, true_or, or_true, false_or, or_false, true_and, and_true, false_and, and_false, not_true_eq_false, not_false_eq_true, l3]
        · rw [if_neg e]; simp (disch := omega) only [wr_cj, wr_nj, rng_in, rng_out, zN_lit, zN_add, zN_mul, zN_sub, zN_ltT, zN_ltF, zN_leT, zN_leF, zN_eqT, zN_eqF, zN_lt, zN_le, zN_eq, zN_nat, zN_oobF, Option.bind_some, ↓reduceIte, Nat.one_mul, Nat.zero_add, Nat.add_zero, Nat.reduceAdd, Nat.reduceMul, Nat.reduceSub, Nat.reduceLT, Nat.reduceLeDiff, Nat.reduceEqDiff, reduceCtorEq, true_or, or_true, false_or, or_false, true_and, and_true, false_and, and_false, not_true_eq_false, not_false_eq_true, l3]
      rw [e88]
      unfold fX4_set_88
      rw [e1, Option.bind_some]
      have l1 := hL1.1.2.1
      rw [mod_next n (P 1) (by omega)] at e2
      by_cases e : P 1 ≤ n % P 1 + 1
      · rw [if_pos e] at e2; simp (disch := omega) only [wr_cj, wr_nj, rng_in, rng_out, zN_lit, zN_add, zN_mul, zN_sub, zN_ltT, zN_ltF, zN_leT, zN_leF, zN_eqT, zN_eqF, zN_lt, zN_le, zN_eq, zN_nat, zN_oobF, Option.bind_some, ↓reduceIte, Nat.one_mul, Nat.zero_add, Nat.add_zero, Nat.reduceAdd, Nat.reduceMul, Nat.reduceSub, Nat.reduceLT, Nat.reduceLeDiff, Nat.reduceEqDiff, reduceCtorEq, true_or, or_true, false_or, or_false, true_and, and_true, false_and, and_false, not_true_eq_false, not_false_eq_true, l1, fX4_set_108]; exact e2
      · rw [if_neg e] at e2; simp (disch := omega) only [wr_cj, wr_nj, rng_in, rng_out, zN_lit, zN_add, zN_mul, zN_sub, zN_ltT, zN_ltF, zN_leT, zN_leF, zN_eqT, zN_eqF, zN_lt, zN_le, zN_eq, zN_nat, zN_oobF, Option.bind_some, ↓reduceIte, Nat.one_mul, Nat.zero_add, Nat.add_zero, Nat.reduceAdd, Nat.reduceMul, Nat.reduceSub, Nat.reduceLT, Nat.reduceLeDiff, Nat.reduceEqDiff, reduceCtorEq, true_or, or_true, false_or, or_false, true_and, and_true, false_and, and_false, not_true_eq_false, not_false_eq_true, l1, fX4_set_108]; exact e2
    unfold fX4_set_38
    by_cases a : dn P n 0 < P 5
    · simp (disch := omega) only [wr_cj, wr_nj, rng_in, rng_out, zN_lit, zN_add, zN_mul, zN_sub, zN_ltT, zN_ltF, zN_leT, zN_leF, zN_eqT, zN_eqF, zN_lt, zN_le, zN_eq, zN_nat, zN_oobF, Option.bind_some, ↓reduceIte, Nat.one_mul, Nat.zero_add, Nat.add_zero, Nat.reduceAdd, Nat.reduceMul, Nat.reduceSub, Nat.reduceLT, Nat.reduceLeDiff, Nat.reduceEqDiff, reduceCtorEq, true_or, or_true, false_or, or_false, true_and, and_true, false_and, and_false, not_true_eq_false, not_false_eq_true, i0, a, e72]
    · by_cases b : dn P n 1 < P 6
      · simp (disch := omega) only [wr_cj, wr_nj, rng_in, rng_out, zN_lit, zN_add, zN_mul, zN_sub, zN_ltT, zN_ltF, zN_leT, zN_leF, zN_eqT, zN_eqF, zN_lt, zN_le, zN_eq, zN_nat, zN_oobF, Option.bind_some, ↓reduceIte, Nat.one_mul, Nat.zero_add, Nat.add_zero, Nat.reduceAdd, Nat.reduceMul, Nat.reduceSub, Nat.reduceLT, Nat.reduceLeDiff, Nat.reduceEqDiff, reduceCtorEq, true_or, or_true, false_or, or_false, true_and, and_true, false_and, and_false, not_true_eq_false, not_false_eq_true, i0, i1, a, b, e72]
      · have c : dn P n 2 < P 7 := by omega
        simp (disch := omega) only [wr_cj, wr_nj, rng_in, rng_out, zN_lit, zN_add, zN_mul, zN_sub, zN_ltT, zN_ltF, zN_leT, zN_leF, zN_eqT, zN_eqF, zN_lt, zN_le, zN_eq, zN_nat, zN_oobF, Option.bind_some, ↓reduceIte, Nat.one_mul, Nat.zero_add, Nat.add_zero, Nat.reduceAdd, Nat.reduceMul, Nat.reduceSub, Nat.reduceLT, Nat.reduceLeDiff, Nat.reduceEqDiff, reduceCtorEq, true_or, or_true, false_or, or_false, true_and, and_true, false_and, and_false, not_true_eq_false, not_false_eq_true, i0, i1, i2, a, b, c, e72]
theorem fX4_set_ok {P : Nat → Nat} (hP : Good P) {b : Nat} (hb : b ≤ 110) {M : zMM} (hL : Leaf M b P) :
    ∃ M', fX4_set b M = some M' ∧ CSet P M' ∧ fr (fun c _ => 120 ≤ c ∧ c ≤ 147) M M' := by
  unfold fX4_set
  have hz : ∃ M0, fX4_set_2 b zFU 0 M = fX4_set_38 b zFU (zN 0) (zN 0) M0 ∧ (∀ t, t < 3 → CSt P 0 t M0) ∧ fr (fun c _ => 120 ≤ c ∧ c ≤ 147) M M0 := by
    refine ⟨(wr (wr (wr (wr (wr (wr (wr (wr (wr M 121 0 (zN 0)) 122 0 (zN 0)) 123 0 (zN 0)) 121 1 (zN 0)) 122 1 (zN 0)) 123 1 (zN 0)) 121 2 (zN 0)) 122 2 (zN 0)) 123 2 (zN 0)), ?_, ?_, ?_⟩
    · have gen : ∀ f, fX4_set_2 b (f + 1 + 1 + 1 + 1) 0 M = fX4_set_38 b zFU (zN 0) (zN 0) (wr (wr (wr (wr (wr (wr (wr (wr (wr M 121 0 (zN 0)) 122 0 (zN 0)) 123 0 (zN 0)) 121 1 (zN 0)) 122 1 (zN 0)) 123 1 (zN 0)) 121 2 (zN 0)) 122 2 (zN 0)) 123 2 (zN 0)) := by
        intro f
        simp (disch := omega) only [wr_cj, wr_nj, rng_in, rng_out, zN_lit, zN_add, zN_mul, zN_sub, zN_ltT, zN_ltF, zN_leT, zN_leF, zN_eqT, zN_eqF, zN_lt, zN_le, zN_eq, zN_nat, zN_oobF, Option.bind_some, ↓reduceIte, Nat.one_mul, Nat.zero_add, Nat.add_zero, Nat.reduceAdd, Nat.reduceMul, Nat.reduceSub, Nat.reduceLT, Nat.reduceLeDiff, Nat.reduceEqDiff, reduceCtorEq, true_or, or_true, false_or, or_false, true_and, and_true, false_and, and_false, not_true_eq_false, not_false_eq_true, fX4_set_2]
      exact gen 2147483644
    · intro t ht
      have e : t = 0 ∨ t = 1 ∨ t = 2 := by omega
      rcases e with rfl | rfl | rfl <;> refine ⟨?_, fun m hm => absurd hm (by omega), fun m hm => absurd hm (by omega), fun m k hm => absurd hm (by omega), ?_, ?_⟩ <;> simp (disch := omega) only [wr_cj, wr_nj, rng_in, rng_out, zN_lit, zN_add, zN_mul, zN_sub, zN_ltT, zN_ltF, zN_leT, zN_leF, zN_eqT, zN_eqF, zN_lt, zN_le, zN_eq, zN_nat, zN_oobF, Option.bind_some, ↓reduceIte, Nat.one_mul, Nat.zero_add, Nat.add_zero, Nat.reduceAdd, Nat.reduceMul, Nat.reduceSub, Nat.reduceLT, Nat.reduceLeDiff, Nat.reduceEqDiff, reduceCtorEq, true_or, or_true, false_or, or_false, true_and, and_true, false_and, and_false, not_true_eq_false, not_false_eq_true, dn, npt, rgs]
    · repeat (refine fr_wr ?_ (by omega))
      exact fr_refl _ _
  obtain ⟨M0, e0, s0, f0⟩ := hz
  have hL0 : Leaf M0 b P := Leaf_eq hL (fun c j h1 h2 => f0.1 c j (by omega))
  obtain ⟨M1, e1, s1, f1⟩ := set38_ok hP hb (NL P) 0 zFU M0 rfl (Nat.zero_le _) (by have := NL_le P; rw [zFU_eq]; omega) hL0 s0
  refine ⟨M1, ?_, s1, fr_trans f0 f1⟩
  rw [e0]
  rw [Nat.zero_mod] at e1
  exact e1
