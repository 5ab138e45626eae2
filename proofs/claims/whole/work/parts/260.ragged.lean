/-! the most ragged part -/
def rS (P : Nat → Nat) (n t : Nat) (s : Nat × Nat × Nat) : Nat × Nat × Nat := if s.1 < rg P n t then (rg P n t, n, t) else s
def rAll (P : Nat → Nat) : Nat → Nat × Nat × Nat
  | 0 => (0, 0, 0)
  | n + 1 => rS P n 2 (rS P n 1 (rS P n 0 (rAll P n)))
def mS (P : Nat → Nat) (m t : Nat) (s : Nat × Nat × Nat) : Nat × Nat × Nat := if rg P m t = 0 then s else if s.1 = 0 then (rg P m t, m, t) else if s.1 < rg P m t then (rg P m t, m, t) else if rg P m t = s.1 ∧ (m < s.2.1 ∨ (m = s.2.1 ∧ t < s.2.2)) then (rg P m t, m, t) else s
def mF (P : Nat → Nat) : List (Nat × Nat) → Nat × Nat × Nat → Nat × Nat × Nat
  | [], s => s
  | p :: L, s => mF P L (mS P p.1 p.2 s)
theorem mF_app (P : Nat → Nat) : ∀ L L' s, mF P (L ++ L') s = mF P L' (mF P L s) := by
  intro L
  induction L with
  | nil => intro L' s; rfl
  | cons p L ih => intro L' s; exact ih L' _
theorem mF_one (P : Nat → Nat) (n t : Nat) (s : Nat × Nat × Nat) : mF P (if wid P n t = 0 then [] else [(n, t)]) s = mS P n t s := by
  by_cases h : wid P n t = 0
  · rw [if_pos h]
    have : mS P n t s = s := by unfold mS; rw [if_pos (rg_0 P n t h)]
    rw [this]; rfl
  · rw [if_neg h]; rfl
set_option maxHeartbeats 16000000 in
theorem r_lineA (a b v n m0 t0 : Nat) (h : v = 0 ∨ m0 < n) :
    (fun (s : Nat × Nat × Nat) => if a = 0 then s else if s.1 = 0 then (a, n, 0) else if s.1 < a then (a, n, 0) else if a = s.1 ∧ (n < s.2.1 ∨ (n = s.2.1 ∧ 0 < s.2.2)) then (a, n, 0) else s) ((fun (s : Nat × Nat × Nat) => if b = 0 then s else if s.1 = 0 then (b, n, 1) else if s.1 < b then (b, n, 1) else if b = s.1 ∧ (n < s.2.1 ∨ (n = s.2.1 ∧ 1 < s.2.2)) then (b, n, 1) else s) (v, m0, t0))
    = (fun (s : Nat × Nat × Nat) => if s.1 < b then (b, n, 1) else s) ((fun (s : Nat × Nat × Nat) => if s.1 < a then (a, n, 0) else s) (v, m0, t0)) := by
  rcases Nat.lt_trichotomy v a with x1 | x1 | x1 <;> rcases Nat.lt_trichotomy v b with x2 | x2 | x2 <;> rcases Nat.lt_trichotomy a b with x3 | x3 | x3 <;> (try (exfalso; omega)) <;> rcases Nat.eq_zero_or_pos v with y1 | y1 <;> rcases Nat.eq_zero_or_pos a with y2 | y2 <;> rcases Nat.eq_zero_or_pos b with y3 | y3 <;> first | (exfalso; omega) | (simp (disch := omega) only [if_pos, if_neg, true_and, and_true, Nat.lt_irrefl, false_or, or_true, Nat.zero_lt_one, if_true])
theorem r_lineB (c v n m0 t0 : Nat) (h : v = 0 ∨ m0 < n ∨ (m0 = n ∧ t0 ≤ 1)) :
    (fun (s : Nat × Nat × Nat) => if c = 0 then s else if s.1 = 0 then (c, n, 2) else if s.1 < c then (c, n, 2) else if c = s.1 ∧ (n < s.2.1 ∨ (n = s.2.1 ∧ 2 < s.2.2)) then (c, n, 2) else s) (v, m0, t0) = (fun (s : Nat × Nat × Nat) => if s.1 < c then (c, n, 2) else s) (v, m0, t0) := by
  rcases Nat.lt_trichotomy v c with x1 | x1 | x1 <;> rcases Nat.eq_zero_or_pos v with y1 | y1 <;> rcases Nat.eq_zero_or_pos c with y2 | y2 <;> first | (exfalso; omega) | (simp (disch := omega) only [if_pos, if_neg])
theorem rAll_b (P : Nat → Nat) : ∀ n, (rAll P n).1 = 0 ∨ ((rAll P n).2.1 < n ∧ (rAll P n).2.2 < 3 ∧ rg P (rAll P n).2.1 (rAll P n).2.2 = (rAll P n).1) := by
  intro n
  induction n with
  | zero => exact Or.inl rfl
  | succ n ih =>
    have st : ∀ t s, t < 3 → (s.1 = 0 ∨ (s.2.1 < n + 1 ∧ s.2.2 < 3 ∧ rg P s.2.1 s.2.2 = s.1)) → ((rS P n t s).1 = 0 ∨ ((rS P n t s).2.1 < n + 1 ∧ (rS P n t s).2.2 < 3 ∧ rg P (rS P n t s).2.1 (rS P n t s).2.2 = (rS P n t s).1)) := by
      intro t s ht h
      unfold rS
      by_cases q : s.1 < rg P n t
      · rw [if_pos q]; exact Or.inr ⟨Nat.lt_succ_self n, ht, rfl⟩
      · rw [if_neg q]; exact h
    rw [rAll]
    refine st 2 _ (by omega) (st 1 _ (by omega) (st 0 _ (by omega) ?_))
    rcases ih with h | h
    · exact Or.inl h
    · exact Or.inr ⟨by omega, h.2⟩
theorem rAll_eq (P : Nat → Nat) : ∀ n, mF P (pl P n) (0, 0, 0) = rAll P n := by
  intro n
  induction n with
  | zero => rfl
  | succ n ih =>
    rw [pl, lnl, mF_app, mF_app, mF_app, mF_one, mF_one, mF_one, ih, rAll]
    have hb := rAll_b P n
    revert hb
    generalize rAll P n = s0
    obtain ⟨v, m0, t0⟩ := s0
    intro hb
    have hh : v = 0 ∨ m0 < n := by
      rcases hb with h | h
      · exact Or.inl h
      · exact Or.inr h.1
    have eA : mS P n 0 (mS P n 1 (v, m0, t0)) = rS P n 1 (rS P n 0 (v, m0, t0)) := r_lineA (rg P n 0) (rg P n 1) v n m0 t0 hh
    rw [eA]
    have hy : (rS P n 1 (rS P n 0 (v, m0, t0))).1 = 0 ∨ (rS P n 1 (rS P n 0 (v, m0, t0))).2.1 < n ∨ ((rS P n 1 (rS P n 0 (v, m0, t0))).2.1 = n ∧ (rS P n 1 (rS P n 0 (v, m0, t0))).2.2 ≤ 1) := by
      have st : ∀ t s, t ≤ 1 → (s.1 = 0 ∨ s.2.1 < n ∨ (s.2.1 = n ∧ s.2.2 ≤ 1)) → ((rS P n t s).1 = 0 ∨ (rS P n t s).2.1 < n ∨ ((rS P n t s).2.1 = n ∧ (rS P n t s).2.2 ≤ 1)) := by
        intro t s ht h
        unfold rS
        by_cases q : s.1 < rg P n t
        · rw [if_pos q]; exact Or.inr (Or.inr ⟨rfl, ht⟩)
        · rw [if_neg q]; exact h
      exact st 1 _ (by omega) (st 0 _ (by omega) (by
        rcases hh with h | h
        · exact Or.inl h
        · exact Or.inr (Or.inl h)))
    revert hy
    generalize rS P n 1 (rS P n 0 (v, m0, t0)) = s1
    obtain ⟨v1, m1, t1⟩ := s1
    intro hy
    exact r_lineB (rg P n 2) v1 n m1 t1 hy
/-! the class -/
theorem rg35 {P : Nat → Nat} (hP : Good P) {M : zMM} (hS : CSet P M) {n : Nat} (hn : n < NL P) (K20 : Int32 → Int32 → Int32 → Int32 → zMM → Option (Int32 × zMM)) (s : Nat × Nat × Nat) (hs : s.1 < 100000) : fX6_ragged_35 K20 zFU (zN s.1) (zN s.2.1) (zN s.2.2) (zN n) (zN 0) M = K20 (zN (rS P n 2 (rS P n 1 (rS P n 0 s))).1) (zN (rS P n 2 (rS P n 1 (rS P n 0 s))).2.1) (zN (rS P n 2 (rS P n 1 (rS P n 0 s))).2.2) (zN (n + 1)) M := by
  have hNL := NL_le P
  have n1 : zN n + 1 = zN (n + 1) := zN_add n 1
  have st : ∀ t fu (s : Nat × Nat × Nat), t < 3 → s.1 < 100000 → fX6_ragged_35 K20 (fu + 1) (zN s.1) (zN s.2.1) (zN s.2.2) (zN n) (zN t) M = fX6_ragged_35 K20 fu (zN (rS P n t s).1) (zN (rS P n t s).2.1) (zN (rS P n t s).2.2) (zN n) (zN (t + 1)) M := by
    intro t fu s ht hs
    have ta := takenAt4 hS (m := n) ht (by omega)
    have tl := tk_le hP n ht
    have tk0 := tk_0 hP (m := n) ht
    have rl := rg_le hP n t
    rw [fX6_ragged_35]
    by_cases w : wid P n t = 0
    · have z := tk0.2 (fun q => q.2 w)
      have r0 := rg_0 P n t w
      have er : rS P n t s = s := by unfold rS; rw [if_neg (by omega)]
      rw [z] at ta
      rw [er]
      simp (disch := omega) only [wr_cj, wr_nj, rng_in, rng_out, zN_lit, zN_add, zN_mul, zN_sub, zN_ltT, zN_ltF, zN_leT, zN_leF, zN_eqT, zN_eqF, zN_lt, zN_le, zN_eq, zN_nat, zN_oobF, Option.bind_some, ↓reduceIte, Nat.one_mul, Nat.zero_add, Nat.add_zero, Nat.reduceAdd, Nat.reduceMul, Nat.reduceSub, Nat.reduceLT, Nat.reduceLeDiff, Nat.reduceEqDiff, reduceCtorEq, true_or, or_true, false_or, or_false, true_and, and_true, false_and, and_false, not_true_eq_false, not_false_eq_true, wr_2, wrL_1, zm_eqF, zm_eqF', zm_lt, zm_lt', zm_le, zm_le', zm_sub1, zN_01, Nat.mul_zero, Nat.zero_mul, Nat.mul_one, Nat.sub_zero, Nat.sub_self, Nat.add_sub_cancel, ta, fX6_ragged_92]
    · have p := tk0.1 ⟨hn, w⟩
      have g5 := ((hS.1 t ht).2.2.1 n hn w).2.2.2
      by_cases q : s.1 < rg P n t
      · have er : rS P n t s = (rg P n t, n, t) := by unfold rS; rw [if_pos q]
        rw [er]
        simp (disch := omega) only [wr_cj, wr_nj, rng_in, rng_out, zN_lit, zN_add, zN_mul, zN_sub, zN_ltT, zN_ltF, zN_leT, zN_leF, zN_eqT, zN_eqF, zN_lt, zN_le, zN_eq, zN_nat, zN_oobF, Option.bind_some, ↓reduceIte, Nat.one_mul, Nat.zero_add, Nat.add_zero, Nat.reduceAdd, Nat.reduceMul, Nat.reduceSub, Nat.reduceLT, Nat.reduceLeDiff, Nat.reduceEqDiff, reduceCtorEq, true_or, or_true, false_or, or_false, true_and, and_true, false_and, and_false, not_true_eq_false, not_false_eq_true, wr_2, wrL_1, zm_eqF, zm_eqF', zm_lt, zm_lt', zm_le, zm_le', zm_sub1, zN_01, Nat.mul_zero, Nat.zero_mul, Nat.mul_one, Nat.sub_zero, Nat.sub_self, Nat.add_sub_cancel, ta, g5, fX6_ragged_92]
      · have er : rS P n t s = s := by unfold rS; rw [if_neg q]
        rw [er]
        simp (disch := omega) only [wr_cj, wr_nj, rng_in, rng_out, zN_lit, zN_add, zN_mul, zN_sub, zN_ltT, zN_ltF, zN_leT, zN_leF, zN_eqT, zN_eqF, zN_lt, zN_le, zN_eq, zN_nat, zN_oobF, Option.bind_some, ↓reduceIte, Nat.one_mul, Nat.zero_add, Nat.add_zero, Nat.reduceAdd, Nat.reduceMul, Nat.reduceSub, Nat.reduceLT, Nat.reduceLeDiff, Nat.reduceEqDiff, reduceCtorEq, true_or, or_true, false_or, or_false, true_and, and_true, false_and, and_false, not_true_eq_false, not_false_eq_true, wr_2, wrL_1, zm_eqF, zm_eqF', zm_lt, zm_lt', zm_le, zm_le', zm_sub1, zN_01, Nat.mul_zero, Nat.zero_mul, Nat.mul_one, Nat.sub_zero, Nat.sub_self, Nat.add_sub_cancel, ta, g5, fX6_ragged_92]
  have bd : ∀ t (s : Nat × Nat × Nat), s.1 < 100000 → (rS P n t s).1 < 100000 := by
    intro t s h
    have rl := rg_le hP n t
    unfold rS; split
    · show rg P n t < 100000; omega
    · exact h
  have gen : ∀ f, fX6_ragged_35 K20 (f + 1 + 1 + 1 + 1) (zN s.1) (zN s.2.1) (zN s.2.2) (zN n) (zN 0) M = K20 (zN (rS P n 2 (rS P n 1 (rS P n 0 s))).1) (zN (rS P n 2 (rS P n 1 (rS P n 0 s))).2.1) (zN (rS P n 2 (rS P n 1 (rS P n 0 s))).2.2) (zN (n + 1)) M := by
    intro f
    rw [st 0 _ s (by omega) hs, st _ _ _ (by omega) (bd 0 s hs), st _ _ _ (by omega) (bd 1 _ (bd 0 s hs)), fX6_ragged_35, if_pos (show (3 : Int32) ≤ zN (0 + 1 + 1 + 1) by decide), n1]
  exact gen 2147483644
theorem rg20 {P : Nat → Nat} (hP : Good P) {M : zMM} (hL : Leaf M 0 P) (hS : CSet P M) : ∀ f n fuel, NL P - n = f → n ≤ NL P → f < fuel → fX6_ragged_20 fuel (zN (rAll P n).1) (zN (rAll P n).2.1) (zN (rAll P n).2.2) (zN n) M = (fX0_pageOf 0 (zN (rAll P (NL P)).2.1) M).bind fun q2 => (fX2_tell___ (Int32.toInt64 (zN (rAll P (NL P)).1)) (Int32.toInt64 q2.1) (Int32.toInt64 (zN (rAll P (NL P)).2.1 - q2.1 * q2.2.1 0 1)) (Int32.toInt64 (zN (rAll P (NL P)).2.2)) q2.2).bind fun q3 => (fX4_raggedInAll q3).bind fun q4 => some (q4.1, q4.2) := by
  have hNL := NL_le P
  have h0 := hS.2
  intro f
  induction f with
  | zero =>
    intro n fuel hf hn hfu
    obtain ⟨fu, rfl⟩ : ∃ q, fuel = q + 1 := ⟨fuel - 1, by omega⟩
    have e : n = NL P := by omega
    subst e
    rw [fX6_ragged_20, h0, if_pos (show zN (NL P) ≤ zN (NL P) by rw [zN_leT (by omega)]; trivial)]
  | succ f ih =>
    intro n fuel hf hn hfu
    obtain ⟨fu, rfl⟩ : ∃ q, fuel = q + 1 := ⟨fuel - 1, by omega⟩
    have hb := rAll_b P n
    have hs : (rAll P n).1 < 100000 := by
      rcases hb with h | h
      · omega
      · have := rg_le hP (rAll P n).2.1 (rAll P n).2.2; omega
    have e := rg35 hP hS (show n < NL P by omega) (fX6_ragged_20 fu) (rAll P n) hs
    rw [← ih (n + 1) fu (by omega) (by omega) (by omega), fX6_ragged_20, h0, if_neg (show ¬ zN (NL P) ≤ zN n by rw [zN_leF (by omega)]; exact id)]
    exact e
theorem divlex {H m n : Nat} (hH : 0 < H) : m < n ↔ (m / H < n / H ∨ (m / H = n / H ∧ m % H < n % H)) := by
  have d1 := Nat.div_add_mod m H
  have d2 := Nat.div_add_mod n H
  constructor
  · intro h
    rcases Nat.lt_or_eq_of_le (Nat.div_le_div_right (c := H) (Nat.le_of_lt h)) with a | a
    · exact Or.inl a
    · right; refine ⟨a, ?_⟩; rw [a] at d1; omega
  · rintro (a | ⟨a, b⟩)
    · by_cases c : m < n
      · exact c
      · have := Nat.div_le_div_right (c := H) (show n ≤ m by omega); omega
    · rw [a] at d1; omega
/-! the model -/
def MB (P : Nat → Nat) (L : List (Nat × Nat)) (s : Nat × Nat × Nat) (b : Int32) : Prop := (s = (0, 0, 0) ∧ b = -zN 1) ∨ (0 < s.1 ∧ ∃ p, b = zN p ∧ L[p]? = some (s.2.1, s.2.2) ∧ rg P s.2.1 s.2.2 = s.1)
theorem rg13 {P : Nat → Nat} (hP : Good P) {M : zMM} (hS : MSet P M) : ∀ f p s b fuel, (pl P (NL P)).length - p = f → p ≤ (pl P (NL P)).length → f < fuel → MB P (pl P (NL P)) s b →
    ∃ b' s' fu, fX7_ragged_13 fuel b (zN p) M = fX7_ragged_13 (fu + 1) b' (zN (pl P (NL P)).length) M ∧ s' = mF P ((pl P (NL P)).drop p) s ∧ MB P (pl P (NL P)) s' b' := by
  have hlen := MSet_len hP hS
  have hp := hP.1
  have hNL := NL_le P
  obtain ⟨k0, -, -, kE, -⟩ := hS.1
  intro f
  induction f with
  | zero =>
    intro p s b fuel hf hp hfu hB
    obtain ⟨fu, rfl⟩ : ∃ q, fuel = q + 1 := ⟨fuel - 1, by omega⟩
    have e : p = (pl P (NL P)).length := by omega
    subst e
    exact ⟨b, s, fu, rfl, by rw [List.drop_eq_nil_of_le (Nat.le_refl _)]; rfl, hB⟩
  | succ f ih =>
    intro p s b fuel hf hpp hfu hB
    obtain ⟨fu, rfl⟩ : ∃ q, fuel = q + 1 := ⟨fuel - 1, by omega⟩
    have hp' : p < (pl P (NL P)).length := by omega
    obtain ⟨m, t, hx⟩ : ∃ m t, (pl P (NL P))[p]? = some (m, t) := ⟨_, _, List.getElem?_eq_getElem hp'⟩
    have hdrop : (pl P (NL P)).drop p = (m, t) :: (pl P (NL P)).drop (p + 1) := by
      rw [List.drop_eq_getElem_cons hp']
      have := (List.getElem?_eq_some_iff.mp hx).2
      rw [this]
    have h3 := pl_3 P (NL P) _ (List.mem_of_getElem? hx)
    dsimp only at h3
    have rl := rg_le hP m t
    have en := kE p m t hx
    have tp := fun j (hj : j < 8) => told7 (p := p) (j := j) (M := M) (by omega)
    have t7 := tp 7 (by omega)
    rw [en.2.2.2.2.2.2.2] at t7
    have p1 : zN p + 1 = zN (p + 1) := zN_add p 1
    have cont : ∀ s1 b1, fX7_ragged_13 (fu + 1) b (zN p) M = fX7_ragged_13 fu b1 (zN (p + 1)) M → s1 = mS P m t s → MB P (pl P (NL P)) s1 b1 → ∃ b' s' fu', fX7_ragged_13 (fu + 1) b (zN p) M = fX7_ragged_13 (fu' + 1) b' (zN (pl P (NL P)).length) M ∧ s' = mF P ((pl P (NL P)).drop p) s ∧ MB P (pl P (NL P)) s' b' := by
      intro s1 b1 e1 es hB1
      obtain ⟨b', s', fu', e2, e3, hB2⟩ := ih (p + 1) s1 b1 fu (by omega) (by omega) (by omega) hB1
      refine ⟨b', s', fu', e1.trans e2, ?_, hB2⟩
      rw [e3, hdrop, es]; rfl
    have e84 : ∀ b1, fX7_ragged_84 (fX7_ragged_13 fu) b1 (zN p) M = fX7_ragged_13 fu b1 (zN (p + 1)) M := by
      intro b1; unfold fX7_ragged_84; rw [p1]
    have e82 : fX7_ragged_82 (fX7_ragged_13 fu) (zN p) M = fX7_ragged_13 fu (zN p) (zN (p + 1)) M := by
      unfold fX7_ragged_82; rw [e84]
    have hit : 0 < rg P m t → MB P (pl P (NL P)) (rg P m t, m, t) (zN p) := fun h => Or.inr ⟨h, p, rfl, hx, rfl⟩
    have head : ∀ R, (if zN (rg P m t) = zN 0 then fX7_ragged_84 (fX7_ragged_13 fu) b (zN p) M else if b = -zN 1 then fX7_ragged_82 (fX7_ragged_13 fu) (zN p) M else (fX7_told (zN p) (zN 7) M).bind fun q7 => (fX7_told b (zN 7) q7.2).bind fun q8 => if q8.1 < q7.1 then fX7_ragged_82 (fX7_ragged_13 fu) (zN p) q8.2 else (fX7_told (zN p) (zN 7) q8.2).bind fun q10 => (fX7_told b (zN 7) q10.2).bind fun q11 => if q10.1 = q11.1 then (fX7_isAhead (zN p) b q11.2).bind fun q13 => if q13.1 = zN 0 then fX7_ragged_84 (fX7_ragged_13 fu) b (zN p) q13.2 else fX7_ragged_82 (fX7_ragged_13 fu) (zN p) q13.2 else fX7_ragged_84 (fX7_ragged_13 fu) b (zN p) q11.2) = R → fX7_ragged_13 (fu + 1) b (zN p) M = R := by
      intro R hR
      obtain ⟨X, hX⟩ : ∃ X, X = (if zN (rg P m t) = zN 0 then fX7_ragged_84 (fX7_ragged_13 fu) b (zN p) M else if b = -zN 1 then fX7_ragged_82 (fX7_ragged_13 fu) (zN p) M else (fX7_told (zN p) (zN 7) M).bind fun q7 => (fX7_told b (zN 7) q7.2).bind fun q8 => if q8.1 < q7.1 then fX7_ragged_82 (fX7_ragged_13 fu) (zN p) q8.2 else (fX7_told (zN p) (zN 7) q8.2).bind fun q10 => (fX7_told b (zN 7) q10.2).bind fun q11 => if q10.1 = q11.1 then (fX7_isAhead (zN p) b q11.2).bind fun q13 => if q13.1 = zN 0 then fX7_ragged_84 (fX7_ragged_13 fu) b (zN p) q13.2 else fX7_ragged_82 (fX7_ragged_13 fu) (zN p) q13.2 else fX7_ragged_84 (fX7_ragged_13 fu) b (zN p) q11.2) := ⟨_, rfl⟩
      rw [← hX] at hR
      rw [← hR, fX7_ragged_13]
      simp only [zN_lit]
      rw [k0, if_neg (show ¬ zN (pl P (NL P)).length ≤ zN p by rw [zN_leF (by omega)]; exact id), t7, Option.bind_some, hX]
    by_cases z : rg P m t = 0
    · refine cont s b (head _ ?_) (by unfold mS; rw [if_pos z]) hB
      rw [z, if_pos rfl, e84]
    · rcases hB with ⟨hs, hb⟩ | ⟨hs, pb, hb, hxb, hrb⟩
      · refine cont (rg P m t, m, t) (zN p) (head _ ?_) (by unfold mS; rw [if_neg z, hs]; rfl) (hit (by omega))
        rw [if_neg (show ¬ zN (rg P m t) = zN 0 by rw [zN_eqF (by omega)]; exact id), if_pos hb, e82]
      · subst hb
        have hlb := (List.getElem?_eq_some_iff.mp hxb).1
        have h3b := pl_3 P (NL P) _ (List.mem_of_getElem? hxb)
        dsimp only at h3b
        have enb := kE pb _ _ hxb
        have tb := fun j (hj : j < 8) => told7 (p := pb) (j := j) (M := M) (by omega)
        have t7b := tb 7 (by omega)
        rw [enb.2.2.2.2.2.2.2, hrb] at t7b
        have rlb := rg_le hP s.2.1 s.2.2
        have hnb : ¬ zN pb = -zN 1 := by rw [zm_eqF (by omega)]; exact id
        have hB0 : MB P (pl P (NL P)) s (zN pb) := Or.inr ⟨hs, pb, rfl, hxb, hrb⟩
        by_cases lt : s.1 < rg P m t
        · refine cont (rg P m t, m, t) (zN p) (head _ ?_) (by unfold mS; rw [if_neg z, if_neg (by omega), if_pos lt]) (hit (by omega))
          rw [if_neg (show ¬ zN (rg P m t) = zN 0 by rw [zN_eqF (by omega)]; exact id), if_neg hnb, t7, Option.bind_some]
          dsimp only
          rw [t7b, Option.bind_some]
          dsimp only
          rw [if_pos (show zN s.1 < zN (rg P m t) by rw [zN_ltT (by omega)]; trivial), e82]
        · by_cases eq : rg P m t = s.1
          · have ah : fX7_isAhead (zN p) (zN pb) M = some (zN (if m < s.2.1 ∨ (m = s.2.1 ∧ t < s.2.2) then 1 else 0), M) := by
              have d1 := Nat.div_add_mod m (P 1)
              have d2 := Nat.div_add_mod s.2.1 (P 1)
              have l1 := Nat.mod_lt m (show 0 < P 1 by omega)
              have l2 := Nat.mod_lt s.2.1 (show 0 < P 1 by omega)
              have c1 : m / P 1 ≤ m := Nat.div_le_self _ _
              have c2 : s.2.1 / P 1 ≤ s.2.1 := Nat.div_le_self _ _
              have a0 := tp 0 (by omega); rw [Nat.add_zero, en.1] at a0
              have a1 := tp 1 (by omega); rw [en.2.1] at a1
              have a2 := tp 2 (by omega); rw [en.2.2.1] at a2
              have b0 := tb 0 (by omega); rw [Nat.add_zero, enb.1] at b0
              have b1 := tb 1 (by omega); rw [enb.2.1] at b1
              have b2 := tb 2 (by omega); rw [enb.2.2.1] at b2
              have dl := divlex (H := P 1) (m := m) (n := s.2.1) (by omega)
              have dl2 := divlex (H := P 1) (m := s.2.1) (n := m) (by omega)
              generalize hv : (if m < s.2.1 ∨ (m = s.2.1 ∧ t < s.2.2) then 1 else 0) = v
              unfold fX7_isAhead
              simp only [zN_lit]
              rw [a1, Option.bind_some]
              dsimp only
              rw [b1, Option.bind_some]
              dsimp only
              by_cases e1 : m / P 1 = s.2.1 / P 1
              · rw [if_pos (by rw [e1]), a2, Option.bind_some]
                dsimp only
                rw [b2, Option.bind_some]
                dsimp only
                by_cases e2 : m % P 1 = s.2.1 % P 1
                · have em : m = s.2.1 := by rw [← d1, ← d2, e1, e2]
                  rw [if_pos (by rw [e2]), a0, Option.bind_some]
                  dsimp only
                  rw [b0, Option.bind_some]
                  dsimp only
                  by_cases e3 : t < s.2.2
                  · rw [if_pos (Or.inr ⟨em, e3⟩)] at hv
                    rw [← hv, if_neg (show ¬ zN s.2.2 ≤ zN t by rw [zN_leF (by omega)]; exact id)]
                  · rw [if_neg (by omega)] at hv
                    rw [← hv, if_pos (show zN s.2.2 ≤ zN t by rw [zN_leT (by omega)]; trivial)]
                · rw [if_neg (show ¬ zN (m % P 1) = zN (s.2.1 % P 1) by rw [zN_eqF (by omega)]; exact id), a2, Option.bind_some]
                  dsimp only
                  rw [b2, Option.bind_some]
                  dsimp only
                  by_cases e3 : m % P 1 < s.2.1 % P 1
                  · rw [if_pos (Or.inl (dl.mpr (Or.inr ⟨e1, e3⟩)))] at hv
                    rw [← hv, if_neg (show ¬ zN (s.2.1 % P 1) ≤ zN (m % P 1) by rw [zN_leF (by omega)]; exact id)]
                  · have := dl2.mpr (Or.inr ⟨e1.symm, by omega⟩)
                    rw [if_neg (by omega)] at hv
                    rw [← hv, if_pos (show zN (s.2.1 % P 1) ≤ zN (m % P 1) by rw [zN_leT (by omega)]; trivial)]
              · rw [if_neg (show ¬ zN (m / P 1) = zN (s.2.1 / P 1) by rw [zN_eqF (by omega)]; exact id), a1, Option.bind_some]
                dsimp only
                rw [b1, Option.bind_some]
                dsimp only
                by_cases e3 : m / P 1 < s.2.1 / P 1
                · rw [if_pos (Or.inl (dl.mpr (Or.inl e3)))] at hv
                  rw [← hv, if_neg (show ¬ zN (s.2.1 / P 1) ≤ zN (m / P 1) by rw [zN_leF (by omega)]; exact id)]
                · have := dl2.mpr (Or.inl (by omega))
                  rw [if_neg (by omega)] at hv
                  rw [← hv, if_pos (show zN (s.2.1 / P 1) ≤ zN (m / P 1) by rw [zN_leT (by omega)]; trivial)]
            by_cases ahead : m < s.2.1 ∨ (m = s.2.1 ∧ t < s.2.2)
            · rw [if_pos ahead] at ah
              refine cont (rg P m t, m, t) (zN p) (head _ ?_) (by unfold mS; rw [if_neg z, if_neg (by omega), if_neg lt, if_pos ⟨eq, ahead⟩]) (hit (by omega))
              rw [if_neg (show ¬ zN (rg P m t) = zN 0 by rw [zN_eqF (by omega)]; exact id), if_neg hnb, t7, Option.bind_some]
              dsimp only
              rw [t7b, Option.bind_some]
              dsimp only
              rw [if_neg (show ¬ zN s.1 < zN (rg P m t) by rw [zN_ltF (by omega)]; exact id), t7, Option.bind_some]
              dsimp only
              rw [t7b, Option.bind_some]
              dsimp only
              rw [if_pos (by rw [eq]), ah, Option.bind_some, if_neg nz10, e82]
            · rw [if_neg ahead] at ah
              refine cont s (zN pb) (head _ ?_) (by unfold mS; rw [if_neg z, if_neg (by omega), if_neg lt, if_neg (fun q => ahead q.2)]) hB0
              rw [if_neg (show ¬ zN (rg P m t) = zN 0 by rw [zN_eqF (by omega)]; exact id), if_neg hnb, t7, Option.bind_some]
              dsimp only
              rw [t7b, Option.bind_some]
              dsimp only
              rw [if_neg (show ¬ zN s.1 < zN (rg P m t) by rw [zN_ltF (by omega)]; exact id), t7, Option.bind_some]
              dsimp only
              rw [t7b, Option.bind_some]
              dsimp only
              rw [if_pos (by rw [eq]), ah, Option.bind_some, if_pos rfl, e84]
          · refine cont s (zN pb) (head _ ?_) (by unfold mS; rw [if_neg z, if_neg (by omega), if_neg lt, if_neg (fun q => eq q.1)]) hB0
            rw [if_neg (show ¬ zN (rg P m t) = zN 0 by rw [zN_eqF (by omega)]; exact id), if_neg hnb, t7, Option.bind_some]
            dsimp only
            rw [t7b, Option.bind_some]
            dsimp only
            rw [if_neg (show ¬ zN s.1 < zN (rg P m t) by rw [zN_ltF (by omega)]; exact id), t7, Option.bind_some]
            dsimp only
            rw [t7b, Option.bind_some]
            dsimp only
            rw [if_neg (show ¬ zN (rg P m t) = zN s.1 by rw [zN_eqF (by omega)]; exact id), e84]
theorem call_ragged : Cll fX6_ragged fX7_ragged := by
  refine Cll_of (fun P T R U K hw => ?_)
  have hP := hw.1
  have hp := hP.1
  have hU := hw.2.2.2.1.1
  have hNL := NL_le P
  have hb := rAll_b P (NL P)
  obtain ⟨S, hS⟩ : ∃ S, S = rAll P (NL P) := ⟨_, rfl⟩
  rw [← hS] at hb
  have hz0 : S.1 = 0 → S = (0, 0, 0) := by
    have : ∀ n, (rAll P n).1 = 0 → rAll P n = (0, 0, 0) := by
      intro n
      induction n with
      | zero => intro _; rfl
      | succ n ih =>
        intro h
        rw [rAll] at h ⊢
        have st : ∀ t s, (rS P n t s).1 = 0 → s.1 = 0 ∧ rS P n t s = s := by
          intro t s hh
          unfold rS at hh ⊢
          by_cases q : s.1 < rg P n t
          · rw [if_pos q] at hh
            have : rg P n t = 0 := hh
            omega
          · rw [if_neg q] at hh ⊢; exact ⟨hh, rfl⟩
        have a := st 2 _ h
        rw [a.2]
        have b := st 1 _ a.1
        rw [b.2]
        have c := st 0 _ b.1
        rw [c.2]
        exact ih c.1
    rw [hS]; exact this _
  have sb : S.2.1 < 300 ∧ S.2.2 < 3 ∧ S.1 < 100000 := by
    rcases hb with h | h
    · rw [hz0 h]; simp
    · have := rg_le hP S.2.1 S.2.2
      omega
  have hdm := Nat.div_mul_le_self S.2.1 (P 1)
  have hda := Nat.div_add_mod S.2.1 (P 1)
  have hdl : S.2.1 / P 1 ≤ S.2.1 := Nat.div_le_self _ _
  have em : S.2.1 - S.2.1 / P 1 * P 1 = S.2.1 % P 1 := by rw [Nat.mul_comm]; omega
  refine ⟨zN (rga P), P, T, [(zN S.1).toInt64, (zN (S.2.1 / P 1)).toInt64, (zN (S.2.1 % P 1)).toInt64, (zN S.2.2).toInt64], U, K, WF_R hw (by simp), fun M hM => ?_, fun M hM => ?_⟩
  · obtain ⟨M1, e1, s1, l1, f1⟩ := cset0 hP (b := 0) (by omega) hM.1
    have key := rg20 hP l1 s1 (NL P) 0 zFU (by omega) (by omega) (by rw [zFU_eq]; omega)
    rw [← hS] at key
    have po := pageOf0 hP l1 (n := S.2.1) (by omega)
    have h1 : M1.1 0 1 = zN (P 1) := l1.1.2.1
    obtain ⟨M2, e2, r2, y2⟩ := tell4 (zN S.1).toInt64 (zN (S.2.1 / P 1)).toInt64 (zN (S.2.1 % P 1)).toInt64 (zN S.2.2).toInt64 M1
    have ra := raggedInAll4 (CSet_Y s1 y2)
    refine ⟨M2, ?_, CI_q hM hU (cq_trans (cq_set f1) (cq_Y y2)) (Leaf_Y l1 (by omega) y2) r2⟩
    unfold fX6_ragged
    rw [e1, Option.bind_some]
    refine Eq.trans key ?_
    rw [po, Option.bind_some]
    dsimp only
    rw [h1, zN_mul, zN_sub (by omega), em, e2, Option.bind_some, ra]; rfl
  · obtain ⟨M1, e1, s1, n1, f1⟩ := mset0 hP (MNow_w (j := 5) (v := zN 0) hM.1)
    have hlen := MSet_len hP s1
    have k0 := s1.1.1
    obtain ⟨b', s', fu, e13, es, hB⟩ := rg13 hP s1 _ 0 (0, 0, 0) (-zN 1) zFU rfl (by omega) (by rw [zFU_eq]; omega) (Or.inl ⟨rfl, rfl⟩)
    rw [List.drop_zero, rAll_eq, ← hS] at es
    rw [es] at hB
    obtain ⟨M2, e2, r2, x2⟩ := tell7 (MR_nil M1) (by simp) (zN S.1).toInt64
    obtain ⟨M3, e3, r3, x3⟩ := tell7 r2 (by simp) (zN (S.2.1 / P 1)).toInt64
    obtain ⟨M4, e4, r4, x4⟩ := tell7 r3 (by simp) (zN (S.2.1 % P 1)).toInt64
    obtain ⟨M5, e5, r5, x5⟩ := tell7 r4 (by simp) (zN S.2.2).toInt64
    have s5 := MSet_X (MSet_X (MSet_X (MSet_X (MSet_4 (v := zN 0) s1) x2) x3) x4) x5
    have ra := raggedAll7 hP s5
    refine ⟨M5, ?_, MI_q hM (mq_trans (mq_w (j := 5) (v := zN 0) (by omega)) (mq_trans (mq_MS f1) (mq_trans (mq_w (j := 4) (v := zN 0) (by omega)) (mq_trans (mq_X x2) (mq_trans (mq_X x3) (mq_trans (mq_X x4) (mq_X x5))))))) (MNow_X (MNow_X (MNow_X (MNow_X (MNow_w n1) x2) x3) x4) x5) (MR4 r5)⟩
    have fin : fX7_ragged_13 (fu + 1) b' (zN (pl P (NL P)).length) M1 = some (zN (rga P), M5) := by
      rw [fX7_ragged_13]
      simp only [zN_lit]
      rw [k0, if_pos (show zN (pl P (NL P)).length ≤ zN (pl P (NL P)).length by rw [zN_leT (by omega)]; trivial)]
      rcases hB with ⟨hs, hb'⟩ | ⟨hs, p, hb', hx, hr⟩
      · rw [hs] at e2 e3 e4 e5
        have z1 : (zN ((0, 0, 0) : Nat × Nat × Nat).1).toInt64 = 0 := by decide
        have z2 : (zN (((0, 0, 0) : Nat × Nat × Nat).2.1 / P 1)).toInt64 = 0 := by
          show (zN (0 / P 1)).toInt64 = 0
          rw [Nat.zero_div]; decide
        have z3 : (zN (((0, 0, 0) : Nat × Nat × Nat).2.1 % P 1)).toInt64 = 0 := by
          show (zN (0 % P 1)).toInt64 = 0
          rw [Nat.zero_mod]; decide
        have z4 : (zN ((0, 0, 0) : Nat × Nat × Nat).2.2).toInt64 = 0 := by decide
        rw [z1] at e2; rw [z2] at e3; rw [z3] at e4; rw [z4] at e5
        rw [if_pos hb']
        unfold fX7_ragged_113 fX7_ragged_133 fX7_ragged_153 fX7_ragged_173
        simp only [zN_lit]
        rw [e2, Option.bind_some, if_pos hb', e3, Option.bind_some, if_pos hb', e4, Option.bind_some, if_pos hb', e5, Option.bind_some, ra]; rfl
      · have hl := (List.getElem?_eq_some_iff.mp hx).1
        have hn : ¬ b' = -zN 1 := by rw [hb', zm_eqF (by omega)]; exact id
        have en := s1.1.2.2.2.1 p _ _ hx
        have tp := fun (M' : zMM) j (hj : j < 8) => told7 (p := p) (j := j) (M := M') (by omega)
        have t7 := tp (wr M1 158 4 (zN 0)) 7 (by omega)
        rw [wr_nj (by omega), en.2.2.2.2.2.2.2, hr] at t7
        have t1 := tp M2 1 (by omega)
        rw [x2.1 _ _ (by omega), wr_nj (by omega), en.2.1] at t1
        have t2 := tp M3 2 (by omega)
        rw [x3.1 _ _ (by omega), x2.1 _ _ (by omega), wr_nj (by omega), en.2.2.1] at t2
        have t0 := tp M4 0 (by omega)
        rw [x4.1 _ _ (by omega), x3.1 _ _ (by omega), x2.1 _ _ (by omega), wr_nj (by omega), Nat.add_zero, en.1] at t0
        rw [if_neg hn, hb', t7, Option.bind_some]
        rw [hb'] at hn
        unfold fX7_ragged_113 fX7_ragged_133 fX7_ragged_153 fX7_ragged_173
        simp only [zN_lit]
        rw [e2, Option.bind_some, if_neg hn, t1, Option.bind_some, e3, Option.bind_some, if_neg hn, t2, Option.bind_some, e4, Option.bind_some, if_neg hn, t0, Option.bind_some, e5, Option.bind_some, ra]; rfl
    unfold fX7_ragged
    simp only [zN_lit]
    rw [e1, Option.bind_some]
    exact e13.trans fin
