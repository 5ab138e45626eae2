/-! WORDS THAT COME AND GO: the page with its sizes laid over, ties taken out, ties moved -/
def ov (h P : Nat → Nat) : Nat → Nat := fun j => if j < 218 then h j else P j
theorem ov_lo {h P : Nat → Nat} {j : Nat} (hj : j < 218) : ov h P j = h j := if_pos hj
theorem ov_hi {h P : Nat → Nat} {j : Nat} (hj : 218 ≤ j) : ov h P j = P j := if_neg (by omega)
/-- a tie less -/
def unP (P : Nat → Nat) (i : Nat) : Nat → Nat := fun j => if j = 218 then P 218 - 1 else if 219 + 3 * i ≤ j ∧ j < 219 + 3 * (P 218 - 1) then P (j + 3) else if 219 + 3 * (P 218 - 1) ≤ j ∧ j < 219 + 3 * (P 218 - 1) + 3 then 0 else P j
def tq (q : Nat → Nat → Nat → Bool) (P : Nat → Nat) (i : Nat) : Bool := q (P (219 + 3 * i)) (P (220 + 3 * i)) (P (221 + 3 * i))
/-- ties that q names, taken out from the last one on -/
def utF (q : Nat → Nat → Nat → Bool) : Nat → (Nat → Nat) → Nat → Nat
  | 0, P => P
  | i + 1, P => utF q i (if tq q P i then unP P i else P)
/-- ties of text t behind word k moved -/
def shN (P : Nat → Nat) (t k : Nat) (f : Nat → Nat) (n : Nat) : Nat → Nat := fun j => if 219 ≤ j ∧ j < 219 + 3 * n ∧ (j - 219) % 3 = (if t = 0 then 2 else 1) ∧ (t = 0 ∨ P (j - 1) = t) ∧ k ≤ P j then f (P j) else P j
def tb (P : Nat → Nat) : Prop := P 218 ≤ 12 ∧ ∀ i, i < P 218 → P (219 + 3 * i) < 3 ∧ P (220 + 3 * i) < 1000 ∧ P (221 + 3 * i) < 1000
theorem Good_tb {P : Nat → Nat} (hP : Good P) : tb P := by
  refine ⟨hP.2.2.1.1, fun i hi => ?_⟩
  have h := hP.2.2.1.2 i hi
  have c0 := (hP.2.1 0 (by omega)).1
  have c1 := (hP.2.1 (P (219 + 3 * i)) (by omega)).1
  simp only [Nat.reduceAdd] at c0
  omega
theorem unP_un {P : Nat → Nat} {i : Nat} (hi : i < P 218) (m : Nat) (hm : m < P 218 - 1) : ∃ m', m' < P 218 ∧ (m' = if m < i then m else m + 1) ∧ unP P i (219 + 3 * m) = P (219 + 3 * m') ∧ unP P i (220 + 3 * m) = P (220 + 3 * m') ∧ unP P i (221 + 3 * m) = P (221 + 3 * m') := by
  unfold unP
  by_cases c : m < i
  · refine ⟨m, by omega, by rw [if_pos c], ?_, ?_, ?_⟩ <;> rw [if_neg (by omega), if_neg (by omega), if_neg (by omega)]
  · refine ⟨m + 1, by omega, by rw [if_neg c], ?_, ?_, ?_⟩ <;> rw [if_neg (by omega), if_pos (by omega)] <;> congr 1
theorem unP_218 (P : Nat → Nat) (i : Nat) : unP P i 218 = P 218 - 1 := by unfold unP; rw [if_pos rfl]
theorem unP_lo {P : Nat → Nat} {i j : Nat} (h : j < 218) : unP P i j = P j := by
  unfold unP; rw [if_neg (by omega), if_neg (by omega), if_neg (by omega)]
theorem unP_hi {P : Nat → Nat} {i j : Nat} (hi : i < P 218) (hn : P 218 ≤ 12) (h : 255 ≤ j) : unP P i j = P j := by
  unfold unP; rw [if_neg (by omega), if_neg (by omega), if_neg (by omega)]
theorem unP_tb {P : Nat → Nat} (h : tb P) {i : Nat} (hi : i < P 218) : tb (unP P i) := by
  refine ⟨by rw [unP_218]; have := h.1; omega, fun m hm => ?_⟩
  rw [unP_218] at hm
  obtain ⟨m', h1, -, e0, e1, e2⟩ := unP_un hi m hm
  rw [e0, e1, e2]; exact h.2 m' h1
theorem unP_ov (h P : Nat → Nat) (i : Nat) : unP (ov h P) i = ov h (unP P i) := by
  funext j
  unfold unP
  by_cases c : j < 218
  · rw [ov_lo c, if_neg (by omega), if_neg (by omega), if_neg (by omega), ov_lo c]
  · rw [ov_hi (h := h) (P := P) (j := 218) (by omega), ov_hi (j := j) (by omega), ov_hi (j := j + 3) (by omega), ov_hi (by omega)]
theorem utF_ov (q : Nat → Nat → Nat → Bool) (h : Nat → Nat) : ∀ n P, utF q n (ov h P) = ov h (utF q n P) := by
  intro n
  induction n with
  | zero => intro P; rfl
  | succ n ih =>
    intro P
    have e : tq q (ov h P) n = tq q P n := by unfold tq; rw [ov_hi (by omega), ov_hi (by omega), ov_hi (by omega)]
    rw [utF, utF, e]
    by_cases c : tq q P n = true
    · rw [if_pos c, if_pos c, unP_ov, ih]
    · rw [if_neg c, if_neg c, ih]
theorem utF_ok (q : Nat → Nat → Nat → Bool) : ∀ n P, tb P → n ≤ P 218 → (∀ i, n ≤ i → i < P 218 → tq q P i = false) →
    tb (utF q n P) ∧ (∀ j, j < 218 ∨ 255 ≤ j → utF q n P j = P j) ∧ (∀ i, i < utF q n P 218 → tq q (utF q n P) i = false ∧ ∃ i', i' < P 218 ∧ utF q n P (219 + 3 * i) = P (219 + 3 * i') ∧ utF q n P (220 + 3 * i) = P (220 + 3 * i') ∧ utF q n P (221 + 3 * i) = P (221 + 3 * i')) := by
  intro n
  induction n with
  | zero =>
    intro P hb hn hq
    exact ⟨hb, fun j _ => rfl, fun i hi => ⟨hq i (by omega) hi, i, hi, rfl, rfl, rfl⟩⟩
  | succ n ih =>
    intro P hb hn hq
    rw [utF]
    by_cases c : tq q P n = true
    · rw [if_pos c]
      have hn' : n < P 218 := by omega
      have := ih (unP P n) (unP_tb hb hn') (by rw [unP_218]; omega) (fun i h1 h2 => by
        rw [unP_218] at h2
        obtain ⟨m', a, b, e0, e1, e2⟩ := unP_un hn' i h2
        unfold tq; rw [e0, e1, e2]
        rw [if_neg (by omega)] at b
        exact hq m' (by omega) a)
      refine ⟨this.1, fun j hj => ?_, fun i hi => ?_⟩
      · rw [this.2.1 j hj]
        rcases hj with h | h
        · exact unP_lo h
        · exact unP_hi hn' hb.1 h
      · obtain ⟨a, i', b, e0, e1, e2⟩ := this.2.2 i hi
        refine ⟨a, ?_⟩
        rw [unP_218] at b
        obtain ⟨m', a', -, g0, g1, g2⟩ := unP_un hn' i' b
        exact ⟨m', a', by rw [e0, g0], by rw [e1, g1], by rw [e2, g2]⟩
    · rw [if_neg c]
      exact ih P hb (by omega) (fun i h1 h2 => by
        by_cases e : i = n
        · rw [e]; exact Bool.not_eq_true _ ▸ (by simpa using c)
        · exact hq i (by omega) h2)
/-! the class takes ties out -/
theorem dropTie0 {P : Nat → Nat} (hb : tb P) (cok : ∀ t, t < 3 → P (5 + t) ≤ 70) {b i : Nat} {M : zMM} (hL : Leaf M b P) (hi : i < P 218) :
    ∃ M', fX0_dropTie b (zN i) M = some M' ∧ Leaf M' b (unP P i) ∧ fr (fun c _ => c = b ∨ (b + 7 ≤ c ∧ c ≤ b + 9)) M M' := by
  have h12 := hb.1
  obtain ⟨⟨l0, l1, l2, l3, l4, l5, l6⟩, lw, lc, ls, lt⟩ := hL
  have key := loopE (fun n (s : Nat × zMM) => fX0_dropTie_4 b (zN i) n (zN (i + 1 + s.1)) s.2)
    (fun m s => s.1 = m ∧ (∀ m', m' < m → s.2.1 (b + 7) (i + m') = M.1 (b + 7) (i + m' + 1) ∧ s.2.1 (b + 8) (i + m') = M.1 (b + 8) (i + m' + 1) ∧ s.2.1 (b + 9) (i + m') = M.1 (b + 9) (i + m' + 1)) ∧ fr (fun c j => (b + 7 ≤ c ∧ c ≤ b + 9) ∧ i ≤ j ∧ j < i + m) M s.2)
    (P 218 - (i + 1))
    (fun r => ∃ M', r = some M' ∧ (∀ m', m' < P 218 - (i + 1) → M'.1 (b + 7) (i + m') = M.1 (b + 7) (i + m' + 1) ∧ M'.1 (b + 8) (i + m') = M.1 (b + 8) (i + m' + 1) ∧ M'.1 (b + 9) (i + m') = M.1 (b + 9) (i + m' + 1)) ∧ M'.1 b 6 = zN (P 218 - 1) ∧ fr (fun c j => ((b + 7 ≤ c ∧ c ≤ b + 9) ∧ i ≤ j ∧ j < P 218 - 1) ∨ (c = b ∧ j = 6)) M M')
    (by
      rintro m n ⟨m0, M'⟩ hm ⟨rfl, h1, h2⟩
      right
      dsimp only at h1 h2 hm ⊢
      have k6 : M'.1 b 6 = zN (P 218) := by rw [h2.1 _ _ (by omega)]; exact l6
      refine ⟨(m0 + 1, wr (wr (wr M' (b + 7) (i + m0) (M'.1 (b + 7) (i + m0 + 1))) (b + 8) (i + m0) (M'.1 (b + 8) (i + m0 + 1))) (b + 9) (i + m0) (M'.1 (b + 9) (i + m0 + 1))), ?_, rfl, ?_, ?_⟩
      · rw [fX0_dropTie_4]
        have ea : i + 1 + m0 - 1 = i + m0 := by omega
        have eb : i + 1 + m0 = i + m0 + 1 := by omega
        have ec : i + 1 + (m0 + 1) = i + m0 + 1 + 1 := by omega
        rw [ec, eb]
        simp (disch := omega) only [wr_cj, wr_nj, rng_in, rng_out, zN_lit, zN_add, zN_mul, zN_sub, zN_ltT, zN_ltF, zN_leT, zN_leF, zN_eqT, zN_eqF, zN_lt, zN_le, zN_eq, zN_nat, zN_oobF, Option.bind_some, ↓reduceIte, Nat.one_mul, Nat.zero_add, Nat.add_zero, Nat.reduceAdd, Nat.reduceMul, Nat.reduceSub, Nat.reduceLT, Nat.reduceLeDiff, Nat.reduceEqDiff, reduceCtorEq, true_or, or_true, false_or, or_false, true_and, and_true, false_and, and_false, not_true_eq_false, not_false_eq_true, wr_2, wrL_1, zm_eqF, zm_eqF', zm_lt, zm_lt', zm_le, zm_le', zm_sub1, zN_01, Nat.mul_zero, Nat.zero_mul, Nat.mul_one, Nat.sub_zero, Nat.sub_self, Nat.add_sub_cancel, k6]
      · intro m' hm'
        show (wr (wr (wr M' (b + 7) (i + m0) (M'.1 (b + 7) (i + m0 + 1))) (b + 8) (i + m0) (M'.1 (b + 8) (i + m0 + 1))) (b + 9) (i + m0) (M'.1 (b + 9) (i + m0 + 1))).1 (b + 7) (i + m') = _ ∧ (wr (wr (wr M' (b + 7) (i + m0) (M'.1 (b + 7) (i + m0 + 1))) (b + 8) (i + m0) (M'.1 (b + 8) (i + m0 + 1))) (b + 9) (i + m0) (M'.1 (b + 9) (i + m0 + 1))).1 (b + 8) (i + m') = _ ∧ (wr (wr (wr M' (b + 7) (i + m0) (M'.1 (b + 7) (i + m0 + 1))) (b + 8) (i + m0) (M'.1 (b + 8) (i + m0 + 1))) (b + 9) (i + m0) (M'.1 (b + 9) (i + m0 + 1))).1 (b + 9) (i + m') = _
        by_cases e : m' = m0
        · subst e
          have g7 := h2.1 (b + 7) (i + m' + 1) (by omega)
          have g8 := h2.1 (b + 8) (i + m' + 1) (by omega)
          have g9 := h2.1 (b + 9) (i + m' + 1) (by omega)
          simp (disch := omega) only [wr_cj, wr_nj, rng_in, rng_out, zN_lit, zN_add, zN_mul, zN_sub, zN_ltT, zN_ltF, zN_leT, zN_leF, zN_eqT, zN_eqF, zN_lt, zN_le, zN_eq, zN_nat, zN_oobF, Option.bind_some, ↓reduceIte, Nat.one_mul, Nat.zero_add, Nat.add_zero, Nat.reduceAdd, Nat.reduceMul, Nat.reduceSub, Nat.reduceLT, Nat.reduceLeDiff, Nat.reduceEqDiff, reduceCtorEq, true_or, or_true, false_or, or_false, true_and, and_true, false_and, and_false, not_true_eq_false, not_false_eq_true, wr_2, wrL_1, zm_eqF, zm_eqF', zm_lt, zm_lt', zm_le, zm_le', zm_sub1, zN_01, Nat.mul_zero, Nat.zero_mul, Nat.mul_one, Nat.sub_zero, Nat.sub_self, Nat.add_sub_cancel, g7, g8, g9, and_self]
        · have := h1 m' (by omega)
          simp (disch := omega) only [wr_cj, wr_nj, rng_in, rng_out, zN_lit, zN_add, zN_mul, zN_sub, zN_ltT, zN_ltF, zN_leT, zN_leF, zN_eqT, zN_eqF, zN_lt, zN_le, zN_eq, zN_nat, zN_oobF, Option.bind_some, ↓reduceIte, Nat.one_mul, Nat.zero_add, Nat.add_zero, Nat.reduceAdd, Nat.reduceMul, Nat.reduceSub, Nat.reduceLT, Nat.reduceLeDiff, Nat.reduceEqDiff, reduceCtorEq, true_or, or_true, false_or, or_false, true_and, and_true, false_and, and_false, not_true_eq_false, not_false_eq_true, wr_2, wrL_1, zm_eqF, zm_eqF', zm_lt, zm_lt', zm_le, zm_le', zm_sub1, zN_01, Nat.mul_zero, Nat.zero_mul, Nat.mul_one, Nat.sub_zero, Nat.sub_self, Nat.add_sub_cancel, this, and_self]
      · exact fr_wr (fr_wr (fr_wr (fr_mono h2 (fun c j hc => by omega)) (by omega)) (by omega)) (by omega))
    (by
      rintro n ⟨m0, M'⟩ ⟨rfl, h1, h2⟩
      dsimp only at h1 h2 ⊢
      have k6 : M'.1 b 6 = zN (P 218) := by rw [h2.1 _ _ (by omega)]; exact l6
      refine ⟨wr M' b 6 (zN (P 218 - 1)), ?_, ?_, by rw [wr_cj], fr_wr (fr_mono h2 (fun c j hc => by omega)) (by omega)⟩
      · rw [fX0_dropTie_4]
        simp (disch := omega) only [wr_cj, wr_nj, rng_in, rng_out, zN_lit, zN_add, zN_mul, zN_sub, zN_ltT, zN_ltF, zN_leT, zN_leF, zN_eqT, zN_eqF, zN_lt, zN_le, zN_eq, zN_nat, zN_oobF, Option.bind_some, ↓reduceIte, Nat.one_mul, Nat.zero_add, Nat.add_zero, Nat.reduceAdd, Nat.reduceMul, Nat.reduceSub, Nat.reduceLT, Nat.reduceLeDiff, Nat.reduceEqDiff, reduceCtorEq, true_or, or_true, false_or, or_false, true_and, and_true, false_and, and_false, not_true_eq_false, not_false_eq_true, wr_2, wrL_1, zm_eqF, zm_eqF', zm_lt, zm_lt', zm_le, zm_le', zm_sub1, zN_01, Nat.mul_zero, Nat.zero_mul, Nat.mul_one, Nat.sub_zero, Nat.sub_self, Nat.add_sub_cancel, k6]
      · intro m' hm'
        have := h1 m' hm'
        simp (disch := omega) only [wr_cj, wr_nj, rng_in, rng_out, zN_lit, zN_add, zN_mul, zN_sub, zN_ltT, zN_ltF, zN_leT, zN_leF, zN_eqT, zN_eqF, zN_lt, zN_le, zN_eq, zN_nat, zN_oobF, Option.bind_some, ↓reduceIte, Nat.one_mul, Nat.zero_add, Nat.add_zero, Nat.reduceAdd, Nat.reduceMul, Nat.reduceSub, Nat.reduceLT, Nat.reduceLeDiff, Nat.reduceEqDiff, reduceCtorEq, true_or, or_true, false_or, or_false, true_and, and_true, false_and, and_false, not_true_eq_false, not_false_eq_true, wr_2, wrL_1, zm_eqF, zm_eqF', zm_lt, zm_lt', zm_le, zm_le', zm_sub1, zN_01, Nat.mul_zero, Nat.zero_mul, Nat.mul_one, Nat.sub_zero, Nat.sub_self, Nat.add_sub_cancel, this, and_self])
    zFU (0, M) (by rw [zFU_eq]; omega) ⟨rfl, fun m' hm' => absurd hm' (by omega), fr_refl _ _⟩
  obtain ⟨M', e, hm, k6, ff⟩ := key
  refine ⟨M', ?_, ?_, fr_mono ff (fun c j hc => by omega)⟩
  · unfold fX0_dropTie
    simp (disch := omega) only [wr_cj, wr_nj, rng_in, rng_out, zN_lit, zN_add, zN_mul, zN_sub, zN_ltT, zN_ltF, zN_leT, zN_leF, zN_eqT, zN_eqF, zN_lt, zN_le, zN_eq, zN_nat, zN_oobF, Option.bind_some, ↓reduceIte, Nat.one_mul, Nat.zero_add, Nat.add_zero, Nat.reduceAdd, Nat.reduceMul, Nat.reduceSub, Nat.reduceLT, Nat.reduceLeDiff, Nat.reduceEqDiff, reduceCtorEq, true_or, or_true, false_or, or_false, true_and, and_true, false_and, and_false, not_true_eq_false, not_false_eq_true, wr_2, wrL_1, zm_eqF, zm_eqF', zm_lt, zm_lt', zm_le, zm_le', zm_sub1, zN_01, Nat.mul_zero, Nat.zero_mul, Nat.mul_one, Nat.sub_zero, Nat.sub_self, Nat.add_sub_cancel]
    exact e
  · have u : ∀ j, j < 218 ∨ 255 ≤ j → unP P i j = P j := fun j hj => by
      rcases hj with h | h
      · exact unP_lo h
      · exact unP_hi hi h12 h
    refine ⟨⟨?_, ?_, ?_, ?_, ?_, ?_, ?_⟩, ?_, ?_, ?_, ?_⟩
    · rw [ff.1 _ _ (by omega), u _ (by omega)]; exact l0
    · rw [ff.1 _ _ (by omega), u _ (by omega)]; exact l1
    · rw [ff.1 _ _ (by omega), u _ (by omega)]; exact l2
    · rw [ff.1 _ _ (by omega), u _ (by omega)]; exact l3
    · rw [ff.1 _ _ (by omega), u _ (by omega)]; exact l4
    · rw [ff.1 _ _ (by omega), u _ (by omega)]; exact l5
    · rw [k6, unP_218]
    · intro w hw; rw [ff.1 _ _ (by omega), u _ (by omega)]; exact lw w hw
    · intro t ht; rw [ff.1 _ _ (by omega), u _ (by omega)]; exact lc t ht
    · intro t ht k hk
      rw [u _ (by omega)] at hk
      have := cok t ht
      unfold pSz
      rw [ff.1 _ _ (by omega), u _ (by omega)]; exact ls t ht k hk
    · intro m hmm
      rw [unP_218] at hmm
      obtain ⟨m', a, bb, e0, e1, e2⟩ := unP_un hi m hmm
      rw [e0, e1, e2]
      have ht := lt m' a
      by_cases c : m < i
      · rw [if_pos c] at bb
        subst bb
        rw [ff.1 _ _ (by omega), ff.1 _ _ (by omega), ff.1 _ _ (by omega)]; exact ht
      · rw [if_neg c] at bb
        subst bb
        have := hm (m - i) (by omega)
        rw [show i + (m - i) = m by omega] at this
        rw [this.1, this.2.1, this.2.2]; exact ht
/-! the model takes ties out -/
theorem untie7 {P : Nat → Nat} (hb : tb P) {i : Nat} {M : zMM} (hM : MNow M P) (hi : i < P 218) :
    ∃ M', fX7_untie (zN i) M = some M' ∧ MNow M' (unP P i) ∧ fr (fun c _ => c = 159) M M' := by
  have h12 := hb.1
  have m8 := hM 218 (by omega)
  have f0 : fr (fun c _ => c = 159) M (wr M 159 218 (zN (P 218 - 1))) := fr_wr (fr_refl _ _) (by omega)
  obtain ⟨M1, e1, h1, f1⟩ := cpUp (fX7_untie_20 (zN i)) (fX7_untie_60 (zN i) zFU 0) (fun l => zN (219 + 3 * i + l)) (3 * (P 218 - 1) - 3 * i) 159 159 (219 + 3 * i + 3) (219 + 3 * i) (by omega) (wr M 159 218 (zN (P 218 - 1))) (by
    intro n l M' hl hf
    have k8 : M'.1 159 218 = zN (P 218 - 1) := by rw [hf.1 _ _ (by omega), wr_cj]
    rw [fX7_untie_20]
    simp (disch := omega) only [wr_cj, wr_nj, rng_in, rng_out, zN_lit, zN_add, zN_mul, zN_sub, zN_ltT, zN_ltF, zN_leT, zN_leF, zN_eqT, zN_eqF, zN_lt, zN_le, zN_eq, zN_nat, zN_oobF, Option.bind_some, ↓reduceIte, Nat.one_mul, Nat.zero_add, Nat.add_zero, Nat.reduceAdd, Nat.reduceMul, Nat.reduceSub, Nat.reduceLT, Nat.reduceLeDiff, Nat.reduceEqDiff, reduceCtorEq, true_or, or_true, false_or, or_false, true_and, and_true, false_and, and_false, not_true_eq_false, not_false_eq_true, wr_2, wrL_1, zm_eqF, zm_eqF', zm_lt, zm_lt', zm_le, zm_le', zm_sub1, zN_01, Nat.mul_zero, Nat.zero_mul, Nat.mul_one, Nat.sub_zero, Nat.sub_self, Nat.add_sub_cancel, k8]
    rw [show 219 + 3 * i + l + 3 = 219 + 3 * i + 3 + l by omega, show 219 + 3 * i + l + 1 = 219 + 3 * i + (l + 1) by omega]) (by
    intro n M' hf
    have k8 : M'.1 159 218 = zN (P 218 - 1) := by rw [hf.1 _ _ (by omega), wr_cj]
    rw [fX7_untie_20]
    simp (disch := omega) only [wr_cj, wr_nj, rng_in, rng_out, zN_lit, zN_add, zN_mul, zN_sub, zN_ltT, zN_ltF, zN_leT, zN_leF, zN_eqT, zN_eqF, zN_lt, zN_le, zN_eq, zN_nat, zN_oobF, Option.bind_some, ↓reduceIte, Nat.one_mul, Nat.zero_add, Nat.add_zero, Nat.reduceAdd, Nat.reduceMul, Nat.reduceSub, Nat.reduceLT, Nat.reduceLeDiff, Nat.reduceEqDiff, reduceCtorEq, true_or, or_true, false_or, or_false, true_and, and_true, false_and, and_false, not_true_eq_false, not_false_eq_true, wr_2, wrL_1, zm_eqF, zm_eqF', zm_lt, zm_lt', zm_le, zm_le', zm_sub1, zN_01, Nat.mul_zero, Nat.zero_mul, Nat.mul_one, Nat.sub_zero, Nat.sub_self, Nat.add_sub_cancel, k8]) zFU (by rw [zFU_eq]; omega)
  have k8 : M1.1 159 218 = zN (P 218 - 1) := by rw [f1.1 _ _ (by omega), wr_cj]
  refine ⟨wr (wr (wr M1 159 (219 + 3 * (P 218 - 1)) (zN 0)) 159 (219 + 3 * (P 218 - 1) + 1) (zN 0)) 159 (219 + 3 * (P 218 - 1) + 2) (zN 0), ?_, ?_, ?_⟩
  · unfold fX7_untie
    simp (disch := omega) only [wr_cj, wr_nj, rng_in, rng_out, zN_lit, zN_add, zN_mul, zN_sub, zN_ltT, zN_ltF, zN_leT, zN_leF, zN_eqT, zN_eqF, zN_lt, zN_le, zN_eq, zN_nat, zN_oobF, Option.bind_some, ↓reduceIte, Nat.one_mul, Nat.zero_add, Nat.add_zero, Nat.reduceAdd, Nat.reduceMul, Nat.reduceSub, Nat.reduceLT, Nat.reduceLeDiff, Nat.reduceEqDiff, reduceCtorEq, true_or, or_true, false_or, or_false, true_and, and_true, false_and, and_false, not_true_eq_false, not_false_eq_true, wr_2, wrL_1, zm_eqF, zm_eqF', zm_lt, zm_lt', zm_le, zm_le', zm_sub1, zN_01, Nat.mul_zero, Nat.zero_mul, Nat.mul_one, Nat.sub_zero, Nat.sub_self, Nat.add_sub_cancel, m8]
    refine Eq.trans e1 ?_
    have gen : ∀ f, fX7_untie_60 (zN i) (f + 1 + 1 + 1 + 1) 0 M1 = some (wr (wr (wr M1 159 (219 + 3 * (P 218 - 1)) (zN 0)) 159 (219 + 3 * (P 218 - 1) + 1) (zN 0)) 159 (219 + 3 * (P 218 - 1) + 2) (zN 0)) := by
      intro f
      rw [fX7_untie_60]; simp (disch := omega) only [wr_cj, wr_nj, rng_in, rng_out, zN_lit, zN_add, zN_mul, zN_sub, zN_ltT, zN_ltF, zN_leT, zN_leF, zN_eqT, zN_eqF, zN_lt, zN_le, zN_eq, zN_nat, zN_oobF, Option.bind_some, ↓reduceIte, Nat.one_mul, Nat.zero_add, Nat.add_zero, Nat.reduceAdd, Nat.reduceMul, Nat.reduceSub, Nat.reduceLT, Nat.reduceLeDiff, Nat.reduceEqDiff, reduceCtorEq, true_or, or_true, false_or, or_false, true_and, and_true, false_and, and_false, not_true_eq_false, not_false_eq_true, wr_2, wrL_1, zm_eqF, zm_eqF', zm_lt, zm_lt', zm_le, zm_le', zm_sub1, zN_01, Nat.mul_zero, Nat.zero_mul, Nat.mul_one, Nat.sub_zero, Nat.sub_self, Nat.add_sub_cancel, k8]
      rw [fX7_untie_60]; simp (disch := omega) only [wr_cj, wr_nj, rng_in, rng_out, zN_lit, zN_add, zN_mul, zN_sub, zN_ltT, zN_ltF, zN_leT, zN_leF, zN_eqT, zN_eqF, zN_lt, zN_le, zN_eq, zN_nat, zN_oobF, Option.bind_some, ↓reduceIte, Nat.one_mul, Nat.zero_add, Nat.add_zero, Nat.reduceAdd, Nat.reduceMul, Nat.reduceSub, Nat.reduceLT, Nat.reduceLeDiff, Nat.reduceEqDiff, reduceCtorEq, true_or, or_true, false_or, or_false, true_and, and_true, false_and, and_false, not_true_eq_false, not_false_eq_true, wr_2, wrL_1, zm_eqF, zm_eqF', zm_lt, zm_lt', zm_le, zm_le', zm_sub1, zN_01, Nat.mul_zero, Nat.zero_mul, Nat.mul_one, Nat.sub_zero, Nat.sub_self, Nat.add_sub_cancel, k8]
      rw [fX7_untie_60]; simp (disch := omega) only [wr_cj, wr_nj, rng_in, rng_out, zN_lit, zN_add, zN_mul, zN_sub, zN_ltT, zN_ltF, zN_leT, zN_leF, zN_eqT, zN_eqF, zN_lt, zN_le, zN_eq, zN_nat, zN_oobF, Option.bind_some, ↓reduceIte, Nat.one_mul, Nat.zero_add, Nat.add_zero, Nat.reduceAdd, Nat.reduceMul, Nat.reduceSub, Nat.reduceLT, Nat.reduceLeDiff, Nat.reduceEqDiff, reduceCtorEq, true_or, or_true, false_or, or_false, true_and, and_true, false_and, and_false, not_true_eq_false, not_false_eq_true, wr_2, wrL_1, zm_eqF, zm_eqF', zm_lt, zm_lt', zm_le, zm_le', zm_sub1, zN_01, Nat.mul_zero, Nat.zero_mul, Nat.mul_one, Nat.sub_zero, Nat.sub_self, Nat.add_sub_cancel, k8]
      rw [fX7_untie_60]; simp (disch := omega) only [wr_cj, wr_nj, rng_in, rng_out, zN_lit, zN_add, zN_mul, zN_sub, zN_ltT, zN_ltF, zN_leT, zN_leF, zN_eqT, zN_eqF, zN_lt, zN_le, zN_eq, zN_nat, zN_oobF, Option.bind_some, ↓reduceIte, Nat.one_mul, Nat.zero_add, Nat.add_zero, Nat.reduceAdd, Nat.reduceMul, Nat.reduceSub, Nat.reduceLT, Nat.reduceLeDiff, Nat.reduceEqDiff, reduceCtorEq, true_or, or_true, false_or, or_false, true_and, and_true, false_and, and_false, not_true_eq_false, not_false_eq_true, wr_2, wrL_1, zm_eqF, zm_eqF', zm_lt, zm_lt', zm_le, zm_le', zm_sub1, zN_01, Nat.mul_zero, Nat.zero_mul, Nat.mul_one, Nat.sub_zero, Nat.sub_self, Nat.add_sub_cancel]
    exact gen 2147483644
  · intro j hj
    unfold unP
    by_cases c0 : j = 218
    · rw [if_pos c0, c0, wr_nj (by omega), wr_nj (by omega), wr_nj (by omega)]; exact k8
    · rw [if_neg c0]
      by_cases c1 : 219 + 3 * i ≤ j ∧ j < 219 + 3 * (P 218 - 1)
      · rw [if_pos c1, wr_nj (by omega), wr_nj (by omega), wr_nj (by omega)]
        have := h1 (j - (219 + 3 * i)) (by omega)
        rw [show 219 + 3 * i + (j - (219 + 3 * i)) = j by omega, show 219 + 3 * i + 3 + (j - (219 + 3 * i)) = j + 3 by omega] at this
        rw [this, wr_nj (by omega)]; exact hM _ (by omega)
      · rw [if_neg c1]
        by_cases c2 : 219 + 3 * (P 218 - 1) ≤ j ∧ j < 219 + 3 * (P 218 - 1) + 3
        · rw [if_pos c2]
          by_cases d2 : j = 219 + 3 * (P 218 - 1) + 2
          · rw [d2, wr_cj]
          · by_cases d1 : j = 219 + 3 * (P 218 - 1) + 1
            · rw [d1, wr_nj (by omega), wr_cj]
            · rw [show j = 219 + 3 * (P 218 - 1) by omega, wr_nj (by omega), wr_nj (by omega), wr_cj]
        · rw [if_neg c2, wr_nj (by omega), wr_nj (by omega), wr_nj (by omega), f1.1 _ _ (by omega), wr_nj (by omega)]; exact hM _ hj
  · exact fr_wr (fr_wr (fr_wr (fr_trans f0 (fr_mono f1 (fun c j hc => by omega))) (by omega)) (by omega)) (by omega)
/-! ties moved, step by step -/
theorem shN_0 (P : Nat → Nat) (t k : Nat) (f : Nat → Nat) : shN P t k f 0 = P := by
  funext j; unfold shN; rw [if_neg (by omega)]
def tx (t i : Nat) : Nat := if t = 0 then 221 + 3 * i else 220 + 3 * i
theorem shN_S (P : Nat → Nat) (t k : Nat) (f : Nat → Nat) (i : Nat) : shN P t k f (i + 1) = if (t = 0 ∨ P (219 + 3 * i) = t) ∧ k ≤ P (tx t i) then up (shN P t k f i) (tx t i) (f (P (tx t i))) else shN P t k f i := by
  funext j
  unfold tx
  by_cases ht : t = 0
  · subst ht
    simp only [if_true, true_or, true_and]
    by_cases c : k ≤ P (221 + 3 * i)
    · rw [if_pos c]
      by_cases e : j = 221 + 3 * i
      · subst e; rw [up_eq]; unfold shN; rw [if_pos ⟨by omega, by omega, by simp only [if_true]; omega, Or.inl rfl, c⟩]
      · rw [up_ne e]; unfold shN
        simp only [if_true, true_or, true_and]
        by_cases d : 219 ≤ j ∧ j < 219 + 3 * i ∧ (j - 219) % 3 = 2 ∧ k ≤ P j
        · rw [if_pos (by omega), if_pos d]
        · rw [if_neg (by omega), if_neg d]
    · rw [if_neg c]; unfold shN
      simp only [if_true, true_or, true_and]
      by_cases e : j = 221 + 3 * i
      · subst e; rw [if_neg (by omega), if_neg (by omega)]
      · by_cases d : 219 ≤ j ∧ j < 219 + 3 * i ∧ (j - 219) % 3 = 2 ∧ k ≤ P j
        · rw [if_pos (by omega), if_pos d]
        · rw [if_neg (by omega), if_neg d]
  · simp only [ht, if_false, false_or]
    by_cases c : P (219 + 3 * i) = t ∧ k ≤ P (220 + 3 * i)
    · rw [if_pos c]
      by_cases e : j = 220 + 3 * i
      · subst e; rw [up_eq]; unfold shN; rw [if_pos ⟨by omega, by omega, by rw [if_neg ht]; omega, Or.inr (by rw [show 220 + 3 * i - 1 = 219 + 3 * i by omega]; exact c.1), c.2⟩]
      · rw [up_ne e]; unfold shN
        simp only [ht, if_false, false_or]
        by_cases d : 219 ≤ j ∧ j < 219 + 3 * i ∧ (j - 219) % 3 = 1 ∧ P (j - 1) = t ∧ k ≤ P j
        · rw [if_pos (by omega), if_pos d]
        · rw [if_neg (by omega), if_neg d]
    · rw [if_neg c]; unfold shN
      simp only [ht, if_false, false_or]
      by_cases e : j = 220 + 3 * i
      · subst e
        rw [show 220 + 3 * i - 1 = 219 + 3 * i by omega, if_neg (by omega), if_neg (by omega)]
      · by_cases d : 219 ≤ j ∧ j < 219 + 3 * i ∧ (j - 219) % 3 = 1 ∧ P (j - 1) = t ∧ k ≤ P j
        · rw [if_pos (by omega), if_pos d]
        · rw [if_neg (by omega), if_neg d]
theorem shN_out {P : Nat → Nat} {t k : Nat} {f : Nat → Nat} {n j : Nat} (h : j < 219 ∨ 219 + 3 * n ≤ j ∨ (j - 219) % 3 = 0) : shN P t k f n j = P j := by
  unfold shN
  by_cases ht : t = 0
  · subst ht; simp only [if_true, true_or, true_and]; rw [if_neg (by omega)]
  · simp only [ht, if_false, false_or]; rw [if_neg (by omega)]
theorem Leaf_upT1 {M : zMM} {b v i : Nat} {P : Nat → Nat} (hi : i < 12) (cok : ∀ t, t < 3 → P (5 + t) ≤ 70) (h : Leaf M b P) : Leaf (wr M (b + 8) i (zN v)) b (up P (220 + 3 * i) v) := by
  obtain ⟨⟨l0, l1, l2, l3, l4, l5, l6⟩, lw, lc, ls, lt⟩ := h
  refine ⟨⟨by rw [wr_nj (by omega), up_ne (by omega)]; exact l0, by rw [wr_nj (by omega), up_ne (by omega)]; exact l1, by rw [wr_nj (by omega), up_ne (by omega)]; exact l2, by rw [wr_nj (by omega), up_ne (by omega)]; exact l3, by rw [wr_nj (by omega), up_ne (by omega)]; exact l4, by rw [wr_nj (by omega), up_ne (by omega)]; exact l5, by rw [wr_nj (by omega), up_ne (by omega)]; exact l6⟩, fun w hw => ?_, fun t ht => ?_, fun t ht k hk => ?_, fun m hm => ?_⟩
  · rw [wr_nj (by omega), up_ne (by omega)]; exact lw w hw
  · rw [wr_nj (by omega), up_ne (by omega)]; exact lc t ht
  · rw [up_ne (by omega)] at hk
    have := cok t ht
    rw [wr_nj (by omega)]; unfold pSz; rw [up_ne (by omega)]; exact ls t ht k hk
  · rw [up_ne (by omega)] at hm
    have := lt m hm
    by_cases e : m = i
    · subst e; rw [wr_nj (by omega), wr_cj, wr_nj (by omega), up_ne (by omega), up_eq, up_ne (by omega)]; exact ⟨this.1, rfl, this.2.2⟩
    · rw [wr_nj (by omega), wr_nj (by omega), wr_nj (by omega), up_ne (by omega), up_ne (by omega), up_ne (by omega)]; exact this
theorem Leaf_upT2 {M : zMM} {b v i : Nat} {P : Nat → Nat} (hi : i < 12) (cok : ∀ t, t < 3 → P (5 + t) ≤ 70) (h : Leaf M b P) : Leaf (wr M (b + 9) i (zN v)) b (up P (221 + 3 * i) v) := by
  obtain ⟨⟨l0, l1, l2, l3, l4, l5, l6⟩, lw, lc, ls, lt⟩ := h
  refine ⟨⟨by rw [wr_nj (by omega), up_ne (by omega)]; exact l0, by rw [wr_nj (by omega), up_ne (by omega)]; exact l1, by rw [wr_nj (by omega), up_ne (by omega)]; exact l2, by rw [wr_nj (by omega), up_ne (by omega)]; exact l3, by rw [wr_nj (by omega), up_ne (by omega)]; exact l4, by rw [wr_nj (by omega), up_ne (by omega)]; exact l5, by rw [wr_nj (by omega), up_ne (by omega)]; exact l6⟩, fun w hw => ?_, fun t ht => ?_, fun t ht k hk => ?_, fun m hm => ?_⟩
  · rw [wr_nj (by omega), up_ne (by omega)]; exact lw w hw
  · rw [wr_nj (by omega), up_ne (by omega)]; exact lc t ht
  · rw [up_ne (by omega)] at hk
    have := cok t ht
    rw [wr_nj (by omega)]; unfold pSz; rw [up_ne (by omega)]; exact ls t ht k hk
  · rw [up_ne (by omega)] at hm
    have := lt m hm
    by_cases e : m = i
    · subst e; rw [wr_nj (by omega), wr_nj (by omega), wr_cj, up_ne (by omega), up_ne (by omega), up_eq]; exact ⟨this.1, this.2.1, rfl⟩
    · rw [wr_nj (by omega), wr_nj (by omega), wr_nj (by omega), up_ne (by omega), up_ne (by omega), up_ne (by omega)]; exact this
theorem Leaf_same {M : zMM} {b c j : Nat} {P : Nat → Nat} {v : Int32} (h : Leaf M b P) (e : M.1 c j = v) : Leaf (wr M c j v) b P :=
  Leaf_eq h (fun c' j' _ _ => by
    by_cases q : c' = c ∧ j' = j
    · rw [q.1, q.2, wr_cj, e]
    · rw [wr_nj (by omega)])
theorem moveTies0 {P : Nat → Nat} (hb : tb P) (cok : ∀ t, t < 3 → P (5 + t) ≤ 70) {b t k : Nat} {a3 : Int32} {f : Nat → Nat} (ht : t < 3) (hk : k < 1000) (hf : ∀ i, i < P 218 → (t = 0 ∨ P (219 + 3 * i) = t) → k ≤ P (tx t i) → zN (P (tx t i)) + a3 = zN (f (P (tx t i)))) {M : zMM} (hL : Leaf M b P) :
    ∃ M', fX0_moveTies b (zN t) (zN k) a3 M = some M' ∧ Leaf M' b (shN P t k f (P 218)) ∧ fr (fun c _ => b + 8 ≤ c ∧ c ≤ b + 9) M M' := by
  have h12 := hb.1
  have key := loopE (fun n (s : Nat × zMM) => fX0_moveTies_3 b (zN t) (zN k) a3 n (zN s.1) s.2)
    (fun i s => s.1 = i ∧ Leaf s.2 b (shN P t k f i) ∧ fr (fun c _ => b + 8 ≤ c ∧ c ≤ b + 9) M s.2)
    (P 218)
    (fun r => ∃ M', r = some M' ∧ Leaf M' b (shN P t k f (P 218)) ∧ fr (fun c _ => b + 8 ≤ c ∧ c ≤ b + 9) M M')
    (by
      rintro i n ⟨i0, M'⟩ hi ⟨rfl, h1, h2⟩
      right
      dsimp only at h1 h2 hi ⊢
      have l6 := h1.1.2.2.2.2.2.2
      rw [shN_out (by omega)] at l6
      have lt := h1.2.2.2.2 i0 (by rw [shN_out (by omega)]; exact hi)
      rw [shN_out (j := 219 + 3 * i0) (by omega), shN_out (j := 220 + 3 * i0) (by omega), shN_out (j := 221 + 3 * i0) (by omega)] at lt
      obtain ⟨t0, t1, t2⟩ := lt
      have hbi := hb.2 i0 hi
      have hfi := hf i0 hi
      have cok' : ∀ u, u < 3 → shN P t k f i0 (5 + u) ≤ 70 := fun u hu => by rw [shN_out (by omega)]; exact cok u hu
      have hS := shN_S P t k f i0
      have z0 : ∀ x, zN x + zN 0 = zN x := fun x => by rw [zN_add]; rfl
      by_cases e0 : t = 0
      · subst e0
        simp only [tx, if_true, true_or, true_and, true_implies] at hS hfi
        by_cases c : k ≤ P (221 + 3 * i0)
        · rw [if_pos c] at hS
          have hv := hfi c
          refine ⟨(i0 + 1, wr M' (b + 9) i0 (zN (f (P (221 + 3 * i0))))), ?_, rfl, ?_, fr_wr h2 (by omega)⟩
          · rw [fX0_moveTies_3]; simp (disch := omega) only [wr_cj, wr_nj, rng_in, rng_out, zN_lit, zN_add, zN_mul, zN_sub, zN_ltT, zN_ltF, zN_leT, zN_leF, zN_eqT, zN_eqF, zN_lt, zN_le, zN_eq, zN_nat, zN_oobF, Option.bind_some, ↓reduceIte, Nat.one_mul, Nat.zero_add, Nat.add_zero, Nat.reduceAdd, Nat.reduceMul, Nat.reduceSub, Nat.reduceLT, Nat.reduceLeDiff, Nat.reduceEqDiff, reduceCtorEq, true_or, or_true, false_or, or_false, true_and, and_true, false_and, and_false, not_true_eq_false, not_false_eq_true, wr_2, wrL_1, zm_eqF, zm_eqF', zm_lt, zm_lt', zm_le, zm_le', zm_sub1, zN_01, Nat.mul_zero, Nat.zero_mul, Nat.mul_one, Nat.sub_zero, Nat.sub_self, Nat.add_sub_cancel, l6, t2, fX0_moveTies_40, fX0_moveTies_82, hv]
          · rw [hS]; exact Leaf_upT2 (by omega) cok' h1
        · rw [if_neg c] at hS
          refine ⟨(i0 + 1, wr M' (b + 9) i0 (zN (P (221 + 3 * i0)))), ?_, rfl, ?_, fr_wr h2 (by omega)⟩
          · rw [fX0_moveTies_3]; simp (disch := omega) only [wr_cj, wr_nj, rng_in, rng_out, zN_lit, zN_add, zN_mul, zN_sub, zN_ltT, zN_ltF, zN_leT, zN_leF, zN_eqT, zN_eqF, zN_lt, zN_le, zN_eq, zN_nat, zN_oobF, Option.bind_some, ↓reduceIte, Nat.one_mul, Nat.zero_add, Nat.add_zero, Nat.reduceAdd, Nat.reduceMul, Nat.reduceSub, Nat.reduceLT, Nat.reduceLeDiff, Nat.reduceEqDiff, reduceCtorEq, true_or, or_true, false_or, or_false, true_and, and_true, false_and, and_false, not_true_eq_false, not_false_eq_true, wr_2, wrL_1, zm_eqF, zm_eqF', zm_lt, zm_lt', zm_le, zm_le', zm_sub1, zN_01, Nat.mul_zero, Nat.zero_mul, Nat.mul_one, Nat.sub_zero, Nat.sub_self, Nat.add_sub_cancel, l6, t2, fX0_moveTies_40, fX0_moveTies_82]
          · rw [hS]; exact Leaf_same h1 t2
      · simp only [tx, e0, if_false, false_or] at hS hfi
        by_cases d : P (219 + 3 * i0) = t
        · by_cases c : k ≤ P (220 + 3 * i0)
          · rw [if_pos ⟨d, c⟩] at hS
            have hv := hfi d c
            rw [d] at t0
            refine ⟨(i0 + 1, wr M' (b + 8) i0 (zN (f (P (220 + 3 * i0))))), ?_, rfl, ?_, fr_wr h2 (by omega)⟩
            · rw [fX0_moveTies_3]; simp (disch := omega) only [wr_cj, wr_nj, rng_in, rng_out, zN_lit, zN_add, zN_mul, zN_sub, zN_ltT, zN_ltF, zN_leT, zN_leF, zN_eqT, zN_eqF, zN_lt, zN_le, zN_eq, zN_nat, zN_oobF, Option.bind_some, ↓reduceIte, Nat.one_mul, Nat.zero_add, Nat.add_zero, Nat.reduceAdd, Nat.reduceMul, Nat.reduceSub, Nat.reduceLT, Nat.reduceLeDiff, Nat.reduceEqDiff, reduceCtorEq, true_or, or_true, false_or, or_false, true_and, and_true, false_and, and_false, not_true_eq_false, not_false_eq_true, wr_2, wrL_1, zm_eqF, zm_eqF', zm_lt, zm_lt', zm_le, zm_le', zm_sub1, zN_01, Nat.mul_zero, Nat.zero_mul, Nat.mul_one, Nat.sub_zero, Nat.sub_self, Nat.add_sub_cancel, l6, t0, t1, fX0_moveTies_80, fX0_moveTies_82, hv]
            · rw [hS]; exact Leaf_upT1 (by omega) cok' h1
          · rw [if_neg (by omega)] at hS
            rw [d] at t0
            refine ⟨(i0 + 1, wr M' (b + 8) i0 (zN (P (220 + 3 * i0)))), ?_, rfl, ?_, fr_wr h2 (by omega)⟩
            · rw [fX0_moveTies_3]; simp (disch := omega) only [wr_cj, wr_nj, rng_in, rng_out, zN_lit, zN_add, zN_mul, zN_sub, zN_ltT, zN_ltF, zN_leT, zN_leF, zN_eqT, zN_eqF, zN_lt, zN_le, zN_eq, zN_nat, zN_oobF, Option.bind_some, ↓reduceIte, Nat.one_mul, Nat.zero_add, Nat.add_zero, Nat.reduceAdd, Nat.reduceMul, Nat.reduceSub, Nat.reduceLT, Nat.reduceLeDiff, Nat.reduceEqDiff, reduceCtorEq, true_or, or_true, false_or, or_false, true_and, and_true, false_and, and_false, not_true_eq_false, not_false_eq_true, wr_2, wrL_1, zm_eqF, zm_eqF', zm_lt, zm_lt', zm_le, zm_le', zm_sub1, zN_01, Nat.mul_zero, Nat.zero_mul, Nat.mul_one, Nat.sub_zero, Nat.sub_self, Nat.add_sub_cancel, l6, t0, t1, fX0_moveTies_80, fX0_moveTies_82]
            · rw [hS]; exact Leaf_same h1 t1
        · rw [if_neg (by omega)] at hS
          refine ⟨(i0 + 1, M'), ?_, rfl, ?_, h2⟩
          · rw [fX0_moveTies_3]; simp (disch := omega) only [wr_cj, wr_nj, rng_in, rng_out, zN_lit, zN_add, zN_mul, zN_sub, zN_ltT, zN_ltF, zN_leT, zN_leF, zN_eqT, zN_eqF, zN_lt, zN_le, zN_eq, zN_nat, zN_oobF, Option.bind_some, ↓reduceIte, Nat.one_mul, Nat.zero_add, Nat.add_zero, Nat.reduceAdd, Nat.reduceMul, Nat.reduceSub, Nat.reduceLT, Nat.reduceLeDiff, Nat.reduceEqDiff, reduceCtorEq, true_or, or_true, false_or, or_false, true_and, and_true, false_and, and_false, not_true_eq_false, not_false_eq_true, wr_2, wrL_1, zm_eqF, zm_eqF', zm_lt, zm_lt', zm_le, zm_le', zm_sub1, zN_01, Nat.mul_zero, Nat.zero_mul, Nat.mul_one, Nat.sub_zero, Nat.sub_self, Nat.add_sub_cancel, l6, t0, t1, fX0_moveTies_82]
          · rw [hS]; exact h1)
    (by
      rintro n ⟨i0, M'⟩ ⟨rfl, h1, h2⟩
      dsimp only at h1 h2 ⊢
      have l6 := h1.1.2.2.2.2.2.2
      rw [shN_out (by omega)] at l6
      refine ⟨M', ?_, h1, h2⟩
      rw [fX0_moveTies_3]; simp (disch := omega) only [wr_cj, wr_nj, rng_in, rng_out, zN_lit, zN_add, zN_mul, zN_sub, zN_ltT, zN_ltF, zN_leT, zN_leF, zN_eqT, zN_eqF, zN_lt, zN_le, zN_eq, zN_nat, zN_oobF, Option.bind_some, ↓reduceIte, Nat.one_mul, Nat.zero_add, Nat.add_zero, Nat.reduceAdd, Nat.reduceMul, Nat.reduceSub, Nat.reduceLT, Nat.reduceLeDiff, Nat.reduceEqDiff, reduceCtorEq, true_or, or_true, false_or, or_false, true_and, and_true, false_and, and_false, not_true_eq_false, not_false_eq_true, wr_2, wrL_1, zm_eqF, zm_eqF', zm_lt, zm_lt', zm_le, zm_le', zm_sub1, zN_01, Nat.mul_zero, Nat.zero_mul, Nat.mul_one, Nat.sub_zero, Nat.sub_self, Nat.add_sub_cancel, l6])
    zFU (0, M) (by rw [zFU_eq]; omega) ⟨rfl, by rw [shN_0]; exact hL, fr_refl _ _⟩
  exact key
theorem shiftTies7 {P : Nat → Nat} (hb : tb P) {t k : Nat} {a3 : Int32} {f : Nat → Nat} (ht : t < 3) (hk : k < 1000) (hf : ∀ i, i < P 218 → (t = 0 ∨ P (219 + 3 * i) = t) → k ≤ P (tx t i) → zN (P (tx t i)) + a3 = zN (f (P (tx t i)))) {M : zMM} (hM : MNow M P) :
    ∃ M', fX7_shiftTies (zN t) (zN k) a3 M = some M' ∧ MNow M' (shN P t k f (P 218)) ∧ fr (fun c _ => c = 159) M M' := by
  have h12 := hb.1
  have key := loopE (fun n (s : Nat × zMM) => fX7_shiftTies_3 (zN t) (zN k) a3 n (zN s.1) s.2)
    (fun i s => s.1 = i ∧ MNow s.2 (shN P t k f i) ∧ fr (fun c _ => c = 159) M s.2)
    (P 218)
    (fun r => ∃ M', r = some M' ∧ MNow M' (shN P t k f (P 218)) ∧ fr (fun c _ => c = 159) M M')
    (by
      rintro i n ⟨i0, M'⟩ hi ⟨rfl, h1, h2⟩
      right
      dsimp only at h1 h2 hi ⊢
      have l6 := h1 218 (by omega)
      rw [shN_out (by omega)] at l6
      have t0 := h1 (219 + 3 * i0) (by omega)
      have t1 := h1 (220 + 3 * i0) (by omega)
      have t2 := h1 (221 + 3 * i0) (by omega)
      rw [shN_out (by omega)] at t0 t1 t2
      have td := tied7 h1 (i := i0) (j := 0) (by omega)
      rw [Nat.add_zero, shN_out (by omega)] at td
      have hbi := hb.2 i0 hi
      have hfi := hf i0 hi
      have hS := shN_S P t k f i0
      have e1 : 219 + 3 * i0 + 1 = 220 + 3 * i0 := by omega
      have e2 : 219 + 3 * i0 + 2 = 221 + 3 * i0 := by omega
      by_cases e0 : t = 0
      · subst e0
        simp only [tx, if_true, true_or, true_and, true_implies] at hS hfi
        by_cases c : k ≤ P (221 + 3 * i0)
        · rw [if_pos c] at hS
          have hv := hfi c
          refine ⟨(i0 + 1, wr M' 159 (221 + 3 * i0) (zN (f (P (221 + 3 * i0))))), ?_, rfl, ?_, fr_wr h2 (by omega)⟩
          · rw [fX7_shiftTies_3]; simp (disch := omega) only [wr_cj, wr_nj, rng_in, rng_out, zN_lit, zN_add, zN_mul, zN_sub, zN_ltT, zN_ltF, zN_leT, zN_leF, zN_eqT, zN_eqF, zN_lt, zN_le, zN_eq, zN_nat, zN_oobF, Option.bind_some, ↓reduceIte, Nat.one_mul, Nat.zero_add, Nat.add_zero, Nat.reduceAdd, Nat.reduceMul, Nat.reduceSub, Nat.reduceLT, Nat.reduceLeDiff, Nat.reduceEqDiff, reduceCtorEq, true_or, or_true, false_or, or_false, true_and, and_true, false_and, and_false, not_true_eq_false, not_false_eq_true, wr_2, wrL_1, zm_eqF, zm_eqF', zm_lt, zm_lt', zm_le, zm_le', zm_sub1, zN_01, Nat.mul_zero, Nat.zero_mul, Nat.mul_one, Nat.sub_zero, Nat.sub_self, Nat.add_sub_cancel, l6, e2, t2, fX7_shiftTies_33, fX7_shiftTies_51, fX7_shiftTies_73, hv]
          · rw [hS]; exact MNow_up h1
        · rw [if_neg c] at hS
          refine ⟨(i0 + 1, M'), ?_, rfl, ?_, h2⟩
          · rw [fX7_shiftTies_3]; simp (disch := omega) only [wr_cj, wr_nj, rng_in, rng_out, zN_lit, zN_add, zN_mul, zN_sub, zN_ltT, zN_ltF, zN_leT, zN_leF, zN_eqT, zN_eqF, zN_lt, zN_le, zN_eq, zN_nat, zN_oobF, Option.bind_some, ↓reduceIte, Nat.one_mul, Nat.zero_add, Nat.add_zero, Nat.reduceAdd, Nat.reduceMul, Nat.reduceSub, Nat.reduceLT, Nat.reduceLeDiff, Nat.reduceEqDiff, reduceCtorEq, true_or, or_true, false_or, or_false, true_and, and_true, false_and, and_false, not_true_eq_false, not_false_eq_true, wr_2, wrL_1, zm_eqF, zm_eqF', zm_lt, zm_lt', zm_le, zm_le', zm_sub1, zN_01, Nat.mul_zero, Nat.zero_mul, Nat.mul_one, Nat.sub_zero, Nat.sub_self, Nat.add_sub_cancel, l6, e2, t2, fX7_shiftTies_33, fX7_shiftTies_51, fX7_shiftTies_73]
          · rw [hS]; exact h1
      · simp only [tx, e0, if_false, false_or] at hS hfi
        by_cases d : P (219 + 3 * i0) = t
        · by_cases c : k ≤ P (220 + 3 * i0)
          · rw [if_pos ⟨d, c⟩] at hS
            have hv := hfi d c
            rw [d] at td
            refine ⟨(i0 + 1, wr M' 159 (220 + 3 * i0) (zN (f (P (220 + 3 * i0))))), ?_, rfl, ?_, fr_wr h2 (by omega)⟩
            · rw [fX7_shiftTies_3]; simp (disch := omega) only [wr_cj, wr_nj, rng_in, rng_out, zN_lit, zN_add, zN_mul, zN_sub, zN_ltT, zN_ltF, zN_leT, zN_leF, zN_eqT, zN_eqF, zN_lt, zN_le, zN_eq, zN_nat, zN_oobF, Option.bind_some, ↓reduceIte, Nat.one_mul, Nat.zero_add, Nat.add_zero, Nat.reduceAdd, Nat.reduceMul, Nat.reduceSub, Nat.reduceLT, Nat.reduceLeDiff, Nat.reduceEqDiff, reduceCtorEq, true_or, or_true, false_or, or_false, true_and, and_true, false_and, and_false, not_true_eq_false, not_false_eq_true, wr_2, wrL_1, zm_eqF, zm_eqF', zm_lt, zm_lt', zm_le, zm_le', zm_sub1, zN_01, Nat.mul_zero, Nat.zero_mul, Nat.mul_one, Nat.sub_zero, Nat.sub_self, Nat.add_sub_cancel, l6, e1, td, t1, fX7_shiftTies_33, fX7_shiftTies_51, fX7_shiftTies_73, hv]
            · rw [hS]; exact MNow_up h1
          · rw [if_neg (by omega)] at hS
            rw [d] at td
            refine ⟨(i0 + 1, M'), ?_, rfl, ?_, h2⟩
            · rw [fX7_shiftTies_3]; simp (disch := omega) only [wr_cj, wr_nj, rng_in, rng_out, zN_lit, zN_add, zN_mul, zN_sub, zN_ltT, zN_ltF, zN_leT, zN_leF, zN_eqT, zN_eqF, zN_lt, zN_le, zN_eq, zN_nat, zN_oobF, Option.bind_some, ↓reduceIte, Nat.one_mul, Nat.zero_add, Nat.add_zero, Nat.reduceAdd, Nat.reduceMul, Nat.reduceSub, Nat.reduceLT, Nat.reduceLeDiff, Nat.reduceEqDiff, reduceCtorEq, true_or, or_true, false_or, or_false, true_and, and_true, false_and, and_false, not_true_eq_false, not_false_eq_true, wr_2, wrL_1, zm_eqF, zm_eqF', zm_lt, zm_lt', zm_le, zm_le', zm_sub1, zN_01, Nat.mul_zero, Nat.zero_mul, Nat.mul_one, Nat.sub_zero, Nat.sub_self, Nat.add_sub_cancel, l6, e1, td, t1, fX7_shiftTies_33, fX7_shiftTies_51, fX7_shiftTies_73]
            · rw [hS]; exact h1
        · rw [if_neg (by omega)] at hS
          refine ⟨(i0 + 1, M'), ?_, rfl, ?_, h2⟩
          · rw [fX7_shiftTies_3]; simp (disch := omega) only [wr_cj, wr_nj, rng_in, rng_out, zN_lit, zN_add, zN_mul, zN_sub, zN_ltT, zN_ltF, zN_leT, zN_leF, zN_eqT, zN_eqF, zN_lt, zN_le, zN_eq, zN_nat, zN_oobF, Option.bind_some, ↓reduceIte, Nat.one_mul, Nat.zero_add, Nat.add_zero, Nat.reduceAdd, Nat.reduceMul, Nat.reduceSub, Nat.reduceLT, Nat.reduceLeDiff, Nat.reduceEqDiff, reduceCtorEq, true_or, or_true, false_or, or_false, true_and, and_true, false_and, and_false, not_true_eq_false, not_false_eq_true, wr_2, wrL_1, zm_eqF, zm_eqF', zm_lt, zm_lt', zm_le, zm_le', zm_sub1, zN_01, Nat.mul_zero, Nat.zero_mul, Nat.mul_one, Nat.sub_zero, Nat.sub_self, Nat.add_sub_cancel, l6, td, fX7_shiftTies_33, fX7_shiftTies_73]
          · rw [hS]; exact h1)
    (by
      rintro n ⟨i0, M'⟩ ⟨rfl, h1, h2⟩
      dsimp only at h1 h2 ⊢
      have l6 := h1 218 (by omega)
      rw [shN_out (by omega)] at l6
      refine ⟨M', ?_, h1, h2⟩
      rw [fX7_shiftTies_3]; simp (disch := omega) only [wr_cj, wr_nj, rng_in, rng_out, zN_lit, zN_add, zN_mul, zN_sub, zN_ltT, zN_ltF, zN_leT, zN_leF, zN_eqT, zN_eqF, zN_lt, zN_le, zN_eq, zN_nat, zN_oobF, Option.bind_some, ↓reduceIte, Nat.one_mul, Nat.zero_add, Nat.add_zero, Nat.reduceAdd, Nat.reduceMul, Nat.reduceSub, Nat.reduceLT, Nat.reduceLeDiff, Nat.reduceEqDiff, reduceCtorEq, true_or, or_true, false_or, or_false, true_and, and_true, false_and, and_false, not_true_eq_false, not_false_eq_true, wr_2, wrL_1, zm_eqF, zm_eqF', zm_lt, zm_lt', zm_le, zm_le', zm_sub1, zN_01, Nat.mul_zero, Nat.zero_mul, Nat.mul_one, Nat.sub_zero, Nat.sub_self, Nat.add_sub_cancel, l6])
    zFU (0, M) (by rw [zFU_eq]; omega) ⟨rfl, by rw [shN_0]; exact hM, fr_refl _ _⟩
  exact key
