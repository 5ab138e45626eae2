theorem MSt_congr {P : Nat → Nat} {L : List (Nat × Nat)} {d d' : Nat → Nat} {M : zMM} (h : MSt P L d M) (e : ∀ t, t < 3 → d t = d' t) : MSt P L d' M := by
  obtain ⟨h1, h2, h3, h4, h5⟩ := h
  refine ⟨h1, ?_, ?_, h4, ?_⟩
  · rw [← e 0 (by omega), ← e 1 (by omega), ← e 2 (by omega)]; exact h2
  · intro t ht; rw [← e t ht]; exact h3 t ht
  · intro t ht k hk; rw [← e t ht] at hk; exact h5 t ht k hk
theorem MSt_158 {P : Nat → Nat} {L : List (Nat × Nat)} {d : Nat → Nat} {M : zMM} {v : Int32} (h : MSt P L d M) : MSt P L d (wr M 158 14 v) := by
  obtain ⟨h1, h2, h3, h4, h5⟩ := h
  refine ⟨by simp (disch := omega) only [wr_cj, wr_nj, rng_in, rng_out, zN_lit, zN_add, zN_mul, zN_sub, zN_ltT, zN_ltF, zN_leT, zN_leF, zN_eqT, zN_eqF, zN_lt, zN_le, zN_eq, zN_nat, zN_oobF, Option.bind_some, ↓reduceIte, Nat.one_mul, Nat.zero_add, Nat.add_zero, Nat.reduceAdd, Nat.reduceMul, Nat.reduceSub, Nat.reduceLT, Nat.reduceLeDiff, Nat.reduceEqDiff, reduceCtorEq, true_or, or_true, false_or, or_false, true_and, and_true, false_and, and_false, not_true_eq_false, not_false_eq_true, wr_2, wrL_1, zm_eqF, zm_eqF', zm_lt, zm_lt', zm_le, zm_le', zm_sub1, zN_01, Nat.mul_zero, Nat.zero_mul, Nat.mul_one, Nat.sub_zero, Nat.sub_self, h1], h2, ?_, ?_, ?_⟩
  · intro t ht; have := h3 t ht; simp (disch := omega) only [wr_cj, wr_nj, rng_in, rng_out, zN_lit, zN_add, zN_mul, zN_sub, zN_ltT, zN_ltF, zN_leT, zN_leF, zN_eqT, zN_eqF, zN_lt, zN_le, zN_eq, zN_nat, zN_oobF, Option.bind_some, ↓reduceIte, Nat.one_mul, Nat.zero_add, Nat.add_zero, Nat.reduceAdd, Nat.reduceMul, Nat.reduceSub, Nat.reduceLT, Nat.reduceLeDiff, Nat.reduceEqDiff, reduceCtorEq, true_or, or_true, false_or, or_false, true_and, and_true, false_and, and_false, not_true_eq_false, not_false_eq_true, wr_2, wrL_1, zm_eqF, zm_eqF', zm_lt, zm_lt', zm_le, zm_le', zm_sub1, zN_01, Nat.mul_zero, Nat.zero_mul, Nat.mul_one, Nat.sub_zero, Nat.sub_self, this]
  · intro p m t hp; exact Ent_fr (h4 p m t hp) (fun j _ _ => by simp (disch := omega) only [wr_cj, wr_nj, rng_in, rng_out, zN_lit, zN_add, zN_mul, zN_sub, zN_ltT, zN_ltF, zN_leT, zN_leF, zN_eqT, zN_eqF, zN_lt, zN_le, zN_eq, zN_nat, zN_oobF, Option.bind_some, ↓reduceIte, Nat.one_mul, Nat.zero_add, Nat.add_zero, Nat.reduceAdd, Nat.reduceMul, Nat.reduceSub, Nat.reduceLT, Nat.reduceLeDiff, Nat.reduceEqDiff, reduceCtorEq, true_or, or_true, false_or, or_false, true_and, and_true, false_and, and_false, not_true_eq_false, not_false_eq_true, wr_2, wrL_1, zm_eqF, zm_eqF', zm_lt, zm_lt', zm_le, zm_le', zm_sub1, zN_01, Nat.mul_zero, Nat.zero_mul, Nat.mul_one, Nat.sub_zero, Nat.sub_self])
  · intro t ht k hk
    obtain ⟨p, p1, p2⟩ := h5 t ht k hk
    exact ⟨p, p1, by simp (disch := omega) only [wr_cj, wr_nj, rng_in, rng_out, zN_lit, zN_add, zN_mul, zN_sub, zN_ltT, zN_ltF, zN_leT, zN_leF, zN_eqT, zN_eqF, zN_lt, zN_le, zN_eq, zN_nat, zN_oobF, Option.bind_some, ↓reduceIte, Nat.one_mul, Nat.zero_add, Nat.add_zero, Nat.reduceAdd, Nat.reduceMul, Nat.reduceSub, Nat.reduceLT, Nat.reduceLeDiff, Nat.reduceEqDiff, reduceCtorEq, true_or, or_true, false_or, or_false, true_and, and_true, false_and, and_false, not_true_eq_false, not_false_eq_true, wr_2, wrL_1, zm_eqF, zm_eqF', zm_lt, zm_lt', zm_le, zm_le', zm_sub1, zN_01, Nat.mul_zero, Nat.zero_mul, Nat.mul_one, Nat.sub_zero, Nat.sub_self, p2]⟩
theorem part_ok {P : Nat → Nat} (hP : Good P) {L : List (Nat × Nat)} {d : Nat → Nat} {n t : Nat} {M : zMM} (ht : t < 3) (hn : n < 210) (hM : MNow M P) (hd : d t = dn P n t) (hD : ∀ t, t < 3 → d t ≤ P (5 + t)) (h : MSt P L d M) :
    ∃ M', (wid P n t ≠ 0 → ∀ w c, w = wid P n t → c = col P n t → fX7_setPart (zN t) (zN (n / P 1)) (zN (n % P 1)) (zN w) (zN c) M = some M') ∧ (wid P n t = 0 → M' = M) ∧ MSt P (L ++ (if wid P n t = 0 then [] else [(n, t)])) (fun u => if u = t then dn P (n + 1) t else d u) M' ∧ fr (fun c j => MS c j ∧ ¬ (c = 158 ∧ j = 14)) M M' := by
  by_cases hw : wid P n t = 0
  · refine ⟨M, fun a => absurd hw a, fun _ => rfl, ?_, fr_refl _ _⟩
    rw [if_pos hw, List.append_nil]
    refine MSt_congr h (fun u hu => ?_)
    by_cases e : u = t
    · rw [if_pos e, e, hd, dn_0 P n t hw]
    · rw [if_neg e]
  · obtain ⟨M', e1, e2, e3⟩ := setPart_ok hP ht hn hM hd hw hD h
    refine ⟨M', ?_, fun a => absurd a hw, ?_, e3⟩
    · intro _ w c hw' hc'; rw [hw', hc']; exact e1
    · rw [if_neg hw]; exact e2
set_option maxHeartbeats 8000000 in
theorem setLine7_ok {P : Nat → Nat} (hP : Good P) {n : Nat} {M : zMM} (hn : n < 210) (hM : MNow M P) (h : MSt P (pl P n) (dn P n) M) :
    ∃ M', fX7_setLine (zN (n / P 1)) (zN (n % P 1)) M = some M' ∧ MSt P (pl P (n + 1)) (dn P (n + 1)) M' ∧ fr (fun c j => MS c j ∧ ¬ (c = 158 ∧ j = 14)) M M' := by
  have dl : ∀ m t, dn P m t ≤ P (5 + t) := fun m t => (dn_le P m t).1
  have nf : ∀ {A B : zMM}, MNow A P → fr (fun c j => MS c j ∧ ¬ (c = 158 ∧ j = 14)) A B → MNow B P := fun ha f => MNow_fr ha (fr_mono f (fun c j hc => hc.1))
  obtain ⟨M1, a1, b1, s1, f1⟩ := part_ok hP (t := 1) (by omega) hn hM rfl (fun t _ => dl n t) h
  have hM1 := nf hM f1
  obtain ⟨M2, a2, b2, s2, f2⟩ := part_ok hP (t := 0) (by omega) hn hM1 (by simp) (fun t _ => by
    by_cases e : t = 1
    · subst e; exact dl (n + 1) 1
    · simp only [e, if_false]; exact dl n t) s1
  have hM2 := nf hM1 f2
  obtain ⟨M3, a3, b3, s3, f3⟩ := part_ok hP (t := 2) (by omega) hn hM2 (by simp) (fun t _ => by
    by_cases e : t = 0
    · subst e; exact dl (n + 1) 0
    · by_cases e1 : t = 1
      · subst e1; exact dl (n + 1) 1
      · simp only [e, e1, if_false]; exact dl n t) s2
  refine ⟨M3, ?_, ?_, fr_trans (fr_trans f1 f2) f3⟩
  · have hp := hP.1
    have c0 := (hP.2.1 0 (by omega)).1
    have c1 := (hP.2.1 1 (by omega)).1
    have c2 := (hP.2.1 2 (by omega)).1
    have d0 := dl n 0
    have d1 := dl n 1
    have d2 := dl n 2
    have i0 := isLeft7 (M := M) (t := 0) (by omega) c0 (by omega) (hM _ (by omega)) (h.2.2.1 0 (by omega))
    have i1 := isLeft7 (M := M) (t := 1) (by omega) c1 (by omega) (hM _ (by omega)) (h.2.2.1 1 (by omega))
    have i2 := isLeft7 (M := M) (t := 2) (by omega) c2 (by omega) (hM _ (by omega)) (h.2.2.1 2 (by omega))
    have m0 := hM 0 (by omega)
    have m2 := hM 2 (by omega)
    have m3 := hM 3 (by omega)
    have m4 := hM 4 (by omega)
    have m5 := hM 255 (by omega)
    have n4 := hM2 4 (by omega)
    have hm := Nat.mod_lt n (show 0 < P 1 by omega)
    have o1 : (wid P n 1 = 0 ∧ M1 = M) ∨ (wid P n 1 ≠ 0 ∧ ∀ w c, w = wid P n 1 → c = col P n 1 → fX7_setPart (zN 1) (zN (n / P 1)) (zN (n % P 1)) (zN w) (zN c) M = some M1) := by
      by_cases q : wid P n 1 = 0
      · exact Or.inl ⟨q, b1 q⟩
      · exact Or.inr ⟨q, a1 q⟩
    have o2 : (wid P n 0 = 0 ∧ M2 = M1) ∨ (wid P n 0 ≠ 0 ∧ ∀ w c, w = wid P n 0 → c = col P n 0 → fX7_setPart (zN 0) (zN (n / P 1)) (zN (n % P 1)) (zN w) (zN c) M1 = some M2) := by
      by_cases q : wid P n 0 = 0
      · exact Or.inl ⟨q, b2 q⟩
      · exact Or.inr ⟨q, a2 q⟩
    have o3 : (wid P n 2 = 0 ∧ M3 = M2) ∨ (wid P n 2 ≠ 0 ∧ ∀ w c, w = wid P n 2 → c = col P n 2 → fX7_setPart (zN 2) (zN (n / P 1)) (zN (n % P 1)) (zN w) (zN c) M2 = some M3) := by
      by_cases q : wid P n 2 = 0
      · exact Or.inl ⟨q, b3 q⟩
      · exact Or.inr ⟨q, a3 q⟩
    clear a1 a2 a3 b1 b2 b3 s1 s2 s3 f1 f2 f3
    simp only [Nat.reduceAdd] at i0 i1 i2 c0 c1 c2 d0 d1 d2
    have eI : lI P (dn P n) = decide (dn P n 1 < P 6) := rfl
    have eO : lO P (dn P n) = decide (dn P n 2 < P 7) := rfl
    have eM : lM P (dn P n) n = (decide (dn P n 0 < P 5) && !(decide (n % P 1 < P 2) && (lI P (dn P n) || lO P (dn P n)))) := rfl
    have w0 : wid P n 0 = wdM P (dn P n) n := rfl
    have w1 : wid P n 1 = wdI P (dn P n) n := rfl
    have w2 : wid P n 2 = wdO P (dn P n) n := rfl
    have k0 : col P n 0 = mcO P (dn P n) n := rfl
    have k1 : col P n 1 = 0 := rfl
    have k2 : col P n 2 = P 0 - wdO P (dn P n) n := rfl
    unfold wdM wdO mcO wdI at w0
    unfold wdI at w1
    unfold wdO mcO wdI at w2
    unfold mcO wdI at k0
    unfold wdO mcO wdI at k2
    by_cases a : dn P n 0 < P 5 <;> by_cases b : dn P n 1 < P 6 <;> by_cases c : dn P n 2 < P 7 <;> by_cases e : n % P 1 < P 2 <;>
      (simp only [eI, eO, eM, a, b, c, e, decide_true, decide_false, Bool.and_true, Bool.true_and, Bool.false_and, Bool.and_false, Bool.not_true, Bool.not_false, Bool.or_true, Bool.true_or, Bool.false_or, Bool.or_false, if_true, if_false, Bool.false_eq_true, Nat.sub_zero] at w0 w1 w2 k0 k2 i0 i1 i2
       rcases o1 with ⟨r1, rfl⟩ | ⟨z1, r1⟩ <;> rcases o2 with ⟨r2, rfl⟩ | ⟨z2, r2⟩ <;> rcases o3 with ⟨r3, rfl⟩ | ⟨z3, r3⟩ <;> first
         | (exfalso; omega)
         | (unfold fX7_setLine
            simp only [zN_lit, i0, i1, i2, Option.bind_some, ↓reduceIte]
            simp (disch := omega) only [wr_cj, wr_nj, rng_in, rng_out, zN_lit, zN_add, zN_mul, zN_sub, zN_ltT, zN_ltF, zN_leT, zN_leF, zN_eqT, zN_eqF, zN_lt, zN_le, zN_eq, zN_nat, zN_oobF, Option.bind_some, ↓reduceIte, Nat.one_mul, Nat.zero_add, Nat.add_zero, Nat.reduceAdd, Nat.reduceMul, Nat.reduceSub, Nat.reduceLT, Nat.reduceLeDiff, Nat.reduceEqDiff, reduceCtorEq, true_or, or_true, false_or, or_false, true_and, and_true, false_and, and_false, not_true_eq_false, not_false_eq_true, wr_2, wrL_1, zm_eqF, zm_eqF', zm_lt, zm_lt', zm_le, zm_le', zm_sub1, zN_01, Nat.mul_zero, Nat.zero_mul, Nat.mul_one, Nat.sub_zero, Nat.sub_self, m0, m2, m3, m4, m5, n4, a, b, c, e, zN_div, fX7_setLine_40, fX7_setLine_44, fX7_setLine_45, fX7_setLine_99, fX7_setLine_103, fX7_setLine_129, fX7_setLine_142, fX7_setLine_163, fX7_setLine_188, fX7_setLine_209, r1, r2, r3]))
  · have e : pl P (n + 1) = pl P n ++ (if wid P n 1 = 0 then [] else [(n, 1)]) ++ (if wid P n 0 = 0 then [] else [(n, 0)]) ++ (if wid P n 2 = 0 then [] else [(n, 2)]) := by
      rw [pl, lnl, List.append_assoc, List.append_assoc]
    rw [e]
    refine MSt_congr s3 (fun t ht => ?_)
    have : t = 0 ∨ t = 1 ∨ t = 2 := by omega
    rcases this with rfl | rfl | rfl <;> simp
def pgs (P : Nat → Nat) : Nat := (NL P + P 1 - 1) / P 1
def MSet (P : Nat → Nat) (M : zMM) : Prop := MSt P (pl P (NL P)) (dn P (NL P)) M ∧ M.1 158 14 = zN (pgs P)
theorem areLeft7 {P : Nat → Nat} (hP : Good P) {n : Nat} {M : zMM} (hM : MNow M P) (h : ∀ t, t < 3 → M.1 165 t = zN (dn P n t)) : (lfp P n → fX7_areLeft M = some (zN 1, M)) ∧ (¬ lfp P n → fX7_areLeft M = some (zN 0, M)) := by
  have c0 := (hP.2.1 0 (by omega)).1
  have c1 := (hP.2.1 1 (by omega)).1
  have c2 := (hP.2.1 2 (by omega)).1
  have d0 := (dn_le P n 0).1
  have d1 := (dn_le P n 1).1
  have d2 := (dn_le P n 2).1
  have i0 := isLeft7 (M := M) (t := 0) (by omega) c0 (by omega) (hM _ (by omega)) (h 0 (by omega))
  have i1 := isLeft7 (M := M) (t := 1) (by omega) c1 (by omega) (hM _ (by omega)) (h 1 (by omega))
  have i2 := isLeft7 (M := M) (t := 2) (by omega) c2 (by omega) (hM _ (by omega)) (h 2 (by omega))
  simp only [Nat.reduceAdd] at i0 i1 i2
  unfold lfp fX7_areLeft
  constructor
  · intro hl
    by_cases a : dn P n 0 < P 5
    · simp (disch := omega) only [wr_cj, wr_nj, rng_in, rng_out, zN_lit, zN_add, zN_mul, zN_sub, zN_ltT, zN_ltF, zN_leT, zN_leF, zN_eqT, zN_eqF, zN_lt, zN_le, zN_eq, zN_nat, zN_oobF, Option.bind_some, ↓reduceIte, Nat.one_mul, Nat.zero_add, Nat.add_zero, Nat.reduceAdd, Nat.reduceMul, Nat.reduceSub, Nat.reduceLT, Nat.reduceLeDiff, Nat.reduceEqDiff, reduceCtorEq, true_or, or_true, false_or, or_false, true_and, and_true, false_and, and_false, not_true_eq_false, not_false_eq_true, wr_2, wrL_1, zm_eqF, zm_eqF', zm_lt, zm_lt', zm_le, zm_le', zm_sub1, zN_01, Nat.mul_zero, Nat.zero_mul, Nat.mul_one, Nat.sub_zero, Nat.sub_self, i0, a]
    · by_cases b : dn P n 1 < P 6
      · simp (disch := omega) only [wr_cj, wr_nj, rng_in, rng_out, zN_lit, zN_add, zN_mul, zN_sub, zN_ltT, zN_ltF, zN_leT, zN_leF, zN_eqT, zN_eqF, zN_lt, zN_le, zN_eq, zN_nat, zN_oobF, Option.bind_some, ↓reduceIte, Nat.one_mul, Nat.zero_add, Nat.add_zero, Nat.reduceAdd, Nat.reduceMul, Nat.reduceSub, Nat.reduceLT, Nat.reduceLeDiff, Nat.reduceEqDiff, reduceCtorEq, true_or, or_true, false_or, or_false, true_and, and_true, false_and, and_false, not_true_eq_false, not_false_eq_true, wr_2, wrL_1, zm_eqF, zm_eqF', zm_lt, zm_lt', zm_le, zm_le', zm_sub1, zN_01, Nat.mul_zero, Nat.zero_mul, Nat.mul_one, Nat.sub_zero, Nat.sub_self, i0, i1, a, b]
      · have c : dn P n 2 < P 7 := by omega
        simp (disch := omega) only [wr_cj, wr_nj, rng_in, rng_out, zN_lit, zN_add, zN_mul, zN_sub, zN_ltT, zN_ltF, zN_leT, zN_leF, zN_eqT, zN_eqF, zN_lt, zN_le, zN_eq, zN_nat, zN_oobF, Option.bind_some, ↓reduceIte, Nat.one_mul, Nat.zero_add, Nat.add_zero, Nat.reduceAdd, Nat.reduceMul, Nat.reduceSub, Nat.reduceLT, Nat.reduceLeDiff, Nat.reduceEqDiff, reduceCtorEq, true_or, or_true, false_or, or_false, true_and, and_true, false_and, and_false, not_true_eq_false, not_false_eq_true, wr_2, wrL_1, zm_eqF, zm_eqF', zm_lt, zm_lt', zm_le, zm_le', zm_sub1, zN_01, Nat.mul_zero, Nat.zero_mul, Nat.mul_one, Nat.sub_zero, Nat.sub_self, i0, i1, i2, a, b, c]
  · intro hl
    have a : ¬ dn P n 0 < P 5 := by omega
    have b : ¬ dn P n 1 < P 6 := by omega
    have c : ¬ dn P n 2 < P 7 := by omega
    simp (disch := omega) only [wr_cj, wr_nj, rng_in, rng_out, zN_lit, zN_add, zN_mul, zN_sub, zN_ltT, zN_ltF, zN_leT, zN_leF, zN_eqT, zN_eqF, zN_lt, zN_le, zN_eq, zN_nat, zN_oobF, Option.bind_some, ↓reduceIte, Nat.one_mul, Nat.zero_add, Nat.add_zero, Nat.reduceAdd, Nat.reduceMul, Nat.reduceSub, Nat.reduceLT, Nat.reduceLeDiff, Nat.reduceEqDiff, reduceCtorEq, true_or, or_true, false_or, or_false, true_and, and_true, false_and, and_false, not_true_eq_false, not_false_eq_true, wr_2, wrL_1, zm_eqF, zm_eqF', zm_lt, zm_lt', zm_le, zm_le', zm_sub1, zN_01, Nat.mul_zero, Nat.zero_mul, Nat.mul_one, Nat.sub_zero, Nat.sub_self, i0, i1, i2, a, b, c]
theorem div_next (n H : Nat) (h : 0 < H) : (n + 1) / H = if H ≤ n % H + 1 then n / H + 1 else n / H := by
  have e1 := Nat.div_add_mod n H
  have e2 := Nat.div_add_mod (n + 1) H
  have e3 := mod_next n H h
  have h1 := Nat.mod_lt n h
  by_cases e : H ≤ n % H + 1
  · rw [if_pos e] at e3 ⊢
    rw [e3] at e2
    have : H * ((n + 1) / H) = H * (n / H + 1) := by rw [Nat.mul_add]; omega
    exact Nat.eq_of_mul_eq_mul_left h this
  · rw [if_neg e] at e3 ⊢
    rw [e3] at e2
    have : H * ((n + 1) / H) = H * (n / H) := by omega
    exact Nat.eq_of_mul_eq_mul_left h this
theorem pgs_end {P : Nat → Nat} {n : Nat} (h : 0 < P 1) (e : n + 1 = NL P) : pgs P = n / P 1 + 1 := by
  unfold pgs
  rw [← e, show n + 1 + P 1 - 1 = n + P 1 by omega, Nat.add_div_right _ h]
theorem set39_ok {P : Nat → Nat} (hP : Good P) : ∀ f n fuel fu M, NL P - n = f → n < NL P → f + 1 < fuel → f < fu → MNow M P → MSt P (pl P n) (dn P n) M → M.1 158 14 = zN (n / P 1) →
    ∃ M', fX7_set_39 (fX7_set_30 fu) fuel (zN (n % P 1)) M = some M' ∧ MSet P M' ∧ fr MS M M' := by
  intro f
  have hNL := NL_le P
  have hp := hP.1
  induction f with
  | zero => intro n fuel fu M hf hn; omega
  | succ f ih =>
    intro n fuel fu M hf hn hfu hfv hM h hpg
    obtain ⟨fuel, rfl⟩ : ∃ q, fuel = q + 1 := ⟨fuel - 1, by omega⟩
    obtain ⟨fu, rfl⟩ : ∃ q, fu = q + 1 := ⟨fu - 1, by omega⟩
    have hm := Nat.mod_lt n (show 0 < P 1 by omega)
    have hl := NL_lf hn
    obtain ⟨M1, e1, s1, f1⟩ := setLine7_ok hP (show n < 210 by omega) hM h
    have hM1 : MNow M1 P := MNow_fr hM (fr_mono f1 (fun c j hc => hc.1))
    have hpg1 : M1.1 158 14 = zN (n / P 1) := by rw [f1.1 _ _ (by unfold MS; omega)]; exact hpg
    have hdiv : n / P 1 ≤ n := Nat.div_le_self n (P 1)
    have step : fX7_set_39 (fX7_set_30 (fu + 1)) (fuel + 1) (zN (n % P 1)) M = fX7_set_39 (fX7_set_30 (fu + 1)) fuel (zN (n % P 1 + 1)) M1 := by
      rw [fX7_set_39]
      have m1 := hM 1 (by omega)
      have al := (areLeft7 hP hM h.2.2.1).1 hl
      simp (disch := omega) only [wr_cj, wr_nj, rng_in, rng_out, zN_lit, zN_add, zN_mul, zN_sub, zN_ltT, zN_ltF, zN_leT, zN_leF, zN_eqT, zN_eqF, zN_lt, zN_le, zN_eq, zN_nat, zN_oobF, Option.bind_some, ↓reduceIte, Nat.one_mul, Nat.zero_add, Nat.add_zero, Nat.reduceAdd, Nat.reduceMul, Nat.reduceSub, Nat.reduceLT, Nat.reduceLeDiff, Nat.reduceEqDiff, reduceCtorEq, true_or, or_true, false_or, or_false, true_and, and_true, false_and, and_false, not_true_eq_false, not_false_eq_true, wr_2, wrL_1, zm_eqF, zm_eqF', zm_lt, zm_lt', zm_le, zm_le', zm_sub1, zN_01, Nat.mul_zero, Nat.zero_mul, Nat.mul_one, Nat.sub_zero, Nat.sub_self, m1, al, hpg, e1]
    rw [step]
    have ff : fr MS M M1 := fr_mono f1 (fun c j hc => hc.1)
    have m1 := hM1 1 (by omega)
    let M2 := wr M1 158 14 (zN (n / P 1 + 1))
    have hM2 : MNow M2 P := by intro i hi; have := hM1 i hi; show (wr M1 158 14 (zN (n / P 1 + 1))).1 159 i = _; simp (disch := omega) only [wr_cj, wr_nj, rng_in, rng_out, zN_lit, zN_add, zN_mul, zN_sub, zN_ltT, zN_ltF, zN_leT, zN_leF, zN_eqT, zN_eqF, zN_lt, zN_le, zN_eq, zN_nat, zN_oobF, Option.bind_some, ↓reduceIte, Nat.one_mul, Nat.zero_add, Nat.add_zero, Nat.reduceAdd, Nat.reduceMul, Nat.reduceSub, Nat.reduceLT, Nat.reduceLeDiff, Nat.reduceEqDiff, reduceCtorEq, true_or, or_true, false_or, or_false, true_and, and_true, false_and, and_false, not_true_eq_false, not_false_eq_true, wr_2, wrL_1, zm_eqF, zm_eqF', zm_lt, zm_lt', zm_le, zm_le', zm_sub1, zN_01, Nat.mul_zero, Nat.zero_mul, Nat.mul_one, Nat.sub_zero, Nat.sub_self, this]
    have s2 : MSt P (pl P (n + 1)) (dn P (n + 1)) M2 := MSt_158 s1
    have f2 : fr MS M M2 := fr_wr ff (by unfold MS; omega)
    have e71 : fX7_set_71 (fX7_set_30 (fu + 1)) M1 = fX7_set_30 (fu + 1) M2 := by
      unfold fX7_set_71
      simp (disch := omega) only [wr_cj, wr_nj, rng_in, rng_out, zN_lit, zN_add, zN_mul, zN_sub, zN_ltT, zN_ltF, zN_leT, zN_leF, zN_eqT, zN_eqF, zN_lt, zN_le, zN_eq, zN_nat, zN_oobF, Option.bind_some, ↓reduceIte, Nat.one_mul, Nat.zero_add, Nat.add_zero, Nat.reduceAdd, Nat.reduceMul, Nat.reduceSub, Nat.reduceLT, Nat.reduceLeDiff, Nat.reduceEqDiff, reduceCtorEq, true_or, or_true, false_or, or_false, true_and, and_true, false_and, and_false, not_true_eq_false, not_false_eq_true, wr_2, wrL_1, zm_eqF, zm_eqF', zm_lt, zm_lt', zm_le, zm_le', zm_sub1, zN_01, Nat.mul_zero, Nat.zero_mul, Nat.mul_one, Nat.sub_zero, Nat.sub_self, hpg1]
      rfl
    by_cases ew : P 1 ≤ n % P 1 + 1
    · have t1 : fX7_set_39 (fX7_set_30 (fu + 1)) fuel (zN (n % P 1 + 1)) M1 = fX7_set_30 (fu + 1) M2 := by
        obtain ⟨fuel, rfl⟩ : ∃ q, fuel = q + 1 := ⟨fuel - 1, by omega⟩
        rw [fX7_set_39]
        simp (disch := omega) only [wr_cj, wr_nj, rng_in, rng_out, zN_lit, zN_add, zN_mul, zN_sub, zN_ltT, zN_ltF, zN_leT, zN_leF, zN_eqT, zN_eqF, zN_lt, zN_le, zN_eq, zN_nat, zN_oobF, Option.bind_some, ↓reduceIte, Nat.one_mul, Nat.zero_add, Nat.add_zero, Nat.reduceAdd, Nat.reduceMul, Nat.reduceSub, Nat.reduceLT, Nat.reduceLeDiff, Nat.reduceEqDiff, reduceCtorEq, true_or, or_true, false_or, or_false, true_and, and_true, false_and, and_false, not_true_eq_false, not_false_eq_true, wr_2, wrL_1, zm_eqF, zm_eqF', zm_lt, zm_lt', zm_le, zm_le', zm_sub1, zN_01, Nat.mul_zero, Nat.zero_mul, Nat.mul_one, Nat.sub_zero, Nat.sub_self, m1, e71]
      rw [t1, fX7_set_30]
      by_cases en : n + 1 = NL P
      · have al := (areLeft7 hP hM2 s2.2.2.1).2 (by rw [en]; exact NL_not hP)
        refine ⟨M2, by simp (disch := omega) only [wr_cj, wr_nj, rng_in, rng_out, zN_lit, zN_add, zN_mul, zN_sub, zN_ltT, zN_ltF, zN_leT, zN_leF, zN_eqT, zN_eqF, zN_lt, zN_le, zN_eq, zN_nat, zN_oobF, Option.bind_some, ↓reduceIte, Nat.one_mul, Nat.zero_add, Nat.add_zero, Nat.reduceAdd, Nat.reduceMul, Nat.reduceSub, Nat.reduceLT, Nat.reduceLeDiff, Nat.reduceEqDiff, reduceCtorEq, true_or, or_true, false_or, or_false, true_and, and_true, false_and, and_false, not_true_eq_false, not_false_eq_true, wr_2, wrL_1, zm_eqF, zm_eqF', zm_lt, zm_lt', zm_le, zm_le', zm_sub1, zN_01, Nat.mul_zero, Nat.zero_mul, Nat.mul_one, Nat.sub_zero, Nat.sub_self, al], ?_, f2⟩
        refine ⟨by rw [← en]; exact s2, ?_⟩
        rw [pgs_end (by omega) en]; exact wr_cj _ _ _ _
      · have al := (areLeft7 hP hM2 s2.2.2.1).1 (NL_lf (by omega))
        obtain ⟨M3, e3, s3, f3⟩ := ih (n + 1) zFU fu M2 (by omega) (by omega) (by rw [zFU_eq]; omega) (by omega) hM2 s2 (by rw [div_next _ _ (by omega), if_pos ew]; exact wr_cj _ _ _ _)
        rw [mod_next _ _ (by omega), if_pos ew] at e3
        exact ⟨M3, by simp (disch := omega) only [wr_cj, wr_nj, rng_in, rng_out, zN_lit, zN_add, zN_mul, zN_sub, zN_ltT, zN_ltF, zN_leT, zN_leF, zN_eqT, zN_eqF, zN_lt, zN_le, zN_eq, zN_nat, zN_oobF, Option.bind_some, ↓reduceIte, Nat.one_mul, Nat.zero_add, Nat.add_zero, Nat.reduceAdd, Nat.reduceMul, Nat.reduceSub, Nat.reduceLT, Nat.reduceLeDiff, Nat.reduceEqDiff, reduceCtorEq, true_or, or_true, false_or, or_false, true_and, and_true, false_and, and_false, not_true_eq_false, not_false_eq_true, wr_2, wrL_1, zm_eqF, zm_eqF', zm_lt, zm_lt', zm_le, zm_le', zm_sub1, zN_01, Nat.mul_zero, Nat.zero_mul, Nat.mul_one, Nat.sub_zero, Nat.sub_self, al, e3], s3, fr_trans f2 f3⟩
    · by_cases en : n + 1 = NL P
      · obtain ⟨fuel, rfl⟩ : ∃ q, fuel = q + 1 := ⟨fuel - 1, by omega⟩
        have al := (areLeft7 hP hM1 s1.2.2.1).2 (by rw [en]; exact NL_not hP)
        have al2 := (areLeft7 hP hM2 s2.2.2.1).2 (by rw [en]; exact NL_not hP)
        refine ⟨M2, ?_, ?_, f2⟩
        · rw [fX7_set_39]
          simp (disch := omega) only [wr_cj, wr_nj, rng_in, rng_out, zN_lit, zN_add, zN_mul, zN_sub, zN_ltT, zN_ltF, zN_leT, zN_leF, zN_eqT, zN_eqF, zN_lt, zN_le, zN_eq, zN_nat, zN_oobF, Option.bind_some, ↓reduceIte, Nat.one_mul, Nat.zero_add, Nat.add_zero, Nat.reduceAdd, Nat.reduceMul, Nat.reduceSub, Nat.reduceLT, Nat.reduceLeDiff, Nat.reduceEqDiff, reduceCtorEq, true_or, or_true, false_or, or_false, true_and, and_true, false_and, and_false, not_true_eq_false, not_false_eq_true, wr_2, wrL_1, zm_eqF, zm_eqF', zm_lt, zm_lt', zm_le, zm_le', zm_sub1, zN_01, Nat.mul_zero, Nat.zero_mul, Nat.mul_one, Nat.sub_zero, Nat.sub_self, m1, al, e71]
          rw [fX7_set_30]
          simp (disch := omega) only [wr_cj, wr_nj, rng_in, rng_out, zN_lit, zN_add, zN_mul, zN_sub, zN_ltT, zN_ltF, zN_leT, zN_leF, zN_eqT, zN_eqF, zN_lt, zN_le, zN_eq, zN_nat, zN_oobF, Option.bind_some, ↓reduceIte, Nat.one_mul, Nat.zero_add, Nat.add_zero, Nat.reduceAdd, Nat.reduceMul, Nat.reduceSub, Nat.reduceLT, Nat.reduceLeDiff, Nat.reduceEqDiff, reduceCtorEq, true_or, or_true, false_or, or_false, true_and, and_true, false_and, and_false, not_true_eq_false, not_false_eq_true, wr_2, wrL_1, zm_eqF, zm_eqF', zm_lt, zm_lt', zm_le, zm_le', zm_sub1, zN_01, Nat.mul_zero, Nat.zero_mul, Nat.mul_one, Nat.sub_zero, Nat.sub_self, al2]
        · refine ⟨by rw [← en]; exact s2, ?_⟩
          rw [pgs_end (by omega) en]; exact wr_cj _ _ _ _
      · obtain ⟨M3, e3, s3, f3⟩ := ih (n + 1) fuel (fu + 1) M1 (by omega) (by omega) (by omega) (by omega) hM1 s1 (by rw [div_next _ _ (by omega), if_neg ew]; exact hpg1)
        rw [mod_next _ _ (by omega), if_neg ew] at e3
        exact ⟨M3, e3, s3, fr_trans ff f3⟩
theorem fX7_set_ok {P : Nat → Nat} (hP : Good P) {M : zMM} (hM : MNow M P) : ∃ M', fX7_set M = some M' ∧ MSet P M' ∧ fr MS M M' := by
  have hp := hP.1
  let M0 := (wr (wr (wr (wr (wr M 158 11 (zN 0)) 158 14 (zN 0)) 165 0 (zN 0)) 165 1 (zN 0)) 165 2 (zN 0))
  have e0 : fX7_set M = fX7_set_30 zFU M0 := by
    unfold fX7_set
    have gen : ∀ f, fX7_set_12 (f + 1 + 1 + 1 + 1) 0 (wr (wr M 158 11 0) 158 14 0) = fX7_set_30 zFU M0 := by
      intro f
      simp (disch := omega) only [wr_cj, wr_nj, rng_in, rng_out, zN_lit, zN_add, zN_mul, zN_sub, zN_ltT, zN_ltF, zN_leT, zN_leF, zN_eqT, zN_eqF, zN_lt, zN_le, zN_eq, zN_nat, zN_oobF, Option.bind_some, ↓reduceIte, Nat.one_mul, Nat.zero_add, Nat.add_zero, Nat.reduceAdd, Nat.reduceMul, Nat.reduceSub, Nat.reduceLT, Nat.reduceLeDiff, Nat.reduceEqDiff, reduceCtorEq, true_or, or_true, false_or, or_false, true_and, and_true, false_and, and_false, not_true_eq_false, not_false_eq_true, wr_2, wrL_1, zm_eqF, zm_eqF', zm_lt, zm_lt', zm_le, zm_le', zm_sub1, zN_01, Nat.mul_zero, Nat.zero_mul, Nat.mul_one, Nat.sub_zero, Nat.sub_self, fX7_set_12]
      rfl
    exact gen 2147483644
  have f0 : fr MS M M0 := by
    refine fr_wr (fr_wr (fr_wr (fr_wr (fr_wr (fr_refl _ _) ?_) ?_) ?_) ?_) ?_ <;> (unfold MS; omega)
  have hM0 : MNow M0 P := MNow_fr hM f0
  have s0 : MSt P (pl P 0) (dn P 0) M0 := by
    refine ⟨?_, by simp [pl], ?_, ?_, ?_⟩
    · show M0.1 158 11 = zN 0
      simp only [M0]; simp (disch := omega) only [wr_cj, wr_nj, rng_in, rng_out, zN_lit, zN_add, zN_mul, zN_sub, zN_ltT, zN_ltF, zN_leT, zN_leF, zN_eqT, zN_eqF, zN_lt, zN_le, zN_eq, zN_nat, zN_oobF, Option.bind_some, ↓reduceIte, Nat.one_mul, Nat.zero_add, Nat.add_zero, Nat.reduceAdd, Nat.reduceMul, Nat.reduceSub, Nat.reduceLT, Nat.reduceLeDiff, Nat.reduceEqDiff, reduceCtorEq, true_or, or_true, false_or, or_false, true_and, and_true, false_and, and_false, not_true_eq_false, not_false_eq_true, wr_2, wrL_1, zm_eqF, zm_eqF', zm_lt, zm_lt', zm_le, zm_le', zm_sub1, zN_01, Nat.mul_zero, Nat.zero_mul, Nat.mul_one, Nat.sub_zero, Nat.sub_self]
    · intro t ht
      have : t = 0 ∨ t = 1 ∨ t = 2 := by omega
      show M0.1 165 t = zN 0
      simp only [M0]
      rcases this with rfl | rfl | rfl <;> simp (disch := omega) only [wr_cj, wr_nj, rng_in, rng_out, zN_lit, zN_add, zN_mul, zN_sub, zN_ltT, zN_ltF, zN_leT, zN_leF, zN_eqT, zN_eqF, zN_lt, zN_le, zN_eq, zN_nat, zN_oobF, Option.bind_some, ↓reduceIte, Nat.one_mul, Nat.zero_add, Nat.add_zero, Nat.reduceAdd, Nat.reduceMul, Nat.reduceSub, Nat.reduceLT, Nat.reduceLeDiff, Nat.reduceEqDiff, reduceCtorEq, true_or, or_true, false_or, or_false, true_and, and_true, false_and, and_false, not_true_eq_false, not_false_eq_true, wr_2, wrL_1, zm_eqF, zm_eqF', zm_lt, zm_lt', zm_le, zm_le', zm_sub1, zN_01, Nat.mul_zero, Nat.zero_mul, Nat.mul_one, Nat.sub_zero, Nat.sub_self]
    · intro p m t hp; simp [pl] at hp
    · intro t ht k hk; exact absurd hk (Nat.not_lt_zero _)
  have hg0 : M0.1 158 14 = zN 0 := by simp only [M0]; simp (disch := omega) only [wr_cj, wr_nj, rng_in, rng_out, zN_lit, zN_add, zN_mul, zN_sub, zN_ltT, zN_ltF, zN_leT, zN_leF, zN_eqT, zN_eqF, zN_lt, zN_le, zN_eq, zN_nat, zN_oobF, Option.bind_some, ↓reduceIte, Nat.one_mul, Nat.zero_add, Nat.add_zero, Nat.reduceAdd, Nat.reduceMul, Nat.reduceSub, Nat.reduceLT, Nat.reduceLeDiff, Nat.reduceEqDiff, reduceCtorEq, true_or, or_true, false_or, or_false, true_and, and_true, false_and, and_false, not_true_eq_false, not_false_eq_true, wr_2, wrL_1, zm_eqF, zm_eqF', zm_lt, zm_lt', zm_le, zm_le', zm_sub1, zN_01, Nat.mul_zero, Nat.zero_mul, Nat.mul_one, Nat.sub_zero, Nat.sub_self]
  rw [e0]
  by_cases en : NL P = 0
  · have al := (areLeft7 hP hM0 s0.2.2.1).2 (by have := NL_not hP; rw [en] at this; exact this)
    refine ⟨M0, ?_, ?_, f0⟩
    · have gen : ∀ f, fX7_set_30 (f + 1) M0 = some M0 := by
        intro f; rw [fX7_set_30]; simp (disch := omega) only [wr_cj, wr_nj, rng_in, rng_out, zN_lit, zN_add, zN_mul, zN_sub, zN_ltT, zN_ltF, zN_leT, zN_leF, zN_eqT, zN_eqF, zN_lt, zN_le, zN_eq, zN_nat, zN_oobF, Option.bind_some, ↓reduceIte, Nat.one_mul, Nat.zero_add, Nat.add_zero, Nat.reduceAdd, Nat.reduceMul, Nat.reduceSub, Nat.reduceLT, Nat.reduceLeDiff, Nat.reduceEqDiff, reduceCtorEq, true_or, or_true, false_or, or_false, true_and, and_true, false_and, and_false, not_true_eq_false, not_false_eq_true, wr_2, wrL_1, zm_eqF, zm_eqF', zm_lt, zm_lt', zm_le, zm_le', zm_sub1, zN_01, Nat.mul_zero, Nat.zero_mul, Nat.mul_one, Nat.sub_zero, Nat.sub_self, al]
      exact gen 2147483647
    · refine ⟨by rw [en]; exact s0, ?_⟩
      rw [hg0]; unfold pgs; rw [en, Nat.div_eq_of_lt (by omega)]
  · have al := (areLeft7 hP hM0 s0.2.2.1).1 (NL_lf (by omega))
    have hNL := NL_le P
    obtain ⟨M1, e1, s1, f1⟩ := set39_ok hP (NL P) 0 zFU 2147483647 M0 rfl (by omega) (by rw [zFU_eq]; omega) (by omega) hM0 s0 (by rw [Nat.zero_div]; exact hg0)
    rw [Nat.zero_mod] at e1
    refine ⟨M1, ?_, s1, fr_trans f0 f1⟩
    have gen : ∀ f, fX7_set_39 (fX7_set_30 f) zFU (zN 0) M0 = some M1 → fX7_set_30 (f + 1) M0 = some M1 := by
      intro f hf; rw [fX7_set_30]; simp (disch := omega) only [wr_cj, wr_nj, rng_in, rng_out, zN_lit, zN_add, zN_mul, zN_sub, zN_ltT, zN_ltF, zN_leT, zN_leF, zN_eqT, zN_eqF, zN_lt, zN_le, zN_eq, zN_nat, zN_oobF, Option.bind_some, ↓reduceIte, Nat.one_mul, Nat.zero_add, Nat.add_zero, Nat.reduceAdd, Nat.reduceMul, Nat.reduceSub, Nat.reduceLT, Nat.reduceLeDiff, Nat.reduceEqDiff, reduceCtorEq, true_or, or_true, false_or, or_false, true_and, and_true, false_and, and_false, not_true_eq_false, not_false_eq_true, wr_2, wrL_1, zm_eqF, zm_eqF', zm_lt, zm_lt', zm_le, zm_le', zm_sub1, zN_01, Nat.mul_zero, Nat.zero_mul, Nat.mul_one, Nat.sub_zero, Nat.sub_self, al, hf]
    exact gen 2147483647 e1
