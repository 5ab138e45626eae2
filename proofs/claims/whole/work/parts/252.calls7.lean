/-! spare -/
def mkM (P : Nat → Nat) : zMM := (fun c j => if c = 0 then (if j = 0 then zN (P 0) else if j = 1 then zN (P 1) else if j = 2 then zN (P 255) else if j = 3 then zN (P 2) else if j = 4 then zN (P 3) else if j = 5 then zN (P 4) else zN (P 218)) else if c = 1 then zN (P (256 + j)) else if c = 2 then zN (P (5 + j)) else if c < 7 then zN (P (8 + 70 * (c - 4) + j)) else if c = 7 then zN (P (219 + 3 * j)) else if c = 8 then zN (P (220 + 3 * j)) else zN (P (221 + 3 * j)), fun _ _ => 0)
theorem mkM_L (P : Nat → Nat) : Leaf (mkM P) 0 P := by
  unfold mkM Leaf
  refine ⟨⟨rfl, rfl, rfl, rfl, rfl, rfl, rfl⟩, fun i hi => rfl, fun t ht => rfl, fun t ht k hk => ?_, fun i hi => ⟨rfl, rfl, rfl⟩⟩
  have e : t = 0 ∨ t = 1 ∨ t = 2 := by omega
  rcases e with rfl | rfl | rfl <;> rfl
theorem apt_same {P P' : Nat → Nat} (hP : Good P) (hP' : Good P') (h : ∀ M, Leaf M 0 P → Leaf M 0 P') : apt P = apt P' := by
  have l := mkM_L P
  have l' := h _ l
  obtain ⟨M1, e1, s1, l1, f1⟩ := cset0 hP (b := 0) (by omega) l
  obtain ⟨M2, e2, s2, l2, f2⟩ := cset0 hP' (b := 0) (by omega) l'
  rw [e1] at e2
  have e3 := Option.some.inj e2
  subst e3
  have a := endsApart4 hP l1 s1
  have a' := endsApart4 hP' l2 s2
  rw [a] at a'
  have e4 := (Prod.mk.inj (Option.some.inj a')).1
  have b1 := apt_le hP
  have b2 := apt_le hP'
  exact zN_inj (by omega) (by omega) e4
theorem utF_none (q : Nat → Nat → Nat → Bool) (P : Nat → Nat) : ∀ n, (∀ i, i < n → tq q P i = false) → utF q n P = P := by
  intro n
  induction n with
  | zero => intro _; rfl
  | succ n ih =>
    intro h
    rw [utF, h n (by omega)]
    exact ih (fun i hi => h i (by omega))
theorem dp_pt {P : Nat → Nat} (hP : Good P) {t : Nat} (ht : t < 3) (hc : P (5 + t) < 70) {b : Nat} {M : zMM} (hL : Leaf M b P) : Leaf M b (dropP (putP P t (P (5 + t)) 5) t (P (5 + t))) := by
  have h12 := hP.2.2.1.1
  have hQ := Good_put hP ht (Nat.le_refl _) hc (v := 5) (by omega)
  obtain ⟨Q, hQe⟩ : ∃ Q, Q = putP P t (P (5 + t)) 5 := ⟨_, rfl⟩
  rw [← hQe] at hQ ⊢
  have q8 : Q 218 = P 218 := by rw [hQe, putP_hi P h12 (Or.inl rfl)]
  have qh : ∀ j, 255 ≤ j → Q j = P j := fun j hj => by rw [hQe, putP_hi P h12 (by omega)]
  have ql : ∀ j, j < 5 → Q j = P j := fun j hj => by rw [hQe, putP_lo P (by omega), hI_lo P hj]
  have qc : ∀ u, u < 3 → Q (5 + u) = if u = t then P (5 + t) + 1 else P (5 + u) := fun u hu => by rw [hQe, putP_lo P (by omega), hI_c P ht hu]
  have qs : ∀ u m, u < 3 → m < P (5 + u) → Q (8 + 70 * u + m) = P (8 + 70 * u + m) := by
    intro u m hu hm
    have := (hP.2.1 u hu).1
    rw [hQe, putP_lo P (by omega), hI_s P ht hu (by omega) hc (Nat.le_refl _)]
    by_cases e : u = t
    · subst e; rw [if_pos rfl, if_pos hm]
    · rw [if_neg e]
  have q0 : ∀ i, i < P 218 → Q (219 + 3 * i) = P (219 + 3 * i) := fun i hi => by rw [hQe]; unfold putP; rw [shN_out (by omega), ov_hi (by omega)]
  have q1 : ∀ i, i < P 218 → Q (220 + 3 * i) = P (220 + 3 * i) := fun i hi => by
    have h := hP.2.2.1.2 i hi
    rw [hQe]; unfold putP; rw [shN_t1 _ _ _ _ hi, ov_hi (by omega), ov_hi (by omega), if_neg]
    rintro ⟨-, a, c⟩
    have hb := h.2.1
    rw [a] at hb; omega
  have q2 : ∀ i, i < P 218 → Q (221 + 3 * i) = P (221 + 3 * i) := fun i hi => by
    have h := hP.2.2.1.2 i hi
    rw [hQe]; unfold putP; rw [shN_t2 _ _ _ _ hi, ov_hi (by omega), if_neg]
    rintro ⟨a, c⟩
    subst a
    have hb := h.2.2
    simp only [Nat.add_zero] at c
    omega
  have hno : ∀ i, i < Q 218 → tq (qd t (P (5 + t))) Q i = false := by
    intro i hi
    rw [q8] at hi
    have h := hP.2.2.1.2 i hi
    rw [tq_td]
    unfold tdI
    rw [q0 i hi, q1 i hi, q2 i hi]
    by_cases e : t = 0
    · subst e
      have hb := h.2.2
      simp only [if_true, decide_eq_false_iff_not, Nat.add_zero]
      omega
    · simp only [e, if_false, Bool.and_eq_false_iff, decide_eq_false_iff_not]
      by_cases c : P (219 + 3 * i) = t
      · have hb := h.2.1
        rw [c] at hb
        right; omega
      · exact Or.inl c
  have eQ : dropQ Q t (P (5 + t)) = ov (hD Q t (P (5 + t))) Q := by
    unfold dropQ; rw [utF_none _ _ _ hno]
  have pos : 0 < Q (5 + t) := by rw [qc t ht, if_pos rfl]; omega
  have r8 : dropP Q t (P (5 + t)) 218 = P 218 := by unfold dropP; rw [shN_out (by omega), eQ, ov_hi (by omega), q8]
  have e8 : dropQ Q t (P (5 + t)) 218 = P 218 := by rw [eQ, ov_hi (by omega), q8]
  have rl : ∀ j, j < 218 → dropP Q t (P (5 + t)) j = hD Q t (P (5 + t)) j := fun j hj => by unfold dropP; rw [shN_out (by omega), eQ, ov_lo hj]
  have rh : ∀ j, 255 ≤ j → dropP Q t (P (5 + t)) j = P j := fun j hj => by unfold dropP; rw [shN_out (by rw [e8]; omega), eQ, ov_hi (by omega), qh j hj]
  have rc : ∀ u, u < 3 → dropP Q t (P (5 + t)) (5 + u) = P (5 + u) := fun u hu => by
    rw [rl _ (by omega), hD_c Q ht hu pos]
    by_cases e : u = t
    · subst e; rw [if_pos rfl, qc u hu, if_pos rfl]; omega
    · rw [if_neg e, qc u hu, if_neg e]
  obtain ⟨⟨l0, l1, l2, l3, l4, l5, l6⟩, lw, lc, ls, lt⟩ := hL
  refine ⟨⟨?_, ?_, ?_, ?_, ?_, ?_, ?_⟩, ?_, ?_, ?_, ?_⟩
  · rw [rl _ (by omega), hD_lo Q (by omega), ql _ (by omega)]; exact l0
  · rw [rl _ (by omega), hD_lo Q (by omega), ql _ (by omega)]; exact l1
  · rw [rh _ (by omega)]; exact l2
  · rw [rl _ (by omega), hD_lo Q (by omega), ql _ (by omega)]; exact l3
  · rw [rl _ (by omega), hD_lo Q (by omega), ql _ (by omega)]; exact l4
  · rw [rl _ (by omega), hD_lo Q (by omega), ql _ (by omega)]; exact l5
  · rw [r8]; exact l6
  · intro i hi; rw [rh _ (by omega)]; exact lw i hi
  · intro u hu; rw [rc u hu]; exact lc u hu
  · intro u hu m hm
    rw [rc u hu] at hm
    have hu7 := (hP.2.1 u hu).1
    unfold pSz
    have qct := qc t ht
    rw [if_pos rfl] at qct
    rw [rl _ (by omega), hD_s Q ht hu (by omega) (by omega) (by
      by_cases e : u = t
      · subst e; rw [if_pos rfl]; omega
      · rw [if_neg e]; omega)]
    by_cases e : u = t
    · subst e; rw [if_pos rfl, if_pos hm, qs u m hu hm]; exact ls u hu m hm
    · rw [if_neg e, qs u m hu hm]; exact ls u hu m hm
  · intro i hi
    rw [r8] at hi
    have h := hP.2.2.1.2 i hi
    have g0 : dropP Q t (P (5 + t)) (219 + 3 * i) = P (219 + 3 * i) := by unfold dropP; rw [shN_out (by omega), eQ, ov_hi (by omega), q0 i hi]
    have g1 : dropP Q t (P (5 + t)) (220 + 3 * i) = P (220 + 3 * i) := by
      unfold dropP
      rw [shN_t1 _ _ _ _ (by rw [e8]; exact hi), eQ, ov_hi (by omega), ov_hi (by omega), q0 i hi, q1 i hi, if_neg]
      rintro ⟨-, a, c⟩
      have hb := h.2.1
      rw [a] at hb; omega
    have g2 : dropP Q t (P (5 + t)) (221 + 3 * i) = P (221 + 3 * i) := by
      unfold dropP
      rw [shN_t2 _ _ _ _ (by rw [e8]; exact hi), eQ, ov_hi (by omega), q2 i hi, if_neg]
      rintro ⟨a, c⟩
      subst a
      have hb := h.2.2
      simp only [Nat.add_zero] at c
      omega
    rw [g0, g1, g2]; exact lt i hi
theorem sp_both {t pg : Nat} (ht : t = 1 ∨ t = 2) (hpg : pg ≤ 210) : ∀ f P n, 70 - P (5 + t) = f → Good P → ∃ k Pm, Good Pm ∧
    (∀ M fuel, f < fuel → Leaf M 10 P → ∃ M', fX6_spare_79 (zN t) fuel (zN pg) (zN (apt P)) (zN n) (zN (P (5 + t))) M = fX6_spare_147 (zN t) (zN (apt Pm)) (zN k) M' ∧ fr (fun c _ => (10 ≤ c ∧ c < 20) ∨ (120 ≤ c ∧ c ≤ 147)) M M') ∧
    (∀ M fuel, f + 1 < fuel → MNow M P → M.1 158 14 = zN pg → ∃ M' Pz, fX7_spare_38 (zN t) fuel (zN pg) (zN n) M = fX7_spare_114 (zN t) (zN k) M' ∧ MNow M' Pz ∧ Good Pz ∧ apt Pz = apt Pm ∧ fr (fun c j => c = 159 ∨ MS c j) M M') := by
  have ht3 : t < 3 := by omega
  intro f
  induction f with
  | zero =>
    intro P n hf hP
    have hc := (hP.2.1 t ht3).1
    refine ⟨n, P, hP, fun M fuel hfu hL => ?_, fun M fuel hfu hM h14 => ?_⟩
    · obtain ⟨fu, rfl⟩ : ∃ q, fuel = q + 1 := ⟨fuel - 1, by omega⟩
      refine ⟨M, ?_, fr_refl _ _⟩
      rw [fX6_spare_79]
      simp (disch := omega) only [wr_cj, wr_nj, rng_in, rng_out, zN_lit, zN_add, zN_mul, zN_sub, zN_ltT, zN_ltF, zN_leT, zN_leF, zN_eqT, zN_eqF, zN_lt, zN_le, zN_eq, zN_nat, zN_oobF, Option.bind_some, ↓reduceIte, Nat.one_mul, Nat.zero_add, Nat.add_zero, Nat.reduceAdd, Nat.reduceMul, Nat.reduceSub, Nat.reduceLT, Nat.reduceLeDiff, Nat.reduceEqDiff, reduceCtorEq, true_or, or_true, false_or, or_false, true_and, and_true, false_and, and_false, not_true_eq_false, not_false_eq_true, wr_2, wrL_1, zm_eqF, zm_eqF', zm_lt, zm_lt', zm_le, zm_le', zm_sub1, zN_01, Nat.mul_zero, Nat.zero_mul, Nat.mul_one, Nat.sub_zero, Nat.sub_self, Nat.add_sub_cancel]
    · obtain ⟨fu, rfl⟩ : ∃ q, fuel = q + 1 := ⟨fuel - 1, by omega⟩
      have m := hM (5 + t) (by omega)
      refine ⟨M, P, ?_, hM, hP, rfl, fr_refl _ _⟩
      rw [fX7_spare_38]
      simp (disch := omega) only [wr_cj, wr_nj, rng_in, rng_out, zN_lit, zN_add, zN_mul, zN_sub, zN_ltT, zN_ltF, zN_leT, zN_leF, zN_eqT, zN_eqF, zN_lt, zN_le, zN_eq, zN_nat, zN_oobF, Option.bind_some, ↓reduceIte, Nat.one_mul, Nat.zero_add, Nat.add_zero, Nat.reduceAdd, Nat.reduceMul, Nat.reduceSub, Nat.reduceLT, Nat.reduceLeDiff, Nat.reduceEqDiff, reduceCtorEq, true_or, or_true, false_or, or_false, true_and, and_true, false_and, and_false, not_true_eq_false, not_false_eq_true, wr_2, wrL_1, zm_eqF, zm_eqF', zm_lt, zm_lt', zm_le, zm_le', zm_sub1, zN_01, Nat.mul_zero, Nat.zero_mul, Nat.mul_one, Nat.sub_zero, Nat.sub_self, Nat.add_sub_cancel, m, fX7_spare_91, h14]
  | succ f ih =>
    intro P n hf hP
    have hc := (hP.2.1 t ht3).1
    have hc70 : P (5 + t) < 70 := by omega
    have hQ := Good_put hP ht3 (Nat.le_refl _) hc70 (v := 5) (by omega)
    have eQc : putP P t (P (5 + t)) 5 (5 + t) = P (5 + t) + 1 := putP_c P ht3
    have hpl := pgs_le hQ
    by_cases kp : pgs (putP P t (P (5 + t)) 5) = pg
    · obtain ⟨k, Pm, hPm, hC, hMM⟩ := ih (putP P t (P (5 + t)) 5) (n + 1) (by omega) hQ
      refine ⟨k, Pm, hPm, fun M fuel hfu hL => ?_, fun M fuel hfu hM h14 => ?_⟩
      · obtain ⟨fu, rfl⟩ : ∃ q, fuel = q + 1 := ⟨fuel - 1, by omega⟩
        obtain ⟨M1, e1, l1, f1⟩ := put0 hP (v := 5) ht3 (Nat.le_refl _) hc70 hL
        obtain ⟨M2, e2, s2, l2, f2⟩ := cset0 hQ (b := 10) (by omega) l1
        have pc := pageCount4 hQ l2 s2
        rw [kp] at pc
        have ea := endsApart4 hQ l2 s2
        obtain ⟨M3, e3, f3⟩ := hC M2 fu (by omega) l2
        rw [eQc] at e3
        refine ⟨M3, ?_, fr_trans (fr_trans (fr_mono f1 (fun c j a => by omega)) (fr_mono f2 (fun c j a => by omega))) f3⟩
        rw [← e3, fX6_spare_79]
        simp (disch := omega) only [wr_cj, wr_nj, rng_in, rng_out, zN_lit, zN_add, zN_mul, zN_sub, zN_ltT, zN_ltF, zN_leT, zN_leF, zN_eqT, zN_eqF, zN_lt, zN_le, zN_eq, zN_nat, zN_oobF, Option.bind_some, ↓reduceIte, Nat.one_mul, Nat.zero_add, Nat.add_zero, Nat.reduceAdd, Nat.reduceMul, Nat.reduceSub, Nat.reduceLT, Nat.reduceLeDiff, Nat.reduceEqDiff, reduceCtorEq, true_or, or_true, false_or, or_false, true_and, and_true, false_and, and_false, not_true_eq_false, not_false_eq_true, wr_2, wrL_1, zm_eqF, zm_eqF', zm_lt, zm_lt', zm_le, zm_le', zm_sub1, zN_01, Nat.mul_zero, Nat.zero_mul, Nat.mul_one, Nat.sub_zero, Nat.sub_self, Nat.add_sub_cancel, e1, e2, pc, ea]
      · obtain ⟨fu, rfl⟩ : ∃ q, fuel = q + 1 := ⟨fuel - 1, by omega⟩
        have m := hM (5 + t) (by omega)
        obtain ⟨M1, e1, n1, f1⟩ := put7 hP (v := 5) ht3 (Nat.le_refl _) hc70 hM
        obtain ⟨M2, e2, s2, n2, f2⟩ := mset0 hQ n1
        have k14 := s2.2
        rw [kp] at k14
        obtain ⟨M3, Pz, e3, n3, g3, a3, f3⟩ := hMM M2 fu (by omega) n2 k14
        refine ⟨M3, Pz, ?_, n3, g3, a3, fr_trans (fr_trans (fr_mono f1 (fun c j a => Or.inl a)) (fr_mono f2 (fun c j a => Or.inr a))) f3⟩
        rw [← e3, fX7_spare_38]
        simp (disch := omega) only [wr_cj, wr_nj, rng_in, rng_out, zN_lit, zN_add, zN_mul, zN_sub, zN_ltT, zN_ltF, zN_leT, zN_leF, zN_eqT, zN_eqF, zN_lt, zN_le, zN_eq, zN_nat, zN_oobF, Option.bind_some, ↓reduceIte, Nat.one_mul, Nat.zero_add, Nat.add_zero, Nat.reduceAdd, Nat.reduceMul, Nat.reduceSub, Nat.reduceLT, Nat.reduceLeDiff, Nat.reduceEqDiff, reduceCtorEq, true_or, or_true, false_or, or_false, true_and, and_true, false_and, and_false, not_true_eq_false, not_false_eq_true, wr_2, wrL_1, zm_eqF, zm_eqF', zm_lt, zm_lt', zm_le, zm_le', zm_sub1, zN_01, Nat.mul_zero, Nat.zero_mul, Nat.mul_one, Nat.sub_zero, Nat.sub_self, Nat.add_sub_cancel, m, h14, e1, e2, k14]
    · refine ⟨n, P, hP, fun M fuel hfu hL => ?_, fun M fuel hfu hM h14 => ?_⟩
      · obtain ⟨fu, rfl⟩ : ∃ q, fuel = q + 1 := ⟨fuel - 1, by omega⟩
        obtain ⟨M1, e1, l1, f1⟩ := put0 hP (v := 5) ht3 (Nat.le_refl _) hc70 hL
        obtain ⟨M2, e2, s2, l2, f2⟩ := cset0 hQ (b := 10) (by omega) l1
        have pc := pageCount4 hQ l2 s2
        refine ⟨M2, ?_, fr_trans (fr_mono f1 (fun c j a => by omega)) (fr_mono f2 (fun c j a => by omega))⟩
        rw [fX6_spare_79]
        simp (disch := omega) only [wr_cj, wr_nj, rng_in, rng_out, zN_lit, zN_add, zN_mul, zN_sub, zN_ltT, zN_ltF, zN_leT, zN_leF, zN_eqT, zN_eqF, zN_lt, zN_le, zN_eq, zN_nat, zN_oobF, Option.bind_some, ↓reduceIte, Nat.one_mul, Nat.zero_add, Nat.add_zero, Nat.reduceAdd, Nat.reduceMul, Nat.reduceSub, Nat.reduceLT, Nat.reduceLeDiff, Nat.reduceEqDiff, reduceCtorEq, true_or, or_true, false_or, or_false, true_and, and_true, false_and, and_false, not_true_eq_false, not_false_eq_true, wr_2, wrL_1, zm_eqF, zm_eqF', zm_lt, zm_lt', zm_le, zm_le', zm_sub1, zN_01, Nat.mul_zero, Nat.zero_mul, Nat.mul_one, Nat.sub_zero, Nat.sub_self, Nat.add_sub_cancel, e1, e2, pc, kp]
      · obtain ⟨fu, rfl⟩ : ∃ q, fuel = q + 1 := ⟨fuel - 1, by omega⟩
        obtain ⟨fu, rfl⟩ : ∃ q, fu = q + 1 := ⟨fu - 1, by omega⟩
        have m := hM (5 + t) (by omega)
        obtain ⟨M1, e1, n1, f1⟩ := put7 hP (v := 5) ht3 (Nat.le_refl _) hc70 hM
        obtain ⟨M2, e2, s2, n2, f2⟩ := mset0 hQ n1
        have k14 := s2.2
        have m2 := n2 (5 + t) (by omega)
        rw [eQc] at m2
        have hk : P (5 + t) < putP P t (P (5 + t)) 5 (5 + t) := by omega
        obtain ⟨M3, e3, n3, f3⟩ := drop7 hQ ht3 hk n2
        have hz := Good_drop hQ ht3 hk
        refine ⟨M3, _, ?_, n3, hz, (apt_same hP hz (fun M l => dp_pt hP ht3 hc70 l)).symm, fr_trans (fr_trans (fr_mono f1 (fun c j a => Or.inl a)) (fr_mono f2 (fun c j a => Or.inr a))) (fr_mono f3 (fun c j a => Or.inl a))⟩
        rw [fX7_spare_38]
        simp (disch := omega) only [wr_cj, wr_nj, rng_in, rng_out, zN_lit, zN_add, zN_mul, zN_sub, zN_ltT, zN_ltF, zN_leT, zN_leF, zN_eqT, zN_eqF, zN_lt, zN_le, zN_eq, zN_nat, zN_oobF, Option.bind_some, ↓reduceIte, Nat.one_mul, Nat.zero_add, Nat.add_zero, Nat.reduceAdd, Nat.reduceMul, Nat.reduceSub, Nat.reduceLT, Nat.reduceLeDiff, Nat.reduceEqDiff, reduceCtorEq, true_or, or_true, false_or, or_false, true_and, and_true, false_and, and_false, not_true_eq_false, not_false_eq_true, wr_2, wrL_1, zm_eqF, zm_eqF', zm_lt, zm_lt', zm_le, zm_le', zm_sub1, zN_01, Nat.mul_zero, Nat.zero_mul, Nat.mul_one, Nat.sub_zero, Nat.sub_self, Nat.add_sub_cancel, m, h14, e1, e2, k14, kp]
        have e91 : fX7_spare_91 (zN t) (zN pg) (zN n) M2 = fX7_spare_114 (zN t) (zN n) M3 := by
          unfold fX7_spare_91
          simp (disch := omega) only [wr_cj, wr_nj, rng_in, rng_out, zN_lit, zN_add, zN_mul, zN_sub, zN_ltT, zN_ltF, zN_leT, zN_leF, zN_eqT, zN_eqF, zN_lt, zN_le, zN_eq, zN_nat, zN_oobF, Option.bind_some, ↓reduceIte, Nat.one_mul, Nat.zero_add, Nat.add_zero, Nat.reduceAdd, Nat.reduceMul, Nat.reduceSub, Nat.reduceLT, Nat.reduceLeDiff, Nat.reduceEqDiff, reduceCtorEq, true_or, or_true, false_or, or_false, true_and, and_true, false_and, and_false, not_true_eq_false, not_false_eq_true, wr_2, wrL_1, zm_eqF, zm_eqF', zm_lt, zm_lt', zm_le, zm_le', zm_sub1, zN_01, Nat.mul_zero, Nat.zero_mul, Nat.mul_one, Nat.sub_zero, Nat.sub_self, Nat.add_sub_cancel, k14, kp, m2, e3]
        rw [fX7_spare_38]
        by_cases c : 70 ≤ P (5 + t) + 1
        · simp (disch := omega) only [wr_cj, wr_nj, rng_in, rng_out, zN_lit, zN_add, zN_mul, zN_sub, zN_ltT, zN_ltF, zN_leT, zN_leF, zN_eqT, zN_eqF, zN_lt, zN_le, zN_eq, zN_nat, zN_oobF, Option.bind_some, ↓reduceIte, Nat.one_mul, Nat.zero_add, Nat.add_zero, Nat.reduceAdd, Nat.reduceMul, Nat.reduceSub, Nat.reduceLT, Nat.reduceLeDiff, Nat.reduceEqDiff, reduceCtorEq, true_or, or_true, false_or, or_false, true_and, and_true, false_and, and_false, not_true_eq_false, not_false_eq_true, wr_2, wrL_1, zm_eqF, zm_eqF', zm_lt, zm_lt', zm_le, zm_le', zm_sub1, zN_01, Nat.mul_zero, Nat.zero_mul, Nat.mul_one, Nat.sub_zero, Nat.sub_self, Nat.add_sub_cancel, m2, e91]
        · simp (disch := omega) only [wr_cj, wr_nj, rng_in, rng_out, zN_lit, zN_add, zN_mul, zN_sub, zN_ltT, zN_ltF, zN_leT, zN_leF, zN_eqT, zN_eqF, zN_lt, zN_le, zN_eq, zN_nat, zN_oobF, Option.bind_some, ↓reduceIte, Nat.one_mul, Nat.zero_add, Nat.add_zero, Nat.reduceAdd, Nat.reduceMul, Nat.reduceSub, Nat.reduceLT, Nat.reduceLeDiff, Nat.reduceEqDiff, reduceCtorEq, true_or, or_true, false_or, or_false, true_and, and_true, false_and, and_false, not_true_eq_false, not_false_eq_true, wr_2, wrL_1, zm_eqF, zm_eqF', zm_lt, zm_lt', zm_le, zm_le', zm_sub1, zN_01, Nat.mul_zero, Nat.zero_mul, Nat.mul_one, Nat.sub_zero, Nat.sub_self, Nat.add_sub_cancel, m2, k14, kp, e91]
theorem spare_c {P : Nat → Nat} {T : List Nat} {R : List Int64} {U : List (Nat → Nat)} {K : Nat → Option (Nat → Nat)} (hw : WF P T R U K) {t k : Nat} {Pm : Nat → Nat} (ht : t = 1 ∨ t = 2) (hpn : pgs P ≠ 0) (hC : ∀ M fuel, 70 - P (5 + t) < fuel → Leaf M 10 P → ∃ M', fX6_spare_79 (zN t) fuel (zN (pgs P)) (zN (apt P)) (zN 0) (zN (P (5 + t))) M = fX6_spare_147 (zN t) (zN (apt Pm)) (zN k) M' ∧ fr (fun c _ => (10 ≤ c ∧ c < 20) ∨ (120 ≤ c ∧ c ≤ 147)) M M') : CD (fX6_spare_12 (zN t)) P T R U K (zN k) P T [(zN (apt Pm)).toInt64] U K := by
  have hP := hw.1
  have hU := hw.2.2.2.1.1
  have hpl := pgs_le hP
  intro M hM
  obtain ⟨M1, e1, l1, f1⟩ := copy0 hP (b := 10) hM.1 (by omega)
  obtain ⟨M2, e2, s2, l2, f2⟩ := cset0 hP (b := 10) (by omega) l1
  have pc := pageCount4 hP l2 s2
  have ea := endsApart4 hP l2 s2
  have lc : M2.1 2 t = zN (P (5 + t)) := by
    rw [f2.1 _ _ (by omega), f1.1 _ _ (by omega)]
    exact hM.1.2.2.1 t (by omega)
  obtain ⟨M3, e3, f3⟩ := hC M2 zFU (by rw [zFU_eq]; omega) l2
  obtain ⟨M4, e4, r4, y4⟩ := tell1 (zN (apt Pm)).toInt64 M3
  have l0 : Leaf M4 0 P := Leaf_eq hM.1 (fun c j a b => by rw [y4.1 c j (by omega), f3.1 c j (by omega), f2.1 c j (by omega), f1.1 c j (by omega)])
  refine ⟨M4, ?_, CI_q hM hU (cq_trans (cq_leaf (by omega) f1) (cq_trans (cq_set f2) (cq_trans (cq_fr f3 (fun c j a => by unfold CW; omega)) (cq_Y y4)))) l0 r4⟩
  have e147 : fX6_spare_147 (zN t) (zN (apt Pm)) (zN k) M3 = some (zN k, M4) := by
    unfold fX6_spare_147; rw [e4]; rfl
  unfold fX6_spare_12
  simp only [zN_lit]
  rw [e1, Option.bind_some, e2, Option.bind_some, pc, Option.bind_some, if_neg (show ¬ ((zN (pgs P), M2) : Int32 × zMM).1 = zN 0 by show ¬ zN (pgs P) = zN 0; rw [zN_eqF (by omega)]; exact id), ea, Option.bind_some, if_neg (show ¬ oob (zN t) 3 by rw [zN_oobF (by omega)]; exact id)]
  dsimp only
  rw [zN_nat (by omega), lc, e3, e147]
theorem spare_m {P : Nat → Nat} {T : List Nat} {R : List Int64} {U : List (Nat → Nat)} {K : Nat → Option (Nat → Nat)} (hw : WF P T R U K) {t k : Nat} {Pm : Nat → Nat} (ht : t = 1 ∨ t = 2) (hpn : pgs P ≠ 0) (hMM : ∀ M fuel, 70 - P (5 + t) + 1 < fuel → MNow M P → M.1 158 14 = zN (pgs P) → ∃ M' Pz, fX7_spare_38 (zN t) fuel (zN (pgs P)) (zN 0) M = fX7_spare_114 (zN t) (zN k) M' ∧ MNow M' Pz ∧ Good Pz ∧ apt Pz = apt Pm ∧ fr (fun c j => c = 159 ∨ MS c j) M M') : MD (fX7_spare (zN t)) P T R U K (zN k) P T [(zN (apt Pm)).toInt64] U K := by
  have hP := hw.1
  have hpl := pgs_le hP
  intro M hM
  have tt := in7T (a := t) (lo := 1) (hi := 2) (by omega) (wr M 158 5 (zN 0))
  have h0 := MNow_w (j := 5) (v := zN 0) hM.1
  obtain ⟨M1, e1, s1, n1, f1⟩ := mset0 hP h0
  have k14 := s1.2
  obtain ⟨M2, e2, as2, n2, f2⟩ := aside7 n1
  have k14' : M2.1 158 14 = zN (pgs P) := by rw [f2.1 _ _ (by omega)]; exact k14
  obtain ⟨M3, Pz, e3, n3, g3, a3, f3⟩ := hMM M2 zFU (by rw [zFU_eq]; omega) n2 k14'
  have as3 := AS_fr as2 f3 (fun j a => by unfold MS at a; omega)
  obtain ⟨M4, e4, s4, n4, f4⟩ := mset0 g3 n3
  have ea := apartOf7 g3 n4 s4
  rw [a3] at ea
  have as4 := AS_fr as3 f4 (fun j a => by unfold MS at a; omega)
  obtain ⟨M5, e5, n5, f5⟩ := back7 as4
  obtain ⟨M6, e6, r6, x6⟩ := tell7 (MR_nil M5) (by simp) (zN (apt Pm)).toInt64
  refine ⟨M6, ?_, MI_q hM (mq_trans (mq_w (j := 5) (v := zN 0) (by omega)) (mq_trans (mq_MS f1) (mq_trans (mq_166 f2) (mq_trans (mq_fr f3 (fun c j a => by unfold MS at a; unfold MSc; omega)) (mq_trans (mq_MS f4) (mq_trans (mq_159 f5) (mq_trans (mq_w (j := 4) (v := zN 0) (by omega)) (mq_X x6)))))))) (MNow_X (MNow_w n5) x6) r6⟩
  have e114 : fX7_spare_114 (zN t) (zN k) M3 = some (zN k, M6) := by
    unfold fX7_spare_114
    simp only [zN_lit]
    rw [e4, Option.bind_some, ea, Option.bind_some, e5, Option.bind_some, e6]; rfl
  unfold fX7_spare
  simp only [zN_lit]
  rw [tt, Option.bind_some, if_neg nz10, e1, Option.bind_some, k14, if_neg (show ¬ zN (pgs P) = zN 0 by rw [zN_eqF (by omega)]; exact id), e2, Option.bind_some, e3, e114]
theorem call_spare (x : Int32) : Cll (fX6_spare x) (fX7_spare x) := by
  refine Cll_of (fun P T R U K hw => ?_)
  have hP := hw.1
  have hU := hw.2.2.2.1.1
  have hpl := pgs_le hP
  rcases zcaseR x 1 2 with ⟨t, t1, t2, rfl⟩ | hx | ⟨n, hn, rfl, hnn⟩
  · have ht : t = 1 ∨ t = 2 := by omega
    have s12 : ∀ M, fX6_spare (zN t) M = fX6_spare_12 (zN t) M := by
      intro M
      unfold fX6_spare
      rcases ht with rfl | rfl <;> simp (disch := omega) only [wr_cj, wr_nj, rng_in, rng_out, zN_lit, zN_add, zN_mul, zN_sub, zN_ltT, zN_ltF, zN_leT, zN_leF, zN_eqT, zN_eqF, zN_lt, zN_le, zN_eq, zN_nat, zN_oobF, Option.bind_some, ↓reduceIte, Nat.one_mul, Nat.zero_add, Nat.add_zero, Nat.reduceAdd, Nat.reduceMul, Nat.reduceSub, Nat.reduceLT, Nat.reduceLeDiff, Nat.reduceEqDiff, reduceCtorEq, true_or, or_true, false_or, or_false, true_and, and_true, false_and, and_false, not_true_eq_false, not_false_eq_true, wr_2, wrL_1, zm_eqF, zm_eqF', zm_lt, zm_lt', zm_le, zm_le', zm_sub1, zN_01, Nat.mul_zero, Nat.zero_mul, Nat.mul_one, Nat.sub_zero, Nat.sub_self, Nat.add_sub_cancel]
    by_cases hpn : pgs P = 0
    · refine ⟨-zN 2, P, T, R, U, K, hw, fun M hM => ?_, fun M hM => ?_⟩
      · obtain ⟨M1, e1, l1, f1⟩ := copy0 hP (b := 10) hM.1 (by omega)
        obtain ⟨M2, e2, s2, l2, f2⟩ := cset0 hP (b := 10) (by omega) l1
        have pc := pageCount4 hP l2 s2
        rw [hpn] at pc
        have ff : fr (fun c _ => (10 ≤ c ∧ c < 20) ∨ (120 ≤ c ∧ c ≤ 147)) M M2 := fr_trans (fr_mono f1 (fun c j a => by omega)) (fr_mono f2 (fun c j a => by omega))
        refine ⟨M2, ?_, CI_sc hM hU ff (fun c j a => by omega), frC_fr ff (fun c j a => by omega)⟩
        rw [s12]
        unfold fX6_spare_12
        simp only [zN_lit]
        rw [e1, Option.bind_some, e2, Option.bind_some, pc, Option.bind_some]
        exact if_pos rfl
      · have tt := in7T (a := t) (lo := 1) (hi := 2) (by omega) (wr M 158 5 (zN 0))
        obtain ⟨M1, e1, s1, n1, f1⟩ := mset0 hP (MNow_w (j := 5) (v := zN 0) hM.1)
        have k14 := s1.2
        rw [hpn] at k14
        refine ⟨M1, ?_, MI_sc (MI_th hM) f1 (fun c j a => by unfold MS at a; unfold MSc; omega), frM_trans (frM_th M _) (frM_fr f1 (fun c j a => by unfold MS at a; omega))⟩
        unfold fX7_spare
        simp only [zN_lit]
        rw [tt, Option.bind_some, if_neg nz10, e1, Option.bind_some, k14]
        exact if_pos rfl
    · obtain ⟨k, Pm, hPm, hC, hMM⟩ := sp_both ht hpl (70 - P (5 + t)) P 0 rfl hP
      refine ⟨zN k, P, T, [(zN (apt Pm)).toInt64], U, K, WF_R hw (by simp), fun M hM => ?_, spare_m hw ht hpn hMM⟩
      rw [s12]
      exact spare_c hw ht hpn hC M hM
  · refine ⟨-zN 1, P, T, R, U, K, hw, CD_no (fun M hM => ?_), MD_no (fun M hM => ?_)⟩
    · unfold fX6_spare; simp (disch := omega) only [wr_cj, wr_nj, rng_in, rng_out, zN_lit, zN_add, zN_mul, zN_sub, zN_ltT, zN_ltF, zN_leT, zN_leF, zN_eqT, zN_eqF, zN_lt, zN_le, zN_eq, zN_nat, zN_oobF, Option.bind_some, ↓reduceIte, Nat.one_mul, Nat.zero_add, Nat.add_zero, Nat.reduceAdd, Nat.reduceMul, Nat.reduceSub, Nat.reduceLT, Nat.reduceLeDiff, Nat.reduceEqDiff, reduceCtorEq, true_or, or_true, false_or, or_false, true_and, and_true, false_and, and_false, not_true_eq_false, not_false_eq_true, wr_2, wrL_1, zm_eqF, zm_eqF', zm_lt, zm_lt', zm_le, zm_le', zm_sub1, zN_01, Nat.mul_zero, Nat.zero_mul, Nat.mul_one, Nat.sub_zero, Nat.sub_self, Nat.add_sub_cancel, zg_eq hx]
    · have t := in7g hx (lo := 1) (by omega) (zN 2) (wr M 158 5 (zN 0))
      unfold fX7_spare; simp (disch := omega) only [wr_cj, wr_nj, rng_in, rng_out, zN_lit, zN_add, zN_mul, zN_sub, zN_ltT, zN_ltF, zN_leT, zN_leF, zN_eqT, zN_eqF, zN_lt, zN_le, zN_eq, zN_nat, zN_oobF, Option.bind_some, ↓reduceIte, Nat.one_mul, Nat.zero_add, Nat.add_zero, Nat.reduceAdd, Nat.reduceMul, Nat.reduceSub, Nat.reduceLT, Nat.reduceLeDiff, Nat.reduceEqDiff, reduceCtorEq, true_or, or_true, false_or, or_false, true_and, and_true, false_and, and_false, not_true_eq_false, not_false_eq_true, wr_2, wrL_1, zm_eqF, zm_eqF', zm_lt, zm_lt', zm_le, zm_le', zm_sub1, zN_01, Nat.mul_zero, Nat.zero_mul, Nat.mul_one, Nat.sub_zero, Nat.sub_self, Nat.add_sub_cancel, t]
  · refine ⟨-zN 1, P, T, R, U, K, hw, CD_no (fun M hM => ?_), MD_no (fun M hM => ?_)⟩
    · unfold fX6_spare; simp (disch := omega) only [wr_cj, wr_nj, rng_in, rng_out, zN_lit, zN_add, zN_mul, zN_sub, zN_ltT, zN_ltF, zN_leT, zN_leF, zN_eqT, zN_eqF, zN_lt, zN_le, zN_eq, zN_nat, zN_oobF, Option.bind_some, ↓reduceIte, Nat.one_mul, Nat.zero_add, Nat.add_zero, Nat.reduceAdd, Nat.reduceMul, Nat.reduceSub, Nat.reduceLT, Nat.reduceLeDiff, Nat.reduceEqDiff, reduceCtorEq, true_or, or_true, false_or, or_false, true_and, and_true, false_and, and_false, not_true_eq_false, not_false_eq_true, wr_2, wrL_1, zm_eqF, zm_eqF', zm_lt, zm_lt', zm_le, zm_le', zm_sub1, zN_01, Nat.mul_zero, Nat.zero_mul, Nat.mul_one, Nat.sub_zero, Nat.sub_self, Nat.add_sub_cancel]
    · have t := in7F (a := n) (lo := 1) (hi := 2) (by omega) (wr M 158 5 (zN 0))
      unfold fX7_spare; simp (disch := omega) only [wr_cj, wr_nj, rng_in, rng_out, zN_lit, zN_add, zN_mul, zN_sub, zN_ltT, zN_ltF, zN_leT, zN_leF, zN_eqT, zN_eqF, zN_lt, zN_le, zN_eq, zN_nat, zN_oobF, Option.bind_some, ↓reduceIte, Nat.one_mul, Nat.zero_add, Nat.add_zero, Nat.reduceAdd, Nat.reduceMul, Nat.reduceSub, Nat.reduceLT, Nat.reduceLeDiff, Nat.reduceEqDiff, reduceCtorEq, true_or, or_true, false_or, or_false, true_and, and_true, false_and, and_false, not_true_eq_false, not_false_eq_true, wr_2, wrL_1, zm_eqF, zm_eqF', zm_lt, zm_lt', zm_le, zm_le', zm_sub1, zN_01, Nat.mul_zero, Nat.zero_mul, Nat.mul_one, Nat.sub_zero, Nat.sub_self, Nat.add_sub_cancel, t]
