/-! a word comes -/
def hI (P : Nat → Nat) (t k v : Nat) : Nat → Nat := fun j => if j = 5 + t then P (5 + t) + 1 else if j = 8 + 70 * t + k then v else if 8 + 70 * t + k < j ∧ j ≤ 8 + 70 * t + P (5 + t) then P (j - 1) else P j
def putP (P : Nat → Nat) (t k v : Nat) : Nat → Nat := shN (ov (hI P t k v) P) t k (fun x => x + 1) (P 218)
theorem shN_t1 (P : Nat → Nat) (t k : Nat) (f : Nat → Nat) {n i : Nat} (hi : i < n) : shN P t k f n (220 + 3 * i) = if t ≠ 0 ∧ P (219 + 3 * i) = t ∧ k ≤ P (220 + 3 * i) then f (P (220 + 3 * i)) else P (220 + 3 * i) := by
  unfold shN
  rw [show 220 + 3 * i - 1 = 219 + 3 * i by omega]
  by_cases ht : t = 0
  · subst ht
    rw [if_neg (by simp only [if_true]; omega), if_neg (by omega)]
  · simp only [ht, if_false, false_or, ne_eq, not_false_eq_true, true_and]
    by_cases c : P (219 + 3 * i) = t ∧ k ≤ P (220 + 3 * i)
    · rw [if_pos c, if_pos (by omega)]
    · rw [if_neg c, if_neg (by omega)]
theorem shN_t2 (P : Nat → Nat) (t k : Nat) (f : Nat → Nat) {n i : Nat} (hi : i < n) : shN P t k f n (221 + 3 * i) = if t = 0 ∧ k ≤ P (221 + 3 * i) then f (P (221 + 3 * i)) else P (221 + 3 * i) := by
  unfold shN
  by_cases ht : t = 0
  · subst ht
    simp only [if_true, true_or, true_and]
    by_cases c : k ≤ P (221 + 3 * i)
    · rw [if_pos c, if_pos (by omega)]
    · rw [if_neg c, if_neg (by omega)]
  · rw [if_neg (by simp only [ht, if_false]; omega), if_neg (by omega)]
theorem hI_c (P : Nat → Nat) {t k v u : Nat} (ht : t < 3) (hu : u < 3) : hI P t k v (5 + u) = if u = t then P (5 + t) + 1 else P (5 + u) := by
  unfold hI
  by_cases e : u = t
  · subst e; rw [if_pos rfl, if_pos rfl]
  · rw [if_neg (by omega), if_neg (by omega), if_neg (by omega), if_neg e]
theorem hI_lo (P : Nat → Nat) {t k v j : Nat} (hj : j < 5) : hI P t k v j = P j := by
  unfold hI; rw [if_neg (by omega), if_neg (by omega), if_neg (by omega)]
theorem hI_s (P : Nat → Nat) {t k v u m : Nat} (ht : t < 3) (hu : u < 3) (hm : m < 70) (hc : P (5 + t) < 70) (hk : k ≤ P (5 + t)) : hI P t k v (8 + 70 * u + m) = if u = t then (if m < k then P (8 + 70 * t + m) else if m = k then v else if m ≤ P (5 + t) then P (8 + 70 * t + (m - 1)) else P (8 + 70 * t + m)) else P (8 + 70 * u + m) := by
  unfold hI
  by_cases e : u = t
  · subst e
    rw [if_neg (by omega), if_pos rfl]
    by_cases c1 : m < k
    · rw [if_neg (by omega), if_neg (by omega), if_pos c1]
    · rw [if_neg c1]
      by_cases c2 : m = k
      · rw [if_pos (by omega), if_pos c2]
      · rw [if_neg (by omega), if_neg c2]
        by_cases c3 : m ≤ P (5 + u)
        · rw [if_pos (by omega), if_pos c3]; congr 1; omega
        · rw [if_neg (by omega), if_neg c3]
  · rw [if_neg (by omega), if_neg (by omega), if_neg (by omega), if_neg e]
theorem putP_lo (P : Nat → Nat) {t k v j : Nat} (hj : j < 218) : putP P t k v j = hI P t k v j := by
  unfold putP; rw [shN_out (by omega), ov_lo hj]
theorem putP_hi (P : Nat → Nat) {t k v j : Nat} (hn : P 218 ≤ 12) (hj : j = 218 ∨ 255 ≤ j) : putP P t k v j = P j := by
  unfold putP; rw [shN_out (by omega), ov_hi (by omega)]
theorem Good_put {P : Nat → Nat} (hP : Good P) {t k v : Nat} (ht : t < 3) (hk : k ≤ P (5 + t)) (hc : P (5 + t) < 70) (hv : 1 ≤ v ∧ v ≤ 9) : Good (putP P t k v) := by
  obtain ⟨h1, h2, h3, h4⟩ := hP
  have h12 := h3.1
  refine ⟨?_, ?_, ?_, ?_⟩
  · rw [putP_lo P (j := 0) (by omega), putP_lo P (j := 1) (by omega), putP_lo P (j := 2) (by omega), putP_lo P (j := 3) (by omega), putP_lo P (j := 4) (by omega), putP_hi P (j := 255) h12 (by omega), hI_lo P (by omega), hI_lo P (by omega), hI_lo P (by omega), hI_lo P (by omega), hI_lo P (by omega)]
    exact h1
  · intro u hu
    have hcu : putP P t k v (5 + u) = if u = t then P (5 + t) + 1 else P (5 + u) := by rw [putP_lo P (by omega), hI_c P ht hu]
    rw [hcu]
    have hu2 := (h2 u hu).1
    refine ⟨by split <;> omega, fun m hm => ?_⟩
    have hm70 : m < 70 := by split at hm <;> omega
    unfold pSz
    rw [putP_lo P (by omega), hI_s P ht hu hm70 hc hk]
    by_cases e : u = t
    · subst e
      rw [if_pos rfl] at hm ⊢
      by_cases c1 : m < k
      · rw [if_pos c1]; exact (h2 u hu).2 m (by omega)
      · rw [if_neg c1]
        by_cases c2 : m = k
        · rw [if_pos c2]; exact hv
        · rw [if_neg c2, if_pos (by omega)]; exact (h2 u hu).2 (m - 1) (by omega)
    · rw [if_neg e] at hm ⊢
      exact (h2 u hu).2 m hm
  · rw [putP_hi P h12 (Or.inl rfl)]
    refine ⟨h12, fun i hi => ?_⟩
    have h := h3.2 i hi
    have e0 : putP P t k v (219 + 3 * i) = P (219 + 3 * i) := by unfold putP; rw [shN_out (by omega), ov_hi (by omega)]
    have e1 : putP P t k v (220 + 3 * i) = if t ≠ 0 ∧ P (219 + 3 * i) = t ∧ k ≤ P (220 + 3 * i) then P (220 + 3 * i) + 1 else P (220 + 3 * i) := by
      unfold putP; rw [shN_t1 _ _ _ _ hi, ov_hi (by omega), ov_hi (by omega)]
    have e2 : putP P t k v (221 + 3 * i) = if t = 0 ∧ k ≤ P (221 + 3 * i) then P (221 + 3 * i) + 1 else P (221 + 3 * i) := by
      unfold putP; rw [shN_t2 _ _ _ _ hi, ov_hi (by omega)]
    have c5 : putP P t k v 5 = if 0 = t then P (5 + t) + 1 else P 5 := by have := hI_c P (k := k) (v := v) ht (u := 0) (by omega); rw [Nat.add_zero] at this; rw [putP_lo P (by omega), this]
    have c6 : putP P t k v (5 + P (219 + 3 * i)) = if P (219 + 3 * i) = t then P (5 + t) + 1 else P (5 + P (219 + 3 * i)) := by rw [putP_lo P (by omega), hI_c P ht (by omega)]
    rw [e0, e1, e2, c5, c6]
    refine ⟨h.1, ?_, ?_⟩
    · by_cases c : P (219 + 3 * i) = t
      · rw [if_pos c]
        have hh := h.2.1
        rw [c] at hh
        split <;> omega
      · rw [if_neg c, if_neg (by omega)]; exact h.2.1
    · by_cases c : t = 0
      · subst c
        have hh := h.2.2
        rw [if_pos rfl]
        split <;> simp only [Nat.add_zero] <;> omega
      · rw [if_neg (by omega), if_neg (by omega)]; exact h.2.2
  · rw [putP_hi P h12 (by omega), putP_hi P h12 (by omega), putP_hi P h12 (by omega)]; exact h4
theorem ov_tb {h P : Nat → Nat} (hb : tb P) : tb (ov h P) := by
  unfold tb
  rw [ov_hi (by omega)]
  refine ⟨hb.1, fun i hi => ?_⟩
  rw [ov_hi (by omega), ov_hi (by omega), ov_hi (by omega)]; exact hb.2 i hi
/-- a leaf with other sizes and counts -/
theorem Leaf_ov {M M' : zMM} {b : Nat} {h P : Nat → Nat} (hL : Leaf M b P) (hlo : ∀ j, j < 5 → h j = P j) (hn : P 218 ≤ 12) (f : fr (fun c _ => c = b + 2 ∨ (b + 4 ≤ c ∧ c ≤ b + 6)) M M') (hc : ∀ t, t < 3 → M'.1 (b + 2) t = zN (h (5 + t))) (h70 : ∀ t, t < 3 → h (5 + t) ≤ 70) (hs : ∀ t, t < 3 → ∀ k, k < h (5 + t) → M'.1 (b + 4 + t) k = zN (h (8 + 70 * t + k))) : Leaf M' b (ov h P) := by
  obtain ⟨⟨l0, l1, l2, l3, l4, l5, l6⟩, lw, lc, ls, lt⟩ := hL
  refine ⟨⟨?_, ?_, ?_, ?_, ?_, ?_, ?_⟩, ?_, ?_, ?_, ?_⟩
  · rw [f.1 _ _ (by omega), ov_lo (by omega), hlo _ (by omega)]; exact l0
  · rw [f.1 _ _ (by omega), ov_lo (by omega), hlo _ (by omega)]; exact l1
  · rw [f.1 _ _ (by omega), ov_hi (by omega)]; exact l2
  · rw [f.1 _ _ (by omega), ov_lo (by omega), hlo _ (by omega)]; exact l3
  · rw [f.1 _ _ (by omega), ov_lo (by omega), hlo _ (by omega)]; exact l4
  · rw [f.1 _ _ (by omega), ov_lo (by omega), hlo _ (by omega)]; exact l5
  · rw [f.1 _ _ (by omega), ov_hi (by omega)]; exact l6
  · intro i hi; rw [f.1 _ _ (by omega), ov_hi (by omega)]; exact lw i hi
  · intro t ht; rw [ov_lo (by omega)]; exact hc t ht
  · intro t ht k hk
    rw [ov_lo (by omega)] at hk
    have := h70 t ht
    unfold pSz; rw [ov_lo (by omega)]; exact hs t ht k hk
  · intro i hi
    rw [ov_hi (by omega)] at hi
    rw [f.1 _ _ (by omega), f.1 _ _ (by omega), f.1 _ _ (by omega), ov_hi (by omega), ov_hi (by omega), ov_hi (by omega)]; exact lt i hi
theorem put0 {P : Nat → Nat} (hP : Good P) {b t k v : Nat} (ht : t < 3) (hk : k ≤ P (5 + t)) (hc : P (5 + t) < 70) {M : zMM} (hL : Leaf M b P) :
    ∃ M', fX0_put b (zN t) (zN k) (zN v) M = some M' ∧ Leaf M' b (putP P t k v) ∧ fr (fun c _ => b ≤ c ∧ c < b + 10) M M' := by
  have lc := hL.2.2.1 t ht
  have h12 := hP.2.2.1.1
  have it := isText6T ht M
  obtain ⟨M1, e1, h1, f1⟩ := cpDown (fX0_put_49 b (zN t) (zN k) (zN v)) (fun M' => (fX0_moveTies b (zN t) (zN k) (zN 1) (wr (wr M' (b + 4 + t) k (zN v)) (b + 2) t (zN (P (5 + t) + 1)))).bind fun q4 => some q4) (fun i => zN (P (5 + t) - i)) (P (5 + t) - k) (b + 4 + t) (P (5 + t)) (by omega) M (by
    intro n i M' hi hf
    rw [fX0_put_49, show P (5 + t) - (i + 1) = P (5 + t) - i - 1 by omega]
    simp (disch := omega) only [wr_cj, wr_nj, rng_in, rng_out, zN_lit, zN_add, zN_mul, zN_sub, zN_ltT, zN_ltF, zN_leT, zN_leF, zN_eqT, zN_eqF, zN_lt, zN_le, zN_eq, zN_nat, zN_oobF, Option.bind_some, ↓reduceIte, Nat.one_mul, Nat.zero_add, Nat.add_zero, Nat.reduceAdd, Nat.reduceMul, Nat.reduceSub, Nat.reduceLT, Nat.reduceLeDiff, Nat.reduceEqDiff, reduceCtorEq, true_or, or_true, false_or, or_false, true_and, and_true, false_and, and_false, not_true_eq_false, not_false_eq_true, wr_2, wrL_1, zm_eqF, zm_eqF', zm_lt, zm_lt', zm_le, zm_le', zm_sub1, zN_01, Nat.mul_zero, Nat.zero_mul, Nat.mul_one, Nat.sub_zero, Nat.sub_self, Nat.add_sub_cancel]) (by
    intro n M' hf
    have k2 : M'.1 (b + 2) t = zN (P (5 + t)) := by rw [hf.1 _ _ (by omega)]; exact lc
    rw [fX0_put_49, show P (5 + t) - (P (5 + t) - k) = k by omega]
    simp (disch := omega) only [wr_cj, wr_nj, rng_in, rng_out, zN_lit, zN_add, zN_mul, zN_sub, zN_ltT, zN_ltF, zN_leT, zN_leF, zN_eqT, zN_eqF, zN_lt, zN_le, zN_eq, zN_nat, zN_oobF, Option.bind_some, ↓reduceIte, Nat.one_mul, Nat.zero_add, Nat.add_zero, Nat.reduceAdd, Nat.reduceMul, Nat.reduceSub, Nat.reduceLT, Nat.reduceLeDiff, Nat.reduceEqDiff, reduceCtorEq, true_or, or_true, false_or, or_false, true_and, and_true, false_and, and_false, not_true_eq_false, not_false_eq_true, wr_2, wrL_1, zm_eqF, zm_eqF', zm_lt, zm_lt', zm_le, zm_le', zm_sub1, zN_01, Nat.mul_zero, Nat.zero_mul, Nat.mul_one, Nat.sub_zero, Nat.sub_self, Nat.add_sub_cancel, k2]) zFU (by rw [zFU_eq]; omega)
  have f2 : fr (fun c _ => c = b + 2 ∨ (b + 4 ≤ c ∧ c ≤ b + 6)) M (wr (wr M1 (b + 4 + t) k (zN v)) (b + 2) t (zN (P (5 + t) + 1))) := fr_wr (fr_wr (fr_mono f1 (fun c j a => by omega)) (by omega)) (by omega)
  have l2 : Leaf (wr (wr M1 (b + 4 + t) k (zN v)) (b + 2) t (zN (P (5 + t) + 1))) b (ov (hI P t k v) P) := by
    refine Leaf_ov hL (fun j hj => hI_lo P hj) h12 f2 ?_ ?_ ?_
    · intro u hu
      rw [hI_c P ht hu]
      by_cases e : u = t
      · subst e; rw [if_pos rfl, wr_cj]
      · rw [if_neg e, wr_nj (by omega), wr_nj (by omega), f1.1 _ _ (by omega)]; exact hL.2.2.1 u hu
    · intro u hu
      rw [hI_c P ht hu]
      have := (hP.2.1 u hu).1
      split <;> omega
    · intro u hu m hm
      rw [hI_c P ht hu] at hm
      have hu2 := (hP.2.1 u hu).1
      have hm70 : m < 70 := by split at hm <;> omega
      rw [hI_s P ht hu hm70 hc hk]
      by_cases e : u = t
      · subst e
        rw [if_pos rfl] at hm ⊢
        have hls := hL.2.2.2.1 u hu
        unfold pSz at hls
        by_cases c1 : m < k
        · rw [if_pos c1, wr_nj (by omega), wr_nj (by omega), f1.1 _ _ (by omega)]; exact hls m (by omega)
        · rw [if_neg c1]
          by_cases c2 : m = k
          · subst c2; rw [if_pos rfl, wr_nj (by omega), wr_cj]
          · rw [if_neg c2, if_pos (by omega), wr_nj (by omega), wr_nj (by omega), h1 m (by omega) (by omega)]; exact hls (m - 1) (by omega)
      · rw [if_neg e] at hm ⊢
        rw [wr_nj (by omega), wr_nj (by omega), f1.1 _ _ (by omega)]; exact hL.2.2.2.1 u hu m hm
  have cok : ∀ u, u < 3 → ov (hI P t k v) P (5 + u) ≤ 70 := by
    intro u hu
    rw [ov_lo (by omega), hI_c P ht hu]
    have := (hP.2.1 u hu).1
    split <;> omega
  have tbo := ov_tb (h := hI P t k v) (Good_tb hP)
  obtain ⟨M3, e3, l3, f3⟩ := moveTies0 (a3 := zN 1) (f := fun x => x + 1) tbo cok (k := k) ht (by omega) (fun i _ _ _ => by rw [zN_add]) l2
  rw [ov_hi (by omega)] at l3
  refine ⟨M3, ?_, l3, fr_trans (fr_mono f2 (fun c j a => by omega)) (fr_mono f3 (fun c j a => by omega))⟩
  rw [Nat.sub_zero] at e1
  unfold fX0_put
  simp (disch := omega) only [wr_cj, wr_nj, rng_in, rng_out, zN_lit, zN_add, zN_mul, zN_sub, zN_ltT, zN_ltF, zN_leT, zN_leF, zN_eqT, zN_eqF, zN_lt, zN_le, zN_eq, zN_nat, zN_oobF, Option.bind_some, ↓reduceIte, Nat.one_mul, Nat.zero_add, Nat.add_zero, Nat.reduceAdd, Nat.reduceMul, Nat.reduceSub, Nat.reduceLT, Nat.reduceLeDiff, Nat.reduceEqDiff, reduceCtorEq, true_or, or_true, false_or, or_false, true_and, and_true, false_and, and_false, not_true_eq_false, not_false_eq_true, wr_2, wrL_1, zm_eqF, zm_eqF', zm_lt, zm_lt', zm_le, zm_le', zm_sub1, zN_01, Nat.mul_zero, Nat.zero_mul, Nat.mul_one, Nat.sub_zero, Nat.sub_self, Nat.add_sub_cancel, it, lc]
  refine Eq.trans e1 ?_
  show (fX0_moveTies b (zN t) (zN k) (zN 1) (wr (wr M1 (b + 4 + t) k (zN v)) (b + 2) t (zN (P (5 + t) + 1)))).bind (fun q4 => some q4) = some M3
  rw [e3]; rfl
theorem MNow_ov {M M' : zMM} {h P : Nat → Nat} (hM : MNow M P) (hlo : ∀ j, j < 218 → M'.1 159 j = zN (h j)) (hhi : ∀ j, 218 ≤ j → M'.1 159 j = M.1 159 j) : MNow M' (ov h P) := by
  intro j hj
  by_cases c : j < 218
  · rw [ov_lo c]; exact hlo j c
  · rw [ov_hi (by omega), hhi j (by omega)]; exact hM j hj
theorem put7 {P : Nat → Nat} (hP : Good P) {t k v : Nat} (ht : t < 3) (hk : k ≤ P (5 + t)) (hc : P (5 + t) < 70) {M : zMM} (hM : MNow M P) :
    ∃ M', fX7_put (zN t) (zN k) (zN v) M = some M' ∧ MNow M' (putP P t k v) ∧ fr (fun c _ => c = 159) M M' := by
  have lc := hM (5 + t) (by omega)
  have h12 := hP.2.2.1.1
  obtain ⟨M1, e1, h1, f1⟩ := cpDown (fX7_put_10 (zN t) (zN k) (zN v)) (fun M' => (fX7_shiftTies (zN t) (zN k) (zN 1) (wr (wr M' 159 (8 + 70 * t + k) (zN v)) 159 (5 + t) (zN (P (5 + t) + 1)))).bind fun q4 => some q4) (fun i => zN (P (5 + t) - i)) (P (5 + t) - k) 159 (8 + 70 * t + P (5 + t)) (by omega) M (by
    intro n i M' hi hf
    rw [fX7_put_10, show P (5 + t) - (i + 1) = P (5 + t) - i - 1 by omega, show 8 + 70 * t + P (5 + t) - i = 8 + 70 * t + (P (5 + t) - i) by omega]
    simp (disch := omega) only [wr_cj, wr_nj, rng_in, rng_out, zN_lit, zN_add, zN_mul, zN_sub, zN_ltT, zN_ltF, zN_leT, zN_leF, zN_eqT, zN_eqF, zN_lt, zN_le, zN_eq, zN_nat, zN_oobF, Option.bind_some, ↓reduceIte, Nat.one_mul, Nat.zero_add, Nat.add_zero, Nat.reduceAdd, Nat.reduceMul, Nat.reduceSub, Nat.reduceLT, Nat.reduceLeDiff, Nat.reduceEqDiff, reduceCtorEq, true_or, or_true, false_or, or_false, true_and, and_true, false_and, and_false, not_true_eq_false, not_false_eq_true, wr_2, wrL_1, zm_eqF, zm_eqF', zm_lt, zm_lt', zm_le, zm_le', zm_sub1, zN_01, Nat.mul_zero, Nat.zero_mul, Nat.mul_one, Nat.sub_zero, Nat.sub_self, Nat.add_sub_cancel]) (by
    intro n M' hf
    have k2 : M'.1 159 (5 + t) = zN (P (5 + t)) := by rw [hf.1 _ _ (by omega)]; exact lc
    rw [fX7_put_10, show P (5 + t) - (P (5 + t) - k) = k by omega]
    simp (disch := omega) only [wr_cj, wr_nj, rng_in, rng_out, zN_lit, zN_add, zN_mul, zN_sub, zN_ltT, zN_ltF, zN_leT, zN_leF, zN_eqT, zN_eqF, zN_lt, zN_le, zN_eq, zN_nat, zN_oobF, Option.bind_some, ↓reduceIte, Nat.one_mul, Nat.zero_add, Nat.add_zero, Nat.reduceAdd, Nat.reduceMul, Nat.reduceSub, Nat.reduceLT, Nat.reduceLeDiff, Nat.reduceEqDiff, reduceCtorEq, true_or, or_true, false_or, or_false, true_and, and_true, false_and, and_false, not_true_eq_false, not_false_eq_true, wr_2, wrL_1, zm_eqF, zm_eqF', zm_lt, zm_lt', zm_le, zm_le', zm_sub1, zN_01, Nat.mul_zero, Nat.zero_mul, Nat.mul_one, Nat.sub_zero, Nat.sub_self, Nat.add_sub_cancel, k2]) zFU (by rw [zFU_eq]; omega)
  have f2 : fr (fun c _ => c = 159) M (wr (wr M1 159 (8 + 70 * t + k) (zN v)) 159 (5 + t) (zN (P (5 + t) + 1))) := fr_wr (fr_wr (fr_mono f1 (fun c j a => by omega)) (by omega)) (by omega)
  have l2 : MNow (wr (wr M1 159 (8 + 70 * t + k) (zN v)) 159 (5 + t) (zN (P (5 + t) + 1))) (ov (hI P t k v) P) := by
    refine MNow_ov hM (fun j hj => ?_) (fun j hj => ?_)
    · unfold hI
      by_cases c1 : j = 5 + t
      · rw [if_pos c1, c1, wr_cj]
      · rw [if_neg c1, wr_nj (by omega)]
        by_cases c2 : j = 8 + 70 * t + k
        · rw [if_pos c2, c2, wr_cj]
        · rw [if_neg c2, wr_nj (by omega)]
          by_cases c3 : 8 + 70 * t + k < j ∧ j ≤ 8 + 70 * t + P (5 + t)
          · rw [if_pos c3, h1 j (by omega) (by omega)]; exact hM _ (by omega)
          · rw [if_neg c3, f1.1 _ _ (by omega)]; exact hM _ (by omega)
    · rw [wr_nj (by omega), wr_nj (by omega), f1.1 _ _ (by omega)]
  have tbo := ov_tb (h := hI P t k v) (Good_tb hP)
  obtain ⟨M3, e3, l3, f3⟩ := shiftTies7 (a3 := zN 1) (f := fun x => x + 1) tbo (k := k) ht (by omega) (fun i _ _ _ => by rw [zN_add]) l2
  rw [ov_hi (by omega)] at l3
  refine ⟨M3, ?_, l3, fr_trans f2 f3⟩
  rw [Nat.sub_zero] at e1
  unfold fX7_put
  simp (disch := omega) only [wr_cj, wr_nj, rng_in, rng_out, zN_lit, zN_add, zN_mul, zN_sub, zN_ltT, zN_ltF, zN_leT, zN_leF, zN_eqT, zN_eqF, zN_lt, zN_le, zN_eq, zN_nat, zN_oobF, Option.bind_some, ↓reduceIte, Nat.one_mul, Nat.zero_add, Nat.add_zero, Nat.reduceAdd, Nat.reduceMul, Nat.reduceSub, Nat.reduceLT, Nat.reduceLeDiff, Nat.reduceEqDiff, reduceCtorEq, true_or, or_true, false_or, or_false, true_and, and_true, false_and, and_false, not_true_eq_false, not_false_eq_true, wr_2, wrL_1, zm_eqF, zm_eqF', zm_lt, zm_lt', zm_le, zm_le', zm_sub1, zN_01, Nat.mul_zero, Nat.zero_mul, Nat.mul_one, Nat.sub_zero, Nat.sub_self, Nat.add_sub_cancel, lc]
  refine Eq.trans e1 ?_
  show (fX7_shiftTies (zN t) (zN k) (zN 1) (wr (wr M1 159 (8 + 70 * t + k) (zN v)) 159 (5 + t) (zN (P (5 + t) + 1)))).bind (fun q4 => some q4) = some M3
  rw [e3]; rfl
/-! a word goes -/
def hD (P : Nat → Nat) (t k : Nat) : Nat → Nat := fun j => if j = 5 + t then P (5 + t) - 1 else if 8 + 70 * t + k ≤ j ∧ j + 1 < 8 + 70 * t + P (5 + t) then P (j + 1) else if j + 1 = 8 + 70 * t + P (5 + t) then 0 else P j
def qd (t k : Nat) : Nat → Nat → Nat → Bool := fun a b c => if t = 0 then decide (c = k) else decide (a = t) && decide (b = k)
def dropQ (P : Nat → Nat) (t k : Nat) : Nat → Nat := ov (hD P t k) (utF (qd t k) (P 218) P)
def dropP (P : Nat → Nat) (t k : Nat) : Nat → Nat := shN (dropQ P t k) t k (fun x => x - 1) (dropQ P t k 218)
theorem tq_td (P : Nat → Nat) (t k i : Nat) : tq (qd t k) P i = tdI P t k i := rfl
theorem isTieOfB {P : Nat → Nat} (hb : tb P) {b t k i : Nat} {M : zMM} (hL : Leaf M b P) (ht : t < 3) (hk : k < 1000) (hi : i < P 218) : fX0_isTieOf b (zN i) (zN t) (zN k) M = some (zN (if tdI P t k i then 1 else 0), M) := by
  have h := hb.2 i hi
  have h12 := hb.1
  obtain ⟨l1, l2, l3⟩ := hL.2.2.2.2 i hi
  unfold fX0_isTieOf tdI
  by_cases a : t = 0
  · subst a
    by_cases c : P (221 + 3 * i) = k
    · simp only [c, decide_true, if_true]; rw [c] at l3; simp (disch := omega) only [wr_cj, wr_nj, rng_in, rng_out, zN_lit, zN_add, zN_mul, zN_sub, zN_ltT, zN_ltF, zN_leT, zN_leF, zN_eqT, zN_eqF, zN_lt, zN_le, zN_eq, zN_nat, zN_oobF, Option.bind_some, ↓reduceIte, Nat.one_mul, Nat.zero_add, Nat.add_zero, Nat.reduceAdd, Nat.reduceMul, Nat.reduceSub, Nat.reduceLT, Nat.reduceLeDiff, Nat.reduceEqDiff, reduceCtorEq, true_or, or_true, false_or, or_false, true_and, and_true, false_and, and_false, not_true_eq_false, not_false_eq_true, wr_2, wrL_1, zm_eqF, zm_eqF', zm_lt, zm_lt', zm_le, zm_le', zm_sub1, zN_01, Nat.mul_zero, Nat.zero_mul, Nat.mul_one, Nat.sub_zero, Nat.sub_self, Nat.add_sub_cancel, l3]
    · simp only [c, decide_false, if_true, Bool.false_eq_true, if_false]; simp (disch := omega) only [wr_cj, wr_nj, rng_in, rng_out, zN_lit, zN_add, zN_mul, zN_sub, zN_ltT, zN_ltF, zN_leT, zN_leF, zN_eqT, zN_eqF, zN_lt, zN_le, zN_eq, zN_nat, zN_oobF, Option.bind_some, ↓reduceIte, Nat.one_mul, Nat.zero_add, Nat.add_zero, Nat.reduceAdd, Nat.reduceMul, Nat.reduceSub, Nat.reduceLT, Nat.reduceLeDiff, Nat.reduceEqDiff, reduceCtorEq, true_or, or_true, false_or, or_false, true_and, and_true, false_and, and_false, not_true_eq_false, not_false_eq_true, wr_2, wrL_1, zm_eqF, zm_eqF', zm_lt, zm_lt', zm_le, zm_le', zm_sub1, zN_01, Nat.mul_zero, Nat.zero_mul, Nat.mul_one, Nat.sub_zero, Nat.sub_self, Nat.add_sub_cancel, l3]
  · simp only [a, if_false]
    by_cases c : P (219 + 3 * i) = t
    · by_cases d : P (220 + 3 * i) = k
      · simp only [c, d, decide_true, Bool.and_self, if_true]; rw [c] at l1; rw [d] at l2; simp (disch := omega) only [wr_cj, wr_nj, rng_in, rng_out, zN_lit, zN_add, zN_mul, zN_sub, zN_ltT, zN_ltF, zN_leT, zN_leF, zN_eqT, zN_eqF, zN_lt, zN_le, zN_eq, zN_nat, zN_oobF, Option.bind_some, ↓reduceIte, Nat.one_mul, Nat.zero_add, Nat.add_zero, Nat.reduceAdd, Nat.reduceMul, Nat.reduceSub, Nat.reduceLT, Nat.reduceLeDiff, Nat.reduceEqDiff, reduceCtorEq, true_or, or_true, false_or, or_false, true_and, and_true, false_and, and_false, not_true_eq_false, not_false_eq_true, wr_2, wrL_1, zm_eqF, zm_eqF', zm_lt, zm_lt', zm_le, zm_le', zm_sub1, zN_01, Nat.mul_zero, Nat.zero_mul, Nat.mul_one, Nat.sub_zero, Nat.sub_self, Nat.add_sub_cancel, l1, l2]
      · simp only [c, d, decide_true, decide_false, Bool.and_false, Bool.false_eq_true, if_false]; rw [c] at l1; simp (disch := omega) only [wr_cj, wr_nj, rng_in, rng_out, zN_lit, zN_add, zN_mul, zN_sub, zN_ltT, zN_ltF, zN_leT, zN_leF, zN_eqT, zN_eqF, zN_lt, zN_le, zN_eq, zN_nat, zN_oobF, Option.bind_some, ↓reduceIte, Nat.one_mul, Nat.zero_add, Nat.add_zero, Nat.reduceAdd, Nat.reduceMul, Nat.reduceSub, Nat.reduceLT, Nat.reduceLeDiff, Nat.reduceEqDiff, reduceCtorEq, true_or, or_true, false_or, or_false, true_and, and_true, false_and, and_false, not_true_eq_false, not_false_eq_true, wr_2, wrL_1, zm_eqF, zm_eqF', zm_lt, zm_lt', zm_le, zm_le', zm_sub1, zN_01, Nat.mul_zero, Nat.zero_mul, Nat.mul_one, Nat.sub_zero, Nat.sub_self, Nat.add_sub_cancel, l1, l2]
    · simp only [c, decide_false, Bool.false_and, Bool.false_eq_true, if_false]; simp (disch := omega) only [wr_cj, wr_nj, rng_in, rng_out, zN_lit, zN_add, zN_mul, zN_sub, zN_ltT, zN_ltF, zN_leT, zN_leF, zN_eqT, zN_eqF, zN_lt, zN_le, zN_eq, zN_nat, zN_oobF, Option.bind_some, ↓reduceIte, Nat.one_mul, Nat.zero_add, Nat.add_zero, Nat.reduceAdd, Nat.reduceMul, Nat.reduceSub, Nat.reduceLT, Nat.reduceLeDiff, Nat.reduceEqDiff, reduceCtorEq, true_or, or_true, false_or, or_false, true_and, and_true, false_and, and_false, not_true_eq_false, not_false_eq_true, wr_2, wrL_1, zm_eqF, zm_eqF', zm_lt, zm_lt', zm_le, zm_le', zm_sub1, zN_01, Nat.mul_zero, Nat.zero_mul, Nat.mul_one, Nat.sub_zero, Nat.sub_self, Nat.add_sub_cancel, l1, l2]
theorem dropT0 {b t k : Nat} (ht : t < 3) (hk : k < 1000) : ∀ i P M fuel, tb P → (∀ t, t < 3 → P (5 + t) ≤ 70) → Leaf M b P → i ≤ P 218 → i < fuel →
    ∃ M', fX0_drop_67 b (zN t) (zN k) fuel (zN i + -zN 1) M = ((fX0_moveTies b (zN t) (zN k) (-zN 1) M').bind fun q2 => some q2) ∧ Leaf M' b (utF (qd t k) i P) ∧ fr (fun c _ => c = b ∨ (b + 7 ≤ c ∧ c ≤ b + 9)) M M' := by
  intro i
  induction i with
  | zero =>
    intro P M fuel hb hc hL hi hf
    obtain ⟨fu, rfl⟩ : ∃ q, fuel = q + 1 := ⟨fuel - 1, by omega⟩
    refine ⟨M, ?_, hL, fr_refl _ _⟩
    rw [fX0_drop_67, zdn0]
    simp (disch := omega) only [wr_cj, wr_nj, rng_in, rng_out, zN_lit, zN_add, zN_mul, zN_sub, zN_ltT, zN_ltF, zN_leT, zN_leF, zN_eqT, zN_eqF, zN_lt, zN_le, zN_eq, zN_nat, zN_oobF, Option.bind_some, ↓reduceIte, Nat.one_mul, Nat.zero_add, Nat.add_zero, Nat.reduceAdd, Nat.reduceMul, Nat.reduceSub, Nat.reduceLT, Nat.reduceLeDiff, Nat.reduceEqDiff, reduceCtorEq, true_or, or_true, false_or, or_false, true_and, and_true, false_and, and_false, not_true_eq_false, not_false_eq_true, wr_2, wrL_1, zm_eqF, zm_eqF', zm_lt, zm_lt', zm_le, zm_le', zm_sub1, zN_01, Nat.mul_zero, Nat.zero_mul, Nat.mul_one, Nat.sub_zero, Nat.sub_self, Nat.add_sub_cancel]
  | succ i ih =>
    intro P M fuel hb hc hL hi hf
    obtain ⟨fu, rfl⟩ : ∃ q, fuel = q + 1 := ⟨fuel - 1, by omega⟩
    have h12 := hb.1
    have a := isTieOfB hb hL ht hk (i := i) (by omega)
    rw [utF]
    by_cases c : tdI P t k i = true
    · rw [if_pos c] at a
      obtain ⟨M1, e1, l1, f1⟩ := dropTie0 hb hc hL (i := i) (by omega)
      obtain ⟨M2, e2, l2, f2⟩ := ih (unP P i) M1 fu (unP_tb hb (by omega)) (fun u hu => by rw [unP_lo (by omega)]; exact hc u hu) l1 (by rw [unP_218]; omega) (by omega)
      refine ⟨M2, ?_, by rw [tq_td, if_pos c]; exact l2, fr_trans f1 f2⟩
      rw [fX0_drop_67, zdnS, ← e2]
      simp (disch := omega) only [wr_cj, wr_nj, rng_in, rng_out, zN_lit, zN_add, zN_mul, zN_sub, zN_ltT, zN_ltF, zN_leT, zN_leF, zN_eqT, zN_eqF, zN_lt, zN_le, zN_eq, zN_nat, zN_oobF, Option.bind_some, ↓reduceIte, Nat.one_mul, Nat.zero_add, Nat.add_zero, Nat.reduceAdd, Nat.reduceMul, Nat.reduceSub, Nat.reduceLT, Nat.reduceLeDiff, Nat.reduceEqDiff, reduceCtorEq, true_or, or_true, false_or, or_false, true_and, and_true, false_and, and_false, not_true_eq_false, not_false_eq_true, wr_2, wrL_1, zm_eqF, zm_eqF', zm_lt, zm_lt', zm_le, zm_le', zm_sub1, zN_01, Nat.mul_zero, Nat.zero_mul, Nat.mul_one, Nat.sub_zero, Nat.sub_self, Nat.add_sub_cancel, a, e1, fX0_drop_89]
    · rw [if_neg c] at a
      obtain ⟨M2, e2, l2, f2⟩ := ih P M fu hb hc hL (by omega) (by omega)
      refine ⟨M2, ?_, by rw [tq_td, if_neg c]; exact l2, f2⟩
      rw [fX0_drop_67, zdnS, ← e2]
      simp (disch := omega) only [wr_cj, wr_nj, rng_in, rng_out, zN_lit, zN_add, zN_mul, zN_sub, zN_ltT, zN_ltF, zN_leT, zN_leF, zN_eqT, zN_eqF, zN_lt, zN_le, zN_eq, zN_nat, zN_oobF, Option.bind_some, ↓reduceIte, Nat.one_mul, Nat.zero_add, Nat.add_zero, Nat.reduceAdd, Nat.reduceMul, Nat.reduceSub, Nat.reduceLT, Nat.reduceLeDiff, Nat.reduceEqDiff, reduceCtorEq, true_or, or_true, false_or, or_false, true_and, and_true, false_and, and_false, not_true_eq_false, not_false_eq_true, wr_2, wrL_1, zm_eqF, zm_eqF', zm_lt, zm_lt', zm_le, zm_le', zm_sub1, zN_01, Nat.mul_zero, Nat.zero_mul, Nat.mul_one, Nat.sub_zero, Nat.sub_self, Nat.add_sub_cancel, a, fX0_drop_89]
theorem dropT7 {t k : Nat} (ht : t < 3) (hk : k < 1000) : ∀ i P M fuel, tb P → MNow M P → i ≤ P 218 → i < fuel →
    ∃ M', fX7_drop_11 (zN t) (zN k) fuel (zN i + -zN 1) M = fX7_drop_77 (zN t) (zN k) zFU (zN k) (wr M' 159 (5 + t) (M'.1 159 (5 + t) - zN 1)) ∧ MNow M' (utF (qd t k) i P) ∧ fr (fun c _ => c = 159) M M' := by
  intro i
  induction i with
  | zero =>
    intro P M fuel hb hM hi hf
    obtain ⟨fu, rfl⟩ : ∃ q, fuel = q + 1 := ⟨fuel - 1, by omega⟩
    refine ⟨M, ?_, hM, fr_refl _ _⟩
    rw [fX7_drop_11, zdn0]
    simp (disch := omega) only [wr_cj, wr_nj, rng_in, rng_out, zN_lit, zN_add, zN_mul, zN_sub, zN_ltT, zN_ltF, zN_leT, zN_leF, zN_eqT, zN_eqF, zN_lt, zN_le, zN_eq, zN_nat, zN_oobF, Option.bind_some, ↓reduceIte, Nat.one_mul, Nat.zero_add, Nat.add_zero, Nat.reduceAdd, Nat.reduceMul, Nat.reduceSub, Nat.reduceLT, Nat.reduceLeDiff, Nat.reduceEqDiff, reduceCtorEq, true_or, or_true, false_or, or_false, true_and, and_true, false_and, and_false, not_true_eq_false, not_false_eq_true, wr_2, wrL_1, zm_eqF, zm_eqF', zm_lt, zm_lt', zm_le, zm_le', zm_sub1, zN_01, Nat.mul_zero, Nat.zero_mul, Nat.mul_one, Nat.sub_zero, Nat.sub_self, Nat.add_sub_cancel]
  | succ i ih =>
    intro P M fuel hb hM hi hf
    obtain ⟨fu, rfl⟩ : ∃ q, fuel = q + 1 := ⟨fuel - 1, by omega⟩
    have h12 := hb.1
    have hbi := hb.2 i (by omega)
    have d0 := tied7 hM (i := i) (j := 0) (by omega)
    have d1 := tied7 hM (i := i) (j := 1) (by omega)
    have d2 := tied7 hM (i := i) (j := 2) (by omega)
    rw [Nat.add_zero] at d0
    rw [show 219 + 3 * i + 1 = 220 + 3 * i by omega] at d1
    rw [show 219 + 3 * i + 2 = 221 + 3 * i by omega] at d2
    rw [utF]
    by_cases c : tdI P t k i = true
    · obtain ⟨M1, e1, l1, f1⟩ := untie7 hb hM (i := i) (by omega)
      obtain ⟨M2, e2, l2, f2⟩ := ih (unP P i) M1 fu (unP_tb hb (by omega)) l1 (by rw [unP_218]; omega) (by omega)
      refine ⟨M2, ?_, by rw [tq_td, if_pos c]; exact l2, fr_trans f1 f2⟩
      rw [fX7_drop_11, zdnS, ← e2]
      unfold tdI at c
      by_cases e : t = 0
      · subst e
        simp only [if_true, decide_eq_true_eq] at c
        rw [c] at d2
        simp (disch := omega) only [wr_cj, wr_nj, rng_in, rng_out, zN_lit, zN_add, zN_mul, zN_sub, zN_ltT, zN_ltF, zN_leT, zN_leF, zN_eqT, zN_eqF, zN_lt, zN_le, zN_eq, zN_nat, zN_oobF, Option.bind_some, ↓reduceIte, Nat.one_mul, Nat.zero_add, Nat.add_zero, Nat.reduceAdd, Nat.reduceMul, Nat.reduceSub, Nat.reduceLT, Nat.reduceLeDiff, Nat.reduceEqDiff, reduceCtorEq, true_or, or_true, false_or, or_false, true_and, and_true, false_and, and_false, not_true_eq_false, not_false_eq_true, wr_2, wrL_1, zm_eqF, zm_eqF', zm_lt, zm_lt', zm_le, zm_le', zm_sub1, zN_01, Nat.mul_zero, Nat.zero_mul, Nat.mul_one, Nat.sub_zero, Nat.sub_self, Nat.add_sub_cancel, d2, e1, fX7_drop_52, fX7_drop_57]
      · simp only [e, if_false, Bool.and_eq_true, decide_eq_true_eq] at c
        rw [c.1] at d0; rw [c.2] at d1
        simp (disch := omega) only [wr_cj, wr_nj, rng_in, rng_out, zN_lit, zN_add, zN_mul, zN_sub, zN_ltT, zN_ltF, zN_leT, zN_leF, zN_eqT, zN_eqF, zN_lt, zN_le, zN_eq, zN_nat, zN_oobF, Option.bind_some, ↓reduceIte, Nat.one_mul, Nat.zero_add, Nat.add_zero, Nat.reduceAdd, Nat.reduceMul, Nat.reduceSub, Nat.reduceLT, Nat.reduceLeDiff, Nat.reduceEqDiff, reduceCtorEq, true_or, or_true, false_or, or_false, true_and, and_true, false_and, and_false, not_true_eq_false, not_false_eq_true, wr_2, wrL_1, zm_eqF, zm_eqF', zm_lt, zm_lt', zm_le, zm_le', zm_sub1, zN_01, Nat.mul_zero, Nat.zero_mul, Nat.mul_one, Nat.sub_zero, Nat.sub_self, Nat.add_sub_cancel, d0, d1, e1, fX7_drop_52, fX7_drop_57]
    · obtain ⟨M2, e2, l2, f2⟩ := ih P M fu hb hM (by omega) (by omega)
      refine ⟨M2, ?_, by rw [tq_td, if_neg c]; exact l2, f2⟩
      rw [fX7_drop_11, zdnS, ← e2]
      unfold tdI at c
      by_cases e : t = 0
      · subst e
        simp only [if_true, decide_eq_true_eq] at c
        simp (disch := omega) only [wr_cj, wr_nj, rng_in, rng_out, zN_lit, zN_add, zN_mul, zN_sub, zN_ltT, zN_ltF, zN_leT, zN_leF, zN_eqT, zN_eqF, zN_lt, zN_le, zN_eq, zN_nat, zN_oobF, Option.bind_some, ↓reduceIte, Nat.one_mul, Nat.zero_add, Nat.add_zero, Nat.reduceAdd, Nat.reduceMul, Nat.reduceSub, Nat.reduceLT, Nat.reduceLeDiff, Nat.reduceEqDiff, reduceCtorEq, true_or, or_true, false_or, or_false, true_and, and_true, false_and, and_false, not_true_eq_false, not_false_eq_true, wr_2, wrL_1, zm_eqF, zm_eqF', zm_lt, zm_lt', zm_le, zm_le', zm_sub1, zN_01, Nat.mul_zero, Nat.zero_mul, Nat.mul_one, Nat.sub_zero, Nat.sub_self, Nat.add_sub_cancel, d2, fX7_drop_52, fX7_drop_57]
      · simp only [e, if_false, Bool.and_eq_true, decide_eq_true_eq] at c
        by_cases c1 : P (219 + 3 * i) = t
        · rw [c1] at d0
          simp (disch := omega) only [wr_cj, wr_nj, rng_in, rng_out, zN_lit, zN_add, zN_mul, zN_sub, zN_ltT, zN_ltF, zN_leT, zN_leF, zN_eqT, zN_eqF, zN_lt, zN_le, zN_eq, zN_nat, zN_oobF, Option.bind_some, ↓reduceIte, Nat.one_mul, Nat.zero_add, Nat.add_zero, Nat.reduceAdd, Nat.reduceMul, Nat.reduceSub, Nat.reduceLT, Nat.reduceLeDiff, Nat.reduceEqDiff, reduceCtorEq, true_or, or_true, false_or, or_false, true_and, and_true, false_and, and_false, not_true_eq_false, not_false_eq_true, wr_2, wrL_1, zm_eqF, zm_eqF', zm_lt, zm_lt', zm_le, zm_le', zm_sub1, zN_01, Nat.mul_zero, Nat.zero_mul, Nat.mul_one, Nat.sub_zero, Nat.sub_self, Nat.add_sub_cancel, d0, d1, fX7_drop_52, fX7_drop_57]
        · simp (disch := omega) only [wr_cj, wr_nj, rng_in, rng_out, zN_lit, zN_add, zN_mul, zN_sub, zN_ltT, zN_ltF, zN_leT, zN_leF, zN_eqT, zN_eqF, zN_lt, zN_le, zN_eq, zN_nat, zN_oobF, Option.bind_some, ↓reduceIte, Nat.one_mul, Nat.zero_add, Nat.add_zero, Nat.reduceAdd, Nat.reduceMul, Nat.reduceSub, Nat.reduceLT, Nat.reduceLeDiff, Nat.reduceEqDiff, reduceCtorEq, true_or, or_true, false_or, or_false, true_and, and_true, false_and, and_false, not_true_eq_false, not_false_eq_true, wr_2, wrL_1, zm_eqF, zm_eqF', zm_lt, zm_lt', zm_le, zm_le', zm_sub1, zN_01, Nat.mul_zero, Nat.zero_mul, Nat.mul_one, Nat.sub_zero, Nat.sub_self, Nat.add_sub_cancel, d0, d1, fX7_drop_52, fX7_drop_57]
theorem hD_c (P : Nat → Nat) {t k u : Nat} (ht : t < 3) (hu : u < 3) (hpos : 0 < P (5 + t)) : hD P t k (5 + u) = if u = t then P (5 + t) - 1 else P (5 + u) := by
  unfold hD
  by_cases e : u = t
  · subst e; rw [if_pos rfl, if_pos rfl]
  · rw [if_neg (by omega), if_neg (by omega), if_neg (by omega), if_neg e]
theorem hD_lo (P : Nat → Nat) {t k j : Nat} (hj : j < 5) : hD P t k j = P j := by
  unfold hD; rw [if_neg (by omega), if_neg (by omega), if_neg (by omega)]
theorem hD_s (P : Nat → Nat) {t k u m : Nat} (ht : t < 3) (hu : u < 3) (hc : P (5 + t) ≤ 70) (hk : k < P (5 + t)) (hm : m < (if u = t then P (5 + t) - 1 else 70)) : hD P t k (8 + 70 * u + m) = if u = t then (if m < k then P (8 + 70 * t + m) else P (8 + 70 * t + (m + 1))) else P (8 + 70 * u + m) := by
  unfold hD
  by_cases e : u = t
  · subst e
    rw [if_pos rfl] at hm
    rw [if_neg (by omega), if_pos rfl]
    by_cases c1 : m < k
    · rw [if_neg (by omega), if_neg (by omega), if_pos c1]
    · rw [if_pos (by omega), if_neg c1]; rfl
  · rw [if_neg e] at hm
    rw [if_neg (by omega), if_neg (by omega), if_neg (by omega), if_neg e]
/-- what is left of ties -/
theorem dropQ_ok {P : Nat → Nat} (hP : Good P) {t k : Nat} : tb (dropQ P t k) ∧ (∀ j, 255 ≤ j → dropQ P t k j = P j) ∧ (∀ j, j < 218 → dropQ P t k j = hD P t k j) ∧ (∀ i, i < dropQ P t k 218 → tdI (dropQ P t k) t k i = false ∧ ∃ i', i' < P 218 ∧ dropQ P t k (219 + 3 * i) = P (219 + 3 * i') ∧ dropQ P t k (220 + 3 * i) = P (220 + 3 * i') ∧ dropQ P t k (221 + 3 * i) = P (221 + 3 * i')) := by
  have h := utF_ok (qd t k) (P 218) P (Good_tb hP) (Nat.le_refl _) (fun i h1 h2 => by omega)
  unfold dropQ
  refine ⟨ov_tb h.1, fun j hj => by rw [ov_hi (by omega)]; exact h.2.1 j (by omega), fun j hj => ov_lo hj, fun i hi => ?_⟩
  rw [ov_hi (by omega)] at hi
  have := h.2.2 i hi
  refine ⟨?_, ?_⟩
  · have e := this.1
    unfold tdI
    rw [ov_hi (by omega), ov_hi (by omega), ov_hi (by omega)]; exact e
  · rw [ov_hi (by omega), ov_hi (by omega), ov_hi (by omega)]; exact this.2
theorem dropQ_sub {P : Nat → Nat} (hP : Good P) {t k : Nat} : ∀ i, i < dropQ P t k 218 → (t = 0 ∨ dropQ P t k (219 + 3 * i) = t) → k ≤ dropQ P t k (tx t i) → zN (dropQ P t k (tx t i)) + -zN 1 = zN (dropQ P t k (tx t i) - 1) := by
  intro i hi h1 h2
  have h := ((dropQ_ok hP (t := t) (k := k)).2.2.2 i hi).1
  refine zm_sub1 ?_
  unfold tdI at h
  unfold tx at h2 ⊢
  by_cases e : t = 0
  · subst e
    simp only [if_true, decide_eq_false_iff_not] at h h2 ⊢
    omega
  · simp only [e, if_false, false_or, Bool.and_eq_false_iff, decide_eq_false_iff_not] at h h1 h2 ⊢
    omega
theorem Good_drop {P : Nat → Nat} (hP : Good P) {t k : Nat} (ht : t < 3) (hk : k < P (5 + t)) : Good (dropP P t k) := by
  obtain ⟨hb, hhi, hlo, hties⟩ := dropQ_ok hP (t := t) (k := k)
  obtain ⟨h1, h2, h3, h4⟩ := hP
  have h12 := hb.1
  have oh : ∀ j, 255 ≤ j → dropP P t k j = P j := fun j hj => by unfold dropP; rw [shN_out (by omega)]; exact hhi j hj
  have ol : ∀ j, j < 218 → dropP P t k j = hD P t k j := fun j hj => by unfold dropP; rw [shN_out (by omega)]; exact hlo j hj
  have o8 : dropP P t k 218 = dropQ P t k 218 := by unfold dropP; rw [shN_out (by omega)]
  have ht70 := (h2 t ht).1
  refine ⟨?_, ?_, ?_, ?_⟩
  · rw [ol 0 (by omega), ol 1 (by omega), ol 2 (by omega), ol 3 (by omega), ol 4 (by omega), oh 255 (by omega), hD_lo P (by omega), hD_lo P (by omega), hD_lo P (by omega), hD_lo P (by omega), hD_lo P (by omega)]
    exact h1
  · intro u hu
    rw [ol _ (by omega), hD_c P ht hu (by omega)]
    have hu2 := (h2 u hu).1
    refine ⟨by split <;> omega, fun m hm => ?_⟩
    unfold pSz
    by_cases e : u = t
    · subst e
      rw [if_pos rfl] at hm
      rw [ol _ (by omega), hD_s P ht hu hu2 hk (by rw [if_pos rfl]; exact hm), if_pos rfl]
      by_cases c1 : m < k
      · rw [if_pos c1]; exact (h2 u hu).2 m (by omega)
      · rw [if_neg c1]; exact (h2 u hu).2 (m + 1) (by omega)
    · rw [if_neg e] at hm
      rw [ol _ (by omega), hD_s P ht hu ht70 hk (by rw [if_neg e]; omega), if_neg e]
      exact (h2 u hu).2 m hm
  · rw [o8]
    refine ⟨h12, fun i hi => ?_⟩
    obtain ⟨hno, i', hi', e0, e1, e2⟩ := hties i hi
    have h := h3.2 i' hi'
    have g0 : dropP P t k (219 + 3 * i) = dropQ P t k (219 + 3 * i) := by unfold dropP; rw [shN_out (by omega)]
    have g1 : dropP P t k (220 + 3 * i) = if t ≠ 0 ∧ dropQ P t k (219 + 3 * i) = t ∧ k ≤ dropQ P t k (220 + 3 * i) then dropQ P t k (220 + 3 * i) - 1 else dropQ P t k (220 + 3 * i) := by
      unfold dropP; rw [shN_t1 _ _ _ _ hi]
    have g2 : dropP P t k (221 + 3 * i) = if t = 0 ∧ k ≤ dropQ P t k (221 + 3 * i) then dropQ P t k (221 + 3 * i) - 1 else dropQ P t k (221 + 3 * i) := by
      unfold dropP; rw [shN_t2 _ _ _ _ hi]
    have c5 : dropP P t k 5 = if 0 = t then P (5 + t) - 1 else P 5 := by have := hD_c P (k := k) ht (u := 0) (by omega) (by omega); rw [Nat.add_zero] at this; rw [ol 5 (by omega), this]
    have c6 : dropP P t k (5 + dropQ P t k (219 + 3 * i)) = if dropQ P t k (219 + 3 * i) = t then P (5 + t) - 1 else P (5 + dropQ P t k (219 + 3 * i)) := by rw [ol _ (by rw [e0]; omega), hD_c P ht (by rw [e0]; omega) (by omega)]
    unfold tdI at hno
    rw [e0, e1, e2] at hno
    rw [g0, g1, g2, c5, c6, e0, e1, e2]
    by_cases ez : t = 0
    · subst ez
      simp only [if_true, decide_eq_false_iff_not] at hno
      refine ⟨h.1, ?_, ?_⟩
      · rw [if_neg (by omega), if_neg (by omega)]; exact h.2.1
      · have := h.2.2
        simp only [true_and, if_true, Nat.add_zero] at hk ⊢
        split <;> omega
    · simp only [ez, if_false, Bool.and_eq_false_iff, decide_eq_false_iff_not] at hno
      refine ⟨h.1, ?_, ?_⟩
      · by_cases c : P (219 + 3 * i') = t
        · have hh := h.2.1
          rw [c] at hh
          rw [if_pos c]
          split <;> omega
        · rw [if_neg (by omega), if_neg c]; exact h.2.1
      · rw [if_neg (by omega), if_neg (by omega)]; exact h.2.2
  · rw [oh _ (by omega), oh _ (by omega), oh _ (by omega)]; exact h4
theorem drop0 {P : Nat → Nat} (hP : Good P) {b t k : Nat} (ht : t < 3) (hk : k < P (5 + t)) {M : zMM} (hL : Leaf M b P) :
    ∃ M', fX0_drop b (zN t) (zN k) M = some M' ∧ Leaf M' b (dropP P t k) ∧ fr (fun c _ => b ≤ c ∧ c < b + 10) M M' := by
  have lc := hL.2.2.1 t ht
  have h12 := hP.2.2.1.1
  have hc := (hP.2.1 t ht).1
  have hw := hasWord0 hP hL ht (k := k) (by omega)
  rw [if_pos hk] at hw
  obtain ⟨M1, e1, h1, f1⟩ := cpUp (fX0_drop_22 b (zN t) (zN k)) (fun M' => fX0_drop_67 b (zN t) (zN k) zFU ((wr M' (b + 2) t (zN (P (5 + t) - 1))).1 b 6 - zN 1) (wr M' (b + 2) t (zN (P (5 + t) - 1)))) (fun i => zN (k + 1 + i)) (P (5 + t) - (k + 1)) (b + 4 + t) (b + 4 + t) (k + 1) k (by omega) M (by
    intro n i M' hi hf
    have k2 : M'.1 (b + 2) t = zN (P (5 + t)) := by rw [hf.1 _ _ (by omega)]; exact lc
    rw [fX0_drop_22, show k + 1 + (i + 1) = k + 1 + i + 1 by omega]
    simp (disch := omega) only [wr_cj, wr_nj, rng_in, rng_out, zN_lit, zN_add, zN_mul, zN_sub, zN_ltT, zN_ltF, zN_leT, zN_leF, zN_eqT, zN_eqF, zN_lt, zN_le, zN_eq, zN_nat, zN_oobF, Option.bind_some, ↓reduceIte, Nat.one_mul, Nat.zero_add, Nat.add_zero, Nat.reduceAdd, Nat.reduceMul, Nat.reduceSub, Nat.reduceLT, Nat.reduceLeDiff, Nat.reduceEqDiff, reduceCtorEq, true_or, or_true, false_or, or_false, true_and, and_true, false_and, and_false, not_true_eq_false, not_false_eq_true, wr_2, wrL_1, zm_eqF, zm_eqF', zm_lt, zm_lt', zm_le, zm_le', zm_sub1, zN_01, Nat.mul_zero, Nat.zero_mul, Nat.mul_one, Nat.sub_zero, Nat.sub_self, Nat.add_sub_cancel, k2]
    rw [show k + 1 + i - 1 = k + i by omega]) (by
    intro n M' hf
    have k2 : M'.1 (b + 2) t = zN (P (5 + t)) := by rw [hf.1 _ _ (by omega)]; exact lc
    rw [fX0_drop_22]
    simp (disch := omega) only [wr_cj, wr_nj, rng_in, rng_out, zN_lit, zN_add, zN_mul, zN_sub, zN_ltT, zN_ltF, zN_leT, zN_leF, zN_eqT, zN_eqF, zN_lt, zN_le, zN_eq, zN_nat, zN_oobF, Option.bind_some, ↓reduceIte, Nat.one_mul, Nat.zero_add, Nat.add_zero, Nat.reduceAdd, Nat.reduceMul, Nat.reduceSub, Nat.reduceLT, Nat.reduceLeDiff, Nat.reduceEqDiff, reduceCtorEq, true_or, or_true, false_or, or_false, true_and, and_true, false_and, and_false, not_true_eq_false, not_false_eq_true, wr_2, wrL_1, zm_eqF, zm_eqF', zm_lt, zm_lt', zm_le, zm_le', zm_sub1, zN_01, Nat.mul_zero, Nat.zero_mul, Nat.mul_one, Nat.sub_zero, Nat.sub_self, Nat.add_sub_cancel, k2]) zFU (by rw [zFU_eq]; omega)
  have f2 : fr (fun c _ => c = b + 2 ∨ (b + 4 ≤ c ∧ c ≤ b + 6)) M (wr M1 (b + 2) t (zN (P (5 + t) - 1))) := fr_wr (fr_mono f1 (fun c j a => by omega)) (by omega)
  have l2 : Leaf (wr M1 (b + 2) t (zN (P (5 + t) - 1))) b (ov (hD P t k) P) := by
    refine Leaf_ov hL (fun j hj => hD_lo P hj) h12 f2 ?_ ?_ ?_
    · intro u hu
      rw [hD_c P ht hu (by omega)]
      by_cases e : u = t
      · subst e; rw [if_pos rfl, wr_cj]
      · rw [if_neg e, wr_nj (by omega), f1.1 _ _ (by omega)]; exact hL.2.2.1 u hu
    · intro u hu
      rw [hD_c P ht hu (by omega)]
      have := (hP.2.1 u hu).1
      split <;> omega
    · intro u hu m hm
      rw [hD_c P ht hu (by omega)] at hm
      have hu2 := (hP.2.1 u hu).1
      by_cases e : u = t
      · subst e
        rw [if_pos rfl] at hm
        rw [hD_s P ht hu hc hk (by rw [if_pos rfl]; exact hm), if_pos rfl]
        have hls := hL.2.2.2.1 u hu
        unfold pSz at hls
        by_cases c1 : m < k
        · rw [if_pos c1, wr_nj (by omega), f1.1 _ _ (by omega)]; exact hls m (by omega)
        · have := h1 (m - k) (by omega)
          rw [show k + (m - k) = m by omega, show k + 1 + (m - k) = m + 1 by omega] at this
          rw [if_neg c1, wr_nj (by omega), this]; exact hls (m + 1) (by omega)
      · rw [if_neg e] at hm
        rw [hD_s P ht hu hc hk (by rw [if_neg e]; omega), if_neg e, wr_nj (by omega), f1.1 _ _ (by omega)]; exact hL.2.2.2.1 u hu m hm
  have cok : ∀ u, u < 3 → ov (hD P t k) P (5 + u) ≤ 70 := by
    intro u hu
    rw [ov_lo (by omega), hD_c P ht hu (by omega)]
    have := (hP.2.1 u hu).1
    split <;> omega
  have tbo := ov_tb (h := hD P t k) (Good_tb hP)
  have l6 := l2.1.2.2.2.2.2.2
  have e8 : ov (hD P t k) P 218 = P 218 := ov_hi (by omega)
  rw [e8] at l6
  obtain ⟨M3, e3, l3, f3⟩ := dropT0 ht (show k < 1000 by omega) (P 218) (ov (hD P t k) P) (wr M1 (b + 2) t (zN (P (5 + t) - 1))) zFU tbo cok l2 (by omega) (by rw [zFU_eq]; omega)
  rw [utF_ov] at l3
  have okQ := dropQ_ok hP (t := t) (k := k)
  have cokQ : ∀ u, u < 3 → dropQ P t k (5 + u) ≤ 70 := by
    intro u hu
    rw [okQ.2.2.1 _ (by omega), hD_c P ht hu (by omega)]
    have := (hP.2.1 u hu).1
    split <;> omega
  obtain ⟨M4, e4, l4, f4⟩ := moveTies0 (a3 := -zN 1) (f := fun x => x - 1) okQ.1 cokQ (k := k) ht (by omega) (dropQ_sub hP) l3
  refine ⟨M4, ?_, l4, fr_trans (fr_mono f2 (fun c j a => by omega)) (fr_trans (fr_mono f3 (fun c j a => by omega)) (fr_mono f4 (fun c j a => by omega)))⟩
  unfold fX0_drop
  simp (disch := omega) only [wr_cj, wr_nj, rng_in, rng_out, zN_lit, zN_add, zN_mul, zN_sub, zN_ltT, zN_ltF, zN_leT, zN_leF, zN_eqT, zN_eqF, zN_lt, zN_le, zN_eq, zN_nat, zN_oobF, Option.bind_some, ↓reduceIte, Nat.one_mul, Nat.zero_add, Nat.add_zero, Nat.reduceAdd, Nat.reduceMul, Nat.reduceSub, Nat.reduceLT, Nat.reduceLeDiff, Nat.reduceEqDiff, reduceCtorEq, true_or, or_true, false_or, or_false, true_and, and_true, false_and, and_false, not_true_eq_false, not_false_eq_true, wr_2, wrL_1, zm_eqF, zm_eqF', zm_lt, zm_lt', zm_le, zm_le', zm_sub1, zN_01, Nat.mul_zero, Nat.zero_mul, Nat.mul_one, Nat.sub_zero, Nat.sub_self, Nat.add_sub_cancel, hw]
  refine Eq.trans e1 ?_
  rw [l6, zsub1]
  refine Eq.trans e3 ?_
  rw [e4]; rfl
theorem drop7 {P : Nat → Nat} (hP : Good P) {t k : Nat} (ht : t < 3) (hk : k < P (5 + t)) {M : zMM} (hM : MNow M P) :
    ∃ M', fX7_drop (zN t) (zN k) M = some M' ∧ MNow M' (dropP P t k) ∧ fr (fun c _ => c = 159) M M' := by
  have h12 := hP.2.2.1.1
  have hc := (hP.2.1 t ht).1
  have m8 := hM 218 (by omega)
  obtain ⟨M1, e1, n1, f1⟩ := dropT7 ht (show k < 1000 by omega) (P 218) P M zFU (Good_tb hP) hM (Nat.le_refl _) (by rw [zFU_eq]; omega)
  have hu := utF_ok (qd t k) (P 218) P (Good_tb hP) (Nat.le_refl _) (fun i h1 h2 => by omega)
  have lo : ∀ j, j < 218 → M1.1 159 j = zN (P j) := fun j hj => by rw [n1 j (by omega), hu.2.1 j (by omega)]
  have lc := lo (5 + t) (by omega)
  rw [lc, zN_sub (by omega)] at e1
  have fa : fr (fun c _ => c = 159) M1 (wr M1 159 (5 + t) (zN (P (5 + t) - 1))) := fr_wr (fr_refl _ _) (by omega)
  obtain ⟨M2, e2, h2, f2⟩ := cpUp (fX7_drop_77 (zN t) (zN k)) (fun M' => (fX7_shiftTies (zN t) (zN k) (-zN 1) (wr M' 159 (8 + 70 * t + (P (5 + t) - 1)) (zN 0))).bind fun q4 => some q4) (fun i => zN (k + i)) (P (5 + t) - 1 - k) 159 159 (8 + 70 * t + k + 1) (8 + 70 * t + k) (by omega) (wr M1 159 (5 + t) (zN (P (5 + t) - 1))) (by
    intro n i M' hi hf
    have k2 : M'.1 159 (5 + t) = zN (P (5 + t) - 1) := by rw [hf.1 _ _ (by omega), wr_cj]
    rw [fX7_drop_77, show k + (i + 1) = k + i + 1 by omega, show 8 + 70 * t + k + i = 8 + 70 * t + (k + i) by omega, show 8 + 70 * t + k + 1 + i = 8 + 70 * t + (k + i) + 1 by omega]
    simp (disch := omega) only [wr_cj, wr_nj, rng_in, rng_out, zN_lit, zN_add, zN_mul, zN_sub, zN_ltT, zN_ltF, zN_leT, zN_leF, zN_eqT, zN_eqF, zN_lt, zN_le, zN_eq, zN_nat, zN_oobF, Option.bind_some, ↓reduceIte, Nat.one_mul, Nat.zero_add, Nat.add_zero, Nat.reduceAdd, Nat.reduceMul, Nat.reduceSub, Nat.reduceLT, Nat.reduceLeDiff, Nat.reduceEqDiff, reduceCtorEq, true_or, or_true, false_or, or_false, true_and, and_true, false_and, and_false, not_true_eq_false, not_false_eq_true, wr_2, wrL_1, zm_eqF, zm_eqF', zm_lt, zm_lt', zm_le, zm_le', zm_sub1, zN_01, Nat.mul_zero, Nat.zero_mul, Nat.mul_one, Nat.sub_zero, Nat.sub_self, Nat.add_sub_cancel, k2]) (by
    intro n M' hf
    have k2 : M'.1 159 (5 + t) = zN (P (5 + t) - 1) := by rw [hf.1 _ _ (by omega), wr_cj]
    rw [fX7_drop_77]
    simp (disch := omega) only [wr_cj, wr_nj, rng_in, rng_out, zN_lit, zN_add, zN_mul, zN_sub, zN_ltT, zN_ltF, zN_leT, zN_leF, zN_eqT, zN_eqF, zN_lt, zN_le, zN_eq, zN_nat, zN_oobF, Option.bind_some, ↓reduceIte, Nat.one_mul, Nat.zero_add, Nat.add_zero, Nat.reduceAdd, Nat.reduceMul, Nat.reduceSub, Nat.reduceLT, Nat.reduceLeDiff, Nat.reduceEqDiff, reduceCtorEq, true_or, or_true, false_or, or_false, true_and, and_true, false_and, and_false, not_true_eq_false, not_false_eq_true, wr_2, wrL_1, zm_eqF, zm_eqF', zm_lt, zm_lt', zm_le, zm_le', zm_sub1, zN_01, Nat.mul_zero, Nat.zero_mul, Nat.mul_one, Nat.sub_zero, Nat.sub_self, Nat.add_sub_cancel, k2]) zFU (by rw [zFU_eq]; omega)
  have n3 : MNow (wr M2 159 (8 + 70 * t + (P (5 + t) - 1)) (zN 0)) (dropQ P t k) := by
    unfold dropQ
    refine MNow_ov n1 (fun j hj => ?_) (fun j hj => by rw [wr_nj (by omega), f2.1 _ _ (by omega), wr_nj (by omega)])
    unfold hD
    by_cases c1 : j = 5 + t
    · rw [if_pos c1, c1, wr_nj (by omega), f2.1 _ _ (by omega), wr_cj]
    · rw [if_neg c1]
      by_cases c2 : 8 + 70 * t + k ≤ j ∧ j + 1 < 8 + 70 * t + P (5 + t)
      · have := h2 (j - (8 + 70 * t + k)) (by omega)
        rw [show 8 + 70 * t + k + (j - (8 + 70 * t + k)) = j by omega, show 8 + 70 * t + k + 1 + (j - (8 + 70 * t + k)) = j + 1 by omega] at this
        rw [if_pos c2, wr_nj (by omega), this, wr_nj (by omega)]; exact lo _ (by omega)
      · rw [if_neg c2]
        by_cases c3 : j + 1 = 8 + 70 * t + P (5 + t)
        · rw [if_pos c3, show j = 8 + 70 * t + (P (5 + t) - 1) by omega, wr_cj]
        · rw [if_neg c3, wr_nj (by omega), f2.1 _ _ (by omega), wr_nj (by omega)]; exact lo _ (by omega)
  have okQ := dropQ_ok hP (t := t) (k := k)
  obtain ⟨M4, e4, l4, f4⟩ := shiftTies7 (a3 := -zN 1) (f := fun x => x - 1) okQ.1 (k := k) ht (by omega) (dropQ_sub hP) n3
  refine ⟨M4, ?_, l4, fr_trans f1 (fr_trans fa (fr_trans (fr_wr (fr_mono f2 (fun c j a => by omega)) (by omega)) f4))⟩
  unfold fX7_drop
  simp only [zN_lit]
  rw [m8, zsub1]
  refine Eq.trans e1 (Eq.trans e2 ?_)
  rw [e4]; rfl
