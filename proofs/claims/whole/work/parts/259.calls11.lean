/-! a line's row -/
def lwS (P : Nat → Nat) (m t : Nat) : Nat → Nat → (Nat → Int64) × Nat → (Nat → Int64) × Nat
  | 0, _, s => s
  | f + 1, i, s => lwS P m t f (i + 1) (fun x => if cof P t (dn P m t + i) ≤ x ∧ x < cof P t (dn P m t + i) + pSz P t (dn P m t + i) then (zN (t + 1)).toInt64 else s.1 x, s.2 + pSz P t (dn P m t + i))
def CRf (f : Nat → Int64) (w : Nat) (M : zMM) : Prop := M.1 155 1 = zN w ∧ ∀ i, i < w → M.2 156 i = f i
def MRf (f : Nat → Int64) (w : Nat) (M : zMM) : Prop := M.1 158 4 = zN w ∧ ∀ i, i < w → M.2 161 i = f i
theorem put2 {f : Nat → Int64} {w a n v : Nat} {M : zMM} (h : CRf f w M) (hw : w ≤ 60) (ha : a + n ≤ 60) : ∃ M', fX2_put (zN a) (zN n) (zN v) M = some M' ∧ CRf (fun x => if a ≤ x ∧ x < a + n then (zN v).toInt64 else f x) w M' ∧ frY M M' := by
  have key := loopE (fun k (s : Nat × zMM) => fX2_put_7 (zN a) (zN n) (zN v) k (zN (a + s.1)) s.2)
    (fun i s => s.1 = i ∧ (a + i ≤ w ∨ i = 0) ∧ CRf (fun x => if a ≤ x ∧ x < a + i then (zN v).toInt64 else f x) w s.2 ∧ frY M s.2) n
    (fun r => ∃ M', r = some M' ∧ CRf (fun x => if a ≤ x ∧ x < a + n then (zN v).toInt64 else f x) w M' ∧ frY M M')
    (by
      rintro i k ⟨i0, M'⟩ hi ⟨rfl, h0, h1, h2⟩
      dsimp only at h0 h1 h2 hi ⊢
      have l := h1.1
      by_cases c : a + i0 < w
      · right
        refine ⟨(i0 + 1, wrL M' 156 (a + i0) (zN v).toInt64), ?_, rfl, Or.inl (by omega), ⟨by rw [wrL_1]; exact l, fun x hx => ?_⟩, ⟨fun c j hc => by rw [wrL_1]; exact h2.1 c j hc, fun c j hc => by rw [wrL_nj (by omega)]; exact h2.2 c j hc⟩⟩
        · rw [fX2_put_7]
          rw [show a + (i0 + 1) = a + i0 + 1 by omega]
          simp (disch := omega) only [wr_cj, wr_nj, rng_in, rng_out, zN_lit, zN_add, zN_mul, zN_sub, zN_ltT, zN_ltF, zN_leT, zN_leF, zN_eqT, zN_eqF, zN_lt, zN_le, zN_eq, zN_nat, zN_oobF, Option.bind_some, ↓reduceIte, Nat.one_mul, Nat.zero_add, Nat.add_zero, Nat.reduceAdd, Nat.reduceMul, Nat.reduceSub, Nat.reduceLT, Nat.reduceLeDiff, Nat.reduceEqDiff, reduceCtorEq, true_or, or_true, false_or, or_false, true_and, and_true, false_and, and_false, not_true_eq_false, not_false_eq_true, wr_2, wrL_1, zm_eqF, zm_eqF', zm_lt, zm_lt', zm_le, zm_le', zm_sub1, zN_01, Nat.mul_zero, Nat.zero_mul, Nat.mul_one, Nat.sub_zero, Nat.sub_self, Nat.add_sub_cancel, l]
        · have hx' := h1.2 x hx
          dsimp only at hx' ⊢
          by_cases e : x = a + i0
          · rw [e, wrL_cj, if_pos (by omega)]
          · rw [wrL_nj (by omega), hx']
            by_cases q : a ≤ x ∧ x < a + i0
            · rw [if_pos q, if_pos (by omega)]
            · rw [if_neg q, if_neg (by omega)]
      · left
        refine ⟨M', ?_, ⟨l, fun x hx => ?_⟩, h2⟩
        · rw [fX2_put_7]
          simp (disch := omega) only [wr_cj, wr_nj, rng_in, rng_out, zN_lit, zN_add, zN_mul, zN_sub, zN_ltT, zN_ltF, zN_leT, zN_leF, zN_eqT, zN_eqF, zN_lt, zN_le, zN_eq, zN_nat, zN_oobF, Option.bind_some, ↓reduceIte, Nat.one_mul, Nat.zero_add, Nat.add_zero, Nat.reduceAdd, Nat.reduceMul, Nat.reduceSub, Nat.reduceLT, Nat.reduceLeDiff, Nat.reduceEqDiff, reduceCtorEq, true_or, or_true, false_or, or_false, true_and, and_true, false_and, and_false, not_true_eq_false, not_false_eq_true, wr_2, wrL_1, zm_eqF, zm_eqF', zm_lt, zm_lt', zm_le, zm_le', zm_sub1, zN_01, Nat.mul_zero, Nat.zero_mul, Nat.mul_one, Nat.sub_zero, Nat.sub_self, Nat.add_sub_cancel, l]
        · have hx' := h1.2 x hx
          dsimp only at hx' ⊢
          rw [hx']
          by_cases q : a ≤ x ∧ x < a + i0
          · rw [if_pos q, if_pos (by omega)]
          · rw [if_neg q, if_neg (by omega)])
    (by
      rintro k ⟨i0, M'⟩ ⟨rfl, h0, h1, h2⟩
      dsimp only at h0 h1 h2 ⊢
      refine ⟨M', ?_, h1, h2⟩
      rw [fX2_put_7]
      simp (disch := omega) only [wr_cj, wr_nj, rng_in, rng_out, zN_lit, zN_add, zN_mul, zN_sub, zN_ltT, zN_ltF, zN_leT, zN_leF, zN_eqT, zN_eqF, zN_lt, zN_le, zN_eq, zN_nat, zN_oobF, Option.bind_some, ↓reduceIte, Nat.one_mul, Nat.zero_add, Nat.add_zero, Nat.reduceAdd, Nat.reduceMul, Nat.reduceSub, Nat.reduceLT, Nat.reduceLeDiff, Nat.reduceEqDiff, reduceCtorEq, true_or, or_true, false_or, or_false, true_and, and_true, false_and, and_false, not_true_eq_false, not_false_eq_true, wr_2, wrL_1, zm_eqF, zm_eqF', zm_lt, zm_lt', zm_le, zm_le', zm_sub1, zN_01, Nat.mul_zero, Nat.zero_mul, Nat.mul_one, Nat.sub_zero, Nat.sub_self, Nat.add_sub_cancel])
    zFU (0, M) (by rw [zFU_eq]; omega) ⟨rfl, Or.inr rfl, ⟨h.1, fun x hx => by dsimp only; rw [if_neg (by omega)]; exact h.2 x hx⟩, ⟨fun _ _ _ => rfl, fun _ _ _ => rfl⟩⟩
  obtain ⟨M', e, c, y⟩ := key
  refine ⟨M', ?_, c, y⟩
  unfold fX2_put
  rw [Nat.add_zero] at e
  by_cases q : 0 < a
  · rw [if_pos (show (0 : Int32) < zN a by show zN 0 < zN a; rw [zN_ltT (by omega)]; trivial)]; exact e
  · have e0 : a = 0 := by omega
    subst e0
    rw [if_neg (show ¬ (0 : Int32) < zN 0 by decide)]; exact e
theorem noughts2 {w : Nat} (hw : w ≤ 60) (M : zMM) : ∃ M', fX2_noughts (zN w) M = some M' ∧ CRf (fun _ => 0) w M' ∧ frY M M' := by
  have e0 : (if 0 < (if 60 < zN w then 60 else zN w) then (if 60 < zN w then 60 else zN w) else 0) = zN w := by
    rw [if_neg (show ¬ (60 : Int32) < zN w by show ¬ zN 60 < zN w; rw [zN_ltF (by omega)]; exact id)]
    by_cases q : 0 < w
    · rw [if_pos (show (0 : Int32) < zN w by show zN 0 < zN w; rw [zN_ltT (by omega)]; trivial)]
    · have : w = 0 := by omega
      subst this; rfl
  have key := loopE (fun k (s : Nat × zMM) => fX2_noughts_16 (zN w) k (zN s.1) s.2)
    (fun i s => s.1 = i ∧ s.2.1 155 1 = zN w ∧ (∀ x, x < i → s.2.2 156 x = 0) ∧ frY M s.2) w
    (fun r => ∃ M', r = some M' ∧ CRf (fun _ => 0) w M' ∧ frY M M')
    (by
      rintro i k ⟨i0, M'⟩ hi ⟨rfl, h0, h1, h2⟩
      dsimp only at h0 h1 h2 hi ⊢
      right
      refine ⟨(i0 + 1, wrL M' 156 i0 0), ?_, rfl, by rw [wrL_1]; exact h0, fun x hx => ?_, ⟨fun c j hc => by rw [wrL_1]; exact h2.1 c j hc, fun c j hc => by rw [wrL_nj (by omega)]; exact h2.2 c j hc⟩⟩
      · rw [fX2_noughts_16]
        simp (disch := omega) only [wr_cj, wr_nj, rng_in, rng_out, zN_lit, zN_add, zN_mul, zN_sub, zN_ltT, zN_ltF, zN_leT, zN_leF, zN_eqT, zN_eqF, zN_lt, zN_le, zN_eq, zN_nat, zN_oobF, Option.bind_some, ↓reduceIte, Nat.one_mul, Nat.zero_add, Nat.add_zero, Nat.reduceAdd, Nat.reduceMul, Nat.reduceSub, Nat.reduceLT, Nat.reduceLeDiff, Nat.reduceEqDiff, reduceCtorEq, true_or, or_true, false_or, or_false, true_and, and_true, false_and, and_false, not_true_eq_false, not_false_eq_true, wr_2, wrL_1, zm_eqF, zm_eqF', zm_lt, zm_lt', zm_le, zm_le', zm_sub1, zN_01, Nat.mul_zero, Nat.zero_mul, Nat.mul_one, Nat.sub_zero, Nat.sub_self, Nat.add_sub_cancel, h0]
      · show (wrL M' 156 i0 0).2 156 x = 0
        by_cases e : x = i0
        · rw [e, wrL_cj]
        · rw [wrL_nj (by omega)]; exact h1 x (by omega))
    (by
      rintro k ⟨i0, M'⟩ ⟨rfl, h0, h1, h2⟩
      dsimp only at h0 h1 h2 ⊢
      refine ⟨M', ?_, ⟨h0, h1⟩, h2⟩
      rw [fX2_noughts_16]
      simp (disch := omega) only [wr_cj, wr_nj, rng_in, rng_out, zN_lit, zN_add, zN_mul, zN_sub, zN_ltT, zN_ltF, zN_leT, zN_leF, zN_eqT, zN_eqF, zN_lt, zN_le, zN_eq, zN_nat, zN_oobF, Option.bind_some, ↓reduceIte, Nat.one_mul, Nat.zero_add, Nat.add_zero, Nat.reduceAdd, Nat.reduceMul, Nat.reduceSub, Nat.reduceLT, Nat.reduceLeDiff, Nat.reduceEqDiff, reduceCtorEq, true_or, or_true, false_or, or_false, true_and, and_true, false_and, and_false, not_true_eq_false, not_false_eq_true, wr_2, wrL_1, zm_eqF, zm_eqF', zm_lt, zm_lt', zm_le, zm_le', zm_sub1, zN_01, Nat.mul_zero, Nat.zero_mul, Nat.mul_one, Nat.sub_zero, Nat.sub_self, Nat.add_sub_cancel, h0])
    zFU (0, wr M 155 1 (zN w)) (by rw [zFU_eq]; omega) ⟨rfl, by rw [wr_cj], fun x hx => absurd hx (by omega), ⟨fun c j hc => wr_nj (by omega), fun _ _ _ => rfl⟩⟩
  obtain ⟨M', e, c, y⟩ := key
  refine ⟨M', ?_, c, y⟩
  unfold fX2_noughts
  rw [e0]; exact e
theorem line54 {P : Nat → Nat} (hP : Good P) {t m : Nat} (ht : t < 3) (hm : m < 300) (a1 a2 : Int32) (K33 : Int32 → Int32 → Int32 → zMM → Option (Int32 × zMM)) : ∀ f i s M fuel, tk P m t - i = f → i ≤ tk P m t → f < fuel → Leaf M 0 P → CSet P M → CRf s.1 (P 0) M → ∃ M', fX6_line_54 K33 a1 a2 fuel (zN m) (zN s.2) (zN t) (zN (tk P m t)) (zN i) M = K33 (zN m) (zN (lwS P m t f i s).2) (zN (t + 1)) M' ∧ CRf (lwS P m t f i s).1 (P 0) M' ∧ frY M M' := by
  have tl := tk_le hP m ht
  have hp := hP.1
  have hc70 := (hP.2.1 t ht).1
  have hNL := NL_le P
  intro f
  induction f with
  | zero =>
    intro i s M fuel hf hi hfu hL hS hR
    obtain ⟨fu, rfl⟩ : ∃ q, fuel = q + 1 := ⟨fuel - 1, by omega⟩
    refine ⟨M, ?_, hR, ⟨fun _ _ _ => rfl, fun _ _ _ => rfl⟩⟩
    rw [fX6_line_54, lwS]
    simp (disch := omega) only [wr_cj, wr_nj, rng_in, rng_out, zN_lit, zN_add, zN_mul, zN_sub, zN_ltT, zN_ltF, zN_leT, zN_leF, zN_eqT, zN_eqF, zN_lt, zN_le, zN_eq, zN_nat, zN_oobF, Option.bind_some, ↓reduceIte, Nat.one_mul, Nat.zero_add, Nat.add_zero, Nat.reduceAdd, Nat.reduceMul, Nat.reduceSub, Nat.reduceLT, Nat.reduceLeDiff, Nat.reduceEqDiff, reduceCtorEq, true_or, or_true, false_or, or_false, true_and, and_true, false_and, and_false, not_true_eq_false, not_false_eq_true, wr_2, wrL_1, zm_eqF, zm_eqF', zm_lt, zm_lt', zm_le, zm_le', zm_sub1, zN_01, Nat.mul_zero, Nat.zero_mul, Nat.mul_one, Nat.sub_zero, Nat.sub_self, Nat.add_sub_cancel]
  | succ f ih =>
    intro i s M fuel hf hi hfu hL hS hR
    obtain ⟨fu, rfl⟩ : ∃ q, fuel = q + 1 := ⟨fuel - 1, by omega⟩
    have tk0 := tk_0 hP (m := m) ht
    have there : m < NL P ∧ wid P m t ≠ 0 := by
      by_cases q : m < NL P ∧ wid P m t ≠ 0
      · exact q
      · have := tk0.2 q; omega
    have g1 := ((hS.1 t ht).2.2.1 m there.1 there.2).1
    have hk : dn P m t + i < P (5 + t) := by omega
    have co := col4 hP (b := 0) (by omega) hL hS ht hk
    have cb := cof_b hP ht hk
    have ls : M.1 (4 + t) (dn P m t + i) = zN (pSz P t (dn P m t + i)) := by have := hL.2.2.2.1 t ht _ hk; rw [Nat.zero_add] at this; exact this
    obtain ⟨M1, e1, r1, y1⟩ := put2 (v := t + 1) hR (by omega) cb
    have ls1 : M1.1 (4 + t) (dn P m t + i) = zN (pSz P t (dn P m t + i)) := by rw [y1.1 _ _ (by omega)]; exact ls
    obtain ⟨M2, e2, r2, y2⟩ := ih (i + 1) (fun x => if cof P t (dn P m t + i) ≤ x ∧ x < cof P t (dn P m t + i) + pSz P t (dn P m t + i) then (zN (t + 1)).toInt64 else s.1 x, s.2 + pSz P t (dn P m t + i)) M1 fu (by omega) (by omega) (by omega) (Leaf_Y hL (by omega) y1) (CSet_Y hS y1) r1
    refine ⟨M2, ?_, r2, frY_trans y1 y2⟩
    rw [lwS, ← e2, fX6_line_54]
    simp (disch := omega) only [wr_cj, wr_nj, rng_in, rng_out, zN_lit, zN_add, zN_mul, zN_sub, zN_ltT, zN_ltF, zN_leT, zN_leF, zN_eqT, zN_eqF, zN_lt, zN_le, zN_eq, zN_nat, zN_oobF, Option.bind_some, ↓reduceIte, Nat.one_mul, Nat.zero_add, Nat.add_zero, Nat.reduceAdd, Nat.reduceMul, Nat.reduceSub, Nat.reduceLT, Nat.reduceLeDiff, Nat.reduceEqDiff, reduceCtorEq, true_or, or_true, false_or, or_false, true_and, and_true, false_and, and_false, not_true_eq_false, not_false_eq_true, wr_2, wrL_1, zm_eqF, zm_eqF', zm_lt, zm_lt', zm_le, zm_le', zm_sub1, zN_01, Nat.mul_zero, Nat.zero_mul, Nat.mul_one, Nat.sub_zero, Nat.sub_self, Nat.add_sub_cancel, g1, co, ls, e1, ls1]
theorem line_c {P : Nat → Nat} (hP : Good P) {m : Nat} (hm : m < 300) (a1 a2 : Int32) {M : zMM} (hL : Leaf M 0 P) (hS : CSet P M) (hR : CRf (fun _ => 0) (P 0) M) : ∃ M', fX6_line_33 a1 a2 zFU (zN m) (zN 0) (zN 0) M = some (zN (lwS P m 2 (tk P m 2) 0 (lwS P m 1 (tk P m 1) 0 (lwS P m 0 (tk P m 0) 0 (fun _ => 0, 0)))).2, M') ∧ CRf (lwS P m 2 (tk P m 2) 0 (lwS P m 1 (tk P m 1) 0 (lwS P m 0 (tk P m 0) 0 (fun _ => 0, 0)))).1 (P 0) M' ∧ frY M M' := by
  have st : ∀ t fu s M, t < 3 → Leaf M 0 P → CSet P M → CRf s.1 (P 0) M → ∃ M', fX6_line_33 a1 a2 (fu + 1) (zN m) (zN s.2) (zN t) M = fX6_line_33 a1 a2 fu (zN m) (zN (lwS P m t (tk P m t) 0 s).2) (zN (t + 1)) M' ∧ CRf (lwS P m t (tk P m t) 0 s).1 (P 0) M' ∧ frY M M' := by
    intro t fu s M ht hL hS hR
    have ta := takenAt4 hS (m := m) ht (by omega)
    have tl := tk_le hP m ht
    obtain ⟨M', e, r, y⟩ := line54 hP ht hm a1 a2 (fX6_line_33 a1 a2 fu) (tk P m t) 0 s M zFU (by omega) (by omega) (by rw [zFU_eq]; omega) hL hS hR
    refine ⟨M', ?_, r, y⟩
    rw [fX6_line_33, if_neg (show ¬ (3 : Int32) ≤ zN t by show ¬ zN 3 ≤ zN t; rw [zN_leF (by omega)]; exact id), ta, Option.bind_some]
    exact e
  have gen : ∀ f, ∃ M', fX6_line_33 a1 a2 (f + 1 + 1 + 1 + 1) (zN m) (zN 0) (zN 0) M = some (zN (lwS P m 2 (tk P m 2) 0 (lwS P m 1 (tk P m 1) 0 (lwS P m 0 (tk P m 0) 0 (fun _ => 0, 0)))).2, M') ∧ CRf (lwS P m 2 (tk P m 2) 0 (lwS P m 1 (tk P m 1) 0 (lwS P m 0 (tk P m 0) 0 (fun _ => 0, 0)))).1 (P 0) M' ∧ frY M M' := by
    intro f
    obtain ⟨M1, e1, r1, y1⟩ := st 0 (f + 1 + 1 + 1) (fun _ => 0, 0) M (by omega) hL hS hR
    obtain ⟨M2, e2, r2, y2⟩ := st 1 (f + 1 + 1) _ M1 (by omega) (Leaf_Y hL (by omega) y1) (CSet_Y hS y1) r1
    have y12 := frY_trans y1 y2
    obtain ⟨M3, e3, r3, y3⟩ := st 2 (f + 1) _ M2 (by omega) (Leaf_Y hL (by omega) y12) (CSet_Y hS y12) r2
    refine ⟨M3, ?_, r3, frY_trans y12 y3⟩
    refine e1.trans (e2.trans (e3.trans ?_))
    rw [fX6_line_33]
    exact if_pos (by decide)
  exact gen 2147483644
theorem line137 {P : Nat → Nat} {f0 : Nat → Int64} {t w a n : Nat} (hw : w ≤ 60) (ha : a + n ≤ 60) (K60 : Int32 → Int32 → zMM → Option (Int32 × zMM)) (K79 : Int32 → Int32 → Int32 → Int32 → zMM → Option (Int32 × zMM)) (a1 a2 L3 L5 L6 : Int32) {M : zMM} (h : MRf f0 w M) : ∃ M', fX7_line_137 K60 K79 a1 a2 zFU L3 (zN t) L5 L6 (zN a) (zN n) (zN a) M = K79 (L3 + zN n) (zN t) L5 (L6 + 1) M' ∧ MRf (fun x => if a ≤ x ∧ x < a + n then (zN (t + 1)).toInt64 else f0 x) w M' ∧ frX M M' := by
  have t1 : zN t + 1 = zN (t + 1) := zN_add t 1
  have key := loopE (fun k (s : Nat × zMM) => fX7_line_137 K60 K79 a1 a2 k L3 (zN t) L5 L6 (zN a) (zN n) (zN (a + s.1)) s.2)
    (fun i s => s.1 = i ∧ MRf (fun x => if a ≤ x ∧ x < a + i then (zN (t + 1)).toInt64 else f0 x) w s.2 ∧ frX M s.2) n
    (fun r => ∃ M', r = K79 (L3 + zN n) (zN t) L5 (L6 + 1) M' ∧ MRf (fun x => if a ≤ x ∧ x < a + n then (zN (t + 1)).toInt64 else f0 x) w M' ∧ frX M M')
    (by
      rintro i k ⟨i0, M'⟩ hi ⟨rfl, h1, h2⟩
      dsimp only at h1 h2 hi ⊢
      right
      refine ⟨(i0 + 1, wrL M' 161 (a + i0) (zN (t + 1)).toInt64), ?_, rfl, ⟨by rw [wrL_1]; exact h1.1, fun x hx => ?_⟩, ⟨fun c j hc => by rw [wrL_1]; exact h2.1 c j hc, fun c j hc => by rw [wrL_nj (by omega)]; exact h2.2 c j hc⟩⟩
      · rw [fX7_line_137, show a + (i0 + 1) = a + i0 + 1 by omega, t1]
        simp (disch := omega) only [wr_cj, wr_nj, rng_in, rng_out, zN_lit, zN_add, zN_mul, zN_sub, zN_ltT, zN_ltF, zN_leT, zN_leF, zN_eqT, zN_eqF, zN_lt, zN_le, zN_eq, zN_nat, zN_oobF, Option.bind_some, ↓reduceIte, Nat.one_mul, Nat.zero_add, Nat.add_zero, Nat.reduceAdd, Nat.reduceMul, Nat.reduceSub, Nat.reduceLT, Nat.reduceLeDiff, Nat.reduceEqDiff, reduceCtorEq, true_or, or_true, false_or, or_false, true_and, and_true, false_and, and_false, not_true_eq_false, not_false_eq_true, wr_2, wrL_1, zm_eqF, zm_eqF', zm_lt, zm_lt', zm_le, zm_le', zm_sub1, zN_01, Nat.mul_zero, Nat.zero_mul, Nat.mul_one, Nat.sub_zero, Nat.sub_self, Nat.add_sub_cancel]
      · have hx' := h1.2 x hx
        dsimp only at hx' ⊢
        by_cases e : x = a + i0
        · rw [e, wrL_cj, if_pos (by omega)]
        · rw [wrL_nj (by omega), hx']
          by_cases q : a ≤ x ∧ x < a + i0
          · rw [if_pos q, if_pos (by omega)]
          · rw [if_neg q, if_neg (by omega)])
    (by
      rintro k ⟨i0, M'⟩ ⟨rfl, h1, h2⟩
      dsimp only at h1 h2 ⊢
      refine ⟨M', ?_, h1, h2⟩
      rw [fX7_line_137, if_pos (by rw [zN_add, zN_leT (by omega)]; trivial)])
    zFU (0, M) (by rw [zFU_eq]; omega) ⟨rfl, ⟨h.1, fun x hx => by dsimp only; rw [if_neg (by omega)]; exact h.2 x hx⟩, ⟨fun _ _ _ => rfl, fun _ _ _ => rfl⟩⟩
  exact key
theorem line79 {P : Nat → Nat} (hP : Good P) {t m p : Nat} (ht : t < 3) (hp : p < 210) (hth : m < NL P) (a1 a2 : Int32) (K60 : Int32 → Int32 → zMM → Option (Int32 × zMM)) : ∀ f i s M fuel, tk P m t - i = f → i ≤ tk P m t → f < fuel → MNow M P → MSet P M → Ent P M p m t → MRf s.1 (P 0) M → ∃ M', fX7_line_79 K60 a1 a2 fuel (zN s.2) (zN t) (zN p) (zN i) M = K60 (zN (lwS P m t f i s).2) (zN (t + 1)) M' ∧ MRf (lwS P m t f i s).1 (P 0) M' ∧ frX M M' := by
  have tl := tk_le hP m ht
  have hpp := hP.1
  have hc70 := (hP.2.1 t ht).1
  have etk : tk P m t = wrd P m t := by unfold tk; rw [if_pos hth]
  have e4 : zN (dn P (m + 1) t - dn P m t) = zN (tk P m t) := by rw [etk]; rfl
  have t1 : zN t + 1 = zN (t + 1) := zN_add t 1
  intro f
  induction f with
  | zero =>
    intro i s M fuel hf hi hfu hM hS hE hR
    obtain ⟨fu, rfl⟩ : ∃ q, fuel = q + 1 := ⟨fuel - 1, by omega⟩
    have t4 := told7 (p := p) (j := 4) (M := M) (by omega)
    rw [hE.2.2.2.2.1, e4] at t4
    refine ⟨M, ?_, hR, ⟨fun _ _ _ => rfl, fun _ _ _ => rfl⟩⟩
    rw [fX7_line_79, lwS]
    simp (disch := omega) only [wr_cj, wr_nj, rng_in, rng_out, zN_lit, zN_add, zN_mul, zN_sub, zN_ltT, zN_ltF, zN_leT, zN_leF, zN_eqT, zN_eqF, zN_lt, zN_le, zN_eq, zN_nat, zN_oobF, Option.bind_some, ↓reduceIte, Nat.one_mul, Nat.zero_add, Nat.add_zero, Nat.reduceAdd, Nat.reduceMul, Nat.reduceSub, Nat.reduceLT, Nat.reduceLeDiff, Nat.reduceEqDiff, reduceCtorEq, true_or, or_true, false_or, or_false, true_and, and_true, false_and, and_false, not_true_eq_false, not_false_eq_true, wr_2, wrL_1, zm_eqF, zm_eqF', zm_lt, zm_lt', zm_le, zm_le', zm_sub1, zN_01, Nat.mul_zero, Nat.zero_mul, Nat.mul_one, Nat.sub_zero, Nat.sub_self, Nat.add_sub_cancel, t4, fX7_line_176]
  | succ f ih =>
    intro i s M fuel hf hi hfu hM hS hE hR
    obtain ⟨fu, rfl⟩ : ∃ q, fuel = q + 1 := ⟨fuel - 1, by omega⟩
    have t3 := told7 (p := p) (j := 3) (M := M) (by omega)
    have t4 := told7 (p := p) (j := 4) (M := M) (by omega)
    rw [hE.2.2.2.1] at t3
    rw [hE.2.2.2.2.1, e4] at t4
    have hk : dn P m t + i < P (5 + t) := by omega
    have co := col7 hP hM hS ht hk
    have cb := cof_b hP ht hk
    have sz := size7 (M := M) ht (k := dn P m t + i) (by omega)
    rw [hM _ (by omega)] at sz
    have sz' : fX7_size (zN t) (zN (dn P m t + i)) M = some (zN (pSz P t (dn P m t + i)), M) := sz
    obtain ⟨M1, e1, r1, x1⟩ := line137 (P := P) (t := t) (by omega) cb K60 (fX7_line_79 K60 a1 a2 fu) a1 a2 (zN s.2) (zN p) (zN i) hR
    obtain ⟨M2, e2, r2, x2⟩ := ih (i + 1) (fun x => if cof P t (dn P m t + i) ≤ x ∧ x < cof P t (dn P m t + i) + pSz P t (dn P m t + i) then (zN (t + 1)).toInt64 else s.1 x, s.2 + pSz P t (dn P m t + i)) M1 fu (by omega) (by omega) (by omega) (MNow_X hM x1) (MSet_X hS x1) (Ent_fr hE (fun j _ _ => x1.1 _ _ (by omega))) r1
    refine ⟨M2, ?_, r2, frX_trans x1 x2⟩
    have i1 : zN i + 1 = zN (i + 1) := zN_add i 1
    rw [zN_add, i1] at e1
    rw [lwS, ← e2, fX7_line_79]
    simp only [zN_lit]
    rw [if_neg (show ¬ zN p = -zN 1 by rw [zm_eqF (by omega)]; exact id), t4, Option.bind_some, if_neg (show ¬ ((zN (tk P m t), M) : Int32 × zMM).1 ≤ zN i by show ¬ zN (tk P m t) ≤ zN i; rw [zN_leF (by omega)]; exact id), t3, Option.bind_some]
    dsimp only
    rw [zN_add, co, Option.bind_some]
    dsimp only
    rw [t3, Option.bind_some]
    dsimp only
    rw [zN_add, sz', Option.bind_some]
    exact e1
theorem line_m {P : Nat → Nat} (hP : Good P) {pg l m : Nat} (hpg : pg < pgs P) (hl : l < P 1) (hm : m = pg * P 1 + l) {M : zMM} (hM : MNow M P) (hS : MSet P M) (hR : MRf (fun _ => 0) (P 0) M) : ∃ M', fX7_line_60 (zN pg) (zN l) zFU (zN 0) (zN 0) M = some (zN (lwS P m 2 (tk P m 2) 0 (lwS P m 1 (tk P m 1) 0 (lwS P m 0 (tk P m 0) 0 (fun _ => 0, 0)))).2, M') ∧ MRf (lwS P m 2 (tk P m 2) 0 (lwS P m 1 (tk P m 1) 0 (lwS P m 0 (tk P m 0) 0 (fun _ => 0, 0)))).1 (P 0) M' ∧ frX M M' := by
  have st : ∀ t fu s M, t < 3 → MNow M P → MSet P M → MRf s.1 (P 0) M → ∃ M', fX7_line_60 (zN pg) (zN l) (fu + 1) (zN s.2) (zN t) M = fX7_line_60 (zN pg) (zN l) fu (zN (lwS P m t (tk P m t) 0 s).2) (zN (t + 1)) M' ∧ MRf (lwS P m t (tk P m t) 0 s).1 (P 0) M' ∧ frX M M' := by
    intro t fu s M ht hM hS hR
    have pA := partAt7 hP hM hS ht hpg hl
    rw [← hm] at pA
    have tl := tk_le hP m ht
    have t1 : zN t + 1 = zN (t + 1) := zN_add t 1
    by_cases there : m < NL P ∧ wid P m t ≠ 0
    · obtain ⟨p, hp, hE, e⟩ := pA.1 there
      obtain ⟨M', e', r, x⟩ := line79 hP ht hp there.1 (zN pg) (zN l) (fX7_line_60 (zN pg) (zN l) fu) (tk P m t) 0 s M zFU (by omega) (by omega) (by rw [zFU_eq]; omega) hM hS hE hR
      refine ⟨M', ?_, r, x⟩
      rw [fX7_line_60, if_neg (show ¬ (3 : Int32) ≤ zN t by show ¬ zN 3 ≤ zN t; rw [zN_leF (by omega)]; exact id), e, Option.bind_some]
      exact e'
    · have z := (tk_0 hP (m := m) ht).2 there
      rw [z]
      refine ⟨M, ?_, hR, ⟨fun _ _ _ => rfl, fun _ _ _ => rfl⟩⟩
      rw [fX7_line_60, if_neg (show ¬ (3 : Int32) ≤ zN t by show ¬ zN 3 ≤ zN t; rw [zN_leF (by omega)]; exact id), pA.2 there, Option.bind_some]
      have g : ∀ f, fX7_line_79 (fX7_line_60 (zN pg) (zN l) fu) (zN pg) (zN l) (f + 1) (zN s.2) (zN t) (-zN 1) (zN 0) M = fX7_line_60 (zN pg) (zN l) fu (zN s.2) (zN (t + 1)) M := by
        intro f
        rw [fX7_line_79, if_pos (show -zN 1 = -1 from rfl)]
        unfold fX7_line_176
        rw [t1]
      exact g 2147483647
  have gen : ∀ f, ∃ M', fX7_line_60 (zN pg) (zN l) (f + 1 + 1 + 1 + 1) (zN 0) (zN 0) M = some (zN (lwS P m 2 (tk P m 2) 0 (lwS P m 1 (tk P m 1) 0 (lwS P m 0 (tk P m 0) 0 (fun _ => 0, 0)))).2, M') ∧ MRf (lwS P m 2 (tk P m 2) 0 (lwS P m 1 (tk P m 1) 0 (lwS P m 0 (tk P m 0) 0 (fun _ => 0, 0)))).1 (P 0) M' ∧ frX M M' := by
    intro f
    obtain ⟨M1, e1, r1, y1⟩ := st 0 (f + 1 + 1 + 1) (fun _ => 0, 0) M (by omega) hM hS hR
    obtain ⟨M2, e2, r2, y2⟩ := st 1 (f + 1 + 1) _ M1 (by omega) (MNow_X hM y1) (MSet_X hS y1) r1
    have y12 := frX_trans y1 y2
    obtain ⟨M3, e3, r3, y3⟩ := st 2 (f + 1) _ M2 (by omega) (MNow_X hM y12) (MSet_X hS y12) r2
    refine ⟨M3, ?_, r3, frX_trans y12 y3⟩
    refine e1.trans (e2.trans (e3.trans ?_))
    rw [fX7_line_60]
    exact if_pos (by decide)
  exact gen 2147483644
theorem rowL (f : Nat → Int64) (w : Nat) : ((List.range w).map f).length = w ∧ ∀ i, i < w → ((List.range w).map f).getD i 0 = f i := by
  refine ⟨by rw [List.length_map, List.length_range], fun i hi => ?_⟩
  rw [List.getD_eq_getElem?_getD, List.getElem?_map, List.getElem?_range hi]; rfl
theorem CRf_CR {f : Nat → Int64} {w : Nat} {M : zMM} (h : CRf f w M) : CR ((List.range w).map f) M := by
  have l := rowL f w
  exact ⟨by rw [l.1]; exact h.1, fun i hi => by rw [l.1] at hi; rw [l.2 i hi]; exact h.2 i hi⟩
theorem MRf_MR {f : Nat → Int64} {w : Nat} {M : zMM} (h : MRf f w M) : MR ((List.range w).map f) M := by
  have l := rowL f w
  exact ⟨by rw [l.1]; exact h.1, fun i hi => by rw [l.1] at hi; rw [l.2 i hi]; exact h.2 i hi⟩
theorem call_line (x y : Int32) : Cll (fX6_line x y) (fX7_line x y) := by
  refine Cll_of (fun P T R U K hw => ?_)
  have hP := hw.1
  have hp := hP.1
  have hU := hw.2.2.2.1.1
  rcases place_case hP x y with ⟨pg, l, hpg, hl, rfl, rfl, hC, hM⟩ | ⟨hC, hM⟩
  · have hb := pg_b hP hpg hl
    obtain ⟨m, hm⟩ : ∃ m, m = pg * P 1 + l := ⟨_, rfl⟩
    rw [← hm] at hb hC
    obtain ⟨S, hS⟩ : ∃ S, S = lwS P m 2 (tk P m 2) 0 (lwS P m 1 (tk P m 1) 0 (lwS P m 0 (tk P m 0) 0 (fun _ => 0, 0))) := ⟨_, rfl⟩
    refine ⟨zN S.2, P, T, (List.range (P 0)).map S.1, U, K, WF_R hw (by rw [List.length_map, List.length_range]; omega), fun M hM0 => ?_, fun M hM0 => ?_⟩
    · obtain ⟨M1, e1, s1, l1, f1⟩ := cset0 hP (b := 0) (by omega) hM0.1
      have pc := hC M M1 e1 l1 s1
      have h0 : M1.1 0 0 = zN (P 0) := l1.1.1
      obtain ⟨M2, e2, r2, y2⟩ := noughts2 (w := P 0) (by omega) M1
      obtain ⟨M3, e3, r3, y3⟩ := line_c hP (m := m) (by omega) (zN pg) (zN l) (Leaf_Y l1 (by omega) y2) (CSet_Y s1 y2) r2
      rw [← hS] at e3 r3
      have y23 := frY_trans y2 y3
      refine ⟨M3, ?_, CI_q hM0 hU (cq_trans (cq_set f1) (cq_Y y23)) (Leaf_Y l1 (by omega) y23) (CRf_CR r3)⟩
      unfold fX6_line
      rw [pc, Option.bind_some, if_pos (show (0 : Int32) ≤ ((zN m, M1) : Int32 × zMM).1 by show zN 0 ≤ zN m; rw [zN_leT (by omega)]; trivial)]
      dsimp only
      rw [h0, e2, Option.bind_some]
      exact e3
    · obtain ⟨M1, e1, s1, n1, f1⟩ := mset0 hP (MNow_w (j := 5) (v := zN 0) hM0.1)
      have il := hM M1 n1 s1
      have m0 := n1 0 (by omega)
      have key := loopE (fun k (s : Nat × zMM) => fX7_line_32 (zN pg) (zN l) k (zN s.1) s.2)
        (fun i s => s.1 = i ∧ (∀ x, x < i → s.2.2 161 x = 0) ∧ s.2.1 158 4 = zN (P 0) ∧ frX (wr M1 158 4 (zN (P 0))) s.2) (P 0)
        (fun r => ∃ M', r = fX7_line_60 (zN pg) (zN l) zFU (zN 0) (zN 0) M' ∧ (∀ x, x < P 0 → M'.2 161 x = 0) ∧ M'.1 158 4 = zN (P 0) ∧ frX (wr M1 158 4 (zN (P 0))) M')
        (by
          rintro i k ⟨i0, M'⟩ hi ⟨rfl, h1, h4, h2⟩
          dsimp only at h1 h2 h4 hi ⊢
          right
          have g0 : M'.1 159 0 = zN (P 0) := by rw [h2.1 _ _ (by omega), wr_nj (by omega)]; exact m0
          refine ⟨(i0 + 1, wrL M' 161 i0 0), ?_, rfl, fun x hx => ?_, by rw [wrL_1]; exact h4, ⟨fun c j hc => by rw [wrL_1]; exact h2.1 c j hc, fun c j hc => by rw [wrL_nj (by omega)]; exact h2.2 c j hc⟩⟩
          · rw [fX7_line_32]
            simp (disch := omega) only [wr_cj, wr_nj, rng_in, rng_out, zN_lit, zN_add, zN_mul, zN_sub, zN_ltT, zN_ltF, zN_leT, zN_leF, zN_eqT, zN_eqF, zN_lt, zN_le, zN_eq, zN_nat, zN_oobF, Option.bind_some, ↓reduceIte, Nat.one_mul, Nat.zero_add, Nat.add_zero, Nat.reduceAdd, Nat.reduceMul, Nat.reduceSub, Nat.reduceLT, Nat.reduceLeDiff, Nat.reduceEqDiff, reduceCtorEq, true_or, or_true, false_or, or_false, true_and, and_true, false_and, and_false, not_true_eq_false, not_false_eq_true, wr_2, wrL_1, zm_eqF, zm_eqF', zm_lt, zm_lt', zm_le, zm_le', zm_sub1, zN_01, Nat.mul_zero, Nat.zero_mul, Nat.mul_one, Nat.sub_zero, Nat.sub_self, Nat.add_sub_cancel, g0]
          · show (wrL M' 161 i0 0).2 161 x = 0
            by_cases e : x = i0
            · rw [e, wrL_cj]
            · rw [wrL_nj (by omega)]; exact h1 x (by omega))
        (by
          rintro k ⟨i0, M'⟩ ⟨e0, h1, h4, h2⟩
          dsimp only at e0 h1 h2 h4 ⊢
          have g0 : M'.1 159 0 = zN (P 0) := by rw [h2.1 _ _ (by omega), wr_nj (by omega)]; exact m0
          refine ⟨M', ?_, h1, h4, h2⟩
          rw [fX7_line_32, g0, e0, if_pos (show zN (P 0) ≤ zN (P 0) by rw [zN_leT (by omega)]; trivial)]; rfl)
        zFU (0, wr M1 158 4 (zN (P 0))) (by rw [zFU_eq]; omega) ⟨rfl, fun x hx => absurd hx (by omega), wr_cj _ _ _ _, ⟨fun _ _ _ => rfl, fun _ _ _ => rfl⟩⟩
      obtain ⟨M2, e2, z2, k4, x2⟩ := key
      have n2 := MNow_X (MNow_w (j := 4) (v := zN (P 0)) n1) x2
      have s2 := MSet_X (MSet_4 (v := zN (P 0)) s1) x2
      obtain ⟨M3, e3, r3, x3⟩ := line_m hP hpg hl hm n2 s2 ⟨k4, z2⟩
      rw [← hS] at e3 r3
      refine ⟨M3, ?_, MI_q hM0 (mq_trans (mq_w (j := 5) (v := zN 0) (by omega)) (mq_trans (mq_MS f1) (mq_trans (mq_w (j := 4) (v := zN (P 0)) (by omega)) (mq_trans (mq_X x2) (mq_X x3))))) (MNow_X n2 x3) (MRf_MR r3)⟩
      unfold fX7_line
      simp only [zN_lit]
      rw [e1, Option.bind_some, il, Option.bind_some, if_neg nz10]
      dsimp only
      rw [m0]
      exact e2.trans e3
  · refine ⟨-zN 1, P, T, R, U, K, hw, fun M hM0 => ?_, fun M hM0 => ?_⟩
    · obtain ⟨M1, e1, s1, l1, f1⟩ := cset0 hP (b := 0) (by omega) hM0.1
      have pc := hC M M1 e1 l1 s1
      refine ⟨M1, ?_, CI_q hM0 hU (cq_set f1) l1 (CR_q hM0.2.2.1 f1 (fun j a => by omega))⟩
      unfold fX6_line; rw [pc, Option.bind_some]; exact if_neg (zneg_le (zm_neg (by omega)))
    · obtain ⟨M1, e1, s1, n1, f1⟩ := mset0 hP (MNow_w (j := 5) (v := zN 0) hM0.1)
      have il := hM M1 n1 s1
      refine ⟨M1, ?_, MI_sc (MI_th hM0) f1 (fun c j a => by unfold MS at a; unfold MSc; omega), frM_trans (frM_th M _) (frM_fr f1 (fun c j a => by unfold MS at a; omega))⟩
      unfold fX7_line; simp only [zN_lit]; rw [e1, Option.bind_some, il, Option.bind_some]; exact if_pos rfl
