/-! signs of the text -/
def byt (v : Int32) (s : Nat) : Nat := ((v.toUInt32 >>> (UInt32.ofNat s)) &&& 255).toNat
theorem byt_lt (v : Int32) (s : Nat) : byt v s < 256 := by
  unfold byt
  rw [UInt32.toNat_and]
  have : (v.toUInt32 >>> (UInt32.ofNat s)).toNat &&& (255 : UInt32).toNat ≤ 255 := Nat.and_le_right
  omega
theorem byt_c (v : Int32) : ((v.toUInt32 >>> (Int32.toUInt32 (zN 24) &&& Int32.toUInt32 (zN 31))).toInt32 &&& zN 255 = zN (byt v 24)) ∧ ((v.toUInt32 >>> (Int32.toUInt32 (zN 16) &&& Int32.toUInt32 (zN 31))).toInt32 &&& zN 255 = zN (byt v 16)) ∧ ((v.toUInt32 >>> (Int32.toUInt32 (zN 8) &&& Int32.toUInt32 (zN 31))).toInt32 &&& zN 255 = zN (byt v 8)) ∧ ((v.toUInt32 >>> (Int32.toUInt32 (zN 0) &&& Int32.toUInt32 (zN 31))).toInt32 &&& zN 255 = zN (byt v 0)) := by
  have e : ∀ u w : UInt32, u.toInt32 &&& w.toInt32 = zN (u &&& w).toNat := fun u w => u2z (u &&& w)
  exact ⟨e _ 255, e _ 255, e _ 255, e _ 255⟩
theorem b255 : ∀ j, j < 8 → (255#32).getLsbD j = true := by decide
theorem byt_b (x : BitVec 32) {s : Nat} (hs : s ≤ 24) : ((x.sshiftRight s).signExtend 8) = BitVec.ofNat 8 (((x >>> s) &&& 255#32).toNat) := by
  apply BitVec.eq_of_getLsbD_eq
  intro j hj
  rw [BitVec.getLsbD_ofNat, BitVec.getLsbD_signExtend, BitVec.testBit_toNat, BitVec.getLsbD_and, BitVec.getLsbD_ushiftRight, BitVec.getLsbD_sshiftRight, b255 j hj]
  simp [hj, show j < 32 by omega, show s + j < 32 by omega]
theorem zB_all : ∀ n, n < 256 → (Int8.ofBitVec (BitVec.ofNat 8 n)).toInt32 = zB n := by decide +kernel
theorem nar8 (y : Int8) : vp_nar .byte y.toInt32 = y.toInt32 := by
  rw [vp_nar_byte]
  have : y.toInt32.toInt8 = y := by simp
  rw [this]
theorem byt_m (v : Int32) : (vp_nar .byte (Int32.toInt8 (v >>> (zN 24 &&& zN 31))).toInt32 = zB (byt v 24)) ∧ (vp_nar .byte (Int32.toInt8 (v >>> (zN 16 &&& zN 31))).toInt32 = zB (byt v 16)) ∧ (vp_nar .byte (Int32.toInt8 (v >>> (zN 8 &&& zN 31))).toInt32 = zB (byt v 8)) ∧ (vp_nar .byte (Int32.toInt8 (v >>> (zN 0 &&& zN 31))).toInt32 = zB (byt v 0)) := by
  have key : ∀ (b : Int32) (s : Nat), s ≤ 24 → (Int32.toInt8 (v >>> b)) = Int8.ofBitVec ((v.toBitVec.sshiftRight s).signExtend 8) → byt v s = ((v.toBitVec >>> s) &&& 255#32).toNat → vp_nar .byte (Int32.toInt8 (v >>> b)).toInt32 = zB (byt v s) := by
    intro b s hs h1 h2
    rw [nar8, h1, byt_b _ hs, ← h2, zB_all _ (byt_lt v s)]
  exact ⟨key _ 24 (by omega) rfl rfl, key _ 16 (by omega) rfl rfl, key _ 8 (by omega) rfl rfl, key _ 0 (by omega) rfl rfl⟩
theorem getD_app {T : List Nat} {a : List Nat} {i : Nat} (h : i < T.length) : (T ++ a).getD i 0 = T.getD i 0 := by
  rw [List.getD_eq_getElem?_getD, List.getD_eq_getElem?_getD, List.getElem?_append_left h]
theorem getD_app2 {T : List Nat} {a : List Nat} {i : Nat} : (T ++ a).getD (T.length + i) 0 = a.getD i 0 := by
  rw [List.getD_eq_getElem?_getD, List.getD_eq_getElem?_getD, List.getElem?_append_right (by omega), Nat.add_sub_cancel_left]
theorem call_sign (v : Int32) : Cll (fX6_sign v) (fX7_sign v) := by
  refine Cll_of (fun P T R U K hw => ?_)
  have hU := hw.2.2.2.1.1
  have hT := hw.2.1.1
  have hTb := hw.2.1.2
  by_cases full : T.length + 4 ≤ 80
  · obtain ⟨b0, h0⟩ : ∃ b, b = byt v 24 := ⟨_, rfl⟩
    obtain ⟨b1, h1⟩ : ∃ b, b = byt v 16 := ⟨_, rfl⟩
    obtain ⟨b2, h2⟩ : ∃ b, b = byt v 8 := ⟨_, rfl⟩
    obtain ⟨b3, h3⟩ : ∃ b, b = byt v 0 := ⟨_, rfl⟩
    obtain ⟨c0, c1, c2, c3⟩ := byt_c v
    obtain ⟨m0, m1, m2, m3⟩ := byt_m v
    have q0 := byt_lt v 24
    have q1 := byt_lt v 16
    have q2 := byt_lt v 8
    have q3 := byt_lt v 0
    rw [← h0] at c0 m0 q0; rw [← h1] at c1 m1 q1; rw [← h2] at c2 m2 q2; rw [← h3] at c3 m3 q3
    have hl : (T ++ [b0, b1, b2, b3]).length = T.length + 4 := by rw [List.length_append]; rfl
    refine ⟨zN (T.length + 4), P, T ++ [b0, b1, b2, b3], R, U, K, ⟨hw.1, ⟨by omega, fun i hi => ?_⟩, hw.2.2⟩, ?_, ?_⟩
    · by_cases c : i < T.length
      · rw [getD_app c]; exact hTb i c
      · rw [hl] at hi
        obtain ⟨j, hj⟩ : ∃ j, i = T.length + j := ⟨i - T.length, by omega⟩
        rw [hj, getD_app2]
        have e : j = 0 ∨ j = 1 ∨ j = 2 ∨ j = 3 := by omega
        rcases e with rfl | rfl | rfl | rfl <;> assumption
    · rintro M ⟨k1, k2, k3, ⟨q, k4⟩, k5⟩
      have l := k2.1
      let M' : zMM := wr (wr (wr (wr (wr M 154 T.length (zN b0)) 154 (T.length + 1) (zN b1)) 154 (T.length + 2) (zN b2)) 154 (T.length + 3) (zN b3)) 153 1 (zN (T.length + 4))
      have f : fr (fun c j => (c = 154 ∧ T.length ≤ j) ∨ (c = 153 ∧ j = 1)) M M' := fr_wr (fr_wr (fr_wr (fr_wr (fr_wr (fr_refl _ _) (by omega)) (by omega)) (by omega)) (by omega)) (by omega)
      refine ⟨M', ?_, ⟨Leaf_eq k1 (fun c j a b => f.1 c j (by omega)), ⟨by rw [hl]; exact wr_cj _ _ _ _, fun i hi => ?_⟩, CR_fr k3 (fun j => f.1 _ _ (by omega)) (fun j => rfl), ⟨q, CU_fr k4 (fun c j a => f.1 c j (by omega)) hU⟩, CKp_fr k5 (fun c j a => f.1 c j (by omega))⟩, frC_fr f (fun c j a => by omega)⟩
      · have gen : ∀ n, fX5_add_15 v (n + 1 + 1 + 1 + 1 + 1) 0 M = some (zN 1, M') := by
          intro n
          rw [fX5_add_15]; simp (disch := omega) only [wr_cj, wr_nj, rng_in, rng_out, zN_lit, zN_add, zN_mul, zN_sub, zN_ltT, zN_ltF, zN_leT, zN_leF, zN_eqT, zN_eqF, zN_lt, zN_le, zN_eq, zN_nat, zN_oobF, Option.bind_some, ↓reduceIte, Nat.one_mul, Nat.zero_add, Nat.add_zero, Nat.reduceAdd, Nat.reduceMul, Nat.reduceSub, Nat.reduceLT, Nat.reduceLeDiff, Nat.reduceEqDiff, reduceCtorEq, true_or, or_true, false_or, or_false, true_and, and_true, false_and, and_false, not_true_eq_false, not_false_eq_true, wr_2, wrL_1, zm_eqF, zm_eqF', zm_lt, zm_lt', zm_le, zm_le', zm_sub1, zN_01, Nat.mul_zero, Nat.zero_mul, Nat.mul_one, Nat.sub_zero, Nat.sub_self, Nat.add_sub_cancel, l, c0]
          rw [fX5_add_15]; simp (disch := omega) only [wr_cj, wr_nj, rng_in, rng_out, zN_lit, zN_add, zN_mul, zN_sub, zN_ltT, zN_ltF, zN_leT, zN_leF, zN_eqT, zN_eqF, zN_lt, zN_le, zN_eq, zN_nat, zN_oobF, Option.bind_some, ↓reduceIte, Nat.one_mul, Nat.zero_add, Nat.add_zero, Nat.reduceAdd, Nat.reduceMul, Nat.reduceSub, Nat.reduceLT, Nat.reduceLeDiff, Nat.reduceEqDiff, reduceCtorEq, true_or, or_true, false_or, or_false, true_and, and_true, false_and, and_false, not_true_eq_false, not_false_eq_true, wr_2, wrL_1, zm_eqF, zm_eqF', zm_lt, zm_lt', zm_le, zm_le', zm_sub1, zN_01, Nat.mul_zero, Nat.zero_mul, Nat.mul_one, Nat.sub_zero, Nat.sub_self, Nat.add_sub_cancel, l, c1]
          rw [fX5_add_15]; simp (disch := omega) only [wr_cj, wr_nj, rng_in, rng_out, zN_lit, zN_add, zN_mul, zN_sub, zN_ltT, zN_ltF, zN_leT, zN_leF, zN_eqT, zN_eqF, zN_lt, zN_le, zN_eq, zN_nat, zN_oobF, Option.bind_some, ↓reduceIte, Nat.one_mul, Nat.zero_add, Nat.add_zero, Nat.reduceAdd, Nat.reduceMul, Nat.reduceSub, Nat.reduceLT, Nat.reduceLeDiff, Nat.reduceEqDiff, reduceCtorEq, true_or, or_true, false_or, or_false, true_and, and_true, false_and, and_false, not_true_eq_false, not_false_eq_true, wr_2, wrL_1, zm_eqF, zm_eqF', zm_lt, zm_lt', zm_le, zm_le', zm_sub1, zN_01, Nat.mul_zero, Nat.zero_mul, Nat.mul_one, Nat.sub_zero, Nat.sub_self, Nat.add_sub_cancel, l, c2]
          rw [fX5_add_15]; simp (disch := omega) only [wr_cj, wr_nj, rng_in, rng_out, zN_lit, zN_add, zN_mul, zN_sub, zN_ltT, zN_ltF, zN_leT, zN_leF, zN_eqT, zN_eqF, zN_lt, zN_le, zN_eq, zN_nat, zN_oobF, Option.bind_some, ↓reduceIte, Nat.one_mul, Nat.zero_add, Nat.add_zero, Nat.reduceAdd, Nat.reduceMul, Nat.reduceSub, Nat.reduceLT, Nat.reduceLeDiff, Nat.reduceEqDiff, reduceCtorEq, true_or, or_true, false_or, or_false, true_and, and_true, false_and, and_false, not_true_eq_false, not_false_eq_true, wr_2, wrL_1, zm_eqF, zm_eqF', zm_lt, zm_lt', zm_le, zm_le', zm_sub1, zN_01, Nat.mul_zero, Nat.zero_mul, Nat.mul_one, Nat.sub_zero, Nat.sub_self, Nat.add_sub_cancel, l, c3]
          rw [fX5_add_15]; simp (disch := omega) only [wr_cj, wr_nj, rng_in, rng_out, zN_lit, zN_add, zN_mul, zN_sub, zN_ltT, zN_ltF, zN_leT, zN_leF, zN_eqT, zN_eqF, zN_lt, zN_le, zN_eq, zN_nat, zN_oobF, Option.bind_some, ↓reduceIte, Nat.one_mul, Nat.zero_add, Nat.add_zero, Nat.reduceAdd, Nat.reduceMul, Nat.reduceSub, Nat.reduceLT, Nat.reduceLeDiff, Nat.reduceEqDiff, reduceCtorEq, true_or, or_true, false_or, or_false, true_and, and_true, false_and, and_false, not_true_eq_false, not_false_eq_true, wr_2, wrL_1, zm_eqF, zm_eqF', zm_lt, zm_lt', zm_le, zm_le', zm_sub1, zN_01, Nat.mul_zero, Nat.zero_mul, Nat.mul_one, Nat.sub_zero, Nat.sub_self, Nat.add_sub_cancel, l]
          rfl
        have g : fX5_add v M = some (zN 1, M') := by
          unfold fX5_add
          rw [l, if_pos (show zN T.length + 4 ≤ 80 by show zN T.length + zN 4 ≤ zN 80; rw [zN_add, zN_leT (by omega)]; trivial)]
          exact gen 2147483643
        have lM : M'.1 153 1 = zN (T.length + 4) := wr_cj _ _ _ _
        unfold fX6_sign
        rw [g, Option.bind_some, if_neg nz10', lM]
      · show M'.1 154 i = _
        by_cases c : i < T.length
        · rw [getD_app c, f.1 _ _ (by omega)]; exact k2.2 i c
        · rw [hl] at hi
          obtain ⟨j, hj⟩ : ∃ j, i = T.length + j := ⟨i - T.length, by omega⟩
          rw [hj, getD_app2]
          have e : j = 0 ∨ j = 1 ∨ j = 2 ∨ j = 3 := by omega
          simp only [M']
          rcases e with rfl | rfl | rfl | rfl
          · rw [wr_nj (by omega), wr_nj (by omega), wr_nj (by omega), wr_nj (by omega), Nat.add_zero, wr_cj]; rfl
          · rw [wr_nj (by omega), wr_nj (by omega), wr_nj (by omega), wr_cj]; rfl
          · rw [wr_nj (by omega), wr_nj (by omega), wr_cj]; rfl
          · rw [wr_nj (by omega), wr_cj]; rfl
    · rintro M ⟨k1, k2, k3, k4, k5⟩
      have l := k2.1
      let M' : zMM := wr (wr (wr (wr (wr (wr (wr (wr (wr M 158 5 (zN 0)) 158 2 (zN (T.length + 1))) 160 T.length (zB b0)) 158 2 (zN (T.length + 1 + 1))) 160 (T.length + 1) (zB b1)) 158 2 (zN (T.length + 1 + 1 + 1))) 160 (T.length + 1 + 1) (zB b2)) 158 2 (zN (T.length + 1 + 1 + 1 + 1))) 160 (T.length + 1 + 1 + 1) (zB b3)
      have f : fr (fun c j => (c = 160 ∧ T.length ≤ j) ∨ (c = 158 ∧ (j = 2 ∨ j = 5))) M M' := fr_wr (fr_wr (fr_wr (fr_wr (fr_wr (fr_wr (fr_wr (fr_wr (fr_wr (fr_refl _ _) (by omega)) (by omega)) (by omega)) (by omega)) (by omega)) (by omega)) (by omega)) (by omega)) (by omega)
      have lM : M'.1 158 2 = zN (T.length + 4) := by simp only [M']; rw [wr_nj (by omega), wr_cj]
      refine ⟨M', ?_, ⟨fun i hi => by rw [f.1 _ _ (by omega)]; exact k1 i hi, ⟨by rw [hl]; exact lM, fun i hi => ?_⟩, MR_fr k3 (f.1 _ _ (by omega)) (fun j => rfl), MU_fr k4 (f.1 _ _ (by omega)) (fun j => f.1 _ _ (by omega)), MKp_fr k5 (fun c j a => f.1 c j (by omega))⟩, frM_fr f (fun c j a => by omega)⟩
      · have gen : ∀ n, fX7_sign_20 v (n + 1 + 1 + 1 + 1 + 1) (zN 3) (wr M 158 5 (zN 0)) = some (zN (T.length + 4), M') := by
          intro n
          rw [fX7_sign_20]; simp (disch := omega) only [wr_cj, wr_nj, rng_in, rng_out, zN_lit, zN_add, zN_mul, zN_sub, zN_ltT, zN_ltF, zN_leT, zN_leF, zN_eqT, zN_eqF, zN_lt, zN_le, zN_eq, zN_nat, zN_oobF, Option.bind_some, ↓reduceIte, Nat.one_mul, Nat.zero_add, Nat.add_zero, Nat.reduceAdd, Nat.reduceMul, Nat.reduceSub, Nat.reduceLT, Nat.reduceLeDiff, Nat.reduceEqDiff, reduceCtorEq, true_or, or_true, false_or, or_false, true_and, and_true, false_and, and_false, not_true_eq_false, not_false_eq_true, wr_2, wrL_1, zm_eqF, zm_eqF', zm_lt, zm_lt', zm_le, zm_le', zm_sub1, zN_01, Nat.mul_zero, Nat.zero_mul, Nat.mul_one, Nat.sub_zero, Nat.sub_self, Nat.add_sub_cancel, l, m0]
          rw [fX7_sign_20]; simp (disch := omega) only [wr_cj, wr_nj, rng_in, rng_out, zN_lit, zN_add, zN_mul, zN_sub, zN_ltT, zN_ltF, zN_leT, zN_leF, zN_eqT, zN_eqF, zN_lt, zN_le, zN_eq, zN_nat, zN_oobF, Option.bind_some, ↓reduceIte, Nat.one_mul, Nat.zero_add, Nat.add_zero, Nat.reduceAdd, Nat.reduceMul, Nat.reduceSub, Nat.reduceLT, Nat.reduceLeDiff, Nat.reduceEqDiff, reduceCtorEq, true_or, or_true, false_or, or_false, true_and, and_true, false_and, and_false, not_true_eq_false, not_false_eq_true, wr_2, wrL_1, zm_eqF, zm_eqF', zm_lt, zm_lt', zm_le, zm_le', zm_sub1, zN_01, Nat.mul_zero, Nat.zero_mul, Nat.mul_one, Nat.sub_zero, Nat.sub_self, Nat.add_sub_cancel, m1]
          rw [fX7_sign_20]; simp (disch := omega) only [wr_cj, wr_nj, rng_in, rng_out, zN_lit, zN_add, zN_mul, zN_sub, zN_ltT, zN_ltF, zN_leT, zN_leF, zN_eqT, zN_eqF, zN_lt, zN_le, zN_eq, zN_nat, zN_oobF, Option.bind_some, ↓reduceIte, Nat.one_mul, Nat.zero_add, Nat.add_zero, Nat.reduceAdd, Nat.reduceMul, Nat.reduceSub, Nat.reduceLT, Nat.reduceLeDiff, Nat.reduceEqDiff, reduceCtorEq, true_or, or_true, false_or, or_false, true_and, and_true, false_and, and_false, not_true_eq_false, not_false_eq_true, wr_2, wrL_1, zm_eqF, zm_eqF', zm_lt, zm_lt', zm_le, zm_le', zm_sub1, zN_01, Nat.mul_zero, Nat.zero_mul, Nat.mul_one, Nat.sub_zero, Nat.sub_self, Nat.add_sub_cancel, m2]
          rw [fX7_sign_20]; simp (disch := omega) only [wr_cj, wr_nj, rng_in, rng_out, zN_lit, zN_add, zN_mul, zN_sub, zN_ltT, zN_ltF, zN_leT, zN_leF, zN_eqT, zN_eqF, zN_lt, zN_le, zN_eq, zN_nat, zN_oobF, Option.bind_some, ↓reduceIte, Nat.one_mul, Nat.zero_add, Nat.add_zero, Nat.reduceAdd, Nat.reduceMul, Nat.reduceSub, Nat.reduceLT, Nat.reduceLeDiff, Nat.reduceEqDiff, reduceCtorEq, true_or, or_true, false_or, or_false, true_and, and_true, false_and, and_false, not_true_eq_false, not_false_eq_true, wr_2, wrL_1, zm_eqF, zm_eqF', zm_lt, zm_lt', zm_le, zm_le', zm_sub1, zN_01, Nat.mul_zero, Nat.zero_mul, Nat.mul_one, Nat.sub_zero, Nat.sub_self, Nat.add_sub_cancel, m3]
          rw [fX7_sign_20]; simp (disch := omega) only [wr_cj, wr_nj, rng_in, rng_out, zN_lit, zN_add, zN_mul, zN_sub, zN_ltT, zN_ltF, zN_leT, zN_leF, zN_eqT, zN_eqF, zN_lt, zN_le, zN_eq, zN_nat, zN_oobF, Option.bind_some, ↓reduceIte, Nat.one_mul, Nat.zero_add, Nat.add_zero, Nat.reduceAdd, Nat.reduceMul, Nat.reduceSub, Nat.reduceLT, Nat.reduceLeDiff, Nat.reduceEqDiff, reduceCtorEq, true_or, or_true, false_or, or_false, true_and, and_true, false_and, and_false, not_true_eq_false, not_false_eq_true, wr_2, wrL_1, zm_eqF, zm_eqF', zm_lt, zm_lt', zm_le, zm_le', zm_sub1, zN_01, Nat.mul_zero, Nat.zero_mul, Nat.mul_one, Nat.sub_zero, Nat.sub_self, Nat.add_sub_cancel]
          rfl
        unfold fX7_sign
        simp only [zN_lit]
        rw [wr_nj (by omega), l, zN_add, if_pos (show zN (T.length + 4) ≤ zN 80 by rw [zN_leT (by omega)]; trivial)]
        exact gen 2147483643
      · show M'.1 160 i = _
        by_cases c : i < T.length
        · rw [getD_app c, f.1 _ _ (by omega)]; exact k2.2 i c
        · rw [hl] at hi
          obtain ⟨j, hj⟩ : ∃ j, i = T.length + j := ⟨i - T.length, by omega⟩
          rw [hj, getD_app2]
          have e : j = 0 ∨ j = 1 ∨ j = 2 ∨ j = 3 := by omega
          simp only [M']
          rcases e with rfl | rfl | rfl | rfl
          · rw [wr_nj (by omega), wr_nj (by omega), wr_nj (by omega), wr_nj (by omega), wr_nj (by omega), wr_nj (by omega)]; exact wr_cj _ _ _ _
          · rw [wr_nj (by omega), wr_nj (by omega), wr_nj (by omega), wr_nj (by omega), wr_cj]; rfl
          · rw [wr_nj (by omega), wr_nj (by omega), show T.length + 2 = T.length + 1 + 1 by omega, wr_cj]; rfl
          · rw [show T.length + 3 = T.length + 1 + 1 + 1 by omega, wr_cj]; rfl
  · refine ⟨-zN 1, P, T, R, U, K, hw, CD_no (fun M hM => ?_), MD_no (fun M hM => ?_)⟩
    · have l := hM.2.1.1
      unfold fX6_sign fX5_add
      rw [l, if_neg (show ¬ zN T.length + 4 ≤ 80 by show ¬ zN T.length + zN 4 ≤ zN 80; rw [zN_add, zN_leF (by omega)]; exact id)]; rfl
    · have l := hM.2.1.1
      unfold fX7_sign
      simp only [zN_lit]
      rw [wr_nj (by omega), l, zN_add, if_neg (show ¬ zN (T.length + 4) ≤ zN 80 by rw [zN_leF (by omega)]; exact id)]
/-! a sheet of sizes -/
def ent (kind f step : Int32) (i : Nat) : Int32 := if kind = 0 then (Int32.toInt8 (f + (zN i * step))).toInt32 else if kind = 1 then (Int32.toInt16 (f + (zN i * step))).toInt32 else f + (zN i * step)
theorem ent6 (kind f step : Int32) (i : Nat) (M : zMM) : fX6_entry kind f step (zN i) M = some (ent kind f step i, M) := by
  unfold fX6_entry ent
  by_cases a : kind = 0
  · rw [if_pos a, if_pos a]
  · rw [if_neg a, if_neg a]
    by_cases b : kind = 1
    · rw [if_pos b, if_pos b]
    · rw [if_neg b, if_neg b]
theorem ent7 (kind f step : Int32) (i : Nat) (M : zMM) : fX7_entryOf kind f step (zN i) M = some (ent kind f step i, M) := ent6 kind f step i M
