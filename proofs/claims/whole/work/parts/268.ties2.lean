/-! one tie read, both sides -/
theorem ge0 {v : Nat} {M : zMM} (h : v < 2147483648) : (0 : Int32) ≤ ((zN v, M) : Int32 × zMM).1 := by show zN 0 ≤ zN v; rw [zN_leT (by omega)]; trivial
theorem ge0F {e : Nat} {M : zMM} (h : e < 1000) : ¬ (0 : Int32) ≤ ((-zN 1 - zN e, M) : Int32 × zMM).1 := zneg_le (zme_neg h)
theorem lt12 {i : Nat} (h : i < 12) : zN i < 12 := by show zN i < zN 12; rw [zN_ltT (by omega)]; trivial
section
variable {M : zMM} {i p s v w e : Nat}
theorem t6h (hi : i < 12) (hs : s < 3) (h6 : M.1 10 6 = zN i) {X : Int32} (h : fX5_numberAt (zN (p + 1)) (zN 2) M = some (X, M)) (hX : (0 : Int32) ≤ ((X, M) : Int32 × zMM).1) {b : Nat} (hw : fX0_hasWord 10 (zN s) X M = some (zN b, M)) : fX6_readTie_30 (zN p) (zN s) M = if ((zN b, M) : Int32 × zMM).1 = 0 then some (-1 - (zN p + 2), M) else (fX0_isTied 10 (zN s) X M).bind fun q7 => if q7.1 = (0 : Int32) then (fX5_numberAt (zN p + 3) 2 q7.2).bind fun q9 => if (0 : Int32) ≤ q9.1 then (fX0_hasWord 10 0 q9.1 q9.2).bind fun q11 => if q11.1 = (0 : Int32) then some ((-1) - (zN p + 4), q11.2) else (fX0_addTie 10 (zN s) X q9.1 q11.2).bind fun q13 => some (0, q13) else some (q9.1, q9.2) else some ((-1) - (zN p + 2), q7.2) := by
  have h' : fX5_numberAt (zN p + 1) 2 M = some (X, M) := by
    have p1 : zN p + 1 = zN (p + 1) := zN_add p 1
    rw [p1]; exact h
  unfold fX6_readTie_30
  rw [if_neg (zN_nn (by omega)), h6, if_pos (lt12 hi), h', Option.bind_some, if_pos hX, hw, Option.bind_some]
theorem t6a (hi : i < 12) (hs : s < 3) (he : e < 1000) (h6 : M.1 10 6 = zN i) (h : fX5_numberAt (zN (p + 1)) (zN 2) M = some (-zN 1 - zN e, M)) : fX6_readTie_30 (zN p) (zN s) M = some (-zN 1 - zN e, M) := by
  have h' : fX5_numberAt (zN p + 1) 2 M = some (-zN 1 - zN e, M) := by
    have p1 : zN p + 1 = zN (p + 1) := zN_add p 1
    rw [p1]; exact h
  unfold fX6_readTie_30
  rw [if_neg (zN_nn (by omega)), h6, if_pos (lt12 hi), h', Option.bind_some, if_neg (ge0F he)]
theorem m1p {k : Nat} {M : zMM} : (some ((-1) - (zN p + zN k), M) : Option (Int32 × zMM)) = some (-zN 1 - zN (p + k), M) := by rw [zN_add]; rfl
theorem t6b (hi : i < 12) (hs : s < 3) (hv : v < 1000) (h6 : M.1 10 6 = zN i) (h : fX5_numberAt (zN (p + 1)) (zN 2) M = some (zN v, M)) (hw : fX0_hasWord 10 (zN s) (zN v) M = some (zN 0, M)) : fX6_readTie_30 (zN p) (zN s) M = some (-zN 1 - zN (p + 2), M) := by
  rw [t6h hi hs h6 h (ge0 (by omega)) hw, if_pos z00]; exact m1p
theorem t6c (hi : i < 12) (hs : s < 3) (hv : v < 1000) (h6 : M.1 10 6 = zN i) (h : fX5_numberAt (zN (p + 1)) (zN 2) M = some (zN v, M)) (hw : fX0_hasWord 10 (zN s) (zN v) M = some (zN 1, M)) (ht : fX0_isTied 10 (zN s) (zN v) M = some (zN 1, M)) : fX6_readTie_30 (zN p) (zN s) M = some (-zN 1 - zN (p + 2), M) := by
  rw [t6h hi hs h6 h (ge0 (by omega)) hw, if_neg nz10', ht, Option.bind_some, if_neg nz10']; exact m1p
theorem t6d (hi : i < 12) (hs : s < 3) (hv : v < 1000) (he : e < 1000) (h6 : M.1 10 6 = zN i) (h : fX5_numberAt (zN (p + 1)) (zN 2) M = some (zN v, M)) (hw : fX0_hasWord 10 (zN s) (zN v) M = some (zN 1, M)) (ht : fX0_isTied 10 (zN s) (zN v) M = some (zN 0, M)) (h2 : fX5_numberAt (zN (p + 3)) (zN 2) M = some (-zN 1 - zN e, M)) : fX6_readTie_30 (zN p) (zN s) M = some (-zN 1 - zN e, M) := by
  have h' : fX5_numberAt (zN p + 3) 2 M = some (-zN 1 - zN e, M) := by
    have p1 : zN p + 3 = zN (p + 3) := zN_add p 3
    rw [p1]; exact h2
  rw [t6h hi hs h6 h (ge0 (by omega)) hw, if_neg nz10', ht, Option.bind_some, if_pos z00, h', Option.bind_some, if_neg (ge0F he)]
theorem t6e (hi : i < 12) (hs : s < 3) (hv : v < 1000) (hw' : w < 1000) (h6 : M.1 10 6 = zN i) (h : fX5_numberAt (zN (p + 1)) (zN 2) M = some (zN v, M)) (hw : fX0_hasWord 10 (zN s) (zN v) M = some (zN 1, M)) (ht : fX0_isTied 10 (zN s) (zN v) M = some (zN 0, M)) (h2 : fX5_numberAt (zN (p + 3)) (zN 2) M = some (zN w, M)) (hw2 : fX0_hasWord 10 (zN 0) (zN w) M = some (zN 0, M)) : fX6_readTie_30 (zN p) (zN s) M = some (-zN 1 - zN (p + 4), M) := by
  have h' : fX5_numberAt (zN p + 3) 2 M = some (zN w, M) := by
    have p1 : zN p + 3 = zN (p + 3) := zN_add p 3
    rw [p1]; exact h2
  have hw2' : fX0_hasWord 10 0 (zN w) M = some (zN 0, M) := hw2
  rw [t6h hi hs h6 h (ge0 (by omega)) hw, if_neg nz10', ht, Option.bind_some, if_pos z00, h', Option.bind_some, if_pos (ge0 (by omega)), hw2', Option.bind_some, if_pos z00]; exact m1p
theorem t6f {M' : zMM} (hi : i < 12) (hs : s < 3) (hv : v < 1000) (hw' : w < 1000) (h6 : M.1 10 6 = zN i) (h : fX5_numberAt (zN (p + 1)) (zN 2) M = some (zN v, M)) (hw : fX0_hasWord 10 (zN s) (zN v) M = some (zN 1, M)) (ht : fX0_isTied 10 (zN s) (zN v) M = some (zN 0, M)) (h2 : fX5_numberAt (zN (p + 3)) (zN 2) M = some (zN w, M)) (hw2 : fX0_hasWord 10 (zN 0) (zN w) M = some (zN 1, M)) (ha : fX0_addTie 10 (zN s) (zN v) (zN w) M = some M') : fX6_readTie_30 (zN p) (zN s) M = some (zN 0, M') := by
  have h' : fX5_numberAt (zN p + 3) 2 M = some (zN w, M) := by
    have p1 : zN p + 3 = zN (p + 3) := zN_add p 3
    rw [p1]; exact h2
  have hw2' : fX0_hasWord 10 0 (zN w) M = some (zN 1, M) := hw2
  rw [t6h hi hs h6 h (ge0 (by omega)) hw, if_neg nz10', ht, Option.bind_some, if_pos z00, h', Option.bind_some, if_pos (ge0 (by omega)), hw2', Option.bind_some, if_neg nz10', ha, Option.bind_some]; rfl
end
theorem rt128 {i : Nat} (hi : i < 12) (l2 l3 l4 : Int32) (M : zMM) : fX7_readTie_128 (zN i) l2 l3 l4 M = some (wr (wr (wr M 162 (3 * i) l2) 162 (3 * i + 1) l3) 162 (3 * i + 2) l4) := by
  unfold fX7_readTie_128; simp (disch := omega) only [wr_cj, wr_nj, rng_in, rng_out, zN_lit, zN_add, zN_mul, zN_sub, zN_ltT, zN_ltF, zN_leT, zN_leF, zN_eqT, zN_eqF, zN_lt, zN_le, zN_eq, zN_nat, zN_oobF, Option.bind_some, ↓reduceIte, Nat.one_mul, Nat.zero_add, Nat.add_zero, Nat.reduceAdd, Nat.reduceMul, Nat.reduceSub, Nat.reduceLT, Nat.reduceLeDiff, Nat.reduceEqDiff, reduceCtorEq, true_or, or_true, false_or, or_false, true_and, and_true, false_and, and_false, not_true_eq_false, not_false_eq_true, wr_2, wrL_1, zm_eqF, zm_eqF', zm_lt, zm_lt', zm_le, zm_le', zm_sub1, zN_01, Nat.mul_zero, Nat.zero_mul, Nat.mul_one, Nat.sub_zero, Nat.sub_self, Nat.add_sub_cancel]
theorem rt94X {i e : Nat} (hi : i < 12) {M : zMM} (h : M.1 158 8 = zN e) (he : e < 1000) (l2 l3 : Int32) : ∃ M', fX7_readTie_94 (zN i) l2 l3 M = some M' ∧ M'.1 158 8 = zN e ∧ fr (fun c _ => c = 162) M M' := by
  obtain ⟨v, hv⟩ := digX h he (k := 2) (by omega)
  have hf := fineF h he
  refine ⟨wr (wr (wr M 162 (3 * i) l2) 162 (3 * i + 1) l3) 162 (3 * i + 2) v, ?_, ?_, fr_wr (fr_wr (fr_wr (fr_refl _ _) (by omega)) (by omega)) (by omega)⟩
  · unfold fX7_readTie_94
    have hv' : fX7_digits 2 M = some (v, M) := hv
    rw [hv', Option.bind_some, hf, Option.bind_some, if_pos z00]; exact rt128 hi _ _ _ _
  · rw [wr_nj (by omega), wr_nj (by omega), wr_nj (by omega)]; exact h
theorem nv2 {T : List Nat} {p : Nat} (h : ∀ j, j < 2 → dok T (p + j)) : nv T p 2 < 100 := nv_lt T p 2 h
theorem tie30 {T : List Nat} (hT : T.length ≤ 80) (hb : ∀ i, i < T.length → tt T i < 256) {P Q : Nat → Nat} (hP : Good P) (h : Pre P Q) {i p s : Nat} (hi : Q 218 = i) (hn : i < 12) (hp : p = 5 * i) (hs : s = 1 ∨ s = 2) :
    (∃ v w, v < Q (5 + s) ∧ w < Q 5 ∧ p + 5 ≤ T.length ∧
      (∀ M, CT T M → Leaf M 10 Q → ∃ M', fX6_readTie_30 (zN p) (zN s) M = some (zN 0, M') ∧ Leaf M' 10 (tiA Q s v w) ∧ fr (fun c _ => 10 ≤ c ∧ c < 20) M M') ∧
      (∀ M, MNow M P → TR T p M → RR Q M → ∃ M', fX7_readTie_27 (zN i) (zN s) M = some M' ∧ TR T (p + 5) M' ∧ RR (tiA Q s v w) M' ∧ fr (fun c j => c = 162 ∨ (c = 158 ∧ j = 7)) M M')) ∨
    ∃ e, e < 1000 ∧ (∀ M, CT T M → Leaf M 10 Q → fX6_readTie_30 (zN p) (zN s) M = some (-zN 1 - zN e, M)) ∧
      (∀ M, MNow M P → TR T p M → RR Q M → ∃ M', fX7_readTie_27 (zN i) (zN s) M = some M' ∧ M'.1 158 8 = zN e ∧ fr (fun c j => c = 162 ∨ (c = 158 ∧ (j = 7 ∨ j = 8))) M M') := by
  obtain ⟨lo, gQ, hz⟩ := h
  have cs : Q (5 + s) = P (5 + s) := lo _ (by omega)
  have c5 : Q 5 = P 5 := lo _ (by omega)
  have s3 : s < 3 := by omega
  have sm : ¬ zN s = -1 := by show ¬ zN s = -zN 1; rw [zm_eqF (by omega)]; exact id
  have p1 : zN p + 1 = zN (p + 1) := zN_add p 1
  have p3 : zN (p + 3) - 1 = zN (p + 2) := by show zN (p + 3) - zN 1 = _; rw [zN_sub (by omega), show p + 3 - 1 = p + 2 by omega]
  have p5 : zN (p + 5) - 1 = zN (p + 4) := by show zN (p + 5) - zN 1 = _; rw [zN_sub (by omega), show p + 5 - 1 = p + 4 by omega]
  have l6 : ∀ M, Leaf M 10 Q → M.1 10 6 = zN i := fun M hL => by rw [← hi]; exact hL.1.2.2.2.2.2.2
  have tr0 : ∀ M, TR T p M → TR T (p + 1) (wr M 158 7 (zN (p + 1))) := fun M hM => TR_to hM (wr_cj _ _ _ _) (fun c j a => wr_nj (by omega))
  rcases num_case T (p + 1) 2 with hd | ⟨e, he, hd, hne⟩
  · have v100 := nv2 hd
    obtain ⟨v, hv⟩ : ∃ v, v = nv T (p + 1) 2 := ⟨_, rfl⟩
    rw [← hv] at v100
    have n1 : ∀ M, CT T M → fX5_numberAt (zN (p + 1)) (zN 2) M = some (zN v, M) := fun M hM => by rw [hv]; exact numT hT hM (by omega) (by omega) hd
    have d1 : ∀ M, TR T p M → ∃ M', fX7_digits 2 (wr M 158 7 (zN (p + 1))) = some (zN v, M') ∧ TR T (p + 3) M' ∧ fr (fun c j => c = 158 ∧ j = 7) M M' := by
      intro M hM
      obtain ⟨M', a, b, c⟩ := digT hT hb (tr0 M hM) (by omega) (k := 2) (by omega) hd
      exact ⟨M', by rw [hv]; exact a, b, fr_trans (fr_wr (fr_refl _ _) ⟨rfl, rfl⟩) c⟩
    have MNf : ∀ {M M' : zMM}, MNow M P → fr (fun c j => c = 158 ∧ j = 7) M M' → MNow M' P := fun hM f j hj => by rw [f.1 _ _ (by omega)]; exact hM j hj
    have RRf : ∀ {M M' : zMM}, RR Q M → fr (fun c j => c = 158 ∧ j = 7) M M' → RR Q M' := fun hM f j hj => by rw [f.1 _ _ (by omega)]; exact hM j hj
    have bad : ∀ M M1, TR T (p + 3) M1 → fr (fun c j => c = 158 ∧ j = 7) M M1 → ∃ M', fX7_readTie_84 (zN i) (zN s) (zN v) M1 = some M' ∧ M'.1 158 8 = zN (p + 2) ∧ fr (fun c j => c = 162 ∨ (c = 158 ∧ (j = 7 ∨ j = 8))) M M' := by
      intro M M1 t1 f1
      have e8 : (wr M1 158 8 (zN (p + 2))).1 158 8 = zN (p + 2) := wr_cj _ _ _ _
      obtain ⟨M2, a, b, c⟩ := rt94X hn e8 (by omega) (zN s) (zN v)
      refine ⟨M2, ?_, b, fr_trans (fr_mono f1 (fun c j a => by omega)) (fr_trans (fr_wr (fr_refl _ _) (by omega)) (fr_mono c (fun c j a => by omega)))⟩
      unfold fX7_readTie_84
      rw [t1.2.1, p3, faultT t1.2.2.1, Option.bind_some]; exact a
    have hw1 : ∀ M, Leaf M 10 Q → fX0_hasWord 10 (zN s) (zN v) M = some (zN (if v < Q (5 + s) then 1 else 0), M) := fun M hL => hasWord0 gQ hL s3 (by omega)
    have iw1 : ∀ M, MNow M P → fX7_isWord (zN s) (zN v) M = some (zN (if v < Q (5 + s) then 1 else 0), M) := fun M hM => by rw [cs]; exact isWord7 hP hM s3 (by omega)
    by_cases wd : v < Q (5 + s)
    · simp only [wd, if_true] at hw1 iw1
      by_cases td : tdB Q s v = true
      · right
        refine ⟨p + 2, by omega, fun M hM hL => ?_, fun M hM ht hr => ?_⟩
        · have a := isTied0 gQ hL s3 (k := v) (by omega)
          rw [if_pos td] at a
          have a1 := n1 M hM; have a2 := hw1 M hL; have a3 := l6 M hL
          exact t6c hn s3 (by omega) a3 a1 a2 a
        · obtain ⟨M1, e1, t1, f1⟩ := d1 M ht
          have a := wasTied7 gQ (RRf hr f1) hs (k := v) (by omega)
          rw [if_pos td, hi] at a
          obtain ⟨M2, e2, k2, f2⟩ := bad M M1 t1 f1
          refine ⟨M2, ?_, k2, f2⟩
          unfold fX7_readTie_27
          rw [if_neg sm, ht.2.1, p1, e1, Option.bind_some, fineT t1.2.2.1, Option.bind_some, if_neg nz10', iw1 _ (MNf hM f1), Option.bind_some, if_neg nz10', a, Option.bind_some, if_neg nz10']
          exact e2
      · rcases num_case T (p + 3) 2 with hd2 | ⟨e, he, hd2, hne⟩
        · have w100 := nv2 hd2
          obtain ⟨w, hw⟩ : ∃ w, w = nv T (p + 3) 2 := ⟨_, rfl⟩
          rw [← hw] at w100
          have pl := (hd2 1 (by omega)).1
          have n2 : ∀ M, CT T M → fX5_numberAt (zN (p + 3)) (zN 2) M = some (zN w, M) := fun M hM => by rw [hw]; exact numT hT hM (by omega) (by omega) hd2
          have d2 : ∀ M, TR T (p + 3) M → ∃ M', fX7_digits 2 M = some (zN w, M') ∧ TR T (p + 5) M' ∧ fr (fun c j => c = 158 ∧ j = 7) M M' := by
            intro M hM
            obtain ⟨M', a, b, c⟩ := digT hT hb hM (by omega) (k := 2) (by omega) hd2
            exact ⟨M', by rw [hw]; exact a, b, c⟩
          have hw2 : ∀ M, Leaf M 10 Q → fX0_hasWord 10 (zN 0) (zN w) M = some (zN (if w < Q 5 then 1 else 0), M) := fun M hL => hasWord0 gQ hL (t := 0) (by omega) (by omega)
          have iw2 : ∀ M, MNow M P → fX7_isWord (zN 0) (zN w) M = some (zN (if w < Q 5 then 1 else 0), M) := fun M hM => by rw [c5]; exact isWord7 hP hM (t := 0) (by omega) (by omega)
          have head7 : ∀ M, MNow M P → TR T p M → RR Q M → ∃ M2, fX7_readTie_27 (zN i) (zN s) M = (if ((zN (if w < Q 5 then 1 else 0), M2) : Int32 × zMM).1 = 0 then (fX7_fault ((M2.1 158 7) - 1) M2).bind fun q6 => fX7_readTie_128 (zN i) (zN s) (zN v) (zN w) q6 else fX7_readTie_128 (zN i) (zN s) (zN v) (zN w) M2) ∧ TR T (p + 5) M2 ∧ fr (fun c j => c = 158 ∧ j = 7) M M2 := by
            intro M hM ht hr
            obtain ⟨M1, e1, t1, f1⟩ := d1 M ht
            have a := wasTied7 gQ (RRf hr f1) hs (k := v) (by omega)
            rw [if_neg td, hi] at a
            obtain ⟨M2, e2, t2, f2⟩ := d2 M1 t1
            refine ⟨M2, ?_, t2, fr_trans f1 f2⟩
            have iw := iw2 M2 (MNf (MNf hM f1) f2)
            unfold fX7_readTie_27
            rw [if_neg sm, ht.2.1, p1, e1, Option.bind_some, fineT t1.2.2.1, Option.bind_some, if_neg nz10', iw1 _ (MNf hM f1), Option.bind_some, if_neg nz10', a, Option.bind_some, if_pos z00]
            unfold fX7_readTie_94
            rw [e2, Option.bind_some, fineT t2.2.2.1, Option.bind_some, if_neg nz10']
            have iw' : fX7_isWord 0 (zN w) M2 = some (zN (if w < Q 5 then 1 else 0), M2) := iw
            rw [iw', Option.bind_some]
          by_cases wd2 : w < Q 5
          · rw [if_pos wd2] at head7; simp only [wd2, if_true] at hw2
            left
            refine ⟨v, w, wd, wd2, by omega, fun M hM hL => ?_, fun M hM ht hr => ?_⟩
            · have a := isTied0 gQ hL s3 (k := v) (by omega)
              rw [if_neg td] at a
              have a1 := n1 M hM; have a2 := hw1 M hL; have a3 := l6 M hL; have a4 := n2 M hM; have a5 := hw2 M hL
              obtain ⟨M', e1, l1, f1⟩ := addTie0 (s := s) (v := v) (w := w) (fun u hu => (gQ.2.1 u hu).1) hL (by omega)
              refine ⟨M', ?_, l1, fr_mono f1 (fun c j a => by omega)⟩
              exact t6f hn s3 (by omega) (by omega) a3 a1 a2 a a4 a5 e1
            · obtain ⟨M2, e2, t2, f2⟩ := head7 M hM ht hr
              refine ⟨wr (wr (wr M2 162 (3 * i) (zN s)) 162 (3 * i + 1) (zN v)) 162 (3 * i + 2) (zN w), by rw [e2, if_neg nz10']; exact rt128 hn _ _ _ _, TR_to t2 (by rw [wr_nj (by omega), wr_nj (by omega), wr_nj (by omega)]; exact t2.2.1) (fun c j a => by rw [wr_nj (by omega), wr_nj (by omega), wr_nj (by omega)]), ?_, fr_wr (fr_wr (fr_wr (fr_mono f2 (fun c j a => by omega)) (by omega)) (by omega)) (by omega)⟩
              intro j hj
              rw [tiA_n] at hj
              by_cases j2 : j = 3 * i + 2
              · rw [j2, wr_cj, show 219 + (3 * i + 2) = 221 + 3 * Q 218 by omega, tiA_2]
              · rw [wr_nj (by omega)]
                by_cases j1 : j = 3 * i + 1
                · rw [j1, wr_cj, show 219 + (3 * i + 1) = 220 + 3 * Q 218 by omega, tiA_1]
                · rw [wr_nj (by omega)]
                  by_cases j0 : j = 3 * i
                  · rw [j0, wr_cj, show 219 + 3 * i = 219 + 3 * Q 218 by omega, tiA_0]
                  · rw [wr_nj (by omega), tiA_old Q (by omega)]
                    exact RRf hr f2 j (by omega)
          · rw [if_neg wd2] at head7; simp only [wd2, if_false] at hw2
            right
            refine ⟨p + 4, by omega, fun M hM hL => ?_, fun M hM ht hr => ?_⟩
            · have a := isTied0 gQ hL s3 (k := v) (by omega)
              rw [if_neg td] at a
              have a1 := n1 M hM; have a2 := hw1 M hL; have a3 := l6 M hL; have a4 := n2 M hM; have a5 := hw2 M hL
              exact t6e hn s3 (by omega) (by omega) a3 a1 a2 a a4 a5
            · obtain ⟨M2, e2, t2, f2⟩ := head7 M hM ht hr
              refine ⟨wr (wr (wr (wr M2 158 8 (zN (p + 4))) 162 (3 * i) (zN s)) 162 (3 * i + 1) (zN v)) 162 (3 * i + 2) (zN w), by rw [e2, if_pos z00, t2.2.1, p5, faultT t2.2.2.1, Option.bind_some]; exact rt128 hn _ _ _ _, by rw [wr_nj (by omega), wr_nj (by omega), wr_nj (by omega), wr_cj], fr_wr (fr_wr (fr_wr (fr_wr (fr_mono f2 (fun c j a => by omega)) (by omega)) (by omega)) (by omega)) (by omega)⟩
        · right
          refine ⟨p + 3 + e, by omega, fun M hM hL => ?_, fun M hM ht hr => ?_⟩
          · have a := isTied0 gQ hL s3 (k := v) (by omega)
            rw [if_neg td] at a
            have a1 := n1 M hM; have a2 := hw1 M hL; have a3 := l6 M hL
            have a4 := numF hT hb hM (p := p + 3) (k := 2) (by omega) (by omega) he hd2 hne
            exact t6d hn s3 (by omega) (by omega) a3 a1 a2 a a4
          · obtain ⟨M1, e1, t1, f1⟩ := d1 M ht
            have a := wasTied7 gQ (RRf hr f1) hs (k := v) (by omega)
            rw [if_neg td, hi] at a
            obtain ⟨v', M2, e2, k2, f2⟩ := digF hT hb t1 (by omega) (k := 2) (by omega) he hd2 hne
            have e2' : fX7_digits 2 M1 = some (v', M2) := e2
            refine ⟨wr (wr (wr M2 162 (3 * i) (zN s)) 162 (3 * i + 1) (zN v)) 162 (3 * i + 2) v', ?_, ?_, ?_⟩
            · unfold fX7_readTie_27
              rw [if_neg sm, ht.2.1, p1, e1, Option.bind_some, fineT t1.2.2.1, Option.bind_some, if_neg nz10', iw1 _ (MNf hM f1), Option.bind_some, if_neg nz10', a, Option.bind_some, if_pos z00]
              unfold fX7_readTie_94
              rw [e2', Option.bind_some, fineF k2 (by omega), Option.bind_some, if_pos z00]; exact rt128 hn _ _ _ _
            · rw [wr_nj (by omega), wr_nj (by omega), wr_nj (by omega)]; exact k2
            · exact fr_wr (fr_wr (fr_wr (fr_trans (fr_mono f1 (fun c j a => by omega)) (fr_mono f2 (fun c j a => by omega))) (by omega)) (by omega)) (by omega)
    · simp only [wd, if_false] at hw1 iw1
      right
      refine ⟨p + 2, by omega, fun M hM hL => ?_, fun M hM ht hr => ?_⟩
      · have a1 := n1 M hM; have a2 := hw1 M hL; have a3 := l6 M hL
        exact t6b hn s3 (by omega) a3 a1 a2
      · obtain ⟨M1, e1, t1, f1⟩ := d1 M ht
        obtain ⟨M2, e2, k2, f2⟩ := bad M M1 t1 f1
        refine ⟨M2, ?_, k2, f2⟩
        unfold fX7_readTie_27
        rw [if_neg sm, ht.2.1, p1, e1, Option.bind_some, fineT t1.2.2.1, Option.bind_some, if_neg nz10', iw1 _ (MNf hM f1), Option.bind_some, if_pos z00]
        exact e2
  · right
    refine ⟨p + 1 + e, by omega, fun M hM hL => ?_, fun M hM ht hr => ?_⟩
    · have a3 := l6 M hL
      have a4 := numF hT hb hM (p := p + 1) (k := 2) (by omega) (by omega) he hd hne
      exact t6a hn s3 (by omega) a3 a4
    · obtain ⟨v', M1, e1, k1, f1⟩ := digF hT hb (tr0 M ht) (by omega) (k := 2) (by omega) he hd hne
      have e1' : fX7_digits 2 (wr M 158 7 (zN (p + 1))) = some (v', M1) := e1
      obtain ⟨M2, a, b, c⟩ := rt94X hn k1 (by omega) (zN s) v'
      refine ⟨M2, ?_, b, fr_trans (fr_trans (fr_wr (fr_refl _ _) (by omega)) (fr_mono f1 (fun c j a => by omega))) (fr_mono c (fun c j a => by omega))⟩
      unfold fX7_readTie_27
      rw [if_neg sm, ht.2.1, p1, e1', Option.bind_some, fineF k1 (by omega), Option.bind_some, if_pos z00]
      exact a
