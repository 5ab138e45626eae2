/-! a day, both sides -/
theorem d113 {Q : Nat → Nat} (gQ : Good Q) {k fl : Nat} (hfl : fl = 0 ∨ fl = 1) {M : zMM} (hL : Leaf M 0 Q) : ∃ M', fX6_day_113 (zN k) (zN fl) M = some (zN k, M') ∧ CR [if fl = 0 then 0 else 1, (zN (cst Q)).toInt64] M' ∧ Leaf M' 0 Q ∧ cq M M' := by
  obtain ⟨M1, e1, s1, l1, f1⟩ := cset0 gQ (b := 0) (by omega) hL
  have c := costOf4 gQ l1 s1
  obtain ⟨M2, e2, r2, y2⟩ := tell2 (if fl = 0 then 0 else 1) (zN (cst Q)).toInt64 M1
  refine ⟨M2, ?_, r2, Leaf_Y l1 (by omega) y2, cq_trans (cq_set f1) (cq_Y y2)⟩
  have d : ∀ s, fX6_day_137 (zN k) s M1 = (fX2_tell_ s (zN (cst Q)).toInt64 M1).bind fun q2 => some (zN k, q2) := by
    intro s; unfold fX6_day_137; rw [c, Option.bind_some]
  unfold fX6_day_113
  rw [e1, Option.bind_some]
  rcases hfl with rfl | rfl
  · rw [if_pos (show zN 0 = 0 from rfl), d]; rw [if_pos rfl] at e2; rw [e2]; rfl
  · rw [if_neg (show ¬ zN 1 = 0 by decide), d]; rw [if_neg (by omega)] at e2; rw [e2]; rfl
theorem d107 {Q : Nat → Nat} (gQ : Good Q) {k : Nat} (s : Int64) {M : zMM} (hM : MNow M Q) : ∃ M', fX7_day_107 (zN k) s (wr M 158 4 (zN 0)) = some (zN k, M') ∧ MR [s, (zN (cst Q)).toInt64] M' ∧ MNow M' Q ∧ mq M M' := by
  have r0 := MR_nil M
  have n0 := MNow_w (j := 4) (v := zN 0) hM
  obtain ⟨M1, e1, r1, f1⟩ := tell7 r0 (by simp) s
  have n1 := MNow_X n0 f1
  obtain ⟨M2, e2, s2, f2⟩ := costNow7 gQ n1
  have r2 := MR_fr r1 (f2.1 _ _ (by unfold MS; omega)) (fun j => by rw [f2.2])
  have n2 : MNow M2 Q := fun j hj => by rw [f2.1 _ _ (by unfold MS; omega)]; exact n1 j hj
  obtain ⟨M3, e3, r3, f3⟩ := tell7 r2 (by simp) (zN (cst Q)).toInt64
  refine ⟨M3, ?_, MR2 r3, MNow_X n2 f3, mq_trans (mq_w (j := 4) (v := zN 0) (by omega)) (mq_trans (mq_X f1) (mq_trans (mq_MS f2) (mq_X f3)))⟩
  unfold fX7_day_107
  rw [e1, Option.bind_some, e2, Option.bind_some, e3]; rfl
theorem d91 {Q : Nat → Nat} (gQ : Good Q) {n k fl : Nat} (hk : k ≤ n) (hn : n ≤ 80) (hfl : fl = if k < n then 1 else 0) {M : zMM} (hM : MNow M Q) : ∃ M', fX7_day_91 (zN n) (zN k) M = some (zN k, M') ∧ MR [if fl = 0 then 0 else 1, (zN (cst Q)).toInt64] M' ∧ MNow M' Q ∧ mq M M' := by
  obtain ⟨M', a, b, c, d⟩ := d107 gQ (k := k) (if fl = 0 then 0 else 1) hM
  refine ⟨M', ?_, b, c, d⟩
  rw [← a]
  unfold fX7_day_91
  by_cases q : k < n
  · rw [if_pos q] at hfl
    rw [if_neg (show ¬ zN n ≤ zN k by rw [zN_leF (by omega)]; exact id), if_neg (by omega)]; rfl
  · rw [if_neg q] at hfl
    rw [if_pos (show zN n ≤ zN k by rw [zN_leT (by omega)]; trivial), if_pos hfl]; rfl
theorem day_c {P Q : Nat → Nat} {T : List Nat} {R : List Int64} {U : List (Nat → Nat)} {K : Nat → Option (Nat → Nat)} (hw : WF P T R U K) (gQ : Good Q) {k fl : Nat} (hk : k ≤ 80) (hfl : fl = 0 ∨ fl = 1)
    (h6 : ∀ M fuel, T.length < fuel → CT T M → fX6_faultOfDay_2 fuel (zN 0) M = some (zN 0, M))
    (a6 : ∀ M fuel, 81 < fuel → CT T M → Leaf M 0 P → ∃ M', fX6_day_36 fuel (zN 0) (zN 0) (zN 0) M = fX6_day_95 (zN k) (zN fl) M' ∧ Leaf M' 0 Q ∧ fr (fun c _ => CW c) M M') :
    CD fX6_day P T R U K (zN k) Q [] [if fl = 0 then 0 else 1, (zN (cst Q)).toInt64] (if k = 0 then U else (P :: U).take 7) K := by
  have hU := hw.2.2.2.1.1
  have hT := hw.2.1.1
  rintro M ⟨h1, h2, h3, ⟨q, h4⟩, h5⟩
  have hq := h4.1
  obtain ⟨M1, e1, l1, f1⟩ := mark1 hw.1 h1 h4
  have h1' : Leaf M1 0 P := Leaf_eq h1 (fun c j a b => f1.1 c j (by omega))
  obtain ⟨M2, e2, l2, f2⟩ := a6 M1 zFU (by rw [zFU_eq]; omega) (CT_fr h2 (fun c j a => f1.1 c j (by omega))) h1'
  have ft : ∀ c j, ¬ (40 + 10 * q ≤ c ∧ c < 50 + 10 * q) → ¬ CW c → c ≠ 153 → (wr M2 153 1 (zN 0)).1 c j = M.1 c j := fun c j a b d => by rw [wr_nj (by omega), f2.1 c j b, f1.1 c j a]
  unfold CW at ft
  have l3 : Leaf (wr M2 153 1 (zN 0)) 0 Q := Leaf_eq l2 (fun c j a b => wr_nj (by omega))
  have lm : Leaf (wr M2 153 1 (zN 0)) (40 + 10 * q) P := Leaf_eq l1 (fun c j a b => by rw [wr_nj (by omega)]; exact f2.1 c j (by unfold CW; omega))
  have cu : CU q U (wr M2 153 1 (zN 0)) := CU_fr h4 (fun c j a => ft c j (by omega) (by omega) (by omega)) hU
  have ci : CI Q [] R U K (wr M2 153 1 (zN 0)) := ⟨l3, ⟨wr_cj _ _ _ _, fun i hi => absurd hi (by simp)⟩, CR_fr h3 (fun j => ft _ _ (by omega) (by omega) (by omega)) (fun j => by rw [wr_2, f2.2, f1.2]), ⟨q, cu⟩, CKp_fr h5 (fun c j a => ft c j (by omega) (by omega) (by omega))⟩
  have fC : frC M (wr M2 153 1 (zN 0)) := frC_trans (frC_trans (frC_fr f1 (fun c j a => by omega)) (frC_fr f2 (fun c j a => by unfold CW at a; omega))) (frC_fr (fr_wr (S := fun c j => c = 153) (fr_refl _ _) rfl) (fun c j a => by omega))
  have e0 : fX6_faultOfDay M = some (zN 0, M) := h6 M zFU (by rw [zFU_eq]; omega) h2
  have e2' : fX6_day_36 zFU 0 0 0 M1 = fX6_day_95 (zN k) (zN fl) M2 := e2
  have ed : fX6_day M = if zN k ≤ 0 then fX6_day_113 (zN k) (zN fl) (wr M2 153 1 (zN 0)) else (fX1_remember (wr M2 153 1 (zN 0))).bind fun q3 => fX6_day_113 (zN k) (zN fl) q3 := by
    unfold fX6_day
    rw [e0, Option.bind_some, if_pos (ge0 (by omega)), e1, Option.bind_some, e2']
    rfl
  by_cases k0 : k = 0
  · rw [if_pos k0]
    obtain ⟨M4, e4, r4, l4, c4⟩ := d113 (k := k) gQ hfl l3
    obtain ⟨a, b⟩ := CI_q ci hU c4 l4 r4
    refine ⟨M4, ?_, a, frC_trans fC b⟩
    rw [ed, if_pos (show zN k ≤ 0 by rw [k0]; decide), e4]
  · rw [if_neg k0]
    obtain ⟨M3, e3, cu3, f3⟩ := remember1 hU lm cu
    have ci3 : CI Q [] R ((P :: U).take 7) K M3 := ⟨Leaf_eq l3 (fun c j a b => f3.1 c j (by omega)), CT_fr ci.2.1 (fun c j a => f3.1 c j (by omega)), CR_fr ci.2.2.1 (fun j => f3.1 _ _ (by omega)) (fun j => by rw [f3.2]), cu3, CKp_fr ci.2.2.2.2 (fun c j a => f3.1 c j (by omega))⟩
    obtain ⟨M4, e4, r4, l4, c4⟩ := d113 (k := k) gQ hfl ci3.1
    obtain ⟨a, b⟩ := CI_q ci3 (by rw [List.length_take]; omega) c4 l4 r4
    refine ⟨M4, ?_, a, frC_trans fC (frC_trans (frC_fr f3 (fun c j a => by omega)) b)⟩
    rw [ed, if_neg (show ¬ zN k ≤ 0 by show ¬ zN k ≤ zN 0; rw [zN_leF (by omega)]; exact id), e3, Option.bind_some, e4]
theorem day_m {P Q : Nat → Nat} {T : List Nat} {R : List Int64} {U : List (Nat → Nat)} {K : Nat → Option (Nat → Nat)} (hw : WF P T R U K) (gQ : Good Q) {n k fl : Nat} (hk : k ≤ n) (hn : n ≤ 80) (hfl : fl = if k < n then 1 else 0) {A : zMM → Prop} (hA : ∀ M M', A M → (∀ j, M'.1 162 j = M.1 162 j) → A M')
    (h7 : ∀ M fuel, T.length + 2 < fuel → TR T 0 M → ∃ M', fX7_day_11 fuel (zN 0) M = fX7_day_42 (zN n) M' ∧ TR T T.length M' ∧ A M' ∧ fr BF M M')
    (a7 : ∀ M fuel, n < fuel → MNow M P → A M → ∃ M', fX7_day_62 fuel (zN n) (zN 0) M = fX7_day_83 (zN n) (zN k) M' ∧ MNow M' Q ∧ fr AF M M') :
    MD fX7_day P T R U K (zN k) Q [] [if fl = 0 then 0 else 1, (zN (cst Q)).toInt64] (if k = 0 then U else (P :: U).take 7) K := by
  have hU := hw.2.2.2.1.1
  have hT := hw.2.1.1
  intro M hM
  obtain ⟨M1, e1, i1, t1, f1⟩ := begin7 hM
  obtain ⟨M2, e2, t2, A2, f2⟩ := h7 M1 zFU (by rw [zFU_eq]; omega) t1
  have i2 : MI P [] R U K M2 := MI_sc i1 f2 (fun c j a => by unfold BF at a; unfold MSc; omega)
  obtain ⟨M3, e3, c3, f3⟩ := lay7 M2
  have i3 : MI P [] R U K M3 := MI_sc i2 f3 (fun c j a => by unfold MSc; omega)
  obtain ⟨M4, e4, n4, f4⟩ := a7 M3 zFU (by rw [zFU_eq]; omega) i3.1 (hA M2 M3 A2 (fun j => f3.1 _ _ (by omega)))
  obtain ⟨i4, g4⟩ := MI_q i3 (mq_G f4) n4 (MR_G i3.2.2.1 f4)
  have w4 : ∀ j, j < 259 → M4.1 171 j = zN (P j) := fun j hj => by rw [f4.1 _ _ (by unfold AF GH GF MS; omega), c3 j hj]; exact i2.1 j hj
  have fM : frM M M4 := frM_trans f1 (frM_trans (frM_fr f2 (fun c j a => by unfold BF at a; omega)) (frM_trans (frM_fr f3 (fun c j a => by omega)) g4))
  have e4' : fX7_day_62 zFU (zN n) 0 M3 = fX7_day_83 (zN n) (zN k) M4 := e4
  have ed : fX7_day M = fX7_day_83 (zN n) (zN k) M4 := by
    unfold fX7_day
    rw [e1, Option.bind_some]
    have e2' : fX7_day_11 zFU 0 M1 = fX7_day_42 (zN n) M2 := e2
    rw [e2']
    unfold fX7_day_42
    rw [rightT hT t2, Option.bind_some, if_neg nz10', e3, Option.bind_some, e4']
  by_cases k0 : k = 0
  · rw [if_pos k0]
    obtain ⟨M5, e5, r5, n5, q5⟩ := d91 gQ hk hn hfl n4
    obtain ⟨a, b⟩ := MI_q i4 q5 n5 r5
    refine ⟨M5, ?_, a, frM_trans fM b⟩
    rw [ed]
    unfold fX7_day_83
    rw [if_pos (show zN k ≤ 0 by rw [k0]; decide), e5]
  · rw [if_neg k0]
    obtain ⟨M5, e5, u5, f5⟩ := note7 (Q := P) hU w4 i4.2.2.2.1
    have i5 : MI Q [] R ((P :: U).take 7) K M5 := ⟨fun j hj => by rw [f5.1 _ _ (by omega)]; exact n4 j hj, MT_fr i4.2.1 (f5.1 _ _ (by omega)) (fun j => f5.1 _ _ (by omega)), MR_fr i4.2.2.1 (f5.1 _ _ (by omega)) (fun j => by rw [f5.2]), u5, MKp_fr i4.2.2.2.2 (fun c j a => f5.1 c j (by omega))⟩
    obtain ⟨M6, e6, r6, n6, q6⟩ := d91 gQ hk hn hfl i5.1
    obtain ⟨a, b⟩ := MI_q i5 q6 n6 r6
    refine ⟨M6, ?_, a, frM_trans fM (frM_trans (frM_fr f5 (fun c j a => by omega)) b)⟩
    rw [ed]
    unfold fX7_day_83
    rw [if_neg (show ¬ zN k ≤ 0 by show ¬ zN k ≤ zN 0; rw [zN_leF (by omega)]; exact id), e5, Option.bind_some, e6]
theorem call_day : Cll fX6_day fX7_day := by
  refine Cll_of (fun P T R U K hw => ?_)
  have hP := hw.1
  have hU := hw.2.2.2.1.1
  have hT := hw.2.1.1
  have hb : ∀ i, i < T.length → tt T i < 256 := hw.2.1.2
  have hwn : WF P [] R U K := ⟨hP, ⟨by simp, fun i hi => absurd hi (by simp)⟩, hw.2.2⟩
  have p0 : plT T 0 = 0 := rfl
  rcases day_chk hT hb T.length 0 (by omega) (by omega) with ⟨n, -, hn, hok, h6, h7⟩ | ⟨e, he, h6, h7⟩
  · have n80 := plT_ge T n
    obtain ⟨k, Q, -, hk, gQ, hkQ, a6, a7⟩ := day_acts hT hn n 0 P (by omega) (by omega) hP hok
    obtain ⟨fl, hfl⟩ : ∃ fl, fl = if k < n then 1 else 0 := ⟨_, rfl⟩
    have hfl' : fl = 0 ∨ fl = 1 := by rw [hfl]; split <;> omega
    refine ⟨zN k, Q, [], [if fl = 0 then 0 else 1, (zN (cst Q)).toInt64], if k = 0 then U else (P :: U).take 7, K, ?_, day_c hw gQ (by omega) hfl' (fun M fuel hf hM => h6 M fuel hf hM) (fun M fuel hf hM hL => by rw [hfl]; exact a6 M fuel (by omega) hM hL), day_m hw gQ hk (by omega) hfl (A := fun M => ∀ j, 0 ≤ j → j < n → AR T (plT T j) (4 * j) M) (fun M M' h f j a b => AR_fr (h j a b) (fun q _ _ => f q)) (fun M fuel hf ht => ?_) (fun M fuel hf hM hA => a7 M fuel hf hM hA)⟩
    · by_cases k0 : k = 0
      · rw [if_pos k0]; exact WF_R ⟨gQ, hwn.2⟩ (by simp)
      · rw [if_neg k0]; exact WF_R (WF_chg hwn gQ) (by simp)
    · obtain ⟨M', a, b, c, d, f⟩ := h7 M fuel hf ht
      exact ⟨M', a, b, d, f⟩
  · refine ⟨-zN 1 - zN e, P, [], R, U, K, hwn, fun M hM => ?_, fun M hM => ?_⟩
    · have e0 : fX6_faultOfDay M = some (-zN 1 - zN e, M) := h6 M zFU (by rw [zFU_eq]; omega) hM.2.1
      have f : fr (fun c j => c = 153) M (wr M 153 1 (zN 0)) := fr_wr (fr_refl _ _) rfl
      obtain ⟨h1, h2, h3, ⟨q, h4⟩, h5⟩ := hM
      refine ⟨wr M 153 1 (zN 0), ?_, ⟨Leaf_eq h1 (fun c j a b => f.1 c j (by omega)), ⟨wr_cj _ _ _ _, fun i hi => absurd hi (by simp)⟩, CR_fr h3 (fun j => f.1 _ _ (by omega)) (fun j => by rw [f.2]), ⟨q, CU_fr h4 (fun c j a => f.1 c j (by omega)) hU⟩, CKp_fr h5 (fun c j a => f.1 c j (by omega))⟩, frC_fr f (fun c j a => by omega)⟩
      unfold fX6_day
      rw [e0, Option.bind_some, if_neg (ge0F he)]
      rfl
    · obtain ⟨M1, e1, i1, t1, f1⟩ := begin7 hM
      obtain ⟨M2, l, e2, k2, f2⟩ := h7 M1 zFU (by rw [zFU_eq]; omega) t1
      have i2 : MI P [] R U K M2 := MI_sc i1 f2 (fun c j a => by unfold BF at a; unfold MSc; omega)
      refine ⟨M2, ?_, i2, frM_trans f1 (frM_fr f2 (fun c j a => by unfold BF at a; omega))⟩
      unfold fX7_day
      rw [e1, Option.bind_some]
      have e2' : fX7_day_11 zFU 0 M1 = fX7_day_42 l M2 := e2
      rw [e2']
      unfold fX7_day_42
      rw [rightF k2 he, Option.bind_some, if_pos z00]
      dsimp only
      rw [k2]; rfl
