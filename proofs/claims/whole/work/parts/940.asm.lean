/-! THE LAW'S LOOP, PURE -/
theorem lg_self (x : Int64) : lg_cmp x x = 0 := by unfold lg_cmp; simp
theorem oobl {l j Ln : Nat} (h : l + j < Ln) (hL : Ln ≤ 3584) : ¬ oob (zN l + zN j) Ln := by rw [zN_add, zN_oobF (by omega)]; exact id
section
variable {Ln : Nat} {xs : Nat → Int32} {K : Int32 → zMM → Option Unit} {l : Nat} {M : zMM}
theorem sc_0 (hl : l + 7 ≤ Ln) (hL : Ln ≤ 3584) (hI : Inv M) (hK : ∀ M', Inv M' → K (zN l + 7) M' = some ()) : fL_c0 Ln xs K (zN l) M = some () := by
  have o1 : ¬ oob (zN l + 1) Ln := oobl (j := 1) (by omega) hL
  obtain ⟨r, M1, M2, e1, e2, i2⟩ := call_sign (xs (Int32.toNatClampNeg (zN l + 1))) M hI
  unfold fL_c0
  rw [if_neg o1, e1, Option.bind_some, e2, Option.bind_some, if_pos (show ((r, M1) : Int32 × zMM).1 = ((r, M2) : Int32 × zMM).1 from rfl)]
  exact hK M2 i2
theorem sc_1 (hl : l + 7 ≤ Ln) (hL : Ln ≤ 3584) (hI : Inv M) (hK : ∀ M', Inv M' → K (zN l + 7) M' = some ()) : fL_c1 Ln xs K (zN l) M = some () := by
  have o1 : ¬ oob (zN l + 1) Ln := oobl (j := 1) (by omega) hL
  obtain ⟨r, M1, M2, e1, e2, i2⟩ := call_end (xs (Int32.toNatClampNeg (zN l + 1))) M hI
  unfold fL_c1
  rw [if_neg o1, e1, Option.bind_some, e2, Option.bind_some, if_pos (show ((r, M1) : Int32 × zMM).1 = ((r, M2) : Int32 × zMM).1 from rfl)]
  exact hK M2 i2
theorem sc_2 (hl : l + 7 ≤ Ln) (hL : Ln ≤ 3584) (hI : Inv M) (hK : ∀ M', Inv M' → K (zN l + 7) M' = some ()) : fL_c2 Ln xs K (zN l) M = some () := by
  have o1 : ¬ oob (zN l + 1) Ln := oobl (j := 1) (by omega) hL
  obtain ⟨r, M1, M2, e1, e2, i2⟩ := call_words (xs (Int32.toNatClampNeg (zN l + 1))) M hI
  unfold fL_c2
  rw [if_neg o1, e1, Option.bind_some, e2, Option.bind_some, if_pos (show ((r, M1) : Int32 × zMM).1 = ((r, M2) : Int32 × zMM).1 from rfl)]
  exact hK M2 i2
theorem sc_3 (hl : l + 7 ≤ Ln) (hL : Ln ≤ 3584) (hI : Inv M) (hK : ∀ M', Inv M' → K (zN l + 7) M' = some ()) : fL_c3 Ln xs K (zN l) M = some () := by
  obtain ⟨r, M1, M2, e1, e2, i2⟩ := call_ties M hI
  unfold fL_c3
  rw [e1, Option.bind_some, e2, Option.bind_some, if_pos (show ((r, M1) : Int32 × zMM).1 = ((r, M2) : Int32 × zMM).1 from rfl)]
  exact hK M2 i2
theorem sc_4 (hl : l + 7 ≤ Ln) (hL : Ln ≤ 3584) (hI : Inv M) (hK : ∀ M', Inv M' → K (zN l + 7) M' = some ()) : fL_c4 Ln xs K (zN l) M = some () := by
  have o1 : ¬ oob (zN l + 1) Ln := oobl (j := 1) (by omega) hL
  have o2 : ¬ oob (zN l + 2) Ln := oobl (j := 2) (by omega) hL
  have o3 : ¬ oob (zN l + 3) Ln := oobl (j := 3) (by omega) hL
  have o4 : ¬ oob (zN l + 4) Ln := oobl (j := 4) (by omega) hL
  have o5 : ¬ oob (zN l + 5) Ln := oobl (j := 5) (by omega) hL
  have o6 : ¬ oob (zN l + 6) Ln := oobl (j := 6) (by omega) hL
  obtain ⟨r, M1, M2, e1, e2, i2⟩ := call_sheet (xs (Int32.toNatClampNeg (zN l + 1))) (xs (Int32.toNatClampNeg (zN l + 2))) (xs (Int32.toNatClampNeg (zN l + 3))) (xs (Int32.toNatClampNeg (zN l + 4))) (xs (Int32.toNatClampNeg (zN l + 5))) (xs (Int32.toNatClampNeg (zN l + 6))) M hI
  unfold fL_c4
  rw [if_neg o1, if_neg o2, if_neg o3, if_neg o4, if_neg o5, if_neg o6, e1, Option.bind_some, e2, Option.bind_some, if_pos (show ((r, M1) : Int32 × zMM).1 = ((r, M2) : Int32 × zMM).1 from rfl)]
  exact hK M2 i2
theorem sc_5 (hl : l + 7 ≤ Ln) (hL : Ln ≤ 3584) (hI : Inv M) (hK : ∀ M', Inv M' → K (zN l + 7) M' = some ()) : fL_c5 Ln xs K (zN l) M = some () := by
  obtain ⟨r, M1, M2, e1, e2, i2⟩ := call_pages M hI
  unfold fL_c5
  rw [e1, Option.bind_some, e2, Option.bind_some, if_pos (show ((r, M1) : Int32 × zMM).1 = ((r, M2) : Int32 × zMM).1 from rfl)]
  exact hK M2 i2
theorem sc_6 (hl : l + 7 ≤ Ln) (hL : Ln ≤ 3584) (hI : Inv M) (hK : ∀ M', Inv M' → K (zN l + 7) M' = some ()) : fL_c6 Ln xs K (zN l) M = some () := by
  have o1 : ¬ oob (zN l + 1) Ln := oobl (j := 1) (by omega) hL
  have o2 : ¬ oob (zN l + 2) Ln := oobl (j := 2) (by omega) hL
  have o3 : ¬ oob (zN l + 3) Ln := oobl (j := 3) (by omega) hL
  obtain ⟨r, M1, M2, e1, e2, i2⟩ := call_part (xs (Int32.toNatClampNeg (zN l + 1))) (xs (Int32.toNatClampNeg (zN l + 2))) (xs (Int32.toNatClampNeg (zN l + 3))) M hI
  unfold fL_c6
  rw [if_neg o1, if_neg o2, if_neg o3, e1, Option.bind_some, e2, Option.bind_some, if_pos (show ((r, M1) : Int32 × zMM).1 = ((r, M2) : Int32 × zMM).1 from rfl)]
  exact hK M2 i2
theorem sc_7 (hl : l + 7 ≤ Ln) (hL : Ln ≤ 3584) (hI : Inv M) (hK : ∀ M', Inv M' → K (zN l + 7) M' = some ()) : fL_c7 Ln xs K (zN l) M = some () := by
  have o1 : ¬ oob (zN l + 1) Ln := oobl (j := 1) (by omega) hL
  have o2 : ¬ oob (zN l + 2) Ln := oobl (j := 2) (by omega) hL
  have o3 : ¬ oob (zN l + 3) Ln := oobl (j := 3) (by omega) hL
  obtain ⟨k, M1, b, M2, e1, e2, h5, h6, i2⟩ := call_word (xs (Int32.toNatClampNeg (zN l + 1))) (xs (Int32.toNatClampNeg (zN l + 2))) (xs (Int32.toNatClampNeg (zN l + 3))) M hI
  have et : fX7_thrown M2 = some (k, M2) := by unfold fX7_thrown; rw [h5]
  unfold fL_c7
  rw [if_neg o1, if_neg o2, if_neg o3, e1, Option.bind_some, e2, Option.bind_some, et, Option.bind_some, if_pos (show ((k, M2) : Int32 × zMM).1 = ((k, M1) : Int32 × zMM).1 from rfl)]
  by_cases k0 : k = 0
  · rw [if_pos (show ((k, M1) : Int32 × zMM).1 = 0 from k0)]
    dsimp only
    rw [h6 k0, lg_self, if_pos rfl]
    exact hK M2 i2
  · rw [if_neg (show ¬ ((k, M1) : Int32 × zMM).1 = 0 from k0)]
    exact hK M2 i2
theorem sc_8 (hl : l + 7 ≤ Ln) (hL : Ln ≤ 3584) (hI : Inv M) (hK : ∀ M', Inv M' → K (zN l + 7) M' = some ()) : fL_c8 Ln xs K (zN l) M = some () := by
  have o1 : ¬ oob (zN l + 1) Ln := oobl (j := 1) (by omega) hL
  have o2 : ¬ oob (zN l + 2) Ln := oobl (j := 2) (by omega) hL
  have o3 : ¬ oob (zN l + 3) Ln := oobl (j := 3) (by omega) hL
  obtain ⟨r, M1, M2, e1, e2, i2⟩ := call_at (xs (Int32.toNatClampNeg (zN l + 1))) (xs (Int32.toNatClampNeg (zN l + 2))) (xs (Int32.toNatClampNeg (zN l + 3))) M hI
  unfold fL_c8
  rw [if_neg o1, if_neg o2, if_neg o3, e1, Option.bind_some, e2, Option.bind_some, if_pos (show ((r, M1) : Int32 × zMM).1 = ((r, M2) : Int32 × zMM).1 from rfl)]
  exact hK M2 i2
theorem sc_9 (hl : l + 7 ≤ Ln) (hL : Ln ≤ 3584) (hI : Inv M) (hK : ∀ M', Inv M' → K (zN l + 7) M' = some ()) : fL_c9 Ln xs K (zN l) M = some () := by
  have o1 : ¬ oob (zN l + 1) Ln := oobl (j := 1) (by omega) hL
  obtain ⟨r, M1, M2, e1, e2, i2⟩ := call_ends (xs (Int32.toNatClampNeg (zN l + 1))) M hI
  unfold fL_c9
  rw [if_neg o1, e1, Option.bind_some, e2, Option.bind_some, if_pos (show ((r, M1) : Int32 × zMM).1 = ((r, M2) : Int32 × zMM).1 from rfl)]
  exact hK M2 i2
theorem sc_10 (hl : l + 7 ≤ Ln) (hL : Ln ≤ 3584) (hI : Inv M) (hK : ∀ M', Inv M' → K (zN l + 7) M' = some ()) : fL_c10 Ln xs K (zN l) M = some () := by
  obtain ⟨r, M1, M2, e1, e2, i2⟩ := call_apart M hI
  unfold fL_c10
  rw [e1, Option.bind_some, e2, Option.bind_some, if_pos (show ((r, M1) : Int32 × zMM).1 = ((r, M2) : Int32 × zMM).1 from rfl)]
  exact hK M2 i2
theorem sc_11 (hl : l + 7 ≤ Ln) (hL : Ln ≤ 3584) (hI : Inv M) (hK : ∀ M', Inv M' → K (zN l + 7) M' = some ()) : fL_c11 Ln xs K (zN l) M = some () := by
  obtain ⟨r, M1, M2, e1, e2, i2⟩ := call_ragged M hI
  unfold fL_c11
  rw [e1, Option.bind_some, e2, Option.bind_some, if_pos (show ((r, M1) : Int32 × zMM).1 = ((r, M2) : Int32 × zMM).1 from rfl)]
  exact hK M2 i2
theorem sc_12 (hl : l + 7 ≤ Ln) (hL : Ln ≤ 3584) (hI : Inv M) (hK : ∀ M', Inv M' → K (zN l + 7) M' = some ()) : fL_c12 Ln xs K (zN l) M = some () := by
  obtain ⟨r, M1, M2, e1, e2, i2⟩ := call_cost M hI
  unfold fL_c12
  rw [e1, Option.bind_some, e2, Option.bind_some, if_pos (show ((r, M1) : Int32 × zMM).1 = ((r, M2) : Int32 × zMM).1 from rfl)]
  exact hK M2 i2
theorem sc_13 (hl : l + 7 ≤ Ln) (hL : Ln ≤ 3584) (hI : Inv M) (hK : ∀ M', Inv M' → K (zN l + 7) M' = some ()) : fL_c13 Ln xs K (zN l) M = some () := by
  have o1 : ¬ oob (zN l + 1) Ln := oobl (j := 1) (by omega) hL
  have o2 : ¬ oob (zN l + 2) Ln := oobl (j := 2) (by omega) hL
  obtain ⟨r, M1, M2, e1, e2, i2⟩ := call_line (xs (Int32.toNatClampNeg (zN l + 1))) (xs (Int32.toNatClampNeg (zN l + 2))) M hI
  unfold fL_c13
  rw [if_neg o1, if_neg o2, e1, Option.bind_some, e2, Option.bind_some, if_pos (show ((r, M1) : Int32 × zMM).1 = ((r, M2) : Int32 × zMM).1 from rfl)]
  exact hK M2 i2
theorem sc_14 (hl : l + 7 ≤ Ln) (hL : Ln ≤ 3584) (hI : Inv M) (hK : ∀ M', Inv M' → K (zN l + 7) M' = some ()) : fL_c14 Ln xs K (zN l) M = some () := by
  obtain ⟨r, M1, M2, e1, e2, i2⟩ := call_blank M hI
  unfold fL_c14
  rw [e1, Option.bind_some, e2, Option.bind_some, if_pos (show ((r, M1) : Int32 × zMM).1 = ((r, M2) : Int32 × zMM).1 from rfl)]
  exact hK M2 i2
theorem sc_15 (hl : l + 7 ≤ Ln) (hL : Ln ≤ 3584) (hI : Inv M) (hK : ∀ M', Inv M' → K (zN l + 7) M' = some ()) : fL_c15 Ln xs K (zN l) M = some () := by
  have o1 : ¬ oob (zN l + 1) Ln := oobl (j := 1) (by omega) hL
  obtain ⟨k, M1, b, M2, e1, e2, h5, h6, i2⟩ := call_tie (xs (Int32.toNatClampNeg (zN l + 1))) M hI
  have et : fX7_thrown M2 = some (k, M2) := by unfold fX7_thrown; rw [h5]
  unfold fL_c15
  rw [if_neg o1, e1, Option.bind_some, e2, Option.bind_some, et, Option.bind_some, if_pos (show ((k, M2) : Int32 × zMM).1 = ((k, M1) : Int32 × zMM).1 from rfl)]
  by_cases k0 : k = 0
  · rw [if_pos (show ((k, M1) : Int32 × zMM).1 = 0 from k0)]
    dsimp only
    rw [h6 k0, lg_self, if_pos rfl]
    exact hK M2 i2
  · rw [if_neg (show ¬ ((k, M1) : Int32 × zMM).1 = 0 from k0)]
    exact hK M2 i2
theorem sc_16 (hl : l + 7 ≤ Ln) (hL : Ln ≤ 3584) (hI : Inv M) (hK : ∀ M', Inv M' → K (zN l + 7) M' = some ()) : fL_c16 Ln xs K (zN l) M = some () := by
  obtain ⟨r, M1, M2, e1, e2, i2⟩ := call_broken M hI
  unfold fL_c16
  rw [e1, Option.bind_some, e2, Option.bind_some, if_pos (show ((r, M1) : Int32 × zMM).1 = ((r, M2) : Int32 × zMM).1 from rfl)]
  exact hK M2 i2
theorem sc_17 (hl : l + 7 ≤ Ln) (hL : Ln ≤ 3584) (hI : Inv M) (hK : ∀ M', Inv M' → K (zN l + 7) M' = some ()) : fL_c17 Ln xs K (zN l) M = some () := by
  obtain ⟨r, M1, M2, e1, e2, i2⟩ := call_loose M hI
  unfold fL_c17
  rw [e1, Option.bind_some, e2, Option.bind_some, if_pos (show ((r, M1) : Int32 × zMM).1 = ((r, M2) : Int32 × zMM).1 from rfl)]
  exact hK M2 i2
theorem sc_18 (hl : l + 7 ≤ Ln) (hL : Ln ≤ 3584) (hI : Inv M) (hK : ∀ M', Inv M' → K (zN l + 7) M' = some ()) : fL_c18 Ln xs K (zN l) M = some () := by
  have o1 : ¬ oob (zN l + 1) Ln := oobl (j := 1) (by omega) hL
  have o2 : ¬ oob (zN l + 2) Ln := oobl (j := 2) (by omega) hL
  have o3 : ¬ oob (zN l + 3) Ln := oobl (j := 3) (by omega) hL
  obtain ⟨r, M1, M2, e1, e2, i2⟩ := call_by (xs (Int32.toNatClampNeg (zN l + 1))) (xs (Int32.toNatClampNeg (zN l + 2))) (xs (Int32.toNatClampNeg (zN l + 3))) M hI
  unfold fL_c18
  rw [if_neg o1, if_neg o2, if_neg o3, e1, Option.bind_some, e2, Option.bind_some, if_pos (show ((r, M1) : Int32 × zMM).1 = ((r, M2) : Int32 × zMM).1 from rfl)]
  exact hK M2 i2
theorem sc_19 (hl : l + 7 ≤ Ln) (hL : Ln ≤ 3584) (hI : Inv M) (hK : ∀ M', Inv M' → K (zN l + 7) M' = some ()) : fL_c19 Ln xs K (zN l) M = some () := by
  have o1 : ¬ oob (zN l + 1) Ln := oobl (j := 1) (by omega) hL
  have o2 : ¬ oob (zN l + 2) Ln := oobl (j := 2) (by omega) hL
  obtain ⟨r, M1, M2, e1, e2, i2⟩ := call_best (xs (Int32.toNatClampNeg (zN l + 1))) (xs (Int32.toNatClampNeg (zN l + 2))) M hI
  unfold fL_c19
  rw [if_neg o1, if_neg o2, e1, Option.bind_some, e2, Option.bind_some, if_pos (show ((r, M1) : Int32 × zMM).1 = ((r, M2) : Int32 × zMM).1 from rfl)]
  exact hK M2 i2
theorem sc_20 (hl : l + 7 ≤ Ln) (hL : Ln ≤ 3584) (hI : Inv M) (hK : ∀ M', Inv M' → K (zN l + 7) M' = some ()) : fL_c20 Ln xs K (zN l) M = some () := by
  have o1 : ¬ oob (zN l + 1) Ln := oobl (j := 1) (by omega) hL
  have o2 : ¬ oob (zN l + 2) Ln := oobl (j := 2) (by omega) hL
  have o3 : ¬ oob (zN l + 3) Ln := oobl (j := 3) (by omega) hL
  obtain ⟨r, M1, M2, e1, e2, i2⟩ := call_near (xs (Int32.toNatClampNeg (zN l + 1))) (xs (Int32.toNatClampNeg (zN l + 2))) (xs (Int32.toNatClampNeg (zN l + 3))) M hI
  unfold fL_c20
  rw [if_neg o1, if_neg o2, if_neg o3, e1, Option.bind_some, e2, Option.bind_some, if_pos (show ((r, M1) : Int32 × zMM).1 = ((r, M2) : Int32 × zMM).1 from rfl)]
  exact hK M2 i2
theorem sc_21 (hl : l + 7 ≤ Ln) (hL : Ln ≤ 3584) (hI : Inv M) (hK : ∀ M', Inv M' → K (zN l + 7) M' = some ()) : fL_c21 Ln xs K (zN l) M = some () := by
  obtain ⟨r, M1, M2, e1, e2, i2⟩ := call_climbs M hI
  unfold fL_c21
  rw [e1, Option.bind_some, e2, Option.bind_some, if_pos (show ((r, M1) : Int32 × zMM).1 = ((r, M2) : Int32 × zMM).1 from rfl)]
  exact hK M2 i2
theorem sc_22 (hl : l + 7 ≤ Ln) (hL : Ln ≤ 3584) (hI : Inv M) (hK : ∀ M', Inv M' → K (zN l + 7) M' = some ()) : fL_c22 Ln xs K (zN l) M = some () := by
  have o1 : ¬ oob (zN l + 1) Ln := oobl (j := 1) (by omega) hL
  obtain ⟨r, M1, M2, e1, e2, i2⟩ := call_narrow (xs (Int32.toNatClampNeg (zN l + 1))) M hI
  unfold fL_c22
  rw [if_neg o1, e1, Option.bind_some, e2, Option.bind_some, if_pos (show ((r, M1) : Int32 × zMM).1 = ((r, M2) : Int32 × zMM).1 from rfl)]
  exact hK M2 i2
theorem sc_23 (hl : l + 7 ≤ Ln) (hL : Ln ≤ 3584) (hI : Inv M) (hK : ∀ M', Inv M' → K (zN l + 7) M' = some ()) : fL_c23 Ln xs K (zN l) M = some () := by
  have o1 : ¬ oob (zN l + 1) Ln := oobl (j := 1) (by omega) hL
  obtain ⟨r, M1, M2, e1, e2, i2⟩ := call_low (xs (Int32.toNatClampNeg (zN l + 1))) M hI
  unfold fL_c23
  rw [if_neg o1, e1, Option.bind_some, e2, Option.bind_some, if_pos (show ((r, M1) : Int32 × zMM).1 = ((r, M2) : Int32 × zMM).1 from rfl)]
  exact hK M2 i2
theorem sc_24 (hl : l + 7 ≤ Ln) (hL : Ln ≤ 3584) (hI : Inv M) (hK : ∀ M', Inv M' → K (zN l + 7) M' = some ()) : fL_c24 Ln xs K (zN l) M = some () := by
  have o1 : ¬ oob (zN l + 1) Ln := oobl (j := 1) (by omega) hL
  have o2 : ¬ oob (zN l + 2) Ln := oobl (j := 2) (by omega) hL
  have o3 : ¬ oob (zN l + 3) Ln := oobl (j := 3) (by omega) hL
  obtain ⟨r, M1, M2, e1, e2, i2⟩ := call_more (xs (Int32.toNatClampNeg (zN l + 1))) (xs (Int32.toNatClampNeg (zN l + 2))) (xs (Int32.toNatClampNeg (zN l + 3))) M hI
  unfold fL_c24
  rw [if_neg o1, if_neg o2, if_neg o3, e1, Option.bind_some, e2, Option.bind_some, if_pos (show ((r, M1) : Int32 × zMM).1 = ((r, M2) : Int32 × zMM).1 from rfl)]
  exact hK M2 i2
theorem sc_25 (hl : l + 7 ≤ Ln) (hL : Ln ≤ 3584) (hI : Inv M) (hK : ∀ M', Inv M' → K (zN l + 7) M' = some ()) : fL_c25 Ln xs K (zN l) M = some () := by
  have o1 : ¬ oob (zN l + 1) Ln := oobl (j := 1) (by omega) hL
  have o2 : ¬ oob (zN l + 2) Ln := oobl (j := 2) (by omega) hL
  obtain ⟨r, M1, M2, e1, e2, i2⟩ := call_less (xs (Int32.toNatClampNeg (zN l + 1))) (xs (Int32.toNatClampNeg (zN l + 2))) M hI
  unfold fL_c25
  rw [if_neg o1, if_neg o2, e1, Option.bind_some, e2, Option.bind_some, if_pos (show ((r, M1) : Int32 × zMM).1 = ((r, M2) : Int32 × zMM).1 from rfl)]
  exact hK M2 i2
theorem sc_26 (hl : l + 7 ≤ Ln) (hL : Ln ≤ 3584) (hI : Inv M) (hK : ∀ M', Inv M' → K (zN l + 7) M' = some ()) : fL_c26 Ln xs K (zN l) M = some () := by
  have o1 : ¬ oob (zN l + 1) Ln := oobl (j := 1) (by omega) hL
  obtain ⟨r, M1, M2, e1, e2, i2⟩ := call_spare (xs (Int32.toNatClampNeg (zN l + 1))) M hI
  unfold fL_c26
  rw [if_neg o1, e1, Option.bind_some, e2, Option.bind_some, if_pos (show ((r, M1) : Int32 × zMM).1 = ((r, M2) : Int32 × zMM).1 from rfl)]
  exact hK M2 i2
theorem sc_27 (hl : l + 7 ≤ Ln) (hL : Ln ≤ 3584) (hI : Inv M) (hK : ∀ M', Inv M' → K (zN l + 7) M' = some ()) : fL_c27 Ln xs K (zN l) M = some () := by
  have o1 : ¬ oob (zN l + 1) Ln := oobl (j := 1) (by omega) hL
  have o2 : ¬ oob (zN l + 2) Ln := oobl (j := 2) (by omega) hL
  obtain ⟨r, M1, M2, e1, e2, i2⟩ := call_sets (xs (Int32.toNatClampNeg (zN l + 1))) (xs (Int32.toNatClampNeg (zN l + 2))) M hI
  unfold fL_c27
  rw [if_neg o1, if_neg o2, e1, Option.bind_some, e2, Option.bind_some, if_pos (show ((r, M1) : Int32 × zMM).1 = ((r, M2) : Int32 × zMM).1 from rfl)]
  exact hK M2 i2
theorem sc_28 (hl : l + 7 ≤ Ln) (hL : Ln ≤ 3584) (hI : Inv M) (hK : ∀ M', Inv M' → K (zN l + 7) M' = some ()) : fL_c28 Ln xs K (zN l) M = some () := by
  have o1 : ¬ oob (zN l + 1) Ln := oobl (j := 1) (by omega) hL
  have o2 : ¬ oob (zN l + 2) Ln := oobl (j := 2) (by omega) hL
  obtain ⟨r, M1, M2, e1, e2, i2⟩ := call_weighs (xs (Int32.toNatClampNeg (zN l + 1))) (xs (Int32.toNatClampNeg (zN l + 2))) M hI
  unfold fL_c28
  rw [if_neg o1, if_neg o2, e1, Option.bind_some, e2, Option.bind_some, if_pos (show ((r, M1) : Int32 × zMM).1 = ((r, M2) : Int32 × zMM).1 from rfl)]
  exact hK M2 i2
theorem sc_29 (hl : l + 7 ≤ Ln) (hL : Ln ≤ 3584) (hI : Inv M) (hK : ∀ M', Inv M' → K (zN l + 7) M' = some ()) : fL_c29 Ln xs K (zN l) M = some () := by
  obtain ⟨r, M1, M2, e1, e2, i2⟩ := call_swaps M hI
  unfold fL_c29
  rw [e1, Option.bind_some, e2, Option.bind_some, if_pos (show ((r, M1) : Int32 × zMM).1 = ((r, M2) : Int32 × zMM).1 from rfl)]
  exact hK M2 i2
theorem sc_30 (hl : l + 7 ≤ Ln) (hL : Ln ≤ 3584) (hI : Inv M) (hK : ∀ M', Inv M' → K (zN l + 7) M' = some ()) : fL_c30 Ln xs K (zN l) M = some () := by
  have o1 : ¬ oob (zN l + 1) Ln := oobl (j := 1) (by omega) hL
  have o2 : ¬ oob (zN l + 2) Ln := oobl (j := 2) (by omega) hL
  have o3 : ¬ oob (zN l + 3) Ln := oobl (j := 3) (by omega) hL
  obtain ⟨r, M1, M2, e1, e2, i2⟩ := call_plans (xs (Int32.toNatClampNeg (zN l + 1))) (xs (Int32.toNatClampNeg (zN l + 2))) (xs (Int32.toNatClampNeg (zN l + 3))) M hI
  unfold fL_c30
  rw [if_neg o1, if_neg o2, if_neg o3, e1, Option.bind_some, e2, Option.bind_some, if_pos (show ((r, M1) : Int32 × zMM).1 = ((r, M2) : Int32 × zMM).1 from rfl)]
  exact hK M2 i2
theorem sc_31 (hl : l + 7 ≤ Ln) (hL : Ln ≤ 3584) (hI : Inv M) (hK : ∀ M', Inv M' → K (zN l + 7) M' = some ()) : fL_c31 Ln xs K (zN l) M = some () := by
  have o1 : ¬ oob (zN l + 1) Ln := oobl (j := 1) (by omega) hL
  have o2 : ¬ oob (zN l + 2) Ln := oobl (j := 2) (by omega) hL
  obtain ⟨r, M1, M2, e1, e2, i2⟩ := call_takesBest (xs (Int32.toNatClampNeg (zN l + 1))) (xs (Int32.toNatClampNeg (zN l + 2))) M hI
  unfold fL_c31
  rw [if_neg o1, if_neg o2, e1, Option.bind_some, e2, Option.bind_some, if_pos (show ((r, M1) : Int32 × zMM).1 = ((r, M2) : Int32 × zMM).1 from rfl)]
  exact hK M2 i2
theorem sc_32 (hl : l + 7 ≤ Ln) (hL : Ln ≤ 3584) (hI : Inv M) (hK : ∀ M', Inv M' → K (zN l + 7) M' = some ()) : fL_c32 Ln xs K (zN l) M = some () := by
  have o1 : ¬ oob (zN l + 1) Ln := oobl (j := 1) (by omega) hL
  have o2 : ¬ oob (zN l + 2) Ln := oobl (j := 2) (by omega) hL
  have o3 : ¬ oob (zN l + 3) Ln := oobl (j := 3) (by omega) hL
  obtain ⟨r, M1, M2, e1, e2, i2⟩ := call_comes (xs (Int32.toNatClampNeg (zN l + 1))) (xs (Int32.toNatClampNeg (zN l + 2))) (xs (Int32.toNatClampNeg (zN l + 3))) M hI
  unfold fL_c32
  rw [if_neg o1, if_neg o2, if_neg o3, e1, Option.bind_some, e2, Option.bind_some, if_pos (show ((r, M1) : Int32 × zMM).1 = ((r, M2) : Int32 × zMM).1 from rfl)]
  exact hK M2 i2
theorem sc_33 (hl : l + 7 ≤ Ln) (hL : Ln ≤ 3584) (hI : Inv M) (hK : ∀ M', Inv M' → K (zN l + 7) M' = some ()) : fL_c33 Ln xs K (zN l) M = some () := by
  have o1 : ¬ oob (zN l + 1) Ln := oobl (j := 1) (by omega) hL
  have o2 : ¬ oob (zN l + 2) Ln := oobl (j := 2) (by omega) hL
  obtain ⟨r, M1, M2, e1, e2, i2⟩ := call_goes (xs (Int32.toNatClampNeg (zN l + 1))) (xs (Int32.toNatClampNeg (zN l + 2))) M hI
  unfold fL_c33
  rw [if_neg o1, if_neg o2, e1, Option.bind_some, e2, Option.bind_some, if_pos (show ((r, M1) : Int32 × zMM).1 = ((r, M2) : Int32 × zMM).1 from rfl)]
  exact hK M2 i2
theorem sc_34 (hl : l + 7 ≤ Ln) (hL : Ln ≤ 3584) (hI : Inv M) (hK : ∀ M', Inv M' → K (zN l + 7) M' = some ()) : fL_c34 Ln xs K (zN l) M = some () := by
  obtain ⟨r, M1, M2, e1, e2, i2⟩ := call_day M hI
  unfold fL_c34
  rw [e1, Option.bind_some, e2, Option.bind_some, if_pos (show ((r, M1) : Int32 × zMM).1 = ((r, M2) : Int32 × zMM).1 from rfl)]
  exact hK M2 i2
theorem sc_35 (hl : l + 7 ≤ Ln) (hL : Ln ≤ 3584) (hI : Inv M) (hK : ∀ M', Inv M' → K (zN l + 7) M' = some ()) : fL_c35 Ln xs K (zN l) M = some () := by
  obtain ⟨r, M1, M2, e1, e2, i2⟩ := call_undo M hI
  unfold fL_c35
  rw [e1, Option.bind_some, e2, Option.bind_some, if_pos (show ((r, M1) : Int32 × zMM).1 = ((r, M2) : Int32 × zMM).1 from rfl)]
  exact hK M2 i2
theorem sc_36 (hl : l + 7 ≤ Ln) (hL : Ln ≤ 3584) (hI : Inv M) (hK : ∀ M', Inv M' → K (zN l + 7) M' = some ()) : fL_c36 Ln xs K (zN l) M = some () := by
  have o1 : ¬ oob (zN l + 1) Ln := oobl (j := 1) (by omega) hL
  have o2 : ¬ oob (zN l + 2) Ln := oobl (j := 2) (by omega) hL
  obtain ⟨r, M1, M2, e1, e2, i2⟩ := call_years (xs (Int32.toNatClampNeg (zN l + 1))) (xs (Int32.toNatClampNeg (zN l + 2))) M hI
  unfold fL_c36
  rw [if_neg o1, if_neg o2, e1, Option.bind_some, e2, Option.bind_some, if_pos (show ((r, M1) : Int32 × zMM).1 = ((r, M2) : Int32 × zMM).1 from rfl)]
  exact hK M2 i2
theorem sc_37 (hl : l + 7 ≤ Ln) (hL : Ln ≤ 3584) (hI : Inv M) (hK : ∀ M', Inv M' → K (zN l + 7) M' = some ()) : fL_c37 Ln xs K (zN l) M = some () := by
  have o1 : ¬ oob (zN l + 1) Ln := oobl (j := 1) (by omega) hL
  obtain ⟨r, M1, M2, e1, e2, i2⟩ := call_keep (xs (Int32.toNatClampNeg (zN l + 1))) M hI
  unfold fL_c37
  rw [if_neg o1, e1, Option.bind_some, e2, Option.bind_some, if_pos (show ((r, M1) : Int32 × zMM).1 = ((r, M2) : Int32 × zMM).1 from rfl)]
  exact hK M2 i2
theorem sc_38 (hl : l + 7 ≤ Ln) (hL : Ln ≤ 3584) (hI : Inv M) (hK : ∀ M', Inv M' → K (zN l + 7) M' = some ()) : fL_c38 Ln xs K (zN l) M = some () := by
  have o1 : ¬ oob (zN l + 1) Ln := oobl (j := 1) (by omega) hL
  obtain ⟨r, M1, M2, e1, e2, i2⟩ := call_again (xs (Int32.toNatClampNeg (zN l + 1))) M hI
  unfold fL_c38
  rw [if_neg o1, e1, Option.bind_some, e2, Option.bind_some, if_pos (show ((r, M1) : Int32 × zMM).1 = ((r, M2) : Int32 × zMM).1 from rfl)]
  exact hK M2 i2
theorem sc_39 (hl : l + 7 ≤ Ln) (hL : Ln ≤ 3584) (hI : Inv M) (hK : ∀ M', Inv M' → K (zN l + 7) M' = some ()) : fL_c39 Ln xs K (zN l) M = some () := by
  have o1 : ¬ oob (zN l + 1) Ln := oobl (j := 1) (by omega) hL
  obtain ⟨r, M1, M2, e1, e2, i2⟩ := call_count (xs (Int32.toNatClampNeg (zN l + 1))) M hI
  unfold fL_c39
  rw [if_neg o1, e1, Option.bind_some, e2, Option.bind_some, if_pos (show ((r, M1) : Int32 × zMM).1 = ((r, M2) : Int32 × zMM).1 from rfl)]
  exact hK M2 i2
theorem sc_40 (hl : l + 7 ≤ Ln) (hL : Ln ≤ 3584) (hI : Inv M) (hK : ∀ M', Inv M' → K (zN l + 7) M' = some ()) : fL_c40 Ln xs K (zN l) M = some () := by
  have o1 : ¬ oob (zN l + 1) Ln := oobl (j := 1) (by omega) hL
  obtain ⟨k, M1, b, M2, e1, e2, h5, h6, i2⟩ := call_row (xs (Int32.toNatClampNeg (zN l + 1))) M hI
  have et : fX7_thrown M2 = some (k, M2) := by unfold fX7_thrown; rw [h5]
  unfold fL_c40
  rw [if_neg o1, e1, Option.bind_some, e2, Option.bind_some, et, Option.bind_some, if_pos (show ((k, M2) : Int32 × zMM).1 = ((k, M1) : Int32 × zMM).1 from rfl)]
  by_cases k0 : k = 0
  · rw [if_pos (show ((k, M1) : Int32 × zMM).1 = 0 from k0)]
    dsimp only
    rw [h6 k0, lg_self, if_pos rfl]
    exact hK M2 i2
  · rw [if_neg (show ¬ ((k, M1) : Int32 × zMM).1 = 0 from k0)]
    exact hK M2 i2
theorem sc_sw (hl : l + 7 ≤ Ln) (hL : Ln ≤ 3584) (hI : Inv M) (hK : ∀ M', Inv M' → K (zN l + 7) M' = some ()) (x : Int32) : fL_sw Ln xs K x (zN l) M = some () := by
  unfold fL_sw
  by_cases c0 : x = (0 : Int32)
  · rw [if_pos c0]; exact sc_0 hl hL hI hK
  rw [if_neg c0]
  by_cases c1 : x = (1 : Int32)
  · rw [if_pos c1]; exact sc_1 hl hL hI hK
  rw [if_neg c1]
  by_cases c2 : x = (2 : Int32)
  · rw [if_pos c2]; exact sc_2 hl hL hI hK
  rw [if_neg c2]
  by_cases c3 : x = (3 : Int32)
  · rw [if_pos c3]; exact sc_3 hl hL hI hK
  rw [if_neg c3]
  by_cases c4 : x = (4 : Int32)
  · rw [if_pos c4]; exact sc_4 hl hL hI hK
  rw [if_neg c4]
  by_cases c5 : x = (5 : Int32)
  · rw [if_pos c5]; exact sc_5 hl hL hI hK
  rw [if_neg c5]
  by_cases c6 : x = (6 : Int32)
  · rw [if_pos c6]; exact sc_6 hl hL hI hK
  rw [if_neg c6]
  by_cases c7 : x = (7 : Int32)
  · rw [if_pos c7]; exact sc_7 hl hL hI hK
  rw [if_neg c7]
  by_cases c8 : x = (8 : Int32)
  · rw [if_pos c8]; exact sc_8 hl hL hI hK
  rw [if_neg c8]
  by_cases c9 : x = (9 : Int32)
  · rw [if_pos c9]; exact sc_9 hl hL hI hK
  rw [if_neg c9]
  by_cases c10 : x = (10 : Int32)
  · rw [if_pos c10]; exact sc_10 hl hL hI hK
  rw [if_neg c10]
  by_cases c11 : x = (11 : Int32)
  · rw [if_pos c11]; exact sc_11 hl hL hI hK
  rw [if_neg c11]
  by_cases c12 : x = (12 : Int32)
  · rw [if_pos c12]; exact sc_12 hl hL hI hK
  rw [if_neg c12]
  by_cases c13 : x = (13 : Int32)
  · rw [if_pos c13]; exact sc_13 hl hL hI hK
  rw [if_neg c13]
  by_cases c14 : x = (14 : Int32)
  · rw [if_pos c14]; exact sc_14 hl hL hI hK
  rw [if_neg c14]
  by_cases c15 : x = (15 : Int32)
  · rw [if_pos c15]; exact sc_15 hl hL hI hK
  rw [if_neg c15]
  by_cases c16 : x = (16 : Int32)
  · rw [if_pos c16]; exact sc_16 hl hL hI hK
  rw [if_neg c16]
  by_cases c17 : x = (17 : Int32)
  · rw [if_pos c17]; exact sc_17 hl hL hI hK
  rw [if_neg c17]
  by_cases c18 : x = (18 : Int32)
  · rw [if_pos c18]; exact sc_18 hl hL hI hK
  rw [if_neg c18]
  by_cases c19 : x = (19 : Int32)
  · rw [if_pos c19]; exact sc_19 hl hL hI hK
  rw [if_neg c19]
  by_cases c20 : x = (20 : Int32)
  · rw [if_pos c20]; exact sc_20 hl hL hI hK
  rw [if_neg c20]
  by_cases c21 : x = (21 : Int32)
  · rw [if_pos c21]; exact sc_21 hl hL hI hK
  rw [if_neg c21]
  by_cases c22 : x = (22 : Int32)
  · rw [if_pos c22]; exact sc_22 hl hL hI hK
  rw [if_neg c22]
  by_cases c23 : x = (23 : Int32)
  · rw [if_pos c23]; exact sc_23 hl hL hI hK
  rw [if_neg c23]
  by_cases c24 : x = (24 : Int32)
  · rw [if_pos c24]; exact sc_24 hl hL hI hK
  rw [if_neg c24]
  by_cases c25 : x = (25 : Int32)
  · rw [if_pos c25]; exact sc_25 hl hL hI hK
  rw [if_neg c25]
  by_cases c26 : x = (26 : Int32)
  · rw [if_pos c26]; exact sc_26 hl hL hI hK
  rw [if_neg c26]
  by_cases c27 : x = (27 : Int32)
  · rw [if_pos c27]; exact sc_27 hl hL hI hK
  rw [if_neg c27]
  by_cases c28 : x = (28 : Int32)
  · rw [if_pos c28]; exact sc_28 hl hL hI hK
  rw [if_neg c28]
  by_cases c29 : x = (29 : Int32)
  · rw [if_pos c29]; exact sc_29 hl hL hI hK
  rw [if_neg c29]
  by_cases c30 : x = (30 : Int32)
  · rw [if_pos c30]; exact sc_30 hl hL hI hK
  rw [if_neg c30]
  by_cases c31 : x = (31 : Int32)
  · rw [if_pos c31]; exact sc_31 hl hL hI hK
  rw [if_neg c31]
  by_cases c32 : x = (32 : Int32)
  · rw [if_pos c32]; exact sc_32 hl hL hI hK
  rw [if_neg c32]
  by_cases c33 : x = (33 : Int32)
  · rw [if_pos c33]; exact sc_33 hl hL hI hK
  rw [if_neg c33]
  by_cases c34 : x = (34 : Int32)
  · rw [if_pos c34]; exact sc_34 hl hL hI hK
  rw [if_neg c34]
  by_cases c35 : x = (35 : Int32)
  · rw [if_pos c35]; exact sc_35 hl hL hI hK
  rw [if_neg c35]
  by_cases c36 : x = (36 : Int32)
  · rw [if_pos c36]; exact sc_36 hl hL hI hK
  rw [if_neg c36]
  by_cases c37 : x = (37 : Int32)
  · rw [if_pos c37]; exact sc_37 hl hL hI hK
  rw [if_neg c37]
  by_cases c38 : x = (38 : Int32)
  · rw [if_pos c38]; exact sc_38 hl hL hI hK
  rw [if_neg c38]
  by_cases c39 : x = (39 : Int32)
  · rw [if_pos c39]; exact sc_39 hl hL hI hK
  rw [if_neg c39]
  by_cases c40 : x = (40 : Int32)
  · rw [if_pos c40]; exact sc_40 hl hL hI hK
  rw [if_neg c40]
  exact hK M hI
end
theorem ofN (n : Nat) : Int32.ofNat n = zN n := rfl
theorem law_go {Ln : Nat} {xs : Nat → Int32} (hL : Ln ≤ 3584) : ∀ n l M, Inv M → l ≤ Ln → Ln + 7 < l + 7 * n → fL_law Ln xs n (zN l) M = some () := by
  intro n
  induction n with
  | zero => intro l M hI h1 h2; omega
  | succ n ih =>
    intro l M hI h1 h2
    rw [fL_law]
    by_cases c : l + 7 ≤ Ln
    · have e : Int32.ofNat Ln - 7 = zN (Ln - 7) := by rw [ofN]; show zN Ln - zN 7 = _; rw [zN_sub (by omega)]
      have o : ¬ oob (zN l) Ln := by rw [zN_oobF (by omega)]; exact id
      rw [e, if_neg (show ¬ zN (Ln - 7) < zN l by rw [zN_ltF (by omega)]; exact id), if_neg o]
      refine sc_sw c hL hI (fun M' hI' => ?_) _
      have l7 : zN l + 7 = zN (l + 7) := zN_add l 7
      rw [l7]
      exact ih (l + 7) M' hI' (by omega) (by omega)
    · have lt : Int32.ofNat Ln - 7 < zN l := by
        rw [ofN]
        by_cases d : 7 ≤ Ln
        · have e : zN Ln - 7 = zN (Ln - 7) := by show zN Ln - zN 7 = _; rw [zN_sub (by omega)]
          rw [e, zN_ltT (by omega)]; trivial
        · have e : zN Ln - 7 = -zN (7 - Ln) := by
            show zN Ln - zN 7 = _
            rw [zm_I]; unfold zN; rw [zI_sub]; congr 1; omega
          rw [e, zm_lt (by omega)]; trivial
      rw [if_pos lt]
def P0 : Nat → Nat := fun j => if j = 258 then 1 else if j = 257 then 100 else if j = 256 then 10000 else if j = 255 then 1 else if j = 4 then 10 else if j = 3 then 10 else if j = 2 then 2 else if j = 1 then 20 else if j = 0 then 40 else 0
theorem P0_z {j : Nat} (h : 5 ≤ j ∧ j < 255) : P0 j = 0 := by
  unfold P0
  rw [if_neg (by omega), if_neg (by omega), if_neg (by omega), if_neg (by omega), if_neg (by omega), if_neg (by omega), if_neg (by omega), if_neg (by omega), if_neg (by omega)]
theorem Good_P0 : Good P0 := by
  refine ⟨by decide, fun t ht => ?_, ?_, by decide⟩
  · rw [P0_z (by omega)]; exact ⟨by omega, fun k hk => absurd hk (by omega)⟩
  · rw [P0_z (by omega)]; exact ⟨by omega, fun i hi => absurd hi (by omega)⟩
theorem Leaf_0 : Leaf zMG 0 P0 := by
  refine ⟨⟨rfl, rfl, rfl, rfl, rfl, rfl, rfl⟩, fun i hi => ?_, fun t ht => ?_, fun t ht k hk => ?_, fun i hi => ?_⟩
  · have e : i = 0 ∨ i = 1 ∨ i = 2 := by omega
    rcases e with rfl | rfl | rfl <;> rfl
  · have e : t = 0 ∨ t = 1 ∨ t = 2 := by omega
    rcases e with rfl | rfl | rfl <;> rfl
  · rw [P0_z (by omega)] at hk; exact absurd hk (by omega)
  · rw [P0_z (by omega)] at hi; exact absurd hi (by omega)
theorem MNow_0 : MNow zMG P0 := by
  intro j hj
  show MX7N j = zN (P0 j)
  unfold MX7N P0
  repeat' split
  all_goals rfl
theorem Inv_0 : Inv zMG := by
  refine ⟨P0, [], [], [], fun _ => none, ⟨Good_P0, ⟨by simp, fun i hi => absurd hi (by simp)⟩, by simp, ⟨by simp, fun Q hQ => absurd hQ (by simp)⟩, fun i Q h => absurd h (by simp)⟩, ⟨Leaf_0, ⟨rfl, fun i hi => absurd hi (by simp)⟩, ⟨rfl, fun i hi => absurd hi (by simp)⟩, ⟨0, by omega, rfl, rfl, fun i Q h => absurd h (by simp)⟩, fun i hi => ⟨rfl, fun Q h => absurd h (by simp)⟩⟩, ⟨MNow_0, ⟨rfl, fun i hi => absurd hi (by simp)⟩, ⟨rfl, fun i hi => absurd hi (by simp)⟩, ⟨rfl, fun i Q h => absurd h (by simp)⟩, fun i hi => ⟨rfl, fun Q h => absurd h (by simp)⟩⟩⟩
/-- THE PURE THEOREM: for every script of at most 3584 ints the class and the model answer alike -/
theorem pure_all (Ln : Nat) (xs : Nat → Int32) (h : Ln ≤ 3584) : fL_law Ln xs 600 0 zMG = some () :=
  law_go h 600 0 zMG Inv_0 (by omega) (by omega)
