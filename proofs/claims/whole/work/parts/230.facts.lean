theorem zS_congr {ad ex : Nat → Nat} {A : Nat → Prop} {U : State} {H : Heap} (h : ∀ i, 1000 ≤ i → i ≠ 2000 → ad i = ex i) (k : zS ex A U H) : zS ad A U H := by
  obtain ⟨h1, h2, h3, h4, k1, k2, k3, k4, k5, k6⟩ := k
  have e1 : ad 2001 = ex 2001 := h 2001 (by decide) (by decide)
  have e2 : ad 2002 = ex 2002 := h 2002 (by decide) (by decide)
  refine ⟨fun j hj => ?_, h2, h3, h4, ?_, ?_, ?_, ?_, ?_, k6⟩
  · rw [h (1000 + j) (by omega) (by omega)]
    exact h1 j hj
  · rw [e1]; exact k1
  · rw [e1]; exact k2
  · rw [e1]; exact k3
  · rw [e1, e2]; exact k4
  · rw [e2]; exact k5
set_option maxRecDepth 100000 in
set_option maxHeartbeats 4000000 in
theorem zfacts {s : State} {b : Nat} (hts0 : ∀ w ∈ lw_tbl, w.before #[Value.ref b] s = true) (hgv : (Jvm.Cond.and given_1 narrow_1).before #[Value.ref b] s = true) : ∃ ex : Nat → Nat, zS ex (fun q => s.heap.size ≤ q) s s.heap := by
  have hs := flat_of_before _ hgv
  have hA : ∀ a : Nat, a < s.heap.size → ¬ (fun q => s.heap.size ≤ q) a := fun a h => Nat.not_le.mpr h
  obtain ⟨t0, ht0, hT0⟩ := va_Tof (s := s) (args := #[Value.ref b]) (tm := (Term.static "RingedPage" "LEAST_MEASURE" "[I")) (ty := .int) (N := 3) (f := fun j => .int (zst 0 j)) (A := fun q => s.heap.size ≤ q) (by decide) (hs (Cond.arrayOf (Term.static "RingedPage" "LEAST_MEASURE" "[I") .int) (by decide +kernel)) (va_eqt (z := Int32.ofNat 3) (hs (Cond.eq (.length (Term.static "RingedPage" "LEAST_MEASURE" "[I")) (.int (Int32.ofNat 3))) (by decide +kernel))) (fun j hj => by
      match j, hj with
      | 0, _ => exact va_eqt (z := zst 0 0) (hs (Cond.eq (.elem (Term.static "RingedPage" "LEAST_MEASURE" "[I") (.int (Int32.ofNat 0))) (.int (zst 0 0))) (by decide +kernel))
      | 1, _ => exact va_eqt (z := zst 0 1) (hs (Cond.eq (.elem (Term.static "RingedPage" "LEAST_MEASURE" "[I") (.int (Int32.ofNat 1))) (.int (zst 0 1))) (by decide +kernel))
      | 2, _ => exact va_eqt (z := zst 0 2) (hs (Cond.eq (.elem (Term.static "RingedPage" "LEAST_MEASURE" "[I") (.int (Int32.ofNat 2))) (.int (zst 0 2))) (by decide +kernel))) hA
  have hZ0 : va_Z "RingedPage" "LEAST_MEASURE" "[I" (.ref t0) (fun q => s.heap.size ≤ q) s s.heap := va_Zref (hts0 (.laysStatic "RingedPage" "LEAST_MEASURE" "[I") (by decide +kernel)) (hts0 (.initialized "RingedPage") (by decide +kernel)) ht0 hA
  obtain ⟨t1, ht1, hT1⟩ := va_Tof (s := s) (args := #[Value.ref b]) (tm := (Term.static "RingedPage" "MOST_MEASURE" "[I")) (ty := .int) (N := 3) (f := fun j => .int (zst 1 j)) (A := fun q => s.heap.size ≤ q) (by decide) (hs (Cond.arrayOf (Term.static "RingedPage" "MOST_MEASURE" "[I") .int) (by decide +kernel)) (va_eqt (z := Int32.ofNat 3) (hs (Cond.eq (.length (Term.static "RingedPage" "MOST_MEASURE" "[I")) (.int (Int32.ofNat 3))) (by decide +kernel))) (fun j hj => by
      match j, hj with
      | 0, _ => exact va_eqt (z := zst 1 0) (hs (Cond.eq (.elem (Term.static "RingedPage" "MOST_MEASURE" "[I") (.int (Int32.ofNat 0))) (.int (zst 1 0))) (by decide +kernel))
      | 1, _ => exact va_eqt (z := zst 1 1) (hs (Cond.eq (.elem (Term.static "RingedPage" "MOST_MEASURE" "[I") (.int (Int32.ofNat 1))) (.int (zst 1 1))) (by decide +kernel))
      | 2, _ => exact va_eqt (z := zst 1 2) (hs (Cond.eq (.elem (Term.static "RingedPage" "MOST_MEASURE" "[I") (.int (Int32.ofNat 2))) (.int (zst 1 2))) (by decide +kernel))) hA
  have hZ1 : va_Z "RingedPage" "MOST_MEASURE" "[I" (.ref t1) (fun q => s.heap.size ≤ q) s s.heap := va_Zref (hts0 (.laysStatic "RingedPage" "MOST_MEASURE" "[I") (by decide +kernel)) (hts0 (.initialized "RingedPage") (by decide +kernel)) ht1 hA
  obtain ⟨t2, ht2, hT2⟩ := va_Tof (s := s) (args := #[Value.ref b]) (tm := (Term.static "RingedPage" "MOST_WEIGHT" "[I")) (ty := .int) (N := 3) (f := fun j => .int (zst 2 j)) (A := fun q => s.heap.size ≤ q) (by decide) (hs (Cond.arrayOf (Term.static "RingedPage" "MOST_WEIGHT" "[I") .int) (by decide +kernel)) (va_eqt (z := Int32.ofNat 3) (hs (Cond.eq (.length (Term.static "RingedPage" "MOST_WEIGHT" "[I")) (.int (Int32.ofNat 3))) (by decide +kernel))) (fun j hj => by
      match j, hj with
      | 0, _ => exact va_eqt (z := zst 2 0) (hs (Cond.eq (.elem (Term.static "RingedPage" "MOST_WEIGHT" "[I") (.int (Int32.ofNat 0))) (.int (zst 2 0))) (by decide +kernel))
      | 1, _ => exact va_eqt (z := zst 2 1) (hs (Cond.eq (.elem (Term.static "RingedPage" "MOST_WEIGHT" "[I") (.int (Int32.ofNat 1))) (.int (zst 2 1))) (by decide +kernel))
      | 2, _ => exact va_eqt (z := zst 2 2) (hs (Cond.eq (.elem (Term.static "RingedPage" "MOST_WEIGHT" "[I") (.int (Int32.ofNat 2))) (.int (zst 2 2))) (by decide +kernel))) hA
  have hZ2 : va_Z "RingedPage" "MOST_WEIGHT" "[I" (.ref t2) (fun q => s.heap.size ≤ q) s s.heap := va_Zref (hts0 (.laysStatic "RingedPage" "MOST_WEIGHT" "[I") (by decide +kernel)) (hts0 (.initialized "RingedPage") (by decide +kernel)) ht2 hA
  obtain ⟨t3, ht3, hT3⟩ := va_Tof (s := s) (args := #[Value.ref b]) (tm := (Term.static "RingedPage" "CROWN_MOVES" "[I")) (ty := .int) (N := 6) (f := fun j => .int (zst 3 j)) (A := fun q => s.heap.size ≤ q) (by decide) (hs (Cond.arrayOf (Term.static "RingedPage" "CROWN_MOVES" "[I") .int) (by decide +kernel)) (va_eqt (z := Int32.ofNat 6) (hs (Cond.eq (.length (Term.static "RingedPage" "CROWN_MOVES" "[I")) (.int (Int32.ofNat 6))) (by decide +kernel))) (fun j hj => by
      match j, hj with
      | 0, _ => exact va_eqt (z := zst 3 0) (hs (Cond.eq (.elem (Term.static "RingedPage" "CROWN_MOVES" "[I") (.int (Int32.ofNat 0))) (.int (zst 3 0))) (by decide +kernel))
      | 1, _ => exact va_eqt (z := zst 3 1) (hs (Cond.eq (.elem (Term.static "RingedPage" "CROWN_MOVES" "[I") (.int (Int32.ofNat 1))) (.int (zst 3 1))) (by decide +kernel))
      | 2, _ => exact va_eqt (z := zst 3 2) (hs (Cond.eq (.elem (Term.static "RingedPage" "CROWN_MOVES" "[I") (.int (Int32.ofNat 2))) (.int (zst 3 2))) (by decide +kernel))
      | 3, _ => exact va_eqt (z := zst 3 3) (hs (Cond.eq (.elem (Term.static "RingedPage" "CROWN_MOVES" "[I") (.int (Int32.ofNat 3))) (.int (zst 3 3))) (by decide +kernel))
      | 4, _ => exact va_eqt (z := zst 3 4) (hs (Cond.eq (.elem (Term.static "RingedPage" "CROWN_MOVES" "[I") (.int (Int32.ofNat 4))) (.int (zst 3 4))) (by decide +kernel))
      | 5, _ => exact va_eqt (z := zst 3 5) (hs (Cond.eq (.elem (Term.static "RingedPage" "CROWN_MOVES" "[I") (.int (Int32.ofNat 5))) (.int (zst 3 5))) (by decide +kernel))) hA
  have hZ3 : va_Z "RingedPage" "CROWN_MOVES" "[I" (.ref t3) (fun q => s.heap.size ≤ q) s s.heap := va_Zref (hts0 (.laysStatic "RingedPage" "CROWN_MOVES" "[I") (by decide +kernel)) (hts0 (.initialized "RingedPage") (by decide +kernel)) ht3 hA
  obtain ⟨t4, ht4, hT4⟩ := va_Tof (s := s) (args := #[Value.ref b]) (tm := (Term.static "RingedPage" "INNER_MOVES" "[I")) (ty := .int) (N := 6) (f := fun j => .int (zst 4 j)) (A := fun q => s.heap.size ≤ q) (by decide) (hs (Cond.arrayOf (Term.static "RingedPage" "INNER_MOVES" "[I") .int) (by decide +kernel)) (va_eqt (z := Int32.ofNat 6) (hs (Cond.eq (.length (Term.static "RingedPage" "INNER_MOVES" "[I")) (.int (Int32.ofNat 6))) (by decide +kernel))) (fun j hj => by
      match j, hj with
      | 0, _ => exact va_eqt (z := zst 4 0) (hs (Cond.eq (.elem (Term.static "RingedPage" "INNER_MOVES" "[I") (.int (Int32.ofNat 0))) (.int (zst 4 0))) (by decide +kernel))
      | 1, _ => exact va_eqt (z := zst 4 1) (hs (Cond.eq (.elem (Term.static "RingedPage" "INNER_MOVES" "[I") (.int (Int32.ofNat 1))) (.int (zst 4 1))) (by decide +kernel))
      | 2, _ => exact va_eqt (z := zst 4 2) (hs (Cond.eq (.elem (Term.static "RingedPage" "INNER_MOVES" "[I") (.int (Int32.ofNat 2))) (.int (zst 4 2))) (by decide +kernel))
      | 3, _ => exact va_eqt (z := zst 4 3) (hs (Cond.eq (.elem (Term.static "RingedPage" "INNER_MOVES" "[I") (.int (Int32.ofNat 3))) (.int (zst 4 3))) (by decide +kernel))
      | 4, _ => exact va_eqt (z := zst 4 4) (hs (Cond.eq (.elem (Term.static "RingedPage" "INNER_MOVES" "[I") (.int (Int32.ofNat 4))) (.int (zst 4 4))) (by decide +kernel))
      | 5, _ => exact va_eqt (z := zst 4 5) (hs (Cond.eq (.elem (Term.static "RingedPage" "INNER_MOVES" "[I") (.int (Int32.ofNat 5))) (.int (zst 4 5))) (by decide +kernel))) hA
  have hZ4 : va_Z "RingedPage" "INNER_MOVES" "[I" (.ref t4) (fun q => s.heap.size ≤ q) s s.heap := va_Zref (hts0 (.laysStatic "RingedPage" "INNER_MOVES" "[I") (by decide +kernel)) (hts0 (.initialized "RingedPage") (by decide +kernel)) ht4 hA
  obtain ⟨t5, ht5, hT5⟩ := va_Tof (s := s) (args := #[Value.ref b]) (tm := (Term.static "RingedPage" "OUTER_MOVES" "[I")) (ty := .int) (N := 6) (f := fun j => .int (zst 5 j)) (A := fun q => s.heap.size ≤ q) (by decide) (hs (Cond.arrayOf (Term.static "RingedPage" "OUTER_MOVES" "[I") .int) (by decide +kernel)) (va_eqt (z := Int32.ofNat 6) (hs (Cond.eq (.length (Term.static "RingedPage" "OUTER_MOVES" "[I")) (.int (Int32.ofNat 6))) (by decide +kernel))) (fun j hj => by
      match j, hj with
      | 0, _ => exact va_eqt (z := zst 5 0) (hs (Cond.eq (.elem (Term.static "RingedPage" "OUTER_MOVES" "[I") (.int (Int32.ofNat 0))) (.int (zst 5 0))) (by decide +kernel))
      | 1, _ => exact va_eqt (z := zst 5 1) (hs (Cond.eq (.elem (Term.static "RingedPage" "OUTER_MOVES" "[I") (.int (Int32.ofNat 1))) (.int (zst 5 1))) (by decide +kernel))
      | 2, _ => exact va_eqt (z := zst 5 2) (hs (Cond.eq (.elem (Term.static "RingedPage" "OUTER_MOVES" "[I") (.int (Int32.ofNat 2))) (.int (zst 5 2))) (by decide +kernel))
      | 3, _ => exact va_eqt (z := zst 5 3) (hs (Cond.eq (.elem (Term.static "RingedPage" "OUTER_MOVES" "[I") (.int (Int32.ofNat 3))) (.int (zst 5 3))) (by decide +kernel))
      | 4, _ => exact va_eqt (z := zst 5 4) (hs (Cond.eq (.elem (Term.static "RingedPage" "OUTER_MOVES" "[I") (.int (Int32.ofNat 4))) (.int (zst 5 4))) (by decide +kernel))
      | 5, _ => exact va_eqt (z := zst 5 5) (hs (Cond.eq (.elem (Term.static "RingedPage" "OUTER_MOVES" "[I") (.int (Int32.ofNat 5))) (.int (zst 5 5))) (by decide +kernel))) hA
  have hZ5 : va_Z "RingedPage" "OUTER_MOVES" "[I" (.ref t5) (fun q => s.heap.size ≤ q) s s.heap := va_Zref (hts0 (.laysStatic "RingedPage" "OUTER_MOVES" "[I") (by decide +kernel)) (hts0 (.initialized "RingedPage") (by decide +kernel)) ht5 hA
  obtain ⟨adK, adV, hKS, hev⟩ := vk_Sof (s := s) (args := #[Value.ref b]) (N := 1) (tm := fun _ => (Term.string "RingedPageModel" 300)) (len := [8]) (byt := [[119, 104, 112, 99, 103, 98, 117, 120]]) (A := fun q => s.heap.size ≤ q) (fun i hi => by match i, hi with | 0, _ => decide) (fun i hi => hs (Cond.exactly (Term.string "RingedPageModel" 300) "java/lang/String") (by decide +kernel)) (fun i hi => hs (Cond.eq (.field (Term.string "RingedPageModel" 300) "java/lang/String" "coder" "B") (.int 0)) (by decide +kernel)) (fun i hi => hs (Cond.arrayOf (.field (Term.string "RingedPageModel" 300) "java/lang/String" "value" "[B") .byte) (by decide +kernel)) (fun i hi => by
      match i, hi with
      | 0, _ => exact hs (Cond.eq (.length (.field (Term.string "RingedPageModel" 300) "java/lang/String" "value" "[B")) (.int (Int32.ofNat 8))) (by decide +kernel)) (fun i hi j hj => by
      match i, hi, j, hj with
      | 0, _, 0, _ => exact hs (Cond.eq (.elem (.field (Term.string "RingedPageModel" 300) "java/lang/String" "value" "[B") (.int (Int32.ofNat 0))) (.int 119)) (by decide +kernel)
      | 0, _, 1, _ => exact hs (Cond.eq (.elem (.field (Term.string "RingedPageModel" 300) "java/lang/String" "value" "[B") (.int (Int32.ofNat 1))) (.int 104)) (by decide +kernel)
      | 0, _, 2, _ => exact hs (Cond.eq (.elem (.field (Term.string "RingedPageModel" 300) "java/lang/String" "value" "[B") (.int (Int32.ofNat 2))) (.int 112)) (by decide +kernel)
      | 0, _, 3, _ => exact hs (Cond.eq (.elem (.field (Term.string "RingedPageModel" 300) "java/lang/String" "value" "[B") (.int (Int32.ofNat 3))) (.int 99)) (by decide +kernel)
      | 0, _, 4, _ => exact hs (Cond.eq (.elem (.field (Term.string "RingedPageModel" 300) "java/lang/String" "value" "[B") (.int (Int32.ofNat 4))) (.int 103)) (by decide +kernel)
      | 0, _, 5, _ => exact hs (Cond.eq (.elem (.field (Term.string "RingedPageModel" 300) "java/lang/String" "value" "[B") (.int (Int32.ofNat 5))) (.int 98)) (by decide +kernel)
      | 0, _, 6, _ => exact hs (Cond.eq (.elem (.field (Term.string "RingedPageModel" 300) "java/lang/String" "value" "[B") (.int (Int32.ofNat 6))) (.int 117)) (by decide +kernel)
      | 0, _, 7, _ => exact hs (Cond.eq (.elem (.field (Term.string "RingedPageModel" 300) "java/lang/String" "value" "[B") (.int (Int32.ofNat 7))) (.int 120)) (by decide +kernel)
      | 0, _, j + 8, hj => exact absurd hj (by show ¬ j + 8 < 8; omega)) (fun i j hi hj hij => absurd (show i = j by omega) hij) hA
  have hk := hKS.1 0 (by decide)
  refine ⟨fun i => if i = 1000 then t0 else if i = 1001 then t1 else if i = 1002 then t2 else if i = 1003 then t3 else if i = 1004 then t4 else if i = 1005 then t5 else if i = 2001 then adK 0 else adV 0, ?_, ⟨?_, ?_, ?_⟩, ⟨?_, ?_⟩, ⟨?_, ?_, ?_, ?_, ?_, ?_⟩, ?_, hk.1, hk.2.1, hk.2.2.1, ?_, ?_⟩
  · intro k hk9
    match k, hk9 with
    | 0, _ => exact ⟨hZ0, hT0⟩
    | 1, _ => exact ⟨hZ1, hT1⟩
    | 2, _ => exact ⟨hZ2, hT2⟩
    | 3, _ => exact ⟨hZ3, hT3⟩
    | 4, _ => exact ⟨hZ4, hT4⟩
    | 5, _ => exact ⟨hZ5, hT5⟩
    | k + 6, h => exact absurd h (by omega)
  · exact va_Nw.of rfl (hts0 _ (by decide +kernel))
  · exact va_Nw.of rfl (hts0 _ (by decide +kernel))
  · exact va_Nw.of rfl (hts0 _ (by decide +kernel))
  · exact va_Nw.of rfl (hts0 _ (by decide +kernel))
  · exact va_Nw.of rfl (hts0 _ (by decide +kernel))
  · exact vx_Zqof (hts0 (.laysStatic Bundle.tN "UNASSIGNED_STACK" Bundle.steD) (by decide +kernel)) (hts0 (.initialized Bundle.tN) (by decide +kernel)) (hs (.isRef (.static Bundle.tN "UNASSIGNED_STACK" Bundle.steD)) (by decide +kernel)) hA
  · exact vx_Zqof (hts0 (.laysStatic Bundle.tN "SUPPRESSED_SENTINEL" Bundle.listD) (by decide +kernel)) (hts0 (.initialized Bundle.tN) (by decide +kernel)) (hs (.isRef (.static Bundle.tN "SUPPRESSED_SENTINEL" Bundle.listD)) (by decide +kernel)) hA
  · exact va_Nw.of rfl (hts0 _ (by decide +kernel))
  · exact va_Nw.of rfl (hts0 _ (by decide +kernel))
  · exact va_Nw.of rfl (hts0 _ (by decide +kernel))
  · exact va_Nw.of rfl (hts0 _ (by decide +kernel))
  · exact vk_R.of (hts0 (.stringRef RX7 300 "whpcgbux") (by decide +kernel)) (hev 0 (by decide))
  · obtain ⟨cell, g1, g2, g3, g4, g5, g6, g7⟩ := hk.2.2.2
    refine ⟨cell, g1, g2, g3, g4, g5, fun j hj => ?_, g7⟩
    rw [g6 j hj]
    match j, hj with
    | 0, _ => rfl
    | 1, _ => rfl
    | 2, _ => rfl
    | 3, _ => rfl
    | 4, _ => rfl
    | 5, _ => rfl
    | 6, _ => rfl
    | 7, _ => rfl
    | j + 8, h => exact absurd h (by show ¬ j + 8 < 8; omega)
  · exact va_Zof (hts0 (.laysStatic "java/lang/String" "COMPACT_STRINGS" "Z") (by decide +kernel)) (hts0 (.initialized "java/lang/String") (by decide +kernel)) (va_eqt (z := 1) (hs (Cond.eq (.static "java/lang/String" "COMPACT_STRINGS" "Z") (.int 1)) (by decide +kernel))) hA
theorem zNGof {s : State} {b : Nat} (hts0 : ∀ w ∈ lw_tbl, w.before #[Value.ref b] s = true) : zNG s :=
  ⟨⟨va_Nw.of rfl (hts0 _ (by decide +kernel)), va_Nw.of rfl (hts0 _ (by decide +kernel)), va_Nw.of rfl (hts0 _ (by decide +kernel)), va_Nw.of rfl (hts0 _ (by decide +kernel)), va_Nw.of rfl (hts0 _ (by decide +kernel)), va_Nw.of rfl (hts0 _ (by decide +kernel))⟩, hts0 (.arrayOver (.array .int)) (by decide +kernel), va_AO.of (hts0 (.arrayOver (.object "RingedPage$Leaf")) (by decide +kernel))⟩
theorem zArr {s : State} {ty : FieldType} {cA comp : ClassId} {kA : Class} (hk : s.vm.classes[cA]? = some kA) (hkind : kA.kind = .array comp ty) : ArrOfT s cA ty := fun n z => ⟨(fun q hq => by cases hq), kA, hk, comp, hkind⟩
set_option maxRecDepth 100000 in
theorem zKof {s : State} {b : Nat} (hts0 : ∀ w ∈ lw_tbl, w.before #[Value.ref b] s = true) : ∃ (D : va_G) (aC : Nat → ClassId), va_K D vwCl (zty aC) s := by
  have hin : ∀ w ∈ zWS, w ∈ lw_tbl := fun w h => (List.mem_filter.mp h).1
  obtain ⟨c0, iS0, hK0⟩ := u_known (C := RX0) (T := TX0) (N := 13) (n := 13) hts0 (fun w h => hin w (inz0 w h)) (hts0 (.instantiable RX0 13) (by decide +kernel))
  obtain ⟨c1, iS1, hK1⟩ := u_known (C := RX1) (T := TX1) (N := 3) (n := 3) hts0 (fun w h => hin w (inz1 w h)) (hts0 (.instantiable RX1 3) (by decide +kernel))
  obtain ⟨c2, iS2, hK2⟩ := u_known (C := RX2) (T := TX2) (N := 2) (n := 2) hts0 (fun w h => hin w (inz2 w h)) (hts0 (.instantiable RX2 2) (by decide +kernel))
  obtain ⟨c3, iS3, hK3⟩ := u_known (C := RX3) (T := TX3) (N := 5) (n := 5) hts0 (fun w h => hin w (inz3 w h)) (hts0 (.instantiable RX3 5) (by decide +kernel))
  obtain ⟨c4, iS4, hK4⟩ := u_known (C := RX4) (T := TX4) (N := 10) (n := 10) hts0 (fun w h => hin w (inz4 w h)) (hts0 (.instantiable RX4 10) (by decide +kernel))
  obtain ⟨c5, iS5, hK5⟩ := u_known (C := RX5) (T := TX5) (N := 2) (n := 2) hts0 (fun w h => hin w (inz5 w h)) (hts0 (.instantiable RX5 2) (by decide +kernel))
  obtain ⟨c6, iS6, hK6⟩ := u_known (C := RX6) (T := TX6) (N := 9) (n := 9) hts0 (fun w h => hin w (inz6 w h)) (hts0 (.instantiable RX6 9) (by decide +kernel))
  obtain ⟨c7, iS7, hK7⟩ := u_known (C := RX7) (T := TX7) (N := 28) (n := 28) hts0 (fun w h => hin w (inz7 w h)) (hts0 (.instantiable RX7 28) (by decide +kernel))
  obtain ⟨a0, k0, m0, f0, g0, e0⟩ := Cond.arrayClass_spec (hts0 (.arrayClass .int) (by decide +kernel))
  obtain ⟨a1, k1, m1, f1, g1, e1⟩ := Cond.arrayClass_spec (hts0 (.arrayClass .byte) (by decide +kernel))
  obtain ⟨a2, k2, m2, f2, g2, e2⟩ := Cond.arrayClass_spec (hts0 (.arrayClass .boolean) (by decide +kernel))
  obtain ⟨a3, k3, m3, f3, g3, e3⟩ := Cond.arrayClass_spec (hts0 (.arrayClass .long) (by decide +kernel))
  obtain ⟨m4, a4, k4, f4, i4, g4, e4, n4⟩ := Jvm.Stand.arrayOver_specB (hts0 (.arrayOver (.array .int)) (by decide +kernel))
  obtain ⟨m5, a5, k5, f5, i5, g5, e5, n5⟩ := Cond.arrayOver_spec (hts0 (.arrayOver (.object "RingedPage$Leaf")) (by decide +kernel))
  refine ⟨(fun k => match k with | 0 => c0 | 1 => c1 | 2 => c2 | 3 => c3 | 4 => c4 | 5 => c5 | 6 => c6 | _ => c7, fun k => match k with | 0 => iS0 | 1 => iS1 | 2 => iS2 | 3 => iS3 | 4 => iS4 | 5 => iS5 | 6 => iS6 | _ => iS7), fun k => match k with | 0 => a0 | 1 => a1 | 2 => a2 | 3 => a3 | 4 => a4 | _ => a5, fun k q hq => ?_, fun k q hq => ?_⟩
  · match k, hq with
    | 0, hq => cases hq; exact hK0
    | 1, hq => cases hq; exact hK1
    | 2, hq => cases hq; exact hK2
    | 3, hq => cases hq; exact hK3
    | 4, hq => cases hq; exact hK4
    | 5, hq => cases hq; exact hK5
    | 6, hq => cases hq; exact hK6
    | 7, hq => cases hq; exact hK7
    | k + 8, hq => simp [vwCl] at hq
  · match k, hq with
    | 0, hq => cases hq; exact ⟨zArr g0 e0, f0⟩
    | 1, hq => cases hq; exact ⟨zArr g1 e1, f1⟩
    | 2, hq => cases hq; exact ⟨zArr g2 e2, f2⟩
    | 3, hq => cases hq; exact ⟨zArr g3 e3, f3⟩
    | 4, hq => cases hq; exact ⟨zArr g4 e4, n4⟩
    | 5, hq => cases hq; exact ⟨zArr g5 e5, k5, m5, g5, e5, f5, n5⟩
    | k + 6, hq => simp [zty] at hq
