/-- the memory of a new Past, by its own numbers; of a new RingedPage, of all -/
def zMP : zMM := (fun t => if t < 10 then fun _ => 0 else MX0_init.1 (t % 10), fun _ _ => 0)
abbrev iX1_init : zMI := (RX1, cX1_init, 2, none, 2, 40)
theorem hyk_X1 : yX1_init.cls ≠ "java/lang/invoke/MethodHandle" ∧ yX1_init.cls ≠ "java/lang/invoke/VarHandle" ∧ (parseMethodDescriptor yX1_init.desc).map (fun d => d.parameters.length) = some 0 := by decide +kernel
def BX1_init : zBB := ((0, .inl (1, [some (some 1), none, none])) :: ([(1, .inr (5, 8, [some 10, some 20, some 30, some 40, some 50, some 60, some 70, some 80]))] ++ zren (fun t => t + 10) BX0_init ++ zren (fun t => t + 20) BX0_init ++ zren (fun t => t + 30) BX0_init ++ zren (fun t => t + 40) BX0_init ++ zren (fun t => t + 50) BX0_init ++ zren (fun t => t + 60) BX0_init ++ zren (fun t => t + 70) BX0_init ++ zren (fun t => t + 80) BX0_init))
def MX1_init : zMM := zMP
theorem BX1_init_ids : BX1_init.map Prod.fst = [0, 1, 10, 11, 12, 13, 14, 15, 16, 17, 18, 19, 20, 21, 22, 23, 24, 25, 26, 27, 28, 29, 30, 31, 32, 33, 34, 35, 36, 37, 38, 39, 40, 41, 42, 43, 44, 45, 46, 47, 48, 49, 50, 51, 52, 53, 54, 55, 56, 57, 58, 59, 60, 61, 62, 63, 64, 65, 66, 67, 68, 69, 70, 71, 72, 73, 74, 75, 76, 77, 78, 79, 80, 81, 82, 83, 84, 85, 86, 87, 88, 89] := by decide +kernel
theorem wm2_RX1_3 : Cond.methodLink RX1 3 objectInit ∈ zWS := zt1 184 rfl rfl
theorem wcl_RX1_11 : Cond.classLink RX1 11 "RingedPage$Leaf" ∈ zWS := zt1 185 rfl rfl
theorem wf2_RX1_13 : Cond.fieldLink RX1 13 (TX1 0).1 (TX1 0).2.1 (TX1 0).2.2.1 ∈ zWS := zt1 188 rfl rfl
theorem wf2_RX1_17 : Cond.fieldLink RX1 17 (TX1 1).1 (TX1 1).2.1 (TX1 1).2.2.1 ∈ zWS := zt1 189 rfl rfl
theorem wf2_RX1_21 : Cond.fieldLink RX1 21 (TX1 2).1 (TX1 2).2.1 (TX1 2).2.2.1 ∈ zWS := zt1 190 rfl rfl
theorem wn_RX1_11 : Cond.classLink RX1 11 RX0 ∈ zWS ∧ Cond.instantiable RX0 13 ∈ zWS ∧ Cond.initialized RX0 ∈ zWS := ⟨zt1 185 rfl rfl, zt1 29 rfl rfl, zt1 2 rfl rfl⟩
theorem wk2_X0 : Cond.instanceMethod yX0_init ∈ zWS ∧ Cond.initialized yX0_init.cls ∈ zWS ∧ Cond.code yX0_init iX0_init.2.1 iX0_init.2.2.1 iX0_init.2.2.2.1 ∈ zWS := ⟨zt1 31 rfl rfl, zt1 2 rfl rfl, zt1 32 rfl rfl⟩
theorem zM_X1_10 : ∀ k ∈ zids BX0_init, (zMP).1 ((fun t => t + 10) k) = MX0_init.1 k ∧ (zMP).2 ((fun t => t + 10) k) = MX0_init.2 k := by
  intro k hk
  simp only [zids, BX0_init_ids, List.mem_cons, List.not_mem_nil, or_false] at hk
  rcases hk with rfl | rfl | rfl | rfl | rfl | rfl | rfl | rfl | rfl | rfl <;> exact ⟨rfl, rfl⟩
theorem zM_X1_20 : ∀ k ∈ zids BX0_init, (zMP).1 ((fun t => t + 20) k) = MX0_init.1 k ∧ (zMP).2 ((fun t => t + 20) k) = MX0_init.2 k := by
  intro k hk
  simp only [zids, BX0_init_ids, List.mem_cons, List.not_mem_nil, or_false] at hk
  rcases hk with rfl | rfl | rfl | rfl | rfl | rfl | rfl | rfl | rfl | rfl <;> exact ⟨rfl, rfl⟩
theorem zM_X1_30 : ∀ k ∈ zids BX0_init, (zMP).1 ((fun t => t + 30) k) = MX0_init.1 k ∧ (zMP).2 ((fun t => t + 30) k) = MX0_init.2 k := by
  intro k hk
  simp only [zids, BX0_init_ids, List.mem_cons, List.not_mem_nil, or_false] at hk
  rcases hk with rfl | rfl | rfl | rfl | rfl | rfl | rfl | rfl | rfl | rfl <;> exact ⟨rfl, rfl⟩
theorem zM_X1_40 : ∀ k ∈ zids BX0_init, (zMP).1 ((fun t => t + 40) k) = MX0_init.1 k ∧ (zMP).2 ((fun t => t + 40) k) = MX0_init.2 k := by
  intro k hk
  simp only [zids, BX0_init_ids, List.mem_cons, List.not_mem_nil, or_false] at hk
  rcases hk with rfl | rfl | rfl | rfl | rfl | rfl | rfl | rfl | rfl | rfl <;> exact ⟨rfl, rfl⟩
theorem zM_X1_50 : ∀ k ∈ zids BX0_init, (zMP).1 ((fun t => t + 50) k) = MX0_init.1 k ∧ (zMP).2 ((fun t => t + 50) k) = MX0_init.2 k := by
  intro k hk
  simp only [zids, BX0_init_ids, List.mem_cons, List.not_mem_nil, or_false] at hk
  rcases hk with rfl | rfl | rfl | rfl | rfl | rfl | rfl | rfl | rfl | rfl <;> exact ⟨rfl, rfl⟩
theorem zM_X1_60 : ∀ k ∈ zids BX0_init, (zMP).1 ((fun t => t + 60) k) = MX0_init.1 k ∧ (zMP).2 ((fun t => t + 60) k) = MX0_init.2 k := by
  intro k hk
  simp only [zids, BX0_init_ids, List.mem_cons, List.not_mem_nil, or_false] at hk
  rcases hk with rfl | rfl | rfl | rfl | rfl | rfl | rfl | rfl | rfl | rfl <;> exact ⟨rfl, rfl⟩
theorem zM_X1_70 : ∀ k ∈ zids BX0_init, (zMP).1 ((fun t => t + 70) k) = MX0_init.1 k ∧ (zMP).2 ((fun t => t + 70) k) = MX0_init.2 k := by
  intro k hk
  simp only [zids, BX0_init_ids, List.mem_cons, List.not_mem_nil, or_false] at hk
  rcases hk with rfl | rfl | rfl | rfl | rfl | rfl | rfl | rfl | rfl | rfl <;> exact ⟨rfl, rfl⟩
theorem zM_X1_80 : ∀ k ∈ zids BX0_init, (zMP).1 ((fun t => t + 80) k) = MX0_init.1 k ∧ (zMP).2 ((fun t => t + 80) k) = MX0_init.2 k := by
  intro k hk
  simp only [zids, BX0_init_ids, List.mem_cons, List.not_mem_nil, or_false] at hk
  rcases hk with rfl | rfl | rfl | rfl | rfl | rfl | rfl | rfl | rfl | rfl <;> exact ⟨rfl, rfl⟩
set_option maxHeartbeats 4000000 in
set_option maxRecDepth 100000 in
theorem kX1_init : zKN yX1_init iX1_init 81 2152 [(0, .inl (1, [some none, none, none]))] zMP (BX1_init, MX1_init) := by
  refine zKN.of (by decide) rfl (Nat.le_of_ble_eq_true rfl) rfl ?_
  refine zEK.aload_n dX1_init_0 rfl 0 rfl ?_
  refine zEK.obj wm2_RX1_3 wobj ⟨Nat.le_of_ble_eq_true rfl, Nat.le_of_ble_eq_true rfl⟩ dX1_init_1 ?_
  refine zEK.aload_n dX1_init_4 rfl 0 rfl ?_
  refine zEK.bipush (v := 8) dX1_init_5 rfl ?_
  refine zEK.newq (i := 1) (N' := 8) wcl_RX1_11 (by decide +kernel) (by decide) (by decide) (by decide) ⟨Nat.le_of_ble_eq_true rfl, Nat.le_of_ble_eq_true rfl⟩ dX1_init_7 ?_
  refine zEK.cB (B' := ((0, .inl (1, [some none, none, none])) :: ([(1, .inr (5, 8, [none, none, none, none, none, none, none, none]))]))) rfl ?_
  refine zEK.pfr (i := 0) [] ([(1, .inr (5, 8, [none, none, none, none, none, none, none, none]))]) rfl rfl inz1 tyX1 tyX1_ok nmX1 0 (by decide) wf2_RX1_13 rfl rfl (ty := tyX1 0) (tyX1_ok 0 (by decide)) rfl rfl dX1_init_10 ?_
  refine zEK.cB (B' := ((0, .inl (1, [some (some 1), none, none])) :: ([(1, .inr (5, 8, [none, none, none, none, none, none, none, none]))]))) rfl ?_
  refine zEK.aload_n dX1_init_13 rfl 0 rfl ?_
  refine zEK.iconst (v := 0) dX1_init_14 rfl ?_
  refine zEK.pfi (i := 0) [] ([(1, .inr (5, 8, [none, none, none, none, none, none, none, none]))]) rfl rfl inz1 tyX1 tyX1_ok nmX1 1 (by decide) wf2_RX1_17 rfl (tyX1_ok 1 (by decide)) rfl dX1_init_15 ?_
  rw [wr_self (M := zMP) (c := 0) (j := 1) (v := 0) rfl]
  refine zEK.aload_n dX1_init_18 rfl 0 rfl ?_
  refine zEK.iconst (v := 0) dX1_init_19 rfl ?_
  refine zEK.pfi (i := 0) [] ([(1, .inr (5, 8, [none, none, none, none, none, none, none, none]))]) rfl rfl inz1 tyX1 tyX1_ok nmX1 2 (by decide) wf2_RX1_21 rfl (tyX1_ok 2 (by decide)) rfl dX1_init_20 ?_
  rw [wr_self (M := zMP) (c := 0) (j := 2) (v := 0) rfl]
  refine zEK.iconst (v := 0) dX1_init_23 rfl ?_
  refine zEK.istore_n dX1_init_24 rfl (Nat.le_of_ble_eq_true rfl) rfl ?_
  refine zEK.iload_n dX1_init_25 rfl 0 rfl ?_
  refine zEK.bipush (v := 8) dX1_init_26 rfl ?_
  refine zEK.icmp_ge 50 dX1_init_28 (by decide) (fun h => absurd h (by decide)) (fun _ => ?_)
  refine zEK.aload_n dX1_init_31 rfl 1 rfl ?_
  refine zEK.gfr (i := 0) [] ([(1, .inr (5, 8, [none, none, none, none, none, none, none, none]))]) rfl rfl inz1 0 (by decide) wf2_RX1_13 rfl dX1_init_32 ?_
  refine zEK.iload_n dX1_init_35 rfl 0 rfl ?_
  refine zEK.new (ci := 0) (i := 10) (fs := [none, none, none, none, none, none, none, some none, some none, some none, some none, some none, some none]) (M1 := zmz 10 zMP) rfl inz0 tyX0 tyX0_ok wn_RX1_11 (by decide +kernel) (by decide +kernel) ⟨Nat.le_of_ble_eq_true rfl, Nat.le_of_ble_eq_true rfl⟩ rfl (fun t ht => zmz_ne1 _ 10 t (by simpa using ht)) dX1_init_36 rfl ?_
  refine zEK.cB (B' := ((0, .inl (1, [some (some 1), none, none])) :: ([(1, .inr (5, 8, [none, none, none, none, none, none, none, none]))] ++ [(10, .inl (0, [none, none, none, none, none, none, none, some none, some none, some none, some none, some none, some none]))]))) rfl ?_
  refine zEK.dup dX1_init_39 rfl ?_
  refine zEK.call (Bc := ((0, .inl (1, [some (some 1), none, none])) :: ([(1, .inr (5, 8, [none, none, none, none, none, none, none, none]))]))) (M1 := zMP) (fun t => t + 10) kX0_init rfl rfl rfl ⟨rfl, rfl⟩ (by decide +kernel) (by decide +kernel) rfl (by decide +kernel) (fun k hk => zM_X1_10 k hk) (fun t ht => zmz_ne _ 10 t (by rintro rfl; revert ht; decide +kernel)) (by decide +kernel) (Or.inr (fun U h => h.1.2.2.2.2.2)) wk2_X0 rfl rfl hyk_X0 ⟨Nat.le_of_ble_eq_true rfl, Nat.le_of_ble_eq_true rfl⟩ ⟨Nat.le_of_ble_eq_true rfl, Nat.le_of_ble_eq_true rfl⟩ (Nat.le_of_ble_eq_true rfl) dX1_init_40 ?_
  refine zEK.cB (B' := ((0, .inl (1, [some (some 1), none, none])) :: ([(1, .inr (5, 8, [none, none, none, none, none, none, none, none]))] ++ zren (fun t => t + 10) BX0_init))) rfl ?_
  refine zEK.aast (i := 1) (n := 8) (j := 0) (t := 10) ((0, .inl (1, [some (some 1), none, none])) :: ([])) (zren (fun t => t + 10) BX0_init) ((0, .inl (1, [some (some 1), none, none])) :: ([(1, .inr (5, 8, [none, none, none, none, none, none, none, none]))])) ((zren (fun t => t + 10) BX0_init).tail) rfl rfl (by decide) (by decide) (by decide) dX1_init_43 ?_
  refine zEK.cB (B' := ((0, .inl (1, [some (some 1), none, none])) :: ([(1, .inr (5, 8, [some 10, none, none, none, none, none, none, none]))] ++ zren (fun t => t + 10) BX0_init))) rfl ?_
  refine zEK.iinc (v := 1) dX1_init_44 0 rfl rfl (Nat.le_of_ble_eq_true rfl) rfl ?_
  refine zEK.goto 25 dX1_init_47 (by decide) ?_
  refine zEK.iload_n dX1_init_25 rfl 0 rfl ?_
  refine zEK.bipush (v := 8) dX1_init_26 rfl ?_
  refine zEK.icmp_ge 50 dX1_init_28 (by decide) (fun h => absurd h (by decide)) (fun _ => ?_)
  refine zEK.aload_n dX1_init_31 rfl 1 rfl ?_
  refine zEK.gfr (i := 0) [] ([(1, .inr (5, 8, [some 10, none, none, none, none, none, none, none]))] ++ zren (fun t => t + 10) BX0_init) rfl rfl inz1 0 (by decide) wf2_RX1_13 rfl dX1_init_32 ?_
  refine zEK.iload_n dX1_init_35 rfl 0 rfl ?_
  refine zEK.new (ci := 0) (i := 20) (fs := [none, none, none, none, none, none, none, some none, some none, some none, some none, some none, some none]) (M1 := zmz 20 zMP) rfl inz0 tyX0 tyX0_ok wn_RX1_11 (by decide +kernel) (by decide +kernel) ⟨Nat.le_of_ble_eq_true rfl, Nat.le_of_ble_eq_true rfl⟩ rfl (fun t ht => zmz_ne1 _ 20 t (by simpa using ht)) dX1_init_36 rfl ?_
  refine zEK.cB (B' := ((0, .inl (1, [some (some 1), none, none])) :: ([(1, .inr (5, 8, [some 10, none, none, none, none, none, none, none]))] ++ zren (fun t => t + 10) BX0_init ++ [(20, .inl (0, [none, none, none, none, none, none, none, some none, some none, some none, some none, some none, some none]))]))) rfl ?_
  refine zEK.dup dX1_init_39 rfl ?_
  refine zEK.call (Bc := ((0, .inl (1, [some (some 1), none, none])) :: ([(1, .inr (5, 8, [some 10, none, none, none, none, none, none, none]))] ++ zren (fun t => t + 10) BX0_init))) (M1 := zMP) (fun t => t + 20) kX0_init rfl rfl rfl ⟨rfl, rfl⟩ (by decide +kernel) (by decide +kernel) rfl (by decide +kernel) (fun k hk => zM_X1_20 k hk) (fun t ht => zmz_ne _ 20 t (by rintro rfl; revert ht; decide +kernel)) (by decide +kernel) (Or.inr (fun U h => h.1.2.2.2.2.2)) wk2_X0 rfl rfl hyk_X0 ⟨Nat.le_of_ble_eq_true rfl, Nat.le_of_ble_eq_true rfl⟩ ⟨Nat.le_of_ble_eq_true rfl, Nat.le_of_ble_eq_true rfl⟩ (Nat.le_of_ble_eq_true rfl) dX1_init_40 ?_
  refine zEK.cB (B' := ((0, .inl (1, [some (some 1), none, none])) :: ([(1, .inr (5, 8, [some 10, none, none, none, none, none, none, none]))] ++ zren (fun t => t + 10) BX0_init ++ zren (fun t => t + 20) BX0_init))) rfl ?_
  refine zEK.aast (i := 1) (n := 8) (j := 1) (t := 20) ((0, .inl (1, [some (some 1), none, none])) :: ([])) (zren (fun t => t + 10) BX0_init ++ zren (fun t => t + 20) BX0_init) ((0, .inl (1, [some (some 1), none, none])) :: ([(1, .inr (5, 8, [some 10, none, none, none, none, none, none, none]))] ++ zren (fun t => t + 10) BX0_init)) ((zren (fun t => t + 20) BX0_init).tail) rfl rfl (by decide) (by decide) (by decide) dX1_init_43 ?_
  refine zEK.cB (B' := ((0, .inl (1, [some (some 1), none, none])) :: ([(1, .inr (5, 8, [some 10, some 20, none, none, none, none, none, none]))] ++ zren (fun t => t + 10) BX0_init ++ zren (fun t => t + 20) BX0_init))) rfl ?_
  refine zEK.iinc (v := 2) dX1_init_44 0 rfl rfl (Nat.le_of_ble_eq_true rfl) rfl ?_
  refine zEK.goto 25 dX1_init_47 (by decide) ?_
  refine zEK.iload_n dX1_init_25 rfl 0 rfl ?_
  refine zEK.bipush (v := 8) dX1_init_26 rfl ?_
  refine zEK.icmp_ge 50 dX1_init_28 (by decide) (fun h => absurd h (by decide)) (fun _ => ?_)
  refine zEK.aload_n dX1_init_31 rfl 1 rfl ?_
  refine zEK.gfr (i := 0) [] ([(1, .inr (5, 8, [some 10, some 20, none, none, none, none, none, none]))] ++ zren (fun t => t + 10) BX0_init ++ zren (fun t => t + 20) BX0_init) rfl rfl inz1 0 (by decide) wf2_RX1_13 rfl dX1_init_32 ?_
  refine zEK.iload_n dX1_init_35 rfl 0 rfl ?_
  refine zEK.new (ci := 0) (i := 30) (fs := [none, none, none, none, none, none, none, some none, some none, some none, some none, some none, some none]) (M1 := zmz 30 zMP) rfl inz0 tyX0 tyX0_ok wn_RX1_11 (by decide +kernel) (by decide +kernel) ⟨Nat.le_of_ble_eq_true rfl, Nat.le_of_ble_eq_true rfl⟩ rfl (fun t ht => zmz_ne1 _ 30 t (by simpa using ht)) dX1_init_36 rfl ?_
  refine zEK.cB (B' := ((0, .inl (1, [some (some 1), none, none])) :: ([(1, .inr (5, 8, [some 10, some 20, none, none, none, none, none, none]))] ++ zren (fun t => t + 10) BX0_init ++ zren (fun t => t + 20) BX0_init ++ [(30, .inl (0, [none, none, none, none, none, none, none, some none, some none, some none, some none, some none, some none]))]))) rfl ?_
  refine zEK.dup dX1_init_39 rfl ?_
  refine zEK.call (Bc := ((0, .inl (1, [some (some 1), none, none])) :: ([(1, .inr (5, 8, [some 10, some 20, none, none, none, none, none, none]))] ++ zren (fun t => t + 10) BX0_init ++ zren (fun t => t + 20) BX0_init))) (M1 := zMP) (fun t => t + 30) kX0_init rfl rfl rfl ⟨rfl, rfl⟩ (by decide +kernel) (by decide +kernel) rfl (by decide +kernel) (fun k hk => zM_X1_30 k hk) (fun t ht => zmz_ne _ 30 t (by rintro rfl; revert ht; decide +kernel)) (by decide +kernel) (Or.inr (fun U h => h.1.2.2.2.2.2)) wk2_X0 rfl rfl hyk_X0 ⟨Nat.le_of_ble_eq_true rfl, Nat.le_of_ble_eq_true rfl⟩ ⟨Nat.le_of_ble_eq_true rfl, Nat.le_of_ble_eq_true rfl⟩ (Nat.le_of_ble_eq_true rfl) dX1_init_40 ?_
  refine zEK.cB (B' := ((0, .inl (1, [some (some 1), none, none])) :: ([(1, .inr (5, 8, [some 10, some 20, none, none, none, none, none, none]))] ++ zren (fun t => t + 10) BX0_init ++ zren (fun t => t + 20) BX0_init ++ zren (fun t => t + 30) BX0_init))) rfl ?_
  refine zEK.aast (i := 1) (n := 8) (j := 2) (t := 30) ((0, .inl (1, [some (some 1), none, none])) :: ([])) (zren (fun t => t + 10) BX0_init ++ zren (fun t => t + 20) BX0_init ++ zren (fun t => t + 30) BX0_init) ((0, .inl (1, [some (some 1), none, none])) :: ([(1, .inr (5, 8, [some 10, some 20, none, none, none, none, none, none]))] ++ zren (fun t => t + 10) BX0_init ++ zren (fun t => t + 20) BX0_init)) ((zren (fun t => t + 30) BX0_init).tail) rfl rfl (by decide) (by decide) (by decide) dX1_init_43 ?_
  refine zEK.cB (B' := ((0, .inl (1, [some (some 1), none, none])) :: ([(1, .inr (5, 8, [some 10, some 20, some 30, none, none, none, none, none]))] ++ zren (fun t => t + 10) BX0_init ++ zren (fun t => t + 20) BX0_init ++ zren (fun t => t + 30) BX0_init))) rfl ?_
  refine zEK.iinc (v := 3) dX1_init_44 0 rfl rfl (Nat.le_of_ble_eq_true rfl) rfl ?_
  refine zEK.goto 25 dX1_init_47 (by decide) ?_
  refine zEK.iload_n dX1_init_25 rfl 0 rfl ?_
  refine zEK.bipush (v := 8) dX1_init_26 rfl ?_
  refine zEK.icmp_ge 50 dX1_init_28 (by decide) (fun h => absurd h (by decide)) (fun _ => ?_)
  refine zEK.aload_n dX1_init_31 rfl 1 rfl ?_
  refine zEK.gfr (i := 0) [] ([(1, .inr (5, 8, [some 10, some 20, some 30, none, none, none, none, none]))] ++ zren (fun t => t + 10) BX0_init ++ zren (fun t => t + 20) BX0_init ++ zren (fun t => t + 30) BX0_init) rfl rfl inz1 0 (by decide) wf2_RX1_13 rfl dX1_init_32 ?_
  refine zEK.iload_n dX1_init_35 rfl 0 rfl ?_
  refine zEK.new (ci := 0) (i := 40) (fs := [none, none, none, none, none, none, none, some none, some none, some none, some none, some none, some none]) (M1 := zmz 40 zMP) rfl inz0 tyX0 tyX0_ok wn_RX1_11 (by decide +kernel) (by decide +kernel) ⟨Nat.le_of_ble_eq_true rfl, Nat.le_of_ble_eq_true rfl⟩ rfl (fun t ht => zmz_ne1 _ 40 t (by simpa using ht)) dX1_init_36 rfl ?_
  refine zEK.cB (B' := ((0, .inl (1, [some (some 1), none, none])) :: ([(1, .inr (5, 8, [some 10, some 20, some 30, none, none, none, none, none]))] ++ zren (fun t => t + 10) BX0_init ++ zren (fun t => t + 20) BX0_init ++ zren (fun t => t + 30) BX0_init ++ [(40, .inl (0, [none, none, none, none, none, none, none, some none, some none, some none, some none, some none, some none]))]))) rfl ?_
  refine zEK.dup dX1_init_39 rfl ?_
  refine zEK.call (Bc := ((0, .inl (1, [some (some 1), none, none])) :: ([(1, .inr (5, 8, [some 10, some 20, some 30, none, none, none, none, none]))] ++ zren (fun t => t + 10) BX0_init ++ zren (fun t => t + 20) BX0_init ++ zren (fun t => t + 30) BX0_init))) (M1 := zMP) (fun t => t + 40) kX0_init rfl rfl rfl ⟨rfl, rfl⟩ (by decide +kernel) (by decide +kernel) rfl (by decide +kernel) (fun k hk => zM_X1_40 k hk) (fun t ht => zmz_ne _ 40 t (by rintro rfl; revert ht; decide +kernel)) (by decide +kernel) (Or.inr (fun U h => h.1.2.2.2.2.2)) wk2_X0 rfl rfl hyk_X0 ⟨Nat.le_of_ble_eq_true rfl, Nat.le_of_ble_eq_true rfl⟩ ⟨Nat.le_of_ble_eq_true rfl, Nat.le_of_ble_eq_true rfl⟩ (Nat.le_of_ble_eq_true rfl) dX1_init_40 ?_
  refine zEK.cB (B' := ((0, .inl (1, [some (some 1), none, none])) :: ([(1, .inr (5, 8, [some 10, some 20, some 30, none, none, none, none, none]))] ++ zren (fun t => t + 10) BX0_init ++ zren (fun t => t + 20) BX0_init ++ zren (fun t => t + 30) BX0_init ++ zren (fun t => t + 40) BX0_init))) rfl ?_
  refine zEK.aast (i := 1) (n := 8) (j := 3) (t := 40) ((0, .inl (1, [some (some 1), none, none])) :: ([])) (zren (fun t => t + 10) BX0_init ++ zren (fun t => t + 20) BX0_init ++ zren (fun t => t + 30) BX0_init ++ zren (fun t => t + 40) BX0_init) ((0, .inl (1, [some (some 1), none, none])) :: ([(1, .inr (5, 8, [some 10, some 20, some 30, none, none, none, none, none]))] ++ zren (fun t => t + 10) BX0_init ++ zren (fun t => t + 20) BX0_init ++ zren (fun t => t + 30) BX0_init)) ((zren (fun t => t + 40) BX0_init).tail) rfl rfl (by decide) (by decide) (by decide) dX1_init_43 ?_
  refine zEK.cB (B' := ((0, .inl (1, [some (some 1), none, none])) :: ([(1, .inr (5, 8, [some 10, some 20, some 30, some 40, none, none, none, none]))] ++ zren (fun t => t + 10) BX0_init ++ zren (fun t => t + 20) BX0_init ++ zren (fun t => t + 30) BX0_init ++ zren (fun t => t + 40) BX0_init))) rfl ?_
  refine zEK.iinc (v := 4) dX1_init_44 0 rfl rfl (Nat.le_of_ble_eq_true rfl) rfl ?_
  refine zEK.goto 25 dX1_init_47 (by decide) ?_
  refine zEK.iload_n dX1_init_25 rfl 0 rfl ?_
  refine zEK.bipush (v := 8) dX1_init_26 rfl ?_
  refine zEK.icmp_ge 50 dX1_init_28 (by decide) (fun h => absurd h (by decide)) (fun _ => ?_)
  refine zEK.aload_n dX1_init_31 rfl 1 rfl ?_
  refine zEK.gfr (i := 0) [] ([(1, .inr (5, 8, [some 10, some 20, some 30, some 40, none, none, none, none]))] ++ zren (fun t => t + 10) BX0_init ++ zren (fun t => t + 20) BX0_init ++ zren (fun t => t + 30) BX0_init ++ zren (fun t => t + 40) BX0_init) rfl rfl inz1 0 (by decide) wf2_RX1_13 rfl dX1_init_32 ?_
  refine zEK.iload_n dX1_init_35 rfl 0 rfl ?_
  refine zEK.new (ci := 0) (i := 50) (fs := [none, none, none, none, none, none, none, some none, some none, some none, some none, some none, some none]) (M1 := zmz 50 zMP) rfl inz0 tyX0 tyX0_ok wn_RX1_11 (by decide +kernel) (by decide +kernel) ⟨Nat.le_of_ble_eq_true rfl, Nat.le_of_ble_eq_true rfl⟩ rfl (fun t ht => zmz_ne1 _ 50 t (by simpa using ht)) dX1_init_36 rfl ?_
  refine zEK.cB (B' := ((0, .inl (1, [some (some 1), none, none])) :: ([(1, .inr (5, 8, [some 10, some 20, some 30, some 40, none, none, none, none]))] ++ zren (fun t => t + 10) BX0_init ++ zren (fun t => t + 20) BX0_init ++ zren (fun t => t + 30) BX0_init ++ zren (fun t => t + 40) BX0_init ++ [(50, .inl (0, [none, none, none, none, none, none, none, some none, some none, some none, some none, some none, some none]))]))) rfl ?_
  refine zEK.dup dX1_init_39 rfl ?_
  refine zEK.call (Bc := ((0, .inl (1, [some (some 1), none, none])) :: ([(1, .inr (5, 8, [some 10, some 20, some 30, some 40, none, none, none, none]))] ++ zren (fun t => t + 10) BX0_init ++ zren (fun t => t + 20) BX0_init ++ zren (fun t => t + 30) BX0_init ++ zren (fun t => t + 40) BX0_init))) (M1 := zMP) (fun t => t + 50) kX0_init rfl rfl rfl ⟨rfl, rfl⟩ (by decide +kernel) (by decide +kernel) rfl (by decide +kernel) (fun k hk => zM_X1_50 k hk) (fun t ht => zmz_ne _ 50 t (by rintro rfl; revert ht; decide +kernel)) (by decide +kernel) (Or.inr (fun U h => h.1.2.2.2.2.2)) wk2_X0 rfl rfl hyk_X0 ⟨Nat.le_of_ble_eq_true rfl, Nat.le_of_ble_eq_true rfl⟩ ⟨Nat.le_of_ble_eq_true rfl, Nat.le_of_ble_eq_true rfl⟩ (Nat.le_of_ble_eq_true rfl) dX1_init_40 ?_
  refine zEK.cB (B' := ((0, .inl (1, [some (some 1), none, none])) :: ([(1, .inr (5, 8, [some 10, some 20, some 30, some 40, none, none, none, none]))] ++ zren (fun t => t + 10) BX0_init ++ zren (fun t => t + 20) BX0_init ++ zren (fun t => t + 30) BX0_init ++ zren (fun t => t + 40) BX0_init ++ zren (fun t => t + 50) BX0_init))) rfl ?_
  refine zEK.aast (i := 1) (n := 8) (j := 4) (t := 50) ((0, .inl (1, [some (some 1), none, none])) :: ([])) (zren (fun t => t + 10) BX0_init ++ zren (fun t => t + 20) BX0_init ++ zren (fun t => t + 30) BX0_init ++ zren (fun t => t + 40) BX0_init ++ zren (fun t => t + 50) BX0_init) ((0, .inl (1, [some (some 1), none, none])) :: ([(1, .inr (5, 8, [some 10, some 20, some 30, some 40, none, none, none, none]))] ++ zren (fun t => t + 10) BX0_init ++ zren (fun t => t + 20) BX0_init ++ zren (fun t => t + 30) BX0_init ++ zren (fun t => t + 40) BX0_init)) ((zren (fun t => t + 50) BX0_init).tail) rfl rfl (by decide) (by decide) (by decide) dX1_init_43 ?_
  refine zEK.cB (B' := ((0, .inl (1, [some (some 1), none, none])) :: ([(1, .inr (5, 8, [some 10, some 20, some 30, some 40, some 50, none, none, none]))] ++ zren (fun t => t + 10) BX0_init ++ zren (fun t => t + 20) BX0_init ++ zren (fun t => t + 30) BX0_init ++ zren (fun t => t + 40) BX0_init ++ zren (fun t => t + 50) BX0_init))) rfl ?_
  refine zEK.iinc (v := 5) dX1_init_44 0 rfl rfl (Nat.le_of_ble_eq_true rfl) rfl ?_
  refine zEK.goto 25 dX1_init_47 (by decide) ?_
  refine zEK.iload_n dX1_init_25 rfl 0 rfl ?_
  refine zEK.bipush (v := 8) dX1_init_26 rfl ?_
  refine zEK.icmp_ge 50 dX1_init_28 (by decide) (fun h => absurd h (by decide)) (fun _ => ?_)
  refine zEK.aload_n dX1_init_31 rfl 1 rfl ?_
  refine zEK.gfr (i := 0) [] ([(1, .inr (5, 8, [some 10, some 20, some 30, some 40, some 50, none, none, none]))] ++ zren (fun t => t + 10) BX0_init ++ zren (fun t => t + 20) BX0_init ++ zren (fun t => t + 30) BX0_init ++ zren (fun t => t + 40) BX0_init ++ zren (fun t => t + 50) BX0_init) rfl rfl inz1 0 (by decide) wf2_RX1_13 rfl dX1_init_32 ?_
  refine zEK.iload_n dX1_init_35 rfl 0 rfl ?_
  refine zEK.new (ci := 0) (i := 60) (fs := [none, none, none, none, none, none, none, some none, some none, some none, some none, some none, some none]) (M1 := zmz 60 zMP) rfl inz0 tyX0 tyX0_ok wn_RX1_11 (by decide +kernel) (by decide +kernel) ⟨Nat.le_of_ble_eq_true rfl, Nat.le_of_ble_eq_true rfl⟩ rfl (fun t ht => zmz_ne1 _ 60 t (by simpa using ht)) dX1_init_36 rfl ?_
  refine zEK.cB (B' := ((0, .inl (1, [some (some 1), none, none])) :: ([(1, .inr (5, 8, [some 10, some 20, some 30, some 40, some 50, none, none, none]))] ++ zren (fun t => t + 10) BX0_init ++ zren (fun t => t + 20) BX0_init ++ zren (fun t => t + 30) BX0_init ++ zren (fun t => t + 40) BX0_init ++ zren (fun t => t + 50) BX0_init ++ [(60, .inl (0, [none, none, none, none, none, none, none, some none, some none, some none, some none, some none, some none]))]))) rfl ?_
  refine zEK.dup dX1_init_39 rfl ?_
  refine zEK.call (Bc := ((0, .inl (1, [some (some 1), none, none])) :: ([(1, .inr (5, 8, [some 10, some 20, some 30, some 40, some 50, none, none, none]))] ++ zren (fun t => t + 10) BX0_init ++ zren (fun t => t + 20) BX0_init ++ zren (fun t => t + 30) BX0_init ++ zren (fun t => t + 40) BX0_init ++ zren (fun t => t + 50) BX0_init))) (M1 := zMP) (fun t => t + 60) kX0_init rfl rfl rfl ⟨rfl, rfl⟩ (by decide +kernel) (by decide +kernel) rfl (by decide +kernel) (fun k hk => zM_X1_60 k hk) (fun t ht => zmz_ne _ 60 t (by rintro rfl; revert ht; decide +kernel)) (by decide +kernel) (Or.inr (fun U h => h.1.2.2.2.2.2)) wk2_X0 rfl rfl hyk_X0 ⟨Nat.le_of_ble_eq_true rfl, Nat.le_of_ble_eq_true rfl⟩ ⟨Nat.le_of_ble_eq_true rfl, Nat.le_of_ble_eq_true rfl⟩ (Nat.le_of_ble_eq_true rfl) dX1_init_40 ?_
  refine zEK.cB (B' := ((0, .inl (1, [some (some 1), none, none])) :: ([(1, .inr (5, 8, [some 10, some 20, some 30, some 40, some 50, none, none, none]))] ++ zren (fun t => t + 10) BX0_init ++ zren (fun t => t + 20) BX0_init ++ zren (fun t => t + 30) BX0_init ++ zren (fun t => t + 40) BX0_init ++ zren (fun t => t + 50) BX0_init ++ zren (fun t => t + 60) BX0_init))) rfl ?_
  refine zEK.aast (i := 1) (n := 8) (j := 5) (t := 60) ((0, .inl (1, [some (some 1), none, none])) :: ([])) (zren (fun t => t + 10) BX0_init ++ zren (fun t => t + 20) BX0_init ++ zren (fun t => t + 30) BX0_init ++ zren (fun t => t + 40) BX0_init ++ zren (fun t => t + 50) BX0_init ++ zren (fun t => t + 60) BX0_init) ((0, .inl (1, [some (some 1), none, none])) :: ([(1, .inr (5, 8, [some 10, some 20, some 30, some 40, some 50, none, none, none]))] ++ zren (fun t => t + 10) BX0_init ++ zren (fun t => t + 20) BX0_init ++ zren (fun t => t + 30) BX0_init ++ zren (fun t => t + 40) BX0_init ++ zren (fun t => t + 50) BX0_init)) ((zren (fun t => t + 60) BX0_init).tail) rfl rfl (by decide) (by decide) (by decide) dX1_init_43 ?_
  refine zEK.cB (B' := ((0, .inl (1, [some (some 1), none, none])) :: ([(1, .inr (5, 8, [some 10, some 20, some 30, some 40, some 50, some 60, none, none]))] ++ zren (fun t => t + 10) BX0_init ++ zren (fun t => t + 20) BX0_init ++ zren (fun t => t + 30) BX0_init ++ zren (fun t => t + 40) BX0_init ++ zren (fun t => t + 50) BX0_init ++ zren (fun t => t + 60) BX0_init))) rfl ?_
  refine zEK.iinc (v := 6) dX1_init_44 0 rfl rfl (Nat.le_of_ble_eq_true rfl) rfl ?_
  refine zEK.goto 25 dX1_init_47 (by decide) ?_
  refine zEK.iload_n dX1_init_25 rfl 0 rfl ?_
  refine zEK.bipush (v := 8) dX1_init_26 rfl ?_
  refine zEK.icmp_ge 50 dX1_init_28 (by decide) (fun h => absurd h (by decide)) (fun _ => ?_)
  refine zEK.aload_n dX1_init_31 rfl 1 rfl ?_
  refine zEK.gfr (i := 0) [] ([(1, .inr (5, 8, [some 10, some 20, some 30, some 40, some 50, some 60, none, none]))] ++ zren (fun t => t + 10) BX0_init ++ zren (fun t => t + 20) BX0_init ++ zren (fun t => t + 30) BX0_init ++ zren (fun t => t + 40) BX0_init ++ zren (fun t => t + 50) BX0_init ++ zren (fun t => t + 60) BX0_init) rfl rfl inz1 0 (by decide) wf2_RX1_13 rfl dX1_init_32 ?_
  refine zEK.iload_n dX1_init_35 rfl 0 rfl ?_
  refine zEK.new (ci := 0) (i := 70) (fs := [none, none, none, none, none, none, none, some none, some none, some none, some none, some none, some none]) (M1 := zmz 70 zMP) rfl inz0 tyX0 tyX0_ok wn_RX1_11 (by decide +kernel) (by decide +kernel) ⟨Nat.le_of_ble_eq_true rfl, Nat.le_of_ble_eq_true rfl⟩ rfl (fun t ht => zmz_ne1 _ 70 t (by simpa using ht)) dX1_init_36 rfl ?_
  refine zEK.cB (B' := ((0, .inl (1, [some (some 1), none, none])) :: ([(1, .inr (5, 8, [some 10, some 20, some 30, some 40, some 50, some 60, none, none]))] ++ zren (fun t => t + 10) BX0_init ++ zren (fun t => t + 20) BX0_init ++ zren (fun t => t + 30) BX0_init ++ zren (fun t => t + 40) BX0_init ++ zren (fun t => t + 50) BX0_init ++ zren (fun t => t + 60) BX0_init ++ [(70, .inl (0, [none, none, none, none, none, none, none, some none, some none, some none, some none, some none, some none]))]))) rfl ?_
  refine zEK.dup dX1_init_39 rfl ?_
  refine zEK.call (Bc := ((0, .inl (1, [some (some 1), none, none])) :: ([(1, .inr (5, 8, [some 10, some 20, some 30, some 40, some 50, some 60, none, none]))] ++ zren (fun t => t + 10) BX0_init ++ zren (fun t => t + 20) BX0_init ++ zren (fun t => t + 30) BX0_init ++ zren (fun t => t + 40) BX0_init ++ zren (fun t => t + 50) BX0_init ++ zren (fun t => t + 60) BX0_init))) (M1 := zMP) (fun t => t + 70) kX0_init rfl rfl rfl ⟨rfl, rfl⟩ (by decide +kernel) (by decide +kernel) rfl (by decide +kernel) (fun k hk => zM_X1_70 k hk) (fun t ht => zmz_ne _ 70 t (by rintro rfl; revert ht; decide +kernel)) (by decide +kernel) (Or.inr (fun U h => h.1.2.2.2.2.2)) wk2_X0 rfl rfl hyk_X0 ⟨Nat.le_of_ble_eq_true rfl, Nat.le_of_ble_eq_true rfl⟩ ⟨Nat.le_of_ble_eq_true rfl, Nat.le_of_ble_eq_true rfl⟩ (Nat.le_of_ble_eq_true rfl) dX1_init_40 ?_
  refine zEK.cB (B' := ((0, .inl (1, [some (some 1), none, none])) :: ([(1, .inr (5, 8, [some 10, some 20, some 30, some 40, some 50, some 60, none, none]))] ++ zren (fun t => t + 10) BX0_init ++ zren (fun t => t + 20) BX0_init ++ zren (fun t => t + 30) BX0_init ++ zren (fun t => t + 40) BX0_init ++ zren (fun t => t + 50) BX0_init ++ zren (fun t => t + 60) BX0_init ++ zren (fun t => t + 70) BX0_init))) rfl ?_
  refine zEK.aast (i := 1) (n := 8) (j := 6) (t := 70) ((0, .inl (1, [some (some 1), none, none])) :: ([])) (zren (fun t => t + 10) BX0_init ++ zren (fun t => t + 20) BX0_init ++ zren (fun t => t + 30) BX0_init ++ zren (fun t => t + 40) BX0_init ++ zren (fun t => t + 50) BX0_init ++ zren (fun t => t + 60) BX0_init ++ zren (fun t => t + 70) BX0_init) ((0, .inl (1, [some (some 1), none, none])) :: ([(1, .inr (5, 8, [some 10, some 20, some 30, some 40, some 50, some 60, none, none]))] ++ zren (fun t => t + 10) BX0_init ++ zren (fun t => t + 20) BX0_init ++ zren (fun t => t + 30) BX0_init ++ zren (fun t => t + 40) BX0_init ++ zren (fun t => t + 50) BX0_init ++ zren (fun t => t + 60) BX0_init)) ((zren (fun t => t + 70) BX0_init).tail) rfl rfl (by decide) (by decide) (by decide) dX1_init_43 ?_
  refine zEK.cB (B' := ((0, .inl (1, [some (some 1), none, none])) :: ([(1, .inr (5, 8, [some 10, some 20, some 30, some 40, some 50, some 60, some 70, none]))] ++ zren (fun t => t + 10) BX0_init ++ zren (fun t => t + 20) BX0_init ++ zren (fun t => t + 30) BX0_init ++ zren (fun t => t + 40) BX0_init ++ zren (fun t => t + 50) BX0_init ++ zren (fun t => t + 60) BX0_init ++ zren (fun t => t + 70) BX0_init))) rfl ?_
  refine zEK.iinc (v := 7) dX1_init_44 0 rfl rfl (Nat.le_of_ble_eq_true rfl) rfl ?_
  refine zEK.goto 25 dX1_init_47 (by decide) ?_
  refine zEK.iload_n dX1_init_25 rfl 0 rfl ?_
  refine zEK.bipush (v := 8) dX1_init_26 rfl ?_
  refine zEK.icmp_ge 50 dX1_init_28 (by decide) (fun h => absurd h (by decide)) (fun _ => ?_)
  refine zEK.aload_n dX1_init_31 rfl 1 rfl ?_
  refine zEK.gfr (i := 0) [] ([(1, .inr (5, 8, [some 10, some 20, some 30, some 40, some 50, some 60, some 70, none]))] ++ zren (fun t => t + 10) BX0_init ++ zren (fun t => t + 20) BX0_init ++ zren (fun t => t + 30) BX0_init ++ zren (fun t => t + 40) BX0_init ++ zren (fun t => t + 50) BX0_init ++ zren (fun t => t + 60) BX0_init ++ zren (fun t => t + 70) BX0_init) rfl rfl inz1 0 (by decide) wf2_RX1_13 rfl dX1_init_32 ?_
  refine zEK.iload_n dX1_init_35 rfl 0 rfl ?_
  refine zEK.new (ci := 0) (i := 80) (fs := [none, none, none, none, none, none, none, some none, some none, some none, some none, some none, some none]) (M1 := zmz 80 zMP) rfl inz0 tyX0 tyX0_ok wn_RX1_11 (by decide +kernel) (by decide +kernel) ⟨Nat.le_of_ble_eq_true rfl, Nat.le_of_ble_eq_true rfl⟩ rfl (fun t ht => zmz_ne1 _ 80 t (by simpa using ht)) dX1_init_36 rfl ?_
  refine zEK.cB (B' := ((0, .inl (1, [some (some 1), none, none])) :: ([(1, .inr (5, 8, [some 10, some 20, some 30, some 40, some 50, some 60, some 70, none]))] ++ zren (fun t => t + 10) BX0_init ++ zren (fun t => t + 20) BX0_init ++ zren (fun t => t + 30) BX0_init ++ zren (fun t => t + 40) BX0_init ++ zren (fun t => t + 50) BX0_init ++ zren (fun t => t + 60) BX0_init ++ zren (fun t => t + 70) BX0_init ++ [(80, .inl (0, [none, none, none, none, none, none, none, some none, some none, some none, some none, some none, some none]))]))) rfl ?_
  refine zEK.dup dX1_init_39 rfl ?_
  refine zEK.call (Bc := ((0, .inl (1, [some (some 1), none, none])) :: ([(1, .inr (5, 8, [some 10, some 20, some 30, some 40, some 50, some 60, some 70, none]))] ++ zren (fun t => t + 10) BX0_init ++ zren (fun t => t + 20) BX0_init ++ zren (fun t => t + 30) BX0_init ++ zren (fun t => t + 40) BX0_init ++ zren (fun t => t + 50) BX0_init ++ zren (fun t => t + 60) BX0_init ++ zren (fun t => t + 70) BX0_init))) (M1 := zMP) (fun t => t + 80) kX0_init rfl rfl rfl ⟨rfl, rfl⟩ (by decide +kernel) (by decide +kernel) rfl (by decide +kernel) (fun k hk => zM_X1_80 k hk) (fun t ht => zmz_ne _ 80 t (by rintro rfl; revert ht; decide +kernel)) (by decide +kernel) (Or.inr (fun U h => h.1.2.2.2.2.2)) wk2_X0 rfl rfl hyk_X0 ⟨Nat.le_of_ble_eq_true rfl, Nat.le_of_ble_eq_true rfl⟩ ⟨Nat.le_of_ble_eq_true rfl, Nat.le_of_ble_eq_true rfl⟩ (Nat.le_of_ble_eq_true rfl) dX1_init_40 ?_
  refine zEK.cB (B' := ((0, .inl (1, [some (some 1), none, none])) :: ([(1, .inr (5, 8, [some 10, some 20, some 30, some 40, some 50, some 60, some 70, none]))] ++ zren (fun t => t + 10) BX0_init ++ zren (fun t => t + 20) BX0_init ++ zren (fun t => t + 30) BX0_init ++ zren (fun t => t + 40) BX0_init ++ zren (fun t => t + 50) BX0_init ++ zren (fun t => t + 60) BX0_init ++ zren (fun t => t + 70) BX0_init ++ zren (fun t => t + 80) BX0_init))) rfl ?_
  refine zEK.aast (i := 1) (n := 8) (j := 7) (t := 80) ((0, .inl (1, [some (some 1), none, none])) :: ([])) (zren (fun t => t + 10) BX0_init ++ zren (fun t => t + 20) BX0_init ++ zren (fun t => t + 30) BX0_init ++ zren (fun t => t + 40) BX0_init ++ zren (fun t => t + 50) BX0_init ++ zren (fun t => t + 60) BX0_init ++ zren (fun t => t + 70) BX0_init ++ zren (fun t => t + 80) BX0_init) ((0, .inl (1, [some (some 1), none, none])) :: ([(1, .inr (5, 8, [some 10, some 20, some 30, some 40, some 50, some 60, some 70, none]))] ++ zren (fun t => t + 10) BX0_init ++ zren (fun t => t + 20) BX0_init ++ zren (fun t => t + 30) BX0_init ++ zren (fun t => t + 40) BX0_init ++ zren (fun t => t + 50) BX0_init ++ zren (fun t => t + 60) BX0_init ++ zren (fun t => t + 70) BX0_init)) ((zren (fun t => t + 80) BX0_init).tail) rfl rfl (by decide) (by decide) (by decide) dX1_init_43 ?_
  refine zEK.cB (B' := ((0, .inl (1, [some (some 1), none, none])) :: ([(1, .inr (5, 8, [some 10, some 20, some 30, some 40, some 50, some 60, some 70, some 80]))] ++ zren (fun t => t + 10) BX0_init ++ zren (fun t => t + 20) BX0_init ++ zren (fun t => t + 30) BX0_init ++ zren (fun t => t + 40) BX0_init ++ zren (fun t => t + 50) BX0_init ++ zren (fun t => t + 60) BX0_init ++ zren (fun t => t + 70) BX0_init ++ zren (fun t => t + 80) BX0_init))) rfl ?_
  refine zEK.iinc (v := 8) dX1_init_44 0 rfl rfl (Nat.le_of_ble_eq_true rfl) rfl ?_
  refine zEK.goto 25 dX1_init_47 (by decide) ?_
  refine zEK.iload_n dX1_init_25 rfl 0 rfl ?_
  refine zEK.bipush (v := 8) dX1_init_26 rfl ?_
  refine zEK.icmp_ge 50 dX1_init_28 (by decide) (fun _ => ?_) (fun h => absurd (by decide) h)
  exact zEK.vret rfl rfl (Nat.le_of_ble_eq_true rfl) (Nat.le_of_ble_eq_true rfl) dX1_init_50
