def zM0 : zMM := (fun _ _ => 0, fun _ _ => 0)
def zmz (i : Nat) (M : zMM) : zMM := (fun t => if t = i then fun _ => 0 else M.1 t, fun t => if t = i then fun _ => 0 else M.2 t)
theorem zmz_ne (M : zMM) (i t : Nat) (h : t ≠ i) : M.1 t = (zmz i M).1 t ∧ M.2 t = (zmz i M).2 t := ⟨by simp [zmz, h], by simp [zmz, h]⟩
theorem zmz_ne1 (M : zMM) (i t : Nat) (h : ¬ t = i) : (zmz i M).1 t = M.1 t ∧ (zmz i M).2 t = M.2 t := ⟨by simp [zmz, h], by simp [zmz, h]⟩
theorem wr_self {M : zMM} {c j : Nat} {v : Int32} (h : M.1 c j = v) : wr M c j v = M := by
  refine Prod.ext (funext fun c' => ?_) rfl
  by_cases hc : c' = c
  · subst hc
    funext j'
    by_cases hj : j' = j
    · subst hj; simp [wr, h]
    · simp [wr, hj]
  · simp [wr, hc]
theorem zEK.cB {mi : zMI} {mc ms cs ss : Nat} {o : zBB × zMM} {pc : Nat} {L : List (Nat × zAV)} {st : List zAV} {B B' : zBB} {M : zMM} (h : B = B') (k : zEK mi mc ms o pc L st cs ss B' M) : zEK mi mc ms o pc L st cs ss B M := by rw [h]; exact k
abbrev iX0_init : zMI := (RX0, cX0_init, 1, none, 1, 20)
theorem hyk_X0 : yX0_init.cls ≠ "java/lang/invoke/MethodHandle" ∧ yX0_init.cls ≠ "java/lang/invoke/VarHandle" ∧ (parseMethodDescriptor yX0_init.desc).map (fun d => d.parameters.length) = some 0 := by decide +kernel
def BX0_init : zBB := ((0, .inl (0, [none, none, none, none, none, none, none, some (some 1), some (some 2), some (some 3), some (some 7), some (some 8), some (some 9)])) :: (([(1, .inr (0, 3, [])), (2, .inr (0, 3, [])), (3, .inr (4, 3, [some 4, some 5, some 6])), (4, .inr (0, 70, [])), (5, .inr (0, 70, [])), (6, .inr (0, 70, [])), (7, .inr (0, 12, [])), (8, .inr (0, 12, [])), (9, .inr (0, 12, []))] : zBB)))
def MX0_init : zMM := (wr (wr (wr (wr (wr (wr (wr (wr (wr zM0 0 0 40) 0 1 20) 0 2 1) 0 3 2) 0 4 10) 0 5 10) 1 0 10000) 1 1 100) 1 2 1)
theorem BX0_init_ids : BX0_init.map Prod.fst = [0, 1, 2, 3, 4, 5, 6, 7, 8, 9] := by decide +kernel
theorem wobj : Cond.instanceMethod objectInit ∈ zWS ∧ Cond.code objectInit ⟨#[0xb1]⟩ 1 none ∈ zWS := ⟨zt1 26 rfl rfl, zt1 27 rfl rfl⟩
theorem wm2_RX0_3 : Cond.methodLink RX0 3 objectInit ∈ zWS := zt1 33 rfl rfl
theorem wf2_RX0_9 : Cond.fieldLink RX0 9 (TX0 0).1 (TX0 0).2.1 (TX0 0).2.2.1 ∈ zWS := zt1 36 rfl rfl
theorem wf2_RX0_15 : Cond.fieldLink RX0 15 (TX0 1).1 (TX0 1).2.1 (TX0 1).2.2.1 ∈ zWS := zt1 39 rfl rfl
theorem wf2_RX0_18 : Cond.fieldLink RX0 18 (TX0 2).1 (TX0 2).2.1 (TX0 2).2.2.1 ∈ zWS := zt1 42 rfl rfl
theorem wf2_RX0_21 : Cond.fieldLink RX0 21 (TX0 3).1 (TX0 3).2.1 (TX0 3).2.2.1 ∈ zWS := zt1 45 rfl rfl
theorem wf2_RX0_24 : Cond.fieldLink RX0 24 (TX0 4).1 (TX0 4).2.1 (TX0 4).2.2.1 ∈ zWS := zt1 49 rfl rfl
theorem wf2_RX0_27 : Cond.fieldLink RX0 27 (TX0 5).1 (TX0 5).2.1 (TX0 5).2.2.1 ∈ zWS := zt1 53 rfl rfl
theorem wf2_RX0_30 : Cond.fieldLink RX0 30 (TX0 6).1 (TX0 6).2.1 (TX0 6).2.2.1 ∈ zWS := zt1 57 rfl rfl
theorem wa_int : Cond.arrayClass .int ∈ zWS := zt1 105 rfl rfl
theorem wf2_RX0_33 : Cond.fieldLink RX0 33 (TX0 7).1 (TX0 7).2.1 (TX0 7).2.2.1 ∈ zWS := zt1 60 rfl rfl
theorem wf2_RX0_37 : Cond.fieldLink RX0 37 (TX0 8).1 (TX0 8).2.1 (TX0 8).2.2.1 ∈ zWS := zt1 63 rfl rfl
theorem wcl_RX0_40 : Cond.classLink RX0 40 "[[I" ∈ zWS := zt1 34 rfl rfl
theorem wf2_RX0_42 : Cond.fieldLink RX0 42 (TX0 9).1 (TX0 9).2.1 (TX0 9).2.2.1 ∈ zWS := zt1 66 rfl rfl
theorem wf2_RX0_45 : Cond.fieldLink RX0 45 (TX0 10).1 (TX0 10).2.1 (TX0 10).2.2.1 ∈ zWS := zt1 69 rfl rfl
theorem wf2_RX0_48 : Cond.fieldLink RX0 48 (TX0 11).1 (TX0 11).2.1 (TX0 11).2.2.1 ∈ zWS := zt1 72 rfl rfl
theorem wf2_RX0_51 : Cond.fieldLink RX0 51 (TX0 12).1 (TX0 12).2.1 (TX0 12).2.2.1 ∈ zWS := zt1 75 rfl rfl
set_option maxHeartbeats 4000000 in
set_option maxRecDepth 100000 in
theorem kX0_init : zKN yX0_init iX0_init 9 255 [(0, .inl (0, [none, none, none, none, none, none, none, some none, some none, some none, some none, some none, some none]))] zM0 (BX0_init, MX0_init) := by
  refine zKN.of (by decide) rfl (Nat.le_of_ble_eq_true rfl) rfl ?_
  refine zEK.aload_n dX0_init_0 rfl 0 rfl ?_
  refine zEK.obj wm2_RX0_3 wobj ⟨Nat.le_of_ble_eq_true rfl, Nat.le_of_ble_eq_true rfl⟩ dX0_init_1 ?_
  refine zEK.aload_n dX0_init_4 rfl 0 rfl ?_
  refine zEK.bipush (v := 40) dX0_init_5 rfl ?_
  refine zEK.pfi (ci := 0) (i := 0) (fs := [none, none, none, none, none, none, none, some none, some none, some none, some none, some none, some none]) [] (([] : zBB)) rfl rfl inz0 tyX0 tyX0_ok nmX0 0 (by decide) wf2_RX0_9 rfl (tyX0_ok 0 (by decide)) rfl dX0_init_7 ?_
  refine zEK.aload_n dX0_init_10 rfl 0 rfl ?_
  refine zEK.bipush (v := 20) dX0_init_11 rfl ?_
  refine zEK.pfi (ci := 0) (i := 0) (fs := [none, none, none, none, none, none, none, some none, some none, some none, some none, some none, some none]) [] (([] : zBB)) rfl rfl inz0 tyX0 tyX0_ok nmX0 1 (by decide) wf2_RX0_15 rfl (tyX0_ok 1 (by decide)) rfl dX0_init_13 ?_
  refine zEK.aload_n dX0_init_16 rfl 0 rfl ?_
  refine zEK.iconst (v := 1) dX0_init_17 rfl ?_
  refine zEK.pfi (ci := 0) (i := 0) (fs := [none, none, none, none, none, none, none, some none, some none, some none, some none, some none, some none]) [] (([] : zBB)) rfl rfl inz0 tyX0 tyX0_ok nmX0 2 (by decide) wf2_RX0_18 rfl (tyX0_ok 2 (by decide)) rfl dX0_init_18 ?_
  refine zEK.aload_n dX0_init_21 rfl 0 rfl ?_
  refine zEK.iconst (v := 2) dX0_init_22 rfl ?_
  refine zEK.pfi (ci := 0) (i := 0) (fs := [none, none, none, none, none, none, none, some none, some none, some none, some none, some none, some none]) [] (([] : zBB)) rfl rfl inz0 tyX0 tyX0_ok nmX0 3 (by decide) wf2_RX0_21 rfl (tyX0_ok 3 (by decide)) rfl dX0_init_23 ?_
  refine zEK.aload_n dX0_init_26 rfl 0 rfl ?_
  refine zEK.bipush (v := 10) dX0_init_27 rfl ?_
  refine zEK.pfi (ci := 0) (i := 0) (fs := [none, none, none, none, none, none, none, some none, some none, some none, some none, some none, some none]) [] (([] : zBB)) rfl rfl inz0 tyX0 tyX0_ok nmX0 4 (by decide) wf2_RX0_24 rfl (tyX0_ok 4 (by decide)) rfl dX0_init_29 ?_
  refine zEK.aload_n dX0_init_32 rfl 0 rfl ?_
  refine zEK.bipush (v := 10) dX0_init_33 rfl ?_
  refine zEK.pfi (ci := 0) (i := 0) (fs := [none, none, none, none, none, none, none, some none, some none, some none, some none, some none, some none]) [] (([] : zBB)) rfl rfl inz0 tyX0 tyX0_ok nmX0 5 (by decide) wf2_RX0_27 rfl (tyX0_ok 5 (by decide)) rfl dX0_init_35 ?_
  refine zEK.aload_n dX0_init_38 rfl 0 rfl ?_
  refine zEK.iconst (v := 0) dX0_init_39 rfl ?_
  refine zEK.pfi (ci := 0) (i := 0) (fs := [none, none, none, none, none, none, none, some none, some none, some none, some none, some none, some none]) [] (([] : zBB)) rfl rfl inz0 tyX0 tyX0_ok nmX0 6 (by decide) wf2_RX0_30 rfl (tyX0_ok 6 (by decide)) rfl dX0_init_40 ?_
  rw [wr_self (M := (wr (wr (wr (wr (wr (wr zM0 0 0 40) 0 1 20) 0 2 1) 0 3 2) 0 4 10) 0 5 10)) (c := 0) (j := 6) (v := 0) rfl]
  refine zEK.aload_n dX0_init_43 rfl 0 rfl ?_
  refine zEK.iconst (v := 3) dX0_init_44 rfl ?_
  refine zEK.newa (atype := .int) (ty := .int) (i := 1) (k := 0) (N' := 3) rfl (fun _ => rfl) (by decide) wa_int (by decide +kernel) (by decide) (by decide) (Nat.le_of_ble_eq_true rfl) ⟨Nat.le_of_ble_eq_true rfl, Nat.le_of_ble_eq_true rfl⟩ rfl rfl dX0_init_45 ?_
  refine zEK.cB (B' := ((0, .inl (0, [none, none, none, none, none, none, none, some none, some none, some none, some none, some none, some none])) :: (([(1, .inr (0, 3, []))] : zBB)))) rfl ?_
  refine zEK.dup dX0_init_47 rfl ?_
  refine zEK.iconst (v := 0) dX0_init_48 rfl ?_
  refine zEK.sipush (v := 10000) dX0_init_49 rfl ?_
  refine zEK.iast (i := 1) (n := 3) (j := 0) ((0, .inl (0, [none, none, none, none, none, none, none, some none, some none, some none, some none, some none, some none])) :: (([] : zBB))) (([] : zBB)) rfl (by decide) (by decide) dX0_init_52 ?_
  refine zEK.dup dX0_init_53 rfl ?_
  refine zEK.iconst (v := 1) dX0_init_54 rfl ?_
  refine zEK.bipush (v := 100) dX0_init_55 rfl ?_
  refine zEK.iast (i := 1) (n := 3) (j := 1) ((0, .inl (0, [none, none, none, none, none, none, none, some none, some none, some none, some none, some none, some none])) :: (([] : zBB))) (([] : zBB)) rfl (by decide) (by decide) dX0_init_57 ?_
  refine zEK.dup dX0_init_58 rfl ?_
  refine zEK.iconst (v := 2) dX0_init_59 rfl ?_
  refine zEK.iconst (v := 1) dX0_init_60 rfl ?_
  refine zEK.iast (i := 1) (n := 3) (j := 2) ((0, .inl (0, [none, none, none, none, none, none, none, some none, some none, some none, some none, some none, some none])) :: (([] : zBB))) (([] : zBB)) rfl (by decide) (by decide) dX0_init_61 ?_
  refine zEK.pfr (ci := 0) (i := 0) (fs := [none, none, none, none, none, none, none, some none, some none, some none, some none, some none, some none]) [] (([(1, .inr (0, 3, []))] : zBB)) rfl rfl inz0 tyX0 tyX0_ok nmX0 7 (by decide) wf2_RX0_33 rfl rfl (ty := tyX0 7) (tyX0_ok 7 (by decide)) rfl rfl dX0_init_62 ?_
  refine zEK.cB (B' := ((0, .inl (0, [none, none, none, none, none, none, none, some (some 1), some none, some none, some none, some none, some none])) :: (([(1, .inr (0, 3, []))] : zBB)))) rfl ?_
  refine zEK.aload_n dX0_init_65 rfl 0 rfl ?_
  refine zEK.iconst (v := 3) dX0_init_66 rfl ?_
  refine zEK.newa (atype := .int) (ty := .int) (i := 2) (k := 0) (N' := 3) rfl (fun _ => rfl) (by decide) wa_int (by decide +kernel) (by decide) (by decide) (Nat.le_of_ble_eq_true rfl) ⟨Nat.le_of_ble_eq_true rfl, Nat.le_of_ble_eq_true rfl⟩ rfl rfl dX0_init_67 ?_
  refine zEK.cB (B' := ((0, .inl (0, [none, none, none, none, none, none, none, some (some 1), some none, some none, some none, some none, some none])) :: (([(1, .inr (0, 3, [])), (2, .inr (0, 3, []))] : zBB)))) rfl ?_
  refine zEK.pfr (ci := 0) (i := 0) (fs := [none, none, none, none, none, none, none, some (some 1), some none, some none, some none, some none, some none]) [] (([(1, .inr (0, 3, [])), (2, .inr (0, 3, []))] : zBB)) rfl rfl inz0 tyX0 tyX0_ok nmX0 8 (by decide) wf2_RX0_37 rfl rfl (ty := tyX0 8) (tyX0_ok 8 (by decide)) rfl rfl dX0_init_69 ?_
  refine zEK.cB (B' := ((0, .inl (0, [none, none, none, none, none, none, none, some (some 1), some (some 2), some none, some none, some none, some none])) :: (([(1, .inr (0, 3, [])), (2, .inr (0, 3, []))] : zBB)))) rfl ?_
  refine zEK.aload_n dX0_init_72 rfl 0 rfl ?_
  refine zEK.iconst (v := 3) dX0_init_73 rfl ?_
  refine zEK.bipush (v := 70) dX0_init_74 rfl ?_
  refine zEK.mna (i := 3) (i1 := 4) (i2 := 5) (i3 := 6) (K' := 70) wcl_RX0_40 wa_int (by decide +kernel) (by decide) (by decide) (by decide) (by decide) ⟨Nat.le_of_ble_eq_true rfl, Nat.le_of_ble_eq_true rfl⟩ (fun t ht => by simp only [List.mem_cons, List.not_mem_nil, or_false] at ht; rcases ht with rfl | rfl | rfl <;> rfl) dX0_init_76 ?_
  refine zEK.cB (B' := ((0, .inl (0, [none, none, none, none, none, none, none, some (some 1), some (some 2), some none, some none, some none, some none])) :: (([(1, .inr (0, 3, [])), (2, .inr (0, 3, [])), (3, .inr (4, 3, [some 4, some 5, some 6])), (4, .inr (0, 70, [])), (5, .inr (0, 70, [])), (6, .inr (0, 70, []))] : zBB)))) rfl ?_
  refine zEK.pfr (ci := 0) (i := 0) (fs := [none, none, none, none, none, none, none, some (some 1), some (some 2), some none, some none, some none, some none]) [] (([(1, .inr (0, 3, [])), (2, .inr (0, 3, [])), (3, .inr (4, 3, [some 4, some 5, some 6])), (4, .inr (0, 70, [])), (5, .inr (0, 70, [])), (6, .inr (0, 70, []))] : zBB)) rfl rfl inz0 tyX0 tyX0_ok nmX0 9 (by decide) wf2_RX0_42 rfl rfl (ty := tyX0 9) (tyX0_ok 9 (by decide)) rfl rfl dX0_init_80 ?_
  refine zEK.cB (B' := ((0, .inl (0, [none, none, none, none, none, none, none, some (some 1), some (some 2), some (some 3), some none, some none, some none])) :: (([(1, .inr (0, 3, [])), (2, .inr (0, 3, [])), (3, .inr (4, 3, [some 4, some 5, some 6])), (4, .inr (0, 70, [])), (5, .inr (0, 70, [])), (6, .inr (0, 70, []))] : zBB)))) rfl ?_
  refine zEK.aload_n dX0_init_83 rfl 0 rfl ?_
  refine zEK.bipush (v := 12) dX0_init_84 rfl ?_
  refine zEK.newa (atype := .int) (ty := .int) (i := 7) (k := 0) (N' := 12) rfl (fun _ => rfl) (by decide) wa_int (by decide +kernel) (by decide) (by decide) (Nat.le_of_ble_eq_true rfl) ⟨Nat.le_of_ble_eq_true rfl, Nat.le_of_ble_eq_true rfl⟩ rfl rfl dX0_init_86 ?_
  refine zEK.cB (B' := ((0, .inl (0, [none, none, none, none, none, none, none, some (some 1), some (some 2), some (some 3), some none, some none, some none])) :: (([(1, .inr (0, 3, [])), (2, .inr (0, 3, [])), (3, .inr (4, 3, [some 4, some 5, some 6])), (4, .inr (0, 70, [])), (5, .inr (0, 70, [])), (6, .inr (0, 70, [])), (7, .inr (0, 12, []))] : zBB)))) rfl ?_
  refine zEK.pfr (ci := 0) (i := 0) (fs := [none, none, none, none, none, none, none, some (some 1), some (some 2), some (some 3), some none, some none, some none]) [] (([(1, .inr (0, 3, [])), (2, .inr (0, 3, [])), (3, .inr (4, 3, [some 4, some 5, some 6])), (4, .inr (0, 70, [])), (5, .inr (0, 70, [])), (6, .inr (0, 70, [])), (7, .inr (0, 12, []))] : zBB)) rfl rfl inz0 tyX0 tyX0_ok nmX0 10 (by decide) wf2_RX0_45 rfl rfl (ty := tyX0 10) (tyX0_ok 10 (by decide)) rfl rfl dX0_init_88 ?_
  refine zEK.cB (B' := ((0, .inl (0, [none, none, none, none, none, none, none, some (some 1), some (some 2), some (some 3), some (some 7), some none, some none])) :: (([(1, .inr (0, 3, [])), (2, .inr (0, 3, [])), (3, .inr (4, 3, [some 4, some 5, some 6])), (4, .inr (0, 70, [])), (5, .inr (0, 70, [])), (6, .inr (0, 70, [])), (7, .inr (0, 12, []))] : zBB)))) rfl ?_
  refine zEK.aload_n dX0_init_91 rfl 0 rfl ?_
  refine zEK.bipush (v := 12) dX0_init_92 rfl ?_
  refine zEK.newa (atype := .int) (ty := .int) (i := 8) (k := 0) (N' := 12) rfl (fun _ => rfl) (by decide) wa_int (by decide +kernel) (by decide) (by decide) (Nat.le_of_ble_eq_true rfl) ⟨Nat.le_of_ble_eq_true rfl, Nat.le_of_ble_eq_true rfl⟩ rfl rfl dX0_init_94 ?_
  refine zEK.cB (B' := ((0, .inl (0, [none, none, none, none, none, none, none, some (some 1), some (some 2), some (some 3), some (some 7), some none, some none])) :: (([(1, .inr (0, 3, [])), (2, .inr (0, 3, [])), (3, .inr (4, 3, [some 4, some 5, some 6])), (4, .inr (0, 70, [])), (5, .inr (0, 70, [])), (6, .inr (0, 70, [])), (7, .inr (0, 12, [])), (8, .inr (0, 12, []))] : zBB)))) rfl ?_
  refine zEK.pfr (ci := 0) (i := 0) (fs := [none, none, none, none, none, none, none, some (some 1), some (some 2), some (some 3), some (some 7), some none, some none]) [] (([(1, .inr (0, 3, [])), (2, .inr (0, 3, [])), (3, .inr (4, 3, [some 4, some 5, some 6])), (4, .inr (0, 70, [])), (5, .inr (0, 70, [])), (6, .inr (0, 70, [])), (7, .inr (0, 12, [])), (8, .inr (0, 12, []))] : zBB)) rfl rfl inz0 tyX0 tyX0_ok nmX0 11 (by decide) wf2_RX0_48 rfl rfl (ty := tyX0 11) (tyX0_ok 11 (by decide)) rfl rfl dX0_init_96 ?_
  refine zEK.cB (B' := ((0, .inl (0, [none, none, none, none, none, none, none, some (some 1), some (some 2), some (some 3), some (some 7), some (some 8), some none])) :: (([(1, .inr (0, 3, [])), (2, .inr (0, 3, [])), (3, .inr (4, 3, [some 4, some 5, some 6])), (4, .inr (0, 70, [])), (5, .inr (0, 70, [])), (6, .inr (0, 70, [])), (7, .inr (0, 12, [])), (8, .inr (0, 12, []))] : zBB)))) rfl ?_
  refine zEK.aload_n dX0_init_99 rfl 0 rfl ?_
  refine zEK.bipush (v := 12) dX0_init_100 rfl ?_
  refine zEK.newa (atype := .int) (ty := .int) (i := 9) (k := 0) (N' := 12) rfl (fun _ => rfl) (by decide) wa_int (by decide +kernel) (by decide) (by decide) (Nat.le_of_ble_eq_true rfl) ⟨Nat.le_of_ble_eq_true rfl, Nat.le_of_ble_eq_true rfl⟩ rfl rfl dX0_init_102 ?_
  refine zEK.cB (B' := ((0, .inl (0, [none, none, none, none, none, none, none, some (some 1), some (some 2), some (some 3), some (some 7), some (some 8), some none])) :: (([(1, .inr (0, 3, [])), (2, .inr (0, 3, [])), (3, .inr (4, 3, [some 4, some 5, some 6])), (4, .inr (0, 70, [])), (5, .inr (0, 70, [])), (6, .inr (0, 70, [])), (7, .inr (0, 12, [])), (8, .inr (0, 12, [])), (9, .inr (0, 12, []))] : zBB)))) rfl ?_
  refine zEK.pfr (ci := 0) (i := 0) (fs := [none, none, none, none, none, none, none, some (some 1), some (some 2), some (some 3), some (some 7), some (some 8), some none]) [] (([(1, .inr (0, 3, [])), (2, .inr (0, 3, [])), (3, .inr (4, 3, [some 4, some 5, some 6])), (4, .inr (0, 70, [])), (5, .inr (0, 70, [])), (6, .inr (0, 70, [])), (7, .inr (0, 12, [])), (8, .inr (0, 12, [])), (9, .inr (0, 12, []))] : zBB)) rfl rfl inz0 tyX0 tyX0_ok nmX0 12 (by decide) wf2_RX0_51 rfl rfl (ty := tyX0 12) (tyX0_ok 12 (by decide)) rfl rfl dX0_init_104 ?_
  refine zEK.cB (B' := ((0, .inl (0, [none, none, none, none, none, none, none, some (some 1), some (some 2), some (some 3), some (some 7), some (some 8), some (some 9)])) :: (([(1, .inr (0, 3, [])), (2, .inr (0, 3, [])), (3, .inr (4, 3, [some 4, some 5, some 6])), (4, .inr (0, 70, [])), (5, .inr (0, 70, [])), (6, .inr (0, 70, [])), (7, .inr (0, 12, [])), (8, .inr (0, 12, [])), (9, .inr (0, 12, []))] : zBB)))) rfl ?_
  exact zEK.vret rfl rfl (Nat.le_of_ble_eq_true rfl) (Nat.le_of_ble_eq_true rfl) dX0_init_107
abbrev iX2_init : zMI := (RX2, cX2_init, 1, none, 1, 20)
theorem hyk_X2 : yX2_init.cls ≠ "java/lang/invoke/MethodHandle" ∧ yX2_init.cls ≠ "java/lang/invoke/VarHandle" ∧ (parseMethodDescriptor yX2_init.desc).map (fun d => d.parameters.length) = some 0 := by decide +kernel
def BX2_init : zBB := ((0, .inl (2, [some (some 1), none])) :: (([(1, .inr (3, 60, []))] : zBB)))
def MX2_init : zMM := zM0
theorem BX2_init_ids : BX2_init.map Prod.fst = [0, 1] := by decide +kernel
theorem wm2_RX2_1 : Cond.methodLink RX2 1 objectInit ∈ zWS := zt1 219 rfl rfl
theorem wa_long : Cond.arrayClass .long ∈ zWS := zt1 229 rfl rfl
theorem wf2_RX2_9 : Cond.fieldLink RX2 9 (TX2 0).1 (TX2 0).2.1 (TX2 0).2.2.1 ∈ zWS := zt1 220 rfl rfl
theorem wf2_RX2_13 : Cond.fieldLink RX2 13 (TX2 1).1 (TX2 1).2.1 (TX2 1).2.2.1 ∈ zWS := zt1 222 rfl rfl
set_option maxHeartbeats 4000000 in
set_option maxRecDepth 100000 in
theorem kX2_init : zKN yX2_init iX2_init 1 60 [(0, .inl (2, [some none, none]))] zM0 (BX2_init, MX2_init) := by
  refine zKN.of (by decide) rfl (Nat.le_of_ble_eq_true rfl) rfl ?_
  refine zEK.aload_n dX2_init_0 rfl 0 rfl ?_
  refine zEK.obj wm2_RX2_1 wobj ⟨Nat.le_of_ble_eq_true rfl, Nat.le_of_ble_eq_true rfl⟩ dX2_init_1 ?_
  refine zEK.aload_n dX2_init_4 rfl 0 rfl ?_
  refine zEK.bipush (v := 60) dX2_init_5 rfl ?_
  refine zEK.newa (atype := .long) (ty := .long) (i := 1) (k := 3) (N' := 60) rfl (fun _ => rfl) (by decide) wa_long (by decide +kernel) (by decide) (by decide) (Nat.le_of_ble_eq_true rfl) ⟨Nat.le_of_ble_eq_true rfl, Nat.le_of_ble_eq_true rfl⟩ rfl rfl dX2_init_7 ?_
  refine zEK.cB (B' := ((0, .inl (2, [some none, none])) :: (([(1, .inr (3, 60, []))] : zBB)))) rfl ?_
  refine zEK.pfr (ci := 2) (i := 0) (fs := [some none, none]) [] (([(1, .inr (3, 60, []))] : zBB)) rfl rfl inz2 tyX2 tyX2_ok nmX2 0 (by decide) wf2_RX2_9 rfl rfl (ty := tyX2 0) (tyX2_ok 0 (by decide)) rfl rfl dX2_init_9 ?_
  refine zEK.cB (B' := ((0, .inl (2, [some (some 1), none])) :: (([(1, .inr (3, 60, []))] : zBB)))) rfl ?_
  refine zEK.aload_n dX2_init_12 rfl 0 rfl ?_
  refine zEK.iconst (v := 0) dX2_init_13 rfl ?_
  refine zEK.pfi (ci := 2) (i := 0) (fs := [some (some 1), none]) [] (([(1, .inr (3, 60, []))] : zBB)) rfl rfl inz2 tyX2 tyX2_ok nmX2 1 (by decide) wf2_RX2_13 rfl (tyX2_ok 1 (by decide)) rfl dX2_init_14 ?_
  rw [wr_self (M := zM0) (c := 0) (j := 1) (v := 0) rfl]
  exact zEK.vret rfl rfl (Nat.le_of_ble_eq_true rfl) (Nat.le_of_ble_eq_true rfl) dX2_init_17
abbrev iX3_init : zMI := (RX3, cX3_init, 1, none, 1, 20)
theorem hyk_X3 : yX3_init.cls ≠ "java/lang/invoke/MethodHandle" ∧ yX3_init.cls ≠ "java/lang/invoke/VarHandle" ∧ (parseMethodDescriptor yX3_init.desc).map (fun d => d.parameters.length) = some 0 := by decide +kernel
def BX3_init : zBB := ((0, .inl (3, [none, none, none, none, none])) :: (([] : zBB)))
def MX3_init : zMM := zM0
theorem BX3_init_ids : BX3_init.map Prod.fst = [0] := by decide +kernel
theorem wm2_RX3_3 : Cond.methodLink RX3 3 objectInit ∈ zWS := zt1 157 rfl rfl
theorem wf2_RX3_9 : Cond.fieldLink RX3 9 (TX3 0).1 (TX3 0).2.1 (TX3 0).2.2.1 ∈ zWS := zt1 158 rfl rfl
theorem wf2_RX3_15 : Cond.fieldLink RX3 15 (TX3 1).1 (TX3 1).2.1 (TX3 1).2.2.1 ∈ zWS := zt1 160 rfl rfl
theorem wf2_RX3_18 : Cond.fieldLink RX3 18 (TX3 2).1 (TX3 2).2.1 (TX3 2).2.2.1 ∈ zWS := zt1 162 rfl rfl
theorem wf2_RX3_21 : Cond.fieldLink RX3 21 (TX3 3).1 (TX3 3).2.1 (TX3 3).2.2.1 ∈ zWS := zt1 164 rfl rfl
theorem wf2_RX3_24 : Cond.fieldLink RX3 24 (TX3 4).1 (TX3 4).2.1 (TX3 4).2.2.1 ∈ zWS := zt1 166 rfl rfl
set_option maxHeartbeats 4000000 in
set_option maxRecDepth 100000 in
theorem kX3_init : zKN yX3_init iX3_init 0 0 [(0, .inl (3, [none, none, none, none, none]))] zM0 (BX3_init, MX3_init) := by
  refine zKN.of (by decide) rfl (Nat.le_of_ble_eq_true rfl) rfl ?_
  refine zEK.aload_n dX3_init_0 rfl 0 rfl ?_
  refine zEK.obj wm2_RX3_3 wobj ⟨Nat.le_of_ble_eq_true rfl, Nat.le_of_ble_eq_true rfl⟩ dX3_init_1 ?_
  refine zEK.aload_n dX3_init_4 rfl 0 rfl ?_
  refine zEK.iconst (v := 0) dX3_init_5 rfl ?_
  refine zEK.pfi (ci := 3) (i := 0) (fs := [none, none, none, none, none]) [] (([] : zBB)) rfl rfl inz3 tyX3 tyX3_ok nmX3 0 (by decide) wf2_RX3_9 rfl (tyX3_ok 0 (by decide)) rfl dX3_init_6 ?_
  rw [wr_self (M := zM0) (c := 0) (j := 0) (v := 0) rfl]
  refine zEK.aload_n dX3_init_9 rfl 0 rfl ?_
  refine zEK.iconst (v := 0) dX3_init_10 rfl ?_
  refine zEK.pfi (ci := 3) (i := 0) (fs := [none, none, none, none, none]) [] (([] : zBB)) rfl rfl inz3 tyX3 tyX3_ok nmX3 1 (by decide) wf2_RX3_15 rfl (tyX3_ok 1 (by decide)) rfl dX3_init_11 ?_
  rw [wr_self (M := zM0) (c := 0) (j := 1) (v := 0) rfl]
  refine zEK.aload_n dX3_init_14 rfl 0 rfl ?_
  refine zEK.iconst (v := 0) dX3_init_15 rfl ?_
  refine zEK.pfi (ci := 3) (i := 0) (fs := [none, none, none, none, none]) [] (([] : zBB)) rfl rfl inz3 tyX3 tyX3_ok nmX3 2 (by decide) wf2_RX3_18 rfl (tyX3_ok 2 (by decide)) rfl dX3_init_16 ?_
  rw [wr_self (M := zM0) (c := 0) (j := 2) (v := 0) rfl]
  refine zEK.aload_n dX3_init_19 rfl 0 rfl ?_
  refine zEK.iconst (v := 0) dX3_init_20 rfl ?_
  refine zEK.pfi (ci := 3) (i := 0) (fs := [none, none, none, none, none]) [] (([] : zBB)) rfl rfl inz3 tyX3 tyX3_ok nmX3 3 (by decide) wf2_RX3_21 rfl (tyX3_ok 3 (by decide)) rfl dX3_init_21 ?_
  rw [wr_self (M := zM0) (c := 0) (j := 3) (v := 0) rfl]
  refine zEK.aload_n dX3_init_24 rfl 0 rfl ?_
  refine zEK.iconst (v := 0) dX3_init_25 rfl ?_
  refine zEK.pfi (ci := 3) (i := 0) (fs := [none, none, none, none, none]) [] (([] : zBB)) rfl rfl inz3 tyX3 tyX3_ok nmX3 4 (by decide) wf2_RX3_24 rfl (tyX3_ok 4 (by decide)) rfl dX3_init_26 ?_
  rw [wr_self (M := zM0) (c := 0) (j := 4) (v := 0) rfl]
  exact zEK.vret rfl rfl (Nat.le_of_ble_eq_true rfl) (Nat.le_of_ble_eq_true rfl) dX3_init_29
abbrev iX4_init : zMI := (RX4, cX4_init, 1, none, 1, 20)
theorem hyk_X4 : yX4_init.cls ≠ "java/lang/invoke/MethodHandle" ∧ yX4_init.cls ≠ "java/lang/invoke/VarHandle" ∧ (parseMethodDescriptor yX4_init.desc).map (fun d => d.parameters.length) = some 0 := by decide +kernel
def BX4_init : zBB := ((0, .inl (4, [none, some (some 1), some (some 2), some (some 3), some (some 4), some (some 8), some (some 12), some (some 16), some (some 20), some (some 24)])) :: (([(1, .inr (0, 3, [])), (2, .inr (0, 3, [])), (3, .inr (0, 3, [])), (4, .inr (4, 3, [some 5, some 6, some 7])), (5, .inr (0, 70, [])), (6, .inr (0, 70, [])), (7, .inr (0, 70, [])), (8, .inr (4, 3, [some 9, some 10, some 11])), (9, .inr (0, 210, [])), (10, .inr (0, 210, [])), (11, .inr (0, 210, [])), (12, .inr (4, 3, [some 13, some 14, some 15])), (13, .inr (0, 210, [])), (14, .inr (0, 210, [])), (15, .inr (0, 210, [])), (16, .inr (4, 3, [some 17, some 18, some 19])), (17, .inr (0, 210, [])), (18, .inr (0, 210, [])), (19, .inr (0, 210, [])), (20, .inr (4, 3, [some 21, some 22, some 23])), (21, .inr (0, 210, [])), (22, .inr (0, 210, [])), (23, .inr (0, 210, [])), (24, .inr (4, 3, [some 25, some 26, some 27])), (25, .inr (0, 210, [])), (26, .inr (0, 210, [])), (27, .inr (0, 210, []))] : zBB)))
def MX4_init : zMM := zM0
theorem BX4_init_ids : BX4_init.map Prod.fst = [0, 1, 2, 3, 4, 5, 6, 7, 8, 9, 10, 11, 12, 13, 14, 15, 16, 17, 18, 19, 20, 21, 22, 23, 24, 25, 26, 27] := by decide +kernel
theorem wm2_RX4_3 : Cond.methodLink RX4 3 objectInit ∈ zWS := zt1 111 rfl rfl
theorem wf2_RX4_9 : Cond.fieldLink RX4 9 (TX4 0).1 (TX4 0).2.1 (TX4 0).2.2.1 ∈ zWS := zt1 113 rfl rfl
theorem wf2_RX4_15 : Cond.fieldLink RX4 15 (TX4 1).1 (TX4 1).2.1 (TX4 1).2.2.1 ∈ zWS := zt1 115 rfl rfl
theorem wf2_RX4_19 : Cond.fieldLink RX4 19 (TX4 2).1 (TX4 2).2.1 (TX4 2).2.2.1 ∈ zWS := zt1 116 rfl rfl
theorem wf2_RX4_22 : Cond.fieldLink RX4 22 (TX4 3).1 (TX4 3).2.1 (TX4 3).2.2.1 ∈ zWS := zt1 118 rfl rfl
theorem wcl_RX4_25 : Cond.classLink RX4 25 "[[I" ∈ zWS := zt1 112 rfl rfl
theorem wf2_RX4_27 : Cond.fieldLink RX4 27 (TX4 4).1 (TX4 4).2.1 (TX4 4).2.2.1 ∈ zWS := zt1 120 rfl rfl
theorem wf2_RX4_30 : Cond.fieldLink RX4 30 (TX4 5).1 (TX4 5).2.1 (TX4 5).2.2.1 ∈ zWS := zt1 122 rfl rfl
theorem wf2_RX4_33 : Cond.fieldLink RX4 33 (TX4 6).1 (TX4 6).2.1 (TX4 6).2.2.1 ∈ zWS := zt1 124 rfl rfl
theorem wf2_RX4_36 : Cond.fieldLink RX4 36 (TX4 7).1 (TX4 7).2.1 (TX4 7).2.2.1 ∈ zWS := zt1 125 rfl rfl
theorem wf2_RX4_39 : Cond.fieldLink RX4 39 (TX4 8).1 (TX4 8).2.1 (TX4 8).2.2.1 ∈ zWS := zt1 127 rfl rfl
theorem wf2_RX4_42 : Cond.fieldLink RX4 42 (TX4 9).1 (TX4 9).2.1 (TX4 9).2.2.1 ∈ zWS := zt1 129 rfl rfl
set_option maxHeartbeats 4000000 in
set_option maxRecDepth 100000 in
theorem kX4_init : zKN yX4_init iX4_init 27 3387 [(0, .inl (4, [none, some none, some none, some none, some none, some none, some none, some none, some none, some none]))] zM0 (BX4_init, MX4_init) := by
  refine zKN.of (by decide) rfl (Nat.le_of_ble_eq_true rfl) rfl ?_
  refine zEK.aload_n dX4_init_0 rfl 0 rfl ?_
  refine zEK.obj wm2_RX4_3 wobj ⟨Nat.le_of_ble_eq_true rfl, Nat.le_of_ble_eq_true rfl⟩ dX4_init_1 ?_
  refine zEK.aload_n dX4_init_4 rfl 0 rfl ?_
  refine zEK.iconst (v := 0) dX4_init_5 rfl ?_
  refine zEK.pfi (ci := 4) (i := 0) (fs := [none, some none, some none, some none, some none, some none, some none, some none, some none, some none]) [] (([] : zBB)) rfl rfl inz4 tyX4 tyX4_ok nmX4 0 (by decide) wf2_RX4_9 rfl (tyX4_ok 0 (by decide)) rfl dX4_init_6 ?_
  rw [wr_self (M := zM0) (c := 0) (j := 0) (v := 0) rfl]
  refine zEK.aload_n dX4_init_9 rfl 0 rfl ?_
  refine zEK.iconst (v := 3) dX4_init_10 rfl ?_
  refine zEK.newa (atype := .int) (ty := .int) (i := 1) (k := 0) (N' := 3) rfl (fun _ => rfl) (by decide) wa_int (by decide +kernel) (by decide) (by decide) (Nat.le_of_ble_eq_true rfl) ⟨Nat.le_of_ble_eq_true rfl, Nat.le_of_ble_eq_true rfl⟩ rfl rfl dX4_init_11 ?_
  refine zEK.cB (B' := ((0, .inl (4, [none, some none, some none, some none, some none, some none, some none, some none, some none, some none])) :: (([(1, .inr (0, 3, []))] : zBB)))) rfl ?_
  refine zEK.pfr (ci := 4) (i := 0) (fs := [none, some none, some none, some none, some none, some none, some none, some none, some none, some none]) [] (([(1, .inr (0, 3, []))] : zBB)) rfl rfl inz4 tyX4 tyX4_ok nmX4 1 (by decide) wf2_RX4_15 rfl rfl (ty := tyX4 1) (tyX4_ok 1 (by decide)) rfl rfl dX4_init_13 ?_
  refine zEK.cB (B' := ((0, .inl (4, [none, some (some 1), some none, some none, some none, some none, some none, some none, some none, some none])) :: (([(1, .inr (0, 3, []))] : zBB)))) rfl ?_
  refine zEK.aload_n dX4_init_16 rfl 0 rfl ?_
  refine zEK.iconst (v := 3) dX4_init_17 rfl ?_
  refine zEK.newa (atype := .int) (ty := .int) (i := 2) (k := 0) (N' := 3) rfl (fun _ => rfl) (by decide) wa_int (by decide +kernel) (by decide) (by decide) (Nat.le_of_ble_eq_true rfl) ⟨Nat.le_of_ble_eq_true rfl, Nat.le_of_ble_eq_true rfl⟩ rfl rfl dX4_init_18 ?_
  refine zEK.cB (B' := ((0, .inl (4, [none, some (some 1), some none, some none, some none, some none, some none, some none, some none, some none])) :: (([(1, .inr (0, 3, [])), (2, .inr (0, 3, []))] : zBB)))) rfl ?_
  refine zEK.pfr (ci := 4) (i := 0) (fs := [none, some (some 1), some none, some none, some none, some none, some none, some none, some none, some none]) [] (([(1, .inr (0, 3, [])), (2, .inr (0, 3, []))] : zBB)) rfl rfl inz4 tyX4 tyX4_ok nmX4 2 (by decide) wf2_RX4_19 rfl rfl (ty := tyX4 2) (tyX4_ok 2 (by decide)) rfl rfl dX4_init_20 ?_
  refine zEK.cB (B' := ((0, .inl (4, [none, some (some 1), some (some 2), some none, some none, some none, some none, some none, some none, some none])) :: (([(1, .inr (0, 3, [])), (2, .inr (0, 3, []))] : zBB)))) rfl ?_
  refine zEK.aload_n dX4_init_23 rfl 0 rfl ?_
  refine zEK.iconst (v := 3) dX4_init_24 rfl ?_
  refine zEK.newa (atype := .int) (ty := .int) (i := 3) (k := 0) (N' := 3) rfl (fun _ => rfl) (by decide) wa_int (by decide +kernel) (by decide) (by decide) (Nat.le_of_ble_eq_true rfl) ⟨Nat.le_of_ble_eq_true rfl, Nat.le_of_ble_eq_true rfl⟩ rfl rfl dX4_init_25 ?_
  refine zEK.cB (B' := ((0, .inl (4, [none, some (some 1), some (some 2), some none, some none, some none, some none, some none, some none, some none])) :: (([(1, .inr (0, 3, [])), (2, .inr (0, 3, [])), (3, .inr (0, 3, []))] : zBB)))) rfl ?_
  refine zEK.pfr (ci := 4) (i := 0) (fs := [none, some (some 1), some (some 2), some none, some none, some none, some none, some none, some none, some none]) [] (([(1, .inr (0, 3, [])), (2, .inr (0, 3, [])), (3, .inr (0, 3, []))] : zBB)) rfl rfl inz4 tyX4 tyX4_ok nmX4 3 (by decide) wf2_RX4_22 rfl rfl (ty := tyX4 3) (tyX4_ok 3 (by decide)) rfl rfl dX4_init_27 ?_
  refine zEK.cB (B' := ((0, .inl (4, [none, some (some 1), some (some 2), some (some 3), some none, some none, some none, some none, some none, some none])) :: (([(1, .inr (0, 3, [])), (2, .inr (0, 3, [])), (3, .inr (0, 3, []))] : zBB)))) rfl ?_
  refine zEK.aload_n dX4_init_30 rfl 0 rfl ?_
  refine zEK.iconst (v := 3) dX4_init_31 rfl ?_
  refine zEK.bipush (v := 70) dX4_init_32 rfl ?_
  refine zEK.mna (i := 4) (i1 := 5) (i2 := 6) (i3 := 7) (K' := 70) wcl_RX4_25 wa_int (by decide +kernel) (by decide) (by decide) (by decide) (by decide) ⟨Nat.le_of_ble_eq_true rfl, Nat.le_of_ble_eq_true rfl⟩ (fun t ht => by simp only [List.mem_cons, List.not_mem_nil, or_false] at ht; rcases ht with rfl | rfl | rfl <;> rfl) dX4_init_34 ?_
  refine zEK.cB (B' := ((0, .inl (4, [none, some (some 1), some (some 2), some (some 3), some none, some none, some none, some none, some none, some none])) :: (([(1, .inr (0, 3, [])), (2, .inr (0, 3, [])), (3, .inr (0, 3, [])), (4, .inr (4, 3, [some 5, some 6, some 7])), (5, .inr (0, 70, [])), (6, .inr (0, 70, [])), (7, .inr (0, 70, []))] : zBB)))) rfl ?_
  refine zEK.pfr (ci := 4) (i := 0) (fs := [none, some (some 1), some (some 2), some (some 3), some none, some none, some none, some none, some none, some none]) [] (([(1, .inr (0, 3, [])), (2, .inr (0, 3, [])), (3, .inr (0, 3, [])), (4, .inr (4, 3, [some 5, some 6, some 7])), (5, .inr (0, 70, [])), (6, .inr (0, 70, [])), (7, .inr (0, 70, []))] : zBB)) rfl rfl inz4 tyX4 tyX4_ok nmX4 4 (by decide) wf2_RX4_27 rfl rfl (ty := tyX4 4) (tyX4_ok 4 (by decide)) rfl rfl dX4_init_38 ?_
  refine zEK.cB (B' := ((0, .inl (4, [none, some (some 1), some (some 2), some (some 3), some (some 4), some none, some none, some none, some none, some none])) :: (([(1, .inr (0, 3, [])), (2, .inr (0, 3, [])), (3, .inr (0, 3, [])), (4, .inr (4, 3, [some 5, some 6, some 7])), (5, .inr (0, 70, [])), (6, .inr (0, 70, [])), (7, .inr (0, 70, []))] : zBB)))) rfl ?_
  refine zEK.aload_n dX4_init_41 rfl 0 rfl ?_
  refine zEK.iconst (v := 3) dX4_init_42 rfl ?_
  refine zEK.sipush (v := 210) dX4_init_43 rfl ?_
  refine zEK.mna (i := 8) (i1 := 9) (i2 := 10) (i3 := 11) (K' := 210) wcl_RX4_25 wa_int (by decide +kernel) (by decide) (by decide) (by decide) (by decide) ⟨Nat.le_of_ble_eq_true rfl, Nat.le_of_ble_eq_true rfl⟩ (fun t ht => by simp only [List.mem_cons, List.not_mem_nil, or_false] at ht; rcases ht with rfl | rfl | rfl <;> rfl) dX4_init_46 ?_
  refine zEK.cB (B' := ((0, .inl (4, [none, some (some 1), some (some 2), some (some 3), some (some 4), some none, some none, some none, some none, some none])) :: (([(1, .inr (0, 3, [])), (2, .inr (0, 3, [])), (3, .inr (0, 3, [])), (4, .inr (4, 3, [some 5, some 6, some 7])), (5, .inr (0, 70, [])), (6, .inr (0, 70, [])), (7, .inr (0, 70, [])), (8, .inr (4, 3, [some 9, some 10, some 11])), (9, .inr (0, 210, [])), (10, .inr (0, 210, [])), (11, .inr (0, 210, []))] : zBB)))) rfl ?_
  refine zEK.pfr (ci := 4) (i := 0) (fs := [none, some (some 1), some (some 2), some (some 3), some (some 4), some none, some none, some none, some none, some none]) [] (([(1, .inr (0, 3, [])), (2, .inr (0, 3, [])), (3, .inr (0, 3, [])), (4, .inr (4, 3, [some 5, some 6, some 7])), (5, .inr (0, 70, [])), (6, .inr (0, 70, [])), (7, .inr (0, 70, [])), (8, .inr (4, 3, [some 9, some 10, some 11])), (9, .inr (0, 210, [])), (10, .inr (0, 210, [])), (11, .inr (0, 210, []))] : zBB)) rfl rfl inz4 tyX4 tyX4_ok nmX4 5 (by decide) wf2_RX4_30 rfl rfl (ty := tyX4 5) (tyX4_ok 5 (by decide)) rfl rfl dX4_init_50 ?_
  refine zEK.cB (B' := ((0, .inl (4, [none, some (some 1), some (some 2), some (some 3), some (some 4), some (some 8), some none, some none, some none, some none])) :: (([(1, .inr (0, 3, [])), (2, .inr (0, 3, [])), (3, .inr (0, 3, [])), (4, .inr (4, 3, [some 5, some 6, some 7])), (5, .inr (0, 70, [])), (6, .inr (0, 70, [])), (7, .inr (0, 70, [])), (8, .inr (4, 3, [some 9, some 10, some 11])), (9, .inr (0, 210, [])), (10, .inr (0, 210, [])), (11, .inr (0, 210, []))] : zBB)))) rfl ?_
  refine zEK.aload_n dX4_init_53 rfl 0 rfl ?_
  refine zEK.iconst (v := 3) dX4_init_54 rfl ?_
  refine zEK.sipush (v := 210) dX4_init_55 rfl ?_
  refine zEK.mna (i := 12) (i1 := 13) (i2 := 14) (i3 := 15) (K' := 210) wcl_RX4_25 wa_int (by decide +kernel) (by decide) (by decide) (by decide) (by decide) ⟨Nat.le_of_ble_eq_true rfl, Nat.le_of_ble_eq_true rfl⟩ (fun t ht => by simp only [List.mem_cons, List.not_mem_nil, or_false] at ht; rcases ht with rfl | rfl | rfl <;> rfl) dX4_init_58 ?_
  refine zEK.cB (B' := ((0, .inl (4, [none, some (some 1), some (some 2), some (some 3), some (some 4), some (some 8), some none, some none, some none, some none])) :: (([(1, .inr (0, 3, [])), (2, .inr (0, 3, [])), (3, .inr (0, 3, [])), (4, .inr (4, 3, [some 5, some 6, some 7])), (5, .inr (0, 70, [])), (6, .inr (0, 70, [])), (7, .inr (0, 70, [])), (8, .inr (4, 3, [some 9, some 10, some 11])), (9, .inr (0, 210, [])), (10, .inr (0, 210, [])), (11, .inr (0, 210, [])), (12, .inr (4, 3, [some 13, some 14, some 15])), (13, .inr (0, 210, [])), (14, .inr (0, 210, [])), (15, .inr (0, 210, []))] : zBB)))) rfl ?_
  refine zEK.pfr (ci := 4) (i := 0) (fs := [none, some (some 1), some (some 2), some (some 3), some (some 4), some (some 8), some none, some none, some none, some none]) [] (([(1, .inr (0, 3, [])), (2, .inr (0, 3, [])), (3, .inr (0, 3, [])), (4, .inr (4, 3, [some 5, some 6, some 7])), (5, .inr (0, 70, [])), (6, .inr (0, 70, [])), (7, .inr (0, 70, [])), (8, .inr (4, 3, [some 9, some 10, some 11])), (9, .inr (0, 210, [])), (10, .inr (0, 210, [])), (11, .inr (0, 210, [])), (12, .inr (4, 3, [some 13, some 14, some 15])), (13, .inr (0, 210, [])), (14, .inr (0, 210, [])), (15, .inr (0, 210, []))] : zBB)) rfl rfl inz4 tyX4 tyX4_ok nmX4 6 (by decide) wf2_RX4_33 rfl rfl (ty := tyX4 6) (tyX4_ok 6 (by decide)) rfl rfl dX4_init_62 ?_
  refine zEK.cB (B' := ((0, .inl (4, [none, some (some 1), some (some 2), some (some 3), some (some 4), some (some 8), some (some 12), some none, some none, some none])) :: (([(1, .inr (0, 3, [])), (2, .inr (0, 3, [])), (3, .inr (0, 3, [])), (4, .inr (4, 3, [some 5, some 6, some 7])), (5, .inr (0, 70, [])), (6, .inr (0, 70, [])), (7, .inr (0, 70, [])), (8, .inr (4, 3, [some 9, some 10, some 11])), (9, .inr (0, 210, [])), (10, .inr (0, 210, [])), (11, .inr (0, 210, [])), (12, .inr (4, 3, [some 13, some 14, some 15])), (13, .inr (0, 210, [])), (14, .inr (0, 210, [])), (15, .inr (0, 210, []))] : zBB)))) rfl ?_
  refine zEK.aload_n dX4_init_65 rfl 0 rfl ?_
  refine zEK.iconst (v := 3) dX4_init_66 rfl ?_
  refine zEK.sipush (v := 210) dX4_init_67 rfl ?_
  refine zEK.mna (i := 16) (i1 := 17) (i2 := 18) (i3 := 19) (K' := 210) wcl_RX4_25 wa_int (by decide +kernel) (by decide) (by decide) (by decide) (by decide) ⟨Nat.le_of_ble_eq_true rfl, Nat.le_of_ble_eq_true rfl⟩ (fun t ht => by simp only [List.mem_cons, List.not_mem_nil, or_false] at ht; rcases ht with rfl | rfl | rfl <;> rfl) dX4_init_70 ?_
  refine zEK.cB (B' := ((0, .inl (4, [none, some (some 1), some (some 2), some (some 3), some (some 4), some (some 8), some (some 12), some none, some none, some none])) :: (([(1, .inr (0, 3, [])), (2, .inr (0, 3, [])), (3, .inr (0, 3, [])), (4, .inr (4, 3, [some 5, some 6, some 7])), (5, .inr (0, 70, [])), (6, .inr (0, 70, [])), (7, .inr (0, 70, [])), (8, .inr (4, 3, [some 9, some 10, some 11])), (9, .inr (0, 210, [])), (10, .inr (0, 210, [])), (11, .inr (0, 210, [])), (12, .inr (4, 3, [some 13, some 14, some 15])), (13, .inr (0, 210, [])), (14, .inr (0, 210, [])), (15, .inr (0, 210, [])), (16, .inr (4, 3, [some 17, some 18, some 19])), (17, .inr (0, 210, [])), (18, .inr (0, 210, [])), (19, .inr (0, 210, []))] : zBB)))) rfl ?_
  refine zEK.pfr (ci := 4) (i := 0) (fs := [none, some (some 1), some (some 2), some (some 3), some (some 4), some (some 8), some (some 12), some none, some none, some none]) [] (([(1, .inr (0, 3, [])), (2, .inr (0, 3, [])), (3, .inr (0, 3, [])), (4, .inr (4, 3, [some 5, some 6, some 7])), (5, .inr (0, 70, [])), (6, .inr (0, 70, [])), (7, .inr (0, 70, [])), (8, .inr (4, 3, [some 9, some 10, some 11])), (9, .inr (0, 210, [])), (10, .inr (0, 210, [])), (11, .inr (0, 210, [])), (12, .inr (4, 3, [some 13, some 14, some 15])), (13, .inr (0, 210, [])), (14, .inr (0, 210, [])), (15, .inr (0, 210, [])), (16, .inr (4, 3, [some 17, some 18, some 19])), (17, .inr (0, 210, [])), (18, .inr (0, 210, [])), (19, .inr (0, 210, []))] : zBB)) rfl rfl inz4 tyX4 tyX4_ok nmX4 7 (by decide) wf2_RX4_36 rfl rfl (ty := tyX4 7) (tyX4_ok 7 (by decide)) rfl rfl dX4_init_74 ?_
  refine zEK.cB (B' := ((0, .inl (4, [none, some (some 1), some (some 2), some (some 3), some (some 4), some (some 8), some (some 12), some (some 16), some none, some none])) :: (([(1, .inr (0, 3, [])), (2, .inr (0, 3, [])), (3, .inr (0, 3, [])), (4, .inr (4, 3, [some 5, some 6, some 7])), (5, .inr (0, 70, [])), (6, .inr (0, 70, [])), (7, .inr (0, 70, [])), (8, .inr (4, 3, [some 9, some 10, some 11])), (9, .inr (0, 210, [])), (10, .inr (0, 210, [])), (11, .inr (0, 210, [])), (12, .inr (4, 3, [some 13, some 14, some 15])), (13, .inr (0, 210, [])), (14, .inr (0, 210, [])), (15, .inr (0, 210, [])), (16, .inr (4, 3, [some 17, some 18, some 19])), (17, .inr (0, 210, [])), (18, .inr (0, 210, [])), (19, .inr (0, 210, []))] : zBB)))) rfl ?_
  refine zEK.aload_n dX4_init_77 rfl 0 rfl ?_
  refine zEK.iconst (v := 3) dX4_init_78 rfl ?_
  refine zEK.sipush (v := 210) dX4_init_79 rfl ?_
  refine zEK.mna (i := 20) (i1 := 21) (i2 := 22) (i3 := 23) (K' := 210) wcl_RX4_25 wa_int (by decide +kernel) (by decide) (by decide) (by decide) (by decide) ⟨Nat.le_of_ble_eq_true rfl, Nat.le_of_ble_eq_true rfl⟩ (fun t ht => by simp only [List.mem_cons, List.not_mem_nil, or_false] at ht; rcases ht with rfl | rfl | rfl <;> rfl) dX4_init_82 ?_
  refine zEK.cB (B' := ((0, .inl (4, [none, some (some 1), some (some 2), some (some 3), some (some 4), some (some 8), some (some 12), some (some 16), some none, some none])) :: (([(1, .inr (0, 3, [])), (2, .inr (0, 3, [])), (3, .inr (0, 3, [])), (4, .inr (4, 3, [some 5, some 6, some 7])), (5, .inr (0, 70, [])), (6, .inr (0, 70, [])), (7, .inr (0, 70, [])), (8, .inr (4, 3, [some 9, some 10, some 11])), (9, .inr (0, 210, [])), (10, .inr (0, 210, [])), (11, .inr (0, 210, [])), (12, .inr (4, 3, [some 13, some 14, some 15])), (13, .inr (0, 210, [])), (14, .inr (0, 210, [])), (15, .inr (0, 210, [])), (16, .inr (4, 3, [some 17, some 18, some 19])), (17, .inr (0, 210, [])), (18, .inr (0, 210, [])), (19, .inr (0, 210, [])), (20, .inr (4, 3, [some 21, some 22, some 23])), (21, .inr (0, 210, [])), (22, .inr (0, 210, [])), (23, .inr (0, 210, []))] : zBB)))) rfl ?_
  refine zEK.pfr (ci := 4) (i := 0) (fs := [none, some (some 1), some (some 2), some (some 3), some (some 4), some (some 8), some (some 12), some (some 16), some none, some none]) [] (([(1, .inr (0, 3, [])), (2, .inr (0, 3, [])), (3, .inr (0, 3, [])), (4, .inr (4, 3, [some 5, some 6, some 7])), (5, .inr (0, 70, [])), (6, .inr (0, 70, [])), (7, .inr (0, 70, [])), (8, .inr (4, 3, [some 9, some 10, some 11])), (9, .inr (0, 210, [])), (10, .inr (0, 210, [])), (11, .inr (0, 210, [])), (12, .inr (4, 3, [some 13, some 14, some 15])), (13, .inr (0, 210, [])), (14, .inr (0, 210, [])), (15, .inr (0, 210, [])), (16, .inr (4, 3, [some 17, some 18, some 19])), (17, .inr (0, 210, [])), (18, .inr (0, 210, [])), (19, .inr (0, 210, [])), (20, .inr (4, 3, [some 21, some 22, some 23])), (21, .inr (0, 210, [])), (22, .inr (0, 210, [])), (23, .inr (0, 210, []))] : zBB)) rfl rfl inz4 tyX4 tyX4_ok nmX4 8 (by decide) wf2_RX4_39 rfl rfl (ty := tyX4 8) (tyX4_ok 8 (by decide)) rfl rfl dX4_init_86 ?_
  refine zEK.cB (B' := ((0, .inl (4, [none, some (some 1), some (some 2), some (some 3), some (some 4), some (some 8), some (some 12), some (some 16), some (some 20), some none])) :: (([(1, .inr (0, 3, [])), (2, .inr (0, 3, [])), (3, .inr (0, 3, [])), (4, .inr (4, 3, [some 5, some 6, some 7])), (5, .inr (0, 70, [])), (6, .inr (0, 70, [])), (7, .inr (0, 70, [])), (8, .inr (4, 3, [some 9, some 10, some 11])), (9, .inr (0, 210, [])), (10, .inr (0, 210, [])), (11, .inr (0, 210, [])), (12, .inr (4, 3, [some 13, some 14, some 15])), (13, .inr (0, 210, [])), (14, .inr (0, 210, [])), (15, .inr (0, 210, [])), (16, .inr (4, 3, [some 17, some 18, some 19])), (17, .inr (0, 210, [])), (18, .inr (0, 210, [])), (19, .inr (0, 210, [])), (20, .inr (4, 3, [some 21, some 22, some 23])), (21, .inr (0, 210, [])), (22, .inr (0, 210, [])), (23, .inr (0, 210, []))] : zBB)))) rfl ?_
  refine zEK.aload_n dX4_init_89 rfl 0 rfl ?_
  refine zEK.iconst (v := 3) dX4_init_90 rfl ?_
  refine zEK.sipush (v := 210) dX4_init_91 rfl ?_
  refine zEK.mna (i := 24) (i1 := 25) (i2 := 26) (i3 := 27) (K' := 210) wcl_RX4_25 wa_int (by decide +kernel) (by decide) (by decide) (by decide) (by decide) ⟨Nat.le_of_ble_eq_true rfl, Nat.le_of_ble_eq_true rfl⟩ (fun t ht => by simp only [List.mem_cons, List.not_mem_nil, or_false] at ht; rcases ht with rfl | rfl | rfl <;> rfl) dX4_init_94 ?_
  refine zEK.cB (B' := ((0, .inl (4, [none, some (some 1), some (some 2), some (some 3), some (some 4), some (some 8), some (some 12), some (some 16), some (some 20), some none])) :: (([(1, .inr (0, 3, [])), (2, .inr (0, 3, [])), (3, .inr (0, 3, [])), (4, .inr (4, 3, [some 5, some 6, some 7])), (5, .inr (0, 70, [])), (6, .inr (0, 70, [])), (7, .inr (0, 70, [])), (8, .inr (4, 3, [some 9, some 10, some 11])), (9, .inr (0, 210, [])), (10, .inr (0, 210, [])), (11, .inr (0, 210, [])), (12, .inr (4, 3, [some 13, some 14, some 15])), (13, .inr (0, 210, [])), (14, .inr (0, 210, [])), (15, .inr (0, 210, [])), (16, .inr (4, 3, [some 17, some 18, some 19])), (17, .inr (0, 210, [])), (18, .inr (0, 210, [])), (19, .inr (0, 210, [])), (20, .inr (4, 3, [some 21, some 22, some 23])), (21, .inr (0, 210, [])), (22, .inr (0, 210, [])), (23, .inr (0, 210, [])), (24, .inr (4, 3, [some 25, some 26, some 27])), (25, .inr (0, 210, [])), (26, .inr (0, 210, [])), (27, .inr (0, 210, []))] : zBB)))) rfl ?_
  refine zEK.pfr (ci := 4) (i := 0) (fs := [none, some (some 1), some (some 2), some (some 3), some (some 4), some (some 8), some (some 12), some (some 16), some (some 20), some none]) [] (([(1, .inr (0, 3, [])), (2, .inr (0, 3, [])), (3, .inr (0, 3, [])), (4, .inr (4, 3, [some 5, some 6, some 7])), (5, .inr (0, 70, [])), (6, .inr (0, 70, [])), (7, .inr (0, 70, [])), (8, .inr (4, 3, [some 9, some 10, some 11])), (9, .inr (0, 210, [])), (10, .inr (0, 210, [])), (11, .inr (0, 210, [])), (12, .inr (4, 3, [some 13, some 14, some 15])), (13, .inr (0, 210, [])), (14, .inr (0, 210, [])), (15, .inr (0, 210, [])), (16, .inr (4, 3, [some 17, some 18, some 19])), (17, .inr (0, 210, [])), (18, .inr (0, 210, [])), (19, .inr (0, 210, [])), (20, .inr (4, 3, [some 21, some 22, some 23])), (21, .inr (0, 210, [])), (22, .inr (0, 210, [])), (23, .inr (0, 210, [])), (24, .inr (4, 3, [some 25, some 26, some 27])), (25, .inr (0, 210, [])), (26, .inr (0, 210, [])), (27, .inr (0, 210, []))] : zBB)) rfl rfl inz4 tyX4 tyX4_ok nmX4 9 (by decide) wf2_RX4_42 rfl rfl (ty := tyX4 9) (tyX4_ok 9 (by decide)) rfl rfl dX4_init_98 ?_
  refine zEK.cB (B' := ((0, .inl (4, [none, some (some 1), some (some 2), some (some 3), some (some 4), some (some 8), some (some 12), some (some 16), some (some 20), some (some 24)])) :: (([(1, .inr (0, 3, [])), (2, .inr (0, 3, [])), (3, .inr (0, 3, [])), (4, .inr (4, 3, [some 5, some 6, some 7])), (5, .inr (0, 70, [])), (6, .inr (0, 70, [])), (7, .inr (0, 70, [])), (8, .inr (4, 3, [some 9, some 10, some 11])), (9, .inr (0, 210, [])), (10, .inr (0, 210, [])), (11, .inr (0, 210, [])), (12, .inr (4, 3, [some 13, some 14, some 15])), (13, .inr (0, 210, [])), (14, .inr (0, 210, [])), (15, .inr (0, 210, [])), (16, .inr (4, 3, [some 17, some 18, some 19])), (17, .inr (0, 210, [])), (18, .inr (0, 210, [])), (19, .inr (0, 210, [])), (20, .inr (4, 3, [some 21, some 22, some 23])), (21, .inr (0, 210, [])), (22, .inr (0, 210, [])), (23, .inr (0, 210, [])), (24, .inr (4, 3, [some 25, some 26, some 27])), (25, .inr (0, 210, [])), (26, .inr (0, 210, [])), (27, .inr (0, 210, []))] : zBB)))) rfl ?_
  exact zEK.vret rfl rfl (Nat.le_of_ble_eq_true rfl) (Nat.le_of_ble_eq_true rfl) dX4_init_101
abbrev iX5_init : zMI := (RX5, cX5_init, 1, none, 1, 20)
theorem hyk_X5 : yX5_init.cls ≠ "java/lang/invoke/MethodHandle" ∧ yX5_init.cls ≠ "java/lang/invoke/VarHandle" ∧ (parseMethodDescriptor yX5_init.desc).map (fun d => d.parameters.length) = some 0 := by decide +kernel
def BX5_init : zBB := ((0, .inl (5, [some (some 1), none])) :: (([(1, .inr (0, 80, []))] : zBB)))
def MX5_init : zMM := zM0
theorem BX5_init_ids : BX5_init.map Prod.fst = [0, 1] := by decide +kernel
theorem wm2_RX5_3 : Cond.methodLink RX5 3 objectInit ∈ zWS := zt1 204 rfl rfl
theorem wf2_RX5_9 : Cond.fieldLink RX5 9 (TX5 0).1 (TX5 0).2.1 (TX5 0).2.2.1 ∈ zWS := zt1 205 rfl rfl
theorem wf2_RX5_15 : Cond.fieldLink RX5 15 (TX5 1).1 (TX5 1).2.1 (TX5 1).2.2.1 ∈ zWS := zt1 206 rfl rfl
set_option maxHeartbeats 4000000 in
set_option maxRecDepth 100000 in
theorem kX5_init : zKN yX5_init iX5_init 1 80 [(0, .inl (5, [some none, none]))] zM0 (BX5_init, MX5_init) := by
  refine zKN.of (by decide) rfl (Nat.le_of_ble_eq_true rfl) rfl ?_
  refine zEK.aload_n dX5_init_0 rfl 0 rfl ?_
  refine zEK.obj wm2_RX5_3 wobj ⟨Nat.le_of_ble_eq_true rfl, Nat.le_of_ble_eq_true rfl⟩ dX5_init_1 ?_
  refine zEK.aload_n dX5_init_4 rfl 0 rfl ?_
  refine zEK.bipush (v := 80) dX5_init_5 rfl ?_
  refine zEK.newa (atype := .int) (ty := .int) (i := 1) (k := 0) (N' := 80) rfl (fun _ => rfl) (by decide) wa_int (by decide +kernel) (by decide) (by decide) (Nat.le_of_ble_eq_true rfl) ⟨Nat.le_of_ble_eq_true rfl, Nat.le_of_ble_eq_true rfl⟩ rfl rfl dX5_init_7 ?_
  refine zEK.cB (B' := ((0, .inl (5, [some none, none])) :: (([(1, .inr (0, 80, []))] : zBB)))) rfl ?_
  refine zEK.pfr (ci := 5) (i := 0) (fs := [some none, none]) [] (([(1, .inr (0, 80, []))] : zBB)) rfl rfl inz5 tyX5 tyX5_ok nmX5 0 (by decide) wf2_RX5_9 rfl rfl (ty := tyX5 0) (tyX5_ok 0 (by decide)) rfl rfl dX5_init_9 ?_
  refine zEK.cB (B' := ((0, .inl (5, [some (some 1), none])) :: (([(1, .inr (0, 80, []))] : zBB)))) rfl ?_
  refine zEK.aload_n dX5_init_12 rfl 0 rfl ?_
  refine zEK.iconst (v := 0) dX5_init_13 rfl ?_
  refine zEK.pfi (ci := 5) (i := 0) (fs := [some (some 1), none]) [] (([(1, .inr (0, 80, []))] : zBB)) rfl rfl inz5 tyX5 tyX5_ok nmX5 1 (by decide) wf2_RX5_15 rfl (tyX5_ok 1 (by decide)) rfl dX5_init_14 ?_
  rw [wr_self (M := zM0) (c := 0) (j := 1) (v := 0) rfl]
  exact zEK.vret rfl rfl (Nat.le_of_ble_eq_true rfl) (Nat.le_of_ble_eq_true rfl) dX5_init_17
