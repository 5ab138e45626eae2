-- RingedPage$Leaf.plan
def fX0_plan (b : Nat) (a1 : Int32) (a2 : Int32) (a3 : Int32) (M : zMM) : Option (zMM) :=
  some (wr (wr (wr M b 3 a1) b 4 a2) b 5 a3)
set_option maxRecDepth 100000 in
theorem tX0_plan_0 (b : Nat) (a1 : Int32) (a2 : Int32) (a3 : Int32) (hb : lf b) (M : zMM) (q : zMM) (h : fX0_plan b a1 a2 a3  M = some q) : zEV iX0_plan 0 0 (zZO (none, q)) 0 [(0, .inr (.inr b)), (1, .inl a1), (2, .inl a2), (3, .inl a3)] [] M := by
  unfold fX0_plan at h
  refine zEV.aload_n dX0_plan_0 rfl 0 rfl ?_
  refine zEV.iload_n dX0_plan_1 rfl 1 rfl ?_
  refine zEV.pfi rfl inz0 tyX0 tyX0_ok nmX0 3 (by decide) wf_RX0_21 rfl (by decide +kernel) (lf_lt hb 0 (by decide)) (lf_shp hb 0 (by decide)) rfl dX0_plan_2 ?_
  refine zEV.aload_n dX0_plan_5 rfl 0 rfl ?_
  refine zEV.iload_n dX0_plan_6 rfl 2 rfl ?_
  refine zEV.pfi rfl inz0 tyX0 tyX0_ok nmX0 4 (by decide) wf_RX0_24 rfl (by decide +kernel) (lf_lt hb 0 (by decide)) (lf_shp hb 0 (by decide)) rfl dX0_plan_7 ?_
  refine zEV.aload_n dX0_plan_10 rfl 0 rfl ?_
  refine zEV.iload_n dX0_plan_11 rfl 3 rfl ?_
  refine zEV.pfi rfl inz0 tyX0 tyX0_ok nmX0 5 (by decide) wf_RX0_27 rfl (by decide +kernel) (lf_lt hb 0 (by decide)) (lf_shp hb 0 (by decide)) rfl dX0_plan_12 ?_
  have h := Option.some.inj h
  subst h
  exact zEV.vret rfl dX0_plan_15
theorem kX0_plan (b : Nat) (a1 : Int32) (a2 : Int32) (a3 : Int32) (hb : lf b) (M : zMM) (q : zMM) (h : fX0_plan b a1 a2 a3 M = some q) : zCN yX0_plan iX0_plan [.inr (.inr b), .inl a1, .inl a2, .inl a3] M (none, q) :=
  zCN.of (by decide) rfl rfl (Nat.le_of_ble_eq_true rfl) (zEV.perm [0, 1, 2, 3] rfl (tX0_plan_0 b a1 a2 a3 hb M q h))
-- RingedPage$Leaf.copy
def fX0_copy_70 (b : Nat) (b1 : Nat) : Nat → Int32 → zMM → Option (zMM)
  | 0, _, _ => none
  | n + 1, l2, M =>
  if (3 : Int32) ≤ l2 then
    if 0 < (0 : Int32) ∨ 0 < (0 : Int32) ∨ 12 < (0 : Int32) ∨ 12 < Int32.toNatClampNeg 0 + Int32.toNatClampNeg 12 ∨ 12 < Int32.toNatClampNeg 0 + Int32.toNatClampNeg 12 then none else
    if 0 < (0 : Int32) ∨ 0 < (0 : Int32) ∨ 12 < (0 : Int32) ∨ 12 < Int32.toNatClampNeg 0 + Int32.toNatClampNeg 12 ∨ 12 < Int32.toNatClampNeg 0 + Int32.toNatClampNeg 12 then none else
    if 0 < (0 : Int32) ∨ 0 < (0 : Int32) ∨ 12 < (0 : Int32) ∨ 12 < Int32.toNatClampNeg 0 + Int32.toNatClampNeg 12 ∨ 12 < Int32.toNatClampNeg 0 + Int32.toNatClampNeg 12 then none else
    some (cpy (cpy (cpy (wr M b 6 (M.1 b1 6)) (b1 + 7) (b + 7) (Int32.toNatClampNeg 0) (Int32.toNatClampNeg 0) (Int32.toNatClampNeg 12)) (b1 + 8) (b + 8) (Int32.toNatClampNeg 0) (Int32.toNatClampNeg 0) (Int32.toNatClampNeg 12)) (b1 + 9) (b + 9) (Int32.toNatClampNeg 0) (Int32.toNatClampNeg 0) (Int32.toNatClampNeg 12))
  else
    if oob (l2) 3 then none else
    if 0 < (0 : Int32) ∨ 0 < (0 : Int32) ∨ 70 < (0 : Int32) ∨ 70 < Int32.toNatClampNeg 0 + Int32.toNatClampNeg 70 ∨ 70 < Int32.toNatClampNeg 0 + Int32.toNatClampNeg 70 then none else
    fX0_copy_70 b b1 n ((l2 + 1)) (cpy M (b1 + 4 + 1 * Int32.toNatClampNeg l2) (b + 4 + 1 * Int32.toNatClampNeg l2) (Int32.toNatClampNeg 0) (Int32.toNatClampNeg 0) (Int32.toNatClampNeg 70))
set_option maxRecDepth 100000 in
theorem tX0_copy_70 (b : Nat) (b1 : Nat) (hb : lf b) (hb1 : lf b1) : ∀ (n : Nat) (l2 : Int32) (M : zMM) (q : zMM), fX0_copy_70 b b1 n l2 M = some q → zEV iX0_copy 0 0 (zZO (none, q)) 70 [(0, .inr (.inr b)), (1, .inr (.inr b1)), (2, .inl l2)] [] M := by
  intro n
  induction n with
  | zero =>
    intro l2 M q h
    rw [fX0_copy_70] at h
    cases h
  | succ n ih =>
    intro l2 M q h
    rw [fX0_copy_70] at h
    refine zEV.iload_n dX0_copy_70 rfl 2 rfl ?_
    refine zEV.iconst (v := 3) dX0_copy_71 rfl ?_
    refine zEV.icmp_ge 100 dX0_copy_72 (by decide) (fun c1 => ?_) (fun c1 => ?_)
    · rw [if_pos c1] at h
      refine zEV.aload_n dX0_copy_100 rfl 0 rfl ?_
      refine zEV.aload_n dX0_copy_101 rfl 1 rfl ?_
      refine zEV.gfi rfl inz0 6 (by decide) wf_RX0_30 (lf_lt hb1 0 (by decide)) (lf_shp hb1 0 (by decide)) rfl dX0_copy_102 ?_
      refine zEV.pfi rfl inz0 tyX0 tyX0_ok nmX0 6 (by decide) wf_RX0_30 rfl (by decide +kernel) (lf_lt hb 0 (by decide)) (lf_shp hb 0 (by decide)) rfl dX0_copy_105 ?_
      refine zEV.aload_n dX0_copy_108 rfl 1 rfl ?_
      refine zEV.gfr rfl inz0 10 (by decide) wf_RX0_45 (lf_lt hb1 0 (by decide)) (lf_shp hb1 0 (by decide)) rfl dX0_copy_109 ?_
      refine zEV.iconst (v := 0) dX0_copy_112 rfl ?_
      refine zEV.aload_n dX0_copy_113 rfl 0 rfl ?_
      refine zEV.gfr rfl inz0 10 (by decide) wf_RX0_45 (lf_lt hb 0 (by decide)) (lf_shp hb 0 (by decide)) rfl dX0_copy_114 ?_
      refine zEV.iconst (v := 0) dX0_copy_117 rfl ?_
      refine zEV.bipush (v := 12) dX0_copy_118 rfl ?_
      obtain ⟨g2, h⟩ := ite_no h
      refine zEV.copy wm_RX0_58 wj_cp_n wj_cp_s wj_sys_i ⟨Nat.le_of_ble_eq_true rfl, Nat.le_of_ble_eq_true rfl⟩ (lf_lt hb1 7 (by decide)) (lf_lt hb 7 (by decide)) (lf_shp hb1 7 (by decide)) (lf_shp hb 7 (by decide)) g2 dX0_copy_120 ?_
      refine zEV.aload_n dX0_copy_123 rfl 1 rfl ?_
      refine zEV.gfr rfl inz0 11 (by decide) wf_RX0_48 (lf_lt hb1 0 (by decide)) (lf_shp hb1 0 (by decide)) rfl dX0_copy_124 ?_
      refine zEV.iconst (v := 0) dX0_copy_127 rfl ?_
      refine zEV.aload_n dX0_copy_128 rfl 0 rfl ?_
      refine zEV.gfr rfl inz0 11 (by decide) wf_RX0_48 (lf_lt hb 0 (by decide)) (lf_shp hb 0 (by decide)) rfl dX0_copy_129 ?_
      refine zEV.iconst (v := 0) dX0_copy_132 rfl ?_
      refine zEV.bipush (v := 12) dX0_copy_133 rfl ?_
      obtain ⟨g3, h⟩ := ite_no h
      refine zEV.copy wm_RX0_58 wj_cp_n wj_cp_s wj_sys_i ⟨Nat.le_of_ble_eq_true rfl, Nat.le_of_ble_eq_true rfl⟩ (lf_lt hb1 8 (by decide)) (lf_lt hb 8 (by decide)) (lf_shp hb1 8 (by decide)) (lf_shp hb 8 (by decide)) g3 dX0_copy_135 ?_
      refine zEV.aload_n dX0_copy_138 rfl 1 rfl ?_
      refine zEV.gfr rfl inz0 12 (by decide) wf_RX0_51 (lf_lt hb1 0 (by decide)) (lf_shp hb1 0 (by decide)) rfl dX0_copy_139 ?_
      refine zEV.iconst (v := 0) dX0_copy_142 rfl ?_
      refine zEV.aload_n dX0_copy_143 rfl 0 rfl ?_
      refine zEV.gfr rfl inz0 12 (by decide) wf_RX0_51 (lf_lt hb 0 (by decide)) (lf_shp hb 0 (by decide)) rfl dX0_copy_144 ?_
      refine zEV.iconst (v := 0) dX0_copy_147 rfl ?_
      refine zEV.bipush (v := 12) dX0_copy_148 rfl ?_
      obtain ⟨g4, h⟩ := ite_no h
      refine zEV.copy wm_RX0_58 wj_cp_n wj_cp_s wj_sys_i ⟨Nat.le_of_ble_eq_true rfl, Nat.le_of_ble_eq_true rfl⟩ (lf_lt hb1 9 (by decide)) (lf_lt hb 9 (by decide)) (lf_shp hb1 9 (by decide)) (lf_shp hb 9 (by decide)) g4 dX0_copy_150 ?_
      have h := Option.some.inj h
      subst h
      exact zEV.vret rfl dX0_copy_153
    · rw [if_neg c1] at h
      refine zEV.aload_n dX0_copy_75 rfl 1 rfl ?_
      refine zEV.gfr rfl inz0 9 (by decide) wf_RX0_42 (lf_lt hb1 0 (by decide)) (lf_shp hb1 0 (by decide)) rfl dX0_copy_76 ?_
      refine zEV.iload_n dX0_copy_79 rfl 2 rfl ?_
      obtain ⟨g5, h⟩ := ite_no h
      refine zEV.aald (lf_lt hb1 3 (by decide)) (by decide) (lf_shp hb1 3 (by decide)) g5 dX0_copy_80 ?_
      refine zEV.iconst (v := 0) dX0_copy_81 rfl ?_
      refine zEV.aload_n dX0_copy_82 rfl 0 rfl ?_
      refine zEV.gfr rfl inz0 9 (by decide) wf_RX0_42 (lf_lt hb 0 (by decide)) (lf_shp hb 0 (by decide)) rfl dX0_copy_83 ?_
      refine zEV.iload_n dX0_copy_86 rfl 2 rfl ?_
      refine zEV.aald (lf_lt hb 3 (by decide)) (by decide) (lf_shp hb 3 (by decide)) g5 dX0_copy_87 ?_
      refine zEV.iconst (v := 0) dX0_copy_88 rfl ?_
      refine zEV.bipush (v := 70) dX0_copy_89 rfl ?_
      obtain ⟨g6, h⟩ := ite_no h
      refine zEV.copy wm_RX0_58 wj_cp_n wj_cp_s wj_sys_i ⟨Nat.le_of_ble_eq_true rfl, Nat.le_of_ble_eq_true rfl⟩ (lf_row hb1 g5).1 (lf_row hb g5).1 (lf_row hb1 g5).2 (lf_row hb g5).2 g6 dX0_copy_91 ?_
      refine zEV.iinc (v := (l2 + 1)) dX0_copy_94 2 rfl rfl (Nat.le_of_ble_eq_true rfl) rfl ?_
      refine zEV.goto 70 dX0_copy_97 (by decide) ?_
      exact zEV.perm [1, 2, 0] rfl (ih ((l2 + 1)) (cpy M (b1 + 4 + 1 * Int32.toNatClampNeg l2) (b + 4 + 1 * Int32.toNatClampNeg l2) (Int32.toNatClampNeg 0) (Int32.toNatClampNeg 0) (Int32.toNatClampNeg 70)) q h)
def fX0_copy (b : Nat) (b1 : Nat) (M : zMM) : Option (zMM) :=
  (fX0_plan b (((wr (wr (wr M b 0 (M.1 b1 0)) b 1 ((wr M b 0 (M.1 b1 0)).1 b1 1)) b 2 ((wr (wr M b 0 (M.1 b1 0)) b 1 ((wr M b 0 (M.1 b1 0)).1 b1 1)).1 b1 2)).1 b1 3)) (((wr (wr (wr M b 0 (M.1 b1 0)) b 1 ((wr M b 0 (M.1 b1 0)).1 b1 1)) b 2 ((wr (wr M b 0 (M.1 b1 0)) b 1 ((wr M b 0 (M.1 b1 0)).1 b1 1)).1 b1 2)).1 b1 4)) (((wr (wr (wr M b 0 (M.1 b1 0)) b 1 ((wr M b 0 (M.1 b1 0)).1 b1 1)) b 2 ((wr (wr M b 0 (M.1 b1 0)) b 1 ((wr M b 0 (M.1 b1 0)).1 b1 1)).1 b1 2)).1 b1 5)) (wr (wr (wr M b 0 (M.1 b1 0)) b 1 ((wr M b 0 (M.1 b1 0)).1 b1 1)) b 2 ((wr (wr M b 0 (M.1 b1 0)) b 1 ((wr M b 0 (M.1 b1 0)).1 b1 1)).1 b1 2))).bind fun q1 =>
  if 0 < (0 : Int32) ∨ 0 < (0 : Int32) ∨ 3 < (0 : Int32) ∨ 3 < Int32.toNatClampNeg 0 + Int32.toNatClampNeg 3 ∨ 3 < Int32.toNatClampNeg 0 + Int32.toNatClampNeg 3 then none else
  if 0 < (0 : Int32) ∨ 0 < (0 : Int32) ∨ 3 < (0 : Int32) ∨ 3 < Int32.toNatClampNeg 0 + Int32.toNatClampNeg 3 ∨ 3 < Int32.toNatClampNeg 0 + Int32.toNatClampNeg 3 then none else
  fX0_copy_70 b b1 zFU (0) (cpy (cpy q1 (b1 + 1) (b + 1) (Int32.toNatClampNeg 0) (Int32.toNatClampNeg 0) (Int32.toNatClampNeg 3)) (b1 + 2) (b + 2) (Int32.toNatClampNeg 0) (Int32.toNatClampNeg 0) (Int32.toNatClampNeg 3))
set_option maxRecDepth 100000 in
theorem tX0_copy_0 (b : Nat) (b1 : Nat) (hb : lf b) (hb1 : lf b1) (M : zMM) (q : zMM) (h : fX0_copy b b1  M = some q) : zEV iX0_copy 0 0 (zZO (none, q)) 0 [(0, .inr (.inr b)), (1, .inr (.inr b1))] [] M := by
  unfold fX0_copy at h
  refine zEV.aload_n dX0_copy_0 rfl 0 rfl ?_
  refine zEV.aload_n dX0_copy_1 rfl 1 rfl ?_
  refine zEV.gfi rfl inz0 0 (by decide) wf_RX0_9 (lf_lt hb1 0 (by decide)) (lf_shp hb1 0 (by decide)) rfl dX0_copy_2 ?_
  refine zEV.pfi rfl inz0 tyX0 tyX0_ok nmX0 0 (by decide) wf_RX0_9 rfl (by decide +kernel) (lf_lt hb 0 (by decide)) (lf_shp hb 0 (by decide)) rfl dX0_copy_5 ?_
  refine zEV.aload_n dX0_copy_8 rfl 0 rfl ?_
  refine zEV.aload_n dX0_copy_9 rfl 1 rfl ?_
  refine zEV.gfi rfl inz0 1 (by decide) wf_RX0_15 (lf_lt hb1 0 (by decide)) (lf_shp hb1 0 (by decide)) rfl dX0_copy_10 ?_
  refine zEV.pfi rfl inz0 tyX0 tyX0_ok nmX0 1 (by decide) wf_RX0_15 rfl (by decide +kernel) (lf_lt hb 0 (by decide)) (lf_shp hb 0 (by decide)) rfl dX0_copy_13 ?_
  refine zEV.aload_n dX0_copy_16 rfl 0 rfl ?_
  refine zEV.aload_n dX0_copy_17 rfl 1 rfl ?_
  refine zEV.gfi rfl inz0 2 (by decide) wf_RX0_18 (lf_lt hb1 0 (by decide)) (lf_shp hb1 0 (by decide)) rfl dX0_copy_18 ?_
  refine zEV.pfi rfl inz0 tyX0 tyX0_ok nmX0 2 (by decide) wf_RX0_18 rfl (by decide +kernel) (lf_lt hb 0 (by decide)) (lf_shp hb 0 (by decide)) rfl dX0_copy_21 ?_
  refine zEV.aload_n dX0_copy_24 rfl 0 rfl ?_
  refine zEV.aload_n dX0_copy_25 rfl 1 rfl ?_
  refine zEV.gfi rfl inz0 3 (by decide) wf_RX0_21 (lf_lt hb1 0 (by decide)) (lf_shp hb1 0 (by decide)) rfl dX0_copy_26 ?_
  refine zEV.aload_n dX0_copy_29 rfl 1 rfl ?_
  refine zEV.gfi rfl inz0 4 (by decide) wf_RX0_24 (lf_lt hb1 0 (by decide)) (lf_shp hb1 0 (by decide)) rfl dX0_copy_30 ?_
  refine zEV.aload_n dX0_copy_33 rfl 1 rfl ?_
  refine zEV.gfi rfl inz0 5 (by decide) wf_RX0_27 (lf_lt hb1 0 (by decide)) (lf_shp hb1 0 (by decide)) rfl dX0_copy_34 ?_
  obtain ⟨q1, hq1, h⟩ := bind_yes h
  refine zEV.callVv (kX0_plan b (((wr (wr (wr M b 0 (M.1 b1 0)) b 1 ((wr M b 0 (M.1 b1 0)).1 b1 1)) b 2 ((wr (wr M b 0 (M.1 b1 0)) b 1 ((wr M b 0 (M.1 b1 0)).1 b1 1)).1 b1 2)).1 b1 3)) (((wr (wr (wr M b 0 (M.1 b1 0)) b 1 ((wr M b 0 (M.1 b1 0)).1 b1 1)) b 2 ((wr (wr M b 0 (M.1 b1 0)) b 1 ((wr M b 0 (M.1 b1 0)).1 b1 1)).1 b1 2)).1 b1 4)) (((wr (wr (wr M b 0 (M.1 b1 0)) b 1 ((wr M b 0 (M.1 b1 0)).1 b1 1)) b 2 ((wr (wr M b 0 (M.1 b1 0)) b 1 ((wr M b 0 (M.1 b1 0)).1 b1 1)).1 b1 2)).1 b1 5)) hb (wr (wr (wr M b 0 (M.1 b1 0)) b 1 ((wr M b 0 (M.1 b1 0)).1 b1 1)) b 2 ((wr (wr M b 0 (M.1 b1 0)) b 1 ((wr M b 0 (M.1 b1 0)).1 b1 1)).1 b1 2)) q1 hq1) (lf_lt hb 0 (by decide)) (lf_shp hb 0 (by decide)) rfl wm_RX0_54 wc_X0_plan hy_X0_plan rfl ⟨Nat.le_of_ble_eq_true rfl, Nat.le_of_ble_eq_true rfl⟩ rfl (Nat.le_of_ble_eq_true rfl) dX0_copy_37 ?_
  refine zEV.aload_n dX0_copy_40 rfl 1 rfl ?_
  refine zEV.gfr rfl inz0 7 (by decide) wf_RX0_33 (lf_lt hb1 0 (by decide)) (lf_shp hb1 0 (by decide)) rfl dX0_copy_41 ?_
  refine zEV.iconst (v := 0) dX0_copy_44 rfl ?_
  refine zEV.aload_n dX0_copy_45 rfl 0 rfl ?_
  refine zEV.gfr rfl inz0 7 (by decide) wf_RX0_33 (lf_lt hb 0 (by decide)) (lf_shp hb 0 (by decide)) rfl dX0_copy_46 ?_
  refine zEV.iconst (v := 0) dX0_copy_49 rfl ?_
  refine zEV.iconst (v := 3) dX0_copy_50 rfl ?_
  obtain ⟨g2, h⟩ := ite_no h
  refine zEV.copy wm_RX0_58 wj_cp_n wj_cp_s wj_sys_i ⟨Nat.le_of_ble_eq_true rfl, Nat.le_of_ble_eq_true rfl⟩ (lf_lt hb1 1 (by decide)) (lf_lt hb 1 (by decide)) (lf_shp hb1 1 (by decide)) (lf_shp hb 1 (by decide)) g2 dX0_copy_51 ?_
  refine zEV.aload_n dX0_copy_54 rfl 1 rfl ?_
  refine zEV.gfr rfl inz0 8 (by decide) wf_RX0_37 (lf_lt hb1 0 (by decide)) (lf_shp hb1 0 (by decide)) rfl dX0_copy_55 ?_
  refine zEV.iconst (v := 0) dX0_copy_58 rfl ?_
  refine zEV.aload_n dX0_copy_59 rfl 0 rfl ?_
  refine zEV.gfr rfl inz0 8 (by decide) wf_RX0_37 (lf_lt hb 0 (by decide)) (lf_shp hb 0 (by decide)) rfl dX0_copy_60 ?_
  refine zEV.iconst (v := 0) dX0_copy_63 rfl ?_
  refine zEV.iconst (v := 3) dX0_copy_64 rfl ?_
  obtain ⟨g3, h⟩ := ite_no h
  refine zEV.copy wm_RX0_58 wj_cp_n wj_cp_s wj_sys_i ⟨Nat.le_of_ble_eq_true rfl, Nat.le_of_ble_eq_true rfl⟩ (lf_lt hb1 2 (by decide)) (lf_lt hb 2 (by decide)) (lf_shp hb1 2 (by decide)) (lf_shp hb 2 (by decide)) g3 dX0_copy_65 ?_
  refine zEV.iconst (v := 0) dX0_copy_68 rfl ?_
  refine zEV.istore_n dX0_copy_69 rfl (Nat.le_of_ble_eq_true rfl) rfl ?_
  exact zEV.perm [1, 2, 0] rfl (tX0_copy_70 b b1 hb hb1 zFU (0) (cpy (cpy q1 (b1 + 1) (b + 1) (Int32.toNatClampNeg 0) (Int32.toNatClampNeg 0) (Int32.toNatClampNeg 3)) (b1 + 2) (b + 2) (Int32.toNatClampNeg 0) (Int32.toNatClampNeg 0) (Int32.toNatClampNeg 3)) q h)
theorem kX0_copy (b : Nat) (b1 : Nat) (hb : lf b) (hb1 : lf b1) (M : zMM) (q : zMM) (h : fX0_copy b b1 M = some q) : zCN yX0_copy iX0_copy [.inr (.inr b), .inr (.inr b1)] M (none, q) :=
  zCN.of (by decide) rfl rfl (Nat.le_of_ble_eq_true rfl) (zEV.perm [0, 1] rfl (tX0_copy_0 b b1 hb hb1 M q h))
-- RingedPage$Leaf.measure
def fX0_measure (b : Nat) (a1 : Int32) (M : zMM) : Option (Int32 × zMM) :=
  if a1 = (0 : Int32) then
    some ((M.1 b 0), M)
  else
    if a1 = 1 then
      some ((M.1 b 1), M)
    else
      some ((M.1 b 2), M)
set_option maxRecDepth 100000 in
theorem tX0_measure_0 (b : Nat) (a1 : Int32) (hb : lf b) (M : zMM) (q : Int32 × zMM) (h : fX0_measure b a1  M = some q) : zEV iX0_measure 0 0 (zZO (some (.inl q.1), q.2)) 0 [(0, .inr (.inr b)), (1, .inl a1)] [] M := by
  unfold fX0_measure at h
  refine zEV.iload_n dX0_measure_0 rfl 1 rfl ?_
  refine zEV.if_ne 11 dX0_measure_1 (by decide) (fun c1 => ?_) (fun c1 => ?_)
  · rw [if_neg c1] at h
    refine zEV.iload_n dX0_measure_11 rfl 1 rfl ?_
    refine zEV.iconst (v := 1) dX0_measure_12 rfl ?_
    refine zEV.icmp_ne 23 dX0_measure_13 (by decide) (fun c2 => ?_) (fun c2 => ?_)
    · rw [if_neg c2] at h
      refine zEV.aload_n dX0_measure_23 rfl 0 rfl ?_
      refine zEV.gfi rfl inz0 2 (by decide) wf_RX0_18 (lf_lt hb 0 (by decide)) (lf_shp hb 0 (by decide)) rfl dX0_measure_24 ?_
      have h := Option.some.inj h
      subst h
      exact zEV.iret rfl dX0_measure_27
    · rw [if_pos c2] at h
      refine zEV.aload_n dX0_measure_16 rfl 0 rfl ?_
      refine zEV.gfi rfl inz0 1 (by decide) wf_RX0_15 (lf_lt hb 0 (by decide)) (lf_shp hb 0 (by decide)) rfl dX0_measure_17 ?_
      refine zEV.goto 27 dX0_measure_20 (by decide) ?_
      have h := Option.some.inj h
      subst h
      exact zEV.iret rfl dX0_measure_27
  · rw [if_pos c1] at h
    refine zEV.aload_n dX0_measure_4 rfl 0 rfl ?_
    refine zEV.gfi rfl inz0 0 (by decide) wf_RX0_9 (lf_lt hb 0 (by decide)) (lf_shp hb 0 (by decide)) rfl dX0_measure_5 ?_
    refine zEV.goto 27 dX0_measure_8 (by decide) ?_
    have h := Option.some.inj h
    subst h
    exact zEV.iret rfl dX0_measure_27
theorem kX0_measure (b : Nat) (a1 : Int32) (hb : lf b) (M : zMM) (q : Int32 × zMM) (h : fX0_measure b a1 M = some q) : zCN yX0_measure iX0_measure [.inr (.inr b), .inl a1] M (some (.inl q.1), q.2) :=
  zCN.of (by decide) rfl rfl (Nat.le_of_ble_eq_true rfl) (zEV.perm [0, 1] rfl (tX0_measure_0 b a1 hb M q h))
-- RingedPage$Leaf.setMeasure
def fX0_setMeasure (b : Nat) (a1 : Int32) (a2 : Int32) (M : zMM) : Option (zMM) :=
  if a1 = (0 : Int32) then
    some (wr M b 0 a2)
  else
    if a1 = 1 then
      some (wr M b 1 a2)
    else
      some (wr M b 2 a2)
set_option maxRecDepth 100000 in
theorem tX0_setMeasure_0 (b : Nat) (a1 : Int32) (a2 : Int32) (hb : lf b) (M : zMM) (q : zMM) (h : fX0_setMeasure b a1 a2  M = some q) : zEV iX0_setMeasure 0 0 (zZO (none, q)) 0 [(0, .inr (.inr b)), (1, .inl a1), (2, .inl a2)] [] M := by
  unfold fX0_setMeasure at h
  refine zEV.iload_n dX0_setMeasure_0 rfl 1 rfl ?_
  refine zEV.if_ne 12 dX0_setMeasure_1 (by decide) (fun c1 => ?_) (fun c1 => ?_)
  · rw [if_neg c1] at h
    refine zEV.iload_n dX0_setMeasure_12 rfl 1 rfl ?_
    refine zEV.iconst (v := 1) dX0_setMeasure_13 rfl ?_
    refine zEV.icmp_ne 25 dX0_setMeasure_14 (by decide) (fun c2 => ?_) (fun c2 => ?_)
    · rw [if_neg c2] at h
      refine zEV.aload_n dX0_setMeasure_25 rfl 0 rfl ?_
      refine zEV.iload_n dX0_setMeasure_26 rfl 2 rfl ?_
      refine zEV.pfi rfl inz0 tyX0 tyX0_ok nmX0 2 (by decide) wf_RX0_18 rfl (by decide +kernel) (lf_lt hb 0 (by decide)) (lf_shp hb 0 (by decide)) rfl dX0_setMeasure_27 ?_
      have h := Option.some.inj h
      subst h
      exact zEV.vret rfl dX0_setMeasure_30
    · rw [if_pos c2] at h
      refine zEV.aload_n dX0_setMeasure_17 rfl 0 rfl ?_
      refine zEV.iload_n dX0_setMeasure_18 rfl 2 rfl ?_
      refine zEV.pfi rfl inz0 tyX0 tyX0_ok nmX0 1 (by decide) wf_RX0_15 rfl (by decide +kernel) (lf_lt hb 0 (by decide)) (lf_shp hb 0 (by decide)) rfl dX0_setMeasure_19 ?_
      refine zEV.goto 30 dX0_setMeasure_22 (by decide) ?_
      have h := Option.some.inj h
      subst h
      exact zEV.vret rfl dX0_setMeasure_30
  · rw [if_pos c1] at h
    refine zEV.aload_n dX0_setMeasure_4 rfl 0 rfl ?_
    refine zEV.iload_n dX0_setMeasure_5 rfl 2 rfl ?_
    refine zEV.pfi rfl inz0 tyX0 tyX0_ok nmX0 0 (by decide) wf_RX0_9 rfl (by decide +kernel) (lf_lt hb 0 (by decide)) (lf_shp hb 0 (by decide)) rfl dX0_setMeasure_6 ?_
    refine zEV.goto 30 dX0_setMeasure_9 (by decide) ?_
    have h := Option.some.inj h
    subst h
    exact zEV.vret rfl dX0_setMeasure_30
theorem kX0_setMeasure (b : Nat) (a1 : Int32) (a2 : Int32) (hb : lf b) (M : zMM) (q : zMM) (h : fX0_setMeasure b a1 a2 M = some q) : zCN yX0_setMeasure iX0_setMeasure [.inr (.inr b), .inl a1, .inl a2] M (none, q) :=
  zCN.of (by decide) rfl rfl (Nat.le_of_ble_eq_true rfl) (zEV.perm [0, 1, 2] rfl (tX0_setMeasure_0 b a1 a2 hb M q h))
-- RingedPage$Leaf.allows
def fX0_allows (b : Nat) (a1 : Int32) (a2 : Int32) (a3 : Int32) (M : zMM) : Option (Int32 × zMM) :=
  if a1 < (0 : Int32) then
    some (0, M)
  else
    if (9 : Int32) < a1 then
      some (0, M)
    else
      if (M.1 b 1) ≤ a1 then
        some (0, M)
      else
        if a2 < 9 then
          some (0, M)
        else
          if (40 : Int32) < a2 then
            some (0, M)
          else
            if a3 < 9 then
              some (0, M)
            else
              if (40 : Int32) < a3 then
                some (0, M)
              else
                if (((M.1 b 0) - 9) - (2 * (M.1 b 2))) < (a2 + a3) then
                  some (0, M)
                else
                  some (1, M)
set_option maxRecDepth 100000 in
theorem tX0_allows_0 (b : Nat) (a1 : Int32) (a2 : Int32) (a3 : Int32) (hb : lf b) (M : zMM) (q : Int32 × zMM) (h : fX0_allows b a1 a2 a3  M = some q) : zEV iX0_allows 0 0 (zZO (some (.inl q.1), q.2)) 0 [(0, .inr (.inr b)), (1, .inl a1), (2, .inl a2), (3, .inl a3)] [] M := by
  unfold fX0_allows at h
  refine zEV.iload_n dX0_allows_0 rfl 1 rfl ?_
  refine zEV.if_lt 66 dX0_allows_1 (by decide) (fun c1 => ?_) (fun c1 => ?_)
  · rw [if_pos c1] at h
    refine zEV.iconst (v := 0) dX0_allows_66 rfl ?_
    have h := Option.some.inj h
    subst h
    exact zEV.zret rfl (Or.inl rfl) dX0_allows_67
  · rw [if_neg c1] at h
    refine zEV.iload_n dX0_allows_4 rfl 1 rfl ?_
    refine zEV.bipush (v := 9) dX0_allows_5 rfl ?_
    refine zEV.icmp_gt 66 dX0_allows_7 (by decide) (fun c2 => ?_) (fun c2 => ?_)
    · rw [if_pos c2] at h
      refine zEV.iconst (v := 0) dX0_allows_66 rfl ?_
      have h := Option.some.inj h
      subst h
      exact zEV.zret rfl (Or.inl rfl) dX0_allows_67
    · rw [if_neg c2] at h
      refine zEV.iload_n dX0_allows_10 rfl 1 rfl ?_
      refine zEV.aload_n dX0_allows_11 rfl 0 rfl ?_
      refine zEV.gfi rfl inz0 1 (by decide) wf_RX0_15 (lf_lt hb 0 (by decide)) (lf_shp hb 0 (by decide)) rfl dX0_allows_12 ?_
      refine zEV.icmp_ge 66 dX0_allows_15 (by decide) (fun c3 => ?_) (fun c3 => ?_)
      · rw [if_pos c3] at h
        refine zEV.iconst (v := 0) dX0_allows_66 rfl ?_
        have h := Option.some.inj h
        subst h
        exact zEV.zret rfl (Or.inl rfl) dX0_allows_67
      · rw [if_neg c3] at h
        refine zEV.iload_n dX0_allows_18 rfl 2 rfl ?_
        refine zEV.bipush (v := 9) dX0_allows_19 rfl ?_
        refine zEV.icmp_lt 66 dX0_allows_21 (by decide) (fun c4 => ?_) (fun c4 => ?_)
        · rw [if_pos c4] at h
          refine zEV.iconst (v := 0) dX0_allows_66 rfl ?_
          have h := Option.some.inj h
          subst h
          exact zEV.zret rfl (Or.inl rfl) dX0_allows_67
        · rw [if_neg c4] at h
          refine zEV.iload_n dX0_allows_24 rfl 2 rfl ?_
          refine zEV.bipush (v := 40) dX0_allows_25 rfl ?_
          refine zEV.icmp_gt 66 dX0_allows_27 (by decide) (fun c5 => ?_) (fun c5 => ?_)
          · rw [if_pos c5] at h
            refine zEV.iconst (v := 0) dX0_allows_66 rfl ?_
            have h := Option.some.inj h
            subst h
            exact zEV.zret rfl (Or.inl rfl) dX0_allows_67
          · rw [if_neg c5] at h
            refine zEV.iload_n dX0_allows_30 rfl 3 rfl ?_
            refine zEV.bipush (v := 9) dX0_allows_31 rfl ?_
            refine zEV.icmp_lt 66 dX0_allows_33 (by decide) (fun c6 => ?_) (fun c6 => ?_)
            · rw [if_pos c6] at h
              refine zEV.iconst (v := 0) dX0_allows_66 rfl ?_
              have h := Option.some.inj h
              subst h
              exact zEV.zret rfl (Or.inl rfl) dX0_allows_67
            · rw [if_neg c6] at h
              refine zEV.iload_n dX0_allows_36 rfl 3 rfl ?_
              refine zEV.bipush (v := 40) dX0_allows_37 rfl ?_
              refine zEV.icmp_gt 66 dX0_allows_39 (by decide) (fun c7 => ?_) (fun c7 => ?_)
              · rw [if_pos c7] at h
                refine zEV.iconst (v := 0) dX0_allows_66 rfl ?_
                have h := Option.some.inj h
                subst h
                exact zEV.zret rfl (Or.inl rfl) dX0_allows_67
              · rw [if_neg c7] at h
                refine zEV.iload_n dX0_allows_42 rfl 2 rfl ?_
                refine zEV.iload_n dX0_allows_43 rfl 3 rfl ?_
                refine zEV.iadd dX0_allows_44 ?_
                refine zEV.aload_n dX0_allows_45 rfl 0 rfl ?_
                refine zEV.gfi rfl inz0 0 (by decide) wf_RX0_9 (lf_lt hb 0 (by decide)) (lf_shp hb 0 (by decide)) rfl dX0_allows_46 ?_
                refine zEV.bipush (v := 9) dX0_allows_49 rfl ?_
                refine zEV.isub dX0_allows_51 ?_
                refine zEV.iconst (v := 2) dX0_allows_52 rfl ?_
                refine zEV.aload_n dX0_allows_53 rfl 0 rfl ?_
                refine zEV.gfi rfl inz0 2 (by decide) wf_RX0_18 (lf_lt hb 0 (by decide)) (lf_shp hb 0 (by decide)) rfl dX0_allows_54 ?_
                refine zEV.imul dX0_allows_57 ?_
                refine zEV.isub dX0_allows_58 ?_
                refine zEV.icmp_gt 66 dX0_allows_59 (by decide) (fun c8 => ?_) (fun c8 => ?_)
                · rw [if_pos c8] at h
                  refine zEV.iconst (v := 0) dX0_allows_66 rfl ?_
                  have h := Option.some.inj h
                  subst h
                  exact zEV.zret rfl (Or.inl rfl) dX0_allows_67
                · rw [if_neg c8] at h
                  refine zEV.iconst (v := 1) dX0_allows_62 rfl ?_
                  refine zEV.goto 67 dX0_allows_63 (by decide) ?_
                  have h := Option.some.inj h
                  subst h
                  exact zEV.zret rfl (Or.inr rfl) dX0_allows_67
theorem kX0_allows (b : Nat) (a1 : Int32) (a2 : Int32) (a3 : Int32) (hb : lf b) (M : zMM) (q : Int32 × zMM) (h : fX0_allows b a1 a2 a3 M = some q) : zCN yX0_allows iX0_allows [.inr (.inr b), .inl a1, .inl a2, .inl a3] M (some (.inl q.1), q.2) :=
  zCN.of (by decide) rfl rfl (Nat.le_of_ble_eq_true rfl) (zEV.perm [0, 1, 2, 3] rfl (tX0_allows_0 b a1 a2 a3 hb M q h))
-- RingedPage$Leaf.allowsItsPlan
def fX0_allowsItsPlan (b : Nat) (M : zMM) : Option (Int32 × zMM) :=
  (fX0_allows b ((M.1 b 3)) ((M.1 b 4)) ((M.1 b 5)) M).bind fun q1 =>
  if q1.1 = 0 ∨ q1.1 = 1 then some (q1.1, q1.2) else none
set_option maxRecDepth 100000 in
theorem tX0_allowsItsPlan_0 (b : Nat) (hb : lf b) (M : zMM) (q : Int32 × zMM) (h : fX0_allowsItsPlan b  M = some q) : zEV iX0_allowsItsPlan 0 0 (zZO (some (.inl q.1), q.2)) 0 [(0, .inr (.inr b))] [] M := by
  unfold fX0_allowsItsPlan at h
  refine zEV.aload_n dX0_allowsItsPlan_0 rfl 0 rfl ?_
  refine zEV.aload_n dX0_allowsItsPlan_1 rfl 0 rfl ?_
  refine zEV.gfi rfl inz0 3 (by decide) wf_RX0_21 (lf_lt hb 0 (by decide)) (lf_shp hb 0 (by decide)) rfl dX0_allowsItsPlan_2 ?_
  refine zEV.aload_n dX0_allowsItsPlan_5 rfl 0 rfl ?_
  refine zEV.gfi rfl inz0 4 (by decide) wf_RX0_24 (lf_lt hb 0 (by decide)) (lf_shp hb 0 (by decide)) rfl dX0_allowsItsPlan_6 ?_
  refine zEV.aload_n dX0_allowsItsPlan_9 rfl 0 rfl ?_
  refine zEV.gfi rfl inz0 5 (by decide) wf_RX0_27 (lf_lt hb 0 (by decide)) (lf_shp hb 0 (by decide)) rfl dX0_allowsItsPlan_10 ?_
  obtain ⟨q1, hq1, h⟩ := bind_yes h
  refine zEV.callVi (kX0_allows b ((M.1 b 3)) ((M.1 b 4)) ((M.1 b 5)) hb M q1 hq1) (lf_lt hb 0 (by decide)) (lf_shp hb 0 (by decide)) rfl wm_RX0_64 wc_X0_allows hy_X0_allows rfl ⟨Nat.le_of_ble_eq_true rfl, Nat.le_of_ble_eq_true rfl⟩ rfl (Nat.le_of_ble_eq_true rfl) dX0_allowsItsPlan_13 ?_
  obtain ⟨g2, h⟩ := ite_yes h
  have h := Option.some.inj h
  subst h
  exact zEV.zret rfl g2 dX0_allowsItsPlan_16
theorem kX0_allowsItsPlan (b : Nat) (hb : lf b) (M : zMM) (q : Int32 × zMM) (h : fX0_allowsItsPlan b M = some q) : zCN yX0_allowsItsPlan iX0_allowsItsPlan [.inr (.inr b)] M (some (.inl q.1), q.2) :=
  zCN.of (by decide) rfl rfl (Nat.le_of_ble_eq_true rfl) (zEV.perm [0] rfl (tX0_allowsItsPlan_0 b hb M q h))
-- RingedPage$Leaf.hasPlan
def fX0_hasPlan (b : Nat) (a1 : Int32) (a2 : Int32) (a3 : Int32) (M : zMM) : Option (Int32 × zMM) :=
  if (M.1 b 3) = a1 then
    if (M.1 b 4) = a2 then
      if (M.1 b 5) = a3 then
        some (1, M)
      else
        some (0, M)
    else
      some (0, M)
  else
    some (0, M)
set_option maxRecDepth 100000 in
theorem tX0_hasPlan_0 (b : Nat) (a1 : Int32) (a2 : Int32) (a3 : Int32) (hb : lf b) (M : zMM) (q : Int32 × zMM) (h : fX0_hasPlan b a1 a2 a3  M = some q) : zEV iX0_hasPlan 0 0 (zZO (some (.inl q.1), q.2)) 0 [(0, .inr (.inr b)), (1, .inl a1), (2, .inl a2), (3, .inl a3)] [] M := by
  unfold fX0_hasPlan at h
  refine zEV.aload_n dX0_hasPlan_0 rfl 0 rfl ?_
  refine zEV.gfi rfl inz0 3 (by decide) wf_RX0_21 (lf_lt hb 0 (by decide)) (lf_shp hb 0 (by decide)) rfl dX0_hasPlan_1 ?_
  refine zEV.iload_n dX0_hasPlan_4 rfl 1 rfl ?_
  refine zEV.icmp_ne 28 dX0_hasPlan_5 (by decide) (fun c1 => ?_) (fun c1 => ?_)
  · rw [if_neg c1] at h
    refine zEV.iconst (v := 0) dX0_hasPlan_28 rfl ?_
    have h := Option.some.inj h
    subst h
    exact zEV.zret rfl (Or.inl rfl) dX0_hasPlan_29
  · rw [if_pos c1] at h
    refine zEV.aload_n dX0_hasPlan_8 rfl 0 rfl ?_
    refine zEV.gfi rfl inz0 4 (by decide) wf_RX0_24 (lf_lt hb 0 (by decide)) (lf_shp hb 0 (by decide)) rfl dX0_hasPlan_9 ?_
    refine zEV.iload_n dX0_hasPlan_12 rfl 2 rfl ?_
    refine zEV.icmp_ne 28 dX0_hasPlan_13 (by decide) (fun c2 => ?_) (fun c2 => ?_)
    · rw [if_neg c2] at h
      refine zEV.iconst (v := 0) dX0_hasPlan_28 rfl ?_
      have h := Option.some.inj h
      subst h
      exact zEV.zret rfl (Or.inl rfl) dX0_hasPlan_29
    · rw [if_pos c2] at h
      refine zEV.aload_n dX0_hasPlan_16 rfl 0 rfl ?_
      refine zEV.gfi rfl inz0 5 (by decide) wf_RX0_27 (lf_lt hb 0 (by decide)) (lf_shp hb 0 (by decide)) rfl dX0_hasPlan_17 ?_
      refine zEV.iload_n dX0_hasPlan_20 rfl 3 rfl ?_
      refine zEV.icmp_ne 28 dX0_hasPlan_21 (by decide) (fun c3 => ?_) (fun c3 => ?_)
      · rw [if_neg c3] at h
        refine zEV.iconst (v := 0) dX0_hasPlan_28 rfl ?_
        have h := Option.some.inj h
        subst h
        exact zEV.zret rfl (Or.inl rfl) dX0_hasPlan_29
      · rw [if_pos c3] at h
        refine zEV.iconst (v := 1) dX0_hasPlan_24 rfl ?_
        refine zEV.goto 29 dX0_hasPlan_25 (by decide) ?_
        have h := Option.some.inj h
        subst h
        exact zEV.zret rfl (Or.inr rfl) dX0_hasPlan_29
theorem kX0_hasPlan (b : Nat) (a1 : Int32) (a2 : Int32) (a3 : Int32) (hb : lf b) (M : zMM) (q : Int32 × zMM) (h : fX0_hasPlan b a1 a2 a3 M = some q) : zCN yX0_hasPlan iX0_hasPlan [.inr (.inr b), .inl a1, .inl a2, .inl a3] M (some (.inl q.1), q.2) :=
  zCN.of (by decide) rfl rfl (Nat.le_of_ble_eq_true rfl) (zEV.perm [0, 1, 2, 3] rfl (tX0_hasPlan_0 b a1 a2 a3 hb M q h))
-- RingedPage$Leaf.toNextPlan
def fX0_toNextPlan (b : Nat) (a1 : Int32) (a2 : Int32) (M : zMM) : Option (Int32 × zMM) :=
  (fX0_allows b ((M.1 b 3)) ((M.1 b 4)) (((M.1 b 5) + a2)) M).bind fun q1 =>
  if q1.1 = (0 : Int32) then
    (fX0_allows b ((q1.2.1 b 3)) (((q1.2.1 b 4) + a2)) (9) q1.2).bind fun q3 =>
    if q3.1 = (0 : Int32) then
      if a1 ≤ (q3.2.1 b 3) then
        some (0, q3.2)
      else
        (fX0_allows b (((q3.2.1 b 3) + 1)) (9) (9) q3.2).bind fun q6 =>
        if q6.1 = (0 : Int32) then
          some (0, q6.2)
        else
          (fX0_plan b (((q6.2.1 b 3) + 1)) (9) (9) q6.2).bind fun q8 =>
          some (1, q8)
    else
      (fX0_plan b ((q3.2.1 b 3)) (((q3.2.1 b 4) + a2)) (9) q3.2).bind fun q9 =>
      some (1, q9)
  else
    some (1, (wr q1.2 b 5 ((q1.2.1 b 5) + a2)))
set_option maxRecDepth 100000 in
theorem tX0_toNextPlan_0 (b : Nat) (a1 : Int32) (a2 : Int32) (hb : lf b) (M : zMM) (q : Int32 × zMM) (h : fX0_toNextPlan b a1 a2  M = some q) : zEV iX0_toNextPlan 0 0 (zZO (some (.inl q.1), q.2)) 0 [(0, .inr (.inr b)), (1, .inl a1), (2, .inl a2)] [] M := by
  unfold fX0_toNextPlan at h
  refine zEV.aload_n dX0_toNextPlan_0 rfl 0 rfl ?_
  refine zEV.aload_n dX0_toNextPlan_1 rfl 0 rfl ?_
  refine zEV.gfi rfl inz0 3 (by decide) wf_RX0_21 (lf_lt hb 0 (by decide)) (lf_shp hb 0 (by decide)) rfl dX0_toNextPlan_2 ?_
  refine zEV.aload_n dX0_toNextPlan_5 rfl 0 rfl ?_
  refine zEV.gfi rfl inz0 4 (by decide) wf_RX0_24 (lf_lt hb 0 (by decide)) (lf_shp hb 0 (by decide)) rfl dX0_toNextPlan_6 ?_
  refine zEV.aload_n dX0_toNextPlan_9 rfl 0 rfl ?_
  refine zEV.gfi rfl inz0 5 (by decide) wf_RX0_27 (lf_lt hb 0 (by decide)) (lf_shp hb 0 (by decide)) rfl dX0_toNextPlan_10 ?_
  refine zEV.iload_n dX0_toNextPlan_13 rfl 2 rfl ?_
  refine zEV.iadd dX0_toNextPlan_14 ?_
  obtain ⟨q1, hq1, h⟩ := bind_yes h
  refine zEV.callVi (kX0_allows b ((M.1 b 3)) ((M.1 b 4)) (((M.1 b 5) + a2)) hb M q1 hq1) (lf_lt hb 0 (by decide)) (lf_shp hb 0 (by decide)) rfl wm_RX0_64 wc_X0_allows hy_X0_allows rfl ⟨Nat.le_of_ble_eq_true rfl, Nat.le_of_ble_eq_true rfl⟩ rfl (Nat.le_of_ble_eq_true rfl) dX0_toNextPlan_15 ?_
  refine zEV.if_eq 33 dX0_toNextPlan_18 (by decide) (fun c2 => ?_) (fun c2 => ?_)
  · rw [if_pos c2] at h
    refine zEV.aload_n dX0_toNextPlan_33 rfl 0 rfl ?_
    refine zEV.aload_n dX0_toNextPlan_34 rfl 0 rfl ?_
    refine zEV.gfi rfl inz0 3 (by decide) wf_RX0_21 (lf_lt hb 0 (by decide)) (lf_shp hb 0 (by decide)) rfl dX0_toNextPlan_35 ?_
    refine zEV.aload_n dX0_toNextPlan_38 rfl 0 rfl ?_
    refine zEV.gfi rfl inz0 4 (by decide) wf_RX0_24 (lf_lt hb 0 (by decide)) (lf_shp hb 0 (by decide)) rfl dX0_toNextPlan_39 ?_
    refine zEV.iload_n dX0_toNextPlan_42 rfl 2 rfl ?_
    refine zEV.iadd dX0_toNextPlan_43 ?_
    refine zEV.bipush (v := 9) dX0_toNextPlan_44 rfl ?_
    obtain ⟨q3, hq3, h⟩ := bind_yes h
    refine zEV.callVi (kX0_allows b ((q1.2.1 b 3)) (((q1.2.1 b 4) + a2)) (9) hb q1.2 q3 hq3) (lf_lt hb 0 (by decide)) (lf_shp hb 0 (by decide)) rfl wm_RX0_64 wc_X0_allows hy_X0_allows rfl ⟨Nat.le_of_ble_eq_true rfl, Nat.le_of_ble_eq_true rfl⟩ rfl (Nat.le_of_ble_eq_true rfl) dX0_toNextPlan_46 ?_
    refine zEV.if_eq 70 dX0_toNextPlan_49 (by decide) (fun c4 => ?_) (fun c4 => ?_)
    · rw [if_pos c4] at h
      refine zEV.aload_n dX0_toNextPlan_70 rfl 0 rfl ?_
      refine zEV.gfi rfl inz0 3 (by decide) wf_RX0_21 (lf_lt hb 0 (by decide)) (lf_shp hb 0 (by decide)) rfl dX0_toNextPlan_71 ?_
      refine zEV.iload_n dX0_toNextPlan_74 rfl 1 rfl ?_
      refine zEV.icmp_ge 111 dX0_toNextPlan_75 (by decide) (fun c5 => ?_) (fun c5 => ?_)
      · rw [if_pos c5] at h
        refine zEV.iconst (v := 0) dX0_toNextPlan_111 rfl ?_
        have h := Option.some.inj h
        subst h
        exact zEV.zret rfl (Or.inl rfl) dX0_toNextPlan_112
      · rw [if_neg c5] at h
        refine zEV.aload_n dX0_toNextPlan_78 rfl 0 rfl ?_
        refine zEV.aload_n dX0_toNextPlan_79 rfl 0 rfl ?_
        refine zEV.gfi rfl inz0 3 (by decide) wf_RX0_21 (lf_lt hb 0 (by decide)) (lf_shp hb 0 (by decide)) rfl dX0_toNextPlan_80 ?_
        refine zEV.iconst (v := 1) dX0_toNextPlan_83 rfl ?_
        refine zEV.iadd dX0_toNextPlan_84 ?_
        refine zEV.bipush (v := 9) dX0_toNextPlan_85 rfl ?_
        refine zEV.bipush (v := 9) dX0_toNextPlan_87 rfl ?_
        obtain ⟨q6, hq6, h⟩ := bind_yes h
        refine zEV.callVi (kX0_allows b (((q3.2.1 b 3) + 1)) (9) (9) hb q3.2 q6 hq6) (lf_lt hb 0 (by decide)) (lf_shp hb 0 (by decide)) rfl wm_RX0_64 wc_X0_allows hy_X0_allows rfl ⟨Nat.le_of_ble_eq_true rfl, Nat.le_of_ble_eq_true rfl⟩ rfl (Nat.le_of_ble_eq_true rfl) dX0_toNextPlan_89 ?_
        refine zEV.if_eq 111 dX0_toNextPlan_92 (by decide) (fun c7 => ?_) (fun c7 => ?_)
        · rw [if_pos c7] at h
          refine zEV.iconst (v := 0) dX0_toNextPlan_111 rfl ?_
          have h := Option.some.inj h
          subst h
          exact zEV.zret rfl (Or.inl rfl) dX0_toNextPlan_112
        · rw [if_neg c7] at h
          refine zEV.aload_n dX0_toNextPlan_95 rfl 0 rfl ?_
          refine zEV.aload_n dX0_toNextPlan_96 rfl 0 rfl ?_
          refine zEV.gfi rfl inz0 3 (by decide) wf_RX0_21 (lf_lt hb 0 (by decide)) (lf_shp hb 0 (by decide)) rfl dX0_toNextPlan_97 ?_
          refine zEV.iconst (v := 1) dX0_toNextPlan_100 rfl ?_
          refine zEV.iadd dX0_toNextPlan_101 ?_
          refine zEV.bipush (v := 9) dX0_toNextPlan_102 rfl ?_
          refine zEV.bipush (v := 9) dX0_toNextPlan_104 rfl ?_
          obtain ⟨q8, hq8, h⟩ := bind_yes h
          refine zEV.callVv (kX0_plan b (((q6.2.1 b 3) + 1)) (9) (9) hb q6.2 q8 hq8) (lf_lt hb 0 (by decide)) (lf_shp hb 0 (by decide)) rfl wm_RX0_54 wc_X0_plan hy_X0_plan rfl ⟨Nat.le_of_ble_eq_true rfl, Nat.le_of_ble_eq_true rfl⟩ rfl (Nat.le_of_ble_eq_true rfl) dX0_toNextPlan_106 ?_
          refine zEV.iconst (v := 1) dX0_toNextPlan_109 rfl ?_
          have h := Option.some.inj h
          subst h
          exact zEV.zret rfl (Or.inr rfl) dX0_toNextPlan_110
    · rw [if_neg c4] at h
      refine zEV.aload_n dX0_toNextPlan_52 rfl 0 rfl ?_
      refine zEV.aload_n dX0_toNextPlan_53 rfl 0 rfl ?_
      refine zEV.gfi rfl inz0 3 (by decide) wf_RX0_21 (lf_lt hb 0 (by decide)) (lf_shp hb 0 (by decide)) rfl dX0_toNextPlan_54 ?_
      refine zEV.aload_n dX0_toNextPlan_57 rfl 0 rfl ?_
      refine zEV.gfi rfl inz0 4 (by decide) wf_RX0_24 (lf_lt hb 0 (by decide)) (lf_shp hb 0 (by decide)) rfl dX0_toNextPlan_58 ?_
      refine zEV.iload_n dX0_toNextPlan_61 rfl 2 rfl ?_
      refine zEV.iadd dX0_toNextPlan_62 ?_
      refine zEV.bipush (v := 9) dX0_toNextPlan_63 rfl ?_
      obtain ⟨q9, hq9, h⟩ := bind_yes h
      refine zEV.callVv (kX0_plan b ((q3.2.1 b 3)) (((q3.2.1 b 4) + a2)) (9) hb q3.2 q9 hq9) (lf_lt hb 0 (by decide)) (lf_shp hb 0 (by decide)) rfl wm_RX0_54 wc_X0_plan hy_X0_plan rfl ⟨Nat.le_of_ble_eq_true rfl, Nat.le_of_ble_eq_true rfl⟩ rfl (Nat.le_of_ble_eq_true rfl) dX0_toNextPlan_65 ?_
      refine zEV.iconst (v := 1) dX0_toNextPlan_68 rfl ?_
      have h := Option.some.inj h
      subst h
      exact zEV.zret rfl (Or.inr rfl) dX0_toNextPlan_69
  · rw [if_neg c2] at h
    refine zEV.aload_n dX0_toNextPlan_21 rfl 0 rfl ?_
    refine zEV.dup dX0_toNextPlan_22 rfl ?_
    refine zEV.gfi rfl inz0 5 (by decide) wf_RX0_27 (lf_lt hb 0 (by decide)) (lf_shp hb 0 (by decide)) rfl dX0_toNextPlan_23 ?_
    refine zEV.iload_n dX0_toNextPlan_26 rfl 2 rfl ?_
    refine zEV.iadd dX0_toNextPlan_27 ?_
    refine zEV.pfi rfl inz0 tyX0 tyX0_ok nmX0 5 (by decide) wf_RX0_27 rfl (by decide +kernel) (lf_lt hb 0 (by decide)) (lf_shp hb 0 (by decide)) rfl dX0_toNextPlan_28 ?_
    refine zEV.iconst (v := 1) dX0_toNextPlan_31 rfl ?_
    have h := Option.some.inj h
    subst h
    exact zEV.zret rfl (Or.inr rfl) dX0_toNextPlan_32
theorem kX0_toNextPlan (b : Nat) (a1 : Int32) (a2 : Int32) (hb : lf b) (M : zMM) (q : Int32 × zMM) (h : fX0_toNextPlan b a1 a2 M = some q) : zCN yX0_toNextPlan iX0_toNextPlan [.inr (.inr b), .inl a1, .inl a2] M (some (.inl q.1), q.2) :=
  zCN.of (by decide) rfl rfl (Nat.le_of_ble_eq_true rfl) (zEV.perm [0, 1, 2] rfl (tX0_toNextPlan_0 b a1 a2 hb M q h))
-- RingedPage$Leaf.pageOf
def fX0_pageOf (b : Nat) (a1 : Int32) (M : zMM) : Option (Int32 × zMM) :=
  if (M.1 b 1) ≤ (0 : Int32) then
    some (0, M)
  else
    if (M.1 b 1) = 0 then none else
    some ((a1 / (M.1 b 1)), M)
set_option maxRecDepth 100000 in
theorem tX0_pageOf_0 (b : Nat) (a1 : Int32) (hb : lf b) (M : zMM) (q : Int32 × zMM) (h : fX0_pageOf b a1  M = some q) : zEV iX0_pageOf 0 0 (zZO (some (.inl q.1), q.2)) 0 [(0, .inr (.inr b)), (1, .inl a1)] [] M := by
  unfold fX0_pageOf at h
  refine zEV.aload_n dX0_pageOf_0 rfl 0 rfl ?_
  refine zEV.gfi rfl inz0 1 (by decide) wf_RX0_15 (lf_lt hb 0 (by decide)) (lf_shp hb 0 (by decide)) rfl dX0_pageOf_1 ?_
  refine zEV.if_le 16 dX0_pageOf_4 (by decide) (fun c1 => ?_) (fun c1 => ?_)
  · rw [if_pos c1] at h
    refine zEV.iconst (v := 0) dX0_pageOf_16 rfl ?_
    have h := Option.some.inj h
    subst h
    exact zEV.iret rfl dX0_pageOf_17
  · rw [if_neg c1] at h
    refine zEV.iload_n dX0_pageOf_7 rfl 1 rfl ?_
    refine zEV.aload_n dX0_pageOf_8 rfl 0 rfl ?_
    refine zEV.gfi rfl inz0 1 (by decide) wf_RX0_15 (lf_lt hb 0 (by decide)) (lf_shp hb 0 (by decide)) rfl dX0_pageOf_9 ?_
    obtain ⟨g2, h⟩ := ite_no h
    refine zEV.idiv dX0_pageOf_12 g2 ?_
    refine zEV.goto 17 dX0_pageOf_13 (by decide) ?_
    have h := Option.some.inj h
    subst h
    exact zEV.iret rfl dX0_pageOf_17
theorem kX0_pageOf (b : Nat) (a1 : Int32) (hb : lf b) (M : zMM) (q : Int32 × zMM) (h : fX0_pageOf b a1 M = some q) : zCN yX0_pageOf iX0_pageOf [.inr (.inr b), .inl a1] M (some (.inl q.1), q.2) :=
  zCN.of (by decide) rfl rfl (Nat.le_of_ble_eq_true rfl) (zEV.perm [0, 1] rfl (tX0_pageOf_0 b a1 hb M q h))
-- RingedPage.isText
def fX6_isText (a0 : Int32) (M : zMM) : Option (Int32 × zMM) :=
  if a0 < (0 : Int32) then
    some (0, M)
  else
    if (3 : Int32) ≤ a0 then
      some (0, M)
    else
      some (1, M)
set_option maxRecDepth 100000 in
theorem tX6_isText_0 (a0 : Int32) (M : zMM) (q : Int32 × zMM) (h : fX6_isText a0  M = some q) : zEV iX6_isText 0 0 (zZO (some (.inl q.1), q.2)) 0 [(0, .inl a0)] [] M := by
  unfold fX6_isText at h
  refine zEV.iload_n dX6_isText_0 rfl 0 rfl ?_
  refine zEV.if_lt 13 dX6_isText_1 (by decide) (fun c1 => ?_) (fun c1 => ?_)
  · rw [if_pos c1] at h
    refine zEV.iconst (v := 0) dX6_isText_13 rfl ?_
    have h := Option.some.inj h
    subst h
    exact zEV.zret rfl (Or.inl rfl) dX6_isText_14
  · rw [if_neg c1] at h
    refine zEV.iload_n dX6_isText_4 rfl 0 rfl ?_
    refine zEV.iconst (v := 3) dX6_isText_5 rfl ?_
    refine zEV.icmp_ge 13 dX6_isText_6 (by decide) (fun c2 => ?_) (fun c2 => ?_)
    · rw [if_pos c2] at h
      refine zEV.iconst (v := 0) dX6_isText_13 rfl ?_
      have h := Option.some.inj h
      subst h
      exact zEV.zret rfl (Or.inl rfl) dX6_isText_14
    · rw [if_neg c2] at h
      refine zEV.iconst (v := 1) dX6_isText_9 rfl ?_
      refine zEV.goto 14 dX6_isText_10 (by decide) ?_
      have h := Option.some.inj h
      subst h
      exact zEV.zret rfl (Or.inr rfl) dX6_isText_14
theorem kX6_isText (a0 : Int32) (M : zMM) (q : Int32 × zMM) (h : fX6_isText a0 M = some q) : zCN yX6_isText iX6_isText [.inl a0] M (some (.inl q.1), q.2) :=
  zCN.of (by decide) rfl rfl (Nat.le_of_ble_eq_true rfl) (zEV.perm [0] rfl (tX6_isText_0 a0 M q h))
-- RingedPage$Leaf.hasWord
def fX0_hasWord (b : Nat) (a1 : Int32) (a2 : Int32) (M : zMM) : Option (Int32 × zMM) :=
  (fX6_isText (a1) M).bind fun q1 =>
  if q1.1 = (0 : Int32) then
    some (0, q1.2)
  else
    if a2 < (0 : Int32) then
      some (0, q1.2)
    else
      if oob (a1) 3 then none else
      if (q1.2.1 (b + 2) (Int32.toNatClampNeg a1)) ≤ a2 then
        some (0, q1.2)
      else
        some (1, q1.2)
set_option maxRecDepth 100000 in
theorem tX0_hasWord_0 (b : Nat) (a1 : Int32) (a2 : Int32) (hb : lf b) (M : zMM) (q : Int32 × zMM) (h : fX0_hasWord b a1 a2  M = some q) : zEV iX0_hasWord 0 0 (zZO (some (.inl q.1), q.2)) 0 [(0, .inr (.inr b)), (1, .inl a1), (2, .inl a2)] [] M := by
  unfold fX0_hasWord at h
  refine zEV.iload_n dX0_hasWord_0 rfl 1 rfl ?_
  obtain ⟨q1, hq1, h⟩ := bind_yes h
  refine zEV.callSNi (kX6_isText (a1)  M q1 hq1) (by decide) wc_X6_isText hy_X6_isText rfl ⟨Nat.le_of_ble_eq_true rfl, Nat.le_of_ble_eq_true rfl⟩ rfl (Nat.le_of_ble_eq_true rfl) dX0_hasWord_1 ?_
  refine zEV.if_eq 25 dX0_hasWord_4 (by decide) (fun c2 => ?_) (fun c2 => ?_)
  · rw [if_pos c2] at h
    refine zEV.iconst (v := 0) dX0_hasWord_25 rfl ?_
    have h := Option.some.inj h
    subst h
    exact zEV.zret rfl (Or.inl rfl) dX0_hasWord_26
  · rw [if_neg c2] at h
    refine zEV.iload_n dX0_hasWord_7 rfl 2 rfl ?_
    refine zEV.if_lt 25 dX0_hasWord_8 (by decide) (fun c3 => ?_) (fun c3 => ?_)
    · rw [if_pos c3] at h
      refine zEV.iconst (v := 0) dX0_hasWord_25 rfl ?_
      have h := Option.some.inj h
      subst h
      exact zEV.zret rfl (Or.inl rfl) dX0_hasWord_26
    · rw [if_neg c3] at h
      refine zEV.iload_n dX0_hasWord_11 rfl 2 rfl ?_
      refine zEV.aload_n dX0_hasWord_12 rfl 0 rfl ?_
      refine zEV.gfr rfl inz0 8 (by decide) wf_RX0_37 (lf_lt hb 0 (by decide)) (lf_shp hb 0 (by decide)) rfl dX0_hasWord_13 ?_
      refine zEV.iload_n dX0_hasWord_16 rfl 1 rfl ?_
      obtain ⟨g4, h⟩ := ite_no h
      refine zEV.iald (lf_lt hb 2 (by decide)) (lf_shp hb 2 (by decide)) g4 dX0_hasWord_17 ?_
      refine zEV.icmp_ge 25 dX0_hasWord_18 (by decide) (fun c5 => ?_) (fun c5 => ?_)
      · rw [if_pos c5] at h
        refine zEV.iconst (v := 0) dX0_hasWord_25 rfl ?_
        have h := Option.some.inj h
        subst h
        exact zEV.zret rfl (Or.inl rfl) dX0_hasWord_26
      · rw [if_neg c5] at h
        refine zEV.iconst (v := 1) dX0_hasWord_21 rfl ?_
        refine zEV.goto 26 dX0_hasWord_22 (by decide) ?_
        have h := Option.some.inj h
        subst h
        exact zEV.zret rfl (Or.inr rfl) dX0_hasWord_26
theorem kX0_hasWord (b : Nat) (a1 : Int32) (a2 : Int32) (hb : lf b) (M : zMM) (q : Int32 × zMM) (h : fX0_hasWord b a1 a2 M = some q) : zCN yX0_hasWord iX0_hasWord [.inr (.inr b), .inl a1, .inl a2] M (some (.inl q.1), q.2) :=
  zCN.of (by decide) rfl rfl (Nat.le_of_ble_eq_true rfl) (zEV.perm [0, 1, 2] rfl (tX0_hasWord_0 b a1 a2 hb M q h))
-- RingedPage$Leaf.setSize
def fX0_setSize (b : Nat) (a1 : Int32) (a2 : Int32) (a3 : Int32) (M : zMM) : Option (Int32 × zMM) :=
  (fX0_hasWord b (a1) (a2) M).bind fun q1 =>
  if q1.1 = (0 : Int32) then
    some (0, q1.2)
  else
    if oob (a1) 3 then none else
    if oob (a2) 70 then none else
    if (q1.2.1 (b + 4 + 1 * Int32.toNatClampNeg a1) (Int32.toNatClampNeg a2)) = a3 then
      some (0, q1.2)
    else
      some (1, (wr q1.2 (b + 4 + 1 * Int32.toNatClampNeg a1) (Int32.toNatClampNeg a2) a3))
set_option maxRecDepth 100000 in
theorem tX0_setSize_0 (b : Nat) (a1 : Int32) (a2 : Int32) (a3 : Int32) (hb : lf b) (M : zMM) (q : Int32 × zMM) (h : fX0_setSize b a1 a2 a3  M = some q) : zEV iX0_setSize 0 0 (zZO (some (.inl q.1), q.2)) 0 [(0, .inr (.inr b)), (1, .inl a1), (2, .inl a2), (3, .inl a3)] [] M := by
  unfold fX0_setSize at h
  refine zEV.aload_n dX0_setSize_0 rfl 0 rfl ?_
  refine zEV.iload_n dX0_setSize_1 rfl 1 rfl ?_
  refine zEV.iload_n dX0_setSize_2 rfl 2 rfl ?_
  obtain ⟨q1, hq1, h⟩ := bind_yes h
  refine zEV.callVi (kX0_hasWord b (a1) (a2) hb M q1 hq1) (lf_lt hb 0 (by decide)) (lf_shp hb 0 (by decide)) rfl wm_RX0_72 wc_X0_hasWord hy_X0_hasWord rfl ⟨Nat.le_of_ble_eq_true rfl, Nat.le_of_ble_eq_true rfl⟩ rfl (Nat.le_of_ble_eq_true rfl) dX0_setSize_3 ?_
  refine zEV.if_eq 21 dX0_setSize_6 (by decide) (fun c2 => ?_) (fun c2 => ?_)
  · rw [if_pos c2] at h
    refine zEV.iconst (v := 0) dX0_setSize_21 rfl ?_
    have h := Option.some.inj h
    subst h
    exact zEV.zret rfl (Or.inl rfl) dX0_setSize_22
  · rw [if_neg c2] at h
    refine zEV.aload_n dX0_setSize_9 rfl 0 rfl ?_
    refine zEV.gfr rfl inz0 9 (by decide) wf_RX0_42 (lf_lt hb 0 (by decide)) (lf_shp hb 0 (by decide)) rfl dX0_setSize_10 ?_
    refine zEV.iload_n dX0_setSize_13 rfl 1 rfl ?_
    obtain ⟨g3, h⟩ := ite_no h
    refine zEV.aald (lf_lt hb 3 (by decide)) (by decide) (lf_shp hb 3 (by decide)) g3 dX0_setSize_14 ?_
    refine zEV.iload_n dX0_setSize_15 rfl 2 rfl ?_
    obtain ⟨g4, h⟩ := ite_no h
    refine zEV.iald (lf_row hb g3).1 (lf_row hb g3).2 g4 dX0_setSize_16 ?_
    refine zEV.iload_n dX0_setSize_17 rfl 3 rfl ?_
    refine zEV.icmp_ne 23 dX0_setSize_18 (by decide) (fun c5 => ?_) (fun c5 => ?_)
    · rw [if_neg c5] at h
      refine zEV.aload_n dX0_setSize_23 rfl 0 rfl ?_
      refine zEV.gfr rfl inz0 9 (by decide) wf_RX0_42 (lf_lt hb 0 (by decide)) (lf_shp hb 0 (by decide)) rfl dX0_setSize_24 ?_
      refine zEV.iload_n dX0_setSize_27 rfl 1 rfl ?_
      refine zEV.aald (lf_lt hb 3 (by decide)) (by decide) (lf_shp hb 3 (by decide)) g3 dX0_setSize_28 ?_
      refine zEV.iload_n dX0_setSize_29 rfl 2 rfl ?_
      refine zEV.iload_n dX0_setSize_30 rfl 3 rfl ?_
      refine zEV.iast (lf_row hb g3).1 (lf_row hb g3).2 g4 dX0_setSize_31 ?_
      refine zEV.iconst (v := 1) dX0_setSize_32 rfl ?_
      have h := Option.some.inj h
      subst h
      exact zEV.zret rfl (Or.inr rfl) dX0_setSize_33
    · rw [if_pos c5] at h
      refine zEV.iconst (v := 0) dX0_setSize_21 rfl ?_
      have h := Option.some.inj h
      subst h
      exact zEV.zret rfl (Or.inl rfl) dX0_setSize_22
theorem kX0_setSize (b : Nat) (a1 : Int32) (a2 : Int32) (a3 : Int32) (hb : lf b) (M : zMM) (q : Int32 × zMM) (h : fX0_setSize b a1 a2 a3 M = some q) : zCN yX0_setSize iX0_setSize [.inr (.inr b), .inl a1, .inl a2, .inl a3] M (some (.inl q.1), q.2) :=
  zCN.of (by decide) rfl rfl (Nat.le_of_ble_eq_true rfl) (zEV.perm [0, 1, 2, 3] rfl (tX0_setSize_0 b a1 a2 a3 hb M q h))
-- RingedPage$Leaf.moveTies
def fX0_moveTies_82 (K3 : Int32 → zMM → Option (zMM)) (b : Nat) (a1 : Int32) (a2 : Int32) (a3 : Int32) (l4 : Int32) (M : zMM) : Option (zMM) :=
  K3 ((l4 + 1)) M
set_option maxRecDepth 100000 in
theorem tX0_moveTies_82 (K3 : Int32 → zMM → Option (zMM)) (b : Nat) (a1 : Int32) (a2 : Int32) (a3 : Int32) (hb : lf b) (hK3 : ∀ (l4 : Int32) (M : zMM) (q : zMM), K3 l4 M = some q → zEV iX0_moveTies 0 0 (zZO (none, q)) 3 [(0, .inr (.inr b)), (1, .inl a1), (2, .inl a2), (3, .inl a3), (4, .inl l4)] [] M) (l4 : Int32) (M : zMM) (q : zMM) (h : fX0_moveTies_82 K3 b a1 a2 a3 l4 M = some q) : zEV iX0_moveTies 0 0 (zZO (none, q)) 82 [(0, .inr (.inr b)), (1, .inl a1), (2, .inl a2), (3, .inl a3), (4, .inl l4)] [] M := by
  unfold fX0_moveTies_82 at h
  refine zEV.iinc (v := (l4 + 1)) dX0_moveTies_82 4 rfl rfl (Nat.le_of_ble_eq_true rfl) rfl ?_
  refine zEV.goto 3 dX0_moveTies_85 (by decide) ?_
  exact zEV.perm [1, 2, 3, 4, 0] rfl (hK3 ((l4 + 1)) M q h)
def fX0_moveTies_80 (K3 : Int32 → zMM → Option (zMM)) (b : Nat) (a1 : Int32) (a2 : Int32) (a3 : Int32) (l4 : Int32) (s0 : Int32) (s1 : Int32) (s2 : Int32) (M : zMM) : Option (zMM) :=
  if oob (s2) 12 then none else
  fX0_moveTies_82 K3 b a1 a2 a3 (l4) (wr M (b + 8) (Int32.toNatClampNeg s2) (s1 + s0))
set_option maxRecDepth 100000 in
theorem tX0_moveTies_80 (K3 : Int32 → zMM → Option (zMM)) (b : Nat) (a1 : Int32) (a2 : Int32) (a3 : Int32) (hb : lf b) (hK3 : ∀ (l4 : Int32) (M : zMM) (q : zMM), K3 l4 M = some q → zEV iX0_moveTies 0 0 (zZO (none, q)) 3 [(0, .inr (.inr b)), (1, .inl a1), (2, .inl a2), (3, .inl a3), (4, .inl l4)] [] M) (l4 : Int32) (s0 : Int32) (s1 : Int32) (s2 : Int32) (M : zMM) (q : zMM) (h : fX0_moveTies_80 K3 b a1 a2 a3 l4 s0 s1 s2 M = some q) : zEV iX0_moveTies 0 0 (zZO (none, q)) 80 [(0, .inr (.inr b)), (1, .inl a1), (2, .inl a2), (3, .inl a3), (4, .inl l4)] [.inl s0, .inl s1, .inl s2, .inr (.inr (b + 8))] M := by
  unfold fX0_moveTies_80 at h
  refine zEV.iadd dX0_moveTies_80 ?_
  obtain ⟨g1, h⟩ := ite_no h
  refine zEV.iast (lf_lt hb 8 (by decide)) (lf_shp hb 8 (by decide)) g1 dX0_moveTies_81 ?_
  exact zEV.perm [0, 1, 2, 3, 4] rfl (tX0_moveTies_82 K3 b a1 a2 a3 hb hK3 (l4) (wr M (b + 8) (Int32.toNatClampNeg s2) (s1 + s0)) q h)
def fX0_moveTies_40 (K3 : Int32 → zMM → Option (zMM)) (b : Nat) (a1 : Int32) (a2 : Int32) (a3 : Int32) (l4 : Int32) (s0 : Int32) (s1 : Int32) (s2 : Int32) (M : zMM) : Option (zMM) :=
  if oob (s2) 12 then none else
  fX0_moveTies_82 K3 b a1 a2 a3 (l4) (wr M (b + 9) (Int32.toNatClampNeg s2) (s1 + s0))
set_option maxRecDepth 100000 in
theorem tX0_moveTies_40 (K3 : Int32 → zMM → Option (zMM)) (b : Nat) (a1 : Int32) (a2 : Int32) (a3 : Int32) (hb : lf b) (hK3 : ∀ (l4 : Int32) (M : zMM) (q : zMM), K3 l4 M = some q → zEV iX0_moveTies 0 0 (zZO (none, q)) 3 [(0, .inr (.inr b)), (1, .inl a1), (2, .inl a2), (3, .inl a3), (4, .inl l4)] [] M) (l4 : Int32) (s0 : Int32) (s1 : Int32) (s2 : Int32) (M : zMM) (q : zMM) (h : fX0_moveTies_40 K3 b a1 a2 a3 l4 s0 s1 s2 M = some q) : zEV iX0_moveTies 0 0 (zZO (none, q)) 40 [(0, .inr (.inr b)), (1, .inl a1), (2, .inl a2), (3, .inl a3), (4, .inl l4)] [.inl s0, .inl s1, .inl s2, .inr (.inr (b + 9))] M := by
  unfold fX0_moveTies_40 at h
  refine zEV.iadd dX0_moveTies_40 ?_
  obtain ⟨g1, h⟩ := ite_no h
  refine zEV.iast (lf_lt hb 9 (by decide)) (lf_shp hb 9 (by decide)) g1 dX0_moveTies_41 ?_
  refine zEV.goto 82 dX0_moveTies_42 (by decide) ?_
  exact zEV.perm [0, 1, 2, 3, 4] rfl (tX0_moveTies_82 K3 b a1 a2 a3 hb hK3 (l4) (wr M (b + 9) (Int32.toNatClampNeg s2) (s1 + s0)) q h)
def fX0_moveTies_3 (b : Nat) (a1 : Int32) (a2 : Int32) (a3 : Int32) : Nat → Int32 → zMM → Option (zMM)
  | 0, _, _ => none
  | n + 1, l4, M =>
  if (M.1 b 6) ≤ l4 then
    some M
  else
    if a1 = (0 : Int32) then
      if oob (l4) 12 then none else
      if (M.1 (b + 9) (Int32.toNatClampNeg l4)) < a2 then
        fX0_moveTies_40 (fX0_moveTies_3 b a1 a2 a3 n) b a1 a2 a3 (l4) (0) ((M.1 (b + 9) (Int32.toNatClampNeg l4))) (l4) M
      else
        fX0_moveTies_40 (fX0_moveTies_3 b a1 a2 a3 n) b a1 a2 a3 (l4) (a3) ((M.1 (b + 9) (Int32.toNatClampNeg l4))) (l4) M
    else
      if oob (l4) 12 then none else
      if (M.1 (b + 7) (Int32.toNatClampNeg l4)) = a1 then
        if (M.1 (b + 8) (Int32.toNatClampNeg l4)) < a2 then
          fX0_moveTies_80 (fX0_moveTies_3 b a1 a2 a3 n) b a1 a2 a3 (l4) (0) ((M.1 (b + 8) (Int32.toNatClampNeg l4))) (l4) M
        else
          fX0_moveTies_80 (fX0_moveTies_3 b a1 a2 a3 n) b a1 a2 a3 (l4) (a3) ((M.1 (b + 8) (Int32.toNatClampNeg l4))) (l4) M
      else
        fX0_moveTies_82 (fX0_moveTies_3 b a1 a2 a3 n) b a1 a2 a3 (l4) M
set_option maxRecDepth 100000 in
theorem tX0_moveTies_3 (b : Nat) (a1 : Int32) (a2 : Int32) (a3 : Int32) (hb : lf b) : ∀ (n : Nat) (l4 : Int32) (M : zMM) (q : zMM), fX0_moveTies_3 b a1 a2 a3 n l4 M = some q → zEV iX0_moveTies 0 0 (zZO (none, q)) 3 [(0, .inr (.inr b)), (1, .inl a1), (2, .inl a2), (3, .inl a3), (4, .inl l4)] [] M := by
  intro n
  induction n with
  | zero =>
    intro l4 M q h
    rw [fX0_moveTies_3] at h
    cases h
  | succ n ih =>
    intro l4 M q h
    rw [fX0_moveTies_3] at h
    refine zEV.iload dX0_moveTies_3 4 rfl ?_
    refine zEV.aload_n dX0_moveTies_5 rfl 0 rfl ?_
    refine zEV.gfi rfl inz0 6 (by decide) wf_RX0_30 (lf_lt hb 0 (by decide)) (lf_shp hb 0 (by decide)) rfl dX0_moveTies_6 ?_
    refine zEV.icmp_ge 88 dX0_moveTies_9 (by decide) (fun c1 => ?_) (fun c1 => ?_)
    · rw [if_pos c1] at h
      have h := Option.some.inj h
      subst h
      exact zEV.vret rfl dX0_moveTies_88
    · rw [if_neg c1] at h
      refine zEV.iload_n dX0_moveTies_12 rfl 1 rfl ?_
      refine zEV.if_ne 45 dX0_moveTies_13 (by decide) (fun c2 => ?_) (fun c2 => ?_)
      · rw [if_neg c2] at h
        refine zEV.aload_n dX0_moveTies_45 rfl 0 rfl ?_
        refine zEV.gfr rfl inz0 10 (by decide) wf_RX0_45 (lf_lt hb 0 (by decide)) (lf_shp hb 0 (by decide)) rfl dX0_moveTies_46 ?_
        refine zEV.iload dX0_moveTies_49 4 rfl ?_
        obtain ⟨g3, h⟩ := ite_no h
        refine zEV.iald (lf_lt hb 7 (by decide)) (lf_shp hb 7 (by decide)) g3 dX0_moveTies_51 ?_
        refine zEV.iload_n dX0_moveTies_52 rfl 1 rfl ?_
        refine zEV.icmp_ne 82 dX0_moveTies_53 (by decide) (fun c4 => ?_) (fun c4 => ?_)
        · rw [if_neg c4] at h
          exact zEV.perm [0, 1, 2, 3, 4] rfl (tX0_moveTies_82 (fX0_moveTies_3 b a1 a2 a3 n) b a1 a2 a3 hb (fun l4 M9 q9 h9 => ih l4 M9 q9 h9) (l4) M q h)
        · rw [if_pos c4] at h
          refine zEV.aload_n dX0_moveTies_56 rfl 0 rfl ?_
          refine zEV.gfr rfl inz0 11 (by decide) wf_RX0_48 (lf_lt hb 0 (by decide)) (lf_shp hb 0 (by decide)) rfl dX0_moveTies_57 ?_
          refine zEV.iload dX0_moveTies_60 4 rfl ?_
          refine zEV.dup2 dX0_moveTies_62 rfl rfl ?_
          refine zEV.iald (lf_lt hb 8 (by decide)) (lf_shp hb 8 (by decide)) g3 dX0_moveTies_63 ?_
          refine zEV.aload_n dX0_moveTies_64 rfl 0 rfl ?_
          refine zEV.gfr rfl inz0 11 (by decide) wf_RX0_48 (lf_lt hb 0 (by decide)) (lf_shp hb 0 (by decide)) rfl dX0_moveTies_65 ?_
          refine zEV.iload dX0_moveTies_68 4 rfl ?_
          refine zEV.iald (lf_lt hb 8 (by decide)) (lf_shp hb 8 (by decide)) g3 dX0_moveTies_70 ?_
          refine zEV.iload_n dX0_moveTies_71 rfl 2 rfl ?_
          refine zEV.icmp_lt 79 dX0_moveTies_72 (by decide) (fun c5 => ?_) (fun c5 => ?_)
          · rw [if_pos c5] at h
            refine zEV.iconst (v := 0) dX0_moveTies_79 rfl ?_
            exact zEV.perm [0, 1, 2, 3, 4] rfl (tX0_moveTies_80 (fX0_moveTies_3 b a1 a2 a3 n) b a1 a2 a3 hb (fun l4 M9 q9 h9 => ih l4 M9 q9 h9) (l4) (0) ((M.1 (b + 8) (Int32.toNatClampNeg l4))) (l4) M q h)
          · rw [if_neg c5] at h
            refine zEV.iload_n dX0_moveTies_75 rfl 3 rfl ?_
            refine zEV.goto 80 dX0_moveTies_76 (by decide) ?_
            exact zEV.perm [0, 1, 2, 3, 4] rfl (tX0_moveTies_80 (fX0_moveTies_3 b a1 a2 a3 n) b a1 a2 a3 hb (fun l4 M9 q9 h9 => ih l4 M9 q9 h9) (l4) (a3) ((M.1 (b + 8) (Int32.toNatClampNeg l4))) (l4) M q h)
      · rw [if_pos c2] at h
        refine zEV.aload_n dX0_moveTies_16 rfl 0 rfl ?_
        refine zEV.gfr rfl inz0 12 (by decide) wf_RX0_51 (lf_lt hb 0 (by decide)) (lf_shp hb 0 (by decide)) rfl dX0_moveTies_17 ?_
        refine zEV.iload dX0_moveTies_20 4 rfl ?_
        refine zEV.dup2 dX0_moveTies_22 rfl rfl ?_
        obtain ⟨g6, h⟩ := ite_no h
        refine zEV.iald (lf_lt hb 9 (by decide)) (lf_shp hb 9 (by decide)) g6 dX0_moveTies_23 ?_
        refine zEV.aload_n dX0_moveTies_24 rfl 0 rfl ?_
        refine zEV.gfr rfl inz0 12 (by decide) wf_RX0_51 (lf_lt hb 0 (by decide)) (lf_shp hb 0 (by decide)) rfl dX0_moveTies_25 ?_
        refine zEV.iload dX0_moveTies_28 4 rfl ?_
        refine zEV.iald (lf_lt hb 9 (by decide)) (lf_shp hb 9 (by decide)) g6 dX0_moveTies_30 ?_
        refine zEV.iload_n dX0_moveTies_31 rfl 2 rfl ?_
        refine zEV.icmp_lt 39 dX0_moveTies_32 (by decide) (fun c7 => ?_) (fun c7 => ?_)
        · rw [if_pos c7] at h
          refine zEV.iconst (v := 0) dX0_moveTies_39 rfl ?_
          exact zEV.perm [0, 1, 2, 3, 4] rfl (tX0_moveTies_40 (fX0_moveTies_3 b a1 a2 a3 n) b a1 a2 a3 hb (fun l4 M9 q9 h9 => ih l4 M9 q9 h9) (l4) (0) ((M.1 (b + 9) (Int32.toNatClampNeg l4))) (l4) M q h)
        · rw [if_neg c7] at h
          refine zEV.iload_n dX0_moveTies_35 rfl 3 rfl ?_
          refine zEV.goto 40 dX0_moveTies_36 (by decide) ?_
          exact zEV.perm [0, 1, 2, 3, 4] rfl (tX0_moveTies_40 (fX0_moveTies_3 b a1 a2 a3 n) b a1 a2 a3 hb (fun l4 M9 q9 h9 => ih l4 M9 q9 h9) (l4) (a3) ((M.1 (b + 9) (Int32.toNatClampNeg l4))) (l4) M q h)
def fX0_moveTies (b : Nat) (a1 : Int32) (a2 : Int32) (a3 : Int32) (M : zMM) : Option (zMM) :=
  fX0_moveTies_3 b a1 a2 a3 zFU (0) M
set_option maxRecDepth 100000 in
theorem tX0_moveTies_0 (b : Nat) (a1 : Int32) (a2 : Int32) (a3 : Int32) (hb : lf b) (M : zMM) (q : zMM) (h : fX0_moveTies b a1 a2 a3  M = some q) : zEV iX0_moveTies 0 0 (zZO (none, q)) 0 [(0, .inr (.inr b)), (1, .inl a1), (2, .inl a2), (3, .inl a3)] [] M := by
  unfold fX0_moveTies at h
  refine zEV.iconst (v := 0) dX0_moveTies_0 rfl ?_
  refine zEV.istore dX0_moveTies_1 (Nat.le_of_ble_eq_true rfl) rfl ?_
  exact zEV.perm [1, 2, 3, 4, 0] rfl (tX0_moveTies_3 b a1 a2 a3 hb zFU (0) M q h)
theorem kX0_moveTies (b : Nat) (a1 : Int32) (a2 : Int32) (a3 : Int32) (hb : lf b) (M : zMM) (q : zMM) (h : fX0_moveTies b a1 a2 a3 M = some q) : zCN yX0_moveTies iX0_moveTies [.inr (.inr b), .inl a1, .inl a2, .inl a3] M (none, q) :=
  zCN.of (by decide) rfl rfl (Nat.le_of_ble_eq_true rfl) (zEV.perm [0, 1, 2, 3] rfl (tX0_moveTies_0 b a1 a2 a3 hb M q h))
-- RingedPage$Leaf.put
def fX0_put_49 (b : Nat) (a1 : Int32) (a2 : Int32) (a3 : Int32) : Nat → Int32 → zMM → Option (zMM)
  | 0, _, _ => none
  | n + 1, l5, M =>
  if l5 ≤ a2 then
    if oob (a1) 3 then none else
    if oob (a2) 70 then none else
    (fX0_moveTies b (a1) (a2) (1) (wr (wr M (b + 4 + 1 * Int32.toNatClampNeg a1) (Int32.toNatClampNeg a2) a3) (b + 2) (Int32.toNatClampNeg a1) (((wr M (b + 4 + 1 * Int32.toNatClampNeg a1) (Int32.toNatClampNeg a2) a3).1 (b + 2) (Int32.toNatClampNeg a1)) + 1))).bind fun q4 =>
    some q4
  else
    if oob (a1) 3 then none else
    if oob ((l5 - 1)) 70 then none else
    if oob (l5) 70 then none else
    fX0_put_49 b a1 a2 a3 n ((l5 + (-1))) (wr M (b + 4 + 1 * Int32.toNatClampNeg a1) (Int32.toNatClampNeg l5) (M.1 (b + 4 + 1 * Int32.toNatClampNeg a1) (Int32.toNatClampNeg (l5 - 1))))
set_option maxRecDepth 100000 in
theorem tX0_put_49 (b : Nat) (a1 : Int32) (a2 : Int32) (a3 : Int32) (hb : lf b) : ∀ (n : Nat) (l5 : Int32) (M : zMM) (q : zMM), fX0_put_49 b a1 a2 a3 n l5 M = some q → zEV iX0_put 0 0 (zZO (none, q)) 49 [(0, .inr (.inr b)), (1, .inl a1), (2, .inl a2), (3, .inl a3), (4, .inr (.inr (b + 4 + 1 * Int32.toNatClampNeg a1))), (5, .inl l5)] [] M := by
  intro n
  induction n with
  | zero =>
    intro l5 M q h
    rw [fX0_put_49] at h
    cases h
  | succ n ih =>
    intro l5 M q h
    rw [fX0_put_49] at h
    refine zEV.iload dX0_put_49 5 rfl ?_
    refine zEV.iload_n dX0_put_51 rfl 2 rfl ?_
    refine zEV.icmp_le 73 dX0_put_52 (by decide) (fun c1 => ?_) (fun c1 => ?_)
    · rw [if_pos c1] at h
      refine zEV.aload dX0_put_73 4 rfl ?_
      refine zEV.iload_n dX0_put_75 rfl 2 rfl ?_
      refine zEV.iload_n dX0_put_76 rfl 3 rfl ?_
      obtain ⟨g2, h⟩ := ite_no h
      obtain ⟨g3, h⟩ := ite_no h
      refine zEV.iast (lf_row hb g2).1 (lf_row hb g2).2 g3 dX0_put_77 ?_
      refine zEV.aload_n dX0_put_78 rfl 0 rfl ?_
      refine zEV.gfr rfl inz0 8 (by decide) wf_RX0_37 (lf_lt hb 0 (by decide)) (lf_shp hb 0 (by decide)) rfl dX0_put_79 ?_
      refine zEV.iload_n dX0_put_82 rfl 1 rfl ?_
      refine zEV.dup2 dX0_put_83 rfl rfl ?_
      refine zEV.iald (lf_lt hb 2 (by decide)) (lf_shp hb 2 (by decide)) g2 dX0_put_84 ?_
      refine zEV.iconst (v := 1) dX0_put_85 rfl ?_
      refine zEV.iadd dX0_put_86 ?_
      refine zEV.iast (lf_lt hb 2 (by decide)) (lf_shp hb 2 (by decide)) g2 dX0_put_87 ?_
      refine zEV.aload_n dX0_put_88 rfl 0 rfl ?_
      refine zEV.iload_n dX0_put_89 rfl 1 rfl ?_
      refine zEV.iload_n dX0_put_90 rfl 2 rfl ?_
      refine zEV.iconst (v := 1) dX0_put_91 rfl ?_
      obtain ⟨q4, hq4, h⟩ := bind_yes h
      refine zEV.callVv (kX0_moveTies b (a1) (a2) (1) hb (wr (wr M (b + 4 + 1 * Int32.toNatClampNeg a1) (Int32.toNatClampNeg a2) a3) (b + 2) (Int32.toNatClampNeg a1) (((wr M (b + 4 + 1 * Int32.toNatClampNeg a1) (Int32.toNatClampNeg a2) a3).1 (b + 2) (Int32.toNatClampNeg a1)) + 1)) q4 hq4) (lf_lt hb 0 (by decide)) (lf_shp hb 0 (by decide)) rfl wm_RX0_76 wc_X0_moveTies hy_X0_moveTies rfl ⟨Nat.le_of_ble_eq_true rfl, Nat.le_of_ble_eq_true rfl⟩ rfl (Nat.le_of_ble_eq_true rfl) dX0_put_92 ?_
      have h := Option.some.inj h
      subst h
      exact zEV.vret rfl dX0_put_95
    · rw [if_neg c1] at h
      refine zEV.aload dX0_put_55 4 rfl ?_
      refine zEV.iload dX0_put_57 5 rfl ?_
      refine zEV.aload dX0_put_59 4 rfl ?_
      refine zEV.iload dX0_put_61 5 rfl ?_
      refine zEV.iconst (v := 1) dX0_put_63 rfl ?_
      refine zEV.isub dX0_put_64 ?_
      obtain ⟨g5, h⟩ := ite_no h
      obtain ⟨g6, h⟩ := ite_no h
      refine zEV.iald (lf_row hb g5).1 (lf_row hb g5).2 g6 dX0_put_65 ?_
      obtain ⟨g7, h⟩ := ite_no h
      refine zEV.iast (lf_row hb g5).1 (lf_row hb g5).2 g7 dX0_put_66 ?_
      refine zEV.iinc (v := (l5 + (-1))) dX0_put_67 5 rfl rfl (Nat.le_of_ble_eq_true rfl) rfl ?_
      refine zEV.goto 49 dX0_put_70 (by decide) ?_
      exact zEV.perm [1, 2, 3, 4, 5, 0] rfl (ih ((l5 + (-1))) (wr M (b + 4 + 1 * Int32.toNatClampNeg a1) (Int32.toNatClampNeg l5) (M.1 (b + 4 + 1 * Int32.toNatClampNeg a1) (Int32.toNatClampNeg (l5 - 1)))) q h)
def fX0_put (b : Nat) (a1 : Int32) (a2 : Int32) (a3 : Int32) (M : zMM) : Option (zMM) :=
  (fX6_isText (a1) M).bind fun q1 =>
  if q1.1 = (0 : Int32) then
    some q1.2
  else
    if a2 < (0 : Int32) then
      some q1.2
    else
      if oob (a1) 3 then none else
      if (q1.2.1 (b + 2) (Int32.toNatClampNeg a1)) < a2 then
        some q1.2
      else
        if (q1.2.1 (b + 2) (Int32.toNatClampNeg a1)) < 70 then
          fX0_put_49 b a1 a2 a3 zFU ((q1.2.1 (b + 2) (Int32.toNatClampNeg a1))) q1.2
        else
          some q1.2
set_option maxRecDepth 100000 in
theorem tX0_put_0 (b : Nat) (a1 : Int32) (a2 : Int32) (a3 : Int32) (hb : lf b) (M : zMM) (q : zMM) (h : fX0_put b a1 a2 a3  M = some q) : zEV iX0_put 0 0 (zZO (none, q)) 0 [(0, .inr (.inr b)), (1, .inl a1), (2, .inl a2), (3, .inl a3)] [] M := by
  unfold fX0_put at h
  refine zEV.iload_n dX0_put_0 rfl 1 rfl ?_
  obtain ⟨q1, hq1, h⟩ := bind_yes h
  refine zEV.callSNi (kX6_isText (a1)  M q1 hq1) (by decide) wc_X6_isText hy_X6_isText rfl ⟨Nat.le_of_ble_eq_true rfl, Nat.le_of_ble_eq_true rfl⟩ rfl (Nat.le_of_ble_eq_true rfl) dX0_put_1 ?_
  refine zEV.if_eq 32 dX0_put_4 (by decide) (fun c2 => ?_) (fun c2 => ?_)
  · rw [if_pos c2] at h
    have h := Option.some.inj h
    subst h
    exact zEV.vret rfl dX0_put_32
  · rw [if_neg c2] at h
    refine zEV.iload_n dX0_put_7 rfl 2 rfl ?_
    refine zEV.if_lt 32 dX0_put_8 (by decide) (fun c3 => ?_) (fun c3 => ?_)
    · rw [if_pos c3] at h
      have h := Option.some.inj h
      subst h
      exact zEV.vret rfl dX0_put_32
    · rw [if_neg c3] at h
      refine zEV.iload_n dX0_put_11 rfl 2 rfl ?_
      refine zEV.aload_n dX0_put_12 rfl 0 rfl ?_
      refine zEV.gfr rfl inz0 8 (by decide) wf_RX0_37 (lf_lt hb 0 (by decide)) (lf_shp hb 0 (by decide)) rfl dX0_put_13 ?_
      refine zEV.iload_n dX0_put_16 rfl 1 rfl ?_
      obtain ⟨g4, h⟩ := ite_no h
      refine zEV.iald (lf_lt hb 2 (by decide)) (lf_shp hb 2 (by decide)) g4 dX0_put_17 ?_
      refine zEV.icmp_gt 32 dX0_put_18 (by decide) (fun c5 => ?_) (fun c5 => ?_)
      · rw [if_pos c5] at h
        have h := Option.some.inj h
        subst h
        exact zEV.vret rfl dX0_put_32
      · rw [if_neg c5] at h
        refine zEV.aload_n dX0_put_21 rfl 0 rfl ?_
        refine zEV.gfr rfl inz0 8 (by decide) wf_RX0_37 (lf_lt hb 0 (by decide)) (lf_shp hb 0 (by decide)) rfl dX0_put_22 ?_
        refine zEV.iload_n dX0_put_25 rfl 1 rfl ?_
        refine zEV.iald (lf_lt hb 2 (by decide)) (lf_shp hb 2 (by decide)) g4 dX0_put_26 ?_
        refine zEV.bipush (v := 70) dX0_put_27 rfl ?_
        refine zEV.icmp_lt 33 dX0_put_29 (by decide) (fun c6 => ?_) (fun c6 => ?_)
        · rw [if_pos c6] at h
          refine zEV.aload_n dX0_put_33 rfl 0 rfl ?_
          refine zEV.gfr rfl inz0 9 (by decide) wf_RX0_42 (lf_lt hb 0 (by decide)) (lf_shp hb 0 (by decide)) rfl dX0_put_34 ?_
          refine zEV.iload_n dX0_put_37 rfl 1 rfl ?_
          refine zEV.aald (lf_lt hb 3 (by decide)) (by decide) (lf_shp hb 3 (by decide)) g4 dX0_put_38 ?_
          refine zEV.astore dX0_put_39 (Nat.le_of_ble_eq_true rfl) rfl ?_
          refine zEV.aload_n dX0_put_41 rfl 1 rfl ?_
          refine zEV.gfr rfl inz0 8 (by decide) wf_RX0_37 (lf_lt hb 0 (by decide)) (lf_shp hb 0 (by decide)) rfl dX0_put_42 ?_
          refine zEV.iload_n dX0_put_45 rfl 2 rfl ?_
          refine zEV.iald (lf_lt hb 2 (by decide)) (lf_shp hb 2 (by decide)) g4 dX0_put_46 ?_
          refine zEV.istore dX0_put_47 (Nat.le_of_ble_eq_true rfl) rfl ?_
          exact zEV.perm [2, 3, 4, 5, 1, 0] rfl (tX0_put_49 b a1 a2 a3 hb zFU ((q1.2.1 (b + 2) (Int32.toNatClampNeg a1))) q1.2 q h)
        · rw [if_neg c6] at h
          have h := Option.some.inj h
          subst h
          exact zEV.vret rfl dX0_put_32
theorem kX0_put (b : Nat) (a1 : Int32) (a2 : Int32) (a3 : Int32) (hb : lf b) (M : zMM) (q : zMM) (h : fX0_put b a1 a2 a3 M = some q) : zCN yX0_put iX0_put [.inr (.inr b), .inl a1, .inl a2, .inl a3] M (none, q) :=
  zCN.of (by decide) rfl rfl (Nat.le_of_ble_eq_true rfl) (zEV.perm [0, 1, 2, 3] rfl (tX0_put_0 b a1 a2 a3 hb M q h))
-- RingedPage$Leaf.isTieOf
def fX0_isTieOf (b : Nat) (a1 : Int32) (a2 : Int32) (a3 : Int32) (M : zMM) : Option (Int32 × zMM) :=
  if a2 = (0 : Int32) then
    if oob (a1) 12 then none else
    if (M.1 (b + 9) (Int32.toNatClampNeg a1)) = a3 then
      some (1, M)
    else
      some (0, M)
  else
    if oob (a1) 12 then none else
    if (M.1 (b + 7) (Int32.toNatClampNeg a1)) = a2 then
      if (M.1 (b + 8) (Int32.toNatClampNeg a1)) = a3 then
        some (1, M)
      else
        some (0, M)
    else
      some (0, M)
set_option maxRecDepth 100000 in
theorem tX0_isTieOf_0 (b : Nat) (a1 : Int32) (a2 : Int32) (a3 : Int32) (hb : lf b) (M : zMM) (q : Int32 × zMM) (h : fX0_isTieOf b a1 a2 a3  M = some q) : zEV iX0_isTieOf 0 0 (zZO (some (.inl q.1), q.2)) 0 [(0, .inr (.inr b)), (1, .inl a1), (2, .inl a2), (3, .inl a3)] [] M := by
  unfold fX0_isTieOf at h
  refine zEV.iload_n dX0_isTieOf_0 rfl 2 rfl ?_
  refine zEV.if_ne 22 dX0_isTieOf_1 (by decide) (fun c1 => ?_) (fun c1 => ?_)
  · rw [if_neg c1] at h
    refine zEV.aload_n dX0_isTieOf_22 rfl 0 rfl ?_
    refine zEV.gfr rfl inz0 10 (by decide) wf_RX0_45 (lf_lt hb 0 (by decide)) (lf_shp hb 0 (by decide)) rfl dX0_isTieOf_23 ?_
    refine zEV.iload_n dX0_isTieOf_26 rfl 1 rfl ?_
    obtain ⟨g2, h⟩ := ite_no h
    refine zEV.iald (lf_lt hb 7 (by decide)) (lf_shp hb 7 (by decide)) g2 dX0_isTieOf_27 ?_
    refine zEV.iload_n dX0_isTieOf_28 rfl 2 rfl ?_
    refine zEV.icmp_ne 46 dX0_isTieOf_29 (by decide) (fun c3 => ?_) (fun c3 => ?_)
    · rw [if_neg c3] at h
      refine zEV.iconst (v := 0) dX0_isTieOf_46 rfl ?_
      have h := Option.some.inj h
      subst h
      exact zEV.zret rfl (Or.inl rfl) dX0_isTieOf_47
    · rw [if_pos c3] at h
      refine zEV.aload_n dX0_isTieOf_32 rfl 0 rfl ?_
      refine zEV.gfr rfl inz0 11 (by decide) wf_RX0_48 (lf_lt hb 0 (by decide)) (lf_shp hb 0 (by decide)) rfl dX0_isTieOf_33 ?_
      refine zEV.iload_n dX0_isTieOf_36 rfl 1 rfl ?_
      refine zEV.iald (lf_lt hb 8 (by decide)) (lf_shp hb 8 (by decide)) g2 dX0_isTieOf_37 ?_
      refine zEV.iload_n dX0_isTieOf_38 rfl 3 rfl ?_
      refine zEV.icmp_ne 46 dX0_isTieOf_39 (by decide) (fun c4 => ?_) (fun c4 => ?_)
      · rw [if_neg c4] at h
        refine zEV.iconst (v := 0) dX0_isTieOf_46 rfl ?_
        have h := Option.some.inj h
        subst h
        exact zEV.zret rfl (Or.inl rfl) dX0_isTieOf_47
      · rw [if_pos c4] at h
        refine zEV.iconst (v := 1) dX0_isTieOf_42 rfl ?_
        refine zEV.goto 47 dX0_isTieOf_43 (by decide) ?_
        have h := Option.some.inj h
        subst h
        exact zEV.zret rfl (Or.inr rfl) dX0_isTieOf_47
  · rw [if_pos c1] at h
    refine zEV.aload_n dX0_isTieOf_4 rfl 0 rfl ?_
    refine zEV.gfr rfl inz0 12 (by decide) wf_RX0_51 (lf_lt hb 0 (by decide)) (lf_shp hb 0 (by decide)) rfl dX0_isTieOf_5 ?_
    refine zEV.iload_n dX0_isTieOf_8 rfl 1 rfl ?_
    obtain ⟨g5, h⟩ := ite_no h
    refine zEV.iald (lf_lt hb 9 (by decide)) (lf_shp hb 9 (by decide)) g5 dX0_isTieOf_9 ?_
    refine zEV.iload_n dX0_isTieOf_10 rfl 3 rfl ?_
    refine zEV.icmp_ne 18 dX0_isTieOf_11 (by decide) (fun c6 => ?_) (fun c6 => ?_)
    · rw [if_neg c6] at h
      refine zEV.iconst (v := 0) dX0_isTieOf_18 rfl ?_
      refine zEV.goto 47 dX0_isTieOf_19 (by decide) ?_
      have h := Option.some.inj h
      subst h
      exact zEV.zret rfl (Or.inl rfl) dX0_isTieOf_47
    · rw [if_pos c6] at h
      refine zEV.iconst (v := 1) dX0_isTieOf_14 rfl ?_
      refine zEV.goto 47 dX0_isTieOf_15 (by decide) ?_
      have h := Option.some.inj h
      subst h
      exact zEV.zret rfl (Or.inr rfl) dX0_isTieOf_47
theorem kX0_isTieOf (b : Nat) (a1 : Int32) (a2 : Int32) (a3 : Int32) (hb : lf b) (M : zMM) (q : Int32 × zMM) (h : fX0_isTieOf b a1 a2 a3 M = some q) : zCN yX0_isTieOf iX0_isTieOf [.inr (.inr b), .inl a1, .inl a2, .inl a3] M (some (.inl q.1), q.2) :=
  zCN.of (by decide) rfl rfl (Nat.le_of_ble_eq_true rfl) (zEV.perm [0, 1, 2, 3] rfl (tX0_isTieOf_0 b a1 a2 a3 hb M q h))
-- RingedPage$Leaf.dropTie
def fX0_dropTie_4 (b : Nat) (a1 : Int32) : Nat → Int32 → zMM → Option (zMM)
  | 0, _, _ => none
  | n + 1, l2, M =>
  if (M.1 b 6) ≤ l2 then
    some (wr M b 6 ((M.1 b 6) - 1))
  else
    if oob (l2) 12 then none else
    if oob ((l2 - 1)) 12 then none else
    fX0_dropTie_4 b a1 n ((l2 + 1)) (wr (wr (wr M (b + 7) (Int32.toNatClampNeg (l2 - 1)) (M.1 (b + 7) (Int32.toNatClampNeg l2))) (b + 8) (Int32.toNatClampNeg (l2 - 1)) ((wr M (b + 7) (Int32.toNatClampNeg (l2 - 1)) (M.1 (b + 7) (Int32.toNatClampNeg l2))).1 (b + 8) (Int32.toNatClampNeg l2))) (b + 9) (Int32.toNatClampNeg (l2 - 1)) ((wr (wr M (b + 7) (Int32.toNatClampNeg (l2 - 1)) (M.1 (b + 7) (Int32.toNatClampNeg l2))) (b + 8) (Int32.toNatClampNeg (l2 - 1)) ((wr M (b + 7) (Int32.toNatClampNeg (l2 - 1)) (M.1 (b + 7) (Int32.toNatClampNeg l2))).1 (b + 8) (Int32.toNatClampNeg l2))).1 (b + 9) (Int32.toNatClampNeg l2)))
set_option maxRecDepth 100000 in
theorem tX0_dropTie_4 (b : Nat) (a1 : Int32) (hb : lf b) : ∀ (n : Nat) (l2 : Int32) (M : zMM) (q : zMM), fX0_dropTie_4 b a1 n l2 M = some q → zEV iX0_dropTie 0 0 (zZO (none, q)) 4 [(0, .inr (.inr b)), (2, .inl l2)] [] M := by
  intro n
  induction n with
  | zero =>
    intro l2 M q h
    rw [fX0_dropTie_4] at h
    cases h
  | succ n ih =>
    intro l2 M q h
    rw [fX0_dropTie_4] at h
    refine zEV.iload_n dX0_dropTie_4 rfl 1 rfl ?_
    refine zEV.aload_n dX0_dropTie_5 rfl 0 rfl ?_
    refine zEV.gfi rfl inz0 6 (by decide) wf_RX0_30 (lf_lt hb 0 (by decide)) (lf_shp hb 0 (by decide)) rfl dX0_dropTie_6 ?_
    refine zEV.icmp_ge 60 dX0_dropTie_9 (by decide) (fun c1 => ?_) (fun c1 => ?_)
    · rw [if_pos c1] at h
      refine zEV.aload_n dX0_dropTie_60 rfl 0 rfl ?_
      refine zEV.dup dX0_dropTie_61 rfl ?_
      refine zEV.gfi rfl inz0 6 (by decide) wf_RX0_30 (lf_lt hb 0 (by decide)) (lf_shp hb 0 (by decide)) rfl dX0_dropTie_62 ?_
      refine zEV.iconst (v := 1) dX0_dropTie_65 rfl ?_
      refine zEV.isub dX0_dropTie_66 ?_
      refine zEV.pfi rfl inz0 tyX0 tyX0_ok nmX0 6 (by decide) wf_RX0_30 rfl (by decide +kernel) (lf_lt hb 0 (by decide)) (lf_shp hb 0 (by decide)) rfl dX0_dropTie_67 ?_
      have h := Option.some.inj h
      subst h
      exact zEV.vret rfl dX0_dropTie_70
    · rw [if_neg c1] at h
      refine zEV.aload_n dX0_dropTie_12 rfl 0 rfl ?_
      refine zEV.gfr rfl inz0 10 (by decide) wf_RX0_45 (lf_lt hb 0 (by decide)) (lf_shp hb 0 (by decide)) rfl dX0_dropTie_13 ?_
      refine zEV.iload_n dX0_dropTie_16 rfl 1 rfl ?_
      refine zEV.iconst (v := 1) dX0_dropTie_17 rfl ?_
      refine zEV.isub dX0_dropTie_18 ?_
      refine zEV.aload_n dX0_dropTie_19 rfl 0 rfl ?_
      refine zEV.gfr rfl inz0 10 (by decide) wf_RX0_45 (lf_lt hb 0 (by decide)) (lf_shp hb 0 (by decide)) rfl dX0_dropTie_20 ?_
      refine zEV.iload_n dX0_dropTie_23 rfl 1 rfl ?_
      obtain ⟨g2, h⟩ := ite_no h
      refine zEV.iald (lf_lt hb 7 (by decide)) (lf_shp hb 7 (by decide)) g2 dX0_dropTie_24 ?_
      obtain ⟨g3, h⟩ := ite_no h
      refine zEV.iast (lf_lt hb 7 (by decide)) (lf_shp hb 7 (by decide)) g3 dX0_dropTie_25 ?_
      refine zEV.aload_n dX0_dropTie_26 rfl 0 rfl ?_
      refine zEV.gfr rfl inz0 11 (by decide) wf_RX0_48 (lf_lt hb 0 (by decide)) (lf_shp hb 0 (by decide)) rfl dX0_dropTie_27 ?_
      refine zEV.iload_n dX0_dropTie_30 rfl 1 rfl ?_
      refine zEV.iconst (v := 1) dX0_dropTie_31 rfl ?_
      refine zEV.isub dX0_dropTie_32 ?_
      refine zEV.aload_n dX0_dropTie_33 rfl 0 rfl ?_
      refine zEV.gfr rfl inz0 11 (by decide) wf_RX0_48 (lf_lt hb 0 (by decide)) (lf_shp hb 0 (by decide)) rfl dX0_dropTie_34 ?_
      refine zEV.iload_n dX0_dropTie_37 rfl 1 rfl ?_
      refine zEV.iald (lf_lt hb 8 (by decide)) (lf_shp hb 8 (by decide)) g2 dX0_dropTie_38 ?_
      refine zEV.iast (lf_lt hb 8 (by decide)) (lf_shp hb 8 (by decide)) g3 dX0_dropTie_39 ?_
      refine zEV.aload_n dX0_dropTie_40 rfl 0 rfl ?_
      refine zEV.gfr rfl inz0 12 (by decide) wf_RX0_51 (lf_lt hb 0 (by decide)) (lf_shp hb 0 (by decide)) rfl dX0_dropTie_41 ?_
      refine zEV.iload_n dX0_dropTie_44 rfl 1 rfl ?_
      refine zEV.iconst (v := 1) dX0_dropTie_45 rfl ?_
      refine zEV.isub dX0_dropTie_46 ?_
      refine zEV.aload_n dX0_dropTie_47 rfl 0 rfl ?_
      refine zEV.gfr rfl inz0 12 (by decide) wf_RX0_51 (lf_lt hb 0 (by decide)) (lf_shp hb 0 (by decide)) rfl dX0_dropTie_48 ?_
      refine zEV.iload_n dX0_dropTie_51 rfl 1 rfl ?_
      refine zEV.iald (lf_lt hb 9 (by decide)) (lf_shp hb 9 (by decide)) g2 dX0_dropTie_52 ?_
      refine zEV.iast (lf_lt hb 9 (by decide)) (lf_shp hb 9 (by decide)) g3 dX0_dropTie_53 ?_
      refine zEV.iinc (v := (l2 + 1)) dX0_dropTie_54 1 rfl rfl (Nat.le_of_ble_eq_true rfl) rfl ?_
      refine zEV.goto 4 dX0_dropTie_57 (by decide) ?_
      exact zEV.perm [1, 0] rfl (ih ((l2 + 1)) (wr (wr (wr M (b + 7) (Int32.toNatClampNeg (l2 - 1)) (M.1 (b + 7) (Int32.toNatClampNeg l2))) (b + 8) (Int32.toNatClampNeg (l2 - 1)) ((wr M (b + 7) (Int32.toNatClampNeg (l2 - 1)) (M.1 (b + 7) (Int32.toNatClampNeg l2))).1 (b + 8) (Int32.toNatClampNeg l2))) (b + 9) (Int32.toNatClampNeg (l2 - 1)) ((wr (wr M (b + 7) (Int32.toNatClampNeg (l2 - 1)) (M.1 (b + 7) (Int32.toNatClampNeg l2))) (b + 8) (Int32.toNatClampNeg (l2 - 1)) ((wr M (b + 7) (Int32.toNatClampNeg (l2 - 1)) (M.1 (b + 7) (Int32.toNatClampNeg l2))).1 (b + 8) (Int32.toNatClampNeg l2))).1 (b + 9) (Int32.toNatClampNeg l2))) q h)
def fX0_dropTie (b : Nat) (a1 : Int32) (M : zMM) : Option (zMM) :=
  fX0_dropTie_4 b a1 zFU ((a1 + 1)) M
set_option maxRecDepth 100000 in
theorem tX0_dropTie_0 (b : Nat) (a1 : Int32) (hb : lf b) (M : zMM) (q : zMM) (h : fX0_dropTie b a1  M = some q) : zEV iX0_dropTie 0 0 (zZO (none, q)) 0 [(0, .inr (.inr b)), (1, .inl a1)] [] M := by
  unfold fX0_dropTie at h
  refine zEV.iload_n dX0_dropTie_0 rfl 1 rfl ?_
  refine zEV.iconst (v := 1) dX0_dropTie_1 rfl ?_
  refine zEV.iadd dX0_dropTie_2 ?_
  refine zEV.istore_n dX0_dropTie_3 rfl (Nat.le_of_ble_eq_true rfl) rfl ?_
  exact zEV.perm [1, 0] rfl (tX0_dropTie_4 b a1 hb zFU ((a1 + 1)) M q h)
theorem kX0_dropTie (b : Nat) (a1 : Int32) (hb : lf b) (M : zMM) (q : zMM) (h : fX0_dropTie b a1 M = some q) : zCN yX0_dropTie iX0_dropTie [.inr (.inr b), .inl a1] M (none, q) :=
  zCN.of (by decide) rfl rfl (Nat.le_of_ble_eq_true rfl) (zEV.perm [0, 1] rfl (tX0_dropTie_0 b a1 hb M q h))
-- RingedPage$Leaf.drop
def fX0_drop_89 (K67 : Int32 → zMM → Option (zMM)) (b : Nat) (a1 : Int32) (a2 : Int32) (l4 : Int32) (M : zMM) : Option (zMM) :=
  K67 ((l4 + (-1))) M
set_option maxRecDepth 100000 in
theorem tX0_drop_89 (K67 : Int32 → zMM → Option (zMM)) (b : Nat) (a1 : Int32) (a2 : Int32) (hb : lf b) (hK67 : ∀ (l4 : Int32) (M : zMM) (q : zMM), K67 l4 M = some q → zEV iX0_drop 0 0 (zZO (none, q)) 67 [(0, .inr (.inr b)), (1, .inl a1), (2, .inl a2), (4, .inl l4)] [] M) (l4 : Int32) (M : zMM) (q : zMM) (h : fX0_drop_89 K67 b a1 a2 l4 M = some q) : zEV iX0_drop 0 0 (zZO (none, q)) 89 [(0, .inr (.inr b)), (1, .inl a1), (2, .inl a2), (4, .inl l4)] [] M := by
  unfold fX0_drop_89 at h
  refine zEV.iinc (v := (l4 + (-1))) dX0_drop_89 3 rfl rfl (Nat.le_of_ble_eq_true rfl) rfl ?_
  refine zEV.goto 67 dX0_drop_92 (by decide) ?_
  exact zEV.perm [1, 2, 3, 0] rfl (hK67 ((l4 + (-1))) M q h)
def fX0_drop_67 (b : Nat) (a1 : Int32) (a2 : Int32) : Nat → Int32 → zMM → Option (zMM)
  | 0, _, _ => none
  | n + 1, l4, M =>
  if l4 < (0 : Int32) then
    (fX0_moveTies b (a1) (a2) ((-1)) M).bind fun q2 =>
    some q2
  else
    (fX0_isTieOf b (l4) (a1) (a2) M).bind fun q3 =>
    if q3.1 = (0 : Int32) then
      fX0_drop_89 (fX0_drop_67 b a1 a2 n) b a1 a2 (l4) q3.2
    else
      (fX0_dropTie b (l4) q3.2).bind fun q5 =>
      fX0_drop_89 (fX0_drop_67 b a1 a2 n) b a1 a2 (l4) q5
set_option maxRecDepth 100000 in
theorem tX0_drop_67 (b : Nat) (a1 : Int32) (a2 : Int32) (hb : lf b) : ∀ (n : Nat) (l4 : Int32) (M : zMM) (q : zMM), fX0_drop_67 b a1 a2 n l4 M = some q → zEV iX0_drop 0 0 (zZO (none, q)) 67 [(0, .inr (.inr b)), (1, .inl a1), (2, .inl a2), (4, .inl l4)] [] M := by
  intro n
  induction n with
  | zero =>
    intro l4 M q h
    rw [fX0_drop_67] at h
    cases h
  | succ n ih =>
    intro l4 M q h
    rw [fX0_drop_67] at h
    refine zEV.iload dX0_drop_67 3 rfl ?_
    refine zEV.if_lt 95 dX0_drop_69 (by decide) (fun c1 => ?_) (fun c1 => ?_)
    · rw [if_pos c1] at h
      refine zEV.aload_n dX0_drop_95 rfl 0 rfl ?_
      refine zEV.iload_n dX0_drop_96 rfl 1 rfl ?_
      refine zEV.iload_n dX0_drop_97 rfl 2 rfl ?_
      refine zEV.iconst (v := (-1)) dX0_drop_98 rfl ?_
      obtain ⟨q2, hq2, h⟩ := bind_yes h
      refine zEV.callVv (kX0_moveTies b (a1) (a2) ((-1)) hb M q2 hq2) (lf_lt hb 0 (by decide)) (lf_shp hb 0 (by decide)) rfl wm_RX0_76 wc_X0_moveTies hy_X0_moveTies rfl ⟨Nat.le_of_ble_eq_true rfl, Nat.le_of_ble_eq_true rfl⟩ rfl (Nat.le_of_ble_eq_true rfl) dX0_drop_99 ?_
      have h := Option.some.inj h
      subst h
      exact zEV.vret rfl dX0_drop_102
    · rw [if_neg c1] at h
      refine zEV.aload_n dX0_drop_72 rfl 0 rfl ?_
      refine zEV.iload dX0_drop_73 3 rfl ?_
      refine zEV.iload_n dX0_drop_75 rfl 1 rfl ?_
      refine zEV.iload_n dX0_drop_76 rfl 2 rfl ?_
      obtain ⟨q3, hq3, h⟩ := bind_yes h
      refine zEV.callVi (kX0_isTieOf b (l4) (a1) (a2) hb M q3 hq3) (lf_lt hb 0 (by decide)) (lf_shp hb 0 (by decide)) rfl wm_RX0_79 wc_X0_isTieOf hy_X0_isTieOf rfl ⟨Nat.le_of_ble_eq_true rfl, Nat.le_of_ble_eq_true rfl⟩ rfl (Nat.le_of_ble_eq_true rfl) dX0_drop_77 ?_
      refine zEV.if_eq 89 dX0_drop_80 (by decide) (fun c4 => ?_) (fun c4 => ?_)
      · rw [if_pos c4] at h
        exact zEV.perm [0, 1, 2, 3] rfl (tX0_drop_89 (fX0_drop_67 b a1 a2 n) b a1 a2 hb (fun l4 M9 q9 h9 => ih l4 M9 q9 h9) (l4) q3.2 q h)
      · rw [if_neg c4] at h
        refine zEV.aload_n dX0_drop_83 rfl 0 rfl ?_
        refine zEV.iload dX0_drop_84 3 rfl ?_
        obtain ⟨q5, hq5, h⟩ := bind_yes h
        refine zEV.callVv (kX0_dropTie b (l4) hb q3.2 q5 hq5) (lf_lt hb 0 (by decide)) (lf_shp hb 0 (by decide)) rfl wm_RX0_82 wc_X0_dropTie hy_X0_dropTie rfl ⟨Nat.le_of_ble_eq_true rfl, Nat.le_of_ble_eq_true rfl⟩ rfl (Nat.le_of_ble_eq_true rfl) dX0_drop_86 ?_
        exact zEV.perm [0, 1, 2, 3] rfl (tX0_drop_89 (fX0_drop_67 b a1 a2 n) b a1 a2 hb (fun l4 M9 q9 h9 => ih l4 M9 q9 h9) (l4) q5 q h)
def fX0_drop_22 (b : Nat) (a1 : Int32) (a2 : Int32) : Nat → Int32 → zMM → Option (zMM)
  | 0, _, _ => none
  | n + 1, l4, M =>
  if oob (a1) 3 then none else
  if (M.1 (b + 2) (Int32.toNatClampNeg a1)) ≤ l4 then
    fX0_drop_67 b a1 a2 zFU ((((wr M (b + 2) (Int32.toNatClampNeg a1) ((M.1 (b + 2) (Int32.toNatClampNeg a1)) - 1)).1 b 6) - 1)) (wr M (b + 2) (Int32.toNatClampNeg a1) ((M.1 (b + 2) (Int32.toNatClampNeg a1)) - 1))
  else
    if oob (l4) 70 then none else
    if oob ((l4 - 1)) 70 then none else
    fX0_drop_22 b a1 a2 n ((l4 + 1)) (wr M (b + 4 + 1 * Int32.toNatClampNeg a1) (Int32.toNatClampNeg (l4 - 1)) (M.1 (b + 4 + 1 * Int32.toNatClampNeg a1) (Int32.toNatClampNeg l4)))
set_option maxRecDepth 100000 in
theorem tX0_drop_22 (b : Nat) (a1 : Int32) (a2 : Int32) (hb : lf b) : ∀ (n : Nat) (l4 : Int32) (M : zMM) (q : zMM), fX0_drop_22 b a1 a2 n l4 M = some q → zEV iX0_drop 0 0 (zZO (none, q)) 22 [(0, .inr (.inr b)), (1, .inl a1), (2, .inl a2), (3, .inr (.inr (b + 4 + 1 * Int32.toNatClampNeg a1))), (4, .inl l4)] [] M := by
  intro n
  induction n with
  | zero =>
    intro l4 M q h
    rw [fX0_drop_22] at h
    cases h
  | succ n ih =>
    intro l4 M q h
    rw [fX0_drop_22] at h
    refine zEV.iload dX0_drop_22 4 rfl ?_
    refine zEV.aload_n dX0_drop_24 rfl 0 rfl ?_
    refine zEV.gfr rfl inz0 8 (by decide) wf_RX0_37 (lf_lt hb 0 (by decide)) (lf_shp hb 0 (by decide)) rfl dX0_drop_25 ?_
    refine zEV.iload_n dX0_drop_28 rfl 1 rfl ?_
    obtain ⟨g1, h⟩ := ite_no h
    refine zEV.iald (lf_lt hb 2 (by decide)) (lf_shp hb 2 (by decide)) g1 dX0_drop_29 ?_
    refine zEV.icmp_ge 49 dX0_drop_30 (by decide) (fun c2 => ?_) (fun c2 => ?_)
    · rw [if_pos c2] at h
      refine zEV.aload_n dX0_drop_49 rfl 0 rfl ?_
      refine zEV.gfr rfl inz0 8 (by decide) wf_RX0_37 (lf_lt hb 0 (by decide)) (lf_shp hb 0 (by decide)) rfl dX0_drop_50 ?_
      refine zEV.iload_n dX0_drop_53 rfl 1 rfl ?_
      refine zEV.dup2 dX0_drop_54 rfl rfl ?_
      refine zEV.iald (lf_lt hb 2 (by decide)) (lf_shp hb 2 (by decide)) g1 dX0_drop_55 ?_
      refine zEV.iconst (v := 1) dX0_drop_56 rfl ?_
      refine zEV.isub dX0_drop_57 ?_
      refine zEV.iast (lf_lt hb 2 (by decide)) (lf_shp hb 2 (by decide)) g1 dX0_drop_58 ?_
      refine zEV.aload_n dX0_drop_59 rfl 0 rfl ?_
      refine zEV.gfi rfl inz0 6 (by decide) wf_RX0_30 (lf_lt hb 0 (by decide)) (lf_shp hb 0 (by decide)) rfl dX0_drop_60 ?_
      refine zEV.iconst (v := 1) dX0_drop_63 rfl ?_
      refine zEV.isub dX0_drop_64 ?_
      refine zEV.istore dX0_drop_65 (Nat.le_of_ble_eq_true rfl) rfl ?_
      exact zEV.perm [1, 2, 3, 0] rfl (tX0_drop_67 b a1 a2 hb zFU ((((wr M (b + 2) (Int32.toNatClampNeg a1) ((M.1 (b + 2) (Int32.toNatClampNeg a1)) - 1)).1 b 6) - 1)) (wr M (b + 2) (Int32.toNatClampNeg a1) ((M.1 (b + 2) (Int32.toNatClampNeg a1)) - 1)) q h)
    · rw [if_neg c2] at h
      refine zEV.aload_n dX0_drop_33 rfl 3 rfl ?_
      refine zEV.iload dX0_drop_34 4 rfl ?_
      refine zEV.iconst (v := 1) dX0_drop_36 rfl ?_
      refine zEV.isub dX0_drop_37 ?_
      refine zEV.aload_n dX0_drop_38 rfl 3 rfl ?_
      refine zEV.iload dX0_drop_39 4 rfl ?_
      obtain ⟨g3, h⟩ := ite_no h
      refine zEV.iald (lf_row hb g1).1 (lf_row hb g1).2 g3 dX0_drop_41 ?_
      obtain ⟨g4, h⟩ := ite_no h
      refine zEV.iast (lf_row hb g1).1 (lf_row hb g1).2 g4 dX0_drop_42 ?_
      refine zEV.iinc (v := (l4 + 1)) dX0_drop_43 4 rfl rfl (Nat.le_of_ble_eq_true rfl) rfl ?_
      refine zEV.goto 22 dX0_drop_46 (by decide) ?_
      exact zEV.perm [1, 2, 3, 4, 0] rfl (ih ((l4 + 1)) (wr M (b + 4 + 1 * Int32.toNatClampNeg a1) (Int32.toNatClampNeg (l4 - 1)) (M.1 (b + 4 + 1 * Int32.toNatClampNeg a1) (Int32.toNatClampNeg l4))) q h)
def fX0_drop (b : Nat) (a1 : Int32) (a2 : Int32) (M : zMM) : Option (zMM) :=
  (fX0_hasWord b (a1) (a2) M).bind fun q1 =>
  if q1.1 = (0 : Int32) then
    some q1.2
  else
    if oob (a1) 3 then none else
    fX0_drop_22 b a1 a2 zFU ((a2 + 1)) q1.2
set_option maxRecDepth 100000 in
theorem tX0_drop_0 (b : Nat) (a1 : Int32) (a2 : Int32) (hb : lf b) (M : zMM) (q : zMM) (h : fX0_drop b a1 a2  M = some q) : zEV iX0_drop 0 0 (zZO (none, q)) 0 [(0, .inr (.inr b)), (1, .inl a1), (2, .inl a2)] [] M := by
  unfold fX0_drop at h
  refine zEV.aload_n dX0_drop_0 rfl 0 rfl ?_
  refine zEV.iload_n dX0_drop_1 rfl 1 rfl ?_
  refine zEV.iload_n dX0_drop_2 rfl 2 rfl ?_
  obtain ⟨q1, hq1, h⟩ := bind_yes h
  refine zEV.callVi (kX0_hasWord b (a1) (a2) hb M q1 hq1) (lf_lt hb 0 (by decide)) (lf_shp hb 0 (by decide)) rfl wm_RX0_72 wc_X0_hasWord hy_X0_hasWord rfl ⟨Nat.le_of_ble_eq_true rfl, Nat.le_of_ble_eq_true rfl⟩ rfl (Nat.le_of_ble_eq_true rfl) dX0_drop_3 ?_
  refine zEV.if_ne 10 dX0_drop_6 (by decide) (fun c2 => ?_) (fun c2 => ?_)
  · rw [if_neg c2] at h
    refine zEV.aload_n dX0_drop_10 rfl 0 rfl ?_
    refine zEV.gfr rfl inz0 9 (by decide) wf_RX0_42 (lf_lt hb 0 (by decide)) (lf_shp hb 0 (by decide)) rfl dX0_drop_11 ?_
    refine zEV.iload_n dX0_drop_14 rfl 1 rfl ?_
    obtain ⟨g3, h⟩ := ite_no h
    refine zEV.aald (lf_lt hb 3 (by decide)) (by decide) (lf_shp hb 3 (by decide)) g3 dX0_drop_15 ?_
    refine zEV.astore_n dX0_drop_16 rfl (Nat.le_of_ble_eq_true rfl) rfl ?_
    refine zEV.iload_n dX0_drop_17 rfl 3 rfl ?_
    refine zEV.iconst (v := 1) dX0_drop_18 rfl ?_
    refine zEV.iadd dX0_drop_19 ?_
    refine zEV.istore dX0_drop_20 (Nat.le_of_ble_eq_true rfl) rfl ?_
    exact zEV.perm [2, 3, 4, 1, 0] rfl (tX0_drop_22 b a1 a2 hb zFU ((a2 + 1)) q1.2 q h)
  · rw [if_pos c2] at h
    have h := Option.some.inj h
    subst h
    exact zEV.vret rfl dX0_drop_9
theorem kX0_drop (b : Nat) (a1 : Int32) (a2 : Int32) (hb : lf b) (M : zMM) (q : zMM) (h : fX0_drop b a1 a2 M = some q) : zCN yX0_drop iX0_drop [.inr (.inr b), .inl a1, .inl a2] M (none, q) :=
  zCN.of (by decide) rfl rfl (Nat.le_of_ble_eq_true rfl) (zEV.perm [0, 1, 2] rfl (tX0_drop_0 b a1 a2 hb M q h))
-- RingedPage$Leaf.swap
def fX0_swap_104 (K76 : Int32 → zMM → Option (zMM)) (b : Nat) (l2 : Int32) (s0 : Int32) (s1 : Int32) (M : zMM) : Option (zMM) :=
  if oob (s1) 12 then none else
  K76 ((l2 + 1)) (wr M (b + 7) (Int32.toNatClampNeg s1) s0)
set_option maxRecDepth 100000 in
theorem tX0_swap_104 (K76 : Int32 → zMM → Option (zMM)) (b : Nat) (hb : lf b) (hK76 : ∀ (l2 : Int32) (M : zMM) (q : zMM), K76 l2 M = some q → zEV iX0_swap 0 0 (zZO (none, q)) 76 [(0, .inr (.inr b)), (2, .inl l2)] [] M) (l2 : Int32) (s0 : Int32) (s1 : Int32) (M : zMM) (q : zMM) (h : fX0_swap_104 K76 b l2 s0 s1 M = some q) : zEV iX0_swap 0 0 (zZO (none, q)) 104 [(0, .inr (.inr b)), (2, .inl l2)] [.inl s0, .inl s1, .inr (.inr (b + 7))] M := by
  unfold fX0_swap_104 at h
  obtain ⟨g1, h⟩ := ite_no h
  refine zEV.iast (lf_lt hb 7 (by decide)) (lf_shp hb 7 (by decide)) g1 dX0_swap_104 ?_
  refine zEV.iinc (v := (l2 + 1)) dX0_swap_105 1 rfl rfl (Nat.le_of_ble_eq_true rfl) rfl ?_
  refine zEV.goto 76 dX0_swap_108 (by decide) ?_
  exact zEV.perm [1, 0] rfl (hK76 ((l2 + 1)) (wr M (b + 7) (Int32.toNatClampNeg s1) s0) q h)
def fX0_swap_76 (b : Nat) : Nat → Int32 → zMM → Option (zMM)
  | 0, _, _ => none
  | n + 1, l2, M =>
  if (M.1 b 6) ≤ l2 then
    some M
  else
    if oob (l2) 12 then none else
    if (M.1 (b + 7) (Int32.toNatClampNeg l2)) = 1 then
      fX0_swap_104 (fX0_swap_76 b n) b (l2) (2) (l2) M
    else
      fX0_swap_104 (fX0_swap_76 b n) b (l2) (1) (l2) M
set_option maxRecDepth 100000 in
theorem tX0_swap_76 (b : Nat) (hb : lf b) : ∀ (n : Nat) (l2 : Int32) (M : zMM) (q : zMM), fX0_swap_76 b n l2 M = some q → zEV iX0_swap 0 0 (zZO (none, q)) 76 [(0, .inr (.inr b)), (2, .inl l2)] [] M := by
  intro n
  induction n with
  | zero =>
    intro l2 M q h
    rw [fX0_swap_76] at h
    cases h
  | succ n ih =>
    intro l2 M q h
    rw [fX0_swap_76] at h
    refine zEV.iload_n dX0_swap_76 rfl 1 rfl ?_
    refine zEV.aload_n dX0_swap_77 rfl 0 rfl ?_
    refine zEV.gfi rfl inz0 6 (by decide) wf_RX0_30 (lf_lt hb 0 (by decide)) (lf_shp hb 0 (by decide)) rfl dX0_swap_78 ?_
    refine zEV.icmp_ge 111 dX0_swap_81 (by decide) (fun c1 => ?_) (fun c1 => ?_)
    · rw [if_pos c1] at h
      have h := Option.some.inj h
      subst h
      exact zEV.vret rfl dX0_swap_111
    · rw [if_neg c1] at h
      refine zEV.aload_n dX0_swap_84 rfl 0 rfl ?_
      refine zEV.gfr rfl inz0 10 (by decide) wf_RX0_45 (lf_lt hb 0 (by decide)) (lf_shp hb 0 (by decide)) rfl dX0_swap_85 ?_
      refine zEV.iload_n dX0_swap_88 rfl 1 rfl ?_
      refine zEV.aload_n dX0_swap_89 rfl 0 rfl ?_
      refine zEV.gfr rfl inz0 10 (by decide) wf_RX0_45 (lf_lt hb 0 (by decide)) (lf_shp hb 0 (by decide)) rfl dX0_swap_90 ?_
      refine zEV.iload_n dX0_swap_93 rfl 1 rfl ?_
      obtain ⟨g2, h⟩ := ite_no h
      refine zEV.iald (lf_lt hb 7 (by decide)) (lf_shp hb 7 (by decide)) g2 dX0_swap_94 ?_
      refine zEV.iconst (v := 1) dX0_swap_95 rfl ?_
      refine zEV.icmp_ne 103 dX0_swap_96 (by decide) (fun c3 => ?_) (fun c3 => ?_)
      · rw [if_neg c3] at h
        refine zEV.iconst (v := 1) dX0_swap_103 rfl ?_
        exact zEV.perm [0, 1] rfl (tX0_swap_104 (fX0_swap_76 b n) b hb (fun l2 M9 q9 h9 => ih l2 M9 q9 h9) (l2) (1) (l2) M q h)
      · rw [if_pos c3] at h
        refine zEV.iconst (v := 2) dX0_swap_99 rfl ?_
        refine zEV.goto 104 dX0_swap_100 (by decide) ?_
        exact zEV.perm [0, 1] rfl (tX0_swap_104 (fX0_swap_76 b n) b hb (fun l2 M9 q9 h9 => ih l2 M9 q9 h9) (l2) (2) (l2) M q h)
def fX0_swap_2 (b : Nat) : Nat → Int32 → zMM → Option (zMM)
  | 0, _, _ => none
  | n + 1, l1, M =>
  if (70 : Int32) ≤ l1 then
    fX0_swap_76 b zFU (0) (wr (wr M (b + 2) 1 (M.1 (b + 2) 2)) (b + 2) 2 (M.1 (b + 2) 1))
  else
    if oob (l1) 70 then none else
    fX0_swap_2 b n ((l1 + 1)) (wr (wr M (b + 5) (Int32.toNatClampNeg l1) (M.1 (b + 6) (Int32.toNatClampNeg l1))) (b + 6) (Int32.toNatClampNeg l1) (M.1 (b + 5) (Int32.toNatClampNeg l1)))
set_option maxRecDepth 100000 in
theorem tX0_swap_2 (b : Nat) (hb : lf b) : ∀ (n : Nat) (l1 : Int32) (M : zMM) (q : zMM), fX0_swap_2 b n l1 M = some q → zEV iX0_swap 0 0 (zZO (none, q)) 2 [(0, .inr (.inr b)), (1, .inl l1)] [] M := by
  intro n
  induction n with
  | zero =>
    intro l1 M q h
    rw [fX0_swap_2] at h
    cases h
  | succ n ih =>
    intro l1 M q h
    rw [fX0_swap_2] at h
    refine zEV.iload_n dX0_swap_2 rfl 1 rfl ?_
    refine zEV.bipush (v := 70) dX0_swap_3 rfl ?_
    refine zEV.icmp_ge 48 dX0_swap_5 (by decide) (fun c1 => ?_) (fun c1 => ?_)
    · rw [if_pos c1] at h
      refine zEV.aload_n dX0_swap_48 rfl 0 rfl ?_
      refine zEV.gfr rfl inz0 8 (by decide) wf_RX0_37 (lf_lt hb 0 (by decide)) (lf_shp hb 0 (by decide)) rfl dX0_swap_49 ?_
      refine zEV.iconst (v := 1) dX0_swap_52 rfl ?_
      refine zEV.ialdL (j := 1) (lf_lt hb 2 (by decide)) (lf_shp hb 2 (by decide)) (by decide) (by decide) dX0_swap_53 ?_
      refine zEV.istore_n dX0_swap_54 rfl (Nat.le_of_ble_eq_true rfl) rfl ?_
      refine zEV.aload_n dX0_swap_55 rfl 1 rfl ?_
      refine zEV.gfr rfl inz0 8 (by decide) wf_RX0_37 (lf_lt hb 0 (by decide)) (lf_shp hb 0 (by decide)) rfl dX0_swap_56 ?_
      refine zEV.iconst (v := 1) dX0_swap_59 rfl ?_
      refine zEV.aload_n dX0_swap_60 rfl 1 rfl ?_
      refine zEV.gfr rfl inz0 8 (by decide) wf_RX0_37 (lf_lt hb 0 (by decide)) (lf_shp hb 0 (by decide)) rfl dX0_swap_61 ?_
      refine zEV.iconst (v := 2) dX0_swap_64 rfl ?_
      refine zEV.ialdL (j := 2) (lf_lt hb 2 (by decide)) (lf_shp hb 2 (by decide)) (by decide) (by decide) dX0_swap_65 ?_
      refine zEV.iastL (j := 1) (lf_lt hb 2 (by decide)) (lf_shp hb 2 (by decide)) (by decide) (by decide) dX0_swap_66 ?_
      refine zEV.aload_n dX0_swap_67 rfl 1 rfl ?_
      refine zEV.gfr rfl inz0 8 (by decide) wf_RX0_37 (lf_lt hb 0 (by decide)) (lf_shp hb 0 (by decide)) rfl dX0_swap_68 ?_
      refine zEV.iconst (v := 2) dX0_swap_71 rfl ?_
      refine zEV.iload_n dX0_swap_72 rfl 0 rfl ?_
      refine zEV.iastL (j := 2) (lf_lt hb 2 (by decide)) (lf_shp hb 2 (by decide)) (by decide) (by decide) dX0_swap_73 ?_
      refine zEV.iconst (v := 0) dX0_swap_74 rfl ?_
      refine zEV.istore_n dX0_swap_75 rfl (Nat.le_of_ble_eq_true rfl) rfl ?_
      exact zEV.perm [2, 0] rfl (tX0_swap_76 b hb zFU (0) (wr (wr M (b + 2) 1 (M.1 (b + 2) 2)) (b + 2) 2 (M.1 (b + 2) 1)) q h)
    · rw [if_neg c1] at h
      refine zEV.aload_n dX0_swap_8 rfl 0 rfl ?_
      refine zEV.gfr rfl inz0 9 (by decide) wf_RX0_42 (lf_lt hb 0 (by decide)) (lf_shp hb 0 (by decide)) rfl dX0_swap_9 ?_
      refine zEV.iconst (v := 1) dX0_swap_12 rfl ?_
      refine zEV.aaldL (r := (b + 5)) (lf_lt hb 3 (by decide)) (by decide) (lf_shp hb 3 (by decide)) (by decide) rfl dX0_swap_13 ?_
      refine zEV.iload_n dX0_swap_14 rfl 1 rfl ?_
      obtain ⟨g2, h⟩ := ite_no h
      refine zEV.iald (lf_lt hb 5 (by decide)) (lf_shp hb 5 (by decide)) g2 dX0_swap_15 ?_
      refine zEV.istore_n dX0_swap_16 rfl (Nat.le_of_ble_eq_true rfl) rfl ?_
      refine zEV.aload_n dX0_swap_17 rfl 1 rfl ?_
      refine zEV.gfr rfl inz0 9 (by decide) wf_RX0_42 (lf_lt hb 0 (by decide)) (lf_shp hb 0 (by decide)) rfl dX0_swap_18 ?_
      refine zEV.iconst (v := 1) dX0_swap_21 rfl ?_
      refine zEV.aaldL (r := (b + 5)) (lf_lt hb 3 (by decide)) (by decide) (lf_shp hb 3 (by decide)) (by decide) rfl dX0_swap_22 ?_
      refine zEV.iload_n dX0_swap_23 rfl 2 rfl ?_
      refine zEV.aload_n dX0_swap_24 rfl 1 rfl ?_
      refine zEV.gfr rfl inz0 9 (by decide) wf_RX0_42 (lf_lt hb 0 (by decide)) (lf_shp hb 0 (by decide)) rfl dX0_swap_25 ?_
      refine zEV.iconst (v := 2) dX0_swap_28 rfl ?_
      refine zEV.aaldL (r := (b + 6)) (lf_lt hb 3 (by decide)) (by decide) (lf_shp hb 3 (by decide)) (by decide) rfl dX0_swap_29 ?_
      refine zEV.iload_n dX0_swap_30 rfl 2 rfl ?_
      refine zEV.iald (lf_lt hb 6 (by decide)) (lf_shp hb 6 (by decide)) g2 dX0_swap_31 ?_
      refine zEV.iast (lf_lt hb 5 (by decide)) (lf_shp hb 5 (by decide)) g2 dX0_swap_32 ?_
      refine zEV.aload_n dX0_swap_33 rfl 1 rfl ?_
      refine zEV.gfr rfl inz0 9 (by decide) wf_RX0_42 (lf_lt hb 0 (by decide)) (lf_shp hb 0 (by decide)) rfl dX0_swap_34 ?_
      refine zEV.iconst (v := 2) dX0_swap_37 rfl ?_
      refine zEV.aaldL (r := (b + 6)) (lf_lt hb 3 (by decide)) (by decide) (lf_shp hb 3 (by decide)) (by decide) rfl dX0_swap_38 ?_
      refine zEV.iload_n dX0_swap_39 rfl 2 rfl ?_
      refine zEV.iload_n dX0_swap_40 rfl 0 rfl ?_
      refine zEV.iast (lf_lt hb 6 (by decide)) (lf_shp hb 6 (by decide)) g2 dX0_swap_41 ?_
      refine zEV.iinc (v := (l1 + 1)) dX0_swap_42 2 rfl rfl (Nat.le_of_ble_eq_true rfl) rfl ?_
      refine zEV.goto 2 dX0_swap_45 (by decide) ?_
      exact zEV.perm [2, 0] rfl (ih ((l1 + 1)) (wr (wr M (b + 5) (Int32.toNatClampNeg l1) (M.1 (b + 6) (Int32.toNatClampNeg l1))) (b + 6) (Int32.toNatClampNeg l1) (M.1 (b + 5) (Int32.toNatClampNeg l1))) q h)
def fX0_swap (b : Nat) (M : zMM) : Option (zMM) :=
  fX0_swap_2 b zFU (0) M
set_option maxRecDepth 100000 in
theorem tX0_swap_0 (b : Nat) (hb : lf b) (M : zMM) (q : zMM) (h : fX0_swap b  M = some q) : zEV iX0_swap 0 0 (zZO (none, q)) 0 [(0, .inr (.inr b))] [] M := by
  unfold fX0_swap at h
  refine zEV.iconst (v := 0) dX0_swap_0 rfl ?_
  refine zEV.istore_n dX0_swap_1 rfl (Nat.le_of_ble_eq_true rfl) rfl ?_
  exact zEV.perm [1, 0] rfl (tX0_swap_2 b hb zFU (0) M q h)
theorem kX0_swap (b : Nat) (hb : lf b) (M : zMM) (q : zMM) (h : fX0_swap b M = some q) : zCN yX0_swap iX0_swap [.inr (.inr b)] M (none, q) :=
  zCN.of (by decide) rfl rfl (Nat.le_of_ble_eq_true rfl) (zEV.perm [0] rfl (tX0_swap_0 b hb M q h))
-- RingedPage$Leaf.isTied
def fX0_isTied_2 (b : Nat) (a1 : Int32) (a2 : Int32) : Nat → Int32 → zMM → Option (Int32 × zMM)
  | 0, _, _ => none
  | n + 1, l3, M =>
  if (M.1 b 6) ≤ l3 then
    some (0, M)
  else
    (fX0_isTieOf b (l3) (a1) (a2) M).bind fun q2 =>
    if q2.1 = (0 : Int32) then
      fX0_isTied_2 b a1 a2 n ((l3 + 1)) q2.2
    else
      some (1, q2.2)
set_option maxRecDepth 100000 in
theorem tX0_isTied_2 (b : Nat) (a1 : Int32) (a2 : Int32) (hb : lf b) : ∀ (n : Nat) (l3 : Int32) (M : zMM) (q : Int32 × zMM), fX0_isTied_2 b a1 a2 n l3 M = some q → zEV iX0_isTied 0 0 (zZO (some (.inl q.1), q.2)) 2 [(0, .inr (.inr b)), (1, .inl a1), (2, .inl a2), (3, .inl l3)] [] M := by
  intro n
  induction n with
  | zero =>
    intro l3 M q h
    rw [fX0_isTied_2] at h
    cases h
  | succ n ih =>
    intro l3 M q h
    rw [fX0_isTied_2] at h
    refine zEV.iload_n dX0_isTied_2 rfl 3 rfl ?_
    refine zEV.aload_n dX0_isTied_3 rfl 0 rfl ?_
    refine zEV.gfi rfl inz0 6 (by decide) wf_RX0_30 (lf_lt hb 0 (by decide)) (lf_shp hb 0 (by decide)) rfl dX0_isTied_4 ?_
    refine zEV.icmp_ge 28 dX0_isTied_7 (by decide) (fun c1 => ?_) (fun c1 => ?_)
    · rw [if_pos c1] at h
      refine zEV.iconst (v := 0) dX0_isTied_28 rfl ?_
      have h := Option.some.inj h
      subst h
      exact zEV.zret rfl (Or.inl rfl) dX0_isTied_29
    · rw [if_neg c1] at h
      refine zEV.aload_n dX0_isTied_10 rfl 0 rfl ?_
      refine zEV.iload_n dX0_isTied_11 rfl 3 rfl ?_
      refine zEV.iload_n dX0_isTied_12 rfl 1 rfl ?_
      refine zEV.iload_n dX0_isTied_13 rfl 2 rfl ?_
      obtain ⟨q2, hq2, h⟩ := bind_yes h
      refine zEV.callVi (kX0_isTieOf b (l3) (a1) (a2) hb M q2 hq2) (lf_lt hb 0 (by decide)) (lf_shp hb 0 (by decide)) rfl wm_RX0_79 wc_X0_isTieOf hy_X0_isTieOf rfl ⟨Nat.le_of_ble_eq_true rfl, Nat.le_of_ble_eq_true rfl⟩ rfl (Nat.le_of_ble_eq_true rfl) dX0_isTied_14 ?_
      refine zEV.if_eq 22 dX0_isTied_17 (by decide) (fun c3 => ?_) (fun c3 => ?_)
      · rw [if_pos c3] at h
        refine zEV.iinc (v := (l3 + 1)) dX0_isTied_22 3 rfl rfl (Nat.le_of_ble_eq_true rfl) rfl ?_
        refine zEV.goto 2 dX0_isTied_25 (by decide) ?_
        exact zEV.perm [1, 2, 3, 0] rfl (ih ((l3 + 1)) q2.2 q h)
      · rw [if_neg c3] at h
        refine zEV.iconst (v := 1) dX0_isTied_20 rfl ?_
        have h := Option.some.inj h
        subst h
        exact zEV.zret rfl (Or.inr rfl) dX0_isTied_21
def fX0_isTied (b : Nat) (a1 : Int32) (a2 : Int32) (M : zMM) : Option (Int32 × zMM) :=
  fX0_isTied_2 b a1 a2 zFU (0) M
set_option maxRecDepth 100000 in
theorem tX0_isTied_0 (b : Nat) (a1 : Int32) (a2 : Int32) (hb : lf b) (M : zMM) (q : Int32 × zMM) (h : fX0_isTied b a1 a2  M = some q) : zEV iX0_isTied 0 0 (zZO (some (.inl q.1), q.2)) 0 [(0, .inr (.inr b)), (1, .inl a1), (2, .inl a2)] [] M := by
  unfold fX0_isTied at h
  refine zEV.iconst (v := 0) dX0_isTied_0 rfl ?_
  refine zEV.istore_n dX0_isTied_1 rfl (Nat.le_of_ble_eq_true rfl) rfl ?_
  exact zEV.perm [1, 2, 3, 0] rfl (tX0_isTied_2 b a1 a2 hb zFU (0) M q h)
theorem kX0_isTied (b : Nat) (a1 : Int32) (a2 : Int32) (hb : lf b) (M : zMM) (q : Int32 × zMM) (h : fX0_isTied b a1 a2 M = some q) : zCN yX0_isTied iX0_isTied [.inr (.inr b), .inl a1, .inl a2] M (some (.inl q.1), q.2) :=
  zCN.of (by decide) rfl rfl (Nat.le_of_ble_eq_true rfl) (zEV.perm [0, 1, 2] rfl (tX0_isTied_0 b a1 a2 hb M q h))
