-- RingedPage$Setting.costOf
def fX4_costOf (b1 : Nat) (M : zMM) : Option (Int32 × zMM) :=
  (fX4_endsApart b1 M).bind fun q1 =>
  (fX4_brokenTies b1 q1.2).bind fun q2 =>
  (fX4_raggedInAll  q2.2).bind fun q3 =>
  some ((((q1.1 * (q1.2.1 (b1 + 1) 0)) + (q2.1 * (q2.2.1 (b1 + 1) 1))) + (q3.1 * (q3.2.1 (b1 + 1) 2))), q3.2)
set_option maxRecDepth 100000 in
theorem tX4_costOf_0 (b1 : Nat) (hb1 : lf b1) (M : zMM) (q : Int32 × zMM) (h : fX4_costOf b1  M = some q) : zEV iX4_costOf 0 0 (zZO (some (.inl q.1), q.2)) 0 [(0, .inr (.inr 120)), (1, .inr (.inr b1))] [] M := by
  unfold fX4_costOf at h
  refine zEV.aload_n dX4_costOf_0 rfl 0 rfl ?_
  refine zEV.aload_n dX4_costOf_1 rfl 1 rfl ?_
  obtain ⟨q1, hq1, h⟩ := bind_yes h
  refine zEV.callVi (kX4_endsApart b1 hb1 M q1 hq1) (by decide) rfl rfl wm_RX4_118 wc_X4_endsApart hy_X4_endsApart rfl ⟨Nat.le_of_ble_eq_true rfl, Nat.le_of_ble_eq_true rfl⟩ rfl (Nat.le_of_ble_eq_true rfl) dX4_costOf_2 ?_
  refine zEV.aload_n dX4_costOf_5 rfl 1 rfl ?_
  refine zEV.gfr rfl inz0 7 (by decide) wf_RX4_122 (lf_lt hb1 0 (by decide)) (lf_shp hb1 0 (by decide)) rfl dX4_costOf_6 ?_
  refine zEV.iconst (v := 0) dX4_costOf_9 rfl ?_
  refine zEV.ialdL (j := 0) (lf_lt hb1 1 (by decide)) (lf_shp hb1 1 (by decide)) (by decide) (by decide) dX4_costOf_10 ?_
  refine zEV.imul dX4_costOf_11 ?_
  refine zEV.aload_n dX4_costOf_12 rfl 0 rfl ?_
  refine zEV.aload_n dX4_costOf_13 rfl 1 rfl ?_
  obtain ⟨q2, hq2, h⟩ := bind_yes h
  refine zEV.callVi (kX4_brokenTies b1 hb1 q1.2 q2 hq2) (by decide) rfl rfl wm_RX4_125 wc_X4_brokenTies hy_X4_brokenTies rfl ⟨Nat.le_of_ble_eq_true rfl, Nat.le_of_ble_eq_true rfl⟩ rfl (Nat.le_of_ble_eq_true rfl) dX4_costOf_14 ?_
  refine zEV.aload_n dX4_costOf_17 rfl 1 rfl ?_
  refine zEV.gfr rfl inz0 7 (by decide) wf_RX4_122 (lf_lt hb1 0 (by decide)) (lf_shp hb1 0 (by decide)) rfl dX4_costOf_18 ?_
  refine zEV.iconst (v := 1) dX4_costOf_21 rfl ?_
  refine zEV.ialdL (j := 1) (lf_lt hb1 1 (by decide)) (lf_shp hb1 1 (by decide)) (by decide) (by decide) dX4_costOf_22 ?_
  refine zEV.imul dX4_costOf_23 ?_
  refine zEV.iadd dX4_costOf_24 ?_
  refine zEV.aload_n dX4_costOf_25 rfl 0 rfl ?_
  obtain ⟨q3, hq3, h⟩ := bind_yes h
  refine zEV.callVi (kX4_raggedInAll   q2.2 q3 hq3) (by decide) rfl rfl wm_RX4_128 wc_X4_raggedInAll hy_X4_raggedInAll rfl ⟨Nat.le_of_ble_eq_true rfl, Nat.le_of_ble_eq_true rfl⟩ rfl (Nat.le_of_ble_eq_true rfl) dX4_costOf_26 ?_
  refine zEV.aload_n dX4_costOf_29 rfl 1 rfl ?_
  refine zEV.gfr rfl inz0 7 (by decide) wf_RX4_122 (lf_lt hb1 0 (by decide)) (lf_shp hb1 0 (by decide)) rfl dX4_costOf_30 ?_
  refine zEV.iconst (v := 2) dX4_costOf_33 rfl ?_
  refine zEV.ialdL (j := 2) (lf_lt hb1 1 (by decide)) (lf_shp hb1 1 (by decide)) (by decide) (by decide) dX4_costOf_34 ?_
  refine zEV.imul dX4_costOf_35 ?_
  refine zEV.iadd dX4_costOf_36 ?_
  have h := Option.some.inj h
  subst h
  exact zEV.iret rfl dX4_costOf_37
theorem kX4_costOf (b1 : Nat) (hb1 : lf b1) (M : zMM) (q : Int32 × zMM) (h : fX4_costOf b1 M = some q) : zCN yX4_costOf iX4_costOf [.inr (.inr 120), .inr (.inr b1)] M (some (.inl q.1), q.2) :=
  zCN.of (by decide) rfl rfl (Nat.le_of_ble_eq_true rfl) (zEV.perm [0, 1] rfl (tX4_costOf_0 b1 hb1 M q h))
-- RingedPage$Search.findBest
def fX3_findBest_68 (K20 : Int32 → Int32 → zMM → Option (zMM)) (b1 : Nat) (a3 : Int32) (a4 : Int32) (l6 : Int32) (M : zMM) : Option (zMM) :=
  (fX0_toNextPlan b1 (a3) (a4) (wr M 148 4 ((M.1 148 4) + 1))).bind fun q1 =>
  K20 (q1.1) ((l6 + 1)) q1.2
set_option maxRecDepth 100000 in
theorem tX3_findBest_68 (K20 : Int32 → Int32 → zMM → Option (zMM)) (b1 : Nat) (a3 : Int32) (a4 : Int32) (hb1 : lf b1) (hK20 : ∀ (l5 : Int32) (l6 : Int32) (M : zMM) (q : zMM), K20 l5 l6 M = some q → zEV iX3_findBest 0 0 (zZO (none, q)) 20 [(0, .inr (.inr 148)), (1, .inr (.inr b1)), (2, .inr (.inr 120)), (3, .inl a3), (4, .inl a4), (5, .inl l5), (6, .inl l6)] [] M) (l6 : Int32) (M : zMM) (q : zMM) (h : fX3_findBest_68 K20 b1 a3 a4 l6 M = some q) : zEV iX3_findBest 0 0 (zZO (none, q)) 68 [(0, .inr (.inr 148)), (1, .inr (.inr b1)), (2, .inr (.inr 120)), (3, .inl a3), (4, .inl a4), (6, .inl l6)] [] M := by
  unfold fX3_findBest_68 at h
  refine zEV.aload_n dX3_findBest_68 rfl 0 rfl ?_
  refine zEV.dup dX3_findBest_69 rfl ?_
  refine zEV.gfi rfl inz3 4 (by decide) wf_RX3_24 (by decide) rfl rfl dX3_findBest_70 ?_
  refine zEV.iconst (v := 1) dX3_findBest_73 rfl ?_
  refine zEV.iadd dX3_findBest_74 ?_
  refine zEV.pfi rfl inz3 tyX3 tyX3_ok nmX3 4 (by decide) wf_RX3_24 rfl (by decide +kernel) (by decide) rfl rfl dX3_findBest_75 ?_
  refine zEV.aload_n dX3_findBest_78 rfl 1 rfl ?_
  refine zEV.iload_n dX3_findBest_79 rfl 3 rfl ?_
  refine zEV.iload dX3_findBest_80 4 rfl ?_
  obtain ⟨q1, hq1, h⟩ := bind_yes h
  refine zEV.callVi (kX0_toNextPlan b1 (a3) (a4) hb1 (wr M 148 4 ((M.1 148 4) + 1)) q1 hq1) (lf_lt hb1 0 (by decide)) (lf_shp hb1 0 (by decide)) rfl wm_RX3_50 wc_X0_toNextPlan hy_X0_toNextPlan rfl ⟨Nat.le_of_ble_eq_true rfl, Nat.le_of_ble_eq_true rfl⟩ rfl (Nat.le_of_ble_eq_true rfl) dX3_findBest_82 ?_
  refine zEV.istore dX3_findBest_85 (Nat.le_of_ble_eq_true rfl) rfl ?_
  refine zEV.iinc (v := (l6 + 1)) dX3_findBest_87 6 rfl rfl (Nat.le_of_ble_eq_true rfl) rfl ?_
  refine zEV.goto 20 dX3_findBest_90 (by decide) ?_
  exact zEV.perm [2, 3, 4, 5, 6, 1, 0] rfl (hK20 (q1.1) ((l6 + 1)) q1.2 q h)
def fX3_findBest_61 (K20 : Int32 → Int32 → zMM → Option (zMM)) (b1 : Nat) (a3 : Int32) (a4 : Int32) (l6 : Int32) (l7 : Int32) (M : zMM) : Option (zMM) :=
  (fX3_note b1 (l7) M).bind fun q1 =>
  fX3_findBest_68 K20 b1 a3 a4 (l6) q1
set_option maxRecDepth 100000 in
theorem tX3_findBest_61 (K20 : Int32 → Int32 → zMM → Option (zMM)) (b1 : Nat) (a3 : Int32) (a4 : Int32) (hb1 : lf b1) (hK20 : ∀ (l5 : Int32) (l6 : Int32) (M : zMM) (q : zMM), K20 l5 l6 M = some q → zEV iX3_findBest 0 0 (zZO (none, q)) 20 [(0, .inr (.inr 148)), (1, .inr (.inr b1)), (2, .inr (.inr 120)), (3, .inl a3), (4, .inl a4), (5, .inl l5), (6, .inl l6)] [] M) (l6 : Int32) (l7 : Int32) (M : zMM) (q : zMM) (h : fX3_findBest_61 K20 b1 a3 a4 l6 l7 M = some q) : zEV iX3_findBest 0 0 (zZO (none, q)) 61 [(0, .inr (.inr 148)), (1, .inr (.inr b1)), (2, .inr (.inr 120)), (3, .inl a3), (4, .inl a4), (6, .inl l6), (7, .inl l7)] [] M := by
  unfold fX3_findBest_61 at h
  refine zEV.aload_n dX3_findBest_61 rfl 0 rfl ?_
  refine zEV.aload_n dX3_findBest_62 rfl 1 rfl ?_
  refine zEV.iload dX3_findBest_63 6 rfl ?_
  obtain ⟨q1, hq1, h⟩ := bind_yes h
  refine zEV.callVv (kX3_note b1 (l7) hb1 M q1 hq1) (by decide) rfl rfl wm_RX3_46 wc_X3_note hy_X3_note rfl ⟨Nat.le_of_ble_eq_true rfl, Nat.le_of_ble_eq_true rfl⟩ rfl (Nat.le_of_ble_eq_true rfl) dX3_findBest_65 ?_
  exact zEV.perm [0, 1, 2, 3, 4, 5] rfl (tX3_findBest_68 K20 b1 a3 a4 hb1 hK20 (l6) q1 q h)
def fX3_findBest_20 (b1 : Nat) (a3 : Int32) (a4 : Int32) : Nat → Int32 → Int32 → zMM → Option (zMM)
  | 0, _, _, _ => none
  | n + 1, l5, l6, M =>
  if l5 = (0 : Int32) then
    some M
  else
    if (10240 : Int32) ≤ l6 then
      some M
    else
      (fX4_set b1 M).bind fun q3 =>
      (fX4_costOf b1 q3).bind fun q4 =>
      if (q4.2.1 148 4) = (0 : Int32) then
        fX3_findBest_61 (fX3_findBest_20 b1 a3 a4 n) b1 a3 a4 (l6) (q4.1) q4.2
      else
        if (q4.2.1 148 3) ≤ q4.1 then
          fX3_findBest_68 (fX3_findBest_20 b1 a3 a4 n) b1 a3 a4 (l6) q4.2
        else
          fX3_findBest_61 (fX3_findBest_20 b1 a3 a4 n) b1 a3 a4 (l6) (q4.1) q4.2
set_option maxRecDepth 100000 in
theorem tX3_findBest_20 (b1 : Nat) (a3 : Int32) (a4 : Int32) (hb1 : lf b1) : ∀ (n : Nat) (l5 : Int32) (l6 : Int32) (M : zMM) (q : zMM), fX3_findBest_20 b1 a3 a4 n l5 l6 M = some q → zEV iX3_findBest 0 0 (zZO (none, q)) 20 [(0, .inr (.inr 148)), (1, .inr (.inr b1)), (2, .inr (.inr 120)), (3, .inl a3), (4, .inl a4), (5, .inl l5), (6, .inl l6)] [] M := by
  intro n
  induction n with
  | zero =>
    intro l5 l6 M q h
    rw [fX3_findBest_20] at h
    cases h
  | succ n ih =>
    intro l5 l6 M q h
    rw [fX3_findBest_20] at h
    refine zEV.iload dX3_findBest_20 5 rfl ?_
    refine zEV.if_eq 93 dX3_findBest_22 (by decide) (fun c1 => ?_) (fun c1 => ?_)
    · rw [if_pos c1] at h
      have h := Option.some.inj h
      subst h
      exact zEV.vret rfl dX3_findBest_93
    · rw [if_neg c1] at h
      refine zEV.iload dX3_findBest_25 6 rfl ?_
      refine zEV.sipush (v := 10240) dX3_findBest_27 rfl ?_
      refine zEV.icmp_ge 93 dX3_findBest_30 (by decide) (fun c2 => ?_) (fun c2 => ?_)
      · rw [if_pos c2] at h
        have h := Option.some.inj h
        subst h
        exact zEV.vret rfl dX3_findBest_93
      · rw [if_neg c2] at h
        refine zEV.aload_n dX3_findBest_33 rfl 2 rfl ?_
        refine zEV.aload_n dX3_findBest_34 rfl 1 rfl ?_
        obtain ⟨q3, hq3, h⟩ := bind_yes h
        refine zEV.callVv (kX4_set b1 hb1 M q3 hq3) (by decide) rfl rfl wm_RX3_36 wc_X4_set hy_X4_set rfl ⟨Nat.le_of_ble_eq_true rfl, Nat.le_of_ble_eq_true rfl⟩ rfl (Nat.le_of_ble_eq_true rfl) dX3_findBest_35 ?_
        refine zEV.aload_n dX3_findBest_38 rfl 2 rfl ?_
        refine zEV.aload_n dX3_findBest_39 rfl 1 rfl ?_
        obtain ⟨q4, hq4, h⟩ := bind_yes h
        refine zEV.callVi (kX4_costOf b1 hb1 q3 q4 hq4) (by decide) rfl rfl wm_RX3_42 wc_X4_costOf hy_X4_costOf rfl ⟨Nat.le_of_ble_eq_true rfl, Nat.le_of_ble_eq_true rfl⟩ rfl (Nat.le_of_ble_eq_true rfl) dX3_findBest_40 ?_
        refine zEV.istore dX3_findBest_43 (Nat.le_of_ble_eq_true rfl) rfl ?_
        refine zEV.aload_n dX3_findBest_45 rfl 1 rfl ?_
        refine zEV.gfi rfl inz3 4 (by decide) wf_RX3_24 (by decide) rfl rfl dX3_findBest_46 ?_
        refine zEV.if_eq 61 dX3_findBest_49 (by decide) (fun c5 => ?_) (fun c5 => ?_)
        · rw [if_pos c5] at h
          exact zEV.perm [1, 2, 3, 4, 5, 7, 0] rfl (tX3_findBest_61 (fX3_findBest_20 b1 a3 a4 n) b1 a3 a4 hb1 (fun l5 l6 M9 q9 h9 => ih l5 l6 M9 q9 h9) (l6) (q4.1) q4.2 q h)
        · rw [if_neg c5] at h
          refine zEV.iload dX3_findBest_52 0 rfl ?_
          refine zEV.aload_n dX3_findBest_54 rfl 1 rfl ?_
          refine zEV.gfi rfl inz3 3 (by decide) wf_RX3_21 (by decide) rfl rfl dX3_findBest_55 ?_
          refine zEV.icmp_ge 68 dX3_findBest_58 (by decide) (fun c6 => ?_) (fun c6 => ?_)
          · rw [if_pos c6] at h
            exact zEV.perm [1, 2, 3, 4, 5, 7] rfl (tX3_findBest_68 (fX3_findBest_20 b1 a3 a4 n) b1 a3 a4 hb1 (fun l5 l6 M9 q9 h9 => ih l5 l6 M9 q9 h9) (l6) q4.2 q h)
          · rw [if_neg c6] at h
            exact zEV.perm [1, 2, 3, 4, 5, 7, 0] rfl (tX3_findBest_61 (fX3_findBest_20 b1 a3 a4 n) b1 a3 a4 hb1 (fun l5 l6 M9 q9 h9 => ih l5 l6 M9 q9 h9) (l6) (q4.1) q4.2 q h)
def fX3_findBest (b1 : Nat) (a3 : Int32) (a4 : Int32) (M : zMM) : Option (zMM) :=
  (fX0_plan b1 (0) (9) (9) (wr M 148 4 0)).bind fun q1 =>
  fX3_findBest_20 b1 a3 a4 zFU (1) (0) q1
set_option maxRecDepth 100000 in
theorem tX3_findBest_0 (b1 : Nat) (a3 : Int32) (a4 : Int32) (hb1 : lf b1) (M : zMM) (q : zMM) (h : fX3_findBest b1 a3 a4  M = some q) : zEV iX3_findBest 0 0 (zZO (none, q)) 0 [(0, .inr (.inr 148)), (1, .inr (.inr b1)), (2, .inr (.inr 120)), (3, .inl a3), (4, .inl a4)] [] M := by
  unfold fX3_findBest at h
  refine zEV.aload_n dX3_findBest_0 rfl 0 rfl ?_
  refine zEV.iconst (v := 0) dX3_findBest_1 rfl ?_
  refine zEV.pfi rfl inz3 tyX3 tyX3_ok nmX3 4 (by decide) wf_RX3_24 rfl (by decide +kernel) (by decide) rfl rfl dX3_findBest_2 ?_
  refine zEV.aload_n dX3_findBest_5 rfl 1 rfl ?_
  refine zEV.iconst (v := 0) dX3_findBest_6 rfl ?_
  refine zEV.bipush (v := 9) dX3_findBest_7 rfl ?_
  refine zEV.bipush (v := 9) dX3_findBest_9 rfl ?_
  obtain ⟨q1, hq1, h⟩ := bind_yes h
  refine zEV.callVv (kX0_plan b1 (0) (9) (9) hb1 (wr M 148 4 0) q1 hq1) (lf_lt hb1 0 (by decide)) (lf_shp hb1 0 (by decide)) rfl wm_RX3_32 wc_X0_plan hy_X0_plan rfl ⟨Nat.le_of_ble_eq_true rfl, Nat.le_of_ble_eq_true rfl⟩ rfl (Nat.le_of_ble_eq_true rfl) dX3_findBest_11 ?_
  refine zEV.iconst (v := 1) dX3_findBest_14 rfl ?_
  refine zEV.istore dX3_findBest_15 (Nat.le_of_ble_eq_true rfl) rfl ?_
  refine zEV.iconst (v := 0) dX3_findBest_17 rfl ?_
  refine zEV.istore dX3_findBest_18 (Nat.le_of_ble_eq_true rfl) rfl ?_
  exact zEV.perm [2, 3, 4, 5, 6, 1, 0] rfl (tX3_findBest_20 b1 a3 a4 hb1 zFU (1) (0) q1 q h)
theorem kX3_findBest (b1 : Nat) (a3 : Int32) (a4 : Int32) (hb1 : lf b1) (M : zMM) (q : zMM) (h : fX3_findBest b1 a3 a4 M = some q) : zCN yX3_findBest iX3_findBest [.inr (.inr 148), .inr (.inr b1), .inr (.inr 120), .inl a3, .inl a4] M (none, q) :=
  zCN.of (by decide) rfl rfl (Nat.le_of_ble_eq_true rfl) (zEV.perm [0, 1, 2, 3, 4] rfl (tX3_findBest_0 b1 a3 a4 hb1 M q h))
-- RingedPage$Search.findNear
def fX3_findNear_71 (K20 : Int32 → Int32 → zMM → Option (zMM)) (b1 : Nat) (a3 : Int32) (a4 : Int32) (a5 : Int32) (l7 : Int32) (M : zMM) : Option (zMM) :=
  (fX0_toNextPlan b1 (a3) (a4) M).bind fun q1 =>
  K20 (q1.1) ((l7 + 1)) q1.2
set_option maxRecDepth 100000 in
theorem tX3_findNear_71 (K20 : Int32 → Int32 → zMM → Option (zMM)) (b1 : Nat) (a3 : Int32) (a4 : Int32) (a5 : Int32) (hb1 : lf b1) (hK20 : ∀ (l6 : Int32) (l7 : Int32) (M : zMM) (q : zMM), K20 l6 l7 M = some q → zEV iX3_findNear 0 0 (zZO (none, q)) 20 [(0, .inr (.inr 148)), (1, .inr (.inr b1)), (2, .inr (.inr 120)), (3, .inl a3), (4, .inl a4), (5, .inl a5), (6, .inl l6), (7, .inl l7)] [] M) (l7 : Int32) (M : zMM) (q : zMM) (h : fX3_findNear_71 K20 b1 a3 a4 a5 l7 M = some q) : zEV iX3_findNear 0 0 (zZO (none, q)) 71 [(0, .inr (.inr 148)), (1, .inr (.inr b1)), (2, .inr (.inr 120)), (3, .inl a3), (4, .inl a4), (5, .inl a5), (7, .inl l7)] [] M := by
  unfold fX3_findNear_71 at h
  refine zEV.aload_n dX3_findNear_71 rfl 1 rfl ?_
  refine zEV.iload_n dX3_findNear_72 rfl 3 rfl ?_
  refine zEV.iload dX3_findNear_73 4 rfl ?_
  obtain ⟨q1, hq1, h⟩ := bind_yes h
  refine zEV.callVi (kX0_toNextPlan b1 (a3) (a4) hb1 M q1 hq1) (lf_lt hb1 0 (by decide)) (lf_shp hb1 0 (by decide)) rfl wm_RX3_50 wc_X0_toNextPlan hy_X0_toNextPlan rfl ⟨Nat.le_of_ble_eq_true rfl, Nat.le_of_ble_eq_true rfl⟩ rfl (Nat.le_of_ble_eq_true rfl) dX3_findNear_75 ?_
  refine zEV.istore dX3_findNear_78 (Nat.le_of_ble_eq_true rfl) rfl ?_
  refine zEV.iinc (v := (l7 + 1)) dX3_findNear_80 7 rfl rfl (Nat.le_of_ble_eq_true rfl) rfl ?_
  refine zEV.goto 20 dX3_findNear_83 (by decide) ?_
  exact zEV.perm [2, 3, 4, 5, 6, 7, 1, 0] rfl (hK20 (q1.1) ((l7 + 1)) q1.2 q h)
def fX3_findNear_61 (K20 : Int32 → Int32 → zMM → Option (zMM)) (b1 : Nat) (a3 : Int32) (a4 : Int32) (a5 : Int32) (l7 : Int32) (M : zMM) : Option (zMM) :=
  fX3_findNear_71 K20 b1 a3 a4 a5 (l7) (wr M 148 4 ((M.1 148 4) + 1))
set_option maxRecDepth 100000 in
theorem tX3_findNear_61 (K20 : Int32 → Int32 → zMM → Option (zMM)) (b1 : Nat) (a3 : Int32) (a4 : Int32) (a5 : Int32) (hb1 : lf b1) (hK20 : ∀ (l6 : Int32) (l7 : Int32) (M : zMM) (q : zMM), K20 l6 l7 M = some q → zEV iX3_findNear 0 0 (zZO (none, q)) 20 [(0, .inr (.inr 148)), (1, .inr (.inr b1)), (2, .inr (.inr 120)), (3, .inl a3), (4, .inl a4), (5, .inl a5), (6, .inl l6), (7, .inl l7)] [] M) (l7 : Int32) (M : zMM) (q : zMM) (h : fX3_findNear_61 K20 b1 a3 a4 a5 l7 M = some q) : zEV iX3_findNear 0 0 (zZO (none, q)) 61 [(0, .inr (.inr 148)), (1, .inr (.inr b1)), (2, .inr (.inr 120)), (3, .inl a3), (4, .inl a4), (5, .inl a5), (7, .inl l7)] [] M := by
  unfold fX3_findNear_61 at h
  refine zEV.aload_n dX3_findNear_61 rfl 0 rfl ?_
  refine zEV.dup dX3_findNear_62 rfl ?_
  refine zEV.gfi rfl inz3 4 (by decide) wf_RX3_24 (by decide) rfl rfl dX3_findNear_63 ?_
  refine zEV.iconst (v := 1) dX3_findNear_66 rfl ?_
  refine zEV.iadd dX3_findNear_67 ?_
  refine zEV.pfi rfl inz3 tyX3 tyX3_ok nmX3 4 (by decide) wf_RX3_24 rfl (by decide +kernel) (by decide) rfl rfl dX3_findNear_68 ?_
  exact zEV.perm [0, 1, 2, 3, 4, 5, 6] rfl (tX3_findNear_71 K20 b1 a3 a4 a5 hb1 hK20 (l7) (wr M 148 4 ((M.1 148 4) + 1)) q h)
def fX3_findNear_20 (b1 : Nat) (a3 : Int32) (a4 : Int32) (a5 : Int32) : Nat → Int32 → Int32 → zMM → Option (zMM)
  | 0, _, _, _ => none
  | n + 1, l6, l7, M =>
  if l6 = (0 : Int32) then
    some M
  else
    if (10240 : Int32) ≤ l7 then
      some M
    else
      (fX4_set b1 M).bind fun q3 =>
      (fX4_endsApart b1 q3).bind fun q4 =>
      if a5 < q4.1 then
        fX3_findNear_71 (fX3_findNear_20 b1 a3 a4 a5 n) b1 a3 a4 a5 (l7) q4.2
      else
        if (q4.2.1 148 4) = (0 : Int32) then
          (fX3_note b1 (0) q4.2).bind fun q7 =>
          fX3_findNear_61 (fX3_findNear_20 b1 a3 a4 a5 n) b1 a3 a4 a5 (l7) q7
        else
          fX3_findNear_61 (fX3_findNear_20 b1 a3 a4 a5 n) b1 a3 a4 a5 (l7) q4.2
set_option maxRecDepth 100000 in
theorem tX3_findNear_20 (b1 : Nat) (a3 : Int32) (a4 : Int32) (a5 : Int32) (hb1 : lf b1) : ∀ (n : Nat) (l6 : Int32) (l7 : Int32) (M : zMM) (q : zMM), fX3_findNear_20 b1 a3 a4 a5 n l6 l7 M = some q → zEV iX3_findNear 0 0 (zZO (none, q)) 20 [(0, .inr (.inr 148)), (1, .inr (.inr b1)), (2, .inr (.inr 120)), (3, .inl a3), (4, .inl a4), (5, .inl a5), (6, .inl l6), (7, .inl l7)] [] M := by
  intro n
  induction n with
  | zero =>
    intro l6 l7 M q h
    rw [fX3_findNear_20] at h
    cases h
  | succ n ih =>
    intro l6 l7 M q h
    rw [fX3_findNear_20] at h
    refine zEV.iload dX3_findNear_20 6 rfl ?_
    refine zEV.if_eq 86 dX3_findNear_22 (by decide) (fun c1 => ?_) (fun c1 => ?_)
    · rw [if_pos c1] at h
      have h := Option.some.inj h
      subst h
      exact zEV.vret rfl dX3_findNear_86
    · rw [if_neg c1] at h
      refine zEV.iload dX3_findNear_25 7 rfl ?_
      refine zEV.sipush (v := 10240) dX3_findNear_27 rfl ?_
      refine zEV.icmp_ge 86 dX3_findNear_30 (by decide) (fun c2 => ?_) (fun c2 => ?_)
      · rw [if_pos c2] at h
        have h := Option.some.inj h
        subst h
        exact zEV.vret rfl dX3_findNear_86
      · rw [if_neg c2] at h
        refine zEV.aload_n dX3_findNear_33 rfl 2 rfl ?_
        refine zEV.aload_n dX3_findNear_34 rfl 1 rfl ?_
        obtain ⟨q3, hq3, h⟩ := bind_yes h
        refine zEV.callVv (kX4_set b1 hb1 M q3 hq3) (by decide) rfl rfl wm_RX3_36 wc_X4_set hy_X4_set rfl ⟨Nat.le_of_ble_eq_true rfl, Nat.le_of_ble_eq_true rfl⟩ rfl (Nat.le_of_ble_eq_true rfl) dX3_findNear_35 ?_
        refine zEV.aload_n dX3_findNear_38 rfl 2 rfl ?_
        refine zEV.aload_n dX3_findNear_39 rfl 1 rfl ?_
        obtain ⟨q4, hq4, h⟩ := bind_yes h
        refine zEV.callVi (kX4_endsApart b1 hb1 q3 q4 hq4) (by decide) rfl rfl wm_RX3_54 wc_X4_endsApart hy_X4_endsApart rfl ⟨Nat.le_of_ble_eq_true rfl, Nat.le_of_ble_eq_true rfl⟩ rfl (Nat.le_of_ble_eq_true rfl) dX3_findNear_40 ?_
        refine zEV.iload dX3_findNear_43 5 rfl ?_
        refine zEV.icmp_gt 71 dX3_findNear_45 (by decide) (fun c5 => ?_) (fun c5 => ?_)
        · rw [if_pos c5] at h
          exact zEV.perm [0, 1, 2, 3, 4, 5, 7] rfl (tX3_findNear_71 (fX3_findNear_20 b1 a3 a4 a5 n) b1 a3 a4 a5 hb1 (fun l6 l7 M9 q9 h9 => ih l6 l7 M9 q9 h9) (l7) q4.2 q h)
        · rw [if_neg c5] at h
          refine zEV.aload_n dX3_findNear_48 rfl 0 rfl ?_
          refine zEV.gfi rfl inz3 4 (by decide) wf_RX3_24 (by decide) rfl rfl dX3_findNear_49 ?_
          refine zEV.if_ne 61 dX3_findNear_52 (by decide) (fun c6 => ?_) (fun c6 => ?_)
          · rw [if_neg c6] at h
            exact zEV.perm [0, 1, 2, 3, 4, 5, 7] rfl (tX3_findNear_61 (fX3_findNear_20 b1 a3 a4 a5 n) b1 a3 a4 a5 hb1 (fun l6 l7 M9 q9 h9 => ih l6 l7 M9 q9 h9) (l7) q4.2 q h)
          · rw [if_pos c6] at h
            refine zEV.aload_n dX3_findNear_55 rfl 0 rfl ?_
            refine zEV.aload_n dX3_findNear_56 rfl 1 rfl ?_
            refine zEV.iconst (v := 0) dX3_findNear_57 rfl ?_
            obtain ⟨q7, hq7, h⟩ := bind_yes h
            refine zEV.callVv (kX3_note b1 (0) hb1 q4.2 q7 hq7) (by decide) rfl rfl wm_RX3_46 wc_X3_note hy_X3_note rfl ⟨Nat.le_of_ble_eq_true rfl, Nat.le_of_ble_eq_true rfl⟩ rfl (Nat.le_of_ble_eq_true rfl) dX3_findNear_58 ?_
            exact zEV.perm [0, 1, 2, 3, 4, 5, 7] rfl (tX3_findNear_61 (fX3_findNear_20 b1 a3 a4 a5 n) b1 a3 a4 a5 hb1 (fun l6 l7 M9 q9 h9 => ih l6 l7 M9 q9 h9) (l7) q7 q h)
def fX3_findNear (b1 : Nat) (a3 : Int32) (a4 : Int32) (a5 : Int32) (M : zMM) : Option (zMM) :=
  (fX0_plan b1 (0) (9) (9) (wr M 148 4 0)).bind fun q1 =>
  fX3_findNear_20 b1 a3 a4 a5 zFU (1) (0) q1
set_option maxRecDepth 100000 in
theorem tX3_findNear_0 (b1 : Nat) (a3 : Int32) (a4 : Int32) (a5 : Int32) (hb1 : lf b1) (M : zMM) (q : zMM) (h : fX3_findNear b1 a3 a4 a5  M = some q) : zEV iX3_findNear 0 0 (zZO (none, q)) 0 [(0, .inr (.inr 148)), (1, .inr (.inr b1)), (2, .inr (.inr 120)), (3, .inl a3), (4, .inl a4), (5, .inl a5)] [] M := by
  unfold fX3_findNear at h
  refine zEV.aload_n dX3_findNear_0 rfl 0 rfl ?_
  refine zEV.iconst (v := 0) dX3_findNear_1 rfl ?_
  refine zEV.pfi rfl inz3 tyX3 tyX3_ok nmX3 4 (by decide) wf_RX3_24 rfl (by decide +kernel) (by decide) rfl rfl dX3_findNear_2 ?_
  refine zEV.aload_n dX3_findNear_5 rfl 1 rfl ?_
  refine zEV.iconst (v := 0) dX3_findNear_6 rfl ?_
  refine zEV.bipush (v := 9) dX3_findNear_7 rfl ?_
  refine zEV.bipush (v := 9) dX3_findNear_9 rfl ?_
  obtain ⟨q1, hq1, h⟩ := bind_yes h
  refine zEV.callVv (kX0_plan b1 (0) (9) (9) hb1 (wr M 148 4 0) q1 hq1) (lf_lt hb1 0 (by decide)) (lf_shp hb1 0 (by decide)) rfl wm_RX3_32 wc_X0_plan hy_X0_plan rfl ⟨Nat.le_of_ble_eq_true rfl, Nat.le_of_ble_eq_true rfl⟩ rfl (Nat.le_of_ble_eq_true rfl) dX3_findNear_11 ?_
  refine zEV.iconst (v := 1) dX3_findNear_14 rfl ?_
  refine zEV.istore dX3_findNear_15 (Nat.le_of_ble_eq_true rfl) rfl ?_
  refine zEV.iconst (v := 0) dX3_findNear_17 rfl ?_
  refine zEV.istore dX3_findNear_18 (Nat.le_of_ble_eq_true rfl) rfl ?_
  exact zEV.perm [2, 3, 4, 5, 6, 7, 1, 0] rfl (tX3_findNear_20 b1 a3 a4 a5 hb1 zFU (1) (0) q1 q h)
theorem kX3_findNear (b1 : Nat) (a3 : Int32) (a4 : Int32) (a5 : Int32) (hb1 : lf b1) (M : zMM) (q : zMM) (h : fX3_findNear b1 a3 a4 a5 M = some q) : zCN yX3_findNear iX3_findNear [.inr (.inr 148), .inr (.inr b1), .inr (.inr 120), .inl a3, .inl a4, .inl a5] M (none, q) :=
  zCN.of (by decide) rfl rfl (Nat.le_of_ble_eq_true rfl) (zEV.perm [0, 1, 2, 3, 4, 5] rfl (tX3_findNear_0 b1 a3 a4 a5 hb1 M q h))
-- RingedPage$Search.findBetter
def fX3_findBetter_119 (K23 : Int32 → Int32 → Int32 → Int32 → Int32 → zMM → Option (Int32 × zMM)) (b1 : Nat) (l3 : Int32) (l4 : Int32) (l5 : Int32) (l6 : Int32) (l7 : Int32) (M : zMM) : Option (Int32 × zMM) :=
  K23 (l3) (l4) (l5) (l6) ((l7 + 1)) M
set_option maxRecDepth 100000 in
theorem tX3_findBetter_119 (K23 : Int32 → Int32 → Int32 → Int32 → Int32 → zMM → Option (Int32 × zMM)) (b1 : Nat) (hb1 : lf b1) (hK23 : ∀ (l3 : Int32) (l4 : Int32) (l5 : Int32) (l6 : Int32) (l7 : Int32) (M : zMM) (q : Int32 × zMM), K23 l3 l4 l5 l6 l7 M = some q → zEV iX3_findBetter 0 0 (zZO (some (.inl q.1), q.2)) 23 [(0, .inr (.inr 148)), (1, .inr (.inr b1)), (2, .inr (.inr 120)), (3, .inl l3), (4, .inl l4), (5, .inl l5), (6, .inl l6), (7, .inl l7)] [] M) (l3 : Int32) (l4 : Int32) (l5 : Int32) (l6 : Int32) (l7 : Int32) (M : zMM) (q : Int32 × zMM) (h : fX3_findBetter_119 K23 b1 l3 l4 l5 l6 l7 M = some q) : zEV iX3_findBetter 0 0 (zZO (some (.inl q.1), q.2)) 119 [(0, .inr (.inr 148)), (1, .inr (.inr b1)), (2, .inr (.inr 120)), (3, .inl l3), (4, .inl l4), (5, .inl l5), (6, .inl l6), (7, .inl l7)] [] M := by
  unfold fX3_findBetter_119 at h
  refine zEV.iinc (v := (l7 + 1)) dX3_findBetter_119 7 rfl rfl (Nat.le_of_ble_eq_true rfl) rfl ?_
  refine zEV.goto 23 dX3_findBetter_122 (by decide) ?_
  exact zEV.perm [1, 2, 3, 4, 5, 6, 7, 0] rfl (hK23 (l3) (l4) (l5) (l6) ((l7 + 1)) M q h)
def fX3_findBetter_23 (b1 : Nat) : Nat → Int32 → Int32 → Int32 → Int32 → Int32 → zMM → Option (Int32 × zMM)
  | 0, _, _, _, _, _, _ => none
  | n + 1, l3, l4, l5, l6, l7, M =>
  if (6 : Int32) ≤ l7 then
    if l6 = 0 ∨ l6 = 1 then some (l6, M) else none
  else
    if oob (l7) 6 then none else
    (fX0_allows b1 ((l3 + (zst 3 (Int32.toNatClampNeg l7)))) ((l4 + (zst 4 (Int32.toNatClampNeg l7)))) ((l5 + (zst 5 (Int32.toNatClampNeg l7)))) M).bind fun q4 =>
    if q4.1 = (0 : Int32) then
      fX3_findBetter_119 (fX3_findBetter_23 b1 n) b1 (l3) (l4) (l5) (l6) (l7) q4.2
    else
      (fX0_plan b1 ((l3 + (zst 3 (Int32.toNatClampNeg l7)))) ((l4 + (zst 4 (Int32.toNatClampNeg l7)))) ((l5 + (zst 5 (Int32.toNatClampNeg l7)))) q4.2).bind fun q6 =>
      (fX4_set b1 q6).bind fun q7 =>
      (fX4_costOf b1 q7).bind fun q8 =>
      if (q8.2.1 148 3) ≤ q8.1 then
        fX3_findBetter_119 (fX3_findBetter_23 b1 n) b1 (l3) (l4) (l5) (l6) (l7) q8.2
      else
        (fX3_note b1 (q8.1) q8.2).bind fun q10 =>
        fX3_findBetter_119 (fX3_findBetter_23 b1 n) b1 (l3) (l4) (l5) (1) (l7) q10
set_option maxRecDepth 100000 in
theorem tX3_findBetter_23 (b1 : Nat) (hb1 : lf b1) : ∀ (n : Nat) (l3 : Int32) (l4 : Int32) (l5 : Int32) (l6 : Int32) (l7 : Int32) (M : zMM) (q : Int32 × zMM), fX3_findBetter_23 b1 n l3 l4 l5 l6 l7 M = some q → zEV iX3_findBetter 0 0 (zZO (some (.inl q.1), q.2)) 23 [(0, .inr (.inr 148)), (1, .inr (.inr b1)), (2, .inr (.inr 120)), (3, .inl l3), (4, .inl l4), (5, .inl l5), (6, .inl l6), (7, .inl l7)] [] M := by
  intro n
  induction n with
  | zero =>
    intro l3 l4 l5 l6 l7 M q h
    rw [fX3_findBetter_23] at h
    cases h
  | succ n ih =>
    intro l3 l4 l5 l6 l7 M q h
    rw [fX3_findBetter_23] at h
    refine zEV.iload dX3_findBetter_23 7 rfl ?_
    refine zEV.bipush (v := 6) dX3_findBetter_25 rfl ?_
    refine zEV.icmp_ge 125 dX3_findBetter_27 (by decide) (fun c1 => ?_) (fun c1 => ?_)
    · rw [if_pos c1] at h
      refine zEV.iload dX3_findBetter_125 6 rfl ?_
      obtain ⟨g2, h⟩ := ite_yes h
      have h := Option.some.inj h
      subst h
      exact zEV.zret rfl g2 dX3_findBetter_127
    · rw [if_neg c1] at h
      refine zEV.iload_n dX3_findBetter_30 rfl 3 rfl ?_
      refine zEV.getsN 3 (by decide) rfl (by decide) dX3_findBetter_31 ?_
      refine zEV.iload dX3_findBetter_34 7 rfl ?_
      obtain ⟨g3, h⟩ := ite_no h
      refine zEV.stld 3 (by decide) g3 dX3_findBetter_36 ?_
      refine zEV.iadd dX3_findBetter_37 ?_
      refine zEV.istore dX3_findBetter_38 (Nat.le_of_ble_eq_true rfl) rfl ?_
      refine zEV.iload dX3_findBetter_40 5 rfl ?_
      refine zEV.getsN 4 (by decide) rfl (by decide) dX3_findBetter_42 ?_
      refine zEV.iload dX3_findBetter_45 8 rfl ?_
      refine zEV.stld 4 (by decide) g3 dX3_findBetter_47 ?_
      refine zEV.iadd dX3_findBetter_48 ?_
      refine zEV.istore dX3_findBetter_49 (Nat.le_of_ble_eq_true rfl) rfl ?_
      refine zEV.iload dX3_findBetter_51 7 rfl ?_
      refine zEV.getsN 5 (by decide) rfl (by decide) dX3_findBetter_53 ?_
      refine zEV.iload dX3_findBetter_56 9 rfl ?_
      refine zEV.stld 5 (by decide) g3 dX3_findBetter_58 ?_
      refine zEV.iadd dX3_findBetter_59 ?_
      refine zEV.istore dX3_findBetter_60 (Nat.le_of_ble_eq_true rfl) rfl ?_
      refine zEV.aload_n dX3_findBetter_62 rfl 4 rfl ?_
      refine zEV.iload dX3_findBetter_63 2 rfl ?_
      refine zEV.iload dX3_findBetter_65 1 rfl ?_
      refine zEV.iload dX3_findBetter_67 0 rfl ?_
      obtain ⟨q4, hq4, h⟩ := bind_yes h
      refine zEV.callVi (kX0_allows b1 ((l3 + (zst 3 (Int32.toNatClampNeg l7)))) ((l4 + (zst 4 (Int32.toNatClampNeg l7)))) ((l5 + (zst 5 (Int32.toNatClampNeg l7)))) hb1 M q4 hq4) (lf_lt hb1 0 (by decide)) (lf_shp hb1 0 (by decide)) rfl wm_RX3_71 wc_X0_allows hy_X0_allows rfl ⟨Nat.le_of_ble_eq_true rfl, Nat.le_of_ble_eq_true rfl⟩ rfl (Nat.le_of_ble_eq_true rfl) dX3_findBetter_69 ?_
      refine zEV.if_ne 78 dX3_findBetter_72 (by decide) (fun c5 => ?_) (fun c5 => ?_)
      · rw [if_neg c5] at h
        refine zEV.aload_n dX3_findBetter_78 rfl 4 rfl ?_
        refine zEV.iload dX3_findBetter_79 2 rfl ?_
        refine zEV.iload dX3_findBetter_81 1 rfl ?_
        refine zEV.iload dX3_findBetter_83 0 rfl ?_
        obtain ⟨q6, hq6, h⟩ := bind_yes h
        refine zEV.callVv (kX0_plan b1 ((l3 + (zst 3 (Int32.toNatClampNeg l7)))) ((l4 + (zst 4 (Int32.toNatClampNeg l7)))) ((l5 + (zst 5 (Int32.toNatClampNeg l7)))) hb1 q4.2 q6 hq6) (lf_lt hb1 0 (by decide)) (lf_shp hb1 0 (by decide)) rfl wm_RX3_32 wc_X0_plan hy_X0_plan rfl ⟨Nat.le_of_ble_eq_true rfl, Nat.le_of_ble_eq_true rfl⟩ rfl (Nat.le_of_ble_eq_true rfl) dX3_findBetter_85 ?_
        refine zEV.aload_n dX3_findBetter_88 rfl 5 rfl ?_
        refine zEV.aload_n dX3_findBetter_89 rfl 4 rfl ?_
        obtain ⟨q7, hq7, h⟩ := bind_yes h
        refine zEV.callVv (kX4_set b1 hb1 q6 q7 hq7) (by decide) rfl rfl wm_RX3_36 wc_X4_set hy_X4_set rfl ⟨Nat.le_of_ble_eq_true rfl, Nat.le_of_ble_eq_true rfl⟩ rfl (Nat.le_of_ble_eq_true rfl) dX3_findBetter_90 ?_
        refine zEV.aload_n dX3_findBetter_93 rfl 5 rfl ?_
        refine zEV.aload_n dX3_findBetter_94 rfl 4 rfl ?_
        obtain ⟨q8, hq8, h⟩ := bind_yes h
        refine zEV.callVi (kX4_costOf b1 hb1 q7 q8 hq8) (by decide) rfl rfl wm_RX3_42 wc_X4_costOf hy_X4_costOf rfl ⟨Nat.le_of_ble_eq_true rfl, Nat.le_of_ble_eq_true rfl⟩ rfl (Nat.le_of_ble_eq_true rfl) dX3_findBetter_95 ?_
        refine zEV.istore dX3_findBetter_98 (Nat.le_of_ble_eq_true rfl) rfl ?_
        refine zEV.iload dX3_findBetter_100 0 rfl ?_
        refine zEV.aload_n dX3_findBetter_102 rfl 4 rfl ?_
        refine zEV.gfi rfl inz3 3 (by decide) wf_RX3_21 (by decide) rfl rfl dX3_findBetter_103 ?_
        refine zEV.icmp_ge 119 dX3_findBetter_106 (by decide) (fun c9 => ?_) (fun c9 => ?_)
        · rw [if_pos c9] at h
          exact zEV.perm [4, 5, 6, 7, 8, 9, 10, 11] rfl (tX3_findBetter_119 (fX3_findBetter_23 b1 n) b1 hb1 (fun l3 l4 l5 l6 l7 M9 q9 h9 => ih l3 l4 l5 l6 l7 M9 q9 h9) (l3) (l4) (l5) (l6) (l7) q8.2 q h)
        · rw [if_neg c9] at h
          refine zEV.aload_n dX3_findBetter_109 rfl 4 rfl ?_
          refine zEV.aload_n dX3_findBetter_110 rfl 5 rfl ?_
          refine zEV.iload dX3_findBetter_111 0 rfl ?_
          obtain ⟨q10, hq10, h⟩ := bind_yes h
          refine zEV.callVv (kX3_note b1 (q8.1) hb1 q8.2 q10 hq10) (by decide) rfl rfl wm_RX3_46 wc_X3_note hy_X3_note rfl ⟨Nat.le_of_ble_eq_true rfl, Nat.le_of_ble_eq_true rfl⟩ rfl (Nat.le_of_ble_eq_true rfl) dX3_findBetter_113 ?_
          refine zEV.iconst (v := 1) dX3_findBetter_116 rfl ?_
          refine zEV.istore dX3_findBetter_117 (Nat.le_of_ble_eq_true rfl) rfl ?_
          exact zEV.perm [5, 6, 7, 8, 9, 10, 0, 11] rfl (tX3_findBetter_119 (fX3_findBetter_23 b1 n) b1 hb1 (fun l3 l4 l5 l6 l7 M9 q9 h9 => ih l3 l4 l5 l6 l7 M9 q9 h9) (l3) (l4) (l5) (1) (l7) q10 q h)
      · rw [if_pos c5] at h
        refine zEV.goto 119 dX3_findBetter_75 (by decide) ?_
        exact zEV.perm [3, 4, 5, 6, 7, 8, 9, 10] rfl (tX3_findBetter_119 (fX3_findBetter_23 b1 n) b1 hb1 (fun l3 l4 l5 l6 l7 M9 q9 h9 => ih l3 l4 l5 l6 l7 M9 q9 h9) (l3) (l4) (l5) (l6) (l7) q4.2 q h)
def fX3_findBetter (b1 : Nat) (M : zMM) : Option (Int32 × zMM) :=
  fX3_findBetter_23 b1 zFU ((M.1 148 0)) ((M.1 148 1)) ((M.1 148 2)) (0) (0) M
set_option maxRecDepth 100000 in
theorem tX3_findBetter_0 (b1 : Nat) (hb1 : lf b1) (M : zMM) (q : Int32 × zMM) (h : fX3_findBetter b1  M = some q) : zEV iX3_findBetter 0 0 (zZO (some (.inl q.1), q.2)) 0 [(0, .inr (.inr 148)), (1, .inr (.inr b1)), (2, .inr (.inr 120))] [] M := by
  unfold fX3_findBetter at h
  refine zEV.aload_n dX3_findBetter_0 rfl 0 rfl ?_
  refine zEV.gfi rfl inz3 0 (by decide) wf_RX3_9 (by decide) rfl rfl dX3_findBetter_1 ?_
  refine zEV.istore_n dX3_findBetter_4 rfl (Nat.le_of_ble_eq_true rfl) rfl ?_
  refine zEV.aload_n dX3_findBetter_5 rfl 1 rfl ?_
  refine zEV.gfi rfl inz3 1 (by decide) wf_RX3_15 (by decide) rfl rfl dX3_findBetter_6 ?_
  refine zEV.istore dX3_findBetter_9 (Nat.le_of_ble_eq_true rfl) rfl ?_
  refine zEV.aload_n dX3_findBetter_11 rfl 2 rfl ?_
  refine zEV.gfi rfl inz3 2 (by decide) wf_RX3_18 (by decide) rfl rfl dX3_findBetter_12 ?_
  refine zEV.istore dX3_findBetter_15 (Nat.le_of_ble_eq_true rfl) rfl ?_
  refine zEV.iconst (v := 0) dX3_findBetter_17 rfl ?_
  refine zEV.istore dX3_findBetter_18 (Nat.le_of_ble_eq_true rfl) rfl ?_
  refine zEV.iconst (v := 0) dX3_findBetter_20 rfl ?_
  refine zEV.istore dX3_findBetter_21 (Nat.le_of_ble_eq_true rfl) rfl ?_
  exact zEV.perm [5, 6, 7, 4, 3, 2, 1, 0] rfl (tX3_findBetter_23 b1 hb1 zFU ((M.1 148 0)) ((M.1 148 1)) ((M.1 148 2)) (0) (0) M q h)
theorem kX3_findBetter (b1 : Nat) (hb1 : lf b1) (M : zMM) (q : Int32 × zMM) (h : fX3_findBetter b1 M = some q) : zCN yX3_findBetter iX3_findBetter [.inr (.inr 148), .inr (.inr b1), .inr (.inr 120)] M (some (.inl q.1), q.2) :=
  zCN.of (by decide) rfl rfl (Nat.le_of_ble_eq_true rfl) (zEV.perm [0, 1, 2] rfl (tX3_findBetter_0 b1 hb1 M q h))
-- RingedPage$Search.climb
def fX3_climb_17 (b1 : Nat) : Nat → Int32 → zMM → Option (Int32 × zMM)
  | 0, _, _ => none
  | n + 1, l3, M =>
  if (10240 : Int32) ≤ l3 then
    some (10240, M)
  else
    (fX3_findBetter b1 M).bind fun q2 =>
    if q2.1 = (0 : Int32) then
      some (l3, q2.2)
    else
      fX3_climb_17 b1 n ((l3 + 1)) q2.2
set_option maxRecDepth 100000 in
theorem tX3_climb_17 (b1 : Nat) (hb1 : lf b1) : ∀ (n : Nat) (l3 : Int32) (M : zMM) (q : Int32 × zMM), fX3_climb_17 b1 n l3 M = some q → zEV iX3_climb 0 0 (zZO (some (.inl q.1), q.2)) 17 [(0, .inr (.inr 148)), (1, .inr (.inr b1)), (2, .inr (.inr 120)), (3, .inl l3)] [] M := by
  intro n
  induction n with
  | zero =>
    intro l3 M q h
    rw [fX3_climb_17] at h
    cases h
  | succ n ih =>
    intro l3 M q h
    rw [fX3_climb_17] at h
    refine zEV.iload_n dX3_climb_17 rfl 3 rfl ?_
    refine zEV.sipush (v := 10240) dX3_climb_18 rfl ?_
    refine zEV.icmp_ge 41 dX3_climb_21 (by decide) (fun c1 => ?_) (fun c1 => ?_)
    · rw [if_pos c1] at h
      refine zEV.sipush (v := 10240) dX3_climb_41 rfl ?_
      have h := Option.some.inj h
      subst h
      exact zEV.iret rfl dX3_climb_44
    · rw [if_neg c1] at h
      refine zEV.aload_n dX3_climb_24 rfl 0 rfl ?_
      refine zEV.aload_n dX3_climb_25 rfl 1 rfl ?_
      refine zEV.aload_n dX3_climb_26 rfl 2 rfl ?_
      obtain ⟨q2, hq2, h⟩ := bind_yes h
      refine zEV.callVi (kX3_findBetter b1 hb1 M q2 hq2) (by decide) rfl rfl wm_RX3_57 wc_X3_findBetter hy_X3_findBetter rfl ⟨Nat.le_of_ble_eq_true rfl, Nat.le_of_ble_eq_true rfl⟩ rfl (Nat.le_of_ble_eq_true rfl) dX3_climb_27 ?_
      refine zEV.if_ne 35 dX3_climb_30 (by decide) (fun c3 => ?_) (fun c3 => ?_)
      · rw [if_neg c3] at h
        refine zEV.iinc (v := (l3 + 1)) dX3_climb_35 3 rfl rfl (Nat.le_of_ble_eq_true rfl) rfl ?_
        refine zEV.goto 17 dX3_climb_38 (by decide) ?_
        exact zEV.perm [1, 2, 3, 0] rfl (ih ((l3 + 1)) q2.2 q h)
      · rw [if_pos c3] at h
        refine zEV.iload_n dX3_climb_33 rfl 3 rfl ?_
        have h := Option.some.inj h
        subst h
        exact zEV.iret rfl dX3_climb_34
def fX3_climb (b1 : Nat) (M : zMM) : Option (Int32 × zMM) :=
  (fX4_set b1 M).bind fun q1 =>
  (fX4_costOf b1 q1).bind fun q2 =>
  (fX3_note b1 (q2.1) q2.2).bind fun q3 =>
  fX3_climb_17 b1 zFU (0) q3
set_option maxRecDepth 100000 in
theorem tX3_climb_0 (b1 : Nat) (hb1 : lf b1) (M : zMM) (q : Int32 × zMM) (h : fX3_climb b1  M = some q) : zEV iX3_climb 0 0 (zZO (some (.inl q.1), q.2)) 0 [(0, .inr (.inr 148)), (1, .inr (.inr b1)), (2, .inr (.inr 120))] [] M := by
  unfold fX3_climb at h
  refine zEV.aload_n dX3_climb_0 rfl 2 rfl ?_
  refine zEV.aload_n dX3_climb_1 rfl 1 rfl ?_
  obtain ⟨q1, hq1, h⟩ := bind_yes h
  refine zEV.callVv (kX4_set b1 hb1 M q1 hq1) (by decide) rfl rfl wm_RX3_36 wc_X4_set hy_X4_set rfl ⟨Nat.le_of_ble_eq_true rfl, Nat.le_of_ble_eq_true rfl⟩ rfl (Nat.le_of_ble_eq_true rfl) dX3_climb_2 ?_
  refine zEV.aload_n dX3_climb_5 rfl 0 rfl ?_
  refine zEV.aload_n dX3_climb_6 rfl 1 rfl ?_
  refine zEV.aload_n dX3_climb_7 rfl 2 rfl ?_
  refine zEV.aload_n dX3_climb_8 rfl 1 rfl ?_
  obtain ⟨q2, hq2, h⟩ := bind_yes h
  refine zEV.callVi (kX4_costOf b1 hb1 q1 q2 hq2) (by decide) rfl rfl wm_RX3_42 wc_X4_costOf hy_X4_costOf rfl ⟨Nat.le_of_ble_eq_true rfl, Nat.le_of_ble_eq_true rfl⟩ rfl (Nat.le_of_ble_eq_true rfl) dX3_climb_9 ?_
  obtain ⟨q3, hq3, h⟩ := bind_yes h
  refine zEV.callVv (kX3_note b1 (q2.1) hb1 q2.2 q3 hq3) (by decide) rfl rfl wm_RX3_46 wc_X3_note hy_X3_note rfl ⟨Nat.le_of_ble_eq_true rfl, Nat.le_of_ble_eq_true rfl⟩ rfl (Nat.le_of_ble_eq_true rfl) dX3_climb_12 ?_
  refine zEV.iconst (v := 0) dX3_climb_15 rfl ?_
  refine zEV.istore_n dX3_climb_16 rfl (Nat.le_of_ble_eq_true rfl) rfl ?_
  exact zEV.perm [1, 2, 3, 0] rfl (tX3_climb_17 b1 hb1 zFU (0) q3 q h)
theorem kX3_climb (b1 : Nat) (hb1 : lf b1) (M : zMM) (q : Int32 × zMM) (h : fX3_climb b1 M = some q) : zCN yX3_climb iX3_climb [.inr (.inr 148), .inr (.inr b1), .inr (.inr 120)] M (some (.inl q.1), q.2) :=
  zCN.of (by decide) rfl rfl (Nat.le_of_ble_eq_true rfl) (zEV.perm [0, 1, 2] rfl (tX3_climb_0 b1 hb1 M q h))
-- RingedPage$Setting.pageCount
def fX4_pageCount (b1 : Nat) (M : zMM) : Option (Int32 × zMM) :=
  (fX0_pageOf b1 ((((M.1 120 0) + (M.1 b1 1)) - 1)) M).bind fun q1 =>
  some (q1.1, q1.2)
set_option maxRecDepth 100000 in
theorem tX4_pageCount_0 (b1 : Nat) (hb1 : lf b1) (M : zMM) (q : Int32 × zMM) (h : fX4_pageCount b1  M = some q) : zEV iX4_pageCount 0 0 (zZO (some (.inl q.1), q.2)) 0 [(0, .inr (.inr 120)), (1, .inr (.inr b1))] [] M := by
  unfold fX4_pageCount at h
  refine zEV.aload_n dX4_pageCount_0 rfl 1 rfl ?_
  refine zEV.aload_n dX4_pageCount_1 rfl 0 rfl ?_
  refine zEV.gfi rfl inz4 0 (by decide) wf_RX4_9 (by decide) rfl rfl dX4_pageCount_2 ?_
  refine zEV.aload_n dX4_pageCount_5 rfl 1 rfl ?_
  refine zEV.gfi rfl inz0 1 (by decide) wf_RX4_58 (lf_lt hb1 0 (by decide)) (lf_shp hb1 0 (by decide)) rfl dX4_pageCount_6 ?_
  refine zEV.iadd dX4_pageCount_9 ?_
  refine zEV.iconst (v := 1) dX4_pageCount_10 rfl ?_
  refine zEV.isub dX4_pageCount_11 ?_
  obtain ⟨q1, hq1, h⟩ := bind_yes h
  refine zEV.callVi (kX0_pageOf b1 ((((M.1 120 0) + (M.1 b1 1)) - 1)) hb1 M q1 hq1) (lf_lt hb1 0 (by decide)) (lf_shp hb1 0 (by decide)) rfl wm_RX4_82 wc_X0_pageOf hy_X0_pageOf rfl ⟨Nat.le_of_ble_eq_true rfl, Nat.le_of_ble_eq_true rfl⟩ rfl (Nat.le_of_ble_eq_true rfl) dX4_pageCount_12 ?_
  have h := Option.some.inj h
  subst h
  exact zEV.iret rfl dX4_pageCount_15
theorem kX4_pageCount (b1 : Nat) (hb1 : lf b1) (M : zMM) (q : Int32 × zMM) (h : fX4_pageCount b1 M = some q) : zCN yX4_pageCount iX4_pageCount [.inr (.inr 120), .inr (.inr b1)] M (some (.inl q.1), q.2) :=
  zCN.of (by decide) rfl rfl (Nat.le_of_ble_eq_true rfl) (zEV.perm [0, 1] rfl (tX4_pageCount_0 b1 hb1 M q h))
-- RingedPage$Setting.takenAt
def fX4_takenAt (a1 : Int32) (a2 : Int32) (M : zMM) : Option (Int32 × zMM) :=
  if (M.1 120 0) ≤ a2 then
    some (0, M)
  else
    if oob (a1) 3 then none else
    if oob (a2) 210 then none else
    some ((M.1 (133 + 1 * Int32.toNatClampNeg a1) (Int32.toNatClampNeg a2)), M)
set_option maxRecDepth 100000 in
theorem tX4_takenAt_0 (a1 : Int32) (a2 : Int32) (M : zMM) (q : Int32 × zMM) (h : fX4_takenAt a1 a2  M = some q) : zEV iX4_takenAt 0 0 (zZO (some (.inl q.1), q.2)) 0 [(0, .inr (.inr 120)), (1, .inl a1), (2, .inl a2)] [] M := by
  unfold fX4_takenAt at h
  refine zEV.iload_n dX4_takenAt_0 rfl 2 rfl ?_
  refine zEV.aload_n dX4_takenAt_1 rfl 0 rfl ?_
  refine zEV.gfi rfl inz4 0 (by decide) wf_RX4_9 (by decide) rfl rfl dX4_takenAt_2 ?_
  refine zEV.icmp_ge 19 dX4_takenAt_5 (by decide) (fun c1 => ?_) (fun c1 => ?_)
  · rw [if_pos c1] at h
    refine zEV.iconst (v := 0) dX4_takenAt_19 rfl ?_
    have h := Option.some.inj h
    subst h
    exact zEV.iret rfl dX4_takenAt_20
  · rw [if_neg c1] at h
    refine zEV.aload_n dX4_takenAt_8 rfl 0 rfl ?_
    refine zEV.gfr rfl inz4 6 (by decide) wf_RX4_33 (by decide) rfl rfl dX4_takenAt_9 ?_
    refine zEV.iload_n dX4_takenAt_12 rfl 1 rfl ?_
    obtain ⟨g2, h⟩ := ite_no h
    refine zEV.aald (by decide) (by decide) rfl g2 dX4_takenAt_13 ?_
    refine zEV.iload_n dX4_takenAt_14 rfl 2 rfl ?_
    obtain ⟨g3, h⟩ := ite_no h
    refine zEV.iald (st_row133 g2).1 (st_row133 g2).2 g3 dX4_takenAt_15 ?_
    refine zEV.goto 20 dX4_takenAt_16 (by decide) ?_
    have h := Option.some.inj h
    subst h
    exact zEV.iret rfl dX4_takenAt_20
theorem kX4_takenAt (a1 : Int32) (a2 : Int32) (M : zMM) (q : Int32 × zMM) (h : fX4_takenAt a1 a2 M = some q) : zCN yX4_takenAt iX4_takenAt [.inr (.inr 120), .inl a1, .inl a2] M (some (.inl q.1), q.2) :=
  zCN.of (by decide) rfl rfl (Nat.le_of_ble_eq_true rfl) (zEV.perm [0, 1, 2] rfl (tX4_takenAt_0 a1 a2 M q h))
-- RingedPage$Setting.columnOf
def fX4_columnOf_133 (b1 : Nat) (a2 : Int32) (a3 : Int32) (l4 : Int32) (l5 : Int32) (l7 : Int32) (M : zMM) : Option (Int32 × zMM) :=
  if oob (a2) 3 then none else
  if oob (l4) 210 then none else
  some ((((M.1 (141 + 1 * Int32.toNatClampNeg a2) (Int32.toNatClampNeg l4)) + l7) + (a3 - l5)), M)
set_option maxRecDepth 100000 in
theorem tX4_columnOf_133 (b1 : Nat) (a2 : Int32) (a3 : Int32) (hb1 : lf b1) (l4 : Int32) (l5 : Int32) (l7 : Int32) (M : zMM) (q : Int32 × zMM) (h : fX4_columnOf_133 b1 a2 a3 l4 l5 l7 M = some q) : zEV iX4_columnOf 0 0 (zZO (some (.inl q.1), q.2)) 133 [(0, .inr (.inr 120)), (2, .inl a2), (3, .inl a3), (4, .inl l4), (5, .inl l5), (7, .inl l7)] [] M := by
  unfold fX4_columnOf_133 at h
  refine zEV.aload_n dX4_columnOf_133 rfl 0 rfl ?_
  refine zEV.gfr rfl inz4 8 (by decide) wf_RX4_39 (by decide) rfl rfl dX4_columnOf_134 ?_
  refine zEV.iload_n dX4_columnOf_137 rfl 1 rfl ?_
  obtain ⟨g1, h⟩ := ite_no h
  refine zEV.aald (by decide) (by decide) rfl g1 dX4_columnOf_138 ?_
  refine zEV.iload dX4_columnOf_139 3 rfl ?_
  obtain ⟨g2, h⟩ := ite_no h
  refine zEV.iald (st_row141 g1).1 (st_row141 g1).2 g2 dX4_columnOf_141 ?_
  refine zEV.iload dX4_columnOf_142 5 rfl ?_
  refine zEV.iadd dX4_columnOf_144 ?_
  refine zEV.iload_n dX4_columnOf_145 rfl 2 rfl ?_
  refine zEV.iload dX4_columnOf_146 4 rfl ?_
  refine zEV.isub dX4_columnOf_148 ?_
  refine zEV.iadd dX4_columnOf_149 ?_
  have h := Option.some.inj h
  subst h
  exact zEV.iret rfl dX4_columnOf_150
def fX4_columnOf_121 (b1 : Nat) (a2 : Int32) (a3 : Int32) (l4 : Int32) (l5 : Int32) (l7 : Int32) (l8 : Int32) (l9 : Int32) (s0 : Int32) (M : zMM) : Option (Int32 × zMM) :=
  if s0 = (0 : Int32) then
    if (0 : Int32) < l9 then
      if oob (a2) 3 then none else
      if oob (l4) 210 then none else
      if l9 = 0 then none else
      if l9 = 0 then none else
      some (((((M.1 (141 + 1 * Int32.toNatClampNeg a2) (Int32.toNatClampNeg l4)) + l7) + ((a3 - l5) * (((M.1 (137 + 1 * Int32.toNatClampNeg a2) (Int32.toNatClampNeg l4)) - l8) / l9))) + (if (((M.1 (137 + 1 * Int32.toNatClampNeg a2) (Int32.toNatClampNeg l4)) - l8) - ((M.1 (137 + 1 * Int32.toNatClampNeg a2) (Int32.toNatClampNeg l4)) - l8) / l9 * l9) < (a3 - l5) then (((M.1 (137 + 1 * Int32.toNatClampNeg a2) (Int32.toNatClampNeg l4)) - l8) - ((M.1 (137 + 1 * Int32.toNatClampNeg a2) (Int32.toNatClampNeg l4)) - l8) / l9 * l9) else (a3 - l5))), M)
    else
      fX4_columnOf_133 b1 a2 a3 (l4) (l5) (l7) M
  else
    fX4_columnOf_133 b1 a2 a3 (l4) (l5) (l7) M
set_option maxRecDepth 100000 in
theorem tX4_columnOf_121 (b1 : Nat) (a2 : Int32) (a3 : Int32) (hb1 : lf b1) (l4 : Int32) (l5 : Int32) (l7 : Int32) (l8 : Int32) (l9 : Int32) (s0 : Int32) (M : zMM) (q : Int32 × zMM) (h : fX4_columnOf_121 b1 a2 a3 l4 l5 l7 l8 l9 s0 M = some q) : zEV iX4_columnOf 0 0 (zZO (some (.inl q.1), q.2)) 121 [(0, .inr (.inr 120)), (2, .inl a2), (3, .inl a3), (4, .inl l4), (5, .inl l5), (7, .inl l7), (8, .inl l8), (9, .inl l9)] [.inl s0] M := by
  unfold fX4_columnOf_121 at h
  refine zEV.istore dX4_columnOf_121 (Nat.le_of_ble_eq_true rfl) rfl ?_
  refine zEV.iload dX4_columnOf_123 0 rfl ?_
  refine zEV.if_ne 133 dX4_columnOf_125 (by decide) (fun c1 => ?_) (fun c1 => ?_)
  · rw [if_neg c1] at h
    exact zEV.perm [1, 2, 3, 4, 5, 6] rfl (tX4_columnOf_133 b1 a2 a3 hb1 (l4) (l5) (l7) M q h)
  · rw [if_pos c1] at h
    refine zEV.iload dX4_columnOf_128 8 rfl ?_
    refine zEV.if_gt 151 dX4_columnOf_130 (by decide) (fun c2 => ?_) (fun c2 => ?_)
    · rw [if_pos c2] at h
      refine zEV.aload_n dX4_columnOf_151 rfl 1 rfl ?_
      refine zEV.gfr rfl inz4 7 (by decide) wf_RX4_36 (by decide) rfl rfl dX4_columnOf_152 ?_
      refine zEV.iload_n dX4_columnOf_155 rfl 2 rfl ?_
      obtain ⟨g3, h⟩ := ite_no h
      refine zEV.aald (by decide) (by decide) rfl g3 dX4_columnOf_156 ?_
      refine zEV.iload dX4_columnOf_157 4 rfl ?_
      obtain ⟨g4, h⟩ := ite_no h
      refine zEV.iald (st_row137 g3).1 (st_row137 g3).2 g4 dX4_columnOf_159 ?_
      refine zEV.iload dX4_columnOf_160 7 rfl ?_
      refine zEV.isub dX4_columnOf_162 ?_
      refine zEV.istore dX4_columnOf_163 (Nat.le_of_ble_eq_true rfl) rfl ?_
      refine zEV.aload_n dX4_columnOf_165 rfl 2 rfl ?_
      refine zEV.gfr rfl inz4 8 (by decide) wf_RX4_39 (by decide) rfl rfl dX4_columnOf_166 ?_
      refine zEV.iload_n dX4_columnOf_169 rfl 3 rfl ?_
      refine zEV.aald (by decide) (by decide) rfl g3 dX4_columnOf_170 ?_
      refine zEV.iload dX4_columnOf_171 5 rfl ?_
      refine zEV.iald (st_row141 g3).1 (st_row141 g3).2 g4 dX4_columnOf_173 ?_
      refine zEV.iload dX4_columnOf_174 7 rfl ?_
      refine zEV.iadd dX4_columnOf_176 ?_
      refine zEV.iload_n dX4_columnOf_177 rfl 4 rfl ?_
      refine zEV.iload dX4_columnOf_178 6 rfl ?_
      refine zEV.isub dX4_columnOf_180 ?_
      refine zEV.iload dX4_columnOf_181 0 rfl ?_
      refine zEV.iload dX4_columnOf_183 9 rfl ?_
      obtain ⟨g5, h⟩ := ite_no h
      refine zEV.idiv dX4_columnOf_185 g5 ?_
      refine zEV.imul dX4_columnOf_186 ?_
      refine zEV.iadd dX4_columnOf_187 ?_
      refine zEV.iload_n dX4_columnOf_188 rfl 4 rfl ?_
      refine zEV.iload dX4_columnOf_189 6 rfl ?_
      refine zEV.isub dX4_columnOf_191 ?_
      refine zEV.iload dX4_columnOf_192 0 rfl ?_
      refine zEV.iload dX4_columnOf_194 9 rfl ?_
      obtain ⟨g6, h⟩ := ite_no h
      refine zEV.irem dX4_columnOf_196 g6 ?_
      refine zEV.mmin wm_RX4_86 wj_min_s wj_math_i wj_min_c ⟨Nat.le_of_ble_eq_true rfl, Nat.le_of_ble_eq_true rfl⟩ dX4_columnOf_197 ?_
      refine zEV.iadd dX4_columnOf_200 ?_
      have h := Option.some.inj h
      subst h
      exact zEV.iret rfl dX4_columnOf_201
    · rw [if_neg c2] at h
      exact zEV.perm [1, 2, 3, 4, 5, 6] rfl (tX4_columnOf_133 b1 a2 a3 hb1 (l4) (l5) (l7) M q h)
def fX4_columnOf_73 (K42 : Int32 → Int32 → Int32 → Int32 → Int32 → Int32 → zMM → Option (Int32 × zMM)) (b1 : Nat) (a2 : Int32) (a3 : Int32) (l4 : Int32) (l5 : Int32) (l6 : Int32) (l8 : Int32) (l9 : Int32) (s0 : Int32) (s1 : Int32) (M : zMM) : Option (Int32 × zMM) :=
  if oob (a2) 3 then none else
  if oob (l9) 70 then none else
  K42 (l4) (l5) (l6) ((s1 + s0)) ((l8 + (M.1 (b1 + 4 + 1 * Int32.toNatClampNeg a2) (Int32.toNatClampNeg l9)))) ((l9 + 1)) M
set_option maxRecDepth 100000 in
theorem tX4_columnOf_73 (K42 : Int32 → Int32 → Int32 → Int32 → Int32 → Int32 → zMM → Option (Int32 × zMM)) (b1 : Nat) (a2 : Int32) (a3 : Int32) (hb1 : lf b1) (hK42 : ∀ (l4 : Int32) (l5 : Int32) (l6 : Int32) (l7 : Int32) (l8 : Int32) (l9 : Int32) (M : zMM) (q : Int32 × zMM), K42 l4 l5 l6 l7 l8 l9 M = some q → zEV iX4_columnOf 0 0 (zZO (some (.inl q.1), q.2)) 42 [(0, .inr (.inr 120)), (1, .inr (.inr b1)), (2, .inl a2), (3, .inl a3), (4, .inl l4), (5, .inl l5), (6, .inl l6), (7, .inl l7), (8, .inl l8), (9, .inl l9)] [] M) (l4 : Int32) (l5 : Int32) (l6 : Int32) (l8 : Int32) (l9 : Int32) (s0 : Int32) (s1 : Int32) (M : zMM) (q : Int32 × zMM) (h : fX4_columnOf_73 K42 b1 a2 a3 l4 l5 l6 l8 l9 s0 s1 M = some q) : zEV iX4_columnOf 0 0 (zZO (some (.inl q.1), q.2)) 73 [(0, .inr (.inr 120)), (1, .inr (.inr b1)), (2, .inl a2), (3, .inl a3), (4, .inl l4), (5, .inl l5), (6, .inl l6), (8, .inl l8), (9, .inl l9)] [.inl s0, .inl s1] M := by
  unfold fX4_columnOf_73 at h
  refine zEV.iadd dX4_columnOf_73 ?_
  refine zEV.istore dX4_columnOf_74 (Nat.le_of_ble_eq_true rfl) rfl ?_
  refine zEV.iload dX4_columnOf_76 8 rfl ?_
  refine zEV.aload_n dX4_columnOf_78 rfl 2 rfl ?_
  refine zEV.gfr rfl inz0 9 (by decide) wf_RX4_79 (lf_lt hb1 0 (by decide)) (lf_shp hb1 0 (by decide)) rfl dX4_columnOf_79 ?_
  refine zEV.iload_n dX4_columnOf_82 rfl 3 rfl ?_
  obtain ⟨g1, h⟩ := ite_no h
  refine zEV.aald (lf_lt hb1 3 (by decide)) (by decide) (lf_shp hb1 3 (by decide)) g1 dX4_columnOf_83 ?_
  refine zEV.iload dX4_columnOf_84 9 rfl ?_
  obtain ⟨g2, h⟩ := ite_no h
  refine zEV.iald (lf_row hb1 g1).1 (lf_row hb1 g1).2 g2 dX4_columnOf_86 ?_
  refine zEV.iadd dX4_columnOf_87 ?_
  refine zEV.istore dX4_columnOf_88 (Nat.le_of_ble_eq_true rfl) rfl ?_
  refine zEV.iinc (v := (l9 + 1)) dX4_columnOf_90 9 rfl rfl (Nat.le_of_ble_eq_true rfl) rfl ?_
  refine zEV.goto 42 dX4_columnOf_93 (by decide) ?_
  exact zEV.perm [3, 4, 5, 6, 7, 8, 9, 2, 1, 0] rfl (hK42 (l4) (l5) (l6) ((s1 + s0)) ((l8 + (M.1 (b1 + 4 + 1 * Int32.toNatClampNeg a2) (Int32.toNatClampNeg l9)))) ((l9 + 1)) M q h)
def fX4_columnOf_42 (b1 : Nat) (a2 : Int32) (a3 : Int32) : Nat → Int32 → Int32 → Int32 → Int32 → Int32 → Int32 → zMM → Option (Int32 × zMM)
  | 0, _, _, _, _, _, _, _ => none
  | n + 1, l4, l5, l6, l7, l8, l9, M =>
  if (l5 + l6) ≤ l9 then
    if oob (a2) 3 then none else
    if (l5 + l6) < (M.1 (b1 + 2) (Int32.toNatClampNeg a2)) then
      fX4_columnOf_121 b1 a2 a3 (l4) (l5) (l7) (l8) ((l6 - 1)) (0) M
    else
      fX4_columnOf_121 b1 a2 a3 (l4) (l5) (l7) (l8) ((l6 - 1)) (1) M
  else
    if a3 ≤ l9 then
      fX4_columnOf_73 (fX4_columnOf_42 b1 a2 a3 n) b1 a2 a3 (l4) (l5) (l6) (l8) (l9) (0) (l7) M
    else
      if oob (a2) 3 then none else
      if oob (l9) 70 then none else
      fX4_columnOf_73 (fX4_columnOf_42 b1 a2 a3 n) b1 a2 a3 (l4) (l5) (l6) (l8) (l9) ((M.1 (b1 + 4 + 1 * Int32.toNatClampNeg a2) (Int32.toNatClampNeg l9))) (l7) M
set_option maxRecDepth 100000 in
theorem tX4_columnOf_42 (b1 : Nat) (a2 : Int32) (a3 : Int32) (hb1 : lf b1) : ∀ (n : Nat) (l4 : Int32) (l5 : Int32) (l6 : Int32) (l7 : Int32) (l8 : Int32) (l9 : Int32) (M : zMM) (q : Int32 × zMM), fX4_columnOf_42 b1 a2 a3 n l4 l5 l6 l7 l8 l9 M = some q → zEV iX4_columnOf 0 0 (zZO (some (.inl q.1), q.2)) 42 [(0, .inr (.inr 120)), (1, .inr (.inr b1)), (2, .inl a2), (3, .inl a3), (4, .inl l4), (5, .inl l5), (6, .inl l6), (7, .inl l7), (8, .inl l8), (9, .inl l9)] [] M := by
  intro n
  induction n with
  | zero =>
    intro l4 l5 l6 l7 l8 l9 M q h
    rw [fX4_columnOf_42] at h
    cases h
  | succ n ih =>
    intro l4 l5 l6 l7 l8 l9 M q h
    rw [fX4_columnOf_42] at h
    refine zEV.iload dX4_columnOf_42 9 rfl ?_
    refine zEV.iload dX4_columnOf_44 5 rfl ?_
    refine zEV.iload dX4_columnOf_46 6 rfl ?_
    refine zEV.iadd dX4_columnOf_48 ?_
    refine zEV.icmp_ge 96 dX4_columnOf_49 (by decide) (fun c1 => ?_) (fun c1 => ?_)
    · rw [if_pos c1] at h
      refine zEV.iload dX4_columnOf_96 6 rfl ?_
      refine zEV.iconst (v := 1) dX4_columnOf_98 rfl ?_
      refine zEV.isub dX4_columnOf_99 ?_
      refine zEV.istore dX4_columnOf_100 (Nat.le_of_ble_eq_true rfl) rfl ?_
      refine zEV.iload dX4_columnOf_102 6 rfl ?_
      refine zEV.iload dX4_columnOf_104 7 rfl ?_
      refine zEV.iadd dX4_columnOf_106 ?_
      refine zEV.aload_n dX4_columnOf_107 rfl 2 rfl ?_
      refine zEV.gfr rfl inz0 8 (by decide) wf_RX4_61 (lf_lt hb1 0 (by decide)) (lf_shp hb1 0 (by decide)) rfl dX4_columnOf_108 ?_
      refine zEV.iload_n dX4_columnOf_111 rfl 3 rfl ?_
      obtain ⟨g2, h⟩ := ite_no h
      refine zEV.iald (lf_lt hb1 2 (by decide)) (lf_shp hb1 2 (by decide)) g2 dX4_columnOf_112 ?_
      refine zEV.icmp_lt 120 dX4_columnOf_113 (by decide) (fun c3 => ?_) (fun c3 => ?_)
      · rw [if_pos c3] at h
        refine zEV.iconst (v := 0) dX4_columnOf_120 rfl ?_
        exact zEV.perm [1, 3, 4, 5, 6, 8, 9, 0] rfl (tX4_columnOf_121 b1 a2 a3 hb1 (l4) (l5) (l7) (l8) ((l6 - 1)) (0) M q h)
      · rw [if_neg c3] at h
        refine zEV.iconst (v := 1) dX4_columnOf_116 rfl ?_
        refine zEV.goto 121 dX4_columnOf_117 (by decide) ?_
        exact zEV.perm [1, 3, 4, 5, 6, 8, 9, 0] rfl (tX4_columnOf_121 b1 a2 a3 hb1 (l4) (l5) (l7) (l8) ((l6 - 1)) (1) M q h)
    · rw [if_neg c1] at h
      refine zEV.iload dX4_columnOf_52 7 rfl ?_
      refine zEV.iload dX4_columnOf_54 9 rfl ?_
      refine zEV.iload_n dX4_columnOf_56 rfl 3 rfl ?_
      refine zEV.icmp_ge 72 dX4_columnOf_57 (by decide) (fun c4 => ?_) (fun c4 => ?_)
      · rw [if_pos c4] at h
        refine zEV.iconst (v := 0) dX4_columnOf_72 rfl ?_
        exact zEV.perm [0, 1, 2, 3, 4, 5, 6, 8, 9] rfl (tX4_columnOf_73 (fX4_columnOf_42 b1 a2 a3 n) b1 a2 a3 hb1 (fun l4 l5 l6 l7 l8 l9 M9 q9 h9 => ih l4 l5 l6 l7 l8 l9 M9 q9 h9) (l4) (l5) (l6) (l8) (l9) (0) (l7) M q h)
      · rw [if_neg c4] at h
        refine zEV.aload_n dX4_columnOf_60 rfl 1 rfl ?_
        refine zEV.gfr rfl inz0 9 (by decide) wf_RX4_79 (lf_lt hb1 0 (by decide)) (lf_shp hb1 0 (by decide)) rfl dX4_columnOf_61 ?_
        refine zEV.iload_n dX4_columnOf_64 rfl 2 rfl ?_
        obtain ⟨g5, h⟩ := ite_no h
        refine zEV.aald (lf_lt hb1 3 (by decide)) (by decide) (lf_shp hb1 3 (by decide)) g5 dX4_columnOf_65 ?_
        refine zEV.iload dX4_columnOf_66 9 rfl ?_
        obtain ⟨g6, h⟩ := ite_no h
        refine zEV.iald (lf_row hb1 g5).1 (lf_row hb1 g5).2 g6 dX4_columnOf_68 ?_
        refine zEV.goto 73 dX4_columnOf_69 (by decide) ?_
        exact zEV.perm [0, 1, 2, 3, 4, 5, 6, 8, 9] rfl (tX4_columnOf_73 (fX4_columnOf_42 b1 a2 a3 n) b1 a2 a3 hb1 (fun l4 l5 l6 l7 l8 l9 M9 q9 h9 => ih l4 l5 l6 l7 l8 l9 M9 q9 h9) (l4) (l5) (l6) (l8) (l9) ((M.1 (b1 + 4 + 1 * Int32.toNatClampNeg a2) (Int32.toNatClampNeg l9))) (l7) M q h)
def fX4_columnOf (b1 : Nat) (a2 : Int32) (a3 : Int32) (M : zMM) : Option (Int32 × zMM) :=
  if oob (a2) 3 then none else
  if oob (a3) 70 then none else
  if oob ((M.1 (125 + 1 * Int32.toNatClampNeg a2) (Int32.toNatClampNeg a3))) 210 then none else
  fX4_columnOf_42 b1 a2 a3 zFU ((M.1 (125 + 1 * Int32.toNatClampNeg a2) (Int32.toNatClampNeg a3))) ((M.1 (129 + 1 * Int32.toNatClampNeg a2) (Int32.toNatClampNeg (M.1 (125 + 1 * Int32.toNatClampNeg a2) (Int32.toNatClampNeg a3))))) ((M.1 (133 + 1 * Int32.toNatClampNeg a2) (Int32.toNatClampNeg (M.1 (125 + 1 * Int32.toNatClampNeg a2) (Int32.toNatClampNeg a3))))) (0) (0) ((M.1 (129 + 1 * Int32.toNatClampNeg a2) (Int32.toNatClampNeg (M.1 (125 + 1 * Int32.toNatClampNeg a2) (Int32.toNatClampNeg a3))))) M
set_option maxRecDepth 100000 in
theorem tX4_columnOf_0 (b1 : Nat) (a2 : Int32) (a3 : Int32) (hb1 : lf b1) (M : zMM) (q : Int32 × zMM) (h : fX4_columnOf b1 a2 a3  M = some q) : zEV iX4_columnOf 0 0 (zZO (some (.inl q.1), q.2)) 0 [(0, .inr (.inr 120)), (1, .inr (.inr b1)), (2, .inl a2), (3, .inl a3)] [] M := by
  unfold fX4_columnOf at h
  refine zEV.aload_n dX4_columnOf_0 rfl 0 rfl ?_
  refine zEV.gfr rfl inz4 4 (by decide) wf_RX4_27 (by decide) rfl rfl dX4_columnOf_1 ?_
  refine zEV.iload_n dX4_columnOf_4 rfl 2 rfl ?_
  obtain ⟨g1, h⟩ := ite_no h
  refine zEV.aald (by decide) (by decide) rfl g1 dX4_columnOf_5 ?_
  refine zEV.iload_n dX4_columnOf_6 rfl 3 rfl ?_
  obtain ⟨g2, h⟩ := ite_no h
  refine zEV.iald (st_row125 g1).1 (st_row125 g1).2 g2 dX4_columnOf_7 ?_
  refine zEV.istore dX4_columnOf_8 (Nat.le_of_ble_eq_true rfl) rfl ?_
  refine zEV.aload_n dX4_columnOf_10 rfl 1 rfl ?_
  refine zEV.gfr rfl inz4 5 (by decide) wf_RX4_30 (by decide) rfl rfl dX4_columnOf_11 ?_
  refine zEV.iload_n dX4_columnOf_14 rfl 3 rfl ?_
  refine zEV.aald (by decide) (by decide) rfl g1 dX4_columnOf_15 ?_
  refine zEV.iload dX4_columnOf_16 0 rfl ?_
  obtain ⟨g3, h⟩ := ite_no h
  refine zEV.iald (st_row129 g1).1 (st_row129 g1).2 g3 dX4_columnOf_18 ?_
  refine zEV.istore dX4_columnOf_19 (Nat.le_of_ble_eq_true rfl) rfl ?_
  refine zEV.aload_n dX4_columnOf_21 rfl 2 rfl ?_
  refine zEV.gfr rfl inz4 6 (by decide) wf_RX4_33 (by decide) rfl rfl dX4_columnOf_22 ?_
  refine zEV.iload_n dX4_columnOf_25 rfl 4 rfl ?_
  refine zEV.aald (by decide) (by decide) rfl g1 dX4_columnOf_26 ?_
  refine zEV.iload dX4_columnOf_27 1 rfl ?_
  refine zEV.iald (st_row133 g1).1 (st_row133 g1).2 g3 dX4_columnOf_29 ?_
  refine zEV.istore dX4_columnOf_30 (Nat.le_of_ble_eq_true rfl) rfl ?_
  refine zEV.iconst (v := 0) dX4_columnOf_32 rfl ?_
  refine zEV.istore dX4_columnOf_33 (Nat.le_of_ble_eq_true rfl) rfl ?_
  refine zEV.iconst (v := 0) dX4_columnOf_35 rfl ?_
  refine zEV.istore dX4_columnOf_36 (Nat.le_of_ble_eq_true rfl) rfl ?_
  refine zEV.iload dX4_columnOf_38 3 rfl ?_
  refine zEV.istore dX4_columnOf_40 (Nat.le_of_ble_eq_true rfl) rfl ?_
  exact zEV.perm [6, 7, 8, 9, 5, 4, 3, 2, 1, 0] rfl (tX4_columnOf_42 b1 a2 a3 hb1 zFU ((M.1 (125 + 1 * Int32.toNatClampNeg a2) (Int32.toNatClampNeg a3))) ((M.1 (129 + 1 * Int32.toNatClampNeg a2) (Int32.toNatClampNeg (M.1 (125 + 1 * Int32.toNatClampNeg a2) (Int32.toNatClampNeg a3))))) ((M.1 (133 + 1 * Int32.toNatClampNeg a2) (Int32.toNatClampNeg (M.1 (125 + 1 * Int32.toNatClampNeg a2) (Int32.toNatClampNeg a3))))) (0) (0) ((M.1 (129 + 1 * Int32.toNatClampNeg a2) (Int32.toNatClampNeg (M.1 (125 + 1 * Int32.toNatClampNeg a2) (Int32.toNatClampNeg a3))))) M q h)
theorem kX4_columnOf (b1 : Nat) (a2 : Int32) (a3 : Int32) (hb1 : lf b1) (M : zMM) (q : Int32 × zMM) (h : fX4_columnOf b1 a2 a3 M = some q) : zCN yX4_columnOf iX4_columnOf [.inr (.inr 120), .inr (.inr b1), .inl a2, .inl a3] M (some (.inl q.1), q.2) :=
  zCN.of (by decide) rfl rfl (Nat.le_of_ble_eq_true rfl) (zEV.perm [0, 1, 2, 3] rfl (tX4_columnOf_0 b1 a2 a3 hb1 M q h))
-- RingedPage$Setting.firstToEnd
def fX4_firstToEnd_38 (K4 : Int32 → Int32 → zMM → Option (Int32 × zMM)) (b1 : Nat) (l2 : Int32) (l3 : Int32) (M : zMM) : Option (Int32 × zMM) :=
  K4 (l2) ((l3 + (-1))) M
set_option maxRecDepth 100000 in
theorem tX4_firstToEnd_38 (K4 : Int32 → Int32 → zMM → Option (Int32 × zMM)) (b1 : Nat) (hb1 : lf b1) (hK4 : ∀ (l2 : Int32) (l3 : Int32) (M : zMM) (q : Int32 × zMM), K4 l2 l3 M = some q → zEV iX4_firstToEnd 0 0 (zZO (some (.inl q.1), q.2)) 4 [(0, .inr (.inr 120)), (1, .inr (.inr b1)), (2, .inl l2), (3, .inl l3)] [] M) (l2 : Int32) (l3 : Int32) (M : zMM) (q : Int32 × zMM) (h : fX4_firstToEnd_38 K4 b1 l2 l3 M = some q) : zEV iX4_firstToEnd 0 0 (zZO (some (.inl q.1), q.2)) 38 [(0, .inr (.inr 120)), (1, .inr (.inr b1)), (2, .inl l2), (3, .inl l3)] [] M := by
  unfold fX4_firstToEnd_38 at h
  refine zEV.iinc (v := (l3 + (-1))) dX4_firstToEnd_38 3 rfl rfl (Nat.le_of_ble_eq_true rfl) rfl ?_
  refine zEV.goto 4 dX4_firstToEnd_41 (by decide) ?_
  exact zEV.perm [1, 2, 3, 0] rfl (hK4 (l2) ((l3 + (-1))) M q h)
def fX4_firstToEnd_36 (K4 : Int32 → Int32 → zMM → Option (Int32 × zMM)) (b1 : Nat) (l3 : Int32) (M : zMM) : Option (Int32 × zMM) :=
  fX4_firstToEnd_38 K4 b1 (l3) (l3) M
set_option maxRecDepth 100000 in
theorem tX4_firstToEnd_36 (K4 : Int32 → Int32 → zMM → Option (Int32 × zMM)) (b1 : Nat) (hb1 : lf b1) (hK4 : ∀ (l2 : Int32) (l3 : Int32) (M : zMM) (q : Int32 × zMM), K4 l2 l3 M = some q → zEV iX4_firstToEnd 0 0 (zZO (some (.inl q.1), q.2)) 4 [(0, .inr (.inr 120)), (1, .inr (.inr b1)), (2, .inl l2), (3, .inl l3)] [] M) (l3 : Int32) (M : zMM) (q : Int32 × zMM) (h : fX4_firstToEnd_36 K4 b1 l3 M = some q) : zEV iX4_firstToEnd 0 0 (zZO (some (.inl q.1), q.2)) 36 [(0, .inr (.inr 120)), (1, .inr (.inr b1)), (3, .inl l3)] [] M := by
  unfold fX4_firstToEnd_36 at h
  refine zEV.iload_n dX4_firstToEnd_36 rfl 2 rfl ?_
  refine zEV.istore_n dX4_firstToEnd_37 rfl (Nat.le_of_ble_eq_true rfl) rfl ?_
  exact zEV.perm [1, 2, 0, 3] rfl (tX4_firstToEnd_38 K4 b1 hb1 hK4 (l3) (l3) M q h)
def fX4_firstToEnd_4 (b1 : Nat) : Nat → Int32 → Int32 → zMM → Option (Int32 × zMM)
  | 0, _, _, _ => none
  | n + 1, l2, l3, M =>
  if l3 < (0 : Int32) then
    some (l2, M)
  else
    if oob (l3) 3 then none else
    if (M.1 (b1 + 2) (Int32.toNatClampNeg l3)) ≤ (0 : Int32) then
      fX4_firstToEnd_38 (fX4_firstToEnd_4 b1 n) b1 (l2) (l3) M
    else
      if l2 < (0 : Int32) then
        fX4_firstToEnd_36 (fX4_firstToEnd_4 b1 n) b1 (l3) M
      else
        (fX4_endOf b1 (l3) M).bind fun q5 =>
        (fX4_endOf b1 (l2) q5.2).bind fun q6 =>
        if q6.1 < q5.1 then
          fX4_firstToEnd_38 (fX4_firstToEnd_4 b1 n) b1 (l2) (l3) q6.2
        else
          fX4_firstToEnd_36 (fX4_firstToEnd_4 b1 n) b1 (l3) q6.2
set_option maxRecDepth 100000 in
theorem tX4_firstToEnd_4 (b1 : Nat) (hb1 : lf b1) : ∀ (n : Nat) (l2 : Int32) (l3 : Int32) (M : zMM) (q : Int32 × zMM), fX4_firstToEnd_4 b1 n l2 l3 M = some q → zEV iX4_firstToEnd 0 0 (zZO (some (.inl q.1), q.2)) 4 [(0, .inr (.inr 120)), (1, .inr (.inr b1)), (2, .inl l2), (3, .inl l3)] [] M := by
  intro n
  induction n with
  | zero =>
    intro l2 l3 M q h
    rw [fX4_firstToEnd_4] at h
    cases h
  | succ n ih =>
    intro l2 l3 M q h
    rw [fX4_firstToEnd_4] at h
    refine zEV.iload_n dX4_firstToEnd_4 rfl 3 rfl ?_
    refine zEV.if_lt 44 dX4_firstToEnd_5 (by decide) (fun c1 => ?_) (fun c1 => ?_)
    · rw [if_pos c1] at h
      refine zEV.iload_n dX4_firstToEnd_44 rfl 2 rfl ?_
      have h := Option.some.inj h
      subst h
      exact zEV.iret rfl dX4_firstToEnd_45
    · rw [if_neg c1] at h
      refine zEV.aload_n dX4_firstToEnd_8 rfl 1 rfl ?_
      refine zEV.gfr rfl inz0 8 (by decide) wf_RX4_61 (lf_lt hb1 0 (by decide)) (lf_shp hb1 0 (by decide)) rfl dX4_firstToEnd_9 ?_
      refine zEV.iload_n dX4_firstToEnd_12 rfl 3 rfl ?_
      obtain ⟨g2, h⟩ := ite_no h
      refine zEV.iald (lf_lt hb1 2 (by decide)) (lf_shp hb1 2 (by decide)) g2 dX4_firstToEnd_13 ?_
      refine zEV.if_le 38 dX4_firstToEnd_14 (by decide) (fun c3 => ?_) (fun c3 => ?_)
      · rw [if_pos c3] at h
        exact zEV.perm [0, 1, 2, 3] rfl (tX4_firstToEnd_38 (fX4_firstToEnd_4 b1 n) b1 hb1 (fun l2 l3 M9 q9 h9 => ih l2 l3 M9 q9 h9) (l2) (l3) M q h)
      · rw [if_neg c3] at h
        refine zEV.iload_n dX4_firstToEnd_17 rfl 2 rfl ?_
        refine zEV.if_lt 36 dX4_firstToEnd_18 (by decide) (fun c4 => ?_) (fun c4 => ?_)
        · rw [if_pos c4] at h
          exact zEV.perm [0, 1, 3] rfl (tX4_firstToEnd_36 (fX4_firstToEnd_4 b1 n) b1 hb1 (fun l2 l3 M9 q9 h9 => ih l2 l3 M9 q9 h9) (l3) M q h)
        · rw [if_neg c4] at h
          refine zEV.aload_n dX4_firstToEnd_21 rfl 0 rfl ?_
          refine zEV.aload_n dX4_firstToEnd_22 rfl 1 rfl ?_
          refine zEV.iload_n dX4_firstToEnd_23 rfl 3 rfl ?_
          obtain ⟨q5, hq5, h⟩ := bind_yes h
          refine zEV.callVi (kX4_endOf b1 (l3) hb1 M q5 hq5) (by decide) rfl rfl wm_RX4_92 wc_X4_endOf hy_X4_endOf rfl ⟨Nat.le_of_ble_eq_true rfl, Nat.le_of_ble_eq_true rfl⟩ rfl (Nat.le_of_ble_eq_true rfl) dX4_firstToEnd_24 ?_
          refine zEV.aload_n dX4_firstToEnd_27 rfl 0 rfl ?_
          refine zEV.aload_n dX4_firstToEnd_28 rfl 1 rfl ?_
          refine zEV.iload_n dX4_firstToEnd_29 rfl 2 rfl ?_
          obtain ⟨q6, hq6, h⟩ := bind_yes h
          refine zEV.callVi (kX4_endOf b1 (l2) hb1 q5.2 q6 hq6) (by decide) rfl rfl wm_RX4_92 wc_X4_endOf hy_X4_endOf rfl ⟨Nat.le_of_ble_eq_true rfl, Nat.le_of_ble_eq_true rfl⟩ rfl (Nat.le_of_ble_eq_true rfl) dX4_firstToEnd_30 ?_
          refine zEV.icmp_gt 38 dX4_firstToEnd_33 (by decide) (fun c7 => ?_) (fun c7 => ?_)
          · rw [if_pos c7] at h
            exact zEV.perm [0, 1, 2, 3] rfl (tX4_firstToEnd_38 (fX4_firstToEnd_4 b1 n) b1 hb1 (fun l2 l3 M9 q9 h9 => ih l2 l3 M9 q9 h9) (l2) (l3) q6.2 q h)
          · rw [if_neg c7] at h
            exact zEV.perm [0, 1, 3] rfl (tX4_firstToEnd_36 (fX4_firstToEnd_4 b1 n) b1 hb1 (fun l2 l3 M9 q9 h9 => ih l2 l3 M9 q9 h9) (l3) q6.2 q h)
def fX4_firstToEnd (b1 : Nat) (M : zMM) : Option (Int32 × zMM) :=
  fX4_firstToEnd_4 b1 zFU ((-1)) (2) M
set_option maxRecDepth 100000 in
theorem tX4_firstToEnd_0 (b1 : Nat) (hb1 : lf b1) (M : zMM) (q : Int32 × zMM) (h : fX4_firstToEnd b1  M = some q) : zEV iX4_firstToEnd 0 0 (zZO (some (.inl q.1), q.2)) 0 [(0, .inr (.inr 120)), (1, .inr (.inr b1))] [] M := by
  unfold fX4_firstToEnd at h
  refine zEV.iconst (v := (-1)) dX4_firstToEnd_0 rfl ?_
  refine zEV.istore_n dX4_firstToEnd_1 rfl (Nat.le_of_ble_eq_true rfl) rfl ?_
  refine zEV.iconst (v := 2) dX4_firstToEnd_2 rfl ?_
  refine zEV.istore_n dX4_firstToEnd_3 rfl (Nat.le_of_ble_eq_true rfl) rfl ?_
  exact zEV.perm [2, 3, 1, 0] rfl (tX4_firstToEnd_4 b1 hb1 zFU ((-1)) (2) M q h)
theorem kX4_firstToEnd (b1 : Nat) (hb1 : lf b1) (M : zMM) (q : Int32 × zMM) (h : fX4_firstToEnd b1 M = some q) : zCN yX4_firstToEnd iX4_firstToEnd [.inr (.inr 120), .inr (.inr b1)] M (some (.inl q.1), q.2) :=
  zCN.of (by decide) rfl rfl (Nat.le_of_ble_eq_true rfl) (zEV.perm [0, 1] rfl (tX4_firstToEnd_0 b1 hb1 M q h))
-- RingedPage$Setting.lastToEnd
def fX4_lastToEnd_38 (K4 : Int32 → Int32 → zMM → Option (Int32 × zMM)) (b1 : Nat) (l2 : Int32) (l3 : Int32) (M : zMM) : Option (Int32 × zMM) :=
  K4 (l2) ((l3 + (-1))) M
set_option maxRecDepth 100000 in
theorem tX4_lastToEnd_38 (K4 : Int32 → Int32 → zMM → Option (Int32 × zMM)) (b1 : Nat) (hb1 : lf b1) (hK4 : ∀ (l2 : Int32) (l3 : Int32) (M : zMM) (q : Int32 × zMM), K4 l2 l3 M = some q → zEV iX4_lastToEnd 0 0 (zZO (some (.inl q.1), q.2)) 4 [(0, .inr (.inr 120)), (1, .inr (.inr b1)), (2, .inl l2), (3, .inl l3)] [] M) (l2 : Int32) (l3 : Int32) (M : zMM) (q : Int32 × zMM) (h : fX4_lastToEnd_38 K4 b1 l2 l3 M = some q) : zEV iX4_lastToEnd 0 0 (zZO (some (.inl q.1), q.2)) 38 [(0, .inr (.inr 120)), (1, .inr (.inr b1)), (2, .inl l2), (3, .inl l3)] [] M := by
  unfold fX4_lastToEnd_38 at h
  refine zEV.iinc (v := (l3 + (-1))) dX4_lastToEnd_38 3 rfl rfl (Nat.le_of_ble_eq_true rfl) rfl ?_
  refine zEV.goto 4 dX4_lastToEnd_41 (by decide) ?_
  exact zEV.perm [1, 2, 3, 0] rfl (hK4 (l2) ((l3 + (-1))) M q h)
def fX4_lastToEnd_36 (K4 : Int32 → Int32 → zMM → Option (Int32 × zMM)) (b1 : Nat) (l3 : Int32) (M : zMM) : Option (Int32 × zMM) :=
  fX4_lastToEnd_38 K4 b1 (l3) (l3) M
set_option maxRecDepth 100000 in
theorem tX4_lastToEnd_36 (K4 : Int32 → Int32 → zMM → Option (Int32 × zMM)) (b1 : Nat) (hb1 : lf b1) (hK4 : ∀ (l2 : Int32) (l3 : Int32) (M : zMM) (q : Int32 × zMM), K4 l2 l3 M = some q → zEV iX4_lastToEnd 0 0 (zZO (some (.inl q.1), q.2)) 4 [(0, .inr (.inr 120)), (1, .inr (.inr b1)), (2, .inl l2), (3, .inl l3)] [] M) (l3 : Int32) (M : zMM) (q : Int32 × zMM) (h : fX4_lastToEnd_36 K4 b1 l3 M = some q) : zEV iX4_lastToEnd 0 0 (zZO (some (.inl q.1), q.2)) 36 [(0, .inr (.inr 120)), (1, .inr (.inr b1)), (3, .inl l3)] [] M := by
  unfold fX4_lastToEnd_36 at h
  refine zEV.iload_n dX4_lastToEnd_36 rfl 2 rfl ?_
  refine zEV.istore_n dX4_lastToEnd_37 rfl (Nat.le_of_ble_eq_true rfl) rfl ?_
  exact zEV.perm [1, 2, 0, 3] rfl (tX4_lastToEnd_38 K4 b1 hb1 hK4 (l3) (l3) M q h)
def fX4_lastToEnd_4 (b1 : Nat) : Nat → Int32 → Int32 → zMM → Option (Int32 × zMM)
  | 0, _, _, _ => none
  | n + 1, l2, l3, M =>
  if l3 < (0 : Int32) then
    some (l2, M)
  else
    if oob (l3) 3 then none else
    if (M.1 (b1 + 2) (Int32.toNatClampNeg l3)) ≤ (0 : Int32) then
      fX4_lastToEnd_38 (fX4_lastToEnd_4 b1 n) b1 (l2) (l3) M
    else
      if l2 < (0 : Int32) then
        fX4_lastToEnd_36 (fX4_lastToEnd_4 b1 n) b1 (l3) M
      else
        (fX4_endOf b1 (l3) M).bind fun q5 =>
        (fX4_endOf b1 (l2) q5.2).bind fun q6 =>
        if q5.1 < q6.1 then
          fX4_lastToEnd_38 (fX4_lastToEnd_4 b1 n) b1 (l2) (l3) q6.2
        else
          fX4_lastToEnd_36 (fX4_lastToEnd_4 b1 n) b1 (l3) q6.2
set_option maxRecDepth 100000 in
theorem tX4_lastToEnd_4 (b1 : Nat) (hb1 : lf b1) : ∀ (n : Nat) (l2 : Int32) (l3 : Int32) (M : zMM) (q : Int32 × zMM), fX4_lastToEnd_4 b1 n l2 l3 M = some q → zEV iX4_lastToEnd 0 0 (zZO (some (.inl q.1), q.2)) 4 [(0, .inr (.inr 120)), (1, .inr (.inr b1)), (2, .inl l2), (3, .inl l3)] [] M := by
  intro n
  induction n with
  | zero =>
    intro l2 l3 M q h
    rw [fX4_lastToEnd_4] at h
    cases h
  | succ n ih =>
    intro l2 l3 M q h
    rw [fX4_lastToEnd_4] at h
    refine zEV.iload_n dX4_lastToEnd_4 rfl 3 rfl ?_
    refine zEV.if_lt 44 dX4_lastToEnd_5 (by decide) (fun c1 => ?_) (fun c1 => ?_)
    · rw [if_pos c1] at h
      refine zEV.iload_n dX4_lastToEnd_44 rfl 2 rfl ?_
      have h := Option.some.inj h
      subst h
      exact zEV.iret rfl dX4_lastToEnd_45
    · rw [if_neg c1] at h
      refine zEV.aload_n dX4_lastToEnd_8 rfl 1 rfl ?_
      refine zEV.gfr rfl inz0 8 (by decide) wf_RX4_61 (lf_lt hb1 0 (by decide)) (lf_shp hb1 0 (by decide)) rfl dX4_lastToEnd_9 ?_
      refine zEV.iload_n dX4_lastToEnd_12 rfl 3 rfl ?_
      obtain ⟨g2, h⟩ := ite_no h
      refine zEV.iald (lf_lt hb1 2 (by decide)) (lf_shp hb1 2 (by decide)) g2 dX4_lastToEnd_13 ?_
      refine zEV.if_le 38 dX4_lastToEnd_14 (by decide) (fun c3 => ?_) (fun c3 => ?_)
      · rw [if_pos c3] at h
        exact zEV.perm [0, 1, 2, 3] rfl (tX4_lastToEnd_38 (fX4_lastToEnd_4 b1 n) b1 hb1 (fun l2 l3 M9 q9 h9 => ih l2 l3 M9 q9 h9) (l2) (l3) M q h)
      · rw [if_neg c3] at h
        refine zEV.iload_n dX4_lastToEnd_17 rfl 2 rfl ?_
        refine zEV.if_lt 36 dX4_lastToEnd_18 (by decide) (fun c4 => ?_) (fun c4 => ?_)
        · rw [if_pos c4] at h
          exact zEV.perm [0, 1, 3] rfl (tX4_lastToEnd_36 (fX4_lastToEnd_4 b1 n) b1 hb1 (fun l2 l3 M9 q9 h9 => ih l2 l3 M9 q9 h9) (l3) M q h)
        · rw [if_neg c4] at h
          refine zEV.aload_n dX4_lastToEnd_21 rfl 0 rfl ?_
          refine zEV.aload_n dX4_lastToEnd_22 rfl 1 rfl ?_
          refine zEV.iload_n dX4_lastToEnd_23 rfl 3 rfl ?_
          obtain ⟨q5, hq5, h⟩ := bind_yes h
          refine zEV.callVi (kX4_endOf b1 (l3) hb1 M q5 hq5) (by decide) rfl rfl wm_RX4_92 wc_X4_endOf hy_X4_endOf rfl ⟨Nat.le_of_ble_eq_true rfl, Nat.le_of_ble_eq_true rfl⟩ rfl (Nat.le_of_ble_eq_true rfl) dX4_lastToEnd_24 ?_
          refine zEV.aload_n dX4_lastToEnd_27 rfl 0 rfl ?_
          refine zEV.aload_n dX4_lastToEnd_28 rfl 1 rfl ?_
          refine zEV.iload_n dX4_lastToEnd_29 rfl 2 rfl ?_
          obtain ⟨q6, hq6, h⟩ := bind_yes h
          refine zEV.callVi (kX4_endOf b1 (l2) hb1 q5.2 q6 hq6) (by decide) rfl rfl wm_RX4_92 wc_X4_endOf hy_X4_endOf rfl ⟨Nat.le_of_ble_eq_true rfl, Nat.le_of_ble_eq_true rfl⟩ rfl (Nat.le_of_ble_eq_true rfl) dX4_lastToEnd_30 ?_
          refine zEV.icmp_lt 38 dX4_lastToEnd_33 (by decide) (fun c7 => ?_) (fun c7 => ?_)
          · rw [if_pos c7] at h
            exact zEV.perm [0, 1, 2, 3] rfl (tX4_lastToEnd_38 (fX4_lastToEnd_4 b1 n) b1 hb1 (fun l2 l3 M9 q9 h9 => ih l2 l3 M9 q9 h9) (l2) (l3) q6.2 q h)
          · rw [if_neg c7] at h
            exact zEV.perm [0, 1, 3] rfl (tX4_lastToEnd_36 (fX4_lastToEnd_4 b1 n) b1 hb1 (fun l2 l3 M9 q9 h9 => ih l2 l3 M9 q9 h9) (l3) q6.2 q h)
def fX4_lastToEnd (b1 : Nat) (M : zMM) : Option (Int32 × zMM) :=
  fX4_lastToEnd_4 b1 zFU ((-1)) (2) M
set_option maxRecDepth 100000 in
theorem tX4_lastToEnd_0 (b1 : Nat) (hb1 : lf b1) (M : zMM) (q : Int32 × zMM) (h : fX4_lastToEnd b1  M = some q) : zEV iX4_lastToEnd 0 0 (zZO (some (.inl q.1), q.2)) 0 [(0, .inr (.inr 120)), (1, .inr (.inr b1))] [] M := by
  unfold fX4_lastToEnd at h
  refine zEV.iconst (v := (-1)) dX4_lastToEnd_0 rfl ?_
  refine zEV.istore_n dX4_lastToEnd_1 rfl (Nat.le_of_ble_eq_true rfl) rfl ?_
  refine zEV.iconst (v := 2) dX4_lastToEnd_2 rfl ?_
  refine zEV.istore_n dX4_lastToEnd_3 rfl (Nat.le_of_ble_eq_true rfl) rfl ?_
  exact zEV.perm [2, 3, 1, 0] rfl (tX4_lastToEnd_4 b1 hb1 zFU ((-1)) (2) M q h)
theorem kX4_lastToEnd (b1 : Nat) (hb1 : lf b1) (M : zMM) (q : Int32 × zMM) (h : fX4_lastToEnd b1 M = some q) : zCN yX4_lastToEnd iX4_lastToEnd [.inr (.inr 120), .inr (.inr b1)] M (some (.inl q.1), q.2) :=
  zCN.of (by decide) rfl rfl (Nat.le_of_ble_eq_true rfl) (zEV.perm [0, 1] rfl (tX4_lastToEnd_0 b1 hb1 M q h))
-- RingedPage$Setting.lettersFrom
def fX4_lettersFrom_55 (K5 : Int32 → Int32 → zMM → Option (Int32 × zMM)) (K14 : Int32 → Int32 → Int32 → zMM → Option (Int32 × zMM)) (b1 : Nat) (a2 : Int32) (l4 : Int32) (l5 : Int32) (s0 : Int32) (s1 : Int32) (M : zMM) : Option (Int32 × zMM) :=
  K14 ((s1 + s0)) (l4) ((l5 + 1)) M
set_option maxRecDepth 100000 in
theorem tX4_lettersFrom_55 (K5 : Int32 → Int32 → zMM → Option (Int32 × zMM)) (K14 : Int32 → Int32 → Int32 → zMM → Option (Int32 × zMM)) (b1 : Nat) (a2 : Int32) (hb1 : lf b1) (hK5 : ∀ (l3 : Int32) (l4 : Int32) (M : zMM) (q : Int32 × zMM), K5 l3 l4 M = some q → zEV iX4_lettersFrom 0 0 (zZO (some (.inl q.1), q.2)) 5 [(0, .inr (.inr 120)), (1, .inr (.inr b1)), (2, .inl a2), (3, .inl l3), (4, .inl l4)] [] M) (hK14 : ∀ (l3 : Int32) (l4 : Int32) (l5 : Int32) (M : zMM) (q : Int32 × zMM), K14 l3 l4 l5 M = some q → zEV iX4_lettersFrom 0 0 (zZO (some (.inl q.1), q.2)) 14 [(0, .inr (.inr 120)), (1, .inr (.inr b1)), (2, .inl a2), (3, .inl l3), (4, .inl l4), (5, .inl l5)] [] M) (l4 : Int32) (l5 : Int32) (s0 : Int32) (s1 : Int32) (M : zMM) (q : Int32 × zMM) (h : fX4_lettersFrom_55 K5 K14 b1 a2 l4 l5 s0 s1 M = some q) : zEV iX4_lettersFrom 0 0 (zZO (some (.inl q.1), q.2)) 55 [(0, .inr (.inr 120)), (1, .inr (.inr b1)), (2, .inl a2), (4, .inl l4), (5, .inl l5)] [.inl s0, .inl s1] M := by
  unfold fX4_lettersFrom_55 at h
  refine zEV.iadd dX4_lettersFrom_55 ?_
  refine zEV.istore_n dX4_lettersFrom_56 rfl (Nat.le_of_ble_eq_true rfl) rfl ?_
  refine zEV.iinc (v := (l5 + 1)) dX4_lettersFrom_57 5 rfl rfl (Nat.le_of_ble_eq_true rfl) rfl ?_
  refine zEV.goto 14 dX4_lettersFrom_60 (by decide) ?_
  exact zEV.perm [2, 3, 4, 1, 5, 0] rfl (hK14 ((s1 + s0)) (l4) ((l5 + 1)) M q h)
def fX4_lettersFrom_14 (K5 : Int32 → Int32 → zMM → Option (Int32 × zMM)) (b1 : Nat) (a2 : Int32) : Nat → Int32 → Int32 → Int32 → zMM → Option (Int32 × zMM)
  | 0, _, _, _, _ => none
  | n + 1, l3, l4, l5, M =>
  if oob (l4) 3 then none else
  if (M.1 (b1 + 2) (Int32.toNatClampNeg l4)) ≤ l5 then
    K5 (l3) ((l4 + 1)) M
  else
    if oob (l5) 70 then none else
    if (M.1 (125 + 1 * Int32.toNatClampNeg l4) (Int32.toNatClampNeg l5)) < a2 then
      fX4_lettersFrom_55 K5 (fX4_lettersFrom_14 K5 b1 a2 n) b1 a2 (l4) (l5) (0) (l3) M
    else
      fX4_lettersFrom_55 K5 (fX4_lettersFrom_14 K5 b1 a2 n) b1 a2 (l4) (l5) ((M.1 (b1 + 4 + 1 * Int32.toNatClampNeg l4) (Int32.toNatClampNeg l5))) (l3) M
set_option maxRecDepth 100000 in
theorem tX4_lettersFrom_14 (K5 : Int32 → Int32 → zMM → Option (Int32 × zMM)) (b1 : Nat) (a2 : Int32) (hb1 : lf b1) (hK5 : ∀ (l3 : Int32) (l4 : Int32) (M : zMM) (q : Int32 × zMM), K5 l3 l4 M = some q → zEV iX4_lettersFrom 0 0 (zZO (some (.inl q.1), q.2)) 5 [(0, .inr (.inr 120)), (1, .inr (.inr b1)), (2, .inl a2), (3, .inl l3), (4, .inl l4)] [] M) : ∀ (n : Nat) (l3 : Int32) (l4 : Int32) (l5 : Int32) (M : zMM) (q : Int32 × zMM), fX4_lettersFrom_14 K5 b1 a2 n l3 l4 l5 M = some q → zEV iX4_lettersFrom 0 0 (zZO (some (.inl q.1), q.2)) 14 [(0, .inr (.inr 120)), (1, .inr (.inr b1)), (2, .inl a2), (3, .inl l3), (4, .inl l4), (5, .inl l5)] [] M := by
  intro n
  induction n with
  | zero =>
    intro l3 l4 l5 M q h
    rw [fX4_lettersFrom_14] at h
    cases h
  | succ n ih =>
    intro l3 l4 l5 M q h
    rw [fX4_lettersFrom_14] at h
    refine zEV.iload dX4_lettersFrom_14 5 rfl ?_
    refine zEV.aload_n dX4_lettersFrom_16 rfl 1 rfl ?_
    refine zEV.gfr rfl inz0 8 (by decide) wf_RX4_61 (lf_lt hb1 0 (by decide)) (lf_shp hb1 0 (by decide)) rfl dX4_lettersFrom_17 ?_
    refine zEV.iload dX4_lettersFrom_20 4 rfl ?_
    obtain ⟨g1, h⟩ := ite_no h
    refine zEV.iald (lf_lt hb1 2 (by decide)) (lf_shp hb1 2 (by decide)) g1 dX4_lettersFrom_22 ?_
    refine zEV.icmp_ge 63 dX4_lettersFrom_23 (by decide) (fun c2 => ?_) (fun c2 => ?_)
    · rw [if_pos c2] at h
      refine zEV.iinc (v := (l4 + 1)) dX4_lettersFrom_63 4 rfl rfl (Nat.le_of_ble_eq_true rfl) rfl ?_
      refine zEV.goto 5 dX4_lettersFrom_66 (by decide) ?_
      exact zEV.perm [1, 2, 3, 4, 0] rfl (hK5 (l3) ((l4 + 1)) M q h)
    · rw [if_neg c2] at h
      refine zEV.iload_n dX4_lettersFrom_26 rfl 3 rfl ?_
      refine zEV.aload_n dX4_lettersFrom_27 rfl 0 rfl ?_
      refine zEV.gfr rfl inz4 4 (by decide) wf_RX4_27 (by decide) rfl rfl dX4_lettersFrom_28 ?_
      refine zEV.iload dX4_lettersFrom_31 4 rfl ?_
      refine zEV.aald (by decide) (by decide) rfl g1 dX4_lettersFrom_33 ?_
      refine zEV.iload dX4_lettersFrom_34 5 rfl ?_
      obtain ⟨g3, h⟩ := ite_no h
      refine zEV.iald (st_row125 g1).1 (st_row125 g1).2 g3 dX4_lettersFrom_36 ?_
      refine zEV.iload_n dX4_lettersFrom_37 rfl 2 rfl ?_
      refine zEV.icmp_lt 54 dX4_lettersFrom_38 (by decide) (fun c4 => ?_) (fun c4 => ?_)
      · rw [if_pos c4] at h
        refine zEV.iconst (v := 0) dX4_lettersFrom_54 rfl ?_
        exact zEV.perm [0, 1, 2, 4, 5] rfl (tX4_lettersFrom_55 K5 (fX4_lettersFrom_14 K5 b1 a2 n) b1 a2 hb1 hK5 (fun l3 l4 l5 M9 q9 h9 => ih l3 l4 l5 M9 q9 h9) (l4) (l5) (0) (l3) M q h)
      · rw [if_neg c4] at h
        refine zEV.aload_n dX4_lettersFrom_41 rfl 1 rfl ?_
        refine zEV.gfr rfl inz0 9 (by decide) wf_RX4_79 (lf_lt hb1 0 (by decide)) (lf_shp hb1 0 (by decide)) rfl dX4_lettersFrom_42 ?_
        refine zEV.iload dX4_lettersFrom_45 4 rfl ?_
        refine zEV.aald (lf_lt hb1 3 (by decide)) (by decide) (lf_shp hb1 3 (by decide)) g1 dX4_lettersFrom_47 ?_
        refine zEV.iload dX4_lettersFrom_48 5 rfl ?_
        refine zEV.iald (lf_row hb1 g1).1 (lf_row hb1 g1).2 g3 dX4_lettersFrom_50 ?_
        refine zEV.goto 55 dX4_lettersFrom_51 (by decide) ?_
        exact zEV.perm [0, 1, 2, 4, 5] rfl (tX4_lettersFrom_55 K5 (fX4_lettersFrom_14 K5 b1 a2 n) b1 a2 hb1 hK5 (fun l3 l4 l5 M9 q9 h9 => ih l3 l4 l5 M9 q9 h9) (l4) (l5) ((M.1 (b1 + 4 + 1 * Int32.toNatClampNeg l4) (Int32.toNatClampNeg l5))) (l3) M q h)
def fX4_lettersFrom_5 (b1 : Nat) (a2 : Int32) : Nat → Int32 → Int32 → zMM → Option (Int32 × zMM)
  | 0, _, _, _ => none
  | n + 1, l3, l4, M =>
  if (3 : Int32) ≤ l4 then
    some (l3, M)
  else
    fX4_lettersFrom_14 (fX4_lettersFrom_5 b1 a2 n) b1 a2 zFU (l3) (l4) (0) M
set_option maxRecDepth 100000 in
theorem tX4_lettersFrom_5 (b1 : Nat) (a2 : Int32) (hb1 : lf b1) : ∀ (n : Nat) (l3 : Int32) (l4 : Int32) (M : zMM) (q : Int32 × zMM), fX4_lettersFrom_5 b1 a2 n l3 l4 M = some q → zEV iX4_lettersFrom 0 0 (zZO (some (.inl q.1), q.2)) 5 [(0, .inr (.inr 120)), (1, .inr (.inr b1)), (2, .inl a2), (3, .inl l3), (4, .inl l4)] [] M := by
  intro n
  induction n with
  | zero =>
    intro l3 l4 M q h
    rw [fX4_lettersFrom_5] at h
    cases h
  | succ n ih =>
    intro l3 l4 M q h
    rw [fX4_lettersFrom_5] at h
    refine zEV.iload dX4_lettersFrom_5 4 rfl ?_
    refine zEV.iconst (v := 3) dX4_lettersFrom_7 rfl ?_
    refine zEV.icmp_ge 69 dX4_lettersFrom_8 (by decide) (fun c1 => ?_) (fun c1 => ?_)
    · rw [if_pos c1] at h
      refine zEV.iload_n dX4_lettersFrom_69 rfl 3 rfl ?_
      have h := Option.some.inj h
      subst h
      exact zEV.iret rfl dX4_lettersFrom_70
    · rw [if_neg c1] at h
      refine zEV.iconst (v := 0) dX4_lettersFrom_11 rfl ?_
      refine zEV.istore dX4_lettersFrom_12 (Nat.le_of_ble_eq_true rfl) rfl ?_
      exact zEV.perm [1, 2, 3, 4, 5, 0] rfl (tX4_lettersFrom_14 (fX4_lettersFrom_5 b1 a2 n) b1 a2 hb1 (fun l3 l4 M9 q9 h9 => ih l3 l4 M9 q9 h9) zFU (l3) (l4) (0) M q h)
def fX4_lettersFrom (b1 : Nat) (a2 : Int32) (M : zMM) : Option (Int32 × zMM) :=
  fX4_lettersFrom_5 b1 a2 zFU (0) (0) M
set_option maxRecDepth 100000 in
theorem tX4_lettersFrom_0 (b1 : Nat) (a2 : Int32) (hb1 : lf b1) (M : zMM) (q : Int32 × zMM) (h : fX4_lettersFrom b1 a2  M = some q) : zEV iX4_lettersFrom 0 0 (zZO (some (.inl q.1), q.2)) 0 [(0, .inr (.inr 120)), (1, .inr (.inr b1)), (2, .inl a2)] [] M := by
  unfold fX4_lettersFrom at h
  refine zEV.iconst (v := 0) dX4_lettersFrom_0 rfl ?_
  refine zEV.istore_n dX4_lettersFrom_1 rfl (Nat.le_of_ble_eq_true rfl) rfl ?_
  refine zEV.iconst (v := 0) dX4_lettersFrom_2 rfl ?_
  refine zEV.istore dX4_lettersFrom_3 (Nat.le_of_ble_eq_true rfl) rfl ?_
  exact zEV.perm [2, 3, 4, 1, 0] rfl (tX4_lettersFrom_5 b1 a2 hb1 zFU (0) (0) M q h)
theorem kX4_lettersFrom (b1 : Nat) (a2 : Int32) (hb1 : lf b1) (M : zMM) (q : Int32 × zMM) (h : fX4_lettersFrom b1 a2 M = some q) : zCN yX4_lettersFrom iX4_lettersFrom [.inr (.inr 120), .inr (.inr b1), .inl a2] M (some (.inl q.1), q.2) :=
  zCN.of (by decide) rfl rfl (Nat.le_of_ble_eq_true rfl) (zEV.perm [0, 1, 2] rfl (tX4_lettersFrom_0 b1 a2 hb1 M q h))
-- RingedPage$Signs.add
def fX5_add_15 (a1 : Int32) : Nat → Int32 → zMM → Option (Int32 × zMM)
  | 0, _, _ => none
  | n + 1, l2, M =>
  if (4 : Int32) ≤ l2 then
    some (1, (wr M 153 1 ((M.1 153 1) + 4)))
  else
    if oob (((M.1 153 1) + l2)) 80 then none else
    fX5_add_15 a1 n ((l2 + 1)) (wr M 154 (Int32.toNatClampNeg ((M.1 153 1) + l2)) ((Int32.toUInt32 a1 >>> (Int32.toUInt32 (24 - (8 * l2)) &&& Int32.toUInt32 31)).toInt32 &&& 255))
set_option maxRecDepth 100000 in
theorem tX5_add_15 (a1 : Int32) : ∀ (n : Nat) (l2 : Int32) (M : zMM) (q : Int32 × zMM), fX5_add_15 a1 n l2 M = some q → zEV iX5_add 0 0 (zZO (some (.inl q.1), q.2)) 15 [(0, .inr (.inr 153)), (1, .inl a1), (2, .inl l2)] [] M := by
  intro n
  induction n with
  | zero =>
    intro l2 M q h
    rw [fX5_add_15] at h
    cases h
  | succ n ih =>
    intro l2 M q h
    rw [fX5_add_15] at h
    refine zEV.iload_n dX5_add_15 rfl 2 rfl ?_
    refine zEV.iconst (v := 4) dX5_add_16 rfl ?_
    refine zEV.icmp_ge 50 dX5_add_17 (by decide) (fun c1 => ?_) (fun c1 => ?_)
    · rw [if_pos c1] at h
      refine zEV.aload_n dX5_add_50 rfl 0 rfl ?_
      refine zEV.dup dX5_add_51 rfl ?_
      refine zEV.gfi rfl inz5 1 (by decide) wf_RX5_15 (by decide) rfl rfl dX5_add_52 ?_
      refine zEV.iconst (v := 4) dX5_add_55 rfl ?_
      refine zEV.iadd dX5_add_56 ?_
      refine zEV.pfi rfl inz5 tyX5 tyX5_ok nmX5 1 (by decide) wf_RX5_15 rfl (by decide +kernel) (by decide) rfl rfl dX5_add_57 ?_
      refine zEV.iconst (v := 1) dX5_add_60 rfl ?_
      have h := Option.some.inj h
      subst h
      exact zEV.zret rfl (Or.inr rfl) dX5_add_61
    · rw [if_neg c1] at h
      refine zEV.aload_n dX5_add_20 rfl 0 rfl ?_
      refine zEV.gfr rfl inz5 0 (by decide) wf_RX5_9 (by decide) rfl rfl dX5_add_21 ?_
      refine zEV.aload_n dX5_add_24 rfl 0 rfl ?_
      refine zEV.gfi rfl inz5 1 (by decide) wf_RX5_15 (by decide) rfl rfl dX5_add_25 ?_
      refine zEV.iload_n dX5_add_28 rfl 2 rfl ?_
      refine zEV.iadd dX5_add_29 ?_
      refine zEV.iload_n dX5_add_30 rfl 1 rfl ?_
      refine zEV.bipush (v := 24) dX5_add_31 rfl ?_
      refine zEV.bipush (v := 8) dX5_add_33 rfl ?_
      refine zEV.iload_n dX5_add_35 rfl 2 rfl ?_
      refine zEV.imul dX5_add_36 ?_
      refine zEV.isub dX5_add_37 ?_
      refine zEV.iushr dX5_add_38 ?_
      refine zEV.sipush (v := 255) dX5_add_39 rfl ?_
      refine zEV.iand dX5_add_42 ?_
      obtain ⟨g2, h⟩ := ite_no h
      refine zEV.iast (by decide) rfl g2 dX5_add_43 ?_
      refine zEV.iinc (v := (l2 + 1)) dX5_add_44 2 rfl rfl (Nat.le_of_ble_eq_true rfl) rfl ?_
      refine zEV.goto 15 dX5_add_47 (by decide) ?_
      exact zEV.perm [1, 2, 0] rfl (ih ((l2 + 1)) (wr M 154 (Int32.toNatClampNeg ((M.1 153 1) + l2)) ((Int32.toUInt32 a1 >>> (Int32.toUInt32 (24 - (8 * l2)) &&& Int32.toUInt32 31)).toInt32 &&& 255)) q h)
def fX5_add (a1 : Int32) (M : zMM) : Option (Int32 × zMM) :=
  if ((M.1 153 1) + 4) ≤ 80 then
    fX5_add_15 a1 zFU (0) M
  else
    some (0, M)
set_option maxRecDepth 100000 in
theorem tX5_add_0 (a1 : Int32) (M : zMM) (q : Int32 × zMM) (h : fX5_add a1  M = some q) : zEV iX5_add 0 0 (zZO (some (.inl q.1), q.2)) 0 [(0, .inr (.inr 153)), (1, .inl a1)] [] M := by
  unfold fX5_add at h
  refine zEV.aload_n dX5_add_0 rfl 0 rfl ?_
  refine zEV.gfi rfl inz5 1 (by decide) wf_RX5_15 (by decide) rfl rfl dX5_add_1 ?_
  refine zEV.iconst (v := 4) dX5_add_4 rfl ?_
  refine zEV.iadd dX5_add_5 ?_
  refine zEV.bipush (v := 80) dX5_add_6 rfl ?_
  refine zEV.icmp_le 13 dX5_add_8 (by decide) (fun c1 => ?_) (fun c1 => ?_)
  · rw [if_pos c1] at h
    refine zEV.iconst (v := 0) dX5_add_13 rfl ?_
    refine zEV.istore_n dX5_add_14 rfl (Nat.le_of_ble_eq_true rfl) rfl ?_
    exact zEV.perm [1, 2, 0] rfl (tX5_add_15 a1 zFU (0) M q h)
  · rw [if_neg c1] at h
    refine zEV.iconst (v := 0) dX5_add_11 rfl ?_
    have h := Option.some.inj h
    subst h
    exact zEV.zret rfl (Or.inl rfl) dX5_add_12
theorem kX5_add (a1 : Int32) (M : zMM) (q : Int32 × zMM) (h : fX5_add a1 M = some q) : zCN yX5_add iX5_add [.inr (.inr 153), .inl a1] M (some (.inl q.1), q.2) :=
  zCN.of (by decide) rfl rfl (Nat.le_of_ble_eq_true rfl) (zEV.perm [0, 1] rfl (tX5_add_0 a1 M q h))
-- RingedPage$Signs.cut
def fX5_cut (a1 : Int32) (M : zMM) : Option (Int32 × zMM) :=
  if a1 < (0 : Int32) then
    some (0, M)
  else
    if a1 ≤ (M.1 153 1) then
      some (1, (wr M 153 1 a1))
    else
      some (0, M)
set_option maxRecDepth 100000 in
theorem tX5_cut_0 (a1 : Int32) (M : zMM) (q : Int32 × zMM) (h : fX5_cut a1  M = some q) : zEV iX5_cut 0 0 (zZO (some (.inl q.1), q.2)) 0 [(0, .inr (.inr 153)), (1, .inl a1)] [] M := by
  unfold fX5_cut at h
  refine zEV.iload_n dX5_cut_0 rfl 1 rfl ?_
  refine zEV.if_lt 12 dX5_cut_1 (by decide) (fun c1 => ?_) (fun c1 => ?_)
  · rw [if_pos c1] at h
    refine zEV.iconst (v := 0) dX5_cut_12 rfl ?_
    have h := Option.some.inj h
    subst h
    exact zEV.zret rfl (Or.inl rfl) dX5_cut_13
  · rw [if_neg c1] at h
    refine zEV.iload_n dX5_cut_4 rfl 1 rfl ?_
    refine zEV.aload_n dX5_cut_5 rfl 0 rfl ?_
    refine zEV.gfi rfl inz5 1 (by decide) wf_RX5_15 (by decide) rfl rfl dX5_cut_6 ?_
    refine zEV.icmp_le 14 dX5_cut_9 (by decide) (fun c2 => ?_) (fun c2 => ?_)
    · rw [if_pos c2] at h
      refine zEV.aload_n dX5_cut_14 rfl 0 rfl ?_
      refine zEV.iload_n dX5_cut_15 rfl 1 rfl ?_
      refine zEV.pfi rfl inz5 tyX5 tyX5_ok nmX5 1 (by decide) wf_RX5_15 rfl (by decide +kernel) (by decide) rfl rfl dX5_cut_16 ?_
      refine zEV.iconst (v := 1) dX5_cut_19 rfl ?_
      have h := Option.some.inj h
      subst h
      exact zEV.zret rfl (Or.inr rfl) dX5_cut_20
    · rw [if_neg c2] at h
      refine zEV.iconst (v := 0) dX5_cut_12 rfl ?_
      have h := Option.some.inj h
      subst h
      exact zEV.zret rfl (Or.inl rfl) dX5_cut_13
theorem kX5_cut (a1 : Int32) (M : zMM) (q : Int32 × zMM) (h : fX5_cut a1 M = some q) : zCN yX5_cut iX5_cut [.inr (.inr 153), .inl a1] M (some (.inl q.1), q.2) :=
  zCN.of (by decide) rfl rfl (Nat.le_of_ble_eq_true rfl) (zEV.perm [0, 1] rfl (tX5_cut_0 a1 M q h))
-- RingedPage$Signs.clear
def fX5_clear (M : zMM) : Option (zMM) :=
  some (wr M 153 1 0)
set_option maxRecDepth 100000 in
theorem tX5_clear_0 (M : zMM) (q : zMM) (h : fX5_clear  M = some q) : zEV iX5_clear 0 0 (zZO (none, q)) 0 [(0, .inr (.inr 153))] [] M := by
  unfold fX5_clear at h
  refine zEV.aload_n dX5_clear_0 rfl 0 rfl ?_
  refine zEV.iconst (v := 0) dX5_clear_1 rfl ?_
  refine zEV.pfi rfl inz5 tyX5 tyX5_ok nmX5 1 (by decide) wf_RX5_15 rfl (by decide +kernel) (by decide) rfl rfl dX5_clear_2 ?_
  have h := Option.some.inj h
  subst h
  exact zEV.vret rfl dX5_clear_5
theorem kX5_clear (M : zMM) (q : zMM) (h : fX5_clear M = some q) : zCN yX5_clear iX5_clear [.inr (.inr 153)] M (none, q) :=
  zCN.of (by decide) rfl rfl (Nat.le_of_ble_eq_true rfl) (zEV.perm [0] rfl (tX5_clear_0 M q h))
-- RingedPage$Signs.signAt
def fX5_signAt (a1 : Int32) (M : zMM) : Option (Int32 × zMM) :=
  if a1 < (0 : Int32) then
    some ((-1), M)
  else
    if (M.1 153 1) ≤ a1 then
      some ((-1), M)
    else
      if oob (a1) 80 then none else
      some ((M.1 154 (Int32.toNatClampNeg a1)), M)
set_option maxRecDepth 100000 in
theorem tX5_signAt_0 (a1 : Int32) (M : zMM) (q : Int32 × zMM) (h : fX5_signAt a1  M = some q) : zEV iX5_signAt 0 0 (zZO (some (.inl q.1), q.2)) 0 [(0, .inr (.inr 153)), (1, .inl a1)] [] M := by
  unfold fX5_signAt at h
  refine zEV.iload_n dX5_signAt_0 rfl 1 rfl ?_
  refine zEV.if_lt 21 dX5_signAt_1 (by decide) (fun c1 => ?_) (fun c1 => ?_)
  · rw [if_pos c1] at h
    refine zEV.iconst (v := (-1)) dX5_signAt_21 rfl ?_
    have h := Option.some.inj h
    subst h
    exact zEV.iret rfl dX5_signAt_22
  · rw [if_neg c1] at h
    refine zEV.iload_n dX5_signAt_4 rfl 1 rfl ?_
    refine zEV.aload_n dX5_signAt_5 rfl 0 rfl ?_
    refine zEV.gfi rfl inz5 1 (by decide) wf_RX5_15 (by decide) rfl rfl dX5_signAt_6 ?_
    refine zEV.icmp_ge 21 dX5_signAt_9 (by decide) (fun c2 => ?_) (fun c2 => ?_)
    · rw [if_pos c2] at h
      refine zEV.iconst (v := (-1)) dX5_signAt_21 rfl ?_
      have h := Option.some.inj h
      subst h
      exact zEV.iret rfl dX5_signAt_22
    · rw [if_neg c2] at h
      refine zEV.aload_n dX5_signAt_12 rfl 0 rfl ?_
      refine zEV.gfr rfl inz5 0 (by decide) wf_RX5_9 (by decide) rfl rfl dX5_signAt_13 ?_
      refine zEV.iload_n dX5_signAt_16 rfl 1 rfl ?_
      obtain ⟨g3, h⟩ := ite_no h
      refine zEV.iald (by decide) rfl g3 dX5_signAt_17 ?_
      refine zEV.goto 22 dX5_signAt_18 (by decide) ?_
      have h := Option.some.inj h
      subst h
      exact zEV.iret rfl dX5_signAt_22
theorem kX5_signAt (a1 : Int32) (M : zMM) (q : Int32 × zMM) (h : fX5_signAt a1 M = some q) : zCN yX5_signAt iX5_signAt [.inr (.inr 153), .inl a1] M (some (.inl q.1), q.2) :=
  zCN.of (by decide) rfl rfl (Nat.le_of_ble_eq_true rfl) (zEV.perm [0, 1] rfl (tX5_signAt_0 a1 M q h))
-- RingedPage$Signs.digitAt
def fX5_digitAt (a1 : Int32) (M : zMM) : Option (Int32 × zMM) :=
  (fX5_signAt (a1) M).bind fun q1 =>
  if q1.1 < 48 then
    some ((-1), q1.2)
  else
    if (57 : Int32) < q1.1 then
      some ((-1), q1.2)
    else
      some ((q1.1 - 48), q1.2)
set_option maxRecDepth 100000 in
theorem tX5_digitAt_0 (a1 : Int32) (M : zMM) (q : Int32 × zMM) (h : fX5_digitAt a1  M = some q) : zEV iX5_digitAt 0 0 (zZO (some (.inl q.1), q.2)) 0 [(0, .inr (.inr 153)), (1, .inl a1)] [] M := by
  unfold fX5_digitAt at h
  refine zEV.aload_n dX5_digitAt_0 rfl 0 rfl ?_
  refine zEV.iload_n dX5_digitAt_1 rfl 1 rfl ?_
  obtain ⟨q1, hq1, h⟩ := bind_yes h
  refine zEV.callVi (kX5_signAt (a1)  M q1 hq1) (by decide) rfl rfl wm_RX5_19 wc_X5_signAt hy_X5_signAt rfl ⟨Nat.le_of_ble_eq_true rfl, Nat.le_of_ble_eq_true rfl⟩ rfl (Nat.le_of_ble_eq_true rfl) dX5_digitAt_2 ?_
  refine zEV.istore_n dX5_digitAt_5 rfl (Nat.le_of_ble_eq_true rfl) rfl ?_
  refine zEV.iload_n dX5_digitAt_6 rfl 0 rfl ?_
  refine zEV.bipush (v := 48) dX5_digitAt_7 rfl ?_
  refine zEV.icmp_lt 25 dX5_digitAt_9 (by decide) (fun c2 => ?_) (fun c2 => ?_)
  · rw [if_pos c2] at h
    refine zEV.iconst (v := (-1)) dX5_digitAt_25 rfl ?_
    have h := Option.some.inj h
    subst h
    exact zEV.iret rfl dX5_digitAt_26
  · rw [if_neg c2] at h
    refine zEV.iload_n dX5_digitAt_12 rfl 0 rfl ?_
    refine zEV.bipush (v := 57) dX5_digitAt_13 rfl ?_
    refine zEV.icmp_gt 25 dX5_digitAt_15 (by decide) (fun c3 => ?_) (fun c3 => ?_)
    · rw [if_pos c3] at h
      refine zEV.iconst (v := (-1)) dX5_digitAt_25 rfl ?_
      have h := Option.some.inj h
      subst h
      exact zEV.iret rfl dX5_digitAt_26
    · rw [if_neg c3] at h
      refine zEV.iload_n dX5_digitAt_18 rfl 0 rfl ?_
      refine zEV.bipush (v := 48) dX5_digitAt_19 rfl ?_
      refine zEV.isub dX5_digitAt_21 ?_
      refine zEV.goto 26 dX5_digitAt_22 (by decide) ?_
      have h := Option.some.inj h
      subst h
      exact zEV.iret rfl dX5_digitAt_26
theorem kX5_digitAt (a1 : Int32) (M : zMM) (q : Int32 × zMM) (h : fX5_digitAt a1 M = some q) : zCN yX5_digitAt iX5_digitAt [.inr (.inr 153), .inl a1] M (some (.inl q.1), q.2) :=
  zCN.of (by decide) rfl rfl (Nat.le_of_ble_eq_true rfl) (zEV.perm [0, 1] rfl (tX5_digitAt_0 a1 M q h))
-- RingedPage$Signs.numberAt
def fX5_numberAt_5 (a1 : Int32) (a2 : Int32) : Nat → Int32 → Int32 → zMM → Option (Int32 × zMM)
  | 0, _, _, _ => none
  | n + 1, l3, l4, M =>
  if (a1 + a2) ≤ l4 then
    some (l3, M)
  else
    (fX5_digitAt (l4) M).bind fun q2 =>
    if (0 : Int32) ≤ q2.1 then
      fX5_numberAt_5 a1 a2 n (((10 * l3) + q2.1)) ((l4 + 1)) q2.2
    else
      some (((-1) - l4), q2.2)
set_option maxRecDepth 100000 in
theorem tX5_numberAt_5 (a1 : Int32) (a2 : Int32) : ∀ (n : Nat) (l3 : Int32) (l4 : Int32) (M : zMM) (q : Int32 × zMM), fX5_numberAt_5 a1 a2 n l3 l4 M = some q → zEV iX5_numberAt 0 0 (zZO (some (.inl q.1), q.2)) 5 [(0, .inr (.inr 153)), (1, .inl a1), (2, .inl a2), (3, .inl l3), (4, .inl l4)] [] M := by
  intro n
  induction n with
  | zero =>
    intro l3 l4 M q h
    rw [fX5_numberAt_5] at h
    cases h
  | succ n ih =>
    intro l3 l4 M q h
    rw [fX5_numberAt_5] at h
    refine zEV.iload dX5_numberAt_5 4 rfl ?_
    refine zEV.iload_n dX5_numberAt_7 rfl 1 rfl ?_
    refine zEV.iload_n dX5_numberAt_8 rfl 2 rfl ?_
    refine zEV.iadd dX5_numberAt_9 ?_
    refine zEV.icmp_ge 45 dX5_numberAt_10 (by decide) (fun c1 => ?_) (fun c1 => ?_)
    · rw [if_pos c1] at h
      refine zEV.iload_n dX5_numberAt_45 rfl 3 rfl ?_
      have h := Option.some.inj h
      subst h
      exact zEV.iret rfl dX5_numberAt_46
    · rw [if_neg c1] at h
      refine zEV.aload_n dX5_numberAt_13 rfl 0 rfl ?_
      refine zEV.iload dX5_numberAt_14 4 rfl ?_
      obtain ⟨q2, hq2, h⟩ := bind_yes h
      refine zEV.callVi (kX5_digitAt (l4)  M q2 hq2) (by decide) rfl rfl wm_RX5_23 wc_X5_digitAt hy_X5_digitAt rfl ⟨Nat.le_of_ble_eq_true rfl, Nat.le_of_ble_eq_true rfl⟩ rfl (Nat.le_of_ble_eq_true rfl) dX5_numberAt_16 ?_
      refine zEV.istore dX5_numberAt_19 (Nat.le_of_ble_eq_true rfl) rfl ?_
      refine zEV.iload dX5_numberAt_21 0 rfl ?_
      refine zEV.if_ge 31 dX5_numberAt_23 (by decide) (fun c3 => ?_) (fun c3 => ?_)
      · rw [if_pos c3] at h
        refine zEV.bipush (v := 10) dX5_numberAt_31 rfl ?_
        refine zEV.iload_n dX5_numberAt_33 rfl 4 rfl ?_
        refine zEV.imul dX5_numberAt_34 ?_
        refine zEV.iload dX5_numberAt_35 0 rfl ?_
        refine zEV.iadd dX5_numberAt_37 ?_
        refine zEV.istore_n dX5_numberAt_38 rfl (Nat.le_of_ble_eq_true rfl) rfl ?_
        refine zEV.iinc (v := (l4 + 1)) dX5_numberAt_39 5 rfl rfl (Nat.le_of_ble_eq_true rfl) rfl ?_
        refine zEV.goto 5 dX5_numberAt_42 (by decide) ?_
        exact zEV.perm [3, 4, 5, 1, 0] rfl (ih (((10 * l3) + q2.1)) ((l4 + 1)) q2.2 q h)
      · rw [if_neg c3] at h
        refine zEV.iconst (v := (-1)) dX5_numberAt_26 rfl ?_
        refine zEV.iload dX5_numberAt_27 5 rfl ?_
        refine zEV.isub dX5_numberAt_29 ?_
        have h := Option.some.inj h
        subst h
        exact zEV.iret rfl dX5_numberAt_30
def fX5_numberAt (a1 : Int32) (a2 : Int32) (M : zMM) : Option (Int32 × zMM) :=
  fX5_numberAt_5 a1 a2 zFU (0) (a1) M
set_option maxRecDepth 100000 in
theorem tX5_numberAt_0 (a1 : Int32) (a2 : Int32) (M : zMM) (q : Int32 × zMM) (h : fX5_numberAt a1 a2  M = some q) : zEV iX5_numberAt 0 0 (zZO (some (.inl q.1), q.2)) 0 [(0, .inr (.inr 153)), (1, .inl a1), (2, .inl a2)] [] M := by
  unfold fX5_numberAt at h
  refine zEV.iconst (v := 0) dX5_numberAt_0 rfl ?_
  refine zEV.istore_n dX5_numberAt_1 rfl (Nat.le_of_ble_eq_true rfl) rfl ?_
  refine zEV.iload_n dX5_numberAt_2 rfl 2 rfl ?_
  refine zEV.istore dX5_numberAt_3 (Nat.le_of_ble_eq_true rfl) rfl ?_
  exact zEV.perm [2, 3, 4, 1, 0] rfl (tX5_numberAt_5 a1 a2 zFU (0) (a1) M q h)
theorem kX5_numberAt (a1 : Int32) (a2 : Int32) (M : zMM) (q : Int32 × zMM) (h : fX5_numberAt a1 a2 M = some q) : zCN yX5_numberAt iX5_numberAt [.inr (.inr 153), .inl a1, .inl a2] M (some (.inl q.1), q.2) :=
  zCN.of (by decide) rfl rfl (Nat.le_of_ble_eq_true rfl) (zEV.perm [0, 1, 2] rfl (tX5_numberAt_0 a1 a2 M q h))
-- RingedPage.sign
def fX6_sign (a1 : Int32) (M : zMM) : Option (Int32 × zMM) :=
  (fX5_add (a1) M).bind fun q1 =>
  if q1.1 = (0 : Int32) then
    some ((-1), q1.2)
  else
    some ((q1.2.1 153 1), q1.2)
set_option maxRecDepth 100000 in
theorem tX6_sign_0 (a1 : Int32) (M : zMM) (q : Int32 × zMM) (h : fX6_sign a1  M = some q) : zEV iX6_sign 0 0 (zZO (some (.inl q.1), q.2)) 0 [(0, .inr (.inr 157)), (1, .inl a1)] [] M := by
  unfold fX6_sign at h
  refine zEV.aload_n dX6_sign_0 rfl 0 rfl ?_
  refine zEV.gfr rfl inz6 7 (by decide) wf_RX6_51 (by decide) rfl rfl dX6_sign_1 ?_
  refine zEV.iload_n dX6_sign_4 rfl 1 rfl ?_
  obtain ⟨q1, hq1, h⟩ := bind_yes h
  refine zEV.callVi (kX5_add (a1)  M q1 hq1) (by decide) rfl rfl wm_RX6_62 wc_X5_add hy_X5_add rfl ⟨Nat.le_of_ble_eq_true rfl, Nat.le_of_ble_eq_true rfl⟩ rfl (Nat.le_of_ble_eq_true rfl) dX6_sign_5 ?_
  refine zEV.if_eq 21 dX6_sign_8 (by decide) (fun c2 => ?_) (fun c2 => ?_)
  · rw [if_pos c2] at h
    refine zEV.iconst (v := (-1)) dX6_sign_21 rfl ?_
    have h := Option.some.inj h
    subst h
    exact zEV.iret rfl dX6_sign_22
  · rw [if_neg c2] at h
    refine zEV.aload_n dX6_sign_11 rfl 0 rfl ?_
    refine zEV.gfr rfl inz6 7 (by decide) wf_RX6_51 (by decide) rfl rfl dX6_sign_12 ?_
    refine zEV.gfi rfl inz5 1 (by decide) wf_RX6_66 (by decide) rfl rfl dX6_sign_15 ?_
    refine zEV.goto 22 dX6_sign_18 (by decide) ?_
    have h := Option.some.inj h
    subst h
    exact zEV.iret rfl dX6_sign_22
theorem kX6_sign (a1 : Int32) (M : zMM) (q : Int32 × zMM) (h : fX6_sign a1 M = some q) : zCN yX6_sign iX6_sign [.inr (.inr 157), .inl a1] M (some (.inl q.1), q.2) :=
  zCN.of (by decide) rfl rfl (Nat.le_of_ble_eq_true rfl) (zEV.perm [0, 1] rfl (tX6_sign_0 a1 M q h))
-- RingedPage.end
def fX6_end (a1 : Int32) (M : zMM) : Option (Int32 × zMM) :=
  (fX5_cut (a1) M).bind fun q1 =>
  if q1.1 = 0 ∨ q1.1 = 1 then some (q1.1, q1.2) else none
set_option maxRecDepth 100000 in
theorem tX6_end_0 (a1 : Int32) (M : zMM) (q : Int32 × zMM) (h : fX6_end a1  M = some q) : zEV iX6_end 0 0 (zZO (some (.inl q.1), q.2)) 0 [(0, .inr (.inr 157)), (1, .inl a1)] [] M := by
  unfold fX6_end at h
  refine zEV.aload_n dX6_end_0 rfl 0 rfl ?_
  refine zEV.gfr rfl inz6 7 (by decide) wf_RX6_51 (by decide) rfl rfl dX6_end_1 ?_
  refine zEV.iload_n dX6_end_4 rfl 1 rfl ?_
  obtain ⟨q1, hq1, h⟩ := bind_yes h
  refine zEV.callVi (kX5_cut (a1)  M q1 hq1) (by decide) rfl rfl wm_RX6_70 wc_X5_cut hy_X5_cut rfl ⟨Nat.le_of_ble_eq_true rfl, Nat.le_of_ble_eq_true rfl⟩ rfl (Nat.le_of_ble_eq_true rfl) dX6_end_5 ?_
  obtain ⟨g2, h⟩ := ite_yes h
  have h := Option.some.inj h
  subst h
  exact zEV.zret rfl g2 dX6_end_8
theorem kX6_end (a1 : Int32) (M : zMM) (q : Int32 × zMM) (h : fX6_end a1 M = some q) : zCN yX6_end iX6_end [.inr (.inr 157), .inl a1] M (some (.inl q.1), q.2) :=
  zCN.of (by decide) rfl rfl (Nat.le_of_ble_eq_true rfl) (zEV.perm [0, 1] rfl (tX6_end_0 a1 M q h))
