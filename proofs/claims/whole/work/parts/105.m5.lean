-- RingedPage.weighs
def fX6_weighs (a1 : Int32) (a2 : Int32) (M : zMM) : Option (Int32 × zMM) :=
  if a1 < (0 : Int32) then
    some ((-1), M)
  else
    if (3 : Int32) ≤ a1 then
      some ((-1), M)
    else
      if a2 < (0 : Int32) then
        some ((-1), M)
      else
        if oob (a1) 3 then none else
        if a2 ≤ (zst 2 (Int32.toNatClampNeg a1)) then
          if (M.1 1 (Int32.toNatClampNeg a1)) = a2 then
            some ((-2), M)
          else
            (fX1_mark 0 M).bind fun q7 =>
            (fX6_remembered ((M.1 1 (Int32.toNatClampNeg a1))) (wr q7 1 (Int32.toNatClampNeg a1) a2)).bind fun q8 =>
            some (q8.1, q8.2)
        else
          some ((-1), M)
set_option maxRecDepth 4000 in
theorem tX6_weighs_0 (a1 : Int32) (a2 : Int32) (M : zMM) (q : Int32 × zMM) (h : fX6_weighs a1 a2  M = some q) : zEV iX6_weighs 0 0 (zZO (some (.inl q.1), q.2)) 0 [(0, .inr (.inr 157)), (1, .inl a1), (2, .inl a2)] [] M := by
  unfold fX6_weighs at h
  refine zEV.iload_n dX6_weighs_0 rfl 1 rfl ?_
  refine zEV.if_lt 22 dX6_weighs_1 (by decide) (fun c1 => ?_) (fun c1 => ?_)
  · rw [if_pos c1] at h
    refine zEV.iconst (v := (-1)) dX6_weighs_22 rfl ?_
    cases h
    exact zEV.iret rfl dX6_weighs_23
  · rw [if_neg c1] at h
    refine zEV.iload_n dX6_weighs_4 rfl 1 rfl ?_
    refine zEV.iconst (v := 3) dX6_weighs_5 rfl ?_
    refine zEV.icmp_ge 22 dX6_weighs_6 (by decide) (fun c2 => ?_) (fun c2 => ?_)
    · rw [if_pos c2] at h
      refine zEV.iconst (v := (-1)) dX6_weighs_22 rfl ?_
      cases h
      exact zEV.iret rfl dX6_weighs_23
    · rw [if_neg c2] at h
      refine zEV.iload_n dX6_weighs_9 rfl 2 rfl ?_
      refine zEV.if_lt 22 dX6_weighs_10 (by decide) (fun c3 => ?_) (fun c3 => ?_)
      · rw [if_pos c3] at h
        refine zEV.iconst (v := (-1)) dX6_weighs_22 rfl ?_
        cases h
        exact zEV.iret rfl dX6_weighs_23
      · rw [if_neg c3] at h
        refine zEV.iload_n dX6_weighs_13 rfl 2 rfl ?_
        refine zEV.gets 2 (by decide) wg_RX6_294 dX6_weighs_14 ?_
        refine zEV.iload_n dX6_weighs_17 rfl 1 rfl ?_
        obtain ⟨g4, h⟩ := ite_no h
        refine zEV.stld 2 (by decide) g4 dX6_weighs_18 ?_
        refine zEV.icmp_le 24 dX6_weighs_19 (by decide) (fun c5 => ?_) (fun c5 => ?_)
        · rw [if_pos c5] at h
          refine zEV.aload_n dX6_weighs_24 rfl 0 rfl ?_
          refine zEV.gfr rfl inz6 0 (by decide) wf_RX6_12 (by decide) rfl rfl dX6_weighs_25 ?_
          refine zEV.gfr rfl inz0 7 (by decide) wf_RX6_297 (by decide) rfl rfl dX6_weighs_28 ?_
          refine zEV.iload_n dX6_weighs_31 rfl 1 rfl ?_
          refine zEV.iald (by decide) rfl g4 dX6_weighs_32 ?_
          refine zEV.istore_n dX6_weighs_33 rfl (Nat.le_of_ble_eq_true rfl) rfl ?_
          refine zEV.iload_n dX6_weighs_34 rfl 0 rfl ?_
          refine zEV.iload_n dX6_weighs_35 rfl 3 rfl ?_
          refine zEV.icmp_ne 42 dX6_weighs_36 (by decide) (fun c6 => ?_) (fun c6 => ?_)
          · rw [if_neg c6] at h
            refine zEV.aload_n dX6_weighs_42 rfl 1 rfl ?_
            refine zEV.gfr rfl inz6 4 (by decide) wf_RX6_36 (by decide) rfl rfl dX6_weighs_43 ?_
            refine zEV.aload_n dX6_weighs_46 rfl 1 rfl ?_
            refine zEV.gfr rfl inz6 0 (by decide) wf_RX6_12 (by decide) rfl rfl dX6_weighs_47 ?_
            obtain ⟨q7, hq7, h⟩ := bind_yes h
            refine zEV.callVv (kX1_mark 0 lf_0 M q7 hq7) (by decide) rfl rfl wm_RX6_73 wc_X1_mark hy_X1_mark rfl ⟨Nat.le_of_ble_eq_true rfl, Nat.le_of_ble_eq_true rfl⟩ rfl (Nat.le_of_ble_eq_true rfl) dX6_weighs_50 ?_
            refine zEV.aload_n dX6_weighs_53 rfl 1 rfl ?_
            refine zEV.gfr rfl inz6 0 (by decide) wf_RX6_12 (by decide) rfl rfl dX6_weighs_54 ?_
            refine zEV.gfr rfl inz0 7 (by decide) wf_RX6_297 (by decide) rfl rfl dX6_weighs_57 ?_
            refine zEV.iload_n dX6_weighs_60 rfl 2 rfl ?_
            refine zEV.iload_n dX6_weighs_61 rfl 3 rfl ?_
            refine zEV.iast (by decide) rfl g4 dX6_weighs_62 ?_
            refine zEV.aload_n dX6_weighs_63 rfl 1 rfl ?_
            refine zEV.iload_n dX6_weighs_64 rfl 0 rfl ?_
            obtain ⟨q8, hq8, h⟩ := bind_yes h
            refine zEV.callVi (kX6_remembered ((M.1 1 (Int32.toNatClampNeg a1)))  (wr q7 1 (Int32.toNatClampNeg a1) a2) q8 hq8) (by decide) rfl rfl wm_RX6_87 wc_X6_remembered hy_X6_remembered rfl ⟨Nat.le_of_ble_eq_true rfl, Nat.le_of_ble_eq_true rfl⟩ rfl (Nat.le_of_ble_eq_true rfl) dX6_weighs_65 ?_
            cases h
            exact zEV.iret rfl dX6_weighs_68
          · rw [if_pos c6] at h
            refine zEV.bipush (v := (-2)) dX6_weighs_39 rfl ?_
            cases h
            exact zEV.iret rfl dX6_weighs_41
        · rw [if_neg c5] at h
          refine zEV.iconst (v := (-1)) dX6_weighs_22 rfl ?_
          cases h
          exact zEV.iret rfl dX6_weighs_23
theorem kX6_weighs (a1 : Int32) (a2 : Int32) (M : zMM) (q : Int32 × zMM) (h : fX6_weighs a1 a2 M = some q) : zCN yX6_weighs iX6_weighs [.inr (.inr 157), .inl a1, .inl a2] M (some (.inl q.1), q.2) :=
  zCN.of (by decide) rfl rfl (Nat.le_of_ble_eq_true rfl) (zEV.perm [0, 1, 2] rfl (tX6_weighs_0 a1 a2 M q h))
-- RingedPage.swapComments
def fX6_swapComments_27 (M : zMM) : Option (Int32 × zMM) :=
  (fX0_swap 0 M).bind fun q1 =>
  if oob (1) 3 then none else
  some ((q1.1 2 (Int32.toNatClampNeg 1)), q1)
set_option maxRecDepth 4000 in
theorem tX6_swapComments_27 (M : zMM) (q : Int32 × zMM) (h : fX6_swapComments_27  M = some q) : zEV iX6_swapComments 0 0 (zZO (some (.inl q.1), q.2)) 27 [(0, .inr (.inr 157))] [] M := by
  unfold fX6_swapComments_27 at h
  refine zEV.aload_n dX6_swapComments_27 rfl 0 rfl ?_
  refine zEV.gfr rfl inz6 0 (by decide) wf_RX6_12 (by decide) rfl rfl dX6_swapComments_28 ?_
  obtain ⟨q1, hq1, h⟩ := bind_yes h
  refine zEV.callVv (kX0_swap 0 lf_0 M q1 hq1) (by decide) rfl rfl wm_RX6_386 wc_X0_swap hy_X0_swap rfl ⟨Nat.le_of_ble_eq_true rfl, Nat.le_of_ble_eq_true rfl⟩ rfl (Nat.le_of_ble_eq_true rfl) dX6_swapComments_31 ?_
  refine zEV.aload_n dX6_swapComments_34 rfl 0 rfl ?_
  refine zEV.gfr rfl inz6 0 (by decide) wf_RX6_12 (by decide) rfl rfl dX6_swapComments_35 ?_
  refine zEV.gfr rfl inz0 8 (by decide) wf_RX6_231 (by decide) rfl rfl dX6_swapComments_38 ?_
  refine zEV.iconst (v := 1) dX6_swapComments_41 rfl ?_
  obtain ⟨g2, h⟩ := ite_no h
  refine zEV.iald (by decide) rfl g2 dX6_swapComments_42 ?_
  cases h
  exact zEV.iret rfl dX6_swapComments_43
def fX6_swapComments (M : zMM) : Option (Int32 × zMM) :=
  if oob (1) 3 then none else
  if (M.1 2 (Int32.toNatClampNeg 1)) = (0 : Int32) then
    if oob (2) 3 then none else
    if (M.1 2 (Int32.toNatClampNeg 2)) = (0 : Int32) then
      some ((-2), M)
    else
      fX6_swapComments_27 M
  else
    fX6_swapComments_27 M
set_option maxRecDepth 4000 in
theorem tX6_swapComments_0 (M : zMM) (q : Int32 × zMM) (h : fX6_swapComments  M = some q) : zEV iX6_swapComments 0 0 (zZO (some (.inl q.1), q.2)) 0 [(0, .inr (.inr 157))] [] M := by
  unfold fX6_swapComments at h
  refine zEV.aload_n dX6_swapComments_0 rfl 0 rfl ?_
  refine zEV.gfr rfl inz6 0 (by decide) wf_RX6_12 (by decide) rfl rfl dX6_swapComments_1 ?_
  refine zEV.gfr rfl inz0 8 (by decide) wf_RX6_231 (by decide) rfl rfl dX6_swapComments_4 ?_
  refine zEV.iconst (v := 1) dX6_swapComments_7 rfl ?_
  obtain ⟨g1, h⟩ := ite_no h
  refine zEV.iald (by decide) rfl g1 dX6_swapComments_8 ?_
  refine zEV.if_ne 27 dX6_swapComments_9 (by decide) (fun c2 => ?_) (fun c2 => ?_)
  · rw [if_neg c2] at h
    exact zEV.perm [0] rfl (tX6_swapComments_27 M q h)
  · rw [if_pos c2] at h
    refine zEV.aload_n dX6_swapComments_12 rfl 0 rfl ?_
    refine zEV.gfr rfl inz6 0 (by decide) wf_RX6_12 (by decide) rfl rfl dX6_swapComments_13 ?_
    refine zEV.gfr rfl inz0 8 (by decide) wf_RX6_231 (by decide) rfl rfl dX6_swapComments_16 ?_
    refine zEV.iconst (v := 2) dX6_swapComments_19 rfl ?_
    obtain ⟨g3, h⟩ := ite_no h
    refine zEV.iald (by decide) rfl g3 dX6_swapComments_20 ?_
    refine zEV.if_ne 27 dX6_swapComments_21 (by decide) (fun c4 => ?_) (fun c4 => ?_)
    · rw [if_neg c4] at h
      exact zEV.perm [0] rfl (tX6_swapComments_27 M q h)
    · rw [if_pos c4] at h
      refine zEV.bipush (v := (-2)) dX6_swapComments_24 rfl ?_
      cases h
      exact zEV.iret rfl dX6_swapComments_26
theorem kX6_swapComments (M : zMM) (q : Int32 × zMM) (h : fX6_swapComments M = some q) : zCN yX6_swapComments iX6_swapComments [.inr (.inr 157)] M (some (.inl q.1), q.2) :=
  zCN.of (by decide) rfl rfl (Nat.le_of_ble_eq_true rfl) (zEV.perm [0] rfl (tX6_swapComments_0 M q h))
-- RingedPage.swaps
def fX6_swaps (M : zMM) : Option (Int32 × zMM) :=
  (fX1_mark 0 M).bind fun q1 =>
  (fX6_swapComments  q1).bind fun q2 =>
  (fX6_remembered (q2.1) q2.2).bind fun q3 =>
  some (q3.1, q3.2)
set_option maxRecDepth 4000 in
theorem tX6_swaps_0 (M : zMM) (q : Int32 × zMM) (h : fX6_swaps  M = some q) : zEV iX6_swaps 0 0 (zZO (some (.inl q.1), q.2)) 0 [(0, .inr (.inr 157))] [] M := by
  unfold fX6_swaps at h
  refine zEV.aload_n dX6_swaps_0 rfl 0 rfl ?_
  refine zEV.gfr rfl inz6 4 (by decide) wf_RX6_36 (by decide) rfl rfl dX6_swaps_1 ?_
  refine zEV.aload_n dX6_swaps_4 rfl 0 rfl ?_
  refine zEV.gfr rfl inz6 0 (by decide) wf_RX6_12 (by decide) rfl rfl dX6_swaps_5 ?_
  obtain ⟨q1, hq1, h⟩ := bind_yes h
  refine zEV.callVv (kX1_mark 0 lf_0 M q1 hq1) (by decide) rfl rfl wm_RX6_73 wc_X1_mark hy_X1_mark rfl ⟨Nat.le_of_ble_eq_true rfl, Nat.le_of_ble_eq_true rfl⟩ rfl (Nat.le_of_ble_eq_true rfl) dX6_swaps_8 ?_
  refine zEV.aload_n dX6_swaps_11 rfl 0 rfl ?_
  refine zEV.aload_n dX6_swaps_12 rfl 0 rfl ?_
  obtain ⟨q2, hq2, h⟩ := bind_yes h
  refine zEV.callVi (kX6_swapComments   q1 q2 hq2) (by decide) rfl rfl wm_RX6_300 wc_X6_swapComments hy_X6_swapComments rfl ⟨Nat.le_of_ble_eq_true rfl, Nat.le_of_ble_eq_true rfl⟩ rfl (Nat.le_of_ble_eq_true rfl) dX6_swaps_13 ?_
  obtain ⟨q3, hq3, h⟩ := bind_yes h
  refine zEV.callVi (kX6_remembered (q2.1)  q2.2 q3 hq3) (by decide) rfl rfl wm_RX6_87 wc_X6_remembered hy_X6_remembered rfl ⟨Nat.le_of_ble_eq_true rfl, Nat.le_of_ble_eq_true rfl⟩ rfl (Nat.le_of_ble_eq_true rfl) dX6_swaps_16 ?_
  cases h
  exact zEV.iret rfl dX6_swaps_19
theorem kX6_swaps (M : zMM) (q : Int32 × zMM) (h : fX6_swaps M = some q) : zCN yX6_swaps iX6_swaps [.inr (.inr 157)] M (some (.inl q.1), q.2) :=
  zCN.of (by decide) rfl rfl (Nat.le_of_ble_eq_true rfl) (zEV.perm [0] rfl (tX6_swaps_0 M q h))
-- RingedPage.setPlan
def fX6_setPlan (a1 : Int32) (a2 : Int32) (a3 : Int32) (M : zMM) : Option (Int32 × zMM) :=
  (fX0_allows 0 (a1) (a2) (a3) M).bind fun q1 =>
  if q1.1 = (0 : Int32) then
    some ((-1), q1.2)
  else
    (fX0_hasPlan 0 (a1) (a2) (a3) q1.2).bind fun q3 =>
    if q3.1 = (0 : Int32) then
      (fX0_plan 0 (a1) (a2) (a3) q3.2).bind fun q5 =>
      some ((((10000 * (q3.2.1 0 3)) + (100 * (q3.2.1 0 4))) + (q3.2.1 0 5)), q5)
    else
      some ((-2), q3.2)
set_option maxRecDepth 4000 in
theorem tX6_setPlan_0 (a1 : Int32) (a2 : Int32) (a3 : Int32) (M : zMM) (q : Int32 × zMM) (h : fX6_setPlan a1 a2 a3  M = some q) : zEV iX6_setPlan 0 0 (zZO (some (.inl q.1), q.2)) 0 [(0, .inr (.inr 157)), (1, .inl a1), (2, .inl a2), (3, .inl a3)] [] M := by
  unfold fX6_setPlan at h
  refine zEV.aload_n dX6_setPlan_0 rfl 0 rfl ?_
  refine zEV.gfr rfl inz6 0 (by decide) wf_RX6_12 (by decide) rfl rfl dX6_setPlan_1 ?_
  refine zEV.iload_n dX6_setPlan_4 rfl 1 rfl ?_
  refine zEV.iload_n dX6_setPlan_5 rfl 2 rfl ?_
  refine zEV.iload_n dX6_setPlan_6 rfl 3 rfl ?_
  obtain ⟨q1, hq1, h⟩ := bind_yes h
  refine zEV.callVi (kX0_allows 0 (a1) (a2) (a3) lf_0 M q1 hq1) (by decide) rfl rfl wm_RX6_237 wc_X0_allows hy_X0_allows rfl ⟨Nat.le_of_ble_eq_true rfl, Nat.le_of_ble_eq_true rfl⟩ rfl (Nat.le_of_ble_eq_true rfl) dX6_setPlan_7 ?_
  refine zEV.if_ne 15 dX6_setPlan_10 (by decide) (fun c2 => ?_) (fun c2 => ?_)
  · rw [if_neg c2] at h
    refine zEV.aload_n dX6_setPlan_15 rfl 0 rfl ?_
    refine zEV.gfr rfl inz6 0 (by decide) wf_RX6_12 (by decide) rfl rfl dX6_setPlan_16 ?_
    refine zEV.iload_n dX6_setPlan_19 rfl 1 rfl ?_
    refine zEV.iload_n dX6_setPlan_20 rfl 2 rfl ?_
    refine zEV.iload_n dX6_setPlan_21 rfl 3 rfl ?_
    obtain ⟨q3, hq3, h⟩ := bind_yes h
    refine zEV.callVi (kX0_hasPlan 0 (a1) (a2) (a3) lf_0 q1.2 q3 hq3) (by decide) rfl rfl wm_RX6_389 wc_X0_hasPlan hy_X0_hasPlan rfl ⟨Nat.le_of_ble_eq_true rfl, Nat.le_of_ble_eq_true rfl⟩ rfl (Nat.le_of_ble_eq_true rfl) dX6_setPlan_22 ?_
    refine zEV.if_eq 31 dX6_setPlan_25 (by decide) (fun c4 => ?_) (fun c4 => ?_)
    · rw [if_pos c4] at h
      refine zEV.sipush (v := 10000) dX6_setPlan_31 rfl ?_
      refine zEV.aload_n dX6_setPlan_34 rfl 0 rfl ?_
      refine zEV.gfr rfl inz6 0 (by decide) wf_RX6_12 (by decide) rfl rfl dX6_setPlan_35 ?_
      refine zEV.gfi rfl inz0 3 (by decide) wf_RX6_344 (by decide) rfl rfl dX6_setPlan_38 ?_
      refine zEV.imul dX6_setPlan_41 ?_
      refine zEV.bipush (v := 100) dX6_setPlan_42 rfl ?_
      refine zEV.aload_n dX6_setPlan_44 rfl 0 rfl ?_
      refine zEV.gfr rfl inz6 0 (by decide) wf_RX6_12 (by decide) rfl rfl dX6_setPlan_45 ?_
      refine zEV.gfi rfl inz0 4 (by decide) wf_RX6_345 (by decide) rfl rfl dX6_setPlan_48 ?_
      refine zEV.imul dX6_setPlan_51 ?_
      refine zEV.iadd dX6_setPlan_52 ?_
      refine zEV.aload_n dX6_setPlan_53 rfl 0 rfl ?_
      refine zEV.gfr rfl inz6 0 (by decide) wf_RX6_12 (by decide) rfl rfl dX6_setPlan_54 ?_
      refine zEV.gfi rfl inz0 5 (by decide) wf_RX6_346 (by decide) rfl rfl dX6_setPlan_57 ?_
      refine zEV.iadd dX6_setPlan_60 ?_
      refine zEV.istore dX6_setPlan_61 (Nat.le_of_ble_eq_true rfl) rfl ?_
      refine zEV.aload_n dX6_setPlan_63 rfl 1 rfl ?_
      refine zEV.gfr rfl inz6 0 (by decide) wf_RX6_12 (by decide) rfl rfl dX6_setPlan_64 ?_
      refine zEV.iload_n dX6_setPlan_67 rfl 2 rfl ?_
      refine zEV.iload_n dX6_setPlan_68 rfl 3 rfl ?_
      refine zEV.iload_n dX6_setPlan_69 rfl 4 rfl ?_
      obtain ⟨q5, hq5, h⟩ := bind_yes h
      refine zEV.callVv (kX0_plan 0 (a1) (a2) (a3) lf_0 q3.2 q5 hq5) (by decide) rfl rfl wm_RX6_243 wc_X0_plan hy_X0_plan rfl ⟨Nat.le_of_ble_eq_true rfl, Nat.le_of_ble_eq_true rfl⟩ rfl (Nat.le_of_ble_eq_true rfl) dX6_setPlan_70 ?_
      refine zEV.iload dX6_setPlan_73 0 rfl ?_
      cases h
      exact zEV.iret rfl dX6_setPlan_75
    · rw [if_neg c4] at h
      refine zEV.bipush (v := (-2)) dX6_setPlan_28 rfl ?_
      cases h
      exact zEV.iret rfl dX6_setPlan_30
  · rw [if_pos c2] at h
    refine zEV.iconst (v := (-1)) dX6_setPlan_13 rfl ?_
    cases h
    exact zEV.iret rfl dX6_setPlan_14
theorem kX6_setPlan (a1 : Int32) (a2 : Int32) (a3 : Int32) (M : zMM) (q : Int32 × zMM) (h : fX6_setPlan a1 a2 a3 M = some q) : zCN yX6_setPlan iX6_setPlan [.inr (.inr 157), .inl a1, .inl a2, .inl a3] M (some (.inl q.1), q.2) :=
  zCN.of (by decide) rfl rfl (Nat.le_of_ble_eq_true rfl) (zEV.perm [0, 1, 2, 3] rfl (tX6_setPlan_0 a1 a2 a3 M q h))
-- RingedPage.plans
def fX6_plans (a1 : Int32) (a2 : Int32) (a3 : Int32) (M : zMM) : Option (Int32 × zMM) :=
  (fX1_mark 0 M).bind fun q1 =>
  (fX6_setPlan (a1) (a2) (a3) q1).bind fun q2 =>
  (fX6_remembered (q2.1) q2.2).bind fun q3 =>
  some (q3.1, q3.2)
set_option maxRecDepth 4000 in
theorem tX6_plans_0 (a1 : Int32) (a2 : Int32) (a3 : Int32) (M : zMM) (q : Int32 × zMM) (h : fX6_plans a1 a2 a3  M = some q) : zEV iX6_plans 0 0 (zZO (some (.inl q.1), q.2)) 0 [(0, .inr (.inr 157)), (1, .inl a1), (2, .inl a2), (3, .inl a3)] [] M := by
  unfold fX6_plans at h
  refine zEV.aload_n dX6_plans_0 rfl 0 rfl ?_
  refine zEV.gfr rfl inz6 4 (by decide) wf_RX6_36 (by decide) rfl rfl dX6_plans_1 ?_
  refine zEV.aload_n dX6_plans_4 rfl 0 rfl ?_
  refine zEV.gfr rfl inz6 0 (by decide) wf_RX6_12 (by decide) rfl rfl dX6_plans_5 ?_
  obtain ⟨q1, hq1, h⟩ := bind_yes h
  refine zEV.callVv (kX1_mark 0 lf_0 M q1 hq1) (by decide) rfl rfl wm_RX6_73 wc_X1_mark hy_X1_mark rfl ⟨Nat.le_of_ble_eq_true rfl, Nat.le_of_ble_eq_true rfl⟩ rfl (Nat.le_of_ble_eq_true rfl) dX6_plans_8 ?_
  refine zEV.aload_n dX6_plans_11 rfl 0 rfl ?_
  refine zEV.aload_n dX6_plans_12 rfl 0 rfl ?_
  refine zEV.iload_n dX6_plans_13 rfl 1 rfl ?_
  refine zEV.iload_n dX6_plans_14 rfl 2 rfl ?_
  refine zEV.iload_n dX6_plans_15 rfl 3 rfl ?_
  obtain ⟨q2, hq2, h⟩ := bind_yes h
  refine zEV.callVi (kX6_setPlan (a1) (a2) (a3)  q1 q2 hq2) (by decide) rfl rfl wm_RX6_303 wc_X6_setPlan hy_X6_setPlan rfl ⟨Nat.le_of_ble_eq_true rfl, Nat.le_of_ble_eq_true rfl⟩ rfl (Nat.le_of_ble_eq_true rfl) dX6_plans_16 ?_
  obtain ⟨q3, hq3, h⟩ := bind_yes h
  refine zEV.callVi (kX6_remembered (q2.1)  q2.2 q3 hq3) (by decide) rfl rfl wm_RX6_87 wc_X6_remembered hy_X6_remembered rfl ⟨Nat.le_of_ble_eq_true rfl, Nat.le_of_ble_eq_true rfl⟩ rfl (Nat.le_of_ble_eq_true rfl) dX6_plans_19 ?_
  cases h
  exact zEV.iret rfl dX6_plans_22
theorem kX6_plans (a1 : Int32) (a2 : Int32) (a3 : Int32) (M : zMM) (q : Int32 × zMM) (h : fX6_plans a1 a2 a3 M = some q) : zCN yX6_plans iX6_plans [.inr (.inr 157), .inl a1, .inl a2, .inl a3] M (some (.inl q.1), q.2) :=
  zCN.of (by decide) rfl rfl (Nat.le_of_ble_eq_true rfl) (zEV.perm [0, 1, 2, 3] rfl (tX6_plans_0 a1 a2 a3 M q h))
-- RingedPage.setBest
def fX6_setBest (a1 : Int32) (a2 : Int32) (M : zMM) : Option (Int32 × zMM) :=
  (fX6_isGrid (a1) (a2) M).bind fun q1 =>
  if q1.1 = (0 : Int32) then
    some ((-1), q1.2)
  else
    (fX0_copy 10 0 q1.2).bind fun q3 =>
    (fX3_findBest 10 (a1) (a2) q3).bind fun q4 =>
    (fX0_hasPlan 0 ((q4.1 148 0)) ((q4.1 148 1)) ((q4.1 148 2)) q4).bind fun q5 =>
    if q5.1 = (0 : Int32) then
      (fX0_plan 0 ((q5.2.1 148 0)) ((q5.2.1 148 1)) ((q5.2.1 148 2)) q5.2).bind fun q7 =>
      some ((q7.1 148 3), q7)
    else
      some ((-2), q5.2)
set_option maxRecDepth 4000 in
theorem tX6_setBest_0 (a1 : Int32) (a2 : Int32) (M : zMM) (q : Int32 × zMM) (h : fX6_setBest a1 a2  M = some q) : zEV iX6_setBest 0 0 (zZO (some (.inl q.1), q.2)) 0 [(0, .inr (.inr 157)), (1, .inl a1), (2, .inl a2)] [] M := by
  unfold fX6_setBest at h
  refine zEV.iload_n dX6_setBest_0 rfl 1 rfl ?_
  refine zEV.iload_n dX6_setBest_1 rfl 2 rfl ?_
  obtain ⟨q1, hq1, h⟩ := bind_yes h
  refine zEV.callSi (kX6_isGrid (a1) (a2)  M q1 hq1) wm_RX6_246 wc_X6_isGrid hy_X6_isGrid rfl ⟨Nat.le_of_ble_eq_true rfl, Nat.le_of_ble_eq_true rfl⟩ rfl (Nat.le_of_ble_eq_true rfl) dX6_setBest_2 ?_
  refine zEV.if_ne 10 dX6_setBest_5 (by decide) (fun c2 => ?_) (fun c2 => ?_)
  · rw [if_neg c2] at h
    refine zEV.aload_n dX6_setBest_10 rfl 0 rfl ?_
    refine zEV.gfr rfl inz6 1 (by decide) wf_RX6_16 (by decide) rfl rfl dX6_setBest_11 ?_
    refine zEV.aload_n dX6_setBest_14 rfl 0 rfl ?_
    refine zEV.gfr rfl inz6 0 (by decide) wf_RX6_12 (by decide) rfl rfl dX6_setBest_15 ?_
    obtain ⟨q3, hq3, h⟩ := bind_yes h
    refine zEV.callVv (kX0_copy 10 0 lf_10 lf_0 q1.2 q3 hq3) (by decide) rfl rfl wm_RX6_240 wc_X0_copy hy_X0_copy rfl ⟨Nat.le_of_ble_eq_true rfl, Nat.le_of_ble_eq_true rfl⟩ rfl (Nat.le_of_ble_eq_true rfl) dX6_setBest_18 ?_
    refine zEV.aload_n dX6_setBest_21 rfl 0 rfl ?_
    refine zEV.gfr rfl inz6 3 (by decide) wf_RX6_29 (by decide) rfl rfl dX6_setBest_22 ?_
    refine zEV.aload_n dX6_setBest_25 rfl 0 rfl ?_
    refine zEV.gfr rfl inz6 1 (by decide) wf_RX6_16 (by decide) rfl rfl dX6_setBest_26 ?_
    refine zEV.aload_n dX6_setBest_29 rfl 0 rfl ?_
    refine zEV.gfr rfl inz6 2 (by decide) wf_RX6_22 (by decide) rfl rfl dX6_setBest_30 ?_
    refine zEV.iload_n dX6_setBest_33 rfl 1 rfl ?_
    refine zEV.iload_n dX6_setBest_34 rfl 2 rfl ?_
    obtain ⟨q4, hq4, h⟩ := bind_yes h
    refine zEV.callVv (kX3_findBest 10 (a1) (a2) lf_10 q3 q4 hq4) (by decide) rfl rfl wm_RX6_249 wc_X3_findBest hy_X3_findBest rfl ⟨Nat.le_of_ble_eq_true rfl, Nat.le_of_ble_eq_true rfl⟩ rfl (Nat.le_of_ble_eq_true rfl) dX6_setBest_35 ?_
    refine zEV.aload_n dX6_setBest_38 rfl 0 rfl ?_
    refine zEV.gfr rfl inz6 0 (by decide) wf_RX6_12 (by decide) rfl rfl dX6_setBest_39 ?_
    refine zEV.aload_n dX6_setBest_42 rfl 0 rfl ?_
    refine zEV.gfr rfl inz6 3 (by decide) wf_RX6_29 (by decide) rfl rfl dX6_setBest_43 ?_
    refine zEV.gfi rfl inz3 0 (by decide) wf_RX6_253 (by decide) rfl rfl dX6_setBest_46 ?_
    refine zEV.aload_n dX6_setBest_49 rfl 0 rfl ?_
    refine zEV.gfr rfl inz6 3 (by decide) wf_RX6_29 (by decide) rfl rfl dX6_setBest_50 ?_
    refine zEV.gfi rfl inz3 1 (by decide) wf_RX6_256 (by decide) rfl rfl dX6_setBest_53 ?_
    refine zEV.aload_n dX6_setBest_56 rfl 0 rfl ?_
    refine zEV.gfr rfl inz6 3 (by decide) wf_RX6_29 (by decide) rfl rfl dX6_setBest_57 ?_
    refine zEV.gfi rfl inz3 2 (by decide) wf_RX6_259 (by decide) rfl rfl dX6_setBest_60 ?_
    obtain ⟨q5, hq5, h⟩ := bind_yes h
    refine zEV.callVi (kX0_hasPlan 0 ((q4.1 148 0)) ((q4.1 148 1)) ((q4.1 148 2)) lf_0 q4 q5 hq5) (by decide) rfl rfl wm_RX6_389 wc_X0_hasPlan hy_X0_hasPlan rfl ⟨Nat.le_of_ble_eq_true rfl, Nat.le_of_ble_eq_true rfl⟩ rfl (Nat.le_of_ble_eq_true rfl) dX6_setBest_63 ?_
    refine zEV.if_eq 72 dX6_setBest_66 (by decide) (fun c6 => ?_) (fun c6 => ?_)
    · rw [if_pos c6] at h
      refine zEV.aload_n dX6_setBest_72 rfl 0 rfl ?_
      refine zEV.gfr rfl inz6 0 (by decide) wf_RX6_12 (by decide) rfl rfl dX6_setBest_73 ?_
      refine zEV.aload_n dX6_setBest_76 rfl 0 rfl ?_
      refine zEV.gfr rfl inz6 3 (by decide) wf_RX6_29 (by decide) rfl rfl dX6_setBest_77 ?_
      refine zEV.gfi rfl inz3 0 (by decide) wf_RX6_253 (by decide) rfl rfl dX6_setBest_80 ?_
      refine zEV.aload_n dX6_setBest_83 rfl 0 rfl ?_
      refine zEV.gfr rfl inz6 3 (by decide) wf_RX6_29 (by decide) rfl rfl dX6_setBest_84 ?_
      refine zEV.gfi rfl inz3 1 (by decide) wf_RX6_256 (by decide) rfl rfl dX6_setBest_87 ?_
      refine zEV.aload_n dX6_setBest_90 rfl 0 rfl ?_
      refine zEV.gfr rfl inz6 3 (by decide) wf_RX6_29 (by decide) rfl rfl dX6_setBest_91 ?_
      refine zEV.gfi rfl inz3 2 (by decide) wf_RX6_259 (by decide) rfl rfl dX6_setBest_94 ?_
      obtain ⟨q7, hq7, h⟩ := bind_yes h
      refine zEV.callVv (kX0_plan 0 ((q5.2.1 148 0)) ((q5.2.1 148 1)) ((q5.2.1 148 2)) lf_0 q5.2 q7 hq7) (by decide) rfl rfl wm_RX6_243 wc_X0_plan hy_X0_plan rfl ⟨Nat.le_of_ble_eq_true rfl, Nat.le_of_ble_eq_true rfl⟩ rfl (Nat.le_of_ble_eq_true rfl) dX6_setBest_97 ?_
      refine zEV.aload_n dX6_setBest_100 rfl 0 rfl ?_
      refine zEV.gfr rfl inz6 3 (by decide) wf_RX6_29 (by decide) rfl rfl dX6_setBest_101 ?_
      refine zEV.gfi rfl inz3 3 (by decide) wf_RX6_265 (by decide) rfl rfl dX6_setBest_104 ?_
      cases h
      exact zEV.iret rfl dX6_setBest_107
    · rw [if_neg c6] at h
      refine zEV.bipush (v := (-2)) dX6_setBest_69 rfl ?_
      cases h
      exact zEV.iret rfl dX6_setBest_71
  · rw [if_pos c2] at h
    refine zEV.iconst (v := (-1)) dX6_setBest_8 rfl ?_
    cases h
    exact zEV.iret rfl dX6_setBest_9
theorem kX6_setBest (a1 : Int32) (a2 : Int32) (M : zMM) (q : Int32 × zMM) (h : fX6_setBest a1 a2 M = some q) : zCN yX6_setBest iX6_setBest [.inr (.inr 157), .inl a1, .inl a2] M (some (.inl q.1), q.2) :=
  zCN.of (by decide) rfl rfl (Nat.le_of_ble_eq_true rfl) (zEV.perm [0, 1, 2] rfl (tX6_setBest_0 a1 a2 M q h))
-- RingedPage.takesBest
def fX6_takesBest (a1 : Int32) (a2 : Int32) (M : zMM) : Option (Int32 × zMM) :=
  (fX1_mark 0 M).bind fun q1 =>
  (fX6_setBest (a1) (a2) q1).bind fun q2 =>
  (fX6_remembered (q2.1) q2.2).bind fun q3 =>
  some (q3.1, q3.2)
set_option maxRecDepth 4000 in
theorem tX6_takesBest_0 (a1 : Int32) (a2 : Int32) (M : zMM) (q : Int32 × zMM) (h : fX6_takesBest a1 a2  M = some q) : zEV iX6_takesBest 0 0 (zZO (some (.inl q.1), q.2)) 0 [(0, .inr (.inr 157)), (1, .inl a1), (2, .inl a2)] [] M := by
  unfold fX6_takesBest at h
  refine zEV.aload_n dX6_takesBest_0 rfl 0 rfl ?_
  refine zEV.gfr rfl inz6 4 (by decide) wf_RX6_36 (by decide) rfl rfl dX6_takesBest_1 ?_
  refine zEV.aload_n dX6_takesBest_4 rfl 0 rfl ?_
  refine zEV.gfr rfl inz6 0 (by decide) wf_RX6_12 (by decide) rfl rfl dX6_takesBest_5 ?_
  obtain ⟨q1, hq1, h⟩ := bind_yes h
  refine zEV.callVv (kX1_mark 0 lf_0 M q1 hq1) (by decide) rfl rfl wm_RX6_73 wc_X1_mark hy_X1_mark rfl ⟨Nat.le_of_ble_eq_true rfl, Nat.le_of_ble_eq_true rfl⟩ rfl (Nat.le_of_ble_eq_true rfl) dX6_takesBest_8 ?_
  refine zEV.aload_n dX6_takesBest_11 rfl 0 rfl ?_
  refine zEV.aload_n dX6_takesBest_12 rfl 0 rfl ?_
  refine zEV.iload_n dX6_takesBest_13 rfl 1 rfl ?_
  refine zEV.iload_n dX6_takesBest_14 rfl 2 rfl ?_
  obtain ⟨q2, hq2, h⟩ := bind_yes h
  refine zEV.callVi (kX6_setBest (a1) (a2)  q1 q2 hq2) (by decide) rfl rfl wm_RX6_307 wc_X6_setBest hy_X6_setBest rfl ⟨Nat.le_of_ble_eq_true rfl, Nat.le_of_ble_eq_true rfl⟩ rfl (Nat.le_of_ble_eq_true rfl) dX6_takesBest_15 ?_
  obtain ⟨q3, hq3, h⟩ := bind_yes h
  refine zEV.callVi (kX6_remembered (q2.1)  q2.2 q3 hq3) (by decide) rfl rfl wm_RX6_87 wc_X6_remembered hy_X6_remembered rfl ⟨Nat.le_of_ble_eq_true rfl, Nat.le_of_ble_eq_true rfl⟩ rfl (Nat.le_of_ble_eq_true rfl) dX6_takesBest_18 ?_
  cases h
  exact zEV.iret rfl dX6_takesBest_21
theorem kX6_takesBest (a1 : Int32) (a2 : Int32) (M : zMM) (q : Int32 × zMM) (h : fX6_takesBest a1 a2 M = some q) : zCN yX6_takesBest iX6_takesBest [.inr (.inr 157), .inl a1, .inl a2] M (some (.inl q.1), q.2) :=
  zCN.of (by decide) rfl rfl (Nat.le_of_ble_eq_true rfl) (zEV.perm [0, 1, 2] rfl (tX6_takesBest_0 a1 a2 M q h))
-- RingedPage.comes
def fX6_comes (a1 : Int32) (a2 : Int32) (a3 : Int32) (M : zMM) : Option (Int32 × zMM) :=
  (fX1_mark 0 M).bind fun q1 =>
  (fX6_putWord 0 (a1) (a2) (a3) q1).bind fun q2 =>
  (fX6_remembered (q2.1) q2.2).bind fun q3 =>
  some (q3.1, q3.2)
set_option maxRecDepth 4000 in
theorem tX6_comes_0 (a1 : Int32) (a2 : Int32) (a3 : Int32) (M : zMM) (q : Int32 × zMM) (h : fX6_comes a1 a2 a3  M = some q) : zEV iX6_comes 0 0 (zZO (some (.inl q.1), q.2)) 0 [(0, .inr (.inr 157)), (1, .inl a1), (2, .inl a2), (3, .inl a3)] [] M := by
  unfold fX6_comes at h
  refine zEV.aload_n dX6_comes_0 rfl 0 rfl ?_
  refine zEV.gfr rfl inz6 4 (by decide) wf_RX6_36 (by decide) rfl rfl dX6_comes_1 ?_
  refine zEV.aload_n dX6_comes_4 rfl 0 rfl ?_
  refine zEV.gfr rfl inz6 0 (by decide) wf_RX6_12 (by decide) rfl rfl dX6_comes_5 ?_
  obtain ⟨q1, hq1, h⟩ := bind_yes h
  refine zEV.callVv (kX1_mark 0 lf_0 M q1 hq1) (by decide) rfl rfl wm_RX6_73 wc_X1_mark hy_X1_mark rfl ⟨Nat.le_of_ble_eq_true rfl, Nat.le_of_ble_eq_true rfl⟩ rfl (Nat.le_of_ble_eq_true rfl) dX6_comes_8 ?_
  refine zEV.aload_n dX6_comes_11 rfl 0 rfl ?_
  refine zEV.aload_n dX6_comes_12 rfl 0 rfl ?_
  refine zEV.gfr rfl inz6 0 (by decide) wf_RX6_12 (by decide) rfl rfl dX6_comes_13 ?_
  refine zEV.iload_n dX6_comes_16 rfl 1 rfl ?_
  refine zEV.iload_n dX6_comes_17 rfl 2 rfl ?_
  refine zEV.iload_n dX6_comes_18 rfl 3 rfl ?_
  obtain ⟨q2, hq2, h⟩ := bind_yes h
  refine zEV.callSi (kX6_putWord 0 (a1) (a2) (a3) lf_0 q1 q2 hq2) wm_RX6_280 wc_X6_putWord hy_X6_putWord rfl ⟨Nat.le_of_ble_eq_true rfl, Nat.le_of_ble_eq_true rfl⟩ rfl (Nat.le_of_ble_eq_true rfl) dX6_comes_19 ?_
  obtain ⟨q3, hq3, h⟩ := bind_yes h
  refine zEV.callVi (kX6_remembered (q2.1)  q2.2 q3 hq3) (by decide) rfl rfl wm_RX6_87 wc_X6_remembered hy_X6_remembered rfl ⟨Nat.le_of_ble_eq_true rfl, Nat.le_of_ble_eq_true rfl⟩ rfl (Nat.le_of_ble_eq_true rfl) dX6_comes_22 ?_
  cases h
  exact zEV.iret rfl dX6_comes_25
theorem kX6_comes (a1 : Int32) (a2 : Int32) (a3 : Int32) (M : zMM) (q : Int32 × zMM) (h : fX6_comes a1 a2 a3 M = some q) : zCN yX6_comes iX6_comes [.inr (.inr 157), .inl a1, .inl a2, .inl a3] M (some (.inl q.1), q.2) :=
  zCN.of (by decide) rfl rfl (Nat.le_of_ble_eq_true rfl) (zEV.perm [0, 1, 2, 3] rfl (tX6_comes_0 a1 a2 a3 M q h))
-- RingedPage.goes
def fX6_goes (a1 : Int32) (a2 : Int32) (M : zMM) : Option (Int32 × zMM) :=
  (fX1_mark 0 M).bind fun q1 =>
  (fX6_dropWord 0 (a1) (a2) q1).bind fun q2 =>
  (fX6_remembered (q2.1) q2.2).bind fun q3 =>
  some (q3.1, q3.2)
set_option maxRecDepth 4000 in
theorem tX6_goes_0 (a1 : Int32) (a2 : Int32) (M : zMM) (q : Int32 × zMM) (h : fX6_goes a1 a2  M = some q) : zEV iX6_goes 0 0 (zZO (some (.inl q.1), q.2)) 0 [(0, .inr (.inr 157)), (1, .inl a1), (2, .inl a2)] [] M := by
  unfold fX6_goes at h
  refine zEV.aload_n dX6_goes_0 rfl 0 rfl ?_
  refine zEV.gfr rfl inz6 4 (by decide) wf_RX6_36 (by decide) rfl rfl dX6_goes_1 ?_
  refine zEV.aload_n dX6_goes_4 rfl 0 rfl ?_
  refine zEV.gfr rfl inz6 0 (by decide) wf_RX6_12 (by decide) rfl rfl dX6_goes_5 ?_
  obtain ⟨q1, hq1, h⟩ := bind_yes h
  refine zEV.callVv (kX1_mark 0 lf_0 M q1 hq1) (by decide) rfl rfl wm_RX6_73 wc_X1_mark hy_X1_mark rfl ⟨Nat.le_of_ble_eq_true rfl, Nat.le_of_ble_eq_true rfl⟩ rfl (Nat.le_of_ble_eq_true rfl) dX6_goes_8 ?_
  refine zEV.aload_n dX6_goes_11 rfl 0 rfl ?_
  refine zEV.aload_n dX6_goes_12 rfl 0 rfl ?_
  refine zEV.gfr rfl inz6 0 (by decide) wf_RX6_12 (by decide) rfl rfl dX6_goes_13 ?_
  refine zEV.iload_n dX6_goes_16 rfl 1 rfl ?_
  refine zEV.iload_n dX6_goes_17 rfl 2 rfl ?_
  obtain ⟨q2, hq2, h⟩ := bind_yes h
  refine zEV.callSi (kX6_dropWord 0 (a1) (a2) lf_0 q1 q2 hq2) wm_RX6_287 wc_X6_dropWord hy_X6_dropWord rfl ⟨Nat.le_of_ble_eq_true rfl, Nat.le_of_ble_eq_true rfl⟩ rfl (Nat.le_of_ble_eq_true rfl) dX6_goes_18 ?_
  obtain ⟨q3, hq3, h⟩ := bind_yes h
  refine zEV.callVi (kX6_remembered (q2.1)  q2.2 q3 hq3) (by decide) rfl rfl wm_RX6_87 wc_X6_remembered hy_X6_remembered rfl ⟨Nat.le_of_ble_eq_true rfl, Nat.le_of_ble_eq_true rfl⟩ rfl (Nat.le_of_ble_eq_true rfl) dX6_goes_21 ?_
  cases h
  exact zEV.iret rfl dX6_goes_24
theorem kX6_goes (a1 : Int32) (a2 : Int32) (M : zMM) (q : Int32 × zMM) (h : fX6_goes a1 a2 M = some q) : zCN yX6_goes iX6_goes [.inr (.inr 157), .inl a1, .inl a2] M (some (.inl q.1), q.2) :=
  zCN.of (by decide) rfl rfl (Nat.le_of_ble_eq_true rfl) (zEV.perm [0, 1, 2] rfl (tX6_goes_0 a1 a2 M q h))
-- RingedPage.digitsOf
def fX6_digitsOf (a0 : Int32) (M : zMM) : Option (Int32 × zMM) :=
  if a0 = (98 : Int32) then
    some (2, M)
  else
    if a0 = (99 : Int32) then
      some (4, M)
    else
      if a0 = (100 : Int32) then
        some ((-1), M)
      else
        if a0 = (101 : Int32) then
          some ((-1), M)
        else
          if a0 = (102 : Int32) then
            some ((-1), M)
          else
            if a0 = (103 : Int32) then
              some (3, M)
            else
              if a0 = (104 : Int32) then
                some (2, M)
              else
                if a0 = (105 : Int32) then
                  some ((-1), M)
                else
                  if a0 = (106 : Int32) then
                    some ((-1), M)
                  else
                    if a0 = (107 : Int32) then
                      some ((-1), M)
                    else
                      if a0 = (108 : Int32) then
                        some ((-1), M)
                      else
                        if a0 = (109 : Int32) then
                          some ((-1), M)
                        else
                          if a0 = (110 : Int32) then
                            some ((-1), M)
                          else
                            if a0 = (111 : Int32) then
                              some ((-1), M)
                            else
                              if a0 = (112 : Int32) then
                                some (5, M)
                              else
                                if a0 = (113 : Int32) then
                                  some ((-1), M)
                                else
                                  if a0 = (114 : Int32) then
                                    some ((-1), M)
                                  else
                                    if a0 = (115 : Int32) then
                                      some ((-1), M)
                                    else
                                      if a0 = (116 : Int32) then
                                        some ((-1), M)
                                      else
                                        if a0 = (117 : Int32) then
                                          some (1, M)
                                        else
                                          if a0 = (118 : Int32) then
                                            some ((-1), M)
                                          else
                                            if a0 = (119 : Int32) then
                                              some (2, M)
                                            else
                                              if a0 = (120 : Int32) then
                                                some (0, M)
                                              else
                                                some ((-1), M)
set_option maxRecDepth 4000 in
theorem tX6_digitsOf_0 (a0 : Int32) (M : zMM) (q : Int32 × zMM) (h : fX6_digitsOf a0  M = some q) : zEV iX6_digitsOf 0 0 (zZO (some (.inl q.1), q.2)) 0 [(0, .inl a0)] [] M := by
  unfold fX6_digitsOf at h
  refine zEV.iload_n dX6_digitsOf_0 rfl 0 rfl ?_
  by_cases c1_0 : a0 = (98 : Int32)
  · rw [if_pos c1_0] at h
    refine zEV.tabIn 112 dX6_digitsOf_1 (98) c1_0 (by decide) (by decide) rfl (by decide) ?_
    refine zEV.iconst (v := 2) dX6_digitsOf_112 rfl ?_
    cases h
    exact zEV.iret rfl dX6_digitsOf_113
  · rw [if_neg c1_0] at h
    by_cases c1_1 : a0 = (99 : Int32)
    · rw [if_pos c1_1] at h
      refine zEV.tabIn 116 dX6_digitsOf_1 (99) c1_1 (by decide) (by decide) rfl (by decide) ?_
      refine zEV.iconst (v := 4) dX6_digitsOf_116 rfl ?_
      cases h
      exact zEV.iret rfl dX6_digitsOf_117
    · rw [if_neg c1_1] at h
      by_cases c1_2 : a0 = (100 : Int32)
      · rw [if_pos c1_2] at h
        refine zEV.tabIn 120 dX6_digitsOf_1 (100) c1_2 (by decide) (by decide) rfl (by decide) ?_
        refine zEV.iconst (v := (-1)) dX6_digitsOf_120 rfl ?_
        cases h
        exact zEV.iret rfl dX6_digitsOf_121
      · rw [if_neg c1_2] at h
        by_cases c1_3 : a0 = (101 : Int32)
        · rw [if_pos c1_3] at h
          refine zEV.tabIn 120 dX6_digitsOf_1 (101) c1_3 (by decide) (by decide) rfl (by decide) ?_
          refine zEV.iconst (v := (-1)) dX6_digitsOf_120 rfl ?_
          cases h
          exact zEV.iret rfl dX6_digitsOf_121
        · rw [if_neg c1_3] at h
          by_cases c1_4 : a0 = (102 : Int32)
          · rw [if_pos c1_4] at h
            refine zEV.tabIn 120 dX6_digitsOf_1 (102) c1_4 (by decide) (by decide) rfl (by decide) ?_
            refine zEV.iconst (v := (-1)) dX6_digitsOf_120 rfl ?_
            cases h
            exact zEV.iret rfl dX6_digitsOf_121
          · rw [if_neg c1_4] at h
            by_cases c1_5 : a0 = (103 : Int32)
            · rw [if_pos c1_5] at h
              refine zEV.tabIn 114 dX6_digitsOf_1 (103) c1_5 (by decide) (by decide) rfl (by decide) ?_
              refine zEV.iconst (v := 3) dX6_digitsOf_114 rfl ?_
              cases h
              exact zEV.iret rfl dX6_digitsOf_115
            · rw [if_neg c1_5] at h
              by_cases c1_6 : a0 = (104 : Int32)
              · rw [if_pos c1_6] at h
                refine zEV.tabIn 112 dX6_digitsOf_1 (104) c1_6 (by decide) (by decide) rfl (by decide) ?_
                refine zEV.iconst (v := 2) dX6_digitsOf_112 rfl ?_
                cases h
                exact zEV.iret rfl dX6_digitsOf_113
              · rw [if_neg c1_6] at h
                by_cases c1_7 : a0 = (105 : Int32)
                · rw [if_pos c1_7] at h
                  refine zEV.tabIn 120 dX6_digitsOf_1 (105) c1_7 (by decide) (by decide) rfl (by decide) ?_
                  refine zEV.iconst (v := (-1)) dX6_digitsOf_120 rfl ?_
                  cases h
                  exact zEV.iret rfl dX6_digitsOf_121
                · rw [if_neg c1_7] at h
                  by_cases c1_8 : a0 = (106 : Int32)
                  · rw [if_pos c1_8] at h
                    refine zEV.tabIn 120 dX6_digitsOf_1 (106) c1_8 (by decide) (by decide) rfl (by decide) ?_
                    refine zEV.iconst (v := (-1)) dX6_digitsOf_120 rfl ?_
                    cases h
                    exact zEV.iret rfl dX6_digitsOf_121
                  · rw [if_neg c1_8] at h
                    by_cases c1_9 : a0 = (107 : Int32)
                    · rw [if_pos c1_9] at h
                      refine zEV.tabIn 120 dX6_digitsOf_1 (107) c1_9 (by decide) (by decide) rfl (by decide) ?_
                      refine zEV.iconst (v := (-1)) dX6_digitsOf_120 rfl ?_
                      cases h
                      exact zEV.iret rfl dX6_digitsOf_121
                    · rw [if_neg c1_9] at h
                      by_cases c1_10 : a0 = (108 : Int32)
                      · rw [if_pos c1_10] at h
                        refine zEV.tabIn 120 dX6_digitsOf_1 (108) c1_10 (by decide) (by decide) rfl (by decide) ?_
                        refine zEV.iconst (v := (-1)) dX6_digitsOf_120 rfl ?_
                        cases h
                        exact zEV.iret rfl dX6_digitsOf_121
                      · rw [if_neg c1_10] at h
                        by_cases c1_11 : a0 = (109 : Int32)
                        · rw [if_pos c1_11] at h
                          refine zEV.tabIn 120 dX6_digitsOf_1 (109) c1_11 (by decide) (by decide) rfl (by decide) ?_
                          refine zEV.iconst (v := (-1)) dX6_digitsOf_120 rfl ?_
                          cases h
                          exact zEV.iret rfl dX6_digitsOf_121
                        · rw [if_neg c1_11] at h
                          by_cases c1_12 : a0 = (110 : Int32)
                          · rw [if_pos c1_12] at h
                            refine zEV.tabIn 120 dX6_digitsOf_1 (110) c1_12 (by decide) (by decide) rfl (by decide) ?_
                            refine zEV.iconst (v := (-1)) dX6_digitsOf_120 rfl ?_
                            cases h
                            exact zEV.iret rfl dX6_digitsOf_121
                          · rw [if_neg c1_12] at h
                            by_cases c1_13 : a0 = (111 : Int32)
                            · rw [if_pos c1_13] at h
                              refine zEV.tabIn 120 dX6_digitsOf_1 (111) c1_13 (by decide) (by decide) rfl (by decide) ?_
                              refine zEV.iconst (v := (-1)) dX6_digitsOf_120 rfl ?_
                              cases h
                              exact zEV.iret rfl dX6_digitsOf_121
                            · rw [if_neg c1_13] at h
                              by_cases c1_14 : a0 = (112 : Int32)
                              · rw [if_pos c1_14] at h
                                refine zEV.tabIn 118 dX6_digitsOf_1 (112) c1_14 (by decide) (by decide) rfl (by decide) ?_
                                refine zEV.iconst (v := 5) dX6_digitsOf_118 rfl ?_
                                cases h
                                exact zEV.iret rfl dX6_digitsOf_119
                              · rw [if_neg c1_14] at h
                                by_cases c1_15 : a0 = (113 : Int32)
                                · rw [if_pos c1_15] at h
                                  refine zEV.tabIn 120 dX6_digitsOf_1 (113) c1_15 (by decide) (by decide) rfl (by decide) ?_
                                  refine zEV.iconst (v := (-1)) dX6_digitsOf_120 rfl ?_
                                  cases h
                                  exact zEV.iret rfl dX6_digitsOf_121
                                · rw [if_neg c1_15] at h
                                  by_cases c1_16 : a0 = (114 : Int32)
                                  · rw [if_pos c1_16] at h
                                    refine zEV.tabIn 120 dX6_digitsOf_1 (114) c1_16 (by decide) (by decide) rfl (by decide) ?_
                                    refine zEV.iconst (v := (-1)) dX6_digitsOf_120 rfl ?_
                                    cases h
                                    exact zEV.iret rfl dX6_digitsOf_121
                                  · rw [if_neg c1_16] at h
                                    by_cases c1_17 : a0 = (115 : Int32)
                                    · rw [if_pos c1_17] at h
                                      refine zEV.tabIn 120 dX6_digitsOf_1 (115) c1_17 (by decide) (by decide) rfl (by decide) ?_
                                      refine zEV.iconst (v := (-1)) dX6_digitsOf_120 rfl ?_
                                      cases h
                                      exact zEV.iret rfl dX6_digitsOf_121
                                    · rw [if_neg c1_17] at h
                                      by_cases c1_18 : a0 = (116 : Int32)
                                      · rw [if_pos c1_18] at h
                                        refine zEV.tabIn 120 dX6_digitsOf_1 (116) c1_18 (by decide) (by decide) rfl (by decide) ?_
                                        refine zEV.iconst (v := (-1)) dX6_digitsOf_120 rfl ?_
                                        cases h
                                        exact zEV.iret rfl dX6_digitsOf_121
                                      · rw [if_neg c1_18] at h
                                        by_cases c1_19 : a0 = (117 : Int32)
                                        · rw [if_pos c1_19] at h
                                          refine zEV.tabIn 110 dX6_digitsOf_1 (117) c1_19 (by decide) (by decide) rfl (by decide) ?_
                                          refine zEV.iconst (v := 1) dX6_digitsOf_110 rfl ?_
                                          cases h
                                          exact zEV.iret rfl dX6_digitsOf_111
                                        · rw [if_neg c1_19] at h
                                          by_cases c1_20 : a0 = (118 : Int32)
                                          · rw [if_pos c1_20] at h
                                            refine zEV.tabIn 120 dX6_digitsOf_1 (118) c1_20 (by decide) (by decide) rfl (by decide) ?_
                                            refine zEV.iconst (v := (-1)) dX6_digitsOf_120 rfl ?_
                                            cases h
                                            exact zEV.iret rfl dX6_digitsOf_121
                                          · rw [if_neg c1_20] at h
                                            by_cases c1_21 : a0 = (119 : Int32)
                                            · rw [if_pos c1_21] at h
                                              refine zEV.tabIn 112 dX6_digitsOf_1 (119) c1_21 (by decide) (by decide) rfl (by decide) ?_
                                              refine zEV.iconst (v := 2) dX6_digitsOf_112 rfl ?_
                                              cases h
                                              exact zEV.iret rfl dX6_digitsOf_113
                                            · rw [if_neg c1_21] at h
                                              by_cases c1_22 : a0 = (120 : Int32)
                                              · rw [if_pos c1_22] at h
                                                refine zEV.tabIn 108 dX6_digitsOf_1 (120) c1_22 (by decide) (by decide) rfl (by decide) ?_
                                                refine zEV.iconst (v := 0) dX6_digitsOf_108 rfl ?_
                                                cases h
                                                exact zEV.iret rfl dX6_digitsOf_109
                                              · rw [if_neg c1_22] at h
                                                refine zEV.tabOut 120 22 dX6_digitsOf_1 (by decide) (by decide) rfl (fun k hk => ?_) (by decide) ?_
                                                · match k, hk with
                                                  | 0, _ => exact c1_0
                                                  | 1, _ => exact c1_1
                                                  | 2, _ => exact c1_2
                                                  | 3, _ => exact c1_3
                                                  | 4, _ => exact c1_4
                                                  | 5, _ => exact c1_5
                                                  | 6, _ => exact c1_6
                                                  | 7, _ => exact c1_7
                                                  | 8, _ => exact c1_8
                                                  | 9, _ => exact c1_9
                                                  | 10, _ => exact c1_10
                                                  | 11, _ => exact c1_11
                                                  | 12, _ => exact c1_12
                                                  | 13, _ => exact c1_13
                                                  | 14, _ => exact c1_14
                                                  | 15, _ => exact c1_15
                                                  | 16, _ => exact c1_16
                                                  | 17, _ => exact c1_17
                                                  | 18, _ => exact c1_18
                                                  | 19, _ => exact c1_19
                                                  | 20, _ => exact c1_20
                                                  | 21, _ => exact c1_21
                                                  | 22, _ => exact c1_22
                                                  | k + 23, hk => exact absurd hk (by omega)
                                                refine zEV.iconst (v := (-1)) dX6_digitsOf_120 rfl ?_
                                                cases h
                                                exact zEV.iret rfl dX6_digitsOf_121
theorem kX6_digitsOf (a0 : Int32) (M : zMM) (q : Int32 × zMM) (h : fX6_digitsOf a0 M = some q) : zCN yX6_digitsOf iX6_digitsOf [.inl a0] M (some (.inl q.1), q.2) :=
  zCN.of (by decide) rfl rfl (Nat.le_of_ble_eq_true rfl) (zEV.perm [0] rfl (tX6_digitsOf_0 a0 M q h))
-- RingedPage.faultOfDay
def fX6_faultOfDay_2 : Nat → Int32 → zMM → Option (Int32 × zMM)
  | 0, _, _ => none
  | n + 1, l1, M =>
  if (M.1 153 1) ≤ l1 then
    some (0, M)
  else
    (fX5_signAt (l1) M).bind fun q2 =>
    (fX6_digitsOf (q2.1) q2.2).bind fun q3 =>
    if (0 : Int32) ≤ q3.1 then
      (fX5_numberAt ((l1 + 1)) (q3.1) q3.2).bind fun q5 =>
      if (0 : Int32) ≤ q5.1 then
        fX6_faultOfDay_2 n ((l1 + (1 + q3.1))) q5.2
      else
        some (q5.1, q5.2)
    else
      some (((-1) - l1), q3.2)
set_option maxRecDepth 4000 in
theorem tX6_faultOfDay_2 : ∀ (n : Nat) (l1 : Int32) (M : zMM) (q : Int32 × zMM), fX6_faultOfDay_2 n l1 M = some q → zEV iX6_faultOfDay 0 0 (zZO (some (.inl q.1), q.2)) 2 [(0, .inr (.inr 157)), (1, .inl l1)] [] M := by
  intro n
  induction n with
  | zero =>
    intro l1 M q h
    rw [fX6_faultOfDay_2] at h
    cases h
  | succ n ih =>
    intro l1 M q h
    rw [fX6_faultOfDay_2] at h
    refine zEV.iload_n dX6_faultOfDay_2 rfl 1 rfl ?_
    refine zEV.aload_n dX6_faultOfDay_3 rfl 0 rfl ?_
    refine zEV.gfr rfl inz6 7 (by decide) wf_RX6_51 (by decide) rfl rfl dX6_faultOfDay_4 ?_
    refine zEV.gfi rfl inz5 1 (by decide) wf_RX6_66 (by decide) rfl rfl dX6_faultOfDay_7 ?_
    refine zEV.icmp_ge 60 dX6_faultOfDay_10 (by decide) (fun c1 => ?_) (fun c1 => ?_)
    · rw [if_pos c1] at h
      refine zEV.iconst (v := 0) dX6_faultOfDay_60 rfl ?_
      cases h
      exact zEV.iret rfl dX6_faultOfDay_61
    · rw [if_neg c1] at h
      refine zEV.aload_n dX6_faultOfDay_13 rfl 0 rfl ?_
      refine zEV.gfr rfl inz6 7 (by decide) wf_RX6_51 (by decide) rfl rfl dX6_faultOfDay_14 ?_
      refine zEV.iload_n dX6_faultOfDay_17 rfl 1 rfl ?_
      obtain ⟨q2, hq2, h⟩ := bind_yes h
      refine zEV.callVi (kX5_signAt (l1)  M q2 hq2) (by decide) rfl rfl wm_RX6_316 wc_X5_signAt hy_X5_signAt rfl ⟨Nat.le_of_ble_eq_true rfl, Nat.le_of_ble_eq_true rfl⟩ rfl (Nat.le_of_ble_eq_true rfl) dX6_faultOfDay_18 ?_
      obtain ⟨q3, hq3, h⟩ := bind_yes h
      refine zEV.callSi (kX6_digitsOf (q2.1)  q2.2 q3 hq3) wm_RX6_319 wc_X6_digitsOf hy_X6_digitsOf rfl ⟨Nat.le_of_ble_eq_true rfl, Nat.le_of_ble_eq_true rfl⟩ rfl (Nat.le_of_ble_eq_true rfl) dX6_faultOfDay_21 ?_
      refine zEV.istore_n dX6_faultOfDay_24 rfl (Nat.le_of_ble_eq_true rfl) rfl ?_
      refine zEV.iload_n dX6_faultOfDay_25 rfl 0 rfl ?_
      refine zEV.if_ge 33 dX6_faultOfDay_26 (by decide) (fun c4 => ?_) (fun c4 => ?_)
      · rw [if_pos c4] at h
        refine zEV.aload_n dX6_faultOfDay_33 rfl 1 rfl ?_
        refine zEV.gfr rfl inz6 7 (by decide) wf_RX6_51 (by decide) rfl rfl dX6_faultOfDay_34 ?_
        refine zEV.iload_n dX6_faultOfDay_37 rfl 2 rfl ?_
        refine zEV.iconst (v := 1) dX6_faultOfDay_38 rfl ?_
        refine zEV.iadd dX6_faultOfDay_39 ?_
        refine zEV.iload_n dX6_faultOfDay_40 rfl 0 rfl ?_
        obtain ⟨q5, hq5, h⟩ := bind_yes h
        refine zEV.callVi (kX5_numberAt ((l1 + 1)) (q3.1)  q3.2 q5 hq5) (by decide) rfl rfl wm_RX6_364 wc_X5_numberAt hy_X5_numberAt rfl ⟨Nat.le_of_ble_eq_true rfl, Nat.le_of_ble_eq_true rfl⟩ rfl (Nat.le_of_ble_eq_true rfl) dX6_faultOfDay_41 ?_
        refine zEV.istore_n dX6_faultOfDay_44 rfl (Nat.le_of_ble_eq_true rfl) rfl ?_
        refine zEV.iload_n dX6_faultOfDay_45 rfl 0 rfl ?_
        refine zEV.if_ge 51 dX6_faultOfDay_46 (by decide) (fun c6 => ?_) (fun c6 => ?_)
        · rw [if_pos c6] at h
          refine zEV.iload_n dX6_faultOfDay_51 rfl 3 rfl ?_
          refine zEV.iconst (v := 1) dX6_faultOfDay_52 rfl ?_
          refine zEV.iload_n dX6_faultOfDay_53 rfl 1 rfl ?_
          refine zEV.iadd dX6_faultOfDay_54 ?_
          refine zEV.iadd dX6_faultOfDay_55 ?_
          refine zEV.istore_n dX6_faultOfDay_56 rfl (Nat.le_of_ble_eq_true rfl) rfl ?_
          refine zEV.goto 2 dX6_faultOfDay_57 (by decide) ?_
          exact zEV.perm [3, 0] rfl (ih ((l1 + (1 + q3.1))) q5.2 q h)
        · rw [if_neg c6] at h
          refine zEV.iload_n dX6_faultOfDay_49 rfl 0 rfl ?_
          cases h
          exact zEV.iret rfl dX6_faultOfDay_50
      · rw [if_neg c4] at h
        refine zEV.iconst (v := (-1)) dX6_faultOfDay_29 rfl ?_
        refine zEV.iload_n dX6_faultOfDay_30 rfl 2 rfl ?_
        refine zEV.isub dX6_faultOfDay_31 ?_
        cases h
        exact zEV.iret rfl dX6_faultOfDay_32
def fX6_faultOfDay (M : zMM) : Option (Int32 × zMM) :=
  fX6_faultOfDay_2 zFU (0) M
set_option maxRecDepth 4000 in
theorem tX6_faultOfDay_0 (M : zMM) (q : Int32 × zMM) (h : fX6_faultOfDay  M = some q) : zEV iX6_faultOfDay 0 0 (zZO (some (.inl q.1), q.2)) 0 [(0, .inr (.inr 157))] [] M := by
  unfold fX6_faultOfDay at h
  refine zEV.iconst (v := 0) dX6_faultOfDay_0 rfl ?_
  refine zEV.istore_n dX6_faultOfDay_1 rfl (Nat.le_of_ble_eq_true rfl) rfl ?_
  exact zEV.perm [1, 0] rfl (tX6_faultOfDay_2 zFU (0) M q h)
theorem kX6_faultOfDay (M : zMM) (q : Int32 × zMM) (h : fX6_faultOfDay M = some q) : zCN yX6_faultOfDay iX6_faultOfDay [.inr (.inr 157)] M (some (.inl q.1), q.2) :=
  zCN.of (by decide) rfl rfl (Nat.le_of_ble_eq_true rfl) (zEV.perm [0] rfl (tX6_faultOfDay_0 M q h))
-- RingedPage.doAct
def fX6_doAct (a1 : Int32) (M : zMM) : Option (Int32 × zMM) :=
  (fX5_signAt (a1) M).bind fun q1 =>
  if q1.1 = (98 : Int32) then
    (fX5_numberAt ((a1 + 1)) (1) q1.2).bind fun q3 =>
    (fX5_numberAt ((a1 + 2)) (1) q3.2).bind fun q4 =>
    (fX6_setBest (q3.1) (q4.1) q4.2).bind fun q5 =>
    some (q5.1, q5.2)
  else
    if q1.1 = (99 : Int32) then
      (fX5_numberAt ((a1 + 1)) (1) q1.2).bind fun q6 =>
      (fX5_numberAt ((a1 + 2)) (2) q6.2).bind fun q7 =>
      (fX5_numberAt ((a1 + 4)) (1) q7.2).bind fun q8 =>
      (fX6_putWord 0 (q6.1) (q7.1) (q8.1) q8.2).bind fun q9 =>
      some (q9.1, q9.2)
    else
      if q1.1 = (100 : Int32) then
        some ((-1), q1.2)
      else
        if q1.1 = (101 : Int32) then
          some ((-1), q1.2)
        else
          if q1.1 = (102 : Int32) then
            some ((-1), q1.2)
          else
            if q1.1 = (103 : Int32) then
              (fX5_numberAt ((a1 + 1)) (1) q1.2).bind fun q10 =>
              (fX5_numberAt ((a1 + 2)) (2) q10.2).bind fun q11 =>
              (fX6_dropWord 0 (q10.1) (q11.1) q11.2).bind fun q12 =>
              some (q12.1, q12.2)
            else
              if q1.1 = (104 : Int32) then
                (fX5_numberAt ((a1 + 1)) (2) q1.2).bind fun q13 =>
                (fX6_setMeasure (1) (q13.1) q13.2).bind fun q14 =>
                some (q14.1, q14.2)
              else
                if q1.1 = (105 : Int32) then
                  some ((-1), q1.2)
                else
                  if q1.1 = (106 : Int32) then
                    some ((-1), q1.2)
                  else
                    if q1.1 = (107 : Int32) then
                      some ((-1), q1.2)
                    else
                      if q1.1 = (108 : Int32) then
                        some ((-1), q1.2)
                      else
                        if q1.1 = (109 : Int32) then
                          some ((-1), q1.2)
                        else
                          if q1.1 = (110 : Int32) then
                            some ((-1), q1.2)
                          else
                            if q1.1 = (111 : Int32) then
                              some ((-1), q1.2)
                            else
                              if q1.1 = (112 : Int32) then
                                (fX5_numberAt ((a1 + 1)) (1) q1.2).bind fun q15 =>
                                (fX5_numberAt ((a1 + 2)) (2) q15.2).bind fun q16 =>
                                (fX5_numberAt ((a1 + 4)) (2) q16.2).bind fun q17 =>
                                (fX6_setPlan (q15.1) (q16.1) (q17.1) q17.2).bind fun q18 =>
                                some (q18.1, q18.2)
                              else
                                if q1.1 = (113 : Int32) then
                                  some ((-1), q1.2)
                                else
                                  if q1.1 = (114 : Int32) then
                                    some ((-1), q1.2)
                                  else
                                    if q1.1 = (115 : Int32) then
                                      some ((-1), q1.2)
                                    else
                                      if q1.1 = (116 : Int32) then
                                        some ((-1), q1.2)
                                      else
                                        if q1.1 = (117 : Int32) then
                                          (fX5_numberAt ((a1 + 1)) (1) q1.2).bind fun q19 =>
                                          (fX6_setMeasure (2) (q19.1) q19.2).bind fun q20 =>
                                          some (q20.1, q20.2)
                                        else
                                          if q1.1 = (118 : Int32) then
                                            some ((-1), q1.2)
                                          else
                                            if q1.1 = (119 : Int32) then
                                              (fX5_numberAt ((a1 + 1)) (2) q1.2).bind fun q21 =>
                                              (fX6_setMeasure (0) (q21.1) q21.2).bind fun q22 =>
                                              some (q22.1, q22.2)
                                            else
                                              if q1.1 = (120 : Int32) then
                                                (fX6_swapComments  q1.2).bind fun q23 =>
                                                some (q23.1, q23.2)
                                              else
                                                some ((-1), q1.2)
set_option maxRecDepth 4000 in
theorem tX6_doAct_0 (a1 : Int32) (M : zMM) (q : Int32 × zMM) (h : fX6_doAct a1  M = some q) : zEV iX6_doAct 0 0 (zZO (some (.inl q.1), q.2)) 0 [(0, .inr (.inr 157)), (1, .inl a1)] [] M := by
  unfold fX6_doAct at h
  refine zEV.aload_n dX6_doAct_0 rfl 0 rfl ?_
  refine zEV.gfr rfl inz6 7 (by decide) wf_RX6_51 (by decide) rfl rfl dX6_doAct_1 ?_
  refine zEV.iload_n dX6_doAct_4 rfl 1 rfl ?_
  obtain ⟨q1, hq1, h⟩ := bind_yes h
  refine zEV.callVi (kX5_signAt (a1)  M q1 hq1) (by decide) rfl rfl wm_RX6_316 wc_X5_signAt hy_X5_signAt rfl ⟨Nat.le_of_ble_eq_true rfl, Nat.le_of_ble_eq_true rfl⟩ rfl (Nat.le_of_ble_eq_true rfl) dX6_doAct_5 ?_
  by_cases c2_0 : q1.1 = (98 : Int32)
  · rw [if_pos c2_0] at h
    refine zEV.tabIn 281 dX6_doAct_8 (98) c2_0 (by decide) (by decide) rfl (by decide) ?_
    refine zEV.aload_n dX6_doAct_281 rfl 0 rfl ?_
    refine zEV.aload_n dX6_doAct_282 rfl 0 rfl ?_
    refine zEV.gfr rfl inz6 7 (by decide) wf_RX6_51 (by decide) rfl rfl dX6_doAct_283 ?_
    refine zEV.iload_n dX6_doAct_286 rfl 1 rfl ?_
    refine zEV.iconst (v := 1) dX6_doAct_287 rfl ?_
    refine zEV.iadd dX6_doAct_288 ?_
    refine zEV.iconst (v := 1) dX6_doAct_289 rfl ?_
    obtain ⟨q3, hq3, h⟩ := bind_yes h
    refine zEV.callVi (kX5_numberAt ((a1 + 1)) (1)  q1.2 q3 hq3) (by decide) rfl rfl wm_RX6_364 wc_X5_numberAt hy_X5_numberAt rfl ⟨Nat.le_of_ble_eq_true rfl, Nat.le_of_ble_eq_true rfl⟩ rfl (Nat.le_of_ble_eq_true rfl) dX6_doAct_290 ?_
    refine zEV.aload_n dX6_doAct_293 rfl 0 rfl ?_
    refine zEV.gfr rfl inz6 7 (by decide) wf_RX6_51 (by decide) rfl rfl dX6_doAct_294 ?_
    refine zEV.iload_n dX6_doAct_297 rfl 1 rfl ?_
    refine zEV.iconst (v := 2) dX6_doAct_298 rfl ?_
    refine zEV.iadd dX6_doAct_299 ?_
    refine zEV.iconst (v := 1) dX6_doAct_300 rfl ?_
    obtain ⟨q4, hq4, h⟩ := bind_yes h
    refine zEV.callVi (kX5_numberAt ((a1 + 2)) (1)  q3.2 q4 hq4) (by decide) rfl rfl wm_RX6_364 wc_X5_numberAt hy_X5_numberAt rfl ⟨Nat.le_of_ble_eq_true rfl, Nat.le_of_ble_eq_true rfl⟩ rfl (Nat.le_of_ble_eq_true rfl) dX6_doAct_301 ?_
    obtain ⟨q5, hq5, h⟩ := bind_yes h
    refine zEV.callVi (kX6_setBest (q3.1) (q4.1)  q4.2 q5 hq5) (by decide) rfl rfl wm_RX6_307 wc_X6_setBest hy_X6_setBest rfl ⟨Nat.le_of_ble_eq_true rfl, Nat.le_of_ble_eq_true rfl⟩ rfl (Nat.le_of_ble_eq_true rfl) dX6_doAct_304 ?_
    cases h
    exact zEV.iret rfl dX6_doAct_307
  · rw [if_neg c2_0] at h
    by_cases c2_1 : q1.1 = (99 : Int32)
    · rw [if_pos c2_1] at h
      refine zEV.tabIn 210 dX6_doAct_8 (99) c2_1 (by decide) (by decide) rfl (by decide) ?_
      refine zEV.aload_n dX6_doAct_210 rfl 0 rfl ?_
      refine zEV.gfr rfl inz6 0 (by decide) wf_RX6_12 (by decide) rfl rfl dX6_doAct_211 ?_
      refine zEV.aload_n dX6_doAct_214 rfl 0 rfl ?_
      refine zEV.gfr rfl inz6 7 (by decide) wf_RX6_51 (by decide) rfl rfl dX6_doAct_215 ?_
      refine zEV.iload_n dX6_doAct_218 rfl 1 rfl ?_
      refine zEV.iconst (v := 1) dX6_doAct_219 rfl ?_
      refine zEV.iadd dX6_doAct_220 ?_
      refine zEV.iconst (v := 1) dX6_doAct_221 rfl ?_
      obtain ⟨q6, hq6, h⟩ := bind_yes h
      refine zEV.callVi (kX5_numberAt ((a1 + 1)) (1)  q1.2 q6 hq6) (by decide) rfl rfl wm_RX6_364 wc_X5_numberAt hy_X5_numberAt rfl ⟨Nat.le_of_ble_eq_true rfl, Nat.le_of_ble_eq_true rfl⟩ rfl (Nat.le_of_ble_eq_true rfl) dX6_doAct_222 ?_
      refine zEV.aload_n dX6_doAct_225 rfl 0 rfl ?_
      refine zEV.gfr rfl inz6 7 (by decide) wf_RX6_51 (by decide) rfl rfl dX6_doAct_226 ?_
      refine zEV.iload_n dX6_doAct_229 rfl 1 rfl ?_
      refine zEV.iconst (v := 2) dX6_doAct_230 rfl ?_
      refine zEV.iadd dX6_doAct_231 ?_
      refine zEV.iconst (v := 2) dX6_doAct_232 rfl ?_
      obtain ⟨q7, hq7, h⟩ := bind_yes h
      refine zEV.callVi (kX5_numberAt ((a1 + 2)) (2)  q6.2 q7 hq7) (by decide) rfl rfl wm_RX6_364 wc_X5_numberAt hy_X5_numberAt rfl ⟨Nat.le_of_ble_eq_true rfl, Nat.le_of_ble_eq_true rfl⟩ rfl (Nat.le_of_ble_eq_true rfl) dX6_doAct_233 ?_
      refine zEV.aload_n dX6_doAct_236 rfl 0 rfl ?_
      refine zEV.gfr rfl inz6 7 (by decide) wf_RX6_51 (by decide) rfl rfl dX6_doAct_237 ?_
      refine zEV.iload_n dX6_doAct_240 rfl 1 rfl ?_
      refine zEV.iconst (v := 4) dX6_doAct_241 rfl ?_
      refine zEV.iadd dX6_doAct_242 ?_
      refine zEV.iconst (v := 1) dX6_doAct_243 rfl ?_
      obtain ⟨q8, hq8, h⟩ := bind_yes h
      refine zEV.callVi (kX5_numberAt ((a1 + 4)) (1)  q7.2 q8 hq8) (by decide) rfl rfl wm_RX6_364 wc_X5_numberAt hy_X5_numberAt rfl ⟨Nat.le_of_ble_eq_true rfl, Nat.le_of_ble_eq_true rfl⟩ rfl (Nat.le_of_ble_eq_true rfl) dX6_doAct_244 ?_
      obtain ⟨q9, hq9, h⟩ := bind_yes h
      refine zEV.callSi (kX6_putWord 0 (q6.1) (q7.1) (q8.1) lf_0 q8.2 q9 hq9) wm_RX6_280 wc_X6_putWord hy_X6_putWord rfl ⟨Nat.le_of_ble_eq_true rfl, Nat.le_of_ble_eq_true rfl⟩ rfl (Nat.le_of_ble_eq_true rfl) dX6_doAct_247 ?_
      cases h
      exact zEV.iret rfl dX6_doAct_250
    · rw [if_neg c2_1] at h
      by_cases c2_2 : q1.1 = (100 : Int32)
      · rw [if_pos c2_2] at h
        refine zEV.tabIn 308 dX6_doAct_8 (100) c2_2 (by decide) (by decide) rfl (by decide) ?_
        refine zEV.iconst (v := (-1)) dX6_doAct_308 rfl ?_
        cases h
        exact zEV.iret rfl dX6_doAct_309
      · rw [if_neg c2_2] at h
        by_cases c2_3 : q1.1 = (101 : Int32)
        · rw [if_pos c2_3] at h
          refine zEV.tabIn 308 dX6_doAct_8 (101) c2_3 (by decide) (by decide) rfl (by decide) ?_
          refine zEV.iconst (v := (-1)) dX6_doAct_308 rfl ?_
          cases h
          exact zEV.iret rfl dX6_doAct_309
        · rw [if_neg c2_3] at h
          by_cases c2_4 : q1.1 = (102 : Int32)
          · rw [if_pos c2_4] at h
            refine zEV.tabIn 308 dX6_doAct_8 (102) c2_4 (by decide) (by decide) rfl (by decide) ?_
            refine zEV.iconst (v := (-1)) dX6_doAct_308 rfl ?_
            cases h
            exact zEV.iret rfl dX6_doAct_309
          · rw [if_neg c2_4] at h
            by_cases c2_5 : q1.1 = (103 : Int32)
            · rw [if_pos c2_5] at h
              refine zEV.tabIn 251 dX6_doAct_8 (103) c2_5 (by decide) (by decide) rfl (by decide) ?_
              refine zEV.aload_n dX6_doAct_251 rfl 0 rfl ?_
              refine zEV.gfr rfl inz6 0 (by decide) wf_RX6_12 (by decide) rfl rfl dX6_doAct_252 ?_
              refine zEV.aload_n dX6_doAct_255 rfl 0 rfl ?_
              refine zEV.gfr rfl inz6 7 (by decide) wf_RX6_51 (by decide) rfl rfl dX6_doAct_256 ?_
              refine zEV.iload_n dX6_doAct_259 rfl 1 rfl ?_
              refine zEV.iconst (v := 1) dX6_doAct_260 rfl ?_
              refine zEV.iadd dX6_doAct_261 ?_
              refine zEV.iconst (v := 1) dX6_doAct_262 rfl ?_
              obtain ⟨q10, hq10, h⟩ := bind_yes h
              refine zEV.callVi (kX5_numberAt ((a1 + 1)) (1)  q1.2 q10 hq10) (by decide) rfl rfl wm_RX6_364 wc_X5_numberAt hy_X5_numberAt rfl ⟨Nat.le_of_ble_eq_true rfl, Nat.le_of_ble_eq_true rfl⟩ rfl (Nat.le_of_ble_eq_true rfl) dX6_doAct_263 ?_
              refine zEV.aload_n dX6_doAct_266 rfl 0 rfl ?_
              refine zEV.gfr rfl inz6 7 (by decide) wf_RX6_51 (by decide) rfl rfl dX6_doAct_267 ?_
              refine zEV.iload_n dX6_doAct_270 rfl 1 rfl ?_
              refine zEV.iconst (v := 2) dX6_doAct_271 rfl ?_
              refine zEV.iadd dX6_doAct_272 ?_
              refine zEV.iconst (v := 2) dX6_doAct_273 rfl ?_
              obtain ⟨q11, hq11, h⟩ := bind_yes h
              refine zEV.callVi (kX5_numberAt ((a1 + 2)) (2)  q10.2 q11 hq11) (by decide) rfl rfl wm_RX6_364 wc_X5_numberAt hy_X5_numberAt rfl ⟨Nat.le_of_ble_eq_true rfl, Nat.le_of_ble_eq_true rfl⟩ rfl (Nat.le_of_ble_eq_true rfl) dX6_doAct_274 ?_
              obtain ⟨q12, hq12, h⟩ := bind_yes h
              refine zEV.callSi (kX6_dropWord 0 (q10.1) (q11.1) lf_0 q11.2 q12 hq12) wm_RX6_287 wc_X6_dropWord hy_X6_dropWord rfl ⟨Nat.le_of_ble_eq_true rfl, Nat.le_of_ble_eq_true rfl⟩ rfl (Nat.le_of_ble_eq_true rfl) dX6_doAct_277 ?_
              cases h
              exact zEV.iret rfl dX6_doAct_280
            · rw [if_neg c2_5] at h
              by_cases c2_6 : q1.1 = (104 : Int32)
              · rw [if_pos c2_6] at h
                refine zEV.tabIn 133 dX6_doAct_8 (104) c2_6 (by decide) (by decide) rfl (by decide) ?_
                refine zEV.aload_n dX6_doAct_133 rfl 0 rfl ?_
                refine zEV.iconst (v := 1) dX6_doAct_134 rfl ?_
                refine zEV.aload_n dX6_doAct_135 rfl 0 rfl ?_
                refine zEV.gfr rfl inz6 7 (by decide) wf_RX6_51 (by decide) rfl rfl dX6_doAct_136 ?_
                refine zEV.iload_n dX6_doAct_139 rfl 1 rfl ?_
                refine zEV.iconst (v := 1) dX6_doAct_140 rfl ?_
                refine zEV.iadd dX6_doAct_141 ?_
                refine zEV.iconst (v := 2) dX6_doAct_142 rfl ?_
                obtain ⟨q13, hq13, h⟩ := bind_yes h
                refine zEV.callVi (kX5_numberAt ((a1 + 1)) (2)  q1.2 q13 hq13) (by decide) rfl rfl wm_RX6_364 wc_X5_numberAt hy_X5_numberAt rfl ⟨Nat.le_of_ble_eq_true rfl, Nat.le_of_ble_eq_true rfl⟩ rfl (Nat.le_of_ble_eq_true rfl) dX6_doAct_143 ?_
                obtain ⟨q14, hq14, h⟩ := bind_yes h
                refine zEV.callVi (kX6_setMeasure (1) (q13.1)  q13.2 q14 hq14) (by decide) rfl rfl wm_RX6_291 wc_X6_setMeasure hy_X6_setMeasure rfl ⟨Nat.le_of_ble_eq_true rfl, Nat.le_of_ble_eq_true rfl⟩ rfl (Nat.le_of_ble_eq_true rfl) dX6_doAct_146 ?_
                cases h
                exact zEV.iret rfl dX6_doAct_149
              · rw [if_neg c2_6] at h
                by_cases c2_7 : q1.1 = (105 : Int32)
                · rw [if_pos c2_7] at h
                  refine zEV.tabIn 308 dX6_doAct_8 (105) c2_7 (by decide) (by decide) rfl (by decide) ?_
                  refine zEV.iconst (v := (-1)) dX6_doAct_308 rfl ?_
                  cases h
                  exact zEV.iret rfl dX6_doAct_309
                · rw [if_neg c2_7] at h
                  by_cases c2_8 : q1.1 = (106 : Int32)
                  · rw [if_pos c2_8] at h
                    refine zEV.tabIn 308 dX6_doAct_8 (106) c2_8 (by decide) (by decide) rfl (by decide) ?_
                    refine zEV.iconst (v := (-1)) dX6_doAct_308 rfl ?_
                    cases h
                    exact zEV.iret rfl dX6_doAct_309
                  · rw [if_neg c2_8] at h
                    by_cases c2_9 : q1.1 = (107 : Int32)
                    · rw [if_pos c2_9] at h
                      refine zEV.tabIn 308 dX6_doAct_8 (107) c2_9 (by decide) (by decide) rfl (by decide) ?_
                      refine zEV.iconst (v := (-1)) dX6_doAct_308 rfl ?_
                      cases h
                      exact zEV.iret rfl dX6_doAct_309
                    · rw [if_neg c2_9] at h
                      by_cases c2_10 : q1.1 = (108 : Int32)
                      · rw [if_pos c2_10] at h
                        refine zEV.tabIn 308 dX6_doAct_8 (108) c2_10 (by decide) (by decide) rfl (by decide) ?_
                        refine zEV.iconst (v := (-1)) dX6_doAct_308 rfl ?_
                        cases h
                        exact zEV.iret rfl dX6_doAct_309
                      · rw [if_neg c2_10] at h
                        by_cases c2_11 : q1.1 = (109 : Int32)
                        · rw [if_pos c2_11] at h
                          refine zEV.tabIn 308 dX6_doAct_8 (109) c2_11 (by decide) (by decide) rfl (by decide) ?_
                          refine zEV.iconst (v := (-1)) dX6_doAct_308 rfl ?_
                          cases h
                          exact zEV.iret rfl dX6_doAct_309
                        · rw [if_neg c2_11] at h
                          by_cases c2_12 : q1.1 = (110 : Int32)
                          · rw [if_pos c2_12] at h
                            refine zEV.tabIn 308 dX6_doAct_8 (110) c2_12 (by decide) (by decide) rfl (by decide) ?_
                            refine zEV.iconst (v := (-1)) dX6_doAct_308 rfl ?_
                            cases h
                            exact zEV.iret rfl dX6_doAct_309
                          · rw [if_neg c2_12] at h
                            by_cases c2_13 : q1.1 = (111 : Int32)
                            · rw [if_pos c2_13] at h
                              refine zEV.tabIn 308 dX6_doAct_8 (111) c2_13 (by decide) (by decide) rfl (by decide) ?_
                              refine zEV.iconst (v := (-1)) dX6_doAct_308 rfl ?_
                              cases h
                              exact zEV.iret rfl dX6_doAct_309
                            · rw [if_neg c2_13] at h
                              by_cases c2_14 : q1.1 = (112 : Int32)
                              · rw [if_pos c2_14] at h
                                refine zEV.tabIn 172 dX6_doAct_8 (112) c2_14 (by decide) (by decide) rfl (by decide) ?_
                                refine zEV.aload_n dX6_doAct_172 rfl 0 rfl ?_
                                refine zEV.aload_n dX6_doAct_173 rfl 0 rfl ?_
                                refine zEV.gfr rfl inz6 7 (by decide) wf_RX6_51 (by decide) rfl rfl dX6_doAct_174 ?_
                                refine zEV.iload_n dX6_doAct_177 rfl 1 rfl ?_
                                refine zEV.iconst (v := 1) dX6_doAct_178 rfl ?_
                                refine zEV.iadd dX6_doAct_179 ?_
                                refine zEV.iconst (v := 1) dX6_doAct_180 rfl ?_
                                obtain ⟨q15, hq15, h⟩ := bind_yes h
                                refine zEV.callVi (kX5_numberAt ((a1 + 1)) (1)  q1.2 q15 hq15) (by decide) rfl rfl wm_RX6_364 wc_X5_numberAt hy_X5_numberAt rfl ⟨Nat.le_of_ble_eq_true rfl, Nat.le_of_ble_eq_true rfl⟩ rfl (Nat.le_of_ble_eq_true rfl) dX6_doAct_181 ?_
                                refine zEV.aload_n dX6_doAct_184 rfl 0 rfl ?_
                                refine zEV.gfr rfl inz6 7 (by decide) wf_RX6_51 (by decide) rfl rfl dX6_doAct_185 ?_
                                refine zEV.iload_n dX6_doAct_188 rfl 1 rfl ?_
                                refine zEV.iconst (v := 2) dX6_doAct_189 rfl ?_
                                refine zEV.iadd dX6_doAct_190 ?_
                                refine zEV.iconst (v := 2) dX6_doAct_191 rfl ?_
                                obtain ⟨q16, hq16, h⟩ := bind_yes h
                                refine zEV.callVi (kX5_numberAt ((a1 + 2)) (2)  q15.2 q16 hq16) (by decide) rfl rfl wm_RX6_364 wc_X5_numberAt hy_X5_numberAt rfl ⟨Nat.le_of_ble_eq_true rfl, Nat.le_of_ble_eq_true rfl⟩ rfl (Nat.le_of_ble_eq_true rfl) dX6_doAct_192 ?_
                                refine zEV.aload_n dX6_doAct_195 rfl 0 rfl ?_
                                refine zEV.gfr rfl inz6 7 (by decide) wf_RX6_51 (by decide) rfl rfl dX6_doAct_196 ?_
                                refine zEV.iload_n dX6_doAct_199 rfl 1 rfl ?_
                                refine zEV.iconst (v := 4) dX6_doAct_200 rfl ?_
                                refine zEV.iadd dX6_doAct_201 ?_
                                refine zEV.iconst (v := 2) dX6_doAct_202 rfl ?_
                                obtain ⟨q17, hq17, h⟩ := bind_yes h
                                refine zEV.callVi (kX5_numberAt ((a1 + 4)) (2)  q16.2 q17 hq17) (by decide) rfl rfl wm_RX6_364 wc_X5_numberAt hy_X5_numberAt rfl ⟨Nat.le_of_ble_eq_true rfl, Nat.le_of_ble_eq_true rfl⟩ rfl (Nat.le_of_ble_eq_true rfl) dX6_doAct_203 ?_
                                obtain ⟨q18, hq18, h⟩ := bind_yes h
                                refine zEV.callVi (kX6_setPlan (q15.1) (q16.1) (q17.1)  q17.2 q18 hq18) (by decide) rfl rfl wm_RX6_303 wc_X6_setPlan hy_X6_setPlan rfl ⟨Nat.le_of_ble_eq_true rfl, Nat.le_of_ble_eq_true rfl⟩ rfl (Nat.le_of_ble_eq_true rfl) dX6_doAct_206 ?_
                                cases h
                                exact zEV.iret rfl dX6_doAct_209
                              · rw [if_neg c2_14] at h
                                by_cases c2_15 : q1.1 = (113 : Int32)
                                · rw [if_pos c2_15] at h
                                  refine zEV.tabIn 308 dX6_doAct_8 (113) c2_15 (by decide) (by decide) rfl (by decide) ?_
                                  refine zEV.iconst (v := (-1)) dX6_doAct_308 rfl ?_
                                  cases h
                                  exact zEV.iret rfl dX6_doAct_309
                                · rw [if_neg c2_15] at h
                                  by_cases c2_16 : q1.1 = (114 : Int32)
                                  · rw [if_pos c2_16] at h
                                    refine zEV.tabIn 308 dX6_doAct_8 (114) c2_16 (by decide) (by decide) rfl (by decide) ?_
                                    refine zEV.iconst (v := (-1)) dX6_doAct_308 rfl ?_
                                    cases h
                                    exact zEV.iret rfl dX6_doAct_309
                                  · rw [if_neg c2_16] at h
                                    by_cases c2_17 : q1.1 = (115 : Int32)
                                    · rw [if_pos c2_17] at h
                                      refine zEV.tabIn 308 dX6_doAct_8 (115) c2_17 (by decide) (by decide) rfl (by decide) ?_
                                      refine zEV.iconst (v := (-1)) dX6_doAct_308 rfl ?_
                                      cases h
                                      exact zEV.iret rfl dX6_doAct_309
                                    · rw [if_neg c2_17] at h
                                      by_cases c2_18 : q1.1 = (116 : Int32)
                                      · rw [if_pos c2_18] at h
                                        refine zEV.tabIn 308 dX6_doAct_8 (116) c2_18 (by decide) (by decide) rfl (by decide) ?_
                                        refine zEV.iconst (v := (-1)) dX6_doAct_308 rfl ?_
                                        cases h
                                        exact zEV.iret rfl dX6_doAct_309
                                      · rw [if_neg c2_18] at h
                                        by_cases c2_19 : q1.1 = (117 : Int32)
                                        · rw [if_pos c2_19] at h
                                          refine zEV.tabIn 150 dX6_doAct_8 (117) c2_19 (by decide) (by decide) rfl (by decide) ?_
                                          refine zEV.aload_n dX6_doAct_150 rfl 0 rfl ?_
                                          refine zEV.iconst (v := 2) dX6_doAct_151 rfl ?_
                                          refine zEV.aload_n dX6_doAct_152 rfl 0 rfl ?_
                                          refine zEV.gfr rfl inz6 7 (by decide) wf_RX6_51 (by decide) rfl rfl dX6_doAct_153 ?_
                                          refine zEV.iload_n dX6_doAct_156 rfl 1 rfl ?_
                                          refine zEV.iconst (v := 1) dX6_doAct_157 rfl ?_
                                          refine zEV.iadd dX6_doAct_158 ?_
                                          refine zEV.iconst (v := 1) dX6_doAct_159 rfl ?_
                                          obtain ⟨q19, hq19, h⟩ := bind_yes h
                                          refine zEV.callVi (kX5_numberAt ((a1 + 1)) (1)  q1.2 q19 hq19) (by decide) rfl rfl wm_RX6_364 wc_X5_numberAt hy_X5_numberAt rfl ⟨Nat.le_of_ble_eq_true rfl, Nat.le_of_ble_eq_true rfl⟩ rfl (Nat.le_of_ble_eq_true rfl) dX6_doAct_160 ?_
                                          obtain ⟨q20, hq20, h⟩ := bind_yes h
                                          refine zEV.callVi (kX6_setMeasure (2) (q19.1)  q19.2 q20 hq20) (by decide) rfl rfl wm_RX6_291 wc_X6_setMeasure hy_X6_setMeasure rfl ⟨Nat.le_of_ble_eq_true rfl, Nat.le_of_ble_eq_true rfl⟩ rfl (Nat.le_of_ble_eq_true rfl) dX6_doAct_163 ?_
                                          cases h
                                          exact zEV.iret rfl dX6_doAct_166
                                        · rw [if_neg c2_19] at h
                                          by_cases c2_20 : q1.1 = (118 : Int32)
                                          · rw [if_pos c2_20] at h
                                            refine zEV.tabIn 308 dX6_doAct_8 (118) c2_20 (by decide) (by decide) rfl (by decide) ?_
                                            refine zEV.iconst (v := (-1)) dX6_doAct_308 rfl ?_
                                            cases h
                                            exact zEV.iret rfl dX6_doAct_309
                                          · rw [if_neg c2_20] at h
                                            by_cases c2_21 : q1.1 = (119 : Int32)
                                            · rw [if_pos c2_21] at h
                                              refine zEV.tabIn 116 dX6_doAct_8 (119) c2_21 (by decide) (by decide) rfl (by decide) ?_
                                              refine zEV.aload_n dX6_doAct_116 rfl 0 rfl ?_
                                              refine zEV.iconst (v := 0) dX6_doAct_117 rfl ?_
                                              refine zEV.aload_n dX6_doAct_118 rfl 0 rfl ?_
                                              refine zEV.gfr rfl inz6 7 (by decide) wf_RX6_51 (by decide) rfl rfl dX6_doAct_119 ?_
                                              refine zEV.iload_n dX6_doAct_122 rfl 1 rfl ?_
                                              refine zEV.iconst (v := 1) dX6_doAct_123 rfl ?_
                                              refine zEV.iadd dX6_doAct_124 ?_
                                              refine zEV.iconst (v := 2) dX6_doAct_125 rfl ?_
                                              obtain ⟨q21, hq21, h⟩ := bind_yes h
                                              refine zEV.callVi (kX5_numberAt ((a1 + 1)) (2)  q1.2 q21 hq21) (by decide) rfl rfl wm_RX6_364 wc_X5_numberAt hy_X5_numberAt rfl ⟨Nat.le_of_ble_eq_true rfl, Nat.le_of_ble_eq_true rfl⟩ rfl (Nat.le_of_ble_eq_true rfl) dX6_doAct_126 ?_
                                              obtain ⟨q22, hq22, h⟩ := bind_yes h
                                              refine zEV.callVi (kX6_setMeasure (0) (q21.1)  q21.2 q22 hq22) (by decide) rfl rfl wm_RX6_291 wc_X6_setMeasure hy_X6_setMeasure rfl ⟨Nat.le_of_ble_eq_true rfl, Nat.le_of_ble_eq_true rfl⟩ rfl (Nat.le_of_ble_eq_true rfl) dX6_doAct_129 ?_
                                              cases h
                                              exact zEV.iret rfl dX6_doAct_132
                                            · rw [if_neg c2_21] at h
                                              by_cases c2_22 : q1.1 = (120 : Int32)
                                              · rw [if_pos c2_22] at h
                                                refine zEV.tabIn 167 dX6_doAct_8 (120) c2_22 (by decide) (by decide) rfl (by decide) ?_
                                                refine zEV.aload_n dX6_doAct_167 rfl 0 rfl ?_
                                                obtain ⟨q23, hq23, h⟩ := bind_yes h
                                                refine zEV.callVi (kX6_swapComments   q1.2 q23 hq23) (by decide) rfl rfl wm_RX6_300 wc_X6_swapComments hy_X6_swapComments rfl ⟨Nat.le_of_ble_eq_true rfl, Nat.le_of_ble_eq_true rfl⟩ rfl (Nat.le_of_ble_eq_true rfl) dX6_doAct_168 ?_
                                                cases h
                                                exact zEV.iret rfl dX6_doAct_171
                                              · rw [if_neg c2_22] at h
                                                refine zEV.tabOut 308 22 dX6_doAct_8 (by decide) (by decide) rfl (fun k hk => ?_) (by decide) ?_
                                                · match k, hk with
                                                  | 0, _ => exact c2_0
                                                  | 1, _ => exact c2_1
                                                  | 2, _ => exact c2_2
                                                  | 3, _ => exact c2_3
                                                  | 4, _ => exact c2_4
                                                  | 5, _ => exact c2_5
                                                  | 6, _ => exact c2_6
                                                  | 7, _ => exact c2_7
                                                  | 8, _ => exact c2_8
                                                  | 9, _ => exact c2_9
                                                  | 10, _ => exact c2_10
                                                  | 11, _ => exact c2_11
                                                  | 12, _ => exact c2_12
                                                  | 13, _ => exact c2_13
                                                  | 14, _ => exact c2_14
                                                  | 15, _ => exact c2_15
                                                  | 16, _ => exact c2_16
                                                  | 17, _ => exact c2_17
                                                  | 18, _ => exact c2_18
                                                  | 19, _ => exact c2_19
                                                  | 20, _ => exact c2_20
                                                  | 21, _ => exact c2_21
                                                  | 22, _ => exact c2_22
                                                  | k + 23, hk => exact absurd hk (by omega)
                                                refine zEV.iconst (v := (-1)) dX6_doAct_308 rfl ?_
                                                cases h
                                                exact zEV.iret rfl dX6_doAct_309
theorem kX6_doAct (a1 : Int32) (M : zMM) (q : Int32 × zMM) (h : fX6_doAct a1 M = some q) : zCN yX6_doAct iX6_doAct [.inr (.inr 157), .inl a1] M (some (.inl q.1), q.2) :=
  zCN.of (by decide) rfl rfl (Nat.le_of_ble_eq_true rfl) (zEV.perm [0, 1] rfl (tX6_doAct_0 a1 M q h))
-- RingedPage.day
def fX6_day_137 (l2 : Int32) (s0 : Int64) (M : zMM) : Option (Int32 × zMM) :=
  (fX4_costOf 0 M).bind fun q1 =>
  (fX2_tell_ (s0) ((Int32.toInt64 q1.1)) q1.2).bind fun q2 =>
  some (l2, q2)
set_option maxRecDepth 4000 in
theorem tX6_day_137 (l2 : Int32) (s0 : Int64) (M : zMM) (q : Int32 × zMM) (h : fX6_day_137 l2 s0 M = some q) : zEV iX6_day 0 0 (zZO (some (.inl q.1), q.2)) 137 [(0, .inr (.inr 157)), (2, .inl l2)] [.inr (.inl s0), .inr (.inr 155)] M := by
  unfold fX6_day_137 at h
  refine zEV.aload_n dX6_day_137 rfl 0 rfl ?_
  refine zEV.gfr rfl inz6 2 (by decide) wf_RX6_22 (by decide) rfl rfl dX6_day_138 ?_
  refine zEV.aload_n dX6_day_141 rfl 0 rfl ?_
  refine zEV.gfr rfl inz6 0 (by decide) wf_RX6_12 (by decide) rfl rfl dX6_day_142 ?_
  obtain ⟨q1, hq1, h⟩ := bind_yes h
  refine zEV.callVi (kX4_costOf 0 lf_0 M q1 hq1) (by decide) rfl rfl wm_RX6_199 wc_X4_costOf hy_X4_costOf rfl ⟨Nat.le_of_ble_eq_true rfl, Nat.le_of_ble_eq_true rfl⟩ rfl (Nat.le_of_ble_eq_true rfl) dX6_day_145 ?_
  refine zEV.i2l dX6_day_148 ?_
  obtain ⟨q2, hq2, h⟩ := bind_yes h
  refine zEV.callVv (kX2_tell_ (s0) ((Int32.toInt64 q1.1))  q1.2 q2 hq2) (by decide) rfl rfl wm_RX6_105 wc_X2_tell_ hy_X2_tell_ rfl ⟨Nat.le_of_ble_eq_true rfl, Nat.le_of_ble_eq_true rfl⟩ rfl (Nat.le_of_ble_eq_true rfl) dX6_day_149 ?_
  refine zEV.iload_n dX6_day_152 rfl 1 rfl ?_
  cases h
  exact zEV.iret rfl dX6_day_153
def fX6_day_113 (l2 : Int32) (l3 : Int32) (M : zMM) : Option (Int32 × zMM) :=
  (fX4_set 0 M).bind fun q1 =>
  if l3 = (0 : Int32) then
    fX6_day_137 (l2) ((0 : Int64)) q1
  else
    fX6_day_137 (l2) ((1 : Int64)) q1
set_option maxRecDepth 4000 in
theorem tX6_day_113 (l2 : Int32) (l3 : Int32) (M : zMM) (q : Int32 × zMM) (h : fX6_day_113 l2 l3 M = some q) : zEV iX6_day 0 0 (zZO (some (.inl q.1), q.2)) 113 [(0, .inr (.inr 157)), (2, .inl l2), (3, .inl l3)] [] M := by
  unfold fX6_day_113 at h
  refine zEV.aload_n dX6_day_113 rfl 0 rfl ?_
  refine zEV.gfr rfl inz6 2 (by decide) wf_RX6_22 (by decide) rfl rfl dX6_day_114 ?_
  refine zEV.aload_n dX6_day_117 rfl 0 rfl ?_
  refine zEV.gfr rfl inz6 0 (by decide) wf_RX6_12 (by decide) rfl rfl dX6_day_118 ?_
  obtain ⟨q1, hq1, h⟩ := bind_yes h
  refine zEV.callVv (kX4_set 0 lf_0 M q1 hq1) (by decide) rfl rfl wm_RX6_113 wc_X4_set hy_X4_set rfl ⟨Nat.le_of_ble_eq_true rfl, Nat.le_of_ble_eq_true rfl⟩ rfl (Nat.le_of_ble_eq_true rfl) dX6_day_121 ?_
  refine zEV.aload_n dX6_day_124 rfl 0 rfl ?_
  refine zEV.gfr rfl inz6 8 (by decide) wf_RX6_58 (by decide) rfl rfl dX6_day_125 ?_
  refine zEV.iload_n dX6_day_128 rfl 2 rfl ?_
  refine zEV.if_eq 136 dX6_day_129 (by decide) (fun c2 => ?_) (fun c2 => ?_)
  · rw [if_pos c2] at h
    refine zEV.lconst (v := 0) dX6_day_136 rfl ?_
    exact zEV.perm [0, 1] rfl (tX6_day_137 (l2) ((0 : Int64)) q1 q h)
  · rw [if_neg c2] at h
    refine zEV.lconst (v := 1) dX6_day_132 rfl ?_
    refine zEV.goto 137 dX6_day_133 (by decide) ?_
    exact zEV.perm [0, 1] rfl (tX6_day_137 (l2) ((1 : Int64)) q1 q h)
def fX6_day_95 (l2 : Int32) (l3 : Int32) (M : zMM) : Option (Int32 × zMM) :=
  (fX5_clear  M).bind fun q1 =>
  if l2 ≤ (0 : Int32) then
    fX6_day_113 (l2) (l3) q1
  else
    (fX1_remember  q1).bind fun q3 =>
    fX6_day_113 (l2) (l3) q3
set_option maxRecDepth 4000 in
theorem tX6_day_95 (l2 : Int32) (l3 : Int32) (M : zMM) (q : Int32 × zMM) (h : fX6_day_95 l2 l3 M = some q) : zEV iX6_day 0 0 (zZO (some (.inl q.1), q.2)) 95 [(0, .inr (.inr 157)), (2, .inl l2), (3, .inl l3)] [] M := by
  unfold fX6_day_95 at h
  refine zEV.aload_n dX6_day_95 rfl 0 rfl ?_
  refine zEV.gfr rfl inz6 7 (by decide) wf_RX6_51 (by decide) rfl rfl dX6_day_96 ?_
  obtain ⟨q1, hq1, h⟩ := bind_yes h
  refine zEV.callVv (kX5_clear   M q1 hq1) (by decide) rfl rfl wm_RX6_84 wc_X5_clear hy_X5_clear rfl ⟨Nat.le_of_ble_eq_true rfl, Nat.le_of_ble_eq_true rfl⟩ rfl (Nat.le_of_ble_eq_true rfl) dX6_day_99 ?_
  refine zEV.iload_n dX6_day_102 rfl 1 rfl ?_
  refine zEV.if_le 113 dX6_day_103 (by decide) (fun c2 => ?_) (fun c2 => ?_)
  · rw [if_pos c2] at h
    exact zEV.perm [0, 1, 2] rfl (tX6_day_113 (l2) (l3) q1 q h)
  · rw [if_neg c2] at h
    refine zEV.aload_n dX6_day_106 rfl 0 rfl ?_
    refine zEV.gfr rfl inz6 4 (by decide) wf_RX6_36 (by decide) rfl rfl dX6_day_107 ?_
    obtain ⟨q3, hq3, h⟩ := bind_yes h
    refine zEV.callVv (kX1_remember   q1 q3 hq3) (by decide) rfl rfl wm_RX6_327 wc_X1_remember hy_X1_remember rfl ⟨Nat.le_of_ble_eq_true rfl, Nat.le_of_ble_eq_true rfl⟩ rfl (Nat.le_of_ble_eq_true rfl) dX6_day_110 ?_
    exact zEV.perm [0, 1, 2] rfl (tX6_day_113 (l2) (l3) q3 q h)
def fX6_day_69 (K36 : Int32 → Int32 → Int32 → zMM → Option (Int32 × zMM)) (l2 : Int32) (l3 : Int32) (l4 : Int32) (M : zMM) : Option (Int32 × zMM) :=
  (fX5_signAt (l4) M).bind fun q1 =>
  (fX6_digitsOf (q1.1) q1.2).bind fun q2 =>
  K36 (l2) (l3) ((l4 + (1 + (if 0 < q2.1 then q2.1 else 0)))) q2.2
set_option maxRecDepth 4000 in
theorem tX6_day_69 (K36 : Int32 → Int32 → Int32 → zMM → Option (Int32 × zMM)) (hK36 : ∀ (l2 : Int32) (l3 : Int32) (l4 : Int32) (M : zMM) (q : Int32 × zMM), K36 l2 l3 l4 M = some q → zEV iX6_day 0 0 (zZO (some (.inl q.1), q.2)) 36 [(0, .inr (.inr 157)), (2, .inl l2), (3, .inl l3), (4, .inl l4)] [] M) (l2 : Int32) (l3 : Int32) (l4 : Int32) (M : zMM) (q : Int32 × zMM) (h : fX6_day_69 K36 l2 l3 l4 M = some q) : zEV iX6_day 0 0 (zZO (some (.inl q.1), q.2)) 69 [(0, .inr (.inr 157)), (2, .inl l2), (3, .inl l3), (4, .inl l4)] [] M := by
  unfold fX6_day_69 at h
  refine zEV.iload dX6_day_69 3 rfl ?_
  refine zEV.iconst (v := 1) dX6_day_71 rfl ?_
  refine zEV.iconst (v := 0) dX6_day_72 rfl ?_
  refine zEV.aload_n dX6_day_73 rfl 0 rfl ?_
  refine zEV.gfr rfl inz6 7 (by decide) wf_RX6_51 (by decide) rfl rfl dX6_day_74 ?_
  refine zEV.iload dX6_day_77 3 rfl ?_
  obtain ⟨q1, hq1, h⟩ := bind_yes h
  refine zEV.callVi (kX5_signAt (l4)  M q1 hq1) (by decide) rfl rfl wm_RX6_316 wc_X5_signAt hy_X5_signAt rfl ⟨Nat.le_of_ble_eq_true rfl, Nat.le_of_ble_eq_true rfl⟩ rfl (Nat.le_of_ble_eq_true rfl) dX6_day_79 ?_
  obtain ⟨q2, hq2, h⟩ := bind_yes h
  refine zEV.callSi (kX6_digitsOf (q1.1)  q1.2 q2 hq2) wm_RX6_319 wc_X6_digitsOf hy_X6_digitsOf rfl ⟨Nat.le_of_ble_eq_true rfl, Nat.le_of_ble_eq_true rfl⟩ rfl (Nat.le_of_ble_eq_true rfl) dX6_day_82 ?_
  refine zEV.mmax wm_RX6_322 wj_max_s wj_math_i wj_max_c ⟨Nat.le_of_ble_eq_true rfl, Nat.le_of_ble_eq_true rfl⟩ dX6_day_85 ?_
  refine zEV.iadd dX6_day_88 ?_
  refine zEV.iadd dX6_day_89 ?_
  refine zEV.istore dX6_day_90 (Nat.le_of_ble_eq_true rfl) rfl ?_
  refine zEV.goto 36 dX6_day_92 (by decide) ?_
  exact zEV.perm [1, 2, 3, 0] rfl (hK36 (l2) (l3) ((l4 + (1 + (if 0 < q2.1 then q2.1 else 0)))) q2.2 q h)
def fX6_day_36 : Nat → Int32 → Int32 → Int32 → zMM → Option (Int32 × zMM)
  | 0, _, _, _, _ => none
  | n + 1, l2, l3, l4, M =>
  if (M.1 153 1) ≤ l4 then
    fX6_day_95 (l2) (l3) M
  else
    if l3 = (0 : Int32) then
      (fX6_doAct (l4) M).bind fun q3 =>
      if (0 : Int32) ≤ q3.1 then
        fX6_day_69 (fX6_day_36 n) ((l2 + 1)) (l3) (l4) q3.2
      else
        fX6_day_69 (fX6_day_36 n) (l2) (1) (l4) q3.2
    else
      fX6_day_95 (l2) (l3) M
set_option maxRecDepth 4000 in
theorem tX6_day_36 : ∀ (n : Nat) (l2 : Int32) (l3 : Int32) (l4 : Int32) (M : zMM) (q : Int32 × zMM), fX6_day_36 n l2 l3 l4 M = some q → zEV iX6_day 0 0 (zZO (some (.inl q.1), q.2)) 36 [(0, .inr (.inr 157)), (2, .inl l2), (3, .inl l3), (4, .inl l4)] [] M := by
  intro n
  induction n with
  | zero =>
    intro l2 l3 l4 M q h
    rw [fX6_day_36] at h
    cases h
  | succ n ih =>
    intro l2 l3 l4 M q h
    rw [fX6_day_36] at h
    refine zEV.iload dX6_day_36 3 rfl ?_
    refine zEV.aload_n dX6_day_38 rfl 0 rfl ?_
    refine zEV.gfr rfl inz6 7 (by decide) wf_RX6_51 (by decide) rfl rfl dX6_day_39 ?_
    refine zEV.gfi rfl inz5 1 (by decide) wf_RX6_66 (by decide) rfl rfl dX6_day_42 ?_
    refine zEV.icmp_ge 95 dX6_day_45 (by decide) (fun c1 => ?_) (fun c1 => ?_)
    · rw [if_pos c1] at h
      exact zEV.perm [0, 1, 2] rfl (tX6_day_95 (l2) (l3) M q h)
    · rw [if_neg c1] at h
      refine zEV.iload_n dX6_day_48 rfl 2 rfl ?_
      refine zEV.if_ne 95 dX6_day_49 (by decide) (fun c2 => ?_) (fun c2 => ?_)
      · rw [if_neg c2] at h
        exact zEV.perm [0, 1, 2] rfl (tX6_day_95 (l2) (l3) M q h)
      · rw [if_pos c2] at h
        refine zEV.aload_n dX6_day_52 rfl 0 rfl ?_
        refine zEV.iload dX6_day_53 3 rfl ?_
        obtain ⟨q3, hq3, h⟩ := bind_yes h
        refine zEV.callVi (kX6_doAct (l4)  M q3 hq3) (by decide) rfl rfl wm_RX6_313 wc_X6_doAct hy_X6_doAct rfl ⟨Nat.le_of_ble_eq_true rfl, Nat.le_of_ble_eq_true rfl⟩ rfl (Nat.le_of_ble_eq_true rfl) dX6_day_55 ?_
        refine zEV.if_ge 66 dX6_day_58 (by decide) (fun c4 => ?_) (fun c4 => ?_)
        · rw [if_pos c4] at h
          refine zEV.iinc (v := (l2 + 1)) dX6_day_66 1 rfl rfl (Nat.le_of_ble_eq_true rfl) rfl ?_
          exact zEV.perm [1, 0, 2, 3] rfl (tX6_day_69 (fX6_day_36 n) (fun l2 l3 l4 M9 q9 h9 => ih l2 l3 l4 M9 q9 h9) ((l2 + 1)) (l3) (l4) q3.2 q h)
        · rw [if_neg c4] at h
          refine zEV.iconst (v := 1) dX6_day_61 rfl ?_
          refine zEV.istore_n dX6_day_62 rfl (Nat.le_of_ble_eq_true rfl) rfl ?_
          refine zEV.goto 69 dX6_day_63 (by decide) ?_
          exact zEV.perm [1, 2, 0, 3] rfl (tX6_day_69 (fX6_day_36 n) (fun l2 l3 l4 M9 q9 h9 => ih l2 l3 l4 M9 q9 h9) (l2) (1) (l4) q3.2 q h)
def fX6_day (M : zMM) : Option (Int32 × zMM) :=
  (fX6_faultOfDay  M).bind fun q1 =>
  if (0 : Int32) ≤ q1.1 then
    (fX1_mark 0 q1.2).bind fun q3 =>
    fX6_day_36 zFU (0) (0) (0) q3
  else
    (fX5_clear  q1.2).bind fun q4 =>
    some (q1.1, q4)
set_option maxRecDepth 4000 in
theorem tX6_day_0 (M : zMM) (q : Int32 × zMM) (h : fX6_day  M = some q) : zEV iX6_day 0 0 (zZO (some (.inl q.1), q.2)) 0 [(0, .inr (.inr 157))] [] M := by
  unfold fX6_day at h
  refine zEV.aload_n dX6_day_0 rfl 0 rfl ?_
  obtain ⟨q1, hq1, h⟩ := bind_yes h
  refine zEV.callVi (kX6_faultOfDay   M q1 hq1) (by decide) rfl rfl wm_RX6_310 wc_X6_faultOfDay hy_X6_faultOfDay rfl ⟨Nat.le_of_ble_eq_true rfl, Nat.le_of_ble_eq_true rfl⟩ rfl (Nat.le_of_ble_eq_true rfl) dX6_day_1 ?_
  refine zEV.istore_n dX6_day_4 rfl (Nat.le_of_ble_eq_true rfl) rfl ?_
  refine zEV.iload_n dX6_day_5 rfl 0 rfl ?_
  refine zEV.if_ge 18 dX6_day_6 (by decide) (fun c2 => ?_) (fun c2 => ?_)
  · rw [if_pos c2] at h
    refine zEV.aload_n dX6_day_18 rfl 1 rfl ?_
    refine zEV.gfr rfl inz6 4 (by decide) wf_RX6_36 (by decide) rfl rfl dX6_day_19 ?_
    refine zEV.aload_n dX6_day_22 rfl 1 rfl ?_
    refine zEV.gfr rfl inz6 0 (by decide) wf_RX6_12 (by decide) rfl rfl dX6_day_23 ?_
    obtain ⟨q3, hq3, h⟩ := bind_yes h
    refine zEV.callVv (kX1_mark 0 lf_0 q1.2 q3 hq3) (by decide) rfl rfl wm_RX6_73 wc_X1_mark hy_X1_mark rfl ⟨Nat.le_of_ble_eq_true rfl, Nat.le_of_ble_eq_true rfl⟩ rfl (Nat.le_of_ble_eq_true rfl) dX6_day_26 ?_
    refine zEV.iconst (v := 0) dX6_day_29 rfl ?_
    refine zEV.istore_n dX6_day_30 rfl (Nat.le_of_ble_eq_true rfl) rfl ?_
    refine zEV.iconst (v := 0) dX6_day_31 rfl ?_
    refine zEV.istore_n dX6_day_32 rfl (Nat.le_of_ble_eq_true rfl) rfl ?_
    refine zEV.iconst (v := 0) dX6_day_33 rfl ?_
    refine zEV.istore dX6_day_34 (Nat.le_of_ble_eq_true rfl) rfl ?_
    exact zEV.perm [4, 2, 1, 0] rfl (tX6_day_36 zFU (0) (0) (0) q3 q h)
  · rw [if_neg c2] at h
    refine zEV.aload_n dX6_day_9 rfl 1 rfl ?_
    refine zEV.gfr rfl inz6 7 (by decide) wf_RX6_51 (by decide) rfl rfl dX6_day_10 ?_
    obtain ⟨q4, hq4, h⟩ := bind_yes h
    refine zEV.callVv (kX5_clear   q1.2 q4 hq4) (by decide) rfl rfl wm_RX6_84 wc_X5_clear hy_X5_clear rfl ⟨Nat.le_of_ble_eq_true rfl, Nat.le_of_ble_eq_true rfl⟩ rfl (Nat.le_of_ble_eq_true rfl) dX6_day_13 ?_
    refine zEV.iload_n dX6_day_16 rfl 0 rfl ?_
    cases h
    exact zEV.iret rfl dX6_day_17
theorem kX6_day (M : zMM) (q : Int32 × zMM) (h : fX6_day M = some q) : zCN yX6_day iX6_day [.inr (.inr 157)] M (some (.inl q.1), q.2) :=
  zCN.of (by decide) rfl rfl (Nat.le_of_ble_eq_true rfl) (zEV.perm [0] rfl (tX6_day_0 M q h))
-- RingedPage.undo
def fX6_undo (M : zMM) : Option (Int32 × zMM) :=
  (fX1_takeBack 0 M).bind fun q1 =>
  if q1.1 = (0 : Int32) then
    some ((-1), q1.2)
  else
    some ((q1.2.1 149 2), q1.2)
set_option maxRecDepth 4000 in
theorem tX6_undo_0 (M : zMM) (q : Int32 × zMM) (h : fX6_undo  M = some q) : zEV iX6_undo 0 0 (zZO (some (.inl q.1), q.2)) 0 [(0, .inr (.inr 157))] [] M := by
  unfold fX6_undo at h
  refine zEV.aload_n dX6_undo_0 rfl 0 rfl ?_
  refine zEV.gfr rfl inz6 4 (by decide) wf_RX6_36 (by decide) rfl rfl dX6_undo_1 ?_
  refine zEV.aload_n dX6_undo_4 rfl 0 rfl ?_
  refine zEV.gfr rfl inz6 0 (by decide) wf_RX6_12 (by decide) rfl rfl dX6_undo_5 ?_
  obtain ⟨q1, hq1, h⟩ := bind_yes h
  refine zEV.callVi (kX1_takeBack 0 lf_0 M q1 hq1) (by decide) rfl rfl wm_RX6_330 wc_X1_takeBack hy_X1_takeBack rfl ⟨Nat.le_of_ble_eq_true rfl, Nat.le_of_ble_eq_true rfl⟩ rfl (Nat.le_of_ble_eq_true rfl) dX6_undo_8 ?_
  refine zEV.if_eq 24 dX6_undo_11 (by decide) (fun c2 => ?_) (fun c2 => ?_)
  · rw [if_pos c2] at h
    refine zEV.iconst (v := (-1)) dX6_undo_24 rfl ?_
    cases h
    exact zEV.iret rfl dX6_undo_25
  · rw [if_neg c2] at h
    refine zEV.aload_n dX6_undo_14 rfl 0 rfl ?_
    refine zEV.gfr rfl inz6 4 (by decide) wf_RX6_36 (by decide) rfl rfl dX6_undo_15 ?_
    refine zEV.gfi rfl inz1 2 (by decide) wf_RX6_334 (by decide) rfl rfl dX6_undo_18 ?_
    refine zEV.goto 25 dX6_undo_21 (by decide) ?_
    cases h
    exact zEV.iret rfl dX6_undo_25
theorem kX6_undo (M : zMM) (q : Int32 × zMM) (h : fX6_undo M = some q) : zCN yX6_undo iX6_undo [.inr (.inr 157)] M (some (.inl q.1), q.2) :=
  zCN.of (by decide) rfl rfl (Nat.le_of_ble_eq_true rfl) (zEV.perm [0] rfl (tX6_undo_0 M q h))
-- RingedPage.nextDraw
def fX6_nextDraw (a0 : Int32) (M : zMM) : Option (Int32 × zMM) :=
  some (((a0 * (1103515245)) + 12345), M)
set_option maxRecDepth 4000 in
theorem tX6_nextDraw_0 (a0 : Int32) (M : zMM) (q : Int32 × zMM) (h : fX6_nextDraw a0  M = some q) : zEV iX6_nextDraw 0 0 (zZO (some (.inl q.1), q.2)) 0 [(0, .inl a0)] [] M := by
  unfold fX6_nextDraw at h
  refine zEV.iload_n dX6_nextDraw_0 rfl 0 rfl ?_
  refine zEV.ldcw wk_RX6_395 dX6_nextDraw_1 ?_
  refine zEV.imul dX6_nextDraw_4 ?_
  refine zEV.sipush (v := 12345) dX6_nextDraw_5 rfl ?_
  refine zEV.iadd dX6_nextDraw_8 ?_
  cases h
  exact zEV.iret rfl dX6_nextDraw_9
theorem kX6_nextDraw (a0 : Int32) (M : zMM) (q : Int32 × zMM) (h : fX6_nextDraw a0 M = some q) : zCN yX6_nextDraw iX6_nextDraw [.inl a0] M (some (.inl q.1), q.2) :=
  zCN.of (by decide) rfl rfl (Nat.le_of_ble_eq_true rfl) (zEV.perm [0] rfl (tX6_nextDraw_0 a0 M q h))
-- RingedPage.drawn
def fX6_drawn (a0 : Int32) (a1 : Int32) (M : zMM) : Option (Int32 × zMM) :=
  if a1 ≤ (0 : Int32) then
    some (0, M)
  else
    if a1 = 0 then none else
    some (((Int32.toUInt32 a0 >>> (Int32.toUInt32 16 &&& Int32.toUInt32 31)).toInt32 - (Int32.toUInt32 a0 >>> (Int32.toUInt32 16 &&& Int32.toUInt32 31)).toInt32 / a1 * a1), M)
set_option maxRecDepth 4000 in
theorem tX6_drawn_0 (a0 : Int32) (a1 : Int32) (M : zMM) (q : Int32 × zMM) (h : fX6_drawn a0 a1  M = some q) : zEV iX6_drawn 0 0 (zZO (some (.inl q.1), q.2)) 0 [(0, .inl a0), (1, .inl a1)] [] M := by
  unfold fX6_drawn at h
  refine zEV.iload_n dX6_drawn_0 rfl 1 rfl ?_
  refine zEV.if_le 13 dX6_drawn_1 (by decide) (fun c1 => ?_) (fun c1 => ?_)
  · rw [if_pos c1] at h
    refine zEV.iconst (v := 0) dX6_drawn_13 rfl ?_
    cases h
    exact zEV.iret rfl dX6_drawn_14
  · rw [if_neg c1] at h
    refine zEV.iload_n dX6_drawn_4 rfl 0 rfl ?_
    refine zEV.bipush (v := 16) dX6_drawn_5 rfl ?_
    refine zEV.iushr dX6_drawn_7 ?_
    refine zEV.iload_n dX6_drawn_8 rfl 1 rfl ?_
    obtain ⟨g2, h⟩ := ite_no h
    refine zEV.irem dX6_drawn_9 g2 ?_
    refine zEV.goto 14 dX6_drawn_10 (by decide) ?_
    cases h
    exact zEV.iret rfl dX6_drawn_14
theorem kX6_drawn (a0 : Int32) (a1 : Int32) (M : zMM) (q : Int32 × zMM) (h : fX6_drawn a0 a1 M = some q) : zCN yX6_drawn iX6_drawn [.inl a0, .inl a1] M (some (.inl q.1), q.2) :=
  zCN.of (by decide) rfl rfl (Nat.le_of_ble_eq_true rfl) (zEV.perm [0, 1] rfl (tX6_drawn_0 a0 a1 M q h))
