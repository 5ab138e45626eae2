-- RingedPage.dropWord
def fX6_dropWord (b0 : Nat) (a1 : Int32) (a2 : Int32) (M : zMM) : Option (Int32 × zMM) :=
  (fX0_hasWord b0 (a1) (a2) M).bind fun q1 =>
  if q1.1 = (0 : Int32) then
    some ((-1), q1.2)
  else
    (fX0_drop b0 (a1) (a2) q1.2).bind fun q3 =>
    if oob (a1) 3 then none else
    some ((q3.1 (b0 + 2) (Int32.toNatClampNeg a1)), q3)
set_option maxRecDepth 100000 in
theorem tX6_dropWord_0 (b0 : Nat) (a1 : Int32) (a2 : Int32) (hb0 : lf b0) (M : zMM) (q : Int32 × zMM) (h : fX6_dropWord b0 a1 a2  M = some q) : zEV iX6_dropWord 0 0 (zZO (some (.inl q.1), q.2)) 0 [(0, .inr (.inr b0)), (1, .inl a1), (2, .inl a2)] [] M := by
  unfold fX6_dropWord at h
  refine zEV.aload_n dX6_dropWord_0 rfl 0 rfl ?_
  refine zEV.iload_n dX6_dropWord_1 rfl 1 rfl ?_
  refine zEV.iload_n dX6_dropWord_2 rfl 2 rfl ?_
  obtain ⟨q1, hq1, h⟩ := bind_yes h
  refine zEV.callVi (kX0_hasWord b0 (a1) (a2) hb0 M q1 hq1) (lf_lt hb0 0 (by decide)) (lf_shp hb0 0 (by decide)) rfl wm_RX6_94 wc_X0_hasWord hy_X0_hasWord rfl ⟨Nat.le_of_ble_eq_true rfl, Nat.le_of_ble_eq_true rfl⟩ rfl (Nat.le_of_ble_eq_true rfl) dX6_dropWord_3 ?_
  refine zEV.if_ne 11 dX6_dropWord_6 (by decide) (fun c2 => ?_) (fun c2 => ?_)
  · rw [if_neg c2] at h
    refine zEV.aload_n dX6_dropWord_11 rfl 0 rfl ?_
    refine zEV.iload_n dX6_dropWord_12 rfl 1 rfl ?_
    refine zEV.iload_n dX6_dropWord_13 rfl 2 rfl ?_
    obtain ⟨q3, hq3, h⟩ := bind_yes h
    refine zEV.callVv (kX0_drop b0 (a1) (a2) hb0 q1.2 q3 hq3) (lf_lt hb0 0 (by decide)) (lf_shp hb0 0 (by decide)) rfl wm_RX6_392 wc_X0_drop hy_X0_drop rfl ⟨Nat.le_of_ble_eq_true rfl, Nat.le_of_ble_eq_true rfl⟩ rfl (Nat.le_of_ble_eq_true rfl) dX6_dropWord_14 ?_
    refine zEV.aload_n dX6_dropWord_17 rfl 0 rfl ?_
    refine zEV.gfr rfl inz0 8 (by decide) wf_RX6_231 (lf_lt hb0 0 (by decide)) (lf_shp hb0 0 (by decide)) rfl dX6_dropWord_18 ?_
    refine zEV.iload_n dX6_dropWord_21 rfl 1 rfl ?_
    obtain ⟨g4, h⟩ := ite_no h
    refine zEV.iald (lf_lt hb0 2 (by decide)) (lf_shp hb0 2 (by decide)) g4 dX6_dropWord_22 ?_
    have h := Option.some.inj h
    subst h
    exact zEV.iret rfl dX6_dropWord_23
  · rw [if_pos c2] at h
    refine zEV.iconst (v := (-1)) dX6_dropWord_9 rfl ?_
    have h := Option.some.inj h
    subst h
    exact zEV.iret rfl dX6_dropWord_10
theorem kX6_dropWord (b0 : Nat) (a1 : Int32) (a2 : Int32) (hb0 : lf b0) (M : zMM) (q : Int32 × zMM) (h : fX6_dropWord b0 a1 a2 M = some q) : zCN yX6_dropWord iX6_dropWord [.inr (.inr b0), .inl a1, .inl a2] M (some (.inl q.1), q.2) :=
  zCN.of (by decide) rfl rfl (Nat.le_of_ble_eq_true rfl) (zEV.perm [0, 1, 2] rfl (tX6_dropWord_0 b0 a1 a2 hb0 M q h))
-- RingedPage.less
def fX6_less (a1 : Int32) (a2 : Int32) (M : zMM) : Option (Int32 × zMM) :=
  (fX0_copy 10 0 M).bind fun q1 =>
  (fX6_dropWord 10 (a1) (a2) q1).bind fun q2 =>
  if (0 : Int32) ≤ q2.1 then
    (fX6_trialCost  q2.2).bind fun q4 =>
    some (q4.1, q4.2)
  else
    some (q2.1, q2.2)
set_option maxRecDepth 100000 in
theorem tX6_less_0 (a1 : Int32) (a2 : Int32) (M : zMM) (q : Int32 × zMM) (h : fX6_less a1 a2  M = some q) : zEV iX6_less 0 0 (zZO (some (.inl q.1), q.2)) 0 [(0, .inr (.inr 157)), (1, .inl a1), (2, .inl a2)] [] M := by
  unfold fX6_less at h
  refine zEV.aload_n dX6_less_0 rfl 0 rfl ?_
  refine zEV.gfr rfl inz6 1 (by decide) wf_RX6_16 (by decide) rfl rfl dX6_less_1 ?_
  refine zEV.aload_n dX6_less_4 rfl 0 rfl ?_
  refine zEV.gfr rfl inz6 0 (by decide) wf_RX6_12 (by decide) rfl rfl dX6_less_5 ?_
  obtain ⟨q1, hq1, h⟩ := bind_yes h
  refine zEV.callVv (kX0_copy 10 0 lf_10 lf_0 M q1 hq1) (by decide) rfl rfl wm_RX6_240 wc_X0_copy hy_X0_copy rfl ⟨Nat.le_of_ble_eq_true rfl, Nat.le_of_ble_eq_true rfl⟩ rfl (Nat.le_of_ble_eq_true rfl) dX6_less_8 ?_
  refine zEV.aload_n dX6_less_11 rfl 0 rfl ?_
  refine zEV.gfr rfl inz6 1 (by decide) wf_RX6_16 (by decide) rfl rfl dX6_less_12 ?_
  refine zEV.iload_n dX6_less_15 rfl 1 rfl ?_
  refine zEV.iload_n dX6_less_16 rfl 2 rfl ?_
  obtain ⟨q2, hq2, h⟩ := bind_yes h
  refine zEV.callSi (kX6_dropWord 10 (a1) (a2) lf_10 q1 q2 hq2) wm_RX6_287 wc_X6_dropWord hy_X6_dropWord rfl ⟨Nat.le_of_ble_eq_true rfl, Nat.le_of_ble_eq_true rfl⟩ rfl (Nat.le_of_ble_eq_true rfl) dX6_less_17 ?_
  refine zEV.istore_n dX6_less_20 rfl (Nat.le_of_ble_eq_true rfl) rfl ?_
  refine zEV.iload_n dX6_less_21 rfl 0 rfl ?_
  refine zEV.if_ge 29 dX6_less_22 (by decide) (fun c3 => ?_) (fun c3 => ?_)
  · rw [if_pos c3] at h
    refine zEV.aload_n dX6_less_29 rfl 1 rfl ?_
    obtain ⟨q4, hq4, h⟩ := bind_yes h
    refine zEV.callVi (kX6_trialCost   q2.2 q4 hq4) (by decide) rfl rfl wm_RX6_284 wc_X6_trialCost hy_X6_trialCost rfl ⟨Nat.le_of_ble_eq_true rfl, Nat.le_of_ble_eq_true rfl⟩ rfl (Nat.le_of_ble_eq_true rfl) dX6_less_30 ?_
    have h := Option.some.inj h
    subst h
    exact zEV.iret rfl dX6_less_33
  · rw [if_neg c3] at h
    refine zEV.iload_n dX6_less_25 rfl 0 rfl ?_
    refine zEV.goto 33 dX6_less_26 (by decide) ?_
    have h := Option.some.inj h
    subst h
    exact zEV.iret rfl dX6_less_33
theorem kX6_less (a1 : Int32) (a2 : Int32) (M : zMM) (q : Int32 × zMM) (h : fX6_less a1 a2 M = some q) : zCN yX6_less iX6_less [.inr (.inr 157), .inl a1, .inl a2] M (some (.inl q.1), q.2) :=
  zCN.of (by decide) rfl rfl (Nat.le_of_ble_eq_true rfl) (zEV.perm [0, 1, 2] rfl (tX6_less_0 a1 a2 M q h))
-- RingedPage.spare
def fX6_spare_147 (a1 : Int32) (l3 : Int32) (l4 : Int32) (M : zMM) : Option (Int32 × zMM) :=
  (fX2_tell ((Int32.toInt64 l3)) M).bind fun q1 =>
  some (l4, q1)
set_option maxRecDepth 100000 in
theorem tX6_spare_147 (a1 : Int32) (l3 : Int32) (l4 : Int32) (M : zMM) (q : Int32 × zMM) (h : fX6_spare_147 a1 l3 l4 M = some q) : zEV iX6_spare 0 0 (zZO (some (.inl q.1), q.2)) 147 [(0, .inr (.inr 157)), (3, .inl l3), (4, .inl l4)] [] M := by
  unfold fX6_spare_147 at h
  refine zEV.aload_n dX6_spare_147 rfl 0 rfl ?_
  refine zEV.gfr rfl inz6 8 (by decide) wf_RX6_58 (by decide) rfl rfl dX6_spare_148 ?_
  refine zEV.iload_n dX6_spare_151 rfl 1 rfl ?_
  refine zEV.i2l dX6_spare_152 ?_
  obtain ⟨q1, hq1, h⟩ := bind_yes h
  refine zEV.callVv (kX2_tell ((Int32.toInt64 l3))  M q1 hq1) (by decide) rfl rfl wm_RX6_126 wc_X2_tell hy_X2_tell rfl ⟨Nat.le_of_ble_eq_true rfl, Nat.le_of_ble_eq_true rfl⟩ rfl (Nat.le_of_ble_eq_true rfl) dX6_spare_153 ?_
  refine zEV.iload dX6_spare_156 2 rfl ?_
  have h := Option.some.inj h
  subst h
  exact zEV.iret rfl dX6_spare_158
def fX6_spare_79 (a1 : Int32) : Nat → Int32 → Int32 → Int32 → Int32 → zMM → Option (Int32 × zMM)
  | 0, _, _, _, _, _ => none
  | n + 1, l2, l3, l4, l5, M =>
  if (70 : Int32) ≤ l5 then
    fX6_spare_147 a1 (l3) (l4) M
  else
    (fX0_put 10 (a1) (l5) (5) M).bind fun q2 =>
    (fX4_set 10 q2).bind fun q3 =>
    (fX4_pageCount 10 q3).bind fun q4 =>
    if q4.1 = l2 then
      (fX4_endsApart 10 q4.2).bind fun q6 =>
      fX6_spare_79 a1 n (l2) (q6.1) ((l4 + 1)) ((l5 + 1)) q6.2
    else
      fX6_spare_147 a1 (l3) (l4) q4.2
set_option maxRecDepth 100000 in
theorem tX6_spare_79 (a1 : Int32) : ∀ (n : Nat) (l2 : Int32) (l3 : Int32) (l4 : Int32) (l5 : Int32) (M : zMM) (q : Int32 × zMM), fX6_spare_79 a1 n l2 l3 l4 l5 M = some q → zEV iX6_spare 0 0 (zZO (some (.inl q.1), q.2)) 79 [(0, .inr (.inr 157)), (1, .inl a1), (2, .inl l2), (3, .inl l3), (4, .inl l4), (5, .inl l5)] [] M := by
  intro n
  induction n with
  | zero =>
    intro l2 l3 l4 l5 M q h
    rw [fX6_spare_79] at h
    cases h
  | succ n ih =>
    intro l2 l3 l4 l5 M q h
    rw [fX6_spare_79] at h
    refine zEV.iload dX6_spare_79 5 rfl ?_
    refine zEV.bipush (v := 70) dX6_spare_81 rfl ?_
    refine zEV.icmp_ge 147 dX6_spare_83 (by decide) (fun c1 => ?_) (fun c1 => ?_)
    · rw [if_pos c1] at h
      exact zEV.perm [0, 3, 4] rfl (tX6_spare_147 a1 (l3) (l4) M q h)
    · rw [if_neg c1] at h
      refine zEV.aload_n dX6_spare_86 rfl 0 rfl ?_
      refine zEV.gfr rfl inz6 1 (by decide) wf_RX6_16 (by decide) rfl rfl dX6_spare_87 ?_
      refine zEV.iload_n dX6_spare_90 rfl 1 rfl ?_
      refine zEV.iload dX6_spare_91 5 rfl ?_
      refine zEV.iconst (v := 5) dX6_spare_93 rfl ?_
      obtain ⟨q2, hq2, h⟩ := bind_yes h
      refine zEV.callVv (kX0_put 10 (a1) (l5) (5) lf_10 M q2 hq2) (by decide) rfl rfl wm_RX6_290 wc_X0_put hy_X0_put rfl ⟨Nat.le_of_ble_eq_true rfl, Nat.le_of_ble_eq_true rfl⟩ rfl (Nat.le_of_ble_eq_true rfl) dX6_spare_94 ?_
      refine zEV.aload_n dX6_spare_97 rfl 0 rfl ?_
      refine zEV.gfr rfl inz6 2 (by decide) wf_RX6_22 (by decide) rfl rfl dX6_spare_98 ?_
      refine zEV.aload_n dX6_spare_101 rfl 0 rfl ?_
      refine zEV.gfr rfl inz6 1 (by decide) wf_RX6_16 (by decide) rfl rfl dX6_spare_102 ?_
      obtain ⟨q3, hq3, h⟩ := bind_yes h
      refine zEV.callVv (kX4_set 10 lf_10 q2 q3 hq3) (by decide) rfl rfl wm_RX6_113 wc_X4_set hy_X4_set rfl ⟨Nat.le_of_ble_eq_true rfl, Nat.le_of_ble_eq_true rfl⟩ rfl (Nat.le_of_ble_eq_true rfl) dX6_spare_105 ?_
      refine zEV.aload_n dX6_spare_108 rfl 0 rfl ?_
      refine zEV.gfr rfl inz6 2 (by decide) wf_RX6_22 (by decide) rfl rfl dX6_spare_109 ?_
      refine zEV.aload_n dX6_spare_112 rfl 0 rfl ?_
      refine zEV.gfr rfl inz6 1 (by decide) wf_RX6_16 (by decide) rfl rfl dX6_spare_113 ?_
      obtain ⟨q4, hq4, h⟩ := bind_yes h
      refine zEV.callVi (kX4_pageCount 10 lf_10 q3 q4 hq4) (by decide) rfl rfl wm_RX6_116 wc_X4_pageCount hy_X4_pageCount rfl ⟨Nat.le_of_ble_eq_true rfl, Nat.le_of_ble_eq_true rfl⟩ rfl (Nat.le_of_ble_eq_true rfl) dX6_spare_116 ?_
      refine zEV.iload_n dX6_spare_119 rfl 2 rfl ?_
      refine zEV.icmp_eq 126 dX6_spare_120 (by decide) (fun c5 => ?_) (fun c5 => ?_)
      · rw [if_pos c5] at h
        refine zEV.aload_n dX6_spare_126 rfl 0 rfl ?_
        refine zEV.gfr rfl inz6 2 (by decide) wf_RX6_22 (by decide) rfl rfl dX6_spare_127 ?_
        refine zEV.aload_n dX6_spare_130 rfl 0 rfl ?_
        refine zEV.gfr rfl inz6 1 (by decide) wf_RX6_16 (by decide) rfl rfl dX6_spare_131 ?_
        obtain ⟨q6, hq6, h⟩ := bind_yes h
        refine zEV.callVi (kX4_endsApart 10 lf_10 q4.2 q6 hq6) (by decide) rfl rfl wm_RX6_187 wc_X4_endsApart hy_X4_endsApart rfl ⟨Nat.le_of_ble_eq_true rfl, Nat.le_of_ble_eq_true rfl⟩ rfl (Nat.le_of_ble_eq_true rfl) dX6_spare_134 ?_
        refine zEV.istore_n dX6_spare_137 rfl (Nat.le_of_ble_eq_true rfl) rfl ?_
        refine zEV.iinc (v := (l4 + 1)) dX6_spare_138 4 rfl rfl (Nat.le_of_ble_eq_true rfl) rfl ?_
        refine zEV.iinc (v := (l5 + 1)) dX6_spare_141 5 rfl rfl (Nat.le_of_ble_eq_true rfl) rfl ?_
        refine zEV.goto 79 dX6_spare_144 (by decide) ?_
        exact zEV.perm [3, 4, 5, 2, 1, 0] rfl (ih (l2) (q6.1) ((l4 + 1)) ((l5 + 1)) q6.2 q h)
      · rw [if_neg c5] at h
        refine zEV.goto 147 dX6_spare_123 (by decide) ?_
        exact zEV.perm [0, 3, 4] rfl (tX6_spare_147 a1 (l3) (l4) q4.2 q h)
def fX6_spare_12 (a1 : Int32) (M : zMM) : Option (Int32 × zMM) :=
  (fX0_copy 10 0 M).bind fun q1 =>
  (fX4_set 10 q1).bind fun q2 =>
  (fX4_pageCount 10 q2).bind fun q3 =>
  if q3.1 = (0 : Int32) then
    some ((-2), q3.2)
  else
    (fX4_endsApart 10 q3.2).bind fun q5 =>
    if oob (a1) 3 then none else
    fX6_spare_79 a1 zFU (q3.1) (q5.1) (0) ((q5.2.1 2 (Int32.toNatClampNeg a1))) q5.2
set_option maxRecDepth 100000 in
theorem tX6_spare_12 (a1 : Int32) (M : zMM) (q : Int32 × zMM) (h : fX6_spare_12 a1  M = some q) : zEV iX6_spare 0 0 (zZO (some (.inl q.1), q.2)) 12 [(0, .inr (.inr 157)), (1, .inl a1)] [] M := by
  unfold fX6_spare_12 at h
  refine zEV.aload_n dX6_spare_12 rfl 0 rfl ?_
  refine zEV.gfr rfl inz6 1 (by decide) wf_RX6_16 (by decide) rfl rfl dX6_spare_13 ?_
  refine zEV.aload_n dX6_spare_16 rfl 0 rfl ?_
  refine zEV.gfr rfl inz6 0 (by decide) wf_RX6_12 (by decide) rfl rfl dX6_spare_17 ?_
  obtain ⟨q1, hq1, h⟩ := bind_yes h
  refine zEV.callVv (kX0_copy 10 0 lf_10 lf_0 M q1 hq1) (by decide) rfl rfl wm_RX6_240 wc_X0_copy hy_X0_copy rfl ⟨Nat.le_of_ble_eq_true rfl, Nat.le_of_ble_eq_true rfl⟩ rfl (Nat.le_of_ble_eq_true rfl) dX6_spare_20 ?_
  refine zEV.aload_n dX6_spare_23 rfl 0 rfl ?_
  refine zEV.gfr rfl inz6 2 (by decide) wf_RX6_22 (by decide) rfl rfl dX6_spare_24 ?_
  refine zEV.aload_n dX6_spare_27 rfl 0 rfl ?_
  refine zEV.gfr rfl inz6 1 (by decide) wf_RX6_16 (by decide) rfl rfl dX6_spare_28 ?_
  obtain ⟨q2, hq2, h⟩ := bind_yes h
  refine zEV.callVv (kX4_set 10 lf_10 q1 q2 hq2) (by decide) rfl rfl wm_RX6_113 wc_X4_set hy_X4_set rfl ⟨Nat.le_of_ble_eq_true rfl, Nat.le_of_ble_eq_true rfl⟩ rfl (Nat.le_of_ble_eq_true rfl) dX6_spare_31 ?_
  refine zEV.aload_n dX6_spare_34 rfl 0 rfl ?_
  refine zEV.gfr rfl inz6 2 (by decide) wf_RX6_22 (by decide) rfl rfl dX6_spare_35 ?_
  refine zEV.aload_n dX6_spare_38 rfl 0 rfl ?_
  refine zEV.gfr rfl inz6 1 (by decide) wf_RX6_16 (by decide) rfl rfl dX6_spare_39 ?_
  obtain ⟨q3, hq3, h⟩ := bind_yes h
  refine zEV.callVi (kX4_pageCount 10 lf_10 q2 q3 hq3) (by decide) rfl rfl wm_RX6_116 wc_X4_pageCount hy_X4_pageCount rfl ⟨Nat.le_of_ble_eq_true rfl, Nat.le_of_ble_eq_true rfl⟩ rfl (Nat.le_of_ble_eq_true rfl) dX6_spare_42 ?_
  refine zEV.istore_n dX6_spare_45 rfl (Nat.le_of_ble_eq_true rfl) rfl ?_
  refine zEV.iload_n dX6_spare_46 rfl 0 rfl ?_
  refine zEV.if_ne 53 dX6_spare_47 (by decide) (fun c4 => ?_) (fun c4 => ?_)
  · rw [if_neg c4] at h
    refine zEV.aload_n dX6_spare_53 rfl 1 rfl ?_
    refine zEV.gfr rfl inz6 2 (by decide) wf_RX6_22 (by decide) rfl rfl dX6_spare_54 ?_
    refine zEV.aload_n dX6_spare_57 rfl 1 rfl ?_
    refine zEV.gfr rfl inz6 1 (by decide) wf_RX6_16 (by decide) rfl rfl dX6_spare_58 ?_
    obtain ⟨q5, hq5, h⟩ := bind_yes h
    refine zEV.callVi (kX4_endsApart 10 lf_10 q3.2 q5 hq5) (by decide) rfl rfl wm_RX6_187 wc_X4_endsApart hy_X4_endsApart rfl ⟨Nat.le_of_ble_eq_true rfl, Nat.le_of_ble_eq_true rfl⟩ rfl (Nat.le_of_ble_eq_true rfl) dX6_spare_61 ?_
    refine zEV.istore_n dX6_spare_64 rfl (Nat.le_of_ble_eq_true rfl) rfl ?_
    refine zEV.iconst (v := 0) dX6_spare_65 rfl ?_
    refine zEV.istore dX6_spare_66 (Nat.le_of_ble_eq_true rfl) rfl ?_
    refine zEV.aload_n dX6_spare_68 rfl 3 rfl ?_
    refine zEV.gfr rfl inz6 0 (by decide) wf_RX6_12 (by decide) rfl rfl dX6_spare_69 ?_
    refine zEV.gfr rfl inz0 8 (by decide) wf_RX6_231 (by decide) rfl rfl dX6_spare_72 ?_
    refine zEV.iload_n dX6_spare_75 rfl 4 rfl ?_
    obtain ⟨g6, h⟩ := ite_no h
    refine zEV.iald (by decide) rfl g6 dX6_spare_76 ?_
    refine zEV.istore dX6_spare_77 (Nat.le_of_ble_eq_true rfl) rfl ?_
    exact zEV.perm [4, 5, 3, 2, 1, 0] rfl (tX6_spare_79 a1 zFU (q3.1) (q5.1) (0) ((q5.2.1 2 (Int32.toNatClampNeg a1))) q5.2 q h)
  · rw [if_pos c4] at h
    refine zEV.bipush (v := (-2)) dX6_spare_50 rfl ?_
    have h := Option.some.inj h
    subst h
    exact zEV.iret rfl dX6_spare_52
def fX6_spare (a1 : Int32) (M : zMM) : Option (Int32 × zMM) :=
  if a1 = 1 then
    fX6_spare_12 a1 M
  else
    if a1 = 2 then
      fX6_spare_12 a1 M
    else
      some ((-1), M)
set_option maxRecDepth 100000 in
theorem tX6_spare_0 (a1 : Int32) (M : zMM) (q : Int32 × zMM) (h : fX6_spare a1  M = some q) : zEV iX6_spare 0 0 (zZO (some (.inl q.1), q.2)) 0 [(0, .inr (.inr 157)), (1, .inl a1)] [] M := by
  unfold fX6_spare at h
  refine zEV.iload_n dX6_spare_0 rfl 1 rfl ?_
  refine zEV.iconst (v := 1) dX6_spare_1 rfl ?_
  refine zEV.icmp_eq 12 dX6_spare_2 (by decide) (fun c1 => ?_) (fun c1 => ?_)
  · rw [if_pos c1] at h
    exact zEV.perm [0, 1] rfl (tX6_spare_12 a1 M q h)
  · rw [if_neg c1] at h
    refine zEV.iload_n dX6_spare_5 rfl 1 rfl ?_
    refine zEV.iconst (v := 2) dX6_spare_6 rfl ?_
    refine zEV.icmp_eq 12 dX6_spare_7 (by decide) (fun c2 => ?_) (fun c2 => ?_)
    · rw [if_pos c2] at h
      exact zEV.perm [0, 1] rfl (tX6_spare_12 a1 M q h)
    · rw [if_neg c2] at h
      refine zEV.iconst (v := (-1)) dX6_spare_10 rfl ?_
      have h := Option.some.inj h
      subst h
      exact zEV.iret rfl dX6_spare_11
theorem kX6_spare (a1 : Int32) (M : zMM) (q : Int32 × zMM) (h : fX6_spare a1 M = some q) : zCN yX6_spare iX6_spare [.inr (.inr 157), .inl a1] M (some (.inl q.1), q.2) :=
  zCN.of (by decide) rfl rfl (Nat.le_of_ble_eq_true rfl) (zEV.perm [0, 1] rfl (tX6_spare_0 a1 M q h))
-- RingedPage.setMeasure
def fX6_setMeasure (a1 : Int32) (a2 : Int32) (M : zMM) : Option (Int32 × zMM) :=
  if a1 < (0 : Int32) then
    some ((-1), M)
  else
    if (3 : Int32) ≤ a1 then
      some ((-1), M)
    else
      if oob (a1) 3 then none else
      if a2 < (zst 0 (Int32.toNatClampNeg a1)) then
        some ((-1), M)
      else
        if a2 ≤ (zst 1 (Int32.toNatClampNeg a1)) then
          (fX0_measure 0 (a1) M).bind fun q6 =>
          if q6.1 = a2 then
            some ((-2), q6.2)
          else
            (fX0_setMeasure 0 (a1) (a2) q6.2).bind fun q8 =>
            (fX0_allowsItsPlan 0 q8).bind fun q9 =>
            if q9.1 = (0 : Int32) then
              (fX0_setMeasure 0 (a1) (q6.1) q9.2).bind fun q11 =>
              some ((-3), q11)
            else
              some (q6.1, q9.2)
        else
          some ((-1), M)
set_option maxRecDepth 100000 in
theorem tX6_setMeasure_0 (a1 : Int32) (a2 : Int32) (M : zMM) (q : Int32 × zMM) (h : fX6_setMeasure a1 a2  M = some q) : zEV iX6_setMeasure 0 0 (zZO (some (.inl q.1), q.2)) 0 [(0, .inr (.inr 157)), (1, .inl a1), (2, .inl a2)] [] M := by
  unfold fX6_setMeasure at h
  refine zEV.iload_n dX6_setMeasure_0 rfl 1 rfl ?_
  refine zEV.if_lt 27 dX6_setMeasure_1 (by decide) (fun c1 => ?_) (fun c1 => ?_)
  · rw [if_pos c1] at h
    refine zEV.iconst (v := (-1)) dX6_setMeasure_27 rfl ?_
    have h := Option.some.inj h
    subst h
    exact zEV.iret rfl dX6_setMeasure_28
  · rw [if_neg c1] at h
    refine zEV.iload_n dX6_setMeasure_4 rfl 1 rfl ?_
    refine zEV.iconst (v := 3) dX6_setMeasure_5 rfl ?_
    refine zEV.icmp_ge 27 dX6_setMeasure_6 (by decide) (fun c2 => ?_) (fun c2 => ?_)
    · rw [if_pos c2] at h
      refine zEV.iconst (v := (-1)) dX6_setMeasure_27 rfl ?_
      have h := Option.some.inj h
      subst h
      exact zEV.iret rfl dX6_setMeasure_28
    · rw [if_neg c2] at h
      refine zEV.iload_n dX6_setMeasure_9 rfl 2 rfl ?_
      refine zEV.gets 0 (by decide) wg_RX6_370 dX6_setMeasure_10 ?_
      refine zEV.iload_n dX6_setMeasure_13 rfl 1 rfl ?_
      obtain ⟨g3, h⟩ := ite_no h
      refine zEV.stld 0 (by decide) g3 dX6_setMeasure_14 ?_
      refine zEV.icmp_lt 27 dX6_setMeasure_15 (by decide) (fun c4 => ?_) (fun c4 => ?_)
      · rw [if_pos c4] at h
        refine zEV.iconst (v := (-1)) dX6_setMeasure_27 rfl ?_
        have h := Option.some.inj h
        subst h
        exact zEV.iret rfl dX6_setMeasure_28
      · rw [if_neg c4] at h
        refine zEV.iload_n dX6_setMeasure_18 rfl 2 rfl ?_
        refine zEV.gets 1 (by decide) wg_RX6_373 dX6_setMeasure_19 ?_
        refine zEV.iload_n dX6_setMeasure_22 rfl 1 rfl ?_
        refine zEV.stld 1 (by decide) g3 dX6_setMeasure_23 ?_
        refine zEV.icmp_le 29 dX6_setMeasure_24 (by decide) (fun c5 => ?_) (fun c5 => ?_)
        · rw [if_pos c5] at h
          refine zEV.aload_n dX6_setMeasure_29 rfl 0 rfl ?_
          refine zEV.gfr rfl inz6 0 (by decide) wf_RX6_12 (by decide) rfl rfl dX6_setMeasure_30 ?_
          refine zEV.iload_n dX6_setMeasure_33 rfl 1 rfl ?_
          obtain ⟨q6, hq6, h⟩ := bind_yes h
          refine zEV.callVi (kX0_measure 0 (a1) lf_0 M q6 hq6) (by decide) rfl rfl wm_RX6_376 wc_X0_measure hy_X0_measure rfl ⟨Nat.le_of_ble_eq_true rfl, Nat.le_of_ble_eq_true rfl⟩ rfl (Nat.le_of_ble_eq_true rfl) dX6_setMeasure_34 ?_
          refine zEV.istore_n dX6_setMeasure_37 rfl (Nat.le_of_ble_eq_true rfl) rfl ?_
          refine zEV.iload_n dX6_setMeasure_38 rfl 0 rfl ?_
          refine zEV.iload_n dX6_setMeasure_39 rfl 3 rfl ?_
          refine zEV.icmp_ne 46 dX6_setMeasure_40 (by decide) (fun c7 => ?_) (fun c7 => ?_)
          · rw [if_neg c7] at h
            refine zEV.aload_n dX6_setMeasure_46 rfl 1 rfl ?_
            refine zEV.gfr rfl inz6 0 (by decide) wf_RX6_12 (by decide) rfl rfl dX6_setMeasure_47 ?_
            refine zEV.iload_n dX6_setMeasure_50 rfl 2 rfl ?_
            refine zEV.iload_n dX6_setMeasure_51 rfl 3 rfl ?_
            obtain ⟨q8, hq8, h⟩ := bind_yes h
            refine zEV.callVv (kX0_setMeasure 0 (a1) (a2) lf_0 q6.2 q8 hq8) (by decide) rfl rfl wm_RX6_379 wc_X0_setMeasure hy_X0_setMeasure rfl ⟨Nat.le_of_ble_eq_true rfl, Nat.le_of_ble_eq_true rfl⟩ rfl (Nat.le_of_ble_eq_true rfl) dX6_setMeasure_52 ?_
            refine zEV.aload_n dX6_setMeasure_55 rfl 1 rfl ?_
            refine zEV.gfr rfl inz6 0 (by decide) wf_RX6_12 (by decide) rfl rfl dX6_setMeasure_56 ?_
            obtain ⟨q9, hq9, h⟩ := bind_yes h
            refine zEV.callVi (kX0_allowsItsPlan 0 lf_0 q8 q9 hq9) (by decide) rfl rfl wm_RX6_382 wc_X0_allowsItsPlan hy_X0_allowsItsPlan rfl ⟨Nat.le_of_ble_eq_true rfl, Nat.le_of_ble_eq_true rfl⟩ rfl (Nat.le_of_ble_eq_true rfl) dX6_setMeasure_59 ?_
            refine zEV.if_ne 77 dX6_setMeasure_62 (by decide) (fun c10 => ?_) (fun c10 => ?_)
            · rw [if_neg c10] at h
              refine zEV.iload_n dX6_setMeasure_77 rfl 0 rfl ?_
              have h := Option.some.inj h
              subst h
              exact zEV.iret rfl dX6_setMeasure_78
            · rw [if_pos c10] at h
              refine zEV.aload_n dX6_setMeasure_65 rfl 1 rfl ?_
              refine zEV.gfr rfl inz6 0 (by decide) wf_RX6_12 (by decide) rfl rfl dX6_setMeasure_66 ?_
              refine zEV.iload_n dX6_setMeasure_69 rfl 2 rfl ?_
              refine zEV.iload_n dX6_setMeasure_70 rfl 0 rfl ?_
              obtain ⟨q11, hq11, h⟩ := bind_yes h
              refine zEV.callVv (kX0_setMeasure 0 (a1) (q6.1) lf_0 q9.2 q11 hq11) (by decide) rfl rfl wm_RX6_379 wc_X0_setMeasure hy_X0_setMeasure rfl ⟨Nat.le_of_ble_eq_true rfl, Nat.le_of_ble_eq_true rfl⟩ rfl (Nat.le_of_ble_eq_true rfl) dX6_setMeasure_71 ?_
              refine zEV.bipush (v := (-3)) dX6_setMeasure_74 rfl ?_
              have h := Option.some.inj h
              subst h
              exact zEV.iret rfl dX6_setMeasure_76
          · rw [if_pos c7] at h
            refine zEV.bipush (v := (-2)) dX6_setMeasure_43 rfl ?_
            have h := Option.some.inj h
            subst h
            exact zEV.iret rfl dX6_setMeasure_45
        · rw [if_neg c5] at h
          refine zEV.iconst (v := (-1)) dX6_setMeasure_27 rfl ?_
          have h := Option.some.inj h
          subst h
          exact zEV.iret rfl dX6_setMeasure_28
theorem kX6_setMeasure (a1 : Int32) (a2 : Int32) (M : zMM) (q : Int32 × zMM) (h : fX6_setMeasure a1 a2 M = some q) : zCN yX6_setMeasure iX6_setMeasure [.inr (.inr 157), .inl a1, .inl a2] M (some (.inl q.1), q.2) :=
  zCN.of (by decide) rfl rfl (Nat.le_of_ble_eq_true rfl) (zEV.perm [0, 1, 2] rfl (tX6_setMeasure_0 a1 a2 M q h))
-- RingedPage.sets
def fX6_sets (a1 : Int32) (a2 : Int32) (M : zMM) : Option (Int32 × zMM) :=
  (fX1_mark 0 M).bind fun q1 =>
  (fX6_setMeasure (a1) (a2) q1).bind fun q2 =>
  (fX6_remembered (q2.1) q2.2).bind fun q3 =>
  some (q3.1, q3.2)
set_option maxRecDepth 100000 in
theorem tX6_sets_0 (a1 : Int32) (a2 : Int32) (M : zMM) (q : Int32 × zMM) (h : fX6_sets a1 a2  M = some q) : zEV iX6_sets 0 0 (zZO (some (.inl q.1), q.2)) 0 [(0, .inr (.inr 157)), (1, .inl a1), (2, .inl a2)] [] M := by
  unfold fX6_sets at h
  refine zEV.aload_n dX6_sets_0 rfl 0 rfl ?_
  refine zEV.gfr rfl inz6 4 (by decide) wf_RX6_36 (by decide) rfl rfl dX6_sets_1 ?_
  refine zEV.aload_n dX6_sets_4 rfl 0 rfl ?_
  refine zEV.gfr rfl inz6 0 (by decide) wf_RX6_12 (by decide) rfl rfl dX6_sets_5 ?_
  obtain ⟨q1, hq1, h⟩ := bind_yes h
  refine zEV.callVv (kX1_mark 0 lf_0 M q1 hq1) (by decide) rfl rfl wm_RX6_73 wc_X1_mark hy_X1_mark rfl ⟨Nat.le_of_ble_eq_true rfl, Nat.le_of_ble_eq_true rfl⟩ rfl (Nat.le_of_ble_eq_true rfl) dX6_sets_8 ?_
  refine zEV.aload_n dX6_sets_11 rfl 0 rfl ?_
  refine zEV.aload_n dX6_sets_12 rfl 0 rfl ?_
  refine zEV.iload_n dX6_sets_13 rfl 1 rfl ?_
  refine zEV.iload_n dX6_sets_14 rfl 2 rfl ?_
  obtain ⟨q2, hq2, h⟩ := bind_yes h
  refine zEV.callVi (kX6_setMeasure (a1) (a2)  q1 q2 hq2) (by decide) rfl rfl wm_RX6_291 wc_X6_setMeasure hy_X6_setMeasure rfl ⟨Nat.le_of_ble_eq_true rfl, Nat.le_of_ble_eq_true rfl⟩ rfl (Nat.le_of_ble_eq_true rfl) dX6_sets_15 ?_
  obtain ⟨q3, hq3, h⟩ := bind_yes h
  refine zEV.callVi (kX6_remembered (q2.1)  q2.2 q3 hq3) (by decide) rfl rfl wm_RX6_87 wc_X6_remembered hy_X6_remembered rfl ⟨Nat.le_of_ble_eq_true rfl, Nat.le_of_ble_eq_true rfl⟩ rfl (Nat.le_of_ble_eq_true rfl) dX6_sets_18 ?_
  have h := Option.some.inj h
  subst h
  exact zEV.iret rfl dX6_sets_21
theorem kX6_sets (a1 : Int32) (a2 : Int32) (M : zMM) (q : Int32 × zMM) (h : fX6_sets a1 a2 M = some q) : zCN yX6_sets iX6_sets [.inr (.inr 157), .inl a1, .inl a2] M (some (.inl q.1), q.2) :=
  zCN.of (by decide) rfl rfl (Nat.le_of_ble_eq_true rfl) (zEV.perm [0, 1, 2] rfl (tX6_sets_0 a1 a2 M q h))
-- RingedPage.weighs
def fX6_weighs (a1 : Int32) (a2 : Int32) (M : zMM) : Option (Int32 × zMM) :=
  if a1 < (0 : Int32) then
    some ((-1), M)
  else
    if (3 : Int32) ≤ a1 then
      some ((-1), M)
    else
      if a2 < (0 : Int32) then
        some ((-1), M)
      else
        if oob (a1) 3 then none else
        if a2 ≤ (zst 2 (Int32.toNatClampNeg a1)) then
          if (M.1 1 (Int32.toNatClampNeg a1)) = a2 then
            some ((-2), M)
          else
            (fX1_mark 0 M).bind fun q7 =>
            (fX6_remembered ((M.1 1 (Int32.toNatClampNeg a1))) (wr q7 1 (Int32.toNatClampNeg a1) a2)).bind fun q8 =>
            some (q8.1, q8.2)
        else
          some ((-1), M)
set_option maxRecDepth 100000 in
theorem tX6_weighs_0 (a1 : Int32) (a2 : Int32) (M : zMM) (q : Int32 × zMM) (h : fX6_weighs a1 a2  M = some q) : zEV iX6_weighs 0 0 (zZO (some (.inl q.1), q.2)) 0 [(0, .inr (.inr 157)), (1, .inl a1), (2, .inl a2)] [] M := by
  unfold fX6_weighs at h
  refine zEV.iload_n dX6_weighs_0 rfl 1 rfl ?_
  refine zEV.if_lt 22 dX6_weighs_1 (by decide) (fun c1 => ?_) (fun c1 => ?_)
  · rw [if_pos c1] at h
    refine zEV.iconst (v := (-1)) dX6_weighs_22 rfl ?_
    have h := Option.some.inj h
    subst h
    exact zEV.iret rfl dX6_weighs_23
  · rw [if_neg c1] at h
    refine zEV.iload_n dX6_weighs_4 rfl 1 rfl ?_
    refine zEV.iconst (v := 3) dX6_weighs_5 rfl ?_
    refine zEV.icmp_ge 22 dX6_weighs_6 (by decide) (fun c2 => ?_) (fun c2 => ?_)
    · rw [if_pos c2] at h
      refine zEV.iconst (v := (-1)) dX6_weighs_22 rfl ?_
      have h := Option.some.inj h
      subst h
      exact zEV.iret rfl dX6_weighs_23
    · rw [if_neg c2] at h
      refine zEV.iload_n dX6_weighs_9 rfl 2 rfl ?_
      refine zEV.if_lt 22 dX6_weighs_10 (by decide) (fun c3 => ?_) (fun c3 => ?_)
      · rw [if_pos c3] at h
        refine zEV.iconst (v := (-1)) dX6_weighs_22 rfl ?_
        have h := Option.some.inj h
        subst h
        exact zEV.iret rfl dX6_weighs_23
      · rw [if_neg c3] at h
        refine zEV.iload_n dX6_weighs_13 rfl 2 rfl ?_
        refine zEV.gets 2 (by decide) wg_RX6_294 dX6_weighs_14 ?_
        refine zEV.iload_n dX6_weighs_17 rfl 1 rfl ?_
        obtain ⟨g4, h⟩ := ite_no h
        refine zEV.stld 2 (by decide) g4 dX6_weighs_18 ?_
        refine zEV.icmp_le 24 dX6_weighs_19 (by decide) (fun c5 => ?_) (fun c5 => ?_)
        · rw [if_pos c5] at h
          refine zEV.aload_n dX6_weighs_24 rfl 0 rfl ?_
          refine zEV.gfr rfl inz6 0 (by decide) wf_RX6_12 (by decide) rfl rfl dX6_weighs_25 ?_
          refine zEV.gfr rfl inz0 7 (by decide) wf_RX6_297 (by decide) rfl rfl dX6_weighs_28 ?_
          refine zEV.iload_n dX6_weighs_31 rfl 1 rfl ?_
          refine zEV.iald (by decide) rfl g4 dX6_weighs_32 ?_
          refine zEV.istore_n dX6_weighs_33 rfl (Nat.le_of_ble_eq_true rfl) rfl ?_
          refine zEV.iload_n dX6_weighs_34 rfl 0 rfl ?_
          refine zEV.iload_n dX6_weighs_35 rfl 3 rfl ?_
          refine zEV.icmp_ne 42 dX6_weighs_36 (by decide) (fun c6 => ?_) (fun c6 => ?_)
          · rw [if_neg c6] at h
            refine zEV.aload_n dX6_weighs_42 rfl 1 rfl ?_
            refine zEV.gfr rfl inz6 4 (by decide) wf_RX6_36 (by decide) rfl rfl dX6_weighs_43 ?_
            refine zEV.aload_n dX6_weighs_46 rfl 1 rfl ?_
            refine zEV.gfr rfl inz6 0 (by decide) wf_RX6_12 (by decide) rfl rfl dX6_weighs_47 ?_
            obtain ⟨q7, hq7, h⟩ := bind_yes h
            refine zEV.callVv (kX1_mark 0 lf_0 M q7 hq7) (by decide) rfl rfl wm_RX6_73 wc_X1_mark hy_X1_mark rfl ⟨Nat.le_of_ble_eq_true rfl, Nat.le_of_ble_eq_true rfl⟩ rfl (Nat.le_of_ble_eq_true rfl) dX6_weighs_50 ?_
            refine zEV.aload_n dX6_weighs_53 rfl 1 rfl ?_
            refine zEV.gfr rfl inz6 0 (by decide) wf_RX6_12 (by decide) rfl rfl dX6_weighs_54 ?_
            refine zEV.gfr rfl inz0 7 (by decide) wf_RX6_297 (by decide) rfl rfl dX6_weighs_57 ?_
            refine zEV.iload_n dX6_weighs_60 rfl 2 rfl ?_
            refine zEV.iload_n dX6_weighs_61 rfl 3 rfl ?_
            refine zEV.iast (by decide) rfl g4 dX6_weighs_62 ?_
            refine zEV.aload_n dX6_weighs_63 rfl 1 rfl ?_
            refine zEV.iload_n dX6_weighs_64 rfl 0 rfl ?_
            obtain ⟨q8, hq8, h⟩ := bind_yes h
            refine zEV.callVi (kX6_remembered ((M.1 1 (Int32.toNatClampNeg a1)))  (wr q7 1 (Int32.toNatClampNeg a1) a2) q8 hq8) (by decide) rfl rfl wm_RX6_87 wc_X6_remembered hy_X6_remembered rfl ⟨Nat.le_of_ble_eq_true rfl, Nat.le_of_ble_eq_true rfl⟩ rfl (Nat.le_of_ble_eq_true rfl) dX6_weighs_65 ?_
            have h := Option.some.inj h
            subst h
            exact zEV.iret rfl dX6_weighs_68
          · rw [if_pos c6] at h
            refine zEV.bipush (v := (-2)) dX6_weighs_39 rfl ?_
            have h := Option.some.inj h
            subst h
            exact zEV.iret rfl dX6_weighs_41
        · rw [if_neg c5] at h
          refine zEV.iconst (v := (-1)) dX6_weighs_22 rfl ?_
          have h := Option.some.inj h
          subst h
          exact zEV.iret rfl dX6_weighs_23
theorem kX6_weighs (a1 : Int32) (a2 : Int32) (M : zMM) (q : Int32 × zMM) (h : fX6_weighs a1 a2 M = some q) : zCN yX6_weighs iX6_weighs [.inr (.inr 157), .inl a1, .inl a2] M (some (.inl q.1), q.2) :=
  zCN.of (by decide) rfl rfl (Nat.le_of_ble_eq_true rfl) (zEV.perm [0, 1, 2] rfl (tX6_weighs_0 a1 a2 M q h))
-- RingedPage.swapComments
def fX6_swapComments_27 (M : zMM) : Option (Int32 × zMM) :=
  (fX0_swap 0 M).bind fun q1 =>
  some ((q1.1 2 1), q1)
set_option maxRecDepth 100000 in
theorem tX6_swapComments_27 (M : zMM) (q : Int32 × zMM) (h : fX6_swapComments_27  M = some q) : zEV iX6_swapComments 0 0 (zZO (some (.inl q.1), q.2)) 27 [(0, .inr (.inr 157))] [] M := by
  unfold fX6_swapComments_27 at h
  refine zEV.aload_n dX6_swapComments_27 rfl 0 rfl ?_
  refine zEV.gfr rfl inz6 0 (by decide) wf_RX6_12 (by decide) rfl rfl dX6_swapComments_28 ?_
  obtain ⟨q1, hq1, h⟩ := bind_yes h
  refine zEV.callVv (kX0_swap 0 lf_0 M q1 hq1) (by decide) rfl rfl wm_RX6_386 wc_X0_swap hy_X0_swap rfl ⟨Nat.le_of_ble_eq_true rfl, Nat.le_of_ble_eq_true rfl⟩ rfl (Nat.le_of_ble_eq_true rfl) dX6_swapComments_31 ?_
  refine zEV.aload_n dX6_swapComments_34 rfl 0 rfl ?_
  refine zEV.gfr rfl inz6 0 (by decide) wf_RX6_12 (by decide) rfl rfl dX6_swapComments_35 ?_
  refine zEV.gfr rfl inz0 8 (by decide) wf_RX6_231 (by decide) rfl rfl dX6_swapComments_38 ?_
  refine zEV.iconst (v := 1) dX6_swapComments_41 rfl ?_
  refine zEV.ialdL (j := 1) (by decide) rfl (by decide) (by decide) dX6_swapComments_42 ?_
  have h := Option.some.inj h
  subst h
  exact zEV.iret rfl dX6_swapComments_43
def fX6_swapComments (M : zMM) : Option (Int32 × zMM) :=
  if (M.1 2 1) = (0 : Int32) then
    if (M.1 2 2) = (0 : Int32) then
      some ((-2), M)
    else
      fX6_swapComments_27 M
  else
    fX6_swapComments_27 M
set_option maxRecDepth 100000 in
theorem tX6_swapComments_0 (M : zMM) (q : Int32 × zMM) (h : fX6_swapComments  M = some q) : zEV iX6_swapComments 0 0 (zZO (some (.inl q.1), q.2)) 0 [(0, .inr (.inr 157))] [] M := by
  unfold fX6_swapComments at h
  refine zEV.aload_n dX6_swapComments_0 rfl 0 rfl ?_
  refine zEV.gfr rfl inz6 0 (by decide) wf_RX6_12 (by decide) rfl rfl dX6_swapComments_1 ?_
  refine zEV.gfr rfl inz0 8 (by decide) wf_RX6_231 (by decide) rfl rfl dX6_swapComments_4 ?_
  refine zEV.iconst (v := 1) dX6_swapComments_7 rfl ?_
  refine zEV.ialdL (j := 1) (by decide) rfl (by decide) (by decide) dX6_swapComments_8 ?_
  refine zEV.if_ne 27 dX6_swapComments_9 (by decide) (fun c1 => ?_) (fun c1 => ?_)
  · rw [if_neg c1] at h
    exact zEV.perm [0] rfl (tX6_swapComments_27 M q h)
  · rw [if_pos c1] at h
    refine zEV.aload_n dX6_swapComments_12 rfl 0 rfl ?_
    refine zEV.gfr rfl inz6 0 (by decide) wf_RX6_12 (by decide) rfl rfl dX6_swapComments_13 ?_
    refine zEV.gfr rfl inz0 8 (by decide) wf_RX6_231 (by decide) rfl rfl dX6_swapComments_16 ?_
    refine zEV.iconst (v := 2) dX6_swapComments_19 rfl ?_
    refine zEV.ialdL (j := 2) (by decide) rfl (by decide) (by decide) dX6_swapComments_20 ?_
    refine zEV.if_ne 27 dX6_swapComments_21 (by decide) (fun c2 => ?_) (fun c2 => ?_)
    · rw [if_neg c2] at h
      exact zEV.perm [0] rfl (tX6_swapComments_27 M q h)
    · rw [if_pos c2] at h
      refine zEV.bipush (v := (-2)) dX6_swapComments_24 rfl ?_
      have h := Option.some.inj h
      subst h
      exact zEV.iret rfl dX6_swapComments_26
theorem kX6_swapComments (M : zMM) (q : Int32 × zMM) (h : fX6_swapComments M = some q) : zCN yX6_swapComments iX6_swapComments [.inr (.inr 157)] M (some (.inl q.1), q.2) :=
  zCN.of (by decide) rfl rfl (Nat.le_of_ble_eq_true rfl) (zEV.perm [0] rfl (tX6_swapComments_0 M q h))
-- RingedPage.swaps
def fX6_swaps (M : zMM) : Option (Int32 × zMM) :=
  (fX1_mark 0 M).bind fun q1 =>
  (fX6_swapComments  q1).bind fun q2 =>
  (fX6_remembered (q2.1) q2.2).bind fun q3 =>
  some (q3.1, q3.2)
set_option maxRecDepth 100000 in
theorem tX6_swaps_0 (M : zMM) (q : Int32 × zMM) (h : fX6_swaps  M = some q) : zEV iX6_swaps 0 0 (zZO (some (.inl q.1), q.2)) 0 [(0, .inr (.inr 157))] [] M := by
  unfold fX6_swaps at h
  refine zEV.aload_n dX6_swaps_0 rfl 0 rfl ?_
  refine zEV.gfr rfl inz6 4 (by decide) wf_RX6_36 (by decide) rfl rfl dX6_swaps_1 ?_
  refine zEV.aload_n dX6_swaps_4 rfl 0 rfl ?_
  refine zEV.gfr rfl inz6 0 (by decide) wf_RX6_12 (by decide) rfl rfl dX6_swaps_5 ?_
  obtain ⟨q1, hq1, h⟩ := bind_yes h
  refine zEV.callVv (kX1_mark 0 lf_0 M q1 hq1) (by decide) rfl rfl wm_RX6_73 wc_X1_mark hy_X1_mark rfl ⟨Nat.le_of_ble_eq_true rfl, Nat.le_of_ble_eq_true rfl⟩ rfl (Nat.le_of_ble_eq_true rfl) dX6_swaps_8 ?_
  refine zEV.aload_n dX6_swaps_11 rfl 0 rfl ?_
  refine zEV.aload_n dX6_swaps_12 rfl 0 rfl ?_
  obtain ⟨q2, hq2, h⟩ := bind_yes h
  refine zEV.callVi (kX6_swapComments   q1 q2 hq2) (by decide) rfl rfl wm_RX6_300 wc_X6_swapComments hy_X6_swapComments rfl ⟨Nat.le_of_ble_eq_true rfl, Nat.le_of_ble_eq_true rfl⟩ rfl (Nat.le_of_ble_eq_true rfl) dX6_swaps_13 ?_
  obtain ⟨q3, hq3, h⟩ := bind_yes h
  refine zEV.callVi (kX6_remembered (q2.1)  q2.2 q3 hq3) (by decide) rfl rfl wm_RX6_87 wc_X6_remembered hy_X6_remembered rfl ⟨Nat.le_of_ble_eq_true rfl, Nat.le_of_ble_eq_true rfl⟩ rfl (Nat.le_of_ble_eq_true rfl) dX6_swaps_16 ?_
  have h := Option.some.inj h
  subst h
  exact zEV.iret rfl dX6_swaps_19
theorem kX6_swaps (M : zMM) (q : Int32 × zMM) (h : fX6_swaps M = some q) : zCN yX6_swaps iX6_swaps [.inr (.inr 157)] M (some (.inl q.1), q.2) :=
  zCN.of (by decide) rfl rfl (Nat.le_of_ble_eq_true rfl) (zEV.perm [0] rfl (tX6_swaps_0 M q h))
-- RingedPage.setPlan
def fX6_setPlan (a1 : Int32) (a2 : Int32) (a3 : Int32) (M : zMM) : Option (Int32 × zMM) :=
  (fX0_allows 0 (a1) (a2) (a3) M).bind fun q1 =>
  if q1.1 = (0 : Int32) then
    some ((-1), q1.2)
  else
    (fX0_hasPlan 0 (a1) (a2) (a3) q1.2).bind fun q3 =>
    if q3.1 = (0 : Int32) then
      (fX0_plan 0 (a1) (a2) (a3) q3.2).bind fun q5 =>
      some ((((10000 * (q3.2.1 0 3)) + (100 * (q3.2.1 0 4))) + (q3.2.1 0 5)), q5)
    else
      some ((-2), q3.2)
set_option maxRecDepth 100000 in
theorem tX6_setPlan_0 (a1 : Int32) (a2 : Int32) (a3 : Int32) (M : zMM) (q : Int32 × zMM) (h : fX6_setPlan a1 a2 a3  M = some q) : zEV iX6_setPlan 0 0 (zZO (some (.inl q.1), q.2)) 0 [(0, .inr (.inr 157)), (1, .inl a1), (2, .inl a2), (3, .inl a3)] [] M := by
  unfold fX6_setPlan at h
  refine zEV.aload_n dX6_setPlan_0 rfl 0 rfl ?_
  refine zEV.gfr rfl inz6 0 (by decide) wf_RX6_12 (by decide) rfl rfl dX6_setPlan_1 ?_
  refine zEV.iload_n dX6_setPlan_4 rfl 1 rfl ?_
  refine zEV.iload_n dX6_setPlan_5 rfl 2 rfl ?_
  refine zEV.iload_n dX6_setPlan_6 rfl 3 rfl ?_
  obtain ⟨q1, hq1, h⟩ := bind_yes h
  refine zEV.callVi (kX0_allows 0 (a1) (a2) (a3) lf_0 M q1 hq1) (by decide) rfl rfl wm_RX6_237 wc_X0_allows hy_X0_allows rfl ⟨Nat.le_of_ble_eq_true rfl, Nat.le_of_ble_eq_true rfl⟩ rfl (Nat.le_of_ble_eq_true rfl) dX6_setPlan_7 ?_
  refine zEV.if_ne 15 dX6_setPlan_10 (by decide) (fun c2 => ?_) (fun c2 => ?_)
  · rw [if_neg c2] at h
    refine zEV.aload_n dX6_setPlan_15 rfl 0 rfl ?_
    refine zEV.gfr rfl inz6 0 (by decide) wf_RX6_12 (by decide) rfl rfl dX6_setPlan_16 ?_
    refine zEV.iload_n dX6_setPlan_19 rfl 1 rfl ?_
    refine zEV.iload_n dX6_setPlan_20 rfl 2 rfl ?_
    refine zEV.iload_n dX6_setPlan_21 rfl 3 rfl ?_
    obtain ⟨q3, hq3, h⟩ := bind_yes h
    refine zEV.callVi (kX0_hasPlan 0 (a1) (a2) (a3) lf_0 q1.2 q3 hq3) (by decide) rfl rfl wm_RX6_389 wc_X0_hasPlan hy_X0_hasPlan rfl ⟨Nat.le_of_ble_eq_true rfl, Nat.le_of_ble_eq_true rfl⟩ rfl (Nat.le_of_ble_eq_true rfl) dX6_setPlan_22 ?_
    refine zEV.if_eq 31 dX6_setPlan_25 (by decide) (fun c4 => ?_) (fun c4 => ?_)
    · rw [if_pos c4] at h
      refine zEV.sipush (v := 10000) dX6_setPlan_31 rfl ?_
      refine zEV.aload_n dX6_setPlan_34 rfl 0 rfl ?_
      refine zEV.gfr rfl inz6 0 (by decide) wf_RX6_12 (by decide) rfl rfl dX6_setPlan_35 ?_
      refine zEV.gfi rfl inz0 3 (by decide) wf_RX6_344 (by decide) rfl rfl dX6_setPlan_38 ?_
      refine zEV.imul dX6_setPlan_41 ?_
      refine zEV.bipush (v := 100) dX6_setPlan_42 rfl ?_
      refine zEV.aload_n dX6_setPlan_44 rfl 0 rfl ?_
      refine zEV.gfr rfl inz6 0 (by decide) wf_RX6_12 (by decide) rfl rfl dX6_setPlan_45 ?_
      refine zEV.gfi rfl inz0 4 (by decide) wf_RX6_345 (by decide) rfl rfl dX6_setPlan_48 ?_
      refine zEV.imul dX6_setPlan_51 ?_
      refine zEV.iadd dX6_setPlan_52 ?_
      refine zEV.aload_n dX6_setPlan_53 rfl 0 rfl ?_
      refine zEV.gfr rfl inz6 0 (by decide) wf_RX6_12 (by decide) rfl rfl dX6_setPlan_54 ?_
      refine zEV.gfi rfl inz0 5 (by decide) wf_RX6_346 (by decide) rfl rfl dX6_setPlan_57 ?_
      refine zEV.iadd dX6_setPlan_60 ?_
      refine zEV.istore dX6_setPlan_61 (Nat.le_of_ble_eq_true rfl) rfl ?_
      refine zEV.aload_n dX6_setPlan_63 rfl 1 rfl ?_
      refine zEV.gfr rfl inz6 0 (by decide) wf_RX6_12 (by decide) rfl rfl dX6_setPlan_64 ?_
      refine zEV.iload_n dX6_setPlan_67 rfl 2 rfl ?_
      refine zEV.iload_n dX6_setPlan_68 rfl 3 rfl ?_
      refine zEV.iload_n dX6_setPlan_69 rfl 4 rfl ?_
      obtain ⟨q5, hq5, h⟩ := bind_yes h
      refine zEV.callVv (kX0_plan 0 (a1) (a2) (a3) lf_0 q3.2 q5 hq5) (by decide) rfl rfl wm_RX6_243 wc_X0_plan hy_X0_plan rfl ⟨Nat.le_of_ble_eq_true rfl, Nat.le_of_ble_eq_true rfl⟩ rfl (Nat.le_of_ble_eq_true rfl) dX6_setPlan_70 ?_
      refine zEV.iload dX6_setPlan_73 0 rfl ?_
      have h := Option.some.inj h
      subst h
      exact zEV.iret rfl dX6_setPlan_75
    · rw [if_neg c4] at h
      refine zEV.bipush (v := (-2)) dX6_setPlan_28 rfl ?_
      have h := Option.some.inj h
      subst h
      exact zEV.iret rfl dX6_setPlan_30
  · rw [if_pos c2] at h
    refine zEV.iconst (v := (-1)) dX6_setPlan_13 rfl ?_
    have h := Option.some.inj h
    subst h
    exact zEV.iret rfl dX6_setPlan_14
theorem kX6_setPlan (a1 : Int32) (a2 : Int32) (a3 : Int32) (M : zMM) (q : Int32 × zMM) (h : fX6_setPlan a1 a2 a3 M = some q) : zCN yX6_setPlan iX6_setPlan [.inr (.inr 157), .inl a1, .inl a2, .inl a3] M (some (.inl q.1), q.2) :=
  zCN.of (by decide) rfl rfl (Nat.le_of_ble_eq_true rfl) (zEV.perm [0, 1, 2, 3] rfl (tX6_setPlan_0 a1 a2 a3 M q h))
-- RingedPage.plans
def fX6_plans (a1 : Int32) (a2 : Int32) (a3 : Int32) (M : zMM) : Option (Int32 × zMM) :=
  (fX1_mark 0 M).bind fun q1 =>
  (fX6_setPlan (a1) (a2) (a3) q1).bind fun q2 =>
  (fX6_remembered (q2.1) q2.2).bind fun q3 =>
  some (q3.1, q3.2)
set_option maxRecDepth 100000 in
theorem tX6_plans_0 (a1 : Int32) (a2 : Int32) (a3 : Int32) (M : zMM) (q : Int32 × zMM) (h : fX6_plans a1 a2 a3  M = some q) : zEV iX6_plans 0 0 (zZO (some (.inl q.1), q.2)) 0 [(0, .inr (.inr 157)), (1, .inl a1), (2, .inl a2), (3, .inl a3)] [] M := by
  unfold fX6_plans at h
  refine zEV.aload_n dX6_plans_0 rfl 0 rfl ?_
  refine zEV.gfr rfl inz6 4 (by decide) wf_RX6_36 (by decide) rfl rfl dX6_plans_1 ?_
  refine zEV.aload_n dX6_plans_4 rfl 0 rfl ?_
  refine zEV.gfr rfl inz6 0 (by decide) wf_RX6_12 (by decide) rfl rfl dX6_plans_5 ?_
  obtain ⟨q1, hq1, h⟩ := bind_yes h
  refine zEV.callVv (kX1_mark 0 lf_0 M q1 hq1) (by decide) rfl rfl wm_RX6_73 wc_X1_mark hy_X1_mark rfl ⟨Nat.le_of_ble_eq_true rfl, Nat.le_of_ble_eq_true rfl⟩ rfl (Nat.le_of_ble_eq_true rfl) dX6_plans_8 ?_
  refine zEV.aload_n dX6_plans_11 rfl 0 rfl ?_
  refine zEV.aload_n dX6_plans_12 rfl 0 rfl ?_
  refine zEV.iload_n dX6_plans_13 rfl 1 rfl ?_
  refine zEV.iload_n dX6_plans_14 rfl 2 rfl ?_
  refine zEV.iload_n dX6_plans_15 rfl 3 rfl ?_
  obtain ⟨q2, hq2, h⟩ := bind_yes h
  refine zEV.callVi (kX6_setPlan (a1) (a2) (a3)  q1 q2 hq2) (by decide) rfl rfl wm_RX6_303 wc_X6_setPlan hy_X6_setPlan rfl ⟨Nat.le_of_ble_eq_true rfl, Nat.le_of_ble_eq_true rfl⟩ rfl (Nat.le_of_ble_eq_true rfl) dX6_plans_16 ?_
  obtain ⟨q3, hq3, h⟩ := bind_yes h
  refine zEV.callVi (kX6_remembered (q2.1)  q2.2 q3 hq3) (by decide) rfl rfl wm_RX6_87 wc_X6_remembered hy_X6_remembered rfl ⟨Nat.le_of_ble_eq_true rfl, Nat.le_of_ble_eq_true rfl⟩ rfl (Nat.le_of_ble_eq_true rfl) dX6_plans_19 ?_
  have h := Option.some.inj h
  subst h
  exact zEV.iret rfl dX6_plans_22
theorem kX6_plans (a1 : Int32) (a2 : Int32) (a3 : Int32) (M : zMM) (q : Int32 × zMM) (h : fX6_plans a1 a2 a3 M = some q) : zCN yX6_plans iX6_plans [.inr (.inr 157), .inl a1, .inl a2, .inl a3] M (some (.inl q.1), q.2) :=
  zCN.of (by decide) rfl rfl (Nat.le_of_ble_eq_true rfl) (zEV.perm [0, 1, 2, 3] rfl (tX6_plans_0 a1 a2 a3 M q h))
-- RingedPage.setBest
def fX6_setBest (a1 : Int32) (a2 : Int32) (M : zMM) : Option (Int32 × zMM) :=
  (fX6_isGrid (a1) (a2) M).bind fun q1 =>
  if q1.1 = (0 : Int32) then
    some ((-1), q1.2)
  else
    (fX0_copy 10 0 q1.2).bind fun q3 =>
    (fX3_findBest 10 (a1) (a2) q3).bind fun q4 =>
    (fX0_hasPlan 0 ((q4.1 148 0)) ((q4.1 148 1)) ((q4.1 148 2)) q4).bind fun q5 =>
    if q5.1 = (0 : Int32) then
      (fX0_plan 0 ((q5.2.1 148 0)) ((q5.2.1 148 1)) ((q5.2.1 148 2)) q5.2).bind fun q7 =>
      some ((q7.1 148 3), q7)
    else
      some ((-2), q5.2)
set_option maxRecDepth 100000 in
theorem tX6_setBest_0 (a1 : Int32) (a2 : Int32) (M : zMM) (q : Int32 × zMM) (h : fX6_setBest a1 a2  M = some q) : zEV iX6_setBest 0 0 (zZO (some (.inl q.1), q.2)) 0 [(0, .inr (.inr 157)), (1, .inl a1), (2, .inl a2)] [] M := by
  unfold fX6_setBest at h
  refine zEV.iload_n dX6_setBest_0 rfl 1 rfl ?_
  refine zEV.iload_n dX6_setBest_1 rfl 2 rfl ?_
  obtain ⟨q1, hq1, h⟩ := bind_yes h
  refine zEV.callSi (kX6_isGrid (a1) (a2)  M q1 hq1) wm_RX6_246 wc_X6_isGrid hy_X6_isGrid rfl ⟨Nat.le_of_ble_eq_true rfl, Nat.le_of_ble_eq_true rfl⟩ rfl (Nat.le_of_ble_eq_true rfl) dX6_setBest_2 ?_
  refine zEV.if_ne 10 dX6_setBest_5 (by decide) (fun c2 => ?_) (fun c2 => ?_)
  · rw [if_neg c2] at h
    refine zEV.aload_n dX6_setBest_10 rfl 0 rfl ?_
    refine zEV.gfr rfl inz6 1 (by decide) wf_RX6_16 (by decide) rfl rfl dX6_setBest_11 ?_
    refine zEV.aload_n dX6_setBest_14 rfl 0 rfl ?_
    refine zEV.gfr rfl inz6 0 (by decide) wf_RX6_12 (by decide) rfl rfl dX6_setBest_15 ?_
    obtain ⟨q3, hq3, h⟩ := bind_yes h
    refine zEV.callVv (kX0_copy 10 0 lf_10 lf_0 q1.2 q3 hq3) (by decide) rfl rfl wm_RX6_240 wc_X0_copy hy_X0_copy rfl ⟨Nat.le_of_ble_eq_true rfl, Nat.le_of_ble_eq_true rfl⟩ rfl (Nat.le_of_ble_eq_true rfl) dX6_setBest_18 ?_
    refine zEV.aload_n dX6_setBest_21 rfl 0 rfl ?_
    refine zEV.gfr rfl inz6 3 (by decide) wf_RX6_29 (by decide) rfl rfl dX6_setBest_22 ?_
    refine zEV.aload_n dX6_setBest_25 rfl 0 rfl ?_
    refine zEV.gfr rfl inz6 1 (by decide) wf_RX6_16 (by decide) rfl rfl dX6_setBest_26 ?_
    refine zEV.aload_n dX6_setBest_29 rfl 0 rfl ?_
    refine zEV.gfr rfl inz6 2 (by decide) wf_RX6_22 (by decide) rfl rfl dX6_setBest_30 ?_
    refine zEV.iload_n dX6_setBest_33 rfl 1 rfl ?_
    refine zEV.iload_n dX6_setBest_34 rfl 2 rfl ?_
    obtain ⟨q4, hq4, h⟩ := bind_yes h
    refine zEV.callVv (kX3_findBest 10 (a1) (a2) lf_10 q3 q4 hq4) (by decide) rfl rfl wm_RX6_249 wc_X3_findBest hy_X3_findBest rfl ⟨Nat.le_of_ble_eq_true rfl, Nat.le_of_ble_eq_true rfl⟩ rfl (Nat.le_of_ble_eq_true rfl) dX6_setBest_35 ?_
    refine zEV.aload_n dX6_setBest_38 rfl 0 rfl ?_
    refine zEV.gfr rfl inz6 0 (by decide) wf_RX6_12 (by decide) rfl rfl dX6_setBest_39 ?_
    refine zEV.aload_n dX6_setBest_42 rfl 0 rfl ?_
    refine zEV.gfr rfl inz6 3 (by decide) wf_RX6_29 (by decide) rfl rfl dX6_setBest_43 ?_
    refine zEV.gfi rfl inz3 0 (by decide) wf_RX6_253 (by decide) rfl rfl dX6_setBest_46 ?_
    refine zEV.aload_n dX6_setBest_49 rfl 0 rfl ?_
    refine zEV.gfr rfl inz6 3 (by decide) wf_RX6_29 (by decide) rfl rfl dX6_setBest_50 ?_
    refine zEV.gfi rfl inz3 1 (by decide) wf_RX6_256 (by decide) rfl rfl dX6_setBest_53 ?_
    refine zEV.aload_n dX6_setBest_56 rfl 0 rfl ?_
    refine zEV.gfr rfl inz6 3 (by decide) wf_RX6_29 (by decide) rfl rfl dX6_setBest_57 ?_
    refine zEV.gfi rfl inz3 2 (by decide) wf_RX6_259 (by decide) rfl rfl dX6_setBest_60 ?_
    obtain ⟨q5, hq5, h⟩ := bind_yes h
    refine zEV.callVi (kX0_hasPlan 0 ((q4.1 148 0)) ((q4.1 148 1)) ((q4.1 148 2)) lf_0 q4 q5 hq5) (by decide) rfl rfl wm_RX6_389 wc_X0_hasPlan hy_X0_hasPlan rfl ⟨Nat.le_of_ble_eq_true rfl, Nat.le_of_ble_eq_true rfl⟩ rfl (Nat.le_of_ble_eq_true rfl) dX6_setBest_63 ?_
    refine zEV.if_eq 72 dX6_setBest_66 (by decide) (fun c6 => ?_) (fun c6 => ?_)
    · rw [if_pos c6] at h
      refine zEV.aload_n dX6_setBest_72 rfl 0 rfl ?_
      refine zEV.gfr rfl inz6 0 (by decide) wf_RX6_12 (by decide) rfl rfl dX6_setBest_73 ?_
      refine zEV.aload_n dX6_setBest_76 rfl 0 rfl ?_
      refine zEV.gfr rfl inz6 3 (by decide) wf_RX6_29 (by decide) rfl rfl dX6_setBest_77 ?_
      refine zEV.gfi rfl inz3 0 (by decide) wf_RX6_253 (by decide) rfl rfl dX6_setBest_80 ?_
      refine zEV.aload_n dX6_setBest_83 rfl 0 rfl ?_
      refine zEV.gfr rfl inz6 3 (by decide) wf_RX6_29 (by decide) rfl rfl dX6_setBest_84 ?_
      refine zEV.gfi rfl inz3 1 (by decide) wf_RX6_256 (by decide) rfl rfl dX6_setBest_87 ?_
      refine zEV.aload_n dX6_setBest_90 rfl 0 rfl ?_
      refine zEV.gfr rfl inz6 3 (by decide) wf_RX6_29 (by decide) rfl rfl dX6_setBest_91 ?_
      refine zEV.gfi rfl inz3 2 (by decide) wf_RX6_259 (by decide) rfl rfl dX6_setBest_94 ?_
      obtain ⟨q7, hq7, h⟩ := bind_yes h
      refine zEV.callVv (kX0_plan 0 ((q5.2.1 148 0)) ((q5.2.1 148 1)) ((q5.2.1 148 2)) lf_0 q5.2 q7 hq7) (by decide) rfl rfl wm_RX6_243 wc_X0_plan hy_X0_plan rfl ⟨Nat.le_of_ble_eq_true rfl, Nat.le_of_ble_eq_true rfl⟩ rfl (Nat.le_of_ble_eq_true rfl) dX6_setBest_97 ?_
      refine zEV.aload_n dX6_setBest_100 rfl 0 rfl ?_
      refine zEV.gfr rfl inz6 3 (by decide) wf_RX6_29 (by decide) rfl rfl dX6_setBest_101 ?_
      refine zEV.gfi rfl inz3 3 (by decide) wf_RX6_265 (by decide) rfl rfl dX6_setBest_104 ?_
      have h := Option.some.inj h
      subst h
      exact zEV.iret rfl dX6_setBest_107
    · rw [if_neg c6] at h
      refine zEV.bipush (v := (-2)) dX6_setBest_69 rfl ?_
      have h := Option.some.inj h
      subst h
      exact zEV.iret rfl dX6_setBest_71
  · rw [if_pos c2] at h
    refine zEV.iconst (v := (-1)) dX6_setBest_8 rfl ?_
    have h := Option.some.inj h
    subst h
    exact zEV.iret rfl dX6_setBest_9
theorem kX6_setBest (a1 : Int32) (a2 : Int32) (M : zMM) (q : Int32 × zMM) (h : fX6_setBest a1 a2 M = some q) : zCN yX6_setBest iX6_setBest [.inr (.inr 157), .inl a1, .inl a2] M (some (.inl q.1), q.2) :=
  zCN.of (by decide) rfl rfl (Nat.le_of_ble_eq_true rfl) (zEV.perm [0, 1, 2] rfl (tX6_setBest_0 a1 a2 M q h))
-- RingedPage.takesBest
def fX6_takesBest (a1 : Int32) (a2 : Int32) (M : zMM) : Option (Int32 × zMM) :=
  (fX1_mark 0 M).bind fun q1 =>
  (fX6_setBest (a1) (a2) q1).bind fun q2 =>
  (fX6_remembered (q2.1) q2.2).bind fun q3 =>
  some (q3.1, q3.2)
set_option maxRecDepth 100000 in
theorem tX6_takesBest_0 (a1 : Int32) (a2 : Int32) (M : zMM) (q : Int32 × zMM) (h : fX6_takesBest a1 a2  M = some q) : zEV iX6_takesBest 0 0 (zZO (some (.inl q.1), q.2)) 0 [(0, .inr (.inr 157)), (1, .inl a1), (2, .inl a2)] [] M := by
  unfold fX6_takesBest at h
  refine zEV.aload_n dX6_takesBest_0 rfl 0 rfl ?_
  refine zEV.gfr rfl inz6 4 (by decide) wf_RX6_36 (by decide) rfl rfl dX6_takesBest_1 ?_
  refine zEV.aload_n dX6_takesBest_4 rfl 0 rfl ?_
  refine zEV.gfr rfl inz6 0 (by decide) wf_RX6_12 (by decide) rfl rfl dX6_takesBest_5 ?_
  obtain ⟨q1, hq1, h⟩ := bind_yes h
  refine zEV.callVv (kX1_mark 0 lf_0 M q1 hq1) (by decide) rfl rfl wm_RX6_73 wc_X1_mark hy_X1_mark rfl ⟨Nat.le_of_ble_eq_true rfl, Nat.le_of_ble_eq_true rfl⟩ rfl (Nat.le_of_ble_eq_true rfl) dX6_takesBest_8 ?_
  refine zEV.aload_n dX6_takesBest_11 rfl 0 rfl ?_
  refine zEV.aload_n dX6_takesBest_12 rfl 0 rfl ?_
  refine zEV.iload_n dX6_takesBest_13 rfl 1 rfl ?_
  refine zEV.iload_n dX6_takesBest_14 rfl 2 rfl ?_
  obtain ⟨q2, hq2, h⟩ := bind_yes h
  refine zEV.callVi (kX6_setBest (a1) (a2)  q1 q2 hq2) (by decide) rfl rfl wm_RX6_307 wc_X6_setBest hy_X6_setBest rfl ⟨Nat.le_of_ble_eq_true rfl, Nat.le_of_ble_eq_true rfl⟩ rfl (Nat.le_of_ble_eq_true rfl) dX6_takesBest_15 ?_
  obtain ⟨q3, hq3, h⟩ := bind_yes h
  refine zEV.callVi (kX6_remembered (q2.1)  q2.2 q3 hq3) (by decide) rfl rfl wm_RX6_87 wc_X6_remembered hy_X6_remembered rfl ⟨Nat.le_of_ble_eq_true rfl, Nat.le_of_ble_eq_true rfl⟩ rfl (Nat.le_of_ble_eq_true rfl) dX6_takesBest_18 ?_
  have h := Option.some.inj h
  subst h
  exact zEV.iret rfl dX6_takesBest_21
theorem kX6_takesBest (a1 : Int32) (a2 : Int32) (M : zMM) (q : Int32 × zMM) (h : fX6_takesBest a1 a2 M = some q) : zCN yX6_takesBest iX6_takesBest [.inr (.inr 157), .inl a1, .inl a2] M (some (.inl q.1), q.2) :=
  zCN.of (by decide) rfl rfl (Nat.le_of_ble_eq_true rfl) (zEV.perm [0, 1, 2] rfl (tX6_takesBest_0 a1 a2 M q h))
-- RingedPage.comes
def fX6_comes (a1 : Int32) (a2 : Int32) (a3 : Int32) (M : zMM) : Option (Int32 × zMM) :=
  (fX1_mark 0 M).bind fun q1 =>
  (fX6_putWord 0 (a1) (a2) (a3) q1).bind fun q2 =>
  (fX6_remembered (q2.1) q2.2).bind fun q3 =>
  some (q3.1, q3.2)
set_option maxRecDepth 100000 in
theorem tX6_comes_0 (a1 : Int32) (a2 : Int32) (a3 : Int32) (M : zMM) (q : Int32 × zMM) (h : fX6_comes a1 a2 a3  M = some q) : zEV iX6_comes 0 0 (zZO (some (.inl q.1), q.2)) 0 [(0, .inr (.inr 157)), (1, .inl a1), (2, .inl a2), (3, .inl a3)] [] M := by
  unfold fX6_comes at h
  refine zEV.aload_n dX6_comes_0 rfl 0 rfl ?_
  refine zEV.gfr rfl inz6 4 (by decide) wf_RX6_36 (by decide) rfl rfl dX6_comes_1 ?_
  refine zEV.aload_n dX6_comes_4 rfl 0 rfl ?_
  refine zEV.gfr rfl inz6 0 (by decide) wf_RX6_12 (by decide) rfl rfl dX6_comes_5 ?_
  obtain ⟨q1, hq1, h⟩ := bind_yes h
  refine zEV.callVv (kX1_mark 0 lf_0 M q1 hq1) (by decide) rfl rfl wm_RX6_73 wc_X1_mark hy_X1_mark rfl ⟨Nat.le_of_ble_eq_true rfl, Nat.le_of_ble_eq_true rfl⟩ rfl (Nat.le_of_ble_eq_true rfl) dX6_comes_8 ?_
  refine zEV.aload_n dX6_comes_11 rfl 0 rfl ?_
  refine zEV.aload_n dX6_comes_12 rfl 0 rfl ?_
  refine zEV.gfr rfl inz6 0 (by decide) wf_RX6_12 (by decide) rfl rfl dX6_comes_13 ?_
  refine zEV.iload_n dX6_comes_16 rfl 1 rfl ?_
  refine zEV.iload_n dX6_comes_17 rfl 2 rfl ?_
  refine zEV.iload_n dX6_comes_18 rfl 3 rfl ?_
  obtain ⟨q2, hq2, h⟩ := bind_yes h
  refine zEV.callSi (kX6_putWord 0 (a1) (a2) (a3) lf_0 q1 q2 hq2) wm_RX6_280 wc_X6_putWord hy_X6_putWord rfl ⟨Nat.le_of_ble_eq_true rfl, Nat.le_of_ble_eq_true rfl⟩ rfl (Nat.le_of_ble_eq_true rfl) dX6_comes_19 ?_
  obtain ⟨q3, hq3, h⟩ := bind_yes h
  refine zEV.callVi (kX6_remembered (q2.1)  q2.2 q3 hq3) (by decide) rfl rfl wm_RX6_87 wc_X6_remembered hy_X6_remembered rfl ⟨Nat.le_of_ble_eq_true rfl, Nat.le_of_ble_eq_true rfl⟩ rfl (Nat.le_of_ble_eq_true rfl) dX6_comes_22 ?_
  have h := Option.some.inj h
  subst h
  exact zEV.iret rfl dX6_comes_25
theorem kX6_comes (a1 : Int32) (a2 : Int32) (a3 : Int32) (M : zMM) (q : Int32 × zMM) (h : fX6_comes a1 a2 a3 M = some q) : zCN yX6_comes iX6_comes [.inr (.inr 157), .inl a1, .inl a2, .inl a3] M (some (.inl q.1), q.2) :=
  zCN.of (by decide) rfl rfl (Nat.le_of_ble_eq_true rfl) (zEV.perm [0, 1, 2, 3] rfl (tX6_comes_0 a1 a2 a3 M q h))
-- RingedPage.goes
def fX6_goes (a1 : Int32) (a2 : Int32) (M : zMM) : Option (Int32 × zMM) :=
  (fX1_mark 0 M).bind fun q1 =>
  (fX6_dropWord 0 (a1) (a2) q1).bind fun q2 =>
  (fX6_remembered (q2.1) q2.2).bind fun q3 =>
  some (q3.1, q3.2)
set_option maxRecDepth 100000 in
theorem tX6_goes_0 (a1 : Int32) (a2 : Int32) (M : zMM) (q : Int32 × zMM) (h : fX6_goes a1 a2  M = some q) : zEV iX6_goes 0 0 (zZO (some (.inl q.1), q.2)) 0 [(0, .inr (.inr 157)), (1, .inl a1), (2, .inl a2)] [] M := by
  unfold fX6_goes at h
  refine zEV.aload_n dX6_goes_0 rfl 0 rfl ?_
  refine zEV.gfr rfl inz6 4 (by decide) wf_RX6_36 (by decide) rfl rfl dX6_goes_1 ?_
  refine zEV.aload_n dX6_goes_4 rfl 0 rfl ?_
  refine zEV.gfr rfl inz6 0 (by decide) wf_RX6_12 (by decide) rfl rfl dX6_goes_5 ?_
  obtain ⟨q1, hq1, h⟩ := bind_yes h
  refine zEV.callVv (kX1_mark 0 lf_0 M q1 hq1) (by decide) rfl rfl wm_RX6_73 wc_X1_mark hy_X1_mark rfl ⟨Nat.le_of_ble_eq_true rfl, Nat.le_of_ble_eq_true rfl⟩ rfl (Nat.le_of_ble_eq_true rfl) dX6_goes_8 ?_
  refine zEV.aload_n dX6_goes_11 rfl 0 rfl ?_
  refine zEV.aload_n dX6_goes_12 rfl 0 rfl ?_
  refine zEV.gfr rfl inz6 0 (by decide) wf_RX6_12 (by decide) rfl rfl dX6_goes_13 ?_
  refine zEV.iload_n dX6_goes_16 rfl 1 rfl ?_
  refine zEV.iload_n dX6_goes_17 rfl 2 rfl ?_
  obtain ⟨q2, hq2, h⟩ := bind_yes h
  refine zEV.callSi (kX6_dropWord 0 (a1) (a2) lf_0 q1 q2 hq2) wm_RX6_287 wc_X6_dropWord hy_X6_dropWord rfl ⟨Nat.le_of_ble_eq_true rfl, Nat.le_of_ble_eq_true rfl⟩ rfl (Nat.le_of_ble_eq_true rfl) dX6_goes_18 ?_
  obtain ⟨q3, hq3, h⟩ := bind_yes h
  refine zEV.callVi (kX6_remembered (q2.1)  q2.2 q3 hq3) (by decide) rfl rfl wm_RX6_87 wc_X6_remembered hy_X6_remembered rfl ⟨Nat.le_of_ble_eq_true rfl, Nat.le_of_ble_eq_true rfl⟩ rfl (Nat.le_of_ble_eq_true rfl) dX6_goes_21 ?_
  have h := Option.some.inj h
  subst h
  exact zEV.iret rfl dX6_goes_24
theorem kX6_goes (a1 : Int32) (a2 : Int32) (M : zMM) (q : Int32 × zMM) (h : fX6_goes a1 a2 M = some q) : zCN yX6_goes iX6_goes [.inr (.inr 157), .inl a1, .inl a2] M (some (.inl q.1), q.2) :=
  zCN.of (by decide) rfl rfl (Nat.le_of_ble_eq_true rfl) (zEV.perm [0, 1, 2] rfl (tX6_goes_0 a1 a2 M q h))
-- RingedPage.digitsOf
def fX6_digitsOf (a0 : Int32) (M : zMM) : Option (Int32 × zMM) :=
  if a0 = (98 : Int32) then
    some (2, M)
  else
    if a0 = (99 : Int32) then
      some (4, M)
    else
      if a0 = (100 : Int32) then
        some ((-1), M)
      else
        if a0 = (101 : Int32) then
          some ((-1), M)
        else
          if a0 = (102 : Int32) then
            some ((-1), M)
          else
            if a0 = (103 : Int32) then
              some (3, M)
            else
              if a0 = (104 : Int32) then
                some (2, M)
              else
                if a0 = (105 : Int32) then
                  some ((-1), M)
                else
                  if a0 = (106 : Int32) then
                    some ((-1), M)
                  else
                    if a0 = (107 : Int32) then
                      some ((-1), M)
                    else
                      if a0 = (108 : Int32) then
                        some ((-1), M)
                      else
                        if a0 = (109 : Int32) then
                          some ((-1), M)
                        else
                          if a0 = (110 : Int32) then
                            some ((-1), M)
                          else
                            if a0 = (111 : Int32) then
                              some ((-1), M)
                            else
                              if a0 = (112 : Int32) then
                                some (5, M)
                              else
                                if a0 = (113 : Int32) then
                                  some ((-1), M)
                                else
                                  if a0 = (114 : Int32) then
                                    some ((-1), M)
                                  else
                                    if a0 = (115 : Int32) then
                                      some ((-1), M)
                                    else
                                      if a0 = (116 : Int32) then
                                        some ((-1), M)
                                      else
                                        if a0 = (117 : Int32) then
                                          some (1, M)
                                        else
                                          if a0 = (118 : Int32) then
                                            some ((-1), M)
                                          else
                                            if a0 = (119 : Int32) then
                                              some (2, M)
                                            else
                                              if a0 = (120 : Int32) then
                                                some (0, M)
                                              else
                                                some ((-1), M)
set_option maxRecDepth 100000 in
theorem tX6_digitsOf_0 (a0 : Int32) (M : zMM) (q : Int32 × zMM) (h : fX6_digitsOf a0  M = some q) : zEV iX6_digitsOf 0 0 (zZO (some (.inl q.1), q.2)) 0 [(0, .inl a0)] [] M := by
  unfold fX6_digitsOf at h
  refine zEV.iload_n dX6_digitsOf_0 rfl 0 rfl ?_
  by_cases c1_0 : a0 = (98 : Int32)
  · rw [if_pos c1_0] at h
    refine zEV.tabIn 112 dX6_digitsOf_1 (98) c1_0 (by decide) (by decide) rfl (by decide) ?_
    refine zEV.iconst (v := 2) dX6_digitsOf_112 rfl ?_
    have h := Option.some.inj h
    subst h
    exact zEV.iret rfl dX6_digitsOf_113
  · rw [if_neg c1_0] at h
    by_cases c1_1 : a0 = (99 : Int32)
    · rw [if_pos c1_1] at h
      refine zEV.tabIn 116 dX6_digitsOf_1 (99) c1_1 (by decide) (by decide) rfl (by decide) ?_
      refine zEV.iconst (v := 4) dX6_digitsOf_116 rfl ?_
      have h := Option.some.inj h
      subst h
      exact zEV.iret rfl dX6_digitsOf_117
    · rw [if_neg c1_1] at h
      by_cases c1_2 : a0 = (100 : Int32)
      · rw [if_pos c1_2] at h
        refine zEV.tabIn 120 dX6_digitsOf_1 (100) c1_2 (by decide) (by decide) rfl (by decide) ?_
        refine zEV.iconst (v := (-1)) dX6_digitsOf_120 rfl ?_
        have h := Option.some.inj h
        subst h
        exact zEV.iret rfl dX6_digitsOf_121
      · rw [if_neg c1_2] at h
        by_cases c1_3 : a0 = (101 : Int32)
        · rw [if_pos c1_3] at h
          refine zEV.tabIn 120 dX6_digitsOf_1 (101) c1_3 (by decide) (by decide) rfl (by decide) ?_
          refine zEV.iconst (v := (-1)) dX6_digitsOf_120 rfl ?_
          have h := Option.some.inj h
          subst h
          exact zEV.iret rfl dX6_digitsOf_121
        · rw [if_neg c1_3] at h
          by_cases c1_4 : a0 = (102 : Int32)
          · rw [if_pos c1_4] at h
            refine zEV.tabIn 120 dX6_digitsOf_1 (102) c1_4 (by decide) (by decide) rfl (by decide) ?_
            refine zEV.iconst (v := (-1)) dX6_digitsOf_120 rfl ?_
            have h := Option.some.inj h
            subst h
            exact zEV.iret rfl dX6_digitsOf_121
          · rw [if_neg c1_4] at h
            by_cases c1_5 : a0 = (103 : Int32)
            · rw [if_pos c1_5] at h
              refine zEV.tabIn 114 dX6_digitsOf_1 (103) c1_5 (by decide) (by decide) rfl (by decide) ?_
              refine zEV.iconst (v := 3) dX6_digitsOf_114 rfl ?_
              have h := Option.some.inj h
              subst h
              exact zEV.iret rfl dX6_digitsOf_115
            · rw [if_neg c1_5] at h
              by_cases c1_6 : a0 = (104 : Int32)
              · rw [if_pos c1_6] at h
                refine zEV.tabIn 112 dX6_digitsOf_1 (104) c1_6 (by decide) (by decide) rfl (by decide) ?_
                refine zEV.iconst (v := 2) dX6_digitsOf_112 rfl ?_
                have h := Option.some.inj h
                subst h
                exact zEV.iret rfl dX6_digitsOf_113
              · rw [if_neg c1_6] at h
                by_cases c1_7 : a0 = (105 : Int32)
                · rw [if_pos c1_7] at h
                  refine zEV.tabIn 120 dX6_digitsOf_1 (105) c1_7 (by decide) (by decide) rfl (by decide) ?_
                  refine zEV.iconst (v := (-1)) dX6_digitsOf_120 rfl ?_
                  have h := Option.some.inj h
                  subst h
                  exact zEV.iret rfl dX6_digitsOf_121
                · rw [if_neg c1_7] at h
                  by_cases c1_8 : a0 = (106 : Int32)
                  · rw [if_pos c1_8] at h
                    refine zEV.tabIn 120 dX6_digitsOf_1 (106) c1_8 (by decide) (by decide) rfl (by decide) ?_
                    refine zEV.iconst (v := (-1)) dX6_digitsOf_120 rfl ?_
                    have h := Option.some.inj h
                    subst h
                    exact zEV.iret rfl dX6_digitsOf_121
                  · rw [if_neg c1_8] at h
                    by_cases c1_9 : a0 = (107 : Int32)
                    · rw [if_pos c1_9] at h
                      refine zEV.tabIn 120 dX6_digitsOf_1 (107) c1_9 (by decide) (by decide) rfl (by decide) ?_
                      refine zEV.iconst (v := (-1)) dX6_digitsOf_120 rfl ?_
                      have h := Option.some.inj h
                      subst h
                      exact zEV.iret rfl dX6_digitsOf_121
                    · rw [if_neg c1_9] at h
                      by_cases c1_10 : a0 = (108 : Int32)
                      · rw [if_pos c1_10] at h
                        refine zEV.tabIn 120 dX6_digitsOf_1 (108) c1_10 (by decide) (by decide) rfl (by decide) ?_
                        refine zEV.iconst (v := (-1)) dX6_digitsOf_120 rfl ?_
                        have h := Option.some.inj h
                        subst h
                        exact zEV.iret rfl dX6_digitsOf_121
                      · rw [if_neg c1_10] at h
                        by_cases c1_11 : a0 = (109 : Int32)
                        · rw [if_pos c1_11] at h
                          refine zEV.tabIn 120 dX6_digitsOf_1 (109) c1_11 (by decide) (by decide) rfl (by decide) ?_
                          refine zEV.iconst (v := (-1)) dX6_digitsOf_120 rfl ?_
                          have h := Option.some.inj h
                          subst h
                          exact zEV.iret rfl dX6_digitsOf_121
                        · rw [if_neg c1_11] at h
                          by_cases c1_12 : a0 = (110 : Int32)
                          · rw [if_pos c1_12] at h
                            refine zEV.tabIn 120 dX6_digitsOf_1 (110) c1_12 (by decide) (by decide) rfl (by decide) ?_
                            refine zEV.iconst (v := (-1)) dX6_digitsOf_120 rfl ?_
                            have h := Option.some.inj h
                            subst h
                            exact zEV.iret rfl dX6_digitsOf_121
                          · rw [if_neg c1_12] at h
                            by_cases c1_13 : a0 = (111 : Int32)
                            · rw [if_pos c1_13] at h
                              refine zEV.tabIn 120 dX6_digitsOf_1 (111) c1_13 (by decide) (by decide) rfl (by decide) ?_
                              refine zEV.iconst (v := (-1)) dX6_digitsOf_120 rfl ?_
                              have h := Option.some.inj h
                              subst h
                              exact zEV.iret rfl dX6_digitsOf_121
                            · rw [if_neg c1_13] at h
                              by_cases c1_14 : a0 = (112 : Int32)
                              · rw [if_pos c1_14] at h
                                refine zEV.tabIn 118 dX6_digitsOf_1 (112) c1_14 (by decide) (by decide) rfl (by decide) ?_
                                refine zEV.iconst (v := 5) dX6_digitsOf_118 rfl ?_
                                have h := Option.some.inj h
                                subst h
                                exact zEV.iret rfl dX6_digitsOf_119
                              · rw [if_neg c1_14] at h
                                by_cases c1_15 : a0 = (113 : Int32)
                                · rw [if_pos c1_15] at h
                                  refine zEV.tabIn 120 dX6_digitsOf_1 (113) c1_15 (by decide) (by decide) rfl (by decide) ?_
                                  refine zEV.iconst (v := (-1)) dX6_digitsOf_120 rfl ?_
                                  have h := Option.some.inj h
                                  subst h
                                  exact zEV.iret rfl dX6_digitsOf_121
                                · rw [if_neg c1_15] at h
                                  by_cases c1_16 : a0 = (114 : Int32)
                                  · rw [if_pos c1_16] at h
                                    refine zEV.tabIn 120 dX6_digitsOf_1 (114) c1_16 (by decide) (by decide) rfl (by decide) ?_
                                    refine zEV.iconst (v := (-1)) dX6_digitsOf_120 rfl ?_
                                    have h := Option.some.inj h
                                    subst h
                                    exact zEV.iret rfl dX6_digitsOf_121
                                  · rw [if_neg c1_16] at h
                                    by_cases c1_17 : a0 = (115 : Int32)
                                    · rw [if_pos c1_17] at h
                                      refine zEV.tabIn 120 dX6_digitsOf_1 (115) c1_17 (by decide) (by decide) rfl (by decide) ?_
                                      refine zEV.iconst (v := (-1)) dX6_digitsOf_120 rfl ?_
                                      have h := Option.some.inj h
                                      subst h
                                      exact zEV.iret rfl dX6_digitsOf_121
                                    · rw [if_neg c1_17] at h
                                      by_cases c1_18 : a0 = (116 : Int32)
                                      · rw [if_pos c1_18] at h
                                        refine zEV.tabIn 120 dX6_digitsOf_1 (116) c1_18 (by decide) (by decide) rfl (by decide) ?_
                                        refine zEV.iconst (v := (-1)) dX6_digitsOf_120 rfl ?_
                                        have h := Option.some.inj h
                                        subst h
                                        exact zEV.iret rfl dX6_digitsOf_121
                                      · rw [if_neg c1_18] at h
                                        by_cases c1_19 : a0 = (117 : Int32)
                                        · rw [if_pos c1_19] at h
                                          refine zEV.tabIn 110 dX6_digitsOf_1 (117) c1_19 (by decide) (by decide) rfl (by decide) ?_
                                          refine zEV.iconst (v := 1) dX6_digitsOf_110 rfl ?_
                                          have h := Option.some.inj h
                                          subst h
                                          exact zEV.iret rfl dX6_digitsOf_111
                                        · rw [if_neg c1_19] at h
                                          by_cases c1_20 : a0 = (118 : Int32)
                                          · rw [if_pos c1_20] at h
                                            refine zEV.tabIn 120 dX6_digitsOf_1 (118) c1_20 (by decide) (by decide) rfl (by decide) ?_
                                            refine zEV.iconst (v := (-1)) dX6_digitsOf_120 rfl ?_
                                            have h := Option.some.inj h
                                            subst h
                                            exact zEV.iret rfl dX6_digitsOf_121
                                          · rw [if_neg c1_20] at h
                                            by_cases c1_21 : a0 = (119 : Int32)
                                            · rw [if_pos c1_21] at h
                                              refine zEV.tabIn 112 dX6_digitsOf_1 (119) c1_21 (by decide) (by decide) rfl (by decide) ?_
                                              refine zEV.iconst (v := 2) dX6_digitsOf_112 rfl ?_
                                              have h := Option.some.inj h
                                              subst h
                                              exact zEV.iret rfl dX6_digitsOf_113
                                            · rw [if_neg c1_21] at h
                                              by_cases c1_22 : a0 = (120 : Int32)
                                              · rw [if_pos c1_22] at h
                                                refine zEV.tabIn 108 dX6_digitsOf_1 (120) c1_22 (by decide) (by decide) rfl (by decide) ?_
                                                refine zEV.iconst (v := 0) dX6_digitsOf_108 rfl ?_
                                                have h := Option.some.inj h
                                                subst h
                                                exact zEV.iret rfl dX6_digitsOf_109
                                              · rw [if_neg c1_22] at h
                                                refine zEV.tabOut 120 22 dX6_digitsOf_1 (by decide) (by decide) rfl (fun k hk => ?_) (by decide) ?_
                                                · match k, hk with
                                                  | 0, _ => exact c1_0
                                                  | 1, _ => exact c1_1
                                                  | 2, _ => exact c1_2
                                                  | 3, _ => exact c1_3
                                                  | 4, _ => exact c1_4
                                                  | 5, _ => exact c1_5
                                                  | 6, _ => exact c1_6
                                                  | 7, _ => exact c1_7
                                                  | 8, _ => exact c1_8
                                                  | 9, _ => exact c1_9
                                                  | 10, _ => exact c1_10
                                                  | 11, _ => exact c1_11
                                                  | 12, _ => exact c1_12
                                                  | 13, _ => exact c1_13
                                                  | 14, _ => exact c1_14
                                                  | 15, _ => exact c1_15
                                                  | 16, _ => exact c1_16
                                                  | 17, _ => exact c1_17
                                                  | 18, _ => exact c1_18
                                                  | 19, _ => exact c1_19
                                                  | 20, _ => exact c1_20
                                                  | 21, _ => exact c1_21
                                                  | 22, _ => exact c1_22
                                                  | k + 23, hk => exact absurd hk (by omega)
                                                refine zEV.iconst (v := (-1)) dX6_digitsOf_120 rfl ?_
                                                have h := Option.some.inj h
                                                subst h
                                                exact zEV.iret rfl dX6_digitsOf_121
theorem kX6_digitsOf (a0 : Int32) (M : zMM) (q : Int32 × zMM) (h : fX6_digitsOf a0 M = some q) : zCN yX6_digitsOf iX6_digitsOf [.inl a0] M (some (.inl q.1), q.2) :=
  zCN.of (by decide) rfl rfl (Nat.le_of_ble_eq_true rfl) (zEV.perm [0] rfl (tX6_digitsOf_0 a0 M q h))
-- RingedPage.faultOfDay
def fX6_faultOfDay_2 : Nat → Int32 → zMM → Option (Int32 × zMM)
  | 0, _, _ => none
  | n + 1, l1, M =>
  if (M.1 153 1) ≤ l1 then
    some (0, M)
  else
    (fX5_signAt (l1) M).bind fun q2 =>
    (fX6_digitsOf (q2.1) q2.2).bind fun q3 =>
    if (0 : Int32) ≤ q3.1 then
      (fX5_numberAt ((l1 + 1)) (q3.1) q3.2).bind fun q5 =>
      if (0 : Int32) ≤ q5.1 then
        fX6_faultOfDay_2 n ((l1 + (1 + q3.1))) q5.2
      else
        some (q5.1, q5.2)
    else
      some (((-1) - l1), q3.2)
set_option maxRecDepth 100000 in
theorem tX6_faultOfDay_2 : ∀ (n : Nat) (l1 : Int32) (M : zMM) (q : Int32 × zMM), fX6_faultOfDay_2 n l1 M = some q → zEV iX6_faultOfDay 0 0 (zZO (some (.inl q.1), q.2)) 2 [(0, .inr (.inr 157)), (1, .inl l1)] [] M := by
  intro n
  induction n with
  | zero =>
    intro l1 M q h
    rw [fX6_faultOfDay_2] at h
    cases h
  | succ n ih =>
    intro l1 M q h
    rw [fX6_faultOfDay_2] at h
    refine zEV.iload_n dX6_faultOfDay_2 rfl 1 rfl ?_
    refine zEV.aload_n dX6_faultOfDay_3 rfl 0 rfl ?_
    refine zEV.gfr rfl inz6 7 (by decide) wf_RX6_51 (by decide) rfl rfl dX6_faultOfDay_4 ?_
    refine zEV.gfi rfl inz5 1 (by decide) wf_RX6_66 (by decide) rfl rfl dX6_faultOfDay_7 ?_
    refine zEV.icmp_ge 60 dX6_faultOfDay_10 (by decide) (fun c1 => ?_) (fun c1 => ?_)
    · rw [if_pos c1] at h
      refine zEV.iconst (v := 0) dX6_faultOfDay_60 rfl ?_
      have h := Option.some.inj h
      subst h
      exact zEV.iret rfl dX6_faultOfDay_61
    · rw [if_neg c1] at h
      refine zEV.aload_n dX6_faultOfDay_13 rfl 0 rfl ?_
      refine zEV.gfr rfl inz6 7 (by decide) wf_RX6_51 (by decide) rfl rfl dX6_faultOfDay_14 ?_
      refine zEV.iload_n dX6_faultOfDay_17 rfl 1 rfl ?_
      obtain ⟨q2, hq2, h⟩ := bind_yes h
      refine zEV.callVi (kX5_signAt (l1)  M q2 hq2) (by decide) rfl rfl wm_RX6_316 wc_X5_signAt hy_X5_signAt rfl ⟨Nat.le_of_ble_eq_true rfl, Nat.le_of_ble_eq_true rfl⟩ rfl (Nat.le_of_ble_eq_true rfl) dX6_faultOfDay_18 ?_
      obtain ⟨q3, hq3, h⟩ := bind_yes h
      refine zEV.callSi (kX6_digitsOf (q2.1)  q2.2 q3 hq3) wm_RX6_319 wc_X6_digitsOf hy_X6_digitsOf rfl ⟨Nat.le_of_ble_eq_true rfl, Nat.le_of_ble_eq_true rfl⟩ rfl (Nat.le_of_ble_eq_true rfl) dX6_faultOfDay_21 ?_
      refine zEV.istore_n dX6_faultOfDay_24 rfl (Nat.le_of_ble_eq_true rfl) rfl ?_
      refine zEV.iload_n dX6_faultOfDay_25 rfl 0 rfl ?_
      refine zEV.if_ge 33 dX6_faultOfDay_26 (by decide) (fun c4 => ?_) (fun c4 => ?_)
      · rw [if_pos c4] at h
        refine zEV.aload_n dX6_faultOfDay_33 rfl 1 rfl ?_
        refine zEV.gfr rfl inz6 7 (by decide) wf_RX6_51 (by decide) rfl rfl dX6_faultOfDay_34 ?_
        refine zEV.iload_n dX6_faultOfDay_37 rfl 2 rfl ?_
        refine zEV.iconst (v := 1) dX6_faultOfDay_38 rfl ?_
        refine zEV.iadd dX6_faultOfDay_39 ?_
        refine zEV.iload_n dX6_faultOfDay_40 rfl 0 rfl ?_
        obtain ⟨q5, hq5, h⟩ := bind_yes h
        refine zEV.callVi (kX5_numberAt ((l1 + 1)) (q3.1)  q3.2 q5 hq5) (by decide) rfl rfl wm_RX6_364 wc_X5_numberAt hy_X5_numberAt rfl ⟨Nat.le_of_ble_eq_true rfl, Nat.le_of_ble_eq_true rfl⟩ rfl (Nat.le_of_ble_eq_true rfl) dX6_faultOfDay_41 ?_
        refine zEV.istore_n dX6_faultOfDay_44 rfl (Nat.le_of_ble_eq_true rfl) rfl ?_
        refine zEV.iload_n dX6_faultOfDay_45 rfl 0 rfl ?_
        refine zEV.if_ge 51 dX6_faultOfDay_46 (by decide) (fun c6 => ?_) (fun c6 => ?_)
        · rw [if_pos c6] at h
          refine zEV.iload_n dX6_faultOfDay_51 rfl 3 rfl ?_
          refine zEV.iconst (v := 1) dX6_faultOfDay_52 rfl ?_
          refine zEV.iload_n dX6_faultOfDay_53 rfl 1 rfl ?_
          refine zEV.iadd dX6_faultOfDay_54 ?_
          refine zEV.iadd dX6_faultOfDay_55 ?_
          refine zEV.istore_n dX6_faultOfDay_56 rfl (Nat.le_of_ble_eq_true rfl) rfl ?_
          refine zEV.goto 2 dX6_faultOfDay_57 (by decide) ?_
          exact zEV.perm [3, 0] rfl (ih ((l1 + (1 + q3.1))) q5.2 q h)
        · rw [if_neg c6] at h
          refine zEV.iload_n dX6_faultOfDay_49 rfl 0 rfl ?_
          have h := Option.some.inj h
          subst h
          exact zEV.iret rfl dX6_faultOfDay_50
      · rw [if_neg c4] at h
        refine zEV.iconst (v := (-1)) dX6_faultOfDay_29 rfl ?_
        refine zEV.iload_n dX6_faultOfDay_30 rfl 2 rfl ?_
        refine zEV.isub dX6_faultOfDay_31 ?_
        have h := Option.some.inj h
        subst h
        exact zEV.iret rfl dX6_faultOfDay_32
def fX6_faultOfDay (M : zMM) : Option (Int32 × zMM) :=
  fX6_faultOfDay_2 zFU (0) M
set_option maxRecDepth 100000 in
theorem tX6_faultOfDay_0 (M : zMM) (q : Int32 × zMM) (h : fX6_faultOfDay  M = some q) : zEV iX6_faultOfDay 0 0 (zZO (some (.inl q.1), q.2)) 0 [(0, .inr (.inr 157))] [] M := by
  unfold fX6_faultOfDay at h
  refine zEV.iconst (v := 0) dX6_faultOfDay_0 rfl ?_
  refine zEV.istore_n dX6_faultOfDay_1 rfl (Nat.le_of_ble_eq_true rfl) rfl ?_
  exact zEV.perm [1, 0] rfl (tX6_faultOfDay_2 zFU (0) M q h)
theorem kX6_faultOfDay (M : zMM) (q : Int32 × zMM) (h : fX6_faultOfDay M = some q) : zCN yX6_faultOfDay iX6_faultOfDay [.inr (.inr 157)] M (some (.inl q.1), q.2) :=
  zCN.of (by decide) rfl rfl (Nat.le_of_ble_eq_true rfl) (zEV.perm [0] rfl (tX6_faultOfDay_0 M q h))
