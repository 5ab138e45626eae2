-- RingedPage.apart
def fX6_apart (M : zMM) : Option (Int32 × zMM) :=
  (fX4_set 0 M).bind fun q1 =>
  (fX4_firstToEnd 0 q1).bind fun q2 =>
  (fX4_lastToEnd 0 q2.2).bind fun q3 =>
  (fX2_tell_ ((Int32.toInt64 q2.1)) ((Int32.toInt64 q3.1)) q3.2).bind fun q4 =>
  (fX4_endsApart 0 q4).bind fun q5 =>
  some (q5.1, q5.2)
set_option maxRecDepth 100000 in
theorem tX6_apart_0 (M : zMM) (q : Int32 × zMM) (h : fX6_apart  M = some q) : zEV iX6_apart 0 0 (zZO (some (.inl q.1), q.2)) 0 [(0, .inr (.inr 157))] [] M := by
  unfold fX6_apart at h
  refine zEV.aload_n dX6_apart_0 rfl 0 rfl ?_
  refine zEV.gfr rfl inz6 2 (by decide) wf_RX6_22 (by decide) rfl rfl dX6_apart_1 ?_
  refine zEV.aload_n dX6_apart_4 rfl 0 rfl ?_
  refine zEV.gfr rfl inz6 0 (by decide) wf_RX6_12 (by decide) rfl rfl dX6_apart_5 ?_
  obtain ⟨q1, hq1, h⟩ := bind_yes h
  refine zEV.callVv (kX4_set 0 lf_0 M q1 hq1) (by decide) rfl rfl wm_RX6_113 wc_X4_set hy_X4_set rfl ⟨Nat.le_of_ble_eq_true rfl, Nat.le_of_ble_eq_true rfl⟩ rfl (Nat.le_of_ble_eq_true rfl) dX6_apart_8 ?_
  refine zEV.aload_n dX6_apart_11 rfl 0 rfl ?_
  refine zEV.gfr rfl inz6 8 (by decide) wf_RX6_58 (by decide) rfl rfl dX6_apart_12 ?_
  refine zEV.aload_n dX6_apart_15 rfl 0 rfl ?_
  refine zEV.gfr rfl inz6 2 (by decide) wf_RX6_22 (by decide) rfl rfl dX6_apart_16 ?_
  refine zEV.aload_n dX6_apart_19 rfl 0 rfl ?_
  refine zEV.gfr rfl inz6 0 (by decide) wf_RX6_12 (by decide) rfl rfl dX6_apart_20 ?_
  obtain ⟨q2, hq2, h⟩ := bind_yes h
  refine zEV.callVi (kX4_firstToEnd 0 lf_0 q1 q2 hq2) (by decide) rfl rfl wm_RX6_181 wc_X4_firstToEnd hy_X4_firstToEnd rfl ⟨Nat.le_of_ble_eq_true rfl, Nat.le_of_ble_eq_true rfl⟩ rfl (Nat.le_of_ble_eq_true rfl) dX6_apart_23 ?_
  refine zEV.i2l dX6_apart_26 ?_
  refine zEV.aload_n dX6_apart_27 rfl 0 rfl ?_
  refine zEV.gfr rfl inz6 2 (by decide) wf_RX6_22 (by decide) rfl rfl dX6_apart_28 ?_
  refine zEV.aload_n dX6_apart_31 rfl 0 rfl ?_
  refine zEV.gfr rfl inz6 0 (by decide) wf_RX6_12 (by decide) rfl rfl dX6_apart_32 ?_
  obtain ⟨q3, hq3, h⟩ := bind_yes h
  refine zEV.callVi (kX4_lastToEnd 0 lf_0 q2.2 q3 hq3) (by decide) rfl rfl wm_RX6_184 wc_X4_lastToEnd hy_X4_lastToEnd rfl ⟨Nat.le_of_ble_eq_true rfl, Nat.le_of_ble_eq_true rfl⟩ rfl (Nat.le_of_ble_eq_true rfl) dX6_apart_35 ?_
  refine zEV.i2l dX6_apart_38 ?_
  obtain ⟨q4, hq4, h⟩ := bind_yes h
  refine zEV.callVv (kX2_tell_ ((Int32.toInt64 q2.1)) ((Int32.toInt64 q3.1))  q3.2 q4 hq4) (by decide) rfl rfl wm_RX6_105 wc_X2_tell_ hy_X2_tell_ rfl ⟨Nat.le_of_ble_eq_true rfl, Nat.le_of_ble_eq_true rfl⟩ rfl (Nat.le_of_ble_eq_true rfl) dX6_apart_39 ?_
  refine zEV.aload_n dX6_apart_42 rfl 0 rfl ?_
  refine zEV.gfr rfl inz6 2 (by decide) wf_RX6_22 (by decide) rfl rfl dX6_apart_43 ?_
  refine zEV.aload_n dX6_apart_46 rfl 0 rfl ?_
  refine zEV.gfr rfl inz6 0 (by decide) wf_RX6_12 (by decide) rfl rfl dX6_apart_47 ?_
  obtain ⟨q5, hq5, h⟩ := bind_yes h
  refine zEV.callVi (kX4_endsApart 0 lf_0 q4 q5 hq5) (by decide) rfl rfl wm_RX6_187 wc_X4_endsApart hy_X4_endsApart rfl ⟨Nat.le_of_ble_eq_true rfl, Nat.le_of_ble_eq_true rfl⟩ rfl (Nat.le_of_ble_eq_true rfl) dX6_apart_50 ?_
  have h := Option.some.inj h
  subst h
  exact zEV.iret rfl dX6_apart_53
theorem kX6_apart (M : zMM) (q : Int32 × zMM) (h : fX6_apart M = some q) : zCN yX6_apart iX6_apart [.inr (.inr 157)] M (some (.inl q.1), q.2) :=
  zCN.of (by decide) rfl rfl (Nat.le_of_ble_eq_true rfl) (zEV.perm [0] rfl (tX6_apart_0 M q h))
-- RingedPage.ragged
def fX6_ragged_92 (K20 : Int32 → Int32 → Int32 → Int32 → zMM → Option (Int32 × zMM)) (K35 : Int32 → Int32 → Int32 → Int32 → Int32 → zMM → Option (Int32 × zMM)) (l1 : Int32) (l2 : Int32) (l3 : Int32) (l4 : Int32) (l5 : Int32) (M : zMM) : Option (Int32 × zMM) :=
  K35 (l1) (l2) (l3) (l4) ((l5 + 1)) M
set_option maxRecDepth 100000 in
theorem tX6_ragged_92 (K20 : Int32 → Int32 → Int32 → Int32 → zMM → Option (Int32 × zMM)) (K35 : Int32 → Int32 → Int32 → Int32 → Int32 → zMM → Option (Int32 × zMM)) (hK20 : ∀ (l1 : Int32) (l2 : Int32) (l3 : Int32) (l4 : Int32) (M : zMM) (q : Int32 × zMM), K20 l1 l2 l3 l4 M = some q → zEV iX6_ragged 0 0 (zZO (some (.inl q.1), q.2)) 20 [(0, .inr (.inr 157)), (1, .inl l1), (2, .inl l2), (3, .inl l3), (4, .inl l4)] [] M) (hK35 : ∀ (l1 : Int32) (l2 : Int32) (l3 : Int32) (l4 : Int32) (l5 : Int32) (M : zMM) (q : Int32 × zMM), K35 l1 l2 l3 l4 l5 M = some q → zEV iX6_ragged 0 0 (zZO (some (.inl q.1), q.2)) 35 [(0, .inr (.inr 157)), (1, .inl l1), (2, .inl l2), (3, .inl l3), (4, .inl l4), (5, .inl l5)] [] M) (l1 : Int32) (l2 : Int32) (l3 : Int32) (l4 : Int32) (l5 : Int32) (M : zMM) (q : Int32 × zMM) (h : fX6_ragged_92 K20 K35 l1 l2 l3 l4 l5 M = some q) : zEV iX6_ragged 0 0 (zZO (some (.inl q.1), q.2)) 92 [(0, .inr (.inr 157)), (1, .inl l1), (2, .inl l2), (3, .inl l3), (4, .inl l4), (5, .inl l5)] [] M := by
  unfold fX6_ragged_92 at h
  refine zEV.iinc (v := (l5 + 1)) dX6_ragged_92 5 rfl rfl (Nat.le_of_ble_eq_true rfl) rfl ?_
  refine zEV.goto 35 dX6_ragged_95 (by decide) ?_
  exact zEV.perm [1, 2, 3, 4, 5, 0] rfl (hK35 (l1) (l2) (l3) (l4) ((l5 + 1)) M q h)
def fX6_ragged_35 (K20 : Int32 → Int32 → Int32 → Int32 → zMM → Option (Int32 × zMM)) : Nat → Int32 → Int32 → Int32 → Int32 → Int32 → zMM → Option (Int32 × zMM)
  | 0, _, _, _, _, _, _ => none
  | n + 1, l1, l2, l3, l4, l5, M =>
  if (3 : Int32) ≤ l5 then
    K20 (l1) (l2) (l3) ((l4 + 1)) M
  else
    (fX4_takenAt (l5) (l4) M).bind fun q2 =>
    if q2.1 ≤ (0 : Int32) then
      fX6_ragged_92 K20 (fX6_ragged_35 K20 n) (l1) (l2) (l3) (l4) (l5) q2.2
    else
      if oob (l5) 3 then none else
      if oob (l4) 210 then none else
      if (q2.2.1 (145 + 1 * Int32.toNatClampNeg l5) (Int32.toNatClampNeg l4)) ≤ l1 then
        fX6_ragged_92 K20 (fX6_ragged_35 K20 n) (l1) (l2) (l3) (l4) (l5) q2.2
      else
        fX6_ragged_92 K20 (fX6_ragged_35 K20 n) ((q2.2.1 (145 + 1 * Int32.toNatClampNeg l5) (Int32.toNatClampNeg l4))) (l4) (l5) (l4) (l5) q2.2
set_option maxRecDepth 100000 in
theorem tX6_ragged_35 (K20 : Int32 → Int32 → Int32 → Int32 → zMM → Option (Int32 × zMM)) (hK20 : ∀ (l1 : Int32) (l2 : Int32) (l3 : Int32) (l4 : Int32) (M : zMM) (q : Int32 × zMM), K20 l1 l2 l3 l4 M = some q → zEV iX6_ragged 0 0 (zZO (some (.inl q.1), q.2)) 20 [(0, .inr (.inr 157)), (1, .inl l1), (2, .inl l2), (3, .inl l3), (4, .inl l4)] [] M) : ∀ (n : Nat) (l1 : Int32) (l2 : Int32) (l3 : Int32) (l4 : Int32) (l5 : Int32) (M : zMM) (q : Int32 × zMM), fX6_ragged_35 K20 n l1 l2 l3 l4 l5 M = some q → zEV iX6_ragged 0 0 (zZO (some (.inl q.1), q.2)) 35 [(0, .inr (.inr 157)), (1, .inl l1), (2, .inl l2), (3, .inl l3), (4, .inl l4), (5, .inl l5)] [] M := by
  intro n
  induction n with
  | zero =>
    intro l1 l2 l3 l4 l5 M q h
    rw [fX6_ragged_35] at h
    cases h
  | succ n ih =>
    intro l1 l2 l3 l4 l5 M q h
    rw [fX6_ragged_35] at h
    refine zEV.iload dX6_ragged_35 5 rfl ?_
    refine zEV.iconst (v := 3) dX6_ragged_37 rfl ?_
    refine zEV.icmp_ge 98 dX6_ragged_38 (by decide) (fun c1 => ?_) (fun c1 => ?_)
    · rw [if_pos c1] at h
      refine zEV.iinc (v := (l4 + 1)) dX6_ragged_98 4 rfl rfl (Nat.le_of_ble_eq_true rfl) rfl ?_
      refine zEV.goto 20 dX6_ragged_101 (by decide) ?_
      exact zEV.perm [1, 2, 3, 4, 0] rfl (hK20 (l1) (l2) (l3) ((l4 + 1)) M q h)
    · rw [if_neg c1] at h
      refine zEV.aload_n dX6_ragged_41 rfl 0 rfl ?_
      refine zEV.gfr rfl inz6 2 (by decide) wf_RX6_22 (by decide) rfl rfl dX6_ragged_42 ?_
      refine zEV.iload dX6_ragged_45 5 rfl ?_
      refine zEV.iload dX6_ragged_47 4 rfl ?_
      obtain ⟨q2, hq2, h⟩ := bind_yes h
      refine zEV.callVi (kX4_takenAt (l5) (l4)  M q2 hq2) (by decide) rfl rfl wm_RX6_133 wc_X4_takenAt hy_X4_takenAt rfl ⟨Nat.le_of_ble_eq_true rfl, Nat.le_of_ble_eq_true rfl⟩ rfl (Nat.le_of_ble_eq_true rfl) dX6_ragged_49 ?_
      refine zEV.if_le 92 dX6_ragged_52 (by decide) (fun c3 => ?_) (fun c3 => ?_)
      · rw [if_pos c3] at h
        exact zEV.perm [0, 1, 2, 3, 4, 5] rfl (tX6_ragged_92 K20 (fX6_ragged_35 K20 n) hK20 (fun l1 l2 l3 l4 l5 M9 q9 h9 => ih l1 l2 l3 l4 l5 M9 q9 h9) (l1) (l2) (l3) (l4) (l5) q2.2 q h)
      · rw [if_neg c3] at h
        refine zEV.aload_n dX6_ragged_55 rfl 0 rfl ?_
        refine zEV.gfr rfl inz6 2 (by decide) wf_RX6_22 (by decide) rfl rfl dX6_ragged_56 ?_
        refine zEV.gfr rfl inz4 9 (by decide) wf_RX6_146 (by decide) rfl rfl dX6_ragged_59 ?_
        refine zEV.iload dX6_ragged_62 5 rfl ?_
        obtain ⟨g4, h⟩ := ite_no h
        refine zEV.aald (by decide) (by decide) rfl g4 dX6_ragged_64 ?_
        refine zEV.iload dX6_ragged_65 4 rfl ?_
        obtain ⟨g5, h⟩ := ite_no h
        refine zEV.iald (st_row145 g4).1 (st_row145 g4).2 g5 dX6_ragged_67 ?_
        refine zEV.iload_n dX6_ragged_68 rfl 1 rfl ?_
        refine zEV.icmp_le 92 dX6_ragged_69 (by decide) (fun c6 => ?_) (fun c6 => ?_)
        · rw [if_pos c6] at h
          exact zEV.perm [0, 1, 2, 3, 4, 5] rfl (tX6_ragged_92 K20 (fX6_ragged_35 K20 n) hK20 (fun l1 l2 l3 l4 l5 M9 q9 h9 => ih l1 l2 l3 l4 l5 M9 q9 h9) (l1) (l2) (l3) (l4) (l5) q2.2 q h)
        · rw [if_neg c6] at h
          refine zEV.aload_n dX6_ragged_72 rfl 0 rfl ?_
          refine zEV.gfr rfl inz6 2 (by decide) wf_RX6_22 (by decide) rfl rfl dX6_ragged_73 ?_
          refine zEV.gfr rfl inz4 9 (by decide) wf_RX6_146 (by decide) rfl rfl dX6_ragged_76 ?_
          refine zEV.iload dX6_ragged_79 5 rfl ?_
          refine zEV.aald (by decide) (by decide) rfl g4 dX6_ragged_81 ?_
          refine zEV.iload dX6_ragged_82 4 rfl ?_
          refine zEV.iald (st_row145 g4).1 (st_row145 g4).2 g5 dX6_ragged_84 ?_
          refine zEV.istore_n dX6_ragged_85 rfl (Nat.le_of_ble_eq_true rfl) rfl ?_
          refine zEV.iload dX6_ragged_86 4 rfl ?_
          refine zEV.istore_n dX6_ragged_88 rfl (Nat.le_of_ble_eq_true rfl) rfl ?_
          refine zEV.iload dX6_ragged_89 5 rfl ?_
          refine zEV.istore_n dX6_ragged_91 rfl (Nat.le_of_ble_eq_true rfl) rfl ?_
          exact zEV.perm [3, 2, 1, 0, 4, 5] rfl (tX6_ragged_92 K20 (fX6_ragged_35 K20 n) hK20 (fun l1 l2 l3 l4 l5 M9 q9 h9 => ih l1 l2 l3 l4 l5 M9 q9 h9) ((q2.2.1 (145 + 1 * Int32.toNatClampNeg l5) (Int32.toNatClampNeg l4))) (l4) (l5) (l4) (l5) q2.2 q h)
def fX6_ragged_20 : Nat → Int32 → Int32 → Int32 → Int32 → zMM → Option (Int32 × zMM)
  | 0, _, _, _, _, _ => none
  | n + 1, l1, l2, l3, l4, M =>
  if (M.1 120 0) ≤ l4 then
    (fX0_pageOf 0 (l2) M).bind fun q2 =>
    (fX2_tell___ ((Int32.toInt64 l1)) ((Int32.toInt64 q2.1)) ((Int32.toInt64 (l2 - (q2.1 * (q2.2.1 0 1))))) ((Int32.toInt64 l3)) q2.2).bind fun q3 =>
    (fX4_raggedInAll  q3).bind fun q4 =>
    some (q4.1, q4.2)
  else
    fX6_ragged_35 (fX6_ragged_20 n) zFU (l1) (l2) (l3) (l4) (0) M
set_option maxRecDepth 100000 in
theorem tX6_ragged_20 : ∀ (n : Nat) (l1 : Int32) (l2 : Int32) (l3 : Int32) (l4 : Int32) (M : zMM) (q : Int32 × zMM), fX6_ragged_20 n l1 l2 l3 l4 M = some q → zEV iX6_ragged 0 0 (zZO (some (.inl q.1), q.2)) 20 [(0, .inr (.inr 157)), (1, .inl l1), (2, .inl l2), (3, .inl l3), (4, .inl l4)] [] M := by
  intro n
  induction n with
  | zero =>
    intro l1 l2 l3 l4 M q h
    rw [fX6_ragged_20] at h
    cases h
  | succ n ih =>
    intro l1 l2 l3 l4 M q h
    rw [fX6_ragged_20] at h
    refine zEV.iload dX6_ragged_20 4 rfl ?_
    refine zEV.aload_n dX6_ragged_22 rfl 0 rfl ?_
    refine zEV.gfr rfl inz6 2 (by decide) wf_RX6_22 (by decide) rfl rfl dX6_ragged_23 ?_
    refine zEV.gfi rfl inz4 0 (by decide) wf_RX6_120 (by decide) rfl rfl dX6_ragged_26 ?_
    refine zEV.icmp_ge 104 dX6_ragged_29 (by decide) (fun c1 => ?_) (fun c1 => ?_)
    · rw [if_pos c1] at h
      refine zEV.aload_n dX6_ragged_104 rfl 0 rfl ?_
      refine zEV.gfr rfl inz6 0 (by decide) wf_RX6_12 (by decide) rfl rfl dX6_ragged_105 ?_
      refine zEV.iload_n dX6_ragged_108 rfl 2 rfl ?_
      obtain ⟨q2, hq2, h⟩ := bind_yes h
      refine zEV.callVi (kX0_pageOf 0 (l2) lf_0 M q2 hq2) (by decide) rfl rfl wm_RX6_158 wc_X0_pageOf hy_X0_pageOf rfl ⟨Nat.le_of_ble_eq_true rfl, Nat.le_of_ble_eq_true rfl⟩ rfl (Nat.le_of_ble_eq_true rfl) dX6_ragged_109 ?_
      refine zEV.istore dX6_ragged_112 (Nat.le_of_ble_eq_true rfl) rfl ?_
      refine zEV.aload_n dX6_ragged_114 rfl 1 rfl ?_
      refine zEV.gfr rfl inz6 8 (by decide) wf_RX6_58 (by decide) rfl rfl dX6_ragged_115 ?_
      refine zEV.iload_n dX6_ragged_118 rfl 2 rfl ?_
      refine zEV.i2l dX6_ragged_119 ?_
      refine zEV.iload dX6_ragged_120 0 rfl ?_
      refine zEV.i2l dX6_ragged_122 ?_
      refine zEV.iload_n dX6_ragged_123 rfl 3 rfl ?_
      refine zEV.iload dX6_ragged_124 0 rfl ?_
      refine zEV.aload_n dX6_ragged_126 rfl 1 rfl ?_
      refine zEV.gfr rfl inz6 0 (by decide) wf_RX6_12 (by decide) rfl rfl dX6_ragged_127 ?_
      refine zEV.gfi rfl inz0 1 (by decide) wf_RX6_123 (by decide) rfl rfl dX6_ragged_130 ?_
      refine zEV.imul dX6_ragged_133 ?_
      refine zEV.isub dX6_ragged_134 ?_
      refine zEV.i2l dX6_ragged_135 ?_
      refine zEV.iload_n dX6_ragged_136 rfl 4 rfl ?_
      refine zEV.i2l dX6_ragged_137 ?_
      obtain ⟨q3, hq3, h⟩ := bind_yes h
      refine zEV.callVv (kX2_tell___ ((Int32.toInt64 l1)) ((Int32.toInt64 q2.1)) ((Int32.toInt64 (l2 - (q2.1 * (q2.2.1 0 1))))) ((Int32.toInt64 l3))  q2.2 q3 hq3) (by decide) rfl rfl wm_RX6_149 wc_X2_tell___ hy_X2_tell___ rfl ⟨Nat.le_of_ble_eq_true rfl, Nat.le_of_ble_eq_true rfl⟩ rfl (Nat.le_of_ble_eq_true rfl) dX6_ragged_138 ?_
      refine zEV.aload_n dX6_ragged_141 rfl 1 rfl ?_
      refine zEV.gfr rfl inz6 2 (by decide) wf_RX6_22 (by decide) rfl rfl dX6_ragged_142 ?_
      obtain ⟨q4, hq4, h⟩ := bind_yes h
      refine zEV.callVi (kX4_raggedInAll   q3 q4 hq4) (by decide) rfl rfl wm_RX6_190 wc_X4_raggedInAll hy_X4_raggedInAll rfl ⟨Nat.le_of_ble_eq_true rfl, Nat.le_of_ble_eq_true rfl⟩ rfl (Nat.le_of_ble_eq_true rfl) dX6_ragged_145 ?_
      have h := Option.some.inj h
      subst h
      exact zEV.iret rfl dX6_ragged_148
    · rw [if_neg c1] at h
      refine zEV.iconst (v := 0) dX6_ragged_32 rfl ?_
      refine zEV.istore dX6_ragged_33 (Nat.le_of_ble_eq_true rfl) rfl ?_
      exact zEV.perm [1, 2, 3, 4, 5, 0] rfl (tX6_ragged_35 (fX6_ragged_20 n) (fun l1 l2 l3 l4 M9 q9 h9 => ih l1 l2 l3 l4 M9 q9 h9) zFU (l1) (l2) (l3) (l4) (0) M q h)
def fX6_ragged (M : zMM) : Option (Int32 × zMM) :=
  (fX4_set 0 M).bind fun q1 =>
  fX6_ragged_20 zFU (0) (0) (0) (0) q1
set_option maxRecDepth 100000 in
theorem tX6_ragged_0 (M : zMM) (q : Int32 × zMM) (h : fX6_ragged  M = some q) : zEV iX6_ragged 0 0 (zZO (some (.inl q.1), q.2)) 0 [(0, .inr (.inr 157))] [] M := by
  unfold fX6_ragged at h
  refine zEV.aload_n dX6_ragged_0 rfl 0 rfl ?_
  refine zEV.gfr rfl inz6 2 (by decide) wf_RX6_22 (by decide) rfl rfl dX6_ragged_1 ?_
  refine zEV.aload_n dX6_ragged_4 rfl 0 rfl ?_
  refine zEV.gfr rfl inz6 0 (by decide) wf_RX6_12 (by decide) rfl rfl dX6_ragged_5 ?_
  obtain ⟨q1, hq1, h⟩ := bind_yes h
  refine zEV.callVv (kX4_set 0 lf_0 M q1 hq1) (by decide) rfl rfl wm_RX6_113 wc_X4_set hy_X4_set rfl ⟨Nat.le_of_ble_eq_true rfl, Nat.le_of_ble_eq_true rfl⟩ rfl (Nat.le_of_ble_eq_true rfl) dX6_ragged_8 ?_
  refine zEV.iconst (v := 0) dX6_ragged_11 rfl ?_
  refine zEV.istore_n dX6_ragged_12 rfl (Nat.le_of_ble_eq_true rfl) rfl ?_
  refine zEV.iconst (v := 0) dX6_ragged_13 rfl ?_
  refine zEV.istore_n dX6_ragged_14 rfl (Nat.le_of_ble_eq_true rfl) rfl ?_
  refine zEV.iconst (v := 0) dX6_ragged_15 rfl ?_
  refine zEV.istore_n dX6_ragged_16 rfl (Nat.le_of_ble_eq_true rfl) rfl ?_
  refine zEV.iconst (v := 0) dX6_ragged_17 rfl ?_
  refine zEV.istore dX6_ragged_18 (Nat.le_of_ble_eq_true rfl) rfl ?_
  exact zEV.perm [4, 3, 2, 1, 0] rfl (tX6_ragged_20 zFU (0) (0) (0) (0) q1 q h)
theorem kX6_ragged (M : zMM) (q : Int32 × zMM) (h : fX6_ragged M = some q) : zCN yX6_ragged iX6_ragged [.inr (.inr 157)] M (some (.inl q.1), q.2) :=
  zCN.of (by decide) rfl rfl (Nat.le_of_ble_eq_true rfl) (zEV.perm [0] rfl (tX6_ragged_0 M q h))
-- RingedPage.cost
def fX6_cost (M : zMM) : Option (Int32 × zMM) :=
  (fX4_set 0 M).bind fun q1 =>
  (fX4_endsApart 0 q1).bind fun q2 =>
  (fX4_brokenTies 0 q2.2).bind fun q3 =>
  (fX4_raggedInAll  q3.2).bind fun q4 =>
  (fX2_tell__ ((Int32.toInt64 q2.1)) ((Int32.toInt64 q3.1)) ((Int32.toInt64 q4.1)) q4.2).bind fun q5 =>
  (fX4_costOf 0 q5).bind fun q6 =>
  some (q6.1, q6.2)
set_option maxRecDepth 100000 in
theorem tX6_cost_0 (M : zMM) (q : Int32 × zMM) (h : fX6_cost  M = some q) : zEV iX6_cost 0 0 (zZO (some (.inl q.1), q.2)) 0 [(0, .inr (.inr 157))] [] M := by
  unfold fX6_cost at h
  refine zEV.aload_n dX6_cost_0 rfl 0 rfl ?_
  refine zEV.gfr rfl inz6 2 (by decide) wf_RX6_22 (by decide) rfl rfl dX6_cost_1 ?_
  refine zEV.aload_n dX6_cost_4 rfl 0 rfl ?_
  refine zEV.gfr rfl inz6 0 (by decide) wf_RX6_12 (by decide) rfl rfl dX6_cost_5 ?_
  obtain ⟨q1, hq1, h⟩ := bind_yes h
  refine zEV.callVv (kX4_set 0 lf_0 M q1 hq1) (by decide) rfl rfl wm_RX6_113 wc_X4_set hy_X4_set rfl ⟨Nat.le_of_ble_eq_true rfl, Nat.le_of_ble_eq_true rfl⟩ rfl (Nat.le_of_ble_eq_true rfl) dX6_cost_8 ?_
  refine zEV.aload_n dX6_cost_11 rfl 0 rfl ?_
  refine zEV.gfr rfl inz6 8 (by decide) wf_RX6_58 (by decide) rfl rfl dX6_cost_12 ?_
  refine zEV.aload_n dX6_cost_15 rfl 0 rfl ?_
  refine zEV.gfr rfl inz6 2 (by decide) wf_RX6_22 (by decide) rfl rfl dX6_cost_16 ?_
  refine zEV.aload_n dX6_cost_19 rfl 0 rfl ?_
  refine zEV.gfr rfl inz6 0 (by decide) wf_RX6_12 (by decide) rfl rfl dX6_cost_20 ?_
  obtain ⟨q2, hq2, h⟩ := bind_yes h
  refine zEV.callVi (kX4_endsApart 0 lf_0 q1 q2 hq2) (by decide) rfl rfl wm_RX6_187 wc_X4_endsApart hy_X4_endsApart rfl ⟨Nat.le_of_ble_eq_true rfl, Nat.le_of_ble_eq_true rfl⟩ rfl (Nat.le_of_ble_eq_true rfl) dX6_cost_23 ?_
  refine zEV.i2l dX6_cost_26 ?_
  refine zEV.aload_n dX6_cost_27 rfl 0 rfl ?_
  refine zEV.gfr rfl inz6 2 (by decide) wf_RX6_22 (by decide) rfl rfl dX6_cost_28 ?_
  refine zEV.aload_n dX6_cost_31 rfl 0 rfl ?_
  refine zEV.gfr rfl inz6 0 (by decide) wf_RX6_12 (by decide) rfl rfl dX6_cost_32 ?_
  obtain ⟨q3, hq3, h⟩ := bind_yes h
  refine zEV.callVi (kX4_brokenTies 0 lf_0 q2.2 q3 hq3) (by decide) rfl rfl wm_RX6_193 wc_X4_brokenTies hy_X4_brokenTies rfl ⟨Nat.le_of_ble_eq_true rfl, Nat.le_of_ble_eq_true rfl⟩ rfl (Nat.le_of_ble_eq_true rfl) dX6_cost_35 ?_
  refine zEV.i2l dX6_cost_38 ?_
  refine zEV.aload_n dX6_cost_39 rfl 0 rfl ?_
  refine zEV.gfr rfl inz6 2 (by decide) wf_RX6_22 (by decide) rfl rfl dX6_cost_40 ?_
  obtain ⟨q4, hq4, h⟩ := bind_yes h
  refine zEV.callVi (kX4_raggedInAll   q3.2 q4 hq4) (by decide) rfl rfl wm_RX6_190 wc_X4_raggedInAll hy_X4_raggedInAll rfl ⟨Nat.le_of_ble_eq_true rfl, Nat.le_of_ble_eq_true rfl⟩ rfl (Nat.le_of_ble_eq_true rfl) dX6_cost_43 ?_
  refine zEV.i2l dX6_cost_46 ?_
  obtain ⟨q5, hq5, h⟩ := bind_yes h
  refine zEV.callVv (kX2_tell__ ((Int32.toInt64 q2.1)) ((Int32.toInt64 q3.1)) ((Int32.toInt64 q4.1))  q4.2 q5 hq5) (by decide) rfl rfl wm_RX6_196 wc_X2_tell__ hy_X2_tell__ rfl ⟨Nat.le_of_ble_eq_true rfl, Nat.le_of_ble_eq_true rfl⟩ rfl (Nat.le_of_ble_eq_true rfl) dX6_cost_47 ?_
  refine zEV.aload_n dX6_cost_50 rfl 0 rfl ?_
  refine zEV.gfr rfl inz6 2 (by decide) wf_RX6_22 (by decide) rfl rfl dX6_cost_51 ?_
  refine zEV.aload_n dX6_cost_54 rfl 0 rfl ?_
  refine zEV.gfr rfl inz6 0 (by decide) wf_RX6_12 (by decide) rfl rfl dX6_cost_55 ?_
  obtain ⟨q6, hq6, h⟩ := bind_yes h
  refine zEV.callVi (kX4_costOf 0 lf_0 q5 q6 hq6) (by decide) rfl rfl wm_RX6_199 wc_X4_costOf hy_X4_costOf rfl ⟨Nat.le_of_ble_eq_true rfl, Nat.le_of_ble_eq_true rfl⟩ rfl (Nat.le_of_ble_eq_true rfl) dX6_cost_58 ?_
  have h := Option.some.inj h
  subst h
  exact zEV.iret rfl dX6_cost_61
theorem kX6_cost (M : zMM) (q : Int32 × zMM) (h : fX6_cost M = some q) : zCN yX6_cost iX6_cost [.inr (.inr 157)] M (some (.inl q.1), q.2) :=
  zCN.of (by decide) rfl rfl (Nat.le_of_ble_eq_true rfl) (zEV.perm [0] rfl (tX6_cost_0 M q h))
-- RingedPage.line
def fX6_line_54 (K33 : Int32 → Int32 → Int32 → zMM → Option (Int32 × zMM)) (a1 : Int32) (a2 : Int32) : Nat → Int32 → Int32 → Int32 → Int32 → Int32 → zMM → Option (Int32 × zMM)
  | 0, _, _, _, _, _, _ => none
  | n + 1, l3, l4, l5, l6, l7, M =>
  if l6 ≤ l7 then
    K33 (l3) (l4) ((l5 + 1)) M
  else
    if oob (l5) 3 then none else
    if oob (l3) 210 then none else
    (fX4_columnOf 0 (l5) (((M.1 (129 + 1 * Int32.toNatClampNeg l5) (Int32.toNatClampNeg l3)) + l7)) M).bind fun q4 =>
    if oob (((M.1 (129 + 1 * Int32.toNatClampNeg l5) (Int32.toNatClampNeg l3)) + l7)) 70 then none else
    (fX2_put (q4.1) ((q4.2.1 (4 + 1 * Int32.toNatClampNeg l5) (Int32.toNatClampNeg ((M.1 (129 + 1 * Int32.toNatClampNeg l5) (Int32.toNatClampNeg l3)) + l7)))) ((l5 + 1)) q4.2).bind fun q6 =>
    fX6_line_54 K33 a1 a2 n (l3) ((l4 + (q6.1 (4 + 1 * Int32.toNatClampNeg l5) (Int32.toNatClampNeg ((M.1 (129 + 1 * Int32.toNatClampNeg l5) (Int32.toNatClampNeg l3)) + l7))))) (l5) (l6) ((l7 + 1)) q6
set_option maxRecDepth 100000 in
theorem tX6_line_54 (K33 : Int32 → Int32 → Int32 → zMM → Option (Int32 × zMM)) (a1 : Int32) (a2 : Int32) (hK33 : ∀ (l3 : Int32) (l4 : Int32) (l5 : Int32) (M : zMM) (q : Int32 × zMM), K33 l3 l4 l5 M = some q → zEV iX6_line 0 0 (zZO (some (.inl q.1), q.2)) 33 [(0, .inr (.inr 157)), (3, .inl l3), (4, .inl l4), (5, .inl l5)] [] M) : ∀ (n : Nat) (l3 : Int32) (l4 : Int32) (l5 : Int32) (l6 : Int32) (l7 : Int32) (M : zMM) (q : Int32 × zMM), fX6_line_54 K33 a1 a2 n l3 l4 l5 l6 l7 M = some q → zEV iX6_line 0 0 (zZO (some (.inl q.1), q.2)) 54 [(0, .inr (.inr 157)), (3, .inl l3), (4, .inl l4), (5, .inl l5), (6, .inl l6), (7, .inl l7)] [] M := by
  intro n
  induction n with
  | zero =>
    intro l3 l4 l5 l6 l7 M q h
    rw [fX6_line_54] at h
    cases h
  | succ n ih =>
    intro l3 l4 l5 l6 l7 M q h
    rw [fX6_line_54] at h
    refine zEV.iload dX6_line_54 5 rfl ?_
    refine zEV.iload dX6_line_56 4 rfl ?_
    refine zEV.icmp_ge 141 dX6_line_58 (by decide) (fun c1 => ?_) (fun c1 => ?_)
    · rw [if_pos c1] at h
      refine zEV.iinc (v := (l5 + 1)) dX6_line_141 3 rfl rfl (Nat.le_of_ble_eq_true rfl) rfl ?_
      refine zEV.goto 33 dX6_line_144 (by decide) ?_
      exact zEV.perm [1, 2, 3, 0] rfl (hK33 (l3) (l4) ((l5 + 1)) M q h)
    · rw [if_neg c1] at h
      refine zEV.aload_n dX6_line_61 rfl 0 rfl ?_
      refine zEV.gfr rfl inz6 2 (by decide) wf_RX6_22 (by decide) rfl rfl dX6_line_62 ?_
      refine zEV.gfr rfl inz4 5 (by decide) wf_RX6_136 (by decide) rfl rfl dX6_line_65 ?_
      refine zEV.iload dX6_line_68 3 rfl ?_
      obtain ⟨g2, h⟩ := ite_no h
      refine zEV.aald (by decide) (by decide) rfl g2 dX6_line_70 ?_
      refine zEV.iload_n dX6_line_71 rfl 1 rfl ?_
      obtain ⟨g3, h⟩ := ite_no h
      refine zEV.iald (st_row129 g2).1 (st_row129 g2).2 g3 dX6_line_72 ?_
      refine zEV.iload dX6_line_73 5 rfl ?_
      refine zEV.iadd dX6_line_75 ?_
      refine zEV.istore dX6_line_76 (Nat.le_of_ble_eq_true rfl) rfl ?_
      refine zEV.aload_n dX6_line_78 rfl 1 rfl ?_
      refine zEV.gfr rfl inz6 8 (by decide) wf_RX6_58 (by decide) rfl rfl dX6_line_79 ?_
      refine zEV.aload_n dX6_line_82 rfl 1 rfl ?_
      refine zEV.gfr rfl inz6 2 (by decide) wf_RX6_22 (by decide) rfl rfl dX6_line_83 ?_
      refine zEV.aload_n dX6_line_86 rfl 1 rfl ?_
      refine zEV.gfr rfl inz6 0 (by decide) wf_RX6_12 (by decide) rfl rfl dX6_line_87 ?_
      refine zEV.iload dX6_line_90 4 rfl ?_
      refine zEV.iload dX6_line_92 0 rfl ?_
      obtain ⟨q4, hq4, h⟩ := bind_yes h
      refine zEV.callVi (kX4_columnOf 0 (l5) (((M.1 (129 + 1 * Int32.toNatClampNeg l5) (Int32.toNatClampNeg l3)) + l7)) lf_0 M q4 hq4) (by decide) rfl rfl wm_RX6_161 wc_X4_columnOf hy_X4_columnOf rfl ⟨Nat.le_of_ble_eq_true rfl, Nat.le_of_ble_eq_true rfl⟩ rfl (Nat.le_of_ble_eq_true rfl) dX6_line_94 ?_
      refine zEV.aload_n dX6_line_97 rfl 1 rfl ?_
      refine zEV.gfr rfl inz6 0 (by decide) wf_RX6_12 (by decide) rfl rfl dX6_line_98 ?_
      refine zEV.gfr rfl inz0 9 (by decide) wf_RX6_165 (by decide) rfl rfl dX6_line_101 ?_
      refine zEV.iload dX6_line_104 4 rfl ?_
      refine zEV.aald (by decide) (by decide) rfl g2 dX6_line_106 ?_
      refine zEV.iload dX6_line_107 0 rfl ?_
      obtain ⟨g5, h⟩ := ite_no h
      refine zEV.iald (lf_row0 g2).1 (lf_row0 g2).2 g5 dX6_line_109 ?_
      refine zEV.iload dX6_line_110 4 rfl ?_
      refine zEV.iconst (v := 1) dX6_line_112 rfl ?_
      refine zEV.iadd dX6_line_113 ?_
      obtain ⟨q6, hq6, h⟩ := bind_yes h
      refine zEV.callVv (kX2_put (q4.1) ((q4.2.1 (4 + 1 * Int32.toNatClampNeg l5) (Int32.toNatClampNeg ((M.1 (129 + 1 * Int32.toNatClampNeg l5) (Int32.toNatClampNeg l3)) + l7)))) ((l5 + 1))  q4.2 q6 hq6) (by decide) rfl rfl wm_RX6_206 wc_X2_put hy_X2_put rfl ⟨Nat.le_of_ble_eq_true rfl, Nat.le_of_ble_eq_true rfl⟩ rfl (Nat.le_of_ble_eq_true rfl) dX6_line_114 ?_
      refine zEV.iload dX6_line_117 3 rfl ?_
      refine zEV.aload_n dX6_line_119 rfl 1 rfl ?_
      refine zEV.gfr rfl inz6 0 (by decide) wf_RX6_12 (by decide) rfl rfl dX6_line_120 ?_
      refine zEV.gfr rfl inz0 9 (by decide) wf_RX6_165 (by decide) rfl rfl dX6_line_123 ?_
      refine zEV.iload dX6_line_126 4 rfl ?_
      refine zEV.aald (by decide) (by decide) rfl g2 dX6_line_128 ?_
      refine zEV.iload dX6_line_129 0 rfl ?_
      refine zEV.iald (lf_row0 g2).1 (lf_row0 g2).2 g5 dX6_line_131 ?_
      refine zEV.iadd dX6_line_132 ?_
      refine zEV.istore dX6_line_133 (Nat.le_of_ble_eq_true rfl) rfl ?_
      refine zEV.iinc (v := (l7 + 1)) dX6_line_135 6 rfl rfl (Nat.le_of_ble_eq_true rfl) rfl ?_
      refine zEV.goto 54 dX6_line_138 (by decide) ?_
      exact zEV.perm [3, 4, 1, 5, 6, 0] rfl (ih (l3) ((l4 + (q6.1 (4 + 1 * Int32.toNatClampNeg l5) (Int32.toNatClampNeg ((M.1 (129 + 1 * Int32.toNatClampNeg l5) (Int32.toNatClampNeg l3)) + l7))))) (l5) (l6) ((l7 + 1)) q6 q h)
def fX6_line_33 (a1 : Int32) (a2 : Int32) : Nat → Int32 → Int32 → Int32 → zMM → Option (Int32 × zMM)
  | 0, _, _, _, _ => none
  | n + 1, l3, l4, l5, M =>
  if (3 : Int32) ≤ l5 then
    some (l4, M)
  else
    (fX4_takenAt (l5) (l3) M).bind fun q2 =>
    fX6_line_54 (fX6_line_33 a1 a2 n) a1 a2 zFU (l3) (l4) (l5) (q2.1) (0) q2.2
set_option maxRecDepth 100000 in
theorem tX6_line_33 (a1 : Int32) (a2 : Int32) : ∀ (n : Nat) (l3 : Int32) (l4 : Int32) (l5 : Int32) (M : zMM) (q : Int32 × zMM), fX6_line_33 a1 a2 n l3 l4 l5 M = some q → zEV iX6_line 0 0 (zZO (some (.inl q.1), q.2)) 33 [(0, .inr (.inr 157)), (3, .inl l3), (4, .inl l4), (5, .inl l5)] [] M := by
  intro n
  induction n with
  | zero =>
    intro l3 l4 l5 M q h
    rw [fX6_line_33] at h
    cases h
  | succ n ih =>
    intro l3 l4 l5 M q h
    rw [fX6_line_33] at h
    refine zEV.iload dX6_line_33 3 rfl ?_
    refine zEV.iconst (v := 3) dX6_line_35 rfl ?_
    refine zEV.icmp_ge 147 dX6_line_36 (by decide) (fun c1 => ?_) (fun c1 => ?_)
    · rw [if_pos c1] at h
      refine zEV.iload dX6_line_147 2 rfl ?_
      have h := Option.some.inj h
      subst h
      exact zEV.iret rfl dX6_line_149
    · rw [if_neg c1] at h
      refine zEV.aload_n dX6_line_39 rfl 0 rfl ?_
      refine zEV.gfr rfl inz6 2 (by decide) wf_RX6_22 (by decide) rfl rfl dX6_line_40 ?_
      refine zEV.iload dX6_line_43 3 rfl ?_
      refine zEV.iload_n dX6_line_45 rfl 1 rfl ?_
      obtain ⟨q2, hq2, h⟩ := bind_yes h
      refine zEV.callVi (kX4_takenAt (l5) (l3)  M q2 hq2) (by decide) rfl rfl wm_RX6_133 wc_X4_takenAt hy_X4_takenAt rfl ⟨Nat.le_of_ble_eq_true rfl, Nat.le_of_ble_eq_true rfl⟩ rfl (Nat.le_of_ble_eq_true rfl) dX6_line_46 ?_
      refine zEV.istore dX6_line_49 (Nat.le_of_ble_eq_true rfl) rfl ?_
      refine zEV.iconst (v := 0) dX6_line_51 rfl ?_
      refine zEV.istore dX6_line_52 (Nat.le_of_ble_eq_true rfl) rfl ?_
      exact zEV.perm [2, 3, 4, 5, 1, 0] rfl (tX6_line_54 (fX6_line_33 a1 a2 n) a1 a2 (fun l3 l4 l5 M9 q9 h9 => ih l3 l4 l5 M9 q9 h9) zFU (l3) (l4) (l5) (q2.1) (0) q2.2 q h)
def fX6_line (a1 : Int32) (a2 : Int32) (M : zMM) : Option (Int32 × zMM) :=
  (fX6_placeOf (a1) (a2) M).bind fun q1 =>
  if (0 : Int32) ≤ q1.1 then
    (fX2_noughts ((q1.2.1 0 0)) q1.2).bind fun q3 =>
    fX6_line_33 a1 a2 zFU (q1.1) (0) (0) q3
  else
    some ((-1), q1.2)
set_option maxRecDepth 100000 in
theorem tX6_line_0 (a1 : Int32) (a2 : Int32) (M : zMM) (q : Int32 × zMM) (h : fX6_line a1 a2  M = some q) : zEV iX6_line 0 0 (zZO (some (.inl q.1), q.2)) 0 [(0, .inr (.inr 157)), (1, .inl a1), (2, .inl a2)] [] M := by
  unfold fX6_line at h
  refine zEV.aload_n dX6_line_0 rfl 0 rfl ?_
  refine zEV.iload_n dX6_line_1 rfl 1 rfl ?_
  refine zEV.iload_n dX6_line_2 rfl 2 rfl ?_
  obtain ⟨q1, hq1, h⟩ := bind_yes h
  refine zEV.callVi (kX6_placeOf (a1) (a2)  M q1 hq1) (by decide) rfl rfl wm_RX6_129 wc_X6_placeOf hy_X6_placeOf rfl ⟨Nat.le_of_ble_eq_true rfl, Nat.le_of_ble_eq_true rfl⟩ rfl (Nat.le_of_ble_eq_true rfl) dX6_line_3 ?_
  refine zEV.istore_n dX6_line_6 rfl (Nat.le_of_ble_eq_true rfl) rfl ?_
  refine zEV.iload_n dX6_line_7 rfl 0 rfl ?_
  refine zEV.if_ge 13 dX6_line_8 (by decide) (fun c2 => ?_) (fun c2 => ?_)
  · rw [if_pos c2] at h
    refine zEV.aload_n dX6_line_13 rfl 1 rfl ?_
    refine zEV.gfr rfl inz6 8 (by decide) wf_RX6_58 (by decide) rfl rfl dX6_line_14 ?_
    refine zEV.aload_n dX6_line_17 rfl 1 rfl ?_
    refine zEV.gfr rfl inz6 0 (by decide) wf_RX6_12 (by decide) rfl rfl dX6_line_18 ?_
    refine zEV.gfi rfl inz0 0 (by decide) wf_RX6_168 (by decide) rfl rfl dX6_line_21 ?_
    obtain ⟨q3, hq3, h⟩ := bind_yes h
    refine zEV.callVv (kX2_noughts ((q1.2.1 0 0))  q1.2 q3 hq3) (by decide) rfl rfl wm_RX6_202 wc_X2_noughts hy_X2_noughts rfl ⟨Nat.le_of_ble_eq_true rfl, Nat.le_of_ble_eq_true rfl⟩ rfl (Nat.le_of_ble_eq_true rfl) dX6_line_24 ?_
    refine zEV.iconst (v := 0) dX6_line_27 rfl ?_
    refine zEV.istore dX6_line_28 (Nat.le_of_ble_eq_true rfl) rfl ?_
    refine zEV.iconst (v := 0) dX6_line_30 rfl ?_
    refine zEV.istore dX6_line_31 (Nat.le_of_ble_eq_true rfl) rfl ?_
    exact zEV.perm [3, 2, 1, 0] rfl (tX6_line_33 a1 a2 zFU (q1.1) (0) (0) q3 q h)
  · rw [if_neg c2] at h
    refine zEV.iconst (v := (-1)) dX6_line_11 rfl ?_
    have h := Option.some.inj h
    subst h
    exact zEV.iret rfl dX6_line_12
theorem kX6_line (a1 : Int32) (a2 : Int32) (M : zMM) (q : Int32 × zMM) (h : fX6_line a1 a2 M = some q) : zCN yX6_line iX6_line [.inr (.inr 157), .inl a1, .inl a2] M (some (.inl q.1), q.2) :=
  zCN.of (by decide) rfl rfl (Nat.le_of_ble_eq_true rfl) (zEV.perm [0, 1, 2] rfl (tX6_line_0 a1 a2 M q h))
-- RingedPage.blank
def fX6_blank (M : zMM) : Option (Int32 × zMM) :=
  (fX4_set 0 M).bind fun q1 =>
  (fX4_pageCount 0 q1).bind fun q2 =>
  if q2.1 = (0 : Int32) then
    (fX2_tell ((0 : Int64)) q2.2).bind fun q7 =>
    some (0, q7)
  else
    (fX4_lettersFrom 0 (((q2.1 - 1) * (q2.2.1 0 1))) q2.2).bind fun q4 =>
    (fX2_tell ((Int32.toInt64 (((q2.2.1 0 1) * (q2.2.1 0 0)) - q4.1))) q4.2).bind fun q5 =>
    (fX4_lettersFrom 0 (0) q5).bind fun q6 =>
    some (((q2.1 * ((q2.2.1 0 1) * (q2.2.1 0 0))) - q6.1), q6.2)
set_option maxRecDepth 100000 in
theorem tX6_blank_0 (M : zMM) (q : Int32 × zMM) (h : fX6_blank  M = some q) : zEV iX6_blank 0 0 (zZO (some (.inl q.1), q.2)) 0 [(0, .inr (.inr 157))] [] M := by
  unfold fX6_blank at h
  refine zEV.aload_n dX6_blank_0 rfl 0 rfl ?_
  refine zEV.gfr rfl inz6 2 (by decide) wf_RX6_22 (by decide) rfl rfl dX6_blank_1 ?_
  refine zEV.aload_n dX6_blank_4 rfl 0 rfl ?_
  refine zEV.gfr rfl inz6 0 (by decide) wf_RX6_12 (by decide) rfl rfl dX6_blank_5 ?_
  obtain ⟨q1, hq1, h⟩ := bind_yes h
  refine zEV.callVv (kX4_set 0 lf_0 M q1 hq1) (by decide) rfl rfl wm_RX6_113 wc_X4_set hy_X4_set rfl ⟨Nat.le_of_ble_eq_true rfl, Nat.le_of_ble_eq_true rfl⟩ rfl (Nat.le_of_ble_eq_true rfl) dX6_blank_8 ?_
  refine zEV.aload_n dX6_blank_11 rfl 0 rfl ?_
  refine zEV.gfr rfl inz6 2 (by decide) wf_RX6_22 (by decide) rfl rfl dX6_blank_12 ?_
  refine zEV.aload_n dX6_blank_15 rfl 0 rfl ?_
  refine zEV.gfr rfl inz6 0 (by decide) wf_RX6_12 (by decide) rfl rfl dX6_blank_16 ?_
  obtain ⟨q2, hq2, h⟩ := bind_yes h
  refine zEV.callVi (kX4_pageCount 0 lf_0 q1 q2 hq2) (by decide) rfl rfl wm_RX6_116 wc_X4_pageCount hy_X4_pageCount rfl ⟨Nat.le_of_ble_eq_true rfl, Nat.le_of_ble_eq_true rfl⟩ rfl (Nat.le_of_ble_eq_true rfl) dX6_blank_19 ?_
  refine zEV.istore_n dX6_blank_22 rfl (Nat.le_of_ble_eq_true rfl) rfl ?_
  refine zEV.iload_n dX6_blank_23 rfl 0 rfl ?_
  refine zEV.if_ne 37 dX6_blank_24 (by decide) (fun c3 => ?_) (fun c3 => ?_)
  · rw [if_neg c3] at h
    refine zEV.aload_n dX6_blank_37 rfl 1 rfl ?_
    refine zEV.gfr rfl inz6 0 (by decide) wf_RX6_12 (by decide) rfl rfl dX6_blank_38 ?_
    refine zEV.gfi rfl inz0 1 (by decide) wf_RX6_123 (by decide) rfl rfl dX6_blank_41 ?_
    refine zEV.aload_n dX6_blank_44 rfl 1 rfl ?_
    refine zEV.gfr rfl inz6 0 (by decide) wf_RX6_12 (by decide) rfl rfl dX6_blank_45 ?_
    refine zEV.gfi rfl inz0 0 (by decide) wf_RX6_168 (by decide) rfl rfl dX6_blank_48 ?_
    refine zEV.imul dX6_blank_51 ?_
    refine zEV.istore_n dX6_blank_52 rfl (Nat.le_of_ble_eq_true rfl) rfl ?_
    refine zEV.aload_n dX6_blank_53 rfl 2 rfl ?_
    refine zEV.gfr rfl inz6 8 (by decide) wf_RX6_58 (by decide) rfl rfl dX6_blank_54 ?_
    refine zEV.iload_n dX6_blank_57 rfl 0 rfl ?_
    refine zEV.aload_n dX6_blank_58 rfl 2 rfl ?_
    refine zEV.gfr rfl inz6 2 (by decide) wf_RX6_22 (by decide) rfl rfl dX6_blank_59 ?_
    refine zEV.aload_n dX6_blank_62 rfl 2 rfl ?_
    refine zEV.gfr rfl inz6 0 (by decide) wf_RX6_12 (by decide) rfl rfl dX6_blank_63 ?_
    refine zEV.iload_n dX6_blank_66 rfl 1 rfl ?_
    refine zEV.iconst (v := 1) dX6_blank_67 rfl ?_
    refine zEV.isub dX6_blank_68 ?_
    refine zEV.aload_n dX6_blank_69 rfl 2 rfl ?_
    refine zEV.gfr rfl inz6 0 (by decide) wf_RX6_12 (by decide) rfl rfl dX6_blank_70 ?_
    refine zEV.gfi rfl inz0 1 (by decide) wf_RX6_123 (by decide) rfl rfl dX6_blank_73 ?_
    refine zEV.imul dX6_blank_76 ?_
    obtain ⟨q4, hq4, h⟩ := bind_yes h
    refine zEV.callVi (kX4_lettersFrom 0 (((q2.1 - 1) * (q2.2.1 0 1))) lf_0 q2.2 q4 hq4) (by decide) rfl rfl wm_RX6_210 wc_X4_lettersFrom hy_X4_lettersFrom rfl ⟨Nat.le_of_ble_eq_true rfl, Nat.le_of_ble_eq_true rfl⟩ rfl (Nat.le_of_ble_eq_true rfl) dX6_blank_77 ?_
    refine zEV.isub dX6_blank_80 ?_
    refine zEV.i2l dX6_blank_81 ?_
    obtain ⟨q5, hq5, h⟩ := bind_yes h
    refine zEV.callVv (kX2_tell ((Int32.toInt64 (((q2.2.1 0 1) * (q2.2.1 0 0)) - q4.1)))  q4.2 q5 hq5) (by decide) rfl rfl wm_RX6_126 wc_X2_tell hy_X2_tell rfl ⟨Nat.le_of_ble_eq_true rfl, Nat.le_of_ble_eq_true rfl⟩ rfl (Nat.le_of_ble_eq_true rfl) dX6_blank_82 ?_
    refine zEV.iload_n dX6_blank_85 rfl 1 rfl ?_
    refine zEV.iload_n dX6_blank_86 rfl 0 rfl ?_
    refine zEV.imul dX6_blank_87 ?_
    refine zEV.aload_n dX6_blank_88 rfl 2 rfl ?_
    refine zEV.gfr rfl inz6 2 (by decide) wf_RX6_22 (by decide) rfl rfl dX6_blank_89 ?_
    refine zEV.aload_n dX6_blank_92 rfl 2 rfl ?_
    refine zEV.gfr rfl inz6 0 (by decide) wf_RX6_12 (by decide) rfl rfl dX6_blank_93 ?_
    refine zEV.iconst (v := 0) dX6_blank_96 rfl ?_
    obtain ⟨q6, hq6, h⟩ := bind_yes h
    refine zEV.callVi (kX4_lettersFrom 0 (0) lf_0 q5 q6 hq6) (by decide) rfl rfl wm_RX6_210 wc_X4_lettersFrom hy_X4_lettersFrom rfl ⟨Nat.le_of_ble_eq_true rfl, Nat.le_of_ble_eq_true rfl⟩ rfl (Nat.le_of_ble_eq_true rfl) dX6_blank_97 ?_
    refine zEV.isub dX6_blank_100 ?_
    have h := Option.some.inj h
    subst h
    exact zEV.iret rfl dX6_blank_101
  · rw [if_pos c3] at h
    refine zEV.aload_n dX6_blank_27 rfl 1 rfl ?_
    refine zEV.gfr rfl inz6 8 (by decide) wf_RX6_58 (by decide) rfl rfl dX6_blank_28 ?_
    refine zEV.lconst (v := 0) dX6_blank_31 rfl ?_
    obtain ⟨q7, hq7, h⟩ := bind_yes h
    refine zEV.callVv (kX2_tell ((0 : Int64))  q2.2 q7 hq7) (by decide) rfl rfl wm_RX6_126 wc_X2_tell hy_X2_tell rfl ⟨Nat.le_of_ble_eq_true rfl, Nat.le_of_ble_eq_true rfl⟩ rfl (Nat.le_of_ble_eq_true rfl) dX6_blank_32 ?_
    refine zEV.iconst (v := 0) dX6_blank_35 rfl ?_
    have h := Option.some.inj h
    subst h
    exact zEV.iret rfl dX6_blank_36
theorem kX6_blank (M : zMM) (q : Int32 × zMM) (h : fX6_blank M = some q) : zCN yX6_blank iX6_blank [.inr (.inr 157)] M (some (.inl q.1), q.2) :=
  zCN.of (by decide) rfl rfl (Nat.le_of_ble_eq_true rfl) (zEV.perm [0] rfl (tX6_blank_0 M q h))
-- RingedPage.tie
def fX6_tie_63 (a1 : Int32) (l2 : Int32) (s0 : Int64) (M : zMM) : Option (Option Int32 × zMM) :=
  if oob (a1) 12 then none else
  (fX2_tell___ (s0) ((Int32.toInt64 (M.1 7 (Int32.toNatClampNeg a1)))) ((Int32.toInt64 (M.1 8 (Int32.toNatClampNeg a1)))) ((Int32.toInt64 (M.1 9 (Int32.toNatClampNeg a1)))) M).bind fun q2 =>
  some (some l2, q2)
set_option maxRecDepth 100000 in
theorem tX6_tie_63 (a1 : Int32) (l2 : Int32) (s0 : Int64) (M : zMM) (q : Option Int32 × zMM) (h : fX6_tie_63 a1 l2 s0 M = some q) : zEV iX6_tie 1 6 (zZX (Option.map (fun v => (.inl v : zAV)) q.1, q.2)) 63 [(0, .inr (.inr 157)), (1, .inl a1), (2, .inl l2)] [.inr (.inl s0), .inr (.inr 155)] M := by
  unfold fX6_tie_63 at h
  refine zEV.aload_n dX6_tie_63 rfl 0 rfl ?_
  refine zEV.gfr rfl inz6 0 (by decide) wf_RX6_12 (by decide) rfl rfl dX6_tie_64 ?_
  refine zEV.gfr rfl inz0 10 (by decide) wf_RX6_222 (by decide) rfl rfl dX6_tie_67 ?_
  refine zEV.iload_n dX6_tie_70 rfl 1 rfl ?_
  obtain ⟨g1, h⟩ := ite_no h
  refine zEV.iald (by decide) rfl g1 dX6_tie_71 ?_
  refine zEV.i2l dX6_tie_72 ?_
  refine zEV.aload_n dX6_tie_73 rfl 0 rfl ?_
  refine zEV.gfr rfl inz6 0 (by decide) wf_RX6_12 (by decide) rfl rfl dX6_tie_74 ?_
  refine zEV.gfr rfl inz0 11 (by decide) wf_RX6_225 (by decide) rfl rfl dX6_tie_77 ?_
  refine zEV.iload_n dX6_tie_80 rfl 1 rfl ?_
  refine zEV.iald (by decide) rfl g1 dX6_tie_81 ?_
  refine zEV.i2l dX6_tie_82 ?_
  refine zEV.aload_n dX6_tie_83 rfl 0 rfl ?_
  refine zEV.gfr rfl inz6 0 (by decide) wf_RX6_12 (by decide) rfl rfl dX6_tie_84 ?_
  refine zEV.gfr rfl inz0 12 (by decide) wf_RX6_228 (by decide) rfl rfl dX6_tie_87 ?_
  refine zEV.iload_n dX6_tie_90 rfl 1 rfl ?_
  refine zEV.iald (by decide) rfl g1 dX6_tie_91 ?_
  refine zEV.i2l dX6_tie_92 ?_
  obtain ⟨q2, hq2, h⟩ := bind_yes h
  refine zEV.callVv (kX2_tell___ (s0) ((Int32.toInt64 (M.1 7 (Int32.toNatClampNeg a1)))) ((Int32.toInt64 (M.1 8 (Int32.toNatClampNeg a1)))) ((Int32.toInt64 (M.1 9 (Int32.toNatClampNeg a1))))  M q2 hq2) (by decide) rfl rfl wm_RX6_149 wc_X2_tell___ hy_X2_tell___ rfl ⟨Nat.le_of_ble_eq_true rfl, Nat.le_of_ble_eq_true rfl⟩ rfl (Nat.le_of_ble_eq_true rfl) dX6_tie_93 ?_
  refine zEV.iload_n dX6_tie_96 rfl 2 rfl ?_
  have h := Option.some.inj h
  subst h
  exact zEV.iretX rfl dX6_tie_97
def fX6_tie (a1 : Int32) (M : zMM) : Option (Option Int32 × zMM) :=
  if a1 < (0 : Int32) then
    some (none, M)
  else
    if a1 < (M.1 0 6) then
      (fX4_set 0 M).bind fun q3 =>
      (fX4_deepOf 0 (a1) q3).bind fun q4 =>
      (fX6_isBroken (q4.1) q4.2).bind fun q5 =>
      if q5.1 = (0 : Int32) then
        fX6_tie_63 a1 (q4.1) ((0 : Int64)) q5.2
      else
        fX6_tie_63 a1 (q4.1) ((1 : Int64)) q5.2
    else
      some (none, M)
set_option maxRecDepth 100000 in
theorem tX6_tie_0 (a1 : Int32) (M : zMM) (q : Option Int32 × zMM) (h : fX6_tie a1  M = some q) : zEV iX6_tie 1 6 (zZX (Option.map (fun v => (.inl v : zAV)) q.1, q.2)) 0 [(0, .inr (.inr 157)), (1, .inl a1)] [] M := by
  unfold fX6_tie at h
  refine zEV.iload_n dX6_tie_0 rfl 1 rfl ?_
  refine zEV.if_lt 15 dX6_tie_1 (by decide) (fun c1 => ?_) (fun c1 => ?_)
  · rw [if_pos c1] at h
    have h := Option.some.inj h
    subst h
    exact zEV.throw rfl ⟨Nat.le_of_ble_eq_true rfl, Nat.le_of_ble_eq_true rfl⟩ dX6_tie_15 dX6_tie_18 dX6_tie_19 dX6_tie_22
  · rw [if_neg c1] at h
    refine zEV.iload_n dX6_tie_4 rfl 1 rfl ?_
    refine zEV.aload_n dX6_tie_5 rfl 0 rfl ?_
    refine zEV.gfr rfl inz6 0 (by decide) wf_RX6_12 (by decide) rfl rfl dX6_tie_6 ?_
    refine zEV.gfi rfl inz0 6 (by decide) wf_RX6_213 (by decide) rfl rfl dX6_tie_9 ?_
    refine zEV.icmp_lt 23 dX6_tie_12 (by decide) (fun c2 => ?_) (fun c2 => ?_)
    · rw [if_pos c2] at h
      refine zEV.aload_n dX6_tie_23 rfl 0 rfl ?_
      refine zEV.gfr rfl inz6 2 (by decide) wf_RX6_22 (by decide) rfl rfl dX6_tie_24 ?_
      refine zEV.aload_n dX6_tie_27 rfl 0 rfl ?_
      refine zEV.gfr rfl inz6 0 (by decide) wf_RX6_12 (by decide) rfl rfl dX6_tie_28 ?_
      obtain ⟨q3, hq3, h⟩ := bind_yes h
      refine zEV.callVv (kX4_set 0 lf_0 M q3 hq3) (by decide) rfl rfl wm_RX6_113 wc_X4_set hy_X4_set rfl ⟨Nat.le_of_ble_eq_true rfl, Nat.le_of_ble_eq_true rfl⟩ rfl (Nat.le_of_ble_eq_true rfl) dX6_tie_31 ?_
      refine zEV.aload_n dX6_tie_34 rfl 0 rfl ?_
      refine zEV.gfr rfl inz6 2 (by decide) wf_RX6_22 (by decide) rfl rfl dX6_tie_35 ?_
      refine zEV.aload_n dX6_tie_38 rfl 0 rfl ?_
      refine zEV.gfr rfl inz6 0 (by decide) wf_RX6_12 (by decide) rfl rfl dX6_tie_39 ?_
      refine zEV.iload_n dX6_tie_42 rfl 1 rfl ?_
      obtain ⟨q4, hq4, h⟩ := bind_yes h
      refine zEV.callVi (kX4_deepOf 0 (a1) lf_0 q3 q4 hq4) (by decide) rfl rfl wm_RX6_216 wc_X4_deepOf hy_X4_deepOf rfl ⟨Nat.le_of_ble_eq_true rfl, Nat.le_of_ble_eq_true rfl⟩ rfl (Nat.le_of_ble_eq_true rfl) dX6_tie_43 ?_
      refine zEV.istore_n dX6_tie_46 rfl (Nat.le_of_ble_eq_true rfl) rfl ?_
      refine zEV.aload_n dX6_tie_47 rfl 1 rfl ?_
      refine zEV.gfr rfl inz6 8 (by decide) wf_RX6_58 (by decide) rfl rfl dX6_tie_48 ?_
      refine zEV.iload_n dX6_tie_51 rfl 0 rfl ?_
      obtain ⟨q5, hq5, h⟩ := bind_yes h
      refine zEV.callSi (kX6_isBroken (q4.1)  q4.2 q5 hq5) wm_RX6_219 wc_X6_isBroken hy_X6_isBroken rfl ⟨Nat.le_of_ble_eq_true rfl, Nat.le_of_ble_eq_true rfl⟩ rfl (Nat.le_of_ble_eq_true rfl) dX6_tie_52 ?_
      refine zEV.if_eq 62 dX6_tie_55 (by decide) (fun c6 => ?_) (fun c6 => ?_)
      · rw [if_pos c6] at h
        refine zEV.lconst (v := 0) dX6_tie_62 rfl ?_
        exact zEV.perm [1, 2, 0] rfl (tX6_tie_63 a1 (q4.1) ((0 : Int64)) q5.2 q h)
      · rw [if_neg c6] at h
        refine zEV.lconst (v := 1) dX6_tie_58 rfl ?_
        refine zEV.goto 63 dX6_tie_59 (by decide) ?_
        exact zEV.perm [1, 2, 0] rfl (tX6_tie_63 a1 (q4.1) ((1 : Int64)) q5.2 q h)
    · rw [if_neg c2] at h
      have h := Option.some.inj h
      subst h
      exact zEV.throw rfl ⟨Nat.le_of_ble_eq_true rfl, Nat.le_of_ble_eq_true rfl⟩ dX6_tie_15 dX6_tie_18 dX6_tie_19 dX6_tie_22
theorem kX6_tie (a1 : Int32) (M : zMM) (q : Option Int32 × zMM) (h : fX6_tie a1 M = some q) : zCX1 yX6_tie iX6_tie [.inr (.inr 157), .inl a1] M (Option.map (fun v => (.inl v : zAV)) q.1, q.2) :=
  zCX1.of (by decide) rfl rfl (Nat.le_of_ble_eq_true rfl) (zEV.perm [0, 1] rfl (tX6_tie_0 a1 M q h))
-- RingedPage.broken
def fX6_broken_58 (K25 : Int32 → Int32 → Int32 → zMM → Option (Int32 × zMM)) (l1 : Int32) (l2 : Int32) (l3 : Int32) (M : zMM) : Option (Int32 × zMM) :=
  K25 (l1) (l2) ((l3 + (-1))) M
set_option maxRecDepth 100000 in
theorem tX6_broken_58 (K25 : Int32 → Int32 → Int32 → zMM → Option (Int32 × zMM)) (hK25 : ∀ (l1 : Int32) (l2 : Int32) (l3 : Int32) (M : zMM) (q : Int32 × zMM), K25 l1 l2 l3 M = some q → zEV iX6_broken 0 0 (zZO (some (.inl q.1), q.2)) 25 [(0, .inr (.inr 157)), (1, .inl l1), (2, .inl l2), (3, .inl l3)] [] M) (l1 : Int32) (l2 : Int32) (l3 : Int32) (M : zMM) (q : Int32 × zMM) (h : fX6_broken_58 K25 l1 l2 l3 M = some q) : zEV iX6_broken 0 0 (zZO (some (.inl q.1), q.2)) 58 [(0, .inr (.inr 157)), (1, .inl l1), (2, .inl l2), (3, .inl l3)] [] M := by
  unfold fX6_broken_58 at h
  refine zEV.iinc (v := (l3 + (-1))) dX6_broken_58 3 rfl rfl (Nat.le_of_ble_eq_true rfl) rfl ?_
  refine zEV.goto 25 dX6_broken_61 (by decide) ?_
  exact zEV.perm [1, 2, 3, 0] rfl (hK25 (l1) (l2) ((l3 + (-1))) M q h)
def fX6_broken_25 : Nat → Int32 → Int32 → Int32 → zMM → Option (Int32 × zMM)
  | 0, _, _, _, _ => none
  | n + 1, l1, l2, l3, M =>
  if l3 < (0 : Int32) then
    (fX2_tell_ ((Int32.toInt64 l1)) ((Int32.toInt64 l2)) M).bind fun q2 =>
    (fX4_brokenTies 0 q2).bind fun q3 =>
    some (q3.1, q3.2)
  else
    (fX4_deepOf 0 (l3) M).bind fun q4 =>
    (fX6_isBroken (q4.1) q4.2).bind fun q5 =>
    if q5.1 = (0 : Int32) then
      fX6_broken_58 (fX6_broken_25 n) (l1) ((l2 + q4.1)) (l3) q5.2
    else
      fX6_broken_58 (fX6_broken_25 n) (l3) ((l2 + q4.1)) (l3) q5.2
set_option maxRecDepth 100000 in
theorem tX6_broken_25 : ∀ (n : Nat) (l1 : Int32) (l2 : Int32) (l3 : Int32) (M : zMM) (q : Int32 × zMM), fX6_broken_25 n l1 l2 l3 M = some q → zEV iX6_broken 0 0 (zZO (some (.inl q.1), q.2)) 25 [(0, .inr (.inr 157)), (1, .inl l1), (2, .inl l2), (3, .inl l3)] [] M := by
  intro n
  induction n with
  | zero =>
    intro l1 l2 l3 M q h
    rw [fX6_broken_25] at h
    cases h
  | succ n ih =>
    intro l1 l2 l3 M q h
    rw [fX6_broken_25] at h
    refine zEV.iload_n dX6_broken_25 rfl 3 rfl ?_
    refine zEV.if_lt 64 dX6_broken_26 (by decide) (fun c1 => ?_) (fun c1 => ?_)
    · rw [if_pos c1] at h
      refine zEV.aload_n dX6_broken_64 rfl 0 rfl ?_
      refine zEV.gfr rfl inz6 8 (by decide) wf_RX6_58 (by decide) rfl rfl dX6_broken_65 ?_
      refine zEV.iload_n dX6_broken_68 rfl 1 rfl ?_
      refine zEV.i2l dX6_broken_69 ?_
      refine zEV.iload_n dX6_broken_70 rfl 2 rfl ?_
      refine zEV.i2l dX6_broken_71 ?_
      obtain ⟨q2, hq2, h⟩ := bind_yes h
      refine zEV.callVv (kX2_tell_ ((Int32.toInt64 l1)) ((Int32.toInt64 l2))  M q2 hq2) (by decide) rfl rfl wm_RX6_105 wc_X2_tell_ hy_X2_tell_ rfl ⟨Nat.le_of_ble_eq_true rfl, Nat.le_of_ble_eq_true rfl⟩ rfl (Nat.le_of_ble_eq_true rfl) dX6_broken_72 ?_
      refine zEV.aload_n dX6_broken_75 rfl 0 rfl ?_
      refine zEV.gfr rfl inz6 2 (by decide) wf_RX6_22 (by decide) rfl rfl dX6_broken_76 ?_
      refine zEV.aload_n dX6_broken_79 rfl 0 rfl ?_
      refine zEV.gfr rfl inz6 0 (by decide) wf_RX6_12 (by decide) rfl rfl dX6_broken_80 ?_
      obtain ⟨q3, hq3, h⟩ := bind_yes h
      refine zEV.callVi (kX4_brokenTies 0 lf_0 q2 q3 hq3) (by decide) rfl rfl wm_RX6_193 wc_X4_brokenTies hy_X4_brokenTies rfl ⟨Nat.le_of_ble_eq_true rfl, Nat.le_of_ble_eq_true rfl⟩ rfl (Nat.le_of_ble_eq_true rfl) dX6_broken_83 ?_
      have h := Option.some.inj h
      subst h
      exact zEV.iret rfl dX6_broken_86
    · rw [if_neg c1] at h
      refine zEV.aload_n dX6_broken_29 rfl 0 rfl ?_
      refine zEV.gfr rfl inz6 2 (by decide) wf_RX6_22 (by decide) rfl rfl dX6_broken_30 ?_
      refine zEV.aload_n dX6_broken_33 rfl 0 rfl ?_
      refine zEV.gfr rfl inz6 0 (by decide) wf_RX6_12 (by decide) rfl rfl dX6_broken_34 ?_
      refine zEV.iload_n dX6_broken_37 rfl 3 rfl ?_
      obtain ⟨q4, hq4, h⟩ := bind_yes h
      refine zEV.callVi (kX4_deepOf 0 (l3) lf_0 M q4 hq4) (by decide) rfl rfl wm_RX6_216 wc_X4_deepOf hy_X4_deepOf rfl ⟨Nat.le_of_ble_eq_true rfl, Nat.le_of_ble_eq_true rfl⟩ rfl (Nat.le_of_ble_eq_true rfl) dX6_broken_38 ?_
      refine zEV.istore dX6_broken_41 (Nat.le_of_ble_eq_true rfl) rfl ?_
      refine zEV.iload_n dX6_broken_43 rfl 3 rfl ?_
      refine zEV.iload dX6_broken_44 0 rfl ?_
      refine zEV.iadd dX6_broken_46 ?_
      refine zEV.istore_n dX6_broken_47 rfl (Nat.le_of_ble_eq_true rfl) rfl ?_
      refine zEV.iload dX6_broken_48 1 rfl ?_
      obtain ⟨q5, hq5, h⟩ := bind_yes h
      refine zEV.callSi (kX6_isBroken (q4.1)  q4.2 q5 hq5) wm_RX6_219 wc_X6_isBroken hy_X6_isBroken rfl ⟨Nat.le_of_ble_eq_true rfl, Nat.le_of_ble_eq_true rfl⟩ rfl (Nat.le_of_ble_eq_true rfl) dX6_broken_50 ?_
      refine zEV.if_eq 58 dX6_broken_53 (by decide) (fun c6 => ?_) (fun c6 => ?_)
      · rw [if_pos c6] at h
        exact zEV.perm [2, 3, 0, 4] rfl (tX6_broken_58 (fX6_broken_25 n) (fun l1 l2 l3 M9 q9 h9 => ih l1 l2 l3 M9 q9 h9) (l1) ((l2 + q4.1)) (l3) q5.2 q h)
      · rw [if_neg c6] at h
        refine zEV.iload_n dX6_broken_56 rfl 4 rfl ?_
        refine zEV.istore_n dX6_broken_57 rfl (Nat.le_of_ble_eq_true rfl) rfl ?_
        exact zEV.perm [3, 0, 1, 4] rfl (tX6_broken_58 (fX6_broken_25 n) (fun l1 l2 l3 M9 q9 h9 => ih l1 l2 l3 M9 q9 h9) (l3) ((l2 + q4.1)) (l3) q5.2 q h)
def fX6_broken (M : zMM) : Option (Int32 × zMM) :=
  (fX4_set 0 M).bind fun q1 =>
  fX6_broken_25 zFU ((-1)) (0) (((q1.1 0 6) - 1)) q1
set_option maxRecDepth 100000 in
theorem tX6_broken_0 (M : zMM) (q : Int32 × zMM) (h : fX6_broken  M = some q) : zEV iX6_broken 0 0 (zZO (some (.inl q.1), q.2)) 0 [(0, .inr (.inr 157))] [] M := by
  unfold fX6_broken at h
  refine zEV.aload_n dX6_broken_0 rfl 0 rfl ?_
  refine zEV.gfr rfl inz6 2 (by decide) wf_RX6_22 (by decide) rfl rfl dX6_broken_1 ?_
  refine zEV.aload_n dX6_broken_4 rfl 0 rfl ?_
  refine zEV.gfr rfl inz6 0 (by decide) wf_RX6_12 (by decide) rfl rfl dX6_broken_5 ?_
  obtain ⟨q1, hq1, h⟩ := bind_yes h
  refine zEV.callVv (kX4_set 0 lf_0 M q1 hq1) (by decide) rfl rfl wm_RX6_113 wc_X4_set hy_X4_set rfl ⟨Nat.le_of_ble_eq_true rfl, Nat.le_of_ble_eq_true rfl⟩ rfl (Nat.le_of_ble_eq_true rfl) dX6_broken_8 ?_
  refine zEV.iconst (v := (-1)) dX6_broken_11 rfl ?_
  refine zEV.istore_n dX6_broken_12 rfl (Nat.le_of_ble_eq_true rfl) rfl ?_
  refine zEV.iconst (v := 0) dX6_broken_13 rfl ?_
  refine zEV.istore_n dX6_broken_14 rfl (Nat.le_of_ble_eq_true rfl) rfl ?_
  refine zEV.aload_n dX6_broken_15 rfl 2 rfl ?_
  refine zEV.gfr rfl inz6 0 (by decide) wf_RX6_12 (by decide) rfl rfl dX6_broken_16 ?_
  refine zEV.gfi rfl inz0 6 (by decide) wf_RX6_213 (by decide) rfl rfl dX6_broken_19 ?_
  refine zEV.iconst (v := 1) dX6_broken_22 rfl ?_
  refine zEV.isub dX6_broken_23 ?_
  refine zEV.istore_n dX6_broken_24 rfl (Nat.le_of_ble_eq_true rfl) rfl ?_
  exact zEV.perm [3, 2, 1, 0] rfl (tX6_broken_25 zFU ((-1)) (0) (((q1.1 0 6) - 1)) q1 q h)
theorem kX6_broken (M : zMM) (q : Int32 × zMM) (h : fX6_broken M = some q) : zCN yX6_broken iX6_broken [.inr (.inr 157)] M (some (.inl q.1), q.2) :=
  zCN.of (by decide) rfl rfl (Nat.le_of_ble_eq_true rfl) (zEV.perm [0] rfl (tX6_broken_0 M q h))
-- RingedPage.loose
def fX6_loose_37 (K16 : Int32 → Int32 → Int32 → zMM → Option (Int32 × zMM)) (l1 : Int32) (l2 : Int32) (l3 : Int32) (M : zMM) : Option (Int32 × zMM) :=
  K16 (l1) (l2) ((l3 + (-1))) M
set_option maxRecDepth 100000 in
theorem tX6_loose_37 (K16 : Int32 → Int32 → Int32 → zMM → Option (Int32 × zMM)) (hK16 : ∀ (l1 : Int32) (l2 : Int32) (l3 : Int32) (M : zMM) (q : Int32 × zMM), K16 l1 l2 l3 M = some q → zEV iX6_loose 0 0 (zZO (some (.inl q.1), q.2)) 16 [(0, .inr (.inr 157)), (1, .inl l1), (2, .inl l2), (3, .inl l3)] [] M) (l1 : Int32) (l2 : Int32) (l3 : Int32) (M : zMM) (q : Int32 × zMM) (h : fX6_loose_37 K16 l1 l2 l3 M = some q) : zEV iX6_loose 0 0 (zZO (some (.inl q.1), q.2)) 37 [(0, .inr (.inr 157)), (1, .inl l1), (2, .inl l2), (3, .inl l3)] [] M := by
  unfold fX6_loose_37 at h
  refine zEV.iinc (v := (l3 + (-1))) dX6_loose_37 3 rfl rfl (Nat.le_of_ble_eq_true rfl) rfl ?_
  refine zEV.goto 16 dX6_loose_40 (by decide) ?_
  exact zEV.perm [1, 2, 3, 0] rfl (hK16 (l1) (l2) ((l3 + (-1))) M q h)
def fX6_loose_16 : Nat → Int32 → Int32 → Int32 → zMM → Option (Int32 × zMM)
  | 0, _, _, _, _ => none
  | n + 1, l1, l2, l3, M =>
  if l3 < (0 : Int32) then
    (fX2_tell ((Int32.toInt64 l1)) M).bind fun q2 =>
    some (l2, q2)
  else
    (fX0_isTied 0 (0) (l3) M).bind fun q3 =>
    if q3.1 = (0 : Int32) then
      fX6_loose_37 (fX6_loose_16 n) (l3) ((l2 + 1)) (l3) q3.2
    else
      fX6_loose_37 (fX6_loose_16 n) (l1) (l2) (l3) q3.2
set_option maxRecDepth 100000 in
theorem tX6_loose_16 : ∀ (n : Nat) (l1 : Int32) (l2 : Int32) (l3 : Int32) (M : zMM) (q : Int32 × zMM), fX6_loose_16 n l1 l2 l3 M = some q → zEV iX6_loose 0 0 (zZO (some (.inl q.1), q.2)) 16 [(0, .inr (.inr 157)), (1, .inl l1), (2, .inl l2), (3, .inl l3)] [] M := by
  intro n
  induction n with
  | zero =>
    intro l1 l2 l3 M q h
    rw [fX6_loose_16] at h
    cases h
  | succ n ih =>
    intro l1 l2 l3 M q h
    rw [fX6_loose_16] at h
    refine zEV.iload_n dX6_loose_16 rfl 3 rfl ?_
    refine zEV.if_lt 43 dX6_loose_17 (by decide) (fun c1 => ?_) (fun c1 => ?_)
    · rw [if_pos c1] at h
      refine zEV.aload_n dX6_loose_43 rfl 0 rfl ?_
      refine zEV.gfr rfl inz6 8 (by decide) wf_RX6_58 (by decide) rfl rfl dX6_loose_44 ?_
      refine zEV.iload_n dX6_loose_47 rfl 1 rfl ?_
      refine zEV.i2l dX6_loose_48 ?_
      obtain ⟨q2, hq2, h⟩ := bind_yes h
      refine zEV.callVv (kX2_tell ((Int32.toInt64 l1))  M q2 hq2) (by decide) rfl rfl wm_RX6_126 wc_X2_tell hy_X2_tell rfl ⟨Nat.le_of_ble_eq_true rfl, Nat.le_of_ble_eq_true rfl⟩ rfl (Nat.le_of_ble_eq_true rfl) dX6_loose_49 ?_
      refine zEV.iload_n dX6_loose_52 rfl 2 rfl ?_
      have h := Option.some.inj h
      subst h
      exact zEV.iret rfl dX6_loose_53
    · rw [if_neg c1] at h
      refine zEV.aload_n dX6_loose_20 rfl 0 rfl ?_
      refine zEV.gfr rfl inz6 0 (by decide) wf_RX6_12 (by decide) rfl rfl dX6_loose_21 ?_
      refine zEV.iconst (v := 0) dX6_loose_24 rfl ?_
      refine zEV.iload_n dX6_loose_25 rfl 3 rfl ?_
      obtain ⟨q3, hq3, h⟩ := bind_yes h
      refine zEV.callVi (kX0_isTied 0 (0) (l3) lf_0 M q3 hq3) (by decide) rfl rfl wm_RX6_234 wc_X0_isTied hy_X0_isTied rfl ⟨Nat.le_of_ble_eq_true rfl, Nat.le_of_ble_eq_true rfl⟩ rfl (Nat.le_of_ble_eq_true rfl) dX6_loose_26 ?_
      refine zEV.if_ne 37 dX6_loose_29 (by decide) (fun c4 => ?_) (fun c4 => ?_)
      · rw [if_neg c4] at h
        exact zEV.perm [0, 1, 2, 3] rfl (tX6_loose_37 (fX6_loose_16 n) (fun l1 l2 l3 M9 q9 h9 => ih l1 l2 l3 M9 q9 h9) (l1) (l2) (l3) q3.2 q h)
      · rw [if_pos c4] at h
        refine zEV.iload_n dX6_loose_32 rfl 3 rfl ?_
        refine zEV.istore_n dX6_loose_33 rfl (Nat.le_of_ble_eq_true rfl) rfl ?_
        refine zEV.iinc (v := (l2 + 1)) dX6_loose_34 2 rfl rfl (Nat.le_of_ble_eq_true rfl) rfl ?_
        exact zEV.perm [2, 1, 0, 3] rfl (tX6_loose_37 (fX6_loose_16 n) (fun l1 l2 l3 M9 q9 h9 => ih l1 l2 l3 M9 q9 h9) (l3) ((l2 + 1)) (l3) q3.2 q h)
def fX6_loose (M : zMM) : Option (Int32 × zMM) :=
  fX6_loose_16 zFU ((-1)) (0) (((M.1 2 0) - 1)) M
set_option maxRecDepth 100000 in
theorem tX6_loose_0 (M : zMM) (q : Int32 × zMM) (h : fX6_loose  M = some q) : zEV iX6_loose 0 0 (zZO (some (.inl q.1), q.2)) 0 [(0, .inr (.inr 157))] [] M := by
  unfold fX6_loose at h
  refine zEV.iconst (v := (-1)) dX6_loose_0 rfl ?_
  refine zEV.istore_n dX6_loose_1 rfl (Nat.le_of_ble_eq_true rfl) rfl ?_
  refine zEV.iconst (v := 0) dX6_loose_2 rfl ?_
  refine zEV.istore_n dX6_loose_3 rfl (Nat.le_of_ble_eq_true rfl) rfl ?_
  refine zEV.aload_n dX6_loose_4 rfl 2 rfl ?_
  refine zEV.gfr rfl inz6 0 (by decide) wf_RX6_12 (by decide) rfl rfl dX6_loose_5 ?_
  refine zEV.gfr rfl inz0 8 (by decide) wf_RX6_231 (by decide) rfl rfl dX6_loose_8 ?_
  refine zEV.iconst (v := 0) dX6_loose_11 rfl ?_
  refine zEV.ialdL (j := 0) (by decide) rfl (by decide) (by decide) dX6_loose_12 ?_
  refine zEV.iconst (v := 1) dX6_loose_13 rfl ?_
  refine zEV.isub dX6_loose_14 ?_
  refine zEV.istore_n dX6_loose_15 rfl (Nat.le_of_ble_eq_true rfl) rfl ?_
  exact zEV.perm [3, 2, 1, 0] rfl (tX6_loose_16 zFU ((-1)) (0) (((M.1 2 0) - 1)) M q h)
theorem kX6_loose (M : zMM) (q : Int32 × zMM) (h : fX6_loose M = some q) : zCN yX6_loose iX6_loose [.inr (.inr 157)] M (some (.inl q.1), q.2) :=
  zCN.of (by decide) rfl rfl (Nat.le_of_ble_eq_true rfl) (zEV.perm [0] rfl (tX6_loose_0 M q h))
-- RingedPage.by
def fX6_by (a1 : Int32) (a2 : Int32) (a3 : Int32) (M : zMM) : Option (Int32 × zMM) :=
  (fX0_allows 0 (a1) (a2) (a3) M).bind fun q1 =>
  if q1.1 = (0 : Int32) then
    some ((-1), q1.2)
  else
    (fX0_copy 10 0 q1.2).bind fun q3 =>
    (fX0_plan 10 (a1) (a2) (a3) q3).bind fun q4 =>
    (fX4_set 10 q4).bind fun q5 =>
    (fX4_pageCount 10 q5).bind fun q6 =>
    (fX4_endsApart 10 q6.2).bind fun q7 =>
    (fX4_brokenTies 10 q7.2).bind fun q8 =>
    (fX4_raggedInAll  q8.2).bind fun q9 =>
    (fX2_tell___ ((Int32.toInt64 q6.1)) ((Int32.toInt64 q7.1)) ((Int32.toInt64 q8.1)) ((Int32.toInt64 q9.1)) q9.2).bind fun q10 =>
    (fX4_costOf 10 q10).bind fun q11 =>
    some (q11.1, q11.2)
set_option maxRecDepth 100000 in
theorem tX6_by_0 (a1 : Int32) (a2 : Int32) (a3 : Int32) (M : zMM) (q : Int32 × zMM) (h : fX6_by a1 a2 a3  M = some q) : zEV iX6_by 0 0 (zZO (some (.inl q.1), q.2)) 0 [(0, .inr (.inr 157)), (1, .inl a1), (2, .inl a2), (3, .inl a3)] [] M := by
  unfold fX6_by at h
  refine zEV.aload_n dX6_by_0 rfl 0 rfl ?_
  refine zEV.gfr rfl inz6 0 (by decide) wf_RX6_12 (by decide) rfl rfl dX6_by_1 ?_
  refine zEV.iload_n dX6_by_4 rfl 1 rfl ?_
  refine zEV.iload_n dX6_by_5 rfl 2 rfl ?_
  refine zEV.iload_n dX6_by_6 rfl 3 rfl ?_
  obtain ⟨q1, hq1, h⟩ := bind_yes h
  refine zEV.callVi (kX0_allows 0 (a1) (a2) (a3) lf_0 M q1 hq1) (by decide) rfl rfl wm_RX6_237 wc_X0_allows hy_X0_allows rfl ⟨Nat.le_of_ble_eq_true rfl, Nat.le_of_ble_eq_true rfl⟩ rfl (Nat.le_of_ble_eq_true rfl) dX6_by_7 ?_
  refine zEV.if_ne 15 dX6_by_10 (by decide) (fun c2 => ?_) (fun c2 => ?_)
  · rw [if_neg c2] at h
    refine zEV.aload_n dX6_by_15 rfl 0 rfl ?_
    refine zEV.gfr rfl inz6 1 (by decide) wf_RX6_16 (by decide) rfl rfl dX6_by_16 ?_
    refine zEV.aload_n dX6_by_19 rfl 0 rfl ?_
    refine zEV.gfr rfl inz6 0 (by decide) wf_RX6_12 (by decide) rfl rfl dX6_by_20 ?_
    obtain ⟨q3, hq3, h⟩ := bind_yes h
    refine zEV.callVv (kX0_copy 10 0 lf_10 lf_0 q1.2 q3 hq3) (by decide) rfl rfl wm_RX6_240 wc_X0_copy hy_X0_copy rfl ⟨Nat.le_of_ble_eq_true rfl, Nat.le_of_ble_eq_true rfl⟩ rfl (Nat.le_of_ble_eq_true rfl) dX6_by_23 ?_
    refine zEV.aload_n dX6_by_26 rfl 0 rfl ?_
    refine zEV.gfr rfl inz6 1 (by decide) wf_RX6_16 (by decide) rfl rfl dX6_by_27 ?_
    refine zEV.iload_n dX6_by_30 rfl 1 rfl ?_
    refine zEV.iload_n dX6_by_31 rfl 2 rfl ?_
    refine zEV.iload_n dX6_by_32 rfl 3 rfl ?_
    obtain ⟨q4, hq4, h⟩ := bind_yes h
    refine zEV.callVv (kX0_plan 10 (a1) (a2) (a3) lf_10 q3 q4 hq4) (by decide) rfl rfl wm_RX6_243 wc_X0_plan hy_X0_plan rfl ⟨Nat.le_of_ble_eq_true rfl, Nat.le_of_ble_eq_true rfl⟩ rfl (Nat.le_of_ble_eq_true rfl) dX6_by_33 ?_
    refine zEV.aload_n dX6_by_36 rfl 0 rfl ?_
    refine zEV.gfr rfl inz6 2 (by decide) wf_RX6_22 (by decide) rfl rfl dX6_by_37 ?_
    refine zEV.aload_n dX6_by_40 rfl 0 rfl ?_
    refine zEV.gfr rfl inz6 1 (by decide) wf_RX6_16 (by decide) rfl rfl dX6_by_41 ?_
    obtain ⟨q5, hq5, h⟩ := bind_yes h
    refine zEV.callVv (kX4_set 10 lf_10 q4 q5 hq5) (by decide) rfl rfl wm_RX6_113 wc_X4_set hy_X4_set rfl ⟨Nat.le_of_ble_eq_true rfl, Nat.le_of_ble_eq_true rfl⟩ rfl (Nat.le_of_ble_eq_true rfl) dX6_by_44 ?_
    refine zEV.aload_n dX6_by_47 rfl 0 rfl ?_
    refine zEV.gfr rfl inz6 8 (by decide) wf_RX6_58 (by decide) rfl rfl dX6_by_48 ?_
    refine zEV.aload_n dX6_by_51 rfl 0 rfl ?_
    refine zEV.gfr rfl inz6 2 (by decide) wf_RX6_22 (by decide) rfl rfl dX6_by_52 ?_
    refine zEV.aload_n dX6_by_55 rfl 0 rfl ?_
    refine zEV.gfr rfl inz6 1 (by decide) wf_RX6_16 (by decide) rfl rfl dX6_by_56 ?_
    obtain ⟨q6, hq6, h⟩ := bind_yes h
    refine zEV.callVi (kX4_pageCount 10 lf_10 q5 q6 hq6) (by decide) rfl rfl wm_RX6_116 wc_X4_pageCount hy_X4_pageCount rfl ⟨Nat.le_of_ble_eq_true rfl, Nat.le_of_ble_eq_true rfl⟩ rfl (Nat.le_of_ble_eq_true rfl) dX6_by_59 ?_
    refine zEV.i2l dX6_by_62 ?_
    refine zEV.aload_n dX6_by_63 rfl 0 rfl ?_
    refine zEV.gfr rfl inz6 2 (by decide) wf_RX6_22 (by decide) rfl rfl dX6_by_64 ?_
    refine zEV.aload_n dX6_by_67 rfl 0 rfl ?_
    refine zEV.gfr rfl inz6 1 (by decide) wf_RX6_16 (by decide) rfl rfl dX6_by_68 ?_
    obtain ⟨q7, hq7, h⟩ := bind_yes h
    refine zEV.callVi (kX4_endsApart 10 lf_10 q6.2 q7 hq7) (by decide) rfl rfl wm_RX6_187 wc_X4_endsApart hy_X4_endsApart rfl ⟨Nat.le_of_ble_eq_true rfl, Nat.le_of_ble_eq_true rfl⟩ rfl (Nat.le_of_ble_eq_true rfl) dX6_by_71 ?_
    refine zEV.i2l dX6_by_74 ?_
    refine zEV.aload_n dX6_by_75 rfl 0 rfl ?_
    refine zEV.gfr rfl inz6 2 (by decide) wf_RX6_22 (by decide) rfl rfl dX6_by_76 ?_
    refine zEV.aload_n dX6_by_79 rfl 0 rfl ?_
    refine zEV.gfr rfl inz6 1 (by decide) wf_RX6_16 (by decide) rfl rfl dX6_by_80 ?_
    obtain ⟨q8, hq8, h⟩ := bind_yes h
    refine zEV.callVi (kX4_brokenTies 10 lf_10 q7.2 q8 hq8) (by decide) rfl rfl wm_RX6_193 wc_X4_brokenTies hy_X4_brokenTies rfl ⟨Nat.le_of_ble_eq_true rfl, Nat.le_of_ble_eq_true rfl⟩ rfl (Nat.le_of_ble_eq_true rfl) dX6_by_83 ?_
    refine zEV.i2l dX6_by_86 ?_
    refine zEV.aload_n dX6_by_87 rfl 0 rfl ?_
    refine zEV.gfr rfl inz6 2 (by decide) wf_RX6_22 (by decide) rfl rfl dX6_by_88 ?_
    obtain ⟨q9, hq9, h⟩ := bind_yes h
    refine zEV.callVi (kX4_raggedInAll   q8.2 q9 hq9) (by decide) rfl rfl wm_RX6_190 wc_X4_raggedInAll hy_X4_raggedInAll rfl ⟨Nat.le_of_ble_eq_true rfl, Nat.le_of_ble_eq_true rfl⟩ rfl (Nat.le_of_ble_eq_true rfl) dX6_by_91 ?_
    refine zEV.i2l dX6_by_94 ?_
    obtain ⟨q10, hq10, h⟩ := bind_yes h
    refine zEV.callVv (kX2_tell___ ((Int32.toInt64 q6.1)) ((Int32.toInt64 q7.1)) ((Int32.toInt64 q8.1)) ((Int32.toInt64 q9.1))  q9.2 q10 hq10) (by decide) rfl rfl wm_RX6_149 wc_X2_tell___ hy_X2_tell___ rfl ⟨Nat.le_of_ble_eq_true rfl, Nat.le_of_ble_eq_true rfl⟩ rfl (Nat.le_of_ble_eq_true rfl) dX6_by_95 ?_
    refine zEV.aload_n dX6_by_98 rfl 0 rfl ?_
    refine zEV.gfr rfl inz6 2 (by decide) wf_RX6_22 (by decide) rfl rfl dX6_by_99 ?_
    refine zEV.aload_n dX6_by_102 rfl 0 rfl ?_
    refine zEV.gfr rfl inz6 1 (by decide) wf_RX6_16 (by decide) rfl rfl dX6_by_103 ?_
    obtain ⟨q11, hq11, h⟩ := bind_yes h
    refine zEV.callVi (kX4_costOf 10 lf_10 q10 q11 hq11) (by decide) rfl rfl wm_RX6_199 wc_X4_costOf hy_X4_costOf rfl ⟨Nat.le_of_ble_eq_true rfl, Nat.le_of_ble_eq_true rfl⟩ rfl (Nat.le_of_ble_eq_true rfl) dX6_by_106 ?_
    have h := Option.some.inj h
    subst h
    exact zEV.iret rfl dX6_by_109
  · rw [if_pos c2] at h
    refine zEV.iconst (v := (-1)) dX6_by_13 rfl ?_
    have h := Option.some.inj h
    subst h
    exact zEV.iret rfl dX6_by_14
theorem kX6_by (a1 : Int32) (a2 : Int32) (a3 : Int32) (M : zMM) (q : Int32 × zMM) (h : fX6_by a1 a2 a3 M = some q) : zCN yX6_by iX6_by [.inr (.inr 157), .inl a1, .inl a2, .inl a3] M (some (.inl q.1), q.2) :=
  zCN.of (by decide) rfl rfl (Nat.le_of_ble_eq_true rfl) (zEV.perm [0, 1, 2, 3] rfl (tX6_by_0 a1 a2 a3 M q h))
-- RingedPage.isGrid
def fX6_isGrid (a0 : Int32) (a1 : Int32) (M : zMM) : Option (Int32 × zMM) :=
  if a0 < (0 : Int32) then
    some (0, M)
  else
    if (9 : Int32) < a0 then
      some (0, M)
    else
      if a1 < 1 then
        some (0, M)
      else
        if (9 : Int32) < a1 then
          some (0, M)
        else
          some (1, M)
set_option maxRecDepth 100000 in
theorem tX6_isGrid_0 (a0 : Int32) (a1 : Int32) (M : zMM) (q : Int32 × zMM) (h : fX6_isGrid a0 a1  M = some q) : zEV iX6_isGrid 0 0 (zZO (some (.inl q.1), q.2)) 0 [(0, .inl a0), (1, .inl a1)] [] M := by
  unfold fX6_isGrid at h
  refine zEV.iload_n dX6_isGrid_0 rfl 0 rfl ?_
  refine zEV.if_lt 25 dX6_isGrid_1 (by decide) (fun c1 => ?_) (fun c1 => ?_)
  · rw [if_pos c1] at h
    refine zEV.iconst (v := 0) dX6_isGrid_25 rfl ?_
    have h := Option.some.inj h
    subst h
    exact zEV.zret rfl (Or.inl rfl) dX6_isGrid_26
  · rw [if_neg c1] at h
    refine zEV.iload_n dX6_isGrid_4 rfl 0 rfl ?_
    refine zEV.bipush (v := 9) dX6_isGrid_5 rfl ?_
    refine zEV.icmp_gt 25 dX6_isGrid_7 (by decide) (fun c2 => ?_) (fun c2 => ?_)
    · rw [if_pos c2] at h
      refine zEV.iconst (v := 0) dX6_isGrid_25 rfl ?_
      have h := Option.some.inj h
      subst h
      exact zEV.zret rfl (Or.inl rfl) dX6_isGrid_26
    · rw [if_neg c2] at h
      refine zEV.iload_n dX6_isGrid_10 rfl 1 rfl ?_
      refine zEV.iconst (v := 1) dX6_isGrid_11 rfl ?_
      refine zEV.icmp_lt 25 dX6_isGrid_12 (by decide) (fun c3 => ?_) (fun c3 => ?_)
      · rw [if_pos c3] at h
        refine zEV.iconst (v := 0) dX6_isGrid_25 rfl ?_
        have h := Option.some.inj h
        subst h
        exact zEV.zret rfl (Or.inl rfl) dX6_isGrid_26
      · rw [if_neg c3] at h
        refine zEV.iload_n dX6_isGrid_15 rfl 1 rfl ?_
        refine zEV.bipush (v := 9) dX6_isGrid_16 rfl ?_
        refine zEV.icmp_gt 25 dX6_isGrid_18 (by decide) (fun c4 => ?_) (fun c4 => ?_)
        · rw [if_pos c4] at h
          refine zEV.iconst (v := 0) dX6_isGrid_25 rfl ?_
          have h := Option.some.inj h
          subst h
          exact zEV.zret rfl (Or.inl rfl) dX6_isGrid_26
        · rw [if_neg c4] at h
          refine zEV.iconst (v := 1) dX6_isGrid_21 rfl ?_
          refine zEV.goto 26 dX6_isGrid_22 (by decide) ?_
          have h := Option.some.inj h
          subst h
          exact zEV.zret rfl (Or.inr rfl) dX6_isGrid_26
theorem kX6_isGrid (a0 : Int32) (a1 : Int32) (M : zMM) (q : Int32 × zMM) (h : fX6_isGrid a0 a1 M = some q) : zCN yX6_isGrid iX6_isGrid [.inl a0, .inl a1] M (some (.inl q.1), q.2) :=
  zCN.of (by decide) rfl rfl (Nat.le_of_ble_eq_true rfl) (zEV.perm [0, 1] rfl (tX6_isGrid_0 a0 a1 M q h))
-- RingedPage.best
def fX6_best (a1 : Int32) (a2 : Int32) (M : zMM) : Option (Int32 × zMM) :=
  (fX6_isGrid (a1) (a2) M).bind fun q1 =>
  if q1.1 = (0 : Int32) then
    some ((-1), q1.2)
  else
    (fX0_copy 10 0 q1.2).bind fun q3 =>
    (fX3_findBest 10 (a1) (a2) q3).bind fun q4 =>
    (fX2_tell___ ((Int32.toInt64 (q4.1 148 0))) ((Int32.toInt64 (q4.1 148 1))) ((Int32.toInt64 (q4.1 148 2))) ((Int32.toInt64 (q4.1 148 4))) q4).bind fun q5 =>
    some ((q5.1 148 3), q5)
set_option maxRecDepth 100000 in
theorem tX6_best_0 (a1 : Int32) (a2 : Int32) (M : zMM) (q : Int32 × zMM) (h : fX6_best a1 a2  M = some q) : zEV iX6_best 0 0 (zZO (some (.inl q.1), q.2)) 0 [(0, .inr (.inr 157)), (1, .inl a1), (2, .inl a2)] [] M := by
  unfold fX6_best at h
  refine zEV.iload_n dX6_best_0 rfl 1 rfl ?_
  refine zEV.iload_n dX6_best_1 rfl 2 rfl ?_
  obtain ⟨q1, hq1, h⟩ := bind_yes h
  refine zEV.callSi (kX6_isGrid (a1) (a2)  M q1 hq1) wm_RX6_246 wc_X6_isGrid hy_X6_isGrid rfl ⟨Nat.le_of_ble_eq_true rfl, Nat.le_of_ble_eq_true rfl⟩ rfl (Nat.le_of_ble_eq_true rfl) dX6_best_2 ?_
  refine zEV.if_ne 10 dX6_best_5 (by decide) (fun c2 => ?_) (fun c2 => ?_)
  · rw [if_neg c2] at h
    refine zEV.aload_n dX6_best_10 rfl 0 rfl ?_
    refine zEV.gfr rfl inz6 1 (by decide) wf_RX6_16 (by decide) rfl rfl dX6_best_11 ?_
    refine zEV.aload_n dX6_best_14 rfl 0 rfl ?_
    refine zEV.gfr rfl inz6 0 (by decide) wf_RX6_12 (by decide) rfl rfl dX6_best_15 ?_
    obtain ⟨q3, hq3, h⟩ := bind_yes h
    refine zEV.callVv (kX0_copy 10 0 lf_10 lf_0 q1.2 q3 hq3) (by decide) rfl rfl wm_RX6_240 wc_X0_copy hy_X0_copy rfl ⟨Nat.le_of_ble_eq_true rfl, Nat.le_of_ble_eq_true rfl⟩ rfl (Nat.le_of_ble_eq_true rfl) dX6_best_18 ?_
    refine zEV.aload_n dX6_best_21 rfl 0 rfl ?_
    refine zEV.gfr rfl inz6 3 (by decide) wf_RX6_29 (by decide) rfl rfl dX6_best_22 ?_
    refine zEV.aload_n dX6_best_25 rfl 0 rfl ?_
    refine zEV.gfr rfl inz6 1 (by decide) wf_RX6_16 (by decide) rfl rfl dX6_best_26 ?_
    refine zEV.aload_n dX6_best_29 rfl 0 rfl ?_
    refine zEV.gfr rfl inz6 2 (by decide) wf_RX6_22 (by decide) rfl rfl dX6_best_30 ?_
    refine zEV.iload_n dX6_best_33 rfl 1 rfl ?_
    refine zEV.iload_n dX6_best_34 rfl 2 rfl ?_
    obtain ⟨q4, hq4, h⟩ := bind_yes h
    refine zEV.callVv (kX3_findBest 10 (a1) (a2) lf_10 q3 q4 hq4) (by decide) rfl rfl wm_RX6_249 wc_X3_findBest hy_X3_findBest rfl ⟨Nat.le_of_ble_eq_true rfl, Nat.le_of_ble_eq_true rfl⟩ rfl (Nat.le_of_ble_eq_true rfl) dX6_best_35 ?_
    refine zEV.aload_n dX6_best_38 rfl 0 rfl ?_
    refine zEV.gfr rfl inz6 8 (by decide) wf_RX6_58 (by decide) rfl rfl dX6_best_39 ?_
    refine zEV.aload_n dX6_best_42 rfl 0 rfl ?_
    refine zEV.gfr rfl inz6 3 (by decide) wf_RX6_29 (by decide) rfl rfl dX6_best_43 ?_
    refine zEV.gfi rfl inz3 0 (by decide) wf_RX6_253 (by decide) rfl rfl dX6_best_46 ?_
    refine zEV.i2l dX6_best_49 ?_
    refine zEV.aload_n dX6_best_50 rfl 0 rfl ?_
    refine zEV.gfr rfl inz6 3 (by decide) wf_RX6_29 (by decide) rfl rfl dX6_best_51 ?_
    refine zEV.gfi rfl inz3 1 (by decide) wf_RX6_256 (by decide) rfl rfl dX6_best_54 ?_
    refine zEV.i2l dX6_best_57 ?_
    refine zEV.aload_n dX6_best_58 rfl 0 rfl ?_
    refine zEV.gfr rfl inz6 3 (by decide) wf_RX6_29 (by decide) rfl rfl dX6_best_59 ?_
    refine zEV.gfi rfl inz3 2 (by decide) wf_RX6_259 (by decide) rfl rfl dX6_best_62 ?_
    refine zEV.i2l dX6_best_65 ?_
    refine zEV.aload_n dX6_best_66 rfl 0 rfl ?_
    refine zEV.gfr rfl inz6 3 (by decide) wf_RX6_29 (by decide) rfl rfl dX6_best_67 ?_
    refine zEV.gfi rfl inz3 4 (by decide) wf_RX6_262 (by decide) rfl rfl dX6_best_70 ?_
    refine zEV.i2l dX6_best_73 ?_
    obtain ⟨q5, hq5, h⟩ := bind_yes h
    refine zEV.callVv (kX2_tell___ ((Int32.toInt64 (q4.1 148 0))) ((Int32.toInt64 (q4.1 148 1))) ((Int32.toInt64 (q4.1 148 2))) ((Int32.toInt64 (q4.1 148 4)))  q4 q5 hq5) (by decide) rfl rfl wm_RX6_149 wc_X2_tell___ hy_X2_tell___ rfl ⟨Nat.le_of_ble_eq_true rfl, Nat.le_of_ble_eq_true rfl⟩ rfl (Nat.le_of_ble_eq_true rfl) dX6_best_74 ?_
    refine zEV.aload_n dX6_best_77 rfl 0 rfl ?_
    refine zEV.gfr rfl inz6 3 (by decide) wf_RX6_29 (by decide) rfl rfl dX6_best_78 ?_
    refine zEV.gfi rfl inz3 3 (by decide) wf_RX6_265 (by decide) rfl rfl dX6_best_81 ?_
    have h := Option.some.inj h
    subst h
    exact zEV.iret rfl dX6_best_84
  · rw [if_pos c2] at h
    refine zEV.iconst (v := (-1)) dX6_best_8 rfl ?_
    have h := Option.some.inj h
    subst h
    exact zEV.iret rfl dX6_best_9
theorem kX6_best (a1 : Int32) (a2 : Int32) (M : zMM) (q : Int32 × zMM) (h : fX6_best a1 a2 M = some q) : zCN yX6_best iX6_best [.inr (.inr 157), .inl a1, .inl a2] M (some (.inl q.1), q.2) :=
  zCN.of (by decide) rfl rfl (Nat.le_of_ble_eq_true rfl) (zEV.perm [0, 1, 2] rfl (tX6_best_0 a1 a2 M q h))
-- RingedPage.near
def fX6_near (a1 : Int32) (a2 : Int32) (a3 : Int32) (M : zMM) : Option (Int32 × zMM) :=
  (fX6_isGrid (a1) (a2) M).bind fun q1 =>
  if q1.1 = (0 : Int32) then
    some ((-1), q1.2)
  else
    if a3 < (0 : Int32) then
      some ((-1), q1.2)
    else
      if a3 ≤ 99 then
        (fX0_copy 10 0 q1.2).bind fun q5 =>
        (fX3_findNear 10 (a1) (a2) (a3) q5).bind fun q6 =>
        if (q6.1 148 4) = (0 : Int32) then
          (fX2_clear  q6).bind fun q9 =>
          some ((q9.1 148 4), q9)
        else
          (fX2_tell__ ((Int32.toInt64 (q6.1 148 0))) ((Int32.toInt64 (q6.1 148 1))) ((Int32.toInt64 (q6.1 148 2))) q6).bind fun q8 =>
          some ((q8.1 148 4), q8)
      else
        some ((-1), q1.2)
set_option maxRecDepth 100000 in
theorem tX6_near_0 (a1 : Int32) (a2 : Int32) (a3 : Int32) (M : zMM) (q : Int32 × zMM) (h : fX6_near a1 a2 a3  M = some q) : zEV iX6_near 0 0 (zZO (some (.inl q.1), q.2)) 0 [(0, .inr (.inr 157)), (1, .inl a1), (2, .inl a2), (3, .inl a3)] [] M := by
  unfold fX6_near at h
  refine zEV.iload_n dX6_near_0 rfl 1 rfl ?_
  refine zEV.iload_n dX6_near_1 rfl 2 rfl ?_
  obtain ⟨q1, hq1, h⟩ := bind_yes h
  refine zEV.callSi (kX6_isGrid (a1) (a2)  M q1 hq1) wm_RX6_246 wc_X6_isGrid hy_X6_isGrid rfl ⟨Nat.le_of_ble_eq_true rfl, Nat.le_of_ble_eq_true rfl⟩ rfl (Nat.le_of_ble_eq_true rfl) dX6_near_2 ?_
  refine zEV.if_eq 18 dX6_near_5 (by decide) (fun c2 => ?_) (fun c2 => ?_)
  · rw [if_pos c2] at h
    refine zEV.iconst (v := (-1)) dX6_near_18 rfl ?_
    have h := Option.some.inj h
    subst h
    exact zEV.iret rfl dX6_near_19
  · rw [if_neg c2] at h
    refine zEV.iload_n dX6_near_8 rfl 3 rfl ?_
    refine zEV.if_lt 18 dX6_near_9 (by decide) (fun c3 => ?_) (fun c3 => ?_)
    · rw [if_pos c3] at h
      refine zEV.iconst (v := (-1)) dX6_near_18 rfl ?_
      have h := Option.some.inj h
      subst h
      exact zEV.iret rfl dX6_near_19
    · rw [if_neg c3] at h
      refine zEV.iload_n dX6_near_12 rfl 3 rfl ?_
      refine zEV.bipush (v := 99) dX6_near_13 rfl ?_
      refine zEV.icmp_le 20 dX6_near_15 (by decide) (fun c4 => ?_) (fun c4 => ?_)
      · rw [if_pos c4] at h
        refine zEV.aload_n dX6_near_20 rfl 0 rfl ?_
        refine zEV.gfr rfl inz6 1 (by decide) wf_RX6_16 (by decide) rfl rfl dX6_near_21 ?_
        refine zEV.aload_n dX6_near_24 rfl 0 rfl ?_
        refine zEV.gfr rfl inz6 0 (by decide) wf_RX6_12 (by decide) rfl rfl dX6_near_25 ?_
        obtain ⟨q5, hq5, h⟩ := bind_yes h
        refine zEV.callVv (kX0_copy 10 0 lf_10 lf_0 q1.2 q5 hq5) (by decide) rfl rfl wm_RX6_240 wc_X0_copy hy_X0_copy rfl ⟨Nat.le_of_ble_eq_true rfl, Nat.le_of_ble_eq_true rfl⟩ rfl (Nat.le_of_ble_eq_true rfl) dX6_near_28 ?_
        refine zEV.aload_n dX6_near_31 rfl 0 rfl ?_
        refine zEV.gfr rfl inz6 3 (by decide) wf_RX6_29 (by decide) rfl rfl dX6_near_32 ?_
        refine zEV.aload_n dX6_near_35 rfl 0 rfl ?_
        refine zEV.gfr rfl inz6 1 (by decide) wf_RX6_16 (by decide) rfl rfl dX6_near_36 ?_
        refine zEV.aload_n dX6_near_39 rfl 0 rfl ?_
        refine zEV.gfr rfl inz6 2 (by decide) wf_RX6_22 (by decide) rfl rfl dX6_near_40 ?_
        refine zEV.iload_n dX6_near_43 rfl 1 rfl ?_
        refine zEV.iload_n dX6_near_44 rfl 2 rfl ?_
        refine zEV.iload_n dX6_near_45 rfl 3 rfl ?_
        obtain ⟨q6, hq6, h⟩ := bind_yes h
        refine zEV.callVv (kX3_findNear 10 (a1) (a2) (a3) lf_10 q5 q6 hq6) (by decide) rfl rfl wm_RX6_268 wc_X3_findNear hy_X3_findNear rfl ⟨Nat.le_of_ble_eq_true rfl, Nat.le_of_ble_eq_true rfl⟩ rfl (Nat.le_of_ble_eq_true rfl) dX6_near_46 ?_
        refine zEV.aload_n dX6_near_49 rfl 0 rfl ?_
        refine zEV.gfr rfl inz6 3 (by decide) wf_RX6_29 (by decide) rfl rfl dX6_near_50 ?_
        refine zEV.gfi rfl inz3 4 (by decide) wf_RX6_262 (by decide) rfl rfl dX6_near_53 ?_
        refine zEV.if_ne 69 dX6_near_56 (by decide) (fun c7 => ?_) (fun c7 => ?_)
        · rw [if_neg c7] at h
          refine zEV.aload_n dX6_near_69 rfl 0 rfl ?_
          refine zEV.gfr rfl inz6 8 (by decide) wf_RX6_58 (by decide) rfl rfl dX6_near_70 ?_
          refine zEV.aload_n dX6_near_73 rfl 0 rfl ?_
          refine zEV.gfr rfl inz6 3 (by decide) wf_RX6_29 (by decide) rfl rfl dX6_near_74 ?_
          refine zEV.gfi rfl inz3 0 (by decide) wf_RX6_253 (by decide) rfl rfl dX6_near_77 ?_
          refine zEV.i2l dX6_near_80 ?_
          refine zEV.aload_n dX6_near_81 rfl 0 rfl ?_
          refine zEV.gfr rfl inz6 3 (by decide) wf_RX6_29 (by decide) rfl rfl dX6_near_82 ?_
          refine zEV.gfi rfl inz3 1 (by decide) wf_RX6_256 (by decide) rfl rfl dX6_near_85 ?_
          refine zEV.i2l dX6_near_88 ?_
          refine zEV.aload_n dX6_near_89 rfl 0 rfl ?_
          refine zEV.gfr rfl inz6 3 (by decide) wf_RX6_29 (by decide) rfl rfl dX6_near_90 ?_
          refine zEV.gfi rfl inz3 2 (by decide) wf_RX6_259 (by decide) rfl rfl dX6_near_93 ?_
          refine zEV.i2l dX6_near_96 ?_
          obtain ⟨q8, hq8, h⟩ := bind_yes h
          refine zEV.callVv (kX2_tell__ ((Int32.toInt64 (q6.1 148 0))) ((Int32.toInt64 (q6.1 148 1))) ((Int32.toInt64 (q6.1 148 2)))  q6 q8 hq8) (by decide) rfl rfl wm_RX6_196 wc_X2_tell__ hy_X2_tell__ rfl ⟨Nat.le_of_ble_eq_true rfl, Nat.le_of_ble_eq_true rfl⟩ rfl (Nat.le_of_ble_eq_true rfl) dX6_near_97 ?_
          refine zEV.aload_n dX6_near_100 rfl 0 rfl ?_
          refine zEV.gfr rfl inz6 3 (by decide) wf_RX6_29 (by decide) rfl rfl dX6_near_101 ?_
          refine zEV.gfi rfl inz3 4 (by decide) wf_RX6_262 (by decide) rfl rfl dX6_near_104 ?_
          have h := Option.some.inj h
          subst h
          exact zEV.iret rfl dX6_near_107
        · rw [if_pos c7] at h
          refine zEV.aload_n dX6_near_59 rfl 0 rfl ?_
          refine zEV.gfr rfl inz6 8 (by decide) wf_RX6_58 (by decide) rfl rfl dX6_near_60 ?_
          obtain ⟨q9, hq9, h⟩ := bind_yes h
          refine zEV.callVv (kX2_clear   q6 q9 hq9) (by decide) rfl rfl wm_RX6_272 wc_X2_clear hy_X2_clear rfl ⟨Nat.le_of_ble_eq_true rfl, Nat.le_of_ble_eq_true rfl⟩ rfl (Nat.le_of_ble_eq_true rfl) dX6_near_63 ?_
          refine zEV.goto 100 dX6_near_66 (by decide) ?_
          refine zEV.aload_n dX6_near_100 rfl 0 rfl ?_
          refine zEV.gfr rfl inz6 3 (by decide) wf_RX6_29 (by decide) rfl rfl dX6_near_101 ?_
          refine zEV.gfi rfl inz3 4 (by decide) wf_RX6_262 (by decide) rfl rfl dX6_near_104 ?_
          have h := Option.some.inj h
          subst h
          exact zEV.iret rfl dX6_near_107
      · rw [if_neg c4] at h
        refine zEV.iconst (v := (-1)) dX6_near_18 rfl ?_
        have h := Option.some.inj h
        subst h
        exact zEV.iret rfl dX6_near_19
theorem kX6_near (a1 : Int32) (a2 : Int32) (a3 : Int32) (M : zMM) (q : Int32 × zMM) (h : fX6_near a1 a2 a3 M = some q) : zCN yX6_near iX6_near [.inr (.inr 157), .inl a1, .inl a2, .inl a3] M (some (.inl q.1), q.2) :=
  zCN.of (by decide) rfl rfl (Nat.le_of_ble_eq_true rfl) (zEV.perm [0, 1, 2, 3] rfl (tX6_near_0 a1 a2 a3 M q h))
-- RingedPage.climbs
def fX6_climbs (M : zMM) : Option (Int32 × zMM) :=
  (fX0_copy 10 0 M).bind fun q1 =>
  (fX3_climb 10 q1).bind fun q2 =>
  (fX2_tell___ ((Int32.toInt64 (q2.2.1 148 0))) ((Int32.toInt64 (q2.2.1 148 1))) ((Int32.toInt64 (q2.2.1 148 2))) ((Int32.toInt64 (q2.2.1 148 3))) q2.2).bind fun q3 =>
  some (q2.1, q3)
set_option maxRecDepth 100000 in
theorem tX6_climbs_0 (M : zMM) (q : Int32 × zMM) (h : fX6_climbs  M = some q) : zEV iX6_climbs 0 0 (zZO (some (.inl q.1), q.2)) 0 [(0, .inr (.inr 157))] [] M := by
  unfold fX6_climbs at h
  refine zEV.aload_n dX6_climbs_0 rfl 0 rfl ?_
  refine zEV.gfr rfl inz6 1 (by decide) wf_RX6_16 (by decide) rfl rfl dX6_climbs_1 ?_
  refine zEV.aload_n dX6_climbs_4 rfl 0 rfl ?_
  refine zEV.gfr rfl inz6 0 (by decide) wf_RX6_12 (by decide) rfl rfl dX6_climbs_5 ?_
  obtain ⟨q1, hq1, h⟩ := bind_yes h
  refine zEV.callVv (kX0_copy 10 0 lf_10 lf_0 M q1 hq1) (by decide) rfl rfl wm_RX6_240 wc_X0_copy hy_X0_copy rfl ⟨Nat.le_of_ble_eq_true rfl, Nat.le_of_ble_eq_true rfl⟩ rfl (Nat.le_of_ble_eq_true rfl) dX6_climbs_8 ?_
  refine zEV.aload_n dX6_climbs_11 rfl 0 rfl ?_
  refine zEV.gfr rfl inz6 3 (by decide) wf_RX6_29 (by decide) rfl rfl dX6_climbs_12 ?_
  refine zEV.aload_n dX6_climbs_15 rfl 0 rfl ?_
  refine zEV.gfr rfl inz6 1 (by decide) wf_RX6_16 (by decide) rfl rfl dX6_climbs_16 ?_
  refine zEV.aload_n dX6_climbs_19 rfl 0 rfl ?_
  refine zEV.gfr rfl inz6 2 (by decide) wf_RX6_22 (by decide) rfl rfl dX6_climbs_20 ?_
  obtain ⟨q2, hq2, h⟩ := bind_yes h
  refine zEV.callVi (kX3_climb 10 lf_10 q1 q2 hq2) (by decide) rfl rfl wm_RX6_273 wc_X3_climb hy_X3_climb rfl ⟨Nat.le_of_ble_eq_true rfl, Nat.le_of_ble_eq_true rfl⟩ rfl (Nat.le_of_ble_eq_true rfl) dX6_climbs_23 ?_
  refine zEV.istore_n dX6_climbs_26 rfl (Nat.le_of_ble_eq_true rfl) rfl ?_
  refine zEV.aload_n dX6_climbs_27 rfl 1 rfl ?_
  refine zEV.gfr rfl inz6 8 (by decide) wf_RX6_58 (by decide) rfl rfl dX6_climbs_28 ?_
  refine zEV.aload_n dX6_climbs_31 rfl 1 rfl ?_
  refine zEV.gfr rfl inz6 3 (by decide) wf_RX6_29 (by decide) rfl rfl dX6_climbs_32 ?_
  refine zEV.gfi rfl inz3 0 (by decide) wf_RX6_253 (by decide) rfl rfl dX6_climbs_35 ?_
  refine zEV.i2l dX6_climbs_38 ?_
  refine zEV.aload_n dX6_climbs_39 rfl 1 rfl ?_
  refine zEV.gfr rfl inz6 3 (by decide) wf_RX6_29 (by decide) rfl rfl dX6_climbs_40 ?_
  refine zEV.gfi rfl inz3 1 (by decide) wf_RX6_256 (by decide) rfl rfl dX6_climbs_43 ?_
  refine zEV.i2l dX6_climbs_46 ?_
  refine zEV.aload_n dX6_climbs_47 rfl 1 rfl ?_
  refine zEV.gfr rfl inz6 3 (by decide) wf_RX6_29 (by decide) rfl rfl dX6_climbs_48 ?_
  refine zEV.gfi rfl inz3 2 (by decide) wf_RX6_259 (by decide) rfl rfl dX6_climbs_51 ?_
  refine zEV.i2l dX6_climbs_54 ?_
  refine zEV.aload_n dX6_climbs_55 rfl 1 rfl ?_
  refine zEV.gfr rfl inz6 3 (by decide) wf_RX6_29 (by decide) rfl rfl dX6_climbs_56 ?_
  refine zEV.gfi rfl inz3 3 (by decide) wf_RX6_265 (by decide) rfl rfl dX6_climbs_59 ?_
  refine zEV.i2l dX6_climbs_62 ?_
  obtain ⟨q3, hq3, h⟩ := bind_yes h
  refine zEV.callVv (kX2_tell___ ((Int32.toInt64 (q2.2.1 148 0))) ((Int32.toInt64 (q2.2.1 148 1))) ((Int32.toInt64 (q2.2.1 148 2))) ((Int32.toInt64 (q2.2.1 148 3)))  q2.2 q3 hq3) (by decide) rfl rfl wm_RX6_149 wc_X2_tell___ hy_X2_tell___ rfl ⟨Nat.le_of_ble_eq_true rfl, Nat.le_of_ble_eq_true rfl⟩ rfl (Nat.le_of_ble_eq_true rfl) dX6_climbs_63 ?_
  refine zEV.iload_n dX6_climbs_66 rfl 0 rfl ?_
  have h := Option.some.inj h
  subst h
  exact zEV.iret rfl dX6_climbs_67
theorem kX6_climbs (M : zMM) (q : Int32 × zMM) (h : fX6_climbs M = some q) : zCN yX6_climbs iX6_climbs [.inr (.inr 157)] M (some (.inl q.1), q.2) :=
  zCN.of (by decide) rfl rfl (Nat.le_of_ble_eq_true rfl) (zEV.perm [0] rfl (tX6_climbs_0 M q h))
-- RingedPage.leastMeasure
def fX6_leastMeasure_103 (K30 : Int32 → zMM → Option (Int32 × zMM)) (a1 : Int32) (a2 : Int32) (l3 : Int32) (M : zMM) : Option (Int32 × zMM) :=
  K30 ((l3 + 1)) M
set_option maxRecDepth 100000 in
theorem tX6_leastMeasure_103 (K30 : Int32 → zMM → Option (Int32 × zMM)) (a1 : Int32) (a2 : Int32) (hK30 : ∀ (l3 : Int32) (M : zMM) (q : Int32 × zMM), K30 l3 M = some q → zEV iX6_leastMeasure 0 0 (zZO (some (.inl q.1), q.2)) 30 [(0, .inr (.inr 157)), (1, .inl a1), (2, .inl a2), (3, .inl l3)] [] M) (l3 : Int32) (M : zMM) (q : Int32 × zMM) (h : fX6_leastMeasure_103 K30 a1 a2 l3 M = some q) : zEV iX6_leastMeasure 0 0 (zZO (some (.inl q.1), q.2)) 103 [(0, .inr (.inr 157)), (1, .inl a1), (2, .inl a2), (3, .inl l3)] [] M := by
  unfold fX6_leastMeasure_103 at h
  refine zEV.iinc (v := (l3 + 1)) dX6_leastMeasure_103 3 rfl rfl (Nat.le_of_ble_eq_true rfl) rfl ?_
  refine zEV.goto 30 dX6_leastMeasure_106 (by decide) ?_
  exact zEV.perm [1, 2, 3, 0] rfl (hK30 ((l3 + 1)) M q h)
def fX6_leastMeasure_30 (a1 : Int32) (a2 : Int32) : Nat → Int32 → zMM → Option (Int32 × zMM)
  | 0, _, _ => none
  | n + 1, l3, M =>
  if oob (a1) 3 then none else
  if (zst 1 (Int32.toNatClampNeg a1)) < l3 then
    some ((-2), M)
  else
    (fX0_setMeasure 10 (a1) (l3) M).bind fun q3 =>
    (fX0_allowsItsPlan 10 q3).bind fun q4 =>
    if q4.1 = (0 : Int32) then
      fX6_leastMeasure_103 (fX6_leastMeasure_30 a1 a2 n) a1 a2 (l3) q4.2
    else
      (fX4_set 10 q4.2).bind fun q6 =>
      (fX4_pageCount 10 q6).bind fun q7 =>
      if a2 < q7.1 then
        fX6_leastMeasure_103 (fX6_leastMeasure_30 a1 a2 n) a1 a2 (l3) q7.2
      else
        (fX2_tell ((Int32.toInt64 q7.1)) q7.2).bind fun q9 =>
        some (l3, q9)
set_option maxRecDepth 100000 in
theorem tX6_leastMeasure_30 (a1 : Int32) (a2 : Int32) : ∀ (n : Nat) (l3 : Int32) (M : zMM) (q : Int32 × zMM), fX6_leastMeasure_30 a1 a2 n l3 M = some q → zEV iX6_leastMeasure 0 0 (zZO (some (.inl q.1), q.2)) 30 [(0, .inr (.inr 157)), (1, .inl a1), (2, .inl a2), (3, .inl l3)] [] M := by
  intro n
  induction n with
  | zero =>
    intro l3 M q h
    rw [fX6_leastMeasure_30] at h
    cases h
  | succ n ih =>
    intro l3 M q h
    rw [fX6_leastMeasure_30] at h
    refine zEV.iload_n dX6_leastMeasure_30 rfl 3 rfl ?_
    refine zEV.gets 1 (by decide) wg_RX6_373 dX6_leastMeasure_31 ?_
    refine zEV.iload_n dX6_leastMeasure_34 rfl 1 rfl ?_
    obtain ⟨g1, h⟩ := ite_no h
    refine zEV.stld 1 (by decide) g1 dX6_leastMeasure_35 ?_
    refine zEV.icmp_gt 109 dX6_leastMeasure_36 (by decide) (fun c2 => ?_) (fun c2 => ?_)
    · rw [if_pos c2] at h
      refine zEV.bipush (v := (-2)) dX6_leastMeasure_109 rfl ?_
      have h := Option.some.inj h
      subst h
      exact zEV.iret rfl dX6_leastMeasure_111
    · rw [if_neg c2] at h
      refine zEV.aload_n dX6_leastMeasure_39 rfl 0 rfl ?_
      refine zEV.gfr rfl inz6 1 (by decide) wf_RX6_16 (by decide) rfl rfl dX6_leastMeasure_40 ?_
      refine zEV.iload_n dX6_leastMeasure_43 rfl 1 rfl ?_
      refine zEV.iload_n dX6_leastMeasure_44 rfl 3 rfl ?_
      obtain ⟨q3, hq3, h⟩ := bind_yes h
      refine zEV.callVv (kX0_setMeasure 10 (a1) (l3) lf_10 M q3 hq3) (by decide) rfl rfl wm_RX6_379 wc_X0_setMeasure hy_X0_setMeasure rfl ⟨Nat.le_of_ble_eq_true rfl, Nat.le_of_ble_eq_true rfl⟩ rfl (Nat.le_of_ble_eq_true rfl) dX6_leastMeasure_45 ?_
      refine zEV.aload_n dX6_leastMeasure_48 rfl 0 rfl ?_
      refine zEV.gfr rfl inz6 1 (by decide) wf_RX6_16 (by decide) rfl rfl dX6_leastMeasure_49 ?_
      obtain ⟨q4, hq4, h⟩ := bind_yes h
      refine zEV.callVi (kX0_allowsItsPlan 10 lf_10 q3 q4 hq4) (by decide) rfl rfl wm_RX6_382 wc_X0_allowsItsPlan hy_X0_allowsItsPlan rfl ⟨Nat.le_of_ble_eq_true rfl, Nat.le_of_ble_eq_true rfl⟩ rfl (Nat.le_of_ble_eq_true rfl) dX6_leastMeasure_52 ?_
      refine zEV.if_ne 61 dX6_leastMeasure_55 (by decide) (fun c5 => ?_) (fun c5 => ?_)
      · rw [if_neg c5] at h
        refine zEV.aload_n dX6_leastMeasure_61 rfl 0 rfl ?_
        refine zEV.gfr rfl inz6 2 (by decide) wf_RX6_22 (by decide) rfl rfl dX6_leastMeasure_62 ?_
        refine zEV.aload_n dX6_leastMeasure_65 rfl 0 rfl ?_
        refine zEV.gfr rfl inz6 1 (by decide) wf_RX6_16 (by decide) rfl rfl dX6_leastMeasure_66 ?_
        obtain ⟨q6, hq6, h⟩ := bind_yes h
        refine zEV.callVv (kX4_set 10 lf_10 q4.2 q6 hq6) (by decide) rfl rfl wm_RX6_113 wc_X4_set hy_X4_set rfl ⟨Nat.le_of_ble_eq_true rfl, Nat.le_of_ble_eq_true rfl⟩ rfl (Nat.le_of_ble_eq_true rfl) dX6_leastMeasure_69 ?_
        refine zEV.aload_n dX6_leastMeasure_72 rfl 0 rfl ?_
        refine zEV.gfr rfl inz6 2 (by decide) wf_RX6_22 (by decide) rfl rfl dX6_leastMeasure_73 ?_
        refine zEV.aload_n dX6_leastMeasure_76 rfl 0 rfl ?_
        refine zEV.gfr rfl inz6 1 (by decide) wf_RX6_16 (by decide) rfl rfl dX6_leastMeasure_77 ?_
        obtain ⟨q7, hq7, h⟩ := bind_yes h
        refine zEV.callVi (kX4_pageCount 10 lf_10 q6 q7 hq7) (by decide) rfl rfl wm_RX6_116 wc_X4_pageCount hy_X4_pageCount rfl ⟨Nat.le_of_ble_eq_true rfl, Nat.le_of_ble_eq_true rfl⟩ rfl (Nat.le_of_ble_eq_true rfl) dX6_leastMeasure_80 ?_
        refine zEV.istore dX6_leastMeasure_83 (Nat.le_of_ble_eq_true rfl) rfl ?_
        refine zEV.iload dX6_leastMeasure_85 0 rfl ?_
        refine zEV.iload_n dX6_leastMeasure_87 rfl 3 rfl ?_
        refine zEV.icmp_gt 103 dX6_leastMeasure_88 (by decide) (fun c8 => ?_) (fun c8 => ?_)
        · rw [if_pos c8] at h
          exact zEV.perm [1, 2, 3, 4] rfl (tX6_leastMeasure_103 (fX6_leastMeasure_30 a1 a2 n) a1 a2 (fun l3 M9 q9 h9 => ih l3 M9 q9 h9) (l3) q7.2 q h)
        · rw [if_neg c8] at h
          refine zEV.aload_n dX6_leastMeasure_91 rfl 1 rfl ?_
          refine zEV.gfr rfl inz6 8 (by decide) wf_RX6_58 (by decide) rfl rfl dX6_leastMeasure_92 ?_
          refine zEV.iload dX6_leastMeasure_95 0 rfl ?_
          refine zEV.i2l dX6_leastMeasure_97 ?_
          obtain ⟨q9, hq9, h⟩ := bind_yes h
          refine zEV.callVv (kX2_tell ((Int32.toInt64 q7.1))  q7.2 q9 hq9) (by decide) rfl rfl wm_RX6_126 wc_X2_tell hy_X2_tell rfl ⟨Nat.le_of_ble_eq_true rfl, Nat.le_of_ble_eq_true rfl⟩ rfl (Nat.le_of_ble_eq_true rfl) dX6_leastMeasure_98 ?_
          refine zEV.iload_n dX6_leastMeasure_101 rfl 4 rfl ?_
          have h := Option.some.inj h
          subst h
          exact zEV.iret rfl dX6_leastMeasure_102
      · rw [if_pos c5] at h
        refine zEV.goto 103 dX6_leastMeasure_58 (by decide) ?_
        exact zEV.perm [0, 1, 2, 3] rfl (tX6_leastMeasure_103 (fX6_leastMeasure_30 a1 a2 n) a1 a2 (fun l3 M9 q9 h9 => ih l3 M9 q9 h9) (l3) q4.2 q h)
def fX6_leastMeasure (a1 : Int32) (a2 : Int32) (M : zMM) : Option (Int32 × zMM) :=
  if a2 < 1 then
    some ((-1), M)
  else
    if a2 ≤ 9 then
      (fX0_copy 10 0 M).bind fun q3 =>
      if oob (a1) 3 then none else
      fX6_leastMeasure_30 a1 a2 zFU ((zst 0 (Int32.toNatClampNeg a1))) q3
    else
      some ((-1), M)
set_option maxRecDepth 100000 in
theorem tX6_leastMeasure_0 (a1 : Int32) (a2 : Int32) (M : zMM) (q : Int32 × zMM) (h : fX6_leastMeasure a1 a2  M = some q) : zEV iX6_leastMeasure 0 0 (zZO (some (.inl q.1), q.2)) 0 [(0, .inr (.inr 157)), (1, .inl a1), (2, .inl a2)] [] M := by
  unfold fX6_leastMeasure at h
  refine zEV.iload_n dX6_leastMeasure_0 rfl 2 rfl ?_
  refine zEV.iconst (v := 1) dX6_leastMeasure_1 rfl ?_
  refine zEV.icmp_lt 11 dX6_leastMeasure_2 (by decide) (fun c1 => ?_) (fun c1 => ?_)
  · rw [if_pos c1] at h
    refine zEV.iconst (v := (-1)) dX6_leastMeasure_11 rfl ?_
    have h := Option.some.inj h
    subst h
    exact zEV.iret rfl dX6_leastMeasure_12
  · rw [if_neg c1] at h
    refine zEV.iload_n dX6_leastMeasure_5 rfl 2 rfl ?_
    refine zEV.bipush (v := 9) dX6_leastMeasure_6 rfl ?_
    refine zEV.icmp_le 13 dX6_leastMeasure_8 (by decide) (fun c2 => ?_) (fun c2 => ?_)
    · rw [if_pos c2] at h
      refine zEV.aload_n dX6_leastMeasure_13 rfl 0 rfl ?_
      refine zEV.gfr rfl inz6 1 (by decide) wf_RX6_16 (by decide) rfl rfl dX6_leastMeasure_14 ?_
      refine zEV.aload_n dX6_leastMeasure_17 rfl 0 rfl ?_
      refine zEV.gfr rfl inz6 0 (by decide) wf_RX6_12 (by decide) rfl rfl dX6_leastMeasure_18 ?_
      obtain ⟨q3, hq3, h⟩ := bind_yes h
      refine zEV.callVv (kX0_copy 10 0 lf_10 lf_0 M q3 hq3) (by decide) rfl rfl wm_RX6_240 wc_X0_copy hy_X0_copy rfl ⟨Nat.le_of_ble_eq_true rfl, Nat.le_of_ble_eq_true rfl⟩ rfl (Nat.le_of_ble_eq_true rfl) dX6_leastMeasure_21 ?_
      refine zEV.gets 0 (by decide) wg_RX6_370 dX6_leastMeasure_24 ?_
      refine zEV.iload_n dX6_leastMeasure_27 rfl 1 rfl ?_
      obtain ⟨g4, h⟩ := ite_no h
      refine zEV.stld 0 (by decide) g4 dX6_leastMeasure_28 ?_
      refine zEV.istore_n dX6_leastMeasure_29 rfl (Nat.le_of_ble_eq_true rfl) rfl ?_
      exact zEV.perm [1, 2, 3, 0] rfl (tX6_leastMeasure_30 a1 a2 zFU ((zst 0 (Int32.toNatClampNeg a1))) q3 q h)
    · rw [if_neg c2] at h
      refine zEV.iconst (v := (-1)) dX6_leastMeasure_11 rfl ?_
      have h := Option.some.inj h
      subst h
      exact zEV.iret rfl dX6_leastMeasure_12
theorem kX6_leastMeasure (a1 : Int32) (a2 : Int32) (M : zMM) (q : Int32 × zMM) (h : fX6_leastMeasure a1 a2 M = some q) : zCN yX6_leastMeasure iX6_leastMeasure [.inr (.inr 157), .inl a1, .inl a2] M (some (.inl q.1), q.2) :=
  zCN.of (by decide) rfl rfl (Nat.le_of_ble_eq_true rfl) (zEV.perm [0, 1, 2] rfl (tX6_leastMeasure_0 a1 a2 M q h))
-- RingedPage.narrow
def fX6_narrow (a1 : Int32) (M : zMM) : Option (Int32 × zMM) :=
  (fX6_leastMeasure (0) (a1) M).bind fun q1 =>
  some (q1.1, q1.2)
set_option maxRecDepth 100000 in
theorem tX6_narrow_0 (a1 : Int32) (M : zMM) (q : Int32 × zMM) (h : fX6_narrow a1  M = some q) : zEV iX6_narrow 0 0 (zZO (some (.inl q.1), q.2)) 0 [(0, .inr (.inr 157)), (1, .inl a1)] [] M := by
  unfold fX6_narrow at h
  refine zEV.aload_n dX6_narrow_0 rfl 0 rfl ?_
  refine zEV.iconst (v := 0) dX6_narrow_1 rfl ?_
  refine zEV.iload_n dX6_narrow_2 rfl 1 rfl ?_
  obtain ⟨q1, hq1, h⟩ := bind_yes h
  refine zEV.callVi (kX6_leastMeasure (0) (a1)  M q1 hq1) (by decide) rfl rfl wm_RX6_277 wc_X6_leastMeasure hy_X6_leastMeasure rfl ⟨Nat.le_of_ble_eq_true rfl, Nat.le_of_ble_eq_true rfl⟩ rfl (Nat.le_of_ble_eq_true rfl) dX6_narrow_3 ?_
  have h := Option.some.inj h
  subst h
  exact zEV.iret rfl dX6_narrow_6
theorem kX6_narrow (a1 : Int32) (M : zMM) (q : Int32 × zMM) (h : fX6_narrow a1 M = some q) : zCN yX6_narrow iX6_narrow [.inr (.inr 157), .inl a1] M (some (.inl q.1), q.2) :=
  zCN.of (by decide) rfl rfl (Nat.le_of_ble_eq_true rfl) (zEV.perm [0, 1] rfl (tX6_narrow_0 a1 M q h))
-- RingedPage.low
def fX6_low (a1 : Int32) (M : zMM) : Option (Int32 × zMM) :=
  (fX6_leastMeasure (1) (a1) M).bind fun q1 =>
  some (q1.1, q1.2)
set_option maxRecDepth 100000 in
theorem tX6_low_0 (a1 : Int32) (M : zMM) (q : Int32 × zMM) (h : fX6_low a1  M = some q) : zEV iX6_low 0 0 (zZO (some (.inl q.1), q.2)) 0 [(0, .inr (.inr 157)), (1, .inl a1)] [] M := by
  unfold fX6_low at h
  refine zEV.aload_n dX6_low_0 rfl 0 rfl ?_
  refine zEV.iconst (v := 1) dX6_low_1 rfl ?_
  refine zEV.iload_n dX6_low_2 rfl 1 rfl ?_
  obtain ⟨q1, hq1, h⟩ := bind_yes h
  refine zEV.callVi (kX6_leastMeasure (1) (a1)  M q1 hq1) (by decide) rfl rfl wm_RX6_277 wc_X6_leastMeasure hy_X6_leastMeasure rfl ⟨Nat.le_of_ble_eq_true rfl, Nat.le_of_ble_eq_true rfl⟩ rfl (Nat.le_of_ble_eq_true rfl) dX6_low_3 ?_
  have h := Option.some.inj h
  subst h
  exact zEV.iret rfl dX6_low_6
theorem kX6_low (a1 : Int32) (M : zMM) (q : Int32 × zMM) (h : fX6_low a1 M = some q) : zCN yX6_low iX6_low [.inr (.inr 157), .inl a1] M (some (.inl q.1), q.2) :=
  zCN.of (by decide) rfl rfl (Nat.le_of_ble_eq_true rfl) (zEV.perm [0, 1] rfl (tX6_low_0 a1 M q h))
-- RingedPage.putWord
def fX6_putWord (b0 : Nat) (a1 : Int32) (a2 : Int32) (a3 : Int32) (M : zMM) : Option (Int32 × zMM) :=
  (fX6_isText (a1) M).bind fun q1 =>
  if q1.1 = (0 : Int32) then
    some ((-1), q1.2)
  else
    if a2 < (0 : Int32) then
      some ((-1), q1.2)
    else
      if oob (a1) 3 then none else
      if (q1.2.1 (b0 + 2) (Int32.toNatClampNeg a1)) < a2 then
        some ((-1), q1.2)
      else
        (fX6_isSize (a3) q1.2).bind fun q6 =>
        if q6.1 = (0 : Int32) then
          some ((-1), q6.2)
        else
          if (q6.2.1 (b0 + 2) (Int32.toNatClampNeg a1)) < 70 then
            (fX0_put b0 (a1) (a2) (a3) q6.2).bind fun q9 =>
            some ((q9.1 (b0 + 2) (Int32.toNatClampNeg a1)), q9)
          else
            some ((-3), q6.2)
set_option maxRecDepth 100000 in
theorem tX6_putWord_0 (b0 : Nat) (a1 : Int32) (a2 : Int32) (a3 : Int32) (hb0 : lf b0) (M : zMM) (q : Int32 × zMM) (h : fX6_putWord b0 a1 a2 a3  M = some q) : zEV iX6_putWord 0 0 (zZO (some (.inl q.1), q.2)) 0 [(0, .inr (.inr b0)), (1, .inl a1), (2, .inl a2), (3, .inl a3)] [] M := by
  unfold fX6_putWord at h
  refine zEV.iload_n dX6_putWord_0 rfl 1 rfl ?_
  obtain ⟨q1, hq1, h⟩ := bind_yes h
  refine zEV.callSi (kX6_isText (a1)  M q1 hq1) wm_RX6_77 wc_X6_isText hy_X6_isText rfl ⟨Nat.le_of_ble_eq_true rfl, Nat.le_of_ble_eq_true rfl⟩ rfl (Nat.le_of_ble_eq_true rfl) dX6_putWord_1 ?_
  refine zEV.if_eq 28 dX6_putWord_4 (by decide) (fun c2 => ?_) (fun c2 => ?_)
  · rw [if_pos c2] at h
    refine zEV.iconst (v := (-1)) dX6_putWord_28 rfl ?_
    have h := Option.some.inj h
    subst h
    exact zEV.iret rfl dX6_putWord_29
  · rw [if_neg c2] at h
    refine zEV.iload_n dX6_putWord_7 rfl 2 rfl ?_
    refine zEV.if_lt 28 dX6_putWord_8 (by decide) (fun c3 => ?_) (fun c3 => ?_)
    · rw [if_pos c3] at h
      refine zEV.iconst (v := (-1)) dX6_putWord_28 rfl ?_
      have h := Option.some.inj h
      subst h
      exact zEV.iret rfl dX6_putWord_29
    · rw [if_neg c3] at h
      refine zEV.iload_n dX6_putWord_11 rfl 2 rfl ?_
      refine zEV.aload_n dX6_putWord_12 rfl 0 rfl ?_
      refine zEV.gfr rfl inz0 8 (by decide) wf_RX6_231 (lf_lt hb0 0 (by decide)) (lf_shp hb0 0 (by decide)) rfl dX6_putWord_13 ?_
      refine zEV.iload_n dX6_putWord_16 rfl 1 rfl ?_
      obtain ⟨g4, h⟩ := ite_no h
      refine zEV.iald (lf_lt hb0 2 (by decide)) (lf_shp hb0 2 (by decide)) g4 dX6_putWord_17 ?_
      refine zEV.icmp_gt 28 dX6_putWord_18 (by decide) (fun c5 => ?_) (fun c5 => ?_)
      · rw [if_pos c5] at h
        refine zEV.iconst (v := (-1)) dX6_putWord_28 rfl ?_
        have h := Option.some.inj h
        subst h
        exact zEV.iret rfl dX6_putWord_29
      · rw [if_neg c5] at h
        refine zEV.iload_n dX6_putWord_21 rfl 3 rfl ?_
        obtain ⟨q6, hq6, h⟩ := bind_yes h
        refine zEV.callSi (kX6_isSize (a3)  q1.2 q6 hq6) wm_RX6_102 wc_X6_isSize hy_X6_isSize rfl ⟨Nat.le_of_ble_eq_true rfl, Nat.le_of_ble_eq_true rfl⟩ rfl (Nat.le_of_ble_eq_true rfl) dX6_putWord_22 ?_
        refine zEV.if_ne 30 dX6_putWord_25 (by decide) (fun c7 => ?_) (fun c7 => ?_)
        · rw [if_neg c7] at h
          refine zEV.aload_n dX6_putWord_30 rfl 0 rfl ?_
          refine zEV.gfr rfl inz0 8 (by decide) wf_RX6_231 (lf_lt hb0 0 (by decide)) (lf_shp hb0 0 (by decide)) rfl dX6_putWord_31 ?_
          refine zEV.iload_n dX6_putWord_34 rfl 1 rfl ?_
          refine zEV.iald (lf_lt hb0 2 (by decide)) (lf_shp hb0 2 (by decide)) g4 dX6_putWord_35 ?_
          refine zEV.bipush (v := 70) dX6_putWord_36 rfl ?_
          refine zEV.icmp_lt 44 dX6_putWord_38 (by decide) (fun c8 => ?_) (fun c8 => ?_)
          · rw [if_pos c8] at h
            refine zEV.aload_n dX6_putWord_44 rfl 0 rfl ?_
            refine zEV.iload_n dX6_putWord_45 rfl 1 rfl ?_
            refine zEV.iload_n dX6_putWord_46 rfl 2 rfl ?_
            refine zEV.iload_n dX6_putWord_47 rfl 3 rfl ?_
            obtain ⟨q9, hq9, h⟩ := bind_yes h
            refine zEV.callVv (kX0_put b0 (a1) (a2) (a3) hb0 q6.2 q9 hq9) (lf_lt hb0 0 (by decide)) (lf_shp hb0 0 (by decide)) rfl wm_RX6_290 wc_X0_put hy_X0_put rfl ⟨Nat.le_of_ble_eq_true rfl, Nat.le_of_ble_eq_true rfl⟩ rfl (Nat.le_of_ble_eq_true rfl) dX6_putWord_48 ?_
            refine zEV.aload_n dX6_putWord_51 rfl 0 rfl ?_
            refine zEV.gfr rfl inz0 8 (by decide) wf_RX6_231 (lf_lt hb0 0 (by decide)) (lf_shp hb0 0 (by decide)) rfl dX6_putWord_52 ?_
            refine zEV.iload_n dX6_putWord_55 rfl 1 rfl ?_
            refine zEV.iald (lf_lt hb0 2 (by decide)) (lf_shp hb0 2 (by decide)) g4 dX6_putWord_56 ?_
            have h := Option.some.inj h
            subst h
            exact zEV.iret rfl dX6_putWord_57
          · rw [if_neg c8] at h
            refine zEV.bipush (v := (-3)) dX6_putWord_41 rfl ?_
            have h := Option.some.inj h
            subst h
            exact zEV.iret rfl dX6_putWord_43
        · rw [if_pos c7] at h
          refine zEV.iconst (v := (-1)) dX6_putWord_28 rfl ?_
          have h := Option.some.inj h
          subst h
          exact zEV.iret rfl dX6_putWord_29
theorem kX6_putWord (b0 : Nat) (a1 : Int32) (a2 : Int32) (a3 : Int32) (hb0 : lf b0) (M : zMM) (q : Int32 × zMM) (h : fX6_putWord b0 a1 a2 a3 M = some q) : zCN yX6_putWord iX6_putWord [.inr (.inr b0), .inl a1, .inl a2, .inl a3] M (some (.inl q.1), q.2) :=
  zCN.of (by decide) rfl rfl (Nat.le_of_ble_eq_true rfl) (zEV.perm [0, 1, 2, 3] rfl (tX6_putWord_0 b0 a1 a2 a3 hb0 M q h))
-- RingedPage.trialCost
def fX6_trialCost (M : zMM) : Option (Int32 × zMM) :=
  (fX4_set 10 M).bind fun q1 =>
  (fX4_costOf 10 q1).bind fun q2 =>
  some (q2.1, q2.2)
set_option maxRecDepth 100000 in
theorem tX6_trialCost_0 (M : zMM) (q : Int32 × zMM) (h : fX6_trialCost  M = some q) : zEV iX6_trialCost 0 0 (zZO (some (.inl q.1), q.2)) 0 [(0, .inr (.inr 157))] [] M := by
  unfold fX6_trialCost at h
  refine zEV.aload_n dX6_trialCost_0 rfl 0 rfl ?_
  refine zEV.gfr rfl inz6 2 (by decide) wf_RX6_22 (by decide) rfl rfl dX6_trialCost_1 ?_
  refine zEV.aload_n dX6_trialCost_4 rfl 0 rfl ?_
  refine zEV.gfr rfl inz6 1 (by decide) wf_RX6_16 (by decide) rfl rfl dX6_trialCost_5 ?_
  obtain ⟨q1, hq1, h⟩ := bind_yes h
  refine zEV.callVv (kX4_set 10 lf_10 M q1 hq1) (by decide) rfl rfl wm_RX6_113 wc_X4_set hy_X4_set rfl ⟨Nat.le_of_ble_eq_true rfl, Nat.le_of_ble_eq_true rfl⟩ rfl (Nat.le_of_ble_eq_true rfl) dX6_trialCost_8 ?_
  refine zEV.aload_n dX6_trialCost_11 rfl 0 rfl ?_
  refine zEV.gfr rfl inz6 2 (by decide) wf_RX6_22 (by decide) rfl rfl dX6_trialCost_12 ?_
  refine zEV.aload_n dX6_trialCost_15 rfl 0 rfl ?_
  refine zEV.gfr rfl inz6 1 (by decide) wf_RX6_16 (by decide) rfl rfl dX6_trialCost_16 ?_
  obtain ⟨q2, hq2, h⟩ := bind_yes h
  refine zEV.callVi (kX4_costOf 10 lf_10 q1 q2 hq2) (by decide) rfl rfl wm_RX6_199 wc_X4_costOf hy_X4_costOf rfl ⟨Nat.le_of_ble_eq_true rfl, Nat.le_of_ble_eq_true rfl⟩ rfl (Nat.le_of_ble_eq_true rfl) dX6_trialCost_19 ?_
  have h := Option.some.inj h
  subst h
  exact zEV.iret rfl dX6_trialCost_22
theorem kX6_trialCost (M : zMM) (q : Int32 × zMM) (h : fX6_trialCost M = some q) : zCN yX6_trialCost iX6_trialCost [.inr (.inr 157)] M (some (.inl q.1), q.2) :=
  zCN.of (by decide) rfl rfl (Nat.le_of_ble_eq_true rfl) (zEV.perm [0] rfl (tX6_trialCost_0 M q h))
-- RingedPage.more
def fX6_more (a1 : Int32) (a2 : Int32) (a3 : Int32) (M : zMM) : Option (Int32 × zMM) :=
  (fX0_copy 10 0 M).bind fun q1 =>
  (fX6_putWord 10 (a1) (a2) (a3) q1).bind fun q2 =>
  if (0 : Int32) ≤ q2.1 then
    (fX6_trialCost  q2.2).bind fun q4 =>
    some (q4.1, q4.2)
  else
    some (q2.1, q2.2)
set_option maxRecDepth 100000 in
theorem tX6_more_0 (a1 : Int32) (a2 : Int32) (a3 : Int32) (M : zMM) (q : Int32 × zMM) (h : fX6_more a1 a2 a3  M = some q) : zEV iX6_more 0 0 (zZO (some (.inl q.1), q.2)) 0 [(0, .inr (.inr 157)), (1, .inl a1), (2, .inl a2), (3, .inl a3)] [] M := by
  unfold fX6_more at h
  refine zEV.aload_n dX6_more_0 rfl 0 rfl ?_
  refine zEV.gfr rfl inz6 1 (by decide) wf_RX6_16 (by decide) rfl rfl dX6_more_1 ?_
  refine zEV.aload_n dX6_more_4 rfl 0 rfl ?_
  refine zEV.gfr rfl inz6 0 (by decide) wf_RX6_12 (by decide) rfl rfl dX6_more_5 ?_
  obtain ⟨q1, hq1, h⟩ := bind_yes h
  refine zEV.callVv (kX0_copy 10 0 lf_10 lf_0 M q1 hq1) (by decide) rfl rfl wm_RX6_240 wc_X0_copy hy_X0_copy rfl ⟨Nat.le_of_ble_eq_true rfl, Nat.le_of_ble_eq_true rfl⟩ rfl (Nat.le_of_ble_eq_true rfl) dX6_more_8 ?_
  refine zEV.aload_n dX6_more_11 rfl 0 rfl ?_
  refine zEV.gfr rfl inz6 1 (by decide) wf_RX6_16 (by decide) rfl rfl dX6_more_12 ?_
  refine zEV.iload_n dX6_more_15 rfl 1 rfl ?_
  refine zEV.iload_n dX6_more_16 rfl 2 rfl ?_
  refine zEV.iload_n dX6_more_17 rfl 3 rfl ?_
  obtain ⟨q2, hq2, h⟩ := bind_yes h
  refine zEV.callSi (kX6_putWord 10 (a1) (a2) (a3) lf_10 q1 q2 hq2) wm_RX6_280 wc_X6_putWord hy_X6_putWord rfl ⟨Nat.le_of_ble_eq_true rfl, Nat.le_of_ble_eq_true rfl⟩ rfl (Nat.le_of_ble_eq_true rfl) dX6_more_18 ?_
  refine zEV.istore dX6_more_21 (Nat.le_of_ble_eq_true rfl) rfl ?_
  refine zEV.iload dX6_more_23 0 rfl ?_
  refine zEV.if_ge 33 dX6_more_25 (by decide) (fun c3 => ?_) (fun c3 => ?_)
  · rw [if_pos c3] at h
    refine zEV.aload_n dX6_more_33 rfl 1 rfl ?_
    obtain ⟨q4, hq4, h⟩ := bind_yes h
    refine zEV.callVi (kX6_trialCost   q2.2 q4 hq4) (by decide) rfl rfl wm_RX6_284 wc_X6_trialCost hy_X6_trialCost rfl ⟨Nat.le_of_ble_eq_true rfl, Nat.le_of_ble_eq_true rfl⟩ rfl (Nat.le_of_ble_eq_true rfl) dX6_more_34 ?_
    have h := Option.some.inj h
    subst h
    exact zEV.iret rfl dX6_more_37
  · rw [if_neg c3] at h
    refine zEV.iload dX6_more_28 0 rfl ?_
    refine zEV.goto 37 dX6_more_30 (by decide) ?_
    have h := Option.some.inj h
    subst h
    exact zEV.iret rfl dX6_more_37
theorem kX6_more (a1 : Int32) (a2 : Int32) (a3 : Int32) (M : zMM) (q : Int32 × zMM) (h : fX6_more a1 a2 a3 M = some q) : zCN yX6_more iX6_more [.inr (.inr 157), .inl a1, .inl a2, .inl a3] M (some (.inl q.1), q.2) :=
  zCN.of (by decide) rfl rfl (Nat.le_of_ble_eq_true rfl) (zEV.perm [0, 1, 2, 3] rfl (tX6_more_0 a1 a2 a3 M q h))
