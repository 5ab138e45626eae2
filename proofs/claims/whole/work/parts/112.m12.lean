-- RingedPageModel.refusesSet
def fX7_refusesSet_119 (a1 : Int32) (a2 : Int32) (s0 : Int32) (s1 : Int32) (s2 : Int32) (M : zMM) : Option (Int32 × zMM) :=
  if oob (2) 259 then none else
  if oob (3) 259 then none else
  if oob (4) 259 then none else
  (fX7_canPlan (s2) (s1) (s0) ((M.1 159 (Int32.toNatClampNeg 2))) ((M.1 159 (Int32.toNatClampNeg 3))) ((M.1 159 (Int32.toNatClampNeg 4))) M).bind fun q4 =>
  if q4.1 = (0 : Int32) then
    some ((-3), q4.2)
  else
    some (0, q4.2)
set_option maxRecDepth 4000 in
theorem tX7_refusesSet_119 (a1 : Int32) (a2 : Int32) (s0 : Int32) (s1 : Int32) (s2 : Int32) (M : zMM) (q : Int32 × zMM) (h : fX7_refusesSet_119 a1 a2 s0 s1 s2 M = some q) : zEV iX7_refusesSet 0 0 (zZO (some (.inl q.1), q.2)) 119 [(0, .inr (.inr 158))] [.inl s0, .inl s1, .inl s2] M := by
  unfold fX7_refusesSet_119 at h
  refine zEV.aload_n dX7_refusesSet_119 rfl 0 rfl ?_
  refine zEV.gfr rfl inz7 0 (by decide) wf_RX7_9 (by decide) rfl rfl dX7_refusesSet_120 ?_
  refine zEV.iconst (v := 2) dX7_refusesSet_123 rfl ?_
  obtain ⟨g1, h⟩ := ite_no h
  refine zEV.iald (by decide) rfl g1 dX7_refusesSet_124 ?_
  refine zEV.aload_n dX7_refusesSet_125 rfl 0 rfl ?_
  refine zEV.gfr rfl inz7 0 (by decide) wf_RX7_9 (by decide) rfl rfl dX7_refusesSet_126 ?_
  refine zEV.iconst (v := 3) dX7_refusesSet_129 rfl ?_
  obtain ⟨g2, h⟩ := ite_no h
  refine zEV.iald (by decide) rfl g2 dX7_refusesSet_130 ?_
  refine zEV.aload_n dX7_refusesSet_131 rfl 0 rfl ?_
  refine zEV.gfr rfl inz7 0 (by decide) wf_RX7_9 (by decide) rfl rfl dX7_refusesSet_132 ?_
  refine zEV.iconst (v := 4) dX7_refusesSet_135 rfl ?_
  obtain ⟨g3, h⟩ := ite_no h
  refine zEV.iald (by decide) rfl g3 dX7_refusesSet_136 ?_
  obtain ⟨q4, hq4, h⟩ := bind_yes h
  refine zEV.callSi (kX7_canPlan (s2) (s1) (s0) ((M.1 159 (Int32.toNatClampNeg 2))) ((M.1 159 (Int32.toNatClampNeg 3))) ((M.1 159 (Int32.toNatClampNeg 4)))  M q4 hq4) wm_RX7_223 wc_X7_canPlan hy_X7_canPlan rfl ⟨Nat.le_of_ble_eq_true rfl, Nat.le_of_ble_eq_true rfl⟩ rfl (Nat.le_of_ble_eq_true rfl) dX7_refusesSet_137 ?_
  refine zEV.if_eq 147 dX7_refusesSet_140 (by decide) (fun c5 => ?_) (fun c5 => ?_)
  · rw [if_pos c5] at h
    refine zEV.bipush (v := (-3)) dX7_refusesSet_147 rfl ?_
    cases h
    exact zEV.iret rfl dX7_refusesSet_149
  · rw [if_neg c5] at h
    refine zEV.iconst (v := 0) dX7_refusesSet_143 rfl ?_
    refine zEV.goto 149 dX7_refusesSet_144 (by decide) ?_
    cases h
    exact zEV.iret rfl dX7_refusesSet_149
def fX7_refusesSet_102 (a1 : Int32) (a2 : Int32) (s0 : Int32) (s1 : Int32) (M : zMM) : Option (Int32 × zMM) :=
  if a1 = 2 then
    fX7_refusesSet_119 a1 a2 (a2) (s0) (s1) M
  else
    if oob (255) 259 then none else
    fX7_refusesSet_119 a1 a2 ((M.1 159 (Int32.toNatClampNeg 255))) (s0) (s1) M
set_option maxRecDepth 4000 in
theorem tX7_refusesSet_102 (a1 : Int32) (a2 : Int32) (s0 : Int32) (s1 : Int32) (M : zMM) (q : Int32 × zMM) (h : fX7_refusesSet_102 a1 a2 s0 s1 M = some q) : zEV iX7_refusesSet 0 0 (zZO (some (.inl q.1), q.2)) 102 [(0, .inr (.inr 158)), (1, .inl a1), (2, .inl a2)] [.inl s0, .inl s1] M := by
  unfold fX7_refusesSet_102 at h
  refine zEV.iload_n dX7_refusesSet_102 rfl 1 rfl ?_
  refine zEV.iconst (v := 2) dX7_refusesSet_103 rfl ?_
  refine zEV.icmp_ne 111 dX7_refusesSet_104 (by decide) (fun c1 => ?_) (fun c1 => ?_)
  · rw [if_neg c1] at h
    refine zEV.aload_n dX7_refusesSet_111 rfl 0 rfl ?_
    refine zEV.gfr rfl inz7 0 (by decide) wf_RX7_9 (by decide) rfl rfl dX7_refusesSet_112 ?_
    refine zEV.sipush (v := 255) dX7_refusesSet_115 rfl ?_
    obtain ⟨g2, h⟩ := ite_no h
    refine zEV.iald (by decide) rfl g2 dX7_refusesSet_118 ?_
    exact zEV.perm [0] rfl (tX7_refusesSet_119 a1 a2 ((M.1 159 (Int32.toNatClampNeg 255))) (s0) (s1) M q h)
  · rw [if_pos c1] at h
    refine zEV.iload_n dX7_refusesSet_107 rfl 2 rfl ?_
    refine zEV.goto 119 dX7_refusesSet_108 (by decide) ?_
    exact zEV.perm [0] rfl (tX7_refusesSet_119 a1 a2 (a2) (s0) (s1) M q h)
def fX7_refusesSet_87 (a1 : Int32) (a2 : Int32) (s0 : Int32) (M : zMM) : Option (Int32 × zMM) :=
  if a1 = 1 then
    fX7_refusesSet_102 a1 a2 (a2) (s0) M
  else
    if oob (1) 259 then none else
    fX7_refusesSet_102 a1 a2 ((M.1 159 (Int32.toNatClampNeg 1))) (s0) M
set_option maxRecDepth 4000 in
theorem tX7_refusesSet_87 (a1 : Int32) (a2 : Int32) (s0 : Int32) (M : zMM) (q : Int32 × zMM) (h : fX7_refusesSet_87 a1 a2 s0 M = some q) : zEV iX7_refusesSet 0 0 (zZO (some (.inl q.1), q.2)) 87 [(0, .inr (.inr 158)), (1, .inl a1), (2, .inl a2)] [.inl s0] M := by
  unfold fX7_refusesSet_87 at h
  refine zEV.iload_n dX7_refusesSet_87 rfl 1 rfl ?_
  refine zEV.iconst (v := 1) dX7_refusesSet_88 rfl ?_
  refine zEV.icmp_ne 96 dX7_refusesSet_89 (by decide) (fun c1 => ?_) (fun c1 => ?_)
  · rw [if_neg c1] at h
    refine zEV.aload_n dX7_refusesSet_96 rfl 0 rfl ?_
    refine zEV.gfr rfl inz7 0 (by decide) wf_RX7_9 (by decide) rfl rfl dX7_refusesSet_97 ?_
    refine zEV.iconst (v := 1) dX7_refusesSet_100 rfl ?_
    obtain ⟨g2, h⟩ := ite_no h
    refine zEV.iald (by decide) rfl g2 dX7_refusesSet_101 ?_
    exact zEV.perm [0, 1, 2] rfl (tX7_refusesSet_102 a1 a2 ((M.1 159 (Int32.toNatClampNeg 1))) (s0) M q h)
  · rw [if_pos c1] at h
    refine zEV.iload_n dX7_refusesSet_92 rfl 2 rfl ?_
    refine zEV.goto 102 dX7_refusesSet_93 (by decide) ?_
    exact zEV.perm [0, 1, 2] rfl (tX7_refusesSet_102 a1 a2 (a2) (s0) M q h)
def fX7_refusesSet_49 (a1 : Int32) (a2 : Int32) (s0 : Int32) (s1 : Int32) (s2 : Int32) (M : zMM) : Option (Int32 × zMM) :=
  (fX7_in (s2) (s1) (s0) M).bind fun q1 =>
  if q1.1 = (0 : Int32) then
    some ((-1), q1.2)
  else
    (fX7_settingAt (a1) q1.2).bind fun q3 =>
    if oob (q3.1) 259 then none else
    if (q3.2.1 159 (Int32.toNatClampNeg q3.1)) = a2 then
      some ((-2), q3.2)
    else
      if a1 = (0 : Int32) then
        fX7_refusesSet_87 a1 a2 (a2) q3.2
      else
        if oob (0) 259 then none else
        fX7_refusesSet_87 a1 a2 ((q3.2.1 159 (Int32.toNatClampNeg 0))) q3.2
set_option maxRecDepth 4000 in
theorem tX7_refusesSet_49 (a1 : Int32) (a2 : Int32) (s0 : Int32) (s1 : Int32) (s2 : Int32) (M : zMM) (q : Int32 × zMM) (h : fX7_refusesSet_49 a1 a2 s0 s1 s2 M = some q) : zEV iX7_refusesSet 0 0 (zZO (some (.inl q.1), q.2)) 49 [(0, .inr (.inr 158)), (1, .inl a1), (2, .inl a2)] [.inl s0, .inl s1, .inl s2] M := by
  unfold fX7_refusesSet_49 at h
  obtain ⟨q1, hq1, h⟩ := bind_yes h
  refine zEV.callSi (kX7_in (s2) (s1) (s0)  M q1 hq1) wm_RX7_65 wc_X7_in hy_X7_in rfl ⟨Nat.le_of_ble_eq_true rfl, Nat.le_of_ble_eq_true rfl⟩ rfl (Nat.le_of_ble_eq_true rfl) dX7_refusesSet_49 ?_
  refine zEV.if_ne 57 dX7_refusesSet_52 (by decide) (fun c2 => ?_) (fun c2 => ?_)
  · rw [if_neg c2] at h
    refine zEV.aload_n dX7_refusesSet_57 rfl 0 rfl ?_
    refine zEV.gfr rfl inz7 0 (by decide) wf_RX7_9 (by decide) rfl rfl dX7_refusesSet_58 ?_
    refine zEV.iload_n dX7_refusesSet_61 rfl 1 rfl ?_
    obtain ⟨q3, hq3, h⟩ := bind_yes h
    refine zEV.callSi (kX7_settingAt (a1)  q1.2 q3 hq3) wm_RX7_285 wc_X7_settingAt hy_X7_settingAt rfl ⟨Nat.le_of_ble_eq_true rfl, Nat.le_of_ble_eq_true rfl⟩ rfl (Nat.le_of_ble_eq_true rfl) dX7_refusesSet_62 ?_
    obtain ⟨g4, h⟩ := ite_no h
    refine zEV.iald (by decide) rfl g4 dX7_refusesSet_65 ?_
    refine zEV.iload_n dX7_refusesSet_66 rfl 2 rfl ?_
    refine zEV.icmp_ne 73 dX7_refusesSet_67 (by decide) (fun c5 => ?_) (fun c5 => ?_)
    · rw [if_neg c5] at h
      refine zEV.iload_n dX7_refusesSet_73 rfl 1 rfl ?_
      refine zEV.if_ne 81 dX7_refusesSet_74 (by decide) (fun c6 => ?_) (fun c6 => ?_)
      · rw [if_neg c6] at h
        refine zEV.aload_n dX7_refusesSet_81 rfl 0 rfl ?_
        refine zEV.gfr rfl inz7 0 (by decide) wf_RX7_9 (by decide) rfl rfl dX7_refusesSet_82 ?_
        refine zEV.iconst (v := 0) dX7_refusesSet_85 rfl ?_
        obtain ⟨g7, h⟩ := ite_no h
        refine zEV.iald (by decide) rfl g7 dX7_refusesSet_86 ?_
        exact zEV.perm [0, 1, 2] rfl (tX7_refusesSet_87 a1 a2 ((q3.2.1 159 (Int32.toNatClampNeg 0))) q3.2 q h)
      · rw [if_pos c6] at h
        refine zEV.iload_n dX7_refusesSet_77 rfl 2 rfl ?_
        refine zEV.goto 87 dX7_refusesSet_78 (by decide) ?_
        exact zEV.perm [0, 1, 2] rfl (tX7_refusesSet_87 a1 a2 (a2) q3.2 q h)
    · rw [if_pos c5] at h
      refine zEV.bipush (v := (-2)) dX7_refusesSet_70 rfl ?_
      cases h
      exact zEV.iret rfl dX7_refusesSet_72
  · rw [if_pos c2] at h
    refine zEV.iconst (v := (-1)) dX7_refusesSet_55 rfl ?_
    cases h
    exact zEV.iret rfl dX7_refusesSet_56
def fX7_refusesSet_29 (a1 : Int32) (a2 : Int32) (s0 : Int32) (s1 : Int32) (M : zMM) : Option (Int32 × zMM) :=
  if a1 = (0 : Int32) then
    fX7_refusesSet_49 a1 a2 (60) (s0) (s1) M
  else
    if a1 = 1 then
      fX7_refusesSet_49 a1 a2 (40) (s0) (s1) M
    else
      fX7_refusesSet_49 a1 a2 (4) (s0) (s1) M
set_option maxRecDepth 4000 in
theorem tX7_refusesSet_29 (a1 : Int32) (a2 : Int32) (s0 : Int32) (s1 : Int32) (M : zMM) (q : Int32 × zMM) (h : fX7_refusesSet_29 a1 a2 s0 s1 M = some q) : zEV iX7_refusesSet 0 0 (zZO (some (.inl q.1), q.2)) 29 [(0, .inr (.inr 158)), (1, .inl a1), (2, .inl a2)] [.inl s0, .inl s1] M := by
  unfold fX7_refusesSet_29 at h
  refine zEV.iload_n dX7_refusesSet_29 rfl 1 rfl ?_
  refine zEV.if_ne 38 dX7_refusesSet_30 (by decide) (fun c1 => ?_) (fun c1 => ?_)
  · rw [if_neg c1] at h
    refine zEV.iload_n dX7_refusesSet_38 rfl 1 rfl ?_
    refine zEV.iconst (v := 1) dX7_refusesSet_39 rfl ?_
    refine zEV.icmp_ne 48 dX7_refusesSet_40 (by decide) (fun c2 => ?_) (fun c2 => ?_)
    · rw [if_neg c2] at h
      refine zEV.iconst (v := 4) dX7_refusesSet_48 rfl ?_
      exact zEV.perm [0, 1, 2] rfl (tX7_refusesSet_49 a1 a2 (4) (s0) (s1) M q h)
    · rw [if_pos c2] at h
      refine zEV.bipush (v := 40) dX7_refusesSet_43 rfl ?_
      refine zEV.goto 49 dX7_refusesSet_45 (by decide) ?_
      exact zEV.perm [0, 1, 2] rfl (tX7_refusesSet_49 a1 a2 (40) (s0) (s1) M q h)
  · rw [if_pos c1] at h
    refine zEV.bipush (v := 60) dX7_refusesSet_33 rfl ?_
    refine zEV.goto 49 dX7_refusesSet_35 (by decide) ?_
    exact zEV.perm [0, 1, 2] rfl (tX7_refusesSet_49 a1 a2 (60) (s0) (s1) M q h)
def fX7_refusesSet (a1 : Int32) (a2 : Int32) (M : zMM) : Option (Int32 × zMM) :=
  (fX7_in (a1) (0) (2) M).bind fun q1 =>
  if q1.1 = (0 : Int32) then
    some ((-1), q1.2)
  else
    if a1 = (0 : Int32) then
      fX7_refusesSet_29 a1 a2 (29) (a2) q1.2
    else
      if a1 = 1 then
        fX7_refusesSet_29 a1 a2 (3) (a2) q1.2
      else
        fX7_refusesSet_29 a1 a2 (1) (a2) q1.2
set_option maxRecDepth 4000 in
theorem tX7_refusesSet_0 (a1 : Int32) (a2 : Int32) (M : zMM) (q : Int32 × zMM) (h : fX7_refusesSet a1 a2  M = some q) : zEV iX7_refusesSet 0 0 (zZO (some (.inl q.1), q.2)) 0 [(0, .inr (.inr 158)), (1, .inl a1), (2, .inl a2)] [] M := by
  unfold fX7_refusesSet at h
  refine zEV.iload_n dX7_refusesSet_0 rfl 1 rfl ?_
  refine zEV.iconst (v := 0) dX7_refusesSet_1 rfl ?_
  refine zEV.iconst (v := 2) dX7_refusesSet_2 rfl ?_
  obtain ⟨q1, hq1, h⟩ := bind_yes h
  refine zEV.callSi (kX7_in (a1) (0) (2)  M q1 hq1) wm_RX7_65 wc_X7_in hy_X7_in rfl ⟨Nat.le_of_ble_eq_true rfl, Nat.le_of_ble_eq_true rfl⟩ rfl (Nat.le_of_ble_eq_true rfl) dX7_refusesSet_3 ?_
  refine zEV.if_eq 55 dX7_refusesSet_6 (by decide) (fun c2 => ?_) (fun c2 => ?_)
  · rw [if_pos c2] at h
    refine zEV.iconst (v := (-1)) dX7_refusesSet_55 rfl ?_
    cases h
    exact zEV.iret rfl dX7_refusesSet_56
  · rw [if_neg c2] at h
    refine zEV.iload_n dX7_refusesSet_9 rfl 2 rfl ?_
    refine zEV.iload_n dX7_refusesSet_10 rfl 1 rfl ?_
    refine zEV.if_ne 19 dX7_refusesSet_11 (by decide) (fun c3 => ?_) (fun c3 => ?_)
    · rw [if_neg c3] at h
      refine zEV.iload_n dX7_refusesSet_19 rfl 1 rfl ?_
      refine zEV.iconst (v := 1) dX7_refusesSet_20 rfl ?_
      refine zEV.icmp_ne 28 dX7_refusesSet_21 (by decide) (fun c4 => ?_) (fun c4 => ?_)
      · rw [if_neg c4] at h
        refine zEV.iconst (v := 1) dX7_refusesSet_28 rfl ?_
        exact zEV.perm [0, 1, 2] rfl (tX7_refusesSet_29 a1 a2 (1) (a2) q1.2 q h)
      · rw [if_pos c4] at h
        refine zEV.iconst (v := 3) dX7_refusesSet_24 rfl ?_
        refine zEV.goto 29 dX7_refusesSet_25 (by decide) ?_
        exact zEV.perm [0, 1, 2] rfl (tX7_refusesSet_29 a1 a2 (3) (a2) q1.2 q h)
    · rw [if_pos c3] at h
      refine zEV.bipush (v := 29) dX7_refusesSet_14 rfl ?_
      refine zEV.goto 29 dX7_refusesSet_16 (by decide) ?_
      exact zEV.perm [0, 1, 2] rfl (tX7_refusesSet_29 a1 a2 (29) (a2) q1.2 q h)
theorem kX7_refusesSet (a1 : Int32) (a2 : Int32) (M : zMM) (q : Int32 × zMM) (h : fX7_refusesSet a1 a2 M = some q) : zCN yX7_refusesSet iX7_refusesSet [.inr (.inr 158), .inl a1, .inl a2] M (some (.inl q.1), q.2) :=
  zCN.of (by decide) rfl rfl (Nat.le_of_ble_eq_true rfl) (zEV.perm [0, 1, 2] rfl (tX7_refusesSet_0 a1 a2 M q h))
-- RingedPageModel.sets
def fX7_sets (a1 : Int32) (a2 : Int32) (M : zMM) : Option (Int32 × zMM) :=
  (fX7_refusesSet (a1) (a2) (wr M 158 5 0)).bind fun q1 =>
  if (0 : Int32) ≤ q1.1 then
    (fX7_change  q1.2).bind fun q3 =>
    (fX7_settingAt (a1) q3).bind fun q4 =>
    if oob (q4.1) 259 then none else
    (fX7_settingAt (a1) q4.2).bind fun q6 =>
    if oob (q6.1) 259 then none else
    some ((q4.2.1 159 (Int32.toNatClampNeg q4.1)), (wr q6.2 159 (Int32.toNatClampNeg q6.1) a2))
  else
    some (q1.1, q1.2)
set_option maxRecDepth 4000 in
theorem tX7_sets_0 (a1 : Int32) (a2 : Int32) (M : zMM) (q : Int32 × zMM) (h : fX7_sets a1 a2  M = some q) : zEV iX7_sets 0 0 (zZO (some (.inl q.1), q.2)) 0 [(0, .inr (.inr 158)), (1, .inl a1), (2, .inl a2)] [] M := by
  unfold fX7_sets at h
  refine zEV.aload_n dX7_sets_0 rfl 0 rfl ?_
  refine zEV.iconst (v := 0) dX7_sets_1 rfl ?_
  refine zEV.pfi rfl inz7 tyX7 tyX7_ok nmX7 5 (by decide) wf_RX7_58 rfl (by decide +kernel) (by decide) rfl rfl dX7_sets_2 ?_
  refine zEV.aload_n dX7_sets_5 rfl 0 rfl ?_
  refine zEV.iload_n dX7_sets_6 rfl 1 rfl ?_
  refine zEV.iload_n dX7_sets_7 rfl 2 rfl ?_
  obtain ⟨q1, hq1, h⟩ := bind_yes h
  refine zEV.callVi (kX7_refusesSet (a1) (a2)  (wr M 158 5 0) q1 hq1) (by decide) rfl rfl wm_RX7_288 wc_X7_refusesSet hy_X7_refusesSet rfl ⟨Nat.le_of_ble_eq_true rfl, Nat.le_of_ble_eq_true rfl⟩ rfl (Nat.le_of_ble_eq_true rfl) dX7_sets_8 ?_
  refine zEV.istore_n dX7_sets_11 rfl (Nat.le_of_ble_eq_true rfl) rfl ?_
  refine zEV.iload_n dX7_sets_12 rfl 0 rfl ?_
  refine zEV.if_ge 18 dX7_sets_13 (by decide) (fun c2 => ?_) (fun c2 => ?_)
  · rw [if_pos c2] at h
    refine zEV.aload_n dX7_sets_18 rfl 1 rfl ?_
    obtain ⟨q3, hq3, h⟩ := bind_yes h
    refine zEV.callVv (kX7_change   q1.2 q3 hq3) (by decide) rfl rfl wm_RX7_107 wc_X7_change hy_X7_change rfl ⟨Nat.le_of_ble_eq_true rfl, Nat.le_of_ble_eq_true rfl⟩ rfl (Nat.le_of_ble_eq_true rfl) dX7_sets_19 ?_
    refine zEV.aload_n dX7_sets_22 rfl 1 rfl ?_
    refine zEV.gfr rfl inz7 0 (by decide) wf_RX7_9 (by decide) rfl rfl dX7_sets_23 ?_
    refine zEV.iload_n dX7_sets_26 rfl 2 rfl ?_
    obtain ⟨q4, hq4, h⟩ := bind_yes h
    refine zEV.callSi (kX7_settingAt (a1)  q3 q4 hq4) wm_RX7_285 wc_X7_settingAt hy_X7_settingAt rfl ⟨Nat.le_of_ble_eq_true rfl, Nat.le_of_ble_eq_true rfl⟩ rfl (Nat.le_of_ble_eq_true rfl) dX7_sets_27 ?_
    obtain ⟨g5, h⟩ := ite_no h
    refine zEV.iald (by decide) rfl g5 dX7_sets_30 ?_
    refine zEV.istore dX7_sets_31 (Nat.le_of_ble_eq_true rfl) rfl ?_
    refine zEV.aload_n dX7_sets_33 rfl 2 rfl ?_
    refine zEV.gfr rfl inz7 0 (by decide) wf_RX7_9 (by decide) rfl rfl dX7_sets_34 ?_
    refine zEV.iload_n dX7_sets_37 rfl 3 rfl ?_
    obtain ⟨q6, hq6, h⟩ := bind_yes h
    refine zEV.callSi (kX7_settingAt (a1)  q4.2 q6 hq6) wm_RX7_285 wc_X7_settingAt hy_X7_settingAt rfl ⟨Nat.le_of_ble_eq_true rfl, Nat.le_of_ble_eq_true rfl⟩ rfl (Nat.le_of_ble_eq_true rfl) dX7_sets_38 ?_
    refine zEV.iload_n dX7_sets_41 rfl 4 rfl ?_
    obtain ⟨g7, h⟩ := ite_no h
    refine zEV.iast (by decide) rfl g7 dX7_sets_42 ?_
    refine zEV.iload dX7_sets_43 0 rfl ?_
    cases h
    exact zEV.iret rfl dX7_sets_45
  · rw [if_neg c2] at h
    refine zEV.iload_n dX7_sets_16 rfl 0 rfl ?_
    cases h
    exact zEV.iret rfl dX7_sets_17
theorem kX7_sets (a1 : Int32) (a2 : Int32) (M : zMM) (q : Int32 × zMM) (h : fX7_sets a1 a2 M = some q) : zCN yX7_sets iX7_sets [.inr (.inr 158), .inl a1, .inl a2] M (some (.inl q.1), q.2) :=
  zCN.of (by decide) rfl rfl (Nat.le_of_ble_eq_true rfl) (zEV.perm [0, 1, 2] rfl (tX7_sets_0 a1 a2 M q h))
-- RingedPageModel.refusesPlan
def fX7_refusesPlan (a1 : Int32) (a2 : Int32) (a3 : Int32) (M : zMM) : Option (Int32 × zMM) :=
  (fX7_canBe (a1) (a2) (a3) M).bind fun q1 =>
  if q1.1 = (0 : Int32) then
    some ((-1), q1.2)
  else
    if oob (2) 259 then none else
    if (q1.2.1 159 (Int32.toNatClampNeg 2)) = a1 then
      if oob (3) 259 then none else
      if (q1.2.1 159 (Int32.toNatClampNeg 3)) = a2 then
        if oob (4) 259 then none else
        if (q1.2.1 159 (Int32.toNatClampNeg 4)) = a3 then
          some ((-2), q1.2)
        else
          some (0, q1.2)
      else
        some (0, q1.2)
    else
      some (0, q1.2)
set_option maxRecDepth 4000 in
theorem tX7_refusesPlan_0 (a1 : Int32) (a2 : Int32) (a3 : Int32) (M : zMM) (q : Int32 × zMM) (h : fX7_refusesPlan a1 a2 a3  M = some q) : zEV iX7_refusesPlan 0 0 (zZO (some (.inl q.1), q.2)) 0 [(0, .inr (.inr 158)), (1, .inl a1), (2, .inl a2), (3, .inl a3)] [] M := by
  unfold fX7_refusesPlan at h
  refine zEV.aload_n dX7_refusesPlan_0 rfl 0 rfl ?_
  refine zEV.iload_n dX7_refusesPlan_1 rfl 1 rfl ?_
  refine zEV.iload_n dX7_refusesPlan_2 rfl 2 rfl ?_
  refine zEV.iload_n dX7_refusesPlan_3 rfl 3 rfl ?_
  obtain ⟨q1, hq1, h⟩ := bind_yes h
  refine zEV.callVi (kX7_canBe (a1) (a2) (a3)  M q1 hq1) (by decide) rfl rfl wm_RX7_227 wc_X7_canBe hy_X7_canBe rfl ⟨Nat.le_of_ble_eq_true rfl, Nat.le_of_ble_eq_true rfl⟩ rfl (Nat.le_of_ble_eq_true rfl) dX7_refusesPlan_4 ?_
  refine zEV.if_ne 12 dX7_refusesPlan_7 (by decide) (fun c2 => ?_) (fun c2 => ?_)
  · rw [if_neg c2] at h
    refine zEV.aload_n dX7_refusesPlan_12 rfl 0 rfl ?_
    refine zEV.gfr rfl inz7 0 (by decide) wf_RX7_9 (by decide) rfl rfl dX7_refusesPlan_13 ?_
    refine zEV.iconst (v := 2) dX7_refusesPlan_16 rfl ?_
    obtain ⟨g3, h⟩ := ite_no h
    refine zEV.iald (by decide) rfl g3 dX7_refusesPlan_17 ?_
    refine zEV.iload_n dX7_refusesPlan_18 rfl 1 rfl ?_
    refine zEV.icmp_ne 47 dX7_refusesPlan_19 (by decide) (fun c4 => ?_) (fun c4 => ?_)
    · rw [if_neg c4] at h
      refine zEV.iconst (v := 0) dX7_refusesPlan_47 rfl ?_
      cases h
      exact zEV.iret rfl dX7_refusesPlan_48
    · rw [if_pos c4] at h
      refine zEV.aload_n dX7_refusesPlan_22 rfl 0 rfl ?_
      refine zEV.gfr rfl inz7 0 (by decide) wf_RX7_9 (by decide) rfl rfl dX7_refusesPlan_23 ?_
      refine zEV.iconst (v := 3) dX7_refusesPlan_26 rfl ?_
      obtain ⟨g5, h⟩ := ite_no h
      refine zEV.iald (by decide) rfl g5 dX7_refusesPlan_27 ?_
      refine zEV.iload_n dX7_refusesPlan_28 rfl 2 rfl ?_
      refine zEV.icmp_ne 47 dX7_refusesPlan_29 (by decide) (fun c6 => ?_) (fun c6 => ?_)
      · rw [if_neg c6] at h
        refine zEV.iconst (v := 0) dX7_refusesPlan_47 rfl ?_
        cases h
        exact zEV.iret rfl dX7_refusesPlan_48
      · rw [if_pos c6] at h
        refine zEV.aload_n dX7_refusesPlan_32 rfl 0 rfl ?_
        refine zEV.gfr rfl inz7 0 (by decide) wf_RX7_9 (by decide) rfl rfl dX7_refusesPlan_33 ?_
        refine zEV.iconst (v := 4) dX7_refusesPlan_36 rfl ?_
        obtain ⟨g7, h⟩ := ite_no h
        refine zEV.iald (by decide) rfl g7 dX7_refusesPlan_37 ?_
        refine zEV.iload_n dX7_refusesPlan_38 rfl 3 rfl ?_
        refine zEV.icmp_ne 47 dX7_refusesPlan_39 (by decide) (fun c8 => ?_) (fun c8 => ?_)
        · rw [if_neg c8] at h
          refine zEV.iconst (v := 0) dX7_refusesPlan_47 rfl ?_
          cases h
          exact zEV.iret rfl dX7_refusesPlan_48
        · rw [if_pos c8] at h
          refine zEV.bipush (v := (-2)) dX7_refusesPlan_42 rfl ?_
          refine zEV.goto 48 dX7_refusesPlan_44 (by decide) ?_
          cases h
          exact zEV.iret rfl dX7_refusesPlan_48
  · rw [if_pos c2] at h
    refine zEV.iconst (v := (-1)) dX7_refusesPlan_10 rfl ?_
    cases h
    exact zEV.iret rfl dX7_refusesPlan_11
theorem kX7_refusesPlan (a1 : Int32) (a2 : Int32) (a3 : Int32) (M : zMM) (q : Int32 × zMM) (h : fX7_refusesPlan a1 a2 a3 M = some q) : zCN yX7_refusesPlan iX7_refusesPlan [.inr (.inr 158), .inl a1, .inl a2, .inl a3] M (some (.inl q.1), q.2) :=
  zCN.of (by decide) rfl rfl (Nat.le_of_ble_eq_true rfl) (zEV.perm [0, 1, 2, 3] rfl (tX7_refusesPlan_0 a1 a2 a3 M q h))
-- RingedPageModel.plans
def fX7_plans (a1 : Int32) (a2 : Int32) (a3 : Int32) (M : zMM) : Option (Int32 × zMM) :=
  (fX7_refusesPlan (a1) (a2) (a3) (wr M 158 5 0)).bind fun q1 =>
  if (0 : Int32) ≤ q1.1 then
    (fX7_change  q1.2).bind fun q3 =>
    if oob (2) 259 then none else
    if oob (3) 259 then none else
    if oob (4) 259 then none else
    (fX7_putPlan (a1) (a2) (a3) q3).bind fun q7 =>
    some ((((10000 * (q3.1 159 (Int32.toNatClampNeg 2))) + (100 * (q3.1 159 (Int32.toNatClampNeg 3)))) + (q3.1 159 (Int32.toNatClampNeg 4))), q7)
  else
    some (q1.1, q1.2)
set_option maxRecDepth 4000 in
theorem tX7_plans_0 (a1 : Int32) (a2 : Int32) (a3 : Int32) (M : zMM) (q : Int32 × zMM) (h : fX7_plans a1 a2 a3  M = some q) : zEV iX7_plans 0 0 (zZO (some (.inl q.1), q.2)) 0 [(0, .inr (.inr 158)), (1, .inl a1), (2, .inl a2), (3, .inl a3)] [] M := by
  unfold fX7_plans at h
  refine zEV.aload_n dX7_plans_0 rfl 0 rfl ?_
  refine zEV.iconst (v := 0) dX7_plans_1 rfl ?_
  refine zEV.pfi rfl inz7 tyX7 tyX7_ok nmX7 5 (by decide) wf_RX7_58 rfl (by decide +kernel) (by decide) rfl rfl dX7_plans_2 ?_
  refine zEV.aload_n dX7_plans_5 rfl 0 rfl ?_
  refine zEV.iload_n dX7_plans_6 rfl 1 rfl ?_
  refine zEV.iload_n dX7_plans_7 rfl 2 rfl ?_
  refine zEV.iload_n dX7_plans_8 rfl 3 rfl ?_
  obtain ⟨q1, hq1, h⟩ := bind_yes h
  refine zEV.callVi (kX7_refusesPlan (a1) (a2) (a3)  (wr M 158 5 0) q1 hq1) (by decide) rfl rfl wm_RX7_291 wc_X7_refusesPlan hy_X7_refusesPlan rfl ⟨Nat.le_of_ble_eq_true rfl, Nat.le_of_ble_eq_true rfl⟩ rfl (Nat.le_of_ble_eq_true rfl) dX7_plans_9 ?_
  refine zEV.istore dX7_plans_12 (Nat.le_of_ble_eq_true rfl) rfl ?_
  refine zEV.iload dX7_plans_14 0 rfl ?_
  refine zEV.if_ge 22 dX7_plans_16 (by decide) (fun c2 => ?_) (fun c2 => ?_)
  · rw [if_pos c2] at h
    refine zEV.aload_n dX7_plans_22 rfl 1 rfl ?_
    obtain ⟨q3, hq3, h⟩ := bind_yes h
    refine zEV.callVv (kX7_change   q1.2 q3 hq3) (by decide) rfl rfl wm_RX7_107 wc_X7_change hy_X7_change rfl ⟨Nat.le_of_ble_eq_true rfl, Nat.le_of_ble_eq_true rfl⟩ rfl (Nat.le_of_ble_eq_true rfl) dX7_plans_23 ?_
    refine zEV.sipush (v := 10000) dX7_plans_26 rfl ?_
    refine zEV.aload_n dX7_plans_29 rfl 1 rfl ?_
    refine zEV.gfr rfl inz7 0 (by decide) wf_RX7_9 (by decide) rfl rfl dX7_plans_30 ?_
    refine zEV.iconst (v := 2) dX7_plans_33 rfl ?_
    obtain ⟨g4, h⟩ := ite_no h
    refine zEV.iald (by decide) rfl g4 dX7_plans_34 ?_
    refine zEV.imul dX7_plans_35 ?_
    refine zEV.bipush (v := 100) dX7_plans_36 rfl ?_
    refine zEV.aload_n dX7_plans_38 rfl 1 rfl ?_
    refine zEV.gfr rfl inz7 0 (by decide) wf_RX7_9 (by decide) rfl rfl dX7_plans_39 ?_
    refine zEV.iconst (v := 3) dX7_plans_42 rfl ?_
    obtain ⟨g5, h⟩ := ite_no h
    refine zEV.iald (by decide) rfl g5 dX7_plans_43 ?_
    refine zEV.imul dX7_plans_44 ?_
    refine zEV.iadd dX7_plans_45 ?_
    refine zEV.aload_n dX7_plans_46 rfl 1 rfl ?_
    refine zEV.gfr rfl inz7 0 (by decide) wf_RX7_9 (by decide) rfl rfl dX7_plans_47 ?_
    refine zEV.iconst (v := 4) dX7_plans_50 rfl ?_
    obtain ⟨g6, h⟩ := ite_no h
    refine zEV.iald (by decide) rfl g6 dX7_plans_51 ?_
    refine zEV.iadd dX7_plans_52 ?_
    refine zEV.istore dX7_plans_53 (Nat.le_of_ble_eq_true rfl) rfl ?_
    refine zEV.aload_n dX7_plans_55 rfl 2 rfl ?_
    refine zEV.iload_n dX7_plans_56 rfl 3 rfl ?_
    refine zEV.iload_n dX7_plans_57 rfl 4 rfl ?_
    refine zEV.iload_n dX7_plans_58 rfl 5 rfl ?_
    obtain ⟨q7, hq7, h⟩ := bind_yes h
    refine zEV.callVv (kX7_putPlan (a1) (a2) (a3)  q3 q7 hq7) (by decide) rfl rfl wm_RX7_233 wc_X7_putPlan hy_X7_putPlan rfl ⟨Nat.le_of_ble_eq_true rfl, Nat.le_of_ble_eq_true rfl⟩ rfl (Nat.le_of_ble_eq_true rfl) dX7_plans_59 ?_
    refine zEV.iload dX7_plans_62 0 rfl ?_
    cases h
    exact zEV.iret rfl dX7_plans_64
  · rw [if_neg c2] at h
    refine zEV.iload dX7_plans_19 0 rfl ?_
    cases h
    exact zEV.iret rfl dX7_plans_21
theorem kX7_plans (a1 : Int32) (a2 : Int32) (a3 : Int32) (M : zMM) (q : Int32 × zMM) (h : fX7_plans a1 a2 a3 M = some q) : zCN yX7_plans iX7_plans [.inr (.inr 158), .inl a1, .inl a2, .inl a3] M (some (.inl q.1), q.2) :=
  zCN.of (by decide) rfl rfl (Nat.le_of_ble_eq_true rfl) (zEV.perm [0, 1, 2, 3] rfl (tX7_plans_0 a1 a2 a3 M q h))
-- RingedPageModel.refusesBest
def fX7_refusesBest (a1 : Int32) (a2 : Int32) (M : zMM) : Option (Int32 × zMM) :=
  (fX7_isGrid (a1) (a2) M).bind fun q1 =>
  if q1.1 = (0 : Int32) then
    some ((-1), q1.2)
  else
    (fX7_goGrid (a1) (a2) (0) q1.2).bind fun q3 =>
    if oob (0) 3 then none else
    if oob (1) 3 then none else
    if oob (2) 3 then none else
    (fX7_refusesPlan ((q3.1 167 (Int32.toNatClampNeg 0))) ((q3.1 167 (Int32.toNatClampNeg 1))) ((q3.1 167 (Int32.toNatClampNeg 2))) q3).bind fun q7 =>
    some (q7.1, q7.2)
set_option maxRecDepth 4000 in
theorem tX7_refusesBest_0 (a1 : Int32) (a2 : Int32) (M : zMM) (q : Int32 × zMM) (h : fX7_refusesBest a1 a2  M = some q) : zEV iX7_refusesBest 0 0 (zZO (some (.inl q.1), q.2)) 0 [(0, .inr (.inr 158)), (1, .inl a1), (2, .inl a2)] [] M := by
  unfold fX7_refusesBest at h
  refine zEV.iload_n dX7_refusesBest_0 rfl 1 rfl ?_
  refine zEV.iload_n dX7_refusesBest_1 rfl 2 rfl ?_
  obtain ⟨q1, hq1, h⟩ := bind_yes h
  refine zEV.callSi (kX7_isGrid (a1) (a2)  M q1 hq1) wm_RX7_252 wc_X7_isGrid hy_X7_isGrid rfl ⟨Nat.le_of_ble_eq_true rfl, Nat.le_of_ble_eq_true rfl⟩ rfl (Nat.le_of_ble_eq_true rfl) dX7_refusesBest_2 ?_
  refine zEV.if_ne 10 dX7_refusesBest_5 (by decide) (fun c2 => ?_) (fun c2 => ?_)
  · rw [if_neg c2] at h
    refine zEV.aload_n dX7_refusesBest_10 rfl 0 rfl ?_
    refine zEV.iload_n dX7_refusesBest_11 rfl 1 rfl ?_
    refine zEV.iload_n dX7_refusesBest_12 rfl 2 rfl ?_
    refine zEV.iconst (v := 0) dX7_refusesBest_13 rfl ?_
    obtain ⟨q3, hq3, h⟩ := bind_yes h
    refine zEV.callVv (kX7_goGrid (a1) (a2) (0)  q1.2 q3 hq3) (by decide) rfl rfl wm_RX7_255 wc_X7_goGrid hy_X7_goGrid rfl ⟨Nat.le_of_ble_eq_true rfl, Nat.le_of_ble_eq_true rfl⟩ rfl (Nat.le_of_ble_eq_true rfl) dX7_refusesBest_14 ?_
    refine zEV.aload_n dX7_refusesBest_17 rfl 0 rfl ?_
    refine zEV.aload_n dX7_refusesBest_18 rfl 0 rfl ?_
    refine zEV.gfr rfl inz7 16 (by decide) wf_RX7_36 (by decide) rfl rfl dX7_refusesBest_19 ?_
    refine zEV.iconst (v := 0) dX7_refusesBest_22 rfl ?_
    obtain ⟨g4, h⟩ := ite_no h
    refine zEV.iald (by decide) rfl g4 dX7_refusesBest_23 ?_
    refine zEV.aload_n dX7_refusesBest_24 rfl 0 rfl ?_
    refine zEV.gfr rfl inz7 16 (by decide) wf_RX7_36 (by decide) rfl rfl dX7_refusesBest_25 ?_
    refine zEV.iconst (v := 1) dX7_refusesBest_28 rfl ?_
    obtain ⟨g5, h⟩ := ite_no h
    refine zEV.iald (by decide) rfl g5 dX7_refusesBest_29 ?_
    refine zEV.aload_n dX7_refusesBest_30 rfl 0 rfl ?_
    refine zEV.gfr rfl inz7 16 (by decide) wf_RX7_36 (by decide) rfl rfl dX7_refusesBest_31 ?_
    refine zEV.iconst (v := 2) dX7_refusesBest_34 rfl ?_
    obtain ⟨g6, h⟩ := ite_no h
    refine zEV.iald (by decide) rfl g6 dX7_refusesBest_35 ?_
    obtain ⟨q7, hq7, h⟩ := bind_yes h
    refine zEV.callVi (kX7_refusesPlan ((q3.1 167 (Int32.toNatClampNeg 0))) ((q3.1 167 (Int32.toNatClampNeg 1))) ((q3.1 167 (Int32.toNatClampNeg 2)))  q3 q7 hq7) (by decide) rfl rfl wm_RX7_291 wc_X7_refusesPlan hy_X7_refusesPlan rfl ⟨Nat.le_of_ble_eq_true rfl, Nat.le_of_ble_eq_true rfl⟩ rfl (Nat.le_of_ble_eq_true rfl) dX7_refusesBest_36 ?_
    cases h
    exact zEV.iret rfl dX7_refusesBest_39
  · rw [if_pos c2] at h
    refine zEV.iconst (v := (-1)) dX7_refusesBest_8 rfl ?_
    cases h
    exact zEV.iret rfl dX7_refusesBest_9
theorem kX7_refusesBest (a1 : Int32) (a2 : Int32) (M : zMM) (q : Int32 × zMM) (h : fX7_refusesBest a1 a2 M = some q) : zCN yX7_refusesBest iX7_refusesBest [.inr (.inr 158), .inl a1, .inl a2] M (some (.inl q.1), q.2) :=
  zCN.of (by decide) rfl rfl (Nat.le_of_ble_eq_true rfl) (zEV.perm [0, 1, 2] rfl (tX7_refusesBest_0 a1 a2 M q h))
-- RingedPageModel.takesBest
def fX7_takesBest (a1 : Int32) (a2 : Int32) (M : zMM) : Option (Int32 × zMM) :=
  (fX7_refusesBest (a1) (a2) (wr M 158 5 0)).bind fun q1 =>
  if (0 : Int32) ≤ q1.1 then
    (fX7_change  q1.2).bind fun q3 =>
    if oob (0) 3 then none else
    if oob (1) 3 then none else
    if oob (2) 3 then none else
    (fX7_putPlan ((q3.1 167 (Int32.toNatClampNeg 0))) ((q3.1 167 (Int32.toNatClampNeg 1))) ((q3.1 167 (Int32.toNatClampNeg 2))) q3).bind fun q7 =>
    some ((q7.1 158 18), q7)
  else
    some (q1.1, q1.2)
set_option maxRecDepth 4000 in
theorem tX7_takesBest_0 (a1 : Int32) (a2 : Int32) (M : zMM) (q : Int32 × zMM) (h : fX7_takesBest a1 a2  M = some q) : zEV iX7_takesBest 0 0 (zZO (some (.inl q.1), q.2)) 0 [(0, .inr (.inr 158)), (1, .inl a1), (2, .inl a2)] [] M := by
  unfold fX7_takesBest at h
  refine zEV.aload_n dX7_takesBest_0 rfl 0 rfl ?_
  refine zEV.iconst (v := 0) dX7_takesBest_1 rfl ?_
  refine zEV.pfi rfl inz7 tyX7 tyX7_ok nmX7 5 (by decide) wf_RX7_58 rfl (by decide +kernel) (by decide) rfl rfl dX7_takesBest_2 ?_
  refine zEV.aload_n dX7_takesBest_5 rfl 0 rfl ?_
  refine zEV.iload_n dX7_takesBest_6 rfl 1 rfl ?_
  refine zEV.iload_n dX7_takesBest_7 rfl 2 rfl ?_
  obtain ⟨q1, hq1, h⟩ := bind_yes h
  refine zEV.callVi (kX7_refusesBest (a1) (a2)  (wr M 158 5 0) q1 hq1) (by decide) rfl rfl wm_RX7_294 wc_X7_refusesBest hy_X7_refusesBest rfl ⟨Nat.le_of_ble_eq_true rfl, Nat.le_of_ble_eq_true rfl⟩ rfl (Nat.le_of_ble_eq_true rfl) dX7_takesBest_8 ?_
  refine zEV.istore_n dX7_takesBest_11 rfl (Nat.le_of_ble_eq_true rfl) rfl ?_
  refine zEV.iload_n dX7_takesBest_12 rfl 0 rfl ?_
  refine zEV.if_ge 18 dX7_takesBest_13 (by decide) (fun c2 => ?_) (fun c2 => ?_)
  · rw [if_pos c2] at h
    refine zEV.aload_n dX7_takesBest_18 rfl 1 rfl ?_
    obtain ⟨q3, hq3, h⟩ := bind_yes h
    refine zEV.callVv (kX7_change   q1.2 q3 hq3) (by decide) rfl rfl wm_RX7_107 wc_X7_change hy_X7_change rfl ⟨Nat.le_of_ble_eq_true rfl, Nat.le_of_ble_eq_true rfl⟩ rfl (Nat.le_of_ble_eq_true rfl) dX7_takesBest_19 ?_
    refine zEV.aload_n dX7_takesBest_22 rfl 1 rfl ?_
    refine zEV.aload_n dX7_takesBest_23 rfl 1 rfl ?_
    refine zEV.gfr rfl inz7 16 (by decide) wf_RX7_36 (by decide) rfl rfl dX7_takesBest_24 ?_
    refine zEV.iconst (v := 0) dX7_takesBest_27 rfl ?_
    obtain ⟨g4, h⟩ := ite_no h
    refine zEV.iald (by decide) rfl g4 dX7_takesBest_28 ?_
    refine zEV.aload_n dX7_takesBest_29 rfl 1 rfl ?_
    refine zEV.gfr rfl inz7 16 (by decide) wf_RX7_36 (by decide) rfl rfl dX7_takesBest_30 ?_
    refine zEV.iconst (v := 1) dX7_takesBest_33 rfl ?_
    obtain ⟨g5, h⟩ := ite_no h
    refine zEV.iald (by decide) rfl g5 dX7_takesBest_34 ?_
    refine zEV.aload_n dX7_takesBest_35 rfl 1 rfl ?_
    refine zEV.gfr rfl inz7 16 (by decide) wf_RX7_36 (by decide) rfl rfl dX7_takesBest_36 ?_
    refine zEV.iconst (v := 2) dX7_takesBest_39 rfl ?_
    obtain ⟨g6, h⟩ := ite_no h
    refine zEV.iald (by decide) rfl g6 dX7_takesBest_40 ?_
    obtain ⟨q7, hq7, h⟩ := bind_yes h
    refine zEV.callVv (kX7_putPlan ((q3.1 167 (Int32.toNatClampNeg 0))) ((q3.1 167 (Int32.toNatClampNeg 1))) ((q3.1 167 (Int32.toNatClampNeg 2)))  q3 q7 hq7) (by decide) rfl rfl wm_RX7_233 wc_X7_putPlan hy_X7_putPlan rfl ⟨Nat.le_of_ble_eq_true rfl, Nat.le_of_ble_eq_true rfl⟩ rfl (Nat.le_of_ble_eq_true rfl) dX7_takesBest_41 ?_
    refine zEV.aload_n dX7_takesBest_44 rfl 1 rfl ?_
    refine zEV.gfi rfl inz7 18 (by decide) wf_RX7_243 (by decide) rfl rfl dX7_takesBest_45 ?_
    cases h
    exact zEV.iret rfl dX7_takesBest_48
  · rw [if_neg c2] at h
    refine zEV.iload_n dX7_takesBest_16 rfl 0 rfl ?_
    cases h
    exact zEV.iret rfl dX7_takesBest_17
theorem kX7_takesBest (a1 : Int32) (a2 : Int32) (M : zMM) (q : Int32 × zMM) (h : fX7_takesBest a1 a2 M = some q) : zCN yX7_takesBest iX7_takesBest [.inr (.inr 158), .inl a1, .inl a2] M (some (.inl q.1), q.2) :=
  zCN.of (by decide) rfl rfl (Nat.le_of_ble_eq_true rfl) (zEV.perm [0, 1, 2] rfl (tX7_takesBest_0 a1 a2 M q h))
-- RingedPageModel.weighs
def fX7_weighs_29 (a1 : Int32) (a2 : Int32) (s0 : Int32) (s1 : Int32) (s2 : Int32) (M : zMM) : Option (Int32 × zMM) :=
  (fX7_in (s2) (s1) (s0) M).bind fun q1 =>
  if q1.1 = (0 : Int32) then
    some ((-1), q1.2)
  else
    if oob ((256 + a1)) 259 then none else
    if (q1.2.1 159 (Int32.toNatClampNeg (256 + a1))) = a2 then
      some ((-2), q1.2)
    else
      (fX7_change  q1.2).bind fun q5 =>
      some ((q5.1 159 (Int32.toNatClampNeg (256 + a1))), (wr q5 159 (Int32.toNatClampNeg (256 + a1)) a2))
set_option maxRecDepth 4000 in
theorem tX7_weighs_29 (a1 : Int32) (a2 : Int32) (s0 : Int32) (s1 : Int32) (s2 : Int32) (M : zMM) (q : Int32 × zMM) (h : fX7_weighs_29 a1 a2 s0 s1 s2 M = some q) : zEV iX7_weighs 0 0 (zZO (some (.inl q.1), q.2)) 29 [(0, .inr (.inr 158)), (1, .inl a1), (2, .inl a2)] [.inl s0, .inl s1, .inl s2] M := by
  unfold fX7_weighs_29 at h
  obtain ⟨q1, hq1, h⟩ := bind_yes h
  refine zEV.callSi (kX7_in (s2) (s1) (s0)  M q1 hq1) wm_RX7_65 wc_X7_in hy_X7_in rfl ⟨Nat.le_of_ble_eq_true rfl, Nat.le_of_ble_eq_true rfl⟩ rfl (Nat.le_of_ble_eq_true rfl) dX7_weighs_29 ?_
  refine zEV.if_ne 37 dX7_weighs_32 (by decide) (fun c2 => ?_) (fun c2 => ?_)
  · rw [if_neg c2] at h
    refine zEV.aload_n dX7_weighs_37 rfl 0 rfl ?_
    refine zEV.gfr rfl inz7 0 (by decide) wf_RX7_9 (by decide) rfl rfl dX7_weighs_38 ?_
    refine zEV.sipush (v := 256) dX7_weighs_41 rfl ?_
    refine zEV.iload_n dX7_weighs_44 rfl 1 rfl ?_
    refine zEV.iadd dX7_weighs_45 ?_
    obtain ⟨g3, h⟩ := ite_no h
    refine zEV.iald (by decide) rfl g3 dX7_weighs_46 ?_
    refine zEV.iload_n dX7_weighs_47 rfl 2 rfl ?_
    refine zEV.icmp_ne 54 dX7_weighs_48 (by decide) (fun c4 => ?_) (fun c4 => ?_)
    · rw [if_neg c4] at h
      refine zEV.aload_n dX7_weighs_54 rfl 0 rfl ?_
      obtain ⟨q5, hq5, h⟩ := bind_yes h
      refine zEV.callVv (kX7_change   q1.2 q5 hq5) (by decide) rfl rfl wm_RX7_107 wc_X7_change hy_X7_change rfl ⟨Nat.le_of_ble_eq_true rfl, Nat.le_of_ble_eq_true rfl⟩ rfl (Nat.le_of_ble_eq_true rfl) dX7_weighs_55 ?_
      refine zEV.aload_n dX7_weighs_58 rfl 0 rfl ?_
      refine zEV.gfr rfl inz7 0 (by decide) wf_RX7_9 (by decide) rfl rfl dX7_weighs_59 ?_
      refine zEV.sipush (v := 256) dX7_weighs_62 rfl ?_
      refine zEV.iload_n dX7_weighs_65 rfl 1 rfl ?_
      refine zEV.iadd dX7_weighs_66 ?_
      refine zEV.iald (by decide) rfl g3 dX7_weighs_67 ?_
      refine zEV.istore_n dX7_weighs_68 rfl (Nat.le_of_ble_eq_true rfl) rfl ?_
      refine zEV.aload_n dX7_weighs_69 rfl 1 rfl ?_
      refine zEV.gfr rfl inz7 0 (by decide) wf_RX7_9 (by decide) rfl rfl dX7_weighs_70 ?_
      refine zEV.sipush (v := 256) dX7_weighs_73 rfl ?_
      refine zEV.iload_n dX7_weighs_76 rfl 2 rfl ?_
      refine zEV.iadd dX7_weighs_77 ?_
      refine zEV.iload_n dX7_weighs_78 rfl 3 rfl ?_
      refine zEV.iast (by decide) rfl g3 dX7_weighs_79 ?_
      refine zEV.iload_n dX7_weighs_80 rfl 0 rfl ?_
      cases h
      exact zEV.iret rfl dX7_weighs_81
    · rw [if_pos c4] at h
      refine zEV.bipush (v := (-2)) dX7_weighs_51 rfl ?_
      cases h
      exact zEV.iret rfl dX7_weighs_53
  · rw [if_pos c2] at h
    refine zEV.iconst (v := (-1)) dX7_weighs_35 rfl ?_
    cases h
    exact zEV.iret rfl dX7_weighs_36
def fX7_weighs (a1 : Int32) (a2 : Int32) (M : zMM) : Option (Int32 × zMM) :=
  (fX7_in (a1) (0) (2) (wr M 158 5 0)).bind fun q1 =>
  if q1.1 = (0 : Int32) then
    some ((-1), q1.2)
  else
    if a1 = 2 then
      fX7_weighs_29 a1 a2 (100) (0) (a2) q1.2
    else
      fX7_weighs_29 a1 a2 (10000) (0) (a2) q1.2
set_option maxRecDepth 4000 in
theorem tX7_weighs_0 (a1 : Int32) (a2 : Int32) (M : zMM) (q : Int32 × zMM) (h : fX7_weighs a1 a2  M = some q) : zEV iX7_weighs 0 0 (zZO (some (.inl q.1), q.2)) 0 [(0, .inr (.inr 158)), (1, .inl a1), (2, .inl a2)] [] M := by
  unfold fX7_weighs at h
  refine zEV.aload_n dX7_weighs_0 rfl 0 rfl ?_
  refine zEV.iconst (v := 0) dX7_weighs_1 rfl ?_
  refine zEV.pfi rfl inz7 tyX7 tyX7_ok nmX7 5 (by decide) wf_RX7_58 rfl (by decide +kernel) (by decide) rfl rfl dX7_weighs_2 ?_
  refine zEV.iload_n dX7_weighs_5 rfl 1 rfl ?_
  refine zEV.iconst (v := 0) dX7_weighs_6 rfl ?_
  refine zEV.iconst (v := 2) dX7_weighs_7 rfl ?_
  obtain ⟨q1, hq1, h⟩ := bind_yes h
  refine zEV.callSi (kX7_in (a1) (0) (2)  (wr M 158 5 0) q1 hq1) wm_RX7_65 wc_X7_in hy_X7_in rfl ⟨Nat.le_of_ble_eq_true rfl, Nat.le_of_ble_eq_true rfl⟩ rfl (Nat.le_of_ble_eq_true rfl) dX7_weighs_8 ?_
  refine zEV.if_eq 35 dX7_weighs_11 (by decide) (fun c2 => ?_) (fun c2 => ?_)
  · rw [if_pos c2] at h
    refine zEV.iconst (v := (-1)) dX7_weighs_35 rfl ?_
    cases h
    exact zEV.iret rfl dX7_weighs_36
  · rw [if_neg c2] at h
    refine zEV.iload_n dX7_weighs_14 rfl 2 rfl ?_
    refine zEV.iconst (v := 0) dX7_weighs_15 rfl ?_
    refine zEV.iload_n dX7_weighs_16 rfl 1 rfl ?_
    refine zEV.iconst (v := 2) dX7_weighs_17 rfl ?_
    refine zEV.icmp_ne 26 dX7_weighs_18 (by decide) (fun c3 => ?_) (fun c3 => ?_)
    · rw [if_neg c3] at h
      refine zEV.sipush (v := 10000) dX7_weighs_26 rfl ?_
      exact zEV.perm [0, 1, 2] rfl (tX7_weighs_29 a1 a2 (10000) (0) (a2) q1.2 q h)
    · rw [if_pos c3] at h
      refine zEV.bipush (v := 100) dX7_weighs_21 rfl ?_
      refine zEV.goto 29 dX7_weighs_23 (by decide) ?_
      exact zEV.perm [0, 1, 2] rfl (tX7_weighs_29 a1 a2 (100) (0) (a2) q1.2 q h)
theorem kX7_weighs (a1 : Int32) (a2 : Int32) (M : zMM) (q : Int32 × zMM) (h : fX7_weighs a1 a2 M = some q) : zCN yX7_weighs iX7_weighs [.inr (.inr 158), .inl a1, .inl a2] M (some (.inl q.1), q.2) :=
  zCN.of (by decide) rfl rfl (Nat.le_of_ble_eq_true rfl) (zEV.perm [0, 1, 2] rfl (tX7_weighs_0 a1 a2 M q h))
-- RingedPageModel.goSwap
def fX7_goSwap_95 : Nat → Int32 → zMM → Option (Int32 × zMM)
  | 0, _, _ => none
  | n + 1, l1, M =>
  if oob (218) 259 then none else
  if (M.1 159 (Int32.toNatClampNeg 218)) ≤ l1 then
    some (1, M)
  else
    (fX7_tied (l1) (0) M).bind fun q3 =>
    if oob ((219 + (3 * l1))) 259 then none else
    fX7_goSwap_95 n ((l1 + 1)) (wr q3.2 159 (Int32.toNatClampNeg (219 + (3 * l1))) (3 - q3.1))
set_option maxRecDepth 4000 in
theorem tX7_goSwap_95 : ∀ (n : Nat) (l1 : Int32) (M : zMM) (q : Int32 × zMM), fX7_goSwap_95 n l1 M = some q → zEV iX7_goSwap 0 0 (zZO (some (.inl q.1), q.2)) 95 [(0, .inr (.inr 158)), (1, .inl l1)] [] M := by
  intro n
  induction n with
  | zero =>
    intro l1 M q h
    rw [fX7_goSwap_95] at h
    cases h
  | succ n ih =>
    intro l1 M q h
    rw [fX7_goSwap_95] at h
    refine zEV.iload_n dX7_goSwap_95 rfl 1 rfl ?_
    refine zEV.aload_n dX7_goSwap_96 rfl 0 rfl ?_
    refine zEV.gfr rfl inz7 0 (by decide) wf_RX7_9 (by decide) rfl rfl dX7_goSwap_97 ?_
    refine zEV.sipush (v := 218) dX7_goSwap_100 rfl ?_
    obtain ⟨g1, h⟩ := ite_no h
    refine zEV.iald (by decide) rfl g1 dX7_goSwap_103 ?_
    refine zEV.icmp_ge 133 dX7_goSwap_104 (by decide) (fun c2 => ?_) (fun c2 => ?_)
    · rw [if_pos c2] at h
      refine zEV.iconst (v := 1) dX7_goSwap_133 rfl ?_
      cases h
      exact zEV.zret rfl (Or.inr rfl) dX7_goSwap_134
    · rw [if_neg c2] at h
      refine zEV.aload_n dX7_goSwap_107 rfl 0 rfl ?_
      refine zEV.gfr rfl inz7 0 (by decide) wf_RX7_9 (by decide) rfl rfl dX7_goSwap_108 ?_
      refine zEV.sipush (v := 219) dX7_goSwap_111 rfl ?_
      refine zEV.iconst (v := 3) dX7_goSwap_114 rfl ?_
      refine zEV.iload_n dX7_goSwap_115 rfl 1 rfl ?_
      refine zEV.imul dX7_goSwap_116 ?_
      refine zEV.iadd dX7_goSwap_117 ?_
      refine zEV.iconst (v := 3) dX7_goSwap_118 rfl ?_
      refine zEV.aload_n dX7_goSwap_119 rfl 0 rfl ?_
      refine zEV.iload_n dX7_goSwap_120 rfl 1 rfl ?_
      refine zEV.iconst (v := 0) dX7_goSwap_121 rfl ?_
      obtain ⟨q3, hq3, h⟩ := bind_yes h
      refine zEV.callVi (kX7_tied (l1) (0)  M q3 hq3) (by decide) rfl rfl wm_RX7_110 wc_X7_tied hy_X7_tied rfl ⟨Nat.le_of_ble_eq_true rfl, Nat.le_of_ble_eq_true rfl⟩ rfl (Nat.le_of_ble_eq_true rfl) dX7_goSwap_122 ?_
      refine zEV.isub dX7_goSwap_125 ?_
      obtain ⟨g4, h⟩ := ite_no h
      refine zEV.iast (by decide) rfl g4 dX7_goSwap_126 ?_
      refine zEV.iinc (v := (l1 + 1)) dX7_goSwap_127 1 rfl rfl (Nat.le_of_ble_eq_true rfl) rfl ?_
      refine zEV.goto 95 dX7_goSwap_130 (by decide) ?_
      exact zEV.perm [1, 0] rfl (ih ((l1 + 1)) (wr q3.2 159 (Int32.toNatClampNeg (219 + (3 * l1))) (3 - q3.1)) q h)
def fX7_goSwap_58 (K24 : Int32 → zMM → Option (Int32 × zMM)) (l1 : Int32) (l2 : Int32) (s0 : Int32) (M : zMM) : Option (Int32 × zMM) :=
  if oob (l2) 259 then none else
  if oob (s0) 259 then none else
  K24 ((l1 + 1)) (wr (wr M 159 (Int32.toNatClampNeg l2) (M.1 159 (Int32.toNatClampNeg s0))) 159 (Int32.toNatClampNeg s0) (M.1 159 (Int32.toNatClampNeg l2)))
set_option maxRecDepth 4000 in
theorem tX7_goSwap_58 (K24 : Int32 → zMM → Option (Int32 × zMM)) (hK24 : ∀ (l1 : Int32) (M : zMM) (q : Int32 × zMM), K24 l1 M = some q → zEV iX7_goSwap 0 0 (zZO (some (.inl q.1), q.2)) 24 [(0, .inr (.inr 158)), (1, .inl l1)] [] M) (l1 : Int32) (l2 : Int32) (s0 : Int32) (M : zMM) (q : Int32 × zMM) (h : fX7_goSwap_58 K24 l1 l2 s0 M = some q) : zEV iX7_goSwap 0 0 (zZO (some (.inl q.1), q.2)) 58 [(0, .inr (.inr 158)), (1, .inl l1), (2, .inl l2)] [.inl s0] M := by
  unfold fX7_goSwap_58 at h
  refine zEV.istore_n dX7_goSwap_58 rfl (Nat.le_of_ble_eq_true rfl) rfl ?_
  refine zEV.aload_n dX7_goSwap_59 rfl 1 rfl ?_
  refine zEV.gfr rfl inz7 0 (by decide) wf_RX7_9 (by decide) rfl rfl dX7_goSwap_60 ?_
  refine zEV.iload_n dX7_goSwap_63 rfl 3 rfl ?_
  obtain ⟨g1, h⟩ := ite_no h
  refine zEV.iald (by decide) rfl g1 dX7_goSwap_64 ?_
  refine zEV.istore dX7_goSwap_65 (Nat.le_of_ble_eq_true rfl) rfl ?_
  refine zEV.aload_n dX7_goSwap_67 rfl 2 rfl ?_
  refine zEV.gfr rfl inz7 0 (by decide) wf_RX7_9 (by decide) rfl rfl dX7_goSwap_68 ?_
  refine zEV.iload_n dX7_goSwap_71 rfl 4 rfl ?_
  refine zEV.aload_n dX7_goSwap_72 rfl 2 rfl ?_
  refine zEV.gfr rfl inz7 0 (by decide) wf_RX7_9 (by decide) rfl rfl dX7_goSwap_73 ?_
  refine zEV.iload_n dX7_goSwap_76 rfl 1 rfl ?_
  obtain ⟨g2, h⟩ := ite_no h
  refine zEV.iald (by decide) rfl g2 dX7_goSwap_77 ?_
  refine zEV.iast (by decide) rfl g1 dX7_goSwap_78 ?_
  refine zEV.aload_n dX7_goSwap_79 rfl 2 rfl ?_
  refine zEV.gfr rfl inz7 0 (by decide) wf_RX7_9 (by decide) rfl rfl dX7_goSwap_80 ?_
  refine zEV.iload_n dX7_goSwap_83 rfl 1 rfl ?_
  refine zEV.iload dX7_goSwap_84 0 rfl ?_
  refine zEV.iast (by decide) rfl g2 dX7_goSwap_86 ?_
  refine zEV.iinc (v := (l1 + 1)) dX7_goSwap_87 3 rfl rfl (Nat.le_of_ble_eq_true rfl) rfl ?_
  refine zEV.goto 24 dX7_goSwap_90 (by decide) ?_
  exact zEV.perm [3, 0] rfl (hK24 ((l1 + 1)) (wr (wr M 159 (Int32.toNatClampNeg l2) (M.1 159 (Int32.toNatClampNeg s0))) 159 (Int32.toNatClampNeg s0) (M.1 159 (Int32.toNatClampNeg l2))) q h)
def fX7_goSwap_43 (K24 : Int32 → zMM → Option (Int32 × zMM)) (l1 : Int32) (s0 : Int32) (M : zMM) : Option (Int32 × zMM) :=
  if (0 : Int32) ≤ l1 then
    fX7_goSwap_58 K24 (l1) (s0) ((148 + l1)) M
  else
    fX7_goSwap_58 K24 (l1) (s0) (7) M
set_option maxRecDepth 4000 in
theorem tX7_goSwap_43 (K24 : Int32 → zMM → Option (Int32 × zMM)) (hK24 : ∀ (l1 : Int32) (M : zMM) (q : Int32 × zMM), K24 l1 M = some q → zEV iX7_goSwap 0 0 (zZO (some (.inl q.1), q.2)) 24 [(0, .inr (.inr 158)), (1, .inl l1)] [] M) (l1 : Int32) (s0 : Int32) (M : zMM) (q : Int32 × zMM) (h : fX7_goSwap_43 K24 l1 s0 M = some q) : zEV iX7_goSwap 0 0 (zZO (some (.inl q.1), q.2)) 43 [(0, .inr (.inr 158)), (1, .inl l1)] [.inl s0] M := by
  unfold fX7_goSwap_43 at h
  refine zEV.istore_n dX7_goSwap_43 rfl (Nat.le_of_ble_eq_true rfl) rfl ?_
  refine zEV.iload_n dX7_goSwap_44 rfl 2 rfl ?_
  refine zEV.if_ge 53 dX7_goSwap_45 (by decide) (fun c1 => ?_) (fun c1 => ?_)
  · rw [if_pos c1] at h
    refine zEV.sipush (v := 148) dX7_goSwap_53 rfl ?_
    refine zEV.iload_n dX7_goSwap_56 rfl 2 rfl ?_
    refine zEV.iadd dX7_goSwap_57 ?_
    exact zEV.perm [1, 2, 0] rfl (tX7_goSwap_58 K24 hK24 (l1) (s0) ((148 + l1)) M q h)
  · rw [if_neg c1] at h
    refine zEV.bipush (v := 7) dX7_goSwap_48 rfl ?_
    refine zEV.goto 58 dX7_goSwap_50 (by decide) ?_
    exact zEV.perm [1, 2, 0] rfl (tX7_goSwap_58 K24 hK24 (l1) (s0) (7) M q h)
def fX7_goSwap_24 : Nat → Int32 → zMM → Option (Int32 × zMM)
  | 0, _, _ => none
  | n + 1, l1, M =>
  if (70 : Int32) ≤ l1 then
    fX7_goSwap_95 zFU (0) M
  else
    if (0 : Int32) ≤ l1 then
      fX7_goSwap_43 (fX7_goSwap_24 n) (l1) ((78 + l1)) M
    else
      fX7_goSwap_43 (fX7_goSwap_24 n) (l1) (6) M
set_option maxRecDepth 4000 in
theorem tX7_goSwap_24 : ∀ (n : Nat) (l1 : Int32) (M : zMM) (q : Int32 × zMM), fX7_goSwap_24 n l1 M = some q → zEV iX7_goSwap 0 0 (zZO (some (.inl q.1), q.2)) 24 [(0, .inr (.inr 158)), (1, .inl l1)] [] M := by
  intro n
  induction n with
  | zero =>
    intro l1 M q h
    rw [fX7_goSwap_24] at h
    cases h
  | succ n ih =>
    intro l1 M q h
    rw [fX7_goSwap_24] at h
    refine zEV.iload_n dX7_goSwap_24 rfl 1 rfl ?_
    refine zEV.bipush (v := 70) dX7_goSwap_25 rfl ?_
    refine zEV.icmp_ge 93 dX7_goSwap_27 (by decide) (fun c1 => ?_) (fun c1 => ?_)
    · rw [if_pos c1] at h
      refine zEV.iconst (v := 0) dX7_goSwap_93 rfl ?_
      refine zEV.istore_n dX7_goSwap_94 rfl (Nat.le_of_ble_eq_true rfl) rfl ?_
      exact zEV.perm [1, 0] rfl (tX7_goSwap_95 zFU (0) M q h)
    · rw [if_neg c1] at h
      refine zEV.iload_n dX7_goSwap_30 rfl 1 rfl ?_
      refine zEV.if_ge 39 dX7_goSwap_31 (by decide) (fun c2 => ?_) (fun c2 => ?_)
      · rw [if_pos c2] at h
        refine zEV.bipush (v := 78) dX7_goSwap_39 rfl ?_
        refine zEV.iload_n dX7_goSwap_41 rfl 1 rfl ?_
        refine zEV.iadd dX7_goSwap_42 ?_
        exact zEV.perm [0, 1] rfl (tX7_goSwap_43 (fX7_goSwap_24 n) (fun l1 M9 q9 h9 => ih l1 M9 q9 h9) (l1) ((78 + l1)) M q h)
      · rw [if_neg c2] at h
        refine zEV.bipush (v := 6) dX7_goSwap_34 rfl ?_
        refine zEV.goto 43 dX7_goSwap_36 (by decide) ?_
        exact zEV.perm [0, 1] rfl (tX7_goSwap_43 (fX7_goSwap_24 n) (fun l1 M9 q9 h9 => ih l1 M9 q9 h9) (l1) (6) M q h)
def fX7_goSwap_22 (M : zMM) : Option (Int32 × zMM) :=
  fX7_goSwap_24 zFU ((-1)) M
set_option maxRecDepth 4000 in
theorem tX7_goSwap_22 (M : zMM) (q : Int32 × zMM) (h : fX7_goSwap_22  M = some q) : zEV iX7_goSwap 0 0 (zZO (some (.inl q.1), q.2)) 22 [(0, .inr (.inr 158))] [] M := by
  unfold fX7_goSwap_22 at h
  refine zEV.iconst (v := (-1)) dX7_goSwap_22 rfl ?_
  refine zEV.istore_n dX7_goSwap_23 rfl (Nat.le_of_ble_eq_true rfl) rfl ?_
  exact zEV.perm [1, 0] rfl (tX7_goSwap_24 zFU ((-1)) M q h)
def fX7_goSwap (M : zMM) : Option (Int32 × zMM) :=
  if oob (6) 259 then none else
  if (M.1 159 (Int32.toNatClampNeg 6)) = (0 : Int32) then
    if oob (7) 259 then none else
    if (M.1 159 (Int32.toNatClampNeg 7)) = (0 : Int32) then
      some (0, M)
    else
      fX7_goSwap_22 M
  else
    fX7_goSwap_22 M
set_option maxRecDepth 4000 in
theorem tX7_goSwap_0 (M : zMM) (q : Int32 × zMM) (h : fX7_goSwap  M = some q) : zEV iX7_goSwap 0 0 (zZO (some (.inl q.1), q.2)) 0 [(0, .inr (.inr 158))] [] M := by
  unfold fX7_goSwap at h
  refine zEV.aload_n dX7_goSwap_0 rfl 0 rfl ?_
  refine zEV.gfr rfl inz7 0 (by decide) wf_RX7_9 (by decide) rfl rfl dX7_goSwap_1 ?_
  refine zEV.bipush (v := 6) dX7_goSwap_4 rfl ?_
  obtain ⟨g1, h⟩ := ite_no h
  refine zEV.iald (by decide) rfl g1 dX7_goSwap_6 ?_
  refine zEV.if_ne 22 dX7_goSwap_7 (by decide) (fun c2 => ?_) (fun c2 => ?_)
  · rw [if_neg c2] at h
    exact zEV.perm [0] rfl (tX7_goSwap_22 M q h)
  · rw [if_pos c2] at h
    refine zEV.aload_n dX7_goSwap_10 rfl 0 rfl ?_
    refine zEV.gfr rfl inz7 0 (by decide) wf_RX7_9 (by decide) rfl rfl dX7_goSwap_11 ?_
    refine zEV.bipush (v := 7) dX7_goSwap_14 rfl ?_
    obtain ⟨g3, h⟩ := ite_no h
    refine zEV.iald (by decide) rfl g3 dX7_goSwap_16 ?_
    refine zEV.if_ne 22 dX7_goSwap_17 (by decide) (fun c4 => ?_) (fun c4 => ?_)
    · rw [if_neg c4] at h
      exact zEV.perm [0] rfl (tX7_goSwap_22 M q h)
    · rw [if_pos c4] at h
      refine zEV.iconst (v := 0) dX7_goSwap_20 rfl ?_
      cases h
      exact zEV.zret rfl (Or.inl rfl) dX7_goSwap_21
theorem kX7_goSwap (M : zMM) (q : Int32 × zMM) (h : fX7_goSwap M = some q) : zCN yX7_goSwap iX7_goSwap [.inr (.inr 158)] M (some (.inl q.1), q.2) :=
  zCN.of (by decide) rfl rfl (Nat.le_of_ble_eq_true rfl) (zEV.perm [0] rfl (tX7_goSwap_0 M q h))
-- RingedPageModel.swaps
def fX7_swaps (M : zMM) : Option (Int32 × zMM) :=
  (fX7_lay  (wr M 158 5 0)).bind fun q1 =>
  (fX7_goSwap  q1).bind fun q2 =>
  if q2.1 = (0 : Int32) then
    some ((-2), q2.2)
  else
    (fX7_note  q2.2).bind fun q4 =>
    if oob (6) 259 then none else
    some ((q4.1 159 (Int32.toNatClampNeg 6)), q4)
set_option maxRecDepth 4000 in
theorem tX7_swaps_0 (M : zMM) (q : Int32 × zMM) (h : fX7_swaps  M = some q) : zEV iX7_swaps 0 0 (zZO (some (.inl q.1), q.2)) 0 [(0, .inr (.inr 158))] [] M := by
  unfold fX7_swaps at h
  refine zEV.aload_n dX7_swaps_0 rfl 0 rfl ?_
  refine zEV.iconst (v := 0) dX7_swaps_1 rfl ?_
  refine zEV.pfi rfl inz7 tyX7 tyX7_ok nmX7 5 (by decide) wf_RX7_58 rfl (by decide +kernel) (by decide) rfl rfl dX7_swaps_2 ?_
  refine zEV.aload_n dX7_swaps_5 rfl 0 rfl ?_
  obtain ⟨q1, hq1, h⟩ := bind_yes h
  refine zEV.callVv (kX7_lay   (wr M 158 5 0) q1 hq1) (by decide) rfl rfl wm_RX7_279 wc_X7_lay hy_X7_lay rfl ⟨Nat.le_of_ble_eq_true rfl, Nat.le_of_ble_eq_true rfl⟩ rfl (Nat.le_of_ble_eq_true rfl) dX7_swaps_6 ?_
  refine zEV.aload_n dX7_swaps_9 rfl 0 rfl ?_
  obtain ⟨q2, hq2, h⟩ := bind_yes h
  refine zEV.callVi (kX7_goSwap   q1 q2 hq2) (by decide) rfl rfl wm_RX7_297 wc_X7_goSwap hy_X7_goSwap rfl ⟨Nat.le_of_ble_eq_true rfl, Nat.le_of_ble_eq_true rfl⟩ rfl (Nat.le_of_ble_eq_true rfl) dX7_swaps_10 ?_
  refine zEV.if_ne 19 dX7_swaps_13 (by decide) (fun c3 => ?_) (fun c3 => ?_)
  · rw [if_neg c3] at h
    refine zEV.aload_n dX7_swaps_19 rfl 0 rfl ?_
    obtain ⟨q4, hq4, h⟩ := bind_yes h
    refine zEV.callVv (kX7_note   q2.2 q4 hq4) (by decide) rfl rfl wm_RX7_282 wc_X7_note hy_X7_note rfl ⟨Nat.le_of_ble_eq_true rfl, Nat.le_of_ble_eq_true rfl⟩ rfl (Nat.le_of_ble_eq_true rfl) dX7_swaps_20 ?_
    refine zEV.aload_n dX7_swaps_23 rfl 0 rfl ?_
    refine zEV.gfr rfl inz7 0 (by decide) wf_RX7_9 (by decide) rfl rfl dX7_swaps_24 ?_
    refine zEV.bipush (v := 6) dX7_swaps_27 rfl ?_
    obtain ⟨g5, h⟩ := ite_no h
    refine zEV.iald (by decide) rfl g5 dX7_swaps_29 ?_
    cases h
    exact zEV.iret rfl dX7_swaps_30
  · rw [if_pos c3] at h
    refine zEV.bipush (v := (-2)) dX7_swaps_16 rfl ?_
    cases h
    exact zEV.iret rfl dX7_swaps_18
theorem kX7_swaps (M : zMM) (q : Int32 × zMM) (h : fX7_swaps M = some q) : zCN yX7_swaps iX7_swaps [.inr (.inr 158)] M (some (.inl q.1), q.2) :=
  zCN.of (by decide) rfl rfl (Nat.le_of_ble_eq_true rfl) (zEV.perm [0] rfl (tX7_swaps_0 M q h))
-- RingedPageModel.comes
def fX7_comes (a1 : Int32) (a2 : Int32) (a3 : Int32) (M : zMM) : Option (Int32 × zMM) :=
  (fX7_refusesWord (a1) (a2) (a3) (wr M 158 5 0)).bind fun q1 =>
  if (0 : Int32) ≤ q1.1 then
    (fX7_change  q1.2).bind fun q3 =>
    (fX7_put (a1) (a2) (a3) q3).bind fun q4 =>
    if oob ((5 + a1)) 259 then none else
    some ((q4.1 159 (Int32.toNatClampNeg (5 + a1))), q4)
  else
    some (q1.1, q1.2)
set_option maxRecDepth 4000 in
theorem tX7_comes_0 (a1 : Int32) (a2 : Int32) (a3 : Int32) (M : zMM) (q : Int32 × zMM) (h : fX7_comes a1 a2 a3  M = some q) : zEV iX7_comes 0 0 (zZO (some (.inl q.1), q.2)) 0 [(0, .inr (.inr 158)), (1, .inl a1), (2, .inl a2), (3, .inl a3)] [] M := by
  unfold fX7_comes at h
  refine zEV.aload_n dX7_comes_0 rfl 0 rfl ?_
  refine zEV.iconst (v := 0) dX7_comes_1 rfl ?_
  refine zEV.pfi rfl inz7 tyX7 tyX7_ok nmX7 5 (by decide) wf_RX7_58 rfl (by decide +kernel) (by decide) rfl rfl dX7_comes_2 ?_
  refine zEV.aload_n dX7_comes_5 rfl 0 rfl ?_
  refine zEV.iload_n dX7_comes_6 rfl 1 rfl ?_
  refine zEV.iload_n dX7_comes_7 rfl 2 rfl ?_
  refine zEV.iload_n dX7_comes_8 rfl 3 rfl ?_
  obtain ⟨q1, hq1, h⟩ := bind_yes h
  refine zEV.callVi (kX7_refusesWord (a1) (a2) (a3)  (wr M 158 5 0) q1 hq1) (by decide) rfl rfl wm_RX7_267 wc_X7_refusesWord hy_X7_refusesWord rfl ⟨Nat.le_of_ble_eq_true rfl, Nat.le_of_ble_eq_true rfl⟩ rfl (Nat.le_of_ble_eq_true rfl) dX7_comes_9 ?_
  refine zEV.istore dX7_comes_12 (Nat.le_of_ble_eq_true rfl) rfl ?_
  refine zEV.iload dX7_comes_14 0 rfl ?_
  refine zEV.if_ge 22 dX7_comes_16 (by decide) (fun c2 => ?_) (fun c2 => ?_)
  · rw [if_pos c2] at h
    refine zEV.aload_n dX7_comes_22 rfl 1 rfl ?_
    obtain ⟨q3, hq3, h⟩ := bind_yes h
    refine zEV.callVv (kX7_change   q1.2 q3 hq3) (by decide) rfl rfl wm_RX7_107 wc_X7_change hy_X7_change rfl ⟨Nat.le_of_ble_eq_true rfl, Nat.le_of_ble_eq_true rfl⟩ rfl (Nat.le_of_ble_eq_true rfl) dX7_comes_23 ?_
    refine zEV.aload_n dX7_comes_26 rfl 1 rfl ?_
    refine zEV.iload_n dX7_comes_27 rfl 2 rfl ?_
    refine zEV.iload_n dX7_comes_28 rfl 3 rfl ?_
    refine zEV.iload_n dX7_comes_29 rfl 4 rfl ?_
    obtain ⟨q4, hq4, h⟩ := bind_yes h
    refine zEV.callVv (kX7_put (a1) (a2) (a3)  q3 q4 hq4) (by decide) rfl rfl wm_RX7_270 wc_X7_put hy_X7_put rfl ⟨Nat.le_of_ble_eq_true rfl, Nat.le_of_ble_eq_true rfl⟩ rfl (Nat.le_of_ble_eq_true rfl) dX7_comes_30 ?_
    refine zEV.aload_n dX7_comes_33 rfl 1 rfl ?_
    refine zEV.gfr rfl inz7 0 (by decide) wf_RX7_9 (by decide) rfl rfl dX7_comes_34 ?_
    refine zEV.iconst (v := 5) dX7_comes_37 rfl ?_
    refine zEV.iload_n dX7_comes_38 rfl 2 rfl ?_
    refine zEV.iadd dX7_comes_39 ?_
    obtain ⟨g5, h⟩ := ite_no h
    refine zEV.iald (by decide) rfl g5 dX7_comes_40 ?_
    cases h
    exact zEV.iret rfl dX7_comes_41
  · rw [if_neg c2] at h
    refine zEV.iload dX7_comes_19 0 rfl ?_
    cases h
    exact zEV.iret rfl dX7_comes_21
theorem kX7_comes (a1 : Int32) (a2 : Int32) (a3 : Int32) (M : zMM) (q : Int32 × zMM) (h : fX7_comes a1 a2 a3 M = some q) : zCN yX7_comes iX7_comes [.inr (.inr 158), .inl a1, .inl a2, .inl a3] M (some (.inl q.1), q.2) :=
  zCN.of (by decide) rfl rfl (Nat.le_of_ble_eq_true rfl) (zEV.perm [0, 1, 2, 3] rfl (tX7_comes_0 a1 a2 a3 M q h))
-- RingedPageModel.goes
def fX7_goes (a1 : Int32) (a2 : Int32) (M : zMM) : Option (Int32 × zMM) :=
  (fX7_isWord (a1) (a2) (wr M 158 5 0)).bind fun q1 =>
  if q1.1 = (0 : Int32) then
    some ((-1), q1.2)
  else
    (fX7_change  q1.2).bind fun q3 =>
    (fX7_drop (a1) (a2) q3).bind fun q4 =>
    if oob ((5 + a1)) 259 then none else
    some ((q4.1 159 (Int32.toNatClampNeg (5 + a1))), q4)
set_option maxRecDepth 4000 in
theorem tX7_goes_0 (a1 : Int32) (a2 : Int32) (M : zMM) (q : Int32 × zMM) (h : fX7_goes a1 a2  M = some q) : zEV iX7_goes 0 0 (zZO (some (.inl q.1), q.2)) 0 [(0, .inr (.inr 158)), (1, .inl a1), (2, .inl a2)] [] M := by
  unfold fX7_goes at h
  refine zEV.aload_n dX7_goes_0 rfl 0 rfl ?_
  refine zEV.iconst (v := 0) dX7_goes_1 rfl ?_
  refine zEV.pfi rfl inz7 tyX7 tyX7_ok nmX7 5 (by decide) wf_RX7_58 rfl (by decide +kernel) (by decide) rfl rfl dX7_goes_2 ?_
  refine zEV.aload_n dX7_goes_5 rfl 0 rfl ?_
  refine zEV.iload_n dX7_goes_6 rfl 1 rfl ?_
  refine zEV.iload_n dX7_goes_7 rfl 2 rfl ?_
  obtain ⟨q1, hq1, h⟩ := bind_yes h
  refine zEV.callVi (kX7_isWord (a1) (a2)  (wr M 158 5 0) q1 hq1) (by decide) rfl rfl wm_RX7_121 wc_X7_isWord hy_X7_isWord rfl ⟨Nat.le_of_ble_eq_true rfl, Nat.le_of_ble_eq_true rfl⟩ rfl (Nat.le_of_ble_eq_true rfl) dX7_goes_8 ?_
  refine zEV.if_ne 16 dX7_goes_11 (by decide) (fun c2 => ?_) (fun c2 => ?_)
  · rw [if_neg c2] at h
    refine zEV.aload_n dX7_goes_16 rfl 0 rfl ?_
    obtain ⟨q3, hq3, h⟩ := bind_yes h
    refine zEV.callVv (kX7_change   q1.2 q3 hq3) (by decide) rfl rfl wm_RX7_107 wc_X7_change hy_X7_change rfl ⟨Nat.le_of_ble_eq_true rfl, Nat.le_of_ble_eq_true rfl⟩ rfl (Nat.le_of_ble_eq_true rfl) dX7_goes_17 ?_
    refine zEV.aload_n dX7_goes_20 rfl 0 rfl ?_
    refine zEV.iload_n dX7_goes_21 rfl 1 rfl ?_
    refine zEV.iload_n dX7_goes_22 rfl 2 rfl ?_
    obtain ⟨q4, hq4, h⟩ := bind_yes h
    refine zEV.callVv (kX7_drop (a1) (a2)  q3 q4 hq4) (by decide) rfl rfl wm_RX7_273 wc_X7_drop hy_X7_drop rfl ⟨Nat.le_of_ble_eq_true rfl, Nat.le_of_ble_eq_true rfl⟩ rfl (Nat.le_of_ble_eq_true rfl) dX7_goes_23 ?_
    refine zEV.aload_n dX7_goes_26 rfl 0 rfl ?_
    refine zEV.gfr rfl inz7 0 (by decide) wf_RX7_9 (by decide) rfl rfl dX7_goes_27 ?_
    refine zEV.iconst (v := 5) dX7_goes_30 rfl ?_
    refine zEV.iload_n dX7_goes_31 rfl 1 rfl ?_
    refine zEV.iadd dX7_goes_32 ?_
    obtain ⟨g5, h⟩ := ite_no h
    refine zEV.iald (by decide) rfl g5 dX7_goes_33 ?_
    cases h
    exact zEV.iret rfl dX7_goes_34
  · rw [if_pos c2] at h
    refine zEV.iconst (v := (-1)) dX7_goes_14 rfl ?_
    cases h
    exact zEV.iret rfl dX7_goes_15
theorem kX7_goes (a1 : Int32) (a2 : Int32) (M : zMM) (q : Int32 × zMM) (h : fX7_goes a1 a2 M = some q) : zCN yX7_goes iX7_goes [.inr (.inr 158), .inl a1, .inl a2] M (some (.inl q.1), q.2) :=
  zCN.of (by decide) rfl rfl (Nat.le_of_ble_eq_true rfl) (zEV.perm [0, 1, 2] rfl (tX7_goes_0 a1 a2 M q h))
-- RingedPageModel.act
def fX7_act_264 (a1 : Int32) (l2 : Int32) (l3 : Int32) (M : zMM) : Option (Int32 × zMM) :=
  (fX7_refusesBest (l2) (l3) M).bind fun q1 =>
  if (0 : Int32) ≤ q1.1 then
    if oob (0) 3 then none else
    if oob (1) 3 then none else
    if oob (2) 3 then none else
    (fX7_putPlan ((q1.2.1 167 (Int32.toNatClampNeg 0))) ((q1.2.1 167 (Int32.toNatClampNeg 1))) ((q1.2.1 167 (Int32.toNatClampNeg 2))) q1.2).bind fun q6 =>
    some (1, q6)
  else
    some (0, q1.2)
set_option maxRecDepth 4000 in
theorem tX7_act_264 (a1 : Int32) (l2 : Int32) (l3 : Int32) (M : zMM) (q : Int32 × zMM) (h : fX7_act_264 a1 l2 l3 M = some q) : zEV iX7_act 0 0 (zZO (some (.inl q.1), q.2)) 264 [(0, .inr (.inr 158)), (2, .inl l2), (3, .inl l3)] [] M := by
  unfold fX7_act_264 at h
  refine zEV.aload_n dX7_act_264 rfl 0 rfl ?_
  refine zEV.iload_n dX7_act_265 rfl 1 rfl ?_
  refine zEV.iload_n dX7_act_266 rfl 2 rfl ?_
  obtain ⟨q1, hq1, h⟩ := bind_yes h
  refine zEV.callVi (kX7_refusesBest (l2) (l3)  M q1 hq1) (by decide) rfl rfl wm_RX7_294 wc_X7_refusesBest hy_X7_refusesBest rfl ⟨Nat.le_of_ble_eq_true rfl, Nat.le_of_ble_eq_true rfl⟩ rfl (Nat.le_of_ble_eq_true rfl) dX7_act_267 ?_
  refine zEV.if_ge 275 dX7_act_270 (by decide) (fun c2 => ?_) (fun c2 => ?_)
  · rw [if_pos c2] at h
    refine zEV.aload_n dX7_act_275 rfl 0 rfl ?_
    refine zEV.aload_n dX7_act_276 rfl 0 rfl ?_
    refine zEV.gfr rfl inz7 16 (by decide) wf_RX7_36 (by decide) rfl rfl dX7_act_277 ?_
    refine zEV.iconst (v := 0) dX7_act_280 rfl ?_
    obtain ⟨g3, h⟩ := ite_no h
    refine zEV.iald (by decide) rfl g3 dX7_act_281 ?_
    refine zEV.aload_n dX7_act_282 rfl 0 rfl ?_
    refine zEV.gfr rfl inz7 16 (by decide) wf_RX7_36 (by decide) rfl rfl dX7_act_283 ?_
    refine zEV.iconst (v := 1) dX7_act_286 rfl ?_
    obtain ⟨g4, h⟩ := ite_no h
    refine zEV.iald (by decide) rfl g4 dX7_act_287 ?_
    refine zEV.aload_n dX7_act_288 rfl 0 rfl ?_
    refine zEV.gfr rfl inz7 16 (by decide) wf_RX7_36 (by decide) rfl rfl dX7_act_289 ?_
    refine zEV.iconst (v := 2) dX7_act_292 rfl ?_
    obtain ⟨g5, h⟩ := ite_no h
    refine zEV.iald (by decide) rfl g5 dX7_act_293 ?_
    obtain ⟨q6, hq6, h⟩ := bind_yes h
    refine zEV.callVv (kX7_putPlan ((q1.2.1 167 (Int32.toNatClampNeg 0))) ((q1.2.1 167 (Int32.toNatClampNeg 1))) ((q1.2.1 167 (Int32.toNatClampNeg 2)))  q1.2 q6 hq6) (by decide) rfl rfl wm_RX7_233 wc_X7_putPlan hy_X7_putPlan rfl ⟨Nat.le_of_ble_eq_true rfl, Nat.le_of_ble_eq_true rfl⟩ rfl (Nat.le_of_ble_eq_true rfl) dX7_act_294 ?_
    refine zEV.iconst (v := 1) dX7_act_297 rfl ?_
    cases h
    exact zEV.zret rfl (Or.inr rfl) dX7_act_298
  · rw [if_neg c2] at h
    refine zEV.iconst (v := 0) dX7_act_273 rfl ?_
    cases h
    exact zEV.zret rfl (Or.inl rfl) dX7_act_274
def fX7_act_167 (a1 : Int32) (l2 : Int32) (s0 : Int32) (M : zMM) : Option (Int32 × zMM) :=
  (fX7_refusesSet (s0) (l2) M).bind fun q1 =>
  if (0 : Int32) ≤ q1.1 then
    (fX7_settingAt (s0) q1.2).bind fun q3 =>
    if oob (q3.1) 259 then none else
    some (1, (wr q3.2 159 (Int32.toNatClampNeg q3.1) l2))
  else
    some (0, q1.2)
set_option maxRecDepth 4000 in
theorem tX7_act_167 (a1 : Int32) (l2 : Int32) (s0 : Int32) (M : zMM) (q : Int32 × zMM) (h : fX7_act_167 a1 l2 s0 M = some q) : zEV iX7_act 0 0 (zZO (some (.inl q.1), q.2)) 167 [(0, .inr (.inr 158)), (2, .inl l2)] [.inl s0] M := by
  unfold fX7_act_167 at h
  refine zEV.istore dX7_act_167 (Nat.le_of_ble_eq_true rfl) rfl ?_
  refine zEV.aload_n dX7_act_169 rfl 1 rfl ?_
  refine zEV.iload dX7_act_170 0 rfl ?_
  refine zEV.iload_n dX7_act_172 rfl 2 rfl ?_
  obtain ⟨q1, hq1, h⟩ := bind_yes h
  refine zEV.callVi (kX7_refusesSet (s0) (l2)  M q1 hq1) (by decide) rfl rfl wm_RX7_288 wc_X7_refusesSet hy_X7_refusesSet rfl ⟨Nat.le_of_ble_eq_true rfl, Nat.le_of_ble_eq_true rfl⟩ rfl (Nat.le_of_ble_eq_true rfl) dX7_act_173 ?_
  refine zEV.if_ge 181 dX7_act_176 (by decide) (fun c2 => ?_) (fun c2 => ?_)
  · rw [if_pos c2] at h
    refine zEV.aload_n dX7_act_181 rfl 1 rfl ?_
    refine zEV.gfr rfl inz7 0 (by decide) wf_RX7_9 (by decide) rfl rfl dX7_act_182 ?_
    refine zEV.iload dX7_act_185 0 rfl ?_
    obtain ⟨q3, hq3, h⟩ := bind_yes h
    refine zEV.callSi (kX7_settingAt (s0)  q1.2 q3 hq3) wm_RX7_285 wc_X7_settingAt hy_X7_settingAt rfl ⟨Nat.le_of_ble_eq_true rfl, Nat.le_of_ble_eq_true rfl⟩ rfl (Nat.le_of_ble_eq_true rfl) dX7_act_187 ?_
    refine zEV.iload_n dX7_act_190 rfl 2 rfl ?_
    obtain ⟨g4, h⟩ := ite_no h
    refine zEV.iast (by decide) rfl g4 dX7_act_191 ?_
    refine zEV.iconst (v := 1) dX7_act_192 rfl ?_
    cases h
    exact zEV.zret rfl (Or.inr rfl) dX7_act_193
  · rw [if_neg c2] at h
    refine zEV.iconst (v := 0) dX7_act_179 rfl ?_
    cases h
    exact zEV.zret rfl (Or.inl rfl) dX7_act_180
def fX7_act_136 (a1 : Int32) (l2 : Int32) (M : zMM) : Option (Int32 × zMM) :=
  if oob (a1) 320 then none else
  if (M.1 162 (Int32.toNatClampNeg a1)) = 119 then
    fX7_act_167 a1 (l2) (0) M
  else
    if (M.1 162 (Int32.toNatClampNeg a1)) = 104 then
      fX7_act_167 a1 (l2) (1) M
    else
      fX7_act_167 a1 (l2) (2) M
set_option maxRecDepth 4000 in
theorem tX7_act_136 (a1 : Int32) (l2 : Int32) (M : zMM) (q : Int32 × zMM) (h : fX7_act_136 a1 l2 M = some q) : zEV iX7_act 0 0 (zZO (some (.inl q.1), q.2)) 136 [(0, .inr (.inr 158)), (1, .inl a1), (2, .inl l2)] [] M := by
  unfold fX7_act_136 at h
  refine zEV.aload_n dX7_act_136 rfl 0 rfl ?_
  refine zEV.gfr rfl inz7 9 (by decide) wf_RX7_21 (by decide) rfl rfl dX7_act_137 ?_
  refine zEV.iload_n dX7_act_140 rfl 1 rfl ?_
  obtain ⟨g1, h⟩ := ite_no h
  refine zEV.iald (by decide) rfl g1 dX7_act_141 ?_
  refine zEV.bipush (v := 119) dX7_act_142 rfl ?_
  refine zEV.icmp_ne 151 dX7_act_144 (by decide) (fun c2 => ?_) (fun c2 => ?_)
  · rw [if_neg c2] at h
    refine zEV.aload_n dX7_act_151 rfl 0 rfl ?_
    refine zEV.gfr rfl inz7 9 (by decide) wf_RX7_21 (by decide) rfl rfl dX7_act_152 ?_
    refine zEV.iload_n dX7_act_155 rfl 1 rfl ?_
    refine zEV.iald (by decide) rfl g1 dX7_act_156 ?_
    refine zEV.bipush (v := 104) dX7_act_157 rfl ?_
    refine zEV.icmp_ne 166 dX7_act_159 (by decide) (fun c3 => ?_) (fun c3 => ?_)
    · rw [if_neg c3] at h
      refine zEV.iconst (v := 2) dX7_act_166 rfl ?_
      exact zEV.perm [0, 2] rfl (tX7_act_167 a1 (l2) (2) M q h)
    · rw [if_pos c3] at h
      refine zEV.iconst (v := 1) dX7_act_162 rfl ?_
      refine zEV.goto 167 dX7_act_163 (by decide) ?_
      exact zEV.perm [0, 2] rfl (tX7_act_167 a1 (l2) (1) M q h)
  · rw [if_pos c2] at h
    refine zEV.iconst (v := 0) dX7_act_147 rfl ?_
    refine zEV.goto 167 dX7_act_148 (by decide) ?_
    exact zEV.perm [0, 2] rfl (tX7_act_167 a1 (l2) (0) M q h)
def fX7_act (a1 : Int32) (M : zMM) : Option (Int32 × zMM) :=
  if oob ((a1 + 1)) 320 then none else
  if oob ((a1 + 2)) 320 then none else
  if oob ((a1 + 3)) 320 then none else
  if oob (a1) 320 then none else
  if (M.1 162 (Int32.toNatClampNeg a1)) = (99 : Int32) then
    (fX7_refusesWord ((M.1 162 (Int32.toNatClampNeg (a1 + 1)))) ((M.1 162 (Int32.toNatClampNeg (a1 + 2)))) ((M.1 162 (Int32.toNatClampNeg (a1 + 3)))) M).bind fun q6 =>
    if (0 : Int32) ≤ q6.1 then
      (fX7_put ((M.1 162 (Int32.toNatClampNeg (a1 + 1)))) ((M.1 162 (Int32.toNatClampNeg (a1 + 2)))) ((M.1 162 (Int32.toNatClampNeg (a1 + 3)))) q6.2).bind fun q8 =>
      some (1, q8)
    else
      some (0, q6.2)
  else
    if (M.1 162 (Int32.toNatClampNeg a1)) = (100 : Int32) then
      fX7_act_264 a1 ((M.1 162 (Int32.toNatClampNeg (a1 + 1)))) ((M.1 162 (Int32.toNatClampNeg (a1 + 2)))) M
    else
      if (M.1 162 (Int32.toNatClampNeg a1)) = (101 : Int32) then
        fX7_act_264 a1 ((M.1 162 (Int32.toNatClampNeg (a1 + 1)))) ((M.1 162 (Int32.toNatClampNeg (a1 + 2)))) M
      else
        if (M.1 162 (Int32.toNatClampNeg a1)) = (102 : Int32) then
          fX7_act_264 a1 ((M.1 162 (Int32.toNatClampNeg (a1 + 1)))) ((M.1 162 (Int32.toNatClampNeg (a1 + 2)))) M
        else
          if (M.1 162 (Int32.toNatClampNeg a1)) = (103 : Int32) then
            (fX7_isWord ((M.1 162 (Int32.toNatClampNeg (a1 + 1)))) ((M.1 162 (Int32.toNatClampNeg (a1 + 2)))) M).bind fun q9 =>
            if q9.1 = (0 : Int32) then
              some (0, q9.2)
            else
              (fX7_drop ((M.1 162 (Int32.toNatClampNeg (a1 + 1)))) ((M.1 162 (Int32.toNatClampNeg (a1 + 2)))) q9.2).bind fun q11 =>
              some (1, q11)
          else
            if (M.1 162 (Int32.toNatClampNeg a1)) = (104 : Int32) then
              fX7_act_136 a1 ((M.1 162 (Int32.toNatClampNeg (a1 + 1)))) M
            else
              if (M.1 162 (Int32.toNatClampNeg a1)) = (105 : Int32) then
                fX7_act_264 a1 ((M.1 162 (Int32.toNatClampNeg (a1 + 1)))) ((M.1 162 (Int32.toNatClampNeg (a1 + 2)))) M
              else
                if (M.1 162 (Int32.toNatClampNeg a1)) = (106 : Int32) then
                  fX7_act_264 a1 ((M.1 162 (Int32.toNatClampNeg (a1 + 1)))) ((M.1 162 (Int32.toNatClampNeg (a1 + 2)))) M
                else
                  if (M.1 162 (Int32.toNatClampNeg a1)) = (107 : Int32) then
                    fX7_act_264 a1 ((M.1 162 (Int32.toNatClampNeg (a1 + 1)))) ((M.1 162 (Int32.toNatClampNeg (a1 + 2)))) M
                  else
                    if (M.1 162 (Int32.toNatClampNeg a1)) = (108 : Int32) then
                      fX7_act_264 a1 ((M.1 162 (Int32.toNatClampNeg (a1 + 1)))) ((M.1 162 (Int32.toNatClampNeg (a1 + 2)))) M
                    else
                      if (M.1 162 (Int32.toNatClampNeg a1)) = (109 : Int32) then
                        fX7_act_264 a1 ((M.1 162 (Int32.toNatClampNeg (a1 + 1)))) ((M.1 162 (Int32.toNatClampNeg (a1 + 2)))) M
                      else
                        if (M.1 162 (Int32.toNatClampNeg a1)) = (110 : Int32) then
                          fX7_act_264 a1 ((M.1 162 (Int32.toNatClampNeg (a1 + 1)))) ((M.1 162 (Int32.toNatClampNeg (a1 + 2)))) M
                        else
                          if (M.1 162 (Int32.toNatClampNeg a1)) = (111 : Int32) then
                            fX7_act_264 a1 ((M.1 162 (Int32.toNatClampNeg (a1 + 1)))) ((M.1 162 (Int32.toNatClampNeg (a1 + 2)))) M
                          else
                            if (M.1 162 (Int32.toNatClampNeg a1)) = (112 : Int32) then
                              (fX7_refusesPlan ((M.1 162 (Int32.toNatClampNeg (a1 + 1)))) ((M.1 162 (Int32.toNatClampNeg (a1 + 2)))) ((M.1 162 (Int32.toNatClampNeg (a1 + 3)))) M).bind fun q12 =>
                              if (0 : Int32) ≤ q12.1 then
                                (fX7_putPlan ((M.1 162 (Int32.toNatClampNeg (a1 + 1)))) ((M.1 162 (Int32.toNatClampNeg (a1 + 2)))) ((M.1 162 (Int32.toNatClampNeg (a1 + 3)))) q12.2).bind fun q14 =>
                                some (1, q14)
                              else
                                some (0, q12.2)
                            else
                              if (M.1 162 (Int32.toNatClampNeg a1)) = (113 : Int32) then
                                fX7_act_264 a1 ((M.1 162 (Int32.toNatClampNeg (a1 + 1)))) ((M.1 162 (Int32.toNatClampNeg (a1 + 2)))) M
                              else
                                if (M.1 162 (Int32.toNatClampNeg a1)) = (114 : Int32) then
                                  fX7_act_264 a1 ((M.1 162 (Int32.toNatClampNeg (a1 + 1)))) ((M.1 162 (Int32.toNatClampNeg (a1 + 2)))) M
                                else
                                  if (M.1 162 (Int32.toNatClampNeg a1)) = (115 : Int32) then
                                    fX7_act_264 a1 ((M.1 162 (Int32.toNatClampNeg (a1 + 1)))) ((M.1 162 (Int32.toNatClampNeg (a1 + 2)))) M
                                  else
                                    if (M.1 162 (Int32.toNatClampNeg a1)) = (116 : Int32) then
                                      fX7_act_264 a1 ((M.1 162 (Int32.toNatClampNeg (a1 + 1)))) ((M.1 162 (Int32.toNatClampNeg (a1 + 2)))) M
                                    else
                                      if (M.1 162 (Int32.toNatClampNeg a1)) = (117 : Int32) then
                                        fX7_act_136 a1 ((M.1 162 (Int32.toNatClampNeg (a1 + 1)))) M
                                      else
                                        if (M.1 162 (Int32.toNatClampNeg a1)) = (118 : Int32) then
                                          fX7_act_264 a1 ((M.1 162 (Int32.toNatClampNeg (a1 + 1)))) ((M.1 162 (Int32.toNatClampNeg (a1 + 2)))) M
                                        else
                                          if (M.1 162 (Int32.toNatClampNeg a1)) = (119 : Int32) then
                                            fX7_act_136 a1 ((M.1 162 (Int32.toNatClampNeg (a1 + 1)))) M
                                          else
                                            if (M.1 162 (Int32.toNatClampNeg a1)) = (120 : Int32) then
                                              (fX7_goSwap  M).bind fun q15 =>
                                              if q15.1 = 0 ∨ q15.1 = 1 then some (q15.1, q15.2) else none
                                            else
                                              fX7_act_264 a1 ((M.1 162 (Int32.toNatClampNeg (a1 + 1)))) ((M.1 162 (Int32.toNatClampNeg (a1 + 2)))) M
set_option maxRecDepth 4000 in
theorem tX7_act_0 (a1 : Int32) (M : zMM) (q : Int32 × zMM) (h : fX7_act a1  M = some q) : zEV iX7_act 0 0 (zZO (some (.inl q.1), q.2)) 0 [(0, .inr (.inr 158)), (1, .inl a1)] [] M := by
  unfold fX7_act at h
  refine zEV.aload_n dX7_act_0 rfl 0 rfl ?_
  refine zEV.gfr rfl inz7 9 (by decide) wf_RX7_21 (by decide) rfl rfl dX7_act_1 ?_
  refine zEV.iload_n dX7_act_4 rfl 1 rfl ?_
  refine zEV.iconst (v := 1) dX7_act_5 rfl ?_
  refine zEV.iadd dX7_act_6 ?_
  obtain ⟨g1, h⟩ := ite_no h
  refine zEV.iald (by decide) rfl g1 dX7_act_7 ?_
  refine zEV.istore_n dX7_act_8 rfl (Nat.le_of_ble_eq_true rfl) rfl ?_
  refine zEV.aload_n dX7_act_9 rfl 1 rfl ?_
  refine zEV.gfr rfl inz7 9 (by decide) wf_RX7_21 (by decide) rfl rfl dX7_act_10 ?_
  refine zEV.iload_n dX7_act_13 rfl 2 rfl ?_
  refine zEV.iconst (v := 2) dX7_act_14 rfl ?_
  refine zEV.iadd dX7_act_15 ?_
  obtain ⟨g2, h⟩ := ite_no h
  refine zEV.iald (by decide) rfl g2 dX7_act_16 ?_
  refine zEV.istore_n dX7_act_17 rfl (Nat.le_of_ble_eq_true rfl) rfl ?_
  refine zEV.aload_n dX7_act_18 rfl 2 rfl ?_
  refine zEV.gfr rfl inz7 9 (by decide) wf_RX7_21 (by decide) rfl rfl dX7_act_19 ?_
  refine zEV.iload_n dX7_act_22 rfl 3 rfl ?_
  refine zEV.iconst (v := 3) dX7_act_23 rfl ?_
  refine zEV.iadd dX7_act_24 ?_
  obtain ⟨g3, h⟩ := ite_no h
  refine zEV.iald (by decide) rfl g3 dX7_act_25 ?_
  refine zEV.istore dX7_act_26 (Nat.le_of_ble_eq_true rfl) rfl ?_
  refine zEV.aload_n dX7_act_28 rfl 3 rfl ?_
  refine zEV.gfr rfl inz7 9 (by decide) wf_RX7_21 (by decide) rfl rfl dX7_act_29 ?_
  refine zEV.iload_n dX7_act_32 rfl 4 rfl ?_
  obtain ⟨g4, h⟩ := ite_no h
  refine zEV.iald (by decide) rfl g4 dX7_act_33 ?_
  by_cases c5_0 : (M.1 162 (Int32.toNatClampNeg a1)) = (99 : Int32)
  · rw [if_pos c5_0] at h
    refine zEV.tabIn 222 dX7_act_34 (99) c5_0 (by decide) (by decide) rfl (by decide) ?_
    refine zEV.aload_n dX7_act_222 rfl 3 rfl ?_
    refine zEV.iload_n dX7_act_223 rfl 2 rfl ?_
    refine zEV.iload_n dX7_act_224 rfl 1 rfl ?_
    refine zEV.iload dX7_act_225 0 rfl ?_
    obtain ⟨q6, hq6, h⟩ := bind_yes h
    refine zEV.callVi (kX7_refusesWord ((M.1 162 (Int32.toNatClampNeg (a1 + 1)))) ((M.1 162 (Int32.toNatClampNeg (a1 + 2)))) ((M.1 162 (Int32.toNatClampNeg (a1 + 3))))  M q6 hq6) (by decide) rfl rfl wm_RX7_267 wc_X7_refusesWord hy_X7_refusesWord rfl ⟨Nat.le_of_ble_eq_true rfl, Nat.le_of_ble_eq_true rfl⟩ rfl (Nat.le_of_ble_eq_true rfl) dX7_act_227 ?_
    refine zEV.if_ge 235 dX7_act_230 (by decide) (fun c7 => ?_) (fun c7 => ?_)
    · rw [if_pos c7] at h
      refine zEV.aload_n dX7_act_235 rfl 3 rfl ?_
      refine zEV.iload_n dX7_act_236 rfl 2 rfl ?_
      refine zEV.iload_n dX7_act_237 rfl 1 rfl ?_
      refine zEV.iload dX7_act_238 0 rfl ?_
      obtain ⟨q8, hq8, h⟩ := bind_yes h
      refine zEV.callVv (kX7_put ((M.1 162 (Int32.toNatClampNeg (a1 + 1)))) ((M.1 162 (Int32.toNatClampNeg (a1 + 2)))) ((M.1 162 (Int32.toNatClampNeg (a1 + 3))))  q6.2 q8 hq8) (by decide) rfl rfl wm_RX7_270 wc_X7_put hy_X7_put rfl ⟨Nat.le_of_ble_eq_true rfl, Nat.le_of_ble_eq_true rfl⟩ rfl (Nat.le_of_ble_eq_true rfl) dX7_act_240 ?_
      refine zEV.iconst (v := 1) dX7_act_243 rfl ?_
      cases h
      exact zEV.zret rfl (Or.inr rfl) dX7_act_244
    · rw [if_neg c7] at h
      refine zEV.iconst (v := 0) dX7_act_233 rfl ?_
      cases h
      exact zEV.zret rfl (Or.inl rfl) dX7_act_234
  · rw [if_neg c5_0] at h
    by_cases c5_1 : (M.1 162 (Int32.toNatClampNeg a1)) = (100 : Int32)
    · rw [if_pos c5_1] at h
      refine zEV.tabIn 264 dX7_act_34 (100) c5_1 (by decide) (by decide) rfl (by decide) ?_
      exact zEV.perm [3, 2, 1] rfl (tX7_act_264 a1 ((M.1 162 (Int32.toNatClampNeg (a1 + 1)))) ((M.1 162 (Int32.toNatClampNeg (a1 + 2)))) M q h)
    · rw [if_neg c5_1] at h
      by_cases c5_2 : (M.1 162 (Int32.toNatClampNeg a1)) = (101 : Int32)
      · rw [if_pos c5_2] at h
        refine zEV.tabIn 264 dX7_act_34 (101) c5_2 (by decide) (by decide) rfl (by decide) ?_
        exact zEV.perm [3, 2, 1] rfl (tX7_act_264 a1 ((M.1 162 (Int32.toNatClampNeg (a1 + 1)))) ((M.1 162 (Int32.toNatClampNeg (a1 + 2)))) M q h)
      · rw [if_neg c5_2] at h
        by_cases c5_3 : (M.1 162 (Int32.toNatClampNeg a1)) = (102 : Int32)
        · rw [if_pos c5_3] at h
          refine zEV.tabIn 264 dX7_act_34 (102) c5_3 (by decide) (by decide) rfl (by decide) ?_
          exact zEV.perm [3, 2, 1] rfl (tX7_act_264 a1 ((M.1 162 (Int32.toNatClampNeg (a1 + 1)))) ((M.1 162 (Int32.toNatClampNeg (a1 + 2)))) M q h)
        · rw [if_neg c5_3] at h
          by_cases c5_4 : (M.1 162 (Int32.toNatClampNeg a1)) = (103 : Int32)
          · rw [if_pos c5_4] at h
            refine zEV.tabIn 245 dX7_act_34 (103) c5_4 (by decide) (by decide) rfl (by decide) ?_
            refine zEV.aload_n dX7_act_245 rfl 3 rfl ?_
            refine zEV.iload_n dX7_act_246 rfl 2 rfl ?_
            refine zEV.iload_n dX7_act_247 rfl 1 rfl ?_
            obtain ⟨q9, hq9, h⟩ := bind_yes h
            refine zEV.callVi (kX7_isWord ((M.1 162 (Int32.toNatClampNeg (a1 + 1)))) ((M.1 162 (Int32.toNatClampNeg (a1 + 2))))  M q9 hq9) (by decide) rfl rfl wm_RX7_121 wc_X7_isWord hy_X7_isWord rfl ⟨Nat.le_of_ble_eq_true rfl, Nat.le_of_ble_eq_true rfl⟩ rfl (Nat.le_of_ble_eq_true rfl) dX7_act_248 ?_
            refine zEV.if_ne 256 dX7_act_251 (by decide) (fun c10 => ?_) (fun c10 => ?_)
            · rw [if_neg c10] at h
              refine zEV.aload_n dX7_act_256 rfl 3 rfl ?_
              refine zEV.iload_n dX7_act_257 rfl 2 rfl ?_
              refine zEV.iload_n dX7_act_258 rfl 1 rfl ?_
              obtain ⟨q11, hq11, h⟩ := bind_yes h
              refine zEV.callVv (kX7_drop ((M.1 162 (Int32.toNatClampNeg (a1 + 1)))) ((M.1 162 (Int32.toNatClampNeg (a1 + 2))))  q9.2 q11 hq11) (by decide) rfl rfl wm_RX7_273 wc_X7_drop hy_X7_drop rfl ⟨Nat.le_of_ble_eq_true rfl, Nat.le_of_ble_eq_true rfl⟩ rfl (Nat.le_of_ble_eq_true rfl) dX7_act_259 ?_
              refine zEV.iconst (v := 1) dX7_act_262 rfl ?_
              cases h
              exact zEV.zret rfl (Or.inr rfl) dX7_act_263
            · rw [if_pos c10] at h
              refine zEV.iconst (v := 0) dX7_act_254 rfl ?_
              cases h
              exact zEV.zret rfl (Or.inl rfl) dX7_act_255
          · rw [if_neg c5_4] at h
            by_cases c5_5 : (M.1 162 (Int32.toNatClampNeg a1)) = (104 : Int32)
            · rw [if_pos c5_5] at h
              refine zEV.tabIn 136 dX7_act_34 (104) c5_5 (by decide) (by decide) rfl (by decide) ?_
              exact zEV.perm [3, 4, 2] rfl (tX7_act_136 a1 ((M.1 162 (Int32.toNatClampNeg (a1 + 1)))) M q h)
            · rw [if_neg c5_5] at h
              by_cases c5_6 : (M.1 162 (Int32.toNatClampNeg a1)) = (105 : Int32)
              · rw [if_pos c5_6] at h
                refine zEV.tabIn 264 dX7_act_34 (105) c5_6 (by decide) (by decide) rfl (by decide) ?_
                exact zEV.perm [3, 2, 1] rfl (tX7_act_264 a1 ((M.1 162 (Int32.toNatClampNeg (a1 + 1)))) ((M.1 162 (Int32.toNatClampNeg (a1 + 2)))) M q h)
              · rw [if_neg c5_6] at h
                by_cases c5_7 : (M.1 162 (Int32.toNatClampNeg a1)) = (106 : Int32)
                · rw [if_pos c5_7] at h
                  refine zEV.tabIn 264 dX7_act_34 (106) c5_7 (by decide) (by decide) rfl (by decide) ?_
                  exact zEV.perm [3, 2, 1] rfl (tX7_act_264 a1 ((M.1 162 (Int32.toNatClampNeg (a1 + 1)))) ((M.1 162 (Int32.toNatClampNeg (a1 + 2)))) M q h)
                · rw [if_neg c5_7] at h
                  by_cases c5_8 : (M.1 162 (Int32.toNatClampNeg a1)) = (107 : Int32)
                  · rw [if_pos c5_8] at h
                    refine zEV.tabIn 264 dX7_act_34 (107) c5_8 (by decide) (by decide) rfl (by decide) ?_
                    exact zEV.perm [3, 2, 1] rfl (tX7_act_264 a1 ((M.1 162 (Int32.toNatClampNeg (a1 + 1)))) ((M.1 162 (Int32.toNatClampNeg (a1 + 2)))) M q h)
                  · rw [if_neg c5_8] at h
                    by_cases c5_9 : (M.1 162 (Int32.toNatClampNeg a1)) = (108 : Int32)
                    · rw [if_pos c5_9] at h
                      refine zEV.tabIn 264 dX7_act_34 (108) c5_9 (by decide) (by decide) rfl (by decide) ?_
                      exact zEV.perm [3, 2, 1] rfl (tX7_act_264 a1 ((M.1 162 (Int32.toNatClampNeg (a1 + 1)))) ((M.1 162 (Int32.toNatClampNeg (a1 + 2)))) M q h)
                    · rw [if_neg c5_9] at h
                      by_cases c5_10 : (M.1 162 (Int32.toNatClampNeg a1)) = (109 : Int32)
                      · rw [if_pos c5_10] at h
                        refine zEV.tabIn 264 dX7_act_34 (109) c5_10 (by decide) (by decide) rfl (by decide) ?_
                        exact zEV.perm [3, 2, 1] rfl (tX7_act_264 a1 ((M.1 162 (Int32.toNatClampNeg (a1 + 1)))) ((M.1 162 (Int32.toNatClampNeg (a1 + 2)))) M q h)
                      · rw [if_neg c5_10] at h
                        by_cases c5_11 : (M.1 162 (Int32.toNatClampNeg a1)) = (110 : Int32)
                        · rw [if_pos c5_11] at h
                          refine zEV.tabIn 264 dX7_act_34 (110) c5_11 (by decide) (by decide) rfl (by decide) ?_
                          exact zEV.perm [3, 2, 1] rfl (tX7_act_264 a1 ((M.1 162 (Int32.toNatClampNeg (a1 + 1)))) ((M.1 162 (Int32.toNatClampNeg (a1 + 2)))) M q h)
                        · rw [if_neg c5_11] at h
                          by_cases c5_12 : (M.1 162 (Int32.toNatClampNeg a1)) = (111 : Int32)
                          · rw [if_pos c5_12] at h
                            refine zEV.tabIn 264 dX7_act_34 (111) c5_12 (by decide) (by decide) rfl (by decide) ?_
                            exact zEV.perm [3, 2, 1] rfl (tX7_act_264 a1 ((M.1 162 (Int32.toNatClampNeg (a1 + 1)))) ((M.1 162 (Int32.toNatClampNeg (a1 + 2)))) M q h)
                          · rw [if_neg c5_12] at h
                            by_cases c5_13 : (M.1 162 (Int32.toNatClampNeg a1)) = (112 : Int32)
                            · rw [if_pos c5_13] at h
                              refine zEV.tabIn 199 dX7_act_34 (112) c5_13 (by decide) (by decide) rfl (by decide) ?_
                              refine zEV.aload_n dX7_act_199 rfl 3 rfl ?_
                              refine zEV.iload_n dX7_act_200 rfl 2 rfl ?_
                              refine zEV.iload_n dX7_act_201 rfl 1 rfl ?_
                              refine zEV.iload dX7_act_202 0 rfl ?_
                              obtain ⟨q12, hq12, h⟩ := bind_yes h
                              refine zEV.callVi (kX7_refusesPlan ((M.1 162 (Int32.toNatClampNeg (a1 + 1)))) ((M.1 162 (Int32.toNatClampNeg (a1 + 2)))) ((M.1 162 (Int32.toNatClampNeg (a1 + 3))))  M q12 hq12) (by decide) rfl rfl wm_RX7_291 wc_X7_refusesPlan hy_X7_refusesPlan rfl ⟨Nat.le_of_ble_eq_true rfl, Nat.le_of_ble_eq_true rfl⟩ rfl (Nat.le_of_ble_eq_true rfl) dX7_act_204 ?_
                              refine zEV.if_ge 212 dX7_act_207 (by decide) (fun c13 => ?_) (fun c13 => ?_)
                              · rw [if_pos c13] at h
                                refine zEV.aload_n dX7_act_212 rfl 3 rfl ?_
                                refine zEV.iload_n dX7_act_213 rfl 2 rfl ?_
                                refine zEV.iload_n dX7_act_214 rfl 1 rfl ?_
                                refine zEV.iload dX7_act_215 0 rfl ?_
                                obtain ⟨q14, hq14, h⟩ := bind_yes h
                                refine zEV.callVv (kX7_putPlan ((M.1 162 (Int32.toNatClampNeg (a1 + 1)))) ((M.1 162 (Int32.toNatClampNeg (a1 + 2)))) ((M.1 162 (Int32.toNatClampNeg (a1 + 3))))  q12.2 q14 hq14) (by decide) rfl rfl wm_RX7_233 wc_X7_putPlan hy_X7_putPlan rfl ⟨Nat.le_of_ble_eq_true rfl, Nat.le_of_ble_eq_true rfl⟩ rfl (Nat.le_of_ble_eq_true rfl) dX7_act_217 ?_
                                refine zEV.iconst (v := 1) dX7_act_220 rfl ?_
                                cases h
                                exact zEV.zret rfl (Or.inr rfl) dX7_act_221
                              · rw [if_neg c13] at h
                                refine zEV.iconst (v := 0) dX7_act_210 rfl ?_
                                cases h
                                exact zEV.zret rfl (Or.inl rfl) dX7_act_211
                            · rw [if_neg c5_13] at h
                              by_cases c5_14 : (M.1 162 (Int32.toNatClampNeg a1)) = (113 : Int32)
                              · rw [if_pos c5_14] at h
                                refine zEV.tabIn 264 dX7_act_34 (113) c5_14 (by decide) (by decide) rfl (by decide) ?_
                                exact zEV.perm [3, 2, 1] rfl (tX7_act_264 a1 ((M.1 162 (Int32.toNatClampNeg (a1 + 1)))) ((M.1 162 (Int32.toNatClampNeg (a1 + 2)))) M q h)
                              · rw [if_neg c5_14] at h
                                by_cases c5_15 : (M.1 162 (Int32.toNatClampNeg a1)) = (114 : Int32)
                                · rw [if_pos c5_15] at h
                                  refine zEV.tabIn 264 dX7_act_34 (114) c5_15 (by decide) (by decide) rfl (by decide) ?_
                                  exact zEV.perm [3, 2, 1] rfl (tX7_act_264 a1 ((M.1 162 (Int32.toNatClampNeg (a1 + 1)))) ((M.1 162 (Int32.toNatClampNeg (a1 + 2)))) M q h)
                                · rw [if_neg c5_15] at h
                                  by_cases c5_16 : (M.1 162 (Int32.toNatClampNeg a1)) = (115 : Int32)
                                  · rw [if_pos c5_16] at h
                                    refine zEV.tabIn 264 dX7_act_34 (115) c5_16 (by decide) (by decide) rfl (by decide) ?_
                                    exact zEV.perm [3, 2, 1] rfl (tX7_act_264 a1 ((M.1 162 (Int32.toNatClampNeg (a1 + 1)))) ((M.1 162 (Int32.toNatClampNeg (a1 + 2)))) M q h)
                                  · rw [if_neg c5_16] at h
                                    by_cases c5_17 : (M.1 162 (Int32.toNatClampNeg a1)) = (116 : Int32)
                                    · rw [if_pos c5_17] at h
                                      refine zEV.tabIn 264 dX7_act_34 (116) c5_17 (by decide) (by decide) rfl (by decide) ?_
                                      exact zEV.perm [3, 2, 1] rfl (tX7_act_264 a1 ((M.1 162 (Int32.toNatClampNeg (a1 + 1)))) ((M.1 162 (Int32.toNatClampNeg (a1 + 2)))) M q h)
                                    · rw [if_neg c5_17] at h
                                      by_cases c5_18 : (M.1 162 (Int32.toNatClampNeg a1)) = (117 : Int32)
                                      · rw [if_pos c5_18] at h
                                        refine zEV.tabIn 136 dX7_act_34 (117) c5_18 (by decide) (by decide) rfl (by decide) ?_
                                        exact zEV.perm [3, 4, 2] rfl (tX7_act_136 a1 ((M.1 162 (Int32.toNatClampNeg (a1 + 1)))) M q h)
                                      · rw [if_neg c5_18] at h
                                        by_cases c5_19 : (M.1 162 (Int32.toNatClampNeg a1)) = (118 : Int32)
                                        · rw [if_pos c5_19] at h
                                          refine zEV.tabIn 264 dX7_act_34 (118) c5_19 (by decide) (by decide) rfl (by decide) ?_
                                          exact zEV.perm [3, 2, 1] rfl (tX7_act_264 a1 ((M.1 162 (Int32.toNatClampNeg (a1 + 1)))) ((M.1 162 (Int32.toNatClampNeg (a1 + 2)))) M q h)
                                        · rw [if_neg c5_19] at h
                                          by_cases c5_20 : (M.1 162 (Int32.toNatClampNeg a1)) = (119 : Int32)
                                          · rw [if_pos c5_20] at h
                                            refine zEV.tabIn 136 dX7_act_34 (119) c5_20 (by decide) (by decide) rfl (by decide) ?_
                                            exact zEV.perm [3, 4, 2] rfl (tX7_act_136 a1 ((M.1 162 (Int32.toNatClampNeg (a1 + 1)))) M q h)
                                          · rw [if_neg c5_20] at h
                                            by_cases c5_21 : (M.1 162 (Int32.toNatClampNeg a1)) = (120 : Int32)
                                            · rw [if_pos c5_21] at h
                                              refine zEV.tabIn 194 dX7_act_34 (120) c5_21 (by decide) (by decide) rfl (by decide) ?_
                                              refine zEV.aload_n dX7_act_194 rfl 3 rfl ?_
                                              obtain ⟨q15, hq15, h⟩ := bind_yes h
                                              refine zEV.callVi (kX7_goSwap   M q15 hq15) (by decide) rfl rfl wm_RX7_297 wc_X7_goSwap hy_X7_goSwap rfl ⟨Nat.le_of_ble_eq_true rfl, Nat.le_of_ble_eq_true rfl⟩ rfl (Nat.le_of_ble_eq_true rfl) dX7_act_195 ?_
                                              obtain ⟨g16, h⟩ := ite_yes h
                                              cases h
                                              exact zEV.zret rfl g16 dX7_act_198
                                            · rw [if_neg c5_21] at h
                                              refine zEV.tabOut 264 21 dX7_act_34 (by decide) (by decide) rfl (fun k hk => ?_) (by decide) ?_
                                              · match k, hk with
                                                | 0, _ => exact c5_0
                                                | 1, _ => exact c5_1
                                                | 2, _ => exact c5_2
                                                | 3, _ => exact c5_3
                                                | 4, _ => exact c5_4
                                                | 5, _ => exact c5_5
                                                | 6, _ => exact c5_6
                                                | 7, _ => exact c5_7
                                                | 8, _ => exact c5_8
                                                | 9, _ => exact c5_9
                                                | 10, _ => exact c5_10
                                                | 11, _ => exact c5_11
                                                | 12, _ => exact c5_12
                                                | 13, _ => exact c5_13
                                                | 14, _ => exact c5_14
                                                | 15, _ => exact c5_15
                                                | 16, _ => exact c5_16
                                                | 17, _ => exact c5_17
                                                | 18, _ => exact c5_18
                                                | 19, _ => exact c5_19
                                                | 20, _ => exact c5_20
                                                | 21, _ => exact c5_21
                                                | k + 22, hk => exact absurd hk (by omega)
                                              exact zEV.perm [3, 2, 1] rfl (tX7_act_264 a1 ((M.1 162 (Int32.toNatClampNeg (a1 + 1)))) ((M.1 162 (Int32.toNatClampNeg (a1 + 2)))) M q h)
theorem kX7_act (a1 : Int32) (M : zMM) (q : Int32 × zMM) (h : fX7_act a1 M = some q) : zCN yX7_act iX7_act [.inr (.inr 158), .inl a1] M (some (.inl q.1), q.2) :=
  zCN.of (by decide) rfl rfl (Nat.le_of_ble_eq_true rfl) (zEV.perm [0, 1] rfl (tX7_act_0 a1 M q h))
-- RingedPageModel.undo
def fX7_undo_26 : Nat → Int32 → zMM → Option (Int32 × zMM)
  | 0, _, _ => none
  | n + 1, l1, M =>
  if (259 : Int32) ≤ l1 then
    some ((M.1 158 24), M)
  else
    if oob (((259 * (M.1 158 24)) + l1)) 1813 then none else
    if oob (l1) 259 then none else
    fX7_undo_26 n ((l1 + 1)) (wr M 159 (Int32.toNatClampNeg l1) (M.1 170 (Int32.toNatClampNeg ((259 * (M.1 158 24)) + l1))))
set_option maxRecDepth 4000 in
theorem tX7_undo_26 : ∀ (n : Nat) (l1 : Int32) (M : zMM) (q : Int32 × zMM), fX7_undo_26 n l1 M = some q → zEV iX7_undo 0 0 (zZO (some (.inl q.1), q.2)) 26 [(0, .inr (.inr 158)), (1, .inl l1)] [] M := by
  intro n
  induction n with
  | zero =>
    intro l1 M q h
    rw [fX7_undo_26] at h
    cases h
  | succ n ih =>
    intro l1 M q h
    rw [fX7_undo_26] at h
    refine zEV.iload_n dX7_undo_26 rfl 1 rfl ?_
    refine zEV.sipush (v := 259) dX7_undo_27 rfl ?_
    refine zEV.icmp_ge 60 dX7_undo_30 (by decide) (fun c1 => ?_) (fun c1 => ?_)
    · rw [if_pos c1] at h
      refine zEV.aload_n dX7_undo_60 rfl 0 rfl ?_
      refine zEV.gfi rfl inz7 24 (by decide) wf_RX7_276 (by decide) rfl rfl dX7_undo_61 ?_
      cases h
      exact zEV.iret rfl dX7_undo_64
    · rw [if_neg c1] at h
      refine zEV.aload_n dX7_undo_33 rfl 0 rfl ?_
      refine zEV.gfr rfl inz7 0 (by decide) wf_RX7_9 (by decide) rfl rfl dX7_undo_34 ?_
      refine zEV.iload_n dX7_undo_37 rfl 1 rfl ?_
      refine zEV.aload_n dX7_undo_38 rfl 0 rfl ?_
      refine zEV.gfr rfl inz7 22 (by decide) wf_RX7_45 (by decide) rfl rfl dX7_undo_39 ?_
      refine zEV.sipush (v := 259) dX7_undo_42 rfl ?_
      refine zEV.aload_n dX7_undo_45 rfl 0 rfl ?_
      refine zEV.gfi rfl inz7 24 (by decide) wf_RX7_276 (by decide) rfl rfl dX7_undo_46 ?_
      refine zEV.imul dX7_undo_49 ?_
      refine zEV.iload_n dX7_undo_50 rfl 1 rfl ?_
      refine zEV.iadd dX7_undo_51 ?_
      obtain ⟨g2, h⟩ := ite_no h
      refine zEV.iald (by decide) rfl g2 dX7_undo_52 ?_
      obtain ⟨g3, h⟩ := ite_no h
      refine zEV.iast (by decide) rfl g3 dX7_undo_53 ?_
      refine zEV.iinc (v := (l1 + 1)) dX7_undo_54 1 rfl rfl (Nat.le_of_ble_eq_true rfl) rfl ?_
      refine zEV.goto 26 dX7_undo_57 (by decide) ?_
      exact zEV.perm [1, 0] rfl (ih ((l1 + 1)) (wr M 159 (Int32.toNatClampNeg l1) (M.1 170 (Int32.toNatClampNeg ((259 * (M.1 158 24)) + l1)))) q h)
def fX7_undo (M : zMM) : Option (Int32 × zMM) :=
  if ((wr M 158 5 0).1 158 24) = (0 : Int32) then
    some ((-1), (wr M 158 5 0))
  else
    fX7_undo_26 zFU (0) (wr (wr M 158 5 0) 158 24 (((wr M 158 5 0).1 158 24) - 1))
set_option maxRecDepth 4000 in
theorem tX7_undo_0 (M : zMM) (q : Int32 × zMM) (h : fX7_undo  M = some q) : zEV iX7_undo 0 0 (zZO (some (.inl q.1), q.2)) 0 [(0, .inr (.inr 158))] [] M := by
  unfold fX7_undo at h
  refine zEV.aload_n dX7_undo_0 rfl 0 rfl ?_
  refine zEV.iconst (v := 0) dX7_undo_1 rfl ?_
  refine zEV.pfi rfl inz7 tyX7 tyX7_ok nmX7 5 (by decide) wf_RX7_58 rfl (by decide +kernel) (by decide) rfl rfl dX7_undo_2 ?_
  refine zEV.aload_n dX7_undo_5 rfl 0 rfl ?_
  refine zEV.gfi rfl inz7 24 (by decide) wf_RX7_276 (by decide) rfl rfl dX7_undo_6 ?_
  refine zEV.if_ne 14 dX7_undo_9 (by decide) (fun c1 => ?_) (fun c1 => ?_)
  · rw [if_neg c1] at h
    refine zEV.aload_n dX7_undo_14 rfl 0 rfl ?_
    refine zEV.dup dX7_undo_15 rfl ?_
    refine zEV.gfi rfl inz7 24 (by decide) wf_RX7_276 (by decide) rfl rfl dX7_undo_16 ?_
    refine zEV.iconst (v := 1) dX7_undo_19 rfl ?_
    refine zEV.isub dX7_undo_20 ?_
    refine zEV.pfi rfl inz7 tyX7 tyX7_ok nmX7 24 (by decide) wf_RX7_276 rfl (by decide +kernel) (by decide) rfl rfl dX7_undo_21 ?_
    refine zEV.iconst (v := 0) dX7_undo_24 rfl ?_
    refine zEV.istore_n dX7_undo_25 rfl (Nat.le_of_ble_eq_true rfl) rfl ?_
    exact zEV.perm [1, 0] rfl (tX7_undo_26 zFU (0) (wr (wr M 158 5 0) 158 24 (((wr M 158 5 0).1 158 24) - 1)) q h)
  · rw [if_pos c1] at h
    refine zEV.iconst (v := (-1)) dX7_undo_12 rfl ?_
    cases h
    exact zEV.iret rfl dX7_undo_13
theorem kX7_undo (M : zMM) (q : Int32 × zMM) (h : fX7_undo M = some q) : zCN yX7_undo iX7_undo [.inr (.inr 158)] M (some (.inl q.1), q.2) :=
  zCN.of (by decide) rfl rfl (Nat.le_of_ble_eq_true rfl) (zEV.perm [0] rfl (tX7_undo_0 M q h))
-- RingedPageModel.draw
def fX7_draw (a1 : Int32) (M : zMM) : Option (Int32 × zMM) :=
  if a1 = 0 then none else
  some (((Int32.toUInt32 ((wr M 158 25 (((M.1 158 25) * (1103515245)) + 12345)).1 158 25) >>> (Int32.toUInt32 16 &&& Int32.toUInt32 31)).toInt32 - (Int32.toUInt32 ((wr M 158 25 (((M.1 158 25) * (1103515245)) + 12345)).1 158 25) >>> (Int32.toUInt32 16 &&& Int32.toUInt32 31)).toInt32 / a1 * a1), (wr M 158 25 (((M.1 158 25) * (1103515245)) + 12345)))
set_option maxRecDepth 4000 in
theorem tX7_draw_0 (a1 : Int32) (M : zMM) (q : Int32 × zMM) (h : fX7_draw a1  M = some q) : zEV iX7_draw 0 0 (zZO (some (.inl q.1), q.2)) 0 [(0, .inr (.inr 158)), (1, .inl a1)] [] M := by
  unfold fX7_draw at h
  refine zEV.aload_n dX7_draw_0 rfl 0 rfl ?_
  refine zEV.aload_n dX7_draw_1 rfl 0 rfl ?_
  refine zEV.gfi rfl inz7 25 (by decide) wf_RX7_313 (by decide) rfl rfl dX7_draw_2 ?_
  refine zEV.ldcw wk_RX7_316 dX7_draw_5 ?_
  refine zEV.imul dX7_draw_8 ?_
  refine zEV.sipush (v := 12345) dX7_draw_9 rfl ?_
  refine zEV.iadd dX7_draw_12 ?_
  refine zEV.pfi rfl inz7 tyX7 tyX7_ok nmX7 25 (by decide) wf_RX7_313 rfl (by decide +kernel) (by decide) rfl rfl dX7_draw_13 ?_
  refine zEV.aload_n dX7_draw_16 rfl 0 rfl ?_
  refine zEV.gfi rfl inz7 25 (by decide) wf_RX7_313 (by decide) rfl rfl dX7_draw_17 ?_
  refine zEV.bipush (v := 16) dX7_draw_20 rfl ?_
  refine zEV.iushr dX7_draw_22 ?_
  refine zEV.iload_n dX7_draw_23 rfl 1 rfl ?_
  obtain ⟨g1, h⟩ := ite_no h
  refine zEV.irem dX7_draw_24 g1 ?_
  cases h
  exact zEV.iret rfl dX7_draw_25
theorem kX7_draw (a1 : Int32) (M : zMM) (q : Int32 × zMM) (h : fX7_draw a1 M = some q) : zCN yX7_draw iX7_draw [.inr (.inr 158), .inl a1] M (some (.inl q.1), q.2) :=
  zCN.of (by decide) rfl rfl (Nat.le_of_ble_eq_true rfl) (zEV.perm [0, 1] rfl (tX7_draw_0 a1 M q h))
