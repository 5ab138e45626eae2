-- RingedPageModel.stepFrom
def fX7_stepFrom_178 (K31 : Int32 → Int32 → Int32 → Int32 → Int32 → Int32 → zMM → Option (Int32 × zMM)) (a1 : Int32) (l2 : Int32) (l3 : Int32) (l4 : Int32) (l5 : Int32) (l6 : Int32) (l7 : Int32) (M : zMM) : Option (Int32 × zMM) :=
  K31 (l2) (l3) (l4) (l5) (l6) ((l7 + 1)) M
set_option maxRecDepth 4000 in
theorem tX7_stepFrom_178 (K31 : Int32 → Int32 → Int32 → Int32 → Int32 → Int32 → zMM → Option (Int32 × zMM)) (a1 : Int32) (hK31 : ∀ (l2 : Int32) (l3 : Int32) (l4 : Int32) (l5 : Int32) (l6 : Int32) (l7 : Int32) (M : zMM) (q : Int32 × zMM), K31 l2 l3 l4 l5 l6 l7 M = some q → zEV iX7_stepFrom 0 0 (zZO (some (.inl q.1), q.2)) 31 [(0, .inr (.inr 158)), (2, .inl l2), (3, .inl l3), (4, .inl l4), (5, .inl l5), (6, .inl l6), (7, .inl l7)] [] M) (l2 : Int32) (l3 : Int32) (l4 : Int32) (l5 : Int32) (l6 : Int32) (l7 : Int32) (M : zMM) (q : Int32 × zMM) (h : fX7_stepFrom_178 K31 a1 l2 l3 l4 l5 l6 l7 M = some q) : zEV iX7_stepFrom 0 0 (zZO (some (.inl q.1), q.2)) 178 [(0, .inr (.inr 158)), (2, .inl l2), (3, .inl l3), (4, .inl l4), (5, .inl l5), (6, .inl l6), (7, .inl l7)] [] M := by
  unfold fX7_stepFrom_178 at h
  refine zEV.iinc (v := (l7 + 1)) dX7_stepFrom_178 6 rfl rfl (Nat.le_of_ble_eq_true rfl) rfl ?_
  refine zEV.goto 31 dX7_stepFrom_181 (by decide) ?_
  exact zEV.perm [1, 2, 3, 4, 5, 6, 0] rfl (hK31 (l2) (l3) (l4) (l5) (l6) ((l7 + 1)) M q h)
def fX7_stepFrom_105 (K31 : Int32 → Int32 → Int32 → Int32 → Int32 → Int32 → zMM → Option (Int32 × zMM)) (a1 : Int32) (l2 : Int32) (l3 : Int32) (l4 : Int32) (l5 : Int32) (l6 : Int32) (l7 : Int32) (l9 : Int32) (l10 : Int32) (s0 : Int32) (s1 : Int32) (M : zMM) : Option (Int32 × zMM) :=
  (fX7_canBe (l9) (l10) ((s1 + s0)) M).bind fun q1 =>
  if q1.1 = (0 : Int32) then
    fX7_stepFrom_178 K31 a1 (l2) (l3) (l4) (l5) (l6) (l7) q1.2
  else
    (fX7_putPlan (l9) (l10) ((s1 + s0)) q1.2).bind fun q3 =>
    (fX7_costNow  q3).bind fun q4 =>
    if q4.1 < l2 then
      if oob (0) 3 then none else
      if oob (1) 3 then none else
      if oob (2) 3 then none else
      fX7_stepFrom_178 K31 a1 (q4.1) (1) (l4) (l5) (l6) (l7) (wr (wr (wr q4.2 169 (Int32.toNatClampNeg 0) l9) 169 (Int32.toNatClampNeg 1) l10) 169 (Int32.toNatClampNeg 2) (s1 + s0))
    else
      fX7_stepFrom_178 K31 a1 (l2) (l3) (l4) (l5) (l6) (l7) q4.2
set_option maxRecDepth 4000 in
theorem tX7_stepFrom_105 (K31 : Int32 → Int32 → Int32 → Int32 → Int32 → Int32 → zMM → Option (Int32 × zMM)) (a1 : Int32) (hK31 : ∀ (l2 : Int32) (l3 : Int32) (l4 : Int32) (l5 : Int32) (l6 : Int32) (l7 : Int32) (M : zMM) (q : Int32 × zMM), K31 l2 l3 l4 l5 l6 l7 M = some q → zEV iX7_stepFrom 0 0 (zZO (some (.inl q.1), q.2)) 31 [(0, .inr (.inr 158)), (2, .inl l2), (3, .inl l3), (4, .inl l4), (5, .inl l5), (6, .inl l6), (7, .inl l7)] [] M) (l2 : Int32) (l3 : Int32) (l4 : Int32) (l5 : Int32) (l6 : Int32) (l7 : Int32) (l9 : Int32) (l10 : Int32) (s0 : Int32) (s1 : Int32) (M : zMM) (q : Int32 × zMM) (h : fX7_stepFrom_105 K31 a1 l2 l3 l4 l5 l6 l7 l9 l10 s0 s1 M = some q) : zEV iX7_stepFrom 0 0 (zZO (some (.inl q.1), q.2)) 105 [(0, .inr (.inr 158)), (2, .inl l2), (3, .inl l3), (4, .inl l4), (5, .inl l5), (6, .inl l6), (7, .inl l7), (9, .inl l9), (10, .inl l10)] [.inl s0, .inl s1] M := by
  unfold fX7_stepFrom_105 at h
  refine zEV.iadd dX7_stepFrom_105 ?_
  refine zEV.istore dX7_stepFrom_106 (Nat.le_of_ble_eq_true rfl) rfl ?_
  refine zEV.aload_n dX7_stepFrom_108 rfl 1 rfl ?_
  refine zEV.iload dX7_stepFrom_109 8 rfl ?_
  refine zEV.iload dX7_stepFrom_111 9 rfl ?_
  refine zEV.iload dX7_stepFrom_113 0 rfl ?_
  obtain ⟨q1, hq1, h⟩ := bind_yes h
  refine zEV.callVi (kX7_canBe (l9) (l10) ((s1 + s0))  M q1 hq1) (by decide) rfl rfl wm_RX7_227 wc_X7_canBe hy_X7_canBe rfl ⟨Nat.le_of_ble_eq_true rfl, Nat.le_of_ble_eq_true rfl⟩ rfl (Nat.le_of_ble_eq_true rfl) dX7_stepFrom_115 ?_
  refine zEV.if_ne 124 dX7_stepFrom_118 (by decide) (fun c2 => ?_) (fun c2 => ?_)
  · rw [if_neg c2] at h
    refine zEV.aload_n dX7_stepFrom_124 rfl 1 rfl ?_
    refine zEV.iload dX7_stepFrom_125 8 rfl ?_
    refine zEV.iload dX7_stepFrom_127 9 rfl ?_
    refine zEV.iload dX7_stepFrom_129 0 rfl ?_
    obtain ⟨q3, hq3, h⟩ := bind_yes h
    refine zEV.callVv (kX7_putPlan (l9) (l10) ((s1 + s0))  q1.2 q3 hq3) (by decide) rfl rfl wm_RX7_233 wc_X7_putPlan hy_X7_putPlan rfl ⟨Nat.le_of_ble_eq_true rfl, Nat.le_of_ble_eq_true rfl⟩ rfl (Nat.le_of_ble_eq_true rfl) dX7_stepFrom_131 ?_
    refine zEV.aload_n dX7_stepFrom_134 rfl 1 rfl ?_
    obtain ⟨q4, hq4, h⟩ := bind_yes h
    refine zEV.callVi (kX7_costNow   q3 q4 hq4) (by decide) rfl rfl wm_RX7_217 wc_X7_costNow hy_X7_costNow rfl ⟨Nat.le_of_ble_eq_true rfl, Nat.le_of_ble_eq_true rfl⟩ rfl (Nat.le_of_ble_eq_true rfl) dX7_stepFrom_135 ?_
    refine zEV.istore dX7_stepFrom_138 (Nat.le_of_ble_eq_true rfl) rfl ?_
    refine zEV.iload dX7_stepFrom_140 0 rfl ?_
    refine zEV.iload_n dX7_stepFrom_142 rfl 3 rfl ?_
    refine zEV.icmp_lt 149 dX7_stepFrom_143 (by decide) (fun c5 => ?_) (fun c5 => ?_)
    · rw [if_pos c5] at h
      refine zEV.iload dX7_stepFrom_149 0 rfl ?_
      refine zEV.istore_n dX7_stepFrom_151 rfl (Nat.le_of_ble_eq_true rfl) rfl ?_
      refine zEV.iconst (v := 1) dX7_stepFrom_152 rfl ?_
      refine zEV.istore_n dX7_stepFrom_153 rfl (Nat.le_of_ble_eq_true rfl) rfl ?_
      refine zEV.aload_n dX7_stepFrom_154 rfl 4 rfl ?_
      refine zEV.gfr rfl inz7 21 (by decide) wf_RX7_42 (by decide) rfl rfl dX7_stepFrom_155 ?_
      refine zEV.iconst (v := 0) dX7_stepFrom_158 rfl ?_
      refine zEV.iload dX7_stepFrom_159 9 rfl ?_
      obtain ⟨g6, h⟩ := ite_no h
      refine zEV.iast (by decide) rfl g6 dX7_stepFrom_161 ?_
      refine zEV.aload_n dX7_stepFrom_162 rfl 4 rfl ?_
      refine zEV.gfr rfl inz7 21 (by decide) wf_RX7_42 (by decide) rfl rfl dX7_stepFrom_163 ?_
      refine zEV.iconst (v := 1) dX7_stepFrom_166 rfl ?_
      refine zEV.iload dX7_stepFrom_167 10 rfl ?_
      obtain ⟨g7, h⟩ := ite_no h
      refine zEV.iast (by decide) rfl g7 dX7_stepFrom_169 ?_
      refine zEV.aload_n dX7_stepFrom_170 rfl 4 rfl ?_
      refine zEV.gfr rfl inz7 21 (by decide) wf_RX7_42 (by decide) rfl rfl dX7_stepFrom_171 ?_
      refine zEV.iconst (v := 2) dX7_stepFrom_174 rfl ?_
      refine zEV.iload dX7_stepFrom_175 3 rfl ?_
      obtain ⟨g8, h⟩ := ite_no h
      refine zEV.iast (by decide) rfl g8 dX7_stepFrom_177 ?_
      exact zEV.perm [4, 1, 0, 5, 6, 7, 8] rfl (tX7_stepFrom_178 K31 a1 hK31 (q4.1) (1) (l4) (l5) (l6) (l7) (wr (wr (wr q4.2 169 (Int32.toNatClampNeg 0) l9) 169 (Int32.toNatClampNeg 1) l10) 169 (Int32.toNatClampNeg 2) (s1 + s0)) q h)
    · rw [if_neg c5] at h
      refine zEV.goto 178 dX7_stepFrom_146 (by decide) ?_
      exact zEV.perm [2, 3, 4, 5, 6, 7, 8] rfl (tX7_stepFrom_178 K31 a1 hK31 (l2) (l3) (l4) (l5) (l6) (l7) q4.2 q h)
  · rw [if_pos c2] at h
    refine zEV.goto 178 dX7_stepFrom_121 (by decide) ?_
    exact zEV.perm [1, 2, 3, 4, 5, 6, 7] rfl (tX7_stepFrom_178 K31 a1 hK31 (l2) (l3) (l4) (l5) (l6) (l7) q1.2 q h)
def fX7_stepFrom_86 (K31 : Int32 → Int32 → Int32 → Int32 → Int32 → Int32 → zMM → Option (Int32 × zMM)) (a1 : Int32) (l2 : Int32) (l3 : Int32) (l4 : Int32) (l5 : Int32) (l6 : Int32) (l7 : Int32) (l8 : Int32) (l9 : Int32) (s0 : Int32) (s1 : Int32) (M : zMM) : Option (Int32 × zMM) :=
  if (l7 / 2) = 2 then
    fX7_stepFrom_105 K31 a1 (l2) (l3) (l4) (l5) (l6) (l7) (l9) ((s1 + s0)) (l8) (l6) M
  else
    fX7_stepFrom_105 K31 a1 (l2) (l3) (l4) (l5) (l6) (l7) (l9) ((s1 + s0)) (0) (l6) M
set_option maxRecDepth 4000 in
theorem tX7_stepFrom_86 (K31 : Int32 → Int32 → Int32 → Int32 → Int32 → Int32 → zMM → Option (Int32 × zMM)) (a1 : Int32) (hK31 : ∀ (l2 : Int32) (l3 : Int32) (l4 : Int32) (l5 : Int32) (l6 : Int32) (l7 : Int32) (M : zMM) (q : Int32 × zMM), K31 l2 l3 l4 l5 l6 l7 M = some q → zEV iX7_stepFrom 0 0 (zZO (some (.inl q.1), q.2)) 31 [(0, .inr (.inr 158)), (2, .inl l2), (3, .inl l3), (4, .inl l4), (5, .inl l5), (6, .inl l6), (7, .inl l7)] [] M) (l2 : Int32) (l3 : Int32) (l4 : Int32) (l5 : Int32) (l6 : Int32) (l7 : Int32) (l8 : Int32) (l9 : Int32) (s0 : Int32) (s1 : Int32) (M : zMM) (q : Int32 × zMM) (h : fX7_stepFrom_86 K31 a1 l2 l3 l4 l5 l6 l7 l8 l9 s0 s1 M = some q) : zEV iX7_stepFrom 0 0 (zZO (some (.inl q.1), q.2)) 86 [(0, .inr (.inr 158)), (2, .inl l2), (3, .inl l3), (4, .inl l4), (5, .inl l5), (6, .inl l6), (7, .inl l7), (8, .inl l8), (9, .inl l9)] [.inl s0, .inl s1] M := by
  unfold fX7_stepFrom_86 at h
  refine zEV.iadd dX7_stepFrom_86 ?_
  refine zEV.istore dX7_stepFrom_87 (Nat.le_of_ble_eq_true rfl) rfl ?_
  refine zEV.iload dX7_stepFrom_89 6 rfl ?_
  refine zEV.iload dX7_stepFrom_91 7 rfl ?_
  refine zEV.iconst (v := 2) dX7_stepFrom_93 rfl ?_
  refine zEV.idiv dX7_stepFrom_94 (by decide) ?_
  refine zEV.iconst (v := 2) dX7_stepFrom_95 rfl ?_
  refine zEV.icmp_ne 104 dX7_stepFrom_96 (by decide) (fun c1 => ?_) (fun c1 => ?_)
  · rw [if_neg c1] at h
    refine zEV.iconst (v := 0) dX7_stepFrom_104 rfl ?_
    exact zEV.perm [1, 2, 3, 4, 5, 6, 7, 9, 0] rfl (tX7_stepFrom_105 K31 a1 hK31 (l2) (l3) (l4) (l5) (l6) (l7) (l9) ((s1 + s0)) (0) (l6) M q h)
  · rw [if_pos c1] at h
    refine zEV.iload dX7_stepFrom_99 8 rfl ?_
    refine zEV.goto 105 dX7_stepFrom_101 (by decide) ?_
    exact zEV.perm [1, 2, 3, 4, 5, 6, 7, 9, 0] rfl (tX7_stepFrom_105 K31 a1 hK31 (l2) (l3) (l4) (l5) (l6) (l7) (l9) ((s1 + s0)) (l8) (l6) M q h)
def fX7_stepFrom_67 (K31 : Int32 → Int32 → Int32 → Int32 → Int32 → Int32 → zMM → Option (Int32 × zMM)) (a1 : Int32) (l2 : Int32) (l3 : Int32) (l4 : Int32) (l5 : Int32) (l6 : Int32) (l7 : Int32) (l8 : Int32) (s0 : Int32) (s1 : Int32) (M : zMM) : Option (Int32 × zMM) :=
  if (l7 / 2) = 1 then
    fX7_stepFrom_86 K31 a1 (l2) (l3) (l4) (l5) (l6) (l7) (l8) ((s1 + s0)) (l8) (l5) M
  else
    fX7_stepFrom_86 K31 a1 (l2) (l3) (l4) (l5) (l6) (l7) (l8) ((s1 + s0)) (0) (l5) M
set_option maxRecDepth 4000 in
theorem tX7_stepFrom_67 (K31 : Int32 → Int32 → Int32 → Int32 → Int32 → Int32 → zMM → Option (Int32 × zMM)) (a1 : Int32) (hK31 : ∀ (l2 : Int32) (l3 : Int32) (l4 : Int32) (l5 : Int32) (l6 : Int32) (l7 : Int32) (M : zMM) (q : Int32 × zMM), K31 l2 l3 l4 l5 l6 l7 M = some q → zEV iX7_stepFrom 0 0 (zZO (some (.inl q.1), q.2)) 31 [(0, .inr (.inr 158)), (2, .inl l2), (3, .inl l3), (4, .inl l4), (5, .inl l5), (6, .inl l6), (7, .inl l7)] [] M) (l2 : Int32) (l3 : Int32) (l4 : Int32) (l5 : Int32) (l6 : Int32) (l7 : Int32) (l8 : Int32) (s0 : Int32) (s1 : Int32) (M : zMM) (q : Int32 × zMM) (h : fX7_stepFrom_67 K31 a1 l2 l3 l4 l5 l6 l7 l8 s0 s1 M = some q) : zEV iX7_stepFrom 0 0 (zZO (some (.inl q.1), q.2)) 67 [(0, .inr (.inr 158)), (2, .inl l2), (3, .inl l3), (4, .inl l4), (5, .inl l5), (6, .inl l6), (7, .inl l7), (8, .inl l8)] [.inl s0, .inl s1] M := by
  unfold fX7_stepFrom_67 at h
  refine zEV.iadd dX7_stepFrom_67 ?_
  refine zEV.istore dX7_stepFrom_68 (Nat.le_of_ble_eq_true rfl) rfl ?_
  refine zEV.iload dX7_stepFrom_70 5 rfl ?_
  refine zEV.iload dX7_stepFrom_72 7 rfl ?_
  refine zEV.iconst (v := 2) dX7_stepFrom_74 rfl ?_
  refine zEV.idiv dX7_stepFrom_75 (by decide) ?_
  refine zEV.iconst (v := 1) dX7_stepFrom_76 rfl ?_
  refine zEV.icmp_ne 85 dX7_stepFrom_77 (by decide) (fun c1 => ?_) (fun c1 => ?_)
  · rw [if_neg c1] at h
    refine zEV.iconst (v := 0) dX7_stepFrom_85 rfl ?_
    exact zEV.perm [1, 2, 3, 4, 5, 6, 7, 8, 0] rfl (tX7_stepFrom_86 K31 a1 hK31 (l2) (l3) (l4) (l5) (l6) (l7) (l8) ((s1 + s0)) (0) (l5) M q h)
  · rw [if_pos c1] at h
    refine zEV.iload dX7_stepFrom_80 8 rfl ?_
    refine zEV.goto 86 dX7_stepFrom_82 (by decide) ?_
    exact zEV.perm [1, 2, 3, 4, 5, 6, 7, 8, 0] rfl (tX7_stepFrom_86 K31 a1 hK31 (l2) (l3) (l4) (l5) (l6) (l7) (l8) ((s1 + s0)) (l8) (l5) M q h)
def fX7_stepFrom_50 (K31 : Int32 → Int32 → Int32 → Int32 → Int32 → Int32 → zMM → Option (Int32 × zMM)) (a1 : Int32) (l2 : Int32) (l3 : Int32) (l4 : Int32) (l5 : Int32) (l6 : Int32) (l7 : Int32) (s0 : Int32) (M : zMM) : Option (Int32 × zMM) :=
  if (l7 / 2) = (0 : Int32) then
    fX7_stepFrom_67 K31 a1 (l2) (l3) (l4) (l5) (l6) (l7) (s0) (s0) (l4) M
  else
    fX7_stepFrom_67 K31 a1 (l2) (l3) (l4) (l5) (l6) (l7) (s0) (0) (l4) M
set_option maxRecDepth 4000 in
theorem tX7_stepFrom_50 (K31 : Int32 → Int32 → Int32 → Int32 → Int32 → Int32 → zMM → Option (Int32 × zMM)) (a1 : Int32) (hK31 : ∀ (l2 : Int32) (l3 : Int32) (l4 : Int32) (l5 : Int32) (l6 : Int32) (l7 : Int32) (M : zMM) (q : Int32 × zMM), K31 l2 l3 l4 l5 l6 l7 M = some q → zEV iX7_stepFrom 0 0 (zZO (some (.inl q.1), q.2)) 31 [(0, .inr (.inr 158)), (2, .inl l2), (3, .inl l3), (4, .inl l4), (5, .inl l5), (6, .inl l6), (7, .inl l7)] [] M) (l2 : Int32) (l3 : Int32) (l4 : Int32) (l5 : Int32) (l6 : Int32) (l7 : Int32) (s0 : Int32) (M : zMM) (q : Int32 × zMM) (h : fX7_stepFrom_50 K31 a1 l2 l3 l4 l5 l6 l7 s0 M = some q) : zEV iX7_stepFrom 0 0 (zZO (some (.inl q.1), q.2)) 50 [(0, .inr (.inr 158)), (2, .inl l2), (3, .inl l3), (4, .inl l4), (5, .inl l5), (6, .inl l6), (7, .inl l7)] [.inl s0] M := by
  unfold fX7_stepFrom_50 at h
  refine zEV.istore dX7_stepFrom_50 (Nat.le_of_ble_eq_true rfl) rfl ?_
  refine zEV.iload dX7_stepFrom_52 4 rfl ?_
  refine zEV.iload dX7_stepFrom_54 7 rfl ?_
  refine zEV.iconst (v := 2) dX7_stepFrom_56 rfl ?_
  refine zEV.idiv dX7_stepFrom_57 (by decide) ?_
  refine zEV.if_ne 66 dX7_stepFrom_58 (by decide) (fun c1 => ?_) (fun c1 => ?_)
  · rw [if_neg c1] at h
    refine zEV.iconst (v := 0) dX7_stepFrom_66 rfl ?_
    exact zEV.perm [1, 2, 3, 4, 5, 6, 7, 0] rfl (tX7_stepFrom_67 K31 a1 hK31 (l2) (l3) (l4) (l5) (l6) (l7) (s0) (0) (l4) M q h)
  · rw [if_pos c1] at h
    refine zEV.iload dX7_stepFrom_61 0 rfl ?_
    refine zEV.goto 67 dX7_stepFrom_63 (by decide) ?_
    exact zEV.perm [1, 2, 3, 4, 5, 6, 7, 0] rfl (tX7_stepFrom_67 K31 a1 hK31 (l2) (l3) (l4) (l5) (l6) (l7) (s0) (s0) (l4) M q h)
def fX7_stepFrom_31 (a1 : Int32) : Nat → Int32 → Int32 → Int32 → Int32 → Int32 → Int32 → zMM → Option (Int32 × zMM)
  | 0, _, _, _, _, _, _, _ => none
  | n + 1, l2, l3, l4, l5, l6, l7, M =>
  if (6 : Int32) ≤ l7 then
    (fX7_putPlan (l4) (l5) (l6) M).bind fun q2 =>
    if l3 = (0 : Int32) then
      some ((-1), q2)
    else
      some (l2, q2)
  else
    if (l7 - l7 / 2 * 2) = (0 : Int32) then
      fX7_stepFrom_50 (fX7_stepFrom_31 a1 n) a1 (l2) (l3) (l4) (l5) (l6) (l7) ((-1)) M
    else
      fX7_stepFrom_50 (fX7_stepFrom_31 a1 n) a1 (l2) (l3) (l4) (l5) (l6) (l7) (1) M
set_option maxRecDepth 4000 in
theorem tX7_stepFrom_31 (a1 : Int32) : ∀ (n : Nat) (l2 : Int32) (l3 : Int32) (l4 : Int32) (l5 : Int32) (l6 : Int32) (l7 : Int32) (M : zMM) (q : Int32 × zMM), fX7_stepFrom_31 a1 n l2 l3 l4 l5 l6 l7 M = some q → zEV iX7_stepFrom 0 0 (zZO (some (.inl q.1), q.2)) 31 [(0, .inr (.inr 158)), (2, .inl l2), (3, .inl l3), (4, .inl l4), (5, .inl l5), (6, .inl l6), (7, .inl l7)] [] M := by
  intro n
  induction n with
  | zero =>
    intro l2 l3 l4 l5 l6 l7 M q h
    rw [fX7_stepFrom_31] at h
    cases h
  | succ n ih =>
    intro l2 l3 l4 l5 l6 l7 M q h
    rw [fX7_stepFrom_31] at h
    refine zEV.iload dX7_stepFrom_31 6 rfl ?_
    refine zEV.bipush (v := 6) dX7_stepFrom_33 rfl ?_
    refine zEV.icmp_ge 184 dX7_stepFrom_35 (by decide) (fun c1 => ?_) (fun c1 => ?_)
    · rw [if_pos c1] at h
      refine zEV.aload_n dX7_stepFrom_184 rfl 0 rfl ?_
      refine zEV.iload dX7_stepFrom_185 3 rfl ?_
      refine zEV.iload dX7_stepFrom_187 4 rfl ?_
      refine zEV.iload dX7_stepFrom_189 5 rfl ?_
      obtain ⟨q2, hq2, h⟩ := bind_yes h
      refine zEV.callVv (kX7_putPlan (l4) (l5) (l6)  M q2 hq2) (by decide) rfl rfl wm_RX7_233 wc_X7_putPlan hy_X7_putPlan rfl ⟨Nat.le_of_ble_eq_true rfl, Nat.le_of_ble_eq_true rfl⟩ rfl (Nat.le_of_ble_eq_true rfl) dX7_stepFrom_191 ?_
      refine zEV.iload_n dX7_stepFrom_194 rfl 2 rfl ?_
      refine zEV.if_eq 202 dX7_stepFrom_195 (by decide) (fun c3 => ?_) (fun c3 => ?_)
      · rw [if_pos c3] at h
        refine zEV.iconst (v := (-1)) dX7_stepFrom_202 rfl ?_
        cases h
        exact zEV.iret rfl dX7_stepFrom_203
      · rw [if_neg c3] at h
        refine zEV.iload_n dX7_stepFrom_198 rfl 1 rfl ?_
        refine zEV.goto 203 dX7_stepFrom_199 (by decide) ?_
        cases h
        exact zEV.iret rfl dX7_stepFrom_203
    · rw [if_neg c1] at h
      refine zEV.iload dX7_stepFrom_38 6 rfl ?_
      refine zEV.iconst (v := 2) dX7_stepFrom_40 rfl ?_
      refine zEV.irem dX7_stepFrom_41 (by decide) ?_
      refine zEV.if_ne 49 dX7_stepFrom_42 (by decide) (fun c4 => ?_) (fun c4 => ?_)
      · rw [if_neg c4] at h
        refine zEV.iconst (v := 1) dX7_stepFrom_49 rfl ?_
        exact zEV.perm [0, 1, 2, 3, 4, 5, 6] rfl (tX7_stepFrom_50 (fX7_stepFrom_31 a1 n) a1 (fun l2 l3 l4 l5 l6 l7 M9 q9 h9 => ih l2 l3 l4 l5 l6 l7 M9 q9 h9) (l2) (l3) (l4) (l5) (l6) (l7) (1) M q h)
      · rw [if_pos c4] at h
        refine zEV.iconst (v := (-1)) dX7_stepFrom_45 rfl ?_
        refine zEV.goto 50 dX7_stepFrom_46 (by decide) ?_
        exact zEV.perm [0, 1, 2, 3, 4, 5, 6] rfl (tX7_stepFrom_50 (fX7_stepFrom_31 a1 n) a1 (fun l2 l3 l4 l5 l6 l7 M9 q9 h9 => ih l2 l3 l4 l5 l6 l7 M9 q9 h9) (l2) (l3) (l4) (l5) (l6) (l7) ((-1)) M q h)
def fX7_stepFrom (a1 : Int32) (M : zMM) : Option (Int32 × zMM) :=
  if oob (2) 259 then none else
  if oob (3) 259 then none else
  if oob (4) 259 then none else
  fX7_stepFrom_31 a1 zFU (a1) (0) ((M.1 159 (Int32.toNatClampNeg 2))) ((M.1 159 (Int32.toNatClampNeg 3))) ((M.1 159 (Int32.toNatClampNeg 4))) (0) M
set_option maxRecDepth 4000 in
theorem tX7_stepFrom_0 (a1 : Int32) (M : zMM) (q : Int32 × zMM) (h : fX7_stepFrom a1  M = some q) : zEV iX7_stepFrom 0 0 (zZO (some (.inl q.1), q.2)) 0 [(0, .inr (.inr 158)), (1, .inl a1)] [] M := by
  unfold fX7_stepFrom at h
  refine zEV.iload_n dX7_stepFrom_0 rfl 1 rfl ?_
  refine zEV.istore_n dX7_stepFrom_1 rfl (Nat.le_of_ble_eq_true rfl) rfl ?_
  refine zEV.iconst (v := 0) dX7_stepFrom_2 rfl ?_
  refine zEV.istore_n dX7_stepFrom_3 rfl (Nat.le_of_ble_eq_true rfl) rfl ?_
  refine zEV.aload_n dX7_stepFrom_4 rfl 2 rfl ?_
  refine zEV.gfr rfl inz7 0 (by decide) wf_RX7_9 (by decide) rfl rfl dX7_stepFrom_5 ?_
  refine zEV.iconst (v := 2) dX7_stepFrom_8 rfl ?_
  obtain ⟨g1, h⟩ := ite_no h
  refine zEV.iald (by decide) rfl g1 dX7_stepFrom_9 ?_
  refine zEV.istore dX7_stepFrom_10 (Nat.le_of_ble_eq_true rfl) rfl ?_
  refine zEV.aload_n dX7_stepFrom_12 rfl 3 rfl ?_
  refine zEV.gfr rfl inz7 0 (by decide) wf_RX7_9 (by decide) rfl rfl dX7_stepFrom_13 ?_
  refine zEV.iconst (v := 3) dX7_stepFrom_16 rfl ?_
  obtain ⟨g2, h⟩ := ite_no h
  refine zEV.iald (by decide) rfl g2 dX7_stepFrom_17 ?_
  refine zEV.istore dX7_stepFrom_18 (Nat.le_of_ble_eq_true rfl) rfl ?_
  refine zEV.aload_n dX7_stepFrom_20 rfl 4 rfl ?_
  refine zEV.gfr rfl inz7 0 (by decide) wf_RX7_9 (by decide) rfl rfl dX7_stepFrom_21 ?_
  refine zEV.iconst (v := 4) dX7_stepFrom_24 rfl ?_
  obtain ⟨g3, h⟩ := ite_no h
  refine zEV.iald (by decide) rfl g3 dX7_stepFrom_25 ?_
  refine zEV.istore dX7_stepFrom_26 (Nat.le_of_ble_eq_true rfl) rfl ?_
  refine zEV.iconst (v := 0) dX7_stepFrom_28 rfl ?_
  refine zEV.istore dX7_stepFrom_29 (Nat.le_of_ble_eq_true rfl) rfl ?_
  exact zEV.perm [6, 5, 4, 3, 2, 1, 0] rfl (tX7_stepFrom_31 a1 zFU (a1) (0) ((M.1 159 (Int32.toNatClampNeg 2))) ((M.1 159 (Int32.toNatClampNeg 3))) ((M.1 159 (Int32.toNatClampNeg 4))) (0) M q h)
theorem kX7_stepFrom (a1 : Int32) (M : zMM) (q : Int32 × zMM) (h : fX7_stepFrom a1 M = some q) : zCN yX7_stepFrom iX7_stepFrom [.inr (.inr 158), .inl a1] M (some (.inl q.1), q.2) :=
  zCN.of (by decide) rfl rfl (Nat.le_of_ble_eq_true rfl) (zEV.perm [0, 1] rfl (tX7_stepFrom_0 a1 M q h))
-- RingedPageModel.climbs
def fX7_climbs_70 : Nat → Int32 → Int32 → Int32 → zMM → Option (Int32 × zMM)
  | 0, _, _, _, _ => none
  | n + 1, l1, l2, l3, M =>
  if (3 : Int32) ≤ l3 then
    (fX7_tell ((Int32.toInt64 l1)) M).bind fun q2 =>
    (fX7_comesBack  q2).bind fun q3 =>
    some (l2, q3)
  else
    if oob ((2 + l3)) 259 then none else
    (fX7_tell ((Int32.toInt64 (M.1 159 (Int32.toNatClampNeg (2 + l3))))) M).bind fun q5 =>
    fX7_climbs_70 n (l1) (l2) ((l3 + 1)) q5
set_option maxRecDepth 4000 in
theorem tX7_climbs_70 : ∀ (n : Nat) (l1 : Int32) (l2 : Int32) (l3 : Int32) (M : zMM) (q : Int32 × zMM), fX7_climbs_70 n l1 l2 l3 M = some q → zEV iX7_climbs 0 0 (zZO (some (.inl q.1), q.2)) 70 [(0, .inr (.inr 158)), (1, .inl l1), (2, .inl l2), (3, .inl l3)] [] M := by
  intro n
  induction n with
  | zero =>
    intro l1 l2 l3 M q h
    rw [fX7_climbs_70] at h
    cases h
  | succ n ih =>
    intro l1 l2 l3 M q h
    rw [fX7_climbs_70] at h
    refine zEV.iload_n dX7_climbs_70 rfl 3 rfl ?_
    refine zEV.iconst (v := 3) dX7_climbs_71 rfl ?_
    refine zEV.icmp_ge 94 dX7_climbs_72 (by decide) (fun c1 => ?_) (fun c1 => ?_)
    · rw [if_pos c1] at h
      refine zEV.aload_n dX7_climbs_94 rfl 0 rfl ?_
      refine zEV.iload_n dX7_climbs_95 rfl 1 rfl ?_
      refine zEV.i2l dX7_climbs_96 ?_
      obtain ⟨q2, hq2, h⟩ := bind_yes h
      refine zEV.callVv (kX7_tell ((Int32.toInt64 l1))  M q2 hq2) (by decide) rfl rfl wm_RX7_135 wc_X7_tell hy_X7_tell rfl ⟨Nat.le_of_ble_eq_true rfl, Nat.le_of_ble_eq_true rfl⟩ rfl (Nat.le_of_ble_eq_true rfl) dX7_climbs_97 ?_
      refine zEV.aload_n dX7_climbs_100 rfl 0 rfl ?_
      obtain ⟨q3, hq3, h⟩ := bind_yes h
      refine zEV.callVv (kX7_comesBack   q2 q3 hq3) (by decide) rfl rfl wm_RX7_237 wc_X7_comesBack hy_X7_comesBack rfl ⟨Nat.le_of_ble_eq_true rfl, Nat.le_of_ble_eq_true rfl⟩ rfl (Nat.le_of_ble_eq_true rfl) dX7_climbs_101 ?_
      refine zEV.iload_n dX7_climbs_104 rfl 2 rfl ?_
      cases h
      exact zEV.iret rfl dX7_climbs_105
    · rw [if_neg c1] at h
      refine zEV.aload_n dX7_climbs_75 rfl 0 rfl ?_
      refine zEV.aload_n dX7_climbs_76 rfl 0 rfl ?_
      refine zEV.gfr rfl inz7 0 (by decide) wf_RX7_9 (by decide) rfl rfl dX7_climbs_77 ?_
      refine zEV.iconst (v := 2) dX7_climbs_80 rfl ?_
      refine zEV.iload_n dX7_climbs_81 rfl 3 rfl ?_
      refine zEV.iadd dX7_climbs_82 ?_
      obtain ⟨g4, h⟩ := ite_no h
      refine zEV.iald (by decide) rfl g4 dX7_climbs_83 ?_
      refine zEV.i2l dX7_climbs_84 ?_
      obtain ⟨q5, hq5, h⟩ := bind_yes h
      refine zEV.callVv (kX7_tell ((Int32.toInt64 (M.1 159 (Int32.toNatClampNeg (2 + l3)))))  M q5 hq5) (by decide) rfl rfl wm_RX7_135 wc_X7_tell hy_X7_tell rfl ⟨Nat.le_of_ble_eq_true rfl, Nat.le_of_ble_eq_true rfl⟩ rfl (Nat.le_of_ble_eq_true rfl) dX7_climbs_85 ?_
      refine zEV.iinc (v := (l3 + 1)) dX7_climbs_88 3 rfl rfl (Nat.le_of_ble_eq_true rfl) rfl ?_
      refine zEV.goto 70 dX7_climbs_91 (by decide) ?_
      exact zEV.perm [1, 2, 3, 0] rfl (ih (l1) (l2) ((l3 + 1)) q5 q h)
def fX7_climbs_22 : Nat → Int32 → Int32 → Int32 → zMM → Option (Int32 × zMM)
  | 0, _, _, _, _ => none
  | n + 1, l1, l2, l3, M =>
  if l3 = (-1) then
    fX7_climbs_70 zFU (l1) (l2) (0) (wr M 158 4 0)
  else
    if oob (0) 3 then none else
    if oob (1) 3 then none else
    if oob (2) 3 then none else
    (fX7_putPlan ((M.1 169 (Int32.toNatClampNeg 0))) ((M.1 169 (Int32.toNatClampNeg 1))) ((M.1 169 (Int32.toNatClampNeg 2))) M).bind fun q5 =>
    (fX7_stepFrom (l3) q5).bind fun q6 =>
    fX7_climbs_22 n (l3) ((l2 + 1)) (q6.1) q6.2
set_option maxRecDepth 4000 in
theorem tX7_climbs_22 : ∀ (n : Nat) (l1 : Int32) (l2 : Int32) (l3 : Int32) (M : zMM) (q : Int32 × zMM), fX7_climbs_22 n l1 l2 l3 M = some q → zEV iX7_climbs 0 0 (zZO (some (.inl q.1), q.2)) 22 [(0, .inr (.inr 158)), (1, .inl l1), (2, .inl l2), (3, .inl l3)] [] M := by
  intro n
  induction n with
  | zero =>
    intro l1 l2 l3 M q h
    rw [fX7_climbs_22] at h
    cases h
  | succ n ih =>
    intro l1 l2 l3 M q h
    rw [fX7_climbs_22] at h
    refine zEV.iload_n dX7_climbs_22 rfl 3 rfl ?_
    refine zEV.iconst (v := (-1)) dX7_climbs_23 rfl ?_
    refine zEV.icmp_eq 63 dX7_climbs_24 (by decide) (fun c1 => ?_) (fun c1 => ?_)
    · rw [if_pos c1] at h
      refine zEV.aload_n dX7_climbs_63 rfl 0 rfl ?_
      refine zEV.iconst (v := 0) dX7_climbs_64 rfl ?_
      refine zEV.pfi rfl inz7 tyX7 tyX7_ok nmX7 4 (by decide) wf_RX7_62 rfl (by decide +kernel) (by decide) rfl rfl dX7_climbs_65 ?_
      refine zEV.iconst (v := 0) dX7_climbs_68 rfl ?_
      refine zEV.istore_n dX7_climbs_69 rfl (Nat.le_of_ble_eq_true rfl) rfl ?_
      exact zEV.perm [1, 2, 3, 0] rfl (tX7_climbs_70 zFU (l1) (l2) (0) (wr M 158 4 0) q h)
    · rw [if_neg c1] at h
      refine zEV.aload_n dX7_climbs_27 rfl 0 rfl ?_
      refine zEV.aload_n dX7_climbs_28 rfl 0 rfl ?_
      refine zEV.gfr rfl inz7 21 (by decide) wf_RX7_42 (by decide) rfl rfl dX7_climbs_29 ?_
      refine zEV.iconst (v := 0) dX7_climbs_32 rfl ?_
      obtain ⟨g2, h⟩ := ite_no h
      refine zEV.iald (by decide) rfl g2 dX7_climbs_33 ?_
      refine zEV.aload_n dX7_climbs_34 rfl 0 rfl ?_
      refine zEV.gfr rfl inz7 21 (by decide) wf_RX7_42 (by decide) rfl rfl dX7_climbs_35 ?_
      refine zEV.iconst (v := 1) dX7_climbs_38 rfl ?_
      obtain ⟨g3, h⟩ := ite_no h
      refine zEV.iald (by decide) rfl g3 dX7_climbs_39 ?_
      refine zEV.aload_n dX7_climbs_40 rfl 0 rfl ?_
      refine zEV.gfr rfl inz7 21 (by decide) wf_RX7_42 (by decide) rfl rfl dX7_climbs_41 ?_
      refine zEV.iconst (v := 2) dX7_climbs_44 rfl ?_
      obtain ⟨g4, h⟩ := ite_no h
      refine zEV.iald (by decide) rfl g4 dX7_climbs_45 ?_
      obtain ⟨q5, hq5, h⟩ := bind_yes h
      refine zEV.callVv (kX7_putPlan ((M.1 169 (Int32.toNatClampNeg 0))) ((M.1 169 (Int32.toNatClampNeg 1))) ((M.1 169 (Int32.toNatClampNeg 2)))  M q5 hq5) (by decide) rfl rfl wm_RX7_233 wc_X7_putPlan hy_X7_putPlan rfl ⟨Nat.le_of_ble_eq_true rfl, Nat.le_of_ble_eq_true rfl⟩ rfl (Nat.le_of_ble_eq_true rfl) dX7_climbs_46 ?_
      refine zEV.iload_n dX7_climbs_49 rfl 3 rfl ?_
      refine zEV.istore_n dX7_climbs_50 rfl (Nat.le_of_ble_eq_true rfl) rfl ?_
      refine zEV.iinc (v := (l2 + 1)) dX7_climbs_51 2 rfl rfl (Nat.le_of_ble_eq_true rfl) rfl ?_
      refine zEV.aload_n dX7_climbs_54 rfl 2 rfl ?_
      refine zEV.iload_n dX7_climbs_55 rfl 1 rfl ?_
      obtain ⟨q6, hq6, h⟩ := bind_yes h
      refine zEV.callVi (kX7_stepFrom (l3)  q5 q6 hq6) (by decide) rfl rfl wm_RX7_258 wc_X7_stepFrom hy_X7_stepFrom rfl ⟨Nat.le_of_ble_eq_true rfl, Nat.le_of_ble_eq_true rfl⟩ rfl (Nat.le_of_ble_eq_true rfl) dX7_climbs_56 ?_
      refine zEV.istore_n dX7_climbs_59 rfl (Nat.le_of_ble_eq_true rfl) rfl ?_
      refine zEV.goto 22 dX7_climbs_60 (by decide) ?_
      exact zEV.perm [3, 2, 1, 0] rfl (ih (l3) ((l2 + 1)) (q6.1) q6.2 q h)
def fX7_climbs (M : zMM) : Option (Int32 × zMM) :=
  (fX7_layAside  (wr M 158 5 0)).bind fun q1 =>
  (fX7_costNow  q1).bind fun q2 =>
  (fX7_stepFrom (q2.1) q2.2).bind fun q3 =>
  fX7_climbs_22 zFU (q2.1) (0) (q3.1) q3.2
set_option maxRecDepth 4000 in
theorem tX7_climbs_0 (M : zMM) (q : Int32 × zMM) (h : fX7_climbs  M = some q) : zEV iX7_climbs 0 0 (zZO (some (.inl q.1), q.2)) 0 [(0, .inr (.inr 158))] [] M := by
  unfold fX7_climbs at h
  refine zEV.aload_n dX7_climbs_0 rfl 0 rfl ?_
  refine zEV.iconst (v := 0) dX7_climbs_1 rfl ?_
  refine zEV.pfi rfl inz7 tyX7 tyX7_ok nmX7 5 (by decide) wf_RX7_58 rfl (by decide +kernel) (by decide) rfl rfl dX7_climbs_2 ?_
  refine zEV.aload_n dX7_climbs_5 rfl 0 rfl ?_
  obtain ⟨q1, hq1, h⟩ := bind_yes h
  refine zEV.callVv (kX7_layAside   (wr M 158 5 0) q1 hq1) (by decide) rfl rfl wm_RX7_230 wc_X7_layAside hy_X7_layAside rfl ⟨Nat.le_of_ble_eq_true rfl, Nat.le_of_ble_eq_true rfl⟩ rfl (Nat.le_of_ble_eq_true rfl) dX7_climbs_6 ?_
  refine zEV.aload_n dX7_climbs_9 rfl 0 rfl ?_
  obtain ⟨q2, hq2, h⟩ := bind_yes h
  refine zEV.callVi (kX7_costNow   q1 q2 hq2) (by decide) rfl rfl wm_RX7_217 wc_X7_costNow hy_X7_costNow rfl ⟨Nat.le_of_ble_eq_true rfl, Nat.le_of_ble_eq_true rfl⟩ rfl (Nat.le_of_ble_eq_true rfl) dX7_climbs_10 ?_
  refine zEV.istore_n dX7_climbs_13 rfl (Nat.le_of_ble_eq_true rfl) rfl ?_
  refine zEV.iconst (v := 0) dX7_climbs_14 rfl ?_
  refine zEV.istore_n dX7_climbs_15 rfl (Nat.le_of_ble_eq_true rfl) rfl ?_
  refine zEV.aload_n dX7_climbs_16 rfl 2 rfl ?_
  refine zEV.iload_n dX7_climbs_17 rfl 1 rfl ?_
  obtain ⟨q3, hq3, h⟩ := bind_yes h
  refine zEV.callVi (kX7_stepFrom (q2.1)  q2.2 q3 hq3) (by decide) rfl rfl wm_RX7_258 wc_X7_stepFrom hy_X7_stepFrom rfl ⟨Nat.le_of_ble_eq_true rfl, Nat.le_of_ble_eq_true rfl⟩ rfl (Nat.le_of_ble_eq_true rfl) dX7_climbs_18 ?_
  refine zEV.istore_n dX7_climbs_21 rfl (Nat.le_of_ble_eq_true rfl) rfl ?_
  exact zEV.perm [3, 2, 1, 0] rfl (tX7_climbs_22 zFU (q2.1) (0) (q3.1) q3.2 q h)
theorem kX7_climbs (M : zMM) (q : Int32 × zMM) (h : fX7_climbs M = some q) : zCN yX7_climbs iX7_climbs [.inr (.inr 158)] M (some (.inl q.1), q.2) :=
  zCN.of (by decide) rfl rfl (Nat.le_of_ble_eq_true rfl) (zEV.perm [0] rfl (tX7_climbs_0 M q h))
-- RingedPageModel.leastBy
def fX7_leastBy_89 (a1 : Int32) (a2 : Int32) (a3 : Int32) (a4 : Int32) (l5 : Int32) (l6 : Int32) (M : zMM) : Option (Int32 × zMM) :=
  (fX7_comesBack  M).bind fun q1 =>
  if l6 = (0 : Int32) then
    some ((-2), q1)
  else
    (fX7_tell ((Int32.toInt64 ((wr q1 158 4 0).1 158 14))) (wr q1 158 4 0)).bind fun q3 =>
    some ((l5 - 1), q3)
set_option maxRecDepth 4000 in
theorem tX7_leastBy_89 (a1 : Int32) (a2 : Int32) (a3 : Int32) (a4 : Int32) (l5 : Int32) (l6 : Int32) (M : zMM) (q : Int32 × zMM) (h : fX7_leastBy_89 a1 a2 a3 a4 l5 l6 M = some q) : zEV iX7_leastBy 0 0 (zZO (some (.inl q.1), q.2)) 89 [(0, .inr (.inr 158)), (5, .inl l5), (6, .inl l6)] [] M := by
  unfold fX7_leastBy_89 at h
  refine zEV.aload_n dX7_leastBy_89 rfl 0 rfl ?_
  obtain ⟨q1, hq1, h⟩ := bind_yes h
  refine zEV.callVv (kX7_comesBack   M q1 hq1) (by decide) rfl rfl wm_RX7_237 wc_X7_comesBack hy_X7_comesBack rfl ⟨Nat.le_of_ble_eq_true rfl, Nat.le_of_ble_eq_true rfl⟩ rfl (Nat.le_of_ble_eq_true rfl) dX7_leastBy_90 ?_
  refine zEV.iload dX7_leastBy_93 2 rfl ?_
  refine zEV.if_ne 101 dX7_leastBy_95 (by decide) (fun c2 => ?_) (fun c2 => ?_)
  · rw [if_neg c2] at h
    refine zEV.aload_n dX7_leastBy_101 rfl 0 rfl ?_
    refine zEV.iconst (v := 0) dX7_leastBy_102 rfl ?_
    refine zEV.pfi rfl inz7 tyX7 tyX7_ok nmX7 4 (by decide) wf_RX7_62 rfl (by decide +kernel) (by decide) rfl rfl dX7_leastBy_103 ?_
    refine zEV.aload_n dX7_leastBy_106 rfl 0 rfl ?_
    refine zEV.aload_n dX7_leastBy_107 rfl 0 rfl ?_
    refine zEV.gfi rfl inz7 14 (by decide) wf_RX7_154 (by decide) rfl rfl dX7_leastBy_108 ?_
    refine zEV.i2l dX7_leastBy_111 ?_
    obtain ⟨q3, hq3, h⟩ := bind_yes h
    refine zEV.callVv (kX7_tell ((Int32.toInt64 ((wr q1 158 4 0).1 158 14)))  (wr q1 158 4 0) q3 hq3) (by decide) rfl rfl wm_RX7_135 wc_X7_tell hy_X7_tell rfl ⟨Nat.le_of_ble_eq_true rfl, Nat.le_of_ble_eq_true rfl⟩ rfl (Nat.le_of_ble_eq_true rfl) dX7_leastBy_112 ?_
    refine zEV.iload dX7_leastBy_115 1 rfl ?_
    refine zEV.iconst (v := 1) dX7_leastBy_117 rfl ?_
    refine zEV.isub dX7_leastBy_118 ?_
    cases h
    exact zEV.iret rfl dX7_leastBy_119
  · rw [if_pos c2] at h
    refine zEV.bipush (v := (-2)) dX7_leastBy_98 rfl ?_
    cases h
    exact zEV.iret rfl dX7_leastBy_100
def fX7_leastBy_81 (K10 : Int32 → Int32 → zMM → Option (Int32 × zMM)) (a1 : Int32) (a2 : Int32) (a3 : Int32) (a4 : Int32) (l5 : Int32) (s0 : Int32) (M : zMM) : Option (Int32 × zMM) :=
  K10 ((l5 + 1)) (s0) M
set_option maxRecDepth 4000 in
theorem tX7_leastBy_81 (K10 : Int32 → Int32 → zMM → Option (Int32 × zMM)) (a1 : Int32) (a2 : Int32) (a3 : Int32) (a4 : Int32) (hK10 : ∀ (l5 : Int32) (l6 : Int32) (M : zMM) (q : Int32 × zMM), K10 l5 l6 M = some q → zEV iX7_leastBy 0 0 (zZO (some (.inl q.1), q.2)) 10 [(0, .inr (.inr 158)), (1, .inl a1), (3, .inl a3), (4, .inl a4), (5, .inl l5), (6, .inl l6)] [] M) (l5 : Int32) (s0 : Int32) (M : zMM) (q : Int32 × zMM) (h : fX7_leastBy_81 K10 a1 a2 a3 a4 l5 s0 M = some q) : zEV iX7_leastBy 0 0 (zZO (some (.inl q.1), q.2)) 81 [(0, .inr (.inr 158)), (1, .inl a1), (3, .inl a3), (4, .inl a4), (5, .inl l5)] [.inl s0] M := by
  unfold fX7_leastBy_81 at h
  refine zEV.istore dX7_leastBy_81 (Nat.le_of_ble_eq_true rfl) rfl ?_
  refine zEV.iinc (v := (l5 + 1)) dX7_leastBy_83 5 rfl rfl (Nat.le_of_ble_eq_true rfl) rfl ?_
  refine zEV.goto 10 dX7_leastBy_86 (by decide) ?_
  exact zEV.perm [2, 3, 4, 5, 0, 1] rfl (hK10 ((l5 + 1)) (s0) M q h)
def fX7_leastBy_80 (K10 : Int32 → Int32 → zMM → Option (Int32 × zMM)) (a1 : Int32) (a2 : Int32) (a3 : Int32) (a4 : Int32) (l5 : Int32) (M : zMM) : Option (Int32 × zMM) :=
  fX7_leastBy_81 K10 a1 a2 a3 a4 (l5) (0) M
set_option maxRecDepth 4000 in
theorem tX7_leastBy_80 (K10 : Int32 → Int32 → zMM → Option (Int32 × zMM)) (a1 : Int32) (a2 : Int32) (a3 : Int32) (a4 : Int32) (hK10 : ∀ (l5 : Int32) (l6 : Int32) (M : zMM) (q : Int32 × zMM), K10 l5 l6 M = some q → zEV iX7_leastBy 0 0 (zZO (some (.inl q.1), q.2)) 10 [(0, .inr (.inr 158)), (1, .inl a1), (3, .inl a3), (4, .inl a4), (5, .inl l5), (6, .inl l6)] [] M) (l5 : Int32) (M : zMM) (q : Int32 × zMM) (h : fX7_leastBy_80 K10 a1 a2 a3 a4 l5 M = some q) : zEV iX7_leastBy 0 0 (zZO (some (.inl q.1), q.2)) 80 [(0, .inr (.inr 158)), (1, .inl a1), (3, .inl a3), (4, .inl a4), (5, .inl l5)] [] M := by
  unfold fX7_leastBy_80 at h
  refine zEV.iconst (v := 0) dX7_leastBy_80 rfl ?_
  exact zEV.perm [0, 1, 2, 3, 4] rfl (tX7_leastBy_81 K10 a1 a2 a3 a4 hK10 (l5) (0) M q h)
def fX7_leastBy_62 (K10 : Int32 → Int32 → zMM → Option (Int32 × zMM)) (a1 : Int32) (a2 : Int32) (a3 : Int32) (a4 : Int32) (l5 : Int32) (l6 : Int32) (M : zMM) : Option (Int32 × zMM) :=
  if l6 = (0 : Int32) then
    fX7_leastBy_80 K10 a1 a2 a3 a4 (l5) M
  else
    if a4 < (M.1 158 14) then
      fX7_leastBy_80 K10 a1 a2 a3 a4 (l5) M
    else
      fX7_leastBy_81 K10 a1 a2 a3 a4 (l5) (1) M
set_option maxRecDepth 4000 in
theorem tX7_leastBy_62 (K10 : Int32 → Int32 → zMM → Option (Int32 × zMM)) (a1 : Int32) (a2 : Int32) (a3 : Int32) (a4 : Int32) (hK10 : ∀ (l5 : Int32) (l6 : Int32) (M : zMM) (q : Int32 × zMM), K10 l5 l6 M = some q → zEV iX7_leastBy 0 0 (zZO (some (.inl q.1), q.2)) 10 [(0, .inr (.inr 158)), (1, .inl a1), (3, .inl a3), (4, .inl a4), (5, .inl l5), (6, .inl l6)] [] M) (l5 : Int32) (l6 : Int32) (M : zMM) (q : Int32 × zMM) (h : fX7_leastBy_62 K10 a1 a2 a3 a4 l5 l6 M = some q) : zEV iX7_leastBy 0 0 (zZO (some (.inl q.1), q.2)) 62 [(0, .inr (.inr 158)), (1, .inl a1), (3, .inl a3), (4, .inl a4), (5, .inl l5), (6, .inl l6)] [] M := by
  unfold fX7_leastBy_62 at h
  refine zEV.iload dX7_leastBy_62 5 rfl ?_
  refine zEV.if_eq 80 dX7_leastBy_64 (by decide) (fun c1 => ?_) (fun c1 => ?_)
  · rw [if_pos c1] at h
    exact zEV.perm [0, 1, 2, 3, 4] rfl (tX7_leastBy_80 K10 a1 a2 a3 a4 hK10 (l5) M q h)
  · rw [if_neg c1] at h
    refine zEV.aload_n dX7_leastBy_67 rfl 0 rfl ?_
    refine zEV.gfi rfl inz7 14 (by decide) wf_RX7_154 (by decide) rfl rfl dX7_leastBy_68 ?_
    refine zEV.iload dX7_leastBy_71 3 rfl ?_
    refine zEV.icmp_gt 80 dX7_leastBy_73 (by decide) (fun c2 => ?_) (fun c2 => ?_)
    · rw [if_pos c2] at h
      exact zEV.perm [0, 1, 2, 3, 4] rfl (tX7_leastBy_80 K10 a1 a2 a3 a4 hK10 (l5) M q h)
    · rw [if_neg c2] at h
      refine zEV.iconst (v := 1) dX7_leastBy_76 rfl ?_
      refine zEV.goto 81 dX7_leastBy_77 (by decide) ?_
      exact zEV.perm [0, 1, 2, 3, 4] rfl (tX7_leastBy_81 K10 a1 a2 a3 a4 hK10 (l5) (1) M q h)
def fX7_leastBy_10 (a1 : Int32) (a2 : Int32) (a3 : Int32) (a4 : Int32) : Nat → Int32 → Int32 → zMM → Option (Int32 × zMM)
  | 0, _, _, _ => none
  | n + 1, l5, l6, M =>
  if a3 < l5 then
    fX7_leastBy_89 a1 a2 a3 a4 (l5) (l6) M
  else
    if l6 = (0 : Int32) then
      if oob (a1) 259 then none else
      if oob (2) 259 then none else
      if oob (3) 259 then none else
      if oob (4) 259 then none else
      (fX7_canBe (((wr M 159 (Int32.toNatClampNeg a1) l5).1 159 (Int32.toNatClampNeg 2))) (((wr M 159 (Int32.toNatClampNeg a1) l5).1 159 (Int32.toNatClampNeg 3))) (((wr M 159 (Int32.toNatClampNeg a1) l5).1 159 (Int32.toNatClampNeg 4))) (wr M 159 (Int32.toNatClampNeg a1) l5)).bind fun q7 =>
      if q7.1 = (0 : Int32) then
        fX7_leastBy_62 (fX7_leastBy_10 a1 a2 a3 a4 n) a1 a2 a3 a4 (l5) (q7.1) q7.2
      else
        (fX7_set  q7.2).bind fun q9 =>
        fX7_leastBy_62 (fX7_leastBy_10 a1 a2 a3 a4 n) a1 a2 a3 a4 (l5) (q7.1) q9
    else
      fX7_leastBy_89 a1 a2 a3 a4 (l5) (l6) M
set_option maxRecDepth 4000 in
theorem tX7_leastBy_10 (a1 : Int32) (a2 : Int32) (a3 : Int32) (a4 : Int32) : ∀ (n : Nat) (l5 : Int32) (l6 : Int32) (M : zMM) (q : Int32 × zMM), fX7_leastBy_10 a1 a2 a3 a4 n l5 l6 M = some q → zEV iX7_leastBy 0 0 (zZO (some (.inl q.1), q.2)) 10 [(0, .inr (.inr 158)), (1, .inl a1), (3, .inl a3), (4, .inl a4), (5, .inl l5), (6, .inl l6)] [] M := by
  intro n
  induction n with
  | zero =>
    intro l5 l6 M q h
    rw [fX7_leastBy_10] at h
    cases h
  | succ n ih =>
    intro l5 l6 M q h
    rw [fX7_leastBy_10] at h
    refine zEV.iload dX7_leastBy_10 4 rfl ?_
    refine zEV.iload_n dX7_leastBy_12 rfl 2 rfl ?_
    refine zEV.icmp_gt 89 dX7_leastBy_13 (by decide) (fun c1 => ?_) (fun c1 => ?_)
    · rw [if_pos c1] at h
      exact zEV.perm [0, 4, 5] rfl (tX7_leastBy_89 a1 a2 a3 a4 (l5) (l6) M q h)
    · rw [if_neg c1] at h
      refine zEV.iload dX7_leastBy_16 5 rfl ?_
      refine zEV.if_ne 89 dX7_leastBy_18 (by decide) (fun c2 => ?_) (fun c2 => ?_)
      · rw [if_neg c2] at h
        exact zEV.perm [0, 4, 5] rfl (tX7_leastBy_89 a1 a2 a3 a4 (l5) (l6) M q h)
      · rw [if_pos c2] at h
        refine zEV.aload_n dX7_leastBy_21 rfl 0 rfl ?_
        refine zEV.gfr rfl inz7 0 (by decide) wf_RX7_9 (by decide) rfl rfl dX7_leastBy_22 ?_
        refine zEV.iload_n dX7_leastBy_25 rfl 1 rfl ?_
        refine zEV.iload dX7_leastBy_26 4 rfl ?_
        obtain ⟨g3, h⟩ := ite_no h
        refine zEV.iast (by decide) rfl g3 dX7_leastBy_28 ?_
        refine zEV.aload_n dX7_leastBy_29 rfl 0 rfl ?_
        refine zEV.aload_n dX7_leastBy_30 rfl 0 rfl ?_
        refine zEV.gfr rfl inz7 0 (by decide) wf_RX7_9 (by decide) rfl rfl dX7_leastBy_31 ?_
        refine zEV.iconst (v := 2) dX7_leastBy_34 rfl ?_
        obtain ⟨g4, h⟩ := ite_no h
        refine zEV.iald (by decide) rfl g4 dX7_leastBy_35 ?_
        refine zEV.aload_n dX7_leastBy_36 rfl 0 rfl ?_
        refine zEV.gfr rfl inz7 0 (by decide) wf_RX7_9 (by decide) rfl rfl dX7_leastBy_37 ?_
        refine zEV.iconst (v := 3) dX7_leastBy_40 rfl ?_
        obtain ⟨g5, h⟩ := ite_no h
        refine zEV.iald (by decide) rfl g5 dX7_leastBy_41 ?_
        refine zEV.aload_n dX7_leastBy_42 rfl 0 rfl ?_
        refine zEV.gfr rfl inz7 0 (by decide) wf_RX7_9 (by decide) rfl rfl dX7_leastBy_43 ?_
        refine zEV.iconst (v := 4) dX7_leastBy_46 rfl ?_
        obtain ⟨g6, h⟩ := ite_no h
        refine zEV.iald (by decide) rfl g6 dX7_leastBy_47 ?_
        obtain ⟨q7, hq7, h⟩ := bind_yes h
        refine zEV.callVi (kX7_canBe (((wr M 159 (Int32.toNatClampNeg a1) l5).1 159 (Int32.toNatClampNeg 2))) (((wr M 159 (Int32.toNatClampNeg a1) l5).1 159 (Int32.toNatClampNeg 3))) (((wr M 159 (Int32.toNatClampNeg a1) l5).1 159 (Int32.toNatClampNeg 4)))  (wr M 159 (Int32.toNatClampNeg a1) l5) q7 hq7) (by decide) rfl rfl wm_RX7_227 wc_X7_canBe hy_X7_canBe rfl ⟨Nat.le_of_ble_eq_true rfl, Nat.le_of_ble_eq_true rfl⟩ rfl (Nat.le_of_ble_eq_true rfl) dX7_leastBy_48 ?_
        refine zEV.istore dX7_leastBy_51 (Nat.le_of_ble_eq_true rfl) rfl ?_
        refine zEV.iload dX7_leastBy_53 0 rfl ?_
        refine zEV.if_eq 62 dX7_leastBy_55 (by decide) (fun c8 => ?_) (fun c8 => ?_)
        · rw [if_pos c8] at h
          exact zEV.perm [1, 2, 3, 4, 5, 0] rfl (tX7_leastBy_62 (fX7_leastBy_10 a1 a2 a3 a4 n) a1 a2 a3 a4 (fun l5 l6 M9 q9 h9 => ih l5 l6 M9 q9 h9) (l5) (q7.1) q7.2 q h)
        · rw [if_neg c8] at h
          refine zEV.aload_n dX7_leastBy_58 rfl 1 rfl ?_
          obtain ⟨q9, hq9, h⟩ := bind_yes h
          refine zEV.callVv (kX7_set   q7.2 q9 hq9) (by decide) rfl rfl wm_RX7_164 wc_X7_set hy_X7_set rfl ⟨Nat.le_of_ble_eq_true rfl, Nat.le_of_ble_eq_true rfl⟩ rfl (Nat.le_of_ble_eq_true rfl) dX7_leastBy_59 ?_
          exact zEV.perm [1, 2, 3, 4, 5, 0] rfl (tX7_leastBy_62 (fX7_leastBy_10 a1 a2 a3 a4 n) a1 a2 a3 a4 (fun l5 l6 M9 q9 h9 => ih l5 l6 M9 q9 h9) (l5) (q7.1) q9 q h)
def fX7_leastBy (a1 : Int32) (a2 : Int32) (a3 : Int32) (a4 : Int32) (M : zMM) : Option (Int32 × zMM) :=
  (fX7_layAside  M).bind fun q1 =>
  fX7_leastBy_10 a1 a2 a3 a4 zFU (a2) (0) q1
set_option maxRecDepth 4000 in
theorem tX7_leastBy_0 (a1 : Int32) (a2 : Int32) (a3 : Int32) (a4 : Int32) (M : zMM) (q : Int32 × zMM) (h : fX7_leastBy a1 a2 a3 a4  M = some q) : zEV iX7_leastBy 0 0 (zZO (some (.inl q.1), q.2)) 0 [(0, .inr (.inr 158)), (1, .inl a1), (2, .inl a2), (3, .inl a3), (4, .inl a4)] [] M := by
  unfold fX7_leastBy at h
  refine zEV.aload_n dX7_leastBy_0 rfl 0 rfl ?_
  obtain ⟨q1, hq1, h⟩ := bind_yes h
  refine zEV.callVv (kX7_layAside   M q1 hq1) (by decide) rfl rfl wm_RX7_230 wc_X7_layAside hy_X7_layAside rfl ⟨Nat.le_of_ble_eq_true rfl, Nat.le_of_ble_eq_true rfl⟩ rfl (Nat.le_of_ble_eq_true rfl) dX7_leastBy_1 ?_
  refine zEV.iload_n dX7_leastBy_4 rfl 2 rfl ?_
  refine zEV.istore dX7_leastBy_5 (Nat.le_of_ble_eq_true rfl) rfl ?_
  refine zEV.iconst (v := 0) dX7_leastBy_7 rfl ?_
  refine zEV.istore dX7_leastBy_8 (Nat.le_of_ble_eq_true rfl) rfl ?_
  exact zEV.perm [2, 3, 5, 6, 1, 0] rfl (tX7_leastBy_10 a1 a2 a3 a4 zFU (a2) (0) q1 q h)
theorem kX7_leastBy (a1 : Int32) (a2 : Int32) (a3 : Int32) (a4 : Int32) (M : zMM) (q : Int32 × zMM) (h : fX7_leastBy a1 a2 a3 a4 M = some q) : zCN yX7_leastBy iX7_leastBy [.inr (.inr 158), .inl a1, .inl a2, .inl a3, .inl a4] M (some (.inl q.1), q.2) :=
  zCN.of (by decide) rfl rfl (Nat.le_of_ble_eq_true rfl) (zEV.perm [0, 1, 2, 3, 4] rfl (tX7_leastBy_0 a1 a2 a3 a4 M q h))
-- RingedPageModel.narrow
def fX7_narrow (a1 : Int32) (M : zMM) : Option (Int32 × zMM) :=
  (fX7_in (a1) (1) (9) (wr M 158 5 0)).bind fun q1 =>
  if q1.1 = (0 : Int32) then
    some ((-1), q1.2)
  else
    (fX7_leastBy (0) (29) (60) (a1) q1.2).bind fun q3 =>
    some (q3.1, q3.2)
set_option maxRecDepth 4000 in
theorem tX7_narrow_0 (a1 : Int32) (M : zMM) (q : Int32 × zMM) (h : fX7_narrow a1  M = some q) : zEV iX7_narrow 0 0 (zZO (some (.inl q.1), q.2)) 0 [(0, .inr (.inr 158)), (1, .inl a1)] [] M := by
  unfold fX7_narrow at h
  refine zEV.aload_n dX7_narrow_0 rfl 0 rfl ?_
  refine zEV.iconst (v := 0) dX7_narrow_1 rfl ?_
  refine zEV.pfi rfl inz7 tyX7 tyX7_ok nmX7 5 (by decide) wf_RX7_58 rfl (by decide +kernel) (by decide) rfl rfl dX7_narrow_2 ?_
  refine zEV.iload_n dX7_narrow_5 rfl 1 rfl ?_
  refine zEV.iconst (v := 1) dX7_narrow_6 rfl ?_
  refine zEV.bipush (v := 9) dX7_narrow_7 rfl ?_
  obtain ⟨q1, hq1, h⟩ := bind_yes h
  refine zEV.callSi (kX7_in (a1) (1) (9)  (wr M 158 5 0) q1 hq1) wm_RX7_65 wc_X7_in hy_X7_in rfl ⟨Nat.le_of_ble_eq_true rfl, Nat.le_of_ble_eq_true rfl⟩ rfl (Nat.le_of_ble_eq_true rfl) dX7_narrow_9 ?_
  refine zEV.if_eq 28 dX7_narrow_12 (by decide) (fun c2 => ?_) (fun c2 => ?_)
  · rw [if_pos c2] at h
    refine zEV.iconst (v := (-1)) dX7_narrow_28 rfl ?_
    cases h
    exact zEV.iret rfl dX7_narrow_29
  · rw [if_neg c2] at h
    refine zEV.aload_n dX7_narrow_15 rfl 0 rfl ?_
    refine zEV.iconst (v := 0) dX7_narrow_16 rfl ?_
    refine zEV.bipush (v := 29) dX7_narrow_17 rfl ?_
    refine zEV.bipush (v := 60) dX7_narrow_19 rfl ?_
    refine zEV.iload_n dX7_narrow_21 rfl 1 rfl ?_
    obtain ⟨q3, hq3, h⟩ := bind_yes h
    refine zEV.callVi (kX7_leastBy (0) (29) (60) (a1)  q1.2 q3 hq3) (by decide) rfl rfl wm_RX7_261 wc_X7_leastBy hy_X7_leastBy rfl ⟨Nat.le_of_ble_eq_true rfl, Nat.le_of_ble_eq_true rfl⟩ rfl (Nat.le_of_ble_eq_true rfl) dX7_narrow_22 ?_
    refine zEV.goto 29 dX7_narrow_25 (by decide) ?_
    cases h
    exact zEV.iret rfl dX7_narrow_29
theorem kX7_narrow (a1 : Int32) (M : zMM) (q : Int32 × zMM) (h : fX7_narrow a1 M = some q) : zCN yX7_narrow iX7_narrow [.inr (.inr 158), .inl a1] M (some (.inl q.1), q.2) :=
  zCN.of (by decide) rfl rfl (Nat.le_of_ble_eq_true rfl) (zEV.perm [0, 1] rfl (tX7_narrow_0 a1 M q h))
-- RingedPageModel.low
def fX7_low (a1 : Int32) (M : zMM) : Option (Int32 × zMM) :=
  (fX7_in (a1) (1) (9) (wr M 158 5 0)).bind fun q1 =>
  if q1.1 = (0 : Int32) then
    some ((-1), q1.2)
  else
    (fX7_leastBy (1) (3) (40) (a1) q1.2).bind fun q3 =>
    some (q3.1, q3.2)
set_option maxRecDepth 4000 in
theorem tX7_low_0 (a1 : Int32) (M : zMM) (q : Int32 × zMM) (h : fX7_low a1  M = some q) : zEV iX7_low 0 0 (zZO (some (.inl q.1), q.2)) 0 [(0, .inr (.inr 158)), (1, .inl a1)] [] M := by
  unfold fX7_low at h
  refine zEV.aload_n dX7_low_0 rfl 0 rfl ?_
  refine zEV.iconst (v := 0) dX7_low_1 rfl ?_
  refine zEV.pfi rfl inz7 tyX7 tyX7_ok nmX7 5 (by decide) wf_RX7_58 rfl (by decide +kernel) (by decide) rfl rfl dX7_low_2 ?_
  refine zEV.iload_n dX7_low_5 rfl 1 rfl ?_
  refine zEV.iconst (v := 1) dX7_low_6 rfl ?_
  refine zEV.bipush (v := 9) dX7_low_7 rfl ?_
  obtain ⟨q1, hq1, h⟩ := bind_yes h
  refine zEV.callSi (kX7_in (a1) (1) (9)  (wr M 158 5 0) q1 hq1) wm_RX7_65 wc_X7_in hy_X7_in rfl ⟨Nat.le_of_ble_eq_true rfl, Nat.le_of_ble_eq_true rfl⟩ rfl (Nat.le_of_ble_eq_true rfl) dX7_low_9 ?_
  refine zEV.if_eq 27 dX7_low_12 (by decide) (fun c2 => ?_) (fun c2 => ?_)
  · rw [if_pos c2] at h
    refine zEV.iconst (v := (-1)) dX7_low_27 rfl ?_
    cases h
    exact zEV.iret rfl dX7_low_28
  · rw [if_neg c2] at h
    refine zEV.aload_n dX7_low_15 rfl 0 rfl ?_
    refine zEV.iconst (v := 1) dX7_low_16 rfl ?_
    refine zEV.iconst (v := 3) dX7_low_17 rfl ?_
    refine zEV.bipush (v := 40) dX7_low_18 rfl ?_
    refine zEV.iload_n dX7_low_20 rfl 1 rfl ?_
    obtain ⟨q3, hq3, h⟩ := bind_yes h
    refine zEV.callVi (kX7_leastBy (1) (3) (40) (a1)  q1.2 q3 hq3) (by decide) rfl rfl wm_RX7_261 wc_X7_leastBy hy_X7_leastBy rfl ⟨Nat.le_of_ble_eq_true rfl, Nat.le_of_ble_eq_true rfl⟩ rfl (Nat.le_of_ble_eq_true rfl) dX7_low_21 ?_
    refine zEV.goto 28 dX7_low_24 (by decide) ?_
    cases h
    exact zEV.iret rfl dX7_low_28
theorem kX7_low (a1 : Int32) (M : zMM) (q : Int32 × zMM) (h : fX7_low a1 M = some q) : zCN yX7_low iX7_low [.inr (.inr 158), .inl a1] M (some (.inl q.1), q.2) :=
  zCN.of (by decide) rfl rfl (Nat.le_of_ble_eq_true rfl) (zEV.perm [0, 1] rfl (tX7_low_0 a1 M q h))
-- RingedPageModel.shiftTies
def fX7_shiftTies_73 (K3 : Int32 → zMM → Option (zMM)) (a1 : Int32) (a2 : Int32) (a3 : Int32) (l4 : Int32) (M : zMM) : Option (zMM) :=
  K3 ((l4 + 1)) M
set_option maxRecDepth 4000 in
theorem tX7_shiftTies_73 (K3 : Int32 → zMM → Option (zMM)) (a1 : Int32) (a2 : Int32) (a3 : Int32) (hK3 : ∀ (l4 : Int32) (M : zMM) (q : zMM), K3 l4 M = some q → zEV iX7_shiftTies 0 0 (zZO (none, q)) 3 [(0, .inr (.inr 158)), (1, .inl a1), (2, .inl a2), (3, .inl a3), (4, .inl l4)] [] M) (l4 : Int32) (M : zMM) (q : zMM) (h : fX7_shiftTies_73 K3 a1 a2 a3 l4 M = some q) : zEV iX7_shiftTies 0 0 (zZO (none, q)) 73 [(0, .inr (.inr 158)), (1, .inl a1), (2, .inl a2), (3, .inl a3), (4, .inl l4)] [] M := by
  unfold fX7_shiftTies_73 at h
  refine zEV.iinc (v := (l4 + 1)) dX7_shiftTies_73 4 rfl rfl (Nat.le_of_ble_eq_true rfl) rfl ?_
  refine zEV.goto 3 dX7_shiftTies_76 (by decide) ?_
  exact zEV.perm [1, 2, 3, 4, 0] rfl (hK3 ((l4 + 1)) M q h)
def fX7_shiftTies_51 (K3 : Int32 → zMM → Option (zMM)) (a1 : Int32) (a2 : Int32) (a3 : Int32) (l4 : Int32) (l5 : Int32) (M : zMM) : Option (zMM) :=
  if oob (l5) 259 then none else
  if (M.1 159 (Int32.toNatClampNeg l5)) < a2 then
    fX7_shiftTies_73 K3 a1 a2 a3 (l4) M
  else
    fX7_shiftTies_73 K3 a1 a2 a3 (l4) (wr M 159 (Int32.toNatClampNeg l5) ((M.1 159 (Int32.toNatClampNeg l5)) + a3))
set_option maxRecDepth 4000 in
theorem tX7_shiftTies_51 (K3 : Int32 → zMM → Option (zMM)) (a1 : Int32) (a2 : Int32) (a3 : Int32) (hK3 : ∀ (l4 : Int32) (M : zMM) (q : zMM), K3 l4 M = some q → zEV iX7_shiftTies 0 0 (zZO (none, q)) 3 [(0, .inr (.inr 158)), (1, .inl a1), (2, .inl a2), (3, .inl a3), (4, .inl l4)] [] M) (l4 : Int32) (l5 : Int32) (M : zMM) (q : zMM) (h : fX7_shiftTies_51 K3 a1 a2 a3 l4 l5 M = some q) : zEV iX7_shiftTies 0 0 (zZO (none, q)) 51 [(0, .inr (.inr 158)), (1, .inl a1), (2, .inl a2), (3, .inl a3), (4, .inl l4), (5, .inl l5)] [] M := by
  unfold fX7_shiftTies_51 at h
  refine zEV.aload_n dX7_shiftTies_51 rfl 0 rfl ?_
  refine zEV.gfr rfl inz7 0 (by decide) wf_RX7_9 (by decide) rfl rfl dX7_shiftTies_52 ?_
  refine zEV.iload dX7_shiftTies_55 5 rfl ?_
  obtain ⟨g1, h⟩ := ite_no h
  refine zEV.iald (by decide) rfl g1 dX7_shiftTies_57 ?_
  refine zEV.iload_n dX7_shiftTies_58 rfl 2 rfl ?_
  refine zEV.icmp_lt 73 dX7_shiftTies_59 (by decide) (fun c2 => ?_) (fun c2 => ?_)
  · rw [if_pos c2] at h
    exact zEV.perm [0, 1, 2, 3, 4] rfl (tX7_shiftTies_73 K3 a1 a2 a3 hK3 (l4) M q h)
  · rw [if_neg c2] at h
    refine zEV.aload_n dX7_shiftTies_62 rfl 0 rfl ?_
    refine zEV.gfr rfl inz7 0 (by decide) wf_RX7_9 (by decide) rfl rfl dX7_shiftTies_63 ?_
    refine zEV.iload dX7_shiftTies_66 5 rfl ?_
    refine zEV.dup2 dX7_shiftTies_68 rfl rfl ?_
    refine zEV.iald (by decide) rfl g1 dX7_shiftTies_69 ?_
    refine zEV.iload_n dX7_shiftTies_70 rfl 3 rfl ?_
    refine zEV.iadd dX7_shiftTies_71 ?_
    refine zEV.iast (by decide) rfl g1 dX7_shiftTies_72 ?_
    exact zEV.perm [0, 1, 2, 3, 4] rfl (tX7_shiftTies_73 K3 a1 a2 a3 hK3 (l4) (wr M 159 (Int32.toNatClampNeg l5) ((M.1 159 (Int32.toNatClampNeg l5)) + a3)) q h)
def fX7_shiftTies_33 (K3 : Int32 → zMM → Option (zMM)) (a1 : Int32) (a2 : Int32) (a3 : Int32) (l4 : Int32) (s0 : Int32) (s1 : Int32) (M : zMM) : Option (zMM) :=
  if a1 = (0 : Int32) then
    fX7_shiftTies_51 K3 a1 a2 a3 (l4) ((s1 + s0)) M
  else
    (fX7_tied (l4) (0) M).bind fun q2 =>
    if q2.1 = a1 then
      fX7_shiftTies_51 K3 a1 a2 a3 (l4) ((s1 + s0)) q2.2
    else
      fX7_shiftTies_73 K3 a1 a2 a3 (l4) q2.2
set_option maxRecDepth 4000 in
theorem tX7_shiftTies_33 (K3 : Int32 → zMM → Option (zMM)) (a1 : Int32) (a2 : Int32) (a3 : Int32) (hK3 : ∀ (l4 : Int32) (M : zMM) (q : zMM), K3 l4 M = some q → zEV iX7_shiftTies 0 0 (zZO (none, q)) 3 [(0, .inr (.inr 158)), (1, .inl a1), (2, .inl a2), (3, .inl a3), (4, .inl l4)] [] M) (l4 : Int32) (s0 : Int32) (s1 : Int32) (M : zMM) (q : zMM) (h : fX7_shiftTies_33 K3 a1 a2 a3 l4 s0 s1 M = some q) : zEV iX7_shiftTies 0 0 (zZO (none, q)) 33 [(0, .inr (.inr 158)), (1, .inl a1), (2, .inl a2), (3, .inl a3), (4, .inl l4)] [.inl s0, .inl s1] M := by
  unfold fX7_shiftTies_33 at h
  refine zEV.iadd dX7_shiftTies_33 ?_
  refine zEV.istore dX7_shiftTies_34 (Nat.le_of_ble_eq_true rfl) rfl ?_
  refine zEV.iload_n dX7_shiftTies_36 rfl 2 rfl ?_
  refine zEV.if_eq 51 dX7_shiftTies_37 (by decide) (fun c1 => ?_) (fun c1 => ?_)
  · rw [if_pos c1] at h
    exact zEV.perm [1, 2, 3, 4, 5, 0] rfl (tX7_shiftTies_51 K3 a1 a2 a3 hK3 (l4) ((s1 + s0)) M q h)
  · rw [if_neg c1] at h
    refine zEV.aload_n dX7_shiftTies_40 rfl 1 rfl ?_
    refine zEV.iload dX7_shiftTies_41 5 rfl ?_
    refine zEV.iconst (v := 0) dX7_shiftTies_43 rfl ?_
    obtain ⟨q2, hq2, h⟩ := bind_yes h
    refine zEV.callVi (kX7_tied (l4) (0)  M q2 hq2) (by decide) rfl rfl wm_RX7_110 wc_X7_tied hy_X7_tied rfl ⟨Nat.le_of_ble_eq_true rfl, Nat.le_of_ble_eq_true rfl⟩ rfl (Nat.le_of_ble_eq_true rfl) dX7_shiftTies_44 ?_
    refine zEV.iload_n dX7_shiftTies_47 rfl 2 rfl ?_
    refine zEV.icmp_ne 73 dX7_shiftTies_48 (by decide) (fun c3 => ?_) (fun c3 => ?_)
    · rw [if_neg c3] at h
      exact zEV.perm [1, 2, 3, 4, 5] rfl (tX7_shiftTies_73 K3 a1 a2 a3 hK3 (l4) q2.2 q h)
    · rw [if_pos c3] at h
      exact zEV.perm [1, 2, 3, 4, 5, 0] rfl (tX7_shiftTies_51 K3 a1 a2 a3 hK3 (l4) ((s1 + s0)) q2.2 q h)
def fX7_shiftTies_3 (a1 : Int32) (a2 : Int32) (a3 : Int32) : Nat → Int32 → zMM → Option (zMM)
  | 0, _, _ => none
  | n + 1, l4, M =>
  if oob (218) 259 then none else
  if (M.1 159 (Int32.toNatClampNeg 218)) ≤ l4 then
    some M
  else
    if a1 = (0 : Int32) then
      fX7_shiftTies_33 (fX7_shiftTies_3 a1 a2 a3 n) a1 a2 a3 (l4) (2) ((219 + (3 * l4))) M
    else
      fX7_shiftTies_33 (fX7_shiftTies_3 a1 a2 a3 n) a1 a2 a3 (l4) (1) ((219 + (3 * l4))) M
set_option maxRecDepth 4000 in
theorem tX7_shiftTies_3 (a1 : Int32) (a2 : Int32) (a3 : Int32) : ∀ (n : Nat) (l4 : Int32) (M : zMM) (q : zMM), fX7_shiftTies_3 a1 a2 a3 n l4 M = some q → zEV iX7_shiftTies 0 0 (zZO (none, q)) 3 [(0, .inr (.inr 158)), (1, .inl a1), (2, .inl a2), (3, .inl a3), (4, .inl l4)] [] M := by
  intro n
  induction n with
  | zero =>
    intro l4 M q h
    rw [fX7_shiftTies_3] at h
    cases h
  | succ n ih =>
    intro l4 M q h
    rw [fX7_shiftTies_3] at h
    refine zEV.iload dX7_shiftTies_3 4 rfl ?_
    refine zEV.aload_n dX7_shiftTies_5 rfl 0 rfl ?_
    refine zEV.gfr rfl inz7 0 (by decide) wf_RX7_9 (by decide) rfl rfl dX7_shiftTies_6 ?_
    refine zEV.sipush (v := 218) dX7_shiftTies_9 rfl ?_
    obtain ⟨g1, h⟩ := ite_no h
    refine zEV.iald (by decide) rfl g1 dX7_shiftTies_12 ?_
    refine zEV.icmp_ge 79 dX7_shiftTies_13 (by decide) (fun c2 => ?_) (fun c2 => ?_)
    · rw [if_pos c2] at h
      cases h
      exact zEV.vret rfl dX7_shiftTies_79
    · rw [if_neg c2] at h
      refine zEV.sipush (v := 219) dX7_shiftTies_16 rfl ?_
      refine zEV.iconst (v := 3) dX7_shiftTies_19 rfl ?_
      refine zEV.iload dX7_shiftTies_20 4 rfl ?_
      refine zEV.imul dX7_shiftTies_22 ?_
      refine zEV.iadd dX7_shiftTies_23 ?_
      refine zEV.iload_n dX7_shiftTies_24 rfl 1 rfl ?_
      refine zEV.if_ne 32 dX7_shiftTies_25 (by decide) (fun c3 => ?_) (fun c3 => ?_)
      · rw [if_neg c3] at h
        refine zEV.iconst (v := 1) dX7_shiftTies_32 rfl ?_
        exact zEV.perm [0, 1, 2, 3, 4] rfl (tX7_shiftTies_33 (fX7_shiftTies_3 a1 a2 a3 n) a1 a2 a3 (fun l4 M9 q9 h9 => ih l4 M9 q9 h9) (l4) (1) ((219 + (3 * l4))) M q h)
      · rw [if_pos c3] at h
        refine zEV.iconst (v := 2) dX7_shiftTies_28 rfl ?_
        refine zEV.goto 33 dX7_shiftTies_29 (by decide) ?_
        exact zEV.perm [0, 1, 2, 3, 4] rfl (tX7_shiftTies_33 (fX7_shiftTies_3 a1 a2 a3 n) a1 a2 a3 (fun l4 M9 q9 h9 => ih l4 M9 q9 h9) (l4) (2) ((219 + (3 * l4))) M q h)
def fX7_shiftTies (a1 : Int32) (a2 : Int32) (a3 : Int32) (M : zMM) : Option (zMM) :=
  fX7_shiftTies_3 a1 a2 a3 zFU (0) M
set_option maxRecDepth 4000 in
theorem tX7_shiftTies_0 (a1 : Int32) (a2 : Int32) (a3 : Int32) (M : zMM) (q : zMM) (h : fX7_shiftTies a1 a2 a3  M = some q) : zEV iX7_shiftTies 0 0 (zZO (none, q)) 0 [(0, .inr (.inr 158)), (1, .inl a1), (2, .inl a2), (3, .inl a3)] [] M := by
  unfold fX7_shiftTies at h
  refine zEV.iconst (v := 0) dX7_shiftTies_0 rfl ?_
  refine zEV.istore dX7_shiftTies_1 (Nat.le_of_ble_eq_true rfl) rfl ?_
  exact zEV.perm [1, 2, 3, 4, 0] rfl (tX7_shiftTies_3 a1 a2 a3 zFU (0) M q h)
theorem kX7_shiftTies (a1 : Int32) (a2 : Int32) (a3 : Int32) (M : zMM) (q : zMM) (h : fX7_shiftTies a1 a2 a3 M = some q) : zCN yX7_shiftTies iX7_shiftTies [.inr (.inr 158), .inl a1, .inl a2, .inl a3] M (none, q) :=
  zCN.of (by decide) rfl rfl (Nat.le_of_ble_eq_true rfl) (zEV.perm [0, 1, 2, 3] rfl (tX7_shiftTies_0 a1 a2 a3 M q h))
-- RingedPageModel.put
def fX7_put_10 (a1 : Int32) (a2 : Int32) (a3 : Int32) : Nat → Int32 → zMM → Option (zMM)
  | 0, _, _ => none
  | n + 1, l4, M =>
  if l4 ≤ a2 then
    if oob (((8 + (70 * a1)) + a2)) 259 then none else
    if oob ((5 + a1)) 259 then none else
    (fX7_shiftTies (a1) (a2) (1) (wr (wr M 159 (Int32.toNatClampNeg ((8 + (70 * a1)) + a2)) a3) 159 (Int32.toNatClampNeg (5 + a1)) (((wr M 159 (Int32.toNatClampNeg ((8 + (70 * a1)) + a2)) a3).1 159 (Int32.toNatClampNeg (5 + a1))) + 1))).bind fun q4 =>
    some q4
  else
    if oob ((((8 + (70 * a1)) + l4) - 1)) 259 then none else
    if oob (((8 + (70 * a1)) + l4)) 259 then none else
    fX7_put_10 a1 a2 a3 n ((l4 + (-1))) (wr M 159 (Int32.toNatClampNeg ((8 + (70 * a1)) + l4)) (M.1 159 (Int32.toNatClampNeg (((8 + (70 * a1)) + l4) - 1))))
set_option maxRecDepth 4000 in
theorem tX7_put_10 (a1 : Int32) (a2 : Int32) (a3 : Int32) : ∀ (n : Nat) (l4 : Int32) (M : zMM) (q : zMM), fX7_put_10 a1 a2 a3 n l4 M = some q → zEV iX7_put 0 0 (zZO (none, q)) 10 [(0, .inr (.inr 158)), (1, .inl a1), (2, .inl a2), (3, .inl a3), (4, .inl l4)] [] M := by
  intro n
  induction n with
  | zero =>
    intro l4 M q h
    rw [fX7_put_10] at h
    cases h
  | succ n ih =>
    intro l4 M q h
    rw [fX7_put_10] at h
    refine zEV.iload dX7_put_10 4 rfl ?_
    refine zEV.iload_n dX7_put_12 rfl 2 rfl ?_
    refine zEV.icmp_le 54 dX7_put_13 (by decide) (fun c1 => ?_) (fun c1 => ?_)
    · rw [if_pos c1] at h
      refine zEV.aload_n dX7_put_54 rfl 0 rfl ?_
      refine zEV.gfr rfl inz7 0 (by decide) wf_RX7_9 (by decide) rfl rfl dX7_put_55 ?_
      refine zEV.bipush (v := 8) dX7_put_58 rfl ?_
      refine zEV.bipush (v := 70) dX7_put_60 rfl ?_
      refine zEV.iload_n dX7_put_62 rfl 1 rfl ?_
      refine zEV.imul dX7_put_63 ?_
      refine zEV.iadd dX7_put_64 ?_
      refine zEV.iload_n dX7_put_65 rfl 2 rfl ?_
      refine zEV.iadd dX7_put_66 ?_
      refine zEV.iload_n dX7_put_67 rfl 3 rfl ?_
      obtain ⟨g2, h⟩ := ite_no h
      refine zEV.iast (by decide) rfl g2 dX7_put_68 ?_
      refine zEV.aload_n dX7_put_69 rfl 0 rfl ?_
      refine zEV.gfr rfl inz7 0 (by decide) wf_RX7_9 (by decide) rfl rfl dX7_put_70 ?_
      refine zEV.iconst (v := 5) dX7_put_73 rfl ?_
      refine zEV.iload_n dX7_put_74 rfl 1 rfl ?_
      refine zEV.iadd dX7_put_75 ?_
      refine zEV.dup2 dX7_put_76 rfl rfl ?_
      obtain ⟨g3, h⟩ := ite_no h
      refine zEV.iald (by decide) rfl g3 dX7_put_77 ?_
      refine zEV.iconst (v := 1) dX7_put_78 rfl ?_
      refine zEV.iadd dX7_put_79 ?_
      refine zEV.iast (by decide) rfl g3 dX7_put_80 ?_
      refine zEV.aload_n dX7_put_81 rfl 0 rfl ?_
      refine zEV.iload_n dX7_put_82 rfl 1 rfl ?_
      refine zEV.iload_n dX7_put_83 rfl 2 rfl ?_
      refine zEV.iconst (v := 1) dX7_put_84 rfl ?_
      obtain ⟨q4, hq4, h⟩ := bind_yes h
      refine zEV.callVv (kX7_shiftTies (a1) (a2) (1)  (wr (wr M 159 (Int32.toNatClampNeg ((8 + (70 * a1)) + a2)) a3) 159 (Int32.toNatClampNeg (5 + a1)) (((wr M 159 (Int32.toNatClampNeg ((8 + (70 * a1)) + a2)) a3).1 159 (Int32.toNatClampNeg (5 + a1))) + 1)) q4 hq4) (by decide) rfl rfl wm_RX7_264 wc_X7_shiftTies hy_X7_shiftTies rfl ⟨Nat.le_of_ble_eq_true rfl, Nat.le_of_ble_eq_true rfl⟩ rfl (Nat.le_of_ble_eq_true rfl) dX7_put_85 ?_
      cases h
      exact zEV.vret rfl dX7_put_88
    · rw [if_neg c1] at h
      refine zEV.aload_n dX7_put_16 rfl 0 rfl ?_
      refine zEV.gfr rfl inz7 0 (by decide) wf_RX7_9 (by decide) rfl rfl dX7_put_17 ?_
      refine zEV.bipush (v := 8) dX7_put_20 rfl ?_
      refine zEV.bipush (v := 70) dX7_put_22 rfl ?_
      refine zEV.iload_n dX7_put_24 rfl 1 rfl ?_
      refine zEV.imul dX7_put_25 ?_
      refine zEV.iadd dX7_put_26 ?_
      refine zEV.iload dX7_put_27 4 rfl ?_
      refine zEV.iadd dX7_put_29 ?_
      refine zEV.aload_n dX7_put_30 rfl 0 rfl ?_
      refine zEV.gfr rfl inz7 0 (by decide) wf_RX7_9 (by decide) rfl rfl dX7_put_31 ?_
      refine zEV.bipush (v := 8) dX7_put_34 rfl ?_
      refine zEV.bipush (v := 70) dX7_put_36 rfl ?_
      refine zEV.iload_n dX7_put_38 rfl 1 rfl ?_
      refine zEV.imul dX7_put_39 ?_
      refine zEV.iadd dX7_put_40 ?_
      refine zEV.iload dX7_put_41 4 rfl ?_
      refine zEV.iadd dX7_put_43 ?_
      refine zEV.iconst (v := 1) dX7_put_44 rfl ?_
      refine zEV.isub dX7_put_45 ?_
      obtain ⟨g5, h⟩ := ite_no h
      refine zEV.iald (by decide) rfl g5 dX7_put_46 ?_
      obtain ⟨g6, h⟩ := ite_no h
      refine zEV.iast (by decide) rfl g6 dX7_put_47 ?_
      refine zEV.iinc (v := (l4 + (-1))) dX7_put_48 4 rfl rfl (Nat.le_of_ble_eq_true rfl) rfl ?_
      refine zEV.goto 10 dX7_put_51 (by decide) ?_
      exact zEV.perm [1, 2, 3, 4, 0] rfl (ih ((l4 + (-1))) (wr M 159 (Int32.toNatClampNeg ((8 + (70 * a1)) + l4)) (M.1 159 (Int32.toNatClampNeg (((8 + (70 * a1)) + l4) - 1)))) q h)
def fX7_put (a1 : Int32) (a2 : Int32) (a3 : Int32) (M : zMM) : Option (zMM) :=
  if oob ((5 + a1)) 259 then none else
  fX7_put_10 a1 a2 a3 zFU ((M.1 159 (Int32.toNatClampNeg (5 + a1)))) M
set_option maxRecDepth 4000 in
theorem tX7_put_0 (a1 : Int32) (a2 : Int32) (a3 : Int32) (M : zMM) (q : zMM) (h : fX7_put a1 a2 a3  M = some q) : zEV iX7_put 0 0 (zZO (none, q)) 0 [(0, .inr (.inr 158)), (1, .inl a1), (2, .inl a2), (3, .inl a3)] [] M := by
  unfold fX7_put at h
  refine zEV.aload_n dX7_put_0 rfl 0 rfl ?_
  refine zEV.gfr rfl inz7 0 (by decide) wf_RX7_9 (by decide) rfl rfl dX7_put_1 ?_
  refine zEV.iconst (v := 5) dX7_put_4 rfl ?_
  refine zEV.iload_n dX7_put_5 rfl 1 rfl ?_
  refine zEV.iadd dX7_put_6 ?_
  obtain ⟨g1, h⟩ := ite_no h
  refine zEV.iald (by decide) rfl g1 dX7_put_7 ?_
  refine zEV.istore dX7_put_8 (Nat.le_of_ble_eq_true rfl) rfl ?_
  exact zEV.perm [1, 2, 3, 4, 0] rfl (tX7_put_10 a1 a2 a3 zFU ((M.1 159 (Int32.toNatClampNeg (5 + a1)))) M q h)
theorem kX7_put (a1 : Int32) (a2 : Int32) (a3 : Int32) (M : zMM) (q : zMM) (h : fX7_put a1 a2 a3 M = some q) : zCN yX7_put iX7_put [.inr (.inr 158), .inl a1, .inl a2, .inl a3] M (none, q) :=
  zCN.of (by decide) rfl rfl (Nat.le_of_ble_eq_true rfl) (zEV.perm [0, 1, 2, 3] rfl (tX7_put_0 a1 a2 a3 M q h))
-- RingedPageModel.drop
def fX7_drop_77 (a1 : Int32) (a2 : Int32) : Nat → Int32 → zMM → Option (zMM)
  | 0, _, _ => none
  | n + 1, l3, M =>
  if oob ((5 + a1)) 259 then none else
  if (M.1 159 (Int32.toNatClampNeg (5 + a1))) ≤ l3 then
    if oob (((8 + (70 * a1)) + (M.1 159 (Int32.toNatClampNeg (5 + a1))))) 259 then none else
    (fX7_shiftTies (a1) (a2) ((-1)) (wr M 159 (Int32.toNatClampNeg ((8 + (70 * a1)) + (M.1 159 (Int32.toNatClampNeg (5 + a1))))) 0)).bind fun q4 =>
    some q4
  else
    if oob ((((8 + (70 * a1)) + l3) + 1)) 259 then none else
    if oob (((8 + (70 * a1)) + l3)) 259 then none else
    fX7_drop_77 a1 a2 n ((l3 + 1)) (wr M 159 (Int32.toNatClampNeg ((8 + (70 * a1)) + l3)) (M.1 159 (Int32.toNatClampNeg (((8 + (70 * a1)) + l3) + 1))))
set_option maxRecDepth 4000 in
theorem tX7_drop_77 (a1 : Int32) (a2 : Int32) : ∀ (n : Nat) (l3 : Int32) (M : zMM) (q : zMM), fX7_drop_77 a1 a2 n l3 M = some q → zEV iX7_drop 0 0 (zZO (none, q)) 77 [(0, .inr (.inr 158)), (1, .inl a1), (2, .inl a2), (3, .inl l3)] [] M := by
  intro n
  induction n with
  | zero =>
    intro l3 M q h
    rw [fX7_drop_77] at h
    cases h
  | succ n ih =>
    intro l3 M q h
    rw [fX7_drop_77] at h
    refine zEV.iload_n dX7_drop_77 rfl 3 rfl ?_
    refine zEV.aload_n dX7_drop_78 rfl 0 rfl ?_
    refine zEV.gfr rfl inz7 0 (by decide) wf_RX7_9 (by decide) rfl rfl dX7_drop_79 ?_
    refine zEV.iconst (v := 5) dX7_drop_82 rfl ?_
    refine zEV.iload_n dX7_drop_83 rfl 1 rfl ?_
    refine zEV.iadd dX7_drop_84 ?_
    obtain ⟨g1, h⟩ := ite_no h
    refine zEV.iald (by decide) rfl g1 dX7_drop_85 ?_
    refine zEV.icmp_ge 125 dX7_drop_86 (by decide) (fun c2 => ?_) (fun c2 => ?_)
    · rw [if_pos c2] at h
      refine zEV.aload_n dX7_drop_125 rfl 0 rfl ?_
      refine zEV.gfr rfl inz7 0 (by decide) wf_RX7_9 (by decide) rfl rfl dX7_drop_126 ?_
      refine zEV.bipush (v := 8) dX7_drop_129 rfl ?_
      refine zEV.bipush (v := 70) dX7_drop_131 rfl ?_
      refine zEV.iload_n dX7_drop_133 rfl 1 rfl ?_
      refine zEV.imul dX7_drop_134 ?_
      refine zEV.iadd dX7_drop_135 ?_
      refine zEV.aload_n dX7_drop_136 rfl 0 rfl ?_
      refine zEV.gfr rfl inz7 0 (by decide) wf_RX7_9 (by decide) rfl rfl dX7_drop_137 ?_
      refine zEV.iconst (v := 5) dX7_drop_140 rfl ?_
      refine zEV.iload_n dX7_drop_141 rfl 1 rfl ?_
      refine zEV.iadd dX7_drop_142 ?_
      refine zEV.iald (by decide) rfl g1 dX7_drop_143 ?_
      refine zEV.iadd dX7_drop_144 ?_
      refine zEV.iconst (v := 0) dX7_drop_145 rfl ?_
      obtain ⟨g3, h⟩ := ite_no h
      refine zEV.iast (by decide) rfl g3 dX7_drop_146 ?_
      refine zEV.aload_n dX7_drop_147 rfl 0 rfl ?_
      refine zEV.iload_n dX7_drop_148 rfl 1 rfl ?_
      refine zEV.iload_n dX7_drop_149 rfl 2 rfl ?_
      refine zEV.iconst (v := (-1)) dX7_drop_150 rfl ?_
      obtain ⟨q4, hq4, h⟩ := bind_yes h
      refine zEV.callVv (kX7_shiftTies (a1) (a2) ((-1))  (wr M 159 (Int32.toNatClampNeg ((8 + (70 * a1)) + (M.1 159 (Int32.toNatClampNeg (5 + a1))))) 0) q4 hq4) (by decide) rfl rfl wm_RX7_264 wc_X7_shiftTies hy_X7_shiftTies rfl ⟨Nat.le_of_ble_eq_true rfl, Nat.le_of_ble_eq_true rfl⟩ rfl (Nat.le_of_ble_eq_true rfl) dX7_drop_151 ?_
      cases h
      exact zEV.vret rfl dX7_drop_154
    · rw [if_neg c2] at h
      refine zEV.aload_n dX7_drop_89 rfl 0 rfl ?_
      refine zEV.gfr rfl inz7 0 (by decide) wf_RX7_9 (by decide) rfl rfl dX7_drop_90 ?_
      refine zEV.bipush (v := 8) dX7_drop_93 rfl ?_
      refine zEV.bipush (v := 70) dX7_drop_95 rfl ?_
      refine zEV.iload_n dX7_drop_97 rfl 1 rfl ?_
      refine zEV.imul dX7_drop_98 ?_
      refine zEV.iadd dX7_drop_99 ?_
      refine zEV.iload_n dX7_drop_100 rfl 3 rfl ?_
      refine zEV.iadd dX7_drop_101 ?_
      refine zEV.aload_n dX7_drop_102 rfl 0 rfl ?_
      refine zEV.gfr rfl inz7 0 (by decide) wf_RX7_9 (by decide) rfl rfl dX7_drop_103 ?_
      refine zEV.bipush (v := 8) dX7_drop_106 rfl ?_
      refine zEV.bipush (v := 70) dX7_drop_108 rfl ?_
      refine zEV.iload_n dX7_drop_110 rfl 1 rfl ?_
      refine zEV.imul dX7_drop_111 ?_
      refine zEV.iadd dX7_drop_112 ?_
      refine zEV.iload_n dX7_drop_113 rfl 3 rfl ?_
      refine zEV.iadd dX7_drop_114 ?_
      refine zEV.iconst (v := 1) dX7_drop_115 rfl ?_
      refine zEV.iadd dX7_drop_116 ?_
      obtain ⟨g5, h⟩ := ite_no h
      refine zEV.iald (by decide) rfl g5 dX7_drop_117 ?_
      obtain ⟨g6, h⟩ := ite_no h
      refine zEV.iast (by decide) rfl g6 dX7_drop_118 ?_
      refine zEV.iinc (v := (l3 + 1)) dX7_drop_119 3 rfl rfl (Nat.le_of_ble_eq_true rfl) rfl ?_
      refine zEV.goto 77 dX7_drop_122 (by decide) ?_
      exact zEV.perm [1, 2, 3, 0] rfl (ih ((l3 + 1)) (wr M 159 (Int32.toNatClampNeg ((8 + (70 * a1)) + l3)) (M.1 159 (Int32.toNatClampNeg (((8 + (70 * a1)) + l3) + 1)))) q h)
def fX7_drop_57 (K11 : Int32 → zMM → Option (zMM)) (a1 : Int32) (a2 : Int32) (l3 : Int32) (M : zMM) : Option (zMM) :=
  K11 ((l3 + (-1))) M
set_option maxRecDepth 4000 in
theorem tX7_drop_57 (K11 : Int32 → zMM → Option (zMM)) (a1 : Int32) (a2 : Int32) (hK11 : ∀ (l3 : Int32) (M : zMM) (q : zMM), K11 l3 M = some q → zEV iX7_drop 0 0 (zZO (none, q)) 11 [(0, .inr (.inr 158)), (1, .inl a1), (2, .inl a2), (3, .inl l3)] [] M) (l3 : Int32) (M : zMM) (q : zMM) (h : fX7_drop_57 K11 a1 a2 l3 M = some q) : zEV iX7_drop 0 0 (zZO (none, q)) 57 [(0, .inr (.inr 158)), (1, .inl a1), (2, .inl a2), (3, .inl l3)] [] M := by
  unfold fX7_drop_57 at h
  refine zEV.iinc (v := (l3 + (-1))) dX7_drop_57 3 rfl rfl (Nat.le_of_ble_eq_true rfl) rfl ?_
  refine zEV.goto 11 dX7_drop_60 (by decide) ?_
  exact zEV.perm [1, 2, 3, 0] rfl (hK11 ((l3 + (-1))) M q h)
def fX7_drop_52 (K11 : Int32 → zMM → Option (zMM)) (a1 : Int32) (a2 : Int32) (l3 : Int32) (M : zMM) : Option (zMM) :=
  (fX7_untie (l3) M).bind fun q1 =>
  fX7_drop_57 K11 a1 a2 (l3) q1
set_option maxRecDepth 4000 in
theorem tX7_drop_52 (K11 : Int32 → zMM → Option (zMM)) (a1 : Int32) (a2 : Int32) (hK11 : ∀ (l3 : Int32) (M : zMM) (q : zMM), K11 l3 M = some q → zEV iX7_drop 0 0 (zZO (none, q)) 11 [(0, .inr (.inr 158)), (1, .inl a1), (2, .inl a2), (3, .inl l3)] [] M) (l3 : Int32) (M : zMM) (q : zMM) (h : fX7_drop_52 K11 a1 a2 l3 M = some q) : zEV iX7_drop 0 0 (zZO (none, q)) 52 [(0, .inr (.inr 158)), (1, .inl a1), (2, .inl a2), (3, .inl l3)] [] M := by
  unfold fX7_drop_52 at h
  refine zEV.aload_n dX7_drop_52 rfl 0 rfl ?_
  refine zEV.iload_n dX7_drop_53 rfl 3 rfl ?_
  obtain ⟨q1, hq1, h⟩ := bind_yes h
  refine zEV.callVv (kX7_untie (l3)  M q1 hq1) (by decide) rfl rfl wm_RX7_114 wc_X7_untie hy_X7_untie rfl ⟨Nat.le_of_ble_eq_true rfl, Nat.le_of_ble_eq_true rfl⟩ rfl (Nat.le_of_ble_eq_true rfl) dX7_drop_54 ?_
  exact zEV.perm [0, 1, 2, 3] rfl (tX7_drop_57 K11 a1 a2 hK11 (l3) q1 q h)
def fX7_drop_11 (a1 : Int32) (a2 : Int32) : Nat → Int32 → zMM → Option (zMM)
  | 0, _, _ => none
  | n + 1, l3, M =>
  if l3 < (0 : Int32) then
    if oob ((5 + a1)) 259 then none else
    fX7_drop_77 a1 a2 zFU (a2) (wr M 159 (Int32.toNatClampNeg (5 + a1)) ((M.1 159 (Int32.toNatClampNeg (5 + a1))) - 1))
  else
    if a1 = (0 : Int32) then
      (fX7_tied (l3) (2) M).bind fun q8 =>
      if q8.1 = a2 then
        fX7_drop_52 (fX7_drop_11 a1 a2 n) a1 a2 (l3) q8.2
      else
        fX7_drop_57 (fX7_drop_11 a1 a2 n) a1 a2 (l3) q8.2
    else
      (fX7_tied (l3) (0) M).bind fun q4 =>
      if q4.1 = a1 then
        (fX7_tied (l3) (1) q4.2).bind fun q6 =>
        if q6.1 = a2 then
          fX7_drop_52 (fX7_drop_11 a1 a2 n) a1 a2 (l3) q6.2
        else
          fX7_drop_57 (fX7_drop_11 a1 a2 n) a1 a2 (l3) q6.2
      else
        fX7_drop_57 (fX7_drop_11 a1 a2 n) a1 a2 (l3) q4.2
set_option maxRecDepth 4000 in
theorem tX7_drop_11 (a1 : Int32) (a2 : Int32) : ∀ (n : Nat) (l3 : Int32) (M : zMM) (q : zMM), fX7_drop_11 a1 a2 n l3 M = some q → zEV iX7_drop 0 0 (zZO (none, q)) 11 [(0, .inr (.inr 158)), (1, .inl a1), (2, .inl a2), (3, .inl l3)] [] M := by
  intro n
  induction n with
  | zero =>
    intro l3 M q h
    rw [fX7_drop_11] at h
    cases h
  | succ n ih =>
    intro l3 M q h
    rw [fX7_drop_11] at h
    refine zEV.iload_n dX7_drop_11 rfl 3 rfl ?_
    refine zEV.if_lt 63 dX7_drop_12 (by decide) (fun c1 => ?_) (fun c1 => ?_)
    · rw [if_pos c1] at h
      refine zEV.aload_n dX7_drop_63 rfl 0 rfl ?_
      refine zEV.gfr rfl inz7 0 (by decide) wf_RX7_9 (by decide) rfl rfl dX7_drop_64 ?_
      refine zEV.iconst (v := 5) dX7_drop_67 rfl ?_
      refine zEV.iload_n dX7_drop_68 rfl 1 rfl ?_
      refine zEV.iadd dX7_drop_69 ?_
      refine zEV.dup2 dX7_drop_70 rfl rfl ?_
      obtain ⟨g2, h⟩ := ite_no h
      refine zEV.iald (by decide) rfl g2 dX7_drop_71 ?_
      refine zEV.iconst (v := 1) dX7_drop_72 rfl ?_
      refine zEV.isub dX7_drop_73 ?_
      refine zEV.iast (by decide) rfl g2 dX7_drop_74 ?_
      refine zEV.iload_n dX7_drop_75 rfl 2 rfl ?_
      refine zEV.istore_n dX7_drop_76 rfl (Nat.le_of_ble_eq_true rfl) rfl ?_
      exact zEV.perm [1, 2, 3, 0] rfl (tX7_drop_77 a1 a2 zFU (a2) (wr M 159 (Int32.toNatClampNeg (5 + a1)) ((M.1 159 (Int32.toNatClampNeg (5 + a1))) - 1)) q h)
    · rw [if_neg c1] at h
      refine zEV.iload_n dX7_drop_15 rfl 1 rfl ?_
      refine zEV.if_ne 32 dX7_drop_16 (by decide) (fun c3 => ?_) (fun c3 => ?_)
      · rw [if_neg c3] at h
        refine zEV.aload_n dX7_drop_32 rfl 0 rfl ?_
        refine zEV.iload_n dX7_drop_33 rfl 3 rfl ?_
        refine zEV.iconst (v := 0) dX7_drop_34 rfl ?_
        obtain ⟨q4, hq4, h⟩ := bind_yes h
        refine zEV.callVi (kX7_tied (l3) (0)  M q4 hq4) (by decide) rfl rfl wm_RX7_110 wc_X7_tied hy_X7_tied rfl ⟨Nat.le_of_ble_eq_true rfl, Nat.le_of_ble_eq_true rfl⟩ rfl (Nat.le_of_ble_eq_true rfl) dX7_drop_35 ?_
        refine zEV.iload_n dX7_drop_38 rfl 1 rfl ?_
        refine zEV.icmp_ne 57 dX7_drop_39 (by decide) (fun c5 => ?_) (fun c5 => ?_)
        · rw [if_neg c5] at h
          exact zEV.perm [0, 1, 2, 3] rfl (tX7_drop_57 (fX7_drop_11 a1 a2 n) a1 a2 (fun l3 M9 q9 h9 => ih l3 M9 q9 h9) (l3) q4.2 q h)
        · rw [if_pos c5] at h
          refine zEV.aload_n dX7_drop_42 rfl 0 rfl ?_
          refine zEV.iload_n dX7_drop_43 rfl 3 rfl ?_
          refine zEV.iconst (v := 1) dX7_drop_44 rfl ?_
          obtain ⟨q6, hq6, h⟩ := bind_yes h
          refine zEV.callVi (kX7_tied (l3) (1)  q4.2 q6 hq6) (by decide) rfl rfl wm_RX7_110 wc_X7_tied hy_X7_tied rfl ⟨Nat.le_of_ble_eq_true rfl, Nat.le_of_ble_eq_true rfl⟩ rfl (Nat.le_of_ble_eq_true rfl) dX7_drop_45 ?_
          refine zEV.iload_n dX7_drop_48 rfl 2 rfl ?_
          refine zEV.icmp_ne 57 dX7_drop_49 (by decide) (fun c7 => ?_) (fun c7 => ?_)
          · rw [if_neg c7] at h
            exact zEV.perm [0, 1, 2, 3] rfl (tX7_drop_57 (fX7_drop_11 a1 a2 n) a1 a2 (fun l3 M9 q9 h9 => ih l3 M9 q9 h9) (l3) q6.2 q h)
          · rw [if_pos c7] at h
            exact zEV.perm [0, 1, 2, 3] rfl (tX7_drop_52 (fX7_drop_11 a1 a2 n) a1 a2 (fun l3 M9 q9 h9 => ih l3 M9 q9 h9) (l3) q6.2 q h)
      · rw [if_pos c3] at h
        refine zEV.aload_n dX7_drop_19 rfl 0 rfl ?_
        refine zEV.iload_n dX7_drop_20 rfl 3 rfl ?_
        refine zEV.iconst (v := 2) dX7_drop_21 rfl ?_
        obtain ⟨q8, hq8, h⟩ := bind_yes h
        refine zEV.callVi (kX7_tied (l3) (2)  M q8 hq8) (by decide) rfl rfl wm_RX7_110 wc_X7_tied hy_X7_tied rfl ⟨Nat.le_of_ble_eq_true rfl, Nat.le_of_ble_eq_true rfl⟩ rfl (Nat.le_of_ble_eq_true rfl) dX7_drop_22 ?_
        refine zEV.iload_n dX7_drop_25 rfl 2 rfl ?_
        refine zEV.icmp_ne 57 dX7_drop_26 (by decide) (fun c9 => ?_) (fun c9 => ?_)
        · rw [if_neg c9] at h
          exact zEV.perm [0, 1, 2, 3] rfl (tX7_drop_57 (fX7_drop_11 a1 a2 n) a1 a2 (fun l3 M9 q9 h9 => ih l3 M9 q9 h9) (l3) q8.2 q h)
        · rw [if_pos c9] at h
          refine zEV.goto 52 dX7_drop_29 (by decide) ?_
          exact zEV.perm [0, 1, 2, 3] rfl (tX7_drop_52 (fX7_drop_11 a1 a2 n) a1 a2 (fun l3 M9 q9 h9 => ih l3 M9 q9 h9) (l3) q8.2 q h)
def fX7_drop (a1 : Int32) (a2 : Int32) (M : zMM) : Option (zMM) :=
  if oob (218) 259 then none else
  fX7_drop_11 a1 a2 zFU (((M.1 159 (Int32.toNatClampNeg 218)) - 1)) M
set_option maxRecDepth 4000 in
theorem tX7_drop_0 (a1 : Int32) (a2 : Int32) (M : zMM) (q : zMM) (h : fX7_drop a1 a2  M = some q) : zEV iX7_drop 0 0 (zZO (none, q)) 0 [(0, .inr (.inr 158)), (1, .inl a1), (2, .inl a2)] [] M := by
  unfold fX7_drop at h
  refine zEV.aload_n dX7_drop_0 rfl 0 rfl ?_
  refine zEV.gfr rfl inz7 0 (by decide) wf_RX7_9 (by decide) rfl rfl dX7_drop_1 ?_
  refine zEV.sipush (v := 218) dX7_drop_4 rfl ?_
  obtain ⟨g1, h⟩ := ite_no h
  refine zEV.iald (by decide) rfl g1 dX7_drop_7 ?_
  refine zEV.iconst (v := 1) dX7_drop_8 rfl ?_
  refine zEV.isub dX7_drop_9 ?_
  refine zEV.istore_n dX7_drop_10 rfl (Nat.le_of_ble_eq_true rfl) rfl ?_
  exact zEV.perm [1, 2, 3, 0] rfl (tX7_drop_11 a1 a2 zFU (((M.1 159 (Int32.toNatClampNeg 218)) - 1)) M q h)
theorem kX7_drop (a1 : Int32) (a2 : Int32) (M : zMM) (q : zMM) (h : fX7_drop a1 a2 M = some q) : zCN yX7_drop iX7_drop [.inr (.inr 158), .inl a1, .inl a2] M (none, q) :=
  zCN.of (by decide) rfl rfl (Nat.le_of_ble_eq_true rfl) (zEV.perm [0, 1, 2] rfl (tX7_drop_0 a1 a2 M q h))
-- RingedPageModel.refusesWord
def fX7_refusesWord (a1 : Int32) (a2 : Int32) (a3 : Int32) (M : zMM) : Option (Int32 × zMM) :=
  (fX7_isText (a1) M).bind fun q1 =>
  if q1.1 = (0 : Int32) then
    some ((-1), q1.2)
  else
    if oob ((5 + a1)) 259 then none else
    (fX7_in (a2) (0) ((q1.2.1 159 (Int32.toNatClampNeg (5 + a1)))) q1.2).bind fun q4 =>
    if q4.1 = (0 : Int32) then
      some ((-1), q4.2)
    else
      (fX7_in (a3) (1) (9) q4.2).bind fun q6 =>
      if q6.1 = (0 : Int32) then
        some ((-1), q6.2)
      else
        if (q6.2.1 159 (Int32.toNatClampNeg (5 + a1))) = 70 then
          some ((-3), q6.2)
        else
          some (0, q6.2)
set_option maxRecDepth 4000 in
theorem tX7_refusesWord_0 (a1 : Int32) (a2 : Int32) (a3 : Int32) (M : zMM) (q : Int32 × zMM) (h : fX7_refusesWord a1 a2 a3  M = some q) : zEV iX7_refusesWord 0 0 (zZO (some (.inl q.1), q.2)) 0 [(0, .inr (.inr 158)), (1, .inl a1), (2, .inl a2), (3, .inl a3)] [] M := by
  unfold fX7_refusesWord at h
  refine zEV.iload_n dX7_refusesWord_0 rfl 1 rfl ?_
  obtain ⟨q1, hq1, h⟩ := bind_yes h
  refine zEV.callSi (kX7_isText (a1)  M q1 hq1) wm_RX7_69 wc_X7_isText hy_X7_isText rfl ⟨Nat.le_of_ble_eq_true rfl, Nat.le_of_ble_eq_true rfl⟩ rfl (Nat.le_of_ble_eq_true rfl) dX7_refusesWord_1 ?_
  refine zEV.if_eq 33 dX7_refusesWord_4 (by decide) (fun c2 => ?_) (fun c2 => ?_)
  · rw [if_pos c2] at h
    refine zEV.iconst (v := (-1)) dX7_refusesWord_33 rfl ?_
    cases h
    exact zEV.iret rfl dX7_refusesWord_34
  · rw [if_neg c2] at h
    refine zEV.iload_n dX7_refusesWord_7 rfl 2 rfl ?_
    refine zEV.iconst (v := 0) dX7_refusesWord_8 rfl ?_
    refine zEV.aload_n dX7_refusesWord_9 rfl 0 rfl ?_
    refine zEV.gfr rfl inz7 0 (by decide) wf_RX7_9 (by decide) rfl rfl dX7_refusesWord_10 ?_
    refine zEV.iconst (v := 5) dX7_refusesWord_13 rfl ?_
    refine zEV.iload_n dX7_refusesWord_14 rfl 1 rfl ?_
    refine zEV.iadd dX7_refusesWord_15 ?_
    obtain ⟨g3, h⟩ := ite_no h
    refine zEV.iald (by decide) rfl g3 dX7_refusesWord_16 ?_
    obtain ⟨q4, hq4, h⟩ := bind_yes h
    refine zEV.callSi (kX7_in (a2) (0) ((q1.2.1 159 (Int32.toNatClampNeg (5 + a1))))  q1.2 q4 hq4) wm_RX7_65 wc_X7_in hy_X7_in rfl ⟨Nat.le_of_ble_eq_true rfl, Nat.le_of_ble_eq_true rfl⟩ rfl (Nat.le_of_ble_eq_true rfl) dX7_refusesWord_17 ?_
    refine zEV.if_eq 33 dX7_refusesWord_20 (by decide) (fun c5 => ?_) (fun c5 => ?_)
    · rw [if_pos c5] at h
      refine zEV.iconst (v := (-1)) dX7_refusesWord_33 rfl ?_
      cases h
      exact zEV.iret rfl dX7_refusesWord_34
    · rw [if_neg c5] at h
      refine zEV.iload_n dX7_refusesWord_23 rfl 3 rfl ?_
      refine zEV.iconst (v := 1) dX7_refusesWord_24 rfl ?_
      refine zEV.bipush (v := 9) dX7_refusesWord_25 rfl ?_
      obtain ⟨q6, hq6, h⟩ := bind_yes h
      refine zEV.callSi (kX7_in (a3) (1) (9)  q4.2 q6 hq6) wm_RX7_65 wc_X7_in hy_X7_in rfl ⟨Nat.le_of_ble_eq_true rfl, Nat.le_of_ble_eq_true rfl⟩ rfl (Nat.le_of_ble_eq_true rfl) dX7_refusesWord_27 ?_
      refine zEV.if_ne 35 dX7_refusesWord_30 (by decide) (fun c7 => ?_) (fun c7 => ?_)
      · rw [if_neg c7] at h
        refine zEV.aload_n dX7_refusesWord_35 rfl 0 rfl ?_
        refine zEV.gfr rfl inz7 0 (by decide) wf_RX7_9 (by decide) rfl rfl dX7_refusesWord_36 ?_
        refine zEV.iconst (v := 5) dX7_refusesWord_39 rfl ?_
        refine zEV.iload_n dX7_refusesWord_40 rfl 1 rfl ?_
        refine zEV.iadd dX7_refusesWord_41 ?_
        refine zEV.iald (by decide) rfl g3 dX7_refusesWord_42 ?_
        refine zEV.bipush (v := 70) dX7_refusesWord_43 rfl ?_
        refine zEV.icmp_ne 53 dX7_refusesWord_45 (by decide) (fun c8 => ?_) (fun c8 => ?_)
        · rw [if_neg c8] at h
          refine zEV.iconst (v := 0) dX7_refusesWord_53 rfl ?_
          cases h
          exact zEV.iret rfl dX7_refusesWord_54
        · rw [if_pos c8] at h
          refine zEV.bipush (v := (-3)) dX7_refusesWord_48 rfl ?_
          refine zEV.goto 54 dX7_refusesWord_50 (by decide) ?_
          cases h
          exact zEV.iret rfl dX7_refusesWord_54
      · rw [if_pos c7] at h
        refine zEV.iconst (v := (-1)) dX7_refusesWord_33 rfl ?_
        cases h
        exact zEV.iret rfl dX7_refusesWord_34
theorem kX7_refusesWord (a1 : Int32) (a2 : Int32) (a3 : Int32) (M : zMM) (q : Int32 × zMM) (h : fX7_refusesWord a1 a2 a3 M = some q) : zCN yX7_refusesWord iX7_refusesWord [.inr (.inr 158), .inl a1, .inl a2, .inl a3] M (some (.inl q.1), q.2) :=
  zCN.of (by decide) rfl rfl (Nat.le_of_ble_eq_true rfl) (zEV.perm [0, 1, 2, 3] rfl (tX7_refusesWord_0 a1 a2 a3 M q h))
-- RingedPageModel.more
def fX7_more (a1 : Int32) (a2 : Int32) (a3 : Int32) (M : zMM) : Option (Int32 × zMM) :=
  (fX7_refusesWord (a1) (a2) (a3) (wr M 158 5 0)).bind fun q1 =>
  if (0 : Int32) ≤ q1.1 then
    (fX7_layAside  q1.2).bind fun q3 =>
    (fX7_put (a1) (a2) (a3) q3).bind fun q4 =>
    (fX7_costNow  q4).bind fun q5 =>
    (fX7_comesBack  q5.2).bind fun q6 =>
    some (q5.1, q6)
  else
    some (q1.1, q1.2)
set_option maxRecDepth 4000 in
theorem tX7_more_0 (a1 : Int32) (a2 : Int32) (a3 : Int32) (M : zMM) (q : Int32 × zMM) (h : fX7_more a1 a2 a3  M = some q) : zEV iX7_more 0 0 (zZO (some (.inl q.1), q.2)) 0 [(0, .inr (.inr 158)), (1, .inl a1), (2, .inl a2), (3, .inl a3)] [] M := by
  unfold fX7_more at h
  refine zEV.aload_n dX7_more_0 rfl 0 rfl ?_
  refine zEV.iconst (v := 0) dX7_more_1 rfl ?_
  refine zEV.pfi rfl inz7 tyX7 tyX7_ok nmX7 5 (by decide) wf_RX7_58 rfl (by decide +kernel) (by decide) rfl rfl dX7_more_2 ?_
  refine zEV.aload_n dX7_more_5 rfl 0 rfl ?_
  refine zEV.iload_n dX7_more_6 rfl 1 rfl ?_
  refine zEV.iload_n dX7_more_7 rfl 2 rfl ?_
  refine zEV.iload_n dX7_more_8 rfl 3 rfl ?_
  obtain ⟨q1, hq1, h⟩ := bind_yes h
  refine zEV.callVi (kX7_refusesWord (a1) (a2) (a3)  (wr M 158 5 0) q1 hq1) (by decide) rfl rfl wm_RX7_267 wc_X7_refusesWord hy_X7_refusesWord rfl ⟨Nat.le_of_ble_eq_true rfl, Nat.le_of_ble_eq_true rfl⟩ rfl (Nat.le_of_ble_eq_true rfl) dX7_more_9 ?_
  refine zEV.istore dX7_more_12 (Nat.le_of_ble_eq_true rfl) rfl ?_
  refine zEV.iload dX7_more_14 0 rfl ?_
  refine zEV.if_ge 22 dX7_more_16 (by decide) (fun c2 => ?_) (fun c2 => ?_)
  · rw [if_pos c2] at h
    refine zEV.aload_n dX7_more_22 rfl 1 rfl ?_
    obtain ⟨q3, hq3, h⟩ := bind_yes h
    refine zEV.callVv (kX7_layAside   q1.2 q3 hq3) (by decide) rfl rfl wm_RX7_230 wc_X7_layAside hy_X7_layAside rfl ⟨Nat.le_of_ble_eq_true rfl, Nat.le_of_ble_eq_true rfl⟩ rfl (Nat.le_of_ble_eq_true rfl) dX7_more_23 ?_
    refine zEV.aload_n dX7_more_26 rfl 1 rfl ?_
    refine zEV.iload_n dX7_more_27 rfl 2 rfl ?_
    refine zEV.iload_n dX7_more_28 rfl 3 rfl ?_
    refine zEV.iload_n dX7_more_29 rfl 4 rfl ?_
    obtain ⟨q4, hq4, h⟩ := bind_yes h
    refine zEV.callVv (kX7_put (a1) (a2) (a3)  q3 q4 hq4) (by decide) rfl rfl wm_RX7_270 wc_X7_put hy_X7_put rfl ⟨Nat.le_of_ble_eq_true rfl, Nat.le_of_ble_eq_true rfl⟩ rfl (Nat.le_of_ble_eq_true rfl) dX7_more_30 ?_
    refine zEV.aload_n dX7_more_33 rfl 1 rfl ?_
    obtain ⟨q5, hq5, h⟩ := bind_yes h
    refine zEV.callVi (kX7_costNow   q4 q5 hq5) (by decide) rfl rfl wm_RX7_217 wc_X7_costNow hy_X7_costNow rfl ⟨Nat.le_of_ble_eq_true rfl, Nat.le_of_ble_eq_true rfl⟩ rfl (Nat.le_of_ble_eq_true rfl) dX7_more_34 ?_
    refine zEV.istore dX7_more_37 (Nat.le_of_ble_eq_true rfl) rfl ?_
    refine zEV.aload_n dX7_more_39 rfl 2 rfl ?_
    obtain ⟨q6, hq6, h⟩ := bind_yes h
    refine zEV.callVv (kX7_comesBack   q5.2 q6 hq6) (by decide) rfl rfl wm_RX7_237 wc_X7_comesBack hy_X7_comesBack rfl ⟨Nat.le_of_ble_eq_true rfl, Nat.le_of_ble_eq_true rfl⟩ rfl (Nat.le_of_ble_eq_true rfl) dX7_more_40 ?_
    refine zEV.iload dX7_more_43 0 rfl ?_
    cases h
    exact zEV.iret rfl dX7_more_45
  · rw [if_neg c2] at h
    refine zEV.iload dX7_more_19 0 rfl ?_
    cases h
    exact zEV.iret rfl dX7_more_21
theorem kX7_more (a1 : Int32) (a2 : Int32) (a3 : Int32) (M : zMM) (q : Int32 × zMM) (h : fX7_more a1 a2 a3 M = some q) : zCN yX7_more iX7_more [.inr (.inr 158), .inl a1, .inl a2, .inl a3] M (some (.inl q.1), q.2) :=
  zCN.of (by decide) rfl rfl (Nat.le_of_ble_eq_true rfl) (zEV.perm [0, 1, 2, 3] rfl (tX7_more_0 a1 a2 a3 M q h))
-- RingedPageModel.less
def fX7_less (a1 : Int32) (a2 : Int32) (M : zMM) : Option (Int32 × zMM) :=
  (fX7_isWord (a1) (a2) (wr M 158 5 0)).bind fun q1 =>
  if q1.1 = (0 : Int32) then
    some ((-1), q1.2)
  else
    (fX7_layAside  q1.2).bind fun q3 =>
    (fX7_drop (a1) (a2) q3).bind fun q4 =>
    (fX7_costNow  q4).bind fun q5 =>
    (fX7_comesBack  q5.2).bind fun q6 =>
    some (q5.1, q6)
set_option maxRecDepth 4000 in
theorem tX7_less_0 (a1 : Int32) (a2 : Int32) (M : zMM) (q : Int32 × zMM) (h : fX7_less a1 a2  M = some q) : zEV iX7_less 0 0 (zZO (some (.inl q.1), q.2)) 0 [(0, .inr (.inr 158)), (1, .inl a1), (2, .inl a2)] [] M := by
  unfold fX7_less at h
  refine zEV.aload_n dX7_less_0 rfl 0 rfl ?_
  refine zEV.iconst (v := 0) dX7_less_1 rfl ?_
  refine zEV.pfi rfl inz7 tyX7 tyX7_ok nmX7 5 (by decide) wf_RX7_58 rfl (by decide +kernel) (by decide) rfl rfl dX7_less_2 ?_
  refine zEV.aload_n dX7_less_5 rfl 0 rfl ?_
  refine zEV.iload_n dX7_less_6 rfl 1 rfl ?_
  refine zEV.iload_n dX7_less_7 rfl 2 rfl ?_
  obtain ⟨q1, hq1, h⟩ := bind_yes h
  refine zEV.callVi (kX7_isWord (a1) (a2)  (wr M 158 5 0) q1 hq1) (by decide) rfl rfl wm_RX7_121 wc_X7_isWord hy_X7_isWord rfl ⟨Nat.le_of_ble_eq_true rfl, Nat.le_of_ble_eq_true rfl⟩ rfl (Nat.le_of_ble_eq_true rfl) dX7_less_8 ?_
  refine zEV.if_ne 16 dX7_less_11 (by decide) (fun c2 => ?_) (fun c2 => ?_)
  · rw [if_neg c2] at h
    refine zEV.aload_n dX7_less_16 rfl 0 rfl ?_
    obtain ⟨q3, hq3, h⟩ := bind_yes h
    refine zEV.callVv (kX7_layAside   q1.2 q3 hq3) (by decide) rfl rfl wm_RX7_230 wc_X7_layAside hy_X7_layAside rfl ⟨Nat.le_of_ble_eq_true rfl, Nat.le_of_ble_eq_true rfl⟩ rfl (Nat.le_of_ble_eq_true rfl) dX7_less_17 ?_
    refine zEV.aload_n dX7_less_20 rfl 0 rfl ?_
    refine zEV.iload_n dX7_less_21 rfl 1 rfl ?_
    refine zEV.iload_n dX7_less_22 rfl 2 rfl ?_
    obtain ⟨q4, hq4, h⟩ := bind_yes h
    refine zEV.callVv (kX7_drop (a1) (a2)  q3 q4 hq4) (by decide) rfl rfl wm_RX7_273 wc_X7_drop hy_X7_drop rfl ⟨Nat.le_of_ble_eq_true rfl, Nat.le_of_ble_eq_true rfl⟩ rfl (Nat.le_of_ble_eq_true rfl) dX7_less_23 ?_
    refine zEV.aload_n dX7_less_26 rfl 0 rfl ?_
    obtain ⟨q5, hq5, h⟩ := bind_yes h
    refine zEV.callVi (kX7_costNow   q4 q5 hq5) (by decide) rfl rfl wm_RX7_217 wc_X7_costNow hy_X7_costNow rfl ⟨Nat.le_of_ble_eq_true rfl, Nat.le_of_ble_eq_true rfl⟩ rfl (Nat.le_of_ble_eq_true rfl) dX7_less_27 ?_
    refine zEV.istore_n dX7_less_30 rfl (Nat.le_of_ble_eq_true rfl) rfl ?_
    refine zEV.aload_n dX7_less_31 rfl 1 rfl ?_
    obtain ⟨q6, hq6, h⟩ := bind_yes h
    refine zEV.callVv (kX7_comesBack   q5.2 q6 hq6) (by decide) rfl rfl wm_RX7_237 wc_X7_comesBack hy_X7_comesBack rfl ⟨Nat.le_of_ble_eq_true rfl, Nat.le_of_ble_eq_true rfl⟩ rfl (Nat.le_of_ble_eq_true rfl) dX7_less_32 ?_
    refine zEV.iload_n dX7_less_35 rfl 0 rfl ?_
    cases h
    exact zEV.iret rfl dX7_less_36
  · rw [if_pos c2] at h
    refine zEV.iconst (v := (-1)) dX7_less_14 rfl ?_
    cases h
    exact zEV.iret rfl dX7_less_15
theorem kX7_less (a1 : Int32) (a2 : Int32) (M : zMM) (q : Int32 × zMM) (h : fX7_less a1 a2 M = some q) : zCN yX7_less iX7_less [.inr (.inr 158), .inl a1, .inl a2] M (some (.inl q.1), q.2) :=
  zCN.of (by decide) rfl rfl (Nat.le_of_ble_eq_true rfl) (zEV.perm [0, 1, 2] rfl (tX7_less_0 a1 a2 M q h))
-- RingedPageModel.spare
def fX7_spare_114 (a1 : Int32) (l3 : Int32) (M : zMM) : Option (Int32 × zMM) :=
  (fX7_set  M).bind fun q1 =>
  (fX7_apartOf  q1).bind fun q2 =>
  (fX7_comesBack  q2.2).bind fun q3 =>
  (fX7_tell ((Int32.toInt64 q2.1)) (wr q3 158 4 0)).bind fun q4 =>
  some (l3, q4)
set_option maxRecDepth 4000 in
theorem tX7_spare_114 (a1 : Int32) (l3 : Int32) (M : zMM) (q : Int32 × zMM) (h : fX7_spare_114 a1 l3 M = some q) : zEV iX7_spare 0 0 (zZO (some (.inl q.1), q.2)) 114 [(0, .inr (.inr 158)), (3, .inl l3)] [] M := by
  unfold fX7_spare_114 at h
  refine zEV.aload_n dX7_spare_114 rfl 0 rfl ?_
  obtain ⟨q1, hq1, h⟩ := bind_yes h
  refine zEV.callVv (kX7_set   M q1 hq1) (by decide) rfl rfl wm_RX7_164 wc_X7_set hy_X7_set rfl ⟨Nat.le_of_ble_eq_true rfl, Nat.le_of_ble_eq_true rfl⟩ rfl (Nat.le_of_ble_eq_true rfl) dX7_spare_115 ?_
  refine zEV.aload_n dX7_spare_118 rfl 0 rfl ?_
  obtain ⟨q2, hq2, h⟩ := bind_yes h
  refine zEV.callVi (kX7_apartOf   q1 q2 hq2) (by decide) rfl rfl wm_RX7_196 wc_X7_apartOf hy_X7_apartOf rfl ⟨Nat.le_of_ble_eq_true rfl, Nat.le_of_ble_eq_true rfl⟩ rfl (Nat.le_of_ble_eq_true rfl) dX7_spare_119 ?_
  refine zEV.istore dX7_spare_122 (Nat.le_of_ble_eq_true rfl) rfl ?_
  refine zEV.aload_n dX7_spare_124 rfl 1 rfl ?_
  obtain ⟨q3, hq3, h⟩ := bind_yes h
  refine zEV.callVv (kX7_comesBack   q2.2 q3 hq3) (by decide) rfl rfl wm_RX7_237 wc_X7_comesBack hy_X7_comesBack rfl ⟨Nat.le_of_ble_eq_true rfl, Nat.le_of_ble_eq_true rfl⟩ rfl (Nat.le_of_ble_eq_true rfl) dX7_spare_125 ?_
  refine zEV.aload_n dX7_spare_128 rfl 1 rfl ?_
  refine zEV.iconst (v := 0) dX7_spare_129 rfl ?_
  refine zEV.pfi rfl inz7 tyX7 tyX7_ok nmX7 4 (by decide) wf_RX7_62 rfl (by decide +kernel) (by decide) rfl rfl dX7_spare_130 ?_
  refine zEV.aload_n dX7_spare_133 rfl 1 rfl ?_
  refine zEV.iload dX7_spare_134 0 rfl ?_
  refine zEV.i2l dX7_spare_136 ?_
  obtain ⟨q4, hq4, h⟩ := bind_yes h
  refine zEV.callVv (kX7_tell ((Int32.toInt64 q2.1))  (wr q3 158 4 0) q4 hq4) (by decide) rfl rfl wm_RX7_135 wc_X7_tell hy_X7_tell rfl ⟨Nat.le_of_ble_eq_true rfl, Nat.le_of_ble_eq_true rfl⟩ rfl (Nat.le_of_ble_eq_true rfl) dX7_spare_137 ?_
  refine zEV.iload_n dX7_spare_140 rfl 2 rfl ?_
  cases h
  exact zEV.iret rfl dX7_spare_141
def fX7_spare_91 (a1 : Int32) (l2 : Int32) (l3 : Int32) (M : zMM) : Option (Int32 × zMM) :=
  if (M.1 158 14) = l2 then
    fX7_spare_114 a1 (l3) M
  else
    if oob ((5 + a1)) 259 then none else
    (fX7_drop (a1) (((M.1 159 (Int32.toNatClampNeg (5 + a1))) - 1)) M).bind fun q3 =>
    fX7_spare_114 a1 (l3) q3
set_option maxRecDepth 4000 in
theorem tX7_spare_91 (a1 : Int32) (l2 : Int32) (l3 : Int32) (M : zMM) (q : Int32 × zMM) (h : fX7_spare_91 a1 l2 l3 M = some q) : zEV iX7_spare 0 0 (zZO (some (.inl q.1), q.2)) 91 [(0, .inr (.inr 158)), (1, .inl a1), (2, .inl l2), (3, .inl l3)] [] M := by
  unfold fX7_spare_91 at h
  refine zEV.aload_n dX7_spare_91 rfl 0 rfl ?_
  refine zEV.gfi rfl inz7 14 (by decide) wf_RX7_154 (by decide) rfl rfl dX7_spare_92 ?_
  refine zEV.iload_n dX7_spare_95 rfl 2 rfl ?_
  refine zEV.icmp_eq 114 dX7_spare_96 (by decide) (fun c1 => ?_) (fun c1 => ?_)
  · rw [if_pos c1] at h
    exact zEV.perm [0, 3] rfl (tX7_spare_114 a1 (l3) M q h)
  · rw [if_neg c1] at h
    refine zEV.aload_n dX7_spare_99 rfl 0 rfl ?_
    refine zEV.iload_n dX7_spare_100 rfl 1 rfl ?_
    refine zEV.aload_n dX7_spare_101 rfl 0 rfl ?_
    refine zEV.gfr rfl inz7 0 (by decide) wf_RX7_9 (by decide) rfl rfl dX7_spare_102 ?_
    refine zEV.iconst (v := 5) dX7_spare_105 rfl ?_
    refine zEV.iload_n dX7_spare_106 rfl 1 rfl ?_
    refine zEV.iadd dX7_spare_107 ?_
    obtain ⟨g2, h⟩ := ite_no h
    refine zEV.iald (by decide) rfl g2 dX7_spare_108 ?_
    refine zEV.iconst (v := 1) dX7_spare_109 rfl ?_
    refine zEV.isub dX7_spare_110 ?_
    obtain ⟨q3, hq3, h⟩ := bind_yes h
    refine zEV.callVv (kX7_drop (a1) (((M.1 159 (Int32.toNatClampNeg (5 + a1))) - 1))  M q3 hq3) (by decide) rfl rfl wm_RX7_273 wc_X7_drop hy_X7_drop rfl ⟨Nat.le_of_ble_eq_true rfl, Nat.le_of_ble_eq_true rfl⟩ rfl (Nat.le_of_ble_eq_true rfl) dX7_spare_111 ?_
    exact zEV.perm [0, 3] rfl (tX7_spare_114 a1 (l3) q3 q h)
def fX7_spare_38 (a1 : Int32) : Nat → Int32 → Int32 → zMM → Option (Int32 × zMM)
  | 0, _, _, _ => none
  | n + 1, l2, l3, M =>
  if oob ((5 + a1)) 259 then none else
  if (70 : Int32) ≤ (M.1 159 (Int32.toNatClampNeg (5 + a1))) then
    fX7_spare_91 a1 (l2) (l3) M
  else
    if (M.1 158 14) = l2 then
      (fX7_put (a1) ((M.1 159 (Int32.toNatClampNeg (5 + a1)))) (5) M).bind fun q4 =>
      (fX7_set  q4).bind fun q5 =>
      if (q5.1 158 14) = l2 then
        fX7_spare_38 a1 n (l2) ((l3 + 1)) q5
      else
        fX7_spare_38 a1 n (l2) (l3) q5
    else
      fX7_spare_91 a1 (l2) (l3) M
set_option maxRecDepth 4000 in
theorem tX7_spare_38 (a1 : Int32) : ∀ (n : Nat) (l2 : Int32) (l3 : Int32) (M : zMM) (q : Int32 × zMM), fX7_spare_38 a1 n l2 l3 M = some q → zEV iX7_spare 0 0 (zZO (some (.inl q.1), q.2)) 38 [(0, .inr (.inr 158)), (1, .inl a1), (2, .inl l2), (3, .inl l3)] [] M := by
  intro n
  induction n with
  | zero =>
    intro l2 l3 M q h
    rw [fX7_spare_38] at h
    cases h
  | succ n ih =>
    intro l2 l3 M q h
    rw [fX7_spare_38] at h
    refine zEV.aload_n dX7_spare_38 rfl 0 rfl ?_
    refine zEV.gfr rfl inz7 0 (by decide) wf_RX7_9 (by decide) rfl rfl dX7_spare_39 ?_
    refine zEV.iconst (v := 5) dX7_spare_42 rfl ?_
    refine zEV.iload_n dX7_spare_43 rfl 1 rfl ?_
    refine zEV.iadd dX7_spare_44 ?_
    obtain ⟨g1, h⟩ := ite_no h
    refine zEV.iald (by decide) rfl g1 dX7_spare_45 ?_
    refine zEV.bipush (v := 70) dX7_spare_46 rfl ?_
    refine zEV.icmp_ge 91 dX7_spare_48 (by decide) (fun c2 => ?_) (fun c2 => ?_)
    · rw [if_pos c2] at h
      exact zEV.perm [0, 1, 2, 3] rfl (tX7_spare_91 a1 (l2) (l3) M q h)
    · rw [if_neg c2] at h
      refine zEV.aload_n dX7_spare_51 rfl 0 rfl ?_
      refine zEV.gfi rfl inz7 14 (by decide) wf_RX7_154 (by decide) rfl rfl dX7_spare_52 ?_
      refine zEV.iload_n dX7_spare_55 rfl 2 rfl ?_
      refine zEV.icmp_ne 91 dX7_spare_56 (by decide) (fun c3 => ?_) (fun c3 => ?_)
      · rw [if_neg c3] at h
        exact zEV.perm [0, 1, 2, 3] rfl (tX7_spare_91 a1 (l2) (l3) M q h)
      · rw [if_pos c3] at h
        refine zEV.aload_n dX7_spare_59 rfl 0 rfl ?_
        refine zEV.iload_n dX7_spare_60 rfl 1 rfl ?_
        refine zEV.aload_n dX7_spare_61 rfl 0 rfl ?_
        refine zEV.gfr rfl inz7 0 (by decide) wf_RX7_9 (by decide) rfl rfl dX7_spare_62 ?_
        refine zEV.iconst (v := 5) dX7_spare_65 rfl ?_
        refine zEV.iload_n dX7_spare_66 rfl 1 rfl ?_
        refine zEV.iadd dX7_spare_67 ?_
        refine zEV.iald (by decide) rfl g1 dX7_spare_68 ?_
        refine zEV.iconst (v := 5) dX7_spare_69 rfl ?_
        obtain ⟨q4, hq4, h⟩ := bind_yes h
        refine zEV.callVv (kX7_put (a1) ((M.1 159 (Int32.toNatClampNeg (5 + a1)))) (5)  M q4 hq4) (by decide) rfl rfl wm_RX7_270 wc_X7_put hy_X7_put rfl ⟨Nat.le_of_ble_eq_true rfl, Nat.le_of_ble_eq_true rfl⟩ rfl (Nat.le_of_ble_eq_true rfl) dX7_spare_70 ?_
        refine zEV.aload_n dX7_spare_73 rfl 0 rfl ?_
        obtain ⟨q5, hq5, h⟩ := bind_yes h
        refine zEV.callVv (kX7_set   q4 q5 hq5) (by decide) rfl rfl wm_RX7_164 wc_X7_set hy_X7_set rfl ⟨Nat.le_of_ble_eq_true rfl, Nat.le_of_ble_eq_true rfl⟩ rfl (Nat.le_of_ble_eq_true rfl) dX7_spare_74 ?_
        refine zEV.aload_n dX7_spare_77 rfl 0 rfl ?_
        refine zEV.gfi rfl inz7 14 (by decide) wf_RX7_154 (by decide) rfl rfl dX7_spare_78 ?_
        refine zEV.iload_n dX7_spare_81 rfl 2 rfl ?_
        refine zEV.icmp_ne 38 dX7_spare_82 (by decide) (fun c6 => ?_) (fun c6 => ?_)
        · rw [if_neg c6] at h
          exact zEV.perm [0, 1, 2, 3] rfl (ih (l2) (l3) q5 q h)
        · rw [if_pos c6] at h
          refine zEV.iinc (v := (l3 + 1)) dX7_spare_85 3 rfl rfl (Nat.le_of_ble_eq_true rfl) rfl ?_
          refine zEV.goto 38 dX7_spare_88 (by decide) ?_
          exact zEV.perm [1, 2, 3, 0] rfl (ih (l2) ((l3 + 1)) q5 q h)
def fX7_spare (a1 : Int32) (M : zMM) : Option (Int32 × zMM) :=
  (fX7_in (a1) (1) (2) (wr M 158 5 0)).bind fun q1 =>
  if q1.1 = (0 : Int32) then
    some ((-1), q1.2)
  else
    (fX7_set  q1.2).bind fun q3 =>
    if (q3.1 158 14) = (0 : Int32) then
      some ((-2), q3)
    else
      (fX7_layAside  q3).bind fun q5 =>
      fX7_spare_38 a1 zFU ((q3.1 158 14)) (0) q5
set_option maxRecDepth 4000 in
theorem tX7_spare_0 (a1 : Int32) (M : zMM) (q : Int32 × zMM) (h : fX7_spare a1  M = some q) : zEV iX7_spare 0 0 (zZO (some (.inl q.1), q.2)) 0 [(0, .inr (.inr 158)), (1, .inl a1)] [] M := by
  unfold fX7_spare at h
  refine zEV.aload_n dX7_spare_0 rfl 0 rfl ?_
  refine zEV.iconst (v := 0) dX7_spare_1 rfl ?_
  refine zEV.pfi rfl inz7 tyX7 tyX7_ok nmX7 5 (by decide) wf_RX7_58 rfl (by decide +kernel) (by decide) rfl rfl dX7_spare_2 ?_
  refine zEV.iload_n dX7_spare_5 rfl 1 rfl ?_
  refine zEV.iconst (v := 1) dX7_spare_6 rfl ?_
  refine zEV.iconst (v := 2) dX7_spare_7 rfl ?_
  obtain ⟨q1, hq1, h⟩ := bind_yes h
  refine zEV.callSi (kX7_in (a1) (1) (2)  (wr M 158 5 0) q1 hq1) wm_RX7_65 wc_X7_in hy_X7_in rfl ⟨Nat.le_of_ble_eq_true rfl, Nat.le_of_ble_eq_true rfl⟩ rfl (Nat.le_of_ble_eq_true rfl) dX7_spare_8 ?_
  refine zEV.if_ne 16 dX7_spare_11 (by decide) (fun c2 => ?_) (fun c2 => ?_)
  · rw [if_neg c2] at h
    refine zEV.aload_n dX7_spare_16 rfl 0 rfl ?_
    obtain ⟨q3, hq3, h⟩ := bind_yes h
    refine zEV.callVv (kX7_set   q1.2 q3 hq3) (by decide) rfl rfl wm_RX7_164 wc_X7_set hy_X7_set rfl ⟨Nat.le_of_ble_eq_true rfl, Nat.le_of_ble_eq_true rfl⟩ rfl (Nat.le_of_ble_eq_true rfl) dX7_spare_17 ?_
    refine zEV.aload_n dX7_spare_20 rfl 0 rfl ?_
    refine zEV.gfi rfl inz7 14 (by decide) wf_RX7_154 (by decide) rfl rfl dX7_spare_21 ?_
    refine zEV.istore_n dX7_spare_24 rfl (Nat.le_of_ble_eq_true rfl) rfl ?_
    refine zEV.iload_n dX7_spare_25 rfl 0 rfl ?_
    refine zEV.if_ne 32 dX7_spare_26 (by decide) (fun c4 => ?_) (fun c4 => ?_)
    · rw [if_neg c4] at h
      refine zEV.aload_n dX7_spare_32 rfl 1 rfl ?_
      obtain ⟨q5, hq5, h⟩ := bind_yes h
      refine zEV.callVv (kX7_layAside   q3 q5 hq5) (by decide) rfl rfl wm_RX7_230 wc_X7_layAside hy_X7_layAside rfl ⟨Nat.le_of_ble_eq_true rfl, Nat.le_of_ble_eq_true rfl⟩ rfl (Nat.le_of_ble_eq_true rfl) dX7_spare_33 ?_
      refine zEV.iconst (v := 0) dX7_spare_36 rfl ?_
      refine zEV.istore_n dX7_spare_37 rfl (Nat.le_of_ble_eq_true rfl) rfl ?_
      exact zEV.perm [2, 3, 1, 0] rfl (tX7_spare_38 a1 zFU ((q3.1 158 14)) (0) q5 q h)
    · rw [if_pos c4] at h
      refine zEV.bipush (v := (-2)) dX7_spare_29 rfl ?_
      cases h
      exact zEV.iret rfl dX7_spare_31
  · rw [if_pos c2] at h
    refine zEV.iconst (v := (-1)) dX7_spare_14 rfl ?_
    cases h
    exact zEV.iret rfl dX7_spare_15
theorem kX7_spare (a1 : Int32) (M : zMM) (q : Int32 × zMM) (h : fX7_spare a1 M = some q) : zCN yX7_spare iX7_spare [.inr (.inr 158), .inl a1] M (some (.inl q.1), q.2) :=
  zCN.of (by decide) rfl rfl (Nat.le_of_ble_eq_true rfl) (zEV.perm [0, 1] rfl (tX7_spare_0 a1 M q h))
-- RingedPageModel.settingAt
def fX7_settingAt (a0 : Int32) (M : zMM) : Option (Int32 × zMM) :=
  if a0 = 2 then
    some (255, M)
  else
    some (a0, M)
set_option maxRecDepth 4000 in
theorem tX7_settingAt_0 (a0 : Int32) (M : zMM) (q : Int32 × zMM) (h : fX7_settingAt a0  M = some q) : zEV iX7_settingAt 0 0 (zZO (some (.inl q.1), q.2)) 0 [(0, .inl a0)] [] M := by
  unfold fX7_settingAt at h
  refine zEV.iload_n dX7_settingAt_0 rfl 0 rfl ?_
  refine zEV.iconst (v := 2) dX7_settingAt_1 rfl ?_
  refine zEV.icmp_ne 11 dX7_settingAt_2 (by decide) (fun c1 => ?_) (fun c1 => ?_)
  · rw [if_neg c1] at h
    refine zEV.iload_n dX7_settingAt_11 rfl 0 rfl ?_
    cases h
    exact zEV.iret rfl dX7_settingAt_12
  · rw [if_pos c1] at h
    refine zEV.sipush (v := 255) dX7_settingAt_5 rfl ?_
    refine zEV.goto 12 dX7_settingAt_8 (by decide) ?_
    cases h
    exact zEV.iret rfl dX7_settingAt_12
theorem kX7_settingAt (a0 : Int32) (M : zMM) (q : Int32 × zMM) (h : fX7_settingAt a0 M = some q) : zCN yX7_settingAt iX7_settingAt [.inl a0] M (some (.inl q.1), q.2) :=
  zCN.of (by decide) rfl rfl (Nat.le_of_ble_eq_true rfl) (zEV.perm [0] rfl (tX7_settingAt_0 a0 M q h))
