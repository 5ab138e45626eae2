-- RingedPageModel.isLastPart
def fX7_isLastPart (a1 : Int32) (M : zMM) : Option (Int32 × zMM) :=
  (fX7_told (a1) (3) M).bind fun q1 =>
  (fX7_told (a1) (4) q1.2).bind fun q2 =>
  (fX7_told (a1) (0) q2.2).bind fun q3 =>
  if oob ((5 + q3.1)) 259 then none else
  if (q1.1 + q2.1) = (q3.2.1 159 (Int32.toNatClampNeg (5 + q3.1))) then
    some (1, q3.2)
  else
    some (0, q3.2)
set_option maxRecDepth 100000 in
theorem tX7_isLastPart_0 (a1 : Int32) (M : zMM) (q : Int32 × zMM) (h : fX7_isLastPart a1  M = some q) : zEV iX7_isLastPart 0 0 (zZO (some (.inl q.1), q.2)) 0 [(0, .inr (.inr 158)), (1, .inl a1)] [] M := by
  unfold fX7_isLastPart at h
  refine zEV.aload_n dX7_isLastPart_0 rfl 0 rfl ?_
  refine zEV.iload_n dX7_isLastPart_1 rfl 1 rfl ?_
  refine zEV.iconst (v := 3) dX7_isLastPart_2 rfl ?_
  obtain ⟨q1, hq1, h⟩ := bind_yes h
  refine zEV.callVi (kX7_told (a1) (3)  M q1 hq1) (by decide) rfl rfl wm_RX7_167 wc_X7_told hy_X7_told rfl ⟨Nat.le_of_ble_eq_true rfl, Nat.le_of_ble_eq_true rfl⟩ rfl (Nat.le_of_ble_eq_true rfl) dX7_isLastPart_3 ?_
  refine zEV.aload_n dX7_isLastPart_6 rfl 0 rfl ?_
  refine zEV.iload_n dX7_isLastPart_7 rfl 1 rfl ?_
  refine zEV.iconst (v := 4) dX7_isLastPart_8 rfl ?_
  obtain ⟨q2, hq2, h⟩ := bind_yes h
  refine zEV.callVi (kX7_told (a1) (4)  q1.2 q2 hq2) (by decide) rfl rfl wm_RX7_167 wc_X7_told hy_X7_told rfl ⟨Nat.le_of_ble_eq_true rfl, Nat.le_of_ble_eq_true rfl⟩ rfl (Nat.le_of_ble_eq_true rfl) dX7_isLastPart_9 ?_
  refine zEV.iadd dX7_isLastPart_12 ?_
  refine zEV.aload_n dX7_isLastPart_13 rfl 0 rfl ?_
  refine zEV.gfr rfl inz7 0 (by decide) wf_RX7_9 (by decide) rfl rfl dX7_isLastPart_14 ?_
  refine zEV.iconst (v := 5) dX7_isLastPart_17 rfl ?_
  refine zEV.aload_n dX7_isLastPart_18 rfl 0 rfl ?_
  refine zEV.iload_n dX7_isLastPart_19 rfl 1 rfl ?_
  refine zEV.iconst (v := 0) dX7_isLastPart_20 rfl ?_
  obtain ⟨q3, hq3, h⟩ := bind_yes h
  refine zEV.callVi (kX7_told (a1) (0)  q2.2 q3 hq3) (by decide) rfl rfl wm_RX7_167 wc_X7_told hy_X7_told rfl ⟨Nat.le_of_ble_eq_true rfl, Nat.le_of_ble_eq_true rfl⟩ rfl (Nat.le_of_ble_eq_true rfl) dX7_isLastPart_21 ?_
  refine zEV.iadd dX7_isLastPart_24 ?_
  obtain ⟨g4, h⟩ := ite_no h
  refine zEV.iald (by decide) rfl g4 dX7_isLastPart_25 ?_
  refine zEV.icmp_ne 33 dX7_isLastPart_26 (by decide) (fun c5 => ?_) (fun c5 => ?_)
  · rw [if_neg c5] at h
    refine zEV.iconst (v := 0) dX7_isLastPart_33 rfl ?_
    have h := Option.some.inj h
    subst h
    exact zEV.zret rfl (Or.inl rfl) dX7_isLastPart_34
  · rw [if_pos c5] at h
    refine zEV.iconst (v := 1) dX7_isLastPart_29 rfl ?_
    refine zEV.goto 34 dX7_isLastPart_30 (by decide) ?_
    have h := Option.some.inj h
    subst h
    exact zEV.zret rfl (Or.inr rfl) dX7_isLastPart_34
theorem kX7_isLastPart (a1 : Int32) (M : zMM) (q : Int32 × zMM) (h : fX7_isLastPart a1 M = some q) : zCN yX7_isLastPart iX7_isLastPart [.inr (.inr 158), .inl a1] M (some (.inl q.1), q.2) :=
  zCN.of (by decide) rfl rfl (Nat.le_of_ble_eq_true rfl) (zEV.perm [0, 1] rfl (tX7_isLastPart_0 a1 M q h))
-- RingedPageModel.columnOf
def fX7_columnOf_155 (K100 : Int32 → Int32 → Int32 → Int32 → Int32 → Int32 → zMM → Option (Int32 × zMM)) (a1 : Int32) (a2 : Int32) (l4 : Int32) (l5 : Int32) (l6 : Int32) (l7 : Int32) (l9 : Int32) (s0 : Int32) (s1 : Int32) (s2 : Int32) (M : zMM) : Option (Int32 × zMM) :=
  K100 (l4) (l5) (l6) (l7) ((s2 + (s1 + s0))) ((l9 + 1)) M
set_option maxRecDepth 100000 in
theorem tX7_columnOf_155 (K100 : Int32 → Int32 → Int32 → Int32 → Int32 → Int32 → zMM → Option (Int32 × zMM)) (a1 : Int32) (a2 : Int32) (hK100 : ∀ (l4 : Int32) (l5 : Int32) (l6 : Int32) (l7 : Int32) (l8 : Int32) (l9 : Int32) (M : zMM) (q : Int32 × zMM), K100 l4 l5 l6 l7 l8 l9 M = some q → zEV iX7_columnOf 0 0 (zZO (some (.inl q.1), q.2)) 100 [(0, .inr (.inr 158)), (1, .inl a1), (2, .inl a2), (4, .inl l4), (5, .inl l5), (6, .inl l6), (7, .inl l7), (8, .inl l8), (9, .inl l9)] [] M) (l4 : Int32) (l5 : Int32) (l6 : Int32) (l7 : Int32) (l9 : Int32) (s0 : Int32) (s1 : Int32) (s2 : Int32) (M : zMM) (q : Int32 × zMM) (h : fX7_columnOf_155 K100 a1 a2 l4 l5 l6 l7 l9 s0 s1 s2 M = some q) : zEV iX7_columnOf 0 0 (zZO (some (.inl q.1), q.2)) 155 [(0, .inr (.inr 158)), (1, .inl a1), (2, .inl a2), (4, .inl l4), (5, .inl l5), (6, .inl l6), (7, .inl l7), (9, .inl l9)] [.inl s0, .inl s1, .inl s2] M := by
  unfold fX7_columnOf_155 at h
  refine zEV.iadd dX7_columnOf_155 ?_
  refine zEV.iadd dX7_columnOf_156 ?_
  refine zEV.istore dX7_columnOf_157 (Nat.le_of_ble_eq_true rfl) rfl ?_
  refine zEV.iinc (v := (l9 + 1)) dX7_columnOf_159 8 rfl rfl (Nat.le_of_ble_eq_true rfl) rfl ?_
  refine zEV.goto 100 dX7_columnOf_162 (by decide) ?_
  exact zEV.perm [2, 3, 4, 5, 6, 7, 8, 1, 0] rfl (hK100 (l4) (l5) (l6) (l7) ((s2 + (s1 + s0))) ((l9 + 1)) M q h)
def fX7_columnOf_150 (K100 : Int32 → Int32 → Int32 → Int32 → Int32 → Int32 → zMM → Option (Int32 × zMM)) (a1 : Int32) (a2 : Int32) (l4 : Int32) (l5 : Int32) (l6 : Int32) (l7 : Int32) (l9 : Int32) (s0 : Int32) (s1 : Int32) (s2 : Int32) (s3 : Int32) (M : zMM) : Option (Int32 × zMM) :=
  fX7_columnOf_155 K100 a1 a2 (l4) (l5) (l6) (l7) (l9) ((s1 + s0)) (s2) (s3) M
set_option maxRecDepth 100000 in
theorem tX7_columnOf_150 (K100 : Int32 → Int32 → Int32 → Int32 → Int32 → Int32 → zMM → Option (Int32 × zMM)) (a1 : Int32) (a2 : Int32) (hK100 : ∀ (l4 : Int32) (l5 : Int32) (l6 : Int32) (l7 : Int32) (l8 : Int32) (l9 : Int32) (M : zMM) (q : Int32 × zMM), K100 l4 l5 l6 l7 l8 l9 M = some q → zEV iX7_columnOf 0 0 (zZO (some (.inl q.1), q.2)) 100 [(0, .inr (.inr 158)), (1, .inl a1), (2, .inl a2), (4, .inl l4), (5, .inl l5), (6, .inl l6), (7, .inl l7), (8, .inl l8), (9, .inl l9)] [] M) (l4 : Int32) (l5 : Int32) (l6 : Int32) (l7 : Int32) (l9 : Int32) (s0 : Int32) (s1 : Int32) (s2 : Int32) (s3 : Int32) (M : zMM) (q : Int32 × zMM) (h : fX7_columnOf_150 K100 a1 a2 l4 l5 l6 l7 l9 s0 s1 s2 s3 M = some q) : zEV iX7_columnOf 0 0 (zZO (some (.inl q.1), q.2)) 150 [(0, .inr (.inr 158)), (1, .inl a1), (2, .inl a2), (4, .inl l4), (5, .inl l5), (6, .inl l6), (7, .inl l7), (9, .inl l9)] [.inl s0, .inl s1, .inl s2, .inl s3] M := by
  unfold fX7_columnOf_150 at h
  refine zEV.iadd dX7_columnOf_150 ?_
  refine zEV.goto 155 dX7_columnOf_151 (by decide) ?_
  exact zEV.perm [0, 1, 2, 3, 4, 5, 6, 7] rfl (tX7_columnOf_155 K100 a1 a2 hK100 (l4) (l5) (l6) (l7) (l9) ((s1 + s0)) (s2) (s3) M q h)
def fX7_columnOf_100 (a1 : Int32) (a2 : Int32) : Nat → Int32 → Int32 → Int32 → Int32 → Int32 → Int32 → zMM → Option (Int32 × zMM)
  | 0, _, _, _, _, _, _, _ => none
  | n + 1, l4, l5, l6, l7, l8, l9, M =>
  if (a2 - l5) ≤ l9 then
    some (l8, M)
  else
    (fX7_size (a1) ((l5 + l9)) M).bind fun q2 =>
    if l7 = (0 : Int32) then
      fX7_columnOf_155 (fX7_columnOf_100 a1 a2 n) a1 a2 (l4) (l5) (l6) (l7) (l9) (1) (q2.1) (l8) q2.2
    else
      if (l4 - 1) = 0 then none else
      if (l4 - 1) = 0 then none else
      if (l6 - l6 / (l4 - 1) * (l4 - 1)) ≤ l9 then
        fX7_columnOf_150 (fX7_columnOf_100 a1 a2 n) a1 a2 (l4) (l5) (l6) (l7) (l9) (0) ((l6 / (l4 - 1))) (q2.1) (l8) q2.2
      else
        fX7_columnOf_150 (fX7_columnOf_100 a1 a2 n) a1 a2 (l4) (l5) (l6) (l7) (l9) (1) ((l6 / (l4 - 1))) (q2.1) (l8) q2.2
set_option maxRecDepth 100000 in
theorem tX7_columnOf_100 (a1 : Int32) (a2 : Int32) : ∀ (n : Nat) (l4 : Int32) (l5 : Int32) (l6 : Int32) (l7 : Int32) (l8 : Int32) (l9 : Int32) (M : zMM) (q : Int32 × zMM), fX7_columnOf_100 a1 a2 n l4 l5 l6 l7 l8 l9 M = some q → zEV iX7_columnOf 0 0 (zZO (some (.inl q.1), q.2)) 100 [(0, .inr (.inr 158)), (1, .inl a1), (2, .inl a2), (4, .inl l4), (5, .inl l5), (6, .inl l6), (7, .inl l7), (8, .inl l8), (9, .inl l9)] [] M := by
  intro n
  induction n with
  | zero =>
    intro l4 l5 l6 l7 l8 l9 M q h
    rw [fX7_columnOf_100] at h
    cases h
  | succ n ih =>
    intro l4 l5 l6 l7 l8 l9 M q h
    rw [fX7_columnOf_100] at h
    refine zEV.iload dX7_columnOf_100 8 rfl ?_
    refine zEV.iload_n dX7_columnOf_102 rfl 2 rfl ?_
    refine zEV.iload dX7_columnOf_103 4 rfl ?_
    refine zEV.isub dX7_columnOf_105 ?_
    refine zEV.icmp_ge 165 dX7_columnOf_106 (by decide) (fun c1 => ?_) (fun c1 => ?_)
    · rw [if_pos c1] at h
      refine zEV.iload dX7_columnOf_165 7 rfl ?_
      have h := Option.some.inj h
      subst h
      exact zEV.iret rfl dX7_columnOf_167
    · rw [if_neg c1] at h
      refine zEV.iload dX7_columnOf_109 7 rfl ?_
      refine zEV.aload_n dX7_columnOf_111 rfl 0 rfl ?_
      refine zEV.iload_n dX7_columnOf_112 rfl 1 rfl ?_
      refine zEV.iload dX7_columnOf_113 4 rfl ?_
      refine zEV.iload dX7_columnOf_115 8 rfl ?_
      refine zEV.iadd dX7_columnOf_117 ?_
      obtain ⟨q2, hq2, h⟩ := bind_yes h
      refine zEV.callVi (kX7_size (a1) ((l5 + l9))  M q2 hq2) (by decide) rfl rfl wm_RX7_147 wc_X7_size hy_X7_size rfl ⟨Nat.le_of_ble_eq_true rfl, Nat.le_of_ble_eq_true rfl⟩ rfl (Nat.le_of_ble_eq_true rfl) dX7_columnOf_118 ?_
      refine zEV.iload dX7_columnOf_121 6 rfl ?_
      refine zEV.if_eq 154 dX7_columnOf_123 (by decide) (fun c3 => ?_) (fun c3 => ?_)
      · rw [if_pos c3] at h
        refine zEV.iconst (v := 1) dX7_columnOf_154 rfl ?_
        exact zEV.perm [0, 1, 2, 3, 4, 5, 6, 8] rfl (tX7_columnOf_155 (fX7_columnOf_100 a1 a2 n) a1 a2 (fun l4 l5 l6 l7 l8 l9 M9 q9 h9 => ih l4 l5 l6 l7 l8 l9 M9 q9 h9) (l4) (l5) (l6) (l7) (l9) (1) (q2.1) (l8) q2.2 q h)
      · rw [if_neg c3] at h
        refine zEV.iload dX7_columnOf_126 5 rfl ?_
        refine zEV.iload dX7_columnOf_128 3 rfl ?_
        refine zEV.iconst (v := 1) dX7_columnOf_130 rfl ?_
        refine zEV.isub dX7_columnOf_131 ?_
        obtain ⟨g4, h⟩ := ite_no h
        refine zEV.idiv dX7_columnOf_132 g4 ?_
        refine zEV.iload dX7_columnOf_133 8 rfl ?_
        refine zEV.iload dX7_columnOf_135 5 rfl ?_
        refine zEV.iload dX7_columnOf_137 3 rfl ?_
        refine zEV.iconst (v := 1) dX7_columnOf_139 rfl ?_
        refine zEV.isub dX7_columnOf_140 ?_
        obtain ⟨g5, h⟩ := ite_no h
        refine zEV.irem dX7_columnOf_141 g5 ?_
        refine zEV.icmp_ge 149 dX7_columnOf_142 (by decide) (fun c6 => ?_) (fun c6 => ?_)
        · rw [if_pos c6] at h
          refine zEV.iconst (v := 0) dX7_columnOf_149 rfl ?_
          exact zEV.perm [0, 1, 2, 3, 4, 5, 6, 8] rfl (tX7_columnOf_150 (fX7_columnOf_100 a1 a2 n) a1 a2 (fun l4 l5 l6 l7 l8 l9 M9 q9 h9 => ih l4 l5 l6 l7 l8 l9 M9 q9 h9) (l4) (l5) (l6) (l7) (l9) (0) ((l6 / (l4 - 1))) (q2.1) (l8) q2.2 q h)
        · rw [if_neg c6] at h
          refine zEV.iconst (v := 1) dX7_columnOf_145 rfl ?_
          refine zEV.goto 150 dX7_columnOf_146 (by decide) ?_
          exact zEV.perm [0, 1, 2, 3, 4, 5, 6, 8] rfl (tX7_columnOf_150 (fX7_columnOf_100 a1 a2 n) a1 a2 (fun l4 l5 l6 l7 l8 l9 M9 q9 h9 => ih l4 l5 l6 l7 l8 l9 M9 q9 h9) (l4) (l5) (l6) (l7) (l9) (1) ((l6 / (l4 - 1))) (q2.1) (l8) q2.2 q h)
def fX7_columnOf_86 (a1 : Int32) (a2 : Int32) (l3 : Int32) (l4 : Int32) (l5 : Int32) (l6 : Int32) (s0 : Int32) (M : zMM) : Option (Int32 × zMM) :=
  (fX7_told (l3) (6) M).bind fun q1 =>
  fX7_columnOf_100 a1 a2 zFU (l4) (l5) (l6) (s0) (q1.1) (0) q1.2
set_option maxRecDepth 100000 in
theorem tX7_columnOf_86 (a1 : Int32) (a2 : Int32) (l3 : Int32) (l4 : Int32) (l5 : Int32) (l6 : Int32) (s0 : Int32) (M : zMM) (q : Int32 × zMM) (h : fX7_columnOf_86 a1 a2 l3 l4 l5 l6 s0 M = some q) : zEV iX7_columnOf 0 0 (zZO (some (.inl q.1), q.2)) 86 [(0, .inr (.inr 158)), (1, .inl a1), (2, .inl a2), (3, .inl l3), (4, .inl l4), (5, .inl l5), (6, .inl l6)] [.inl s0] M := by
  unfold fX7_columnOf_86 at h
  refine zEV.istore dX7_columnOf_86 (Nat.le_of_ble_eq_true rfl) rfl ?_
  refine zEV.aload_n dX7_columnOf_88 rfl 1 rfl ?_
  refine zEV.iload_n dX7_columnOf_89 rfl 4 rfl ?_
  refine zEV.bipush (v := 6) dX7_columnOf_90 rfl ?_
  obtain ⟨q1, hq1, h⟩ := bind_yes h
  refine zEV.callVi (kX7_told (l3) (6)  M q1 hq1) (by decide) rfl rfl wm_RX7_167 wc_X7_told hy_X7_told rfl ⟨Nat.le_of_ble_eq_true rfl, Nat.le_of_ble_eq_true rfl⟩ rfl (Nat.le_of_ble_eq_true rfl) dX7_columnOf_92 ?_
  refine zEV.istore dX7_columnOf_95 (Nat.le_of_ble_eq_true rfl) rfl ?_
  refine zEV.iconst (v := 0) dX7_columnOf_97 rfl ?_
  refine zEV.istore dX7_columnOf_98 (Nat.le_of_ble_eq_true rfl) rfl ?_
  exact zEV.perm [3, 4, 5, 7, 8, 9, 2, 1, 0] rfl (tX7_columnOf_100 a1 a2 zFU (l4) (l5) (l6) (s0) (q1.1) (0) q1.2 q h)
def fX7_columnOf_85 (a1 : Int32) (a2 : Int32) (l3 : Int32) (l4 : Int32) (l5 : Int32) (l6 : Int32) (M : zMM) : Option (Int32 × zMM) :=
  fX7_columnOf_86 a1 a2 (l3) (l4) (l5) (l6) (0) M
set_option maxRecDepth 100000 in
theorem tX7_columnOf_85 (a1 : Int32) (a2 : Int32) (l3 : Int32) (l4 : Int32) (l5 : Int32) (l6 : Int32) (M : zMM) (q : Int32 × zMM) (h : fX7_columnOf_85 a1 a2 l3 l4 l5 l6 M = some q) : zEV iX7_columnOf 0 0 (zZO (some (.inl q.1), q.2)) 85 [(0, .inr (.inr 158)), (1, .inl a1), (2, .inl a2), (3, .inl l3), (4, .inl l4), (5, .inl l5), (6, .inl l6)] [] M := by
  unfold fX7_columnOf_85 at h
  refine zEV.iconst (v := 0) dX7_columnOf_85 rfl ?_
  exact zEV.perm [0, 1, 2, 3, 4, 5, 6] rfl (tX7_columnOf_86 a1 a2 (l3) (l4) (l5) (l6) (0) M q h)
def fX7_columnOf_39 (a1 : Int32) (a2 : Int32) : Nat → Int32 → Int32 → Int32 → Int32 → Int32 → zMM → Option (Int32 × zMM)
  | 0, _, _, _, _, _, _ => none
  | n + 1, l3, l4, l5, l6, l7, M =>
  if l4 ≤ l7 then
    if l4 ≤ 1 then
      fX7_columnOf_85 a1 a2 (l3) (l4) (l5) (l6) M
    else
      (fX7_isLastPart (l3) M).bind fun q3 =>
      if q3.1 = (0 : Int32) then
        fX7_columnOf_86 a1 a2 (l3) (l4) (l5) (l6) (1) q3.2
      else
        fX7_columnOf_85 a1 a2 (l3) (l4) (l5) (l6) q3.2
  else
    (fX7_size (a1) ((l5 + l7)) M).bind fun q5 =>
    fX7_columnOf_39 a1 a2 n (l3) (l4) (l5) ((l6 - q5.1)) ((l7 + 1)) q5.2
set_option maxRecDepth 100000 in
theorem tX7_columnOf_39 (a1 : Int32) (a2 : Int32) : ∀ (n : Nat) (l3 : Int32) (l4 : Int32) (l5 : Int32) (l6 : Int32) (l7 : Int32) (M : zMM) (q : Int32 × zMM), fX7_columnOf_39 a1 a2 n l3 l4 l5 l6 l7 M = some q → zEV iX7_columnOf 0 0 (zZO (some (.inl q.1), q.2)) 39 [(0, .inr (.inr 158)), (1, .inl a1), (2, .inl a2), (3, .inl l3), (4, .inl l4), (5, .inl l5), (6, .inl l6), (7, .inl l7)] [] M := by
  intro n
  induction n with
  | zero =>
    intro l3 l4 l5 l6 l7 M q h
    rw [fX7_columnOf_39] at h
    cases h
  | succ n ih =>
    intro l3 l4 l5 l6 l7 M q h
    rw [fX7_columnOf_39] at h
    refine zEV.iload dX7_columnOf_39 7 rfl ?_
    refine zEV.iload dX7_columnOf_41 4 rfl ?_
    refine zEV.icmp_ge 67 dX7_columnOf_43 (by decide) (fun c1 => ?_) (fun c1 => ?_)
    · rw [if_pos c1] at h
      refine zEV.iload dX7_columnOf_67 4 rfl ?_
      refine zEV.iconst (v := 1) dX7_columnOf_69 rfl ?_
      refine zEV.icmp_le 85 dX7_columnOf_70 (by decide) (fun c2 => ?_) (fun c2 => ?_)
      · rw [if_pos c2] at h
        exact zEV.perm [0, 1, 2, 3, 4, 5, 6] rfl (tX7_columnOf_85 a1 a2 (l3) (l4) (l5) (l6) M q h)
      · rw [if_neg c2] at h
        refine zEV.aload_n dX7_columnOf_73 rfl 0 rfl ?_
        refine zEV.iload_n dX7_columnOf_74 rfl 3 rfl ?_
        obtain ⟨q3, hq3, h⟩ := bind_yes h
        refine zEV.callVi (kX7_isLastPart (l3)  M q3 hq3) (by decide) rfl rfl wm_RX7_177 wc_X7_isLastPart hy_X7_isLastPart rfl ⟨Nat.le_of_ble_eq_true rfl, Nat.le_of_ble_eq_true rfl⟩ rfl (Nat.le_of_ble_eq_true rfl) dX7_columnOf_75 ?_
        refine zEV.if_ne 85 dX7_columnOf_78 (by decide) (fun c4 => ?_) (fun c4 => ?_)
        · rw [if_neg c4] at h
          exact zEV.perm [0, 1, 2, 3, 4, 5, 6] rfl (tX7_columnOf_85 a1 a2 (l3) (l4) (l5) (l6) q3.2 q h)
        · rw [if_pos c4] at h
          refine zEV.iconst (v := 1) dX7_columnOf_81 rfl ?_
          refine zEV.goto 86 dX7_columnOf_82 (by decide) ?_
          exact zEV.perm [0, 1, 2, 3, 4, 5, 6] rfl (tX7_columnOf_86 a1 a2 (l3) (l4) (l5) (l6) (1) q3.2 q h)
    · rw [if_neg c1] at h
      refine zEV.iload dX7_columnOf_46 6 rfl ?_
      refine zEV.aload_n dX7_columnOf_48 rfl 0 rfl ?_
      refine zEV.iload_n dX7_columnOf_49 rfl 1 rfl ?_
      refine zEV.iload dX7_columnOf_50 5 rfl ?_
      refine zEV.iload dX7_columnOf_52 7 rfl ?_
      refine zEV.iadd dX7_columnOf_54 ?_
      obtain ⟨q5, hq5, h⟩ := bind_yes h
      refine zEV.callVi (kX7_size (a1) ((l5 + l7))  M q5 hq5) (by decide) rfl rfl wm_RX7_147 wc_X7_size hy_X7_size rfl ⟨Nat.le_of_ble_eq_true rfl, Nat.le_of_ble_eq_true rfl⟩ rfl (Nat.le_of_ble_eq_true rfl) dX7_columnOf_55 ?_
      refine zEV.isub dX7_columnOf_58 ?_
      refine zEV.istore dX7_columnOf_59 (Nat.le_of_ble_eq_true rfl) rfl ?_
      refine zEV.iinc (v := (l7 + 1)) dX7_columnOf_61 7 rfl rfl (Nat.le_of_ble_eq_true rfl) rfl ?_
      refine zEV.goto 39 dX7_columnOf_64 (by decide) ?_
      exact zEV.perm [2, 3, 4, 5, 6, 7, 1, 0] rfl (ih (l3) (l4) (l5) ((l6 - q5.1)) ((l7 + 1)) q5.2 q h)
def fX7_columnOf (a1 : Int32) (a2 : Int32) (M : zMM) : Option (Int32 × zMM) :=
  if oob (((70 * a1) + a2)) 210 then none else
  (fX7_told ((M.1 164 (Int32.toNatClampNeg ((70 * a1) + a2)))) (4) M).bind fun q2 =>
  (fX7_told ((M.1 164 (Int32.toNatClampNeg ((70 * a1) + a2)))) (3) q2.2).bind fun q3 =>
  (fX7_told ((M.1 164 (Int32.toNatClampNeg ((70 * a1) + a2)))) (5) q3.2).bind fun q4 =>
  fX7_columnOf_39 a1 a2 zFU ((M.1 164 (Int32.toNatClampNeg ((70 * a1) + a2)))) (q2.1) (q3.1) (q4.1) (0) q4.2
set_option maxRecDepth 100000 in
theorem tX7_columnOf_0 (a1 : Int32) (a2 : Int32) (M : zMM) (q : Int32 × zMM) (h : fX7_columnOf a1 a2  M = some q) : zEV iX7_columnOf 0 0 (zZO (some (.inl q.1), q.2)) 0 [(0, .inr (.inr 158)), (1, .inl a1), (2, .inl a2)] [] M := by
  unfold fX7_columnOf at h
  refine zEV.aload_n dX7_columnOf_0 rfl 0 rfl ?_
  refine zEV.gfr rfl inz7 12 (by decide) wf_RX7_27 (by decide) rfl rfl dX7_columnOf_1 ?_
  refine zEV.bipush (v := 70) dX7_columnOf_4 rfl ?_
  refine zEV.iload_n dX7_columnOf_6 rfl 1 rfl ?_
  refine zEV.imul dX7_columnOf_7 ?_
  refine zEV.iload_n dX7_columnOf_8 rfl 2 rfl ?_
  refine zEV.iadd dX7_columnOf_9 ?_
  obtain ⟨g1, h⟩ := ite_no h
  refine zEV.iald (by decide) rfl g1 dX7_columnOf_10 ?_
  refine zEV.istore_n dX7_columnOf_11 rfl (Nat.le_of_ble_eq_true rfl) rfl ?_
  refine zEV.aload_n dX7_columnOf_12 rfl 1 rfl ?_
  refine zEV.iload_n dX7_columnOf_13 rfl 0 rfl ?_
  refine zEV.iconst (v := 4) dX7_columnOf_14 rfl ?_
  obtain ⟨q2, hq2, h⟩ := bind_yes h
  refine zEV.callVi (kX7_told ((M.1 164 (Int32.toNatClampNeg ((70 * a1) + a2)))) (4)  M q2 hq2) (by decide) rfl rfl wm_RX7_167 wc_X7_told hy_X7_told rfl ⟨Nat.le_of_ble_eq_true rfl, Nat.le_of_ble_eq_true rfl⟩ rfl (Nat.le_of_ble_eq_true rfl) dX7_columnOf_15 ?_
  refine zEV.istore dX7_columnOf_18 (Nat.le_of_ble_eq_true rfl) rfl ?_
  refine zEV.aload_n dX7_columnOf_20 rfl 2 rfl ?_
  refine zEV.iload_n dX7_columnOf_21 rfl 1 rfl ?_
  refine zEV.iconst (v := 3) dX7_columnOf_22 rfl ?_
  obtain ⟨q3, hq3, h⟩ := bind_yes h
  refine zEV.callVi (kX7_told ((M.1 164 (Int32.toNatClampNeg ((70 * a1) + a2)))) (3)  q2.2 q3 hq3) (by decide) rfl rfl wm_RX7_167 wc_X7_told hy_X7_told rfl ⟨Nat.le_of_ble_eq_true rfl, Nat.le_of_ble_eq_true rfl⟩ rfl (Nat.le_of_ble_eq_true rfl) dX7_columnOf_23 ?_
  refine zEV.istore dX7_columnOf_26 (Nat.le_of_ble_eq_true rfl) rfl ?_
  refine zEV.aload_n dX7_columnOf_28 rfl 3 rfl ?_
  refine zEV.iload_n dX7_columnOf_29 rfl 2 rfl ?_
  refine zEV.iconst (v := 5) dX7_columnOf_30 rfl ?_
  obtain ⟨q4, hq4, h⟩ := bind_yes h
  refine zEV.callVi (kX7_told ((M.1 164 (Int32.toNatClampNeg ((70 * a1) + a2)))) (5)  q3.2 q4 hq4) (by decide) rfl rfl wm_RX7_167 wc_X7_told hy_X7_told rfl ⟨Nat.le_of_ble_eq_true rfl, Nat.le_of_ble_eq_true rfl⟩ rfl (Nat.le_of_ble_eq_true rfl) dX7_columnOf_31 ?_
  refine zEV.istore dX7_columnOf_34 (Nat.le_of_ble_eq_true rfl) rfl ?_
  refine zEV.iconst (v := 0) dX7_columnOf_36 rfl ?_
  refine zEV.istore dX7_columnOf_37 (Nat.le_of_ble_eq_true rfl) rfl ?_
  exact zEV.perm [5, 6, 7, 4, 3, 2, 1, 0] rfl (tX7_columnOf_39 a1 a2 zFU ((M.1 164 (Int32.toNatClampNeg ((70 * a1) + a2)))) (q2.1) (q3.1) (q4.1) (0) q4.2 q h)
theorem kX7_columnOf (a1 : Int32) (a2 : Int32) (M : zMM) (q : Int32 × zMM) (h : fX7_columnOf a1 a2 M = some q) : zCN yX7_columnOf iX7_columnOf [.inr (.inr 158), .inl a1, .inl a2] M (some (.inl q.1), q.2) :=
  zCN.of (by decide) rfl rfl (Nat.le_of_ble_eq_true rfl) (zEV.perm [0, 1, 2] rfl (tX7_columnOf_0 a1 a2 M q h))
-- RingedPageModel.word
def fX7_word_23 (a1 : Int32) (a2 : Int32) (a3 : Int32) (M : zMM) : Option (Int32 × zMM) :=
  (fX7_lost  M).bind fun q1 =>
  some (q1.1, q1.2)
set_option maxRecDepth 100000 in
theorem tX7_word_23 (a1 : Int32) (a2 : Int32) (a3 : Int32) (M : zMM) (q : Int32 × zMM) (h : fX7_word_23 a1 a2 a3  M = some q) : zEV iX7_word 0 0 (zZO (some (.inl q.1), q.2)) 23 [(0, .inr (.inr 158))] [] M := by
  unfold fX7_word_23 at h
  refine zEV.aload_n dX7_word_23 rfl 0 rfl ?_
  obtain ⟨q1, hq1, h⟩ := bind_yes h
  refine zEV.callVi (kX7_lost   M q1 hq1) (by decide) rfl rfl wm_RX7_180 wc_X7_lost hy_X7_lost rfl ⟨Nat.le_of_ble_eq_true rfl, Nat.le_of_ble_eq_true rfl⟩ rfl (Nat.le_of_ble_eq_true rfl) dX7_word_24 ?_
  have h := Option.some.inj h
  subst h
  exact zEV.iret rfl dX7_word_27
def fX7_word (a1 : Int32) (a2 : Int32) (a3 : Int32) (M : zMM) : Option (Int32 × zMM) :=
  (fX7_isWord (a1) (a2) (wr M 158 5 0)).bind fun q1 =>
  if q1.1 = (0 : Int32) then
    fX7_word_23 a1 a2 a3 q1.2
  else
    (fX7_in (a3) (0) (4) q1.2).bind fun q3 =>
    if q3.1 = (0 : Int32) then
      fX7_word_23 a1 a2 a3 q3.2
    else
      (fX7_set  q3.2).bind fun q5 =>
      if oob (((70 * a1) + a2)) 210 then none else
      if a3 = (0 : Int32) then
        (fX7_told ((q5.1 164 (Int32.toNatClampNeg ((70 * a1) + a2)))) (1) q5).bind fun q8 =>
        some (q8.1, q8.2)
      else
        if a3 = (1 : Int32) then
          (fX7_told ((q5.1 164 (Int32.toNatClampNeg ((70 * a1) + a2)))) (2) q5).bind fun q9 =>
          some (q9.1, q9.2)
        else
          if a3 = (2 : Int32) then
            (fX7_columnOf (a1) (a2) q5).bind fun q10 =>
            some (q10.1, q10.2)
          else
            if a3 = (3 : Int32) then
              (fX7_size (a1) (a2) q5).bind fun q11 =>
              some (q11.1, q11.2)
            else
              (fX7_told ((q5.1 164 (Int32.toNatClampNeg ((70 * a1) + a2)))) (3) q5).bind fun q12 =>
              some ((a2 - q12.1), q12.2)
set_option maxRecDepth 100000 in
theorem tX7_word_0 (a1 : Int32) (a2 : Int32) (a3 : Int32) (M : zMM) (q : Int32 × zMM) (h : fX7_word a1 a2 a3  M = some q) : zEV iX7_word 0 0 (zZO (some (.inl q.1), q.2)) 0 [(0, .inr (.inr 158)), (1, .inl a1), (2, .inl a2), (3, .inl a3)] [] M := by
  unfold fX7_word at h
  refine zEV.aload_n dX7_word_0 rfl 0 rfl ?_
  refine zEV.iconst (v := 0) dX7_word_1 rfl ?_
  refine zEV.pfi rfl inz7 tyX7 tyX7_ok nmX7 5 (by decide) wf_RX7_58 rfl (by decide +kernel) (by decide) rfl rfl dX7_word_2 ?_
  refine zEV.aload_n dX7_word_5 rfl 0 rfl ?_
  refine zEV.iload_n dX7_word_6 rfl 1 rfl ?_
  refine zEV.iload_n dX7_word_7 rfl 2 rfl ?_
  obtain ⟨q1, hq1, h⟩ := bind_yes h
  refine zEV.callVi (kX7_isWord (a1) (a2)  (wr M 158 5 0) q1 hq1) (by decide) rfl rfl wm_RX7_121 wc_X7_isWord hy_X7_isWord rfl ⟨Nat.le_of_ble_eq_true rfl, Nat.le_of_ble_eq_true rfl⟩ rfl (Nat.le_of_ble_eq_true rfl) dX7_word_8 ?_
  refine zEV.if_eq 23 dX7_word_11 (by decide) (fun c2 => ?_) (fun c2 => ?_)
  · rw [if_pos c2] at h
    exact zEV.perm [0] rfl (tX7_word_23 a1 a2 a3 q1.2 q h)
  · rw [if_neg c2] at h
    refine zEV.iload_n dX7_word_14 rfl 3 rfl ?_
    refine zEV.iconst (v := 0) dX7_word_15 rfl ?_
    refine zEV.iconst (v := 4) dX7_word_16 rfl ?_
    obtain ⟨q3, hq3, h⟩ := bind_yes h
    refine zEV.callSi (kX7_in (a3) (0) (4)  q1.2 q3 hq3) wm_RX7_65 wc_X7_in hy_X7_in rfl ⟨Nat.le_of_ble_eq_true rfl, Nat.le_of_ble_eq_true rfl⟩ rfl (Nat.le_of_ble_eq_true rfl) dX7_word_17 ?_
    refine zEV.if_ne 28 dX7_word_20 (by decide) (fun c4 => ?_) (fun c4 => ?_)
    · rw [if_neg c4] at h
      refine zEV.aload_n dX7_word_28 rfl 0 rfl ?_
      obtain ⟨q5, hq5, h⟩ := bind_yes h
      refine zEV.callVv (kX7_set   q3.2 q5 hq5) (by decide) rfl rfl wm_RX7_164 wc_X7_set hy_X7_set rfl ⟨Nat.le_of_ble_eq_true rfl, Nat.le_of_ble_eq_true rfl⟩ rfl (Nat.le_of_ble_eq_true rfl) dX7_word_29 ?_
      refine zEV.aload_n dX7_word_32 rfl 0 rfl ?_
      refine zEV.gfr rfl inz7 12 (by decide) wf_RX7_27 (by decide) rfl rfl dX7_word_33 ?_
      refine zEV.bipush (v := 70) dX7_word_36 rfl ?_
      refine zEV.iload_n dX7_word_38 rfl 1 rfl ?_
      refine zEV.imul dX7_word_39 ?_
      refine zEV.iload_n dX7_word_40 rfl 2 rfl ?_
      refine zEV.iadd dX7_word_41 ?_
      obtain ⟨g6, h⟩ := ite_no h
      refine zEV.iald (by decide) rfl g6 dX7_word_42 ?_
      refine zEV.istore dX7_word_43 (Nat.le_of_ble_eq_true rfl) rfl ?_
      refine zEV.iload_n dX7_word_45 rfl 4 rfl ?_
      by_cases c7_0 : a3 = (0 : Int32)
      · rw [if_pos c7_0] at h
        refine zEV.tabIn 76 dX7_word_46 (0) c7_0 (by decide) (by decide) rfl (by decide) ?_
        refine zEV.aload_n dX7_word_76 rfl 1 rfl ?_
        refine zEV.iload dX7_word_77 0 rfl ?_
        refine zEV.iconst (v := 1) dX7_word_79 rfl ?_
        obtain ⟨q8, hq8, h⟩ := bind_yes h
        refine zEV.callVi (kX7_told ((q5.1 164 (Int32.toNatClampNeg ((70 * a1) + a2)))) (1)  q5 q8 hq8) (by decide) rfl rfl wm_RX7_167 wc_X7_told hy_X7_told rfl ⟨Nat.le_of_ble_eq_true rfl, Nat.le_of_ble_eq_true rfl⟩ rfl (Nat.le_of_ble_eq_true rfl) dX7_word_80 ?_
        have h := Option.some.inj h
        subst h
        exact zEV.iret rfl dX7_word_83
      · rw [if_neg c7_0] at h
        by_cases c7_1 : a3 = (1 : Int32)
        · rw [if_pos c7_1] at h
          refine zEV.tabIn 84 dX7_word_46 (1) c7_1 (by decide) (by decide) rfl (by decide) ?_
          refine zEV.aload_n dX7_word_84 rfl 1 rfl ?_
          refine zEV.iload dX7_word_85 0 rfl ?_
          refine zEV.iconst (v := 2) dX7_word_87 rfl ?_
          obtain ⟨q9, hq9, h⟩ := bind_yes h
          refine zEV.callVi (kX7_told ((q5.1 164 (Int32.toNatClampNeg ((70 * a1) + a2)))) (2)  q5 q9 hq9) (by decide) rfl rfl wm_RX7_167 wc_X7_told hy_X7_told rfl ⟨Nat.le_of_ble_eq_true rfl, Nat.le_of_ble_eq_true rfl⟩ rfl (Nat.le_of_ble_eq_true rfl) dX7_word_88 ?_
          have h := Option.some.inj h
          subst h
          exact zEV.iret rfl dX7_word_91
        · rw [if_neg c7_1] at h
          by_cases c7_2 : a3 = (2 : Int32)
          · rw [if_pos c7_2] at h
            refine zEV.tabIn 92 dX7_word_46 (2) c7_2 (by decide) (by decide) rfl (by decide) ?_
            refine zEV.aload_n dX7_word_92 rfl 1 rfl ?_
            refine zEV.iload_n dX7_word_93 rfl 2 rfl ?_
            refine zEV.iload_n dX7_word_94 rfl 3 rfl ?_
            obtain ⟨q10, hq10, h⟩ := bind_yes h
            refine zEV.callVi (kX7_columnOf (a1) (a2)  q5 q10 hq10) (by decide) rfl rfl wm_RX7_183 wc_X7_columnOf hy_X7_columnOf rfl ⟨Nat.le_of_ble_eq_true rfl, Nat.le_of_ble_eq_true rfl⟩ rfl (Nat.le_of_ble_eq_true rfl) dX7_word_95 ?_
            have h := Option.some.inj h
            subst h
            exact zEV.iret rfl dX7_word_98
          · rw [if_neg c7_2] at h
            by_cases c7_3 : a3 = (3 : Int32)
            · rw [if_pos c7_3] at h
              refine zEV.tabIn 99 dX7_word_46 (3) c7_3 (by decide) (by decide) rfl (by decide) ?_
              refine zEV.aload_n dX7_word_99 rfl 1 rfl ?_
              refine zEV.iload_n dX7_word_100 rfl 2 rfl ?_
              refine zEV.iload_n dX7_word_101 rfl 3 rfl ?_
              obtain ⟨q11, hq11, h⟩ := bind_yes h
              refine zEV.callVi (kX7_size (a1) (a2)  q5 q11 hq11) (by decide) rfl rfl wm_RX7_147 wc_X7_size hy_X7_size rfl ⟨Nat.le_of_ble_eq_true rfl, Nat.le_of_ble_eq_true rfl⟩ rfl (Nat.le_of_ble_eq_true rfl) dX7_word_102 ?_
              have h := Option.some.inj h
              subst h
              exact zEV.iret rfl dX7_word_105
            · rw [if_neg c7_3] at h
              refine zEV.tabOut 106 3 dX7_word_46 (by decide) (by decide) rfl (fun k hk => ?_) (by decide) ?_
              · match k, hk with
                | 0, _ => exact c7_0
                | 1, _ => exact c7_1
                | 2, _ => exact c7_2
                | 3, _ => exact c7_3
                | k + 4, hk => exact absurd hk (by omega)
              refine zEV.iload_n dX7_word_106 rfl 3 rfl ?_
              refine zEV.aload_n dX7_word_107 rfl 1 rfl ?_
              refine zEV.iload dX7_word_108 0 rfl ?_
              refine zEV.iconst (v := 3) dX7_word_110 rfl ?_
              obtain ⟨q12, hq12, h⟩ := bind_yes h
              refine zEV.callVi (kX7_told ((q5.1 164 (Int32.toNatClampNeg ((70 * a1) + a2)))) (3)  q5 q12 hq12) (by decide) rfl rfl wm_RX7_167 wc_X7_told hy_X7_told rfl ⟨Nat.le_of_ble_eq_true rfl, Nat.le_of_ble_eq_true rfl⟩ rfl (Nat.le_of_ble_eq_true rfl) dX7_word_111 ?_
              refine zEV.isub dX7_word_114 ?_
              have h := Option.some.inj h
              subst h
              exact zEV.iret rfl dX7_word_115
    · rw [if_pos c4] at h
      exact zEV.perm [0] rfl (tX7_word_23 a1 a2 a3 q3.2 q h)
theorem kX7_word (a1 : Int32) (a2 : Int32) (a3 : Int32) (M : zMM) (q : Int32 × zMM) (h : fX7_word a1 a2 a3 M = some q) : zCN yX7_word iX7_word [.inr (.inr 158), .inl a1, .inl a2, .inl a3] M (some (.inl q.1), q.2) :=
  zCN.of (by decide) rfl rfl (Nat.le_of_ble_eq_true rfl) (zEV.perm [0, 1, 2, 3] rfl (tX7_word_0 a1 a2 a3 M q h))
-- RingedPageModel.at
def fX7_at_149 (K39 : Int32 → zMM → Option (Int32 × zMM)) (a1 : Int32) (a2 : Int32) (a3 : Int32) (l4 : Int32) (M : zMM) : Option (Int32 × zMM) :=
  K39 ((l4 + 1)) M
set_option maxRecDepth 100000 in
theorem tX7_at_149 (K39 : Int32 → zMM → Option (Int32 × zMM)) (a1 : Int32) (a2 : Int32) (a3 : Int32) (hK39 : ∀ (l4 : Int32) (M : zMM) (q : Int32 × zMM), K39 l4 M = some q → zEV iX7_at 0 0 (zZO (some (.inl q.1), q.2)) 39 [(0, .inr (.inr 158)), (1, .inl a1), (2, .inl a2), (3, .inl a3), (4, .inl l4)] [] M) (l4 : Int32) (M : zMM) (q : Int32 × zMM) (h : fX7_at_149 K39 a1 a2 a3 l4 M = some q) : zEV iX7_at 0 0 (zZO (some (.inl q.1), q.2)) 149 [(0, .inr (.inr 158)), (1, .inl a1), (2, .inl a2), (3, .inl a3), (4, .inl l4)] [] M := by
  unfold fX7_at_149 at h
  refine zEV.iinc (v := (l4 + 1)) dX7_at_149 4 rfl rfl (Nat.le_of_ble_eq_true rfl) rfl ?_
  refine zEV.goto 39 dX7_at_152 (by decide) ?_
  exact zEV.perm [1, 2, 3, 4, 0] rfl (hK39 ((l4 + 1)) M q h)
def fX7_at_58 (K39 : Int32 → zMM → Option (Int32 × zMM)) (a1 : Int32) (a2 : Int32) (a3 : Int32) : Nat → Int32 → Int32 → Int32 → zMM → Option (Int32 × zMM)
  | 0, _, _, _, _ => none
  | n + 1, l4, l5, l6, M =>
  if l5 = (-1) then
    fX7_at_149 K39 a1 a2 a3 (l4) M
  else
    (fX7_told (l5) (4) M).bind fun q2 =>
    if q2.1 ≤ l6 then
      fX7_at_149 K39 a1 a2 a3 (l4) q2.2
    else
      (fX7_told (l5) (3) q2.2).bind fun q4 =>
      (fX7_columnOf (l4) ((q4.1 + l6)) q4.2).bind fun q5 =>
      (fX7_size (l4) ((q4.1 + l6)) q5.2).bind fun q6 =>
      (fX7_in ((a3 - q5.1)) (0) ((q6.1 - 1)) q6.2).bind fun q7 =>
      if q7.1 = (0 : Int32) then
        fX7_at_58 K39 a1 a2 a3 n (l4) (l5) ((l6 + 1)) q7.2
      else
        (fX7_tell ((Int32.toInt64 (a3 - q5.1))) (wr q7.2 158 4 0)).bind fun q9 =>
        some (((100 * l4) + (q4.1 + l6)), q9)
set_option maxRecDepth 100000 in
theorem tX7_at_58 (K39 : Int32 → zMM → Option (Int32 × zMM)) (a1 : Int32) (a2 : Int32) (a3 : Int32) (hK39 : ∀ (l4 : Int32) (M : zMM) (q : Int32 × zMM), K39 l4 M = some q → zEV iX7_at 0 0 (zZO (some (.inl q.1), q.2)) 39 [(0, .inr (.inr 158)), (1, .inl a1), (2, .inl a2), (3, .inl a3), (4, .inl l4)] [] M) : ∀ (n : Nat) (l4 : Int32) (l5 : Int32) (l6 : Int32) (M : zMM) (q : Int32 × zMM), fX7_at_58 K39 a1 a2 a3 n l4 l5 l6 M = some q → zEV iX7_at 0 0 (zZO (some (.inl q.1), q.2)) 58 [(0, .inr (.inr 158)), (1, .inl a1), (2, .inl a2), (3, .inl a3), (4, .inl l4), (5, .inl l5), (6, .inl l6)] [] M := by
  intro n
  induction n with
  | zero =>
    intro l4 l5 l6 M q h
    rw [fX7_at_58] at h
    cases h
  | succ n ih =>
    intro l4 l5 l6 M q h
    rw [fX7_at_58] at h
    refine zEV.iload dX7_at_58 5 rfl ?_
    refine zEV.iconst (v := (-1)) dX7_at_60 rfl ?_
    refine zEV.icmp_eq 149 dX7_at_61 (by decide) (fun c1 => ?_) (fun c1 => ?_)
    · rw [if_pos c1] at h
      exact zEV.perm [0, 1, 2, 3, 4] rfl (tX7_at_149 K39 a1 a2 a3 hK39 (l4) M q h)
    · rw [if_neg c1] at h
      refine zEV.iload dX7_at_64 6 rfl ?_
      refine zEV.aload_n dX7_at_66 rfl 0 rfl ?_
      refine zEV.iload dX7_at_67 5 rfl ?_
      refine zEV.iconst (v := 4) dX7_at_69 rfl ?_
      obtain ⟨q2, hq2, h⟩ := bind_yes h
      refine zEV.callVi (kX7_told (l5) (4)  M q2 hq2) (by decide) rfl rfl wm_RX7_167 wc_X7_told hy_X7_told rfl ⟨Nat.le_of_ble_eq_true rfl, Nat.le_of_ble_eq_true rfl⟩ rfl (Nat.le_of_ble_eq_true rfl) dX7_at_70 ?_
      refine zEV.icmp_ge 149 dX7_at_73 (by decide) (fun c3 => ?_) (fun c3 => ?_)
      · rw [if_pos c3] at h
        exact zEV.perm [0, 1, 2, 3, 4] rfl (tX7_at_149 K39 a1 a2 a3 hK39 (l4) q2.2 q h)
      · rw [if_neg c3] at h
        refine zEV.aload_n dX7_at_76 rfl 0 rfl ?_
        refine zEV.iload dX7_at_77 5 rfl ?_
        refine zEV.iconst (v := 3) dX7_at_79 rfl ?_
        obtain ⟨q4, hq4, h⟩ := bind_yes h
        refine zEV.callVi (kX7_told (l5) (3)  q2.2 q4 hq4) (by decide) rfl rfl wm_RX7_167 wc_X7_told hy_X7_told rfl ⟨Nat.le_of_ble_eq_true rfl, Nat.le_of_ble_eq_true rfl⟩ rfl (Nat.le_of_ble_eq_true rfl) dX7_at_80 ?_
        refine zEV.iload dX7_at_83 6 rfl ?_
        refine zEV.iadd dX7_at_85 ?_
        refine zEV.istore dX7_at_86 (Nat.le_of_ble_eq_true rfl) rfl ?_
        refine zEV.iload_n dX7_at_88 rfl 4 rfl ?_
        refine zEV.aload_n dX7_at_89 rfl 1 rfl ?_
        refine zEV.iload dX7_at_90 5 rfl ?_
        refine zEV.iload dX7_at_92 0 rfl ?_
        obtain ⟨q5, hq5, h⟩ := bind_yes h
        refine zEV.callVi (kX7_columnOf (l4) ((q4.1 + l6))  q4.2 q5 hq5) (by decide) rfl rfl wm_RX7_183 wc_X7_columnOf hy_X7_columnOf rfl ⟨Nat.le_of_ble_eq_true rfl, Nat.le_of_ble_eq_true rfl⟩ rfl (Nat.le_of_ble_eq_true rfl) dX7_at_94 ?_
        refine zEV.isub dX7_at_97 ?_
        refine zEV.istore dX7_at_98 (Nat.le_of_ble_eq_true rfl) rfl ?_
        refine zEV.iload dX7_at_100 0 rfl ?_
        refine zEV.iconst (v := 0) dX7_at_102 rfl ?_
        refine zEV.aload_n dX7_at_103 rfl 2 rfl ?_
        refine zEV.iload dX7_at_104 6 rfl ?_
        refine zEV.iload dX7_at_106 1 rfl ?_
        obtain ⟨q6, hq6, h⟩ := bind_yes h
        refine zEV.callVi (kX7_size (l4) ((q4.1 + l6))  q5.2 q6 hq6) (by decide) rfl rfl wm_RX7_147 wc_X7_size hy_X7_size rfl ⟨Nat.le_of_ble_eq_true rfl, Nat.le_of_ble_eq_true rfl⟩ rfl (Nat.le_of_ble_eq_true rfl) dX7_at_108 ?_
        refine zEV.iconst (v := 1) dX7_at_111 rfl ?_
        refine zEV.isub dX7_at_112 ?_
        obtain ⟨q7, hq7, h⟩ := bind_yes h
        refine zEV.callSi (kX7_in ((a3 - q5.1)) (0) ((q6.1 - 1))  q6.2 q7 hq7) wm_RX7_65 wc_X7_in hy_X7_in rfl ⟨Nat.le_of_ble_eq_true rfl, Nat.le_of_ble_eq_true rfl⟩ rfl (Nat.le_of_ble_eq_true rfl) dX7_at_113 ?_
        refine zEV.if_ne 122 dX7_at_116 (by decide) (fun c8 => ?_) (fun c8 => ?_)
        · rw [if_neg c8] at h
          refine zEV.aload_n dX7_at_122 rfl 2 rfl ?_
          refine zEV.iconst (v := 0) dX7_at_123 rfl ?_
          refine zEV.pfi rfl inz7 tyX7 tyX7_ok nmX7 4 (by decide) wf_RX7_62 rfl (by decide +kernel) (by decide) rfl rfl dX7_at_124 ?_
          refine zEV.aload_n dX7_at_127 rfl 2 rfl ?_
          refine zEV.iload dX7_at_128 0 rfl ?_
          refine zEV.i2l dX7_at_130 ?_
          obtain ⟨q9, hq9, h⟩ := bind_yes h
          refine zEV.callVv (kX7_tell ((Int32.toInt64 (a3 - q5.1)))  (wr q7.2 158 4 0) q9 hq9) (by decide) rfl rfl wm_RX7_135 wc_X7_tell hy_X7_tell rfl ⟨Nat.le_of_ble_eq_true rfl, Nat.le_of_ble_eq_true rfl⟩ rfl (Nat.le_of_ble_eq_true rfl) dX7_at_131 ?_
          refine zEV.bipush (v := 100) dX7_at_134 rfl ?_
          refine zEV.iload dX7_at_136 6 rfl ?_
          refine zEV.imul dX7_at_138 ?_
          refine zEV.iload dX7_at_139 1 rfl ?_
          refine zEV.iadd dX7_at_141 ?_
          have h := Option.some.inj h
          subst h
          exact zEV.iret rfl dX7_at_142
        · rw [if_pos c8] at h
          refine zEV.goto 143 dX7_at_119 (by decide) ?_
          refine zEV.iinc (v := (l6 + 1)) dX7_at_143 8 rfl rfl (Nat.le_of_ble_eq_true rfl) rfl ?_
          refine zEV.goto 58 dX7_at_146 (by decide) ?_
          exact zEV.perm [3, 4, 5, 6, 7, 8, 0] rfl (ih (l4) (l5) ((l6 + 1)) q7.2 q h)
def fX7_at_39 (a1 : Int32) (a2 : Int32) (a3 : Int32) : Nat → Int32 → zMM → Option (Int32 × zMM)
  | 0, _, _ => none
  | n + 1, l4, M =>
  if (3 : Int32) ≤ l4 then
    some ((-2), M)
  else
    (fX7_partAt (a1) (a2) (l4) M).bind fun q2 =>
    fX7_at_58 (fX7_at_39 a1 a2 a3 n) a1 a2 a3 zFU (l4) (q2.1) (0) q2.2
set_option maxRecDepth 100000 in
theorem tX7_at_39 (a1 : Int32) (a2 : Int32) (a3 : Int32) : ∀ (n : Nat) (l4 : Int32) (M : zMM) (q : Int32 × zMM), fX7_at_39 a1 a2 a3 n l4 M = some q → zEV iX7_at 0 0 (zZO (some (.inl q.1), q.2)) 39 [(0, .inr (.inr 158)), (1, .inl a1), (2, .inl a2), (3, .inl a3), (4, .inl l4)] [] M := by
  intro n
  induction n with
  | zero =>
    intro l4 M q h
    rw [fX7_at_39] at h
    cases h
  | succ n ih =>
    intro l4 M q h
    rw [fX7_at_39] at h
    refine zEV.iload dX7_at_39 4 rfl ?_
    refine zEV.iconst (v := 3) dX7_at_41 rfl ?_
    refine zEV.icmp_ge 155 dX7_at_42 (by decide) (fun c1 => ?_) (fun c1 => ?_)
    · rw [if_pos c1] at h
      refine zEV.bipush (v := (-2)) dX7_at_155 rfl ?_
      have h := Option.some.inj h
      subst h
      exact zEV.iret rfl dX7_at_157
    · rw [if_neg c1] at h
      refine zEV.aload_n dX7_at_45 rfl 0 rfl ?_
      refine zEV.iload_n dX7_at_46 rfl 1 rfl ?_
      refine zEV.iload_n dX7_at_47 rfl 2 rfl ?_
      refine zEV.iload dX7_at_48 4 rfl ?_
      obtain ⟨q2, hq2, h⟩ := bind_yes h
      refine zEV.callVi (kX7_partAt (a1) (a2) (l4)  M q2 hq2) (by decide) rfl rfl wm_RX7_173 wc_X7_partAt hy_X7_partAt rfl ⟨Nat.le_of_ble_eq_true rfl, Nat.le_of_ble_eq_true rfl⟩ rfl (Nat.le_of_ble_eq_true rfl) dX7_at_50 ?_
      refine zEV.istore dX7_at_53 (Nat.le_of_ble_eq_true rfl) rfl ?_
      refine zEV.iconst (v := 0) dX7_at_55 rfl ?_
      refine zEV.istore dX7_at_56 (Nat.le_of_ble_eq_true rfl) rfl ?_
      exact zEV.perm [2, 3, 4, 5, 6, 1, 0] rfl (tX7_at_58 (fX7_at_39 a1 a2 a3 n) a1 a2 a3 (fun l4 M9 q9 h9 => ih l4 M9 q9 h9) zFU (l4) (q2.1) (0) q2.2 q h)
def fX7_at (a1 : Int32) (a2 : Int32) (a3 : Int32) (M : zMM) : Option (Int32 × zMM) :=
  (fX7_set  (wr M 158 5 0)).bind fun q1 =>
  (fX7_isLine (a1) (a2) q1).bind fun q2 =>
  if q2.1 = (0 : Int32) then
    some ((-1), q2.2)
  else
    (fX7_in (a3) (0) (((q2.2.1 159 0) - 1)) q2.2).bind fun q4 =>
    if q4.1 = (0 : Int32) then
      some ((-1), q4.2)
    else
      fX7_at_39 a1 a2 a3 zFU (0) q4.2
set_option maxRecDepth 100000 in
theorem tX7_at_0 (a1 : Int32) (a2 : Int32) (a3 : Int32) (M : zMM) (q : Int32 × zMM) (h : fX7_at a1 a2 a3  M = some q) : zEV iX7_at 0 0 (zZO (some (.inl q.1), q.2)) 0 [(0, .inr (.inr 158)), (1, .inl a1), (2, .inl a2), (3, .inl a3)] [] M := by
  unfold fX7_at at h
  refine zEV.aload_n dX7_at_0 rfl 0 rfl ?_
  refine zEV.iconst (v := 0) dX7_at_1 rfl ?_
  refine zEV.pfi rfl inz7 tyX7 tyX7_ok nmX7 5 (by decide) wf_RX7_58 rfl (by decide +kernel) (by decide) rfl rfl dX7_at_2 ?_
  refine zEV.aload_n dX7_at_5 rfl 0 rfl ?_
  obtain ⟨q1, hq1, h⟩ := bind_yes h
  refine zEV.callVv (kX7_set   (wr M 158 5 0) q1 hq1) (by decide) rfl rfl wm_RX7_164 wc_X7_set hy_X7_set rfl ⟨Nat.le_of_ble_eq_true rfl, Nat.le_of_ble_eq_true rfl⟩ rfl (Nat.le_of_ble_eq_true rfl) dX7_at_6 ?_
  refine zEV.aload_n dX7_at_9 rfl 0 rfl ?_
  refine zEV.iload_n dX7_at_10 rfl 1 rfl ?_
  refine zEV.iload_n dX7_at_11 rfl 2 rfl ?_
  obtain ⟨q2, hq2, h⟩ := bind_yes h
  refine zEV.callVi (kX7_isLine (a1) (a2)  q1 q2 hq2) (by decide) rfl rfl wm_RX7_170 wc_X7_isLine hy_X7_isLine rfl ⟨Nat.le_of_ble_eq_true rfl, Nat.le_of_ble_eq_true rfl⟩ rfl (Nat.le_of_ble_eq_true rfl) dX7_at_12 ?_
  refine zEV.if_eq 34 dX7_at_15 (by decide) (fun c3 => ?_) (fun c3 => ?_)
  · rw [if_pos c3] at h
    refine zEV.iconst (v := (-1)) dX7_at_34 rfl ?_
    have h := Option.some.inj h
    subst h
    exact zEV.iret rfl dX7_at_35
  · rw [if_neg c3] at h
    refine zEV.iload_n dX7_at_18 rfl 3 rfl ?_
    refine zEV.iconst (v := 0) dX7_at_19 rfl ?_
    refine zEV.aload_n dX7_at_20 rfl 0 rfl ?_
    refine zEV.gfr rfl inz7 0 (by decide) wf_RX7_9 (by decide) rfl rfl dX7_at_21 ?_
    refine zEV.iconst (v := 0) dX7_at_24 rfl ?_
    refine zEV.ialdL (j := 0) (by decide) rfl (by decide) (by decide) dX7_at_25 ?_
    refine zEV.iconst (v := 1) dX7_at_26 rfl ?_
    refine zEV.isub dX7_at_27 ?_
    obtain ⟨q4, hq4, h⟩ := bind_yes h
    refine zEV.callSi (kX7_in (a3) (0) (((q2.2.1 159 0) - 1))  q2.2 q4 hq4) wm_RX7_65 wc_X7_in hy_X7_in rfl ⟨Nat.le_of_ble_eq_true rfl, Nat.le_of_ble_eq_true rfl⟩ rfl (Nat.le_of_ble_eq_true rfl) dX7_at_28 ?_
    refine zEV.if_ne 36 dX7_at_31 (by decide) (fun c5 => ?_) (fun c5 => ?_)
    · rw [if_neg c5] at h
      refine zEV.iconst (v := 0) dX7_at_36 rfl ?_
      refine zEV.istore dX7_at_37 (Nat.le_of_ble_eq_true rfl) rfl ?_
      exact zEV.perm [1, 2, 3, 4, 0] rfl (tX7_at_39 a1 a2 a3 zFU (0) q4.2 q h)
    · rw [if_pos c5] at h
      refine zEV.iconst (v := (-1)) dX7_at_34 rfl ?_
      have h := Option.some.inj h
      subst h
      exact zEV.iret rfl dX7_at_35
theorem kX7_at (a1 : Int32) (a2 : Int32) (a3 : Int32) (M : zMM) (q : Int32 × zMM) (h : fX7_at a1 a2 a3 M = some q) : zCN yX7_at iX7_at [.inr (.inr 158), .inl a1, .inl a2, .inl a3] M (some (.inl q.1), q.2) :=
  zCN.of (by decide) rfl rfl (Nat.le_of_ble_eq_true rfl) (zEV.perm [0, 1, 2, 3] rfl (tX7_at_0 a1 a2 a3 M q h))
-- RingedPageModel.line
def fX7_line_176 (K60 : Int32 → Int32 → zMM → Option (Int32 × zMM)) (a1 : Int32) (a2 : Int32) (l3 : Int32) (l4 : Int32) (M : zMM) : Option (Int32 × zMM) :=
  K60 (l3) ((l4 + 1)) M
set_option maxRecDepth 100000 in
theorem tX7_line_176 (K60 : Int32 → Int32 → zMM → Option (Int32 × zMM)) (a1 : Int32) (a2 : Int32) (hK60 : ∀ (l3 : Int32) (l4 : Int32) (M : zMM) (q : Int32 × zMM), K60 l3 l4 M = some q → zEV iX7_line 0 0 (zZO (some (.inl q.1), q.2)) 60 [(0, .inr (.inr 158)), (1, .inl a1), (2, .inl a2), (3, .inl l3), (4, .inl l4)] [] M) (l3 : Int32) (l4 : Int32) (M : zMM) (q : Int32 × zMM) (h : fX7_line_176 K60 a1 a2 l3 l4 M = some q) : zEV iX7_line 0 0 (zZO (some (.inl q.1), q.2)) 176 [(0, .inr (.inr 158)), (1, .inl a1), (2, .inl a2), (3, .inl l3), (4, .inl l4)] [] M := by
  unfold fX7_line_176 at h
  refine zEV.iinc (v := (l4 + 1)) dX7_line_176 4 rfl rfl (Nat.le_of_ble_eq_true rfl) rfl ?_
  refine zEV.goto 60 dX7_line_179 (by decide) ?_
  exact zEV.perm [1, 2, 3, 4, 0] rfl (hK60 (l3) ((l4 + 1)) M q h)
def fX7_line_137 (K60 : Int32 → Int32 → zMM → Option (Int32 × zMM)) (K79 : Int32 → Int32 → Int32 → Int32 → zMM → Option (Int32 × zMM)) (a1 : Int32) (a2 : Int32) : Nat → Int32 → Int32 → Int32 → Int32 → Int32 → Int32 → Int32 → zMM → Option (Int32 × zMM)
  | 0, _, _, _, _, _, _, _, _ => none
  | n + 1, l3, l4, l5, l6, l7, l8, l9, M =>
  if (l7 + l8) ≤ l9 then
    K79 ((l3 + l8)) (l4) (l5) ((l6 + 1)) M
  else
    if oob (l9) 80 then none else
    fX7_line_137 K60 K79 a1 a2 n (l3) (l4) (l5) (l6) (l7) (l8) ((l9 + 1)) (wrL M 161 (Int32.toNatClampNeg l9) (Int32.toInt64 (l4 + 1)))
set_option maxRecDepth 100000 in
theorem tX7_line_137 (K60 : Int32 → Int32 → zMM → Option (Int32 × zMM)) (K79 : Int32 → Int32 → Int32 → Int32 → zMM → Option (Int32 × zMM)) (a1 : Int32) (a2 : Int32) (hK60 : ∀ (l3 : Int32) (l4 : Int32) (M : zMM) (q : Int32 × zMM), K60 l3 l4 M = some q → zEV iX7_line 0 0 (zZO (some (.inl q.1), q.2)) 60 [(0, .inr (.inr 158)), (1, .inl a1), (2, .inl a2), (3, .inl l3), (4, .inl l4)] [] M) (hK79 : ∀ (l3 : Int32) (l4 : Int32) (l5 : Int32) (l6 : Int32) (M : zMM) (q : Int32 × zMM), K79 l3 l4 l5 l6 M = some q → zEV iX7_line 0 0 (zZO (some (.inl q.1), q.2)) 79 [(0, .inr (.inr 158)), (1, .inl a1), (2, .inl a2), (3, .inl l3), (4, .inl l4), (5, .inl l5), (6, .inl l6)] [] M) : ∀ (n : Nat) (l3 : Int32) (l4 : Int32) (l5 : Int32) (l6 : Int32) (l7 : Int32) (l8 : Int32) (l9 : Int32) (M : zMM) (q : Int32 × zMM), fX7_line_137 K60 K79 a1 a2 n l3 l4 l5 l6 l7 l8 l9 M = some q → zEV iX7_line 0 0 (zZO (some (.inl q.1), q.2)) 137 [(0, .inr (.inr 158)), (1, .inl a1), (2, .inl a2), (3, .inl l3), (4, .inl l4), (5, .inl l5), (6, .inl l6), (7, .inl l7), (8, .inl l8), (9, .inl l9)] [] M := by
  intro n
  induction n with
  | zero =>
    intro l3 l4 l5 l6 l7 l8 l9 M q h
    rw [fX7_line_137] at h
    cases h
  | succ n ih =>
    intro l3 l4 l5 l6 l7 l8 l9 M q h
    rw [fX7_line_137] at h
    refine zEV.iload dX7_line_137 9 rfl ?_
    refine zEV.iload dX7_line_139 7 rfl ?_
    refine zEV.iload dX7_line_141 8 rfl ?_
    refine zEV.iadd dX7_line_143 ?_
    refine zEV.icmp_ge 165 dX7_line_144 (by decide) (fun c1 => ?_) (fun c1 => ?_)
    · rw [if_pos c1] at h
      refine zEV.iload_n dX7_line_165 rfl 3 rfl ?_
      refine zEV.iload dX7_line_166 8 rfl ?_
      refine zEV.iadd dX7_line_168 ?_
      refine zEV.istore_n dX7_line_169 rfl (Nat.le_of_ble_eq_true rfl) rfl ?_
      refine zEV.iinc (v := (l6 + 1)) dX7_line_170 6 rfl rfl (Nat.le_of_ble_eq_true rfl) rfl ?_
      refine zEV.goto 79 dX7_line_173 (by decide) ?_
      exact zEV.perm [2, 3, 4, 1, 5, 6, 0] rfl (hK79 ((l3 + l8)) (l4) (l5) ((l6 + 1)) M q h)
    · rw [if_neg c1] at h
      refine zEV.aload_n dX7_line_147 rfl 0 rfl ?_
      refine zEV.gfr rfl inz7 3 (by decide) wf_RX7_17 (by decide) rfl rfl dX7_line_148 ?_
      refine zEV.iload dX7_line_151 9 rfl ?_
      refine zEV.iload dX7_line_153 4 rfl ?_
      refine zEV.iconst (v := 1) dX7_line_155 rfl ?_
      refine zEV.iadd dX7_line_156 ?_
      refine zEV.i2l dX7_line_157 ?_
      obtain ⟨g2, h⟩ := ite_no h
      refine zEV.last (by decide) rfl g2 dX7_line_158 ?_
      refine zEV.iinc (v := (l9 + 1)) dX7_line_159 9 rfl rfl (Nat.le_of_ble_eq_true rfl) rfl ?_
      refine zEV.goto 137 dX7_line_162 (by decide) ?_
      exact zEV.perm [1, 2, 3, 4, 5, 6, 7, 8, 9, 0] rfl (ih (l3) (l4) (l5) (l6) (l7) (l8) ((l9 + 1)) (wrL M 161 (Int32.toNatClampNeg l9) (Int32.toInt64 (l4 + 1))) q h)
def fX7_line_79 (K60 : Int32 → Int32 → zMM → Option (Int32 × zMM)) (a1 : Int32) (a2 : Int32) : Nat → Int32 → Int32 → Int32 → Int32 → zMM → Option (Int32 × zMM)
  | 0, _, _, _, _, _ => none
  | n + 1, l3, l4, l5, l6, M =>
  if l5 = (-1) then
    fX7_line_176 K60 a1 a2 (l3) (l4) M
  else
    (fX7_told (l5) (4) M).bind fun q2 =>
    if q2.1 ≤ l6 then
      fX7_line_176 K60 a1 a2 (l3) (l4) q2.2
    else
      (fX7_told (l5) (3) q2.2).bind fun q4 =>
      (fX7_columnOf (l4) ((q4.1 + l6)) q4.2).bind fun q5 =>
      (fX7_told (l5) (3) q5.2).bind fun q6 =>
      (fX7_size (l4) ((q6.1 + l6)) q6.2).bind fun q7 =>
      fX7_line_137 K60 (fX7_line_79 K60 a1 a2 n) a1 a2 zFU (l3) (l4) (l5) (l6) (q5.1) (q7.1) (q5.1) q7.2
set_option maxRecDepth 100000 in
theorem tX7_line_79 (K60 : Int32 → Int32 → zMM → Option (Int32 × zMM)) (a1 : Int32) (a2 : Int32) (hK60 : ∀ (l3 : Int32) (l4 : Int32) (M : zMM) (q : Int32 × zMM), K60 l3 l4 M = some q → zEV iX7_line 0 0 (zZO (some (.inl q.1), q.2)) 60 [(0, .inr (.inr 158)), (1, .inl a1), (2, .inl a2), (3, .inl l3), (4, .inl l4)] [] M) : ∀ (n : Nat) (l3 : Int32) (l4 : Int32) (l5 : Int32) (l6 : Int32) (M : zMM) (q : Int32 × zMM), fX7_line_79 K60 a1 a2 n l3 l4 l5 l6 M = some q → zEV iX7_line 0 0 (zZO (some (.inl q.1), q.2)) 79 [(0, .inr (.inr 158)), (1, .inl a1), (2, .inl a2), (3, .inl l3), (4, .inl l4), (5, .inl l5), (6, .inl l6)] [] M := by
  intro n
  induction n with
  | zero =>
    intro l3 l4 l5 l6 M q h
    rw [fX7_line_79] at h
    cases h
  | succ n ih =>
    intro l3 l4 l5 l6 M q h
    rw [fX7_line_79] at h
    refine zEV.iload dX7_line_79 5 rfl ?_
    refine zEV.iconst (v := (-1)) dX7_line_81 rfl ?_
    refine zEV.icmp_eq 176 dX7_line_82 (by decide) (fun c1 => ?_) (fun c1 => ?_)
    · rw [if_pos c1] at h
      exact zEV.perm [0, 1, 2, 3, 4] rfl (tX7_line_176 K60 a1 a2 hK60 (l3) (l4) M q h)
    · rw [if_neg c1] at h
      refine zEV.iload dX7_line_85 6 rfl ?_
      refine zEV.aload_n dX7_line_87 rfl 0 rfl ?_
      refine zEV.iload dX7_line_88 5 rfl ?_
      refine zEV.iconst (v := 4) dX7_line_90 rfl ?_
      obtain ⟨q2, hq2, h⟩ := bind_yes h
      refine zEV.callVi (kX7_told (l5) (4)  M q2 hq2) (by decide) rfl rfl wm_RX7_167 wc_X7_told hy_X7_told rfl ⟨Nat.le_of_ble_eq_true rfl, Nat.le_of_ble_eq_true rfl⟩ rfl (Nat.le_of_ble_eq_true rfl) dX7_line_91 ?_
      refine zEV.icmp_ge 176 dX7_line_94 (by decide) (fun c3 => ?_) (fun c3 => ?_)
      · rw [if_pos c3] at h
        exact zEV.perm [0, 1, 2, 3, 4] rfl (tX7_line_176 K60 a1 a2 hK60 (l3) (l4) q2.2 q h)
      · rw [if_neg c3] at h
        refine zEV.aload_n dX7_line_97 rfl 0 rfl ?_
        refine zEV.iload dX7_line_98 4 rfl ?_
        refine zEV.aload_n dX7_line_100 rfl 0 rfl ?_
        refine zEV.iload dX7_line_101 5 rfl ?_
        refine zEV.iconst (v := 3) dX7_line_103 rfl ?_
        obtain ⟨q4, hq4, h⟩ := bind_yes h
        refine zEV.callVi (kX7_told (l5) (3)  q2.2 q4 hq4) (by decide) rfl rfl wm_RX7_167 wc_X7_told hy_X7_told rfl ⟨Nat.le_of_ble_eq_true rfl, Nat.le_of_ble_eq_true rfl⟩ rfl (Nat.le_of_ble_eq_true rfl) dX7_line_104 ?_
        refine zEV.iload dX7_line_107 6 rfl ?_
        refine zEV.iadd dX7_line_109 ?_
        obtain ⟨q5, hq5, h⟩ := bind_yes h
        refine zEV.callVi (kX7_columnOf (l4) ((q4.1 + l6))  q4.2 q5 hq5) (by decide) rfl rfl wm_RX7_183 wc_X7_columnOf hy_X7_columnOf rfl ⟨Nat.le_of_ble_eq_true rfl, Nat.le_of_ble_eq_true rfl⟩ rfl (Nat.le_of_ble_eq_true rfl) dX7_line_110 ?_
        refine zEV.istore dX7_line_113 (Nat.le_of_ble_eq_true rfl) rfl ?_
        refine zEV.aload_n dX7_line_115 rfl 1 rfl ?_
        refine zEV.iload dX7_line_116 5 rfl ?_
        refine zEV.aload_n dX7_line_118 rfl 1 rfl ?_
        refine zEV.iload dX7_line_119 6 rfl ?_
        refine zEV.iconst (v := 3) dX7_line_121 rfl ?_
        obtain ⟨q6, hq6, h⟩ := bind_yes h
        refine zEV.callVi (kX7_told (l5) (3)  q5.2 q6 hq6) (by decide) rfl rfl wm_RX7_167 wc_X7_told hy_X7_told rfl ⟨Nat.le_of_ble_eq_true rfl, Nat.le_of_ble_eq_true rfl⟩ rfl (Nat.le_of_ble_eq_true rfl) dX7_line_122 ?_
        refine zEV.iload dX7_line_125 7 rfl ?_
        refine zEV.iadd dX7_line_127 ?_
        obtain ⟨q7, hq7, h⟩ := bind_yes h
        refine zEV.callVi (kX7_size (l4) ((q6.1 + l6))  q6.2 q7 hq7) (by decide) rfl rfl wm_RX7_147 wc_X7_size hy_X7_size rfl ⟨Nat.le_of_ble_eq_true rfl, Nat.le_of_ble_eq_true rfl⟩ rfl (Nat.le_of_ble_eq_true rfl) dX7_line_128 ?_
        refine zEV.istore dX7_line_131 (Nat.le_of_ble_eq_true rfl) rfl ?_
        refine zEV.iload dX7_line_133 1 rfl ?_
        refine zEV.istore dX7_line_135 (Nat.le_of_ble_eq_true rfl) rfl ?_
        exact zEV.perm [3, 4, 5, 6, 7, 8, 9, 2, 1, 0] rfl (tX7_line_137 K60 (fX7_line_79 K60 a1 a2 n) a1 a2 hK60 (fun l3 l4 l5 l6 M9 q9 h9 => ih l3 l4 l5 l6 M9 q9 h9) zFU (l3) (l4) (l5) (l6) (q5.1) (q7.1) (q5.1) q7.2 q h)
def fX7_line_60 (a1 : Int32) (a2 : Int32) : Nat → Int32 → Int32 → zMM → Option (Int32 × zMM)
  | 0, _, _, _ => none
  | n + 1, l3, l4, M =>
  if (3 : Int32) ≤ l4 then
    some (l3, M)
  else
    (fX7_partAt (a1) (a2) (l4) M).bind fun q2 =>
    fX7_line_79 (fX7_line_60 a1 a2 n) a1 a2 zFU (l3) (l4) (q2.1) (0) q2.2
set_option maxRecDepth 100000 in
theorem tX7_line_60 (a1 : Int32) (a2 : Int32) : ∀ (n : Nat) (l3 : Int32) (l4 : Int32) (M : zMM) (q : Int32 × zMM), fX7_line_60 a1 a2 n l3 l4 M = some q → zEV iX7_line 0 0 (zZO (some (.inl q.1), q.2)) 60 [(0, .inr (.inr 158)), (1, .inl a1), (2, .inl a2), (3, .inl l3), (4, .inl l4)] [] M := by
  intro n
  induction n with
  | zero =>
    intro l3 l4 M q h
    rw [fX7_line_60] at h
    cases h
  | succ n ih =>
    intro l3 l4 M q h
    rw [fX7_line_60] at h
    refine zEV.iload dX7_line_60 4 rfl ?_
    refine zEV.iconst (v := 3) dX7_line_62 rfl ?_
    refine zEV.icmp_ge 182 dX7_line_63 (by decide) (fun c1 => ?_) (fun c1 => ?_)
    · rw [if_pos c1] at h
      refine zEV.iload_n dX7_line_182 rfl 3 rfl ?_
      have h := Option.some.inj h
      subst h
      exact zEV.iret rfl dX7_line_183
    · rw [if_neg c1] at h
      refine zEV.aload_n dX7_line_66 rfl 0 rfl ?_
      refine zEV.iload_n dX7_line_67 rfl 1 rfl ?_
      refine zEV.iload_n dX7_line_68 rfl 2 rfl ?_
      refine zEV.iload dX7_line_69 4 rfl ?_
      obtain ⟨q2, hq2, h⟩ := bind_yes h
      refine zEV.callVi (kX7_partAt (a1) (a2) (l4)  M q2 hq2) (by decide) rfl rfl wm_RX7_173 wc_X7_partAt hy_X7_partAt rfl ⟨Nat.le_of_ble_eq_true rfl, Nat.le_of_ble_eq_true rfl⟩ rfl (Nat.le_of_ble_eq_true rfl) dX7_line_71 ?_
      refine zEV.istore dX7_line_74 (Nat.le_of_ble_eq_true rfl) rfl ?_
      refine zEV.iconst (v := 0) dX7_line_76 rfl ?_
      refine zEV.istore dX7_line_77 (Nat.le_of_ble_eq_true rfl) rfl ?_
      exact zEV.perm [2, 3, 4, 5, 6, 1, 0] rfl (tX7_line_79 (fX7_line_60 a1 a2 n) a1 a2 (fun l3 l4 M9 q9 h9 => ih l3 l4 M9 q9 h9) zFU (l3) (l4) (q2.1) (0) q2.2 q h)
def fX7_line_32 (a1 : Int32) (a2 : Int32) : Nat → Int32 → zMM → Option (Int32 × zMM)
  | 0, _, _ => none
  | n + 1, l3, M =>
  if (M.1 159 0) ≤ l3 then
    fX7_line_60 a1 a2 zFU (0) (0) M
  else
    if oob (l3) 80 then none else
    fX7_line_32 a1 a2 n ((l3 + 1)) (wrL M 161 (Int32.toNatClampNeg l3) (0 : Int64))
set_option maxRecDepth 100000 in
theorem tX7_line_32 (a1 : Int32) (a2 : Int32) : ∀ (n : Nat) (l3 : Int32) (M : zMM) (q : Int32 × zMM), fX7_line_32 a1 a2 n l3 M = some q → zEV iX7_line 0 0 (zZO (some (.inl q.1), q.2)) 32 [(0, .inr (.inr 158)), (1, .inl a1), (2, .inl a2), (3, .inl l3)] [] M := by
  intro n
  induction n with
  | zero =>
    intro l3 M q h
    rw [fX7_line_32] at h
    cases h
  | succ n ih =>
    intro l3 M q h
    rw [fX7_line_32] at h
    refine zEV.iload_n dX7_line_32 rfl 3 rfl ?_
    refine zEV.aload_n dX7_line_33 rfl 0 rfl ?_
    refine zEV.gfr rfl inz7 0 (by decide) wf_RX7_9 (by decide) rfl rfl dX7_line_34 ?_
    refine zEV.iconst (v := 0) dX7_line_37 rfl ?_
    refine zEV.ialdL (j := 0) (by decide) rfl (by decide) (by decide) dX7_line_38 ?_
    refine zEV.icmp_ge 55 dX7_line_39 (by decide) (fun c1 => ?_) (fun c1 => ?_)
    · rw [if_pos c1] at h
      refine zEV.iconst (v := 0) dX7_line_55 rfl ?_
      refine zEV.istore_n dX7_line_56 rfl (Nat.le_of_ble_eq_true rfl) rfl ?_
      refine zEV.iconst (v := 0) dX7_line_57 rfl ?_
      refine zEV.istore dX7_line_58 (Nat.le_of_ble_eq_true rfl) rfl ?_
      exact zEV.perm [2, 3, 4, 1, 0] rfl (tX7_line_60 a1 a2 zFU (0) (0) M q h)
    · rw [if_neg c1] at h
      refine zEV.aload_n dX7_line_42 rfl 0 rfl ?_
      refine zEV.gfr rfl inz7 3 (by decide) wf_RX7_17 (by decide) rfl rfl dX7_line_43 ?_
      refine zEV.iload_n dX7_line_46 rfl 3 rfl ?_
      refine zEV.lconst (v := 0) dX7_line_47 rfl ?_
      obtain ⟨g2, h⟩ := ite_no h
      refine zEV.last (by decide) rfl g2 dX7_line_48 ?_
      refine zEV.iinc (v := (l3 + 1)) dX7_line_49 3 rfl rfl (Nat.le_of_ble_eq_true rfl) rfl ?_
      refine zEV.goto 32 dX7_line_52 (by decide) ?_
      exact zEV.perm [1, 2, 3, 0] rfl (ih ((l3 + 1)) (wrL M 161 (Int32.toNatClampNeg l3) (0 : Int64)) q h)
def fX7_line (a1 : Int32) (a2 : Int32) (M : zMM) : Option (Int32 × zMM) :=
  (fX7_set  (wr M 158 5 0)).bind fun q1 =>
  (fX7_isLine (a1) (a2) q1).bind fun q2 =>
  if q2.1 = (0 : Int32) then
    some ((-1), q2.2)
  else
    fX7_line_32 a1 a2 zFU (0) (wr q2.2 158 4 (q2.2.1 159 0))
set_option maxRecDepth 100000 in
theorem tX7_line_0 (a1 : Int32) (a2 : Int32) (M : zMM) (q : Int32 × zMM) (h : fX7_line a1 a2  M = some q) : zEV iX7_line 0 0 (zZO (some (.inl q.1), q.2)) 0 [(0, .inr (.inr 158)), (1, .inl a1), (2, .inl a2)] [] M := by
  unfold fX7_line at h
  refine zEV.aload_n dX7_line_0 rfl 0 rfl ?_
  refine zEV.iconst (v := 0) dX7_line_1 rfl ?_
  refine zEV.pfi rfl inz7 tyX7 tyX7_ok nmX7 5 (by decide) wf_RX7_58 rfl (by decide +kernel) (by decide) rfl rfl dX7_line_2 ?_
  refine zEV.aload_n dX7_line_5 rfl 0 rfl ?_
  obtain ⟨q1, hq1, h⟩ := bind_yes h
  refine zEV.callVv (kX7_set   (wr M 158 5 0) q1 hq1) (by decide) rfl rfl wm_RX7_164 wc_X7_set hy_X7_set rfl ⟨Nat.le_of_ble_eq_true rfl, Nat.le_of_ble_eq_true rfl⟩ rfl (Nat.le_of_ble_eq_true rfl) dX7_line_6 ?_
  refine zEV.aload_n dX7_line_9 rfl 0 rfl ?_
  refine zEV.iload_n dX7_line_10 rfl 1 rfl ?_
  refine zEV.iload_n dX7_line_11 rfl 2 rfl ?_
  obtain ⟨q2, hq2, h⟩ := bind_yes h
  refine zEV.callVi (kX7_isLine (a1) (a2)  q1 q2 hq2) (by decide) rfl rfl wm_RX7_170 wc_X7_isLine hy_X7_isLine rfl ⟨Nat.le_of_ble_eq_true rfl, Nat.le_of_ble_eq_true rfl⟩ rfl (Nat.le_of_ble_eq_true rfl) dX7_line_12 ?_
  refine zEV.if_ne 20 dX7_line_15 (by decide) (fun c3 => ?_) (fun c3 => ?_)
  · rw [if_neg c3] at h
    refine zEV.aload_n dX7_line_20 rfl 0 rfl ?_
    refine zEV.aload_n dX7_line_21 rfl 0 rfl ?_
    refine zEV.gfr rfl inz7 0 (by decide) wf_RX7_9 (by decide) rfl rfl dX7_line_22 ?_
    refine zEV.iconst (v := 0) dX7_line_25 rfl ?_
    refine zEV.ialdL (j := 0) (by decide) rfl (by decide) (by decide) dX7_line_26 ?_
    refine zEV.pfi rfl inz7 tyX7 tyX7_ok nmX7 4 (by decide) wf_RX7_62 rfl (by decide +kernel) (by decide) rfl rfl dX7_line_27 ?_
    refine zEV.iconst (v := 0) dX7_line_30 rfl ?_
    refine zEV.istore_n dX7_line_31 rfl (Nat.le_of_ble_eq_true rfl) rfl ?_
    exact zEV.perm [1, 2, 3, 0] rfl (tX7_line_32 a1 a2 zFU (0) (wr q2.2 158 4 (q2.2.1 159 0)) q h)
  · rw [if_pos c3] at h
    refine zEV.iconst (v := (-1)) dX7_line_18 rfl ?_
    have h := Option.some.inj h
    subst h
    exact zEV.iret rfl dX7_line_19
theorem kX7_line (a1 : Int32) (a2 : Int32) (M : zMM) (q : Int32 × zMM) (h : fX7_line a1 a2 M = some q) : zCN yX7_line iX7_line [.inr (.inr 158), .inl a1, .inl a2] M (some (.inl q.1), q.2) :=
  zCN.of (by decide) rfl rfl (Nat.le_of_ble_eq_true rfl) (zEV.perm [0, 1, 2] rfl (tX7_line_0 a1 a2 M q h))
-- RingedPageModel.placeOf
def fX7_placeOf (a1 : Int32) (a2 : Int32) (M : zMM) : Option (Int32 × zMM) :=
  if oob (((70 * a1) + a2)) 210 then none else
  (fX7_told ((M.1 164 (Int32.toNatClampNeg ((70 * a1) + a2)))) (1) M).bind fun q2 =>
  (fX7_told ((M.1 164 (Int32.toNatClampNeg ((70 * a1) + a2)))) (2) q2.2).bind fun q3 =>
  some (((q2.1 * (q2.2.1 159 1)) + q3.1), q3.2)
set_option maxRecDepth 100000 in
theorem tX7_placeOf_0 (a1 : Int32) (a2 : Int32) (M : zMM) (q : Int32 × zMM) (h : fX7_placeOf a1 a2  M = some q) : zEV iX7_placeOf 0 0 (zZO (some (.inl q.1), q.2)) 0 [(0, .inr (.inr 158)), (1, .inl a1), (2, .inl a2)] [] M := by
  unfold fX7_placeOf at h
  refine zEV.aload_n dX7_placeOf_0 rfl 0 rfl ?_
  refine zEV.gfr rfl inz7 12 (by decide) wf_RX7_27 (by decide) rfl rfl dX7_placeOf_1 ?_
  refine zEV.bipush (v := 70) dX7_placeOf_4 rfl ?_
  refine zEV.iload_n dX7_placeOf_6 rfl 1 rfl ?_
  refine zEV.imul dX7_placeOf_7 ?_
  refine zEV.iload_n dX7_placeOf_8 rfl 2 rfl ?_
  refine zEV.iadd dX7_placeOf_9 ?_
  obtain ⟨g1, h⟩ := ite_no h
  refine zEV.iald (by decide) rfl g1 dX7_placeOf_10 ?_
  refine zEV.istore_n dX7_placeOf_11 rfl (Nat.le_of_ble_eq_true rfl) rfl ?_
  refine zEV.aload_n dX7_placeOf_12 rfl 1 rfl ?_
  refine zEV.iload_n dX7_placeOf_13 rfl 0 rfl ?_
  refine zEV.iconst (v := 1) dX7_placeOf_14 rfl ?_
  obtain ⟨q2, hq2, h⟩ := bind_yes h
  refine zEV.callVi (kX7_told ((M.1 164 (Int32.toNatClampNeg ((70 * a1) + a2)))) (1)  M q2 hq2) (by decide) rfl rfl wm_RX7_167 wc_X7_told hy_X7_told rfl ⟨Nat.le_of_ble_eq_true rfl, Nat.le_of_ble_eq_true rfl⟩ rfl (Nat.le_of_ble_eq_true rfl) dX7_placeOf_15 ?_
  refine zEV.aload_n dX7_placeOf_18 rfl 1 rfl ?_
  refine zEV.gfr rfl inz7 0 (by decide) wf_RX7_9 (by decide) rfl rfl dX7_placeOf_19 ?_
  refine zEV.iconst (v := 1) dX7_placeOf_22 rfl ?_
  refine zEV.ialdL (j := 1) (by decide) rfl (by decide) (by decide) dX7_placeOf_23 ?_
  refine zEV.imul dX7_placeOf_24 ?_
  refine zEV.aload_n dX7_placeOf_25 rfl 1 rfl ?_
  refine zEV.iload_n dX7_placeOf_26 rfl 0 rfl ?_
  refine zEV.iconst (v := 2) dX7_placeOf_27 rfl ?_
  obtain ⟨q3, hq3, h⟩ := bind_yes h
  refine zEV.callVi (kX7_told ((M.1 164 (Int32.toNatClampNeg ((70 * a1) + a2)))) (2)  q2.2 q3 hq3) (by decide) rfl rfl wm_RX7_167 wc_X7_told hy_X7_told rfl ⟨Nat.le_of_ble_eq_true rfl, Nat.le_of_ble_eq_true rfl⟩ rfl (Nat.le_of_ble_eq_true rfl) dX7_placeOf_28 ?_
  refine zEV.iadd dX7_placeOf_31 ?_
  have h := Option.some.inj h
  subst h
  exact zEV.iret rfl dX7_placeOf_32
theorem kX7_placeOf (a1 : Int32) (a2 : Int32) (M : zMM) (q : Int32 × zMM) (h : fX7_placeOf a1 a2 M = some q) : zCN yX7_placeOf iX7_placeOf [.inr (.inr 158), .inl a1, .inl a2] M (some (.inl q.1), q.2) :=
  zCN.of (by decide) rfl rfl (Nat.le_of_ble_eq_true rfl) (zEV.perm [0, 1, 2] rfl (tX7_placeOf_0 a1 a2 M q h))
-- RingedPageModel.endOf
def fX7_endOf (a1 : Int32) (M : zMM) : Option (Int32 × zMM) :=
  if oob ((5 + a1)) 259 then none else
  if (M.1 159 (Int32.toNatClampNeg (5 + a1))) = (0 : Int32) then
    some ((-1), M)
  else
    (fX7_placeOf (a1) (((M.1 159 (Int32.toNatClampNeg (5 + a1))) - 1)) M).bind fun q3 =>
    some (q3.1, q3.2)
set_option maxRecDepth 100000 in
theorem tX7_endOf_0 (a1 : Int32) (M : zMM) (q : Int32 × zMM) (h : fX7_endOf a1  M = some q) : zEV iX7_endOf 0 0 (zZO (some (.inl q.1), q.2)) 0 [(0, .inr (.inr 158)), (1, .inl a1)] [] M := by
  unfold fX7_endOf at h
  refine zEV.aload_n dX7_endOf_0 rfl 0 rfl ?_
  refine zEV.gfr rfl inz7 0 (by decide) wf_RX7_9 (by decide) rfl rfl dX7_endOf_1 ?_
  refine zEV.iconst (v := 5) dX7_endOf_4 rfl ?_
  refine zEV.iload_n dX7_endOf_5 rfl 1 rfl ?_
  refine zEV.iadd dX7_endOf_6 ?_
  obtain ⟨g1, h⟩ := ite_no h
  refine zEV.iald (by decide) rfl g1 dX7_endOf_7 ?_
  refine zEV.if_ne 15 dX7_endOf_8 (by decide) (fun c2 => ?_) (fun c2 => ?_)
  · rw [if_neg c2] at h
    refine zEV.aload_n dX7_endOf_15 rfl 0 rfl ?_
    refine zEV.iload_n dX7_endOf_16 rfl 1 rfl ?_
    refine zEV.aload_n dX7_endOf_17 rfl 0 rfl ?_
    refine zEV.gfr rfl inz7 0 (by decide) wf_RX7_9 (by decide) rfl rfl dX7_endOf_18 ?_
    refine zEV.iconst (v := 5) dX7_endOf_21 rfl ?_
    refine zEV.iload_n dX7_endOf_22 rfl 1 rfl ?_
    refine zEV.iadd dX7_endOf_23 ?_
    refine zEV.iald (by decide) rfl g1 dX7_endOf_24 ?_
    refine zEV.iconst (v := 1) dX7_endOf_25 rfl ?_
    refine zEV.isub dX7_endOf_26 ?_
    obtain ⟨q3, hq3, h⟩ := bind_yes h
    refine zEV.callVi (kX7_placeOf (a1) (((M.1 159 (Int32.toNatClampNeg (5 + a1))) - 1))  M q3 hq3) (by decide) rfl rfl wm_RX7_186 wc_X7_placeOf hy_X7_placeOf rfl ⟨Nat.le_of_ble_eq_true rfl, Nat.le_of_ble_eq_true rfl⟩ rfl (Nat.le_of_ble_eq_true rfl) dX7_endOf_27 ?_
    have h := Option.some.inj h
    subst h
    exact zEV.iret rfl dX7_endOf_30
  · rw [if_pos c2] at h
    refine zEV.iconst (v := (-1)) dX7_endOf_11 rfl ?_
    refine zEV.goto 30 dX7_endOf_12 (by decide) ?_
    have h := Option.some.inj h
    subst h
    exact zEV.iret rfl dX7_endOf_30
theorem kX7_endOf (a1 : Int32) (M : zMM) (q : Int32 × zMM) (h : fX7_endOf a1 M = some q) : zCN yX7_endOf iX7_endOf [.inr (.inr 158), .inl a1] M (some (.inl q.1), q.2) :=
  zCN.of (by decide) rfl rfl (Nat.le_of_ble_eq_true rfl) (zEV.perm [0, 1] rfl (tX7_endOf_0 a1 M q h))
-- RingedPageModel.ends
def fX7_ends_77 (K25 : Int32 → Int32 → Int32 → zMM → Option (Int32 × zMM)) (a1 : Int32) (l2 : Int32) (l4 : Int32) (s0 : Int32) (s1 : Int32) (M : zMM) : Option (Int32 × zMM) :=
  K25 (l2) ((s1 + s0)) ((l4 + 1)) M
set_option maxRecDepth 100000 in
theorem tX7_ends_77 (K25 : Int32 → Int32 → Int32 → zMM → Option (Int32 × zMM)) (a1 : Int32) (hK25 : ∀ (l2 : Int32) (l3 : Int32) (l4 : Int32) (M : zMM) (q : Int32 × zMM), K25 l2 l3 l4 M = some q → zEV iX7_ends 0 0 (zZO (some (.inl q.1), q.2)) 25 [(0, .inr (.inr 158)), (1, .inl a1), (2, .inl l2), (3, .inl l3), (4, .inl l4)] [] M) (l2 : Int32) (l4 : Int32) (s0 : Int32) (s1 : Int32) (M : zMM) (q : Int32 × zMM) (h : fX7_ends_77 K25 a1 l2 l4 s0 s1 M = some q) : zEV iX7_ends 0 0 (zZO (some (.inl q.1), q.2)) 77 [(0, .inr (.inr 158)), (1, .inl a1), (2, .inl l2), (4, .inl l4)] [.inl s0, .inl s1] M := by
  unfold fX7_ends_77 at h
  refine zEV.iadd dX7_ends_77 ?_
  refine zEV.istore_n dX7_ends_78 rfl (Nat.le_of_ble_eq_true rfl) rfl ?_
  refine zEV.iinc (v := (l4 + 1)) dX7_ends_79 4 rfl rfl (Nat.le_of_ble_eq_true rfl) rfl ?_
  refine zEV.goto 25 dX7_ends_82 (by decide) ?_
  exact zEV.perm [2, 3, 4, 1, 0] rfl (hK25 (l2) ((s1 + s0)) ((l4 + 1)) M q h)
def fX7_ends_51 (K25 : Int32 → Int32 → Int32 → zMM → Option (Int32 × zMM)) (a1 : Int32) (l3 : Int32) (l4 : Int32) (s0 : Int32) (s1 : Int32) (M : zMM) : Option (Int32 × zMM) :=
  (fX7_told (l4) (0) M).bind fun q1 =>
  if q1.1 = a1 then
    (fX7_told (l4) (7) q1.2).bind fun q3 =>
    fX7_ends_77 K25 a1 ((s1 + s0)) (l4) (q3.1) (l3) q3.2
  else
    fX7_ends_77 K25 a1 ((s1 + s0)) (l4) (0) (l3) q1.2
set_option maxRecDepth 100000 in
theorem tX7_ends_51 (K25 : Int32 → Int32 → Int32 → zMM → Option (Int32 × zMM)) (a1 : Int32) (hK25 : ∀ (l2 : Int32) (l3 : Int32) (l4 : Int32) (M : zMM) (q : Int32 × zMM), K25 l2 l3 l4 M = some q → zEV iX7_ends 0 0 (zZO (some (.inl q.1), q.2)) 25 [(0, .inr (.inr 158)), (1, .inl a1), (2, .inl l2), (3, .inl l3), (4, .inl l4)] [] M) (l3 : Int32) (l4 : Int32) (s0 : Int32) (s1 : Int32) (M : zMM) (q : Int32 × zMM) (h : fX7_ends_51 K25 a1 l3 l4 s0 s1 M = some q) : zEV iX7_ends 0 0 (zZO (some (.inl q.1), q.2)) 51 [(0, .inr (.inr 158)), (1, .inl a1), (3, .inl l3), (4, .inl l4)] [.inl s0, .inl s1] M := by
  unfold fX7_ends_51 at h
  refine zEV.iadd dX7_ends_51 ?_
  refine zEV.istore_n dX7_ends_52 rfl (Nat.le_of_ble_eq_true rfl) rfl ?_
  refine zEV.iload_n dX7_ends_53 rfl 3 rfl ?_
  refine zEV.aload_n dX7_ends_54 rfl 1 rfl ?_
  refine zEV.iload dX7_ends_55 4 rfl ?_
  refine zEV.iconst (v := 0) dX7_ends_57 rfl ?_
  obtain ⟨q1, hq1, h⟩ := bind_yes h
  refine zEV.callVi (kX7_told (l4) (0)  M q1 hq1) (by decide) rfl rfl wm_RX7_167 wc_X7_told hy_X7_told rfl ⟨Nat.le_of_ble_eq_true rfl, Nat.le_of_ble_eq_true rfl⟩ rfl (Nat.le_of_ble_eq_true rfl) dX7_ends_58 ?_
  refine zEV.iload_n dX7_ends_61 rfl 2 rfl ?_
  refine zEV.icmp_ne 76 dX7_ends_62 (by decide) (fun c2 => ?_) (fun c2 => ?_)
  · rw [if_neg c2] at h
    refine zEV.iconst (v := 0) dX7_ends_76 rfl ?_
    exact zEV.perm [1, 2, 0, 4] rfl (tX7_ends_77 K25 a1 hK25 ((s1 + s0)) (l4) (0) (l3) q1.2 q h)
  · rw [if_pos c2] at h
    refine zEV.aload_n dX7_ends_65 rfl 1 rfl ?_
    refine zEV.iload dX7_ends_66 4 rfl ?_
    refine zEV.bipush (v := 7) dX7_ends_68 rfl ?_
    obtain ⟨q3, hq3, h⟩ := bind_yes h
    refine zEV.callVi (kX7_told (l4) (7)  q1.2 q3 hq3) (by decide) rfl rfl wm_RX7_167 wc_X7_told hy_X7_told rfl ⟨Nat.le_of_ble_eq_true rfl, Nat.le_of_ble_eq_true rfl⟩ rfl (Nat.le_of_ble_eq_true rfl) dX7_ends_70 ?_
    refine zEV.goto 77 dX7_ends_73 (by decide) ?_
    exact zEV.perm [1, 2, 0, 4] rfl (tX7_ends_77 K25 a1 hK25 ((s1 + s0)) (l4) (q3.1) (l3) q3.2 q h)
def fX7_ends_25 (a1 : Int32) : Nat → Int32 → Int32 → Int32 → zMM → Option (Int32 × zMM)
  | 0, _, _, _, _ => none
  | n + 1, l2, l3, l4, M =>
  if (M.1 158 11) ≤ l4 then
    (fX7_tell ((Int32.toInt64 l2)) (wr M 158 4 0)).bind fun q2 =>
    (fX7_tell ((Int32.toInt64 l3)) q2).bind fun q3 =>
    (fX7_endOf (a1) q3).bind fun q4 =>
    some (q4.1, q4.2)
  else
    (fX7_told (l4) (0) M).bind fun q5 =>
    if q5.1 = a1 then
      fX7_ends_51 (fX7_ends_25 a1 n) a1 (l3) (l4) (1) (l2) q5.2
    else
      fX7_ends_51 (fX7_ends_25 a1 n) a1 (l3) (l4) (0) (l2) q5.2
set_option maxRecDepth 100000 in
theorem tX7_ends_25 (a1 : Int32) : ∀ (n : Nat) (l2 : Int32) (l3 : Int32) (l4 : Int32) (M : zMM) (q : Int32 × zMM), fX7_ends_25 a1 n l2 l3 l4 M = some q → zEV iX7_ends 0 0 (zZO (some (.inl q.1), q.2)) 25 [(0, .inr (.inr 158)), (1, .inl a1), (2, .inl l2), (3, .inl l3), (4, .inl l4)] [] M := by
  intro n
  induction n with
  | zero =>
    intro l2 l3 l4 M q h
    rw [fX7_ends_25] at h
    cases h
  | succ n ih =>
    intro l2 l3 l4 M q h
    rw [fX7_ends_25] at h
    refine zEV.iload dX7_ends_25 4 rfl ?_
    refine zEV.aload_n dX7_ends_27 rfl 0 rfl ?_
    refine zEV.gfi rfl inz7 11 (by decide) wf_RX7_144 (by decide) rfl rfl dX7_ends_28 ?_
    refine zEV.icmp_ge 85 dX7_ends_31 (by decide) (fun c1 => ?_) (fun c1 => ?_)
    · rw [if_pos c1] at h
      refine zEV.aload_n dX7_ends_85 rfl 0 rfl ?_
      refine zEV.iconst (v := 0) dX7_ends_86 rfl ?_
      refine zEV.pfi rfl inz7 tyX7 tyX7_ok nmX7 4 (by decide) wf_RX7_62 rfl (by decide +kernel) (by decide) rfl rfl dX7_ends_87 ?_
      refine zEV.aload_n dX7_ends_90 rfl 0 rfl ?_
      refine zEV.iload_n dX7_ends_91 rfl 2 rfl ?_
      refine zEV.i2l dX7_ends_92 ?_
      obtain ⟨q2, hq2, h⟩ := bind_yes h
      refine zEV.callVv (kX7_tell ((Int32.toInt64 l2))  (wr M 158 4 0) q2 hq2) (by decide) rfl rfl wm_RX7_135 wc_X7_tell hy_X7_tell rfl ⟨Nat.le_of_ble_eq_true rfl, Nat.le_of_ble_eq_true rfl⟩ rfl (Nat.le_of_ble_eq_true rfl) dX7_ends_93 ?_
      refine zEV.aload_n dX7_ends_96 rfl 0 rfl ?_
      refine zEV.iload_n dX7_ends_97 rfl 3 rfl ?_
      refine zEV.i2l dX7_ends_98 ?_
      obtain ⟨q3, hq3, h⟩ := bind_yes h
      refine zEV.callVv (kX7_tell ((Int32.toInt64 l3))  q2 q3 hq3) (by decide) rfl rfl wm_RX7_135 wc_X7_tell hy_X7_tell rfl ⟨Nat.le_of_ble_eq_true rfl, Nat.le_of_ble_eq_true rfl⟩ rfl (Nat.le_of_ble_eq_true rfl) dX7_ends_99 ?_
      refine zEV.aload_n dX7_ends_102 rfl 0 rfl ?_
      refine zEV.iload_n dX7_ends_103 rfl 1 rfl ?_
      obtain ⟨q4, hq4, h⟩ := bind_yes h
      refine zEV.callVi (kX7_endOf (a1)  q3 q4 hq4) (by decide) rfl rfl wm_RX7_189 wc_X7_endOf hy_X7_endOf rfl ⟨Nat.le_of_ble_eq_true rfl, Nat.le_of_ble_eq_true rfl⟩ rfl (Nat.le_of_ble_eq_true rfl) dX7_ends_104 ?_
      have h := Option.some.inj h
      subst h
      exact zEV.iret rfl dX7_ends_107
    · rw [if_neg c1] at h
      refine zEV.iload_n dX7_ends_34 rfl 2 rfl ?_
      refine zEV.aload_n dX7_ends_35 rfl 0 rfl ?_
      refine zEV.iload dX7_ends_36 4 rfl ?_
      refine zEV.iconst (v := 0) dX7_ends_38 rfl ?_
      obtain ⟨q5, hq5, h⟩ := bind_yes h
      refine zEV.callVi (kX7_told (l4) (0)  M q5 hq5) (by decide) rfl rfl wm_RX7_167 wc_X7_told hy_X7_told rfl ⟨Nat.le_of_ble_eq_true rfl, Nat.le_of_ble_eq_true rfl⟩ rfl (Nat.le_of_ble_eq_true rfl) dX7_ends_39 ?_
      refine zEV.iload_n dX7_ends_42 rfl 1 rfl ?_
      refine zEV.icmp_ne 50 dX7_ends_43 (by decide) (fun c6 => ?_) (fun c6 => ?_)
      · rw [if_neg c6] at h
        refine zEV.iconst (v := 0) dX7_ends_50 rfl ?_
        exact zEV.perm [0, 1, 3, 4] rfl (tX7_ends_51 (fX7_ends_25 a1 n) a1 (fun l2 l3 l4 M9 q9 h9 => ih l2 l3 l4 M9 q9 h9) (l3) (l4) (0) (l2) q5.2 q h)
      · rw [if_pos c6] at h
        refine zEV.iconst (v := 1) dX7_ends_46 rfl ?_
        refine zEV.goto 51 dX7_ends_47 (by decide) ?_
        exact zEV.perm [0, 1, 3, 4] rfl (tX7_ends_51 (fX7_ends_25 a1 n) a1 (fun l2 l3 l4 M9 q9 h9 => ih l2 l3 l4 M9 q9 h9) (l3) (l4) (1) (l2) q5.2 q h)
def fX7_ends (a1 : Int32) (M : zMM) : Option (Int32 × zMM) :=
  (fX7_isText (a1) (wr M 158 5 0)).bind fun q1 =>
  if q1.1 = (0 : Int32) then
    some ((-1), q1.2)
  else
    (fX7_set  q1.2).bind fun q3 =>
    fX7_ends_25 a1 zFU (0) (0) (0) q3
set_option maxRecDepth 100000 in
theorem tX7_ends_0 (a1 : Int32) (M : zMM) (q : Int32 × zMM) (h : fX7_ends a1  M = some q) : zEV iX7_ends 0 0 (zZO (some (.inl q.1), q.2)) 0 [(0, .inr (.inr 158)), (1, .inl a1)] [] M := by
  unfold fX7_ends at h
  refine zEV.aload_n dX7_ends_0 rfl 0 rfl ?_
  refine zEV.iconst (v := 0) dX7_ends_1 rfl ?_
  refine zEV.pfi rfl inz7 tyX7 tyX7_ok nmX7 5 (by decide) wf_RX7_58 rfl (by decide +kernel) (by decide) rfl rfl dX7_ends_2 ?_
  refine zEV.iload_n dX7_ends_5 rfl 1 rfl ?_
  obtain ⟨q1, hq1, h⟩ := bind_yes h
  refine zEV.callSi (kX7_isText (a1)  (wr M 158 5 0) q1 hq1) wm_RX7_69 wc_X7_isText hy_X7_isText rfl ⟨Nat.le_of_ble_eq_true rfl, Nat.le_of_ble_eq_true rfl⟩ rfl (Nat.le_of_ble_eq_true rfl) dX7_ends_6 ?_
  refine zEV.if_ne 14 dX7_ends_9 (by decide) (fun c2 => ?_) (fun c2 => ?_)
  · rw [if_neg c2] at h
    refine zEV.aload_n dX7_ends_14 rfl 0 rfl ?_
    obtain ⟨q3, hq3, h⟩ := bind_yes h
    refine zEV.callVv (kX7_set   q1.2 q3 hq3) (by decide) rfl rfl wm_RX7_164 wc_X7_set hy_X7_set rfl ⟨Nat.le_of_ble_eq_true rfl, Nat.le_of_ble_eq_true rfl⟩ rfl (Nat.le_of_ble_eq_true rfl) dX7_ends_15 ?_
    refine zEV.iconst (v := 0) dX7_ends_18 rfl ?_
    refine zEV.istore_n dX7_ends_19 rfl (Nat.le_of_ble_eq_true rfl) rfl ?_
    refine zEV.iconst (v := 0) dX7_ends_20 rfl ?_
    refine zEV.istore_n dX7_ends_21 rfl (Nat.le_of_ble_eq_true rfl) rfl ?_
    refine zEV.iconst (v := 0) dX7_ends_22 rfl ?_
    refine zEV.istore dX7_ends_23 (Nat.le_of_ble_eq_true rfl) rfl ?_
    exact zEV.perm [3, 4, 2, 1, 0] rfl (tX7_ends_25 a1 zFU (0) (0) (0) q3 q h)
  · rw [if_pos c2] at h
    refine zEV.iconst (v := (-1)) dX7_ends_12 rfl ?_
    have h := Option.some.inj h
    subst h
    exact zEV.iret rfl dX7_ends_13
theorem kX7_ends (a1 : Int32) (M : zMM) (q : Int32 × zMM) (h : fX7_ends a1 M = some q) : zCN yX7_ends iX7_ends [.inr (.inr 158), .inl a1] M (some (.inl q.1), q.2) :=
  zCN.of (by decide) rfl rfl (Nat.le_of_ble_eq_true rfl) (zEV.perm [0, 1] rfl (tX7_ends_0 a1 M q h))
-- RingedPageModel.ender
def fX7_ender_63 (K4 : Int32 → Int32 → zMM → Option (Int32 × zMM)) (a1 : Int32) (l2 : Int32) (l3 : Int32) (M : zMM) : Option (Int32 × zMM) :=
  K4 (l2) ((l3 + 1)) M
set_option maxRecDepth 100000 in
theorem tX7_ender_63 (K4 : Int32 → Int32 → zMM → Option (Int32 × zMM)) (a1 : Int32) (hK4 : ∀ (l2 : Int32) (l3 : Int32) (M : zMM) (q : Int32 × zMM), K4 l2 l3 M = some q → zEV iX7_ender 0 0 (zZO (some (.inl q.1), q.2)) 4 [(0, .inr (.inr 158)), (1, .inl a1), (2, .inl l2), (3, .inl l3)] [] M) (l2 : Int32) (l3 : Int32) (M : zMM) (q : Int32 × zMM) (h : fX7_ender_63 K4 a1 l2 l3 M = some q) : zEV iX7_ender 0 0 (zZO (some (.inl q.1), q.2)) 63 [(0, .inr (.inr 158)), (1, .inl a1), (2, .inl l2), (3, .inl l3)] [] M := by
  unfold fX7_ender_63 at h
  refine zEV.iinc (v := (l3 + 1)) dX7_ender_63 3 rfl rfl (Nat.le_of_ble_eq_true rfl) rfl ?_
  refine zEV.goto 4 dX7_ender_66 (by decide) ?_
  exact zEV.perm [1, 2, 3, 0] rfl (hK4 (l2) ((l3 + 1)) M q h)
def fX7_ender_61 (K4 : Int32 → Int32 → zMM → Option (Int32 × zMM)) (a1 : Int32) (l3 : Int32) (M : zMM) : Option (Int32 × zMM) :=
  fX7_ender_63 K4 a1 (l3) (l3) M
set_option maxRecDepth 100000 in
theorem tX7_ender_61 (K4 : Int32 → Int32 → zMM → Option (Int32 × zMM)) (a1 : Int32) (hK4 : ∀ (l2 : Int32) (l3 : Int32) (M : zMM) (q : Int32 × zMM), K4 l2 l3 M = some q → zEV iX7_ender 0 0 (zZO (some (.inl q.1), q.2)) 4 [(0, .inr (.inr 158)), (1, .inl a1), (2, .inl l2), (3, .inl l3)] [] M) (l3 : Int32) (M : zMM) (q : Int32 × zMM) (h : fX7_ender_61 K4 a1 l3 M = some q) : zEV iX7_ender 0 0 (zZO (some (.inl q.1), q.2)) 61 [(0, .inr (.inr 158)), (1, .inl a1), (3, .inl l3)] [] M := by
  unfold fX7_ender_61 at h
  refine zEV.iload_n dX7_ender_61 rfl 2 rfl ?_
  refine zEV.istore_n dX7_ender_62 rfl (Nat.le_of_ble_eq_true rfl) rfl ?_
  exact zEV.perm [1, 2, 0, 3] rfl (tX7_ender_63 K4 a1 hK4 (l3) (l3) M q h)
def fX7_ender_4 (a1 : Int32) : Nat → Int32 → Int32 → zMM → Option (Int32 × zMM)
  | 0, _, _, _ => none
  | n + 1, l2, l3, M =>
  if (3 : Int32) ≤ l3 then
    some (l2, M)
  else
    if oob ((5 + l3)) 259 then none else
    if (M.1 159 (Int32.toNatClampNeg (5 + l3))) = (0 : Int32) then
      fX7_ender_63 (fX7_ender_4 a1 n) a1 (l2) (l3) M
    else
      if l2 = (-1) then
        fX7_ender_61 (fX7_ender_4 a1 n) a1 (l3) M
      else
        if a1 = (0 : Int32) then
          (fX7_endOf (l3) M).bind fun q6 =>
          (fX7_endOf (l2) q6.2).bind fun q7 =>
          if q7.1 ≤ q6.1 then
            fX7_ender_63 (fX7_ender_4 a1 n) a1 (l2) (l3) q7.2
          else
            fX7_ender_61 (fX7_ender_4 a1 n) a1 (l3) q7.2
        else
          (fX7_endOf (l3) M).bind fun q9 =>
          (fX7_endOf (l2) q9.2).bind fun q10 =>
          if q9.1 ≤ q10.1 then
            fX7_ender_63 (fX7_ender_4 a1 n) a1 (l2) (l3) q10.2
          else
            fX7_ender_61 (fX7_ender_4 a1 n) a1 (l3) q10.2
set_option maxRecDepth 100000 in
theorem tX7_ender_4 (a1 : Int32) : ∀ (n : Nat) (l2 : Int32) (l3 : Int32) (M : zMM) (q : Int32 × zMM), fX7_ender_4 a1 n l2 l3 M = some q → zEV iX7_ender 0 0 (zZO (some (.inl q.1), q.2)) 4 [(0, .inr (.inr 158)), (1, .inl a1), (2, .inl l2), (3, .inl l3)] [] M := by
  intro n
  induction n with
  | zero =>
    intro l2 l3 M q h
    rw [fX7_ender_4] at h
    cases h
  | succ n ih =>
    intro l2 l3 M q h
    rw [fX7_ender_4] at h
    refine zEV.iload_n dX7_ender_4 rfl 3 rfl ?_
    refine zEV.iconst (v := 3) dX7_ender_5 rfl ?_
    refine zEV.icmp_ge 69 dX7_ender_6 (by decide) (fun c1 => ?_) (fun c1 => ?_)
    · rw [if_pos c1] at h
      refine zEV.iload_n dX7_ender_69 rfl 2 rfl ?_
      have h := Option.some.inj h
      subst h
      exact zEV.iret rfl dX7_ender_70
    · rw [if_neg c1] at h
      refine zEV.aload_n dX7_ender_9 rfl 0 rfl ?_
      refine zEV.gfr rfl inz7 0 (by decide) wf_RX7_9 (by decide) rfl rfl dX7_ender_10 ?_
      refine zEV.iconst (v := 5) dX7_ender_13 rfl ?_
      refine zEV.iload_n dX7_ender_14 rfl 3 rfl ?_
      refine zEV.iadd dX7_ender_15 ?_
      obtain ⟨g2, h⟩ := ite_no h
      refine zEV.iald (by decide) rfl g2 dX7_ender_16 ?_
      refine zEV.if_ne 23 dX7_ender_17 (by decide) (fun c3 => ?_) (fun c3 => ?_)
      · rw [if_neg c3] at h
        refine zEV.iload_n dX7_ender_23 rfl 2 rfl ?_
        refine zEV.iconst (v := (-1)) dX7_ender_24 rfl ?_
        refine zEV.icmp_eq 61 dX7_ender_25 (by decide) (fun c4 => ?_) (fun c4 => ?_)
        · rw [if_pos c4] at h
          exact zEV.perm [0, 1, 3] rfl (tX7_ender_61 (fX7_ender_4 a1 n) a1 (fun l2 l3 M9 q9 h9 => ih l2 l3 M9 q9 h9) (l3) M q h)
        · rw [if_neg c4] at h
          refine zEV.iload_n dX7_ender_28 rfl 1 rfl ?_
          refine zEV.if_eq 48 dX7_ender_29 (by decide) (fun c5 => ?_) (fun c5 => ?_)
          · rw [if_pos c5] at h
            refine zEV.aload_n dX7_ender_48 rfl 0 rfl ?_
            refine zEV.iload_n dX7_ender_49 rfl 3 rfl ?_
            obtain ⟨q6, hq6, h⟩ := bind_yes h
            refine zEV.callVi (kX7_endOf (l3)  M q6 hq6) (by decide) rfl rfl wm_RX7_189 wc_X7_endOf hy_X7_endOf rfl ⟨Nat.le_of_ble_eq_true rfl, Nat.le_of_ble_eq_true rfl⟩ rfl (Nat.le_of_ble_eq_true rfl) dX7_ender_50 ?_
            refine zEV.aload_n dX7_ender_53 rfl 0 rfl ?_
            refine zEV.iload_n dX7_ender_54 rfl 2 rfl ?_
            obtain ⟨q7, hq7, h⟩ := bind_yes h
            refine zEV.callVi (kX7_endOf (l2)  q6.2 q7 hq7) (by decide) rfl rfl wm_RX7_189 wc_X7_endOf hy_X7_endOf rfl ⟨Nat.le_of_ble_eq_true rfl, Nat.le_of_ble_eq_true rfl⟩ rfl (Nat.le_of_ble_eq_true rfl) dX7_ender_55 ?_
            refine zEV.icmp_ge 63 dX7_ender_58 (by decide) (fun c8 => ?_) (fun c8 => ?_)
            · rw [if_pos c8] at h
              exact zEV.perm [0, 1, 2, 3] rfl (tX7_ender_63 (fX7_ender_4 a1 n) a1 (fun l2 l3 M9 q9 h9 => ih l2 l3 M9 q9 h9) (l2) (l3) q7.2 q h)
            · rw [if_neg c8] at h
              exact zEV.perm [0, 1, 3] rfl (tX7_ender_61 (fX7_ender_4 a1 n) a1 (fun l2 l3 M9 q9 h9 => ih l2 l3 M9 q9 h9) (l3) q7.2 q h)
          · rw [if_neg c5] at h
            refine zEV.aload_n dX7_ender_32 rfl 0 rfl ?_
            refine zEV.iload_n dX7_ender_33 rfl 3 rfl ?_
            obtain ⟨q9, hq9, h⟩ := bind_yes h
            refine zEV.callVi (kX7_endOf (l3)  M q9 hq9) (by decide) rfl rfl wm_RX7_189 wc_X7_endOf hy_X7_endOf rfl ⟨Nat.le_of_ble_eq_true rfl, Nat.le_of_ble_eq_true rfl⟩ rfl (Nat.le_of_ble_eq_true rfl) dX7_ender_34 ?_
            refine zEV.aload_n dX7_ender_37 rfl 0 rfl ?_
            refine zEV.iload_n dX7_ender_38 rfl 2 rfl ?_
            obtain ⟨q10, hq10, h⟩ := bind_yes h
            refine zEV.callVi (kX7_endOf (l2)  q9.2 q10 hq10) (by decide) rfl rfl wm_RX7_189 wc_X7_endOf hy_X7_endOf rfl ⟨Nat.le_of_ble_eq_true rfl, Nat.le_of_ble_eq_true rfl⟩ rfl (Nat.le_of_ble_eq_true rfl) dX7_ender_39 ?_
            refine zEV.icmp_le 63 dX7_ender_42 (by decide) (fun c11 => ?_) (fun c11 => ?_)
            · rw [if_pos c11] at h
              exact zEV.perm [0, 1, 2, 3] rfl (tX7_ender_63 (fX7_ender_4 a1 n) a1 (fun l2 l3 M9 q9 h9 => ih l2 l3 M9 q9 h9) (l2) (l3) q10.2 q h)
            · rw [if_neg c11] at h
              refine zEV.goto 61 dX7_ender_45 (by decide) ?_
              exact zEV.perm [0, 1, 3] rfl (tX7_ender_61 (fX7_ender_4 a1 n) a1 (fun l2 l3 M9 q9 h9 => ih l2 l3 M9 q9 h9) (l3) q10.2 q h)
      · rw [if_pos c3] at h
        refine zEV.goto 63 dX7_ender_20 (by decide) ?_
        exact zEV.perm [0, 1, 2, 3] rfl (tX7_ender_63 (fX7_ender_4 a1 n) a1 (fun l2 l3 M9 q9 h9 => ih l2 l3 M9 q9 h9) (l2) (l3) M q h)
def fX7_ender (a1 : Int32) (M : zMM) : Option (Int32 × zMM) :=
  fX7_ender_4 a1 zFU ((-1)) (0) M
set_option maxRecDepth 100000 in
theorem tX7_ender_0 (a1 : Int32) (M : zMM) (q : Int32 × zMM) (h : fX7_ender a1  M = some q) : zEV iX7_ender 0 0 (zZO (some (.inl q.1), q.2)) 0 [(0, .inr (.inr 158)), (1, .inl a1)] [] M := by
  unfold fX7_ender at h
  refine zEV.iconst (v := (-1)) dX7_ender_0 rfl ?_
  refine zEV.istore_n dX7_ender_1 rfl (Nat.le_of_ble_eq_true rfl) rfl ?_
  refine zEV.iconst (v := 0) dX7_ender_2 rfl ?_
  refine zEV.istore_n dX7_ender_3 rfl (Nat.le_of_ble_eq_true rfl) rfl ?_
  exact zEV.perm [2, 3, 1, 0] rfl (tX7_ender_4 a1 zFU ((-1)) (0) M q h)
theorem kX7_ender (a1 : Int32) (M : zMM) (q : Int32 × zMM) (h : fX7_ender a1 M = some q) : zCN yX7_ender iX7_ender [.inr (.inr 158), .inl a1] M (some (.inl q.1), q.2) :=
  zCN.of (by decide) rfl rfl (Nat.le_of_ble_eq_true rfl) (zEV.perm [0, 1] rfl (tX7_ender_0 a1 M q h))
-- RingedPageModel.apartOf
def fX7_apartOf (M : zMM) : Option (Int32 × zMM) :=
  (fX7_ender (1) M).bind fun q1 =>
  if q1.1 = (-1) then
    some (0, q1.2)
  else
    (fX7_ender (1) q1.2).bind fun q3 =>
    (fX7_endOf (q3.1) q3.2).bind fun q4 =>
    (fX7_ender (0) q4.2).bind fun q5 =>
    (fX7_endOf (q5.1) q5.2).bind fun q6 =>
    some ((q4.1 - q6.1), q6.2)
set_option maxRecDepth 100000 in
theorem tX7_apartOf_0 (M : zMM) (q : Int32 × zMM) (h : fX7_apartOf  M = some q) : zEV iX7_apartOf 0 0 (zZO (some (.inl q.1), q.2)) 0 [(0, .inr (.inr 158))] [] M := by
  unfold fX7_apartOf at h
  refine zEV.aload_n dX7_apartOf_0 rfl 0 rfl ?_
  refine zEV.iconst (v := 1) dX7_apartOf_1 rfl ?_
  obtain ⟨q1, hq1, h⟩ := bind_yes h
  refine zEV.callVi (kX7_ender (1)  M q1 hq1) (by decide) rfl rfl wm_RX7_192 wc_X7_ender hy_X7_ender rfl ⟨Nat.le_of_ble_eq_true rfl, Nat.le_of_ble_eq_true rfl⟩ rfl (Nat.le_of_ble_eq_true rfl) dX7_apartOf_2 ?_
  refine zEV.iconst (v := (-1)) dX7_apartOf_5 rfl ?_
  refine zEV.icmp_ne 13 dX7_apartOf_6 (by decide) (fun c2 => ?_) (fun c2 => ?_)
  · rw [if_neg c2] at h
    refine zEV.aload_n dX7_apartOf_13 rfl 0 rfl ?_
    refine zEV.aload_n dX7_apartOf_14 rfl 0 rfl ?_
    refine zEV.iconst (v := 1) dX7_apartOf_15 rfl ?_
    obtain ⟨q3, hq3, h⟩ := bind_yes h
    refine zEV.callVi (kX7_ender (1)  q1.2 q3 hq3) (by decide) rfl rfl wm_RX7_192 wc_X7_ender hy_X7_ender rfl ⟨Nat.le_of_ble_eq_true rfl, Nat.le_of_ble_eq_true rfl⟩ rfl (Nat.le_of_ble_eq_true rfl) dX7_apartOf_16 ?_
    obtain ⟨q4, hq4, h⟩ := bind_yes h
    refine zEV.callVi (kX7_endOf (q3.1)  q3.2 q4 hq4) (by decide) rfl rfl wm_RX7_189 wc_X7_endOf hy_X7_endOf rfl ⟨Nat.le_of_ble_eq_true rfl, Nat.le_of_ble_eq_true rfl⟩ rfl (Nat.le_of_ble_eq_true rfl) dX7_apartOf_19 ?_
    refine zEV.aload_n dX7_apartOf_22 rfl 0 rfl ?_
    refine zEV.aload_n dX7_apartOf_23 rfl 0 rfl ?_
    refine zEV.iconst (v := 0) dX7_apartOf_24 rfl ?_
    obtain ⟨q5, hq5, h⟩ := bind_yes h
    refine zEV.callVi (kX7_ender (0)  q4.2 q5 hq5) (by decide) rfl rfl wm_RX7_192 wc_X7_ender hy_X7_ender rfl ⟨Nat.le_of_ble_eq_true rfl, Nat.le_of_ble_eq_true rfl⟩ rfl (Nat.le_of_ble_eq_true rfl) dX7_apartOf_25 ?_
    obtain ⟨q6, hq6, h⟩ := bind_yes h
    refine zEV.callVi (kX7_endOf (q5.1)  q5.2 q6 hq6) (by decide) rfl rfl wm_RX7_189 wc_X7_endOf hy_X7_endOf rfl ⟨Nat.le_of_ble_eq_true rfl, Nat.le_of_ble_eq_true rfl⟩ rfl (Nat.le_of_ble_eq_true rfl) dX7_apartOf_28 ?_
    refine zEV.isub dX7_apartOf_31 ?_
    have h := Option.some.inj h
    subst h
    exact zEV.iret rfl dX7_apartOf_32
  · rw [if_pos c2] at h
    refine zEV.iconst (v := 0) dX7_apartOf_9 rfl ?_
    refine zEV.goto 32 dX7_apartOf_10 (by decide) ?_
    have h := Option.some.inj h
    subst h
    exact zEV.iret rfl dX7_apartOf_32
theorem kX7_apartOf (M : zMM) (q : Int32 × zMM) (h : fX7_apartOf M = some q) : zCN yX7_apartOf iX7_apartOf [.inr (.inr 158)] M (some (.inl q.1), q.2) :=
  zCN.of (by decide) rfl rfl (Nat.le_of_ble_eq_true rfl) (zEV.perm [0] rfl (tX7_apartOf_0 M q h))
-- RingedPageModel.apart
def fX7_apart (M : zMM) : Option (Int32 × zMM) :=
  (fX7_set  (wr M 158 5 0)).bind fun q1 =>
  (fX7_ender (0) (wr q1 158 4 0)).bind fun q2 =>
  (fX7_tell ((Int32.toInt64 q2.1)) q2.2).bind fun q3 =>
  (fX7_ender (1) q3).bind fun q4 =>
  (fX7_tell ((Int32.toInt64 q4.1)) q4.2).bind fun q5 =>
  (fX7_apartOf  q5).bind fun q6 =>
  some (q6.1, q6.2)
set_option maxRecDepth 100000 in
theorem tX7_apart_0 (M : zMM) (q : Int32 × zMM) (h : fX7_apart  M = some q) : zEV iX7_apart 0 0 (zZO (some (.inl q.1), q.2)) 0 [(0, .inr (.inr 158))] [] M := by
  unfold fX7_apart at h
  refine zEV.aload_n dX7_apart_0 rfl 0 rfl ?_
  refine zEV.iconst (v := 0) dX7_apart_1 rfl ?_
  refine zEV.pfi rfl inz7 tyX7 tyX7_ok nmX7 5 (by decide) wf_RX7_58 rfl (by decide +kernel) (by decide) rfl rfl dX7_apart_2 ?_
  refine zEV.aload_n dX7_apart_5 rfl 0 rfl ?_
  obtain ⟨q1, hq1, h⟩ := bind_yes h
  refine zEV.callVv (kX7_set   (wr M 158 5 0) q1 hq1) (by decide) rfl rfl wm_RX7_164 wc_X7_set hy_X7_set rfl ⟨Nat.le_of_ble_eq_true rfl, Nat.le_of_ble_eq_true rfl⟩ rfl (Nat.le_of_ble_eq_true rfl) dX7_apart_6 ?_
  refine zEV.aload_n dX7_apart_9 rfl 0 rfl ?_
  refine zEV.iconst (v := 0) dX7_apart_10 rfl ?_
  refine zEV.pfi rfl inz7 tyX7 tyX7_ok nmX7 4 (by decide) wf_RX7_62 rfl (by decide +kernel) (by decide) rfl rfl dX7_apart_11 ?_
  refine zEV.aload_n dX7_apart_14 rfl 0 rfl ?_
  refine zEV.aload_n dX7_apart_15 rfl 0 rfl ?_
  refine zEV.iconst (v := 0) dX7_apart_16 rfl ?_
  obtain ⟨q2, hq2, h⟩ := bind_yes h
  refine zEV.callVi (kX7_ender (0)  (wr q1 158 4 0) q2 hq2) (by decide) rfl rfl wm_RX7_192 wc_X7_ender hy_X7_ender rfl ⟨Nat.le_of_ble_eq_true rfl, Nat.le_of_ble_eq_true rfl⟩ rfl (Nat.le_of_ble_eq_true rfl) dX7_apart_17 ?_
  refine zEV.i2l dX7_apart_20 ?_
  obtain ⟨q3, hq3, h⟩ := bind_yes h
  refine zEV.callVv (kX7_tell ((Int32.toInt64 q2.1))  q2.2 q3 hq3) (by decide) rfl rfl wm_RX7_135 wc_X7_tell hy_X7_tell rfl ⟨Nat.le_of_ble_eq_true rfl, Nat.le_of_ble_eq_true rfl⟩ rfl (Nat.le_of_ble_eq_true rfl) dX7_apart_21 ?_
  refine zEV.aload_n dX7_apart_24 rfl 0 rfl ?_
  refine zEV.aload_n dX7_apart_25 rfl 0 rfl ?_
  refine zEV.iconst (v := 1) dX7_apart_26 rfl ?_
  obtain ⟨q4, hq4, h⟩ := bind_yes h
  refine zEV.callVi (kX7_ender (1)  q3 q4 hq4) (by decide) rfl rfl wm_RX7_192 wc_X7_ender hy_X7_ender rfl ⟨Nat.le_of_ble_eq_true rfl, Nat.le_of_ble_eq_true rfl⟩ rfl (Nat.le_of_ble_eq_true rfl) dX7_apart_27 ?_
  refine zEV.i2l dX7_apart_30 ?_
  obtain ⟨q5, hq5, h⟩ := bind_yes h
  refine zEV.callVv (kX7_tell ((Int32.toInt64 q4.1))  q4.2 q5 hq5) (by decide) rfl rfl wm_RX7_135 wc_X7_tell hy_X7_tell rfl ⟨Nat.le_of_ble_eq_true rfl, Nat.le_of_ble_eq_true rfl⟩ rfl (Nat.le_of_ble_eq_true rfl) dX7_apart_31 ?_
  refine zEV.aload_n dX7_apart_34 rfl 0 rfl ?_
  obtain ⟨q6, hq6, h⟩ := bind_yes h
  refine zEV.callVi (kX7_apartOf   q5 q6 hq6) (by decide) rfl rfl wm_RX7_196 wc_X7_apartOf hy_X7_apartOf rfl ⟨Nat.le_of_ble_eq_true rfl, Nat.le_of_ble_eq_true rfl⟩ rfl (Nat.le_of_ble_eq_true rfl) dX7_apart_35 ?_
  have h := Option.some.inj h
  subst h
  exact zEV.iret rfl dX7_apart_38
theorem kX7_apart (M : zMM) (q : Int32 × zMM) (h : fX7_apart M = some q) : zCN yX7_apart iX7_apart [.inr (.inr 158)] M (some (.inl q.1), q.2) :=
  zCN.of (by decide) rfl rfl (Nat.le_of_ble_eq_true rfl) (zEV.perm [0] rfl (tX7_apart_0 M q h))
-- RingedPageModel.raggedAll
def fX7_raggedAll_4 : Nat → Int32 → Int32 → zMM → Option (Int32 × zMM)
  | 0, _, _, _ => none
  | n + 1, l1, l2, M =>
  if (M.1 158 11) ≤ l2 then
    some (l1, M)
  else
    (fX7_told (l2) (7) M).bind fun q2 =>
    fX7_raggedAll_4 n ((l1 + q2.1)) ((l2 + 1)) q2.2
set_option maxRecDepth 100000 in
theorem tX7_raggedAll_4 : ∀ (n : Nat) (l1 : Int32) (l2 : Int32) (M : zMM) (q : Int32 × zMM), fX7_raggedAll_4 n l1 l2 M = some q → zEV iX7_raggedAll 0 0 (zZO (some (.inl q.1), q.2)) 4 [(0, .inr (.inr 158)), (1, .inl l1), (2, .inl l2)] [] M := by
  intro n
  induction n with
  | zero =>
    intro l1 l2 M q h
    rw [fX7_raggedAll_4] at h
    cases h
  | succ n ih =>
    intro l1 l2 M q h
    rw [fX7_raggedAll_4] at h
    refine zEV.iload_n dX7_raggedAll_4 rfl 2 rfl ?_
    refine zEV.aload_n dX7_raggedAll_5 rfl 0 rfl ?_
    refine zEV.gfi rfl inz7 11 (by decide) wf_RX7_144 (by decide) rfl rfl dX7_raggedAll_6 ?_
    refine zEV.icmp_ge 28 dX7_raggedAll_9 (by decide) (fun c1 => ?_) (fun c1 => ?_)
    · rw [if_pos c1] at h
      refine zEV.iload_n dX7_raggedAll_28 rfl 1 rfl ?_
      have h := Option.some.inj h
      subst h
      exact zEV.iret rfl dX7_raggedAll_29
    · rw [if_neg c1] at h
      refine zEV.iload_n dX7_raggedAll_12 rfl 1 rfl ?_
      refine zEV.aload_n dX7_raggedAll_13 rfl 0 rfl ?_
      refine zEV.iload_n dX7_raggedAll_14 rfl 2 rfl ?_
      refine zEV.bipush (v := 7) dX7_raggedAll_15 rfl ?_
      obtain ⟨q2, hq2, h⟩ := bind_yes h
      refine zEV.callVi (kX7_told (l2) (7)  M q2 hq2) (by decide) rfl rfl wm_RX7_167 wc_X7_told hy_X7_told rfl ⟨Nat.le_of_ble_eq_true rfl, Nat.le_of_ble_eq_true rfl⟩ rfl (Nat.le_of_ble_eq_true rfl) dX7_raggedAll_17 ?_
      refine zEV.iadd dX7_raggedAll_20 ?_
      refine zEV.istore_n dX7_raggedAll_21 rfl (Nat.le_of_ble_eq_true rfl) rfl ?_
      refine zEV.iinc (v := (l2 + 1)) dX7_raggedAll_22 2 rfl rfl (Nat.le_of_ble_eq_true rfl) rfl ?_
      refine zEV.goto 4 dX7_raggedAll_25 (by decide) ?_
      exact zEV.perm [2, 1, 0] rfl (ih ((l1 + q2.1)) ((l2 + 1)) q2.2 q h)
def fX7_raggedAll (M : zMM) : Option (Int32 × zMM) :=
  fX7_raggedAll_4 zFU (0) (0) M
set_option maxRecDepth 100000 in
theorem tX7_raggedAll_0 (M : zMM) (q : Int32 × zMM) (h : fX7_raggedAll  M = some q) : zEV iX7_raggedAll 0 0 (zZO (some (.inl q.1), q.2)) 0 [(0, .inr (.inr 158))] [] M := by
  unfold fX7_raggedAll at h
  refine zEV.iconst (v := 0) dX7_raggedAll_0 rfl ?_
  refine zEV.istore_n dX7_raggedAll_1 rfl (Nat.le_of_ble_eq_true rfl) rfl ?_
  refine zEV.iconst (v := 0) dX7_raggedAll_2 rfl ?_
  refine zEV.istore_n dX7_raggedAll_3 rfl (Nat.le_of_ble_eq_true rfl) rfl ?_
  exact zEV.perm [2, 1, 0] rfl (tX7_raggedAll_4 zFU (0) (0) M q h)
theorem kX7_raggedAll (M : zMM) (q : Int32 × zMM) (h : fX7_raggedAll M = some q) : zCN yX7_raggedAll iX7_raggedAll [.inr (.inr 158)] M (some (.inl q.1), q.2) :=
  zCN.of (by decide) rfl rfl (Nat.le_of_ble_eq_true rfl) (zEV.perm [0] rfl (tX7_raggedAll_0 M q h))
-- RingedPageModel.isAhead
def fX7_isAhead (a1 : Int32) (a2 : Int32) (M : zMM) : Option (Int32 × zMM) :=
  (fX7_told (a1) (1) M).bind fun q1 =>
  (fX7_told (a2) (1) q1.2).bind fun q2 =>
  if q1.1 = q2.1 then
    (fX7_told (a1) (2) q2.2).bind fun q4 =>
    (fX7_told (a2) (2) q4.2).bind fun q5 =>
    if q4.1 = q5.1 then
      (fX7_told (a1) (0) q5.2).bind fun q7 =>
      (fX7_told (a2) (0) q7.2).bind fun q8 =>
      if q8.1 ≤ q7.1 then
        some (0, q8.2)
      else
        some (1, q8.2)
    else
      (fX7_told (a1) (2) q5.2).bind fun q10 =>
      (fX7_told (a2) (2) q10.2).bind fun q11 =>
      if q11.1 ≤ q10.1 then
        some (0, q11.2)
      else
        some (1, q11.2)
  else
    (fX7_told (a1) (1) q2.2).bind fun q13 =>
    (fX7_told (a2) (1) q13.2).bind fun q14 =>
    if q14.1 ≤ q13.1 then
      some (0, q14.2)
    else
      some (1, q14.2)
set_option maxRecDepth 100000 in
theorem tX7_isAhead_0 (a1 : Int32) (a2 : Int32) (M : zMM) (q : Int32 × zMM) (h : fX7_isAhead a1 a2  M = some q) : zEV iX7_isAhead 0 0 (zZO (some (.inl q.1), q.2)) 0 [(0, .inr (.inr 158)), (1, .inl a1), (2, .inl a2)] [] M := by
  unfold fX7_isAhead at h
  refine zEV.aload_n dX7_isAhead_0 rfl 0 rfl ?_
  refine zEV.iload_n dX7_isAhead_1 rfl 1 rfl ?_
  refine zEV.iconst (v := 1) dX7_isAhead_2 rfl ?_
  obtain ⟨q1, hq1, h⟩ := bind_yes h
  refine zEV.callVi (kX7_told (a1) (1)  M q1 hq1) (by decide) rfl rfl wm_RX7_167 wc_X7_told hy_X7_told rfl ⟨Nat.le_of_ble_eq_true rfl, Nat.le_of_ble_eq_true rfl⟩ rfl (Nat.le_of_ble_eq_true rfl) dX7_isAhead_3 ?_
  refine zEV.aload_n dX7_isAhead_6 rfl 0 rfl ?_
  refine zEV.iload_n dX7_isAhead_7 rfl 2 rfl ?_
  refine zEV.iconst (v := 1) dX7_isAhead_8 rfl ?_
  obtain ⟨q2, hq2, h⟩ := bind_yes h
  refine zEV.callVi (kX7_told (a2) (1)  q1.2 q2 hq2) (by decide) rfl rfl wm_RX7_167 wc_X7_told hy_X7_told rfl ⟨Nat.le_of_ble_eq_true rfl, Nat.le_of_ble_eq_true rfl⟩ rfl (Nat.le_of_ble_eq_true rfl) dX7_isAhead_9 ?_
  refine zEV.icmp_eq 36 dX7_isAhead_12 (by decide) (fun c3 => ?_) (fun c3 => ?_)
  · rw [if_pos c3] at h
    refine zEV.aload_n dX7_isAhead_36 rfl 0 rfl ?_
    refine zEV.iload_n dX7_isAhead_37 rfl 1 rfl ?_
    refine zEV.iconst (v := 2) dX7_isAhead_38 rfl ?_
    obtain ⟨q4, hq4, h⟩ := bind_yes h
    refine zEV.callVi (kX7_told (a1) (2)  q2.2 q4 hq4) (by decide) rfl rfl wm_RX7_167 wc_X7_told hy_X7_told rfl ⟨Nat.le_of_ble_eq_true rfl, Nat.le_of_ble_eq_true rfl⟩ rfl (Nat.le_of_ble_eq_true rfl) dX7_isAhead_39 ?_
    refine zEV.aload_n dX7_isAhead_42 rfl 0 rfl ?_
    refine zEV.iload_n dX7_isAhead_43 rfl 2 rfl ?_
    refine zEV.iconst (v := 2) dX7_isAhead_44 rfl ?_
    obtain ⟨q5, hq5, h⟩ := bind_yes h
    refine zEV.callVi (kX7_told (a2) (2)  q4.2 q5 hq5) (by decide) rfl rfl wm_RX7_167 wc_X7_told hy_X7_told rfl ⟨Nat.le_of_ble_eq_true rfl, Nat.le_of_ble_eq_true rfl⟩ rfl (Nat.le_of_ble_eq_true rfl) dX7_isAhead_45 ?_
    refine zEV.icmp_eq 74 dX7_isAhead_48 (by decide) (fun c6 => ?_) (fun c6 => ?_)
    · rw [if_pos c6] at h
      refine zEV.aload_n dX7_isAhead_74 rfl 0 rfl ?_
      refine zEV.iload_n dX7_isAhead_75 rfl 1 rfl ?_
      refine zEV.iconst (v := 0) dX7_isAhead_76 rfl ?_
      obtain ⟨q7, hq7, h⟩ := bind_yes h
      refine zEV.callVi (kX7_told (a1) (0)  q5.2 q7 hq7) (by decide) rfl rfl wm_RX7_167 wc_X7_told hy_X7_told rfl ⟨Nat.le_of_ble_eq_true rfl, Nat.le_of_ble_eq_true rfl⟩ rfl (Nat.le_of_ble_eq_true rfl) dX7_isAhead_77 ?_
      refine zEV.aload_n dX7_isAhead_80 rfl 0 rfl ?_
      refine zEV.iload_n dX7_isAhead_81 rfl 2 rfl ?_
      refine zEV.iconst (v := 0) dX7_isAhead_82 rfl ?_
      obtain ⟨q8, hq8, h⟩ := bind_yes h
      refine zEV.callVi (kX7_told (a2) (0)  q7.2 q8 hq8) (by decide) rfl rfl wm_RX7_167 wc_X7_told hy_X7_told rfl ⟨Nat.le_of_ble_eq_true rfl, Nat.le_of_ble_eq_true rfl⟩ rfl (Nat.le_of_ble_eq_true rfl) dX7_isAhead_83 ?_
      refine zEV.icmp_ge 93 dX7_isAhead_86 (by decide) (fun c9 => ?_) (fun c9 => ?_)
      · rw [if_pos c9] at h
        refine zEV.iconst (v := 0) dX7_isAhead_93 rfl ?_
        have h := Option.some.inj h
        subst h
        exact zEV.zret rfl (Or.inl rfl) dX7_isAhead_94
      · rw [if_neg c9] at h
        refine zEV.iconst (v := 1) dX7_isAhead_89 rfl ?_
        refine zEV.goto 94 dX7_isAhead_90 (by decide) ?_
        have h := Option.some.inj h
        subst h
        exact zEV.zret rfl (Or.inr rfl) dX7_isAhead_94
    · rw [if_neg c6] at h
      refine zEV.aload_n dX7_isAhead_51 rfl 0 rfl ?_
      refine zEV.iload_n dX7_isAhead_52 rfl 1 rfl ?_
      refine zEV.iconst (v := 2) dX7_isAhead_53 rfl ?_
      obtain ⟨q10, hq10, h⟩ := bind_yes h
      refine zEV.callVi (kX7_told (a1) (2)  q5.2 q10 hq10) (by decide) rfl rfl wm_RX7_167 wc_X7_told hy_X7_told rfl ⟨Nat.le_of_ble_eq_true rfl, Nat.le_of_ble_eq_true rfl⟩ rfl (Nat.le_of_ble_eq_true rfl) dX7_isAhead_54 ?_
      refine zEV.aload_n dX7_isAhead_57 rfl 0 rfl ?_
      refine zEV.iload_n dX7_isAhead_58 rfl 2 rfl ?_
      refine zEV.iconst (v := 2) dX7_isAhead_59 rfl ?_
      obtain ⟨q11, hq11, h⟩ := bind_yes h
      refine zEV.callVi (kX7_told (a2) (2)  q10.2 q11 hq11) (by decide) rfl rfl wm_RX7_167 wc_X7_told hy_X7_told rfl ⟨Nat.le_of_ble_eq_true rfl, Nat.le_of_ble_eq_true rfl⟩ rfl (Nat.le_of_ble_eq_true rfl) dX7_isAhead_60 ?_
      refine zEV.icmp_ge 70 dX7_isAhead_63 (by decide) (fun c12 => ?_) (fun c12 => ?_)
      · rw [if_pos c12] at h
        refine zEV.iconst (v := 0) dX7_isAhead_70 rfl ?_
        refine zEV.goto 94 dX7_isAhead_71 (by decide) ?_
        have h := Option.some.inj h
        subst h
        exact zEV.zret rfl (Or.inl rfl) dX7_isAhead_94
      · rw [if_neg c12] at h
        refine zEV.iconst (v := 1) dX7_isAhead_66 rfl ?_
        refine zEV.goto 94 dX7_isAhead_67 (by decide) ?_
        have h := Option.some.inj h
        subst h
        exact zEV.zret rfl (Or.inr rfl) dX7_isAhead_94
  · rw [if_neg c3] at h
    refine zEV.aload_n dX7_isAhead_15 rfl 0 rfl ?_
    refine zEV.iload_n dX7_isAhead_16 rfl 1 rfl ?_
    refine zEV.iconst (v := 1) dX7_isAhead_17 rfl ?_
    obtain ⟨q13, hq13, h⟩ := bind_yes h
    refine zEV.callVi (kX7_told (a1) (1)  q2.2 q13 hq13) (by decide) rfl rfl wm_RX7_167 wc_X7_told hy_X7_told rfl ⟨Nat.le_of_ble_eq_true rfl, Nat.le_of_ble_eq_true rfl⟩ rfl (Nat.le_of_ble_eq_true rfl) dX7_isAhead_18 ?_
    refine zEV.aload_n dX7_isAhead_21 rfl 0 rfl ?_
    refine zEV.iload_n dX7_isAhead_22 rfl 2 rfl ?_
    refine zEV.iconst (v := 1) dX7_isAhead_23 rfl ?_
    obtain ⟨q14, hq14, h⟩ := bind_yes h
    refine zEV.callVi (kX7_told (a2) (1)  q13.2 q14 hq14) (by decide) rfl rfl wm_RX7_167 wc_X7_told hy_X7_told rfl ⟨Nat.le_of_ble_eq_true rfl, Nat.le_of_ble_eq_true rfl⟩ rfl (Nat.le_of_ble_eq_true rfl) dX7_isAhead_24 ?_
    refine zEV.icmp_ge 34 dX7_isAhead_27 (by decide) (fun c15 => ?_) (fun c15 => ?_)
    · rw [if_pos c15] at h
      refine zEV.iconst (v := 0) dX7_isAhead_34 rfl ?_
      have h := Option.some.inj h
      subst h
      exact zEV.zret rfl (Or.inl rfl) dX7_isAhead_35
    · rw [if_neg c15] at h
      refine zEV.iconst (v := 1) dX7_isAhead_30 rfl ?_
      refine zEV.goto 35 dX7_isAhead_31 (by decide) ?_
      have h := Option.some.inj h
      subst h
      exact zEV.zret rfl (Or.inr rfl) dX7_isAhead_35
theorem kX7_isAhead (a1 : Int32) (a2 : Int32) (M : zMM) (q : Int32 × zMM) (h : fX7_isAhead a1 a2 M = some q) : zCN yX7_isAhead iX7_isAhead [.inr (.inr 158), .inl a1, .inl a2] M (some (.inl q.1), q.2) :=
  zCN.of (by decide) rfl rfl (Nat.le_of_ble_eq_true rfl) (zEV.perm [0, 1, 2] rfl (tX7_isAhead_0 a1 a2 M q h))
