-- RingedPageModel.blank
def fX7_blank_124 (K55 : Int32 → Int32 → Int32 → zMM → Option (Int32 × zMM)) (K63 : Int32 → Int32 → Int32 → Int32 → zMM → Option (Int32 × zMM)) (l1 : Int32) (l3 : Int32) (l4 : Int32) (s0 : Int32) (s1 : Int32) (M : zMM) : Option (Int32 × zMM) :=
  K63 (l1) ((s1 - s0)) (l3) ((l4 + 1)) M
set_option maxRecDepth 4000 in
theorem tX7_blank_124 (K55 : Int32 → Int32 → Int32 → zMM → Option (Int32 × zMM)) (K63 : Int32 → Int32 → Int32 → Int32 → zMM → Option (Int32 × zMM)) (hK55 : ∀ (l1 : Int32) (l2 : Int32) (l3 : Int32) (M : zMM) (q : Int32 × zMM), K55 l1 l2 l3 M = some q → zEV iX7_blank 0 0 (zZO (some (.inl q.1), q.2)) 55 [(0, .inr (.inr 158)), (1, .inl l1), (2, .inl l2), (3, .inl l3)] [] M) (hK63 : ∀ (l1 : Int32) (l2 : Int32) (l3 : Int32) (l4 : Int32) (M : zMM) (q : Int32 × zMM), K63 l1 l2 l3 l4 M = some q → zEV iX7_blank 0 0 (zZO (some (.inl q.1), q.2)) 63 [(0, .inr (.inr 158)), (1, .inl l1), (2, .inl l2), (3, .inl l3), (4, .inl l4)] [] M) (l1 : Int32) (l3 : Int32) (l4 : Int32) (s0 : Int32) (s1 : Int32) (M : zMM) (q : Int32 × zMM) (h : fX7_blank_124 K55 K63 l1 l3 l4 s0 s1 M = some q) : zEV iX7_blank 0 0 (zZO (some (.inl q.1), q.2)) 124 [(0, .inr (.inr 158)), (1, .inl l1), (3, .inl l3), (4, .inl l4)] [.inl s0, .inl s1] M := by
  unfold fX7_blank_124 at h
  refine zEV.isub dX7_blank_124 ?_
  refine zEV.istore_n dX7_blank_125 rfl (Nat.le_of_ble_eq_true rfl) rfl ?_
  refine zEV.iinc (v := (l4 + 1)) dX7_blank_126 4 rfl rfl (Nat.le_of_ble_eq_true rfl) rfl ?_
  refine zEV.goto 63 dX7_blank_129 (by decide) ?_
  exact zEV.perm [2, 3, 1, 4, 0] rfl (hK63 (l1) ((s1 - s0)) (l3) ((l4 + 1)) M q h)
def fX7_blank_63 (K55 : Int32 → Int32 → Int32 → zMM → Option (Int32 × zMM)) : Nat → Int32 → Int32 → Int32 → Int32 → zMM → Option (Int32 × zMM)
  | 0, _, _, _, _, _ => none
  | n + 1, l1, l2, l3, l4, M =>
  if oob ((5 + l3)) 259 then none else
  if (M.1 159 (Int32.toNatClampNeg (5 + l3))) ≤ l4 then
    K55 (l1) (l2) ((l3 + 1)) M
  else
    (fX7_size (l3) (l4) M).bind fun q3 =>
    if oob (((70 * l3) + l4)) 210 then none else
    (fX7_told ((q3.2.1 164 (Int32.toNatClampNeg ((70 * l3) + l4)))) (1) q3.2).bind fun q5 =>
    if q5.1 = ((q5.2.1 158 14) - 1) then
      (fX7_size (l3) (l4) q5.2).bind fun q7 =>
      fX7_blank_124 K55 (fX7_blank_63 K55 n) ((l1 - q3.1)) (l3) (l4) (q7.1) (l2) q7.2
    else
      fX7_blank_124 K55 (fX7_blank_63 K55 n) ((l1 - q3.1)) (l3) (l4) (0) (l2) q5.2
set_option maxRecDepth 4000 in
theorem tX7_blank_63 (K55 : Int32 → Int32 → Int32 → zMM → Option (Int32 × zMM)) (hK55 : ∀ (l1 : Int32) (l2 : Int32) (l3 : Int32) (M : zMM) (q : Int32 × zMM), K55 l1 l2 l3 M = some q → zEV iX7_blank 0 0 (zZO (some (.inl q.1), q.2)) 55 [(0, .inr (.inr 158)), (1, .inl l1), (2, .inl l2), (3, .inl l3)] [] M) : ∀ (n : Nat) (l1 : Int32) (l2 : Int32) (l3 : Int32) (l4 : Int32) (M : zMM) (q : Int32 × zMM), fX7_blank_63 K55 n l1 l2 l3 l4 M = some q → zEV iX7_blank 0 0 (zZO (some (.inl q.1), q.2)) 63 [(0, .inr (.inr 158)), (1, .inl l1), (2, .inl l2), (3, .inl l3), (4, .inl l4)] [] M := by
  intro n
  induction n with
  | zero =>
    intro l1 l2 l3 l4 M q h
    rw [fX7_blank_63] at h
    cases h
  | succ n ih =>
    intro l1 l2 l3 l4 M q h
    rw [fX7_blank_63] at h
    refine zEV.iload dX7_blank_63 4 rfl ?_
    refine zEV.aload_n dX7_blank_65 rfl 0 rfl ?_
    refine zEV.gfr rfl inz7 0 (by decide) wf_RX7_9 (by decide) rfl rfl dX7_blank_66 ?_
    refine zEV.iconst (v := 5) dX7_blank_69 rfl ?_
    refine zEV.iload_n dX7_blank_70 rfl 3 rfl ?_
    refine zEV.iadd dX7_blank_71 ?_
    obtain ⟨g1, h⟩ := ite_no h
    refine zEV.iald (by decide) rfl g1 dX7_blank_72 ?_
    refine zEV.icmp_ge 132 dX7_blank_73 (by decide) (fun c2 => ?_) (fun c2 => ?_)
    · rw [if_pos c2] at h
      refine zEV.iinc (v := (l3 + 1)) dX7_blank_132 3 rfl rfl (Nat.le_of_ble_eq_true rfl) rfl ?_
      refine zEV.goto 55 dX7_blank_135 (by decide) ?_
      exact zEV.perm [1, 2, 3, 0] rfl (hK55 (l1) (l2) ((l3 + 1)) M q h)
    · rw [if_neg c2] at h
      refine zEV.iload_n dX7_blank_76 rfl 1 rfl ?_
      refine zEV.aload_n dX7_blank_77 rfl 0 rfl ?_
      refine zEV.iload_n dX7_blank_78 rfl 3 rfl ?_
      refine zEV.iload dX7_blank_79 4 rfl ?_
      obtain ⟨q3, hq3, h⟩ := bind_yes h
      refine zEV.callVi (kX7_size (l3) (l4)  M q3 hq3) (by decide) rfl rfl wm_RX7_147 wc_X7_size hy_X7_size rfl ⟨Nat.le_of_ble_eq_true rfl, Nat.le_of_ble_eq_true rfl⟩ rfl (Nat.le_of_ble_eq_true rfl) dX7_blank_81 ?_
      refine zEV.isub dX7_blank_84 ?_
      refine zEV.istore_n dX7_blank_85 rfl (Nat.le_of_ble_eq_true rfl) rfl ?_
      refine zEV.iload_n dX7_blank_86 rfl 2 rfl ?_
      refine zEV.aload_n dX7_blank_87 rfl 1 rfl ?_
      refine zEV.aload_n dX7_blank_88 rfl 1 rfl ?_
      refine zEV.gfr rfl inz7 12 (by decide) wf_RX7_27 (by decide) rfl rfl dX7_blank_89 ?_
      refine zEV.bipush (v := 70) dX7_blank_92 rfl ?_
      refine zEV.iload_n dX7_blank_94 rfl 3 rfl ?_
      refine zEV.imul dX7_blank_95 ?_
      refine zEV.iload dX7_blank_96 4 rfl ?_
      refine zEV.iadd dX7_blank_98 ?_
      obtain ⟨g4, h⟩ := ite_no h
      refine zEV.iald (by decide) rfl g4 dX7_blank_99 ?_
      refine zEV.iconst (v := 1) dX7_blank_100 rfl ?_
      obtain ⟨q5, hq5, h⟩ := bind_yes h
      refine zEV.callVi (kX7_told ((q3.2.1 164 (Int32.toNatClampNeg ((70 * l3) + l4)))) (1)  q3.2 q5 hq5) (by decide) rfl rfl wm_RX7_167 wc_X7_told hy_X7_told rfl ⟨Nat.le_of_ble_eq_true rfl, Nat.le_of_ble_eq_true rfl⟩ rfl (Nat.le_of_ble_eq_true rfl) dX7_blank_101 ?_
      refine zEV.aload_n dX7_blank_104 rfl 1 rfl ?_
      refine zEV.gfi rfl inz7 14 (by decide) wf_RX7_154 (by decide) rfl rfl dX7_blank_105 ?_
      refine zEV.iconst (v := 1) dX7_blank_108 rfl ?_
      refine zEV.isub dX7_blank_109 ?_
      refine zEV.icmp_ne 123 dX7_blank_110 (by decide) (fun c6 => ?_) (fun c6 => ?_)
      · rw [if_neg c6] at h
        refine zEV.iconst (v := 0) dX7_blank_123 rfl ?_
        exact zEV.perm [1, 0, 3, 4] rfl (tX7_blank_124 K55 (fX7_blank_63 K55 n) hK55 (fun l1 l2 l3 l4 M9 q9 h9 => ih l1 l2 l3 l4 M9 q9 h9) ((l1 - q3.1)) (l3) (l4) (0) (l2) q5.2 q h)
      · rw [if_pos c6] at h
        refine zEV.aload_n dX7_blank_113 rfl 1 rfl ?_
        refine zEV.iload_n dX7_blank_114 rfl 3 rfl ?_
        refine zEV.iload dX7_blank_115 4 rfl ?_
        obtain ⟨q7, hq7, h⟩ := bind_yes h
        refine zEV.callVi (kX7_size (l3) (l4)  q5.2 q7 hq7) (by decide) rfl rfl wm_RX7_147 wc_X7_size hy_X7_size rfl ⟨Nat.le_of_ble_eq_true rfl, Nat.le_of_ble_eq_true rfl⟩ rfl (Nat.le_of_ble_eq_true rfl) dX7_blank_117 ?_
        refine zEV.goto 124 dX7_blank_120 (by decide) ?_
        exact zEV.perm [1, 0, 3, 4] rfl (tX7_blank_124 K55 (fX7_blank_63 K55 n) hK55 (fun l1 l2 l3 l4 M9 q9 h9 => ih l1 l2 l3 l4 M9 q9 h9) ((l1 - q3.1)) (l3) (l4) (q7.1) (l2) q7.2 q h)
def fX7_blank_55 : Nat → Int32 → Int32 → Int32 → zMM → Option (Int32 × zMM)
  | 0, _, _, _, _ => none
  | n + 1, l1, l2, l3, M =>
  if (3 : Int32) ≤ l3 then
    (fX7_tell ((Int32.toInt64 l2)) (wr M 158 4 0)).bind fun q2 =>
    some (l1, q2)
  else
    fX7_blank_63 (fX7_blank_55 n) zFU (l1) (l2) (l3) (0) M
set_option maxRecDepth 4000 in
theorem tX7_blank_55 : ∀ (n : Nat) (l1 : Int32) (l2 : Int32) (l3 : Int32) (M : zMM) (q : Int32 × zMM), fX7_blank_55 n l1 l2 l3 M = some q → zEV iX7_blank 0 0 (zZO (some (.inl q.1), q.2)) 55 [(0, .inr (.inr 158)), (1, .inl l1), (2, .inl l2), (3, .inl l3)] [] M := by
  intro n
  induction n with
  | zero =>
    intro l1 l2 l3 M q h
    rw [fX7_blank_55] at h
    cases h
  | succ n ih =>
    intro l1 l2 l3 M q h
    rw [fX7_blank_55] at h
    refine zEV.iload_n dX7_blank_55 rfl 3 rfl ?_
    refine zEV.iconst (v := 3) dX7_blank_56 rfl ?_
    refine zEV.icmp_ge 138 dX7_blank_57 (by decide) (fun c1 => ?_) (fun c1 => ?_)
    · rw [if_pos c1] at h
      refine zEV.aload_n dX7_blank_138 rfl 0 rfl ?_
      refine zEV.iconst (v := 0) dX7_blank_139 rfl ?_
      refine zEV.pfi rfl inz7 tyX7 tyX7_ok nmX7 4 (by decide) wf_RX7_62 rfl (by decide +kernel) (by decide) rfl rfl dX7_blank_140 ?_
      refine zEV.aload_n dX7_blank_143 rfl 0 rfl ?_
      refine zEV.iload_n dX7_blank_144 rfl 2 rfl ?_
      refine zEV.i2l dX7_blank_145 ?_
      obtain ⟨q2, hq2, h⟩ := bind_yes h
      refine zEV.callVv (kX7_tell ((Int32.toInt64 l2))  (wr M 158 4 0) q2 hq2) (by decide) rfl rfl wm_RX7_135 wc_X7_tell hy_X7_tell rfl ⟨Nat.le_of_ble_eq_true rfl, Nat.le_of_ble_eq_true rfl⟩ rfl (Nat.le_of_ble_eq_true rfl) dX7_blank_146 ?_
      refine zEV.iload_n dX7_blank_149 rfl 1 rfl ?_
      cases h
      exact zEV.iret rfl dX7_blank_150
    · rw [if_neg c1] at h
      refine zEV.iconst (v := 0) dX7_blank_60 rfl ?_
      refine zEV.istore dX7_blank_61 (Nat.le_of_ble_eq_true rfl) rfl ?_
      exact zEV.perm [1, 2, 3, 4, 0] rfl (tX7_blank_63 (fX7_blank_55 n) (fun l1 l2 l3 M9 q9 h9 => ih l1 l2 l3 M9 q9 h9) zFU (l1) (l2) (l3) (0) M q h)
def fX7_blank_52 (l1 : Int32) (s0 : Int32) (M : zMM) : Option (Int32 × zMM) :=
  fX7_blank_55 zFU (l1) (s0) (0) M
set_option maxRecDepth 4000 in
theorem tX7_blank_52 (l1 : Int32) (s0 : Int32) (M : zMM) (q : Int32 × zMM) (h : fX7_blank_52 l1 s0 M = some q) : zEV iX7_blank 0 0 (zZO (some (.inl q.1), q.2)) 52 [(0, .inr (.inr 158)), (1, .inl l1)] [.inl s0] M := by
  unfold fX7_blank_52 at h
  refine zEV.istore_n dX7_blank_52 rfl (Nat.le_of_ble_eq_true rfl) rfl ?_
  refine zEV.iconst (v := 0) dX7_blank_53 rfl ?_
  refine zEV.istore_n dX7_blank_54 rfl (Nat.le_of_ble_eq_true rfl) rfl ?_
  exact zEV.perm [2, 3, 1, 0] rfl (tX7_blank_55 zFU (l1) (s0) (0) M q h)
def fX7_blank (M : zMM) : Option (Int32 × zMM) :=
  (fX7_set  (wr M 158 5 0)).bind fun q1 =>
  if oob (1) 259 then none else
  if oob (0) 259 then none else
  if (q1.1 158 14) = (0 : Int32) then
    fX7_blank_52 ((((q1.1 158 14) * (q1.1 159 (Int32.toNatClampNeg 1))) * (q1.1 159 (Int32.toNatClampNeg 0)))) (0) q1
  else
    fX7_blank_52 ((((q1.1 158 14) * (q1.1 159 (Int32.toNatClampNeg 1))) * (q1.1 159 (Int32.toNatClampNeg 0)))) (((q1.1 159 (Int32.toNatClampNeg 1)) * (q1.1 159 (Int32.toNatClampNeg 0)))) q1
set_option maxRecDepth 4000 in
theorem tX7_blank_0 (M : zMM) (q : Int32 × zMM) (h : fX7_blank  M = some q) : zEV iX7_blank 0 0 (zZO (some (.inl q.1), q.2)) 0 [(0, .inr (.inr 158))] [] M := by
  unfold fX7_blank at h
  refine zEV.aload_n dX7_blank_0 rfl 0 rfl ?_
  refine zEV.iconst (v := 0) dX7_blank_1 rfl ?_
  refine zEV.pfi rfl inz7 tyX7 tyX7_ok nmX7 5 (by decide) wf_RX7_58 rfl (by decide +kernel) (by decide) rfl rfl dX7_blank_2 ?_
  refine zEV.aload_n dX7_blank_5 rfl 0 rfl ?_
  obtain ⟨q1, hq1, h⟩ := bind_yes h
  refine zEV.callVv (kX7_set   (wr M 158 5 0) q1 hq1) (by decide) rfl rfl wm_RX7_164 wc_X7_set hy_X7_set rfl ⟨Nat.le_of_ble_eq_true rfl, Nat.le_of_ble_eq_true rfl⟩ rfl (Nat.le_of_ble_eq_true rfl) dX7_blank_6 ?_
  refine zEV.aload_n dX7_blank_9 rfl 0 rfl ?_
  refine zEV.gfi rfl inz7 14 (by decide) wf_RX7_154 (by decide) rfl rfl dX7_blank_10 ?_
  refine zEV.aload_n dX7_blank_13 rfl 0 rfl ?_
  refine zEV.gfr rfl inz7 0 (by decide) wf_RX7_9 (by decide) rfl rfl dX7_blank_14 ?_
  refine zEV.iconst (v := 1) dX7_blank_17 rfl ?_
  obtain ⟨g2, h⟩ := ite_no h
  refine zEV.iald (by decide) rfl g2 dX7_blank_18 ?_
  refine zEV.imul dX7_blank_19 ?_
  refine zEV.aload_n dX7_blank_20 rfl 0 rfl ?_
  refine zEV.gfr rfl inz7 0 (by decide) wf_RX7_9 (by decide) rfl rfl dX7_blank_21 ?_
  refine zEV.iconst (v := 0) dX7_blank_24 rfl ?_
  obtain ⟨g3, h⟩ := ite_no h
  refine zEV.iald (by decide) rfl g3 dX7_blank_25 ?_
  refine zEV.imul dX7_blank_26 ?_
  refine zEV.istore_n dX7_blank_27 rfl (Nat.le_of_ble_eq_true rfl) rfl ?_
  refine zEV.aload_n dX7_blank_28 rfl 1 rfl ?_
  refine zEV.gfi rfl inz7 14 (by decide) wf_RX7_154 (by decide) rfl rfl dX7_blank_29 ?_
  refine zEV.if_ne 39 dX7_blank_32 (by decide) (fun c4 => ?_) (fun c4 => ?_)
  · rw [if_neg c4] at h
    refine zEV.aload_n dX7_blank_39 rfl 1 rfl ?_
    refine zEV.gfr rfl inz7 0 (by decide) wf_RX7_9 (by decide) rfl rfl dX7_blank_40 ?_
    refine zEV.iconst (v := 1) dX7_blank_43 rfl ?_
    refine zEV.iald (by decide) rfl g2 dX7_blank_44 ?_
    refine zEV.aload_n dX7_blank_45 rfl 1 rfl ?_
    refine zEV.gfr rfl inz7 0 (by decide) wf_RX7_9 (by decide) rfl rfl dX7_blank_46 ?_
    refine zEV.iconst (v := 0) dX7_blank_49 rfl ?_
    refine zEV.iald (by decide) rfl g3 dX7_blank_50 ?_
    refine zEV.imul dX7_blank_51 ?_
    exact zEV.perm [1, 0] rfl (tX7_blank_52 ((((q1.1 158 14) * (q1.1 159 (Int32.toNatClampNeg 1))) * (q1.1 159 (Int32.toNatClampNeg 0)))) (((q1.1 159 (Int32.toNatClampNeg 1)) * (q1.1 159 (Int32.toNatClampNeg 0)))) q1 q h)
  · rw [if_pos c4] at h
    refine zEV.iconst (v := 0) dX7_blank_35 rfl ?_
    refine zEV.goto 52 dX7_blank_36 (by decide) ?_
    exact zEV.perm [1, 0] rfl (tX7_blank_52 ((((q1.1 158 14) * (q1.1 159 (Int32.toNatClampNeg 1))) * (q1.1 159 (Int32.toNatClampNeg 0)))) (0) q1 q h)
theorem kX7_blank (M : zMM) (q : Int32 × zMM) (h : fX7_blank M = some q) : zCN yX7_blank iX7_blank [.inr (.inr 158)] M (some (.inl q.1), q.2) :=
  zCN.of (by decide) rfl rfl (Nat.le_of_ble_eq_true rfl) (zEV.perm [0] rfl (tX7_blank_0 M q h))
-- RingedPageModel.tie
def fX7_tie_56 (a1 : Int32) : Nat → Int32 → zMM → Option (Int32 × zMM)
  | 0, _, _ => none
  | n + 1, l2, M =>
  if (3 : Int32) ≤ l2 then
    (fX7_deepOf (a1) M).bind fun q2 =>
    some (q2.1, q2.2)
  else
    (fX7_tied (a1) (l2) M).bind fun q3 =>
    (fX7_tell ((Int32.toInt64 q3.1)) q3.2).bind fun q4 =>
    fX7_tie_56 a1 n ((l2 + 1)) q4
set_option maxRecDepth 4000 in
theorem tX7_tie_56 (a1 : Int32) : ∀ (n : Nat) (l2 : Int32) (M : zMM) (q : Int32 × zMM), fX7_tie_56 a1 n l2 M = some q → zEV iX7_tie 0 0 (zZO (some (.inl q.1), q.2)) 56 [(0, .inr (.inr 158)), (1, .inl a1), (2, .inl l2)] [] M := by
  intro n
  induction n with
  | zero =>
    intro l2 M q h
    rw [fX7_tie_56] at h
    cases h
  | succ n ih =>
    intro l2 M q h
    rw [fX7_tie_56] at h
    refine zEV.iload_n dX7_tie_56 rfl 2 rfl ?_
    refine zEV.iconst (v := 3) dX7_tie_57 rfl ?_
    refine zEV.icmp_ge 78 dX7_tie_58 (by decide) (fun c1 => ?_) (fun c1 => ?_)
    · rw [if_pos c1] at h
      refine zEV.aload_n dX7_tie_78 rfl 0 rfl ?_
      refine zEV.iload_n dX7_tie_79 rfl 1 rfl ?_
      obtain ⟨q2, hq2, h⟩ := bind_yes h
      refine zEV.callVi (kX7_deepOf (a1)  M q2 hq2) (by decide) rfl rfl wm_RX7_205 wc_X7_deepOf hy_X7_deepOf rfl ⟨Nat.le_of_ble_eq_true rfl, Nat.le_of_ble_eq_true rfl⟩ rfl (Nat.le_of_ble_eq_true rfl) dX7_tie_80 ?_
      cases h
      exact zEV.iret rfl dX7_tie_83
    · rw [if_neg c1] at h
      refine zEV.aload_n dX7_tie_61 rfl 0 rfl ?_
      refine zEV.aload_n dX7_tie_62 rfl 0 rfl ?_
      refine zEV.iload_n dX7_tie_63 rfl 1 rfl ?_
      refine zEV.iload_n dX7_tie_64 rfl 2 rfl ?_
      obtain ⟨q3, hq3, h⟩ := bind_yes h
      refine zEV.callVi (kX7_tied (a1) (l2)  M q3 hq3) (by decide) rfl rfl wm_RX7_110 wc_X7_tied hy_X7_tied rfl ⟨Nat.le_of_ble_eq_true rfl, Nat.le_of_ble_eq_true rfl⟩ rfl (Nat.le_of_ble_eq_true rfl) dX7_tie_65 ?_
      refine zEV.i2l dX7_tie_68 ?_
      obtain ⟨q4, hq4, h⟩ := bind_yes h
      refine zEV.callVv (kX7_tell ((Int32.toInt64 q3.1))  q3.2 q4 hq4) (by decide) rfl rfl wm_RX7_135 wc_X7_tell hy_X7_tell rfl ⟨Nat.le_of_ble_eq_true rfl, Nat.le_of_ble_eq_true rfl⟩ rfl (Nat.le_of_ble_eq_true rfl) dX7_tie_69 ?_
      refine zEV.iinc (v := (l2 + 1)) dX7_tie_72 2 rfl rfl (Nat.le_of_ble_eq_true rfl) rfl ?_
      refine zEV.goto 56 dX7_tie_75 (by decide) ?_
      exact zEV.perm [1, 2, 0] rfl (ih ((l2 + 1)) q4 q h)
def fX7_tie_51 (a1 : Int32) (s0 : Int64) (M : zMM) : Option (Int32 × zMM) :=
  (fX7_tell (s0) M).bind fun q1 =>
  fX7_tie_56 a1 zFU (0) q1
set_option maxRecDepth 4000 in
theorem tX7_tie_51 (a1 : Int32) (s0 : Int64) (M : zMM) (q : Int32 × zMM) (h : fX7_tie_51 a1 s0 M = some q) : zEV iX7_tie 0 0 (zZO (some (.inl q.1), q.2)) 51 [(0, .inr (.inr 158)), (1, .inl a1)] [.inr (.inl s0), .inr (.inr 158)] M := by
  unfold fX7_tie_51 at h
  obtain ⟨q1, hq1, h⟩ := bind_yes h
  refine zEV.callVv (kX7_tell (s0)  M q1 hq1) (by decide) rfl rfl wm_RX7_135 wc_X7_tell hy_X7_tell rfl ⟨Nat.le_of_ble_eq_true rfl, Nat.le_of_ble_eq_true rfl⟩ rfl (Nat.le_of_ble_eq_true rfl) dX7_tie_51 ?_
  refine zEV.iconst (v := 0) dX7_tie_54 rfl ?_
  refine zEV.istore_n dX7_tie_55 rfl (Nat.le_of_ble_eq_true rfl) rfl ?_
  exact zEV.perm [1, 2, 0] rfl (tX7_tie_56 a1 zFU (0) q1 q h)
def fX7_tie (a1 : Int32) (M : zMM) : Option (Int32 × zMM) :=
  if oob (218) 259 then none else
  (fX7_in (a1) (0) ((((wr M 158 5 0).1 159 (Int32.toNatClampNeg 218)) - 1)) (wr M 158 5 0)).bind fun q2 =>
  if q2.1 = (0 : Int32) then
    (fX7_lost  q2.2).bind fun q7 =>
    some (q7.1, q7.2)
  else
    (fX7_set  q2.2).bind fun q4 =>
    (fX7_isBroken (a1) (wr q4 158 4 0)).bind fun q5 =>
    if q5.1 = (0 : Int32) then
      fX7_tie_51 a1 ((0 : Int64)) q5.2
    else
      fX7_tie_51 a1 ((1 : Int64)) q5.2
set_option maxRecDepth 4000 in
theorem tX7_tie_0 (a1 : Int32) (M : zMM) (q : Int32 × zMM) (h : fX7_tie a1  M = some q) : zEV iX7_tie 0 0 (zZO (some (.inl q.1), q.2)) 0 [(0, .inr (.inr 158)), (1, .inl a1)] [] M := by
  unfold fX7_tie at h
  refine zEV.aload_n dX7_tie_0 rfl 0 rfl ?_
  refine zEV.iconst (v := 0) dX7_tie_1 rfl ?_
  refine zEV.pfi rfl inz7 tyX7 tyX7_ok nmX7 5 (by decide) wf_RX7_58 rfl (by decide +kernel) (by decide) rfl rfl dX7_tie_2 ?_
  refine zEV.iload_n dX7_tie_5 rfl 1 rfl ?_
  refine zEV.iconst (v := 0) dX7_tie_6 rfl ?_
  refine zEV.aload_n dX7_tie_7 rfl 0 rfl ?_
  refine zEV.gfr rfl inz7 0 (by decide) wf_RX7_9 (by decide) rfl rfl dX7_tie_8 ?_
  refine zEV.sipush (v := 218) dX7_tie_11 rfl ?_
  obtain ⟨g1, h⟩ := ite_no h
  refine zEV.iald (by decide) rfl g1 dX7_tie_14 ?_
  refine zEV.iconst (v := 1) dX7_tie_15 rfl ?_
  refine zEV.isub dX7_tie_16 ?_
  obtain ⟨q2, hq2, h⟩ := bind_yes h
  refine zEV.callSi (kX7_in (a1) (0) ((((wr M 158 5 0).1 159 (Int32.toNatClampNeg 218)) - 1))  (wr M 158 5 0) q2 hq2) wm_RX7_65 wc_X7_in hy_X7_in rfl ⟨Nat.le_of_ble_eq_true rfl, Nat.le_of_ble_eq_true rfl⟩ rfl (Nat.le_of_ble_eq_true rfl) dX7_tie_17 ?_
  refine zEV.if_ne 28 dX7_tie_20 (by decide) (fun c3 => ?_) (fun c3 => ?_)
  · rw [if_neg c3] at h
    refine zEV.aload_n dX7_tie_28 rfl 0 rfl ?_
    obtain ⟨q4, hq4, h⟩ := bind_yes h
    refine zEV.callVv (kX7_set   q2.2 q4 hq4) (by decide) rfl rfl wm_RX7_164 wc_X7_set hy_X7_set rfl ⟨Nat.le_of_ble_eq_true rfl, Nat.le_of_ble_eq_true rfl⟩ rfl (Nat.le_of_ble_eq_true rfl) dX7_tie_29 ?_
    refine zEV.aload_n dX7_tie_32 rfl 0 rfl ?_
    refine zEV.iconst (v := 0) dX7_tie_33 rfl ?_
    refine zEV.pfi rfl inz7 tyX7 tyX7_ok nmX7 4 (by decide) wf_RX7_62 rfl (by decide +kernel) (by decide) rfl rfl dX7_tie_34 ?_
    refine zEV.aload_n dX7_tie_37 rfl 0 rfl ?_
    refine zEV.aload_n dX7_tie_38 rfl 0 rfl ?_
    refine zEV.iload_n dX7_tie_39 rfl 1 rfl ?_
    obtain ⟨q5, hq5, h⟩ := bind_yes h
    refine zEV.callVi (kX7_isBroken (a1)  (wr q4 158 4 0) q5 hq5) (by decide) rfl rfl wm_RX7_208 wc_X7_isBroken hy_X7_isBroken rfl ⟨Nat.le_of_ble_eq_true rfl, Nat.le_of_ble_eq_true rfl⟩ rfl (Nat.le_of_ble_eq_true rfl) dX7_tie_40 ?_
    refine zEV.if_eq 50 dX7_tie_43 (by decide) (fun c6 => ?_) (fun c6 => ?_)
    · rw [if_pos c6] at h
      refine zEV.lconst (v := 0) dX7_tie_50 rfl ?_
      exact zEV.perm [0, 1] rfl (tX7_tie_51 a1 ((0 : Int64)) q5.2 q h)
    · rw [if_neg c6] at h
      refine zEV.lconst (v := 1) dX7_tie_46 rfl ?_
      refine zEV.goto 51 dX7_tie_47 (by decide) ?_
      exact zEV.perm [0, 1] rfl (tX7_tie_51 a1 ((1 : Int64)) q5.2 q h)
  · rw [if_pos c3] at h
    refine zEV.aload_n dX7_tie_23 rfl 0 rfl ?_
    obtain ⟨q7, hq7, h⟩ := bind_yes h
    refine zEV.callVi (kX7_lost   q2.2 q7 hq7) (by decide) rfl rfl wm_RX7_180 wc_X7_lost hy_X7_lost rfl ⟨Nat.le_of_ble_eq_true rfl, Nat.le_of_ble_eq_true rfl⟩ rfl (Nat.le_of_ble_eq_true rfl) dX7_tie_24 ?_
    cases h
    exact zEV.iret rfl dX7_tie_27
theorem kX7_tie (a1 : Int32) (M : zMM) (q : Int32 × zMM) (h : fX7_tie a1 M = some q) : zCN yX7_tie iX7_tie [.inr (.inr 158), .inl a1] M (some (.inl q.1), q.2) :=
  zCN.of (by decide) rfl rfl (Nat.le_of_ble_eq_true rfl) (zEV.perm [0, 1] rfl (tX7_tie_0 a1 M q h))
-- RingedPageModel.broken
def fX7_broken_46 (K24 : Int32 → Int32 → Int32 → zMM → Option (Int32 × zMM)) (l1 : Int32) (l2 : Int32) (l3 : Int32) (M : zMM) : Option (Int32 × zMM) :=
  K24 (l1) (l2) ((l3 + (-1))) M
set_option maxRecDepth 4000 in
theorem tX7_broken_46 (K24 : Int32 → Int32 → Int32 → zMM → Option (Int32 × zMM)) (hK24 : ∀ (l1 : Int32) (l2 : Int32) (l3 : Int32) (M : zMM) (q : Int32 × zMM), K24 l1 l2 l3 M = some q → zEV iX7_broken 0 0 (zZO (some (.inl q.1), q.2)) 24 [(0, .inr (.inr 158)), (1, .inl l1), (2, .inl l2), (3, .inl l3)] [] M) (l1 : Int32) (l2 : Int32) (l3 : Int32) (M : zMM) (q : Int32 × zMM) (h : fX7_broken_46 K24 l1 l2 l3 M = some q) : zEV iX7_broken 0 0 (zZO (some (.inl q.1), q.2)) 46 [(0, .inr (.inr 158)), (1, .inl l1), (2, .inl l2), (3, .inl l3)] [] M := by
  unfold fX7_broken_46 at h
  refine zEV.iinc (v := (l3 + (-1))) dX7_broken_46 3 rfl rfl (Nat.le_of_ble_eq_true rfl) rfl ?_
  refine zEV.goto 24 dX7_broken_49 (by decide) ?_
  exact zEV.perm [1, 2, 3, 0] rfl (hK24 (l1) (l2) ((l3 + (-1))) M q h)
def fX7_broken_24 : Nat → Int32 → Int32 → Int32 → zMM → Option (Int32 × zMM)
  | 0, _, _, _, _ => none
  | n + 1, l1, l2, l3, M =>
  if l3 < (0 : Int32) then
    (fX7_tell ((Int32.toInt64 l1)) (wr M 158 4 0)).bind fun q2 =>
    (fX7_tell ((Int32.toInt64 l2)) q2).bind fun q3 =>
    (fX7_brokenMany  q3).bind fun q4 =>
    some (q4.1, q4.2)
  else
    (fX7_deepOf (l3) M).bind fun q5 =>
    (fX7_isBroken (l3) q5.2).bind fun q6 =>
    if q6.1 = (0 : Int32) then
      fX7_broken_46 (fX7_broken_24 n) (l1) ((l2 + q5.1)) (l3) q6.2
    else
      fX7_broken_46 (fX7_broken_24 n) (l3) ((l2 + q5.1)) (l3) q6.2
set_option maxRecDepth 4000 in
theorem tX7_broken_24 : ∀ (n : Nat) (l1 : Int32) (l2 : Int32) (l3 : Int32) (M : zMM) (q : Int32 × zMM), fX7_broken_24 n l1 l2 l3 M = some q → zEV iX7_broken 0 0 (zZO (some (.inl q.1), q.2)) 24 [(0, .inr (.inr 158)), (1, .inl l1), (2, .inl l2), (3, .inl l3)] [] M := by
  intro n
  induction n with
  | zero =>
    intro l1 l2 l3 M q h
    rw [fX7_broken_24] at h
    cases h
  | succ n ih =>
    intro l1 l2 l3 M q h
    rw [fX7_broken_24] at h
    refine zEV.iload_n dX7_broken_24 rfl 3 rfl ?_
    refine zEV.if_lt 52 dX7_broken_25 (by decide) (fun c1 => ?_) (fun c1 => ?_)
    · rw [if_pos c1] at h
      refine zEV.aload_n dX7_broken_52 rfl 0 rfl ?_
      refine zEV.iconst (v := 0) dX7_broken_53 rfl ?_
      refine zEV.pfi rfl inz7 tyX7 tyX7_ok nmX7 4 (by decide) wf_RX7_62 rfl (by decide +kernel) (by decide) rfl rfl dX7_broken_54 ?_
      refine zEV.aload_n dX7_broken_57 rfl 0 rfl ?_
      refine zEV.iload_n dX7_broken_58 rfl 1 rfl ?_
      refine zEV.i2l dX7_broken_59 ?_
      obtain ⟨q2, hq2, h⟩ := bind_yes h
      refine zEV.callVv (kX7_tell ((Int32.toInt64 l1))  (wr M 158 4 0) q2 hq2) (by decide) rfl rfl wm_RX7_135 wc_X7_tell hy_X7_tell rfl ⟨Nat.le_of_ble_eq_true rfl, Nat.le_of_ble_eq_true rfl⟩ rfl (Nat.le_of_ble_eq_true rfl) dX7_broken_60 ?_
      refine zEV.aload_n dX7_broken_63 rfl 0 rfl ?_
      refine zEV.iload_n dX7_broken_64 rfl 2 rfl ?_
      refine zEV.i2l dX7_broken_65 ?_
      obtain ⟨q3, hq3, h⟩ := bind_yes h
      refine zEV.callVv (kX7_tell ((Int32.toInt64 l2))  q2 q3 hq3) (by decide) rfl rfl wm_RX7_135 wc_X7_tell hy_X7_tell rfl ⟨Nat.le_of_ble_eq_true rfl, Nat.le_of_ble_eq_true rfl⟩ rfl (Nat.le_of_ble_eq_true rfl) dX7_broken_66 ?_
      refine zEV.aload_n dX7_broken_69 rfl 0 rfl ?_
      obtain ⟨q4, hq4, h⟩ := bind_yes h
      refine zEV.callVi (kX7_brokenMany   q3 q4 hq4) (by decide) rfl rfl wm_RX7_211 wc_X7_brokenMany hy_X7_brokenMany rfl ⟨Nat.le_of_ble_eq_true rfl, Nat.le_of_ble_eq_true rfl⟩ rfl (Nat.le_of_ble_eq_true rfl) dX7_broken_70 ?_
      cases h
      exact zEV.iret rfl dX7_broken_73
    · rw [if_neg c1] at h
      refine zEV.iload_n dX7_broken_28 rfl 2 rfl ?_
      refine zEV.aload_n dX7_broken_29 rfl 0 rfl ?_
      refine zEV.iload_n dX7_broken_30 rfl 3 rfl ?_
      obtain ⟨q5, hq5, h⟩ := bind_yes h
      refine zEV.callVi (kX7_deepOf (l3)  M q5 hq5) (by decide) rfl rfl wm_RX7_205 wc_X7_deepOf hy_X7_deepOf rfl ⟨Nat.le_of_ble_eq_true rfl, Nat.le_of_ble_eq_true rfl⟩ rfl (Nat.le_of_ble_eq_true rfl) dX7_broken_31 ?_
      refine zEV.iadd dX7_broken_34 ?_
      refine zEV.istore_n dX7_broken_35 rfl (Nat.le_of_ble_eq_true rfl) rfl ?_
      refine zEV.aload_n dX7_broken_36 rfl 1 rfl ?_
      refine zEV.iload_n dX7_broken_37 rfl 3 rfl ?_
      obtain ⟨q6, hq6, h⟩ := bind_yes h
      refine zEV.callVi (kX7_isBroken (l3)  q5.2 q6 hq6) (by decide) rfl rfl wm_RX7_208 wc_X7_isBroken hy_X7_isBroken rfl ⟨Nat.le_of_ble_eq_true rfl, Nat.le_of_ble_eq_true rfl⟩ rfl (Nat.le_of_ble_eq_true rfl) dX7_broken_38 ?_
      refine zEV.if_eq 46 dX7_broken_41 (by decide) (fun c7 => ?_) (fun c7 => ?_)
      · rw [if_pos c7] at h
        exact zEV.perm [1, 2, 0, 3] rfl (tX7_broken_46 (fX7_broken_24 n) (fun l1 l2 l3 M9 q9 h9 => ih l1 l2 l3 M9 q9 h9) (l1) ((l2 + q5.1)) (l3) q6.2 q h)
      · rw [if_neg c7] at h
        refine zEV.iload_n dX7_broken_44 rfl 3 rfl ?_
        refine zEV.istore_n dX7_broken_45 rfl (Nat.le_of_ble_eq_true rfl) rfl ?_
        exact zEV.perm [2, 0, 1, 3] rfl (tX7_broken_46 (fX7_broken_24 n) (fun l1 l2 l3 M9 q9 h9 => ih l1 l2 l3 M9 q9 h9) (l3) ((l2 + q5.1)) (l3) q6.2 q h)
def fX7_broken (M : zMM) : Option (Int32 × zMM) :=
  (fX7_set  (wr M 158 5 0)).bind fun q1 =>
  if oob (218) 259 then none else
  fX7_broken_24 zFU ((-1)) (0) (((q1.1 159 (Int32.toNatClampNeg 218)) - 1)) q1
set_option maxRecDepth 4000 in
theorem tX7_broken_0 (M : zMM) (q : Int32 × zMM) (h : fX7_broken  M = some q) : zEV iX7_broken 0 0 (zZO (some (.inl q.1), q.2)) 0 [(0, .inr (.inr 158))] [] M := by
  unfold fX7_broken at h
  refine zEV.aload_n dX7_broken_0 rfl 0 rfl ?_
  refine zEV.iconst (v := 0) dX7_broken_1 rfl ?_
  refine zEV.pfi rfl inz7 tyX7 tyX7_ok nmX7 5 (by decide) wf_RX7_58 rfl (by decide +kernel) (by decide) rfl rfl dX7_broken_2 ?_
  refine zEV.aload_n dX7_broken_5 rfl 0 rfl ?_
  obtain ⟨q1, hq1, h⟩ := bind_yes h
  refine zEV.callVv (kX7_set   (wr M 158 5 0) q1 hq1) (by decide) rfl rfl wm_RX7_164 wc_X7_set hy_X7_set rfl ⟨Nat.le_of_ble_eq_true rfl, Nat.le_of_ble_eq_true rfl⟩ rfl (Nat.le_of_ble_eq_true rfl) dX7_broken_6 ?_
  refine zEV.iconst (v := (-1)) dX7_broken_9 rfl ?_
  refine zEV.istore_n dX7_broken_10 rfl (Nat.le_of_ble_eq_true rfl) rfl ?_
  refine zEV.iconst (v := 0) dX7_broken_11 rfl ?_
  refine zEV.istore_n dX7_broken_12 rfl (Nat.le_of_ble_eq_true rfl) rfl ?_
  refine zEV.aload_n dX7_broken_13 rfl 2 rfl ?_
  refine zEV.gfr rfl inz7 0 (by decide) wf_RX7_9 (by decide) rfl rfl dX7_broken_14 ?_
  refine zEV.sipush (v := 218) dX7_broken_17 rfl ?_
  obtain ⟨g2, h⟩ := ite_no h
  refine zEV.iald (by decide) rfl g2 dX7_broken_20 ?_
  refine zEV.iconst (v := 1) dX7_broken_21 rfl ?_
  refine zEV.isub dX7_broken_22 ?_
  refine zEV.istore_n dX7_broken_23 rfl (Nat.le_of_ble_eq_true rfl) rfl ?_
  exact zEV.perm [3, 2, 1, 0] rfl (tX7_broken_24 zFU ((-1)) (0) (((q1.1 159 (Int32.toNatClampNeg 218)) - 1)) q1 q h)
theorem kX7_broken (M : zMM) (q : Int32 × zMM) (h : fX7_broken M = some q) : zCN yX7_broken iX7_broken [.inr (.inr 158)] M (some (.inl q.1), q.2) :=
  zCN.of (by decide) rfl rfl (Nat.le_of_ble_eq_true rfl) (zEV.perm [0] rfl (tX7_broken_0 M q h))
-- RingedPageModel.isLoose
def fX7_isLoose_2 (a1 : Int32) : Nat → Int32 → zMM → Option (Int32 × zMM)
  | 0, _, _ => none
  | n + 1, l2, M =>
  if oob (218) 259 then none else
  if (M.1 159 (Int32.toNatClampNeg 218)) ≤ l2 then
    some (1, M)
  else
    (fX7_tied (l2) (2) M).bind fun q3 =>
    if q3.1 = a1 then
      some (0, q3.2)
    else
      fX7_isLoose_2 a1 n ((l2 + 1)) q3.2
set_option maxRecDepth 4000 in
theorem tX7_isLoose_2 (a1 : Int32) : ∀ (n : Nat) (l2 : Int32) (M : zMM) (q : Int32 × zMM), fX7_isLoose_2 a1 n l2 M = some q → zEV iX7_isLoose 0 0 (zZO (some (.inl q.1), q.2)) 2 [(0, .inr (.inr 158)), (1, .inl a1), (2, .inl l2)] [] M := by
  intro n
  induction n with
  | zero =>
    intro l2 M q h
    rw [fX7_isLoose_2] at h
    cases h
  | succ n ih =>
    intro l2 M q h
    rw [fX7_isLoose_2] at h
    refine zEV.iload_n dX7_isLoose_2 rfl 2 rfl ?_
    refine zEV.aload_n dX7_isLoose_3 rfl 0 rfl ?_
    refine zEV.gfr rfl inz7 0 (by decide) wf_RX7_9 (by decide) rfl rfl dX7_isLoose_4 ?_
    refine zEV.sipush (v := 218) dX7_isLoose_7 rfl ?_
    obtain ⟨g1, h⟩ := ite_no h
    refine zEV.iald (by decide) rfl g1 dX7_isLoose_10 ?_
    refine zEV.icmp_ge 32 dX7_isLoose_11 (by decide) (fun c2 => ?_) (fun c2 => ?_)
    · rw [if_pos c2] at h
      refine zEV.iconst (v := 1) dX7_isLoose_32 rfl ?_
      cases h
      exact zEV.zret rfl (Or.inr rfl) dX7_isLoose_33
    · rw [if_neg c2] at h
      refine zEV.aload_n dX7_isLoose_14 rfl 0 rfl ?_
      refine zEV.iload_n dX7_isLoose_15 rfl 2 rfl ?_
      refine zEV.iconst (v := 2) dX7_isLoose_16 rfl ?_
      obtain ⟨q3, hq3, h⟩ := bind_yes h
      refine zEV.callVi (kX7_tied (l2) (2)  M q3 hq3) (by decide) rfl rfl wm_RX7_110 wc_X7_tied hy_X7_tied rfl ⟨Nat.le_of_ble_eq_true rfl, Nat.le_of_ble_eq_true rfl⟩ rfl (Nat.le_of_ble_eq_true rfl) dX7_isLoose_17 ?_
      refine zEV.iload_n dX7_isLoose_20 rfl 1 rfl ?_
      refine zEV.icmp_ne 26 dX7_isLoose_21 (by decide) (fun c4 => ?_) (fun c4 => ?_)
      · rw [if_neg c4] at h
        refine zEV.iinc (v := (l2 + 1)) dX7_isLoose_26 2 rfl rfl (Nat.le_of_ble_eq_true rfl) rfl ?_
        refine zEV.goto 2 dX7_isLoose_29 (by decide) ?_
        exact zEV.perm [1, 2, 0] rfl (ih ((l2 + 1)) q3.2 q h)
      · rw [if_pos c4] at h
        refine zEV.iconst (v := 0) dX7_isLoose_24 rfl ?_
        cases h
        exact zEV.zret rfl (Or.inl rfl) dX7_isLoose_25
def fX7_isLoose (a1 : Int32) (M : zMM) : Option (Int32 × zMM) :=
  fX7_isLoose_2 a1 zFU (0) M
set_option maxRecDepth 4000 in
theorem tX7_isLoose_0 (a1 : Int32) (M : zMM) (q : Int32 × zMM) (h : fX7_isLoose a1  M = some q) : zEV iX7_isLoose 0 0 (zZO (some (.inl q.1), q.2)) 0 [(0, .inr (.inr 158)), (1, .inl a1)] [] M := by
  unfold fX7_isLoose at h
  refine zEV.iconst (v := 0) dX7_isLoose_0 rfl ?_
  refine zEV.istore_n dX7_isLoose_1 rfl (Nat.le_of_ble_eq_true rfl) rfl ?_
  exact zEV.perm [1, 2, 0] rfl (tX7_isLoose_2 a1 zFU (0) M q h)
theorem kX7_isLoose (a1 : Int32) (M : zMM) (q : Int32 × zMM) (h : fX7_isLoose a1 M = some q) : zCN yX7_isLoose iX7_isLoose [.inr (.inr 158), .inl a1] M (some (.inl q.1), q.2) :=
  zCN.of (by decide) rfl rfl (Nat.le_of_ble_eq_true rfl) (zEV.perm [0, 1] rfl (tX7_isLoose_0 a1 M q h))
-- RingedPageModel.loose
def fX7_loose_38 (K18 : Int32 → Int32 → Int32 → zMM → Option (Int32 × zMM)) (l1 : Int32) (l2 : Int32) (l3 : Int32) (M : zMM) : Option (Int32 × zMM) :=
  K18 (l1) (l2) ((l3 + (-1))) M
set_option maxRecDepth 4000 in
theorem tX7_loose_38 (K18 : Int32 → Int32 → Int32 → zMM → Option (Int32 × zMM)) (hK18 : ∀ (l1 : Int32) (l2 : Int32) (l3 : Int32) (M : zMM) (q : Int32 × zMM), K18 l1 l2 l3 M = some q → zEV iX7_loose 0 0 (zZO (some (.inl q.1), q.2)) 18 [(0, .inr (.inr 158)), (1, .inl l1), (2, .inl l2), (3, .inl l3)] [] M) (l1 : Int32) (l2 : Int32) (l3 : Int32) (M : zMM) (q : Int32 × zMM) (h : fX7_loose_38 K18 l1 l2 l3 M = some q) : zEV iX7_loose 0 0 (zZO (some (.inl q.1), q.2)) 38 [(0, .inr (.inr 158)), (1, .inl l1), (2, .inl l2), (3, .inl l3)] [] M := by
  unfold fX7_loose_38 at h
  refine zEV.iinc (v := (l3 + (-1))) dX7_loose_38 3 rfl rfl (Nat.le_of_ble_eq_true rfl) rfl ?_
  refine zEV.goto 18 dX7_loose_41 (by decide) ?_
  exact zEV.perm [1, 2, 3, 0] rfl (hK18 (l1) (l2) ((l3 + (-1))) M q h)
def fX7_loose_18 : Nat → Int32 → Int32 → Int32 → zMM → Option (Int32 × zMM)
  | 0, _, _, _, _ => none
  | n + 1, l1, l2, l3, M =>
  if l3 < (0 : Int32) then
    (fX7_tell ((Int32.toInt64 l2)) (wr M 158 4 0)).bind fun q2 =>
    some (l1, q2)
  else
    (fX7_isLoose (l3) M).bind fun q3 =>
    if q3.1 = (0 : Int32) then
      fX7_loose_38 (fX7_loose_18 n) (l1) (l2) (l3) q3.2
    else
      fX7_loose_38 (fX7_loose_18 n) ((l1 + 1)) (l3) (l3) q3.2
set_option maxRecDepth 4000 in
theorem tX7_loose_18 : ∀ (n : Nat) (l1 : Int32) (l2 : Int32) (l3 : Int32) (M : zMM) (q : Int32 × zMM), fX7_loose_18 n l1 l2 l3 M = some q → zEV iX7_loose 0 0 (zZO (some (.inl q.1), q.2)) 18 [(0, .inr (.inr 158)), (1, .inl l1), (2, .inl l2), (3, .inl l3)] [] M := by
  intro n
  induction n with
  | zero =>
    intro l1 l2 l3 M q h
    rw [fX7_loose_18] at h
    cases h
  | succ n ih =>
    intro l1 l2 l3 M q h
    rw [fX7_loose_18] at h
    refine zEV.iload_n dX7_loose_18 rfl 3 rfl ?_
    refine zEV.if_lt 44 dX7_loose_19 (by decide) (fun c1 => ?_) (fun c1 => ?_)
    · rw [if_pos c1] at h
      refine zEV.aload_n dX7_loose_44 rfl 0 rfl ?_
      refine zEV.iconst (v := 0) dX7_loose_45 rfl ?_
      refine zEV.pfi rfl inz7 tyX7 tyX7_ok nmX7 4 (by decide) wf_RX7_62 rfl (by decide +kernel) (by decide) rfl rfl dX7_loose_46 ?_
      refine zEV.aload_n dX7_loose_49 rfl 0 rfl ?_
      refine zEV.iload_n dX7_loose_50 rfl 2 rfl ?_
      refine zEV.i2l dX7_loose_51 ?_
      obtain ⟨q2, hq2, h⟩ := bind_yes h
      refine zEV.callVv (kX7_tell ((Int32.toInt64 l2))  (wr M 158 4 0) q2 hq2) (by decide) rfl rfl wm_RX7_135 wc_X7_tell hy_X7_tell rfl ⟨Nat.le_of_ble_eq_true rfl, Nat.le_of_ble_eq_true rfl⟩ rfl (Nat.le_of_ble_eq_true rfl) dX7_loose_52 ?_
      refine zEV.iload_n dX7_loose_55 rfl 1 rfl ?_
      cases h
      exact zEV.iret rfl dX7_loose_56
    · rw [if_neg c1] at h
      refine zEV.aload_n dX7_loose_22 rfl 0 rfl ?_
      refine zEV.iload_n dX7_loose_23 rfl 3 rfl ?_
      obtain ⟨q3, hq3, h⟩ := bind_yes h
      refine zEV.callVi (kX7_isLoose (l3)  M q3 hq3) (by decide) rfl rfl wm_RX7_220 wc_X7_isLoose hy_X7_isLoose rfl ⟨Nat.le_of_ble_eq_true rfl, Nat.le_of_ble_eq_true rfl⟩ rfl (Nat.le_of_ble_eq_true rfl) dX7_loose_24 ?_
      refine zEV.if_ne 33 dX7_loose_27 (by decide) (fun c4 => ?_) (fun c4 => ?_)
      · rw [if_neg c4] at h
        refine zEV.iinc (v := (l1 + 1)) dX7_loose_33 1 rfl rfl (Nat.le_of_ble_eq_true rfl) rfl ?_
        refine zEV.iload_n dX7_loose_36 rfl 3 rfl ?_
        refine zEV.istore_n dX7_loose_37 rfl (Nat.le_of_ble_eq_true rfl) rfl ?_
        exact zEV.perm [2, 1, 0, 3] rfl (tX7_loose_38 (fX7_loose_18 n) (fun l1 l2 l3 M9 q9 h9 => ih l1 l2 l3 M9 q9 h9) ((l1 + 1)) (l3) (l3) q3.2 q h)
      · rw [if_pos c4] at h
        refine zEV.goto 38 dX7_loose_30 (by decide) ?_
        exact zEV.perm [0, 1, 2, 3] rfl (tX7_loose_38 (fX7_loose_18 n) (fun l1 l2 l3 M9 q9 h9 => ih l1 l2 l3 M9 q9 h9) (l1) (l2) (l3) q3.2 q h)
def fX7_loose (M : zMM) : Option (Int32 × zMM) :=
  if oob (5) 259 then none else
  fX7_loose_18 zFU (0) ((-1)) ((((wr M 158 5 0).1 159 (Int32.toNatClampNeg 5)) - 1)) (wr M 158 5 0)
set_option maxRecDepth 4000 in
theorem tX7_loose_0 (M : zMM) (q : Int32 × zMM) (h : fX7_loose  M = some q) : zEV iX7_loose 0 0 (zZO (some (.inl q.1), q.2)) 0 [(0, .inr (.inr 158))] [] M := by
  unfold fX7_loose at h
  refine zEV.aload_n dX7_loose_0 rfl 0 rfl ?_
  refine zEV.iconst (v := 0) dX7_loose_1 rfl ?_
  refine zEV.pfi rfl inz7 tyX7 tyX7_ok nmX7 5 (by decide) wf_RX7_58 rfl (by decide +kernel) (by decide) rfl rfl dX7_loose_2 ?_
  refine zEV.iconst (v := 0) dX7_loose_5 rfl ?_
  refine zEV.istore_n dX7_loose_6 rfl (Nat.le_of_ble_eq_true rfl) rfl ?_
  refine zEV.iconst (v := (-1)) dX7_loose_7 rfl ?_
  refine zEV.istore_n dX7_loose_8 rfl (Nat.le_of_ble_eq_true rfl) rfl ?_
  refine zEV.aload_n dX7_loose_9 rfl 2 rfl ?_
  refine zEV.gfr rfl inz7 0 (by decide) wf_RX7_9 (by decide) rfl rfl dX7_loose_10 ?_
  refine zEV.iconst (v := 5) dX7_loose_13 rfl ?_
  obtain ⟨g1, h⟩ := ite_no h
  refine zEV.iald (by decide) rfl g1 dX7_loose_14 ?_
  refine zEV.iconst (v := 1) dX7_loose_15 rfl ?_
  refine zEV.isub dX7_loose_16 ?_
  refine zEV.istore_n dX7_loose_17 rfl (Nat.le_of_ble_eq_true rfl) rfl ?_
  exact zEV.perm [3, 2, 1, 0] rfl (tX7_loose_18 zFU (0) ((-1)) ((((wr M 158 5 0).1 159 (Int32.toNatClampNeg 5)) - 1)) (wr M 158 5 0) q h)
theorem kX7_loose (M : zMM) (q : Int32 × zMM) (h : fX7_loose M = some q) : zCN yX7_loose iX7_loose [.inr (.inr 158)] M (some (.inl q.1), q.2) :=
  zCN.of (by decide) rfl rfl (Nat.le_of_ble_eq_true rfl) (zEV.perm [0] rfl (tX7_loose_0 M q h))
-- RingedPageModel.canPlan
def fX7_canPlan (a0 : Int32) (a1 : Int32) (a2 : Int32) (a3 : Int32) (a4 : Int32) (a5 : Int32) (M : zMM) : Option (Int32 × zMM) :=
  (fX7_in (a3) (0) (9) M).bind fun q1 =>
  if q1.1 = (0 : Int32) then
    some (0, q1.2)
  else
    if a1 ≤ a3 then
      some (0, q1.2)
    else
      (fX7_in (a4) (9) (40) q1.2).bind fun q4 =>
      if q4.1 = (0 : Int32) then
        some (0, q4.2)
      else
        (fX7_in (a5) (9) (40) q4.2).bind fun q6 =>
        if q6.1 = (0 : Int32) then
          some (0, q6.2)
        else
          if ((a0 - 9) - (2 * a2)) < (a4 + a5) then
            some (0, q6.2)
          else
            some (1, q6.2)
set_option maxRecDepth 4000 in
theorem tX7_canPlan_0 (a0 : Int32) (a1 : Int32) (a2 : Int32) (a3 : Int32) (a4 : Int32) (a5 : Int32) (M : zMM) (q : Int32 × zMM) (h : fX7_canPlan a0 a1 a2 a3 a4 a5  M = some q) : zEV iX7_canPlan 0 0 (zZO (some (.inl q.1), q.2)) 0 [(0, .inl a0), (1, .inl a1), (2, .inl a2), (3, .inl a3), (4, .inl a4), (5, .inl a5)] [] M := by
  unfold fX7_canPlan at h
  refine zEV.iload_n dX7_canPlan_0 rfl 3 rfl ?_
  refine zEV.iconst (v := 0) dX7_canPlan_1 rfl ?_
  refine zEV.bipush (v := 9) dX7_canPlan_2 rfl ?_
  obtain ⟨q1, hq1, h⟩ := bind_yes h
  refine zEV.callSi (kX7_in (a3) (0) (9)  M q1 hq1) wm_RX7_65 wc_X7_in hy_X7_in rfl ⟨Nat.le_of_ble_eq_true rfl, Nat.le_of_ble_eq_true rfl⟩ rfl (Nat.le_of_ble_eq_true rfl) dX7_canPlan_4 ?_
  refine zEV.if_eq 59 dX7_canPlan_7 (by decide) (fun c2 => ?_) (fun c2 => ?_)
  · rw [if_pos c2] at h
    refine zEV.iconst (v := 0) dX7_canPlan_59 rfl ?_
    cases h
    exact zEV.zret rfl (Or.inl rfl) dX7_canPlan_60
  · rw [if_neg c2] at h
    refine zEV.iload_n dX7_canPlan_10 rfl 3 rfl ?_
    refine zEV.iload_n dX7_canPlan_11 rfl 1 rfl ?_
    refine zEV.icmp_ge 59 dX7_canPlan_12 (by decide) (fun c3 => ?_) (fun c3 => ?_)
    · rw [if_pos c3] at h
      refine zEV.iconst (v := 0) dX7_canPlan_59 rfl ?_
      cases h
      exact zEV.zret rfl (Or.inl rfl) dX7_canPlan_60
    · rw [if_neg c3] at h
      refine zEV.iload dX7_canPlan_15 4 rfl ?_
      refine zEV.bipush (v := 9) dX7_canPlan_17 rfl ?_
      refine zEV.bipush (v := 40) dX7_canPlan_19 rfl ?_
      obtain ⟨q4, hq4, h⟩ := bind_yes h
      refine zEV.callSi (kX7_in (a4) (9) (40)  q1.2 q4 hq4) wm_RX7_65 wc_X7_in hy_X7_in rfl ⟨Nat.le_of_ble_eq_true rfl, Nat.le_of_ble_eq_true rfl⟩ rfl (Nat.le_of_ble_eq_true rfl) dX7_canPlan_21 ?_
      refine zEV.if_eq 59 dX7_canPlan_24 (by decide) (fun c5 => ?_) (fun c5 => ?_)
      · rw [if_pos c5] at h
        refine zEV.iconst (v := 0) dX7_canPlan_59 rfl ?_
        cases h
        exact zEV.zret rfl (Or.inl rfl) dX7_canPlan_60
      · rw [if_neg c5] at h
        refine zEV.iload dX7_canPlan_27 5 rfl ?_
        refine zEV.bipush (v := 9) dX7_canPlan_29 rfl ?_
        refine zEV.bipush (v := 40) dX7_canPlan_31 rfl ?_
        obtain ⟨q6, hq6, h⟩ := bind_yes h
        refine zEV.callSi (kX7_in (a5) (9) (40)  q4.2 q6 hq6) wm_RX7_65 wc_X7_in hy_X7_in rfl ⟨Nat.le_of_ble_eq_true rfl, Nat.le_of_ble_eq_true rfl⟩ rfl (Nat.le_of_ble_eq_true rfl) dX7_canPlan_33 ?_
        refine zEV.if_eq 59 dX7_canPlan_36 (by decide) (fun c7 => ?_) (fun c7 => ?_)
        · rw [if_pos c7] at h
          refine zEV.iconst (v := 0) dX7_canPlan_59 rfl ?_
          cases h
          exact zEV.zret rfl (Or.inl rfl) dX7_canPlan_60
        · rw [if_neg c7] at h
          refine zEV.iload dX7_canPlan_39 4 rfl ?_
          refine zEV.iload dX7_canPlan_41 5 rfl ?_
          refine zEV.iadd dX7_canPlan_43 ?_
          refine zEV.iload_n dX7_canPlan_44 rfl 0 rfl ?_
          refine zEV.bipush (v := 9) dX7_canPlan_45 rfl ?_
          refine zEV.isub dX7_canPlan_47 ?_
          refine zEV.iconst (v := 2) dX7_canPlan_48 rfl ?_
          refine zEV.iload_n dX7_canPlan_49 rfl 2 rfl ?_
          refine zEV.imul dX7_canPlan_50 ?_
          refine zEV.isub dX7_canPlan_51 ?_
          refine zEV.icmp_gt 59 dX7_canPlan_52 (by decide) (fun c8 => ?_) (fun c8 => ?_)
          · rw [if_pos c8] at h
            refine zEV.iconst (v := 0) dX7_canPlan_59 rfl ?_
            cases h
            exact zEV.zret rfl (Or.inl rfl) dX7_canPlan_60
          · rw [if_neg c8] at h
            refine zEV.iconst (v := 1) dX7_canPlan_55 rfl ?_
            refine zEV.goto 60 dX7_canPlan_56 (by decide) ?_
            cases h
            exact zEV.zret rfl (Or.inr rfl) dX7_canPlan_60
theorem kX7_canPlan (a0 : Int32) (a1 : Int32) (a2 : Int32) (a3 : Int32) (a4 : Int32) (a5 : Int32) (M : zMM) (q : Int32 × zMM) (h : fX7_canPlan a0 a1 a2 a3 a4 a5 M = some q) : zCN yX7_canPlan iX7_canPlan [.inl a0, .inl a1, .inl a2, .inl a3, .inl a4, .inl a5] M (some (.inl q.1), q.2) :=
  zCN.of (by decide) rfl rfl (Nat.le_of_ble_eq_true rfl) (zEV.perm [0, 1, 2, 3, 4, 5] rfl (tX7_canPlan_0 a0 a1 a2 a3 a4 a5 M q h))
-- RingedPageModel.canBe
def fX7_canBe (a1 : Int32) (a2 : Int32) (a3 : Int32) (M : zMM) : Option (Int32 × zMM) :=
  if oob (0) 259 then none else
  if oob (1) 259 then none else
  if oob (255) 259 then none else
  (fX7_canPlan ((M.1 159 (Int32.toNatClampNeg 0))) ((M.1 159 (Int32.toNatClampNeg 1))) ((M.1 159 (Int32.toNatClampNeg 255))) (a1) (a2) (a3) M).bind fun q4 =>
  if q4.1 = 0 ∨ q4.1 = 1 then some (q4.1, q4.2) else none
set_option maxRecDepth 4000 in
theorem tX7_canBe_0 (a1 : Int32) (a2 : Int32) (a3 : Int32) (M : zMM) (q : Int32 × zMM) (h : fX7_canBe a1 a2 a3  M = some q) : zEV iX7_canBe 0 0 (zZO (some (.inl q.1), q.2)) 0 [(0, .inr (.inr 158)), (1, .inl a1), (2, .inl a2), (3, .inl a3)] [] M := by
  unfold fX7_canBe at h
  refine zEV.aload_n dX7_canBe_0 rfl 0 rfl ?_
  refine zEV.gfr rfl inz7 0 (by decide) wf_RX7_9 (by decide) rfl rfl dX7_canBe_1 ?_
  refine zEV.iconst (v := 0) dX7_canBe_4 rfl ?_
  obtain ⟨g1, h⟩ := ite_no h
  refine zEV.iald (by decide) rfl g1 dX7_canBe_5 ?_
  refine zEV.aload_n dX7_canBe_6 rfl 0 rfl ?_
  refine zEV.gfr rfl inz7 0 (by decide) wf_RX7_9 (by decide) rfl rfl dX7_canBe_7 ?_
  refine zEV.iconst (v := 1) dX7_canBe_10 rfl ?_
  obtain ⟨g2, h⟩ := ite_no h
  refine zEV.iald (by decide) rfl g2 dX7_canBe_11 ?_
  refine zEV.aload_n dX7_canBe_12 rfl 0 rfl ?_
  refine zEV.gfr rfl inz7 0 (by decide) wf_RX7_9 (by decide) rfl rfl dX7_canBe_13 ?_
  refine zEV.sipush (v := 255) dX7_canBe_16 rfl ?_
  obtain ⟨g3, h⟩ := ite_no h
  refine zEV.iald (by decide) rfl g3 dX7_canBe_19 ?_
  refine zEV.iload_n dX7_canBe_20 rfl 1 rfl ?_
  refine zEV.iload_n dX7_canBe_21 rfl 2 rfl ?_
  refine zEV.iload_n dX7_canBe_22 rfl 3 rfl ?_
  obtain ⟨q4, hq4, h⟩ := bind_yes h
  refine zEV.callSi (kX7_canPlan ((M.1 159 (Int32.toNatClampNeg 0))) ((M.1 159 (Int32.toNatClampNeg 1))) ((M.1 159 (Int32.toNatClampNeg 255))) (a1) (a2) (a3)  M q4 hq4) wm_RX7_223 wc_X7_canPlan hy_X7_canPlan rfl ⟨Nat.le_of_ble_eq_true rfl, Nat.le_of_ble_eq_true rfl⟩ rfl (Nat.le_of_ble_eq_true rfl) dX7_canBe_23 ?_
  obtain ⟨g5, h⟩ := ite_yes h
  cases h
  exact zEV.zret rfl g5 dX7_canBe_26
theorem kX7_canBe (a1 : Int32) (a2 : Int32) (a3 : Int32) (M : zMM) (q : Int32 × zMM) (h : fX7_canBe a1 a2 a3 M = some q) : zCN yX7_canBe iX7_canBe [.inr (.inr 158), .inl a1, .inl a2, .inl a3] M (some (.inl q.1), q.2) :=
  zCN.of (by decide) rfl rfl (Nat.le_of_ble_eq_true rfl) (zEV.perm [0, 1, 2, 3] rfl (tX7_canBe_0 a1 a2 a3 M q h))
-- RingedPageModel.layAside
def fX7_layAside_2 : Nat → Int32 → zMM → Option (zMM)
  | 0, _, _ => none
  | n + 1, l1, M =>
  if (259 : Int32) ≤ l1 then
    some M
  else
    if oob (l1) 259 then none else
    fX7_layAside_2 n ((l1 + 1)) (wr M 166 (Int32.toNatClampNeg l1) (M.1 159 (Int32.toNatClampNeg l1)))
set_option maxRecDepth 4000 in
theorem tX7_layAside_2 : ∀ (n : Nat) (l1 : Int32) (M : zMM) (q : zMM), fX7_layAside_2 n l1 M = some q → zEV iX7_layAside 0 0 (zZO (none, q)) 2 [(0, .inr (.inr 158)), (1, .inl l1)] [] M := by
  intro n
  induction n with
  | zero =>
    intro l1 M q h
    rw [fX7_layAside_2] at h
    cases h
  | succ n ih =>
    intro l1 M q h
    rw [fX7_layAside_2] at h
    refine zEV.iload_n dX7_layAside_2 rfl 1 rfl ?_
    refine zEV.sipush (v := 259) dX7_layAside_3 rfl ?_
    refine zEV.icmp_ge 27 dX7_layAside_6 (by decide) (fun c1 => ?_) (fun c1 => ?_)
    · rw [if_pos c1] at h
      cases h
      exact zEV.vret rfl dX7_layAside_27
    · rw [if_neg c1] at h
      refine zEV.aload_n dX7_layAside_9 rfl 0 rfl ?_
      refine zEV.gfr rfl inz7 15 (by decide) wf_RX7_33 (by decide) rfl rfl dX7_layAside_10 ?_
      refine zEV.iload_n dX7_layAside_13 rfl 1 rfl ?_
      refine zEV.aload_n dX7_layAside_14 rfl 0 rfl ?_
      refine zEV.gfr rfl inz7 0 (by decide) wf_RX7_9 (by decide) rfl rfl dX7_layAside_15 ?_
      refine zEV.iload_n dX7_layAside_18 rfl 1 rfl ?_
      obtain ⟨g2, h⟩ := ite_no h
      refine zEV.iald (by decide) rfl g2 dX7_layAside_19 ?_
      refine zEV.iast (by decide) rfl g2 dX7_layAside_20 ?_
      refine zEV.iinc (v := (l1 + 1)) dX7_layAside_21 1 rfl rfl (Nat.le_of_ble_eq_true rfl) rfl ?_
      refine zEV.goto 2 dX7_layAside_24 (by decide) ?_
      exact zEV.perm [1, 0] rfl (ih ((l1 + 1)) (wr M 166 (Int32.toNatClampNeg l1) (M.1 159 (Int32.toNatClampNeg l1))) q h)
def fX7_layAside (M : zMM) : Option (zMM) :=
  fX7_layAside_2 zFU (0) M
set_option maxRecDepth 4000 in
theorem tX7_layAside_0 (M : zMM) (q : zMM) (h : fX7_layAside  M = some q) : zEV iX7_layAside 0 0 (zZO (none, q)) 0 [(0, .inr (.inr 158))] [] M := by
  unfold fX7_layAside at h
  refine zEV.iconst (v := 0) dX7_layAside_0 rfl ?_
  refine zEV.istore_n dX7_layAside_1 rfl (Nat.le_of_ble_eq_true rfl) rfl ?_
  exact zEV.perm [1, 0] rfl (tX7_layAside_2 zFU (0) M q h)
theorem kX7_layAside (M : zMM) (q : zMM) (h : fX7_layAside M = some q) : zCN yX7_layAside iX7_layAside [.inr (.inr 158)] M (none, q) :=
  zCN.of (by decide) rfl rfl (Nat.le_of_ble_eq_true rfl) (zEV.perm [0] rfl (tX7_layAside_0 M q h))
-- RingedPageModel.comesBack
def fX7_comesBack_2 : Nat → Int32 → zMM → Option (zMM)
  | 0, _, _ => none
  | n + 1, l1, M =>
  if (259 : Int32) ≤ l1 then
    some M
  else
    if oob (l1) 259 then none else
    fX7_comesBack_2 n ((l1 + 1)) (wr M 159 (Int32.toNatClampNeg l1) (M.1 166 (Int32.toNatClampNeg l1)))
set_option maxRecDepth 4000 in
theorem tX7_comesBack_2 : ∀ (n : Nat) (l1 : Int32) (M : zMM) (q : zMM), fX7_comesBack_2 n l1 M = some q → zEV iX7_comesBack 0 0 (zZO (none, q)) 2 [(0, .inr (.inr 158)), (1, .inl l1)] [] M := by
  intro n
  induction n with
  | zero =>
    intro l1 M q h
    rw [fX7_comesBack_2] at h
    cases h
  | succ n ih =>
    intro l1 M q h
    rw [fX7_comesBack_2] at h
    refine zEV.iload_n dX7_comesBack_2 rfl 1 rfl ?_
    refine zEV.sipush (v := 259) dX7_comesBack_3 rfl ?_
    refine zEV.icmp_ge 27 dX7_comesBack_6 (by decide) (fun c1 => ?_) (fun c1 => ?_)
    · rw [if_pos c1] at h
      cases h
      exact zEV.vret rfl dX7_comesBack_27
    · rw [if_neg c1] at h
      refine zEV.aload_n dX7_comesBack_9 rfl 0 rfl ?_
      refine zEV.gfr rfl inz7 0 (by decide) wf_RX7_9 (by decide) rfl rfl dX7_comesBack_10 ?_
      refine zEV.iload_n dX7_comesBack_13 rfl 1 rfl ?_
      refine zEV.aload_n dX7_comesBack_14 rfl 0 rfl ?_
      refine zEV.gfr rfl inz7 15 (by decide) wf_RX7_33 (by decide) rfl rfl dX7_comesBack_15 ?_
      refine zEV.iload_n dX7_comesBack_18 rfl 1 rfl ?_
      obtain ⟨g2, h⟩ := ite_no h
      refine zEV.iald (by decide) rfl g2 dX7_comesBack_19 ?_
      refine zEV.iast (by decide) rfl g2 dX7_comesBack_20 ?_
      refine zEV.iinc (v := (l1 + 1)) dX7_comesBack_21 1 rfl rfl (Nat.le_of_ble_eq_true rfl) rfl ?_
      refine zEV.goto 2 dX7_comesBack_24 (by decide) ?_
      exact zEV.perm [1, 0] rfl (ih ((l1 + 1)) (wr M 159 (Int32.toNatClampNeg l1) (M.1 166 (Int32.toNatClampNeg l1))) q h)
def fX7_comesBack (M : zMM) : Option (zMM) :=
  fX7_comesBack_2 zFU (0) M
set_option maxRecDepth 4000 in
theorem tX7_comesBack_0 (M : zMM) (q : zMM) (h : fX7_comesBack  M = some q) : zEV iX7_comesBack 0 0 (zZO (none, q)) 0 [(0, .inr (.inr 158))] [] M := by
  unfold fX7_comesBack at h
  refine zEV.iconst (v := 0) dX7_comesBack_0 rfl ?_
  refine zEV.istore_n dX7_comesBack_1 rfl (Nat.le_of_ble_eq_true rfl) rfl ?_
  exact zEV.perm [1, 0] rfl (tX7_comesBack_2 zFU (0) M q h)
theorem kX7_comesBack (M : zMM) (q : zMM) (h : fX7_comesBack M = some q) : zCN yX7_comesBack iX7_comesBack [.inr (.inr 158)] M (none, q) :=
  zCN.of (by decide) rfl rfl (Nat.le_of_ble_eq_true rfl) (zEV.perm [0] rfl (tX7_comesBack_0 M q h))
-- RingedPageModel.putPlan
def fX7_putPlan (a1 : Int32) (a2 : Int32) (a3 : Int32) (M : zMM) : Option (zMM) :=
  if oob (2) 259 then none else
  if oob (3) 259 then none else
  if oob (4) 259 then none else
  some (wr (wr (wr M 159 (Int32.toNatClampNeg 2) a1) 159 (Int32.toNatClampNeg 3) a2) 159 (Int32.toNatClampNeg 4) a3)
set_option maxRecDepth 4000 in
theorem tX7_putPlan_0 (a1 : Int32) (a2 : Int32) (a3 : Int32) (M : zMM) (q : zMM) (h : fX7_putPlan a1 a2 a3  M = some q) : zEV iX7_putPlan 0 0 (zZO (none, q)) 0 [(0, .inr (.inr 158)), (1, .inl a1), (2, .inl a2), (3, .inl a3)] [] M := by
  unfold fX7_putPlan at h
  refine zEV.aload_n dX7_putPlan_0 rfl 0 rfl ?_
  refine zEV.gfr rfl inz7 0 (by decide) wf_RX7_9 (by decide) rfl rfl dX7_putPlan_1 ?_
  refine zEV.iconst (v := 2) dX7_putPlan_4 rfl ?_
  refine zEV.iload_n dX7_putPlan_5 rfl 1 rfl ?_
  obtain ⟨g1, h⟩ := ite_no h
  refine zEV.iast (by decide) rfl g1 dX7_putPlan_6 ?_
  refine zEV.aload_n dX7_putPlan_7 rfl 0 rfl ?_
  refine zEV.gfr rfl inz7 0 (by decide) wf_RX7_9 (by decide) rfl rfl dX7_putPlan_8 ?_
  refine zEV.iconst (v := 3) dX7_putPlan_11 rfl ?_
  refine zEV.iload_n dX7_putPlan_12 rfl 2 rfl ?_
  obtain ⟨g2, h⟩ := ite_no h
  refine zEV.iast (by decide) rfl g2 dX7_putPlan_13 ?_
  refine zEV.aload_n dX7_putPlan_14 rfl 0 rfl ?_
  refine zEV.gfr rfl inz7 0 (by decide) wf_RX7_9 (by decide) rfl rfl dX7_putPlan_15 ?_
  refine zEV.iconst (v := 4) dX7_putPlan_18 rfl ?_
  refine zEV.iload_n dX7_putPlan_19 rfl 3 rfl ?_
  obtain ⟨g3, h⟩ := ite_no h
  refine zEV.iast (by decide) rfl g3 dX7_putPlan_20 ?_
  cases h
  exact zEV.vret rfl dX7_putPlan_21
theorem kX7_putPlan (a1 : Int32) (a2 : Int32) (a3 : Int32) (M : zMM) (q : zMM) (h : fX7_putPlan a1 a2 a3 M = some q) : zCN yX7_putPlan iX7_putPlan [.inr (.inr 158), .inl a1, .inl a2, .inl a3] M (none, q) :=
  zCN.of (by decide) rfl rfl (Nat.le_of_ble_eq_true rfl) (zEV.perm [0, 1, 2, 3] rfl (tX7_putPlan_0 a1 a2 a3 M q h))
-- RingedPageModel.by
def fX7_by (a1 : Int32) (a2 : Int32) (a3 : Int32) (M : zMM) : Option (Int32 × zMM) :=
  (fX7_canBe (a1) (a2) (a3) (wr M 158 5 0)).bind fun q1 =>
  if q1.1 = (0 : Int32) then
    some ((-1), q1.2)
  else
    (fX7_layAside  q1.2).bind fun q3 =>
    (fX7_putPlan (a1) (a2) (a3) q3).bind fun q4 =>
    (fX7_costNow  q4).bind fun q5 =>
    (fX7_tell ((Int32.toInt64 ((wr q5.2 158 4 0).1 158 14))) (wr q5.2 158 4 0)).bind fun q6 =>
    (fX7_apartOf  q6).bind fun q7 =>
    (fX7_tell ((Int32.toInt64 q7.1)) q7.2).bind fun q8 =>
    (fX7_brokenMany  q8).bind fun q9 =>
    (fX7_tell ((Int32.toInt64 q9.1)) q9.2).bind fun q10 =>
    (fX7_raggedAll  q10).bind fun q11 =>
    (fX7_tell ((Int32.toInt64 q11.1)) q11.2).bind fun q12 =>
    (fX7_comesBack  q12).bind fun q13 =>
    some (q5.1, q13)
set_option maxRecDepth 4000 in
theorem tX7_by_0 (a1 : Int32) (a2 : Int32) (a3 : Int32) (M : zMM) (q : Int32 × zMM) (h : fX7_by a1 a2 a3  M = some q) : zEV iX7_by 0 0 (zZO (some (.inl q.1), q.2)) 0 [(0, .inr (.inr 158)), (1, .inl a1), (2, .inl a2), (3, .inl a3)] [] M := by
  unfold fX7_by at h
  refine zEV.aload_n dX7_by_0 rfl 0 rfl ?_
  refine zEV.iconst (v := 0) dX7_by_1 rfl ?_
  refine zEV.pfi rfl inz7 tyX7 tyX7_ok nmX7 5 (by decide) wf_RX7_58 rfl (by decide +kernel) (by decide) rfl rfl dX7_by_2 ?_
  refine zEV.aload_n dX7_by_5 rfl 0 rfl ?_
  refine zEV.iload_n dX7_by_6 rfl 1 rfl ?_
  refine zEV.iload_n dX7_by_7 rfl 2 rfl ?_
  refine zEV.iload_n dX7_by_8 rfl 3 rfl ?_
  obtain ⟨q1, hq1, h⟩ := bind_yes h
  refine zEV.callVi (kX7_canBe (a1) (a2) (a3)  (wr M 158 5 0) q1 hq1) (by decide) rfl rfl wm_RX7_227 wc_X7_canBe hy_X7_canBe rfl ⟨Nat.le_of_ble_eq_true rfl, Nat.le_of_ble_eq_true rfl⟩ rfl (Nat.le_of_ble_eq_true rfl) dX7_by_9 ?_
  refine zEV.if_ne 17 dX7_by_12 (by decide) (fun c2 => ?_) (fun c2 => ?_)
  · rw [if_neg c2] at h
    refine zEV.aload_n dX7_by_17 rfl 0 rfl ?_
    obtain ⟨q3, hq3, h⟩ := bind_yes h
    refine zEV.callVv (kX7_layAside   q1.2 q3 hq3) (by decide) rfl rfl wm_RX7_230 wc_X7_layAside hy_X7_layAside rfl ⟨Nat.le_of_ble_eq_true rfl, Nat.le_of_ble_eq_true rfl⟩ rfl (Nat.le_of_ble_eq_true rfl) dX7_by_18 ?_
    refine zEV.aload_n dX7_by_21 rfl 0 rfl ?_
    refine zEV.iload_n dX7_by_22 rfl 1 rfl ?_
    refine zEV.iload_n dX7_by_23 rfl 2 rfl ?_
    refine zEV.iload_n dX7_by_24 rfl 3 rfl ?_
    obtain ⟨q4, hq4, h⟩ := bind_yes h
    refine zEV.callVv (kX7_putPlan (a1) (a2) (a3)  q3 q4 hq4) (by decide) rfl rfl wm_RX7_233 wc_X7_putPlan hy_X7_putPlan rfl ⟨Nat.le_of_ble_eq_true rfl, Nat.le_of_ble_eq_true rfl⟩ rfl (Nat.le_of_ble_eq_true rfl) dX7_by_25 ?_
    refine zEV.aload_n dX7_by_28 rfl 0 rfl ?_
    obtain ⟨q5, hq5, h⟩ := bind_yes h
    refine zEV.callVi (kX7_costNow   q4 q5 hq5) (by decide) rfl rfl wm_RX7_217 wc_X7_costNow hy_X7_costNow rfl ⟨Nat.le_of_ble_eq_true rfl, Nat.le_of_ble_eq_true rfl⟩ rfl (Nat.le_of_ble_eq_true rfl) dX7_by_29 ?_
    refine zEV.istore dX7_by_32 (Nat.le_of_ble_eq_true rfl) rfl ?_
    refine zEV.aload_n dX7_by_34 rfl 1 rfl ?_
    refine zEV.iconst (v := 0) dX7_by_35 rfl ?_
    refine zEV.pfi rfl inz7 tyX7 tyX7_ok nmX7 4 (by decide) wf_RX7_62 rfl (by decide +kernel) (by decide) rfl rfl dX7_by_36 ?_
    refine zEV.aload_n dX7_by_39 rfl 1 rfl ?_
    refine zEV.aload_n dX7_by_40 rfl 1 rfl ?_
    refine zEV.gfi rfl inz7 14 (by decide) wf_RX7_154 (by decide) rfl rfl dX7_by_41 ?_
    refine zEV.i2l dX7_by_44 ?_
    obtain ⟨q6, hq6, h⟩ := bind_yes h
    refine zEV.callVv (kX7_tell ((Int32.toInt64 ((wr q5.2 158 4 0).1 158 14)))  (wr q5.2 158 4 0) q6 hq6) (by decide) rfl rfl wm_RX7_135 wc_X7_tell hy_X7_tell rfl ⟨Nat.le_of_ble_eq_true rfl, Nat.le_of_ble_eq_true rfl⟩ rfl (Nat.le_of_ble_eq_true rfl) dX7_by_45 ?_
    refine zEV.aload_n dX7_by_48 rfl 1 rfl ?_
    refine zEV.aload_n dX7_by_49 rfl 1 rfl ?_
    obtain ⟨q7, hq7, h⟩ := bind_yes h
    refine zEV.callVi (kX7_apartOf   q6 q7 hq7) (by decide) rfl rfl wm_RX7_196 wc_X7_apartOf hy_X7_apartOf rfl ⟨Nat.le_of_ble_eq_true rfl, Nat.le_of_ble_eq_true rfl⟩ rfl (Nat.le_of_ble_eq_true rfl) dX7_by_50 ?_
    refine zEV.i2l dX7_by_53 ?_
    obtain ⟨q8, hq8, h⟩ := bind_yes h
    refine zEV.callVv (kX7_tell ((Int32.toInt64 q7.1))  q7.2 q8 hq8) (by decide) rfl rfl wm_RX7_135 wc_X7_tell hy_X7_tell rfl ⟨Nat.le_of_ble_eq_true rfl, Nat.le_of_ble_eq_true rfl⟩ rfl (Nat.le_of_ble_eq_true rfl) dX7_by_54 ?_
    refine zEV.aload_n dX7_by_57 rfl 1 rfl ?_
    refine zEV.aload_n dX7_by_58 rfl 1 rfl ?_
    obtain ⟨q9, hq9, h⟩ := bind_yes h
    refine zEV.callVi (kX7_brokenMany   q8 q9 hq9) (by decide) rfl rfl wm_RX7_211 wc_X7_brokenMany hy_X7_brokenMany rfl ⟨Nat.le_of_ble_eq_true rfl, Nat.le_of_ble_eq_true rfl⟩ rfl (Nat.le_of_ble_eq_true rfl) dX7_by_59 ?_
    refine zEV.i2l dX7_by_62 ?_
    obtain ⟨q10, hq10, h⟩ := bind_yes h
    refine zEV.callVv (kX7_tell ((Int32.toInt64 q9.1))  q9.2 q10 hq10) (by decide) rfl rfl wm_RX7_135 wc_X7_tell hy_X7_tell rfl ⟨Nat.le_of_ble_eq_true rfl, Nat.le_of_ble_eq_true rfl⟩ rfl (Nat.le_of_ble_eq_true rfl) dX7_by_63 ?_
    refine zEV.aload_n dX7_by_66 rfl 1 rfl ?_
    refine zEV.aload_n dX7_by_67 rfl 1 rfl ?_
    obtain ⟨q11, hq11, h⟩ := bind_yes h
    refine zEV.callVi (kX7_raggedAll   q10 q11 hq11) (by decide) rfl rfl wm_RX7_202 wc_X7_raggedAll hy_X7_raggedAll rfl ⟨Nat.le_of_ble_eq_true rfl, Nat.le_of_ble_eq_true rfl⟩ rfl (Nat.le_of_ble_eq_true rfl) dX7_by_68 ?_
    refine zEV.i2l dX7_by_71 ?_
    obtain ⟨q12, hq12, h⟩ := bind_yes h
    refine zEV.callVv (kX7_tell ((Int32.toInt64 q11.1))  q11.2 q12 hq12) (by decide) rfl rfl wm_RX7_135 wc_X7_tell hy_X7_tell rfl ⟨Nat.le_of_ble_eq_true rfl, Nat.le_of_ble_eq_true rfl⟩ rfl (Nat.le_of_ble_eq_true rfl) dX7_by_72 ?_
    refine zEV.aload_n dX7_by_75 rfl 1 rfl ?_
    obtain ⟨q13, hq13, h⟩ := bind_yes h
    refine zEV.callVv (kX7_comesBack   q12 q13 hq13) (by decide) rfl rfl wm_RX7_237 wc_X7_comesBack hy_X7_comesBack rfl ⟨Nat.le_of_ble_eq_true rfl, Nat.le_of_ble_eq_true rfl⟩ rfl (Nat.le_of_ble_eq_true rfl) dX7_by_76 ?_
    refine zEV.iload dX7_by_79 0 rfl ?_
    cases h
    exact zEV.iret rfl dX7_by_81
  · rw [if_pos c2] at h
    refine zEV.iconst (v := (-1)) dX7_by_15 rfl ?_
    cases h
    exact zEV.iret rfl dX7_by_16
theorem kX7_by (a1 : Int32) (a2 : Int32) (a3 : Int32) (M : zMM) (q : Int32 × zMM) (h : fX7_by a1 a2 a3 M = some q) : zCN yX7_by iX7_by [.inr (.inr 158), .inl a1, .inl a2, .inl a3] M (some (.inl q.1), q.2) :=
  zCN.of (by decide) rfl rfl (Nat.le_of_ble_eq_true rfl) (zEV.perm [0, 1, 2, 3] rfl (tX7_by_0 a1 a2 a3 M q h))
-- RingedPageModel.tryPlan
def fX7_tryPlan_105 (a1 : Int32) (M : zMM) : Option (zMM) :=
  some (wr M 158 20 ((M.1 158 20) + 1))
set_option maxRecDepth 4000 in
theorem tX7_tryPlan_105 (a1 : Int32) (M : zMM) (q : zMM) (h : fX7_tryPlan_105 a1  M = some q) : zEV iX7_tryPlan 0 0 (zZO (none, q)) 105 [(0, .inr (.inr 158))] [] M := by
  unfold fX7_tryPlan_105 at h
  refine zEV.aload_n dX7_tryPlan_105 rfl 0 rfl ?_
  refine zEV.dup dX7_tryPlan_106 rfl ?_
  refine zEV.gfi rfl inz7 20 (by decide) wf_RX7_246 (by decide) rfl rfl dX7_tryPlan_107 ?_
  refine zEV.iconst (v := 1) dX7_tryPlan_110 rfl ?_
  refine zEV.iadd dX7_tryPlan_111 ?_
  refine zEV.pfi rfl inz7 tyX7 tyX7_ok nmX7 20 (by decide) wf_RX7_246 rfl (by decide +kernel) (by decide) rfl rfl dX7_tryPlan_112 ?_
  cases h
  exact zEV.vret rfl dX7_tryPlan_115
def fX7_tryPlan_73 (a1 : Int32) : Nat → Int32 → zMM → Option (zMM)
  | 0, _, _ => none
  | n + 1, l3, M =>
  if (3 : Int32) ≤ l3 then
    fX7_tryPlan_105 a1 M
  else
    if (M.1 158 20) = (0 : Int32) then
      if oob ((2 + l3)) 259 then none else
      if oob (l3) 3 then none else
      fX7_tryPlan_73 a1 n ((l3 + 1)) (wr M 168 (Int32.toNatClampNeg l3) (M.1 159 (Int32.toNatClampNeg (2 + l3))))
    else
      fX7_tryPlan_105 a1 M
set_option maxRecDepth 4000 in
theorem tX7_tryPlan_73 (a1 : Int32) : ∀ (n : Nat) (l3 : Int32) (M : zMM) (q : zMM), fX7_tryPlan_73 a1 n l3 M = some q → zEV iX7_tryPlan 0 0 (zZO (none, q)) 73 [(0, .inr (.inr 158)), (3, .inl l3)] [] M := by
  intro n
  induction n with
  | zero =>
    intro l3 M q h
    rw [fX7_tryPlan_73] at h
    cases h
  | succ n ih =>
    intro l3 M q h
    rw [fX7_tryPlan_73] at h
    refine zEV.iload_n dX7_tryPlan_73 rfl 1 rfl ?_
    refine zEV.iconst (v := 3) dX7_tryPlan_74 rfl ?_
    refine zEV.icmp_ge 105 dX7_tryPlan_75 (by decide) (fun c1 => ?_) (fun c1 => ?_)
    · rw [if_pos c1] at h
      exact zEV.perm [0] rfl (tX7_tryPlan_105 a1 M q h)
    · rw [if_neg c1] at h
      refine zEV.aload_n dX7_tryPlan_78 rfl 0 rfl ?_
      refine zEV.gfi rfl inz7 20 (by decide) wf_RX7_246 (by decide) rfl rfl dX7_tryPlan_79 ?_
      refine zEV.if_ne 105 dX7_tryPlan_82 (by decide) (fun c2 => ?_) (fun c2 => ?_)
      · rw [if_neg c2] at h
        exact zEV.perm [0] rfl (tX7_tryPlan_105 a1 M q h)
      · rw [if_pos c2] at h
        refine zEV.aload_n dX7_tryPlan_85 rfl 0 rfl ?_
        refine zEV.gfr rfl inz7 17 (by decide) wf_RX7_39 (by decide) rfl rfl dX7_tryPlan_86 ?_
        refine zEV.iload_n dX7_tryPlan_89 rfl 1 rfl ?_
        refine zEV.aload_n dX7_tryPlan_90 rfl 0 rfl ?_
        refine zEV.gfr rfl inz7 0 (by decide) wf_RX7_9 (by decide) rfl rfl dX7_tryPlan_91 ?_
        refine zEV.iconst (v := 2) dX7_tryPlan_94 rfl ?_
        refine zEV.iload_n dX7_tryPlan_95 rfl 1 rfl ?_
        refine zEV.iadd dX7_tryPlan_96 ?_
        obtain ⟨g3, h⟩ := ite_no h
        refine zEV.iald (by decide) rfl g3 dX7_tryPlan_97 ?_
        obtain ⟨g4, h⟩ := ite_no h
        refine zEV.iast (by decide) rfl g4 dX7_tryPlan_98 ?_
        refine zEV.iinc (v := (l3 + 1)) dX7_tryPlan_99 1 rfl rfl (Nat.le_of_ble_eq_true rfl) rfl ?_
        refine zEV.goto 73 dX7_tryPlan_102 (by decide) ?_
        exact zEV.perm [1, 0] rfl (ih ((l3 + 1)) (wr M 168 (Int32.toNatClampNeg l3) (M.1 159 (Int32.toNatClampNeg (2 + l3)))) q h)
def fX7_tryPlan_52 (a1 : Int32) (M : zMM) : Option (zMM) :=
  (fX7_apartOf  (wr M 158 19 ((M.1 158 19) + 1))).bind fun q1 =>
  if q1.1 ≤ a1 then
    fX7_tryPlan_73 a1 zFU (0) q1.2
  else
    some q1.2
set_option maxRecDepth 4000 in
theorem tX7_tryPlan_52 (a1 : Int32) (M : zMM) (q : zMM) (h : fX7_tryPlan_52 a1  M = some q) : zEV iX7_tryPlan 0 0 (zZO (none, q)) 52 [(0, .inr (.inr 158)), (1, .inl a1)] [] M := by
  unfold fX7_tryPlan_52 at h
  refine zEV.aload_n dX7_tryPlan_52 rfl 0 rfl ?_
  refine zEV.dup dX7_tryPlan_53 rfl ?_
  refine zEV.gfi rfl inz7 19 (by decide) wf_RX7_240 (by decide) rfl rfl dX7_tryPlan_54 ?_
  refine zEV.iconst (v := 1) dX7_tryPlan_57 rfl ?_
  refine zEV.iadd dX7_tryPlan_58 ?_
  refine zEV.pfi rfl inz7 tyX7 tyX7_ok nmX7 19 (by decide) wf_RX7_240 rfl (by decide +kernel) (by decide) rfl rfl dX7_tryPlan_59 ?_
  refine zEV.aload_n dX7_tryPlan_62 rfl 0 rfl ?_
  obtain ⟨q1, hq1, h⟩ := bind_yes h
  refine zEV.callVi (kX7_apartOf   (wr M 158 19 ((M.1 158 19) + 1)) q1 hq1) (by decide) rfl rfl wm_RX7_196 wc_X7_apartOf hy_X7_apartOf rfl ⟨Nat.le_of_ble_eq_true rfl, Nat.le_of_ble_eq_true rfl⟩ rfl (Nat.le_of_ble_eq_true rfl) dX7_tryPlan_63 ?_
  refine zEV.iload_n dX7_tryPlan_66 rfl 1 rfl ?_
  refine zEV.icmp_le 71 dX7_tryPlan_67 (by decide) (fun c2 => ?_) (fun c2 => ?_)
  · rw [if_pos c2] at h
    refine zEV.iconst (v := 0) dX7_tryPlan_71 rfl ?_
    refine zEV.istore_n dX7_tryPlan_72 rfl (Nat.le_of_ble_eq_true rfl) rfl ?_
    exact zEV.perm [1, 0] rfl (tX7_tryPlan_73 a1 zFU (0) q1.2 q h)
  · rw [if_neg c2] at h
    cases h
    exact zEV.vret rfl dX7_tryPlan_70
def fX7_tryPlan_27 (a1 : Int32) : Nat → Int32 → zMM → Option (zMM)
  | 0, _, _ => none
  | n + 1, l3, M =>
  if (3 : Int32) ≤ l3 then
    fX7_tryPlan_52 a1 M
  else
    if oob ((2 + l3)) 259 then none else
    if oob (l3) 3 then none else
    fX7_tryPlan_27 a1 n ((l3 + 1)) (wr M 167 (Int32.toNatClampNeg l3) (M.1 159 (Int32.toNatClampNeg (2 + l3))))
set_option maxRecDepth 4000 in
theorem tX7_tryPlan_27 (a1 : Int32) : ∀ (n : Nat) (l3 : Int32) (M : zMM) (q : zMM), fX7_tryPlan_27 a1 n l3 M = some q → zEV iX7_tryPlan 0 0 (zZO (none, q)) 27 [(0, .inr (.inr 158)), (1, .inl a1), (3, .inl l3)] [] M := by
  intro n
  induction n with
  | zero =>
    intro l3 M q h
    rw [fX7_tryPlan_27] at h
    cases h
  | succ n ih =>
    intro l3 M q h
    rw [fX7_tryPlan_27] at h
    refine zEV.iload_n dX7_tryPlan_27 rfl 2 rfl ?_
    refine zEV.iconst (v := 3) dX7_tryPlan_28 rfl ?_
    refine zEV.icmp_ge 52 dX7_tryPlan_29 (by decide) (fun c1 => ?_) (fun c1 => ?_)
    · rw [if_pos c1] at h
      exact zEV.perm [0, 1] rfl (tX7_tryPlan_52 a1 M q h)
    · rw [if_neg c1] at h
      refine zEV.aload_n dX7_tryPlan_32 rfl 0 rfl ?_
      refine zEV.gfr rfl inz7 16 (by decide) wf_RX7_36 (by decide) rfl rfl dX7_tryPlan_33 ?_
      refine zEV.iload_n dX7_tryPlan_36 rfl 2 rfl ?_
      refine zEV.aload_n dX7_tryPlan_37 rfl 0 rfl ?_
      refine zEV.gfr rfl inz7 0 (by decide) wf_RX7_9 (by decide) rfl rfl dX7_tryPlan_38 ?_
      refine zEV.iconst (v := 2) dX7_tryPlan_41 rfl ?_
      refine zEV.iload_n dX7_tryPlan_42 rfl 2 rfl ?_
      refine zEV.iadd dX7_tryPlan_43 ?_
      obtain ⟨g2, h⟩ := ite_no h
      refine zEV.iald (by decide) rfl g2 dX7_tryPlan_44 ?_
      obtain ⟨g3, h⟩ := ite_no h
      refine zEV.iast (by decide) rfl g3 dX7_tryPlan_45 ?_
      refine zEV.iinc (v := (l3 + 1)) dX7_tryPlan_46 2 rfl rfl (Nat.le_of_ble_eq_true rfl) rfl ?_
      refine zEV.goto 27 dX7_tryPlan_49 (by decide) ?_
      exact zEV.perm [1, 2, 0] rfl (ih ((l3 + 1)) (wr M 167 (Int32.toNatClampNeg l3) (M.1 159 (Int32.toNatClampNeg (2 + l3)))) q h)
def fX7_tryPlan_20 (a1 : Int32) (l2 : Int32) (M : zMM) : Option (zMM) :=
  fX7_tryPlan_27 a1 zFU (0) (wr M 158 18 l2)
set_option maxRecDepth 4000 in
theorem tX7_tryPlan_20 (a1 : Int32) (l2 : Int32) (M : zMM) (q : zMM) (h : fX7_tryPlan_20 a1 l2 M = some q) : zEV iX7_tryPlan 0 0 (zZO (none, q)) 20 [(0, .inr (.inr 158)), (1, .inl a1), (2, .inl l2)] [] M := by
  unfold fX7_tryPlan_20 at h
  refine zEV.aload_n dX7_tryPlan_20 rfl 0 rfl ?_
  refine zEV.iload_n dX7_tryPlan_21 rfl 2 rfl ?_
  refine zEV.pfi rfl inz7 tyX7 tyX7_ok nmX7 18 (by decide) wf_RX7_243 rfl (by decide +kernel) (by decide) rfl rfl dX7_tryPlan_22 ?_
  refine zEV.iconst (v := 0) dX7_tryPlan_25 rfl ?_
  refine zEV.istore_n dX7_tryPlan_26 rfl (Nat.le_of_ble_eq_true rfl) rfl ?_
  exact zEV.perm [1, 2, 0] rfl (tX7_tryPlan_27 a1 zFU (0) (wr M 158 18 l2) q h)
def fX7_tryPlan (a1 : Int32) (M : zMM) : Option (zMM) :=
  (fX7_costNow  M).bind fun q1 =>
  if (q1.2.1 158 19) = (0 : Int32) then
    fX7_tryPlan_20 a1 (q1.1) q1.2
  else
    if (q1.2.1 158 18) ≤ q1.1 then
      fX7_tryPlan_52 a1 q1.2
    else
      fX7_tryPlan_20 a1 (q1.1) q1.2
set_option maxRecDepth 4000 in
theorem tX7_tryPlan_0 (a1 : Int32) (M : zMM) (q : zMM) (h : fX7_tryPlan a1  M = some q) : zEV iX7_tryPlan 0 0 (zZO (none, q)) 0 [(0, .inr (.inr 158)), (1, .inl a1)] [] M := by
  unfold fX7_tryPlan at h
  refine zEV.aload_n dX7_tryPlan_0 rfl 0 rfl ?_
  obtain ⟨q1, hq1, h⟩ := bind_yes h
  refine zEV.callVi (kX7_costNow   M q1 hq1) (by decide) rfl rfl wm_RX7_217 wc_X7_costNow hy_X7_costNow rfl ⟨Nat.le_of_ble_eq_true rfl, Nat.le_of_ble_eq_true rfl⟩ rfl (Nat.le_of_ble_eq_true rfl) dX7_tryPlan_1 ?_
  refine zEV.istore_n dX7_tryPlan_4 rfl (Nat.le_of_ble_eq_true rfl) rfl ?_
  refine zEV.aload_n dX7_tryPlan_5 rfl 1 rfl ?_
  refine zEV.gfi rfl inz7 19 (by decide) wf_RX7_240 (by decide) rfl rfl dX7_tryPlan_6 ?_
  refine zEV.if_eq 20 dX7_tryPlan_9 (by decide) (fun c2 => ?_) (fun c2 => ?_)
  · rw [if_pos c2] at h
    exact zEV.perm [1, 2, 0] rfl (tX7_tryPlan_20 a1 (q1.1) q1.2 q h)
  · rw [if_neg c2] at h
    refine zEV.iload_n dX7_tryPlan_12 rfl 0 rfl ?_
    refine zEV.aload_n dX7_tryPlan_13 rfl 1 rfl ?_
    refine zEV.gfi rfl inz7 18 (by decide) wf_RX7_243 (by decide) rfl rfl dX7_tryPlan_14 ?_
    refine zEV.icmp_ge 52 dX7_tryPlan_17 (by decide) (fun c3 => ?_) (fun c3 => ?_)
    · rw [if_pos c3] at h
      exact zEV.perm [1, 2] rfl (tX7_tryPlan_52 a1 q1.2 q h)
    · rw [if_neg c3] at h
      exact zEV.perm [1, 2, 0] rfl (tX7_tryPlan_20 a1 (q1.1) q1.2 q h)
theorem kX7_tryPlan (a1 : Int32) (M : zMM) (q : zMM) (h : fX7_tryPlan a1 M = some q) : zCN yX7_tryPlan iX7_tryPlan [.inr (.inr 158), .inl a1] M (none, q) :=
  zCN.of (by decide) rfl rfl (Nat.le_of_ble_eq_true rfl) (zEV.perm [0, 1] rfl (tX7_tryPlan_0 a1 M q h))
-- RingedPageModel.goGrid
def fX7_goGrid_38 (K17 : Int32 → zMM → Option (zMM)) (K27 : Int32 → Int32 → zMM → Option (zMM)) (a1 : Int32) (a2 : Int32) (a3 : Int32) : Nat → Int32 → Int32 → Int32 → zMM → Option (zMM)
  | 0, _, _, _, _ => none
  | n + 1, l4, l5, l6, M =>
  (fX7_canBe (l4) (l5) (l6) M).bind fun q1 =>
  if q1.1 = (0 : Int32) then
    K27 (l4) ((l5 + a2)) q1.2
  else
    (fX7_putPlan (l4) (l5) (l6) q1.2).bind fun q3 =>
    (fX7_tryPlan (a3) q3).bind fun q4 =>
    fX7_goGrid_38 K17 K27 a1 a2 a3 n (l4) (l5) ((l6 + a2)) q4
set_option maxRecDepth 4000 in
theorem tX7_goGrid_38 (K17 : Int32 → zMM → Option (zMM)) (K27 : Int32 → Int32 → zMM → Option (zMM)) (a1 : Int32) (a2 : Int32) (a3 : Int32) (hK17 : ∀ (l4 : Int32) (M : zMM) (q : zMM), K17 l4 M = some q → zEV iX7_goGrid 0 0 (zZO (none, q)) 17 [(0, .inr (.inr 158)), (1, .inl a1), (2, .inl a2), (3, .inl a3), (4, .inl l4)] [] M) (hK27 : ∀ (l4 : Int32) (l5 : Int32) (M : zMM) (q : zMM), K27 l4 l5 M = some q → zEV iX7_goGrid 0 0 (zZO (none, q)) 27 [(0, .inr (.inr 158)), (1, .inl a1), (2, .inl a2), (3, .inl a3), (4, .inl l4), (5, .inl l5)] [] M) : ∀ (n : Nat) (l4 : Int32) (l5 : Int32) (l6 : Int32) (M : zMM) (q : zMM), fX7_goGrid_38 K17 K27 a1 a2 a3 n l4 l5 l6 M = some q → zEV iX7_goGrid 0 0 (zZO (none, q)) 38 [(0, .inr (.inr 158)), (1, .inl a1), (2, .inl a2), (3, .inl a3), (4, .inl l4), (5, .inl l5), (6, .inl l6)] [] M := by
  intro n
  induction n with
  | zero =>
    intro l4 l5 l6 M q h
    rw [fX7_goGrid_38] at h
    cases h
  | succ n ih =>
    intro l4 l5 l6 M q h
    rw [fX7_goGrid_38] at h
    refine zEV.aload_n dX7_goGrid_38 rfl 0 rfl ?_
    refine zEV.iload dX7_goGrid_39 4 rfl ?_
    refine zEV.iload dX7_goGrid_41 5 rfl ?_
    refine zEV.iload dX7_goGrid_43 6 rfl ?_
    obtain ⟨q1, hq1, h⟩ := bind_yes h
    refine zEV.callVi (kX7_canBe (l4) (l5) (l6)  M q1 hq1) (by decide) rfl rfl wm_RX7_227 wc_X7_canBe hy_X7_canBe rfl ⟨Nat.le_of_ble_eq_true rfl, Nat.le_of_ble_eq_true rfl⟩ rfl (Nat.le_of_ble_eq_true rfl) dX7_goGrid_45 ?_
    refine zEV.if_eq 75 dX7_goGrid_48 (by decide) (fun c2 => ?_) (fun c2 => ?_)
    · rw [if_pos c2] at h
      refine zEV.iload dX7_goGrid_75 5 rfl ?_
      refine zEV.iload_n dX7_goGrid_77 rfl 2 rfl ?_
      refine zEV.iadd dX7_goGrid_78 ?_
      refine zEV.istore dX7_goGrid_79 (Nat.le_of_ble_eq_true rfl) rfl ?_
      refine zEV.goto 27 dX7_goGrid_81 (by decide) ?_
      exact zEV.perm [1, 2, 3, 4, 5, 0] rfl (hK27 (l4) ((l5 + a2)) q1.2 q h)
    · rw [if_neg c2] at h
      refine zEV.aload_n dX7_goGrid_51 rfl 0 rfl ?_
      refine zEV.iload dX7_goGrid_52 4 rfl ?_
      refine zEV.iload dX7_goGrid_54 5 rfl ?_
      refine zEV.iload dX7_goGrid_56 6 rfl ?_
      obtain ⟨q3, hq3, h⟩ := bind_yes h
      refine zEV.callVv (kX7_putPlan (l4) (l5) (l6)  q1.2 q3 hq3) (by decide) rfl rfl wm_RX7_233 wc_X7_putPlan hy_X7_putPlan rfl ⟨Nat.le_of_ble_eq_true rfl, Nat.le_of_ble_eq_true rfl⟩ rfl (Nat.le_of_ble_eq_true rfl) dX7_goGrid_58 ?_
      refine zEV.aload_n dX7_goGrid_61 rfl 0 rfl ?_
      refine zEV.iload_n dX7_goGrid_62 rfl 3 rfl ?_
      obtain ⟨q4, hq4, h⟩ := bind_yes h
      refine zEV.callVv (kX7_tryPlan (a3)  q3 q4 hq4) (by decide) rfl rfl wm_RX7_249 wc_X7_tryPlan hy_X7_tryPlan rfl ⟨Nat.le_of_ble_eq_true rfl, Nat.le_of_ble_eq_true rfl⟩ rfl (Nat.le_of_ble_eq_true rfl) dX7_goGrid_63 ?_
      refine zEV.iload dX7_goGrid_66 6 rfl ?_
      refine zEV.iload_n dX7_goGrid_68 rfl 2 rfl ?_
      refine zEV.iadd dX7_goGrid_69 ?_
      refine zEV.istore dX7_goGrid_70 (Nat.le_of_ble_eq_true rfl) rfl ?_
      refine zEV.goto 38 dX7_goGrid_72 (by decide) ?_
      exact zEV.perm [1, 2, 3, 4, 5, 6, 0] rfl (ih (l4) (l5) ((l6 + a2)) q4 q h)
def fX7_goGrid_27 (K17 : Int32 → zMM → Option (zMM)) (a1 : Int32) (a2 : Int32) (a3 : Int32) : Nat → Int32 → Int32 → zMM → Option (zMM)
  | 0, _, _, _ => none
  | n + 1, l4, l5, M =>
  if (40 : Int32) < l5 then
    K17 ((l4 + 1)) M
  else
    fX7_goGrid_38 K17 (fX7_goGrid_27 K17 a1 a2 a3 n) a1 a2 a3 zFU (l4) (l5) (9) M
set_option maxRecDepth 4000 in
theorem tX7_goGrid_27 (K17 : Int32 → zMM → Option (zMM)) (a1 : Int32) (a2 : Int32) (a3 : Int32) (hK17 : ∀ (l4 : Int32) (M : zMM) (q : zMM), K17 l4 M = some q → zEV iX7_goGrid 0 0 (zZO (none, q)) 17 [(0, .inr (.inr 158)), (1, .inl a1), (2, .inl a2), (3, .inl a3), (4, .inl l4)] [] M) : ∀ (n : Nat) (l4 : Int32) (l5 : Int32) (M : zMM) (q : zMM), fX7_goGrid_27 K17 a1 a2 a3 n l4 l5 M = some q → zEV iX7_goGrid 0 0 (zZO (none, q)) 27 [(0, .inr (.inr 158)), (1, .inl a1), (2, .inl a2), (3, .inl a3), (4, .inl l4), (5, .inl l5)] [] M := by
  intro n
  induction n with
  | zero =>
    intro l4 l5 M q h
    rw [fX7_goGrid_27] at h
    cases h
  | succ n ih =>
    intro l4 l5 M q h
    rw [fX7_goGrid_27] at h
    refine zEV.iload dX7_goGrid_27 5 rfl ?_
    refine zEV.bipush (v := 40) dX7_goGrid_29 rfl ?_
    refine zEV.icmp_gt 84 dX7_goGrid_31 (by decide) (fun c1 => ?_) (fun c1 => ?_)
    · rw [if_pos c1] at h
      refine zEV.iinc (v := (l4 + 1)) dX7_goGrid_84 4 rfl rfl (Nat.le_of_ble_eq_true rfl) rfl ?_
      refine zEV.goto 17 dX7_goGrid_87 (by decide) ?_
      exact zEV.perm [1, 2, 3, 4, 0] rfl (hK17 ((l4 + 1)) M q h)
    · rw [if_neg c1] at h
      refine zEV.bipush (v := 9) dX7_goGrid_34 rfl ?_
      refine zEV.istore dX7_goGrid_36 (Nat.le_of_ble_eq_true rfl) rfl ?_
      exact zEV.perm [1, 2, 3, 4, 5, 6, 0] rfl (tX7_goGrid_38 K17 (fX7_goGrid_27 K17 a1 a2 a3 n) a1 a2 a3 hK17 (fun l4 l5 M9 q9 h9 => ih l4 l5 M9 q9 h9) zFU (l4) (l5) (9) M q h)
def fX7_goGrid_17 (a1 : Int32) (a2 : Int32) (a3 : Int32) : Nat → Int32 → zMM → Option (zMM)
  | 0, _, _ => none
  | n + 1, l4, M =>
  if a1 < l4 then
    (fX7_comesBack  M).bind fun q2 =>
    some q2
  else
    fX7_goGrid_27 (fX7_goGrid_17 a1 a2 a3 n) a1 a2 a3 zFU (l4) (9) M
set_option maxRecDepth 4000 in
theorem tX7_goGrid_17 (a1 : Int32) (a2 : Int32) (a3 : Int32) : ∀ (n : Nat) (l4 : Int32) (M : zMM) (q : zMM), fX7_goGrid_17 a1 a2 a3 n l4 M = some q → zEV iX7_goGrid 0 0 (zZO (none, q)) 17 [(0, .inr (.inr 158)), (1, .inl a1), (2, .inl a2), (3, .inl a3), (4, .inl l4)] [] M := by
  intro n
  induction n with
  | zero =>
    intro l4 M q h
    rw [fX7_goGrid_17] at h
    cases h
  | succ n ih =>
    intro l4 M q h
    rw [fX7_goGrid_17] at h
    refine zEV.iload dX7_goGrid_17 4 rfl ?_
    refine zEV.iload_n dX7_goGrid_19 rfl 1 rfl ?_
    refine zEV.icmp_gt 90 dX7_goGrid_20 (by decide) (fun c1 => ?_) (fun c1 => ?_)
    · rw [if_pos c1] at h
      refine zEV.aload_n dX7_goGrid_90 rfl 0 rfl ?_
      obtain ⟨q2, hq2, h⟩ := bind_yes h
      refine zEV.callVv (kX7_comesBack   M q2 hq2) (by decide) rfl rfl wm_RX7_237 wc_X7_comesBack hy_X7_comesBack rfl ⟨Nat.le_of_ble_eq_true rfl, Nat.le_of_ble_eq_true rfl⟩ rfl (Nat.le_of_ble_eq_true rfl) dX7_goGrid_91 ?_
      cases h
      exact zEV.vret rfl dX7_goGrid_94
    · rw [if_neg c1] at h
      refine zEV.bipush (v := 9) dX7_goGrid_23 rfl ?_
      refine zEV.istore dX7_goGrid_25 (Nat.le_of_ble_eq_true rfl) rfl ?_
      exact zEV.perm [1, 2, 3, 4, 5, 0] rfl (tX7_goGrid_27 (fX7_goGrid_17 a1 a2 a3 n) a1 a2 a3 (fun l4 M9 q9 h9 => ih l4 M9 q9 h9) zFU (l4) (9) M q h)
def fX7_goGrid (a1 : Int32) (a2 : Int32) (a3 : Int32) (M : zMM) : Option (zMM) :=
  (fX7_layAside  M).bind fun q1 =>
  fX7_goGrid_17 a1 a2 a3 zFU (0) (wr (wr q1 158 19 0) 158 20 0)
set_option maxRecDepth 4000 in
theorem tX7_goGrid_0 (a1 : Int32) (a2 : Int32) (a3 : Int32) (M : zMM) (q : zMM) (h : fX7_goGrid a1 a2 a3  M = some q) : zEV iX7_goGrid 0 0 (zZO (none, q)) 0 [(0, .inr (.inr 158)), (1, .inl a1), (2, .inl a2), (3, .inl a3)] [] M := by
  unfold fX7_goGrid at h
  refine zEV.aload_n dX7_goGrid_0 rfl 0 rfl ?_
  obtain ⟨q1, hq1, h⟩ := bind_yes h
  refine zEV.callVv (kX7_layAside   M q1 hq1) (by decide) rfl rfl wm_RX7_230 wc_X7_layAside hy_X7_layAside rfl ⟨Nat.le_of_ble_eq_true rfl, Nat.le_of_ble_eq_true rfl⟩ rfl (Nat.le_of_ble_eq_true rfl) dX7_goGrid_1 ?_
  refine zEV.aload_n dX7_goGrid_4 rfl 0 rfl ?_
  refine zEV.iconst (v := 0) dX7_goGrid_5 rfl ?_
  refine zEV.pfi rfl inz7 tyX7 tyX7_ok nmX7 19 (by decide) wf_RX7_240 rfl (by decide +kernel) (by decide) rfl rfl dX7_goGrid_6 ?_
  refine zEV.aload_n dX7_goGrid_9 rfl 0 rfl ?_
  refine zEV.iconst (v := 0) dX7_goGrid_10 rfl ?_
  refine zEV.pfi rfl inz7 tyX7 tyX7_ok nmX7 20 (by decide) wf_RX7_246 rfl (by decide +kernel) (by decide) rfl rfl dX7_goGrid_11 ?_
  refine zEV.iconst (v := 0) dX7_goGrid_14 rfl ?_
  refine zEV.istore dX7_goGrid_15 (Nat.le_of_ble_eq_true rfl) rfl ?_
  exact zEV.perm [1, 2, 3, 4, 0] rfl (tX7_goGrid_17 a1 a2 a3 zFU (0) (wr (wr q1 158 19 0) 158 20 0) q h)
theorem kX7_goGrid (a1 : Int32) (a2 : Int32) (a3 : Int32) (M : zMM) (q : zMM) (h : fX7_goGrid a1 a2 a3 M = some q) : zCN yX7_goGrid iX7_goGrid [.inr (.inr 158), .inl a1, .inl a2, .inl a3] M (none, q) :=
  zCN.of (by decide) rfl rfl (Nat.le_of_ble_eq_true rfl) (zEV.perm [0, 1, 2, 3] rfl (tX7_goGrid_0 a1 a2 a3 M q h))
-- RingedPageModel.isGrid
def fX7_isGrid (a0 : Int32) (a1 : Int32) (M : zMM) : Option (Int32 × zMM) :=
  (fX7_in (a0) (0) (9) M).bind fun q1 =>
  if q1.1 = (0 : Int32) then
    some (0, q1.2)
  else
    (fX7_in (a1) (1) (9) q1.2).bind fun q3 =>
    if q3.1 = (0 : Int32) then
      some (0, q3.2)
    else
      some (1, q3.2)
set_option maxRecDepth 4000 in
theorem tX7_isGrid_0 (a0 : Int32) (a1 : Int32) (M : zMM) (q : Int32 × zMM) (h : fX7_isGrid a0 a1  M = some q) : zEV iX7_isGrid 0 0 (zZO (some (.inl q.1), q.2)) 0 [(0, .inl a0), (1, .inl a1)] [] M := by
  unfold fX7_isGrid at h
  refine zEV.iload_n dX7_isGrid_0 rfl 0 rfl ?_
  refine zEV.iconst (v := 0) dX7_isGrid_1 rfl ?_
  refine zEV.bipush (v := 9) dX7_isGrid_2 rfl ?_
  obtain ⟨q1, hq1, h⟩ := bind_yes h
  refine zEV.callSi (kX7_in (a0) (0) (9)  M q1 hq1) wm_RX7_65 wc_X7_in hy_X7_in rfl ⟨Nat.le_of_ble_eq_true rfl, Nat.le_of_ble_eq_true rfl⟩ rfl (Nat.le_of_ble_eq_true rfl) dX7_isGrid_4 ?_
  refine zEV.if_eq 24 dX7_isGrid_7 (by decide) (fun c2 => ?_) (fun c2 => ?_)
  · rw [if_pos c2] at h
    refine zEV.iconst (v := 0) dX7_isGrid_24 rfl ?_
    cases h
    exact zEV.zret rfl (Or.inl rfl) dX7_isGrid_25
  · rw [if_neg c2] at h
    refine zEV.iload_n dX7_isGrid_10 rfl 1 rfl ?_
    refine zEV.iconst (v := 1) dX7_isGrid_11 rfl ?_
    refine zEV.bipush (v := 9) dX7_isGrid_12 rfl ?_
    obtain ⟨q3, hq3, h⟩ := bind_yes h
    refine zEV.callSi (kX7_in (a1) (1) (9)  q1.2 q3 hq3) wm_RX7_65 wc_X7_in hy_X7_in rfl ⟨Nat.le_of_ble_eq_true rfl, Nat.le_of_ble_eq_true rfl⟩ rfl (Nat.le_of_ble_eq_true rfl) dX7_isGrid_14 ?_
    refine zEV.if_eq 24 dX7_isGrid_17 (by decide) (fun c4 => ?_) (fun c4 => ?_)
    · rw [if_pos c4] at h
      refine zEV.iconst (v := 0) dX7_isGrid_24 rfl ?_
      cases h
      exact zEV.zret rfl (Or.inl rfl) dX7_isGrid_25
    · rw [if_neg c4] at h
      refine zEV.iconst (v := 1) dX7_isGrid_20 rfl ?_
      refine zEV.goto 25 dX7_isGrid_21 (by decide) ?_
      cases h
      exact zEV.zret rfl (Or.inr rfl) dX7_isGrid_25
theorem kX7_isGrid (a0 : Int32) (a1 : Int32) (M : zMM) (q : Int32 × zMM) (h : fX7_isGrid a0 a1 M = some q) : zCN yX7_isGrid iX7_isGrid [.inl a0, .inl a1] M (some (.inl q.1), q.2) :=
  zCN.of (by decide) rfl rfl (Nat.le_of_ble_eq_true rfl) (zEV.perm [0, 1] rfl (tX7_isGrid_0 a0 a1 M q h))
-- RingedPageModel.best
def fX7_best_29 (a1 : Int32) (a2 : Int32) : Nat → Int32 → zMM → Option (Int32 × zMM)
  | 0, _, _ => none
  | n + 1, l3, M =>
  if (3 : Int32) ≤ l3 then
    (fX7_tell ((Int32.toInt64 (M.1 158 19))) M).bind fun q2 =>
    some ((q2.1 158 18), q2)
  else
    if oob (l3) 3 then none else
    (fX7_tell ((Int32.toInt64 (M.1 167 (Int32.toNatClampNeg l3)))) M).bind fun q4 =>
    fX7_best_29 a1 a2 n ((l3 + 1)) q4
set_option maxRecDepth 4000 in
theorem tX7_best_29 (a1 : Int32) (a2 : Int32) : ∀ (n : Nat) (l3 : Int32) (M : zMM) (q : Int32 × zMM), fX7_best_29 a1 a2 n l3 M = some q → zEV iX7_best 0 0 (zZO (some (.inl q.1), q.2)) 29 [(0, .inr (.inr 158)), (3, .inl l3)] [] M := by
  intro n
  induction n with
  | zero =>
    intro l3 M q h
    rw [fX7_best_29] at h
    cases h
  | succ n ih =>
    intro l3 M q h
    rw [fX7_best_29] at h
    refine zEV.iload_n dX7_best_29 rfl 1 rfl ?_
    refine zEV.iconst (v := 3) dX7_best_30 rfl ?_
    refine zEV.icmp_ge 51 dX7_best_31 (by decide) (fun c1 => ?_) (fun c1 => ?_)
    · rw [if_pos c1] at h
      refine zEV.aload_n dX7_best_51 rfl 0 rfl ?_
      refine zEV.aload_n dX7_best_52 rfl 0 rfl ?_
      refine zEV.gfi rfl inz7 19 (by decide) wf_RX7_240 (by decide) rfl rfl dX7_best_53 ?_
      refine zEV.i2l dX7_best_56 ?_
      obtain ⟨q2, hq2, h⟩ := bind_yes h
      refine zEV.callVv (kX7_tell ((Int32.toInt64 (M.1 158 19)))  M q2 hq2) (by decide) rfl rfl wm_RX7_135 wc_X7_tell hy_X7_tell rfl ⟨Nat.le_of_ble_eq_true rfl, Nat.le_of_ble_eq_true rfl⟩ rfl (Nat.le_of_ble_eq_true rfl) dX7_best_57 ?_
      refine zEV.aload_n dX7_best_60 rfl 0 rfl ?_
      refine zEV.gfi rfl inz7 18 (by decide) wf_RX7_243 (by decide) rfl rfl dX7_best_61 ?_
      cases h
      exact zEV.iret rfl dX7_best_64
    · rw [if_neg c1] at h
      refine zEV.aload_n dX7_best_34 rfl 0 rfl ?_
      refine zEV.aload_n dX7_best_35 rfl 0 rfl ?_
      refine zEV.gfr rfl inz7 16 (by decide) wf_RX7_36 (by decide) rfl rfl dX7_best_36 ?_
      refine zEV.iload_n dX7_best_39 rfl 1 rfl ?_
      obtain ⟨g3, h⟩ := ite_no h
      refine zEV.iald (by decide) rfl g3 dX7_best_40 ?_
      refine zEV.i2l dX7_best_41 ?_
      obtain ⟨q4, hq4, h⟩ := bind_yes h
      refine zEV.callVv (kX7_tell ((Int32.toInt64 (M.1 167 (Int32.toNatClampNeg l3))))  M q4 hq4) (by decide) rfl rfl wm_RX7_135 wc_X7_tell hy_X7_tell rfl ⟨Nat.le_of_ble_eq_true rfl, Nat.le_of_ble_eq_true rfl⟩ rfl (Nat.le_of_ble_eq_true rfl) dX7_best_42 ?_
      refine zEV.iinc (v := (l3 + 1)) dX7_best_45 1 rfl rfl (Nat.le_of_ble_eq_true rfl) rfl ?_
      refine zEV.goto 29 dX7_best_48 (by decide) ?_
      exact zEV.perm [1, 0] rfl (ih ((l3 + 1)) q4 q h)
def fX7_best (a1 : Int32) (a2 : Int32) (M : zMM) : Option (Int32 × zMM) :=
  (fX7_isGrid (a1) (a2) (wr M 158 5 0)).bind fun q1 =>
  if q1.1 = (0 : Int32) then
    some ((-1), q1.2)
  else
    (fX7_goGrid (a1) (a2) (0) q1.2).bind fun q3 =>
    fX7_best_29 a1 a2 zFU (0) (wr q3 158 4 0)
set_option maxRecDepth 4000 in
theorem tX7_best_0 (a1 : Int32) (a2 : Int32) (M : zMM) (q : Int32 × zMM) (h : fX7_best a1 a2  M = some q) : zEV iX7_best 0 0 (zZO (some (.inl q.1), q.2)) 0 [(0, .inr (.inr 158)), (1, .inl a1), (2, .inl a2)] [] M := by
  unfold fX7_best at h
  refine zEV.aload_n dX7_best_0 rfl 0 rfl ?_
  refine zEV.iconst (v := 0) dX7_best_1 rfl ?_
  refine zEV.pfi rfl inz7 tyX7 tyX7_ok nmX7 5 (by decide) wf_RX7_58 rfl (by decide +kernel) (by decide) rfl rfl dX7_best_2 ?_
  refine zEV.iload_n dX7_best_5 rfl 1 rfl ?_
  refine zEV.iload_n dX7_best_6 rfl 2 rfl ?_
  obtain ⟨q1, hq1, h⟩ := bind_yes h
  refine zEV.callSi (kX7_isGrid (a1) (a2)  (wr M 158 5 0) q1 hq1) wm_RX7_252 wc_X7_isGrid hy_X7_isGrid rfl ⟨Nat.le_of_ble_eq_true rfl, Nat.le_of_ble_eq_true rfl⟩ rfl (Nat.le_of_ble_eq_true rfl) dX7_best_7 ?_
  refine zEV.if_ne 15 dX7_best_10 (by decide) (fun c2 => ?_) (fun c2 => ?_)
  · rw [if_neg c2] at h
    refine zEV.aload_n dX7_best_15 rfl 0 rfl ?_
    refine zEV.iload_n dX7_best_16 rfl 1 rfl ?_
    refine zEV.iload_n dX7_best_17 rfl 2 rfl ?_
    refine zEV.iconst (v := 0) dX7_best_18 rfl ?_
    obtain ⟨q3, hq3, h⟩ := bind_yes h
    refine zEV.callVv (kX7_goGrid (a1) (a2) (0)  q1.2 q3 hq3) (by decide) rfl rfl wm_RX7_255 wc_X7_goGrid hy_X7_goGrid rfl ⟨Nat.le_of_ble_eq_true rfl, Nat.le_of_ble_eq_true rfl⟩ rfl (Nat.le_of_ble_eq_true rfl) dX7_best_19 ?_
    refine zEV.aload_n dX7_best_22 rfl 0 rfl ?_
    refine zEV.iconst (v := 0) dX7_best_23 rfl ?_
    refine zEV.pfi rfl inz7 tyX7 tyX7_ok nmX7 4 (by decide) wf_RX7_62 rfl (by decide +kernel) (by decide) rfl rfl dX7_best_24 ?_
    refine zEV.iconst (v := 0) dX7_best_27 rfl ?_
    refine zEV.istore_n dX7_best_28 rfl (Nat.le_of_ble_eq_true rfl) rfl ?_
    exact zEV.perm [1, 0] rfl (tX7_best_29 a1 a2 zFU (0) (wr q3 158 4 0) q h)
  · rw [if_pos c2] at h
    refine zEV.iconst (v := (-1)) dX7_best_13 rfl ?_
    cases h
    exact zEV.iret rfl dX7_best_14
theorem kX7_best (a1 : Int32) (a2 : Int32) (M : zMM) (q : Int32 × zMM) (h : fX7_best a1 a2 M = some q) : zCN yX7_best iX7_best [.inr (.inr 158), .inl a1, .inl a2] M (some (.inl q.1), q.2) :=
  zCN.of (by decide) rfl rfl (Nat.le_of_ble_eq_true rfl) (zEV.perm [0, 1, 2] rfl (tX7_best_0 a1 a2 M q h))
-- RingedPageModel.near
def fX7_near_40 (a1 : Int32) (a2 : Int32) (a3 : Int32) : Nat → Int32 → zMM → Option (Int32 × zMM)
  | 0, _, _ => none
  | n + 1, l4, M =>
  if (3 : Int32) ≤ l4 then
    some ((M.1 158 20), M)
  else
    if (M.1 158 20) ≤ (0 : Int32) then
      some ((M.1 158 20), M)
    else
      if oob (l4) 3 then none else
      (fX7_tell ((Int32.toInt64 (M.1 168 (Int32.toNatClampNeg l4)))) M).bind fun q4 =>
      fX7_near_40 a1 a2 a3 n ((l4 + 1)) q4
set_option maxRecDepth 4000 in
theorem tX7_near_40 (a1 : Int32) (a2 : Int32) (a3 : Int32) : ∀ (n : Nat) (l4 : Int32) (M : zMM) (q : Int32 × zMM), fX7_near_40 a1 a2 a3 n l4 M = some q → zEV iX7_near 0 0 (zZO (some (.inl q.1), q.2)) 40 [(0, .inr (.inr 158)), (4, .inl l4)] [] M := by
  intro n
  induction n with
  | zero =>
    intro l4 M q h
    rw [fX7_near_40] at h
    cases h
  | succ n ih =>
    intro l4 M q h
    rw [fX7_near_40] at h
    refine zEV.iload dX7_near_40 1 rfl ?_
    refine zEV.iconst (v := 3) dX7_near_42 rfl ?_
    refine zEV.icmp_ge 71 dX7_near_43 (by decide) (fun c1 => ?_) (fun c1 => ?_)
    · rw [if_pos c1] at h
      refine zEV.aload_n dX7_near_71 rfl 0 rfl ?_
      refine zEV.gfi rfl inz7 20 (by decide) wf_RX7_246 (by decide) rfl rfl dX7_near_72 ?_
      cases h
      exact zEV.iret rfl dX7_near_75
    · rw [if_neg c1] at h
      refine zEV.aload_n dX7_near_46 rfl 0 rfl ?_
      refine zEV.gfi rfl inz7 20 (by decide) wf_RX7_246 (by decide) rfl rfl dX7_near_47 ?_
      refine zEV.if_le 71 dX7_near_50 (by decide) (fun c2 => ?_) (fun c2 => ?_)
      · rw [if_pos c2] at h
        refine zEV.aload_n dX7_near_71 rfl 0 rfl ?_
        refine zEV.gfi rfl inz7 20 (by decide) wf_RX7_246 (by decide) rfl rfl dX7_near_72 ?_
        cases h
        exact zEV.iret rfl dX7_near_75
      · rw [if_neg c2] at h
        refine zEV.aload_n dX7_near_53 rfl 0 rfl ?_
        refine zEV.aload_n dX7_near_54 rfl 0 rfl ?_
        refine zEV.gfr rfl inz7 17 (by decide) wf_RX7_39 (by decide) rfl rfl dX7_near_55 ?_
        refine zEV.iload dX7_near_58 1 rfl ?_
        obtain ⟨g3, h⟩ := ite_no h
        refine zEV.iald (by decide) rfl g3 dX7_near_60 ?_
        refine zEV.i2l dX7_near_61 ?_
        obtain ⟨q4, hq4, h⟩ := bind_yes h
        refine zEV.callVv (kX7_tell ((Int32.toInt64 (M.1 168 (Int32.toNatClampNeg l4))))  M q4 hq4) (by decide) rfl rfl wm_RX7_135 wc_X7_tell hy_X7_tell rfl ⟨Nat.le_of_ble_eq_true rfl, Nat.le_of_ble_eq_true rfl⟩ rfl (Nat.le_of_ble_eq_true rfl) dX7_near_62 ?_
        refine zEV.iinc (v := (l4 + 1)) dX7_near_65 1 rfl rfl (Nat.le_of_ble_eq_true rfl) rfl ?_
        refine zEV.goto 40 dX7_near_68 (by decide) ?_
        exact zEV.perm [1, 0] rfl (ih ((l4 + 1)) q4 q h)
def fX7_near (a1 : Int32) (a2 : Int32) (a3 : Int32) (M : zMM) : Option (Int32 × zMM) :=
  (fX7_isGrid (a1) (a2) (wr M 158 5 0)).bind fun q1 =>
  if q1.1 = (0 : Int32) then
    some ((-1), q1.2)
  else
    (fX7_in (a3) (0) (99) q1.2).bind fun q3 =>
    if q3.1 = (0 : Int32) then
      some ((-1), q3.2)
    else
      (fX7_goGrid (a1) (a2) (a3) q3.2).bind fun q5 =>
      fX7_near_40 a1 a2 a3 zFU (0) (wr q5 158 4 0)
set_option maxRecDepth 4000 in
theorem tX7_near_0 (a1 : Int32) (a2 : Int32) (a3 : Int32) (M : zMM) (q : Int32 × zMM) (h : fX7_near a1 a2 a3  M = some q) : zEV iX7_near 0 0 (zZO (some (.inl q.1), q.2)) 0 [(0, .inr (.inr 158)), (1, .inl a1), (2, .inl a2), (3, .inl a3)] [] M := by
  unfold fX7_near at h
  refine zEV.aload_n dX7_near_0 rfl 0 rfl ?_
  refine zEV.iconst (v := 0) dX7_near_1 rfl ?_
  refine zEV.pfi rfl inz7 tyX7 tyX7_ok nmX7 5 (by decide) wf_RX7_58 rfl (by decide +kernel) (by decide) rfl rfl dX7_near_2 ?_
  refine zEV.iload_n dX7_near_5 rfl 1 rfl ?_
  refine zEV.iload_n dX7_near_6 rfl 2 rfl ?_
  obtain ⟨q1, hq1, h⟩ := bind_yes h
  refine zEV.callSi (kX7_isGrid (a1) (a2)  (wr M 158 5 0) q1 hq1) wm_RX7_252 wc_X7_isGrid hy_X7_isGrid rfl ⟨Nat.le_of_ble_eq_true rfl, Nat.le_of_ble_eq_true rfl⟩ rfl (Nat.le_of_ble_eq_true rfl) dX7_near_7 ?_
  refine zEV.if_eq 23 dX7_near_10 (by decide) (fun c2 => ?_) (fun c2 => ?_)
  · rw [if_pos c2] at h
    refine zEV.iconst (v := (-1)) dX7_near_23 rfl ?_
    cases h
    exact zEV.iret rfl dX7_near_24
  · rw [if_neg c2] at h
    refine zEV.iload_n dX7_near_13 rfl 3 rfl ?_
    refine zEV.iconst (v := 0) dX7_near_14 rfl ?_
    refine zEV.bipush (v := 99) dX7_near_15 rfl ?_
    obtain ⟨q3, hq3, h⟩ := bind_yes h
    refine zEV.callSi (kX7_in (a3) (0) (99)  q1.2 q3 hq3) wm_RX7_65 wc_X7_in hy_X7_in rfl ⟨Nat.le_of_ble_eq_true rfl, Nat.le_of_ble_eq_true rfl⟩ rfl (Nat.le_of_ble_eq_true rfl) dX7_near_17 ?_
    refine zEV.if_ne 25 dX7_near_20 (by decide) (fun c4 => ?_) (fun c4 => ?_)
    · rw [if_neg c4] at h
      refine zEV.aload_n dX7_near_25 rfl 0 rfl ?_
      refine zEV.iload_n dX7_near_26 rfl 1 rfl ?_
      refine zEV.iload_n dX7_near_27 rfl 2 rfl ?_
      refine zEV.iload_n dX7_near_28 rfl 3 rfl ?_
      obtain ⟨q5, hq5, h⟩ := bind_yes h
      refine zEV.callVv (kX7_goGrid (a1) (a2) (a3)  q3.2 q5 hq5) (by decide) rfl rfl wm_RX7_255 wc_X7_goGrid hy_X7_goGrid rfl ⟨Nat.le_of_ble_eq_true rfl, Nat.le_of_ble_eq_true rfl⟩ rfl (Nat.le_of_ble_eq_true rfl) dX7_near_29 ?_
      refine zEV.aload_n dX7_near_32 rfl 0 rfl ?_
      refine zEV.iconst (v := 0) dX7_near_33 rfl ?_
      refine zEV.pfi rfl inz7 tyX7 tyX7_ok nmX7 4 (by decide) wf_RX7_62 rfl (by decide +kernel) (by decide) rfl rfl dX7_near_34 ?_
      refine zEV.iconst (v := 0) dX7_near_37 rfl ?_
      refine zEV.istore dX7_near_38 (Nat.le_of_ble_eq_true rfl) rfl ?_
      exact zEV.perm [1, 0] rfl (tX7_near_40 a1 a2 a3 zFU (0) (wr q5 158 4 0) q h)
    · rw [if_pos c4] at h
      refine zEV.iconst (v := (-1)) dX7_near_23 rfl ?_
      cases h
      exact zEV.iret rfl dX7_near_24
theorem kX7_near (a1 : Int32) (a2 : Int32) (a3 : Int32) (M : zMM) (q : Int32 × zMM) (h : fX7_near a1 a2 a3 M = some q) : zCN yX7_near iX7_near [.inr (.inr 158), .inl a1, .inl a2, .inl a3] M (some (.inl q.1), q.2) :=
  zCN.of (by decide) rfl rfl (Nat.le_of_ble_eq_true rfl) (zEV.perm [0, 1, 2, 3] rfl (tX7_near_0 a1 a2 a3 M q h))
