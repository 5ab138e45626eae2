-- RingedPageModel.line
def fX7_line_176 (K60 : Int32 → Int32 → zMM → Option (Int32 × zMM)) (a1 : Int32) (a2 : Int32) (l3 : Int32) (l4 : Int32) (M : zMM) : Option (Int32 × zMM) :=
  K60 (l3) ((l4 + 1)) M
set_option maxRecDepth 4000 in
theorem tX7_line_176 (K60 : Int32 → Int32 → zMM → Option (Int32 × zMM)) (a1 : Int32) (a2 : Int32) (hK60 : ∀ (l3 : Int32) (l4 : Int32) (M : zMM) (q : Int32 × zMM), K60 l3 l4 M = some q → zEV iX7_line 0 0 (zZO (some (.inl q.1), q.2)) 60 [(0, .inr (.inr 158)), (1, .inl a1), (2, .inl a2), (3, .inl l3), (4, .inl l4)] [] M) (l3 : Int32) (l4 : Int32) (M : zMM) (q : Int32 × zMM) (h : fX7_line_176 K60 a1 a2 l3 l4 M = some q) : zEV iX7_line 0 0 (zZO (some (.inl q.1), q.2)) 176 [(0, .inr (.inr 158)), (1, .inl a1), (2, .inl a2), (3, .inl l3), (4, .inl l4)] [] M := by
  unfold fX7_line_176 at h
  refine zEV.iinc (v := (l4 + 1)) dX7_line_176 4 rfl rfl (Nat.le_of_ble_eq_true rfl) rfl ?_
  refine zEV.goto 60 dX7_line_179 (by decide) ?_
  exact zEV.perm [1, 2, 3, 4, 0] rfl (hK60 (l3) ((l4 + 1)) M q h)
def fX7_line_137 (K60 : Int32 → Int32 → zMM → Option (Int32 × zMM)) (K79 : Int32 → Int32 → Int32 → Int32 → zMM → Option (Int32 × zMM)) (a1 : Int32) (a2 : Int32) : Nat → Int32 → Int32 → Int32 → Int32 → Int32 → Int32 → Int32 → zMM → Option (Int32 × zMM)
  | 0, _, _, _, _, _, _, _, _ => none
  | n + 1, l3, l4, l5, l6, l7, l8, l9, M =>
  if (l7 + l8) ≤ l9 then
    K79 ((l3 + l8)) (l4) (l5) ((l6 + 1)) M
  else
    if oob (l9) 80 then none else
    fX7_line_137 K60 K79 a1 a2 n (l3) (l4) (l5) (l6) (l7) (l8) ((l9 + 1)) (wrL M 161 (Int32.toNatClampNeg l9) (Int32.toInt64 (l4 + 1)))
set_option maxRecDepth 4000 in
theorem tX7_line_137 (K60 : Int32 → Int32 → zMM → Option (Int32 × zMM)) (K79 : Int32 → Int32 → Int32 → Int32 → zMM → Option (Int32 × zMM)) (a1 : Int32) (a2 : Int32) (hK60 : ∀ (l3 : Int32) (l4 : Int32) (M : zMM) (q : Int32 × zMM), K60 l3 l4 M = some q → zEV iX7_line 0 0 (zZO (some (.inl q.1), q.2)) 60 [(0, .inr (.inr 158)), (1, .inl a1), (2, .inl a2), (3, .inl l3), (4, .inl l4)] [] M) (hK79 : ∀ (l3 : Int32) (l4 : Int32) (l5 : Int32) (l6 : Int32) (M : zMM) (q : Int32 × zMM), K79 l3 l4 l5 l6 M = some q → zEV iX7_line 0 0 (zZO (some (.inl q.1), q.2)) 79 [(0, .inr (.inr 158)), (1, .inl a1), (2, .inl a2), (3, .inl l3), (4, .inl l4), (5, .inl l5), (6, .inl l6)] [] M) : ∀ (n : Nat) (l3 : Int32) (l4 : Int32) (l5 : Int32) (l6 : Int32) (l7 : Int32) (l8 : Int32) (l9 : Int32) (M : zMM) (q : Int32 × zMM), fX7_line_137 K60 K79 a1 a2 n l3 l4 l5 l6 l7 l8 l9 M = some q → zEV iX7_line 0 0 (zZO (some (.inl q.1), q.2)) 137 [(0, .inr (.inr 158)), (1, .inl a1), (2, .inl a2), (3, .inl l3), (4, .inl l4), (5, .inl l5), (6, .inl l6), (7, .inl l7), (8, .inl l8), (9, .inl l9)] [] M := by
  intro n
  induction n with
  | zero =>
    intro l3 l4 l5 l6 l7 l8 l9 M q h
    rw [fX7_line_137] at h
    cases h
  | succ n ih =>
    intro l3 l4 l5 l6 l7 l8 l9 M q h
    rw [fX7_line_137] at h
    refine zEV.iload dX7_line_137 9 rfl ?_
    refine zEV.iload dX7_line_139 7 rfl ?_
    refine zEV.iload dX7_line_141 8 rfl ?_
    refine zEV.iadd dX7_line_143 ?_
    refine zEV.icmp_ge 165 dX7_line_144 (by decide) (fun c1 => ?_) (fun c1 => ?_)
    · rw [if_pos c1] at h
      refine zEV.iload_n dX7_line_165 rfl 3 rfl ?_
      refine zEV.iload dX7_line_166 8 rfl ?_
      refine zEV.iadd dX7_line_168 ?_
      refine zEV.istore_n dX7_line_169 rfl (Nat.le_of_ble_eq_true rfl) rfl ?_
      refine zEV.iinc (v := (l6 + 1)) dX7_line_170 6 rfl rfl (Nat.le_of_ble_eq_true rfl) rfl ?_
      refine zEV.goto 79 dX7_line_173 (by decide) ?_
      exact zEV.perm [2, 3, 4, 1, 5, 6, 0] rfl (hK79 ((l3 + l8)) (l4) (l5) ((l6 + 1)) M q h)
    · rw [if_neg c1] at h
      refine zEV.aload_n dX7_line_147 rfl 0 rfl ?_
      refine zEV.gfr rfl inz7 3 (by decide) wf_RX7_17 (by decide) rfl rfl dX7_line_148 ?_
      refine zEV.iload dX7_line_151 9 rfl ?_
      refine zEV.iload dX7_line_153 4 rfl ?_
      refine zEV.iconst (v := 1) dX7_line_155 rfl ?_
      refine zEV.iadd dX7_line_156 ?_
      refine zEV.i2l dX7_line_157 ?_
      obtain ⟨g2, h⟩ := ite_no h
      refine zEV.last (by decide) rfl g2 dX7_line_158 ?_
      refine zEV.iinc (v := (l9 + 1)) dX7_line_159 9 rfl rfl (Nat.le_of_ble_eq_true rfl) rfl ?_
      refine zEV.goto 137 dX7_line_162 (by decide) ?_
      exact zEV.perm [1, 2, 3, 4, 5, 6, 7, 8, 9, 0] rfl (ih (l3) (l4) (l5) (l6) (l7) (l8) ((l9 + 1)) (wrL M 161 (Int32.toNatClampNeg l9) (Int32.toInt64 (l4 + 1))) q h)
def fX7_line_79 (K60 : Int32 → Int32 → zMM → Option (Int32 × zMM)) (a1 : Int32) (a2 : Int32) : Nat → Int32 → Int32 → Int32 → Int32 → zMM → Option (Int32 × zMM)
  | 0, _, _, _, _, _ => none
  | n + 1, l3, l4, l5, l6, M =>
  if l5 = (-1) then
    fX7_line_176 K60 a1 a2 (l3) (l4) M
  else
    (fX7_told (l5) (4) M).bind fun q2 =>
    if q2.1 ≤ l6 then
      fX7_line_176 K60 a1 a2 (l3) (l4) q2.2
    else
      (fX7_told (l5) (3) q2.2).bind fun q4 =>
      (fX7_columnOf (l4) ((q4.1 + l6)) q4.2).bind fun q5 =>
      (fX7_told (l5) (3) q5.2).bind fun q6 =>
      (fX7_size (l4) ((q6.1 + l6)) q6.2).bind fun q7 =>
      fX7_line_137 K60 (fX7_line_79 K60 a1 a2 n) a1 a2 zFU (l3) (l4) (l5) (l6) (q5.1) (q7.1) (q5.1) q7.2
set_option maxRecDepth 4000 in
theorem tX7_line_79 (K60 : Int32 → Int32 → zMM → Option (Int32 × zMM)) (a1 : Int32) (a2 : Int32) (hK60 : ∀ (l3 : Int32) (l4 : Int32) (M : zMM) (q : Int32 × zMM), K60 l3 l4 M = some q → zEV iX7_line 0 0 (zZO (some (.inl q.1), q.2)) 60 [(0, .inr (.inr 158)), (1, .inl a1), (2, .inl a2), (3, .inl l3), (4, .inl l4)] [] M) : ∀ (n : Nat) (l3 : Int32) (l4 : Int32) (l5 : Int32) (l6 : Int32) (M : zMM) (q : Int32 × zMM), fX7_line_79 K60 a1 a2 n l3 l4 l5 l6 M = some q → zEV iX7_line 0 0 (zZO (some (.inl q.1), q.2)) 79 [(0, .inr (.inr 158)), (1, .inl a1), (2, .inl a2), (3, .inl l3), (4, .inl l4), (5, .inl l5), (6, .inl l6)] [] M := by
  intro n
  induction n with
  | zero =>
    intro l3 l4 l5 l6 M q h
    rw [fX7_line_79] at h
    cases h
  | succ n ih =>
    intro l3 l4 l5 l6 M q h
    rw [fX7_line_79] at h
    refine zEV.iload dX7_line_79 5 rfl ?_
    refine zEV.iconst (v := (-1)) dX7_line_81 rfl ?_
    refine zEV.icmp_eq 176 dX7_line_82 (by decide) (fun c1 => ?_) (fun c1 => ?_)
    · rw [if_pos c1] at h
      exact zEV.perm [0, 1, 2, 3, 4] rfl (tX7_line_176 K60 a1 a2 hK60 (l3) (l4) M q h)
    · rw [if_neg c1] at h
      refine zEV.iload dX7_line_85 6 rfl ?_
      refine zEV.aload_n dX7_line_87 rfl 0 rfl ?_
      refine zEV.iload dX7_line_88 5 rfl ?_
      refine zEV.iconst (v := 4) dX7_line_90 rfl ?_
      obtain ⟨q2, hq2, h⟩ := bind_yes h
      refine zEV.callVi (kX7_told (l5) (4)  M q2 hq2) (by decide) rfl rfl wm_RX7_167 wc_X7_told hy_X7_told rfl ⟨Nat.le_of_ble_eq_true rfl, Nat.le_of_ble_eq_true rfl⟩ rfl (Nat.le_of_ble_eq_true rfl) dX7_line_91 ?_
      refine zEV.icmp_ge 176 dX7_line_94 (by decide) (fun c3 => ?_) (fun c3 => ?_)
      · rw [if_pos c3] at h
        exact zEV.perm [0, 1, 2, 3, 4] rfl (tX7_line_176 K60 a1 a2 hK60 (l3) (l4) q2.2 q h)
      · rw [if_neg c3] at h
        refine zEV.aload_n dX7_line_97 rfl 0 rfl ?_
        refine zEV.iload dX7_line_98 4 rfl ?_
        refine zEV.aload_n dX7_line_100 rfl 0 rfl ?_
        refine zEV.iload dX7_line_101 5 rfl ?_
        refine zEV.iconst (v := 3) dX7_line_103 rfl ?_
        obtain ⟨q4, hq4, h⟩ := bind_yes h
        refine zEV.callVi (kX7_told (l5) (3)  q2.2 q4 hq4) (by decide) rfl rfl wm_RX7_167 wc_X7_told hy_X7_told rfl ⟨Nat.le_of_ble_eq_true rfl, Nat.le_of_ble_eq_true rfl⟩ rfl (Nat.le_of_ble_eq_true rfl) dX7_line_104 ?_
        refine zEV.iload dX7_line_107 6 rfl ?_
        refine zEV.iadd dX7_line_109 ?_
        obtain ⟨q5, hq5, h⟩ := bind_yes h
        refine zEV.callVi (kX7_columnOf (l4) ((q4.1 + l6))  q4.2 q5 hq5) (by decide) rfl rfl wm_RX7_183 wc_X7_columnOf hy_X7_columnOf rfl ⟨Nat.le_of_ble_eq_true rfl, Nat.le_of_ble_eq_true rfl⟩ rfl (Nat.le_of_ble_eq_true rfl) dX7_line_110 ?_
        refine zEV.istore dX7_line_113 (Nat.le_of_ble_eq_true rfl) rfl ?_
        refine zEV.aload_n dX7_line_115 rfl 1 rfl ?_
        refine zEV.iload dX7_line_116 5 rfl ?_
        refine zEV.aload_n dX7_line_118 rfl 1 rfl ?_
        refine zEV.iload dX7_line_119 6 rfl ?_
        refine zEV.iconst (v := 3) dX7_line_121 rfl ?_
        obtain ⟨q6, hq6, h⟩ := bind_yes h
        refine zEV.callVi (kX7_told (l5) (3)  q5.2 q6 hq6) (by decide) rfl rfl wm_RX7_167 wc_X7_told hy_X7_told rfl ⟨Nat.le_of_ble_eq_true rfl, Nat.le_of_ble_eq_true rfl⟩ rfl (Nat.le_of_ble_eq_true rfl) dX7_line_122 ?_
        refine zEV.iload dX7_line_125 7 rfl ?_
        refine zEV.iadd dX7_line_127 ?_
        obtain ⟨q7, hq7, h⟩ := bind_yes h
        refine zEV.callVi (kX7_size (l4) ((q6.1 + l6))  q6.2 q7 hq7) (by decide) rfl rfl wm_RX7_147 wc_X7_size hy_X7_size rfl ⟨Nat.le_of_ble_eq_true rfl, Nat.le_of_ble_eq_true rfl⟩ rfl (Nat.le_of_ble_eq_true rfl) dX7_line_128 ?_
        refine zEV.istore dX7_line_131 (Nat.le_of_ble_eq_true rfl) rfl ?_
        refine zEV.iload dX7_line_133 1 rfl ?_
        refine zEV.istore dX7_line_135 (Nat.le_of_ble_eq_true rfl) rfl ?_
        exact zEV.perm [3, 4, 5, 6, 7, 8, 9, 2, 1, 0] rfl (tX7_line_137 K60 (fX7_line_79 K60 a1 a2 n) a1 a2 hK60 (fun l3 l4 l5 l6 M9 q9 h9 => ih l3 l4 l5 l6 M9 q9 h9) zFU (l3) (l4) (l5) (l6) (q5.1) (q7.1) (q5.1) q7.2 q h)
def fX7_line_60 (a1 : Int32) (a2 : Int32) : Nat → Int32 → Int32 → zMM → Option (Int32 × zMM)
  | 0, _, _, _ => none
  | n + 1, l3, l4, M =>
  if (3 : Int32) ≤ l4 then
    some (l3, M)
  else
    (fX7_partAt (a1) (a2) (l4) M).bind fun q2 =>
    fX7_line_79 (fX7_line_60 a1 a2 n) a1 a2 zFU (l3) (l4) (q2.1) (0) q2.2
set_option maxRecDepth 4000 in
theorem tX7_line_60 (a1 : Int32) (a2 : Int32) : ∀ (n : Nat) (l3 : Int32) (l4 : Int32) (M : zMM) (q : Int32 × zMM), fX7_line_60 a1 a2 n l3 l4 M = some q → zEV iX7_line 0 0 (zZO (some (.inl q.1), q.2)) 60 [(0, .inr (.inr 158)), (1, .inl a1), (2, .inl a2), (3, .inl l3), (4, .inl l4)] [] M := by
  intro n
  induction n with
  | zero =>
    intro l3 l4 M q h
    rw [fX7_line_60] at h
    cases h
  | succ n ih =>
    intro l3 l4 M q h
    rw [fX7_line_60] at h
    refine zEV.iload dX7_line_60 4 rfl ?_
    refine zEV.iconst (v := 3) dX7_line_62 rfl ?_
    refine zEV.icmp_ge 182 dX7_line_63 (by decide) (fun c1 => ?_) (fun c1 => ?_)
    · rw [if_pos c1] at h
      refine zEV.iload_n dX7_line_182 rfl 3 rfl ?_
      cases h
      exact zEV.iret rfl dX7_line_183
    · rw [if_neg c1] at h
      refine zEV.aload_n dX7_line_66 rfl 0 rfl ?_
      refine zEV.iload_n dX7_line_67 rfl 1 rfl ?_
      refine zEV.iload_n dX7_line_68 rfl 2 rfl ?_
      refine zEV.iload dX7_line_69 4 rfl ?_
      obtain ⟨q2, hq2, h⟩ := bind_yes h
      refine zEV.callVi (kX7_partAt (a1) (a2) (l4)  M q2 hq2) (by decide) rfl rfl wm_RX7_173 wc_X7_partAt hy_X7_partAt rfl ⟨Nat.le_of_ble_eq_true rfl, Nat.le_of_ble_eq_true rfl⟩ rfl (Nat.le_of_ble_eq_true rfl) dX7_line_71 ?_
      refine zEV.istore dX7_line_74 (Nat.le_of_ble_eq_true rfl) rfl ?_
      refine zEV.iconst (v := 0) dX7_line_76 rfl ?_
      refine zEV.istore dX7_line_77 (Nat.le_of_ble_eq_true rfl) rfl ?_
      exact zEV.perm [2, 3, 4, 5, 6, 1, 0] rfl (tX7_line_79 (fX7_line_60 a1 a2 n) a1 a2 (fun l3 l4 M9 q9 h9 => ih l3 l4 M9 q9 h9) zFU (l3) (l4) (q2.1) (0) q2.2 q h)
def fX7_line_32 (a1 : Int32) (a2 : Int32) : Nat → Int32 → zMM → Option (Int32 × zMM)
  | 0, _, _ => none
  | n + 1, l3, M =>
  if oob (0) 259 then none else
  if (M.1 159 (Int32.toNatClampNeg 0)) ≤ l3 then
    fX7_line_60 a1 a2 zFU (0) (0) M
  else
    if oob (l3) 80 then none else
    fX7_line_32 a1 a2 n ((l3 + 1)) (wrL M 161 (Int32.toNatClampNeg l3) (0 : Int64))
set_option maxRecDepth 4000 in
theorem tX7_line_32 (a1 : Int32) (a2 : Int32) : ∀ (n : Nat) (l3 : Int32) (M : zMM) (q : Int32 × zMM), fX7_line_32 a1 a2 n l3 M = some q → zEV iX7_line 0 0 (zZO (some (.inl q.1), q.2)) 32 [(0, .inr (.inr 158)), (1, .inl a1), (2, .inl a2), (3, .inl l3)] [] M := by
  intro n
  induction n with
  | zero =>
    intro l3 M q h
    rw [fX7_line_32] at h
    cases h
  | succ n ih =>
    intro l3 M q h
    rw [fX7_line_32] at h
    refine zEV.iload_n dX7_line_32 rfl 3 rfl ?_
    refine zEV.aload_n dX7_line_33 rfl 0 rfl ?_
    refine zEV.gfr rfl inz7 0 (by decide) wf_RX7_9 (by decide) rfl rfl dX7_line_34 ?_
    refine zEV.iconst (v := 0) dX7_line_37 rfl ?_
    obtain ⟨g1, h⟩ := ite_no h
    refine zEV.iald (by decide) rfl g1 dX7_line_38 ?_
    refine zEV.icmp_ge 55 dX7_line_39 (by decide) (fun c2 => ?_) (fun c2 => ?_)
    · rw [if_pos c2] at h
      refine zEV.iconst (v := 0) dX7_line_55 rfl ?_
      refine zEV.istore_n dX7_line_56 rfl (Nat.le_of_ble_eq_true rfl) rfl ?_
      refine zEV.iconst (v := 0) dX7_line_57 rfl ?_
      refine zEV.istore dX7_line_58 (Nat.le_of_ble_eq_true rfl) rfl ?_
      exact zEV.perm [2, 3, 4, 1, 0] rfl (tX7_line_60 a1 a2 zFU (0) (0) M q h)
    · rw [if_neg c2] at h
      refine zEV.aload_n dX7_line_42 rfl 0 rfl ?_
      refine zEV.gfr rfl inz7 3 (by decide) wf_RX7_17 (by decide) rfl rfl dX7_line_43 ?_
      refine zEV.iload_n dX7_line_46 rfl 3 rfl ?_
      refine zEV.lconst (v := 0) dX7_line_47 rfl ?_
      obtain ⟨g3, h⟩ := ite_no h
      refine zEV.last (by decide) rfl g3 dX7_line_48 ?_
      refine zEV.iinc (v := (l3 + 1)) dX7_line_49 3 rfl rfl (Nat.le_of_ble_eq_true rfl) rfl ?_
      refine zEV.goto 32 dX7_line_52 (by decide) ?_
      exact zEV.perm [1, 2, 3, 0] rfl (ih ((l3 + 1)) (wrL M 161 (Int32.toNatClampNeg l3) (0 : Int64)) q h)
def fX7_line (a1 : Int32) (a2 : Int32) (M : zMM) : Option (Int32 × zMM) :=
  (fX7_set  (wr M 158 5 0)).bind fun q1 =>
  (fX7_isLine (a1) (a2) q1).bind fun q2 =>
  if q2.1 = (0 : Int32) then
    some ((-1), q2.2)
  else
    if oob (0) 259 then none else
    fX7_line_32 a1 a2 zFU (0) (wr q2.2 158 4 (q2.2.1 159 (Int32.toNatClampNeg 0)))
set_option maxRecDepth 4000 in
theorem tX7_line_0 (a1 : Int32) (a2 : Int32) (M : zMM) (q : Int32 × zMM) (h : fX7_line a1 a2  M = some q) : zEV iX7_line 0 0 (zZO (some (.inl q.1), q.2)) 0 [(0, .inr (.inr 158)), (1, .inl a1), (2, .inl a2)] [] M := by
  unfold fX7_line at h
  refine zEV.aload_n dX7_line_0 rfl 0 rfl ?_
  refine zEV.iconst (v := 0) dX7_line_1 rfl ?_
  refine zEV.pfi rfl inz7 tyX7 tyX7_ok nmX7 5 (by decide) wf_RX7_58 rfl (by decide +kernel) (by decide) rfl rfl dX7_line_2 ?_
  refine zEV.aload_n dX7_line_5 rfl 0 rfl ?_
  obtain ⟨q1, hq1, h⟩ := bind_yes h
  refine zEV.callVv (kX7_set   (wr M 158 5 0) q1 hq1) (by decide) rfl rfl wm_RX7_164 wc_X7_set hy_X7_set rfl ⟨Nat.le_of_ble_eq_true rfl, Nat.le_of_ble_eq_true rfl⟩ rfl (Nat.le_of_ble_eq_true rfl) dX7_line_6 ?_
  refine zEV.aload_n dX7_line_9 rfl 0 rfl ?_
  refine zEV.iload_n dX7_line_10 rfl 1 rfl ?_
  refine zEV.iload_n dX7_line_11 rfl 2 rfl ?_
  obtain ⟨q2, hq2, h⟩ := bind_yes h
  refine zEV.callVi (kX7_isLine (a1) (a2)  q1 q2 hq2) (by decide) rfl rfl wm_RX7_170 wc_X7_isLine hy_X7_isLine rfl ⟨Nat.le_of_ble_eq_true rfl, Nat.le_of_ble_eq_true rfl⟩ rfl (Nat.le_of_ble_eq_true rfl) dX7_line_12 ?_
  refine zEV.if_ne 20 dX7_line_15 (by decide) (fun c3 => ?_) (fun c3 => ?_)
  · rw [if_neg c3] at h
    refine zEV.aload_n dX7_line_20 rfl 0 rfl ?_
    refine zEV.aload_n dX7_line_21 rfl 0 rfl ?_
    refine zEV.gfr rfl inz7 0 (by decide) wf_RX7_9 (by decide) rfl rfl dX7_line_22 ?_
    refine zEV.iconst (v := 0) dX7_line_25 rfl ?_
    obtain ⟨g4, h⟩ := ite_no h
    refine zEV.iald (by decide) rfl g4 dX7_line_26 ?_
    refine zEV.pfi rfl inz7 tyX7 tyX7_ok nmX7 4 (by decide) wf_RX7_62 rfl (by decide +kernel) (by decide) rfl rfl dX7_line_27 ?_
    refine zEV.iconst (v := 0) dX7_line_30 rfl ?_
    refine zEV.istore_n dX7_line_31 rfl (Nat.le_of_ble_eq_true rfl) rfl ?_
    exact zEV.perm [1, 2, 3, 0] rfl (tX7_line_32 a1 a2 zFU (0) (wr q2.2 158 4 (q2.2.1 159 (Int32.toNatClampNeg 0))) q h)
  · rw [if_pos c3] at h
    refine zEV.iconst (v := (-1)) dX7_line_18 rfl ?_
    cases h
    exact zEV.iret rfl dX7_line_19
theorem kX7_line (a1 : Int32) (a2 : Int32) (M : zMM) (q : Int32 × zMM) (h : fX7_line a1 a2 M = some q) : zCN yX7_line iX7_line [.inr (.inr 158), .inl a1, .inl a2] M (some (.inl q.1), q.2) :=
  zCN.of (by decide) rfl rfl (Nat.le_of_ble_eq_true rfl) (zEV.perm [0, 1, 2] rfl (tX7_line_0 a1 a2 M q h))
-- RingedPageModel.placeOf
def fX7_placeOf (a1 : Int32) (a2 : Int32) (M : zMM) : Option (Int32 × zMM) :=
  if oob (((70 * a1) + a2)) 210 then none else
  (fX7_told ((M.1 164 (Int32.toNatClampNeg ((70 * a1) + a2)))) (1) M).bind fun q2 =>
  if oob (1) 259 then none else
  (fX7_told ((M.1 164 (Int32.toNatClampNeg ((70 * a1) + a2)))) (2) q2.2).bind fun q4 =>
  some (((q2.1 * (q2.2.1 159 (Int32.toNatClampNeg 1))) + q4.1), q4.2)
set_option maxRecDepth 4000 in
theorem tX7_placeOf_0 (a1 : Int32) (a2 : Int32) (M : zMM) (q : Int32 × zMM) (h : fX7_placeOf a1 a2  M = some q) : zEV iX7_placeOf 0 0 (zZO (some (.inl q.1), q.2)) 0 [(0, .inr (.inr 158)), (1, .inl a1), (2, .inl a2)] [] M := by
  unfold fX7_placeOf at h
  refine zEV.aload_n dX7_placeOf_0 rfl 0 rfl ?_
  refine zEV.gfr rfl inz7 12 (by decide) wf_RX7_27 (by decide) rfl rfl dX7_placeOf_1 ?_
  refine zEV.bipush (v := 70) dX7_placeOf_4 rfl ?_
  refine zEV.iload_n dX7_placeOf_6 rfl 1 rfl ?_
  refine zEV.imul dX7_placeOf_7 ?_
  refine zEV.iload_n dX7_placeOf_8 rfl 2 rfl ?_
  refine zEV.iadd dX7_placeOf_9 ?_
  obtain ⟨g1, h⟩ := ite_no h
  refine zEV.iald (by decide) rfl g1 dX7_placeOf_10 ?_
  refine zEV.istore_n dX7_placeOf_11 rfl (Nat.le_of_ble_eq_true rfl) rfl ?_
  refine zEV.aload_n dX7_placeOf_12 rfl 1 rfl ?_
  refine zEV.iload_n dX7_placeOf_13 rfl 0 rfl ?_
  refine zEV.iconst (v := 1) dX7_placeOf_14 rfl ?_
  obtain ⟨q2, hq2, h⟩ := bind_yes h
  refine zEV.callVi (kX7_told ((M.1 164 (Int32.toNatClampNeg ((70 * a1) + a2)))) (1)  M q2 hq2) (by decide) rfl rfl wm_RX7_167 wc_X7_told hy_X7_told rfl ⟨Nat.le_of_ble_eq_true rfl, Nat.le_of_ble_eq_true rfl⟩ rfl (Nat.le_of_ble_eq_true rfl) dX7_placeOf_15 ?_
  refine zEV.aload_n dX7_placeOf_18 rfl 1 rfl ?_
  refine zEV.gfr rfl inz7 0 (by decide) wf_RX7_9 (by decide) rfl rfl dX7_placeOf_19 ?_
  refine zEV.iconst (v := 1) dX7_placeOf_22 rfl ?_
  obtain ⟨g3, h⟩ := ite_no h
  refine zEV.iald (by decide) rfl g3 dX7_placeOf_23 ?_
  refine zEV.imul dX7_placeOf_24 ?_
  refine zEV.aload_n dX7_placeOf_25 rfl 1 rfl ?_
  refine zEV.iload_n dX7_placeOf_26 rfl 0 rfl ?_
  refine zEV.iconst (v := 2) dX7_placeOf_27 rfl ?_
  obtain ⟨q4, hq4, h⟩ := bind_yes h
  refine zEV.callVi (kX7_told ((M.1 164 (Int32.toNatClampNeg ((70 * a1) + a2)))) (2)  q2.2 q4 hq4) (by decide) rfl rfl wm_RX7_167 wc_X7_told hy_X7_told rfl ⟨Nat.le_of_ble_eq_true rfl, Nat.le_of_ble_eq_true rfl⟩ rfl (Nat.le_of_ble_eq_true rfl) dX7_placeOf_28 ?_
  refine zEV.iadd dX7_placeOf_31 ?_
  cases h
  exact zEV.iret rfl dX7_placeOf_32
theorem kX7_placeOf (a1 : Int32) (a2 : Int32) (M : zMM) (q : Int32 × zMM) (h : fX7_placeOf a1 a2 M = some q) : zCN yX7_placeOf iX7_placeOf [.inr (.inr 158), .inl a1, .inl a2] M (some (.inl q.1), q.2) :=
  zCN.of (by decide) rfl rfl (Nat.le_of_ble_eq_true rfl) (zEV.perm [0, 1, 2] rfl (tX7_placeOf_0 a1 a2 M q h))
-- RingedPageModel.endOf
def fX7_endOf (a1 : Int32) (M : zMM) : Option (Int32 × zMM) :=
  if oob ((5 + a1)) 259 then none else
  if (M.1 159 (Int32.toNatClampNeg (5 + a1))) = (0 : Int32) then
    some ((-1), M)
  else
    (fX7_placeOf (a1) (((M.1 159 (Int32.toNatClampNeg (5 + a1))) - 1)) M).bind fun q3 =>
    some (q3.1, q3.2)
set_option maxRecDepth 4000 in
theorem tX7_endOf_0 (a1 : Int32) (M : zMM) (q : Int32 × zMM) (h : fX7_endOf a1  M = some q) : zEV iX7_endOf 0 0 (zZO (some (.inl q.1), q.2)) 0 [(0, .inr (.inr 158)), (1, .inl a1)] [] M := by
  unfold fX7_endOf at h
  refine zEV.aload_n dX7_endOf_0 rfl 0 rfl ?_
  refine zEV.gfr rfl inz7 0 (by decide) wf_RX7_9 (by decide) rfl rfl dX7_endOf_1 ?_
  refine zEV.iconst (v := 5) dX7_endOf_4 rfl ?_
  refine zEV.iload_n dX7_endOf_5 rfl 1 rfl ?_
  refine zEV.iadd dX7_endOf_6 ?_
  obtain ⟨g1, h⟩ := ite_no h
  refine zEV.iald (by decide) rfl g1 dX7_endOf_7 ?_
  refine zEV.if_ne 15 dX7_endOf_8 (by decide) (fun c2 => ?_) (fun c2 => ?_)
  · rw [if_neg c2] at h
    refine zEV.aload_n dX7_endOf_15 rfl 0 rfl ?_
    refine zEV.iload_n dX7_endOf_16 rfl 1 rfl ?_
    refine zEV.aload_n dX7_endOf_17 rfl 0 rfl ?_
    refine zEV.gfr rfl inz7 0 (by decide) wf_RX7_9 (by decide) rfl rfl dX7_endOf_18 ?_
    refine zEV.iconst (v := 5) dX7_endOf_21 rfl ?_
    refine zEV.iload_n dX7_endOf_22 rfl 1 rfl ?_
    refine zEV.iadd dX7_endOf_23 ?_
    refine zEV.iald (by decide) rfl g1 dX7_endOf_24 ?_
    refine zEV.iconst (v := 1) dX7_endOf_25 rfl ?_
    refine zEV.isub dX7_endOf_26 ?_
    obtain ⟨q3, hq3, h⟩ := bind_yes h
    refine zEV.callVi (kX7_placeOf (a1) (((M.1 159 (Int32.toNatClampNeg (5 + a1))) - 1))  M q3 hq3) (by decide) rfl rfl wm_RX7_186 wc_X7_placeOf hy_X7_placeOf rfl ⟨Nat.le_of_ble_eq_true rfl, Nat.le_of_ble_eq_true rfl⟩ rfl (Nat.le_of_ble_eq_true rfl) dX7_endOf_27 ?_
    cases h
    exact zEV.iret rfl dX7_endOf_30
  · rw [if_pos c2] at h
    refine zEV.iconst (v := (-1)) dX7_endOf_11 rfl ?_
    refine zEV.goto 30 dX7_endOf_12 (by decide) ?_
    cases h
    exact zEV.iret rfl dX7_endOf_30
theorem kX7_endOf (a1 : Int32) (M : zMM) (q : Int32 × zMM) (h : fX7_endOf a1 M = some q) : zCN yX7_endOf iX7_endOf [.inr (.inr 158), .inl a1] M (some (.inl q.1), q.2) :=
  zCN.of (by decide) rfl rfl (Nat.le_of_ble_eq_true rfl) (zEV.perm [0, 1] rfl (tX7_endOf_0 a1 M q h))
-- RingedPageModel.ends
def fX7_ends_77 (K25 : Int32 → Int32 → Int32 → zMM → Option (Int32 × zMM)) (a1 : Int32) (l2 : Int32) (l4 : Int32) (s0 : Int32) (s1 : Int32) (M : zMM) : Option (Int32 × zMM) :=
  K25 (l2) ((s1 + s0)) ((l4 + 1)) M
set_option maxRecDepth 4000 in
theorem tX7_ends_77 (K25 : Int32 → Int32 → Int32 → zMM → Option (Int32 × zMM)) (a1 : Int32) (hK25 : ∀ (l2 : Int32) (l3 : Int32) (l4 : Int32) (M : zMM) (q : Int32 × zMM), K25 l2 l3 l4 M = some q → zEV iX7_ends 0 0 (zZO (some (.inl q.1), q.2)) 25 [(0, .inr (.inr 158)), (1, .inl a1), (2, .inl l2), (3, .inl l3), (4, .inl l4)] [] M) (l2 : Int32) (l4 : Int32) (s0 : Int32) (s1 : Int32) (M : zMM) (q : Int32 × zMM) (h : fX7_ends_77 K25 a1 l2 l4 s0 s1 M = some q) : zEV iX7_ends 0 0 (zZO (some (.inl q.1), q.2)) 77 [(0, .inr (.inr 158)), (1, .inl a1), (2, .inl l2), (4, .inl l4)] [.inl s0, .inl s1] M := by
  unfold fX7_ends_77 at h
  refine zEV.iadd dX7_ends_77 ?_
  refine zEV.istore_n dX7_ends_78 rfl (Nat.le_of_ble_eq_true rfl) rfl ?_
  refine zEV.iinc (v := (l4 + 1)) dX7_ends_79 4 rfl rfl (Nat.le_of_ble_eq_true rfl) rfl ?_
  refine zEV.goto 25 dX7_ends_82 (by decide) ?_
  exact zEV.perm [2, 3, 4, 1, 0] rfl (hK25 (l2) ((s1 + s0)) ((l4 + 1)) M q h)
def fX7_ends_51 (K25 : Int32 → Int32 → Int32 → zMM → Option (Int32 × zMM)) (a1 : Int32) (l3 : Int32) (l4 : Int32) (s0 : Int32) (s1 : Int32) (M : zMM) : Option (Int32 × zMM) :=
  (fX7_told (l4) (0) M).bind fun q1 =>
  if q1.1 = a1 then
    (fX7_told (l4) (7) q1.2).bind fun q3 =>
    fX7_ends_77 K25 a1 ((s1 + s0)) (l4) (q3.1) (l3) q3.2
  else
    fX7_ends_77 K25 a1 ((s1 + s0)) (l4) (0) (l3) q1.2
set_option maxRecDepth 4000 in
theorem tX7_ends_51 (K25 : Int32 → Int32 → Int32 → zMM → Option (Int32 × zMM)) (a1 : Int32) (hK25 : ∀ (l2 : Int32) (l3 : Int32) (l4 : Int32) (M : zMM) (q : Int32 × zMM), K25 l2 l3 l4 M = some q → zEV iX7_ends 0 0 (zZO (some (.inl q.1), q.2)) 25 [(0, .inr (.inr 158)), (1, .inl a1), (2, .inl l2), (3, .inl l3), (4, .inl l4)] [] M) (l3 : Int32) (l4 : Int32) (s0 : Int32) (s1 : Int32) (M : zMM) (q : Int32 × zMM) (h : fX7_ends_51 K25 a1 l3 l4 s0 s1 M = some q) : zEV iX7_ends 0 0 (zZO (some (.inl q.1), q.2)) 51 [(0, .inr (.inr 158)), (1, .inl a1), (3, .inl l3), (4, .inl l4)] [.inl s0, .inl s1] M := by
  unfold fX7_ends_51 at h
  refine zEV.iadd dX7_ends_51 ?_
  refine zEV.istore_n dX7_ends_52 rfl (Nat.le_of_ble_eq_true rfl) rfl ?_
  refine zEV.iload_n dX7_ends_53 rfl 3 rfl ?_
  refine zEV.aload_n dX7_ends_54 rfl 1 rfl ?_
  refine zEV.iload dX7_ends_55 4 rfl ?_
  refine zEV.iconst (v := 0) dX7_ends_57 rfl ?_
  obtain ⟨q1, hq1, h⟩ := bind_yes h
  refine zEV.callVi (kX7_told (l4) (0)  M q1 hq1) (by decide) rfl rfl wm_RX7_167 wc_X7_told hy_X7_told rfl ⟨Nat.le_of_ble_eq_true rfl, Nat.le_of_ble_eq_true rfl⟩ rfl (Nat.le_of_ble_eq_true rfl) dX7_ends_58 ?_
  refine zEV.iload_n dX7_ends_61 rfl 2 rfl ?_
  refine zEV.icmp_ne 76 dX7_ends_62 (by decide) (fun c2 => ?_) (fun c2 => ?_)
  · rw [if_neg c2] at h
    refine zEV.iconst (v := 0) dX7_ends_76 rfl ?_
    exact zEV.perm [1, 2, 0, 4] rfl (tX7_ends_77 K25 a1 hK25 ((s1 + s0)) (l4) (0) (l3) q1.2 q h)
  · rw [if_pos c2] at h
    refine zEV.aload_n dX7_ends_65 rfl 1 rfl ?_
    refine zEV.iload dX7_ends_66 4 rfl ?_
    refine zEV.bipush (v := 7) dX7_ends_68 rfl ?_
    obtain ⟨q3, hq3, h⟩ := bind_yes h
    refine zEV.callVi (kX7_told (l4) (7)  q1.2 q3 hq3) (by decide) rfl rfl wm_RX7_167 wc_X7_told hy_X7_told rfl ⟨Nat.le_of_ble_eq_true rfl, Nat.le_of_ble_eq_true rfl⟩ rfl (Nat.le_of_ble_eq_true rfl) dX7_ends_70 ?_
    refine zEV.goto 77 dX7_ends_73 (by decide) ?_
    exact zEV.perm [1, 2, 0, 4] rfl (tX7_ends_77 K25 a1 hK25 ((s1 + s0)) (l4) (q3.1) (l3) q3.2 q h)
def fX7_ends_25 (a1 : Int32) : Nat → Int32 → Int32 → Int32 → zMM → Option (Int32 × zMM)
  | 0, _, _, _, _ => none
  | n + 1, l2, l3, l4, M =>
  if (M.1 158 11) ≤ l4 then
    (fX7_tell ((Int32.toInt64 l2)) (wr M 158 4 0)).bind fun q2 =>
    (fX7_tell ((Int32.toInt64 l3)) q2).bind fun q3 =>
    (fX7_endOf (a1) q3).bind fun q4 =>
    some (q4.1, q4.2)
  else
    (fX7_told (l4) (0) M).bind fun q5 =>
    if q5.1 = a1 then
      fX7_ends_51 (fX7_ends_25 a1 n) a1 (l3) (l4) (1) (l2) q5.2
    else
      fX7_ends_51 (fX7_ends_25 a1 n) a1 (l3) (l4) (0) (l2) q5.2
set_option maxRecDepth 4000 in
theorem tX7_ends_25 (a1 : Int32) : ∀ (n : Nat) (l2 : Int32) (l3 : Int32) (l4 : Int32) (M : zMM) (q : Int32 × zMM), fX7_ends_25 a1 n l2 l3 l4 M = some q → zEV iX7_ends 0 0 (zZO (some (.inl q.1), q.2)) 25 [(0, .inr (.inr 158)), (1, .inl a1), (2, .inl l2), (3, .inl l3), (4, .inl l4)] [] M := by
  intro n
  induction n with
  | zero =>
    intro l2 l3 l4 M q h
    rw [fX7_ends_25] at h
    cases h
  | succ n ih =>
    intro l2 l3 l4 M q h
    rw [fX7_ends_25] at h
    refine zEV.iload dX7_ends_25 4 rfl ?_
    refine zEV.aload_n dX7_ends_27 rfl 0 rfl ?_
    refine zEV.gfi rfl inz7 11 (by decide) wf_RX7_144 (by decide) rfl rfl dX7_ends_28 ?_
    refine zEV.icmp_ge 85 dX7_ends_31 (by decide) (fun c1 => ?_) (fun c1 => ?_)
    · rw [if_pos c1] at h
      refine zEV.aload_n dX7_ends_85 rfl 0 rfl ?_
      refine zEV.iconst (v := 0) dX7_ends_86 rfl ?_
      refine zEV.pfi rfl inz7 tyX7 tyX7_ok nmX7 4 (by decide) wf_RX7_62 rfl (by decide +kernel) (by decide) rfl rfl dX7_ends_87 ?_
      refine zEV.aload_n dX7_ends_90 rfl 0 rfl ?_
      refine zEV.iload_n dX7_ends_91 rfl 2 rfl ?_
      refine zEV.i2l dX7_ends_92 ?_
      obtain ⟨q2, hq2, h⟩ := bind_yes h
      refine zEV.callVv (kX7_tell ((Int32.toInt64 l2))  (wr M 158 4 0) q2 hq2) (by decide) rfl rfl wm_RX7_135 wc_X7_tell hy_X7_tell rfl ⟨Nat.le_of_ble_eq_true rfl, Nat.le_of_ble_eq_true rfl⟩ rfl (Nat.le_of_ble_eq_true rfl) dX7_ends_93 ?_
      refine zEV.aload_n dX7_ends_96 rfl 0 rfl ?_
      refine zEV.iload_n dX7_ends_97 rfl 3 rfl ?_
      refine zEV.i2l dX7_ends_98 ?_
      obtain ⟨q3, hq3, h⟩ := bind_yes h
      refine zEV.callVv (kX7_tell ((Int32.toInt64 l3))  q2 q3 hq3) (by decide) rfl rfl wm_RX7_135 wc_X7_tell hy_X7_tell rfl ⟨Nat.le_of_ble_eq_true rfl, Nat.le_of_ble_eq_true rfl⟩ rfl (Nat.le_of_ble_eq_true rfl) dX7_ends_99 ?_
      refine zEV.aload_n dX7_ends_102 rfl 0 rfl ?_
      refine zEV.iload_n dX7_ends_103 rfl 1 rfl ?_
      obtain ⟨q4, hq4, h⟩ := bind_yes h
      refine zEV.callVi (kX7_endOf (a1)  q3 q4 hq4) (by decide) rfl rfl wm_RX7_189 wc_X7_endOf hy_X7_endOf rfl ⟨Nat.le_of_ble_eq_true rfl, Nat.le_of_ble_eq_true rfl⟩ rfl (Nat.le_of_ble_eq_true rfl) dX7_ends_104 ?_
      cases h
      exact zEV.iret rfl dX7_ends_107
    · rw [if_neg c1] at h
      refine zEV.iload_n dX7_ends_34 rfl 2 rfl ?_
      refine zEV.aload_n dX7_ends_35 rfl 0 rfl ?_
      refine zEV.iload dX7_ends_36 4 rfl ?_
      refine zEV.iconst (v := 0) dX7_ends_38 rfl ?_
      obtain ⟨q5, hq5, h⟩ := bind_yes h
      refine zEV.callVi (kX7_told (l4) (0)  M q5 hq5) (by decide) rfl rfl wm_RX7_167 wc_X7_told hy_X7_told rfl ⟨Nat.le_of_ble_eq_true rfl, Nat.le_of_ble_eq_true rfl⟩ rfl (Nat.le_of_ble_eq_true rfl) dX7_ends_39 ?_
      refine zEV.iload_n dX7_ends_42 rfl 1 rfl ?_
      refine zEV.icmp_ne 50 dX7_ends_43 (by decide) (fun c6 => ?_) (fun c6 => ?_)
      · rw [if_neg c6] at h
        refine zEV.iconst (v := 0) dX7_ends_50 rfl ?_
        exact zEV.perm [0, 1, 3, 4] rfl (tX7_ends_51 (fX7_ends_25 a1 n) a1 (fun l2 l3 l4 M9 q9 h9 => ih l2 l3 l4 M9 q9 h9) (l3) (l4) (0) (l2) q5.2 q h)
      · rw [if_pos c6] at h
        refine zEV.iconst (v := 1) dX7_ends_46 rfl ?_
        refine zEV.goto 51 dX7_ends_47 (by decide) ?_
        exact zEV.perm [0, 1, 3, 4] rfl (tX7_ends_51 (fX7_ends_25 a1 n) a1 (fun l2 l3 l4 M9 q9 h9 => ih l2 l3 l4 M9 q9 h9) (l3) (l4) (1) (l2) q5.2 q h)
def fX7_ends (a1 : Int32) (M : zMM) : Option (Int32 × zMM) :=
  (fX7_isText (a1) (wr M 158 5 0)).bind fun q1 =>
  if q1.1 = (0 : Int32) then
    some ((-1), q1.2)
  else
    (fX7_set  q1.2).bind fun q3 =>
    fX7_ends_25 a1 zFU (0) (0) (0) q3
set_option maxRecDepth 4000 in
theorem tX7_ends_0 (a1 : Int32) (M : zMM) (q : Int32 × zMM) (h : fX7_ends a1  M = some q) : zEV iX7_ends 0 0 (zZO (some (.inl q.1), q.2)) 0 [(0, .inr (.inr 158)), (1, .inl a1)] [] M := by
  unfold fX7_ends at h
  refine zEV.aload_n dX7_ends_0 rfl 0 rfl ?_
  refine zEV.iconst (v := 0) dX7_ends_1 rfl ?_
  refine zEV.pfi rfl inz7 tyX7 tyX7_ok nmX7 5 (by decide) wf_RX7_58 rfl (by decide +kernel) (by decide) rfl rfl dX7_ends_2 ?_
  refine zEV.iload_n dX7_ends_5 rfl 1 rfl ?_
  obtain ⟨q1, hq1, h⟩ := bind_yes h
  refine zEV.callSi (kX7_isText (a1)  (wr M 158 5 0) q1 hq1) wm_RX7_69 wc_X7_isText hy_X7_isText rfl ⟨Nat.le_of_ble_eq_true rfl, Nat.le_of_ble_eq_true rfl⟩ rfl (Nat.le_of_ble_eq_true rfl) dX7_ends_6 ?_
  refine zEV.if_ne 14 dX7_ends_9 (by decide) (fun c2 => ?_) (fun c2 => ?_)
  · rw [if_neg c2] at h
    refine zEV.aload_n dX7_ends_14 rfl 0 rfl ?_
    obtain ⟨q3, hq3, h⟩ := bind_yes h
    refine zEV.callVv (kX7_set   q1.2 q3 hq3) (by decide) rfl rfl wm_RX7_164 wc_X7_set hy_X7_set rfl ⟨Nat.le_of_ble_eq_true rfl, Nat.le_of_ble_eq_true rfl⟩ rfl (Nat.le_of_ble_eq_true rfl) dX7_ends_15 ?_
    refine zEV.iconst (v := 0) dX7_ends_18 rfl ?_
    refine zEV.istore_n dX7_ends_19 rfl (Nat.le_of_ble_eq_true rfl) rfl ?_
    refine zEV.iconst (v := 0) dX7_ends_20 rfl ?_
    refine zEV.istore_n dX7_ends_21 rfl (Nat.le_of_ble_eq_true rfl) rfl ?_
    refine zEV.iconst (v := 0) dX7_ends_22 rfl ?_
    refine zEV.istore dX7_ends_23 (Nat.le_of_ble_eq_true rfl) rfl ?_
    exact zEV.perm [3, 4, 2, 1, 0] rfl (tX7_ends_25 a1 zFU (0) (0) (0) q3 q h)
  · rw [if_pos c2] at h
    refine zEV.iconst (v := (-1)) dX7_ends_12 rfl ?_
    cases h
    exact zEV.iret rfl dX7_ends_13
theorem kX7_ends (a1 : Int32) (M : zMM) (q : Int32 × zMM) (h : fX7_ends a1 M = some q) : zCN yX7_ends iX7_ends [.inr (.inr 158), .inl a1] M (some (.inl q.1), q.2) :=
  zCN.of (by decide) rfl rfl (Nat.le_of_ble_eq_true rfl) (zEV.perm [0, 1] rfl (tX7_ends_0 a1 M q h))
-- RingedPageModel.ender
def fX7_ender_63 (K4 : Int32 → Int32 → zMM → Option (Int32 × zMM)) (a1 : Int32) (l2 : Int32) (l3 : Int32) (M : zMM) : Option (Int32 × zMM) :=
  K4 (l2) ((l3 + 1)) M
set_option maxRecDepth 4000 in
theorem tX7_ender_63 (K4 : Int32 → Int32 → zMM → Option (Int32 × zMM)) (a1 : Int32) (hK4 : ∀ (l2 : Int32) (l3 : Int32) (M : zMM) (q : Int32 × zMM), K4 l2 l3 M = some q → zEV iX7_ender 0 0 (zZO (some (.inl q.1), q.2)) 4 [(0, .inr (.inr 158)), (1, .inl a1), (2, .inl l2), (3, .inl l3)] [] M) (l2 : Int32) (l3 : Int32) (M : zMM) (q : Int32 × zMM) (h : fX7_ender_63 K4 a1 l2 l3 M = some q) : zEV iX7_ender 0 0 (zZO (some (.inl q.1), q.2)) 63 [(0, .inr (.inr 158)), (1, .inl a1), (2, .inl l2), (3, .inl l3)] [] M := by
  unfold fX7_ender_63 at h
  refine zEV.iinc (v := (l3 + 1)) dX7_ender_63 3 rfl rfl (Nat.le_of_ble_eq_true rfl) rfl ?_
  refine zEV.goto 4 dX7_ender_66 (by decide) ?_
  exact zEV.perm [1, 2, 3, 0] rfl (hK4 (l2) ((l3 + 1)) M q h)
def fX7_ender_61 (K4 : Int32 → Int32 → zMM → Option (Int32 × zMM)) (a1 : Int32) (l3 : Int32) (M : zMM) : Option (Int32 × zMM) :=
  fX7_ender_63 K4 a1 (l3) (l3) M
set_option maxRecDepth 4000 in
theorem tX7_ender_61 (K4 : Int32 → Int32 → zMM → Option (Int32 × zMM)) (a1 : Int32) (hK4 : ∀ (l2 : Int32) (l3 : Int32) (M : zMM) (q : Int32 × zMM), K4 l2 l3 M = some q → zEV iX7_ender 0 0 (zZO (some (.inl q.1), q.2)) 4 [(0, .inr (.inr 158)), (1, .inl a1), (2, .inl l2), (3, .inl l3)] [] M) (l3 : Int32) (M : zMM) (q : Int32 × zMM) (h : fX7_ender_61 K4 a1 l3 M = some q) : zEV iX7_ender 0 0 (zZO (some (.inl q.1), q.2)) 61 [(0, .inr (.inr 158)), (1, .inl a1), (3, .inl l3)] [] M := by
  unfold fX7_ender_61 at h
  refine zEV.iload_n dX7_ender_61 rfl 2 rfl ?_
  refine zEV.istore_n dX7_ender_62 rfl (Nat.le_of_ble_eq_true rfl) rfl ?_
  exact zEV.perm [1, 2, 0, 3] rfl (tX7_ender_63 K4 a1 hK4 (l3) (l3) M q h)
def fX7_ender_4 (a1 : Int32) : Nat → Int32 → Int32 → zMM → Option (Int32 × zMM)
  | 0, _, _, _ => none
  | n + 1, l2, l3, M =>
  if (3 : Int32) ≤ l3 then
    some (l2, M)
  else
    if oob ((5 + l3)) 259 then none else
    if (M.1 159 (Int32.toNatClampNeg (5 + l3))) = (0 : Int32) then
      fX7_ender_63 (fX7_ender_4 a1 n) a1 (l2) (l3) M
    else
      if l2 = (-1) then
        fX7_ender_61 (fX7_ender_4 a1 n) a1 (l3) M
      else
        if a1 = (0 : Int32) then
          (fX7_endOf (l3) M).bind fun q6 =>
          (fX7_endOf (l2) q6.2).bind fun q7 =>
          if q7.1 ≤ q6.1 then
            fX7_ender_63 (fX7_ender_4 a1 n) a1 (l2) (l3) q7.2
          else
            fX7_ender_61 (fX7_ender_4 a1 n) a1 (l3) q7.2
        else
          (fX7_endOf (l3) M).bind fun q9 =>
          (fX7_endOf (l2) q9.2).bind fun q10 =>
          if q9.1 ≤ q10.1 then
            fX7_ender_63 (fX7_ender_4 a1 n) a1 (l2) (l3) q10.2
          else
            fX7_ender_61 (fX7_ender_4 a1 n) a1 (l3) q10.2
set_option maxRecDepth 4000 in
theorem tX7_ender_4 (a1 : Int32) : ∀ (n : Nat) (l2 : Int32) (l3 : Int32) (M : zMM) (q : Int32 × zMM), fX7_ender_4 a1 n l2 l3 M = some q → zEV iX7_ender 0 0 (zZO (some (.inl q.1), q.2)) 4 [(0, .inr (.inr 158)), (1, .inl a1), (2, .inl l2), (3, .inl l3)] [] M := by
  intro n
  induction n with
  | zero =>
    intro l2 l3 M q h
    rw [fX7_ender_4] at h
    cases h
  | succ n ih =>
    intro l2 l3 M q h
    rw [fX7_ender_4] at h
    refine zEV.iload_n dX7_ender_4 rfl 3 rfl ?_
    refine zEV.iconst (v := 3) dX7_ender_5 rfl ?_
    refine zEV.icmp_ge 69 dX7_ender_6 (by decide) (fun c1 => ?_) (fun c1 => ?_)
    · rw [if_pos c1] at h
      refine zEV.iload_n dX7_ender_69 rfl 2 rfl ?_
      cases h
      exact zEV.iret rfl dX7_ender_70
    · rw [if_neg c1] at h
      refine zEV.aload_n dX7_ender_9 rfl 0 rfl ?_
      refine zEV.gfr rfl inz7 0 (by decide) wf_RX7_9 (by decide) rfl rfl dX7_ender_10 ?_
      refine zEV.iconst (v := 5) dX7_ender_13 rfl ?_
      refine zEV.iload_n dX7_ender_14 rfl 3 rfl ?_
      refine zEV.iadd dX7_ender_15 ?_
      obtain ⟨g2, h⟩ := ite_no h
      refine zEV.iald (by decide) rfl g2 dX7_ender_16 ?_
      refine zEV.if_ne 23 dX7_ender_17 (by decide) (fun c3 => ?_) (fun c3 => ?_)
      · rw [if_neg c3] at h
        refine zEV.iload_n dX7_ender_23 rfl 2 rfl ?_
        refine zEV.iconst (v := (-1)) dX7_ender_24 rfl ?_
        refine zEV.icmp_eq 61 dX7_ender_25 (by decide) (fun c4 => ?_) (fun c4 => ?_)
        · rw [if_pos c4] at h
          exact zEV.perm [0, 1, 3] rfl (tX7_ender_61 (fX7_ender_4 a1 n) a1 (fun l2 l3 M9 q9 h9 => ih l2 l3 M9 q9 h9) (l3) M q h)
        · rw [if_neg c4] at h
          refine zEV.iload_n dX7_ender_28 rfl 1 rfl ?_
          refine zEV.if_eq 48 dX7_ender_29 (by decide) (fun c5 => ?_) (fun c5 => ?_)
          · rw [if_pos c5] at h
            refine zEV.aload_n dX7_ender_48 rfl 0 rfl ?_
            refine zEV.iload_n dX7_ender_49 rfl 3 rfl ?_
            obtain ⟨q6, hq6, h⟩ := bind_yes h
            refine zEV.callVi (kX7_endOf (l3)  M q6 hq6) (by decide) rfl rfl wm_RX7_189 wc_X7_endOf hy_X7_endOf rfl ⟨Nat.le_of_ble_eq_true rfl, Nat.le_of_ble_eq_true rfl⟩ rfl (Nat.le_of_ble_eq_true rfl) dX7_ender_50 ?_
            refine zEV.aload_n dX7_ender_53 rfl 0 rfl ?_
            refine zEV.iload_n dX7_ender_54 rfl 2 rfl ?_
            obtain ⟨q7, hq7, h⟩ := bind_yes h
            refine zEV.callVi (kX7_endOf (l2)  q6.2 q7 hq7) (by decide) rfl rfl wm_RX7_189 wc_X7_endOf hy_X7_endOf rfl ⟨Nat.le_of_ble_eq_true rfl, Nat.le_of_ble_eq_true rfl⟩ rfl (Nat.le_of_ble_eq_true rfl) dX7_ender_55 ?_
            refine zEV.icmp_ge 63 dX7_ender_58 (by decide) (fun c8 => ?_) (fun c8 => ?_)
            · rw [if_pos c8] at h
              exact zEV.perm [0, 1, 2, 3] rfl (tX7_ender_63 (fX7_ender_4 a1 n) a1 (fun l2 l3 M9 q9 h9 => ih l2 l3 M9 q9 h9) (l2) (l3) q7.2 q h)
            · rw [if_neg c8] at h
              exact zEV.perm [0, 1, 3] rfl (tX7_ender_61 (fX7_ender_4 a1 n) a1 (fun l2 l3 M9 q9 h9 => ih l2 l3 M9 q9 h9) (l3) q7.2 q h)
          · rw [if_neg c5] at h
            refine zEV.aload_n dX7_ender_32 rfl 0 rfl ?_
            refine zEV.iload_n dX7_ender_33 rfl 3 rfl ?_
            obtain ⟨q9, hq9, h⟩ := bind_yes h
            refine zEV.callVi (kX7_endOf (l3)  M q9 hq9) (by decide) rfl rfl wm_RX7_189 wc_X7_endOf hy_X7_endOf rfl ⟨Nat.le_of_ble_eq_true rfl, Nat.le_of_ble_eq_true rfl⟩ rfl (Nat.le_of_ble_eq_true rfl) dX7_ender_34 ?_
            refine zEV.aload_n dX7_ender_37 rfl 0 rfl ?_
            refine zEV.iload_n dX7_ender_38 rfl 2 rfl ?_
            obtain ⟨q10, hq10, h⟩ := bind_yes h
            refine zEV.callVi (kX7_endOf (l2)  q9.2 q10 hq10) (by decide) rfl rfl wm_RX7_189 wc_X7_endOf hy_X7_endOf rfl ⟨Nat.le_of_ble_eq_true rfl, Nat.le_of_ble_eq_true rfl⟩ rfl (Nat.le_of_ble_eq_true rfl) dX7_ender_39 ?_
            refine zEV.icmp_le 63 dX7_ender_42 (by decide) (fun c11 => ?_) (fun c11 => ?_)
            · rw [if_pos c11] at h
              exact zEV.perm [0, 1, 2, 3] rfl (tX7_ender_63 (fX7_ender_4 a1 n) a1 (fun l2 l3 M9 q9 h9 => ih l2 l3 M9 q9 h9) (l2) (l3) q10.2 q h)
            · rw [if_neg c11] at h
              refine zEV.goto 61 dX7_ender_45 (by decide) ?_
              exact zEV.perm [0, 1, 3] rfl (tX7_ender_61 (fX7_ender_4 a1 n) a1 (fun l2 l3 M9 q9 h9 => ih l2 l3 M9 q9 h9) (l3) q10.2 q h)
      · rw [if_pos c3] at h
        refine zEV.goto 63 dX7_ender_20 (by decide) ?_
        exact zEV.perm [0, 1, 2, 3] rfl (tX7_ender_63 (fX7_ender_4 a1 n) a1 (fun l2 l3 M9 q9 h9 => ih l2 l3 M9 q9 h9) (l2) (l3) M q h)
def fX7_ender (a1 : Int32) (M : zMM) : Option (Int32 × zMM) :=
  fX7_ender_4 a1 zFU ((-1)) (0) M
set_option maxRecDepth 4000 in
theorem tX7_ender_0 (a1 : Int32) (M : zMM) (q : Int32 × zMM) (h : fX7_ender a1  M = some q) : zEV iX7_ender 0 0 (zZO (some (.inl q.1), q.2)) 0 [(0, .inr (.inr 158)), (1, .inl a1)] [] M := by
  unfold fX7_ender at h
  refine zEV.iconst (v := (-1)) dX7_ender_0 rfl ?_
  refine zEV.istore_n dX7_ender_1 rfl (Nat.le_of_ble_eq_true rfl) rfl ?_
  refine zEV.iconst (v := 0) dX7_ender_2 rfl ?_
  refine zEV.istore_n dX7_ender_3 rfl (Nat.le_of_ble_eq_true rfl) rfl ?_
  exact zEV.perm [2, 3, 1, 0] rfl (tX7_ender_4 a1 zFU ((-1)) (0) M q h)
theorem kX7_ender (a1 : Int32) (M : zMM) (q : Int32 × zMM) (h : fX7_ender a1 M = some q) : zCN yX7_ender iX7_ender [.inr (.inr 158), .inl a1] M (some (.inl q.1), q.2) :=
  zCN.of (by decide) rfl rfl (Nat.le_of_ble_eq_true rfl) (zEV.perm [0, 1] rfl (tX7_ender_0 a1 M q h))
-- RingedPageModel.apartOf
def fX7_apartOf (M : zMM) : Option (Int32 × zMM) :=
  (fX7_ender (1) M).bind fun q1 =>
  if q1.1 = (-1) then
    some (0, q1.2)
  else
    (fX7_ender (1) q1.2).bind fun q3 =>
    (fX7_endOf (q3.1) q3.2).bind fun q4 =>
    (fX7_ender (0) q4.2).bind fun q5 =>
    (fX7_endOf (q5.1) q5.2).bind fun q6 =>
    some ((q4.1 - q6.1), q6.2)
set_option maxRecDepth 4000 in
theorem tX7_apartOf_0 (M : zMM) (q : Int32 × zMM) (h : fX7_apartOf  M = some q) : zEV iX7_apartOf 0 0 (zZO (some (.inl q.1), q.2)) 0 [(0, .inr (.inr 158))] [] M := by
  unfold fX7_apartOf at h
  refine zEV.aload_n dX7_apartOf_0 rfl 0 rfl ?_
  refine zEV.iconst (v := 1) dX7_apartOf_1 rfl ?_
  obtain ⟨q1, hq1, h⟩ := bind_yes h
  refine zEV.callVi (kX7_ender (1)  M q1 hq1) (by decide) rfl rfl wm_RX7_192 wc_X7_ender hy_X7_ender rfl ⟨Nat.le_of_ble_eq_true rfl, Nat.le_of_ble_eq_true rfl⟩ rfl (Nat.le_of_ble_eq_true rfl) dX7_apartOf_2 ?_
  refine zEV.iconst (v := (-1)) dX7_apartOf_5 rfl ?_
  refine zEV.icmp_ne 13 dX7_apartOf_6 (by decide) (fun c2 => ?_) (fun c2 => ?_)
  · rw [if_neg c2] at h
    refine zEV.aload_n dX7_apartOf_13 rfl 0 rfl ?_
    refine zEV.aload_n dX7_apartOf_14 rfl 0 rfl ?_
    refine zEV.iconst (v := 1) dX7_apartOf_15 rfl ?_
    obtain ⟨q3, hq3, h⟩ := bind_yes h
    refine zEV.callVi (kX7_ender (1)  q1.2 q3 hq3) (by decide) rfl rfl wm_RX7_192 wc_X7_ender hy_X7_ender rfl ⟨Nat.le_of_ble_eq_true rfl, Nat.le_of_ble_eq_true rfl⟩ rfl (Nat.le_of_ble_eq_true rfl) dX7_apartOf_16 ?_
    obtain ⟨q4, hq4, h⟩ := bind_yes h
    refine zEV.callVi (kX7_endOf (q3.1)  q3.2 q4 hq4) (by decide) rfl rfl wm_RX7_189 wc_X7_endOf hy_X7_endOf rfl ⟨Nat.le_of_ble_eq_true rfl, Nat.le_of_ble_eq_true rfl⟩ rfl (Nat.le_of_ble_eq_true rfl) dX7_apartOf_19 ?_
    refine zEV.aload_n dX7_apartOf_22 rfl 0 rfl ?_
    refine zEV.aload_n dX7_apartOf_23 rfl 0 rfl ?_
    refine zEV.iconst (v := 0) dX7_apartOf_24 rfl ?_
    obtain ⟨q5, hq5, h⟩ := bind_yes h
    refine zEV.callVi (kX7_ender (0)  q4.2 q5 hq5) (by decide) rfl rfl wm_RX7_192 wc_X7_ender hy_X7_ender rfl ⟨Nat.le_of_ble_eq_true rfl, Nat.le_of_ble_eq_true rfl⟩ rfl (Nat.le_of_ble_eq_true rfl) dX7_apartOf_25 ?_
    obtain ⟨q6, hq6, h⟩ := bind_yes h
    refine zEV.callVi (kX7_endOf (q5.1)  q5.2 q6 hq6) (by decide) rfl rfl wm_RX7_189 wc_X7_endOf hy_X7_endOf rfl ⟨Nat.le_of_ble_eq_true rfl, Nat.le_of_ble_eq_true rfl⟩ rfl (Nat.le_of_ble_eq_true rfl) dX7_apartOf_28 ?_
    refine zEV.isub dX7_apartOf_31 ?_
    cases h
    exact zEV.iret rfl dX7_apartOf_32
  · rw [if_pos c2] at h
    refine zEV.iconst (v := 0) dX7_apartOf_9 rfl ?_
    refine zEV.goto 32 dX7_apartOf_10 (by decide) ?_
    cases h
    exact zEV.iret rfl dX7_apartOf_32
theorem kX7_apartOf (M : zMM) (q : Int32 × zMM) (h : fX7_apartOf M = some q) : zCN yX7_apartOf iX7_apartOf [.inr (.inr 158)] M (some (.inl q.1), q.2) :=
  zCN.of (by decide) rfl rfl (Nat.le_of_ble_eq_true rfl) (zEV.perm [0] rfl (tX7_apartOf_0 M q h))
-- RingedPageModel.apart
def fX7_apart (M : zMM) : Option (Int32 × zMM) :=
  (fX7_set  (wr M 158 5 0)).bind fun q1 =>
  (fX7_ender (0) (wr q1 158 4 0)).bind fun q2 =>
  (fX7_tell ((Int32.toInt64 q2.1)) q2.2).bind fun q3 =>
  (fX7_ender (1) q3).bind fun q4 =>
  (fX7_tell ((Int32.toInt64 q4.1)) q4.2).bind fun q5 =>
  (fX7_apartOf  q5).bind fun q6 =>
  some (q6.1, q6.2)
set_option maxRecDepth 4000 in
theorem tX7_apart_0 (M : zMM) (q : Int32 × zMM) (h : fX7_apart  M = some q) : zEV iX7_apart 0 0 (zZO (some (.inl q.1), q.2)) 0 [(0, .inr (.inr 158))] [] M := by
  unfold fX7_apart at h
  refine zEV.aload_n dX7_apart_0 rfl 0 rfl ?_
  refine zEV.iconst (v := 0) dX7_apart_1 rfl ?_
  refine zEV.pfi rfl inz7 tyX7 tyX7_ok nmX7 5 (by decide) wf_RX7_58 rfl (by decide +kernel) (by decide) rfl rfl dX7_apart_2 ?_
  refine zEV.aload_n dX7_apart_5 rfl 0 rfl ?_
  obtain ⟨q1, hq1, h⟩ := bind_yes h
  refine zEV.callVv (kX7_set   (wr M 158 5 0) q1 hq1) (by decide) rfl rfl wm_RX7_164 wc_X7_set hy_X7_set rfl ⟨Nat.le_of_ble_eq_true rfl, Nat.le_of_ble_eq_true rfl⟩ rfl (Nat.le_of_ble_eq_true rfl) dX7_apart_6 ?_
  refine zEV.aload_n dX7_apart_9 rfl 0 rfl ?_
  refine zEV.iconst (v := 0) dX7_apart_10 rfl ?_
  refine zEV.pfi rfl inz7 tyX7 tyX7_ok nmX7 4 (by decide) wf_RX7_62 rfl (by decide +kernel) (by decide) rfl rfl dX7_apart_11 ?_
  refine zEV.aload_n dX7_apart_14 rfl 0 rfl ?_
  refine zEV.aload_n dX7_apart_15 rfl 0 rfl ?_
  refine zEV.iconst (v := 0) dX7_apart_16 rfl ?_
  obtain ⟨q2, hq2, h⟩ := bind_yes h
  refine zEV.callVi (kX7_ender (0)  (wr q1 158 4 0) q2 hq2) (by decide) rfl rfl wm_RX7_192 wc_X7_ender hy_X7_ender rfl ⟨Nat.le_of_ble_eq_true rfl, Nat.le_of_ble_eq_true rfl⟩ rfl (Nat.le_of_ble_eq_true rfl) dX7_apart_17 ?_
  refine zEV.i2l dX7_apart_20 ?_
  obtain ⟨q3, hq3, h⟩ := bind_yes h
  refine zEV.callVv (kX7_tell ((Int32.toInt64 q2.1))  q2.2 q3 hq3) (by decide) rfl rfl wm_RX7_135 wc_X7_tell hy_X7_tell rfl ⟨Nat.le_of_ble_eq_true rfl, Nat.le_of_ble_eq_true rfl⟩ rfl (Nat.le_of_ble_eq_true rfl) dX7_apart_21 ?_
  refine zEV.aload_n dX7_apart_24 rfl 0 rfl ?_
  refine zEV.aload_n dX7_apart_25 rfl 0 rfl ?_
  refine zEV.iconst (v := 1) dX7_apart_26 rfl ?_
  obtain ⟨q4, hq4, h⟩ := bind_yes h
  refine zEV.callVi (kX7_ender (1)  q3 q4 hq4) (by decide) rfl rfl wm_RX7_192 wc_X7_ender hy_X7_ender rfl ⟨Nat.le_of_ble_eq_true rfl, Nat.le_of_ble_eq_true rfl⟩ rfl (Nat.le_of_ble_eq_true rfl) dX7_apart_27 ?_
  refine zEV.i2l dX7_apart_30 ?_
  obtain ⟨q5, hq5, h⟩ := bind_yes h
  refine zEV.callVv (kX7_tell ((Int32.toInt64 q4.1))  q4.2 q5 hq5) (by decide) rfl rfl wm_RX7_135 wc_X7_tell hy_X7_tell rfl ⟨Nat.le_of_ble_eq_true rfl, Nat.le_of_ble_eq_true rfl⟩ rfl (Nat.le_of_ble_eq_true rfl) dX7_apart_31 ?_
  refine zEV.aload_n dX7_apart_34 rfl 0 rfl ?_
  obtain ⟨q6, hq6, h⟩ := bind_yes h
  refine zEV.callVi (kX7_apartOf   q5 q6 hq6) (by decide) rfl rfl wm_RX7_196 wc_X7_apartOf hy_X7_apartOf rfl ⟨Nat.le_of_ble_eq_true rfl, Nat.le_of_ble_eq_true rfl⟩ rfl (Nat.le_of_ble_eq_true rfl) dX7_apart_35 ?_
  cases h
  exact zEV.iret rfl dX7_apart_38
theorem kX7_apart (M : zMM) (q : Int32 × zMM) (h : fX7_apart M = some q) : zCN yX7_apart iX7_apart [.inr (.inr 158)] M (some (.inl q.1), q.2) :=
  zCN.of (by decide) rfl rfl (Nat.le_of_ble_eq_true rfl) (zEV.perm [0] rfl (tX7_apart_0 M q h))
-- RingedPageModel.raggedAll
def fX7_raggedAll_4 : Nat → Int32 → Int32 → zMM → Option (Int32 × zMM)
  | 0, _, _, _ => none
  | n + 1, l1, l2, M =>
  if (M.1 158 11) ≤ l2 then
    some (l1, M)
  else
    (fX7_told (l2) (7) M).bind fun q2 =>
    fX7_raggedAll_4 n ((l1 + q2.1)) ((l2 + 1)) q2.2
set_option maxRecDepth 4000 in
theorem tX7_raggedAll_4 : ∀ (n : Nat) (l1 : Int32) (l2 : Int32) (M : zMM) (q : Int32 × zMM), fX7_raggedAll_4 n l1 l2 M = some q → zEV iX7_raggedAll 0 0 (zZO (some (.inl q.1), q.2)) 4 [(0, .inr (.inr 158)), (1, .inl l1), (2, .inl l2)] [] M := by
  intro n
  induction n with
  | zero =>
    intro l1 l2 M q h
    rw [fX7_raggedAll_4] at h
    cases h
  | succ n ih =>
    intro l1 l2 M q h
    rw [fX7_raggedAll_4] at h
    refine zEV.iload_n dX7_raggedAll_4 rfl 2 rfl ?_
    refine zEV.aload_n dX7_raggedAll_5 rfl 0 rfl ?_
    refine zEV.gfi rfl inz7 11 (by decide) wf_RX7_144 (by decide) rfl rfl dX7_raggedAll_6 ?_
    refine zEV.icmp_ge 28 dX7_raggedAll_9 (by decide) (fun c1 => ?_) (fun c1 => ?_)
    · rw [if_pos c1] at h
      refine zEV.iload_n dX7_raggedAll_28 rfl 1 rfl ?_
      cases h
      exact zEV.iret rfl dX7_raggedAll_29
    · rw [if_neg c1] at h
      refine zEV.iload_n dX7_raggedAll_12 rfl 1 rfl ?_
      refine zEV.aload_n dX7_raggedAll_13 rfl 0 rfl ?_
      refine zEV.iload_n dX7_raggedAll_14 rfl 2 rfl ?_
      refine zEV.bipush (v := 7) dX7_raggedAll_15 rfl ?_
      obtain ⟨q2, hq2, h⟩ := bind_yes h
      refine zEV.callVi (kX7_told (l2) (7)  M q2 hq2) (by decide) rfl rfl wm_RX7_167 wc_X7_told hy_X7_told rfl ⟨Nat.le_of_ble_eq_true rfl, Nat.le_of_ble_eq_true rfl⟩ rfl (Nat.le_of_ble_eq_true rfl) dX7_raggedAll_17 ?_
      refine zEV.iadd dX7_raggedAll_20 ?_
      refine zEV.istore_n dX7_raggedAll_21 rfl (Nat.le_of_ble_eq_true rfl) rfl ?_
      refine zEV.iinc (v := (l2 + 1)) dX7_raggedAll_22 2 rfl rfl (Nat.le_of_ble_eq_true rfl) rfl ?_
      refine zEV.goto 4 dX7_raggedAll_25 (by decide) ?_
      exact zEV.perm [2, 1, 0] rfl (ih ((l1 + q2.1)) ((l2 + 1)) q2.2 q h)
def fX7_raggedAll (M : zMM) : Option (Int32 × zMM) :=
  fX7_raggedAll_4 zFU (0) (0) M
set_option maxRecDepth 4000 in
theorem tX7_raggedAll_0 (M : zMM) (q : Int32 × zMM) (h : fX7_raggedAll  M = some q) : zEV iX7_raggedAll 0 0 (zZO (some (.inl q.1), q.2)) 0 [(0, .inr (.inr 158))] [] M := by
  unfold fX7_raggedAll at h
  refine zEV.iconst (v := 0) dX7_raggedAll_0 rfl ?_
  refine zEV.istore_n dX7_raggedAll_1 rfl (Nat.le_of_ble_eq_true rfl) rfl ?_
  refine zEV.iconst (v := 0) dX7_raggedAll_2 rfl ?_
  refine zEV.istore_n dX7_raggedAll_3 rfl (Nat.le_of_ble_eq_true rfl) rfl ?_
  exact zEV.perm [2, 1, 0] rfl (tX7_raggedAll_4 zFU (0) (0) M q h)
theorem kX7_raggedAll (M : zMM) (q : Int32 × zMM) (h : fX7_raggedAll M = some q) : zCN yX7_raggedAll iX7_raggedAll [.inr (.inr 158)] M (some (.inl q.1), q.2) :=
  zCN.of (by decide) rfl rfl (Nat.le_of_ble_eq_true rfl) (zEV.perm [0] rfl (tX7_raggedAll_0 M q h))
-- RingedPageModel.isAhead
def fX7_isAhead (a1 : Int32) (a2 : Int32) (M : zMM) : Option (Int32 × zMM) :=
  (fX7_told (a1) (1) M).bind fun q1 =>
  (fX7_told (a2) (1) q1.2).bind fun q2 =>
  if q1.1 = q2.1 then
    (fX7_told (a1) (2) q2.2).bind fun q4 =>
    (fX7_told (a2) (2) q4.2).bind fun q5 =>
    if q4.1 = q5.1 then
      (fX7_told (a1) (0) q5.2).bind fun q7 =>
      (fX7_told (a2) (0) q7.2).bind fun q8 =>
      if q8.1 ≤ q7.1 then
        some (0, q8.2)
      else
        some (1, q8.2)
    else
      (fX7_told (a1) (2) q5.2).bind fun q10 =>
      (fX7_told (a2) (2) q10.2).bind fun q11 =>
      if q11.1 ≤ q10.1 then
        some (0, q11.2)
      else
        some (1, q11.2)
  else
    (fX7_told (a1) (1) q2.2).bind fun q13 =>
    (fX7_told (a2) (1) q13.2).bind fun q14 =>
    if q14.1 ≤ q13.1 then
      some (0, q14.2)
    else
      some (1, q14.2)
set_option maxRecDepth 4000 in
theorem tX7_isAhead_0 (a1 : Int32) (a2 : Int32) (M : zMM) (q : Int32 × zMM) (h : fX7_isAhead a1 a2  M = some q) : zEV iX7_isAhead 0 0 (zZO (some (.inl q.1), q.2)) 0 [(0, .inr (.inr 158)), (1, .inl a1), (2, .inl a2)] [] M := by
  unfold fX7_isAhead at h
  refine zEV.aload_n dX7_isAhead_0 rfl 0 rfl ?_
  refine zEV.iload_n dX7_isAhead_1 rfl 1 rfl ?_
  refine zEV.iconst (v := 1) dX7_isAhead_2 rfl ?_
  obtain ⟨q1, hq1, h⟩ := bind_yes h
  refine zEV.callVi (kX7_told (a1) (1)  M q1 hq1) (by decide) rfl rfl wm_RX7_167 wc_X7_told hy_X7_told rfl ⟨Nat.le_of_ble_eq_true rfl, Nat.le_of_ble_eq_true rfl⟩ rfl (Nat.le_of_ble_eq_true rfl) dX7_isAhead_3 ?_
  refine zEV.aload_n dX7_isAhead_6 rfl 0 rfl ?_
  refine zEV.iload_n dX7_isAhead_7 rfl 2 rfl ?_
  refine zEV.iconst (v := 1) dX7_isAhead_8 rfl ?_
  obtain ⟨q2, hq2, h⟩ := bind_yes h
  refine zEV.callVi (kX7_told (a2) (1)  q1.2 q2 hq2) (by decide) rfl rfl wm_RX7_167 wc_X7_told hy_X7_told rfl ⟨Nat.le_of_ble_eq_true rfl, Nat.le_of_ble_eq_true rfl⟩ rfl (Nat.le_of_ble_eq_true rfl) dX7_isAhead_9 ?_
  refine zEV.icmp_eq 36 dX7_isAhead_12 (by decide) (fun c3 => ?_) (fun c3 => ?_)
  · rw [if_pos c3] at h
    refine zEV.aload_n dX7_isAhead_36 rfl 0 rfl ?_
    refine zEV.iload_n dX7_isAhead_37 rfl 1 rfl ?_
    refine zEV.iconst (v := 2) dX7_isAhead_38 rfl ?_
    obtain ⟨q4, hq4, h⟩ := bind_yes h
    refine zEV.callVi (kX7_told (a1) (2)  q2.2 q4 hq4) (by decide) rfl rfl wm_RX7_167 wc_X7_told hy_X7_told rfl ⟨Nat.le_of_ble_eq_true rfl, Nat.le_of_ble_eq_true rfl⟩ rfl (Nat.le_of_ble_eq_true rfl) dX7_isAhead_39 ?_
    refine zEV.aload_n dX7_isAhead_42 rfl 0 rfl ?_
    refine zEV.iload_n dX7_isAhead_43 rfl 2 rfl ?_
    refine zEV.iconst (v := 2) dX7_isAhead_44 rfl ?_
    obtain ⟨q5, hq5, h⟩ := bind_yes h
    refine zEV.callVi (kX7_told (a2) (2)  q4.2 q5 hq5) (by decide) rfl rfl wm_RX7_167 wc_X7_told hy_X7_told rfl ⟨Nat.le_of_ble_eq_true rfl, Nat.le_of_ble_eq_true rfl⟩ rfl (Nat.le_of_ble_eq_true rfl) dX7_isAhead_45 ?_
    refine zEV.icmp_eq 74 dX7_isAhead_48 (by decide) (fun c6 => ?_) (fun c6 => ?_)
    · rw [if_pos c6] at h
      refine zEV.aload_n dX7_isAhead_74 rfl 0 rfl ?_
      refine zEV.iload_n dX7_isAhead_75 rfl 1 rfl ?_
      refine zEV.iconst (v := 0) dX7_isAhead_76 rfl ?_
      obtain ⟨q7, hq7, h⟩ := bind_yes h
      refine zEV.callVi (kX7_told (a1) (0)  q5.2 q7 hq7) (by decide) rfl rfl wm_RX7_167 wc_X7_told hy_X7_told rfl ⟨Nat.le_of_ble_eq_true rfl, Nat.le_of_ble_eq_true rfl⟩ rfl (Nat.le_of_ble_eq_true rfl) dX7_isAhead_77 ?_
      refine zEV.aload_n dX7_isAhead_80 rfl 0 rfl ?_
      refine zEV.iload_n dX7_isAhead_81 rfl 2 rfl ?_
      refine zEV.iconst (v := 0) dX7_isAhead_82 rfl ?_
      obtain ⟨q8, hq8, h⟩ := bind_yes h
      refine zEV.callVi (kX7_told (a2) (0)  q7.2 q8 hq8) (by decide) rfl rfl wm_RX7_167 wc_X7_told hy_X7_told rfl ⟨Nat.le_of_ble_eq_true rfl, Nat.le_of_ble_eq_true rfl⟩ rfl (Nat.le_of_ble_eq_true rfl) dX7_isAhead_83 ?_
      refine zEV.icmp_ge 93 dX7_isAhead_86 (by decide) (fun c9 => ?_) (fun c9 => ?_)
      · rw [if_pos c9] at h
        refine zEV.iconst (v := 0) dX7_isAhead_93 rfl ?_
        cases h
        exact zEV.zret rfl (Or.inl rfl) dX7_isAhead_94
      · rw [if_neg c9] at h
        refine zEV.iconst (v := 1) dX7_isAhead_89 rfl ?_
        refine zEV.goto 94 dX7_isAhead_90 (by decide) ?_
        cases h
        exact zEV.zret rfl (Or.inr rfl) dX7_isAhead_94
    · rw [if_neg c6] at h
      refine zEV.aload_n dX7_isAhead_51 rfl 0 rfl ?_
      refine zEV.iload_n dX7_isAhead_52 rfl 1 rfl ?_
      refine zEV.iconst (v := 2) dX7_isAhead_53 rfl ?_
      obtain ⟨q10, hq10, h⟩ := bind_yes h
      refine zEV.callVi (kX7_told (a1) (2)  q5.2 q10 hq10) (by decide) rfl rfl wm_RX7_167 wc_X7_told hy_X7_told rfl ⟨Nat.le_of_ble_eq_true rfl, Nat.le_of_ble_eq_true rfl⟩ rfl (Nat.le_of_ble_eq_true rfl) dX7_isAhead_54 ?_
      refine zEV.aload_n dX7_isAhead_57 rfl 0 rfl ?_
      refine zEV.iload_n dX7_isAhead_58 rfl 2 rfl ?_
      refine zEV.iconst (v := 2) dX7_isAhead_59 rfl ?_
      obtain ⟨q11, hq11, h⟩ := bind_yes h
      refine zEV.callVi (kX7_told (a2) (2)  q10.2 q11 hq11) (by decide) rfl rfl wm_RX7_167 wc_X7_told hy_X7_told rfl ⟨Nat.le_of_ble_eq_true rfl, Nat.le_of_ble_eq_true rfl⟩ rfl (Nat.le_of_ble_eq_true rfl) dX7_isAhead_60 ?_
      refine zEV.icmp_ge 70 dX7_isAhead_63 (by decide) (fun c12 => ?_) (fun c12 => ?_)
      · rw [if_pos c12] at h
        refine zEV.iconst (v := 0) dX7_isAhead_70 rfl ?_
        refine zEV.goto 94 dX7_isAhead_71 (by decide) ?_
        cases h
        exact zEV.zret rfl (Or.inl rfl) dX7_isAhead_94
      · rw [if_neg c12] at h
        refine zEV.iconst (v := 1) dX7_isAhead_66 rfl ?_
        refine zEV.goto 94 dX7_isAhead_67 (by decide) ?_
        cases h
        exact zEV.zret rfl (Or.inr rfl) dX7_isAhead_94
  · rw [if_neg c3] at h
    refine zEV.aload_n dX7_isAhead_15 rfl 0 rfl ?_
    refine zEV.iload_n dX7_isAhead_16 rfl 1 rfl ?_
    refine zEV.iconst (v := 1) dX7_isAhead_17 rfl ?_
    obtain ⟨q13, hq13, h⟩ := bind_yes h
    refine zEV.callVi (kX7_told (a1) (1)  q2.2 q13 hq13) (by decide) rfl rfl wm_RX7_167 wc_X7_told hy_X7_told rfl ⟨Nat.le_of_ble_eq_true rfl, Nat.le_of_ble_eq_true rfl⟩ rfl (Nat.le_of_ble_eq_true rfl) dX7_isAhead_18 ?_
    refine zEV.aload_n dX7_isAhead_21 rfl 0 rfl ?_
    refine zEV.iload_n dX7_isAhead_22 rfl 2 rfl ?_
    refine zEV.iconst (v := 1) dX7_isAhead_23 rfl ?_
    obtain ⟨q14, hq14, h⟩ := bind_yes h
    refine zEV.callVi (kX7_told (a2) (1)  q13.2 q14 hq14) (by decide) rfl rfl wm_RX7_167 wc_X7_told hy_X7_told rfl ⟨Nat.le_of_ble_eq_true rfl, Nat.le_of_ble_eq_true rfl⟩ rfl (Nat.le_of_ble_eq_true rfl) dX7_isAhead_24 ?_
    refine zEV.icmp_ge 34 dX7_isAhead_27 (by decide) (fun c15 => ?_) (fun c15 => ?_)
    · rw [if_pos c15] at h
      refine zEV.iconst (v := 0) dX7_isAhead_34 rfl ?_
      cases h
      exact zEV.zret rfl (Or.inl rfl) dX7_isAhead_35
    · rw [if_neg c15] at h
      refine zEV.iconst (v := 1) dX7_isAhead_30 rfl ?_
      refine zEV.goto 35 dX7_isAhead_31 (by decide) ?_
      cases h
      exact zEV.zret rfl (Or.inr rfl) dX7_isAhead_35
theorem kX7_isAhead (a1 : Int32) (a2 : Int32) (M : zMM) (q : Int32 × zMM) (h : fX7_isAhead a1 a2 M = some q) : zCN yX7_isAhead iX7_isAhead [.inr (.inr 158), .inl a1, .inl a2] M (some (.inl q.1), q.2) :=
  zCN.of (by decide) rfl rfl (Nat.le_of_ble_eq_true rfl) (zEV.perm [0, 1, 2] rfl (tX7_isAhead_0 a1 a2 M q h))
-- RingedPageModel.ragged
def fX7_ragged_173 (s0 : Int64) (M : zMM) : Option (Int32 × zMM) :=
  (fX7_tell (s0) M).bind fun q1 =>
  (fX7_raggedAll  q1).bind fun q2 =>
  some (q2.1, q2.2)
set_option maxRecDepth 4000 in
theorem tX7_ragged_173 (s0 : Int64) (M : zMM) (q : Int32 × zMM) (h : fX7_ragged_173 s0 M = some q) : zEV iX7_ragged 0 0 (zZO (some (.inl q.1), q.2)) 173 [(0, .inr (.inr 158))] [.inr (.inl s0), .inr (.inr 158)] M := by
  unfold fX7_ragged_173 at h
  obtain ⟨q1, hq1, h⟩ := bind_yes h
  refine zEV.callVv (kX7_tell (s0)  M q1 hq1) (by decide) rfl rfl wm_RX7_135 wc_X7_tell hy_X7_tell rfl ⟨Nat.le_of_ble_eq_true rfl, Nat.le_of_ble_eq_true rfl⟩ rfl (Nat.le_of_ble_eq_true rfl) dX7_ragged_173 ?_
  refine zEV.aload_n dX7_ragged_176 rfl 0 rfl ?_
  obtain ⟨q2, hq2, h⟩ := bind_yes h
  refine zEV.callVi (kX7_raggedAll   q1 q2 hq2) (by decide) rfl rfl wm_RX7_202 wc_X7_raggedAll hy_X7_raggedAll rfl ⟨Nat.le_of_ble_eq_true rfl, Nat.le_of_ble_eq_true rfl⟩ rfl (Nat.le_of_ble_eq_true rfl) dX7_ragged_177 ?_
  cases h
  exact zEV.iret rfl dX7_ragged_180
def fX7_ragged_153 (l1 : Int32) (s0 : Int64) (M : zMM) : Option (Int32 × zMM) :=
  (fX7_tell (s0) M).bind fun q1 =>
  if l1 = (-1) then
    fX7_ragged_173 ((0 : Int64)) q1
  else
    (fX7_told (l1) (0) q1).bind fun q3 =>
    fX7_ragged_173 ((Int32.toInt64 q3.1)) q3.2
set_option maxRecDepth 4000 in
theorem tX7_ragged_153 (l1 : Int32) (s0 : Int64) (M : zMM) (q : Int32 × zMM) (h : fX7_ragged_153 l1 s0 M = some q) : zEV iX7_ragged 0 0 (zZO (some (.inl q.1), q.2)) 153 [(0, .inr (.inr 158)), (1, .inl l1)] [.inr (.inl s0), .inr (.inr 158)] M := by
  unfold fX7_ragged_153 at h
  obtain ⟨q1, hq1, h⟩ := bind_yes h
  refine zEV.callVv (kX7_tell (s0)  M q1 hq1) (by decide) rfl rfl wm_RX7_135 wc_X7_tell hy_X7_tell rfl ⟨Nat.le_of_ble_eq_true rfl, Nat.le_of_ble_eq_true rfl⟩ rfl (Nat.le_of_ble_eq_true rfl) dX7_ragged_153 ?_
  refine zEV.aload_n dX7_ragged_156 rfl 0 rfl ?_
  refine zEV.iload_n dX7_ragged_157 rfl 1 rfl ?_
  refine zEV.iconst (v := (-1)) dX7_ragged_158 rfl ?_
  refine zEV.icmp_ne 166 dX7_ragged_159 (by decide) (fun c2 => ?_) (fun c2 => ?_)
  · rw [if_neg c2] at h
    refine zEV.aload_n dX7_ragged_166 rfl 0 rfl ?_
    refine zEV.iload_n dX7_ragged_167 rfl 1 rfl ?_
    refine zEV.iconst (v := 0) dX7_ragged_168 rfl ?_
    obtain ⟨q3, hq3, h⟩ := bind_yes h
    refine zEV.callVi (kX7_told (l1) (0)  q1 q3 hq3) (by decide) rfl rfl wm_RX7_167 wc_X7_told hy_X7_told rfl ⟨Nat.le_of_ble_eq_true rfl, Nat.le_of_ble_eq_true rfl⟩ rfl (Nat.le_of_ble_eq_true rfl) dX7_ragged_169 ?_
    refine zEV.i2l dX7_ragged_172 ?_
    exact zEV.perm [0] rfl (tX7_ragged_173 ((Int32.toInt64 q3.1)) q3.2 q h)
  · rw [if_pos c2] at h
    refine zEV.lconst (v := 0) dX7_ragged_162 rfl ?_
    refine zEV.goto 173 dX7_ragged_163 (by decide) ?_
    exact zEV.perm [0] rfl (tX7_ragged_173 ((0 : Int64)) q1 q h)
def fX7_ragged_133 (l1 : Int32) (s0 : Int64) (M : zMM) : Option (Int32 × zMM) :=
  (fX7_tell (s0) M).bind fun q1 =>
  if l1 = (-1) then
    fX7_ragged_153 (l1) ((0 : Int64)) q1
  else
    (fX7_told (l1) (2) q1).bind fun q3 =>
    fX7_ragged_153 (l1) ((Int32.toInt64 q3.1)) q3.2
set_option maxRecDepth 4000 in
theorem tX7_ragged_133 (l1 : Int32) (s0 : Int64) (M : zMM) (q : Int32 × zMM) (h : fX7_ragged_133 l1 s0 M = some q) : zEV iX7_ragged 0 0 (zZO (some (.inl q.1), q.2)) 133 [(0, .inr (.inr 158)), (1, .inl l1)] [.inr (.inl s0), .inr (.inr 158)] M := by
  unfold fX7_ragged_133 at h
  obtain ⟨q1, hq1, h⟩ := bind_yes h
  refine zEV.callVv (kX7_tell (s0)  M q1 hq1) (by decide) rfl rfl wm_RX7_135 wc_X7_tell hy_X7_tell rfl ⟨Nat.le_of_ble_eq_true rfl, Nat.le_of_ble_eq_true rfl⟩ rfl (Nat.le_of_ble_eq_true rfl) dX7_ragged_133 ?_
  refine zEV.aload_n dX7_ragged_136 rfl 0 rfl ?_
  refine zEV.iload_n dX7_ragged_137 rfl 1 rfl ?_
  refine zEV.iconst (v := (-1)) dX7_ragged_138 rfl ?_
  refine zEV.icmp_ne 146 dX7_ragged_139 (by decide) (fun c2 => ?_) (fun c2 => ?_)
  · rw [if_neg c2] at h
    refine zEV.aload_n dX7_ragged_146 rfl 0 rfl ?_
    refine zEV.iload_n dX7_ragged_147 rfl 1 rfl ?_
    refine zEV.iconst (v := 2) dX7_ragged_148 rfl ?_
    obtain ⟨q3, hq3, h⟩ := bind_yes h
    refine zEV.callVi (kX7_told (l1) (2)  q1 q3 hq3) (by decide) rfl rfl wm_RX7_167 wc_X7_told hy_X7_told rfl ⟨Nat.le_of_ble_eq_true rfl, Nat.le_of_ble_eq_true rfl⟩ rfl (Nat.le_of_ble_eq_true rfl) dX7_ragged_149 ?_
    refine zEV.i2l dX7_ragged_152 ?_
    exact zEV.perm [0, 1] rfl (tX7_ragged_153 (l1) ((Int32.toInt64 q3.1)) q3.2 q h)
  · rw [if_pos c2] at h
    refine zEV.lconst (v := 0) dX7_ragged_142 rfl ?_
    refine zEV.goto 153 dX7_ragged_143 (by decide) ?_
    exact zEV.perm [0, 1] rfl (tX7_ragged_153 (l1) ((0 : Int64)) q1 q h)
def fX7_ragged_113 (l1 : Int32) (s0 : Int64) (M : zMM) : Option (Int32 × zMM) :=
  (fX7_tell (s0) M).bind fun q1 =>
  if l1 = (-1) then
    fX7_ragged_133 (l1) ((0 : Int64)) q1
  else
    (fX7_told (l1) (1) q1).bind fun q3 =>
    fX7_ragged_133 (l1) ((Int32.toInt64 q3.1)) q3.2
set_option maxRecDepth 4000 in
theorem tX7_ragged_113 (l1 : Int32) (s0 : Int64) (M : zMM) (q : Int32 × zMM) (h : fX7_ragged_113 l1 s0 M = some q) : zEV iX7_ragged 0 0 (zZO (some (.inl q.1), q.2)) 113 [(0, .inr (.inr 158)), (1, .inl l1)] [.inr (.inl s0), .inr (.inr 158)] M := by
  unfold fX7_ragged_113 at h
  obtain ⟨q1, hq1, h⟩ := bind_yes h
  refine zEV.callVv (kX7_tell (s0)  M q1 hq1) (by decide) rfl rfl wm_RX7_135 wc_X7_tell hy_X7_tell rfl ⟨Nat.le_of_ble_eq_true rfl, Nat.le_of_ble_eq_true rfl⟩ rfl (Nat.le_of_ble_eq_true rfl) dX7_ragged_113 ?_
  refine zEV.aload_n dX7_ragged_116 rfl 0 rfl ?_
  refine zEV.iload_n dX7_ragged_117 rfl 1 rfl ?_
  refine zEV.iconst (v := (-1)) dX7_ragged_118 rfl ?_
  refine zEV.icmp_ne 126 dX7_ragged_119 (by decide) (fun c2 => ?_) (fun c2 => ?_)
  · rw [if_neg c2] at h
    refine zEV.aload_n dX7_ragged_126 rfl 0 rfl ?_
    refine zEV.iload_n dX7_ragged_127 rfl 1 rfl ?_
    refine zEV.iconst (v := 1) dX7_ragged_128 rfl ?_
    obtain ⟨q3, hq3, h⟩ := bind_yes h
    refine zEV.callVi (kX7_told (l1) (1)  q1 q3 hq3) (by decide) rfl rfl wm_RX7_167 wc_X7_told hy_X7_told rfl ⟨Nat.le_of_ble_eq_true rfl, Nat.le_of_ble_eq_true rfl⟩ rfl (Nat.le_of_ble_eq_true rfl) dX7_ragged_129 ?_
    refine zEV.i2l dX7_ragged_132 ?_
    exact zEV.perm [0, 1] rfl (tX7_ragged_133 (l1) ((Int32.toInt64 q3.1)) q3.2 q h)
  · rw [if_pos c2] at h
    refine zEV.lconst (v := 0) dX7_ragged_122 rfl ?_
    refine zEV.goto 133 dX7_ragged_123 (by decide) ?_
    exact zEV.perm [0, 1] rfl (tX7_ragged_133 (l1) ((0 : Int64)) q1 q h)
def fX7_ragged_84 (K13 : Int32 → Int32 → zMM → Option (Int32 × zMM)) (l1 : Int32) (l2 : Int32) (M : zMM) : Option (Int32 × zMM) :=
  K13 (l1) ((l2 + 1)) M
set_option maxRecDepth 4000 in
theorem tX7_ragged_84 (K13 : Int32 → Int32 → zMM → Option (Int32 × zMM)) (hK13 : ∀ (l1 : Int32) (l2 : Int32) (M : zMM) (q : Int32 × zMM), K13 l1 l2 M = some q → zEV iX7_ragged 0 0 (zZO (some (.inl q.1), q.2)) 13 [(0, .inr (.inr 158)), (1, .inl l1), (2, .inl l2)] [] M) (l1 : Int32) (l2 : Int32) (M : zMM) (q : Int32 × zMM) (h : fX7_ragged_84 K13 l1 l2 M = some q) : zEV iX7_ragged 0 0 (zZO (some (.inl q.1), q.2)) 84 [(0, .inr (.inr 158)), (1, .inl l1), (2, .inl l2)] [] M := by
  unfold fX7_ragged_84 at h
  refine zEV.iinc (v := (l2 + 1)) dX7_ragged_84 2 rfl rfl (Nat.le_of_ble_eq_true rfl) rfl ?_
  refine zEV.goto 13 dX7_ragged_87 (by decide) ?_
  exact zEV.perm [1, 2, 0] rfl (hK13 (l1) ((l2 + 1)) M q h)
def fX7_ragged_82 (K13 : Int32 → Int32 → zMM → Option (Int32 × zMM)) (l2 : Int32) (M : zMM) : Option (Int32 × zMM) :=
  fX7_ragged_84 K13 (l2) (l2) M
set_option maxRecDepth 4000 in
theorem tX7_ragged_82 (K13 : Int32 → Int32 → zMM → Option (Int32 × zMM)) (hK13 : ∀ (l1 : Int32) (l2 : Int32) (M : zMM) (q : Int32 × zMM), K13 l1 l2 M = some q → zEV iX7_ragged 0 0 (zZO (some (.inl q.1), q.2)) 13 [(0, .inr (.inr 158)), (1, .inl l1), (2, .inl l2)] [] M) (l2 : Int32) (M : zMM) (q : Int32 × zMM) (h : fX7_ragged_82 K13 l2 M = some q) : zEV iX7_ragged 0 0 (zZO (some (.inl q.1), q.2)) 82 [(0, .inr (.inr 158)), (2, .inl l2)] [] M := by
  unfold fX7_ragged_82 at h
  refine zEV.iload_n dX7_ragged_82 rfl 1 rfl ?_
  refine zEV.istore_n dX7_ragged_83 rfl (Nat.le_of_ble_eq_true rfl) rfl ?_
  exact zEV.perm [1, 0, 2] rfl (tX7_ragged_84 K13 hK13 (l2) (l2) M q h)
def fX7_ragged_13 : Nat → Int32 → Int32 → zMM → Option (Int32 × zMM)
  | 0, _, _, _ => none
  | n + 1, l1, l2, M =>
  if (M.1 158 11) ≤ l2 then
    if l1 = (-1) then
      fX7_ragged_113 (l1) ((0 : Int64)) (wr M 158 4 0)
    else
      (fX7_told (l1) (7) (wr M 158 4 0)).bind fun q3 =>
      fX7_ragged_113 (l1) ((Int32.toInt64 q3.1)) q3.2
  else
    (fX7_told (l2) (7) M).bind fun q4 =>
    if q4.1 = (0 : Int32) then
      fX7_ragged_84 (fX7_ragged_13 n) (l1) (l2) q4.2
    else
      if l1 = (-1) then
        fX7_ragged_82 (fX7_ragged_13 n) (l2) q4.2
      else
        (fX7_told (l2) (7) q4.2).bind fun q7 =>
        (fX7_told (l1) (7) q7.2).bind fun q8 =>
        if q8.1 < q7.1 then
          fX7_ragged_82 (fX7_ragged_13 n) (l2) q8.2
        else
          (fX7_told (l2) (7) q8.2).bind fun q10 =>
          (fX7_told (l1) (7) q10.2).bind fun q11 =>
          if q10.1 = q11.1 then
            (fX7_isAhead (l2) (l1) q11.2).bind fun q13 =>
            if q13.1 = (0 : Int32) then
              fX7_ragged_84 (fX7_ragged_13 n) (l1) (l2) q13.2
            else
              fX7_ragged_82 (fX7_ragged_13 n) (l2) q13.2
          else
            fX7_ragged_84 (fX7_ragged_13 n) (l1) (l2) q11.2
set_option maxRecDepth 4000 in
theorem tX7_ragged_13 : ∀ (n : Nat) (l1 : Int32) (l2 : Int32) (M : zMM) (q : Int32 × zMM), fX7_ragged_13 n l1 l2 M = some q → zEV iX7_ragged 0 0 (zZO (some (.inl q.1), q.2)) 13 [(0, .inr (.inr 158)), (1, .inl l1), (2, .inl l2)] [] M := by
  intro n
  induction n with
  | zero =>
    intro l1 l2 M q h
    rw [fX7_ragged_13] at h
    cases h
  | succ n ih =>
    intro l1 l2 M q h
    rw [fX7_ragged_13] at h
    refine zEV.iload_n dX7_ragged_13 rfl 2 rfl ?_
    refine zEV.aload_n dX7_ragged_14 rfl 0 rfl ?_
    refine zEV.gfi rfl inz7 11 (by decide) wf_RX7_144 (by decide) rfl rfl dX7_ragged_15 ?_
    refine zEV.icmp_ge 90 dX7_ragged_18 (by decide) (fun c1 => ?_) (fun c1 => ?_)
    · rw [if_pos c1] at h
      refine zEV.aload_n dX7_ragged_90 rfl 0 rfl ?_
      refine zEV.iconst (v := 0) dX7_ragged_91 rfl ?_
      refine zEV.pfi rfl inz7 tyX7 tyX7_ok nmX7 4 (by decide) wf_RX7_62 rfl (by decide +kernel) (by decide) rfl rfl dX7_ragged_92 ?_
      refine zEV.aload_n dX7_ragged_95 rfl 0 rfl ?_
      refine zEV.iload_n dX7_ragged_96 rfl 1 rfl ?_
      refine zEV.iconst (v := (-1)) dX7_ragged_97 rfl ?_
      refine zEV.icmp_ne 105 dX7_ragged_98 (by decide) (fun c2 => ?_) (fun c2 => ?_)
      · rw [if_neg c2] at h
        refine zEV.aload_n dX7_ragged_105 rfl 0 rfl ?_
        refine zEV.iload_n dX7_ragged_106 rfl 1 rfl ?_
        refine zEV.bipush (v := 7) dX7_ragged_107 rfl ?_
        obtain ⟨q3, hq3, h⟩ := bind_yes h
        refine zEV.callVi (kX7_told (l1) (7)  (wr M 158 4 0) q3 hq3) (by decide) rfl rfl wm_RX7_167 wc_X7_told hy_X7_told rfl ⟨Nat.le_of_ble_eq_true rfl, Nat.le_of_ble_eq_true rfl⟩ rfl (Nat.le_of_ble_eq_true rfl) dX7_ragged_109 ?_
        refine zEV.i2l dX7_ragged_112 ?_
        exact zEV.perm [0, 1] rfl (tX7_ragged_113 (l1) ((Int32.toInt64 q3.1)) q3.2 q h)
      · rw [if_pos c2] at h
        refine zEV.lconst (v := 0) dX7_ragged_101 rfl ?_
        refine zEV.goto 113 dX7_ragged_102 (by decide) ?_
        exact zEV.perm [0, 1] rfl (tX7_ragged_113 (l1) ((0 : Int64)) (wr M 158 4 0) q h)
    · rw [if_neg c1] at h
      refine zEV.aload_n dX7_ragged_21 rfl 0 rfl ?_
      refine zEV.iload_n dX7_ragged_22 rfl 2 rfl ?_
      refine zEV.bipush (v := 7) dX7_ragged_23 rfl ?_
      obtain ⟨q4, hq4, h⟩ := bind_yes h
      refine zEV.callVi (kX7_told (l2) (7)  M q4 hq4) (by decide) rfl rfl wm_RX7_167 wc_X7_told hy_X7_told rfl ⟨Nat.le_of_ble_eq_true rfl, Nat.le_of_ble_eq_true rfl⟩ rfl (Nat.le_of_ble_eq_true rfl) dX7_ragged_25 ?_
      refine zEV.if_ne 34 dX7_ragged_28 (by decide) (fun c5 => ?_) (fun c5 => ?_)
      · rw [if_neg c5] at h
        refine zEV.iload_n dX7_ragged_34 rfl 1 rfl ?_
        refine zEV.iconst (v := (-1)) dX7_ragged_35 rfl ?_
        refine zEV.icmp_eq 82 dX7_ragged_36 (by decide) (fun c6 => ?_) (fun c6 => ?_)
        · rw [if_pos c6] at h
          exact zEV.perm [0, 2] rfl (tX7_ragged_82 (fX7_ragged_13 n) (fun l1 l2 M9 q9 h9 => ih l1 l2 M9 q9 h9) (l2) q4.2 q h)
        · rw [if_neg c6] at h
          refine zEV.aload_n dX7_ragged_39 rfl 0 rfl ?_
          refine zEV.iload_n dX7_ragged_40 rfl 2 rfl ?_
          refine zEV.bipush (v := 7) dX7_ragged_41 rfl ?_
          obtain ⟨q7, hq7, h⟩ := bind_yes h
          refine zEV.callVi (kX7_told (l2) (7)  q4.2 q7 hq7) (by decide) rfl rfl wm_RX7_167 wc_X7_told hy_X7_told rfl ⟨Nat.le_of_ble_eq_true rfl, Nat.le_of_ble_eq_true rfl⟩ rfl (Nat.le_of_ble_eq_true rfl) dX7_ragged_43 ?_
          refine zEV.aload_n dX7_ragged_46 rfl 0 rfl ?_
          refine zEV.iload_n dX7_ragged_47 rfl 1 rfl ?_
          refine zEV.bipush (v := 7) dX7_ragged_48 rfl ?_
          obtain ⟨q8, hq8, h⟩ := bind_yes h
          refine zEV.callVi (kX7_told (l1) (7)  q7.2 q8 hq8) (by decide) rfl rfl wm_RX7_167 wc_X7_told hy_X7_told rfl ⟨Nat.le_of_ble_eq_true rfl, Nat.le_of_ble_eq_true rfl⟩ rfl (Nat.le_of_ble_eq_true rfl) dX7_ragged_50 ?_
          refine zEV.icmp_gt 82 dX7_ragged_53 (by decide) (fun c9 => ?_) (fun c9 => ?_)
          · rw [if_pos c9] at h
            exact zEV.perm [0, 2] rfl (tX7_ragged_82 (fX7_ragged_13 n) (fun l1 l2 M9 q9 h9 => ih l1 l2 M9 q9 h9) (l2) q8.2 q h)
          · rw [if_neg c9] at h
            refine zEV.aload_n dX7_ragged_56 rfl 0 rfl ?_
            refine zEV.iload_n dX7_ragged_57 rfl 2 rfl ?_
            refine zEV.bipush (v := 7) dX7_ragged_58 rfl ?_
            obtain ⟨q10, hq10, h⟩ := bind_yes h
            refine zEV.callVi (kX7_told (l2) (7)  q8.2 q10 hq10) (by decide) rfl rfl wm_RX7_167 wc_X7_told hy_X7_told rfl ⟨Nat.le_of_ble_eq_true rfl, Nat.le_of_ble_eq_true rfl⟩ rfl (Nat.le_of_ble_eq_true rfl) dX7_ragged_60 ?_
            refine zEV.aload_n dX7_ragged_63 rfl 0 rfl ?_
            refine zEV.iload_n dX7_ragged_64 rfl 1 rfl ?_
            refine zEV.bipush (v := 7) dX7_ragged_65 rfl ?_
            obtain ⟨q11, hq11, h⟩ := bind_yes h
            refine zEV.callVi (kX7_told (l1) (7)  q10.2 q11 hq11) (by decide) rfl rfl wm_RX7_167 wc_X7_told hy_X7_told rfl ⟨Nat.le_of_ble_eq_true rfl, Nat.le_of_ble_eq_true rfl⟩ rfl (Nat.le_of_ble_eq_true rfl) dX7_ragged_67 ?_
            refine zEV.icmp_ne 84 dX7_ragged_70 (by decide) (fun c12 => ?_) (fun c12 => ?_)
            · rw [if_neg c12] at h
              exact zEV.perm [0, 1, 2] rfl (tX7_ragged_84 (fX7_ragged_13 n) (fun l1 l2 M9 q9 h9 => ih l1 l2 M9 q9 h9) (l1) (l2) q11.2 q h)
            · rw [if_pos c12] at h
              refine zEV.aload_n dX7_ragged_73 rfl 0 rfl ?_
              refine zEV.iload_n dX7_ragged_74 rfl 2 rfl ?_
              refine zEV.iload_n dX7_ragged_75 rfl 1 rfl ?_
              obtain ⟨q13, hq13, h⟩ := bind_yes h
              refine zEV.callVi (kX7_isAhead (l2) (l1)  q11.2 q13 hq13) (by decide) rfl rfl wm_RX7_199 wc_X7_isAhead hy_X7_isAhead rfl ⟨Nat.le_of_ble_eq_true rfl, Nat.le_of_ble_eq_true rfl⟩ rfl (Nat.le_of_ble_eq_true rfl) dX7_ragged_76 ?_
              refine zEV.if_eq 84 dX7_ragged_79 (by decide) (fun c14 => ?_) (fun c14 => ?_)
              · rw [if_pos c14] at h
                exact zEV.perm [0, 1, 2] rfl (tX7_ragged_84 (fX7_ragged_13 n) (fun l1 l2 M9 q9 h9 => ih l1 l2 M9 q9 h9) (l1) (l2) q13.2 q h)
              · rw [if_neg c14] at h
                exact zEV.perm [0, 2] rfl (tX7_ragged_82 (fX7_ragged_13 n) (fun l1 l2 M9 q9 h9 => ih l1 l2 M9 q9 h9) (l2) q13.2 q h)
      · rw [if_pos c5] at h
        refine zEV.goto 84 dX7_ragged_31 (by decide) ?_
        exact zEV.perm [0, 1, 2] rfl (tX7_ragged_84 (fX7_ragged_13 n) (fun l1 l2 M9 q9 h9 => ih l1 l2 M9 q9 h9) (l1) (l2) q4.2 q h)
def fX7_ragged (M : zMM) : Option (Int32 × zMM) :=
  (fX7_set  (wr M 158 5 0)).bind fun q1 =>
  fX7_ragged_13 zFU ((-1)) (0) q1
set_option maxRecDepth 4000 in
theorem tX7_ragged_0 (M : zMM) (q : Int32 × zMM) (h : fX7_ragged  M = some q) : zEV iX7_ragged 0 0 (zZO (some (.inl q.1), q.2)) 0 [(0, .inr (.inr 158))] [] M := by
  unfold fX7_ragged at h
  refine zEV.aload_n dX7_ragged_0 rfl 0 rfl ?_
  refine zEV.iconst (v := 0) dX7_ragged_1 rfl ?_
  refine zEV.pfi rfl inz7 tyX7 tyX7_ok nmX7 5 (by decide) wf_RX7_58 rfl (by decide +kernel) (by decide) rfl rfl dX7_ragged_2 ?_
  refine zEV.aload_n dX7_ragged_5 rfl 0 rfl ?_
  obtain ⟨q1, hq1, h⟩ := bind_yes h
  refine zEV.callVv (kX7_set   (wr M 158 5 0) q1 hq1) (by decide) rfl rfl wm_RX7_164 wc_X7_set hy_X7_set rfl ⟨Nat.le_of_ble_eq_true rfl, Nat.le_of_ble_eq_true rfl⟩ rfl (Nat.le_of_ble_eq_true rfl) dX7_ragged_6 ?_
  refine zEV.iconst (v := (-1)) dX7_ragged_9 rfl ?_
  refine zEV.istore_n dX7_ragged_10 rfl (Nat.le_of_ble_eq_true rfl) rfl ?_
  refine zEV.iconst (v := 0) dX7_ragged_11 rfl ?_
  refine zEV.istore_n dX7_ragged_12 rfl (Nat.le_of_ble_eq_true rfl) rfl ?_
  exact zEV.perm [2, 1, 0] rfl (tX7_ragged_13 zFU ((-1)) (0) q1 q h)
theorem kX7_ragged (M : zMM) (q : Int32 × zMM) (h : fX7_ragged M = some q) : zCN yX7_ragged iX7_ragged [.inr (.inr 158)] M (some (.inl q.1), q.2) :=
  zCN.of (by decide) rfl rfl (Nat.le_of_ble_eq_true rfl) (zEV.perm [0] rfl (tX7_ragged_0 M q h))
-- RingedPageModel.deepOf
def fX7_deepOf (a1 : Int32) (M : zMM) : Option (Int32 × zMM) :=
  (fX7_tied (a1) (0) M).bind fun q1 =>
  (fX7_tied (a1) (1) q1.2).bind fun q2 =>
  (fX7_placeOf (q1.1) (q2.1) q2.2).bind fun q3 =>
  (fX7_tied (a1) (2) q3.2).bind fun q4 =>
  (fX7_placeOf (0) (q4.1) q4.2).bind fun q5 =>
  some ((q3.1 - q5.1), q5.2)
set_option maxRecDepth 4000 in
theorem tX7_deepOf_0 (a1 : Int32) (M : zMM) (q : Int32 × zMM) (h : fX7_deepOf a1  M = some q) : zEV iX7_deepOf 0 0 (zZO (some (.inl q.1), q.2)) 0 [(0, .inr (.inr 158)), (1, .inl a1)] [] M := by
  unfold fX7_deepOf at h
  refine zEV.aload_n dX7_deepOf_0 rfl 0 rfl ?_
  refine zEV.aload_n dX7_deepOf_1 rfl 0 rfl ?_
  refine zEV.iload_n dX7_deepOf_2 rfl 1 rfl ?_
  refine zEV.iconst (v := 0) dX7_deepOf_3 rfl ?_
  obtain ⟨q1, hq1, h⟩ := bind_yes h
  refine zEV.callVi (kX7_tied (a1) (0)  M q1 hq1) (by decide) rfl rfl wm_RX7_110 wc_X7_tied hy_X7_tied rfl ⟨Nat.le_of_ble_eq_true rfl, Nat.le_of_ble_eq_true rfl⟩ rfl (Nat.le_of_ble_eq_true rfl) dX7_deepOf_4 ?_
  refine zEV.aload_n dX7_deepOf_7 rfl 0 rfl ?_
  refine zEV.iload_n dX7_deepOf_8 rfl 1 rfl ?_
  refine zEV.iconst (v := 1) dX7_deepOf_9 rfl ?_
  obtain ⟨q2, hq2, h⟩ := bind_yes h
  refine zEV.callVi (kX7_tied (a1) (1)  q1.2 q2 hq2) (by decide) rfl rfl wm_RX7_110 wc_X7_tied hy_X7_tied rfl ⟨Nat.le_of_ble_eq_true rfl, Nat.le_of_ble_eq_true rfl⟩ rfl (Nat.le_of_ble_eq_true rfl) dX7_deepOf_10 ?_
  obtain ⟨q3, hq3, h⟩ := bind_yes h
  refine zEV.callVi (kX7_placeOf (q1.1) (q2.1)  q2.2 q3 hq3) (by decide) rfl rfl wm_RX7_186 wc_X7_placeOf hy_X7_placeOf rfl ⟨Nat.le_of_ble_eq_true rfl, Nat.le_of_ble_eq_true rfl⟩ rfl (Nat.le_of_ble_eq_true rfl) dX7_deepOf_13 ?_
  refine zEV.aload_n dX7_deepOf_16 rfl 0 rfl ?_
  refine zEV.iconst (v := 0) dX7_deepOf_17 rfl ?_
  refine zEV.aload_n dX7_deepOf_18 rfl 0 rfl ?_
  refine zEV.iload_n dX7_deepOf_19 rfl 1 rfl ?_
  refine zEV.iconst (v := 2) dX7_deepOf_20 rfl ?_
  obtain ⟨q4, hq4, h⟩ := bind_yes h
  refine zEV.callVi (kX7_tied (a1) (2)  q3.2 q4 hq4) (by decide) rfl rfl wm_RX7_110 wc_X7_tied hy_X7_tied rfl ⟨Nat.le_of_ble_eq_true rfl, Nat.le_of_ble_eq_true rfl⟩ rfl (Nat.le_of_ble_eq_true rfl) dX7_deepOf_21 ?_
  obtain ⟨q5, hq5, h⟩ := bind_yes h
  refine zEV.callVi (kX7_placeOf (0) (q4.1)  q4.2 q5 hq5) (by decide) rfl rfl wm_RX7_186 wc_X7_placeOf hy_X7_placeOf rfl ⟨Nat.le_of_ble_eq_true rfl, Nat.le_of_ble_eq_true rfl⟩ rfl (Nat.le_of_ble_eq_true rfl) dX7_deepOf_24 ?_
  refine zEV.isub dX7_deepOf_27 ?_
  cases h
  exact zEV.iret rfl dX7_deepOf_28
theorem kX7_deepOf (a1 : Int32) (M : zMM) (q : Int32 × zMM) (h : fX7_deepOf a1 M = some q) : zCN yX7_deepOf iX7_deepOf [.inr (.inr 158), .inl a1] M (some (.inl q.1), q.2) :=
  zCN.of (by decide) rfl rfl (Nat.le_of_ble_eq_true rfl) (zEV.perm [0, 1] rfl (tX7_deepOf_0 a1 M q h))
-- RingedPageModel.isBroken
def fX7_isBroken (a1 : Int32) (M : zMM) : Option (Int32 × zMM) :=
  (fX7_deepOf (a1) M).bind fun q1 =>
  (fX7_in (q1.1) (0) (6) q1.2).bind fun q2 =>
  if q2.1 = (0 : Int32) then
    some (1, q2.2)
  else
    some (0, q2.2)
set_option maxRecDepth 4000 in
theorem tX7_isBroken_0 (a1 : Int32) (M : zMM) (q : Int32 × zMM) (h : fX7_isBroken a1  M = some q) : zEV iX7_isBroken 0 0 (zZO (some (.inl q.1), q.2)) 0 [(0, .inr (.inr 158)), (1, .inl a1)] [] M := by
  unfold fX7_isBroken at h
  refine zEV.aload_n dX7_isBroken_0 rfl 0 rfl ?_
  refine zEV.iload_n dX7_isBroken_1 rfl 1 rfl ?_
  obtain ⟨q1, hq1, h⟩ := bind_yes h
  refine zEV.callVi (kX7_deepOf (a1)  M q1 hq1) (by decide) rfl rfl wm_RX7_205 wc_X7_deepOf hy_X7_deepOf rfl ⟨Nat.le_of_ble_eq_true rfl, Nat.le_of_ble_eq_true rfl⟩ rfl (Nat.le_of_ble_eq_true rfl) dX7_isBroken_2 ?_
  refine zEV.iconst (v := 0) dX7_isBroken_5 rfl ?_
  refine zEV.bipush (v := 6) dX7_isBroken_6 rfl ?_
  obtain ⟨q2, hq2, h⟩ := bind_yes h
  refine zEV.callSi (kX7_in (q1.1) (0) (6)  q1.2 q2 hq2) wm_RX7_65 wc_X7_in hy_X7_in rfl ⟨Nat.le_of_ble_eq_true rfl, Nat.le_of_ble_eq_true rfl⟩ rfl (Nat.le_of_ble_eq_true rfl) dX7_isBroken_8 ?_
  refine zEV.if_ne 18 dX7_isBroken_11 (by decide) (fun c3 => ?_) (fun c3 => ?_)
  · rw [if_neg c3] at h
    refine zEV.iconst (v := 0) dX7_isBroken_18 rfl ?_
    cases h
    exact zEV.zret rfl (Or.inl rfl) dX7_isBroken_19
  · rw [if_pos c3] at h
    refine zEV.iconst (v := 1) dX7_isBroken_14 rfl ?_
    refine zEV.goto 19 dX7_isBroken_15 (by decide) ?_
    cases h
    exact zEV.zret rfl (Or.inr rfl) dX7_isBroken_19
theorem kX7_isBroken (a1 : Int32) (M : zMM) (q : Int32 × zMM) (h : fX7_isBroken a1 M = some q) : zCN yX7_isBroken iX7_isBroken [.inr (.inr 158), .inl a1] M (some (.inl q.1), q.2) :=
  zCN.of (by decide) rfl rfl (Nat.le_of_ble_eq_true rfl) (zEV.perm [0, 1] rfl (tX7_isBroken_0 a1 M q h))
-- RingedPageModel.brokenMany
def fX7_brokenMany_30 (K4 : Int32 → Int32 → zMM → Option (Int32 × zMM)) (l2 : Int32) (s0 : Int32) (s1 : Int32) (M : zMM) : Option (Int32 × zMM) :=
  K4 ((s1 + s0)) ((l2 + 1)) M
set_option maxRecDepth 4000 in
theorem tX7_brokenMany_30 (K4 : Int32 → Int32 → zMM → Option (Int32 × zMM)) (hK4 : ∀ (l1 : Int32) (l2 : Int32) (M : zMM) (q : Int32 × zMM), K4 l1 l2 M = some q → zEV iX7_brokenMany 0 0 (zZO (some (.inl q.1), q.2)) 4 [(0, .inr (.inr 158)), (1, .inl l1), (2, .inl l2)] [] M) (l2 : Int32) (s0 : Int32) (s1 : Int32) (M : zMM) (q : Int32 × zMM) (h : fX7_brokenMany_30 K4 l2 s0 s1 M = some q) : zEV iX7_brokenMany 0 0 (zZO (some (.inl q.1), q.2)) 30 [(0, .inr (.inr 158)), (2, .inl l2)] [.inl s0, .inl s1] M := by
  unfold fX7_brokenMany_30 at h
  refine zEV.iadd dX7_brokenMany_30 ?_
  refine zEV.istore_n dX7_brokenMany_31 rfl (Nat.le_of_ble_eq_true rfl) rfl ?_
  refine zEV.iinc (v := (l2 + 1)) dX7_brokenMany_32 2 rfl rfl (Nat.le_of_ble_eq_true rfl) rfl ?_
  refine zEV.goto 4 dX7_brokenMany_35 (by decide) ?_
  exact zEV.perm [2, 1, 0] rfl (hK4 ((s1 + s0)) ((l2 + 1)) M q h)
def fX7_brokenMany_4 : Nat → Int32 → Int32 → zMM → Option (Int32 × zMM)
  | 0, _, _, _ => none
  | n + 1, l1, l2, M =>
  if oob (218) 259 then none else
  if (M.1 159 (Int32.toNatClampNeg 218)) ≤ l2 then
    some (l1, M)
  else
    (fX7_isBroken (l2) M).bind fun q3 =>
    if q3.1 = (0 : Int32) then
      fX7_brokenMany_30 (fX7_brokenMany_4 n) (l2) (0) (l1) q3.2
    else
      fX7_brokenMany_30 (fX7_brokenMany_4 n) (l2) (1) (l1) q3.2
set_option maxRecDepth 4000 in
theorem tX7_brokenMany_4 : ∀ (n : Nat) (l1 : Int32) (l2 : Int32) (M : zMM) (q : Int32 × zMM), fX7_brokenMany_4 n l1 l2 M = some q → zEV iX7_brokenMany 0 0 (zZO (some (.inl q.1), q.2)) 4 [(0, .inr (.inr 158)), (1, .inl l1), (2, .inl l2)] [] M := by
  intro n
  induction n with
  | zero =>
    intro l1 l2 M q h
    rw [fX7_brokenMany_4] at h
    cases h
  | succ n ih =>
    intro l1 l2 M q h
    rw [fX7_brokenMany_4] at h
    refine zEV.iload_n dX7_brokenMany_4 rfl 2 rfl ?_
    refine zEV.aload_n dX7_brokenMany_5 rfl 0 rfl ?_
    refine zEV.gfr rfl inz7 0 (by decide) wf_RX7_9 (by decide) rfl rfl dX7_brokenMany_6 ?_
    refine zEV.sipush (v := 218) dX7_brokenMany_9 rfl ?_
    obtain ⟨g1, h⟩ := ite_no h
    refine zEV.iald (by decide) rfl g1 dX7_brokenMany_12 ?_
    refine zEV.icmp_ge 38 dX7_brokenMany_13 (by decide) (fun c2 => ?_) (fun c2 => ?_)
    · rw [if_pos c2] at h
      refine zEV.iload_n dX7_brokenMany_38 rfl 1 rfl ?_
      cases h
      exact zEV.iret rfl dX7_brokenMany_39
    · rw [if_neg c2] at h
      refine zEV.iload_n dX7_brokenMany_16 rfl 1 rfl ?_
      refine zEV.aload_n dX7_brokenMany_17 rfl 0 rfl ?_
      refine zEV.iload_n dX7_brokenMany_18 rfl 2 rfl ?_
      obtain ⟨q3, hq3, h⟩ := bind_yes h
      refine zEV.callVi (kX7_isBroken (l2)  M q3 hq3) (by decide) rfl rfl wm_RX7_208 wc_X7_isBroken hy_X7_isBroken rfl ⟨Nat.le_of_ble_eq_true rfl, Nat.le_of_ble_eq_true rfl⟩ rfl (Nat.le_of_ble_eq_true rfl) dX7_brokenMany_19 ?_
      refine zEV.if_eq 29 dX7_brokenMany_22 (by decide) (fun c4 => ?_) (fun c4 => ?_)
      · rw [if_pos c4] at h
        refine zEV.iconst (v := 0) dX7_brokenMany_29 rfl ?_
        exact zEV.perm [0, 2] rfl (tX7_brokenMany_30 (fX7_brokenMany_4 n) (fun l1 l2 M9 q9 h9 => ih l1 l2 M9 q9 h9) (l2) (0) (l1) q3.2 q h)
      · rw [if_neg c4] at h
        refine zEV.iconst (v := 1) dX7_brokenMany_25 rfl ?_
        refine zEV.goto 30 dX7_brokenMany_26 (by decide) ?_
        exact zEV.perm [0, 2] rfl (tX7_brokenMany_30 (fX7_brokenMany_4 n) (fun l1 l2 M9 q9 h9 => ih l1 l2 M9 q9 h9) (l2) (1) (l1) q3.2 q h)
def fX7_brokenMany (M : zMM) : Option (Int32 × zMM) :=
  fX7_brokenMany_4 zFU (0) (0) M
set_option maxRecDepth 4000 in
theorem tX7_brokenMany_0 (M : zMM) (q : Int32 × zMM) (h : fX7_brokenMany  M = some q) : zEV iX7_brokenMany 0 0 (zZO (some (.inl q.1), q.2)) 0 [(0, .inr (.inr 158))] [] M := by
  unfold fX7_brokenMany at h
  refine zEV.iconst (v := 0) dX7_brokenMany_0 rfl ?_
  refine zEV.istore_n dX7_brokenMany_1 rfl (Nat.le_of_ble_eq_true rfl) rfl ?_
  refine zEV.iconst (v := 0) dX7_brokenMany_2 rfl ?_
  refine zEV.istore_n dX7_brokenMany_3 rfl (Nat.le_of_ble_eq_true rfl) rfl ?_
  exact zEV.perm [2, 1, 0] rfl (tX7_brokenMany_4 zFU (0) (0) M q h)
theorem kX7_brokenMany (M : zMM) (q : Int32 × zMM) (h : fX7_brokenMany M = some q) : zCN yX7_brokenMany iX7_brokenMany [.inr (.inr 158)] M (some (.inl q.1), q.2) :=
  zCN.of (by decide) rfl rfl (Nat.le_of_ble_eq_true rfl) (zEV.perm [0] rfl (tX7_brokenMany_0 M q h))
-- RingedPageModel.costOf
def fX7_costOf (M : zMM) : Option (Int32 × zMM) :=
  if oob (256) 259 then none else
  (fX7_apartOf  M).bind fun q2 =>
  if oob (257) 259 then none else
  (fX7_brokenMany  q2.2).bind fun q4 =>
  if oob (258) 259 then none else
  (fX7_raggedAll  q4.2).bind fun q6 =>
  some (((((M.1 159 (Int32.toNatClampNeg 256)) * q2.1) + ((q2.2.1 159 (Int32.toNatClampNeg 257)) * q4.1)) + ((q4.2.1 159 (Int32.toNatClampNeg 258)) * q6.1)), q6.2)
set_option maxRecDepth 4000 in
theorem tX7_costOf_0 (M : zMM) (q : Int32 × zMM) (h : fX7_costOf  M = some q) : zEV iX7_costOf 0 0 (zZO (some (.inl q.1), q.2)) 0 [(0, .inr (.inr 158))] [] M := by
  unfold fX7_costOf at h
  refine zEV.aload_n dX7_costOf_0 rfl 0 rfl ?_
  refine zEV.gfr rfl inz7 0 (by decide) wf_RX7_9 (by decide) rfl rfl dX7_costOf_1 ?_
  refine zEV.sipush (v := 256) dX7_costOf_4 rfl ?_
  obtain ⟨g1, h⟩ := ite_no h
  refine zEV.iald (by decide) rfl g1 dX7_costOf_7 ?_
  refine zEV.aload_n dX7_costOf_8 rfl 0 rfl ?_
  obtain ⟨q2, hq2, h⟩ := bind_yes h
  refine zEV.callVi (kX7_apartOf   M q2 hq2) (by decide) rfl rfl wm_RX7_196 wc_X7_apartOf hy_X7_apartOf rfl ⟨Nat.le_of_ble_eq_true rfl, Nat.le_of_ble_eq_true rfl⟩ rfl (Nat.le_of_ble_eq_true rfl) dX7_costOf_9 ?_
  refine zEV.imul dX7_costOf_12 ?_
  refine zEV.aload_n dX7_costOf_13 rfl 0 rfl ?_
  refine zEV.gfr rfl inz7 0 (by decide) wf_RX7_9 (by decide) rfl rfl dX7_costOf_14 ?_
  refine zEV.sipush (v := 257) dX7_costOf_17 rfl ?_
  obtain ⟨g3, h⟩ := ite_no h
  refine zEV.iald (by decide) rfl g3 dX7_costOf_20 ?_
  refine zEV.aload_n dX7_costOf_21 rfl 0 rfl ?_
  obtain ⟨q4, hq4, h⟩ := bind_yes h
  refine zEV.callVi (kX7_brokenMany   q2.2 q4 hq4) (by decide) rfl rfl wm_RX7_211 wc_X7_brokenMany hy_X7_brokenMany rfl ⟨Nat.le_of_ble_eq_true rfl, Nat.le_of_ble_eq_true rfl⟩ rfl (Nat.le_of_ble_eq_true rfl) dX7_costOf_22 ?_
  refine zEV.imul dX7_costOf_25 ?_
  refine zEV.iadd dX7_costOf_26 ?_
  refine zEV.aload_n dX7_costOf_27 rfl 0 rfl ?_
  refine zEV.gfr rfl inz7 0 (by decide) wf_RX7_9 (by decide) rfl rfl dX7_costOf_28 ?_
  refine zEV.sipush (v := 258) dX7_costOf_31 rfl ?_
  obtain ⟨g5, h⟩ := ite_no h
  refine zEV.iald (by decide) rfl g5 dX7_costOf_34 ?_
  refine zEV.aload_n dX7_costOf_35 rfl 0 rfl ?_
  obtain ⟨q6, hq6, h⟩ := bind_yes h
  refine zEV.callVi (kX7_raggedAll   q4.2 q6 hq6) (by decide) rfl rfl wm_RX7_202 wc_X7_raggedAll hy_X7_raggedAll rfl ⟨Nat.le_of_ble_eq_true rfl, Nat.le_of_ble_eq_true rfl⟩ rfl (Nat.le_of_ble_eq_true rfl) dX7_costOf_36 ?_
  refine zEV.imul dX7_costOf_39 ?_
  refine zEV.iadd dX7_costOf_40 ?_
  cases h
  exact zEV.iret rfl dX7_costOf_41
theorem kX7_costOf (M : zMM) (q : Int32 × zMM) (h : fX7_costOf M = some q) : zCN yX7_costOf iX7_costOf [.inr (.inr 158)] M (some (.inl q.1), q.2) :=
  zCN.of (by decide) rfl rfl (Nat.le_of_ble_eq_true rfl) (zEV.perm [0] rfl (tX7_costOf_0 M q h))
-- RingedPageModel.costNow
def fX7_costNow (M : zMM) : Option (Int32 × zMM) :=
  (fX7_set  M).bind fun q1 =>
  (fX7_costOf  q1).bind fun q2 =>
  some (q2.1, q2.2)
set_option maxRecDepth 4000 in
theorem tX7_costNow_0 (M : zMM) (q : Int32 × zMM) (h : fX7_costNow  M = some q) : zEV iX7_costNow 0 0 (zZO (some (.inl q.1), q.2)) 0 [(0, .inr (.inr 158))] [] M := by
  unfold fX7_costNow at h
  refine zEV.aload_n dX7_costNow_0 rfl 0 rfl ?_
  obtain ⟨q1, hq1, h⟩ := bind_yes h
  refine zEV.callVv (kX7_set   M q1 hq1) (by decide) rfl rfl wm_RX7_164 wc_X7_set hy_X7_set rfl ⟨Nat.le_of_ble_eq_true rfl, Nat.le_of_ble_eq_true rfl⟩ rfl (Nat.le_of_ble_eq_true rfl) dX7_costNow_1 ?_
  refine zEV.aload_n dX7_costNow_4 rfl 0 rfl ?_
  obtain ⟨q2, hq2, h⟩ := bind_yes h
  refine zEV.callVi (kX7_costOf   q1 q2 hq2) (by decide) rfl rfl wm_RX7_214 wc_X7_costOf hy_X7_costOf rfl ⟨Nat.le_of_ble_eq_true rfl, Nat.le_of_ble_eq_true rfl⟩ rfl (Nat.le_of_ble_eq_true rfl) dX7_costNow_5 ?_
  cases h
  exact zEV.iret rfl dX7_costNow_8
theorem kX7_costNow (M : zMM) (q : Int32 × zMM) (h : fX7_costNow M = some q) : zCN yX7_costNow iX7_costNow [.inr (.inr 158)] M (some (.inl q.1), q.2) :=
  zCN.of (by decide) rfl rfl (Nat.le_of_ble_eq_true rfl) (zEV.perm [0] rfl (tX7_costNow_0 M q h))
-- RingedPageModel.cost
def fX7_cost (M : zMM) : Option (Int32 × zMM) :=
  (fX7_costNow  (wr M 158 5 0)).bind fun q1 =>
  (fX7_apartOf  (wr q1.2 158 4 0)).bind fun q2 =>
  (fX7_tell ((Int32.toInt64 q2.1)) q2.2).bind fun q3 =>
  (fX7_brokenMany  q3).bind fun q4 =>
  (fX7_tell ((Int32.toInt64 q4.1)) q4.2).bind fun q5 =>
  (fX7_raggedAll  q5).bind fun q6 =>
  (fX7_tell ((Int32.toInt64 q6.1)) q6.2).bind fun q7 =>
  some (q1.1, q7)
set_option maxRecDepth 4000 in
theorem tX7_cost_0 (M : zMM) (q : Int32 × zMM) (h : fX7_cost  M = some q) : zEV iX7_cost 0 0 (zZO (some (.inl q.1), q.2)) 0 [(0, .inr (.inr 158))] [] M := by
  unfold fX7_cost at h
  refine zEV.aload_n dX7_cost_0 rfl 0 rfl ?_
  refine zEV.iconst (v := 0) dX7_cost_1 rfl ?_
  refine zEV.pfi rfl inz7 tyX7 tyX7_ok nmX7 5 (by decide) wf_RX7_58 rfl (by decide +kernel) (by decide) rfl rfl dX7_cost_2 ?_
  refine zEV.aload_n dX7_cost_5 rfl 0 rfl ?_
  obtain ⟨q1, hq1, h⟩ := bind_yes h
  refine zEV.callVi (kX7_costNow   (wr M 158 5 0) q1 hq1) (by decide) rfl rfl wm_RX7_217 wc_X7_costNow hy_X7_costNow rfl ⟨Nat.le_of_ble_eq_true rfl, Nat.le_of_ble_eq_true rfl⟩ rfl (Nat.le_of_ble_eq_true rfl) dX7_cost_6 ?_
  refine zEV.istore_n dX7_cost_9 rfl (Nat.le_of_ble_eq_true rfl) rfl ?_
  refine zEV.aload_n dX7_cost_10 rfl 1 rfl ?_
  refine zEV.iconst (v := 0) dX7_cost_11 rfl ?_
  refine zEV.pfi rfl inz7 tyX7 tyX7_ok nmX7 4 (by decide) wf_RX7_62 rfl (by decide +kernel) (by decide) rfl rfl dX7_cost_12 ?_
  refine zEV.aload_n dX7_cost_15 rfl 1 rfl ?_
  refine zEV.aload_n dX7_cost_16 rfl 1 rfl ?_
  obtain ⟨q2, hq2, h⟩ := bind_yes h
  refine zEV.callVi (kX7_apartOf   (wr q1.2 158 4 0) q2 hq2) (by decide) rfl rfl wm_RX7_196 wc_X7_apartOf hy_X7_apartOf rfl ⟨Nat.le_of_ble_eq_true rfl, Nat.le_of_ble_eq_true rfl⟩ rfl (Nat.le_of_ble_eq_true rfl) dX7_cost_17 ?_
  refine zEV.i2l dX7_cost_20 ?_
  obtain ⟨q3, hq3, h⟩ := bind_yes h
  refine zEV.callVv (kX7_tell ((Int32.toInt64 q2.1))  q2.2 q3 hq3) (by decide) rfl rfl wm_RX7_135 wc_X7_tell hy_X7_tell rfl ⟨Nat.le_of_ble_eq_true rfl, Nat.le_of_ble_eq_true rfl⟩ rfl (Nat.le_of_ble_eq_true rfl) dX7_cost_21 ?_
  refine zEV.aload_n dX7_cost_24 rfl 1 rfl ?_
  refine zEV.aload_n dX7_cost_25 rfl 1 rfl ?_
  obtain ⟨q4, hq4, h⟩ := bind_yes h
  refine zEV.callVi (kX7_brokenMany   q3 q4 hq4) (by decide) rfl rfl wm_RX7_211 wc_X7_brokenMany hy_X7_brokenMany rfl ⟨Nat.le_of_ble_eq_true rfl, Nat.le_of_ble_eq_true rfl⟩ rfl (Nat.le_of_ble_eq_true rfl) dX7_cost_26 ?_
  refine zEV.i2l dX7_cost_29 ?_
  obtain ⟨q5, hq5, h⟩ := bind_yes h
  refine zEV.callVv (kX7_tell ((Int32.toInt64 q4.1))  q4.2 q5 hq5) (by decide) rfl rfl wm_RX7_135 wc_X7_tell hy_X7_tell rfl ⟨Nat.le_of_ble_eq_true rfl, Nat.le_of_ble_eq_true rfl⟩ rfl (Nat.le_of_ble_eq_true rfl) dX7_cost_30 ?_
  refine zEV.aload_n dX7_cost_33 rfl 1 rfl ?_
  refine zEV.aload_n dX7_cost_34 rfl 1 rfl ?_
  obtain ⟨q6, hq6, h⟩ := bind_yes h
  refine zEV.callVi (kX7_raggedAll   q5 q6 hq6) (by decide) rfl rfl wm_RX7_202 wc_X7_raggedAll hy_X7_raggedAll rfl ⟨Nat.le_of_ble_eq_true rfl, Nat.le_of_ble_eq_true rfl⟩ rfl (Nat.le_of_ble_eq_true rfl) dX7_cost_35 ?_
  refine zEV.i2l dX7_cost_38 ?_
  obtain ⟨q7, hq7, h⟩ := bind_yes h
  refine zEV.callVv (kX7_tell ((Int32.toInt64 q6.1))  q6.2 q7 hq7) (by decide) rfl rfl wm_RX7_135 wc_X7_tell hy_X7_tell rfl ⟨Nat.le_of_ble_eq_true rfl, Nat.le_of_ble_eq_true rfl⟩ rfl (Nat.le_of_ble_eq_true rfl) dX7_cost_39 ?_
  refine zEV.iload_n dX7_cost_42 rfl 0 rfl ?_
  cases h
  exact zEV.iret rfl dX7_cost_43
theorem kX7_cost (M : zMM) (q : Int32 × zMM) (h : fX7_cost M = some q) : zCN yX7_cost iX7_cost [.inr (.inr 158)] M (some (.inl q.1), q.2) :=
  zCN.of (by decide) rfl rfl (Nat.le_of_ble_eq_true rfl) (zEV.perm [0] rfl (tX7_cost_0 M q h))
