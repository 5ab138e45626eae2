-- RingedPageModel.ragged
def fX7_ragged_173 (s0 : Int64) (M : zMM) : Option (Int32 × zMM) :=
  (fX7_tell (s0) M).bind fun q1 =>
  (fX7_raggedAll  q1).bind fun q2 =>
  some (q2.1, q2.2)
set_option maxRecDepth 100000 in
theorem tX7_ragged_173 (s0 : Int64) (M : zMM) (q : Int32 × zMM) (h : fX7_ragged_173 s0 M = some q) : zEV iX7_ragged 0 0 (zZO (some (.inl q.1), q.2)) 173 [(0, .inr (.inr 158))] [.inr (.inl s0), .inr (.inr 158)] M := by
  unfold fX7_ragged_173 at h
  obtain ⟨q1, hq1, h⟩ := bind_yes h
  refine zEV.callVv (kX7_tell (s0)  M q1 hq1) (by decide) rfl rfl wm_RX7_135 wc_X7_tell hy_X7_tell rfl ⟨Nat.le_of_ble_eq_true rfl, Nat.le_of_ble_eq_true rfl⟩ rfl (Nat.le_of_ble_eq_true rfl) dX7_ragged_173 ?_
  refine zEV.aload_n dX7_ragged_176 rfl 0 rfl ?_
  obtain ⟨q2, hq2, h⟩ := bind_yes h
  refine zEV.callVi (kX7_raggedAll   q1 q2 hq2) (by decide) rfl rfl wm_RX7_202 wc_X7_raggedAll hy_X7_raggedAll rfl ⟨Nat.le_of_ble_eq_true rfl, Nat.le_of_ble_eq_true rfl⟩ rfl (Nat.le_of_ble_eq_true rfl) dX7_ragged_177 ?_
  have h := Option.some.inj h
  subst h
  exact zEV.iret rfl dX7_ragged_180
def fX7_ragged_153 (l1 : Int32) (s0 : Int64) (M : zMM) : Option (Int32 × zMM) :=
  (fX7_tell (s0) M).bind fun q1 =>
  if l1 = (-1) then
    fX7_ragged_173 ((0 : Int64)) q1
  else
    (fX7_told (l1) (0) q1).bind fun q3 =>
    fX7_ragged_173 ((Int32.toInt64 q3.1)) q3.2
set_option maxRecDepth 100000 in
theorem tX7_ragged_153 (l1 : Int32) (s0 : Int64) (M : zMM) (q : Int32 × zMM) (h : fX7_ragged_153 l1 s0 M = some q) : zEV iX7_ragged 0 0 (zZO (some (.inl q.1), q.2)) 153 [(0, .inr (.inr 158)), (1, .inl l1)] [.inr (.inl s0), .inr (.inr 158)] M := by
  unfold fX7_ragged_153 at h
  obtain ⟨q1, hq1, h⟩ := bind_yes h
  refine zEV.callVv (kX7_tell (s0)  M q1 hq1) (by decide) rfl rfl wm_RX7_135 wc_X7_tell hy_X7_tell rfl ⟨Nat.le_of_ble_eq_true rfl, Nat.le_of_ble_eq_true rfl⟩ rfl (Nat.le_of_ble_eq_true rfl) dX7_ragged_153 ?_
  refine zEV.aload_n dX7_ragged_156 rfl 0 rfl ?_
  refine zEV.iload_n dX7_ragged_157 rfl 1 rfl ?_
  refine zEV.iconst (v := (-1)) dX7_ragged_158 rfl ?_
  refine zEV.icmp_ne 166 dX7_ragged_159 (by decide) (fun c2 => ?_) (fun c2 => ?_)
  · rw [if_neg c2] at h
    refine zEV.aload_n dX7_ragged_166 rfl 0 rfl ?_
    refine zEV.iload_n dX7_ragged_167 rfl 1 rfl ?_
    refine zEV.iconst (v := 0) dX7_ragged_168 rfl ?_
    obtain ⟨q3, hq3, h⟩ := bind_yes h
    refine zEV.callVi (kX7_told (l1) (0)  q1 q3 hq3) (by decide) rfl rfl wm_RX7_167 wc_X7_told hy_X7_told rfl ⟨Nat.le_of_ble_eq_true rfl, Nat.le_of_ble_eq_true rfl⟩ rfl (Nat.le_of_ble_eq_true rfl) dX7_ragged_169 ?_
    refine zEV.i2l dX7_ragged_172 ?_
    exact zEV.perm [0] rfl (tX7_ragged_173 ((Int32.toInt64 q3.1)) q3.2 q h)
  · rw [if_pos c2] at h
    refine zEV.lconst (v := 0) dX7_ragged_162 rfl ?_
    refine zEV.goto 173 dX7_ragged_163 (by decide) ?_
    exact zEV.perm [0] rfl (tX7_ragged_173 ((0 : Int64)) q1 q h)
def fX7_ragged_133 (l1 : Int32) (s0 : Int64) (M : zMM) : Option (Int32 × zMM) :=
  (fX7_tell (s0) M).bind fun q1 =>
  if l1 = (-1) then
    fX7_ragged_153 (l1) ((0 : Int64)) q1
  else
    (fX7_told (l1) (2) q1).bind fun q3 =>
    fX7_ragged_153 (l1) ((Int32.toInt64 q3.1)) q3.2
set_option maxRecDepth 100000 in
theorem tX7_ragged_133 (l1 : Int32) (s0 : Int64) (M : zMM) (q : Int32 × zMM) (h : fX7_ragged_133 l1 s0 M = some q) : zEV iX7_ragged 0 0 (zZO (some (.inl q.1), q.2)) 133 [(0, .inr (.inr 158)), (1, .inl l1)] [.inr (.inl s0), .inr (.inr 158)] M := by
  unfold fX7_ragged_133 at h
  obtain ⟨q1, hq1, h⟩ := bind_yes h
  refine zEV.callVv (kX7_tell (s0)  M q1 hq1) (by decide) rfl rfl wm_RX7_135 wc_X7_tell hy_X7_tell rfl ⟨Nat.le_of_ble_eq_true rfl, Nat.le_of_ble_eq_true rfl⟩ rfl (Nat.le_of_ble_eq_true rfl) dX7_ragged_133 ?_
  refine zEV.aload_n dX7_ragged_136 rfl 0 rfl ?_
  refine zEV.iload_n dX7_ragged_137 rfl 1 rfl ?_
  refine zEV.iconst (v := (-1)) dX7_ragged_138 rfl ?_
  refine zEV.icmp_ne 146 dX7_ragged_139 (by decide) (fun c2 => ?_) (fun c2 => ?_)
  · rw [if_neg c2] at h
    refine zEV.aload_n dX7_ragged_146 rfl 0 rfl ?_
    refine zEV.iload_n dX7_ragged_147 rfl 1 rfl ?_
    refine zEV.iconst (v := 2) dX7_ragged_148 rfl ?_
    obtain ⟨q3, hq3, h⟩ := bind_yes h
    refine zEV.callVi (kX7_told (l1) (2)  q1 q3 hq3) (by decide) rfl rfl wm_RX7_167 wc_X7_told hy_X7_told rfl ⟨Nat.le_of_ble_eq_true rfl, Nat.le_of_ble_eq_true rfl⟩ rfl (Nat.le_of_ble_eq_true rfl) dX7_ragged_149 ?_
    refine zEV.i2l dX7_ragged_152 ?_
    exact zEV.perm [0, 1] rfl (tX7_ragged_153 (l1) ((Int32.toInt64 q3.1)) q3.2 q h)
  · rw [if_pos c2] at h
    refine zEV.lconst (v := 0) dX7_ragged_142 rfl ?_
    refine zEV.goto 153 dX7_ragged_143 (by decide) ?_
    exact zEV.perm [0, 1] rfl (tX7_ragged_153 (l1) ((0 : Int64)) q1 q h)
def fX7_ragged_113 (l1 : Int32) (s0 : Int64) (M : zMM) : Option (Int32 × zMM) :=
  (fX7_tell (s0) M).bind fun q1 =>
  if l1 = (-1) then
    fX7_ragged_133 (l1) ((0 : Int64)) q1
  else
    (fX7_told (l1) (1) q1).bind fun q3 =>
    fX7_ragged_133 (l1) ((Int32.toInt64 q3.1)) q3.2
set_option maxRecDepth 100000 in
theorem tX7_ragged_113 (l1 : Int32) (s0 : Int64) (M : zMM) (q : Int32 × zMM) (h : fX7_ragged_113 l1 s0 M = some q) : zEV iX7_ragged 0 0 (zZO (some (.inl q.1), q.2)) 113 [(0, .inr (.inr 158)), (1, .inl l1)] [.inr (.inl s0), .inr (.inr 158)] M := by
  unfold fX7_ragged_113 at h
  obtain ⟨q1, hq1, h⟩ := bind_yes h
  refine zEV.callVv (kX7_tell (s0)  M q1 hq1) (by decide) rfl rfl wm_RX7_135 wc_X7_tell hy_X7_tell rfl ⟨Nat.le_of_ble_eq_true rfl, Nat.le_of_ble_eq_true rfl⟩ rfl (Nat.le_of_ble_eq_true rfl) dX7_ragged_113 ?_
  refine zEV.aload_n dX7_ragged_116 rfl 0 rfl ?_
  refine zEV.iload_n dX7_ragged_117 rfl 1 rfl ?_
  refine zEV.iconst (v := (-1)) dX7_ragged_118 rfl ?_
  refine zEV.icmp_ne 126 dX7_ragged_119 (by decide) (fun c2 => ?_) (fun c2 => ?_)
  · rw [if_neg c2] at h
    refine zEV.aload_n dX7_ragged_126 rfl 0 rfl ?_
    refine zEV.iload_n dX7_ragged_127 rfl 1 rfl ?_
    refine zEV.iconst (v := 1) dX7_ragged_128 rfl ?_
    obtain ⟨q3, hq3, h⟩ := bind_yes h
    refine zEV.callVi (kX7_told (l1) (1)  q1 q3 hq3) (by decide) rfl rfl wm_RX7_167 wc_X7_told hy_X7_told rfl ⟨Nat.le_of_ble_eq_true rfl, Nat.le_of_ble_eq_true rfl⟩ rfl (Nat.le_of_ble_eq_true rfl) dX7_ragged_129 ?_
    refine zEV.i2l dX7_ragged_132 ?_
    exact zEV.perm [0, 1] rfl (tX7_ragged_133 (l1) ((Int32.toInt64 q3.1)) q3.2 q h)
  · rw [if_pos c2] at h
    refine zEV.lconst (v := 0) dX7_ragged_122 rfl ?_
    refine zEV.goto 133 dX7_ragged_123 (by decide) ?_
    exact zEV.perm [0, 1] rfl (tX7_ragged_133 (l1) ((0 : Int64)) q1 q h)
def fX7_ragged_84 (K13 : Int32 → Int32 → zMM → Option (Int32 × zMM)) (l1 : Int32) (l2 : Int32) (M : zMM) : Option (Int32 × zMM) :=
  K13 (l1) ((l2 + 1)) M
set_option maxRecDepth 100000 in
theorem tX7_ragged_84 (K13 : Int32 → Int32 → zMM → Option (Int32 × zMM)) (hK13 : ∀ (l1 : Int32) (l2 : Int32) (M : zMM) (q : Int32 × zMM), K13 l1 l2 M = some q → zEV iX7_ragged 0 0 (zZO (some (.inl q.1), q.2)) 13 [(0, .inr (.inr 158)), (1, .inl l1), (2, .inl l2)] [] M) (l1 : Int32) (l2 : Int32) (M : zMM) (q : Int32 × zMM) (h : fX7_ragged_84 K13 l1 l2 M = some q) : zEV iX7_ragged 0 0 (zZO (some (.inl q.1), q.2)) 84 [(0, .inr (.inr 158)), (1, .inl l1), (2, .inl l2)] [] M := by
  unfold fX7_ragged_84 at h
  refine zEV.iinc (v := (l2 + 1)) dX7_ragged_84 2 rfl rfl (Nat.le_of_ble_eq_true rfl) rfl ?_
  refine zEV.goto 13 dX7_ragged_87 (by decide) ?_
  exact zEV.perm [1, 2, 0] rfl (hK13 (l1) ((l2 + 1)) M q h)
def fX7_ragged_82 (K13 : Int32 → Int32 → zMM → Option (Int32 × zMM)) (l2 : Int32) (M : zMM) : Option (Int32 × zMM) :=
  fX7_ragged_84 K13 (l2) (l2) M
set_option maxRecDepth 100000 in
theorem tX7_ragged_82 (K13 : Int32 → Int32 → zMM → Option (Int32 × zMM)) (hK13 : ∀ (l1 : Int32) (l2 : Int32) (M : zMM) (q : Int32 × zMM), K13 l1 l2 M = some q → zEV iX7_ragged 0 0 (zZO (some (.inl q.1), q.2)) 13 [(0, .inr (.inr 158)), (1, .inl l1), (2, .inl l2)] [] M) (l2 : Int32) (M : zMM) (q : Int32 × zMM) (h : fX7_ragged_82 K13 l2 M = some q) : zEV iX7_ragged 0 0 (zZO (some (.inl q.1), q.2)) 82 [(0, .inr (.inr 158)), (2, .inl l2)] [] M := by
  unfold fX7_ragged_82 at h
  refine zEV.iload_n dX7_ragged_82 rfl 1 rfl ?_
  refine zEV.istore_n dX7_ragged_83 rfl (Nat.le_of_ble_eq_true rfl) rfl ?_
  exact zEV.perm [1, 0, 2] rfl (tX7_ragged_84 K13 hK13 (l2) (l2) M q h)
def fX7_ragged_13 : Nat → Int32 → Int32 → zMM → Option (Int32 × zMM)
  | 0, _, _, _ => none
  | n + 1, l1, l2, M =>
  if (M.1 158 11) ≤ l2 then
    if l1 = (-1) then
      fX7_ragged_113 (l1) ((0 : Int64)) (wr M 158 4 0)
    else
      (fX7_told (l1) (7) (wr M 158 4 0)).bind fun q3 =>
      fX7_ragged_113 (l1) ((Int32.toInt64 q3.1)) q3.2
  else
    (fX7_told (l2) (7) M).bind fun q4 =>
    if q4.1 = (0 : Int32) then
      fX7_ragged_84 (fX7_ragged_13 n) (l1) (l2) q4.2
    else
      if l1 = (-1) then
        fX7_ragged_82 (fX7_ragged_13 n) (l2) q4.2
      else
        (fX7_told (l2) (7) q4.2).bind fun q7 =>
        (fX7_told (l1) (7) q7.2).bind fun q8 =>
        if q8.1 < q7.1 then
          fX7_ragged_82 (fX7_ragged_13 n) (l2) q8.2
        else
          (fX7_told (l2) (7) q8.2).bind fun q10 =>
          (fX7_told (l1) (7) q10.2).bind fun q11 =>
          if q10.1 = q11.1 then
            (fX7_isAhead (l2) (l1) q11.2).bind fun q13 =>
            if q13.1 = (0 : Int32) then
              fX7_ragged_84 (fX7_ragged_13 n) (l1) (l2) q13.2
            else
              fX7_ragged_82 (fX7_ragged_13 n) (l2) q13.2
          else
            fX7_ragged_84 (fX7_ragged_13 n) (l1) (l2) q11.2
set_option maxRecDepth 100000 in
theorem tX7_ragged_13 : ∀ (n : Nat) (l1 : Int32) (l2 : Int32) (M : zMM) (q : Int32 × zMM), fX7_ragged_13 n l1 l2 M = some q → zEV iX7_ragged 0 0 (zZO (some (.inl q.1), q.2)) 13 [(0, .inr (.inr 158)), (1, .inl l1), (2, .inl l2)] [] M := by
  intro n
  induction n with
  | zero =>
    intro l1 l2 M q h
    rw [fX7_ragged_13] at h
    cases h
  | succ n ih =>
    intro l1 l2 M q h
    rw [fX7_ragged_13] at h
    refine zEV.iload_n dX7_ragged_13 rfl 2 rfl ?_
    refine zEV.aload_n dX7_ragged_14 rfl 0 rfl ?_
    refine zEV.gfi rfl inz7 11 (by decide) wf_RX7_144 (by decide) rfl rfl dX7_ragged_15 ?_
    refine zEV.icmp_ge 90 dX7_ragged_18 (by decide) (fun c1 => ?_) (fun c1 => ?_)
    · rw [if_pos c1] at h
      refine zEV.aload_n dX7_ragged_90 rfl 0 rfl ?_
      refine zEV.iconst (v := 0) dX7_ragged_91 rfl ?_
      refine zEV.pfi rfl inz7 tyX7 tyX7_ok nmX7 4 (by decide) wf_RX7_62 rfl (by decide +kernel) (by decide) rfl rfl dX7_ragged_92 ?_
      refine zEV.aload_n dX7_ragged_95 rfl 0 rfl ?_
      refine zEV.iload_n dX7_ragged_96 rfl 1 rfl ?_
      refine zEV.iconst (v := (-1)) dX7_ragged_97 rfl ?_
      refine zEV.icmp_ne 105 dX7_ragged_98 (by decide) (fun c2 => ?_) (fun c2 => ?_)
      · rw [if_neg c2] at h
        refine zEV.aload_n dX7_ragged_105 rfl 0 rfl ?_
        refine zEV.iload_n dX7_ragged_106 rfl 1 rfl ?_
        refine zEV.bipush (v := 7) dX7_ragged_107 rfl ?_
        obtain ⟨q3, hq3, h⟩ := bind_yes h
        refine zEV.callVi (kX7_told (l1) (7)  (wr M 158 4 0) q3 hq3) (by decide) rfl rfl wm_RX7_167 wc_X7_told hy_X7_told rfl ⟨Nat.le_of_ble_eq_true rfl, Nat.le_of_ble_eq_true rfl⟩ rfl (Nat.le_of_ble_eq_true rfl) dX7_ragged_109 ?_
        refine zEV.i2l dX7_ragged_112 ?_
        exact zEV.perm [0, 1] rfl (tX7_ragged_113 (l1) ((Int32.toInt64 q3.1)) q3.2 q h)
      · rw [if_pos c2] at h
        refine zEV.lconst (v := 0) dX7_ragged_101 rfl ?_
        refine zEV.goto 113 dX7_ragged_102 (by decide) ?_
        exact zEV.perm [0, 1] rfl (tX7_ragged_113 (l1) ((0 : Int64)) (wr M 158 4 0) q h)
    · rw [if_neg c1] at h
      refine zEV.aload_n dX7_ragged_21 rfl 0 rfl ?_
      refine zEV.iload_n dX7_ragged_22 rfl 2 rfl ?_
      refine zEV.bipush (v := 7) dX7_ragged_23 rfl ?_
      obtain ⟨q4, hq4, h⟩ := bind_yes h
      refine zEV.callVi (kX7_told (l2) (7)  M q4 hq4) (by decide) rfl rfl wm_RX7_167 wc_X7_told hy_X7_told rfl ⟨Nat.le_of_ble_eq_true rfl, Nat.le_of_ble_eq_true rfl⟩ rfl (Nat.le_of_ble_eq_true rfl) dX7_ragged_25 ?_
      refine zEV.if_ne 34 dX7_ragged_28 (by decide) (fun c5 => ?_) (fun c5 => ?_)
      · rw [if_neg c5] at h
        refine zEV.iload_n dX7_ragged_34 rfl 1 rfl ?_
        refine zEV.iconst (v := (-1)) dX7_ragged_35 rfl ?_
        refine zEV.icmp_eq 82 dX7_ragged_36 (by decide) (fun c6 => ?_) (fun c6 => ?_)
        · rw [if_pos c6] at h
          exact zEV.perm [0, 2] rfl (tX7_ragged_82 (fX7_ragged_13 n) (fun l1 l2 M9 q9 h9 => ih l1 l2 M9 q9 h9) (l2) q4.2 q h)
        · rw [if_neg c6] at h
          refine zEV.aload_n dX7_ragged_39 rfl 0 rfl ?_
          refine zEV.iload_n dX7_ragged_40 rfl 2 rfl ?_
          refine zEV.bipush (v := 7) dX7_ragged_41 rfl ?_
          obtain ⟨q7, hq7, h⟩ := bind_yes h
          refine zEV.callVi (kX7_told (l2) (7)  q4.2 q7 hq7) (by decide) rfl rfl wm_RX7_167 wc_X7_told hy_X7_told rfl ⟨Nat.le_of_ble_eq_true rfl, Nat.le_of_ble_eq_true rfl⟩ rfl (Nat.le_of_ble_eq_true rfl) dX7_ragged_43 ?_
          refine zEV.aload_n dX7_ragged_46 rfl 0 rfl ?_
          refine zEV.iload_n dX7_ragged_47 rfl 1 rfl ?_
          refine zEV.bipush (v := 7) dX7_ragged_48 rfl ?_
          obtain ⟨q8, hq8, h⟩ := bind_yes h
          refine zEV.callVi (kX7_told (l1) (7)  q7.2 q8 hq8) (by decide) rfl rfl wm_RX7_167 wc_X7_told hy_X7_told rfl ⟨Nat.le_of_ble_eq_true rfl, Nat.le_of_ble_eq_true rfl⟩ rfl (Nat.le_of_ble_eq_true rfl) dX7_ragged_50 ?_
          refine zEV.icmp_gt 82 dX7_ragged_53 (by decide) (fun c9 => ?_) (fun c9 => ?_)
          · rw [if_pos c9] at h
            exact zEV.perm [0, 2] rfl (tX7_ragged_82 (fX7_ragged_13 n) (fun l1 l2 M9 q9 h9 => ih l1 l2 M9 q9 h9) (l2) q8.2 q h)
          · rw [if_neg c9] at h
            refine zEV.aload_n dX7_ragged_56 rfl 0 rfl ?_
            refine zEV.iload_n dX7_ragged_57 rfl 2 rfl ?_
            refine zEV.bipush (v := 7) dX7_ragged_58 rfl ?_
            obtain ⟨q10, hq10, h⟩ := bind_yes h
            refine zEV.callVi (kX7_told (l2) (7)  q8.2 q10 hq10) (by decide) rfl rfl wm_RX7_167 wc_X7_told hy_X7_told rfl ⟨Nat.le_of_ble_eq_true rfl, Nat.le_of_ble_eq_true rfl⟩ rfl (Nat.le_of_ble_eq_true rfl) dX7_ragged_60 ?_
            refine zEV.aload_n dX7_ragged_63 rfl 0 rfl ?_
            refine zEV.iload_n dX7_ragged_64 rfl 1 rfl ?_
            refine zEV.bipush (v := 7) dX7_ragged_65 rfl ?_
            obtain ⟨q11, hq11, h⟩ := bind_yes h
            refine zEV.callVi (kX7_told (l1) (7)  q10.2 q11 hq11) (by decide) rfl rfl wm_RX7_167 wc_X7_told hy_X7_told rfl ⟨Nat.le_of_ble_eq_true rfl, Nat.le_of_ble_eq_true rfl⟩ rfl (Nat.le_of_ble_eq_true rfl) dX7_ragged_67 ?_
            refine zEV.icmp_ne 84 dX7_ragged_70 (by decide) (fun c12 => ?_) (fun c12 => ?_)
            · rw [if_neg c12] at h
              exact zEV.perm [0, 1, 2] rfl (tX7_ragged_84 (fX7_ragged_13 n) (fun l1 l2 M9 q9 h9 => ih l1 l2 M9 q9 h9) (l1) (l2) q11.2 q h)
            · rw [if_pos c12] at h
              refine zEV.aload_n dX7_ragged_73 rfl 0 rfl ?_
              refine zEV.iload_n dX7_ragged_74 rfl 2 rfl ?_
              refine zEV.iload_n dX7_ragged_75 rfl 1 rfl ?_
              obtain ⟨q13, hq13, h⟩ := bind_yes h
              refine zEV.callVi (kX7_isAhead (l2) (l1)  q11.2 q13 hq13) (by decide) rfl rfl wm_RX7_199 wc_X7_isAhead hy_X7_isAhead rfl ⟨Nat.le_of_ble_eq_true rfl, Nat.le_of_ble_eq_true rfl⟩ rfl (Nat.le_of_ble_eq_true rfl) dX7_ragged_76 ?_
              refine zEV.if_eq 84 dX7_ragged_79 (by decide) (fun c14 => ?_) (fun c14 => ?_)
              · rw [if_pos c14] at h
                exact zEV.perm [0, 1, 2] rfl (tX7_ragged_84 (fX7_ragged_13 n) (fun l1 l2 M9 q9 h9 => ih l1 l2 M9 q9 h9) (l1) (l2) q13.2 q h)
              · rw [if_neg c14] at h
                exact zEV.perm [0, 2] rfl (tX7_ragged_82 (fX7_ragged_13 n) (fun l1 l2 M9 q9 h9 => ih l1 l2 M9 q9 h9) (l2) q13.2 q h)
      · rw [if_pos c5] at h
        refine zEV.goto 84 dX7_ragged_31 (by decide) ?_
        exact zEV.perm [0, 1, 2] rfl (tX7_ragged_84 (fX7_ragged_13 n) (fun l1 l2 M9 q9 h9 => ih l1 l2 M9 q9 h9) (l1) (l2) q4.2 q h)
def fX7_ragged (M : zMM) : Option (Int32 × zMM) :=
  (fX7_set  (wr M 158 5 0)).bind fun q1 =>
  fX7_ragged_13 zFU ((-1)) (0) q1
set_option maxRecDepth 100000 in
theorem tX7_ragged_0 (M : zMM) (q : Int32 × zMM) (h : fX7_ragged  M = some q) : zEV iX7_ragged 0 0 (zZO (some (.inl q.1), q.2)) 0 [(0, .inr (.inr 158))] [] M := by
  unfold fX7_ragged at h
  refine zEV.aload_n dX7_ragged_0 rfl 0 rfl ?_
  refine zEV.iconst (v := 0) dX7_ragged_1 rfl ?_
  refine zEV.pfi rfl inz7 tyX7 tyX7_ok nmX7 5 (by decide) wf_RX7_58 rfl (by decide +kernel) (by decide) rfl rfl dX7_ragged_2 ?_
  refine zEV.aload_n dX7_ragged_5 rfl 0 rfl ?_
  obtain ⟨q1, hq1, h⟩ := bind_yes h
  refine zEV.callVv (kX7_set   (wr M 158 5 0) q1 hq1) (by decide) rfl rfl wm_RX7_164 wc_X7_set hy_X7_set rfl ⟨Nat.le_of_ble_eq_true rfl, Nat.le_of_ble_eq_true rfl⟩ rfl (Nat.le_of_ble_eq_true rfl) dX7_ragged_6 ?_
  refine zEV.iconst (v := (-1)) dX7_ragged_9 rfl ?_
  refine zEV.istore_n dX7_ragged_10 rfl (Nat.le_of_ble_eq_true rfl) rfl ?_
  refine zEV.iconst (v := 0) dX7_ragged_11 rfl ?_
  refine zEV.istore_n dX7_ragged_12 rfl (Nat.le_of_ble_eq_true rfl) rfl ?_
  exact zEV.perm [2, 1, 0] rfl (tX7_ragged_13 zFU ((-1)) (0) q1 q h)
theorem kX7_ragged (M : zMM) (q : Int32 × zMM) (h : fX7_ragged M = some q) : zCN yX7_ragged iX7_ragged [.inr (.inr 158)] M (some (.inl q.1), q.2) :=
  zCN.of (by decide) rfl rfl (Nat.le_of_ble_eq_true rfl) (zEV.perm [0] rfl (tX7_ragged_0 M q h))
-- RingedPageModel.deepOf
def fX7_deepOf (a1 : Int32) (M : zMM) : Option (Int32 × zMM) :=
  (fX7_tied (a1) (0) M).bind fun q1 =>
  (fX7_tied (a1) (1) q1.2).bind fun q2 =>
  (fX7_placeOf (q1.1) (q2.1) q2.2).bind fun q3 =>
  (fX7_tied (a1) (2) q3.2).bind fun q4 =>
  (fX7_placeOf (0) (q4.1) q4.2).bind fun q5 =>
  some ((q3.1 - q5.1), q5.2)
set_option maxRecDepth 100000 in
theorem tX7_deepOf_0 (a1 : Int32) (M : zMM) (q : Int32 × zMM) (h : fX7_deepOf a1  M = some q) : zEV iX7_deepOf 0 0 (zZO (some (.inl q.1), q.2)) 0 [(0, .inr (.inr 158)), (1, .inl a1)] [] M := by
  unfold fX7_deepOf at h
  refine zEV.aload_n dX7_deepOf_0 rfl 0 rfl ?_
  refine zEV.aload_n dX7_deepOf_1 rfl 0 rfl ?_
  refine zEV.iload_n dX7_deepOf_2 rfl 1 rfl ?_
  refine zEV.iconst (v := 0) dX7_deepOf_3 rfl ?_
  obtain ⟨q1, hq1, h⟩ := bind_yes h
  refine zEV.callVi (kX7_tied (a1) (0)  M q1 hq1) (by decide) rfl rfl wm_RX7_110 wc_X7_tied hy_X7_tied rfl ⟨Nat.le_of_ble_eq_true rfl, Nat.le_of_ble_eq_true rfl⟩ rfl (Nat.le_of_ble_eq_true rfl) dX7_deepOf_4 ?_
  refine zEV.aload_n dX7_deepOf_7 rfl 0 rfl ?_
  refine zEV.iload_n dX7_deepOf_8 rfl 1 rfl ?_
  refine zEV.iconst (v := 1) dX7_deepOf_9 rfl ?_
  obtain ⟨q2, hq2, h⟩ := bind_yes h
  refine zEV.callVi (kX7_tied (a1) (1)  q1.2 q2 hq2) (by decide) rfl rfl wm_RX7_110 wc_X7_tied hy_X7_tied rfl ⟨Nat.le_of_ble_eq_true rfl, Nat.le_of_ble_eq_true rfl⟩ rfl (Nat.le_of_ble_eq_true rfl) dX7_deepOf_10 ?_
  obtain ⟨q3, hq3, h⟩ := bind_yes h
  refine zEV.callVi (kX7_placeOf (q1.1) (q2.1)  q2.2 q3 hq3) (by decide) rfl rfl wm_RX7_186 wc_X7_placeOf hy_X7_placeOf rfl ⟨Nat.le_of_ble_eq_true rfl, Nat.le_of_ble_eq_true rfl⟩ rfl (Nat.le_of_ble_eq_true rfl) dX7_deepOf_13 ?_
  refine zEV.aload_n dX7_deepOf_16 rfl 0 rfl ?_
  refine zEV.iconst (v := 0) dX7_deepOf_17 rfl ?_
  refine zEV.aload_n dX7_deepOf_18 rfl 0 rfl ?_
  refine zEV.iload_n dX7_deepOf_19 rfl 1 rfl ?_
  refine zEV.iconst (v := 2) dX7_deepOf_20 rfl ?_
  obtain ⟨q4, hq4, h⟩ := bind_yes h
  refine zEV.callVi (kX7_tied (a1) (2)  q3.2 q4 hq4) (by decide) rfl rfl wm_RX7_110 wc_X7_tied hy_X7_tied rfl ⟨Nat.le_of_ble_eq_true rfl, Nat.le_of_ble_eq_true rfl⟩ rfl (Nat.le_of_ble_eq_true rfl) dX7_deepOf_21 ?_
  obtain ⟨q5, hq5, h⟩ := bind_yes h
  refine zEV.callVi (kX7_placeOf (0) (q4.1)  q4.2 q5 hq5) (by decide) rfl rfl wm_RX7_186 wc_X7_placeOf hy_X7_placeOf rfl ⟨Nat.le_of_ble_eq_true rfl, Nat.le_of_ble_eq_true rfl⟩ rfl (Nat.le_of_ble_eq_true rfl) dX7_deepOf_24 ?_
  refine zEV.isub dX7_deepOf_27 ?_
  have h := Option.some.inj h
  subst h
  exact zEV.iret rfl dX7_deepOf_28
theorem kX7_deepOf (a1 : Int32) (M : zMM) (q : Int32 × zMM) (h : fX7_deepOf a1 M = some q) : zCN yX7_deepOf iX7_deepOf [.inr (.inr 158), .inl a1] M (some (.inl q.1), q.2) :=
  zCN.of (by decide) rfl rfl (Nat.le_of_ble_eq_true rfl) (zEV.perm [0, 1] rfl (tX7_deepOf_0 a1 M q h))
-- RingedPageModel.isBroken
def fX7_isBroken (a1 : Int32) (M : zMM) : Option (Int32 × zMM) :=
  (fX7_deepOf (a1) M).bind fun q1 =>
  (fX7_in (q1.1) (0) (6) q1.2).bind fun q2 =>
  if q2.1 = (0 : Int32) then
    some (1, q2.2)
  else
    some (0, q2.2)
set_option maxRecDepth 100000 in
theorem tX7_isBroken_0 (a1 : Int32) (M : zMM) (q : Int32 × zMM) (h : fX7_isBroken a1  M = some q) : zEV iX7_isBroken 0 0 (zZO (some (.inl q.1), q.2)) 0 [(0, .inr (.inr 158)), (1, .inl a1)] [] M := by
  unfold fX7_isBroken at h
  refine zEV.aload_n dX7_isBroken_0 rfl 0 rfl ?_
  refine zEV.iload_n dX7_isBroken_1 rfl 1 rfl ?_
  obtain ⟨q1, hq1, h⟩ := bind_yes h
  refine zEV.callVi (kX7_deepOf (a1)  M q1 hq1) (by decide) rfl rfl wm_RX7_205 wc_X7_deepOf hy_X7_deepOf rfl ⟨Nat.le_of_ble_eq_true rfl, Nat.le_of_ble_eq_true rfl⟩ rfl (Nat.le_of_ble_eq_true rfl) dX7_isBroken_2 ?_
  refine zEV.iconst (v := 0) dX7_isBroken_5 rfl ?_
  refine zEV.bipush (v := 6) dX7_isBroken_6 rfl ?_
  obtain ⟨q2, hq2, h⟩ := bind_yes h
  refine zEV.callSi (kX7_in (q1.1) (0) (6)  q1.2 q2 hq2) wm_RX7_65 wc_X7_in hy_X7_in rfl ⟨Nat.le_of_ble_eq_true rfl, Nat.le_of_ble_eq_true rfl⟩ rfl (Nat.le_of_ble_eq_true rfl) dX7_isBroken_8 ?_
  refine zEV.if_ne 18 dX7_isBroken_11 (by decide) (fun c3 => ?_) (fun c3 => ?_)
  · rw [if_neg c3] at h
    refine zEV.iconst (v := 0) dX7_isBroken_18 rfl ?_
    have h := Option.some.inj h
    subst h
    exact zEV.zret rfl (Or.inl rfl) dX7_isBroken_19
  · rw [if_pos c3] at h
    refine zEV.iconst (v := 1) dX7_isBroken_14 rfl ?_
    refine zEV.goto 19 dX7_isBroken_15 (by decide) ?_
    have h := Option.some.inj h
    subst h
    exact zEV.zret rfl (Or.inr rfl) dX7_isBroken_19
theorem kX7_isBroken (a1 : Int32) (M : zMM) (q : Int32 × zMM) (h : fX7_isBroken a1 M = some q) : zCN yX7_isBroken iX7_isBroken [.inr (.inr 158), .inl a1] M (some (.inl q.1), q.2) :=
  zCN.of (by decide) rfl rfl (Nat.le_of_ble_eq_true rfl) (zEV.perm [0, 1] rfl (tX7_isBroken_0 a1 M q h))
-- RingedPageModel.brokenMany
def fX7_brokenMany_30 (K4 : Int32 → Int32 → zMM → Option (Int32 × zMM)) (l2 : Int32) (s0 : Int32) (s1 : Int32) (M : zMM) : Option (Int32 × zMM) :=
  K4 ((s1 + s0)) ((l2 + 1)) M
set_option maxRecDepth 100000 in
theorem tX7_brokenMany_30 (K4 : Int32 → Int32 → zMM → Option (Int32 × zMM)) (hK4 : ∀ (l1 : Int32) (l2 : Int32) (M : zMM) (q : Int32 × zMM), K4 l1 l2 M = some q → zEV iX7_brokenMany 0 0 (zZO (some (.inl q.1), q.2)) 4 [(0, .inr (.inr 158)), (1, .inl l1), (2, .inl l2)] [] M) (l2 : Int32) (s0 : Int32) (s1 : Int32) (M : zMM) (q : Int32 × zMM) (h : fX7_brokenMany_30 K4 l2 s0 s1 M = some q) : zEV iX7_brokenMany 0 0 (zZO (some (.inl q.1), q.2)) 30 [(0, .inr (.inr 158)), (2, .inl l2)] [.inl s0, .inl s1] M := by
  unfold fX7_brokenMany_30 at h
  refine zEV.iadd dX7_brokenMany_30 ?_
  refine zEV.istore_n dX7_brokenMany_31 rfl (Nat.le_of_ble_eq_true rfl) rfl ?_
  refine zEV.iinc (v := (l2 + 1)) dX7_brokenMany_32 2 rfl rfl (Nat.le_of_ble_eq_true rfl) rfl ?_
  refine zEV.goto 4 dX7_brokenMany_35 (by decide) ?_
  exact zEV.perm [2, 1, 0] rfl (hK4 ((s1 + s0)) ((l2 + 1)) M q h)
def fX7_brokenMany_4 : Nat → Int32 → Int32 → zMM → Option (Int32 × zMM)
  | 0, _, _, _ => none
  | n + 1, l1, l2, M =>
  if (M.1 159 218) ≤ l2 then
    some (l1, M)
  else
    (fX7_isBroken (l2) M).bind fun q2 =>
    if q2.1 = (0 : Int32) then
      fX7_brokenMany_30 (fX7_brokenMany_4 n) (l2) (0) (l1) q2.2
    else
      fX7_brokenMany_30 (fX7_brokenMany_4 n) (l2) (1) (l1) q2.2
set_option maxRecDepth 100000 in
theorem tX7_brokenMany_4 : ∀ (n : Nat) (l1 : Int32) (l2 : Int32) (M : zMM) (q : Int32 × zMM), fX7_brokenMany_4 n l1 l2 M = some q → zEV iX7_brokenMany 0 0 (zZO (some (.inl q.1), q.2)) 4 [(0, .inr (.inr 158)), (1, .inl l1), (2, .inl l2)] [] M := by
  intro n
  induction n with
  | zero =>
    intro l1 l2 M q h
    rw [fX7_brokenMany_4] at h
    cases h
  | succ n ih =>
    intro l1 l2 M q h
    rw [fX7_brokenMany_4] at h
    refine zEV.iload_n dX7_brokenMany_4 rfl 2 rfl ?_
    refine zEV.aload_n dX7_brokenMany_5 rfl 0 rfl ?_
    refine zEV.gfr rfl inz7 0 (by decide) wf_RX7_9 (by decide) rfl rfl dX7_brokenMany_6 ?_
    refine zEV.sipush (v := 218) dX7_brokenMany_9 rfl ?_
    refine zEV.ialdL (j := 218) (by decide) rfl (by decide) (by decide) dX7_brokenMany_12 ?_
    refine zEV.icmp_ge 38 dX7_brokenMany_13 (by decide) (fun c1 => ?_) (fun c1 => ?_)
    · rw [if_pos c1] at h
      refine zEV.iload_n dX7_brokenMany_38 rfl 1 rfl ?_
      have h := Option.some.inj h
      subst h
      exact zEV.iret rfl dX7_brokenMany_39
    · rw [if_neg c1] at h
      refine zEV.iload_n dX7_brokenMany_16 rfl 1 rfl ?_
      refine zEV.aload_n dX7_brokenMany_17 rfl 0 rfl ?_
      refine zEV.iload_n dX7_brokenMany_18 rfl 2 rfl ?_
      obtain ⟨q2, hq2, h⟩ := bind_yes h
      refine zEV.callVi (kX7_isBroken (l2)  M q2 hq2) (by decide) rfl rfl wm_RX7_208 wc_X7_isBroken hy_X7_isBroken rfl ⟨Nat.le_of_ble_eq_true rfl, Nat.le_of_ble_eq_true rfl⟩ rfl (Nat.le_of_ble_eq_true rfl) dX7_brokenMany_19 ?_
      refine zEV.if_eq 29 dX7_brokenMany_22 (by decide) (fun c3 => ?_) (fun c3 => ?_)
      · rw [if_pos c3] at h
        refine zEV.iconst (v := 0) dX7_brokenMany_29 rfl ?_
        exact zEV.perm [0, 2] rfl (tX7_brokenMany_30 (fX7_brokenMany_4 n) (fun l1 l2 M9 q9 h9 => ih l1 l2 M9 q9 h9) (l2) (0) (l1) q2.2 q h)
      · rw [if_neg c3] at h
        refine zEV.iconst (v := 1) dX7_brokenMany_25 rfl ?_
        refine zEV.goto 30 dX7_brokenMany_26 (by decide) ?_
        exact zEV.perm [0, 2] rfl (tX7_brokenMany_30 (fX7_brokenMany_4 n) (fun l1 l2 M9 q9 h9 => ih l1 l2 M9 q9 h9) (l2) (1) (l1) q2.2 q h)
def fX7_brokenMany (M : zMM) : Option (Int32 × zMM) :=
  fX7_brokenMany_4 zFU (0) (0) M
set_option maxRecDepth 100000 in
theorem tX7_brokenMany_0 (M : zMM) (q : Int32 × zMM) (h : fX7_brokenMany  M = some q) : zEV iX7_brokenMany 0 0 (zZO (some (.inl q.1), q.2)) 0 [(0, .inr (.inr 158))] [] M := by
  unfold fX7_brokenMany at h
  refine zEV.iconst (v := 0) dX7_brokenMany_0 rfl ?_
  refine zEV.istore_n dX7_brokenMany_1 rfl (Nat.le_of_ble_eq_true rfl) rfl ?_
  refine zEV.iconst (v := 0) dX7_brokenMany_2 rfl ?_
  refine zEV.istore_n dX7_brokenMany_3 rfl (Nat.le_of_ble_eq_true rfl) rfl ?_
  exact zEV.perm [2, 1, 0] rfl (tX7_brokenMany_4 zFU (0) (0) M q h)
theorem kX7_brokenMany (M : zMM) (q : Int32 × zMM) (h : fX7_brokenMany M = some q) : zCN yX7_brokenMany iX7_brokenMany [.inr (.inr 158)] M (some (.inl q.1), q.2) :=
  zCN.of (by decide) rfl rfl (Nat.le_of_ble_eq_true rfl) (zEV.perm [0] rfl (tX7_brokenMany_0 M q h))
-- RingedPageModel.costOf
def fX7_costOf (M : zMM) : Option (Int32 × zMM) :=
  (fX7_apartOf  M).bind fun q1 =>
  (fX7_brokenMany  q1.2).bind fun q2 =>
  (fX7_raggedAll  q2.2).bind fun q3 =>
  some (((((M.1 159 256) * q1.1) + ((q1.2.1 159 257) * q2.1)) + ((q2.2.1 159 258) * q3.1)), q3.2)
set_option maxRecDepth 100000 in
theorem tX7_costOf_0 (M : zMM) (q : Int32 × zMM) (h : fX7_costOf  M = some q) : zEV iX7_costOf 0 0 (zZO (some (.inl q.1), q.2)) 0 [(0, .inr (.inr 158))] [] M := by
  unfold fX7_costOf at h
  refine zEV.aload_n dX7_costOf_0 rfl 0 rfl ?_
  refine zEV.gfr rfl inz7 0 (by decide) wf_RX7_9 (by decide) rfl rfl dX7_costOf_1 ?_
  refine zEV.sipush (v := 256) dX7_costOf_4 rfl ?_
  refine zEV.ialdL (j := 256) (by decide) rfl (by decide) (by decide) dX7_costOf_7 ?_
  refine zEV.aload_n dX7_costOf_8 rfl 0 rfl ?_
  obtain ⟨q1, hq1, h⟩ := bind_yes h
  refine zEV.callVi (kX7_apartOf   M q1 hq1) (by decide) rfl rfl wm_RX7_196 wc_X7_apartOf hy_X7_apartOf rfl ⟨Nat.le_of_ble_eq_true rfl, Nat.le_of_ble_eq_true rfl⟩ rfl (Nat.le_of_ble_eq_true rfl) dX7_costOf_9 ?_
  refine zEV.imul dX7_costOf_12 ?_
  refine zEV.aload_n dX7_costOf_13 rfl 0 rfl ?_
  refine zEV.gfr rfl inz7 0 (by decide) wf_RX7_9 (by decide) rfl rfl dX7_costOf_14 ?_
  refine zEV.sipush (v := 257) dX7_costOf_17 rfl ?_
  refine zEV.ialdL (j := 257) (by decide) rfl (by decide) (by decide) dX7_costOf_20 ?_
  refine zEV.aload_n dX7_costOf_21 rfl 0 rfl ?_
  obtain ⟨q2, hq2, h⟩ := bind_yes h
  refine zEV.callVi (kX7_brokenMany   q1.2 q2 hq2) (by decide) rfl rfl wm_RX7_211 wc_X7_brokenMany hy_X7_brokenMany rfl ⟨Nat.le_of_ble_eq_true rfl, Nat.le_of_ble_eq_true rfl⟩ rfl (Nat.le_of_ble_eq_true rfl) dX7_costOf_22 ?_
  refine zEV.imul dX7_costOf_25 ?_
  refine zEV.iadd dX7_costOf_26 ?_
  refine zEV.aload_n dX7_costOf_27 rfl 0 rfl ?_
  refine zEV.gfr rfl inz7 0 (by decide) wf_RX7_9 (by decide) rfl rfl dX7_costOf_28 ?_
  refine zEV.sipush (v := 258) dX7_costOf_31 rfl ?_
  refine zEV.ialdL (j := 258) (by decide) rfl (by decide) (by decide) dX7_costOf_34 ?_
  refine zEV.aload_n dX7_costOf_35 rfl 0 rfl ?_
  obtain ⟨q3, hq3, h⟩ := bind_yes h
  refine zEV.callVi (kX7_raggedAll   q2.2 q3 hq3) (by decide) rfl rfl wm_RX7_202 wc_X7_raggedAll hy_X7_raggedAll rfl ⟨Nat.le_of_ble_eq_true rfl, Nat.le_of_ble_eq_true rfl⟩ rfl (Nat.le_of_ble_eq_true rfl) dX7_costOf_36 ?_
  refine zEV.imul dX7_costOf_39 ?_
  refine zEV.iadd dX7_costOf_40 ?_
  have h := Option.some.inj h
  subst h
  exact zEV.iret rfl dX7_costOf_41
theorem kX7_costOf (M : zMM) (q : Int32 × zMM) (h : fX7_costOf M = some q) : zCN yX7_costOf iX7_costOf [.inr (.inr 158)] M (some (.inl q.1), q.2) :=
  zCN.of (by decide) rfl rfl (Nat.le_of_ble_eq_true rfl) (zEV.perm [0] rfl (tX7_costOf_0 M q h))
-- RingedPageModel.costNow
def fX7_costNow (M : zMM) : Option (Int32 × zMM) :=
  (fX7_set  M).bind fun q1 =>
  (fX7_costOf  q1).bind fun q2 =>
  some (q2.1, q2.2)
set_option maxRecDepth 100000 in
theorem tX7_costNow_0 (M : zMM) (q : Int32 × zMM) (h : fX7_costNow  M = some q) : zEV iX7_costNow 0 0 (zZO (some (.inl q.1), q.2)) 0 [(0, .inr (.inr 158))] [] M := by
  unfold fX7_costNow at h
  refine zEV.aload_n dX7_costNow_0 rfl 0 rfl ?_
  obtain ⟨q1, hq1, h⟩ := bind_yes h
  refine zEV.callVv (kX7_set   M q1 hq1) (by decide) rfl rfl wm_RX7_164 wc_X7_set hy_X7_set rfl ⟨Nat.le_of_ble_eq_true rfl, Nat.le_of_ble_eq_true rfl⟩ rfl (Nat.le_of_ble_eq_true rfl) dX7_costNow_1 ?_
  refine zEV.aload_n dX7_costNow_4 rfl 0 rfl ?_
  obtain ⟨q2, hq2, h⟩ := bind_yes h
  refine zEV.callVi (kX7_costOf   q1 q2 hq2) (by decide) rfl rfl wm_RX7_214 wc_X7_costOf hy_X7_costOf rfl ⟨Nat.le_of_ble_eq_true rfl, Nat.le_of_ble_eq_true rfl⟩ rfl (Nat.le_of_ble_eq_true rfl) dX7_costNow_5 ?_
  have h := Option.some.inj h
  subst h
  exact zEV.iret rfl dX7_costNow_8
theorem kX7_costNow (M : zMM) (q : Int32 × zMM) (h : fX7_costNow M = some q) : zCN yX7_costNow iX7_costNow [.inr (.inr 158)] M (some (.inl q.1), q.2) :=
  zCN.of (by decide) rfl rfl (Nat.le_of_ble_eq_true rfl) (zEV.perm [0] rfl (tX7_costNow_0 M q h))
-- RingedPageModel.cost
def fX7_cost (M : zMM) : Option (Int32 × zMM) :=
  (fX7_costNow  (wr M 158 5 0)).bind fun q1 =>
  (fX7_apartOf  (wr q1.2 158 4 0)).bind fun q2 =>
  (fX7_tell ((Int32.toInt64 q2.1)) q2.2).bind fun q3 =>
  (fX7_brokenMany  q3).bind fun q4 =>
  (fX7_tell ((Int32.toInt64 q4.1)) q4.2).bind fun q5 =>
  (fX7_raggedAll  q5).bind fun q6 =>
  (fX7_tell ((Int32.toInt64 q6.1)) q6.2).bind fun q7 =>
  some (q1.1, q7)
set_option maxRecDepth 100000 in
theorem tX7_cost_0 (M : zMM) (q : Int32 × zMM) (h : fX7_cost  M = some q) : zEV iX7_cost 0 0 (zZO (some (.inl q.1), q.2)) 0 [(0, .inr (.inr 158))] [] M := by
  unfold fX7_cost at h
  refine zEV.aload_n dX7_cost_0 rfl 0 rfl ?_
  refine zEV.iconst (v := 0) dX7_cost_1 rfl ?_
  refine zEV.pfi rfl inz7 tyX7 tyX7_ok nmX7 5 (by decide) wf_RX7_58 rfl (by decide +kernel) (by decide) rfl rfl dX7_cost_2 ?_
  refine zEV.aload_n dX7_cost_5 rfl 0 rfl ?_
  obtain ⟨q1, hq1, h⟩ := bind_yes h
  refine zEV.callVi (kX7_costNow   (wr M 158 5 0) q1 hq1) (by decide) rfl rfl wm_RX7_217 wc_X7_costNow hy_X7_costNow rfl ⟨Nat.le_of_ble_eq_true rfl, Nat.le_of_ble_eq_true rfl⟩ rfl (Nat.le_of_ble_eq_true rfl) dX7_cost_6 ?_
  refine zEV.istore_n dX7_cost_9 rfl (Nat.le_of_ble_eq_true rfl) rfl ?_
  refine zEV.aload_n dX7_cost_10 rfl 1 rfl ?_
  refine zEV.iconst (v := 0) dX7_cost_11 rfl ?_
  refine zEV.pfi rfl inz7 tyX7 tyX7_ok nmX7 4 (by decide) wf_RX7_62 rfl (by decide +kernel) (by decide) rfl rfl dX7_cost_12 ?_
  refine zEV.aload_n dX7_cost_15 rfl 1 rfl ?_
  refine zEV.aload_n dX7_cost_16 rfl 1 rfl ?_
  obtain ⟨q2, hq2, h⟩ := bind_yes h
  refine zEV.callVi (kX7_apartOf   (wr q1.2 158 4 0) q2 hq2) (by decide) rfl rfl wm_RX7_196 wc_X7_apartOf hy_X7_apartOf rfl ⟨Nat.le_of_ble_eq_true rfl, Nat.le_of_ble_eq_true rfl⟩ rfl (Nat.le_of_ble_eq_true rfl) dX7_cost_17 ?_
  refine zEV.i2l dX7_cost_20 ?_
  obtain ⟨q3, hq3, h⟩ := bind_yes h
  refine zEV.callVv (kX7_tell ((Int32.toInt64 q2.1))  q2.2 q3 hq3) (by decide) rfl rfl wm_RX7_135 wc_X7_tell hy_X7_tell rfl ⟨Nat.le_of_ble_eq_true rfl, Nat.le_of_ble_eq_true rfl⟩ rfl (Nat.le_of_ble_eq_true rfl) dX7_cost_21 ?_
  refine zEV.aload_n dX7_cost_24 rfl 1 rfl ?_
  refine zEV.aload_n dX7_cost_25 rfl 1 rfl ?_
  obtain ⟨q4, hq4, h⟩ := bind_yes h
  refine zEV.callVi (kX7_brokenMany   q3 q4 hq4) (by decide) rfl rfl wm_RX7_211 wc_X7_brokenMany hy_X7_brokenMany rfl ⟨Nat.le_of_ble_eq_true rfl, Nat.le_of_ble_eq_true rfl⟩ rfl (Nat.le_of_ble_eq_true rfl) dX7_cost_26 ?_
  refine zEV.i2l dX7_cost_29 ?_
  obtain ⟨q5, hq5, h⟩ := bind_yes h
  refine zEV.callVv (kX7_tell ((Int32.toInt64 q4.1))  q4.2 q5 hq5) (by decide) rfl rfl wm_RX7_135 wc_X7_tell hy_X7_tell rfl ⟨Nat.le_of_ble_eq_true rfl, Nat.le_of_ble_eq_true rfl⟩ rfl (Nat.le_of_ble_eq_true rfl) dX7_cost_30 ?_
  refine zEV.aload_n dX7_cost_33 rfl 1 rfl ?_
  refine zEV.aload_n dX7_cost_34 rfl 1 rfl ?_
  obtain ⟨q6, hq6, h⟩ := bind_yes h
  refine zEV.callVi (kX7_raggedAll   q5 q6 hq6) (by decide) rfl rfl wm_RX7_202 wc_X7_raggedAll hy_X7_raggedAll rfl ⟨Nat.le_of_ble_eq_true rfl, Nat.le_of_ble_eq_true rfl⟩ rfl (Nat.le_of_ble_eq_true rfl) dX7_cost_35 ?_
  refine zEV.i2l dX7_cost_38 ?_
  obtain ⟨q7, hq7, h⟩ := bind_yes h
  refine zEV.callVv (kX7_tell ((Int32.toInt64 q6.1))  q6.2 q7 hq7) (by decide) rfl rfl wm_RX7_135 wc_X7_tell hy_X7_tell rfl ⟨Nat.le_of_ble_eq_true rfl, Nat.le_of_ble_eq_true rfl⟩ rfl (Nat.le_of_ble_eq_true rfl) dX7_cost_39 ?_
  refine zEV.iload_n dX7_cost_42 rfl 0 rfl ?_
  have h := Option.some.inj h
  subst h
  exact zEV.iret rfl dX7_cost_43
theorem kX7_cost (M : zMM) (q : Int32 × zMM) (h : fX7_cost M = some q) : zCN yX7_cost iX7_cost [.inr (.inr 158)] M (some (.inl q.1), q.2) :=
  zCN.of (by decide) rfl rfl (Nat.le_of_ble_eq_true rfl) (zEV.perm [0] rfl (tX7_cost_0 M q h))
-- RingedPageModel.blank
def fX7_blank_124 (K55 : Int32 → Int32 → Int32 → zMM → Option (Int32 × zMM)) (K63 : Int32 → Int32 → Int32 → Int32 → zMM → Option (Int32 × zMM)) (l1 : Int32) (l3 : Int32) (l4 : Int32) (s0 : Int32) (s1 : Int32) (M : zMM) : Option (Int32 × zMM) :=
  K63 (l1) ((s1 - s0)) (l3) ((l4 + 1)) M
set_option maxRecDepth 100000 in
theorem tX7_blank_124 (K55 : Int32 → Int32 → Int32 → zMM → Option (Int32 × zMM)) (K63 : Int32 → Int32 → Int32 → Int32 → zMM → Option (Int32 × zMM)) (hK55 : ∀ (l1 : Int32) (l2 : Int32) (l3 : Int32) (M : zMM) (q : Int32 × zMM), K55 l1 l2 l3 M = some q → zEV iX7_blank 0 0 (zZO (some (.inl q.1), q.2)) 55 [(0, .inr (.inr 158)), (1, .inl l1), (2, .inl l2), (3, .inl l3)] [] M) (hK63 : ∀ (l1 : Int32) (l2 : Int32) (l3 : Int32) (l4 : Int32) (M : zMM) (q : Int32 × zMM), K63 l1 l2 l3 l4 M = some q → zEV iX7_blank 0 0 (zZO (some (.inl q.1), q.2)) 63 [(0, .inr (.inr 158)), (1, .inl l1), (2, .inl l2), (3, .inl l3), (4, .inl l4)] [] M) (l1 : Int32) (l3 : Int32) (l4 : Int32) (s0 : Int32) (s1 : Int32) (M : zMM) (q : Int32 × zMM) (h : fX7_blank_124 K55 K63 l1 l3 l4 s0 s1 M = some q) : zEV iX7_blank 0 0 (zZO (some (.inl q.1), q.2)) 124 [(0, .inr (.inr 158)), (1, .inl l1), (3, .inl l3), (4, .inl l4)] [.inl s0, .inl s1] M := by
  unfold fX7_blank_124 at h
  refine zEV.isub dX7_blank_124 ?_
  refine zEV.istore_n dX7_blank_125 rfl (Nat.le_of_ble_eq_true rfl) rfl ?_
  refine zEV.iinc (v := (l4 + 1)) dX7_blank_126 4 rfl rfl (Nat.le_of_ble_eq_true rfl) rfl ?_
  refine zEV.goto 63 dX7_blank_129 (by decide) ?_
  exact zEV.perm [2, 3, 1, 4, 0] rfl (hK63 (l1) ((s1 - s0)) (l3) ((l4 + 1)) M q h)
def fX7_blank_63 (K55 : Int32 → Int32 → Int32 → zMM → Option (Int32 × zMM)) : Nat → Int32 → Int32 → Int32 → Int32 → zMM → Option (Int32 × zMM)
  | 0, _, _, _, _, _ => none
  | n + 1, l1, l2, l3, l4, M =>
  if oob ((5 + l3)) 259 then none else
  if (M.1 159 (Int32.toNatClampNeg (5 + l3))) ≤ l4 then
    K55 (l1) (l2) ((l3 + 1)) M
  else
    (fX7_size (l3) (l4) M).bind fun q3 =>
    if oob (((70 * l3) + l4)) 210 then none else
    (fX7_told ((q3.2.1 164 (Int32.toNatClampNeg ((70 * l3) + l4)))) (1) q3.2).bind fun q5 =>
    if q5.1 = ((q5.2.1 158 14) - 1) then
      (fX7_size (l3) (l4) q5.2).bind fun q7 =>
      fX7_blank_124 K55 (fX7_blank_63 K55 n) ((l1 - q3.1)) (l3) (l4) (q7.1) (l2) q7.2
    else
      fX7_blank_124 K55 (fX7_blank_63 K55 n) ((l1 - q3.1)) (l3) (l4) (0) (l2) q5.2
set_option maxRecDepth 100000 in
theorem tX7_blank_63 (K55 : Int32 → Int32 → Int32 → zMM → Option (Int32 × zMM)) (hK55 : ∀ (l1 : Int32) (l2 : Int32) (l3 : Int32) (M : zMM) (q : Int32 × zMM), K55 l1 l2 l3 M = some q → zEV iX7_blank 0 0 (zZO (some (.inl q.1), q.2)) 55 [(0, .inr (.inr 158)), (1, .inl l1), (2, .inl l2), (3, .inl l3)] [] M) : ∀ (n : Nat) (l1 : Int32) (l2 : Int32) (l3 : Int32) (l4 : Int32) (M : zMM) (q : Int32 × zMM), fX7_blank_63 K55 n l1 l2 l3 l4 M = some q → zEV iX7_blank 0 0 (zZO (some (.inl q.1), q.2)) 63 [(0, .inr (.inr 158)), (1, .inl l1), (2, .inl l2), (3, .inl l3), (4, .inl l4)] [] M := by
  intro n
  induction n with
  | zero =>
    intro l1 l2 l3 l4 M q h
    rw [fX7_blank_63] at h
    cases h
  | succ n ih =>
    intro l1 l2 l3 l4 M q h
    rw [fX7_blank_63] at h
    refine zEV.iload dX7_blank_63 4 rfl ?_
    refine zEV.aload_n dX7_blank_65 rfl 0 rfl ?_
    refine zEV.gfr rfl inz7 0 (by decide) wf_RX7_9 (by decide) rfl rfl dX7_blank_66 ?_
    refine zEV.iconst (v := 5) dX7_blank_69 rfl ?_
    refine zEV.iload_n dX7_blank_70 rfl 3 rfl ?_
    refine zEV.iadd dX7_blank_71 ?_
    obtain ⟨g1, h⟩ := ite_no h
    refine zEV.iald (by decide) rfl g1 dX7_blank_72 ?_
    refine zEV.icmp_ge 132 dX7_blank_73 (by decide) (fun c2 => ?_) (fun c2 => ?_)
    · rw [if_pos c2] at h
      refine zEV.iinc (v := (l3 + 1)) dX7_blank_132 3 rfl rfl (Nat.le_of_ble_eq_true rfl) rfl ?_
      refine zEV.goto 55 dX7_blank_135 (by decide) ?_
      exact zEV.perm [1, 2, 3, 0] rfl (hK55 (l1) (l2) ((l3 + 1)) M q h)
    · rw [if_neg c2] at h
      refine zEV.iload_n dX7_blank_76 rfl 1 rfl ?_
      refine zEV.aload_n dX7_blank_77 rfl 0 rfl ?_
      refine zEV.iload_n dX7_blank_78 rfl 3 rfl ?_
      refine zEV.iload dX7_blank_79 4 rfl ?_
      obtain ⟨q3, hq3, h⟩ := bind_yes h
      refine zEV.callVi (kX7_size (l3) (l4)  M q3 hq3) (by decide) rfl rfl wm_RX7_147 wc_X7_size hy_X7_size rfl ⟨Nat.le_of_ble_eq_true rfl, Nat.le_of_ble_eq_true rfl⟩ rfl (Nat.le_of_ble_eq_true rfl) dX7_blank_81 ?_
      refine zEV.isub dX7_blank_84 ?_
      refine zEV.istore_n dX7_blank_85 rfl (Nat.le_of_ble_eq_true rfl) rfl ?_
      refine zEV.iload_n dX7_blank_86 rfl 2 rfl ?_
      refine zEV.aload_n dX7_blank_87 rfl 1 rfl ?_
      refine zEV.aload_n dX7_blank_88 rfl 1 rfl ?_
      refine zEV.gfr rfl inz7 12 (by decide) wf_RX7_27 (by decide) rfl rfl dX7_blank_89 ?_
      refine zEV.bipush (v := 70) dX7_blank_92 rfl ?_
      refine zEV.iload_n dX7_blank_94 rfl 3 rfl ?_
      refine zEV.imul dX7_blank_95 ?_
      refine zEV.iload dX7_blank_96 4 rfl ?_
      refine zEV.iadd dX7_blank_98 ?_
      obtain ⟨g4, h⟩ := ite_no h
      refine zEV.iald (by decide) rfl g4 dX7_blank_99 ?_
      refine zEV.iconst (v := 1) dX7_blank_100 rfl ?_
      obtain ⟨q5, hq5, h⟩ := bind_yes h
      refine zEV.callVi (kX7_told ((q3.2.1 164 (Int32.toNatClampNeg ((70 * l3) + l4)))) (1)  q3.2 q5 hq5) (by decide) rfl rfl wm_RX7_167 wc_X7_told hy_X7_told rfl ⟨Nat.le_of_ble_eq_true rfl, Nat.le_of_ble_eq_true rfl⟩ rfl (Nat.le_of_ble_eq_true rfl) dX7_blank_101 ?_
      refine zEV.aload_n dX7_blank_104 rfl 1 rfl ?_
      refine zEV.gfi rfl inz7 14 (by decide) wf_RX7_154 (by decide) rfl rfl dX7_blank_105 ?_
      refine zEV.iconst (v := 1) dX7_blank_108 rfl ?_
      refine zEV.isub dX7_blank_109 ?_
      refine zEV.icmp_ne 123 dX7_blank_110 (by decide) (fun c6 => ?_) (fun c6 => ?_)
      · rw [if_neg c6] at h
        refine zEV.iconst (v := 0) dX7_blank_123 rfl ?_
        exact zEV.perm [1, 0, 3, 4] rfl (tX7_blank_124 K55 (fX7_blank_63 K55 n) hK55 (fun l1 l2 l3 l4 M9 q9 h9 => ih l1 l2 l3 l4 M9 q9 h9) ((l1 - q3.1)) (l3) (l4) (0) (l2) q5.2 q h)
      · rw [if_pos c6] at h
        refine zEV.aload_n dX7_blank_113 rfl 1 rfl ?_
        refine zEV.iload_n dX7_blank_114 rfl 3 rfl ?_
        refine zEV.iload dX7_blank_115 4 rfl ?_
        obtain ⟨q7, hq7, h⟩ := bind_yes h
        refine zEV.callVi (kX7_size (l3) (l4)  q5.2 q7 hq7) (by decide) rfl rfl wm_RX7_147 wc_X7_size hy_X7_size rfl ⟨Nat.le_of_ble_eq_true rfl, Nat.le_of_ble_eq_true rfl⟩ rfl (Nat.le_of_ble_eq_true rfl) dX7_blank_117 ?_
        refine zEV.goto 124 dX7_blank_120 (by decide) ?_
        exact zEV.perm [1, 0, 3, 4] rfl (tX7_blank_124 K55 (fX7_blank_63 K55 n) hK55 (fun l1 l2 l3 l4 M9 q9 h9 => ih l1 l2 l3 l4 M9 q9 h9) ((l1 - q3.1)) (l3) (l4) (q7.1) (l2) q7.2 q h)
def fX7_blank_55 : Nat → Int32 → Int32 → Int32 → zMM → Option (Int32 × zMM)
  | 0, _, _, _, _ => none
  | n + 1, l1, l2, l3, M =>
  if (3 : Int32) ≤ l3 then
    (fX7_tell ((Int32.toInt64 l2)) (wr M 158 4 0)).bind fun q2 =>
    some (l1, q2)
  else
    fX7_blank_63 (fX7_blank_55 n) zFU (l1) (l2) (l3) (0) M
set_option maxRecDepth 100000 in
theorem tX7_blank_55 : ∀ (n : Nat) (l1 : Int32) (l2 : Int32) (l3 : Int32) (M : zMM) (q : Int32 × zMM), fX7_blank_55 n l1 l2 l3 M = some q → zEV iX7_blank 0 0 (zZO (some (.inl q.1), q.2)) 55 [(0, .inr (.inr 158)), (1, .inl l1), (2, .inl l2), (3, .inl l3)] [] M := by
  intro n
  induction n with
  | zero =>
    intro l1 l2 l3 M q h
    rw [fX7_blank_55] at h
    cases h
  | succ n ih =>
    intro l1 l2 l3 M q h
    rw [fX7_blank_55] at h
    refine zEV.iload_n dX7_blank_55 rfl 3 rfl ?_
    refine zEV.iconst (v := 3) dX7_blank_56 rfl ?_
    refine zEV.icmp_ge 138 dX7_blank_57 (by decide) (fun c1 => ?_) (fun c1 => ?_)
    · rw [if_pos c1] at h
      refine zEV.aload_n dX7_blank_138 rfl 0 rfl ?_
      refine zEV.iconst (v := 0) dX7_blank_139 rfl ?_
      refine zEV.pfi rfl inz7 tyX7 tyX7_ok nmX7 4 (by decide) wf_RX7_62 rfl (by decide +kernel) (by decide) rfl rfl dX7_blank_140 ?_
      refine zEV.aload_n dX7_blank_143 rfl 0 rfl ?_
      refine zEV.iload_n dX7_blank_144 rfl 2 rfl ?_
      refine zEV.i2l dX7_blank_145 ?_
      obtain ⟨q2, hq2, h⟩ := bind_yes h
      refine zEV.callVv (kX7_tell ((Int32.toInt64 l2))  (wr M 158 4 0) q2 hq2) (by decide) rfl rfl wm_RX7_135 wc_X7_tell hy_X7_tell rfl ⟨Nat.le_of_ble_eq_true rfl, Nat.le_of_ble_eq_true rfl⟩ rfl (Nat.le_of_ble_eq_true rfl) dX7_blank_146 ?_
      refine zEV.iload_n dX7_blank_149 rfl 1 rfl ?_
      have h := Option.some.inj h
      subst h
      exact zEV.iret rfl dX7_blank_150
    · rw [if_neg c1] at h
      refine zEV.iconst (v := 0) dX7_blank_60 rfl ?_
      refine zEV.istore dX7_blank_61 (Nat.le_of_ble_eq_true rfl) rfl ?_
      exact zEV.perm [1, 2, 3, 4, 0] rfl (tX7_blank_63 (fX7_blank_55 n) (fun l1 l2 l3 M9 q9 h9 => ih l1 l2 l3 M9 q9 h9) zFU (l1) (l2) (l3) (0) M q h)
def fX7_blank_52 (l1 : Int32) (s0 : Int32) (M : zMM) : Option (Int32 × zMM) :=
  fX7_blank_55 zFU (l1) (s0) (0) M
set_option maxRecDepth 100000 in
theorem tX7_blank_52 (l1 : Int32) (s0 : Int32) (M : zMM) (q : Int32 × zMM) (h : fX7_blank_52 l1 s0 M = some q) : zEV iX7_blank 0 0 (zZO (some (.inl q.1), q.2)) 52 [(0, .inr (.inr 158)), (1, .inl l1)] [.inl s0] M := by
  unfold fX7_blank_52 at h
  refine zEV.istore_n dX7_blank_52 rfl (Nat.le_of_ble_eq_true rfl) rfl ?_
  refine zEV.iconst (v := 0) dX7_blank_53 rfl ?_
  refine zEV.istore_n dX7_blank_54 rfl (Nat.le_of_ble_eq_true rfl) rfl ?_
  exact zEV.perm [2, 3, 1, 0] rfl (tX7_blank_55 zFU (l1) (s0) (0) M q h)
def fX7_blank (M : zMM) : Option (Int32 × zMM) :=
  (fX7_set  (wr M 158 5 0)).bind fun q1 =>
  if (q1.1 158 14) = (0 : Int32) then
    fX7_blank_52 ((((q1.1 158 14) * (q1.1 159 1)) * (q1.1 159 0))) (0) q1
  else
    fX7_blank_52 ((((q1.1 158 14) * (q1.1 159 1)) * (q1.1 159 0))) (((q1.1 159 1) * (q1.1 159 0))) q1
set_option maxRecDepth 100000 in
theorem tX7_blank_0 (M : zMM) (q : Int32 × zMM) (h : fX7_blank  M = some q) : zEV iX7_blank 0 0 (zZO (some (.inl q.1), q.2)) 0 [(0, .inr (.inr 158))] [] M := by
  unfold fX7_blank at h
  refine zEV.aload_n dX7_blank_0 rfl 0 rfl ?_
  refine zEV.iconst (v := 0) dX7_blank_1 rfl ?_
  refine zEV.pfi rfl inz7 tyX7 tyX7_ok nmX7 5 (by decide) wf_RX7_58 rfl (by decide +kernel) (by decide) rfl rfl dX7_blank_2 ?_
  refine zEV.aload_n dX7_blank_5 rfl 0 rfl ?_
  obtain ⟨q1, hq1, h⟩ := bind_yes h
  refine zEV.callVv (kX7_set   (wr M 158 5 0) q1 hq1) (by decide) rfl rfl wm_RX7_164 wc_X7_set hy_X7_set rfl ⟨Nat.le_of_ble_eq_true rfl, Nat.le_of_ble_eq_true rfl⟩ rfl (Nat.le_of_ble_eq_true rfl) dX7_blank_6 ?_
  refine zEV.aload_n dX7_blank_9 rfl 0 rfl ?_
  refine zEV.gfi rfl inz7 14 (by decide) wf_RX7_154 (by decide) rfl rfl dX7_blank_10 ?_
  refine zEV.aload_n dX7_blank_13 rfl 0 rfl ?_
  refine zEV.gfr rfl inz7 0 (by decide) wf_RX7_9 (by decide) rfl rfl dX7_blank_14 ?_
  refine zEV.iconst (v := 1) dX7_blank_17 rfl ?_
  refine zEV.ialdL (j := 1) (by decide) rfl (by decide) (by decide) dX7_blank_18 ?_
  refine zEV.imul dX7_blank_19 ?_
  refine zEV.aload_n dX7_blank_20 rfl 0 rfl ?_
  refine zEV.gfr rfl inz7 0 (by decide) wf_RX7_9 (by decide) rfl rfl dX7_blank_21 ?_
  refine zEV.iconst (v := 0) dX7_blank_24 rfl ?_
  refine zEV.ialdL (j := 0) (by decide) rfl (by decide) (by decide) dX7_blank_25 ?_
  refine zEV.imul dX7_blank_26 ?_
  refine zEV.istore_n dX7_blank_27 rfl (Nat.le_of_ble_eq_true rfl) rfl ?_
  refine zEV.aload_n dX7_blank_28 rfl 1 rfl ?_
  refine zEV.gfi rfl inz7 14 (by decide) wf_RX7_154 (by decide) rfl rfl dX7_blank_29 ?_
  refine zEV.if_ne 39 dX7_blank_32 (by decide) (fun c2 => ?_) (fun c2 => ?_)
  · rw [if_neg c2] at h
    refine zEV.aload_n dX7_blank_39 rfl 1 rfl ?_
    refine zEV.gfr rfl inz7 0 (by decide) wf_RX7_9 (by decide) rfl rfl dX7_blank_40 ?_
    refine zEV.iconst (v := 1) dX7_blank_43 rfl ?_
    refine zEV.ialdL (j := 1) (by decide) rfl (by decide) (by decide) dX7_blank_44 ?_
    refine zEV.aload_n dX7_blank_45 rfl 1 rfl ?_
    refine zEV.gfr rfl inz7 0 (by decide) wf_RX7_9 (by decide) rfl rfl dX7_blank_46 ?_
    refine zEV.iconst (v := 0) dX7_blank_49 rfl ?_
    refine zEV.ialdL (j := 0) (by decide) rfl (by decide) (by decide) dX7_blank_50 ?_
    refine zEV.imul dX7_blank_51 ?_
    exact zEV.perm [1, 0] rfl (tX7_blank_52 ((((q1.1 158 14) * (q1.1 159 1)) * (q1.1 159 0))) (((q1.1 159 1) * (q1.1 159 0))) q1 q h)
  · rw [if_pos c2] at h
    refine zEV.iconst (v := 0) dX7_blank_35 rfl ?_
    refine zEV.goto 52 dX7_blank_36 (by decide) ?_
    exact zEV.perm [1, 0] rfl (tX7_blank_52 ((((q1.1 158 14) * (q1.1 159 1)) * (q1.1 159 0))) (0) q1 q h)
theorem kX7_blank (M : zMM) (q : Int32 × zMM) (h : fX7_blank M = some q) : zCN yX7_blank iX7_blank [.inr (.inr 158)] M (some (.inl q.1), q.2) :=
  zCN.of (by decide) rfl rfl (Nat.le_of_ble_eq_true rfl) (zEV.perm [0] rfl (tX7_blank_0 M q h))
-- RingedPageModel.tie
def fX7_tie_56 (a1 : Int32) : Nat → Int32 → zMM → Option (Int32 × zMM)
  | 0, _, _ => none
  | n + 1, l2, M =>
  if (3 : Int32) ≤ l2 then
    (fX7_deepOf (a1) M).bind fun q2 =>
    some (q2.1, q2.2)
  else
    (fX7_tied (a1) (l2) M).bind fun q3 =>
    (fX7_tell ((Int32.toInt64 q3.1)) q3.2).bind fun q4 =>
    fX7_tie_56 a1 n ((l2 + 1)) q4
set_option maxRecDepth 100000 in
theorem tX7_tie_56 (a1 : Int32) : ∀ (n : Nat) (l2 : Int32) (M : zMM) (q : Int32 × zMM), fX7_tie_56 a1 n l2 M = some q → zEV iX7_tie 0 0 (zZO (some (.inl q.1), q.2)) 56 [(0, .inr (.inr 158)), (1, .inl a1), (2, .inl l2)] [] M := by
  intro n
  induction n with
  | zero =>
    intro l2 M q h
    rw [fX7_tie_56] at h
    cases h
  | succ n ih =>
    intro l2 M q h
    rw [fX7_tie_56] at h
    refine zEV.iload_n dX7_tie_56 rfl 2 rfl ?_
    refine zEV.iconst (v := 3) dX7_tie_57 rfl ?_
    refine zEV.icmp_ge 78 dX7_tie_58 (by decide) (fun c1 => ?_) (fun c1 => ?_)
    · rw [if_pos c1] at h
      refine zEV.aload_n dX7_tie_78 rfl 0 rfl ?_
      refine zEV.iload_n dX7_tie_79 rfl 1 rfl ?_
      obtain ⟨q2, hq2, h⟩ := bind_yes h
      refine zEV.callVi (kX7_deepOf (a1)  M q2 hq2) (by decide) rfl rfl wm_RX7_205 wc_X7_deepOf hy_X7_deepOf rfl ⟨Nat.le_of_ble_eq_true rfl, Nat.le_of_ble_eq_true rfl⟩ rfl (Nat.le_of_ble_eq_true rfl) dX7_tie_80 ?_
      have h := Option.some.inj h
      subst h
      exact zEV.iret rfl dX7_tie_83
    · rw [if_neg c1] at h
      refine zEV.aload_n dX7_tie_61 rfl 0 rfl ?_
      refine zEV.aload_n dX7_tie_62 rfl 0 rfl ?_
      refine zEV.iload_n dX7_tie_63 rfl 1 rfl ?_
      refine zEV.iload_n dX7_tie_64 rfl 2 rfl ?_
      obtain ⟨q3, hq3, h⟩ := bind_yes h
      refine zEV.callVi (kX7_tied (a1) (l2)  M q3 hq3) (by decide) rfl rfl wm_RX7_110 wc_X7_tied hy_X7_tied rfl ⟨Nat.le_of_ble_eq_true rfl, Nat.le_of_ble_eq_true rfl⟩ rfl (Nat.le_of_ble_eq_true rfl) dX7_tie_65 ?_
      refine zEV.i2l dX7_tie_68 ?_
      obtain ⟨q4, hq4, h⟩ := bind_yes h
      refine zEV.callVv (kX7_tell ((Int32.toInt64 q3.1))  q3.2 q4 hq4) (by decide) rfl rfl wm_RX7_135 wc_X7_tell hy_X7_tell rfl ⟨Nat.le_of_ble_eq_true rfl, Nat.le_of_ble_eq_true rfl⟩ rfl (Nat.le_of_ble_eq_true rfl) dX7_tie_69 ?_
      refine zEV.iinc (v := (l2 + 1)) dX7_tie_72 2 rfl rfl (Nat.le_of_ble_eq_true rfl) rfl ?_
      refine zEV.goto 56 dX7_tie_75 (by decide) ?_
      exact zEV.perm [1, 2, 0] rfl (ih ((l2 + 1)) q4 q h)
def fX7_tie_51 (a1 : Int32) (s0 : Int64) (M : zMM) : Option (Int32 × zMM) :=
  (fX7_tell (s0) M).bind fun q1 =>
  fX7_tie_56 a1 zFU (0) q1
set_option maxRecDepth 100000 in
theorem tX7_tie_51 (a1 : Int32) (s0 : Int64) (M : zMM) (q : Int32 × zMM) (h : fX7_tie_51 a1 s0 M = some q) : zEV iX7_tie 0 0 (zZO (some (.inl q.1), q.2)) 51 [(0, .inr (.inr 158)), (1, .inl a1)] [.inr (.inl s0), .inr (.inr 158)] M := by
  unfold fX7_tie_51 at h
  obtain ⟨q1, hq1, h⟩ := bind_yes h
  refine zEV.callVv (kX7_tell (s0)  M q1 hq1) (by decide) rfl rfl wm_RX7_135 wc_X7_tell hy_X7_tell rfl ⟨Nat.le_of_ble_eq_true rfl, Nat.le_of_ble_eq_true rfl⟩ rfl (Nat.le_of_ble_eq_true rfl) dX7_tie_51 ?_
  refine zEV.iconst (v := 0) dX7_tie_54 rfl ?_
  refine zEV.istore_n dX7_tie_55 rfl (Nat.le_of_ble_eq_true rfl) rfl ?_
  exact zEV.perm [1, 2, 0] rfl (tX7_tie_56 a1 zFU (0) q1 q h)
def fX7_tie (a1 : Int32) (M : zMM) : Option (Int32 × zMM) :=
  (fX7_in (a1) (0) ((((wr M 158 5 0).1 159 218) - 1)) (wr M 158 5 0)).bind fun q1 =>
  if q1.1 = (0 : Int32) then
    (fX7_lost  q1.2).bind fun q6 =>
    some (q6.1, q6.2)
  else
    (fX7_set  q1.2).bind fun q3 =>
    (fX7_isBroken (a1) (wr q3 158 4 0)).bind fun q4 =>
    if q4.1 = (0 : Int32) then
      fX7_tie_51 a1 ((0 : Int64)) q4.2
    else
      fX7_tie_51 a1 ((1 : Int64)) q4.2
set_option maxRecDepth 100000 in
theorem tX7_tie_0 (a1 : Int32) (M : zMM) (q : Int32 × zMM) (h : fX7_tie a1  M = some q) : zEV iX7_tie 0 0 (zZO (some (.inl q.1), q.2)) 0 [(0, .inr (.inr 158)), (1, .inl a1)] [] M := by
  unfold fX7_tie at h
  refine zEV.aload_n dX7_tie_0 rfl 0 rfl ?_
  refine zEV.iconst (v := 0) dX7_tie_1 rfl ?_
  refine zEV.pfi rfl inz7 tyX7 tyX7_ok nmX7 5 (by decide) wf_RX7_58 rfl (by decide +kernel) (by decide) rfl rfl dX7_tie_2 ?_
  refine zEV.iload_n dX7_tie_5 rfl 1 rfl ?_
  refine zEV.iconst (v := 0) dX7_tie_6 rfl ?_
  refine zEV.aload_n dX7_tie_7 rfl 0 rfl ?_
  refine zEV.gfr rfl inz7 0 (by decide) wf_RX7_9 (by decide) rfl rfl dX7_tie_8 ?_
  refine zEV.sipush (v := 218) dX7_tie_11 rfl ?_
  refine zEV.ialdL (j := 218) (by decide) rfl (by decide) (by decide) dX7_tie_14 ?_
  refine zEV.iconst (v := 1) dX7_tie_15 rfl ?_
  refine zEV.isub dX7_tie_16 ?_
  obtain ⟨q1, hq1, h⟩ := bind_yes h
  refine zEV.callSi (kX7_in (a1) (0) ((((wr M 158 5 0).1 159 218) - 1))  (wr M 158 5 0) q1 hq1) wm_RX7_65 wc_X7_in hy_X7_in rfl ⟨Nat.le_of_ble_eq_true rfl, Nat.le_of_ble_eq_true rfl⟩ rfl (Nat.le_of_ble_eq_true rfl) dX7_tie_17 ?_
  refine zEV.if_ne 28 dX7_tie_20 (by decide) (fun c2 => ?_) (fun c2 => ?_)
  · rw [if_neg c2] at h
    refine zEV.aload_n dX7_tie_28 rfl 0 rfl ?_
    obtain ⟨q3, hq3, h⟩ := bind_yes h
    refine zEV.callVv (kX7_set   q1.2 q3 hq3) (by decide) rfl rfl wm_RX7_164 wc_X7_set hy_X7_set rfl ⟨Nat.le_of_ble_eq_true rfl, Nat.le_of_ble_eq_true rfl⟩ rfl (Nat.le_of_ble_eq_true rfl) dX7_tie_29 ?_
    refine zEV.aload_n dX7_tie_32 rfl 0 rfl ?_
    refine zEV.iconst (v := 0) dX7_tie_33 rfl ?_
    refine zEV.pfi rfl inz7 tyX7 tyX7_ok nmX7 4 (by decide) wf_RX7_62 rfl (by decide +kernel) (by decide) rfl rfl dX7_tie_34 ?_
    refine zEV.aload_n dX7_tie_37 rfl 0 rfl ?_
    refine zEV.aload_n dX7_tie_38 rfl 0 rfl ?_
    refine zEV.iload_n dX7_tie_39 rfl 1 rfl ?_
    obtain ⟨q4, hq4, h⟩ := bind_yes h
    refine zEV.callVi (kX7_isBroken (a1)  (wr q3 158 4 0) q4 hq4) (by decide) rfl rfl wm_RX7_208 wc_X7_isBroken hy_X7_isBroken rfl ⟨Nat.le_of_ble_eq_true rfl, Nat.le_of_ble_eq_true rfl⟩ rfl (Nat.le_of_ble_eq_true rfl) dX7_tie_40 ?_
    refine zEV.if_eq 50 dX7_tie_43 (by decide) (fun c5 => ?_) (fun c5 => ?_)
    · rw [if_pos c5] at h
      refine zEV.lconst (v := 0) dX7_tie_50 rfl ?_
      exact zEV.perm [0, 1] rfl (tX7_tie_51 a1 ((0 : Int64)) q4.2 q h)
    · rw [if_neg c5] at h
      refine zEV.lconst (v := 1) dX7_tie_46 rfl ?_
      refine zEV.goto 51 dX7_tie_47 (by decide) ?_
      exact zEV.perm [0, 1] rfl (tX7_tie_51 a1 ((1 : Int64)) q4.2 q h)
  · rw [if_pos c2] at h
    refine zEV.aload_n dX7_tie_23 rfl 0 rfl ?_
    obtain ⟨q6, hq6, h⟩ := bind_yes h
    refine zEV.callVi (kX7_lost   q1.2 q6 hq6) (by decide) rfl rfl wm_RX7_180 wc_X7_lost hy_X7_lost rfl ⟨Nat.le_of_ble_eq_true rfl, Nat.le_of_ble_eq_true rfl⟩ rfl (Nat.le_of_ble_eq_true rfl) dX7_tie_24 ?_
    have h := Option.some.inj h
    subst h
    exact zEV.iret rfl dX7_tie_27
theorem kX7_tie (a1 : Int32) (M : zMM) (q : Int32 × zMM) (h : fX7_tie a1 M = some q) : zCN yX7_tie iX7_tie [.inr (.inr 158), .inl a1] M (some (.inl q.1), q.2) :=
  zCN.of (by decide) rfl rfl (Nat.le_of_ble_eq_true rfl) (zEV.perm [0, 1] rfl (tX7_tie_0 a1 M q h))
-- RingedPageModel.broken
def fX7_broken_46 (K24 : Int32 → Int32 → Int32 → zMM → Option (Int32 × zMM)) (l1 : Int32) (l2 : Int32) (l3 : Int32) (M : zMM) : Option (Int32 × zMM) :=
  K24 (l1) (l2) ((l3 + (-1))) M
set_option maxRecDepth 100000 in
theorem tX7_broken_46 (K24 : Int32 → Int32 → Int32 → zMM → Option (Int32 × zMM)) (hK24 : ∀ (l1 : Int32) (l2 : Int32) (l3 : Int32) (M : zMM) (q : Int32 × zMM), K24 l1 l2 l3 M = some q → zEV iX7_broken 0 0 (zZO (some (.inl q.1), q.2)) 24 [(0, .inr (.inr 158)), (1, .inl l1), (2, .inl l2), (3, .inl l3)] [] M) (l1 : Int32) (l2 : Int32) (l3 : Int32) (M : zMM) (q : Int32 × zMM) (h : fX7_broken_46 K24 l1 l2 l3 M = some q) : zEV iX7_broken 0 0 (zZO (some (.inl q.1), q.2)) 46 [(0, .inr (.inr 158)), (1, .inl l1), (2, .inl l2), (3, .inl l3)] [] M := by
  unfold fX7_broken_46 at h
  refine zEV.iinc (v := (l3 + (-1))) dX7_broken_46 3 rfl rfl (Nat.le_of_ble_eq_true rfl) rfl ?_
  refine zEV.goto 24 dX7_broken_49 (by decide) ?_
  exact zEV.perm [1, 2, 3, 0] rfl (hK24 (l1) (l2) ((l3 + (-1))) M q h)
def fX7_broken_24 : Nat → Int32 → Int32 → Int32 → zMM → Option (Int32 × zMM)
  | 0, _, _, _, _ => none
  | n + 1, l1, l2, l3, M =>
  if l3 < (0 : Int32) then
    (fX7_tell ((Int32.toInt64 l1)) (wr M 158 4 0)).bind fun q2 =>
    (fX7_tell ((Int32.toInt64 l2)) q2).bind fun q3 =>
    (fX7_brokenMany  q3).bind fun q4 =>
    some (q4.1, q4.2)
  else
    (fX7_deepOf (l3) M).bind fun q5 =>
    (fX7_isBroken (l3) q5.2).bind fun q6 =>
    if q6.1 = (0 : Int32) then
      fX7_broken_46 (fX7_broken_24 n) (l1) ((l2 + q5.1)) (l3) q6.2
    else
      fX7_broken_46 (fX7_broken_24 n) (l3) ((l2 + q5.1)) (l3) q6.2
set_option maxRecDepth 100000 in
theorem tX7_broken_24 : ∀ (n : Nat) (l1 : Int32) (l2 : Int32) (l3 : Int32) (M : zMM) (q : Int32 × zMM), fX7_broken_24 n l1 l2 l3 M = some q → zEV iX7_broken 0 0 (zZO (some (.inl q.1), q.2)) 24 [(0, .inr (.inr 158)), (1, .inl l1), (2, .inl l2), (3, .inl l3)] [] M := by
  intro n
  induction n with
  | zero =>
    intro l1 l2 l3 M q h
    rw [fX7_broken_24] at h
    cases h
  | succ n ih =>
    intro l1 l2 l3 M q h
    rw [fX7_broken_24] at h
    refine zEV.iload_n dX7_broken_24 rfl 3 rfl ?_
    refine zEV.if_lt 52 dX7_broken_25 (by decide) (fun c1 => ?_) (fun c1 => ?_)
    · rw [if_pos c1] at h
      refine zEV.aload_n dX7_broken_52 rfl 0 rfl ?_
      refine zEV.iconst (v := 0) dX7_broken_53 rfl ?_
      refine zEV.pfi rfl inz7 tyX7 tyX7_ok nmX7 4 (by decide) wf_RX7_62 rfl (by decide +kernel) (by decide) rfl rfl dX7_broken_54 ?_
      refine zEV.aload_n dX7_broken_57 rfl 0 rfl ?_
      refine zEV.iload_n dX7_broken_58 rfl 1 rfl ?_
      refine zEV.i2l dX7_broken_59 ?_
      obtain ⟨q2, hq2, h⟩ := bind_yes h
      refine zEV.callVv (kX7_tell ((Int32.toInt64 l1))  (wr M 158 4 0) q2 hq2) (by decide) rfl rfl wm_RX7_135 wc_X7_tell hy_X7_tell rfl ⟨Nat.le_of_ble_eq_true rfl, Nat.le_of_ble_eq_true rfl⟩ rfl (Nat.le_of_ble_eq_true rfl) dX7_broken_60 ?_
      refine zEV.aload_n dX7_broken_63 rfl 0 rfl ?_
      refine zEV.iload_n dX7_broken_64 rfl 2 rfl ?_
      refine zEV.i2l dX7_broken_65 ?_
      obtain ⟨q3, hq3, h⟩ := bind_yes h
      refine zEV.callVv (kX7_tell ((Int32.toInt64 l2))  q2 q3 hq3) (by decide) rfl rfl wm_RX7_135 wc_X7_tell hy_X7_tell rfl ⟨Nat.le_of_ble_eq_true rfl, Nat.le_of_ble_eq_true rfl⟩ rfl (Nat.le_of_ble_eq_true rfl) dX7_broken_66 ?_
      refine zEV.aload_n dX7_broken_69 rfl 0 rfl ?_
      obtain ⟨q4, hq4, h⟩ := bind_yes h
      refine zEV.callVi (kX7_brokenMany   q3 q4 hq4) (by decide) rfl rfl wm_RX7_211 wc_X7_brokenMany hy_X7_brokenMany rfl ⟨Nat.le_of_ble_eq_true rfl, Nat.le_of_ble_eq_true rfl⟩ rfl (Nat.le_of_ble_eq_true rfl) dX7_broken_70 ?_
      have h := Option.some.inj h
      subst h
      exact zEV.iret rfl dX7_broken_73
    · rw [if_neg c1] at h
      refine zEV.iload_n dX7_broken_28 rfl 2 rfl ?_
      refine zEV.aload_n dX7_broken_29 rfl 0 rfl ?_
      refine zEV.iload_n dX7_broken_30 rfl 3 rfl ?_
      obtain ⟨q5, hq5, h⟩ := bind_yes h
      refine zEV.callVi (kX7_deepOf (l3)  M q5 hq5) (by decide) rfl rfl wm_RX7_205 wc_X7_deepOf hy_X7_deepOf rfl ⟨Nat.le_of_ble_eq_true rfl, Nat.le_of_ble_eq_true rfl⟩ rfl (Nat.le_of_ble_eq_true rfl) dX7_broken_31 ?_
      refine zEV.iadd dX7_broken_34 ?_
      refine zEV.istore_n dX7_broken_35 rfl (Nat.le_of_ble_eq_true rfl) rfl ?_
      refine zEV.aload_n dX7_broken_36 rfl 1 rfl ?_
      refine zEV.iload_n dX7_broken_37 rfl 3 rfl ?_
      obtain ⟨q6, hq6, h⟩ := bind_yes h
      refine zEV.callVi (kX7_isBroken (l3)  q5.2 q6 hq6) (by decide) rfl rfl wm_RX7_208 wc_X7_isBroken hy_X7_isBroken rfl ⟨Nat.le_of_ble_eq_true rfl, Nat.le_of_ble_eq_true rfl⟩ rfl (Nat.le_of_ble_eq_true rfl) dX7_broken_38 ?_
      refine zEV.if_eq 46 dX7_broken_41 (by decide) (fun c7 => ?_) (fun c7 => ?_)
      · rw [if_pos c7] at h
        exact zEV.perm [1, 2, 0, 3] rfl (tX7_broken_46 (fX7_broken_24 n) (fun l1 l2 l3 M9 q9 h9 => ih l1 l2 l3 M9 q9 h9) (l1) ((l2 + q5.1)) (l3) q6.2 q h)
      · rw [if_neg c7] at h
        refine zEV.iload_n dX7_broken_44 rfl 3 rfl ?_
        refine zEV.istore_n dX7_broken_45 rfl (Nat.le_of_ble_eq_true rfl) rfl ?_
        exact zEV.perm [2, 0, 1, 3] rfl (tX7_broken_46 (fX7_broken_24 n) (fun l1 l2 l3 M9 q9 h9 => ih l1 l2 l3 M9 q9 h9) (l3) ((l2 + q5.1)) (l3) q6.2 q h)
def fX7_broken (M : zMM) : Option (Int32 × zMM) :=
  (fX7_set  (wr M 158 5 0)).bind fun q1 =>
  fX7_broken_24 zFU ((-1)) (0) (((q1.1 159 218) - 1)) q1
set_option maxRecDepth 100000 in
theorem tX7_broken_0 (M : zMM) (q : Int32 × zMM) (h : fX7_broken  M = some q) : zEV iX7_broken 0 0 (zZO (some (.inl q.1), q.2)) 0 [(0, .inr (.inr 158))] [] M := by
  unfold fX7_broken at h
  refine zEV.aload_n dX7_broken_0 rfl 0 rfl ?_
  refine zEV.iconst (v := 0) dX7_broken_1 rfl ?_
  refine zEV.pfi rfl inz7 tyX7 tyX7_ok nmX7 5 (by decide) wf_RX7_58 rfl (by decide +kernel) (by decide) rfl rfl dX7_broken_2 ?_
  refine zEV.aload_n dX7_broken_5 rfl 0 rfl ?_
  obtain ⟨q1, hq1, h⟩ := bind_yes h
  refine zEV.callVv (kX7_set   (wr M 158 5 0) q1 hq1) (by decide) rfl rfl wm_RX7_164 wc_X7_set hy_X7_set rfl ⟨Nat.le_of_ble_eq_true rfl, Nat.le_of_ble_eq_true rfl⟩ rfl (Nat.le_of_ble_eq_true rfl) dX7_broken_6 ?_
  refine zEV.iconst (v := (-1)) dX7_broken_9 rfl ?_
  refine zEV.istore_n dX7_broken_10 rfl (Nat.le_of_ble_eq_true rfl) rfl ?_
  refine zEV.iconst (v := 0) dX7_broken_11 rfl ?_
  refine zEV.istore_n dX7_broken_12 rfl (Nat.le_of_ble_eq_true rfl) rfl ?_
  refine zEV.aload_n dX7_broken_13 rfl 2 rfl ?_
  refine zEV.gfr rfl inz7 0 (by decide) wf_RX7_9 (by decide) rfl rfl dX7_broken_14 ?_
  refine zEV.sipush (v := 218) dX7_broken_17 rfl ?_
  refine zEV.ialdL (j := 218) (by decide) rfl (by decide) (by decide) dX7_broken_20 ?_
  refine zEV.iconst (v := 1) dX7_broken_21 rfl ?_
  refine zEV.isub dX7_broken_22 ?_
  refine zEV.istore_n dX7_broken_23 rfl (Nat.le_of_ble_eq_true rfl) rfl ?_
  exact zEV.perm [3, 2, 1, 0] rfl (tX7_broken_24 zFU ((-1)) (0) (((q1.1 159 218) - 1)) q1 q h)
theorem kX7_broken (M : zMM) (q : Int32 × zMM) (h : fX7_broken M = some q) : zCN yX7_broken iX7_broken [.inr (.inr 158)] M (some (.inl q.1), q.2) :=
  zCN.of (by decide) rfl rfl (Nat.le_of_ble_eq_true rfl) (zEV.perm [0] rfl (tX7_broken_0 M q h))
-- RingedPageModel.isLoose
def fX7_isLoose_2 (a1 : Int32) : Nat → Int32 → zMM → Option (Int32 × zMM)
  | 0, _, _ => none
  | n + 1, l2, M =>
  if (M.1 159 218) ≤ l2 then
    some (1, M)
  else
    (fX7_tied (l2) (2) M).bind fun q2 =>
    if q2.1 = a1 then
      some (0, q2.2)
    else
      fX7_isLoose_2 a1 n ((l2 + 1)) q2.2
set_option maxRecDepth 100000 in
theorem tX7_isLoose_2 (a1 : Int32) : ∀ (n : Nat) (l2 : Int32) (M : zMM) (q : Int32 × zMM), fX7_isLoose_2 a1 n l2 M = some q → zEV iX7_isLoose 0 0 (zZO (some (.inl q.1), q.2)) 2 [(0, .inr (.inr 158)), (1, .inl a1), (2, .inl l2)] [] M := by
  intro n
  induction n with
  | zero =>
    intro l2 M q h
    rw [fX7_isLoose_2] at h
    cases h
  | succ n ih =>
    intro l2 M q h
    rw [fX7_isLoose_2] at h
    refine zEV.iload_n dX7_isLoose_2 rfl 2 rfl ?_
    refine zEV.aload_n dX7_isLoose_3 rfl 0 rfl ?_
    refine zEV.gfr rfl inz7 0 (by decide) wf_RX7_9 (by decide) rfl rfl dX7_isLoose_4 ?_
    refine zEV.sipush (v := 218) dX7_isLoose_7 rfl ?_
    refine zEV.ialdL (j := 218) (by decide) rfl (by decide) (by decide) dX7_isLoose_10 ?_
    refine zEV.icmp_ge 32 dX7_isLoose_11 (by decide) (fun c1 => ?_) (fun c1 => ?_)
    · rw [if_pos c1] at h
      refine zEV.iconst (v := 1) dX7_isLoose_32 rfl ?_
      have h := Option.some.inj h
      subst h
      exact zEV.zret rfl (Or.inr rfl) dX7_isLoose_33
    · rw [if_neg c1] at h
      refine zEV.aload_n dX7_isLoose_14 rfl 0 rfl ?_
      refine zEV.iload_n dX7_isLoose_15 rfl 2 rfl ?_
      refine zEV.iconst (v := 2) dX7_isLoose_16 rfl ?_
      obtain ⟨q2, hq2, h⟩ := bind_yes h
      refine zEV.callVi (kX7_tied (l2) (2)  M q2 hq2) (by decide) rfl rfl wm_RX7_110 wc_X7_tied hy_X7_tied rfl ⟨Nat.le_of_ble_eq_true rfl, Nat.le_of_ble_eq_true rfl⟩ rfl (Nat.le_of_ble_eq_true rfl) dX7_isLoose_17 ?_
      refine zEV.iload_n dX7_isLoose_20 rfl 1 rfl ?_
      refine zEV.icmp_ne 26 dX7_isLoose_21 (by decide) (fun c3 => ?_) (fun c3 => ?_)
      · rw [if_neg c3] at h
        refine zEV.iinc (v := (l2 + 1)) dX7_isLoose_26 2 rfl rfl (Nat.le_of_ble_eq_true rfl) rfl ?_
        refine zEV.goto 2 dX7_isLoose_29 (by decide) ?_
        exact zEV.perm [1, 2, 0] rfl (ih ((l2 + 1)) q2.2 q h)
      · rw [if_pos c3] at h
        refine zEV.iconst (v := 0) dX7_isLoose_24 rfl ?_
        have h := Option.some.inj h
        subst h
        exact zEV.zret rfl (Or.inl rfl) dX7_isLoose_25
def fX7_isLoose (a1 : Int32) (M : zMM) : Option (Int32 × zMM) :=
  fX7_isLoose_2 a1 zFU (0) M
set_option maxRecDepth 100000 in
theorem tX7_isLoose_0 (a1 : Int32) (M : zMM) (q : Int32 × zMM) (h : fX7_isLoose a1  M = some q) : zEV iX7_isLoose 0 0 (zZO (some (.inl q.1), q.2)) 0 [(0, .inr (.inr 158)), (1, .inl a1)] [] M := by
  unfold fX7_isLoose at h
  refine zEV.iconst (v := 0) dX7_isLoose_0 rfl ?_
  refine zEV.istore_n dX7_isLoose_1 rfl (Nat.le_of_ble_eq_true rfl) rfl ?_
  exact zEV.perm [1, 2, 0] rfl (tX7_isLoose_2 a1 zFU (0) M q h)
theorem kX7_isLoose (a1 : Int32) (M : zMM) (q : Int32 × zMM) (h : fX7_isLoose a1 M = some q) : zCN yX7_isLoose iX7_isLoose [.inr (.inr 158), .inl a1] M (some (.inl q.1), q.2) :=
  zCN.of (by decide) rfl rfl (Nat.le_of_ble_eq_true rfl) (zEV.perm [0, 1] rfl (tX7_isLoose_0 a1 M q h))
-- RingedPageModel.loose
def fX7_loose_38 (K18 : Int32 → Int32 → Int32 → zMM → Option (Int32 × zMM)) (l1 : Int32) (l2 : Int32) (l3 : Int32) (M : zMM) : Option (Int32 × zMM) :=
  K18 (l1) (l2) ((l3 + (-1))) M
set_option maxRecDepth 100000 in
theorem tX7_loose_38 (K18 : Int32 → Int32 → Int32 → zMM → Option (Int32 × zMM)) (hK18 : ∀ (l1 : Int32) (l2 : Int32) (l3 : Int32) (M : zMM) (q : Int32 × zMM), K18 l1 l2 l3 M = some q → zEV iX7_loose 0 0 (zZO (some (.inl q.1), q.2)) 18 [(0, .inr (.inr 158)), (1, .inl l1), (2, .inl l2), (3, .inl l3)] [] M) (l1 : Int32) (l2 : Int32) (l3 : Int32) (M : zMM) (q : Int32 × zMM) (h : fX7_loose_38 K18 l1 l2 l3 M = some q) : zEV iX7_loose 0 0 (zZO (some (.inl q.1), q.2)) 38 [(0, .inr (.inr 158)), (1, .inl l1), (2, .inl l2), (3, .inl l3)] [] M := by
  unfold fX7_loose_38 at h
  refine zEV.iinc (v := (l3 + (-1))) dX7_loose_38 3 rfl rfl (Nat.le_of_ble_eq_true rfl) rfl ?_
  refine zEV.goto 18 dX7_loose_41 (by decide) ?_
  exact zEV.perm [1, 2, 3, 0] rfl (hK18 (l1) (l2) ((l3 + (-1))) M q h)
def fX7_loose_18 : Nat → Int32 → Int32 → Int32 → zMM → Option (Int32 × zMM)
  | 0, _, _, _, _ => none
  | n + 1, l1, l2, l3, M =>
  if l3 < (0 : Int32) then
    (fX7_tell ((Int32.toInt64 l2)) (wr M 158 4 0)).bind fun q2 =>
    some (l1, q2)
  else
    (fX7_isLoose (l3) M).bind fun q3 =>
    if q3.1 = (0 : Int32) then
      fX7_loose_38 (fX7_loose_18 n) (l1) (l2) (l3) q3.2
    else
      fX7_loose_38 (fX7_loose_18 n) ((l1 + 1)) (l3) (l3) q3.2
set_option maxRecDepth 100000 in
theorem tX7_loose_18 : ∀ (n : Nat) (l1 : Int32) (l2 : Int32) (l3 : Int32) (M : zMM) (q : Int32 × zMM), fX7_loose_18 n l1 l2 l3 M = some q → zEV iX7_loose 0 0 (zZO (some (.inl q.1), q.2)) 18 [(0, .inr (.inr 158)), (1, .inl l1), (2, .inl l2), (3, .inl l3)] [] M := by
  intro n
  induction n with
  | zero =>
    intro l1 l2 l3 M q h
    rw [fX7_loose_18] at h
    cases h
  | succ n ih =>
    intro l1 l2 l3 M q h
    rw [fX7_loose_18] at h
    refine zEV.iload_n dX7_loose_18 rfl 3 rfl ?_
    refine zEV.if_lt 44 dX7_loose_19 (by decide) (fun c1 => ?_) (fun c1 => ?_)
    · rw [if_pos c1] at h
      refine zEV.aload_n dX7_loose_44 rfl 0 rfl ?_
      refine zEV.iconst (v := 0) dX7_loose_45 rfl ?_
      refine zEV.pfi rfl inz7 tyX7 tyX7_ok nmX7 4 (by decide) wf_RX7_62 rfl (by decide +kernel) (by decide) rfl rfl dX7_loose_46 ?_
      refine zEV.aload_n dX7_loose_49 rfl 0 rfl ?_
      refine zEV.iload_n dX7_loose_50 rfl 2 rfl ?_
      refine zEV.i2l dX7_loose_51 ?_
      obtain ⟨q2, hq2, h⟩ := bind_yes h
      refine zEV.callVv (kX7_tell ((Int32.toInt64 l2))  (wr M 158 4 0) q2 hq2) (by decide) rfl rfl wm_RX7_135 wc_X7_tell hy_X7_tell rfl ⟨Nat.le_of_ble_eq_true rfl, Nat.le_of_ble_eq_true rfl⟩ rfl (Nat.le_of_ble_eq_true rfl) dX7_loose_52 ?_
      refine zEV.iload_n dX7_loose_55 rfl 1 rfl ?_
      have h := Option.some.inj h
      subst h
      exact zEV.iret rfl dX7_loose_56
    · rw [if_neg c1] at h
      refine zEV.aload_n dX7_loose_22 rfl 0 rfl ?_
      refine zEV.iload_n dX7_loose_23 rfl 3 rfl ?_
      obtain ⟨q3, hq3, h⟩ := bind_yes h
      refine zEV.callVi (kX7_isLoose (l3)  M q3 hq3) (by decide) rfl rfl wm_RX7_220 wc_X7_isLoose hy_X7_isLoose rfl ⟨Nat.le_of_ble_eq_true rfl, Nat.le_of_ble_eq_true rfl⟩ rfl (Nat.le_of_ble_eq_true rfl) dX7_loose_24 ?_
      refine zEV.if_ne 33 dX7_loose_27 (by decide) (fun c4 => ?_) (fun c4 => ?_)
      · rw [if_neg c4] at h
        refine zEV.iinc (v := (l1 + 1)) dX7_loose_33 1 rfl rfl (Nat.le_of_ble_eq_true rfl) rfl ?_
        refine zEV.iload_n dX7_loose_36 rfl 3 rfl ?_
        refine zEV.istore_n dX7_loose_37 rfl (Nat.le_of_ble_eq_true rfl) rfl ?_
        exact zEV.perm [2, 1, 0, 3] rfl (tX7_loose_38 (fX7_loose_18 n) (fun l1 l2 l3 M9 q9 h9 => ih l1 l2 l3 M9 q9 h9) ((l1 + 1)) (l3) (l3) q3.2 q h)
      · rw [if_pos c4] at h
        refine zEV.goto 38 dX7_loose_30 (by decide) ?_
        exact zEV.perm [0, 1, 2, 3] rfl (tX7_loose_38 (fX7_loose_18 n) (fun l1 l2 l3 M9 q9 h9 => ih l1 l2 l3 M9 q9 h9) (l1) (l2) (l3) q3.2 q h)
def fX7_loose (M : zMM) : Option (Int32 × zMM) :=
  fX7_loose_18 zFU (0) ((-1)) ((((wr M 158 5 0).1 159 5) - 1)) (wr M 158 5 0)
set_option maxRecDepth 100000 in
theorem tX7_loose_0 (M : zMM) (q : Int32 × zMM) (h : fX7_loose  M = some q) : zEV iX7_loose 0 0 (zZO (some (.inl q.1), q.2)) 0 [(0, .inr (.inr 158))] [] M := by
  unfold fX7_loose at h
  refine zEV.aload_n dX7_loose_0 rfl 0 rfl ?_
  refine zEV.iconst (v := 0) dX7_loose_1 rfl ?_
  refine zEV.pfi rfl inz7 tyX7 tyX7_ok nmX7 5 (by decide) wf_RX7_58 rfl (by decide +kernel) (by decide) rfl rfl dX7_loose_2 ?_
  refine zEV.iconst (v := 0) dX7_loose_5 rfl ?_
  refine zEV.istore_n dX7_loose_6 rfl (Nat.le_of_ble_eq_true rfl) rfl ?_
  refine zEV.iconst (v := (-1)) dX7_loose_7 rfl ?_
  refine zEV.istore_n dX7_loose_8 rfl (Nat.le_of_ble_eq_true rfl) rfl ?_
  refine zEV.aload_n dX7_loose_9 rfl 2 rfl ?_
  refine zEV.gfr rfl inz7 0 (by decide) wf_RX7_9 (by decide) rfl rfl dX7_loose_10 ?_
  refine zEV.iconst (v := 5) dX7_loose_13 rfl ?_
  refine zEV.ialdL (j := 5) (by decide) rfl (by decide) (by decide) dX7_loose_14 ?_
  refine zEV.iconst (v := 1) dX7_loose_15 rfl ?_
  refine zEV.isub dX7_loose_16 ?_
  refine zEV.istore_n dX7_loose_17 rfl (Nat.le_of_ble_eq_true rfl) rfl ?_
  exact zEV.perm [3, 2, 1, 0] rfl (tX7_loose_18 zFU (0) ((-1)) ((((wr M 158 5 0).1 159 5) - 1)) (wr M 158 5 0) q h)
theorem kX7_loose (M : zMM) (q : Int32 × zMM) (h : fX7_loose M = some q) : zCN yX7_loose iX7_loose [.inr (.inr 158)] M (some (.inl q.1), q.2) :=
  zCN.of (by decide) rfl rfl (Nat.le_of_ble_eq_true rfl) (zEV.perm [0] rfl (tX7_loose_0 M q h))
-- RingedPageModel.canPlan
def fX7_canPlan (a0 : Int32) (a1 : Int32) (a2 : Int32) (a3 : Int32) (a4 : Int32) (a5 : Int32) (M : zMM) : Option (Int32 × zMM) :=
  (fX7_in (a3) (0) (9) M).bind fun q1 =>
  if q1.1 = (0 : Int32) then
    some (0, q1.2)
  else
    if a1 ≤ a3 then
      some (0, q1.2)
    else
      (fX7_in (a4) (9) (40) q1.2).bind fun q4 =>
      if q4.1 = (0 : Int32) then
        some (0, q4.2)
      else
        (fX7_in (a5) (9) (40) q4.2).bind fun q6 =>
        if q6.1 = (0 : Int32) then
          some (0, q6.2)
        else
          if ((a0 - 9) - (2 * a2)) < (a4 + a5) then
            some (0, q6.2)
          else
            some (1, q6.2)
set_option maxRecDepth 100000 in
theorem tX7_canPlan_0 (a0 : Int32) (a1 : Int32) (a2 : Int32) (a3 : Int32) (a4 : Int32) (a5 : Int32) (M : zMM) (q : Int32 × zMM) (h : fX7_canPlan a0 a1 a2 a3 a4 a5  M = some q) : zEV iX7_canPlan 0 0 (zZO (some (.inl q.1), q.2)) 0 [(0, .inl a0), (1, .inl a1), (2, .inl a2), (3, .inl a3), (4, .inl a4), (5, .inl a5)] [] M := by
  unfold fX7_canPlan at h
  refine zEV.iload_n dX7_canPlan_0 rfl 3 rfl ?_
  refine zEV.iconst (v := 0) dX7_canPlan_1 rfl ?_
  refine zEV.bipush (v := 9) dX7_canPlan_2 rfl ?_
  obtain ⟨q1, hq1, h⟩ := bind_yes h
  refine zEV.callSi (kX7_in (a3) (0) (9)  M q1 hq1) wm_RX7_65 wc_X7_in hy_X7_in rfl ⟨Nat.le_of_ble_eq_true rfl, Nat.le_of_ble_eq_true rfl⟩ rfl (Nat.le_of_ble_eq_true rfl) dX7_canPlan_4 ?_
  refine zEV.if_eq 59 dX7_canPlan_7 (by decide) (fun c2 => ?_) (fun c2 => ?_)
  · rw [if_pos c2] at h
    refine zEV.iconst (v := 0) dX7_canPlan_59 rfl ?_
    have h := Option.some.inj h
    subst h
    exact zEV.zret rfl (Or.inl rfl) dX7_canPlan_60
  · rw [if_neg c2] at h
    refine zEV.iload_n dX7_canPlan_10 rfl 3 rfl ?_
    refine zEV.iload_n dX7_canPlan_11 rfl 1 rfl ?_
    refine zEV.icmp_ge 59 dX7_canPlan_12 (by decide) (fun c3 => ?_) (fun c3 => ?_)
    · rw [if_pos c3] at h
      refine zEV.iconst (v := 0) dX7_canPlan_59 rfl ?_
      have h := Option.some.inj h
      subst h
      exact zEV.zret rfl (Or.inl rfl) dX7_canPlan_60
    · rw [if_neg c3] at h
      refine zEV.iload dX7_canPlan_15 4 rfl ?_
      refine zEV.bipush (v := 9) dX7_canPlan_17 rfl ?_
      refine zEV.bipush (v := 40) dX7_canPlan_19 rfl ?_
      obtain ⟨q4, hq4, h⟩ := bind_yes h
      refine zEV.callSi (kX7_in (a4) (9) (40)  q1.2 q4 hq4) wm_RX7_65 wc_X7_in hy_X7_in rfl ⟨Nat.le_of_ble_eq_true rfl, Nat.le_of_ble_eq_true rfl⟩ rfl (Nat.le_of_ble_eq_true rfl) dX7_canPlan_21 ?_
      refine zEV.if_eq 59 dX7_canPlan_24 (by decide) (fun c5 => ?_) (fun c5 => ?_)
      · rw [if_pos c5] at h
        refine zEV.iconst (v := 0) dX7_canPlan_59 rfl ?_
        have h := Option.some.inj h
        subst h
        exact zEV.zret rfl (Or.inl rfl) dX7_canPlan_60
      · rw [if_neg c5] at h
        refine zEV.iload dX7_canPlan_27 5 rfl ?_
        refine zEV.bipush (v := 9) dX7_canPlan_29 rfl ?_
        refine zEV.bipush (v := 40) dX7_canPlan_31 rfl ?_
        obtain ⟨q6, hq6, h⟩ := bind_yes h
        refine zEV.callSi (kX7_in (a5) (9) (40)  q4.2 q6 hq6) wm_RX7_65 wc_X7_in hy_X7_in rfl ⟨Nat.le_of_ble_eq_true rfl, Nat.le_of_ble_eq_true rfl⟩ rfl (Nat.le_of_ble_eq_true rfl) dX7_canPlan_33 ?_
        refine zEV.if_eq 59 dX7_canPlan_36 (by decide) (fun c7 => ?_) (fun c7 => ?_)
        · rw [if_pos c7] at h
          refine zEV.iconst (v := 0) dX7_canPlan_59 rfl ?_
          have h := Option.some.inj h
          subst h
          exact zEV.zret rfl (Or.inl rfl) dX7_canPlan_60
        · rw [if_neg c7] at h
          refine zEV.iload dX7_canPlan_39 4 rfl ?_
          refine zEV.iload dX7_canPlan_41 5 rfl ?_
          refine zEV.iadd dX7_canPlan_43 ?_
          refine zEV.iload_n dX7_canPlan_44 rfl 0 rfl ?_
          refine zEV.bipush (v := 9) dX7_canPlan_45 rfl ?_
          refine zEV.isub dX7_canPlan_47 ?_
          refine zEV.iconst (v := 2) dX7_canPlan_48 rfl ?_
          refine zEV.iload_n dX7_canPlan_49 rfl 2 rfl ?_
          refine zEV.imul dX7_canPlan_50 ?_
          refine zEV.isub dX7_canPlan_51 ?_
          refine zEV.icmp_gt 59 dX7_canPlan_52 (by decide) (fun c8 => ?_) (fun c8 => ?_)
          · rw [if_pos c8] at h
            refine zEV.iconst (v := 0) dX7_canPlan_59 rfl ?_
            have h := Option.some.inj h
            subst h
            exact zEV.zret rfl (Or.inl rfl) dX7_canPlan_60
          · rw [if_neg c8] at h
            refine zEV.iconst (v := 1) dX7_canPlan_55 rfl ?_
            refine zEV.goto 60 dX7_canPlan_56 (by decide) ?_
            have h := Option.some.inj h
            subst h
            exact zEV.zret rfl (Or.inr rfl) dX7_canPlan_60
theorem kX7_canPlan (a0 : Int32) (a1 : Int32) (a2 : Int32) (a3 : Int32) (a4 : Int32) (a5 : Int32) (M : zMM) (q : Int32 × zMM) (h : fX7_canPlan a0 a1 a2 a3 a4 a5 M = some q) : zCN yX7_canPlan iX7_canPlan [.inl a0, .inl a1, .inl a2, .inl a3, .inl a4, .inl a5] M (some (.inl q.1), q.2) :=
  zCN.of (by decide) rfl rfl (Nat.le_of_ble_eq_true rfl) (zEV.perm [0, 1, 2, 3, 4, 5] rfl (tX7_canPlan_0 a0 a1 a2 a3 a4 a5 M q h))
-- RingedPageModel.canBe
def fX7_canBe (a1 : Int32) (a2 : Int32) (a3 : Int32) (M : zMM) : Option (Int32 × zMM) :=
  (fX7_canPlan ((M.1 159 0)) ((M.1 159 1)) ((M.1 159 255)) (a1) (a2) (a3) M).bind fun q1 =>
  if q1.1 = 0 ∨ q1.1 = 1 then some (q1.1, q1.2) else none
set_option maxRecDepth 100000 in
theorem tX7_canBe_0 (a1 : Int32) (a2 : Int32) (a3 : Int32) (M : zMM) (q : Int32 × zMM) (h : fX7_canBe a1 a2 a3  M = some q) : zEV iX7_canBe 0 0 (zZO (some (.inl q.1), q.2)) 0 [(0, .inr (.inr 158)), (1, .inl a1), (2, .inl a2), (3, .inl a3)] [] M := by
  unfold fX7_canBe at h
  refine zEV.aload_n dX7_canBe_0 rfl 0 rfl ?_
  refine zEV.gfr rfl inz7 0 (by decide) wf_RX7_9 (by decide) rfl rfl dX7_canBe_1 ?_
  refine zEV.iconst (v := 0) dX7_canBe_4 rfl ?_
  refine zEV.ialdL (j := 0) (by decide) rfl (by decide) (by decide) dX7_canBe_5 ?_
  refine zEV.aload_n dX7_canBe_6 rfl 0 rfl ?_
  refine zEV.gfr rfl inz7 0 (by decide) wf_RX7_9 (by decide) rfl rfl dX7_canBe_7 ?_
  refine zEV.iconst (v := 1) dX7_canBe_10 rfl ?_
  refine zEV.ialdL (j := 1) (by decide) rfl (by decide) (by decide) dX7_canBe_11 ?_
  refine zEV.aload_n dX7_canBe_12 rfl 0 rfl ?_
  refine zEV.gfr rfl inz7 0 (by decide) wf_RX7_9 (by decide) rfl rfl dX7_canBe_13 ?_
  refine zEV.sipush (v := 255) dX7_canBe_16 rfl ?_
  refine zEV.ialdL (j := 255) (by decide) rfl (by decide) (by decide) dX7_canBe_19 ?_
  refine zEV.iload_n dX7_canBe_20 rfl 1 rfl ?_
  refine zEV.iload_n dX7_canBe_21 rfl 2 rfl ?_
  refine zEV.iload_n dX7_canBe_22 rfl 3 rfl ?_
  obtain ⟨q1, hq1, h⟩ := bind_yes h
  refine zEV.callSi (kX7_canPlan ((M.1 159 0)) ((M.1 159 1)) ((M.1 159 255)) (a1) (a2) (a3)  M q1 hq1) wm_RX7_223 wc_X7_canPlan hy_X7_canPlan rfl ⟨Nat.le_of_ble_eq_true rfl, Nat.le_of_ble_eq_true rfl⟩ rfl (Nat.le_of_ble_eq_true rfl) dX7_canBe_23 ?_
  obtain ⟨g2, h⟩ := ite_yes h
  have h := Option.some.inj h
  subst h
  exact zEV.zret rfl g2 dX7_canBe_26
theorem kX7_canBe (a1 : Int32) (a2 : Int32) (a3 : Int32) (M : zMM) (q : Int32 × zMM) (h : fX7_canBe a1 a2 a3 M = some q) : zCN yX7_canBe iX7_canBe [.inr (.inr 158), .inl a1, .inl a2, .inl a3] M (some (.inl q.1), q.2) :=
  zCN.of (by decide) rfl rfl (Nat.le_of_ble_eq_true rfl) (zEV.perm [0, 1, 2, 3] rfl (tX7_canBe_0 a1 a2 a3 M q h))
-- RingedPageModel.layAside
def fX7_layAside_2 : Nat → Int32 → zMM → Option (zMM)
  | 0, _, _ => none
  | n + 1, l1, M =>
  if (259 : Int32) ≤ l1 then
    some M
  else
    if oob (l1) 259 then none else
    fX7_layAside_2 n ((l1 + 1)) (wr M 166 (Int32.toNatClampNeg l1) (M.1 159 (Int32.toNatClampNeg l1)))
set_option maxRecDepth 100000 in
theorem tX7_layAside_2 : ∀ (n : Nat) (l1 : Int32) (M : zMM) (q : zMM), fX7_layAside_2 n l1 M = some q → zEV iX7_layAside 0 0 (zZO (none, q)) 2 [(0, .inr (.inr 158)), (1, .inl l1)] [] M := by
  intro n
  induction n with
  | zero =>
    intro l1 M q h
    rw [fX7_layAside_2] at h
    cases h
  | succ n ih =>
    intro l1 M q h
    rw [fX7_layAside_2] at h
    refine zEV.iload_n dX7_layAside_2 rfl 1 rfl ?_
    refine zEV.sipush (v := 259) dX7_layAside_3 rfl ?_
    refine zEV.icmp_ge 27 dX7_layAside_6 (by decide) (fun c1 => ?_) (fun c1 => ?_)
    · rw [if_pos c1] at h
      have h := Option.some.inj h
      subst h
      exact zEV.vret rfl dX7_layAside_27
    · rw [if_neg c1] at h
      refine zEV.aload_n dX7_layAside_9 rfl 0 rfl ?_
      refine zEV.gfr rfl inz7 15 (by decide) wf_RX7_33 (by decide) rfl rfl dX7_layAside_10 ?_
      refine zEV.iload_n dX7_layAside_13 rfl 1 rfl ?_
      refine zEV.aload_n dX7_layAside_14 rfl 0 rfl ?_
      refine zEV.gfr rfl inz7 0 (by decide) wf_RX7_9 (by decide) rfl rfl dX7_layAside_15 ?_
      refine zEV.iload_n dX7_layAside_18 rfl 1 rfl ?_
      obtain ⟨g2, h⟩ := ite_no h
      refine zEV.iald (by decide) rfl g2 dX7_layAside_19 ?_
      refine zEV.iast (by decide) rfl g2 dX7_layAside_20 ?_
      refine zEV.iinc (v := (l1 + 1)) dX7_layAside_21 1 rfl rfl (Nat.le_of_ble_eq_true rfl) rfl ?_
      refine zEV.goto 2 dX7_layAside_24 (by decide) ?_
      exact zEV.perm [1, 0] rfl (ih ((l1 + 1)) (wr M 166 (Int32.toNatClampNeg l1) (M.1 159 (Int32.toNatClampNeg l1))) q h)
def fX7_layAside (M : zMM) : Option (zMM) :=
  fX7_layAside_2 zFU (0) M
set_option maxRecDepth 100000 in
theorem tX7_layAside_0 (M : zMM) (q : zMM) (h : fX7_layAside  M = some q) : zEV iX7_layAside 0 0 (zZO (none, q)) 0 [(0, .inr (.inr 158))] [] M := by
  unfold fX7_layAside at h
  refine zEV.iconst (v := 0) dX7_layAside_0 rfl ?_
  refine zEV.istore_n dX7_layAside_1 rfl (Nat.le_of_ble_eq_true rfl) rfl ?_
  exact zEV.perm [1, 0] rfl (tX7_layAside_2 zFU (0) M q h)
theorem kX7_layAside (M : zMM) (q : zMM) (h : fX7_layAside M = some q) : zCN yX7_layAside iX7_layAside [.inr (.inr 158)] M (none, q) :=
  zCN.of (by decide) rfl rfl (Nat.le_of_ble_eq_true rfl) (zEV.perm [0] rfl (tX7_layAside_0 M q h))
-- RingedPageModel.comesBack
def fX7_comesBack_2 : Nat → Int32 → zMM → Option (zMM)
  | 0, _, _ => none
  | n + 1, l1, M =>
  if (259 : Int32) ≤ l1 then
    some M
  else
    if oob (l1) 259 then none else
    fX7_comesBack_2 n ((l1 + 1)) (wr M 159 (Int32.toNatClampNeg l1) (M.1 166 (Int32.toNatClampNeg l1)))
set_option maxRecDepth 100000 in
theorem tX7_comesBack_2 : ∀ (n : Nat) (l1 : Int32) (M : zMM) (q : zMM), fX7_comesBack_2 n l1 M = some q → zEV iX7_comesBack 0 0 (zZO (none, q)) 2 [(0, .inr (.inr 158)), (1, .inl l1)] [] M := by
  intro n
  induction n with
  | zero =>
    intro l1 M q h
    rw [fX7_comesBack_2] at h
    cases h
  | succ n ih =>
    intro l1 M q h
    rw [fX7_comesBack_2] at h
    refine zEV.iload_n dX7_comesBack_2 rfl 1 rfl ?_
    refine zEV.sipush (v := 259) dX7_comesBack_3 rfl ?_
    refine zEV.icmp_ge 27 dX7_comesBack_6 (by decide) (fun c1 => ?_) (fun c1 => ?_)
    · rw [if_pos c1] at h
      have h := Option.some.inj h
      subst h
      exact zEV.vret rfl dX7_comesBack_27
    · rw [if_neg c1] at h
      refine zEV.aload_n dX7_comesBack_9 rfl 0 rfl ?_
      refine zEV.gfr rfl inz7 0 (by decide) wf_RX7_9 (by decide) rfl rfl dX7_comesBack_10 ?_
      refine zEV.iload_n dX7_comesBack_13 rfl 1 rfl ?_
      refine zEV.aload_n dX7_comesBack_14 rfl 0 rfl ?_
      refine zEV.gfr rfl inz7 15 (by decide) wf_RX7_33 (by decide) rfl rfl dX7_comesBack_15 ?_
      refine zEV.iload_n dX7_comesBack_18 rfl 1 rfl ?_
      obtain ⟨g2, h⟩ := ite_no h
      refine zEV.iald (by decide) rfl g2 dX7_comesBack_19 ?_
      refine zEV.iast (by decide) rfl g2 dX7_comesBack_20 ?_
      refine zEV.iinc (v := (l1 + 1)) dX7_comesBack_21 1 rfl rfl (Nat.le_of_ble_eq_true rfl) rfl ?_
      refine zEV.goto 2 dX7_comesBack_24 (by decide) ?_
      exact zEV.perm [1, 0] rfl (ih ((l1 + 1)) (wr M 159 (Int32.toNatClampNeg l1) (M.1 166 (Int32.toNatClampNeg l1))) q h)
def fX7_comesBack (M : zMM) : Option (zMM) :=
  fX7_comesBack_2 zFU (0) M
set_option maxRecDepth 100000 in
theorem tX7_comesBack_0 (M : zMM) (q : zMM) (h : fX7_comesBack  M = some q) : zEV iX7_comesBack 0 0 (zZO (none, q)) 0 [(0, .inr (.inr 158))] [] M := by
  unfold fX7_comesBack at h
  refine zEV.iconst (v := 0) dX7_comesBack_0 rfl ?_
  refine zEV.istore_n dX7_comesBack_1 rfl (Nat.le_of_ble_eq_true rfl) rfl ?_
  exact zEV.perm [1, 0] rfl (tX7_comesBack_2 zFU (0) M q h)
theorem kX7_comesBack (M : zMM) (q : zMM) (h : fX7_comesBack M = some q) : zCN yX7_comesBack iX7_comesBack [.inr (.inr 158)] M (none, q) :=
  zCN.of (by decide) rfl rfl (Nat.le_of_ble_eq_true rfl) (zEV.perm [0] rfl (tX7_comesBack_0 M q h))
-- RingedPageModel.putPlan
def fX7_putPlan (a1 : Int32) (a2 : Int32) (a3 : Int32) (M : zMM) : Option (zMM) :=
  some (wr (wr (wr M 159 2 a1) 159 3 a2) 159 4 a3)
set_option maxRecDepth 100000 in
theorem tX7_putPlan_0 (a1 : Int32) (a2 : Int32) (a3 : Int32) (M : zMM) (q : zMM) (h : fX7_putPlan a1 a2 a3  M = some q) : zEV iX7_putPlan 0 0 (zZO (none, q)) 0 [(0, .inr (.inr 158)), (1, .inl a1), (2, .inl a2), (3, .inl a3)] [] M := by
  unfold fX7_putPlan at h
  refine zEV.aload_n dX7_putPlan_0 rfl 0 rfl ?_
  refine zEV.gfr rfl inz7 0 (by decide) wf_RX7_9 (by decide) rfl rfl dX7_putPlan_1 ?_
  refine zEV.iconst (v := 2) dX7_putPlan_4 rfl ?_
  refine zEV.iload_n dX7_putPlan_5 rfl 1 rfl ?_
  refine zEV.iastL (j := 2) (by decide) rfl (by decide) (by decide) dX7_putPlan_6 ?_
  refine zEV.aload_n dX7_putPlan_7 rfl 0 rfl ?_
  refine zEV.gfr rfl inz7 0 (by decide) wf_RX7_9 (by decide) rfl rfl dX7_putPlan_8 ?_
  refine zEV.iconst (v := 3) dX7_putPlan_11 rfl ?_
  refine zEV.iload_n dX7_putPlan_12 rfl 2 rfl ?_
  refine zEV.iastL (j := 3) (by decide) rfl (by decide) (by decide) dX7_putPlan_13 ?_
  refine zEV.aload_n dX7_putPlan_14 rfl 0 rfl ?_
  refine zEV.gfr rfl inz7 0 (by decide) wf_RX7_9 (by decide) rfl rfl dX7_putPlan_15 ?_
  refine zEV.iconst (v := 4) dX7_putPlan_18 rfl ?_
  refine zEV.iload_n dX7_putPlan_19 rfl 3 rfl ?_
  refine zEV.iastL (j := 4) (by decide) rfl (by decide) (by decide) dX7_putPlan_20 ?_
  have h := Option.some.inj h
  subst h
  exact zEV.vret rfl dX7_putPlan_21
theorem kX7_putPlan (a1 : Int32) (a2 : Int32) (a3 : Int32) (M : zMM) (q : zMM) (h : fX7_putPlan a1 a2 a3 M = some q) : zCN yX7_putPlan iX7_putPlan [.inr (.inr 158), .inl a1, .inl a2, .inl a3] M (none, q) :=
  zCN.of (by decide) rfl rfl (Nat.le_of_ble_eq_true rfl) (zEV.perm [0, 1, 2, 3] rfl (tX7_putPlan_0 a1 a2 a3 M q h))
-- RingedPageModel.by
def fX7_by (a1 : Int32) (a2 : Int32) (a3 : Int32) (M : zMM) : Option (Int32 × zMM) :=
  (fX7_canBe (a1) (a2) (a3) (wr M 158 5 0)).bind fun q1 =>
  if q1.1 = (0 : Int32) then
    some ((-1), q1.2)
  else
    (fX7_layAside  q1.2).bind fun q3 =>
    (fX7_putPlan (a1) (a2) (a3) q3).bind fun q4 =>
    (fX7_costNow  q4).bind fun q5 =>
    (fX7_tell ((Int32.toInt64 ((wr q5.2 158 4 0).1 158 14))) (wr q5.2 158 4 0)).bind fun q6 =>
    (fX7_apartOf  q6).bind fun q7 =>
    (fX7_tell ((Int32.toInt64 q7.1)) q7.2).bind fun q8 =>
    (fX7_brokenMany  q8).bind fun q9 =>
    (fX7_tell ((Int32.toInt64 q9.1)) q9.2).bind fun q10 =>
    (fX7_raggedAll  q10).bind fun q11 =>
    (fX7_tell ((Int32.toInt64 q11.1)) q11.2).bind fun q12 =>
    (fX7_comesBack  q12).bind fun q13 =>
    some (q5.1, q13)
set_option maxRecDepth 100000 in
theorem tX7_by_0 (a1 : Int32) (a2 : Int32) (a3 : Int32) (M : zMM) (q : Int32 × zMM) (h : fX7_by a1 a2 a3  M = some q) : zEV iX7_by 0 0 (zZO (some (.inl q.1), q.2)) 0 [(0, .inr (.inr 158)), (1, .inl a1), (2, .inl a2), (3, .inl a3)] [] M := by
  unfold fX7_by at h
  refine zEV.aload_n dX7_by_0 rfl 0 rfl ?_
  refine zEV.iconst (v := 0) dX7_by_1 rfl ?_
  refine zEV.pfi rfl inz7 tyX7 tyX7_ok nmX7 5 (by decide) wf_RX7_58 rfl (by decide +kernel) (by decide) rfl rfl dX7_by_2 ?_
  refine zEV.aload_n dX7_by_5 rfl 0 rfl ?_
  refine zEV.iload_n dX7_by_6 rfl 1 rfl ?_
  refine zEV.iload_n dX7_by_7 rfl 2 rfl ?_
  refine zEV.iload_n dX7_by_8 rfl 3 rfl ?_
  obtain ⟨q1, hq1, h⟩ := bind_yes h
  refine zEV.callVi (kX7_canBe (a1) (a2) (a3)  (wr M 158 5 0) q1 hq1) (by decide) rfl rfl wm_RX7_227 wc_X7_canBe hy_X7_canBe rfl ⟨Nat.le_of_ble_eq_true rfl, Nat.le_of_ble_eq_true rfl⟩ rfl (Nat.le_of_ble_eq_true rfl) dX7_by_9 ?_
  refine zEV.if_ne 17 dX7_by_12 (by decide) (fun c2 => ?_) (fun c2 => ?_)
  · rw [if_neg c2] at h
    refine zEV.aload_n dX7_by_17 rfl 0 rfl ?_
    obtain ⟨q3, hq3, h⟩ := bind_yes h
    refine zEV.callVv (kX7_layAside   q1.2 q3 hq3) (by decide) rfl rfl wm_RX7_230 wc_X7_layAside hy_X7_layAside rfl ⟨Nat.le_of_ble_eq_true rfl, Nat.le_of_ble_eq_true rfl⟩ rfl (Nat.le_of_ble_eq_true rfl) dX7_by_18 ?_
    refine zEV.aload_n dX7_by_21 rfl 0 rfl ?_
    refine zEV.iload_n dX7_by_22 rfl 1 rfl ?_
    refine zEV.iload_n dX7_by_23 rfl 2 rfl ?_
    refine zEV.iload_n dX7_by_24 rfl 3 rfl ?_
    obtain ⟨q4, hq4, h⟩ := bind_yes h
    refine zEV.callVv (kX7_putPlan (a1) (a2) (a3)  q3 q4 hq4) (by decide) rfl rfl wm_RX7_233 wc_X7_putPlan hy_X7_putPlan rfl ⟨Nat.le_of_ble_eq_true rfl, Nat.le_of_ble_eq_true rfl⟩ rfl (Nat.le_of_ble_eq_true rfl) dX7_by_25 ?_
    refine zEV.aload_n dX7_by_28 rfl 0 rfl ?_
    obtain ⟨q5, hq5, h⟩ := bind_yes h
    refine zEV.callVi (kX7_costNow   q4 q5 hq5) (by decide) rfl rfl wm_RX7_217 wc_X7_costNow hy_X7_costNow rfl ⟨Nat.le_of_ble_eq_true rfl, Nat.le_of_ble_eq_true rfl⟩ rfl (Nat.le_of_ble_eq_true rfl) dX7_by_29 ?_
    refine zEV.istore dX7_by_32 (Nat.le_of_ble_eq_true rfl) rfl ?_
    refine zEV.aload_n dX7_by_34 rfl 1 rfl ?_
    refine zEV.iconst (v := 0) dX7_by_35 rfl ?_
    refine zEV.pfi rfl inz7 tyX7 tyX7_ok nmX7 4 (by decide) wf_RX7_62 rfl (by decide +kernel) (by decide) rfl rfl dX7_by_36 ?_
    refine zEV.aload_n dX7_by_39 rfl 1 rfl ?_
    refine zEV.aload_n dX7_by_40 rfl 1 rfl ?_
    refine zEV.gfi rfl inz7 14 (by decide) wf_RX7_154 (by decide) rfl rfl dX7_by_41 ?_
    refine zEV.i2l dX7_by_44 ?_
    obtain ⟨q6, hq6, h⟩ := bind_yes h
    refine zEV.callVv (kX7_tell ((Int32.toInt64 ((wr q5.2 158 4 0).1 158 14)))  (wr q5.2 158 4 0) q6 hq6) (by decide) rfl rfl wm_RX7_135 wc_X7_tell hy_X7_tell rfl ⟨Nat.le_of_ble_eq_true rfl, Nat.le_of_ble_eq_true rfl⟩ rfl (Nat.le_of_ble_eq_true rfl) dX7_by_45 ?_
    refine zEV.aload_n dX7_by_48 rfl 1 rfl ?_
    refine zEV.aload_n dX7_by_49 rfl 1 rfl ?_
    obtain ⟨q7, hq7, h⟩ := bind_yes h
    refine zEV.callVi (kX7_apartOf   q6 q7 hq7) (by decide) rfl rfl wm_RX7_196 wc_X7_apartOf hy_X7_apartOf rfl ⟨Nat.le_of_ble_eq_true rfl, Nat.le_of_ble_eq_true rfl⟩ rfl (Nat.le_of_ble_eq_true rfl) dX7_by_50 ?_
    refine zEV.i2l dX7_by_53 ?_
    obtain ⟨q8, hq8, h⟩ := bind_yes h
    refine zEV.callVv (kX7_tell ((Int32.toInt64 q7.1))  q7.2 q8 hq8) (by decide) rfl rfl wm_RX7_135 wc_X7_tell hy_X7_tell rfl ⟨Nat.le_of_ble_eq_true rfl, Nat.le_of_ble_eq_true rfl⟩ rfl (Nat.le_of_ble_eq_true rfl) dX7_by_54 ?_
    refine zEV.aload_n dX7_by_57 rfl 1 rfl ?_
    refine zEV.aload_n dX7_by_58 rfl 1 rfl ?_
    obtain ⟨q9, hq9, h⟩ := bind_yes h
    refine zEV.callVi (kX7_brokenMany   q8 q9 hq9) (by decide) rfl rfl wm_RX7_211 wc_X7_brokenMany hy_X7_brokenMany rfl ⟨Nat.le_of_ble_eq_true rfl, Nat.le_of_ble_eq_true rfl⟩ rfl (Nat.le_of_ble_eq_true rfl) dX7_by_59 ?_
    refine zEV.i2l dX7_by_62 ?_
    obtain ⟨q10, hq10, h⟩ := bind_yes h
    refine zEV.callVv (kX7_tell ((Int32.toInt64 q9.1))  q9.2 q10 hq10) (by decide) rfl rfl wm_RX7_135 wc_X7_tell hy_X7_tell rfl ⟨Nat.le_of_ble_eq_true rfl, Nat.le_of_ble_eq_true rfl⟩ rfl (Nat.le_of_ble_eq_true rfl) dX7_by_63 ?_
    refine zEV.aload_n dX7_by_66 rfl 1 rfl ?_
    refine zEV.aload_n dX7_by_67 rfl 1 rfl ?_
    obtain ⟨q11, hq11, h⟩ := bind_yes h
    refine zEV.callVi (kX7_raggedAll   q10 q11 hq11) (by decide) rfl rfl wm_RX7_202 wc_X7_raggedAll hy_X7_raggedAll rfl ⟨Nat.le_of_ble_eq_true rfl, Nat.le_of_ble_eq_true rfl⟩ rfl (Nat.le_of_ble_eq_true rfl) dX7_by_68 ?_
    refine zEV.i2l dX7_by_71 ?_
    obtain ⟨q12, hq12, h⟩ := bind_yes h
    refine zEV.callVv (kX7_tell ((Int32.toInt64 q11.1))  q11.2 q12 hq12) (by decide) rfl rfl wm_RX7_135 wc_X7_tell hy_X7_tell rfl ⟨Nat.le_of_ble_eq_true rfl, Nat.le_of_ble_eq_true rfl⟩ rfl (Nat.le_of_ble_eq_true rfl) dX7_by_72 ?_
    refine zEV.aload_n dX7_by_75 rfl 1 rfl ?_
    obtain ⟨q13, hq13, h⟩ := bind_yes h
    refine zEV.callVv (kX7_comesBack   q12 q13 hq13) (by decide) rfl rfl wm_RX7_237 wc_X7_comesBack hy_X7_comesBack rfl ⟨Nat.le_of_ble_eq_true rfl, Nat.le_of_ble_eq_true rfl⟩ rfl (Nat.le_of_ble_eq_true rfl) dX7_by_76 ?_
    refine zEV.iload dX7_by_79 0 rfl ?_
    have h := Option.some.inj h
    subst h
    exact zEV.iret rfl dX7_by_81
  · rw [if_pos c2] at h
    refine zEV.iconst (v := (-1)) dX7_by_15 rfl ?_
    have h := Option.some.inj h
    subst h
    exact zEV.iret rfl dX7_by_16
theorem kX7_by (a1 : Int32) (a2 : Int32) (a3 : Int32) (M : zMM) (q : Int32 × zMM) (h : fX7_by a1 a2 a3 M = some q) : zCN yX7_by iX7_by [.inr (.inr 158), .inl a1, .inl a2, .inl a3] M (some (.inl q.1), q.2) :=
  zCN.of (by decide) rfl rfl (Nat.le_of_ble_eq_true rfl) (zEV.perm [0, 1, 2, 3] rfl (tX7_by_0 a1 a2 a3 M q h))
