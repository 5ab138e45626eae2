-- RingedPage.years
def fX6_years_29 (a1 : Int32) (a2 : Int32) : Nat → Int32 → Int32 → zMM → Option (Int32 × zMM)
  | 0, _, _, _ => none
  | n + 1, l3, l4, M =>
  if a2 ≤ l4 then
    (fX4_set 10 M).bind fun q2 =>
    (fX4_costOf 10 q2).bind fun q3 =>
    if oob (0) 3 then none else
    if oob (1) 3 then none else
    if oob (2) 3 then none else
    (fX2_tell___ ((Int32.toInt64 q3.1)) ((Int32.toInt64 (q3.2.1 12 (Int32.toNatClampNeg 0)))) ((Int32.toInt64 (q3.2.1 12 (Int32.toNatClampNeg 1)))) ((Int32.toInt64 (q3.2.1 12 (Int32.toNatClampNeg 2)))) q3.2).bind fun q7 =>
    (fX4_pageCount 10 q7).bind fun q8 =>
    some (q8.1, q8.2)
  else
    (fX6_nextDraw (l3) M).bind fun q9 =>
    (fX6_drawn (q9.1) (3) q9.2).bind fun q10 =>
    (fX6_nextDraw (q9.1) q10.2).bind fun q11 =>
    (fX6_drawn (q11.1) (9) q11.2).bind fun q12 =>
    if oob (q10.1) 3 then none else
    (fX0_put 10 (q10.1) ((q12.2.1 12 (Int32.toNatClampNeg q10.1))) ((q12.1 + 1)) q12.2).bind fun q14 =>
    fX6_years_29 a1 a2 n (q11.1) ((l4 + 1)) q14
set_option maxRecDepth 4000 in
theorem tX6_years_29 (a1 : Int32) (a2 : Int32) : ∀ (n : Nat) (l3 : Int32) (l4 : Int32) (M : zMM) (q : Int32 × zMM), fX6_years_29 a1 a2 n l3 l4 M = some q → zEV iX6_years 0 0 (zZO (some (.inl q.1), q.2)) 29 [(0, .inr (.inr 157)), (2, .inl a2), (3, .inl l3), (4, .inl l4)] [] M := by
  intro n
  induction n with
  | zero =>
    intro l3 l4 M q h
    rw [fX6_years_29] at h
    cases h
  | succ n ih =>
    intro l3 l4 M q h
    rw [fX6_years_29] at h
    refine zEV.iload dX6_years_29 3 rfl ?_
    refine zEV.iload_n dX6_years_31 rfl 1 rfl ?_
    refine zEV.icmp_ge 89 dX6_years_32 (by decide) (fun c1 => ?_) (fun c1 => ?_)
    · rw [if_pos c1] at h
      refine zEV.aload_n dX6_years_89 rfl 0 rfl ?_
      refine zEV.gfr rfl inz6 2 (by decide) wf_RX6_22 (by decide) rfl rfl dX6_years_90 ?_
      refine zEV.aload_n dX6_years_93 rfl 0 rfl ?_
      refine zEV.gfr rfl inz6 1 (by decide) wf_RX6_16 (by decide) rfl rfl dX6_years_94 ?_
      obtain ⟨q2, hq2, h⟩ := bind_yes h
      refine zEV.callVv (kX4_set 10 lf_10 M q2 hq2) (by decide) rfl rfl wm_RX6_113 wc_X4_set hy_X4_set rfl ⟨Nat.le_of_ble_eq_true rfl, Nat.le_of_ble_eq_true rfl⟩ rfl (Nat.le_of_ble_eq_true rfl) dX6_years_97 ?_
      refine zEV.aload_n dX6_years_100 rfl 0 rfl ?_
      refine zEV.gfr rfl inz6 8 (by decide) wf_RX6_58 (by decide) rfl rfl dX6_years_101 ?_
      refine zEV.aload_n dX6_years_104 rfl 0 rfl ?_
      refine zEV.gfr rfl inz6 2 (by decide) wf_RX6_22 (by decide) rfl rfl dX6_years_105 ?_
      refine zEV.aload_n dX6_years_108 rfl 0 rfl ?_
      refine zEV.gfr rfl inz6 1 (by decide) wf_RX6_16 (by decide) rfl rfl dX6_years_109 ?_
      obtain ⟨q3, hq3, h⟩ := bind_yes h
      refine zEV.callVi (kX4_costOf 10 lf_10 q2 q3 hq3) (by decide) rfl rfl wm_RX6_199 wc_X4_costOf hy_X4_costOf rfl ⟨Nat.le_of_ble_eq_true rfl, Nat.le_of_ble_eq_true rfl⟩ rfl (Nat.le_of_ble_eq_true rfl) dX6_years_112 ?_
      refine zEV.i2l dX6_years_115 ?_
      refine zEV.aload_n dX6_years_116 rfl 0 rfl ?_
      refine zEV.gfr rfl inz6 1 (by decide) wf_RX6_16 (by decide) rfl rfl dX6_years_117 ?_
      refine zEV.gfr rfl inz0 8 (by decide) wf_RX6_231 (by decide) rfl rfl dX6_years_120 ?_
      refine zEV.iconst (v := 0) dX6_years_123 rfl ?_
      obtain ⟨g4, h⟩ := ite_no h
      refine zEV.iald (by decide) rfl g4 dX6_years_124 ?_
      refine zEV.i2l dX6_years_125 ?_
      refine zEV.aload_n dX6_years_126 rfl 0 rfl ?_
      refine zEV.gfr rfl inz6 1 (by decide) wf_RX6_16 (by decide) rfl rfl dX6_years_127 ?_
      refine zEV.gfr rfl inz0 8 (by decide) wf_RX6_231 (by decide) rfl rfl dX6_years_130 ?_
      refine zEV.iconst (v := 1) dX6_years_133 rfl ?_
      obtain ⟨g5, h⟩ := ite_no h
      refine zEV.iald (by decide) rfl g5 dX6_years_134 ?_
      refine zEV.i2l dX6_years_135 ?_
      refine zEV.aload_n dX6_years_136 rfl 0 rfl ?_
      refine zEV.gfr rfl inz6 1 (by decide) wf_RX6_16 (by decide) rfl rfl dX6_years_137 ?_
      refine zEV.gfr rfl inz0 8 (by decide) wf_RX6_231 (by decide) rfl rfl dX6_years_140 ?_
      refine zEV.iconst (v := 2) dX6_years_143 rfl ?_
      obtain ⟨g6, h⟩ := ite_no h
      refine zEV.iald (by decide) rfl g6 dX6_years_144 ?_
      refine zEV.i2l dX6_years_145 ?_
      obtain ⟨q7, hq7, h⟩ := bind_yes h
      refine zEV.callVv (kX2_tell___ ((Int32.toInt64 q3.1)) ((Int32.toInt64 (q3.2.1 12 (Int32.toNatClampNeg 0)))) ((Int32.toInt64 (q3.2.1 12 (Int32.toNatClampNeg 1)))) ((Int32.toInt64 (q3.2.1 12 (Int32.toNatClampNeg 2))))  q3.2 q7 hq7) (by decide) rfl rfl wm_RX6_149 wc_X2_tell___ hy_X2_tell___ rfl ⟨Nat.le_of_ble_eq_true rfl, Nat.le_of_ble_eq_true rfl⟩ rfl (Nat.le_of_ble_eq_true rfl) dX6_years_146 ?_
      refine zEV.aload_n dX6_years_149 rfl 0 rfl ?_
      refine zEV.gfr rfl inz6 2 (by decide) wf_RX6_22 (by decide) rfl rfl dX6_years_150 ?_
      refine zEV.aload_n dX6_years_153 rfl 0 rfl ?_
      refine zEV.gfr rfl inz6 1 (by decide) wf_RX6_16 (by decide) rfl rfl dX6_years_154 ?_
      obtain ⟨q8, hq8, h⟩ := bind_yes h
      refine zEV.callVi (kX4_pageCount 10 lf_10 q7 q8 hq8) (by decide) rfl rfl wm_RX6_116 wc_X4_pageCount hy_X4_pageCount rfl ⟨Nat.le_of_ble_eq_true rfl, Nat.le_of_ble_eq_true rfl⟩ rfl (Nat.le_of_ble_eq_true rfl) dX6_years_157 ?_
      cases h
      exact zEV.iret rfl dX6_years_160
    · rw [if_neg c1] at h
      refine zEV.iload_n dX6_years_35 rfl 2 rfl ?_
      obtain ⟨q9, hq9, h⟩ := bind_yes h
      refine zEV.callSi (kX6_nextDraw (l3)  M q9 hq9) wm_RX6_335 wc_X6_nextDraw hy_X6_nextDraw rfl ⟨Nat.le_of_ble_eq_true rfl, Nat.le_of_ble_eq_true rfl⟩ rfl (Nat.le_of_ble_eq_true rfl) dX6_years_36 ?_
      refine zEV.istore_n dX6_years_39 rfl (Nat.le_of_ble_eq_true rfl) rfl ?_
      refine zEV.iload_n dX6_years_40 rfl 0 rfl ?_
      refine zEV.iconst (v := 3) dX6_years_41 rfl ?_
      obtain ⟨q10, hq10, h⟩ := bind_yes h
      refine zEV.callSi (kX6_drawn (q9.1) (3)  q9.2 q10 hq10) wm_RX6_338 wc_X6_drawn hy_X6_drawn rfl ⟨Nat.le_of_ble_eq_true rfl, Nat.le_of_ble_eq_true rfl⟩ rfl (Nat.le_of_ble_eq_true rfl) dX6_years_42 ?_
      refine zEV.istore dX6_years_45 (Nat.le_of_ble_eq_true rfl) rfl ?_
      refine zEV.iload_n dX6_years_47 rfl 1 rfl ?_
      obtain ⟨q11, hq11, h⟩ := bind_yes h
      refine zEV.callSi (kX6_nextDraw (q9.1)  q10.2 q11 hq11) wm_RX6_335 wc_X6_nextDraw hy_X6_nextDraw rfl ⟨Nat.le_of_ble_eq_true rfl, Nat.le_of_ble_eq_true rfl⟩ rfl (Nat.le_of_ble_eq_true rfl) dX6_years_48 ?_
      refine zEV.istore_n dX6_years_51 rfl (Nat.le_of_ble_eq_true rfl) rfl ?_
      refine zEV.iload_n dX6_years_52 rfl 0 rfl ?_
      refine zEV.bipush (v := 9) dX6_years_53 rfl ?_
      obtain ⟨q12, hq12, h⟩ := bind_yes h
      refine zEV.callSi (kX6_drawn (q11.1) (9)  q11.2 q12 hq12) wm_RX6_338 wc_X6_drawn hy_X6_drawn rfl ⟨Nat.le_of_ble_eq_true rfl, Nat.le_of_ble_eq_true rfl⟩ rfl (Nat.le_of_ble_eq_true rfl) dX6_years_55 ?_
      refine zEV.iconst (v := 1) dX6_years_58 rfl ?_
      refine zEV.iadd dX6_years_59 ?_
      refine zEV.istore dX6_years_60 (Nat.le_of_ble_eq_true rfl) rfl ?_
      refine zEV.aload_n dX6_years_62 rfl 3 rfl ?_
      refine zEV.gfr rfl inz6 1 (by decide) wf_RX6_16 (by decide) rfl rfl dX6_years_63 ?_
      refine zEV.iload dX6_years_66 2 rfl ?_
      refine zEV.aload_n dX6_years_68 rfl 3 rfl ?_
      refine zEV.gfr rfl inz6 1 (by decide) wf_RX6_16 (by decide) rfl rfl dX6_years_69 ?_
      refine zEV.gfr rfl inz0 8 (by decide) wf_RX6_231 (by decide) rfl rfl dX6_years_72 ?_
      refine zEV.iload dX6_years_75 2 rfl ?_
      obtain ⟨g13, h⟩ := ite_no h
      refine zEV.iald (by decide) rfl g13 dX6_years_77 ?_
      refine zEV.iload dX6_years_78 0 rfl ?_
      obtain ⟨q14, hq14, h⟩ := bind_yes h
      refine zEV.callVv (kX0_put 10 (q10.1) ((q12.2.1 12 (Int32.toNatClampNeg q10.1))) ((q12.1 + 1)) lf_10 q12.2 q14 hq14) (by decide) rfl rfl wm_RX6_290 wc_X0_put hy_X0_put rfl ⟨Nat.le_of_ble_eq_true rfl, Nat.le_of_ble_eq_true rfl⟩ rfl (Nat.le_of_ble_eq_true rfl) dX6_years_80 ?_
      refine zEV.iinc (v := (l4 + 1)) dX6_years_83 5 rfl rfl (Nat.le_of_ble_eq_true rfl) rfl ?_
      refine zEV.goto 29 dX6_years_86 (by decide) ?_
      exact zEV.perm [4, 5, 2, 0] rfl (ih (q11.1) ((l4 + 1)) q14 q h)
def fX6_years (a1 : Int32) (a2 : Int32) (M : zMM) : Option (Int32 × zMM) :=
  if a2 < 1 then
    some ((-1), M)
  else
    if a2 ≤ 30 then
      (fX0_copy 10 0 M).bind fun q3 =>
      fX6_years_29 a1 a2 zFU (a1) (0) q3
    else
      some ((-1), M)
set_option maxRecDepth 4000 in
theorem tX6_years_0 (a1 : Int32) (a2 : Int32) (M : zMM) (q : Int32 × zMM) (h : fX6_years a1 a2  M = some q) : zEV iX6_years 0 0 (zZO (some (.inl q.1), q.2)) 0 [(0, .inr (.inr 157)), (1, .inl a1), (2, .inl a2)] [] M := by
  unfold fX6_years at h
  refine zEV.iload_n dX6_years_0 rfl 2 rfl ?_
  refine zEV.iconst (v := 1) dX6_years_1 rfl ?_
  refine zEV.icmp_lt 11 dX6_years_2 (by decide) (fun c1 => ?_) (fun c1 => ?_)
  · rw [if_pos c1] at h
    refine zEV.iconst (v := (-1)) dX6_years_11 rfl ?_
    cases h
    exact zEV.iret rfl dX6_years_12
  · rw [if_neg c1] at h
    refine zEV.iload_n dX6_years_5 rfl 2 rfl ?_
    refine zEV.bipush (v := 30) dX6_years_6 rfl ?_
    refine zEV.icmp_le 13 dX6_years_8 (by decide) (fun c2 => ?_) (fun c2 => ?_)
    · rw [if_pos c2] at h
      refine zEV.aload_n dX6_years_13 rfl 0 rfl ?_
      refine zEV.gfr rfl inz6 1 (by decide) wf_RX6_16 (by decide) rfl rfl dX6_years_14 ?_
      refine zEV.aload_n dX6_years_17 rfl 0 rfl ?_
      refine zEV.gfr rfl inz6 0 (by decide) wf_RX6_12 (by decide) rfl rfl dX6_years_18 ?_
      obtain ⟨q3, hq3, h⟩ := bind_yes h
      refine zEV.callVv (kX0_copy 10 0 lf_10 lf_0 M q3 hq3) (by decide) rfl rfl wm_RX6_240 wc_X0_copy hy_X0_copy rfl ⟨Nat.le_of_ble_eq_true rfl, Nat.le_of_ble_eq_true rfl⟩ rfl (Nat.le_of_ble_eq_true rfl) dX6_years_21 ?_
      refine zEV.iload_n dX6_years_24 rfl 1 rfl ?_
      refine zEV.istore_n dX6_years_25 rfl (Nat.le_of_ble_eq_true rfl) rfl ?_
      refine zEV.iconst (v := 0) dX6_years_26 rfl ?_
      refine zEV.istore dX6_years_27 (Nat.le_of_ble_eq_true rfl) rfl ?_
      exact zEV.perm [2, 4, 1, 0] rfl (tX6_years_29 a1 a2 zFU (a1) (0) q3 q h)
    · rw [if_neg c2] at h
      refine zEV.iconst (v := (-1)) dX6_years_11 rfl ?_
      cases h
      exact zEV.iret rfl dX6_years_12
theorem kX6_years (a1 : Int32) (a2 : Int32) (M : zMM) (q : Int32 × zMM) (h : fX6_years a1 a2 M = some q) : zCN yX6_years iX6_years [.inr (.inr 157), .inl a1, .inl a2] M (some (.inl q.1), q.2) :=
  zCN.of (by decide) rfl rfl (Nat.le_of_ble_eq_true rfl) (zEV.perm [0, 1, 2] rfl (tX6_years_0 a1 a2 M q h))
-- RingedPage.keep
def fX6_keep (a1 : Int32) (M : zMM) : Option (Int32 × zMM) :=
  if a1 < (0 : Int32) then
    some (0, M)
  else
    if a1 < 2 then
      if oob (a1) 2 then none else
      (fX0_copy (20 + 10 * Int32.toNatClampNeg a1) 0 M).bind fun q4 =>
      some (1, (wr q4 152 (Int32.toNatClampNeg a1) (vp_nar .boolean 1)))
    else
      some (0, M)
set_option maxRecDepth 4000 in
theorem tX6_keep_0 (a1 : Int32) (M : zMM) (q : Int32 × zMM) (h : fX6_keep a1  M = some q) : zEV iX6_keep 0 0 (zZO (some (.inl q.1), q.2)) 0 [(0, .inr (.inr 157)), (1, .inl a1)] [] M := by
  unfold fX6_keep at h
  refine zEV.iload_n dX6_keep_0 rfl 1 rfl ?_
  refine zEV.if_lt 9 dX6_keep_1 (by decide) (fun c1 => ?_) (fun c1 => ?_)
  · rw [if_pos c1] at h
    refine zEV.iconst (v := 0) dX6_keep_9 rfl ?_
    cases h
    exact zEV.zret rfl (Or.inl rfl) dX6_keep_10
  · rw [if_neg c1] at h
    refine zEV.iload_n dX6_keep_4 rfl 1 rfl ?_
    refine zEV.iconst (v := 2) dX6_keep_5 rfl ?_
    refine zEV.icmp_lt 11 dX6_keep_6 (by decide) (fun c2 => ?_) (fun c2 => ?_)
    · rw [if_pos c2] at h
      refine zEV.aload_n dX6_keep_11 rfl 0 rfl ?_
      refine zEV.gfr rfl inz6 5 (by decide) wf_RX6_40 (by decide) rfl rfl dX6_keep_12 ?_
      refine zEV.iload_n dX6_keep_15 rfl 1 rfl ?_
      obtain ⟨g3, h⟩ := ite_no h
      refine zEV.aald (by decide) (by decide) rfl g3 dX6_keep_16 ?_
      refine zEV.aload_n dX6_keep_17 rfl 0 rfl ?_
      refine zEV.gfr rfl inz6 0 (by decide) wf_RX6_12 (by decide) rfl rfl dX6_keep_18 ?_
      obtain ⟨q4, hq4, h⟩ := bind_yes h
      refine zEV.callVv (kX0_copy (20 + 10 * Int32.toNatClampNeg a1) 0 (lf_arr20 g3) lf_0 M q4 hq4) (lf_lt (lf_arr20 g3) 0 (by decide)) (lf_shp (lf_arr20 g3) 0 (by decide)) rfl wm_RX6_240 wc_X0_copy hy_X0_copy rfl ⟨Nat.le_of_ble_eq_true rfl, Nat.le_of_ble_eq_true rfl⟩ rfl (Nat.le_of_ble_eq_true rfl) dX6_keep_21 ?_
      refine zEV.aload_n dX6_keep_24 rfl 0 rfl ?_
      refine zEV.gfr rfl inz6 6 (by decide) wf_RX6_44 (by decide) rfl rfl dX6_keep_25 ?_
      refine zEV.iload_n dX6_keep_28 rfl 1 rfl ?_
      refine zEV.iconst (v := 1) dX6_keep_29 rfl ?_
      refine zEV.zast (by decide) rfl g3 dX6_keep_30 ?_
      refine zEV.iconst (v := 1) dX6_keep_31 rfl ?_
      cases h
      exact zEV.zret rfl (Or.inr rfl) dX6_keep_32
    · rw [if_neg c2] at h
      refine zEV.iconst (v := 0) dX6_keep_9 rfl ?_
      cases h
      exact zEV.zret rfl (Or.inl rfl) dX6_keep_10
theorem kX6_keep (a1 : Int32) (M : zMM) (q : Int32 × zMM) (h : fX6_keep a1 M = some q) : zCN yX6_keep iX6_keep [.inr (.inr 157), .inl a1] M (some (.inl q.1), q.2) :=
  zCN.of (by decide) rfl rfl (Nat.le_of_ble_eq_true rfl) (zEV.perm [0, 1] rfl (tX6_keep_0 a1 M q h))
-- RingedPage.again
def fX6_again (a1 : Int32) (M : zMM) : Option (Int32 × zMM) :=
  if a1 < (0 : Int32) then
    some (0, M)
  else
    if (2 : Int32) ≤ a1 then
      some (0, M)
    else
      if oob (a1) 2 then none else
      if (M.1 152 (Int32.toNatClampNeg a1)) = (0 : Int32) then
        some (0, M)
      else
        (fX0_copy 0 (20 + 10 * Int32.toNatClampNeg a1) M).bind fun q5 =>
        (fX1_forget  q5).bind fun q6 =>
        some (1, q6)
set_option maxRecDepth 4000 in
theorem tX6_again_0 (a1 : Int32) (M : zMM) (q : Int32 × zMM) (h : fX6_again a1  M = some q) : zEV iX6_again 0 0 (zZO (some (.inl q.1), q.2)) 0 [(0, .inr (.inr 157)), (1, .inl a1)] [] M := by
  unfold fX6_again at h
  refine zEV.iload_n dX6_again_0 rfl 1 rfl ?_
  refine zEV.if_lt 18 dX6_again_1 (by decide) (fun c1 => ?_) (fun c1 => ?_)
  · rw [if_pos c1] at h
    refine zEV.iconst (v := 0) dX6_again_18 rfl ?_
    cases h
    exact zEV.zret rfl (Or.inl rfl) dX6_again_19
  · rw [if_neg c1] at h
    refine zEV.iload_n dX6_again_4 rfl 1 rfl ?_
    refine zEV.iconst (v := 2) dX6_again_5 rfl ?_
    refine zEV.icmp_ge 18 dX6_again_6 (by decide) (fun c2 => ?_) (fun c2 => ?_)
    · rw [if_pos c2] at h
      refine zEV.iconst (v := 0) dX6_again_18 rfl ?_
      cases h
      exact zEV.zret rfl (Or.inl rfl) dX6_again_19
    · rw [if_neg c2] at h
      refine zEV.aload_n dX6_again_9 rfl 0 rfl ?_
      refine zEV.gfr rfl inz6 6 (by decide) wf_RX6_44 (by decide) rfl rfl dX6_again_10 ?_
      refine zEV.iload_n dX6_again_13 rfl 1 rfl ?_
      obtain ⟨g3, h⟩ := ite_no h
      refine zEV.zald (by decide) rfl g3 dX6_again_14 ?_
      refine zEV.if_ne 20 dX6_again_15 (by decide) (fun c4 => ?_) (fun c4 => ?_)
      · rw [if_neg c4] at h
        refine zEV.aload_n dX6_again_20 rfl 0 rfl ?_
        refine zEV.gfr rfl inz6 0 (by decide) wf_RX6_12 (by decide) rfl rfl dX6_again_21 ?_
        refine zEV.aload_n dX6_again_24 rfl 0 rfl ?_
        refine zEV.gfr rfl inz6 5 (by decide) wf_RX6_40 (by decide) rfl rfl dX6_again_25 ?_
        refine zEV.iload_n dX6_again_28 rfl 1 rfl ?_
        refine zEV.aald (by decide) (by decide) rfl g3 dX6_again_29 ?_
        obtain ⟨q5, hq5, h⟩ := bind_yes h
        refine zEV.callVv (kX0_copy 0 (20 + 10 * Int32.toNatClampNeg a1) lf_0 (lf_arr20 g3) M q5 hq5) (by decide) rfl rfl wm_RX6_240 wc_X0_copy hy_X0_copy rfl ⟨Nat.le_of_ble_eq_true rfl, Nat.le_of_ble_eq_true rfl⟩ rfl (Nat.le_of_ble_eq_true rfl) dX6_again_30 ?_
        refine zEV.aload_n dX6_again_33 rfl 0 rfl ?_
        refine zEV.gfr rfl inz6 4 (by decide) wf_RX6_36 (by decide) rfl rfl dX6_again_34 ?_
        obtain ⟨q6, hq6, h⟩ := bind_yes h
        refine zEV.callVv (kX1_forget   q5 q6 hq6) (by decide) rfl rfl wm_RX6_341 wc_X1_forget hy_X1_forget rfl ⟨Nat.le_of_ble_eq_true rfl, Nat.le_of_ble_eq_true rfl⟩ rfl (Nat.le_of_ble_eq_true rfl) dX6_again_37 ?_
        refine zEV.iconst (v := 1) dX6_again_40 rfl ?_
        cases h
        exact zEV.zret rfl (Or.inr rfl) dX6_again_41
      · rw [if_pos c4] at h
        refine zEV.iconst (v := 0) dX6_again_18 rfl ?_
        cases h
        exact zEV.zret rfl (Or.inl rfl) dX6_again_19
theorem kX6_again (a1 : Int32) (M : zMM) (q : Int32 × zMM) (h : fX6_again a1 M = some q) : zCN yX6_again iX6_again [.inr (.inr 157), .inl a1] M (some (.inl q.1), q.2) :=
  zCN.of (by decide) rfl rfl (Nat.le_of_ble_eq_true rfl) (zEV.perm [0, 1] rfl (tX6_again_0 a1 M q h))
-- RingedPage.count
def fX6_count_120 (a1 : Int32) (M : zMM) : Option (Int32 × zMM) :=
  if oob ((a1 - 5)) 3 then none else
  some ((M.1 2 (Int32.toNatClampNeg (a1 - 5))), M)
set_option maxRecDepth 4000 in
theorem tX6_count_120 (a1 : Int32) (M : zMM) (q : Int32 × zMM) (h : fX6_count_120 a1  M = some q) : zEV iX6_count 0 0 (zZO (some (.inl q.1), q.2)) 120 [(0, .inr (.inr 157)), (1, .inl a1)] [] M := by
  unfold fX6_count_120 at h
  refine zEV.aload_n dX6_count_120 rfl 0 rfl ?_
  refine zEV.gfr rfl inz6 0 (by decide) wf_RX6_12 (by decide) rfl rfl dX6_count_121 ?_
  refine zEV.gfr rfl inz0 8 (by decide) wf_RX6_231 (by decide) rfl rfl dX6_count_124 ?_
  refine zEV.iload_n dX6_count_127 rfl 1 rfl ?_
  refine zEV.iconst (v := 5) dX6_count_128 rfl ?_
  refine zEV.isub dX6_count_129 ?_
  obtain ⟨g1, h⟩ := ite_no h
  refine zEV.iald (by decide) rfl g1 dX6_count_130 ?_
  cases h
  exact zEV.iret rfl dX6_count_131
def fX6_count_172 (a1 : Int32) (M : zMM) : Option (Int32 × zMM) :=
  if oob ((a1 - 13)) 3 then none else
  some ((M.1 1 (Int32.toNatClampNeg (a1 - 13))), M)
set_option maxRecDepth 4000 in
theorem tX6_count_172 (a1 : Int32) (M : zMM) (q : Int32 × zMM) (h : fX6_count_172 a1  M = some q) : zEV iX6_count 0 0 (zZO (some (.inl q.1), q.2)) 172 [(0, .inr (.inr 157)), (1, .inl a1)] [] M := by
  unfold fX6_count_172 at h
  refine zEV.aload_n dX6_count_172 rfl 0 rfl ?_
  refine zEV.gfr rfl inz6 0 (by decide) wf_RX6_12 (by decide) rfl rfl dX6_count_173 ?_
  refine zEV.gfr rfl inz0 7 (by decide) wf_RX6_297 (by decide) rfl rfl dX6_count_176 ?_
  refine zEV.iload_n dX6_count_179 rfl 1 rfl ?_
  refine zEV.bipush (v := 13) dX6_count_180 rfl ?_
  refine zEV.isub dX6_count_182 ?_
  obtain ⟨g1, h⟩ := ite_no h
  refine zEV.iald (by decide) rfl g1 dX6_count_183 ?_
  cases h
  exact zEV.iret rfl dX6_count_184
def fX6_count (a1 : Int32) (M : zMM) : Option (Int32 × zMM) :=
  if a1 = (0 : Int32) then
    some ((M.1 0 0), M)
  else
    if a1 = (1 : Int32) then
      some ((M.1 0 1), M)
    else
      if a1 = (2 : Int32) then
        some ((M.1 0 3), M)
      else
        if a1 = (3 : Int32) then
          some ((M.1 0 4), M)
        else
          if a1 = (4 : Int32) then
            some ((M.1 0 5), M)
          else
            if a1 = (5 : Int32) then
              fX6_count_120 a1 M
            else
              if a1 = (6 : Int32) then
                fX6_count_120 a1 M
              else
                if a1 = (7 : Int32) then
                  fX6_count_120 a1 M
                else
                  if a1 = (8 : Int32) then
                    some ((M.1 0 6), M)
                  else
                    if a1 = (9 : Int32) then
                      some ((M.1 149 2), M)
                    else
                      if a1 = (10 : Int32) then
                        some ((M.1 155 1), M)
                      else
                        if a1 = (11 : Int32) then
                          some ((M.1 153 1), M)
                        else
                          if a1 = (12 : Int32) then
                            some ((M.1 0 2), M)
                          else
                            if a1 = (13 : Int32) then
                              fX6_count_172 a1 M
                            else
                              if a1 = (14 : Int32) then
                                fX6_count_172 a1 M
                              else
                                if a1 = (15 : Int32) then
                                  fX6_count_172 a1 M
                                else
                                  some ((-1), M)
set_option maxRecDepth 4000 in
theorem tX6_count_0 (a1 : Int32) (M : zMM) (q : Int32 × zMM) (h : fX6_count a1  M = some q) : zEV iX6_count 0 0 (zZO (some (.inl q.1), q.2)) 0 [(0, .inr (.inr 157)), (1, .inl a1)] [] M := by
  unfold fX6_count at h
  refine zEV.iload_n dX6_count_0 rfl 1 rfl ?_
  by_cases c1_0 : a1 = (0 : Int32)
  · rw [if_pos c1_0] at h
    refine zEV.tabIn 80 dX6_count_1 (0) c1_0 (by decide) (by decide) rfl (by decide) ?_
    refine zEV.aload_n dX6_count_80 rfl 0 rfl ?_
    refine zEV.gfr rfl inz6 0 (by decide) wf_RX6_12 (by decide) rfl rfl dX6_count_81 ?_
    refine zEV.gfi rfl inz0 0 (by decide) wf_RX6_168 (by decide) rfl rfl dX6_count_84 ?_
    cases h
    exact zEV.iret rfl dX6_count_87
  · rw [if_neg c1_0] at h
    by_cases c1_1 : a1 = (1 : Int32)
    · rw [if_pos c1_1] at h
      refine zEV.tabIn 88 dX6_count_1 (1) c1_1 (by decide) (by decide) rfl (by decide) ?_
      refine zEV.aload_n dX6_count_88 rfl 0 rfl ?_
      refine zEV.gfr rfl inz6 0 (by decide) wf_RX6_12 (by decide) rfl rfl dX6_count_89 ?_
      refine zEV.gfi rfl inz0 1 (by decide) wf_RX6_123 (by decide) rfl rfl dX6_count_92 ?_
      cases h
      exact zEV.iret rfl dX6_count_95
    · rw [if_neg c1_1] at h
      by_cases c1_2 : a1 = (2 : Int32)
      · rw [if_pos c1_2] at h
        refine zEV.tabIn 96 dX6_count_1 (2) c1_2 (by decide) (by decide) rfl (by decide) ?_
        refine zEV.aload_n dX6_count_96 rfl 0 rfl ?_
        refine zEV.gfr rfl inz6 0 (by decide) wf_RX6_12 (by decide) rfl rfl dX6_count_97 ?_
        refine zEV.gfi rfl inz0 3 (by decide) wf_RX6_344 (by decide) rfl rfl dX6_count_100 ?_
        cases h
        exact zEV.iret rfl dX6_count_103
      · rw [if_neg c1_2] at h
        by_cases c1_3 : a1 = (3 : Int32)
        · rw [if_pos c1_3] at h
          refine zEV.tabIn 104 dX6_count_1 (3) c1_3 (by decide) (by decide) rfl (by decide) ?_
          refine zEV.aload_n dX6_count_104 rfl 0 rfl ?_
          refine zEV.gfr rfl inz6 0 (by decide) wf_RX6_12 (by decide) rfl rfl dX6_count_105 ?_
          refine zEV.gfi rfl inz0 4 (by decide) wf_RX6_345 (by decide) rfl rfl dX6_count_108 ?_
          cases h
          exact zEV.iret rfl dX6_count_111
        · rw [if_neg c1_3] at h
          by_cases c1_4 : a1 = (4 : Int32)
          · rw [if_pos c1_4] at h
            refine zEV.tabIn 112 dX6_count_1 (4) c1_4 (by decide) (by decide) rfl (by decide) ?_
            refine zEV.aload_n dX6_count_112 rfl 0 rfl ?_
            refine zEV.gfr rfl inz6 0 (by decide) wf_RX6_12 (by decide) rfl rfl dX6_count_113 ?_
            refine zEV.gfi rfl inz0 5 (by decide) wf_RX6_346 (by decide) rfl rfl dX6_count_116 ?_
            cases h
            exact zEV.iret rfl dX6_count_119
          · rw [if_neg c1_4] at h
            by_cases c1_5 : a1 = (5 : Int32)
            · rw [if_pos c1_5] at h
              refine zEV.tabIn 120 dX6_count_1 (5) c1_5 (by decide) (by decide) rfl (by decide) ?_
              exact zEV.perm [0, 1] rfl (tX6_count_120 a1 M q h)
            · rw [if_neg c1_5] at h
              by_cases c1_6 : a1 = (6 : Int32)
              · rw [if_pos c1_6] at h
                refine zEV.tabIn 120 dX6_count_1 (6) c1_6 (by decide) (by decide) rfl (by decide) ?_
                exact zEV.perm [0, 1] rfl (tX6_count_120 a1 M q h)
              · rw [if_neg c1_6] at h
                by_cases c1_7 : a1 = (7 : Int32)
                · rw [if_pos c1_7] at h
                  refine zEV.tabIn 120 dX6_count_1 (7) c1_7 (by decide) (by decide) rfl (by decide) ?_
                  exact zEV.perm [0, 1] rfl (tX6_count_120 a1 M q h)
                · rw [if_neg c1_7] at h
                  by_cases c1_8 : a1 = (8 : Int32)
                  · rw [if_pos c1_8] at h
                    refine zEV.tabIn 132 dX6_count_1 (8) c1_8 (by decide) (by decide) rfl (by decide) ?_
                    refine zEV.aload_n dX6_count_132 rfl 0 rfl ?_
                    refine zEV.gfr rfl inz6 0 (by decide) wf_RX6_12 (by decide) rfl rfl dX6_count_133 ?_
                    refine zEV.gfi rfl inz0 6 (by decide) wf_RX6_213 (by decide) rfl rfl dX6_count_136 ?_
                    cases h
                    exact zEV.iret rfl dX6_count_139
                  · rw [if_neg c1_8] at h
                    by_cases c1_9 : a1 = (9 : Int32)
                    · rw [if_pos c1_9] at h
                      refine zEV.tabIn 140 dX6_count_1 (9) c1_9 (by decide) (by decide) rfl (by decide) ?_
                      refine zEV.aload_n dX6_count_140 rfl 0 rfl ?_
                      refine zEV.gfr rfl inz6 4 (by decide) wf_RX6_36 (by decide) rfl rfl dX6_count_141 ?_
                      refine zEV.gfi rfl inz1 2 (by decide) wf_RX6_334 (by decide) rfl rfl dX6_count_144 ?_
                      cases h
                      exact zEV.iret rfl dX6_count_147
                    · rw [if_neg c1_9] at h
                      by_cases c1_10 : a1 = (10 : Int32)
                      · rw [if_pos c1_10] at h
                        refine zEV.tabIn 148 dX6_count_1 (10) c1_10 (by decide) (by decide) rfl (by decide) ?_
                        refine zEV.aload_n dX6_count_148 rfl 0 rfl ?_
                        refine zEV.gfr rfl inz6 8 (by decide) wf_RX6_58 (by decide) rfl rfl dX6_count_149 ?_
                        refine zEV.gfi rfl inz2 1 (by decide) wf_RX6_347 (by decide) rfl rfl dX6_count_152 ?_
                        cases h
                        exact zEV.iret rfl dX6_count_155
                      · rw [if_neg c1_10] at h
                        by_cases c1_11 : a1 = (11 : Int32)
                        · rw [if_pos c1_11] at h
                          refine zEV.tabIn 156 dX6_count_1 (11) c1_11 (by decide) (by decide) rfl (by decide) ?_
                          refine zEV.aload_n dX6_count_156 rfl 0 rfl ?_
                          refine zEV.gfr rfl inz6 7 (by decide) wf_RX6_51 (by decide) rfl rfl dX6_count_157 ?_
                          refine zEV.gfi rfl inz5 1 (by decide) wf_RX6_66 (by decide) rfl rfl dX6_count_160 ?_
                          cases h
                          exact zEV.iret rfl dX6_count_163
                        · rw [if_neg c1_11] at h
                          by_cases c1_12 : a1 = (12 : Int32)
                          · rw [if_pos c1_12] at h
                            refine zEV.tabIn 164 dX6_count_1 (12) c1_12 (by decide) (by decide) rfl (by decide) ?_
                            refine zEV.aload_n dX6_count_164 rfl 0 rfl ?_
                            refine zEV.gfr rfl inz6 0 (by decide) wf_RX6_12 (by decide) rfl rfl dX6_count_165 ?_
                            refine zEV.gfi rfl inz0 2 (by decide) wf_RX6_348 (by decide) rfl rfl dX6_count_168 ?_
                            cases h
                            exact zEV.iret rfl dX6_count_171
                          · rw [if_neg c1_12] at h
                            by_cases c1_13 : a1 = (13 : Int32)
                            · rw [if_pos c1_13] at h
                              refine zEV.tabIn 172 dX6_count_1 (13) c1_13 (by decide) (by decide) rfl (by decide) ?_
                              exact zEV.perm [0, 1] rfl (tX6_count_172 a1 M q h)
                            · rw [if_neg c1_13] at h
                              by_cases c1_14 : a1 = (14 : Int32)
                              · rw [if_pos c1_14] at h
                                refine zEV.tabIn 172 dX6_count_1 (14) c1_14 (by decide) (by decide) rfl (by decide) ?_
                                exact zEV.perm [0, 1] rfl (tX6_count_172 a1 M q h)
                              · rw [if_neg c1_14] at h
                                by_cases c1_15 : a1 = (15 : Int32)
                                · rw [if_pos c1_15] at h
                                  refine zEV.tabIn 172 dX6_count_1 (15) c1_15 (by decide) (by decide) rfl (by decide) ?_
                                  exact zEV.perm [0, 1] rfl (tX6_count_172 a1 M q h)
                                · rw [if_neg c1_15] at h
                                  refine zEV.tabOut 185 15 dX6_count_1 (by decide) (by decide) rfl (fun k hk => ?_) (by decide) ?_
                                  · match k, hk with
                                    | 0, _ => exact c1_0
                                    | 1, _ => exact c1_1
                                    | 2, _ => exact c1_2
                                    | 3, _ => exact c1_3
                                    | 4, _ => exact c1_4
                                    | 5, _ => exact c1_5
                                    | 6, _ => exact c1_6
                                    | 7, _ => exact c1_7
                                    | 8, _ => exact c1_8
                                    | 9, _ => exact c1_9
                                    | 10, _ => exact c1_10
                                    | 11, _ => exact c1_11
                                    | 12, _ => exact c1_12
                                    | 13, _ => exact c1_13
                                    | 14, _ => exact c1_14
                                    | 15, _ => exact c1_15
                                    | k + 16, hk => exact absurd hk (by omega)
                                  refine zEV.iconst (v := (-1)) dX6_count_185 rfl ?_
                                  cases h
                                  exact zEV.iret rfl dX6_count_186
theorem kX6_count (a1 : Int32) (M : zMM) (q : Int32 × zMM) (h : fX6_count a1 M = some q) : zCN yX6_count iX6_count [.inr (.inr 157), .inl a1] M (some (.inl q.1), q.2) :=
  zCN.of (by decide) rfl rfl (Nat.le_of_ble_eq_true rfl) (zEV.perm [0, 1] rfl (tX6_count_0 a1 M q h))
-- RingedPageModel.thrown
def fX7_thrown (M : zMM) : Option (Int32 × zMM) :=
  some ((M.1 158 5), M)
set_option maxRecDepth 4000 in
theorem tX7_thrown_0 (M : zMM) (q : Int32 × zMM) (h : fX7_thrown  M = some q) : zEV iX7_thrown 0 0 (zZO (some (.inl q.1), q.2)) 0 [(0, .inr (.inr 158))] [] M := by
  unfold fX7_thrown at h
  refine zEV.aload_n dX7_thrown_0 rfl 0 rfl ?_
  refine zEV.gfi rfl inz7 5 (by decide) wf_RX7_58 (by decide) rfl rfl dX7_thrown_1 ?_
  cases h
  exact zEV.iret rfl dX7_thrown_4
theorem kX7_thrown (M : zMM) (q : Int32 × zMM) (h : fX7_thrown M = some q) : zCN yX7_thrown iX7_thrown [.inr (.inr 158)] M (some (.inl q.1), q.2) :=
  zCN.of (by decide) rfl rfl (Nat.le_of_ble_eq_true rfl) (zEV.perm [0] rfl (tX7_thrown_0 M q h))
-- RingedPageModel.in
def fX7_in (a0 : Int32) (a1 : Int32) (a2 : Int32) (M : zMM) : Option (Int32 × zMM) :=
  if a0 < a1 then
    some (0, M)
  else
    if a2 < a0 then
      some (0, M)
    else
      some (1, M)
set_option maxRecDepth 4000 in
theorem tX7_in_0 (a0 : Int32) (a1 : Int32) (a2 : Int32) (M : zMM) (q : Int32 × zMM) (h : fX7_in a0 a1 a2  M = some q) : zEV iX7_in 0 0 (zZO (some (.inl q.1), q.2)) 0 [(0, .inl a0), (1, .inl a1), (2, .inl a2)] [] M := by
  unfold fX7_in at h
  refine zEV.iload_n dX7_in_0 rfl 0 rfl ?_
  refine zEV.iload_n dX7_in_1 rfl 1 rfl ?_
  refine zEV.icmp_lt 14 dX7_in_2 (by decide) (fun c1 => ?_) (fun c1 => ?_)
  · rw [if_pos c1] at h
    refine zEV.iconst (v := 0) dX7_in_14 rfl ?_
    cases h
    exact zEV.zret rfl (Or.inl rfl) dX7_in_15
  · rw [if_neg c1] at h
    refine zEV.iload_n dX7_in_5 rfl 0 rfl ?_
    refine zEV.iload_n dX7_in_6 rfl 2 rfl ?_
    refine zEV.icmp_gt 14 dX7_in_7 (by decide) (fun c2 => ?_) (fun c2 => ?_)
    · rw [if_pos c2] at h
      refine zEV.iconst (v := 0) dX7_in_14 rfl ?_
      cases h
      exact zEV.zret rfl (Or.inl rfl) dX7_in_15
    · rw [if_neg c2] at h
      refine zEV.iconst (v := 1) dX7_in_10 rfl ?_
      refine zEV.goto 15 dX7_in_11 (by decide) ?_
      cases h
      exact zEV.zret rfl (Or.inr rfl) dX7_in_15
theorem kX7_in (a0 : Int32) (a1 : Int32) (a2 : Int32) (M : zMM) (q : Int32 × zMM) (h : fX7_in a0 a1 a2 M = some q) : zCN yX7_in iX7_in [.inl a0, .inl a1, .inl a2] M (some (.inl q.1), q.2) :=
  zCN.of (by decide) rfl rfl (Nat.le_of_ble_eq_true rfl) (zEV.perm [0, 1, 2] rfl (tX7_in_0 a0 a1 a2 M q h))
-- RingedPageModel.lost
def fX7_lost (M : zMM) : Option (Int32 × zMM) :=
  some (0, (wr M 158 5 1))
set_option maxRecDepth 4000 in
theorem tX7_lost_0 (M : zMM) (q : Int32 × zMM) (h : fX7_lost  M = some q) : zEV iX7_lost 0 0 (zZO (some (.inl q.1), q.2)) 0 [(0, .inr (.inr 158))] [] M := by
  unfold fX7_lost at h
  refine zEV.aload_n dX7_lost_0 rfl 0 rfl ?_
  refine zEV.iconst (v := 1) dX7_lost_1 rfl ?_
  refine zEV.pfi rfl inz7 tyX7 tyX7_ok nmX7 5 (by decide) wf_RX7_58 rfl (by decide +kernel) (by decide) rfl rfl dX7_lost_2 ?_
  refine zEV.iconst (v := 0) dX7_lost_5 rfl ?_
  cases h
  exact zEV.iret rfl dX7_lost_6
theorem kX7_lost (M : zMM) (q : Int32 × zMM) (h : fX7_lost M = some q) : zCN yX7_lost iX7_lost [.inr (.inr 158)] M (some (.inl q.1), q.2) :=
  zCN.of (by decide) rfl rfl (Nat.le_of_ble_eq_true rfl) (zEV.perm [0] rfl (tX7_lost_0 M q h))
-- RingedPageModel.tell
def fX7_tell (a1 : Int64) (M : zMM) : Option (zMM) :=
  if oob ((M.1 158 4)) 80 then none else
  some (wr (wrL M 161 (Int32.toNatClampNeg (M.1 158 4)) a1) 158 4 (((wrL M 161 (Int32.toNatClampNeg (M.1 158 4)) a1).1 158 4) + 1))
set_option maxRecDepth 4000 in
theorem tX7_tell_0 (a1 : Int64) (M : zMM) (q : zMM) (h : fX7_tell a1  M = some q) : zEV iX7_tell 0 0 (zZO (none, q)) 0 [(0, .inr (.inr 158)), (1, .inr (.inl a1))] [] M := by
  unfold fX7_tell at h
  refine zEV.aload_n dX7_tell_0 rfl 0 rfl ?_
  refine zEV.gfr rfl inz7 3 (by decide) wf_RX7_17 (by decide) rfl rfl dX7_tell_1 ?_
  refine zEV.aload_n dX7_tell_4 rfl 0 rfl ?_
  refine zEV.gfi rfl inz7 4 (by decide) wf_RX7_62 (by decide) rfl rfl dX7_tell_5 ?_
  refine zEV.lload_n dX7_tell_8 rfl 1 rfl ?_
  obtain ⟨g1, h⟩ := ite_no h
  refine zEV.last (by decide) rfl g1 dX7_tell_9 ?_
  refine zEV.aload_n dX7_tell_10 rfl 0 rfl ?_
  refine zEV.dup dX7_tell_11 rfl ?_
  refine zEV.gfi rfl inz7 4 (by decide) wf_RX7_62 (by decide) rfl rfl dX7_tell_12 ?_
  refine zEV.iconst (v := 1) dX7_tell_15 rfl ?_
  refine zEV.iadd dX7_tell_16 ?_
  refine zEV.pfi rfl inz7 tyX7 tyX7_ok nmX7 4 (by decide) wf_RX7_62 rfl (by decide +kernel) (by decide) rfl rfl dX7_tell_17 ?_
  cases h
  exact zEV.vret rfl dX7_tell_20
theorem kX7_tell (a1 : Int64) (M : zMM) (q : zMM) (h : fX7_tell a1 M = some q) : zCN yX7_tell iX7_tell [.inr (.inr 158), .inr (.inl a1)] M (none, q) :=
  zCN.of (by decide) rfl rfl (Nat.le_of_ble_eq_true rfl) (zEV.perm [0, 1] rfl (tX7_tell_0 a1 M q h))
-- RingedPageModel.isText
def fX7_isText (a0 : Int32) (M : zMM) : Option (Int32 × zMM) :=
  (fX7_in (a0) (0) (2) M).bind fun q1 =>
  if q1.1 = 0 ∨ q1.1 = 1 then some (q1.1, q1.2) else none
set_option maxRecDepth 4000 in
theorem tX7_isText_0 (a0 : Int32) (M : zMM) (q : Int32 × zMM) (h : fX7_isText a0  M = some q) : zEV iX7_isText 0 0 (zZO (some (.inl q.1), q.2)) 0 [(0, .inl a0)] [] M := by
  unfold fX7_isText at h
  refine zEV.iload_n dX7_isText_0 rfl 0 rfl ?_
  refine zEV.iconst (v := 0) dX7_isText_1 rfl ?_
  refine zEV.iconst (v := 2) dX7_isText_2 rfl ?_
  obtain ⟨q1, hq1, h⟩ := bind_yes h
  refine zEV.callSi (kX7_in (a0) (0) (2)  M q1 hq1) wm_RX7_65 wc_X7_in hy_X7_in rfl ⟨Nat.le_of_ble_eq_true rfl, Nat.le_of_ble_eq_true rfl⟩ rfl (Nat.le_of_ble_eq_true rfl) dX7_isText_3 ?_
  obtain ⟨g2, h⟩ := ite_yes h
  cases h
  exact zEV.zret rfl g2 dX7_isText_6
theorem kX7_isText (a0 : Int32) (M : zMM) (q : Int32 × zMM) (h : fX7_isText a0 M = some q) : zCN yX7_isText iX7_isText [.inl a0] M (some (.inl q.1), q.2) :=
  zCN.of (by decide) rfl rfl (Nat.le_of_ble_eq_true rfl) (zEV.perm [0] rfl (tX7_isText_0 a0 M q h))
-- RingedPageModel.isWord
def fX7_isWord (a1 : Int32) (a2 : Int32) (M : zMM) : Option (Int32 × zMM) :=
  (fX7_isText (a1) M).bind fun q1 =>
  if q1.1 = (0 : Int32) then
    some (0, q1.2)
  else
    if oob ((5 + a1)) 259 then none else
    (fX7_in (a2) (0) (((q1.2.1 159 (Int32.toNatClampNeg (5 + a1))) - 1)) q1.2).bind fun q4 =>
    if q4.1 = (0 : Int32) then
      some (0, q4.2)
    else
      some (1, q4.2)
set_option maxRecDepth 4000 in
theorem tX7_isWord_0 (a1 : Int32) (a2 : Int32) (M : zMM) (q : Int32 × zMM) (h : fX7_isWord a1 a2  M = some q) : zEV iX7_isWord 0 0 (zZO (some (.inl q.1), q.2)) 0 [(0, .inr (.inr 158)), (1, .inl a1), (2, .inl a2)] [] M := by
  unfold fX7_isWord at h
  refine zEV.iload_n dX7_isWord_0 rfl 1 rfl ?_
  obtain ⟨q1, hq1, h⟩ := bind_yes h
  refine zEV.callSi (kX7_isText (a1)  M q1 hq1) wm_RX7_69 wc_X7_isText hy_X7_isText rfl ⟨Nat.le_of_ble_eq_true rfl, Nat.le_of_ble_eq_true rfl⟩ rfl (Nat.le_of_ble_eq_true rfl) dX7_isWord_1 ?_
  refine zEV.if_eq 29 dX7_isWord_4 (by decide) (fun c2 => ?_) (fun c2 => ?_)
  · rw [if_pos c2] at h
    refine zEV.iconst (v := 0) dX7_isWord_29 rfl ?_
    cases h
    exact zEV.zret rfl (Or.inl rfl) dX7_isWord_30
  · rw [if_neg c2] at h
    refine zEV.iload_n dX7_isWord_7 rfl 2 rfl ?_
    refine zEV.iconst (v := 0) dX7_isWord_8 rfl ?_
    refine zEV.aload_n dX7_isWord_9 rfl 0 rfl ?_
    refine zEV.gfr rfl inz7 0 (by decide) wf_RX7_9 (by decide) rfl rfl dX7_isWord_10 ?_
    refine zEV.iconst (v := 5) dX7_isWord_13 rfl ?_
    refine zEV.iload_n dX7_isWord_14 rfl 1 rfl ?_
    refine zEV.iadd dX7_isWord_15 ?_
    obtain ⟨g3, h⟩ := ite_no h
    refine zEV.iald (by decide) rfl g3 dX7_isWord_16 ?_
    refine zEV.iconst (v := 1) dX7_isWord_17 rfl ?_
    refine zEV.isub dX7_isWord_18 ?_
    obtain ⟨q4, hq4, h⟩ := bind_yes h
    refine zEV.callSi (kX7_in (a2) (0) (((q1.2.1 159 (Int32.toNatClampNeg (5 + a1))) - 1))  q1.2 q4 hq4) wm_RX7_65 wc_X7_in hy_X7_in rfl ⟨Nat.le_of_ble_eq_true rfl, Nat.le_of_ble_eq_true rfl⟩ rfl (Nat.le_of_ble_eq_true rfl) dX7_isWord_19 ?_
    refine zEV.if_eq 29 dX7_isWord_22 (by decide) (fun c5 => ?_) (fun c5 => ?_)
    · rw [if_pos c5] at h
      refine zEV.iconst (v := 0) dX7_isWord_29 rfl ?_
      cases h
      exact zEV.zret rfl (Or.inl rfl) dX7_isWord_30
    · rw [if_neg c5] at h
      refine zEV.iconst (v := 1) dX7_isWord_25 rfl ?_
      refine zEV.goto 30 dX7_isWord_26 (by decide) ?_
      cases h
      exact zEV.zret rfl (Or.inr rfl) dX7_isWord_30
theorem kX7_isWord (a1 : Int32) (a2 : Int32) (M : zMM) (q : Int32 × zMM) (h : fX7_isWord a1 a2 M = some q) : zCN yX7_isWord iX7_isWord [.inr (.inr 158), .inl a1, .inl a2] M (some (.inl q.1), q.2) :=
  zCN.of (by decide) rfl rfl (Nat.le_of_ble_eq_true rfl) (zEV.perm [0, 1, 2] rfl (tX7_isWord_0 a1 a2 M q h))
-- RingedPageModel.size
def fX7_size (a1 : Int32) (a2 : Int32) (M : zMM) : Option (Int32 × zMM) :=
  if oob (((8 + (70 * a1)) + a2)) 259 then none else
  some ((M.1 159 (Int32.toNatClampNeg ((8 + (70 * a1)) + a2))), M)
set_option maxRecDepth 4000 in
theorem tX7_size_0 (a1 : Int32) (a2 : Int32) (M : zMM) (q : Int32 × zMM) (h : fX7_size a1 a2  M = some q) : zEV iX7_size 0 0 (zZO (some (.inl q.1), q.2)) 0 [(0, .inr (.inr 158)), (1, .inl a1), (2, .inl a2)] [] M := by
  unfold fX7_size at h
  refine zEV.aload_n dX7_size_0 rfl 0 rfl ?_
  refine zEV.gfr rfl inz7 0 (by decide) wf_RX7_9 (by decide) rfl rfl dX7_size_1 ?_
  refine zEV.bipush (v := 8) dX7_size_4 rfl ?_
  refine zEV.bipush (v := 70) dX7_size_6 rfl ?_
  refine zEV.iload_n dX7_size_8 rfl 1 rfl ?_
  refine zEV.imul dX7_size_9 ?_
  refine zEV.iadd dX7_size_10 ?_
  refine zEV.iload_n dX7_size_11 rfl 2 rfl ?_
  refine zEV.iadd dX7_size_12 ?_
  obtain ⟨g1, h⟩ := ite_no h
  refine zEV.iald (by decide) rfl g1 dX7_size_13 ?_
  cases h
  exact zEV.iret rfl dX7_size_14
theorem kX7_size (a1 : Int32) (a2 : Int32) (M : zMM) (q : Int32 × zMM) (h : fX7_size a1 a2 M = some q) : zCN yX7_size iX7_size [.inr (.inr 158), .inl a1, .inl a2] M (some (.inl q.1), q.2) :=
  zCN.of (by decide) rfl rfl (Nat.le_of_ble_eq_true rfl) (zEV.perm [0, 1, 2] rfl (tX7_size_0 a1 a2 M q h))
-- RingedPageModel.tied
def fX7_tied (a1 : Int32) (a2 : Int32) (M : zMM) : Option (Int32 × zMM) :=
  if oob (((219 + (3 * a1)) + a2)) 259 then none else
  some ((M.1 159 (Int32.toNatClampNeg ((219 + (3 * a1)) + a2))), M)
set_option maxRecDepth 4000 in
theorem tX7_tied_0 (a1 : Int32) (a2 : Int32) (M : zMM) (q : Int32 × zMM) (h : fX7_tied a1 a2  M = some q) : zEV iX7_tied 0 0 (zZO (some (.inl q.1), q.2)) 0 [(0, .inr (.inr 158)), (1, .inl a1), (2, .inl a2)] [] M := by
  unfold fX7_tied at h
  refine zEV.aload_n dX7_tied_0 rfl 0 rfl ?_
  refine zEV.gfr rfl inz7 0 (by decide) wf_RX7_9 (by decide) rfl rfl dX7_tied_1 ?_
  refine zEV.sipush (v := 219) dX7_tied_4 rfl ?_
  refine zEV.iconst (v := 3) dX7_tied_7 rfl ?_
  refine zEV.iload_n dX7_tied_8 rfl 1 rfl ?_
  refine zEV.imul dX7_tied_9 ?_
  refine zEV.iadd dX7_tied_10 ?_
  refine zEV.iload_n dX7_tied_11 rfl 2 rfl ?_
  refine zEV.iadd dX7_tied_12 ?_
  obtain ⟨g1, h⟩ := ite_no h
  refine zEV.iald (by decide) rfl g1 dX7_tied_13 ?_
  cases h
  exact zEV.iret rfl dX7_tied_14
theorem kX7_tied (a1 : Int32) (a2 : Int32) (M : zMM) (q : Int32 × zMM) (h : fX7_tied a1 a2 M = some q) : zCN yX7_tied iX7_tied [.inr (.inr 158), .inl a1, .inl a2] M (some (.inl q.1), q.2) :=
  zCN.of (by decide) rfl rfl (Nat.le_of_ble_eq_true rfl) (zEV.perm [0, 1, 2] rfl (tX7_tied_0 a1 a2 M q h))
-- RingedPageModel.sign
def fX7_sign_20 (a1 : Int32) : Nat → Int32 → zMM → Option (Int32 × zMM)
  | 0, _, _ => none
  | n + 1, l2, M =>
  if l2 < (0 : Int32) then
    some ((M.1 158 2), M)
  else
    if oob ((M.1 158 2)) 80 then none else
    fX7_sign_20 a1 n ((l2 + (-1))) (wr (wr M 158 2 ((M.1 158 2) + 1)) 160 (Int32.toNatClampNeg (M.1 158 2)) (vp_nar .byte (Int32.toInt8 (a1 >>> ((8 * l2) &&& 31))).toInt32))
set_option maxRecDepth 4000 in
theorem tX7_sign_20 (a1 : Int32) : ∀ (n : Nat) (l2 : Int32) (M : zMM) (q : Int32 × zMM), fX7_sign_20 a1 n l2 M = some q → zEV iX7_sign 0 0 (zZO (some (.inl q.1), q.2)) 20 [(0, .inr (.inr 158)), (1, .inl a1), (2, .inl l2)] [] M := by
  intro n
  induction n with
  | zero =>
    intro l2 M q h
    rw [fX7_sign_20] at h
    cases h
  | succ n ih =>
    intro l2 M q h
    rw [fX7_sign_20] at h
    refine zEV.iload_n dX7_sign_20 rfl 2 rfl ?_
    refine zEV.if_lt 53 dX7_sign_21 (by decide) (fun c1 => ?_) (fun c1 => ?_)
    · rw [if_pos c1] at h
      refine zEV.aload_n dX7_sign_53 rfl 0 rfl ?_
      refine zEV.gfi rfl inz7 2 (by decide) wf_RX7_73 (by decide) rfl rfl dX7_sign_54 ?_
      cases h
      exact zEV.iret rfl dX7_sign_57
    · rw [if_neg c1] at h
      refine zEV.aload_n dX7_sign_24 rfl 0 rfl ?_
      refine zEV.gfr rfl inz7 1 (by decide) wf_RX7_13 (by decide) rfl rfl dX7_sign_25 ?_
      refine zEV.aload_n dX7_sign_28 rfl 0 rfl ?_
      refine zEV.dup dX7_sign_29 rfl ?_
      refine zEV.gfi rfl inz7 2 (by decide) wf_RX7_73 (by decide) rfl rfl dX7_sign_30 ?_
      refine zEV.dup_x1 dX7_sign_33 rfl rfl ?_
      refine zEV.iconst (v := 1) dX7_sign_34 rfl ?_
      refine zEV.iadd dX7_sign_35 ?_
      refine zEV.pfi rfl inz7 tyX7 tyX7_ok nmX7 2 (by decide) wf_RX7_73 rfl (by decide +kernel) (by decide) rfl rfl dX7_sign_36 ?_
      refine zEV.iload_n dX7_sign_39 rfl 1 rfl ?_
      refine zEV.bipush (v := 8) dX7_sign_40 rfl ?_
      refine zEV.iload_n dX7_sign_42 rfl 2 rfl ?_
      refine zEV.imul dX7_sign_43 ?_
      refine zEV.ishr dX7_sign_44 ?_
      refine zEV.i2b dX7_sign_45 ?_
      obtain ⟨g2, h⟩ := ite_no h
      refine zEV.bast (by decide) rfl g2 dX7_sign_46 ?_
      refine zEV.iinc (v := (l2 + (-1))) dX7_sign_47 2 rfl rfl (Nat.le_of_ble_eq_true rfl) rfl ?_
      refine zEV.goto 20 dX7_sign_50 (by decide) ?_
      exact zEV.perm [1, 2, 0] rfl (ih ((l2 + (-1))) (wr (wr M 158 2 ((M.1 158 2) + 1)) 160 (Int32.toNatClampNeg (M.1 158 2)) (vp_nar .byte (Int32.toInt8 (a1 >>> ((8 * l2) &&& 31))).toInt32)) q h)
def fX7_sign (a1 : Int32) (M : zMM) : Option (Int32 × zMM) :=
  if (((wr M 158 5 0).1 158 2) + 4) ≤ 80 then
    fX7_sign_20 a1 zFU (3) (wr M 158 5 0)
  else
    some ((-1), (wr M 158 5 0))
set_option maxRecDepth 4000 in
theorem tX7_sign_0 (a1 : Int32) (M : zMM) (q : Int32 × zMM) (h : fX7_sign a1  M = some q) : zEV iX7_sign 0 0 (zZO (some (.inl q.1), q.2)) 0 [(0, .inr (.inr 158)), (1, .inl a1)] [] M := by
  unfold fX7_sign at h
  refine zEV.aload_n dX7_sign_0 rfl 0 rfl ?_
  refine zEV.iconst (v := 0) dX7_sign_1 rfl ?_
  refine zEV.pfi rfl inz7 tyX7 tyX7_ok nmX7 5 (by decide) wf_RX7_58 rfl (by decide +kernel) (by decide) rfl rfl dX7_sign_2 ?_
  refine zEV.aload_n dX7_sign_5 rfl 0 rfl ?_
  refine zEV.gfi rfl inz7 2 (by decide) wf_RX7_73 (by decide) rfl rfl dX7_sign_6 ?_
  refine zEV.iconst (v := 4) dX7_sign_9 rfl ?_
  refine zEV.iadd dX7_sign_10 ?_
  refine zEV.bipush (v := 80) dX7_sign_11 rfl ?_
  refine zEV.icmp_le 18 dX7_sign_13 (by decide) (fun c1 => ?_) (fun c1 => ?_)
  · rw [if_pos c1] at h
    refine zEV.iconst (v := 3) dX7_sign_18 rfl ?_
    refine zEV.istore_n dX7_sign_19 rfl (Nat.le_of_ble_eq_true rfl) rfl ?_
    exact zEV.perm [1, 2, 0] rfl (tX7_sign_20 a1 zFU (3) (wr M 158 5 0) q h)
  · rw [if_neg c1] at h
    refine zEV.iconst (v := (-1)) dX7_sign_16 rfl ?_
    cases h
    exact zEV.iret rfl dX7_sign_17
theorem kX7_sign (a1 : Int32) (M : zMM) (q : Int32 × zMM) (h : fX7_sign a1 M = some q) : zCN yX7_sign iX7_sign [.inr (.inr 158), .inl a1] M (some (.inl q.1), q.2) :=
  zCN.of (by decide) rfl rfl (Nat.le_of_ble_eq_true rfl) (zEV.perm [0, 1] rfl (tX7_sign_0 a1 M q h))
-- RingedPageModel.end
def fX7_end (a1 : Int32) (M : zMM) : Option (Int32 × zMM) :=
  (fX7_in (a1) (0) (((wr M 158 5 0).1 158 2)) (wr M 158 5 0)).bind fun q1 =>
  if q1.1 = (0 : Int32) then
    some (0, q1.2)
  else
    some (1, (wr q1.2 158 2 a1))
set_option maxRecDepth 4000 in
theorem tX7_end_0 (a1 : Int32) (M : zMM) (q : Int32 × zMM) (h : fX7_end a1  M = some q) : zEV iX7_end 0 0 (zZO (some (.inl q.1), q.2)) 0 [(0, .inr (.inr 158)), (1, .inl a1)] [] M := by
  unfold fX7_end at h
  refine zEV.aload_n dX7_end_0 rfl 0 rfl ?_
  refine zEV.iconst (v := 0) dX7_end_1 rfl ?_
  refine zEV.pfi rfl inz7 tyX7 tyX7_ok nmX7 5 (by decide) wf_RX7_58 rfl (by decide +kernel) (by decide) rfl rfl dX7_end_2 ?_
  refine zEV.iload_n dX7_end_5 rfl 1 rfl ?_
  refine zEV.iconst (v := 0) dX7_end_6 rfl ?_
  refine zEV.aload_n dX7_end_7 rfl 0 rfl ?_
  refine zEV.gfi rfl inz7 2 (by decide) wf_RX7_73 (by decide) rfl rfl dX7_end_8 ?_
  obtain ⟨q1, hq1, h⟩ := bind_yes h
  refine zEV.callSi (kX7_in (a1) (0) (((wr M 158 5 0).1 158 2))  (wr M 158 5 0) q1 hq1) wm_RX7_65 wc_X7_in hy_X7_in rfl ⟨Nat.le_of_ble_eq_true rfl, Nat.le_of_ble_eq_true rfl⟩ rfl (Nat.le_of_ble_eq_true rfl) dX7_end_11 ?_
  refine zEV.if_ne 19 dX7_end_14 (by decide) (fun c2 => ?_) (fun c2 => ?_)
  · rw [if_neg c2] at h
    refine zEV.aload_n dX7_end_19 rfl 0 rfl ?_
    refine zEV.iload_n dX7_end_20 rfl 1 rfl ?_
    refine zEV.pfi rfl inz7 tyX7 tyX7_ok nmX7 2 (by decide) wf_RX7_73 rfl (by decide +kernel) (by decide) rfl rfl dX7_end_21 ?_
    refine zEV.iconst (v := 1) dX7_end_24 rfl ?_
    cases h
    exact zEV.zret rfl (Or.inr rfl) dX7_end_25
  · rw [if_pos c2] at h
    refine zEV.iconst (v := 0) dX7_end_17 rfl ?_
    cases h
    exact zEV.zret rfl (Or.inl rfl) dX7_end_18
theorem kX7_end (a1 : Int32) (M : zMM) (q : Int32 × zMM) (h : fX7_end a1 M = some q) : zCN yX7_end iX7_end [.inr (.inr 158), .inl a1] M (some (.inl q.1), q.2) :=
  zCN.of (by decide) rfl rfl (Nat.le_of_ble_eq_true rfl) (zEV.perm [0, 1] rfl (tX7_end_0 a1 M q h))
-- RingedPageModel.begin
def fX7_begin (M : zMM) : Option (zMM) :=
  some (wr (wr (wr (wr M 158 6 (M.1 158 2)) 158 7 0) 158 8 (-1)) 158 2 0)
set_option maxRecDepth 4000 in
theorem tX7_begin_0 (M : zMM) (q : zMM) (h : fX7_begin  M = some q) : zEV iX7_begin 0 0 (zZO (none, q)) 0 [(0, .inr (.inr 158))] [] M := by
  unfold fX7_begin at h
  refine zEV.aload_n dX7_begin_0 rfl 0 rfl ?_
  refine zEV.aload_n dX7_begin_1 rfl 0 rfl ?_
  refine zEV.gfi rfl inz7 2 (by decide) wf_RX7_73 (by decide) rfl rfl dX7_begin_2 ?_
  refine zEV.pfi rfl inz7 tyX7 tyX7_ok nmX7 6 (by decide) wf_RX7_76 rfl (by decide +kernel) (by decide) rfl rfl dX7_begin_5 ?_
  refine zEV.aload_n dX7_begin_8 rfl 0 rfl ?_
  refine zEV.iconst (v := 0) dX7_begin_9 rfl ?_
  refine zEV.pfi rfl inz7 tyX7 tyX7_ok nmX7 7 (by decide) wf_RX7_79 rfl (by decide +kernel) (by decide) rfl rfl dX7_begin_10 ?_
  refine zEV.aload_n dX7_begin_13 rfl 0 rfl ?_
  refine zEV.iconst (v := (-1)) dX7_begin_14 rfl ?_
  refine zEV.pfi rfl inz7 tyX7 tyX7_ok nmX7 8 (by decide) wf_RX7_82 rfl (by decide +kernel) (by decide) rfl rfl dX7_begin_15 ?_
  refine zEV.aload_n dX7_begin_18 rfl 0 rfl ?_
  refine zEV.iconst (v := 0) dX7_begin_19 rfl ?_
  refine zEV.pfi rfl inz7 tyX7 tyX7_ok nmX7 2 (by decide) wf_RX7_73 rfl (by decide +kernel) (by decide) rfl rfl dX7_begin_20 ?_
  cases h
  exact zEV.vret rfl dX7_begin_23
theorem kX7_begin (M : zMM) (q : zMM) (h : fX7_begin M = some q) : zCN yX7_begin iX7_begin [.inr (.inr 158)] M (none, q) :=
  zCN.of (by decide) rfl rfl (Nat.le_of_ble_eq_true rfl) (zEV.perm [0] rfl (tX7_begin_0 M q h))
-- RingedPageModel.here
def fX7_here (M : zMM) : Option (Int32 × zMM) :=
  if (M.1 158 6) ≤ (M.1 158 7) then
    some ((-1), M)
  else
    if oob ((M.1 158 7)) 80 then none else
    some (((M.1 160 (Int32.toNatClampNeg (M.1 158 7))) &&& 255), M)
set_option maxRecDepth 4000 in
theorem tX7_here_0 (M : zMM) (q : Int32 × zMM) (h : fX7_here  M = some q) : zEV iX7_here 0 0 (zZO (some (.inl q.1), q.2)) 0 [(0, .inr (.inr 158))] [] M := by
  unfold fX7_here at h
  refine zEV.aload_n dX7_here_0 rfl 0 rfl ?_
  refine zEV.gfi rfl inz7 7 (by decide) wf_RX7_79 (by decide) rfl rfl dX7_here_1 ?_
  refine zEV.aload_n dX7_here_4 rfl 0 rfl ?_
  refine zEV.gfi rfl inz7 6 (by decide) wf_RX7_76 (by decide) rfl rfl dX7_here_5 ?_
  refine zEV.icmp_ge 27 dX7_here_8 (by decide) (fun c1 => ?_) (fun c1 => ?_)
  · rw [if_pos c1] at h
    refine zEV.iconst (v := (-1)) dX7_here_27 rfl ?_
    cases h
    exact zEV.iret rfl dX7_here_28
  · rw [if_neg c1] at h
    refine zEV.aload_n dX7_here_11 rfl 0 rfl ?_
    refine zEV.gfr rfl inz7 1 (by decide) wf_RX7_13 (by decide) rfl rfl dX7_here_12 ?_
    refine zEV.aload_n dX7_here_15 rfl 0 rfl ?_
    refine zEV.gfi rfl inz7 7 (by decide) wf_RX7_79 (by decide) rfl rfl dX7_here_16 ?_
    obtain ⟨g2, h⟩ := ite_no h
    refine zEV.bald (by decide) rfl g2 dX7_here_19 ?_
    refine zEV.sipush (v := 255) dX7_here_20 rfl ?_
    refine zEV.iand dX7_here_23 ?_
    refine zEV.goto 28 dX7_here_24 (by decide) ?_
    cases h
    exact zEV.iret rfl dX7_here_28
theorem kX7_here (M : zMM) (q : Int32 × zMM) (h : fX7_here M = some q) : zCN yX7_here iX7_here [.inr (.inr 158)] M (some (.inl q.1), q.2) :=
  zCN.of (by decide) rfl rfl (Nat.le_of_ble_eq_true rfl) (zEV.perm [0] rfl (tX7_here_0 M q h))
-- RingedPageModel.fine
def fX7_fine (M : zMM) : Option (Int32 × zMM) :=
  if (M.1 158 8) = (-1) then
    some (1, M)
  else
    some (0, M)
set_option maxRecDepth 4000 in
theorem tX7_fine_0 (M : zMM) (q : Int32 × zMM) (h : fX7_fine  M = some q) : zEV iX7_fine 0 0 (zZO (some (.inl q.1), q.2)) 0 [(0, .inr (.inr 158))] [] M := by
  unfold fX7_fine at h
  refine zEV.aload_n dX7_fine_0 rfl 0 rfl ?_
  refine zEV.gfi rfl inz7 8 (by decide) wf_RX7_82 (by decide) rfl rfl dX7_fine_1 ?_
  refine zEV.iconst (v := (-1)) dX7_fine_4 rfl ?_
  refine zEV.icmp_ne 12 dX7_fine_5 (by decide) (fun c1 => ?_) (fun c1 => ?_)
  · rw [if_neg c1] at h
    refine zEV.iconst (v := 0) dX7_fine_12 rfl ?_
    cases h
    exact zEV.zret rfl (Or.inl rfl) dX7_fine_13
  · rw [if_pos c1] at h
    refine zEV.iconst (v := 1) dX7_fine_8 rfl ?_
    refine zEV.goto 13 dX7_fine_9 (by decide) ?_
    cases h
    exact zEV.zret rfl (Or.inr rfl) dX7_fine_13
theorem kX7_fine (M : zMM) (q : Int32 × zMM) (h : fX7_fine M = some q) : zCN yX7_fine iX7_fine [.inr (.inr 158)] M (some (.inl q.1), q.2) :=
  zCN.of (by decide) rfl rfl (Nat.le_of_ble_eq_true rfl) (zEV.perm [0] rfl (tX7_fine_0 M q h))
-- RingedPageModel.fault
def fX7_fault (a1 : Int32) (M : zMM) : Option (zMM) :=
  (fX7_fine  M).bind fun q1 =>
  if q1.1 = (0 : Int32) then
    some q1.2
  else
    some (wr q1.2 158 8 a1)
set_option maxRecDepth 4000 in
theorem tX7_fault_0 (a1 : Int32) (M : zMM) (q : zMM) (h : fX7_fault a1  M = some q) : zEV iX7_fault 0 0 (zZO (none, q)) 0 [(0, .inr (.inr 158)), (1, .inl a1)] [] M := by
  unfold fX7_fault at h
  refine zEV.aload_n dX7_fault_0 rfl 0 rfl ?_
  obtain ⟨q1, hq1, h⟩ := bind_yes h
  refine zEV.callVi (kX7_fine   M q1 hq1) (by decide) rfl rfl wm_RX7_85 wc_X7_fine hy_X7_fine rfl ⟨Nat.le_of_ble_eq_true rfl, Nat.le_of_ble_eq_true rfl⟩ rfl (Nat.le_of_ble_eq_true rfl) dX7_fault_1 ?_
  refine zEV.if_eq 12 dX7_fault_4 (by decide) (fun c2 => ?_) (fun c2 => ?_)
  · rw [if_pos c2] at h
    cases h
    exact zEV.vret rfl dX7_fault_12
  · rw [if_neg c2] at h
    refine zEV.aload_n dX7_fault_7 rfl 0 rfl ?_
    refine zEV.iload_n dX7_fault_8 rfl 1 rfl ?_
    refine zEV.pfi rfl inz7 tyX7 tyX7_ok nmX7 8 (by decide) wf_RX7_82 rfl (by decide +kernel) (by decide) rfl rfl dX7_fault_9 ?_
    cases h
    exact zEV.vret rfl dX7_fault_12
theorem kX7_fault (a1 : Int32) (M : zMM) (q : zMM) (h : fX7_fault a1 M = some q) : zCN yX7_fault iX7_fault [.inr (.inr 158), .inl a1] M (none, q) :=
  zCN.of (by decide) rfl rfl (Nat.le_of_ble_eq_true rfl) (zEV.perm [0, 1] rfl (tX7_fault_0 a1 M q h))
-- RingedPageModel.oneOf
def fX7_oneOf (a1 : Int32) (a2 : Int32) (M : zMM) : Option (Int32 × zMM) :=
  (fX7_fine  M).bind fun q1 =>
  if q1.1 = (0 : Int32) then
    some (0, q1.2)
  else
    (fX7_here  q1.2).bind fun q3 =>
    (fX7_in (q3.1) (a1) (((a1 + a2) - 1)) q3.2).bind fun q4 =>
    if q4.1 = (0 : Int32) then
      (fX7_fault ((q4.2.1 158 7)) q4.2).bind fun q7 =>
      some (0, q7)
    else
      if oob ((((wr q4.2 158 7 ((q4.2.1 158 7) + 1)).1 158 7) - 1)) 80 then none else
      some ((((wr q4.2 158 7 ((q4.2.1 158 7) + 1)).1 160 (Int32.toNatClampNeg (((wr q4.2 158 7 ((q4.2.1 158 7) + 1)).1 158 7) - 1))) - a1), (wr q4.2 158 7 ((q4.2.1 158 7) + 1)))
set_option maxRecDepth 4000 in
theorem tX7_oneOf_0 (a1 : Int32) (a2 : Int32) (M : zMM) (q : Int32 × zMM) (h : fX7_oneOf a1 a2  M = some q) : zEV iX7_oneOf 0 0 (zZO (some (.inl q.1), q.2)) 0 [(0, .inr (.inr 158)), (1, .inl a1), (2, .inl a2)] [] M := by
  unfold fX7_oneOf at h
  refine zEV.aload_n dX7_oneOf_0 rfl 0 rfl ?_
  obtain ⟨q1, hq1, h⟩ := bind_yes h
  refine zEV.callVi (kX7_fine   M q1 hq1) (by decide) rfl rfl wm_RX7_85 wc_X7_fine hy_X7_fine rfl ⟨Nat.le_of_ble_eq_true rfl, Nat.le_of_ble_eq_true rfl⟩ rfl (Nat.le_of_ble_eq_true rfl) dX7_oneOf_1 ?_
  refine zEV.if_ne 9 dX7_oneOf_4 (by decide) (fun c2 => ?_) (fun c2 => ?_)
  · rw [if_neg c2] at h
    refine zEV.aload_n dX7_oneOf_9 rfl 0 rfl ?_
    obtain ⟨q3, hq3, h⟩ := bind_yes h
    refine zEV.callVi (kX7_here   q1.2 q3 hq3) (by decide) rfl rfl wm_RX7_89 wc_X7_here hy_X7_here rfl ⟨Nat.le_of_ble_eq_true rfl, Nat.le_of_ble_eq_true rfl⟩ rfl (Nat.le_of_ble_eq_true rfl) dX7_oneOf_10 ?_
    refine zEV.iload_n dX7_oneOf_13 rfl 1 rfl ?_
    refine zEV.iload_n dX7_oneOf_14 rfl 1 rfl ?_
    refine zEV.iload_n dX7_oneOf_15 rfl 2 rfl ?_
    refine zEV.iadd dX7_oneOf_16 ?_
    refine zEV.iconst (v := 1) dX7_oneOf_17 rfl ?_
    refine zEV.isub dX7_oneOf_18 ?_
    obtain ⟨q4, hq4, h⟩ := bind_yes h
    refine zEV.callSi (kX7_in (q3.1) (a1) (((a1 + a2) - 1))  q3.2 q4 hq4) wm_RX7_65 wc_X7_in hy_X7_in rfl ⟨Nat.le_of_ble_eq_true rfl, Nat.le_of_ble_eq_true rfl⟩ rfl (Nat.le_of_ble_eq_true rfl) dX7_oneOf_19 ?_
    refine zEV.if_ne 35 dX7_oneOf_22 (by decide) (fun c5 => ?_) (fun c5 => ?_)
    · rw [if_neg c5] at h
      refine zEV.aload_n dX7_oneOf_35 rfl 0 rfl ?_
      refine zEV.dup dX7_oneOf_36 rfl ?_
      refine zEV.gfi rfl inz7 7 (by decide) wf_RX7_79 (by decide) rfl rfl dX7_oneOf_37 ?_
      refine zEV.iconst (v := 1) dX7_oneOf_40 rfl ?_
      refine zEV.iadd dX7_oneOf_41 ?_
      refine zEV.pfi rfl inz7 tyX7 tyX7_ok nmX7 7 (by decide) wf_RX7_79 rfl (by decide +kernel) (by decide) rfl rfl dX7_oneOf_42 ?_
      refine zEV.aload_n dX7_oneOf_45 rfl 0 rfl ?_
      refine zEV.gfr rfl inz7 1 (by decide) wf_RX7_13 (by decide) rfl rfl dX7_oneOf_46 ?_
      refine zEV.aload_n dX7_oneOf_49 rfl 0 rfl ?_
      refine zEV.gfi rfl inz7 7 (by decide) wf_RX7_79 (by decide) rfl rfl dX7_oneOf_50 ?_
      refine zEV.iconst (v := 1) dX7_oneOf_53 rfl ?_
      refine zEV.isub dX7_oneOf_54 ?_
      obtain ⟨g6, h⟩ := ite_no h
      refine zEV.bald (by decide) rfl g6 dX7_oneOf_55 ?_
      refine zEV.iload_n dX7_oneOf_56 rfl 1 rfl ?_
      refine zEV.isub dX7_oneOf_57 ?_
      cases h
      exact zEV.iret rfl dX7_oneOf_58
    · rw [if_pos c5] at h
      refine zEV.aload_n dX7_oneOf_25 rfl 0 rfl ?_
      refine zEV.aload_n dX7_oneOf_26 rfl 0 rfl ?_
      refine zEV.gfi rfl inz7 7 (by decide) wf_RX7_79 (by decide) rfl rfl dX7_oneOf_27 ?_
      obtain ⟨q7, hq7, h⟩ := bind_yes h
      refine zEV.callVv (kX7_fault ((q4.2.1 158 7))  q4.2 q7 hq7) (by decide) rfl rfl wm_RX7_93 wc_X7_fault hy_X7_fault rfl ⟨Nat.le_of_ble_eq_true rfl, Nat.le_of_ble_eq_true rfl⟩ rfl (Nat.le_of_ble_eq_true rfl) dX7_oneOf_30 ?_
      refine zEV.iconst (v := 0) dX7_oneOf_33 rfl ?_
      cases h
      exact zEV.iret rfl dX7_oneOf_34
  · rw [if_pos c2] at h
    refine zEV.iconst (v := 0) dX7_oneOf_7 rfl ?_
    cases h
    exact zEV.iret rfl dX7_oneOf_8
theorem kX7_oneOf (a1 : Int32) (a2 : Int32) (M : zMM) (q : Int32 × zMM) (h : fX7_oneOf a1 a2 M = some q) : zCN yX7_oneOf iX7_oneOf [.inr (.inr 158), .inl a1, .inl a2] M (some (.inl q.1), q.2) :=
  zCN.of (by decide) rfl rfl (Nat.le_of_ble_eq_true rfl) (zEV.perm [0, 1, 2] rfl (tX7_oneOf_0 a1 a2 M q h))
-- RingedPageModel.digits
def fX7_digits_4 (a1 : Int32) : Nat → Int32 → Int32 → zMM → Option (Int32 × zMM)
  | 0, _, _, _ => none
  | n + 1, l2, l3, M =>
  if a1 ≤ l3 then
    some (l2, M)
  else
    (fX7_oneOf (48) (10) M).bind fun q2 =>
    fX7_digits_4 a1 n (((10 * l2) + q2.1)) ((l3 + 1)) q2.2
set_option maxRecDepth 4000 in
theorem tX7_digits_4 (a1 : Int32) : ∀ (n : Nat) (l2 : Int32) (l3 : Int32) (M : zMM) (q : Int32 × zMM), fX7_digits_4 a1 n l2 l3 M = some q → zEV iX7_digits 0 0 (zZO (some (.inl q.1), q.2)) 4 [(0, .inr (.inr 158)), (1, .inl a1), (2, .inl l2), (3, .inl l3)] [] M := by
  intro n
  induction n with
  | zero =>
    intro l2 l3 M q h
    rw [fX7_digits_4] at h
    cases h
  | succ n ih =>
    intro l2 l3 M q h
    rw [fX7_digits_4] at h
    refine zEV.iload_n dX7_digits_4 rfl 3 rfl ?_
    refine zEV.iload_n dX7_digits_5 rfl 1 rfl ?_
    refine zEV.icmp_ge 29 dX7_digits_6 (by decide) (fun c1 => ?_) (fun c1 => ?_)
    · rw [if_pos c1] at h
      refine zEV.iload_n dX7_digits_29 rfl 2 rfl ?_
      cases h
      exact zEV.iret rfl dX7_digits_30
    · rw [if_neg c1] at h
      refine zEV.bipush (v := 10) dX7_digits_9 rfl ?_
      refine zEV.iload_n dX7_digits_11 rfl 2 rfl ?_
      refine zEV.imul dX7_digits_12 ?_
      refine zEV.aload_n dX7_digits_13 rfl 0 rfl ?_
      refine zEV.bipush (v := 48) dX7_digits_14 rfl ?_
      refine zEV.bipush (v := 10) dX7_digits_16 rfl ?_
      obtain ⟨q2, hq2, h⟩ := bind_yes h
      refine zEV.callVi (kX7_oneOf (48) (10)  M q2 hq2) (by decide) rfl rfl wm_RX7_97 wc_X7_oneOf hy_X7_oneOf rfl ⟨Nat.le_of_ble_eq_true rfl, Nat.le_of_ble_eq_true rfl⟩ rfl (Nat.le_of_ble_eq_true rfl) dX7_digits_18 ?_
      refine zEV.iadd dX7_digits_21 ?_
      refine zEV.istore_n dX7_digits_22 rfl (Nat.le_of_ble_eq_true rfl) rfl ?_
      refine zEV.iinc (v := (l3 + 1)) dX7_digits_23 3 rfl rfl (Nat.le_of_ble_eq_true rfl) rfl ?_
      refine zEV.goto 4 dX7_digits_26 (by decide) ?_
      exact zEV.perm [2, 3, 1, 0] rfl (ih (((10 * l2) + q2.1)) ((l3 + 1)) q2.2 q h)
def fX7_digits (a1 : Int32) (M : zMM) : Option (Int32 × zMM) :=
  fX7_digits_4 a1 zFU (0) (0) M
set_option maxRecDepth 4000 in
theorem tX7_digits_0 (a1 : Int32) (M : zMM) (q : Int32 × zMM) (h : fX7_digits a1  M = some q) : zEV iX7_digits 0 0 (zZO (some (.inl q.1), q.2)) 0 [(0, .inr (.inr 158)), (1, .inl a1)] [] M := by
  unfold fX7_digits at h
  refine zEV.iconst (v := 0) dX7_digits_0 rfl ?_
  refine zEV.istore_n dX7_digits_1 rfl (Nat.le_of_ble_eq_true rfl) rfl ?_
  refine zEV.iconst (v := 0) dX7_digits_2 rfl ?_
  refine zEV.istore_n dX7_digits_3 rfl (Nat.le_of_ble_eq_true rfl) rfl ?_
  exact zEV.perm [2, 3, 1, 0] rfl (tX7_digits_4 a1 zFU (0) (0) M q h)
theorem kX7_digits (a1 : Int32) (M : zMM) (q : Int32 × zMM) (h : fX7_digits a1 M = some q) : zCN yX7_digits iX7_digits [.inr (.inr 158), .inl a1] M (some (.inl q.1), q.2) :=
  zCN.of (by decide) rfl rfl (Nat.le_of_ble_eq_true rfl) (zEV.perm [0, 1] rfl (tX7_digits_0 a1 M q h))
-- RingedPageModel.wasRight
def fX7_wasRight_19 (M : zMM) : Option (Int32 × zMM) :=
  (fX7_fine  M).bind fun q1 =>
  if q1.1 = 0 ∨ q1.1 = 1 then some (q1.1, q1.2) else none
set_option maxRecDepth 4000 in
theorem tX7_wasRight_19 (M : zMM) (q : Int32 × zMM) (h : fX7_wasRight_19  M = some q) : zEV iX7_wasRight 0 0 (zZO (some (.inl q.1), q.2)) 19 [(0, .inr (.inr 158))] [] M := by
  unfold fX7_wasRight_19 at h
  refine zEV.aload_n dX7_wasRight_19 rfl 0 rfl ?_
  obtain ⟨q1, hq1, h⟩ := bind_yes h
  refine zEV.callVi (kX7_fine   M q1 hq1) (by decide) rfl rfl wm_RX7_85 wc_X7_fine hy_X7_fine rfl ⟨Nat.le_of_ble_eq_true rfl, Nat.le_of_ble_eq_true rfl⟩ rfl (Nat.le_of_ble_eq_true rfl) dX7_wasRight_20 ?_
  obtain ⟨g2, h⟩ := ite_yes h
  cases h
  exact zEV.zret rfl g2 dX7_wasRight_23
def fX7_wasRight (M : zMM) : Option (Int32 × zMM) :=
  if (M.1 158 6) ≤ (M.1 158 7) then
    fX7_wasRight_19 M
  else
    (fX7_fault ((M.1 158 7)) M).bind fun q2 =>
    fX7_wasRight_19 q2
set_option maxRecDepth 4000 in
theorem tX7_wasRight_0 (M : zMM) (q : Int32 × zMM) (h : fX7_wasRight  M = some q) : zEV iX7_wasRight 0 0 (zZO (some (.inl q.1), q.2)) 0 [(0, .inr (.inr 158))] [] M := by
  unfold fX7_wasRight at h
  refine zEV.aload_n dX7_wasRight_0 rfl 0 rfl ?_
  refine zEV.gfi rfl inz7 7 (by decide) wf_RX7_79 (by decide) rfl rfl dX7_wasRight_1 ?_
  refine zEV.aload_n dX7_wasRight_4 rfl 0 rfl ?_
  refine zEV.gfi rfl inz7 6 (by decide) wf_RX7_76 (by decide) rfl rfl dX7_wasRight_5 ?_
  refine zEV.icmp_ge 19 dX7_wasRight_8 (by decide) (fun c1 => ?_) (fun c1 => ?_)
  · rw [if_pos c1] at h
    exact zEV.perm [0] rfl (tX7_wasRight_19 M q h)
  · rw [if_neg c1] at h
    refine zEV.aload_n dX7_wasRight_11 rfl 0 rfl ?_
    refine zEV.aload_n dX7_wasRight_12 rfl 0 rfl ?_
    refine zEV.gfi rfl inz7 7 (by decide) wf_RX7_79 (by decide) rfl rfl dX7_wasRight_13 ?_
    obtain ⟨q2, hq2, h⟩ := bind_yes h
    refine zEV.callVv (kX7_fault ((M.1 158 7))  M q2 hq2) (by decide) rfl rfl wm_RX7_93 wc_X7_fault hy_X7_fault rfl ⟨Nat.le_of_ble_eq_true rfl, Nat.le_of_ble_eq_true rfl⟩ rfl (Nat.le_of_ble_eq_true rfl) dX7_wasRight_16 ?_
    exact zEV.perm [0] rfl (tX7_wasRight_19 q2 q h)
theorem kX7_wasRight (M : zMM) (q : Int32 × zMM) (h : fX7_wasRight M = some q) : zCN yX7_wasRight iX7_wasRight [.inr (.inr 158)] M (some (.inl q.1), q.2) :=
  zCN.of (by decide) rfl rfl (Nat.le_of_ble_eq_true rfl) (zEV.perm [0] rfl (tX7_wasRight_0 M q h))
-- RingedPageModel.lay
def fX7_lay_2 : Nat → Int32 → zMM → Option (zMM)
  | 0, _, _ => none
  | n + 1, l1, M =>
  if (259 : Int32) ≤ l1 then
    some M
  else
    if oob (l1) 259 then none else
    fX7_lay_2 n ((l1 + 1)) (wr M 171 (Int32.toNatClampNeg l1) (M.1 159 (Int32.toNatClampNeg l1)))
set_option maxRecDepth 4000 in
theorem tX7_lay_2 : ∀ (n : Nat) (l1 : Int32) (M : zMM) (q : zMM), fX7_lay_2 n l1 M = some q → zEV iX7_lay 0 0 (zZO (none, q)) 2 [(0, .inr (.inr 158)), (1, .inl l1)] [] M := by
  intro n
  induction n with
  | zero =>
    intro l1 M q h
    rw [fX7_lay_2] at h
    cases h
  | succ n ih =>
    intro l1 M q h
    rw [fX7_lay_2] at h
    refine zEV.iload_n dX7_lay_2 rfl 1 rfl ?_
    refine zEV.sipush (v := 259) dX7_lay_3 rfl ?_
    refine zEV.icmp_ge 27 dX7_lay_6 (by decide) (fun c1 => ?_) (fun c1 => ?_)
    · rw [if_pos c1] at h
      cases h
      exact zEV.vret rfl dX7_lay_27
    · rw [if_neg c1] at h
      refine zEV.aload_n dX7_lay_9 rfl 0 rfl ?_
      refine zEV.gfr rfl inz7 23 (by decide) wf_RX7_48 (by decide) rfl rfl dX7_lay_10 ?_
      refine zEV.iload_n dX7_lay_13 rfl 1 rfl ?_
      refine zEV.aload_n dX7_lay_14 rfl 0 rfl ?_
      refine zEV.gfr rfl inz7 0 (by decide) wf_RX7_9 (by decide) rfl rfl dX7_lay_15 ?_
      refine zEV.iload_n dX7_lay_18 rfl 1 rfl ?_
      obtain ⟨g2, h⟩ := ite_no h
      refine zEV.iald (by decide) rfl g2 dX7_lay_19 ?_
      refine zEV.iast (by decide) rfl g2 dX7_lay_20 ?_
      refine zEV.iinc (v := (l1 + 1)) dX7_lay_21 1 rfl rfl (Nat.le_of_ble_eq_true rfl) rfl ?_
      refine zEV.goto 2 dX7_lay_24 (by decide) ?_
      exact zEV.perm [1, 0] rfl (ih ((l1 + 1)) (wr M 171 (Int32.toNatClampNeg l1) (M.1 159 (Int32.toNatClampNeg l1))) q h)
def fX7_lay (M : zMM) : Option (zMM) :=
  fX7_lay_2 zFU (0) M
set_option maxRecDepth 4000 in
theorem tX7_lay_0 (M : zMM) (q : zMM) (h : fX7_lay  M = some q) : zEV iX7_lay 0 0 (zZO (none, q)) 0 [(0, .inr (.inr 158))] [] M := by
  unfold fX7_lay at h
  refine zEV.iconst (v := 0) dX7_lay_0 rfl ?_
  refine zEV.istore_n dX7_lay_1 rfl (Nat.le_of_ble_eq_true rfl) rfl ?_
  exact zEV.perm [1, 0] rfl (tX7_lay_2 zFU (0) M q h)
theorem kX7_lay (M : zMM) (q : zMM) (h : fX7_lay M = some q) : zCN yX7_lay iX7_lay [.inr (.inr 158)] M (none, q) :=
  zCN.of (by decide) rfl rfl (Nat.le_of_ble_eq_true rfl) (zEV.perm [0] rfl (tX7_lay_0 M q h))
-- RingedPageModel.note
def fX7_note_52 : Nat → Int32 → zMM → Option (zMM)
  | 0, _, _ => none
  | n + 1, l1, M =>
  if (259 : Int32) ≤ l1 then
    some (wr M 158 24 ((M.1 158 24) + 1))
  else
    if oob (l1) 259 then none else
    if oob (((259 * (M.1 158 24)) + l1)) 1813 then none else
    fX7_note_52 n ((l1 + 1)) (wr M 170 (Int32.toNatClampNeg ((259 * (M.1 158 24)) + l1)) (M.1 171 (Int32.toNatClampNeg l1)))
set_option maxRecDepth 4000 in
theorem tX7_note_52 : ∀ (n : Nat) (l1 : Int32) (M : zMM) (q : zMM), fX7_note_52 n l1 M = some q → zEV iX7_note 0 0 (zZO (none, q)) 52 [(0, .inr (.inr 158)), (1, .inl l1)] [] M := by
  intro n
  induction n with
  | zero =>
    intro l1 M q h
    rw [fX7_note_52] at h
    cases h
  | succ n ih =>
    intro l1 M q h
    rw [fX7_note_52] at h
    refine zEV.iload_n dX7_note_52 rfl 1 rfl ?_
    refine zEV.sipush (v := 259) dX7_note_53 rfl ?_
    refine zEV.icmp_ge 86 dX7_note_56 (by decide) (fun c1 => ?_) (fun c1 => ?_)
    · rw [if_pos c1] at h
      refine zEV.aload_n dX7_note_86 rfl 0 rfl ?_
      refine zEV.dup dX7_note_87 rfl ?_
      refine zEV.gfi rfl inz7 24 (by decide) wf_RX7_276 (by decide) rfl rfl dX7_note_88 ?_
      refine zEV.iconst (v := 1) dX7_note_91 rfl ?_
      refine zEV.iadd dX7_note_92 ?_
      refine zEV.pfi rfl inz7 tyX7 tyX7_ok nmX7 24 (by decide) wf_RX7_276 rfl (by decide +kernel) (by decide) rfl rfl dX7_note_93 ?_
      cases h
      exact zEV.vret rfl dX7_note_96
    · rw [if_neg c1] at h
      refine zEV.aload_n dX7_note_59 rfl 0 rfl ?_
      refine zEV.gfr rfl inz7 22 (by decide) wf_RX7_45 (by decide) rfl rfl dX7_note_60 ?_
      refine zEV.sipush (v := 259) dX7_note_63 rfl ?_
      refine zEV.aload_n dX7_note_66 rfl 0 rfl ?_
      refine zEV.gfi rfl inz7 24 (by decide) wf_RX7_276 (by decide) rfl rfl dX7_note_67 ?_
      refine zEV.imul dX7_note_70 ?_
      refine zEV.iload_n dX7_note_71 rfl 1 rfl ?_
      refine zEV.iadd dX7_note_72 ?_
      refine zEV.aload_n dX7_note_73 rfl 0 rfl ?_
      refine zEV.gfr rfl inz7 23 (by decide) wf_RX7_48 (by decide) rfl rfl dX7_note_74 ?_
      refine zEV.iload_n dX7_note_77 rfl 1 rfl ?_
      obtain ⟨g2, h⟩ := ite_no h
      refine zEV.iald (by decide) rfl g2 dX7_note_78 ?_
      obtain ⟨g3, h⟩ := ite_no h
      refine zEV.iast (by decide) rfl g3 dX7_note_79 ?_
      refine zEV.iinc (v := (l1 + 1)) dX7_note_80 1 rfl rfl (Nat.le_of_ble_eq_true rfl) rfl ?_
      refine zEV.goto 52 dX7_note_83 (by decide) ?_
      exact zEV.perm [1, 0] rfl (ih ((l1 + 1)) (wr M 170 (Int32.toNatClampNeg ((259 * (M.1 158 24)) + l1)) (M.1 171 (Int32.toNatClampNeg l1))) q h)
def fX7_note_50 (M : zMM) : Option (zMM) :=
  fX7_note_52 zFU (0) M
set_option maxRecDepth 4000 in
theorem tX7_note_50 (M : zMM) (q : zMM) (h : fX7_note_50  M = some q) : zEV iX7_note 0 0 (zZO (none, q)) 50 [(0, .inr (.inr 158))] [] M := by
  unfold fX7_note_50 at h
  refine zEV.iconst (v := 0) dX7_note_50 rfl ?_
  refine zEV.istore_n dX7_note_51 rfl (Nat.le_of_ble_eq_true rfl) rfl ?_
  exact zEV.perm [1, 0] rfl (tX7_note_52 zFU (0) M q h)
def fX7_note_11 : Nat → Int32 → zMM → Option (zMM)
  | 0, _, _ => none
  | n + 1, l1, M =>
  if (1554 : Int32) ≤ l1 then
    fX7_note_50 (wr M 158 24 ((M.1 158 24) - 1))
  else
    if oob ((l1 + 259)) 1813 then none else
    if oob (l1) 1813 then none else
    fX7_note_11 n ((l1 + 1)) (wr M 170 (Int32.toNatClampNeg l1) (M.1 170 (Int32.toNatClampNeg (l1 + 259))))
set_option maxRecDepth 4000 in
theorem tX7_note_11 : ∀ (n : Nat) (l1 : Int32) (M : zMM) (q : zMM), fX7_note_11 n l1 M = some q → zEV iX7_note 0 0 (zZO (none, q)) 11 [(0, .inr (.inr 158)), (1, .inl l1)] [] M := by
  intro n
  induction n with
  | zero =>
    intro l1 M q h
    rw [fX7_note_11] at h
    cases h
  | succ n ih =>
    intro l1 M q h
    rw [fX7_note_11] at h
    refine zEV.iload_n dX7_note_11 rfl 1 rfl ?_
    refine zEV.sipush (v := 1554) dX7_note_12 rfl ?_
    refine zEV.icmp_ge 40 dX7_note_15 (by decide) (fun c1 => ?_) (fun c1 => ?_)
    · rw [if_pos c1] at h
      refine zEV.aload_n dX7_note_40 rfl 0 rfl ?_
      refine zEV.dup dX7_note_41 rfl ?_
      refine zEV.gfi rfl inz7 24 (by decide) wf_RX7_276 (by decide) rfl rfl dX7_note_42 ?_
      refine zEV.iconst (v := 1) dX7_note_45 rfl ?_
      refine zEV.isub dX7_note_46 ?_
      refine zEV.pfi rfl inz7 tyX7 tyX7_ok nmX7 24 (by decide) wf_RX7_276 rfl (by decide +kernel) (by decide) rfl rfl dX7_note_47 ?_
      exact zEV.perm [0] rfl (tX7_note_50 (wr M 158 24 ((M.1 158 24) - 1)) q h)
    · rw [if_neg c1] at h
      refine zEV.aload_n dX7_note_18 rfl 0 rfl ?_
      refine zEV.gfr rfl inz7 22 (by decide) wf_RX7_45 (by decide) rfl rfl dX7_note_19 ?_
      refine zEV.iload_n dX7_note_22 rfl 1 rfl ?_
      refine zEV.aload_n dX7_note_23 rfl 0 rfl ?_
      refine zEV.gfr rfl inz7 22 (by decide) wf_RX7_45 (by decide) rfl rfl dX7_note_24 ?_
      refine zEV.iload_n dX7_note_27 rfl 1 rfl ?_
      refine zEV.sipush (v := 259) dX7_note_28 rfl ?_
      refine zEV.iadd dX7_note_31 ?_
      obtain ⟨g2, h⟩ := ite_no h
      refine zEV.iald (by decide) rfl g2 dX7_note_32 ?_
      obtain ⟨g3, h⟩ := ite_no h
      refine zEV.iast (by decide) rfl g3 dX7_note_33 ?_
      refine zEV.iinc (v := (l1 + 1)) dX7_note_34 1 rfl rfl (Nat.le_of_ble_eq_true rfl) rfl ?_
      refine zEV.goto 11 dX7_note_37 (by decide) ?_
      exact zEV.perm [1, 0] rfl (ih ((l1 + 1)) (wr M 170 (Int32.toNatClampNeg l1) (M.1 170 (Int32.toNatClampNeg (l1 + 259)))) q h)
def fX7_note (M : zMM) : Option (zMM) :=
  if (M.1 158 24) = 7 then
    fX7_note_11 zFU (0) M
  else
    fX7_note_50 M
set_option maxRecDepth 4000 in
theorem tX7_note_0 (M : zMM) (q : zMM) (h : fX7_note  M = some q) : zEV iX7_note 0 0 (zZO (none, q)) 0 [(0, .inr (.inr 158))] [] M := by
  unfold fX7_note at h
  refine zEV.aload_n dX7_note_0 rfl 0 rfl ?_
  refine zEV.gfi rfl inz7 24 (by decide) wf_RX7_276 (by decide) rfl rfl dX7_note_1 ?_
  refine zEV.bipush (v := 7) dX7_note_4 rfl ?_
  refine zEV.icmp_ne 50 dX7_note_6 (by decide) (fun c1 => ?_) (fun c1 => ?_)
  · rw [if_neg c1] at h
    exact zEV.perm [0] rfl (tX7_note_50 M q h)
  · rw [if_pos c1] at h
    refine zEV.iconst (v := 0) dX7_note_9 rfl ?_
    refine zEV.istore_n dX7_note_10 rfl (Nat.le_of_ble_eq_true rfl) rfl ?_
    exact zEV.perm [1, 0] rfl (tX7_note_11 zFU (0) M q h)
theorem kX7_note (M : zMM) (q : zMM) (h : fX7_note M = some q) : zCN yX7_note iX7_note [.inr (.inr 158)] M (none, q) :=
  zCN.of (by decide) rfl rfl (Nat.le_of_ble_eq_true rfl) (zEV.perm [0] rfl (tX7_note_0 M q h))
-- RingedPageModel.change
def fX7_change (M : zMM) : Option (zMM) :=
  (fX7_lay  M).bind fun q1 =>
  (fX7_note  q1).bind fun q2 =>
  some q2
set_option maxRecDepth 4000 in
theorem tX7_change_0 (M : zMM) (q : zMM) (h : fX7_change  M = some q) : zEV iX7_change 0 0 (zZO (none, q)) 0 [(0, .inr (.inr 158))] [] M := by
  unfold fX7_change at h
  refine zEV.aload_n dX7_change_0 rfl 0 rfl ?_
  obtain ⟨q1, hq1, h⟩ := bind_yes h
  refine zEV.callVv (kX7_lay   M q1 hq1) (by decide) rfl rfl wm_RX7_279 wc_X7_lay hy_X7_lay rfl ⟨Nat.le_of_ble_eq_true rfl, Nat.le_of_ble_eq_true rfl⟩ rfl (Nat.le_of_ble_eq_true rfl) dX7_change_1 ?_
  refine zEV.aload_n dX7_change_4 rfl 0 rfl ?_
  obtain ⟨q2, hq2, h⟩ := bind_yes h
  refine zEV.callVv (kX7_note   q1 q2 hq2) (by decide) rfl rfl wm_RX7_282 wc_X7_note hy_X7_note rfl ⟨Nat.le_of_ble_eq_true rfl, Nat.le_of_ble_eq_true rfl⟩ rfl (Nat.le_of_ble_eq_true rfl) dX7_change_5 ?_
  cases h
  exact zEV.vret rfl dX7_change_8
theorem kX7_change (M : zMM) (q : zMM) (h : fX7_change M = some q) : zCN yX7_change iX7_change [.inr (.inr 158)] M (none, q) :=
  zCN.of (by decide) rfl rfl (Nat.le_of_ble_eq_true rfl) (zEV.perm [0] rfl (tX7_change_0 M q h))
-- RingedPageModel.untie
def fX7_untie_60 (a1 : Int32) : Nat → Int32 → zMM → Option (zMM)
  | 0, _, _ => none
  | n + 1, l2, M =>
  if (3 : Int32) ≤ l2 then
    some M
  else
    if oob (218) 259 then none else
    if oob (((219 + (3 * (M.1 159 (Int32.toNatClampNeg 218)))) + l2)) 259 then none else
    fX7_untie_60 a1 n ((l2 + 1)) (wr M 159 (Int32.toNatClampNeg ((219 + (3 * (M.1 159 (Int32.toNatClampNeg 218)))) + l2)) 0)
set_option maxRecDepth 4000 in
theorem tX7_untie_60 (a1 : Int32) : ∀ (n : Nat) (l2 : Int32) (M : zMM) (q : zMM), fX7_untie_60 a1 n l2 M = some q → zEV iX7_untie 0 0 (zZO (none, q)) 60 [(0, .inr (.inr 158)), (2, .inl l2)] [] M := by
  intro n
  induction n with
  | zero =>
    intro l2 M q h
    rw [fX7_untie_60] at h
    cases h
  | succ n ih =>
    intro l2 M q h
    rw [fX7_untie_60] at h
    refine zEV.iload_n dX7_untie_60 rfl 1 rfl ?_
    refine zEV.iconst (v := 3) dX7_untie_61 rfl ?_
    refine zEV.icmp_ge 93 dX7_untie_62 (by decide) (fun c1 => ?_) (fun c1 => ?_)
    · rw [if_pos c1] at h
      cases h
      exact zEV.vret rfl dX7_untie_93
    · rw [if_neg c1] at h
      refine zEV.aload_n dX7_untie_65 rfl 0 rfl ?_
      refine zEV.gfr rfl inz7 0 (by decide) wf_RX7_9 (by decide) rfl rfl dX7_untie_66 ?_
      refine zEV.sipush (v := 219) dX7_untie_69 rfl ?_
      refine zEV.iconst (v := 3) dX7_untie_72 rfl ?_
      refine zEV.aload_n dX7_untie_73 rfl 0 rfl ?_
      refine zEV.gfr rfl inz7 0 (by decide) wf_RX7_9 (by decide) rfl rfl dX7_untie_74 ?_
      refine zEV.sipush (v := 218) dX7_untie_77 rfl ?_
      obtain ⟨g2, h⟩ := ite_no h
      refine zEV.iald (by decide) rfl g2 dX7_untie_80 ?_
      refine zEV.imul dX7_untie_81 ?_
      refine zEV.iadd dX7_untie_82 ?_
      refine zEV.iload_n dX7_untie_83 rfl 1 rfl ?_
      refine zEV.iadd dX7_untie_84 ?_
      refine zEV.iconst (v := 0) dX7_untie_85 rfl ?_
      obtain ⟨g3, h⟩ := ite_no h
      refine zEV.iast (by decide) rfl g3 dX7_untie_86 ?_
      refine zEV.iinc (v := (l2 + 1)) dX7_untie_87 1 rfl rfl (Nat.le_of_ble_eq_true rfl) rfl ?_
      refine zEV.goto 60 dX7_untie_90 (by decide) ?_
      exact zEV.perm [1, 0] rfl (ih ((l2 + 1)) (wr M 159 (Int32.toNatClampNeg ((219 + (3 * (M.1 159 (Int32.toNatClampNeg 218)))) + l2)) 0) q h)
def fX7_untie_20 (a1 : Int32) : Nat → Int32 → zMM → Option (zMM)
  | 0, _, _ => none
  | n + 1, l2, M =>
  if oob (218) 259 then none else
  if (219 + (3 * (M.1 159 (Int32.toNatClampNeg 218)))) ≤ l2 then
    fX7_untie_60 a1 zFU (0) M
  else
    if oob ((l2 + 3)) 259 then none else
    if oob (l2) 259 then none else
    fX7_untie_20 a1 n ((l2 + 1)) (wr M 159 (Int32.toNatClampNeg l2) (M.1 159 (Int32.toNatClampNeg (l2 + 3))))
set_option maxRecDepth 4000 in
theorem tX7_untie_20 (a1 : Int32) : ∀ (n : Nat) (l2 : Int32) (M : zMM) (q : zMM), fX7_untie_20 a1 n l2 M = some q → zEV iX7_untie 0 0 (zZO (none, q)) 20 [(0, .inr (.inr 158)), (2, .inl l2)] [] M := by
  intro n
  induction n with
  | zero =>
    intro l2 M q h
    rw [fX7_untie_20] at h
    cases h
  | succ n ih =>
    intro l2 M q h
    rw [fX7_untie_20] at h
    refine zEV.iload_n dX7_untie_20 rfl 1 rfl ?_
    refine zEV.sipush (v := 219) dX7_untie_21 rfl ?_
    refine zEV.iconst (v := 3) dX7_untie_24 rfl ?_
    refine zEV.aload_n dX7_untie_25 rfl 0 rfl ?_
    refine zEV.gfr rfl inz7 0 (by decide) wf_RX7_9 (by decide) rfl rfl dX7_untie_26 ?_
    refine zEV.sipush (v := 218) dX7_untie_29 rfl ?_
    obtain ⟨g1, h⟩ := ite_no h
    refine zEV.iald (by decide) rfl g1 dX7_untie_32 ?_
    refine zEV.imul dX7_untie_33 ?_
    refine zEV.iadd dX7_untie_34 ?_
    refine zEV.icmp_ge 58 dX7_untie_35 (by decide) (fun c2 => ?_) (fun c2 => ?_)
    · rw [if_pos c2] at h
      refine zEV.iconst (v := 0) dX7_untie_58 rfl ?_
      refine zEV.istore_n dX7_untie_59 rfl (Nat.le_of_ble_eq_true rfl) rfl ?_
      exact zEV.perm [1, 0] rfl (tX7_untie_60 a1 zFU (0) M q h)
    · rw [if_neg c2] at h
      refine zEV.aload_n dX7_untie_38 rfl 0 rfl ?_
      refine zEV.gfr rfl inz7 0 (by decide) wf_RX7_9 (by decide) rfl rfl dX7_untie_39 ?_
      refine zEV.iload_n dX7_untie_42 rfl 1 rfl ?_
      refine zEV.aload_n dX7_untie_43 rfl 0 rfl ?_
      refine zEV.gfr rfl inz7 0 (by decide) wf_RX7_9 (by decide) rfl rfl dX7_untie_44 ?_
      refine zEV.iload_n dX7_untie_47 rfl 1 rfl ?_
      refine zEV.iconst (v := 3) dX7_untie_48 rfl ?_
      refine zEV.iadd dX7_untie_49 ?_
      obtain ⟨g3, h⟩ := ite_no h
      refine zEV.iald (by decide) rfl g3 dX7_untie_50 ?_
      obtain ⟨g4, h⟩ := ite_no h
      refine zEV.iast (by decide) rfl g4 dX7_untie_51 ?_
      refine zEV.iinc (v := (l2 + 1)) dX7_untie_52 1 rfl rfl (Nat.le_of_ble_eq_true rfl) rfl ?_
      refine zEV.goto 20 dX7_untie_55 (by decide) ?_
      exact zEV.perm [1, 0] rfl (ih ((l2 + 1)) (wr M 159 (Int32.toNatClampNeg l2) (M.1 159 (Int32.toNatClampNeg (l2 + 3)))) q h)
def fX7_untie (a1 : Int32) (M : zMM) : Option (zMM) :=
  if oob (218) 259 then none else
  fX7_untie_20 a1 zFU ((219 + (3 * a1))) (wr M 159 (Int32.toNatClampNeg 218) ((M.1 159 (Int32.toNatClampNeg 218)) - 1))
set_option maxRecDepth 4000 in
theorem tX7_untie_0 (a1 : Int32) (M : zMM) (q : zMM) (h : fX7_untie a1  M = some q) : zEV iX7_untie 0 0 (zZO (none, q)) 0 [(0, .inr (.inr 158)), (1, .inl a1)] [] M := by
  unfold fX7_untie at h
  refine zEV.aload_n dX7_untie_0 rfl 0 rfl ?_
  refine zEV.gfr rfl inz7 0 (by decide) wf_RX7_9 (by decide) rfl rfl dX7_untie_1 ?_
  refine zEV.sipush (v := 218) dX7_untie_4 rfl ?_
  refine zEV.dup2 dX7_untie_7 rfl rfl ?_
  obtain ⟨g1, h⟩ := ite_no h
  refine zEV.iald (by decide) rfl g1 dX7_untie_8 ?_
  refine zEV.iconst (v := 1) dX7_untie_9 rfl ?_
  refine zEV.isub dX7_untie_10 ?_
  refine zEV.iast (by decide) rfl g1 dX7_untie_11 ?_
  refine zEV.sipush (v := 219) dX7_untie_12 rfl ?_
  refine zEV.iconst (v := 3) dX7_untie_15 rfl ?_
  refine zEV.iload_n dX7_untie_16 rfl 1 rfl ?_
  refine zEV.imul dX7_untie_17 ?_
  refine zEV.iadd dX7_untie_18 ?_
  refine zEV.istore_n dX7_untie_19 rfl (Nat.le_of_ble_eq_true rfl) rfl ?_
  exact zEV.perm [1, 0] rfl (tX7_untie_20 a1 zFU ((219 + (3 * a1))) (wr M 159 (Int32.toNatClampNeg 218) ((M.1 159 (Int32.toNatClampNeg 218)) - 1)) q h)
theorem kX7_untie (a1 : Int32) (M : zMM) (q : zMM) (h : fX7_untie a1 M = some q) : zCN yX7_untie iX7_untie [.inr (.inr 158), .inl a1] M (none, q) :=
  zCN.of (by decide) rfl rfl (Nat.le_of_ble_eq_true rfl) (zEV.perm [0, 1] rfl (tX7_untie_0 a1 M q h))
