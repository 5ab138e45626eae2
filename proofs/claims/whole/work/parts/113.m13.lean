-- RingedPageModel.goes
def fX7_goes (a1 : Int32) (a2 : Int32) (M : zMM) : Option (Int32 × zMM) :=
  (fX7_isWord (a1) (a2) (wr M 158 5 0)).bind fun q1 =>
  if q1.1 = (0 : Int32) then
    some ((-1), q1.2)
  else
    (fX7_change  q1.2).bind fun q3 =>
    (fX7_drop (a1) (a2) q3).bind fun q4 =>
    if oob ((5 + a1)) 259 then none else
    some ((q4.1 159 (Int32.toNatClampNeg (5 + a1))), q4)
set_option maxRecDepth 100000 in
theorem tX7_goes_0 (a1 : Int32) (a2 : Int32) (M : zMM) (q : Int32 × zMM) (h : fX7_goes a1 a2  M = some q) : zEV iX7_goes 0 0 (zZO (some (.inl q.1), q.2)) 0 [(0, .inr (.inr 158)), (1, .inl a1), (2, .inl a2)] [] M := by
  unfold fX7_goes at h
  refine zEV.aload_n dX7_goes_0 rfl 0 rfl ?_
  refine zEV.iconst (v := 0) dX7_goes_1 rfl ?_
  refine zEV.pfi rfl inz7 tyX7 tyX7_ok nmX7 5 (by decide) wf_RX7_58 rfl (by decide +kernel) (by decide) rfl rfl dX7_goes_2 ?_
  refine zEV.aload_n dX7_goes_5 rfl 0 rfl ?_
  refine zEV.iload_n dX7_goes_6 rfl 1 rfl ?_
  refine zEV.iload_n dX7_goes_7 rfl 2 rfl ?_
  obtain ⟨q1, hq1, h⟩ := bind_yes h
  refine zEV.callVi (kX7_isWord (a1) (a2)  (wr M 158 5 0) q1 hq1) (by decide) rfl rfl wm_RX7_121 wc_X7_isWord hy_X7_isWord rfl ⟨Nat.le_of_ble_eq_true rfl, Nat.le_of_ble_eq_true rfl⟩ rfl (Nat.le_of_ble_eq_true rfl) dX7_goes_8 ?_
  refine zEV.if_ne 16 dX7_goes_11 (by decide) (fun c2 => ?_) (fun c2 => ?_)
  · rw [if_neg c2] at h
    refine zEV.aload_n dX7_goes_16 rfl 0 rfl ?_
    obtain ⟨q3, hq3, h⟩ := bind_yes h
    refine zEV.callVv (kX7_change   q1.2 q3 hq3) (by decide) rfl rfl wm_RX7_107 wc_X7_change hy_X7_change rfl ⟨Nat.le_of_ble_eq_true rfl, Nat.le_of_ble_eq_true rfl⟩ rfl (Nat.le_of_ble_eq_true rfl) dX7_goes_17 ?_
    refine zEV.aload_n dX7_goes_20 rfl 0 rfl ?_
    refine zEV.iload_n dX7_goes_21 rfl 1 rfl ?_
    refine zEV.iload_n dX7_goes_22 rfl 2 rfl ?_
    obtain ⟨q4, hq4, h⟩ := bind_yes h
    refine zEV.callVv (kX7_drop (a1) (a2)  q3 q4 hq4) (by decide) rfl rfl wm_RX7_273 wc_X7_drop hy_X7_drop rfl ⟨Nat.le_of_ble_eq_true rfl, Nat.le_of_ble_eq_true rfl⟩ rfl (Nat.le_of_ble_eq_true rfl) dX7_goes_23 ?_
    refine zEV.aload_n dX7_goes_26 rfl 0 rfl ?_
    refine zEV.gfr rfl inz7 0 (by decide) wf_RX7_9 (by decide) rfl rfl dX7_goes_27 ?_
    refine zEV.iconst (v := 5) dX7_goes_30 rfl ?_
    refine zEV.iload_n dX7_goes_31 rfl 1 rfl ?_
    refine zEV.iadd dX7_goes_32 ?_
    obtain ⟨g5, h⟩ := ite_no h
    refine zEV.iald (by decide) rfl g5 dX7_goes_33 ?_
    have h := Option.some.inj h
    subst h
    exact zEV.iret rfl dX7_goes_34
  · rw [if_pos c2] at h
    refine zEV.iconst (v := (-1)) dX7_goes_14 rfl ?_
    have h := Option.some.inj h
    subst h
    exact zEV.iret rfl dX7_goes_15
theorem kX7_goes (a1 : Int32) (a2 : Int32) (M : zMM) (q : Int32 × zMM) (h : fX7_goes a1 a2 M = some q) : zCN yX7_goes iX7_goes [.inr (.inr 158), .inl a1, .inl a2] M (some (.inl q.1), q.2) :=
  zCN.of (by decide) rfl rfl (Nat.le_of_ble_eq_true rfl) (zEV.perm [0, 1, 2] rfl (tX7_goes_0 a1 a2 M q h))
-- java/lang/String.isLatin1
def fJ0_isLatin1_aae02 (M : zMM) : Option (Int32 × zMM) :=
  if (1 : Int32) = (0 : Int32) then
    some (0, M)
  else
    if (0 : Int32) = (0 : Int32) then
      some (1, M)
    else
      some (0, M)
set_option maxRecDepth 100000 in
theorem tJ0_isLatin1_aae02_0 (M : zMM) (q : Int32 × zMM) (h : fJ0_isLatin1_aae02  M = some q) : zEV iJ0_isLatin1_aae02 0 0 (zZO (some (.inl q.1), q.2)) 0 [(0, .inr (.inr 2001))] [] M := by
  unfold fJ0_isLatin1_aae02 at h
  refine zEV.gSk wf_RJ0_38 dJ0_isLatin1_aae02_0 ?_
  refine zEV.if_eq 17 dJ0_isLatin1_aae02_3 (by decide) (fun c1 => ?_) (fun c1 => ?_)
  · rw [if_pos c1] at h
    refine zEV.iconst (v := 0) dJ0_isLatin1_aae02_17 rfl ?_
    have h := Option.some.inj h
    subst h
    exact zEV.zret rfl (Or.inl rfl) dJ0_isLatin1_aae02_18
  · rw [if_neg c1] at h
    refine zEV.aload_n dJ0_isLatin1_aae02_6 rfl 0 rfl ?_
    refine zEV.gSc wf_RJ0_15 dJ0_isLatin1_aae02_7 ?_
    refine zEV.if_ne 17 dJ0_isLatin1_aae02_10 (by decide) (fun c2 => ?_) (fun c2 => ?_)
    · rw [if_neg c2] at h
      refine zEV.iconst (v := 0) dJ0_isLatin1_aae02_17 rfl ?_
      have h := Option.some.inj h
      subst h
      exact zEV.zret rfl (Or.inl rfl) dJ0_isLatin1_aae02_18
    · rw [if_pos c2] at h
      refine zEV.iconst (v := 1) dJ0_isLatin1_aae02_13 rfl ?_
      refine zEV.goto 18 dJ0_isLatin1_aae02_14 (by decide) ?_
      have h := Option.some.inj h
      subst h
      exact zEV.zret rfl (Or.inr rfl) dJ0_isLatin1_aae02_18
theorem kJ0_isLatin1_aae02 (M : zMM) (q : Int32 × zMM) (h : fJ0_isLatin1_aae02 M = some q) : zCN yJ0_isLatin1_aae02 iJ0_isLatin1_aae02 [.inr (.inr 2001)] M (some (.inl q.1), q.2) :=
  zCN.of (by decide) rfl rfl (Nat.le_of_ble_eq_true rfl) (zEV.perm [0] rfl (tJ0_isLatin1_aae02_0 M q h))
-- java/lang/String.coder
def fJ0_coder_7d493 (M : zMM) : Option (Int32 × zMM) :=
  if (1 : Int32) = (0 : Int32) then
    some (1, M)
  else
    some (0, M)
set_option maxRecDepth 100000 in
theorem tJ0_coder_7d493_0 (M : zMM) (q : Int32 × zMM) (h : fJ0_coder_7d493  M = some q) : zEV iJ0_coder_7d493 0 0 (zZO (some (.inl q.1), q.2)) 0 [(0, .inr (.inr 2001))] [] M := by
  unfold fJ0_coder_7d493 at h
  refine zEV.gSk wf_RJ0_38 dJ0_coder_7d493_0 ?_
  refine zEV.if_eq 13 dJ0_coder_7d493_3 (by decide) (fun c1 => ?_) (fun c1 => ?_)
  · rw [if_pos c1] at h
    refine zEV.iconst (v := 1) dJ0_coder_7d493_13 rfl ?_
    have h := Option.some.inj h
    subst h
    exact zEV.bret rfl rfl dJ0_coder_7d493_14
  · rw [if_neg c1] at h
    refine zEV.aload_n dJ0_coder_7d493_6 rfl 0 rfl ?_
    refine zEV.gSc wf_RJ0_15 dJ0_coder_7d493_7 ?_
    refine zEV.goto 14 dJ0_coder_7d493_10 (by decide) ?_
    have h := Option.some.inj h
    subst h
    exact zEV.bret rfl rfl dJ0_coder_7d493_14
theorem kJ0_coder_7d493 (M : zMM) (q : Int32 × zMM) (h : fJ0_coder_7d493 M = some q) : zCN yJ0_coder_7d493 iJ0_coder_7d493 [.inr (.inr 2001)] M (some (.inl q.1), q.2) :=
  zCN.of (by decide) rfl rfl (Nat.le_of_ble_eq_true rfl) (zEV.perm [0] rfl (tJ0_coder_7d493_0 M q h))
-- java/lang/String.length
def fJ0_length_8abf5 (M : zMM) : Option (Int32 × zMM) :=
  (fJ0_coder_7d493  M).bind fun q1 =>
  some ((8 >>> (q1.1 &&& 31)), q1.2)
set_option maxRecDepth 100000 in
theorem tJ0_length_8abf5_0 (M : zMM) (q : Int32 × zMM) (h : fJ0_length_8abf5  M = some q) : zEV iJ0_length_8abf5 0 0 (zZO (some (.inl q.1), q.2)) 0 [(0, .inr (.inr 2001))] [] M := by
  unfold fJ0_length_8abf5 at h
  refine zEV.aload_n dJ0_length_8abf5_0 rfl 0 rfl ?_
  refine zEV.gSv wf_RJ0_9 dJ0_length_8abf5_1 ?_
  refine zEV.Slen dJ0_length_8abf5_4 ?_
  refine zEV.aload_n dJ0_length_8abf5_5 rfl 0 rfl ?_
  obtain ⟨q1, hq1, h⟩ := bind_yes h
  refine zEV.callVS (kJ0_coder_7d493   M q1 hq1) wm_RJ0_335 wc_J0_coder_7d493 hy_J0_coder_7d493 rfl ⟨Nat.le_of_ble_eq_true rfl, Nat.le_of_ble_eq_true rfl⟩ rfl (Nat.le_of_ble_eq_true rfl) dJ0_length_8abf5_6 ?_
  refine zEV.ishr dJ0_length_8abf5_9 ?_
  have h := Option.some.inj h
  subst h
  exact zEV.iret rfl dJ0_length_8abf5_10
theorem kJ0_length_8abf5 (M : zMM) (q : Int32 × zMM) (h : fJ0_length_8abf5 M = some q) : zCN yJ0_length_8abf5 iJ0_length_8abf5 [.inr (.inr 2001)] M (some (.inl q.1), q.2) :=
  zCN.of (by decide) rfl rfl (Nat.le_of_ble_eq_true rfl) (zEV.perm [0] rfl (tJ0_length_8abf5_0 M q h))
-- java/lang/StringLatin1.canEncode
def fJ1_canEncode_9a6ad (a0 : Int32) (M : zMM) : Option (Int32 × zMM) :=
  if a0 < (0 : Int32) then
    some (0, M)
  else
    if (255 : Int32) < a0 then
      some (0, M)
    else
      some (1, M)
set_option maxRecDepth 100000 in
theorem tJ1_canEncode_9a6ad_0 (a0 : Int32) (M : zMM) (q : Int32 × zMM) (h : fJ1_canEncode_9a6ad a0  M = some q) : zEV iJ1_canEncode_9a6ad 0 0 (zZO (some (.inl q.1), q.2)) 0 [(0, .inl a0)] [] M := by
  unfold fJ1_canEncode_9a6ad at h
  refine zEV.iload_n dJ1_canEncode_9a6ad_0 rfl 0 rfl ?_
  refine zEV.if_lt 15 dJ1_canEncode_9a6ad_1 (by decide) (fun c1 => ?_) (fun c1 => ?_)
  · rw [if_pos c1] at h
    refine zEV.iconst (v := 0) dJ1_canEncode_9a6ad_15 rfl ?_
    have h := Option.some.inj h
    subst h
    exact zEV.zret rfl (Or.inl rfl) dJ1_canEncode_9a6ad_16
  · rw [if_neg c1] at h
    refine zEV.iload_n dJ1_canEncode_9a6ad_4 rfl 0 rfl ?_
    refine zEV.sipush (v := 255) dJ1_canEncode_9a6ad_5 rfl ?_
    refine zEV.icmp_gt 15 dJ1_canEncode_9a6ad_8 (by decide) (fun c2 => ?_) (fun c2 => ?_)
    · rw [if_pos c2] at h
      refine zEV.iconst (v := 0) dJ1_canEncode_9a6ad_15 rfl ?_
      have h := Option.some.inj h
      subst h
      exact zEV.zret rfl (Or.inl rfl) dJ1_canEncode_9a6ad_16
    · rw [if_neg c2] at h
      refine zEV.iconst (v := 1) dJ1_canEncode_9a6ad_11 rfl ?_
      refine zEV.goto 16 dJ1_canEncode_9a6ad_12 (by decide) ?_
      have h := Option.some.inj h
      subst h
      exact zEV.zret rfl (Or.inr rfl) dJ1_canEncode_9a6ad_16
theorem kJ1_canEncode_9a6ad (a0 : Int32) (M : zMM) (q : Int32 × zMM) (h : fJ1_canEncode_9a6ad a0 M = some q) : zCN yJ1_canEncode_9a6ad iJ1_canEncode_9a6ad [.inl a0] M (some (.inl q.1), q.2) :=
  zCN.of (by decide) rfl rfl (Nat.le_of_ble_eq_true rfl) (zEV.perm [0] rfl (tJ1_canEncode_9a6ad_0 a0 M q h))
-- java/lang/StringLatin1.indexOfChar
def fJ1_indexOfChar_4cfef_7 (a1 : Int32) (a2 : Int32) (a3 : Int32) : Nat → Int32 → Int32 → zMM → Option (Int32 × zMM)
  | 0, _, _, _ => none
  | n + 1, l4, l5, M =>
  if a3 ≤ l5 then
    some ((-1), M)
  else
    if oob (l5) 8 then none else
    if (zsb (Int32.toNatClampNeg l5)) = l4 then
      some (l5, M)
    else
      fJ1_indexOfChar_4cfef_7 a1 a2 a3 n (l4) ((l5 + 1)) M
set_option maxRecDepth 100000 in
theorem tJ1_indexOfChar_4cfef_7 (a1 : Int32) (a2 : Int32) (a3 : Int32) : ∀ (n : Nat) (l4 : Int32) (l5 : Int32) (M : zMM) (q : Int32 × zMM), fJ1_indexOfChar_4cfef_7 a1 a2 a3 n l4 l5 M = some q → zEV iJ1_indexOfChar_4cfef 0 0 (zZO (some (.inl q.1), q.2)) 7 [(0, .inr (.inr 2002)), (3, .inl a3), (4, .inl l4), (5, .inl l5)] [] M := by
  intro n
  induction n with
  | zero =>
    intro l4 l5 M q h
    rw [fJ1_indexOfChar_4cfef_7] at h
    cases h
  | succ n ih =>
    intro l4 l5 M q h
    rw [fJ1_indexOfChar_4cfef_7] at h
    refine zEV.iload dJ1_indexOfChar_4cfef_7 3 rfl ?_
    refine zEV.iload_n dJ1_indexOfChar_4cfef_9 rfl 1 rfl ?_
    refine zEV.icmp_ge 31 dJ1_indexOfChar_4cfef_10 (by decide) (fun c1 => ?_) (fun c1 => ?_)
    · rw [if_pos c1] at h
      refine zEV.iconst (v := (-1)) dJ1_indexOfChar_4cfef_31 rfl ?_
      have h := Option.some.inj h
      subst h
      exact zEV.iret rfl dJ1_indexOfChar_4cfef_32
    · rw [if_neg c1] at h
      refine zEV.aload_n dJ1_indexOfChar_4cfef_13 rfl 0 rfl ?_
      refine zEV.iload dJ1_indexOfChar_4cfef_14 3 rfl ?_
      obtain ⟨g2, h⟩ := ite_no h
      refine zEV.Sbald g2 dJ1_indexOfChar_4cfef_16 ?_
      refine zEV.iload dJ1_indexOfChar_4cfef_17 2 rfl ?_
      refine zEV.icmp_ne 25 dJ1_indexOfChar_4cfef_19 (by decide) (fun c3 => ?_) (fun c3 => ?_)
      · rw [if_neg c3] at h
        refine zEV.iinc (v := (l5 + 1)) dJ1_indexOfChar_4cfef_25 3 rfl rfl (Nat.le_of_ble_eq_true rfl) rfl ?_
        refine zEV.goto 7 dJ1_indexOfChar_4cfef_28 (by decide) ?_
        exact zEV.perm [1, 2, 3, 0] rfl (ih (l4) ((l5 + 1)) M q h)
      · rw [if_pos c3] at h
        refine zEV.iload dJ1_indexOfChar_4cfef_22 3 rfl ?_
        have h := Option.some.inj h
        subst h
        exact zEV.iret rfl dJ1_indexOfChar_4cfef_24
def fJ1_indexOfChar_4cfef (a1 : Int32) (a2 : Int32) (a3 : Int32) (M : zMM) : Option (Int32 × zMM) :=
  fJ1_indexOfChar_4cfef_7 a1 a2 a3 zFU ((Int32.toInt8 a1).toInt32) (a2) M
set_option maxRecDepth 100000 in
theorem tJ1_indexOfChar_4cfef_0 (a1 : Int32) (a2 : Int32) (a3 : Int32) (M : zMM) (q : Int32 × zMM) (h : fJ1_indexOfChar_4cfef a1 a2 a3  M = some q) : zEV iJ1_indexOfChar_4cfef 0 0 (zZO (some (.inl q.1), q.2)) 0 [(0, .inr (.inr 2002)), (1, .inl a1), (2, .inl a2), (3, .inl a3)] [] M := by
  unfold fJ1_indexOfChar_4cfef at h
  refine zEV.iload_n dJ1_indexOfChar_4cfef_0 rfl 1 rfl ?_
  refine zEV.i2b dJ1_indexOfChar_4cfef_1 ?_
  refine zEV.istore dJ1_indexOfChar_4cfef_2 (Nat.le_of_ble_eq_true rfl) rfl ?_
  refine zEV.iload_n dJ1_indexOfChar_4cfef_4 rfl 3 rfl ?_
  refine zEV.istore dJ1_indexOfChar_4cfef_5 (Nat.le_of_ble_eq_true rfl) rfl ?_
  exact zEV.perm [2, 5, 1, 0] rfl (tJ1_indexOfChar_4cfef_7 a1 a2 a3 zFU ((Int32.toInt8 a1).toInt32) (a2) M q h)
theorem kJ1_indexOfChar_4cfef (a1 : Int32) (a2 : Int32) (a3 : Int32) (M : zMM) (q : Int32 × zMM) (h : fJ1_indexOfChar_4cfef a1 a2 a3 M = some q) : zCN yJ1_indexOfChar_4cfef iJ1_indexOfChar_4cfef [.inr (.inr 2002), .inl a1, .inl a2, .inl a3] M (some (.inl q.1), q.2) :=
  zCN.of (by decide) rfl rfl (Nat.le_of_ble_eq_true rfl) (zEV.perm [0, 1, 2, 3] rfl (tJ1_indexOfChar_4cfef_0 a1 a2 a3 M q h))
-- java/lang/StringLatin1.indexOf
def fJ1_indexOf_4cfef_0 (a1 : Int32) (a2 : Int32) (a3 : Int32) (l2 : Int32) (l3 : Int32) (M : zMM) : Option (Int32 × zMM) :=
  (fJ1_canEncode_9a6ad (a1) M).bind fun q1 =>
  if q1.1 = (0 : Int32) then
    some ((-1), q1.2)
  else
    if (if l2 < 0 then 0 else l2) < (if 8 < l3 then 8 else l3) then
      (fJ1_indexOfChar_4cfef (a1) ((if l2 < 0 then 0 else l2)) ((if 8 < l3 then 8 else l3)) q1.2).bind fun q4 =>
      some (q4.1, q4.2)
    else
      some ((-1), q1.2)
set_option maxRecDepth 100000 in
theorem tJ1_indexOf_4cfef_0 (a1 : Int32) (a2 : Int32) (a3 : Int32) (l2 : Int32) (l3 : Int32) (M : zMM) (q : Int32 × zMM) (h : fJ1_indexOf_4cfef_0 a1 a2 a3 l2 l3 M = some q) : zEV iJ1_indexOf_4cfef 0 0 (zZO (some (.inl q.1), q.2)) 0 [(0, .inr (.inr 2002)), (1, .inl a1), (2, .inl l2), (3, .inl l3)] [] M := by
  unfold fJ1_indexOf_4cfef_0 at h
  refine zEV.iload_n dJ1_indexOf_4cfef_0 rfl 1 rfl ?_
  obtain ⟨q1, hq1, h⟩ := bind_yes h
  refine zEV.callSi (kJ1_canEncode_9a6ad (a1)  M q1 hq1) wm_RJ1_88 wc_J1_canEncode_9a6ad hy_J1_canEncode_9a6ad rfl ⟨Nat.le_of_ble_eq_true rfl, Nat.le_of_ble_eq_true rfl⟩ rfl (Nat.le_of_ble_eq_true rfl) dJ1_indexOf_4cfef_1 ?_
  refine zEV.if_ne 9 dJ1_indexOf_4cfef_4 (by decide) (fun c2 => ?_) (fun c2 => ?_)
  · rw [if_neg c2] at h
    refine zEV.iload_n dJ1_indexOf_4cfef_9 rfl 2 rfl ?_
    refine zEV.iconst (v := 0) dJ1_indexOf_4cfef_10 rfl ?_
    refine zEV.mmax wm_RJ1_92 wj_max_s wj_math_i wj_max_c ⟨Nat.le_of_ble_eq_true rfl, Nat.le_of_ble_eq_true rfl⟩ dJ1_indexOf_4cfef_11 ?_
    refine zEV.istore_n dJ1_indexOf_4cfef_14 rfl (Nat.le_of_ble_eq_true rfl) rfl ?_
    refine zEV.iload_n dJ1_indexOf_4cfef_15 rfl 3 rfl ?_
    refine zEV.aload_n dJ1_indexOf_4cfef_16 rfl 1 rfl ?_
    refine zEV.Slen dJ1_indexOf_4cfef_17 ?_
    refine zEV.mmin wm_RJ1_38 wj_min_s wj_math_i wj_min_c ⟨Nat.le_of_ble_eq_true rfl, Nat.le_of_ble_eq_true rfl⟩ dJ1_indexOf_4cfef_18 ?_
    refine zEV.istore_n dJ1_indexOf_4cfef_21 rfl (Nat.le_of_ble_eq_true rfl) rfl ?_
    refine zEV.iload_n dJ1_indexOf_4cfef_22 rfl 1 rfl ?_
    refine zEV.iload_n dJ1_indexOf_4cfef_23 rfl 0 rfl ?_
    refine zEV.icmp_lt 29 dJ1_indexOf_4cfef_24 (by decide) (fun c3 => ?_) (fun c3 => ?_)
    · rw [if_pos c3] at h
      refine zEV.aload_n dJ1_indexOf_4cfef_29 rfl 2 rfl ?_
      refine zEV.iload_n dJ1_indexOf_4cfef_30 rfl 3 rfl ?_
      refine zEV.iload_n dJ1_indexOf_4cfef_31 rfl 1 rfl ?_
      refine zEV.iload_n dJ1_indexOf_4cfef_32 rfl 0 rfl ?_
      obtain ⟨q4, hq4, h⟩ := bind_yes h
      refine zEV.callSi (kJ1_indexOfChar_4cfef (a1) ((if l2 < 0 then 0 else l2)) ((if 8 < l3 then 8 else l3))  q1.2 q4 hq4) wm_RJ1_95 wc_J1_indexOfChar_4cfef hy_J1_indexOfChar_4cfef rfl ⟨Nat.le_of_ble_eq_true rfl, Nat.le_of_ble_eq_true rfl⟩ rfl (Nat.le_of_ble_eq_true rfl) dJ1_indexOf_4cfef_33 ?_
      have h := Option.some.inj h
      subst h
      exact zEV.iret rfl dJ1_indexOf_4cfef_36
    · rw [if_neg c3] at h
      refine zEV.iconst (v := (-1)) dJ1_indexOf_4cfef_27 rfl ?_
      have h := Option.some.inj h
      subst h
      exact zEV.iret rfl dJ1_indexOf_4cfef_28
  · rw [if_pos c2] at h
    refine zEV.iconst (v := (-1)) dJ1_indexOf_4cfef_7 rfl ?_
    have h := Option.some.inj h
    subst h
    exact zEV.iret rfl dJ1_indexOf_4cfef_8
def fJ1_indexOf_4cfef (a1 : Int32) (a2 : Int32) (a3 : Int32) (M : zMM) : Option (Int32 × zMM) := fJ1_indexOf_4cfef_0 a1 a2 a3 (a2) (a3) M
theorem kJ1_indexOf_4cfef (a1 : Int32) (a2 : Int32) (a3 : Int32) (M : zMM) (q : Int32 × zMM) (h : fJ1_indexOf_4cfef a1 a2 a3 M = some q) : zCN yJ1_indexOf_4cfef iJ1_indexOf_4cfef [.inr (.inr 2002), .inl a1, .inl a2, .inl a3] M (some (.inl q.1), q.2) :=
  zCN.of (by decide) rfl rfl (Nat.le_of_ble_eq_true rfl) (zEV.perm [0, 1, 2, 3] rfl (tJ1_indexOf_4cfef_0 a1 a2 a3 (a2) (a3) M q h))
-- java/lang/String.indexOf
def fJ0_indexOf_7cf53 (a1 : Int32) (a2 : Int32) (M : zMM) : Option (Int32 × zMM) :=
  (fJ0_isLatin1_aae02  M).bind fun q1 =>
  if q1.1 = (0 : Int32) then
    (fJ0_length_8abf5  q1.2).bind fun q3 =>
    none
  else
    (fJ0_length_8abf5  q1.2).bind fun q4 =>
    (fJ1_indexOf_4cfef (a1) (a2) (q4.1) q4.2).bind fun q5 =>
    some (q5.1, q5.2)
set_option maxRecDepth 100000 in
theorem tJ0_indexOf_7cf53_0 (a1 : Int32) (a2 : Int32) (M : zMM) (q : Int32 × zMM) (h : fJ0_indexOf_7cf53 a1 a2  M = some q) : zEV iJ0_indexOf_7cf53 0 0 (zZO (some (.inl q.1), q.2)) 0 [(0, .inr (.inr 2001)), (1, .inl a1), (2, .inl a2)] [] M := by
  unfold fJ0_indexOf_7cf53 at h
  refine zEV.aload_n dJ0_indexOf_7cf53_0 rfl 0 rfl ?_
  obtain ⟨q1, hq1, h⟩ := bind_yes h
  refine zEV.callVS (kJ0_isLatin1_aae02   M q1 hq1) wm_RJ0_492 wc_J0_isLatin1_aae02 hy_J0_isLatin1_aae02 rfl ⟨Nat.le_of_ble_eq_true rfl, Nat.le_of_ble_eq_true rfl⟩ rfl (Nat.le_of_ble_eq_true rfl) dJ0_indexOf_7cf53_1 ?_
  refine zEV.if_eq 23 dJ0_indexOf_7cf53_4 (by decide) (fun c2 => ?_) (fun c2 => ?_)
  · rw [if_pos c2] at h
    refine zEV.aload_n dJ0_indexOf_7cf53_23 rfl 0 rfl ?_
    refine zEV.gSv wf_RJ0_9 dJ0_indexOf_7cf53_24 ?_
    refine zEV.iload_n dJ0_indexOf_7cf53_27 rfl 1 rfl ?_
    refine zEV.iload_n dJ0_indexOf_7cf53_28 rfl 2 rfl ?_
    refine zEV.aload_n dJ0_indexOf_7cf53_29 rfl 0 rfl ?_
    obtain ⟨q3, hq3, h⟩ := bind_yes h
    refine zEV.callVS (kJ0_length_8abf5   q1.2 q3 hq3) wm_RJ0_505 wc_J0_length_8abf5 hy_J0_length_8abf5 rfl ⟨Nat.le_of_ble_eq_true rfl, Nat.le_of_ble_eq_true rfl⟩ rfl (Nat.le_of_ble_eq_true rfl) dJ0_indexOf_7cf53_30 ?_
    cases h
  · rw [if_neg c2] at h
    refine zEV.aload_n dJ0_indexOf_7cf53_7 rfl 0 rfl ?_
    refine zEV.gSv wf_RJ0_9 dJ0_indexOf_7cf53_8 ?_
    refine zEV.iload_n dJ0_indexOf_7cf53_11 rfl 1 rfl ?_
    refine zEV.iload_n dJ0_indexOf_7cf53_12 rfl 2 rfl ?_
    refine zEV.aload_n dJ0_indexOf_7cf53_13 rfl 0 rfl ?_
    obtain ⟨q4, hq4, h⟩ := bind_yes h
    refine zEV.callVS (kJ0_length_8abf5   q1.2 q4 hq4) wm_RJ0_505 wc_J0_length_8abf5 hy_J0_length_8abf5 rfl ⟨Nat.le_of_ble_eq_true rfl, Nat.le_of_ble_eq_true rfl⟩ rfl (Nat.le_of_ble_eq_true rfl) dJ0_indexOf_7cf53_14 ?_
    obtain ⟨q5, hq5, h⟩ := bind_yes h
    refine zEV.callSi (kJ1_indexOf_4cfef (a1) (a2) (q4.1)  q4.2 q5 hq5) wm_RJ0_637 wc_J1_indexOf_4cfef hy_J1_indexOf_4cfef rfl ⟨Nat.le_of_ble_eq_true rfl, Nat.le_of_ble_eq_true rfl⟩ rfl (Nat.le_of_ble_eq_true rfl) dJ0_indexOf_7cf53_17 ?_
    refine zEV.goto 36 dJ0_indexOf_7cf53_20 (by decide) ?_
    have h := Option.some.inj h
    subst h
    exact zEV.iret rfl dJ0_indexOf_7cf53_36
theorem kJ0_indexOf_7cf53 (a1 : Int32) (a2 : Int32) (M : zMM) (q : Int32 × zMM) (h : fJ0_indexOf_7cf53 a1 a2 M = some q) : zCN yJ0_indexOf_7cf53 iJ0_indexOf_7cf53 [.inr (.inr 2001), .inl a1, .inl a2] M (some (.inl q.1), q.2) :=
  zCN.of (by decide) rfl rfl (Nat.le_of_ble_eq_true rfl) (zEV.perm [0, 1, 2] rfl (tJ0_indexOf_7cf53_0 a1 a2 M q h))
-- java/lang/String.indexOf
def fJ0_indexOf_0f7a4 (a1 : Int32) (M : zMM) : Option (Int32 × zMM) :=
  (fJ0_indexOf_7cf53 (a1) (0) M).bind fun q1 =>
  some (q1.1, q1.2)
set_option maxRecDepth 100000 in
theorem tJ0_indexOf_0f7a4_0 (a1 : Int32) (M : zMM) (q : Int32 × zMM) (h : fJ0_indexOf_0f7a4 a1  M = some q) : zEV iJ0_indexOf_0f7a4 0 0 (zZO (some (.inl q.1), q.2)) 0 [(0, .inr (.inr 2001)), (1, .inl a1)] [] M := by
  unfold fJ0_indexOf_0f7a4 at h
  refine zEV.aload_n dJ0_indexOf_0f7a4_0 rfl 0 rfl ?_
  refine zEV.iload_n dJ0_indexOf_0f7a4_1 rfl 1 rfl ?_
  refine zEV.iconst (v := 0) dJ0_indexOf_0f7a4_2 rfl ?_
  obtain ⟨q1, hq1, h⟩ := bind_yes h
  refine zEV.callVS (kJ0_indexOf_7cf53 (a1) (0)  M q1 hq1) wm_RJ0_633 wc_J0_indexOf_7cf53 hy_J0_indexOf_7cf53 rfl ⟨Nat.le_of_ble_eq_true rfl, Nat.le_of_ble_eq_true rfl⟩ rfl (Nat.le_of_ble_eq_true rfl) dJ0_indexOf_0f7a4_3 ?_
  have h := Option.some.inj h
  subst h
  exact zEV.iret rfl dJ0_indexOf_0f7a4_6
theorem kJ0_indexOf_0f7a4 (a1 : Int32) (M : zMM) (q : Int32 × zMM) (h : fJ0_indexOf_0f7a4 a1 M = some q) : zCN yJ0_indexOf_0f7a4 iJ0_indexOf_0f7a4 [.inr (.inr 2001), .inl a1] M (some (.inl q.1), q.2) :=
  zCN.of (by decide) rfl rfl (Nat.le_of_ble_eq_true rfl) (zEV.perm [0, 1] rfl (tJ0_indexOf_0f7a4_0 a1 M q h))
-- RingedPageModel.readAct
def fX7_readAct_21 (a1 : Int32) (M : zMM) : Option (zMM) :=
  (fX7_fault ((M.1 158 7)) M).bind fun q1 =>
  some q1
set_option maxRecDepth 100000 in
theorem tX7_readAct_21 (a1 : Int32) (M : zMM) (q : zMM) (h : fX7_readAct_21 a1  M = some q) : zEV iX7_readAct 0 0 (zZO (none, q)) 21 [(0, .inr (.inr 158))] [] M := by
  unfold fX7_readAct_21 at h
  refine zEV.aload_n dX7_readAct_21 rfl 0 rfl ?_
  refine zEV.aload_n dX7_readAct_22 rfl 0 rfl ?_
  refine zEV.gfi rfl inz7 7 (by decide) wf_RX7_79 (by decide) rfl rfl dX7_readAct_23 ?_
  obtain ⟨q1, hq1, h⟩ := bind_yes h
  refine zEV.callVv (kX7_fault ((M.1 158 7))  M q1 hq1) (by decide) rfl rfl wm_RX7_93 wc_X7_fault hy_X7_fault rfl ⟨Nat.le_of_ble_eq_true rfl, Nat.le_of_ble_eq_true rfl⟩ rfl (Nat.le_of_ble_eq_true rfl) dX7_readAct_26 ?_
  have h := Option.some.inj h
  subst h
  exact zEV.vret rfl dX7_readAct_29
def fX7_readAct_146 (a1 : Int32) (l2 : Int32) (M : zMM) : Option (zMM) :=
  if l2 = 99 then
    (fX7_digits (1) M).bind fun q2 =>
    if oob ((a1 + 3)) 320 then none else
    some (wr q2.2 162 (Int32.toNatClampNeg (a1 + 3)) q2.1)
  else
    some M
set_option maxRecDepth 100000 in
theorem tX7_readAct_146 (a1 : Int32) (l2 : Int32) (M : zMM) (q : zMM) (h : fX7_readAct_146 a1 l2 M = some q) : zEV iX7_readAct 0 0 (zZO (none, q)) 146 [(0, .inr (.inr 158)), (1, .inl a1), (2, .inl l2)] [] M := by
  unfold fX7_readAct_146 at h
  refine zEV.iload_n dX7_readAct_146 rfl 2 rfl ?_
  refine zEV.bipush (v := 99) dX7_readAct_147 rfl ?_
  refine zEV.icmp_ne 165 dX7_readAct_149 (by decide) (fun c1 => ?_) (fun c1 => ?_)
  · rw [if_neg c1] at h
    have h := Option.some.inj h
    subst h
    exact zEV.vret rfl dX7_readAct_165
  · rw [if_pos c1] at h
    refine zEV.aload_n dX7_readAct_152 rfl 0 rfl ?_
    refine zEV.gfr rfl inz7 9 (by decide) wf_RX7_21 (by decide) rfl rfl dX7_readAct_153 ?_
    refine zEV.iload_n dX7_readAct_156 rfl 1 rfl ?_
    refine zEV.iconst (v := 3) dX7_readAct_157 rfl ?_
    refine zEV.iadd dX7_readAct_158 ?_
    refine zEV.aload_n dX7_readAct_159 rfl 0 rfl ?_
    refine zEV.iconst (v := 1) dX7_readAct_160 rfl ?_
    obtain ⟨q2, hq2, h⟩ := bind_yes h
    refine zEV.callVi (kX7_digits (1)  M q2 hq2) (by decide) rfl rfl wm_RX7_117 wc_X7_digits hy_X7_digits rfl ⟨Nat.le_of_ble_eq_true rfl, Nat.le_of_ble_eq_true rfl⟩ rfl (Nat.le_of_ble_eq_true rfl) dX7_readAct_161 ?_
    obtain ⟨g3, h⟩ := ite_no h
    refine zEV.iast (by decide) rfl g3 dX7_readAct_164 ?_
    have h := Option.some.inj h
    subst h
    exact zEV.vret rfl dX7_readAct_165
def fX7_readAct_123 (a1 : Int32) (l2 : Int32) (s0 : Int32) (s2 : Int32) (M : zMM) : Option (zMM) :=
  (fX7_digits (s0) M).bind fun q1 =>
  if oob (s2) 320 then none else
  if l2 = 112 then
    (fX7_digits (2) (wr q1.2 162 (Int32.toNatClampNeg s2) q1.1)).bind fun q4 =>
    if oob ((a1 + 3)) 320 then none else
    fX7_readAct_146 a1 (l2) (wr q4.2 162 (Int32.toNatClampNeg (a1 + 3)) q4.1)
  else
    fX7_readAct_146 a1 (l2) (wr q1.2 162 (Int32.toNatClampNeg s2) q1.1)
set_option maxRecDepth 100000 in
theorem tX7_readAct_123 (a1 : Int32) (l2 : Int32) (s0 : Int32) (s2 : Int32) (M : zMM) (q : zMM) (h : fX7_readAct_123 a1 l2 s0 s2 M = some q) : zEV iX7_readAct 0 0 (zZO (none, q)) 123 [(0, .inr (.inr 158)), (1, .inl a1), (2, .inl l2)] [.inl s0, .inr (.inr 158), .inl s2, .inr (.inr 162)] M := by
  unfold fX7_readAct_123 at h
  obtain ⟨q1, hq1, h⟩ := bind_yes h
  refine zEV.callVi (kX7_digits (s0)  M q1 hq1) (by decide) rfl rfl wm_RX7_117 wc_X7_digits hy_X7_digits rfl ⟨Nat.le_of_ble_eq_true rfl, Nat.le_of_ble_eq_true rfl⟩ rfl (Nat.le_of_ble_eq_true rfl) dX7_readAct_123 ?_
  obtain ⟨g2, h⟩ := ite_no h
  refine zEV.iast (by decide) rfl g2 dX7_readAct_126 ?_
  refine zEV.iload_n dX7_readAct_127 rfl 2 rfl ?_
  refine zEV.bipush (v := 112) dX7_readAct_128 rfl ?_
  refine zEV.icmp_ne 146 dX7_readAct_130 (by decide) (fun c3 => ?_) (fun c3 => ?_)
  · rw [if_neg c3] at h
    exact zEV.perm [0, 1, 2] rfl (tX7_readAct_146 a1 (l2) (wr q1.2 162 (Int32.toNatClampNeg s2) q1.1) q h)
  · rw [if_pos c3] at h
    refine zEV.aload_n dX7_readAct_133 rfl 0 rfl ?_
    refine zEV.gfr rfl inz7 9 (by decide) wf_RX7_21 (by decide) rfl rfl dX7_readAct_134 ?_
    refine zEV.iload_n dX7_readAct_137 rfl 1 rfl ?_
    refine zEV.iconst (v := 3) dX7_readAct_138 rfl ?_
    refine zEV.iadd dX7_readAct_139 ?_
    refine zEV.aload_n dX7_readAct_140 rfl 0 rfl ?_
    refine zEV.iconst (v := 2) dX7_readAct_141 rfl ?_
    obtain ⟨q4, hq4, h⟩ := bind_yes h
    refine zEV.callVi (kX7_digits (2)  (wr q1.2 162 (Int32.toNatClampNeg s2) q1.1) q4 hq4) (by decide) rfl rfl wm_RX7_117 wc_X7_digits hy_X7_digits rfl ⟨Nat.le_of_ble_eq_true rfl, Nat.le_of_ble_eq_true rfl⟩ rfl (Nat.le_of_ble_eq_true rfl) dX7_readAct_142 ?_
    obtain ⟨g5, h⟩ := ite_no h
    refine zEV.iast (by decide) rfl g5 dX7_readAct_145 ?_
    exact zEV.perm [0, 1, 2] rfl (tX7_readAct_146 a1 (l2) (wr q4.2 162 (Int32.toNatClampNeg (a1 + 3)) q4.1) q h)
def fX7_readAct_89 (a1 : Int32) (l2 : Int32) (l3 : Int32) (s0 : Int32) (s2 : Int32) (M : zMM) : Option (zMM) :=
  (fX7_digits (s0) M).bind fun q1 =>
  if oob (s2) 320 then none else
  if l3 = (0 : Int32) then
    if l2 = 117 then
      some (wr q1.2 162 (Int32.toNatClampNeg s2) q1.1)
    else
      if l2 = 98 then
        fX7_readAct_123 a1 (l2) (1) ((a1 + 2)) (wr q1.2 162 (Int32.toNatClampNeg s2) q1.1)
      else
        fX7_readAct_123 a1 (l2) (2) ((a1 + 2)) (wr q1.2 162 (Int32.toNatClampNeg s2) q1.1)
  else
    some (wr q1.2 162 (Int32.toNatClampNeg s2) q1.1)
set_option maxRecDepth 100000 in
theorem tX7_readAct_89 (a1 : Int32) (l2 : Int32) (l3 : Int32) (s0 : Int32) (s2 : Int32) (M : zMM) (q : zMM) (h : fX7_readAct_89 a1 l2 l3 s0 s2 M = some q) : zEV iX7_readAct 0 0 (zZO (none, q)) 89 [(0, .inr (.inr 158)), (1, .inl a1), (2, .inl l2), (3, .inl l3)] [.inl s0, .inr (.inr 158), .inl s2, .inr (.inr 162)] M := by
  unfold fX7_readAct_89 at h
  obtain ⟨q1, hq1, h⟩ := bind_yes h
  refine zEV.callVi (kX7_digits (s0)  M q1 hq1) (by decide) rfl rfl wm_RX7_117 wc_X7_digits hy_X7_digits rfl ⟨Nat.le_of_ble_eq_true rfl, Nat.le_of_ble_eq_true rfl⟩ rfl (Nat.le_of_ble_eq_true rfl) dX7_readAct_89 ?_
  obtain ⟨g2, h⟩ := ite_no h
  refine zEV.iast (by decide) rfl g2 dX7_readAct_92 ?_
  refine zEV.iload_n dX7_readAct_93 rfl 3 rfl ?_
  refine zEV.if_ne 103 dX7_readAct_94 (by decide) (fun c3 => ?_) (fun c3 => ?_)
  · rw [if_neg c3] at h
    have h := Option.some.inj h
    subst h
    exact zEV.vret rfl dX7_readAct_103
  · rw [if_pos c3] at h
    refine zEV.iload_n dX7_readAct_97 rfl 2 rfl ?_
    refine zEV.bipush (v := 117) dX7_readAct_98 rfl ?_
    refine zEV.icmp_ne 104 dX7_readAct_100 (by decide) (fun c4 => ?_) (fun c4 => ?_)
    · rw [if_neg c4] at h
      refine zEV.aload_n dX7_readAct_104 rfl 0 rfl ?_
      refine zEV.gfr rfl inz7 9 (by decide) wf_RX7_21 (by decide) rfl rfl dX7_readAct_105 ?_
      refine zEV.iload_n dX7_readAct_108 rfl 1 rfl ?_
      refine zEV.iconst (v := 2) dX7_readAct_109 rfl ?_
      refine zEV.iadd dX7_readAct_110 ?_
      refine zEV.aload_n dX7_readAct_111 rfl 0 rfl ?_
      refine zEV.iload_n dX7_readAct_112 rfl 2 rfl ?_
      refine zEV.bipush (v := 98) dX7_readAct_113 rfl ?_
      refine zEV.icmp_ne 122 dX7_readAct_115 (by decide) (fun c5 => ?_) (fun c5 => ?_)
      · rw [if_neg c5] at h
        refine zEV.iconst (v := 2) dX7_readAct_122 rfl ?_
        exact zEV.perm [0, 1, 2] rfl (tX7_readAct_123 a1 (l2) (2) ((a1 + 2)) (wr q1.2 162 (Int32.toNatClampNeg s2) q1.1) q h)
      · rw [if_pos c5] at h
        refine zEV.iconst (v := 1) dX7_readAct_118 rfl ?_
        refine zEV.goto 123 dX7_readAct_119 (by decide) ?_
        exact zEV.perm [0, 1, 2] rfl (tX7_readAct_123 a1 (l2) (1) ((a1 + 2)) (wr q1.2 162 (Int32.toNatClampNeg s2) q1.1) q h)
    · rw [if_pos c4] at h
      have h := Option.some.inj h
      subst h
      exact zEV.vret rfl dX7_readAct_103
def fX7_readAct_71 (a1 : Int32) (l2 : Int32) (s0 : Int32) (M : zMM) : Option (zMM) :=
  if s0 = (0 : Int32) then
    fX7_readAct_89 a1 (l2) (s0) (1) ((a1 + 1)) M
  else
    fX7_readAct_89 a1 (l2) (s0) (2) ((a1 + 1)) M
set_option maxRecDepth 100000 in
theorem tX7_readAct_71 (a1 : Int32) (l2 : Int32) (s0 : Int32) (M : zMM) (q : zMM) (h : fX7_readAct_71 a1 l2 s0 M = some q) : zEV iX7_readAct 0 0 (zZO (none, q)) 71 [(0, .inr (.inr 158)), (1, .inl a1), (2, .inl l2)] [.inl s0] M := by
  unfold fX7_readAct_71 at h
  refine zEV.istore_n dX7_readAct_71 rfl (Nat.le_of_ble_eq_true rfl) rfl ?_
  refine zEV.aload_n dX7_readAct_72 rfl 1 rfl ?_
  refine zEV.gfr rfl inz7 9 (by decide) wf_RX7_21 (by decide) rfl rfl dX7_readAct_73 ?_
  refine zEV.iload_n dX7_readAct_76 rfl 2 rfl ?_
  refine zEV.iconst (v := 1) dX7_readAct_77 rfl ?_
  refine zEV.iadd dX7_readAct_78 ?_
  refine zEV.aload_n dX7_readAct_79 rfl 1 rfl ?_
  refine zEV.iload_n dX7_readAct_80 rfl 0 rfl ?_
  refine zEV.if_eq 88 dX7_readAct_81 (by decide) (fun c1 => ?_) (fun c1 => ?_)
  · rw [if_pos c1] at h
    refine zEV.iconst (v := 1) dX7_readAct_88 rfl ?_
    exact zEV.perm [1, 2, 3, 0] rfl (tX7_readAct_89 a1 (l2) (s0) (1) ((a1 + 1)) M q h)
  · rw [if_neg c1] at h
    refine zEV.iconst (v := 2) dX7_readAct_84 rfl ?_
    refine zEV.goto 89 dX7_readAct_85 (by decide) ?_
    exact zEV.perm [1, 2, 3, 0] rfl (tX7_readAct_89 a1 (l2) (s0) (2) ((a1 + 1)) M q h)
def fX7_readAct_66 (a1 : Int32) (l2 : Int32) (M : zMM) : Option (zMM) :=
  fX7_readAct_71 a1 (l2) (1) M
set_option maxRecDepth 100000 in
theorem tX7_readAct_66 (a1 : Int32) (l2 : Int32) (M : zMM) (q : zMM) (h : fX7_readAct_66 a1 l2 M = some q) : zEV iX7_readAct 0 0 (zZO (none, q)) 66 [(0, .inr (.inr 158)), (1, .inl a1), (2, .inl l2)] [] M := by
  unfold fX7_readAct_66 at h
  refine zEV.iconst (v := 1) dX7_readAct_66 rfl ?_
  refine zEV.goto 71 dX7_readAct_67 (by decide) ?_
  exact zEV.perm [0, 1, 2] rfl (tX7_readAct_71 a1 (l2) (1) M q h)
def fX7_readAct (a1 : Int32) (M : zMM) : Option (zMM) :=
  (fX7_here  M).bind fun q1 =>
  if q1.1 = (-1) then
    fX7_readAct_21 a1 q1.2
  else
    (fJ0_indexOf_0f7a4 ((Int32.toUInt32 q1.1 % 65536).toInt32) q1.2).bind fun q3 =>
    if (0 : Int32) ≤ q3.1 then
      if oob (a1) 320 then none else
      if q1.1 = 120 then
        some (wr (wr q3.2 158 7 ((q3.2.1 158 7) + 1)) 162 (Int32.toNatClampNeg a1) q1.1)
      else
        if q1.1 = 119 then
          fX7_readAct_66 a1 (q1.1) (wr (wr q3.2 158 7 ((q3.2.1 158 7) + 1)) 162 (Int32.toNatClampNeg a1) q1.1)
        else
          if q1.1 = 104 then
            fX7_readAct_66 a1 (q1.1) (wr (wr q3.2 158 7 ((q3.2.1 158 7) + 1)) 162 (Int32.toNatClampNeg a1) q1.1)
          else
            fX7_readAct_71 a1 (q1.1) (0) (wr (wr q3.2 158 7 ((q3.2.1 158 7) + 1)) 162 (Int32.toNatClampNeg a1) q1.1)
    else
      fX7_readAct_21 a1 q3.2
set_option maxRecDepth 100000 in
theorem tX7_readAct_0 (a1 : Int32) (M : zMM) (q : zMM) (h : fX7_readAct a1  M = some q) : zEV iX7_readAct 0 0 (zZO (none, q)) 0 [(0, .inr (.inr 158)), (1, .inl a1)] [] M := by
  unfold fX7_readAct at h
  refine zEV.aload_n dX7_readAct_0 rfl 0 rfl ?_
  obtain ⟨q1, hq1, h⟩ := bind_yes h
  refine zEV.callVi (kX7_here   M q1 hq1) (by decide) rfl rfl wm_RX7_89 wc_X7_here hy_X7_here rfl ⟨Nat.le_of_ble_eq_true rfl, Nat.le_of_ble_eq_true rfl⟩ rfl (Nat.le_of_ble_eq_true rfl) dX7_readAct_1 ?_
  refine zEV.istore_n dX7_readAct_4 rfl (Nat.le_of_ble_eq_true rfl) rfl ?_
  refine zEV.iload_n dX7_readAct_5 rfl 0 rfl ?_
  refine zEV.iconst (v := (-1)) dX7_readAct_6 rfl ?_
  refine zEV.icmp_eq 21 dX7_readAct_7 (by decide) (fun c2 => ?_) (fun c2 => ?_)
  · rw [if_pos c2] at h
    exact zEV.perm [1] rfl (tX7_readAct_21 a1 q1.2 q h)
  · rw [if_neg c2] at h
    refine zEV.ldcS rfl dX7_readAct_10 ?_
    refine zEV.iload_n dX7_readAct_13 rfl 0 rfl ?_
    refine zEV.i2c dX7_readAct_14 ?_
    obtain ⟨q3, hq3, h⟩ := bind_yes h
    refine zEV.callVS (kJ0_indexOf_0f7a4 ((Int32.toUInt32 q1.1 % 65536).toInt32)  q1.2 q3 hq3) wm_RX7_302 wc_J0_indexOf_0f7a4 hy_J0_indexOf_0f7a4 rfl ⟨Nat.le_of_ble_eq_true rfl, Nat.le_of_ble_eq_true rfl⟩ rfl (Nat.le_of_ble_eq_true rfl) dX7_readAct_15 ?_
    refine zEV.if_ge 30 dX7_readAct_18 (by decide) (fun c4 => ?_) (fun c4 => ?_)
    · rw [if_pos c4] at h
      refine zEV.aload_n dX7_readAct_30 rfl 1 rfl ?_
      refine zEV.dup dX7_readAct_31 rfl ?_
      refine zEV.gfi rfl inz7 7 (by decide) wf_RX7_79 (by decide) rfl rfl dX7_readAct_32 ?_
      refine zEV.iconst (v := 1) dX7_readAct_35 rfl ?_
      refine zEV.iadd dX7_readAct_36 ?_
      refine zEV.pfi rfl inz7 tyX7 tyX7_ok nmX7 7 (by decide) wf_RX7_79 rfl (by decide +kernel) (by decide) rfl rfl dX7_readAct_37 ?_
      refine zEV.aload_n dX7_readAct_40 rfl 1 rfl ?_
      refine zEV.gfr rfl inz7 9 (by decide) wf_RX7_21 (by decide) rfl rfl dX7_readAct_41 ?_
      refine zEV.iload_n dX7_readAct_44 rfl 2 rfl ?_
      refine zEV.iload_n dX7_readAct_45 rfl 0 rfl ?_
      obtain ⟨g5, h⟩ := ite_no h
      refine zEV.iast (by decide) rfl g5 dX7_readAct_46 ?_
      refine zEV.iload_n dX7_readAct_47 rfl 0 rfl ?_
      refine zEV.bipush (v := 120) dX7_readAct_48 rfl ?_
      refine zEV.icmp_ne 54 dX7_readAct_50 (by decide) (fun c6 => ?_) (fun c6 => ?_)
      · rw [if_neg c6] at h
        refine zEV.iload_n dX7_readAct_54 rfl 0 rfl ?_
        refine zEV.bipush (v := 119) dX7_readAct_55 rfl ?_
        refine zEV.icmp_eq 66 dX7_readAct_57 (by decide) (fun c7 => ?_) (fun c7 => ?_)
        · rw [if_pos c7] at h
          exact zEV.perm [1, 2, 0] rfl (tX7_readAct_66 a1 (q1.1) (wr (wr q3.2 158 7 ((q3.2.1 158 7) + 1)) 162 (Int32.toNatClampNeg a1) q1.1) q h)
        · rw [if_neg c7] at h
          refine zEV.iload_n dX7_readAct_60 rfl 0 rfl ?_
          refine zEV.bipush (v := 104) dX7_readAct_61 rfl ?_
          refine zEV.icmp_ne 70 dX7_readAct_63 (by decide) (fun c8 => ?_) (fun c8 => ?_)
          · rw [if_neg c8] at h
            refine zEV.iconst (v := 0) dX7_readAct_70 rfl ?_
            exact zEV.perm [1, 2, 0] rfl (tX7_readAct_71 a1 (q1.1) (0) (wr (wr q3.2 158 7 ((q3.2.1 158 7) + 1)) 162 (Int32.toNatClampNeg a1) q1.1) q h)
          · rw [if_pos c8] at h
            exact zEV.perm [1, 2, 0] rfl (tX7_readAct_66 a1 (q1.1) (wr (wr q3.2 158 7 ((q3.2.1 158 7) + 1)) 162 (Int32.toNatClampNeg a1) q1.1) q h)
      · rw [if_pos c6] at h
        have h := Option.some.inj h
        subst h
        exact zEV.vret rfl dX7_readAct_53
    · rw [if_neg c4] at h
      exact zEV.perm [1] rfl (tX7_readAct_21 a1 q3.2 q h)
theorem kX7_readAct (a1 : Int32) (M : zMM) (q : zMM) (h : fX7_readAct a1 M = some q) : zCN yX7_readAct iX7_readAct [.inr (.inr 158), .inl a1] M (none, q) :=
  zCN.of (by decide) rfl rfl (Nat.le_of_ble_eq_true rfl) (zEV.perm [0, 1] rfl (tX7_readAct_0 a1 M q h))
-- RingedPageModel.act
def fX7_act_264 (a1 : Int32) (l2 : Int32) (l3 : Int32) (M : zMM) : Option (Int32 × zMM) :=
  (fX7_refusesBest (l2) (l3) M).bind fun q1 =>
  if (0 : Int32) ≤ q1.1 then
    (fX7_putPlan ((q1.2.1 167 0)) ((q1.2.1 167 1)) ((q1.2.1 167 2)) q1.2).bind fun q3 =>
    some (1, q3)
  else
    some (0, q1.2)
set_option maxRecDepth 100000 in
theorem tX7_act_264 (a1 : Int32) (l2 : Int32) (l3 : Int32) (M : zMM) (q : Int32 × zMM) (h : fX7_act_264 a1 l2 l3 M = some q) : zEV iX7_act 0 0 (zZO (some (.inl q.1), q.2)) 264 [(0, .inr (.inr 158)), (2, .inl l2), (3, .inl l3)] [] M := by
  unfold fX7_act_264 at h
  refine zEV.aload_n dX7_act_264 rfl 0 rfl ?_
  refine zEV.iload_n dX7_act_265 rfl 1 rfl ?_
  refine zEV.iload_n dX7_act_266 rfl 2 rfl ?_
  obtain ⟨q1, hq1, h⟩ := bind_yes h
  refine zEV.callVi (kX7_refusesBest (l2) (l3)  M q1 hq1) (by decide) rfl rfl wm_RX7_294 wc_X7_refusesBest hy_X7_refusesBest rfl ⟨Nat.le_of_ble_eq_true rfl, Nat.le_of_ble_eq_true rfl⟩ rfl (Nat.le_of_ble_eq_true rfl) dX7_act_267 ?_
  refine zEV.if_ge 275 dX7_act_270 (by decide) (fun c2 => ?_) (fun c2 => ?_)
  · rw [if_pos c2] at h
    refine zEV.aload_n dX7_act_275 rfl 0 rfl ?_
    refine zEV.aload_n dX7_act_276 rfl 0 rfl ?_
    refine zEV.gfr rfl inz7 16 (by decide) wf_RX7_36 (by decide) rfl rfl dX7_act_277 ?_
    refine zEV.iconst (v := 0) dX7_act_280 rfl ?_
    refine zEV.ialdL (j := 0) (by decide) rfl (by decide) (by decide) dX7_act_281 ?_
    refine zEV.aload_n dX7_act_282 rfl 0 rfl ?_
    refine zEV.gfr rfl inz7 16 (by decide) wf_RX7_36 (by decide) rfl rfl dX7_act_283 ?_
    refine zEV.iconst (v := 1) dX7_act_286 rfl ?_
    refine zEV.ialdL (j := 1) (by decide) rfl (by decide) (by decide) dX7_act_287 ?_
    refine zEV.aload_n dX7_act_288 rfl 0 rfl ?_
    refine zEV.gfr rfl inz7 16 (by decide) wf_RX7_36 (by decide) rfl rfl dX7_act_289 ?_
    refine zEV.iconst (v := 2) dX7_act_292 rfl ?_
    refine zEV.ialdL (j := 2) (by decide) rfl (by decide) (by decide) dX7_act_293 ?_
    obtain ⟨q3, hq3, h⟩ := bind_yes h
    refine zEV.callVv (kX7_putPlan ((q1.2.1 167 0)) ((q1.2.1 167 1)) ((q1.2.1 167 2))  q1.2 q3 hq3) (by decide) rfl rfl wm_RX7_233 wc_X7_putPlan hy_X7_putPlan rfl ⟨Nat.le_of_ble_eq_true rfl, Nat.le_of_ble_eq_true rfl⟩ rfl (Nat.le_of_ble_eq_true rfl) dX7_act_294 ?_
    refine zEV.iconst (v := 1) dX7_act_297 rfl ?_
    have h := Option.some.inj h
    subst h
    exact zEV.zret rfl (Or.inr rfl) dX7_act_298
  · rw [if_neg c2] at h
    refine zEV.iconst (v := 0) dX7_act_273 rfl ?_
    have h := Option.some.inj h
    subst h
    exact zEV.zret rfl (Or.inl rfl) dX7_act_274
def fX7_act_167 (a1 : Int32) (l2 : Int32) (s0 : Int32) (M : zMM) : Option (Int32 × zMM) :=
  (fX7_refusesSet (s0) (l2) M).bind fun q1 =>
  if (0 : Int32) ≤ q1.1 then
    (fX7_settingAt (s0) q1.2).bind fun q3 =>
    if oob (q3.1) 259 then none else
    some (1, (wr q3.2 159 (Int32.toNatClampNeg q3.1) l2))
  else
    some (0, q1.2)
set_option maxRecDepth 100000 in
theorem tX7_act_167 (a1 : Int32) (l2 : Int32) (s0 : Int32) (M : zMM) (q : Int32 × zMM) (h : fX7_act_167 a1 l2 s0 M = some q) : zEV iX7_act 0 0 (zZO (some (.inl q.1), q.2)) 167 [(0, .inr (.inr 158)), (2, .inl l2)] [.inl s0] M := by
  unfold fX7_act_167 at h
  refine zEV.istore dX7_act_167 (Nat.le_of_ble_eq_true rfl) rfl ?_
  refine zEV.aload_n dX7_act_169 rfl 1 rfl ?_
  refine zEV.iload dX7_act_170 0 rfl ?_
  refine zEV.iload_n dX7_act_172 rfl 2 rfl ?_
  obtain ⟨q1, hq1, h⟩ := bind_yes h
  refine zEV.callVi (kX7_refusesSet (s0) (l2)  M q1 hq1) (by decide) rfl rfl wm_RX7_288 wc_X7_refusesSet hy_X7_refusesSet rfl ⟨Nat.le_of_ble_eq_true rfl, Nat.le_of_ble_eq_true rfl⟩ rfl (Nat.le_of_ble_eq_true rfl) dX7_act_173 ?_
  refine zEV.if_ge 181 dX7_act_176 (by decide) (fun c2 => ?_) (fun c2 => ?_)
  · rw [if_pos c2] at h
    refine zEV.aload_n dX7_act_181 rfl 1 rfl ?_
    refine zEV.gfr rfl inz7 0 (by decide) wf_RX7_9 (by decide) rfl rfl dX7_act_182 ?_
    refine zEV.iload dX7_act_185 0 rfl ?_
    obtain ⟨q3, hq3, h⟩ := bind_yes h
    refine zEV.callSi (kX7_settingAt (s0)  q1.2 q3 hq3) wm_RX7_285 wc_X7_settingAt hy_X7_settingAt rfl ⟨Nat.le_of_ble_eq_true rfl, Nat.le_of_ble_eq_true rfl⟩ rfl (Nat.le_of_ble_eq_true rfl) dX7_act_187 ?_
    refine zEV.iload_n dX7_act_190 rfl 2 rfl ?_
    obtain ⟨g4, h⟩ := ite_no h
    refine zEV.iast (by decide) rfl g4 dX7_act_191 ?_
    refine zEV.iconst (v := 1) dX7_act_192 rfl ?_
    have h := Option.some.inj h
    subst h
    exact zEV.zret rfl (Or.inr rfl) dX7_act_193
  · rw [if_neg c2] at h
    refine zEV.iconst (v := 0) dX7_act_179 rfl ?_
    have h := Option.some.inj h
    subst h
    exact zEV.zret rfl (Or.inl rfl) dX7_act_180
def fX7_act_136 (a1 : Int32) (l2 : Int32) (M : zMM) : Option (Int32 × zMM) :=
  if oob (a1) 320 then none else
  if (M.1 162 (Int32.toNatClampNeg a1)) = 119 then
    fX7_act_167 a1 (l2) (0) M
  else
    if (M.1 162 (Int32.toNatClampNeg a1)) = 104 then
      fX7_act_167 a1 (l2) (1) M
    else
      fX7_act_167 a1 (l2) (2) M
set_option maxRecDepth 100000 in
theorem tX7_act_136 (a1 : Int32) (l2 : Int32) (M : zMM) (q : Int32 × zMM) (h : fX7_act_136 a1 l2 M = some q) : zEV iX7_act 0 0 (zZO (some (.inl q.1), q.2)) 136 [(0, .inr (.inr 158)), (1, .inl a1), (2, .inl l2)] [] M := by
  unfold fX7_act_136 at h
  refine zEV.aload_n dX7_act_136 rfl 0 rfl ?_
  refine zEV.gfr rfl inz7 9 (by decide) wf_RX7_21 (by decide) rfl rfl dX7_act_137 ?_
  refine zEV.iload_n dX7_act_140 rfl 1 rfl ?_
  obtain ⟨g1, h⟩ := ite_no h
  refine zEV.iald (by decide) rfl g1 dX7_act_141 ?_
  refine zEV.bipush (v := 119) dX7_act_142 rfl ?_
  refine zEV.icmp_ne 151 dX7_act_144 (by decide) (fun c2 => ?_) (fun c2 => ?_)
  · rw [if_neg c2] at h
    refine zEV.aload_n dX7_act_151 rfl 0 rfl ?_
    refine zEV.gfr rfl inz7 9 (by decide) wf_RX7_21 (by decide) rfl rfl dX7_act_152 ?_
    refine zEV.iload_n dX7_act_155 rfl 1 rfl ?_
    refine zEV.iald (by decide) rfl g1 dX7_act_156 ?_
    refine zEV.bipush (v := 104) dX7_act_157 rfl ?_
    refine zEV.icmp_ne 166 dX7_act_159 (by decide) (fun c3 => ?_) (fun c3 => ?_)
    · rw [if_neg c3] at h
      refine zEV.iconst (v := 2) dX7_act_166 rfl ?_
      exact zEV.perm [0, 2] rfl (tX7_act_167 a1 (l2) (2) M q h)
    · rw [if_pos c3] at h
      refine zEV.iconst (v := 1) dX7_act_162 rfl ?_
      refine zEV.goto 167 dX7_act_163 (by decide) ?_
      exact zEV.perm [0, 2] rfl (tX7_act_167 a1 (l2) (1) M q h)
  · rw [if_pos c2] at h
    refine zEV.iconst (v := 0) dX7_act_147 rfl ?_
    refine zEV.goto 167 dX7_act_148 (by decide) ?_
    exact zEV.perm [0, 2] rfl (tX7_act_167 a1 (l2) (0) M q h)
def fX7_act (a1 : Int32) (M : zMM) : Option (Int32 × zMM) :=
  if oob ((a1 + 1)) 320 then none else
  if oob ((a1 + 2)) 320 then none else
  if oob ((a1 + 3)) 320 then none else
  if oob (a1) 320 then none else
  if (M.1 162 (Int32.toNatClampNeg a1)) = (99 : Int32) then
    (fX7_refusesWord ((M.1 162 (Int32.toNatClampNeg (a1 + 1)))) ((M.1 162 (Int32.toNatClampNeg (a1 + 2)))) ((M.1 162 (Int32.toNatClampNeg (a1 + 3)))) M).bind fun q6 =>
    if (0 : Int32) ≤ q6.1 then
      (fX7_put ((M.1 162 (Int32.toNatClampNeg (a1 + 1)))) ((M.1 162 (Int32.toNatClampNeg (a1 + 2)))) ((M.1 162 (Int32.toNatClampNeg (a1 + 3)))) q6.2).bind fun q8 =>
      some (1, q8)
    else
      some (0, q6.2)
  else
    if (M.1 162 (Int32.toNatClampNeg a1)) = (100 : Int32) then
      fX7_act_264 a1 ((M.1 162 (Int32.toNatClampNeg (a1 + 1)))) ((M.1 162 (Int32.toNatClampNeg (a1 + 2)))) M
    else
      if (M.1 162 (Int32.toNatClampNeg a1)) = (101 : Int32) then
        fX7_act_264 a1 ((M.1 162 (Int32.toNatClampNeg (a1 + 1)))) ((M.1 162 (Int32.toNatClampNeg (a1 + 2)))) M
      else
        if (M.1 162 (Int32.toNatClampNeg a1)) = (102 : Int32) then
          fX7_act_264 a1 ((M.1 162 (Int32.toNatClampNeg (a1 + 1)))) ((M.1 162 (Int32.toNatClampNeg (a1 + 2)))) M
        else
          if (M.1 162 (Int32.toNatClampNeg a1)) = (103 : Int32) then
            (fX7_isWord ((M.1 162 (Int32.toNatClampNeg (a1 + 1)))) ((M.1 162 (Int32.toNatClampNeg (a1 + 2)))) M).bind fun q9 =>
            if q9.1 = (0 : Int32) then
              some (0, q9.2)
            else
              (fX7_drop ((M.1 162 (Int32.toNatClampNeg (a1 + 1)))) ((M.1 162 (Int32.toNatClampNeg (a1 + 2)))) q9.2).bind fun q11 =>
              some (1, q11)
          else
            if (M.1 162 (Int32.toNatClampNeg a1)) = (104 : Int32) then
              fX7_act_136 a1 ((M.1 162 (Int32.toNatClampNeg (a1 + 1)))) M
            else
              if (M.1 162 (Int32.toNatClampNeg a1)) = (105 : Int32) then
                fX7_act_264 a1 ((M.1 162 (Int32.toNatClampNeg (a1 + 1)))) ((M.1 162 (Int32.toNatClampNeg (a1 + 2)))) M
              else
                if (M.1 162 (Int32.toNatClampNeg a1)) = (106 : Int32) then
                  fX7_act_264 a1 ((M.1 162 (Int32.toNatClampNeg (a1 + 1)))) ((M.1 162 (Int32.toNatClampNeg (a1 + 2)))) M
                else
                  if (M.1 162 (Int32.toNatClampNeg a1)) = (107 : Int32) then
                    fX7_act_264 a1 ((M.1 162 (Int32.toNatClampNeg (a1 + 1)))) ((M.1 162 (Int32.toNatClampNeg (a1 + 2)))) M
                  else
                    if (M.1 162 (Int32.toNatClampNeg a1)) = (108 : Int32) then
                      fX7_act_264 a1 ((M.1 162 (Int32.toNatClampNeg (a1 + 1)))) ((M.1 162 (Int32.toNatClampNeg (a1 + 2)))) M
                    else
                      if (M.1 162 (Int32.toNatClampNeg a1)) = (109 : Int32) then
                        fX7_act_264 a1 ((M.1 162 (Int32.toNatClampNeg (a1 + 1)))) ((M.1 162 (Int32.toNatClampNeg (a1 + 2)))) M
                      else
                        if (M.1 162 (Int32.toNatClampNeg a1)) = (110 : Int32) then
                          fX7_act_264 a1 ((M.1 162 (Int32.toNatClampNeg (a1 + 1)))) ((M.1 162 (Int32.toNatClampNeg (a1 + 2)))) M
                        else
                          if (M.1 162 (Int32.toNatClampNeg a1)) = (111 : Int32) then
                            fX7_act_264 a1 ((M.1 162 (Int32.toNatClampNeg (a1 + 1)))) ((M.1 162 (Int32.toNatClampNeg (a1 + 2)))) M
                          else
                            if (M.1 162 (Int32.toNatClampNeg a1)) = (112 : Int32) then
                              (fX7_refusesPlan ((M.1 162 (Int32.toNatClampNeg (a1 + 1)))) ((M.1 162 (Int32.toNatClampNeg (a1 + 2)))) ((M.1 162 (Int32.toNatClampNeg (a1 + 3)))) M).bind fun q12 =>
                              if (0 : Int32) ≤ q12.1 then
                                (fX7_putPlan ((M.1 162 (Int32.toNatClampNeg (a1 + 1)))) ((M.1 162 (Int32.toNatClampNeg (a1 + 2)))) ((M.1 162 (Int32.toNatClampNeg (a1 + 3)))) q12.2).bind fun q14 =>
                                some (1, q14)
                              else
                                some (0, q12.2)
                            else
                              if (M.1 162 (Int32.toNatClampNeg a1)) = (113 : Int32) then
                                fX7_act_264 a1 ((M.1 162 (Int32.toNatClampNeg (a1 + 1)))) ((M.1 162 (Int32.toNatClampNeg (a1 + 2)))) M
                              else
                                if (M.1 162 (Int32.toNatClampNeg a1)) = (114 : Int32) then
                                  fX7_act_264 a1 ((M.1 162 (Int32.toNatClampNeg (a1 + 1)))) ((M.1 162 (Int32.toNatClampNeg (a1 + 2)))) M
                                else
                                  if (M.1 162 (Int32.toNatClampNeg a1)) = (115 : Int32) then
                                    fX7_act_264 a1 ((M.1 162 (Int32.toNatClampNeg (a1 + 1)))) ((M.1 162 (Int32.toNatClampNeg (a1 + 2)))) M
                                  else
                                    if (M.1 162 (Int32.toNatClampNeg a1)) = (116 : Int32) then
                                      fX7_act_264 a1 ((M.1 162 (Int32.toNatClampNeg (a1 + 1)))) ((M.1 162 (Int32.toNatClampNeg (a1 + 2)))) M
                                    else
                                      if (M.1 162 (Int32.toNatClampNeg a1)) = (117 : Int32) then
                                        fX7_act_136 a1 ((M.1 162 (Int32.toNatClampNeg (a1 + 1)))) M
                                      else
                                        if (M.1 162 (Int32.toNatClampNeg a1)) = (118 : Int32) then
                                          fX7_act_264 a1 ((M.1 162 (Int32.toNatClampNeg (a1 + 1)))) ((M.1 162 (Int32.toNatClampNeg (a1 + 2)))) M
                                        else
                                          if (M.1 162 (Int32.toNatClampNeg a1)) = (119 : Int32) then
                                            fX7_act_136 a1 ((M.1 162 (Int32.toNatClampNeg (a1 + 1)))) M
                                          else
                                            if (M.1 162 (Int32.toNatClampNeg a1)) = (120 : Int32) then
                                              (fX7_goSwap  M).bind fun q15 =>
                                              if q15.1 = 0 ∨ q15.1 = 1 then some (q15.1, q15.2) else none
                                            else
                                              fX7_act_264 a1 ((M.1 162 (Int32.toNatClampNeg (a1 + 1)))) ((M.1 162 (Int32.toNatClampNeg (a1 + 2)))) M
set_option maxRecDepth 100000 in
theorem tX7_act_0 (a1 : Int32) (M : zMM) (q : Int32 × zMM) (h : fX7_act a1  M = some q) : zEV iX7_act 0 0 (zZO (some (.inl q.1), q.2)) 0 [(0, .inr (.inr 158)), (1, .inl a1)] [] M := by
  unfold fX7_act at h
  refine zEV.aload_n dX7_act_0 rfl 0 rfl ?_
  refine zEV.gfr rfl inz7 9 (by decide) wf_RX7_21 (by decide) rfl rfl dX7_act_1 ?_
  refine zEV.iload_n dX7_act_4 rfl 1 rfl ?_
  refine zEV.iconst (v := 1) dX7_act_5 rfl ?_
  refine zEV.iadd dX7_act_6 ?_
  obtain ⟨g1, h⟩ := ite_no h
  refine zEV.iald (by decide) rfl g1 dX7_act_7 ?_
  refine zEV.istore_n dX7_act_8 rfl (Nat.le_of_ble_eq_true rfl) rfl ?_
  refine zEV.aload_n dX7_act_9 rfl 1 rfl ?_
  refine zEV.gfr rfl inz7 9 (by decide) wf_RX7_21 (by decide) rfl rfl dX7_act_10 ?_
  refine zEV.iload_n dX7_act_13 rfl 2 rfl ?_
  refine zEV.iconst (v := 2) dX7_act_14 rfl ?_
  refine zEV.iadd dX7_act_15 ?_
  obtain ⟨g2, h⟩ := ite_no h
  refine zEV.iald (by decide) rfl g2 dX7_act_16 ?_
  refine zEV.istore_n dX7_act_17 rfl (Nat.le_of_ble_eq_true rfl) rfl ?_
  refine zEV.aload_n dX7_act_18 rfl 2 rfl ?_
  refine zEV.gfr rfl inz7 9 (by decide) wf_RX7_21 (by decide) rfl rfl dX7_act_19 ?_
  refine zEV.iload_n dX7_act_22 rfl 3 rfl ?_
  refine zEV.iconst (v := 3) dX7_act_23 rfl ?_
  refine zEV.iadd dX7_act_24 ?_
  obtain ⟨g3, h⟩ := ite_no h
  refine zEV.iald (by decide) rfl g3 dX7_act_25 ?_
  refine zEV.istore dX7_act_26 (Nat.le_of_ble_eq_true rfl) rfl ?_
  refine zEV.aload_n dX7_act_28 rfl 3 rfl ?_
  refine zEV.gfr rfl inz7 9 (by decide) wf_RX7_21 (by decide) rfl rfl dX7_act_29 ?_
  refine zEV.iload_n dX7_act_32 rfl 4 rfl ?_
  obtain ⟨g4, h⟩ := ite_no h
  refine zEV.iald (by decide) rfl g4 dX7_act_33 ?_
  by_cases c5_0 : (M.1 162 (Int32.toNatClampNeg a1)) = (99 : Int32)
  · rw [if_pos c5_0] at h
    refine zEV.tabIn 222 dX7_act_34 (99) c5_0 (by decide) (by decide) rfl (by decide) ?_
    refine zEV.aload_n dX7_act_222 rfl 3 rfl ?_
    refine zEV.iload_n dX7_act_223 rfl 2 rfl ?_
    refine zEV.iload_n dX7_act_224 rfl 1 rfl ?_
    refine zEV.iload dX7_act_225 0 rfl ?_
    obtain ⟨q6, hq6, h⟩ := bind_yes h
    refine zEV.callVi (kX7_refusesWord ((M.1 162 (Int32.toNatClampNeg (a1 + 1)))) ((M.1 162 (Int32.toNatClampNeg (a1 + 2)))) ((M.1 162 (Int32.toNatClampNeg (a1 + 3))))  M q6 hq6) (by decide) rfl rfl wm_RX7_267 wc_X7_refusesWord hy_X7_refusesWord rfl ⟨Nat.le_of_ble_eq_true rfl, Nat.le_of_ble_eq_true rfl⟩ rfl (Nat.le_of_ble_eq_true rfl) dX7_act_227 ?_
    refine zEV.if_ge 235 dX7_act_230 (by decide) (fun c7 => ?_) (fun c7 => ?_)
    · rw [if_pos c7] at h
      refine zEV.aload_n dX7_act_235 rfl 3 rfl ?_
      refine zEV.iload_n dX7_act_236 rfl 2 rfl ?_
      refine zEV.iload_n dX7_act_237 rfl 1 rfl ?_
      refine zEV.iload dX7_act_238 0 rfl ?_
      obtain ⟨q8, hq8, h⟩ := bind_yes h
      refine zEV.callVv (kX7_put ((M.1 162 (Int32.toNatClampNeg (a1 + 1)))) ((M.1 162 (Int32.toNatClampNeg (a1 + 2)))) ((M.1 162 (Int32.toNatClampNeg (a1 + 3))))  q6.2 q8 hq8) (by decide) rfl rfl wm_RX7_270 wc_X7_put hy_X7_put rfl ⟨Nat.le_of_ble_eq_true rfl, Nat.le_of_ble_eq_true rfl⟩ rfl (Nat.le_of_ble_eq_true rfl) dX7_act_240 ?_
      refine zEV.iconst (v := 1) dX7_act_243 rfl ?_
      have h := Option.some.inj h
      subst h
      exact zEV.zret rfl (Or.inr rfl) dX7_act_244
    · rw [if_neg c7] at h
      refine zEV.iconst (v := 0) dX7_act_233 rfl ?_
      have h := Option.some.inj h
      subst h
      exact zEV.zret rfl (Or.inl rfl) dX7_act_234
  · rw [if_neg c5_0] at h
    by_cases c5_1 : (M.1 162 (Int32.toNatClampNeg a1)) = (100 : Int32)
    · rw [if_pos c5_1] at h
      refine zEV.tabIn 264 dX7_act_34 (100) c5_1 (by decide) (by decide) rfl (by decide) ?_
      exact zEV.perm [3, 2, 1] rfl (tX7_act_264 a1 ((M.1 162 (Int32.toNatClampNeg (a1 + 1)))) ((M.1 162 (Int32.toNatClampNeg (a1 + 2)))) M q h)
    · rw [if_neg c5_1] at h
      by_cases c5_2 : (M.1 162 (Int32.toNatClampNeg a1)) = (101 : Int32)
      · rw [if_pos c5_2] at h
        refine zEV.tabIn 264 dX7_act_34 (101) c5_2 (by decide) (by decide) rfl (by decide) ?_
        exact zEV.perm [3, 2, 1] rfl (tX7_act_264 a1 ((M.1 162 (Int32.toNatClampNeg (a1 + 1)))) ((M.1 162 (Int32.toNatClampNeg (a1 + 2)))) M q h)
      · rw [if_neg c5_2] at h
        by_cases c5_3 : (M.1 162 (Int32.toNatClampNeg a1)) = (102 : Int32)
        · rw [if_pos c5_3] at h
          refine zEV.tabIn 264 dX7_act_34 (102) c5_3 (by decide) (by decide) rfl (by decide) ?_
          exact zEV.perm [3, 2, 1] rfl (tX7_act_264 a1 ((M.1 162 (Int32.toNatClampNeg (a1 + 1)))) ((M.1 162 (Int32.toNatClampNeg (a1 + 2)))) M q h)
        · rw [if_neg c5_3] at h
          by_cases c5_4 : (M.1 162 (Int32.toNatClampNeg a1)) = (103 : Int32)
          · rw [if_pos c5_4] at h
            refine zEV.tabIn 245 dX7_act_34 (103) c5_4 (by decide) (by decide) rfl (by decide) ?_
            refine zEV.aload_n dX7_act_245 rfl 3 rfl ?_
            refine zEV.iload_n dX7_act_246 rfl 2 rfl ?_
            refine zEV.iload_n dX7_act_247 rfl 1 rfl ?_
            obtain ⟨q9, hq9, h⟩ := bind_yes h
            refine zEV.callVi (kX7_isWord ((M.1 162 (Int32.toNatClampNeg (a1 + 1)))) ((M.1 162 (Int32.toNatClampNeg (a1 + 2))))  M q9 hq9) (by decide) rfl rfl wm_RX7_121 wc_X7_isWord hy_X7_isWord rfl ⟨Nat.le_of_ble_eq_true rfl, Nat.le_of_ble_eq_true rfl⟩ rfl (Nat.le_of_ble_eq_true rfl) dX7_act_248 ?_
            refine zEV.if_ne 256 dX7_act_251 (by decide) (fun c10 => ?_) (fun c10 => ?_)
            · rw [if_neg c10] at h
              refine zEV.aload_n dX7_act_256 rfl 3 rfl ?_
              refine zEV.iload_n dX7_act_257 rfl 2 rfl ?_
              refine zEV.iload_n dX7_act_258 rfl 1 rfl ?_
              obtain ⟨q11, hq11, h⟩ := bind_yes h
              refine zEV.callVv (kX7_drop ((M.1 162 (Int32.toNatClampNeg (a1 + 1)))) ((M.1 162 (Int32.toNatClampNeg (a1 + 2))))  q9.2 q11 hq11) (by decide) rfl rfl wm_RX7_273 wc_X7_drop hy_X7_drop rfl ⟨Nat.le_of_ble_eq_true rfl, Nat.le_of_ble_eq_true rfl⟩ rfl (Nat.le_of_ble_eq_true rfl) dX7_act_259 ?_
              refine zEV.iconst (v := 1) dX7_act_262 rfl ?_
              have h := Option.some.inj h
              subst h
              exact zEV.zret rfl (Or.inr rfl) dX7_act_263
            · rw [if_pos c10] at h
              refine zEV.iconst (v := 0) dX7_act_254 rfl ?_
              have h := Option.some.inj h
              subst h
              exact zEV.zret rfl (Or.inl rfl) dX7_act_255
          · rw [if_neg c5_4] at h
            by_cases c5_5 : (M.1 162 (Int32.toNatClampNeg a1)) = (104 : Int32)
            · rw [if_pos c5_5] at h
              refine zEV.tabIn 136 dX7_act_34 (104) c5_5 (by decide) (by decide) rfl (by decide) ?_
              exact zEV.perm [3, 4, 2] rfl (tX7_act_136 a1 ((M.1 162 (Int32.toNatClampNeg (a1 + 1)))) M q h)
            · rw [if_neg c5_5] at h
              by_cases c5_6 : (M.1 162 (Int32.toNatClampNeg a1)) = (105 : Int32)
              · rw [if_pos c5_6] at h
                refine zEV.tabIn 264 dX7_act_34 (105) c5_6 (by decide) (by decide) rfl (by decide) ?_
                exact zEV.perm [3, 2, 1] rfl (tX7_act_264 a1 ((M.1 162 (Int32.toNatClampNeg (a1 + 1)))) ((M.1 162 (Int32.toNatClampNeg (a1 + 2)))) M q h)
              · rw [if_neg c5_6] at h
                by_cases c5_7 : (M.1 162 (Int32.toNatClampNeg a1)) = (106 : Int32)
                · rw [if_pos c5_7] at h
                  refine zEV.tabIn 264 dX7_act_34 (106) c5_7 (by decide) (by decide) rfl (by decide) ?_
                  exact zEV.perm [3, 2, 1] rfl (tX7_act_264 a1 ((M.1 162 (Int32.toNatClampNeg (a1 + 1)))) ((M.1 162 (Int32.toNatClampNeg (a1 + 2)))) M q h)
                · rw [if_neg c5_7] at h
                  by_cases c5_8 : (M.1 162 (Int32.toNatClampNeg a1)) = (107 : Int32)
                  · rw [if_pos c5_8] at h
                    refine zEV.tabIn 264 dX7_act_34 (107) c5_8 (by decide) (by decide) rfl (by decide) ?_
                    exact zEV.perm [3, 2, 1] rfl (tX7_act_264 a1 ((M.1 162 (Int32.toNatClampNeg (a1 + 1)))) ((M.1 162 (Int32.toNatClampNeg (a1 + 2)))) M q h)
                  · rw [if_neg c5_8] at h
                    by_cases c5_9 : (M.1 162 (Int32.toNatClampNeg a1)) = (108 : Int32)
                    · rw [if_pos c5_9] at h
                      refine zEV.tabIn 264 dX7_act_34 (108) c5_9 (by decide) (by decide) rfl (by decide) ?_
                      exact zEV.perm [3, 2, 1] rfl (tX7_act_264 a1 ((M.1 162 (Int32.toNatClampNeg (a1 + 1)))) ((M.1 162 (Int32.toNatClampNeg (a1 + 2)))) M q h)
                    · rw [if_neg c5_9] at h
                      by_cases c5_10 : (M.1 162 (Int32.toNatClampNeg a1)) = (109 : Int32)
                      · rw [if_pos c5_10] at h
                        refine zEV.tabIn 264 dX7_act_34 (109) c5_10 (by decide) (by decide) rfl (by decide) ?_
                        exact zEV.perm [3, 2, 1] rfl (tX7_act_264 a1 ((M.1 162 (Int32.toNatClampNeg (a1 + 1)))) ((M.1 162 (Int32.toNatClampNeg (a1 + 2)))) M q h)
                      · rw [if_neg c5_10] at h
                        by_cases c5_11 : (M.1 162 (Int32.toNatClampNeg a1)) = (110 : Int32)
                        · rw [if_pos c5_11] at h
                          refine zEV.tabIn 264 dX7_act_34 (110) c5_11 (by decide) (by decide) rfl (by decide) ?_
                          exact zEV.perm [3, 2, 1] rfl (tX7_act_264 a1 ((M.1 162 (Int32.toNatClampNeg (a1 + 1)))) ((M.1 162 (Int32.toNatClampNeg (a1 + 2)))) M q h)
                        · rw [if_neg c5_11] at h
                          by_cases c5_12 : (M.1 162 (Int32.toNatClampNeg a1)) = (111 : Int32)
                          · rw [if_pos c5_12] at h
                            refine zEV.tabIn 264 dX7_act_34 (111) c5_12 (by decide) (by decide) rfl (by decide) ?_
                            exact zEV.perm [3, 2, 1] rfl (tX7_act_264 a1 ((M.1 162 (Int32.toNatClampNeg (a1 + 1)))) ((M.1 162 (Int32.toNatClampNeg (a1 + 2)))) M q h)
                          · rw [if_neg c5_12] at h
                            by_cases c5_13 : (M.1 162 (Int32.toNatClampNeg a1)) = (112 : Int32)
                            · rw [if_pos c5_13] at h
                              refine zEV.tabIn 199 dX7_act_34 (112) c5_13 (by decide) (by decide) rfl (by decide) ?_
                              refine zEV.aload_n dX7_act_199 rfl 3 rfl ?_
                              refine zEV.iload_n dX7_act_200 rfl 2 rfl ?_
                              refine zEV.iload_n dX7_act_201 rfl 1 rfl ?_
                              refine zEV.iload dX7_act_202 0 rfl ?_
                              obtain ⟨q12, hq12, h⟩ := bind_yes h
                              refine zEV.callVi (kX7_refusesPlan ((M.1 162 (Int32.toNatClampNeg (a1 + 1)))) ((M.1 162 (Int32.toNatClampNeg (a1 + 2)))) ((M.1 162 (Int32.toNatClampNeg (a1 + 3))))  M q12 hq12) (by decide) rfl rfl wm_RX7_291 wc_X7_refusesPlan hy_X7_refusesPlan rfl ⟨Nat.le_of_ble_eq_true rfl, Nat.le_of_ble_eq_true rfl⟩ rfl (Nat.le_of_ble_eq_true rfl) dX7_act_204 ?_
                              refine zEV.if_ge 212 dX7_act_207 (by decide) (fun c13 => ?_) (fun c13 => ?_)
                              · rw [if_pos c13] at h
                                refine zEV.aload_n dX7_act_212 rfl 3 rfl ?_
                                refine zEV.iload_n dX7_act_213 rfl 2 rfl ?_
                                refine zEV.iload_n dX7_act_214 rfl 1 rfl ?_
                                refine zEV.iload dX7_act_215 0 rfl ?_
                                obtain ⟨q14, hq14, h⟩ := bind_yes h
                                refine zEV.callVv (kX7_putPlan ((M.1 162 (Int32.toNatClampNeg (a1 + 1)))) ((M.1 162 (Int32.toNatClampNeg (a1 + 2)))) ((M.1 162 (Int32.toNatClampNeg (a1 + 3))))  q12.2 q14 hq14) (by decide) rfl rfl wm_RX7_233 wc_X7_putPlan hy_X7_putPlan rfl ⟨Nat.le_of_ble_eq_true rfl, Nat.le_of_ble_eq_true rfl⟩ rfl (Nat.le_of_ble_eq_true rfl) dX7_act_217 ?_
                                refine zEV.iconst (v := 1) dX7_act_220 rfl ?_
                                have h := Option.some.inj h
                                subst h
                                exact zEV.zret rfl (Or.inr rfl) dX7_act_221
                              · rw [if_neg c13] at h
                                refine zEV.iconst (v := 0) dX7_act_210 rfl ?_
                                have h := Option.some.inj h
                                subst h
                                exact zEV.zret rfl (Or.inl rfl) dX7_act_211
                            · rw [if_neg c5_13] at h
                              by_cases c5_14 : (M.1 162 (Int32.toNatClampNeg a1)) = (113 : Int32)
                              · rw [if_pos c5_14] at h
                                refine zEV.tabIn 264 dX7_act_34 (113) c5_14 (by decide) (by decide) rfl (by decide) ?_
                                exact zEV.perm [3, 2, 1] rfl (tX7_act_264 a1 ((M.1 162 (Int32.toNatClampNeg (a1 + 1)))) ((M.1 162 (Int32.toNatClampNeg (a1 + 2)))) M q h)
                              · rw [if_neg c5_14] at h
                                by_cases c5_15 : (M.1 162 (Int32.toNatClampNeg a1)) = (114 : Int32)
                                · rw [if_pos c5_15] at h
                                  refine zEV.tabIn 264 dX7_act_34 (114) c5_15 (by decide) (by decide) rfl (by decide) ?_
                                  exact zEV.perm [3, 2, 1] rfl (tX7_act_264 a1 ((M.1 162 (Int32.toNatClampNeg (a1 + 1)))) ((M.1 162 (Int32.toNatClampNeg (a1 + 2)))) M q h)
                                · rw [if_neg c5_15] at h
                                  by_cases c5_16 : (M.1 162 (Int32.toNatClampNeg a1)) = (115 : Int32)
                                  · rw [if_pos c5_16] at h
                                    refine zEV.tabIn 264 dX7_act_34 (115) c5_16 (by decide) (by decide) rfl (by decide) ?_
                                    exact zEV.perm [3, 2, 1] rfl (tX7_act_264 a1 ((M.1 162 (Int32.toNatClampNeg (a1 + 1)))) ((M.1 162 (Int32.toNatClampNeg (a1 + 2)))) M q h)
                                  · rw [if_neg c5_16] at h
                                    by_cases c5_17 : (M.1 162 (Int32.toNatClampNeg a1)) = (116 : Int32)
                                    · rw [if_pos c5_17] at h
                                      refine zEV.tabIn 264 dX7_act_34 (116) c5_17 (by decide) (by decide) rfl (by decide) ?_
                                      exact zEV.perm [3, 2, 1] rfl (tX7_act_264 a1 ((M.1 162 (Int32.toNatClampNeg (a1 + 1)))) ((M.1 162 (Int32.toNatClampNeg (a1 + 2)))) M q h)
                                    · rw [if_neg c5_17] at h
                                      by_cases c5_18 : (M.1 162 (Int32.toNatClampNeg a1)) = (117 : Int32)
                                      · rw [if_pos c5_18] at h
                                        refine zEV.tabIn 136 dX7_act_34 (117) c5_18 (by decide) (by decide) rfl (by decide) ?_
                                        exact zEV.perm [3, 4, 2] rfl (tX7_act_136 a1 ((M.1 162 (Int32.toNatClampNeg (a1 + 1)))) M q h)
                                      · rw [if_neg c5_18] at h
                                        by_cases c5_19 : (M.1 162 (Int32.toNatClampNeg a1)) = (118 : Int32)
                                        · rw [if_pos c5_19] at h
                                          refine zEV.tabIn 264 dX7_act_34 (118) c5_19 (by decide) (by decide) rfl (by decide) ?_
                                          exact zEV.perm [3, 2, 1] rfl (tX7_act_264 a1 ((M.1 162 (Int32.toNatClampNeg (a1 + 1)))) ((M.1 162 (Int32.toNatClampNeg (a1 + 2)))) M q h)
                                        · rw [if_neg c5_19] at h
                                          by_cases c5_20 : (M.1 162 (Int32.toNatClampNeg a1)) = (119 : Int32)
                                          · rw [if_pos c5_20] at h
                                            refine zEV.tabIn 136 dX7_act_34 (119) c5_20 (by decide) (by decide) rfl (by decide) ?_
                                            exact zEV.perm [3, 4, 2] rfl (tX7_act_136 a1 ((M.1 162 (Int32.toNatClampNeg (a1 + 1)))) M q h)
                                          · rw [if_neg c5_20] at h
                                            by_cases c5_21 : (M.1 162 (Int32.toNatClampNeg a1)) = (120 : Int32)
                                            · rw [if_pos c5_21] at h
                                              refine zEV.tabIn 194 dX7_act_34 (120) c5_21 (by decide) (by decide) rfl (by decide) ?_
                                              refine zEV.aload_n dX7_act_194 rfl 3 rfl ?_
                                              obtain ⟨q15, hq15, h⟩ := bind_yes h
                                              refine zEV.callVi (kX7_goSwap   M q15 hq15) (by decide) rfl rfl wm_RX7_297 wc_X7_goSwap hy_X7_goSwap rfl ⟨Nat.le_of_ble_eq_true rfl, Nat.le_of_ble_eq_true rfl⟩ rfl (Nat.le_of_ble_eq_true rfl) dX7_act_195 ?_
                                              obtain ⟨g16, h⟩ := ite_yes h
                                              have h := Option.some.inj h
                                              subst h
                                              exact zEV.zret rfl g16 dX7_act_198
                                            · rw [if_neg c5_21] at h
                                              refine zEV.tabOut 264 21 dX7_act_34 (by decide) (by decide) rfl (fun k hk => ?_) (by decide) ?_
                                              · match k, hk with
                                                | 0, _ => exact c5_0
                                                | 1, _ => exact c5_1
                                                | 2, _ => exact c5_2
                                                | 3, _ => exact c5_3
                                                | 4, _ => exact c5_4
                                                | 5, _ => exact c5_5
                                                | 6, _ => exact c5_6
                                                | 7, _ => exact c5_7
                                                | 8, _ => exact c5_8
                                                | 9, _ => exact c5_9
                                                | 10, _ => exact c5_10
                                                | 11, _ => exact c5_11
                                                | 12, _ => exact c5_12
                                                | 13, _ => exact c5_13
                                                | 14, _ => exact c5_14
                                                | 15, _ => exact c5_15
                                                | 16, _ => exact c5_16
                                                | 17, _ => exact c5_17
                                                | 18, _ => exact c5_18
                                                | 19, _ => exact c5_19
                                                | 20, _ => exact c5_20
                                                | 21, _ => exact c5_21
                                                | k + 22, hk => exact absurd hk (by omega)
                                              exact zEV.perm [3, 2, 1] rfl (tX7_act_264 a1 ((M.1 162 (Int32.toNatClampNeg (a1 + 1)))) ((M.1 162 (Int32.toNatClampNeg (a1 + 2)))) M q h)
theorem kX7_act (a1 : Int32) (M : zMM) (q : Int32 × zMM) (h : fX7_act a1 M = some q) : zCN yX7_act iX7_act [.inr (.inr 158), .inl a1] M (some (.inl q.1), q.2) :=
  zCN.of (by decide) rfl rfl (Nat.le_of_ble_eq_true rfl) (zEV.perm [0, 1] rfl (tX7_act_0 a1 M q h))
-- RingedPageModel.day
def fX7_day_107 (l2 : Int32) (s0 : Int64) (M : zMM) : Option (Int32 × zMM) :=
  (fX7_tell (s0) M).bind fun q1 =>
  (fX7_costNow  q1).bind fun q2 =>
  (fX7_tell ((Int32.toInt64 q2.1)) q2.2).bind fun q3 =>
  some (l2, q3)
set_option maxRecDepth 100000 in
theorem tX7_day_107 (l2 : Int32) (s0 : Int64) (M : zMM) (q : Int32 × zMM) (h : fX7_day_107 l2 s0 M = some q) : zEV iX7_day 0 0 (zZO (some (.inl q.1), q.2)) 107 [(0, .inr (.inr 158)), (2, .inl l2)] [.inr (.inl s0), .inr (.inr 158)] M := by
  unfold fX7_day_107 at h
  obtain ⟨q1, hq1, h⟩ := bind_yes h
  refine zEV.callVv (kX7_tell (s0)  M q1 hq1) (by decide) rfl rfl wm_RX7_135 wc_X7_tell hy_X7_tell rfl ⟨Nat.le_of_ble_eq_true rfl, Nat.le_of_ble_eq_true rfl⟩ rfl (Nat.le_of_ble_eq_true rfl) dX7_day_107 ?_
  refine zEV.aload_n dX7_day_110 rfl 0 rfl ?_
  refine zEV.aload_n dX7_day_111 rfl 0 rfl ?_
  obtain ⟨q2, hq2, h⟩ := bind_yes h
  refine zEV.callVi (kX7_costNow   q1 q2 hq2) (by decide) rfl rfl wm_RX7_217 wc_X7_costNow hy_X7_costNow rfl ⟨Nat.le_of_ble_eq_true rfl, Nat.le_of_ble_eq_true rfl⟩ rfl (Nat.le_of_ble_eq_true rfl) dX7_day_112 ?_
  refine zEV.i2l dX7_day_115 ?_
  obtain ⟨q3, hq3, h⟩ := bind_yes h
  refine zEV.callVv (kX7_tell ((Int32.toInt64 q2.1))  q2.2 q3 hq3) (by decide) rfl rfl wm_RX7_135 wc_X7_tell hy_X7_tell rfl ⟨Nat.le_of_ble_eq_true rfl, Nat.le_of_ble_eq_true rfl⟩ rfl (Nat.le_of_ble_eq_true rfl) dX7_day_116 ?_
  refine zEV.iload_n dX7_day_119 rfl 1 rfl ?_
  have h := Option.some.inj h
  subst h
  exact zEV.iret rfl dX7_day_120
def fX7_day_91 (l1 : Int32) (l2 : Int32) (M : zMM) : Option (Int32 × zMM) :=
  if l1 ≤ l2 then
    fX7_day_107 (l2) ((0 : Int64)) (wr M 158 4 0)
  else
    fX7_day_107 (l2) ((1 : Int64)) (wr M 158 4 0)
set_option maxRecDepth 100000 in
theorem tX7_day_91 (l1 : Int32) (l2 : Int32) (M : zMM) (q : Int32 × zMM) (h : fX7_day_91 l1 l2 M = some q) : zEV iX7_day 0 0 (zZO (some (.inl q.1), q.2)) 91 [(0, .inr (.inr 158)), (1, .inl l1), (2, .inl l2)] [] M := by
  unfold fX7_day_91 at h
  refine zEV.aload_n dX7_day_91 rfl 0 rfl ?_
  refine zEV.iconst (v := 0) dX7_day_92 rfl ?_
  refine zEV.pfi rfl inz7 tyX7 tyX7_ok nmX7 4 (by decide) wf_RX7_62 rfl (by decide +kernel) (by decide) rfl rfl dX7_day_93 ?_
  refine zEV.aload_n dX7_day_96 rfl 0 rfl ?_
  refine zEV.iload_n dX7_day_97 rfl 2 rfl ?_
  refine zEV.iload_n dX7_day_98 rfl 1 rfl ?_
  refine zEV.icmp_ge 106 dX7_day_99 (by decide) (fun c1 => ?_) (fun c1 => ?_)
  · rw [if_pos c1] at h
    refine zEV.lconst (v := 0) dX7_day_106 rfl ?_
    exact zEV.perm [0, 2] rfl (tX7_day_107 (l2) ((0 : Int64)) (wr M 158 4 0) q h)
  · rw [if_neg c1] at h
    refine zEV.lconst (v := 1) dX7_day_102 rfl ?_
    refine zEV.goto 107 dX7_day_103 (by decide) ?_
    exact zEV.perm [0, 2] rfl (tX7_day_107 (l2) ((1 : Int64)) (wr M 158 4 0) q h)
def fX7_day_83 (l1 : Int32) (l2 : Int32) (M : zMM) : Option (Int32 × zMM) :=
  if l2 ≤ (0 : Int32) then
    fX7_day_91 (l1) (l2) M
  else
    (fX7_note  M).bind fun q2 =>
    fX7_day_91 (l1) (l2) q2
set_option maxRecDepth 100000 in
theorem tX7_day_83 (l1 : Int32) (l2 : Int32) (M : zMM) (q : Int32 × zMM) (h : fX7_day_83 l1 l2 M = some q) : zEV iX7_day 0 0 (zZO (some (.inl q.1), q.2)) 83 [(0, .inr (.inr 158)), (1, .inl l1), (2, .inl l2)] [] M := by
  unfold fX7_day_83 at h
  refine zEV.iload_n dX7_day_83 rfl 2 rfl ?_
  refine zEV.if_le 91 dX7_day_84 (by decide) (fun c1 => ?_) (fun c1 => ?_)
  · rw [if_pos c1] at h
    exact zEV.perm [0, 1, 2] rfl (tX7_day_91 (l1) (l2) M q h)
  · rw [if_neg c1] at h
    refine zEV.aload_n dX7_day_87 rfl 0 rfl ?_
    obtain ⟨q2, hq2, h⟩ := bind_yes h
    refine zEV.callVv (kX7_note   M q2 hq2) (by decide) rfl rfl wm_RX7_282 wc_X7_note hy_X7_note rfl ⟨Nat.le_of_ble_eq_true rfl, Nat.le_of_ble_eq_true rfl⟩ rfl (Nat.le_of_ble_eq_true rfl) dX7_day_88 ?_
    exact zEV.perm [0, 1, 2] rfl (tX7_day_91 (l1) (l2) q2 q h)
def fX7_day_62 : Nat → Int32 → Int32 → zMM → Option (Int32 × zMM)
  | 0, _, _, _ => none
  | n + 1, l1, l2, M =>
  if l1 ≤ l2 then
    fX7_day_83 (l1) (l2) M
  else
    (fX7_act ((4 * l2)) M).bind fun q2 =>
    if q2.1 = (0 : Int32) then
      fX7_day_83 (l1) (l2) q2.2
    else
      fX7_day_62 n (l1) ((l2 + 1)) q2.2
set_option maxRecDepth 100000 in
theorem tX7_day_62 : ∀ (n : Nat) (l1 : Int32) (l2 : Int32) (M : zMM) (q : Int32 × zMM), fX7_day_62 n l1 l2 M = some q → zEV iX7_day 0 0 (zZO (some (.inl q.1), q.2)) 62 [(0, .inr (.inr 158)), (1, .inl l1), (2, .inl l2)] [] M := by
  intro n
  induction n with
  | zero =>
    intro l1 l2 M q h
    rw [fX7_day_62] at h
    cases h
  | succ n ih =>
    intro l1 l2 M q h
    rw [fX7_day_62] at h
    refine zEV.iload_n dX7_day_62 rfl 2 rfl ?_
    refine zEV.iload_n dX7_day_63 rfl 1 rfl ?_
    refine zEV.icmp_ge 83 dX7_day_64 (by decide) (fun c1 => ?_) (fun c1 => ?_)
    · rw [if_pos c1] at h
      exact zEV.perm [0, 1, 2] rfl (tX7_day_83 (l1) (l2) M q h)
    · rw [if_neg c1] at h
      refine zEV.aload_n dX7_day_67 rfl 0 rfl ?_
      refine zEV.iconst (v := 4) dX7_day_68 rfl ?_
      refine zEV.iload_n dX7_day_69 rfl 2 rfl ?_
      refine zEV.imul dX7_day_70 ?_
      obtain ⟨q2, hq2, h⟩ := bind_yes h
      refine zEV.callVi (kX7_act ((4 * l2))  M q2 hq2) (by decide) rfl rfl wm_RX7_310 wc_X7_act hy_X7_act rfl ⟨Nat.le_of_ble_eq_true rfl, Nat.le_of_ble_eq_true rfl⟩ rfl (Nat.le_of_ble_eq_true rfl) dX7_day_71 ?_
      refine zEV.if_eq 83 dX7_day_74 (by decide) (fun c3 => ?_) (fun c3 => ?_)
      · rw [if_pos c3] at h
        exact zEV.perm [0, 1, 2] rfl (tX7_day_83 (l1) (l2) q2.2 q h)
      · rw [if_neg c3] at h
        refine zEV.iinc (v := (l2 + 1)) dX7_day_77 2 rfl rfl (Nat.le_of_ble_eq_true rfl) rfl ?_
        refine zEV.goto 62 dX7_day_80 (by decide) ?_
        exact zEV.perm [1, 2, 0] rfl (ih (l1) ((l2 + 1)) q2.2 q h)
def fX7_day_42 (l1 : Int32) (M : zMM) : Option (Int32 × zMM) :=
  (fX7_wasRight  M).bind fun q1 =>
  if q1.1 = (0 : Int32) then
    some (((-1) - (q1.2.1 158 8)), q1.2)
  else
    (fX7_lay  q1.2).bind fun q3 =>
    fX7_day_62 zFU (l1) (0) q3
set_option maxRecDepth 100000 in
theorem tX7_day_42 (l1 : Int32) (M : zMM) (q : Int32 × zMM) (h : fX7_day_42 l1 M = some q) : zEV iX7_day 0 0 (zZO (some (.inl q.1), q.2)) 42 [(0, .inr (.inr 158)), (1, .inl l1)] [] M := by
  unfold fX7_day_42 at h
  refine zEV.aload_n dX7_day_42 rfl 0 rfl ?_
  obtain ⟨q1, hq1, h⟩ := bind_yes h
  refine zEV.callVi (kX7_wasRight   M q1 hq1) (by decide) rfl rfl wm_RX7_104 wc_X7_wasRight hy_X7_wasRight rfl ⟨Nat.le_of_ble_eq_true rfl, Nat.le_of_ble_eq_true rfl⟩ rfl (Nat.le_of_ble_eq_true rfl) dX7_day_43 ?_
  refine zEV.if_ne 56 dX7_day_46 (by decide) (fun c2 => ?_) (fun c2 => ?_)
  · rw [if_neg c2] at h
    refine zEV.aload_n dX7_day_56 rfl 0 rfl ?_
    obtain ⟨q3, hq3, h⟩ := bind_yes h
    refine zEV.callVv (kX7_lay   q1.2 q3 hq3) (by decide) rfl rfl wm_RX7_279 wc_X7_lay hy_X7_lay rfl ⟨Nat.le_of_ble_eq_true rfl, Nat.le_of_ble_eq_true rfl⟩ rfl (Nat.le_of_ble_eq_true rfl) dX7_day_57 ?_
    refine zEV.iconst (v := 0) dX7_day_60 rfl ?_
    refine zEV.istore_n dX7_day_61 rfl (Nat.le_of_ble_eq_true rfl) rfl ?_
    exact zEV.perm [1, 2, 0] rfl (tX7_day_62 zFU (l1) (0) q3 q h)
  · rw [if_pos c2] at h
    refine zEV.iconst (v := (-1)) dX7_day_49 rfl ?_
    refine zEV.aload_n dX7_day_50 rfl 0 rfl ?_
    refine zEV.gfi rfl inz7 8 (by decide) wf_RX7_82 (by decide) rfl rfl dX7_day_51 ?_
    refine zEV.isub dX7_day_54 ?_
    have h := Option.some.inj h
    subst h
    exact zEV.iret rfl dX7_day_55
def fX7_day_11 : Nat → Int32 → zMM → Option (Int32 × zMM)
  | 0, _, _ => none
  | n + 1, l1, M =>
  (fX7_fine  M).bind fun q1 =>
  if q1.1 = (0 : Int32) then
    fX7_day_42 (l1) q1.2
  else
    if (q1.2.1 158 6) ≤ (q1.2.1 158 7) then
      fX7_day_42 (l1) q1.2
    else
      (fX7_readAct ((4 * l1)) q1.2).bind fun q4 =>
      fX7_day_11 n ((l1 + 1)) q4
set_option maxRecDepth 100000 in
theorem tX7_day_11 : ∀ (n : Nat) (l1 : Int32) (M : zMM) (q : Int32 × zMM), fX7_day_11 n l1 M = some q → zEV iX7_day 0 0 (zZO (some (.inl q.1), q.2)) 11 [(0, .inr (.inr 158)), (1, .inl l1)] [] M := by
  intro n
  induction n with
  | zero =>
    intro l1 M q h
    rw [fX7_day_11] at h
    cases h
  | succ n ih =>
    intro l1 M q h
    rw [fX7_day_11] at h
    refine zEV.aload_n dX7_day_11 rfl 0 rfl ?_
    obtain ⟨q1, hq1, h⟩ := bind_yes h
    refine zEV.callVi (kX7_fine   M q1 hq1) (by decide) rfl rfl wm_RX7_85 wc_X7_fine hy_X7_fine rfl ⟨Nat.le_of_ble_eq_true rfl, Nat.le_of_ble_eq_true rfl⟩ rfl (Nat.le_of_ble_eq_true rfl) dX7_day_12 ?_
    refine zEV.if_eq 42 dX7_day_15 (by decide) (fun c2 => ?_) (fun c2 => ?_)
    · rw [if_pos c2] at h
      exact zEV.perm [0, 1] rfl (tX7_day_42 (l1) q1.2 q h)
    · rw [if_neg c2] at h
      refine zEV.aload_n dX7_day_18 rfl 0 rfl ?_
      refine zEV.gfi rfl inz7 7 (by decide) wf_RX7_79 (by decide) rfl rfl dX7_day_19 ?_
      refine zEV.aload_n dX7_day_22 rfl 0 rfl ?_
      refine zEV.gfi rfl inz7 6 (by decide) wf_RX7_76 (by decide) rfl rfl dX7_day_23 ?_
      refine zEV.icmp_ge 42 dX7_day_26 (by decide) (fun c3 => ?_) (fun c3 => ?_)
      · rw [if_pos c3] at h
        exact zEV.perm [0, 1] rfl (tX7_day_42 (l1) q1.2 q h)
      · rw [if_neg c3] at h
        refine zEV.aload_n dX7_day_29 rfl 0 rfl ?_
        refine zEV.iconst (v := 4) dX7_day_30 rfl ?_
        refine zEV.iload_n dX7_day_31 rfl 1 rfl ?_
        refine zEV.imul dX7_day_32 ?_
        obtain ⟨q4, hq4, h⟩ := bind_yes h
        refine zEV.callVv (kX7_readAct ((4 * l1))  q1.2 q4 hq4) (by decide) rfl rfl wm_RX7_307 wc_X7_readAct hy_X7_readAct rfl ⟨Nat.le_of_ble_eq_true rfl, Nat.le_of_ble_eq_true rfl⟩ rfl (Nat.le_of_ble_eq_true rfl) dX7_day_33 ?_
        refine zEV.iinc (v := (l1 + 1)) dX7_day_36 1 rfl rfl (Nat.le_of_ble_eq_true rfl) rfl ?_
        refine zEV.goto 11 dX7_day_39 (by decide) ?_
        exact zEV.perm [1, 0] rfl (ih ((l1 + 1)) q4 q h)
def fX7_day (M : zMM) : Option (Int32 × zMM) :=
  (fX7_begin  (wr M 158 5 0)).bind fun q1 =>
  fX7_day_11 zFU (0) q1
set_option maxRecDepth 100000 in
theorem tX7_day_0 (M : zMM) (q : Int32 × zMM) (h : fX7_day  M = some q) : zEV iX7_day 0 0 (zZO (some (.inl q.1), q.2)) 0 [(0, .inr (.inr 158))] [] M := by
  unfold fX7_day at h
  refine zEV.aload_n dX7_day_0 rfl 0 rfl ?_
  refine zEV.iconst (v := 0) dX7_day_1 rfl ?_
  refine zEV.pfi rfl inz7 tyX7 tyX7_ok nmX7 5 (by decide) wf_RX7_58 rfl (by decide +kernel) (by decide) rfl rfl dX7_day_2 ?_
  refine zEV.aload_n dX7_day_5 rfl 0 rfl ?_
  obtain ⟨q1, hq1, h⟩ := bind_yes h
  refine zEV.callVv (kX7_begin   (wr M 158 5 0) q1 hq1) (by decide) rfl rfl wm_RX7_101 wc_X7_begin hy_X7_begin rfl ⟨Nat.le_of_ble_eq_true rfl, Nat.le_of_ble_eq_true rfl⟩ rfl (Nat.le_of_ble_eq_true rfl) dX7_day_6 ?_
  refine zEV.iconst (v := 0) dX7_day_9 rfl ?_
  refine zEV.istore_n dX7_day_10 rfl (Nat.le_of_ble_eq_true rfl) rfl ?_
  exact zEV.perm [1, 0] rfl (tX7_day_11 zFU (0) q1 q h)
theorem kX7_day (M : zMM) (q : Int32 × zMM) (h : fX7_day M = some q) : zCN yX7_day iX7_day [.inr (.inr 158)] M (some (.inl q.1), q.2) :=
  zCN.of (by decide) rfl rfl (Nat.le_of_ble_eq_true rfl) (zEV.perm [0] rfl (tX7_day_0 M q h))
-- RingedPageModel.undo
def fX7_undo_26 : Nat → Int32 → zMM → Option (Int32 × zMM)
  | 0, _, _ => none
  | n + 1, l1, M =>
  if (259 : Int32) ≤ l1 then
    some ((M.1 158 24), M)
  else
    if oob (((259 * (M.1 158 24)) + l1)) 1813 then none else
    if oob (l1) 259 then none else
    fX7_undo_26 n ((l1 + 1)) (wr M 159 (Int32.toNatClampNeg l1) (M.1 170 (Int32.toNatClampNeg ((259 * (M.1 158 24)) + l1))))
set_option maxRecDepth 100000 in
theorem tX7_undo_26 : ∀ (n : Nat) (l1 : Int32) (M : zMM) (q : Int32 × zMM), fX7_undo_26 n l1 M = some q → zEV iX7_undo 0 0 (zZO (some (.inl q.1), q.2)) 26 [(0, .inr (.inr 158)), (1, .inl l1)] [] M := by
  intro n
  induction n with
  | zero =>
    intro l1 M q h
    rw [fX7_undo_26] at h
    cases h
  | succ n ih =>
    intro l1 M q h
    rw [fX7_undo_26] at h
    refine zEV.iload_n dX7_undo_26 rfl 1 rfl ?_
    refine zEV.sipush (v := 259) dX7_undo_27 rfl ?_
    refine zEV.icmp_ge 60 dX7_undo_30 (by decide) (fun c1 => ?_) (fun c1 => ?_)
    · rw [if_pos c1] at h
      refine zEV.aload_n dX7_undo_60 rfl 0 rfl ?_
      refine zEV.gfi rfl inz7 24 (by decide) wf_RX7_276 (by decide) rfl rfl dX7_undo_61 ?_
      have h := Option.some.inj h
      subst h
      exact zEV.iret rfl dX7_undo_64
    · rw [if_neg c1] at h
      refine zEV.aload_n dX7_undo_33 rfl 0 rfl ?_
      refine zEV.gfr rfl inz7 0 (by decide) wf_RX7_9 (by decide) rfl rfl dX7_undo_34 ?_
      refine zEV.iload_n dX7_undo_37 rfl 1 rfl ?_
      refine zEV.aload_n dX7_undo_38 rfl 0 rfl ?_
      refine zEV.gfr rfl inz7 22 (by decide) wf_RX7_45 (by decide) rfl rfl dX7_undo_39 ?_
      refine zEV.sipush (v := 259) dX7_undo_42 rfl ?_
      refine zEV.aload_n dX7_undo_45 rfl 0 rfl ?_
      refine zEV.gfi rfl inz7 24 (by decide) wf_RX7_276 (by decide) rfl rfl dX7_undo_46 ?_
      refine zEV.imul dX7_undo_49 ?_
      refine zEV.iload_n dX7_undo_50 rfl 1 rfl ?_
      refine zEV.iadd dX7_undo_51 ?_
      obtain ⟨g2, h⟩ := ite_no h
      refine zEV.iald (by decide) rfl g2 dX7_undo_52 ?_
      obtain ⟨g3, h⟩ := ite_no h
      refine zEV.iast (by decide) rfl g3 dX7_undo_53 ?_
      refine zEV.iinc (v := (l1 + 1)) dX7_undo_54 1 rfl rfl (Nat.le_of_ble_eq_true rfl) rfl ?_
      refine zEV.goto 26 dX7_undo_57 (by decide) ?_
      exact zEV.perm [1, 0] rfl (ih ((l1 + 1)) (wr M 159 (Int32.toNatClampNeg l1) (M.1 170 (Int32.toNatClampNeg ((259 * (M.1 158 24)) + l1)))) q h)
def fX7_undo (M : zMM) : Option (Int32 × zMM) :=
  if ((wr M 158 5 0).1 158 24) = (0 : Int32) then
    some ((-1), (wr M 158 5 0))
  else
    fX7_undo_26 zFU (0) (wr (wr M 158 5 0) 158 24 (((wr M 158 5 0).1 158 24) - 1))
set_option maxRecDepth 100000 in
theorem tX7_undo_0 (M : zMM) (q : Int32 × zMM) (h : fX7_undo  M = some q) : zEV iX7_undo 0 0 (zZO (some (.inl q.1), q.2)) 0 [(0, .inr (.inr 158))] [] M := by
  unfold fX7_undo at h
  refine zEV.aload_n dX7_undo_0 rfl 0 rfl ?_
  refine zEV.iconst (v := 0) dX7_undo_1 rfl ?_
  refine zEV.pfi rfl inz7 tyX7 tyX7_ok nmX7 5 (by decide) wf_RX7_58 rfl (by decide +kernel) (by decide) rfl rfl dX7_undo_2 ?_
  refine zEV.aload_n dX7_undo_5 rfl 0 rfl ?_
  refine zEV.gfi rfl inz7 24 (by decide) wf_RX7_276 (by decide) rfl rfl dX7_undo_6 ?_
  refine zEV.if_ne 14 dX7_undo_9 (by decide) (fun c1 => ?_) (fun c1 => ?_)
  · rw [if_neg c1] at h
    refine zEV.aload_n dX7_undo_14 rfl 0 rfl ?_
    refine zEV.dup dX7_undo_15 rfl ?_
    refine zEV.gfi rfl inz7 24 (by decide) wf_RX7_276 (by decide) rfl rfl dX7_undo_16 ?_
    refine zEV.iconst (v := 1) dX7_undo_19 rfl ?_
    refine zEV.isub dX7_undo_20 ?_
    refine zEV.pfi rfl inz7 tyX7 tyX7_ok nmX7 24 (by decide) wf_RX7_276 rfl (by decide +kernel) (by decide) rfl rfl dX7_undo_21 ?_
    refine zEV.iconst (v := 0) dX7_undo_24 rfl ?_
    refine zEV.istore_n dX7_undo_25 rfl (Nat.le_of_ble_eq_true rfl) rfl ?_
    exact zEV.perm [1, 0] rfl (tX7_undo_26 zFU (0) (wr (wr M 158 5 0) 158 24 (((wr M 158 5 0).1 158 24) - 1)) q h)
  · rw [if_pos c1] at h
    refine zEV.iconst (v := (-1)) dX7_undo_12 rfl ?_
    have h := Option.some.inj h
    subst h
    exact zEV.iret rfl dX7_undo_13
theorem kX7_undo (M : zMM) (q : Int32 × zMM) (h : fX7_undo M = some q) : zCN yX7_undo iX7_undo [.inr (.inr 158)] M (some (.inl q.1), q.2) :=
  zCN.of (by decide) rfl rfl (Nat.le_of_ble_eq_true rfl) (zEV.perm [0] rfl (tX7_undo_0 M q h))
-- RingedPageModel.draw
def fX7_draw (a1 : Int32) (M : zMM) : Option (Int32 × zMM) :=
  if a1 = 0 then none else
  some (((Int32.toUInt32 ((wr M 158 25 (((M.1 158 25) * (1103515245)) + 12345)).1 158 25) >>> (Int32.toUInt32 16 &&& Int32.toUInt32 31)).toInt32 - (Int32.toUInt32 ((wr M 158 25 (((M.1 158 25) * (1103515245)) + 12345)).1 158 25) >>> (Int32.toUInt32 16 &&& Int32.toUInt32 31)).toInt32 / a1 * a1), (wr M 158 25 (((M.1 158 25) * (1103515245)) + 12345)))
set_option maxRecDepth 100000 in
theorem tX7_draw_0 (a1 : Int32) (M : zMM) (q : Int32 × zMM) (h : fX7_draw a1  M = some q) : zEV iX7_draw 0 0 (zZO (some (.inl q.1), q.2)) 0 [(0, .inr (.inr 158)), (1, .inl a1)] [] M := by
  unfold fX7_draw at h
  refine zEV.aload_n dX7_draw_0 rfl 0 rfl ?_
  refine zEV.aload_n dX7_draw_1 rfl 0 rfl ?_
  refine zEV.gfi rfl inz7 25 (by decide) wf_RX7_313 (by decide) rfl rfl dX7_draw_2 ?_
  refine zEV.ldcw wk_RX7_316 dX7_draw_5 ?_
  refine zEV.imul dX7_draw_8 ?_
  refine zEV.sipush (v := 12345) dX7_draw_9 rfl ?_
  refine zEV.iadd dX7_draw_12 ?_
  refine zEV.pfi rfl inz7 tyX7 tyX7_ok nmX7 25 (by decide) wf_RX7_313 rfl (by decide +kernel) (by decide) rfl rfl dX7_draw_13 ?_
  refine zEV.aload_n dX7_draw_16 rfl 0 rfl ?_
  refine zEV.gfi rfl inz7 25 (by decide) wf_RX7_313 (by decide) rfl rfl dX7_draw_17 ?_
  refine zEV.bipush (v := 16) dX7_draw_20 rfl ?_
  refine zEV.iushr dX7_draw_22 ?_
  refine zEV.iload_n dX7_draw_23 rfl 1 rfl ?_
  obtain ⟨g1, h⟩ := ite_no h
  refine zEV.irem dX7_draw_24 g1 ?_
  have h := Option.some.inj h
  subst h
  exact zEV.iret rfl dX7_draw_25
theorem kX7_draw (a1 : Int32) (M : zMM) (q : Int32 × zMM) (h : fX7_draw a1 M = some q) : zCN yX7_draw iX7_draw [.inr (.inr 158), .inl a1] M (some (.inl q.1), q.2) :=
  zCN.of (by decide) rfl rfl (Nat.le_of_ble_eq_true rfl) (zEV.perm [0, 1] rfl (tX7_draw_0 a1 M q h))
-- RingedPageModel.years
def fX7_years_103 (a1 : Int32) (a2 : Int32) : Nat → Int32 → zMM → Option (Int32 × zMM)
  | 0, _, _ => none
  | n + 1, l3, M =>
  if (3 : Int32) ≤ l3 then
    (fX7_comesBack  M).bind fun q2 =>
    some ((q2.1 158 14), q2)
  else
    if oob ((5 + l3)) 259 then none else
    (fX7_tell ((Int32.toInt64 (M.1 159 (Int32.toNatClampNeg (5 + l3))))) M).bind fun q4 =>
    fX7_years_103 a1 a2 n ((l3 + 1)) q4
set_option maxRecDepth 100000 in
theorem tX7_years_103 (a1 : Int32) (a2 : Int32) : ∀ (n : Nat) (l3 : Int32) (M : zMM) (q : Int32 × zMM), fX7_years_103 a1 a2 n l3 M = some q → zEV iX7_years 0 0 (zZO (some (.inl q.1), q.2)) 103 [(0, .inr (.inr 158)), (3, .inl l3)] [] M := by
  intro n
  induction n with
  | zero =>
    intro l3 M q h
    rw [fX7_years_103] at h
    cases h
  | succ n ih =>
    intro l3 M q h
    rw [fX7_years_103] at h
    refine zEV.iload_n dX7_years_103 rfl 1 rfl ?_
    refine zEV.iconst (v := 3) dX7_years_104 rfl ?_
    refine zEV.icmp_ge 127 dX7_years_105 (by decide) (fun c1 => ?_) (fun c1 => ?_)
    · rw [if_pos c1] at h
      refine zEV.aload_n dX7_years_127 rfl 0 rfl ?_
      obtain ⟨q2, hq2, h⟩ := bind_yes h
      refine zEV.callVv (kX7_comesBack   M q2 hq2) (by decide) rfl rfl wm_RX7_237 wc_X7_comesBack hy_X7_comesBack rfl ⟨Nat.le_of_ble_eq_true rfl, Nat.le_of_ble_eq_true rfl⟩ rfl (Nat.le_of_ble_eq_true rfl) dX7_years_128 ?_
      refine zEV.aload_n dX7_years_131 rfl 0 rfl ?_
      refine zEV.gfi rfl inz7 14 (by decide) wf_RX7_154 (by decide) rfl rfl dX7_years_132 ?_
      have h := Option.some.inj h
      subst h
      exact zEV.iret rfl dX7_years_135
    · rw [if_neg c1] at h
      refine zEV.aload_n dX7_years_108 rfl 0 rfl ?_
      refine zEV.aload_n dX7_years_109 rfl 0 rfl ?_
      refine zEV.gfr rfl inz7 0 (by decide) wf_RX7_9 (by decide) rfl rfl dX7_years_110 ?_
      refine zEV.iconst (v := 5) dX7_years_113 rfl ?_
      refine zEV.iload_n dX7_years_114 rfl 1 rfl ?_
      refine zEV.iadd dX7_years_115 ?_
      obtain ⟨g3, h⟩ := ite_no h
      refine zEV.iald (by decide) rfl g3 dX7_years_116 ?_
      refine zEV.i2l dX7_years_117 ?_
      obtain ⟨q4, hq4, h⟩ := bind_yes h
      refine zEV.callVv (kX7_tell ((Int32.toInt64 (M.1 159 (Int32.toNatClampNeg (5 + l3)))))  M q4 hq4) (by decide) rfl rfl wm_RX7_135 wc_X7_tell hy_X7_tell rfl ⟨Nat.le_of_ble_eq_true rfl, Nat.le_of_ble_eq_true rfl⟩ rfl (Nat.le_of_ble_eq_true rfl) dX7_years_118 ?_
      refine zEV.iinc (v := (l3 + 1)) dX7_years_121 1 rfl rfl (Nat.le_of_ble_eq_true rfl) rfl ?_
      refine zEV.goto 103 dX7_years_124 (by decide) ?_
      exact zEV.perm [1, 0] rfl (ih ((l3 + 1)) q4 q h)
def fX7_years_81 (K28 : Int32 → zMM → Option (Int32 × zMM)) (a1 : Int32) (a2 : Int32) (l3 : Int32) (M : zMM) : Option (Int32 × zMM) :=
  K28 ((l3 + 1)) M
set_option maxRecDepth 100000 in
theorem tX7_years_81 (K28 : Int32 → zMM → Option (Int32 × zMM)) (a1 : Int32) (a2 : Int32) (hK28 : ∀ (l3 : Int32) (M : zMM) (q : Int32 × zMM), K28 l3 M = some q → zEV iX7_years 0 0 (zZO (some (.inl q.1), q.2)) 28 [(0, .inr (.inr 158)), (2, .inl a2), (3, .inl l3)] [] M) (l3 : Int32) (M : zMM) (q : Int32 × zMM) (h : fX7_years_81 K28 a1 a2 l3 M = some q) : zEV iX7_years 0 0 (zZO (some (.inl q.1), q.2)) 81 [(0, .inr (.inr 158)), (2, .inl a2), (3, .inl l3)] [] M := by
  unfold fX7_years_81 at h
  refine zEV.iinc (v := (l3 + 1)) dX7_years_81 2 rfl rfl (Nat.le_of_ble_eq_true rfl) rfl ?_
  refine zEV.goto 28 dX7_years_84 (by decide) ?_
  exact zEV.perm [1, 2, 0] rfl (hK28 ((l3 + 1)) M q h)
def fX7_years_28 (a1 : Int32) (a2 : Int32) : Nat → Int32 → zMM → Option (Int32 × zMM)
  | 0, _, _ => none
  | n + 1, l3, M =>
  if a2 ≤ l3 then
    (fX7_costNow  (wr M 158 4 0)).bind fun q2 =>
    (fX7_tell ((Int32.toInt64 q2.1)) q2.2).bind fun q3 =>
    fX7_years_103 a1 a2 zFU (0) q3
  else
    (fX7_draw (3) M).bind fun q4 =>
    (fX7_draw (9) q4.2).bind fun q5 =>
    if oob ((5 + q4.1)) 259 then none else
    if (70 : Int32) ≤ (q5.2.1 159 (Int32.toNatClampNeg (5 + q4.1))) then
      fX7_years_81 (fX7_years_28 a1 a2 n) a1 a2 (l3) q5.2
    else
      (fX7_put (q4.1) ((q5.2.1 159 (Int32.toNatClampNeg (5 + q4.1)))) ((q5.1 + 1)) q5.2).bind fun q8 =>
      fX7_years_81 (fX7_years_28 a1 a2 n) a1 a2 (l3) q8
set_option maxRecDepth 100000 in
theorem tX7_years_28 (a1 : Int32) (a2 : Int32) : ∀ (n : Nat) (l3 : Int32) (M : zMM) (q : Int32 × zMM), fX7_years_28 a1 a2 n l3 M = some q → zEV iX7_years 0 0 (zZO (some (.inl q.1), q.2)) 28 [(0, .inr (.inr 158)), (2, .inl a2), (3, .inl l3)] [] M := by
  intro n
  induction n with
  | zero =>
    intro l3 M q h
    rw [fX7_years_28] at h
    cases h
  | succ n ih =>
    intro l3 M q h
    rw [fX7_years_28] at h
    refine zEV.iload_n dX7_years_28 rfl 2 rfl ?_
    refine zEV.iload_n dX7_years_29 rfl 1 rfl ?_
    refine zEV.icmp_ge 87 dX7_years_30 (by decide) (fun c1 => ?_) (fun c1 => ?_)
    · rw [if_pos c1] at h
      refine zEV.aload_n dX7_years_87 rfl 0 rfl ?_
      refine zEV.iconst (v := 0) dX7_years_88 rfl ?_
      refine zEV.pfi rfl inz7 tyX7 tyX7_ok nmX7 4 (by decide) wf_RX7_62 rfl (by decide +kernel) (by decide) rfl rfl dX7_years_89 ?_
      refine zEV.aload_n dX7_years_92 rfl 0 rfl ?_
      refine zEV.aload_n dX7_years_93 rfl 0 rfl ?_
      obtain ⟨q2, hq2, h⟩ := bind_yes h
      refine zEV.callVi (kX7_costNow   (wr M 158 4 0) q2 hq2) (by decide) rfl rfl wm_RX7_217 wc_X7_costNow hy_X7_costNow rfl ⟨Nat.le_of_ble_eq_true rfl, Nat.le_of_ble_eq_true rfl⟩ rfl (Nat.le_of_ble_eq_true rfl) dX7_years_94 ?_
      refine zEV.i2l dX7_years_97 ?_
      obtain ⟨q3, hq3, h⟩ := bind_yes h
      refine zEV.callVv (kX7_tell ((Int32.toInt64 q2.1))  q2.2 q3 hq3) (by decide) rfl rfl wm_RX7_135 wc_X7_tell hy_X7_tell rfl ⟨Nat.le_of_ble_eq_true rfl, Nat.le_of_ble_eq_true rfl⟩ rfl (Nat.le_of_ble_eq_true rfl) dX7_years_98 ?_
      refine zEV.iconst (v := 0) dX7_years_101 rfl ?_
      refine zEV.istore_n dX7_years_102 rfl (Nat.le_of_ble_eq_true rfl) rfl ?_
      exact zEV.perm [1, 0] rfl (tX7_years_103 a1 a2 zFU (0) q3 q h)
    · rw [if_neg c1] at h
      refine zEV.aload_n dX7_years_33 rfl 0 rfl ?_
      refine zEV.iconst (v := 3) dX7_years_34 rfl ?_
      obtain ⟨q4, hq4, h⟩ := bind_yes h
      refine zEV.callVi (kX7_draw (3)  M q4 hq4) (by decide) rfl rfl wm_RX7_317 wc_X7_draw hy_X7_draw rfl ⟨Nat.le_of_ble_eq_true rfl, Nat.le_of_ble_eq_true rfl⟩ rfl (Nat.le_of_ble_eq_true rfl) dX7_years_35 ?_
      refine zEV.istore dX7_years_38 (Nat.le_of_ble_eq_true rfl) rfl ?_
      refine zEV.aload_n dX7_years_40 rfl 1 rfl ?_
      refine zEV.bipush (v := 9) dX7_years_41 rfl ?_
      obtain ⟨q5, hq5, h⟩ := bind_yes h
      refine zEV.callVi (kX7_draw (9)  q4.2 q5 hq5) (by decide) rfl rfl wm_RX7_317 wc_X7_draw hy_X7_draw rfl ⟨Nat.le_of_ble_eq_true rfl, Nat.le_of_ble_eq_true rfl⟩ rfl (Nat.le_of_ble_eq_true rfl) dX7_years_43 ?_
      refine zEV.iconst (v := 1) dX7_years_46 rfl ?_
      refine zEV.iadd dX7_years_47 ?_
      refine zEV.istore dX7_years_48 (Nat.le_of_ble_eq_true rfl) rfl ?_
      refine zEV.aload_n dX7_years_50 rfl 2 rfl ?_
      refine zEV.gfr rfl inz7 0 (by decide) wf_RX7_9 (by decide) rfl rfl dX7_years_51 ?_
      refine zEV.iconst (v := 5) dX7_years_54 rfl ?_
      refine zEV.iload dX7_years_55 1 rfl ?_
      refine zEV.iadd dX7_years_57 ?_
      obtain ⟨g6, h⟩ := ite_no h
      refine zEV.iald (by decide) rfl g6 dX7_years_58 ?_
      refine zEV.bipush (v := 70) dX7_years_59 rfl ?_
      refine zEV.icmp_ge 81 dX7_years_61 (by decide) (fun c7 => ?_) (fun c7 => ?_)
      · rw [if_pos c7] at h
        exact zEV.perm [2, 3, 4] rfl (tX7_years_81 (fX7_years_28 a1 a2 n) a1 a2 (fun l3 M9 q9 h9 => ih l3 M9 q9 h9) (l3) q5.2 q h)
      · rw [if_neg c7] at h
        refine zEV.aload_n dX7_years_64 rfl 2 rfl ?_
        refine zEV.iload dX7_years_65 1 rfl ?_
        refine zEV.aload_n dX7_years_67 rfl 2 rfl ?_
        refine zEV.gfr rfl inz7 0 (by decide) wf_RX7_9 (by decide) rfl rfl dX7_years_68 ?_
        refine zEV.iconst (v := 5) dX7_years_71 rfl ?_
        refine zEV.iload dX7_years_72 1 rfl ?_
        refine zEV.iadd dX7_years_74 ?_
        refine zEV.iald (by decide) rfl g6 dX7_years_75 ?_
        refine zEV.iload dX7_years_76 0 rfl ?_
        obtain ⟨q8, hq8, h⟩ := bind_yes h
        refine zEV.callVv (kX7_put (q4.1) ((q5.2.1 159 (Int32.toNatClampNeg (5 + q4.1)))) ((q5.1 + 1))  q5.2 q8 hq8) (by decide) rfl rfl wm_RX7_270 wc_X7_put hy_X7_put rfl ⟨Nat.le_of_ble_eq_true rfl, Nat.le_of_ble_eq_true rfl⟩ rfl (Nat.le_of_ble_eq_true rfl) dX7_years_78 ?_
        exact zEV.perm [2, 3, 4] rfl (tX7_years_81 (fX7_years_28 a1 a2 n) a1 a2 (fun l3 M9 q9 h9 => ih l3 M9 q9 h9) (l3) q8 q h)
def fX7_years (a1 : Int32) (a2 : Int32) (M : zMM) : Option (Int32 × zMM) :=
  (fX7_in (a2) (1) (30) (wr M 158 5 0)).bind fun q1 =>
  if q1.1 = (0 : Int32) then
    some ((-1), q1.2)
  else
    (fX7_layAside  (wr q1.2 158 25 a1)).bind fun q3 =>
    fX7_years_28 a1 a2 zFU (0) q3
set_option maxRecDepth 100000 in
theorem tX7_years_0 (a1 : Int32) (a2 : Int32) (M : zMM) (q : Int32 × zMM) (h : fX7_years a1 a2  M = some q) : zEV iX7_years 0 0 (zZO (some (.inl q.1), q.2)) 0 [(0, .inr (.inr 158)), (1, .inl a1), (2, .inl a2)] [] M := by
  unfold fX7_years at h
  refine zEV.aload_n dX7_years_0 rfl 0 rfl ?_
  refine zEV.iconst (v := 0) dX7_years_1 rfl ?_
  refine zEV.pfi rfl inz7 tyX7 tyX7_ok nmX7 5 (by decide) wf_RX7_58 rfl (by decide +kernel) (by decide) rfl rfl dX7_years_2 ?_
  refine zEV.iload_n dX7_years_5 rfl 2 rfl ?_
  refine zEV.iconst (v := 1) dX7_years_6 rfl ?_
  refine zEV.bipush (v := 30) dX7_years_7 rfl ?_
  obtain ⟨q1, hq1, h⟩ := bind_yes h
  refine zEV.callSi (kX7_in (a2) (1) (30)  (wr M 158 5 0) q1 hq1) wm_RX7_65 wc_X7_in hy_X7_in rfl ⟨Nat.le_of_ble_eq_true rfl, Nat.le_of_ble_eq_true rfl⟩ rfl (Nat.le_of_ble_eq_true rfl) dX7_years_9 ?_
  refine zEV.if_ne 17 dX7_years_12 (by decide) (fun c2 => ?_) (fun c2 => ?_)
  · rw [if_neg c2] at h
    refine zEV.aload_n dX7_years_17 rfl 0 rfl ?_
    refine zEV.iload_n dX7_years_18 rfl 1 rfl ?_
    refine zEV.pfi rfl inz7 tyX7 tyX7_ok nmX7 25 (by decide) wf_RX7_313 rfl (by decide +kernel) (by decide) rfl rfl dX7_years_19 ?_
    refine zEV.aload_n dX7_years_22 rfl 0 rfl ?_
    obtain ⟨q3, hq3, h⟩ := bind_yes h
    refine zEV.callVv (kX7_layAside   (wr q1.2 158 25 a1) q3 hq3) (by decide) rfl rfl wm_RX7_230 wc_X7_layAside hy_X7_layAside rfl ⟨Nat.le_of_ble_eq_true rfl, Nat.le_of_ble_eq_true rfl⟩ rfl (Nat.le_of_ble_eq_true rfl) dX7_years_23 ?_
    refine zEV.iconst (v := 0) dX7_years_26 rfl ?_
    refine zEV.istore_n dX7_years_27 rfl (Nat.le_of_ble_eq_true rfl) rfl ?_
    exact zEV.perm [1, 3, 0] rfl (tX7_years_28 a1 a2 zFU (0) q3 q h)
  · rw [if_pos c2] at h
    refine zEV.iconst (v := (-1)) dX7_years_15 rfl ?_
    have h := Option.some.inj h
    subst h
    exact zEV.iret rfl dX7_years_16
theorem kX7_years (a1 : Int32) (a2 : Int32) (M : zMM) (q : Int32 × zMM) (h : fX7_years a1 a2 M = some q) : zCN yX7_years iX7_years [.inr (.inr 158), .inl a1, .inl a2] M (some (.inl q.1), q.2) :=
  zCN.of (by decide) rfl rfl (Nat.le_of_ble_eq_true rfl) (zEV.perm [0, 1, 2] rfl (tX7_years_0 a1 a2 M q h))
