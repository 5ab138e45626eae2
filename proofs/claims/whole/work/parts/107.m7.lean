-- RingedPageModel.sign
def fX7_sign_20 (a1 : Int32) : Nat → Int32 → zMM → Option (Int32 × zMM)
  | 0, _, _ => none
  | n + 1, l2, M =>
  if l2 < (0 : Int32) then
    some ((M.1 158 2), M)
  else
    if oob ((M.1 158 2)) 80 then none else
    fX7_sign_20 a1 n ((l2 + (-1))) (wr (wr M 158 2 ((M.1 158 2) + 1)) 160 (Int32.toNatClampNeg (M.1 158 2)) (vp_nar .byte (Int32.toInt8 (a1 >>> ((8 * l2) &&& 31))).toInt32))
set_option maxRecDepth 100000 in
theorem tX7_sign_20 (a1 : Int32) : ∀ (n : Nat) (l2 : Int32) (M : zMM) (q : Int32 × zMM), fX7_sign_20 a1 n l2 M = some q → zEV iX7_sign 0 0 (zZO (some (.inl q.1), q.2)) 20 [(0, .inr (.inr 158)), (1, .inl a1), (2, .inl l2)] [] M := by
  intro n
  induction n with
  | zero =>
    intro l2 M q h
    rw [fX7_sign_20] at h
    cases h
  | succ n ih =>
    intro l2 M q h
    rw [fX7_sign_20] at h
    refine zEV.iload_n dX7_sign_20 rfl 2 rfl ?_
    refine zEV.if_lt 53 dX7_sign_21 (by decide) (fun c1 => ?_) (fun c1 => ?_)
    · rw [if_pos c1] at h
      refine zEV.aload_n dX7_sign_53 rfl 0 rfl ?_
      refine zEV.gfi rfl inz7 2 (by decide) wf_RX7_73 (by decide) rfl rfl dX7_sign_54 ?_
      have h := Option.some.inj h
      subst h
      exact zEV.iret rfl dX7_sign_57
    · rw [if_neg c1] at h
      refine zEV.aload_n dX7_sign_24 rfl 0 rfl ?_
      refine zEV.gfr rfl inz7 1 (by decide) wf_RX7_13 (by decide) rfl rfl dX7_sign_25 ?_
      refine zEV.aload_n dX7_sign_28 rfl 0 rfl ?_
      refine zEV.dup dX7_sign_29 rfl ?_
      refine zEV.gfi rfl inz7 2 (by decide) wf_RX7_73 (by decide) rfl rfl dX7_sign_30 ?_
      refine zEV.dup_x1 dX7_sign_33 rfl rfl ?_
      refine zEV.iconst (v := 1) dX7_sign_34 rfl ?_
      refine zEV.iadd dX7_sign_35 ?_
      refine zEV.pfi rfl inz7 tyX7 tyX7_ok nmX7 2 (by decide) wf_RX7_73 rfl (by decide +kernel) (by decide) rfl rfl dX7_sign_36 ?_
      refine zEV.iload_n dX7_sign_39 rfl 1 rfl ?_
      refine zEV.bipush (v := 8) dX7_sign_40 rfl ?_
      refine zEV.iload_n dX7_sign_42 rfl 2 rfl ?_
      refine zEV.imul dX7_sign_43 ?_
      refine zEV.ishr dX7_sign_44 ?_
      refine zEV.i2b dX7_sign_45 ?_
      obtain ⟨g2, h⟩ := ite_no h
      refine zEV.bast (by decide) rfl g2 dX7_sign_46 ?_
      refine zEV.iinc (v := (l2 + (-1))) dX7_sign_47 2 rfl rfl (Nat.le_of_ble_eq_true rfl) rfl ?_
      refine zEV.goto 20 dX7_sign_50 (by decide) ?_
      exact zEV.perm [1, 2, 0] rfl (ih ((l2 + (-1))) (wr (wr M 158 2 ((M.1 158 2) + 1)) 160 (Int32.toNatClampNeg (M.1 158 2)) (vp_nar .byte (Int32.toInt8 (a1 >>> ((8 * l2) &&& 31))).toInt32)) q h)
def fX7_sign (a1 : Int32) (M : zMM) : Option (Int32 × zMM) :=
  if (((wr M 158 5 0).1 158 2) + 4) ≤ 80 then
    fX7_sign_20 a1 zFU (3) (wr M 158 5 0)
  else
    some ((-1), (wr M 158 5 0))
set_option maxRecDepth 100000 in
theorem tX7_sign_0 (a1 : Int32) (M : zMM) (q : Int32 × zMM) (h : fX7_sign a1  M = some q) : zEV iX7_sign 0 0 (zZO (some (.inl q.1), q.2)) 0 [(0, .inr (.inr 158)), (1, .inl a1)] [] M := by
  unfold fX7_sign at h
  refine zEV.aload_n dX7_sign_0 rfl 0 rfl ?_
  refine zEV.iconst (v := 0) dX7_sign_1 rfl ?_
  refine zEV.pfi rfl inz7 tyX7 tyX7_ok nmX7 5 (by decide) wf_RX7_58 rfl (by decide +kernel) (by decide) rfl rfl dX7_sign_2 ?_
  refine zEV.aload_n dX7_sign_5 rfl 0 rfl ?_
  refine zEV.gfi rfl inz7 2 (by decide) wf_RX7_73 (by decide) rfl rfl dX7_sign_6 ?_
  refine zEV.iconst (v := 4) dX7_sign_9 rfl ?_
  refine zEV.iadd dX7_sign_10 ?_
  refine zEV.bipush (v := 80) dX7_sign_11 rfl ?_
  refine zEV.icmp_le 18 dX7_sign_13 (by decide) (fun c1 => ?_) (fun c1 => ?_)
  · rw [if_pos c1] at h
    refine zEV.iconst (v := 3) dX7_sign_18 rfl ?_
    refine zEV.istore_n dX7_sign_19 rfl (Nat.le_of_ble_eq_true rfl) rfl ?_
    exact zEV.perm [1, 2, 0] rfl (tX7_sign_20 a1 zFU (3) (wr M 158 5 0) q h)
  · rw [if_neg c1] at h
    refine zEV.iconst (v := (-1)) dX7_sign_16 rfl ?_
    have h := Option.some.inj h
    subst h
    exact zEV.iret rfl dX7_sign_17
theorem kX7_sign (a1 : Int32) (M : zMM) (q : Int32 × zMM) (h : fX7_sign a1 M = some q) : zCN yX7_sign iX7_sign [.inr (.inr 158), .inl a1] M (some (.inl q.1), q.2) :=
  zCN.of (by decide) rfl rfl (Nat.le_of_ble_eq_true rfl) (zEV.perm [0, 1] rfl (tX7_sign_0 a1 M q h))
-- RingedPageModel.end
def fX7_end (a1 : Int32) (M : zMM) : Option (Int32 × zMM) :=
  (fX7_in (a1) (0) (((wr M 158 5 0).1 158 2)) (wr M 158 5 0)).bind fun q1 =>
  if q1.1 = (0 : Int32) then
    some (0, q1.2)
  else
    some (1, (wr q1.2 158 2 a1))
set_option maxRecDepth 100000 in
theorem tX7_end_0 (a1 : Int32) (M : zMM) (q : Int32 × zMM) (h : fX7_end a1  M = some q) : zEV iX7_end 0 0 (zZO (some (.inl q.1), q.2)) 0 [(0, .inr (.inr 158)), (1, .inl a1)] [] M := by
  unfold fX7_end at h
  refine zEV.aload_n dX7_end_0 rfl 0 rfl ?_
  refine zEV.iconst (v := 0) dX7_end_1 rfl ?_
  refine zEV.pfi rfl inz7 tyX7 tyX7_ok nmX7 5 (by decide) wf_RX7_58 rfl (by decide +kernel) (by decide) rfl rfl dX7_end_2 ?_
  refine zEV.iload_n dX7_end_5 rfl 1 rfl ?_
  refine zEV.iconst (v := 0) dX7_end_6 rfl ?_
  refine zEV.aload_n dX7_end_7 rfl 0 rfl ?_
  refine zEV.gfi rfl inz7 2 (by decide) wf_RX7_73 (by decide) rfl rfl dX7_end_8 ?_
  obtain ⟨q1, hq1, h⟩ := bind_yes h
  refine zEV.callSi (kX7_in (a1) (0) (((wr M 158 5 0).1 158 2))  (wr M 158 5 0) q1 hq1) wm_RX7_65 wc_X7_in hy_X7_in rfl ⟨Nat.le_of_ble_eq_true rfl, Nat.le_of_ble_eq_true rfl⟩ rfl (Nat.le_of_ble_eq_true rfl) dX7_end_11 ?_
  refine zEV.if_ne 19 dX7_end_14 (by decide) (fun c2 => ?_) (fun c2 => ?_)
  · rw [if_neg c2] at h
    refine zEV.aload_n dX7_end_19 rfl 0 rfl ?_
    refine zEV.iload_n dX7_end_20 rfl 1 rfl ?_
    refine zEV.pfi rfl inz7 tyX7 tyX7_ok nmX7 2 (by decide) wf_RX7_73 rfl (by decide +kernel) (by decide) rfl rfl dX7_end_21 ?_
    refine zEV.iconst (v := 1) dX7_end_24 rfl ?_
    have h := Option.some.inj h
    subst h
    exact zEV.zret rfl (Or.inr rfl) dX7_end_25
  · rw [if_pos c2] at h
    refine zEV.iconst (v := 0) dX7_end_17 rfl ?_
    have h := Option.some.inj h
    subst h
    exact zEV.zret rfl (Or.inl rfl) dX7_end_18
theorem kX7_end (a1 : Int32) (M : zMM) (q : Int32 × zMM) (h : fX7_end a1 M = some q) : zCN yX7_end iX7_end [.inr (.inr 158), .inl a1] M (some (.inl q.1), q.2) :=
  zCN.of (by decide) rfl rfl (Nat.le_of_ble_eq_true rfl) (zEV.perm [0, 1] rfl (tX7_end_0 a1 M q h))
-- RingedPageModel.begin
def fX7_begin (M : zMM) : Option (zMM) :=
  some (wr (wr (wr (wr M 158 6 (M.1 158 2)) 158 7 0) 158 8 (-1)) 158 2 0)
set_option maxRecDepth 100000 in
theorem tX7_begin_0 (M : zMM) (q : zMM) (h : fX7_begin  M = some q) : zEV iX7_begin 0 0 (zZO (none, q)) 0 [(0, .inr (.inr 158))] [] M := by
  unfold fX7_begin at h
  refine zEV.aload_n dX7_begin_0 rfl 0 rfl ?_
  refine zEV.aload_n dX7_begin_1 rfl 0 rfl ?_
  refine zEV.gfi rfl inz7 2 (by decide) wf_RX7_73 (by decide) rfl rfl dX7_begin_2 ?_
  refine zEV.pfi rfl inz7 tyX7 tyX7_ok nmX7 6 (by decide) wf_RX7_76 rfl (by decide +kernel) (by decide) rfl rfl dX7_begin_5 ?_
  refine zEV.aload_n dX7_begin_8 rfl 0 rfl ?_
  refine zEV.iconst (v := 0) dX7_begin_9 rfl ?_
  refine zEV.pfi rfl inz7 tyX7 tyX7_ok nmX7 7 (by decide) wf_RX7_79 rfl (by decide +kernel) (by decide) rfl rfl dX7_begin_10 ?_
  refine zEV.aload_n dX7_begin_13 rfl 0 rfl ?_
  refine zEV.iconst (v := (-1)) dX7_begin_14 rfl ?_
  refine zEV.pfi rfl inz7 tyX7 tyX7_ok nmX7 8 (by decide) wf_RX7_82 rfl (by decide +kernel) (by decide) rfl rfl dX7_begin_15 ?_
  refine zEV.aload_n dX7_begin_18 rfl 0 rfl ?_
  refine zEV.iconst (v := 0) dX7_begin_19 rfl ?_
  refine zEV.pfi rfl inz7 tyX7 tyX7_ok nmX7 2 (by decide) wf_RX7_73 rfl (by decide +kernel) (by decide) rfl rfl dX7_begin_20 ?_
  have h := Option.some.inj h
  subst h
  exact zEV.vret rfl dX7_begin_23
theorem kX7_begin (M : zMM) (q : zMM) (h : fX7_begin M = some q) : zCN yX7_begin iX7_begin [.inr (.inr 158)] M (none, q) :=
  zCN.of (by decide) rfl rfl (Nat.le_of_ble_eq_true rfl) (zEV.perm [0] rfl (tX7_begin_0 M q h))
-- RingedPageModel.here
def fX7_here (M : zMM) : Option (Int32 × zMM) :=
  if (M.1 158 6) ≤ (M.1 158 7) then
    some ((-1), M)
  else
    if oob ((M.1 158 7)) 80 then none else
    some (((M.1 160 (Int32.toNatClampNeg (M.1 158 7))) &&& 255), M)
set_option maxRecDepth 100000 in
theorem tX7_here_0 (M : zMM) (q : Int32 × zMM) (h : fX7_here  M = some q) : zEV iX7_here 0 0 (zZO (some (.inl q.1), q.2)) 0 [(0, .inr (.inr 158))] [] M := by
  unfold fX7_here at h
  refine zEV.aload_n dX7_here_0 rfl 0 rfl ?_
  refine zEV.gfi rfl inz7 7 (by decide) wf_RX7_79 (by decide) rfl rfl dX7_here_1 ?_
  refine zEV.aload_n dX7_here_4 rfl 0 rfl ?_
  refine zEV.gfi rfl inz7 6 (by decide) wf_RX7_76 (by decide) rfl rfl dX7_here_5 ?_
  refine zEV.icmp_ge 27 dX7_here_8 (by decide) (fun c1 => ?_) (fun c1 => ?_)
  · rw [if_pos c1] at h
    refine zEV.iconst (v := (-1)) dX7_here_27 rfl ?_
    have h := Option.some.inj h
    subst h
    exact zEV.iret rfl dX7_here_28
  · rw [if_neg c1] at h
    refine zEV.aload_n dX7_here_11 rfl 0 rfl ?_
    refine zEV.gfr rfl inz7 1 (by decide) wf_RX7_13 (by decide) rfl rfl dX7_here_12 ?_
    refine zEV.aload_n dX7_here_15 rfl 0 rfl ?_
    refine zEV.gfi rfl inz7 7 (by decide) wf_RX7_79 (by decide) rfl rfl dX7_here_16 ?_
    obtain ⟨g2, h⟩ := ite_no h
    refine zEV.bald (by decide) rfl g2 dX7_here_19 ?_
    refine zEV.sipush (v := 255) dX7_here_20 rfl ?_
    refine zEV.iand dX7_here_23 ?_
    refine zEV.goto 28 dX7_here_24 (by decide) ?_
    have h := Option.some.inj h
    subst h
    exact zEV.iret rfl dX7_here_28
theorem kX7_here (M : zMM) (q : Int32 × zMM) (h : fX7_here M = some q) : zCN yX7_here iX7_here [.inr (.inr 158)] M (some (.inl q.1), q.2) :=
  zCN.of (by decide) rfl rfl (Nat.le_of_ble_eq_true rfl) (zEV.perm [0] rfl (tX7_here_0 M q h))
-- RingedPageModel.fine
def fX7_fine (M : zMM) : Option (Int32 × zMM) :=
  if (M.1 158 8) = (-1) then
    some (1, M)
  else
    some (0, M)
set_option maxRecDepth 100000 in
theorem tX7_fine_0 (M : zMM) (q : Int32 × zMM) (h : fX7_fine  M = some q) : zEV iX7_fine 0 0 (zZO (some (.inl q.1), q.2)) 0 [(0, .inr (.inr 158))] [] M := by
  unfold fX7_fine at h
  refine zEV.aload_n dX7_fine_0 rfl 0 rfl ?_
  refine zEV.gfi rfl inz7 8 (by decide) wf_RX7_82 (by decide) rfl rfl dX7_fine_1 ?_
  refine zEV.iconst (v := (-1)) dX7_fine_4 rfl ?_
  refine zEV.icmp_ne 12 dX7_fine_5 (by decide) (fun c1 => ?_) (fun c1 => ?_)
  · rw [if_neg c1] at h
    refine zEV.iconst (v := 0) dX7_fine_12 rfl ?_
    have h := Option.some.inj h
    subst h
    exact zEV.zret rfl (Or.inl rfl) dX7_fine_13
  · rw [if_pos c1] at h
    refine zEV.iconst (v := 1) dX7_fine_8 rfl ?_
    refine zEV.goto 13 dX7_fine_9 (by decide) ?_
    have h := Option.some.inj h
    subst h
    exact zEV.zret rfl (Or.inr rfl) dX7_fine_13
theorem kX7_fine (M : zMM) (q : Int32 × zMM) (h : fX7_fine M = some q) : zCN yX7_fine iX7_fine [.inr (.inr 158)] M (some (.inl q.1), q.2) :=
  zCN.of (by decide) rfl rfl (Nat.le_of_ble_eq_true rfl) (zEV.perm [0] rfl (tX7_fine_0 M q h))
-- RingedPageModel.fault
def fX7_fault (a1 : Int32) (M : zMM) : Option (zMM) :=
  (fX7_fine  M).bind fun q1 =>
  if q1.1 = (0 : Int32) then
    some q1.2
  else
    some (wr q1.2 158 8 a1)
set_option maxRecDepth 100000 in
theorem tX7_fault_0 (a1 : Int32) (M : zMM) (q : zMM) (h : fX7_fault a1  M = some q) : zEV iX7_fault 0 0 (zZO (none, q)) 0 [(0, .inr (.inr 158)), (1, .inl a1)] [] M := by
  unfold fX7_fault at h
  refine zEV.aload_n dX7_fault_0 rfl 0 rfl ?_
  obtain ⟨q1, hq1, h⟩ := bind_yes h
  refine zEV.callVi (kX7_fine   M q1 hq1) (by decide) rfl rfl wm_RX7_85 wc_X7_fine hy_X7_fine rfl ⟨Nat.le_of_ble_eq_true rfl, Nat.le_of_ble_eq_true rfl⟩ rfl (Nat.le_of_ble_eq_true rfl) dX7_fault_1 ?_
  refine zEV.if_eq 12 dX7_fault_4 (by decide) (fun c2 => ?_) (fun c2 => ?_)
  · rw [if_pos c2] at h
    have h := Option.some.inj h
    subst h
    exact zEV.vret rfl dX7_fault_12
  · rw [if_neg c2] at h
    refine zEV.aload_n dX7_fault_7 rfl 0 rfl ?_
    refine zEV.iload_n dX7_fault_8 rfl 1 rfl ?_
    refine zEV.pfi rfl inz7 tyX7 tyX7_ok nmX7 8 (by decide) wf_RX7_82 rfl (by decide +kernel) (by decide) rfl rfl dX7_fault_9 ?_
    have h := Option.some.inj h
    subst h
    exact zEV.vret rfl dX7_fault_12
theorem kX7_fault (a1 : Int32) (M : zMM) (q : zMM) (h : fX7_fault a1 M = some q) : zCN yX7_fault iX7_fault [.inr (.inr 158), .inl a1] M (none, q) :=
  zCN.of (by decide) rfl rfl (Nat.le_of_ble_eq_true rfl) (zEV.perm [0, 1] rfl (tX7_fault_0 a1 M q h))
-- RingedPageModel.oneOf
def fX7_oneOf (a1 : Int32) (a2 : Int32) (M : zMM) : Option (Int32 × zMM) :=
  (fX7_fine  M).bind fun q1 =>
  if q1.1 = (0 : Int32) then
    some (0, q1.2)
  else
    (fX7_here  q1.2).bind fun q3 =>
    (fX7_in (q3.1) (a1) (((a1 + a2) - 1)) q3.2).bind fun q4 =>
    if q4.1 = (0 : Int32) then
      (fX7_fault ((q4.2.1 158 7)) q4.2).bind fun q7 =>
      some (0, q7)
    else
      if oob ((((wr q4.2 158 7 ((q4.2.1 158 7) + 1)).1 158 7) - 1)) 80 then none else
      some ((((wr q4.2 158 7 ((q4.2.1 158 7) + 1)).1 160 (Int32.toNatClampNeg (((wr q4.2 158 7 ((q4.2.1 158 7) + 1)).1 158 7) - 1))) - a1), (wr q4.2 158 7 ((q4.2.1 158 7) + 1)))
set_option maxRecDepth 100000 in
theorem tX7_oneOf_0 (a1 : Int32) (a2 : Int32) (M : zMM) (q : Int32 × zMM) (h : fX7_oneOf a1 a2  M = some q) : zEV iX7_oneOf 0 0 (zZO (some (.inl q.1), q.2)) 0 [(0, .inr (.inr 158)), (1, .inl a1), (2, .inl a2)] [] M := by
  unfold fX7_oneOf at h
  refine zEV.aload_n dX7_oneOf_0 rfl 0 rfl ?_
  obtain ⟨q1, hq1, h⟩ := bind_yes h
  refine zEV.callVi (kX7_fine   M q1 hq1) (by decide) rfl rfl wm_RX7_85 wc_X7_fine hy_X7_fine rfl ⟨Nat.le_of_ble_eq_true rfl, Nat.le_of_ble_eq_true rfl⟩ rfl (Nat.le_of_ble_eq_true rfl) dX7_oneOf_1 ?_
  refine zEV.if_ne 9 dX7_oneOf_4 (by decide) (fun c2 => ?_) (fun c2 => ?_)
  · rw [if_neg c2] at h
    refine zEV.aload_n dX7_oneOf_9 rfl 0 rfl ?_
    obtain ⟨q3, hq3, h⟩ := bind_yes h
    refine zEV.callVi (kX7_here   q1.2 q3 hq3) (by decide) rfl rfl wm_RX7_89 wc_X7_here hy_X7_here rfl ⟨Nat.le_of_ble_eq_true rfl, Nat.le_of_ble_eq_true rfl⟩ rfl (Nat.le_of_ble_eq_true rfl) dX7_oneOf_10 ?_
    refine zEV.iload_n dX7_oneOf_13 rfl 1 rfl ?_
    refine zEV.iload_n dX7_oneOf_14 rfl 1 rfl ?_
    refine zEV.iload_n dX7_oneOf_15 rfl 2 rfl ?_
    refine zEV.iadd dX7_oneOf_16 ?_
    refine zEV.iconst (v := 1) dX7_oneOf_17 rfl ?_
    refine zEV.isub dX7_oneOf_18 ?_
    obtain ⟨q4, hq4, h⟩ := bind_yes h
    refine zEV.callSi (kX7_in (q3.1) (a1) (((a1 + a2) - 1))  q3.2 q4 hq4) wm_RX7_65 wc_X7_in hy_X7_in rfl ⟨Nat.le_of_ble_eq_true rfl, Nat.le_of_ble_eq_true rfl⟩ rfl (Nat.le_of_ble_eq_true rfl) dX7_oneOf_19 ?_
    refine zEV.if_ne 35 dX7_oneOf_22 (by decide) (fun c5 => ?_) (fun c5 => ?_)
    · rw [if_neg c5] at h
      refine zEV.aload_n dX7_oneOf_35 rfl 0 rfl ?_
      refine zEV.dup dX7_oneOf_36 rfl ?_
      refine zEV.gfi rfl inz7 7 (by decide) wf_RX7_79 (by decide) rfl rfl dX7_oneOf_37 ?_
      refine zEV.iconst (v := 1) dX7_oneOf_40 rfl ?_
      refine zEV.iadd dX7_oneOf_41 ?_
      refine zEV.pfi rfl inz7 tyX7 tyX7_ok nmX7 7 (by decide) wf_RX7_79 rfl (by decide +kernel) (by decide) rfl rfl dX7_oneOf_42 ?_
      refine zEV.aload_n dX7_oneOf_45 rfl 0 rfl ?_
      refine zEV.gfr rfl inz7 1 (by decide) wf_RX7_13 (by decide) rfl rfl dX7_oneOf_46 ?_
      refine zEV.aload_n dX7_oneOf_49 rfl 0 rfl ?_
      refine zEV.gfi rfl inz7 7 (by decide) wf_RX7_79 (by decide) rfl rfl dX7_oneOf_50 ?_
      refine zEV.iconst (v := 1) dX7_oneOf_53 rfl ?_
      refine zEV.isub dX7_oneOf_54 ?_
      obtain ⟨g6, h⟩ := ite_no h
      refine zEV.bald (by decide) rfl g6 dX7_oneOf_55 ?_
      refine zEV.iload_n dX7_oneOf_56 rfl 1 rfl ?_
      refine zEV.isub dX7_oneOf_57 ?_
      have h := Option.some.inj h
      subst h
      exact zEV.iret rfl dX7_oneOf_58
    · rw [if_pos c5] at h
      refine zEV.aload_n dX7_oneOf_25 rfl 0 rfl ?_
      refine zEV.aload_n dX7_oneOf_26 rfl 0 rfl ?_
      refine zEV.gfi rfl inz7 7 (by decide) wf_RX7_79 (by decide) rfl rfl dX7_oneOf_27 ?_
      obtain ⟨q7, hq7, h⟩ := bind_yes h
      refine zEV.callVv (kX7_fault ((q4.2.1 158 7))  q4.2 q7 hq7) (by decide) rfl rfl wm_RX7_93 wc_X7_fault hy_X7_fault rfl ⟨Nat.le_of_ble_eq_true rfl, Nat.le_of_ble_eq_true rfl⟩ rfl (Nat.le_of_ble_eq_true rfl) dX7_oneOf_30 ?_
      refine zEV.iconst (v := 0) dX7_oneOf_33 rfl ?_
      have h := Option.some.inj h
      subst h
      exact zEV.iret rfl dX7_oneOf_34
  · rw [if_pos c2] at h
    refine zEV.iconst (v := 0) dX7_oneOf_7 rfl ?_
    have h := Option.some.inj h
    subst h
    exact zEV.iret rfl dX7_oneOf_8
theorem kX7_oneOf (a1 : Int32) (a2 : Int32) (M : zMM) (q : Int32 × zMM) (h : fX7_oneOf a1 a2 M = some q) : zCN yX7_oneOf iX7_oneOf [.inr (.inr 158), .inl a1, .inl a2] M (some (.inl q.1), q.2) :=
  zCN.of (by decide) rfl rfl (Nat.le_of_ble_eq_true rfl) (zEV.perm [0, 1, 2] rfl (tX7_oneOf_0 a1 a2 M q h))
-- RingedPageModel.digits
def fX7_digits_4 (a1 : Int32) : Nat → Int32 → Int32 → zMM → Option (Int32 × zMM)
  | 0, _, _, _ => none
  | n + 1, l2, l3, M =>
  if a1 ≤ l3 then
    some (l2, M)
  else
    (fX7_oneOf (48) (10) M).bind fun q2 =>
    fX7_digits_4 a1 n (((10 * l2) + q2.1)) ((l3 + 1)) q2.2
set_option maxRecDepth 100000 in
theorem tX7_digits_4 (a1 : Int32) : ∀ (n : Nat) (l2 : Int32) (l3 : Int32) (M : zMM) (q : Int32 × zMM), fX7_digits_4 a1 n l2 l3 M = some q → zEV iX7_digits 0 0 (zZO (some (.inl q.1), q.2)) 4 [(0, .inr (.inr 158)), (1, .inl a1), (2, .inl l2), (3, .inl l3)] [] M := by
  intro n
  induction n with
  | zero =>
    intro l2 l3 M q h
    rw [fX7_digits_4] at h
    cases h
  | succ n ih =>
    intro l2 l3 M q h
    rw [fX7_digits_4] at h
    refine zEV.iload_n dX7_digits_4 rfl 3 rfl ?_
    refine zEV.iload_n dX7_digits_5 rfl 1 rfl ?_
    refine zEV.icmp_ge 29 dX7_digits_6 (by decide) (fun c1 => ?_) (fun c1 => ?_)
    · rw [if_pos c1] at h
      refine zEV.iload_n dX7_digits_29 rfl 2 rfl ?_
      have h := Option.some.inj h
      subst h
      exact zEV.iret rfl dX7_digits_30
    · rw [if_neg c1] at h
      refine zEV.bipush (v := 10) dX7_digits_9 rfl ?_
      refine zEV.iload_n dX7_digits_11 rfl 2 rfl ?_
      refine zEV.imul dX7_digits_12 ?_
      refine zEV.aload_n dX7_digits_13 rfl 0 rfl ?_
      refine zEV.bipush (v := 48) dX7_digits_14 rfl ?_
      refine zEV.bipush (v := 10) dX7_digits_16 rfl ?_
      obtain ⟨q2, hq2, h⟩ := bind_yes h
      refine zEV.callVi (kX7_oneOf (48) (10)  M q2 hq2) (by decide) rfl rfl wm_RX7_97 wc_X7_oneOf hy_X7_oneOf rfl ⟨Nat.le_of_ble_eq_true rfl, Nat.le_of_ble_eq_true rfl⟩ rfl (Nat.le_of_ble_eq_true rfl) dX7_digits_18 ?_
      refine zEV.iadd dX7_digits_21 ?_
      refine zEV.istore_n dX7_digits_22 rfl (Nat.le_of_ble_eq_true rfl) rfl ?_
      refine zEV.iinc (v := (l3 + 1)) dX7_digits_23 3 rfl rfl (Nat.le_of_ble_eq_true rfl) rfl ?_
      refine zEV.goto 4 dX7_digits_26 (by decide) ?_
      exact zEV.perm [2, 3, 1, 0] rfl (ih (((10 * l2) + q2.1)) ((l3 + 1)) q2.2 q h)
def fX7_digits (a1 : Int32) (M : zMM) : Option (Int32 × zMM) :=
  fX7_digits_4 a1 zFU (0) (0) M
set_option maxRecDepth 100000 in
theorem tX7_digits_0 (a1 : Int32) (M : zMM) (q : Int32 × zMM) (h : fX7_digits a1  M = some q) : zEV iX7_digits 0 0 (zZO (some (.inl q.1), q.2)) 0 [(0, .inr (.inr 158)), (1, .inl a1)] [] M := by
  unfold fX7_digits at h
  refine zEV.iconst (v := 0) dX7_digits_0 rfl ?_
  refine zEV.istore_n dX7_digits_1 rfl (Nat.le_of_ble_eq_true rfl) rfl ?_
  refine zEV.iconst (v := 0) dX7_digits_2 rfl ?_
  refine zEV.istore_n dX7_digits_3 rfl (Nat.le_of_ble_eq_true rfl) rfl ?_
  exact zEV.perm [2, 3, 1, 0] rfl (tX7_digits_4 a1 zFU (0) (0) M q h)
theorem kX7_digits (a1 : Int32) (M : zMM) (q : Int32 × zMM) (h : fX7_digits a1 M = some q) : zCN yX7_digits iX7_digits [.inr (.inr 158), .inl a1] M (some (.inl q.1), q.2) :=
  zCN.of (by decide) rfl rfl (Nat.le_of_ble_eq_true rfl) (zEV.perm [0, 1] rfl (tX7_digits_0 a1 M q h))
-- RingedPageModel.wasRight
def fX7_wasRight_19 (M : zMM) : Option (Int32 × zMM) :=
  (fX7_fine  M).bind fun q1 =>
  if q1.1 = 0 ∨ q1.1 = 1 then some (q1.1, q1.2) else none
set_option maxRecDepth 100000 in
theorem tX7_wasRight_19 (M : zMM) (q : Int32 × zMM) (h : fX7_wasRight_19  M = some q) : zEV iX7_wasRight 0 0 (zZO (some (.inl q.1), q.2)) 19 [(0, .inr (.inr 158))] [] M := by
  unfold fX7_wasRight_19 at h
  refine zEV.aload_n dX7_wasRight_19 rfl 0 rfl ?_
  obtain ⟨q1, hq1, h⟩ := bind_yes h
  refine zEV.callVi (kX7_fine   M q1 hq1) (by decide) rfl rfl wm_RX7_85 wc_X7_fine hy_X7_fine rfl ⟨Nat.le_of_ble_eq_true rfl, Nat.le_of_ble_eq_true rfl⟩ rfl (Nat.le_of_ble_eq_true rfl) dX7_wasRight_20 ?_
  obtain ⟨g2, h⟩ := ite_yes h
  have h := Option.some.inj h
  subst h
  exact zEV.zret rfl g2 dX7_wasRight_23
def fX7_wasRight (M : zMM) : Option (Int32 × zMM) :=
  if (M.1 158 6) ≤ (M.1 158 7) then
    fX7_wasRight_19 M
  else
    (fX7_fault ((M.1 158 7)) M).bind fun q2 =>
    fX7_wasRight_19 q2
set_option maxRecDepth 100000 in
theorem tX7_wasRight_0 (M : zMM) (q : Int32 × zMM) (h : fX7_wasRight  M = some q) : zEV iX7_wasRight 0 0 (zZO (some (.inl q.1), q.2)) 0 [(0, .inr (.inr 158))] [] M := by
  unfold fX7_wasRight at h
  refine zEV.aload_n dX7_wasRight_0 rfl 0 rfl ?_
  refine zEV.gfi rfl inz7 7 (by decide) wf_RX7_79 (by decide) rfl rfl dX7_wasRight_1 ?_
  refine zEV.aload_n dX7_wasRight_4 rfl 0 rfl ?_
  refine zEV.gfi rfl inz7 6 (by decide) wf_RX7_76 (by decide) rfl rfl dX7_wasRight_5 ?_
  refine zEV.icmp_ge 19 dX7_wasRight_8 (by decide) (fun c1 => ?_) (fun c1 => ?_)
  · rw [if_pos c1] at h
    exact zEV.perm [0] rfl (tX7_wasRight_19 M q h)
  · rw [if_neg c1] at h
    refine zEV.aload_n dX7_wasRight_11 rfl 0 rfl ?_
    refine zEV.aload_n dX7_wasRight_12 rfl 0 rfl ?_
    refine zEV.gfi rfl inz7 7 (by decide) wf_RX7_79 (by decide) rfl rfl dX7_wasRight_13 ?_
    obtain ⟨q2, hq2, h⟩ := bind_yes h
    refine zEV.callVv (kX7_fault ((M.1 158 7))  M q2 hq2) (by decide) rfl rfl wm_RX7_93 wc_X7_fault hy_X7_fault rfl ⟨Nat.le_of_ble_eq_true rfl, Nat.le_of_ble_eq_true rfl⟩ rfl (Nat.le_of_ble_eq_true rfl) dX7_wasRight_16 ?_
    exact zEV.perm [0] rfl (tX7_wasRight_19 q2 q h)
theorem kX7_wasRight (M : zMM) (q : Int32 × zMM) (h : fX7_wasRight M = some q) : zCN yX7_wasRight iX7_wasRight [.inr (.inr 158)] M (some (.inl q.1), q.2) :=
  zCN.of (by decide) rfl rfl (Nat.le_of_ble_eq_true rfl) (zEV.perm [0] rfl (tX7_wasRight_0 M q h))
-- RingedPageModel.lay
def fX7_lay_2 : Nat → Int32 → zMM → Option (zMM)
  | 0, _, _ => none
  | n + 1, l1, M =>
  if (259 : Int32) ≤ l1 then
    some M
  else
    if oob (l1) 259 then none else
    fX7_lay_2 n ((l1 + 1)) (wr M 171 (Int32.toNatClampNeg l1) (M.1 159 (Int32.toNatClampNeg l1)))
set_option maxRecDepth 100000 in
theorem tX7_lay_2 : ∀ (n : Nat) (l1 : Int32) (M : zMM) (q : zMM), fX7_lay_2 n l1 M = some q → zEV iX7_lay 0 0 (zZO (none, q)) 2 [(0, .inr (.inr 158)), (1, .inl l1)] [] M := by
  intro n
  induction n with
  | zero =>
    intro l1 M q h
    rw [fX7_lay_2] at h
    cases h
  | succ n ih =>
    intro l1 M q h
    rw [fX7_lay_2] at h
    refine zEV.iload_n dX7_lay_2 rfl 1 rfl ?_
    refine zEV.sipush (v := 259) dX7_lay_3 rfl ?_
    refine zEV.icmp_ge 27 dX7_lay_6 (by decide) (fun c1 => ?_) (fun c1 => ?_)
    · rw [if_pos c1] at h
      have h := Option.some.inj h
      subst h
      exact zEV.vret rfl dX7_lay_27
    · rw [if_neg c1] at h
      refine zEV.aload_n dX7_lay_9 rfl 0 rfl ?_
      refine zEV.gfr rfl inz7 23 (by decide) wf_RX7_48 (by decide) rfl rfl dX7_lay_10 ?_
      refine zEV.iload_n dX7_lay_13 rfl 1 rfl ?_
      refine zEV.aload_n dX7_lay_14 rfl 0 rfl ?_
      refine zEV.gfr rfl inz7 0 (by decide) wf_RX7_9 (by decide) rfl rfl dX7_lay_15 ?_
      refine zEV.iload_n dX7_lay_18 rfl 1 rfl ?_
      obtain ⟨g2, h⟩ := ite_no h
      refine zEV.iald (by decide) rfl g2 dX7_lay_19 ?_
      refine zEV.iast (by decide) rfl g2 dX7_lay_20 ?_
      refine zEV.iinc (v := (l1 + 1)) dX7_lay_21 1 rfl rfl (Nat.le_of_ble_eq_true rfl) rfl ?_
      refine zEV.goto 2 dX7_lay_24 (by decide) ?_
      exact zEV.perm [1, 0] rfl (ih ((l1 + 1)) (wr M 171 (Int32.toNatClampNeg l1) (M.1 159 (Int32.toNatClampNeg l1))) q h)
def fX7_lay (M : zMM) : Option (zMM) :=
  fX7_lay_2 zFU (0) M
set_option maxRecDepth 100000 in
theorem tX7_lay_0 (M : zMM) (q : zMM) (h : fX7_lay  M = some q) : zEV iX7_lay 0 0 (zZO (none, q)) 0 [(0, .inr (.inr 158))] [] M := by
  unfold fX7_lay at h
  refine zEV.iconst (v := 0) dX7_lay_0 rfl ?_
  refine zEV.istore_n dX7_lay_1 rfl (Nat.le_of_ble_eq_true rfl) rfl ?_
  exact zEV.perm [1, 0] rfl (tX7_lay_2 zFU (0) M q h)
theorem kX7_lay (M : zMM) (q : zMM) (h : fX7_lay M = some q) : zCN yX7_lay iX7_lay [.inr (.inr 158)] M (none, q) :=
  zCN.of (by decide) rfl rfl (Nat.le_of_ble_eq_true rfl) (zEV.perm [0] rfl (tX7_lay_0 M q h))
-- RingedPageModel.note
def fX7_note_52 : Nat → Int32 → zMM → Option (zMM)
  | 0, _, _ => none
  | n + 1, l1, M =>
  if (259 : Int32) ≤ l1 then
    some (wr M 158 24 ((M.1 158 24) + 1))
  else
    if oob (l1) 259 then none else
    if oob (((259 * (M.1 158 24)) + l1)) 1813 then none else
    fX7_note_52 n ((l1 + 1)) (wr M 170 (Int32.toNatClampNeg ((259 * (M.1 158 24)) + l1)) (M.1 171 (Int32.toNatClampNeg l1)))
set_option maxRecDepth 100000 in
theorem tX7_note_52 : ∀ (n : Nat) (l1 : Int32) (M : zMM) (q : zMM), fX7_note_52 n l1 M = some q → zEV iX7_note 0 0 (zZO (none, q)) 52 [(0, .inr (.inr 158)), (1, .inl l1)] [] M := by
  intro n
  induction n with
  | zero =>
    intro l1 M q h
    rw [fX7_note_52] at h
    cases h
  | succ n ih =>
    intro l1 M q h
    rw [fX7_note_52] at h
    refine zEV.iload_n dX7_note_52 rfl 1 rfl ?_
    refine zEV.sipush (v := 259) dX7_note_53 rfl ?_
    refine zEV.icmp_ge 86 dX7_note_56 (by decide) (fun c1 => ?_) (fun c1 => ?_)
    · rw [if_pos c1] at h
      refine zEV.aload_n dX7_note_86 rfl 0 rfl ?_
      refine zEV.dup dX7_note_87 rfl ?_
      refine zEV.gfi rfl inz7 24 (by decide) wf_RX7_276 (by decide) rfl rfl dX7_note_88 ?_
      refine zEV.iconst (v := 1) dX7_note_91 rfl ?_
      refine zEV.iadd dX7_note_92 ?_
      refine zEV.pfi rfl inz7 tyX7 tyX7_ok nmX7 24 (by decide) wf_RX7_276 rfl (by decide +kernel) (by decide) rfl rfl dX7_note_93 ?_
      have h := Option.some.inj h
      subst h
      exact zEV.vret rfl dX7_note_96
    · rw [if_neg c1] at h
      refine zEV.aload_n dX7_note_59 rfl 0 rfl ?_
      refine zEV.gfr rfl inz7 22 (by decide) wf_RX7_45 (by decide) rfl rfl dX7_note_60 ?_
      refine zEV.sipush (v := 259) dX7_note_63 rfl ?_
      refine zEV.aload_n dX7_note_66 rfl 0 rfl ?_
      refine zEV.gfi rfl inz7 24 (by decide) wf_RX7_276 (by decide) rfl rfl dX7_note_67 ?_
      refine zEV.imul dX7_note_70 ?_
      refine zEV.iload_n dX7_note_71 rfl 1 rfl ?_
      refine zEV.iadd dX7_note_72 ?_
      refine zEV.aload_n dX7_note_73 rfl 0 rfl ?_
      refine zEV.gfr rfl inz7 23 (by decide) wf_RX7_48 (by decide) rfl rfl dX7_note_74 ?_
      refine zEV.iload_n dX7_note_77 rfl 1 rfl ?_
      obtain ⟨g2, h⟩ := ite_no h
      refine zEV.iald (by decide) rfl g2 dX7_note_78 ?_
      obtain ⟨g3, h⟩ := ite_no h
      refine zEV.iast (by decide) rfl g3 dX7_note_79 ?_
      refine zEV.iinc (v := (l1 + 1)) dX7_note_80 1 rfl rfl (Nat.le_of_ble_eq_true rfl) rfl ?_
      refine zEV.goto 52 dX7_note_83 (by decide) ?_
      exact zEV.perm [1, 0] rfl (ih ((l1 + 1)) (wr M 170 (Int32.toNatClampNeg ((259 * (M.1 158 24)) + l1)) (M.1 171 (Int32.toNatClampNeg l1))) q h)
def fX7_note_50 (M : zMM) : Option (zMM) :=
  fX7_note_52 zFU (0) M
set_option maxRecDepth 100000 in
theorem tX7_note_50 (M : zMM) (q : zMM) (h : fX7_note_50  M = some q) : zEV iX7_note 0 0 (zZO (none, q)) 50 [(0, .inr (.inr 158))] [] M := by
  unfold fX7_note_50 at h
  refine zEV.iconst (v := 0) dX7_note_50 rfl ?_
  refine zEV.istore_n dX7_note_51 rfl (Nat.le_of_ble_eq_true rfl) rfl ?_
  exact zEV.perm [1, 0] rfl (tX7_note_52 zFU (0) M q h)
def fX7_note_11 : Nat → Int32 → zMM → Option (zMM)
  | 0, _, _ => none
  | n + 1, l1, M =>
  if (1554 : Int32) ≤ l1 then
    fX7_note_50 (wr M 158 24 ((M.1 158 24) - 1))
  else
    if oob ((l1 + 259)) 1813 then none else
    if oob (l1) 1813 then none else
    fX7_note_11 n ((l1 + 1)) (wr M 170 (Int32.toNatClampNeg l1) (M.1 170 (Int32.toNatClampNeg (l1 + 259))))
set_option maxRecDepth 100000 in
theorem tX7_note_11 : ∀ (n : Nat) (l1 : Int32) (M : zMM) (q : zMM), fX7_note_11 n l1 M = some q → zEV iX7_note 0 0 (zZO (none, q)) 11 [(0, .inr (.inr 158)), (1, .inl l1)] [] M := by
  intro n
  induction n with
  | zero =>
    intro l1 M q h
    rw [fX7_note_11] at h
    cases h
  | succ n ih =>
    intro l1 M q h
    rw [fX7_note_11] at h
    refine zEV.iload_n dX7_note_11 rfl 1 rfl ?_
    refine zEV.sipush (v := 1554) dX7_note_12 rfl ?_
    refine zEV.icmp_ge 40 dX7_note_15 (by decide) (fun c1 => ?_) (fun c1 => ?_)
    · rw [if_pos c1] at h
      refine zEV.aload_n dX7_note_40 rfl 0 rfl ?_
      refine zEV.dup dX7_note_41 rfl ?_
      refine zEV.gfi rfl inz7 24 (by decide) wf_RX7_276 (by decide) rfl rfl dX7_note_42 ?_
      refine zEV.iconst (v := 1) dX7_note_45 rfl ?_
      refine zEV.isub dX7_note_46 ?_
      refine zEV.pfi rfl inz7 tyX7 tyX7_ok nmX7 24 (by decide) wf_RX7_276 rfl (by decide +kernel) (by decide) rfl rfl dX7_note_47 ?_
      exact zEV.perm [0] rfl (tX7_note_50 (wr M 158 24 ((M.1 158 24) - 1)) q h)
    · rw [if_neg c1] at h
      refine zEV.aload_n dX7_note_18 rfl 0 rfl ?_
      refine zEV.gfr rfl inz7 22 (by decide) wf_RX7_45 (by decide) rfl rfl dX7_note_19 ?_
      refine zEV.iload_n dX7_note_22 rfl 1 rfl ?_
      refine zEV.aload_n dX7_note_23 rfl 0 rfl ?_
      refine zEV.gfr rfl inz7 22 (by decide) wf_RX7_45 (by decide) rfl rfl dX7_note_24 ?_
      refine zEV.iload_n dX7_note_27 rfl 1 rfl ?_
      refine zEV.sipush (v := 259) dX7_note_28 rfl ?_
      refine zEV.iadd dX7_note_31 ?_
      obtain ⟨g2, h⟩ := ite_no h
      refine zEV.iald (by decide) rfl g2 dX7_note_32 ?_
      obtain ⟨g3, h⟩ := ite_no h
      refine zEV.iast (by decide) rfl g3 dX7_note_33 ?_
      refine zEV.iinc (v := (l1 + 1)) dX7_note_34 1 rfl rfl (Nat.le_of_ble_eq_true rfl) rfl ?_
      refine zEV.goto 11 dX7_note_37 (by decide) ?_
      exact zEV.perm [1, 0] rfl (ih ((l1 + 1)) (wr M 170 (Int32.toNatClampNeg l1) (M.1 170 (Int32.toNatClampNeg (l1 + 259)))) q h)
def fX7_note (M : zMM) : Option (zMM) :=
  if (M.1 158 24) = 7 then
    fX7_note_11 zFU (0) M
  else
    fX7_note_50 M
set_option maxRecDepth 100000 in
theorem tX7_note_0 (M : zMM) (q : zMM) (h : fX7_note  M = some q) : zEV iX7_note 0 0 (zZO (none, q)) 0 [(0, .inr (.inr 158))] [] M := by
  unfold fX7_note at h
  refine zEV.aload_n dX7_note_0 rfl 0 rfl ?_
  refine zEV.gfi rfl inz7 24 (by decide) wf_RX7_276 (by decide) rfl rfl dX7_note_1 ?_
  refine zEV.bipush (v := 7) dX7_note_4 rfl ?_
  refine zEV.icmp_ne 50 dX7_note_6 (by decide) (fun c1 => ?_) (fun c1 => ?_)
  · rw [if_neg c1] at h
    exact zEV.perm [0] rfl (tX7_note_50 M q h)
  · rw [if_pos c1] at h
    refine zEV.iconst (v := 0) dX7_note_9 rfl ?_
    refine zEV.istore_n dX7_note_10 rfl (Nat.le_of_ble_eq_true rfl) rfl ?_
    exact zEV.perm [1, 0] rfl (tX7_note_11 zFU (0) M q h)
theorem kX7_note (M : zMM) (q : zMM) (h : fX7_note M = some q) : zCN yX7_note iX7_note [.inr (.inr 158)] M (none, q) :=
  zCN.of (by decide) rfl rfl (Nat.le_of_ble_eq_true rfl) (zEV.perm [0] rfl (tX7_note_0 M q h))
-- RingedPageModel.change
def fX7_change (M : zMM) : Option (zMM) :=
  (fX7_lay  M).bind fun q1 =>
  (fX7_note  q1).bind fun q2 =>
  some q2
set_option maxRecDepth 100000 in
theorem tX7_change_0 (M : zMM) (q : zMM) (h : fX7_change  M = some q) : zEV iX7_change 0 0 (zZO (none, q)) 0 [(0, .inr (.inr 158))] [] M := by
  unfold fX7_change at h
  refine zEV.aload_n dX7_change_0 rfl 0 rfl ?_
  obtain ⟨q1, hq1, h⟩ := bind_yes h
  refine zEV.callVv (kX7_lay   M q1 hq1) (by decide) rfl rfl wm_RX7_279 wc_X7_lay hy_X7_lay rfl ⟨Nat.le_of_ble_eq_true rfl, Nat.le_of_ble_eq_true rfl⟩ rfl (Nat.le_of_ble_eq_true rfl) dX7_change_1 ?_
  refine zEV.aload_n dX7_change_4 rfl 0 rfl ?_
  obtain ⟨q2, hq2, h⟩ := bind_yes h
  refine zEV.callVv (kX7_note   q1 q2 hq2) (by decide) rfl rfl wm_RX7_282 wc_X7_note hy_X7_note rfl ⟨Nat.le_of_ble_eq_true rfl, Nat.le_of_ble_eq_true rfl⟩ rfl (Nat.le_of_ble_eq_true rfl) dX7_change_5 ?_
  have h := Option.some.inj h
  subst h
  exact zEV.vret rfl dX7_change_8
theorem kX7_change (M : zMM) (q : zMM) (h : fX7_change M = some q) : zCN yX7_change iX7_change [.inr (.inr 158)] M (none, q) :=
  zCN.of (by decide) rfl rfl (Nat.le_of_ble_eq_true rfl) (zEV.perm [0] rfl (tX7_change_0 M q h))
-- RingedPageModel.untie
def fX7_untie_60 (a1 : Int32) : Nat → Int32 → zMM → Option (zMM)
  | 0, _, _ => none
  | n + 1, l2, M =>
  if (3 : Int32) ≤ l2 then
    some M
  else
    if oob (((219 + (3 * (M.1 159 218))) + l2)) 259 then none else
    fX7_untie_60 a1 n ((l2 + 1)) (wr M 159 (Int32.toNatClampNeg ((219 + (3 * (M.1 159 218))) + l2)) 0)
set_option maxRecDepth 100000 in
theorem tX7_untie_60 (a1 : Int32) : ∀ (n : Nat) (l2 : Int32) (M : zMM) (q : zMM), fX7_untie_60 a1 n l2 M = some q → zEV iX7_untie 0 0 (zZO (none, q)) 60 [(0, .inr (.inr 158)), (2, .inl l2)] [] M := by
  intro n
  induction n with
  | zero =>
    intro l2 M q h
    rw [fX7_untie_60] at h
    cases h
  | succ n ih =>
    intro l2 M q h
    rw [fX7_untie_60] at h
    refine zEV.iload_n dX7_untie_60 rfl 1 rfl ?_
    refine zEV.iconst (v := 3) dX7_untie_61 rfl ?_
    refine zEV.icmp_ge 93 dX7_untie_62 (by decide) (fun c1 => ?_) (fun c1 => ?_)
    · rw [if_pos c1] at h
      have h := Option.some.inj h
      subst h
      exact zEV.vret rfl dX7_untie_93
    · rw [if_neg c1] at h
      refine zEV.aload_n dX7_untie_65 rfl 0 rfl ?_
      refine zEV.gfr rfl inz7 0 (by decide) wf_RX7_9 (by decide) rfl rfl dX7_untie_66 ?_
      refine zEV.sipush (v := 219) dX7_untie_69 rfl ?_
      refine zEV.iconst (v := 3) dX7_untie_72 rfl ?_
      refine zEV.aload_n dX7_untie_73 rfl 0 rfl ?_
      refine zEV.gfr rfl inz7 0 (by decide) wf_RX7_9 (by decide) rfl rfl dX7_untie_74 ?_
      refine zEV.sipush (v := 218) dX7_untie_77 rfl ?_
      refine zEV.ialdL (j := 218) (by decide) rfl (by decide) (by decide) dX7_untie_80 ?_
      refine zEV.imul dX7_untie_81 ?_
      refine zEV.iadd dX7_untie_82 ?_
      refine zEV.iload_n dX7_untie_83 rfl 1 rfl ?_
      refine zEV.iadd dX7_untie_84 ?_
      refine zEV.iconst (v := 0) dX7_untie_85 rfl ?_
      obtain ⟨g2, h⟩ := ite_no h
      refine zEV.iast (by decide) rfl g2 dX7_untie_86 ?_
      refine zEV.iinc (v := (l2 + 1)) dX7_untie_87 1 rfl rfl (Nat.le_of_ble_eq_true rfl) rfl ?_
      refine zEV.goto 60 dX7_untie_90 (by decide) ?_
      exact zEV.perm [1, 0] rfl (ih ((l2 + 1)) (wr M 159 (Int32.toNatClampNeg ((219 + (3 * (M.1 159 218))) + l2)) 0) q h)
def fX7_untie_20 (a1 : Int32) : Nat → Int32 → zMM → Option (zMM)
  | 0, _, _ => none
  | n + 1, l2, M =>
  if (219 + (3 * (M.1 159 218))) ≤ l2 then
    fX7_untie_60 a1 zFU (0) M
  else
    if oob ((l2 + 3)) 259 then none else
    if oob (l2) 259 then none else
    fX7_untie_20 a1 n ((l2 + 1)) (wr M 159 (Int32.toNatClampNeg l2) (M.1 159 (Int32.toNatClampNeg (l2 + 3))))
set_option maxRecDepth 100000 in
theorem tX7_untie_20 (a1 : Int32) : ∀ (n : Nat) (l2 : Int32) (M : zMM) (q : zMM), fX7_untie_20 a1 n l2 M = some q → zEV iX7_untie 0 0 (zZO (none, q)) 20 [(0, .inr (.inr 158)), (2, .inl l2)] [] M := by
  intro n
  induction n with
  | zero =>
    intro l2 M q h
    rw [fX7_untie_20] at h
    cases h
  | succ n ih =>
    intro l2 M q h
    rw [fX7_untie_20] at h
    refine zEV.iload_n dX7_untie_20 rfl 1 rfl ?_
    refine zEV.sipush (v := 219) dX7_untie_21 rfl ?_
    refine zEV.iconst (v := 3) dX7_untie_24 rfl ?_
    refine zEV.aload_n dX7_untie_25 rfl 0 rfl ?_
    refine zEV.gfr rfl inz7 0 (by decide) wf_RX7_9 (by decide) rfl rfl dX7_untie_26 ?_
    refine zEV.sipush (v := 218) dX7_untie_29 rfl ?_
    refine zEV.ialdL (j := 218) (by decide) rfl (by decide) (by decide) dX7_untie_32 ?_
    refine zEV.imul dX7_untie_33 ?_
    refine zEV.iadd dX7_untie_34 ?_
    refine zEV.icmp_ge 58 dX7_untie_35 (by decide) (fun c1 => ?_) (fun c1 => ?_)
    · rw [if_pos c1] at h
      refine zEV.iconst (v := 0) dX7_untie_58 rfl ?_
      refine zEV.istore_n dX7_untie_59 rfl (Nat.le_of_ble_eq_true rfl) rfl ?_
      exact zEV.perm [1, 0] rfl (tX7_untie_60 a1 zFU (0) M q h)
    · rw [if_neg c1] at h
      refine zEV.aload_n dX7_untie_38 rfl 0 rfl ?_
      refine zEV.gfr rfl inz7 0 (by decide) wf_RX7_9 (by decide) rfl rfl dX7_untie_39 ?_
      refine zEV.iload_n dX7_untie_42 rfl 1 rfl ?_
      refine zEV.aload_n dX7_untie_43 rfl 0 rfl ?_
      refine zEV.gfr rfl inz7 0 (by decide) wf_RX7_9 (by decide) rfl rfl dX7_untie_44 ?_
      refine zEV.iload_n dX7_untie_47 rfl 1 rfl ?_
      refine zEV.iconst (v := 3) dX7_untie_48 rfl ?_
      refine zEV.iadd dX7_untie_49 ?_
      obtain ⟨g2, h⟩ := ite_no h
      refine zEV.iald (by decide) rfl g2 dX7_untie_50 ?_
      obtain ⟨g3, h⟩ := ite_no h
      refine zEV.iast (by decide) rfl g3 dX7_untie_51 ?_
      refine zEV.iinc (v := (l2 + 1)) dX7_untie_52 1 rfl rfl (Nat.le_of_ble_eq_true rfl) rfl ?_
      refine zEV.goto 20 dX7_untie_55 (by decide) ?_
      exact zEV.perm [1, 0] rfl (ih ((l2 + 1)) (wr M 159 (Int32.toNatClampNeg l2) (M.1 159 (Int32.toNatClampNeg (l2 + 3)))) q h)
def fX7_untie (a1 : Int32) (M : zMM) : Option (zMM) :=
  fX7_untie_20 a1 zFU ((219 + (3 * a1))) (wr M 159 218 ((M.1 159 218) - 1))
set_option maxRecDepth 100000 in
theorem tX7_untie_0 (a1 : Int32) (M : zMM) (q : zMM) (h : fX7_untie a1  M = some q) : zEV iX7_untie 0 0 (zZO (none, q)) 0 [(0, .inr (.inr 158)), (1, .inl a1)] [] M := by
  unfold fX7_untie at h
  refine zEV.aload_n dX7_untie_0 rfl 0 rfl ?_
  refine zEV.gfr rfl inz7 0 (by decide) wf_RX7_9 (by decide) rfl rfl dX7_untie_1 ?_
  refine zEV.sipush (v := 218) dX7_untie_4 rfl ?_
  refine zEV.dup2 dX7_untie_7 rfl rfl ?_
  refine zEV.ialdL (j := 218) (by decide) rfl (by decide) (by decide) dX7_untie_8 ?_
  refine zEV.iconst (v := 1) dX7_untie_9 rfl ?_
  refine zEV.isub dX7_untie_10 ?_
  refine zEV.iastL (j := 218) (by decide) rfl (by decide) (by decide) dX7_untie_11 ?_
  refine zEV.sipush (v := 219) dX7_untie_12 rfl ?_
  refine zEV.iconst (v := 3) dX7_untie_15 rfl ?_
  refine zEV.iload_n dX7_untie_16 rfl 1 rfl ?_
  refine zEV.imul dX7_untie_17 ?_
  refine zEV.iadd dX7_untie_18 ?_
  refine zEV.istore_n dX7_untie_19 rfl (Nat.le_of_ble_eq_true rfl) rfl ?_
  exact zEV.perm [1, 0] rfl (tX7_untie_20 a1 zFU ((219 + (3 * a1))) (wr M 159 218 ((M.1 159 218) - 1)) q h)
theorem kX7_untie (a1 : Int32) (M : zMM) (q : zMM) (h : fX7_untie a1 M = some q) : zCN yX7_untie iX7_untie [.inr (.inr 158), .inl a1] M (none, q) :=
  zCN.of (by decide) rfl rfl (Nat.le_of_ble_eq_true rfl) (zEV.perm [0, 1] rfl (tX7_untie_0 a1 M q h))
-- RingedPageModel.words
def fX7_words_181 (K158 : Int32 → Int32 → zMM → Option (Int32 × zMM)) (a1 : Int32) (l2 : Int32) (l3 : Int32) (M : zMM) : Option (Int32 × zMM) :=
  K158 (l2) ((l3 + (-1))) M
set_option maxRecDepth 100000 in
theorem tX7_words_181 (K158 : Int32 → Int32 → zMM → Option (Int32 × zMM)) (a1 : Int32) (hK158 : ∀ (l2 : Int32) (l3 : Int32) (M : zMM) (q : Int32 × zMM), K158 l2 l3 M = some q → zEV iX7_words 0 0 (zZO (some (.inl q.1), q.2)) 158 [(0, .inr (.inr 158)), (1, .inl a1), (2, .inl l2), (3, .inl l3)] [] M) (l2 : Int32) (l3 : Int32) (M : zMM) (q : Int32 × zMM) (h : fX7_words_181 K158 a1 l2 l3 M = some q) : zEV iX7_words 0 0 (zZO (some (.inl q.1), q.2)) 181 [(0, .inr (.inr 158)), (1, .inl a1), (2, .inl l2), (3, .inl l3)] [] M := by
  unfold fX7_words_181 at h
  refine zEV.iinc (v := (l3 + (-1))) dX7_words_181 3 rfl rfl (Nat.le_of_ble_eq_true rfl) rfl ?_
  refine zEV.goto 158 dX7_words_184 (by decide) ?_
  exact zEV.perm [1, 2, 3, 0] rfl (hK158 (l2) ((l3 + (-1))) M q h)
def fX7_words_176 (K158 : Int32 → Int32 → zMM → Option (Int32 × zMM)) (a1 : Int32) (l2 : Int32) (l3 : Int32) (M : zMM) : Option (Int32 × zMM) :=
  (fX7_untie (l3) M).bind fun q1 =>
  fX7_words_181 K158 a1 (l2) (l3) q1
set_option maxRecDepth 100000 in
theorem tX7_words_176 (K158 : Int32 → Int32 → zMM → Option (Int32 × zMM)) (a1 : Int32) (hK158 : ∀ (l2 : Int32) (l3 : Int32) (M : zMM) (q : Int32 × zMM), K158 l2 l3 M = some q → zEV iX7_words 0 0 (zZO (some (.inl q.1), q.2)) 158 [(0, .inr (.inr 158)), (1, .inl a1), (2, .inl l2), (3, .inl l3)] [] M) (l2 : Int32) (l3 : Int32) (M : zMM) (q : Int32 × zMM) (h : fX7_words_176 K158 a1 l2 l3 M = some q) : zEV iX7_words 0 0 (zZO (some (.inl q.1), q.2)) 176 [(0, .inr (.inr 158)), (1, .inl a1), (2, .inl l2), (3, .inl l3)] [] M := by
  unfold fX7_words_176 at h
  refine zEV.aload_n dX7_words_176 rfl 0 rfl ?_
  refine zEV.iload_n dX7_words_177 rfl 3 rfl ?_
  obtain ⟨q1, hq1, h⟩ := bind_yes h
  refine zEV.callVv (kX7_untie (l3)  M q1 hq1) (by decide) rfl rfl wm_RX7_114 wc_X7_untie hy_X7_untie rfl ⟨Nat.le_of_ble_eq_true rfl, Nat.le_of_ble_eq_true rfl⟩ rfl (Nat.le_of_ble_eq_true rfl) dX7_words_178 ?_
  exact zEV.perm [0, 1, 2, 3] rfl (tX7_words_181 K158 a1 hK158 (l2) (l3) q1 q h)
def fX7_words_158 (a1 : Int32) : Nat → Int32 → Int32 → zMM → Option (Int32 × zMM)
  | 0, _, _, _ => none
  | n + 1, l2, l3, M =>
  if l3 < (0 : Int32) then
    some (l2, M)
  else
    if a1 = (0 : Int32) then
      fX7_words_176 (fX7_words_158 a1 n) a1 (l2) (l3) M
    else
      (fX7_tied (l3) (0) M).bind fun q3 =>
      if q3.1 = a1 then
        fX7_words_176 (fX7_words_158 a1 n) a1 (l2) (l3) q3.2
      else
        fX7_words_181 (fX7_words_158 a1 n) a1 (l2) (l3) q3.2
set_option maxRecDepth 100000 in
theorem tX7_words_158 (a1 : Int32) : ∀ (n : Nat) (l2 : Int32) (l3 : Int32) (M : zMM) (q : Int32 × zMM), fX7_words_158 a1 n l2 l3 M = some q → zEV iX7_words 0 0 (zZO (some (.inl q.1), q.2)) 158 [(0, .inr (.inr 158)), (1, .inl a1), (2, .inl l2), (3, .inl l3)] [] M := by
  intro n
  induction n with
  | zero =>
    intro l2 l3 M q h
    rw [fX7_words_158] at h
    cases h
  | succ n ih =>
    intro l2 l3 M q h
    rw [fX7_words_158] at h
    refine zEV.iload_n dX7_words_158 rfl 3 rfl ?_
    refine zEV.if_lt 187 dX7_words_159 (by decide) (fun c1 => ?_) (fun c1 => ?_)
    · rw [if_pos c1] at h
      refine zEV.iload_n dX7_words_187 rfl 2 rfl ?_
      have h := Option.some.inj h
      subst h
      exact zEV.iret rfl dX7_words_188
    · rw [if_neg c1] at h
      refine zEV.iload_n dX7_words_162 rfl 1 rfl ?_
      refine zEV.if_eq 176 dX7_words_163 (by decide) (fun c2 => ?_) (fun c2 => ?_)
      · rw [if_pos c2] at h
        exact zEV.perm [0, 1, 2, 3] rfl (tX7_words_176 (fX7_words_158 a1 n) a1 (fun l2 l3 M9 q9 h9 => ih l2 l3 M9 q9 h9) (l2) (l3) M q h)
      · rw [if_neg c2] at h
        refine zEV.aload_n dX7_words_166 rfl 0 rfl ?_
        refine zEV.iload_n dX7_words_167 rfl 3 rfl ?_
        refine zEV.iconst (v := 0) dX7_words_168 rfl ?_
        obtain ⟨q3, hq3, h⟩ := bind_yes h
        refine zEV.callVi (kX7_tied (l3) (0)  M q3 hq3) (by decide) rfl rfl wm_RX7_110 wc_X7_tied hy_X7_tied rfl ⟨Nat.le_of_ble_eq_true rfl, Nat.le_of_ble_eq_true rfl⟩ rfl (Nat.le_of_ble_eq_true rfl) dX7_words_169 ?_
        refine zEV.iload_n dX7_words_172 rfl 1 rfl ?_
        refine zEV.icmp_ne 181 dX7_words_173 (by decide) (fun c4 => ?_) (fun c4 => ?_)
        · rw [if_neg c4] at h
          exact zEV.perm [0, 1, 2, 3] rfl (tX7_words_181 (fX7_words_158 a1 n) a1 (fun l2 l3 M9 q9 h9 => ih l2 l3 M9 q9 h9) (l2) (l3) q3.2 q h)
        · rw [if_pos c4] at h
          exact zEV.perm [0, 1, 2, 3] rfl (tX7_words_176 (fX7_words_158 a1 n) a1 (fun l2 l3 M9 q9 h9 => ih l2 l3 M9 q9 h9) (l2) (l3) q3.2 q h)
def fX7_words_140 (K106 : Int32 → Int32 → zMM → Option (Int32 × zMM)) (a1 : Int32) (l2 : Int32) (l3 : Int32) (s0 : Int32) (s1 : Int32) (M : zMM) : Option (Int32 × zMM) :=
  if oob (s1) 259 then none else
  K106 (l2) ((l3 + 1)) (wr M 159 (Int32.toNatClampNeg s1) s0)
set_option maxRecDepth 100000 in
theorem tX7_words_140 (K106 : Int32 → Int32 → zMM → Option (Int32 × zMM)) (a1 : Int32) (hK106 : ∀ (l2 : Int32) (l3 : Int32) (M : zMM) (q : Int32 × zMM), K106 l2 l3 M = some q → zEV iX7_words 0 0 (zZO (some (.inl q.1), q.2)) 106 [(0, .inr (.inr 158)), (1, .inl a1), (2, .inl l2), (3, .inl l3)] [] M) (l2 : Int32) (l3 : Int32) (s0 : Int32) (s1 : Int32) (M : zMM) (q : Int32 × zMM) (h : fX7_words_140 K106 a1 l2 l3 s0 s1 M = some q) : zEV iX7_words 0 0 (zZO (some (.inl q.1), q.2)) 140 [(0, .inr (.inr 158)), (1, .inl a1), (2, .inl l2), (3, .inl l3)] [.inl s0, .inl s1, .inr (.inr 159)] M := by
  unfold fX7_words_140 at h
  obtain ⟨g1, h⟩ := ite_no h
  refine zEV.iast (by decide) rfl g1 dX7_words_140 ?_
  refine zEV.iinc (v := (l3 + 1)) dX7_words_141 3 rfl rfl (Nat.le_of_ble_eq_true rfl) rfl ?_
  refine zEV.goto 106 dX7_words_144 (by decide) ?_
  exact zEV.perm [1, 2, 3, 0] rfl (hK106 (l2) ((l3 + 1)) (wr M 159 (Int32.toNatClampNeg s1) s0) q h)
def fX7_words_106 (a1 : Int32) : Nat → Int32 → Int32 → zMM → Option (Int32 × zMM)
  | 0, _, _, _ => none
  | n + 1, l2, l3, M =>
  if (70 : Int32) ≤ l3 then
    fX7_words_158 a1 zFU (l2) (((M.1 159 218) - 1)) M
  else
    if l2 ≤ l3 then
      fX7_words_140 (fX7_words_106 a1 n) a1 (l2) (l3) (0) (((8 + (70 * a1)) + l3)) M
    else
      if oob (l3) 320 then none else
      fX7_words_140 (fX7_words_106 a1 n) a1 (l2) (l3) ((M.1 162 (Int32.toNatClampNeg l3))) (((8 + (70 * a1)) + l3)) M
set_option maxRecDepth 100000 in
theorem tX7_words_106 (a1 : Int32) : ∀ (n : Nat) (l2 : Int32) (l3 : Int32) (M : zMM) (q : Int32 × zMM), fX7_words_106 a1 n l2 l3 M = some q → zEV iX7_words 0 0 (zZO (some (.inl q.1), q.2)) 106 [(0, .inr (.inr 158)), (1, .inl a1), (2, .inl l2), (3, .inl l3)] [] M := by
  intro n
  induction n with
  | zero =>
    intro l2 l3 M q h
    rw [fX7_words_106] at h
    cases h
  | succ n ih =>
    intro l2 l3 M q h
    rw [fX7_words_106] at h
    refine zEV.iload_n dX7_words_106 rfl 3 rfl ?_
    refine zEV.bipush (v := 70) dX7_words_107 rfl ?_
    refine zEV.icmp_ge 147 dX7_words_109 (by decide) (fun c1 => ?_) (fun c1 => ?_)
    · rw [if_pos c1] at h
      refine zEV.aload_n dX7_words_147 rfl 0 rfl ?_
      refine zEV.gfr rfl inz7 0 (by decide) wf_RX7_9 (by decide) rfl rfl dX7_words_148 ?_
      refine zEV.sipush (v := 218) dX7_words_151 rfl ?_
      refine zEV.ialdL (j := 218) (by decide) rfl (by decide) (by decide) dX7_words_154 ?_
      refine zEV.iconst (v := 1) dX7_words_155 rfl ?_
      refine zEV.isub dX7_words_156 ?_
      refine zEV.istore_n dX7_words_157 rfl (Nat.le_of_ble_eq_true rfl) rfl ?_
      exact zEV.perm [1, 2, 3, 0] rfl (tX7_words_158 a1 zFU (l2) (((M.1 159 218) - 1)) M q h)
    · rw [if_neg c1] at h
      refine zEV.aload_n dX7_words_112 rfl 0 rfl ?_
      refine zEV.gfr rfl inz7 0 (by decide) wf_RX7_9 (by decide) rfl rfl dX7_words_113 ?_
      refine zEV.bipush (v := 8) dX7_words_116 rfl ?_
      refine zEV.bipush (v := 70) dX7_words_118 rfl ?_
      refine zEV.iload_n dX7_words_120 rfl 1 rfl ?_
      refine zEV.imul dX7_words_121 ?_
      refine zEV.iadd dX7_words_122 ?_
      refine zEV.iload_n dX7_words_123 rfl 3 rfl ?_
      refine zEV.iadd dX7_words_124 ?_
      refine zEV.iload_n dX7_words_125 rfl 3 rfl ?_
      refine zEV.iload_n dX7_words_126 rfl 2 rfl ?_
      refine zEV.icmp_ge 139 dX7_words_127 (by decide) (fun c2 => ?_) (fun c2 => ?_)
      · rw [if_pos c2] at h
        refine zEV.iconst (v := 0) dX7_words_139 rfl ?_
        exact zEV.perm [0, 1, 2, 3] rfl (tX7_words_140 (fX7_words_106 a1 n) a1 (fun l2 l3 M9 q9 h9 => ih l2 l3 M9 q9 h9) (l2) (l3) (0) (((8 + (70 * a1)) + l3)) M q h)
      · rw [if_neg c2] at h
        refine zEV.aload_n dX7_words_130 rfl 0 rfl ?_
        refine zEV.gfr rfl inz7 9 (by decide) wf_RX7_21 (by decide) rfl rfl dX7_words_131 ?_
        refine zEV.iload_n dX7_words_134 rfl 3 rfl ?_
        obtain ⟨g3, h⟩ := ite_no h
        refine zEV.iald (by decide) rfl g3 dX7_words_135 ?_
        refine zEV.goto 140 dX7_words_136 (by decide) ?_
        exact zEV.perm [0, 1, 2, 3] rfl (tX7_words_140 (fX7_words_106 a1 n) a1 (fun l2 l3 M9 q9 h9 => ih l2 l3 M9 q9 h9) (l2) (l3) ((M.1 162 (Int32.toNatClampNeg l3))) (((8 + (70 * a1)) + l3)) M q h)
def fX7_words_77 (a1 : Int32) (l2 : Int32) (M : zMM) : Option (Int32 × zMM) :=
  (fX7_wasRight  M).bind fun q1 =>
  if q1.1 = (0 : Int32) then
    some (((-1) - (q1.2.1 158 8)), q1.2)
  else
    (fX7_change  q1.2).bind fun q3 =>
    if oob ((5 + a1)) 259 then none else
    fX7_words_106 a1 zFU (l2) (0) (wr q3 159 (Int32.toNatClampNeg (5 + a1)) l2)
set_option maxRecDepth 100000 in
theorem tX7_words_77 (a1 : Int32) (l2 : Int32) (M : zMM) (q : Int32 × zMM) (h : fX7_words_77 a1 l2 M = some q) : zEV iX7_words 0 0 (zZO (some (.inl q.1), q.2)) 77 [(0, .inr (.inr 158)), (1, .inl a1), (2, .inl l2)] [] M := by
  unfold fX7_words_77 at h
  refine zEV.aload_n dX7_words_77 rfl 0 rfl ?_
  obtain ⟨q1, hq1, h⟩ := bind_yes h
  refine zEV.callVi (kX7_wasRight   M q1 hq1) (by decide) rfl rfl wm_RX7_104 wc_X7_wasRight hy_X7_wasRight rfl ⟨Nat.le_of_ble_eq_true rfl, Nat.le_of_ble_eq_true rfl⟩ rfl (Nat.le_of_ble_eq_true rfl) dX7_words_78 ?_
  refine zEV.if_ne 91 dX7_words_81 (by decide) (fun c2 => ?_) (fun c2 => ?_)
  · rw [if_neg c2] at h
    refine zEV.aload_n dX7_words_91 rfl 0 rfl ?_
    obtain ⟨q3, hq3, h⟩ := bind_yes h
    refine zEV.callVv (kX7_change   q1.2 q3 hq3) (by decide) rfl rfl wm_RX7_107 wc_X7_change hy_X7_change rfl ⟨Nat.le_of_ble_eq_true rfl, Nat.le_of_ble_eq_true rfl⟩ rfl (Nat.le_of_ble_eq_true rfl) dX7_words_92 ?_
    refine zEV.aload_n dX7_words_95 rfl 0 rfl ?_
    refine zEV.gfr rfl inz7 0 (by decide) wf_RX7_9 (by decide) rfl rfl dX7_words_96 ?_
    refine zEV.iconst (v := 5) dX7_words_99 rfl ?_
    refine zEV.iload_n dX7_words_100 rfl 1 rfl ?_
    refine zEV.iadd dX7_words_101 ?_
    refine zEV.iload_n dX7_words_102 rfl 2 rfl ?_
    obtain ⟨g4, h⟩ := ite_no h
    refine zEV.iast (by decide) rfl g4 dX7_words_103 ?_
    refine zEV.iconst (v := 0) dX7_words_104 rfl ?_
    refine zEV.istore_n dX7_words_105 rfl (Nat.le_of_ble_eq_true rfl) rfl ?_
    exact zEV.perm [1, 2, 3, 0] rfl (tX7_words_106 a1 zFU (l2) (0) (wr q3 159 (Int32.toNatClampNeg (5 + a1)) l2) q h)
  · rw [if_pos c2] at h
    refine zEV.iconst (v := (-1)) dX7_words_84 rfl ?_
    refine zEV.aload_n dX7_words_85 rfl 0 rfl ?_
    refine zEV.gfi rfl inz7 8 (by decide) wf_RX7_82 (by decide) rfl rfl dX7_words_86 ?_
    refine zEV.isub dX7_words_89 ?_
    have h := Option.some.inj h
    subst h
    exact zEV.iret rfl dX7_words_90
def fX7_words_20 (a1 : Int32) : Nat → Int32 → zMM → Option (Int32 × zMM)
  | 0, _, _ => none
  | n + 1, l2, M =>
  (fX7_fine  M).bind fun q1 =>
  if q1.1 = (0 : Int32) then
    fX7_words_77 a1 (l2) q1.2
  else
    if (q1.2.1 158 6) ≤ (q1.2.1 158 7) then
      fX7_words_77 a1 (l2) q1.2
    else
      if l2 = 70 then
        (fX7_fault ((q1.2.1 158 7)) q1.2).bind fun q7 =>
        fX7_words_20 a1 n (l2) q7
      else
        (fX7_oneOf (49) (9) q1.2).bind fun q5 =>
        if oob (l2) 320 then none else
        fX7_words_20 a1 n ((l2 + 1)) (wr q5.2 162 (Int32.toNatClampNeg l2) (q5.1 + 1))
set_option maxRecDepth 100000 in
theorem tX7_words_20 (a1 : Int32) : ∀ (n : Nat) (l2 : Int32) (M : zMM) (q : Int32 × zMM), fX7_words_20 a1 n l2 M = some q → zEV iX7_words 0 0 (zZO (some (.inl q.1), q.2)) 20 [(0, .inr (.inr 158)), (1, .inl a1), (2, .inl l2)] [] M := by
  intro n
  induction n with
  | zero =>
    intro l2 M q h
    rw [fX7_words_20] at h
    cases h
  | succ n ih =>
    intro l2 M q h
    rw [fX7_words_20] at h
    refine zEV.aload_n dX7_words_20 rfl 0 rfl ?_
    obtain ⟨q1, hq1, h⟩ := bind_yes h
    refine zEV.callVi (kX7_fine   M q1 hq1) (by decide) rfl rfl wm_RX7_85 wc_X7_fine hy_X7_fine rfl ⟨Nat.le_of_ble_eq_true rfl, Nat.le_of_ble_eq_true rfl⟩ rfl (Nat.le_of_ble_eq_true rfl) dX7_words_21 ?_
    refine zEV.if_eq 77 dX7_words_24 (by decide) (fun c2 => ?_) (fun c2 => ?_)
    · rw [if_pos c2] at h
      exact zEV.perm [0, 1, 2] rfl (tX7_words_77 a1 (l2) q1.2 q h)
    · rw [if_neg c2] at h
      refine zEV.aload_n dX7_words_27 rfl 0 rfl ?_
      refine zEV.gfi rfl inz7 7 (by decide) wf_RX7_79 (by decide) rfl rfl dX7_words_28 ?_
      refine zEV.aload_n dX7_words_31 rfl 0 rfl ?_
      refine zEV.gfi rfl inz7 6 (by decide) wf_RX7_76 (by decide) rfl rfl dX7_words_32 ?_
      refine zEV.icmp_ge 77 dX7_words_35 (by decide) (fun c3 => ?_) (fun c3 => ?_)
      · rw [if_pos c3] at h
        exact zEV.perm [0, 1, 2] rfl (tX7_words_77 a1 (l2) q1.2 q h)
      · rw [if_neg c3] at h
        refine zEV.iload_n dX7_words_38 rfl 2 rfl ?_
        refine zEV.bipush (v := 70) dX7_words_39 rfl ?_
        refine zEV.icmp_ne 55 dX7_words_41 (by decide) (fun c4 => ?_) (fun c4 => ?_)
        · rw [if_neg c4] at h
          refine zEV.aload_n dX7_words_55 rfl 0 rfl ?_
          refine zEV.gfr rfl inz7 9 (by decide) wf_RX7_21 (by decide) rfl rfl dX7_words_56 ?_
          refine zEV.iload_n dX7_words_59 rfl 2 rfl ?_
          refine zEV.aload_n dX7_words_60 rfl 0 rfl ?_
          refine zEV.bipush (v := 49) dX7_words_61 rfl ?_
          refine zEV.bipush (v := 9) dX7_words_63 rfl ?_
          obtain ⟨q5, hq5, h⟩ := bind_yes h
          refine zEV.callVi (kX7_oneOf (49) (9)  q1.2 q5 hq5) (by decide) rfl rfl wm_RX7_97 wc_X7_oneOf hy_X7_oneOf rfl ⟨Nat.le_of_ble_eq_true rfl, Nat.le_of_ble_eq_true rfl⟩ rfl (Nat.le_of_ble_eq_true rfl) dX7_words_65 ?_
          refine zEV.iconst (v := 1) dX7_words_68 rfl ?_
          refine zEV.iadd dX7_words_69 ?_
          obtain ⟨g6, h⟩ := ite_no h
          refine zEV.iast (by decide) rfl g6 dX7_words_70 ?_
          refine zEV.iinc (v := (l2 + 1)) dX7_words_71 2 rfl rfl (Nat.le_of_ble_eq_true rfl) rfl ?_
          refine zEV.goto 20 dX7_words_74 (by decide) ?_
          exact zEV.perm [1, 2, 0] rfl (ih ((l2 + 1)) (wr q5.2 162 (Int32.toNatClampNeg l2) (q5.1 + 1)) q h)
        · rw [if_pos c4] at h
          refine zEV.aload_n dX7_words_44 rfl 0 rfl ?_
          refine zEV.aload_n dX7_words_45 rfl 0 rfl ?_
          refine zEV.gfi rfl inz7 7 (by decide) wf_RX7_79 (by decide) rfl rfl dX7_words_46 ?_
          obtain ⟨q7, hq7, h⟩ := bind_yes h
          refine zEV.callVv (kX7_fault ((q1.2.1 158 7))  q1.2 q7 hq7) (by decide) rfl rfl wm_RX7_93 wc_X7_fault hy_X7_fault rfl ⟨Nat.le_of_ble_eq_true rfl, Nat.le_of_ble_eq_true rfl⟩ rfl (Nat.le_of_ble_eq_true rfl) dX7_words_49 ?_
          refine zEV.goto 20 dX7_words_52 (by decide) ?_
          exact zEV.perm [0, 1, 2] rfl (ih (l2) q7 q h)
def fX7_words (a1 : Int32) (M : zMM) : Option (Int32 × zMM) :=
  (fX7_begin  (wr M 158 5 0)).bind fun q1 =>
  (fX7_isText (a1) q1).bind fun q2 =>
  if q2.1 = (0 : Int32) then
    some ((-1), q2.2)
  else
    fX7_words_20 a1 zFU (0) q2.2
set_option maxRecDepth 100000 in
theorem tX7_words_0 (a1 : Int32) (M : zMM) (q : Int32 × zMM) (h : fX7_words a1  M = some q) : zEV iX7_words 0 0 (zZO (some (.inl q.1), q.2)) 0 [(0, .inr (.inr 158)), (1, .inl a1)] [] M := by
  unfold fX7_words at h
  refine zEV.aload_n dX7_words_0 rfl 0 rfl ?_
  refine zEV.iconst (v := 0) dX7_words_1 rfl ?_
  refine zEV.pfi rfl inz7 tyX7 tyX7_ok nmX7 5 (by decide) wf_RX7_58 rfl (by decide +kernel) (by decide) rfl rfl dX7_words_2 ?_
  refine zEV.aload_n dX7_words_5 rfl 0 rfl ?_
  obtain ⟨q1, hq1, h⟩ := bind_yes h
  refine zEV.callVv (kX7_begin   (wr M 158 5 0) q1 hq1) (by decide) rfl rfl wm_RX7_101 wc_X7_begin hy_X7_begin rfl ⟨Nat.le_of_ble_eq_true rfl, Nat.le_of_ble_eq_true rfl⟩ rfl (Nat.le_of_ble_eq_true rfl) dX7_words_6 ?_
  refine zEV.iload_n dX7_words_9 rfl 1 rfl ?_
  obtain ⟨q2, hq2, h⟩ := bind_yes h
  refine zEV.callSi (kX7_isText (a1)  q1 q2 hq2) wm_RX7_69 wc_X7_isText hy_X7_isText rfl ⟨Nat.le_of_ble_eq_true rfl, Nat.le_of_ble_eq_true rfl⟩ rfl (Nat.le_of_ble_eq_true rfl) dX7_words_10 ?_
  refine zEV.if_ne 18 dX7_words_13 (by decide) (fun c3 => ?_) (fun c3 => ?_)
  · rw [if_neg c3] at h
    refine zEV.iconst (v := 0) dX7_words_18 rfl ?_
    refine zEV.istore_n dX7_words_19 rfl (Nat.le_of_ble_eq_true rfl) rfl ?_
    exact zEV.perm [1, 2, 0] rfl (tX7_words_20 a1 zFU (0) q2.2 q h)
  · rw [if_pos c3] at h
    refine zEV.iconst (v := (-1)) dX7_words_16 rfl ?_
    have h := Option.some.inj h
    subst h
    exact zEV.iret rfl dX7_words_17
theorem kX7_words (a1 : Int32) (M : zMM) (q : Int32 × zMM) (h : fX7_words a1 M = some q) : zCN yX7_words iX7_words [.inr (.inr 158), .inl a1] M (some (.inl q.1), q.2) :=
  zCN.of (by decide) rfl rfl (Nat.le_of_ble_eq_true rfl) (zEV.perm [0, 1] rfl (tX7_words_0 a1 M q h))
-- RingedPageModel.wasTied
def fX7_wasTied_39 (K3 : Int32 → zMM → Option (Int32 × zMM)) (a1 : Int32) (a2 : Int32) (a3 : Int32) (l4 : Int32) (M : zMM) : Option (Int32 × zMM) :=
  K3 ((l4 + 1)) M
set_option maxRecDepth 100000 in
theorem tX7_wasTied_39 (K3 : Int32 → zMM → Option (Int32 × zMM)) (a1 : Int32) (a2 : Int32) (a3 : Int32) (hK3 : ∀ (l4 : Int32) (M : zMM) (q : Int32 × zMM), K3 l4 M = some q → zEV iX7_wasTied 0 0 (zZO (some (.inl q.1), q.2)) 3 [(0, .inr (.inr 158)), (1, .inl a1), (2, .inl a2), (3, .inl a3), (4, .inl l4)] [] M) (l4 : Int32) (M : zMM) (q : Int32 × zMM) (h : fX7_wasTied_39 K3 a1 a2 a3 l4 M = some q) : zEV iX7_wasTied 0 0 (zZO (some (.inl q.1), q.2)) 39 [(0, .inr (.inr 158)), (1, .inl a1), (2, .inl a2), (3, .inl a3), (4, .inl l4)] [] M := by
  unfold fX7_wasTied_39 at h
  refine zEV.iinc (v := (l4 + 1)) dX7_wasTied_39 4 rfl rfl (Nat.le_of_ble_eq_true rfl) rfl ?_
  refine zEV.goto 3 dX7_wasTied_42 (by decide) ?_
  exact zEV.perm [1, 2, 3, 4, 0] rfl (hK3 ((l4 + 1)) M q h)
def fX7_wasTied_3 (a1 : Int32) (a2 : Int32) (a3 : Int32) : Nat → Int32 → zMM → Option (Int32 × zMM)
  | 0, _, _ => none
  | n + 1, l4, M =>
  if a1 ≤ l4 then
    some (0, M)
  else
    if oob ((3 * l4)) 320 then none else
    if (M.1 162 (Int32.toNatClampNeg (3 * l4))) = a2 then
      if oob (((3 * l4) + 1)) 320 then none else
      if (M.1 162 (Int32.toNatClampNeg ((3 * l4) + 1))) = a3 then
        some (1, M)
      else
        fX7_wasTied_39 (fX7_wasTied_3 a1 a2 a3 n) a1 a2 a3 (l4) M
    else
      fX7_wasTied_39 (fX7_wasTied_3 a1 a2 a3 n) a1 a2 a3 (l4) M
set_option maxRecDepth 100000 in
theorem tX7_wasTied_3 (a1 : Int32) (a2 : Int32) (a3 : Int32) : ∀ (n : Nat) (l4 : Int32) (M : zMM) (q : Int32 × zMM), fX7_wasTied_3 a1 a2 a3 n l4 M = some q → zEV iX7_wasTied 0 0 (zZO (some (.inl q.1), q.2)) 3 [(0, .inr (.inr 158)), (1, .inl a1), (2, .inl a2), (3, .inl a3), (4, .inl l4)] [] M := by
  intro n
  induction n with
  | zero =>
    intro l4 M q h
    rw [fX7_wasTied_3] at h
    cases h
  | succ n ih =>
    intro l4 M q h
    rw [fX7_wasTied_3] at h
    refine zEV.iload dX7_wasTied_3 4 rfl ?_
    refine zEV.iload_n dX7_wasTied_5 rfl 1 rfl ?_
    refine zEV.icmp_ge 45 dX7_wasTied_6 (by decide) (fun c1 => ?_) (fun c1 => ?_)
    · rw [if_pos c1] at h
      refine zEV.iconst (v := 0) dX7_wasTied_45 rfl ?_
      have h := Option.some.inj h
      subst h
      exact zEV.zret rfl (Or.inl rfl) dX7_wasTied_46
    · rw [if_neg c1] at h
      refine zEV.aload_n dX7_wasTied_9 rfl 0 rfl ?_
      refine zEV.gfr rfl inz7 9 (by decide) wf_RX7_21 (by decide) rfl rfl dX7_wasTied_10 ?_
      refine zEV.iconst (v := 3) dX7_wasTied_13 rfl ?_
      refine zEV.iload dX7_wasTied_14 4 rfl ?_
      refine zEV.imul dX7_wasTied_16 ?_
      obtain ⟨g2, h⟩ := ite_no h
      refine zEV.iald (by decide) rfl g2 dX7_wasTied_17 ?_
      refine zEV.iload_n dX7_wasTied_18 rfl 2 rfl ?_
      refine zEV.icmp_ne 39 dX7_wasTied_19 (by decide) (fun c3 => ?_) (fun c3 => ?_)
      · rw [if_neg c3] at h
        exact zEV.perm [0, 1, 2, 3, 4] rfl (tX7_wasTied_39 (fX7_wasTied_3 a1 a2 a3 n) a1 a2 a3 (fun l4 M9 q9 h9 => ih l4 M9 q9 h9) (l4) M q h)
      · rw [if_pos c3] at h
        refine zEV.aload_n dX7_wasTied_22 rfl 0 rfl ?_
        refine zEV.gfr rfl inz7 9 (by decide) wf_RX7_21 (by decide) rfl rfl dX7_wasTied_23 ?_
        refine zEV.iconst (v := 3) dX7_wasTied_26 rfl ?_
        refine zEV.iload dX7_wasTied_27 4 rfl ?_
        refine zEV.imul dX7_wasTied_29 ?_
        refine zEV.iconst (v := 1) dX7_wasTied_30 rfl ?_
        refine zEV.iadd dX7_wasTied_31 ?_
        obtain ⟨g4, h⟩ := ite_no h
        refine zEV.iald (by decide) rfl g4 dX7_wasTied_32 ?_
        refine zEV.iload_n dX7_wasTied_33 rfl 3 rfl ?_
        refine zEV.icmp_ne 39 dX7_wasTied_34 (by decide) (fun c5 => ?_) (fun c5 => ?_)
        · rw [if_neg c5] at h
          exact zEV.perm [0, 1, 2, 3, 4] rfl (tX7_wasTied_39 (fX7_wasTied_3 a1 a2 a3 n) a1 a2 a3 (fun l4 M9 q9 h9 => ih l4 M9 q9 h9) (l4) M q h)
        · rw [if_pos c5] at h
          refine zEV.iconst (v := 1) dX7_wasTied_37 rfl ?_
          have h := Option.some.inj h
          subst h
          exact zEV.zret rfl (Or.inr rfl) dX7_wasTied_38
def fX7_wasTied (a1 : Int32) (a2 : Int32) (a3 : Int32) (M : zMM) : Option (Int32 × zMM) :=
  fX7_wasTied_3 a1 a2 a3 zFU (0) M
set_option maxRecDepth 100000 in
theorem tX7_wasTied_0 (a1 : Int32) (a2 : Int32) (a3 : Int32) (M : zMM) (q : Int32 × zMM) (h : fX7_wasTied a1 a2 a3  M = some q) : zEV iX7_wasTied 0 0 (zZO (some (.inl q.1), q.2)) 0 [(0, .inr (.inr 158)), (1, .inl a1), (2, .inl a2), (3, .inl a3)] [] M := by
  unfold fX7_wasTied at h
  refine zEV.iconst (v := 0) dX7_wasTied_0 rfl ?_
  refine zEV.istore dX7_wasTied_1 (Nat.le_of_ble_eq_true rfl) rfl ?_
  exact zEV.perm [1, 2, 3, 4, 0] rfl (tX7_wasTied_3 a1 a2 a3 zFU (0) M q h)
theorem kX7_wasTied (a1 : Int32) (a2 : Int32) (a3 : Int32) (M : zMM) (q : Int32 × zMM) (h : fX7_wasTied a1 a2 a3 M = some q) : zCN yX7_wasTied iX7_wasTied [.inr (.inr 158), .inl a1, .inl a2, .inl a3] M (some (.inl q.1), q.2) :=
  zCN.of (by decide) rfl rfl (Nat.le_of_ble_eq_true rfl) (zEV.perm [0, 1, 2, 3] rfl (tX7_wasTied_0 a1 a2 a3 M q h))
-- RingedPageModel.readTie
def fX7_readTie_128 (a1 : Int32) (l2 : Int32) (l3 : Int32) (l4 : Int32) (M : zMM) : Option (zMM) :=
  if oob ((3 * a1)) 320 then none else
  if oob (((3 * a1) + 1)) 320 then none else
  if oob (((3 * a1) + 2)) 320 then none else
  some (wr (wr (wr M 162 (Int32.toNatClampNeg (3 * a1)) l2) 162 (Int32.toNatClampNeg ((3 * a1) + 1)) l3) 162 (Int32.toNatClampNeg ((3 * a1) + 2)) l4)
set_option maxRecDepth 100000 in
theorem tX7_readTie_128 (a1 : Int32) (l2 : Int32) (l3 : Int32) (l4 : Int32) (M : zMM) (q : zMM) (h : fX7_readTie_128 a1 l2 l3 l4 M = some q) : zEV iX7_readTie 0 0 (zZO (none, q)) 128 [(0, .inr (.inr 158)), (1, .inl a1), (2, .inl l2), (3, .inl l3), (4, .inl l4)] [] M := by
  unfold fX7_readTie_128 at h
  refine zEV.aload_n dX7_readTie_128 rfl 0 rfl ?_
  refine zEV.gfr rfl inz7 9 (by decide) wf_RX7_21 (by decide) rfl rfl dX7_readTie_129 ?_
  refine zEV.iconst (v := 3) dX7_readTie_132 rfl ?_
  refine zEV.iload_n dX7_readTie_133 rfl 1 rfl ?_
  refine zEV.imul dX7_readTie_134 ?_
  refine zEV.iload_n dX7_readTie_135 rfl 2 rfl ?_
  obtain ⟨g1, h⟩ := ite_no h
  refine zEV.iast (by decide) rfl g1 dX7_readTie_136 ?_
  refine zEV.aload_n dX7_readTie_137 rfl 0 rfl ?_
  refine zEV.gfr rfl inz7 9 (by decide) wf_RX7_21 (by decide) rfl rfl dX7_readTie_138 ?_
  refine zEV.iconst (v := 3) dX7_readTie_141 rfl ?_
  refine zEV.iload_n dX7_readTie_142 rfl 1 rfl ?_
  refine zEV.imul dX7_readTie_143 ?_
  refine zEV.iconst (v := 1) dX7_readTie_144 rfl ?_
  refine zEV.iadd dX7_readTie_145 ?_
  refine zEV.iload_n dX7_readTie_146 rfl 3 rfl ?_
  obtain ⟨g2, h⟩ := ite_no h
  refine zEV.iast (by decide) rfl g2 dX7_readTie_147 ?_
  refine zEV.aload_n dX7_readTie_148 rfl 0 rfl ?_
  refine zEV.gfr rfl inz7 9 (by decide) wf_RX7_21 (by decide) rfl rfl dX7_readTie_149 ?_
  refine zEV.iconst (v := 3) dX7_readTie_152 rfl ?_
  refine zEV.iload_n dX7_readTie_153 rfl 1 rfl ?_
  refine zEV.imul dX7_readTie_154 ?_
  refine zEV.iconst (v := 2) dX7_readTie_155 rfl ?_
  refine zEV.iadd dX7_readTie_156 ?_
  refine zEV.iload dX7_readTie_157 4 rfl ?_
  obtain ⟨g3, h⟩ := ite_no h
  refine zEV.iast (by decide) rfl g3 dX7_readTie_159 ?_
  have h := Option.some.inj h
  subst h
  exact zEV.vret rfl dX7_readTie_160
def fX7_readTie_94 (a1 : Int32) (l2 : Int32) (l3 : Int32) (M : zMM) : Option (zMM) :=
  (fX7_digits (2) M).bind fun q1 =>
  (fX7_fine  q1.2).bind fun q2 =>
  if q2.1 = (0 : Int32) then
    fX7_readTie_128 a1 (l2) (l3) (q1.1) q2.2
  else
    (fX7_isWord (0) (q1.1) q2.2).bind fun q4 =>
    if q4.1 = (0 : Int32) then
      (fX7_fault (((q4.2.1 158 7) - 1)) q4.2).bind fun q6 =>
      fX7_readTie_128 a1 (l2) (l3) (q1.1) q6
    else
      fX7_readTie_128 a1 (l2) (l3) (q1.1) q4.2
set_option maxRecDepth 100000 in
theorem tX7_readTie_94 (a1 : Int32) (l2 : Int32) (l3 : Int32) (M : zMM) (q : zMM) (h : fX7_readTie_94 a1 l2 l3 M = some q) : zEV iX7_readTie 0 0 (zZO (none, q)) 94 [(0, .inr (.inr 158)), (1, .inl a1), (2, .inl l2), (3, .inl l3)] [] M := by
  unfold fX7_readTie_94 at h
  refine zEV.aload_n dX7_readTie_94 rfl 0 rfl ?_
  refine zEV.iconst (v := 2) dX7_readTie_95 rfl ?_
  obtain ⟨q1, hq1, h⟩ := bind_yes h
  refine zEV.callVi (kX7_digits (2)  M q1 hq1) (by decide) rfl rfl wm_RX7_117 wc_X7_digits hy_X7_digits rfl ⟨Nat.le_of_ble_eq_true rfl, Nat.le_of_ble_eq_true rfl⟩ rfl (Nat.le_of_ble_eq_true rfl) dX7_readTie_96 ?_
  refine zEV.istore dX7_readTie_99 (Nat.le_of_ble_eq_true rfl) rfl ?_
  refine zEV.aload_n dX7_readTie_101 rfl 1 rfl ?_
  obtain ⟨q2, hq2, h⟩ := bind_yes h
  refine zEV.callVi (kX7_fine   q1.2 q2 hq2) (by decide) rfl rfl wm_RX7_85 wc_X7_fine hy_X7_fine rfl ⟨Nat.le_of_ble_eq_true rfl, Nat.le_of_ble_eq_true rfl⟩ rfl (Nat.le_of_ble_eq_true rfl) dX7_readTie_102 ?_
  refine zEV.if_eq 128 dX7_readTie_105 (by decide) (fun c3 => ?_) (fun c3 => ?_)
  · rw [if_pos c3] at h
    exact zEV.perm [1, 2, 3, 4, 0] rfl (tX7_readTie_128 a1 (l2) (l3) (q1.1) q2.2 q h)
  · rw [if_neg c3] at h
    refine zEV.aload_n dX7_readTie_108 rfl 1 rfl ?_
    refine zEV.iconst (v := 0) dX7_readTie_109 rfl ?_
    refine zEV.iload dX7_readTie_110 0 rfl ?_
    obtain ⟨q4, hq4, h⟩ := bind_yes h
    refine zEV.callVi (kX7_isWord (0) (q1.1)  q2.2 q4 hq4) (by decide) rfl rfl wm_RX7_121 wc_X7_isWord hy_X7_isWord rfl ⟨Nat.le_of_ble_eq_true rfl, Nat.le_of_ble_eq_true rfl⟩ rfl (Nat.le_of_ble_eq_true rfl) dX7_readTie_112 ?_
    refine zEV.if_ne 128 dX7_readTie_115 (by decide) (fun c5 => ?_) (fun c5 => ?_)
    · rw [if_neg c5] at h
      exact zEV.perm [1, 2, 3, 4, 0] rfl (tX7_readTie_128 a1 (l2) (l3) (q1.1) q4.2 q h)
    · rw [if_pos c5] at h
      refine zEV.aload_n dX7_readTie_118 rfl 1 rfl ?_
      refine zEV.aload_n dX7_readTie_119 rfl 1 rfl ?_
      refine zEV.gfi rfl inz7 7 (by decide) wf_RX7_79 (by decide) rfl rfl dX7_readTie_120 ?_
      refine zEV.iconst (v := 1) dX7_readTie_123 rfl ?_
      refine zEV.isub dX7_readTie_124 ?_
      obtain ⟨q6, hq6, h⟩ := bind_yes h
      refine zEV.callVv (kX7_fault (((q4.2.1 158 7) - 1))  q4.2 q6 hq6) (by decide) rfl rfl wm_RX7_93 wc_X7_fault hy_X7_fault rfl ⟨Nat.le_of_ble_eq_true rfl, Nat.le_of_ble_eq_true rfl⟩ rfl (Nat.le_of_ble_eq_true rfl) dX7_readTie_125 ?_
      exact zEV.perm [1, 2, 3, 4, 0] rfl (tX7_readTie_128 a1 (l2) (l3) (q1.1) q6 q h)
def fX7_readTie_84 (a1 : Int32) (l2 : Int32) (l3 : Int32) (M : zMM) : Option (zMM) :=
  (fX7_fault (((M.1 158 7) - 1)) M).bind fun q1 =>
  fX7_readTie_94 a1 (l2) (l3) q1
set_option maxRecDepth 100000 in
theorem tX7_readTie_84 (a1 : Int32) (l2 : Int32) (l3 : Int32) (M : zMM) (q : zMM) (h : fX7_readTie_84 a1 l2 l3 M = some q) : zEV iX7_readTie 0 0 (zZO (none, q)) 84 [(0, .inr (.inr 158)), (1, .inl a1), (2, .inl l2), (3, .inl l3)] [] M := by
  unfold fX7_readTie_84 at h
  refine zEV.aload_n dX7_readTie_84 rfl 0 rfl ?_
  refine zEV.aload_n dX7_readTie_85 rfl 0 rfl ?_
  refine zEV.gfi rfl inz7 7 (by decide) wf_RX7_79 (by decide) rfl rfl dX7_readTie_86 ?_
  refine zEV.iconst (v := 1) dX7_readTie_89 rfl ?_
  refine zEV.isub dX7_readTie_90 ?_
  obtain ⟨q1, hq1, h⟩ := bind_yes h
  refine zEV.callVv (kX7_fault (((M.1 158 7) - 1))  M q1 hq1) (by decide) rfl rfl wm_RX7_93 wc_X7_fault hy_X7_fault rfl ⟨Nat.le_of_ble_eq_true rfl, Nat.le_of_ble_eq_true rfl⟩ rfl (Nat.le_of_ble_eq_true rfl) dX7_readTie_91 ?_
  exact zEV.perm [0, 1, 2, 3] rfl (tX7_readTie_94 a1 (l2) (l3) q1 q h)
def fX7_readTie_27 (a1 : Int32) (s0 : Int32) (M : zMM) : Option (zMM) :=
  if s0 = (-1) then
    (fX7_fault ((M.1 158 7)) M).bind fun q9 =>
    some q9
  else
    (fX7_digits (2) (wr M 158 7 ((M.1 158 7) + 1))).bind fun q2 =>
    (fX7_fine  q2.2).bind fun q3 =>
    if q3.1 = (0 : Int32) then
      fX7_readTie_94 a1 (s0) (q2.1) q3.2
    else
      (fX7_isWord (s0) (q2.1) q3.2).bind fun q5 =>
      if q5.1 = (0 : Int32) then
        fX7_readTie_84 a1 (s0) (q2.1) q5.2
      else
        (fX7_wasTied (a1) (s0) (q2.1) q5.2).bind fun q7 =>
        if q7.1 = (0 : Int32) then
          fX7_readTie_94 a1 (s0) (q2.1) q7.2
        else
          fX7_readTie_84 a1 (s0) (q2.1) q7.2
set_option maxRecDepth 100000 in
theorem tX7_readTie_27 (a1 : Int32) (s0 : Int32) (M : zMM) (q : zMM) (h : fX7_readTie_27 a1 s0 M = some q) : zEV iX7_readTie 0 0 (zZO (none, q)) 27 [(0, .inr (.inr 158)), (1, .inl a1)] [.inl s0] M := by
  unfold fX7_readTie_27 at h
  refine zEV.istore_n dX7_readTie_27 rfl (Nat.le_of_ble_eq_true rfl) rfl ?_
  refine zEV.iload_n dX7_readTie_28 rfl 0 rfl ?_
  refine zEV.iconst (v := (-1)) dX7_readTie_29 rfl ?_
  refine zEV.icmp_ne 42 dX7_readTie_30 (by decide) (fun c1 => ?_) (fun c1 => ?_)
  · rw [if_neg c1] at h
    refine zEV.aload_n dX7_readTie_42 rfl 1 rfl ?_
    refine zEV.dup dX7_readTie_43 rfl ?_
    refine zEV.gfi rfl inz7 7 (by decide) wf_RX7_79 (by decide) rfl rfl dX7_readTie_44 ?_
    refine zEV.iconst (v := 1) dX7_readTie_47 rfl ?_
    refine zEV.iadd dX7_readTie_48 ?_
    refine zEV.pfi rfl inz7 tyX7 tyX7_ok nmX7 7 (by decide) wf_RX7_79 rfl (by decide +kernel) (by decide) rfl rfl dX7_readTie_49 ?_
    refine zEV.aload_n dX7_readTie_52 rfl 1 rfl ?_
    refine zEV.iconst (v := 2) dX7_readTie_53 rfl ?_
    obtain ⟨q2, hq2, h⟩ := bind_yes h
    refine zEV.callVi (kX7_digits (2)  (wr M 158 7 ((M.1 158 7) + 1)) q2 hq2) (by decide) rfl rfl wm_RX7_117 wc_X7_digits hy_X7_digits rfl ⟨Nat.le_of_ble_eq_true rfl, Nat.le_of_ble_eq_true rfl⟩ rfl (Nat.le_of_ble_eq_true rfl) dX7_readTie_54 ?_
    refine zEV.istore_n dX7_readTie_57 rfl (Nat.le_of_ble_eq_true rfl) rfl ?_
    refine zEV.aload_n dX7_readTie_58 rfl 2 rfl ?_
    obtain ⟨q3, hq3, h⟩ := bind_yes h
    refine zEV.callVi (kX7_fine   q2.2 q3 hq3) (by decide) rfl rfl wm_RX7_85 wc_X7_fine hy_X7_fine rfl ⟨Nat.le_of_ble_eq_true rfl, Nat.le_of_ble_eq_true rfl⟩ rfl (Nat.le_of_ble_eq_true rfl) dX7_readTie_59 ?_
    refine zEV.if_eq 94 dX7_readTie_62 (by decide) (fun c4 => ?_) (fun c4 => ?_)
    · rw [if_pos c4] at h
      exact zEV.perm [2, 3, 1, 0] rfl (tX7_readTie_94 a1 (s0) (q2.1) q3.2 q h)
    · rw [if_neg c4] at h
      refine zEV.aload_n dX7_readTie_65 rfl 2 rfl ?_
      refine zEV.iload_n dX7_readTie_66 rfl 1 rfl ?_
      refine zEV.iload_n dX7_readTie_67 rfl 0 rfl ?_
      obtain ⟨q5, hq5, h⟩ := bind_yes h
      refine zEV.callVi (kX7_isWord (s0) (q2.1)  q3.2 q5 hq5) (by decide) rfl rfl wm_RX7_121 wc_X7_isWord hy_X7_isWord rfl ⟨Nat.le_of_ble_eq_true rfl, Nat.le_of_ble_eq_true rfl⟩ rfl (Nat.le_of_ble_eq_true rfl) dX7_readTie_68 ?_
      refine zEV.if_eq 84 dX7_readTie_71 (by decide) (fun c6 => ?_) (fun c6 => ?_)
      · rw [if_pos c6] at h
        exact zEV.perm [2, 3, 1, 0] rfl (tX7_readTie_84 a1 (s0) (q2.1) q5.2 q h)
      · rw [if_neg c6] at h
        refine zEV.aload_n dX7_readTie_74 rfl 2 rfl ?_
        refine zEV.iload_n dX7_readTie_75 rfl 3 rfl ?_
        refine zEV.iload_n dX7_readTie_76 rfl 1 rfl ?_
        refine zEV.iload_n dX7_readTie_77 rfl 0 rfl ?_
        obtain ⟨q7, hq7, h⟩ := bind_yes h
        refine zEV.callVi (kX7_wasTied (a1) (s0) (q2.1)  q5.2 q7 hq7) (by decide) rfl rfl wm_RX7_125 wc_X7_wasTied hy_X7_wasTied rfl ⟨Nat.le_of_ble_eq_true rfl, Nat.le_of_ble_eq_true rfl⟩ rfl (Nat.le_of_ble_eq_true rfl) dX7_readTie_78 ?_
        refine zEV.if_eq 94 dX7_readTie_81 (by decide) (fun c8 => ?_) (fun c8 => ?_)
        · rw [if_pos c8] at h
          exact zEV.perm [2, 3, 1, 0] rfl (tX7_readTie_94 a1 (s0) (q2.1) q7.2 q h)
        · rw [if_neg c8] at h
          exact zEV.perm [2, 3, 1, 0] rfl (tX7_readTie_84 a1 (s0) (q2.1) q7.2 q h)
  · rw [if_pos c1] at h
    refine zEV.aload_n dX7_readTie_33 rfl 1 rfl ?_
    refine zEV.aload_n dX7_readTie_34 rfl 1 rfl ?_
    refine zEV.gfi rfl inz7 7 (by decide) wf_RX7_79 (by decide) rfl rfl dX7_readTie_35 ?_
    obtain ⟨q9, hq9, h⟩ := bind_yes h
    refine zEV.callVv (kX7_fault ((M.1 158 7))  M q9 hq9) (by decide) rfl rfl wm_RX7_93 wc_X7_fault hy_X7_fault rfl ⟨Nat.le_of_ble_eq_true rfl, Nat.le_of_ble_eq_true rfl⟩ rfl (Nat.le_of_ble_eq_true rfl) dX7_readTie_38 ?_
    have h := Option.some.inj h
    subst h
    exact zEV.vret rfl dX7_readTie_41
def fX7_readTie (a1 : Int32) (M : zMM) : Option (zMM) :=
  (fX7_here  M).bind fun q1 =>
  if q1.1 = 105 then
    fX7_readTie_27 a1 (1) q1.2
  else
    (fX7_here  q1.2).bind fun q3 =>
    if q3.1 = 111 then
      fX7_readTie_27 a1 (2) q3.2
    else
      fX7_readTie_27 a1 ((-1)) q3.2
set_option maxRecDepth 100000 in
theorem tX7_readTie_0 (a1 : Int32) (M : zMM) (q : zMM) (h : fX7_readTie a1  M = some q) : zEV iX7_readTie 0 0 (zZO (none, q)) 0 [(0, .inr (.inr 158)), (1, .inl a1)] [] M := by
  unfold fX7_readTie at h
  refine zEV.aload_n dX7_readTie_0 rfl 0 rfl ?_
  obtain ⟨q1, hq1, h⟩ := bind_yes h
  refine zEV.callVi (kX7_here   M q1 hq1) (by decide) rfl rfl wm_RX7_89 wc_X7_here hy_X7_here rfl ⟨Nat.le_of_ble_eq_true rfl, Nat.le_of_ble_eq_true rfl⟩ rfl (Nat.le_of_ble_eq_true rfl) dX7_readTie_1 ?_
  refine zEV.bipush (v := 105) dX7_readTie_4 rfl ?_
  refine zEV.icmp_ne 13 dX7_readTie_6 (by decide) (fun c2 => ?_) (fun c2 => ?_)
  · rw [if_neg c2] at h
    refine zEV.aload_n dX7_readTie_13 rfl 0 rfl ?_
    obtain ⟨q3, hq3, h⟩ := bind_yes h
    refine zEV.callVi (kX7_here   q1.2 q3 hq3) (by decide) rfl rfl wm_RX7_89 wc_X7_here hy_X7_here rfl ⟨Nat.le_of_ble_eq_true rfl, Nat.le_of_ble_eq_true rfl⟩ rfl (Nat.le_of_ble_eq_true rfl) dX7_readTie_14 ?_
    refine zEV.bipush (v := 111) dX7_readTie_17 rfl ?_
    refine zEV.icmp_ne 26 dX7_readTie_19 (by decide) (fun c4 => ?_) (fun c4 => ?_)
    · rw [if_neg c4] at h
      refine zEV.iconst (v := (-1)) dX7_readTie_26 rfl ?_
      exact zEV.perm [0, 1] rfl (tX7_readTie_27 a1 ((-1)) q3.2 q h)
    · rw [if_pos c4] at h
      refine zEV.iconst (v := 2) dX7_readTie_22 rfl ?_
      refine zEV.goto 27 dX7_readTie_23 (by decide) ?_
      exact zEV.perm [0, 1] rfl (tX7_readTie_27 a1 (2) q3.2 q h)
  · rw [if_pos c2] at h
    refine zEV.iconst (v := 1) dX7_readTie_9 rfl ?_
    refine zEV.goto 27 dX7_readTie_10 (by decide) ?_
    exact zEV.perm [0, 1] rfl (tX7_readTie_27 a1 (1) q1.2 q h)
theorem kX7_readTie (a1 : Int32) (M : zMM) (q : zMM) (h : fX7_readTie a1 M = some q) : zCN yX7_readTie iX7_readTie [.inr (.inr 158), .inl a1] M (none, q) :=
  zCN.of (by decide) rfl rfl (Nat.le_of_ble_eq_true rfl) (zEV.perm [0, 1] rfl (tX7_readTie_0 a1 M q h))
-- RingedPageModel.ties
def fX7_ties_118 (K86 : Int32 → Int32 → zMM → Option (Int32 × zMM)) (l1 : Int32) (l2 : Int32) (s0 : Int32) (s1 : Int32) (M : zMM) : Option (Int32 × zMM) :=
  if oob (s1) 259 then none else
  K86 (l1) ((l2 + 1)) (wr M 159 (Int32.toNatClampNeg s1) s0)
set_option maxRecDepth 100000 in
theorem tX7_ties_118 (K86 : Int32 → Int32 → zMM → Option (Int32 × zMM)) (hK86 : ∀ (l1 : Int32) (l2 : Int32) (M : zMM) (q : Int32 × zMM), K86 l1 l2 M = some q → zEV iX7_ties 0 0 (zZO (some (.inl q.1), q.2)) 86 [(0, .inr (.inr 158)), (1, .inl l1), (2, .inl l2)] [] M) (l1 : Int32) (l2 : Int32) (s0 : Int32) (s1 : Int32) (M : zMM) (q : Int32 × zMM) (h : fX7_ties_118 K86 l1 l2 s0 s1 M = some q) : zEV iX7_ties 0 0 (zZO (some (.inl q.1), q.2)) 118 [(0, .inr (.inr 158)), (1, .inl l1), (2, .inl l2)] [.inl s0, .inl s1, .inr (.inr 159)] M := by
  unfold fX7_ties_118 at h
  obtain ⟨g1, h⟩ := ite_no h
  refine zEV.iast (by decide) rfl g1 dX7_ties_118 ?_
  refine zEV.iinc (v := (l2 + 1)) dX7_ties_119 2 rfl rfl (Nat.le_of_ble_eq_true rfl) rfl ?_
  refine zEV.goto 86 dX7_ties_122 (by decide) ?_
  exact zEV.perm [1, 2, 0] rfl (hK86 (l1) ((l2 + 1)) (wr M 159 (Int32.toNatClampNeg s1) s0) q h)
def fX7_ties_86 : Nat → Int32 → Int32 → zMM → Option (Int32 × zMM)
  | 0, _, _, _ => none
  | n + 1, l1, l2, M =>
  if (36 : Int32) ≤ l2 then
    some (l1, M)
  else
    if (3 * l1) ≤ l2 then
      fX7_ties_118 (fX7_ties_86 n) (l1) (l2) (0) ((219 + l2)) M
    else
      if oob (l2) 320 then none else
      fX7_ties_118 (fX7_ties_86 n) (l1) (l2) ((M.1 162 (Int32.toNatClampNeg l2))) ((219 + l2)) M
set_option maxRecDepth 100000 in
theorem tX7_ties_86 : ∀ (n : Nat) (l1 : Int32) (l2 : Int32) (M : zMM) (q : Int32 × zMM), fX7_ties_86 n l1 l2 M = some q → zEV iX7_ties 0 0 (zZO (some (.inl q.1), q.2)) 86 [(0, .inr (.inr 158)), (1, .inl l1), (2, .inl l2)] [] M := by
  intro n
  induction n with
  | zero =>
    intro l1 l2 M q h
    rw [fX7_ties_86] at h
    cases h
  | succ n ih =>
    intro l1 l2 M q h
    rw [fX7_ties_86] at h
    refine zEV.iload_n dX7_ties_86 rfl 2 rfl ?_
    refine zEV.bipush (v := 36) dX7_ties_87 rfl ?_
    refine zEV.icmp_ge 125 dX7_ties_89 (by decide) (fun c1 => ?_) (fun c1 => ?_)
    · rw [if_pos c1] at h
      refine zEV.iload_n dX7_ties_125 rfl 1 rfl ?_
      have h := Option.some.inj h
      subst h
      exact zEV.iret rfl dX7_ties_126
    · rw [if_neg c1] at h
      refine zEV.aload_n dX7_ties_92 rfl 0 rfl ?_
      refine zEV.gfr rfl inz7 0 (by decide) wf_RX7_9 (by decide) rfl rfl dX7_ties_93 ?_
      refine zEV.sipush (v := 219) dX7_ties_96 rfl ?_
      refine zEV.iload_n dX7_ties_99 rfl 2 rfl ?_
      refine zEV.iadd dX7_ties_100 ?_
      refine zEV.iload_n dX7_ties_101 rfl 2 rfl ?_
      refine zEV.iconst (v := 3) dX7_ties_102 rfl ?_
      refine zEV.iload_n dX7_ties_103 rfl 1 rfl ?_
      refine zEV.imul dX7_ties_104 ?_
      refine zEV.icmp_ge 117 dX7_ties_105 (by decide) (fun c2 => ?_) (fun c2 => ?_)
      · rw [if_pos c2] at h
        refine zEV.iconst (v := 0) dX7_ties_117 rfl ?_
        exact zEV.perm [0, 1, 2] rfl (tX7_ties_118 (fX7_ties_86 n) (fun l1 l2 M9 q9 h9 => ih l1 l2 M9 q9 h9) (l1) (l2) (0) ((219 + l2)) M q h)
      · rw [if_neg c2] at h
        refine zEV.aload_n dX7_ties_108 rfl 0 rfl ?_
        refine zEV.gfr rfl inz7 9 (by decide) wf_RX7_21 (by decide) rfl rfl dX7_ties_109 ?_
        refine zEV.iload_n dX7_ties_112 rfl 2 rfl ?_
        obtain ⟨g3, h⟩ := ite_no h
        refine zEV.iald (by decide) rfl g3 dX7_ties_113 ?_
        refine zEV.goto 118 dX7_ties_114 (by decide) ?_
        exact zEV.perm [0, 1, 2] rfl (tX7_ties_118 (fX7_ties_86 n) (fun l1 l2 M9 q9 h9 => ih l1 l2 M9 q9 h9) (l1) (l2) ((M.1 162 (Int32.toNatClampNeg l2))) ((219 + l2)) M q h)
def fX7_ties_57 (l1 : Int32) (M : zMM) : Option (Int32 × zMM) :=
  (fX7_wasRight  M).bind fun q1 =>
  if q1.1 = (0 : Int32) then
    some (((-1) - (q1.2.1 158 8)), q1.2)
  else
    (fX7_change  q1.2).bind fun q3 =>
    fX7_ties_86 zFU (l1) (0) (wr q3 159 218 l1)
set_option maxRecDepth 100000 in
theorem tX7_ties_57 (l1 : Int32) (M : zMM) (q : Int32 × zMM) (h : fX7_ties_57 l1 M = some q) : zEV iX7_ties 0 0 (zZO (some (.inl q.1), q.2)) 57 [(0, .inr (.inr 158)), (1, .inl l1)] [] M := by
  unfold fX7_ties_57 at h
  refine zEV.aload_n dX7_ties_57 rfl 0 rfl ?_
  obtain ⟨q1, hq1, h⟩ := bind_yes h
  refine zEV.callVi (kX7_wasRight   M q1 hq1) (by decide) rfl rfl wm_RX7_104 wc_X7_wasRight hy_X7_wasRight rfl ⟨Nat.le_of_ble_eq_true rfl, Nat.le_of_ble_eq_true rfl⟩ rfl (Nat.le_of_ble_eq_true rfl) dX7_ties_58 ?_
  refine zEV.if_ne 71 dX7_ties_61 (by decide) (fun c2 => ?_) (fun c2 => ?_)
  · rw [if_neg c2] at h
    refine zEV.aload_n dX7_ties_71 rfl 0 rfl ?_
    obtain ⟨q3, hq3, h⟩ := bind_yes h
    refine zEV.callVv (kX7_change   q1.2 q3 hq3) (by decide) rfl rfl wm_RX7_107 wc_X7_change hy_X7_change rfl ⟨Nat.le_of_ble_eq_true rfl, Nat.le_of_ble_eq_true rfl⟩ rfl (Nat.le_of_ble_eq_true rfl) dX7_ties_72 ?_
    refine zEV.aload_n dX7_ties_75 rfl 0 rfl ?_
    refine zEV.gfr rfl inz7 0 (by decide) wf_RX7_9 (by decide) rfl rfl dX7_ties_76 ?_
    refine zEV.sipush (v := 218) dX7_ties_79 rfl ?_
    refine zEV.iload_n dX7_ties_82 rfl 1 rfl ?_
    refine zEV.iastL (j := 218) (by decide) rfl (by decide) (by decide) dX7_ties_83 ?_
    refine zEV.iconst (v := 0) dX7_ties_84 rfl ?_
    refine zEV.istore_n dX7_ties_85 rfl (Nat.le_of_ble_eq_true rfl) rfl ?_
    exact zEV.perm [1, 2, 0] rfl (tX7_ties_86 zFU (l1) (0) (wr q3 159 218 l1) q h)
  · rw [if_pos c2] at h
    refine zEV.iconst (v := (-1)) dX7_ties_64 rfl ?_
    refine zEV.aload_n dX7_ties_65 rfl 0 rfl ?_
    refine zEV.gfi rfl inz7 8 (by decide) wf_RX7_82 (by decide) rfl rfl dX7_ties_66 ?_
    refine zEV.isub dX7_ties_69 ?_
    have h := Option.some.inj h
    subst h
    exact zEV.iret rfl dX7_ties_70
def fX7_ties_11 : Nat → Int32 → zMM → Option (Int32 × zMM)
  | 0, _, _ => none
  | n + 1, l1, M =>
  (fX7_fine  M).bind fun q1 =>
  if q1.1 = (0 : Int32) then
    fX7_ties_57 (l1) q1.2
  else
    if (q1.2.1 158 6) ≤ (q1.2.1 158 7) then
      fX7_ties_57 (l1) q1.2
    else
      if l1 = 12 then
        (fX7_fault ((q1.2.1 158 7)) q1.2).bind fun q6 =>
        fX7_ties_11 n (l1) q6
      else
        (fX7_readTie (l1) q1.2).bind fun q5 =>
        fX7_ties_11 n ((l1 + 1)) q5
set_option maxRecDepth 100000 in
theorem tX7_ties_11 : ∀ (n : Nat) (l1 : Int32) (M : zMM) (q : Int32 × zMM), fX7_ties_11 n l1 M = some q → zEV iX7_ties 0 0 (zZO (some (.inl q.1), q.2)) 11 [(0, .inr (.inr 158)), (1, .inl l1)] [] M := by
  intro n
  induction n with
  | zero =>
    intro l1 M q h
    rw [fX7_ties_11] at h
    cases h
  | succ n ih =>
    intro l1 M q h
    rw [fX7_ties_11] at h
    refine zEV.aload_n dX7_ties_11 rfl 0 rfl ?_
    obtain ⟨q1, hq1, h⟩ := bind_yes h
    refine zEV.callVi (kX7_fine   M q1 hq1) (by decide) rfl rfl wm_RX7_85 wc_X7_fine hy_X7_fine rfl ⟨Nat.le_of_ble_eq_true rfl, Nat.le_of_ble_eq_true rfl⟩ rfl (Nat.le_of_ble_eq_true rfl) dX7_ties_12 ?_
    refine zEV.if_eq 57 dX7_ties_15 (by decide) (fun c2 => ?_) (fun c2 => ?_)
    · rw [if_pos c2] at h
      exact zEV.perm [0, 1] rfl (tX7_ties_57 (l1) q1.2 q h)
    · rw [if_neg c2] at h
      refine zEV.aload_n dX7_ties_18 rfl 0 rfl ?_
      refine zEV.gfi rfl inz7 7 (by decide) wf_RX7_79 (by decide) rfl rfl dX7_ties_19 ?_
      refine zEV.aload_n dX7_ties_22 rfl 0 rfl ?_
      refine zEV.gfi rfl inz7 6 (by decide) wf_RX7_76 (by decide) rfl rfl dX7_ties_23 ?_
      refine zEV.icmp_ge 57 dX7_ties_26 (by decide) (fun c3 => ?_) (fun c3 => ?_)
      · rw [if_pos c3] at h
        exact zEV.perm [0, 1] rfl (tX7_ties_57 (l1) q1.2 q h)
      · rw [if_neg c3] at h
        refine zEV.iload_n dX7_ties_29 rfl 1 rfl ?_
        refine zEV.bipush (v := 12) dX7_ties_30 rfl ?_
        refine zEV.icmp_ne 46 dX7_ties_32 (by decide) (fun c4 => ?_) (fun c4 => ?_)
        · rw [if_neg c4] at h
          refine zEV.aload_n dX7_ties_46 rfl 0 rfl ?_
          refine zEV.iload_n dX7_ties_47 rfl 1 rfl ?_
          obtain ⟨q5, hq5, h⟩ := bind_yes h
          refine zEV.callVv (kX7_readTie (l1)  q1.2 q5 hq5) (by decide) rfl rfl wm_RX7_128 wc_X7_readTie hy_X7_readTie rfl ⟨Nat.le_of_ble_eq_true rfl, Nat.le_of_ble_eq_true rfl⟩ rfl (Nat.le_of_ble_eq_true rfl) dX7_ties_48 ?_
          refine zEV.iinc (v := (l1 + 1)) dX7_ties_51 1 rfl rfl (Nat.le_of_ble_eq_true rfl) rfl ?_
          refine zEV.goto 11 dX7_ties_54 (by decide) ?_
          exact zEV.perm [1, 0] rfl (ih ((l1 + 1)) q5 q h)
        · rw [if_pos c4] at h
          refine zEV.aload_n dX7_ties_35 rfl 0 rfl ?_
          refine zEV.aload_n dX7_ties_36 rfl 0 rfl ?_
          refine zEV.gfi rfl inz7 7 (by decide) wf_RX7_79 (by decide) rfl rfl dX7_ties_37 ?_
          obtain ⟨q6, hq6, h⟩ := bind_yes h
          refine zEV.callVv (kX7_fault ((q1.2.1 158 7))  q1.2 q6 hq6) (by decide) rfl rfl wm_RX7_93 wc_X7_fault hy_X7_fault rfl ⟨Nat.le_of_ble_eq_true rfl, Nat.le_of_ble_eq_true rfl⟩ rfl (Nat.le_of_ble_eq_true rfl) dX7_ties_40 ?_
          refine zEV.goto 11 dX7_ties_43 (by decide) ?_
          exact zEV.perm [0, 1] rfl (ih (l1) q6 q h)
def fX7_ties (M : zMM) : Option (Int32 × zMM) :=
  (fX7_begin  (wr M 158 5 0)).bind fun q1 =>
  fX7_ties_11 zFU (0) q1
set_option maxRecDepth 100000 in
theorem tX7_ties_0 (M : zMM) (q : Int32 × zMM) (h : fX7_ties  M = some q) : zEV iX7_ties 0 0 (zZO (some (.inl q.1), q.2)) 0 [(0, .inr (.inr 158))] [] M := by
  unfold fX7_ties at h
  refine zEV.aload_n dX7_ties_0 rfl 0 rfl ?_
  refine zEV.iconst (v := 0) dX7_ties_1 rfl ?_
  refine zEV.pfi rfl inz7 tyX7 tyX7_ok nmX7 5 (by decide) wf_RX7_58 rfl (by decide +kernel) (by decide) rfl rfl dX7_ties_2 ?_
  refine zEV.aload_n dX7_ties_5 rfl 0 rfl ?_
  obtain ⟨q1, hq1, h⟩ := bind_yes h
  refine zEV.callVv (kX7_begin   (wr M 158 5 0) q1 hq1) (by decide) rfl rfl wm_RX7_101 wc_X7_begin hy_X7_begin rfl ⟨Nat.le_of_ble_eq_true rfl, Nat.le_of_ble_eq_true rfl⟩ rfl (Nat.le_of_ble_eq_true rfl) dX7_ties_6 ?_
  refine zEV.iconst (v := 0) dX7_ties_9 rfl ?_
  refine zEV.istore_n dX7_ties_10 rfl (Nat.le_of_ble_eq_true rfl) rfl ?_
  exact zEV.perm [1, 0] rfl (tX7_ties_11 zFU (0) q1 q h)
theorem kX7_ties (M : zMM) (q : Int32 × zMM) (h : fX7_ties M = some q) : zCN yX7_ties iX7_ties [.inr (.inr 158)] M (some (.inl q.1), q.2) :=
  zCN.of (by decide) rfl rfl (Nat.le_of_ble_eq_true rfl) (zEV.perm [0] rfl (tX7_ties_0 M q h))
-- RingedPageModel.entryOf
def fX7_entryOf (a0 : Int32) (a1 : Int32) (a2 : Int32) (a3 : Int32) (M : zMM) : Option (Int32 × zMM) :=
  if a0 = (0 : Int32) then
    some ((Int32.toInt8 (a1 + (a3 * a2))).toInt32, M)
  else
    if a0 = 1 then
      some ((Int32.toInt16 (a1 + (a3 * a2))).toInt32, M)
    else
      some ((a1 + (a3 * a2)), M)
set_option maxRecDepth 100000 in
theorem tX7_entryOf_0 (a0 : Int32) (a1 : Int32) (a2 : Int32) (a3 : Int32) (M : zMM) (q : Int32 × zMM) (h : fX7_entryOf a0 a1 a2 a3  M = some q) : zEV iX7_entryOf 0 0 (zZO (some (.inl q.1), q.2)) 0 [(0, .inl a0), (1, .inl a1), (2, .inl a2), (3, .inl a3)] [] M := by
  unfold fX7_entryOf at h
  refine zEV.iload_n dX7_entryOf_0 rfl 1 rfl ?_
  refine zEV.iload_n dX7_entryOf_1 rfl 3 rfl ?_
  refine zEV.iload_n dX7_entryOf_2 rfl 2 rfl ?_
  refine zEV.imul dX7_entryOf_3 ?_
  refine zEV.iadd dX7_entryOf_4 ?_
  refine zEV.istore dX7_entryOf_5 (Nat.le_of_ble_eq_true rfl) rfl ?_
  refine zEV.iload_n dX7_entryOf_7 rfl 1 rfl ?_
  refine zEV.if_ne 17 dX7_entryOf_8 (by decide) (fun c1 => ?_) (fun c1 => ?_)
  · rw [if_neg c1] at h
    refine zEV.iload_n dX7_entryOf_17 rfl 1 rfl ?_
    refine zEV.iconst (v := 1) dX7_entryOf_18 rfl ?_
    refine zEV.icmp_ne 28 dX7_entryOf_19 (by decide) (fun c2 => ?_) (fun c2 => ?_)
    · rw [if_neg c2] at h
      refine zEV.iload dX7_entryOf_28 0 rfl ?_
      have h := Option.some.inj h
      subst h
      exact zEV.iret rfl dX7_entryOf_30
    · rw [if_pos c2] at h
      refine zEV.iload dX7_entryOf_22 0 rfl ?_
      refine zEV.i2s dX7_entryOf_24 ?_
      refine zEV.goto 30 dX7_entryOf_25 (by decide) ?_
      have h := Option.some.inj h
      subst h
      exact zEV.iret rfl dX7_entryOf_30
  · rw [if_pos c1] at h
    refine zEV.iload dX7_entryOf_11 0 rfl ?_
    refine zEV.i2b dX7_entryOf_13 ?_
    refine zEV.goto 30 dX7_entryOf_14 (by decide) ?_
    have h := Option.some.inj h
    subst h
    exact zEV.iret rfl dX7_entryOf_30
theorem kX7_entryOf (a0 : Int32) (a1 : Int32) (a2 : Int32) (a3 : Int32) (M : zMM) (q : Int32 × zMM) (h : fX7_entryOf a0 a1 a2 a3 M = some q) : zCN yX7_entryOf iX7_entryOf [.inl a0, .inl a1, .inl a2, .inl a3] M (some (.inl q.1), q.2) :=
  zCN.of (by decide) rfl rfl (Nat.le_of_ble_eq_true rfl) (zEV.perm [0, 1, 2, 3] rfl (tX7_entryOf_0 a0 a1 a2 a3 M q h))
