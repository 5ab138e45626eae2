-- RingedPageModel.tryPlan
def fX7_tryPlan_105 (a1 : Int32) (M : zMM) : Option (zMM) :=
  some (wr M 158 20 ((M.1 158 20) + 1))
set_option maxRecDepth 100000 in
theorem tX7_tryPlan_105 (a1 : Int32) (M : zMM) (q : zMM) (h : fX7_tryPlan_105 a1  M = some q) : zEV iX7_tryPlan 0 0 (zZO (none, q)) 105 [(0, .inr (.inr 158))] [] M := by
  unfold fX7_tryPlan_105 at h
  refine zEV.aload_n dX7_tryPlan_105 rfl 0 rfl ?_
  refine zEV.dup dX7_tryPlan_106 rfl ?_
  refine zEV.gfi rfl inz7 20 (by decide) wf_RX7_246 (by decide) rfl rfl dX7_tryPlan_107 ?_
  refine zEV.iconst (v := 1) dX7_tryPlan_110 rfl ?_
  refine zEV.iadd dX7_tryPlan_111 ?_
  refine zEV.pfi rfl inz7 tyX7 tyX7_ok nmX7 20 (by decide) wf_RX7_246 rfl (by decide +kernel) (by decide) rfl rfl dX7_tryPlan_112 ?_
  have h := Option.some.inj h
  subst h
  exact zEV.vret rfl dX7_tryPlan_115
def fX7_tryPlan_73 (a1 : Int32) : Nat → Int32 → zMM → Option (zMM)
  | 0, _, _ => none
  | n + 1, l3, M =>
  if (3 : Int32) ≤ l3 then
    fX7_tryPlan_105 a1 M
  else
    if (M.1 158 20) = (0 : Int32) then
      if oob ((2 + l3)) 259 then none else
      if oob (l3) 3 then none else
      fX7_tryPlan_73 a1 n ((l3 + 1)) (wr M 168 (Int32.toNatClampNeg l3) (M.1 159 (Int32.toNatClampNeg (2 + l3))))
    else
      fX7_tryPlan_105 a1 M
set_option maxRecDepth 100000 in
theorem tX7_tryPlan_73 (a1 : Int32) : ∀ (n : Nat) (l3 : Int32) (M : zMM) (q : zMM), fX7_tryPlan_73 a1 n l3 M = some q → zEV iX7_tryPlan 0 0 (zZO (none, q)) 73 [(0, .inr (.inr 158)), (3, .inl l3)] [] M := by
  intro n
  induction n with
  | zero =>
    intro l3 M q h
    rw [fX7_tryPlan_73] at h
    cases h
  | succ n ih =>
    intro l3 M q h
    rw [fX7_tryPlan_73] at h
    refine zEV.iload_n dX7_tryPlan_73 rfl 1 rfl ?_
    refine zEV.iconst (v := 3) dX7_tryPlan_74 rfl ?_
    refine zEV.icmp_ge 105 dX7_tryPlan_75 (by decide) (fun c1 => ?_) (fun c1 => ?_)
    · rw [if_pos c1] at h
      exact zEV.perm [0] rfl (tX7_tryPlan_105 a1 M q h)
    · rw [if_neg c1] at h
      refine zEV.aload_n dX7_tryPlan_78 rfl 0 rfl ?_
      refine zEV.gfi rfl inz7 20 (by decide) wf_RX7_246 (by decide) rfl rfl dX7_tryPlan_79 ?_
      refine zEV.if_ne 105 dX7_tryPlan_82 (by decide) (fun c2 => ?_) (fun c2 => ?_)
      · rw [if_neg c2] at h
        exact zEV.perm [0] rfl (tX7_tryPlan_105 a1 M q h)
      · rw [if_pos c2] at h
        refine zEV.aload_n dX7_tryPlan_85 rfl 0 rfl ?_
        refine zEV.gfr rfl inz7 17 (by decide) wf_RX7_39 (by decide) rfl rfl dX7_tryPlan_86 ?_
        refine zEV.iload_n dX7_tryPlan_89 rfl 1 rfl ?_
        refine zEV.aload_n dX7_tryPlan_90 rfl 0 rfl ?_
        refine zEV.gfr rfl inz7 0 (by decide) wf_RX7_9 (by decide) rfl rfl dX7_tryPlan_91 ?_
        refine zEV.iconst (v := 2) dX7_tryPlan_94 rfl ?_
        refine zEV.iload_n dX7_tryPlan_95 rfl 1 rfl ?_
        refine zEV.iadd dX7_tryPlan_96 ?_
        obtain ⟨g3, h⟩ := ite_no h
        refine zEV.iald (by decide) rfl g3 dX7_tryPlan_97 ?_
        obtain ⟨g4, h⟩ := ite_no h
        refine zEV.iast (by decide) rfl g4 dX7_tryPlan_98 ?_
        refine zEV.iinc (v := (l3 + 1)) dX7_tryPlan_99 1 rfl rfl (Nat.le_of_ble_eq_true rfl) rfl ?_
        refine zEV.goto 73 dX7_tryPlan_102 (by decide) ?_
        exact zEV.perm [1, 0] rfl (ih ((l3 + 1)) (wr M 168 (Int32.toNatClampNeg l3) (M.1 159 (Int32.toNatClampNeg (2 + l3)))) q h)
def fX7_tryPlan_52 (a1 : Int32) (M : zMM) : Option (zMM) :=
  (fX7_apartOf  (wr M 158 19 ((M.1 158 19) + 1))).bind fun q1 =>
  if q1.1 ≤ a1 then
    fX7_tryPlan_73 a1 zFU (0) q1.2
  else
    some q1.2
set_option maxRecDepth 100000 in
theorem tX7_tryPlan_52 (a1 : Int32) (M : zMM) (q : zMM) (h : fX7_tryPlan_52 a1  M = some q) : zEV iX7_tryPlan 0 0 (zZO (none, q)) 52 [(0, .inr (.inr 158)), (1, .inl a1)] [] M := by
  unfold fX7_tryPlan_52 at h
  refine zEV.aload_n dX7_tryPlan_52 rfl 0 rfl ?_
  refine zEV.dup dX7_tryPlan_53 rfl ?_
  refine zEV.gfi rfl inz7 19 (by decide) wf_RX7_240 (by decide) rfl rfl dX7_tryPlan_54 ?_
  refine zEV.iconst (v := 1) dX7_tryPlan_57 rfl ?_
  refine zEV.iadd dX7_tryPlan_58 ?_
  refine zEV.pfi rfl inz7 tyX7 tyX7_ok nmX7 19 (by decide) wf_RX7_240 rfl (by decide +kernel) (by decide) rfl rfl dX7_tryPlan_59 ?_
  refine zEV.aload_n dX7_tryPlan_62 rfl 0 rfl ?_
  obtain ⟨q1, hq1, h⟩ := bind_yes h
  refine zEV.callVi (kX7_apartOf   (wr M 158 19 ((M.1 158 19) + 1)) q1 hq1) (by decide) rfl rfl wm_RX7_196 wc_X7_apartOf hy_X7_apartOf rfl ⟨Nat.le_of_ble_eq_true rfl, Nat.le_of_ble_eq_true rfl⟩ rfl (Nat.le_of_ble_eq_true rfl) dX7_tryPlan_63 ?_
  refine zEV.iload_n dX7_tryPlan_66 rfl 1 rfl ?_
  refine zEV.icmp_le 71 dX7_tryPlan_67 (by decide) (fun c2 => ?_) (fun c2 => ?_)
  · rw [if_pos c2] at h
    refine zEV.iconst (v := 0) dX7_tryPlan_71 rfl ?_
    refine zEV.istore_n dX7_tryPlan_72 rfl (Nat.le_of_ble_eq_true rfl) rfl ?_
    exact zEV.perm [1, 0] rfl (tX7_tryPlan_73 a1 zFU (0) q1.2 q h)
  · rw [if_neg c2] at h
    have h := Option.some.inj h
    subst h
    exact zEV.vret rfl dX7_tryPlan_70
def fX7_tryPlan_27 (a1 : Int32) : Nat → Int32 → zMM → Option (zMM)
  | 0, _, _ => none
  | n + 1, l3, M =>
  if (3 : Int32) ≤ l3 then
    fX7_tryPlan_52 a1 M
  else
    if oob ((2 + l3)) 259 then none else
    if oob (l3) 3 then none else
    fX7_tryPlan_27 a1 n ((l3 + 1)) (wr M 167 (Int32.toNatClampNeg l3) (M.1 159 (Int32.toNatClampNeg (2 + l3))))
set_option maxRecDepth 100000 in
theorem tX7_tryPlan_27 (a1 : Int32) : ∀ (n : Nat) (l3 : Int32) (M : zMM) (q : zMM), fX7_tryPlan_27 a1 n l3 M = some q → zEV iX7_tryPlan 0 0 (zZO (none, q)) 27 [(0, .inr (.inr 158)), (1, .inl a1), (3, .inl l3)] [] M := by
  intro n
  induction n with
  | zero =>
    intro l3 M q h
    rw [fX7_tryPlan_27] at h
    cases h
  | succ n ih =>
    intro l3 M q h
    rw [fX7_tryPlan_27] at h
    refine zEV.iload_n dX7_tryPlan_27 rfl 2 rfl ?_
    refine zEV.iconst (v := 3) dX7_tryPlan_28 rfl ?_
    refine zEV.icmp_ge 52 dX7_tryPlan_29 (by decide) (fun c1 => ?_) (fun c1 => ?_)
    · rw [if_pos c1] at h
      exact zEV.perm [0, 1] rfl (tX7_tryPlan_52 a1 M q h)
    · rw [if_neg c1] at h
      refine zEV.aload_n dX7_tryPlan_32 rfl 0 rfl ?_
      refine zEV.gfr rfl inz7 16 (by decide) wf_RX7_36 (by decide) rfl rfl dX7_tryPlan_33 ?_
      refine zEV.iload_n dX7_tryPlan_36 rfl 2 rfl ?_
      refine zEV.aload_n dX7_tryPlan_37 rfl 0 rfl ?_
      refine zEV.gfr rfl inz7 0 (by decide) wf_RX7_9 (by decide) rfl rfl dX7_tryPlan_38 ?_
      refine zEV.iconst (v := 2) dX7_tryPlan_41 rfl ?_
      refine zEV.iload_n dX7_tryPlan_42 rfl 2 rfl ?_
      refine zEV.iadd dX7_tryPlan_43 ?_
      obtain ⟨g2, h⟩ := ite_no h
      refine zEV.iald (by decide) rfl g2 dX7_tryPlan_44 ?_
      obtain ⟨g3, h⟩ := ite_no h
      refine zEV.iast (by decide) rfl g3 dX7_tryPlan_45 ?_
      refine zEV.iinc (v := (l3 + 1)) dX7_tryPlan_46 2 rfl rfl (Nat.le_of_ble_eq_true rfl) rfl ?_
      refine zEV.goto 27 dX7_tryPlan_49 (by decide) ?_
      exact zEV.perm [1, 2, 0] rfl (ih ((l3 + 1)) (wr M 167 (Int32.toNatClampNeg l3) (M.1 159 (Int32.toNatClampNeg (2 + l3)))) q h)
def fX7_tryPlan_20 (a1 : Int32) (l2 : Int32) (M : zMM) : Option (zMM) :=
  fX7_tryPlan_27 a1 zFU (0) (wr M 158 18 l2)
set_option maxRecDepth 100000 in
theorem tX7_tryPlan_20 (a1 : Int32) (l2 : Int32) (M : zMM) (q : zMM) (h : fX7_tryPlan_20 a1 l2 M = some q) : zEV iX7_tryPlan 0 0 (zZO (none, q)) 20 [(0, .inr (.inr 158)), (1, .inl a1), (2, .inl l2)] [] M := by
  unfold fX7_tryPlan_20 at h
  refine zEV.aload_n dX7_tryPlan_20 rfl 0 rfl ?_
  refine zEV.iload_n dX7_tryPlan_21 rfl 2 rfl ?_
  refine zEV.pfi rfl inz7 tyX7 tyX7_ok nmX7 18 (by decide) wf_RX7_243 rfl (by decide +kernel) (by decide) rfl rfl dX7_tryPlan_22 ?_
  refine zEV.iconst (v := 0) dX7_tryPlan_25 rfl ?_
  refine zEV.istore_n dX7_tryPlan_26 rfl (Nat.le_of_ble_eq_true rfl) rfl ?_
  exact zEV.perm [1, 2, 0] rfl (tX7_tryPlan_27 a1 zFU (0) (wr M 158 18 l2) q h)
def fX7_tryPlan (a1 : Int32) (M : zMM) : Option (zMM) :=
  (fX7_costNow  M).bind fun q1 =>
  if (q1.2.1 158 19) = (0 : Int32) then
    fX7_tryPlan_20 a1 (q1.1) q1.2
  else
    if (q1.2.1 158 18) ≤ q1.1 then
      fX7_tryPlan_52 a1 q1.2
    else
      fX7_tryPlan_20 a1 (q1.1) q1.2
set_option maxRecDepth 100000 in
theorem tX7_tryPlan_0 (a1 : Int32) (M : zMM) (q : zMM) (h : fX7_tryPlan a1  M = some q) : zEV iX7_tryPlan 0 0 (zZO (none, q)) 0 [(0, .inr (.inr 158)), (1, .inl a1)] [] M := by
  unfold fX7_tryPlan at h
  refine zEV.aload_n dX7_tryPlan_0 rfl 0 rfl ?_
  obtain ⟨q1, hq1, h⟩ := bind_yes h
  refine zEV.callVi (kX7_costNow   M q1 hq1) (by decide) rfl rfl wm_RX7_217 wc_X7_costNow hy_X7_costNow rfl ⟨Nat.le_of_ble_eq_true rfl, Nat.le_of_ble_eq_true rfl⟩ rfl (Nat.le_of_ble_eq_true rfl) dX7_tryPlan_1 ?_
  refine zEV.istore_n dX7_tryPlan_4 rfl (Nat.le_of_ble_eq_true rfl) rfl ?_
  refine zEV.aload_n dX7_tryPlan_5 rfl 1 rfl ?_
  refine zEV.gfi rfl inz7 19 (by decide) wf_RX7_240 (by decide) rfl rfl dX7_tryPlan_6 ?_
  refine zEV.if_eq 20 dX7_tryPlan_9 (by decide) (fun c2 => ?_) (fun c2 => ?_)
  · rw [if_pos c2] at h
    exact zEV.perm [1, 2, 0] rfl (tX7_tryPlan_20 a1 (q1.1) q1.2 q h)
  · rw [if_neg c2] at h
    refine zEV.iload_n dX7_tryPlan_12 rfl 0 rfl ?_
    refine zEV.aload_n dX7_tryPlan_13 rfl 1 rfl ?_
    refine zEV.gfi rfl inz7 18 (by decide) wf_RX7_243 (by decide) rfl rfl dX7_tryPlan_14 ?_
    refine zEV.icmp_ge 52 dX7_tryPlan_17 (by decide) (fun c3 => ?_) (fun c3 => ?_)
    · rw [if_pos c3] at h
      exact zEV.perm [1, 2] rfl (tX7_tryPlan_52 a1 q1.2 q h)
    · rw [if_neg c3] at h
      exact zEV.perm [1, 2, 0] rfl (tX7_tryPlan_20 a1 (q1.1) q1.2 q h)
theorem kX7_tryPlan (a1 : Int32) (M : zMM) (q : zMM) (h : fX7_tryPlan a1 M = some q) : zCN yX7_tryPlan iX7_tryPlan [.inr (.inr 158), .inl a1] M (none, q) :=
  zCN.of (by decide) rfl rfl (Nat.le_of_ble_eq_true rfl) (zEV.perm [0, 1] rfl (tX7_tryPlan_0 a1 M q h))
-- RingedPageModel.goGrid
def fX7_goGrid_38 (K17 : Int32 → zMM → Option (zMM)) (K27 : Int32 → Int32 → zMM → Option (zMM)) (a1 : Int32) (a2 : Int32) (a3 : Int32) : Nat → Int32 → Int32 → Int32 → zMM → Option (zMM)
  | 0, _, _, _, _ => none
  | n + 1, l4, l5, l6, M =>
  (fX7_canBe (l4) (l5) (l6) M).bind fun q1 =>
  if q1.1 = (0 : Int32) then
    K27 (l4) ((l5 + a2)) q1.2
  else
    (fX7_putPlan (l4) (l5) (l6) q1.2).bind fun q3 =>
    (fX7_tryPlan (a3) q3).bind fun q4 =>
    fX7_goGrid_38 K17 K27 a1 a2 a3 n (l4) (l5) ((l6 + a2)) q4
set_option maxRecDepth 100000 in
theorem tX7_goGrid_38 (K17 : Int32 → zMM → Option (zMM)) (K27 : Int32 → Int32 → zMM → Option (zMM)) (a1 : Int32) (a2 : Int32) (a3 : Int32) (hK17 : ∀ (l4 : Int32) (M : zMM) (q : zMM), K17 l4 M = some q → zEV iX7_goGrid 0 0 (zZO (none, q)) 17 [(0, .inr (.inr 158)), (1, .inl a1), (2, .inl a2), (3, .inl a3), (4, .inl l4)] [] M) (hK27 : ∀ (l4 : Int32) (l5 : Int32) (M : zMM) (q : zMM), K27 l4 l5 M = some q → zEV iX7_goGrid 0 0 (zZO (none, q)) 27 [(0, .inr (.inr 158)), (1, .inl a1), (2, .inl a2), (3, .inl a3), (4, .inl l4), (5, .inl l5)] [] M) : ∀ (n : Nat) (l4 : Int32) (l5 : Int32) (l6 : Int32) (M : zMM) (q : zMM), fX7_goGrid_38 K17 K27 a1 a2 a3 n l4 l5 l6 M = some q → zEV iX7_goGrid 0 0 (zZO (none, q)) 38 [(0, .inr (.inr 158)), (1, .inl a1), (2, .inl a2), (3, .inl a3), (4, .inl l4), (5, .inl l5), (6, .inl l6)] [] M := by
  intro n
  induction n with
  | zero =>
    intro l4 l5 l6 M q h
    rw [fX7_goGrid_38] at h
    cases h
  | succ n ih =>
    intro l4 l5 l6 M q h
    rw [fX7_goGrid_38] at h
    refine zEV.aload_n dX7_goGrid_38 rfl 0 rfl ?_
    refine zEV.iload dX7_goGrid_39 4 rfl ?_
    refine zEV.iload dX7_goGrid_41 5 rfl ?_
    refine zEV.iload dX7_goGrid_43 6 rfl ?_
    obtain ⟨q1, hq1, h⟩ := bind_yes h
    refine zEV.callVi (kX7_canBe (l4) (l5) (l6)  M q1 hq1) (by decide) rfl rfl wm_RX7_227 wc_X7_canBe hy_X7_canBe rfl ⟨Nat.le_of_ble_eq_true rfl, Nat.le_of_ble_eq_true rfl⟩ rfl (Nat.le_of_ble_eq_true rfl) dX7_goGrid_45 ?_
    refine zEV.if_eq 75 dX7_goGrid_48 (by decide) (fun c2 => ?_) (fun c2 => ?_)
    · rw [if_pos c2] at h
      refine zEV.iload dX7_goGrid_75 5 rfl ?_
      refine zEV.iload_n dX7_goGrid_77 rfl 2 rfl ?_
      refine zEV.iadd dX7_goGrid_78 ?_
      refine zEV.istore dX7_goGrid_79 (Nat.le_of_ble_eq_true rfl) rfl ?_
      refine zEV.goto 27 dX7_goGrid_81 (by decide) ?_
      exact zEV.perm [1, 2, 3, 4, 5, 0] rfl (hK27 (l4) ((l5 + a2)) q1.2 q h)
    · rw [if_neg c2] at h
      refine zEV.aload_n dX7_goGrid_51 rfl 0 rfl ?_
      refine zEV.iload dX7_goGrid_52 4 rfl ?_
      refine zEV.iload dX7_goGrid_54 5 rfl ?_
      refine zEV.iload dX7_goGrid_56 6 rfl ?_
      obtain ⟨q3, hq3, h⟩ := bind_yes h
      refine zEV.callVv (kX7_putPlan (l4) (l5) (l6)  q1.2 q3 hq3) (by decide) rfl rfl wm_RX7_233 wc_X7_putPlan hy_X7_putPlan rfl ⟨Nat.le_of_ble_eq_true rfl, Nat.le_of_ble_eq_true rfl⟩ rfl (Nat.le_of_ble_eq_true rfl) dX7_goGrid_58 ?_
      refine zEV.aload_n dX7_goGrid_61 rfl 0 rfl ?_
      refine zEV.iload_n dX7_goGrid_62 rfl 3 rfl ?_
      obtain ⟨q4, hq4, h⟩ := bind_yes h
      refine zEV.callVv (kX7_tryPlan (a3)  q3 q4 hq4) (by decide) rfl rfl wm_RX7_249 wc_X7_tryPlan hy_X7_tryPlan rfl ⟨Nat.le_of_ble_eq_true rfl, Nat.le_of_ble_eq_true rfl⟩ rfl (Nat.le_of_ble_eq_true rfl) dX7_goGrid_63 ?_
      refine zEV.iload dX7_goGrid_66 6 rfl ?_
      refine zEV.iload_n dX7_goGrid_68 rfl 2 rfl ?_
      refine zEV.iadd dX7_goGrid_69 ?_
      refine zEV.istore dX7_goGrid_70 (Nat.le_of_ble_eq_true rfl) rfl ?_
      refine zEV.goto 38 dX7_goGrid_72 (by decide) ?_
      exact zEV.perm [1, 2, 3, 4, 5, 6, 0] rfl (ih (l4) (l5) ((l6 + a2)) q4 q h)
def fX7_goGrid_27 (K17 : Int32 → zMM → Option (zMM)) (a1 : Int32) (a2 : Int32) (a3 : Int32) : Nat → Int32 → Int32 → zMM → Option (zMM)
  | 0, _, _, _ => none
  | n + 1, l4, l5, M =>
  if (40 : Int32) < l5 then
    K17 ((l4 + 1)) M
  else
    fX7_goGrid_38 K17 (fX7_goGrid_27 K17 a1 a2 a3 n) a1 a2 a3 zFU (l4) (l5) (9) M
set_option maxRecDepth 100000 in
theorem tX7_goGrid_27 (K17 : Int32 → zMM → Option (zMM)) (a1 : Int32) (a2 : Int32) (a3 : Int32) (hK17 : ∀ (l4 : Int32) (M : zMM) (q : zMM), K17 l4 M = some q → zEV iX7_goGrid 0 0 (zZO (none, q)) 17 [(0, .inr (.inr 158)), (1, .inl a1), (2, .inl a2), (3, .inl a3), (4, .inl l4)] [] M) : ∀ (n : Nat) (l4 : Int32) (l5 : Int32) (M : zMM) (q : zMM), fX7_goGrid_27 K17 a1 a2 a3 n l4 l5 M = some q → zEV iX7_goGrid 0 0 (zZO (none, q)) 27 [(0, .inr (.inr 158)), (1, .inl a1), (2, .inl a2), (3, .inl a3), (4, .inl l4), (5, .inl l5)] [] M := by
  intro n
  induction n with
  | zero =>
    intro l4 l5 M q h
    rw [fX7_goGrid_27] at h
    cases h
  | succ n ih =>
    intro l4 l5 M q h
    rw [fX7_goGrid_27] at h
    refine zEV.iload dX7_goGrid_27 5 rfl ?_
    refine zEV.bipush (v := 40) dX7_goGrid_29 rfl ?_
    refine zEV.icmp_gt 84 dX7_goGrid_31 (by decide) (fun c1 => ?_) (fun c1 => ?_)
    · rw [if_pos c1] at h
      refine zEV.iinc (v := (l4 + 1)) dX7_goGrid_84 4 rfl rfl (Nat.le_of_ble_eq_true rfl) rfl ?_
      refine zEV.goto 17 dX7_goGrid_87 (by decide) ?_
      exact zEV.perm [1, 2, 3, 4, 0] rfl (hK17 ((l4 + 1)) M q h)
    · rw [if_neg c1] at h
      refine zEV.bipush (v := 9) dX7_goGrid_34 rfl ?_
      refine zEV.istore dX7_goGrid_36 (Nat.le_of_ble_eq_true rfl) rfl ?_
      exact zEV.perm [1, 2, 3, 4, 5, 6, 0] rfl (tX7_goGrid_38 K17 (fX7_goGrid_27 K17 a1 a2 a3 n) a1 a2 a3 hK17 (fun l4 l5 M9 q9 h9 => ih l4 l5 M9 q9 h9) zFU (l4) (l5) (9) M q h)
def fX7_goGrid_17 (a1 : Int32) (a2 : Int32) (a3 : Int32) : Nat → Int32 → zMM → Option (zMM)
  | 0, _, _ => none
  | n + 1, l4, M =>
  if a1 < l4 then
    (fX7_comesBack  M).bind fun q2 =>
    some q2
  else
    fX7_goGrid_27 (fX7_goGrid_17 a1 a2 a3 n) a1 a2 a3 zFU (l4) (9) M
set_option maxRecDepth 100000 in
theorem tX7_goGrid_17 (a1 : Int32) (a2 : Int32) (a3 : Int32) : ∀ (n : Nat) (l4 : Int32) (M : zMM) (q : zMM), fX7_goGrid_17 a1 a2 a3 n l4 M = some q → zEV iX7_goGrid 0 0 (zZO (none, q)) 17 [(0, .inr (.inr 158)), (1, .inl a1), (2, .inl a2), (3, .inl a3), (4, .inl l4)] [] M := by
  intro n
  induction n with
  | zero =>
    intro l4 M q h
    rw [fX7_goGrid_17] at h
    cases h
  | succ n ih =>
    intro l4 M q h
    rw [fX7_goGrid_17] at h
    refine zEV.iload dX7_goGrid_17 4 rfl ?_
    refine zEV.iload_n dX7_goGrid_19 rfl 1 rfl ?_
    refine zEV.icmp_gt 90 dX7_goGrid_20 (by decide) (fun c1 => ?_) (fun c1 => ?_)
    · rw [if_pos c1] at h
      refine zEV.aload_n dX7_goGrid_90 rfl 0 rfl ?_
      obtain ⟨q2, hq2, h⟩ := bind_yes h
      refine zEV.callVv (kX7_comesBack   M q2 hq2) (by decide) rfl rfl wm_RX7_237 wc_X7_comesBack hy_X7_comesBack rfl ⟨Nat.le_of_ble_eq_true rfl, Nat.le_of_ble_eq_true rfl⟩ rfl (Nat.le_of_ble_eq_true rfl) dX7_goGrid_91 ?_
      have h := Option.some.inj h
      subst h
      exact zEV.vret rfl dX7_goGrid_94
    · rw [if_neg c1] at h
      refine zEV.bipush (v := 9) dX7_goGrid_23 rfl ?_
      refine zEV.istore dX7_goGrid_25 (Nat.le_of_ble_eq_true rfl) rfl ?_
      exact zEV.perm [1, 2, 3, 4, 5, 0] rfl (tX7_goGrid_27 (fX7_goGrid_17 a1 a2 a3 n) a1 a2 a3 (fun l4 M9 q9 h9 => ih l4 M9 q9 h9) zFU (l4) (9) M q h)
def fX7_goGrid (a1 : Int32) (a2 : Int32) (a3 : Int32) (M : zMM) : Option (zMM) :=
  (fX7_layAside  M).bind fun q1 =>
  fX7_goGrid_17 a1 a2 a3 zFU (0) (wr (wr q1 158 19 0) 158 20 0)
set_option maxRecDepth 100000 in
theorem tX7_goGrid_0 (a1 : Int32) (a2 : Int32) (a3 : Int32) (M : zMM) (q : zMM) (h : fX7_goGrid a1 a2 a3  M = some q) : zEV iX7_goGrid 0 0 (zZO (none, q)) 0 [(0, .inr (.inr 158)), (1, .inl a1), (2, .inl a2), (3, .inl a3)] [] M := by
  unfold fX7_goGrid at h
  refine zEV.aload_n dX7_goGrid_0 rfl 0 rfl ?_
  obtain ⟨q1, hq1, h⟩ := bind_yes h
  refine zEV.callVv (kX7_layAside   M q1 hq1) (by decide) rfl rfl wm_RX7_230 wc_X7_layAside hy_X7_layAside rfl ⟨Nat.le_of_ble_eq_true rfl, Nat.le_of_ble_eq_true rfl⟩ rfl (Nat.le_of_ble_eq_true rfl) dX7_goGrid_1 ?_
  refine zEV.aload_n dX7_goGrid_4 rfl 0 rfl ?_
  refine zEV.iconst (v := 0) dX7_goGrid_5 rfl ?_
  refine zEV.pfi rfl inz7 tyX7 tyX7_ok nmX7 19 (by decide) wf_RX7_240 rfl (by decide +kernel) (by decide) rfl rfl dX7_goGrid_6 ?_
  refine zEV.aload_n dX7_goGrid_9 rfl 0 rfl ?_
  refine zEV.iconst (v := 0) dX7_goGrid_10 rfl ?_
  refine zEV.pfi rfl inz7 tyX7 tyX7_ok nmX7 20 (by decide) wf_RX7_246 rfl (by decide +kernel) (by decide) rfl rfl dX7_goGrid_11 ?_
  refine zEV.iconst (v := 0) dX7_goGrid_14 rfl ?_
  refine zEV.istore dX7_goGrid_15 (Nat.le_of_ble_eq_true rfl) rfl ?_
  exact zEV.perm [1, 2, 3, 4, 0] rfl (tX7_goGrid_17 a1 a2 a3 zFU (0) (wr (wr q1 158 19 0) 158 20 0) q h)
theorem kX7_goGrid (a1 : Int32) (a2 : Int32) (a3 : Int32) (M : zMM) (q : zMM) (h : fX7_goGrid a1 a2 a3 M = some q) : zCN yX7_goGrid iX7_goGrid [.inr (.inr 158), .inl a1, .inl a2, .inl a3] M (none, q) :=
  zCN.of (by decide) rfl rfl (Nat.le_of_ble_eq_true rfl) (zEV.perm [0, 1, 2, 3] rfl (tX7_goGrid_0 a1 a2 a3 M q h))
-- RingedPageModel.isGrid
def fX7_isGrid (a0 : Int32) (a1 : Int32) (M : zMM) : Option (Int32 × zMM) :=
  (fX7_in (a0) (0) (9) M).bind fun q1 =>
  if q1.1 = (0 : Int32) then
    some (0, q1.2)
  else
    (fX7_in (a1) (1) (9) q1.2).bind fun q3 =>
    if q3.1 = (0 : Int32) then
      some (0, q3.2)
    else
      some (1, q3.2)
set_option maxRecDepth 100000 in
theorem tX7_isGrid_0 (a0 : Int32) (a1 : Int32) (M : zMM) (q : Int32 × zMM) (h : fX7_isGrid a0 a1  M = some q) : zEV iX7_isGrid 0 0 (zZO (some (.inl q.1), q.2)) 0 [(0, .inl a0), (1, .inl a1)] [] M := by
  unfold fX7_isGrid at h
  refine zEV.iload_n dX7_isGrid_0 rfl 0 rfl ?_
  refine zEV.iconst (v := 0) dX7_isGrid_1 rfl ?_
  refine zEV.bipush (v := 9) dX7_isGrid_2 rfl ?_
  obtain ⟨q1, hq1, h⟩ := bind_yes h
  refine zEV.callSi (kX7_in (a0) (0) (9)  M q1 hq1) wm_RX7_65 wc_X7_in hy_X7_in rfl ⟨Nat.le_of_ble_eq_true rfl, Nat.le_of_ble_eq_true rfl⟩ rfl (Nat.le_of_ble_eq_true rfl) dX7_isGrid_4 ?_
  refine zEV.if_eq 24 dX7_isGrid_7 (by decide) (fun c2 => ?_) (fun c2 => ?_)
  · rw [if_pos c2] at h
    refine zEV.iconst (v := 0) dX7_isGrid_24 rfl ?_
    have h := Option.some.inj h
    subst h
    exact zEV.zret rfl (Or.inl rfl) dX7_isGrid_25
  · rw [if_neg c2] at h
    refine zEV.iload_n dX7_isGrid_10 rfl 1 rfl ?_
    refine zEV.iconst (v := 1) dX7_isGrid_11 rfl ?_
    refine zEV.bipush (v := 9) dX7_isGrid_12 rfl ?_
    obtain ⟨q3, hq3, h⟩ := bind_yes h
    refine zEV.callSi (kX7_in (a1) (1) (9)  q1.2 q3 hq3) wm_RX7_65 wc_X7_in hy_X7_in rfl ⟨Nat.le_of_ble_eq_true rfl, Nat.le_of_ble_eq_true rfl⟩ rfl (Nat.le_of_ble_eq_true rfl) dX7_isGrid_14 ?_
    refine zEV.if_eq 24 dX7_isGrid_17 (by decide) (fun c4 => ?_) (fun c4 => ?_)
    · rw [if_pos c4] at h
      refine zEV.iconst (v := 0) dX7_isGrid_24 rfl ?_
      have h := Option.some.inj h
      subst h
      exact zEV.zret rfl (Or.inl rfl) dX7_isGrid_25
    · rw [if_neg c4] at h
      refine zEV.iconst (v := 1) dX7_isGrid_20 rfl ?_
      refine zEV.goto 25 dX7_isGrid_21 (by decide) ?_
      have h := Option.some.inj h
      subst h
      exact zEV.zret rfl (Or.inr rfl) dX7_isGrid_25
theorem kX7_isGrid (a0 : Int32) (a1 : Int32) (M : zMM) (q : Int32 × zMM) (h : fX7_isGrid a0 a1 M = some q) : zCN yX7_isGrid iX7_isGrid [.inl a0, .inl a1] M (some (.inl q.1), q.2) :=
  zCN.of (by decide) rfl rfl (Nat.le_of_ble_eq_true rfl) (zEV.perm [0, 1] rfl (tX7_isGrid_0 a0 a1 M q h))
-- RingedPageModel.best
def fX7_best_29 (a1 : Int32) (a2 : Int32) : Nat → Int32 → zMM → Option (Int32 × zMM)
  | 0, _, _ => none
  | n + 1, l3, M =>
  if (3 : Int32) ≤ l3 then
    (fX7_tell ((Int32.toInt64 (M.1 158 19))) M).bind fun q2 =>
    some ((q2.1 158 18), q2)
  else
    if oob (l3) 3 then none else
    (fX7_tell ((Int32.toInt64 (M.1 167 (Int32.toNatClampNeg l3)))) M).bind fun q4 =>
    fX7_best_29 a1 a2 n ((l3 + 1)) q4
set_option maxRecDepth 100000 in
theorem tX7_best_29 (a1 : Int32) (a2 : Int32) : ∀ (n : Nat) (l3 : Int32) (M : zMM) (q : Int32 × zMM), fX7_best_29 a1 a2 n l3 M = some q → zEV iX7_best 0 0 (zZO (some (.inl q.1), q.2)) 29 [(0, .inr (.inr 158)), (3, .inl l3)] [] M := by
  intro n
  induction n with
  | zero =>
    intro l3 M q h
    rw [fX7_best_29] at h
    cases h
  | succ n ih =>
    intro l3 M q h
    rw [fX7_best_29] at h
    refine zEV.iload_n dX7_best_29 rfl 1 rfl ?_
    refine zEV.iconst (v := 3) dX7_best_30 rfl ?_
    refine zEV.icmp_ge 51 dX7_best_31 (by decide) (fun c1 => ?_) (fun c1 => ?_)
    · rw [if_pos c1] at h
      refine zEV.aload_n dX7_best_51 rfl 0 rfl ?_
      refine zEV.aload_n dX7_best_52 rfl 0 rfl ?_
      refine zEV.gfi rfl inz7 19 (by decide) wf_RX7_240 (by decide) rfl rfl dX7_best_53 ?_
      refine zEV.i2l dX7_best_56 ?_
      obtain ⟨q2, hq2, h⟩ := bind_yes h
      refine zEV.callVv (kX7_tell ((Int32.toInt64 (M.1 158 19)))  M q2 hq2) (by decide) rfl rfl wm_RX7_135 wc_X7_tell hy_X7_tell rfl ⟨Nat.le_of_ble_eq_true rfl, Nat.le_of_ble_eq_true rfl⟩ rfl (Nat.le_of_ble_eq_true rfl) dX7_best_57 ?_
      refine zEV.aload_n dX7_best_60 rfl 0 rfl ?_
      refine zEV.gfi rfl inz7 18 (by decide) wf_RX7_243 (by decide) rfl rfl dX7_best_61 ?_
      have h := Option.some.inj h
      subst h
      exact zEV.iret rfl dX7_best_64
    · rw [if_neg c1] at h
      refine zEV.aload_n dX7_best_34 rfl 0 rfl ?_
      refine zEV.aload_n dX7_best_35 rfl 0 rfl ?_
      refine zEV.gfr rfl inz7 16 (by decide) wf_RX7_36 (by decide) rfl rfl dX7_best_36 ?_
      refine zEV.iload_n dX7_best_39 rfl 1 rfl ?_
      obtain ⟨g3, h⟩ := ite_no h
      refine zEV.iald (by decide) rfl g3 dX7_best_40 ?_
      refine zEV.i2l dX7_best_41 ?_
      obtain ⟨q4, hq4, h⟩ := bind_yes h
      refine zEV.callVv (kX7_tell ((Int32.toInt64 (M.1 167 (Int32.toNatClampNeg l3))))  M q4 hq4) (by decide) rfl rfl wm_RX7_135 wc_X7_tell hy_X7_tell rfl ⟨Nat.le_of_ble_eq_true rfl, Nat.le_of_ble_eq_true rfl⟩ rfl (Nat.le_of_ble_eq_true rfl) dX7_best_42 ?_
      refine zEV.iinc (v := (l3 + 1)) dX7_best_45 1 rfl rfl (Nat.le_of_ble_eq_true rfl) rfl ?_
      refine zEV.goto 29 dX7_best_48 (by decide) ?_
      exact zEV.perm [1, 0] rfl (ih ((l3 + 1)) q4 q h)
def fX7_best (a1 : Int32) (a2 : Int32) (M : zMM) : Option (Int32 × zMM) :=
  (fX7_isGrid (a1) (a2) (wr M 158 5 0)).bind fun q1 =>
  if q1.1 = (0 : Int32) then
    some ((-1), q1.2)
  else
    (fX7_goGrid (a1) (a2) (0) q1.2).bind fun q3 =>
    fX7_best_29 a1 a2 zFU (0) (wr q3 158 4 0)
set_option maxRecDepth 100000 in
theorem tX7_best_0 (a1 : Int32) (a2 : Int32) (M : zMM) (q : Int32 × zMM) (h : fX7_best a1 a2  M = some q) : zEV iX7_best 0 0 (zZO (some (.inl q.1), q.2)) 0 [(0, .inr (.inr 158)), (1, .inl a1), (2, .inl a2)] [] M := by
  unfold fX7_best at h
  refine zEV.aload_n dX7_best_0 rfl 0 rfl ?_
  refine zEV.iconst (v := 0) dX7_best_1 rfl ?_
  refine zEV.pfi rfl inz7 tyX7 tyX7_ok nmX7 5 (by decide) wf_RX7_58 rfl (by decide +kernel) (by decide) rfl rfl dX7_best_2 ?_
  refine zEV.iload_n dX7_best_5 rfl 1 rfl ?_
  refine zEV.iload_n dX7_best_6 rfl 2 rfl ?_
  obtain ⟨q1, hq1, h⟩ := bind_yes h
  refine zEV.callSi (kX7_isGrid (a1) (a2)  (wr M 158 5 0) q1 hq1) wm_RX7_252 wc_X7_isGrid hy_X7_isGrid rfl ⟨Nat.le_of_ble_eq_true rfl, Nat.le_of_ble_eq_true rfl⟩ rfl (Nat.le_of_ble_eq_true rfl) dX7_best_7 ?_
  refine zEV.if_ne 15 dX7_best_10 (by decide) (fun c2 => ?_) (fun c2 => ?_)
  · rw [if_neg c2] at h
    refine zEV.aload_n dX7_best_15 rfl 0 rfl ?_
    refine zEV.iload_n dX7_best_16 rfl 1 rfl ?_
    refine zEV.iload_n dX7_best_17 rfl 2 rfl ?_
    refine zEV.iconst (v := 0) dX7_best_18 rfl ?_
    obtain ⟨q3, hq3, h⟩ := bind_yes h
    refine zEV.callVv (kX7_goGrid (a1) (a2) (0)  q1.2 q3 hq3) (by decide) rfl rfl wm_RX7_255 wc_X7_goGrid hy_X7_goGrid rfl ⟨Nat.le_of_ble_eq_true rfl, Nat.le_of_ble_eq_true rfl⟩ rfl (Nat.le_of_ble_eq_true rfl) dX7_best_19 ?_
    refine zEV.aload_n dX7_best_22 rfl 0 rfl ?_
    refine zEV.iconst (v := 0) dX7_best_23 rfl ?_
    refine zEV.pfi rfl inz7 tyX7 tyX7_ok nmX7 4 (by decide) wf_RX7_62 rfl (by decide +kernel) (by decide) rfl rfl dX7_best_24 ?_
    refine zEV.iconst (v := 0) dX7_best_27 rfl ?_
    refine zEV.istore_n dX7_best_28 rfl (Nat.le_of_ble_eq_true rfl) rfl ?_
    exact zEV.perm [1, 0] rfl (tX7_best_29 a1 a2 zFU (0) (wr q3 158 4 0) q h)
  · rw [if_pos c2] at h
    refine zEV.iconst (v := (-1)) dX7_best_13 rfl ?_
    have h := Option.some.inj h
    subst h
    exact zEV.iret rfl dX7_best_14
theorem kX7_best (a1 : Int32) (a2 : Int32) (M : zMM) (q : Int32 × zMM) (h : fX7_best a1 a2 M = some q) : zCN yX7_best iX7_best [.inr (.inr 158), .inl a1, .inl a2] M (some (.inl q.1), q.2) :=
  zCN.of (by decide) rfl rfl (Nat.le_of_ble_eq_true rfl) (zEV.perm [0, 1, 2] rfl (tX7_best_0 a1 a2 M q h))
-- RingedPageModel.near
def fX7_near_40 (a1 : Int32) (a2 : Int32) (a3 : Int32) : Nat → Int32 → zMM → Option (Int32 × zMM)
  | 0, _, _ => none
  | n + 1, l4, M =>
  if (3 : Int32) ≤ l4 then
    some ((M.1 158 20), M)
  else
    if (M.1 158 20) ≤ (0 : Int32) then
      some ((M.1 158 20), M)
    else
      if oob (l4) 3 then none else
      (fX7_tell ((Int32.toInt64 (M.1 168 (Int32.toNatClampNeg l4)))) M).bind fun q4 =>
      fX7_near_40 a1 a2 a3 n ((l4 + 1)) q4
set_option maxRecDepth 100000 in
theorem tX7_near_40 (a1 : Int32) (a2 : Int32) (a3 : Int32) : ∀ (n : Nat) (l4 : Int32) (M : zMM) (q : Int32 × zMM), fX7_near_40 a1 a2 a3 n l4 M = some q → zEV iX7_near 0 0 (zZO (some (.inl q.1), q.2)) 40 [(0, .inr (.inr 158)), (4, .inl l4)] [] M := by
  intro n
  induction n with
  | zero =>
    intro l4 M q h
    rw [fX7_near_40] at h
    cases h
  | succ n ih =>
    intro l4 M q h
    rw [fX7_near_40] at h
    refine zEV.iload dX7_near_40 1 rfl ?_
    refine zEV.iconst (v := 3) dX7_near_42 rfl ?_
    refine zEV.icmp_ge 71 dX7_near_43 (by decide) (fun c1 => ?_) (fun c1 => ?_)
    · rw [if_pos c1] at h
      refine zEV.aload_n dX7_near_71 rfl 0 rfl ?_
      refine zEV.gfi rfl inz7 20 (by decide) wf_RX7_246 (by decide) rfl rfl dX7_near_72 ?_
      have h := Option.some.inj h
      subst h
      exact zEV.iret rfl dX7_near_75
    · rw [if_neg c1] at h
      refine zEV.aload_n dX7_near_46 rfl 0 rfl ?_
      refine zEV.gfi rfl inz7 20 (by decide) wf_RX7_246 (by decide) rfl rfl dX7_near_47 ?_
      refine zEV.if_le 71 dX7_near_50 (by decide) (fun c2 => ?_) (fun c2 => ?_)
      · rw [if_pos c2] at h
        refine zEV.aload_n dX7_near_71 rfl 0 rfl ?_
        refine zEV.gfi rfl inz7 20 (by decide) wf_RX7_246 (by decide) rfl rfl dX7_near_72 ?_
        have h := Option.some.inj h
        subst h
        exact zEV.iret rfl dX7_near_75
      · rw [if_neg c2] at h
        refine zEV.aload_n dX7_near_53 rfl 0 rfl ?_
        refine zEV.aload_n dX7_near_54 rfl 0 rfl ?_
        refine zEV.gfr rfl inz7 17 (by decide) wf_RX7_39 (by decide) rfl rfl dX7_near_55 ?_
        refine zEV.iload dX7_near_58 1 rfl ?_
        obtain ⟨g3, h⟩ := ite_no h
        refine zEV.iald (by decide) rfl g3 dX7_near_60 ?_
        refine zEV.i2l dX7_near_61 ?_
        obtain ⟨q4, hq4, h⟩ := bind_yes h
        refine zEV.callVv (kX7_tell ((Int32.toInt64 (M.1 168 (Int32.toNatClampNeg l4))))  M q4 hq4) (by decide) rfl rfl wm_RX7_135 wc_X7_tell hy_X7_tell rfl ⟨Nat.le_of_ble_eq_true rfl, Nat.le_of_ble_eq_true rfl⟩ rfl (Nat.le_of_ble_eq_true rfl) dX7_near_62 ?_
        refine zEV.iinc (v := (l4 + 1)) dX7_near_65 1 rfl rfl (Nat.le_of_ble_eq_true rfl) rfl ?_
        refine zEV.goto 40 dX7_near_68 (by decide) ?_
        exact zEV.perm [1, 0] rfl (ih ((l4 + 1)) q4 q h)
def fX7_near (a1 : Int32) (a2 : Int32) (a3 : Int32) (M : zMM) : Option (Int32 × zMM) :=
  (fX7_isGrid (a1) (a2) (wr M 158 5 0)).bind fun q1 =>
  if q1.1 = (0 : Int32) then
    some ((-1), q1.2)
  else
    (fX7_in (a3) (0) (99) q1.2).bind fun q3 =>
    if q3.1 = (0 : Int32) then
      some ((-1), q3.2)
    else
      (fX7_goGrid (a1) (a2) (a3) q3.2).bind fun q5 =>
      fX7_near_40 a1 a2 a3 zFU (0) (wr q5 158 4 0)
set_option maxRecDepth 100000 in
theorem tX7_near_0 (a1 : Int32) (a2 : Int32) (a3 : Int32) (M : zMM) (q : Int32 × zMM) (h : fX7_near a1 a2 a3  M = some q) : zEV iX7_near 0 0 (zZO (some (.inl q.1), q.2)) 0 [(0, .inr (.inr 158)), (1, .inl a1), (2, .inl a2), (3, .inl a3)] [] M := by
  unfold fX7_near at h
  refine zEV.aload_n dX7_near_0 rfl 0 rfl ?_
  refine zEV.iconst (v := 0) dX7_near_1 rfl ?_
  refine zEV.pfi rfl inz7 tyX7 tyX7_ok nmX7 5 (by decide) wf_RX7_58 rfl (by decide +kernel) (by decide) rfl rfl dX7_near_2 ?_
  refine zEV.iload_n dX7_near_5 rfl 1 rfl ?_
  refine zEV.iload_n dX7_near_6 rfl 2 rfl ?_
  obtain ⟨q1, hq1, h⟩ := bind_yes h
  refine zEV.callSi (kX7_isGrid (a1) (a2)  (wr M 158 5 0) q1 hq1) wm_RX7_252 wc_X7_isGrid hy_X7_isGrid rfl ⟨Nat.le_of_ble_eq_true rfl, Nat.le_of_ble_eq_true rfl⟩ rfl (Nat.le_of_ble_eq_true rfl) dX7_near_7 ?_
  refine zEV.if_eq 23 dX7_near_10 (by decide) (fun c2 => ?_) (fun c2 => ?_)
  · rw [if_pos c2] at h
    refine zEV.iconst (v := (-1)) dX7_near_23 rfl ?_
    have h := Option.some.inj h
    subst h
    exact zEV.iret rfl dX7_near_24
  · rw [if_neg c2] at h
    refine zEV.iload_n dX7_near_13 rfl 3 rfl ?_
    refine zEV.iconst (v := 0) dX7_near_14 rfl ?_
    refine zEV.bipush (v := 99) dX7_near_15 rfl ?_
    obtain ⟨q3, hq3, h⟩ := bind_yes h
    refine zEV.callSi (kX7_in (a3) (0) (99)  q1.2 q3 hq3) wm_RX7_65 wc_X7_in hy_X7_in rfl ⟨Nat.le_of_ble_eq_true rfl, Nat.le_of_ble_eq_true rfl⟩ rfl (Nat.le_of_ble_eq_true rfl) dX7_near_17 ?_
    refine zEV.if_ne 25 dX7_near_20 (by decide) (fun c4 => ?_) (fun c4 => ?_)
    · rw [if_neg c4] at h
      refine zEV.aload_n dX7_near_25 rfl 0 rfl ?_
      refine zEV.iload_n dX7_near_26 rfl 1 rfl ?_
      refine zEV.iload_n dX7_near_27 rfl 2 rfl ?_
      refine zEV.iload_n dX7_near_28 rfl 3 rfl ?_
      obtain ⟨q5, hq5, h⟩ := bind_yes h
      refine zEV.callVv (kX7_goGrid (a1) (a2) (a3)  q3.2 q5 hq5) (by decide) rfl rfl wm_RX7_255 wc_X7_goGrid hy_X7_goGrid rfl ⟨Nat.le_of_ble_eq_true rfl, Nat.le_of_ble_eq_true rfl⟩ rfl (Nat.le_of_ble_eq_true rfl) dX7_near_29 ?_
      refine zEV.aload_n dX7_near_32 rfl 0 rfl ?_
      refine zEV.iconst (v := 0) dX7_near_33 rfl ?_
      refine zEV.pfi rfl inz7 tyX7 tyX7_ok nmX7 4 (by decide) wf_RX7_62 rfl (by decide +kernel) (by decide) rfl rfl dX7_near_34 ?_
      refine zEV.iconst (v := 0) dX7_near_37 rfl ?_
      refine zEV.istore dX7_near_38 (Nat.le_of_ble_eq_true rfl) rfl ?_
      exact zEV.perm [1, 0] rfl (tX7_near_40 a1 a2 a3 zFU (0) (wr q5 158 4 0) q h)
    · rw [if_pos c4] at h
      refine zEV.iconst (v := (-1)) dX7_near_23 rfl ?_
      have h := Option.some.inj h
      subst h
      exact zEV.iret rfl dX7_near_24
theorem kX7_near (a1 : Int32) (a2 : Int32) (a3 : Int32) (M : zMM) (q : Int32 × zMM) (h : fX7_near a1 a2 a3 M = some q) : zCN yX7_near iX7_near [.inr (.inr 158), .inl a1, .inl a2, .inl a3] M (some (.inl q.1), q.2) :=
  zCN.of (by decide) rfl rfl (Nat.le_of_ble_eq_true rfl) (zEV.perm [0, 1, 2, 3] rfl (tX7_near_0 a1 a2 a3 M q h))
-- RingedPageModel.stepFrom
def fX7_stepFrom_178 (K31 : Int32 → Int32 → Int32 → Int32 → Int32 → Int32 → zMM → Option (Int32 × zMM)) (a1 : Int32) (l2 : Int32) (l3 : Int32) (l4 : Int32) (l5 : Int32) (l6 : Int32) (l7 : Int32) (M : zMM) : Option (Int32 × zMM) :=
  K31 (l2) (l3) (l4) (l5) (l6) ((l7 + 1)) M
set_option maxRecDepth 100000 in
theorem tX7_stepFrom_178 (K31 : Int32 → Int32 → Int32 → Int32 → Int32 → Int32 → zMM → Option (Int32 × zMM)) (a1 : Int32) (hK31 : ∀ (l2 : Int32) (l3 : Int32) (l4 : Int32) (l5 : Int32) (l6 : Int32) (l7 : Int32) (M : zMM) (q : Int32 × zMM), K31 l2 l3 l4 l5 l6 l7 M = some q → zEV iX7_stepFrom 0 0 (zZO (some (.inl q.1), q.2)) 31 [(0, .inr (.inr 158)), (2, .inl l2), (3, .inl l3), (4, .inl l4), (5, .inl l5), (6, .inl l6), (7, .inl l7)] [] M) (l2 : Int32) (l3 : Int32) (l4 : Int32) (l5 : Int32) (l6 : Int32) (l7 : Int32) (M : zMM) (q : Int32 × zMM) (h : fX7_stepFrom_178 K31 a1 l2 l3 l4 l5 l6 l7 M = some q) : zEV iX7_stepFrom 0 0 (zZO (some (.inl q.1), q.2)) 178 [(0, .inr (.inr 158)), (2, .inl l2), (3, .inl l3), (4, .inl l4), (5, .inl l5), (6, .inl l6), (7, .inl l7)] [] M := by
  unfold fX7_stepFrom_178 at h
  refine zEV.iinc (v := (l7 + 1)) dX7_stepFrom_178 6 rfl rfl (Nat.le_of_ble_eq_true rfl) rfl ?_
  refine zEV.goto 31 dX7_stepFrom_181 (by decide) ?_
  exact zEV.perm [1, 2, 3, 4, 5, 6, 0] rfl (hK31 (l2) (l3) (l4) (l5) (l6) ((l7 + 1)) M q h)
def fX7_stepFrom_105 (K31 : Int32 → Int32 → Int32 → Int32 → Int32 → Int32 → zMM → Option (Int32 × zMM)) (a1 : Int32) (l2 : Int32) (l3 : Int32) (l4 : Int32) (l5 : Int32) (l6 : Int32) (l7 : Int32) (l9 : Int32) (l10 : Int32) (s0 : Int32) (s1 : Int32) (M : zMM) : Option (Int32 × zMM) :=
  (fX7_canBe (l9) (l10) ((s1 + s0)) M).bind fun q1 =>
  if q1.1 = (0 : Int32) then
    fX7_stepFrom_178 K31 a1 (l2) (l3) (l4) (l5) (l6) (l7) q1.2
  else
    (fX7_putPlan (l9) (l10) ((s1 + s0)) q1.2).bind fun q3 =>
    (fX7_costNow  q3).bind fun q4 =>
    if q4.1 < l2 then
      fX7_stepFrom_178 K31 a1 (q4.1) (1) (l4) (l5) (l6) (l7) (wr (wr (wr q4.2 169 0 l9) 169 1 l10) 169 2 (s1 + s0))
    else
      fX7_stepFrom_178 K31 a1 (l2) (l3) (l4) (l5) (l6) (l7) q4.2
set_option maxRecDepth 100000 in
theorem tX7_stepFrom_105 (K31 : Int32 → Int32 → Int32 → Int32 → Int32 → Int32 → zMM → Option (Int32 × zMM)) (a1 : Int32) (hK31 : ∀ (l2 : Int32) (l3 : Int32) (l4 : Int32) (l5 : Int32) (l6 : Int32) (l7 : Int32) (M : zMM) (q : Int32 × zMM), K31 l2 l3 l4 l5 l6 l7 M = some q → zEV iX7_stepFrom 0 0 (zZO (some (.inl q.1), q.2)) 31 [(0, .inr (.inr 158)), (2, .inl l2), (3, .inl l3), (4, .inl l4), (5, .inl l5), (6, .inl l6), (7, .inl l7)] [] M) (l2 : Int32) (l3 : Int32) (l4 : Int32) (l5 : Int32) (l6 : Int32) (l7 : Int32) (l9 : Int32) (l10 : Int32) (s0 : Int32) (s1 : Int32) (M : zMM) (q : Int32 × zMM) (h : fX7_stepFrom_105 K31 a1 l2 l3 l4 l5 l6 l7 l9 l10 s0 s1 M = some q) : zEV iX7_stepFrom 0 0 (zZO (some (.inl q.1), q.2)) 105 [(0, .inr (.inr 158)), (2, .inl l2), (3, .inl l3), (4, .inl l4), (5, .inl l5), (6, .inl l6), (7, .inl l7), (9, .inl l9), (10, .inl l10)] [.inl s0, .inl s1] M := by
  unfold fX7_stepFrom_105 at h
  refine zEV.iadd dX7_stepFrom_105 ?_
  refine zEV.istore dX7_stepFrom_106 (Nat.le_of_ble_eq_true rfl) rfl ?_
  refine zEV.aload_n dX7_stepFrom_108 rfl 1 rfl ?_
  refine zEV.iload dX7_stepFrom_109 8 rfl ?_
  refine zEV.iload dX7_stepFrom_111 9 rfl ?_
  refine zEV.iload dX7_stepFrom_113 0 rfl ?_
  obtain ⟨q1, hq1, h⟩ := bind_yes h
  refine zEV.callVi (kX7_canBe (l9) (l10) ((s1 + s0))  M q1 hq1) (by decide) rfl rfl wm_RX7_227 wc_X7_canBe hy_X7_canBe rfl ⟨Nat.le_of_ble_eq_true rfl, Nat.le_of_ble_eq_true rfl⟩ rfl (Nat.le_of_ble_eq_true rfl) dX7_stepFrom_115 ?_
  refine zEV.if_ne 124 dX7_stepFrom_118 (by decide) (fun c2 => ?_) (fun c2 => ?_)
  · rw [if_neg c2] at h
    refine zEV.aload_n dX7_stepFrom_124 rfl 1 rfl ?_
    refine zEV.iload dX7_stepFrom_125 8 rfl ?_
    refine zEV.iload dX7_stepFrom_127 9 rfl ?_
    refine zEV.iload dX7_stepFrom_129 0 rfl ?_
    obtain ⟨q3, hq3, h⟩ := bind_yes h
    refine zEV.callVv (kX7_putPlan (l9) (l10) ((s1 + s0))  q1.2 q3 hq3) (by decide) rfl rfl wm_RX7_233 wc_X7_putPlan hy_X7_putPlan rfl ⟨Nat.le_of_ble_eq_true rfl, Nat.le_of_ble_eq_true rfl⟩ rfl (Nat.le_of_ble_eq_true rfl) dX7_stepFrom_131 ?_
    refine zEV.aload_n dX7_stepFrom_134 rfl 1 rfl ?_
    obtain ⟨q4, hq4, h⟩ := bind_yes h
    refine zEV.callVi (kX7_costNow   q3 q4 hq4) (by decide) rfl rfl wm_RX7_217 wc_X7_costNow hy_X7_costNow rfl ⟨Nat.le_of_ble_eq_true rfl, Nat.le_of_ble_eq_true rfl⟩ rfl (Nat.le_of_ble_eq_true rfl) dX7_stepFrom_135 ?_
    refine zEV.istore dX7_stepFrom_138 (Nat.le_of_ble_eq_true rfl) rfl ?_
    refine zEV.iload dX7_stepFrom_140 0 rfl ?_
    refine zEV.iload_n dX7_stepFrom_142 rfl 3 rfl ?_
    refine zEV.icmp_lt 149 dX7_stepFrom_143 (by decide) (fun c5 => ?_) (fun c5 => ?_)
    · rw [if_pos c5] at h
      refine zEV.iload dX7_stepFrom_149 0 rfl ?_
      refine zEV.istore_n dX7_stepFrom_151 rfl (Nat.le_of_ble_eq_true rfl) rfl ?_
      refine zEV.iconst (v := 1) dX7_stepFrom_152 rfl ?_
      refine zEV.istore_n dX7_stepFrom_153 rfl (Nat.le_of_ble_eq_true rfl) rfl ?_
      refine zEV.aload_n dX7_stepFrom_154 rfl 4 rfl ?_
      refine zEV.gfr rfl inz7 21 (by decide) wf_RX7_42 (by decide) rfl rfl dX7_stepFrom_155 ?_
      refine zEV.iconst (v := 0) dX7_stepFrom_158 rfl ?_
      refine zEV.iload dX7_stepFrom_159 9 rfl ?_
      refine zEV.iastL (j := 0) (by decide) rfl (by decide) (by decide) dX7_stepFrom_161 ?_
      refine zEV.aload_n dX7_stepFrom_162 rfl 4 rfl ?_
      refine zEV.gfr rfl inz7 21 (by decide) wf_RX7_42 (by decide) rfl rfl dX7_stepFrom_163 ?_
      refine zEV.iconst (v := 1) dX7_stepFrom_166 rfl ?_
      refine zEV.iload dX7_stepFrom_167 10 rfl ?_
      refine zEV.iastL (j := 1) (by decide) rfl (by decide) (by decide) dX7_stepFrom_169 ?_
      refine zEV.aload_n dX7_stepFrom_170 rfl 4 rfl ?_
      refine zEV.gfr rfl inz7 21 (by decide) wf_RX7_42 (by decide) rfl rfl dX7_stepFrom_171 ?_
      refine zEV.iconst (v := 2) dX7_stepFrom_174 rfl ?_
      refine zEV.iload dX7_stepFrom_175 3 rfl ?_
      refine zEV.iastL (j := 2) (by decide) rfl (by decide) (by decide) dX7_stepFrom_177 ?_
      exact zEV.perm [4, 1, 0, 5, 6, 7, 8] rfl (tX7_stepFrom_178 K31 a1 hK31 (q4.1) (1) (l4) (l5) (l6) (l7) (wr (wr (wr q4.2 169 0 l9) 169 1 l10) 169 2 (s1 + s0)) q h)
    · rw [if_neg c5] at h
      refine zEV.goto 178 dX7_stepFrom_146 (by decide) ?_
      exact zEV.perm [2, 3, 4, 5, 6, 7, 8] rfl (tX7_stepFrom_178 K31 a1 hK31 (l2) (l3) (l4) (l5) (l6) (l7) q4.2 q h)
  · rw [if_pos c2] at h
    refine zEV.goto 178 dX7_stepFrom_121 (by decide) ?_
    exact zEV.perm [1, 2, 3, 4, 5, 6, 7] rfl (tX7_stepFrom_178 K31 a1 hK31 (l2) (l3) (l4) (l5) (l6) (l7) q1.2 q h)
def fX7_stepFrom_86 (K31 : Int32 → Int32 → Int32 → Int32 → Int32 → Int32 → zMM → Option (Int32 × zMM)) (a1 : Int32) (l2 : Int32) (l3 : Int32) (l4 : Int32) (l5 : Int32) (l6 : Int32) (l7 : Int32) (l8 : Int32) (l9 : Int32) (s0 : Int32) (s1 : Int32) (M : zMM) : Option (Int32 × zMM) :=
  if (l7 / 2) = 2 then
    fX7_stepFrom_105 K31 a1 (l2) (l3) (l4) (l5) (l6) (l7) (l9) ((s1 + s0)) (l8) (l6) M
  else
    fX7_stepFrom_105 K31 a1 (l2) (l3) (l4) (l5) (l6) (l7) (l9) ((s1 + s0)) (0) (l6) M
set_option maxRecDepth 100000 in
theorem tX7_stepFrom_86 (K31 : Int32 → Int32 → Int32 → Int32 → Int32 → Int32 → zMM → Option (Int32 × zMM)) (a1 : Int32) (hK31 : ∀ (l2 : Int32) (l3 : Int32) (l4 : Int32) (l5 : Int32) (l6 : Int32) (l7 : Int32) (M : zMM) (q : Int32 × zMM), K31 l2 l3 l4 l5 l6 l7 M = some q → zEV iX7_stepFrom 0 0 (zZO (some (.inl q.1), q.2)) 31 [(0, .inr (.inr 158)), (2, .inl l2), (3, .inl l3), (4, .inl l4), (5, .inl l5), (6, .inl l6), (7, .inl l7)] [] M) (l2 : Int32) (l3 : Int32) (l4 : Int32) (l5 : Int32) (l6 : Int32) (l7 : Int32) (l8 : Int32) (l9 : Int32) (s0 : Int32) (s1 : Int32) (M : zMM) (q : Int32 × zMM) (h : fX7_stepFrom_86 K31 a1 l2 l3 l4 l5 l6 l7 l8 l9 s0 s1 M = some q) : zEV iX7_stepFrom 0 0 (zZO (some (.inl q.1), q.2)) 86 [(0, .inr (.inr 158)), (2, .inl l2), (3, .inl l3), (4, .inl l4), (5, .inl l5), (6, .inl l6), (7, .inl l7), (8, .inl l8), (9, .inl l9)] [.inl s0, .inl s1] M := by
  unfold fX7_stepFrom_86 at h
  refine zEV.iadd dX7_stepFrom_86 ?_
  refine zEV.istore dX7_stepFrom_87 (Nat.le_of_ble_eq_true rfl) rfl ?_
  refine zEV.iload dX7_stepFrom_89 6 rfl ?_
  refine zEV.iload dX7_stepFrom_91 7 rfl ?_
  refine zEV.iconst (v := 2) dX7_stepFrom_93 rfl ?_
  refine zEV.idiv dX7_stepFrom_94 (by decide) ?_
  refine zEV.iconst (v := 2) dX7_stepFrom_95 rfl ?_
  refine zEV.icmp_ne 104 dX7_stepFrom_96 (by decide) (fun c1 => ?_) (fun c1 => ?_)
  · rw [if_neg c1] at h
    refine zEV.iconst (v := 0) dX7_stepFrom_104 rfl ?_
    exact zEV.perm [1, 2, 3, 4, 5, 6, 7, 9, 0] rfl (tX7_stepFrom_105 K31 a1 hK31 (l2) (l3) (l4) (l5) (l6) (l7) (l9) ((s1 + s0)) (0) (l6) M q h)
  · rw [if_pos c1] at h
    refine zEV.iload dX7_stepFrom_99 8 rfl ?_
    refine zEV.goto 105 dX7_stepFrom_101 (by decide) ?_
    exact zEV.perm [1, 2, 3, 4, 5, 6, 7, 9, 0] rfl (tX7_stepFrom_105 K31 a1 hK31 (l2) (l3) (l4) (l5) (l6) (l7) (l9) ((s1 + s0)) (l8) (l6) M q h)
def fX7_stepFrom_67 (K31 : Int32 → Int32 → Int32 → Int32 → Int32 → Int32 → zMM → Option (Int32 × zMM)) (a1 : Int32) (l2 : Int32) (l3 : Int32) (l4 : Int32) (l5 : Int32) (l6 : Int32) (l7 : Int32) (l8 : Int32) (s0 : Int32) (s1 : Int32) (M : zMM) : Option (Int32 × zMM) :=
  if (l7 / 2) = 1 then
    fX7_stepFrom_86 K31 a1 (l2) (l3) (l4) (l5) (l6) (l7) (l8) ((s1 + s0)) (l8) (l5) M
  else
    fX7_stepFrom_86 K31 a1 (l2) (l3) (l4) (l5) (l6) (l7) (l8) ((s1 + s0)) (0) (l5) M
set_option maxRecDepth 100000 in
theorem tX7_stepFrom_67 (K31 : Int32 → Int32 → Int32 → Int32 → Int32 → Int32 → zMM → Option (Int32 × zMM)) (a1 : Int32) (hK31 : ∀ (l2 : Int32) (l3 : Int32) (l4 : Int32) (l5 : Int32) (l6 : Int32) (l7 : Int32) (M : zMM) (q : Int32 × zMM), K31 l2 l3 l4 l5 l6 l7 M = some q → zEV iX7_stepFrom 0 0 (zZO (some (.inl q.1), q.2)) 31 [(0, .inr (.inr 158)), (2, .inl l2), (3, .inl l3), (4, .inl l4), (5, .inl l5), (6, .inl l6), (7, .inl l7)] [] M) (l2 : Int32) (l3 : Int32) (l4 : Int32) (l5 : Int32) (l6 : Int32) (l7 : Int32) (l8 : Int32) (s0 : Int32) (s1 : Int32) (M : zMM) (q : Int32 × zMM) (h : fX7_stepFrom_67 K31 a1 l2 l3 l4 l5 l6 l7 l8 s0 s1 M = some q) : zEV iX7_stepFrom 0 0 (zZO (some (.inl q.1), q.2)) 67 [(0, .inr (.inr 158)), (2, .inl l2), (3, .inl l3), (4, .inl l4), (5, .inl l5), (6, .inl l6), (7, .inl l7), (8, .inl l8)] [.inl s0, .inl s1] M := by
  unfold fX7_stepFrom_67 at h
  refine zEV.iadd dX7_stepFrom_67 ?_
  refine zEV.istore dX7_stepFrom_68 (Nat.le_of_ble_eq_true rfl) rfl ?_
  refine zEV.iload dX7_stepFrom_70 5 rfl ?_
  refine zEV.iload dX7_stepFrom_72 7 rfl ?_
  refine zEV.iconst (v := 2) dX7_stepFrom_74 rfl ?_
  refine zEV.idiv dX7_stepFrom_75 (by decide) ?_
  refine zEV.iconst (v := 1) dX7_stepFrom_76 rfl ?_
  refine zEV.icmp_ne 85 dX7_stepFrom_77 (by decide) (fun c1 => ?_) (fun c1 => ?_)
  · rw [if_neg c1] at h
    refine zEV.iconst (v := 0) dX7_stepFrom_85 rfl ?_
    exact zEV.perm [1, 2, 3, 4, 5, 6, 7, 8, 0] rfl (tX7_stepFrom_86 K31 a1 hK31 (l2) (l3) (l4) (l5) (l6) (l7) (l8) ((s1 + s0)) (0) (l5) M q h)
  · rw [if_pos c1] at h
    refine zEV.iload dX7_stepFrom_80 8 rfl ?_
    refine zEV.goto 86 dX7_stepFrom_82 (by decide) ?_
    exact zEV.perm [1, 2, 3, 4, 5, 6, 7, 8, 0] rfl (tX7_stepFrom_86 K31 a1 hK31 (l2) (l3) (l4) (l5) (l6) (l7) (l8) ((s1 + s0)) (l8) (l5) M q h)
def fX7_stepFrom_50 (K31 : Int32 → Int32 → Int32 → Int32 → Int32 → Int32 → zMM → Option (Int32 × zMM)) (a1 : Int32) (l2 : Int32) (l3 : Int32) (l4 : Int32) (l5 : Int32) (l6 : Int32) (l7 : Int32) (s0 : Int32) (M : zMM) : Option (Int32 × zMM) :=
  if (l7 / 2) = (0 : Int32) then
    fX7_stepFrom_67 K31 a1 (l2) (l3) (l4) (l5) (l6) (l7) (s0) (s0) (l4) M
  else
    fX7_stepFrom_67 K31 a1 (l2) (l3) (l4) (l5) (l6) (l7) (s0) (0) (l4) M
set_option maxRecDepth 100000 in
theorem tX7_stepFrom_50 (K31 : Int32 → Int32 → Int32 → Int32 → Int32 → Int32 → zMM → Option (Int32 × zMM)) (a1 : Int32) (hK31 : ∀ (l2 : Int32) (l3 : Int32) (l4 : Int32) (l5 : Int32) (l6 : Int32) (l7 : Int32) (M : zMM) (q : Int32 × zMM), K31 l2 l3 l4 l5 l6 l7 M = some q → zEV iX7_stepFrom 0 0 (zZO (some (.inl q.1), q.2)) 31 [(0, .inr (.inr 158)), (2, .inl l2), (3, .inl l3), (4, .inl l4), (5, .inl l5), (6, .inl l6), (7, .inl l7)] [] M) (l2 : Int32) (l3 : Int32) (l4 : Int32) (l5 : Int32) (l6 : Int32) (l7 : Int32) (s0 : Int32) (M : zMM) (q : Int32 × zMM) (h : fX7_stepFrom_50 K31 a1 l2 l3 l4 l5 l6 l7 s0 M = some q) : zEV iX7_stepFrom 0 0 (zZO (some (.inl q.1), q.2)) 50 [(0, .inr (.inr 158)), (2, .inl l2), (3, .inl l3), (4, .inl l4), (5, .inl l5), (6, .inl l6), (7, .inl l7)] [.inl s0] M := by
  unfold fX7_stepFrom_50 at h
  refine zEV.istore dX7_stepFrom_50 (Nat.le_of_ble_eq_true rfl) rfl ?_
  refine zEV.iload dX7_stepFrom_52 4 rfl ?_
  refine zEV.iload dX7_stepFrom_54 7 rfl ?_
  refine zEV.iconst (v := 2) dX7_stepFrom_56 rfl ?_
  refine zEV.idiv dX7_stepFrom_57 (by decide) ?_
  refine zEV.if_ne 66 dX7_stepFrom_58 (by decide) (fun c1 => ?_) (fun c1 => ?_)
  · rw [if_neg c1] at h
    refine zEV.iconst (v := 0) dX7_stepFrom_66 rfl ?_
    exact zEV.perm [1, 2, 3, 4, 5, 6, 7, 0] rfl (tX7_stepFrom_67 K31 a1 hK31 (l2) (l3) (l4) (l5) (l6) (l7) (s0) (0) (l4) M q h)
  · rw [if_pos c1] at h
    refine zEV.iload dX7_stepFrom_61 0 rfl ?_
    refine zEV.goto 67 dX7_stepFrom_63 (by decide) ?_
    exact zEV.perm [1, 2, 3, 4, 5, 6, 7, 0] rfl (tX7_stepFrom_67 K31 a1 hK31 (l2) (l3) (l4) (l5) (l6) (l7) (s0) (s0) (l4) M q h)
def fX7_stepFrom_31 (a1 : Int32) : Nat → Int32 → Int32 → Int32 → Int32 → Int32 → Int32 → zMM → Option (Int32 × zMM)
  | 0, _, _, _, _, _, _, _ => none
  | n + 1, l2, l3, l4, l5, l6, l7, M =>
  if (6 : Int32) ≤ l7 then
    (fX7_putPlan (l4) (l5) (l6) M).bind fun q2 =>
    if l3 = (0 : Int32) then
      some ((-1), q2)
    else
      some (l2, q2)
  else
    if (l7 - l7 / 2 * 2) = (0 : Int32) then
      fX7_stepFrom_50 (fX7_stepFrom_31 a1 n) a1 (l2) (l3) (l4) (l5) (l6) (l7) ((-1)) M
    else
      fX7_stepFrom_50 (fX7_stepFrom_31 a1 n) a1 (l2) (l3) (l4) (l5) (l6) (l7) (1) M
set_option maxRecDepth 100000 in
theorem tX7_stepFrom_31 (a1 : Int32) : ∀ (n : Nat) (l2 : Int32) (l3 : Int32) (l4 : Int32) (l5 : Int32) (l6 : Int32) (l7 : Int32) (M : zMM) (q : Int32 × zMM), fX7_stepFrom_31 a1 n l2 l3 l4 l5 l6 l7 M = some q → zEV iX7_stepFrom 0 0 (zZO (some (.inl q.1), q.2)) 31 [(0, .inr (.inr 158)), (2, .inl l2), (3, .inl l3), (4, .inl l4), (5, .inl l5), (6, .inl l6), (7, .inl l7)] [] M := by
  intro n
  induction n with
  | zero =>
    intro l2 l3 l4 l5 l6 l7 M q h
    rw [fX7_stepFrom_31] at h
    cases h
  | succ n ih =>
    intro l2 l3 l4 l5 l6 l7 M q h
    rw [fX7_stepFrom_31] at h
    refine zEV.iload dX7_stepFrom_31 6 rfl ?_
    refine zEV.bipush (v := 6) dX7_stepFrom_33 rfl ?_
    refine zEV.icmp_ge 184 dX7_stepFrom_35 (by decide) (fun c1 => ?_) (fun c1 => ?_)
    · rw [if_pos c1] at h
      refine zEV.aload_n dX7_stepFrom_184 rfl 0 rfl ?_
      refine zEV.iload dX7_stepFrom_185 3 rfl ?_
      refine zEV.iload dX7_stepFrom_187 4 rfl ?_
      refine zEV.iload dX7_stepFrom_189 5 rfl ?_
      obtain ⟨q2, hq2, h⟩ := bind_yes h
      refine zEV.callVv (kX7_putPlan (l4) (l5) (l6)  M q2 hq2) (by decide) rfl rfl wm_RX7_233 wc_X7_putPlan hy_X7_putPlan rfl ⟨Nat.le_of_ble_eq_true rfl, Nat.le_of_ble_eq_true rfl⟩ rfl (Nat.le_of_ble_eq_true rfl) dX7_stepFrom_191 ?_
      refine zEV.iload_n dX7_stepFrom_194 rfl 2 rfl ?_
      refine zEV.if_eq 202 dX7_stepFrom_195 (by decide) (fun c3 => ?_) (fun c3 => ?_)
      · rw [if_pos c3] at h
        refine zEV.iconst (v := (-1)) dX7_stepFrom_202 rfl ?_
        have h := Option.some.inj h
        subst h
        exact zEV.iret rfl dX7_stepFrom_203
      · rw [if_neg c3] at h
        refine zEV.iload_n dX7_stepFrom_198 rfl 1 rfl ?_
        refine zEV.goto 203 dX7_stepFrom_199 (by decide) ?_
        have h := Option.some.inj h
        subst h
        exact zEV.iret rfl dX7_stepFrom_203
    · rw [if_neg c1] at h
      refine zEV.iload dX7_stepFrom_38 6 rfl ?_
      refine zEV.iconst (v := 2) dX7_stepFrom_40 rfl ?_
      refine zEV.irem dX7_stepFrom_41 (by decide) ?_
      refine zEV.if_ne 49 dX7_stepFrom_42 (by decide) (fun c4 => ?_) (fun c4 => ?_)
      · rw [if_neg c4] at h
        refine zEV.iconst (v := 1) dX7_stepFrom_49 rfl ?_
        exact zEV.perm [0, 1, 2, 3, 4, 5, 6] rfl (tX7_stepFrom_50 (fX7_stepFrom_31 a1 n) a1 (fun l2 l3 l4 l5 l6 l7 M9 q9 h9 => ih l2 l3 l4 l5 l6 l7 M9 q9 h9) (l2) (l3) (l4) (l5) (l6) (l7) (1) M q h)
      · rw [if_pos c4] at h
        refine zEV.iconst (v := (-1)) dX7_stepFrom_45 rfl ?_
        refine zEV.goto 50 dX7_stepFrom_46 (by decide) ?_
        exact zEV.perm [0, 1, 2, 3, 4, 5, 6] rfl (tX7_stepFrom_50 (fX7_stepFrom_31 a1 n) a1 (fun l2 l3 l4 l5 l6 l7 M9 q9 h9 => ih l2 l3 l4 l5 l6 l7 M9 q9 h9) (l2) (l3) (l4) (l5) (l6) (l7) ((-1)) M q h)
def fX7_stepFrom (a1 : Int32) (M : zMM) : Option (Int32 × zMM) :=
  fX7_stepFrom_31 a1 zFU (a1) (0) ((M.1 159 2)) ((M.1 159 3)) ((M.1 159 4)) (0) M
set_option maxRecDepth 100000 in
theorem tX7_stepFrom_0 (a1 : Int32) (M : zMM) (q : Int32 × zMM) (h : fX7_stepFrom a1  M = some q) : zEV iX7_stepFrom 0 0 (zZO (some (.inl q.1), q.2)) 0 [(0, .inr (.inr 158)), (1, .inl a1)] [] M := by
  unfold fX7_stepFrom at h
  refine zEV.iload_n dX7_stepFrom_0 rfl 1 rfl ?_
  refine zEV.istore_n dX7_stepFrom_1 rfl (Nat.le_of_ble_eq_true rfl) rfl ?_
  refine zEV.iconst (v := 0) dX7_stepFrom_2 rfl ?_
  refine zEV.istore_n dX7_stepFrom_3 rfl (Nat.le_of_ble_eq_true rfl) rfl ?_
  refine zEV.aload_n dX7_stepFrom_4 rfl 2 rfl ?_
  refine zEV.gfr rfl inz7 0 (by decide) wf_RX7_9 (by decide) rfl rfl dX7_stepFrom_5 ?_
  refine zEV.iconst (v := 2) dX7_stepFrom_8 rfl ?_
  refine zEV.ialdL (j := 2) (by decide) rfl (by decide) (by decide) dX7_stepFrom_9 ?_
  refine zEV.istore dX7_stepFrom_10 (Nat.le_of_ble_eq_true rfl) rfl ?_
  refine zEV.aload_n dX7_stepFrom_12 rfl 3 rfl ?_
  refine zEV.gfr rfl inz7 0 (by decide) wf_RX7_9 (by decide) rfl rfl dX7_stepFrom_13 ?_
  refine zEV.iconst (v := 3) dX7_stepFrom_16 rfl ?_
  refine zEV.ialdL (j := 3) (by decide) rfl (by decide) (by decide) dX7_stepFrom_17 ?_
  refine zEV.istore dX7_stepFrom_18 (Nat.le_of_ble_eq_true rfl) rfl ?_
  refine zEV.aload_n dX7_stepFrom_20 rfl 4 rfl ?_
  refine zEV.gfr rfl inz7 0 (by decide) wf_RX7_9 (by decide) rfl rfl dX7_stepFrom_21 ?_
  refine zEV.iconst (v := 4) dX7_stepFrom_24 rfl ?_
  refine zEV.ialdL (j := 4) (by decide) rfl (by decide) (by decide) dX7_stepFrom_25 ?_
  refine zEV.istore dX7_stepFrom_26 (Nat.le_of_ble_eq_true rfl) rfl ?_
  refine zEV.iconst (v := 0) dX7_stepFrom_28 rfl ?_
  refine zEV.istore dX7_stepFrom_29 (Nat.le_of_ble_eq_true rfl) rfl ?_
  exact zEV.perm [6, 5, 4, 3, 2, 1, 0] rfl (tX7_stepFrom_31 a1 zFU (a1) (0) ((M.1 159 2)) ((M.1 159 3)) ((M.1 159 4)) (0) M q h)
theorem kX7_stepFrom (a1 : Int32) (M : zMM) (q : Int32 × zMM) (h : fX7_stepFrom a1 M = some q) : zCN yX7_stepFrom iX7_stepFrom [.inr (.inr 158), .inl a1] M (some (.inl q.1), q.2) :=
  zCN.of (by decide) rfl rfl (Nat.le_of_ble_eq_true rfl) (zEV.perm [0, 1] rfl (tX7_stepFrom_0 a1 M q h))
-- RingedPageModel.climbs
def fX7_climbs_70 : Nat → Int32 → Int32 → Int32 → zMM → Option (Int32 × zMM)
  | 0, _, _, _, _ => none
  | n + 1, l1, l2, l3, M =>
  if (3 : Int32) ≤ l3 then
    (fX7_tell ((Int32.toInt64 l1)) M).bind fun q2 =>
    (fX7_comesBack  q2).bind fun q3 =>
    some (l2, q3)
  else
    if oob ((2 + l3)) 259 then none else
    (fX7_tell ((Int32.toInt64 (M.1 159 (Int32.toNatClampNeg (2 + l3))))) M).bind fun q5 =>
    fX7_climbs_70 n (l1) (l2) ((l3 + 1)) q5
set_option maxRecDepth 100000 in
theorem tX7_climbs_70 : ∀ (n : Nat) (l1 : Int32) (l2 : Int32) (l3 : Int32) (M : zMM) (q : Int32 × zMM), fX7_climbs_70 n l1 l2 l3 M = some q → zEV iX7_climbs 0 0 (zZO (some (.inl q.1), q.2)) 70 [(0, .inr (.inr 158)), (1, .inl l1), (2, .inl l2), (3, .inl l3)] [] M := by
  intro n
  induction n with
  | zero =>
    intro l1 l2 l3 M q h
    rw [fX7_climbs_70] at h
    cases h
  | succ n ih =>
    intro l1 l2 l3 M q h
    rw [fX7_climbs_70] at h
    refine zEV.iload_n dX7_climbs_70 rfl 3 rfl ?_
    refine zEV.iconst (v := 3) dX7_climbs_71 rfl ?_
    refine zEV.icmp_ge 94 dX7_climbs_72 (by decide) (fun c1 => ?_) (fun c1 => ?_)
    · rw [if_pos c1] at h
      refine zEV.aload_n dX7_climbs_94 rfl 0 rfl ?_
      refine zEV.iload_n dX7_climbs_95 rfl 1 rfl ?_
      refine zEV.i2l dX7_climbs_96 ?_
      obtain ⟨q2, hq2, h⟩ := bind_yes h
      refine zEV.callVv (kX7_tell ((Int32.toInt64 l1))  M q2 hq2) (by decide) rfl rfl wm_RX7_135 wc_X7_tell hy_X7_tell rfl ⟨Nat.le_of_ble_eq_true rfl, Nat.le_of_ble_eq_true rfl⟩ rfl (Nat.le_of_ble_eq_true rfl) dX7_climbs_97 ?_
      refine zEV.aload_n dX7_climbs_100 rfl 0 rfl ?_
      obtain ⟨q3, hq3, h⟩ := bind_yes h
      refine zEV.callVv (kX7_comesBack   q2 q3 hq3) (by decide) rfl rfl wm_RX7_237 wc_X7_comesBack hy_X7_comesBack rfl ⟨Nat.le_of_ble_eq_true rfl, Nat.le_of_ble_eq_true rfl⟩ rfl (Nat.le_of_ble_eq_true rfl) dX7_climbs_101 ?_
      refine zEV.iload_n dX7_climbs_104 rfl 2 rfl ?_
      have h := Option.some.inj h
      subst h
      exact zEV.iret rfl dX7_climbs_105
    · rw [if_neg c1] at h
      refine zEV.aload_n dX7_climbs_75 rfl 0 rfl ?_
      refine zEV.aload_n dX7_climbs_76 rfl 0 rfl ?_
      refine zEV.gfr rfl inz7 0 (by decide) wf_RX7_9 (by decide) rfl rfl dX7_climbs_77 ?_
      refine zEV.iconst (v := 2) dX7_climbs_80 rfl ?_
      refine zEV.iload_n dX7_climbs_81 rfl 3 rfl ?_
      refine zEV.iadd dX7_climbs_82 ?_
      obtain ⟨g4, h⟩ := ite_no h
      refine zEV.iald (by decide) rfl g4 dX7_climbs_83 ?_
      refine zEV.i2l dX7_climbs_84 ?_
      obtain ⟨q5, hq5, h⟩ := bind_yes h
      refine zEV.callVv (kX7_tell ((Int32.toInt64 (M.1 159 (Int32.toNatClampNeg (2 + l3)))))  M q5 hq5) (by decide) rfl rfl wm_RX7_135 wc_X7_tell hy_X7_tell rfl ⟨Nat.le_of_ble_eq_true rfl, Nat.le_of_ble_eq_true rfl⟩ rfl (Nat.le_of_ble_eq_true rfl) dX7_climbs_85 ?_
      refine zEV.iinc (v := (l3 + 1)) dX7_climbs_88 3 rfl rfl (Nat.le_of_ble_eq_true rfl) rfl ?_
      refine zEV.goto 70 dX7_climbs_91 (by decide) ?_
      exact zEV.perm [1, 2, 3, 0] rfl (ih (l1) (l2) ((l3 + 1)) q5 q h)
def fX7_climbs_22 : Nat → Int32 → Int32 → Int32 → zMM → Option (Int32 × zMM)
  | 0, _, _, _, _ => none
  | n + 1, l1, l2, l3, M =>
  if l3 = (-1) then
    fX7_climbs_70 zFU (l1) (l2) (0) (wr M 158 4 0)
  else
    (fX7_putPlan ((M.1 169 0)) ((M.1 169 1)) ((M.1 169 2)) M).bind fun q2 =>
    (fX7_stepFrom (l3) q2).bind fun q3 =>
    fX7_climbs_22 n (l3) ((l2 + 1)) (q3.1) q3.2
set_option maxRecDepth 100000 in
theorem tX7_climbs_22 : ∀ (n : Nat) (l1 : Int32) (l2 : Int32) (l3 : Int32) (M : zMM) (q : Int32 × zMM), fX7_climbs_22 n l1 l2 l3 M = some q → zEV iX7_climbs 0 0 (zZO (some (.inl q.1), q.2)) 22 [(0, .inr (.inr 158)), (1, .inl l1), (2, .inl l2), (3, .inl l3)] [] M := by
  intro n
  induction n with
  | zero =>
    intro l1 l2 l3 M q h
    rw [fX7_climbs_22] at h
    cases h
  | succ n ih =>
    intro l1 l2 l3 M q h
    rw [fX7_climbs_22] at h
    refine zEV.iload_n dX7_climbs_22 rfl 3 rfl ?_
    refine zEV.iconst (v := (-1)) dX7_climbs_23 rfl ?_
    refine zEV.icmp_eq 63 dX7_climbs_24 (by decide) (fun c1 => ?_) (fun c1 => ?_)
    · rw [if_pos c1] at h
      refine zEV.aload_n dX7_climbs_63 rfl 0 rfl ?_
      refine zEV.iconst (v := 0) dX7_climbs_64 rfl ?_
      refine zEV.pfi rfl inz7 tyX7 tyX7_ok nmX7 4 (by decide) wf_RX7_62 rfl (by decide +kernel) (by decide) rfl rfl dX7_climbs_65 ?_
      refine zEV.iconst (v := 0) dX7_climbs_68 rfl ?_
      refine zEV.istore_n dX7_climbs_69 rfl (Nat.le_of_ble_eq_true rfl) rfl ?_
      exact zEV.perm [1, 2, 3, 0] rfl (tX7_climbs_70 zFU (l1) (l2) (0) (wr M 158 4 0) q h)
    · rw [if_neg c1] at h
      refine zEV.aload_n dX7_climbs_27 rfl 0 rfl ?_
      refine zEV.aload_n dX7_climbs_28 rfl 0 rfl ?_
      refine zEV.gfr rfl inz7 21 (by decide) wf_RX7_42 (by decide) rfl rfl dX7_climbs_29 ?_
      refine zEV.iconst (v := 0) dX7_climbs_32 rfl ?_
      refine zEV.ialdL (j := 0) (by decide) rfl (by decide) (by decide) dX7_climbs_33 ?_
      refine zEV.aload_n dX7_climbs_34 rfl 0 rfl ?_
      refine zEV.gfr rfl inz7 21 (by decide) wf_RX7_42 (by decide) rfl rfl dX7_climbs_35 ?_
      refine zEV.iconst (v := 1) dX7_climbs_38 rfl ?_
      refine zEV.ialdL (j := 1) (by decide) rfl (by decide) (by decide) dX7_climbs_39 ?_
      refine zEV.aload_n dX7_climbs_40 rfl 0 rfl ?_
      refine zEV.gfr rfl inz7 21 (by decide) wf_RX7_42 (by decide) rfl rfl dX7_climbs_41 ?_
      refine zEV.iconst (v := 2) dX7_climbs_44 rfl ?_
      refine zEV.ialdL (j := 2) (by decide) rfl (by decide) (by decide) dX7_climbs_45 ?_
      obtain ⟨q2, hq2, h⟩ := bind_yes h
      refine zEV.callVv (kX7_putPlan ((M.1 169 0)) ((M.1 169 1)) ((M.1 169 2))  M q2 hq2) (by decide) rfl rfl wm_RX7_233 wc_X7_putPlan hy_X7_putPlan rfl ⟨Nat.le_of_ble_eq_true rfl, Nat.le_of_ble_eq_true rfl⟩ rfl (Nat.le_of_ble_eq_true rfl) dX7_climbs_46 ?_
      refine zEV.iload_n dX7_climbs_49 rfl 3 rfl ?_
      refine zEV.istore_n dX7_climbs_50 rfl (Nat.le_of_ble_eq_true rfl) rfl ?_
      refine zEV.iinc (v := (l2 + 1)) dX7_climbs_51 2 rfl rfl (Nat.le_of_ble_eq_true rfl) rfl ?_
      refine zEV.aload_n dX7_climbs_54 rfl 2 rfl ?_
      refine zEV.iload_n dX7_climbs_55 rfl 1 rfl ?_
      obtain ⟨q3, hq3, h⟩ := bind_yes h
      refine zEV.callVi (kX7_stepFrom (l3)  q2 q3 hq3) (by decide) rfl rfl wm_RX7_258 wc_X7_stepFrom hy_X7_stepFrom rfl ⟨Nat.le_of_ble_eq_true rfl, Nat.le_of_ble_eq_true rfl⟩ rfl (Nat.le_of_ble_eq_true rfl) dX7_climbs_56 ?_
      refine zEV.istore_n dX7_climbs_59 rfl (Nat.le_of_ble_eq_true rfl) rfl ?_
      refine zEV.goto 22 dX7_climbs_60 (by decide) ?_
      exact zEV.perm [3, 2, 1, 0] rfl (ih (l3) ((l2 + 1)) (q3.1) q3.2 q h)
def fX7_climbs (M : zMM) : Option (Int32 × zMM) :=
  (fX7_layAside  (wr M 158 5 0)).bind fun q1 =>
  (fX7_costNow  q1).bind fun q2 =>
  (fX7_stepFrom (q2.1) q2.2).bind fun q3 =>
  fX7_climbs_22 zFU (q2.1) (0) (q3.1) q3.2
set_option maxRecDepth 100000 in
theorem tX7_climbs_0 (M : zMM) (q : Int32 × zMM) (h : fX7_climbs  M = some q) : zEV iX7_climbs 0 0 (zZO (some (.inl q.1), q.2)) 0 [(0, .inr (.inr 158))] [] M := by
  unfold fX7_climbs at h
  refine zEV.aload_n dX7_climbs_0 rfl 0 rfl ?_
  refine zEV.iconst (v := 0) dX7_climbs_1 rfl ?_
  refine zEV.pfi rfl inz7 tyX7 tyX7_ok nmX7 5 (by decide) wf_RX7_58 rfl (by decide +kernel) (by decide) rfl rfl dX7_climbs_2 ?_
  refine zEV.aload_n dX7_climbs_5 rfl 0 rfl ?_
  obtain ⟨q1, hq1, h⟩ := bind_yes h
  refine zEV.callVv (kX7_layAside   (wr M 158 5 0) q1 hq1) (by decide) rfl rfl wm_RX7_230 wc_X7_layAside hy_X7_layAside rfl ⟨Nat.le_of_ble_eq_true rfl, Nat.le_of_ble_eq_true rfl⟩ rfl (Nat.le_of_ble_eq_true rfl) dX7_climbs_6 ?_
  refine zEV.aload_n dX7_climbs_9 rfl 0 rfl ?_
  obtain ⟨q2, hq2, h⟩ := bind_yes h
  refine zEV.callVi (kX7_costNow   q1 q2 hq2) (by decide) rfl rfl wm_RX7_217 wc_X7_costNow hy_X7_costNow rfl ⟨Nat.le_of_ble_eq_true rfl, Nat.le_of_ble_eq_true rfl⟩ rfl (Nat.le_of_ble_eq_true rfl) dX7_climbs_10 ?_
  refine zEV.istore_n dX7_climbs_13 rfl (Nat.le_of_ble_eq_true rfl) rfl ?_
  refine zEV.iconst (v := 0) dX7_climbs_14 rfl ?_
  refine zEV.istore_n dX7_climbs_15 rfl (Nat.le_of_ble_eq_true rfl) rfl ?_
  refine zEV.aload_n dX7_climbs_16 rfl 2 rfl ?_
  refine zEV.iload_n dX7_climbs_17 rfl 1 rfl ?_
  obtain ⟨q3, hq3, h⟩ := bind_yes h
  refine zEV.callVi (kX7_stepFrom (q2.1)  q2.2 q3 hq3) (by decide) rfl rfl wm_RX7_258 wc_X7_stepFrom hy_X7_stepFrom rfl ⟨Nat.le_of_ble_eq_true rfl, Nat.le_of_ble_eq_true rfl⟩ rfl (Nat.le_of_ble_eq_true rfl) dX7_climbs_18 ?_
  refine zEV.istore_n dX7_climbs_21 rfl (Nat.le_of_ble_eq_true rfl) rfl ?_
  exact zEV.perm [3, 2, 1, 0] rfl (tX7_climbs_22 zFU (q2.1) (0) (q3.1) q3.2 q h)
theorem kX7_climbs (M : zMM) (q : Int32 × zMM) (h : fX7_climbs M = some q) : zCN yX7_climbs iX7_climbs [.inr (.inr 158)] M (some (.inl q.1), q.2) :=
  zCN.of (by decide) rfl rfl (Nat.le_of_ble_eq_true rfl) (zEV.perm [0] rfl (tX7_climbs_0 M q h))
-- RingedPageModel.leastBy
def fX7_leastBy_89 (a1 : Int32) (a2 : Int32) (a3 : Int32) (a4 : Int32) (l5 : Int32) (l6 : Int32) (M : zMM) : Option (Int32 × zMM) :=
  (fX7_comesBack  M).bind fun q1 =>
  if l6 = (0 : Int32) then
    some ((-2), q1)
  else
    (fX7_tell ((Int32.toInt64 ((wr q1 158 4 0).1 158 14))) (wr q1 158 4 0)).bind fun q3 =>
    some ((l5 - 1), q3)
set_option maxRecDepth 100000 in
theorem tX7_leastBy_89 (a1 : Int32) (a2 : Int32) (a3 : Int32) (a4 : Int32) (l5 : Int32) (l6 : Int32) (M : zMM) (q : Int32 × zMM) (h : fX7_leastBy_89 a1 a2 a3 a4 l5 l6 M = some q) : zEV iX7_leastBy 0 0 (zZO (some (.inl q.1), q.2)) 89 [(0, .inr (.inr 158)), (5, .inl l5), (6, .inl l6)] [] M := by
  unfold fX7_leastBy_89 at h
  refine zEV.aload_n dX7_leastBy_89 rfl 0 rfl ?_
  obtain ⟨q1, hq1, h⟩ := bind_yes h
  refine zEV.callVv (kX7_comesBack   M q1 hq1) (by decide) rfl rfl wm_RX7_237 wc_X7_comesBack hy_X7_comesBack rfl ⟨Nat.le_of_ble_eq_true rfl, Nat.le_of_ble_eq_true rfl⟩ rfl (Nat.le_of_ble_eq_true rfl) dX7_leastBy_90 ?_
  refine zEV.iload dX7_leastBy_93 2 rfl ?_
  refine zEV.if_ne 101 dX7_leastBy_95 (by decide) (fun c2 => ?_) (fun c2 => ?_)
  · rw [if_neg c2] at h
    refine zEV.aload_n dX7_leastBy_101 rfl 0 rfl ?_
    refine zEV.iconst (v := 0) dX7_leastBy_102 rfl ?_
    refine zEV.pfi rfl inz7 tyX7 tyX7_ok nmX7 4 (by decide) wf_RX7_62 rfl (by decide +kernel) (by decide) rfl rfl dX7_leastBy_103 ?_
    refine zEV.aload_n dX7_leastBy_106 rfl 0 rfl ?_
    refine zEV.aload_n dX7_leastBy_107 rfl 0 rfl ?_
    refine zEV.gfi rfl inz7 14 (by decide) wf_RX7_154 (by decide) rfl rfl dX7_leastBy_108 ?_
    refine zEV.i2l dX7_leastBy_111 ?_
    obtain ⟨q3, hq3, h⟩ := bind_yes h
    refine zEV.callVv (kX7_tell ((Int32.toInt64 ((wr q1 158 4 0).1 158 14)))  (wr q1 158 4 0) q3 hq3) (by decide) rfl rfl wm_RX7_135 wc_X7_tell hy_X7_tell rfl ⟨Nat.le_of_ble_eq_true rfl, Nat.le_of_ble_eq_true rfl⟩ rfl (Nat.le_of_ble_eq_true rfl) dX7_leastBy_112 ?_
    refine zEV.iload dX7_leastBy_115 1 rfl ?_
    refine zEV.iconst (v := 1) dX7_leastBy_117 rfl ?_
    refine zEV.isub dX7_leastBy_118 ?_
    have h := Option.some.inj h
    subst h
    exact zEV.iret rfl dX7_leastBy_119
  · rw [if_pos c2] at h
    refine zEV.bipush (v := (-2)) dX7_leastBy_98 rfl ?_
    have h := Option.some.inj h
    subst h
    exact zEV.iret rfl dX7_leastBy_100
def fX7_leastBy_81 (K10 : Int32 → Int32 → zMM → Option (Int32 × zMM)) (a1 : Int32) (a2 : Int32) (a3 : Int32) (a4 : Int32) (l5 : Int32) (s0 : Int32) (M : zMM) : Option (Int32 × zMM) :=
  K10 ((l5 + 1)) (s0) M
set_option maxRecDepth 100000 in
theorem tX7_leastBy_81 (K10 : Int32 → Int32 → zMM → Option (Int32 × zMM)) (a1 : Int32) (a2 : Int32) (a3 : Int32) (a4 : Int32) (hK10 : ∀ (l5 : Int32) (l6 : Int32) (M : zMM) (q : Int32 × zMM), K10 l5 l6 M = some q → zEV iX7_leastBy 0 0 (zZO (some (.inl q.1), q.2)) 10 [(0, .inr (.inr 158)), (1, .inl a1), (3, .inl a3), (4, .inl a4), (5, .inl l5), (6, .inl l6)] [] M) (l5 : Int32) (s0 : Int32) (M : zMM) (q : Int32 × zMM) (h : fX7_leastBy_81 K10 a1 a2 a3 a4 l5 s0 M = some q) : zEV iX7_leastBy 0 0 (zZO (some (.inl q.1), q.2)) 81 [(0, .inr (.inr 158)), (1, .inl a1), (3, .inl a3), (4, .inl a4), (5, .inl l5)] [.inl s0] M := by
  unfold fX7_leastBy_81 at h
  refine zEV.istore dX7_leastBy_81 (Nat.le_of_ble_eq_true rfl) rfl ?_
  refine zEV.iinc (v := (l5 + 1)) dX7_leastBy_83 5 rfl rfl (Nat.le_of_ble_eq_true rfl) rfl ?_
  refine zEV.goto 10 dX7_leastBy_86 (by decide) ?_
  exact zEV.perm [2, 3, 4, 5, 0, 1] rfl (hK10 ((l5 + 1)) (s0) M q h)
def fX7_leastBy_80 (K10 : Int32 → Int32 → zMM → Option (Int32 × zMM)) (a1 : Int32) (a2 : Int32) (a3 : Int32) (a4 : Int32) (l5 : Int32) (M : zMM) : Option (Int32 × zMM) :=
  fX7_leastBy_81 K10 a1 a2 a3 a4 (l5) (0) M
set_option maxRecDepth 100000 in
theorem tX7_leastBy_80 (K10 : Int32 → Int32 → zMM → Option (Int32 × zMM)) (a1 : Int32) (a2 : Int32) (a3 : Int32) (a4 : Int32) (hK10 : ∀ (l5 : Int32) (l6 : Int32) (M : zMM) (q : Int32 × zMM), K10 l5 l6 M = some q → zEV iX7_leastBy 0 0 (zZO (some (.inl q.1), q.2)) 10 [(0, .inr (.inr 158)), (1, .inl a1), (3, .inl a3), (4, .inl a4), (5, .inl l5), (6, .inl l6)] [] M) (l5 : Int32) (M : zMM) (q : Int32 × zMM) (h : fX7_leastBy_80 K10 a1 a2 a3 a4 l5 M = some q) : zEV iX7_leastBy 0 0 (zZO (some (.inl q.1), q.2)) 80 [(0, .inr (.inr 158)), (1, .inl a1), (3, .inl a3), (4, .inl a4), (5, .inl l5)] [] M := by
  unfold fX7_leastBy_80 at h
  refine zEV.iconst (v := 0) dX7_leastBy_80 rfl ?_
  exact zEV.perm [0, 1, 2, 3, 4] rfl (tX7_leastBy_81 K10 a1 a2 a3 a4 hK10 (l5) (0) M q h)
def fX7_leastBy_62 (K10 : Int32 → Int32 → zMM → Option (Int32 × zMM)) (a1 : Int32) (a2 : Int32) (a3 : Int32) (a4 : Int32) (l5 : Int32) (l6 : Int32) (M : zMM) : Option (Int32 × zMM) :=
  if l6 = (0 : Int32) then
    fX7_leastBy_80 K10 a1 a2 a3 a4 (l5) M
  else
    if a4 < (M.1 158 14) then
      fX7_leastBy_80 K10 a1 a2 a3 a4 (l5) M
    else
      fX7_leastBy_81 K10 a1 a2 a3 a4 (l5) (1) M
set_option maxRecDepth 100000 in
theorem tX7_leastBy_62 (K10 : Int32 → Int32 → zMM → Option (Int32 × zMM)) (a1 : Int32) (a2 : Int32) (a3 : Int32) (a4 : Int32) (hK10 : ∀ (l5 : Int32) (l6 : Int32) (M : zMM) (q : Int32 × zMM), K10 l5 l6 M = some q → zEV iX7_leastBy 0 0 (zZO (some (.inl q.1), q.2)) 10 [(0, .inr (.inr 158)), (1, .inl a1), (3, .inl a3), (4, .inl a4), (5, .inl l5), (6, .inl l6)] [] M) (l5 : Int32) (l6 : Int32) (M : zMM) (q : Int32 × zMM) (h : fX7_leastBy_62 K10 a1 a2 a3 a4 l5 l6 M = some q) : zEV iX7_leastBy 0 0 (zZO (some (.inl q.1), q.2)) 62 [(0, .inr (.inr 158)), (1, .inl a1), (3, .inl a3), (4, .inl a4), (5, .inl l5), (6, .inl l6)] [] M := by
  unfold fX7_leastBy_62 at h
  refine zEV.iload dX7_leastBy_62 5 rfl ?_
  refine zEV.if_eq 80 dX7_leastBy_64 (by decide) (fun c1 => ?_) (fun c1 => ?_)
  · rw [if_pos c1] at h
    exact zEV.perm [0, 1, 2, 3, 4] rfl (tX7_leastBy_80 K10 a1 a2 a3 a4 hK10 (l5) M q h)
  · rw [if_neg c1] at h
    refine zEV.aload_n dX7_leastBy_67 rfl 0 rfl ?_
    refine zEV.gfi rfl inz7 14 (by decide) wf_RX7_154 (by decide) rfl rfl dX7_leastBy_68 ?_
    refine zEV.iload dX7_leastBy_71 3 rfl ?_
    refine zEV.icmp_gt 80 dX7_leastBy_73 (by decide) (fun c2 => ?_) (fun c2 => ?_)
    · rw [if_pos c2] at h
      exact zEV.perm [0, 1, 2, 3, 4] rfl (tX7_leastBy_80 K10 a1 a2 a3 a4 hK10 (l5) M q h)
    · rw [if_neg c2] at h
      refine zEV.iconst (v := 1) dX7_leastBy_76 rfl ?_
      refine zEV.goto 81 dX7_leastBy_77 (by decide) ?_
      exact zEV.perm [0, 1, 2, 3, 4] rfl (tX7_leastBy_81 K10 a1 a2 a3 a4 hK10 (l5) (1) M q h)
def fX7_leastBy_10 (a1 : Int32) (a2 : Int32) (a3 : Int32) (a4 : Int32) : Nat → Int32 → Int32 → zMM → Option (Int32 × zMM)
  | 0, _, _, _ => none
  | n + 1, l5, l6, M =>
  if a3 < l5 then
    fX7_leastBy_89 a1 a2 a3 a4 (l5) (l6) M
  else
    if l6 = (0 : Int32) then
      if oob (a1) 259 then none else
      (fX7_canBe (((wr M 159 (Int32.toNatClampNeg a1) l5).1 159 2)) (((wr M 159 (Int32.toNatClampNeg a1) l5).1 159 3)) (((wr M 159 (Int32.toNatClampNeg a1) l5).1 159 4)) (wr M 159 (Int32.toNatClampNeg a1) l5)).bind fun q4 =>
      if q4.1 = (0 : Int32) then
        fX7_leastBy_62 (fX7_leastBy_10 a1 a2 a3 a4 n) a1 a2 a3 a4 (l5) (q4.1) q4.2
      else
        (fX7_set  q4.2).bind fun q6 =>
        fX7_leastBy_62 (fX7_leastBy_10 a1 a2 a3 a4 n) a1 a2 a3 a4 (l5) (q4.1) q6
    else
      fX7_leastBy_89 a1 a2 a3 a4 (l5) (l6) M
set_option maxRecDepth 100000 in
theorem tX7_leastBy_10 (a1 : Int32) (a2 : Int32) (a3 : Int32) (a4 : Int32) : ∀ (n : Nat) (l5 : Int32) (l6 : Int32) (M : zMM) (q : Int32 × zMM), fX7_leastBy_10 a1 a2 a3 a4 n l5 l6 M = some q → zEV iX7_leastBy 0 0 (zZO (some (.inl q.1), q.2)) 10 [(0, .inr (.inr 158)), (1, .inl a1), (3, .inl a3), (4, .inl a4), (5, .inl l5), (6, .inl l6)] [] M := by
  intro n
  induction n with
  | zero =>
    intro l5 l6 M q h
    rw [fX7_leastBy_10] at h
    cases h
  | succ n ih =>
    intro l5 l6 M q h
    rw [fX7_leastBy_10] at h
    refine zEV.iload dX7_leastBy_10 4 rfl ?_
    refine zEV.iload_n dX7_leastBy_12 rfl 2 rfl ?_
    refine zEV.icmp_gt 89 dX7_leastBy_13 (by decide) (fun c1 => ?_) (fun c1 => ?_)
    · rw [if_pos c1] at h
      exact zEV.perm [0, 4, 5] rfl (tX7_leastBy_89 a1 a2 a3 a4 (l5) (l6) M q h)
    · rw [if_neg c1] at h
      refine zEV.iload dX7_leastBy_16 5 rfl ?_
      refine zEV.if_ne 89 dX7_leastBy_18 (by decide) (fun c2 => ?_) (fun c2 => ?_)
      · rw [if_neg c2] at h
        exact zEV.perm [0, 4, 5] rfl (tX7_leastBy_89 a1 a2 a3 a4 (l5) (l6) M q h)
      · rw [if_pos c2] at h
        refine zEV.aload_n dX7_leastBy_21 rfl 0 rfl ?_
        refine zEV.gfr rfl inz7 0 (by decide) wf_RX7_9 (by decide) rfl rfl dX7_leastBy_22 ?_
        refine zEV.iload_n dX7_leastBy_25 rfl 1 rfl ?_
        refine zEV.iload dX7_leastBy_26 4 rfl ?_
        obtain ⟨g3, h⟩ := ite_no h
        refine zEV.iast (by decide) rfl g3 dX7_leastBy_28 ?_
        refine zEV.aload_n dX7_leastBy_29 rfl 0 rfl ?_
        refine zEV.aload_n dX7_leastBy_30 rfl 0 rfl ?_
        refine zEV.gfr rfl inz7 0 (by decide) wf_RX7_9 (by decide) rfl rfl dX7_leastBy_31 ?_
        refine zEV.iconst (v := 2) dX7_leastBy_34 rfl ?_
        refine zEV.ialdL (j := 2) (by decide) rfl (by decide) (by decide) dX7_leastBy_35 ?_
        refine zEV.aload_n dX7_leastBy_36 rfl 0 rfl ?_
        refine zEV.gfr rfl inz7 0 (by decide) wf_RX7_9 (by decide) rfl rfl dX7_leastBy_37 ?_
        refine zEV.iconst (v := 3) dX7_leastBy_40 rfl ?_
        refine zEV.ialdL (j := 3) (by decide) rfl (by decide) (by decide) dX7_leastBy_41 ?_
        refine zEV.aload_n dX7_leastBy_42 rfl 0 rfl ?_
        refine zEV.gfr rfl inz7 0 (by decide) wf_RX7_9 (by decide) rfl rfl dX7_leastBy_43 ?_
        refine zEV.iconst (v := 4) dX7_leastBy_46 rfl ?_
        refine zEV.ialdL (j := 4) (by decide) rfl (by decide) (by decide) dX7_leastBy_47 ?_
        obtain ⟨q4, hq4, h⟩ := bind_yes h
        refine zEV.callVi (kX7_canBe (((wr M 159 (Int32.toNatClampNeg a1) l5).1 159 2)) (((wr M 159 (Int32.toNatClampNeg a1) l5).1 159 3)) (((wr M 159 (Int32.toNatClampNeg a1) l5).1 159 4))  (wr M 159 (Int32.toNatClampNeg a1) l5) q4 hq4) (by decide) rfl rfl wm_RX7_227 wc_X7_canBe hy_X7_canBe rfl ⟨Nat.le_of_ble_eq_true rfl, Nat.le_of_ble_eq_true rfl⟩ rfl (Nat.le_of_ble_eq_true rfl) dX7_leastBy_48 ?_
        refine zEV.istore dX7_leastBy_51 (Nat.le_of_ble_eq_true rfl) rfl ?_
        refine zEV.iload dX7_leastBy_53 0 rfl ?_
        refine zEV.if_eq 62 dX7_leastBy_55 (by decide) (fun c5 => ?_) (fun c5 => ?_)
        · rw [if_pos c5] at h
          exact zEV.perm [1, 2, 3, 4, 5, 0] rfl (tX7_leastBy_62 (fX7_leastBy_10 a1 a2 a3 a4 n) a1 a2 a3 a4 (fun l5 l6 M9 q9 h9 => ih l5 l6 M9 q9 h9) (l5) (q4.1) q4.2 q h)
        · rw [if_neg c5] at h
          refine zEV.aload_n dX7_leastBy_58 rfl 1 rfl ?_
          obtain ⟨q6, hq6, h⟩ := bind_yes h
          refine zEV.callVv (kX7_set   q4.2 q6 hq6) (by decide) rfl rfl wm_RX7_164 wc_X7_set hy_X7_set rfl ⟨Nat.le_of_ble_eq_true rfl, Nat.le_of_ble_eq_true rfl⟩ rfl (Nat.le_of_ble_eq_true rfl) dX7_leastBy_59 ?_
          exact zEV.perm [1, 2, 3, 4, 5, 0] rfl (tX7_leastBy_62 (fX7_leastBy_10 a1 a2 a3 a4 n) a1 a2 a3 a4 (fun l5 l6 M9 q9 h9 => ih l5 l6 M9 q9 h9) (l5) (q4.1) q6 q h)
def fX7_leastBy (a1 : Int32) (a2 : Int32) (a3 : Int32) (a4 : Int32) (M : zMM) : Option (Int32 × zMM) :=
  (fX7_layAside  M).bind fun q1 =>
  fX7_leastBy_10 a1 a2 a3 a4 zFU (a2) (0) q1
set_option maxRecDepth 100000 in
theorem tX7_leastBy_0 (a1 : Int32) (a2 : Int32) (a3 : Int32) (a4 : Int32) (M : zMM) (q : Int32 × zMM) (h : fX7_leastBy a1 a2 a3 a4  M = some q) : zEV iX7_leastBy 0 0 (zZO (some (.inl q.1), q.2)) 0 [(0, .inr (.inr 158)), (1, .inl a1), (2, .inl a2), (3, .inl a3), (4, .inl a4)] [] M := by
  unfold fX7_leastBy at h
  refine zEV.aload_n dX7_leastBy_0 rfl 0 rfl ?_
  obtain ⟨q1, hq1, h⟩ := bind_yes h
  refine zEV.callVv (kX7_layAside   M q1 hq1) (by decide) rfl rfl wm_RX7_230 wc_X7_layAside hy_X7_layAside rfl ⟨Nat.le_of_ble_eq_true rfl, Nat.le_of_ble_eq_true rfl⟩ rfl (Nat.le_of_ble_eq_true rfl) dX7_leastBy_1 ?_
  refine zEV.iload_n dX7_leastBy_4 rfl 2 rfl ?_
  refine zEV.istore dX7_leastBy_5 (Nat.le_of_ble_eq_true rfl) rfl ?_
  refine zEV.iconst (v := 0) dX7_leastBy_7 rfl ?_
  refine zEV.istore dX7_leastBy_8 (Nat.le_of_ble_eq_true rfl) rfl ?_
  exact zEV.perm [2, 3, 5, 6, 1, 0] rfl (tX7_leastBy_10 a1 a2 a3 a4 zFU (a2) (0) q1 q h)
theorem kX7_leastBy (a1 : Int32) (a2 : Int32) (a3 : Int32) (a4 : Int32) (M : zMM) (q : Int32 × zMM) (h : fX7_leastBy a1 a2 a3 a4 M = some q) : zCN yX7_leastBy iX7_leastBy [.inr (.inr 158), .inl a1, .inl a2, .inl a3, .inl a4] M (some (.inl q.1), q.2) :=
  zCN.of (by decide) rfl rfl (Nat.le_of_ble_eq_true rfl) (zEV.perm [0, 1, 2, 3, 4] rfl (tX7_leastBy_0 a1 a2 a3 a4 M q h))
-- RingedPageModel.narrow
def fX7_narrow (a1 : Int32) (M : zMM) : Option (Int32 × zMM) :=
  (fX7_in (a1) (1) (9) (wr M 158 5 0)).bind fun q1 =>
  if q1.1 = (0 : Int32) then
    some ((-1), q1.2)
  else
    (fX7_leastBy (0) (29) (60) (a1) q1.2).bind fun q3 =>
    some (q3.1, q3.2)
set_option maxRecDepth 100000 in
theorem tX7_narrow_0 (a1 : Int32) (M : zMM) (q : Int32 × zMM) (h : fX7_narrow a1  M = some q) : zEV iX7_narrow 0 0 (zZO (some (.inl q.1), q.2)) 0 [(0, .inr (.inr 158)), (1, .inl a1)] [] M := by
  unfold fX7_narrow at h
  refine zEV.aload_n dX7_narrow_0 rfl 0 rfl ?_
  refine zEV.iconst (v := 0) dX7_narrow_1 rfl ?_
  refine zEV.pfi rfl inz7 tyX7 tyX7_ok nmX7 5 (by decide) wf_RX7_58 rfl (by decide +kernel) (by decide) rfl rfl dX7_narrow_2 ?_
  refine zEV.iload_n dX7_narrow_5 rfl 1 rfl ?_
  refine zEV.iconst (v := 1) dX7_narrow_6 rfl ?_
  refine zEV.bipush (v := 9) dX7_narrow_7 rfl ?_
  obtain ⟨q1, hq1, h⟩ := bind_yes h
  refine zEV.callSi (kX7_in (a1) (1) (9)  (wr M 158 5 0) q1 hq1) wm_RX7_65 wc_X7_in hy_X7_in rfl ⟨Nat.le_of_ble_eq_true rfl, Nat.le_of_ble_eq_true rfl⟩ rfl (Nat.le_of_ble_eq_true rfl) dX7_narrow_9 ?_
  refine zEV.if_eq 28 dX7_narrow_12 (by decide) (fun c2 => ?_) (fun c2 => ?_)
  · rw [if_pos c2] at h
    refine zEV.iconst (v := (-1)) dX7_narrow_28 rfl ?_
    have h := Option.some.inj h
    subst h
    exact zEV.iret rfl dX7_narrow_29
  · rw [if_neg c2] at h
    refine zEV.aload_n dX7_narrow_15 rfl 0 rfl ?_
    refine zEV.iconst (v := 0) dX7_narrow_16 rfl ?_
    refine zEV.bipush (v := 29) dX7_narrow_17 rfl ?_
    refine zEV.bipush (v := 60) dX7_narrow_19 rfl ?_
    refine zEV.iload_n dX7_narrow_21 rfl 1 rfl ?_
    obtain ⟨q3, hq3, h⟩ := bind_yes h
    refine zEV.callVi (kX7_leastBy (0) (29) (60) (a1)  q1.2 q3 hq3) (by decide) rfl rfl wm_RX7_261 wc_X7_leastBy hy_X7_leastBy rfl ⟨Nat.le_of_ble_eq_true rfl, Nat.le_of_ble_eq_true rfl⟩ rfl (Nat.le_of_ble_eq_true rfl) dX7_narrow_22 ?_
    refine zEV.goto 29 dX7_narrow_25 (by decide) ?_
    have h := Option.some.inj h
    subst h
    exact zEV.iret rfl dX7_narrow_29
theorem kX7_narrow (a1 : Int32) (M : zMM) (q : Int32 × zMM) (h : fX7_narrow a1 M = some q) : zCN yX7_narrow iX7_narrow [.inr (.inr 158), .inl a1] M (some (.inl q.1), q.2) :=
  zCN.of (by decide) rfl rfl (Nat.le_of_ble_eq_true rfl) (zEV.perm [0, 1] rfl (tX7_narrow_0 a1 M q h))
-- RingedPageModel.low
def fX7_low (a1 : Int32) (M : zMM) : Option (Int32 × zMM) :=
  (fX7_in (a1) (1) (9) (wr M 158 5 0)).bind fun q1 =>
  if q1.1 = (0 : Int32) then
    some ((-1), q1.2)
  else
    (fX7_leastBy (1) (3) (40) (a1) q1.2).bind fun q3 =>
    some (q3.1, q3.2)
set_option maxRecDepth 100000 in
theorem tX7_low_0 (a1 : Int32) (M : zMM) (q : Int32 × zMM) (h : fX7_low a1  M = some q) : zEV iX7_low 0 0 (zZO (some (.inl q.1), q.2)) 0 [(0, .inr (.inr 158)), (1, .inl a1)] [] M := by
  unfold fX7_low at h
  refine zEV.aload_n dX7_low_0 rfl 0 rfl ?_
  refine zEV.iconst (v := 0) dX7_low_1 rfl ?_
  refine zEV.pfi rfl inz7 tyX7 tyX7_ok nmX7 5 (by decide) wf_RX7_58 rfl (by decide +kernel) (by decide) rfl rfl dX7_low_2 ?_
  refine zEV.iload_n dX7_low_5 rfl 1 rfl ?_
  refine zEV.iconst (v := 1) dX7_low_6 rfl ?_
  refine zEV.bipush (v := 9) dX7_low_7 rfl ?_
  obtain ⟨q1, hq1, h⟩ := bind_yes h
  refine zEV.callSi (kX7_in (a1) (1) (9)  (wr M 158 5 0) q1 hq1) wm_RX7_65 wc_X7_in hy_X7_in rfl ⟨Nat.le_of_ble_eq_true rfl, Nat.le_of_ble_eq_true rfl⟩ rfl (Nat.le_of_ble_eq_true rfl) dX7_low_9 ?_
  refine zEV.if_eq 27 dX7_low_12 (by decide) (fun c2 => ?_) (fun c2 => ?_)
  · rw [if_pos c2] at h
    refine zEV.iconst (v := (-1)) dX7_low_27 rfl ?_
    have h := Option.some.inj h
    subst h
    exact zEV.iret rfl dX7_low_28
  · rw [if_neg c2] at h
    refine zEV.aload_n dX7_low_15 rfl 0 rfl ?_
    refine zEV.iconst (v := 1) dX7_low_16 rfl ?_
    refine zEV.iconst (v := 3) dX7_low_17 rfl ?_
    refine zEV.bipush (v := 40) dX7_low_18 rfl ?_
    refine zEV.iload_n dX7_low_20 rfl 1 rfl ?_
    obtain ⟨q3, hq3, h⟩ := bind_yes h
    refine zEV.callVi (kX7_leastBy (1) (3) (40) (a1)  q1.2 q3 hq3) (by decide) rfl rfl wm_RX7_261 wc_X7_leastBy hy_X7_leastBy rfl ⟨Nat.le_of_ble_eq_true rfl, Nat.le_of_ble_eq_true rfl⟩ rfl (Nat.le_of_ble_eq_true rfl) dX7_low_21 ?_
    refine zEV.goto 28 dX7_low_24 (by decide) ?_
    have h := Option.some.inj h
    subst h
    exact zEV.iret rfl dX7_low_28
theorem kX7_low (a1 : Int32) (M : zMM) (q : Int32 × zMM) (h : fX7_low a1 M = some q) : zCN yX7_low iX7_low [.inr (.inr 158), .inl a1] M (some (.inl q.1), q.2) :=
  zCN.of (by decide) rfl rfl (Nat.le_of_ble_eq_true rfl) (zEV.perm [0, 1] rfl (tX7_low_0 a1 M q h))
-- RingedPageModel.shiftTies
def fX7_shiftTies_73 (K3 : Int32 → zMM → Option (zMM)) (a1 : Int32) (a2 : Int32) (a3 : Int32) (l4 : Int32) (M : zMM) : Option (zMM) :=
  K3 ((l4 + 1)) M
set_option maxRecDepth 100000 in
theorem tX7_shiftTies_73 (K3 : Int32 → zMM → Option (zMM)) (a1 : Int32) (a2 : Int32) (a3 : Int32) (hK3 : ∀ (l4 : Int32) (M : zMM) (q : zMM), K3 l4 M = some q → zEV iX7_shiftTies 0 0 (zZO (none, q)) 3 [(0, .inr (.inr 158)), (1, .inl a1), (2, .inl a2), (3, .inl a3), (4, .inl l4)] [] M) (l4 : Int32) (M : zMM) (q : zMM) (h : fX7_shiftTies_73 K3 a1 a2 a3 l4 M = some q) : zEV iX7_shiftTies 0 0 (zZO (none, q)) 73 [(0, .inr (.inr 158)), (1, .inl a1), (2, .inl a2), (3, .inl a3), (4, .inl l4)] [] M := by
  unfold fX7_shiftTies_73 at h
  refine zEV.iinc (v := (l4 + 1)) dX7_shiftTies_73 4 rfl rfl (Nat.le_of_ble_eq_true rfl) rfl ?_
  refine zEV.goto 3 dX7_shiftTies_76 (by decide) ?_
  exact zEV.perm [1, 2, 3, 4, 0] rfl (hK3 ((l4 + 1)) M q h)
def fX7_shiftTies_51 (K3 : Int32 → zMM → Option (zMM)) (a1 : Int32) (a2 : Int32) (a3 : Int32) (l4 : Int32) (l5 : Int32) (M : zMM) : Option (zMM) :=
  if oob (l5) 259 then none else
  if (M.1 159 (Int32.toNatClampNeg l5)) < a2 then
    fX7_shiftTies_73 K3 a1 a2 a3 (l4) M
  else
    fX7_shiftTies_73 K3 a1 a2 a3 (l4) (wr M 159 (Int32.toNatClampNeg l5) ((M.1 159 (Int32.toNatClampNeg l5)) + a3))
set_option maxRecDepth 100000 in
theorem tX7_shiftTies_51 (K3 : Int32 → zMM → Option (zMM)) (a1 : Int32) (a2 : Int32) (a3 : Int32) (hK3 : ∀ (l4 : Int32) (M : zMM) (q : zMM), K3 l4 M = some q → zEV iX7_shiftTies 0 0 (zZO (none, q)) 3 [(0, .inr (.inr 158)), (1, .inl a1), (2, .inl a2), (3, .inl a3), (4, .inl l4)] [] M) (l4 : Int32) (l5 : Int32) (M : zMM) (q : zMM) (h : fX7_shiftTies_51 K3 a1 a2 a3 l4 l5 M = some q) : zEV iX7_shiftTies 0 0 (zZO (none, q)) 51 [(0, .inr (.inr 158)), (1, .inl a1), (2, .inl a2), (3, .inl a3), (4, .inl l4), (5, .inl l5)] [] M := by
  unfold fX7_shiftTies_51 at h
  refine zEV.aload_n dX7_shiftTies_51 rfl 0 rfl ?_
  refine zEV.gfr rfl inz7 0 (by decide) wf_RX7_9 (by decide) rfl rfl dX7_shiftTies_52 ?_
  refine zEV.iload dX7_shiftTies_55 5 rfl ?_
  obtain ⟨g1, h⟩ := ite_no h
  refine zEV.iald (by decide) rfl g1 dX7_shiftTies_57 ?_
  refine zEV.iload_n dX7_shiftTies_58 rfl 2 rfl ?_
  refine zEV.icmp_lt 73 dX7_shiftTies_59 (by decide) (fun c2 => ?_) (fun c2 => ?_)
  · rw [if_pos c2] at h
    exact zEV.perm [0, 1, 2, 3, 4] rfl (tX7_shiftTies_73 K3 a1 a2 a3 hK3 (l4) M q h)
  · rw [if_neg c2] at h
    refine zEV.aload_n dX7_shiftTies_62 rfl 0 rfl ?_
    refine zEV.gfr rfl inz7 0 (by decide) wf_RX7_9 (by decide) rfl rfl dX7_shiftTies_63 ?_
    refine zEV.iload dX7_shiftTies_66 5 rfl ?_
    refine zEV.dup2 dX7_shiftTies_68 rfl rfl ?_
    refine zEV.iald (by decide) rfl g1 dX7_shiftTies_69 ?_
    refine zEV.iload_n dX7_shiftTies_70 rfl 3 rfl ?_
    refine zEV.iadd dX7_shiftTies_71 ?_
    refine zEV.iast (by decide) rfl g1 dX7_shiftTies_72 ?_
    exact zEV.perm [0, 1, 2, 3, 4] rfl (tX7_shiftTies_73 K3 a1 a2 a3 hK3 (l4) (wr M 159 (Int32.toNatClampNeg l5) ((M.1 159 (Int32.toNatClampNeg l5)) + a3)) q h)
def fX7_shiftTies_33 (K3 : Int32 → zMM → Option (zMM)) (a1 : Int32) (a2 : Int32) (a3 : Int32) (l4 : Int32) (s0 : Int32) (s1 : Int32) (M : zMM) : Option (zMM) :=
  if a1 = (0 : Int32) then
    fX7_shiftTies_51 K3 a1 a2 a3 (l4) ((s1 + s0)) M
  else
    (fX7_tied (l4) (0) M).bind fun q2 =>
    if q2.1 = a1 then
      fX7_shiftTies_51 K3 a1 a2 a3 (l4) ((s1 + s0)) q2.2
    else
      fX7_shiftTies_73 K3 a1 a2 a3 (l4) q2.2
set_option maxRecDepth 100000 in
theorem tX7_shiftTies_33 (K3 : Int32 → zMM → Option (zMM)) (a1 : Int32) (a2 : Int32) (a3 : Int32) (hK3 : ∀ (l4 : Int32) (M : zMM) (q : zMM), K3 l4 M = some q → zEV iX7_shiftTies 0 0 (zZO (none, q)) 3 [(0, .inr (.inr 158)), (1, .inl a1), (2, .inl a2), (3, .inl a3), (4, .inl l4)] [] M) (l4 : Int32) (s0 : Int32) (s1 : Int32) (M : zMM) (q : zMM) (h : fX7_shiftTies_33 K3 a1 a2 a3 l4 s0 s1 M = some q) : zEV iX7_shiftTies 0 0 (zZO (none, q)) 33 [(0, .inr (.inr 158)), (1, .inl a1), (2, .inl a2), (3, .inl a3), (4, .inl l4)] [.inl s0, .inl s1] M := by
  unfold fX7_shiftTies_33 at h
  refine zEV.iadd dX7_shiftTies_33 ?_
  refine zEV.istore dX7_shiftTies_34 (Nat.le_of_ble_eq_true rfl) rfl ?_
  refine zEV.iload_n dX7_shiftTies_36 rfl 2 rfl ?_
  refine zEV.if_eq 51 dX7_shiftTies_37 (by decide) (fun c1 => ?_) (fun c1 => ?_)
  · rw [if_pos c1] at h
    exact zEV.perm [1, 2, 3, 4, 5, 0] rfl (tX7_shiftTies_51 K3 a1 a2 a3 hK3 (l4) ((s1 + s0)) M q h)
  · rw [if_neg c1] at h
    refine zEV.aload_n dX7_shiftTies_40 rfl 1 rfl ?_
    refine zEV.iload dX7_shiftTies_41 5 rfl ?_
    refine zEV.iconst (v := 0) dX7_shiftTies_43 rfl ?_
    obtain ⟨q2, hq2, h⟩ := bind_yes h
    refine zEV.callVi (kX7_tied (l4) (0)  M q2 hq2) (by decide) rfl rfl wm_RX7_110 wc_X7_tied hy_X7_tied rfl ⟨Nat.le_of_ble_eq_true rfl, Nat.le_of_ble_eq_true rfl⟩ rfl (Nat.le_of_ble_eq_true rfl) dX7_shiftTies_44 ?_
    refine zEV.iload_n dX7_shiftTies_47 rfl 2 rfl ?_
    refine zEV.icmp_ne 73 dX7_shiftTies_48 (by decide) (fun c3 => ?_) (fun c3 => ?_)
    · rw [if_neg c3] at h
      exact zEV.perm [1, 2, 3, 4, 5] rfl (tX7_shiftTies_73 K3 a1 a2 a3 hK3 (l4) q2.2 q h)
    · rw [if_pos c3] at h
      exact zEV.perm [1, 2, 3, 4, 5, 0] rfl (tX7_shiftTies_51 K3 a1 a2 a3 hK3 (l4) ((s1 + s0)) q2.2 q h)
def fX7_shiftTies_3 (a1 : Int32) (a2 : Int32) (a3 : Int32) : Nat → Int32 → zMM → Option (zMM)
  | 0, _, _ => none
  | n + 1, l4, M =>
  if (M.1 159 218) ≤ l4 then
    some M
  else
    if a1 = (0 : Int32) then
      fX7_shiftTies_33 (fX7_shiftTies_3 a1 a2 a3 n) a1 a2 a3 (l4) (2) ((219 + (3 * l4))) M
    else
      fX7_shiftTies_33 (fX7_shiftTies_3 a1 a2 a3 n) a1 a2 a3 (l4) (1) ((219 + (3 * l4))) M
set_option maxRecDepth 100000 in
theorem tX7_shiftTies_3 (a1 : Int32) (a2 : Int32) (a3 : Int32) : ∀ (n : Nat) (l4 : Int32) (M : zMM) (q : zMM), fX7_shiftTies_3 a1 a2 a3 n l4 M = some q → zEV iX7_shiftTies 0 0 (zZO (none, q)) 3 [(0, .inr (.inr 158)), (1, .inl a1), (2, .inl a2), (3, .inl a3), (4, .inl l4)] [] M := by
  intro n
  induction n with
  | zero =>
    intro l4 M q h
    rw [fX7_shiftTies_3] at h
    cases h
  | succ n ih =>
    intro l4 M q h
    rw [fX7_shiftTies_3] at h
    refine zEV.iload dX7_shiftTies_3 4 rfl ?_
    refine zEV.aload_n dX7_shiftTies_5 rfl 0 rfl ?_
    refine zEV.gfr rfl inz7 0 (by decide) wf_RX7_9 (by decide) rfl rfl dX7_shiftTies_6 ?_
    refine zEV.sipush (v := 218) dX7_shiftTies_9 rfl ?_
    refine zEV.ialdL (j := 218) (by decide) rfl (by decide) (by decide) dX7_shiftTies_12 ?_
    refine zEV.icmp_ge 79 dX7_shiftTies_13 (by decide) (fun c1 => ?_) (fun c1 => ?_)
    · rw [if_pos c1] at h
      have h := Option.some.inj h
      subst h
      exact zEV.vret rfl dX7_shiftTies_79
    · rw [if_neg c1] at h
      refine zEV.sipush (v := 219) dX7_shiftTies_16 rfl ?_
      refine zEV.iconst (v := 3) dX7_shiftTies_19 rfl ?_
      refine zEV.iload dX7_shiftTies_20 4 rfl ?_
      refine zEV.imul dX7_shiftTies_22 ?_
      refine zEV.iadd dX7_shiftTies_23 ?_
      refine zEV.iload_n dX7_shiftTies_24 rfl 1 rfl ?_
      refine zEV.if_ne 32 dX7_shiftTies_25 (by decide) (fun c2 => ?_) (fun c2 => ?_)
      · rw [if_neg c2] at h
        refine zEV.iconst (v := 1) dX7_shiftTies_32 rfl ?_
        exact zEV.perm [0, 1, 2, 3, 4] rfl (tX7_shiftTies_33 (fX7_shiftTies_3 a1 a2 a3 n) a1 a2 a3 (fun l4 M9 q9 h9 => ih l4 M9 q9 h9) (l4) (1) ((219 + (3 * l4))) M q h)
      · rw [if_pos c2] at h
        refine zEV.iconst (v := 2) dX7_shiftTies_28 rfl ?_
        refine zEV.goto 33 dX7_shiftTies_29 (by decide) ?_
        exact zEV.perm [0, 1, 2, 3, 4] rfl (tX7_shiftTies_33 (fX7_shiftTies_3 a1 a2 a3 n) a1 a2 a3 (fun l4 M9 q9 h9 => ih l4 M9 q9 h9) (l4) (2) ((219 + (3 * l4))) M q h)
def fX7_shiftTies (a1 : Int32) (a2 : Int32) (a3 : Int32) (M : zMM) : Option (zMM) :=
  fX7_shiftTies_3 a1 a2 a3 zFU (0) M
set_option maxRecDepth 100000 in
theorem tX7_shiftTies_0 (a1 : Int32) (a2 : Int32) (a3 : Int32) (M : zMM) (q : zMM) (h : fX7_shiftTies a1 a2 a3  M = some q) : zEV iX7_shiftTies 0 0 (zZO (none, q)) 0 [(0, .inr (.inr 158)), (1, .inl a1), (2, .inl a2), (3, .inl a3)] [] M := by
  unfold fX7_shiftTies at h
  refine zEV.iconst (v := 0) dX7_shiftTies_0 rfl ?_
  refine zEV.istore dX7_shiftTies_1 (Nat.le_of_ble_eq_true rfl) rfl ?_
  exact zEV.perm [1, 2, 3, 4, 0] rfl (tX7_shiftTies_3 a1 a2 a3 zFU (0) M q h)
theorem kX7_shiftTies (a1 : Int32) (a2 : Int32) (a3 : Int32) (M : zMM) (q : zMM) (h : fX7_shiftTies a1 a2 a3 M = some q) : zCN yX7_shiftTies iX7_shiftTies [.inr (.inr 158), .inl a1, .inl a2, .inl a3] M (none, q) :=
  zCN.of (by decide) rfl rfl (Nat.le_of_ble_eq_true rfl) (zEV.perm [0, 1, 2, 3] rfl (tX7_shiftTies_0 a1 a2 a3 M q h))
-- RingedPageModel.put
def fX7_put_10 (a1 : Int32) (a2 : Int32) (a3 : Int32) : Nat → Int32 → zMM → Option (zMM)
  | 0, _, _ => none
  | n + 1, l4, M =>
  if l4 ≤ a2 then
    if oob (((8 + (70 * a1)) + a2)) 259 then none else
    if oob ((5 + a1)) 259 then none else
    (fX7_shiftTies (a1) (a2) (1) (wr (wr M 159 (Int32.toNatClampNeg ((8 + (70 * a1)) + a2)) a3) 159 (Int32.toNatClampNeg (5 + a1)) (((wr M 159 (Int32.toNatClampNeg ((8 + (70 * a1)) + a2)) a3).1 159 (Int32.toNatClampNeg (5 + a1))) + 1))).bind fun q4 =>
    some q4
  else
    if oob ((((8 + (70 * a1)) + l4) - 1)) 259 then none else
    if oob (((8 + (70 * a1)) + l4)) 259 then none else
    fX7_put_10 a1 a2 a3 n ((l4 + (-1))) (wr M 159 (Int32.toNatClampNeg ((8 + (70 * a1)) + l4)) (M.1 159 (Int32.toNatClampNeg (((8 + (70 * a1)) + l4) - 1))))
set_option maxRecDepth 100000 in
theorem tX7_put_10 (a1 : Int32) (a2 : Int32) (a3 : Int32) : ∀ (n : Nat) (l4 : Int32) (M : zMM) (q : zMM), fX7_put_10 a1 a2 a3 n l4 M = some q → zEV iX7_put 0 0 (zZO (none, q)) 10 [(0, .inr (.inr 158)), (1, .inl a1), (2, .inl a2), (3, .inl a3), (4, .inl l4)] [] M := by
  intro n
  induction n with
  | zero =>
    intro l4 M q h
    rw [fX7_put_10] at h
    cases h
  | succ n ih =>
    intro l4 M q h
    rw [fX7_put_10] at h
    refine zEV.iload dX7_put_10 4 rfl ?_
    refine zEV.iload_n dX7_put_12 rfl 2 rfl ?_
    refine zEV.icmp_le 54 dX7_put_13 (by decide) (fun c1 => ?_) (fun c1 => ?_)
    · rw [if_pos c1] at h
      refine zEV.aload_n dX7_put_54 rfl 0 rfl ?_
      refine zEV.gfr rfl inz7 0 (by decide) wf_RX7_9 (by decide) rfl rfl dX7_put_55 ?_
      refine zEV.bipush (v := 8) dX7_put_58 rfl ?_
      refine zEV.bipush (v := 70) dX7_put_60 rfl ?_
      refine zEV.iload_n dX7_put_62 rfl 1 rfl ?_
      refine zEV.imul dX7_put_63 ?_
      refine zEV.iadd dX7_put_64 ?_
      refine zEV.iload_n dX7_put_65 rfl 2 rfl ?_
      refine zEV.iadd dX7_put_66 ?_
      refine zEV.iload_n dX7_put_67 rfl 3 rfl ?_
      obtain ⟨g2, h⟩ := ite_no h
      refine zEV.iast (by decide) rfl g2 dX7_put_68 ?_
      refine zEV.aload_n dX7_put_69 rfl 0 rfl ?_
      refine zEV.gfr rfl inz7 0 (by decide) wf_RX7_9 (by decide) rfl rfl dX7_put_70 ?_
      refine zEV.iconst (v := 5) dX7_put_73 rfl ?_
      refine zEV.iload_n dX7_put_74 rfl 1 rfl ?_
      refine zEV.iadd dX7_put_75 ?_
      refine zEV.dup2 dX7_put_76 rfl rfl ?_
      obtain ⟨g3, h⟩ := ite_no h
      refine zEV.iald (by decide) rfl g3 dX7_put_77 ?_
      refine zEV.iconst (v := 1) dX7_put_78 rfl ?_
      refine zEV.iadd dX7_put_79 ?_
      refine zEV.iast (by decide) rfl g3 dX7_put_80 ?_
      refine zEV.aload_n dX7_put_81 rfl 0 rfl ?_
      refine zEV.iload_n dX7_put_82 rfl 1 rfl ?_
      refine zEV.iload_n dX7_put_83 rfl 2 rfl ?_
      refine zEV.iconst (v := 1) dX7_put_84 rfl ?_
      obtain ⟨q4, hq4, h⟩ := bind_yes h
      refine zEV.callVv (kX7_shiftTies (a1) (a2) (1)  (wr (wr M 159 (Int32.toNatClampNeg ((8 + (70 * a1)) + a2)) a3) 159 (Int32.toNatClampNeg (5 + a1)) (((wr M 159 (Int32.toNatClampNeg ((8 + (70 * a1)) + a2)) a3).1 159 (Int32.toNatClampNeg (5 + a1))) + 1)) q4 hq4) (by decide) rfl rfl wm_RX7_264 wc_X7_shiftTies hy_X7_shiftTies rfl ⟨Nat.le_of_ble_eq_true rfl, Nat.le_of_ble_eq_true rfl⟩ rfl (Nat.le_of_ble_eq_true rfl) dX7_put_85 ?_
      have h := Option.some.inj h
      subst h
      exact zEV.vret rfl dX7_put_88
    · rw [if_neg c1] at h
      refine zEV.aload_n dX7_put_16 rfl 0 rfl ?_
      refine zEV.gfr rfl inz7 0 (by decide) wf_RX7_9 (by decide) rfl rfl dX7_put_17 ?_
      refine zEV.bipush (v := 8) dX7_put_20 rfl ?_
      refine zEV.bipush (v := 70) dX7_put_22 rfl ?_
      refine zEV.iload_n dX7_put_24 rfl 1 rfl ?_
      refine zEV.imul dX7_put_25 ?_
      refine zEV.iadd dX7_put_26 ?_
      refine zEV.iload dX7_put_27 4 rfl ?_
      refine zEV.iadd dX7_put_29 ?_
      refine zEV.aload_n dX7_put_30 rfl 0 rfl ?_
      refine zEV.gfr rfl inz7 0 (by decide) wf_RX7_9 (by decide) rfl rfl dX7_put_31 ?_
      refine zEV.bipush (v := 8) dX7_put_34 rfl ?_
      refine zEV.bipush (v := 70) dX7_put_36 rfl ?_
      refine zEV.iload_n dX7_put_38 rfl 1 rfl ?_
      refine zEV.imul dX7_put_39 ?_
      refine zEV.iadd dX7_put_40 ?_
      refine zEV.iload dX7_put_41 4 rfl ?_
      refine zEV.iadd dX7_put_43 ?_
      refine zEV.iconst (v := 1) dX7_put_44 rfl ?_
      refine zEV.isub dX7_put_45 ?_
      obtain ⟨g5, h⟩ := ite_no h
      refine zEV.iald (by decide) rfl g5 dX7_put_46 ?_
      obtain ⟨g6, h⟩ := ite_no h
      refine zEV.iast (by decide) rfl g6 dX7_put_47 ?_
      refine zEV.iinc (v := (l4 + (-1))) dX7_put_48 4 rfl rfl (Nat.le_of_ble_eq_true rfl) rfl ?_
      refine zEV.goto 10 dX7_put_51 (by decide) ?_
      exact zEV.perm [1, 2, 3, 4, 0] rfl (ih ((l4 + (-1))) (wr M 159 (Int32.toNatClampNeg ((8 + (70 * a1)) + l4)) (M.1 159 (Int32.toNatClampNeg (((8 + (70 * a1)) + l4) - 1)))) q h)
def fX7_put (a1 : Int32) (a2 : Int32) (a3 : Int32) (M : zMM) : Option (zMM) :=
  if oob ((5 + a1)) 259 then none else
  fX7_put_10 a1 a2 a3 zFU ((M.1 159 (Int32.toNatClampNeg (5 + a1)))) M
set_option maxRecDepth 100000 in
theorem tX7_put_0 (a1 : Int32) (a2 : Int32) (a3 : Int32) (M : zMM) (q : zMM) (h : fX7_put a1 a2 a3  M = some q) : zEV iX7_put 0 0 (zZO (none, q)) 0 [(0, .inr (.inr 158)), (1, .inl a1), (2, .inl a2), (3, .inl a3)] [] M := by
  unfold fX7_put at h
  refine zEV.aload_n dX7_put_0 rfl 0 rfl ?_
  refine zEV.gfr rfl inz7 0 (by decide) wf_RX7_9 (by decide) rfl rfl dX7_put_1 ?_
  refine zEV.iconst (v := 5) dX7_put_4 rfl ?_
  refine zEV.iload_n dX7_put_5 rfl 1 rfl ?_
  refine zEV.iadd dX7_put_6 ?_
  obtain ⟨g1, h⟩ := ite_no h
  refine zEV.iald (by decide) rfl g1 dX7_put_7 ?_
  refine zEV.istore dX7_put_8 (Nat.le_of_ble_eq_true rfl) rfl ?_
  exact zEV.perm [1, 2, 3, 4, 0] rfl (tX7_put_10 a1 a2 a3 zFU ((M.1 159 (Int32.toNatClampNeg (5 + a1)))) M q h)
theorem kX7_put (a1 : Int32) (a2 : Int32) (a3 : Int32) (M : zMM) (q : zMM) (h : fX7_put a1 a2 a3 M = some q) : zCN yX7_put iX7_put [.inr (.inr 158), .inl a1, .inl a2, .inl a3] M (none, q) :=
  zCN.of (by decide) rfl rfl (Nat.le_of_ble_eq_true rfl) (zEV.perm [0, 1, 2, 3] rfl (tX7_put_0 a1 a2 a3 M q h))
