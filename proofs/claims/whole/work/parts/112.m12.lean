-- RingedPageModel.drop
def fX7_drop_77 (a1 : Int32) (a2 : Int32) : Nat → Int32 → zMM → Option (zMM)
  | 0, _, _ => none
  | n + 1, l3, M =>
  if oob ((5 + a1)) 259 then none else
  if (M.1 159 (Int32.toNatClampNeg (5 + a1))) ≤ l3 then
    if oob (((8 + (70 * a1)) + (M.1 159 (Int32.toNatClampNeg (5 + a1))))) 259 then none else
    (fX7_shiftTies (a1) (a2) ((-1)) (wr M 159 (Int32.toNatClampNeg ((8 + (70 * a1)) + (M.1 159 (Int32.toNatClampNeg (5 + a1))))) 0)).bind fun q4 =>
    some q4
  else
    if oob ((((8 + (70 * a1)) + l3) + 1)) 259 then none else
    if oob (((8 + (70 * a1)) + l3)) 259 then none else
    fX7_drop_77 a1 a2 n ((l3 + 1)) (wr M 159 (Int32.toNatClampNeg ((8 + (70 * a1)) + l3)) (M.1 159 (Int32.toNatClampNeg (((8 + (70 * a1)) + l3) + 1))))
set_option maxRecDepth 100000 in
theorem tX7_drop_77 (a1 : Int32) (a2 : Int32) : ∀ (n : Nat) (l3 : Int32) (M : zMM) (q : zMM), fX7_drop_77 a1 a2 n l3 M = some q → zEV iX7_drop 0 0 (zZO (none, q)) 77 [(0, .inr (.inr 158)), (1, .inl a1), (2, .inl a2), (3, .inl l3)] [] M := by
  intro n
  induction n with
  | zero =>
    intro l3 M q h
    rw [fX7_drop_77] at h
    cases h
  | succ n ih =>
    intro l3 M q h
    rw [fX7_drop_77] at h
    refine zEV.iload_n dX7_drop_77 rfl 3 rfl ?_
    refine zEV.aload_n dX7_drop_78 rfl 0 rfl ?_
    refine zEV.gfr rfl inz7 0 (by decide) wf_RX7_9 (by decide) rfl rfl dX7_drop_79 ?_
    refine zEV.iconst (v := 5) dX7_drop_82 rfl ?_
    refine zEV.iload_n dX7_drop_83 rfl 1 rfl ?_
    refine zEV.iadd dX7_drop_84 ?_
    obtain ⟨g1, h⟩ := ite_no h
    refine zEV.iald (by decide) rfl g1 dX7_drop_85 ?_
    refine zEV.icmp_ge 125 dX7_drop_86 (by decide) (fun c2 => ?_) (fun c2 => ?_)
    · rw [if_pos c2] at h
      refine zEV.aload_n dX7_drop_125 rfl 0 rfl ?_
      refine zEV.gfr rfl inz7 0 (by decide) wf_RX7_9 (by decide) rfl rfl dX7_drop_126 ?_
      refine zEV.bipush (v := 8) dX7_drop_129 rfl ?_
      refine zEV.bipush (v := 70) dX7_drop_131 rfl ?_
      refine zEV.iload_n dX7_drop_133 rfl 1 rfl ?_
      refine zEV.imul dX7_drop_134 ?_
      refine zEV.iadd dX7_drop_135 ?_
      refine zEV.aload_n dX7_drop_136 rfl 0 rfl ?_
      refine zEV.gfr rfl inz7 0 (by decide) wf_RX7_9 (by decide) rfl rfl dX7_drop_137 ?_
      refine zEV.iconst (v := 5) dX7_drop_140 rfl ?_
      refine zEV.iload_n dX7_drop_141 rfl 1 rfl ?_
      refine zEV.iadd dX7_drop_142 ?_
      refine zEV.iald (by decide) rfl g1 dX7_drop_143 ?_
      refine zEV.iadd dX7_drop_144 ?_
      refine zEV.iconst (v := 0) dX7_drop_145 rfl ?_
      obtain ⟨g3, h⟩ := ite_no h
      refine zEV.iast (by decide) rfl g3 dX7_drop_146 ?_
      refine zEV.aload_n dX7_drop_147 rfl 0 rfl ?_
      refine zEV.iload_n dX7_drop_148 rfl 1 rfl ?_
      refine zEV.iload_n dX7_drop_149 rfl 2 rfl ?_
      refine zEV.iconst (v := (-1)) dX7_drop_150 rfl ?_
      obtain ⟨q4, hq4, h⟩ := bind_yes h
      refine zEV.callVv (kX7_shiftTies (a1) (a2) ((-1))  (wr M 159 (Int32.toNatClampNeg ((8 + (70 * a1)) + (M.1 159 (Int32.toNatClampNeg (5 + a1))))) 0) q4 hq4) (by decide) rfl rfl wm_RX7_264 wc_X7_shiftTies hy_X7_shiftTies rfl ⟨Nat.le_of_ble_eq_true rfl, Nat.le_of_ble_eq_true rfl⟩ rfl (Nat.le_of_ble_eq_true rfl) dX7_drop_151 ?_
      have h := Option.some.inj h
      subst h
      exact zEV.vret rfl dX7_drop_154
    · rw [if_neg c2] at h
      refine zEV.aload_n dX7_drop_89 rfl 0 rfl ?_
      refine zEV.gfr rfl inz7 0 (by decide) wf_RX7_9 (by decide) rfl rfl dX7_drop_90 ?_
      refine zEV.bipush (v := 8) dX7_drop_93 rfl ?_
      refine zEV.bipush (v := 70) dX7_drop_95 rfl ?_
      refine zEV.iload_n dX7_drop_97 rfl 1 rfl ?_
      refine zEV.imul dX7_drop_98 ?_
      refine zEV.iadd dX7_drop_99 ?_
      refine zEV.iload_n dX7_drop_100 rfl 3 rfl ?_
      refine zEV.iadd dX7_drop_101 ?_
      refine zEV.aload_n dX7_drop_102 rfl 0 rfl ?_
      refine zEV.gfr rfl inz7 0 (by decide) wf_RX7_9 (by decide) rfl rfl dX7_drop_103 ?_
      refine zEV.bipush (v := 8) dX7_drop_106 rfl ?_
      refine zEV.bipush (v := 70) dX7_drop_108 rfl ?_
      refine zEV.iload_n dX7_drop_110 rfl 1 rfl ?_
      refine zEV.imul dX7_drop_111 ?_
      refine zEV.iadd dX7_drop_112 ?_
      refine zEV.iload_n dX7_drop_113 rfl 3 rfl ?_
      refine zEV.iadd dX7_drop_114 ?_
      refine zEV.iconst (v := 1) dX7_drop_115 rfl ?_
      refine zEV.iadd dX7_drop_116 ?_
      obtain ⟨g5, h⟩ := ite_no h
      refine zEV.iald (by decide) rfl g5 dX7_drop_117 ?_
      obtain ⟨g6, h⟩ := ite_no h
      refine zEV.iast (by decide) rfl g6 dX7_drop_118 ?_
      refine zEV.iinc (v := (l3 + 1)) dX7_drop_119 3 rfl rfl (Nat.le_of_ble_eq_true rfl) rfl ?_
      refine zEV.goto 77 dX7_drop_122 (by decide) ?_
      exact zEV.perm [1, 2, 3, 0] rfl (ih ((l3 + 1)) (wr M 159 (Int32.toNatClampNeg ((8 + (70 * a1)) + l3)) (M.1 159 (Int32.toNatClampNeg (((8 + (70 * a1)) + l3) + 1)))) q h)
def fX7_drop_57 (K11 : Int32 → zMM → Option (zMM)) (a1 : Int32) (a2 : Int32) (l3 : Int32) (M : zMM) : Option (zMM) :=
  K11 ((l3 + (-1))) M
set_option maxRecDepth 100000 in
theorem tX7_drop_57 (K11 : Int32 → zMM → Option (zMM)) (a1 : Int32) (a2 : Int32) (hK11 : ∀ (l3 : Int32) (M : zMM) (q : zMM), K11 l3 M = some q → zEV iX7_drop 0 0 (zZO (none, q)) 11 [(0, .inr (.inr 158)), (1, .inl a1), (2, .inl a2), (3, .inl l3)] [] M) (l3 : Int32) (M : zMM) (q : zMM) (h : fX7_drop_57 K11 a1 a2 l3 M = some q) : zEV iX7_drop 0 0 (zZO (none, q)) 57 [(0, .inr (.inr 158)), (1, .inl a1), (2, .inl a2), (3, .inl l3)] [] M := by
  unfold fX7_drop_57 at h
  refine zEV.iinc (v := (l3 + (-1))) dX7_drop_57 3 rfl rfl (Nat.le_of_ble_eq_true rfl) rfl ?_
  refine zEV.goto 11 dX7_drop_60 (by decide) ?_
  exact zEV.perm [1, 2, 3, 0] rfl (hK11 ((l3 + (-1))) M q h)
def fX7_drop_52 (K11 : Int32 → zMM → Option (zMM)) (a1 : Int32) (a2 : Int32) (l3 : Int32) (M : zMM) : Option (zMM) :=
  (fX7_untie (l3) M).bind fun q1 =>
  fX7_drop_57 K11 a1 a2 (l3) q1
set_option maxRecDepth 100000 in
theorem tX7_drop_52 (K11 : Int32 → zMM → Option (zMM)) (a1 : Int32) (a2 : Int32) (hK11 : ∀ (l3 : Int32) (M : zMM) (q : zMM), K11 l3 M = some q → zEV iX7_drop 0 0 (zZO (none, q)) 11 [(0, .inr (.inr 158)), (1, .inl a1), (2, .inl a2), (3, .inl l3)] [] M) (l3 : Int32) (M : zMM) (q : zMM) (h : fX7_drop_52 K11 a1 a2 l3 M = some q) : zEV iX7_drop 0 0 (zZO (none, q)) 52 [(0, .inr (.inr 158)), (1, .inl a1), (2, .inl a2), (3, .inl l3)] [] M := by
  unfold fX7_drop_52 at h
  refine zEV.aload_n dX7_drop_52 rfl 0 rfl ?_
  refine zEV.iload_n dX7_drop_53 rfl 3 rfl ?_
  obtain ⟨q1, hq1, h⟩ := bind_yes h
  refine zEV.callVv (kX7_untie (l3)  M q1 hq1) (by decide) rfl rfl wm_RX7_114 wc_X7_untie hy_X7_untie rfl ⟨Nat.le_of_ble_eq_true rfl, Nat.le_of_ble_eq_true rfl⟩ rfl (Nat.le_of_ble_eq_true rfl) dX7_drop_54 ?_
  exact zEV.perm [0, 1, 2, 3] rfl (tX7_drop_57 K11 a1 a2 hK11 (l3) q1 q h)
def fX7_drop_11 (a1 : Int32) (a2 : Int32) : Nat → Int32 → zMM → Option (zMM)
  | 0, _, _ => none
  | n + 1, l3, M =>
  if l3 < (0 : Int32) then
    if oob ((5 + a1)) 259 then none else
    fX7_drop_77 a1 a2 zFU (a2) (wr M 159 (Int32.toNatClampNeg (5 + a1)) ((M.1 159 (Int32.toNatClampNeg (5 + a1))) - 1))
  else
    if a1 = (0 : Int32) then
      (fX7_tied (l3) (2) M).bind fun q8 =>
      if q8.1 = a2 then
        fX7_drop_52 (fX7_drop_11 a1 a2 n) a1 a2 (l3) q8.2
      else
        fX7_drop_57 (fX7_drop_11 a1 a2 n) a1 a2 (l3) q8.2
    else
      (fX7_tied (l3) (0) M).bind fun q4 =>
      if q4.1 = a1 then
        (fX7_tied (l3) (1) q4.2).bind fun q6 =>
        if q6.1 = a2 then
          fX7_drop_52 (fX7_drop_11 a1 a2 n) a1 a2 (l3) q6.2
        else
          fX7_drop_57 (fX7_drop_11 a1 a2 n) a1 a2 (l3) q6.2
      else
        fX7_drop_57 (fX7_drop_11 a1 a2 n) a1 a2 (l3) q4.2
set_option maxRecDepth 100000 in
theorem tX7_drop_11 (a1 : Int32) (a2 : Int32) : ∀ (n : Nat) (l3 : Int32) (M : zMM) (q : zMM), fX7_drop_11 a1 a2 n l3 M = some q → zEV iX7_drop 0 0 (zZO (none, q)) 11 [(0, .inr (.inr 158)), (1, .inl a1), (2, .inl a2), (3, .inl l3)] [] M := by
  intro n
  induction n with
  | zero =>
    intro l3 M q h
    rw [fX7_drop_11] at h
    cases h
  | succ n ih =>
    intro l3 M q h
    rw [fX7_drop_11] at h
    refine zEV.iload_n dX7_drop_11 rfl 3 rfl ?_
    refine zEV.if_lt 63 dX7_drop_12 (by decide) (fun c1 => ?_) (fun c1 => ?_)
    · rw [if_pos c1] at h
      refine zEV.aload_n dX7_drop_63 rfl 0 rfl ?_
      refine zEV.gfr rfl inz7 0 (by decide) wf_RX7_9 (by decide) rfl rfl dX7_drop_64 ?_
      refine zEV.iconst (v := 5) dX7_drop_67 rfl ?_
      refine zEV.iload_n dX7_drop_68 rfl 1 rfl ?_
      refine zEV.iadd dX7_drop_69 ?_
      refine zEV.dup2 dX7_drop_70 rfl rfl ?_
      obtain ⟨g2, h⟩ := ite_no h
      refine zEV.iald (by decide) rfl g2 dX7_drop_71 ?_
      refine zEV.iconst (v := 1) dX7_drop_72 rfl ?_
      refine zEV.isub dX7_drop_73 ?_
      refine zEV.iast (by decide) rfl g2 dX7_drop_74 ?_
      refine zEV.iload_n dX7_drop_75 rfl 2 rfl ?_
      refine zEV.istore_n dX7_drop_76 rfl (Nat.le_of_ble_eq_true rfl) rfl ?_
      exact zEV.perm [1, 2, 3, 0] rfl (tX7_drop_77 a1 a2 zFU (a2) (wr M 159 (Int32.toNatClampNeg (5 + a1)) ((M.1 159 (Int32.toNatClampNeg (5 + a1))) - 1)) q h)
    · rw [if_neg c1] at h
      refine zEV.iload_n dX7_drop_15 rfl 1 rfl ?_
      refine zEV.if_ne 32 dX7_drop_16 (by decide) (fun c3 => ?_) (fun c3 => ?_)
      · rw [if_neg c3] at h
        refine zEV.aload_n dX7_drop_32 rfl 0 rfl ?_
        refine zEV.iload_n dX7_drop_33 rfl 3 rfl ?_
        refine zEV.iconst (v := 0) dX7_drop_34 rfl ?_
        obtain ⟨q4, hq4, h⟩ := bind_yes h
        refine zEV.callVi (kX7_tied (l3) (0)  M q4 hq4) (by decide) rfl rfl wm_RX7_110 wc_X7_tied hy_X7_tied rfl ⟨Nat.le_of_ble_eq_true rfl, Nat.le_of_ble_eq_true rfl⟩ rfl (Nat.le_of_ble_eq_true rfl) dX7_drop_35 ?_
        refine zEV.iload_n dX7_drop_38 rfl 1 rfl ?_
        refine zEV.icmp_ne 57 dX7_drop_39 (by decide) (fun c5 => ?_) (fun c5 => ?_)
        · rw [if_neg c5] at h
          exact zEV.perm [0, 1, 2, 3] rfl (tX7_drop_57 (fX7_drop_11 a1 a2 n) a1 a2 (fun l3 M9 q9 h9 => ih l3 M9 q9 h9) (l3) q4.2 q h)
        · rw [if_pos c5] at h
          refine zEV.aload_n dX7_drop_42 rfl 0 rfl ?_
          refine zEV.iload_n dX7_drop_43 rfl 3 rfl ?_
          refine zEV.iconst (v := 1) dX7_drop_44 rfl ?_
          obtain ⟨q6, hq6, h⟩ := bind_yes h
          refine zEV.callVi (kX7_tied (l3) (1)  q4.2 q6 hq6) (by decide) rfl rfl wm_RX7_110 wc_X7_tied hy_X7_tied rfl ⟨Nat.le_of_ble_eq_true rfl, Nat.le_of_ble_eq_true rfl⟩ rfl (Nat.le_of_ble_eq_true rfl) dX7_drop_45 ?_
          refine zEV.iload_n dX7_drop_48 rfl 2 rfl ?_
          refine zEV.icmp_ne 57 dX7_drop_49 (by decide) (fun c7 => ?_) (fun c7 => ?_)
          · rw [if_neg c7] at h
            exact zEV.perm [0, 1, 2, 3] rfl (tX7_drop_57 (fX7_drop_11 a1 a2 n) a1 a2 (fun l3 M9 q9 h9 => ih l3 M9 q9 h9) (l3) q6.2 q h)
          · rw [if_pos c7] at h
            exact zEV.perm [0, 1, 2, 3] rfl (tX7_drop_52 (fX7_drop_11 a1 a2 n) a1 a2 (fun l3 M9 q9 h9 => ih l3 M9 q9 h9) (l3) q6.2 q h)
      · rw [if_pos c3] at h
        refine zEV.aload_n dX7_drop_19 rfl 0 rfl ?_
        refine zEV.iload_n dX7_drop_20 rfl 3 rfl ?_
        refine zEV.iconst (v := 2) dX7_drop_21 rfl ?_
        obtain ⟨q8, hq8, h⟩ := bind_yes h
        refine zEV.callVi (kX7_tied (l3) (2)  M q8 hq8) (by decide) rfl rfl wm_RX7_110 wc_X7_tied hy_X7_tied rfl ⟨Nat.le_of_ble_eq_true rfl, Nat.le_of_ble_eq_true rfl⟩ rfl (Nat.le_of_ble_eq_true rfl) dX7_drop_22 ?_
        refine zEV.iload_n dX7_drop_25 rfl 2 rfl ?_
        refine zEV.icmp_ne 57 dX7_drop_26 (by decide) (fun c9 => ?_) (fun c9 => ?_)
        · rw [if_neg c9] at h
          exact zEV.perm [0, 1, 2, 3] rfl (tX7_drop_57 (fX7_drop_11 a1 a2 n) a1 a2 (fun l3 M9 q9 h9 => ih l3 M9 q9 h9) (l3) q8.2 q h)
        · rw [if_pos c9] at h
          refine zEV.goto 52 dX7_drop_29 (by decide) ?_
          exact zEV.perm [0, 1, 2, 3] rfl (tX7_drop_52 (fX7_drop_11 a1 a2 n) a1 a2 (fun l3 M9 q9 h9 => ih l3 M9 q9 h9) (l3) q8.2 q h)
def fX7_drop (a1 : Int32) (a2 : Int32) (M : zMM) : Option (zMM) :=
  fX7_drop_11 a1 a2 zFU (((M.1 159 218) - 1)) M
set_option maxRecDepth 100000 in
theorem tX7_drop_0 (a1 : Int32) (a2 : Int32) (M : zMM) (q : zMM) (h : fX7_drop a1 a2  M = some q) : zEV iX7_drop 0 0 (zZO (none, q)) 0 [(0, .inr (.inr 158)), (1, .inl a1), (2, .inl a2)] [] M := by
  unfold fX7_drop at h
  refine zEV.aload_n dX7_drop_0 rfl 0 rfl ?_
  refine zEV.gfr rfl inz7 0 (by decide) wf_RX7_9 (by decide) rfl rfl dX7_drop_1 ?_
  refine zEV.sipush (v := 218) dX7_drop_4 rfl ?_
  refine zEV.ialdL (j := 218) (by decide) rfl (by decide) (by decide) dX7_drop_7 ?_
  refine zEV.iconst (v := 1) dX7_drop_8 rfl ?_
  refine zEV.isub dX7_drop_9 ?_
  refine zEV.istore_n dX7_drop_10 rfl (Nat.le_of_ble_eq_true rfl) rfl ?_
  exact zEV.perm [1, 2, 3, 0] rfl (tX7_drop_11 a1 a2 zFU (((M.1 159 218) - 1)) M q h)
theorem kX7_drop (a1 : Int32) (a2 : Int32) (M : zMM) (q : zMM) (h : fX7_drop a1 a2 M = some q) : zCN yX7_drop iX7_drop [.inr (.inr 158), .inl a1, .inl a2] M (none, q) :=
  zCN.of (by decide) rfl rfl (Nat.le_of_ble_eq_true rfl) (zEV.perm [0, 1, 2] rfl (tX7_drop_0 a1 a2 M q h))
-- RingedPageModel.refusesWord
def fX7_refusesWord (a1 : Int32) (a2 : Int32) (a3 : Int32) (M : zMM) : Option (Int32 × zMM) :=
  (fX7_isText (a1) M).bind fun q1 =>
  if q1.1 = (0 : Int32) then
    some ((-1), q1.2)
  else
    if oob ((5 + a1)) 259 then none else
    (fX7_in (a2) (0) ((q1.2.1 159 (Int32.toNatClampNeg (5 + a1)))) q1.2).bind fun q4 =>
    if q4.1 = (0 : Int32) then
      some ((-1), q4.2)
    else
      (fX7_in (a3) (1) (9) q4.2).bind fun q6 =>
      if q6.1 = (0 : Int32) then
        some ((-1), q6.2)
      else
        if (q6.2.1 159 (Int32.toNatClampNeg (5 + a1))) = 70 then
          some ((-3), q6.2)
        else
          some (0, q6.2)
set_option maxRecDepth 100000 in
theorem tX7_refusesWord_0 (a1 : Int32) (a2 : Int32) (a3 : Int32) (M : zMM) (q : Int32 × zMM) (h : fX7_refusesWord a1 a2 a3  M = some q) : zEV iX7_refusesWord 0 0 (zZO (some (.inl q.1), q.2)) 0 [(0, .inr (.inr 158)), (1, .inl a1), (2, .inl a2), (3, .inl a3)] [] M := by
  unfold fX7_refusesWord at h
  refine zEV.iload_n dX7_refusesWord_0 rfl 1 rfl ?_
  obtain ⟨q1, hq1, h⟩ := bind_yes h
  refine zEV.callSi (kX7_isText (a1)  M q1 hq1) wm_RX7_69 wc_X7_isText hy_X7_isText rfl ⟨Nat.le_of_ble_eq_true rfl, Nat.le_of_ble_eq_true rfl⟩ rfl (Nat.le_of_ble_eq_true rfl) dX7_refusesWord_1 ?_
  refine zEV.if_eq 33 dX7_refusesWord_4 (by decide) (fun c2 => ?_) (fun c2 => ?_)
  · rw [if_pos c2] at h
    refine zEV.iconst (v := (-1)) dX7_refusesWord_33 rfl ?_
    have h := Option.some.inj h
    subst h
    exact zEV.iret rfl dX7_refusesWord_34
  · rw [if_neg c2] at h
    refine zEV.iload_n dX7_refusesWord_7 rfl 2 rfl ?_
    refine zEV.iconst (v := 0) dX7_refusesWord_8 rfl ?_
    refine zEV.aload_n dX7_refusesWord_9 rfl 0 rfl ?_
    refine zEV.gfr rfl inz7 0 (by decide) wf_RX7_9 (by decide) rfl rfl dX7_refusesWord_10 ?_
    refine zEV.iconst (v := 5) dX7_refusesWord_13 rfl ?_
    refine zEV.iload_n dX7_refusesWord_14 rfl 1 rfl ?_
    refine zEV.iadd dX7_refusesWord_15 ?_
    obtain ⟨g3, h⟩ := ite_no h
    refine zEV.iald (by decide) rfl g3 dX7_refusesWord_16 ?_
    obtain ⟨q4, hq4, h⟩ := bind_yes h
    refine zEV.callSi (kX7_in (a2) (0) ((q1.2.1 159 (Int32.toNatClampNeg (5 + a1))))  q1.2 q4 hq4) wm_RX7_65 wc_X7_in hy_X7_in rfl ⟨Nat.le_of_ble_eq_true rfl, Nat.le_of_ble_eq_true rfl⟩ rfl (Nat.le_of_ble_eq_true rfl) dX7_refusesWord_17 ?_
    refine zEV.if_eq 33 dX7_refusesWord_20 (by decide) (fun c5 => ?_) (fun c5 => ?_)
    · rw [if_pos c5] at h
      refine zEV.iconst (v := (-1)) dX7_refusesWord_33 rfl ?_
      have h := Option.some.inj h
      subst h
      exact zEV.iret rfl dX7_refusesWord_34
    · rw [if_neg c5] at h
      refine zEV.iload_n dX7_refusesWord_23 rfl 3 rfl ?_
      refine zEV.iconst (v := 1) dX7_refusesWord_24 rfl ?_
      refine zEV.bipush (v := 9) dX7_refusesWord_25 rfl ?_
      obtain ⟨q6, hq6, h⟩ := bind_yes h
      refine zEV.callSi (kX7_in (a3) (1) (9)  q4.2 q6 hq6) wm_RX7_65 wc_X7_in hy_X7_in rfl ⟨Nat.le_of_ble_eq_true rfl, Nat.le_of_ble_eq_true rfl⟩ rfl (Nat.le_of_ble_eq_true rfl) dX7_refusesWord_27 ?_
      refine zEV.if_ne 35 dX7_refusesWord_30 (by decide) (fun c7 => ?_) (fun c7 => ?_)
      · rw [if_neg c7] at h
        refine zEV.aload_n dX7_refusesWord_35 rfl 0 rfl ?_
        refine zEV.gfr rfl inz7 0 (by decide) wf_RX7_9 (by decide) rfl rfl dX7_refusesWord_36 ?_
        refine zEV.iconst (v := 5) dX7_refusesWord_39 rfl ?_
        refine zEV.iload_n dX7_refusesWord_40 rfl 1 rfl ?_
        refine zEV.iadd dX7_refusesWord_41 ?_
        refine zEV.iald (by decide) rfl g3 dX7_refusesWord_42 ?_
        refine zEV.bipush (v := 70) dX7_refusesWord_43 rfl ?_
        refine zEV.icmp_ne 53 dX7_refusesWord_45 (by decide) (fun c8 => ?_) (fun c8 => ?_)
        · rw [if_neg c8] at h
          refine zEV.iconst (v := 0) dX7_refusesWord_53 rfl ?_
          have h := Option.some.inj h
          subst h
          exact zEV.iret rfl dX7_refusesWord_54
        · rw [if_pos c8] at h
          refine zEV.bipush (v := (-3)) dX7_refusesWord_48 rfl ?_
          refine zEV.goto 54 dX7_refusesWord_50 (by decide) ?_
          have h := Option.some.inj h
          subst h
          exact zEV.iret rfl dX7_refusesWord_54
      · rw [if_pos c7] at h
        refine zEV.iconst (v := (-1)) dX7_refusesWord_33 rfl ?_
        have h := Option.some.inj h
        subst h
        exact zEV.iret rfl dX7_refusesWord_34
theorem kX7_refusesWord (a1 : Int32) (a2 : Int32) (a3 : Int32) (M : zMM) (q : Int32 × zMM) (h : fX7_refusesWord a1 a2 a3 M = some q) : zCN yX7_refusesWord iX7_refusesWord [.inr (.inr 158), .inl a1, .inl a2, .inl a3] M (some (.inl q.1), q.2) :=
  zCN.of (by decide) rfl rfl (Nat.le_of_ble_eq_true rfl) (zEV.perm [0, 1, 2, 3] rfl (tX7_refusesWord_0 a1 a2 a3 M q h))
-- RingedPageModel.more
def fX7_more (a1 : Int32) (a2 : Int32) (a3 : Int32) (M : zMM) : Option (Int32 × zMM) :=
  (fX7_refusesWord (a1) (a2) (a3) (wr M 158 5 0)).bind fun q1 =>
  if (0 : Int32) ≤ q1.1 then
    (fX7_layAside  q1.2).bind fun q3 =>
    (fX7_put (a1) (a2) (a3) q3).bind fun q4 =>
    (fX7_costNow  q4).bind fun q5 =>
    (fX7_comesBack  q5.2).bind fun q6 =>
    some (q5.1, q6)
  else
    some (q1.1, q1.2)
set_option maxRecDepth 100000 in
theorem tX7_more_0 (a1 : Int32) (a2 : Int32) (a3 : Int32) (M : zMM) (q : Int32 × zMM) (h : fX7_more a1 a2 a3  M = some q) : zEV iX7_more 0 0 (zZO (some (.inl q.1), q.2)) 0 [(0, .inr (.inr 158)), (1, .inl a1), (2, .inl a2), (3, .inl a3)] [] M := by
  unfold fX7_more at h
  refine zEV.aload_n dX7_more_0 rfl 0 rfl ?_
  refine zEV.iconst (v := 0) dX7_more_1 rfl ?_
  refine zEV.pfi rfl inz7 tyX7 tyX7_ok nmX7 5 (by decide) wf_RX7_58 rfl (by decide +kernel) (by decide) rfl rfl dX7_more_2 ?_
  refine zEV.aload_n dX7_more_5 rfl 0 rfl ?_
  refine zEV.iload_n dX7_more_6 rfl 1 rfl ?_
  refine zEV.iload_n dX7_more_7 rfl 2 rfl ?_
  refine zEV.iload_n dX7_more_8 rfl 3 rfl ?_
  obtain ⟨q1, hq1, h⟩ := bind_yes h
  refine zEV.callVi (kX7_refusesWord (a1) (a2) (a3)  (wr M 158 5 0) q1 hq1) (by decide) rfl rfl wm_RX7_267 wc_X7_refusesWord hy_X7_refusesWord rfl ⟨Nat.le_of_ble_eq_true rfl, Nat.le_of_ble_eq_true rfl⟩ rfl (Nat.le_of_ble_eq_true rfl) dX7_more_9 ?_
  refine zEV.istore dX7_more_12 (Nat.le_of_ble_eq_true rfl) rfl ?_
  refine zEV.iload dX7_more_14 0 rfl ?_
  refine zEV.if_ge 22 dX7_more_16 (by decide) (fun c2 => ?_) (fun c2 => ?_)
  · rw [if_pos c2] at h
    refine zEV.aload_n dX7_more_22 rfl 1 rfl ?_
    obtain ⟨q3, hq3, h⟩ := bind_yes h
    refine zEV.callVv (kX7_layAside   q1.2 q3 hq3) (by decide) rfl rfl wm_RX7_230 wc_X7_layAside hy_X7_layAside rfl ⟨Nat.le_of_ble_eq_true rfl, Nat.le_of_ble_eq_true rfl⟩ rfl (Nat.le_of_ble_eq_true rfl) dX7_more_23 ?_
    refine zEV.aload_n dX7_more_26 rfl 1 rfl ?_
    refine zEV.iload_n dX7_more_27 rfl 2 rfl ?_
    refine zEV.iload_n dX7_more_28 rfl 3 rfl ?_
    refine zEV.iload_n dX7_more_29 rfl 4 rfl ?_
    obtain ⟨q4, hq4, h⟩ := bind_yes h
    refine zEV.callVv (kX7_put (a1) (a2) (a3)  q3 q4 hq4) (by decide) rfl rfl wm_RX7_270 wc_X7_put hy_X7_put rfl ⟨Nat.le_of_ble_eq_true rfl, Nat.le_of_ble_eq_true rfl⟩ rfl (Nat.le_of_ble_eq_true rfl) dX7_more_30 ?_
    refine zEV.aload_n dX7_more_33 rfl 1 rfl ?_
    obtain ⟨q5, hq5, h⟩ := bind_yes h
    refine zEV.callVi (kX7_costNow   q4 q5 hq5) (by decide) rfl rfl wm_RX7_217 wc_X7_costNow hy_X7_costNow rfl ⟨Nat.le_of_ble_eq_true rfl, Nat.le_of_ble_eq_true rfl⟩ rfl (Nat.le_of_ble_eq_true rfl) dX7_more_34 ?_
    refine zEV.istore dX7_more_37 (Nat.le_of_ble_eq_true rfl) rfl ?_
    refine zEV.aload_n dX7_more_39 rfl 2 rfl ?_
    obtain ⟨q6, hq6, h⟩ := bind_yes h
    refine zEV.callVv (kX7_comesBack   q5.2 q6 hq6) (by decide) rfl rfl wm_RX7_237 wc_X7_comesBack hy_X7_comesBack rfl ⟨Nat.le_of_ble_eq_true rfl, Nat.le_of_ble_eq_true rfl⟩ rfl (Nat.le_of_ble_eq_true rfl) dX7_more_40 ?_
    refine zEV.iload dX7_more_43 0 rfl ?_
    have h := Option.some.inj h
    subst h
    exact zEV.iret rfl dX7_more_45
  · rw [if_neg c2] at h
    refine zEV.iload dX7_more_19 0 rfl ?_
    have h := Option.some.inj h
    subst h
    exact zEV.iret rfl dX7_more_21
theorem kX7_more (a1 : Int32) (a2 : Int32) (a3 : Int32) (M : zMM) (q : Int32 × zMM) (h : fX7_more a1 a2 a3 M = some q) : zCN yX7_more iX7_more [.inr (.inr 158), .inl a1, .inl a2, .inl a3] M (some (.inl q.1), q.2) :=
  zCN.of (by decide) rfl rfl (Nat.le_of_ble_eq_true rfl) (zEV.perm [0, 1, 2, 3] rfl (tX7_more_0 a1 a2 a3 M q h))
-- RingedPageModel.less
def fX7_less (a1 : Int32) (a2 : Int32) (M : zMM) : Option (Int32 × zMM) :=
  (fX7_isWord (a1) (a2) (wr M 158 5 0)).bind fun q1 =>
  if q1.1 = (0 : Int32) then
    some ((-1), q1.2)
  else
    (fX7_layAside  q1.2).bind fun q3 =>
    (fX7_drop (a1) (a2) q3).bind fun q4 =>
    (fX7_costNow  q4).bind fun q5 =>
    (fX7_comesBack  q5.2).bind fun q6 =>
    some (q5.1, q6)
set_option maxRecDepth 100000 in
theorem tX7_less_0 (a1 : Int32) (a2 : Int32) (M : zMM) (q : Int32 × zMM) (h : fX7_less a1 a2  M = some q) : zEV iX7_less 0 0 (zZO (some (.inl q.1), q.2)) 0 [(0, .inr (.inr 158)), (1, .inl a1), (2, .inl a2)] [] M := by
  unfold fX7_less at h
  refine zEV.aload_n dX7_less_0 rfl 0 rfl ?_
  refine zEV.iconst (v := 0) dX7_less_1 rfl ?_
  refine zEV.pfi rfl inz7 tyX7 tyX7_ok nmX7 5 (by decide) wf_RX7_58 rfl (by decide +kernel) (by decide) rfl rfl dX7_less_2 ?_
  refine zEV.aload_n dX7_less_5 rfl 0 rfl ?_
  refine zEV.iload_n dX7_less_6 rfl 1 rfl ?_
  refine zEV.iload_n dX7_less_7 rfl 2 rfl ?_
  obtain ⟨q1, hq1, h⟩ := bind_yes h
  refine zEV.callVi (kX7_isWord (a1) (a2)  (wr M 158 5 0) q1 hq1) (by decide) rfl rfl wm_RX7_121 wc_X7_isWord hy_X7_isWord rfl ⟨Nat.le_of_ble_eq_true rfl, Nat.le_of_ble_eq_true rfl⟩ rfl (Nat.le_of_ble_eq_true rfl) dX7_less_8 ?_
  refine zEV.if_ne 16 dX7_less_11 (by decide) (fun c2 => ?_) (fun c2 => ?_)
  · rw [if_neg c2] at h
    refine zEV.aload_n dX7_less_16 rfl 0 rfl ?_
    obtain ⟨q3, hq3, h⟩ := bind_yes h
    refine zEV.callVv (kX7_layAside   q1.2 q3 hq3) (by decide) rfl rfl wm_RX7_230 wc_X7_layAside hy_X7_layAside rfl ⟨Nat.le_of_ble_eq_true rfl, Nat.le_of_ble_eq_true rfl⟩ rfl (Nat.le_of_ble_eq_true rfl) dX7_less_17 ?_
    refine zEV.aload_n dX7_less_20 rfl 0 rfl ?_
    refine zEV.iload_n dX7_less_21 rfl 1 rfl ?_
    refine zEV.iload_n dX7_less_22 rfl 2 rfl ?_
    obtain ⟨q4, hq4, h⟩ := bind_yes h
    refine zEV.callVv (kX7_drop (a1) (a2)  q3 q4 hq4) (by decide) rfl rfl wm_RX7_273 wc_X7_drop hy_X7_drop rfl ⟨Nat.le_of_ble_eq_true rfl, Nat.le_of_ble_eq_true rfl⟩ rfl (Nat.le_of_ble_eq_true rfl) dX7_less_23 ?_
    refine zEV.aload_n dX7_less_26 rfl 0 rfl ?_
    obtain ⟨q5, hq5, h⟩ := bind_yes h
    refine zEV.callVi (kX7_costNow   q4 q5 hq5) (by decide) rfl rfl wm_RX7_217 wc_X7_costNow hy_X7_costNow rfl ⟨Nat.le_of_ble_eq_true rfl, Nat.le_of_ble_eq_true rfl⟩ rfl (Nat.le_of_ble_eq_true rfl) dX7_less_27 ?_
    refine zEV.istore_n dX7_less_30 rfl (Nat.le_of_ble_eq_true rfl) rfl ?_
    refine zEV.aload_n dX7_less_31 rfl 1 rfl ?_
    obtain ⟨q6, hq6, h⟩ := bind_yes h
    refine zEV.callVv (kX7_comesBack   q5.2 q6 hq6) (by decide) rfl rfl wm_RX7_237 wc_X7_comesBack hy_X7_comesBack rfl ⟨Nat.le_of_ble_eq_true rfl, Nat.le_of_ble_eq_true rfl⟩ rfl (Nat.le_of_ble_eq_true rfl) dX7_less_32 ?_
    refine zEV.iload_n dX7_less_35 rfl 0 rfl ?_
    have h := Option.some.inj h
    subst h
    exact zEV.iret rfl dX7_less_36
  · rw [if_pos c2] at h
    refine zEV.iconst (v := (-1)) dX7_less_14 rfl ?_
    have h := Option.some.inj h
    subst h
    exact zEV.iret rfl dX7_less_15
theorem kX7_less (a1 : Int32) (a2 : Int32) (M : zMM) (q : Int32 × zMM) (h : fX7_less a1 a2 M = some q) : zCN yX7_less iX7_less [.inr (.inr 158), .inl a1, .inl a2] M (some (.inl q.1), q.2) :=
  zCN.of (by decide) rfl rfl (Nat.le_of_ble_eq_true rfl) (zEV.perm [0, 1, 2] rfl (tX7_less_0 a1 a2 M q h))
-- RingedPageModel.spare
def fX7_spare_114 (a1 : Int32) (l3 : Int32) (M : zMM) : Option (Int32 × zMM) :=
  (fX7_set  M).bind fun q1 =>
  (fX7_apartOf  q1).bind fun q2 =>
  (fX7_comesBack  q2.2).bind fun q3 =>
  (fX7_tell ((Int32.toInt64 q2.1)) (wr q3 158 4 0)).bind fun q4 =>
  some (l3, q4)
set_option maxRecDepth 100000 in
theorem tX7_spare_114 (a1 : Int32) (l3 : Int32) (M : zMM) (q : Int32 × zMM) (h : fX7_spare_114 a1 l3 M = some q) : zEV iX7_spare 0 0 (zZO (some (.inl q.1), q.2)) 114 [(0, .inr (.inr 158)), (3, .inl l3)] [] M := by
  unfold fX7_spare_114 at h
  refine zEV.aload_n dX7_spare_114 rfl 0 rfl ?_
  obtain ⟨q1, hq1, h⟩ := bind_yes h
  refine zEV.callVv (kX7_set   M q1 hq1) (by decide) rfl rfl wm_RX7_164 wc_X7_set hy_X7_set rfl ⟨Nat.le_of_ble_eq_true rfl, Nat.le_of_ble_eq_true rfl⟩ rfl (Nat.le_of_ble_eq_true rfl) dX7_spare_115 ?_
  refine zEV.aload_n dX7_spare_118 rfl 0 rfl ?_
  obtain ⟨q2, hq2, h⟩ := bind_yes h
  refine zEV.callVi (kX7_apartOf   q1 q2 hq2) (by decide) rfl rfl wm_RX7_196 wc_X7_apartOf hy_X7_apartOf rfl ⟨Nat.le_of_ble_eq_true rfl, Nat.le_of_ble_eq_true rfl⟩ rfl (Nat.le_of_ble_eq_true rfl) dX7_spare_119 ?_
  refine zEV.istore dX7_spare_122 (Nat.le_of_ble_eq_true rfl) rfl ?_
  refine zEV.aload_n dX7_spare_124 rfl 1 rfl ?_
  obtain ⟨q3, hq3, h⟩ := bind_yes h
  refine zEV.callVv (kX7_comesBack   q2.2 q3 hq3) (by decide) rfl rfl wm_RX7_237 wc_X7_comesBack hy_X7_comesBack rfl ⟨Nat.le_of_ble_eq_true rfl, Nat.le_of_ble_eq_true rfl⟩ rfl (Nat.le_of_ble_eq_true rfl) dX7_spare_125 ?_
  refine zEV.aload_n dX7_spare_128 rfl 1 rfl ?_
  refine zEV.iconst (v := 0) dX7_spare_129 rfl ?_
  refine zEV.pfi rfl inz7 tyX7 tyX7_ok nmX7 4 (by decide) wf_RX7_62 rfl (by decide +kernel) (by decide) rfl rfl dX7_spare_130 ?_
  refine zEV.aload_n dX7_spare_133 rfl 1 rfl ?_
  refine zEV.iload dX7_spare_134 0 rfl ?_
  refine zEV.i2l dX7_spare_136 ?_
  obtain ⟨q4, hq4, h⟩ := bind_yes h
  refine zEV.callVv (kX7_tell ((Int32.toInt64 q2.1))  (wr q3 158 4 0) q4 hq4) (by decide) rfl rfl wm_RX7_135 wc_X7_tell hy_X7_tell rfl ⟨Nat.le_of_ble_eq_true rfl, Nat.le_of_ble_eq_true rfl⟩ rfl (Nat.le_of_ble_eq_true rfl) dX7_spare_137 ?_
  refine zEV.iload_n dX7_spare_140 rfl 2 rfl ?_
  have h := Option.some.inj h
  subst h
  exact zEV.iret rfl dX7_spare_141
def fX7_spare_91 (a1 : Int32) (l2 : Int32) (l3 : Int32) (M : zMM) : Option (Int32 × zMM) :=
  if (M.1 158 14) = l2 then
    fX7_spare_114 a1 (l3) M
  else
    if oob ((5 + a1)) 259 then none else
    (fX7_drop (a1) (((M.1 159 (Int32.toNatClampNeg (5 + a1))) - 1)) M).bind fun q3 =>
    fX7_spare_114 a1 (l3) q3
set_option maxRecDepth 100000 in
theorem tX7_spare_91 (a1 : Int32) (l2 : Int32) (l3 : Int32) (M : zMM) (q : Int32 × zMM) (h : fX7_spare_91 a1 l2 l3 M = some q) : zEV iX7_spare 0 0 (zZO (some (.inl q.1), q.2)) 91 [(0, .inr (.inr 158)), (1, .inl a1), (2, .inl l2), (3, .inl l3)] [] M := by
  unfold fX7_spare_91 at h
  refine zEV.aload_n dX7_spare_91 rfl 0 rfl ?_
  refine zEV.gfi rfl inz7 14 (by decide) wf_RX7_154 (by decide) rfl rfl dX7_spare_92 ?_
  refine zEV.iload_n dX7_spare_95 rfl 2 rfl ?_
  refine zEV.icmp_eq 114 dX7_spare_96 (by decide) (fun c1 => ?_) (fun c1 => ?_)
  · rw [if_pos c1] at h
    exact zEV.perm [0, 3] rfl (tX7_spare_114 a1 (l3) M q h)
  · rw [if_neg c1] at h
    refine zEV.aload_n dX7_spare_99 rfl 0 rfl ?_
    refine zEV.iload_n dX7_spare_100 rfl 1 rfl ?_
    refine zEV.aload_n dX7_spare_101 rfl 0 rfl ?_
    refine zEV.gfr rfl inz7 0 (by decide) wf_RX7_9 (by decide) rfl rfl dX7_spare_102 ?_
    refine zEV.iconst (v := 5) dX7_spare_105 rfl ?_
    refine zEV.iload_n dX7_spare_106 rfl 1 rfl ?_
    refine zEV.iadd dX7_spare_107 ?_
    obtain ⟨g2, h⟩ := ite_no h
    refine zEV.iald (by decide) rfl g2 dX7_spare_108 ?_
    refine zEV.iconst (v := 1) dX7_spare_109 rfl ?_
    refine zEV.isub dX7_spare_110 ?_
    obtain ⟨q3, hq3, h⟩ := bind_yes h
    refine zEV.callVv (kX7_drop (a1) (((M.1 159 (Int32.toNatClampNeg (5 + a1))) - 1))  M q3 hq3) (by decide) rfl rfl wm_RX7_273 wc_X7_drop hy_X7_drop rfl ⟨Nat.le_of_ble_eq_true rfl, Nat.le_of_ble_eq_true rfl⟩ rfl (Nat.le_of_ble_eq_true rfl) dX7_spare_111 ?_
    exact zEV.perm [0, 3] rfl (tX7_spare_114 a1 (l3) q3 q h)
def fX7_spare_38 (a1 : Int32) : Nat → Int32 → Int32 → zMM → Option (Int32 × zMM)
  | 0, _, _, _ => none
  | n + 1, l2, l3, M =>
  if oob ((5 + a1)) 259 then none else
  if (70 : Int32) ≤ (M.1 159 (Int32.toNatClampNeg (5 + a1))) then
    fX7_spare_91 a1 (l2) (l3) M
  else
    if (M.1 158 14) = l2 then
      (fX7_put (a1) ((M.1 159 (Int32.toNatClampNeg (5 + a1)))) (5) M).bind fun q4 =>
      (fX7_set  q4).bind fun q5 =>
      if (q5.1 158 14) = l2 then
        fX7_spare_38 a1 n (l2) ((l3 + 1)) q5
      else
        fX7_spare_38 a1 n (l2) (l3) q5
    else
      fX7_spare_91 a1 (l2) (l3) M
set_option maxRecDepth 100000 in
theorem tX7_spare_38 (a1 : Int32) : ∀ (n : Nat) (l2 : Int32) (l3 : Int32) (M : zMM) (q : Int32 × zMM), fX7_spare_38 a1 n l2 l3 M = some q → zEV iX7_spare 0 0 (zZO (some (.inl q.1), q.2)) 38 [(0, .inr (.inr 158)), (1, .inl a1), (2, .inl l2), (3, .inl l3)] [] M := by
  intro n
  induction n with
  | zero =>
    intro l2 l3 M q h
    rw [fX7_spare_38] at h
    cases h
  | succ n ih =>
    intro l2 l3 M q h
    rw [fX7_spare_38] at h
    refine zEV.aload_n dX7_spare_38 rfl 0 rfl ?_
    refine zEV.gfr rfl inz7 0 (by decide) wf_RX7_9 (by decide) rfl rfl dX7_spare_39 ?_
    refine zEV.iconst (v := 5) dX7_spare_42 rfl ?_
    refine zEV.iload_n dX7_spare_43 rfl 1 rfl ?_
    refine zEV.iadd dX7_spare_44 ?_
    obtain ⟨g1, h⟩ := ite_no h
    refine zEV.iald (by decide) rfl g1 dX7_spare_45 ?_
    refine zEV.bipush (v := 70) dX7_spare_46 rfl ?_
    refine zEV.icmp_ge 91 dX7_spare_48 (by decide) (fun c2 => ?_) (fun c2 => ?_)
    · rw [if_pos c2] at h
      exact zEV.perm [0, 1, 2, 3] rfl (tX7_spare_91 a1 (l2) (l3) M q h)
    · rw [if_neg c2] at h
      refine zEV.aload_n dX7_spare_51 rfl 0 rfl ?_
      refine zEV.gfi rfl inz7 14 (by decide) wf_RX7_154 (by decide) rfl rfl dX7_spare_52 ?_
      refine zEV.iload_n dX7_spare_55 rfl 2 rfl ?_
      refine zEV.icmp_ne 91 dX7_spare_56 (by decide) (fun c3 => ?_) (fun c3 => ?_)
      · rw [if_neg c3] at h
        exact zEV.perm [0, 1, 2, 3] rfl (tX7_spare_91 a1 (l2) (l3) M q h)
      · rw [if_pos c3] at h
        refine zEV.aload_n dX7_spare_59 rfl 0 rfl ?_
        refine zEV.iload_n dX7_spare_60 rfl 1 rfl ?_
        refine zEV.aload_n dX7_spare_61 rfl 0 rfl ?_
        refine zEV.gfr rfl inz7 0 (by decide) wf_RX7_9 (by decide) rfl rfl dX7_spare_62 ?_
        refine zEV.iconst (v := 5) dX7_spare_65 rfl ?_
        refine zEV.iload_n dX7_spare_66 rfl 1 rfl ?_
        refine zEV.iadd dX7_spare_67 ?_
        refine zEV.iald (by decide) rfl g1 dX7_spare_68 ?_
        refine zEV.iconst (v := 5) dX7_spare_69 rfl ?_
        obtain ⟨q4, hq4, h⟩ := bind_yes h
        refine zEV.callVv (kX7_put (a1) ((M.1 159 (Int32.toNatClampNeg (5 + a1)))) (5)  M q4 hq4) (by decide) rfl rfl wm_RX7_270 wc_X7_put hy_X7_put rfl ⟨Nat.le_of_ble_eq_true rfl, Nat.le_of_ble_eq_true rfl⟩ rfl (Nat.le_of_ble_eq_true rfl) dX7_spare_70 ?_
        refine zEV.aload_n dX7_spare_73 rfl 0 rfl ?_
        obtain ⟨q5, hq5, h⟩ := bind_yes h
        refine zEV.callVv (kX7_set   q4 q5 hq5) (by decide) rfl rfl wm_RX7_164 wc_X7_set hy_X7_set rfl ⟨Nat.le_of_ble_eq_true rfl, Nat.le_of_ble_eq_true rfl⟩ rfl (Nat.le_of_ble_eq_true rfl) dX7_spare_74 ?_
        refine zEV.aload_n dX7_spare_77 rfl 0 rfl ?_
        refine zEV.gfi rfl inz7 14 (by decide) wf_RX7_154 (by decide) rfl rfl dX7_spare_78 ?_
        refine zEV.iload_n dX7_spare_81 rfl 2 rfl ?_
        refine zEV.icmp_ne 38 dX7_spare_82 (by decide) (fun c6 => ?_) (fun c6 => ?_)
        · rw [if_neg c6] at h
          exact zEV.perm [0, 1, 2, 3] rfl (ih (l2) (l3) q5 q h)
        · rw [if_pos c6] at h
          refine zEV.iinc (v := (l3 + 1)) dX7_spare_85 3 rfl rfl (Nat.le_of_ble_eq_true rfl) rfl ?_
          refine zEV.goto 38 dX7_spare_88 (by decide) ?_
          exact zEV.perm [1, 2, 3, 0] rfl (ih (l2) ((l3 + 1)) q5 q h)
def fX7_spare (a1 : Int32) (M : zMM) : Option (Int32 × zMM) :=
  (fX7_in (a1) (1) (2) (wr M 158 5 0)).bind fun q1 =>
  if q1.1 = (0 : Int32) then
    some ((-1), q1.2)
  else
    (fX7_set  q1.2).bind fun q3 =>
    if (q3.1 158 14) = (0 : Int32) then
      some ((-2), q3)
    else
      (fX7_layAside  q3).bind fun q5 =>
      fX7_spare_38 a1 zFU ((q3.1 158 14)) (0) q5
set_option maxRecDepth 100000 in
theorem tX7_spare_0 (a1 : Int32) (M : zMM) (q : Int32 × zMM) (h : fX7_spare a1  M = some q) : zEV iX7_spare 0 0 (zZO (some (.inl q.1), q.2)) 0 [(0, .inr (.inr 158)), (1, .inl a1)] [] M := by
  unfold fX7_spare at h
  refine zEV.aload_n dX7_spare_0 rfl 0 rfl ?_
  refine zEV.iconst (v := 0) dX7_spare_1 rfl ?_
  refine zEV.pfi rfl inz7 tyX7 tyX7_ok nmX7 5 (by decide) wf_RX7_58 rfl (by decide +kernel) (by decide) rfl rfl dX7_spare_2 ?_
  refine zEV.iload_n dX7_spare_5 rfl 1 rfl ?_
  refine zEV.iconst (v := 1) dX7_spare_6 rfl ?_
  refine zEV.iconst (v := 2) dX7_spare_7 rfl ?_
  obtain ⟨q1, hq1, h⟩ := bind_yes h
  refine zEV.callSi (kX7_in (a1) (1) (2)  (wr M 158 5 0) q1 hq1) wm_RX7_65 wc_X7_in hy_X7_in rfl ⟨Nat.le_of_ble_eq_true rfl, Nat.le_of_ble_eq_true rfl⟩ rfl (Nat.le_of_ble_eq_true rfl) dX7_spare_8 ?_
  refine zEV.if_ne 16 dX7_spare_11 (by decide) (fun c2 => ?_) (fun c2 => ?_)
  · rw [if_neg c2] at h
    refine zEV.aload_n dX7_spare_16 rfl 0 rfl ?_
    obtain ⟨q3, hq3, h⟩ := bind_yes h
    refine zEV.callVv (kX7_set   q1.2 q3 hq3) (by decide) rfl rfl wm_RX7_164 wc_X7_set hy_X7_set rfl ⟨Nat.le_of_ble_eq_true rfl, Nat.le_of_ble_eq_true rfl⟩ rfl (Nat.le_of_ble_eq_true rfl) dX7_spare_17 ?_
    refine zEV.aload_n dX7_spare_20 rfl 0 rfl ?_
    refine zEV.gfi rfl inz7 14 (by decide) wf_RX7_154 (by decide) rfl rfl dX7_spare_21 ?_
    refine zEV.istore_n dX7_spare_24 rfl (Nat.le_of_ble_eq_true rfl) rfl ?_
    refine zEV.iload_n dX7_spare_25 rfl 0 rfl ?_
    refine zEV.if_ne 32 dX7_spare_26 (by decide) (fun c4 => ?_) (fun c4 => ?_)
    · rw [if_neg c4] at h
      refine zEV.aload_n dX7_spare_32 rfl 1 rfl ?_
      obtain ⟨q5, hq5, h⟩ := bind_yes h
      refine zEV.callVv (kX7_layAside   q3 q5 hq5) (by decide) rfl rfl wm_RX7_230 wc_X7_layAside hy_X7_layAside rfl ⟨Nat.le_of_ble_eq_true rfl, Nat.le_of_ble_eq_true rfl⟩ rfl (Nat.le_of_ble_eq_true rfl) dX7_spare_33 ?_
      refine zEV.iconst (v := 0) dX7_spare_36 rfl ?_
      refine zEV.istore_n dX7_spare_37 rfl (Nat.le_of_ble_eq_true rfl) rfl ?_
      exact zEV.perm [2, 3, 1, 0] rfl (tX7_spare_38 a1 zFU ((q3.1 158 14)) (0) q5 q h)
    · rw [if_pos c4] at h
      refine zEV.bipush (v := (-2)) dX7_spare_29 rfl ?_
      have h := Option.some.inj h
      subst h
      exact zEV.iret rfl dX7_spare_31
  · rw [if_pos c2] at h
    refine zEV.iconst (v := (-1)) dX7_spare_14 rfl ?_
    have h := Option.some.inj h
    subst h
    exact zEV.iret rfl dX7_spare_15
theorem kX7_spare (a1 : Int32) (M : zMM) (q : Int32 × zMM) (h : fX7_spare a1 M = some q) : zCN yX7_spare iX7_spare [.inr (.inr 158), .inl a1] M (some (.inl q.1), q.2) :=
  zCN.of (by decide) rfl rfl (Nat.le_of_ble_eq_true rfl) (zEV.perm [0, 1] rfl (tX7_spare_0 a1 M q h))
-- RingedPageModel.settingAt
def fX7_settingAt (a0 : Int32) (M : zMM) : Option (Int32 × zMM) :=
  if a0 = 2 then
    some (255, M)
  else
    some (a0, M)
set_option maxRecDepth 100000 in
theorem tX7_settingAt_0 (a0 : Int32) (M : zMM) (q : Int32 × zMM) (h : fX7_settingAt a0  M = some q) : zEV iX7_settingAt 0 0 (zZO (some (.inl q.1), q.2)) 0 [(0, .inl a0)] [] M := by
  unfold fX7_settingAt at h
  refine zEV.iload_n dX7_settingAt_0 rfl 0 rfl ?_
  refine zEV.iconst (v := 2) dX7_settingAt_1 rfl ?_
  refine zEV.icmp_ne 11 dX7_settingAt_2 (by decide) (fun c1 => ?_) (fun c1 => ?_)
  · rw [if_neg c1] at h
    refine zEV.iload_n dX7_settingAt_11 rfl 0 rfl ?_
    have h := Option.some.inj h
    subst h
    exact zEV.iret rfl dX7_settingAt_12
  · rw [if_pos c1] at h
    refine zEV.sipush (v := 255) dX7_settingAt_5 rfl ?_
    refine zEV.goto 12 dX7_settingAt_8 (by decide) ?_
    have h := Option.some.inj h
    subst h
    exact zEV.iret rfl dX7_settingAt_12
theorem kX7_settingAt (a0 : Int32) (M : zMM) (q : Int32 × zMM) (h : fX7_settingAt a0 M = some q) : zCN yX7_settingAt iX7_settingAt [.inl a0] M (some (.inl q.1), q.2) :=
  zCN.of (by decide) rfl rfl (Nat.le_of_ble_eq_true rfl) (zEV.perm [0] rfl (tX7_settingAt_0 a0 M q h))
-- RingedPageModel.refusesSet
def fX7_refusesSet_119 (a1 : Int32) (a2 : Int32) (s0 : Int32) (s1 : Int32) (s2 : Int32) (M : zMM) : Option (Int32 × zMM) :=
  (fX7_canPlan (s2) (s1) (s0) ((M.1 159 2)) ((M.1 159 3)) ((M.1 159 4)) M).bind fun q1 =>
  if q1.1 = (0 : Int32) then
    some ((-3), q1.2)
  else
    some (0, q1.2)
set_option maxRecDepth 100000 in
theorem tX7_refusesSet_119 (a1 : Int32) (a2 : Int32) (s0 : Int32) (s1 : Int32) (s2 : Int32) (M : zMM) (q : Int32 × zMM) (h : fX7_refusesSet_119 a1 a2 s0 s1 s2 M = some q) : zEV iX7_refusesSet 0 0 (zZO (some (.inl q.1), q.2)) 119 [(0, .inr (.inr 158))] [.inl s0, .inl s1, .inl s2] M := by
  unfold fX7_refusesSet_119 at h
  refine zEV.aload_n dX7_refusesSet_119 rfl 0 rfl ?_
  refine zEV.gfr rfl inz7 0 (by decide) wf_RX7_9 (by decide) rfl rfl dX7_refusesSet_120 ?_
  refine zEV.iconst (v := 2) dX7_refusesSet_123 rfl ?_
  refine zEV.ialdL (j := 2) (by decide) rfl (by decide) (by decide) dX7_refusesSet_124 ?_
  refine zEV.aload_n dX7_refusesSet_125 rfl 0 rfl ?_
  refine zEV.gfr rfl inz7 0 (by decide) wf_RX7_9 (by decide) rfl rfl dX7_refusesSet_126 ?_
  refine zEV.iconst (v := 3) dX7_refusesSet_129 rfl ?_
  refine zEV.ialdL (j := 3) (by decide) rfl (by decide) (by decide) dX7_refusesSet_130 ?_
  refine zEV.aload_n dX7_refusesSet_131 rfl 0 rfl ?_
  refine zEV.gfr rfl inz7 0 (by decide) wf_RX7_9 (by decide) rfl rfl dX7_refusesSet_132 ?_
  refine zEV.iconst (v := 4) dX7_refusesSet_135 rfl ?_
  refine zEV.ialdL (j := 4) (by decide) rfl (by decide) (by decide) dX7_refusesSet_136 ?_
  obtain ⟨q1, hq1, h⟩ := bind_yes h
  refine zEV.callSi (kX7_canPlan (s2) (s1) (s0) ((M.1 159 2)) ((M.1 159 3)) ((M.1 159 4))  M q1 hq1) wm_RX7_223 wc_X7_canPlan hy_X7_canPlan rfl ⟨Nat.le_of_ble_eq_true rfl, Nat.le_of_ble_eq_true rfl⟩ rfl (Nat.le_of_ble_eq_true rfl) dX7_refusesSet_137 ?_
  refine zEV.if_eq 147 dX7_refusesSet_140 (by decide) (fun c2 => ?_) (fun c2 => ?_)
  · rw [if_pos c2] at h
    refine zEV.bipush (v := (-3)) dX7_refusesSet_147 rfl ?_
    have h := Option.some.inj h
    subst h
    exact zEV.iret rfl dX7_refusesSet_149
  · rw [if_neg c2] at h
    refine zEV.iconst (v := 0) dX7_refusesSet_143 rfl ?_
    refine zEV.goto 149 dX7_refusesSet_144 (by decide) ?_
    have h := Option.some.inj h
    subst h
    exact zEV.iret rfl dX7_refusesSet_149
def fX7_refusesSet_102 (a1 : Int32) (a2 : Int32) (s0 : Int32) (s1 : Int32) (M : zMM) : Option (Int32 × zMM) :=
  if a1 = 2 then
    fX7_refusesSet_119 a1 a2 (a2) (s0) (s1) M
  else
    fX7_refusesSet_119 a1 a2 ((M.1 159 255)) (s0) (s1) M
set_option maxRecDepth 100000 in
theorem tX7_refusesSet_102 (a1 : Int32) (a2 : Int32) (s0 : Int32) (s1 : Int32) (M : zMM) (q : Int32 × zMM) (h : fX7_refusesSet_102 a1 a2 s0 s1 M = some q) : zEV iX7_refusesSet 0 0 (zZO (some (.inl q.1), q.2)) 102 [(0, .inr (.inr 158)), (1, .inl a1), (2, .inl a2)] [.inl s0, .inl s1] M := by
  unfold fX7_refusesSet_102 at h
  refine zEV.iload_n dX7_refusesSet_102 rfl 1 rfl ?_
  refine zEV.iconst (v := 2) dX7_refusesSet_103 rfl ?_
  refine zEV.icmp_ne 111 dX7_refusesSet_104 (by decide) (fun c1 => ?_) (fun c1 => ?_)
  · rw [if_neg c1] at h
    refine zEV.aload_n dX7_refusesSet_111 rfl 0 rfl ?_
    refine zEV.gfr rfl inz7 0 (by decide) wf_RX7_9 (by decide) rfl rfl dX7_refusesSet_112 ?_
    refine zEV.sipush (v := 255) dX7_refusesSet_115 rfl ?_
    refine zEV.ialdL (j := 255) (by decide) rfl (by decide) (by decide) dX7_refusesSet_118 ?_
    exact zEV.perm [0] rfl (tX7_refusesSet_119 a1 a2 ((M.1 159 255)) (s0) (s1) M q h)
  · rw [if_pos c1] at h
    refine zEV.iload_n dX7_refusesSet_107 rfl 2 rfl ?_
    refine zEV.goto 119 dX7_refusesSet_108 (by decide) ?_
    exact zEV.perm [0] rfl (tX7_refusesSet_119 a1 a2 (a2) (s0) (s1) M q h)
def fX7_refusesSet_87 (a1 : Int32) (a2 : Int32) (s0 : Int32) (M : zMM) : Option (Int32 × zMM) :=
  if a1 = 1 then
    fX7_refusesSet_102 a1 a2 (a2) (s0) M
  else
    fX7_refusesSet_102 a1 a2 ((M.1 159 1)) (s0) M
set_option maxRecDepth 100000 in
theorem tX7_refusesSet_87 (a1 : Int32) (a2 : Int32) (s0 : Int32) (M : zMM) (q : Int32 × zMM) (h : fX7_refusesSet_87 a1 a2 s0 M = some q) : zEV iX7_refusesSet 0 0 (zZO (some (.inl q.1), q.2)) 87 [(0, .inr (.inr 158)), (1, .inl a1), (2, .inl a2)] [.inl s0] M := by
  unfold fX7_refusesSet_87 at h
  refine zEV.iload_n dX7_refusesSet_87 rfl 1 rfl ?_
  refine zEV.iconst (v := 1) dX7_refusesSet_88 rfl ?_
  refine zEV.icmp_ne 96 dX7_refusesSet_89 (by decide) (fun c1 => ?_) (fun c1 => ?_)
  · rw [if_neg c1] at h
    refine zEV.aload_n dX7_refusesSet_96 rfl 0 rfl ?_
    refine zEV.gfr rfl inz7 0 (by decide) wf_RX7_9 (by decide) rfl rfl dX7_refusesSet_97 ?_
    refine zEV.iconst (v := 1) dX7_refusesSet_100 rfl ?_
    refine zEV.ialdL (j := 1) (by decide) rfl (by decide) (by decide) dX7_refusesSet_101 ?_
    exact zEV.perm [0, 1, 2] rfl (tX7_refusesSet_102 a1 a2 ((M.1 159 1)) (s0) M q h)
  · rw [if_pos c1] at h
    refine zEV.iload_n dX7_refusesSet_92 rfl 2 rfl ?_
    refine zEV.goto 102 dX7_refusesSet_93 (by decide) ?_
    exact zEV.perm [0, 1, 2] rfl (tX7_refusesSet_102 a1 a2 (a2) (s0) M q h)
def fX7_refusesSet_49 (a1 : Int32) (a2 : Int32) (s0 : Int32) (s1 : Int32) (s2 : Int32) (M : zMM) : Option (Int32 × zMM) :=
  (fX7_in (s2) (s1) (s0) M).bind fun q1 =>
  if q1.1 = (0 : Int32) then
    some ((-1), q1.2)
  else
    (fX7_settingAt (a1) q1.2).bind fun q3 =>
    if oob (q3.1) 259 then none else
    if (q3.2.1 159 (Int32.toNatClampNeg q3.1)) = a2 then
      some ((-2), q3.2)
    else
      if a1 = (0 : Int32) then
        fX7_refusesSet_87 a1 a2 (a2) q3.2
      else
        fX7_refusesSet_87 a1 a2 ((q3.2.1 159 0)) q3.2
set_option maxRecDepth 100000 in
theorem tX7_refusesSet_49 (a1 : Int32) (a2 : Int32) (s0 : Int32) (s1 : Int32) (s2 : Int32) (M : zMM) (q : Int32 × zMM) (h : fX7_refusesSet_49 a1 a2 s0 s1 s2 M = some q) : zEV iX7_refusesSet 0 0 (zZO (some (.inl q.1), q.2)) 49 [(0, .inr (.inr 158)), (1, .inl a1), (2, .inl a2)] [.inl s0, .inl s1, .inl s2] M := by
  unfold fX7_refusesSet_49 at h
  obtain ⟨q1, hq1, h⟩ := bind_yes h
  refine zEV.callSi (kX7_in (s2) (s1) (s0)  M q1 hq1) wm_RX7_65 wc_X7_in hy_X7_in rfl ⟨Nat.le_of_ble_eq_true rfl, Nat.le_of_ble_eq_true rfl⟩ rfl (Nat.le_of_ble_eq_true rfl) dX7_refusesSet_49 ?_
  refine zEV.if_ne 57 dX7_refusesSet_52 (by decide) (fun c2 => ?_) (fun c2 => ?_)
  · rw [if_neg c2] at h
    refine zEV.aload_n dX7_refusesSet_57 rfl 0 rfl ?_
    refine zEV.gfr rfl inz7 0 (by decide) wf_RX7_9 (by decide) rfl rfl dX7_refusesSet_58 ?_
    refine zEV.iload_n dX7_refusesSet_61 rfl 1 rfl ?_
    obtain ⟨q3, hq3, h⟩ := bind_yes h
    refine zEV.callSi (kX7_settingAt (a1)  q1.2 q3 hq3) wm_RX7_285 wc_X7_settingAt hy_X7_settingAt rfl ⟨Nat.le_of_ble_eq_true rfl, Nat.le_of_ble_eq_true rfl⟩ rfl (Nat.le_of_ble_eq_true rfl) dX7_refusesSet_62 ?_
    obtain ⟨g4, h⟩ := ite_no h
    refine zEV.iald (by decide) rfl g4 dX7_refusesSet_65 ?_
    refine zEV.iload_n dX7_refusesSet_66 rfl 2 rfl ?_
    refine zEV.icmp_ne 73 dX7_refusesSet_67 (by decide) (fun c5 => ?_) (fun c5 => ?_)
    · rw [if_neg c5] at h
      refine zEV.iload_n dX7_refusesSet_73 rfl 1 rfl ?_
      refine zEV.if_ne 81 dX7_refusesSet_74 (by decide) (fun c6 => ?_) (fun c6 => ?_)
      · rw [if_neg c6] at h
        refine zEV.aload_n dX7_refusesSet_81 rfl 0 rfl ?_
        refine zEV.gfr rfl inz7 0 (by decide) wf_RX7_9 (by decide) rfl rfl dX7_refusesSet_82 ?_
        refine zEV.iconst (v := 0) dX7_refusesSet_85 rfl ?_
        refine zEV.ialdL (j := 0) (by decide) rfl (by decide) (by decide) dX7_refusesSet_86 ?_
        exact zEV.perm [0, 1, 2] rfl (tX7_refusesSet_87 a1 a2 ((q3.2.1 159 0)) q3.2 q h)
      · rw [if_pos c6] at h
        refine zEV.iload_n dX7_refusesSet_77 rfl 2 rfl ?_
        refine zEV.goto 87 dX7_refusesSet_78 (by decide) ?_
        exact zEV.perm [0, 1, 2] rfl (tX7_refusesSet_87 a1 a2 (a2) q3.2 q h)
    · rw [if_pos c5] at h
      refine zEV.bipush (v := (-2)) dX7_refusesSet_70 rfl ?_
      have h := Option.some.inj h
      subst h
      exact zEV.iret rfl dX7_refusesSet_72
  · rw [if_pos c2] at h
    refine zEV.iconst (v := (-1)) dX7_refusesSet_55 rfl ?_
    have h := Option.some.inj h
    subst h
    exact zEV.iret rfl dX7_refusesSet_56
def fX7_refusesSet_29 (a1 : Int32) (a2 : Int32) (s0 : Int32) (s1 : Int32) (M : zMM) : Option (Int32 × zMM) :=
  if a1 = (0 : Int32) then
    fX7_refusesSet_49 a1 a2 (60) (s0) (s1) M
  else
    if a1 = 1 then
      fX7_refusesSet_49 a1 a2 (40) (s0) (s1) M
    else
      fX7_refusesSet_49 a1 a2 (4) (s0) (s1) M
set_option maxRecDepth 100000 in
theorem tX7_refusesSet_29 (a1 : Int32) (a2 : Int32) (s0 : Int32) (s1 : Int32) (M : zMM) (q : Int32 × zMM) (h : fX7_refusesSet_29 a1 a2 s0 s1 M = some q) : zEV iX7_refusesSet 0 0 (zZO (some (.inl q.1), q.2)) 29 [(0, .inr (.inr 158)), (1, .inl a1), (2, .inl a2)] [.inl s0, .inl s1] M := by
  unfold fX7_refusesSet_29 at h
  refine zEV.iload_n dX7_refusesSet_29 rfl 1 rfl ?_
  refine zEV.if_ne 38 dX7_refusesSet_30 (by decide) (fun c1 => ?_) (fun c1 => ?_)
  · rw [if_neg c1] at h
    refine zEV.iload_n dX7_refusesSet_38 rfl 1 rfl ?_
    refine zEV.iconst (v := 1) dX7_refusesSet_39 rfl ?_
    refine zEV.icmp_ne 48 dX7_refusesSet_40 (by decide) (fun c2 => ?_) (fun c2 => ?_)
    · rw [if_neg c2] at h
      refine zEV.iconst (v := 4) dX7_refusesSet_48 rfl ?_
      exact zEV.perm [0, 1, 2] rfl (tX7_refusesSet_49 a1 a2 (4) (s0) (s1) M q h)
    · rw [if_pos c2] at h
      refine zEV.bipush (v := 40) dX7_refusesSet_43 rfl ?_
      refine zEV.goto 49 dX7_refusesSet_45 (by decide) ?_
      exact zEV.perm [0, 1, 2] rfl (tX7_refusesSet_49 a1 a2 (40) (s0) (s1) M q h)
  · rw [if_pos c1] at h
    refine zEV.bipush (v := 60) dX7_refusesSet_33 rfl ?_
    refine zEV.goto 49 dX7_refusesSet_35 (by decide) ?_
    exact zEV.perm [0, 1, 2] rfl (tX7_refusesSet_49 a1 a2 (60) (s0) (s1) M q h)
def fX7_refusesSet (a1 : Int32) (a2 : Int32) (M : zMM) : Option (Int32 × zMM) :=
  (fX7_in (a1) (0) (2) M).bind fun q1 =>
  if q1.1 = (0 : Int32) then
    some ((-1), q1.2)
  else
    if a1 = (0 : Int32) then
      fX7_refusesSet_29 a1 a2 (29) (a2) q1.2
    else
      if a1 = 1 then
        fX7_refusesSet_29 a1 a2 (3) (a2) q1.2
      else
        fX7_refusesSet_29 a1 a2 (1) (a2) q1.2
set_option maxRecDepth 100000 in
theorem tX7_refusesSet_0 (a1 : Int32) (a2 : Int32) (M : zMM) (q : Int32 × zMM) (h : fX7_refusesSet a1 a2  M = some q) : zEV iX7_refusesSet 0 0 (zZO (some (.inl q.1), q.2)) 0 [(0, .inr (.inr 158)), (1, .inl a1), (2, .inl a2)] [] M := by
  unfold fX7_refusesSet at h
  refine zEV.iload_n dX7_refusesSet_0 rfl 1 rfl ?_
  refine zEV.iconst (v := 0) dX7_refusesSet_1 rfl ?_
  refine zEV.iconst (v := 2) dX7_refusesSet_2 rfl ?_
  obtain ⟨q1, hq1, h⟩ := bind_yes h
  refine zEV.callSi (kX7_in (a1) (0) (2)  M q1 hq1) wm_RX7_65 wc_X7_in hy_X7_in rfl ⟨Nat.le_of_ble_eq_true rfl, Nat.le_of_ble_eq_true rfl⟩ rfl (Nat.le_of_ble_eq_true rfl) dX7_refusesSet_3 ?_
  refine zEV.if_eq 55 dX7_refusesSet_6 (by decide) (fun c2 => ?_) (fun c2 => ?_)
  · rw [if_pos c2] at h
    refine zEV.iconst (v := (-1)) dX7_refusesSet_55 rfl ?_
    have h := Option.some.inj h
    subst h
    exact zEV.iret rfl dX7_refusesSet_56
  · rw [if_neg c2] at h
    refine zEV.iload_n dX7_refusesSet_9 rfl 2 rfl ?_
    refine zEV.iload_n dX7_refusesSet_10 rfl 1 rfl ?_
    refine zEV.if_ne 19 dX7_refusesSet_11 (by decide) (fun c3 => ?_) (fun c3 => ?_)
    · rw [if_neg c3] at h
      refine zEV.iload_n dX7_refusesSet_19 rfl 1 rfl ?_
      refine zEV.iconst (v := 1) dX7_refusesSet_20 rfl ?_
      refine zEV.icmp_ne 28 dX7_refusesSet_21 (by decide) (fun c4 => ?_) (fun c4 => ?_)
      · rw [if_neg c4] at h
        refine zEV.iconst (v := 1) dX7_refusesSet_28 rfl ?_
        exact zEV.perm [0, 1, 2] rfl (tX7_refusesSet_29 a1 a2 (1) (a2) q1.2 q h)
      · rw [if_pos c4] at h
        refine zEV.iconst (v := 3) dX7_refusesSet_24 rfl ?_
        refine zEV.goto 29 dX7_refusesSet_25 (by decide) ?_
        exact zEV.perm [0, 1, 2] rfl (tX7_refusesSet_29 a1 a2 (3) (a2) q1.2 q h)
    · rw [if_pos c3] at h
      refine zEV.bipush (v := 29) dX7_refusesSet_14 rfl ?_
      refine zEV.goto 29 dX7_refusesSet_16 (by decide) ?_
      exact zEV.perm [0, 1, 2] rfl (tX7_refusesSet_29 a1 a2 (29) (a2) q1.2 q h)
theorem kX7_refusesSet (a1 : Int32) (a2 : Int32) (M : zMM) (q : Int32 × zMM) (h : fX7_refusesSet a1 a2 M = some q) : zCN yX7_refusesSet iX7_refusesSet [.inr (.inr 158), .inl a1, .inl a2] M (some (.inl q.1), q.2) :=
  zCN.of (by decide) rfl rfl (Nat.le_of_ble_eq_true rfl) (zEV.perm [0, 1, 2] rfl (tX7_refusesSet_0 a1 a2 M q h))
-- RingedPageModel.sets
def fX7_sets (a1 : Int32) (a2 : Int32) (M : zMM) : Option (Int32 × zMM) :=
  (fX7_refusesSet (a1) (a2) (wr M 158 5 0)).bind fun q1 =>
  if (0 : Int32) ≤ q1.1 then
    (fX7_change  q1.2).bind fun q3 =>
    (fX7_settingAt (a1) q3).bind fun q4 =>
    if oob (q4.1) 259 then none else
    (fX7_settingAt (a1) q4.2).bind fun q6 =>
    if oob (q6.1) 259 then none else
    some ((q4.2.1 159 (Int32.toNatClampNeg q4.1)), (wr q6.2 159 (Int32.toNatClampNeg q6.1) a2))
  else
    some (q1.1, q1.2)
set_option maxRecDepth 100000 in
theorem tX7_sets_0 (a1 : Int32) (a2 : Int32) (M : zMM) (q : Int32 × zMM) (h : fX7_sets a1 a2  M = some q) : zEV iX7_sets 0 0 (zZO (some (.inl q.1), q.2)) 0 [(0, .inr (.inr 158)), (1, .inl a1), (2, .inl a2)] [] M := by
  unfold fX7_sets at h
  refine zEV.aload_n dX7_sets_0 rfl 0 rfl ?_
  refine zEV.iconst (v := 0) dX7_sets_1 rfl ?_
  refine zEV.pfi rfl inz7 tyX7 tyX7_ok nmX7 5 (by decide) wf_RX7_58 rfl (by decide +kernel) (by decide) rfl rfl dX7_sets_2 ?_
  refine zEV.aload_n dX7_sets_5 rfl 0 rfl ?_
  refine zEV.iload_n dX7_sets_6 rfl 1 rfl ?_
  refine zEV.iload_n dX7_sets_7 rfl 2 rfl ?_
  obtain ⟨q1, hq1, h⟩ := bind_yes h
  refine zEV.callVi (kX7_refusesSet (a1) (a2)  (wr M 158 5 0) q1 hq1) (by decide) rfl rfl wm_RX7_288 wc_X7_refusesSet hy_X7_refusesSet rfl ⟨Nat.le_of_ble_eq_true rfl, Nat.le_of_ble_eq_true rfl⟩ rfl (Nat.le_of_ble_eq_true rfl) dX7_sets_8 ?_
  refine zEV.istore_n dX7_sets_11 rfl (Nat.le_of_ble_eq_true rfl) rfl ?_
  refine zEV.iload_n dX7_sets_12 rfl 0 rfl ?_
  refine zEV.if_ge 18 dX7_sets_13 (by decide) (fun c2 => ?_) (fun c2 => ?_)
  · rw [if_pos c2] at h
    refine zEV.aload_n dX7_sets_18 rfl 1 rfl ?_
    obtain ⟨q3, hq3, h⟩ := bind_yes h
    refine zEV.callVv (kX7_change   q1.2 q3 hq3) (by decide) rfl rfl wm_RX7_107 wc_X7_change hy_X7_change rfl ⟨Nat.le_of_ble_eq_true rfl, Nat.le_of_ble_eq_true rfl⟩ rfl (Nat.le_of_ble_eq_true rfl) dX7_sets_19 ?_
    refine zEV.aload_n dX7_sets_22 rfl 1 rfl ?_
    refine zEV.gfr rfl inz7 0 (by decide) wf_RX7_9 (by decide) rfl rfl dX7_sets_23 ?_
    refine zEV.iload_n dX7_sets_26 rfl 2 rfl ?_
    obtain ⟨q4, hq4, h⟩ := bind_yes h
    refine zEV.callSi (kX7_settingAt (a1)  q3 q4 hq4) wm_RX7_285 wc_X7_settingAt hy_X7_settingAt rfl ⟨Nat.le_of_ble_eq_true rfl, Nat.le_of_ble_eq_true rfl⟩ rfl (Nat.le_of_ble_eq_true rfl) dX7_sets_27 ?_
    obtain ⟨g5, h⟩ := ite_no h
    refine zEV.iald (by decide) rfl g5 dX7_sets_30 ?_
    refine zEV.istore dX7_sets_31 (Nat.le_of_ble_eq_true rfl) rfl ?_
    refine zEV.aload_n dX7_sets_33 rfl 2 rfl ?_
    refine zEV.gfr rfl inz7 0 (by decide) wf_RX7_9 (by decide) rfl rfl dX7_sets_34 ?_
    refine zEV.iload_n dX7_sets_37 rfl 3 rfl ?_
    obtain ⟨q6, hq6, h⟩ := bind_yes h
    refine zEV.callSi (kX7_settingAt (a1)  q4.2 q6 hq6) wm_RX7_285 wc_X7_settingAt hy_X7_settingAt rfl ⟨Nat.le_of_ble_eq_true rfl, Nat.le_of_ble_eq_true rfl⟩ rfl (Nat.le_of_ble_eq_true rfl) dX7_sets_38 ?_
    refine zEV.iload_n dX7_sets_41 rfl 4 rfl ?_
    obtain ⟨g7, h⟩ := ite_no h
    refine zEV.iast (by decide) rfl g7 dX7_sets_42 ?_
    refine zEV.iload dX7_sets_43 0 rfl ?_
    have h := Option.some.inj h
    subst h
    exact zEV.iret rfl dX7_sets_45
  · rw [if_neg c2] at h
    refine zEV.iload_n dX7_sets_16 rfl 0 rfl ?_
    have h := Option.some.inj h
    subst h
    exact zEV.iret rfl dX7_sets_17
theorem kX7_sets (a1 : Int32) (a2 : Int32) (M : zMM) (q : Int32 × zMM) (h : fX7_sets a1 a2 M = some q) : zCN yX7_sets iX7_sets [.inr (.inr 158), .inl a1, .inl a2] M (some (.inl q.1), q.2) :=
  zCN.of (by decide) rfl rfl (Nat.le_of_ble_eq_true rfl) (zEV.perm [0, 1, 2] rfl (tX7_sets_0 a1 a2 M q h))
-- RingedPageModel.refusesPlan
def fX7_refusesPlan (a1 : Int32) (a2 : Int32) (a3 : Int32) (M : zMM) : Option (Int32 × zMM) :=
  (fX7_canBe (a1) (a2) (a3) M).bind fun q1 =>
  if q1.1 = (0 : Int32) then
    some ((-1), q1.2)
  else
    if (q1.2.1 159 2) = a1 then
      if (q1.2.1 159 3) = a2 then
        if (q1.2.1 159 4) = a3 then
          some ((-2), q1.2)
        else
          some (0, q1.2)
      else
        some (0, q1.2)
    else
      some (0, q1.2)
set_option maxRecDepth 100000 in
theorem tX7_refusesPlan_0 (a1 : Int32) (a2 : Int32) (a3 : Int32) (M : zMM) (q : Int32 × zMM) (h : fX7_refusesPlan a1 a2 a3  M = some q) : zEV iX7_refusesPlan 0 0 (zZO (some (.inl q.1), q.2)) 0 [(0, .inr (.inr 158)), (1, .inl a1), (2, .inl a2), (3, .inl a3)] [] M := by
  unfold fX7_refusesPlan at h
  refine zEV.aload_n dX7_refusesPlan_0 rfl 0 rfl ?_
  refine zEV.iload_n dX7_refusesPlan_1 rfl 1 rfl ?_
  refine zEV.iload_n dX7_refusesPlan_2 rfl 2 rfl ?_
  refine zEV.iload_n dX7_refusesPlan_3 rfl 3 rfl ?_
  obtain ⟨q1, hq1, h⟩ := bind_yes h
  refine zEV.callVi (kX7_canBe (a1) (a2) (a3)  M q1 hq1) (by decide) rfl rfl wm_RX7_227 wc_X7_canBe hy_X7_canBe rfl ⟨Nat.le_of_ble_eq_true rfl, Nat.le_of_ble_eq_true rfl⟩ rfl (Nat.le_of_ble_eq_true rfl) dX7_refusesPlan_4 ?_
  refine zEV.if_ne 12 dX7_refusesPlan_7 (by decide) (fun c2 => ?_) (fun c2 => ?_)
  · rw [if_neg c2] at h
    refine zEV.aload_n dX7_refusesPlan_12 rfl 0 rfl ?_
    refine zEV.gfr rfl inz7 0 (by decide) wf_RX7_9 (by decide) rfl rfl dX7_refusesPlan_13 ?_
    refine zEV.iconst (v := 2) dX7_refusesPlan_16 rfl ?_
    refine zEV.ialdL (j := 2) (by decide) rfl (by decide) (by decide) dX7_refusesPlan_17 ?_
    refine zEV.iload_n dX7_refusesPlan_18 rfl 1 rfl ?_
    refine zEV.icmp_ne 47 dX7_refusesPlan_19 (by decide) (fun c3 => ?_) (fun c3 => ?_)
    · rw [if_neg c3] at h
      refine zEV.iconst (v := 0) dX7_refusesPlan_47 rfl ?_
      have h := Option.some.inj h
      subst h
      exact zEV.iret rfl dX7_refusesPlan_48
    · rw [if_pos c3] at h
      refine zEV.aload_n dX7_refusesPlan_22 rfl 0 rfl ?_
      refine zEV.gfr rfl inz7 0 (by decide) wf_RX7_9 (by decide) rfl rfl dX7_refusesPlan_23 ?_
      refine zEV.iconst (v := 3) dX7_refusesPlan_26 rfl ?_
      refine zEV.ialdL (j := 3) (by decide) rfl (by decide) (by decide) dX7_refusesPlan_27 ?_
      refine zEV.iload_n dX7_refusesPlan_28 rfl 2 rfl ?_
      refine zEV.icmp_ne 47 dX7_refusesPlan_29 (by decide) (fun c4 => ?_) (fun c4 => ?_)
      · rw [if_neg c4] at h
        refine zEV.iconst (v := 0) dX7_refusesPlan_47 rfl ?_
        have h := Option.some.inj h
        subst h
        exact zEV.iret rfl dX7_refusesPlan_48
      · rw [if_pos c4] at h
        refine zEV.aload_n dX7_refusesPlan_32 rfl 0 rfl ?_
        refine zEV.gfr rfl inz7 0 (by decide) wf_RX7_9 (by decide) rfl rfl dX7_refusesPlan_33 ?_
        refine zEV.iconst (v := 4) dX7_refusesPlan_36 rfl ?_
        refine zEV.ialdL (j := 4) (by decide) rfl (by decide) (by decide) dX7_refusesPlan_37 ?_
        refine zEV.iload_n dX7_refusesPlan_38 rfl 3 rfl ?_
        refine zEV.icmp_ne 47 dX7_refusesPlan_39 (by decide) (fun c5 => ?_) (fun c5 => ?_)
        · rw [if_neg c5] at h
          refine zEV.iconst (v := 0) dX7_refusesPlan_47 rfl ?_
          have h := Option.some.inj h
          subst h
          exact zEV.iret rfl dX7_refusesPlan_48
        · rw [if_pos c5] at h
          refine zEV.bipush (v := (-2)) dX7_refusesPlan_42 rfl ?_
          refine zEV.goto 48 dX7_refusesPlan_44 (by decide) ?_
          have h := Option.some.inj h
          subst h
          exact zEV.iret rfl dX7_refusesPlan_48
  · rw [if_pos c2] at h
    refine zEV.iconst (v := (-1)) dX7_refusesPlan_10 rfl ?_
    have h := Option.some.inj h
    subst h
    exact zEV.iret rfl dX7_refusesPlan_11
theorem kX7_refusesPlan (a1 : Int32) (a2 : Int32) (a3 : Int32) (M : zMM) (q : Int32 × zMM) (h : fX7_refusesPlan a1 a2 a3 M = some q) : zCN yX7_refusesPlan iX7_refusesPlan [.inr (.inr 158), .inl a1, .inl a2, .inl a3] M (some (.inl q.1), q.2) :=
  zCN.of (by decide) rfl rfl (Nat.le_of_ble_eq_true rfl) (zEV.perm [0, 1, 2, 3] rfl (tX7_refusesPlan_0 a1 a2 a3 M q h))
-- RingedPageModel.plans
def fX7_plans (a1 : Int32) (a2 : Int32) (a3 : Int32) (M : zMM) : Option (Int32 × zMM) :=
  (fX7_refusesPlan (a1) (a2) (a3) (wr M 158 5 0)).bind fun q1 =>
  if (0 : Int32) ≤ q1.1 then
    (fX7_change  q1.2).bind fun q3 =>
    (fX7_putPlan (a1) (a2) (a3) q3).bind fun q4 =>
    some ((((10000 * (q3.1 159 2)) + (100 * (q3.1 159 3))) + (q3.1 159 4)), q4)
  else
    some (q1.1, q1.2)
set_option maxRecDepth 100000 in
theorem tX7_plans_0 (a1 : Int32) (a2 : Int32) (a3 : Int32) (M : zMM) (q : Int32 × zMM) (h : fX7_plans a1 a2 a3  M = some q) : zEV iX7_plans 0 0 (zZO (some (.inl q.1), q.2)) 0 [(0, .inr (.inr 158)), (1, .inl a1), (2, .inl a2), (3, .inl a3)] [] M := by
  unfold fX7_plans at h
  refine zEV.aload_n dX7_plans_0 rfl 0 rfl ?_
  refine zEV.iconst (v := 0) dX7_plans_1 rfl ?_
  refine zEV.pfi rfl inz7 tyX7 tyX7_ok nmX7 5 (by decide) wf_RX7_58 rfl (by decide +kernel) (by decide) rfl rfl dX7_plans_2 ?_
  refine zEV.aload_n dX7_plans_5 rfl 0 rfl ?_
  refine zEV.iload_n dX7_plans_6 rfl 1 rfl ?_
  refine zEV.iload_n dX7_plans_7 rfl 2 rfl ?_
  refine zEV.iload_n dX7_plans_8 rfl 3 rfl ?_
  obtain ⟨q1, hq1, h⟩ := bind_yes h
  refine zEV.callVi (kX7_refusesPlan (a1) (a2) (a3)  (wr M 158 5 0) q1 hq1) (by decide) rfl rfl wm_RX7_291 wc_X7_refusesPlan hy_X7_refusesPlan rfl ⟨Nat.le_of_ble_eq_true rfl, Nat.le_of_ble_eq_true rfl⟩ rfl (Nat.le_of_ble_eq_true rfl) dX7_plans_9 ?_
  refine zEV.istore dX7_plans_12 (Nat.le_of_ble_eq_true rfl) rfl ?_
  refine zEV.iload dX7_plans_14 0 rfl ?_
  refine zEV.if_ge 22 dX7_plans_16 (by decide) (fun c2 => ?_) (fun c2 => ?_)
  · rw [if_pos c2] at h
    refine zEV.aload_n dX7_plans_22 rfl 1 rfl ?_
    obtain ⟨q3, hq3, h⟩ := bind_yes h
    refine zEV.callVv (kX7_change   q1.2 q3 hq3) (by decide) rfl rfl wm_RX7_107 wc_X7_change hy_X7_change rfl ⟨Nat.le_of_ble_eq_true rfl, Nat.le_of_ble_eq_true rfl⟩ rfl (Nat.le_of_ble_eq_true rfl) dX7_plans_23 ?_
    refine zEV.sipush (v := 10000) dX7_plans_26 rfl ?_
    refine zEV.aload_n dX7_plans_29 rfl 1 rfl ?_
    refine zEV.gfr rfl inz7 0 (by decide) wf_RX7_9 (by decide) rfl rfl dX7_plans_30 ?_
    refine zEV.iconst (v := 2) dX7_plans_33 rfl ?_
    refine zEV.ialdL (j := 2) (by decide) rfl (by decide) (by decide) dX7_plans_34 ?_
    refine zEV.imul dX7_plans_35 ?_
    refine zEV.bipush (v := 100) dX7_plans_36 rfl ?_
    refine zEV.aload_n dX7_plans_38 rfl 1 rfl ?_
    refine zEV.gfr rfl inz7 0 (by decide) wf_RX7_9 (by decide) rfl rfl dX7_plans_39 ?_
    refine zEV.iconst (v := 3) dX7_plans_42 rfl ?_
    refine zEV.ialdL (j := 3) (by decide) rfl (by decide) (by decide) dX7_plans_43 ?_
    refine zEV.imul dX7_plans_44 ?_
    refine zEV.iadd dX7_plans_45 ?_
    refine zEV.aload_n dX7_plans_46 rfl 1 rfl ?_
    refine zEV.gfr rfl inz7 0 (by decide) wf_RX7_9 (by decide) rfl rfl dX7_plans_47 ?_
    refine zEV.iconst (v := 4) dX7_plans_50 rfl ?_
    refine zEV.ialdL (j := 4) (by decide) rfl (by decide) (by decide) dX7_plans_51 ?_
    refine zEV.iadd dX7_plans_52 ?_
    refine zEV.istore dX7_plans_53 (Nat.le_of_ble_eq_true rfl) rfl ?_
    refine zEV.aload_n dX7_plans_55 rfl 2 rfl ?_
    refine zEV.iload_n dX7_plans_56 rfl 3 rfl ?_
    refine zEV.iload_n dX7_plans_57 rfl 4 rfl ?_
    refine zEV.iload_n dX7_plans_58 rfl 5 rfl ?_
    obtain ⟨q4, hq4, h⟩ := bind_yes h
    refine zEV.callVv (kX7_putPlan (a1) (a2) (a3)  q3 q4 hq4) (by decide) rfl rfl wm_RX7_233 wc_X7_putPlan hy_X7_putPlan rfl ⟨Nat.le_of_ble_eq_true rfl, Nat.le_of_ble_eq_true rfl⟩ rfl (Nat.le_of_ble_eq_true rfl) dX7_plans_59 ?_
    refine zEV.iload dX7_plans_62 0 rfl ?_
    have h := Option.some.inj h
    subst h
    exact zEV.iret rfl dX7_plans_64
  · rw [if_neg c2] at h
    refine zEV.iload dX7_plans_19 0 rfl ?_
    have h := Option.some.inj h
    subst h
    exact zEV.iret rfl dX7_plans_21
theorem kX7_plans (a1 : Int32) (a2 : Int32) (a3 : Int32) (M : zMM) (q : Int32 × zMM) (h : fX7_plans a1 a2 a3 M = some q) : zCN yX7_plans iX7_plans [.inr (.inr 158), .inl a1, .inl a2, .inl a3] M (some (.inl q.1), q.2) :=
  zCN.of (by decide) rfl rfl (Nat.le_of_ble_eq_true rfl) (zEV.perm [0, 1, 2, 3] rfl (tX7_plans_0 a1 a2 a3 M q h))
-- RingedPageModel.refusesBest
def fX7_refusesBest (a1 : Int32) (a2 : Int32) (M : zMM) : Option (Int32 × zMM) :=
  (fX7_isGrid (a1) (a2) M).bind fun q1 =>
  if q1.1 = (0 : Int32) then
    some ((-1), q1.2)
  else
    (fX7_goGrid (a1) (a2) (0) q1.2).bind fun q3 =>
    (fX7_refusesPlan ((q3.1 167 0)) ((q3.1 167 1)) ((q3.1 167 2)) q3).bind fun q4 =>
    some (q4.1, q4.2)
set_option maxRecDepth 100000 in
theorem tX7_refusesBest_0 (a1 : Int32) (a2 : Int32) (M : zMM) (q : Int32 × zMM) (h : fX7_refusesBest a1 a2  M = some q) : zEV iX7_refusesBest 0 0 (zZO (some (.inl q.1), q.2)) 0 [(0, .inr (.inr 158)), (1, .inl a1), (2, .inl a2)] [] M := by
  unfold fX7_refusesBest at h
  refine zEV.iload_n dX7_refusesBest_0 rfl 1 rfl ?_
  refine zEV.iload_n dX7_refusesBest_1 rfl 2 rfl ?_
  obtain ⟨q1, hq1, h⟩ := bind_yes h
  refine zEV.callSi (kX7_isGrid (a1) (a2)  M q1 hq1) wm_RX7_252 wc_X7_isGrid hy_X7_isGrid rfl ⟨Nat.le_of_ble_eq_true rfl, Nat.le_of_ble_eq_true rfl⟩ rfl (Nat.le_of_ble_eq_true rfl) dX7_refusesBest_2 ?_
  refine zEV.if_ne 10 dX7_refusesBest_5 (by decide) (fun c2 => ?_) (fun c2 => ?_)
  · rw [if_neg c2] at h
    refine zEV.aload_n dX7_refusesBest_10 rfl 0 rfl ?_
    refine zEV.iload_n dX7_refusesBest_11 rfl 1 rfl ?_
    refine zEV.iload_n dX7_refusesBest_12 rfl 2 rfl ?_
    refine zEV.iconst (v := 0) dX7_refusesBest_13 rfl ?_
    obtain ⟨q3, hq3, h⟩ := bind_yes h
    refine zEV.callVv (kX7_goGrid (a1) (a2) (0)  q1.2 q3 hq3) (by decide) rfl rfl wm_RX7_255 wc_X7_goGrid hy_X7_goGrid rfl ⟨Nat.le_of_ble_eq_true rfl, Nat.le_of_ble_eq_true rfl⟩ rfl (Nat.le_of_ble_eq_true rfl) dX7_refusesBest_14 ?_
    refine zEV.aload_n dX7_refusesBest_17 rfl 0 rfl ?_
    refine zEV.aload_n dX7_refusesBest_18 rfl 0 rfl ?_
    refine zEV.gfr rfl inz7 16 (by decide) wf_RX7_36 (by decide) rfl rfl dX7_refusesBest_19 ?_
    refine zEV.iconst (v := 0) dX7_refusesBest_22 rfl ?_
    refine zEV.ialdL (j := 0) (by decide) rfl (by decide) (by decide) dX7_refusesBest_23 ?_
    refine zEV.aload_n dX7_refusesBest_24 rfl 0 rfl ?_
    refine zEV.gfr rfl inz7 16 (by decide) wf_RX7_36 (by decide) rfl rfl dX7_refusesBest_25 ?_
    refine zEV.iconst (v := 1) dX7_refusesBest_28 rfl ?_
    refine zEV.ialdL (j := 1) (by decide) rfl (by decide) (by decide) dX7_refusesBest_29 ?_
    refine zEV.aload_n dX7_refusesBest_30 rfl 0 rfl ?_
    refine zEV.gfr rfl inz7 16 (by decide) wf_RX7_36 (by decide) rfl rfl dX7_refusesBest_31 ?_
    refine zEV.iconst (v := 2) dX7_refusesBest_34 rfl ?_
    refine zEV.ialdL (j := 2) (by decide) rfl (by decide) (by decide) dX7_refusesBest_35 ?_
    obtain ⟨q4, hq4, h⟩ := bind_yes h
    refine zEV.callVi (kX7_refusesPlan ((q3.1 167 0)) ((q3.1 167 1)) ((q3.1 167 2))  q3 q4 hq4) (by decide) rfl rfl wm_RX7_291 wc_X7_refusesPlan hy_X7_refusesPlan rfl ⟨Nat.le_of_ble_eq_true rfl, Nat.le_of_ble_eq_true rfl⟩ rfl (Nat.le_of_ble_eq_true rfl) dX7_refusesBest_36 ?_
    have h := Option.some.inj h
    subst h
    exact zEV.iret rfl dX7_refusesBest_39
  · rw [if_pos c2] at h
    refine zEV.iconst (v := (-1)) dX7_refusesBest_8 rfl ?_
    have h := Option.some.inj h
    subst h
    exact zEV.iret rfl dX7_refusesBest_9
theorem kX7_refusesBest (a1 : Int32) (a2 : Int32) (M : zMM) (q : Int32 × zMM) (h : fX7_refusesBest a1 a2 M = some q) : zCN yX7_refusesBest iX7_refusesBest [.inr (.inr 158), .inl a1, .inl a2] M (some (.inl q.1), q.2) :=
  zCN.of (by decide) rfl rfl (Nat.le_of_ble_eq_true rfl) (zEV.perm [0, 1, 2] rfl (tX7_refusesBest_0 a1 a2 M q h))
-- RingedPageModel.takesBest
def fX7_takesBest (a1 : Int32) (a2 : Int32) (M : zMM) : Option (Int32 × zMM) :=
  (fX7_refusesBest (a1) (a2) (wr M 158 5 0)).bind fun q1 =>
  if (0 : Int32) ≤ q1.1 then
    (fX7_change  q1.2).bind fun q3 =>
    (fX7_putPlan ((q3.1 167 0)) ((q3.1 167 1)) ((q3.1 167 2)) q3).bind fun q4 =>
    some ((q4.1 158 18), q4)
  else
    some (q1.1, q1.2)
set_option maxRecDepth 100000 in
theorem tX7_takesBest_0 (a1 : Int32) (a2 : Int32) (M : zMM) (q : Int32 × zMM) (h : fX7_takesBest a1 a2  M = some q) : zEV iX7_takesBest 0 0 (zZO (some (.inl q.1), q.2)) 0 [(0, .inr (.inr 158)), (1, .inl a1), (2, .inl a2)] [] M := by
  unfold fX7_takesBest at h
  refine zEV.aload_n dX7_takesBest_0 rfl 0 rfl ?_
  refine zEV.iconst (v := 0) dX7_takesBest_1 rfl ?_
  refine zEV.pfi rfl inz7 tyX7 tyX7_ok nmX7 5 (by decide) wf_RX7_58 rfl (by decide +kernel) (by decide) rfl rfl dX7_takesBest_2 ?_
  refine zEV.aload_n dX7_takesBest_5 rfl 0 rfl ?_
  refine zEV.iload_n dX7_takesBest_6 rfl 1 rfl ?_
  refine zEV.iload_n dX7_takesBest_7 rfl 2 rfl ?_
  obtain ⟨q1, hq1, h⟩ := bind_yes h
  refine zEV.callVi (kX7_refusesBest (a1) (a2)  (wr M 158 5 0) q1 hq1) (by decide) rfl rfl wm_RX7_294 wc_X7_refusesBest hy_X7_refusesBest rfl ⟨Nat.le_of_ble_eq_true rfl, Nat.le_of_ble_eq_true rfl⟩ rfl (Nat.le_of_ble_eq_true rfl) dX7_takesBest_8 ?_
  refine zEV.istore_n dX7_takesBest_11 rfl (Nat.le_of_ble_eq_true rfl) rfl ?_
  refine zEV.iload_n dX7_takesBest_12 rfl 0 rfl ?_
  refine zEV.if_ge 18 dX7_takesBest_13 (by decide) (fun c2 => ?_) (fun c2 => ?_)
  · rw [if_pos c2] at h
    refine zEV.aload_n dX7_takesBest_18 rfl 1 rfl ?_
    obtain ⟨q3, hq3, h⟩ := bind_yes h
    refine zEV.callVv (kX7_change   q1.2 q3 hq3) (by decide) rfl rfl wm_RX7_107 wc_X7_change hy_X7_change rfl ⟨Nat.le_of_ble_eq_true rfl, Nat.le_of_ble_eq_true rfl⟩ rfl (Nat.le_of_ble_eq_true rfl) dX7_takesBest_19 ?_
    refine zEV.aload_n dX7_takesBest_22 rfl 1 rfl ?_
    refine zEV.aload_n dX7_takesBest_23 rfl 1 rfl ?_
    refine zEV.gfr rfl inz7 16 (by decide) wf_RX7_36 (by decide) rfl rfl dX7_takesBest_24 ?_
    refine zEV.iconst (v := 0) dX7_takesBest_27 rfl ?_
    refine zEV.ialdL (j := 0) (by decide) rfl (by decide) (by decide) dX7_takesBest_28 ?_
    refine zEV.aload_n dX7_takesBest_29 rfl 1 rfl ?_
    refine zEV.gfr rfl inz7 16 (by decide) wf_RX7_36 (by decide) rfl rfl dX7_takesBest_30 ?_
    refine zEV.iconst (v := 1) dX7_takesBest_33 rfl ?_
    refine zEV.ialdL (j := 1) (by decide) rfl (by decide) (by decide) dX7_takesBest_34 ?_
    refine zEV.aload_n dX7_takesBest_35 rfl 1 rfl ?_
    refine zEV.gfr rfl inz7 16 (by decide) wf_RX7_36 (by decide) rfl rfl dX7_takesBest_36 ?_
    refine zEV.iconst (v := 2) dX7_takesBest_39 rfl ?_
    refine zEV.ialdL (j := 2) (by decide) rfl (by decide) (by decide) dX7_takesBest_40 ?_
    obtain ⟨q4, hq4, h⟩ := bind_yes h
    refine zEV.callVv (kX7_putPlan ((q3.1 167 0)) ((q3.1 167 1)) ((q3.1 167 2))  q3 q4 hq4) (by decide) rfl rfl wm_RX7_233 wc_X7_putPlan hy_X7_putPlan rfl ⟨Nat.le_of_ble_eq_true rfl, Nat.le_of_ble_eq_true rfl⟩ rfl (Nat.le_of_ble_eq_true rfl) dX7_takesBest_41 ?_
    refine zEV.aload_n dX7_takesBest_44 rfl 1 rfl ?_
    refine zEV.gfi rfl inz7 18 (by decide) wf_RX7_243 (by decide) rfl rfl dX7_takesBest_45 ?_
    have h := Option.some.inj h
    subst h
    exact zEV.iret rfl dX7_takesBest_48
  · rw [if_neg c2] at h
    refine zEV.iload_n dX7_takesBest_16 rfl 0 rfl ?_
    have h := Option.some.inj h
    subst h
    exact zEV.iret rfl dX7_takesBest_17
theorem kX7_takesBest (a1 : Int32) (a2 : Int32) (M : zMM) (q : Int32 × zMM) (h : fX7_takesBest a1 a2 M = some q) : zCN yX7_takesBest iX7_takesBest [.inr (.inr 158), .inl a1, .inl a2] M (some (.inl q.1), q.2) :=
  zCN.of (by decide) rfl rfl (Nat.le_of_ble_eq_true rfl) (zEV.perm [0, 1, 2] rfl (tX7_takesBest_0 a1 a2 M q h))
-- RingedPageModel.weighs
def fX7_weighs_29 (a1 : Int32) (a2 : Int32) (s0 : Int32) (s1 : Int32) (s2 : Int32) (M : zMM) : Option (Int32 × zMM) :=
  (fX7_in (s2) (s1) (s0) M).bind fun q1 =>
  if q1.1 = (0 : Int32) then
    some ((-1), q1.2)
  else
    if oob ((256 + a1)) 259 then none else
    if (q1.2.1 159 (Int32.toNatClampNeg (256 + a1))) = a2 then
      some ((-2), q1.2)
    else
      (fX7_change  q1.2).bind fun q5 =>
      some ((q5.1 159 (Int32.toNatClampNeg (256 + a1))), (wr q5 159 (Int32.toNatClampNeg (256 + a1)) a2))
set_option maxRecDepth 100000 in
theorem tX7_weighs_29 (a1 : Int32) (a2 : Int32) (s0 : Int32) (s1 : Int32) (s2 : Int32) (M : zMM) (q : Int32 × zMM) (h : fX7_weighs_29 a1 a2 s0 s1 s2 M = some q) : zEV iX7_weighs 0 0 (zZO (some (.inl q.1), q.2)) 29 [(0, .inr (.inr 158)), (1, .inl a1), (2, .inl a2)] [.inl s0, .inl s1, .inl s2] M := by
  unfold fX7_weighs_29 at h
  obtain ⟨q1, hq1, h⟩ := bind_yes h
  refine zEV.callSi (kX7_in (s2) (s1) (s0)  M q1 hq1) wm_RX7_65 wc_X7_in hy_X7_in rfl ⟨Nat.le_of_ble_eq_true rfl, Nat.le_of_ble_eq_true rfl⟩ rfl (Nat.le_of_ble_eq_true rfl) dX7_weighs_29 ?_
  refine zEV.if_ne 37 dX7_weighs_32 (by decide) (fun c2 => ?_) (fun c2 => ?_)
  · rw [if_neg c2] at h
    refine zEV.aload_n dX7_weighs_37 rfl 0 rfl ?_
    refine zEV.gfr rfl inz7 0 (by decide) wf_RX7_9 (by decide) rfl rfl dX7_weighs_38 ?_
    refine zEV.sipush (v := 256) dX7_weighs_41 rfl ?_
    refine zEV.iload_n dX7_weighs_44 rfl 1 rfl ?_
    refine zEV.iadd dX7_weighs_45 ?_
    obtain ⟨g3, h⟩ := ite_no h
    refine zEV.iald (by decide) rfl g3 dX7_weighs_46 ?_
    refine zEV.iload_n dX7_weighs_47 rfl 2 rfl ?_
    refine zEV.icmp_ne 54 dX7_weighs_48 (by decide) (fun c4 => ?_) (fun c4 => ?_)
    · rw [if_neg c4] at h
      refine zEV.aload_n dX7_weighs_54 rfl 0 rfl ?_
      obtain ⟨q5, hq5, h⟩ := bind_yes h
      refine zEV.callVv (kX7_change   q1.2 q5 hq5) (by decide) rfl rfl wm_RX7_107 wc_X7_change hy_X7_change rfl ⟨Nat.le_of_ble_eq_true rfl, Nat.le_of_ble_eq_true rfl⟩ rfl (Nat.le_of_ble_eq_true rfl) dX7_weighs_55 ?_
      refine zEV.aload_n dX7_weighs_58 rfl 0 rfl ?_
      refine zEV.gfr rfl inz7 0 (by decide) wf_RX7_9 (by decide) rfl rfl dX7_weighs_59 ?_
      refine zEV.sipush (v := 256) dX7_weighs_62 rfl ?_
      refine zEV.iload_n dX7_weighs_65 rfl 1 rfl ?_
      refine zEV.iadd dX7_weighs_66 ?_
      refine zEV.iald (by decide) rfl g3 dX7_weighs_67 ?_
      refine zEV.istore_n dX7_weighs_68 rfl (Nat.le_of_ble_eq_true rfl) rfl ?_
      refine zEV.aload_n dX7_weighs_69 rfl 1 rfl ?_
      refine zEV.gfr rfl inz7 0 (by decide) wf_RX7_9 (by decide) rfl rfl dX7_weighs_70 ?_
      refine zEV.sipush (v := 256) dX7_weighs_73 rfl ?_
      refine zEV.iload_n dX7_weighs_76 rfl 2 rfl ?_
      refine zEV.iadd dX7_weighs_77 ?_
      refine zEV.iload_n dX7_weighs_78 rfl 3 rfl ?_
      refine zEV.iast (by decide) rfl g3 dX7_weighs_79 ?_
      refine zEV.iload_n dX7_weighs_80 rfl 0 rfl ?_
      have h := Option.some.inj h
      subst h
      exact zEV.iret rfl dX7_weighs_81
    · rw [if_pos c4] at h
      refine zEV.bipush (v := (-2)) dX7_weighs_51 rfl ?_
      have h := Option.some.inj h
      subst h
      exact zEV.iret rfl dX7_weighs_53
  · rw [if_pos c2] at h
    refine zEV.iconst (v := (-1)) dX7_weighs_35 rfl ?_
    have h := Option.some.inj h
    subst h
    exact zEV.iret rfl dX7_weighs_36
def fX7_weighs (a1 : Int32) (a2 : Int32) (M : zMM) : Option (Int32 × zMM) :=
  (fX7_in (a1) (0) (2) (wr M 158 5 0)).bind fun q1 =>
  if q1.1 = (0 : Int32) then
    some ((-1), q1.2)
  else
    if a1 = 2 then
      fX7_weighs_29 a1 a2 (100) (0) (a2) q1.2
    else
      fX7_weighs_29 a1 a2 (10000) (0) (a2) q1.2
set_option maxRecDepth 100000 in
theorem tX7_weighs_0 (a1 : Int32) (a2 : Int32) (M : zMM) (q : Int32 × zMM) (h : fX7_weighs a1 a2  M = some q) : zEV iX7_weighs 0 0 (zZO (some (.inl q.1), q.2)) 0 [(0, .inr (.inr 158)), (1, .inl a1), (2, .inl a2)] [] M := by
  unfold fX7_weighs at h
  refine zEV.aload_n dX7_weighs_0 rfl 0 rfl ?_
  refine zEV.iconst (v := 0) dX7_weighs_1 rfl ?_
  refine zEV.pfi rfl inz7 tyX7 tyX7_ok nmX7 5 (by decide) wf_RX7_58 rfl (by decide +kernel) (by decide) rfl rfl dX7_weighs_2 ?_
  refine zEV.iload_n dX7_weighs_5 rfl 1 rfl ?_
  refine zEV.iconst (v := 0) dX7_weighs_6 rfl ?_
  refine zEV.iconst (v := 2) dX7_weighs_7 rfl ?_
  obtain ⟨q1, hq1, h⟩ := bind_yes h
  refine zEV.callSi (kX7_in (a1) (0) (2)  (wr M 158 5 0) q1 hq1) wm_RX7_65 wc_X7_in hy_X7_in rfl ⟨Nat.le_of_ble_eq_true rfl, Nat.le_of_ble_eq_true rfl⟩ rfl (Nat.le_of_ble_eq_true rfl) dX7_weighs_8 ?_
  refine zEV.if_eq 35 dX7_weighs_11 (by decide) (fun c2 => ?_) (fun c2 => ?_)
  · rw [if_pos c2] at h
    refine zEV.iconst (v := (-1)) dX7_weighs_35 rfl ?_
    have h := Option.some.inj h
    subst h
    exact zEV.iret rfl dX7_weighs_36
  · rw [if_neg c2] at h
    refine zEV.iload_n dX7_weighs_14 rfl 2 rfl ?_
    refine zEV.iconst (v := 0) dX7_weighs_15 rfl ?_
    refine zEV.iload_n dX7_weighs_16 rfl 1 rfl ?_
    refine zEV.iconst (v := 2) dX7_weighs_17 rfl ?_
    refine zEV.icmp_ne 26 dX7_weighs_18 (by decide) (fun c3 => ?_) (fun c3 => ?_)
    · rw [if_neg c3] at h
      refine zEV.sipush (v := 10000) dX7_weighs_26 rfl ?_
      exact zEV.perm [0, 1, 2] rfl (tX7_weighs_29 a1 a2 (10000) (0) (a2) q1.2 q h)
    · rw [if_pos c3] at h
      refine zEV.bipush (v := 100) dX7_weighs_21 rfl ?_
      refine zEV.goto 29 dX7_weighs_23 (by decide) ?_
      exact zEV.perm [0, 1, 2] rfl (tX7_weighs_29 a1 a2 (100) (0) (a2) q1.2 q h)
theorem kX7_weighs (a1 : Int32) (a2 : Int32) (M : zMM) (q : Int32 × zMM) (h : fX7_weighs a1 a2 M = some q) : zCN yX7_weighs iX7_weighs [.inr (.inr 158), .inl a1, .inl a2] M (some (.inl q.1), q.2) :=
  zCN.of (by decide) rfl rfl (Nat.le_of_ble_eq_true rfl) (zEV.perm [0, 1, 2] rfl (tX7_weighs_0 a1 a2 M q h))
-- RingedPageModel.goSwap
def fX7_goSwap_95 : Nat → Int32 → zMM → Option (Int32 × zMM)
  | 0, _, _ => none
  | n + 1, l1, M =>
  if (M.1 159 218) ≤ l1 then
    some (1, M)
  else
    (fX7_tied (l1) (0) M).bind fun q2 =>
    if oob ((219 + (3 * l1))) 259 then none else
    fX7_goSwap_95 n ((l1 + 1)) (wr q2.2 159 (Int32.toNatClampNeg (219 + (3 * l1))) (3 - q2.1))
set_option maxRecDepth 100000 in
theorem tX7_goSwap_95 : ∀ (n : Nat) (l1 : Int32) (M : zMM) (q : Int32 × zMM), fX7_goSwap_95 n l1 M = some q → zEV iX7_goSwap 0 0 (zZO (some (.inl q.1), q.2)) 95 [(0, .inr (.inr 158)), (1, .inl l1)] [] M := by
  intro n
  induction n with
  | zero =>
    intro l1 M q h
    rw [fX7_goSwap_95] at h
    cases h
  | succ n ih =>
    intro l1 M q h
    rw [fX7_goSwap_95] at h
    refine zEV.iload_n dX7_goSwap_95 rfl 1 rfl ?_
    refine zEV.aload_n dX7_goSwap_96 rfl 0 rfl ?_
    refine zEV.gfr rfl inz7 0 (by decide) wf_RX7_9 (by decide) rfl rfl dX7_goSwap_97 ?_
    refine zEV.sipush (v := 218) dX7_goSwap_100 rfl ?_
    refine zEV.ialdL (j := 218) (by decide) rfl (by decide) (by decide) dX7_goSwap_103 ?_
    refine zEV.icmp_ge 133 dX7_goSwap_104 (by decide) (fun c1 => ?_) (fun c1 => ?_)
    · rw [if_pos c1] at h
      refine zEV.iconst (v := 1) dX7_goSwap_133 rfl ?_
      have h := Option.some.inj h
      subst h
      exact zEV.zret rfl (Or.inr rfl) dX7_goSwap_134
    · rw [if_neg c1] at h
      refine zEV.aload_n dX7_goSwap_107 rfl 0 rfl ?_
      refine zEV.gfr rfl inz7 0 (by decide) wf_RX7_9 (by decide) rfl rfl dX7_goSwap_108 ?_
      refine zEV.sipush (v := 219) dX7_goSwap_111 rfl ?_
      refine zEV.iconst (v := 3) dX7_goSwap_114 rfl ?_
      refine zEV.iload_n dX7_goSwap_115 rfl 1 rfl ?_
      refine zEV.imul dX7_goSwap_116 ?_
      refine zEV.iadd dX7_goSwap_117 ?_
      refine zEV.iconst (v := 3) dX7_goSwap_118 rfl ?_
      refine zEV.aload_n dX7_goSwap_119 rfl 0 rfl ?_
      refine zEV.iload_n dX7_goSwap_120 rfl 1 rfl ?_
      refine zEV.iconst (v := 0) dX7_goSwap_121 rfl ?_
      obtain ⟨q2, hq2, h⟩ := bind_yes h
      refine zEV.callVi (kX7_tied (l1) (0)  M q2 hq2) (by decide) rfl rfl wm_RX7_110 wc_X7_tied hy_X7_tied rfl ⟨Nat.le_of_ble_eq_true rfl, Nat.le_of_ble_eq_true rfl⟩ rfl (Nat.le_of_ble_eq_true rfl) dX7_goSwap_122 ?_
      refine zEV.isub dX7_goSwap_125 ?_
      obtain ⟨g3, h⟩ := ite_no h
      refine zEV.iast (by decide) rfl g3 dX7_goSwap_126 ?_
      refine zEV.iinc (v := (l1 + 1)) dX7_goSwap_127 1 rfl rfl (Nat.le_of_ble_eq_true rfl) rfl ?_
      refine zEV.goto 95 dX7_goSwap_130 (by decide) ?_
      exact zEV.perm [1, 0] rfl (ih ((l1 + 1)) (wr q2.2 159 (Int32.toNatClampNeg (219 + (3 * l1))) (3 - q2.1)) q h)
def fX7_goSwap_58 (K24 : Int32 → zMM → Option (Int32 × zMM)) (l1 : Int32) (l2 : Int32) (s0 : Int32) (M : zMM) : Option (Int32 × zMM) :=
  if oob (l2) 259 then none else
  if oob (s0) 259 then none else
  K24 ((l1 + 1)) (wr (wr M 159 (Int32.toNatClampNeg l2) (M.1 159 (Int32.toNatClampNeg s0))) 159 (Int32.toNatClampNeg s0) (M.1 159 (Int32.toNatClampNeg l2)))
set_option maxRecDepth 100000 in
theorem tX7_goSwap_58 (K24 : Int32 → zMM → Option (Int32 × zMM)) (hK24 : ∀ (l1 : Int32) (M : zMM) (q : Int32 × zMM), K24 l1 M = some q → zEV iX7_goSwap 0 0 (zZO (some (.inl q.1), q.2)) 24 [(0, .inr (.inr 158)), (1, .inl l1)] [] M) (l1 : Int32) (l2 : Int32) (s0 : Int32) (M : zMM) (q : Int32 × zMM) (h : fX7_goSwap_58 K24 l1 l2 s0 M = some q) : zEV iX7_goSwap 0 0 (zZO (some (.inl q.1), q.2)) 58 [(0, .inr (.inr 158)), (1, .inl l1), (2, .inl l2)] [.inl s0] M := by
  unfold fX7_goSwap_58 at h
  refine zEV.istore_n dX7_goSwap_58 rfl (Nat.le_of_ble_eq_true rfl) rfl ?_
  refine zEV.aload_n dX7_goSwap_59 rfl 1 rfl ?_
  refine zEV.gfr rfl inz7 0 (by decide) wf_RX7_9 (by decide) rfl rfl dX7_goSwap_60 ?_
  refine zEV.iload_n dX7_goSwap_63 rfl 3 rfl ?_
  obtain ⟨g1, h⟩ := ite_no h
  refine zEV.iald (by decide) rfl g1 dX7_goSwap_64 ?_
  refine zEV.istore dX7_goSwap_65 (Nat.le_of_ble_eq_true rfl) rfl ?_
  refine zEV.aload_n dX7_goSwap_67 rfl 2 rfl ?_
  refine zEV.gfr rfl inz7 0 (by decide) wf_RX7_9 (by decide) rfl rfl dX7_goSwap_68 ?_
  refine zEV.iload_n dX7_goSwap_71 rfl 4 rfl ?_
  refine zEV.aload_n dX7_goSwap_72 rfl 2 rfl ?_
  refine zEV.gfr rfl inz7 0 (by decide) wf_RX7_9 (by decide) rfl rfl dX7_goSwap_73 ?_
  refine zEV.iload_n dX7_goSwap_76 rfl 1 rfl ?_
  obtain ⟨g2, h⟩ := ite_no h
  refine zEV.iald (by decide) rfl g2 dX7_goSwap_77 ?_
  refine zEV.iast (by decide) rfl g1 dX7_goSwap_78 ?_
  refine zEV.aload_n dX7_goSwap_79 rfl 2 rfl ?_
  refine zEV.gfr rfl inz7 0 (by decide) wf_RX7_9 (by decide) rfl rfl dX7_goSwap_80 ?_
  refine zEV.iload_n dX7_goSwap_83 rfl 1 rfl ?_
  refine zEV.iload dX7_goSwap_84 0 rfl ?_
  refine zEV.iast (by decide) rfl g2 dX7_goSwap_86 ?_
  refine zEV.iinc (v := (l1 + 1)) dX7_goSwap_87 3 rfl rfl (Nat.le_of_ble_eq_true rfl) rfl ?_
  refine zEV.goto 24 dX7_goSwap_90 (by decide) ?_
  exact zEV.perm [3, 0] rfl (hK24 ((l1 + 1)) (wr (wr M 159 (Int32.toNatClampNeg l2) (M.1 159 (Int32.toNatClampNeg s0))) 159 (Int32.toNatClampNeg s0) (M.1 159 (Int32.toNatClampNeg l2))) q h)
def fX7_goSwap_43 (K24 : Int32 → zMM → Option (Int32 × zMM)) (l1 : Int32) (s0 : Int32) (M : zMM) : Option (Int32 × zMM) :=
  if (0 : Int32) ≤ l1 then
    fX7_goSwap_58 K24 (l1) (s0) ((148 + l1)) M
  else
    fX7_goSwap_58 K24 (l1) (s0) (7) M
set_option maxRecDepth 100000 in
theorem tX7_goSwap_43 (K24 : Int32 → zMM → Option (Int32 × zMM)) (hK24 : ∀ (l1 : Int32) (M : zMM) (q : Int32 × zMM), K24 l1 M = some q → zEV iX7_goSwap 0 0 (zZO (some (.inl q.1), q.2)) 24 [(0, .inr (.inr 158)), (1, .inl l1)] [] M) (l1 : Int32) (s0 : Int32) (M : zMM) (q : Int32 × zMM) (h : fX7_goSwap_43 K24 l1 s0 M = some q) : zEV iX7_goSwap 0 0 (zZO (some (.inl q.1), q.2)) 43 [(0, .inr (.inr 158)), (1, .inl l1)] [.inl s0] M := by
  unfold fX7_goSwap_43 at h
  refine zEV.istore_n dX7_goSwap_43 rfl (Nat.le_of_ble_eq_true rfl) rfl ?_
  refine zEV.iload_n dX7_goSwap_44 rfl 2 rfl ?_
  refine zEV.if_ge 53 dX7_goSwap_45 (by decide) (fun c1 => ?_) (fun c1 => ?_)
  · rw [if_pos c1] at h
    refine zEV.sipush (v := 148) dX7_goSwap_53 rfl ?_
    refine zEV.iload_n dX7_goSwap_56 rfl 2 rfl ?_
    refine zEV.iadd dX7_goSwap_57 ?_
    exact zEV.perm [1, 2, 0] rfl (tX7_goSwap_58 K24 hK24 (l1) (s0) ((148 + l1)) M q h)
  · rw [if_neg c1] at h
    refine zEV.bipush (v := 7) dX7_goSwap_48 rfl ?_
    refine zEV.goto 58 dX7_goSwap_50 (by decide) ?_
    exact zEV.perm [1, 2, 0] rfl (tX7_goSwap_58 K24 hK24 (l1) (s0) (7) M q h)
def fX7_goSwap_24 : Nat → Int32 → zMM → Option (Int32 × zMM)
  | 0, _, _ => none
  | n + 1, l1, M =>
  if (70 : Int32) ≤ l1 then
    fX7_goSwap_95 zFU (0) M
  else
    if (0 : Int32) ≤ l1 then
      fX7_goSwap_43 (fX7_goSwap_24 n) (l1) ((78 + l1)) M
    else
      fX7_goSwap_43 (fX7_goSwap_24 n) (l1) (6) M
set_option maxRecDepth 100000 in
theorem tX7_goSwap_24 : ∀ (n : Nat) (l1 : Int32) (M : zMM) (q : Int32 × zMM), fX7_goSwap_24 n l1 M = some q → zEV iX7_goSwap 0 0 (zZO (some (.inl q.1), q.2)) 24 [(0, .inr (.inr 158)), (1, .inl l1)] [] M := by
  intro n
  induction n with
  | zero =>
    intro l1 M q h
    rw [fX7_goSwap_24] at h
    cases h
  | succ n ih =>
    intro l1 M q h
    rw [fX7_goSwap_24] at h
    refine zEV.iload_n dX7_goSwap_24 rfl 1 rfl ?_
    refine zEV.bipush (v := 70) dX7_goSwap_25 rfl ?_
    refine zEV.icmp_ge 93 dX7_goSwap_27 (by decide) (fun c1 => ?_) (fun c1 => ?_)
    · rw [if_pos c1] at h
      refine zEV.iconst (v := 0) dX7_goSwap_93 rfl ?_
      refine zEV.istore_n dX7_goSwap_94 rfl (Nat.le_of_ble_eq_true rfl) rfl ?_
      exact zEV.perm [1, 0] rfl (tX7_goSwap_95 zFU (0) M q h)
    · rw [if_neg c1] at h
      refine zEV.iload_n dX7_goSwap_30 rfl 1 rfl ?_
      refine zEV.if_ge 39 dX7_goSwap_31 (by decide) (fun c2 => ?_) (fun c2 => ?_)
      · rw [if_pos c2] at h
        refine zEV.bipush (v := 78) dX7_goSwap_39 rfl ?_
        refine zEV.iload_n dX7_goSwap_41 rfl 1 rfl ?_
        refine zEV.iadd dX7_goSwap_42 ?_
        exact zEV.perm [0, 1] rfl (tX7_goSwap_43 (fX7_goSwap_24 n) (fun l1 M9 q9 h9 => ih l1 M9 q9 h9) (l1) ((78 + l1)) M q h)
      · rw [if_neg c2] at h
        refine zEV.bipush (v := 6) dX7_goSwap_34 rfl ?_
        refine zEV.goto 43 dX7_goSwap_36 (by decide) ?_
        exact zEV.perm [0, 1] rfl (tX7_goSwap_43 (fX7_goSwap_24 n) (fun l1 M9 q9 h9 => ih l1 M9 q9 h9) (l1) (6) M q h)
def fX7_goSwap_22 (M : zMM) : Option (Int32 × zMM) :=
  fX7_goSwap_24 zFU ((-1)) M
set_option maxRecDepth 100000 in
theorem tX7_goSwap_22 (M : zMM) (q : Int32 × zMM) (h : fX7_goSwap_22  M = some q) : zEV iX7_goSwap 0 0 (zZO (some (.inl q.1), q.2)) 22 [(0, .inr (.inr 158))] [] M := by
  unfold fX7_goSwap_22 at h
  refine zEV.iconst (v := (-1)) dX7_goSwap_22 rfl ?_
  refine zEV.istore_n dX7_goSwap_23 rfl (Nat.le_of_ble_eq_true rfl) rfl ?_
  exact zEV.perm [1, 0] rfl (tX7_goSwap_24 zFU ((-1)) M q h)
def fX7_goSwap (M : zMM) : Option (Int32 × zMM) :=
  if (M.1 159 6) = (0 : Int32) then
    if (M.1 159 7) = (0 : Int32) then
      some (0, M)
    else
      fX7_goSwap_22 M
  else
    fX7_goSwap_22 M
set_option maxRecDepth 100000 in
theorem tX7_goSwap_0 (M : zMM) (q : Int32 × zMM) (h : fX7_goSwap  M = some q) : zEV iX7_goSwap 0 0 (zZO (some (.inl q.1), q.2)) 0 [(0, .inr (.inr 158))] [] M := by
  unfold fX7_goSwap at h
  refine zEV.aload_n dX7_goSwap_0 rfl 0 rfl ?_
  refine zEV.gfr rfl inz7 0 (by decide) wf_RX7_9 (by decide) rfl rfl dX7_goSwap_1 ?_
  refine zEV.bipush (v := 6) dX7_goSwap_4 rfl ?_
  refine zEV.ialdL (j := 6) (by decide) rfl (by decide) (by decide) dX7_goSwap_6 ?_
  refine zEV.if_ne 22 dX7_goSwap_7 (by decide) (fun c1 => ?_) (fun c1 => ?_)
  · rw [if_neg c1] at h
    exact zEV.perm [0] rfl (tX7_goSwap_22 M q h)
  · rw [if_pos c1] at h
    refine zEV.aload_n dX7_goSwap_10 rfl 0 rfl ?_
    refine zEV.gfr rfl inz7 0 (by decide) wf_RX7_9 (by decide) rfl rfl dX7_goSwap_11 ?_
    refine zEV.bipush (v := 7) dX7_goSwap_14 rfl ?_
    refine zEV.ialdL (j := 7) (by decide) rfl (by decide) (by decide) dX7_goSwap_16 ?_
    refine zEV.if_ne 22 dX7_goSwap_17 (by decide) (fun c2 => ?_) (fun c2 => ?_)
    · rw [if_neg c2] at h
      exact zEV.perm [0] rfl (tX7_goSwap_22 M q h)
    · rw [if_pos c2] at h
      refine zEV.iconst (v := 0) dX7_goSwap_20 rfl ?_
      have h := Option.some.inj h
      subst h
      exact zEV.zret rfl (Or.inl rfl) dX7_goSwap_21
theorem kX7_goSwap (M : zMM) (q : Int32 × zMM) (h : fX7_goSwap M = some q) : zCN yX7_goSwap iX7_goSwap [.inr (.inr 158)] M (some (.inl q.1), q.2) :=
  zCN.of (by decide) rfl rfl (Nat.le_of_ble_eq_true rfl) (zEV.perm [0] rfl (tX7_goSwap_0 M q h))
-- RingedPageModel.swaps
def fX7_swaps (M : zMM) : Option (Int32 × zMM) :=
  (fX7_lay  (wr M 158 5 0)).bind fun q1 =>
  (fX7_goSwap  q1).bind fun q2 =>
  if q2.1 = (0 : Int32) then
    some ((-2), q2.2)
  else
    (fX7_note  q2.2).bind fun q4 =>
    some ((q4.1 159 6), q4)
set_option maxRecDepth 100000 in
theorem tX7_swaps_0 (M : zMM) (q : Int32 × zMM) (h : fX7_swaps  M = some q) : zEV iX7_swaps 0 0 (zZO (some (.inl q.1), q.2)) 0 [(0, .inr (.inr 158))] [] M := by
  unfold fX7_swaps at h
  refine zEV.aload_n dX7_swaps_0 rfl 0 rfl ?_
  refine zEV.iconst (v := 0) dX7_swaps_1 rfl ?_
  refine zEV.pfi rfl inz7 tyX7 tyX7_ok nmX7 5 (by decide) wf_RX7_58 rfl (by decide +kernel) (by decide) rfl rfl dX7_swaps_2 ?_
  refine zEV.aload_n dX7_swaps_5 rfl 0 rfl ?_
  obtain ⟨q1, hq1, h⟩ := bind_yes h
  refine zEV.callVv (kX7_lay   (wr M 158 5 0) q1 hq1) (by decide) rfl rfl wm_RX7_279 wc_X7_lay hy_X7_lay rfl ⟨Nat.le_of_ble_eq_true rfl, Nat.le_of_ble_eq_true rfl⟩ rfl (Nat.le_of_ble_eq_true rfl) dX7_swaps_6 ?_
  refine zEV.aload_n dX7_swaps_9 rfl 0 rfl ?_
  obtain ⟨q2, hq2, h⟩ := bind_yes h
  refine zEV.callVi (kX7_goSwap   q1 q2 hq2) (by decide) rfl rfl wm_RX7_297 wc_X7_goSwap hy_X7_goSwap rfl ⟨Nat.le_of_ble_eq_true rfl, Nat.le_of_ble_eq_true rfl⟩ rfl (Nat.le_of_ble_eq_true rfl) dX7_swaps_10 ?_
  refine zEV.if_ne 19 dX7_swaps_13 (by decide) (fun c3 => ?_) (fun c3 => ?_)
  · rw [if_neg c3] at h
    refine zEV.aload_n dX7_swaps_19 rfl 0 rfl ?_
    obtain ⟨q4, hq4, h⟩ := bind_yes h
    refine zEV.callVv (kX7_note   q2.2 q4 hq4) (by decide) rfl rfl wm_RX7_282 wc_X7_note hy_X7_note rfl ⟨Nat.le_of_ble_eq_true rfl, Nat.le_of_ble_eq_true rfl⟩ rfl (Nat.le_of_ble_eq_true rfl) dX7_swaps_20 ?_
    refine zEV.aload_n dX7_swaps_23 rfl 0 rfl ?_
    refine zEV.gfr rfl inz7 0 (by decide) wf_RX7_9 (by decide) rfl rfl dX7_swaps_24 ?_
    refine zEV.bipush (v := 6) dX7_swaps_27 rfl ?_
    refine zEV.ialdL (j := 6) (by decide) rfl (by decide) (by decide) dX7_swaps_29 ?_
    have h := Option.some.inj h
    subst h
    exact zEV.iret rfl dX7_swaps_30
  · rw [if_pos c3] at h
    refine zEV.bipush (v := (-2)) dX7_swaps_16 rfl ?_
    have h := Option.some.inj h
    subst h
    exact zEV.iret rfl dX7_swaps_18
theorem kX7_swaps (M : zMM) (q : Int32 × zMM) (h : fX7_swaps M = some q) : zCN yX7_swaps iX7_swaps [.inr (.inr 158)] M (some (.inl q.1), q.2) :=
  zCN.of (by decide) rfl rfl (Nat.le_of_ble_eq_true rfl) (zEV.perm [0] rfl (tX7_swaps_0 M q h))
-- RingedPageModel.comes
def fX7_comes (a1 : Int32) (a2 : Int32) (a3 : Int32) (M : zMM) : Option (Int32 × zMM) :=
  (fX7_refusesWord (a1) (a2) (a3) (wr M 158 5 0)).bind fun q1 =>
  if (0 : Int32) ≤ q1.1 then
    (fX7_change  q1.2).bind fun q3 =>
    (fX7_put (a1) (a2) (a3) q3).bind fun q4 =>
    if oob ((5 + a1)) 259 then none else
    some ((q4.1 159 (Int32.toNatClampNeg (5 + a1))), q4)
  else
    some (q1.1, q1.2)
set_option maxRecDepth 100000 in
theorem tX7_comes_0 (a1 : Int32) (a2 : Int32) (a3 : Int32) (M : zMM) (q : Int32 × zMM) (h : fX7_comes a1 a2 a3  M = some q) : zEV iX7_comes 0 0 (zZO (some (.inl q.1), q.2)) 0 [(0, .inr (.inr 158)), (1, .inl a1), (2, .inl a2), (3, .inl a3)] [] M := by
  unfold fX7_comes at h
  refine zEV.aload_n dX7_comes_0 rfl 0 rfl ?_
  refine zEV.iconst (v := 0) dX7_comes_1 rfl ?_
  refine zEV.pfi rfl inz7 tyX7 tyX7_ok nmX7 5 (by decide) wf_RX7_58 rfl (by decide +kernel) (by decide) rfl rfl dX7_comes_2 ?_
  refine zEV.aload_n dX7_comes_5 rfl 0 rfl ?_
  refine zEV.iload_n dX7_comes_6 rfl 1 rfl ?_
  refine zEV.iload_n dX7_comes_7 rfl 2 rfl ?_
  refine zEV.iload_n dX7_comes_8 rfl 3 rfl ?_
  obtain ⟨q1, hq1, h⟩ := bind_yes h
  refine zEV.callVi (kX7_refusesWord (a1) (a2) (a3)  (wr M 158 5 0) q1 hq1) (by decide) rfl rfl wm_RX7_267 wc_X7_refusesWord hy_X7_refusesWord rfl ⟨Nat.le_of_ble_eq_true rfl, Nat.le_of_ble_eq_true rfl⟩ rfl (Nat.le_of_ble_eq_true rfl) dX7_comes_9 ?_
  refine zEV.istore dX7_comes_12 (Nat.le_of_ble_eq_true rfl) rfl ?_
  refine zEV.iload dX7_comes_14 0 rfl ?_
  refine zEV.if_ge 22 dX7_comes_16 (by decide) (fun c2 => ?_) (fun c2 => ?_)
  · rw [if_pos c2] at h
    refine zEV.aload_n dX7_comes_22 rfl 1 rfl ?_
    obtain ⟨q3, hq3, h⟩ := bind_yes h
    refine zEV.callVv (kX7_change   q1.2 q3 hq3) (by decide) rfl rfl wm_RX7_107 wc_X7_change hy_X7_change rfl ⟨Nat.le_of_ble_eq_true rfl, Nat.le_of_ble_eq_true rfl⟩ rfl (Nat.le_of_ble_eq_true rfl) dX7_comes_23 ?_
    refine zEV.aload_n dX7_comes_26 rfl 1 rfl ?_
    refine zEV.iload_n dX7_comes_27 rfl 2 rfl ?_
    refine zEV.iload_n dX7_comes_28 rfl 3 rfl ?_
    refine zEV.iload_n dX7_comes_29 rfl 4 rfl ?_
    obtain ⟨q4, hq4, h⟩ := bind_yes h
    refine zEV.callVv (kX7_put (a1) (a2) (a3)  q3 q4 hq4) (by decide) rfl rfl wm_RX7_270 wc_X7_put hy_X7_put rfl ⟨Nat.le_of_ble_eq_true rfl, Nat.le_of_ble_eq_true rfl⟩ rfl (Nat.le_of_ble_eq_true rfl) dX7_comes_30 ?_
    refine zEV.aload_n dX7_comes_33 rfl 1 rfl ?_
    refine zEV.gfr rfl inz7 0 (by decide) wf_RX7_9 (by decide) rfl rfl dX7_comes_34 ?_
    refine zEV.iconst (v := 5) dX7_comes_37 rfl ?_
    refine zEV.iload_n dX7_comes_38 rfl 2 rfl ?_
    refine zEV.iadd dX7_comes_39 ?_
    obtain ⟨g5, h⟩ := ite_no h
    refine zEV.iald (by decide) rfl g5 dX7_comes_40 ?_
    have h := Option.some.inj h
    subst h
    exact zEV.iret rfl dX7_comes_41
  · rw [if_neg c2] at h
    refine zEV.iload dX7_comes_19 0 rfl ?_
    have h := Option.some.inj h
    subst h
    exact zEV.iret rfl dX7_comes_21
theorem kX7_comes (a1 : Int32) (a2 : Int32) (a3 : Int32) (M : zMM) (q : Int32 × zMM) (h : fX7_comes a1 a2 a3 M = some q) : zCN yX7_comes iX7_comes [.inr (.inr 158), .inl a1, .inl a2, .inl a3] M (some (.inl q.1), q.2) :=
  zCN.of (by decide) rfl rfl (Nat.le_of_ble_eq_true rfl) (zEV.perm [0, 1, 2, 3] rfl (tX7_comes_0 a1 a2 a3 M q h))
