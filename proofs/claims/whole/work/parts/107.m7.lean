-- RingedPageModel.words
def fX7_words_181 (K158 : Int32 → Int32 → zMM → Option (Int32 × zMM)) (a1 : Int32) (l2 : Int32) (l3 : Int32) (M : zMM) : Option (Int32 × zMM) :=
  K158 (l2) ((l3 + (-1))) M
set_option maxRecDepth 4000 in
theorem tX7_words_181 (K158 : Int32 → Int32 → zMM → Option (Int32 × zMM)) (a1 : Int32) (hK158 : ∀ (l2 : Int32) (l3 : Int32) (M : zMM) (q : Int32 × zMM), K158 l2 l3 M = some q → zEV iX7_words 0 0 (zZO (some (.inl q.1), q.2)) 158 [(0, .inr (.inr 158)), (1, .inl a1), (2, .inl l2), (3, .inl l3)] [] M) (l2 : Int32) (l3 : Int32) (M : zMM) (q : Int32 × zMM) (h : fX7_words_181 K158 a1 l2 l3 M = some q) : zEV iX7_words 0 0 (zZO (some (.inl q.1), q.2)) 181 [(0, .inr (.inr 158)), (1, .inl a1), (2, .inl l2), (3, .inl l3)] [] M := by
  unfold fX7_words_181 at h
  refine zEV.iinc (v := (l3 + (-1))) dX7_words_181 3 rfl rfl (Nat.le_of_ble_eq_true rfl) rfl ?_
  refine zEV.goto 158 dX7_words_184 (by decide) ?_
  exact zEV.perm [1, 2, 3, 0] rfl (hK158 (l2) ((l3 + (-1))) M q h)
def fX7_words_176 (K158 : Int32 → Int32 → zMM → Option (Int32 × zMM)) (a1 : Int32) (l2 : Int32) (l3 : Int32) (M : zMM) : Option (Int32 × zMM) :=
  (fX7_untie (l3) M).bind fun q1 =>
  fX7_words_181 K158 a1 (l2) (l3) q1
set_option maxRecDepth 4000 in
theorem tX7_words_176 (K158 : Int32 → Int32 → zMM → Option (Int32 × zMM)) (a1 : Int32) (hK158 : ∀ (l2 : Int32) (l3 : Int32) (M : zMM) (q : Int32 × zMM), K158 l2 l3 M = some q → zEV iX7_words 0 0 (zZO (some (.inl q.1), q.2)) 158 [(0, .inr (.inr 158)), (1, .inl a1), (2, .inl l2), (3, .inl l3)] [] M) (l2 : Int32) (l3 : Int32) (M : zMM) (q : Int32 × zMM) (h : fX7_words_176 K158 a1 l2 l3 M = some q) : zEV iX7_words 0 0 (zZO (some (.inl q.1), q.2)) 176 [(0, .inr (.inr 158)), (1, .inl a1), (2, .inl l2), (3, .inl l3)] [] M := by
  unfold fX7_words_176 at h
  refine zEV.aload_n dX7_words_176 rfl 0 rfl ?_
  refine zEV.iload_n dX7_words_177 rfl 3 rfl ?_
  obtain ⟨q1, hq1, h⟩ := bind_yes h
  refine zEV.callVv (kX7_untie (l3)  M q1 hq1) (by decide) rfl rfl wm_RX7_114 wc_X7_untie hy_X7_untie rfl ⟨Nat.le_of_ble_eq_true rfl, Nat.le_of_ble_eq_true rfl⟩ rfl (Nat.le_of_ble_eq_true rfl) dX7_words_178 ?_
  exact zEV.perm [0, 1, 2, 3] rfl (tX7_words_181 K158 a1 hK158 (l2) (l3) q1 q h)
def fX7_words_158 (a1 : Int32) : Nat → Int32 → Int32 → zMM → Option (Int32 × zMM)
  | 0, _, _, _ => none
  | n + 1, l2, l3, M =>
  if l3 < (0 : Int32) then
    some (l2, M)
  else
    if a1 = (0 : Int32) then
      fX7_words_176 (fX7_words_158 a1 n) a1 (l2) (l3) M
    else
      (fX7_tied (l3) (0) M).bind fun q3 =>
      if q3.1 = a1 then
        fX7_words_176 (fX7_words_158 a1 n) a1 (l2) (l3) q3.2
      else
        fX7_words_181 (fX7_words_158 a1 n) a1 (l2) (l3) q3.2
set_option maxRecDepth 4000 in
theorem tX7_words_158 (a1 : Int32) : ∀ (n : Nat) (l2 : Int32) (l3 : Int32) (M : zMM) (q : Int32 × zMM), fX7_words_158 a1 n l2 l3 M = some q → zEV iX7_words 0 0 (zZO (some (.inl q.1), q.2)) 158 [(0, .inr (.inr 158)), (1, .inl a1), (2, .inl l2), (3, .inl l3)] [] M := by
  intro n
  induction n with
  | zero =>
    intro l2 l3 M q h
    rw [fX7_words_158] at h
    cases h
  | succ n ih =>
    intro l2 l3 M q h
    rw [fX7_words_158] at h
    refine zEV.iload_n dX7_words_158 rfl 3 rfl ?_
    refine zEV.if_lt 187 dX7_words_159 (by decide) (fun c1 => ?_) (fun c1 => ?_)
    · rw [if_pos c1] at h
      refine zEV.iload_n dX7_words_187 rfl 2 rfl ?_
      cases h
      exact zEV.iret rfl dX7_words_188
    · rw [if_neg c1] at h
      refine zEV.iload_n dX7_words_162 rfl 1 rfl ?_
      refine zEV.if_eq 176 dX7_words_163 (by decide) (fun c2 => ?_) (fun c2 => ?_)
      · rw [if_pos c2] at h
        exact zEV.perm [0, 1, 2, 3] rfl (tX7_words_176 (fX7_words_158 a1 n) a1 (fun l2 l3 M9 q9 h9 => ih l2 l3 M9 q9 h9) (l2) (l3) M q h)
      · rw [if_neg c2] at h
        refine zEV.aload_n dX7_words_166 rfl 0 rfl ?_
        refine zEV.iload_n dX7_words_167 rfl 3 rfl ?_
        refine zEV.iconst (v := 0) dX7_words_168 rfl ?_
        obtain ⟨q3, hq3, h⟩ := bind_yes h
        refine zEV.callVi (kX7_tied (l3) (0)  M q3 hq3) (by decide) rfl rfl wm_RX7_110 wc_X7_tied hy_X7_tied rfl ⟨Nat.le_of_ble_eq_true rfl, Nat.le_of_ble_eq_true rfl⟩ rfl (Nat.le_of_ble_eq_true rfl) dX7_words_169 ?_
        refine zEV.iload_n dX7_words_172 rfl 1 rfl ?_
        refine zEV.icmp_ne 181 dX7_words_173 (by decide) (fun c4 => ?_) (fun c4 => ?_)
        · rw [if_neg c4] at h
          exact zEV.perm [0, 1, 2, 3] rfl (tX7_words_181 (fX7_words_158 a1 n) a1 (fun l2 l3 M9 q9 h9 => ih l2 l3 M9 q9 h9) (l2) (l3) q3.2 q h)
        · rw [if_pos c4] at h
          exact zEV.perm [0, 1, 2, 3] rfl (tX7_words_176 (fX7_words_158 a1 n) a1 (fun l2 l3 M9 q9 h9 => ih l2 l3 M9 q9 h9) (l2) (l3) q3.2 q h)
def fX7_words_140 (K106 : Int32 → Int32 → zMM → Option (Int32 × zMM)) (a1 : Int32) (l2 : Int32) (l3 : Int32) (s0 : Int32) (s1 : Int32) (M : zMM) : Option (Int32 × zMM) :=
  if oob (s1) 259 then none else
  K106 (l2) ((l3 + 1)) (wr M 159 (Int32.toNatClampNeg s1) s0)
set_option maxRecDepth 4000 in
theorem tX7_words_140 (K106 : Int32 → Int32 → zMM → Option (Int32 × zMM)) (a1 : Int32) (hK106 : ∀ (l2 : Int32) (l3 : Int32) (M : zMM) (q : Int32 × zMM), K106 l2 l3 M = some q → zEV iX7_words 0 0 (zZO (some (.inl q.1), q.2)) 106 [(0, .inr (.inr 158)), (1, .inl a1), (2, .inl l2), (3, .inl l3)] [] M) (l2 : Int32) (l3 : Int32) (s0 : Int32) (s1 : Int32) (M : zMM) (q : Int32 × zMM) (h : fX7_words_140 K106 a1 l2 l3 s0 s1 M = some q) : zEV iX7_words 0 0 (zZO (some (.inl q.1), q.2)) 140 [(0, .inr (.inr 158)), (1, .inl a1), (2, .inl l2), (3, .inl l3)] [.inl s0, .inl s1, .inr (.inr 159)] M := by
  unfold fX7_words_140 at h
  obtain ⟨g1, h⟩ := ite_no h
  refine zEV.iast (by decide) rfl g1 dX7_words_140 ?_
  refine zEV.iinc (v := (l3 + 1)) dX7_words_141 3 rfl rfl (Nat.le_of_ble_eq_true rfl) rfl ?_
  refine zEV.goto 106 dX7_words_144 (by decide) ?_
  exact zEV.perm [1, 2, 3, 0] rfl (hK106 (l2) ((l3 + 1)) (wr M 159 (Int32.toNatClampNeg s1) s0) q h)
def fX7_words_106 (a1 : Int32) : Nat → Int32 → Int32 → zMM → Option (Int32 × zMM)
  | 0, _, _, _ => none
  | n + 1, l2, l3, M =>
  if (70 : Int32) ≤ l3 then
    if oob (218) 259 then none else
    fX7_words_158 a1 zFU (l2) (((M.1 159 (Int32.toNatClampNeg 218)) - 1)) M
  else
    if l2 ≤ l3 then
      fX7_words_140 (fX7_words_106 a1 n) a1 (l2) (l3) (0) (((8 + (70 * a1)) + l3)) M
    else
      if oob (l3) 320 then none else
      fX7_words_140 (fX7_words_106 a1 n) a1 (l2) (l3) ((M.1 162 (Int32.toNatClampNeg l3))) (((8 + (70 * a1)) + l3)) M
set_option maxRecDepth 4000 in
theorem tX7_words_106 (a1 : Int32) : ∀ (n : Nat) (l2 : Int32) (l3 : Int32) (M : zMM) (q : Int32 × zMM), fX7_words_106 a1 n l2 l3 M = some q → zEV iX7_words 0 0 (zZO (some (.inl q.1), q.2)) 106 [(0, .inr (.inr 158)), (1, .inl a1), (2, .inl l2), (3, .inl l3)] [] M := by
  intro n
  induction n with
  | zero =>
    intro l2 l3 M q h
    rw [fX7_words_106] at h
    cases h
  | succ n ih =>
    intro l2 l3 M q h
    rw [fX7_words_106] at h
    refine zEV.iload_n dX7_words_106 rfl 3 rfl ?_
    refine zEV.bipush (v := 70) dX7_words_107 rfl ?_
    refine zEV.icmp_ge 147 dX7_words_109 (by decide) (fun c1 => ?_) (fun c1 => ?_)
    · rw [if_pos c1] at h
      refine zEV.aload_n dX7_words_147 rfl 0 rfl ?_
      refine zEV.gfr rfl inz7 0 (by decide) wf_RX7_9 (by decide) rfl rfl dX7_words_148 ?_
      refine zEV.sipush (v := 218) dX7_words_151 rfl ?_
      obtain ⟨g2, h⟩ := ite_no h
      refine zEV.iald (by decide) rfl g2 dX7_words_154 ?_
      refine zEV.iconst (v := 1) dX7_words_155 rfl ?_
      refine zEV.isub dX7_words_156 ?_
      refine zEV.istore_n dX7_words_157 rfl (Nat.le_of_ble_eq_true rfl) rfl ?_
      exact zEV.perm [1, 2, 3, 0] rfl (tX7_words_158 a1 zFU (l2) (((M.1 159 (Int32.toNatClampNeg 218)) - 1)) M q h)
    · rw [if_neg c1] at h
      refine zEV.aload_n dX7_words_112 rfl 0 rfl ?_
      refine zEV.gfr rfl inz7 0 (by decide) wf_RX7_9 (by decide) rfl rfl dX7_words_113 ?_
      refine zEV.bipush (v := 8) dX7_words_116 rfl ?_
      refine zEV.bipush (v := 70) dX7_words_118 rfl ?_
      refine zEV.iload_n dX7_words_120 rfl 1 rfl ?_
      refine zEV.imul dX7_words_121 ?_
      refine zEV.iadd dX7_words_122 ?_
      refine zEV.iload_n dX7_words_123 rfl 3 rfl ?_
      refine zEV.iadd dX7_words_124 ?_
      refine zEV.iload_n dX7_words_125 rfl 3 rfl ?_
      refine zEV.iload_n dX7_words_126 rfl 2 rfl ?_
      refine zEV.icmp_ge 139 dX7_words_127 (by decide) (fun c3 => ?_) (fun c3 => ?_)
      · rw [if_pos c3] at h
        refine zEV.iconst (v := 0) dX7_words_139 rfl ?_
        exact zEV.perm [0, 1, 2, 3] rfl (tX7_words_140 (fX7_words_106 a1 n) a1 (fun l2 l3 M9 q9 h9 => ih l2 l3 M9 q9 h9) (l2) (l3) (0) (((8 + (70 * a1)) + l3)) M q h)
      · rw [if_neg c3] at h
        refine zEV.aload_n dX7_words_130 rfl 0 rfl ?_
        refine zEV.gfr rfl inz7 9 (by decide) wf_RX7_21 (by decide) rfl rfl dX7_words_131 ?_
        refine zEV.iload_n dX7_words_134 rfl 3 rfl ?_
        obtain ⟨g4, h⟩ := ite_no h
        refine zEV.iald (by decide) rfl g4 dX7_words_135 ?_
        refine zEV.goto 140 dX7_words_136 (by decide) ?_
        exact zEV.perm [0, 1, 2, 3] rfl (tX7_words_140 (fX7_words_106 a1 n) a1 (fun l2 l3 M9 q9 h9 => ih l2 l3 M9 q9 h9) (l2) (l3) ((M.1 162 (Int32.toNatClampNeg l3))) (((8 + (70 * a1)) + l3)) M q h)
def fX7_words_77 (a1 : Int32) (l2 : Int32) (M : zMM) : Option (Int32 × zMM) :=
  (fX7_wasRight  M).bind fun q1 =>
  if q1.1 = (0 : Int32) then
    some (((-1) - (q1.2.1 158 8)), q1.2)
  else
    (fX7_change  q1.2).bind fun q3 =>
    if oob ((5 + a1)) 259 then none else
    fX7_words_106 a1 zFU (l2) (0) (wr q3 159 (Int32.toNatClampNeg (5 + a1)) l2)
set_option maxRecDepth 4000 in
theorem tX7_words_77 (a1 : Int32) (l2 : Int32) (M : zMM) (q : Int32 × zMM) (h : fX7_words_77 a1 l2 M = some q) : zEV iX7_words 0 0 (zZO (some (.inl q.1), q.2)) 77 [(0, .inr (.inr 158)), (1, .inl a1), (2, .inl l2)] [] M := by
  unfold fX7_words_77 at h
  refine zEV.aload_n dX7_words_77 rfl 0 rfl ?_
  obtain ⟨q1, hq1, h⟩ := bind_yes h
  refine zEV.callVi (kX7_wasRight   M q1 hq1) (by decide) rfl rfl wm_RX7_104 wc_X7_wasRight hy_X7_wasRight rfl ⟨Nat.le_of_ble_eq_true rfl, Nat.le_of_ble_eq_true rfl⟩ rfl (Nat.le_of_ble_eq_true rfl) dX7_words_78 ?_
  refine zEV.if_ne 91 dX7_words_81 (by decide) (fun c2 => ?_) (fun c2 => ?_)
  · rw [if_neg c2] at h
    refine zEV.aload_n dX7_words_91 rfl 0 rfl ?_
    obtain ⟨q3, hq3, h⟩ := bind_yes h
    refine zEV.callVv (kX7_change   q1.2 q3 hq3) (by decide) rfl rfl wm_RX7_107 wc_X7_change hy_X7_change rfl ⟨Nat.le_of_ble_eq_true rfl, Nat.le_of_ble_eq_true rfl⟩ rfl (Nat.le_of_ble_eq_true rfl) dX7_words_92 ?_
    refine zEV.aload_n dX7_words_95 rfl 0 rfl ?_
    refine zEV.gfr rfl inz7 0 (by decide) wf_RX7_9 (by decide) rfl rfl dX7_words_96 ?_
    refine zEV.iconst (v := 5) dX7_words_99 rfl ?_
    refine zEV.iload_n dX7_words_100 rfl 1 rfl ?_
    refine zEV.iadd dX7_words_101 ?_
    refine zEV.iload_n dX7_words_102 rfl 2 rfl ?_
    obtain ⟨g4, h⟩ := ite_no h
    refine zEV.iast (by decide) rfl g4 dX7_words_103 ?_
    refine zEV.iconst (v := 0) dX7_words_104 rfl ?_
    refine zEV.istore_n dX7_words_105 rfl (Nat.le_of_ble_eq_true rfl) rfl ?_
    exact zEV.perm [1, 2, 3, 0] rfl (tX7_words_106 a1 zFU (l2) (0) (wr q3 159 (Int32.toNatClampNeg (5 + a1)) l2) q h)
  · rw [if_pos c2] at h
    refine zEV.iconst (v := (-1)) dX7_words_84 rfl ?_
    refine zEV.aload_n dX7_words_85 rfl 0 rfl ?_
    refine zEV.gfi rfl inz7 8 (by decide) wf_RX7_82 (by decide) rfl rfl dX7_words_86 ?_
    refine zEV.isub dX7_words_89 ?_
    cases h
    exact zEV.iret rfl dX7_words_90
def fX7_words_20 (a1 : Int32) : Nat → Int32 → zMM → Option (Int32 × zMM)
  | 0, _, _ => none
  | n + 1, l2, M =>
  (fX7_fine  M).bind fun q1 =>
  if q1.1 = (0 : Int32) then
    fX7_words_77 a1 (l2) q1.2
  else
    if (q1.2.1 158 6) ≤ (q1.2.1 158 7) then
      fX7_words_77 a1 (l2) q1.2
    else
      if l2 = 70 then
        (fX7_fault ((q1.2.1 158 7)) q1.2).bind fun q7 =>
        fX7_words_20 a1 n (l2) q7
      else
        (fX7_oneOf (49) (9) q1.2).bind fun q5 =>
        if oob (l2) 320 then none else
        fX7_words_20 a1 n ((l2 + 1)) (wr q5.2 162 (Int32.toNatClampNeg l2) (q5.1 + 1))
set_option maxRecDepth 4000 in
theorem tX7_words_20 (a1 : Int32) : ∀ (n : Nat) (l2 : Int32) (M : zMM) (q : Int32 × zMM), fX7_words_20 a1 n l2 M = some q → zEV iX7_words 0 0 (zZO (some (.inl q.1), q.2)) 20 [(0, .inr (.inr 158)), (1, .inl a1), (2, .inl l2)] [] M := by
  intro n
  induction n with
  | zero =>
    intro l2 M q h
    rw [fX7_words_20] at h
    cases h
  | succ n ih =>
    intro l2 M q h
    rw [fX7_words_20] at h
    refine zEV.aload_n dX7_words_20 rfl 0 rfl ?_
    obtain ⟨q1, hq1, h⟩ := bind_yes h
    refine zEV.callVi (kX7_fine   M q1 hq1) (by decide) rfl rfl wm_RX7_85 wc_X7_fine hy_X7_fine rfl ⟨Nat.le_of_ble_eq_true rfl, Nat.le_of_ble_eq_true rfl⟩ rfl (Nat.le_of_ble_eq_true rfl) dX7_words_21 ?_
    refine zEV.if_eq 77 dX7_words_24 (by decide) (fun c2 => ?_) (fun c2 => ?_)
    · rw [if_pos c2] at h
      exact zEV.perm [0, 1, 2] rfl (tX7_words_77 a1 (l2) q1.2 q h)
    · rw [if_neg c2] at h
      refine zEV.aload_n dX7_words_27 rfl 0 rfl ?_
      refine zEV.gfi rfl inz7 7 (by decide) wf_RX7_79 (by decide) rfl rfl dX7_words_28 ?_
      refine zEV.aload_n dX7_words_31 rfl 0 rfl ?_
      refine zEV.gfi rfl inz7 6 (by decide) wf_RX7_76 (by decide) rfl rfl dX7_words_32 ?_
      refine zEV.icmp_ge 77 dX7_words_35 (by decide) (fun c3 => ?_) (fun c3 => ?_)
      · rw [if_pos c3] at h
        exact zEV.perm [0, 1, 2] rfl (tX7_words_77 a1 (l2) q1.2 q h)
      · rw [if_neg c3] at h
        refine zEV.iload_n dX7_words_38 rfl 2 rfl ?_
        refine zEV.bipush (v := 70) dX7_words_39 rfl ?_
        refine zEV.icmp_ne 55 dX7_words_41 (by decide) (fun c4 => ?_) (fun c4 => ?_)
        · rw [if_neg c4] at h
          refine zEV.aload_n dX7_words_55 rfl 0 rfl ?_
          refine zEV.gfr rfl inz7 9 (by decide) wf_RX7_21 (by decide) rfl rfl dX7_words_56 ?_
          refine zEV.iload_n dX7_words_59 rfl 2 rfl ?_
          refine zEV.aload_n dX7_words_60 rfl 0 rfl ?_
          refine zEV.bipush (v := 49) dX7_words_61 rfl ?_
          refine zEV.bipush (v := 9) dX7_words_63 rfl ?_
          obtain ⟨q5, hq5, h⟩ := bind_yes h
          refine zEV.callVi (kX7_oneOf (49) (9)  q1.2 q5 hq5) (by decide) rfl rfl wm_RX7_97 wc_X7_oneOf hy_X7_oneOf rfl ⟨Nat.le_of_ble_eq_true rfl, Nat.le_of_ble_eq_true rfl⟩ rfl (Nat.le_of_ble_eq_true rfl) dX7_words_65 ?_
          refine zEV.iconst (v := 1) dX7_words_68 rfl ?_
          refine zEV.iadd dX7_words_69 ?_
          obtain ⟨g6, h⟩ := ite_no h
          refine zEV.iast (by decide) rfl g6 dX7_words_70 ?_
          refine zEV.iinc (v := (l2 + 1)) dX7_words_71 2 rfl rfl (Nat.le_of_ble_eq_true rfl) rfl ?_
          refine zEV.goto 20 dX7_words_74 (by decide) ?_
          exact zEV.perm [1, 2, 0] rfl (ih ((l2 + 1)) (wr q5.2 162 (Int32.toNatClampNeg l2) (q5.1 + 1)) q h)
        · rw [if_pos c4] at h
          refine zEV.aload_n dX7_words_44 rfl 0 rfl ?_
          refine zEV.aload_n dX7_words_45 rfl 0 rfl ?_
          refine zEV.gfi rfl inz7 7 (by decide) wf_RX7_79 (by decide) rfl rfl dX7_words_46 ?_
          obtain ⟨q7, hq7, h⟩ := bind_yes h
          refine zEV.callVv (kX7_fault ((q1.2.1 158 7))  q1.2 q7 hq7) (by decide) rfl rfl wm_RX7_93 wc_X7_fault hy_X7_fault rfl ⟨Nat.le_of_ble_eq_true rfl, Nat.le_of_ble_eq_true rfl⟩ rfl (Nat.le_of_ble_eq_true rfl) dX7_words_49 ?_
          refine zEV.goto 20 dX7_words_52 (by decide) ?_
          exact zEV.perm [0, 1, 2] rfl (ih (l2) q7 q h)
def fX7_words (a1 : Int32) (M : zMM) : Option (Int32 × zMM) :=
  (fX7_begin  (wr M 158 5 0)).bind fun q1 =>
  (fX7_isText (a1) q1).bind fun q2 =>
  if q2.1 = (0 : Int32) then
    some ((-1), q2.2)
  else
    fX7_words_20 a1 zFU (0) q2.2
set_option maxRecDepth 4000 in
theorem tX7_words_0 (a1 : Int32) (M : zMM) (q : Int32 × zMM) (h : fX7_words a1  M = some q) : zEV iX7_words 0 0 (zZO (some (.inl q.1), q.2)) 0 [(0, .inr (.inr 158)), (1, .inl a1)] [] M := by
  unfold fX7_words at h
  refine zEV.aload_n dX7_words_0 rfl 0 rfl ?_
  refine zEV.iconst (v := 0) dX7_words_1 rfl ?_
  refine zEV.pfi rfl inz7 tyX7 tyX7_ok nmX7 5 (by decide) wf_RX7_58 rfl (by decide +kernel) (by decide) rfl rfl dX7_words_2 ?_
  refine zEV.aload_n dX7_words_5 rfl 0 rfl ?_
  obtain ⟨q1, hq1, h⟩ := bind_yes h
  refine zEV.callVv (kX7_begin   (wr M 158 5 0) q1 hq1) (by decide) rfl rfl wm_RX7_101 wc_X7_begin hy_X7_begin rfl ⟨Nat.le_of_ble_eq_true rfl, Nat.le_of_ble_eq_true rfl⟩ rfl (Nat.le_of_ble_eq_true rfl) dX7_words_6 ?_
  refine zEV.iload_n dX7_words_9 rfl 1 rfl ?_
  obtain ⟨q2, hq2, h⟩ := bind_yes h
  refine zEV.callSi (kX7_isText (a1)  q1 q2 hq2) wm_RX7_69 wc_X7_isText hy_X7_isText rfl ⟨Nat.le_of_ble_eq_true rfl, Nat.le_of_ble_eq_true rfl⟩ rfl (Nat.le_of_ble_eq_true rfl) dX7_words_10 ?_
  refine zEV.if_ne 18 dX7_words_13 (by decide) (fun c3 => ?_) (fun c3 => ?_)
  · rw [if_neg c3] at h
    refine zEV.iconst (v := 0) dX7_words_18 rfl ?_
    refine zEV.istore_n dX7_words_19 rfl (Nat.le_of_ble_eq_true rfl) rfl ?_
    exact zEV.perm [1, 2, 0] rfl (tX7_words_20 a1 zFU (0) q2.2 q h)
  · rw [if_pos c3] at h
    refine zEV.iconst (v := (-1)) dX7_words_16 rfl ?_
    cases h
    exact zEV.iret rfl dX7_words_17
theorem kX7_words (a1 : Int32) (M : zMM) (q : Int32 × zMM) (h : fX7_words a1 M = some q) : zCN yX7_words iX7_words [.inr (.inr 158), .inl a1] M (some (.inl q.1), q.2) :=
  zCN.of (by decide) rfl rfl (Nat.le_of_ble_eq_true rfl) (zEV.perm [0, 1] rfl (tX7_words_0 a1 M q h))
-- RingedPageModel.wasTied
def fX7_wasTied_39 (K3 : Int32 → zMM → Option (Int32 × zMM)) (a1 : Int32) (a2 : Int32) (a3 : Int32) (l4 : Int32) (M : zMM) : Option (Int32 × zMM) :=
  K3 ((l4 + 1)) M
set_option maxRecDepth 4000 in
theorem tX7_wasTied_39 (K3 : Int32 → zMM → Option (Int32 × zMM)) (a1 : Int32) (a2 : Int32) (a3 : Int32) (hK3 : ∀ (l4 : Int32) (M : zMM) (q : Int32 × zMM), K3 l4 M = some q → zEV iX7_wasTied 0 0 (zZO (some (.inl q.1), q.2)) 3 [(0, .inr (.inr 158)), (1, .inl a1), (2, .inl a2), (3, .inl a3), (4, .inl l4)] [] M) (l4 : Int32) (M : zMM) (q : Int32 × zMM) (h : fX7_wasTied_39 K3 a1 a2 a3 l4 M = some q) : zEV iX7_wasTied 0 0 (zZO (some (.inl q.1), q.2)) 39 [(0, .inr (.inr 158)), (1, .inl a1), (2, .inl a2), (3, .inl a3), (4, .inl l4)] [] M := by
  unfold fX7_wasTied_39 at h
  refine zEV.iinc (v := (l4 + 1)) dX7_wasTied_39 4 rfl rfl (Nat.le_of_ble_eq_true rfl) rfl ?_
  refine zEV.goto 3 dX7_wasTied_42 (by decide) ?_
  exact zEV.perm [1, 2, 3, 4, 0] rfl (hK3 ((l4 + 1)) M q h)
def fX7_wasTied_3 (a1 : Int32) (a2 : Int32) (a3 : Int32) : Nat → Int32 → zMM → Option (Int32 × zMM)
  | 0, _, _ => none
  | n + 1, l4, M =>
  if a1 ≤ l4 then
    some (0, M)
  else
    if oob ((3 * l4)) 320 then none else
    if (M.1 162 (Int32.toNatClampNeg (3 * l4))) = a2 then
      if oob (((3 * l4) + 1)) 320 then none else
      if (M.1 162 (Int32.toNatClampNeg ((3 * l4) + 1))) = a3 then
        some (1, M)
      else
        fX7_wasTied_39 (fX7_wasTied_3 a1 a2 a3 n) a1 a2 a3 (l4) M
    else
      fX7_wasTied_39 (fX7_wasTied_3 a1 a2 a3 n) a1 a2 a3 (l4) M
set_option maxRecDepth 4000 in
theorem tX7_wasTied_3 (a1 : Int32) (a2 : Int32) (a3 : Int32) : ∀ (n : Nat) (l4 : Int32) (M : zMM) (q : Int32 × zMM), fX7_wasTied_3 a1 a2 a3 n l4 M = some q → zEV iX7_wasTied 0 0 (zZO (some (.inl q.1), q.2)) 3 [(0, .inr (.inr 158)), (1, .inl a1), (2, .inl a2), (3, .inl a3), (4, .inl l4)] [] M := by
  intro n
  induction n with
  | zero =>
    intro l4 M q h
    rw [fX7_wasTied_3] at h
    cases h
  | succ n ih =>
    intro l4 M q h
    rw [fX7_wasTied_3] at h
    refine zEV.iload dX7_wasTied_3 4 rfl ?_
    refine zEV.iload_n dX7_wasTied_5 rfl 1 rfl ?_
    refine zEV.icmp_ge 45 dX7_wasTied_6 (by decide) (fun c1 => ?_) (fun c1 => ?_)
    · rw [if_pos c1] at h
      refine zEV.iconst (v := 0) dX7_wasTied_45 rfl ?_
      cases h
      exact zEV.zret rfl (Or.inl rfl) dX7_wasTied_46
    · rw [if_neg c1] at h
      refine zEV.aload_n dX7_wasTied_9 rfl 0 rfl ?_
      refine zEV.gfr rfl inz7 9 (by decide) wf_RX7_21 (by decide) rfl rfl dX7_wasTied_10 ?_
      refine zEV.iconst (v := 3) dX7_wasTied_13 rfl ?_
      refine zEV.iload dX7_wasTied_14 4 rfl ?_
      refine zEV.imul dX7_wasTied_16 ?_
      obtain ⟨g2, h⟩ := ite_no h
      refine zEV.iald (by decide) rfl g2 dX7_wasTied_17 ?_
      refine zEV.iload_n dX7_wasTied_18 rfl 2 rfl ?_
      refine zEV.icmp_ne 39 dX7_wasTied_19 (by decide) (fun c3 => ?_) (fun c3 => ?_)
      · rw [if_neg c3] at h
        exact zEV.perm [0, 1, 2, 3, 4] rfl (tX7_wasTied_39 (fX7_wasTied_3 a1 a2 a3 n) a1 a2 a3 (fun l4 M9 q9 h9 => ih l4 M9 q9 h9) (l4) M q h)
      · rw [if_pos c3] at h
        refine zEV.aload_n dX7_wasTied_22 rfl 0 rfl ?_
        refine zEV.gfr rfl inz7 9 (by decide) wf_RX7_21 (by decide) rfl rfl dX7_wasTied_23 ?_
        refine zEV.iconst (v := 3) dX7_wasTied_26 rfl ?_
        refine zEV.iload dX7_wasTied_27 4 rfl ?_
        refine zEV.imul dX7_wasTied_29 ?_
        refine zEV.iconst (v := 1) dX7_wasTied_30 rfl ?_
        refine zEV.iadd dX7_wasTied_31 ?_
        obtain ⟨g4, h⟩ := ite_no h
        refine zEV.iald (by decide) rfl g4 dX7_wasTied_32 ?_
        refine zEV.iload_n dX7_wasTied_33 rfl 3 rfl ?_
        refine zEV.icmp_ne 39 dX7_wasTied_34 (by decide) (fun c5 => ?_) (fun c5 => ?_)
        · rw [if_neg c5] at h
          exact zEV.perm [0, 1, 2, 3, 4] rfl (tX7_wasTied_39 (fX7_wasTied_3 a1 a2 a3 n) a1 a2 a3 (fun l4 M9 q9 h9 => ih l4 M9 q9 h9) (l4) M q h)
        · rw [if_pos c5] at h
          refine zEV.iconst (v := 1) dX7_wasTied_37 rfl ?_
          cases h
          exact zEV.zret rfl (Or.inr rfl) dX7_wasTied_38
def fX7_wasTied (a1 : Int32) (a2 : Int32) (a3 : Int32) (M : zMM) : Option (Int32 × zMM) :=
  fX7_wasTied_3 a1 a2 a3 zFU (0) M
set_option maxRecDepth 4000 in
theorem tX7_wasTied_0 (a1 : Int32) (a2 : Int32) (a3 : Int32) (M : zMM) (q : Int32 × zMM) (h : fX7_wasTied a1 a2 a3  M = some q) : zEV iX7_wasTied 0 0 (zZO (some (.inl q.1), q.2)) 0 [(0, .inr (.inr 158)), (1, .inl a1), (2, .inl a2), (3, .inl a3)] [] M := by
  unfold fX7_wasTied at h
  refine zEV.iconst (v := 0) dX7_wasTied_0 rfl ?_
  refine zEV.istore dX7_wasTied_1 (Nat.le_of_ble_eq_true rfl) rfl ?_
  exact zEV.perm [1, 2, 3, 4, 0] rfl (tX7_wasTied_3 a1 a2 a3 zFU (0) M q h)
theorem kX7_wasTied (a1 : Int32) (a2 : Int32) (a3 : Int32) (M : zMM) (q : Int32 × zMM) (h : fX7_wasTied a1 a2 a3 M = some q) : zCN yX7_wasTied iX7_wasTied [.inr (.inr 158), .inl a1, .inl a2, .inl a3] M (some (.inl q.1), q.2) :=
  zCN.of (by decide) rfl rfl (Nat.le_of_ble_eq_true rfl) (zEV.perm [0, 1, 2, 3] rfl (tX7_wasTied_0 a1 a2 a3 M q h))
-- RingedPageModel.readTie
def fX7_readTie_128 (a1 : Int32) (l2 : Int32) (l3 : Int32) (l4 : Int32) (M : zMM) : Option (zMM) :=
  if oob ((3 * a1)) 320 then none else
  if oob (((3 * a1) + 1)) 320 then none else
  if oob (((3 * a1) + 2)) 320 then none else
  some (wr (wr (wr M 162 (Int32.toNatClampNeg (3 * a1)) l2) 162 (Int32.toNatClampNeg ((3 * a1) + 1)) l3) 162 (Int32.toNatClampNeg ((3 * a1) + 2)) l4)
set_option maxRecDepth 4000 in
theorem tX7_readTie_128 (a1 : Int32) (l2 : Int32) (l3 : Int32) (l4 : Int32) (M : zMM) (q : zMM) (h : fX7_readTie_128 a1 l2 l3 l4 M = some q) : zEV iX7_readTie 0 0 (zZO (none, q)) 128 [(0, .inr (.inr 158)), (1, .inl a1), (2, .inl l2), (3, .inl l3), (4, .inl l4)] [] M := by
  unfold fX7_readTie_128 at h
  refine zEV.aload_n dX7_readTie_128 rfl 0 rfl ?_
  refine zEV.gfr rfl inz7 9 (by decide) wf_RX7_21 (by decide) rfl rfl dX7_readTie_129 ?_
  refine zEV.iconst (v := 3) dX7_readTie_132 rfl ?_
  refine zEV.iload_n dX7_readTie_133 rfl 1 rfl ?_
  refine zEV.imul dX7_readTie_134 ?_
  refine zEV.iload_n dX7_readTie_135 rfl 2 rfl ?_
  obtain ⟨g1, h⟩ := ite_no h
  refine zEV.iast (by decide) rfl g1 dX7_readTie_136 ?_
  refine zEV.aload_n dX7_readTie_137 rfl 0 rfl ?_
  refine zEV.gfr rfl inz7 9 (by decide) wf_RX7_21 (by decide) rfl rfl dX7_readTie_138 ?_
  refine zEV.iconst (v := 3) dX7_readTie_141 rfl ?_
  refine zEV.iload_n dX7_readTie_142 rfl 1 rfl ?_
  refine zEV.imul dX7_readTie_143 ?_
  refine zEV.iconst (v := 1) dX7_readTie_144 rfl ?_
  refine zEV.iadd dX7_readTie_145 ?_
  refine zEV.iload_n dX7_readTie_146 rfl 3 rfl ?_
  obtain ⟨g2, h⟩ := ite_no h
  refine zEV.iast (by decide) rfl g2 dX7_readTie_147 ?_
  refine zEV.aload_n dX7_readTie_148 rfl 0 rfl ?_
  refine zEV.gfr rfl inz7 9 (by decide) wf_RX7_21 (by decide) rfl rfl dX7_readTie_149 ?_
  refine zEV.iconst (v := 3) dX7_readTie_152 rfl ?_
  refine zEV.iload_n dX7_readTie_153 rfl 1 rfl ?_
  refine zEV.imul dX7_readTie_154 ?_
  refine zEV.iconst (v := 2) dX7_readTie_155 rfl ?_
  refine zEV.iadd dX7_readTie_156 ?_
  refine zEV.iload dX7_readTie_157 4 rfl ?_
  obtain ⟨g3, h⟩ := ite_no h
  refine zEV.iast (by decide) rfl g3 dX7_readTie_159 ?_
  cases h
  exact zEV.vret rfl dX7_readTie_160
def fX7_readTie_94 (a1 : Int32) (l2 : Int32) (l3 : Int32) (M : zMM) : Option (zMM) :=
  (fX7_digits (2) M).bind fun q1 =>
  (fX7_fine  q1.2).bind fun q2 =>
  if q2.1 = (0 : Int32) then
    fX7_readTie_128 a1 (l2) (l3) (q1.1) q2.2
  else
    (fX7_isWord (0) (q1.1) q2.2).bind fun q4 =>
    if q4.1 = (0 : Int32) then
      (fX7_fault (((q4.2.1 158 7) - 1)) q4.2).bind fun q6 =>
      fX7_readTie_128 a1 (l2) (l3) (q1.1) q6
    else
      fX7_readTie_128 a1 (l2) (l3) (q1.1) q4.2
set_option maxRecDepth 4000 in
theorem tX7_readTie_94 (a1 : Int32) (l2 : Int32) (l3 : Int32) (M : zMM) (q : zMM) (h : fX7_readTie_94 a1 l2 l3 M = some q) : zEV iX7_readTie 0 0 (zZO (none, q)) 94 [(0, .inr (.inr 158)), (1, .inl a1), (2, .inl l2), (3, .inl l3)] [] M := by
  unfold fX7_readTie_94 at h
  refine zEV.aload_n dX7_readTie_94 rfl 0 rfl ?_
  refine zEV.iconst (v := 2) dX7_readTie_95 rfl ?_
  obtain ⟨q1, hq1, h⟩ := bind_yes h
  refine zEV.callVi (kX7_digits (2)  M q1 hq1) (by decide) rfl rfl wm_RX7_117 wc_X7_digits hy_X7_digits rfl ⟨Nat.le_of_ble_eq_true rfl, Nat.le_of_ble_eq_true rfl⟩ rfl (Nat.le_of_ble_eq_true rfl) dX7_readTie_96 ?_
  refine zEV.istore dX7_readTie_99 (Nat.le_of_ble_eq_true rfl) rfl ?_
  refine zEV.aload_n dX7_readTie_101 rfl 1 rfl ?_
  obtain ⟨q2, hq2, h⟩ := bind_yes h
  refine zEV.callVi (kX7_fine   q1.2 q2 hq2) (by decide) rfl rfl wm_RX7_85 wc_X7_fine hy_X7_fine rfl ⟨Nat.le_of_ble_eq_true rfl, Nat.le_of_ble_eq_true rfl⟩ rfl (Nat.le_of_ble_eq_true rfl) dX7_readTie_102 ?_
  refine zEV.if_eq 128 dX7_readTie_105 (by decide) (fun c3 => ?_) (fun c3 => ?_)
  · rw [if_pos c3] at h
    exact zEV.perm [1, 2, 3, 4, 0] rfl (tX7_readTie_128 a1 (l2) (l3) (q1.1) q2.2 q h)
  · rw [if_neg c3] at h
    refine zEV.aload_n dX7_readTie_108 rfl 1 rfl ?_
    refine zEV.iconst (v := 0) dX7_readTie_109 rfl ?_
    refine zEV.iload dX7_readTie_110 0 rfl ?_
    obtain ⟨q4, hq4, h⟩ := bind_yes h
    refine zEV.callVi (kX7_isWord (0) (q1.1)  q2.2 q4 hq4) (by decide) rfl rfl wm_RX7_121 wc_X7_isWord hy_X7_isWord rfl ⟨Nat.le_of_ble_eq_true rfl, Nat.le_of_ble_eq_true rfl⟩ rfl (Nat.le_of_ble_eq_true rfl) dX7_readTie_112 ?_
    refine zEV.if_ne 128 dX7_readTie_115 (by decide) (fun c5 => ?_) (fun c5 => ?_)
    · rw [if_neg c5] at h
      exact zEV.perm [1, 2, 3, 4, 0] rfl (tX7_readTie_128 a1 (l2) (l3) (q1.1) q4.2 q h)
    · rw [if_pos c5] at h
      refine zEV.aload_n dX7_readTie_118 rfl 1 rfl ?_
      refine zEV.aload_n dX7_readTie_119 rfl 1 rfl ?_
      refine zEV.gfi rfl inz7 7 (by decide) wf_RX7_79 (by decide) rfl rfl dX7_readTie_120 ?_
      refine zEV.iconst (v := 1) dX7_readTie_123 rfl ?_
      refine zEV.isub dX7_readTie_124 ?_
      obtain ⟨q6, hq6, h⟩ := bind_yes h
      refine zEV.callVv (kX7_fault (((q4.2.1 158 7) - 1))  q4.2 q6 hq6) (by decide) rfl rfl wm_RX7_93 wc_X7_fault hy_X7_fault rfl ⟨Nat.le_of_ble_eq_true rfl, Nat.le_of_ble_eq_true rfl⟩ rfl (Nat.le_of_ble_eq_true rfl) dX7_readTie_125 ?_
      exact zEV.perm [1, 2, 3, 4, 0] rfl (tX7_readTie_128 a1 (l2) (l3) (q1.1) q6 q h)
def fX7_readTie_84 (a1 : Int32) (l2 : Int32) (l3 : Int32) (M : zMM) : Option (zMM) :=
  (fX7_fault (((M.1 158 7) - 1)) M).bind fun q1 =>
  fX7_readTie_94 a1 (l2) (l3) q1
set_option maxRecDepth 4000 in
theorem tX7_readTie_84 (a1 : Int32) (l2 : Int32) (l3 : Int32) (M : zMM) (q : zMM) (h : fX7_readTie_84 a1 l2 l3 M = some q) : zEV iX7_readTie 0 0 (zZO (none, q)) 84 [(0, .inr (.inr 158)), (1, .inl a1), (2, .inl l2), (3, .inl l3)] [] M := by
  unfold fX7_readTie_84 at h
  refine zEV.aload_n dX7_readTie_84 rfl 0 rfl ?_
  refine zEV.aload_n dX7_readTie_85 rfl 0 rfl ?_
  refine zEV.gfi rfl inz7 7 (by decide) wf_RX7_79 (by decide) rfl rfl dX7_readTie_86 ?_
  refine zEV.iconst (v := 1) dX7_readTie_89 rfl ?_
  refine zEV.isub dX7_readTie_90 ?_
  obtain ⟨q1, hq1, h⟩ := bind_yes h
  refine zEV.callVv (kX7_fault (((M.1 158 7) - 1))  M q1 hq1) (by decide) rfl rfl wm_RX7_93 wc_X7_fault hy_X7_fault rfl ⟨Nat.le_of_ble_eq_true rfl, Nat.le_of_ble_eq_true rfl⟩ rfl (Nat.le_of_ble_eq_true rfl) dX7_readTie_91 ?_
  exact zEV.perm [0, 1, 2, 3] rfl (tX7_readTie_94 a1 (l2) (l3) q1 q h)
def fX7_readTie_27 (a1 : Int32) (s0 : Int32) (M : zMM) : Option (zMM) :=
  if s0 = (-1) then
    (fX7_fault ((M.1 158 7)) M).bind fun q9 =>
    some q9
  else
    (fX7_digits (2) (wr M 158 7 ((M.1 158 7) + 1))).bind fun q2 =>
    (fX7_fine  q2.2).bind fun q3 =>
    if q3.1 = (0 : Int32) then
      fX7_readTie_94 a1 (s0) (q2.1) q3.2
    else
      (fX7_isWord (s0) (q2.1) q3.2).bind fun q5 =>
      if q5.1 = (0 : Int32) then
        fX7_readTie_84 a1 (s0) (q2.1) q5.2
      else
        (fX7_wasTied (a1) (s0) (q2.1) q5.2).bind fun q7 =>
        if q7.1 = (0 : Int32) then
          fX7_readTie_94 a1 (s0) (q2.1) q7.2
        else
          fX7_readTie_84 a1 (s0) (q2.1) q7.2
set_option maxRecDepth 4000 in
theorem tX7_readTie_27 (a1 : Int32) (s0 : Int32) (M : zMM) (q : zMM) (h : fX7_readTie_27 a1 s0 M = some q) : zEV iX7_readTie 0 0 (zZO (none, q)) 27 [(0, .inr (.inr 158)), (1, .inl a1)] [.inl s0] M := by
  unfold fX7_readTie_27 at h
  refine zEV.istore_n dX7_readTie_27 rfl (Nat.le_of_ble_eq_true rfl) rfl ?_
  refine zEV.iload_n dX7_readTie_28 rfl 0 rfl ?_
  refine zEV.iconst (v := (-1)) dX7_readTie_29 rfl ?_
  refine zEV.icmp_ne 42 dX7_readTie_30 (by decide) (fun c1 => ?_) (fun c1 => ?_)
  · rw [if_neg c1] at h
    refine zEV.aload_n dX7_readTie_42 rfl 1 rfl ?_
    refine zEV.dup dX7_readTie_43 rfl ?_
    refine zEV.gfi rfl inz7 7 (by decide) wf_RX7_79 (by decide) rfl rfl dX7_readTie_44 ?_
    refine zEV.iconst (v := 1) dX7_readTie_47 rfl ?_
    refine zEV.iadd dX7_readTie_48 ?_
    refine zEV.pfi rfl inz7 tyX7 tyX7_ok nmX7 7 (by decide) wf_RX7_79 rfl (by decide +kernel) (by decide) rfl rfl dX7_readTie_49 ?_
    refine zEV.aload_n dX7_readTie_52 rfl 1 rfl ?_
    refine zEV.iconst (v := 2) dX7_readTie_53 rfl ?_
    obtain ⟨q2, hq2, h⟩ := bind_yes h
    refine zEV.callVi (kX7_digits (2)  (wr M 158 7 ((M.1 158 7) + 1)) q2 hq2) (by decide) rfl rfl wm_RX7_117 wc_X7_digits hy_X7_digits rfl ⟨Nat.le_of_ble_eq_true rfl, Nat.le_of_ble_eq_true rfl⟩ rfl (Nat.le_of_ble_eq_true rfl) dX7_readTie_54 ?_
    refine zEV.istore_n dX7_readTie_57 rfl (Nat.le_of_ble_eq_true rfl) rfl ?_
    refine zEV.aload_n dX7_readTie_58 rfl 2 rfl ?_
    obtain ⟨q3, hq3, h⟩ := bind_yes h
    refine zEV.callVi (kX7_fine   q2.2 q3 hq3) (by decide) rfl rfl wm_RX7_85 wc_X7_fine hy_X7_fine rfl ⟨Nat.le_of_ble_eq_true rfl, Nat.le_of_ble_eq_true rfl⟩ rfl (Nat.le_of_ble_eq_true rfl) dX7_readTie_59 ?_
    refine zEV.if_eq 94 dX7_readTie_62 (by decide) (fun c4 => ?_) (fun c4 => ?_)
    · rw [if_pos c4] at h
      exact zEV.perm [2, 3, 1, 0] rfl (tX7_readTie_94 a1 (s0) (q2.1) q3.2 q h)
    · rw [if_neg c4] at h
      refine zEV.aload_n dX7_readTie_65 rfl 2 rfl ?_
      refine zEV.iload_n dX7_readTie_66 rfl 1 rfl ?_
      refine zEV.iload_n dX7_readTie_67 rfl 0 rfl ?_
      obtain ⟨q5, hq5, h⟩ := bind_yes h
      refine zEV.callVi (kX7_isWord (s0) (q2.1)  q3.2 q5 hq5) (by decide) rfl rfl wm_RX7_121 wc_X7_isWord hy_X7_isWord rfl ⟨Nat.le_of_ble_eq_true rfl, Nat.le_of_ble_eq_true rfl⟩ rfl (Nat.le_of_ble_eq_true rfl) dX7_readTie_68 ?_
      refine zEV.if_eq 84 dX7_readTie_71 (by decide) (fun c6 => ?_) (fun c6 => ?_)
      · rw [if_pos c6] at h
        exact zEV.perm [2, 3, 1, 0] rfl (tX7_readTie_84 a1 (s0) (q2.1) q5.2 q h)
      · rw [if_neg c6] at h
        refine zEV.aload_n dX7_readTie_74 rfl 2 rfl ?_
        refine zEV.iload_n dX7_readTie_75 rfl 3 rfl ?_
        refine zEV.iload_n dX7_readTie_76 rfl 1 rfl ?_
        refine zEV.iload_n dX7_readTie_77 rfl 0 rfl ?_
        obtain ⟨q7, hq7, h⟩ := bind_yes h
        refine zEV.callVi (kX7_wasTied (a1) (s0) (q2.1)  q5.2 q7 hq7) (by decide) rfl rfl wm_RX7_125 wc_X7_wasTied hy_X7_wasTied rfl ⟨Nat.le_of_ble_eq_true rfl, Nat.le_of_ble_eq_true rfl⟩ rfl (Nat.le_of_ble_eq_true rfl) dX7_readTie_78 ?_
        refine zEV.if_eq 94 dX7_readTie_81 (by decide) (fun c8 => ?_) (fun c8 => ?_)
        · rw [if_pos c8] at h
          exact zEV.perm [2, 3, 1, 0] rfl (tX7_readTie_94 a1 (s0) (q2.1) q7.2 q h)
        · rw [if_neg c8] at h
          exact zEV.perm [2, 3, 1, 0] rfl (tX7_readTie_84 a1 (s0) (q2.1) q7.2 q h)
  · rw [if_pos c1] at h
    refine zEV.aload_n dX7_readTie_33 rfl 1 rfl ?_
    refine zEV.aload_n dX7_readTie_34 rfl 1 rfl ?_
    refine zEV.gfi rfl inz7 7 (by decide) wf_RX7_79 (by decide) rfl rfl dX7_readTie_35 ?_
    obtain ⟨q9, hq9, h⟩ := bind_yes h
    refine zEV.callVv (kX7_fault ((M.1 158 7))  M q9 hq9) (by decide) rfl rfl wm_RX7_93 wc_X7_fault hy_X7_fault rfl ⟨Nat.le_of_ble_eq_true rfl, Nat.le_of_ble_eq_true rfl⟩ rfl (Nat.le_of_ble_eq_true rfl) dX7_readTie_38 ?_
    cases h
    exact zEV.vret rfl dX7_readTie_41
def fX7_readTie (a1 : Int32) (M : zMM) : Option (zMM) :=
  (fX7_here  M).bind fun q1 =>
  if q1.1 = 105 then
    fX7_readTie_27 a1 (1) q1.2
  else
    (fX7_here  q1.2).bind fun q3 =>
    if q3.1 = 111 then
      fX7_readTie_27 a1 (2) q3.2
    else
      fX7_readTie_27 a1 ((-1)) q3.2
set_option maxRecDepth 4000 in
theorem tX7_readTie_0 (a1 : Int32) (M : zMM) (q : zMM) (h : fX7_readTie a1  M = some q) : zEV iX7_readTie 0 0 (zZO (none, q)) 0 [(0, .inr (.inr 158)), (1, .inl a1)] [] M := by
  unfold fX7_readTie at h
  refine zEV.aload_n dX7_readTie_0 rfl 0 rfl ?_
  obtain ⟨q1, hq1, h⟩ := bind_yes h
  refine zEV.callVi (kX7_here   M q1 hq1) (by decide) rfl rfl wm_RX7_89 wc_X7_here hy_X7_here rfl ⟨Nat.le_of_ble_eq_true rfl, Nat.le_of_ble_eq_true rfl⟩ rfl (Nat.le_of_ble_eq_true rfl) dX7_readTie_1 ?_
  refine zEV.bipush (v := 105) dX7_readTie_4 rfl ?_
  refine zEV.icmp_ne 13 dX7_readTie_6 (by decide) (fun c2 => ?_) (fun c2 => ?_)
  · rw [if_neg c2] at h
    refine zEV.aload_n dX7_readTie_13 rfl 0 rfl ?_
    obtain ⟨q3, hq3, h⟩ := bind_yes h
    refine zEV.callVi (kX7_here   q1.2 q3 hq3) (by decide) rfl rfl wm_RX7_89 wc_X7_here hy_X7_here rfl ⟨Nat.le_of_ble_eq_true rfl, Nat.le_of_ble_eq_true rfl⟩ rfl (Nat.le_of_ble_eq_true rfl) dX7_readTie_14 ?_
    refine zEV.bipush (v := 111) dX7_readTie_17 rfl ?_
    refine zEV.icmp_ne 26 dX7_readTie_19 (by decide) (fun c4 => ?_) (fun c4 => ?_)
    · rw [if_neg c4] at h
      refine zEV.iconst (v := (-1)) dX7_readTie_26 rfl ?_
      exact zEV.perm [0, 1] rfl (tX7_readTie_27 a1 ((-1)) q3.2 q h)
    · rw [if_pos c4] at h
      refine zEV.iconst (v := 2) dX7_readTie_22 rfl ?_
      refine zEV.goto 27 dX7_readTie_23 (by decide) ?_
      exact zEV.perm [0, 1] rfl (tX7_readTie_27 a1 (2) q3.2 q h)
  · rw [if_pos c2] at h
    refine zEV.iconst (v := 1) dX7_readTie_9 rfl ?_
    refine zEV.goto 27 dX7_readTie_10 (by decide) ?_
    exact zEV.perm [0, 1] rfl (tX7_readTie_27 a1 (1) q1.2 q h)
theorem kX7_readTie (a1 : Int32) (M : zMM) (q : zMM) (h : fX7_readTie a1 M = some q) : zCN yX7_readTie iX7_readTie [.inr (.inr 158), .inl a1] M (none, q) :=
  zCN.of (by decide) rfl rfl (Nat.le_of_ble_eq_true rfl) (zEV.perm [0, 1] rfl (tX7_readTie_0 a1 M q h))
-- RingedPageModel.ties
def fX7_ties_118 (K86 : Int32 → Int32 → zMM → Option (Int32 × zMM)) (l1 : Int32) (l2 : Int32) (s0 : Int32) (s1 : Int32) (M : zMM) : Option (Int32 × zMM) :=
  if oob (s1) 259 then none else
  K86 (l1) ((l2 + 1)) (wr M 159 (Int32.toNatClampNeg s1) s0)
set_option maxRecDepth 4000 in
theorem tX7_ties_118 (K86 : Int32 → Int32 → zMM → Option (Int32 × zMM)) (hK86 : ∀ (l1 : Int32) (l2 : Int32) (M : zMM) (q : Int32 × zMM), K86 l1 l2 M = some q → zEV iX7_ties 0 0 (zZO (some (.inl q.1), q.2)) 86 [(0, .inr (.inr 158)), (1, .inl l1), (2, .inl l2)] [] M) (l1 : Int32) (l2 : Int32) (s0 : Int32) (s1 : Int32) (M : zMM) (q : Int32 × zMM) (h : fX7_ties_118 K86 l1 l2 s0 s1 M = some q) : zEV iX7_ties 0 0 (zZO (some (.inl q.1), q.2)) 118 [(0, .inr (.inr 158)), (1, .inl l1), (2, .inl l2)] [.inl s0, .inl s1, .inr (.inr 159)] M := by
  unfold fX7_ties_118 at h
  obtain ⟨g1, h⟩ := ite_no h
  refine zEV.iast (by decide) rfl g1 dX7_ties_118 ?_
  refine zEV.iinc (v := (l2 + 1)) dX7_ties_119 2 rfl rfl (Nat.le_of_ble_eq_true rfl) rfl ?_
  refine zEV.goto 86 dX7_ties_122 (by decide) ?_
  exact zEV.perm [1, 2, 0] rfl (hK86 (l1) ((l2 + 1)) (wr M 159 (Int32.toNatClampNeg s1) s0) q h)
def fX7_ties_86 : Nat → Int32 → Int32 → zMM → Option (Int32 × zMM)
  | 0, _, _, _ => none
  | n + 1, l1, l2, M =>
  if (36 : Int32) ≤ l2 then
    some (l1, M)
  else
    if (3 * l1) ≤ l2 then
      fX7_ties_118 (fX7_ties_86 n) (l1) (l2) (0) ((219 + l2)) M
    else
      if oob (l2) 320 then none else
      fX7_ties_118 (fX7_ties_86 n) (l1) (l2) ((M.1 162 (Int32.toNatClampNeg l2))) ((219 + l2)) M
set_option maxRecDepth 4000 in
theorem tX7_ties_86 : ∀ (n : Nat) (l1 : Int32) (l2 : Int32) (M : zMM) (q : Int32 × zMM), fX7_ties_86 n l1 l2 M = some q → zEV iX7_ties 0 0 (zZO (some (.inl q.1), q.2)) 86 [(0, .inr (.inr 158)), (1, .inl l1), (2, .inl l2)] [] M := by
  intro n
  induction n with
  | zero =>
    intro l1 l2 M q h
    rw [fX7_ties_86] at h
    cases h
  | succ n ih =>
    intro l1 l2 M q h
    rw [fX7_ties_86] at h
    refine zEV.iload_n dX7_ties_86 rfl 2 rfl ?_
    refine zEV.bipush (v := 36) dX7_ties_87 rfl ?_
    refine zEV.icmp_ge 125 dX7_ties_89 (by decide) (fun c1 => ?_) (fun c1 => ?_)
    · rw [if_pos c1] at h
      refine zEV.iload_n dX7_ties_125 rfl 1 rfl ?_
      cases h
      exact zEV.iret rfl dX7_ties_126
    · rw [if_neg c1] at h
      refine zEV.aload_n dX7_ties_92 rfl 0 rfl ?_
      refine zEV.gfr rfl inz7 0 (by decide) wf_RX7_9 (by decide) rfl rfl dX7_ties_93 ?_
      refine zEV.sipush (v := 219) dX7_ties_96 rfl ?_
      refine zEV.iload_n dX7_ties_99 rfl 2 rfl ?_
      refine zEV.iadd dX7_ties_100 ?_
      refine zEV.iload_n dX7_ties_101 rfl 2 rfl ?_
      refine zEV.iconst (v := 3) dX7_ties_102 rfl ?_
      refine zEV.iload_n dX7_ties_103 rfl 1 rfl ?_
      refine zEV.imul dX7_ties_104 ?_
      refine zEV.icmp_ge 117 dX7_ties_105 (by decide) (fun c2 => ?_) (fun c2 => ?_)
      · rw [if_pos c2] at h
        refine zEV.iconst (v := 0) dX7_ties_117 rfl ?_
        exact zEV.perm [0, 1, 2] rfl (tX7_ties_118 (fX7_ties_86 n) (fun l1 l2 M9 q9 h9 => ih l1 l2 M9 q9 h9) (l1) (l2) (0) ((219 + l2)) M q h)
      · rw [if_neg c2] at h
        refine zEV.aload_n dX7_ties_108 rfl 0 rfl ?_
        refine zEV.gfr rfl inz7 9 (by decide) wf_RX7_21 (by decide) rfl rfl dX7_ties_109 ?_
        refine zEV.iload_n dX7_ties_112 rfl 2 rfl ?_
        obtain ⟨g3, h⟩ := ite_no h
        refine zEV.iald (by decide) rfl g3 dX7_ties_113 ?_
        refine zEV.goto 118 dX7_ties_114 (by decide) ?_
        exact zEV.perm [0, 1, 2] rfl (tX7_ties_118 (fX7_ties_86 n) (fun l1 l2 M9 q9 h9 => ih l1 l2 M9 q9 h9) (l1) (l2) ((M.1 162 (Int32.toNatClampNeg l2))) ((219 + l2)) M q h)
def fX7_ties_57 (l1 : Int32) (M : zMM) : Option (Int32 × zMM) :=
  (fX7_wasRight  M).bind fun q1 =>
  if q1.1 = (0 : Int32) then
    some (((-1) - (q1.2.1 158 8)), q1.2)
  else
    (fX7_change  q1.2).bind fun q3 =>
    if oob (218) 259 then none else
    fX7_ties_86 zFU (l1) (0) (wr q3 159 (Int32.toNatClampNeg 218) l1)
set_option maxRecDepth 4000 in
theorem tX7_ties_57 (l1 : Int32) (M : zMM) (q : Int32 × zMM) (h : fX7_ties_57 l1 M = some q) : zEV iX7_ties 0 0 (zZO (some (.inl q.1), q.2)) 57 [(0, .inr (.inr 158)), (1, .inl l1)] [] M := by
  unfold fX7_ties_57 at h
  refine zEV.aload_n dX7_ties_57 rfl 0 rfl ?_
  obtain ⟨q1, hq1, h⟩ := bind_yes h
  refine zEV.callVi (kX7_wasRight   M q1 hq1) (by decide) rfl rfl wm_RX7_104 wc_X7_wasRight hy_X7_wasRight rfl ⟨Nat.le_of_ble_eq_true rfl, Nat.le_of_ble_eq_true rfl⟩ rfl (Nat.le_of_ble_eq_true rfl) dX7_ties_58 ?_
  refine zEV.if_ne 71 dX7_ties_61 (by decide) (fun c2 => ?_) (fun c2 => ?_)
  · rw [if_neg c2] at h
    refine zEV.aload_n dX7_ties_71 rfl 0 rfl ?_
    obtain ⟨q3, hq3, h⟩ := bind_yes h
    refine zEV.callVv (kX7_change   q1.2 q3 hq3) (by decide) rfl rfl wm_RX7_107 wc_X7_change hy_X7_change rfl ⟨Nat.le_of_ble_eq_true rfl, Nat.le_of_ble_eq_true rfl⟩ rfl (Nat.le_of_ble_eq_true rfl) dX7_ties_72 ?_
    refine zEV.aload_n dX7_ties_75 rfl 0 rfl ?_
    refine zEV.gfr rfl inz7 0 (by decide) wf_RX7_9 (by decide) rfl rfl dX7_ties_76 ?_
    refine zEV.sipush (v := 218) dX7_ties_79 rfl ?_
    refine zEV.iload_n dX7_ties_82 rfl 1 rfl ?_
    obtain ⟨g4, h⟩ := ite_no h
    refine zEV.iast (by decide) rfl g4 dX7_ties_83 ?_
    refine zEV.iconst (v := 0) dX7_ties_84 rfl ?_
    refine zEV.istore_n dX7_ties_85 rfl (Nat.le_of_ble_eq_true rfl) rfl ?_
    exact zEV.perm [1, 2, 0] rfl (tX7_ties_86 zFU (l1) (0) (wr q3 159 (Int32.toNatClampNeg 218) l1) q h)
  · rw [if_pos c2] at h
    refine zEV.iconst (v := (-1)) dX7_ties_64 rfl ?_
    refine zEV.aload_n dX7_ties_65 rfl 0 rfl ?_
    refine zEV.gfi rfl inz7 8 (by decide) wf_RX7_82 (by decide) rfl rfl dX7_ties_66 ?_
    refine zEV.isub dX7_ties_69 ?_
    cases h
    exact zEV.iret rfl dX7_ties_70
def fX7_ties_11 : Nat → Int32 → zMM → Option (Int32 × zMM)
  | 0, _, _ => none
  | n + 1, l1, M =>
  (fX7_fine  M).bind fun q1 =>
  if q1.1 = (0 : Int32) then
    fX7_ties_57 (l1) q1.2
  else
    if (q1.2.1 158 6) ≤ (q1.2.1 158 7) then
      fX7_ties_57 (l1) q1.2
    else
      if l1 = 12 then
        (fX7_fault ((q1.2.1 158 7)) q1.2).bind fun q6 =>
        fX7_ties_11 n (l1) q6
      else
        (fX7_readTie (l1) q1.2).bind fun q5 =>
        fX7_ties_11 n ((l1 + 1)) q5
set_option maxRecDepth 4000 in
theorem tX7_ties_11 : ∀ (n : Nat) (l1 : Int32) (M : zMM) (q : Int32 × zMM), fX7_ties_11 n l1 M = some q → zEV iX7_ties 0 0 (zZO (some (.inl q.1), q.2)) 11 [(0, .inr (.inr 158)), (1, .inl l1)] [] M := by
  intro n
  induction n with
  | zero =>
    intro l1 M q h
    rw [fX7_ties_11] at h
    cases h
  | succ n ih =>
    intro l1 M q h
    rw [fX7_ties_11] at h
    refine zEV.aload_n dX7_ties_11 rfl 0 rfl ?_
    obtain ⟨q1, hq1, h⟩ := bind_yes h
    refine zEV.callVi (kX7_fine   M q1 hq1) (by decide) rfl rfl wm_RX7_85 wc_X7_fine hy_X7_fine rfl ⟨Nat.le_of_ble_eq_true rfl, Nat.le_of_ble_eq_true rfl⟩ rfl (Nat.le_of_ble_eq_true rfl) dX7_ties_12 ?_
    refine zEV.if_eq 57 dX7_ties_15 (by decide) (fun c2 => ?_) (fun c2 => ?_)
    · rw [if_pos c2] at h
      exact zEV.perm [0, 1] rfl (tX7_ties_57 (l1) q1.2 q h)
    · rw [if_neg c2] at h
      refine zEV.aload_n dX7_ties_18 rfl 0 rfl ?_
      refine zEV.gfi rfl inz7 7 (by decide) wf_RX7_79 (by decide) rfl rfl dX7_ties_19 ?_
      refine zEV.aload_n dX7_ties_22 rfl 0 rfl ?_
      refine zEV.gfi rfl inz7 6 (by decide) wf_RX7_76 (by decide) rfl rfl dX7_ties_23 ?_
      refine zEV.icmp_ge 57 dX7_ties_26 (by decide) (fun c3 => ?_) (fun c3 => ?_)
      · rw [if_pos c3] at h
        exact zEV.perm [0, 1] rfl (tX7_ties_57 (l1) q1.2 q h)
      · rw [if_neg c3] at h
        refine zEV.iload_n dX7_ties_29 rfl 1 rfl ?_
        refine zEV.bipush (v := 12) dX7_ties_30 rfl ?_
        refine zEV.icmp_ne 46 dX7_ties_32 (by decide) (fun c4 => ?_) (fun c4 => ?_)
        · rw [if_neg c4] at h
          refine zEV.aload_n dX7_ties_46 rfl 0 rfl ?_
          refine zEV.iload_n dX7_ties_47 rfl 1 rfl ?_
          obtain ⟨q5, hq5, h⟩ := bind_yes h
          refine zEV.callVv (kX7_readTie (l1)  q1.2 q5 hq5) (by decide) rfl rfl wm_RX7_128 wc_X7_readTie hy_X7_readTie rfl ⟨Nat.le_of_ble_eq_true rfl, Nat.le_of_ble_eq_true rfl⟩ rfl (Nat.le_of_ble_eq_true rfl) dX7_ties_48 ?_
          refine zEV.iinc (v := (l1 + 1)) dX7_ties_51 1 rfl rfl (Nat.le_of_ble_eq_true rfl) rfl ?_
          refine zEV.goto 11 dX7_ties_54 (by decide) ?_
          exact zEV.perm [1, 0] rfl (ih ((l1 + 1)) q5 q h)
        · rw [if_pos c4] at h
          refine zEV.aload_n dX7_ties_35 rfl 0 rfl ?_
          refine zEV.aload_n dX7_ties_36 rfl 0 rfl ?_
          refine zEV.gfi rfl inz7 7 (by decide) wf_RX7_79 (by decide) rfl rfl dX7_ties_37 ?_
          obtain ⟨q6, hq6, h⟩ := bind_yes h
          refine zEV.callVv (kX7_fault ((q1.2.1 158 7))  q1.2 q6 hq6) (by decide) rfl rfl wm_RX7_93 wc_X7_fault hy_X7_fault rfl ⟨Nat.le_of_ble_eq_true rfl, Nat.le_of_ble_eq_true rfl⟩ rfl (Nat.le_of_ble_eq_true rfl) dX7_ties_40 ?_
          refine zEV.goto 11 dX7_ties_43 (by decide) ?_
          exact zEV.perm [0, 1] rfl (ih (l1) q6 q h)
def fX7_ties (M : zMM) : Option (Int32 × zMM) :=
  (fX7_begin  (wr M 158 5 0)).bind fun q1 =>
  fX7_ties_11 zFU (0) q1
set_option maxRecDepth 4000 in
theorem tX7_ties_0 (M : zMM) (q : Int32 × zMM) (h : fX7_ties  M = some q) : zEV iX7_ties 0 0 (zZO (some (.inl q.1), q.2)) 0 [(0, .inr (.inr 158))] [] M := by
  unfold fX7_ties at h
  refine zEV.aload_n dX7_ties_0 rfl 0 rfl ?_
  refine zEV.iconst (v := 0) dX7_ties_1 rfl ?_
  refine zEV.pfi rfl inz7 tyX7 tyX7_ok nmX7 5 (by decide) wf_RX7_58 rfl (by decide +kernel) (by decide) rfl rfl dX7_ties_2 ?_
  refine zEV.aload_n dX7_ties_5 rfl 0 rfl ?_
  obtain ⟨q1, hq1, h⟩ := bind_yes h
  refine zEV.callVv (kX7_begin   (wr M 158 5 0) q1 hq1) (by decide) rfl rfl wm_RX7_101 wc_X7_begin hy_X7_begin rfl ⟨Nat.le_of_ble_eq_true rfl, Nat.le_of_ble_eq_true rfl⟩ rfl (Nat.le_of_ble_eq_true rfl) dX7_ties_6 ?_
  refine zEV.iconst (v := 0) dX7_ties_9 rfl ?_
  refine zEV.istore_n dX7_ties_10 rfl (Nat.le_of_ble_eq_true rfl) rfl ?_
  exact zEV.perm [1, 0] rfl (tX7_ties_11 zFU (0) q1 q h)
theorem kX7_ties (M : zMM) (q : Int32 × zMM) (h : fX7_ties M = some q) : zCN yX7_ties iX7_ties [.inr (.inr 158)] M (some (.inl q.1), q.2) :=
  zCN.of (by decide) rfl rfl (Nat.le_of_ble_eq_true rfl) (zEV.perm [0] rfl (tX7_ties_0 M q h))
-- RingedPageModel.entryOf
def fX7_entryOf (a0 : Int32) (a1 : Int32) (a2 : Int32) (a3 : Int32) (M : zMM) : Option (Int32 × zMM) :=
  if a0 = (0 : Int32) then
    some ((Int32.toInt8 (a1 + (a3 * a2))).toInt32, M)
  else
    if a0 = 1 then
      some ((Int32.toInt16 (a1 + (a3 * a2))).toInt32, M)
    else
      some ((a1 + (a3 * a2)), M)
set_option maxRecDepth 4000 in
theorem tX7_entryOf_0 (a0 : Int32) (a1 : Int32) (a2 : Int32) (a3 : Int32) (M : zMM) (q : Int32 × zMM) (h : fX7_entryOf a0 a1 a2 a3  M = some q) : zEV iX7_entryOf 0 0 (zZO (some (.inl q.1), q.2)) 0 [(0, .inl a0), (1, .inl a1), (2, .inl a2), (3, .inl a3)] [] M := by
  unfold fX7_entryOf at h
  refine zEV.iload_n dX7_entryOf_0 rfl 1 rfl ?_
  refine zEV.iload_n dX7_entryOf_1 rfl 3 rfl ?_
  refine zEV.iload_n dX7_entryOf_2 rfl 2 rfl ?_
  refine zEV.imul dX7_entryOf_3 ?_
  refine zEV.iadd dX7_entryOf_4 ?_
  refine zEV.istore dX7_entryOf_5 (Nat.le_of_ble_eq_true rfl) rfl ?_
  refine zEV.iload_n dX7_entryOf_7 rfl 1 rfl ?_
  refine zEV.if_ne 17 dX7_entryOf_8 (by decide) (fun c1 => ?_) (fun c1 => ?_)
  · rw [if_neg c1] at h
    refine zEV.iload_n dX7_entryOf_17 rfl 1 rfl ?_
    refine zEV.iconst (v := 1) dX7_entryOf_18 rfl ?_
    refine zEV.icmp_ne 28 dX7_entryOf_19 (by decide) (fun c2 => ?_) (fun c2 => ?_)
    · rw [if_neg c2] at h
      refine zEV.iload dX7_entryOf_28 0 rfl ?_
      cases h
      exact zEV.iret rfl dX7_entryOf_30
    · rw [if_pos c2] at h
      refine zEV.iload dX7_entryOf_22 0 rfl ?_
      refine zEV.i2s dX7_entryOf_24 ?_
      refine zEV.goto 30 dX7_entryOf_25 (by decide) ?_
      cases h
      exact zEV.iret rfl dX7_entryOf_30
  · rw [if_pos c1] at h
    refine zEV.iload dX7_entryOf_11 0 rfl ?_
    refine zEV.i2b dX7_entryOf_13 ?_
    refine zEV.goto 30 dX7_entryOf_14 (by decide) ?_
    cases h
    exact zEV.iret rfl dX7_entryOf_30
theorem kX7_entryOf (a0 : Int32) (a1 : Int32) (a2 : Int32) (a3 : Int32) (M : zMM) (q : Int32 × zMM) (h : fX7_entryOf a0 a1 a2 a3 M = some q) : zCN yX7_entryOf iX7_entryOf [.inl a0, .inl a1, .inl a2, .inl a3] M (some (.inl q.1), q.2) :=
  zCN.of (by decide) rfl rfl (Nat.le_of_ble_eq_true rfl) (zEV.perm [0, 1, 2, 3] rfl (tX7_entryOf_0 a0 a1 a2 a3 M q h))
-- RingedPageModel.sheet
def fX7_sheet_215 (K163 : Int32 → Int32 → zMM → Option (Int32 × zMM)) (a1 : Int32) (a2 : Int32) (a3 : Int32) (a4 : Int32) (a5 : Int32) (a6 : Int32) (l8 : Int32) (l9 : Int32) (l10 : Int32) (s0 : Int32) (s1 : Int32) (M : zMM) : Option (Int32 × zMM) :=
  if oob (l9) 259 then none else
  K163 ((s1 + s0)) ((l8 + 1)) (wr M 159 (Int32.toNatClampNeg l9) l10)
set_option maxRecDepth 4000 in
theorem tX7_sheet_215 (K163 : Int32 → Int32 → zMM → Option (Int32 × zMM)) (a1 : Int32) (a2 : Int32) (a3 : Int32) (a4 : Int32) (a5 : Int32) (a6 : Int32) (hK163 : ∀ (l7 : Int32) (l8 : Int32) (M : zMM) (q : Int32 × zMM), K163 l7 l8 M = some q → zEV iX7_sheet 0 0 (zZO (some (.inl q.1), q.2)) 163 [(0, .inr (.inr 158)), (1, .inl a1), (2, .inl a2), (3, .inl a3), (4, .inl a4), (5, .inl a5), (6, .inl a6), (7, .inl l7), (8, .inl l8)] [] M) (l8 : Int32) (l9 : Int32) (l10 : Int32) (s0 : Int32) (s1 : Int32) (M : zMM) (q : Int32 × zMM) (h : fX7_sheet_215 K163 a1 a2 a3 a4 a5 a6 l8 l9 l10 s0 s1 M = some q) : zEV iX7_sheet 0 0 (zZO (some (.inl q.1), q.2)) 215 [(0, .inr (.inr 158)), (1, .inl a1), (2, .inl a2), (3, .inl a3), (4, .inl a4), (5, .inl a5), (6, .inl a6), (8, .inl l8), (9, .inl l9), (10, .inl l10)] [.inl s0, .inl s1] M := by
  unfold fX7_sheet_215 at h
  refine zEV.iadd dX7_sheet_215 ?_
  refine zEV.istore dX7_sheet_216 (Nat.le_of_ble_eq_true rfl) rfl ?_
  refine zEV.aload_n dX7_sheet_218 rfl 1 rfl ?_
  refine zEV.gfr rfl inz7 0 (by decide) wf_RX7_9 (by decide) rfl rfl dX7_sheet_219 ?_
  refine zEV.iload dX7_sheet_222 9 rfl ?_
  refine zEV.iload dX7_sheet_224 10 rfl ?_
  obtain ⟨g1, h⟩ := ite_no h
  refine zEV.iast (by decide) rfl g1 dX7_sheet_226 ?_
  refine zEV.iinc (v := (l8 + 1)) dX7_sheet_227 8 rfl rfl (Nat.le_of_ble_eq_true rfl) rfl ?_
  refine zEV.goto 163 dX7_sheet_230 (by decide) ?_
  exact zEV.perm [2, 3, 4, 5, 6, 7, 8, 1, 0] rfl (hK163 ((s1 + s0)) ((l8 + 1)) (wr M 159 (Int32.toNatClampNeg l9) l10) q h)
def fX7_sheet_163 (a1 : Int32) (a2 : Int32) (a3 : Int32) (a4 : Int32) (a5 : Int32) (a6 : Int32) : Nat → Int32 → Int32 → zMM → Option (Int32 × zMM)
  | 0, _, _, _ => none
  | n + 1, l7, l8, M =>
  if a4 ≤ l8 then
    some (l7, M)
  else
    (fX7_entryOf (a3) (a5) (a6) (l8) M).bind fun q2 =>
    if oob ((((8 + (70 * a1)) + a2) + l8)) 259 then none else
    if (q2.2.1 159 (Int32.toNatClampNeg (((8 + (70 * a1)) + a2) + l8))) = q2.1 then
      fX7_sheet_215 (fX7_sheet_163 a1 a2 a3 a4 a5 a6 n) a1 a2 a3 a4 a5 a6 (l8) ((((8 + (70 * a1)) + a2) + l8)) (q2.1) (0) (l7) q2.2
    else
      fX7_sheet_215 (fX7_sheet_163 a1 a2 a3 a4 a5 a6 n) a1 a2 a3 a4 a5 a6 (l8) ((((8 + (70 * a1)) + a2) + l8)) (q2.1) (1) (l7) q2.2
set_option maxRecDepth 4000 in
theorem tX7_sheet_163 (a1 : Int32) (a2 : Int32) (a3 : Int32) (a4 : Int32) (a5 : Int32) (a6 : Int32) : ∀ (n : Nat) (l7 : Int32) (l8 : Int32) (M : zMM) (q : Int32 × zMM), fX7_sheet_163 a1 a2 a3 a4 a5 a6 n l7 l8 M = some q → zEV iX7_sheet 0 0 (zZO (some (.inl q.1), q.2)) 163 [(0, .inr (.inr 158)), (1, .inl a1), (2, .inl a2), (3, .inl a3), (4, .inl a4), (5, .inl a5), (6, .inl a6), (7, .inl l7), (8, .inl l8)] [] M := by
  intro n
  induction n with
  | zero =>
    intro l7 l8 M q h
    rw [fX7_sheet_163] at h
    cases h
  | succ n ih =>
    intro l7 l8 M q h
    rw [fX7_sheet_163] at h
    refine zEV.iload dX7_sheet_163 8 rfl ?_
    refine zEV.iload dX7_sheet_165 4 rfl ?_
    refine zEV.icmp_ge 233 dX7_sheet_167 (by decide) (fun c1 => ?_) (fun c1 => ?_)
    · rw [if_pos c1] at h
      refine zEV.iload dX7_sheet_233 7 rfl ?_
      cases h
      exact zEV.iret rfl dX7_sheet_235
    · rw [if_neg c1] at h
      refine zEV.bipush (v := 8) dX7_sheet_170 rfl ?_
      refine zEV.bipush (v := 70) dX7_sheet_172 rfl ?_
      refine zEV.iload_n dX7_sheet_174 rfl 1 rfl ?_
      refine zEV.imul dX7_sheet_175 ?_
      refine zEV.iadd dX7_sheet_176 ?_
      refine zEV.iload_n dX7_sheet_177 rfl 2 rfl ?_
      refine zEV.iadd dX7_sheet_178 ?_
      refine zEV.iload dX7_sheet_179 8 rfl ?_
      refine zEV.iadd dX7_sheet_181 ?_
      refine zEV.istore dX7_sheet_182 (Nat.le_of_ble_eq_true rfl) rfl ?_
      refine zEV.iload_n dX7_sheet_184 rfl 4 rfl ?_
      refine zEV.iload dX7_sheet_185 6 rfl ?_
      refine zEV.iload dX7_sheet_187 7 rfl ?_
      refine zEV.iload dX7_sheet_189 9 rfl ?_
      obtain ⟨q2, hq2, h⟩ := bind_yes h
      refine zEV.callSi (kX7_entryOf (a3) (a5) (a6) (l8)  M q2 hq2) wm_RX7_131 wc_X7_entryOf hy_X7_entryOf rfl ⟨Nat.le_of_ble_eq_true rfl, Nat.le_of_ble_eq_true rfl⟩ rfl (Nat.le_of_ble_eq_true rfl) dX7_sheet_191 ?_
      refine zEV.istore dX7_sheet_194 (Nat.le_of_ble_eq_true rfl) rfl ?_
      refine zEV.iload dX7_sheet_196 9 rfl ?_
      refine zEV.aload_n dX7_sheet_198 rfl 2 rfl ?_
      refine zEV.gfr rfl inz7 0 (by decide) wf_RX7_9 (by decide) rfl rfl dX7_sheet_199 ?_
      refine zEV.iload dX7_sheet_202 1 rfl ?_
      obtain ⟨g3, h⟩ := ite_no h
      refine zEV.iald (by decide) rfl g3 dX7_sheet_204 ?_
      refine zEV.iload dX7_sheet_205 0 rfl ?_
      refine zEV.icmp_eq 214 dX7_sheet_207 (by decide) (fun c4 => ?_) (fun c4 => ?_)
      · rw [if_pos c4] at h
        refine zEV.iconst (v := 0) dX7_sheet_214 rfl ?_
        exact zEV.perm [2, 3, 4, 5, 6, 7, 8, 10, 1, 0] rfl (tX7_sheet_215 (fX7_sheet_163 a1 a2 a3 a4 a5 a6 n) a1 a2 a3 a4 a5 a6 (fun l7 l8 M9 q9 h9 => ih l7 l8 M9 q9 h9) (l8) ((((8 + (70 * a1)) + a2) + l8)) (q2.1) (0) (l7) q2.2 q h)
      · rw [if_neg c4] at h
        refine zEV.iconst (v := 1) dX7_sheet_210 rfl ?_
        refine zEV.goto 215 dX7_sheet_211 (by decide) ?_
        exact zEV.perm [2, 3, 4, 5, 6, 7, 8, 10, 1, 0] rfl (tX7_sheet_215 (fX7_sheet_163 a1 a2 a3 a4 a5 a6 n) a1 a2 a3 a4 a5 a6 (fun l7 l8 M9 q9 h9 => ih l7 l8 M9 q9 h9) (l8) ((((8 + (70 * a1)) + a2) + l8)) (q2.1) (1) (l7) q2.2 q h)
def fX7_sheet_145 (a1 : Int32) (a2 : Int32) (a3 : Int32) (a4 : Int32) (a5 : Int32) (a6 : Int32) (s0 : Int64) (M : zMM) : Option (Int32 × zMM) :=
  (fX7_tell (s0) M).bind fun q1 =>
  some ((-4), q1)
set_option maxRecDepth 4000 in
theorem tX7_sheet_145 (a1 : Int32) (a2 : Int32) (a3 : Int32) (a4 : Int32) (a5 : Int32) (a6 : Int32) (s0 : Int64) (M : zMM) (q : Int32 × zMM) (h : fX7_sheet_145 a1 a2 a3 a4 a5 a6 s0 M = some q) : zEV iX7_sheet 0 0 (zZO (some (.inl q.1), q.2)) 145 [] [.inr (.inl s0), .inr (.inr 158)] M := by
  unfold fX7_sheet_145 at h
  obtain ⟨q1, hq1, h⟩ := bind_yes h
  refine zEV.callVv (kX7_tell (s0)  M q1 hq1) (by decide) rfl rfl wm_RX7_135 wc_X7_tell hy_X7_tell rfl ⟨Nat.le_of_ble_eq_true rfl, Nat.le_of_ble_eq_true rfl⟩ rfl (Nat.le_of_ble_eq_true rfl) dX7_sheet_145 ?_
  refine zEV.bipush (v := (-4)) dX7_sheet_148 rfl ?_
  cases h
  exact zEV.iret rfl dX7_sheet_150
def fX7_sheet_120 (a1 : Int32) (a2 : Int32) (a3 : Int32) (a4 : Int32) (a5 : Int32) (a6 : Int32) (l7 : Int32) (l10 : Int32) (M : zMM) : Option (Int32 × zMM) :=
  (fX7_tell ((Int32.toInt64 l7)) (wr M 158 4 0)).bind fun q1 =>
  if l10 = (0 : Int32) then
    fX7_sheet_145 a1 a2 a3 a4 a5 a6 ((2 : Int64)) q1
  else
    fX7_sheet_145 a1 a2 a3 a4 a5 a6 ((1 : Int64)) q1
set_option maxRecDepth 4000 in
theorem tX7_sheet_120 (a1 : Int32) (a2 : Int32) (a3 : Int32) (a4 : Int32) (a5 : Int32) (a6 : Int32) (l7 : Int32) (l10 : Int32) (M : zMM) (q : Int32 × zMM) (h : fX7_sheet_120 a1 a2 a3 a4 a5 a6 l7 l10 M = some q) : zEV iX7_sheet 0 0 (zZO (some (.inl q.1), q.2)) 120 [(0, .inr (.inr 158)), (7, .inl l7), (10, .inl l10)] [] M := by
  unfold fX7_sheet_120 at h
  refine zEV.aload_n dX7_sheet_120 rfl 0 rfl ?_
  refine zEV.iconst (v := 0) dX7_sheet_121 rfl ?_
  refine zEV.pfi rfl inz7 tyX7 tyX7_ok nmX7 4 (by decide) wf_RX7_62 rfl (by decide +kernel) (by decide) rfl rfl dX7_sheet_122 ?_
  refine zEV.aload_n dX7_sheet_125 rfl 0 rfl ?_
  refine zEV.iload dX7_sheet_126 1 rfl ?_
  refine zEV.i2l dX7_sheet_128 ?_
  obtain ⟨q1, hq1, h⟩ := bind_yes h
  refine zEV.callVv (kX7_tell ((Int32.toInt64 l7))  (wr M 158 4 0) q1 hq1) (by decide) rfl rfl wm_RX7_135 wc_X7_tell hy_X7_tell rfl ⟨Nat.le_of_ble_eq_true rfl, Nat.le_of_ble_eq_true rfl⟩ rfl (Nat.le_of_ble_eq_true rfl) dX7_sheet_129 ?_
  refine zEV.aload_n dX7_sheet_132 rfl 0 rfl ?_
  refine zEV.iload dX7_sheet_133 2 rfl ?_
  refine zEV.if_eq 142 dX7_sheet_135 (by decide) (fun c2 => ?_) (fun c2 => ?_)
  · rw [if_pos c2] at h
    refine zEV.ldc2w wk_RX7_139 dX7_sheet_142 ?_
    exact zEV.perm [] rfl (tX7_sheet_145 a1 a2 a3 a4 a5 a6 ((2 : Int64)) q1 q h)
  · rw [if_neg c2] at h
    refine zEV.lconst (v := 1) dX7_sheet_138 rfl ?_
    refine zEV.goto 145 dX7_sheet_139 (by decide) ?_
    exact zEV.perm [] rfl (tX7_sheet_145 a1 a2 a3 a4 a5 a6 ((1 : Int64)) q1 q h)
def fX7_sheet_91 (K49 : Int32 → zMM → Option (Int32 × zMM)) (a1 : Int32) (a2 : Int32) (a3 : Int32) (a4 : Int32) (a5 : Int32) (a6 : Int32) (l7 : Int32) (s0 : Int32) (M : zMM) : Option (Int32 × zMM) :=
  if s0 = (0 : Int32) then
    (fX7_entryOf (a3) (a5) (a6) (l7) M).bind fun q2 =>
    (fX7_in (q2.1) (1) (9) q2.2).bind fun q3 =>
    if q3.1 = (0 : Int32) then
      fX7_sheet_120 a1 a2 a3 a4 a5 a6 (l7) (s0) q3.2
    else
      K49 ((l7 + 1)) q3.2
  else
    fX7_sheet_120 a1 a2 a3 a4 a5 a6 (l7) (s0) M
set_option maxRecDepth 4000 in
theorem tX7_sheet_91 (K49 : Int32 → zMM → Option (Int32 × zMM)) (a1 : Int32) (a2 : Int32) (a3 : Int32) (a4 : Int32) (a5 : Int32) (a6 : Int32) (hK49 : ∀ (l7 : Int32) (M : zMM) (q : Int32 × zMM), K49 l7 M = some q → zEV iX7_sheet 0 0 (zZO (some (.inl q.1), q.2)) 49 [(0, .inr (.inr 158)), (1, .inl a1), (2, .inl a2), (3, .inl a3), (4, .inl a4), (5, .inl a5), (6, .inl a6), (7, .inl l7)] [] M) (l7 : Int32) (s0 : Int32) (M : zMM) (q : Int32 × zMM) (h : fX7_sheet_91 K49 a1 a2 a3 a4 a5 a6 l7 s0 M = some q) : zEV iX7_sheet 0 0 (zZO (some (.inl q.1), q.2)) 91 [(0, .inr (.inr 158)), (1, .inl a1), (2, .inl a2), (3, .inl a3), (4, .inl a4), (5, .inl a5), (6, .inl a6), (7, .inl l7)] [.inl s0] M := by
  unfold fX7_sheet_91 at h
  refine zEV.istore dX7_sheet_91 (Nat.le_of_ble_eq_true rfl) rfl ?_
  refine zEV.iload dX7_sheet_93 0 rfl ?_
  refine zEV.if_ne 120 dX7_sheet_95 (by decide) (fun c1 => ?_) (fun c1 => ?_)
  · rw [if_neg c1] at h
    exact zEV.perm [1, 8, 0] rfl (tX7_sheet_120 a1 a2 a3 a4 a5 a6 (l7) (s0) M q h)
  · rw [if_pos c1] at h
    refine zEV.iload_n dX7_sheet_98 rfl 4 rfl ?_
    refine zEV.iload dX7_sheet_99 6 rfl ?_
    refine zEV.iload dX7_sheet_101 7 rfl ?_
    refine zEV.iload dX7_sheet_103 8 rfl ?_
    obtain ⟨q2, hq2, h⟩ := bind_yes h
    refine zEV.callSi (kX7_entryOf (a3) (a5) (a6) (l7)  M q2 hq2) wm_RX7_131 wc_X7_entryOf hy_X7_entryOf rfl ⟨Nat.le_of_ble_eq_true rfl, Nat.le_of_ble_eq_true rfl⟩ rfl (Nat.le_of_ble_eq_true rfl) dX7_sheet_105 ?_
    refine zEV.iconst (v := 1) dX7_sheet_108 rfl ?_
    refine zEV.bipush (v := 9) dX7_sheet_109 rfl ?_
    obtain ⟨q3, hq3, h⟩ := bind_yes h
    refine zEV.callSi (kX7_in (q2.1) (1) (9)  q2.2 q3 hq3) wm_RX7_65 wc_X7_in hy_X7_in rfl ⟨Nat.le_of_ble_eq_true rfl, Nat.le_of_ble_eq_true rfl⟩ rfl (Nat.le_of_ble_eq_true rfl) dX7_sheet_111 ?_
    refine zEV.if_eq 120 dX7_sheet_114 (by decide) (fun c4 => ?_) (fun c4 => ?_)
    · rw [if_pos c4] at h
      exact zEV.perm [1, 8, 0] rfl (tX7_sheet_120 a1 a2 a3 a4 a5 a6 (l7) (s0) q3.2 q h)
    · rw [if_neg c4] at h
      refine zEV.goto 151 dX7_sheet_117 (by decide) ?_
      refine zEV.iinc (v := (l7 + 1)) dX7_sheet_151 8 rfl rfl (Nat.le_of_ble_eq_true rfl) rfl ?_
      refine zEV.goto 49 dX7_sheet_154 (by decide) ?_
      exact zEV.perm [2, 3, 4, 5, 6, 7, 8, 0] rfl (hK49 ((l7 + 1)) q3.2 q h)
def fX7_sheet_86 (K49 : Int32 → zMM → Option (Int32 × zMM)) (a1 : Int32) (a2 : Int32) (a3 : Int32) (a4 : Int32) (a5 : Int32) (a6 : Int32) (l7 : Int32) (M : zMM) : Option (Int32 × zMM) :=
  fX7_sheet_91 K49 a1 a2 a3 a4 a5 a6 (l7) (1) M
set_option maxRecDepth 4000 in
theorem tX7_sheet_86 (K49 : Int32 → zMM → Option (Int32 × zMM)) (a1 : Int32) (a2 : Int32) (a3 : Int32) (a4 : Int32) (a5 : Int32) (a6 : Int32) (hK49 : ∀ (l7 : Int32) (M : zMM) (q : Int32 × zMM), K49 l7 M = some q → zEV iX7_sheet 0 0 (zZO (some (.inl q.1), q.2)) 49 [(0, .inr (.inr 158)), (1, .inl a1), (2, .inl a2), (3, .inl a3), (4, .inl a4), (5, .inl a5), (6, .inl a6), (7, .inl l7)] [] M) (l7 : Int32) (M : zMM) (q : Int32 × zMM) (h : fX7_sheet_86 K49 a1 a2 a3 a4 a5 a6 l7 M = some q) : zEV iX7_sheet 0 0 (zZO (some (.inl q.1), q.2)) 86 [(0, .inr (.inr 158)), (1, .inl a1), (2, .inl a2), (3, .inl a3), (4, .inl a4), (5, .inl a5), (6, .inl a6), (7, .inl l7)] [] M := by
  unfold fX7_sheet_86 at h
  refine zEV.iconst (v := 1) dX7_sheet_86 rfl ?_
  refine zEV.goto 91 dX7_sheet_87 (by decide) ?_
  exact zEV.perm [0, 1, 2, 3, 4, 5, 6, 7] rfl (tX7_sheet_91 K49 a1 a2 a3 a4 a5 a6 hK49 (l7) (1) M q h)
def fX7_sheet_49 (a1 : Int32) (a2 : Int32) (a3 : Int32) (a4 : Int32) (a5 : Int32) (a6 : Int32) : Nat → Int32 → zMM → Option (Int32 × zMM)
  | 0, _, _ => none
  | n + 1, l7, M =>
  if a4 ≤ l7 then
    fX7_sheet_163 a1 a2 a3 a4 a5 a6 zFU (0) (0) M
  else
    if (lg_cmp ((Int32.toInt64 a2) + (Int32.toInt64 l7)) (0 : Int64)) < (0 : Int32) then
      fX7_sheet_86 (fX7_sheet_49 a1 a2 a3 a4 a5 a6 n) a1 a2 a3 a4 a5 a6 (l7) M
    else
      if oob ((5 + a1)) 259 then none else
      if (lg_cmp ((Int32.toInt64 a2) + (Int32.toInt64 l7)) (Int32.toInt64 (M.1 159 (Int32.toNatClampNeg (5 + a1))))) < (0 : Int32) then
        fX7_sheet_91 (fX7_sheet_49 a1 a2 a3 a4 a5 a6 n) a1 a2 a3 a4 a5 a6 (l7) (0) M
      else
        fX7_sheet_86 (fX7_sheet_49 a1 a2 a3 a4 a5 a6 n) a1 a2 a3 a4 a5 a6 (l7) M
set_option maxRecDepth 4000 in
theorem tX7_sheet_49 (a1 : Int32) (a2 : Int32) (a3 : Int32) (a4 : Int32) (a5 : Int32) (a6 : Int32) : ∀ (n : Nat) (l7 : Int32) (M : zMM) (q : Int32 × zMM), fX7_sheet_49 a1 a2 a3 a4 a5 a6 n l7 M = some q → zEV iX7_sheet 0 0 (zZO (some (.inl q.1), q.2)) 49 [(0, .inr (.inr 158)), (1, .inl a1), (2, .inl a2), (3, .inl a3), (4, .inl a4), (5, .inl a5), (6, .inl a6), (7, .inl l7)] [] M := by
  intro n
  induction n with
  | zero =>
    intro l7 M q h
    rw [fX7_sheet_49] at h
    cases h
  | succ n ih =>
    intro l7 M q h
    rw [fX7_sheet_49] at h
    refine zEV.iload dX7_sheet_49 7 rfl ?_
    refine zEV.iload dX7_sheet_51 4 rfl ?_
    refine zEV.icmp_ge 157 dX7_sheet_53 (by decide) (fun c1 => ?_) (fun c1 => ?_)
    · rw [if_pos c1] at h
      refine zEV.iconst (v := 0) dX7_sheet_157 rfl ?_
      refine zEV.istore dX7_sheet_158 (Nat.le_of_ble_eq_true rfl) rfl ?_
      refine zEV.iconst (v := 0) dX7_sheet_160 rfl ?_
      refine zEV.istore dX7_sheet_161 (Nat.le_of_ble_eq_true rfl) rfl ?_
      exact zEV.perm [2, 3, 4, 5, 6, 7, 8, 1, 0] rfl (tX7_sheet_163 a1 a2 a3 a4 a5 a6 zFU (0) (0) M q h)
    · rw [if_neg c1] at h
      refine zEV.iload_n dX7_sheet_56 rfl 2 rfl ?_
      refine zEV.i2l dX7_sheet_57 ?_
      refine zEV.iload dX7_sheet_58 7 rfl ?_
      refine zEV.i2l dX7_sheet_60 ?_
      refine zEV.ladd dX7_sheet_61 ?_
      refine zEV.lstore dX7_sheet_62 (Nat.le_of_ble_eq_true rfl) rfl ?_
      refine zEV.lload dX7_sheet_64 0 rfl ?_
      refine zEV.lconst (v := 0) dX7_sheet_66 rfl ?_
      refine zEV.lcmp dX7_sheet_67 ?_
      refine zEV.if_lt 86 dX7_sheet_68 (by decide) (fun c2 => ?_) (fun c2 => ?_)
      · rw [if_pos c2] at h
        exact zEV.perm [1, 2, 3, 4, 5, 6, 7, 8] rfl (tX7_sheet_86 (fX7_sheet_49 a1 a2 a3 a4 a5 a6 n) a1 a2 a3 a4 a5 a6 (fun l7 M9 q9 h9 => ih l7 M9 q9 h9) (l7) M q h)
      · rw [if_neg c2] at h
        refine zEV.lload dX7_sheet_71 0 rfl ?_
        refine zEV.aload_n dX7_sheet_73 rfl 1 rfl ?_
        refine zEV.gfr rfl inz7 0 (by decide) wf_RX7_9 (by decide) rfl rfl dX7_sheet_74 ?_
        refine zEV.iconst (v := 5) dX7_sheet_77 rfl ?_
        refine zEV.iload_n dX7_sheet_78 rfl 2 rfl ?_
        refine zEV.iadd dX7_sheet_79 ?_
        obtain ⟨g3, h⟩ := ite_no h
        refine zEV.iald (by decide) rfl g3 dX7_sheet_80 ?_
        refine zEV.i2l dX7_sheet_81 ?_
        refine zEV.lcmp dX7_sheet_82 ?_
        refine zEV.if_lt 90 dX7_sheet_83 (by decide) (fun c4 => ?_) (fun c4 => ?_)
        · rw [if_pos c4] at h
          refine zEV.iconst (v := 0) dX7_sheet_90 rfl ?_
          exact zEV.perm [1, 2, 3, 4, 5, 6, 7, 8] rfl (tX7_sheet_91 (fX7_sheet_49 a1 a2 a3 a4 a5 a6 n) a1 a2 a3 a4 a5 a6 (fun l7 M9 q9 h9 => ih l7 M9 q9 h9) (l7) (0) M q h)
        · rw [if_neg c4] at h
          exact zEV.perm [1, 2, 3, 4, 5, 6, 7, 8] rfl (tX7_sheet_86 (fX7_sheet_49 a1 a2 a3 a4 a5 a6 n) a1 a2 a3 a4 a5 a6 (fun l7 M9 q9 h9 => ih l7 M9 q9 h9) (l7) M q h)
def fX7_sheet (a1 : Int32) (a2 : Int32) (a3 : Int32) (a4 : Int32) (a5 : Int32) (a6 : Int32) (M : zMM) : Option (Int32 × zMM) :=
  (fX7_isText (a1) (wr M 158 5 0)).bind fun q1 =>
  if q1.1 = (0 : Int32) then
    some ((-1), q1.2)
  else
    (fX7_in (a3) (0) (3) q1.2).bind fun q3 =>
    if q3.1 = (0 : Int32) then
      some ((-1), q3.2)
    else
      if a4 ≤ 70 then
        if a3 = 3 then
          some ((-3), q3.2)
        else
          if (0 : Int32) ≤ a4 then
            fX7_sheet_49 a1 a2 a3 a4 a5 a6 zFU (0) q3.2
          else
            some ((-2), q3.2)
      else
        some ((-1), q3.2)
set_option maxRecDepth 4000 in
theorem tX7_sheet_0 (a1 : Int32) (a2 : Int32) (a3 : Int32) (a4 : Int32) (a5 : Int32) (a6 : Int32) (M : zMM) (q : Int32 × zMM) (h : fX7_sheet a1 a2 a3 a4 a5 a6  M = some q) : zEV iX7_sheet 0 0 (zZO (some (.inl q.1), q.2)) 0 [(0, .inr (.inr 158)), (1, .inl a1), (2, .inl a2), (3, .inl a3), (4, .inl a4), (5, .inl a5), (6, .inl a6)] [] M := by
  unfold fX7_sheet at h
  refine zEV.aload_n dX7_sheet_0 rfl 0 rfl ?_
  refine zEV.iconst (v := 0) dX7_sheet_1 rfl ?_
  refine zEV.pfi rfl inz7 tyX7 tyX7_ok nmX7 5 (by decide) wf_RX7_58 rfl (by decide +kernel) (by decide) rfl rfl dX7_sheet_2 ?_
  refine zEV.iload_n dX7_sheet_5 rfl 1 rfl ?_
  obtain ⟨q1, hq1, h⟩ := bind_yes h
  refine zEV.callSi (kX7_isText (a1)  (wr M 158 5 0) q1 hq1) wm_RX7_69 wc_X7_isText hy_X7_isText rfl ⟨Nat.le_of_ble_eq_true rfl, Nat.le_of_ble_eq_true rfl⟩ rfl (Nat.le_of_ble_eq_true rfl) dX7_sheet_6 ?_
  refine zEV.if_eq 28 dX7_sheet_9 (by decide) (fun c2 => ?_) (fun c2 => ?_)
  · rw [if_pos c2] at h
    refine zEV.iconst (v := (-1)) dX7_sheet_28 rfl ?_
    cases h
    exact zEV.iret rfl dX7_sheet_29
  · rw [if_neg c2] at h
    refine zEV.iload_n dX7_sheet_12 rfl 3 rfl ?_
    refine zEV.iconst (v := 0) dX7_sheet_13 rfl ?_
    refine zEV.iconst (v := 3) dX7_sheet_14 rfl ?_
    obtain ⟨q3, hq3, h⟩ := bind_yes h
    refine zEV.callSi (kX7_in (a3) (0) (3)  q1.2 q3 hq3) wm_RX7_65 wc_X7_in hy_X7_in rfl ⟨Nat.le_of_ble_eq_true rfl, Nat.le_of_ble_eq_true rfl⟩ rfl (Nat.le_of_ble_eq_true rfl) dX7_sheet_15 ?_
    refine zEV.if_eq 28 dX7_sheet_18 (by decide) (fun c4 => ?_) (fun c4 => ?_)
    · rw [if_pos c4] at h
      refine zEV.iconst (v := (-1)) dX7_sheet_28 rfl ?_
      cases h
      exact zEV.iret rfl dX7_sheet_29
    · rw [if_neg c4] at h
      refine zEV.iload dX7_sheet_21 4 rfl ?_
      refine zEV.bipush (v := 70) dX7_sheet_23 rfl ?_
      refine zEV.icmp_le 30 dX7_sheet_25 (by decide) (fun c5 => ?_) (fun c5 => ?_)
      · rw [if_pos c5] at h
        refine zEV.iload_n dX7_sheet_30 rfl 3 rfl ?_
        refine zEV.iconst (v := 3) dX7_sheet_31 rfl ?_
        refine zEV.icmp_ne 38 dX7_sheet_32 (by decide) (fun c6 => ?_) (fun c6 => ?_)
        · rw [if_neg c6] at h
          refine zEV.iload dX7_sheet_38 4 rfl ?_
          refine zEV.if_ge 46 dX7_sheet_40 (by decide) (fun c7 => ?_) (fun c7 => ?_)
          · rw [if_pos c7] at h
            refine zEV.iconst (v := 0) dX7_sheet_46 rfl ?_
            refine zEV.istore dX7_sheet_47 (Nat.le_of_ble_eq_true rfl) rfl ?_
            exact zEV.perm [1, 2, 3, 4, 5, 6, 7, 0] rfl (tX7_sheet_49 a1 a2 a3 a4 a5 a6 zFU (0) q3.2 q h)
          · rw [if_neg c7] at h
            refine zEV.bipush (v := (-2)) dX7_sheet_43 rfl ?_
            cases h
            exact zEV.iret rfl dX7_sheet_45
        · rw [if_pos c6] at h
          refine zEV.bipush (v := (-3)) dX7_sheet_35 rfl ?_
          cases h
          exact zEV.iret rfl dX7_sheet_37
      · rw [if_neg c5] at h
        refine zEV.iconst (v := (-1)) dX7_sheet_28 rfl ?_
        cases h
        exact zEV.iret rfl dX7_sheet_29
theorem kX7_sheet (a1 : Int32) (a2 : Int32) (a3 : Int32) (a4 : Int32) (a5 : Int32) (a6 : Int32) (M : zMM) (q : Int32 × zMM) (h : fX7_sheet a1 a2 a3 a4 a5 a6 M = some q) : zCN yX7_sheet iX7_sheet [.inr (.inr 158), .inl a1, .inl a2, .inl a3, .inl a4, .inl a5, .inl a6] M (some (.inl q.1), q.2) :=
  zCN.of (by decide) rfl rfl (Nat.le_of_ble_eq_true rfl) (zEV.perm [0, 1, 2, 3, 4, 5, 6] rfl (tX7_sheet_0 a1 a2 a3 a4 a5 a6 M q h))
-- RingedPageModel.isLeft
def fX7_isLeft (a1 : Int32) (M : zMM) : Option (Int32 × zMM) :=
  if oob (a1) 3 then none else
  if oob ((5 + a1)) 259 then none else
  if (M.1 159 (Int32.toNatClampNeg (5 + a1))) ≤ (M.1 165 (Int32.toNatClampNeg a1)) then
    some (0, M)
  else
    some (1, M)
set_option maxRecDepth 4000 in
theorem tX7_isLeft_0 (a1 : Int32) (M : zMM) (q : Int32 × zMM) (h : fX7_isLeft a1  M = some q) : zEV iX7_isLeft 0 0 (zZO (some (.inl q.1), q.2)) 0 [(0, .inr (.inr 158)), (1, .inl a1)] [] M := by
  unfold fX7_isLeft at h
  refine zEV.aload_n dX7_isLeft_0 rfl 0 rfl ?_
  refine zEV.gfr rfl inz7 13 (by decide) wf_RX7_30 (by decide) rfl rfl dX7_isLeft_1 ?_
  refine zEV.iload_n dX7_isLeft_4 rfl 1 rfl ?_
  obtain ⟨g1, h⟩ := ite_no h
  refine zEV.iald (by decide) rfl g1 dX7_isLeft_5 ?_
  refine zEV.aload_n dX7_isLeft_6 rfl 0 rfl ?_
  refine zEV.gfr rfl inz7 0 (by decide) wf_RX7_9 (by decide) rfl rfl dX7_isLeft_7 ?_
  refine zEV.iconst (v := 5) dX7_isLeft_10 rfl ?_
  refine zEV.iload_n dX7_isLeft_11 rfl 1 rfl ?_
  refine zEV.iadd dX7_isLeft_12 ?_
  obtain ⟨g2, h⟩ := ite_no h
  refine zEV.iald (by decide) rfl g2 dX7_isLeft_13 ?_
  refine zEV.icmp_ge 21 dX7_isLeft_14 (by decide) (fun c3 => ?_) (fun c3 => ?_)
  · rw [if_pos c3] at h
    refine zEV.iconst (v := 0) dX7_isLeft_21 rfl ?_
    cases h
    exact zEV.zret rfl (Or.inl rfl) dX7_isLeft_22
  · rw [if_neg c3] at h
    refine zEV.iconst (v := 1) dX7_isLeft_17 rfl ?_
    refine zEV.goto 22 dX7_isLeft_18 (by decide) ?_
    cases h
    exact zEV.zret rfl (Or.inr rfl) dX7_isLeft_22
theorem kX7_isLeft (a1 : Int32) (M : zMM) (q : Int32 × zMM) (h : fX7_isLeft a1 M = some q) : zCN yX7_isLeft iX7_isLeft [.inr (.inr 158), .inl a1] M (some (.inl q.1), q.2) :=
  zCN.of (by decide) rfl rfl (Nat.le_of_ble_eq_true rfl) (zEV.perm [0, 1] rfl (tX7_isLeft_0 a1 M q h))
-- RingedPageModel.areLeft
def fX7_areLeft (M : zMM) : Option (Int32 × zMM) :=
  (fX7_isLeft (0) M).bind fun q1 =>
  if q1.1 = (0 : Int32) then
    (fX7_isLeft (1) q1.2).bind fun q3 =>
    if q3.1 = (0 : Int32) then
      (fX7_isLeft (2) q3.2).bind fun q5 =>
      if q5.1 = (0 : Int32) then
        some (0, q5.2)
      else
        some (1, q5.2)
    else
      some (1, q3.2)
  else
    some (1, q1.2)
set_option maxRecDepth 4000 in
theorem tX7_areLeft_0 (M : zMM) (q : Int32 × zMM) (h : fX7_areLeft  M = some q) : zEV iX7_areLeft 0 0 (zZO (some (.inl q.1), q.2)) 0 [(0, .inr (.inr 158))] [] M := by
  unfold fX7_areLeft at h
  refine zEV.aload_n dX7_areLeft_0 rfl 0 rfl ?_
  refine zEV.iconst (v := 0) dX7_areLeft_1 rfl ?_
  obtain ⟨q1, hq1, h⟩ := bind_yes h
  refine zEV.callVi (kX7_isLeft (0)  M q1 hq1) (by decide) rfl rfl wm_RX7_141 wc_X7_isLeft hy_X7_isLeft rfl ⟨Nat.le_of_ble_eq_true rfl, Nat.le_of_ble_eq_true rfl⟩ rfl (Nat.le_of_ble_eq_true rfl) dX7_areLeft_2 ?_
  refine zEV.if_ne 24 dX7_areLeft_5 (by decide) (fun c2 => ?_) (fun c2 => ?_)
  · rw [if_neg c2] at h
    refine zEV.iconst (v := 1) dX7_areLeft_24 rfl ?_
    refine zEV.goto 29 dX7_areLeft_25 (by decide) ?_
    cases h
    exact zEV.zret rfl (Or.inr rfl) dX7_areLeft_29
  · rw [if_pos c2] at h
    refine zEV.aload_n dX7_areLeft_8 rfl 0 rfl ?_
    refine zEV.iconst (v := 1) dX7_areLeft_9 rfl ?_
    obtain ⟨q3, hq3, h⟩ := bind_yes h
    refine zEV.callVi (kX7_isLeft (1)  q1.2 q3 hq3) (by decide) rfl rfl wm_RX7_141 wc_X7_isLeft hy_X7_isLeft rfl ⟨Nat.le_of_ble_eq_true rfl, Nat.le_of_ble_eq_true rfl⟩ rfl (Nat.le_of_ble_eq_true rfl) dX7_areLeft_10 ?_
    refine zEV.if_ne 24 dX7_areLeft_13 (by decide) (fun c4 => ?_) (fun c4 => ?_)
    · rw [if_neg c4] at h
      refine zEV.iconst (v := 1) dX7_areLeft_24 rfl ?_
      refine zEV.goto 29 dX7_areLeft_25 (by decide) ?_
      cases h
      exact zEV.zret rfl (Or.inr rfl) dX7_areLeft_29
    · rw [if_pos c4] at h
      refine zEV.aload_n dX7_areLeft_16 rfl 0 rfl ?_
      refine zEV.iconst (v := 2) dX7_areLeft_17 rfl ?_
      obtain ⟨q5, hq5, h⟩ := bind_yes h
      refine zEV.callVi (kX7_isLeft (2)  q3.2 q5 hq5) (by decide) rfl rfl wm_RX7_141 wc_X7_isLeft hy_X7_isLeft rfl ⟨Nat.le_of_ble_eq_true rfl, Nat.le_of_ble_eq_true rfl⟩ rfl (Nat.le_of_ble_eq_true rfl) dX7_areLeft_18 ?_
      refine zEV.if_eq 28 dX7_areLeft_21 (by decide) (fun c6 => ?_) (fun c6 => ?_)
      · rw [if_pos c6] at h
        refine zEV.iconst (v := 0) dX7_areLeft_28 rfl ?_
        cases h
        exact zEV.zret rfl (Or.inl rfl) dX7_areLeft_29
      · rw [if_neg c6] at h
        refine zEV.iconst (v := 1) dX7_areLeft_24 rfl ?_
        refine zEV.goto 29 dX7_areLeft_25 (by decide) ?_
        cases h
        exact zEV.zret rfl (Or.inr rfl) dX7_areLeft_29
theorem kX7_areLeft (M : zMM) (q : Int32 × zMM) (h : fX7_areLeft M = some q) : zCN yX7_areLeft iX7_areLeft [.inr (.inr 158)] M (some (.inl q.1), q.2) :=
  zCN.of (by decide) rfl rfl (Nat.le_of_ble_eq_true rfl) (zEV.perm [0] rfl (tX7_areLeft_0 M q h))
-- RingedPageModel.setPart
def fX7_setPart_229 (a1 : Int32) (a2 : Int32) (a3 : Int32) (a4 : Int32) (a5 : Int32) (s0 : Int32) (s1 : Int32) (M : zMM) : Option (zMM) :=
  if oob (s1) 1680 then none else
  some (wr (wr M 163 (Int32.toNatClampNeg s1) s0) 158 11 (((wr M 163 (Int32.toNatClampNeg s1) s0).1 158 11) + 1))
set_option maxRecDepth 4000 in
theorem tX7_setPart_229 (a1 : Int32) (a2 : Int32) (a3 : Int32) (a4 : Int32) (a5 : Int32) (s0 : Int32) (s1 : Int32) (M : zMM) (q : zMM) (h : fX7_setPart_229 a1 a2 a3 a4 a5 s0 s1 M = some q) : zEV iX7_setPart 0 0 (zZO (none, q)) 229 [(0, .inr (.inr 158))] [.inl s0, .inl s1, .inr (.inr 163)] M := by
  unfold fX7_setPart_229 at h
  obtain ⟨g1, h⟩ := ite_no h
  refine zEV.iast (by decide) rfl g1 dX7_setPart_229 ?_
  refine zEV.aload_n dX7_setPart_230 rfl 0 rfl ?_
  refine zEV.dup dX7_setPart_231 rfl ?_
  refine zEV.gfi rfl inz7 11 (by decide) wf_RX7_144 (by decide) rfl rfl dX7_setPart_232 ?_
  refine zEV.iconst (v := 1) dX7_setPart_235 rfl ?_
  refine zEV.iadd dX7_setPart_236 ?_
  refine zEV.pfi rfl inz7 tyX7 tyX7_ok nmX7 11 (by decide) wf_RX7_144 rfl (by decide +kernel) (by decide) rfl rfl dX7_setPart_237 ?_
  cases h
  exact zEV.vret rfl dX7_setPart_240
def fX7_setPart_124 (a1 : Int32) (a2 : Int32) (a3 : Int32) (a4 : Int32) (a5 : Int32) (l6 : Int32) (l7 : Int32) (l8 : Int32) (l9 : Int32) (M : zMM) : Option (zMM) :=
  if oob (l6) 1680 then none else
  if oob ((l6 + 1)) 1680 then none else
  if oob ((l6 + 2)) 1680 then none else
  if oob ((l6 + 3)) 1680 then none else
  if oob ((l6 + 4)) 1680 then none else
  if oob ((l6 + 5)) 1680 then none else
  if oob ((l6 + 6)) 1680 then none else
  (fX7_isLeft (a1) (wr (wr (wr (wr (wr (wr (wr M 163 (Int32.toNatClampNeg l6) a1) 163 (Int32.toNatClampNeg (l6 + 1)) a2) 163 (Int32.toNatClampNeg (l6 + 2)) a3) 163 (Int32.toNatClampNeg (l6 + 3)) l7) 163 (Int32.toNatClampNeg (l6 + 4)) l8) 163 (Int32.toNatClampNeg (l6 + 5)) a4) 163 (Int32.toNatClampNeg (l6 + 6)) a5)).bind fun q8 =>
  if q8.1 = (0 : Int32) then
    fX7_setPart_229 a1 a2 a3 a4 a5 (0) ((l6 + 7)) q8.2
  else
    fX7_setPart_229 a1 a2 a3 a4 a5 (((a4 - l9) * (a4 - l9))) ((l6 + 7)) q8.2
set_option maxRecDepth 4000 in
theorem tX7_setPart_124 (a1 : Int32) (a2 : Int32) (a3 : Int32) (a4 : Int32) (a5 : Int32) (l6 : Int32) (l7 : Int32) (l8 : Int32) (l9 : Int32) (M : zMM) (q : zMM) (h : fX7_setPart_124 a1 a2 a3 a4 a5 l6 l7 l8 l9 M = some q) : zEV iX7_setPart 0 0 (zZO (none, q)) 124 [(0, .inr (.inr 158)), (1, .inl a1), (2, .inl a2), (3, .inl a3), (4, .inl a4), (5, .inl a5), (6, .inl l6), (7, .inl l7), (8, .inl l8), (9, .inl l9)] [] M := by
  unfold fX7_setPart_124 at h
  refine zEV.aload_n dX7_setPart_124 rfl 0 rfl ?_
  refine zEV.gfr rfl inz7 10 (by decide) wf_RX7_24 (by decide) rfl rfl dX7_setPart_125 ?_
  refine zEV.iload dX7_setPart_128 6 rfl ?_
  refine zEV.iload_n dX7_setPart_130 rfl 1 rfl ?_
  obtain ⟨g1, h⟩ := ite_no h
  refine zEV.iast (by decide) rfl g1 dX7_setPart_131 ?_
  refine zEV.aload_n dX7_setPart_132 rfl 0 rfl ?_
  refine zEV.gfr rfl inz7 10 (by decide) wf_RX7_24 (by decide) rfl rfl dX7_setPart_133 ?_
  refine zEV.iload dX7_setPart_136 6 rfl ?_
  refine zEV.iconst (v := 1) dX7_setPart_138 rfl ?_
  refine zEV.iadd dX7_setPart_139 ?_
  refine zEV.iload_n dX7_setPart_140 rfl 2 rfl ?_
  obtain ⟨g2, h⟩ := ite_no h
  refine zEV.iast (by decide) rfl g2 dX7_setPart_141 ?_
  refine zEV.aload_n dX7_setPart_142 rfl 0 rfl ?_
  refine zEV.gfr rfl inz7 10 (by decide) wf_RX7_24 (by decide) rfl rfl dX7_setPart_143 ?_
  refine zEV.iload dX7_setPart_146 6 rfl ?_
  refine zEV.iconst (v := 2) dX7_setPart_148 rfl ?_
  refine zEV.iadd dX7_setPart_149 ?_
  refine zEV.iload_n dX7_setPart_150 rfl 3 rfl ?_
  obtain ⟨g3, h⟩ := ite_no h
  refine zEV.iast (by decide) rfl g3 dX7_setPart_151 ?_
  refine zEV.aload_n dX7_setPart_152 rfl 0 rfl ?_
  refine zEV.gfr rfl inz7 10 (by decide) wf_RX7_24 (by decide) rfl rfl dX7_setPart_153 ?_
  refine zEV.iload dX7_setPart_156 6 rfl ?_
  refine zEV.iconst (v := 3) dX7_setPart_158 rfl ?_
  refine zEV.iadd dX7_setPart_159 ?_
  refine zEV.iload dX7_setPart_160 7 rfl ?_
  obtain ⟨g4, h⟩ := ite_no h
  refine zEV.iast (by decide) rfl g4 dX7_setPart_162 ?_
  refine zEV.aload_n dX7_setPart_163 rfl 0 rfl ?_
  refine zEV.gfr rfl inz7 10 (by decide) wf_RX7_24 (by decide) rfl rfl dX7_setPart_164 ?_
  refine zEV.iload dX7_setPart_167 6 rfl ?_
  refine zEV.iconst (v := 4) dX7_setPart_169 rfl ?_
  refine zEV.iadd dX7_setPart_170 ?_
  refine zEV.iload dX7_setPart_171 8 rfl ?_
  obtain ⟨g5, h⟩ := ite_no h
  refine zEV.iast (by decide) rfl g5 dX7_setPart_173 ?_
  refine zEV.aload_n dX7_setPart_174 rfl 0 rfl ?_
  refine zEV.gfr rfl inz7 10 (by decide) wf_RX7_24 (by decide) rfl rfl dX7_setPart_175 ?_
  refine zEV.iload dX7_setPart_178 6 rfl ?_
  refine zEV.iconst (v := 5) dX7_setPart_180 rfl ?_
  refine zEV.iadd dX7_setPart_181 ?_
  refine zEV.iload dX7_setPart_182 4 rfl ?_
  obtain ⟨g6, h⟩ := ite_no h
  refine zEV.iast (by decide) rfl g6 dX7_setPart_184 ?_
  refine zEV.aload_n dX7_setPart_185 rfl 0 rfl ?_
  refine zEV.gfr rfl inz7 10 (by decide) wf_RX7_24 (by decide) rfl rfl dX7_setPart_186 ?_
  refine zEV.iload dX7_setPart_189 6 rfl ?_
  refine zEV.bipush (v := 6) dX7_setPart_191 rfl ?_
  refine zEV.iadd dX7_setPart_193 ?_
  refine zEV.iload dX7_setPart_194 5 rfl ?_
  obtain ⟨g7, h⟩ := ite_no h
  refine zEV.iast (by decide) rfl g7 dX7_setPart_196 ?_
  refine zEV.aload_n dX7_setPart_197 rfl 0 rfl ?_
  refine zEV.gfr rfl inz7 10 (by decide) wf_RX7_24 (by decide) rfl rfl dX7_setPart_198 ?_
  refine zEV.iload dX7_setPart_201 6 rfl ?_
  refine zEV.bipush (v := 7) dX7_setPart_203 rfl ?_
  refine zEV.iadd dX7_setPart_205 ?_
  refine zEV.aload_n dX7_setPart_206 rfl 0 rfl ?_
  refine zEV.iload_n dX7_setPart_207 rfl 1 rfl ?_
  obtain ⟨q8, hq8, h⟩ := bind_yes h
  refine zEV.callVi (kX7_isLeft (a1)  (wr (wr (wr (wr (wr (wr (wr M 163 (Int32.toNatClampNeg l6) a1) 163 (Int32.toNatClampNeg (l6 + 1)) a2) 163 (Int32.toNatClampNeg (l6 + 2)) a3) 163 (Int32.toNatClampNeg (l6 + 3)) l7) 163 (Int32.toNatClampNeg (l6 + 4)) l8) 163 (Int32.toNatClampNeg (l6 + 5)) a4) 163 (Int32.toNatClampNeg (l6 + 6)) a5) q8 hq8) (by decide) rfl rfl wm_RX7_141 wc_X7_isLeft hy_X7_isLeft rfl ⟨Nat.le_of_ble_eq_true rfl, Nat.le_of_ble_eq_true rfl⟩ rfl (Nat.le_of_ble_eq_true rfl) dX7_setPart_208 ?_
  refine zEV.if_eq 228 dX7_setPart_211 (by decide) (fun c9 => ?_) (fun c9 => ?_)
  · rw [if_pos c9] at h
    refine zEV.iconst (v := 0) dX7_setPart_228 rfl ?_
    exact zEV.perm [0] rfl (tX7_setPart_229 a1 a2 a3 a4 a5 (0) ((l6 + 7)) q8.2 q h)
  · rw [if_neg c9] at h
    refine zEV.iload dX7_setPart_214 4 rfl ?_
    refine zEV.iload dX7_setPart_216 9 rfl ?_
    refine zEV.isub dX7_setPart_218 ?_
    refine zEV.iload dX7_setPart_219 4 rfl ?_
    refine zEV.iload dX7_setPart_221 9 rfl ?_
    refine zEV.isub dX7_setPart_223 ?_
    refine zEV.imul dX7_setPart_224 ?_
    refine zEV.goto 229 dX7_setPart_225 (by decide) ?_
    exact zEV.perm [0] rfl (tX7_setPart_229 a1 a2 a3 a4 a5 (((a4 - l9) * (a4 - l9))) ((l6 + 7)) q8.2 q h)
def fX7_setPart_73 (K23 : Int32 → Int32 → Int32 → Int32 → zMM → Option (zMM)) (a1 : Int32) (a2 : Int32) (a3 : Int32) (a4 : Int32) (a5 : Int32) (l6 : Int32) (l7 : Int32) (l8 : Int32) (s0 : Int32) (s1 : Int32) (M : zMM) : Option (zMM) :=
  if oob (a1) 3 then none else
  (fX7_size (a1) ((M.1 165 (Int32.toNatClampNeg a1))) M).bind fun q2 =>
  if oob (((70 * a1) + (q2.2.1 165 (Int32.toNatClampNeg a1)))) 210 then none else
  K23 (l6) (l7) ((l8 + 1)) ((s1 + (s0 + q2.1))) (wr (wr q2.2 164 (Int32.toNatClampNeg ((70 * a1) + (q2.2.1 165 (Int32.toNatClampNeg a1)))) (q2.2.1 158 11)) 165 (Int32.toNatClampNeg a1) (((wr q2.2 164 (Int32.toNatClampNeg ((70 * a1) + (q2.2.1 165 (Int32.toNatClampNeg a1)))) (q2.2.1 158 11)).1 165 (Int32.toNatClampNeg a1)) + 1))
set_option maxRecDepth 4000 in
theorem tX7_setPart_73 (K23 : Int32 → Int32 → Int32 → Int32 → zMM → Option (zMM)) (a1 : Int32) (a2 : Int32) (a3 : Int32) (a4 : Int32) (a5 : Int32) (hK23 : ∀ (l6 : Int32) (l7 : Int32) (l8 : Int32) (l9 : Int32) (M : zMM) (q : zMM), K23 l6 l7 l8 l9 M = some q → zEV iX7_setPart 0 0 (zZO (none, q)) 23 [(0, .inr (.inr 158)), (1, .inl a1), (2, .inl a2), (3, .inl a3), (4, .inl a4), (5, .inl a5), (6, .inl l6), (7, .inl l7), (8, .inl l8), (9, .inl l9)] [] M) (l6 : Int32) (l7 : Int32) (l8 : Int32) (s0 : Int32) (s1 : Int32) (M : zMM) (q : zMM) (h : fX7_setPart_73 K23 a1 a2 a3 a4 a5 l6 l7 l8 s0 s1 M = some q) : zEV iX7_setPart 0 0 (zZO (none, q)) 73 [(0, .inr (.inr 158)), (1, .inl a1), (2, .inl a2), (3, .inl a3), (4, .inl a4), (5, .inl a5), (6, .inl l6), (7, .inl l7), (8, .inl l8)] [.inl s0, .inl s1] M := by
  unfold fX7_setPart_73 at h
  refine zEV.aload_n dX7_setPart_73 rfl 0 rfl ?_
  refine zEV.iload_n dX7_setPart_74 rfl 1 rfl ?_
  refine zEV.aload_n dX7_setPart_75 rfl 0 rfl ?_
  refine zEV.gfr rfl inz7 13 (by decide) wf_RX7_30 (by decide) rfl rfl dX7_setPart_76 ?_
  refine zEV.iload_n dX7_setPart_79 rfl 1 rfl ?_
  obtain ⟨g1, h⟩ := ite_no h
  refine zEV.iald (by decide) rfl g1 dX7_setPart_80 ?_
  obtain ⟨q2, hq2, h⟩ := bind_yes h
  refine zEV.callVi (kX7_size (a1) ((M.1 165 (Int32.toNatClampNeg a1)))  M q2 hq2) (by decide) rfl rfl wm_RX7_147 wc_X7_size hy_X7_size rfl ⟨Nat.le_of_ble_eq_true rfl, Nat.le_of_ble_eq_true rfl⟩ rfl (Nat.le_of_ble_eq_true rfl) dX7_setPart_81 ?_
  refine zEV.iadd dX7_setPart_84 ?_
  refine zEV.iadd dX7_setPart_85 ?_
  refine zEV.istore dX7_setPart_86 (Nat.le_of_ble_eq_true rfl) rfl ?_
  refine zEV.aload_n dX7_setPart_88 rfl 1 rfl ?_
  refine zEV.gfr rfl inz7 12 (by decide) wf_RX7_27 (by decide) rfl rfl dX7_setPart_89 ?_
  refine zEV.bipush (v := 70) dX7_setPart_92 rfl ?_
  refine zEV.iload_n dX7_setPart_94 rfl 2 rfl ?_
  refine zEV.imul dX7_setPart_95 ?_
  refine zEV.aload_n dX7_setPart_96 rfl 1 rfl ?_
  refine zEV.gfr rfl inz7 13 (by decide) wf_RX7_30 (by decide) rfl rfl dX7_setPart_97 ?_
  refine zEV.iload_n dX7_setPart_100 rfl 2 rfl ?_
  refine zEV.iald (by decide) rfl g1 dX7_setPart_101 ?_
  refine zEV.iadd dX7_setPart_102 ?_
  refine zEV.aload_n dX7_setPart_103 rfl 1 rfl ?_
  refine zEV.gfi rfl inz7 11 (by decide) wf_RX7_144 (by decide) rfl rfl dX7_setPart_104 ?_
  obtain ⟨g3, h⟩ := ite_no h
  refine zEV.iast (by decide) rfl g3 dX7_setPart_107 ?_
  refine zEV.aload_n dX7_setPart_108 rfl 1 rfl ?_
  refine zEV.gfr rfl inz7 13 (by decide) wf_RX7_30 (by decide) rfl rfl dX7_setPart_109 ?_
  refine zEV.iload_n dX7_setPart_112 rfl 2 rfl ?_
  refine zEV.dup2 dX7_setPart_113 rfl rfl ?_
  refine zEV.iald (by decide) rfl g1 dX7_setPart_114 ?_
  refine zEV.iconst (v := 1) dX7_setPart_115 rfl ?_
  refine zEV.iadd dX7_setPart_116 ?_
  refine zEV.iast (by decide) rfl g1 dX7_setPart_117 ?_
  refine zEV.iinc (v := (l8 + 1)) dX7_setPart_118 9 rfl rfl (Nat.le_of_ble_eq_true rfl) rfl ?_
  refine zEV.goto 23 dX7_setPart_121 (by decide) ?_
  exact zEV.perm [2, 3, 4, 5, 6, 7, 8, 9, 0, 1] rfl (hK23 (l6) (l7) ((l8 + 1)) ((s1 + (s0 + q2.1))) (wr (wr q2.2 164 (Int32.toNatClampNeg ((70 * a1) + (q2.2.1 165 (Int32.toNatClampNeg a1)))) (q2.2.1 158 11)) 165 (Int32.toNatClampNeg a1) (((wr q2.2 164 (Int32.toNatClampNeg ((70 * a1) + (q2.2.1 165 (Int32.toNatClampNeg a1)))) (q2.2.1 158 11)).1 165 (Int32.toNatClampNeg a1)) + 1)) q h)
def fX7_setPart_43 (K23 : Int32 → Int32 → Int32 → Int32 → zMM → Option (zMM)) (a1 : Int32) (a2 : Int32) (a3 : Int32) (a4 : Int32) (a5 : Int32) (l6 : Int32) (l7 : Int32) (l8 : Int32) (l9 : Int32) (s0 : Int32) (s1 : Int32) (M : zMM) : Option (zMM) :=
  if oob (a1) 3 then none else
  (fX7_size (a1) ((M.1 165 (Int32.toNatClampNeg a1))) M).bind fun q2 =>
  if a4 < ((s1 + s0) + q2.1) then
    fX7_setPart_124 a1 a2 a3 a4 a5 (l6) (l7) (l8) (l9) q2.2
  else
    if l8 ≤ (0 : Int32) then
      fX7_setPart_73 K23 a1 a2 a3 a4 a5 (l6) (l7) (l8) (0) (l9) q2.2
    else
      fX7_setPart_73 K23 a1 a2 a3 a4 a5 (l6) (l7) (l8) (1) (l9) q2.2
set_option maxRecDepth 4000 in
theorem tX7_setPart_43 (K23 : Int32 → Int32 → Int32 → Int32 → zMM → Option (zMM)) (a1 : Int32) (a2 : Int32) (a3 : Int32) (a4 : Int32) (a5 : Int32) (hK23 : ∀ (l6 : Int32) (l7 : Int32) (l8 : Int32) (l9 : Int32) (M : zMM) (q : zMM), K23 l6 l7 l8 l9 M = some q → zEV iX7_setPart 0 0 (zZO (none, q)) 23 [(0, .inr (.inr 158)), (1, .inl a1), (2, .inl a2), (3, .inl a3), (4, .inl a4), (5, .inl a5), (6, .inl l6), (7, .inl l7), (8, .inl l8), (9, .inl l9)] [] M) (l6 : Int32) (l7 : Int32) (l8 : Int32) (l9 : Int32) (s0 : Int32) (s1 : Int32) (M : zMM) (q : zMM) (h : fX7_setPart_43 K23 a1 a2 a3 a4 a5 l6 l7 l8 l9 s0 s1 M = some q) : zEV iX7_setPart 0 0 (zZO (none, q)) 43 [(0, .inr (.inr 158)), (1, .inl a1), (2, .inl a2), (3, .inl a3), (4, .inl a4), (5, .inl a5), (6, .inl l6), (7, .inl l7), (8, .inl l8), (9, .inl l9)] [.inl s0, .inl s1] M := by
  unfold fX7_setPart_43 at h
  refine zEV.iadd dX7_setPart_43 ?_
  refine zEV.aload_n dX7_setPart_44 rfl 0 rfl ?_
  refine zEV.iload_n dX7_setPart_45 rfl 1 rfl ?_
  refine zEV.aload_n dX7_setPart_46 rfl 0 rfl ?_
  refine zEV.gfr rfl inz7 13 (by decide) wf_RX7_30 (by decide) rfl rfl dX7_setPart_47 ?_
  refine zEV.iload_n dX7_setPart_50 rfl 1 rfl ?_
  obtain ⟨g1, h⟩ := ite_no h
  refine zEV.iald (by decide) rfl g1 dX7_setPart_51 ?_
  obtain ⟨q2, hq2, h⟩ := bind_yes h
  refine zEV.callVi (kX7_size (a1) ((M.1 165 (Int32.toNatClampNeg a1)))  M q2 hq2) (by decide) rfl rfl wm_RX7_147 wc_X7_size hy_X7_size rfl ⟨Nat.le_of_ble_eq_true rfl, Nat.le_of_ble_eq_true rfl⟩ rfl (Nat.le_of_ble_eq_true rfl) dX7_setPart_52 ?_
  refine zEV.iadd dX7_setPart_55 ?_
  refine zEV.iload dX7_setPart_56 4 rfl ?_
  refine zEV.icmp_gt 124 dX7_setPart_58 (by decide) (fun c3 => ?_) (fun c3 => ?_)
  · rw [if_pos c3] at h
    exact zEV.perm [0, 1, 2, 3, 4, 5, 6, 7, 8, 9] rfl (tX7_setPart_124 a1 a2 a3 a4 a5 (l6) (l7) (l8) (l9) q2.2 q h)
  · rw [if_neg c3] at h
    refine zEV.iload dX7_setPart_61 9 rfl ?_
    refine zEV.iload dX7_setPart_63 8 rfl ?_
    refine zEV.if_le 72 dX7_setPart_65 (by decide) (fun c4 => ?_) (fun c4 => ?_)
    · rw [if_pos c4] at h
      refine zEV.iconst (v := 0) dX7_setPart_72 rfl ?_
      exact zEV.perm [0, 1, 2, 3, 4, 5, 6, 7, 8] rfl (tX7_setPart_73 K23 a1 a2 a3 a4 a5 hK23 (l6) (l7) (l8) (0) (l9) q2.2 q h)
    · rw [if_neg c4] at h
      refine zEV.iconst (v := 1) dX7_setPart_68 rfl ?_
      refine zEV.goto 73 dX7_setPart_69 (by decide) ?_
      exact zEV.perm [0, 1, 2, 3, 4, 5, 6, 7, 8] rfl (tX7_setPart_73 K23 a1 a2 a3 a4 a5 hK23 (l6) (l7) (l8) (1) (l9) q2.2 q h)
def fX7_setPart_23 (a1 : Int32) (a2 : Int32) (a3 : Int32) (a4 : Int32) (a5 : Int32) : Nat → Int32 → Int32 → Int32 → Int32 → zMM → Option (zMM)
  | 0, _, _, _, _, _ => none
  | n + 1, l6, l7, l8, l9, M =>
  (fX7_isLeft (a1) M).bind fun q1 =>
  if q1.1 = (0 : Int32) then
    fX7_setPart_124 a1 a2 a3 a4 a5 (l6) (l7) (l8) (l9) q1.2
  else
    if l8 ≤ (0 : Int32) then
      fX7_setPart_43 (fX7_setPart_23 a1 a2 a3 a4 a5 n) a1 a2 a3 a4 a5 (l6) (l7) (l8) (l9) (0) (l9) q1.2
    else
      fX7_setPart_43 (fX7_setPart_23 a1 a2 a3 a4 a5 n) a1 a2 a3 a4 a5 (l6) (l7) (l8) (l9) (1) (l9) q1.2
set_option maxRecDepth 4000 in
theorem tX7_setPart_23 (a1 : Int32) (a2 : Int32) (a3 : Int32) (a4 : Int32) (a5 : Int32) : ∀ (n : Nat) (l6 : Int32) (l7 : Int32) (l8 : Int32) (l9 : Int32) (M : zMM) (q : zMM), fX7_setPart_23 a1 a2 a3 a4 a5 n l6 l7 l8 l9 M = some q → zEV iX7_setPart 0 0 (zZO (none, q)) 23 [(0, .inr (.inr 158)), (1, .inl a1), (2, .inl a2), (3, .inl a3), (4, .inl a4), (5, .inl a5), (6, .inl l6), (7, .inl l7), (8, .inl l8), (9, .inl l9)] [] M := by
  intro n
  induction n with
  | zero =>
    intro l6 l7 l8 l9 M q h
    rw [fX7_setPart_23] at h
    cases h
  | succ n ih =>
    intro l6 l7 l8 l9 M q h
    rw [fX7_setPart_23] at h
    refine zEV.aload_n dX7_setPart_23 rfl 0 rfl ?_
    refine zEV.iload_n dX7_setPart_24 rfl 1 rfl ?_
    obtain ⟨q1, hq1, h⟩ := bind_yes h
    refine zEV.callVi (kX7_isLeft (a1)  M q1 hq1) (by decide) rfl rfl wm_RX7_141 wc_X7_isLeft hy_X7_isLeft rfl ⟨Nat.le_of_ble_eq_true rfl, Nat.le_of_ble_eq_true rfl⟩ rfl (Nat.le_of_ble_eq_true rfl) dX7_setPart_25 ?_
    refine zEV.if_eq 124 dX7_setPart_28 (by decide) (fun c2 => ?_) (fun c2 => ?_)
    · rw [if_pos c2] at h
      exact zEV.perm [0, 1, 2, 3, 4, 5, 6, 7, 8, 9] rfl (tX7_setPart_124 a1 a2 a3 a4 a5 (l6) (l7) (l8) (l9) q1.2 q h)
    · rw [if_neg c2] at h
      refine zEV.iload dX7_setPart_31 9 rfl ?_
      refine zEV.iload dX7_setPart_33 8 rfl ?_
      refine zEV.if_le 42 dX7_setPart_35 (by decide) (fun c3 => ?_) (fun c3 => ?_)
      · rw [if_pos c3] at h
        refine zEV.iconst (v := 0) dX7_setPart_42 rfl ?_
        exact zEV.perm [0, 1, 2, 3, 4, 5, 6, 7, 8, 9] rfl (tX7_setPart_43 (fX7_setPart_23 a1 a2 a3 a4 a5 n) a1 a2 a3 a4 a5 (fun l6 l7 l8 l9 M9 q9 h9 => ih l6 l7 l8 l9 M9 q9 h9) (l6) (l7) (l8) (l9) (0) (l9) q1.2 q h)
      · rw [if_neg c3] at h
        refine zEV.iconst (v := 1) dX7_setPart_38 rfl ?_
        refine zEV.goto 43 dX7_setPart_39 (by decide) ?_
        exact zEV.perm [0, 1, 2, 3, 4, 5, 6, 7, 8, 9] rfl (tX7_setPart_43 (fX7_setPart_23 a1 a2 a3 a4 a5 n) a1 a2 a3 a4 a5 (fun l6 l7 l8 l9 M9 q9 h9 => ih l6 l7 l8 l9 M9 q9 h9) (l6) (l7) (l8) (l9) (1) (l9) q1.2 q h)
def fX7_setPart (a1 : Int32) (a2 : Int32) (a3 : Int32) (a4 : Int32) (a5 : Int32) (M : zMM) : Option (zMM) :=
  if oob (a1) 3 then none else
  fX7_setPart_23 a1 a2 a3 a4 a5 zFU ((8 * (M.1 158 11))) ((M.1 165 (Int32.toNatClampNeg a1))) (0) (0) M
set_option maxRecDepth 4000 in
theorem tX7_setPart_0 (a1 : Int32) (a2 : Int32) (a3 : Int32) (a4 : Int32) (a5 : Int32) (M : zMM) (q : zMM) (h : fX7_setPart a1 a2 a3 a4 a5  M = some q) : zEV iX7_setPart 0 0 (zZO (none, q)) 0 [(0, .inr (.inr 158)), (1, .inl a1), (2, .inl a2), (3, .inl a3), (4, .inl a4), (5, .inl a5)] [] M := by
  unfold fX7_setPart at h
  refine zEV.bipush (v := 8) dX7_setPart_0 rfl ?_
  refine zEV.aload_n dX7_setPart_2 rfl 0 rfl ?_
  refine zEV.gfi rfl inz7 11 (by decide) wf_RX7_144 (by decide) rfl rfl dX7_setPart_3 ?_
  refine zEV.imul dX7_setPart_6 ?_
  refine zEV.istore dX7_setPart_7 (Nat.le_of_ble_eq_true rfl) rfl ?_
  refine zEV.aload_n dX7_setPart_9 rfl 1 rfl ?_
  refine zEV.gfr rfl inz7 13 (by decide) wf_RX7_30 (by decide) rfl rfl dX7_setPart_10 ?_
  refine zEV.iload_n dX7_setPart_13 rfl 2 rfl ?_
  obtain ⟨g1, h⟩ := ite_no h
  refine zEV.iald (by decide) rfl g1 dX7_setPart_14 ?_
  refine zEV.istore dX7_setPart_15 (Nat.le_of_ble_eq_true rfl) rfl ?_
  refine zEV.iconst (v := 0) dX7_setPart_17 rfl ?_
  refine zEV.istore dX7_setPart_18 (Nat.le_of_ble_eq_true rfl) rfl ?_
  refine zEV.iconst (v := 0) dX7_setPart_20 rfl ?_
  refine zEV.istore dX7_setPart_21 (Nat.le_of_ble_eq_true rfl) rfl ?_
  exact zEV.perm [4, 5, 6, 7, 8, 9, 3, 2, 1, 0] rfl (tX7_setPart_23 a1 a2 a3 a4 a5 zFU ((8 * (M.1 158 11))) ((M.1 165 (Int32.toNatClampNeg a1))) (0) (0) M q h)
theorem kX7_setPart (a1 : Int32) (a2 : Int32) (a3 : Int32) (a4 : Int32) (a5 : Int32) (M : zMM) (q : zMM) (h : fX7_setPart a1 a2 a3 a4 a5 M = some q) : zCN yX7_setPart iX7_setPart [.inr (.inr 158), .inl a1, .inl a2, .inl a3, .inl a4, .inl a5] M (none, q) :=
  zCN.of (by decide) rfl rfl (Nat.le_of_ble_eq_true rfl) (zEV.perm [0, 1, 2, 3, 4, 5] rfl (tX7_setPart_0 a1 a2 a3 a4 a5 M q h))
