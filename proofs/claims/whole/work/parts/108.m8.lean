-- RingedPageModel.sheet
def fX7_sheet_215 (K163 : Int32 → Int32 → zMM → Option (Int32 × zMM)) (a1 : Int32) (a2 : Int32) (a3 : Int32) (a4 : Int32) (a5 : Int32) (a6 : Int32) (l8 : Int32) (l9 : Int32) (l10 : Int32) (s0 : Int32) (s1 : Int32) (M : zMM) : Option (Int32 × zMM) :=
  if oob (l9) 259 then none else
  K163 ((s1 + s0)) ((l8 + 1)) (wr M 159 (Int32.toNatClampNeg l9) l10)
set_option maxRecDepth 100000 in
theorem tX7_sheet_215 (K163 : Int32 → Int32 → zMM → Option (Int32 × zMM)) (a1 : Int32) (a2 : Int32) (a3 : Int32) (a4 : Int32) (a5 : Int32) (a6 : Int32) (hK163 : ∀ (l7 : Int32) (l8 : Int32) (M : zMM) (q : Int32 × zMM), K163 l7 l8 M = some q → zEV iX7_sheet 0 0 (zZO (some (.inl q.1), q.2)) 163 [(0, .inr (.inr 158)), (1, .inl a1), (2, .inl a2), (3, .inl a3), (4, .inl a4), (5, .inl a5), (6, .inl a6), (7, .inl l7), (8, .inl l8)] [] M) (l8 : Int32) (l9 : Int32) (l10 : Int32) (s0 : Int32) (s1 : Int32) (M : zMM) (q : Int32 × zMM) (h : fX7_sheet_215 K163 a1 a2 a3 a4 a5 a6 l8 l9 l10 s0 s1 M = some q) : zEV iX7_sheet 0 0 (zZO (some (.inl q.1), q.2)) 215 [(0, .inr (.inr 158)), (1, .inl a1), (2, .inl a2), (3, .inl a3), (4, .inl a4), (5, .inl a5), (6, .inl a6), (8, .inl l8), (9, .inl l9), (10, .inl l10)] [.inl s0, .inl s1] M := by
  unfold fX7_sheet_215 at h
  refine zEV.iadd dX7_sheet_215 ?_
  refine zEV.istore dX7_sheet_216 (Nat.le_of_ble_eq_true rfl) rfl ?_
  refine zEV.aload_n dX7_sheet_218 rfl 1 rfl ?_
  refine zEV.gfr rfl inz7 0 (by decide) wf_RX7_9 (by decide) rfl rfl dX7_sheet_219 ?_
  refine zEV.iload dX7_sheet_222 9 rfl ?_
  refine zEV.iload dX7_sheet_224 10 rfl ?_
  obtain ⟨g1, h⟩ := ite_no h
  refine zEV.iast (by decide) rfl g1 dX7_sheet_226 ?_
  refine zEV.iinc (v := (l8 + 1)) dX7_sheet_227 8 rfl rfl (Nat.le_of_ble_eq_true rfl) rfl ?_
  refine zEV.goto 163 dX7_sheet_230 (by decide) ?_
  exact zEV.perm [2, 3, 4, 5, 6, 7, 8, 1, 0] rfl (hK163 ((s1 + s0)) ((l8 + 1)) (wr M 159 (Int32.toNatClampNeg l9) l10) q h)
def fX7_sheet_163 (a1 : Int32) (a2 : Int32) (a3 : Int32) (a4 : Int32) (a5 : Int32) (a6 : Int32) : Nat → Int32 → Int32 → zMM → Option (Int32 × zMM)
  | 0, _, _, _ => none
  | n + 1, l7, l8, M =>
  if a4 ≤ l8 then
    some (l7, M)
  else
    (fX7_entryOf (a3) (a5) (a6) (l8) M).bind fun q2 =>
    if oob ((((8 + (70 * a1)) + a2) + l8)) 259 then none else
    if (q2.2.1 159 (Int32.toNatClampNeg (((8 + (70 * a1)) + a2) + l8))) = q2.1 then
      fX7_sheet_215 (fX7_sheet_163 a1 a2 a3 a4 a5 a6 n) a1 a2 a3 a4 a5 a6 (l8) ((((8 + (70 * a1)) + a2) + l8)) (q2.1) (0) (l7) q2.2
    else
      fX7_sheet_215 (fX7_sheet_163 a1 a2 a3 a4 a5 a6 n) a1 a2 a3 a4 a5 a6 (l8) ((((8 + (70 * a1)) + a2) + l8)) (q2.1) (1) (l7) q2.2
set_option maxRecDepth 100000 in
theorem tX7_sheet_163 (a1 : Int32) (a2 : Int32) (a3 : Int32) (a4 : Int32) (a5 : Int32) (a6 : Int32) : ∀ (n : Nat) (l7 : Int32) (l8 : Int32) (M : zMM) (q : Int32 × zMM), fX7_sheet_163 a1 a2 a3 a4 a5 a6 n l7 l8 M = some q → zEV iX7_sheet 0 0 (zZO (some (.inl q.1), q.2)) 163 [(0, .inr (.inr 158)), (1, .inl a1), (2, .inl a2), (3, .inl a3), (4, .inl a4), (5, .inl a5), (6, .inl a6), (7, .inl l7), (8, .inl l8)] [] M := by
  intro n
  induction n with
  | zero =>
    intro l7 l8 M q h
    rw [fX7_sheet_163] at h
    cases h
  | succ n ih =>
    intro l7 l8 M q h
    rw [fX7_sheet_163] at h
    refine zEV.iload dX7_sheet_163 8 rfl ?_
    refine zEV.iload dX7_sheet_165 4 rfl ?_
    refine zEV.icmp_ge 233 dX7_sheet_167 (by decide) (fun c1 => ?_) (fun c1 => ?_)
    · rw [if_pos c1] at h
      refine zEV.iload dX7_sheet_233 7 rfl ?_
      have h := Option.some.inj h
      subst h
      exact zEV.iret rfl dX7_sheet_235
    · rw [if_neg c1] at h
      refine zEV.bipush (v := 8) dX7_sheet_170 rfl ?_
      refine zEV.bipush (v := 70) dX7_sheet_172 rfl ?_
      refine zEV.iload_n dX7_sheet_174 rfl 1 rfl ?_
      refine zEV.imul dX7_sheet_175 ?_
      refine zEV.iadd dX7_sheet_176 ?_
      refine zEV.iload_n dX7_sheet_177 rfl 2 rfl ?_
      refine zEV.iadd dX7_sheet_178 ?_
      refine zEV.iload dX7_sheet_179 8 rfl ?_
      refine zEV.iadd dX7_sheet_181 ?_
      refine zEV.istore dX7_sheet_182 (Nat.le_of_ble_eq_true rfl) rfl ?_
      refine zEV.iload_n dX7_sheet_184 rfl 4 rfl ?_
      refine zEV.iload dX7_sheet_185 6 rfl ?_
      refine zEV.iload dX7_sheet_187 7 rfl ?_
      refine zEV.iload dX7_sheet_189 9 rfl ?_
      obtain ⟨q2, hq2, h⟩ := bind_yes h
      refine zEV.callSi (kX7_entryOf (a3) (a5) (a6) (l8)  M q2 hq2) wm_RX7_131 wc_X7_entryOf hy_X7_entryOf rfl ⟨Nat.le_of_ble_eq_true rfl, Nat.le_of_ble_eq_true rfl⟩ rfl (Nat.le_of_ble_eq_true rfl) dX7_sheet_191 ?_
      refine zEV.istore dX7_sheet_194 (Nat.le_of_ble_eq_true rfl) rfl ?_
      refine zEV.iload dX7_sheet_196 9 rfl ?_
      refine zEV.aload_n dX7_sheet_198 rfl 2 rfl ?_
      refine zEV.gfr rfl inz7 0 (by decide) wf_RX7_9 (by decide) rfl rfl dX7_sheet_199 ?_
      refine zEV.iload dX7_sheet_202 1 rfl ?_
      obtain ⟨g3, h⟩ := ite_no h
      refine zEV.iald (by decide) rfl g3 dX7_sheet_204 ?_
      refine zEV.iload dX7_sheet_205 0 rfl ?_
      refine zEV.icmp_eq 214 dX7_sheet_207 (by decide) (fun c4 => ?_) (fun c4 => ?_)
      · rw [if_pos c4] at h
        refine zEV.iconst (v := 0) dX7_sheet_214 rfl ?_
        exact zEV.perm [2, 3, 4, 5, 6, 7, 8, 10, 1, 0] rfl (tX7_sheet_215 (fX7_sheet_163 a1 a2 a3 a4 a5 a6 n) a1 a2 a3 a4 a5 a6 (fun l7 l8 M9 q9 h9 => ih l7 l8 M9 q9 h9) (l8) ((((8 + (70 * a1)) + a2) + l8)) (q2.1) (0) (l7) q2.2 q h)
      · rw [if_neg c4] at h
        refine zEV.iconst (v := 1) dX7_sheet_210 rfl ?_
        refine zEV.goto 215 dX7_sheet_211 (by decide) ?_
        exact zEV.perm [2, 3, 4, 5, 6, 7, 8, 10, 1, 0] rfl (tX7_sheet_215 (fX7_sheet_163 a1 a2 a3 a4 a5 a6 n) a1 a2 a3 a4 a5 a6 (fun l7 l8 M9 q9 h9 => ih l7 l8 M9 q9 h9) (l8) ((((8 + (70 * a1)) + a2) + l8)) (q2.1) (1) (l7) q2.2 q h)
def fX7_sheet_145 (a1 : Int32) (a2 : Int32) (a3 : Int32) (a4 : Int32) (a5 : Int32) (a6 : Int32) (s0 : Int64) (M : zMM) : Option (Int32 × zMM) :=
  (fX7_tell (s0) M).bind fun q1 =>
  some ((-4), q1)
set_option maxRecDepth 100000 in
theorem tX7_sheet_145 (a1 : Int32) (a2 : Int32) (a3 : Int32) (a4 : Int32) (a5 : Int32) (a6 : Int32) (s0 : Int64) (M : zMM) (q : Int32 × zMM) (h : fX7_sheet_145 a1 a2 a3 a4 a5 a6 s0 M = some q) : zEV iX7_sheet 0 0 (zZO (some (.inl q.1), q.2)) 145 [] [.inr (.inl s0), .inr (.inr 158)] M := by
  unfold fX7_sheet_145 at h
  obtain ⟨q1, hq1, h⟩ := bind_yes h
  refine zEV.callVv (kX7_tell (s0)  M q1 hq1) (by decide) rfl rfl wm_RX7_135 wc_X7_tell hy_X7_tell rfl ⟨Nat.le_of_ble_eq_true rfl, Nat.le_of_ble_eq_true rfl⟩ rfl (Nat.le_of_ble_eq_true rfl) dX7_sheet_145 ?_
  refine zEV.bipush (v := (-4)) dX7_sheet_148 rfl ?_
  have h := Option.some.inj h
  subst h
  exact zEV.iret rfl dX7_sheet_150
def fX7_sheet_120 (a1 : Int32) (a2 : Int32) (a3 : Int32) (a4 : Int32) (a5 : Int32) (a6 : Int32) (l7 : Int32) (l10 : Int32) (M : zMM) : Option (Int32 × zMM) :=
  (fX7_tell ((Int32.toInt64 l7)) (wr M 158 4 0)).bind fun q1 =>
  if l10 = (0 : Int32) then
    fX7_sheet_145 a1 a2 a3 a4 a5 a6 ((2 : Int64)) q1
  else
    fX7_sheet_145 a1 a2 a3 a4 a5 a6 ((1 : Int64)) q1
set_option maxRecDepth 100000 in
theorem tX7_sheet_120 (a1 : Int32) (a2 : Int32) (a3 : Int32) (a4 : Int32) (a5 : Int32) (a6 : Int32) (l7 : Int32) (l10 : Int32) (M : zMM) (q : Int32 × zMM) (h : fX7_sheet_120 a1 a2 a3 a4 a5 a6 l7 l10 M = some q) : zEV iX7_sheet 0 0 (zZO (some (.inl q.1), q.2)) 120 [(0, .inr (.inr 158)), (7, .inl l7), (10, .inl l10)] [] M := by
  unfold fX7_sheet_120 at h
  refine zEV.aload_n dX7_sheet_120 rfl 0 rfl ?_
  refine zEV.iconst (v := 0) dX7_sheet_121 rfl ?_
  refine zEV.pfi rfl inz7 tyX7 tyX7_ok nmX7 4 (by decide) wf_RX7_62 rfl (by decide +kernel) (by decide) rfl rfl dX7_sheet_122 ?_
  refine zEV.aload_n dX7_sheet_125 rfl 0 rfl ?_
  refine zEV.iload dX7_sheet_126 1 rfl ?_
  refine zEV.i2l dX7_sheet_128 ?_
  obtain ⟨q1, hq1, h⟩ := bind_yes h
  refine zEV.callVv (kX7_tell ((Int32.toInt64 l7))  (wr M 158 4 0) q1 hq1) (by decide) rfl rfl wm_RX7_135 wc_X7_tell hy_X7_tell rfl ⟨Nat.le_of_ble_eq_true rfl, Nat.le_of_ble_eq_true rfl⟩ rfl (Nat.le_of_ble_eq_true rfl) dX7_sheet_129 ?_
  refine zEV.aload_n dX7_sheet_132 rfl 0 rfl ?_
  refine zEV.iload dX7_sheet_133 2 rfl ?_
  refine zEV.if_eq 142 dX7_sheet_135 (by decide) (fun c2 => ?_) (fun c2 => ?_)
  · rw [if_pos c2] at h
    refine zEV.ldc2w wk_RX7_139 dX7_sheet_142 ?_
    exact zEV.perm [] rfl (tX7_sheet_145 a1 a2 a3 a4 a5 a6 ((2 : Int64)) q1 q h)
  · rw [if_neg c2] at h
    refine zEV.lconst (v := 1) dX7_sheet_138 rfl ?_
    refine zEV.goto 145 dX7_sheet_139 (by decide) ?_
    exact zEV.perm [] rfl (tX7_sheet_145 a1 a2 a3 a4 a5 a6 ((1 : Int64)) q1 q h)
def fX7_sheet_91 (K49 : Int32 → zMM → Option (Int32 × zMM)) (a1 : Int32) (a2 : Int32) (a3 : Int32) (a4 : Int32) (a5 : Int32) (a6 : Int32) (l7 : Int32) (s0 : Int32) (M : zMM) : Option (Int32 × zMM) :=
  if s0 = (0 : Int32) then
    (fX7_entryOf (a3) (a5) (a6) (l7) M).bind fun q2 =>
    (fX7_in (q2.1) (1) (9) q2.2).bind fun q3 =>
    if q3.1 = (0 : Int32) then
      fX7_sheet_120 a1 a2 a3 a4 a5 a6 (l7) (s0) q3.2
    else
      K49 ((l7 + 1)) q3.2
  else
    fX7_sheet_120 a1 a2 a3 a4 a5 a6 (l7) (s0) M
set_option maxRecDepth 100000 in
theorem tX7_sheet_91 (K49 : Int32 → zMM → Option (Int32 × zMM)) (a1 : Int32) (a2 : Int32) (a3 : Int32) (a4 : Int32) (a5 : Int32) (a6 : Int32) (hK49 : ∀ (l7 : Int32) (M : zMM) (q : Int32 × zMM), K49 l7 M = some q → zEV iX7_sheet 0 0 (zZO (some (.inl q.1), q.2)) 49 [(0, .inr (.inr 158)), (1, .inl a1), (2, .inl a2), (3, .inl a3), (4, .inl a4), (5, .inl a5), (6, .inl a6), (7, .inl l7)] [] M) (l7 : Int32) (s0 : Int32) (M : zMM) (q : Int32 × zMM) (h : fX7_sheet_91 K49 a1 a2 a3 a4 a5 a6 l7 s0 M = some q) : zEV iX7_sheet 0 0 (zZO (some (.inl q.1), q.2)) 91 [(0, .inr (.inr 158)), (1, .inl a1), (2, .inl a2), (3, .inl a3), (4, .inl a4), (5, .inl a5), (6, .inl a6), (7, .inl l7)] [.inl s0] M := by
  unfold fX7_sheet_91 at h
  refine zEV.istore dX7_sheet_91 (Nat.le_of_ble_eq_true rfl) rfl ?_
  refine zEV.iload dX7_sheet_93 0 rfl ?_
  refine zEV.if_ne 120 dX7_sheet_95 (by decide) (fun c1 => ?_) (fun c1 => ?_)
  · rw [if_neg c1] at h
    exact zEV.perm [1, 8, 0] rfl (tX7_sheet_120 a1 a2 a3 a4 a5 a6 (l7) (s0) M q h)
  · rw [if_pos c1] at h
    refine zEV.iload_n dX7_sheet_98 rfl 4 rfl ?_
    refine zEV.iload dX7_sheet_99 6 rfl ?_
    refine zEV.iload dX7_sheet_101 7 rfl ?_
    refine zEV.iload dX7_sheet_103 8 rfl ?_
    obtain ⟨q2, hq2, h⟩ := bind_yes h
    refine zEV.callSi (kX7_entryOf (a3) (a5) (a6) (l7)  M q2 hq2) wm_RX7_131 wc_X7_entryOf hy_X7_entryOf rfl ⟨Nat.le_of_ble_eq_true rfl, Nat.le_of_ble_eq_true rfl⟩ rfl (Nat.le_of_ble_eq_true rfl) dX7_sheet_105 ?_
    refine zEV.iconst (v := 1) dX7_sheet_108 rfl ?_
    refine zEV.bipush (v := 9) dX7_sheet_109 rfl ?_
    obtain ⟨q3, hq3, h⟩ := bind_yes h
    refine zEV.callSi (kX7_in (q2.1) (1) (9)  q2.2 q3 hq3) wm_RX7_65 wc_X7_in hy_X7_in rfl ⟨Nat.le_of_ble_eq_true rfl, Nat.le_of_ble_eq_true rfl⟩ rfl (Nat.le_of_ble_eq_true rfl) dX7_sheet_111 ?_
    refine zEV.if_eq 120 dX7_sheet_114 (by decide) (fun c4 => ?_) (fun c4 => ?_)
    · rw [if_pos c4] at h
      exact zEV.perm [1, 8, 0] rfl (tX7_sheet_120 a1 a2 a3 a4 a5 a6 (l7) (s0) q3.2 q h)
    · rw [if_neg c4] at h
      refine zEV.goto 151 dX7_sheet_117 (by decide) ?_
      refine zEV.iinc (v := (l7 + 1)) dX7_sheet_151 8 rfl rfl (Nat.le_of_ble_eq_true rfl) rfl ?_
      refine zEV.goto 49 dX7_sheet_154 (by decide) ?_
      exact zEV.perm [2, 3, 4, 5, 6, 7, 8, 0] rfl (hK49 ((l7 + 1)) q3.2 q h)
def fX7_sheet_86 (K49 : Int32 → zMM → Option (Int32 × zMM)) (a1 : Int32) (a2 : Int32) (a3 : Int32) (a4 : Int32) (a5 : Int32) (a6 : Int32) (l7 : Int32) (M : zMM) : Option (Int32 × zMM) :=
  fX7_sheet_91 K49 a1 a2 a3 a4 a5 a6 (l7) (1) M
set_option maxRecDepth 100000 in
theorem tX7_sheet_86 (K49 : Int32 → zMM → Option (Int32 × zMM)) (a1 : Int32) (a2 : Int32) (a3 : Int32) (a4 : Int32) (a5 : Int32) (a6 : Int32) (hK49 : ∀ (l7 : Int32) (M : zMM) (q : Int32 × zMM), K49 l7 M = some q → zEV iX7_sheet 0 0 (zZO (some (.inl q.1), q.2)) 49 [(0, .inr (.inr 158)), (1, .inl a1), (2, .inl a2), (3, .inl a3), (4, .inl a4), (5, .inl a5), (6, .inl a6), (7, .inl l7)] [] M) (l7 : Int32) (M : zMM) (q : Int32 × zMM) (h : fX7_sheet_86 K49 a1 a2 a3 a4 a5 a6 l7 M = some q) : zEV iX7_sheet 0 0 (zZO (some (.inl q.1), q.2)) 86 [(0, .inr (.inr 158)), (1, .inl a1), (2, .inl a2), (3, .inl a3), (4, .inl a4), (5, .inl a5), (6, .inl a6), (7, .inl l7)] [] M := by
  unfold fX7_sheet_86 at h
  refine zEV.iconst (v := 1) dX7_sheet_86 rfl ?_
  refine zEV.goto 91 dX7_sheet_87 (by decide) ?_
  exact zEV.perm [0, 1, 2, 3, 4, 5, 6, 7] rfl (tX7_sheet_91 K49 a1 a2 a3 a4 a5 a6 hK49 (l7) (1) M q h)
def fX7_sheet_49 (a1 : Int32) (a2 : Int32) (a3 : Int32) (a4 : Int32) (a5 : Int32) (a6 : Int32) : Nat → Int32 → zMM → Option (Int32 × zMM)
  | 0, _, _ => none
  | n + 1, l7, M =>
  if a4 ≤ l7 then
    fX7_sheet_163 a1 a2 a3 a4 a5 a6 zFU (0) (0) M
  else
    if (lg_cmp ((Int32.toInt64 a2) + (Int32.toInt64 l7)) (0 : Int64)) < (0 : Int32) then
      fX7_sheet_86 (fX7_sheet_49 a1 a2 a3 a4 a5 a6 n) a1 a2 a3 a4 a5 a6 (l7) M
    else
      if oob ((5 + a1)) 259 then none else
      if (lg_cmp ((Int32.toInt64 a2) + (Int32.toInt64 l7)) (Int32.toInt64 (M.1 159 (Int32.toNatClampNeg (5 + a1))))) < (0 : Int32) then
        fX7_sheet_91 (fX7_sheet_49 a1 a2 a3 a4 a5 a6 n) a1 a2 a3 a4 a5 a6 (l7) (0) M
      else
        fX7_sheet_86 (fX7_sheet_49 a1 a2 a3 a4 a5 a6 n) a1 a2 a3 a4 a5 a6 (l7) M
set_option maxRecDepth 100000 in
theorem tX7_sheet_49 (a1 : Int32) (a2 : Int32) (a3 : Int32) (a4 : Int32) (a5 : Int32) (a6 : Int32) : ∀ (n : Nat) (l7 : Int32) (M : zMM) (q : Int32 × zMM), fX7_sheet_49 a1 a2 a3 a4 a5 a6 n l7 M = some q → zEV iX7_sheet 0 0 (zZO (some (.inl q.1), q.2)) 49 [(0, .inr (.inr 158)), (1, .inl a1), (2, .inl a2), (3, .inl a3), (4, .inl a4), (5, .inl a5), (6, .inl a6), (7, .inl l7)] [] M := by
  intro n
  induction n with
  | zero =>
    intro l7 M q h
    rw [fX7_sheet_49] at h
    cases h
  | succ n ih =>
    intro l7 M q h
    rw [fX7_sheet_49] at h
    refine zEV.iload dX7_sheet_49 7 rfl ?_
    refine zEV.iload dX7_sheet_51 4 rfl ?_
    refine zEV.icmp_ge 157 dX7_sheet_53 (by decide) (fun c1 => ?_) (fun c1 => ?_)
    · rw [if_pos c1] at h
      refine zEV.iconst (v := 0) dX7_sheet_157 rfl ?_
      refine zEV.istore dX7_sheet_158 (Nat.le_of_ble_eq_true rfl) rfl ?_
      refine zEV.iconst (v := 0) dX7_sheet_160 rfl ?_
      refine zEV.istore dX7_sheet_161 (Nat.le_of_ble_eq_true rfl) rfl ?_
      exact zEV.perm [2, 3, 4, 5, 6, 7, 8, 1, 0] rfl (tX7_sheet_163 a1 a2 a3 a4 a5 a6 zFU (0) (0) M q h)
    · rw [if_neg c1] at h
      refine zEV.iload_n dX7_sheet_56 rfl 2 rfl ?_
      refine zEV.i2l dX7_sheet_57 ?_
      refine zEV.iload dX7_sheet_58 7 rfl ?_
      refine zEV.i2l dX7_sheet_60 ?_
      refine zEV.ladd dX7_sheet_61 ?_
      refine zEV.lstore dX7_sheet_62 (Nat.le_of_ble_eq_true rfl) rfl ?_
      refine zEV.lload dX7_sheet_64 0 rfl ?_
      refine zEV.lconst (v := 0) dX7_sheet_66 rfl ?_
      refine zEV.lcmp dX7_sheet_67 ?_
      refine zEV.if_lt 86 dX7_sheet_68 (by decide) (fun c2 => ?_) (fun c2 => ?_)
      · rw [if_pos c2] at h
        exact zEV.perm [1, 2, 3, 4, 5, 6, 7, 8] rfl (tX7_sheet_86 (fX7_sheet_49 a1 a2 a3 a4 a5 a6 n) a1 a2 a3 a4 a5 a6 (fun l7 M9 q9 h9 => ih l7 M9 q9 h9) (l7) M q h)
      · rw [if_neg c2] at h
        refine zEV.lload dX7_sheet_71 0 rfl ?_
        refine zEV.aload_n dX7_sheet_73 rfl 1 rfl ?_
        refine zEV.gfr rfl inz7 0 (by decide) wf_RX7_9 (by decide) rfl rfl dX7_sheet_74 ?_
        refine zEV.iconst (v := 5) dX7_sheet_77 rfl ?_
        refine zEV.iload_n dX7_sheet_78 rfl 2 rfl ?_
        refine zEV.iadd dX7_sheet_79 ?_
        obtain ⟨g3, h⟩ := ite_no h
        refine zEV.iald (by decide) rfl g3 dX7_sheet_80 ?_
        refine zEV.i2l dX7_sheet_81 ?_
        refine zEV.lcmp dX7_sheet_82 ?_
        refine zEV.if_lt 90 dX7_sheet_83 (by decide) (fun c4 => ?_) (fun c4 => ?_)
        · rw [if_pos c4] at h
          refine zEV.iconst (v := 0) dX7_sheet_90 rfl ?_
          exact zEV.perm [1, 2, 3, 4, 5, 6, 7, 8] rfl (tX7_sheet_91 (fX7_sheet_49 a1 a2 a3 a4 a5 a6 n) a1 a2 a3 a4 a5 a6 (fun l7 M9 q9 h9 => ih l7 M9 q9 h9) (l7) (0) M q h)
        · rw [if_neg c4] at h
          exact zEV.perm [1, 2, 3, 4, 5, 6, 7, 8] rfl (tX7_sheet_86 (fX7_sheet_49 a1 a2 a3 a4 a5 a6 n) a1 a2 a3 a4 a5 a6 (fun l7 M9 q9 h9 => ih l7 M9 q9 h9) (l7) M q h)
def fX7_sheet (a1 : Int32) (a2 : Int32) (a3 : Int32) (a4 : Int32) (a5 : Int32) (a6 : Int32) (M : zMM) : Option (Int32 × zMM) :=
  (fX7_isText (a1) (wr M 158 5 0)).bind fun q1 =>
  if q1.1 = (0 : Int32) then
    some ((-1), q1.2)
  else
    (fX7_in (a3) (0) (3) q1.2).bind fun q3 =>
    if q3.1 = (0 : Int32) then
      some ((-1), q3.2)
    else
      if a4 ≤ 70 then
        if a3 = 3 then
          some ((-3), q3.2)
        else
          if (0 : Int32) ≤ a4 then
            fX7_sheet_49 a1 a2 a3 a4 a5 a6 zFU (0) q3.2
          else
            some ((-2), q3.2)
      else
        some ((-1), q3.2)
set_option maxRecDepth 100000 in
theorem tX7_sheet_0 (a1 : Int32) (a2 : Int32) (a3 : Int32) (a4 : Int32) (a5 : Int32) (a6 : Int32) (M : zMM) (q : Int32 × zMM) (h : fX7_sheet a1 a2 a3 a4 a5 a6  M = some q) : zEV iX7_sheet 0 0 (zZO (some (.inl q.1), q.2)) 0 [(0, .inr (.inr 158)), (1, .inl a1), (2, .inl a2), (3, .inl a3), (4, .inl a4), (5, .inl a5), (6, .inl a6)] [] M := by
  unfold fX7_sheet at h
  refine zEV.aload_n dX7_sheet_0 rfl 0 rfl ?_
  refine zEV.iconst (v := 0) dX7_sheet_1 rfl ?_
  refine zEV.pfi rfl inz7 tyX7 tyX7_ok nmX7 5 (by decide) wf_RX7_58 rfl (by decide +kernel) (by decide) rfl rfl dX7_sheet_2 ?_
  refine zEV.iload_n dX7_sheet_5 rfl 1 rfl ?_
  obtain ⟨q1, hq1, h⟩ := bind_yes h
  refine zEV.callSi (kX7_isText (a1)  (wr M 158 5 0) q1 hq1) wm_RX7_69 wc_X7_isText hy_X7_isText rfl ⟨Nat.le_of_ble_eq_true rfl, Nat.le_of_ble_eq_true rfl⟩ rfl (Nat.le_of_ble_eq_true rfl) dX7_sheet_6 ?_
  refine zEV.if_eq 28 dX7_sheet_9 (by decide) (fun c2 => ?_) (fun c2 => ?_)
  · rw [if_pos c2] at h
    refine zEV.iconst (v := (-1)) dX7_sheet_28 rfl ?_
    have h := Option.some.inj h
    subst h
    exact zEV.iret rfl dX7_sheet_29
  · rw [if_neg c2] at h
    refine zEV.iload_n dX7_sheet_12 rfl 3 rfl ?_
    refine zEV.iconst (v := 0) dX7_sheet_13 rfl ?_
    refine zEV.iconst (v := 3) dX7_sheet_14 rfl ?_
    obtain ⟨q3, hq3, h⟩ := bind_yes h
    refine zEV.callSi (kX7_in (a3) (0) (3)  q1.2 q3 hq3) wm_RX7_65 wc_X7_in hy_X7_in rfl ⟨Nat.le_of_ble_eq_true rfl, Nat.le_of_ble_eq_true rfl⟩ rfl (Nat.le_of_ble_eq_true rfl) dX7_sheet_15 ?_
    refine zEV.if_eq 28 dX7_sheet_18 (by decide) (fun c4 => ?_) (fun c4 => ?_)
    · rw [if_pos c4] at h
      refine zEV.iconst (v := (-1)) dX7_sheet_28 rfl ?_
      have h := Option.some.inj h
      subst h
      exact zEV.iret rfl dX7_sheet_29
    · rw [if_neg c4] at h
      refine zEV.iload dX7_sheet_21 4 rfl ?_
      refine zEV.bipush (v := 70) dX7_sheet_23 rfl ?_
      refine zEV.icmp_le 30 dX7_sheet_25 (by decide) (fun c5 => ?_) (fun c5 => ?_)
      · rw [if_pos c5] at h
        refine zEV.iload_n dX7_sheet_30 rfl 3 rfl ?_
        refine zEV.iconst (v := 3) dX7_sheet_31 rfl ?_
        refine zEV.icmp_ne 38 dX7_sheet_32 (by decide) (fun c6 => ?_) (fun c6 => ?_)
        · rw [if_neg c6] at h
          refine zEV.iload dX7_sheet_38 4 rfl ?_
          refine zEV.if_ge 46 dX7_sheet_40 (by decide) (fun c7 => ?_) (fun c7 => ?_)
          · rw [if_pos c7] at h
            refine zEV.iconst (v := 0) dX7_sheet_46 rfl ?_
            refine zEV.istore dX7_sheet_47 (Nat.le_of_ble_eq_true rfl) rfl ?_
            exact zEV.perm [1, 2, 3, 4, 5, 6, 7, 0] rfl (tX7_sheet_49 a1 a2 a3 a4 a5 a6 zFU (0) q3.2 q h)
          · rw [if_neg c7] at h
            refine zEV.bipush (v := (-2)) dX7_sheet_43 rfl ?_
            have h := Option.some.inj h
            subst h
            exact zEV.iret rfl dX7_sheet_45
        · rw [if_pos c6] at h
          refine zEV.bipush (v := (-3)) dX7_sheet_35 rfl ?_
          have h := Option.some.inj h
          subst h
          exact zEV.iret rfl dX7_sheet_37
      · rw [if_neg c5] at h
        refine zEV.iconst (v := (-1)) dX7_sheet_28 rfl ?_
        have h := Option.some.inj h
        subst h
        exact zEV.iret rfl dX7_sheet_29
theorem kX7_sheet (a1 : Int32) (a2 : Int32) (a3 : Int32) (a4 : Int32) (a5 : Int32) (a6 : Int32) (M : zMM) (q : Int32 × zMM) (h : fX7_sheet a1 a2 a3 a4 a5 a6 M = some q) : zCN yX7_sheet iX7_sheet [.inr (.inr 158), .inl a1, .inl a2, .inl a3, .inl a4, .inl a5, .inl a6] M (some (.inl q.1), q.2) :=
  zCN.of (by decide) rfl rfl (Nat.le_of_ble_eq_true rfl) (zEV.perm [0, 1, 2, 3, 4, 5, 6] rfl (tX7_sheet_0 a1 a2 a3 a4 a5 a6 M q h))
-- RingedPageModel.isLeft
def fX7_isLeft (a1 : Int32) (M : zMM) : Option (Int32 × zMM) :=
  if oob (a1) 3 then none else
  if oob ((5 + a1)) 259 then none else
  if (M.1 159 (Int32.toNatClampNeg (5 + a1))) ≤ (M.1 165 (Int32.toNatClampNeg a1)) then
    some (0, M)
  else
    some (1, M)
set_option maxRecDepth 100000 in
theorem tX7_isLeft_0 (a1 : Int32) (M : zMM) (q : Int32 × zMM) (h : fX7_isLeft a1  M = some q) : zEV iX7_isLeft 0 0 (zZO (some (.inl q.1), q.2)) 0 [(0, .inr (.inr 158)), (1, .inl a1)] [] M := by
  unfold fX7_isLeft at h
  refine zEV.aload_n dX7_isLeft_0 rfl 0 rfl ?_
  refine zEV.gfr rfl inz7 13 (by decide) wf_RX7_30 (by decide) rfl rfl dX7_isLeft_1 ?_
  refine zEV.iload_n dX7_isLeft_4 rfl 1 rfl ?_
  obtain ⟨g1, h⟩ := ite_no h
  refine zEV.iald (by decide) rfl g1 dX7_isLeft_5 ?_
  refine zEV.aload_n dX7_isLeft_6 rfl 0 rfl ?_
  refine zEV.gfr rfl inz7 0 (by decide) wf_RX7_9 (by decide) rfl rfl dX7_isLeft_7 ?_
  refine zEV.iconst (v := 5) dX7_isLeft_10 rfl ?_
  refine zEV.iload_n dX7_isLeft_11 rfl 1 rfl ?_
  refine zEV.iadd dX7_isLeft_12 ?_
  obtain ⟨g2, h⟩ := ite_no h
  refine zEV.iald (by decide) rfl g2 dX7_isLeft_13 ?_
  refine zEV.icmp_ge 21 dX7_isLeft_14 (by decide) (fun c3 => ?_) (fun c3 => ?_)
  · rw [if_pos c3] at h
    refine zEV.iconst (v := 0) dX7_isLeft_21 rfl ?_
    have h := Option.some.inj h
    subst h
    exact zEV.zret rfl (Or.inl rfl) dX7_isLeft_22
  · rw [if_neg c3] at h
    refine zEV.iconst (v := 1) dX7_isLeft_17 rfl ?_
    refine zEV.goto 22 dX7_isLeft_18 (by decide) ?_
    have h := Option.some.inj h
    subst h
    exact zEV.zret rfl (Or.inr rfl) dX7_isLeft_22
theorem kX7_isLeft (a1 : Int32) (M : zMM) (q : Int32 × zMM) (h : fX7_isLeft a1 M = some q) : zCN yX7_isLeft iX7_isLeft [.inr (.inr 158), .inl a1] M (some (.inl q.1), q.2) :=
  zCN.of (by decide) rfl rfl (Nat.le_of_ble_eq_true rfl) (zEV.perm [0, 1] rfl (tX7_isLeft_0 a1 M q h))
-- RingedPageModel.areLeft
def fX7_areLeft (M : zMM) : Option (Int32 × zMM) :=
  (fX7_isLeft (0) M).bind fun q1 =>
  if q1.1 = (0 : Int32) then
    (fX7_isLeft (1) q1.2).bind fun q3 =>
    if q3.1 = (0 : Int32) then
      (fX7_isLeft (2) q3.2).bind fun q5 =>
      if q5.1 = (0 : Int32) then
        some (0, q5.2)
      else
        some (1, q5.2)
    else
      some (1, q3.2)
  else
    some (1, q1.2)
set_option maxRecDepth 100000 in
theorem tX7_areLeft_0 (M : zMM) (q : Int32 × zMM) (h : fX7_areLeft  M = some q) : zEV iX7_areLeft 0 0 (zZO (some (.inl q.1), q.2)) 0 [(0, .inr (.inr 158))] [] M := by
  unfold fX7_areLeft at h
  refine zEV.aload_n dX7_areLeft_0 rfl 0 rfl ?_
  refine zEV.iconst (v := 0) dX7_areLeft_1 rfl ?_
  obtain ⟨q1, hq1, h⟩ := bind_yes h
  refine zEV.callVi (kX7_isLeft (0)  M q1 hq1) (by decide) rfl rfl wm_RX7_141 wc_X7_isLeft hy_X7_isLeft rfl ⟨Nat.le_of_ble_eq_true rfl, Nat.le_of_ble_eq_true rfl⟩ rfl (Nat.le_of_ble_eq_true rfl) dX7_areLeft_2 ?_
  refine zEV.if_ne 24 dX7_areLeft_5 (by decide) (fun c2 => ?_) (fun c2 => ?_)
  · rw [if_neg c2] at h
    refine zEV.iconst (v := 1) dX7_areLeft_24 rfl ?_
    refine zEV.goto 29 dX7_areLeft_25 (by decide) ?_
    have h := Option.some.inj h
    subst h
    exact zEV.zret rfl (Or.inr rfl) dX7_areLeft_29
  · rw [if_pos c2] at h
    refine zEV.aload_n dX7_areLeft_8 rfl 0 rfl ?_
    refine zEV.iconst (v := 1) dX7_areLeft_9 rfl ?_
    obtain ⟨q3, hq3, h⟩ := bind_yes h
    refine zEV.callVi (kX7_isLeft (1)  q1.2 q3 hq3) (by decide) rfl rfl wm_RX7_141 wc_X7_isLeft hy_X7_isLeft rfl ⟨Nat.le_of_ble_eq_true rfl, Nat.le_of_ble_eq_true rfl⟩ rfl (Nat.le_of_ble_eq_true rfl) dX7_areLeft_10 ?_
    refine zEV.if_ne 24 dX7_areLeft_13 (by decide) (fun c4 => ?_) (fun c4 => ?_)
    · rw [if_neg c4] at h
      refine zEV.iconst (v := 1) dX7_areLeft_24 rfl ?_
      refine zEV.goto 29 dX7_areLeft_25 (by decide) ?_
      have h := Option.some.inj h
      subst h
      exact zEV.zret rfl (Or.inr rfl) dX7_areLeft_29
    · rw [if_pos c4] at h
      refine zEV.aload_n dX7_areLeft_16 rfl 0 rfl ?_
      refine zEV.iconst (v := 2) dX7_areLeft_17 rfl ?_
      obtain ⟨q5, hq5, h⟩ := bind_yes h
      refine zEV.callVi (kX7_isLeft (2)  q3.2 q5 hq5) (by decide) rfl rfl wm_RX7_141 wc_X7_isLeft hy_X7_isLeft rfl ⟨Nat.le_of_ble_eq_true rfl, Nat.le_of_ble_eq_true rfl⟩ rfl (Nat.le_of_ble_eq_true rfl) dX7_areLeft_18 ?_
      refine zEV.if_eq 28 dX7_areLeft_21 (by decide) (fun c6 => ?_) (fun c6 => ?_)
      · rw [if_pos c6] at h
        refine zEV.iconst (v := 0) dX7_areLeft_28 rfl ?_
        have h := Option.some.inj h
        subst h
        exact zEV.zret rfl (Or.inl rfl) dX7_areLeft_29
      · rw [if_neg c6] at h
        refine zEV.iconst (v := 1) dX7_areLeft_24 rfl ?_
        refine zEV.goto 29 dX7_areLeft_25 (by decide) ?_
        have h := Option.some.inj h
        subst h
        exact zEV.zret rfl (Or.inr rfl) dX7_areLeft_29
theorem kX7_areLeft (M : zMM) (q : Int32 × zMM) (h : fX7_areLeft M = some q) : zCN yX7_areLeft iX7_areLeft [.inr (.inr 158)] M (some (.inl q.1), q.2) :=
  zCN.of (by decide) rfl rfl (Nat.le_of_ble_eq_true rfl) (zEV.perm [0] rfl (tX7_areLeft_0 M q h))
-- RingedPageModel.setPart
def fX7_setPart_229 (a1 : Int32) (a2 : Int32) (a3 : Int32) (a4 : Int32) (a5 : Int32) (s0 : Int32) (s1 : Int32) (M : zMM) : Option (zMM) :=
  if oob (s1) 1680 then none else
  some (wr (wr M 163 (Int32.toNatClampNeg s1) s0) 158 11 (((wr M 163 (Int32.toNatClampNeg s1) s0).1 158 11) + 1))
set_option maxRecDepth 100000 in
theorem tX7_setPart_229 (a1 : Int32) (a2 : Int32) (a3 : Int32) (a4 : Int32) (a5 : Int32) (s0 : Int32) (s1 : Int32) (M : zMM) (q : zMM) (h : fX7_setPart_229 a1 a2 a3 a4 a5 s0 s1 M = some q) : zEV iX7_setPart 0 0 (zZO (none, q)) 229 [(0, .inr (.inr 158))] [.inl s0, .inl s1, .inr (.inr 163)] M := by
  unfold fX7_setPart_229 at h
  obtain ⟨g1, h⟩ := ite_no h
  refine zEV.iast (by decide) rfl g1 dX7_setPart_229 ?_
  refine zEV.aload_n dX7_setPart_230 rfl 0 rfl ?_
  refine zEV.dup dX7_setPart_231 rfl ?_
  refine zEV.gfi rfl inz7 11 (by decide) wf_RX7_144 (by decide) rfl rfl dX7_setPart_232 ?_
  refine zEV.iconst (v := 1) dX7_setPart_235 rfl ?_
  refine zEV.iadd dX7_setPart_236 ?_
  refine zEV.pfi rfl inz7 tyX7 tyX7_ok nmX7 11 (by decide) wf_RX7_144 rfl (by decide +kernel) (by decide) rfl rfl dX7_setPart_237 ?_
  have h := Option.some.inj h
  subst h
  exact zEV.vret rfl dX7_setPart_240
def fX7_setPart_124 (a1 : Int32) (a2 : Int32) (a3 : Int32) (a4 : Int32) (a5 : Int32) (l6 : Int32) (l7 : Int32) (l8 : Int32) (l9 : Int32) (M : zMM) : Option (zMM) :=
  if oob (l6) 1680 then none else
  if oob ((l6 + 1)) 1680 then none else
  if oob ((l6 + 2)) 1680 then none else
  if oob ((l6 + 3)) 1680 then none else
  if oob ((l6 + 4)) 1680 then none else
  if oob ((l6 + 5)) 1680 then none else
  if oob ((l6 + 6)) 1680 then none else
  (fX7_isLeft (a1) (wr (wr (wr (wr (wr (wr (wr M 163 (Int32.toNatClampNeg l6) a1) 163 (Int32.toNatClampNeg (l6 + 1)) a2) 163 (Int32.toNatClampNeg (l6 + 2)) a3) 163 (Int32.toNatClampNeg (l6 + 3)) l7) 163 (Int32.toNatClampNeg (l6 + 4)) l8) 163 (Int32.toNatClampNeg (l6 + 5)) a4) 163 (Int32.toNatClampNeg (l6 + 6)) a5)).bind fun q8 =>
  if q8.1 = (0 : Int32) then
    fX7_setPart_229 a1 a2 a3 a4 a5 (0) ((l6 + 7)) q8.2
  else
    fX7_setPart_229 a1 a2 a3 a4 a5 (((a4 - l9) * (a4 - l9))) ((l6 + 7)) q8.2
set_option maxRecDepth 100000 in
theorem tX7_setPart_124 (a1 : Int32) (a2 : Int32) (a3 : Int32) (a4 : Int32) (a5 : Int32) (l6 : Int32) (l7 : Int32) (l8 : Int32) (l9 : Int32) (M : zMM) (q : zMM) (h : fX7_setPart_124 a1 a2 a3 a4 a5 l6 l7 l8 l9 M = some q) : zEV iX7_setPart 0 0 (zZO (none, q)) 124 [(0, .inr (.inr 158)), (1, .inl a1), (2, .inl a2), (3, .inl a3), (4, .inl a4), (5, .inl a5), (6, .inl l6), (7, .inl l7), (8, .inl l8), (9, .inl l9)] [] M := by
  unfold fX7_setPart_124 at h
  refine zEV.aload_n dX7_setPart_124 rfl 0 rfl ?_
  refine zEV.gfr rfl inz7 10 (by decide) wf_RX7_24 (by decide) rfl rfl dX7_setPart_125 ?_
  refine zEV.iload dX7_setPart_128 6 rfl ?_
  refine zEV.iload_n dX7_setPart_130 rfl 1 rfl ?_
  obtain ⟨g1, h⟩ := ite_no h
  refine zEV.iast (by decide) rfl g1 dX7_setPart_131 ?_
  refine zEV.aload_n dX7_setPart_132 rfl 0 rfl ?_
  refine zEV.gfr rfl inz7 10 (by decide) wf_RX7_24 (by decide) rfl rfl dX7_setPart_133 ?_
  refine zEV.iload dX7_setPart_136 6 rfl ?_
  refine zEV.iconst (v := 1) dX7_setPart_138 rfl ?_
  refine zEV.iadd dX7_setPart_139 ?_
  refine zEV.iload_n dX7_setPart_140 rfl 2 rfl ?_
  obtain ⟨g2, h⟩ := ite_no h
  refine zEV.iast (by decide) rfl g2 dX7_setPart_141 ?_
  refine zEV.aload_n dX7_setPart_142 rfl 0 rfl ?_
  refine zEV.gfr rfl inz7 10 (by decide) wf_RX7_24 (by decide) rfl rfl dX7_setPart_143 ?_
  refine zEV.iload dX7_setPart_146 6 rfl ?_
  refine zEV.iconst (v := 2) dX7_setPart_148 rfl ?_
  refine zEV.iadd dX7_setPart_149 ?_
  refine zEV.iload_n dX7_setPart_150 rfl 3 rfl ?_
  obtain ⟨g3, h⟩ := ite_no h
  refine zEV.iast (by decide) rfl g3 dX7_setPart_151 ?_
  refine zEV.aload_n dX7_setPart_152 rfl 0 rfl ?_
  refine zEV.gfr rfl inz7 10 (by decide) wf_RX7_24 (by decide) rfl rfl dX7_setPart_153 ?_
  refine zEV.iload dX7_setPart_156 6 rfl ?_
  refine zEV.iconst (v := 3) dX7_setPart_158 rfl ?_
  refine zEV.iadd dX7_setPart_159 ?_
  refine zEV.iload dX7_setPart_160 7 rfl ?_
  obtain ⟨g4, h⟩ := ite_no h
  refine zEV.iast (by decide) rfl g4 dX7_setPart_162 ?_
  refine zEV.aload_n dX7_setPart_163 rfl 0 rfl ?_
  refine zEV.gfr rfl inz7 10 (by decide) wf_RX7_24 (by decide) rfl rfl dX7_setPart_164 ?_
  refine zEV.iload dX7_setPart_167 6 rfl ?_
  refine zEV.iconst (v := 4) dX7_setPart_169 rfl ?_
  refine zEV.iadd dX7_setPart_170 ?_
  refine zEV.iload dX7_setPart_171 8 rfl ?_
  obtain ⟨g5, h⟩ := ite_no h
  refine zEV.iast (by decide) rfl g5 dX7_setPart_173 ?_
  refine zEV.aload_n dX7_setPart_174 rfl 0 rfl ?_
  refine zEV.gfr rfl inz7 10 (by decide) wf_RX7_24 (by decide) rfl rfl dX7_setPart_175 ?_
  refine zEV.iload dX7_setPart_178 6 rfl ?_
  refine zEV.iconst (v := 5) dX7_setPart_180 rfl ?_
  refine zEV.iadd dX7_setPart_181 ?_
  refine zEV.iload dX7_setPart_182 4 rfl ?_
  obtain ⟨g6, h⟩ := ite_no h
  refine zEV.iast (by decide) rfl g6 dX7_setPart_184 ?_
  refine zEV.aload_n dX7_setPart_185 rfl 0 rfl ?_
  refine zEV.gfr rfl inz7 10 (by decide) wf_RX7_24 (by decide) rfl rfl dX7_setPart_186 ?_
  refine zEV.iload dX7_setPart_189 6 rfl ?_
  refine zEV.bipush (v := 6) dX7_setPart_191 rfl ?_
  refine zEV.iadd dX7_setPart_193 ?_
  refine zEV.iload dX7_setPart_194 5 rfl ?_
  obtain ⟨g7, h⟩ := ite_no h
  refine zEV.iast (by decide) rfl g7 dX7_setPart_196 ?_
  refine zEV.aload_n dX7_setPart_197 rfl 0 rfl ?_
  refine zEV.gfr rfl inz7 10 (by decide) wf_RX7_24 (by decide) rfl rfl dX7_setPart_198 ?_
  refine zEV.iload dX7_setPart_201 6 rfl ?_
  refine zEV.bipush (v := 7) dX7_setPart_203 rfl ?_
  refine zEV.iadd dX7_setPart_205 ?_
  refine zEV.aload_n dX7_setPart_206 rfl 0 rfl ?_
  refine zEV.iload_n dX7_setPart_207 rfl 1 rfl ?_
  obtain ⟨q8, hq8, h⟩ := bind_yes h
  refine zEV.callVi (kX7_isLeft (a1)  (wr (wr (wr (wr (wr (wr (wr M 163 (Int32.toNatClampNeg l6) a1) 163 (Int32.toNatClampNeg (l6 + 1)) a2) 163 (Int32.toNatClampNeg (l6 + 2)) a3) 163 (Int32.toNatClampNeg (l6 + 3)) l7) 163 (Int32.toNatClampNeg (l6 + 4)) l8) 163 (Int32.toNatClampNeg (l6 + 5)) a4) 163 (Int32.toNatClampNeg (l6 + 6)) a5) q8 hq8) (by decide) rfl rfl wm_RX7_141 wc_X7_isLeft hy_X7_isLeft rfl ⟨Nat.le_of_ble_eq_true rfl, Nat.le_of_ble_eq_true rfl⟩ rfl (Nat.le_of_ble_eq_true rfl) dX7_setPart_208 ?_
  refine zEV.if_eq 228 dX7_setPart_211 (by decide) (fun c9 => ?_) (fun c9 => ?_)
  · rw [if_pos c9] at h
    refine zEV.iconst (v := 0) dX7_setPart_228 rfl ?_
    exact zEV.perm [0] rfl (tX7_setPart_229 a1 a2 a3 a4 a5 (0) ((l6 + 7)) q8.2 q h)
  · rw [if_neg c9] at h
    refine zEV.iload dX7_setPart_214 4 rfl ?_
    refine zEV.iload dX7_setPart_216 9 rfl ?_
    refine zEV.isub dX7_setPart_218 ?_
    refine zEV.iload dX7_setPart_219 4 rfl ?_
    refine zEV.iload dX7_setPart_221 9 rfl ?_
    refine zEV.isub dX7_setPart_223 ?_
    refine zEV.imul dX7_setPart_224 ?_
    refine zEV.goto 229 dX7_setPart_225 (by decide) ?_
    exact zEV.perm [0] rfl (tX7_setPart_229 a1 a2 a3 a4 a5 (((a4 - l9) * (a4 - l9))) ((l6 + 7)) q8.2 q h)
def fX7_setPart_73 (K23 : Int32 → Int32 → Int32 → Int32 → zMM → Option (zMM)) (a1 : Int32) (a2 : Int32) (a3 : Int32) (a4 : Int32) (a5 : Int32) (l6 : Int32) (l7 : Int32) (l8 : Int32) (s0 : Int32) (s1 : Int32) (M : zMM) : Option (zMM) :=
  if oob (a1) 3 then none else
  (fX7_size (a1) ((M.1 165 (Int32.toNatClampNeg a1))) M).bind fun q2 =>
  if oob (((70 * a1) + (q2.2.1 165 (Int32.toNatClampNeg a1)))) 210 then none else
  K23 (l6) (l7) ((l8 + 1)) ((s1 + (s0 + q2.1))) (wr (wr q2.2 164 (Int32.toNatClampNeg ((70 * a1) + (q2.2.1 165 (Int32.toNatClampNeg a1)))) (q2.2.1 158 11)) 165 (Int32.toNatClampNeg a1) (((wr q2.2 164 (Int32.toNatClampNeg ((70 * a1) + (q2.2.1 165 (Int32.toNatClampNeg a1)))) (q2.2.1 158 11)).1 165 (Int32.toNatClampNeg a1)) + 1))
set_option maxRecDepth 100000 in
theorem tX7_setPart_73 (K23 : Int32 → Int32 → Int32 → Int32 → zMM → Option (zMM)) (a1 : Int32) (a2 : Int32) (a3 : Int32) (a4 : Int32) (a5 : Int32) (hK23 : ∀ (l6 : Int32) (l7 : Int32) (l8 : Int32) (l9 : Int32) (M : zMM) (q : zMM), K23 l6 l7 l8 l9 M = some q → zEV iX7_setPart 0 0 (zZO (none, q)) 23 [(0, .inr (.inr 158)), (1, .inl a1), (2, .inl a2), (3, .inl a3), (4, .inl a4), (5, .inl a5), (6, .inl l6), (7, .inl l7), (8, .inl l8), (9, .inl l9)] [] M) (l6 : Int32) (l7 : Int32) (l8 : Int32) (s0 : Int32) (s1 : Int32) (M : zMM) (q : zMM) (h : fX7_setPart_73 K23 a1 a2 a3 a4 a5 l6 l7 l8 s0 s1 M = some q) : zEV iX7_setPart 0 0 (zZO (none, q)) 73 [(0, .inr (.inr 158)), (1, .inl a1), (2, .inl a2), (3, .inl a3), (4, .inl a4), (5, .inl a5), (6, .inl l6), (7, .inl l7), (8, .inl l8)] [.inl s0, .inl s1] M := by
  unfold fX7_setPart_73 at h
  refine zEV.aload_n dX7_setPart_73 rfl 0 rfl ?_
  refine zEV.iload_n dX7_setPart_74 rfl 1 rfl ?_
  refine zEV.aload_n dX7_setPart_75 rfl 0 rfl ?_
  refine zEV.gfr rfl inz7 13 (by decide) wf_RX7_30 (by decide) rfl rfl dX7_setPart_76 ?_
  refine zEV.iload_n dX7_setPart_79 rfl 1 rfl ?_
  obtain ⟨g1, h⟩ := ite_no h
  refine zEV.iald (by decide) rfl g1 dX7_setPart_80 ?_
  obtain ⟨q2, hq2, h⟩ := bind_yes h
  refine zEV.callVi (kX7_size (a1) ((M.1 165 (Int32.toNatClampNeg a1)))  M q2 hq2) (by decide) rfl rfl wm_RX7_147 wc_X7_size hy_X7_size rfl ⟨Nat.le_of_ble_eq_true rfl, Nat.le_of_ble_eq_true rfl⟩ rfl (Nat.le_of_ble_eq_true rfl) dX7_setPart_81 ?_
  refine zEV.iadd dX7_setPart_84 ?_
  refine zEV.iadd dX7_setPart_85 ?_
  refine zEV.istore dX7_setPart_86 (Nat.le_of_ble_eq_true rfl) rfl ?_
  refine zEV.aload_n dX7_setPart_88 rfl 1 rfl ?_
  refine zEV.gfr rfl inz7 12 (by decide) wf_RX7_27 (by decide) rfl rfl dX7_setPart_89 ?_
  refine zEV.bipush (v := 70) dX7_setPart_92 rfl ?_
  refine zEV.iload_n dX7_setPart_94 rfl 2 rfl ?_
  refine zEV.imul dX7_setPart_95 ?_
  refine zEV.aload_n dX7_setPart_96 rfl 1 rfl ?_
  refine zEV.gfr rfl inz7 13 (by decide) wf_RX7_30 (by decide) rfl rfl dX7_setPart_97 ?_
  refine zEV.iload_n dX7_setPart_100 rfl 2 rfl ?_
  refine zEV.iald (by decide) rfl g1 dX7_setPart_101 ?_
  refine zEV.iadd dX7_setPart_102 ?_
  refine zEV.aload_n dX7_setPart_103 rfl 1 rfl ?_
  refine zEV.gfi rfl inz7 11 (by decide) wf_RX7_144 (by decide) rfl rfl dX7_setPart_104 ?_
  obtain ⟨g3, h⟩ := ite_no h
  refine zEV.iast (by decide) rfl g3 dX7_setPart_107 ?_
  refine zEV.aload_n dX7_setPart_108 rfl 1 rfl ?_
  refine zEV.gfr rfl inz7 13 (by decide) wf_RX7_30 (by decide) rfl rfl dX7_setPart_109 ?_
  refine zEV.iload_n dX7_setPart_112 rfl 2 rfl ?_
  refine zEV.dup2 dX7_setPart_113 rfl rfl ?_
  refine zEV.iald (by decide) rfl g1 dX7_setPart_114 ?_
  refine zEV.iconst (v := 1) dX7_setPart_115 rfl ?_
  refine zEV.iadd dX7_setPart_116 ?_
  refine zEV.iast (by decide) rfl g1 dX7_setPart_117 ?_
  refine zEV.iinc (v := (l8 + 1)) dX7_setPart_118 9 rfl rfl (Nat.le_of_ble_eq_true rfl) rfl ?_
  refine zEV.goto 23 dX7_setPart_121 (by decide) ?_
  exact zEV.perm [2, 3, 4, 5, 6, 7, 8, 9, 0, 1] rfl (hK23 (l6) (l7) ((l8 + 1)) ((s1 + (s0 + q2.1))) (wr (wr q2.2 164 (Int32.toNatClampNeg ((70 * a1) + (q2.2.1 165 (Int32.toNatClampNeg a1)))) (q2.2.1 158 11)) 165 (Int32.toNatClampNeg a1) (((wr q2.2 164 (Int32.toNatClampNeg ((70 * a1) + (q2.2.1 165 (Int32.toNatClampNeg a1)))) (q2.2.1 158 11)).1 165 (Int32.toNatClampNeg a1)) + 1)) q h)
def fX7_setPart_43 (K23 : Int32 → Int32 → Int32 → Int32 → zMM → Option (zMM)) (a1 : Int32) (a2 : Int32) (a3 : Int32) (a4 : Int32) (a5 : Int32) (l6 : Int32) (l7 : Int32) (l8 : Int32) (l9 : Int32) (s0 : Int32) (s1 : Int32) (M : zMM) : Option (zMM) :=
  if oob (a1) 3 then none else
  (fX7_size (a1) ((M.1 165 (Int32.toNatClampNeg a1))) M).bind fun q2 =>
  if a4 < ((s1 + s0) + q2.1) then
    fX7_setPart_124 a1 a2 a3 a4 a5 (l6) (l7) (l8) (l9) q2.2
  else
    if l8 ≤ (0 : Int32) then
      fX7_setPart_73 K23 a1 a2 a3 a4 a5 (l6) (l7) (l8) (0) (l9) q2.2
    else
      fX7_setPart_73 K23 a1 a2 a3 a4 a5 (l6) (l7) (l8) (1) (l9) q2.2
set_option maxRecDepth 100000 in
theorem tX7_setPart_43 (K23 : Int32 → Int32 → Int32 → Int32 → zMM → Option (zMM)) (a1 : Int32) (a2 : Int32) (a3 : Int32) (a4 : Int32) (a5 : Int32) (hK23 : ∀ (l6 : Int32) (l7 : Int32) (l8 : Int32) (l9 : Int32) (M : zMM) (q : zMM), K23 l6 l7 l8 l9 M = some q → zEV iX7_setPart 0 0 (zZO (none, q)) 23 [(0, .inr (.inr 158)), (1, .inl a1), (2, .inl a2), (3, .inl a3), (4, .inl a4), (5, .inl a5), (6, .inl l6), (7, .inl l7), (8, .inl l8), (9, .inl l9)] [] M) (l6 : Int32) (l7 : Int32) (l8 : Int32) (l9 : Int32) (s0 : Int32) (s1 : Int32) (M : zMM) (q : zMM) (h : fX7_setPart_43 K23 a1 a2 a3 a4 a5 l6 l7 l8 l9 s0 s1 M = some q) : zEV iX7_setPart 0 0 (zZO (none, q)) 43 [(0, .inr (.inr 158)), (1, .inl a1), (2, .inl a2), (3, .inl a3), (4, .inl a4), (5, .inl a5), (6, .inl l6), (7, .inl l7), (8, .inl l8), (9, .inl l9)] [.inl s0, .inl s1] M := by
  unfold fX7_setPart_43 at h
  refine zEV.iadd dX7_setPart_43 ?_
  refine zEV.aload_n dX7_setPart_44 rfl 0 rfl ?_
  refine zEV.iload_n dX7_setPart_45 rfl 1 rfl ?_
  refine zEV.aload_n dX7_setPart_46 rfl 0 rfl ?_
  refine zEV.gfr rfl inz7 13 (by decide) wf_RX7_30 (by decide) rfl rfl dX7_setPart_47 ?_
  refine zEV.iload_n dX7_setPart_50 rfl 1 rfl ?_
  obtain ⟨g1, h⟩ := ite_no h
  refine zEV.iald (by decide) rfl g1 dX7_setPart_51 ?_
  obtain ⟨q2, hq2, h⟩ := bind_yes h
  refine zEV.callVi (kX7_size (a1) ((M.1 165 (Int32.toNatClampNeg a1)))  M q2 hq2) (by decide) rfl rfl wm_RX7_147 wc_X7_size hy_X7_size rfl ⟨Nat.le_of_ble_eq_true rfl, Nat.le_of_ble_eq_true rfl⟩ rfl (Nat.le_of_ble_eq_true rfl) dX7_setPart_52 ?_
  refine zEV.iadd dX7_setPart_55 ?_
  refine zEV.iload dX7_setPart_56 4 rfl ?_
  refine zEV.icmp_gt 124 dX7_setPart_58 (by decide) (fun c3 => ?_) (fun c3 => ?_)
  · rw [if_pos c3] at h
    exact zEV.perm [0, 1, 2, 3, 4, 5, 6, 7, 8, 9] rfl (tX7_setPart_124 a1 a2 a3 a4 a5 (l6) (l7) (l8) (l9) q2.2 q h)
  · rw [if_neg c3] at h
    refine zEV.iload dX7_setPart_61 9 rfl ?_
    refine zEV.iload dX7_setPart_63 8 rfl ?_
    refine zEV.if_le 72 dX7_setPart_65 (by decide) (fun c4 => ?_) (fun c4 => ?_)
    · rw [if_pos c4] at h
      refine zEV.iconst (v := 0) dX7_setPart_72 rfl ?_
      exact zEV.perm [0, 1, 2, 3, 4, 5, 6, 7, 8] rfl (tX7_setPart_73 K23 a1 a2 a3 a4 a5 hK23 (l6) (l7) (l8) (0) (l9) q2.2 q h)
    · rw [if_neg c4] at h
      refine zEV.iconst (v := 1) dX7_setPart_68 rfl ?_
      refine zEV.goto 73 dX7_setPart_69 (by decide) ?_
      exact zEV.perm [0, 1, 2, 3, 4, 5, 6, 7, 8] rfl (tX7_setPart_73 K23 a1 a2 a3 a4 a5 hK23 (l6) (l7) (l8) (1) (l9) q2.2 q h)
def fX7_setPart_23 (a1 : Int32) (a2 : Int32) (a3 : Int32) (a4 : Int32) (a5 : Int32) : Nat → Int32 → Int32 → Int32 → Int32 → zMM → Option (zMM)
  | 0, _, _, _, _, _ => none
  | n + 1, l6, l7, l8, l9, M =>
  (fX7_isLeft (a1) M).bind fun q1 =>
  if q1.1 = (0 : Int32) then
    fX7_setPart_124 a1 a2 a3 a4 a5 (l6) (l7) (l8) (l9) q1.2
  else
    if l8 ≤ (0 : Int32) then
      fX7_setPart_43 (fX7_setPart_23 a1 a2 a3 a4 a5 n) a1 a2 a3 a4 a5 (l6) (l7) (l8) (l9) (0) (l9) q1.2
    else
      fX7_setPart_43 (fX7_setPart_23 a1 a2 a3 a4 a5 n) a1 a2 a3 a4 a5 (l6) (l7) (l8) (l9) (1) (l9) q1.2
set_option maxRecDepth 100000 in
theorem tX7_setPart_23 (a1 : Int32) (a2 : Int32) (a3 : Int32) (a4 : Int32) (a5 : Int32) : ∀ (n : Nat) (l6 : Int32) (l7 : Int32) (l8 : Int32) (l9 : Int32) (M : zMM) (q : zMM), fX7_setPart_23 a1 a2 a3 a4 a5 n l6 l7 l8 l9 M = some q → zEV iX7_setPart 0 0 (zZO (none, q)) 23 [(0, .inr (.inr 158)), (1, .inl a1), (2, .inl a2), (3, .inl a3), (4, .inl a4), (5, .inl a5), (6, .inl l6), (7, .inl l7), (8, .inl l8), (9, .inl l9)] [] M := by
  intro n
  induction n with
  | zero =>
    intro l6 l7 l8 l9 M q h
    rw [fX7_setPart_23] at h
    cases h
  | succ n ih =>
    intro l6 l7 l8 l9 M q h
    rw [fX7_setPart_23] at h
    refine zEV.aload_n dX7_setPart_23 rfl 0 rfl ?_
    refine zEV.iload_n dX7_setPart_24 rfl 1 rfl ?_
    obtain ⟨q1, hq1, h⟩ := bind_yes h
    refine zEV.callVi (kX7_isLeft (a1)  M q1 hq1) (by decide) rfl rfl wm_RX7_141 wc_X7_isLeft hy_X7_isLeft rfl ⟨Nat.le_of_ble_eq_true rfl, Nat.le_of_ble_eq_true rfl⟩ rfl (Nat.le_of_ble_eq_true rfl) dX7_setPart_25 ?_
    refine zEV.if_eq 124 dX7_setPart_28 (by decide) (fun c2 => ?_) (fun c2 => ?_)
    · rw [if_pos c2] at h
      exact zEV.perm [0, 1, 2, 3, 4, 5, 6, 7, 8, 9] rfl (tX7_setPart_124 a1 a2 a3 a4 a5 (l6) (l7) (l8) (l9) q1.2 q h)
    · rw [if_neg c2] at h
      refine zEV.iload dX7_setPart_31 9 rfl ?_
      refine zEV.iload dX7_setPart_33 8 rfl ?_
      refine zEV.if_le 42 dX7_setPart_35 (by decide) (fun c3 => ?_) (fun c3 => ?_)
      · rw [if_pos c3] at h
        refine zEV.iconst (v := 0) dX7_setPart_42 rfl ?_
        exact zEV.perm [0, 1, 2, 3, 4, 5, 6, 7, 8, 9] rfl (tX7_setPart_43 (fX7_setPart_23 a1 a2 a3 a4 a5 n) a1 a2 a3 a4 a5 (fun l6 l7 l8 l9 M9 q9 h9 => ih l6 l7 l8 l9 M9 q9 h9) (l6) (l7) (l8) (l9) (0) (l9) q1.2 q h)
      · rw [if_neg c3] at h
        refine zEV.iconst (v := 1) dX7_setPart_38 rfl ?_
        refine zEV.goto 43 dX7_setPart_39 (by decide) ?_
        exact zEV.perm [0, 1, 2, 3, 4, 5, 6, 7, 8, 9] rfl (tX7_setPart_43 (fX7_setPart_23 a1 a2 a3 a4 a5 n) a1 a2 a3 a4 a5 (fun l6 l7 l8 l9 M9 q9 h9 => ih l6 l7 l8 l9 M9 q9 h9) (l6) (l7) (l8) (l9) (1) (l9) q1.2 q h)
def fX7_setPart (a1 : Int32) (a2 : Int32) (a3 : Int32) (a4 : Int32) (a5 : Int32) (M : zMM) : Option (zMM) :=
  if oob (a1) 3 then none else
  fX7_setPart_23 a1 a2 a3 a4 a5 zFU ((8 * (M.1 158 11))) ((M.1 165 (Int32.toNatClampNeg a1))) (0) (0) M
set_option maxRecDepth 100000 in
theorem tX7_setPart_0 (a1 : Int32) (a2 : Int32) (a3 : Int32) (a4 : Int32) (a5 : Int32) (M : zMM) (q : zMM) (h : fX7_setPart a1 a2 a3 a4 a5  M = some q) : zEV iX7_setPart 0 0 (zZO (none, q)) 0 [(0, .inr (.inr 158)), (1, .inl a1), (2, .inl a2), (3, .inl a3), (4, .inl a4), (5, .inl a5)] [] M := by
  unfold fX7_setPart at h
  refine zEV.bipush (v := 8) dX7_setPart_0 rfl ?_
  refine zEV.aload_n dX7_setPart_2 rfl 0 rfl ?_
  refine zEV.gfi rfl inz7 11 (by decide) wf_RX7_144 (by decide) rfl rfl dX7_setPart_3 ?_
  refine zEV.imul dX7_setPart_6 ?_
  refine zEV.istore dX7_setPart_7 (Nat.le_of_ble_eq_true rfl) rfl ?_
  refine zEV.aload_n dX7_setPart_9 rfl 1 rfl ?_
  refine zEV.gfr rfl inz7 13 (by decide) wf_RX7_30 (by decide) rfl rfl dX7_setPart_10 ?_
  refine zEV.iload_n dX7_setPart_13 rfl 2 rfl ?_
  obtain ⟨g1, h⟩ := ite_no h
  refine zEV.iald (by decide) rfl g1 dX7_setPart_14 ?_
  refine zEV.istore dX7_setPart_15 (Nat.le_of_ble_eq_true rfl) rfl ?_
  refine zEV.iconst (v := 0) dX7_setPart_17 rfl ?_
  refine zEV.istore dX7_setPart_18 (Nat.le_of_ble_eq_true rfl) rfl ?_
  refine zEV.iconst (v := 0) dX7_setPart_20 rfl ?_
  refine zEV.istore dX7_setPart_21 (Nat.le_of_ble_eq_true rfl) rfl ?_
  exact zEV.perm [4, 5, 6, 7, 8, 9, 3, 2, 1, 0] rfl (tX7_setPart_23 a1 a2 a3 a4 a5 zFU ((8 * (M.1 158 11))) ((M.1 165 (Int32.toNatClampNeg a1))) (0) (0) M q h)
theorem kX7_setPart (a1 : Int32) (a2 : Int32) (a3 : Int32) (a4 : Int32) (a5 : Int32) (M : zMM) (q : zMM) (h : fX7_setPart a1 a2 a3 a4 a5 M = some q) : zCN yX7_setPart iX7_setPart [.inr (.inr 158), .inl a1, .inl a2, .inl a3, .inl a4, .inl a5] M (none, q) :=
  zCN.of (by decide) rfl rfl (Nat.le_of_ble_eq_true rfl) (zEV.perm [0, 1, 2, 3, 4, 5] rfl (tX7_setPart_0 a1 a2 a3 a4 a5 M q h))
-- RingedPageModel.setLine
def fX7_setLine_209 (a1 : Int32) (a2 : Int32) (l4 : Int32) (l7 : Int32) (l8 : Int32) (l9 : Int32) (M : zMM) : Option (zMM) :=
  (fX7_setPart (0) (a1) (a2) (l9) (l8) M).bind fun q1 =>
  if l4 = (0 : Int32) then
    some q1
  else
    (fX7_setPart (2) (a1) (a2) ((q1.1 159 4)) (((l8 + l9) + l7)) q1).bind fun q3 =>
    some q3
set_option maxRecDepth 100000 in
theorem tX7_setLine_209 (a1 : Int32) (a2 : Int32) (l4 : Int32) (l7 : Int32) (l8 : Int32) (l9 : Int32) (M : zMM) (q : zMM) (h : fX7_setLine_209 a1 a2 l4 l7 l8 l9 M = some q) : zEV iX7_setLine 0 0 (zZO (none, q)) 209 [(0, .inr (.inr 158)), (1, .inl a1), (2, .inl a2), (4, .inl l4), (7, .inl l7), (8, .inl l8), (9, .inl l9)] [] M := by
  unfold fX7_setLine_209 at h
  refine zEV.aload_n dX7_setLine_209 rfl 0 rfl ?_
  refine zEV.iconst (v := 0) dX7_setLine_210 rfl ?_
  refine zEV.iload_n dX7_setLine_211 rfl 1 rfl ?_
  refine zEV.iload_n dX7_setLine_212 rfl 2 rfl ?_
  refine zEV.iload dX7_setLine_213 6 rfl ?_
  refine zEV.iload dX7_setLine_215 5 rfl ?_
  obtain ⟨q1, hq1, h⟩ := bind_yes h
  refine zEV.callVv (kX7_setPart (0) (a1) (a2) (l9) (l8)  M q1 hq1) (by decide) rfl rfl wm_RX7_150 wc_X7_setPart hy_X7_setPart rfl ⟨Nat.le_of_ble_eq_true rfl, Nat.le_of_ble_eq_true rfl⟩ rfl (Nat.le_of_ble_eq_true rfl) dX7_setLine_217 ?_
  refine zEV.iload dX7_setLine_220 3 rfl ?_
  refine zEV.if_eq 246 dX7_setLine_222 (by decide) (fun c2 => ?_) (fun c2 => ?_)
  · rw [if_pos c2] at h
    have h := Option.some.inj h
    subst h
    exact zEV.vret rfl dX7_setLine_246
  · rw [if_neg c2] at h
    refine zEV.aload_n dX7_setLine_225 rfl 0 rfl ?_
    refine zEV.iconst (v := 2) dX7_setLine_226 rfl ?_
    refine zEV.iload_n dX7_setLine_227 rfl 1 rfl ?_
    refine zEV.iload_n dX7_setLine_228 rfl 2 rfl ?_
    refine zEV.aload_n dX7_setLine_229 rfl 0 rfl ?_
    refine zEV.gfr rfl inz7 0 (by decide) wf_RX7_9 (by decide) rfl rfl dX7_setLine_230 ?_
    refine zEV.iconst (v := 4) dX7_setLine_233 rfl ?_
    refine zEV.ialdL (j := 4) (by decide) rfl (by decide) (by decide) dX7_setLine_234 ?_
    refine zEV.iload dX7_setLine_235 5 rfl ?_
    refine zEV.iload dX7_setLine_237 6 rfl ?_
    refine zEV.iadd dX7_setLine_239 ?_
    refine zEV.iload dX7_setLine_240 4 rfl ?_
    refine zEV.iadd dX7_setLine_242 ?_
    obtain ⟨q3, hq3, h⟩ := bind_yes h
    refine zEV.callVv (kX7_setPart (2) (a1) (a2) ((q1.1 159 4)) (((l8 + l9) + l7))  q1 q3 hq3) (by decide) rfl rfl wm_RX7_150 wc_X7_setPart hy_X7_setPart rfl ⟨Nat.le_of_ble_eq_true rfl, Nat.le_of_ble_eq_true rfl⟩ rfl (Nat.le_of_ble_eq_true rfl) dX7_setLine_243 ?_
    have h := Option.some.inj h
    subst h
    exact zEV.vret rfl dX7_setLine_246
def fX7_setLine_188 (a1 : Int32) (a2 : Int32) (l3 : Int32) (l4 : Int32) (l7 : Int32) (l8 : Int32) (s0 : Int32) (s1 : Int32) (M : zMM) : Option (zMM) :=
  if l3 = (0 : Int32) then
    fX7_setLine_209 a1 a2 (l4) (l7) (l8) ((s1 - s0)) M
  else
    (fX7_setPart (1) (a1) (a2) ((M.1 159 3)) (0) M).bind fun q2 =>
    fX7_setLine_209 a1 a2 (l4) (l7) (l8) ((s1 - s0)) q2
set_option maxRecDepth 100000 in
theorem tX7_setLine_188 (a1 : Int32) (a2 : Int32) (l3 : Int32) (l4 : Int32) (l7 : Int32) (l8 : Int32) (s0 : Int32) (s1 : Int32) (M : zMM) (q : zMM) (h : fX7_setLine_188 a1 a2 l3 l4 l7 l8 s0 s1 M = some q) : zEV iX7_setLine 0 0 (zZO (none, q)) 188 [(0, .inr (.inr 158)), (1, .inl a1), (2, .inl a2), (3, .inl l3), (4, .inl l4), (7, .inl l7), (8, .inl l8)] [.inl s0, .inl s1] M := by
  unfold fX7_setLine_188 at h
  refine zEV.isub dX7_setLine_188 ?_
  refine zEV.istore dX7_setLine_189 (Nat.le_of_ble_eq_true rfl) rfl ?_
  refine zEV.iload_n dX7_setLine_191 rfl 4 rfl ?_
  refine zEV.if_eq 209 dX7_setLine_192 (by decide) (fun c1 => ?_) (fun c1 => ?_)
  · rw [if_pos c1] at h
    exact zEV.perm [1, 2, 3, 5, 6, 7, 0] rfl (tX7_setLine_209 a1 a2 (l4) (l7) (l8) ((s1 - s0)) M q h)
  · rw [if_neg c1] at h
    refine zEV.aload_n dX7_setLine_195 rfl 1 rfl ?_
    refine zEV.iconst (v := 1) dX7_setLine_196 rfl ?_
    refine zEV.iload_n dX7_setLine_197 rfl 2 rfl ?_
    refine zEV.iload_n dX7_setLine_198 rfl 3 rfl ?_
    refine zEV.aload_n dX7_setLine_199 rfl 1 rfl ?_
    refine zEV.gfr rfl inz7 0 (by decide) wf_RX7_9 (by decide) rfl rfl dX7_setLine_200 ?_
    refine zEV.iconst (v := 3) dX7_setLine_203 rfl ?_
    refine zEV.ialdL (j := 3) (by decide) rfl (by decide) (by decide) dX7_setLine_204 ?_
    refine zEV.iconst (v := 0) dX7_setLine_205 rfl ?_
    obtain ⟨q2, hq2, h⟩ := bind_yes h
    refine zEV.callVv (kX7_setPart (1) (a1) (a2) ((M.1 159 3)) (0)  M q2 hq2) (by decide) rfl rfl wm_RX7_150 wc_X7_setPart hy_X7_setPart rfl ⟨Nat.le_of_ble_eq_true rfl, Nat.le_of_ble_eq_true rfl⟩ rfl (Nat.le_of_ble_eq_true rfl) dX7_setLine_206 ?_
    exact zEV.perm [1, 2, 3, 5, 6, 7, 0] rfl (tX7_setLine_209 a1 a2 (l4) (l7) (l8) ((s1 - s0)) q2 q h)
def fX7_setLine_163 (a1 : Int32) (a2 : Int32) (l3 : Int32) (l4 : Int32) (l6 : Int32) (l7 : Int32) (s0 : Int32) (M : zMM) : Option (zMM) :=
  if l4 = (0 : Int32) then
    fX7_setLine_188 a1 a2 (l3) (l4) (l7) (s0) (0) ((l6 - s0)) M
  else
    fX7_setLine_188 a1 a2 (l3) (l4) (l7) (s0) (((M.1 159 4) + l7)) ((l6 - s0)) M
set_option maxRecDepth 100000 in
theorem tX7_setLine_163 (a1 : Int32) (a2 : Int32) (l3 : Int32) (l4 : Int32) (l6 : Int32) (l7 : Int32) (s0 : Int32) (M : zMM) (q : zMM) (h : fX7_setLine_163 a1 a2 l3 l4 l6 l7 s0 M = some q) : zEV iX7_setLine 0 0 (zZO (none, q)) 163 [(0, .inr (.inr 158)), (1, .inl a1), (2, .inl a2), (3, .inl l3), (4, .inl l4), (6, .inl l6), (7, .inl l7)] [.inl s0] M := by
  unfold fX7_setLine_163 at h
  refine zEV.istore dX7_setLine_163 (Nat.le_of_ble_eq_true rfl) rfl ?_
  refine zEV.iload dX7_setLine_165 6 rfl ?_
  refine zEV.iload dX7_setLine_167 0 rfl ?_
  refine zEV.isub dX7_setLine_169 ?_
  refine zEV.iload dX7_setLine_170 5 rfl ?_
  refine zEV.if_eq 187 dX7_setLine_172 (by decide) (fun c1 => ?_) (fun c1 => ?_)
  · rw [if_pos c1] at h
    refine zEV.iconst (v := 0) dX7_setLine_187 rfl ?_
    exact zEV.perm [1, 2, 3, 4, 5, 7, 0] rfl (tX7_setLine_188 a1 a2 (l3) (l4) (l7) (s0) (0) ((l6 - s0)) M q h)
  · rw [if_neg c1] at h
    refine zEV.aload_n dX7_setLine_175 rfl 1 rfl ?_
    refine zEV.gfr rfl inz7 0 (by decide) wf_RX7_9 (by decide) rfl rfl dX7_setLine_176 ?_
    refine zEV.iconst (v := 4) dX7_setLine_179 rfl ?_
    refine zEV.ialdL (j := 4) (by decide) rfl (by decide) (by decide) dX7_setLine_180 ?_
    refine zEV.iload dX7_setLine_181 7 rfl ?_
    refine zEV.iadd dX7_setLine_183 ?_
    refine zEV.goto 188 dX7_setLine_184 (by decide) ?_
    exact zEV.perm [1, 2, 3, 4, 5, 7, 0] rfl (tX7_setLine_188 a1 a2 (l3) (l4) (l7) (s0) (((M.1 159 4) + l7)) ((l6 - s0)) M q h)
def fX7_setLine_142 (a1 : Int32) (a2 : Int32) (s0 : Int32) (s1 : Int32) (s2 : Int32) (s3 : Int32) (s4 : Int32) (M : zMM) : Option (zMM) :=
  (fX7_setPart (s4) (s3) (s2) (s1) (s0) M).bind fun q1 =>
  some q1
set_option maxRecDepth 100000 in
theorem tX7_setLine_142 (a1 : Int32) (a2 : Int32) (s0 : Int32) (s1 : Int32) (s2 : Int32) (s3 : Int32) (s4 : Int32) (M : zMM) (q : zMM) (h : fX7_setLine_142 a1 a2 s0 s1 s2 s3 s4 M = some q) : zEV iX7_setLine 0 0 (zZO (none, q)) 142 [] [.inl s0, .inl s1, .inl s2, .inl s3, .inl s4, .inr (.inr 158)] M := by
  unfold fX7_setLine_142 at h
  obtain ⟨q1, hq1, h⟩ := bind_yes h
  refine zEV.callVv (kX7_setPart (s4) (s3) (s2) (s1) (s0)  M q1 hq1) (by decide) rfl rfl wm_RX7_150 wc_X7_setPart hy_X7_setPart rfl ⟨Nat.le_of_ble_eq_true rfl, Nat.le_of_ble_eq_true rfl⟩ rfl (Nat.le_of_ble_eq_true rfl) dX7_setLine_142 ?_
  have h := Option.some.inj h
  subst h
  exact zEV.vret rfl dX7_setLine_145
def fX7_setLine_129 (a1 : Int32) (a2 : Int32) (l3 : Int32) (l7 : Int32) (l8 : Int32) (s0 : Int32) (s1 : Int32) (s2 : Int32) (s3 : Int32) (M : zMM) : Option (zMM) :=
  if l3 = (0 : Int32) then
    fX7_setLine_142 a1 a2 (0) (s0) (s1) (s2) (s3) M
  else
    fX7_setLine_142 a1 a2 ((l8 + l7)) (s0) (s1) (s2) (s3) M
set_option maxRecDepth 100000 in
theorem tX7_setLine_129 (a1 : Int32) (a2 : Int32) (l3 : Int32) (l7 : Int32) (l8 : Int32) (s0 : Int32) (s1 : Int32) (s2 : Int32) (s3 : Int32) (M : zMM) (q : zMM) (h : fX7_setLine_129 a1 a2 l3 l7 l8 s0 s1 s2 s3 M = some q) : zEV iX7_setLine 0 0 (zZO (none, q)) 129 [(3, .inl l3), (7, .inl l7), (8, .inl l8)] [.inl s0, .inl s1, .inl s2, .inl s3, .inr (.inr 158)] M := by
  unfold fX7_setLine_129 at h
  refine zEV.iload_n dX7_setLine_129 rfl 0 rfl ?_
  refine zEV.if_eq 141 dX7_setLine_130 (by decide) (fun c1 => ?_) (fun c1 => ?_)
  · rw [if_pos c1] at h
    refine zEV.iconst (v := 0) dX7_setLine_141 rfl ?_
    exact zEV.perm [] rfl (tX7_setLine_142 a1 a2 (0) (s0) (s1) (s2) (s3) M q h)
  · rw [if_neg c1] at h
    refine zEV.iload dX7_setLine_133 2 rfl ?_
    refine zEV.iload dX7_setLine_135 1 rfl ?_
    refine zEV.iadd dX7_setLine_137 ?_
    refine zEV.goto 142 dX7_setLine_138 (by decide) ?_
    exact zEV.perm [] rfl (tX7_setLine_142 a1 a2 ((l8 + l7)) (s0) (s1) (s2) (s3) M q h)
def fX7_setLine_103 (a1 : Int32) (a2 : Int32) (l3 : Int32) (l4 : Int32) (l6 : Int32) (l7 : Int32) (l8 : Int32) (M : zMM) : Option (zMM) :=
  if l4 = (0 : Int32) then
    some M
  else
    if l3 = (0 : Int32) then
      fX7_setLine_129 a1 a2 (l3) (l7) (l8) (l6) (a2) (a1) (2) M
    else
      fX7_setLine_129 a1 a2 (l3) (l7) (l8) (((l6 - l7) - l8)) (a2) (a1) (2) M
set_option maxRecDepth 100000 in
theorem tX7_setLine_103 (a1 : Int32) (a2 : Int32) (l3 : Int32) (l4 : Int32) (l6 : Int32) (l7 : Int32) (l8 : Int32) (M : zMM) (q : zMM) (h : fX7_setLine_103 a1 a2 l3 l4 l6 l7 l8 M = some q) : zEV iX7_setLine 0 0 (zZO (none, q)) 103 [(0, .inr (.inr 158)), (1, .inl a1), (2, .inl a2), (3, .inl l3), (4, .inl l4), (6, .inl l6), (7, .inl l7), (8, .inl l8)] [] M := by
  unfold fX7_setLine_103 at h
  refine zEV.iload dX7_setLine_103 4 rfl ?_
  refine zEV.if_eq 145 dX7_setLine_105 (by decide) (fun c1 => ?_) (fun c1 => ?_)
  · rw [if_pos c1] at h
    have h := Option.some.inj h
    subst h
    exact zEV.vret rfl dX7_setLine_145
  · rw [if_neg c1] at h
    refine zEV.aload_n dX7_setLine_108 rfl 0 rfl ?_
    refine zEV.iconst (v := 2) dX7_setLine_109 rfl ?_
    refine zEV.iload_n dX7_setLine_110 rfl 1 rfl ?_
    refine zEV.iload_n dX7_setLine_111 rfl 2 rfl ?_
    refine zEV.iload_n dX7_setLine_112 rfl 3 rfl ?_
    refine zEV.if_eq 127 dX7_setLine_113 (by decide) (fun c2 => ?_) (fun c2 => ?_)
    · rw [if_pos c2] at h
      refine zEV.iload dX7_setLine_127 5 rfl ?_
      exact zEV.perm [3, 6, 7] rfl (tX7_setLine_129 a1 a2 (l3) (l7) (l8) (l6) (a2) (a1) (2) M q h)
    · rw [if_neg c2] at h
      refine zEV.iload dX7_setLine_116 5 rfl ?_
      refine zEV.iload dX7_setLine_118 6 rfl ?_
      refine zEV.isub dX7_setLine_120 ?_
      refine zEV.iload dX7_setLine_121 7 rfl ?_
      refine zEV.isub dX7_setLine_123 ?_
      refine zEV.goto 129 dX7_setLine_124 (by decide) ?_
      exact zEV.perm [3, 6, 7] rfl (tX7_setLine_129 a1 a2 (l3) (l7) (l8) (((l6 - l7) - l8)) (a2) (a1) (2) M q h)
def fX7_setLine_99 (a1 : Int32) (a2 : Int32) (l3 : Int32) (l4 : Int32) (l6 : Int32) (l7 : Int32) (l8 : Int32) (s0 : Int32) (s1 : Int32) (s2 : Int32) (s3 : Int32) (M : zMM) : Option (zMM) :=
  (fX7_setPart (s3) (s2) (s1) (s0) (0) M).bind fun q1 =>
  fX7_setLine_103 a1 a2 (l3) (l4) (l6) (l7) (l8) q1
set_option maxRecDepth 100000 in
theorem tX7_setLine_99 (a1 : Int32) (a2 : Int32) (l3 : Int32) (l4 : Int32) (l6 : Int32) (l7 : Int32) (l8 : Int32) (s0 : Int32) (s1 : Int32) (s2 : Int32) (s3 : Int32) (M : zMM) (q : zMM) (h : fX7_setLine_99 a1 a2 l3 l4 l6 l7 l8 s0 s1 s2 s3 M = some q) : zEV iX7_setLine 0 0 (zZO (none, q)) 99 [(0, .inr (.inr 158)), (1, .inl a1), (2, .inl a2), (3, .inl l3), (4, .inl l4), (6, .inl l6), (7, .inl l7), (8, .inl l8)] [.inl s0, .inl s1, .inl s2, .inl s3, .inr (.inr 158)] M := by
  unfold fX7_setLine_99 at h
  refine zEV.iconst (v := 0) dX7_setLine_99 rfl ?_
  obtain ⟨q1, hq1, h⟩ := bind_yes h
  refine zEV.callVv (kX7_setPart (s3) (s2) (s1) (s0) (0)  M q1 hq1) (by decide) rfl rfl wm_RX7_150 wc_X7_setPart hy_X7_setPart rfl ⟨Nat.le_of_ble_eq_true rfl, Nat.le_of_ble_eq_true rfl⟩ rfl (Nat.le_of_ble_eq_true rfl) dX7_setLine_100 ?_
  exact zEV.perm [0, 1, 2, 3, 4, 5, 6, 7] rfl (tX7_setLine_103 a1 a2 (l3) (l4) (l6) (l7) (l8) q1 q h)
def fX7_setLine_45 (a1 : Int32) (a2 : Int32) (l3 : Int32) (l4 : Int32) (s0 : Int32) (M : zMM) : Option (zMM) :=
  if s0 = (0 : Int32) then
    if l3 = (0 : Int32) then
      fX7_setLine_103 a1 a2 (l3) (l4) ((M.1 159 0)) ((M.1 159 255)) ((((M.1 159 0) - (M.1 159 255)) / 2)) M
    else
      if l4 = (0 : Int32) then
        fX7_setLine_99 a1 a2 (l3) (l4) ((M.1 159 0)) ((M.1 159 255)) ((((M.1 159 0) - (M.1 159 255)) / 2)) ((M.1 159 0)) (a2) (a1) (1) M
      else
        fX7_setLine_99 a1 a2 (l3) (l4) ((M.1 159 0)) ((M.1 159 255)) ((((M.1 159 0) - (M.1 159 255)) / 2)) ((((M.1 159 0) - (M.1 159 255)) / 2)) (a2) (a1) (1) M
  else
    if l3 = (0 : Int32) then
      fX7_setLine_163 a1 a2 (l3) (l4) ((M.1 159 0)) ((M.1 159 255)) (0) M
    else
      fX7_setLine_163 a1 a2 (l3) (l4) ((M.1 159 0)) ((M.1 159 255)) (((M.1 159 3) + (M.1 159 255))) M
set_option maxRecDepth 100000 in
theorem tX7_setLine_45 (a1 : Int32) (a2 : Int32) (l3 : Int32) (l4 : Int32) (s0 : Int32) (M : zMM) (q : zMM) (h : fX7_setLine_45 a1 a2 l3 l4 s0 M = some q) : zEV iX7_setLine 0 0 (zZO (none, q)) 45 [(0, .inr (.inr 158)), (1, .inl a1), (2, .inl a2), (3, .inl l3), (4, .inl l4)] [.inl s0] M := by
  unfold fX7_setLine_45 at h
  refine zEV.istore dX7_setLine_45 (Nat.le_of_ble_eq_true rfl) rfl ?_
  refine zEV.aload_n dX7_setLine_47 rfl 1 rfl ?_
  refine zEV.gfr rfl inz7 0 (by decide) wf_RX7_9 (by decide) rfl rfl dX7_setLine_48 ?_
  refine zEV.iconst (v := 0) dX7_setLine_51 rfl ?_
  refine zEV.ialdL (j := 0) (by decide) rfl (by decide) (by decide) dX7_setLine_52 ?_
  refine zEV.istore dX7_setLine_53 (Nat.le_of_ble_eq_true rfl) rfl ?_
  refine zEV.aload_n dX7_setLine_55 rfl 2 rfl ?_
  refine zEV.gfr rfl inz7 0 (by decide) wf_RX7_9 (by decide) rfl rfl dX7_setLine_56 ?_
  refine zEV.sipush (v := 255) dX7_setLine_59 rfl ?_
  refine zEV.ialdL (j := 255) (by decide) rfl (by decide) (by decide) dX7_setLine_62 ?_
  refine zEV.istore dX7_setLine_63 (Nat.le_of_ble_eq_true rfl) rfl ?_
  refine zEV.iload dX7_setLine_65 2 rfl ?_
  refine zEV.if_ne 146 dX7_setLine_67 (by decide) (fun c1 => ?_) (fun c1 => ?_)
  · rw [if_neg c1] at h
    refine zEV.iload_n dX7_setLine_146 rfl 6 rfl ?_
    refine zEV.if_eq 162 dX7_setLine_147 (by decide) (fun c2 => ?_) (fun c2 => ?_)
    · rw [if_pos c2] at h
      refine zEV.iconst (v := 0) dX7_setLine_162 rfl ?_
      exact zEV.perm [3, 4, 5, 6, 7, 1, 0] rfl (tX7_setLine_163 a1 a2 (l3) (l4) ((M.1 159 0)) ((M.1 159 255)) (0) M q h)
    · rw [if_neg c2] at h
      refine zEV.aload_n dX7_setLine_150 rfl 3 rfl ?_
      refine zEV.gfr rfl inz7 0 (by decide) wf_RX7_9 (by decide) rfl rfl dX7_setLine_151 ?_
      refine zEV.iconst (v := 3) dX7_setLine_154 rfl ?_
      refine zEV.ialdL (j := 3) (by decide) rfl (by decide) (by decide) dX7_setLine_155 ?_
      refine zEV.iload dX7_setLine_156 0 rfl ?_
      refine zEV.iadd dX7_setLine_158 ?_
      refine zEV.goto 163 dX7_setLine_159 (by decide) ?_
      exact zEV.perm [3, 4, 5, 6, 7, 1, 0] rfl (tX7_setLine_163 a1 a2 (l3) (l4) ((M.1 159 0)) ((M.1 159 255)) (((M.1 159 3) + (M.1 159 255))) M q h)
  · rw [if_pos c1] at h
    refine zEV.iload dX7_setLine_70 1 rfl ?_
    refine zEV.iload dX7_setLine_72 0 rfl ?_
    refine zEV.isub dX7_setLine_74 ?_
    refine zEV.iconst (v := 2) dX7_setLine_75 rfl ?_
    refine zEV.idiv dX7_setLine_76 (by decide) ?_
    refine zEV.istore dX7_setLine_77 (Nat.le_of_ble_eq_true rfl) rfl ?_
    refine zEV.iload_n dX7_setLine_79 rfl 7 rfl ?_
    refine zEV.if_eq 103 dX7_setLine_80 (by decide) (fun c3 => ?_) (fun c3 => ?_)
    · rw [if_pos c3] at h
      exact zEV.perm [4, 5, 6, 7, 8, 2, 1, 0] rfl (tX7_setLine_103 a1 a2 (l3) (l4) ((M.1 159 0)) ((M.1 159 255)) ((((M.1 159 0) - (M.1 159 255)) / 2)) M q h)
    · rw [if_neg c3] at h
      refine zEV.aload_n dX7_setLine_83 rfl 4 rfl ?_
      refine zEV.iconst (v := 1) dX7_setLine_84 rfl ?_
      refine zEV.iload_n dX7_setLine_85 rfl 5 rfl ?_
      refine zEV.iload_n dX7_setLine_86 rfl 6 rfl ?_
      refine zEV.iload dX7_setLine_87 8 rfl ?_
      refine zEV.if_eq 97 dX7_setLine_89 (by decide) (fun c4 => ?_) (fun c4 => ?_)
      · rw [if_pos c4] at h
        refine zEV.iload dX7_setLine_97 2 rfl ?_
        exact zEV.perm [4, 5, 6, 7, 8, 2, 1, 0] rfl (tX7_setLine_99 a1 a2 (l3) (l4) ((M.1 159 0)) ((M.1 159 255)) ((((M.1 159 0) - (M.1 159 255)) / 2)) ((M.1 159 0)) (a2) (a1) (1) M q h)
      · rw [if_neg c4] at h
        refine zEV.iload dX7_setLine_92 0 rfl ?_
        refine zEV.goto 99 dX7_setLine_94 (by decide) ?_
        exact zEV.perm [4, 5, 6, 7, 8, 2, 1, 0] rfl (tX7_setLine_99 a1 a2 (l3) (l4) ((M.1 159 0)) ((M.1 159 255)) ((((M.1 159 0) - (M.1 159 255)) / 2)) ((((M.1 159 0) - (M.1 159 255)) / 2)) (a2) (a1) (1) M q h)
def fX7_setLine_44 (a1 : Int32) (a2 : Int32) (l3 : Int32) (l4 : Int32) (M : zMM) : Option (zMM) :=
  fX7_setLine_45 a1 a2 (l3) (l4) (0) M
set_option maxRecDepth 100000 in
theorem tX7_setLine_44 (a1 : Int32) (a2 : Int32) (l3 : Int32) (l4 : Int32) (M : zMM) (q : zMM) (h : fX7_setLine_44 a1 a2 l3 l4 M = some q) : zEV iX7_setLine 0 0 (zZO (none, q)) 44 [(0, .inr (.inr 158)), (1, .inl a1), (2, .inl a2), (3, .inl l3), (4, .inl l4)] [] M := by
  unfold fX7_setLine_44 at h
  refine zEV.iconst (v := 0) dX7_setLine_44 rfl ?_
  exact zEV.perm [0, 1, 2, 3, 4] rfl (tX7_setLine_45 a1 a2 (l3) (l4) (0) M q h)
def fX7_setLine_40 (a1 : Int32) (a2 : Int32) (l3 : Int32) (l4 : Int32) (M : zMM) : Option (zMM) :=
  fX7_setLine_45 a1 a2 (l3) (l4) (1) M
set_option maxRecDepth 100000 in
theorem tX7_setLine_40 (a1 : Int32) (a2 : Int32) (l3 : Int32) (l4 : Int32) (M : zMM) (q : zMM) (h : fX7_setLine_40 a1 a2 l3 l4 M = some q) : zEV iX7_setLine 0 0 (zZO (none, q)) 40 [(0, .inr (.inr 158)), (1, .inl a1), (2, .inl a2), (3, .inl l3), (4, .inl l4)] [] M := by
  unfold fX7_setLine_40 at h
  refine zEV.iconst (v := 1) dX7_setLine_40 rfl ?_
  refine zEV.goto 45 dX7_setLine_41 (by decide) ?_
  exact zEV.perm [0, 1, 2, 3, 4] rfl (tX7_setLine_45 a1 a2 (l3) (l4) (1) M q h)
def fX7_setLine (a1 : Int32) (a2 : Int32) (M : zMM) : Option (zMM) :=
  (fX7_isLeft (1) M).bind fun q1 =>
  (fX7_isLeft (2) q1.2).bind fun q2 =>
  (fX7_isLeft (0) q2.2).bind fun q3 =>
  if q3.1 = (0 : Int32) then
    fX7_setLine_44 a1 a2 (q1.1) (q2.1) q3.2
  else
    if (q3.2.1 159 2) ≤ a2 then
      fX7_setLine_40 a1 a2 (q1.1) (q2.1) q3.2
    else
      if q1.1 = (0 : Int32) then
        if q2.1 = (0 : Int32) then
          fX7_setLine_40 a1 a2 (q1.1) (q2.1) q3.2
        else
          fX7_setLine_44 a1 a2 (q1.1) (q2.1) q3.2
      else
        fX7_setLine_44 a1 a2 (q1.1) (q2.1) q3.2
set_option maxRecDepth 100000 in
theorem tX7_setLine_0 (a1 : Int32) (a2 : Int32) (M : zMM) (q : zMM) (h : fX7_setLine a1 a2  M = some q) : zEV iX7_setLine 0 0 (zZO (none, q)) 0 [(0, .inr (.inr 158)), (1, .inl a1), (2, .inl a2)] [] M := by
  unfold fX7_setLine at h
  refine zEV.aload_n dX7_setLine_0 rfl 0 rfl ?_
  refine zEV.iconst (v := 1) dX7_setLine_1 rfl ?_
  obtain ⟨q1, hq1, h⟩ := bind_yes h
  refine zEV.callVi (kX7_isLeft (1)  M q1 hq1) (by decide) rfl rfl wm_RX7_141 wc_X7_isLeft hy_X7_isLeft rfl ⟨Nat.le_of_ble_eq_true rfl, Nat.le_of_ble_eq_true rfl⟩ rfl (Nat.le_of_ble_eq_true rfl) dX7_setLine_2 ?_
  refine zEV.istore_n dX7_setLine_5 rfl (Nat.le_of_ble_eq_true rfl) rfl ?_
  refine zEV.aload_n dX7_setLine_6 rfl 1 rfl ?_
  refine zEV.iconst (v := 2) dX7_setLine_7 rfl ?_
  obtain ⟨q2, hq2, h⟩ := bind_yes h
  refine zEV.callVi (kX7_isLeft (2)  q1.2 q2 hq2) (by decide) rfl rfl wm_RX7_141 wc_X7_isLeft hy_X7_isLeft rfl ⟨Nat.le_of_ble_eq_true rfl, Nat.le_of_ble_eq_true rfl⟩ rfl (Nat.le_of_ble_eq_true rfl) dX7_setLine_8 ?_
  refine zEV.istore dX7_setLine_11 (Nat.le_of_ble_eq_true rfl) rfl ?_
  refine zEV.aload_n dX7_setLine_13 rfl 2 rfl ?_
  refine zEV.iconst (v := 0) dX7_setLine_14 rfl ?_
  obtain ⟨q3, hq3, h⟩ := bind_yes h
  refine zEV.callVi (kX7_isLeft (0)  q2.2 q3 hq3) (by decide) rfl rfl wm_RX7_141 wc_X7_isLeft hy_X7_isLeft rfl ⟨Nat.le_of_ble_eq_true rfl, Nat.le_of_ble_eq_true rfl⟩ rfl (Nat.le_of_ble_eq_true rfl) dX7_setLine_15 ?_
  refine zEV.if_eq 44 dX7_setLine_18 (by decide) (fun c4 => ?_) (fun c4 => ?_)
  · rw [if_pos c4] at h
    exact zEV.perm [2, 3, 4, 1, 0] rfl (tX7_setLine_44 a1 a2 (q1.1) (q2.1) q3.2 q h)
  · rw [if_neg c4] at h
    refine zEV.iload_n dX7_setLine_21 rfl 4 rfl ?_
    refine zEV.aload_n dX7_setLine_22 rfl 2 rfl ?_
    refine zEV.gfr rfl inz7 0 (by decide) wf_RX7_9 (by decide) rfl rfl dX7_setLine_23 ?_
    refine zEV.iconst (v := 2) dX7_setLine_26 rfl ?_
    refine zEV.ialdL (j := 2) (by decide) rfl (by decide) (by decide) dX7_setLine_27 ?_
    refine zEV.icmp_ge 40 dX7_setLine_28 (by decide) (fun c5 => ?_) (fun c5 => ?_)
    · rw [if_pos c5] at h
      exact zEV.perm [2, 3, 4, 1, 0] rfl (tX7_setLine_40 a1 a2 (q1.1) (q2.1) q3.2 q h)
    · rw [if_neg c5] at h
      refine zEV.iload_n dX7_setLine_31 rfl 1 rfl ?_
      refine zEV.if_ne 44 dX7_setLine_32 (by decide) (fun c6 => ?_) (fun c6 => ?_)
      · rw [if_neg c6] at h
        exact zEV.perm [2, 3, 4, 1, 0] rfl (tX7_setLine_44 a1 a2 (q1.1) (q2.1) q3.2 q h)
      · rw [if_pos c6] at h
        refine zEV.iload dX7_setLine_35 0 rfl ?_
        refine zEV.if_ne 44 dX7_setLine_37 (by decide) (fun c7 => ?_) (fun c7 => ?_)
        · rw [if_neg c7] at h
          exact zEV.perm [2, 3, 4, 1, 0] rfl (tX7_setLine_44 a1 a2 (q1.1) (q2.1) q3.2 q h)
        · rw [if_pos c7] at h
          exact zEV.perm [2, 3, 4, 1, 0] rfl (tX7_setLine_40 a1 a2 (q1.1) (q2.1) q3.2 q h)
theorem kX7_setLine (a1 : Int32) (a2 : Int32) (M : zMM) (q : zMM) (h : fX7_setLine a1 a2 M = some q) : zCN yX7_setLine iX7_setLine [.inr (.inr 158), .inl a1, .inl a2] M (none, q) :=
  zCN.of (by decide) rfl rfl (Nat.le_of_ble_eq_true rfl) (zEV.perm [0, 1, 2] rfl (tX7_setLine_0 a1 a2 M q h))
-- RingedPageModel.set
def fX7_set_71 (K30 : zMM → Option (zMM)) (M : zMM) : Option (zMM) :=
  K30 (wr M 158 14 ((M.1 158 14) + 1))
set_option maxRecDepth 100000 in
theorem tX7_set_71 (K30 : zMM → Option (zMM)) (hK30 : ∀ (M : zMM) (q : zMM), K30  M = some q → zEV iX7_set 0 0 (zZO (none, q)) 30 [(0, .inr (.inr 158))] [] M) (M : zMM) (q : zMM) (h : fX7_set_71 K30  M = some q) : zEV iX7_set 0 0 (zZO (none, q)) 71 [(0, .inr (.inr 158))] [] M := by
  unfold fX7_set_71 at h
  refine zEV.aload_n dX7_set_71 rfl 0 rfl ?_
  refine zEV.dup dX7_set_72 rfl ?_
  refine zEV.gfi rfl inz7 14 (by decide) wf_RX7_154 (by decide) rfl rfl dX7_set_73 ?_
  refine zEV.iconst (v := 1) dX7_set_76 rfl ?_
  refine zEV.iadd dX7_set_77 ?_
  refine zEV.pfi rfl inz7 tyX7 tyX7_ok nmX7 14 (by decide) wf_RX7_154 rfl (by decide +kernel) (by decide) rfl rfl dX7_set_78 ?_
  refine zEV.goto 30 dX7_set_81 (by decide) ?_
  exact zEV.perm [0] rfl (hK30 (wr M 158 14 ((M.1 158 14) + 1)) q h)
def fX7_set_39 (K30 : zMM → Option (zMM)) : Nat → Int32 → zMM → Option (zMM)
  | 0, _, _ => none
  | n + 1, l1, M =>
  if (M.1 159 1) ≤ l1 then
    fX7_set_71 K30 M
  else
    (fX7_areLeft  M).bind fun q2 =>
    if q2.1 = (0 : Int32) then
      fX7_set_71 K30 q2.2
    else
      (fX7_setLine ((q2.2.1 158 14)) (l1) q2.2).bind fun q4 =>
      fX7_set_39 K30 n ((l1 + 1)) q4
set_option maxRecDepth 100000 in
theorem tX7_set_39 (K30 : zMM → Option (zMM)) (hK30 : ∀ (M : zMM) (q : zMM), K30  M = some q → zEV iX7_set 0 0 (zZO (none, q)) 30 [(0, .inr (.inr 158))] [] M) : ∀ (n : Nat) (l1 : Int32) (M : zMM) (q : zMM), fX7_set_39 K30 n l1 M = some q → zEV iX7_set 0 0 (zZO (none, q)) 39 [(0, .inr (.inr 158)), (1, .inl l1)] [] M := by
  intro n
  induction n with
  | zero =>
    intro l1 M q h
    rw [fX7_set_39] at h
    cases h
  | succ n ih =>
    intro l1 M q h
    rw [fX7_set_39] at h
    refine zEV.iload_n dX7_set_39 rfl 1 rfl ?_
    refine zEV.aload_n dX7_set_40 rfl 0 rfl ?_
    refine zEV.gfr rfl inz7 0 (by decide) wf_RX7_9 (by decide) rfl rfl dX7_set_41 ?_
    refine zEV.iconst (v := 1) dX7_set_44 rfl ?_
    refine zEV.ialdL (j := 1) (by decide) rfl (by decide) (by decide) dX7_set_45 ?_
    refine zEV.icmp_ge 71 dX7_set_46 (by decide) (fun c1 => ?_) (fun c1 => ?_)
    · rw [if_pos c1] at h
      exact zEV.perm [0] rfl (tX7_set_71 K30 hK30 M q h)
    · rw [if_neg c1] at h
      refine zEV.aload_n dX7_set_49 rfl 0 rfl ?_
      obtain ⟨q2, hq2, h⟩ := bind_yes h
      refine zEV.callVi (kX7_areLeft   M q2 hq2) (by decide) rfl rfl wm_RX7_157 wc_X7_areLeft hy_X7_areLeft rfl ⟨Nat.le_of_ble_eq_true rfl, Nat.le_of_ble_eq_true rfl⟩ rfl (Nat.le_of_ble_eq_true rfl) dX7_set_50 ?_
      refine zEV.if_eq 71 dX7_set_53 (by decide) (fun c3 => ?_) (fun c3 => ?_)
      · rw [if_pos c3] at h
        exact zEV.perm [0] rfl (tX7_set_71 K30 hK30 q2.2 q h)
      · rw [if_neg c3] at h
        refine zEV.aload_n dX7_set_56 rfl 0 rfl ?_
        refine zEV.aload_n dX7_set_57 rfl 0 rfl ?_
        refine zEV.gfi rfl inz7 14 (by decide) wf_RX7_154 (by decide) rfl rfl dX7_set_58 ?_
        refine zEV.iload_n dX7_set_61 rfl 1 rfl ?_
        obtain ⟨q4, hq4, h⟩ := bind_yes h
        refine zEV.callVv (kX7_setLine ((q2.2.1 158 14)) (l1)  q2.2 q4 hq4) (by decide) rfl rfl wm_RX7_160 wc_X7_setLine hy_X7_setLine rfl ⟨Nat.le_of_ble_eq_true rfl, Nat.le_of_ble_eq_true rfl⟩ rfl (Nat.le_of_ble_eq_true rfl) dX7_set_62 ?_
        refine zEV.iinc (v := (l1 + 1)) dX7_set_65 1 rfl rfl (Nat.le_of_ble_eq_true rfl) rfl ?_
        refine zEV.goto 39 dX7_set_68 (by decide) ?_
        exact zEV.perm [1, 0] rfl (ih ((l1 + 1)) q4 q h)
def fX7_set_30 : Nat → zMM → Option (zMM)
  | 0, _ => none
  | n + 1, M =>
  (fX7_areLeft  M).bind fun q1 =>
  if q1.1 = (0 : Int32) then
    some q1.2
  else
    fX7_set_39 (fX7_set_30 n) zFU (0) q1.2
set_option maxRecDepth 100000 in
theorem tX7_set_30 : ∀ (n : Nat) (M : zMM) (q : zMM), fX7_set_30 n  M = some q → zEV iX7_set 0 0 (zZO (none, q)) 30 [(0, .inr (.inr 158))] [] M := by
  intro n
  induction n with
  | zero =>
    intro  M q h
    rw [fX7_set_30] at h
    cases h
  | succ n ih =>
    intro  M q h
    rw [fX7_set_30] at h
    refine zEV.aload_n dX7_set_30 rfl 0 rfl ?_
    obtain ⟨q1, hq1, h⟩ := bind_yes h
    refine zEV.callVi (kX7_areLeft   M q1 hq1) (by decide) rfl rfl wm_RX7_157 wc_X7_areLeft hy_X7_areLeft rfl ⟨Nat.le_of_ble_eq_true rfl, Nat.le_of_ble_eq_true rfl⟩ rfl (Nat.le_of_ble_eq_true rfl) dX7_set_31 ?_
    refine zEV.if_eq 84 dX7_set_34 (by decide) (fun c2 => ?_) (fun c2 => ?_)
    · rw [if_pos c2] at h
      have h := Option.some.inj h
      subst h
      exact zEV.vret rfl dX7_set_84
    · rw [if_neg c2] at h
      refine zEV.iconst (v := 0) dX7_set_37 rfl ?_
      refine zEV.istore_n dX7_set_38 rfl (Nat.le_of_ble_eq_true rfl) rfl ?_
      exact zEV.perm [1, 0] rfl (tX7_set_39 (fX7_set_30 n) (fun M9 q9 h9 => ih M9 q9 h9) zFU (0) q1.2 q h)
def fX7_set_12 : Nat → Int32 → zMM → Option (zMM)
  | 0, _, _ => none
  | n + 1, l1, M =>
  if (3 : Int32) ≤ l1 then
    fX7_set_30 zFU M
  else
    if oob (l1) 3 then none else
    fX7_set_12 n ((l1 + 1)) (wr M 165 (Int32.toNatClampNeg l1) 0)
set_option maxRecDepth 100000 in
theorem tX7_set_12 : ∀ (n : Nat) (l1 : Int32) (M : zMM) (q : zMM), fX7_set_12 n l1 M = some q → zEV iX7_set 0 0 (zZO (none, q)) 12 [(0, .inr (.inr 158)), (1, .inl l1)] [] M := by
  intro n
  induction n with
  | zero =>
    intro l1 M q h
    rw [fX7_set_12] at h
    cases h
  | succ n ih =>
    intro l1 M q h
    rw [fX7_set_12] at h
    refine zEV.iload_n dX7_set_12 rfl 1 rfl ?_
    refine zEV.iconst (v := 3) dX7_set_13 rfl ?_
    refine zEV.icmp_ge 30 dX7_set_14 (by decide) (fun c1 => ?_) (fun c1 => ?_)
    · rw [if_pos c1] at h
      exact zEV.perm [0] rfl (tX7_set_30 zFU M q h)
    · rw [if_neg c1] at h
      refine zEV.aload_n dX7_set_17 rfl 0 rfl ?_
      refine zEV.gfr rfl inz7 13 (by decide) wf_RX7_30 (by decide) rfl rfl dX7_set_18 ?_
      refine zEV.iload_n dX7_set_21 rfl 1 rfl ?_
      refine zEV.iconst (v := 0) dX7_set_22 rfl ?_
      obtain ⟨g2, h⟩ := ite_no h
      refine zEV.iast (by decide) rfl g2 dX7_set_23 ?_
      refine zEV.iinc (v := (l1 + 1)) dX7_set_24 1 rfl rfl (Nat.le_of_ble_eq_true rfl) rfl ?_
      refine zEV.goto 12 dX7_set_27 (by decide) ?_
      exact zEV.perm [1, 0] rfl (ih ((l1 + 1)) (wr M 165 (Int32.toNatClampNeg l1) 0) q h)
def fX7_set (M : zMM) : Option (zMM) :=
  fX7_set_12 zFU (0) (wr (wr M 158 11 0) 158 14 0)
set_option maxRecDepth 100000 in
theorem tX7_set_0 (M : zMM) (q : zMM) (h : fX7_set  M = some q) : zEV iX7_set 0 0 (zZO (none, q)) 0 [(0, .inr (.inr 158))] [] M := by
  unfold fX7_set at h
  refine zEV.aload_n dX7_set_0 rfl 0 rfl ?_
  refine zEV.iconst (v := 0) dX7_set_1 rfl ?_
  refine zEV.pfi rfl inz7 tyX7 tyX7_ok nmX7 11 (by decide) wf_RX7_144 rfl (by decide +kernel) (by decide) rfl rfl dX7_set_2 ?_
  refine zEV.aload_n dX7_set_5 rfl 0 rfl ?_
  refine zEV.iconst (v := 0) dX7_set_6 rfl ?_
  refine zEV.pfi rfl inz7 tyX7 tyX7_ok nmX7 14 (by decide) wf_RX7_154 rfl (by decide +kernel) (by decide) rfl rfl dX7_set_7 ?_
  refine zEV.iconst (v := 0) dX7_set_10 rfl ?_
  refine zEV.istore_n dX7_set_11 rfl (Nat.le_of_ble_eq_true rfl) rfl ?_
  exact zEV.perm [1, 0] rfl (tX7_set_12 zFU (0) (wr (wr M 158 11 0) 158 14 0) q h)
theorem kX7_set (M : zMM) (q : zMM) (h : fX7_set M = some q) : zCN yX7_set iX7_set [.inr (.inr 158)] M (none, q) :=
  zCN.of (by decide) rfl rfl (Nat.le_of_ble_eq_true rfl) (zEV.perm [0] rfl (tX7_set_0 M q h))
-- RingedPageModel.partAt
def fX7_partAt_61 (K3 : Int32 → zMM → Option (Int32 × zMM)) (a1 : Int32) (a2 : Int32) (a3 : Int32) (l4 : Int32) (M : zMM) : Option (Int32 × zMM) :=
  K3 ((l4 + 1)) M
set_option maxRecDepth 100000 in
theorem tX7_partAt_61 (K3 : Int32 → zMM → Option (Int32 × zMM)) (a1 : Int32) (a2 : Int32) (a3 : Int32) (hK3 : ∀ (l4 : Int32) (M : zMM) (q : Int32 × zMM), K3 l4 M = some q → zEV iX7_partAt 0 0 (zZO (some (.inl q.1), q.2)) 3 [(0, .inr (.inr 158)), (1, .inl a1), (2, .inl a2), (3, .inl a3), (4, .inl l4)] [] M) (l4 : Int32) (M : zMM) (q : Int32 × zMM) (h : fX7_partAt_61 K3 a1 a2 a3 l4 M = some q) : zEV iX7_partAt 0 0 (zZO (some (.inl q.1), q.2)) 61 [(0, .inr (.inr 158)), (1, .inl a1), (2, .inl a2), (3, .inl a3), (4, .inl l4)] [] M := by
  unfold fX7_partAt_61 at h
  refine zEV.iinc (v := (l4 + 1)) dX7_partAt_61 4 rfl rfl (Nat.le_of_ble_eq_true rfl) rfl ?_
  refine zEV.goto 3 dX7_partAt_64 (by decide) ?_
  exact zEV.perm [1, 2, 3, 4, 0] rfl (hK3 ((l4 + 1)) M q h)
def fX7_partAt_3 (a1 : Int32) (a2 : Int32) (a3 : Int32) : Nat → Int32 → zMM → Option (Int32 × zMM)
  | 0, _, _ => none
  | n + 1, l4, M =>
  if (M.1 158 11) ≤ l4 then
    some ((-1), M)
  else
    if oob ((8 * l4)) 1680 then none else
    if (M.1 163 (Int32.toNatClampNeg (8 * l4))) = a3 then
      if oob (((8 * l4) + 1)) 1680 then none else
      if (M.1 163 (Int32.toNatClampNeg ((8 * l4) + 1))) = a1 then
        if oob (((8 * l4) + 2)) 1680 then none else
        if (M.1 163 (Int32.toNatClampNeg ((8 * l4) + 2))) = a2 then
          some (l4, M)
        else
          fX7_partAt_61 (fX7_partAt_3 a1 a2 a3 n) a1 a2 a3 (l4) M
      else
        fX7_partAt_61 (fX7_partAt_3 a1 a2 a3 n) a1 a2 a3 (l4) M
    else
      fX7_partAt_61 (fX7_partAt_3 a1 a2 a3 n) a1 a2 a3 (l4) M
set_option maxRecDepth 100000 in
theorem tX7_partAt_3 (a1 : Int32) (a2 : Int32) (a3 : Int32) : ∀ (n : Nat) (l4 : Int32) (M : zMM) (q : Int32 × zMM), fX7_partAt_3 a1 a2 a3 n l4 M = some q → zEV iX7_partAt 0 0 (zZO (some (.inl q.1), q.2)) 3 [(0, .inr (.inr 158)), (1, .inl a1), (2, .inl a2), (3, .inl a3), (4, .inl l4)] [] M := by
  intro n
  induction n with
  | zero =>
    intro l4 M q h
    rw [fX7_partAt_3] at h
    cases h
  | succ n ih =>
    intro l4 M q h
    rw [fX7_partAt_3] at h
    refine zEV.iload dX7_partAt_3 4 rfl ?_
    refine zEV.aload_n dX7_partAt_5 rfl 0 rfl ?_
    refine zEV.gfi rfl inz7 11 (by decide) wf_RX7_144 (by decide) rfl rfl dX7_partAt_6 ?_
    refine zEV.icmp_ge 67 dX7_partAt_9 (by decide) (fun c1 => ?_) (fun c1 => ?_)
    · rw [if_pos c1] at h
      refine zEV.iconst (v := (-1)) dX7_partAt_67 rfl ?_
      have h := Option.some.inj h
      subst h
      exact zEV.iret rfl dX7_partAt_68
    · rw [if_neg c1] at h
      refine zEV.aload_n dX7_partAt_12 rfl 0 rfl ?_
      refine zEV.gfr rfl inz7 10 (by decide) wf_RX7_24 (by decide) rfl rfl dX7_partAt_13 ?_
      refine zEV.bipush (v := 8) dX7_partAt_16 rfl ?_
      refine zEV.iload dX7_partAt_18 4 rfl ?_
      refine zEV.imul dX7_partAt_20 ?_
      obtain ⟨g2, h⟩ := ite_no h
      refine zEV.iald (by decide) rfl g2 dX7_partAt_21 ?_
      refine zEV.iload_n dX7_partAt_22 rfl 3 rfl ?_
      refine zEV.icmp_ne 61 dX7_partAt_23 (by decide) (fun c3 => ?_) (fun c3 => ?_)
      · rw [if_neg c3] at h
        exact zEV.perm [0, 1, 2, 3, 4] rfl (tX7_partAt_61 (fX7_partAt_3 a1 a2 a3 n) a1 a2 a3 (fun l4 M9 q9 h9 => ih l4 M9 q9 h9) (l4) M q h)
      · rw [if_pos c3] at h
        refine zEV.aload_n dX7_partAt_26 rfl 0 rfl ?_
        refine zEV.gfr rfl inz7 10 (by decide) wf_RX7_24 (by decide) rfl rfl dX7_partAt_27 ?_
        refine zEV.bipush (v := 8) dX7_partAt_30 rfl ?_
        refine zEV.iload dX7_partAt_32 4 rfl ?_
        refine zEV.imul dX7_partAt_34 ?_
        refine zEV.iconst (v := 1) dX7_partAt_35 rfl ?_
        refine zEV.iadd dX7_partAt_36 ?_
        obtain ⟨g4, h⟩ := ite_no h
        refine zEV.iald (by decide) rfl g4 dX7_partAt_37 ?_
        refine zEV.iload_n dX7_partAt_38 rfl 1 rfl ?_
        refine zEV.icmp_ne 61 dX7_partAt_39 (by decide) (fun c5 => ?_) (fun c5 => ?_)
        · rw [if_neg c5] at h
          exact zEV.perm [0, 1, 2, 3, 4] rfl (tX7_partAt_61 (fX7_partAt_3 a1 a2 a3 n) a1 a2 a3 (fun l4 M9 q9 h9 => ih l4 M9 q9 h9) (l4) M q h)
        · rw [if_pos c5] at h
          refine zEV.aload_n dX7_partAt_42 rfl 0 rfl ?_
          refine zEV.gfr rfl inz7 10 (by decide) wf_RX7_24 (by decide) rfl rfl dX7_partAt_43 ?_
          refine zEV.bipush (v := 8) dX7_partAt_46 rfl ?_
          refine zEV.iload dX7_partAt_48 4 rfl ?_
          refine zEV.imul dX7_partAt_50 ?_
          refine zEV.iconst (v := 2) dX7_partAt_51 rfl ?_
          refine zEV.iadd dX7_partAt_52 ?_
          obtain ⟨g6, h⟩ := ite_no h
          refine zEV.iald (by decide) rfl g6 dX7_partAt_53 ?_
          refine zEV.iload_n dX7_partAt_54 rfl 2 rfl ?_
          refine zEV.icmp_ne 61 dX7_partAt_55 (by decide) (fun c7 => ?_) (fun c7 => ?_)
          · rw [if_neg c7] at h
            exact zEV.perm [0, 1, 2, 3, 4] rfl (tX7_partAt_61 (fX7_partAt_3 a1 a2 a3 n) a1 a2 a3 (fun l4 M9 q9 h9 => ih l4 M9 q9 h9) (l4) M q h)
          · rw [if_pos c7] at h
            refine zEV.iload dX7_partAt_58 4 rfl ?_
            have h := Option.some.inj h
            subst h
            exact zEV.iret rfl dX7_partAt_60
def fX7_partAt (a1 : Int32) (a2 : Int32) (a3 : Int32) (M : zMM) : Option (Int32 × zMM) :=
  fX7_partAt_3 a1 a2 a3 zFU (0) M
set_option maxRecDepth 100000 in
theorem tX7_partAt_0 (a1 : Int32) (a2 : Int32) (a3 : Int32) (M : zMM) (q : Int32 × zMM) (h : fX7_partAt a1 a2 a3  M = some q) : zEV iX7_partAt 0 0 (zZO (some (.inl q.1), q.2)) 0 [(0, .inr (.inr 158)), (1, .inl a1), (2, .inl a2), (3, .inl a3)] [] M := by
  unfold fX7_partAt at h
  refine zEV.iconst (v := 0) dX7_partAt_0 rfl ?_
  refine zEV.istore dX7_partAt_1 (Nat.le_of_ble_eq_true rfl) rfl ?_
  exact zEV.perm [1, 2, 3, 4, 0] rfl (tX7_partAt_3 a1 a2 a3 zFU (0) M q h)
theorem kX7_partAt (a1 : Int32) (a2 : Int32) (a3 : Int32) (M : zMM) (q : Int32 × zMM) (h : fX7_partAt a1 a2 a3 M = some q) : zCN yX7_partAt iX7_partAt [.inr (.inr 158), .inl a1, .inl a2, .inl a3] M (some (.inl q.1), q.2) :=
  zCN.of (by decide) rfl rfl (Nat.le_of_ble_eq_true rfl) (zEV.perm [0, 1, 2, 3] rfl (tX7_partAt_0 a1 a2 a3 M q h))
-- RingedPageModel.told
def fX7_told (a1 : Int32) (a2 : Int32) (M : zMM) : Option (Int32 × zMM) :=
  if oob (((8 * a1) + a2)) 1680 then none else
  some ((M.1 163 (Int32.toNatClampNeg ((8 * a1) + a2))), M)
set_option maxRecDepth 100000 in
theorem tX7_told_0 (a1 : Int32) (a2 : Int32) (M : zMM) (q : Int32 × zMM) (h : fX7_told a1 a2  M = some q) : zEV iX7_told 0 0 (zZO (some (.inl q.1), q.2)) 0 [(0, .inr (.inr 158)), (1, .inl a1), (2, .inl a2)] [] M := by
  unfold fX7_told at h
  refine zEV.aload_n dX7_told_0 rfl 0 rfl ?_
  refine zEV.gfr rfl inz7 10 (by decide) wf_RX7_24 (by decide) rfl rfl dX7_told_1 ?_
  refine zEV.bipush (v := 8) dX7_told_4 rfl ?_
  refine zEV.iload_n dX7_told_6 rfl 1 rfl ?_
  refine zEV.imul dX7_told_7 ?_
  refine zEV.iload_n dX7_told_8 rfl 2 rfl ?_
  refine zEV.iadd dX7_told_9 ?_
  obtain ⟨g1, h⟩ := ite_no h
  refine zEV.iald (by decide) rfl g1 dX7_told_10 ?_
  have h := Option.some.inj h
  subst h
  exact zEV.iret rfl dX7_told_11
theorem kX7_told (a1 : Int32) (a2 : Int32) (M : zMM) (q : Int32 × zMM) (h : fX7_told a1 a2 M = some q) : zCN yX7_told iX7_told [.inr (.inr 158), .inl a1, .inl a2] M (some (.inl q.1), q.2) :=
  zCN.of (by decide) rfl rfl (Nat.le_of_ble_eq_true rfl) (zEV.perm [0, 1, 2] rfl (tX7_told_0 a1 a2 M q h))
-- RingedPageModel.pages
def fX7_pages_40 (s0 : Int64) (M : zMM) : Option (Int32 × zMM) :=
  (fX7_tell (s0) M).bind fun q1 =>
  some ((q1.1 158 14), q1)
set_option maxRecDepth 100000 in
theorem tX7_pages_40 (s0 : Int64) (M : zMM) (q : Int32 × zMM) (h : fX7_pages_40 s0 M = some q) : zEV iX7_pages 0 0 (zZO (some (.inl q.1), q.2)) 40 [(0, .inr (.inr 158))] [.inr (.inl s0), .inr (.inr 158)] M := by
  unfold fX7_pages_40 at h
  obtain ⟨q1, hq1, h⟩ := bind_yes h
  refine zEV.callVv (kX7_tell (s0)  M q1 hq1) (by decide) rfl rfl wm_RX7_135 wc_X7_tell hy_X7_tell rfl ⟨Nat.le_of_ble_eq_true rfl, Nat.le_of_ble_eq_true rfl⟩ rfl (Nat.le_of_ble_eq_true rfl) dX7_pages_40 ?_
  refine zEV.aload_n dX7_pages_43 rfl 0 rfl ?_
  refine zEV.gfi rfl inz7 14 (by decide) wf_RX7_154 (by decide) rfl rfl dX7_pages_44 ?_
  have h := Option.some.inj h
  subst h
  exact zEV.iret rfl dX7_pages_47
def fX7_pages (M : zMM) : Option (Int32 × zMM) :=
  (fX7_set  (wr M 158 5 0)).bind fun q1 =>
  if ((wr q1 158 4 0).1 158 11) = (0 : Int32) then
    fX7_pages_40 ((0 : Int64)) (wr q1 158 4 0)
  else
    (fX7_told ((((wr q1 158 4 0).1 158 11) - 1)) (2) (wr q1 158 4 0)).bind fun q3 =>
    fX7_pages_40 ((Int32.toInt64 (q3.1 + 1))) q3.2
set_option maxRecDepth 100000 in
theorem tX7_pages_0 (M : zMM) (q : Int32 × zMM) (h : fX7_pages  M = some q) : zEV iX7_pages 0 0 (zZO (some (.inl q.1), q.2)) 0 [(0, .inr (.inr 158))] [] M := by
  unfold fX7_pages at h
  refine zEV.aload_n dX7_pages_0 rfl 0 rfl ?_
  refine zEV.iconst (v := 0) dX7_pages_1 rfl ?_
  refine zEV.pfi rfl inz7 tyX7 tyX7_ok nmX7 5 (by decide) wf_RX7_58 rfl (by decide +kernel) (by decide) rfl rfl dX7_pages_2 ?_
  refine zEV.aload_n dX7_pages_5 rfl 0 rfl ?_
  obtain ⟨q1, hq1, h⟩ := bind_yes h
  refine zEV.callVv (kX7_set   (wr M 158 5 0) q1 hq1) (by decide) rfl rfl wm_RX7_164 wc_X7_set hy_X7_set rfl ⟨Nat.le_of_ble_eq_true rfl, Nat.le_of_ble_eq_true rfl⟩ rfl (Nat.le_of_ble_eq_true rfl) dX7_pages_6 ?_
  refine zEV.aload_n dX7_pages_9 rfl 0 rfl ?_
  refine zEV.iconst (v := 0) dX7_pages_10 rfl ?_
  refine zEV.pfi rfl inz7 tyX7 tyX7_ok nmX7 4 (by decide) wf_RX7_62 rfl (by decide +kernel) (by decide) rfl rfl dX7_pages_11 ?_
  refine zEV.aload_n dX7_pages_14 rfl 0 rfl ?_
  refine zEV.aload_n dX7_pages_15 rfl 0 rfl ?_
  refine zEV.gfi rfl inz7 11 (by decide) wf_RX7_144 (by decide) rfl rfl dX7_pages_16 ?_
  refine zEV.if_ne 26 dX7_pages_19 (by decide) (fun c2 => ?_) (fun c2 => ?_)
  · rw [if_neg c2] at h
    refine zEV.aload_n dX7_pages_26 rfl 0 rfl ?_
    refine zEV.aload_n dX7_pages_27 rfl 0 rfl ?_
    refine zEV.gfi rfl inz7 11 (by decide) wf_RX7_144 (by decide) rfl rfl dX7_pages_28 ?_
    refine zEV.iconst (v := 1) dX7_pages_31 rfl ?_
    refine zEV.isub dX7_pages_32 ?_
    refine zEV.iconst (v := 2) dX7_pages_33 rfl ?_
    obtain ⟨q3, hq3, h⟩ := bind_yes h
    refine zEV.callVi (kX7_told ((((wr q1 158 4 0).1 158 11) - 1)) (2)  (wr q1 158 4 0) q3 hq3) (by decide) rfl rfl wm_RX7_167 wc_X7_told hy_X7_told rfl ⟨Nat.le_of_ble_eq_true rfl, Nat.le_of_ble_eq_true rfl⟩ rfl (Nat.le_of_ble_eq_true rfl) dX7_pages_34 ?_
    refine zEV.iconst (v := 1) dX7_pages_37 rfl ?_
    refine zEV.iadd dX7_pages_38 ?_
    refine zEV.i2l dX7_pages_39 ?_
    exact zEV.perm [0] rfl (tX7_pages_40 ((Int32.toInt64 (q3.1 + 1))) q3.2 q h)
  · rw [if_pos c2] at h
    refine zEV.lconst (v := 0) dX7_pages_22 rfl ?_
    refine zEV.goto 40 dX7_pages_23 (by decide) ?_
    exact zEV.perm [0] rfl (tX7_pages_40 ((0 : Int64)) (wr q1 158 4 0) q h)
theorem kX7_pages (M : zMM) (q : Int32 × zMM) (h : fX7_pages M = some q) : zCN yX7_pages iX7_pages [.inr (.inr 158)] M (some (.inl q.1), q.2) :=
  zCN.of (by decide) rfl rfl (Nat.le_of_ble_eq_true rfl) (zEV.perm [0] rfl (tX7_pages_0 M q h))
-- RingedPageModel.isLine
def fX7_isLine (a1 : Int32) (a2 : Int32) (M : zMM) : Option (Int32 × zMM) :=
  (fX7_in (a1) (0) (((M.1 158 14) - 1)) M).bind fun q1 =>
  if q1.1 = (0 : Int32) then
    some (0, q1.2)
  else
    (fX7_in (a2) (0) (((q1.2.1 159 1) - 1)) q1.2).bind fun q3 =>
    if q3.1 = (0 : Int32) then
      some (0, q3.2)
    else
      some (1, q3.2)
set_option maxRecDepth 100000 in
theorem tX7_isLine_0 (a1 : Int32) (a2 : Int32) (M : zMM) (q : Int32 × zMM) (h : fX7_isLine a1 a2  M = some q) : zEV iX7_isLine 0 0 (zZO (some (.inl q.1), q.2)) 0 [(0, .inr (.inr 158)), (1, .inl a1), (2, .inl a2)] [] M := by
  unfold fX7_isLine at h
  refine zEV.iload_n dX7_isLine_0 rfl 1 rfl ?_
  refine zEV.iconst (v := 0) dX7_isLine_1 rfl ?_
  refine zEV.aload_n dX7_isLine_2 rfl 0 rfl ?_
  refine zEV.gfi rfl inz7 14 (by decide) wf_RX7_154 (by decide) rfl rfl dX7_isLine_3 ?_
  refine zEV.iconst (v := 1) dX7_isLine_6 rfl ?_
  refine zEV.isub dX7_isLine_7 ?_
  obtain ⟨q1, hq1, h⟩ := bind_yes h
  refine zEV.callSi (kX7_in (a1) (0) (((M.1 158 14) - 1))  M q1 hq1) wm_RX7_65 wc_X7_in hy_X7_in rfl ⟨Nat.le_of_ble_eq_true rfl, Nat.le_of_ble_eq_true rfl⟩ rfl (Nat.le_of_ble_eq_true rfl) dX7_isLine_8 ?_
  refine zEV.if_eq 34 dX7_isLine_11 (by decide) (fun c2 => ?_) (fun c2 => ?_)
  · rw [if_pos c2] at h
    refine zEV.iconst (v := 0) dX7_isLine_34 rfl ?_
    have h := Option.some.inj h
    subst h
    exact zEV.zret rfl (Or.inl rfl) dX7_isLine_35
  · rw [if_neg c2] at h
    refine zEV.iload_n dX7_isLine_14 rfl 2 rfl ?_
    refine zEV.iconst (v := 0) dX7_isLine_15 rfl ?_
    refine zEV.aload_n dX7_isLine_16 rfl 0 rfl ?_
    refine zEV.gfr rfl inz7 0 (by decide) wf_RX7_9 (by decide) rfl rfl dX7_isLine_17 ?_
    refine zEV.iconst (v := 1) dX7_isLine_20 rfl ?_
    refine zEV.ialdL (j := 1) (by decide) rfl (by decide) (by decide) dX7_isLine_21 ?_
    refine zEV.iconst (v := 1) dX7_isLine_22 rfl ?_
    refine zEV.isub dX7_isLine_23 ?_
    obtain ⟨q3, hq3, h⟩ := bind_yes h
    refine zEV.callSi (kX7_in (a2) (0) (((q1.2.1 159 1) - 1))  q1.2 q3 hq3) wm_RX7_65 wc_X7_in hy_X7_in rfl ⟨Nat.le_of_ble_eq_true rfl, Nat.le_of_ble_eq_true rfl⟩ rfl (Nat.le_of_ble_eq_true rfl) dX7_isLine_24 ?_
    refine zEV.if_eq 34 dX7_isLine_27 (by decide) (fun c4 => ?_) (fun c4 => ?_)
    · rw [if_pos c4] at h
      refine zEV.iconst (v := 0) dX7_isLine_34 rfl ?_
      have h := Option.some.inj h
      subst h
      exact zEV.zret rfl (Or.inl rfl) dX7_isLine_35
    · rw [if_neg c4] at h
      refine zEV.iconst (v := 1) dX7_isLine_30 rfl ?_
      refine zEV.goto 35 dX7_isLine_31 (by decide) ?_
      have h := Option.some.inj h
      subst h
      exact zEV.zret rfl (Or.inr rfl) dX7_isLine_35
theorem kX7_isLine (a1 : Int32) (a2 : Int32) (M : zMM) (q : Int32 × zMM) (h : fX7_isLine a1 a2 M = some q) : zCN yX7_isLine iX7_isLine [.inr (.inr 158), .inl a1, .inl a2] M (some (.inl q.1), q.2) :=
  zCN.of (by decide) rfl rfl (Nat.le_of_ble_eq_true rfl) (zEV.perm [0, 1, 2] rfl (tX7_isLine_0 a1 a2 M q h))
-- RingedPageModel.part
def fX7_part (a1 : Int32) (a2 : Int32) (a3 : Int32) (M : zMM) : Option (Int32 × zMM) :=
  (fX7_set  (wr M 158 5 0)).bind fun q1 =>
  (fX7_isText (a3) q1).bind fun q2 =>
  if q2.1 = (0 : Int32) then
    some ((-1), q2.2)
  else
    (fX7_isLine (a1) (a2) q2.2).bind fun q4 =>
    if q4.1 = (0 : Int32) then
      some ((-1), q4.2)
    else
      (fX7_partAt (a1) (a2) (a3) q4.2).bind fun q6 =>
      if q6.1 = (-1) then
        some ((-2), q6.2)
      else
        (fX7_told (q6.1) (3) (wr q6.2 158 4 0)).bind fun q8 =>
        (fX7_tell ((Int32.toInt64 q8.1)) q8.2).bind fun q9 =>
        (fX7_told (q6.1) (5) q9).bind fun q10 =>
        (fX7_tell ((Int32.toInt64 q10.1)) q10.2).bind fun q11 =>
        (fX7_told (q6.1) (6) q11).bind fun q12 =>
        (fX7_tell ((Int32.toInt64 q12.1)) q12.2).bind fun q13 =>
        (fX7_told (q6.1) (7) q13).bind fun q14 =>
        (fX7_tell ((Int32.toInt64 q14.1)) q14.2).bind fun q15 =>
        (fX7_told (q6.1) (4) q15).bind fun q16 =>
        some (q16.1, q16.2)
set_option maxRecDepth 100000 in
theorem tX7_part_0 (a1 : Int32) (a2 : Int32) (a3 : Int32) (M : zMM) (q : Int32 × zMM) (h : fX7_part a1 a2 a3  M = some q) : zEV iX7_part 0 0 (zZO (some (.inl q.1), q.2)) 0 [(0, .inr (.inr 158)), (1, .inl a1), (2, .inl a2), (3, .inl a3)] [] M := by
  unfold fX7_part at h
  refine zEV.aload_n dX7_part_0 rfl 0 rfl ?_
  refine zEV.iconst (v := 0) dX7_part_1 rfl ?_
  refine zEV.pfi rfl inz7 tyX7 tyX7_ok nmX7 5 (by decide) wf_RX7_58 rfl (by decide +kernel) (by decide) rfl rfl dX7_part_2 ?_
  refine zEV.aload_n dX7_part_5 rfl 0 rfl ?_
  obtain ⟨q1, hq1, h⟩ := bind_yes h
  refine zEV.callVv (kX7_set   (wr M 158 5 0) q1 hq1) (by decide) rfl rfl wm_RX7_164 wc_X7_set hy_X7_set rfl ⟨Nat.le_of_ble_eq_true rfl, Nat.le_of_ble_eq_true rfl⟩ rfl (Nat.le_of_ble_eq_true rfl) dX7_part_6 ?_
  refine zEV.iload_n dX7_part_9 rfl 3 rfl ?_
  obtain ⟨q2, hq2, h⟩ := bind_yes h
  refine zEV.callSi (kX7_isText (a3)  q1 q2 hq2) wm_RX7_69 wc_X7_isText hy_X7_isText rfl ⟨Nat.le_of_ble_eq_true rfl, Nat.le_of_ble_eq_true rfl⟩ rfl (Nat.le_of_ble_eq_true rfl) dX7_part_10 ?_
  refine zEV.if_eq 25 dX7_part_13 (by decide) (fun c3 => ?_) (fun c3 => ?_)
  · rw [if_pos c3] at h
    refine zEV.iconst (v := (-1)) dX7_part_25 rfl ?_
    have h := Option.some.inj h
    subst h
    exact zEV.iret rfl dX7_part_26
  · rw [if_neg c3] at h
    refine zEV.aload_n dX7_part_16 rfl 0 rfl ?_
    refine zEV.iload_n dX7_part_17 rfl 1 rfl ?_
    refine zEV.iload_n dX7_part_18 rfl 2 rfl ?_
    obtain ⟨q4, hq4, h⟩ := bind_yes h
    refine zEV.callVi (kX7_isLine (a1) (a2)  q2.2 q4 hq4) (by decide) rfl rfl wm_RX7_170 wc_X7_isLine hy_X7_isLine rfl ⟨Nat.le_of_ble_eq_true rfl, Nat.le_of_ble_eq_true rfl⟩ rfl (Nat.le_of_ble_eq_true rfl) dX7_part_19 ?_
    refine zEV.if_ne 27 dX7_part_22 (by decide) (fun c5 => ?_) (fun c5 => ?_)
    · rw [if_neg c5] at h
      refine zEV.aload_n dX7_part_27 rfl 0 rfl ?_
      refine zEV.iload_n dX7_part_28 rfl 1 rfl ?_
      refine zEV.iload_n dX7_part_29 rfl 2 rfl ?_
      refine zEV.iload_n dX7_part_30 rfl 3 rfl ?_
      obtain ⟨q6, hq6, h⟩ := bind_yes h
      refine zEV.callVi (kX7_partAt (a1) (a2) (a3)  q4.2 q6 hq6) (by decide) rfl rfl wm_RX7_173 wc_X7_partAt hy_X7_partAt rfl ⟨Nat.le_of_ble_eq_true rfl, Nat.le_of_ble_eq_true rfl⟩ rfl (Nat.le_of_ble_eq_true rfl) dX7_part_31 ?_
      refine zEV.istore dX7_part_34 (Nat.le_of_ble_eq_true rfl) rfl ?_
      refine zEV.iload dX7_part_36 0 rfl ?_
      refine zEV.iconst (v := (-1)) dX7_part_38 rfl ?_
      refine zEV.icmp_ne 45 dX7_part_39 (by decide) (fun c7 => ?_) (fun c7 => ?_)
      · rw [if_neg c7] at h
        refine zEV.aload_n dX7_part_45 rfl 1 rfl ?_
        refine zEV.iconst (v := 0) dX7_part_46 rfl ?_
        refine zEV.pfi rfl inz7 tyX7 tyX7_ok nmX7 4 (by decide) wf_RX7_62 rfl (by decide +kernel) (by decide) rfl rfl dX7_part_47 ?_
        refine zEV.aload_n dX7_part_50 rfl 1 rfl ?_
        refine zEV.aload_n dX7_part_51 rfl 1 rfl ?_
        refine zEV.iload dX7_part_52 0 rfl ?_
        refine zEV.iconst (v := 3) dX7_part_54 rfl ?_
        obtain ⟨q8, hq8, h⟩ := bind_yes h
        refine zEV.callVi (kX7_told (q6.1) (3)  (wr q6.2 158 4 0) q8 hq8) (by decide) rfl rfl wm_RX7_167 wc_X7_told hy_X7_told rfl ⟨Nat.le_of_ble_eq_true rfl, Nat.le_of_ble_eq_true rfl⟩ rfl (Nat.le_of_ble_eq_true rfl) dX7_part_55 ?_
        refine zEV.i2l dX7_part_58 ?_
        obtain ⟨q9, hq9, h⟩ := bind_yes h
        refine zEV.callVv (kX7_tell ((Int32.toInt64 q8.1))  q8.2 q9 hq9) (by decide) rfl rfl wm_RX7_135 wc_X7_tell hy_X7_tell rfl ⟨Nat.le_of_ble_eq_true rfl, Nat.le_of_ble_eq_true rfl⟩ rfl (Nat.le_of_ble_eq_true rfl) dX7_part_59 ?_
        refine zEV.aload_n dX7_part_62 rfl 1 rfl ?_
        refine zEV.aload_n dX7_part_63 rfl 1 rfl ?_
        refine zEV.iload dX7_part_64 0 rfl ?_
        refine zEV.iconst (v := 5) dX7_part_66 rfl ?_
        obtain ⟨q10, hq10, h⟩ := bind_yes h
        refine zEV.callVi (kX7_told (q6.1) (5)  q9 q10 hq10) (by decide) rfl rfl wm_RX7_167 wc_X7_told hy_X7_told rfl ⟨Nat.le_of_ble_eq_true rfl, Nat.le_of_ble_eq_true rfl⟩ rfl (Nat.le_of_ble_eq_true rfl) dX7_part_67 ?_
        refine zEV.i2l dX7_part_70 ?_
        obtain ⟨q11, hq11, h⟩ := bind_yes h
        refine zEV.callVv (kX7_tell ((Int32.toInt64 q10.1))  q10.2 q11 hq11) (by decide) rfl rfl wm_RX7_135 wc_X7_tell hy_X7_tell rfl ⟨Nat.le_of_ble_eq_true rfl, Nat.le_of_ble_eq_true rfl⟩ rfl (Nat.le_of_ble_eq_true rfl) dX7_part_71 ?_
        refine zEV.aload_n dX7_part_74 rfl 1 rfl ?_
        refine zEV.aload_n dX7_part_75 rfl 1 rfl ?_
        refine zEV.iload dX7_part_76 0 rfl ?_
        refine zEV.bipush (v := 6) dX7_part_78 rfl ?_
        obtain ⟨q12, hq12, h⟩ := bind_yes h
        refine zEV.callVi (kX7_told (q6.1) (6)  q11 q12 hq12) (by decide) rfl rfl wm_RX7_167 wc_X7_told hy_X7_told rfl ⟨Nat.le_of_ble_eq_true rfl, Nat.le_of_ble_eq_true rfl⟩ rfl (Nat.le_of_ble_eq_true rfl) dX7_part_80 ?_
        refine zEV.i2l dX7_part_83 ?_
        obtain ⟨q13, hq13, h⟩ := bind_yes h
        refine zEV.callVv (kX7_tell ((Int32.toInt64 q12.1))  q12.2 q13 hq13) (by decide) rfl rfl wm_RX7_135 wc_X7_tell hy_X7_tell rfl ⟨Nat.le_of_ble_eq_true rfl, Nat.le_of_ble_eq_true rfl⟩ rfl (Nat.le_of_ble_eq_true rfl) dX7_part_84 ?_
        refine zEV.aload_n dX7_part_87 rfl 1 rfl ?_
        refine zEV.aload_n dX7_part_88 rfl 1 rfl ?_
        refine zEV.iload dX7_part_89 0 rfl ?_
        refine zEV.bipush (v := 7) dX7_part_91 rfl ?_
        obtain ⟨q14, hq14, h⟩ := bind_yes h
        refine zEV.callVi (kX7_told (q6.1) (7)  q13 q14 hq14) (by decide) rfl rfl wm_RX7_167 wc_X7_told hy_X7_told rfl ⟨Nat.le_of_ble_eq_true rfl, Nat.le_of_ble_eq_true rfl⟩ rfl (Nat.le_of_ble_eq_true rfl) dX7_part_93 ?_
        refine zEV.i2l dX7_part_96 ?_
        obtain ⟨q15, hq15, h⟩ := bind_yes h
        refine zEV.callVv (kX7_tell ((Int32.toInt64 q14.1))  q14.2 q15 hq15) (by decide) rfl rfl wm_RX7_135 wc_X7_tell hy_X7_tell rfl ⟨Nat.le_of_ble_eq_true rfl, Nat.le_of_ble_eq_true rfl⟩ rfl (Nat.le_of_ble_eq_true rfl) dX7_part_97 ?_
        refine zEV.aload_n dX7_part_100 rfl 1 rfl ?_
        refine zEV.iload dX7_part_101 0 rfl ?_
        refine zEV.iconst (v := 4) dX7_part_103 rfl ?_
        obtain ⟨q16, hq16, h⟩ := bind_yes h
        refine zEV.callVi (kX7_told (q6.1) (4)  q15 q16 hq16) (by decide) rfl rfl wm_RX7_167 wc_X7_told hy_X7_told rfl ⟨Nat.le_of_ble_eq_true rfl, Nat.le_of_ble_eq_true rfl⟩ rfl (Nat.le_of_ble_eq_true rfl) dX7_part_104 ?_
        have h := Option.some.inj h
        subst h
        exact zEV.iret rfl dX7_part_107
      · rw [if_pos c7] at h
        refine zEV.bipush (v := (-2)) dX7_part_42 rfl ?_
        have h := Option.some.inj h
        subst h
        exact zEV.iret rfl dX7_part_44
    · rw [if_pos c5] at h
      refine zEV.iconst (v := (-1)) dX7_part_25 rfl ?_
      have h := Option.some.inj h
      subst h
      exact zEV.iret rfl dX7_part_26
theorem kX7_part (a1 : Int32) (a2 : Int32) (a3 : Int32) (M : zMM) (q : Int32 × zMM) (h : fX7_part a1 a2 a3 M = some q) : zCN yX7_part iX7_part [.inr (.inr 158), .inl a1, .inl a2, .inl a3] M (some (.inl q.1), q.2) :=
  zCN.of (by decide) rfl rfl (Nat.le_of_ble_eq_true rfl) (zEV.perm [0, 1, 2, 3] rfl (tX7_part_0 a1 a2 a3 M q h))
