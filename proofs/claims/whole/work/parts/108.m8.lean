-- RingedPageModel.setLine
def fX7_setLine_209 (a1 : Int32) (a2 : Int32) (l4 : Int32) (l7 : Int32) (l8 : Int32) (l9 : Int32) (M : zMM) : Option (zMM) :=
  (fX7_setPart (0) (a1) (a2) (l9) (l8) M).bind fun q1 =>
  if l4 = (0 : Int32) then
    some q1
  else
    if oob (4) 259 then none else
    (fX7_setPart (2) (a1) (a2) ((q1.1 159 (Int32.toNatClampNeg 4))) (((l8 + l9) + l7)) q1).bind fun q4 =>
    some q4
set_option maxRecDepth 4000 in
theorem tX7_setLine_209 (a1 : Int32) (a2 : Int32) (l4 : Int32) (l7 : Int32) (l8 : Int32) (l9 : Int32) (M : zMM) (q : zMM) (h : fX7_setLine_209 a1 a2 l4 l7 l8 l9 M = some q) : zEV iX7_setLine 0 0 (zZO (none, q)) 209 [(0, .inr (.inr 158)), (1, .inl a1), (2, .inl a2), (4, .inl l4), (7, .inl l7), (8, .inl l8), (9, .inl l9)] [] M := by
  unfold fX7_setLine_209 at h
  refine zEV.aload_n dX7_setLine_209 rfl 0 rfl ?_
  refine zEV.iconst (v := 0) dX7_setLine_210 rfl ?_
  refine zEV.iload_n dX7_setLine_211 rfl 1 rfl ?_
  refine zEV.iload_n dX7_setLine_212 rfl 2 rfl ?_
  refine zEV.iload dX7_setLine_213 6 rfl ?_
  refine zEV.iload dX7_setLine_215 5 rfl ?_
  obtain ⟨q1, hq1, h⟩ := bind_yes h
  refine zEV.callVv (kX7_setPart (0) (a1) (a2) (l9) (l8)  M q1 hq1) (by decide) rfl rfl wm_RX7_150 wc_X7_setPart hy_X7_setPart rfl ⟨Nat.le_of_ble_eq_true rfl, Nat.le_of_ble_eq_true rfl⟩ rfl (Nat.le_of_ble_eq_true rfl) dX7_setLine_217 ?_
  refine zEV.iload dX7_setLine_220 3 rfl ?_
  refine zEV.if_eq 246 dX7_setLine_222 (by decide) (fun c2 => ?_) (fun c2 => ?_)
  · rw [if_pos c2] at h
    cases h
    exact zEV.vret rfl dX7_setLine_246
  · rw [if_neg c2] at h
    refine zEV.aload_n dX7_setLine_225 rfl 0 rfl ?_
    refine zEV.iconst (v := 2) dX7_setLine_226 rfl ?_
    refine zEV.iload_n dX7_setLine_227 rfl 1 rfl ?_
    refine zEV.iload_n dX7_setLine_228 rfl 2 rfl ?_
    refine zEV.aload_n dX7_setLine_229 rfl 0 rfl ?_
    refine zEV.gfr rfl inz7 0 (by decide) wf_RX7_9 (by decide) rfl rfl dX7_setLine_230 ?_
    refine zEV.iconst (v := 4) dX7_setLine_233 rfl ?_
    obtain ⟨g3, h⟩ := ite_no h
    refine zEV.iald (by decide) rfl g3 dX7_setLine_234 ?_
    refine zEV.iload dX7_setLine_235 5 rfl ?_
    refine zEV.iload dX7_setLine_237 6 rfl ?_
    refine zEV.iadd dX7_setLine_239 ?_
    refine zEV.iload dX7_setLine_240 4 rfl ?_
    refine zEV.iadd dX7_setLine_242 ?_
    obtain ⟨q4, hq4, h⟩ := bind_yes h
    refine zEV.callVv (kX7_setPart (2) (a1) (a2) ((q1.1 159 (Int32.toNatClampNeg 4))) (((l8 + l9) + l7))  q1 q4 hq4) (by decide) rfl rfl wm_RX7_150 wc_X7_setPart hy_X7_setPart rfl ⟨Nat.le_of_ble_eq_true rfl, Nat.le_of_ble_eq_true rfl⟩ rfl (Nat.le_of_ble_eq_true rfl) dX7_setLine_243 ?_
    cases h
    exact zEV.vret rfl dX7_setLine_246
def fX7_setLine_188 (a1 : Int32) (a2 : Int32) (l3 : Int32) (l4 : Int32) (l7 : Int32) (l8 : Int32) (s0 : Int32) (s1 : Int32) (M : zMM) : Option (zMM) :=
  if l3 = (0 : Int32) then
    fX7_setLine_209 a1 a2 (l4) (l7) (l8) ((s1 - s0)) M
  else
    if oob (3) 259 then none else
    (fX7_setPart (1) (a1) (a2) ((M.1 159 (Int32.toNatClampNeg 3))) (0) M).bind fun q3 =>
    fX7_setLine_209 a1 a2 (l4) (l7) (l8) ((s1 - s0)) q3
set_option maxRecDepth 4000 in
theorem tX7_setLine_188 (a1 : Int32) (a2 : Int32) (l3 : Int32) (l4 : Int32) (l7 : Int32) (l8 : Int32) (s0 : Int32) (s1 : Int32) (M : zMM) (q : zMM) (h : fX7_setLine_188 a1 a2 l3 l4 l7 l8 s0 s1 M = some q) : zEV iX7_setLine 0 0 (zZO (none, q)) 188 [(0, .inr (.inr 158)), (1, .inl a1), (2, .inl a2), (3, .inl l3), (4, .inl l4), (7, .inl l7), (8, .inl l8)] [.inl s0, .inl s1] M := by
  unfold fX7_setLine_188 at h
  refine zEV.isub dX7_setLine_188 ?_
  refine zEV.istore dX7_setLine_189 (Nat.le_of_ble_eq_true rfl) rfl ?_
  refine zEV.iload_n dX7_setLine_191 rfl 4 rfl ?_
  refine zEV.if_eq 209 dX7_setLine_192 (by decide) (fun c1 => ?_) (fun c1 => ?_)
  · rw [if_pos c1] at h
    exact zEV.perm [1, 2, 3, 5, 6, 7, 0] rfl (tX7_setLine_209 a1 a2 (l4) (l7) (l8) ((s1 - s0)) M q h)
  · rw [if_neg c1] at h
    refine zEV.aload_n dX7_setLine_195 rfl 1 rfl ?_
    refine zEV.iconst (v := 1) dX7_setLine_196 rfl ?_
    refine zEV.iload_n dX7_setLine_197 rfl 2 rfl ?_
    refine zEV.iload_n dX7_setLine_198 rfl 3 rfl ?_
    refine zEV.aload_n dX7_setLine_199 rfl 1 rfl ?_
    refine zEV.gfr rfl inz7 0 (by decide) wf_RX7_9 (by decide) rfl rfl dX7_setLine_200 ?_
    refine zEV.iconst (v := 3) dX7_setLine_203 rfl ?_
    obtain ⟨g2, h⟩ := ite_no h
    refine zEV.iald (by decide) rfl g2 dX7_setLine_204 ?_
    refine zEV.iconst (v := 0) dX7_setLine_205 rfl ?_
    obtain ⟨q3, hq3, h⟩ := bind_yes h
    refine zEV.callVv (kX7_setPart (1) (a1) (a2) ((M.1 159 (Int32.toNatClampNeg 3))) (0)  M q3 hq3) (by decide) rfl rfl wm_RX7_150 wc_X7_setPart hy_X7_setPart rfl ⟨Nat.le_of_ble_eq_true rfl, Nat.le_of_ble_eq_true rfl⟩ rfl (Nat.le_of_ble_eq_true rfl) dX7_setLine_206 ?_
    exact zEV.perm [1, 2, 3, 5, 6, 7, 0] rfl (tX7_setLine_209 a1 a2 (l4) (l7) (l8) ((s1 - s0)) q3 q h)
def fX7_setLine_163 (a1 : Int32) (a2 : Int32) (l3 : Int32) (l4 : Int32) (l6 : Int32) (l7 : Int32) (s0 : Int32) (M : zMM) : Option (zMM) :=
  if l4 = (0 : Int32) then
    fX7_setLine_188 a1 a2 (l3) (l4) (l7) (s0) (0) ((l6 - s0)) M
  else
    if oob (4) 259 then none else
    fX7_setLine_188 a1 a2 (l3) (l4) (l7) (s0) (((M.1 159 (Int32.toNatClampNeg 4)) + l7)) ((l6 - s0)) M
set_option maxRecDepth 4000 in
theorem tX7_setLine_163 (a1 : Int32) (a2 : Int32) (l3 : Int32) (l4 : Int32) (l6 : Int32) (l7 : Int32) (s0 : Int32) (M : zMM) (q : zMM) (h : fX7_setLine_163 a1 a2 l3 l4 l6 l7 s0 M = some q) : zEV iX7_setLine 0 0 (zZO (none, q)) 163 [(0, .inr (.inr 158)), (1, .inl a1), (2, .inl a2), (3, .inl l3), (4, .inl l4), (6, .inl l6), (7, .inl l7)] [.inl s0] M := by
  unfold fX7_setLine_163 at h
  refine zEV.istore dX7_setLine_163 (Nat.le_of_ble_eq_true rfl) rfl ?_
  refine zEV.iload dX7_setLine_165 6 rfl ?_
  refine zEV.iload dX7_setLine_167 0 rfl ?_
  refine zEV.isub dX7_setLine_169 ?_
  refine zEV.iload dX7_setLine_170 5 rfl ?_
  refine zEV.if_eq 187 dX7_setLine_172 (by decide) (fun c1 => ?_) (fun c1 => ?_)
  · rw [if_pos c1] at h
    refine zEV.iconst (v := 0) dX7_setLine_187 rfl ?_
    exact zEV.perm [1, 2, 3, 4, 5, 7, 0] rfl (tX7_setLine_188 a1 a2 (l3) (l4) (l7) (s0) (0) ((l6 - s0)) M q h)
  · rw [if_neg c1] at h
    refine zEV.aload_n dX7_setLine_175 rfl 1 rfl ?_
    refine zEV.gfr rfl inz7 0 (by decide) wf_RX7_9 (by decide) rfl rfl dX7_setLine_176 ?_
    refine zEV.iconst (v := 4) dX7_setLine_179 rfl ?_
    obtain ⟨g2, h⟩ := ite_no h
    refine zEV.iald (by decide) rfl g2 dX7_setLine_180 ?_
    refine zEV.iload dX7_setLine_181 7 rfl ?_
    refine zEV.iadd dX7_setLine_183 ?_
    refine zEV.goto 188 dX7_setLine_184 (by decide) ?_
    exact zEV.perm [1, 2, 3, 4, 5, 7, 0] rfl (tX7_setLine_188 a1 a2 (l3) (l4) (l7) (s0) (((M.1 159 (Int32.toNatClampNeg 4)) + l7)) ((l6 - s0)) M q h)
def fX7_setLine_142 (a1 : Int32) (a2 : Int32) (s0 : Int32) (s1 : Int32) (s2 : Int32) (s3 : Int32) (s4 : Int32) (M : zMM) : Option (zMM) :=
  (fX7_setPart (s4) (s3) (s2) (s1) (s0) M).bind fun q1 =>
  some q1
set_option maxRecDepth 4000 in
theorem tX7_setLine_142 (a1 : Int32) (a2 : Int32) (s0 : Int32) (s1 : Int32) (s2 : Int32) (s3 : Int32) (s4 : Int32) (M : zMM) (q : zMM) (h : fX7_setLine_142 a1 a2 s0 s1 s2 s3 s4 M = some q) : zEV iX7_setLine 0 0 (zZO (none, q)) 142 [] [.inl s0, .inl s1, .inl s2, .inl s3, .inl s4, .inr (.inr 158)] M := by
  unfold fX7_setLine_142 at h
  obtain ⟨q1, hq1, h⟩ := bind_yes h
  refine zEV.callVv (kX7_setPart (s4) (s3) (s2) (s1) (s0)  M q1 hq1) (by decide) rfl rfl wm_RX7_150 wc_X7_setPart hy_X7_setPart rfl ⟨Nat.le_of_ble_eq_true rfl, Nat.le_of_ble_eq_true rfl⟩ rfl (Nat.le_of_ble_eq_true rfl) dX7_setLine_142 ?_
  cases h
  exact zEV.vret rfl dX7_setLine_145
def fX7_setLine_129 (a1 : Int32) (a2 : Int32) (l3 : Int32) (l7 : Int32) (l8 : Int32) (s0 : Int32) (s1 : Int32) (s2 : Int32) (s3 : Int32) (M : zMM) : Option (zMM) :=
  if l3 = (0 : Int32) then
    fX7_setLine_142 a1 a2 (0) (s0) (s1) (s2) (s3) M
  else
    fX7_setLine_142 a1 a2 ((l8 + l7)) (s0) (s1) (s2) (s3) M
set_option maxRecDepth 4000 in
theorem tX7_setLine_129 (a1 : Int32) (a2 : Int32) (l3 : Int32) (l7 : Int32) (l8 : Int32) (s0 : Int32) (s1 : Int32) (s2 : Int32) (s3 : Int32) (M : zMM) (q : zMM) (h : fX7_setLine_129 a1 a2 l3 l7 l8 s0 s1 s2 s3 M = some q) : zEV iX7_setLine 0 0 (zZO (none, q)) 129 [(3, .inl l3), (7, .inl l7), (8, .inl l8)] [.inl s0, .inl s1, .inl s2, .inl s3, .inr (.inr 158)] M := by
  unfold fX7_setLine_129 at h
  refine zEV.iload_n dX7_setLine_129 rfl 0 rfl ?_
  refine zEV.if_eq 141 dX7_setLine_130 (by decide) (fun c1 => ?_) (fun c1 => ?_)
  · rw [if_pos c1] at h
    refine zEV.iconst (v := 0) dX7_setLine_141 rfl ?_
    exact zEV.perm [] rfl (tX7_setLine_142 a1 a2 (0) (s0) (s1) (s2) (s3) M q h)
  · rw [if_neg c1] at h
    refine zEV.iload dX7_setLine_133 2 rfl ?_
    refine zEV.iload dX7_setLine_135 1 rfl ?_
    refine zEV.iadd dX7_setLine_137 ?_
    refine zEV.goto 142 dX7_setLine_138 (by decide) ?_
    exact zEV.perm [] rfl (tX7_setLine_142 a1 a2 ((l8 + l7)) (s0) (s1) (s2) (s3) M q h)
def fX7_setLine_103 (a1 : Int32) (a2 : Int32) (l3 : Int32) (l4 : Int32) (l6 : Int32) (l7 : Int32) (l8 : Int32) (M : zMM) : Option (zMM) :=
  if l4 = (0 : Int32) then
    some M
  else
    if l3 = (0 : Int32) then
      fX7_setLine_129 a1 a2 (l3) (l7) (l8) (l6) (a2) (a1) (2) M
    else
      fX7_setLine_129 a1 a2 (l3) (l7) (l8) (((l6 - l7) - l8)) (a2) (a1) (2) M
set_option maxRecDepth 4000 in
theorem tX7_setLine_103 (a1 : Int32) (a2 : Int32) (l3 : Int32) (l4 : Int32) (l6 : Int32) (l7 : Int32) (l8 : Int32) (M : zMM) (q : zMM) (h : fX7_setLine_103 a1 a2 l3 l4 l6 l7 l8 M = some q) : zEV iX7_setLine 0 0 (zZO (none, q)) 103 [(0, .inr (.inr 158)), (1, .inl a1), (2, .inl a2), (3, .inl l3), (4, .inl l4), (6, .inl l6), (7, .inl l7), (8, .inl l8)] [] M := by
  unfold fX7_setLine_103 at h
  refine zEV.iload dX7_setLine_103 4 rfl ?_
  refine zEV.if_eq 145 dX7_setLine_105 (by decide) (fun c1 => ?_) (fun c1 => ?_)
  · rw [if_pos c1] at h
    cases h
    exact zEV.vret rfl dX7_setLine_145
  · rw [if_neg c1] at h
    refine zEV.aload_n dX7_setLine_108 rfl 0 rfl ?_
    refine zEV.iconst (v := 2) dX7_setLine_109 rfl ?_
    refine zEV.iload_n dX7_setLine_110 rfl 1 rfl ?_
    refine zEV.iload_n dX7_setLine_111 rfl 2 rfl ?_
    refine zEV.iload_n dX7_setLine_112 rfl 3 rfl ?_
    refine zEV.if_eq 127 dX7_setLine_113 (by decide) (fun c2 => ?_) (fun c2 => ?_)
    · rw [if_pos c2] at h
      refine zEV.iload dX7_setLine_127 5 rfl ?_
      exact zEV.perm [3, 6, 7] rfl (tX7_setLine_129 a1 a2 (l3) (l7) (l8) (l6) (a2) (a1) (2) M q h)
    · rw [if_neg c2] at h
      refine zEV.iload dX7_setLine_116 5 rfl ?_
      refine zEV.iload dX7_setLine_118 6 rfl ?_
      refine zEV.isub dX7_setLine_120 ?_
      refine zEV.iload dX7_setLine_121 7 rfl ?_
      refine zEV.isub dX7_setLine_123 ?_
      refine zEV.goto 129 dX7_setLine_124 (by decide) ?_
      exact zEV.perm [3, 6, 7] rfl (tX7_setLine_129 a1 a2 (l3) (l7) (l8) (((l6 - l7) - l8)) (a2) (a1) (2) M q h)
def fX7_setLine_99 (a1 : Int32) (a2 : Int32) (l3 : Int32) (l4 : Int32) (l6 : Int32) (l7 : Int32) (l8 : Int32) (s0 : Int32) (s1 : Int32) (s2 : Int32) (s3 : Int32) (M : zMM) : Option (zMM) :=
  (fX7_setPart (s3) (s2) (s1) (s0) (0) M).bind fun q1 =>
  fX7_setLine_103 a1 a2 (l3) (l4) (l6) (l7) (l8) q1
set_option maxRecDepth 4000 in
theorem tX7_setLine_99 (a1 : Int32) (a2 : Int32) (l3 : Int32) (l4 : Int32) (l6 : Int32) (l7 : Int32) (l8 : Int32) (s0 : Int32) (s1 : Int32) (s2 : Int32) (s3 : Int32) (M : zMM) (q : zMM) (h : fX7_setLine_99 a1 a2 l3 l4 l6 l7 l8 s0 s1 s2 s3 M = some q) : zEV iX7_setLine 0 0 (zZO (none, q)) 99 [(0, .inr (.inr 158)), (1, .inl a1), (2, .inl a2), (3, .inl l3), (4, .inl l4), (6, .inl l6), (7, .inl l7), (8, .inl l8)] [.inl s0, .inl s1, .inl s2, .inl s3, .inr (.inr 158)] M := by
  unfold fX7_setLine_99 at h
  refine zEV.iconst (v := 0) dX7_setLine_99 rfl ?_
  obtain ⟨q1, hq1, h⟩ := bind_yes h
  refine zEV.callVv (kX7_setPart (s3) (s2) (s1) (s0) (0)  M q1 hq1) (by decide) rfl rfl wm_RX7_150 wc_X7_setPart hy_X7_setPart rfl ⟨Nat.le_of_ble_eq_true rfl, Nat.le_of_ble_eq_true rfl⟩ rfl (Nat.le_of_ble_eq_true rfl) dX7_setLine_100 ?_
  exact zEV.perm [0, 1, 2, 3, 4, 5, 6, 7] rfl (tX7_setLine_103 a1 a2 (l3) (l4) (l6) (l7) (l8) q1 q h)
def fX7_setLine_45 (a1 : Int32) (a2 : Int32) (l3 : Int32) (l4 : Int32) (s0 : Int32) (M : zMM) : Option (zMM) :=
  if oob (0) 259 then none else
  if oob (255) 259 then none else
  if s0 = (0 : Int32) then
    if l3 = (0 : Int32) then
      fX7_setLine_103 a1 a2 (l3) (l4) ((M.1 159 (Int32.toNatClampNeg 0))) ((M.1 159 (Int32.toNatClampNeg 255))) ((((M.1 159 (Int32.toNatClampNeg 0)) - (M.1 159 (Int32.toNatClampNeg 255))) / 2)) M
    else
      if l4 = (0 : Int32) then
        fX7_setLine_99 a1 a2 (l3) (l4) ((M.1 159 (Int32.toNatClampNeg 0))) ((M.1 159 (Int32.toNatClampNeg 255))) ((((M.1 159 (Int32.toNatClampNeg 0)) - (M.1 159 (Int32.toNatClampNeg 255))) / 2)) ((M.1 159 (Int32.toNatClampNeg 0))) (a2) (a1) (1) M
      else
        fX7_setLine_99 a1 a2 (l3) (l4) ((M.1 159 (Int32.toNatClampNeg 0))) ((M.1 159 (Int32.toNatClampNeg 255))) ((((M.1 159 (Int32.toNatClampNeg 0)) - (M.1 159 (Int32.toNatClampNeg 255))) / 2)) ((((M.1 159 (Int32.toNatClampNeg 0)) - (M.1 159 (Int32.toNatClampNeg 255))) / 2)) (a2) (a1) (1) M
  else
    if l3 = (0 : Int32) then
      fX7_setLine_163 a1 a2 (l3) (l4) ((M.1 159 (Int32.toNatClampNeg 0))) ((M.1 159 (Int32.toNatClampNeg 255))) (0) M
    else
      if oob (3) 259 then none else
      fX7_setLine_163 a1 a2 (l3) (l4) ((M.1 159 (Int32.toNatClampNeg 0))) ((M.1 159 (Int32.toNatClampNeg 255))) (((M.1 159 (Int32.toNatClampNeg 3)) + (M.1 159 (Int32.toNatClampNeg 255)))) M
set_option maxRecDepth 4000 in
theorem tX7_setLine_45 (a1 : Int32) (a2 : Int32) (l3 : Int32) (l4 : Int32) (s0 : Int32) (M : zMM) (q : zMM) (h : fX7_setLine_45 a1 a2 l3 l4 s0 M = some q) : zEV iX7_setLine 0 0 (zZO (none, q)) 45 [(0, .inr (.inr 158)), (1, .inl a1), (2, .inl a2), (3, .inl l3), (4, .inl l4)] [.inl s0] M := by
  unfold fX7_setLine_45 at h
  refine zEV.istore dX7_setLine_45 (Nat.le_of_ble_eq_true rfl) rfl ?_
  refine zEV.aload_n dX7_setLine_47 rfl 1 rfl ?_
  refine zEV.gfr rfl inz7 0 (by decide) wf_RX7_9 (by decide) rfl rfl dX7_setLine_48 ?_
  refine zEV.iconst (v := 0) dX7_setLine_51 rfl ?_
  obtain ⟨g1, h⟩ := ite_no h
  refine zEV.iald (by decide) rfl g1 dX7_setLine_52 ?_
  refine zEV.istore dX7_setLine_53 (Nat.le_of_ble_eq_true rfl) rfl ?_
  refine zEV.aload_n dX7_setLine_55 rfl 2 rfl ?_
  refine zEV.gfr rfl inz7 0 (by decide) wf_RX7_9 (by decide) rfl rfl dX7_setLine_56 ?_
  refine zEV.sipush (v := 255) dX7_setLine_59 rfl ?_
  obtain ⟨g2, h⟩ := ite_no h
  refine zEV.iald (by decide) rfl g2 dX7_setLine_62 ?_
  refine zEV.istore dX7_setLine_63 (Nat.le_of_ble_eq_true rfl) rfl ?_
  refine zEV.iload dX7_setLine_65 2 rfl ?_
  refine zEV.if_ne 146 dX7_setLine_67 (by decide) (fun c3 => ?_) (fun c3 => ?_)
  · rw [if_neg c3] at h
    refine zEV.iload_n dX7_setLine_146 rfl 6 rfl ?_
    refine zEV.if_eq 162 dX7_setLine_147 (by decide) (fun c4 => ?_) (fun c4 => ?_)
    · rw [if_pos c4] at h
      refine zEV.iconst (v := 0) dX7_setLine_162 rfl ?_
      exact zEV.perm [3, 4, 5, 6, 7, 1, 0] rfl (tX7_setLine_163 a1 a2 (l3) (l4) ((M.1 159 (Int32.toNatClampNeg 0))) ((M.1 159 (Int32.toNatClampNeg 255))) (0) M q h)
    · rw [if_neg c4] at h
      refine zEV.aload_n dX7_setLine_150 rfl 3 rfl ?_
      refine zEV.gfr rfl inz7 0 (by decide) wf_RX7_9 (by decide) rfl rfl dX7_setLine_151 ?_
      refine zEV.iconst (v := 3) dX7_setLine_154 rfl ?_
      obtain ⟨g5, h⟩ := ite_no h
      refine zEV.iald (by decide) rfl g5 dX7_setLine_155 ?_
      refine zEV.iload dX7_setLine_156 0 rfl ?_
      refine zEV.iadd dX7_setLine_158 ?_
      refine zEV.goto 163 dX7_setLine_159 (by decide) ?_
      exact zEV.perm [3, 4, 5, 6, 7, 1, 0] rfl (tX7_setLine_163 a1 a2 (l3) (l4) ((M.1 159 (Int32.toNatClampNeg 0))) ((M.1 159 (Int32.toNatClampNeg 255))) (((M.1 159 (Int32.toNatClampNeg 3)) + (M.1 159 (Int32.toNatClampNeg 255)))) M q h)
  · rw [if_pos c3] at h
    refine zEV.iload dX7_setLine_70 1 rfl ?_
    refine zEV.iload dX7_setLine_72 0 rfl ?_
    refine zEV.isub dX7_setLine_74 ?_
    refine zEV.iconst (v := 2) dX7_setLine_75 rfl ?_
    refine zEV.idiv dX7_setLine_76 (by decide) ?_
    refine zEV.istore dX7_setLine_77 (Nat.le_of_ble_eq_true rfl) rfl ?_
    refine zEV.iload_n dX7_setLine_79 rfl 7 rfl ?_
    refine zEV.if_eq 103 dX7_setLine_80 (by decide) (fun c6 => ?_) (fun c6 => ?_)
    · rw [if_pos c6] at h
      exact zEV.perm [4, 5, 6, 7, 8, 2, 1, 0] rfl (tX7_setLine_103 a1 a2 (l3) (l4) ((M.1 159 (Int32.toNatClampNeg 0))) ((M.1 159 (Int32.toNatClampNeg 255))) ((((M.1 159 (Int32.toNatClampNeg 0)) - (M.1 159 (Int32.toNatClampNeg 255))) / 2)) M q h)
    · rw [if_neg c6] at h
      refine zEV.aload_n dX7_setLine_83 rfl 4 rfl ?_
      refine zEV.iconst (v := 1) dX7_setLine_84 rfl ?_
      refine zEV.iload_n dX7_setLine_85 rfl 5 rfl ?_
      refine zEV.iload_n dX7_setLine_86 rfl 6 rfl ?_
      refine zEV.iload dX7_setLine_87 8 rfl ?_
      refine zEV.if_eq 97 dX7_setLine_89 (by decide) (fun c7 => ?_) (fun c7 => ?_)
      · rw [if_pos c7] at h
        refine zEV.iload dX7_setLine_97 2 rfl ?_
        exact zEV.perm [4, 5, 6, 7, 8, 2, 1, 0] rfl (tX7_setLine_99 a1 a2 (l3) (l4) ((M.1 159 (Int32.toNatClampNeg 0))) ((M.1 159 (Int32.toNatClampNeg 255))) ((((M.1 159 (Int32.toNatClampNeg 0)) - (M.1 159 (Int32.toNatClampNeg 255))) / 2)) ((M.1 159 (Int32.toNatClampNeg 0))) (a2) (a1) (1) M q h)
      · rw [if_neg c7] at h
        refine zEV.iload dX7_setLine_92 0 rfl ?_
        refine zEV.goto 99 dX7_setLine_94 (by decide) ?_
        exact zEV.perm [4, 5, 6, 7, 8, 2, 1, 0] rfl (tX7_setLine_99 a1 a2 (l3) (l4) ((M.1 159 (Int32.toNatClampNeg 0))) ((M.1 159 (Int32.toNatClampNeg 255))) ((((M.1 159 (Int32.toNatClampNeg 0)) - (M.1 159 (Int32.toNatClampNeg 255))) / 2)) ((((M.1 159 (Int32.toNatClampNeg 0)) - (M.1 159 (Int32.toNatClampNeg 255))) / 2)) (a2) (a1) (1) M q h)
def fX7_setLine_44 (a1 : Int32) (a2 : Int32) (l3 : Int32) (l4 : Int32) (M : zMM) : Option (zMM) :=
  fX7_setLine_45 a1 a2 (l3) (l4) (0) M
set_option maxRecDepth 4000 in
theorem tX7_setLine_44 (a1 : Int32) (a2 : Int32) (l3 : Int32) (l4 : Int32) (M : zMM) (q : zMM) (h : fX7_setLine_44 a1 a2 l3 l4 M = some q) : zEV iX7_setLine 0 0 (zZO (none, q)) 44 [(0, .inr (.inr 158)), (1, .inl a1), (2, .inl a2), (3, .inl l3), (4, .inl l4)] [] M := by
  unfold fX7_setLine_44 at h
  refine zEV.iconst (v := 0) dX7_setLine_44 rfl ?_
  exact zEV.perm [0, 1, 2, 3, 4] rfl (tX7_setLine_45 a1 a2 (l3) (l4) (0) M q h)
def fX7_setLine_40 (a1 : Int32) (a2 : Int32) (l3 : Int32) (l4 : Int32) (M : zMM) : Option (zMM) :=
  fX7_setLine_45 a1 a2 (l3) (l4) (1) M
set_option maxRecDepth 4000 in
theorem tX7_setLine_40 (a1 : Int32) (a2 : Int32) (l3 : Int32) (l4 : Int32) (M : zMM) (q : zMM) (h : fX7_setLine_40 a1 a2 l3 l4 M = some q) : zEV iX7_setLine 0 0 (zZO (none, q)) 40 [(0, .inr (.inr 158)), (1, .inl a1), (2, .inl a2), (3, .inl l3), (4, .inl l4)] [] M := by
  unfold fX7_setLine_40 at h
  refine zEV.iconst (v := 1) dX7_setLine_40 rfl ?_
  refine zEV.goto 45 dX7_setLine_41 (by decide) ?_
  exact zEV.perm [0, 1, 2, 3, 4] rfl (tX7_setLine_45 a1 a2 (l3) (l4) (1) M q h)
def fX7_setLine (a1 : Int32) (a2 : Int32) (M : zMM) : Option (zMM) :=
  (fX7_isLeft (1) M).bind fun q1 =>
  (fX7_isLeft (2) q1.2).bind fun q2 =>
  (fX7_isLeft (0) q2.2).bind fun q3 =>
  if q3.1 = (0 : Int32) then
    fX7_setLine_44 a1 a2 (q1.1) (q2.1) q3.2
  else
    if oob (2) 259 then none else
    if (q3.2.1 159 (Int32.toNatClampNeg 2)) ≤ a2 then
      fX7_setLine_40 a1 a2 (q1.1) (q2.1) q3.2
    else
      if q1.1 = (0 : Int32) then
        if q2.1 = (0 : Int32) then
          fX7_setLine_40 a1 a2 (q1.1) (q2.1) q3.2
        else
          fX7_setLine_44 a1 a2 (q1.1) (q2.1) q3.2
      else
        fX7_setLine_44 a1 a2 (q1.1) (q2.1) q3.2
set_option maxRecDepth 4000 in
theorem tX7_setLine_0 (a1 : Int32) (a2 : Int32) (M : zMM) (q : zMM) (h : fX7_setLine a1 a2  M = some q) : zEV iX7_setLine 0 0 (zZO (none, q)) 0 [(0, .inr (.inr 158)), (1, .inl a1), (2, .inl a2)] [] M := by
  unfold fX7_setLine at h
  refine zEV.aload_n dX7_setLine_0 rfl 0 rfl ?_
  refine zEV.iconst (v := 1) dX7_setLine_1 rfl ?_
  obtain ⟨q1, hq1, h⟩ := bind_yes h
  refine zEV.callVi (kX7_isLeft (1)  M q1 hq1) (by decide) rfl rfl wm_RX7_141 wc_X7_isLeft hy_X7_isLeft rfl ⟨Nat.le_of_ble_eq_true rfl, Nat.le_of_ble_eq_true rfl⟩ rfl (Nat.le_of_ble_eq_true rfl) dX7_setLine_2 ?_
  refine zEV.istore_n dX7_setLine_5 rfl (Nat.le_of_ble_eq_true rfl) rfl ?_
  refine zEV.aload_n dX7_setLine_6 rfl 1 rfl ?_
  refine zEV.iconst (v := 2) dX7_setLine_7 rfl ?_
  obtain ⟨q2, hq2, h⟩ := bind_yes h
  refine zEV.callVi (kX7_isLeft (2)  q1.2 q2 hq2) (by decide) rfl rfl wm_RX7_141 wc_X7_isLeft hy_X7_isLeft rfl ⟨Nat.le_of_ble_eq_true rfl, Nat.le_of_ble_eq_true rfl⟩ rfl (Nat.le_of_ble_eq_true rfl) dX7_setLine_8 ?_
  refine zEV.istore dX7_setLine_11 (Nat.le_of_ble_eq_true rfl) rfl ?_
  refine zEV.aload_n dX7_setLine_13 rfl 2 rfl ?_
  refine zEV.iconst (v := 0) dX7_setLine_14 rfl ?_
  obtain ⟨q3, hq3, h⟩ := bind_yes h
  refine zEV.callVi (kX7_isLeft (0)  q2.2 q3 hq3) (by decide) rfl rfl wm_RX7_141 wc_X7_isLeft hy_X7_isLeft rfl ⟨Nat.le_of_ble_eq_true rfl, Nat.le_of_ble_eq_true rfl⟩ rfl (Nat.le_of_ble_eq_true rfl) dX7_setLine_15 ?_
  refine zEV.if_eq 44 dX7_setLine_18 (by decide) (fun c4 => ?_) (fun c4 => ?_)
  · rw [if_pos c4] at h
    exact zEV.perm [2, 3, 4, 1, 0] rfl (tX7_setLine_44 a1 a2 (q1.1) (q2.1) q3.2 q h)
  · rw [if_neg c4] at h
    refine zEV.iload_n dX7_setLine_21 rfl 4 rfl ?_
    refine zEV.aload_n dX7_setLine_22 rfl 2 rfl ?_
    refine zEV.gfr rfl inz7 0 (by decide) wf_RX7_9 (by decide) rfl rfl dX7_setLine_23 ?_
    refine zEV.iconst (v := 2) dX7_setLine_26 rfl ?_
    obtain ⟨g5, h⟩ := ite_no h
    refine zEV.iald (by decide) rfl g5 dX7_setLine_27 ?_
    refine zEV.icmp_ge 40 dX7_setLine_28 (by decide) (fun c6 => ?_) (fun c6 => ?_)
    · rw [if_pos c6] at h
      exact zEV.perm [2, 3, 4, 1, 0] rfl (tX7_setLine_40 a1 a2 (q1.1) (q2.1) q3.2 q h)
    · rw [if_neg c6] at h
      refine zEV.iload_n dX7_setLine_31 rfl 1 rfl ?_
      refine zEV.if_ne 44 dX7_setLine_32 (by decide) (fun c7 => ?_) (fun c7 => ?_)
      · rw [if_neg c7] at h
        exact zEV.perm [2, 3, 4, 1, 0] rfl (tX7_setLine_44 a1 a2 (q1.1) (q2.1) q3.2 q h)
      · rw [if_pos c7] at h
        refine zEV.iload dX7_setLine_35 0 rfl ?_
        refine zEV.if_ne 44 dX7_setLine_37 (by decide) (fun c8 => ?_) (fun c8 => ?_)
        · rw [if_neg c8] at h
          exact zEV.perm [2, 3, 4, 1, 0] rfl (tX7_setLine_44 a1 a2 (q1.1) (q2.1) q3.2 q h)
        · rw [if_pos c8] at h
          exact zEV.perm [2, 3, 4, 1, 0] rfl (tX7_setLine_40 a1 a2 (q1.1) (q2.1) q3.2 q h)
theorem kX7_setLine (a1 : Int32) (a2 : Int32) (M : zMM) (q : zMM) (h : fX7_setLine a1 a2 M = some q) : zCN yX7_setLine iX7_setLine [.inr (.inr 158), .inl a1, .inl a2] M (none, q) :=
  zCN.of (by decide) rfl rfl (Nat.le_of_ble_eq_true rfl) (zEV.perm [0, 1, 2] rfl (tX7_setLine_0 a1 a2 M q h))
-- RingedPageModel.set
def fX7_set_71 (K30 : zMM → Option (zMM)) (M : zMM) : Option (zMM) :=
  K30 (wr M 158 14 ((M.1 158 14) + 1))
set_option maxRecDepth 4000 in
theorem tX7_set_71 (K30 : zMM → Option (zMM)) (hK30 : ∀ (M : zMM) (q : zMM), K30  M = some q → zEV iX7_set 0 0 (zZO (none, q)) 30 [(0, .inr (.inr 158))] [] M) (M : zMM) (q : zMM) (h : fX7_set_71 K30  M = some q) : zEV iX7_set 0 0 (zZO (none, q)) 71 [(0, .inr (.inr 158))] [] M := by
  unfold fX7_set_71 at h
  refine zEV.aload_n dX7_set_71 rfl 0 rfl ?_
  refine zEV.dup dX7_set_72 rfl ?_
  refine zEV.gfi rfl inz7 14 (by decide) wf_RX7_154 (by decide) rfl rfl dX7_set_73 ?_
  refine zEV.iconst (v := 1) dX7_set_76 rfl ?_
  refine zEV.iadd dX7_set_77 ?_
  refine zEV.pfi rfl inz7 tyX7 tyX7_ok nmX7 14 (by decide) wf_RX7_154 rfl (by decide +kernel) (by decide) rfl rfl dX7_set_78 ?_
  refine zEV.goto 30 dX7_set_81 (by decide) ?_
  exact zEV.perm [0] rfl (hK30 (wr M 158 14 ((M.1 158 14) + 1)) q h)
def fX7_set_39 (K30 : zMM → Option (zMM)) : Nat → Int32 → zMM → Option (zMM)
  | 0, _, _ => none
  | n + 1, l1, M =>
  if oob (1) 259 then none else
  if (M.1 159 (Int32.toNatClampNeg 1)) ≤ l1 then
    fX7_set_71 K30 M
  else
    (fX7_areLeft  M).bind fun q3 =>
    if q3.1 = (0 : Int32) then
      fX7_set_71 K30 q3.2
    else
      (fX7_setLine ((q3.2.1 158 14)) (l1) q3.2).bind fun q5 =>
      fX7_set_39 K30 n ((l1 + 1)) q5
set_option maxRecDepth 4000 in
theorem tX7_set_39 (K30 : zMM → Option (zMM)) (hK30 : ∀ (M : zMM) (q : zMM), K30  M = some q → zEV iX7_set 0 0 (zZO (none, q)) 30 [(0, .inr (.inr 158))] [] M) : ∀ (n : Nat) (l1 : Int32) (M : zMM) (q : zMM), fX7_set_39 K30 n l1 M = some q → zEV iX7_set 0 0 (zZO (none, q)) 39 [(0, .inr (.inr 158)), (1, .inl l1)] [] M := by
  intro n
  induction n with
  | zero =>
    intro l1 M q h
    rw [fX7_set_39] at h
    cases h
  | succ n ih =>
    intro l1 M q h
    rw [fX7_set_39] at h
    refine zEV.iload_n dX7_set_39 rfl 1 rfl ?_
    refine zEV.aload_n dX7_set_40 rfl 0 rfl ?_
    refine zEV.gfr rfl inz7 0 (by decide) wf_RX7_9 (by decide) rfl rfl dX7_set_41 ?_
    refine zEV.iconst (v := 1) dX7_set_44 rfl ?_
    obtain ⟨g1, h⟩ := ite_no h
    refine zEV.iald (by decide) rfl g1 dX7_set_45 ?_
    refine zEV.icmp_ge 71 dX7_set_46 (by decide) (fun c2 => ?_) (fun c2 => ?_)
    · rw [if_pos c2] at h
      exact zEV.perm [0] rfl (tX7_set_71 K30 hK30 M q h)
    · rw [if_neg c2] at h
      refine zEV.aload_n dX7_set_49 rfl 0 rfl ?_
      obtain ⟨q3, hq3, h⟩ := bind_yes h
      refine zEV.callVi (kX7_areLeft   M q3 hq3) (by decide) rfl rfl wm_RX7_157 wc_X7_areLeft hy_X7_areLeft rfl ⟨Nat.le_of_ble_eq_true rfl, Nat.le_of_ble_eq_true rfl⟩ rfl (Nat.le_of_ble_eq_true rfl) dX7_set_50 ?_
      refine zEV.if_eq 71 dX7_set_53 (by decide) (fun c4 => ?_) (fun c4 => ?_)
      · rw [if_pos c4] at h
        exact zEV.perm [0] rfl (tX7_set_71 K30 hK30 q3.2 q h)
      · rw [if_neg c4] at h
        refine zEV.aload_n dX7_set_56 rfl 0 rfl ?_
        refine zEV.aload_n dX7_set_57 rfl 0 rfl ?_
        refine zEV.gfi rfl inz7 14 (by decide) wf_RX7_154 (by decide) rfl rfl dX7_set_58 ?_
        refine zEV.iload_n dX7_set_61 rfl 1 rfl ?_
        obtain ⟨q5, hq5, h⟩ := bind_yes h
        refine zEV.callVv (kX7_setLine ((q3.2.1 158 14)) (l1)  q3.2 q5 hq5) (by decide) rfl rfl wm_RX7_160 wc_X7_setLine hy_X7_setLine rfl ⟨Nat.le_of_ble_eq_true rfl, Nat.le_of_ble_eq_true rfl⟩ rfl (Nat.le_of_ble_eq_true rfl) dX7_set_62 ?_
        refine zEV.iinc (v := (l1 + 1)) dX7_set_65 1 rfl rfl (Nat.le_of_ble_eq_true rfl) rfl ?_
        refine zEV.goto 39 dX7_set_68 (by decide) ?_
        exact zEV.perm [1, 0] rfl (ih ((l1 + 1)) q5 q h)
def fX7_set_30 : Nat → zMM → Option (zMM)
  | 0, _ => none
  | n + 1, M =>
  (fX7_areLeft  M).bind fun q1 =>
  if q1.1 = (0 : Int32) then
    some q1.2
  else
    fX7_set_39 (fX7_set_30 n) zFU (0) q1.2
set_option maxRecDepth 4000 in
theorem tX7_set_30 : ∀ (n : Nat) (M : zMM) (q : zMM), fX7_set_30 n  M = some q → zEV iX7_set 0 0 (zZO (none, q)) 30 [(0, .inr (.inr 158))] [] M := by
  intro n
  induction n with
  | zero =>
    intro  M q h
    rw [fX7_set_30] at h
    cases h
  | succ n ih =>
    intro  M q h
    rw [fX7_set_30] at h
    refine zEV.aload_n dX7_set_30 rfl 0 rfl ?_
    obtain ⟨q1, hq1, h⟩ := bind_yes h
    refine zEV.callVi (kX7_areLeft   M q1 hq1) (by decide) rfl rfl wm_RX7_157 wc_X7_areLeft hy_X7_areLeft rfl ⟨Nat.le_of_ble_eq_true rfl, Nat.le_of_ble_eq_true rfl⟩ rfl (Nat.le_of_ble_eq_true rfl) dX7_set_31 ?_
    refine zEV.if_eq 84 dX7_set_34 (by decide) (fun c2 => ?_) (fun c2 => ?_)
    · rw [if_pos c2] at h
      cases h
      exact zEV.vret rfl dX7_set_84
    · rw [if_neg c2] at h
      refine zEV.iconst (v := 0) dX7_set_37 rfl ?_
      refine zEV.istore_n dX7_set_38 rfl (Nat.le_of_ble_eq_true rfl) rfl ?_
      exact zEV.perm [1, 0] rfl (tX7_set_39 (fX7_set_30 n) (fun M9 q9 h9 => ih M9 q9 h9) zFU (0) q1.2 q h)
def fX7_set_12 : Nat → Int32 → zMM → Option (zMM)
  | 0, _, _ => none
  | n + 1, l1, M =>
  if (3 : Int32) ≤ l1 then
    fX7_set_30 zFU M
  else
    if oob (l1) 3 then none else
    fX7_set_12 n ((l1 + 1)) (wr M 165 (Int32.toNatClampNeg l1) 0)
set_option maxRecDepth 4000 in
theorem tX7_set_12 : ∀ (n : Nat) (l1 : Int32) (M : zMM) (q : zMM), fX7_set_12 n l1 M = some q → zEV iX7_set 0 0 (zZO (none, q)) 12 [(0, .inr (.inr 158)), (1, .inl l1)] [] M := by
  intro n
  induction n with
  | zero =>
    intro l1 M q h
    rw [fX7_set_12] at h
    cases h
  | succ n ih =>
    intro l1 M q h
    rw [fX7_set_12] at h
    refine zEV.iload_n dX7_set_12 rfl 1 rfl ?_
    refine zEV.iconst (v := 3) dX7_set_13 rfl ?_
    refine zEV.icmp_ge 30 dX7_set_14 (by decide) (fun c1 => ?_) (fun c1 => ?_)
    · rw [if_pos c1] at h
      exact zEV.perm [0] rfl (tX7_set_30 zFU M q h)
    · rw [if_neg c1] at h
      refine zEV.aload_n dX7_set_17 rfl 0 rfl ?_
      refine zEV.gfr rfl inz7 13 (by decide) wf_RX7_30 (by decide) rfl rfl dX7_set_18 ?_
      refine zEV.iload_n dX7_set_21 rfl 1 rfl ?_
      refine zEV.iconst (v := 0) dX7_set_22 rfl ?_
      obtain ⟨g2, h⟩ := ite_no h
      refine zEV.iast (by decide) rfl g2 dX7_set_23 ?_
      refine zEV.iinc (v := (l1 + 1)) dX7_set_24 1 rfl rfl (Nat.le_of_ble_eq_true rfl) rfl ?_
      refine zEV.goto 12 dX7_set_27 (by decide) ?_
      exact zEV.perm [1, 0] rfl (ih ((l1 + 1)) (wr M 165 (Int32.toNatClampNeg l1) 0) q h)
def fX7_set (M : zMM) : Option (zMM) :=
  fX7_set_12 zFU (0) (wr (wr M 158 11 0) 158 14 0)
set_option maxRecDepth 4000 in
theorem tX7_set_0 (M : zMM) (q : zMM) (h : fX7_set  M = some q) : zEV iX7_set 0 0 (zZO (none, q)) 0 [(0, .inr (.inr 158))] [] M := by
  unfold fX7_set at h
  refine zEV.aload_n dX7_set_0 rfl 0 rfl ?_
  refine zEV.iconst (v := 0) dX7_set_1 rfl ?_
  refine zEV.pfi rfl inz7 tyX7 tyX7_ok nmX7 11 (by decide) wf_RX7_144 rfl (by decide +kernel) (by decide) rfl rfl dX7_set_2 ?_
  refine zEV.aload_n dX7_set_5 rfl 0 rfl ?_
  refine zEV.iconst (v := 0) dX7_set_6 rfl ?_
  refine zEV.pfi rfl inz7 tyX7 tyX7_ok nmX7 14 (by decide) wf_RX7_154 rfl (by decide +kernel) (by decide) rfl rfl dX7_set_7 ?_
  refine zEV.iconst (v := 0) dX7_set_10 rfl ?_
  refine zEV.istore_n dX7_set_11 rfl (Nat.le_of_ble_eq_true rfl) rfl ?_
  exact zEV.perm [1, 0] rfl (tX7_set_12 zFU (0) (wr (wr M 158 11 0) 158 14 0) q h)
theorem kX7_set (M : zMM) (q : zMM) (h : fX7_set M = some q) : zCN yX7_set iX7_set [.inr (.inr 158)] M (none, q) :=
  zCN.of (by decide) rfl rfl (Nat.le_of_ble_eq_true rfl) (zEV.perm [0] rfl (tX7_set_0 M q h))
-- RingedPageModel.partAt
def fX7_partAt_61 (K3 : Int32 → zMM → Option (Int32 × zMM)) (a1 : Int32) (a2 : Int32) (a3 : Int32) (l4 : Int32) (M : zMM) : Option (Int32 × zMM) :=
  K3 ((l4 + 1)) M
set_option maxRecDepth 4000 in
theorem tX7_partAt_61 (K3 : Int32 → zMM → Option (Int32 × zMM)) (a1 : Int32) (a2 : Int32) (a3 : Int32) (hK3 : ∀ (l4 : Int32) (M : zMM) (q : Int32 × zMM), K3 l4 M = some q → zEV iX7_partAt 0 0 (zZO (some (.inl q.1), q.2)) 3 [(0, .inr (.inr 158)), (1, .inl a1), (2, .inl a2), (3, .inl a3), (4, .inl l4)] [] M) (l4 : Int32) (M : zMM) (q : Int32 × zMM) (h : fX7_partAt_61 K3 a1 a2 a3 l4 M = some q) : zEV iX7_partAt 0 0 (zZO (some (.inl q.1), q.2)) 61 [(0, .inr (.inr 158)), (1, .inl a1), (2, .inl a2), (3, .inl a3), (4, .inl l4)] [] M := by
  unfold fX7_partAt_61 at h
  refine zEV.iinc (v := (l4 + 1)) dX7_partAt_61 4 rfl rfl (Nat.le_of_ble_eq_true rfl) rfl ?_
  refine zEV.goto 3 dX7_partAt_64 (by decide) ?_
  exact zEV.perm [1, 2, 3, 4, 0] rfl (hK3 ((l4 + 1)) M q h)
def fX7_partAt_3 (a1 : Int32) (a2 : Int32) (a3 : Int32) : Nat → Int32 → zMM → Option (Int32 × zMM)
  | 0, _, _ => none
  | n + 1, l4, M =>
  if (M.1 158 11) ≤ l4 then
    some ((-1), M)
  else
    if oob ((8 * l4)) 1680 then none else
    if (M.1 163 (Int32.toNatClampNeg (8 * l4))) = a3 then
      if oob (((8 * l4) + 1)) 1680 then none else
      if (M.1 163 (Int32.toNatClampNeg ((8 * l4) + 1))) = a1 then
        if oob (((8 * l4) + 2)) 1680 then none else
        if (M.1 163 (Int32.toNatClampNeg ((8 * l4) + 2))) = a2 then
          some (l4, M)
        else
          fX7_partAt_61 (fX7_partAt_3 a1 a2 a3 n) a1 a2 a3 (l4) M
      else
        fX7_partAt_61 (fX7_partAt_3 a1 a2 a3 n) a1 a2 a3 (l4) M
    else
      fX7_partAt_61 (fX7_partAt_3 a1 a2 a3 n) a1 a2 a3 (l4) M
set_option maxRecDepth 4000 in
theorem tX7_partAt_3 (a1 : Int32) (a2 : Int32) (a3 : Int32) : ∀ (n : Nat) (l4 : Int32) (M : zMM) (q : Int32 × zMM), fX7_partAt_3 a1 a2 a3 n l4 M = some q → zEV iX7_partAt 0 0 (zZO (some (.inl q.1), q.2)) 3 [(0, .inr (.inr 158)), (1, .inl a1), (2, .inl a2), (3, .inl a3), (4, .inl l4)] [] M := by
  intro n
  induction n with
  | zero =>
    intro l4 M q h
    rw [fX7_partAt_3] at h
    cases h
  | succ n ih =>
    intro l4 M q h
    rw [fX7_partAt_3] at h
    refine zEV.iload dX7_partAt_3 4 rfl ?_
    refine zEV.aload_n dX7_partAt_5 rfl 0 rfl ?_
    refine zEV.gfi rfl inz7 11 (by decide) wf_RX7_144 (by decide) rfl rfl dX7_partAt_6 ?_
    refine zEV.icmp_ge 67 dX7_partAt_9 (by decide) (fun c1 => ?_) (fun c1 => ?_)
    · rw [if_pos c1] at h
      refine zEV.iconst (v := (-1)) dX7_partAt_67 rfl ?_
      cases h
      exact zEV.iret rfl dX7_partAt_68
    · rw [if_neg c1] at h
      refine zEV.aload_n dX7_partAt_12 rfl 0 rfl ?_
      refine zEV.gfr rfl inz7 10 (by decide) wf_RX7_24 (by decide) rfl rfl dX7_partAt_13 ?_
      refine zEV.bipush (v := 8) dX7_partAt_16 rfl ?_
      refine zEV.iload dX7_partAt_18 4 rfl ?_
      refine zEV.imul dX7_partAt_20 ?_
      obtain ⟨g2, h⟩ := ite_no h
      refine zEV.iald (by decide) rfl g2 dX7_partAt_21 ?_
      refine zEV.iload_n dX7_partAt_22 rfl 3 rfl ?_
      refine zEV.icmp_ne 61 dX7_partAt_23 (by decide) (fun c3 => ?_) (fun c3 => ?_)
      · rw [if_neg c3] at h
        exact zEV.perm [0, 1, 2, 3, 4] rfl (tX7_partAt_61 (fX7_partAt_3 a1 a2 a3 n) a1 a2 a3 (fun l4 M9 q9 h9 => ih l4 M9 q9 h9) (l4) M q h)
      · rw [if_pos c3] at h
        refine zEV.aload_n dX7_partAt_26 rfl 0 rfl ?_
        refine zEV.gfr rfl inz7 10 (by decide) wf_RX7_24 (by decide) rfl rfl dX7_partAt_27 ?_
        refine zEV.bipush (v := 8) dX7_partAt_30 rfl ?_
        refine zEV.iload dX7_partAt_32 4 rfl ?_
        refine zEV.imul dX7_partAt_34 ?_
        refine zEV.iconst (v := 1) dX7_partAt_35 rfl ?_
        refine zEV.iadd dX7_partAt_36 ?_
        obtain ⟨g4, h⟩ := ite_no h
        refine zEV.iald (by decide) rfl g4 dX7_partAt_37 ?_
        refine zEV.iload_n dX7_partAt_38 rfl 1 rfl ?_
        refine zEV.icmp_ne 61 dX7_partAt_39 (by decide) (fun c5 => ?_) (fun c5 => ?_)
        · rw [if_neg c5] at h
          exact zEV.perm [0, 1, 2, 3, 4] rfl (tX7_partAt_61 (fX7_partAt_3 a1 a2 a3 n) a1 a2 a3 (fun l4 M9 q9 h9 => ih l4 M9 q9 h9) (l4) M q h)
        · rw [if_pos c5] at h
          refine zEV.aload_n dX7_partAt_42 rfl 0 rfl ?_
          refine zEV.gfr rfl inz7 10 (by decide) wf_RX7_24 (by decide) rfl rfl dX7_partAt_43 ?_
          refine zEV.bipush (v := 8) dX7_partAt_46 rfl ?_
          refine zEV.iload dX7_partAt_48 4 rfl ?_
          refine zEV.imul dX7_partAt_50 ?_
          refine zEV.iconst (v := 2) dX7_partAt_51 rfl ?_
          refine zEV.iadd dX7_partAt_52 ?_
          obtain ⟨g6, h⟩ := ite_no h
          refine zEV.iald (by decide) rfl g6 dX7_partAt_53 ?_
          refine zEV.iload_n dX7_partAt_54 rfl 2 rfl ?_
          refine zEV.icmp_ne 61 dX7_partAt_55 (by decide) (fun c7 => ?_) (fun c7 => ?_)
          · rw [if_neg c7] at h
            exact zEV.perm [0, 1, 2, 3, 4] rfl (tX7_partAt_61 (fX7_partAt_3 a1 a2 a3 n) a1 a2 a3 (fun l4 M9 q9 h9 => ih l4 M9 q9 h9) (l4) M q h)
          · rw [if_pos c7] at h
            refine zEV.iload dX7_partAt_58 4 rfl ?_
            cases h
            exact zEV.iret rfl dX7_partAt_60
def fX7_partAt (a1 : Int32) (a2 : Int32) (a3 : Int32) (M : zMM) : Option (Int32 × zMM) :=
  fX7_partAt_3 a1 a2 a3 zFU (0) M
set_option maxRecDepth 4000 in
theorem tX7_partAt_0 (a1 : Int32) (a2 : Int32) (a3 : Int32) (M : zMM) (q : Int32 × zMM) (h : fX7_partAt a1 a2 a3  M = some q) : zEV iX7_partAt 0 0 (zZO (some (.inl q.1), q.2)) 0 [(0, .inr (.inr 158)), (1, .inl a1), (2, .inl a2), (3, .inl a3)] [] M := by
  unfold fX7_partAt at h
  refine zEV.iconst (v := 0) dX7_partAt_0 rfl ?_
  refine zEV.istore dX7_partAt_1 (Nat.le_of_ble_eq_true rfl) rfl ?_
  exact zEV.perm [1, 2, 3, 4, 0] rfl (tX7_partAt_3 a1 a2 a3 zFU (0) M q h)
theorem kX7_partAt (a1 : Int32) (a2 : Int32) (a3 : Int32) (M : zMM) (q : Int32 × zMM) (h : fX7_partAt a1 a2 a3 M = some q) : zCN yX7_partAt iX7_partAt [.inr (.inr 158), .inl a1, .inl a2, .inl a3] M (some (.inl q.1), q.2) :=
  zCN.of (by decide) rfl rfl (Nat.le_of_ble_eq_true rfl) (zEV.perm [0, 1, 2, 3] rfl (tX7_partAt_0 a1 a2 a3 M q h))
-- RingedPageModel.told
def fX7_told (a1 : Int32) (a2 : Int32) (M : zMM) : Option (Int32 × zMM) :=
  if oob (((8 * a1) + a2)) 1680 then none else
  some ((M.1 163 (Int32.toNatClampNeg ((8 * a1) + a2))), M)
set_option maxRecDepth 4000 in
theorem tX7_told_0 (a1 : Int32) (a2 : Int32) (M : zMM) (q : Int32 × zMM) (h : fX7_told a1 a2  M = some q) : zEV iX7_told 0 0 (zZO (some (.inl q.1), q.2)) 0 [(0, .inr (.inr 158)), (1, .inl a1), (2, .inl a2)] [] M := by
  unfold fX7_told at h
  refine zEV.aload_n dX7_told_0 rfl 0 rfl ?_
  refine zEV.gfr rfl inz7 10 (by decide) wf_RX7_24 (by decide) rfl rfl dX7_told_1 ?_
  refine zEV.bipush (v := 8) dX7_told_4 rfl ?_
  refine zEV.iload_n dX7_told_6 rfl 1 rfl ?_
  refine zEV.imul dX7_told_7 ?_
  refine zEV.iload_n dX7_told_8 rfl 2 rfl ?_
  refine zEV.iadd dX7_told_9 ?_
  obtain ⟨g1, h⟩ := ite_no h
  refine zEV.iald (by decide) rfl g1 dX7_told_10 ?_
  cases h
  exact zEV.iret rfl dX7_told_11
theorem kX7_told (a1 : Int32) (a2 : Int32) (M : zMM) (q : Int32 × zMM) (h : fX7_told a1 a2 M = some q) : zCN yX7_told iX7_told [.inr (.inr 158), .inl a1, .inl a2] M (some (.inl q.1), q.2) :=
  zCN.of (by decide) rfl rfl (Nat.le_of_ble_eq_true rfl) (zEV.perm [0, 1, 2] rfl (tX7_told_0 a1 a2 M q h))
-- RingedPageModel.pages
def fX7_pages_40 (s0 : Int64) (M : zMM) : Option (Int32 × zMM) :=
  (fX7_tell (s0) M).bind fun q1 =>
  some ((q1.1 158 14), q1)
set_option maxRecDepth 4000 in
theorem tX7_pages_40 (s0 : Int64) (M : zMM) (q : Int32 × zMM) (h : fX7_pages_40 s0 M = some q) : zEV iX7_pages 0 0 (zZO (some (.inl q.1), q.2)) 40 [(0, .inr (.inr 158))] [.inr (.inl s0), .inr (.inr 158)] M := by
  unfold fX7_pages_40 at h
  obtain ⟨q1, hq1, h⟩ := bind_yes h
  refine zEV.callVv (kX7_tell (s0)  M q1 hq1) (by decide) rfl rfl wm_RX7_135 wc_X7_tell hy_X7_tell rfl ⟨Nat.le_of_ble_eq_true rfl, Nat.le_of_ble_eq_true rfl⟩ rfl (Nat.le_of_ble_eq_true rfl) dX7_pages_40 ?_
  refine zEV.aload_n dX7_pages_43 rfl 0 rfl ?_
  refine zEV.gfi rfl inz7 14 (by decide) wf_RX7_154 (by decide) rfl rfl dX7_pages_44 ?_
  cases h
  exact zEV.iret rfl dX7_pages_47
def fX7_pages (M : zMM) : Option (Int32 × zMM) :=
  (fX7_set  (wr M 158 5 0)).bind fun q1 =>
  if ((wr q1 158 4 0).1 158 11) = (0 : Int32) then
    fX7_pages_40 ((0 : Int64)) (wr q1 158 4 0)
  else
    (fX7_told ((((wr q1 158 4 0).1 158 11) - 1)) (2) (wr q1 158 4 0)).bind fun q3 =>
    fX7_pages_40 ((Int32.toInt64 (q3.1 + 1))) q3.2
set_option maxRecDepth 4000 in
theorem tX7_pages_0 (M : zMM) (q : Int32 × zMM) (h : fX7_pages  M = some q) : zEV iX7_pages 0 0 (zZO (some (.inl q.1), q.2)) 0 [(0, .inr (.inr 158))] [] M := by
  unfold fX7_pages at h
  refine zEV.aload_n dX7_pages_0 rfl 0 rfl ?_
  refine zEV.iconst (v := 0) dX7_pages_1 rfl ?_
  refine zEV.pfi rfl inz7 tyX7 tyX7_ok nmX7 5 (by decide) wf_RX7_58 rfl (by decide +kernel) (by decide) rfl rfl dX7_pages_2 ?_
  refine zEV.aload_n dX7_pages_5 rfl 0 rfl ?_
  obtain ⟨q1, hq1, h⟩ := bind_yes h
  refine zEV.callVv (kX7_set   (wr M 158 5 0) q1 hq1) (by decide) rfl rfl wm_RX7_164 wc_X7_set hy_X7_set rfl ⟨Nat.le_of_ble_eq_true rfl, Nat.le_of_ble_eq_true rfl⟩ rfl (Nat.le_of_ble_eq_true rfl) dX7_pages_6 ?_
  refine zEV.aload_n dX7_pages_9 rfl 0 rfl ?_
  refine zEV.iconst (v := 0) dX7_pages_10 rfl ?_
  refine zEV.pfi rfl inz7 tyX7 tyX7_ok nmX7 4 (by decide) wf_RX7_62 rfl (by decide +kernel) (by decide) rfl rfl dX7_pages_11 ?_
  refine zEV.aload_n dX7_pages_14 rfl 0 rfl ?_
  refine zEV.aload_n dX7_pages_15 rfl 0 rfl ?_
  refine zEV.gfi rfl inz7 11 (by decide) wf_RX7_144 (by decide) rfl rfl dX7_pages_16 ?_
  refine zEV.if_ne 26 dX7_pages_19 (by decide) (fun c2 => ?_) (fun c2 => ?_)
  · rw [if_neg c2] at h
    refine zEV.aload_n dX7_pages_26 rfl 0 rfl ?_
    refine zEV.aload_n dX7_pages_27 rfl 0 rfl ?_
    refine zEV.gfi rfl inz7 11 (by decide) wf_RX7_144 (by decide) rfl rfl dX7_pages_28 ?_
    refine zEV.iconst (v := 1) dX7_pages_31 rfl ?_
    refine zEV.isub dX7_pages_32 ?_
    refine zEV.iconst (v := 2) dX7_pages_33 rfl ?_
    obtain ⟨q3, hq3, h⟩ := bind_yes h
    refine zEV.callVi (kX7_told ((((wr q1 158 4 0).1 158 11) - 1)) (2)  (wr q1 158 4 0) q3 hq3) (by decide) rfl rfl wm_RX7_167 wc_X7_told hy_X7_told rfl ⟨Nat.le_of_ble_eq_true rfl, Nat.le_of_ble_eq_true rfl⟩ rfl (Nat.le_of_ble_eq_true rfl) dX7_pages_34 ?_
    refine zEV.iconst (v := 1) dX7_pages_37 rfl ?_
    refine zEV.iadd dX7_pages_38 ?_
    refine zEV.i2l dX7_pages_39 ?_
    exact zEV.perm [0] rfl (tX7_pages_40 ((Int32.toInt64 (q3.1 + 1))) q3.2 q h)
  · rw [if_pos c2] at h
    refine zEV.lconst (v := 0) dX7_pages_22 rfl ?_
    refine zEV.goto 40 dX7_pages_23 (by decide) ?_
    exact zEV.perm [0] rfl (tX7_pages_40 ((0 : Int64)) (wr q1 158 4 0) q h)
theorem kX7_pages (M : zMM) (q : Int32 × zMM) (h : fX7_pages M = some q) : zCN yX7_pages iX7_pages [.inr (.inr 158)] M (some (.inl q.1), q.2) :=
  zCN.of (by decide) rfl rfl (Nat.le_of_ble_eq_true rfl) (zEV.perm [0] rfl (tX7_pages_0 M q h))
-- RingedPageModel.isLine
def fX7_isLine (a1 : Int32) (a2 : Int32) (M : zMM) : Option (Int32 × zMM) :=
  (fX7_in (a1) (0) (((M.1 158 14) - 1)) M).bind fun q1 =>
  if q1.1 = (0 : Int32) then
    some (0, q1.2)
  else
    if oob (1) 259 then none else
    (fX7_in (a2) (0) (((q1.2.1 159 (Int32.toNatClampNeg 1)) - 1)) q1.2).bind fun q4 =>
    if q4.1 = (0 : Int32) then
      some (0, q4.2)
    else
      some (1, q4.2)
set_option maxRecDepth 4000 in
theorem tX7_isLine_0 (a1 : Int32) (a2 : Int32) (M : zMM) (q : Int32 × zMM) (h : fX7_isLine a1 a2  M = some q) : zEV iX7_isLine 0 0 (zZO (some (.inl q.1), q.2)) 0 [(0, .inr (.inr 158)), (1, .inl a1), (2, .inl a2)] [] M := by
  unfold fX7_isLine at h
  refine zEV.iload_n dX7_isLine_0 rfl 1 rfl ?_
  refine zEV.iconst (v := 0) dX7_isLine_1 rfl ?_
  refine zEV.aload_n dX7_isLine_2 rfl 0 rfl ?_
  refine zEV.gfi rfl inz7 14 (by decide) wf_RX7_154 (by decide) rfl rfl dX7_isLine_3 ?_
  refine zEV.iconst (v := 1) dX7_isLine_6 rfl ?_
  refine zEV.isub dX7_isLine_7 ?_
  obtain ⟨q1, hq1, h⟩ := bind_yes h
  refine zEV.callSi (kX7_in (a1) (0) (((M.1 158 14) - 1))  M q1 hq1) wm_RX7_65 wc_X7_in hy_X7_in rfl ⟨Nat.le_of_ble_eq_true rfl, Nat.le_of_ble_eq_true rfl⟩ rfl (Nat.le_of_ble_eq_true rfl) dX7_isLine_8 ?_
  refine zEV.if_eq 34 dX7_isLine_11 (by decide) (fun c2 => ?_) (fun c2 => ?_)
  · rw [if_pos c2] at h
    refine zEV.iconst (v := 0) dX7_isLine_34 rfl ?_
    cases h
    exact zEV.zret rfl (Or.inl rfl) dX7_isLine_35
  · rw [if_neg c2] at h
    refine zEV.iload_n dX7_isLine_14 rfl 2 rfl ?_
    refine zEV.iconst (v := 0) dX7_isLine_15 rfl ?_
    refine zEV.aload_n dX7_isLine_16 rfl 0 rfl ?_
    refine zEV.gfr rfl inz7 0 (by decide) wf_RX7_9 (by decide) rfl rfl dX7_isLine_17 ?_
    refine zEV.iconst (v := 1) dX7_isLine_20 rfl ?_
    obtain ⟨g3, h⟩ := ite_no h
    refine zEV.iald (by decide) rfl g3 dX7_isLine_21 ?_
    refine zEV.iconst (v := 1) dX7_isLine_22 rfl ?_
    refine zEV.isub dX7_isLine_23 ?_
    obtain ⟨q4, hq4, h⟩ := bind_yes h
    refine zEV.callSi (kX7_in (a2) (0) (((q1.2.1 159 (Int32.toNatClampNeg 1)) - 1))  q1.2 q4 hq4) wm_RX7_65 wc_X7_in hy_X7_in rfl ⟨Nat.le_of_ble_eq_true rfl, Nat.le_of_ble_eq_true rfl⟩ rfl (Nat.le_of_ble_eq_true rfl) dX7_isLine_24 ?_
    refine zEV.if_eq 34 dX7_isLine_27 (by decide) (fun c5 => ?_) (fun c5 => ?_)
    · rw [if_pos c5] at h
      refine zEV.iconst (v := 0) dX7_isLine_34 rfl ?_
      cases h
      exact zEV.zret rfl (Or.inl rfl) dX7_isLine_35
    · rw [if_neg c5] at h
      refine zEV.iconst (v := 1) dX7_isLine_30 rfl ?_
      refine zEV.goto 35 dX7_isLine_31 (by decide) ?_
      cases h
      exact zEV.zret rfl (Or.inr rfl) dX7_isLine_35
theorem kX7_isLine (a1 : Int32) (a2 : Int32) (M : zMM) (q : Int32 × zMM) (h : fX7_isLine a1 a2 M = some q) : zCN yX7_isLine iX7_isLine [.inr (.inr 158), .inl a1, .inl a2] M (some (.inl q.1), q.2) :=
  zCN.of (by decide) rfl rfl (Nat.le_of_ble_eq_true rfl) (zEV.perm [0, 1, 2] rfl (tX7_isLine_0 a1 a2 M q h))
-- RingedPageModel.part
def fX7_part (a1 : Int32) (a2 : Int32) (a3 : Int32) (M : zMM) : Option (Int32 × zMM) :=
  (fX7_set  (wr M 158 5 0)).bind fun q1 =>
  (fX7_isText (a3) q1).bind fun q2 =>
  if q2.1 = (0 : Int32) then
    some ((-1), q2.2)
  else
    (fX7_isLine (a1) (a2) q2.2).bind fun q4 =>
    if q4.1 = (0 : Int32) then
      some ((-1), q4.2)
    else
      (fX7_partAt (a1) (a2) (a3) q4.2).bind fun q6 =>
      if q6.1 = (-1) then
        some ((-2), q6.2)
      else
        (fX7_told (q6.1) (3) (wr q6.2 158 4 0)).bind fun q8 =>
        (fX7_tell ((Int32.toInt64 q8.1)) q8.2).bind fun q9 =>
        (fX7_told (q6.1) (5) q9).bind fun q10 =>
        (fX7_tell ((Int32.toInt64 q10.1)) q10.2).bind fun q11 =>
        (fX7_told (q6.1) (6) q11).bind fun q12 =>
        (fX7_tell ((Int32.toInt64 q12.1)) q12.2).bind fun q13 =>
        (fX7_told (q6.1) (7) q13).bind fun q14 =>
        (fX7_tell ((Int32.toInt64 q14.1)) q14.2).bind fun q15 =>
        (fX7_told (q6.1) (4) q15).bind fun q16 =>
        some (q16.1, q16.2)
set_option maxRecDepth 4000 in
theorem tX7_part_0 (a1 : Int32) (a2 : Int32) (a3 : Int32) (M : zMM) (q : Int32 × zMM) (h : fX7_part a1 a2 a3  M = some q) : zEV iX7_part 0 0 (zZO (some (.inl q.1), q.2)) 0 [(0, .inr (.inr 158)), (1, .inl a1), (2, .inl a2), (3, .inl a3)] [] M := by
  unfold fX7_part at h
  refine zEV.aload_n dX7_part_0 rfl 0 rfl ?_
  refine zEV.iconst (v := 0) dX7_part_1 rfl ?_
  refine zEV.pfi rfl inz7 tyX7 tyX7_ok nmX7 5 (by decide) wf_RX7_58 rfl (by decide +kernel) (by decide) rfl rfl dX7_part_2 ?_
  refine zEV.aload_n dX7_part_5 rfl 0 rfl ?_
  obtain ⟨q1, hq1, h⟩ := bind_yes h
  refine zEV.callVv (kX7_set   (wr M 158 5 0) q1 hq1) (by decide) rfl rfl wm_RX7_164 wc_X7_set hy_X7_set rfl ⟨Nat.le_of_ble_eq_true rfl, Nat.le_of_ble_eq_true rfl⟩ rfl (Nat.le_of_ble_eq_true rfl) dX7_part_6 ?_
  refine zEV.iload_n dX7_part_9 rfl 3 rfl ?_
  obtain ⟨q2, hq2, h⟩ := bind_yes h
  refine zEV.callSi (kX7_isText (a3)  q1 q2 hq2) wm_RX7_69 wc_X7_isText hy_X7_isText rfl ⟨Nat.le_of_ble_eq_true rfl, Nat.le_of_ble_eq_true rfl⟩ rfl (Nat.le_of_ble_eq_true rfl) dX7_part_10 ?_
  refine zEV.if_eq 25 dX7_part_13 (by decide) (fun c3 => ?_) (fun c3 => ?_)
  · rw [if_pos c3] at h
    refine zEV.iconst (v := (-1)) dX7_part_25 rfl ?_
    cases h
    exact zEV.iret rfl dX7_part_26
  · rw [if_neg c3] at h
    refine zEV.aload_n dX7_part_16 rfl 0 rfl ?_
    refine zEV.iload_n dX7_part_17 rfl 1 rfl ?_
    refine zEV.iload_n dX7_part_18 rfl 2 rfl ?_
    obtain ⟨q4, hq4, h⟩ := bind_yes h
    refine zEV.callVi (kX7_isLine (a1) (a2)  q2.2 q4 hq4) (by decide) rfl rfl wm_RX7_170 wc_X7_isLine hy_X7_isLine rfl ⟨Nat.le_of_ble_eq_true rfl, Nat.le_of_ble_eq_true rfl⟩ rfl (Nat.le_of_ble_eq_true rfl) dX7_part_19 ?_
    refine zEV.if_ne 27 dX7_part_22 (by decide) (fun c5 => ?_) (fun c5 => ?_)
    · rw [if_neg c5] at h
      refine zEV.aload_n dX7_part_27 rfl 0 rfl ?_
      refine zEV.iload_n dX7_part_28 rfl 1 rfl ?_
      refine zEV.iload_n dX7_part_29 rfl 2 rfl ?_
      refine zEV.iload_n dX7_part_30 rfl 3 rfl ?_
      obtain ⟨q6, hq6, h⟩ := bind_yes h
      refine zEV.callVi (kX7_partAt (a1) (a2) (a3)  q4.2 q6 hq6) (by decide) rfl rfl wm_RX7_173 wc_X7_partAt hy_X7_partAt rfl ⟨Nat.le_of_ble_eq_true rfl, Nat.le_of_ble_eq_true rfl⟩ rfl (Nat.le_of_ble_eq_true rfl) dX7_part_31 ?_
      refine zEV.istore dX7_part_34 (Nat.le_of_ble_eq_true rfl) rfl ?_
      refine zEV.iload dX7_part_36 0 rfl ?_
      refine zEV.iconst (v := (-1)) dX7_part_38 rfl ?_
      refine zEV.icmp_ne 45 dX7_part_39 (by decide) (fun c7 => ?_) (fun c7 => ?_)
      · rw [if_neg c7] at h
        refine zEV.aload_n dX7_part_45 rfl 1 rfl ?_
        refine zEV.iconst (v := 0) dX7_part_46 rfl ?_
        refine zEV.pfi rfl inz7 tyX7 tyX7_ok nmX7 4 (by decide) wf_RX7_62 rfl (by decide +kernel) (by decide) rfl rfl dX7_part_47 ?_
        refine zEV.aload_n dX7_part_50 rfl 1 rfl ?_
        refine zEV.aload_n dX7_part_51 rfl 1 rfl ?_
        refine zEV.iload dX7_part_52 0 rfl ?_
        refine zEV.iconst (v := 3) dX7_part_54 rfl ?_
        obtain ⟨q8, hq8, h⟩ := bind_yes h
        refine zEV.callVi (kX7_told (q6.1) (3)  (wr q6.2 158 4 0) q8 hq8) (by decide) rfl rfl wm_RX7_167 wc_X7_told hy_X7_told rfl ⟨Nat.le_of_ble_eq_true rfl, Nat.le_of_ble_eq_true rfl⟩ rfl (Nat.le_of_ble_eq_true rfl) dX7_part_55 ?_
        refine zEV.i2l dX7_part_58 ?_
        obtain ⟨q9, hq9, h⟩ := bind_yes h
        refine zEV.callVv (kX7_tell ((Int32.toInt64 q8.1))  q8.2 q9 hq9) (by decide) rfl rfl wm_RX7_135 wc_X7_tell hy_X7_tell rfl ⟨Nat.le_of_ble_eq_true rfl, Nat.le_of_ble_eq_true rfl⟩ rfl (Nat.le_of_ble_eq_true rfl) dX7_part_59 ?_
        refine zEV.aload_n dX7_part_62 rfl 1 rfl ?_
        refine zEV.aload_n dX7_part_63 rfl 1 rfl ?_
        refine zEV.iload dX7_part_64 0 rfl ?_
        refine zEV.iconst (v := 5) dX7_part_66 rfl ?_
        obtain ⟨q10, hq10, h⟩ := bind_yes h
        refine zEV.callVi (kX7_told (q6.1) (5)  q9 q10 hq10) (by decide) rfl rfl wm_RX7_167 wc_X7_told hy_X7_told rfl ⟨Nat.le_of_ble_eq_true rfl, Nat.le_of_ble_eq_true rfl⟩ rfl (Nat.le_of_ble_eq_true rfl) dX7_part_67 ?_
        refine zEV.i2l dX7_part_70 ?_
        obtain ⟨q11, hq11, h⟩ := bind_yes h
        refine zEV.callVv (kX7_tell ((Int32.toInt64 q10.1))  q10.2 q11 hq11) (by decide) rfl rfl wm_RX7_135 wc_X7_tell hy_X7_tell rfl ⟨Nat.le_of_ble_eq_true rfl, Nat.le_of_ble_eq_true rfl⟩ rfl (Nat.le_of_ble_eq_true rfl) dX7_part_71 ?_
        refine zEV.aload_n dX7_part_74 rfl 1 rfl ?_
        refine zEV.aload_n dX7_part_75 rfl 1 rfl ?_
        refine zEV.iload dX7_part_76 0 rfl ?_
        refine zEV.bipush (v := 6) dX7_part_78 rfl ?_
        obtain ⟨q12, hq12, h⟩ := bind_yes h
        refine zEV.callVi (kX7_told (q6.1) (6)  q11 q12 hq12) (by decide) rfl rfl wm_RX7_167 wc_X7_told hy_X7_told rfl ⟨Nat.le_of_ble_eq_true rfl, Nat.le_of_ble_eq_true rfl⟩ rfl (Nat.le_of_ble_eq_true rfl) dX7_part_80 ?_
        refine zEV.i2l dX7_part_83 ?_
        obtain ⟨q13, hq13, h⟩ := bind_yes h
        refine zEV.callVv (kX7_tell ((Int32.toInt64 q12.1))  q12.2 q13 hq13) (by decide) rfl rfl wm_RX7_135 wc_X7_tell hy_X7_tell rfl ⟨Nat.le_of_ble_eq_true rfl, Nat.le_of_ble_eq_true rfl⟩ rfl (Nat.le_of_ble_eq_true rfl) dX7_part_84 ?_
        refine zEV.aload_n dX7_part_87 rfl 1 rfl ?_
        refine zEV.aload_n dX7_part_88 rfl 1 rfl ?_
        refine zEV.iload dX7_part_89 0 rfl ?_
        refine zEV.bipush (v := 7) dX7_part_91 rfl ?_
        obtain ⟨q14, hq14, h⟩ := bind_yes h
        refine zEV.callVi (kX7_told (q6.1) (7)  q13 q14 hq14) (by decide) rfl rfl wm_RX7_167 wc_X7_told hy_X7_told rfl ⟨Nat.le_of_ble_eq_true rfl, Nat.le_of_ble_eq_true rfl⟩ rfl (Nat.le_of_ble_eq_true rfl) dX7_part_93 ?_
        refine zEV.i2l dX7_part_96 ?_
        obtain ⟨q15, hq15, h⟩ := bind_yes h
        refine zEV.callVv (kX7_tell ((Int32.toInt64 q14.1))  q14.2 q15 hq15) (by decide) rfl rfl wm_RX7_135 wc_X7_tell hy_X7_tell rfl ⟨Nat.le_of_ble_eq_true rfl, Nat.le_of_ble_eq_true rfl⟩ rfl (Nat.le_of_ble_eq_true rfl) dX7_part_97 ?_
        refine zEV.aload_n dX7_part_100 rfl 1 rfl ?_
        refine zEV.iload dX7_part_101 0 rfl ?_
        refine zEV.iconst (v := 4) dX7_part_103 rfl ?_
        obtain ⟨q16, hq16, h⟩ := bind_yes h
        refine zEV.callVi (kX7_told (q6.1) (4)  q15 q16 hq16) (by decide) rfl rfl wm_RX7_167 wc_X7_told hy_X7_told rfl ⟨Nat.le_of_ble_eq_true rfl, Nat.le_of_ble_eq_true rfl⟩ rfl (Nat.le_of_ble_eq_true rfl) dX7_part_104 ?_
        cases h
        exact zEV.iret rfl dX7_part_107
      · rw [if_pos c7] at h
        refine zEV.bipush (v := (-2)) dX7_part_42 rfl ?_
        cases h
        exact zEV.iret rfl dX7_part_44
    · rw [if_pos c5] at h
      refine zEV.iconst (v := (-1)) dX7_part_25 rfl ?_
      cases h
      exact zEV.iret rfl dX7_part_26
theorem kX7_part (a1 : Int32) (a2 : Int32) (a3 : Int32) (M : zMM) (q : Int32 × zMM) (h : fX7_part a1 a2 a3 M = some q) : zCN yX7_part iX7_part [.inr (.inr 158), .inl a1, .inl a2, .inl a3] M (some (.inl q.1), q.2) :=
  zCN.of (by decide) rfl rfl (Nat.le_of_ble_eq_true rfl) (zEV.perm [0, 1, 2, 3] rfl (tX7_part_0 a1 a2 a3 M q h))
-- RingedPageModel.isLastPart
def fX7_isLastPart (a1 : Int32) (M : zMM) : Option (Int32 × zMM) :=
  (fX7_told (a1) (3) M).bind fun q1 =>
  (fX7_told (a1) (4) q1.2).bind fun q2 =>
  (fX7_told (a1) (0) q2.2).bind fun q3 =>
  if oob ((5 + q3.1)) 259 then none else
  if (q1.1 + q2.1) = (q3.2.1 159 (Int32.toNatClampNeg (5 + q3.1))) then
    some (1, q3.2)
  else
    some (0, q3.2)
set_option maxRecDepth 4000 in
theorem tX7_isLastPart_0 (a1 : Int32) (M : zMM) (q : Int32 × zMM) (h : fX7_isLastPart a1  M = some q) : zEV iX7_isLastPart 0 0 (zZO (some (.inl q.1), q.2)) 0 [(0, .inr (.inr 158)), (1, .inl a1)] [] M := by
  unfold fX7_isLastPart at h
  refine zEV.aload_n dX7_isLastPart_0 rfl 0 rfl ?_
  refine zEV.iload_n dX7_isLastPart_1 rfl 1 rfl ?_
  refine zEV.iconst (v := 3) dX7_isLastPart_2 rfl ?_
  obtain ⟨q1, hq1, h⟩ := bind_yes h
  refine zEV.callVi (kX7_told (a1) (3)  M q1 hq1) (by decide) rfl rfl wm_RX7_167 wc_X7_told hy_X7_told rfl ⟨Nat.le_of_ble_eq_true rfl, Nat.le_of_ble_eq_true rfl⟩ rfl (Nat.le_of_ble_eq_true rfl) dX7_isLastPart_3 ?_
  refine zEV.aload_n dX7_isLastPart_6 rfl 0 rfl ?_
  refine zEV.iload_n dX7_isLastPart_7 rfl 1 rfl ?_
  refine zEV.iconst (v := 4) dX7_isLastPart_8 rfl ?_
  obtain ⟨q2, hq2, h⟩ := bind_yes h
  refine zEV.callVi (kX7_told (a1) (4)  q1.2 q2 hq2) (by decide) rfl rfl wm_RX7_167 wc_X7_told hy_X7_told rfl ⟨Nat.le_of_ble_eq_true rfl, Nat.le_of_ble_eq_true rfl⟩ rfl (Nat.le_of_ble_eq_true rfl) dX7_isLastPart_9 ?_
  refine zEV.iadd dX7_isLastPart_12 ?_
  refine zEV.aload_n dX7_isLastPart_13 rfl 0 rfl ?_
  refine zEV.gfr rfl inz7 0 (by decide) wf_RX7_9 (by decide) rfl rfl dX7_isLastPart_14 ?_
  refine zEV.iconst (v := 5) dX7_isLastPart_17 rfl ?_
  refine zEV.aload_n dX7_isLastPart_18 rfl 0 rfl ?_
  refine zEV.iload_n dX7_isLastPart_19 rfl 1 rfl ?_
  refine zEV.iconst (v := 0) dX7_isLastPart_20 rfl ?_
  obtain ⟨q3, hq3, h⟩ := bind_yes h
  refine zEV.callVi (kX7_told (a1) (0)  q2.2 q3 hq3) (by decide) rfl rfl wm_RX7_167 wc_X7_told hy_X7_told rfl ⟨Nat.le_of_ble_eq_true rfl, Nat.le_of_ble_eq_true rfl⟩ rfl (Nat.le_of_ble_eq_true rfl) dX7_isLastPart_21 ?_
  refine zEV.iadd dX7_isLastPart_24 ?_
  obtain ⟨g4, h⟩ := ite_no h
  refine zEV.iald (by decide) rfl g4 dX7_isLastPart_25 ?_
  refine zEV.icmp_ne 33 dX7_isLastPart_26 (by decide) (fun c5 => ?_) (fun c5 => ?_)
  · rw [if_neg c5] at h
    refine zEV.iconst (v := 0) dX7_isLastPart_33 rfl ?_
    cases h
    exact zEV.zret rfl (Or.inl rfl) dX7_isLastPart_34
  · rw [if_pos c5] at h
    refine zEV.iconst (v := 1) dX7_isLastPart_29 rfl ?_
    refine zEV.goto 34 dX7_isLastPart_30 (by decide) ?_
    cases h
    exact zEV.zret rfl (Or.inr rfl) dX7_isLastPart_34
theorem kX7_isLastPart (a1 : Int32) (M : zMM) (q : Int32 × zMM) (h : fX7_isLastPart a1 M = some q) : zCN yX7_isLastPart iX7_isLastPart [.inr (.inr 158), .inl a1] M (some (.inl q.1), q.2) :=
  zCN.of (by decide) rfl rfl (Nat.le_of_ble_eq_true rfl) (zEV.perm [0, 1] rfl (tX7_isLastPart_0 a1 M q h))
-- RingedPageModel.columnOf
def fX7_columnOf_155 (K100 : Int32 → Int32 → Int32 → Int32 → Int32 → Int32 → zMM → Option (Int32 × zMM)) (a1 : Int32) (a2 : Int32) (l4 : Int32) (l5 : Int32) (l6 : Int32) (l7 : Int32) (l9 : Int32) (s0 : Int32) (s1 : Int32) (s2 : Int32) (M : zMM) : Option (Int32 × zMM) :=
  K100 (l4) (l5) (l6) (l7) ((s2 + (s1 + s0))) ((l9 + 1)) M
set_option maxRecDepth 4000 in
theorem tX7_columnOf_155 (K100 : Int32 → Int32 → Int32 → Int32 → Int32 → Int32 → zMM → Option (Int32 × zMM)) (a1 : Int32) (a2 : Int32) (hK100 : ∀ (l4 : Int32) (l5 : Int32) (l6 : Int32) (l7 : Int32) (l8 : Int32) (l9 : Int32) (M : zMM) (q : Int32 × zMM), K100 l4 l5 l6 l7 l8 l9 M = some q → zEV iX7_columnOf 0 0 (zZO (some (.inl q.1), q.2)) 100 [(0, .inr (.inr 158)), (1, .inl a1), (2, .inl a2), (4, .inl l4), (5, .inl l5), (6, .inl l6), (7, .inl l7), (8, .inl l8), (9, .inl l9)] [] M) (l4 : Int32) (l5 : Int32) (l6 : Int32) (l7 : Int32) (l9 : Int32) (s0 : Int32) (s1 : Int32) (s2 : Int32) (M : zMM) (q : Int32 × zMM) (h : fX7_columnOf_155 K100 a1 a2 l4 l5 l6 l7 l9 s0 s1 s2 M = some q) : zEV iX7_columnOf 0 0 (zZO (some (.inl q.1), q.2)) 155 [(0, .inr (.inr 158)), (1, .inl a1), (2, .inl a2), (4, .inl l4), (5, .inl l5), (6, .inl l6), (7, .inl l7), (9, .inl l9)] [.inl s0, .inl s1, .inl s2] M := by
  unfold fX7_columnOf_155 at h
  refine zEV.iadd dX7_columnOf_155 ?_
  refine zEV.iadd dX7_columnOf_156 ?_
  refine zEV.istore dX7_columnOf_157 (Nat.le_of_ble_eq_true rfl) rfl ?_
  refine zEV.iinc (v := (l9 + 1)) dX7_columnOf_159 8 rfl rfl (Nat.le_of_ble_eq_true rfl) rfl ?_
  refine zEV.goto 100 dX7_columnOf_162 (by decide) ?_
  exact zEV.perm [2, 3, 4, 5, 6, 7, 8, 1, 0] rfl (hK100 (l4) (l5) (l6) (l7) ((s2 + (s1 + s0))) ((l9 + 1)) M q h)
def fX7_columnOf_150 (K100 : Int32 → Int32 → Int32 → Int32 → Int32 → Int32 → zMM → Option (Int32 × zMM)) (a1 : Int32) (a2 : Int32) (l4 : Int32) (l5 : Int32) (l6 : Int32) (l7 : Int32) (l9 : Int32) (s0 : Int32) (s1 : Int32) (s2 : Int32) (s3 : Int32) (M : zMM) : Option (Int32 × zMM) :=
  fX7_columnOf_155 K100 a1 a2 (l4) (l5) (l6) (l7) (l9) ((s1 + s0)) (s2) (s3) M
set_option maxRecDepth 4000 in
theorem tX7_columnOf_150 (K100 : Int32 → Int32 → Int32 → Int32 → Int32 → Int32 → zMM → Option (Int32 × zMM)) (a1 : Int32) (a2 : Int32) (hK100 : ∀ (l4 : Int32) (l5 : Int32) (l6 : Int32) (l7 : Int32) (l8 : Int32) (l9 : Int32) (M : zMM) (q : Int32 × zMM), K100 l4 l5 l6 l7 l8 l9 M = some q → zEV iX7_columnOf 0 0 (zZO (some (.inl q.1), q.2)) 100 [(0, .inr (.inr 158)), (1, .inl a1), (2, .inl a2), (4, .inl l4), (5, .inl l5), (6, .inl l6), (7, .inl l7), (8, .inl l8), (9, .inl l9)] [] M) (l4 : Int32) (l5 : Int32) (l6 : Int32) (l7 : Int32) (l9 : Int32) (s0 : Int32) (s1 : Int32) (s2 : Int32) (s3 : Int32) (M : zMM) (q : Int32 × zMM) (h : fX7_columnOf_150 K100 a1 a2 l4 l5 l6 l7 l9 s0 s1 s2 s3 M = some q) : zEV iX7_columnOf 0 0 (zZO (some (.inl q.1), q.2)) 150 [(0, .inr (.inr 158)), (1, .inl a1), (2, .inl a2), (4, .inl l4), (5, .inl l5), (6, .inl l6), (7, .inl l7), (9, .inl l9)] [.inl s0, .inl s1, .inl s2, .inl s3] M := by
  unfold fX7_columnOf_150 at h
  refine zEV.iadd dX7_columnOf_150 ?_
  refine zEV.goto 155 dX7_columnOf_151 (by decide) ?_
  exact zEV.perm [0, 1, 2, 3, 4, 5, 6, 7] rfl (tX7_columnOf_155 K100 a1 a2 hK100 (l4) (l5) (l6) (l7) (l9) ((s1 + s0)) (s2) (s3) M q h)
def fX7_columnOf_100 (a1 : Int32) (a2 : Int32) : Nat → Int32 → Int32 → Int32 → Int32 → Int32 → Int32 → zMM → Option (Int32 × zMM)
  | 0, _, _, _, _, _, _, _ => none
  | n + 1, l4, l5, l6, l7, l8, l9, M =>
  if (a2 - l5) ≤ l9 then
    some (l8, M)
  else
    (fX7_size (a1) ((l5 + l9)) M).bind fun q2 =>
    if l7 = (0 : Int32) then
      fX7_columnOf_155 (fX7_columnOf_100 a1 a2 n) a1 a2 (l4) (l5) (l6) (l7) (l9) (1) (q2.1) (l8) q2.2
    else
      if (l4 - 1) = 0 then none else
      if (l4 - 1) = 0 then none else
      if (l6 - l6 / (l4 - 1) * (l4 - 1)) ≤ l9 then
        fX7_columnOf_150 (fX7_columnOf_100 a1 a2 n) a1 a2 (l4) (l5) (l6) (l7) (l9) (0) ((l6 / (l4 - 1))) (q2.1) (l8) q2.2
      else
        fX7_columnOf_150 (fX7_columnOf_100 a1 a2 n) a1 a2 (l4) (l5) (l6) (l7) (l9) (1) ((l6 / (l4 - 1))) (q2.1) (l8) q2.2
set_option maxRecDepth 4000 in
theorem tX7_columnOf_100 (a1 : Int32) (a2 : Int32) : ∀ (n : Nat) (l4 : Int32) (l5 : Int32) (l6 : Int32) (l7 : Int32) (l8 : Int32) (l9 : Int32) (M : zMM) (q : Int32 × zMM), fX7_columnOf_100 a1 a2 n l4 l5 l6 l7 l8 l9 M = some q → zEV iX7_columnOf 0 0 (zZO (some (.inl q.1), q.2)) 100 [(0, .inr (.inr 158)), (1, .inl a1), (2, .inl a2), (4, .inl l4), (5, .inl l5), (6, .inl l6), (7, .inl l7), (8, .inl l8), (9, .inl l9)] [] M := by
  intro n
  induction n with
  | zero =>
    intro l4 l5 l6 l7 l8 l9 M q h
    rw [fX7_columnOf_100] at h
    cases h
  | succ n ih =>
    intro l4 l5 l6 l7 l8 l9 M q h
    rw [fX7_columnOf_100] at h
    refine zEV.iload dX7_columnOf_100 8 rfl ?_
    refine zEV.iload_n dX7_columnOf_102 rfl 2 rfl ?_
    refine zEV.iload dX7_columnOf_103 4 rfl ?_
    refine zEV.isub dX7_columnOf_105 ?_
    refine zEV.icmp_ge 165 dX7_columnOf_106 (by decide) (fun c1 => ?_) (fun c1 => ?_)
    · rw [if_pos c1] at h
      refine zEV.iload dX7_columnOf_165 7 rfl ?_
      cases h
      exact zEV.iret rfl dX7_columnOf_167
    · rw [if_neg c1] at h
      refine zEV.iload dX7_columnOf_109 7 rfl ?_
      refine zEV.aload_n dX7_columnOf_111 rfl 0 rfl ?_
      refine zEV.iload_n dX7_columnOf_112 rfl 1 rfl ?_
      refine zEV.iload dX7_columnOf_113 4 rfl ?_
      refine zEV.iload dX7_columnOf_115 8 rfl ?_
      refine zEV.iadd dX7_columnOf_117 ?_
      obtain ⟨q2, hq2, h⟩ := bind_yes h
      refine zEV.callVi (kX7_size (a1) ((l5 + l9))  M q2 hq2) (by decide) rfl rfl wm_RX7_147 wc_X7_size hy_X7_size rfl ⟨Nat.le_of_ble_eq_true rfl, Nat.le_of_ble_eq_true rfl⟩ rfl (Nat.le_of_ble_eq_true rfl) dX7_columnOf_118 ?_
      refine zEV.iload dX7_columnOf_121 6 rfl ?_
      refine zEV.if_eq 154 dX7_columnOf_123 (by decide) (fun c3 => ?_) (fun c3 => ?_)
      · rw [if_pos c3] at h
        refine zEV.iconst (v := 1) dX7_columnOf_154 rfl ?_
        exact zEV.perm [0, 1, 2, 3, 4, 5, 6, 8] rfl (tX7_columnOf_155 (fX7_columnOf_100 a1 a2 n) a1 a2 (fun l4 l5 l6 l7 l8 l9 M9 q9 h9 => ih l4 l5 l6 l7 l8 l9 M9 q9 h9) (l4) (l5) (l6) (l7) (l9) (1) (q2.1) (l8) q2.2 q h)
      · rw [if_neg c3] at h
        refine zEV.iload dX7_columnOf_126 5 rfl ?_
        refine zEV.iload dX7_columnOf_128 3 rfl ?_
        refine zEV.iconst (v := 1) dX7_columnOf_130 rfl ?_
        refine zEV.isub dX7_columnOf_131 ?_
        obtain ⟨g4, h⟩ := ite_no h
        refine zEV.idiv dX7_columnOf_132 g4 ?_
        refine zEV.iload dX7_columnOf_133 8 rfl ?_
        refine zEV.iload dX7_columnOf_135 5 rfl ?_
        refine zEV.iload dX7_columnOf_137 3 rfl ?_
        refine zEV.iconst (v := 1) dX7_columnOf_139 rfl ?_
        refine zEV.isub dX7_columnOf_140 ?_
        obtain ⟨g5, h⟩ := ite_no h
        refine zEV.irem dX7_columnOf_141 g5 ?_
        refine zEV.icmp_ge 149 dX7_columnOf_142 (by decide) (fun c6 => ?_) (fun c6 => ?_)
        · rw [if_pos c6] at h
          refine zEV.iconst (v := 0) dX7_columnOf_149 rfl ?_
          exact zEV.perm [0, 1, 2, 3, 4, 5, 6, 8] rfl (tX7_columnOf_150 (fX7_columnOf_100 a1 a2 n) a1 a2 (fun l4 l5 l6 l7 l8 l9 M9 q9 h9 => ih l4 l5 l6 l7 l8 l9 M9 q9 h9) (l4) (l5) (l6) (l7) (l9) (0) ((l6 / (l4 - 1))) (q2.1) (l8) q2.2 q h)
        · rw [if_neg c6] at h
          refine zEV.iconst (v := 1) dX7_columnOf_145 rfl ?_
          refine zEV.goto 150 dX7_columnOf_146 (by decide) ?_
          exact zEV.perm [0, 1, 2, 3, 4, 5, 6, 8] rfl (tX7_columnOf_150 (fX7_columnOf_100 a1 a2 n) a1 a2 (fun l4 l5 l6 l7 l8 l9 M9 q9 h9 => ih l4 l5 l6 l7 l8 l9 M9 q9 h9) (l4) (l5) (l6) (l7) (l9) (1) ((l6 / (l4 - 1))) (q2.1) (l8) q2.2 q h)
def fX7_columnOf_86 (a1 : Int32) (a2 : Int32) (l3 : Int32) (l4 : Int32) (l5 : Int32) (l6 : Int32) (s0 : Int32) (M : zMM) : Option (Int32 × zMM) :=
  (fX7_told (l3) (6) M).bind fun q1 =>
  fX7_columnOf_100 a1 a2 zFU (l4) (l5) (l6) (s0) (q1.1) (0) q1.2
set_option maxRecDepth 4000 in
theorem tX7_columnOf_86 (a1 : Int32) (a2 : Int32) (l3 : Int32) (l4 : Int32) (l5 : Int32) (l6 : Int32) (s0 : Int32) (M : zMM) (q : Int32 × zMM) (h : fX7_columnOf_86 a1 a2 l3 l4 l5 l6 s0 M = some q) : zEV iX7_columnOf 0 0 (zZO (some (.inl q.1), q.2)) 86 [(0, .inr (.inr 158)), (1, .inl a1), (2, .inl a2), (3, .inl l3), (4, .inl l4), (5, .inl l5), (6, .inl l6)] [.inl s0] M := by
  unfold fX7_columnOf_86 at h
  refine zEV.istore dX7_columnOf_86 (Nat.le_of_ble_eq_true rfl) rfl ?_
  refine zEV.aload_n dX7_columnOf_88 rfl 1 rfl ?_
  refine zEV.iload_n dX7_columnOf_89 rfl 4 rfl ?_
  refine zEV.bipush (v := 6) dX7_columnOf_90 rfl ?_
  obtain ⟨q1, hq1, h⟩ := bind_yes h
  refine zEV.callVi (kX7_told (l3) (6)  M q1 hq1) (by decide) rfl rfl wm_RX7_167 wc_X7_told hy_X7_told rfl ⟨Nat.le_of_ble_eq_true rfl, Nat.le_of_ble_eq_true rfl⟩ rfl (Nat.le_of_ble_eq_true rfl) dX7_columnOf_92 ?_
  refine zEV.istore dX7_columnOf_95 (Nat.le_of_ble_eq_true rfl) rfl ?_
  refine zEV.iconst (v := 0) dX7_columnOf_97 rfl ?_
  refine zEV.istore dX7_columnOf_98 (Nat.le_of_ble_eq_true rfl) rfl ?_
  exact zEV.perm [3, 4, 5, 7, 8, 9, 2, 1, 0] rfl (tX7_columnOf_100 a1 a2 zFU (l4) (l5) (l6) (s0) (q1.1) (0) q1.2 q h)
def fX7_columnOf_85 (a1 : Int32) (a2 : Int32) (l3 : Int32) (l4 : Int32) (l5 : Int32) (l6 : Int32) (M : zMM) : Option (Int32 × zMM) :=
  fX7_columnOf_86 a1 a2 (l3) (l4) (l5) (l6) (0) M
set_option maxRecDepth 4000 in
theorem tX7_columnOf_85 (a1 : Int32) (a2 : Int32) (l3 : Int32) (l4 : Int32) (l5 : Int32) (l6 : Int32) (M : zMM) (q : Int32 × zMM) (h : fX7_columnOf_85 a1 a2 l3 l4 l5 l6 M = some q) : zEV iX7_columnOf 0 0 (zZO (some (.inl q.1), q.2)) 85 [(0, .inr (.inr 158)), (1, .inl a1), (2, .inl a2), (3, .inl l3), (4, .inl l4), (5, .inl l5), (6, .inl l6)] [] M := by
  unfold fX7_columnOf_85 at h
  refine zEV.iconst (v := 0) dX7_columnOf_85 rfl ?_
  exact zEV.perm [0, 1, 2, 3, 4, 5, 6] rfl (tX7_columnOf_86 a1 a2 (l3) (l4) (l5) (l6) (0) M q h)
def fX7_columnOf_39 (a1 : Int32) (a2 : Int32) : Nat → Int32 → Int32 → Int32 → Int32 → Int32 → zMM → Option (Int32 × zMM)
  | 0, _, _, _, _, _, _ => none
  | n + 1, l3, l4, l5, l6, l7, M =>
  if l4 ≤ l7 then
    if l4 ≤ 1 then
      fX7_columnOf_85 a1 a2 (l3) (l4) (l5) (l6) M
    else
      (fX7_isLastPart (l3) M).bind fun q3 =>
      if q3.1 = (0 : Int32) then
        fX7_columnOf_86 a1 a2 (l3) (l4) (l5) (l6) (1) q3.2
      else
        fX7_columnOf_85 a1 a2 (l3) (l4) (l5) (l6) q3.2
  else
    (fX7_size (a1) ((l5 + l7)) M).bind fun q5 =>
    fX7_columnOf_39 a1 a2 n (l3) (l4) (l5) ((l6 - q5.1)) ((l7 + 1)) q5.2
set_option maxRecDepth 4000 in
theorem tX7_columnOf_39 (a1 : Int32) (a2 : Int32) : ∀ (n : Nat) (l3 : Int32) (l4 : Int32) (l5 : Int32) (l6 : Int32) (l7 : Int32) (M : zMM) (q : Int32 × zMM), fX7_columnOf_39 a1 a2 n l3 l4 l5 l6 l7 M = some q → zEV iX7_columnOf 0 0 (zZO (some (.inl q.1), q.2)) 39 [(0, .inr (.inr 158)), (1, .inl a1), (2, .inl a2), (3, .inl l3), (4, .inl l4), (5, .inl l5), (6, .inl l6), (7, .inl l7)] [] M := by
  intro n
  induction n with
  | zero =>
    intro l3 l4 l5 l6 l7 M q h
    rw [fX7_columnOf_39] at h
    cases h
  | succ n ih =>
    intro l3 l4 l5 l6 l7 M q h
    rw [fX7_columnOf_39] at h
    refine zEV.iload dX7_columnOf_39 7 rfl ?_
    refine zEV.iload dX7_columnOf_41 4 rfl ?_
    refine zEV.icmp_ge 67 dX7_columnOf_43 (by decide) (fun c1 => ?_) (fun c1 => ?_)
    · rw [if_pos c1] at h
      refine zEV.iload dX7_columnOf_67 4 rfl ?_
      refine zEV.iconst (v := 1) dX7_columnOf_69 rfl ?_
      refine zEV.icmp_le 85 dX7_columnOf_70 (by decide) (fun c2 => ?_) (fun c2 => ?_)
      · rw [if_pos c2] at h
        exact zEV.perm [0, 1, 2, 3, 4, 5, 6] rfl (tX7_columnOf_85 a1 a2 (l3) (l4) (l5) (l6) M q h)
      · rw [if_neg c2] at h
        refine zEV.aload_n dX7_columnOf_73 rfl 0 rfl ?_
        refine zEV.iload_n dX7_columnOf_74 rfl 3 rfl ?_
        obtain ⟨q3, hq3, h⟩ := bind_yes h
        refine zEV.callVi (kX7_isLastPart (l3)  M q3 hq3) (by decide) rfl rfl wm_RX7_177 wc_X7_isLastPart hy_X7_isLastPart rfl ⟨Nat.le_of_ble_eq_true rfl, Nat.le_of_ble_eq_true rfl⟩ rfl (Nat.le_of_ble_eq_true rfl) dX7_columnOf_75 ?_
        refine zEV.if_ne 85 dX7_columnOf_78 (by decide) (fun c4 => ?_) (fun c4 => ?_)
        · rw [if_neg c4] at h
          exact zEV.perm [0, 1, 2, 3, 4, 5, 6] rfl (tX7_columnOf_85 a1 a2 (l3) (l4) (l5) (l6) q3.2 q h)
        · rw [if_pos c4] at h
          refine zEV.iconst (v := 1) dX7_columnOf_81 rfl ?_
          refine zEV.goto 86 dX7_columnOf_82 (by decide) ?_
          exact zEV.perm [0, 1, 2, 3, 4, 5, 6] rfl (tX7_columnOf_86 a1 a2 (l3) (l4) (l5) (l6) (1) q3.2 q h)
    · rw [if_neg c1] at h
      refine zEV.iload dX7_columnOf_46 6 rfl ?_
      refine zEV.aload_n dX7_columnOf_48 rfl 0 rfl ?_
      refine zEV.iload_n dX7_columnOf_49 rfl 1 rfl ?_
      refine zEV.iload dX7_columnOf_50 5 rfl ?_
      refine zEV.iload dX7_columnOf_52 7 rfl ?_
      refine zEV.iadd dX7_columnOf_54 ?_
      obtain ⟨q5, hq5, h⟩ := bind_yes h
      refine zEV.callVi (kX7_size (a1) ((l5 + l7))  M q5 hq5) (by decide) rfl rfl wm_RX7_147 wc_X7_size hy_X7_size rfl ⟨Nat.le_of_ble_eq_true rfl, Nat.le_of_ble_eq_true rfl⟩ rfl (Nat.le_of_ble_eq_true rfl) dX7_columnOf_55 ?_
      refine zEV.isub dX7_columnOf_58 ?_
      refine zEV.istore dX7_columnOf_59 (Nat.le_of_ble_eq_true rfl) rfl ?_
      refine zEV.iinc (v := (l7 + 1)) dX7_columnOf_61 7 rfl rfl (Nat.le_of_ble_eq_true rfl) rfl ?_
      refine zEV.goto 39 dX7_columnOf_64 (by decide) ?_
      exact zEV.perm [2, 3, 4, 5, 6, 7, 1, 0] rfl (ih (l3) (l4) (l5) ((l6 - q5.1)) ((l7 + 1)) q5.2 q h)
def fX7_columnOf (a1 : Int32) (a2 : Int32) (M : zMM) : Option (Int32 × zMM) :=
  if oob (((70 * a1) + a2)) 210 then none else
  (fX7_told ((M.1 164 (Int32.toNatClampNeg ((70 * a1) + a2)))) (4) M).bind fun q2 =>
  (fX7_told ((M.1 164 (Int32.toNatClampNeg ((70 * a1) + a2)))) (3) q2.2).bind fun q3 =>
  (fX7_told ((M.1 164 (Int32.toNatClampNeg ((70 * a1) + a2)))) (5) q3.2).bind fun q4 =>
  fX7_columnOf_39 a1 a2 zFU ((M.1 164 (Int32.toNatClampNeg ((70 * a1) + a2)))) (q2.1) (q3.1) (q4.1) (0) q4.2
set_option maxRecDepth 4000 in
theorem tX7_columnOf_0 (a1 : Int32) (a2 : Int32) (M : zMM) (q : Int32 × zMM) (h : fX7_columnOf a1 a2  M = some q) : zEV iX7_columnOf 0 0 (zZO (some (.inl q.1), q.2)) 0 [(0, .inr (.inr 158)), (1, .inl a1), (2, .inl a2)] [] M := by
  unfold fX7_columnOf at h
  refine zEV.aload_n dX7_columnOf_0 rfl 0 rfl ?_
  refine zEV.gfr rfl inz7 12 (by decide) wf_RX7_27 (by decide) rfl rfl dX7_columnOf_1 ?_
  refine zEV.bipush (v := 70) dX7_columnOf_4 rfl ?_
  refine zEV.iload_n dX7_columnOf_6 rfl 1 rfl ?_
  refine zEV.imul dX7_columnOf_7 ?_
  refine zEV.iload_n dX7_columnOf_8 rfl 2 rfl ?_
  refine zEV.iadd dX7_columnOf_9 ?_
  obtain ⟨g1, h⟩ := ite_no h
  refine zEV.iald (by decide) rfl g1 dX7_columnOf_10 ?_
  refine zEV.istore_n dX7_columnOf_11 rfl (Nat.le_of_ble_eq_true rfl) rfl ?_
  refine zEV.aload_n dX7_columnOf_12 rfl 1 rfl ?_
  refine zEV.iload_n dX7_columnOf_13 rfl 0 rfl ?_
  refine zEV.iconst (v := 4) dX7_columnOf_14 rfl ?_
  obtain ⟨q2, hq2, h⟩ := bind_yes h
  refine zEV.callVi (kX7_told ((M.1 164 (Int32.toNatClampNeg ((70 * a1) + a2)))) (4)  M q2 hq2) (by decide) rfl rfl wm_RX7_167 wc_X7_told hy_X7_told rfl ⟨Nat.le_of_ble_eq_true rfl, Nat.le_of_ble_eq_true rfl⟩ rfl (Nat.le_of_ble_eq_true rfl) dX7_columnOf_15 ?_
  refine zEV.istore dX7_columnOf_18 (Nat.le_of_ble_eq_true rfl) rfl ?_
  refine zEV.aload_n dX7_columnOf_20 rfl 2 rfl ?_
  refine zEV.iload_n dX7_columnOf_21 rfl 1 rfl ?_
  refine zEV.iconst (v := 3) dX7_columnOf_22 rfl ?_
  obtain ⟨q3, hq3, h⟩ := bind_yes h
  refine zEV.callVi (kX7_told ((M.1 164 (Int32.toNatClampNeg ((70 * a1) + a2)))) (3)  q2.2 q3 hq3) (by decide) rfl rfl wm_RX7_167 wc_X7_told hy_X7_told rfl ⟨Nat.le_of_ble_eq_true rfl, Nat.le_of_ble_eq_true rfl⟩ rfl (Nat.le_of_ble_eq_true rfl) dX7_columnOf_23 ?_
  refine zEV.istore dX7_columnOf_26 (Nat.le_of_ble_eq_true rfl) rfl ?_
  refine zEV.aload_n dX7_columnOf_28 rfl 3 rfl ?_
  refine zEV.iload_n dX7_columnOf_29 rfl 2 rfl ?_
  refine zEV.iconst (v := 5) dX7_columnOf_30 rfl ?_
  obtain ⟨q4, hq4, h⟩ := bind_yes h
  refine zEV.callVi (kX7_told ((M.1 164 (Int32.toNatClampNeg ((70 * a1) + a2)))) (5)  q3.2 q4 hq4) (by decide) rfl rfl wm_RX7_167 wc_X7_told hy_X7_told rfl ⟨Nat.le_of_ble_eq_true rfl, Nat.le_of_ble_eq_true rfl⟩ rfl (Nat.le_of_ble_eq_true rfl) dX7_columnOf_31 ?_
  refine zEV.istore dX7_columnOf_34 (Nat.le_of_ble_eq_true rfl) rfl ?_
  refine zEV.iconst (v := 0) dX7_columnOf_36 rfl ?_
  refine zEV.istore dX7_columnOf_37 (Nat.le_of_ble_eq_true rfl) rfl ?_
  exact zEV.perm [5, 6, 7, 4, 3, 2, 1, 0] rfl (tX7_columnOf_39 a1 a2 zFU ((M.1 164 (Int32.toNatClampNeg ((70 * a1) + a2)))) (q2.1) (q3.1) (q4.1) (0) q4.2 q h)
theorem kX7_columnOf (a1 : Int32) (a2 : Int32) (M : zMM) (q : Int32 × zMM) (h : fX7_columnOf a1 a2 M = some q) : zCN yX7_columnOf iX7_columnOf [.inr (.inr 158), .inl a1, .inl a2] M (some (.inl q.1), q.2) :=
  zCN.of (by decide) rfl rfl (Nat.le_of_ble_eq_true rfl) (zEV.perm [0, 1, 2] rfl (tX7_columnOf_0 a1 a2 M q h))
-- RingedPageModel.word
def fX7_word_23 (a1 : Int32) (a2 : Int32) (a3 : Int32) (M : zMM) : Option (Int32 × zMM) :=
  (fX7_lost  M).bind fun q1 =>
  some (q1.1, q1.2)
set_option maxRecDepth 4000 in
theorem tX7_word_23 (a1 : Int32) (a2 : Int32) (a3 : Int32) (M : zMM) (q : Int32 × zMM) (h : fX7_word_23 a1 a2 a3  M = some q) : zEV iX7_word 0 0 (zZO (some (.inl q.1), q.2)) 23 [(0, .inr (.inr 158))] [] M := by
  unfold fX7_word_23 at h
  refine zEV.aload_n dX7_word_23 rfl 0 rfl ?_
  obtain ⟨q1, hq1, h⟩ := bind_yes h
  refine zEV.callVi (kX7_lost   M q1 hq1) (by decide) rfl rfl wm_RX7_180 wc_X7_lost hy_X7_lost rfl ⟨Nat.le_of_ble_eq_true rfl, Nat.le_of_ble_eq_true rfl⟩ rfl (Nat.le_of_ble_eq_true rfl) dX7_word_24 ?_
  cases h
  exact zEV.iret rfl dX7_word_27
def fX7_word (a1 : Int32) (a2 : Int32) (a3 : Int32) (M : zMM) : Option (Int32 × zMM) :=
  (fX7_isWord (a1) (a2) (wr M 158 5 0)).bind fun q1 =>
  if q1.1 = (0 : Int32) then
    fX7_word_23 a1 a2 a3 q1.2
  else
    (fX7_in (a3) (0) (4) q1.2).bind fun q3 =>
    if q3.1 = (0 : Int32) then
      fX7_word_23 a1 a2 a3 q3.2
    else
      (fX7_set  q3.2).bind fun q5 =>
      if oob (((70 * a1) + a2)) 210 then none else
      if a3 = (0 : Int32) then
        (fX7_told ((q5.1 164 (Int32.toNatClampNeg ((70 * a1) + a2)))) (1) q5).bind fun q8 =>
        some (q8.1, q8.2)
      else
        if a3 = (1 : Int32) then
          (fX7_told ((q5.1 164 (Int32.toNatClampNeg ((70 * a1) + a2)))) (2) q5).bind fun q9 =>
          some (q9.1, q9.2)
        else
          if a3 = (2 : Int32) then
            (fX7_columnOf (a1) (a2) q5).bind fun q10 =>
            some (q10.1, q10.2)
          else
            if a3 = (3 : Int32) then
              (fX7_size (a1) (a2) q5).bind fun q11 =>
              some (q11.1, q11.2)
            else
              (fX7_told ((q5.1 164 (Int32.toNatClampNeg ((70 * a1) + a2)))) (3) q5).bind fun q12 =>
              some ((a2 - q12.1), q12.2)
set_option maxRecDepth 4000 in
theorem tX7_word_0 (a1 : Int32) (a2 : Int32) (a3 : Int32) (M : zMM) (q : Int32 × zMM) (h : fX7_word a1 a2 a3  M = some q) : zEV iX7_word 0 0 (zZO (some (.inl q.1), q.2)) 0 [(0, .inr (.inr 158)), (1, .inl a1), (2, .inl a2), (3, .inl a3)] [] M := by
  unfold fX7_word at h
  refine zEV.aload_n dX7_word_0 rfl 0 rfl ?_
  refine zEV.iconst (v := 0) dX7_word_1 rfl ?_
  refine zEV.pfi rfl inz7 tyX7 tyX7_ok nmX7 5 (by decide) wf_RX7_58 rfl (by decide +kernel) (by decide) rfl rfl dX7_word_2 ?_
  refine zEV.aload_n dX7_word_5 rfl 0 rfl ?_
  refine zEV.iload_n dX7_word_6 rfl 1 rfl ?_
  refine zEV.iload_n dX7_word_7 rfl 2 rfl ?_
  obtain ⟨q1, hq1, h⟩ := bind_yes h
  refine zEV.callVi (kX7_isWord (a1) (a2)  (wr M 158 5 0) q1 hq1) (by decide) rfl rfl wm_RX7_121 wc_X7_isWord hy_X7_isWord rfl ⟨Nat.le_of_ble_eq_true rfl, Nat.le_of_ble_eq_true rfl⟩ rfl (Nat.le_of_ble_eq_true rfl) dX7_word_8 ?_
  refine zEV.if_eq 23 dX7_word_11 (by decide) (fun c2 => ?_) (fun c2 => ?_)
  · rw [if_pos c2] at h
    exact zEV.perm [0] rfl (tX7_word_23 a1 a2 a3 q1.2 q h)
  · rw [if_neg c2] at h
    refine zEV.iload_n dX7_word_14 rfl 3 rfl ?_
    refine zEV.iconst (v := 0) dX7_word_15 rfl ?_
    refine zEV.iconst (v := 4) dX7_word_16 rfl ?_
    obtain ⟨q3, hq3, h⟩ := bind_yes h
    refine zEV.callSi (kX7_in (a3) (0) (4)  q1.2 q3 hq3) wm_RX7_65 wc_X7_in hy_X7_in rfl ⟨Nat.le_of_ble_eq_true rfl, Nat.le_of_ble_eq_true rfl⟩ rfl (Nat.le_of_ble_eq_true rfl) dX7_word_17 ?_
    refine zEV.if_ne 28 dX7_word_20 (by decide) (fun c4 => ?_) (fun c4 => ?_)
    · rw [if_neg c4] at h
      refine zEV.aload_n dX7_word_28 rfl 0 rfl ?_
      obtain ⟨q5, hq5, h⟩ := bind_yes h
      refine zEV.callVv (kX7_set   q3.2 q5 hq5) (by decide) rfl rfl wm_RX7_164 wc_X7_set hy_X7_set rfl ⟨Nat.le_of_ble_eq_true rfl, Nat.le_of_ble_eq_true rfl⟩ rfl (Nat.le_of_ble_eq_true rfl) dX7_word_29 ?_
      refine zEV.aload_n dX7_word_32 rfl 0 rfl ?_
      refine zEV.gfr rfl inz7 12 (by decide) wf_RX7_27 (by decide) rfl rfl dX7_word_33 ?_
      refine zEV.bipush (v := 70) dX7_word_36 rfl ?_
      refine zEV.iload_n dX7_word_38 rfl 1 rfl ?_
      refine zEV.imul dX7_word_39 ?_
      refine zEV.iload_n dX7_word_40 rfl 2 rfl ?_
      refine zEV.iadd dX7_word_41 ?_
      obtain ⟨g6, h⟩ := ite_no h
      refine zEV.iald (by decide) rfl g6 dX7_word_42 ?_
      refine zEV.istore dX7_word_43 (Nat.le_of_ble_eq_true rfl) rfl ?_
      refine zEV.iload_n dX7_word_45 rfl 4 rfl ?_
      by_cases c7_0 : a3 = (0 : Int32)
      · rw [if_pos c7_0] at h
        refine zEV.tabIn 76 dX7_word_46 (0) c7_0 (by decide) (by decide) rfl (by decide) ?_
        refine zEV.aload_n dX7_word_76 rfl 1 rfl ?_
        refine zEV.iload dX7_word_77 0 rfl ?_
        refine zEV.iconst (v := 1) dX7_word_79 rfl ?_
        obtain ⟨q8, hq8, h⟩ := bind_yes h
        refine zEV.callVi (kX7_told ((q5.1 164 (Int32.toNatClampNeg ((70 * a1) + a2)))) (1)  q5 q8 hq8) (by decide) rfl rfl wm_RX7_167 wc_X7_told hy_X7_told rfl ⟨Nat.le_of_ble_eq_true rfl, Nat.le_of_ble_eq_true rfl⟩ rfl (Nat.le_of_ble_eq_true rfl) dX7_word_80 ?_
        cases h
        exact zEV.iret rfl dX7_word_83
      · rw [if_neg c7_0] at h
        by_cases c7_1 : a3 = (1 : Int32)
        · rw [if_pos c7_1] at h
          refine zEV.tabIn 84 dX7_word_46 (1) c7_1 (by decide) (by decide) rfl (by decide) ?_
          refine zEV.aload_n dX7_word_84 rfl 1 rfl ?_
          refine zEV.iload dX7_word_85 0 rfl ?_
          refine zEV.iconst (v := 2) dX7_word_87 rfl ?_
          obtain ⟨q9, hq9, h⟩ := bind_yes h
          refine zEV.callVi (kX7_told ((q5.1 164 (Int32.toNatClampNeg ((70 * a1) + a2)))) (2)  q5 q9 hq9) (by decide) rfl rfl wm_RX7_167 wc_X7_told hy_X7_told rfl ⟨Nat.le_of_ble_eq_true rfl, Nat.le_of_ble_eq_true rfl⟩ rfl (Nat.le_of_ble_eq_true rfl) dX7_word_88 ?_
          cases h
          exact zEV.iret rfl dX7_word_91
        · rw [if_neg c7_1] at h
          by_cases c7_2 : a3 = (2 : Int32)
          · rw [if_pos c7_2] at h
            refine zEV.tabIn 92 dX7_word_46 (2) c7_2 (by decide) (by decide) rfl (by decide) ?_
            refine zEV.aload_n dX7_word_92 rfl 1 rfl ?_
            refine zEV.iload_n dX7_word_93 rfl 2 rfl ?_
            refine zEV.iload_n dX7_word_94 rfl 3 rfl ?_
            obtain ⟨q10, hq10, h⟩ := bind_yes h
            refine zEV.callVi (kX7_columnOf (a1) (a2)  q5 q10 hq10) (by decide) rfl rfl wm_RX7_183 wc_X7_columnOf hy_X7_columnOf rfl ⟨Nat.le_of_ble_eq_true rfl, Nat.le_of_ble_eq_true rfl⟩ rfl (Nat.le_of_ble_eq_true rfl) dX7_word_95 ?_
            cases h
            exact zEV.iret rfl dX7_word_98
          · rw [if_neg c7_2] at h
            by_cases c7_3 : a3 = (3 : Int32)
            · rw [if_pos c7_3] at h
              refine zEV.tabIn 99 dX7_word_46 (3) c7_3 (by decide) (by decide) rfl (by decide) ?_
              refine zEV.aload_n dX7_word_99 rfl 1 rfl ?_
              refine zEV.iload_n dX7_word_100 rfl 2 rfl ?_
              refine zEV.iload_n dX7_word_101 rfl 3 rfl ?_
              obtain ⟨q11, hq11, h⟩ := bind_yes h
              refine zEV.callVi (kX7_size (a1) (a2)  q5 q11 hq11) (by decide) rfl rfl wm_RX7_147 wc_X7_size hy_X7_size rfl ⟨Nat.le_of_ble_eq_true rfl, Nat.le_of_ble_eq_true rfl⟩ rfl (Nat.le_of_ble_eq_true rfl) dX7_word_102 ?_
              cases h
              exact zEV.iret rfl dX7_word_105
            · rw [if_neg c7_3] at h
              refine zEV.tabOut 106 3 dX7_word_46 (by decide) (by decide) rfl (fun k hk => ?_) (by decide) ?_
              · match k, hk with
                | 0, _ => exact c7_0
                | 1, _ => exact c7_1
                | 2, _ => exact c7_2
                | 3, _ => exact c7_3
                | k + 4, hk => exact absurd hk (by omega)
              refine zEV.iload_n dX7_word_106 rfl 3 rfl ?_
              refine zEV.aload_n dX7_word_107 rfl 1 rfl ?_
              refine zEV.iload dX7_word_108 0 rfl ?_
              refine zEV.iconst (v := 3) dX7_word_110 rfl ?_
              obtain ⟨q12, hq12, h⟩ := bind_yes h
              refine zEV.callVi (kX7_told ((q5.1 164 (Int32.toNatClampNeg ((70 * a1) + a2)))) (3)  q5 q12 hq12) (by decide) rfl rfl wm_RX7_167 wc_X7_told hy_X7_told rfl ⟨Nat.le_of_ble_eq_true rfl, Nat.le_of_ble_eq_true rfl⟩ rfl (Nat.le_of_ble_eq_true rfl) dX7_word_111 ?_
              refine zEV.isub dX7_word_114 ?_
              cases h
              exact zEV.iret rfl dX7_word_115
    · rw [if_pos c4] at h
      exact zEV.perm [0] rfl (tX7_word_23 a1 a2 a3 q3.2 q h)
theorem kX7_word (a1 : Int32) (a2 : Int32) (a3 : Int32) (M : zMM) (q : Int32 × zMM) (h : fX7_word a1 a2 a3 M = some q) : zCN yX7_word iX7_word [.inr (.inr 158), .inl a1, .inl a2, .inl a3] M (some (.inl q.1), q.2) :=
  zCN.of (by decide) rfl rfl (Nat.le_of_ble_eq_true rfl) (zEV.perm [0, 1, 2, 3] rfl (tX7_word_0 a1 a2 a3 M q h))
-- RingedPageModel.at
def fX7_at_149 (K39 : Int32 → zMM → Option (Int32 × zMM)) (a1 : Int32) (a2 : Int32) (a3 : Int32) (l4 : Int32) (M : zMM) : Option (Int32 × zMM) :=
  K39 ((l4 + 1)) M
set_option maxRecDepth 4000 in
theorem tX7_at_149 (K39 : Int32 → zMM → Option (Int32 × zMM)) (a1 : Int32) (a2 : Int32) (a3 : Int32) (hK39 : ∀ (l4 : Int32) (M : zMM) (q : Int32 × zMM), K39 l4 M = some q → zEV iX7_at 0 0 (zZO (some (.inl q.1), q.2)) 39 [(0, .inr (.inr 158)), (1, .inl a1), (2, .inl a2), (3, .inl a3), (4, .inl l4)] [] M) (l4 : Int32) (M : zMM) (q : Int32 × zMM) (h : fX7_at_149 K39 a1 a2 a3 l4 M = some q) : zEV iX7_at 0 0 (zZO (some (.inl q.1), q.2)) 149 [(0, .inr (.inr 158)), (1, .inl a1), (2, .inl a2), (3, .inl a3), (4, .inl l4)] [] M := by
  unfold fX7_at_149 at h
  refine zEV.iinc (v := (l4 + 1)) dX7_at_149 4 rfl rfl (Nat.le_of_ble_eq_true rfl) rfl ?_
  refine zEV.goto 39 dX7_at_152 (by decide) ?_
  exact zEV.perm [1, 2, 3, 4, 0] rfl (hK39 ((l4 + 1)) M q h)
def fX7_at_58 (K39 : Int32 → zMM → Option (Int32 × zMM)) (a1 : Int32) (a2 : Int32) (a3 : Int32) : Nat → Int32 → Int32 → Int32 → zMM → Option (Int32 × zMM)
  | 0, _, _, _, _ => none
  | n + 1, l4, l5, l6, M =>
  if l5 = (-1) then
    fX7_at_149 K39 a1 a2 a3 (l4) M
  else
    (fX7_told (l5) (4) M).bind fun q2 =>
    if q2.1 ≤ l6 then
      fX7_at_149 K39 a1 a2 a3 (l4) q2.2
    else
      (fX7_told (l5) (3) q2.2).bind fun q4 =>
      (fX7_columnOf (l4) ((q4.1 + l6)) q4.2).bind fun q5 =>
      (fX7_size (l4) ((q4.1 + l6)) q5.2).bind fun q6 =>
      (fX7_in ((a3 - q5.1)) (0) ((q6.1 - 1)) q6.2).bind fun q7 =>
      if q7.1 = (0 : Int32) then
        fX7_at_58 K39 a1 a2 a3 n (l4) (l5) ((l6 + 1)) q7.2
      else
        (fX7_tell ((Int32.toInt64 (a3 - q5.1))) (wr q7.2 158 4 0)).bind fun q9 =>
        some (((100 * l4) + (q4.1 + l6)), q9)
set_option maxRecDepth 4000 in
theorem tX7_at_58 (K39 : Int32 → zMM → Option (Int32 × zMM)) (a1 : Int32) (a2 : Int32) (a3 : Int32) (hK39 : ∀ (l4 : Int32) (M : zMM) (q : Int32 × zMM), K39 l4 M = some q → zEV iX7_at 0 0 (zZO (some (.inl q.1), q.2)) 39 [(0, .inr (.inr 158)), (1, .inl a1), (2, .inl a2), (3, .inl a3), (4, .inl l4)] [] M) : ∀ (n : Nat) (l4 : Int32) (l5 : Int32) (l6 : Int32) (M : zMM) (q : Int32 × zMM), fX7_at_58 K39 a1 a2 a3 n l4 l5 l6 M = some q → zEV iX7_at 0 0 (zZO (some (.inl q.1), q.2)) 58 [(0, .inr (.inr 158)), (1, .inl a1), (2, .inl a2), (3, .inl a3), (4, .inl l4), (5, .inl l5), (6, .inl l6)] [] M := by
  intro n
  induction n with
  | zero =>
    intro l4 l5 l6 M q h
    rw [fX7_at_58] at h
    cases h
  | succ n ih =>
    intro l4 l5 l6 M q h
    rw [fX7_at_58] at h
    refine zEV.iload dX7_at_58 5 rfl ?_
    refine zEV.iconst (v := (-1)) dX7_at_60 rfl ?_
    refine zEV.icmp_eq 149 dX7_at_61 (by decide) (fun c1 => ?_) (fun c1 => ?_)
    · rw [if_pos c1] at h
      exact zEV.perm [0, 1, 2, 3, 4] rfl (tX7_at_149 K39 a1 a2 a3 hK39 (l4) M q h)
    · rw [if_neg c1] at h
      refine zEV.iload dX7_at_64 6 rfl ?_
      refine zEV.aload_n dX7_at_66 rfl 0 rfl ?_
      refine zEV.iload dX7_at_67 5 rfl ?_
      refine zEV.iconst (v := 4) dX7_at_69 rfl ?_
      obtain ⟨q2, hq2, h⟩ := bind_yes h
      refine zEV.callVi (kX7_told (l5) (4)  M q2 hq2) (by decide) rfl rfl wm_RX7_167 wc_X7_told hy_X7_told rfl ⟨Nat.le_of_ble_eq_true rfl, Nat.le_of_ble_eq_true rfl⟩ rfl (Nat.le_of_ble_eq_true rfl) dX7_at_70 ?_
      refine zEV.icmp_ge 149 dX7_at_73 (by decide) (fun c3 => ?_) (fun c3 => ?_)
      · rw [if_pos c3] at h
        exact zEV.perm [0, 1, 2, 3, 4] rfl (tX7_at_149 K39 a1 a2 a3 hK39 (l4) q2.2 q h)
      · rw [if_neg c3] at h
        refine zEV.aload_n dX7_at_76 rfl 0 rfl ?_
        refine zEV.iload dX7_at_77 5 rfl ?_
        refine zEV.iconst (v := 3) dX7_at_79 rfl ?_
        obtain ⟨q4, hq4, h⟩ := bind_yes h
        refine zEV.callVi (kX7_told (l5) (3)  q2.2 q4 hq4) (by decide) rfl rfl wm_RX7_167 wc_X7_told hy_X7_told rfl ⟨Nat.le_of_ble_eq_true rfl, Nat.le_of_ble_eq_true rfl⟩ rfl (Nat.le_of_ble_eq_true rfl) dX7_at_80 ?_
        refine zEV.iload dX7_at_83 6 rfl ?_
        refine zEV.iadd dX7_at_85 ?_
        refine zEV.istore dX7_at_86 (Nat.le_of_ble_eq_true rfl) rfl ?_
        refine zEV.iload_n dX7_at_88 rfl 4 rfl ?_
        refine zEV.aload_n dX7_at_89 rfl 1 rfl ?_
        refine zEV.iload dX7_at_90 5 rfl ?_
        refine zEV.iload dX7_at_92 0 rfl ?_
        obtain ⟨q5, hq5, h⟩ := bind_yes h
        refine zEV.callVi (kX7_columnOf (l4) ((q4.1 + l6))  q4.2 q5 hq5) (by decide) rfl rfl wm_RX7_183 wc_X7_columnOf hy_X7_columnOf rfl ⟨Nat.le_of_ble_eq_true rfl, Nat.le_of_ble_eq_true rfl⟩ rfl (Nat.le_of_ble_eq_true rfl) dX7_at_94 ?_
        refine zEV.isub dX7_at_97 ?_
        refine zEV.istore dX7_at_98 (Nat.le_of_ble_eq_true rfl) rfl ?_
        refine zEV.iload dX7_at_100 0 rfl ?_
        refine zEV.iconst (v := 0) dX7_at_102 rfl ?_
        refine zEV.aload_n dX7_at_103 rfl 2 rfl ?_
        refine zEV.iload dX7_at_104 6 rfl ?_
        refine zEV.iload dX7_at_106 1 rfl ?_
        obtain ⟨q6, hq6, h⟩ := bind_yes h
        refine zEV.callVi (kX7_size (l4) ((q4.1 + l6))  q5.2 q6 hq6) (by decide) rfl rfl wm_RX7_147 wc_X7_size hy_X7_size rfl ⟨Nat.le_of_ble_eq_true rfl, Nat.le_of_ble_eq_true rfl⟩ rfl (Nat.le_of_ble_eq_true rfl) dX7_at_108 ?_
        refine zEV.iconst (v := 1) dX7_at_111 rfl ?_
        refine zEV.isub dX7_at_112 ?_
        obtain ⟨q7, hq7, h⟩ := bind_yes h
        refine zEV.callSi (kX7_in ((a3 - q5.1)) (0) ((q6.1 - 1))  q6.2 q7 hq7) wm_RX7_65 wc_X7_in hy_X7_in rfl ⟨Nat.le_of_ble_eq_true rfl, Nat.le_of_ble_eq_true rfl⟩ rfl (Nat.le_of_ble_eq_true rfl) dX7_at_113 ?_
        refine zEV.if_ne 122 dX7_at_116 (by decide) (fun c8 => ?_) (fun c8 => ?_)
        · rw [if_neg c8] at h
          refine zEV.aload_n dX7_at_122 rfl 2 rfl ?_
          refine zEV.iconst (v := 0) dX7_at_123 rfl ?_
          refine zEV.pfi rfl inz7 tyX7 tyX7_ok nmX7 4 (by decide) wf_RX7_62 rfl (by decide +kernel) (by decide) rfl rfl dX7_at_124 ?_
          refine zEV.aload_n dX7_at_127 rfl 2 rfl ?_
          refine zEV.iload dX7_at_128 0 rfl ?_
          refine zEV.i2l dX7_at_130 ?_
          obtain ⟨q9, hq9, h⟩ := bind_yes h
          refine zEV.callVv (kX7_tell ((Int32.toInt64 (a3 - q5.1)))  (wr q7.2 158 4 0) q9 hq9) (by decide) rfl rfl wm_RX7_135 wc_X7_tell hy_X7_tell rfl ⟨Nat.le_of_ble_eq_true rfl, Nat.le_of_ble_eq_true rfl⟩ rfl (Nat.le_of_ble_eq_true rfl) dX7_at_131 ?_
          refine zEV.bipush (v := 100) dX7_at_134 rfl ?_
          refine zEV.iload dX7_at_136 6 rfl ?_
          refine zEV.imul dX7_at_138 ?_
          refine zEV.iload dX7_at_139 1 rfl ?_
          refine zEV.iadd dX7_at_141 ?_
          cases h
          exact zEV.iret rfl dX7_at_142
        · rw [if_pos c8] at h
          refine zEV.goto 143 dX7_at_119 (by decide) ?_
          refine zEV.iinc (v := (l6 + 1)) dX7_at_143 8 rfl rfl (Nat.le_of_ble_eq_true rfl) rfl ?_
          refine zEV.goto 58 dX7_at_146 (by decide) ?_
          exact zEV.perm [3, 4, 5, 6, 7, 8, 0] rfl (ih (l4) (l5) ((l6 + 1)) q7.2 q h)
def fX7_at_39 (a1 : Int32) (a2 : Int32) (a3 : Int32) : Nat → Int32 → zMM → Option (Int32 × zMM)
  | 0, _, _ => none
  | n + 1, l4, M =>
  if (3 : Int32) ≤ l4 then
    some ((-2), M)
  else
    (fX7_partAt (a1) (a2) (l4) M).bind fun q2 =>
    fX7_at_58 (fX7_at_39 a1 a2 a3 n) a1 a2 a3 zFU (l4) (q2.1) (0) q2.2
set_option maxRecDepth 4000 in
theorem tX7_at_39 (a1 : Int32) (a2 : Int32) (a3 : Int32) : ∀ (n : Nat) (l4 : Int32) (M : zMM) (q : Int32 × zMM), fX7_at_39 a1 a2 a3 n l4 M = some q → zEV iX7_at 0 0 (zZO (some (.inl q.1), q.2)) 39 [(0, .inr (.inr 158)), (1, .inl a1), (2, .inl a2), (3, .inl a3), (4, .inl l4)] [] M := by
  intro n
  induction n with
  | zero =>
    intro l4 M q h
    rw [fX7_at_39] at h
    cases h
  | succ n ih =>
    intro l4 M q h
    rw [fX7_at_39] at h
    refine zEV.iload dX7_at_39 4 rfl ?_
    refine zEV.iconst (v := 3) dX7_at_41 rfl ?_
    refine zEV.icmp_ge 155 dX7_at_42 (by decide) (fun c1 => ?_) (fun c1 => ?_)
    · rw [if_pos c1] at h
      refine zEV.bipush (v := (-2)) dX7_at_155 rfl ?_
      cases h
      exact zEV.iret rfl dX7_at_157
    · rw [if_neg c1] at h
      refine zEV.aload_n dX7_at_45 rfl 0 rfl ?_
      refine zEV.iload_n dX7_at_46 rfl 1 rfl ?_
      refine zEV.iload_n dX7_at_47 rfl 2 rfl ?_
      refine zEV.iload dX7_at_48 4 rfl ?_
      obtain ⟨q2, hq2, h⟩ := bind_yes h
      refine zEV.callVi (kX7_partAt (a1) (a2) (l4)  M q2 hq2) (by decide) rfl rfl wm_RX7_173 wc_X7_partAt hy_X7_partAt rfl ⟨Nat.le_of_ble_eq_true rfl, Nat.le_of_ble_eq_true rfl⟩ rfl (Nat.le_of_ble_eq_true rfl) dX7_at_50 ?_
      refine zEV.istore dX7_at_53 (Nat.le_of_ble_eq_true rfl) rfl ?_
      refine zEV.iconst (v := 0) dX7_at_55 rfl ?_
      refine zEV.istore dX7_at_56 (Nat.le_of_ble_eq_true rfl) rfl ?_
      exact zEV.perm [2, 3, 4, 5, 6, 1, 0] rfl (tX7_at_58 (fX7_at_39 a1 a2 a3 n) a1 a2 a3 (fun l4 M9 q9 h9 => ih l4 M9 q9 h9) zFU (l4) (q2.1) (0) q2.2 q h)
def fX7_at (a1 : Int32) (a2 : Int32) (a3 : Int32) (M : zMM) : Option (Int32 × zMM) :=
  (fX7_set  (wr M 158 5 0)).bind fun q1 =>
  (fX7_isLine (a1) (a2) q1).bind fun q2 =>
  if q2.1 = (0 : Int32) then
    some ((-1), q2.2)
  else
    if oob (0) 259 then none else
    (fX7_in (a3) (0) (((q2.2.1 159 (Int32.toNatClampNeg 0)) - 1)) q2.2).bind fun q5 =>
    if q5.1 = (0 : Int32) then
      some ((-1), q5.2)
    else
      fX7_at_39 a1 a2 a3 zFU (0) q5.2
set_option maxRecDepth 4000 in
theorem tX7_at_0 (a1 : Int32) (a2 : Int32) (a3 : Int32) (M : zMM) (q : Int32 × zMM) (h : fX7_at a1 a2 a3  M = some q) : zEV iX7_at 0 0 (zZO (some (.inl q.1), q.2)) 0 [(0, .inr (.inr 158)), (1, .inl a1), (2, .inl a2), (3, .inl a3)] [] M := by
  unfold fX7_at at h
  refine zEV.aload_n dX7_at_0 rfl 0 rfl ?_
  refine zEV.iconst (v := 0) dX7_at_1 rfl ?_
  refine zEV.pfi rfl inz7 tyX7 tyX7_ok nmX7 5 (by decide) wf_RX7_58 rfl (by decide +kernel) (by decide) rfl rfl dX7_at_2 ?_
  refine zEV.aload_n dX7_at_5 rfl 0 rfl ?_
  obtain ⟨q1, hq1, h⟩ := bind_yes h
  refine zEV.callVv (kX7_set   (wr M 158 5 0) q1 hq1) (by decide) rfl rfl wm_RX7_164 wc_X7_set hy_X7_set rfl ⟨Nat.le_of_ble_eq_true rfl, Nat.le_of_ble_eq_true rfl⟩ rfl (Nat.le_of_ble_eq_true rfl) dX7_at_6 ?_
  refine zEV.aload_n dX7_at_9 rfl 0 rfl ?_
  refine zEV.iload_n dX7_at_10 rfl 1 rfl ?_
  refine zEV.iload_n dX7_at_11 rfl 2 rfl ?_
  obtain ⟨q2, hq2, h⟩ := bind_yes h
  refine zEV.callVi (kX7_isLine (a1) (a2)  q1 q2 hq2) (by decide) rfl rfl wm_RX7_170 wc_X7_isLine hy_X7_isLine rfl ⟨Nat.le_of_ble_eq_true rfl, Nat.le_of_ble_eq_true rfl⟩ rfl (Nat.le_of_ble_eq_true rfl) dX7_at_12 ?_
  refine zEV.if_eq 34 dX7_at_15 (by decide) (fun c3 => ?_) (fun c3 => ?_)
  · rw [if_pos c3] at h
    refine zEV.iconst (v := (-1)) dX7_at_34 rfl ?_
    cases h
    exact zEV.iret rfl dX7_at_35
  · rw [if_neg c3] at h
    refine zEV.iload_n dX7_at_18 rfl 3 rfl ?_
    refine zEV.iconst (v := 0) dX7_at_19 rfl ?_
    refine zEV.aload_n dX7_at_20 rfl 0 rfl ?_
    refine zEV.gfr rfl inz7 0 (by decide) wf_RX7_9 (by decide) rfl rfl dX7_at_21 ?_
    refine zEV.iconst (v := 0) dX7_at_24 rfl ?_
    obtain ⟨g4, h⟩ := ite_no h
    refine zEV.iald (by decide) rfl g4 dX7_at_25 ?_
    refine zEV.iconst (v := 1) dX7_at_26 rfl ?_
    refine zEV.isub dX7_at_27 ?_
    obtain ⟨q5, hq5, h⟩ := bind_yes h
    refine zEV.callSi (kX7_in (a3) (0) (((q2.2.1 159 (Int32.toNatClampNeg 0)) - 1))  q2.2 q5 hq5) wm_RX7_65 wc_X7_in hy_X7_in rfl ⟨Nat.le_of_ble_eq_true rfl, Nat.le_of_ble_eq_true rfl⟩ rfl (Nat.le_of_ble_eq_true rfl) dX7_at_28 ?_
    refine zEV.if_ne 36 dX7_at_31 (by decide) (fun c6 => ?_) (fun c6 => ?_)
    · rw [if_neg c6] at h
      refine zEV.iconst (v := 0) dX7_at_36 rfl ?_
      refine zEV.istore dX7_at_37 (Nat.le_of_ble_eq_true rfl) rfl ?_
      exact zEV.perm [1, 2, 3, 4, 0] rfl (tX7_at_39 a1 a2 a3 zFU (0) q5.2 q h)
    · rw [if_pos c6] at h
      refine zEV.iconst (v := (-1)) dX7_at_34 rfl ?_
      cases h
      exact zEV.iret rfl dX7_at_35
theorem kX7_at (a1 : Int32) (a2 : Int32) (a3 : Int32) (M : zMM) (q : Int32 × zMM) (h : fX7_at a1 a2 a3 M = some q) : zCN yX7_at iX7_at [.inr (.inr 158), .inl a1, .inl a2, .inl a3] M (some (.inl q.1), q.2) :=
  zCN.of (by decide) rfl rfl (Nat.le_of_ble_eq_true rfl) (zEV.perm [0, 1, 2, 3] rfl (tX7_at_0 a1 a2 a3 M q h))
